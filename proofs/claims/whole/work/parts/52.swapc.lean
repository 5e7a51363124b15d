variable {Nq : Nat}
/-! ===== call: swaps ===== -/
theorem ct_split (A l : Nat → Bool) : ∀ n, fb_ct (fun p => A p && !l p) n + fb_ct (fun p => A p && l p) n = fb_ct A n
  | 0 => rfl
  | n + 1 => by
    have := ct_split A l n
    simp only [fb_ct_succ]
    cases A n <;> cases l n <;> simp <;> omega
theorem crd_worn {w : Nat → Int32} {n p : Nat} (hp : p < n) (h10 : n ≤ 10) (h : crd w n p = true) : exB (fun q => decide (w q = nI p)) n = true := by
  cases c : exB (fun q => decide (w q = nI p)) n
  · obtain ⟨i, hi, e⟩ := exB_t.mp h
    have e : orb w n p (i + 1) = nI p := of_decide_eq_true e
    have e1 : orb w n p 1 = -1 := by
      rw [orb_S]
      show (if nI p = -1 then -1 else wrr w n (nI p)) = -1
      rw [if_neg (nI_m1 (by omega))]
      exact fnd_no (fun j hj => by rw [exB_f.mp c j hj]; decide)
    have := orb_m1 e1 i
    rw [show 1 + i = i + 1 by omega, e] at this
    exact absurd this (nI_m1 (by omega))
  · rfl
theorem cr_swaps {g : gG} (R : RE Nq g) {F : Nat} (hF : 11000 < F) : Cr Nq g (fX11_swaps F 0 (gH g)) (fun g => fX12_swaps F 206 (gH g)) := by
  have R0 := R; obtain ⟨n, k, s, f, R⟩ := R
  have V := R.1.1
  obtain ⟨rn, h10, rk, h12⟩ := R.rv
  have i1 := R.1.w.1
  have i2 := R.1.w.2.1
  have cl := cl_swaps V hF i1 i2
  have rs := rl_swaps (sF g 206 0 (nI 0)) rn h10 rk h12 hF i1 i2
  have hL : fb_ct (fun p => !decide (gA g 207 (12 + 6 * p + 2) = nI p) && led0 (fun q => gA g 207 (12 + 6 * q + 2)) n p) n = fb_ct (fun p => swA (fun q => gA g 207 (12 + 6 * q + 2)) (fun h => gA g 207 (272 + h)) n k p && led0 (fun q => gA g 207 (12 + 6 * q + 2)) n p) n := by
    refine fb_ct_cong (fun p hp => ?_)
    cases c : led0 (fun q => gA g 207 (12 + 6 * q + 2)) n p
    · rw [Bool.and_false, Bool.and_false]
    · have hc : crd (fun q => gA g 207 (12 + 6 * q + 2)) n p = true := by
        unfold led0 at c
        cases h : crd (fun q => gA g 207 (12 + 6 * q + 2)) n p
        · rw [h] at c; simp at c
        · rfl
      have hw := crd_worn hp h10 hc
      unfold swA lstB
      rw [hw]
      simp
  have hs := ct_split (swA (fun q => gA g 207 (12 + 6 * q + 2)) (fun h => gA g 207 (272 + h)) n k) (led0 (fun q => gA g 207 (12 + 6 * q + 2)) n) n
  rw [hL, pk_sub (by omega), show fb_ct (swA (fun q => gA g 207 (12 + 6 * q + 2)) (fun h => gA g 207 (272 + h)) n k) n - fb_ct (fun p => swA (fun q => gA g 207 (12 + 6 * q + 2)) (fun h => gA g 207 (272 + h)) n k p && led0 (fun q => gA g 207 (12 + 6 * q + 2)) n p) n = fb_ct (fun p => swA (fun q => gA g 207 (12 + 6 * q + 2)) (fun h => gA g 207 (272 + h)) n k p && !led0 (fun q => gA g 207 (12 + 6 * q + 2)) n p) n by omega] at cl
  refine Cr_of R0 (t := nI 0) cl ?_
  simp (disch := first | omega | assumption | exact isSt6 | exact isSt18 | exact isSt30) only [fX12_swaps, fw_206_0, bdS, ck_t, ck_T, cb_0, cb_1, ab_jn, if_true, if_false]
  exact rs
