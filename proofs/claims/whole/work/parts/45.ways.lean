variable {Nq : Nat}
/-! ===== ways ===== -/
theorem ct_le {P : Nat → Bool} {n : Nat} (h : ∀ i, n ≤ i → P i = false) : ∀ N, fb_ct P N ≤ n
  | 0 => Nat.zero_le _
  | N + 1 => by
    have ih := ct_le h N
    rw [fb_ct_succ]
    by_cases c : n ≤ N
    · rw [h N c]; simp; exact ih
    · have := fb_ct_le P N
      split <;> omega
theorem pc_st {P : Nat → Bool} {n : Nat} (hn : n ≤ 10) : pc (nI (st P n)) ≤ n := by
  unfold pc
  refine ct_le (fun i hi => ?_) 31
  rw [bt_st (by omega), decide_eq_false (by omega), Bool.false_and]
def dd : Nat → Int32 × Int32
  | 0 => (nI 0, nI 1)
  | i + 1 => ((dd i).2, nI i * ((dd i).2 + (dd i).1))
theorem cl_allElse {d : Nat} (hd : d ≤ 10) (h : ab_H) {F : Nat} (hF : 11000 < F) : fX11_allElsewhere F (nI d) h = some (dd d).2 := by
  unfold fX11_allElsewhere
  have h0 := lp0 (L := fun F' i (a : Int32 × Int32) => fX11_allElsewhere_6 (nI d) h F' a.1 a.2 (i + nI 1)) (n := d) dd (some (dd d).2) ?_ ?_ F (by omega)
  · rw [nI_add] at h0; exact h0
  · intro F i hi
    have e1 : nI (i + 1) - nI 1 = nI i := by rw [pk_sub (by omega)]; congr 1
    have e2 : i + 1 ≤ d := by omega
    simp (disch := omega) only [fX11_allElsewhere_6, ab_bd_some, ck_t, ck_T, cb_0, cb_1, ab_jn, if_true, if_false, e1, e2, dd, nI_add, pk_mul, nI_ltI, nI_leI, nI_eq]
  · intro F
    simp (disch := omega) only [fX11_allElsewhere_6, ab_bd_some, ck_t, ck_T, cb_0, cb_1, ab_jn, if_true, if_false, show ¬ (d + 1 ≤ d) by omega, nI_add, pk_mul, nI_ltI, nI_leI, nI_eq]
theorem rf_none {d : Nat} (hd : d ≤ 10) (h : ab_H) {F : Nat} (hF : 11000 < F) : fX12_none F (nI d) h = some (dd d).2 := by
  unfold fX12_none
  by_cases c : d = 0
  · subst c; rw [if_pos nI_0]; rfl
  rw [if_neg (nI_ne0 (by omega) (by omega))]
  have h0 := lp0 (L := fun F' i (a : Int32 × Int32) => fX12_none_12 (nI d) h F' a.1 a.2 (i + nI 2)) (n := d - 1) (fun i => dd (i + 1)) (some (dd d).2) ?_ ?_ F (by omega)
  · rw [nI_add] at h0
    have e : dd (0 + 1) = (nI 1, nI 0) := by decide
    rw [e] at h0; exact h0
  · intro F i hi
    have e1 : nI (i + 2) - nI 1 = nI (i + 1) := by rw [pk_sub (by omega)]; congr 1
    have e2 : i + 2 ≤ d := by omega
    have e3 : dd (i + 1 + 1) = ((dd (i + 1)).2, nI (i + 1) * ((dd (i + 1)).2 + (dd (i + 1)).1)) := rfl
    have e4 : (dd (i + 1)).2 + (dd (i + 1)).1 = (dd (i + 1)).1 + (dd (i + 1)).2 := Int32.add_comm _ _
    rw [e3, e4]
    have e5 : nI i + nI 2 + nI 1 = nI (i + 1) + nI 2 := by simp only [nI_add]
    show fX12_none_12 (nI d) h (F + 1) (dd (i + 1)).1 (dd (i + 1)).2 (nI i + nI 2) = _
    rw [fX12_none_12, if_pos (by rw [nI_add]; exact nI_le e2 (by omega)), e5, nI_add, e1]
  · intro F
    show fX12_none_12 (nI d) h (F + 1) (dd (d - 1 + 1)).1 (dd (d - 1 + 1)).2 (nI (d - 1) + nI 2) = _
    rw [fX12_none_12, if_neg (by rw [nI_add]; exact nI_ge (by omega) (by omega)), show d - 1 + 1 = d by omega]
def cho (h : Int32) (k : Nat) : Int32 := it (fun i a => (a * (h - nI i)) / (nI i + nI 1)) (nI 1) k
theorem n_i1 {i : Nat} (h : i < 100) : (¬ nI i + nI 1 = 0) ↔ True := by rw [nI_add]; exact ⟨fun _ => trivial, fun _ => nI_ne0 (by omega) (by omega)⟩
theorem cl_chosen (hh : Int32) {k : Nat} (hk : k ≤ 10) (h : ab_H) {F : Nat} (hF : 11000 < F) : fX11_chosen F hh (nI k) h = some (cho hh k) := by
  unfold fX11_chosen
  refine lp0 (L := fun F' i (a : Int32) => fX11_chosen_4 hh (nI k) h F' a i) (n := k) (fun i => cho hh i) (some (cho hh k)) ?_ ?_ F (by omega)
  · intro F i hi
    have := n_i1 (show i < 100 by omega)
    have e : cho hh (i + 1) = (cho hh i * (hh - nI i)) / (nI i + nI 1) := rfl
    show fX11_chosen_4 hh (nI k) h (F + 1) (cho hh i) (nI i) = _
    rw [fX11_chosen_4, if_pos (nI_lt hi (by omega)), ab_ck_pos (this.mpr trivial), e, nI_add]
  · intro F
    show fX11_chosen_4 hh (nI k) h (F + 1) (cho hh k) (nI k) = _
    rw [fX11_chosen_4, if_neg (nI_nlt (Nat.le_refl k) (by omega))]
theorem rl_ways (hh : Int32) {k : Nat} (hk : k ≤ 10) (h : ab_H) (K : Int32 → Option (Int32 × ab_H)) {F : Nat} (hF : 11000 < F) : fX12_ways_46 F (nI k) hh h K F (nI 1) (nI 0) = K (cho hh k) := by
  refine lp0 (L := fun F' i (a : Int32) => fX12_ways_46 F (nI k) hh h K F' a i) (n := k) (fun i => cho hh i) (K (cho hh k)) ?_ ?_ F (by omega)
  · intro F' i hi
    have := n_i1 (show i < 100 by omega)
    have e : cho hh (i + 1) = (cho hh i * (hh - nI i)) / (nI i + nI 1) := rfl
    show fX12_ways_46 F (nI k) hh h K (F' + 1) (cho hh i) (nI i) = _
    rw [fX12_ways_46, if_pos (nI_lt hi (by omega)), ab_ck_pos (this.mpr trivial), e, nI_add]
  · intro F'
    show fX12_ways_46 F (nI k) hh h K (F' + 1) (cho hh k) (nI k) = _
    rw [fX12_ways_46, if_neg (nI_nlt (Nat.le_refl k) (by omega))]
theorem cq_ways {g : gG} (R : RE Nq g) (x : Int32) {F : Nat} (hF : 11000 < F) : Cq Nq g (fX11_ways F 0 x (gH g)) (fun g => fX12_ways F 206 x (gH g)) [eAr] := by
  have R0 := R; obtain ⟨n, k, s, f, R⟩ := R
  have V := R.1.1
  obtain ⟨rn, h10, rk, h12⟩ := R.rv
  refine Cq_of R0 ?_
  have hh : ∀ t, fX12_holders F 206 (gH (sF g 206 0 t)) = some (nI (st (fun p => decide (¬ gA g 207 (12 + 6 * p + 3) = -1)) n)) := fun t => rf_holders (sF g 206 0 t) rn h10 hF
  have tc := cl_ticketHolders V hF
  have sl : st (fun p => decide (¬ gA g 207 (12 + 6 * p + 3) = -1)) n < 2 ^ 10 := st_le h10
  have bc := cl_bitCount (gH g) (show st (fun p => decide (¬ gA g 207 (12 + 6 * p + 3) = -1)) n < 4096 by omega)
  have pl : pc (nI (st (fun p => decide (¬ gA g 207 (12 + 6 * p + 3) = -1)) n)) ≤ n := pc_st h10
  have rb := fun t => rf_bits (nI (st (fun p => decide (¬ gA g 207 (12 + 6 * p + 3) = -1)) n)) (gH (sF g 206 0 t)) hF
  generalize nI (st (fun p => decide (¬ gA g 207 (12 + 6 * p + 3) = -1)) n) = Sx at hh tc bc pl rb
  rcases isIn_or (b := 10) (by decide) x with e | ⟨c, hc, rfl⟩
  · refine ⟨.inr eAr, nI 0, nI 1, ?_, ?_, 0, by decide, rfl, rfl⟩
    · simp (disch := first | omega | assumption | exact isSt6 | exact isSt18 | exact isSt30) only [fX11_ways, io_s, fr_0_1, bdS, ck_t, ck_T, cb_0, cb_1, ab_jn, if_true, if_false, cl_needNumber, e, bx_r, reduceCtorEq, m1_ne, and_true, true_and, and_false, false_and, not_true_eq_false, not_false_eq_true, ne_eq, decide_true, decide_false, Bool.false_eq_true, ite_true, ite_false, if_true, if_false, Nat.add_zero, Bool.and_true, Bool.true_and, Bool.and_false, Bool.false_and, Bool.or_true, Bool.true_or, Bool.or_false, Bool.false_or, decide_not, Bool.not_true, Bool.not_false, or_true, true_or, or_false, false_or, or_self, and_self, decide_eq_true_eq]
    · simp (disch := first | omega | assumption | exact isSt6 | exact isSt18 | exact isSt30) only [fX12_ways, io_206, fw_206_0, fi_206_0, bdS, ck_t, ck_T, cb_0, cb_1, ab_jn, if_true, if_false, rf_isIn, e, bI_0, hh, rb, gF_sF1, upd_1, nI10, reduceCtorEq, m1_ne, and_true, true_and, and_false, false_and, not_true_eq_false, not_false_eq_true, ne_eq, decide_true, decide_false, Bool.false_eq_true, ite_true, ite_false, if_true, if_false, Nat.add_zero, Bool.and_true, Bool.true_and, Bool.and_false, Bool.false_and, Bool.or_true, Bool.true_or, Bool.or_false, Bool.false_or, decide_not, Bool.not_true, Bool.not_false, or_true, true_or, or_false, false_or, or_self, and_self, decide_eq_true_eq]
  have ec := isIn_c (b := 10) (by decide) hc
  have nn : ∀ h, fX11_needNumber (nI c) (nI 0) (nI 10) h = some (.inl ()) := fun h => by rw [cl_needNumber, ec]; rfl
  have i2 : fX12_isIn (nI c) (nI 0) (nI 10) (gH g) = some (bI true) := by rw [rf_isIn, ec]
  by_cases c1 : c ≤ pc Sx
  · have e1 : nI (pc Sx) - nI c = nI (pc Sx - c) := pk_sub c1
    have c2 := cl_chosen (nI (pc Sx)) hc (gH g) hF
    have c3 := cl_allElse (d := pc Sx - c) (by omega) (gH g) hF
    have c4 := rf_none (d := pc Sx - c) (by omega) (gH (sF g 206 0 (nI 0))) hF
    have l1 : nI c ≤ nI (pc Sx) := nI_le c1 (by omega)
    apply ag_ok (v := cho (nI (pc Sx)) c * (dd (pc Sx - c)).2)
    · simp (disch := first | omega | assumption | exact isSt6 | exact isSt18 | exact isSt30) only [fX11_ways, io_s, fr_0_1, bdS, ck_t, ck_T, cb_0, cb_1, ab_jn, if_true, if_false, nn, bx_l, io_s, tc, bc, l1, c2, e1, c3, reduceCtorEq, m1_ne, and_true, true_and, and_false, false_and, not_true_eq_false, not_false_eq_true, ne_eq, decide_true, decide_false, Bool.false_eq_true, ite_true, ite_false, if_true, if_false, Nat.add_zero, Bool.and_true, Bool.true_and, Bool.and_false, Bool.false_and, Bool.or_true, Bool.true_or, Bool.or_false, Bool.false_or, decide_not, Bool.not_true, Bool.not_false, or_true, true_or, or_false, false_or, or_self, and_self, decide_eq_true_eq]
    · simp (disch := first | omega | assumption | exact isSt6 | exact isSt18 | exact isSt30) only [fX12_ways, io_206, fw_206_0, fi_206_0, bdS, ck_t, ck_T, cb_0, cb_1, ab_jn, if_true, if_false, i2, bI_0, hh, rb, gF_sF1, upd_1, nI00, l1, rl_ways _ hc _ _ hF, e1, c4, reduceCtorEq, m1_ne, and_true, true_and, and_false, false_and, not_true_eq_false, not_false_eq_true, ne_eq, decide_true, decide_false, Bool.false_eq_true, ite_true, ite_false, if_true, if_false, Nat.add_zero, Bool.and_true, Bool.true_and, Bool.and_false, Bool.false_and, Bool.or_true, Bool.true_or, Bool.or_false, Bool.false_or, decide_not, Bool.not_true, Bool.not_false, or_true, true_or, or_false, false_or, or_self, and_self, decide_eq_true_eq]
  · have l1 : ¬ nI c ≤ nI (pc Sx) := nI_ge (by omega) (by omega)
    apply ag_ok (v := nI 0)
    · simp (disch := first | omega | assumption | exact isSt6 | exact isSt18 | exact isSt30) only [fX11_ways, io_s, fr_0_1, bdS, ck_t, ck_T, cb_0, cb_1, ab_jn, if_true, if_false, nn, bx_l, io_s, tc, bc, l1, reduceCtorEq, m1_ne, and_true, true_and, and_false, false_and, not_true_eq_false, not_false_eq_true, ne_eq, decide_true, decide_false, Bool.false_eq_true, ite_true, ite_false, if_true, if_false, Nat.add_zero, Bool.and_true, Bool.true_and, Bool.and_false, Bool.false_and, Bool.or_true, Bool.true_or, Bool.or_false, Bool.false_or, decide_not, Bool.not_true, Bool.not_false, or_true, true_or, or_false, false_or, or_self, and_self, decide_eq_true_eq]
    · simp (disch := first | omega | assumption | exact isSt6 | exact isSt18 | exact isSt30) only [fX12_ways, io_206, fw_206_0, fi_206_0, bdS, ck_t, ck_T, cb_0, cb_1, ab_jn, if_true, if_false, i2, bI_0, hh, rb, gF_sF1, upd_1, nI00, l1, reduceCtorEq, m1_ne, and_true, true_and, and_false, false_and, not_true_eq_false, not_false_eq_true, ne_eq, decide_true, decide_false, Bool.false_eq_true, ite_true, ite_false, if_true, if_false, Nat.add_zero, Bool.and_true, Bool.true_and, Bool.and_false, Bool.false_and, Bool.or_true, Bool.true_or, Bool.or_false, Bool.false_or, decide_not, Bool.not_true, Bool.not_false, or_true, true_or, or_false, false_or, or_self, and_self, decide_eq_true_eq]
