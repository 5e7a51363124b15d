variable {Nq : Nat}
/-! ===== the class: rows of wishes, one more PERSON ===== -/
theorem flW_lo {w p : Nat} : ∀ k j i m o, o < j → flW w p k j i m (72 + 10 * p + o) = m (72 + 10 * p + o)
  | 0, _, _, _, _, _ => rfl
  | k + 1, j, i, m, o, h => by
    rw [flW]
    split
    · exact flW_lo k j (i + 1) m o h
    · rw [flW_lo k (j + 1) (i + 1) _ o (by omega), upd_2 _ _ (by omega)]
theorem flW_0 {p : Nat} : ∀ k i m o, i ≤ o → o < i + k → flW 0 p k i i m (72 + 10 * p + o) = nI o
  | 0, i, m, o, h1, h2 => by omega
  | k + 1, i, m, o, h1, h2 => by
    rw [flW, if_neg (by rw [Nat.zero_testBit]; decide)]
    by_cases c : o = i
    · rw [flW_lo _ _ _ _ _ (by omega), c, upd_1]
    · exact flW_0 k (i + 1) _ o (by omega) (by omega)
theorem fi_28 {S : gG} {N : Nat} (h : gF S 18 0 = nI N) (A : Nat → Int32) : ab_fi (gH (sA S (18 + 10) A)) 18 8 0 = some (nI N) := by rw [fi_s0 _ st18, gF_sA, h]
theorem cl_fill {S : gG} {w p N : Nat} {m0 : Nat → Int32} (hN : N ≤ 10) (h0 : gF S 18 0 = nI N) (hp : p < 10) {F : Nat} : ∀ k j i m A Fu, i + k = N → k < Fu → Fil w p N j i m m0 → (∀ o, o < j → A (p * 10 + o) = m (72 + 10 * p + o)) → ∃ A', fX8_setWishes_59 F 18 (nI w) Fu (nI (p * 10 + j)) (nI i) (gH (sA S (18 + 10) A)) = some (gH (sA S (18 + 10) A')) ∧ (∀ o, o < N → A' (p * 10 + o) = flW w p (10 - i) j i m (72 + 10 * p + o)) ∧ ∀ q, (q < p * 10 ∨ p * 10 + 10 ≤ q) → A' q = A q := by
  intro k
  induction k with
  | zero =>
    intro j i m A Fu hi hFu W hA
    obtain ⟨F', rfl⟩ : ∃ F', Fu = F' + 1 := ⟨Fu - 1, by omega⟩
    have e : i = N := by omega
    subst e
    have jN : j = i := by
      have c := ct_n hN W.2.2.1 (Nat.le_refl i) hN
      have := W.2.1
      omega
    refine ⟨A, ?_, fun o ho => ?_, fun _ _ => rfl⟩
    · rw [fX8_setWishes_59]
      refine (bd_e (fi_28 h0 A)).trans ?_
      exact if_neg (fun h => by rw [nI_ltI (by omega) (by omega)] at h; omega)
    · rw [flW_lo _ _ _ _ _ (by omega)]; exact hA o (by omega)
  | succ k ih =>
    intro j i m A Fu hi hFu W hA
    obtain ⟨F', rfl⟩ : ∃ F', Fu = F' + 1 := ⟨Fu - 1, by omega⟩
    have lt : (nI i : Int32) < nI N := nI_lt (by omega) (by omega)
    have hs := cl_hasX (nI w) (gH (sA S (18 + 10) A)) (show i < 32 by omega)
    rw [bt_nI' (by omega)] at hs
    obtain ⟨d, hd⟩ : ∃ d, 10 - i = d + 1 := ⟨9 - i, by omega⟩
    have hd2 : 10 - (i + 1) = d := by omega
    rw [hd, flW]
    cases c : w.testBit i
    · have jl := (W.j hN (by omega) c).1 (by omega)
      rw [c] at hs
      obtain ⟨A', e1, e2, e3⟩ := ih (j + 1) (i + 1) (upd m (72 + 10 * p + j) (nI i)) (upd A (p * 10 + j) (nI i)) F' (by omega) (by omega) (W.step hN (by omega) c) (fun o ho => by
        by_cases c2 : o = j
        · rw [c2, upd_1, upd_1]
        · rw [upd_2 _ _ (by omega), upd_2 _ _ (by omega)]; exact hA o (by omega))
      rw [hd2] at e2
      refine ⟨A', ?_, fun o ho => ?_, fun q hq => by rw [e3 q hq, upd_2 _ _ (by omega)]⟩
      · rw [fX8_setWishes_59]
        refine (bd_e (fi_28 h0 A)).trans ?_
        refine (if_pos lt).trans ?_
        refine (bd_e hs).trans ?_
        refine (if_pos (bI_0.mpr rfl)).trans ?_
        refine (bd_e (fr_s16 _ st18)).trans ?_
        refine (bd_e (iw_s10 _ _ st18 (by omega))).trans ?_
        rw [gA_sA1, sA_sA, nI_add, nI_add]
        exact e1
      · rw [if_neg (show ¬ false = true by decide)]; exact e2 o ho
    · rw [c] at hs
      obtain ⟨A', e1, e2, e3⟩ := ih j (i + 1) m A F' (by omega) (by omega) (W.skip c) hA
      rw [hd2] at e2
      refine ⟨A', ?_, fun o ho => ?_, e3⟩
      · rw [fX8_setWishes_59]
        refine (bd_e (fi_28 h0 A)).trans ?_
        refine (if_pos lt).trans ?_
        refine (bd_e hs).trans ?_
        refine (if_neg (show ¬ bI true = 0 by decide)).trans ?_
        rw [nI_add]
        exact e1
      · rw [if_pos rfl]; exact e2 o ho
def adW (n : Nat) : Nat → Nat → (Nat → Int32) → (Nat → Int32)
  | 0, _, A => A
  | e + 1, i, A => adW n e (i + 1) (upd A (i * 10 + n) (nI n))
theorem adW_o {n : Nat} : ∀ e i A q, (∀ r, i ≤ r → r < i + e → q ≠ r * 10 + n) → adW n e i A q = A q
  | 0, _, _, _, _ => rfl
  | e + 1, i, A, q, h => by
    rw [adW, adW_o e (i + 1) _ q (fun r h1 h2 => h r (by omega) (by omega)), upd_2 _ _ (h i (by omega) (by omega))]
theorem adW_i {n : Nat} : ∀ e i A r, i ≤ r → r < i + e → adW n e i A (r * 10 + n) = nI n
  | 0, i, A, r, h1, h2 => by omega
  | e + 1, i, A, r, h1, h2 => by
    rw [adW]
    by_cases c : r = i
    · rw [adW_o e (i + 1) _ _ (fun q h3 h4 => by omega), c, upd_1]
    · exact adW_i e (i + 1) _ r (by omega) (by omega)
theorem cl_ad46 {S : gG} {n : Nat} (hn : n < 10) {F : Nat} (K : ab_H → Option ab_H) : ∀ e i A Fu, i + e = n → e < Fu → fX8_addPerson_46 F 18 (nI n) K Fu (nI i) (gH (sA S (18 + 10) A)) = K (gH (sA S (18 + 10) (adW n e i A))) := by
  intro e
  induction e with
  | zero =>
    intro i A Fu hi hFu
    obtain ⟨F', rfl⟩ : ∃ F', Fu = F' + 1 := ⟨Fu - 1, by omega⟩
    rw [fX8_addPerson_46]
    exact if_neg (fun h => by rw [nI_ltI (by omega) (by omega)] at h; omega)
  | succ e ih =>
    intro i A Fu hi hFu
    obtain ⟨F', rfl⟩ : ∃ F', Fu = F' + 1 := ⟨Fu - 1, by omega⟩
    rw [fX8_addPerson_46]
    refine (if_pos (nI_lt (by omega) (by omega))).trans ?_
    refine (bd_e (fr_s16 _ st18)).trans ?_
    rw [pk_mul, nI_add, nI_add]
    refine (bd_e (iw_s10 _ _ st18 (by omega))).trans ?_
    rw [gA_sA1, sA_sA]
    exact ih (i + 1) _ F' (by omega) (by omega)
theorem cl_addP {G : gG} {m : Nat → Int32} {n k : Nat} (S : SC G 18 m n k) (I : Ix m n) (hn : n < 10) (x y : Int32) {F : Nat} (hF : 11000 < F) : ∃ G', fX8_addPerson F 18 x y (gH G) = some (gH G') ∧ Fs G G' 18 ∧ SC G' 18 (adP m n x y) (n + 1) k := by
  obtain ⟨V, k1, m3, m4, X, Lo, B⟩ := S
  obtain ⟨hx, q0, h10, q1, h12, e3, e4, e5, e6, e7, e8, e11, e9, e10⟩ := V
  let S1 := sA (sA (sA (sF G 18 0 (nI (n + 1))) (18 + 3) (upd (gA G (18 + 3)) n x)) (18 + 4) (upd (gA G (18 + 4)) n y)) (18 + 5) (upd (gA G (18 + 5)) n (nI n))
  have s0 : gF S1 18 = upd (gF G 18) 0 (nI (n + 1)) := by
    show gF (sA (sA (sA (sF _ _ _ _) _ _) _ _) _ _) 18 = _
    rw [gF_sA, gF_sA, gF_sA, gF_sF1]
  have sA1 : gA S1 (18 + 10) = gA G (18 + 10) := by show gA (sA (sA (sA _ _ _) _ _) _ _) _ = _; rw [gA_sA2 _ _ (by omega), gA_sA2 _ _ (by omega), gA_sA2 _ _ (by omega)]; rfl
  obtain ⟨A', f1, f2, f3⟩ := cl_fill (S := S1) (w := 0) (p := n) (N := n + 1) (m0 := m) (by omega) (by rw [s0, upd_1]) hn (F := F) (n + 1) 0 0 m (adW n n 0 (gA G (18 + 10))) F (by omega) (by omega) ((Wi.zero m).f (by omega)) (fun o ho => absurd ho (Nat.not_lt_zero o))
  have aW : ∀ o, o < n + 1 → A' (n * 10 + o) = nI o := fun o ho => by rw [f2 o ho]; exact flW_0 10 0 m o (by omega) (by omega)
  have aO : ∀ p o, p < n → o < n + 1 → A' (p * 10 + o) = m (72 + 10 * p + o) := fun p o hp ho => by
    rw [f3 _ (by omega)]
    by_cases c : o = n
    · rw [c, adW_i n 0 _ p (by omega) (by omega), I.2.2.2.2.2 p n hp (by omega) hn]
    · rw [adW_o n 0 _ _ (fun r h1 h2 => by omega), e10 p o hp (by omega)]
  have ar : ∀ r, r < 12 → r ≠ 3 → r ≠ 4 → r ≠ 5 → r ≠ 10 → gA (sA S1 (18 + 10) A') (18 + r) = gA G (18 + r) := fun r h1 h2 h3 h4 h5 => by
    show gA (sA (sA (sA (sA _ _ _) _ _) _ _) _ _) _ = _
    rw [gA_sA2 _ _ (by omega), gA_sA2 _ _ (by omega), gA_sA2 _ _ (by omega), gA_sA2 _ _ (by omega)]; rfl
  have a3 : gA (sA S1 (18 + 10) A') (18 + 3) = upd (gA G (18 + 3)) n x := by
    show gA (sA (sA (sA (sA _ _ _) _ _) _ _) _ _) _ = _
    rw [gA_sA2 _ _ (by omega), gA_sA2 _ _ (by omega), gA_sA2 _ _ (by omega), gA_sA1]
  have a4 : gA (sA S1 (18 + 10) A') (18 + 4) = upd (gA G (18 + 4)) n y := by
    show gA (sA (sA (sA (sA _ _ _) _ _) _ _) _ _) _ = _
    rw [gA_sA2 _ _ (by omega), gA_sA2 _ _ (by omega), gA_sA1]
  have a5 : gA (sA S1 (18 + 10) A') (18 + 5) = upd (gA G (18 + 5)) n (nI n) := by
    show gA (sA (sA (sA (sA _ _ _) _ _) _ _) _ _) _ = _
    rw [gA_sA2 _ _ (by omega), gA_sA1]
  obtain ⟨z0, z1, z2, z3, z4, z5⟩ := ad6_i m n x y
  have lo : ∀ p r, p < n → r < 6 → adP m n x y (12 + 6 * p + r) = m (12 + 6 * p + r) := fun p r hp hr => adP_lo m x y hn (by omega)
  have inn : ∀ r, r < 6 → adP m n x y (12 + 6 * n + r) = ad6 m n x y (12 + 6 * n + r) := fun r hr => adP_in m x y hn hr
  obtain ⟨b1, b2, b3, b4⟩ := B n (by omega) hn
  refine ⟨sA S1 (18 + 10) A', ?_, ?_, ⟨st18, ?_, by omega, ?_, h12, ?_, ?_, ?_, ?_, ?_, ?_, ?_, ?_, ?_⟩, k1, adP_3 _ _ _ _, ?_, ?_, ?_, ?_⟩
  · unfold fX8_addPerson
    refine (bd_e ((fi_s0 _ st18).trans (congrArg some q0))).trans ?_
    refine (if_pos (nI_lt hn (by omega))).trans ?_
    refine (bd_e ((fi_s0 _ st18).trans (congrArg some q0))).trans ?_
    rw [nI_add]
    refine (bd_e (fw_s0 _ _ st18)).trans ?_
    refine (bd_e (fr_s9 _ st18)).trans ?_
    refine (bd_e (iw_s3 _ _ st18 hn)).trans ?_
    refine (bd_e (fr_s10 _ st18)).trans ?_
    refine (bd_e (iw_s4 _ _ st18 hn)).trans ?_
    refine (bd_e (fr_s11 _ st18)).trans ?_
    refine (bd_e (iw_s5 _ _ st18 hn)).trans ?_
    have es : sA (sA (sA (sF G 18 0 (nI (n + 1))) (18 + 3) (upd (gA (sF G 18 0 (nI (n + 1))) (18 + 3)) n x)) (18 + 4) (upd (gA (sA (sF G 18 0 (nI (n + 1))) (18 + 3) (upd (gA (sF G 18 0 (nI (n + 1))) (18 + 3)) n x)) (18 + 4)) n y)) (18 + 5) (upd (gA (sA (sA (sF G 18 0 (nI (n + 1))) (18 + 3) (upd (gA (sF G 18 0 (nI (n + 1))) (18 + 3)) n x)) (18 + 4) (upd (gA (sA (sF G 18 0 (nI (n + 1))) (18 + 3) (upd (gA (sF G 18 0 (nI (n + 1))) (18 + 3)) n x)) (18 + 4)) n y)) (18 + 5)) n (nI n)) = sA S1 (18 + 10) (gA G (18 + 10)) := by
      rw [← sA1, sA_id]
      show _ = sA (sA (sA _ _ _) _ _) _ _
      rw [gA_sA2 _ _ (show 18 + 5 ≠ 18 + 4 by omega), gA_sA2 _ _ (show 18 + 5 ≠ 18 + 3 by omega), gA_sA2 _ _ (show 18 + 4 ≠ 18 + 3 by omega), gA_sF, gA_sF, gA_sF]
    rw [es]
    refine (cl_ad46 hn _ n 0 _ F (by omega) (by omega)).trans ?_
    refine (bd_e (fr_s16 _ st18)).trans ?_
    refine (ck_e (io_s _ st18)).trans ?_
    refine (bd_e (x := gH (sA S1 (18 + 10) A')) ?_).trans rfl
    unfold fX8_setWishes
    obtain ⟨F', rfl⟩ : ∃ F', F = F' + 1 := ⟨F - 1, by omega⟩
    rw [fX8_setWishes_12]
    refine (if_neg (by decide)).trans ?_
    rw [pk_mul]
    exact f1
  · exact ((((Fs_F0 (g := G) (x := 18) (k := 0) (v := nI (n + 1))).trans (Fs_A (r := 3) (by decide))).trans (Fs_A (r := 4) (by decide))).trans (Fs_A (r := 5) (by decide))).trans (Fs_A (r := 10) (by decide))
  · show gF S1 18 0 = _; rw [s0, upd_1]
  · show gF S1 18 1 = _; rw [s0, upd_2 _ _ (by omega)]; exact q1
  · intro p hp
    rw [a3]
    by_cases c : p = n
    · rw [c, upd_1]; exact ((inn 0 (by omega)).trans z0).symm
    · rw [upd_2 _ _ c]; exact (e3 p (by omega)).trans (lo p 0 (by omega) (by omega)).symm
  · intro p hp
    rw [a4]
    by_cases c : p = n
    · rw [c, upd_1]; exact ((inn 1 (by omega)).trans z1).symm
    · rw [upd_2 _ _ c]; exact (e4 p (by omega)).trans (lo p 1 (by omega) (by omega)).symm
  · intro p hp
    rw [a5]
    by_cases c : p = n
    · rw [c, upd_1]; exact ((inn 2 (by omega)).trans z2).symm
    · rw [upd_2 _ _ c]; exact (e5 p (by omega)).trans (lo p 2 (by omega) (by omega)).symm
  · intro p hp
    rw [ar 6 (by omega) (by omega) (by omega) (by omega) (by omega)]
    by_cases c : p = n
    · rw [c, b1]; exact ((inn 3 (by omega)).trans z3).symm
    · exact (e6 p (by omega)).trans (lo p 3 (by omega) (by omega)).symm
  · intro p hp
    rw [ar 7 (by omega) (by omega) (by omega) (by omega) (by omega)]
    by_cases c : p = n
    · rw [c, b2]; exact ((inn 4 (by omega)).trans z4).symm
    · exact (e7 p (by omega)).trans (lo p 4 (by omega) (by omega)).symm
  · intro p hp
    rw [ar 8 (by omega) (by omega) (by omega) (by omega) (by omega)]
    by_cases c : p = n
    · rw [c, b3]; exact ((inn 5 (by omega)).trans z5).symm
    · exact (e8 p (by omega)).trans (lo p 5 (by omega) (by omega)).symm
  · intro h hh
    rw [ar 11 (by omega) (by omega) (by omega) (by omega) (by omega), adP_lo m x y hn (by omega)]; exact e11 h hh
  · intro p o hp ho
    rw [ar 9 (by omega) (by omega) (by omega) (by omega) (by omega), adP_t m x y hn (by omega) (by omega)]
    by_cases c : p = n
    · rw [if_pos (Or.inl c), c]; exact (b4 o (by omega)).1
    · by_cases d : o = n
      · rw [if_pos (Or.inr d), d]; exact (b4 p (by omega)).2
      · rw [if_neg (by omega)]; exact e9 p o (by omega) (by omega)
  · intro p o hp ho
    rw [gA_sA1, adP_w m x y hn (by omega) (by omega)]
    by_cases c : p = n
    · rw [if_pos c, c]; exact aW o ho
    · rw [if_neg c]; exact aO p o (by omega) ho
  · rw [adP_lo m x y hn (by omega)]; exact m4
  · obtain ⟨x1, x2, x3, x4, x5, x6⟩ := X
    unfold Sx
    show gF S1 18 2 = _ ∧ gF S1 18 3 = _ ∧ gF S1 18 4 = _ ∧ gF S1 18 5 = _ ∧ gF S1 18 6 = _ ∧ _
    rw [s0, upd_2 _ _ (by omega), upd_2 _ _ (by omega), upd_2 _ _ (by omega), upd_2 _ _ (by omega), upd_2 _ _ (by omega), adP_lo m x y hn (by omega), adP_lo m x y hn (by omega), adP_lo m x y hn (by omega), adP_lo m x y hn (by omega), adP_lo m x y hn (by omega)]
    exact ⟨x1, x2, x3, x4, x5, x6⟩
  · refine Lo.keep ?_ rfl (adP_lo m x y hn (by omega)) (fun q h1 h2 => adP_lo m x y hn (by omega))
    show gF (sA (sA (sA (sA (sF _ _ _ _) _ _) _ _) _ _) _ _) (18 + 1) = _
    rw [gF_sA, gF_sA, gF_sA, gF_sA, gF_sF2 _ _ (show 18 + 1 ≠ 18 by omega)]
  · intro p hp hp2
    rw [ar 6 (by omega) (by omega) (by omega) (by omega) (by omega), ar 7 (by omega) (by omega) (by omega) (by omega) (by omega), ar 8 (by omega) (by omega) (by omega) (by omega) (by omega), ar 9 (by omega) (by omega) (by omega) (by omega) (by omega)]
    exact B p (by omega) hp2
