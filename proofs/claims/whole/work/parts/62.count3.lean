variable {Nq : Nat}
/-! ===== OWNERS counted: both alike ===== -/
theorem ov_al {al al' : Nat → Int32} {n : Nat} {G : Nat → Int32} (h10 : n ≤ 10) (h : ∀ p, p < n → al p = al' p) : ∀ S, S < 2 ^ n → ov al n G S = ov al' n G S := by
  have h2 : 2 ^ n ≤ 2 ^ 10 := Nat.pow_le_pow_right (by decide) h10
  intro S
  induction S using Nat.strongRecOn with
  | ind S ih =>
    intro hS
    by_cases c : S = 0
    · subst c; rfl
    · rw [ov_S al n G (by omega), ov_S al' n G (by omega)]
      have p1 := pc_lt h10 hS
      have p0 := pc_pos S (by omega) (by omega)
      refine sumI_cong (fun f hf => ?_)
      unfold wt
      rw [h (pc (nI S) - 1) (by omega)]
      by_cases c2 : S.testBit f = true ∧ bt (al' (pc (nI S) - 1)) f = true
      · rw [if_pos c2, if_pos c2]
        exact ih _ (by have := Nat.two_pow_pos f; omega) (Nat.lt_of_le_of_lt (Nat.sub_le _ _) hS)
      · rw [if_neg c2, if_neg c2]
theorem cl_countOwners (g : gG) {n : Nat} (hn : gF g 196 6 = nI n) (h10 : n ≤ 10) {F : Nat} (hF : 11000 < F) : ∃ O, fX7_countOwners F 196 (gH g) = some (ov (gA g 200) n (fun _ => nI 1) (2 ^ n - 1), gH (sA g 202 O)) := by
  have h2 : 2 ^ n ≤ 2 ^ 10 := Nat.pow_le_pow_right (by decide) h10
  have h1 : 1 ≤ 2 ^ n := Nat.one_le_two_pow
  have e0 : ¬ (200 = 202) := by omega
  have s1 := sh1 (k := n) (by omega)
  have e1 : nI (2 ^ n) - nI 1 = nI (2 ^ n - 1) := pk_sub h1
  obtain ⟨O0, eO0⟩ : ∃ O0, O0 = upd (fun q => if q < 1024 then nI 0 else gA g 202 q) 0 (nI 1) := ⟨_, rfl⟩
  have i0 : Fi (gA g 200) n (fun _ => nI 1) O0 0 := by
    refine Fi_0 (by rw [eO0, upd_1]) (fun S hS hS' => ?_)
    rw [eO0, upd_2 _ _ (by omega), if_pos (by omega)]
  have h0 := lpE (L := fun F' i (g : gG) => fX7_countOwners_26 F 196 (nI (2 ^ n - 1)) F' i (gH g)) (n := 2 ^ n - 1) (fun t g' => ∃ O, g' = sA g 202 O ∧ Fi (gA g 200) n (fun _ => nI 1) O t) (fun g' => some (gA g' 202 (2 ^ n - 1), gH g')) ?_ ?_ F 0 (sA g 202 O0) (by omega) (by omega) ⟨O0, rfl, i0⟩
  · obtain ⟨g', ⟨O, eg, hO⟩, h3⟩ := h0
    refine ⟨O, ?_⟩
    have ho : gA g' 202 (2 ^ n - 1) = ov (gA g 200) n (fun _ => nI 1) (2 ^ n - 1) := by
      rw [eg, gA_sA1]
      exact Fi_ov hO (by omega)
    rw [ho, eg] at h3
    unfold fX7_countOwners
    have hi : ab_fi (gH g) 196 7 6 = some (nI n) := by rw [fi_196_6, hn]
    rw [hi, bdS, fr_196_5, bdS, cl_fill202 g (nI 0) hF, bdS, fr_196_5, bdS, iw_202 _ _ (by decide), bdS, gA_sA1, sA_sA, ← eO0, s1, e1]
    exact h3
  · intro F' t g' ht ⟨O, eg, hO⟩
    have hp : pc (nI t) < 10 := by
      by_cases cn : pc (nI t) < n
      · omega
      · have hl := pc_lt h10 (show t < 2 ^ n by omega)
        have hn1 : n = pc (nI t) := by omega
        apply Decidable.byContradiction
        intro hge
        have hn10 : n = 10 := by omega
        have key : ∀ t, t < 1023 → pc (nI t) < 10 := by decide +kernel
        exact hge (key t (by rw [hn10] at ht; omega))
    have hn' : gF g' 196 6 = nI n := by rw [eg, gF_sA]; exact hn
    have bc := cl_bitCount (gH g') (show t < 4096 by omega)
    have t39 := fun K => cl_own39 g' hn' h10 (nI (2 ^ n - 1)) ht hp K hF
    have a0 : gA g' 200 = gA g 200 := by rw [eg, gA_sA2 _ _ e0]
    have a2 : gA g' 202 = O := by rw [eg, gA_sA1]
    refine ⟨sA g' 202 (fwO (gA g 200) O t n), ⟨fwO (gA g 200) O t n, by rw [eg, sA_sA], Fi_S h10 hO (by omega)⟩, ?_⟩
    simp only [a0, a2] at t39
    simp (disch := omega) only [fX7_countOwners_26, fr_196_5, ia_202, bdS, ck_t, ck_T, cb_0, cb_1, ab_jn, if_true, if_false, ht, bc, t39, nI_add, pk_mul, nI_ltI, nI_leI, nI_eq, reduceCtorEq, m1_ne, and_true, true_and, and_false, false_and, not_true_eq_false, not_false_eq_true, ne_eq, decide_true, decide_false, Bool.false_eq_true, ite_true, ite_false, if_true, if_false, Nat.add_zero, Bool.and_true, Bool.true_and, Bool.and_false, Bool.false_and, Bool.or_true, Bool.true_or, Bool.or_false, Bool.false_or, decide_not, Bool.not_true, Bool.not_false, or_true, true_or, or_false, false_or, or_self, and_self, decide_eq_true_eq]
  · intro F' g' ⟨O, eg, hO⟩
    simp (disch := omega) only [fX7_countOwners_26, fr_196_5, ia_202, bdS, ck_t, ck_T, cb_0, cb_1, ab_jn, if_true, if_false, Nat.lt_irrefl, nI_add, pk_mul, nI_ltI, nI_leI, nI_eq, reduceCtorEq, m1_ne, and_true, true_and, and_false, false_and, not_true_eq_false, not_false_eq_true, ne_eq, decide_true, decide_false, Bool.false_eq_true, ite_true, ite_false, if_true, if_false, Nat.add_zero, Bool.and_true, Bool.true_and, Bool.and_false, Bool.false_and, Bool.or_true, Bool.true_or, Bool.or_false, Bool.false_or, decide_not, Bool.not_true, Bool.not_false, or_true, true_or, or_false, false_or, or_self, and_self, decide_eq_true_eq]
