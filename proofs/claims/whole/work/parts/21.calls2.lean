/-! ===== calls: wish, passes, unknown, wrong, lost, unclaimed, saved, marks, forged ===== -/
theorem rl_wish (g : gG) {n p : Nat} (hn : gA g 207 3 = nI n) (h10 : n ≤ 10) (hp : p < n) (hw : ∀ p o, p < n → o < n → ∃ j, j < n ∧ gA g 207 (72 + 10 * p + o) = nI j) {k : Nat} (hk : k < n) (K : Int32 → Option (Int32 × ab_H)) {F : Nat} (hF : 11000 < F) : fX12_wish_58 206 (nI p) (gH g) K F (nI k) (nI 0) = K (nI k) := by
  have h0 := lp0 (L := fun F' i a => fX12_wish_58 206 (nI p) (gH g) K F' a i) (n := k) (fun i => nI (k - i)) (K (nI k)) ?_ ?_ F (by omega)
  · simpa using h0
  · intro F i hi
    obtain ⟨j, hj, e⟩ := hw p i hp (by omega)
    have h1 : ¬ (nI (k - i) ≤ 0) := nI_nle (by omega) (by omega)
    have h2 : nI (k - i) + (-1) = nI (k - (i + 1)) := by rw [sb_m1 (by omega)]; congr 1
    simp (disch := first | omega | assumption | exact isSt6 | exact isSt18 | exact isSt30) only [fX12_wish_58, fr_206_1, ia_207, ab_bd_some, ck_t, ck_T, cb_0, cb_1, ab_jn, if_true, if_false, hn, e, h1, h2, hj, nI_add, pk_mul, nI_ltI, nI_leI, nI_eq, reduceCtorEq, m1_ne, and_true, true_and, and_false, false_and, not_true_eq_false, not_false_eq_true, ne_eq, decide_true, decide_false, Bool.false_eq_true, ite_true, ite_false, if_true, if_false, Nat.add_zero, Bool.and_true, Bool.true_and, Bool.and_false, Bool.false_and, Bool.or_true, Bool.true_or, Bool.or_false, Bool.false_or, decide_not, Bool.not_true, Bool.not_false, or_true, true_or, or_false, false_or, or_self, and_self, decide_eq_true_eq]
  · intro F
    obtain ⟨j, hj, e⟩ := hw p k hp hk
    have h1 : nI (k - k) ≤ 0 := by rw [Nat.sub_self]; decide
    simp (disch := first | omega | assumption | exact isSt6 | exact isSt18 | exact isSt30) only [fX12_wish_58, fr_206_1, ia_207, ab_bd_some, ck_t, ck_T, cb_0, cb_1, ab_jn, if_true, if_false, hn, e, h1, hj, nI_add, pk_mul, nI_ltI, nI_leI, nI_eq, reduceCtorEq, m1_ne, and_true, true_and, and_false, false_and, not_true_eq_false, not_false_eq_true, ne_eq, decide_true, decide_false, Bool.false_eq_true, ite_true, ite_false, if_true, if_false, Nat.add_zero, Bool.and_true, Bool.true_and, Bool.and_false, Bool.false_and, Bool.or_true, Bool.true_or, Bool.or_false, Bool.false_or, decide_not, Bool.not_true, Bool.not_false, or_true, true_or, or_false, false_or, or_self, and_self, decide_eq_true_eq]
theorem ca_wish {g : gG} {n k : Nat} (V : Sv g 6 (gA g 207) n k) (R : Rv g n k) (hw : ∀ p o, p < n → o < n → ∃ j, j < n ∧ gA g 207 (72 + 10 * p + o) = nI j) (x y : Int32) {F : Nat} (hF : 11000 < F) : ∃ r v t, fX11_wish 0 x y (gH g) = some r ∧ fX12_wish F 206 x y (gH g) = some (v, gH (sF g 206 0 t)) ∧ Ag r v t [eIx] := by
  have W := V
  obtain ⟨hx, hn, h10, hk, h12, e3, e4, e5, e6, e7, e8, e11, e9, e10⟩ := W
  have R' := R
  obtain ⟨rn, _, rk, _⟩ := R'
  rcases inR_or (n := n) (x := x) (by omega) with e | ⟨i, hi, rfl⟩
  · refine ⟨.inr eIx, nI 0, nI 1, ?_, ?_, 0, by decide, rfl, rfl⟩
    · simp (disch := first | omega | assumption | exact isSt6 | exact isSt18 | exact isSt30) only [fX11_wish, io_0, fr_0_1, fi_s0, fr_s16, ia_s10, ab_bd_some, ck_t, ck_T, cb_0, cb_1, ab_jn, if_true, if_false, cl_needPerson V, e, bx_r, reduceCtorEq, m1_ne, and_true, true_and, and_false, false_and, not_true_eq_false, not_false_eq_true, ne_eq, decide_true, decide_false, Bool.false_eq_true, ite_true, ite_false, if_true, if_false, Nat.add_zero, Bool.and_true, Bool.true_and, Bool.and_false, Bool.false_and, Bool.or_true, Bool.true_or, Bool.or_false, Bool.false_or, decide_not, Bool.not_true, Bool.not_false, or_true, true_or, or_false, false_or, or_self, and_self, decide_eq_true_eq]
    · simp (disch := first | omega | assumption | exact isSt6 | exact isSt18 | exact isSt30) only [fX12_wish, io_206, fw_206_0, fi_206_0, fr_206_1, ia_207, ab_bd_some, ck_t, ck_T, cb_0, cb_1, ab_jn, if_true, if_false, rf_isPerson g rn h10, e, bI_0, gF_sF1, upd_1, nI10, reduceCtorEq, m1_ne, and_true, true_and, and_false, false_and, not_true_eq_false, not_false_eq_true, ne_eq, decide_true, decide_false, Bool.false_eq_true, ite_true, ite_false, if_true, if_false, Nat.add_zero, Bool.and_true, Bool.true_and, Bool.and_false, Bool.false_and, Bool.or_true, Bool.true_or, Bool.or_false, Bool.false_or, decide_not, Bool.not_true, Bool.not_false, or_true, true_or, or_false, false_or, or_self, and_self, decide_eq_true_eq]
  have ei := inR_of hi (show n < 2 ^ 31 by omega)
  have eb := isIn_in (x := y) (show n < 2 ^ 30 by omega)
  rcases inR_or (n := n) (x := y) (by omega) with e | ⟨j, hj, rfl⟩
  · refine ⟨.inl (-1), -1, nI 0, ?_, ?_, rfl, rfl⟩
    · have e' := e
      unfold inR at e'
      have e2 := of_decide_eq_false e'
      by_cases c : y < 0
      · simp (disch := first | omega | assumption | exact isSt6 | exact isSt18 | exact isSt30) only [fX11_wish, io_0, fr_0_1, fi_s0, fr_s16, ia_s10, ab_bd_some, ck_t, ck_T, cb_0, cb_1, ab_jn, if_true, if_false, cl_needPerson V, ei, c, bx_l, reduceCtorEq, m1_ne, and_true, true_and, and_false, false_and, not_true_eq_false, not_false_eq_true, ne_eq, decide_true, decide_false, Bool.false_eq_true, ite_true, ite_false, if_true, if_false, Nat.add_zero, Bool.and_true, Bool.true_and, Bool.and_false, Bool.false_and, Bool.or_true, Bool.true_or, Bool.or_false, Bool.false_or, decide_not, Bool.not_true, Bool.not_false, or_true, true_or, or_false, false_or, or_self, and_self, decide_eq_true_eq]
      · have c2 : ¬ y < nI n := fun h => e2 ⟨c, h⟩
        simp (disch := first | omega | assumption | exact isSt6 | exact isSt18 | exact isSt30) only [fX11_wish, io_0, fr_0_1, fi_s0, fr_s16, ia_s10, ab_bd_some, ck_t, ck_T, cb_0, cb_1, ab_jn, if_true, if_false, fi_s0 g isSt6, hn, cl_needPerson V, ei, c, c2, bx_l, reduceCtorEq, m1_ne, and_true, true_and, and_false, false_and, not_true_eq_false, not_false_eq_true, ne_eq, decide_true, decide_false, Bool.false_eq_true, ite_true, ite_false, if_true, if_false, Nat.add_zero, Bool.and_true, Bool.true_and, Bool.and_false, Bool.false_and, Bool.or_true, Bool.true_or, Bool.or_false, Bool.false_or, decide_not, Bool.not_true, Bool.not_false, or_true, true_or, or_false, false_or, or_self, and_self, decide_eq_true_eq]
    · simp (disch := first | omega | assumption | exact isSt6 | exact isSt18 | exact isSt30) only [fX12_wish, io_206, fw_206_0, fi_206_0, fr_206_1, ia_207, ab_bd_some, ck_t, ck_T, cb_0, cb_1, ab_jn, if_true, if_false, rf_isPerson g rn h10, rf_isIn, rn, eb, e, ei, bI_0, gF_sF1, gA_sF, upd_1, nI00, reduceCtorEq, m1_ne, and_true, true_and, and_false, false_and, not_true_eq_false, not_false_eq_true, ne_eq, decide_true, decide_false, Bool.false_eq_true, ite_true, ite_false, if_true, if_false, Nat.add_zero, Bool.and_true, Bool.true_and, Bool.and_false, Bool.false_and, Bool.or_true, Bool.true_or, Bool.or_false, Bool.false_or, decide_not, Bool.not_true, Bool.not_false, or_true, true_or, or_false, false_or, or_self, and_self, decide_eq_true_eq]
  have ej := inR_of hj (show n < 2 ^ 31 by omega)
  refine ⟨.inl (gA g 207 (72 + 10 * i + j)), gA g 207 (72 + 10 * i + j), nI 0, ?_, ?_, rfl, rfl⟩
  · have c : ¬ nI j < 0 := nI_pos (by omega)
    simp (disch := first | omega | assumption | exact isSt6 | exact isSt18 | exact isSt30) only [fX11_wish, io_0, fr_0_1, fi_s0, fr_s16, ia_s10, ab_bd_some, ck_t, ck_T, cb_0, cb_1, ab_jn, if_true, if_false, fi_s0 g isSt6, fr_s16 g isSt6, ia_s10 g isSt6, hn, cl_needPerson V, ei, c, hj, e10, bx_l, nI_add, pk_mul, nI_ltI, nI_leI, nI_eq, reduceCtorEq, m1_ne, and_true, true_and, and_false, false_and, not_true_eq_false, not_false_eq_true, ne_eq, decide_true, decide_false, Bool.false_eq_true, ite_true, ite_false, if_true, if_false, Nat.add_zero, Bool.and_true, Bool.true_and, Bool.and_false, Bool.false_and, Bool.or_true, Bool.true_or, Bool.or_false, Bool.false_or, decide_not, Bool.not_true, Bool.not_false, or_true, true_or, or_false, false_or, or_self, and_self, decide_eq_true_eq]
  · simp (disch := first | omega | assumption | exact isSt6 | exact isSt18 | exact isSt30) only [fX12_wish, io_206, fw_206_0, fi_206_0, fr_206_1, ia_207, ab_bd_some, ck_t, ck_T, cb_0, cb_1, ab_jn, if_true, if_false, rf_isPerson g rn h10, rf_isIn, rn, eb, ei, ej, bI_0, gF_sF1, gA_sF, upd_1, nI00, reduceCtorEq, m1_ne, and_true, true_and, and_false, false_and, not_true_eq_false, not_false_eq_true, ne_eq, decide_true, decide_false, Bool.false_eq_true, ite_true, ite_false, if_true, if_false, Nat.add_zero, Bool.and_true, Bool.true_and, Bool.and_false, Bool.false_and, Bool.or_true, Bool.true_or, Bool.or_false, Bool.false_or, decide_not, Bool.not_true, Bool.not_false, or_true, true_or, or_false, false_or, or_self, and_self, decide_eq_true_eq]
    rw [rl_wish (sF g 206 0 (nI 0)) rn h10 hi hw hj _ hF]
    simp (disch := first | omega | assumption | exact isSt6 | exact isSt18 | exact isSt30) only [ab_bd_some, fr_206_1, ia_207, gA_sF, nI_add, pk_mul, nI_ltI, nI_leI, nI_eq]
theorem exB_S (P : Nat → Bool) (n : Nat) : exB P (n + 1) = (exB P n || P n) := by
  cases h : exB P n
  · rw [Bool.false_or]
    cases hp : P n
    · refine exB_f.mpr (fun i hi => ?_)
      by_cases c : i = n
      · rw [c, hp]
      · exact exB_f.mp h i (by omega)
    · exact exB_t.mpr ⟨n, by omega, hp⟩
  · obtain ⟨i, hi, hp⟩ := exB_t.mp h
    rw [Bool.true_or]
    exact exB_t.mpr ⟨i, by omega, hp⟩
theorem exB_0 (P : Nat → Bool) : exB P 0 = false := exB_f.mpr (fun i hi => absurd hi (Nat.not_lt_zero i))
theorem st_0 (P : Nat → Bool) (n : Nat) : st P n = 0 ↔ exB P n = false := by
  constructor
  · intro h
    refine exB_f.mpr (fun i hi => ?_)
    have h1 := st_bit P n i
    rw [h, decide_eq_true hi, Bool.true_and, Nat.zero_testBit] at h1
    exact h1.symm
  · intro h
    induction n with
    | zero => rfl
    | succ n ih =>
      rw [exB_S, Bool.or_eq_false_iff] at h
      rw [st_succ_no h.2, ih h.1]
theorem or_or (x y : Int32) : (x ||| y) ||| y = x ||| y := by
  apply b_ext
  intro i hi
  simp only [b_or]
  cases bt x i <;> cases bt y i <;> rfl
theorem rl_unknown21 (g : gG) {n : Nat} (hn : gA g 207 3 = nI n) (h10 : n ≤ 10) {F : Nat} (hF : 11000 < F) {p : Nat} (hp : p < n) (a : Int32) (K : Int32 → Option (Int32 × ab_H)) : fX12_unknown_21 F 206 (nI p) (gH g) K F a (nI 0) = K (if exB (fun o => !decide (o = p) && decide (gA g 207 (12 + 6 * o + 1) = gA g 207 (12 + 6 * p + 1))) n = true then a ||| nI (2 ^ p) else a) := by
  have h0 := lp0 (L := fun F' i a => fX12_unknown_21 F 206 (nI p) (gH g) K F' a i) (n := n) (fun i => if exB (fun o => !decide (o = p) && decide (gA g 207 (12 + 6 * o + 1) = gA g 207 (12 + 6 * p + 1))) i = true then a ||| nI (2 ^ p) else a) (K (if exB (fun o => !decide (o = p) && decide (gA g 207 (12 + 6 * o + 1) = gA g 207 (12 + 6 * p + 1))) n = true then a ||| nI (2 ^ p) else a)) ?_ ?_ F (by omega)
  · rwa [exB_0] at h0
  · intro F' i hi
    by_cases c0 : i = p
    · subst c0
      simp (disch := first | omega | assumption | exact isSt6 | exact isSt18 | exact isSt30) only [fX12_unknown_21, io_206, fr_206_1, ia_207, ab_bd_some, ck_t, ck_T, cb_0, cb_1, ab_jn, if_true, if_false, hn, hi, exB_S, or_0, nI_add, pk_mul, nI_ltI, nI_leI, nI_eq, reduceCtorEq, m1_ne, and_true, true_and, and_false, false_and, not_true_eq_false, not_false_eq_true, ne_eq, decide_true, decide_false, Bool.false_eq_true, ite_true, ite_false, if_true, if_false, Nat.add_zero, Bool.and_true, Bool.true_and, Bool.and_false, Bool.false_and, Bool.or_true, Bool.true_or, Bool.or_false, Bool.false_or, decide_not, Bool.not_true, Bool.not_false, or_true, true_or, or_false, false_or, or_self, and_self, decide_eq_true_eq]
    · by_cases c1 : gA g 207 (12 + 6 * i + 1) = gA g 207 (12 + 6 * p + 1) <;> cases c2 : exB (fun o => !decide (o = p) && decide (gA g 207 (12 + 6 * o + 1) = gA g 207 (12 + 6 * p + 1))) i <;>
      simp (disch := first | omega | assumption | exact isSt6 | exact isSt18 | exact isSt30) only [fX12_unknown_21, io_206, fr_206_1, ia_207, ab_bd_some, ck_t, ck_T, cb_0, cb_1, ab_jn, if_true, if_false, hn, hp, hi, rf_of, sh1, exB_S, c0, c1, c2, or_0, or_or, nI_add, pk_mul, nI_ltI, nI_leI, nI_eq, reduceCtorEq, m1_ne, and_true, true_and, and_false, false_and, not_true_eq_false, not_false_eq_true, ne_eq, decide_true, decide_false, Bool.false_eq_true, ite_true, ite_false, if_true, if_false, Nat.add_zero, Bool.and_true, Bool.true_and, Bool.and_false, Bool.false_and, Bool.or_true, Bool.true_or, Bool.or_false, Bool.false_or, decide_not, Bool.not_true, Bool.not_false, or_true, true_or, or_false, false_or, or_self, and_self, decide_eq_true_eq]
  · intro F'
    simp (disch := first | omega | assumption | exact isSt6 | exact isSt18 | exact isSt30) only [fX12_unknown_21, io_206, fr_206_1, ia_207, ab_bd_some, ck_t, ck_T, cb_0, cb_1, ab_jn, if_true, if_false, hn, Nat.lt_irrefl, nI_add, pk_mul, nI_ltI, nI_leI, nI_eq, reduceCtorEq, m1_ne, and_true, true_and, and_false, false_and, not_true_eq_false, not_false_eq_true, ne_eq, decide_true, decide_false, Bool.false_eq_true, ite_true, ite_false, if_true, if_false, Nat.add_zero, Bool.and_true, Bool.true_and, Bool.and_false, Bool.false_and, Bool.or_true, Bool.true_or, Bool.or_false, Bool.false_or, decide_not, Bool.not_true, Bool.not_false, or_true, true_or, or_false, false_or, or_self, and_self, decide_eq_true_eq]
theorem rl_unknown (g : gG) {n : Nat} (hn : gA g 207 3 = nI n) (h10 : n ≤ 10) {F : Nat} (hF : 11000 < F) : fX12_unknown_9 F 206 (gH g) F (nI 0) (nI 0) = some (nI (st (fun p => exB (fun o => !decide (o = p) && decide (gA g 207 (12 + 6 * o + 1) = gA g 207 (12 + 6 * p + 1))) n) n), gH g) := by
  refine lp0 (L := fun F' i a => fX12_unknown_9 F 206 (gH g) F' a i) (n := n) (fun i => nI (st (fun p => exB (fun o => !decide (o = p) && decide (gA g 207 (12 + 6 * o + 1) = gA g 207 (12 + 6 * p + 1))) n) i)) _ ?_ ?_ F (by omega)
  · intro F' i hi
    cases c : exB (fun o => !decide (o = i) && decide (gA g 207 (12 + 6 * o + 1) = gA g 207 (12 + 6 * i + 1))) n <;>
    simp (disch := first | omega | assumption | exact isSt6 | exact isSt18 | exact isSt30) only [fX12_unknown_9, fr_206_1, ia_207, ab_bd_some, ck_t, ck_T, cb_0, cb_1, ab_jn, if_true, if_false, hn, hi, rl_unknown21 g hn h10 hF hi, st, or_st, c, nI_add, pk_mul, nI_ltI, nI_leI, nI_eq, reduceCtorEq, m1_ne, and_true, true_and, and_false, false_and, not_true_eq_false, not_false_eq_true, ne_eq, decide_true, decide_false, Bool.false_eq_true, ite_true, ite_false, if_true, if_false, Nat.add_zero, Bool.and_true, Bool.true_and, Bool.and_false, Bool.false_and, Bool.or_true, Bool.true_or, Bool.or_false, Bool.false_or, decide_not, Bool.not_true, Bool.not_false, or_true, true_or, or_false, false_or, or_self, and_self, decide_eq_true_eq]
  · intro F'
    simp (disch := first | omega | assumption | exact isSt6 | exact isSt18 | exact isSt30) only [fX12_unknown_9, fr_206_1, ia_207, ab_bd_some, ck_t, ck_T, cb_0, cb_1, ab_jn, if_true, if_false, hn, Nat.lt_irrefl, nI_add, pk_mul, nI_ltI, nI_leI, nI_eq, reduceCtorEq, m1_ne, and_true, true_and, and_false, false_and, not_true_eq_false, not_false_eq_true, ne_eq, decide_true, decide_false, Bool.false_eq_true, ite_true, ite_false, if_true, if_false, Nat.add_zero, Bool.and_true, Bool.true_and, Bool.and_false, Bool.false_and, Bool.or_true, Bool.true_or, Bool.or_false, Bool.false_or, decide_not, Bool.not_true, Bool.not_false, or_true, true_or, or_false, false_or, or_self, and_self, decide_eq_true_eq]
theorem rf_unknown (g : gG) {n : Nat} (hn : gA g 207 3 = nI n) (h10 : n ≤ 10) {F : Nat} (hF : 11000 < F) : fX12_unknown F 206 (gH g) = some (nI (st (fun p => exB (fun o => !decide (o = p) && decide (gA g 207 (12 + 6 * o + 1) = gA g 207 (12 + 6 * p + 1))) n) n), gH (sF g 206 0 (nI 0))) := by
  simp only [fX12_unknown, fw_206_0, ab_bd_some, ck_t, ck_T, cb_0, cb_1, ab_jn, if_true, if_false]
  exact rl_unknown (sF g 206 0 (nI 0)) hn h10 hF
theorem cl_unknown {g : gG} {m : Nat → Int32} {n k : Nat} (V : Sv g 6 m n k) {F : Nat} (hF : 11000 < F) : fX11_unknown F 0 (gH g) = some (nI (st (fun p => exB (fun o => !decide (o = p) && decide (m (12 + 6 * o + 1) = m (12 + 6 * p + 1))) n) n)) := by
  have W := V
  obtain ⟨hx, hn, h10, hk, h12, e3, e4, e5, e6, e7, e8, e11, e9, e10⟩ := W
  have hr : ∀ p, p < n → ab_ia 0 (gH g) (6 + 4) (nI p) = some (m (12 + 6 * p + 1)) := fun p hp => by rw [ia_s4 g isSt6 (by omega), e4 p hp]
  unfold fX11_unknown
  refine lp0 (L := fun F' i a => fX11_unknown_4 F 0 (gH g) F' a i) (n := n) (fun i => nI (st (fun p => exB (fun o => !decide (o = p) && decide (m (12 + 6 * o + 1) = m (12 + 6 * p + 1))) n) i)) _ ?_ ?_ F (by omega)
  · intro F' i hi
    have h1 := cl_sameAs V hF hr hi
    have h2 := st_0 (fun o => !decide (o = i) && decide (m (12 + 6 * o + 1) = m (12 + 6 * i + 1))) n
    have h3 : st (fun o => !decide (o = i) && decide (m (12 + 6 * o + 1) = m (12 + 6 * i + 1))) n < 2 ^ 10 := st_le h10
    simp only [decide_not] at h1
    cases c : exB (fun o => !decide (o = i) && decide (m (12 + 6 * o + 1) = m (12 + 6 * i + 1))) n <;>
    simp (disch := first | omega | assumption | exact isSt6 | exact isSt18 | exact isSt30) only [fX11_unknown_4, io_s, fr_0_1, fi_s0, fr_s10, ab_bd_some, ck_t, ck_T, cb_0, cb_1, ab_jn, if_true, if_false, hn, hi, h1, z_eq, h2, sh1, st, or_st, c, nI_add, pk_mul, nI_ltI, nI_leI, nI_eq, reduceCtorEq, m1_ne, and_true, true_and, and_false, false_and, not_true_eq_false, not_false_eq_true, ne_eq, decide_true, decide_false, Bool.false_eq_true, ite_true, ite_false, if_true, if_false, Nat.add_zero, Bool.and_true, Bool.true_and, Bool.and_false, Bool.false_and, Bool.or_true, Bool.true_or, Bool.or_false, Bool.false_or, decide_not, Bool.not_true, Bool.not_false, or_true, true_or, or_false, false_or, or_self, and_self, decide_eq_true_eq]
  · intro F'
    simp (disch := first | omega | assumption | exact isSt6 | exact isSt18 | exact isSt30) only [fX11_unknown_4, io_s, fr_0_1, fi_s0, fr_s10, ab_bd_some, ck_t, ck_T, cb_0, cb_1, ab_jn, if_true, if_false, hn, Nat.lt_irrefl, nI_add, pk_mul, nI_ltI, nI_leI, nI_eq, reduceCtorEq, m1_ne, and_true, true_and, and_false, false_and, not_true_eq_false, not_false_eq_true, ne_eq, decide_true, decide_false, Bool.false_eq_true, ite_true, ite_false, if_true, if_false, Nat.add_zero, Bool.and_true, Bool.true_and, Bool.and_false, Bool.false_and, Bool.or_true, Bool.true_or, Bool.or_false, Bool.false_or, decide_not, Bool.not_true, Bool.not_false, or_true, true_or, or_false, false_or, or_self, and_self, decide_eq_true_eq]
theorem lt4096 {a : Nat} (h : a < 256) : a < 4096 := by omega
theorem nv_xor {a b : Int32} (ha : nv a < 256) (hb : nv b < 256) : nv (a ^^^ b) < 256 := by
  unfold nv at *
  rw [Int32.toBitVec_xor, BitVec.toNat_xor]
  exact Nat.xor_lt_two_pow (n := 8) ha hb
theorem rl_passes (g : gG) {n : Nat} (hn : gA g 207 3 = nI n) (h10 : n ≤ 10) {F : Nat} (hF : 11000 < F) (y z : Int32) : fX12_passes_44 F 206 y z (gH g) F (nI 0) (nI 0) = some ((nI (st (fun p => decide (nI (pc (gA g 207 (12 + 6 * p) ^^^ y)) ≤ z)) n)), gH g) := by

  refine lp0 (L := fun F' i a => fX12_passes_44 F 206 y z (gH g) F' a i) (n := n) (fun i => nI (st (fun p => decide (nI (pc (gA g 207 (12 + 6 * p) ^^^ y)) ≤ z)) i)) _ ?_ ?_ F (by omega)
  · intro F i hi

    by_cases c0 : nI (pc (gA g 207 (12 + 6 * i) ^^^ y)) ≤ z <;>
    simp (disch := first | omega | assumption | exact isSt6 | exact isSt18 | exact isSt30) only [fX12_passes_44, io_206, fr_206_1, ia_207, ab_bd_some, ck_t, ck_T, cb_0, cb_1, ab_jn, if_true, if_false, hn, rf_of0, rf_bits _ _ hF, sh1, st, or_st, or_0, hi, c0, nI_add, pk_mul, nI_ltI, nI_leI, nI_eq, reduceCtorEq, m1_ne, and_true, true_and, and_false, false_and, not_true_eq_false, not_false_eq_true, ne_eq, decide_true, decide_false, Bool.false_eq_true, ite_true, ite_false, if_true, if_false, Nat.add_zero, Bool.and_true, Bool.true_and, Bool.and_false, Bool.false_and, Bool.or_true, Bool.true_or, Bool.or_false, Bool.false_or, decide_not, Bool.not_true, Bool.not_false, or_true, true_or, or_false, false_or, or_self, and_self, decide_eq_true_eq]
  · intro F
    simp (disch := first | omega | assumption | exact isSt6 | exact isSt18 | exact isSt30) only [fX12_passes_44, io_206, fr_206_1, ia_207, ab_bd_some, ck_t, ck_T, cb_0, cb_1, ab_jn, if_true, if_false, hn, rf_of0, rf_bits _ _ hF, sh1, Nat.lt_irrefl, nI_add, pk_mul, nI_ltI, nI_leI, nI_eq]
theorem bdS {α ρ : Type} {x : α} {f : α → Option ρ} : ab_bd (some x) f = f x := by
  have h : ab_bd (some x) f = f x := rfl
  exact h
theorem cl_passes20 {g : gG} {m : Nat → Int32} {n k : Nat} (V : Sv g 6 m n k) {F : Nat} (hF : 11000 < F) (hb : ∀ p, p < n → nv (m (12 + 6 * p)) < 256) {y : Int32} (hy : nv y < 256) (z : Int32) : fX11_passes_20 0 y z (gH g) F (nI 0) (nI 0) = some (.inl (nI (st (fun p => decide (nI (pc (m (12 + 6 * p) ^^^ y)) ≤ z)) n))) := by
  have W := V
  obtain ⟨hx, hn, h10, hk, h12, e3, e4, e5, e6, e7, e8, e11, e9, e10⟩ := W
  have hc : ∀ p, p < n → fJ6_bitCount_0f7a4 (m (12 + 6 * p) ^^^ y) (gH g) = some (nI (pc (m (12 + 6 * p) ^^^ y))) := fun p hp => cl_bitCountX _ (lt4096 (nv_xor (hb p hp) hy))
  clear hb hy
  refine lp0 (L := fun F' i a => fX11_passes_20 0 y z (gH g) F' a i) (n := n) (fun i => nI (st (fun p => decide (nI (pc (m (12 + 6 * p) ^^^ y)) ≤ z)) i)) _ ?_ ?_ F (by omega)
  · intro F i hi
    have hc := hc i hi
    by_cases c0 : nI (pc (m (12 + 6 * i) ^^^ y)) ≤ z <;>
    simp (disch := first | omega | assumption | exact isSt6 | exact isSt18 | exact isSt30) only [fX11_passes_20, fr_0_1, fi_s0, fr_s9, ia_s3, bdS, ck_t, ck_T, cb_0, cb_1, ab_jn, if_true, if_false, hn, e3, sh1, st, or_st, or_0, hc, hi, c0, nI_add, pk_mul, nI_ltI, nI_leI, nI_eq, reduceCtorEq, m1_ne, and_true, true_and, and_false, false_and, not_true_eq_false, not_false_eq_true, ne_eq, decide_true, decide_false, Bool.false_eq_true, ite_true, ite_false, if_true, if_false, Nat.add_zero, Bool.and_true, Bool.true_and, Bool.and_false, Bool.false_and, Bool.or_true, Bool.true_or, Bool.or_false, Bool.false_or, decide_not, Bool.not_true, Bool.not_false, or_true, true_or, or_false, false_or, or_self, and_self, decide_eq_true_eq]
  · intro F
    simp (disch := first | omega | assumption | exact isSt6 | exact isSt18 | exact isSt30) only [fX11_passes_20, fr_0_1, fi_s0, fr_s9, ia_s3, bdS, ck_t, ck_T, cb_0, cb_1, ab_jn, if_true, if_false, hn, Nat.lt_irrefl, nI_add, pk_mul, nI_ltI, nI_leI, nI_eq]
theorem in_256 {x : Int32} (h : decide (¬ x < nI 0 ∧ x ≤ nI 255) = true) : nv x < 256 := by
  obtain ⟨h1, h2⟩ := of_decide_eq_true h
  obtain ⟨j, hj, rfl⟩ := nI_of (by rwa [nI_0] at h1)
  rw [nv_nI (by omega)]
  have := (nI_leI hj (by decide)).mp h2
  omega
theorem ag_ok {g' : gG} {X : Option (Int32 ⊕ String)} {Y : Option (Int32 × ab_H)} {v : Int32} {cs : List String} (h1 : X = some (.inl v)) (h2 : Y = some (v, gH (sF g' 206 0 (nI 0)))) : ∃ r v t, X = some r ∧ Y = some (v, gH (sF g' 206 0 t)) ∧ Ag r v t cs := ⟨.inl v, v, nI 0, h1, h2, rfl, rfl⟩
theorem ca_passes {g : gG} {n k : Nat} (V : Sv g 6 (gA g 207) n k) (R : Rv g n k) (hb : ∀ p, p < n → nv (gA g 207 (12 + 6 * p)) < 256) (x y : Int32) {F : Nat} (hF : 11000 < F) : ∃ r v t, fX11_passes F 0 x y (gH g) = some r ∧ fX12_passes F 206 x y (gH g) = some (v, gH (sF g 206 0 t)) ∧ Ag r v t [eAr] := by
  obtain ⟨rn, h10, rk, _⟩ := R
  cases e1 : decide (¬ x < nI 0 ∧ x ≤ nI 255)
  · refine ⟨.inr eAr, nI 0, nI 1, ?_, ?_, 0, by decide, rfl, rfl⟩
    · simp (disch := first | omega | assumption | exact isSt6 | exact isSt18 | exact isSt30) only [fX11_passes, ab_bd_some, ck_t, ck_T, cb_0, cb_1, ab_jn, if_true, if_false, cl_needNumber, e1, bx_r, reduceCtorEq, m1_ne, and_true, true_and, and_false, false_and, not_true_eq_false, not_false_eq_true, ne_eq, decide_true, decide_false, Bool.false_eq_true, ite_true, ite_false, if_true, if_false, Nat.add_zero, Bool.and_true, Bool.true_and, Bool.and_false, Bool.false_and, Bool.or_true, Bool.true_or, Bool.or_false, Bool.false_or, decide_not, Bool.not_true, Bool.not_false, or_true, true_or, or_false, false_or, or_self, and_self, decide_eq_true_eq]
    · simp (disch := first | omega | assumption | exact isSt6 | exact isSt18 | exact isSt30) only [fX12_passes, fw_206_0, fi_206_0, ab_bd_some, ck_t, ck_T, cb_0, cb_1, ab_jn, if_true, if_false, rf_isIn, e1, bI_0, gF_sF1, upd_1, nI10, reduceCtorEq, m1_ne, and_true, true_and, and_false, false_and, not_true_eq_false, not_false_eq_true, ne_eq, decide_true, decide_false, Bool.false_eq_true, ite_true, ite_false, if_true, if_false, Nat.add_zero, Bool.and_true, Bool.true_and, Bool.and_false, Bool.false_and, Bool.or_true, Bool.true_or, Bool.or_false, Bool.false_or, decide_not, Bool.not_true, Bool.not_false, or_true, true_or, or_false, false_or, or_self, and_self, decide_eq_true_eq]
  cases e2 : decide (¬ y < nI 0 ∧ y ≤ nI 8)
  · refine ⟨.inr eAr, nI 0, nI 1, ?_, ?_, 0, by decide, rfl, rfl⟩
    · simp (disch := first | omega | assumption | exact isSt6 | exact isSt18 | exact isSt30) only [fX11_passes, ab_bd_some, ck_t, ck_T, cb_0, cb_1, ab_jn, if_true, if_false, cl_needNumber, e1, e2, bx_l, bx_r, reduceCtorEq, m1_ne, and_true, true_and, and_false, false_and, not_true_eq_false, not_false_eq_true, ne_eq, decide_true, decide_false, Bool.false_eq_true, ite_true, ite_false, if_true, if_false, Nat.add_zero, Bool.and_true, Bool.true_and, Bool.and_false, Bool.false_and, Bool.or_true, Bool.true_or, Bool.or_false, Bool.false_or, decide_not, Bool.not_true, Bool.not_false, or_true, true_or, or_false, false_or, or_self, and_self, decide_eq_true_eq]
    · simp (disch := first | omega | assumption | exact isSt6 | exact isSt18 | exact isSt30) only [fX12_passes, fw_206_0, fi_206_0, ab_bd_some, ck_t, ck_T, cb_0, cb_1, ab_jn, if_true, if_false, rf_isIn, e1, e2, bI_0, gF_sF1, upd_1, nI10, reduceCtorEq, m1_ne, and_true, true_and, and_false, false_and, not_true_eq_false, not_false_eq_true, ne_eq, decide_true, decide_false, Bool.false_eq_true, ite_true, ite_false, if_true, if_false, Nat.add_zero, Bool.and_true, Bool.true_and, Bool.and_false, Bool.false_and, Bool.or_true, Bool.true_or, Bool.or_false, Bool.false_or, decide_not, Bool.not_true, Bool.not_false, or_true, true_or, or_false, false_or, or_self, and_self, decide_eq_true_eq]
  apply ag_ok
  · simp (disch := first | omega | assumption | exact isSt6 | exact isSt18 | exact isSt30) only [fX11_passes, ab_bd_some, ck_t, ck_T, cb_0, cb_1, ab_jn, if_true, if_false, cl_needNumber, e1, e2, bx_l, reduceCtorEq, m1_ne, and_true, true_and, and_false, false_and, not_true_eq_false, not_false_eq_true, ne_eq, decide_true, decide_false, Bool.false_eq_true, ite_true, ite_false, if_true, if_false, Nat.add_zero, Bool.and_true, Bool.true_and, Bool.and_false, Bool.false_and, Bool.or_true, Bool.true_or, Bool.or_false, Bool.false_or, decide_not, Bool.not_true, Bool.not_false, or_true, true_or, or_false, false_or, or_self, and_self, decide_eq_true_eq]
    exact cl_passes20 V hF hb (in_256 e1) y
  · simp (disch := first | omega | assumption | exact isSt6 | exact isSt18 | exact isSt30) only [fX12_passes, fw_206_0, fi_206_0, ab_bd_some, ck_t, ck_T, cb_0, cb_1, ab_jn, if_true, if_false, rf_isIn, e1, e2, bI_0, gF_sF1, upd_1, nI00, reduceCtorEq, m1_ne, and_true, true_and, and_false, false_and, not_true_eq_false, not_false_eq_true, ne_eq, decide_true, decide_false, Bool.false_eq_true, ite_true, ite_false, if_true, if_false, Nat.add_zero, Bool.and_true, Bool.true_and, Bool.and_false, Bool.false_and, Bool.or_true, Bool.true_or, Bool.or_false, Bool.false_or, decide_not, Bool.not_true, Bool.not_false, or_true, true_or, or_false, false_or, or_self, and_self, decide_eq_true_eq]
    exact rl_passes (sF g 206 0 (nI 0)) rn h10 hF x y
def pHang (m : Nat → Int32) : Nat → Int32 := it (fun h a => if m (272 + h) = -1 then a else a ||| (nI 1 <<< (m (272 + h) &&& 31))) (nI 0)
theorem pHang_S (m : Nat → Int32) (h : Nat) : pHang m (h + 1) = if m (272 + h) = -1 then pHang m h else pHang m h ||| (nI 1 <<< (m (272 + h) &&& 31)) := rfl
def pMk (m : Nat → Int32) (s : Int32) : Nat → Int32 := it (fun f a => if bt s f = true then a ||| m (12 + 6 * f) else a) (nI 0)
theorem pMk_S (m : Nat → Int32) (s : Int32) (f : Nat) : pMk m s (f + 1) = if bt s f = true then pMk m s f ||| m (12 + 6 * f) else pMk m s f := rfl
theorem cl_hangingFaces {g : gG} {x : Nat} {m : Nat → Int32} {n k : Nat} (V : Sv g x m n k) {F : Nat} (hF : 11000 < F) : fX8_hangingFaces F x (gH g) = some ((pHang m k)) := by
  have W := V
  obtain ⟨hx, hn, h10, hk, h12, e3, e4, e5, e6, e7, e8, e11, e9, e10⟩ := W
  unfold fX8_hangingFaces
  refine lp0 (L := fun F' i a => fX8_hangingFaces_4 x (gH g) F' a i) (n := k) (fun i => pHang m i) _ ?_ ?_ F (by omega)
  · intro F i hi

    by_cases c0 : m (272 + i) = -1 <;>
    simp (disch := first | omega | assumption | exact isSt6 | exact isSt18 | exact isSt30) only [fX8_hangingFaces_4, fi_s1, fr_s17, ia_s11, ab_bd_some, ck_t, ck_T, cb_0, cb_1, ab_jn, if_true, if_false, hk, e11, pHang_S, hi, c0, nI_add, pk_mul, nI_ltI, nI_leI, nI_eq, reduceCtorEq, m1_ne, and_true, true_and, and_false, false_and, not_true_eq_false, not_false_eq_true, ne_eq, decide_true, decide_false, Bool.false_eq_true, ite_true, ite_false, if_true, if_false, Nat.add_zero, Bool.and_true, Bool.true_and, Bool.and_false, Bool.false_and, Bool.or_true, Bool.true_or, Bool.or_false, Bool.false_or, decide_not, Bool.not_true, Bool.not_false, or_true, true_or, or_false, false_or, or_self, and_self, decide_eq_true_eq]
  · intro F
    simp (disch := first | omega | assumption | exact isSt6 | exact isSt18 | exact isSt30) only [fX8_hangingFaces_4, fi_s1, fr_s17, ia_s11, ab_bd_some, ck_t, ck_T, cb_0, cb_1, ab_jn, if_true, if_false, hk, e11, Nat.lt_irrefl, nI_add, pk_mul, nI_ltI, nI_leI, nI_eq]
theorem rl_forged33 (g : gG) {k : Nat} (hk : gA g 207 4 = nI k) (h12 : k ≤ 12) {F : Nat} (hF : 11000 < F) (y : Int32) (K : Int32 → Option (Int32 × ab_H)) : fX12_forged_33 F 206 y (gH g) K F (nI 0) (nI 0) = K (pHang (gA g 207) k) := by

  refine lp0 (L := fun F' i a => fX12_forged_33 F 206 y (gH g) K F' a i) (n := k) (fun i => pHang (gA g 207) i) _ ?_ ?_ F (by omega)
  · intro F i hi

    by_cases c0 : gA g 207 (272 + i) = -1 <;>
    simp (disch := first | omega | assumption | exact isSt6 | exact isSt18 | exact isSt30) only [fX12_forged_33, fr_206_1, ia_207, ab_bd_some, ck_t, ck_T, cb_0, cb_1, ab_jn, if_true, if_false, hk, or_0, pHang_S, hi, c0, nI_add, pk_mul, nI_ltI, nI_leI, nI_eq, reduceCtorEq, m1_ne, and_true, true_and, and_false, false_and, not_true_eq_false, not_false_eq_true, ne_eq, decide_true, decide_false, Bool.false_eq_true, ite_true, ite_false, if_true, if_false, Nat.add_zero, Bool.and_true, Bool.true_and, Bool.and_false, Bool.false_and, Bool.or_true, Bool.true_or, Bool.or_false, Bool.false_or, decide_not, Bool.not_true, Bool.not_false, or_true, true_or, or_false, false_or, or_self, and_self, decide_eq_true_eq]
  · intro F
    simp (disch := first | omega | assumption | exact isSt6 | exact isSt18 | exact isSt30) only [fX12_forged_33, fr_206_1, ia_207, ab_bd_some, ck_t, ck_T, cb_0, cb_1, ab_jn, if_true, if_false, hk, or_0, Nat.lt_irrefl, nI_add, pk_mul, nI_ltI, nI_leI, nI_eq]
theorem rf_marksOf (g : gG) {n : Nat} (hn : gA g 207 3 = nI n) (h10 : n ≤ 10) {F : Nat} (hF : 11000 < F) (s : Int32) : fX12_marksOf F 206 s (gH g) = some ((pMk (gA g 207) s n)) := by
  unfold fX12_marksOf
  refine lp0 (L := fun F' i a => fX12_marksOf_4 206 s (gH g) F' a i) (n := n) (fun i => pMk (gA g 207) s i) _ ?_ ?_ F (by omega)
  · intro F i hi

    by_cases c0 : bt s i = true <;>
    simp (disch := first | omega | assumption | exact isSt6 | exact isSt18 | exact isSt30) only [fX12_marksOf_4, io_206, fr_206_1, ia_207, ab_bd_some, ck_t, ck_T, cb_0, cb_1, ab_jn, if_true, if_false, hn, rf_of0, rf_isOfX, bI_0, or_0, pMk_S, Bool.not_eq_true, hi, c0, nI_add, pk_mul, nI_ltI, nI_leI, nI_eq, reduceCtorEq, m1_ne, and_true, true_and, and_false, false_and, not_true_eq_false, not_false_eq_true, ne_eq, decide_true, decide_false, Bool.false_eq_true, ite_true, ite_false, if_true, if_false, Nat.add_zero, Bool.and_true, Bool.true_and, Bool.and_false, Bool.false_and, Bool.or_true, Bool.true_or, Bool.or_false, Bool.false_or, decide_not, Bool.not_true, Bool.not_false, or_true, true_or, or_false, false_or, or_self, and_self, decide_eq_true_eq]
  · intro F
    simp (disch := first | omega | assumption | exact isSt6 | exact isSt18 | exact isSt30) only [fX12_marksOf_4, io_206, fr_206_1, ia_207, ab_bd_some, ck_t, ck_T, cb_0, cb_1, ab_jn, if_true, if_false, hn, rf_of0, rf_isOfX, bI_0, or_0, Nat.lt_irrefl, nI_add, pk_mul, nI_ltI, nI_leI, nI_eq]
theorem cl_marksTogether {g : gG} {m : Nat → Int32} {n k : Nat} (V : Sv g 6 m n k) {F : Nat} (hF : 11000 < F) (s : Int32) : fX11_marksTogether F 0 s (gH g) = some ((pMk m s n)) := by
  have W := V
  obtain ⟨hx, hn, h10, hk, h12, e3, e4, e5, e6, e7, e8, e11, e9, e10⟩ := W
  unfold fX11_marksTogether
  refine lp0 (L := fun F' i a => fX11_marksTogether_4 0 s (gH g) F' a i) (n := n) (fun i => pMk m s i) _ ?_ ?_ F (by omega)
  · intro F i hi

    by_cases c0 : bt s i = true <;>
    simp (disch := first | omega | assumption | exact isSt6 | exact isSt18 | exact isSt30) only [fX11_marksTogether_4, fr_0_1, fi_s0, fr_s9, ia_s3, ab_bd_some, ck_t, ck_T, cb_0, cb_1, ab_jn, if_true, if_false, hn, e3, cl_hasX, bI_0, pMk_S, Bool.not_eq_true, hi, c0, nI_add, pk_mul, nI_ltI, nI_leI, nI_eq, reduceCtorEq, m1_ne, and_true, true_and, and_false, false_and, not_true_eq_false, not_false_eq_true, ne_eq, decide_true, decide_false, Bool.false_eq_true, ite_true, ite_false, if_true, if_false, Nat.add_zero, Bool.and_true, Bool.true_and, Bool.and_false, Bool.false_and, Bool.or_true, Bool.true_or, Bool.or_false, Bool.false_or, decide_not, Bool.not_true, Bool.not_false, or_true, true_or, or_false, false_or, or_self, and_self, decide_eq_true_eq]
  · intro F
    simp (disch := first | omega | assumption | exact isSt6 | exact isSt18 | exact isSt30) only [fX11_marksTogether_4, fr_0_1, fi_s0, fr_s9, ia_s3, ab_bd_some, ck_t, ck_T, cb_0, cb_1, ab_jn, if_true, if_false, hn, e3, cl_hasX, bI_0, Nat.lt_irrefl, nI_add, pk_mul, nI_ltI, nI_leI, nI_eq]
