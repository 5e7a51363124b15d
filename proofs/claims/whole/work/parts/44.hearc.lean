variable {Nq : Nat}
/-! ===== call: hears ===== -/
theorem heB_hi {m : Nat → Int32} {a b i : Nat} (ha : a < 10) (hb : b < 10) (hi : 584 ≤ i) : heB m a b i = m i := by
  unfold heB; split
  · unfold telM te1; rw [upd_2 _ _ (by omega), upd_2 _ _ (by omega), upd_2 _ _ (by omega), upd_2 _ _ (by omega)]
  · rfl
theorem heA_hi {n a i : Nat} (m : Nat → Int32) (ha : a < n) (h10 : n ≤ 10) (hi : 584 ≤ i) : ∀ j, j ≤ n - (a + 1) → heA n a m j i = m i
  | 0, _ => rfl
  | j + 1, h => by
    show heB (heA n a m j) a (a + 1 + j) i = _
    rw [heB_hi (by omega) (by omega) hi, heA_hi m ha h10 hi j (by omega)]
theorem heR_hi {n i : Nat} (m : Nat → Int32) (h10 : n ≤ 10) (hi : 584 ≤ i) : ∀ j, j ≤ n → heR n m j i = m i
  | 0, _ => rfl
  | j + 1, h => by
    show heA n j (heR n m j) (n - (j + 1)) i = _
    rw [heA_hi _ (by omega) h10 hi _ (by omega), heR_hi m h10 hi j (by omega)]
theorem heN_hi {n i : Nat} (m : Nat → Int32) (h10 : n ≤ 10) (hi : 584 ≤ i) : ∀ c, heN n m c i = m i
  | 0 => rfl
  | c + 1 => by
    show heR n (heN n m c) n i = _
    rw [heR_hi _ h10 hi n (Nat.le_refl n), heN_hi m h10 hi c]
theorem back_m {m m' a0 : Nat → Int32} (h : ∀ i, 584 ≤ i → m' i = m i) : cp584 (cp584 m a0) m' = m := by
  funext q
  unfold cp584
  by_cases c : q < 584
  · rw [if_pos c, if_pos c]
  · rw [if_neg c]; exact h q (by omega)
theorem cl_hears25 {g : gG} {m : Nat → Int32} {n k c p : Nat} (S : SR g 18 m n k) (hc : c ≤ 20) (hp : p < n) {F : Nat} (hF : 11000 < F) : ∃ g', Fs g g' 18 ∧ fX11_hears_25 F 0 (nI p) (nI c) F (nI 0) (gH g) = some (.inl (heN n m c (12 + 6 * p + 5)), gH g') := by
  have h10 := S.c.n10
  have h0 := lpE (L := fun F' i (g : gG) => fX11_hears_25 F 0 (nI p) (nI c) F' i (gH g)) (n := c) (fun i g' => Fs g g' 18 ∧ SR g' 18 (heN n m i) n k) (fun g => some (.inl (heN n m c (12 + 6 * p + 5)), gH g)) ?_ ?_ F 0 g (by omega) (by omega) ⟨Fs.refl g 18, S⟩
  · obtain ⟨g', ⟨h1, h2⟩, h3⟩ := h0
    exact ⟨g', h1, h3⟩
  · intro F' i g1 hi ⟨f1, s1⟩
    obtain ⟨g2, t1, t2, t3⟩ := cl_meetAll s1 hF
    refine ⟨g2, ⟨f1.trans t1, t2⟩, ?_⟩
    simp (disch := first | omega | assumption | exact isSt6 | exact isSt18 | exact isSt30) only [fX11_hears_25, io_s, fr_0_2, fr_s14, ia_s8, bdS, ck_t, ck_T, cb_0, cb_1, ab_jn, if_true, if_false, io_s, hi, t3, nI_add, pk_mul, nI_ltI, nI_leI, nI_eq, reduceCtorEq, m1_ne, and_true, true_and, and_false, false_and, not_true_eq_false, not_false_eq_true, ne_eq, decide_true, decide_false, Bool.false_eq_true, ite_true, ite_false, if_true, if_false, Nat.add_zero, Bool.and_true, Bool.true_and, Bool.and_false, Bool.false_and, Bool.or_true, Bool.true_or, Bool.or_false, Bool.false_or, decide_not, Bool.not_true, Bool.not_false, or_true, true_or, or_false, false_or, or_self, and_self, decide_eq_true_eq]
  · intro F' g1 ⟨f1, s1⟩
    have e8 := s1.1.2.2.2.2.2.2.2.2.2.2.1 p hp
    simp (disch := first | omega | assumption | exact isSt6 | exact isSt18 | exact isSt30) only [fX11_hears_25, io_s, fr_0_2, fr_s14, ia_s8, bdS, ck_t, ck_T, cb_0, cb_1, ab_jn, if_true, if_false, fr_s14, ia_s8, e8, Nat.lt_irrefl, nI_add, pk_mul, nI_ltI, nI_leI, nI_eq, reduceCtorEq, m1_ne, and_true, true_and, and_false, false_and, not_true_eq_false, not_false_eq_true, ne_eq, decide_true, decide_false, Bool.false_eq_true, ite_true, ite_false, if_true, if_false, Nat.add_zero, Bool.and_true, Bool.true_and, Bool.and_false, Bool.false_and, Bool.or_true, Bool.true_or, Bool.or_false, Bool.false_or, decide_not, Bool.not_true, Bool.not_false, or_true, true_or, or_false, false_or, or_self, and_self, decide_eq_true_eq]
theorem isIn_c {b c : Nat} (hb : b < 2 ^ 31) (hc : c ≤ b) : decide (¬ nI c < nI 0 ∧ nI c ≤ nI b) = true := decide_eq_true ⟨by rw [nI_0]; exact nI_pos (by omega), nI_le hc hb⟩
theorem isIn_or {b : Nat} (hb : b < 2 ^ 31) (x : Int32) : decide (¬ x < nI 0 ∧ x ≤ nI b) = false ∨ ∃ c, c ≤ b ∧ x = nI c := by
  cases h : decide (¬ x < nI 0 ∧ x ≤ nI b)
  · exact Or.inl rfl
  · obtain ⟨h1, h2⟩ := of_decide_eq_true h
    rw [nI_0] at h1
    obtain ⟨j, hj, rfl⟩ := nI_of h1
    exact Or.inr ⟨j, (nI_leI hj hb).mp h2, rfl⟩
/-- scratch work: the STATE 18, the row aside, and the row as it was -/
theorem scr_ok {g : gG} {n k s f : Nat} (R : Re Nq g n k s f) {g1 : gG} (C : ∀ b, (b < 18 ∨ 30 ≤ b) → gF g1 b = gF g b ∧ gA g1 b = gA g b ∧ gL g1 b = gL g b ∧ gw g1 b = gw g b) (c2 : gn g1 = gn g) (c3 : ∀ b, gl g1 b = gl g b) (t : Int32) (a : Nat → Int32) : Re Nq (sA (sA (sF g1 206 0 t) 209 a) 207 (gA g 207)) n k s f := by
  have zF : ∀ b, b ≠ 206 → (b < 18 ∨ 30 ≤ b) → gF (sA (sA (sF g1 206 0 t) 209 a) 207 (gA g 207)) b = gF g b := fun b h1 h2 => by rw [gF_sA, gF_sA, gF_sF2 _ _ h1, (C b h2).1]
  have zA : ∀ b, b ≠ 209 → (b < 18 ∨ 30 ≤ b) → gA (sA (sA (sF g1 206 0 t) 209 a) 207 (gA g 207)) b = gA g b := fun b h1 h2 => by
    by_cases c : b = 207
    · rw [c, gA_sA1]
    · rw [gA_sA2 _ _ c, gA_sA2 _ _ h1, gA_sF, (C b h2).2.1]
  have z6 : ∀ j, j ≠ 0 → gF (sA (sA (sF g1 206 0 t) 209 a) 207 (gA g 207)) 206 j = gF g 206 j := fun j hj => by rw [gF_sA, gF_sA, gF_sF1, upd_2 _ _ hj, (C 206 (by omega)).1]
  refine R.kp ⟨⟨c2, c3, fun b hb => zF b (by omega) (by omega), zA 3 (by omega) (by omega), fun b h1 h2 => zA b (by omega) (by omega)⟩, fun b h1 h2 => ⟨zF b (by omega) (by omega), zA b (by omega) (by omega), (C b (by omega)).2.2.1, (C b (by omega)).2.2.2⟩, fun b h1 h2 => ⟨zF b (by omega) (by omega), zA b (by omega) (by omega), (C b (by omega)).2.2.1, (C b (by omega)).2.2.2⟩, zA _ (by omega) (by omega), zA _ (by omega) (by omega), zA _ (by omega) (by omega), fun j hj => z6 j (by omega), congrFun (zF 192 (by omega) (by omega)) 1, congrFun (zF 194 (by omega) (by omega)) 1⟩ ?_
  obtain ⟨L, t1, t2, t3, t4⟩ := R.2.2.2.1
  refine ⟨L, t1, ?_, ?_, fun i hi => ?_⟩
  · rw [zF 4 (by omega) (by omega)]; exact t2
  · rw [z6 8 (by omega)]; exact t3
  · rw [zA 5 (by omega) (by omega), zA 211 (by omega) (by omega)]; exact t4 i hi
/-- the copy and what is done on it leave all but the STATE 18 -/
theorem scr_C {g g0 g1 : gG} (C : Cp g g0 18 6) (f1 : Fs g0 g1 18) : (∀ b, (b < 18 ∨ 30 ≤ b) → gF g1 b = gF g b ∧ gA g1 b = gA g b ∧ gL g1 b = gL g b ∧ gw g1 b = gw g b) ∧ gn g1 = gn g ∧ (∀ b, gl g1 b = gl g b) := by
  refine ⟨fun b hb => ?_, f1.2.1.trans C.2.1, fun b => (f1.2.2.1 b).trans (C.2.2.1 b)⟩
  obtain ⟨a1, a2, a3⟩ := f1.1 b (by omega)
  obtain ⟨b1, b2, b3, b4⟩ := C.1 b (by omega)
  exact ⟨a1.trans b1, a2.trans b2, a3.trans b3, (f1.2.2.2 b).trans b4⟩
theorem ca_hears {g : gG} (R : RE Nq g) (x y : Int32) {F : Nat} (hF : 11000 < F) : Ca Nq (fX11_hears F 0 x y (gH g)) (fun g1 => fX12_hears_ F 206 x y (gH g1)) [eIx, eAr] := by
  have R0 := R
  obtain ⟨n, k, s, f, R⟩ := R
  have S := R.1
  have V := S.1
  obtain ⟨rn, h10, rk, h12⟩ := R.rv
  have W := V
  obtain ⟨hx, hn, _, hk, _, e3, e4, e5, e6, e7, e8, e11, e9, e10⟩ := W
  have hs : s ≤ 12 := R.2.1.1
  rcases inR_or (n := n) (x := x) (by omega) with e | ⟨p, hp, rfl⟩
  · refine Ca_thr R0 0 (by decide) rfl (v := nI 0) ?_ ?_
    · simp (disch := first | omega | assumption | exact isSt6 | exact isSt18 | exact isSt30) only [fX11_hears, io_0, io_s, fr_0_2, fr_0_1, bdS, ck_t, ck_T, cb_0, cb_1, ab_jn, if_true, if_false, cl_needPerson V, e, bx_r, reduceCtorEq, m1_ne, and_true, true_and, and_false, false_and, not_true_eq_false, not_false_eq_true, ne_eq, decide_true, decide_false, Bool.false_eq_true, ite_true, ite_false, if_true, if_false, Nat.add_zero, Bool.and_true, Bool.true_and, Bool.and_false, Bool.false_and, Bool.or_true, Bool.true_or, Bool.or_false, Bool.false_or, decide_not, Bool.not_true, Bool.not_false, or_true, true_or, or_false, false_or, or_self, and_self, decide_eq_true_eq]
    · simp (disch := first | omega | assumption | exact isSt6 | exact isSt18 | exact isSt30) only [fX12_hears_, io_206, fw_206_0, fi_206_0, bdS, ck_t, ck_T, cb_0, cb_1, ab_jn, if_true, if_false, rf_isPerson g rn h10, e, bI_0, gF_sF1, upd_1, nI10, reduceCtorEq, m1_ne, and_true, true_and, and_false, false_and, not_true_eq_false, not_false_eq_true, ne_eq, decide_true, decide_false, Bool.false_eq_true, ite_true, ite_false, if_true, if_false, Nat.add_zero, Bool.and_true, Bool.true_and, Bool.and_false, Bool.false_and, Bool.or_true, Bool.true_or, Bool.or_false, Bool.false_or, decide_not, Bool.not_true, Bool.not_false, or_true, true_or, or_false, false_or, or_self, and_self, decide_eq_true_eq]
  have ep := inR_of hp (show n < 2 ^ 31 by omega)
  rcases isIn_or (b := 20) (by decide) y with e | ⟨c, hc, rfl⟩
  · refine Ca_thr R0 1 (by decide) rfl (v := nI 0) ?_ ?_
    · simp (disch := first | omega | assumption | exact isSt6 | exact isSt18 | exact isSt30) only [fX11_hears, io_0, io_s, fr_0_2, fr_0_1, bdS, ck_t, ck_T, cb_0, cb_1, ab_jn, if_true, if_false, cl_needPerson V, cl_needNumber, ep, e, bx_l, bx_r, reduceCtorEq, m1_ne, and_true, true_and, and_false, false_and, not_true_eq_false, not_false_eq_true, ne_eq, decide_true, decide_false, Bool.false_eq_true, ite_true, ite_false, if_true, if_false, Nat.add_zero, Bool.and_true, Bool.true_and, Bool.and_false, Bool.false_and, Bool.or_true, Bool.true_or, Bool.or_false, Bool.false_or, decide_not, Bool.not_true, Bool.not_false, or_true, true_or, or_false, false_or, or_self, and_self, decide_eq_true_eq]
    · simp (disch := first | omega | assumption | exact isSt6 | exact isSt18 | exact isSt30) only [fX12_hears_, io_206, fw_206_0, fi_206_0, bdS, ck_t, ck_T, cb_0, cb_1, ab_jn, if_true, if_false, rf_isPerson g rn h10, rf_isIn, ep, e, bI_0, gF_sF1, upd_1, nI20, reduceCtorEq, m1_ne, and_true, true_and, and_false, false_and, not_true_eq_false, not_false_eq_true, ne_eq, decide_true, decide_false, Bool.false_eq_true, ite_true, ite_false, if_true, if_false, Nat.add_zero, Bool.and_true, Bool.true_and, Bool.and_false, Bool.false_and, Bool.or_true, Bool.true_or, Bool.or_false, Bool.false_or, decide_not, Bool.not_true, Bool.not_false, or_true, true_or, or_false, false_or, or_self, and_self, decide_eq_true_eq]
  have ec := isIn_c (b := 20) (by decide) hc
  have nn : ∀ h, fX11_needNumber (nI c) (nI 0) (nI 20) h = some (.inl ()) := fun h => by rw [cl_needNumber, ec]; rfl
  have hcp := cl_copy g isSt18 isSt6 (by omega)
  have C := cpS_Cp g (x := 18) (y := 6) (by omega)
  generalize cpS g 18 6 = g0 at hcp C
  obtain ⟨g1, f1, t1⟩ := cl_hears25 (S.copy isSt18 C) hc hp hF
  obtain ⟨D, c2, c3⟩ := scr_C C f1
  have m1 : gA g1 207 = gA g 207 := (D 207 (by omega)).2.1
  have hb := back_m (m := gA g 207) (m' := heN n (gA g 207) c) (a0 := gA g1 209) (fun i hi => heN_hi _ h10 hi c)
  refine Ca_ok (g1 := g1) (g2 := sA (sA (sF g1 206 0 (nI 0)) 209 (cp584 (gA g 207) (gA g1 209))) 207 (gA g 207)) (heN n (gA g 207) c (12 + 6 * p + 5)) ?_ ?_ ?_ ⟨n, k, s, f, scr_ok R D c2 c3 _ _⟩
  · simp (disch := first | omega | assumption | exact isSt6 | exact isSt18 | exact isSt30) only [fX11_hears, io_0, io_s, fr_0_2, fr_0_1, bdS, ck_t, ck_T, cb_0, cb_1, ab_jn, if_true, if_false, cl_needPerson V, nn, ep, bx_l, io_s, hcp, t1, reduceCtorEq, m1_ne, and_true, true_and, and_false, false_and, not_true_eq_false, not_false_eq_true, ne_eq, decide_true, decide_false, Bool.false_eq_true, ite_true, ite_false, if_true, if_false, Nat.add_zero, Bool.and_true, Bool.true_and, Bool.and_false, Bool.false_and, Bool.or_true, Bool.true_or, Bool.or_false, Bool.false_or, decide_not, Bool.not_true, Bool.not_false, or_true, true_or, or_false, false_or, or_self, and_self, decide_eq_true_eq]
  · have i1 := rf_isPerson g1 (by rw [m1]; exact rn) h10 (nI p)
    have i2 : fX12_isIn (nI c) (nI 0) (nI 20) (gH g1) = some (bI true) := by rw [rf_isIn, ec]
    have pa := rf_putsAside (sF g1 206 0 (nI 0)) hF
    simp only [gA_sF, m1] at pa
    have e7 : ¬ (207 = 209) := by omega
    have e9 : ¬ (209 = 207) := by omega
    have lp := rl_hears46 (sA (sF g1 206 0 (nI 0)) 209 (cp584 (gA g 207) (gA g1 209))) (n := n) (c := c) (by rw [gA_sA2 _ _ e7, gA_sF, m1]; exact rn) h10 hc (nI p)
    simp only [gA_sA2 _ _ e7, gA_sF, m1] at lp
    have cb := rf_comesBack (sA (sA (sF g1 206 0 (nI 0)) 209 (cp584 (gA g 207) (gA g1 209))) 207 (heN n (gA g 207) c)) hF
    simp only [gA_sA1, gA_sA2 _ _ e9, sA_sA, hb] at cb
    simp (disch := first | omega | assumption | exact isSt6 | exact isSt18 | exact isSt30) only [fX12_hears_, io_206, fw_206_0, fi_206_0, bdS, ck_t, ck_T, cb_0, cb_1, ab_jn, if_true, if_false, i1, i2, ep, bI_0, gF_sF1, upd_1, nI00, pa, lp _ hF, rf_of, gA_sA1, cb, reduceCtorEq, m1_ne, and_true, true_and, and_false, false_and, not_true_eq_false, not_false_eq_true, ne_eq, decide_true, decide_false, Bool.false_eq_true, ite_true, ite_false, if_true, if_false, Nat.add_zero, Bool.and_true, Bool.true_and, Bool.and_false, Bool.false_and, Bool.or_true, Bool.true_or, Bool.or_false, Bool.false_or, decide_not, Bool.not_true, Bool.not_false, or_true, true_or, or_false, false_or, or_self, and_self, decide_eq_true_eq]
  · rw [gF_sA, gF_sA, gF_sF1, upd_1]
