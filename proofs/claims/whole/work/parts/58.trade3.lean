variable {Nq : Nat}
/-! ===== trade: the class ===== -/
theorem Sv.k {g g' : gG} {x : Nat} {m : Nat → Int32} {n k : Nat} (V : Sv g x m n k) (hF : gF g' x = gF g x) (hA : ∀ r, r < 12 → gA g' (x + r) = gA g (x + r)) : Sv g' x m n k := by
  obtain ⟨hx, hn, h10, hk, h12, e3, e4, e5, e6, e7, e8, e11, e9, e10⟩ := V
  refine ⟨hx, by rw [hF]; exact hn, h10, by rw [hF]; exact hk, h12, ?_, ?_, ?_, ?_, ?_, ?_, ?_, ?_, ?_⟩
  · rw [hA 3 (by decide)]; exact e3
  · rw [hA 4 (by decide)]; exact e4
  · rw [hA 5 (by decide)]; exact e5
  · rw [hA 6 (by decide)]; exact e6
  · rw [hA 7 (by decide)]; exact e7
  · rw [hA 8 (by decide)]; exact e8
  · rw [hA 11 (by decide)]; exact e11
  · rw [hA 9 (by decide)]; exact e9
  · rw [hA 10 (by decide)]; exact e10
theorem Sv.a {g : gG} {m : Nat → Int32} {n k a : Nat} {f : Nat → Int32} (V : Sv g 6 m n k) (ha : 18 ≤ a) : Sv (sA g a f) 6 m n k := V.k rfl (fun r hr => gA_sA2 _ _ (by omega))
theorem Sv.f {g : gG} {m : Nat → Int32} {n k a j : Nat} {v : Int32} (V : Sv g 6 m n k) (ha : 18 ≤ a) : Sv (sF g a j v) 6 m n k := V.k (gF_sF2 _ _ (by omega)) (fun r hr => rfl)
theorem sA_comm (g : gG) {a b : Nat} (h : a ≠ b) (f f' : Nat → Int32) : sA (sA g a f) b f' = sA (sA g b f') a f := by
  unfold sA
  refine Prod.ext rfl (Prod.ext rfl (Prod.ext ?_ rfl))
  funext c
  show (if c = b then f' else if c = a then f else g.2.2.1 c) = (if c = a then f else if c = b then f' else g.2.2.1 c)
  by_cases c1 : c = a
  · have c2 : ¬ c = b := fun e => h (c1.symm.trans e)
    simp only [c1, if_true]
    rw [if_neg (fun e => h e)]
  · simp only [c1, if_false]
def ptA (m : Nat → Int32) (n : Nat) (x : Int32) (P : Nat → Int32) (i : Nat) : Nat → Int32 := fun q => if q < i ∧ bt x q = true then nI (ptN m n (bt x) q) else P q
theorem cl_point {g : gG} {m : Nat → Int32} {n k : Nat} (V : Sv g 6 m n k) {F : Nat} (hF : 11000 < F) {y : Int32} (W : Wx m n y) : fX5_point F 203 6 y (gH g) = some (gH (sA g 205 (ptA m n y (gA g 205) n))) := by
  have W0 := V
  have W := V
  obtain ⟨hx, hn, h10, hk, h12, e3, e4, e5, e6, e7, e8, e11, e9, e10⟩ := W
  unfold fX5_point
  have h0 := lp0 (L := fun F' i (g : gG) => fX5_point_2 F 203 6 y F' i (gH g)) (n := n) (fun i => sA g 205 (ptA m n y (gA g 205) i)) (some (gH (sA g 205 (ptA m n y (gA g 205) n)))) ?_ ?_ F (by omega)
  · have e2 : sA g 205 (ptA m n y (gA g 205) 0) = g := by
      have : ptA m n y (gA g 205) 0 = gA g 205 := by funext q; unfold ptA; rw [if_neg (by omega)]
      rw [this, sA_id]
    rw [e2] at h0; exact h0
  · intro F' i hi
    have V1 : Sv (sA g 205 (ptA m n y (gA g 205) i)) 6 m n k := V.a (by decide)
    have hn1 := V1.2.1
    cases c : bt y i
    · have e6 : ptA m n y (gA g 205) (i + 1) = ptA m n y (gA g 205) i := by
        funext q
        unfold ptA
        by_cases cq : q = i
        · subst cq; rw [if_neg (by rw [c]; simp), if_neg (by omega)]
        · by_cases c2 : q < i ∧ bt y q = true
          · rw [if_pos c2, if_pos ⟨by omega, c2.2⟩]
          · rw [if_neg c2, if_neg (fun h => c2 ⟨by omega, h.2⟩)]
      rw [e6]
      simp (disch := first | omega | assumption | exact isSt6 | exact isSt18 | exact isSt30) only [fX5_point_2, fi_s0, fr_203_1, iw_205, bdS, ck_t, ck_T, cb_0, cb_1, ab_jn, if_true, if_false, fi_s0, hn1, hi, cl_hasX, c, bI_0, nI_add, pk_mul, nI_ltI, nI_leI, nI_eq, reduceCtorEq, m1_ne, and_true, true_and, and_false, false_and, not_true_eq_false, not_false_eq_true, ne_eq, decide_true, decide_false, Bool.false_eq_true, ite_true, ite_false, if_true, if_false, Nat.add_zero, Bool.and_true, Bool.true_and, Bool.and_false, Bool.false_and, Bool.or_true, Bool.true_or, Bool.or_false, Bool.false_or, decide_not, Bool.not_true, Bool.not_false, or_true, true_or, or_false, false_or, or_self, and_self, decide_eq_true_eq]
    · have b := (cl_bringer V1 hF y W.1 hi W.2.1).1
      have e6 : upd (ptA m n y (gA g 205) i) i (nI (ptN m n (bt y) i)) = ptA m n y (gA g 205) (i + 1) := by
        funext q
        rw [upd_e]
        unfold ptA
        by_cases cq : q = i
        · subst cq; rw [if_pos rfl, if_pos ⟨by omega, c⟩]
        · rw [if_neg cq]
          by_cases c2 : q < i ∧ bt y q = true
          · rw [if_pos c2, if_pos ⟨by omega, c2.2⟩]
          · rw [if_neg c2, if_neg (fun h => c2 ⟨by omega, h.2⟩)]
      simp (disch := first | omega | assumption | exact isSt6 | exact isSt18 | exact isSt30) only [fX5_point_2, fi_s0, fr_203_1, iw_205, bdS, ck_t, ck_T, cb_0, cb_1, ab_jn, if_true, if_false, fi_s0, hn1, hi, cl_hasX, c, bI_0, b, gA_sA1, sA_sA, e6, nI_add, pk_mul, nI_ltI, nI_leI, nI_eq, reduceCtorEq, m1_ne, and_true, true_and, and_false, false_and, not_true_eq_false, not_false_eq_true, ne_eq, decide_true, decide_false, Bool.false_eq_true, ite_true, ite_false, if_true, if_false, Nat.add_zero, Bool.and_true, Bool.true_and, Bool.and_false, Bool.false_and, Bool.or_true, Bool.true_or, Bool.or_false, Bool.false_or, decide_not, Bool.not_true, Bool.not_false, or_true, true_or, or_false, false_or, or_self, and_self, decide_eq_true_eq]
  · intro F'
    have V1 : Sv (sA g 205 (ptA m n y (gA g 205) n)) 6 m n k := V.a (by decide)
    have hn1 := V1.2.1
    simp (disch := first | omega | assumption | exact isSt6 | exact isSt18 | exact isSt30) only [fX5_point_2, fi_s0, fr_203_1, iw_205, bdS, ck_t, ck_T, cb_0, cb_1, ab_jn, if_true, if_false, fi_s0, hn1, Nat.lt_irrefl, nI_add, pk_mul, nI_ltI, nI_leI, nI_eq, reduceCtorEq, m1_ne, and_true, true_and, and_false, false_and, not_true_eq_false, not_false_eq_true, ne_eq, decide_true, decide_false, Bool.false_eq_true, ite_true, ite_false, if_true, if_false, Nat.add_zero, Bool.and_true, Bool.true_and, Bool.and_false, Bool.false_and, Bool.or_true, Bool.true_or, Bool.or_false, Bool.false_or, decide_not, Bool.not_true, Bool.not_false, or_true, true_or, or_false, false_or, or_self, and_self, decide_eq_true_eq]
theorem nv_bits {x : Int32} (h : ∀ b, b < 32 → bt x b = true → b < 10) : nv x < 1024 := by
  unfold nv
  refine Nat.lt_pow_two_of_testBit (n := 10) _ (fun i hi => ?_)
  by_cases c : i < 32
  · have e : x.toBitVec.toNat.testBit i = bt x i := rfl
    rw [e]
    cases cb : bt x i
    · rfl
    · have := h i c cb; omega
  · exact BitVec.testBit_toNat (x := x.toBitVec) (i := i) ▸ BitVec.getLsbD_of_ge _ _ (by omega)
theorem cl_lo {m : Nat → Int32} {n : Nat} {x : Int32} (W : Wx m n x) (hb : ∀ b, b < 32 → bt x b = true → b < n) (h : ab_H) : fJ6_numberOfTrailingZeros_0f7a4 x h = some (nI (lo n x)) := by
  have h10 := W.1.1
  obtain ⟨l1, l2, l3⟩ := lo_in W
  have hl := nv_bits (x := x) (fun b h1 h2 => by have := hb b h1 h2; omega)
  have h0 : nv x ≠ 0 := fun e => by
    have : x = nI 0 := by rw [← nI_nv x, e]
    rw [this, nI_0, b_0] at l2; cases l2
  have t := cl_ntz h hl h0
  rw [nI_nv] at t
  have e : fa_first (bt x) 32 = lo n x := by
    rcases Nat.lt_trichotomy (fa_first (bt x) 32) (lo n x) with hlt | hlt | hlt
    · have := fa_first_yes (bt x) 32 (by omega)
      rw [l3 _ hlt] at this; cases this
    · exact hlt
    · have := fa_first_no (bt x) 32 (lo n x) hlt
      rw [l2] at this; cases this
  rw [e] at t
  exact t
theorem cl_giveRing {g : gG} {m : Nat → Int32} {n k : Nat} (V : Sv g 6 m n k) {F : Nat} (hF : 11000 < F) {y : Int32} (W : Wx m n y) (hb : ∀ b, b < 32 → bt y b = true → b < n) (hP : ∀ q, q < n → bt y q = true → gA g 205 q = nI (ptN m n (bt y) q)) : fX5_giveRing F 203 6 y (gH g) = some (lvs m n y, gH (sA g 204 (gv m n y (gA g 204)))) := by
  have W := V
  obtain ⟨hx, hn, h10, hk, h12, e3, e4, e5, e6, e7, e8, e11, e9, e10⟩ := W
  obtain ⟨t1, t2, t3, t4⟩ := lvT_ok W
  have e5' : ¬ (205 = 204) := by omega
  have r8 : ∀ K, fX5_giveRing_8 F 203 6 (gH g) K F (nI (lo n y)) (nI 0) = K (nI (wk m n y 10)) := by
    intro K
    refine lp0 (L := fun F' i (a : Int32) => fX5_giveRing_8 F 203 6 (gH g) K F' a i) (n := 10) (fun i => nI (wk m n y i)) _ ?_ ?_ F (by omega)
    · intro F' i hi
      have w := wk_in W i
      have p := hP _ w.1 w.2
      simp (disch := omega) only [fX5_giveRing_8, fr_203_1, ia_205, bdS, ck_t, ck_T, cb_0, cb_1, ab_jn, if_true, if_false, hi, p, wk, nI_add, pk_mul, nI_ltI, nI_leI, nI_eq, reduceCtorEq, m1_ne, and_true, true_and, and_false, false_and, not_true_eq_false, not_false_eq_true, ne_eq, decide_true, decide_false, Bool.false_eq_true, ite_true, ite_false, if_true, if_false, Nat.add_zero, Bool.and_true, Bool.true_and, Bool.and_false, Bool.false_and, Bool.or_true, Bool.true_or, Bool.or_false, Bool.false_or, decide_not, Bool.not_true, Bool.not_false, or_true, true_or, or_false, false_or, or_self, and_self, decide_eq_true_eq]
    · intro F'
      simp (disch := omega) only [fX5_giveRing_8, fr_203_1, ia_205, bdS, ck_t, ck_T, cb_0, cb_1, ab_jn, if_true, if_false, Nat.lt_irrefl, nI_add, pk_mul, nI_ltI, nI_leI, nI_eq, reduceCtorEq, m1_ne, and_true, true_and, and_false, false_and, not_true_eq_false, not_false_eq_true, ne_eq, decide_true, decide_false, Bool.false_eq_true, ite_true, ite_false, if_true, if_false, Nat.add_zero, Bool.and_true, Bool.true_and, Bool.and_false, Bool.false_and, Bool.or_true, Bool.true_or, Bool.or_false, Bool.false_or, decide_not, Bool.not_true, Bool.not_false, or_true, true_or, or_false, false_or, or_self, and_self, decide_eq_true_eq]
  have r34 : fX5_giveRing_34 F 203 6 F (nI (wk m n y 10)) (nI 0) (nI 0) (gH g) = some (lvs m n y, gH (sA g 204 (gv m n y (gA g 204)))) := by
    have h0 := lpx (L := fun F' i (a : Int32 × Int32 × gG) => fX5_giveRing_34 F 203 6 F' a.1 a.2.1 i (gH a.2.2)) (n := 10) (fun j => (nI (qq m n y j), lv m n y j, sA g 204 (gj m n y (gA g 204) j))) (fun j => bt (lv m n y j) (qq m n y j) = true) (some (lvs m n y, gH (sA g 204 (gv m n y (gA g 204))))) ?_ ?_ ?_ F (by omega)
    · rw [gj_0, sA_id] at h0; exact h0
    · intro F' j hj _ hE
      have hf : bt (lv m n y j) (qq m n y j) = false := by simpa using hE
      have q := qq_in W j
      have q1 := (qq_in W (j + 1)).1
      rw [qq_S] at q1
      have p := hP _ q.1 q.2
      have P1 : gA (sA g 204 (gj m n y (gA g 204) j)) 205 = gA g 205 := gA_sA2 _ _ e5'
      have P2 : gA (sA g 204 (gj m n y (gA g 204) (j + 1))) 205 = gA g 205 := gA_sA2 _ _ e5'
      have w1 : gA (sA g 204 (gj m n y (gA g 204) j)) (6 + 5) = gA g (6 + 5) := gA_sA2 _ _ (by omega)
      have w2 := e5 (ptN m n (bt y) (qq m n y j)) q1
      have gs := gj_S (m := m) (n := n) (x := y) (gA g 204) j
      rw [lv_S, qq_S]
      simp (disch := first | omega | assumption | exact isSt6 | exact isSt18 | exact isSt30) only [fX5_giveRing_34, fr_203_0, ia_204, iw_204, fr_s11, ia_s5, iw_s5, fr_203_1, ia_205, iw_205, bdS, ck_t, ck_T, cb_0, cb_1, ab_jn, if_true, if_false, hj, cl_hasX, hf, bI_0, fr_s11, ia_s5, P1, p, w1, w2, gA_sA1, sA_sA, gs, P2, sh1, nI_add, pk_mul, nI_ltI, nI_leI, nI_eq, reduceCtorEq, m1_ne, and_true, true_and, and_false, false_and, not_true_eq_false, not_false_eq_true, ne_eq, decide_true, decide_false, Bool.false_eq_true, ite_true, ite_false, if_true, if_false, Nat.add_zero, Bool.and_true, Bool.true_and, Bool.and_false, Bool.false_and, Bool.or_true, Bool.true_or, Bool.or_false, Bool.false_or, decide_not, Bool.not_true, Bool.not_false, or_true, true_or, or_false, false_or, or_self, and_self, decide_eq_true_eq]
    · intro F' j hj hno hE
      have hT : lvT m n y = j := by
        rcases Nat.lt_trichotomy (lvT m n y) j with h | h | h
        · exact absurd t3 (hno _ h)
        · exact h
        · have := t4 j h; rw [hE] at this; cases this
      have q := qq_in W j
      unfold lvs gv
      rw [hT]
      simp (disch := first | omega | assumption | exact isSt6 | exact isSt18 | exact isSt30) only [fX5_giveRing_34, fr_203_0, ia_204, iw_204, fr_s11, ia_s5, iw_s5, fr_203_1, ia_205, iw_205, bdS, ck_t, ck_T, cb_0, cb_1, ab_jn, if_true, if_false, hj, cl_hasX, hE, bI_0, nI_add, pk_mul, nI_ltI, nI_leI, nI_eq, reduceCtorEq, m1_ne, and_true, true_and, and_false, false_and, not_true_eq_false, not_false_eq_true, ne_eq, decide_true, decide_false, Bool.false_eq_true, ite_true, ite_false, if_true, if_false, Nat.add_zero, Bool.and_true, Bool.true_and, Bool.and_false, Bool.false_and, Bool.or_true, Bool.true_or, Bool.or_false, Bool.false_or, decide_not, Bool.not_true, Bool.not_false, or_true, true_or, or_false, false_or, or_self, and_self, decide_eq_true_eq]
    · intro F' hno
      have hT : lvT m n y = 10 := by
        apply Decidable.byContradiction
        intro hne
        exact hno _ (by omega) t3
      unfold lvs gv
      rw [hT]
      simp (disch := first | omega | assumption | exact isSt6 | exact isSt18 | exact isSt30) only [fX5_giveRing_34, fr_203_0, ia_204, iw_204, fr_s11, ia_s5, iw_s5, fr_203_1, ia_205, iw_205, bdS, ck_t, ck_T, cb_0, cb_1, ab_jn, if_true, if_false, Nat.lt_irrefl, nI_add, pk_mul, nI_ltI, nI_leI, nI_eq, reduceCtorEq, m1_ne, and_true, true_and, and_false, false_and, not_true_eq_false, not_false_eq_true, ne_eq, decide_true, decide_false, Bool.false_eq_true, ite_true, ite_false, if_true, if_false, Nat.add_zero, Bool.and_true, Bool.true_and, Bool.and_false, Bool.false_and, Bool.or_true, Bool.true_or, Bool.or_false, Bool.false_or, decide_not, Bool.not_true, Bool.not_false, or_true, true_or, or_false, false_or, or_self, and_self, decide_eq_true_eq]
  unfold fX5_giveRing
  rw [cl_lo W hb, bdS, r8, r34]
def paS (m : Nat → Int32) (n : Nat) (X : Int32) (P : Nat → Int32) : Nat → Nat → Int32
  | 0 => P
  | i + 1 => if xs m n X i = 0 then paS m n X P i else ptA m n (xs m n X i) (paS m n X P i) n
theorem cl_trade44 {g : gG} {m : Nat → Int32} {n k : Nat} (V : Sv g 6 m n k) {F : Nat} (hF : 11000 < F) {X : Int32} (W : Wb m n X) : ∃ P, fX5_trade_44 F 203 6 F X (nI 0) (gH g) = some (gH (sA (sA g 205 P) 204 (gsr m n X (gA g 204) 10))) := by
  have e5' : ¬ (205 = 204) := by omega
  have e4' : ¬ (204 = 205) := by omega
  refine ⟨paS m n X (gA g 205) 10, ?_⟩
  have p0 : ∀ i, xs m n X i = 0 → ∀ j, paS m n X (gA g 205) (i + j) = paS m n X (gA g 205) i := by
    intro i h j
    induction j with
    | zero => rfl
    | succ j ih =>
      show (if xs m n X (i + j) = 0 then paS m n X (gA g 205) (i + j) else _) = _
      rw [if_pos (xs_0 h j), ih]
  have h0 := lpx (L := fun F' i (a : Int32 × gG) => fX5_trade_44 F 203 6 F' a.1 i (gH a.2)) (n := 10) (fun i => (xs m n X i, sA (sA g 205 (paS m n X (gA g 205) i)) 204 (gsr m n X (gA g 204) i))) (fun i => xs m n X i = 0) (some (gH (sA (sA g 205 (paS m n X (gA g 205) 10)) 204 (gsr m n X (gA g 204) 10)))) ?_ ?_ ?_ F (by omega)
  · have : sA (sA g 205 (paS m n X (gA g 205) 0)) 204 (gsr m n X (gA g 204) 0) = g := by
      show sA (sA g 205 (gA g 205)) 204 (gA g 204) = g
      rw [sA_id]; exact sA_id g 204
    rw [this] at h0; exact h0
  · intro F' i hi _ hE
    have Wi := W.x hE
    have hb : ∀ b, b < 32 → bt (xs m n X i) b = true → b < n := fun b h1 h2 => W.2 b h1 (xs_sub i b h1 h2)
    have V1 : Sv (sA (sA g 205 (paS m n X (gA g 205) i)) 204 (gsr m n X (gA g 204) i)) 6 m n k := (V.a (by decide)).a (by decide)
    have pt := cl_point V1 hF Wi
    have a5 : gA (sA (sA g 205 (paS m n X (gA g 205) i)) 204 (gsr m n X (gA g 204) i)) 205 = paS m n X (gA g 205) i := by rw [gA_sA2 _ _ e5', gA_sA1]
    rw [a5] at pt
    have V2 : Sv (sA (sA (sA g 205 (paS m n X (gA g 205) i)) 204 (gsr m n X (gA g 204) i)) 205 (ptA m n (xs m n X i) (paS m n X (gA g 205) i) n)) 6 m n k := V1.a (by decide)
    have gr := cl_giveRing V2 hF Wi hb (fun q hq hbq => by rw [gA_sA1]; exact if_pos ⟨hq, hbq⟩)
    have a4 : gA (sA (sA (sA g 205 (paS m n X (gA g 205) i)) 204 (gsr m n X (gA g 204) i)) 205 (ptA m n (xs m n X i) (paS m n X (gA g 205) i) n)) 204 = gsr m n X (gA g 204) i := by rw [gA_sA2 _ _ e4', gA_sA1]
    rw [a4] at gr
    have eg : gsr m n X (gA g 204) (i + 1) = gv m n (xs m n X i) (gsr m n X (gA g 204) i) := if_neg hE
    have ep : paS m n X (gA g 205) (i + 1) = ptA m n (xs m n X i) (paS m n X (gA g 205) i) n := if_neg hE
    have est : sA (sA (sA (sA g 205 (paS m n X (gA g 205) i)) 204 (gsr m n X (gA g 204) i)) 205 (ptA m n (xs m n X i) (paS m n X (gA g 205) i) n)) 204 (gv m n (xs m n X i) (gsr m n X (gA g 204) i)) = sA (sA g 205 (ptA m n (xs m n X i) (paS m n X (gA g 205) i) n)) 204 (gv m n (xs m n X i) (gsr m n X (gA g 204) i)) := by
      rw [sA_comm _ (by decide : 204 ≠ 205), sA_sA, sA_sA]
    rw [est] at gr
    rw [eg, ep]
    simp (disch := first | omega | assumption | exact isSt6 | exact isSt18 | exact isSt30) only [fX5_trade_44, io_203, bdS, ck_t, ck_T, cb_0, cb_1, ab_jn, if_true, if_false, hi, hE, pt, gr, nI_add, pk_mul, nI_ltI, nI_leI, nI_eq, reduceCtorEq, m1_ne, and_true, true_and, and_false, false_and, not_true_eq_false, not_false_eq_true, ne_eq, decide_true, decide_false, Bool.false_eq_true, ite_true, ite_false, if_true, if_false, Nat.add_zero, Bool.and_true, Bool.true_and, Bool.and_false, Bool.false_and, Bool.or_true, Bool.true_or, Bool.or_false, Bool.false_or, decide_not, Bool.not_true, Bool.not_false, or_true, true_or, or_false, false_or, or_self, and_self, decide_eq_true_eq]
    rfl
  · intro F' i hi _ hE
    have eg : gsr m n X (gA g 204) 10 = gsr m n X (gA g 204) i := by
      have := gsr_0 (G := gA g 204) hE (10 - i)
      rwa [show i + (10 - i) = 10 by omega] at this
    have ep : paS m n X (gA g 205) 10 = paS m n X (gA g 205) i := by
      have := p0 i hE (10 - i)
      rwa [show i + (10 - i) = 10 by omega] at this
    rw [eg, ep]
    simp (disch := first | omega | assumption | exact isSt6 | exact isSt18 | exact isSt30) only [fX5_trade_44, io_203, bdS, ck_t, ck_T, cb_0, cb_1, ab_jn, if_true, if_false, hi, hE, nI_add, pk_mul, nI_ltI, nI_leI, nI_eq, reduceCtorEq, m1_ne, and_true, true_and, and_false, false_and, not_true_eq_false, not_false_eq_true, ne_eq, decide_true, decide_false, Bool.false_eq_true, ite_true, ite_false, if_true, if_false, Nat.add_zero, Bool.and_true, Bool.true_and, Bool.and_false, Bool.false_and, Bool.or_true, Bool.true_or, Bool.or_false, Bool.false_or, decide_not, Bool.not_true, Bool.not_false, or_true, true_or, or_false, false_or, or_self, and_self, decide_eq_true_eq]
  · intro F' hno
    simp (disch := first | omega | assumption | exact isSt6 | exact isSt18 | exact isSt30) only [fX5_trade_44, io_203, bdS, ck_t, ck_T, cb_0, cb_1, ab_jn, if_true, if_false, Nat.lt_irrefl, nI_add, pk_mul, nI_ltI, nI_leI, nI_eq, reduceCtorEq, m1_ne, and_true, true_and, and_false, false_and, not_true_eq_false, not_false_eq_true, ne_eq, decide_true, decide_false, Bool.false_eq_true, ite_true, ite_false, if_true, if_false, Nat.add_zero, Bool.and_true, Bool.true_and, Bool.and_false, Bool.false_and, Bool.or_true, Bool.true_or, Bool.or_false, Bool.false_or, decide_not, Bool.not_true, Bool.not_false, or_true, true_or, or_false, false_or, or_self, and_self, decide_eq_true_eq]
def leP (m : Nat → Int32) (n : Nat) : Int32 := nI (st (fun p => !decide (m (12 + 6 * p + 2) = -1)) n)
theorem Wb_le {m : Nat → Int32} {n k : Nat} (I : Ix m n) (W : Iw m n k) (h10 : n ≤ 10) : Wb m n (leP m n) := by
  have hb : ∀ b, bt (leP m n) b = (decide (b < n) && !decide (m (12 + 6 * b + 2) = -1)) := fun b => bt_st (by omega)
  refine ⟨⟨h10, I, W.1, W.2.1, fun o ho h => ?_⟩, fun b _ h => ?_⟩
  · rw [hb] at h
    intro e
    rw [e] at h; simp at h
  · rw [hb] at h
    apply Decidable.byContradiction
    intro c
    rw [decide_eq_false c] at h; cases h
theorem al_204 (g : gG) : ab_al (gH g) 204 = some (nI 10) := by
  have h : (gH g).2 204 = .inl (0, 10, .inl (gA g 204)) := rfl
  have h2 : 204 < (gH g).1 := gN (by decide)
  have h3 : ab_il (gH g) 204 = some 10 := by unfold ab_il; rw [h]; simp only [h2, and_self, if_true]
  unfold ab_al; rw [h3]
theorem cl_fill204 (g : gG) (v : Int32) {F : Nat} (hF : 11000 < F) : fJ7_fill_53178 F 204 v (gH g) = some (gH (sA g 204 (fun q => if q < 10 then v else gA g 204 q))) := by
  have hx : fJ7_fill_53178 F 204 v (gH g) = fJ7_fill_53178_5 204 v (nI 10) F (nI 0) (gH g) := by unfold fJ7_fill_53178; rw [al_204, bdS]
  rw [hx]
  have h0 := lp0 (L := fun F' i (g : gG) => fJ7_fill_53178_5 204 v (nI 10) F' i (gH g)) (n := 10) (fun i => sA g 204 (fun q => if q < i then v else gA g 204 q)) (some (gH (sA g 204 (fun q => if q < 10 then v else gA g 204 q)))) ?_ ?_ F (by omega)
  · have e2 : sA g 204 (fun q => if q < 0 then v else gA g 204 q) = g := by
      have : (fun q => if q < 0 then v else gA g 204 q) = gA g 204 := by funext q; rw [if_neg (by omega)]
      rw [this, sA_id]
    rw [e2] at h0; exact h0
  · intro F i hi
    have e6 : upd (fun q => if q < i then v else gA g 204 q) i v = fun q => if q < i + 1 then v else gA g 204 q := by
      funext q
      rw [upd_e]
      by_cases c : q = i
      · rw [if_pos c, if_pos (by omega)]
      · rw [if_neg c]
        by_cases c2 : q < i
        · rw [if_pos c2, if_pos (by omega)]
        · rw [if_neg c2, if_neg (by omega)]
    simp (disch := omega) only [fJ7_fill_53178_5, bdS, ck_t, ck_T, cb_0, cb_1, ab_jn, if_true, if_false, iw_204, hi, gA_sA1, sA_sA, e6, nI_add, pk_mul, nI_ltI, nI_leI, nI_eq, reduceCtorEq, m1_ne, and_true, true_and, and_false, false_and, not_true_eq_false, not_false_eq_true, ne_eq, decide_true, decide_false, Bool.false_eq_true, ite_true, ite_false, if_true, if_false, Nat.add_zero, Bool.and_true, Bool.true_and, Bool.and_false, Bool.false_and, Bool.or_true, Bool.true_or, Bool.or_false, Bool.false_or, decide_not, Bool.not_true, Bool.not_false, or_true, true_or, or_false, false_or, or_self, and_self, decide_eq_true_eq]
  · intro F
    simp (disch := omega) only [fJ7_fill_53178_5, bdS, ck_t, ck_T, cb_0, cb_1, ab_jn, if_true, if_false, Nat.lt_irrefl, nI_add, pk_mul, nI_ltI, nI_leI, nI_eq, reduceCtorEq, m1_ne, and_true, true_and, and_false, false_and, not_true_eq_false, not_false_eq_true, ne_eq, decide_true, decide_false, Bool.false_eq_true, ite_true, ite_false, if_true, if_false, Nat.add_zero, Bool.and_true, Bool.true_and, Bool.and_false, Bool.false_and, Bool.or_true, Bool.true_or, Bool.or_false, Bool.false_or, decide_not, Bool.not_true, Bool.not_false, or_true, true_or, or_false, false_or, or_self, and_self, decide_eq_true_eq]
theorem cl_trade {g : gG} {m : Nat → Int32} {n k : Nat} (V : Sv g 6 m n k) {F : Nat} (hF : 11000 < F) (I : Ix m n) (W : Iw m n k) : ∃ P, fX5_trade F 203 6 (gH g) = some (gH (sA (sA g 205 P) 204 (gsr m n (leP m n) (fun q => if q < 10 then -1 else gA g 204 q) 10))) := by
  have h10 := V.2.2.1
  have V1 : Sv (sA g 204 (fun q => if q < 10 then -1 else gA g 204 q)) 6 m n k := V.a (by decide)
  obtain ⟨P, hP⟩ := cl_trade44 V1 hF (Wb_le I W h10)
  refine ⟨P, ?_⟩
  rw [gA_sA1] at hP
  have est : sA (sA (sA g 204 (fun q => if q < 10 then -1 else gA g 204 q)) 205 P) 204 (gsr m n (leP m n) (fun q => if q < 10 then -1 else gA g 204 q) 10) = sA (sA g 205 P) 204 (gsr m n (leP m n) (fun q => if q < 10 then -1 else gA g 204 q) 10) := by
    rw [sA_comm _ (by decide : 204 ≠ 205), sA_sA]
  rw [est] at hP
  have e5 := V1.2.2.2.2.2.2.2.1
  have hn := V1.2.1
  have r12 : ∀ K, fX5_trade_12 F 203 6 (gH (sA g 204 (fun q => if q < 10 then -1 else gA g 204 q))) K F (nI 0) (nI 0) = K (leP m n) := by
    intro K
    refine lp0 (L := fun F' i (a : Int32) => fX5_trade_12 F 203 6 (gH (sA g 204 (fun q => if q < 10 then -1 else gA g 204 q))) K F' a i) (n := n) (fun i => nI (st (fun p => !decide (m (12 + 6 * p + 2) = -1)) i)) _ ?_ ?_ F (by omega)
    · intro F' i hi
      have q5 := e5 i hi
      by_cases c : m (12 + 6 * i + 2) = -1 <;>
      simp (disch := first | omega | assumption | exact isSt6 | exact isSt18 | exact isSt30) only [fX5_trade_12, fi_s0, fr_s11, ia_s5, bdS, ck_t, ck_T, cb_0, cb_1, ab_jn, if_true, if_false, fi_s0, fr_s11, ia_s5, hn, hi, q5, c, sh1, st, or_st, nI_add, pk_mul, nI_ltI, nI_leI, nI_eq, reduceCtorEq, m1_ne, and_true, true_and, and_false, false_and, not_true_eq_false, not_false_eq_true, ne_eq, decide_true, decide_false, Bool.false_eq_true, ite_true, ite_false, if_true, if_false, Nat.add_zero, Bool.and_true, Bool.true_and, Bool.and_false, Bool.false_and, Bool.or_true, Bool.true_or, Bool.or_false, Bool.false_or, decide_not, Bool.not_true, Bool.not_false, or_true, true_or, or_false, false_or, or_self, and_self, decide_eq_true_eq]
    · intro F'
      simp (disch := first | omega | assumption | exact isSt6 | exact isSt18 | exact isSt30) only [fX5_trade_12, fi_s0, fr_s11, ia_s5, bdS, ck_t, ck_T, cb_0, cb_1, ab_jn, if_true, if_false, fi_s0, hn, Nat.lt_irrefl, nI_add, pk_mul, nI_ltI, nI_leI, nI_eq, reduceCtorEq, m1_ne, and_true, true_and, and_false, false_and, not_true_eq_false, not_false_eq_true, ne_eq, decide_true, decide_false, Bool.false_eq_true, ite_true, ite_false, if_true, if_false, Nat.add_zero, Bool.and_true, Bool.true_and, Bool.and_false, Bool.false_and, Bool.or_true, Bool.true_or, Bool.or_false, Bool.false_or, decide_not, Bool.not_true, Bool.not_false, or_true, true_or, or_false, false_or, or_self, and_self, decide_eq_true_eq]
      rfl
  unfold fX5_trade
  rw [fr_203_0, bdS, cl_fill204 g (-1) hF, bdS, r12, hP]
