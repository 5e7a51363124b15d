variable {Nq : Nat}
/-! ===== what is SAID, and whom it allows ===== -/
def alw (sa sb sc : Nat → Nat) (x : Int32) (M : Nat → Int32) : Nat → Nat → Int32 := it (fun i M => if bt x i = true then upd M (sa i) (M (sa i) &&& (if sc i = 1 then nI (2 ^ sb i) else nI (2 ^ sb i) ^^^ (-1))) else M) M
theorem alw_S (sa sb sc : Nat → Nat) (x : Int32) (M : Nat → Int32) (i : Nat) : alw sa sb sc x M (i + 1) = if bt x i = true then upd (alw sa sb sc x M i) (sa i) (alw sa sb sc x M i (sa i) &&& (if sc i = 1 then nI (2 ^ sb i) else nI (2 ^ sb i) ^^^ (-1))) else alw sa sb sc x M i := rfl
theorem alw_cg {sa sb sc : Nat → Nat} {x : Int32} {M M' : Nat → Int32} {n z : Nat} (ha : ∀ i, i < z → sa i < n) (h : ∀ p, p < n → M p = M' p) : ∀ i, i ≤ z → ∀ p, p < n → alw sa sb sc x M i p = alw sa sb sc x M' i p
  | 0, _, p, hp => h p hp
  | i + 1, hi, p, hp => by
    have ih := alw_cg (x := x) (sb := sb) (sc := sc) ha h i (by omega)
    rw [alw_S, alw_S]
    cases c : bt x i
    · simp; exact ih p hp
    · simp only [if_true, upd_e]
      rw [ih (sa i) (ha i (by omega)), ih p hp]
/-- what the class has heard -/
def Sd (g : gG) (n z : Nat) (sa sb sc : Nat → Nat) : Prop := z ≤ 12 ∧ gF g 196 6 = nI n ∧ gF g 196 7 = nI z ∧ True ∧ ∀ i, i < z → sa i < n ∧ sb i < n ∧ sc i < 2 ∧ gA g 197 i = nI (sa i) ∧ gA g 198 i = nI (sb i) ∧ gA g 199 i = nI (sc i) ∧ True
/-- what the reference has heard -/
def Sq (g : gG) (n z : Nat) (sa sb sc : Nat → Nat) : Prop := z ≤ 12 ∧ True ∧ True ∧ gF g 206 20 = nI z ∧ ∀ i, i < z → sa i < n ∧ sb i < n ∧ sc i < 2 ∧ True ∧ True ∧ True ∧ gA g 213 (3 * i) = nI (sa i) ∧ gA g 213 (3 * i + 1) = nI (sb i) ∧ gA g 213 (3 * i + 2) = nI (sc i)
theorem Sd.a {g : gG} {n z : Nat} {sa sb sc : Nat → Nat} (S : Sd g n z sa sb sc) {a : Nat} {f : Nat → Int32} (h : a ≠ 197 ∧ a ≠ 198 ∧ a ≠ 199) : Sd (sA g a f) n z sa sb sc := by
  obtain ⟨s1, s2, s3, s4, s5⟩ := S
  refine ⟨s1, s2, s3, s4, fun i hi => ?_⟩
  rw [gA_sA2 _ _ (by omega), gA_sA2 _ _ (by omega), gA_sA2 _ _ (by omega)]
  exact s5 i hi
theorem Sq.a {g : gG} {n z : Nat} {sa sb sc : Nat → Nat} (S : Sq g n z sa sb sc) {a : Nat} {f : Nat → Int32} (h : a ≠ 213) : Sq (sA g a f) n z sa sb sc := by
  obtain ⟨s1, s2, s3, s4, s5⟩ := S
  refine ⟨s1, s2, s3, s4, fun i hi => ?_⟩
  rw [gA_sA2 _ _ (by omega)]
  exact s5 i hi
theorem cl_allowBy {g : gG} {n z : Nat} {sa sb sc : Nat → Nat} (S : Sd g n z sa sb sc) (h10 : n ≤ 10) (x : Int32) {F : Nat} (hF : 11000 < F) : fX7_allowBy F 196 x (gH g) = some (gH (sA g 200 (alw sa sb sc x (fun q => if q < 10 then nI (2 ^ n - 1) else gA g 200 q) z))) := by
  have h1 : 1 ≤ 2 ^ n := Nat.one_le_two_pow
  have s1 := sh1 (k := n) (by omega)
  have e1 : nI (2 ^ n) - nI 1 = nI (2 ^ n - 1) := pk_sub h1
  obtain ⟨z12, hp, hz, hz', hd⟩ := S
  have h0 := lp0 (L := fun F' i (g : gG) => fX7_allowBy_17 F 196 x F' i (gH g)) (n := z) (fun i => sA g 200 (alw sa sb sc x (fun q => if q < 10 then nI (2 ^ n - 1) else gA g 200 q) i)) (some (gH (sA g 200 (alw sa sb sc x (fun q => if q < 10 then nI (2 ^ n - 1) else gA g 200 q) z)))) ?_ ?_ F (by omega)
  · unfold fX7_allowBy
    have hi : ab_fi (gH g) 196 7 6 = some (nI n) := by rw [fi_196_6, hp]
    rw [fr_196_3, bdS, hi, bdS, s1, e1, cl_fill200 g _ hF, bdS]
    exact h0
  · intro F' i hi
    obtain ⟨d1, d2, d3, d4, d5, d6, _⟩ := hd i hi
    have e7 : ∀ f, gA (sA g 200 f) 197 = gA g 197 := fun f => gA_sA2 _ _ (by omega)
    have e8 : ∀ f, gA (sA g 200 f) 198 = gA g 198 := fun f => gA_sA2 _ _ (by omega)
    have e9 : ∀ f, gA (sA g 200 f) 199 = gA g 199 := fun f => gA_sA2 _ _ (by omega)
    rw [alw_S]
    cases c : bt x i
    · simp (disch := omega) only [fX7_allowBy_17, fi_196_7, fr_196_1, ia_198, iw_198, fr_196_3, ia_200, iw_200, fr_196_0, ia_197, iw_197, fr_196_2, ia_199, iw_199, bdS, ck_t, ck_T, cb_0, cb_1, ab_jn, if_true, if_false, gF_sA, hz, hi, cl_hasX, c, bI_0, nI_add, pk_mul, nI_ltI, nI_leI, nI_eq, reduceCtorEq, m1_ne, and_true, true_and, and_false, false_and, not_true_eq_false, not_false_eq_true, ne_eq, decide_true, decide_false, Bool.false_eq_true, ite_true, ite_false, if_true, if_false, Nat.add_zero, Bool.and_true, Bool.true_and, Bool.and_false, Bool.false_and, Bool.or_true, Bool.true_or, Bool.or_false, Bool.false_or, decide_not, Bool.not_true, Bool.not_false, or_true, true_or, or_false, false_or, or_self, and_self, decide_eq_true_eq]
    · have : sc i = 0 ∨ sc i = 1 := by omega
      rcases this with c1 | c1
      · rw [c1] at d6
        have n1 : ¬ sc i = 1 := by omega
        simp (disch := omega) only [fX7_allowBy_17, fi_196_7, fr_196_1, ia_198, iw_198, fr_196_3, ia_200, iw_200, fr_196_0, ia_197, iw_197, fr_196_2, ia_199, iw_199, bdS, ck_t, ck_T, cb_0, cb_1, ab_jn, if_true, if_false, gF_sA, hz, hi, cl_hasX, c, bI_0, e7, e8, e9, d4, d5, d6, ia_197, ia_198, ia_199, ia_200, iw_200, gA_sA1, sA_sA, sh1, z_eq, n1, nI_add, pk_mul, nI_ltI, nI_leI, nI_eq, reduceCtorEq, m1_ne, and_true, true_and, and_false, false_and, not_true_eq_false, not_false_eq_true, ne_eq, decide_true, decide_false, Bool.false_eq_true, ite_true, ite_false, if_true, if_false, Nat.add_zero, Bool.and_true, Bool.true_and, Bool.and_false, Bool.false_and, Bool.or_true, Bool.true_or, Bool.or_false, Bool.false_or, decide_not, Bool.not_true, Bool.not_false, or_true, true_or, or_false, false_or, or_self, and_self, decide_eq_true_eq]
      · rw [c1] at d6
        simp (disch := omega) only [fX7_allowBy_17, fi_196_7, fr_196_1, ia_198, iw_198, fr_196_3, ia_200, iw_200, fr_196_0, ia_197, iw_197, fr_196_2, ia_199, iw_199, bdS, ck_t, ck_T, cb_0, cb_1, ab_jn, if_true, if_false, gF_sA, hz, hi, cl_hasX, c, bI_0, e7, e8, e9, d4, d5, d6, ia_197, ia_198, ia_199, ia_200, iw_200, gA_sA1, sA_sA, sh1, z_eq, c1, show ¬ (1 = 0) by omega, nI_add, pk_mul, nI_ltI, nI_leI, nI_eq, reduceCtorEq, m1_ne, and_true, true_and, and_false, false_and, not_true_eq_false, not_false_eq_true, ne_eq, decide_true, decide_false, Bool.false_eq_true, ite_true, ite_false, if_true, if_false, Nat.add_zero, Bool.and_true, Bool.true_and, Bool.and_false, Bool.false_and, Bool.or_true, Bool.true_or, Bool.or_false, Bool.false_or, decide_not, Bool.not_true, Bool.not_false, or_true, true_or, or_false, false_or, or_self, and_self, decide_eq_true_eq]
  · intro F'
    simp (disch := omega) only [fX7_allowBy_17, fi_196_7, fr_196_1, ia_198, iw_198, fr_196_3, ia_200, iw_200, fr_196_0, ia_197, iw_197, fr_196_2, ia_199, iw_199, bdS, ck_t, ck_T, cb_0, cb_1, ab_jn, if_true, if_false, gF_sA, hz, Nat.lt_irrefl, nI_add, pk_mul, nI_ltI, nI_leI, nI_eq, reduceCtorEq, m1_ne, and_true, true_and, and_false, false_and, not_true_eq_false, not_false_eq_true, ne_eq, decide_true, decide_false, Bool.false_eq_true, ite_true, ite_false, if_true, if_false, Nat.add_zero, Bool.and_true, Bool.true_and, Bool.and_false, Bool.false_and, Bool.or_true, Bool.true_or, Bool.or_false, Bool.false_or, decide_not, Bool.not_true, Bool.not_false, or_true, true_or, or_false, false_or, or_self, and_self, decide_eq_true_eq]
theorem rf_owned (g : gG) {n : Nat} (hn : gA g 207 3 = nI n) (h10 : n ≤ 10) {F : Nat} (hF : 11000 < F) {z : Nat} {sa sb sc : Nat → Nat} (S : Sq g n z sa sb sc) (x : Int32) : ∃ M O, fX12_owned F 206 x (gH g) = some (ov (alw sa sb sc x (fun _ => nI (2 ^ n - 1)) z) n (fun _ => nI 1) (2 ^ n - 1), gH (sA (sA g 214 M) 215 O)) ∧ ∀ p, p < n → M p = alw sa sb sc x (fun _ => nI (2 ^ n - 1)) z p := by
  have h1 : 1 ≤ 2 ^ n := Nat.one_le_two_pow
  have s1 := sh1 (k := n) (by omega)
  have e1 : nI (2 ^ n) - nI 1 = nI (2 ^ n - 1) := pk_sub h1
  obtain ⟨z12, hp, hz, hz', hd⟩ := S
  have r9 : ∀ K, fX12_owned_9 F 206 x (nI n) K F (nI 0) (gH g) = K (gH (sA g 214 (fun q => if q < n then nI (2 ^ n - 1) else gA g 214 q))) := by
    intro K
    have h0 := lp0 (L := fun F' i (g : gG) => fX12_owned_9 F 206 x (nI n) K F' i (gH g)) (n := n) (fun i => sA g 214 (fun q => if q < i then nI (2 ^ n - 1) else gA g 214 q)) (K (gH (sA g 214 (fun q => if q < n then nI (2 ^ n - 1) else gA g 214 q)))) ?_ ?_ F (by omega)
    · have e2 : sA g 214 (fun q => if q < 0 then nI (2 ^ n - 1) else gA g 214 q) = g := by
        have : (fun q => if q < 0 then nI (2 ^ n - 1) else gA g 214 q) = gA g 214 := by funext q; rw [if_neg (by omega)]
        rw [this, sA_id]
      rw [e2] at h0; exact h0
    · intro F' i hi
      have e6 : upd (fun q => if q < i then nI (2 ^ n - 1) else gA g 214 q) i (nI (2 ^ n - 1)) = fun q => if q < i + 1 then nI (2 ^ n - 1) else gA g 214 q := by
        funext q
        rw [upd_e]
        by_cases c : q = i
        · rw [if_pos c, if_pos (by omega)]
        · rw [if_neg c]
          by_cases c2 : q < i
          · rw [if_pos c2, if_pos (by omega)]
          · rw [if_neg c2, if_neg (by omega)]
      simp (disch := omega) only [fX12_owned_9, fr_206_21, iw_214, bdS, ck_t, ck_T, cb_0, cb_1, ab_jn, if_true, if_false, hi, s1, e1, gA_sA1, sA_sA, e6, nI_add, pk_mul, nI_ltI, nI_leI, nI_eq, reduceCtorEq, m1_ne, and_true, true_and, and_false, false_and, not_true_eq_false, not_false_eq_true, ne_eq, decide_true, decide_false, Bool.false_eq_true, ite_true, ite_false, if_true, if_false, Nat.add_zero, Bool.and_true, Bool.true_and, Bool.and_false, Bool.false_and, Bool.or_true, Bool.true_or, Bool.or_false, Bool.false_or, decide_not, Bool.not_true, Bool.not_false, or_true, true_or, or_false, false_or, or_self, and_self, decide_eq_true_eq]
    · intro F'
      simp (disch := omega) only [fX12_owned_9, fr_206_21, iw_214, bdS, ck_t, ck_T, cb_0, cb_1, ab_jn, if_true, if_false, Nat.lt_irrefl, nI_add, pk_mul, nI_ltI, nI_leI, nI_eq, reduceCtorEq, m1_ne, and_true, true_and, and_false, false_and, not_true_eq_false, not_false_eq_true, ne_eq, decide_true, decide_false, Bool.false_eq_true, ite_true, ite_false, if_true, if_false, Nat.add_zero, Bool.and_true, Bool.true_and, Bool.and_false, Bool.false_and, Bool.or_true, Bool.true_or, Bool.or_false, Bool.false_or, decide_not, Bool.not_true, Bool.not_false, or_true, true_or, or_false, false_or, or_self, and_self, decide_eq_true_eq]
  have r33 : ∀ K, fX12_owned_33 F 206 x K F (nI 0) (gH (sA g 214 (fun q => if q < n then nI (2 ^ n - 1) else gA g 214 q))) = K (gH (sA g 214 (alw sa sb sc x (fun q => if q < n then nI (2 ^ n - 1) else gA g 214 q) z))) := by
    intro K
    refine lp0 (L := fun F' i (g : gG) => fX12_owned_33 F 206 x K F' i (gH g)) (n := z) (fun i => sA g 214 (alw sa sb sc x (fun q => if q < n then nI (2 ^ n - 1) else gA g 214 q) i)) _ ?_ ?_ F (by omega)
    · intro F' i hi
      obtain ⟨d1, d2, d3, _, _, _, d4, d5, d6⟩ := hd i hi
      have e3 : ∀ f, gA (sA g 214 f) 213 = gA g 213 := fun f => gA_sA2 _ _ (by omega)
      rw [alw_S]
      cases c : bt x i
      · simp (disch := omega) only [fX12_owned_33, fi_206_20, fr_206_19, ia_213, iw_213, fr_206_21, ia_214, iw_214, bdS, ck_t, ck_T, cb_0, cb_1, ab_jn, if_true, if_false, gF_sA, hz', hi, rf_isOfX, c, bI_0, nI_add, pk_mul, nI_ltI, nI_leI, nI_eq, reduceCtorEq, m1_ne, and_true, true_and, and_false, false_and, not_true_eq_false, not_false_eq_true, ne_eq, decide_true, decide_false, Bool.false_eq_true, ite_true, ite_false, if_true, if_false, Nat.add_zero, Bool.and_true, Bool.true_and, Bool.and_false, Bool.false_and, Bool.or_true, Bool.true_or, Bool.or_false, Bool.false_or, decide_not, Bool.not_true, Bool.not_false, or_true, true_or, or_false, false_or, or_self, and_self, decide_eq_true_eq]
      · have : sc i = 0 ∨ sc i = 1 := by omega
        rcases this with c1 | c1
        · rw [c1] at d6
          have n1 : ¬ sc i = 1 := by omega
          simp (disch := omega) only [fX12_owned_33, fi_206_20, fr_206_19, ia_213, iw_213, fr_206_21, ia_214, iw_214, bdS, ck_t, ck_T, cb_0, cb_1, ab_jn, if_true, if_false, gF_sA, hz', hi, rf_isOfX, c, bI_0, e3, d4, d5, d6, gA_sA1, sA_sA, sh1, n1, show ¬ (0 = 1) by omega, nI_add, pk_mul, nI_ltI, nI_leI, nI_eq, reduceCtorEq, m1_ne, and_true, true_and, and_false, false_and, not_true_eq_false, not_false_eq_true, ne_eq, decide_true, decide_false, Bool.false_eq_true, ite_true, ite_false, if_true, if_false, Nat.add_zero, Bool.and_true, Bool.true_and, Bool.and_false, Bool.false_and, Bool.or_true, Bool.true_or, Bool.or_false, Bool.false_or, decide_not, Bool.not_true, Bool.not_false, or_true, true_or, or_false, false_or, or_self, and_self, decide_eq_true_eq]
        · rw [c1] at d6
          simp (disch := omega) only [fX12_owned_33, fi_206_20, fr_206_19, ia_213, iw_213, fr_206_21, ia_214, iw_214, bdS, ck_t, ck_T, cb_0, cb_1, ab_jn, if_true, if_false, gF_sA, hz', hi, rf_isOfX, c, bI_0, e3, d4, d5, d6, gA_sA1, sA_sA, sh1, c1, nI_add, pk_mul, nI_ltI, nI_leI, nI_eq, reduceCtorEq, m1_ne, and_true, true_and, and_false, false_and, not_true_eq_false, not_false_eq_true, ne_eq, decide_true, decide_false, Bool.false_eq_true, ite_true, ite_false, if_true, if_false, Nat.add_zero, Bool.and_true, Bool.true_and, Bool.and_false, Bool.false_and, Bool.or_true, Bool.true_or, Bool.or_false, Bool.false_or, decide_not, Bool.not_true, Bool.not_false, or_true, true_or, or_false, false_or, or_self, and_self, decide_eq_true_eq]
    · intro F'
      simp (disch := omega) only [fX12_owned_33, fi_206_20, fr_206_19, ia_213, iw_213, fr_206_21, ia_214, iw_214, bdS, ck_t, ck_T, cb_0, cb_1, ab_jn, if_true, if_false, gF_sA, hz', Nat.lt_irrefl, nI_add, pk_mul, nI_ltI, nI_leI, nI_eq, reduceCtorEq, m1_ne, and_true, true_and, and_false, false_and, not_true_eq_false, not_false_eq_true, ne_eq, decide_true, decide_false, Bool.false_eq_true, ite_true, ite_false, if_true, if_false, Nat.add_zero, Bool.and_true, Bool.true_and, Bool.and_false, Bool.false_and, Bool.or_true, Bool.true_or, Bool.or_false, Bool.false_or, decide_not, Bool.not_true, Bool.not_false, or_true, true_or, or_false, false_or, or_self, and_self, decide_eq_true_eq]
  have hM : ∀ p, p < n → alw sa sb sc x (fun q => if q < n then nI (2 ^ n - 1) else gA g 214 q) z p = alw sa sb sc x (fun _ => nI (2 ^ n - 1)) z p := fun p hp => alw_cg (n := n) (fun i hi => (hd i hi).1) (fun q hq => by rw [if_pos hq]) z (Nat.le_refl z) p hp
  have rc := rf_counts (sA g 214 (alw sa sb sc x (fun q => if q < n then nI (2 ^ n - 1) else gA g 214 q) z)) (n := n) (by rw [gA_sA2 _ _ (by omega)]; exact hn) h10 hF
  rw [gA_sA1] at rc
  rw [wt_G (G' := fun _ => nI 1) (by rw [upd_1]), ov_al h10 hM _ (by omega)] at rc
  generalize (tb (alw sa sb sc x (fun q => if q < n then nI (2 ^ n - 1) else gA g 214 q) z) n (upd (gA (sA g 214 (alw sa sb sc x (fun q => if q < n then nI (2 ^ n - 1) else gA g 214 q) z)) 215) 0 (nI 1)) (2 ^ n - 1)) = O at rc
  refine ⟨alw sa sb sc x (fun q => if q < n then nI (2 ^ n - 1) else gA g 214 q) z, O, ?_, hM⟩
  simp (disch := omega) only [fX12_owned, io_206, fr_206_1, ia_207, bdS, ck_t, ck_T, cb_0, cb_1, ab_jn, if_true, if_false, hn, r9, r33, rc]
