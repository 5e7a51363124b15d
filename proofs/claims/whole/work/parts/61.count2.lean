variable {Nq : Nat}
/-! ===== OWNERS counted: from each set on ===== -/
theorem pow2_inj {a b : Nat} (h : 2 ^ a = 2 ^ b) : a = b := by
  rcases Nat.lt_trichotomy a b with c | c | c
  · have := Nat.pow_lt_pow_right (a := 2) (by decide) c; omega
  · exact c
  · have := Nat.pow_lt_pow_right (a := 2) (by decide) c; omega
def fwC (al : Nat → Int32) (G f : Nat) : Bool := bt (al (pc (nI G))) f && !G.testBit f
def fwO (al : Nat → Int32) (O : Nat → Int32) (G i : Nat) : Nat → Int32 := fun S => if exB (fun f => decide (S = G + 2 ^ f) && fwC al G f) i = true then O S + O G else O S
theorem fwO_S {al : Nat → Int32} {O : Nat → Int32} {G i : Nat} : fwO al O G (i + 1) = if fwC al G i = true then upd (fwO al O G i) (G + 2 ^ i) (fwO al O G i (G + 2 ^ i) + fwO al O G i G) else fwO al O G i := by
  have hG : fwO al O G i G = O G := by
    unfold fwO
    rw [exB_f.mpr (fun f _ => by rw [decide_eq_false (by have := Nat.two_pow_pos f; omega)]; rfl)]
    simp
  have hN : fwO al O G i (G + 2 ^ i) = O (G + 2 ^ i) := by
    unfold fwO
    rw [exB_f.mpr (fun f hf => by
      rw [decide_eq_false (fun e => by
        have h1 : 2 ^ i = 2 ^ f := by omega
        have := pow2_inj h1
        omega)]; rfl)]
    simp
  cases c : fwC al G i
  · rw [if_neg (by simp)]
    funext S
    unfold fwO
    rw [exB_S, c, Bool.and_false, Bool.or_false]
  · rw [if_pos rfl, hG, hN]
    funext S
    rw [upd_e]
    unfold fwO
    rw [exB_S, c, Bool.and_true]
    by_cases cS : S = G + 2 ^ i
    · rw [if_pos cS, decide_eq_true cS, Bool.or_true, if_pos rfl, cS]
    · rw [if_neg cS, decide_eq_false cS, Bool.or_false]
/-- the sums so far: of the sets below t -/
def Fi (al : Nat → Int32) (n : Nat) (G0 O : Nat → Int32) (t : Nat) : Prop := O 0 = G0 0 ∧ ∀ S, 0 < S → S < 2 ^ n → O S = sumI (fun f => if S - 2 ^ f < t then wt al n G0 S f else nI 0) n
theorem Fi_ov {al : Nat → Int32} {n : Nat} {G0 O : Nat → Int32} {t : Nat} (h : Fi al n G0 O t) (ht : t < 2 ^ n) : O t = ov al n G0 t := by
  by_cases c : t = 0
  · rw [c]; exact h.1
  · rw [h.2 t (by omega) ht, ov_S al n G0 (by omega)]
    refine sumI_cong (fun f hf => ?_)
    have := Nat.two_pow_pos f
    rw [if_pos (by omega)]
theorem Fi_S {al : Nat → Int32} {n : Nat} {G0 O : Nat → Int32} {t : Nat} (h10 : n ≤ 10) (h : Fi al n G0 O t) (ht : t < 2 ^ n) : Fi al n G0 (fwO al O t n) (t + 1) := by
  have h2 : 2 ^ n ≤ 2 ^ 10 := Nat.pow_le_pow_right (by decide) h10
  have hO := Fi_ov h ht
  refine ⟨?_, fun S h0 hS => ?_⟩
  · unfold fwO
    rw [exB_f.mpr (fun f _ => by rw [decide_eq_false (by have := Nat.two_pow_pos f; omega)]; rfl)]
    simpa using h.1
  · by_cases c : ∃ f, f < n ∧ S = t + 2 ^ f ∧ t.testBit f = false
    · obtain ⟨f, hf, eS, hb⟩ := c
      obtain ⟨i1, i2, i3⟩ := set_in f (by omega) t (by omega) hb
      have e1 : S - 2 ^ f = t := by omega
      have hw : wt al n G0 S f = if bt (al (pc (nI t))) f = true then ov al n G0 t else nI 0 := by
        unfold wt
        rw [eS, i2, i3, show pc (nI t) + 1 - 1 = pc (nI t) by omega, show t + 2 ^ f - 2 ^ f = t by omega]
        simp
      have hsum := sumI_upd (g := fun f => if S - 2 ^ f < t then wt al n G0 S f else nI 0) (g' := fun f => if S - 2 ^ f < t + 1 then wt al n G0 S f else nI 0) (f0 := f) (by rw [if_neg (by omega)]) (fun f' hne => by
        by_cases c1 : S - 2 ^ f' < t
        · rw [if_pos c1, if_pos (by omega)]
        · rw [if_neg c1]
          by_cases c2 : S - 2 ^ f' < t + 1
          · rw [if_pos c2]
            unfold wt
            rw [if_neg]
            intro hc
            have hle := Nat.ge_two_pow_of_testBit hc.1
            have : 2 ^ f' = 2 ^ f := by omega
            exact hne (pow2_inj this)
          · rw [if_neg c2]) hf
      rw [hsum, ← h.2 S h0 hS, if_pos (by omega), hw]
      unfold fwO
      cases cb : bt (al (pc (nI t))) f
      · rw [exB_f.mpr (fun f' hf' => by
          cases cc : fwC al t f'
          · rw [Bool.and_false]
          · rw [Bool.and_true]
            refine decide_eq_false (fun e => ?_)
            have h1 : 2 ^ f = 2 ^ f' := by omega
            have h3 := pow2_inj h1
            subst h3
            unfold fwC at cc
            rw [cb] at cc; simp at cc)]
        simp [add_n0]
      · rw [exB_t.mpr ⟨f, hf, by rw [decide_eq_true eS]; unfold fwC; rw [cb, hb]; rfl⟩, hO]
        simp
    · have hfw : fwO al O t n S = O S := by
        unfold fwO
        rw [exB_f.mpr (fun f hf => by
          cases cb : t.testBit f
          · rw [decide_eq_false (fun e => c ⟨f, hf, e, cb⟩)]; rfl
          · unfold fwC; rw [cb]; simp)]
        simp
      rw [hfw, h.2 S h0 hS]
      refine sumI_cong (fun f hf => ?_)
      by_cases c1 : S - 2 ^ f < t
      · rw [if_pos c1, if_pos (by omega)]
      · rw [if_neg c1]
        by_cases c2 : S - 2 ^ f < t + 1
        · rw [if_pos c2]
          unfold wt
          rw [if_neg]
          intro hc
          have hle := Nat.ge_two_pow_of_testBit hc.1
          obtain ⟨_, o2, _⟩ := set_out f (by omega) S (by omega) hc.1
          rw [show S - 2 ^ f = t by omega] at o2
          exact c ⟨f, hf, by omega, o2⟩
        · rw [if_neg c2]
theorem Fi_0 {al : Nat → Int32} {n : Nat} {G0 O : Nat → Int32} (h0 : O 0 = G0 0) (h : ∀ S, 0 < S → S < 2 ^ n → O S = nI 0) : Fi al n G0 O 0 := by
  refine ⟨h0, fun S h1 h2 => ?_⟩
  rw [h S h1 h2]
  exact (sumI_0 (fun f _ => by rw [if_neg (Nat.not_lt_zero _)])).symm
theorem al_200 (g : gG) : ab_al (gH g) 200 = some (nI 10) := by
  have h : (gH g).2 200 = .inl (0, 10, .inl (gA g 200)) := rfl
  have h2 : 200 < (gH g).1 := gN (by decide)
  have h3 : ab_il (gH g) 200 = some 10 := by unfold ab_il; rw [h]; simp only [h2, and_self, if_true]
  unfold ab_al; rw [h3]
theorem cl_fill200 (g : gG) (v : Int32) {F : Nat} (hF : 11000 < F) : fJ7_fill_53178 F 200 v (gH g) = some (gH (sA g 200 (fun q => if q < 10 then v else gA g 200 q))) := by
  have hx : fJ7_fill_53178 F 200 v (gH g) = fJ7_fill_53178_5 200 v (nI 10) F (nI 0) (gH g) := by unfold fJ7_fill_53178; rw [al_200, bdS]
  rw [hx]
  have h0 := lp0 (L := fun F' i (g : gG) => fJ7_fill_53178_5 200 v (nI 10) F' i (gH g)) (n := 10) (fun i => sA g 200 (fun q => if q < i then v else gA g 200 q)) (some (gH (sA g 200 (fun q => if q < 10 then v else gA g 200 q)))) ?_ ?_ F (by omega)
  · have e2 : sA g 200 (fun q => if q < 0 then v else gA g 200 q) = g := by
      have : (fun q => if q < 0 then v else gA g 200 q) = gA g 200 := by funext q; rw [if_neg (by omega)]
      rw [this, sA_id]
    rw [e2] at h0; exact h0
  · intro F i hi
    have e6 : upd (fun q => if q < i then v else gA g 200 q) i v = fun q => if q < i + 1 then v else gA g 200 q := by
      funext q
      rw [upd_e]
      by_cases c : q = i
      · rw [if_pos c, if_pos (by omega)]
      · rw [if_neg c]
        by_cases c2 : q < i
        · rw [if_pos c2, if_pos (by omega)]
        · rw [if_neg c2, if_neg (by omega)]
    simp (disch := omega) only [fJ7_fill_53178_5, bdS, ck_t, ck_T, cb_0, cb_1, ab_jn, if_true, if_false, iw_200, hi, gA_sA1, sA_sA, e6, nI_add, pk_mul, nI_ltI, nI_leI, nI_eq, reduceCtorEq, m1_ne, and_true, true_and, and_false, false_and, not_true_eq_false, not_false_eq_true, ne_eq, decide_true, decide_false, Bool.false_eq_true, ite_true, ite_false, if_true, if_false, Nat.add_zero, Bool.and_true, Bool.true_and, Bool.and_false, Bool.false_and, Bool.or_true, Bool.true_or, Bool.or_false, Bool.false_or, decide_not, Bool.not_true, Bool.not_false, or_true, true_or, or_false, false_or, or_self, and_self, decide_eq_true_eq]
  · intro F
    simp (disch := omega) only [fJ7_fill_53178_5, bdS, ck_t, ck_T, cb_0, cb_1, ab_jn, if_true, if_false, Nat.lt_irrefl, nI_add, pk_mul, nI_ltI, nI_leI, nI_eq, reduceCtorEq, m1_ne, and_true, true_and, and_false, false_and, not_true_eq_false, not_false_eq_true, ne_eq, decide_true, decide_false, Bool.false_eq_true, ite_true, ite_false, if_true, if_false, Nat.add_zero, Bool.and_true, Bool.true_and, Bool.and_false, Bool.false_and, Bool.or_true, Bool.true_or, Bool.or_false, Bool.false_or, decide_not, Bool.not_true, Bool.not_false, or_true, true_or, or_false, false_or, or_self, and_self, decide_eq_true_eq]
theorem al_201 (g : gG) : ab_al (gH g) 201 = some (nI 10) := by
  have h : (gH g).2 201 = .inl (0, 10, .inl (gA g 201)) := rfl
  have h2 : 201 < (gH g).1 := gN (by decide)
  have h3 : ab_il (gH g) 201 = some 10 := by unfold ab_il; rw [h]; simp only [h2, and_self, if_true]
  unfold ab_al; rw [h3]
theorem cl_fill201 (g : gG) (v : Int32) {F : Nat} (hF : 11000 < F) : fJ7_fill_53178 F 201 v (gH g) = some (gH (sA g 201 (fun q => if q < 10 then v else gA g 201 q))) := by
  have hx : fJ7_fill_53178 F 201 v (gH g) = fJ7_fill_53178_5 201 v (nI 10) F (nI 0) (gH g) := by unfold fJ7_fill_53178; rw [al_201, bdS]
  rw [hx]
  have h0 := lp0 (L := fun F' i (g : gG) => fJ7_fill_53178_5 201 v (nI 10) F' i (gH g)) (n := 10) (fun i => sA g 201 (fun q => if q < i then v else gA g 201 q)) (some (gH (sA g 201 (fun q => if q < 10 then v else gA g 201 q)))) ?_ ?_ F (by omega)
  · have e2 : sA g 201 (fun q => if q < 0 then v else gA g 201 q) = g := by
      have : (fun q => if q < 0 then v else gA g 201 q) = gA g 201 := by funext q; rw [if_neg (by omega)]
      rw [this, sA_id]
    rw [e2] at h0; exact h0
  · intro F i hi
    have e6 : upd (fun q => if q < i then v else gA g 201 q) i v = fun q => if q < i + 1 then v else gA g 201 q := by
      funext q
      rw [upd_e]
      by_cases c : q = i
      · rw [if_pos c, if_pos (by omega)]
      · rw [if_neg c]
        by_cases c2 : q < i
        · rw [if_pos c2, if_pos (by omega)]
        · rw [if_neg c2, if_neg (by omega)]
    simp (disch := omega) only [fJ7_fill_53178_5, bdS, ck_t, ck_T, cb_0, cb_1, ab_jn, if_true, if_false, iw_201, hi, gA_sA1, sA_sA, e6, nI_add, pk_mul, nI_ltI, nI_leI, nI_eq, reduceCtorEq, m1_ne, and_true, true_and, and_false, false_and, not_true_eq_false, not_false_eq_true, ne_eq, decide_true, decide_false, Bool.false_eq_true, ite_true, ite_false, if_true, if_false, Nat.add_zero, Bool.and_true, Bool.true_and, Bool.and_false, Bool.false_and, Bool.or_true, Bool.true_or, Bool.or_false, Bool.false_or, decide_not, Bool.not_true, Bool.not_false, or_true, true_or, or_false, false_or, or_self, and_self, decide_eq_true_eq]
  · intro F
    simp (disch := omega) only [fJ7_fill_53178_5, bdS, ck_t, ck_T, cb_0, cb_1, ab_jn, if_true, if_false, Nat.lt_irrefl, nI_add, pk_mul, nI_ltI, nI_leI, nI_eq, reduceCtorEq, m1_ne, and_true, true_and, and_false, false_and, not_true_eq_false, not_false_eq_true, ne_eq, decide_true, decide_false, Bool.false_eq_true, ite_true, ite_false, if_true, if_false, Nat.add_zero, Bool.and_true, Bool.true_and, Bool.and_false, Bool.false_and, Bool.or_true, Bool.true_or, Bool.or_false, Bool.false_or, decide_not, Bool.not_true, Bool.not_false, or_true, true_or, or_false, false_or, or_self, and_self, decide_eq_true_eq]
theorem al_202 (g : gG) : ab_al (gH g) 202 = some (nI 1024) := by
  have h : (gH g).2 202 = .inl (0, 1024, .inl (gA g 202)) := rfl
  have h2 : 202 < (gH g).1 := gN (by decide)
  have h3 : ab_il (gH g) 202 = some 1024 := by unfold ab_il; rw [h]; simp only [h2, and_self, if_true]
  unfold ab_al; rw [h3]
theorem cl_fill202 (g : gG) (v : Int32) {F : Nat} (hF : 11000 < F) : fJ7_fill_53178 F 202 v (gH g) = some (gH (sA g 202 (fun q => if q < 1024 then v else gA g 202 q))) := by
  have hx : fJ7_fill_53178 F 202 v (gH g) = fJ7_fill_53178_5 202 v (nI 1024) F (nI 0) (gH g) := by unfold fJ7_fill_53178; rw [al_202, bdS]
  rw [hx]
  have h0 := lp0 (L := fun F' i (g : gG) => fJ7_fill_53178_5 202 v (nI 1024) F' i (gH g)) (n := 1024) (fun i => sA g 202 (fun q => if q < i then v else gA g 202 q)) (some (gH (sA g 202 (fun q => if q < 1024 then v else gA g 202 q)))) ?_ ?_ F (by omega)
  · have e2 : sA g 202 (fun q => if q < 0 then v else gA g 202 q) = g := by
      have : (fun q => if q < 0 then v else gA g 202 q) = gA g 202 := by funext q; rw [if_neg (by omega)]
      rw [this, sA_id]
    rw [e2] at h0; exact h0
  · intro F i hi
    have e6 : upd (fun q => if q < i then v else gA g 202 q) i v = fun q => if q < i + 1 then v else gA g 202 q := by
      funext q
      rw [upd_e]
      by_cases c : q = i
      · rw [if_pos c, if_pos (by omega)]
      · rw [if_neg c]
        by_cases c2 : q < i
        · rw [if_pos c2, if_pos (by omega)]
        · rw [if_neg c2, if_neg (by omega)]
    simp (disch := omega) only [fJ7_fill_53178_5, bdS, ck_t, ck_T, cb_0, cb_1, ab_jn, if_true, if_false, iw_202, hi, gA_sA1, sA_sA, e6, nI_add, pk_mul, nI_ltI, nI_leI, nI_eq, reduceCtorEq, m1_ne, and_true, true_and, and_false, false_and, not_true_eq_false, not_false_eq_true, ne_eq, decide_true, decide_false, Bool.false_eq_true, ite_true, ite_false, if_true, if_false, Nat.add_zero, Bool.and_true, Bool.true_and, Bool.and_false, Bool.false_and, Bool.or_true, Bool.true_or, Bool.or_false, Bool.false_or, decide_not, Bool.not_true, Bool.not_false, or_true, true_or, or_false, false_or, or_self, and_self, decide_eq_true_eq]
  · intro F
    simp (disch := omega) only [fJ7_fill_53178_5, bdS, ck_t, ck_T, cb_0, cb_1, ab_jn, if_true, if_false, Nat.lt_irrefl, nI_add, pk_mul, nI_ltI, nI_leI, nI_eq, reduceCtorEq, m1_ne, and_true, true_and, and_false, false_and, not_true_eq_false, not_false_eq_true, ne_eq, decide_true, decide_false, Bool.false_eq_true, ite_true, ite_false, if_true, if_false, Nat.add_zero, Bool.and_true, Bool.true_and, Bool.and_false, Bool.false_and, Bool.or_true, Bool.true_or, Bool.or_false, Bool.false_or, decide_not, Bool.not_true, Bool.not_false, or_true, true_or, or_false, false_or, or_self, and_self, decide_eq_true_eq]
theorem cl_own39 (g : gG) {n : Nat} (hn : gF g 196 6 = nI n) (h10 : n ≤ 10) (x1 : Int32) {G : Nat} (hG : G < 2 ^ n - 1) (hp : pc (nI G) < 10) (K : ab_H → Option (Int32 × ab_H)) {F : Nat} (hF : 11000 < F) : fX7_countOwners_39 F 196 x1 (nI G) (nI (pc (nI G))) K F (nI 0) (gH g) = K (gH (sA g 202 (fwO (gA g 200) (gA g 202) G n))) := by
  have h2 : 2 ^ n ≤ 2 ^ 10 := Nat.pow_le_pow_right (by decide) h10
  have e0 : ¬ (200 = 202) := by omega
  have hOG : ∀ i, fwO (gA g 200) (gA g 202) G i G = gA g 202 G := fun i => by
    unfold fwO
    rw [exB_f.mpr (fun f _ => by rw [decide_eq_false (by have := Nat.two_pow_pos f; omega)]; rfl)]
    simp
  by_cases c : gA g 202 G = 0
  · have es : fwO (gA g 200) (gA g 202) G n = gA g 202 := by
      funext S
      unfold fwO
      rw [c, Int32.add_zero]
      simp
    rw [es, sA_id]
    obtain ⟨F', rfl⟩ : ∃ F', F = F' + 1 := ⟨F - 1, by omega⟩
    by_cases cn : 0 < n
    · simp (disch := omega) only [fX7_countOwners_39, fi_196_6, fr_196_5, ia_202, iw_202, fr_196_3, ia_200, iw_200, bdS, ck_t, ck_T, cb_0, cb_1, ab_jn, if_true, if_false, hn, cn, c, nI_add, pk_mul, nI_ltI, nI_leI, nI_eq, reduceCtorEq, m1_ne, and_true, true_and, and_false, false_and, not_true_eq_false, not_false_eq_true, ne_eq, decide_true, decide_false, Bool.false_eq_true, ite_true, ite_false, if_true, if_false, Nat.add_zero, Bool.and_true, Bool.true_and, Bool.and_false, Bool.false_and, Bool.or_true, Bool.true_or, Bool.or_false, Bool.false_or, decide_not, Bool.not_true, Bool.not_false, or_true, true_or, or_false, false_or, or_self, and_self, decide_eq_true_eq]
    · simp (disch := omega) only [fX7_countOwners_39, fi_196_6, fr_196_5, ia_202, iw_202, fr_196_3, ia_200, iw_200, bdS, ck_t, ck_T, cb_0, cb_1, ab_jn, if_true, if_false, hn, cn, nI_add, pk_mul, nI_ltI, nI_leI, nI_eq, reduceCtorEq, m1_ne, and_true, true_and, and_false, false_and, not_true_eq_false, not_false_eq_true, ne_eq, decide_true, decide_false, Bool.false_eq_true, ite_true, ite_false, if_true, if_false, Nat.add_zero, Bool.and_true, Bool.true_and, Bool.and_false, Bool.false_and, Bool.or_true, Bool.true_or, Bool.or_false, Bool.false_or, decide_not, Bool.not_true, Bool.not_false, or_true, true_or, or_false, false_or, or_self, and_self, decide_eq_true_eq]
  · have h0 := lp0 (L := fun F' i (g : gG) => fX7_countOwners_39 F 196 x1 (nI G) (nI (pc (nI G))) K F' i (gH g)) (n := n) (fun i => sA g 202 (fwO (gA g 200) (gA g 202) G i)) (K (gH (sA g 202 (fwO (gA g 200) (gA g 202) G n)))) ?_ ?_ F (by omega)
    · have e2 : sA g 202 (fwO (gA g 200) (gA g 202) G 0) = g := by
        have : fwO (gA g 200) (gA g 202) G 0 = gA g 202 := by funext S; unfold fwO; rw [exB_0]; simp
        rw [this, sA_id]
      rw [e2] at h0; exact h0
    · intro F' i hi
      have a0 : gA (sA g 202 (fwO (gA g 200) (gA g 202) G i)) 200 = gA g 200 := gA_sA2 _ _ e0
      have hb : bt (gA g 200 (pc (nI G)) &&& (nI G ^^^ (-1))) i = fwC (gA g 200) G i := by
        unfold fwC
        rw [b_and, b_not _ (by omega), bt_nI' (by omega)]
      have hs := fwO_S (al := gA g 200) (O := gA g 202) (G := G) (i := i)
      have og := hOG i
      cases cf : fwC (gA g 200) G i
      · rw [cf] at hb hs
        rw [hs]
        simp (disch := omega) only [fX7_countOwners_39, fi_196_6, fr_196_5, ia_202, iw_202, fr_196_3, ia_200, iw_200, bdS, ck_t, ck_T, cb_0, cb_1, ab_jn, if_true, if_false, gF_sA, hn, hi, gA_sA1, og, c, a0, cl_hasX, hb, bI_0, nI_add, pk_mul, nI_ltI, nI_leI, nI_eq, reduceCtorEq, m1_ne, and_true, true_and, and_false, false_and, not_true_eq_false, not_false_eq_true, ne_eq, decide_true, decide_false, Bool.false_eq_true, ite_true, ite_false, if_true, if_false, Nat.add_zero, Bool.and_true, Bool.true_and, Bool.and_false, Bool.false_and, Bool.or_true, Bool.true_or, Bool.or_false, Bool.false_or, decide_not, Bool.not_true, Bool.not_false, or_true, true_or, or_false, false_or, or_self, and_self, decide_eq_true_eq]
      · rw [cf] at hb hs
        have hnb : G.testBit i = false := by
          unfold fwC at cf
          cases h : G.testBit i
          · rfl
          · rw [h] at cf; simp at cf
        obtain ⟨i1, _, _⟩ := set_in i (by omega) G (by omega) hnb
        have hlt : G + 2 ^ i < 1024 := by
          have h1 : G < 2 ^ 10 := by omega
          have h3 : 2 ^ i < 2 ^ 10 := Nat.pow_lt_pow_right (by decide) (by omega)
          have h4 : G ||| 2 ^ i < 2 ^ 10 := or_lt h1 h3
          have h5 : nI (G ||| 2 ^ i) = nI (G + 2 ^ i) := by rw [← fa_or]; exact i1
          have h6 := (nI_eq (show G ||| 2 ^ i < 2 ^ 31 by omega) (show G + 2 ^ i < 2 ^ 31 by omega)).mp h5
          omega
        rw [hs, if_pos rfl]
        simp (disch := omega) only [fX7_countOwners_39, fi_196_6, fr_196_5, ia_202, iw_202, fr_196_3, ia_200, iw_200, bdS, ck_t, ck_T, cb_0, cb_1, ab_jn, if_true, if_false, gF_sA, hn, hi, gA_sA1, og, c, a0, cl_hasX, hb, bI_0, sh1, i1, sA_sA, nI_add, pk_mul, nI_ltI, nI_leI, nI_eq, reduceCtorEq, m1_ne, and_true, true_and, and_false, false_and, not_true_eq_false, not_false_eq_true, ne_eq, decide_true, decide_false, Bool.false_eq_true, ite_true, ite_false, if_true, if_false, Nat.add_zero, Bool.and_true, Bool.true_and, Bool.and_false, Bool.false_and, Bool.or_true, Bool.true_or, Bool.or_false, Bool.false_or, decide_not, Bool.not_true, Bool.not_false, or_true, true_or, or_false, false_or, or_self, and_self, decide_eq_true_eq]
    · intro F'
      simp (disch := omega) only [fX7_countOwners_39, fi_196_6, fr_196_5, ia_202, iw_202, fr_196_3, ia_200, iw_200, bdS, ck_t, ck_T, cb_0, cb_1, ab_jn, if_true, if_false, gF_sA, hn, Nat.lt_irrefl, nI_add, pk_mul, nI_ltI, nI_leI, nI_eq, reduceCtorEq, m1_ne, and_true, true_and, and_false, false_and, not_true_eq_false, not_false_eq_true, ne_eq, decide_true, decide_false, Bool.false_eq_true, ite_true, ite_false, if_true, if_false, Nat.add_zero, Bool.and_true, Bool.true_and, Bool.and_false, Bool.false_and, Bool.or_true, Bool.true_or, Bool.or_false, Bool.false_or, decide_not, Bool.not_true, Bool.not_false, or_true, true_or, or_false, false_or, or_self, and_self, decide_eq_true_eq]
