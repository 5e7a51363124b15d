variable {Nq : Nat}
/-! ===== the class's numbers ===== -/
theorem kd_256 {t : Nat → Nat} {L a : Nat} (hb : ∀ i, i < L → t i < 256) : kd t L a = 256 ↔ (a < L ∧ dig t a = true) := by
  constructor
  · intro h
    have hl : a < L := kd_lt (t := t) (by omega)
    refine ⟨hl, ?_⟩
    unfold kd at h
    rw [if_pos hl] at h
    split at h
    · rcases fwd_lo (t := t) (L := L) (a := a) (ws := wW) (k := 1000) with h1 | h1 <;> omega
    · split at h
      · assumption
      · have := hb a hl; omega
  · intro h
    unfold kd
    rw [if_pos h.1, if_neg (by rw [(dig_en h).2]; decide), if_pos h.2]
theorem cl_nh {g : gG} {t : Nat → Nat} {L Z : Nat} (X : Cx g t L Z) {i : Nat} (hi : i ≤ Z) (f s : Int32) (c : Nat → Int32) {F : Nat} (hF : 11000 < F) : fX0_numberHere F 188 (gH (cst g (nI i) f s c)) = some (kI (nmb t L (psn t L i))) := by
  have hbt : ∀ i, i < L → t i < 256 := fun i hi => (X.1.2.2 i hi).2
  obtain ⟨q1, q2, q3, q4⟩ := X.at hi
  have e9 := csb g (nI i) f s c (b := 189) (by omega)
  have e0 := csb g (nI i) f s c (b := 190) (by omega)
  have e1 := csb g (nI i) f s c (b := 191) (by omega)
  have ke := kI_eq (m := 256) (kd_lt1 (t := t) (L := L) (a := psn t L i) hbt) (by omega)
  have k6 := kd_256 (t := t) (L := L) (a := psn t L i) hbt
  have h2 := X.1.2.1
  have X1 := X.1
  by_cases c1 : kd t L (psn t L i) = 256
  · obtain ⟨hl, hd⟩ := k6.mp c1
    have iz : i < Z := by
      apply Decidable.byContradiction
      intro h
      have e : i = Z := by omega
      rw [e, X.2.2.1] at hl; omega
    have q5 := (X.2.2.2.1 i iz).2.2.2
    have eg := en_gt (t := t) (L := L) (a := psn t L i)
    have el := en_le (t := t) hl
    have ed := (dig_en ⟨hl, hd⟩).1
    have nm : nmb t L (psn t L i) = if psn t L i < L ∧ dig t (psn t L i) = true ∧ en t L (psn t L i) ≤ psn t L i + 3 then dv t (psn t L i) (en t L (psn t L i) - psn t L i) else 4000 := rfl
    have sb : nI (en t L (psn t L i)) - nI (psn t L i) = nI (en t L (psn t L i) - psn t L i) := pk_sub (by omega)
    have ceq : (kI (kd t L (psn t L i)) = nI 256) = True := eq_true (ke.mpr c1)
    by_cases c3 : en t L (psn t L i) ≤ psn t L i + 3
    · have le3 : nI (en t L (psn t L i) - psn t L i) ≤ nI 3 := nI_le (by omega) (by decide)
      have nl := nmb_lt (t := t) (L := L) (a := psn t L i)
      rw [nm, if_pos ⟨hl, hd, c3⟩] at nl ⊢
      have ins : ∀ k, k < en t L (psn t L i) - psn t L i → dig t (psn t L i + k) = true := fun k hk => rn_in (P := dig t) (L := L) (psn t L i) _ (by omega) (by rw [← ed]; omega)
      have dl : ∀ k, k ≤ en t L (psn t L i) - psn t L i → dv t (psn t L i) k < 1000 := fun k hk => by
        have h1 : dv t (psn t L i) k < 10 ^ k := dv_lt (fun j hj => of_decide_eq_true (ins j (by omega)))
        have h3 : 10 ^ k ≤ 10 ^ 3 := Nat.pow_le_pow_right (by decide) (by omega)
        omega
      have kv : kI (dv t (psn t L i) (en t L (psn t L i) - psn t L i)) = nI (dv t (psn t L i) (en t L (psn t L i) - psn t L i)) := by
        unfold kI
        rw [if_neg (by have := dl _ (Nat.le_refl _); omega)]
      rw [kv]
      generalize hp : psn t L i = p at *
      generalize he : en t L p = e at *
      have lp := lp0 (L := fun F' (_ : Int32) (a : Int32 × Int32) => fX0_numberHere_52 188 (gH (cst g (nI i) f s c)) F' a.1 a.2) (n := e - p) (fun j => (nI (dv t p j), nI (p + j))) (some (nI (dv t p (e - p)))) ?_ ?_ F (by omega)
      · simp (disch := omega) only [fX0_numberHere, fr_188_1, ia_189, fi_188_4, fr_188_3, ia_191, fr_188_2, ia_190, bdS, ck_t, ck_T, cb_0, cb_1, ab_jn, if_true, if_false, cs4, ia_189 _ q3, ia_190 _ q3, ia_191 _ q3, e9, e0, e1, q1, q2, q5, ceq, sb, le3, if_true]
        exact lp
      · intro F' j hj
        have lt : p + j < e := by omega
        have b := cl_byte (g := cst g (nI i) f s c) (L := L) (i := p + j) (b := t (p + j)) (by rw [csx _ _ _ _ _ (by omega)]; exact X1.1) h2 (by omega) (by rw [csb _ _ _ _ _ (by omega)]; exact (X1.2.2 _ (by omega)).1)
        have tb := of_decide_eq_true (ins j hj)
        have ad : nI (dv t p j) * nI 10 + nI (t (p + j)) - nI 48 = nI (10 * dv t p j + (t (p + j) - 48)) := by
          rw [pk_mul, nI_add, pk_sub (by omega)]; congr 1; omega
        have edv : dv t p (j + 1) = 10 * dv t p j + (t (p + j) - 48) := rfl
        rw [edv, show p + (j + 1) = p + j + 1 by omega]
        simp (disch := omega) only [fX0_numberHere_52, io_4, fr_188_3, ia_191, fi_188_4, fr_188_0, bdS, ck_t, ck_T, cb_0, cb_1, ab_jn, if_true, if_false, cs4, ia_191 _ q3, e1, q5, lt, io_4, b, ad, nI_ltI, nI_add, if_true]
      · intro F'
        have ee : p + (e - p) = e := by omega
        simp (disch := omega) only [fX0_numberHere_52, io_4, fr_188_3, ia_191, fi_188_4, fr_188_0, bdS, ck_t, ck_T, cb_0, cb_1, ab_jn, if_true, if_false, cs4, ia_191 _ q3, e1, q5, ee, Nat.lt_irrefl, nI_ltI, if_false]
    · have le3 : ¬ nI (en t L (psn t L i) - psn t L i) ≤ nI 3 := nI_ge (by omega) (by omega)
      rw [nm, if_neg (fun h => c3 h.2.2)]
      simp (disch := omega) only [fX0_numberHere, fr_188_1, ia_189, fi_188_4, fr_188_3, ia_191, fr_188_2, ia_190, bdS, ck_t, ck_T, cb_0, cb_1, ab_jn, if_true, if_false, cs4, ia_189 _ q3, ia_190 _ q3, ia_191 _ q3, e9, e0, e1, q1, q2, q5, ceq, sb, le3, if_true, if_false]
      rfl
  · have nm : nmb t L (psn t L i) = 4000 := by unfold nmb; rw [if_neg (fun h => c1 (k6.mpr ⟨h.1, h.2.1⟩))]
    have ne : ¬ kI (kd t L (psn t L i)) = nI 256 := fun h => c1 (ke.mp h)
    rw [nm]
    simp (disch := omega) only [fX0_numberHere, fr_188_1, ia_189, fi_188_4, fr_188_3, ia_191, fr_188_2, ia_190, bdS, ck_t, ck_T, cb_0, cb_1, ab_jn, if_true, if_false, cs4, ia_189 _ q3, e9, q1, ne, if_false]
    rfl
