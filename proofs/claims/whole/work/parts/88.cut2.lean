variable {Nq : Nat}
/-! ===== the class cuts a text: the whole ===== -/
def kI (k : Nat) : Int32 := if k = 4000 then -1 else nI k
/-- the things that were cut: Z of them, and the end -/
def Cut (t : Nat → Nat) (L : Nat) (Kd Bg En : Nat → Int32) (Z : Nat) : Prop := Z ≤ L ∧ psn t L Z = L ∧ (∀ i, i < Z → psn t L i < L ∧ Kd i = nI (kd t L (psn t L i)) ∧ Bg i = nI (psn t L i) ∧ En i = nI (en t L (psn t L i))) ∧ Kd Z = -1 ∧ Bg Z = nI L
def ct3 (g : gG) (Kd Bg En : Nat → Int32) : gG := sA (sA (sA g 189 Kd) 190 Bg) 191 En
theorem ct3_189 (g : gG) (Kd Bg En f : Nat → Int32) : sA (ct3 g Kd Bg En) 189 f = ct3 g f Bg En := by
  unfold ct3
  rw [sA_comm _ (show 191 ≠ 189 by omega), sA_comm _ (show 190 ≠ 189 by omega), sA_sA]
theorem ct3_190 (g : gG) (Kd Bg En f : Nat → Int32) : sA (ct3 g Kd Bg En) 190 f = ct3 g Kd f En := by
  unfold ct3
  rw [sA_comm _ (show 191 ≠ 190 by omega), sA_sA]
theorem ct3_191 (g : gG) (Kd Bg En f : Nat → Int32) : sA (ct3 g Kd Bg En) 191 f = ct3 g Kd Bg f := by
  unfold ct3
  rw [sA_sA]
theorem ct3_a9 (g : gG) (Kd Bg En : Nat → Int32) : gA (ct3 g Kd Bg En) 189 = Kd := by
  unfold ct3
  rw [gA_sA2 _ _ (by omega), gA_sA2 _ _ (by omega), gA_sA1]
theorem ct3_a0 (g : gG) (Kd Bg En : Nat → Int32) : gA (ct3 g Kd Bg En) 190 = Bg := by
  unfold ct3
  rw [gA_sA2 _ _ (by omega), gA_sA1]
theorem ct3_a1 (g : gG) (Kd Bg En : Nat → Int32) : gA (ct3 g Kd Bg En) 191 = En := by
  unfold ct3
  rw [gA_sA1]
theorem ct3_T {g : gG} {t : Nat → Nat} {L : Nat} (T : Tq g t L) (Kd Bg En : Nat → Int32) : Tq (ct3 g Kd Bg En) t L := ((T.a (by omega)).a (by omega)).a (by omega)
theorem kd_kd0 {t : Nat → Nat} {L a : Nat} (hb : t a < 256) (ha : a < L) : kd t L a = if kd0 t a = 257 then fwd t L a wW 1000 else kd0 t a := by
  unfold kd
  rw [if_pos ha]
  by_cases c : ltr t a = true
  · rw [if_pos c, if_pos ((kd0_257 hb).mpr c)]
  · rw [if_neg c, if_neg (fun h => c ((kd0_257 hb).mp h))]
    unfold kd0
    rw [if_neg c]
theorem cl_cut {g : gG} {t : Nat → Nat} {L : Nat} (T : Tq g t L) {F : Nat} (hF : 11000 < F) : ∃ Kd Bg En Z, fX0_cutText F 188 (gH g) = some (gH (sF (ct3 g Kd Bg En) 188 4 (nI 0))) ∧ Cut t L Kd Bg En Z := by
  have h2 := T.2.1
  obtain ⟨Z, z1, z2, z3⟩ := psn_Z t L
  have p0 := cl_past T hF (show 0 < 1000 by omega)
  have lp := lpE (L := fun F' i (a : Int32 × gG) => fX0_cutText_8 F 188 (fun (z29 : Int32) (h30 : ab_H) => ab_bd (ab_fr h30 188 0 1) fun v31 => ab_bd (ab_iw 0 h30 v31 z29 (-1 : Int32)) fun h32 => ab_bd (ab_fr h32 188 0 2) fun v33 => ab_bd (ab_fr h32 188 0 0) fun v34 => ab_bd (ab_fi h32 v34 9 1) fun v35 => ab_bd (ab_iw 0 h32 v33 z29 v35) fun h36 => ab_bd (ab_fr h36 188 0 3) fun v37 => ab_bd (ab_fr h36 188 0 0) fun v38 => ab_bd (ab_fi h36 v38 9 1) fun v39 => ab_bd (ab_iw 0 h36 v37 z29 v39) fun h40 => ab_bd (ab_fw h40 188 0 4 (.int (nI 0))) fun h41 => some h41) F' i a.1 (gH a.2)) (n := Z)
    (fun i a => a.1 = nI (psn t L i) ∧ ∃ Kd Bg En, a.2 = ct3 g Kd Bg En ∧ ∀ j, j < i → Kd j = nI (kd t L (psn t L j)) ∧ Bg j = nI (psn t L j) ∧ En j = nI (en t L (psn t L j)))
    (fun a => some (gH (sF (ct3 a.2 (upd (gA a.2 189) Z (-1)) (upd (gA a.2 190) Z (nI L)) (upd (gA a.2 191) Z (nI L))) 188 4 (nI 0)))) ?_ ?_ F 0 (nI (psn t L 0), g) (by omega) (by omega) ⟨rfl, gA g 189, gA g 190, gA g 191, ?_, fun j hj => absurd hj (Nat.not_lt_zero j)⟩
  · obtain ⟨⟨b1, b2⟩, ⟨eb, Kd, Bg, En, e2, h⟩, hb⟩ := lp
    obtain rfl : b2 = _ := e2
    have e3 : ct3 (ct3 g Kd Bg En) (upd Kd Z (-1)) (upd Bg Z (nI L)) (upd En Z (nI L)) = ct3 g (upd Kd Z (-1)) (upd Bg Z (nI L)) (upd En Z (nI L)) := by
      unfold ct3
      rw [sA_comm _ (show 191 ≠ 189 by omega), sA_comm _ (show 190 ≠ 189 by omega), sA_sA, sA_comm _ (show 191 ≠ 190 by omega), sA_sA, sA_sA]
    refine ⟨upd Kd Z (-1), upd Bg Z (nI L), upd En Z (nI L), Z, ?_, z1, z2, fun i hi => ?_, by rw [upd_1], by rw [upd_1]⟩
    · have hb : _ = some (gH (sF (ct3 (ct3 g Kd Bg En) (upd (gA (ct3 g Kd Bg En) 189) Z (-1)) (upd (gA (ct3 g Kd Bg En) 190) Z (nI L)) (upd (gA (ct3 g Kd Bg En) 191) Z (nI L))) 188 4 (nI 0))) := hb
      rw [ct3_a9, ct3_a0, ct3_a1, e3] at hb
      simp (disch := omega) only [fX0_cutText, io_188, fr_188_1, iw_189, fr_188_2, iw_190, fr_188_0, fi_4_1, fr_188_3, iw_191, fw_188_4, bdS, ck_t, ck_T, cb_0, cb_1, ab_jn, if_true, if_false, p0]
      exact hb
    · obtain ⟨q1, q2, q3⟩ := h i hi
      rw [upd_2 _ _ (by omega), upd_2 _ _ (by omega), upd_2 _ _ (by omega)]
      exact ⟨z3 i hi, q1, q2, q3⟩
  · rintro F' i ⟨b1, b2⟩ hi ⟨eb, Kd, Bg, En, e2, h⟩
    obtain rfl : b1 = _ := eb
    obtain rfl : b2 = _ := e2
    have pl := z3 i hi
    have T0 := ct3_T T Kd Bg En
    have l1 : gF (ct3 g Kd Bg En) 4 1 = nI L := T0.1
    have tb := (T.2.2 _ pl).2
    have k0 := kd0_lt tb
    have i400 : i < 400 := by omega
    have i401 : i < 401 := by omega
    have ka := cl_kindAt T0 pl
    have T1 := ct3_T T (upd Kd i (nI (kd0 t (psn t L i)))) (upd Bg i (nI (psn t L i))) En
    have eo := cl_endOf T1 hF pl
    have T2 := ct3_T T (upd Kd i (nI (kd0 t (psn t L i)))) (upd Bg i (nI (psn t L i))) (upd En i (nI (en t L (psn t L i))))
    have el := en_le (t := t) pl
    have nx : rn (bk t) L (en t L (psn t L i)) = psn t L (i + 1) := nx_en pl
    have kk := kd_kd0 tb pl
    by_cases c : kd0 t (psn t L i) = 257
    · rw [if_pos c] at kk
      have wo := cl_wordOf T2 hF pl ((kd0_257 tb).mp c)
      have T3 := ct3_T T (upd (upd Kd i (nI (kd0 t (psn t L i)))) i (nI (fwd t L (psn t L i) wW 1000))) (upd Bg i (nI (psn t L i))) (upd En i (nI (en t L (psn t L i))))
      have pb := cl_past T3 hF (show en t L (psn t L i) < 1000 by omega)
      rw [nx] at pb
      refine ⟨(nI (psn t L (i + 1)), ct3 g (upd (upd Kd i (nI (kd0 t (psn t L i)))) i (nI (fwd t L (psn t L i) wW 1000))) (upd Bg i (nI (psn t L i))) (upd En i (nI (en t L (psn t L i))))), ⟨rfl, _, _, _, rfl, fun j hj => ?_⟩, ?_⟩
      · by_cases d : j = i
        · subst d
          rw [upd_1, upd_1, upd_1, kk]; exact ⟨rfl, rfl, rfl⟩
        · rw [upd_2 _ _ d, upd_2 _ _ d, upd_2 _ _ d, upd_2 _ _ d]; exact h j (by omega)
      · have ceq : (nI (kd0 t (psn t L i)) = nI 257) = True := eq_true (by rw [c])
        simp (disch := omega) only [fX0_cutText_8, io_188, fr_188_0, fi_4_1, fr_188_1, ia_189, iw_189, fr_188_2, ia_190, iw_190, fr_188_3, ia_191, iw_191, bdS, ck_t, ck_T, cb_0, cb_1, if_true, if_false, fi_4_1, l1, pl, i400, i401, ka, eo, wo, pb, ct3_a9, ct3_a0, ct3_a1, ct3_189, ct3_190, ct3_191, upd_1, ceq, nI_ltI, nI_add, if_true]
        simp (disch := omega) only [ab_jn, fX0_cutText_8, io_188, fr_188_0, fi_4_1, fr_188_1, ia_189, iw_189, fr_188_2, ia_190, iw_190, fr_188_3, ia_191, iw_191, bdS, ck_t, ck_T, cb_0, cb_1, if_true, if_false, ct3_a9, ct3_a0, ct3_a1, upd_1, pb]
    · rw [if_neg c] at kk
      have pb := cl_past T2 hF (show en t L (psn t L i) < 1000 by omega)
      rw [nx] at pb
      refine ⟨(nI (psn t L (i + 1)), ct3 g (upd Kd i (nI (kd0 t (psn t L i)))) (upd Bg i (nI (psn t L i))) (upd En i (nI (en t L (psn t L i))))), ⟨rfl, _, _, _, rfl, fun j hj => ?_⟩, ?_⟩
      · by_cases d : j = i
        · subst d
          rw [upd_1, upd_1, upd_1, kk]; exact ⟨rfl, rfl, rfl⟩
        · rw [upd_2 _ _ d, upd_2 _ _ d, upd_2 _ _ d]; exact h j (by omega)
      · simp (disch := omega) only [fX0_cutText_8, io_188, fr_188_0, fi_4_1, fr_188_1, ia_189, iw_189, fr_188_2, ia_190, iw_190, fr_188_3, ia_191, iw_191, bdS, ck_t, ck_T, cb_0, cb_1, if_true, if_false, fi_4_1, l1, pl, i400, i401, ka, eo, ct3_a9, ct3_a0, ct3_a1, ct3_189, ct3_190, ct3_191, upd_1, nI_eq, c, nI_ltI, nI_add, if_true, if_false]
        simp (disch := omega) only [ab_jn, fX0_cutText_8, io_188, fr_188_0, fi_4_1, fr_188_1, ia_189, iw_189, fr_188_2, ia_190, iw_190, fr_188_3, ia_191, iw_191, bdS, ck_t, ck_T, cb_0, cb_1, if_true, if_false, ct3_a9, ct3_a0, ct3_a1, upd_1, pb]
  · rintro F' ⟨b1, b2⟩ ⟨eb, Kd, Bg, En, e2, h⟩
    obtain rfl : b1 = _ := eb
    obtain rfl : b2 = _ := e2
    have T0 := ct3_T T Kd Bg En
    have l1 : ∀ Kd Bg En, gF (ct3 g Kd Bg En) 4 1 = nI L := fun Kd Bg En => T.1
    have Z401 : Z < 401 := by omega
    have e4 : ct3 (ct3 g Kd Bg En) (upd Kd Z (-1)) (upd Bg Z (nI L)) (upd En Z (nI L)) = ct3 g (upd Kd Z (-1)) (upd Bg Z (nI L)) (upd En Z (nI L)) := by
      unfold ct3
      rw [sA_comm _ (show 191 ≠ 189 by omega), sA_comm _ (show 190 ≠ 189 by omega), sA_sA, sA_comm _ (show 191 ≠ 190 by omega), sA_sA, sA_sA]
    show fX0_cutText_8 F 188 _ (F' + 1) (nI Z) (nI (psn t L Z)) (gH (ct3 g Kd Bg En)) = some (gH (sF (ct3 (ct3 g Kd Bg En) (upd (gA (ct3 g Kd Bg En) 189) Z (-1)) (upd (gA (ct3 g Kd Bg En) 190) Z (nI L)) (upd (gA (ct3 g Kd Bg En) 191) Z (nI L))) 188 4 (nI 0)))
    rw [ct3_a9, ct3_a0, ct3_a1, e4, z2]
    simp (disch := omega) only [fX0_cutText_8, fX0_cutText, io_188, fr_188_0, fi_4_1, fr_188_1, ia_189, iw_189, fr_188_2, ia_190, iw_190, fr_188_3, ia_191, iw_191, fw_188_4, bdS, ck_t, ck_T, cb_0, cb_1, if_true, if_false, fi_4_1, l1, Nat.lt_irrefl, Z401, ct3_a9, ct3_a0, ct3_a1, ct3_189, ct3_190, ct3_191, nI_ltI, if_false]
  · unfold ct3
    rw [sA_id, sA_id, sA_id]
