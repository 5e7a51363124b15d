variable {Nq : Nat}
/-! ===== the class reads a text of THE LAW: where it stands ===== -/
theorem sF_cc (g : gG) {a b : Nat} (h : a ≠ b) (k l : Nat) (v w : Int32) : sF (sF g a k v) b l w = sF (sF g b l w) a k v := by
  unfold sF
  refine Prod.ext rfl (Prod.ext ?_ rfl)
  funext q
  show (if q = b then upd (if b = a then upd (g.2.1 a) k v else g.2.1 b) l w else if q = a then upd (g.2.1 a) k v else g.2.1 q) = (if q = a then upd (if a = b then upd (g.2.1 b) l w else g.2.1 a) k v else if q = b then upd (g.2.1 b) l w else g.2.1 q)
  have h' : ¬ b = a := fun e => h e.symm
  simp only [h, h', if_false]
  by_cases c : q = b
  · have d : ¬ q = a := fun e => h (e.symm.trans c)
    simp only [c, h', if_true, if_false]
  · by_cases d : q = a
    · simp only [d, h, if_true, if_false]
    · simp only [c, d, if_false]
/-- the class's reader of THE LAW: index, wrong byte, size, code -/
def cst (g : gG) (i f s : Int32) (c : Nat → Int32) : gG := sF (sF (sF (sA g 195 c) 194 5 s) 194 2 f) 188 4 i
section CST
variable (g : gG) (i f s w : Int32) (c c' : Nat → Int32)
theorem cs4 : gF (cst g i f s c) 188 4 = i := by unfold cst; rw [gF_sF1, upd_1]
theorem cs2 : gF (cst g i f s c) 194 2 = f := by unfold cst; rw [gF_sF2 _ _ (by omega), gF_sF1, upd_1]
theorem cs5 : gF (cst g i f s c) 194 5 = s := by unfold cst; rw [gF_sF2 _ _ (by omega), gF_sF1, upd_2 _ _ (by omega), gF_sF1, upd_1]
theorem csa : gA (cst g i f s c) 195 = c := by unfold cst; rw [gA_sF, gA_sF, gA_sF, gA_sA1]
theorem csb {b : Nat} (h : b ≠ 195) : gA (cst g i f s c) b = gA g b := by unfold cst; rw [gA_sF, gA_sF, gA_sF, gA_sA2 _ _ h]
theorem csx {b : Nat} (h : b ≠ 188 ∧ b ≠ 194) : gF (cst g i f s c) b = gF g b := by unfold cst; rw [gF_sF2 _ _ h.1, gF_sF2 _ _ h.2, gF_sF2 _ _ h.2, gF_sA]
theorem cs_i : sF (cst g i f s c) 188 4 w = cst g w f s c := by unfold cst; rw [sF_sF]
theorem cs_f : sF (cst g i f s c) 194 2 w = cst g i w s c := by unfold cst; rw [sF_cc _ (show 188 ≠ 194 by omega), sF_sF]
theorem cs_s : sF (cst g i f s c) 194 5 w = cst g i f w c := by unfold cst; rw [sF_cc _ (show 188 ≠ 194 by omega), sF_cm _ _ (show 2 ≠ 5 by omega), sF_sF]
theorem cs_c : sA (cst g i f s c) 195 c' = cst g i f s c' := by unfold cst; rw [sA_sF, sA_sF, sA_sF, sA_sA]
end CST
def Cx (g : gG) (t : Nat → Nat) (L Z : Nat) : Prop := Tq g t L ∧ Cut t L (gA g 189) (gA g 190) (gA g 191) Z
theorem Cx.at {g : gG} {t : Nat → Nat} {L Z : Nat} (X : Cx g t L Z) {i : Nat} (hi : i ≤ Z) : gA g 189 i = kI (kd t L (psn t L i)) ∧ gA g 190 i = nI (psn t L i) ∧ i < 401 ∧ psn t L i ≤ 400 := by
  obtain ⟨T, z1, z2, z3, z4, z5⟩ := X
  have h2 := T.2.1
  have hbt : ∀ i, i < L → t i < 256 := fun i hi => (T.2.2 i hi).2
  have pl := (psn_nrm (t := t) (L := L) i).2
  by_cases c : i < Z
  · obtain ⟨q0, q1, q2, q3⟩ := z3 i c
    refine ⟨?_, q2, by omega, by omega⟩
    rw [q1]
    unfold kI
    rw [if_neg (fun e => by have := (kd_end hbt pl).mp e; omega)]
  · have e : i = Z := by omega
    subst e
    refine ⟨?_, by rw [z5, z2], by omega, by omega⟩
    rw [z4]
    unfold kI
    rw [if_pos ((kd_end hbt pl).mpr z2)]
theorem kI_eq {k m : Nat} (hk : k < 4001) (hm : m < 4000) : (kI k = nI m) ↔ k = m := by
  unfold kI
  by_cases c : k = 4000
  · rw [if_pos c]
    constructor
    · intro e; exact absurd e.symm (nI_m1 (by omega))
    · intro e; omega
  · rw [if_neg c, nI_eq (by omega) (by omega)]
theorem kI_m1 {k : Nat} (hk : k < 4001) : (kI k = -1) ↔ k = 4000 := by
  unfold kI
  by_cases c : k = 4000
  · rw [if_pos c]; exact ⟨fun _ => c, fun _ => rfl⟩
  · rw [if_neg c]
    constructor
    · intro e; exact absurd e (nI_m1 (by omega))
    · intro e; exact absurd e c
theorem kd_lt1 {t : Nat → Nat} {L a : Nat} (hb : ∀ i, i < L → t i < 256) : kd t L a < 4001 := by
  rcases kd_cases (t := t) (L := L) (a := a) hb with h | h | h <;> omega
def gnx (Z i : Nat) : Nat := if i < Z then i + 1 else i
theorem gnx_p {g : gG} {t : Nat → Nat} {L Z : Nat} (X : Cx g t L Z) {i : Nat} (hi : i ≤ Z) : psn t L (gnx Z i) = nxt t L (psn t L i) ∧ gnx Z i ≤ Z := by
  obtain ⟨T, z1, z2, z3, z4, z5⟩ := X
  unfold gnx
  by_cases c : i < Z
  · rw [if_pos c]; exact ⟨rfl, by omega⟩
  · rw [if_neg c]
    have e : i = Z := by omega
    refine ⟨?_, hi⟩
    unfold nxt
    rw [if_neg (by rw [e, z2]; omega)]
theorem cl_kh {g : gG} {t : Nat → Nat} {L Z : Nat} (X : Cx g t L Z) {i : Nat} (hi : i ≤ Z) (f s : Int32) (c : Nat → Int32) : fX0_kindHere 188 (gH (cst g (nI i) f s c)) = some (kI (kd t L (psn t L i))) := by
  obtain ⟨q1, q2, q3, q4⟩ := X.at hi
  have e := csb g (nI i) f s c (b := 189) (by omega)
  simp (disch := omega) only [fX0_kindHere, fr_188_1, ia_189, fi_188_4, bdS, ck_t, ck_T, cb_0, cb_1, ab_jn, if_true, if_false, cs4, ia_189 _ q3, e, q1]
theorem cl_bh {g : gG} {t : Nat → Nat} {L Z : Nat} (X : Cx g t L Z) {i : Nat} (hi : i ≤ Z) (f s : Int32) (c : Nat → Int32) : fX0_beginHere 188 (gH (cst g (nI i) f s c)) = some (nI (psn t L i)) := by
  obtain ⟨q1, q2, q3, q4⟩ := X.at hi
  have e := csb g (nI i) f s c (b := 190) (by omega)
  simp (disch := omega) only [fX0_beginHere, fr_188_2, ia_190, fi_188_4, bdS, ck_t, ck_T, cb_0, cb_1, ab_jn, if_true, if_false, cs4, ia_190 _ q3, e, q2]
theorem cl_go {g : gG} {t : Nat → Nat} {L Z : Nat} (X : Cx g t L Z) {i : Nat} (hi : i ≤ Z) (f s : Int32) (c : Nat → Int32) : fX0_goOn 188 (gH (cst g (nI i) f s c)) = some (gH (cst g (nI (gnx Z i)) f s c)) := by
  obtain ⟨q1, q2, q3, q4⟩ := X.at hi
  have hbt : ∀ i, i < L → t i < 256 := fun i hi => (X.1.2.2 i hi).2
  have e := csb g (nI i) f s c (b := 189) (by omega)
  have km := kI_m1 (kd_lt1 (t := t) (L := L) (a := psn t L i) hbt)
  have ke := kd_end hbt (psn_nrm (t := t) (L := L) i).2
  have h2 := X.1.2.1
  obtain ⟨z1, z2, z3, z4, z5⟩ := X.2
  unfold gnx
  by_cases c1 : i < Z
  · have nk : ¬ kI (kd t L (psn t L i)) = -1 := fun h => by
      have := ke.mp (km.mp h); have := (z3 i c1).1; omega
    have i4 : i < 400 := by omega
    rw [if_pos c1]
    simp (disch := omega) only [fX0_goOn, fr_188_1, ia_189, fi_188_4, fw_188_4, bdS, ck_t, ck_T, cb_0, cb_1, ab_jn, if_true, if_false, cs4, cs_i, ia_189 _ q3, e, q1, nk, i4, nI_ltI, nI_add, if_true, if_false]
  · have ei : i = Z := by omega
    have yk : kI (kd t L (psn t L i)) = -1 := km.mpr (ke.mpr (by rw [ei]; exact z2))
    rw [if_neg c1]
    simp (disch := omega) only [fX0_goOn, fr_188_1, ia_189, fi_188_4, fw_188_4, bdS, ck_t, ck_T, cb_0, cb_1, ab_jn, if_true, if_false, cs4, ia_189 _ q3, e, q1, yk, if_true]
theorem cl_ih {g : gG} {t : Nat → Nat} {L Z : Nat} (X : Cx g t L Z) {i : Nat} (hi : i ≤ Z) (f s : Int32) (c : Nat → Int32) {k : Nat} (hk : k < 4000) : fX10_isHereL 194 (nI k) (gH (cst g (nI i) f s c)) = some (bI (decide (kd t L (psn t L i) = k))) := by
  have hbt : ∀ i, i < L → t i < 256 := fun i hi => (X.1.2.2 i hi).2
  have kh := cl_kh X hi f s c
  have ke := kI_eq (m := k) (kd_lt1 (t := t) (L := L) (a := psn t L i) hbt) hk
  by_cases c1 : kd t L (psn t L i) = k
  · rw [decide_eq_true c1]
    have e1 : (kI (kd t L (psn t L i)) = nI k) = True := eq_true (ke.mpr c1)
    simp (disch := omega) only [fX10_isHereL, io_188, fr_194_0, bdS, ck_t, ck_T, cb_0, cb_1, ab_jn, if_true, if_false, io_188, kh, e1, if_true]
    rfl
  · rw [decide_eq_false c1]
    have e1 : ¬ kI (kd t L (psn t L i)) = nI k := fun h => c1 (ke.mp h)
    simp (disch := omega) only [fX10_isHereL, io_188, fr_194_0, bdS, ck_t, ck_T, cb_0, cb_1, ab_jn, if_true, if_false, io_188, kh, e1, if_false]
    rfl
theorem cl_ihE {g : gG} {t : Nat → Nat} {L Z : Nat} (X : Cx g t L Z) {i : Nat} (hi : i ≤ Z) (f s : Int32) (c : Nat → Int32) : fX10_isHereL 194 (-1) (gH (cst g (nI i) f s c)) = some (bI (decide (kd t L (psn t L i) = 4000))) := by
  have hbt : ∀ i, i < L → t i < 256 := fun i hi => (X.1.2.2 i hi).2
  have kh := cl_kh X hi f s c
  have ke := kI_m1 (kd_lt1 (t := t) (L := L) (a := psn t L i) hbt)
  by_cases c1 : kd t L (psn t L i) = 4000
  · rw [decide_eq_true c1]
    have e1 : (kI (kd t L (psn t L i)) = -1) = True := eq_true (ke.mpr c1)
    simp (disch := omega) only [fX10_isHereL, io_188, fr_194_0, bdS, ck_t, ck_T, cb_0, cb_1, ab_jn, if_true, if_false, io_188, kh, e1, if_true]
    rfl
  · rw [decide_eq_false c1]
    have e1 : ¬ kI (kd t L (psn t L i)) = -1 := fun h => c1 (ke.mp h)
    simp (disch := omega) only [fX10_isHereL, io_188, fr_194_0, bdS, ck_t, ck_T, cb_0, cb_1, ab_jn, if_true, if_false, io_188, kh, e1, if_false]
    rfl
theorem cl_ir (g : gG) (i f s : Int32) (c : Nat → Int32) : fX10_isRightL 194 (gH (cst g i f s c)) = some (bI (decide (f = -1))) := by
  by_cases c1 : f = -1
  · rw [decide_eq_true c1]
    simp (disch := omega) only [fX10_isRightL, fi_194_2, bdS, ck_t, ck_T, cb_0, cb_1, ab_jn, if_true, if_false, cs2, c1, if_true]
    rfl
  · rw [decide_eq_false c1]
    simp (disch := omega) only [fX10_isRightL, fi_194_2, bdS, ck_t, ck_T, cb_0, cb_1, ab_jn, if_true, if_false, cs2, c1, if_false]
    rfl
theorem cl_acY {g : gG} {t : Nat → Nat} {L Z : Nat} (X : Cx g t L Z) {i : Nat} (hi : i ≤ Z) (s : Int32) (c : Nat → Int32) : fX10_acceptL 194 (nI 1) (gH (cst g (nI i) (-1) s c)) = some (gH (cst g (nI (gnx Z i)) (-1) s c)) := by
  have go := cl_go X hi (-1) s c
  simp (disch := omega) only [fX10_acceptL, io_194, io_188, fr_194_0, fw_194_2, bdS, ck_t, ck_T, cb_0, cb_1, ab_jn, if_true, if_false, cl_ir, io_188, go, decide_true, bI_0, reduceCtorEq, show ¬ (nI 1 : Int32) = 0 by decide, if_false]
theorem cl_acN {g : gG} {t : Nat → Nat} {L Z : Nat} (X : Cx g t L Z) {i : Nat} (hi : i ≤ Z) (s : Int32) (c : Nat → Int32) : fX10_acceptL 194 (nI 0) (gH (cst g (nI i) (-1) s c)) = some (gH (cst g (nI i) (nI (psn t L i)) s c)) := by
  have bh := cl_bh X hi (-1) s c
  simp (disch := omega) only [fX10_acceptL, io_194, io_188, fr_194_0, fw_194_2, bdS, ck_t, ck_T, cb_0, cb_1, ab_jn, if_true, if_false, cl_ir, io_188, bh, cs_f, decide_true, bI_0, reduceCtorEq, nI_0, if_true, if_false]
theorem cl_acW (g : gG) (i f s x : Int32) (c : Nat → Int32) (hf : ¬ f = -1) : fX10_acceptL 194 x (gH (cst g i f s c)) = some (gH (cst g i f s c)) := by
  simp (disch := omega) only [fX10_acceptL, io_194, io_188, fr_194_0, fw_194_2, bdS, ck_t, ck_T, cb_0, cb_1, ab_jn, if_true, if_false, cl_ir, hf, decide_false, bI_0, if_true]
theorem cl_em (g : gG) (i f w : Int32) {s : Nat} (hs : s ≤ 400) (c : Nat → Int32) : fX3_emit 194 w (gH (cst g i f (nI s) c)) = some (gH (cst g i f (nI (if s < 400 then s + 1 else s)) (if s < 400 then upd c s w else c))) := by
  by_cases c1 : s < 400
  · rw [if_pos c1, if_pos c1]
    simp (disch := omega) only [fX3_emit, fi_194_5, fr_194_4, iw_195, fw_194_5, bdS, ck_t, ck_T, cb_0, cb_1, ab_jn, if_true, if_false, cs5, csa, cs_s, cs_c, c1, nI_ltI, nI_add, if_true]
  · rw [if_neg c1, if_neg c1]
    simp (disch := omega) only [fX3_emit, fi_194_5, fr_194_4, iw_195, fw_194_5, bdS, ck_t, ck_T, cb_0, cb_1, ab_jn, if_true, if_false, cs5, c1, nI_ltI, if_false]
