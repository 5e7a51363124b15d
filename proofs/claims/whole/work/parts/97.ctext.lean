variable {Nq : Nat}
/-! ===== the class reads a text of THE LAW ===== -/
theorem fi3_l (g : gG) (v i f s : Int32) (c : Nat → Int32) : ab_fi (gH (cst (sF g 194 3 v) i f s c)) 194 3 3 = some v := by rw [fi_194_3, cs3 _ _ _ _ _ (by omega), gF_sF1, upd_1]
theorem fi1_l {g : gG} (h : gF g 194 1 = nI 12) (v i f s : Int32) (c : Nat → Int32) : ab_fi (gH (cst (sF g 194 3 v) i f s c)) 194 3 1 = some (nI 12) := by rw [fi_194_1, cs3 _ _ _ _ _ (by omega), gF_sF1, upd_2 _ _ (by omega), h]
theorem fw3_l (g : gG) (v w i f s : Int32) (c : Nat → Int32) : ab_fw (gH (cst (sF g 194 3 v) i f s c)) 194 3 3 (.int w) = some (gH (cst (sF g 194 3 w) i f s c)) := by rw [fw_194_3, csl, sF_sF]
theorem txt_0 {F F' : Nat} {k : Int32 → ab_H → Option (Int32 × ab_H)} {h : ab_H} : fX10_readTextL_35 F 194 k (F' + 1) (nI 0) h = k (nI 0) h := by
  rw [fX10_readTextL_35, if_pos nI_0]
def TxE (g : gG) (t : Nat → Nat) (L Z : Nat) (r : Bool × Nat × Nat × List Nat) (X : Option (Int32 × ab_H)) : Prop := ∃ n' i' f' s' code', X = some (f', gH (cst (sF g 194 3 n') (nI i') f' (nI s') code')) ∧ (r.1 = true → f' = -1 ∧ n' = nI r.2.2.1 ∧ s' = r.2.2.2.length ∧ s' ≤ 400 ∧ rep code' r.2.2.2) ∧ (r.1 = false → f' = nI r.2.1 ∧ ¬ f' = -1)
theorem txt_loop {g : gG} {t : Nat → Nat} {L Z : Nat} (X : Cx g t L Z) (h12 : gF g 194 1 = nI 12) {F : Nat} (hF : 11000 < F) : ∀ k n i c code Fu, k + n = 12 → i ≤ Z → rep code c → c.length ≤ psn t L i → k + 2 < Fu → TxE g t L Z (pLines t L k (psn t L i) n c) (fX10_readTextL_35 F 194 kTL Fu (nI 1) (gH (cst (sF g 194 3 (nI n)) (nI i) (-1) (nI c.length) code))) := by
  have h2 := X.1.2.1
  have hbt : ∀ i, i < L → t i < 256 := fun i hi => (X.1.2.2 i hi).2
  have i1 : ¬ (nI 1 : Int32) = 0 := by decide
  intro k
  induction k with
  | zero =>
    intro n i c code Fu hk hi hr hl hFu
    have e : n = 12 := by omega
    subst e
    obtain ⟨F', rfl⟩ : ∃ F', Fu = F' + 1 := ⟨Fu - 1, by omega⟩
    have pl := (psn_nrm (t := t) (L := L) i).2
    have E : fX10_readTextL_35 F 194 kTL (F' + 1) (nI 1) (gH (cst (sF g 194 3 (nI 12)) (nI i) (-1) (nI c.length) code)) = some (nI (psn t L i), gH (cst (sF g 194 3 (nI 12)) (nI i) (nI (psn t L i)) (nI c.length) code)) := by
      rw [fX10_readTextL_35, if_neg i1]
      refine (bd_e (fi3_l _ _ _ _ _ _)).trans ?_
      refine (bd_e (fi1_l h12 _ _ _ _ _)).trans ?_
      refine (if_neg (by decide)).trans ?_
      exact kTL_1 (X.l _) hi _ _
    rw [E]
    exact ⟨_, _, _, _, _, rfl, (fun h => by cases h), fun _ => ⟨rfl, nI_m1 (by omega)⟩⟩
  | succ k ih =>
    intro n i c code Fu hk hi hr hl hFu
    obtain ⟨F', rfl⟩ : ∃ F', Fu = F' + 2 := ⟨Fu - 2, by omega⟩
    have pl := (psn_nrm (t := t) (L := L) i).2
    have Xn := X.l (nI n)
    have Xm := X.l (nI (n + 1))
    obtain ⟨i2, f2, s2, code2, e1, z1, z2, r1, r2⟩ := cl_line Xn hF c i code hi hr hl
    have ln : (nI n : Int32) < nI 12 := nI_lt (by omega) (by decide)
    have ir := cl_ir (sF g 194 3 (nI (n + 1))) (nI i2) f2 (nI s2) code2
    have h59 := cl_ih Xm z1 f2 (nI s2) code2 (k := 59) (by omega)
    have go := cl_go Xm z1 f2 (nI s2) code2
    have E : fX10_readTextL_35 F 194 kTL (F' + 2) (nI 1) (gH (cst (sF g 194 3 (nI n)) (nI i) (-1) (nI c.length) code)) = if f2 = -1 ∧ kd t L (psn t L i2) = 59 then fX10_readTextL_35 F 194 kTL (F' + 1) (nI 1) (gH (cst (sF g 194 3 (nI (n + 1))) (nI (gnx Z i2)) f2 (nI s2) code2)) else kTL (nI 0) (gH (cst (sF g 194 3 (nI (n + 1))) (nI i2) f2 (nI s2) code2)) := by
      rw [fX10_readTextL_35, if_neg i1]
      refine (bd_e (fi3_l _ _ _ _ _ _)).trans ?_
      refine (bd_e (fi1_l h12 _ _ _ _ _)).trans ?_
      refine (if_pos ln).trans ?_
      refine (ck_e (io_194 _)).trans ?_
      refine (bd_e e1).trans ?_
      refine (bd_e (fi3_l _ _ _ _ _ _)).trans ?_
      refine (bd_e (fw3_l _ _ _ _ _ _ _)).trans ?_
      rw [nI_add]
      refine (ck_e (io_194 _)).trans ?_
      refine (bd_e ir).trans ?_
      refine (jn_e _ _).trans ?_
      refine (jn_e _ _).trans ?_
      by_cases cf : f2 = -1
      · rw [decide_eq_true cf]
        refine (if_neg (fun h => by cases bI_0.mp h)).trans ?_
        refine (ck_e (io_194 _)).trans ?_
        refine (bd_e h59).trans ?_
        by_cases ck : kd t L (psn t L i2) = 59
        · rw [if_pos (show (f2 = -1 ∧ kd t L (psn t L i2) = 59) from ⟨cf, ck⟩), decide_eq_true ck]
          refine (if_neg (fun h => by cases bI_0.mp h)).trans ?_
          refine (if_neg i1).trans ?_
          refine (bd_e (fr_194_0 _)).trans ?_
          refine (ck_e (io_188 _)).trans ?_
          exact bd_e go
        · rw [if_neg (show ¬ (f2 = -1 ∧ kd t L (psn t L i2) = 59) from fun h => ck h.2), decide_eq_false ck]
          refine (if_pos (bI_0.mpr rfl)).trans ?_
          refine (if_pos nI_0).trans ?_
          exact txt_0
      · rw [if_neg (show ¬ (f2 = -1 ∧ kd t L (psn t L i2) = 59) from fun h => cf h.1), decide_eq_false cf]
        refine (if_pos (bI_0.mpr rfl)).trans ?_
        refine (if_pos nI_0).trans ?_
        exact txt_0
    rw [E, pLines]
    cases c1 : (pLine t L (psn t L i)).1
    · obtain ⟨y1, y2⟩ := r2 c1
      rw [if_neg (show ¬ (f2 = -1 ∧ kd t L (psn t L i2) = 59) from fun h => y2 h.1), if_neg (by decide), kTL_w Xm z1 y2]
      exact ⟨_, _, _, _, _, rfl, (fun h => by cases h), fun _ => ⟨y1, y2⟩⟩
    · obtain ⟨y1, y2, y3, y4⟩ := r1 c1
      obtain ⟨p1, p2, p3⟩ := (pg_line (t := t) hbt pl).1 c1
      subst y1
      rw [if_pos rfl, ← y2]
      rw [← y2] at p1 p2 p3
      generalize (pLine t L (psn t L i)).2.2 = x at *
      have pL := p2.2
      have lx : (c ++ x).length = c.length + x.length := List.length_append
      by_cases k4 : kd t L (psn t L i2) = 4000
      · rw [if_neg (show ¬ ((-1 : Int32) = -1 ∧ kd t L (psn t L i2) = 59) from fun h => by omega), if_pos k4, kTL_0 Xm z1, if_pos k4]
        exact ⟨_, _, _, _, _, rfl, fun _ => ⟨rfl, rfl, y3, z2, y4⟩, fun h => by cases h⟩
      · rw [if_neg k4]
        by_cases k5 : kd t L (psn t L i2) = 59
        · have hl' : psn t L i2 < L := kd_lt (t := t) (by omega)
          have gt := nxt_gt (t := t) hl'
          obtain ⟨g1, g2⟩ := gnx_p X z1
          rw [if_pos (show ((-1 : Int32) = -1 ∧ kd t L (psn t L i2) = 59) from ⟨rfl, k5⟩), if_pos k5, ← g1, y3]
          exact ih (n + 1) (gnx Z i2) (c ++ x) code2 (F' + 1) (by omega) g2 y4 (by rw [g1]; omega) (by omega)
        · rw [if_neg (show ¬ ((-1 : Int32) = -1 ∧ kd t L (psn t L i2) = 59) from fun h => k5 h.2), if_neg k5, kTL_0 Xm z1, if_neg k4]
          exact ⟨_, _, _, _, _, rfl, (fun h => by cases h), fun _ => ⟨rfl, nI_m1 (by omega)⟩⟩
/-- what reading a text of THE LAW leaves -/
theorem cl_text {g : gG} {t : Nat → Nat} {L : Nat} (T : Tq g t L) (h12 : gF g 194 1 = nI 12) {F : Nat} (hF : 11000 < F) : ∃ Kd Bg En n' i' f' s' code', fX10_readTextL F 194 (gH g) = some (f', gH (cst (sF (ct3 g Kd Bg En) 194 3 n') (nI i') f' (nI s') code')) ∧ ((pLaw t L).1 = true → f' = -1 ∧ n' = nI (pLaw t L).2.2.1 ∧ s' = (pLaw t L).2.2.2.length ∧ s' ≤ 400 ∧ rep code' (pLaw t L).2.2.2) ∧ ((pLaw t L).1 = false → f' = nI (pLaw t L).2.1 ∧ ¬ f' = -1) := by
  have T2 : Tq (sF (sF g 194 2 (-1)) 194 3 (nI 0)) t L := (T.f (by omega)).f (by omega)
  obtain ⟨Kd, Bg, En, Z, e1, C⟩ := cl_cut T2 hF
  have X0 : Cx (ct3 g Kd Bg En) t L Z := ⟨ct3_T T Kd Bg En, by rw [ct3_a9, ct3_a0, ct3_a1]; exact C⟩
  have X := X0.l (nI 0)
  have es : sF (sF (ct3 (sF (sF g 194 2 (-1)) 194 3 (nI 0)) Kd Bg En) 188 4 (nI 0)) 194 5 (nI 0) = cst (sF (ct3 g Kd Bg En) 194 3 (nI 0)) (nI 0) (-1) (nI 0) (gA g 195) := by
    have e0 : sA (sF (ct3 g Kd Bg En) 194 3 (nI 0)) 195 (gA g 195) = sF (ct3 g Kd Bg En) 194 3 (nI 0) := by
      have : gA (sF (ct3 g Kd Bg En) 194 3 (nI 0)) 195 = gA g 195 := by
        unfold ct3
        rw [gA_sF, gA_sA2 _ _ (by omega), gA_sA2 _ _ (by omega), gA_sA2 _ _ (by omega)]
      rw [← this]; exact sA_id _ _
    unfold cst
    rw [e0, sF_cc _ (show 188 ≠ 194 by omega)]
    have e2 : ct3 (sF (sF g 194 2 (-1)) 194 3 (nI 0)) Kd Bg En = sF (sF (ct3 g Kd Bg En) 194 3 (nI 0)) 194 2 (-1) := by
      rw [sF_cm _ _ (show 3 ≠ 2 by omega)]; rfl
    rw [e2, sF_cm _ _ (show 2 ≠ 5 by omega)]
  have p0 : psn t L 0 = rn (bk t) L 0 := rfl
  have hE := cl_ihE X (Nat.zero_le Z) (-1) (nI 0) (gA g 195)
  have h12' : gF (ct3 g Kd Bg En) 194 1 = nI 12 := h12
  have st : fX3_startText 194 (gH (sF (ct3 (sF (sF g 194 2 (-1)) 194 3 (nI 0)) Kd Bg En) 188 4 (nI 0))) = some (gH (cst (sF (ct3 g Kd Bg En) 194 3 (nI 0)) (nI 0) (-1) (nI 0) (gA g 195))) := by
    rw [← es]; unfold fX3_startText; rw [fw_194_5, bdS]
  obtain ⟨F', rfl⟩ : ∃ F', F = F' + 1 := ⟨F - 1, by omega⟩
  unfold pLaw
  rw [← p0]
  by_cases k4 : kd t L (psn t L 0) = 4000
  · rw [if_pos k4]
    rw [decide_eq_true k4] at hE
    refine ⟨Kd, Bg, En, nI 0, gnx Z 0, -1, 0, gA g 195, ?_, fun _ => ⟨rfl, rfl, rfl, by omega, fun q hq => absurd hq (Nat.not_lt_zero q)⟩, fun h => by cases h⟩
    unfold fX10_readTextL
    refine (bd_e (fw_194_2 _ _)).trans ?_
    refine (bd_e (fw_194_3 _ _)).trans ?_
    refine (bd_e (fr_194_0 _)).trans ?_
    refine (ck_e (io_188 _)).trans ?_
    refine (bd_e e1).trans ?_
    refine (ck_e (io_194 _)).trans ?_
    refine (bd_e st).trans ?_
    refine (ck_e (io_194 _)).trans ?_
    refine (bd_e hE).trans ?_
    refine (if_neg (fun h => by cases bI_0.mp h)).trans ?_
    refine txt_0.trans ?_
    exact (kTL_0 X (Nat.zero_le Z) (nI 0) (gA g 195)).trans (if_pos k4)
  · rw [if_neg k4]
    rw [decide_eq_false k4] at hE
    obtain ⟨n', i', f', s', code', e3, r1, r2⟩ := txt_loop X0 h12' hF 12 0 0 [] (gA g 195) (F' + 1) (by omega) (Nat.zero_le Z) (fun q hq => absurd hq (Nat.not_lt_zero q)) (Nat.zero_le _) (by omega)
    refine ⟨Kd, Bg, En, n', i', f', s', code', ?_, r1, r2⟩
    unfold fX10_readTextL
    refine (bd_e (fw_194_2 _ _)).trans ?_
    refine (bd_e (fw_194_3 _ _)).trans ?_
    refine (bd_e (fr_194_0 _)).trans ?_
    refine (ck_e (io_188 _)).trans ?_
    refine (bd_e e1).trans ?_
    refine (ck_e (io_194 _)).trans ?_
    refine (bd_e st).trans ?_
    refine (ck_e (io_194 _)).trans ?_
    refine (bd_e hE).trans ?_
    refine (if_pos (bI_0.mpr rfl)).trans ?_
    exact e3
