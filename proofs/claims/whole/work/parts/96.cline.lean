variable {Nq : Nat}
/-! ===== the class reads a LINE, and a text of THE LAW ===== -/
theorem emX (g : gG) (i f w : Int32) {s : Nat} (hs : s ≤ 400) (c : Nat → Int32) : ∃ s' c', s' ≤ 400 ∧ fX3_emit 194 w (gH (cst g i f (nI s) c)) = some (gH (cst g i f (nI s') c')) := by
  refine ⟨_, _, ?_, cl_em g i f w hs c⟩
  split <;> omega
theorem line_e {g : gG} {t : Nat → Nat} {L Z : Nat} (X : Cx g t L Z) {F i : Nat} (hi : i ≤ Z) (s : Nat) (code : Nat → Int32) : fX3_readLine F 194 (gH (cst g (nI i) (-1) (nI s) code)) = (ab_bd (fX10_acceptL 194 (if kd t L (psn t L i) = 1007 ∨ kd t L (psn t L i) = 1008 then nI 1 else nI 0) (gH (cst g (nI i) (-1) (nI s) code))) fun h4 => ab_ck (ab_io h4 194 3 = true) (ab_bd (fX10_isRightL 194 h4) fun v5 => ab_jn (κ := ab_H → Option ab_H) (fun (h6 : ab_H) => ab_ck (ab_io h6 194 3 = true) (ab_bd (fX3_emit 194 (kI (kd t L (psn t L i))) h6) fun h7 => some h7)) fun j8 => ab_jn (κ := Option ab_H) (ab_ck (ab_io h4 194 3 = true) (ab_bd (fX3_emit 194 (nI 1) h4) fun h9 => j8 h9)) fun j10 => (if v5 = 0 then j10 else ab_ck (ab_io h4 194 3 = true) (ab_bd (fX10_isHereL 194 (nI 1009) h4) fun v12 => (if v12 = 0 then j10 else ab_bd (ab_fr h4 194 3 0) fun v14 => ab_ck (ab_io h4 v14 0 = true) (ab_bd (fX0_goOn v14 h4) fun h15 => ab_ck (ab_io h15 194 3 = true) (ab_bd (fX3_readConditionT F 194 (nI 0) h15) fun h16 => j8 h16))))))) := by
  have hbt : ∀ i, i < L → t i < 256 := fun i hi => (X.1.2.2 i hi).2
  have kh := cl_kh X hi (-1) (nI s) code
  have k7 := kI_eq (m := 1007) (kd_lt1 (t := t) (L := L) (a := psn t L i) hbt) (by omega)
  have k8 := kI_eq (m := 1008) (kd_lt1 (t := t) (L := L) (a := psn t L i) hbt) (by omega)
  unfold fX3_readLine
  refine (bd_e (fr_194_0 _)).trans ?_
  refine (ck_e (io_188 _)).trans ?_
  refine (bd_e kh).trans ?_
  refine (jn_e _ _).trans ?_
  refine (jn_e _ _).trans ?_
  by_cases c7 : kd t L (psn t L i) = 1007
  · refine (if_pos (k7.mpr c7)).trans ?_
    rw [if_pos (Or.inl c7)]
    exact ck_e (io_194 _)
  · refine (if_neg (fun h => c7 (k7.mp h))).trans ?_
    by_cases c8 : kd t L (psn t L i) = 1008
    · refine (if_pos (k8.mpr c8)).trans ?_
      rw [if_pos (Or.inr c8)]
      exact ck_e (io_194 _)
    · refine (if_neg (fun h => c8 (k8.mp h))).trans ?_
      rw [if_neg (fun h => h.elim c7 c8)]
      exact ck_e (io_194 _)
theorem cl_condT {g : gG} {t : Nat → Nat} {L Z : Nat} (X : Cx g t L Z) {F : Nat} (hF : 11000 < F) : AtC g t L Z (pSome t L (pAtom t L 6)) (fX3_readConditionT F 194 (nI 0)) := by
  have := cl_cond X hF (A := fX3_readAtom F 7) (d := nI 0) (fun a h => pg_atom 6 a h) (cl_atom X hF 6 (by decide))
  exact this
theorem cl_line {g : gG} {t : Nat → Nat} {L Z : Nat} (X : Cx g t L Z) {F : Nat} (hF : 11000 < F) : AtC g t L Z (pLine t L) (fX3_readLine F 194) := by
  intro c i code hi hr hl
  have h2 := X.1.2.1
  have hbt : ∀ i, i < L → t i < 256 := fun i hi => (X.1.2.2 i hi).2
  have pl := (psn_nrm (t := t) (L := L) i).2
  have PG := pg_line (t := t) hbt pl
  rw [line_e X hi c.length code]
  unfold pLine at PG ⊢
  by_cases k : kd t L (psn t L i) = 1007 ∨ kd t L (psn t L i) = 1008
  · rw [if_pos k] at PG
    rw [if_pos k, if_pos k]
    have hl' : psn t L i < L := kd_lt (t := t) (by omega)
    have gt := nxt_gt (t := t) hl'
    have ac := cl_acY X hi (nI c.length) code
    obtain ⟨g1, g2⟩ := gnx_p X hi
    have ir := cl_ir g (nI (gnx Z i)) (-1) (nI c.length) code
    rw [decide_eq_true rfl] at ir
    have h9 := cl_ih X g2 (-1) (nI c.length) code (k := 1009) (by omega)
    rw [g1] at h9
    have kv : kI (kd t L (psn t L i)) = nI (kd t L (psn t L i)) := by unfold kI; rw [if_neg (by omega)]
    rw [kv]
    by_cases k9 : kd t L (nxt t L (psn t L i)) = 1009
    · rw [if_pos k9] at PG
      rw [if_pos k9]
      rw [decide_eq_true k9] at h9
      have hl2 : nxt t L (psn t L i) < L := kd_lt (t := t) (by omega)
      have gt2 := nxt_gt (t := t) hl2
      obtain ⟨g3, g4⟩ := gnx_p X g2
      rw [g1] at g3
      have go := cl_go X g2 (-1) (nI c.length) code
      obtain ⟨i3, f3, s3, code3, e3, u1, u2, v1, v2⟩ := cl_condT X hF c (gnx Z (gnx Z i)) code g4 hr (by omega)
      rw [g3] at v1 v2
      refine (show CnC g t L Z c _ _ from ?_)
      have E : (ab_bd (fX10_acceptL 194 (nI 1) (gH (cst g (nI i) (-1) (nI c.length) code))) fun h4 => ab_ck (ab_io h4 194 3 = true) (ab_bd (fX10_isRightL 194 h4) fun v5 => ab_jn (κ := ab_H → Option ab_H) (fun (h6 : ab_H) => ab_ck (ab_io h6 194 3 = true) (ab_bd (fX3_emit 194 (nI (kd t L (psn t L i))) h6) fun h7 => some h7)) fun j8 => ab_jn (κ := Option ab_H) (ab_ck (ab_io h4 194 3 = true) (ab_bd (fX3_emit 194 (nI 1) h4) fun h9 => j8 h9)) fun j10 => (if v5 = 0 then j10 else ab_ck (ab_io h4 194 3 = true) (ab_bd (fX10_isHereL 194 (nI 1009) h4) fun v12 => (if v12 = 0 then j10 else ab_bd (ab_fr h4 194 3 0) fun v14 => ab_ck (ab_io h4 v14 0 = true) (ab_bd (fX0_goOn v14 h4) fun h15 => ab_ck (ab_io h15 194 3 = true) (ab_bd (fX3_readConditionT F 194 (nI 0) h15) fun h16 => j8 h16))))))) = some (gH (cst g (nI i3) f3 (nI (em2 true (kd t L (psn t L i)) (s3, code3)).1) (em2 true (kd t L (psn t L i)) (s3, code3)).2)) := by
        refine (bd_e ac).trans ?_
        refine (ck_e (io_194 _)).trans ?_
        refine (bd_e ir).trans ?_
        refine (jn_e _ _).trans ?_
        refine (jn_e _ _).trans ?_
        refine (if_neg (fun h => by cases bI_0.mp h)).trans ?_
        refine (ck_e (io_194 _)).trans ?_
        refine (bd_e h9).trans ?_
        refine (if_neg (fun h => by cases bI_0.mp h)).trans ?_
        refine (bd_e (fr_194_0 _)).trans ?_
        refine (ck_e (io_188 _)).trans ?_
        refine (bd_e go).trans ?_
        refine (ck_e (io_194 _)).trans ?_
        refine (bd_e e3).trans ?_
        refine (ck_e (io_194 _)).trans ?_
        exact bd_e (emE g (nI i3) f3 (s3, code3) u2 _)
      rw [E]
      cases c3 : (pSome t L (pAtom t L 6) (nxt t L (nxt t L (psn t L i)))).1
      · obtain ⟨x1, x2⟩ := v2 c3
        rw [if_neg (by decide)]
        exact ⟨i3, f3, _, _, rfl, u1, em2_le u2, (fun h => by cases h), fun _ => ⟨x1, x2⟩⟩
      · obtain ⟨x1, x2, x3, x4⟩ := v1 c3
        obtain ⟨b1, b2, b3⟩ := (pg_some (t := t) (A := pAtom t L 6) (fun a h => pg_atom 6 a h) _ (nxt_nrm (t := t) hl2).2).1 c3
        have bL := b2.2
        rw [if_pos rfl]
        obtain ⟨w1, w2⟩ := em2_ok (b := true) (w := kd t L (psn t L i)) (q := (s3, code3)) x3 x4 (fun _ => by rw [List.length_append]; omega)
        have aa : c ++ (pSome t L (pAtom t L 6) (nxt t L (nxt t L (psn t L i)))).2.2 ++ jl true (kd t L (psn t L i)) = c ++ ((pSome t L (pAtom t L 6) (nxt t L (nxt t L (psn t L i)))).2.2 ++ [kd t L (psn t L i)]) := by
          simp only [jl, if_true, List.append_assoc]
        rw [aa] at w1 w2
        exact ⟨i3, f3, _, _, rfl, u1, em2_le u2, fun _ => ⟨x1, x2, w1, w2⟩, fun h => by cases h⟩
    · rw [if_neg k9] at PG
      rw [if_neg k9]
      rw [decide_eq_false k9] at h9
      obtain ⟨b1, b2, b3⟩ := PG.1 rfl
      have bL : nxt t L (psn t L i) ≤ L := b2.2
      have b3 : 2 + psn t L i ≤ nxt t L (psn t L i) := b3
      obtain ⟨w1, w2⟩ := em2_ok (b := true) (w := 1) (q := (c.length, code)) rfl hr (fun _ => by omega)
      obtain ⟨w3, w4⟩ := em2_ok (b := true) (w := kd t L (psn t L i)) w1 w2 (fun _ => by simp only [jl, if_true, List.length_append, List.length_cons, List.length_nil]; omega)
      have aa : c ++ jl true 1 ++ jl true (kd t L (psn t L i)) = c ++ [1, kd t L (psn t L i)] := by
        simp only [jl, if_true, List.append_assoc]; rfl
      rw [aa] at w3 w4
      have l0 : c.length ≤ 400 := by omega
      refine ⟨gnx Z i, -1, _, _, ?_, g2, em2_le (em2_le l0), fun _ => ⟨rfl, g1, w3, w4⟩, fun h => by cases h⟩
      refine (bd_e ac).trans ?_
      refine (ck_e (io_194 _)).trans ?_
      refine (bd_e ir).trans ?_
      refine (jn_e _ _).trans ?_
      refine (jn_e _ _).trans ?_
      refine (if_neg (fun h => by cases bI_0.mp h)).trans ?_
      refine (ck_e (io_194 _)).trans ?_
      refine (bd_e h9).trans ?_
      refine (if_pos (bI_0.mpr rfl)).trans ?_
      refine (ck_e (io_194 _)).trans ?_
      refine (bd_e (emE g (nI (gnx Z i)) (-1) (c.length, code) l0 _)).trans ?_
      refine (ck_e (io_194 _)).trans ?_
      exact bd_e (emE g (nI (gnx Z i)) (-1) _ (em2_le l0) _)
  · rw [if_neg k, if_neg k]
    have ac := cl_acN X hi (nI c.length) code
    have nm : ¬ nI (psn t L i) = -1 := nI_m1 (by omega)
    have ir := cl_ir g (nI i) (nI (psn t L i)) (nI c.length) code
    rw [decide_eq_false nm] at ir
    obtain ⟨s1, c1, l1, e1⟩ := emX g (nI i) (nI (psn t L i)) (nI 1) (show c.length ≤ 400 by omega) code
    obtain ⟨s2, c2, l2, e2⟩ := emX g (nI i) (nI (psn t L i)) (kI (kd t L (psn t L i))) l1 c1
    refine ⟨i, nI (psn t L i), s2, c2, ?_, hi, l2, (fun h => by cases h), fun _ => ⟨rfl, nm⟩⟩
    refine (bd_e ac).trans ?_
    refine (ck_e (io_194 _)).trans ?_
    refine (bd_e ir).trans ?_
    refine (jn_e _ _).trans ?_
    refine (jn_e _ _).trans ?_
    refine (if_pos (bI_0.mpr rfl)).trans ?_
    refine (ck_e (io_194 _)).trans ?_
    refine (bd_e e1).trans ?_
    refine (ck_e (io_194 _)).trans ?_
    exact bd_e e2
/-! ===== the text ===== -/
def kTL : Int32 → ab_H → Option (Int32 × ab_H) := fun z25 h26 => ab_jn (κ := Int32 → Option (Int32 × ab_H)) (fun (z27 : Int32) => ab_ck (ab_io h26 194 3 = true) (ab_bd (fX10_acceptL 194 z27 h26) fun h28 => ab_bd (ab_fi h28 194 3 2) fun v29 => some (v29, h28))) fun j30 => ab_jn (κ := Option (Int32 × ab_H)) (j30 (nI 0)) fun j31 => (if z25 = 0 then ab_ck (ab_io h26 194 3 = true) (ab_bd (fX10_isHereL 194 (-1 : Int32) h26) fun v33 => (if v33 = 0 then j31 else j30 (nI 1))) else j31)
theorem fi_cs (g : gG) (i f s : Int32) (c : Nat → Int32) : ab_fi (gH (cst g i f s c)) 194 3 2 = some f := by rw [fi_194_2, cs2]
theorem kTL_1 {g : gG} {t : Nat → Nat} {L Z : Nat} (X : Cx g t L Z) {i : Nat} (hi : i ≤ Z) (s : Int32) (c : Nat → Int32) : kTL (nI 1) (gH (cst g (nI i) (-1) s c)) = some (nI (psn t L i), gH (cst g (nI i) (nI (psn t L i)) s c)) := by
  unfold kTL
  refine (jn_e _ _).trans ?_
  refine (jn_e _ _).trans ?_
  refine (if_neg (by decide)).trans ?_
  refine (ck_e (io_194 _)).trans ?_
  refine (bd_e (cl_acN X hi s c)).trans ?_
  exact bd_e (fi_cs _ _ _ _ _)
theorem kTL_0 {g : gG} {t : Nat → Nat} {L Z : Nat} (X : Cx g t L Z) {i : Nat} (hi : i ≤ Z) (s : Int32) (c : Nat → Int32) : kTL (nI 0) (gH (cst g (nI i) (-1) s c)) = if kd t L (psn t L i) = 4000 then some (-1, gH (cst g (nI (gnx Z i)) (-1) s c)) else some (nI (psn t L i), gH (cst g (nI i) (nI (psn t L i)) s c)) := by
  have he := cl_ihE X hi (-1) s c
  unfold kTL
  refine (jn_e _ _).trans ?_
  refine (jn_e _ _).trans ?_
  refine (if_pos nI_0).trans ?_
  refine (ck_e (io_194 _)).trans ?_
  refine (bd_e he).trans ?_
  by_cases k : kd t L (psn t L i) = 4000
  · rw [if_pos k, decide_eq_true k]
    refine (if_neg (fun h => by cases bI_0.mp h)).trans ?_
    refine (ck_e (io_194 _)).trans ?_
    refine (bd_e (cl_acY X hi s c)).trans ?_
    exact bd_e (fi_cs _ _ _ _ _)
  · rw [if_neg k, decide_eq_false k]
    refine (if_pos (bI_0.mpr rfl)).trans ?_
    refine (ck_e (io_194 _)).trans ?_
    refine (bd_e (cl_acN X hi s c)).trans ?_
    exact bd_e (fi_cs _ _ _ _ _)
theorem kTL_w {g : gG} {t : Nat → Nat} {L Z : Nat} (X : Cx g t L Z) {i : Nat} (hi : i ≤ Z) {f : Int32} (hf : ¬ f = -1) (s : Int32) (c : Nat → Int32) : kTL (nI 0) (gH (cst g (nI i) f s c)) = some (f, gH (cst g (nI i) f s c)) := by
  have he := cl_ihE X hi f s c
  have E : ∀ z : Int32, (ab_ck (ab_io (gH (cst g (nI i) f s c)) 194 3 = true) (ab_bd (fX10_acceptL 194 z (gH (cst g (nI i) f s c))) fun h28 => ab_bd (ab_fi h28 194 3 2) fun v29 => some (v29, h28))) = some (f, gH (cst g (nI i) f s c)) := fun z => by
    refine (ck_e (io_194 _)).trans ?_
    refine (bd_e (cl_acW g (nI i) f s z c hf)).trans ?_
    exact bd_e (fi_cs _ _ _ _ _)
  unfold kTL
  refine (jn_e _ _).trans ?_
  refine (jn_e _ _).trans ?_
  refine (if_pos nI_0).trans ?_
  refine (ck_e (io_194 _)).trans ?_
  refine (bd_e he).trans ?_
  generalize decide (kd t L (psn t L i) = 4000) = b
  cases b
  · refine (if_pos (bI_0.mpr rfl)).trans ?_
    exact E _
  · refine (if_neg (fun h => by cases bI_0.mp h)).trans ?_
    exact E _
theorem cs3 (g : gG) (i f s : Int32) (c : Nat → Int32) {k : Nat} (hk : k ≠ 2 ∧ k ≠ 5) : gF (cst g i f s c) 194 k = gF g 194 k := by
  unfold cst
  rw [gF_sF2 _ _ (by omega), gF_sF1, upd_2 _ _ hk.1, gF_sF1, upd_2 _ _ hk.2, gF_sA]
theorem csl (g : gG) (i f s w : Int32) (c : Nat → Int32) : sF (cst g i f s c) 194 3 w = cst (sF g 194 3 w) i f s c := by
  unfold cst
  rw [sF_cc _ (show 188 ≠ 194 by omega), sF_cm _ _ (show 2 ≠ 3 by omega), sF_cm _ _ (show 5 ≠ 3 by omega)]
  rfl
theorem Cx.l {g : gG} {t : Nat → Nat} {L Z : Nat} (X : Cx g t L Z) (v : Int32) : Cx (sF g 194 3 v) t L Z := ⟨X.1.f (by omega), X.2⟩
