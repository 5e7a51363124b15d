variable {Nq : Nat}
/-! ===== the class reads a condition ===== -/
def em2 (b : Bool) (w : Nat) (q : Nat × (Nat → Int32)) : Nat × (Nat → Int32) := if b = true then (if q.1 < 400 then (q.1 + 1, upd q.2 q.1 (nI w)) else q) else q
def jl (b : Bool) (w : Nat) : List Nat := if b = true then [w] else []
theorem em2_le {b : Bool} {w : Nat} {q : Nat × (Nat → Int32)} (h : q.1 ≤ 400) : (em2 b w q).1 ≤ 400 := by
  unfold em2
  by_cases c : b = true
  · rw [if_pos c]
    by_cases d : q.1 < 400
    · rw [if_pos d]; show q.1 + 1 ≤ 400; omega
    · rw [if_neg d]; exact h
  · rw [if_neg c]; exact h
theorem em2_ok {b : Bool} {w : Nat} {q : Nat × (Nat → Int32)} {c : List Nat} (h1 : q.1 = c.length) (h2 : rep q.2 c) (h3 : b = true → c.length < 400) : (em2 b w q).1 = (c ++ jl b w).length ∧ rep (em2 b w q).2 (c ++ jl b w) := by
  unfold em2 jl
  cases b
  · simp only [Bool.false_eq_true, if_false, List.append_nil]; exact ⟨h1, h2⟩
  · have h := h3 rfl
    simp only [if_true]
    rw [if_pos (by omega)]
    refine ⟨?_, ?_⟩
    · show q.1 + 1 = _
      rw [List.length_append, List.length_cons, List.length_nil, h1]
    · show rep (upd q.2 q.1 (nI w)) _
      rw [h1]; exact rep_ap h2 w
theorem emE (g : gG) (i f : Int32) (q : Nat × (Nat → Int32)) (hs : q.1 ≤ 400) (w : Nat) : fX3_emit 194 (nI w) (gH (cst g i f (nI q.1) q.2)) = some (gH (cst g i f (nI (em2 true w q).1) (em2 true w q).2)) := by
  rw [cl_em g i f (nI w) hs q.2]
  unfold em2
  rw [if_pos rfl]
  by_cases d : q.1 < 400
  · rw [if_pos d, if_pos d, if_pos d]
  · rw [if_neg d, if_neg d, if_neg d]
theorem emJ (g : gG) (i f : Int32) (q : Nat × (Nat → Int32)) (hs : q.1 ≤ 400) (b : Bool) (w : Nat) (K : ab_H → Option ab_H) : (ab_jn (κ := ab_H → Option ab_H) K fun j25 => (if bI b = 0 then j25 (gH (cst g i f (nI q.1) q.2)) else ab_ck (ab_io (gH (cst g i f (nI q.1) q.2)) 194 3 = true) (ab_bd (fX3_emit 194 (nI w) (gH (cst g i f (nI q.1) q.2))) fun h27 => j25 h27))) = K (gH (cst g i f (nI (em2 b w q).1) (em2 b w q).2)) := by
  rw [jn_e]
  cases b
  · rw [if_pos (bI_0.mpr rfl)]; rfl
  · rw [if_neg (fun h => by cases bI_0.mp h), io_194, ck_t, emE g i f q hs w, bdS]
theorem emJ2 (g : gG) (i f : Int32) (q : Nat × (Nat → Int32)) (hs : q.1 ≤ 400) (a b : Bool) (w : Nat) (K : ab_H → Option ab_H) : (ab_jn (κ := ab_H → Option ab_H) K fun j21 => (if bI a = 0 then (if bI b = 0 then j21 (gH (cst g i f (nI q.1) q.2)) else ab_ck (ab_io (gH (cst g i f (nI q.1) q.2)) 194 3 = true) (ab_bd (fX3_emit 194 (nI w) (gH (cst g i f (nI q.1) q.2))) fun h24 => j21 h24)) else j21 (gH (cst g i f (nI q.1) q.2)))) = K (gH (cst g i f (nI (em2 (!a && b) w q).1) (em2 (!a && b) w q).2)) := by
  cases a
  · have e : (if bI false = 0 then (if bI b = 0 then K (gH (cst g i f (nI q.1) q.2)) else ab_ck (ab_io (gH (cst g i f (nI q.1) q.2)) 194 3 = true) (ab_bd (fX3_emit 194 (nI w) (gH (cst g i f (nI q.1) q.2))) fun h24 => K h24)) else K (gH (cst g i f (nI q.1) q.2))) = (if bI b = 0 then K (gH (cst g i f (nI q.1) q.2)) else ab_ck (ab_io (gH (cst g i f (nI q.1) q.2)) 194 3 = true) (ab_bd (fX3_emit 194 (nI w) (gH (cst g i f (nI q.1) q.2))) fun h24 => K h24)) := if_pos (bI_0.mpr rfl)
    rw [jn_e, e]
    exact emJ g i f q hs b w K
  · rw [jn_e, if_neg (fun h => by cases bI_0.mp h)]; rfl
theorem cond_0 {F : Nat} {A : Nat → Int32 → ab_H → Option ab_H} {d x2 x3 x5 : Int32} {h : ab_H} {F' : Nat} : fX3_readCondition_10 F A 194 d (F' + 1) x2 x3 (nI 0) x5 h = some h := by
  rw [fX3_readCondition_10]
  split
  · rw [if_pos nI_0]
  · rfl
/-- one turn of a condition, behind its atom -/
theorem cond_step {g : gG} {t : Nat → Nat} {L Z : Nat} (X : Cx g t L Z) {F : Nat} {A : Nat → Int32 → ab_H → Option ab_H} {d : Int32} {h : ab_H} (hio : ab_io h 194 3 = true) {i2 : Nat} {f2 : Int32} {q : Nat × (Nat → Int32)} (hi : i2 ≤ Z) (hs : q.1 ≤ 400) (hA : A 194 d h = some (gH (cst g (nI i2) f2 (nI q.1) q.2))) {n : Nat} (hn : n < 400) (ba bo : Bool) (F' : Nat) :
  fX3_readCondition_10 F A 194 d (F' + 2) (bI ba) (bI bo) (nI 1) (nI n) h =
    if f2 = -1 ∧ kd t L (psn t L i2) = 1011 then fX3_readCondition_10 F A 194 d (F' + 1) (bI true) (bI bo) (nI 1) (nI (n + 1)) (gH (cst g (nI (gnx Z i2)) f2 (nI (em2 ba 1103 q).1) (em2 ba 1103 q).2))
    else if f2 = -1 ∧ kd t L (psn t L i2) = 1010 then fX3_readCondition_10 F A 194 d (F' + 1) (bI false) (bI true) (nI 1) (nI (n + 1)) (gH (cst g (nI (gnx Z i2)) f2 (nI (em2 bo 1104 (em2 ba 1103 q)).1) (em2 bo 1104 (em2 ba 1103 q)).2))
    else some (gH (cst g (nI i2) f2 (nI (em2 (!decide (kd t L (psn t L i2) = 1011) && bo) 1104 (em2 ba 1103 q)).1) (em2 (!decide (kd t L (psn t L i2) = 1011) && bo) 1104 (em2 ba 1103 q)).2)) := by
  have i1 : ¬ (nI 1 : Int32) = 0 := by decide
  have q1 := em2_le (b := ba) (w := 1103) hs
  rw [fX3_readCondition_10, if_pos ((nI_ltI (show n < 2 ^ 31 by omega) (by decide)).mpr hn), if_neg i1]
  refine (ck_e hio).trans ?_
  refine (bd_e hA).trans ?_
  refine (emJ g (nI i2) f2 q hs ba 1103 _).trans ?_
  refine (ck_e (io_194 _)).trans ?_
  refine (bd_e (cl_ih X hi f2 _ _ (k := 1011) (by omega))).trans ?_
  refine (emJ2 g (nI i2) f2 _ q1 (decide (kd t L (psn t L i2) = 1011)) bo 1104 _).trans ?_
  generalize hq3 : em2 (!decide (kd t L (psn t L i2) = 1011) && bo) 1104 (em2 ba 1103 q) = q3
  have ir := cl_ir g (nI i2) f2 (nI q3.1) q3.2
  have ih := cl_ih X hi f2 (nI q3.1) q3.2 (k := 1010) (by omega)
  have go := cl_go X hi f2 (nI q3.1) q3.2
  by_cases c1 : kd t L (psn t L i2) = 1011
  · have n0 : ¬ kd t L (psn t L i2) = 1010 := by omega
    have e3 : em2 ba 1103 q = q3 := by rw [← hq3, decide_eq_true c1]; rfl
    rw [decide_eq_true c1]
    refine (jn_e _ _).trans ?_
    refine (if_neg (fun h => by cases bI_0.mp h)).trans ?_
    refine (ck_e (io_194 _)).trans ?_
    refine (bd_e ir).trans ?_
    by_cases cf : f2 = -1
    · rw [if_pos ⟨cf, c1⟩, e3, decide_eq_true cf]
      refine (jn_e _ _).trans ?_
      refine (jn_e _ _).trans ?_
      refine (if_neg (fun h => by cases bI_0.mp h)).trans ?_
      refine (if_neg (fun h => by cases bI_0.mp h)).trans ?_
      refine (if_neg i1).trans ?_
      refine (bd_e (fr_194_0 _)).trans ?_
      refine (ck_e (io_188 _)).trans ?_
      refine (bd_e go).trans ?_
      rw [nI_add]
    · rw [if_neg (fun h => cf h.1), if_neg (fun h => cf h.1), decide_eq_false cf]
      refine (jn_e _ _).trans ?_
      refine (jn_e _ _).trans ?_
      refine (if_pos (bI_0.mpr rfl)).trans ?_
      refine (if_pos nI_0).trans ?_
      exact cond_0
  · rw [if_neg (fun h => c1 h.2), decide_eq_false c1]
    refine (jn_e _ _).trans ?_
    refine (if_pos (bI_0.mpr rfl)).trans ?_
    refine (ck_e (io_194 _)).trans ?_
    refine (bd_e ih).trans ?_
    refine (ck_e (io_194 _)).trans ?_
    refine (bd_e ir).trans ?_
    by_cases cf : f2 = -1
    · rw [decide_eq_true cf]
      refine (jn_e _ _).trans ?_
      refine (jn_e _ _).trans ?_
      refine (if_neg (fun h => by cases bI_0.mp h)).trans ?_
      refine (if_pos (bI_0.mpr rfl)).trans ?_
      by_cases c2 : kd t L (psn t L i2) = 1010
      · have e3 : em2 bo 1104 (em2 ba 1103 q) = q3 := by rw [← hq3, decide_eq_false c1]; cases bo <;> rfl
        rw [if_pos (show f2 = -1 ∧ kd t L (psn t L i2) = 1010 from ⟨cf, c2⟩), e3, decide_eq_true c2]
        refine (if_neg (fun h => by cases bI_0.mp h)).trans ?_
        refine (if_neg i1).trans ?_
        refine (bd_e (fr_194_0 _)).trans ?_
        refine (ck_e (io_188 _)).trans ?_
        refine (bd_e go).trans ?_
        rw [nI_add]
      · rw [if_neg (show ¬ (f2 = -1 ∧ kd t L (psn t L i2) = 1010) from fun h => c2 h.2), decide_eq_false c2]
        refine (if_pos (bI_0.mpr rfl)).trans ?_
        refine (if_pos nI_0).trans ?_
        exact cond_0
    · rw [if_neg (show ¬ (f2 = -1 ∧ kd t L (psn t L i2) = 1010) from fun h => cf h.1), decide_eq_false cf]
      refine (jn_e _ _).trans ?_
      refine (jn_e _ _).trans ?_
      refine (if_pos (bI_0.mpr rfl)).trans ?_
      refine (if_pos nI_0).trans ?_
      exact cond_0
/-- what is still to be read of a condition -/
def eR (t : Nat → Nat) (L : Nat) (A : Nat → Bool × Nat × List Nat) (j a : Nat) (ba : Bool) (e : List Nat) : Bool × Nat × List Nat := if (A a).1 = true then pJoinL t L A 1011 1103 j (A a).2.1 (e ++ (A a).2.2 ++ jl ba 1103) else (false, (A a).2.1, [])
def sR (t : Nat → Nat) (L : Nat) (A : Nat → Bool × Nat × List Nat) (m : Nat) (bo : Bool) (o : List Nat) (r : Bool × Nat × List Nat) : Bool × Nat × List Nat := if r.1 = true then pJoinL t L (pEvery t L A) 1010 1104 m r.2.1 (o ++ r.2.2 ++ jl bo 1104) else (false, r.2.1, [])
theorem pEvery_e {t : Nat → Nat} {L : Nat} {A : Nat → Bool × Nat × List Nat} {a : Nat} : pEvery t L A a = eR t L A (L + 1) a false [] := by
  unfold pEvery pJoin eR jl
  simp only [Bool.false_eq_true, if_false, List.append_nil, List.nil_append]
theorem pSome_e {t : Nat → Nat} {L : Nat} {A : Nat → Bool × Nat × List Nat} {a : Nat} : pSome t L A a = sR t L A (L + 1) false [] (eR t L A (L + 1) a false []) := by
  unfold pSome pJoin sR jl
  simp only [pEvery_e, Bool.false_eq_true, if_false, List.append_nil, List.nil_append]
