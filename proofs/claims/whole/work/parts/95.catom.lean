variable {Nq : Nat}
/-! ===== the class reads a condition: its turns; an atom ===== -/
def AtC (g : gG) (t : Nat → Nat) (L Z : Nat) (p : Nat → Bool × Nat × List Nat) (A : ab_H → Option ab_H) : Prop := ∀ (c : List Nat) (i : Nat) (code : Nat → Int32), i ≤ Z → rep code c → c.length ≤ psn t L i → CnC g t L Z c (p (psn t L i)) (A (gH (cst g (nI i) (-1) (nI c.length) code)))
theorem CnC.eq {g : gG} {t : Nat → Nat} {L Z : Nat} {c : List Nat} {r : Bool × Nat × List Nat} {X Y : Option ab_H} (h : X = Y) (k : CnC g t L Z c r Y) : CnC g t L Z c r X := by rw [h]; exact k
def tbn (b : Bool) : Nat := if b = true then 1 else 0
theorem jl_len (b : Bool) (w : Nat) : (jl b w).length = tbn b := by cases b <;> rfl
theorem cond_loop {g : gG} {t : Nat → Nat} {L Z : Nat} (X : Cx g t L Z) {F : Nat} {A : Nat → Int32 → ab_H → Option ab_H} {d : Int32} {p : Nat → Bool × Nat × List Nat} (hP : ∀ a, a ≤ L → Pg t L a (p a)) (hA : AtC g t L Z p (A 194 d)) (c0 : List Nat) : ∀ D i n o e j m (ba bo : Bool) code Fu, i ≤ Z → L - psn t L i ≤ D → n ≤ psn t L i → n < 400 → (ba = false → e = []) → (bo = false → o = []) → rep code (c0 ++ (o ++ e)) → (c0 ++ (o ++ e)).length + tbn ba + tbn bo ≤ psn t L i → L - psn t L i < j → L - psn t L i < m → D + 2 < Fu →
  CnC g t L Z c0 (sR t L p m bo o (eR t L p j (psn t L i) ba e)) (fX3_readCondition_10 F A 194 d Fu (bI ba) (bI bo) (nI 1) (nI n) (gH (cst g (nI i) (-1) (nI (c0 ++ (o ++ e)).length) code))) := by
  have h2 := X.1.2.1
  intro D
  induction D with
  | zero =>
    intro i n o e j m ba bo code Fu hi hD hn hn4 he ho hr hl hj hm hFu
    obtain ⟨F', rfl⟩ : ∃ F', Fu = F' + 2 := ⟨Fu - 2, by omega⟩
    have pl := (psn_nrm (t := t) (L := L) i).2
    obtain ⟨i2, f2, s2, code2, e1, z1, z2, r1, r2⟩ := hA _ i code hi hr (by omega)
    have st := cond_step X (F := F) (io_194 _) (q := (s2, code2)) z1 z2 e1 hn4 ba bo F'
    cases c : (p (psn t L i)).1
    · obtain ⟨y1, y2⟩ := r2 c
      rw [st, if_neg (show ¬ (f2 = -1 ∧ kd t L (psn t L i2) = 1011) from fun h => y2 h.1), if_neg (show ¬ (f2 = -1 ∧ kd t L (psn t L i2) = 1010) from fun h => y2 h.1)]
      refine ⟨i2, f2, _, _, rfl, z1, em2_le (em2_le z2), ?_, ?_⟩
      · unfold sR eR
        rw [c]
        intro h; cases h
      · unfold sR eR
        rw [c]
        exact fun _ => ⟨y1, y2⟩
    · have := (hP _ pl).1 c
      have := this.2.1.2
      omega
  | succ D ih =>
    intro i n o e j m ba bo code Fu hi hD hn hn4 he ho hr hl hj hm hFu
    obtain ⟨F', rfl⟩ : ∃ F', Fu = F' + 2 := ⟨Fu - 2, by omega⟩
    have pl := (psn_nrm (t := t) (L := L) i).2
    obtain ⟨i2, f2, s2, code2, e1, z1, z2, r1, r2⟩ := hA _ i code hi hr (by omega)
    have st := cond_step X (F := F) (io_194 _) (q := (s2, code2)) z1 z2 e1 hn4 ba bo F'
    cases c : (p (psn t L i)).1
    · obtain ⟨y1, y2⟩ := r2 c
      rw [st, if_neg (show ¬ (f2 = -1 ∧ kd t L (psn t L i2) = 1011) from fun h => y2 h.1), if_neg (show ¬ (f2 = -1 ∧ kd t L (psn t L i2) = 1010) from fun h => y2 h.1)]
      refine ⟨i2, f2, _, _, rfl, z1, em2_le (em2_le z2), ?_, ?_⟩
      · unfold sR eR
        rw [c]
        intro h; cases h
      · unfold sR eR
        rw [c]
        exact fun _ => ⟨y1, y2⟩
    · obtain ⟨y1, y2, y3, y4⟩ := r1 c
      obtain ⟨p1, p2, p3⟩ := (hP _ pl).1 c
      subst y1
      obtain ⟨j', rfl⟩ : ∃ j', j = j' + 1 := ⟨j - 1, by omega⟩
      obtain ⟨m', rfl⟩ : ∃ m', m = m' + 1 := ⟨m - 1, by omega⟩
      have ee : eR t L p (j' + 1) (psn t L i) ba e = pJoinL t L p 1011 1103 (j' + 1) (p (psn t L i)).2.1 (e ++ (p (psn t L i)).2.2 ++ jl ba 1103) := by
        unfold eR; rw [if_pos c]
      rw [ee]
      generalize (p (psn t L i)).2.2 = x at *
      generalize hpp : (p (psn t L i)).2.1 = pp at *
      have ln : (c0 ++ (o ++ e) ++ x).length = (c0 ++ (o ++ e)).length + x.length := List.length_append
      have pL := p2.2
      obtain ⟨w1, w2⟩ := em2_ok (b := ba) (w := 1103) (q := (s2, code2)) y3 y4 (fun hb => by rw [hb] at hl; simp only [tbn, if_true] at hl; omega)
      have a1 : c0 ++ (o ++ e) ++ x ++ jl ba 1103 = c0 ++ (o ++ (e ++ x ++ jl ba 1103)) := by simp only [List.append_assoc]
      rw [a1] at w1 w2
      have ln1 : (c0 ++ (o ++ (e ++ x ++ jl ba 1103))).length = (c0 ++ (o ++ e)).length + x.length + tbn ba := by
        rw [← a1, List.length_append, ln, jl_len]
      rw [st, y2, pJoinL]
      obtain ⟨g1, g2⟩ := gnx_p X z1
      rw [y2] at g1
      by_cases c1 : kd t L pp = 1011
      · have hl' : pp < L := kd_lt (t := t) (by omega)
        have gt := nxt_gt (t := t) hl'
        rw [if_pos (show (-1 : Int32) = -1 ∧ kd t L pp = 1011 from ⟨rfl, c1⟩), if_pos c1, w1]
        have I := ih (gnx Z i2) (n + 1) o (e ++ x ++ jl ba 1103) j' (m' + 1) true bo (em2 ba 1103 (s2, code2)).2 (F' + 1) g2 (by omega) (by omega) (by omega) (fun h => by cases h) ho w2 (by rw [ln1, g1, show tbn true = 1 from rfl]; omega) (by omega) (by omega) (by omega)
        rw [g1] at I
        have e2 : eR t L p j' (nxt t L pp) true (e ++ x ++ jl ba 1103) = (if (p (nxt t L pp)).1 = true then pJoinL t L p 1011 1103 j' (p (nxt t L pp)).2.1 (e ++ x ++ jl ba 1103 ++ (p (nxt t L pp)).2.2 ++ [1103]) else (false, (p (nxt t L pp)).2.1, [])) := rfl
        rw [← e2]
        exact I
      · rw [if_neg (show ¬ ((-1 : Int32) = -1 ∧ kd t L pp = 1011) from fun h => c1 h.2), if_neg c1]
        obtain ⟨v1, v2⟩ := em2_ok (b := bo) (w := 1104) w1 w2 (fun hb => by rw [ln1]; rw [hb] at hl; simp only [tbn, if_true] at hl ⊢; omega)
        have a2 : c0 ++ (o ++ (e ++ x ++ jl ba 1103)) ++ jl bo 1104 = c0 ++ ((o ++ (e ++ x ++ jl ba 1103) ++ jl bo 1104) ++ []) := by simp only [List.append_assoc, List.append_nil]
        have ln2 : (c0 ++ ((o ++ (e ++ x ++ jl ba 1103) ++ jl bo 1104) ++ [])).length = (c0 ++ (o ++ e)).length + x.length + tbn ba + tbn bo := by
          rw [← a2, List.length_append, ln1, jl_len]
        rw [a2] at v1 v2
        have se : sR t L p (m' + 1) bo o (true, pp, e ++ x ++ jl ba 1103) = pJoinL t L (pEvery t L p) 1010 1104 (m' + 1) pp (o ++ (e ++ x ++ jl ba 1103) ++ jl bo 1104) := rfl
        rw [se, pJoinL]
        by_cases c2 : kd t L pp = 1010
        · have hl' : pp < L := kd_lt (t := t) (by omega)
          have gt := nxt_gt (t := t) hl'
          rw [if_pos (show (-1 : Int32) = -1 ∧ kd t L pp = 1010 from ⟨rfl, c2⟩), if_pos c2, v1]
          have I := ih (gnx Z i2) (n + 1) (o ++ (e ++ x ++ jl ba 1103) ++ jl bo 1104) [] (L + 1) m' false true (em2 bo 1104 (em2 ba 1103 (s2, code2))).2 (F' + 1) g2 (by omega) (by omega) (by omega) (fun _ => rfl) (fun h => by cases h) v2 (by rw [ln2, g1, show tbn true = 1 from rfl, show tbn false = 0 from rfl]; omega) (by omega) (by omega) (by omega)
          rw [g1, ← pEvery_e] at I
          exact I
        · rw [if_neg (show ¬ ((-1 : Int32) = -1 ∧ kd t L pp = 1010) from fun h => c2 h.2), if_neg c2]
          have nb : (!decide (kd t L pp = 1011) && bo) = bo := by rw [decide_eq_false c1]; cases bo <;> rfl
          rw [nb]
          rw [List.append_nil] at v1 v2
          exact ⟨i2, -1, _, _, rfl, z1, em2_le (em2_le z2), fun _ => ⟨rfl, y2, v1, v2⟩, fun h => by cases h⟩
theorem cl_cond {g : gG} {t : Nat → Nat} {L Z : Nat} (X : Cx g t L Z) {F : Nat} (hF : 11000 < F) {A : Nat → Int32 → ab_H → Option ab_H} {d : Int32} {p : Nat → Bool × Nat × List Nat} (hP : ∀ a, a ≤ L → Pg t L a (p a)) (hA : AtC g t L Z p (A 194 d)) : AtC g t L Z (pSome t L p) (fX3_readCondition F A 194 d) := by
  intro c i code hi hr hl
  have h2 := X.1.2.1
  rw [pSome_e]
  unfold fX3_readCondition
  have I := cond_loop X (F := F) hP hA c (L - psn t L i) i 0 [] [] (L + 1) (L + 1) false false code F hi (Nat.le_refl _) (by omega) (by omega) (fun _ => rfl) (fun _ => rfl) (by rw [List.append_nil, List.append_nil]; exact hr) (by rw [List.append_nil, List.append_nil]; simp only [tbn, Bool.false_eq_true, if_false]; omega) (by omega) (by omega) (by omega)
  rw [List.append_nil, List.append_nil] at I
  exact I
theorem cl_sumW (g : gG) (i f s : Int32) (c : Nat → Int32) (hf : ¬ f = -1) {F : Nat} (hF : 11000 < F) : fX3_readSum F 194 (gH (cst g i f s c)) = some (gH (cst g i f s c)) := by
  obtain ⟨F', rfl⟩ : ∃ F', F = F' + 1 := ⟨F - 1, by omega⟩
  unfold fX3_readSum
  rw [io_194, ck_t, cl_ir, bdS, decide_eq_false hf]
  exact sum_0
/-- a comparison -/
theorem plain_e {g : gG} {t : Nat → Nat} {L Z : Nat} (X : Cx g t L Z) {F i2 : Nat} (z1 : i2 ≤ Z) (f2 : Int32) (s2 : Nat) (code2 : Nat → Int32) {S : Option ab_H} (e1 : S = some (gH (cst g (nI i2) f2 (nI s2) code2))) : (ab_bd S fun h15 => ab_ck (ab_io h15 194 3 = true) (ab_bd (fX10_isHereL 194 (nI 60) h15) fun v16 => ab_jn (κ := Int32 → Option ab_H) (fun (z17 : Int32) => ab_ck (ab_io h15 194 3 = true) (ab_bd (fX10_isHereL 194 (nI 60) h15) fun v18 => ab_jn (κ := Int32 → Option ab_H) (fun (z19 : Int32) => ab_ck (ab_io h15 194 3 = true) (ab_bd (fX10_acceptL 194 z19 h15) fun h20 => ab_ck (ab_io h20 194 3 = true) (ab_bd (fX3_readSum F 194 h20) fun h21 => ab_ck (ab_io h21 194 3 = true) (ab_bd (fX3_emit 194 z17 h21) fun h22 => some h22)))) fun j23 => ab_jn (κ := Option ab_H) (j23 (nI 1)) fun j24 => (if v18 = 0 then ab_ck (ab_io h15 194 3 = true) (ab_bd (fX10_isHereL 194 (nI 62) h15) fun v26 => (if v26 = 0 then j23 (nI 0) else j24)) else j24))) fun j28 => (if v16 = 0 then j28 (nI 1102) else j28 (nI 1101)))) = (ab_bd (fX10_acceptL 194 (if kd t L (psn t L i2) = 60 ∨ kd t L (psn t L i2) = 62 then nI 1 else nI 0) (gH (cst g (nI i2) f2 (nI s2) code2))) fun h20 => ab_ck (ab_io h20 194 3 = true) (ab_bd (fX3_readSum F 194 h20) fun h21 => ab_ck (ab_io h21 194 3 = true) (ab_bd (fX3_emit 194 (nI (if kd t L (psn t L i2) = 60 then 1101 else 1102)) h21) fun h22 => some h22))) := by
  have h60 := cl_ih X z1 f2 (nI s2) code2 (k := 60) (by omega)
  have h62 := cl_ih X z1 f2 (nI s2) code2 (k := 62) (by omega)
  refine (bd_e e1).trans ?_
  refine (ck_e (io_194 _)).trans ?_
  refine (bd_e h60).trans ?_
  refine (jn_e _ _).trans ?_
  by_cases k1 : kd t L (psn t L i2) = 60
  · rw [if_pos k1, if_pos (Or.inl k1)]
    rw [decide_eq_true k1] at h60 ⊢
    refine (if_neg (fun h => by cases bI_0.mp h)).trans ?_
    refine (ck_e (io_194 _)).trans ?_
    refine (bd_e h60).trans ?_
    refine (jn_e _ _).trans ?_
    refine (jn_e _ _).trans ?_
    refine (if_neg (fun h => by cases bI_0.mp h)).trans ?_
    exact ck_e (io_194 _)
  · rw [if_neg k1]
    rw [decide_eq_false k1] at h60 ⊢
    refine (if_pos (bI_0.mpr rfl)).trans ?_
    refine (ck_e (io_194 _)).trans ?_
    refine (bd_e h60).trans ?_
    refine (jn_e _ _).trans ?_
    refine (jn_e _ _).trans ?_
    refine (if_pos (bI_0.mpr rfl)).trans ?_
    refine (ck_e (io_194 _)).trans ?_
    refine (bd_e h62).trans ?_
    by_cases k2 : kd t L (psn t L i2) = 62
    · rw [if_pos (show kd t L (psn t L i2) = 60 ∨ kd t L (psn t L i2) = 62 from Or.inr k2), decide_eq_true k2]
      refine (if_neg (fun h => by cases bI_0.mp h)).trans ?_
      exact ck_e (io_194 _)
    · rw [if_neg (show ¬ (kd t L (psn t L i2) = 60 ∨ kd t L (psn t L i2) = 62) from fun h => h.elim k1 k2), decide_eq_false k2]
      refine (if_pos (bI_0.mpr rfl)).trans ?_
      exact ck_e (io_194 _)
theorem cl_plain {g : gG} {t : Nat → Nat} {L Z : Nat} (X : Cx g t L Z) {F : Nat} (hF : 11000 < F) (c : List Nat) {i : Nat} {code : Nat → Int32} (hi : i ≤ Z) (hr : rep code c) (hl : c.length ≤ psn t L i) (n1 : ¬ (kd t L (psn t L i) = 1013 ∨ kd t L (psn t L i) = 1002)) {S : Option ab_H} (hS : S = fX3_readSum F 194 (gH (cst g (nI i) (-1) (nI c.length) code))) : CnC g t L Z c (pPlain t L (psn t L i)) (ab_bd S fun h15 => ab_ck (ab_io h15 194 3 = true) (ab_bd (fX10_isHereL 194 (nI 60) h15) fun v16 => ab_jn (κ := Int32 → Option ab_H) (fun (z17 : Int32) => ab_ck (ab_io h15 194 3 = true) (ab_bd (fX10_isHereL 194 (nI 60) h15) fun v18 => ab_jn (κ := Int32 → Option ab_H) (fun (z19 : Int32) => ab_ck (ab_io h15 194 3 = true) (ab_bd (fX10_acceptL 194 z19 h15) fun h20 => ab_ck (ab_io h20 194 3 = true) (ab_bd (fX3_readSum F 194 h20) fun h21 => ab_ck (ab_io h21 194 3 = true) (ab_bd (fX3_emit 194 z17 h21) fun h22 => some h22)))) fun j23 => ab_jn (κ := Option ab_H) (j23 (nI 1)) fun j24 => (if v18 = 0 then ab_ck (ab_io h15 194 3 = true) (ab_bd (fX10_isHereL 194 (nI 62) h15) fun v26 => (if v26 = 0 then j23 (nI 0) else j24)) else j24))) fun j28 => (if v16 = 0 then j28 (nI 1102) else j28 (nI 1101)))) := by
  have h2 := X.1.2.1
  have pl := (psn_nrm (t := t) (L := L) i).2
  obtain ⟨i2, f2, s2, code2, e1, z1, z2, r1, r2⟩ := cl_sum X hF c hi hr hl
  have P := pg_sum (t := t) pl
  rw [plain_e X z1 f2 s2 code2 (hS.trans e1)]
  unfold pPlain
  rw [if_neg n1]
  cases c1 : (pSum t L (psn t L i)).1
  · obtain ⟨y1, y2⟩ := r2 c1
    rw [if_neg (by decide)]
    rw [(bd_e (cl_acW g (nI i2) f2 (nI s2) _ code2 y2)).trans ((ck_e (io_194 _)).trans ((bd_e (cl_sumW g (nI i2) f2 (nI s2) code2 y2 hF)).trans ((ck_e (io_194 _)).trans (bd_e (emE g (nI i2) f2 (s2, code2) z2 _)))))]
    exact ⟨i2, f2, _, _, rfl, z1, em2_le z2, (fun h => by cases h), fun _ => ⟨y1, y2⟩⟩
  · obtain ⟨y1, y2, y3, y4⟩ := r1 c1
    obtain ⟨p1, p2, p3⟩ := P.1 c1
    rw [if_pos rfl]
    subst y1
    generalize (pSum t L (psn t L i)).2.2 = x at *
    rw [← y2] at p1 p2 p3 ⊢
    have pL := p2.2
    by_cases c2 : kd t L (psn t L i2) = 60 ∨ kd t L (psn t L i2) = 62
    · have hl' : psn t L i2 < L := kd_lt (t := t) (by omega)
      have gt := nxt_gt (t := t) hl'
      obtain ⟨g1, g2⟩ := gnx_p X z1
      rw [if_pos c2]
      have ac := cl_acY X z1 (nI s2) code2
      have lx : (c ++ x).length = c.length + x.length := List.length_append
      obtain ⟨i3, f3, s3, code3, e3, u1, u2, v1, v2⟩ := cl_sum X hF (c ++ x) g2 y4 (by rw [g1]; omega)
      rw [← y3] at e3
      rw [g1] at v1 v2
      rw [if_pos c2, (bd_e ac).trans ((ck_e (io_194 _)).trans ((bd_e e3).trans ((ck_e (io_194 _)).trans (bd_e (emE g (nI i3) f3 (s3, code3) u2 _)))))]
      have P2 := pg_sum (t := t) (L := L) (a := nxt t L (psn t L i2)) (nxt_nrm (t := t) hl').2
      cases c3 : (pSum t L (nxt t L (psn t L i2))).1
      · obtain ⟨x1, x2⟩ := v2 c3
        rw [if_neg (by decide)]
        exact ⟨i3, f3, _, _, rfl, u1, em2_le u2, (fun h => by cases h), fun _ => ⟨x1, x2⟩⟩
      · obtain ⟨x1, x2, x3, x4⟩ := v1 c3
        obtain ⟨b1, b2, b3⟩ := P2.1 c3
        have bL := b2.2
        rw [if_pos rfl]
        obtain ⟨w1, w2⟩ := em2_ok (b := true) (w := if kd t L (psn t L i2) = 60 then 1101 else 1102) (q := (s3, code3)) x3 x4 (fun _ => by rw [List.length_append, lx]; omega)
        have aa : c ++ x ++ (pSum t L (nxt t L (psn t L i2))).2.2 ++ jl true (if kd t L (psn t L i2) = 60 then 1101 else 1102) = c ++ (x ++ (pSum t L (nxt t L (psn t L i2))).2.2 ++ [if kd t L (psn t L i2) = 60 then 1101 else 1102]) := by
          simp only [jl, if_true, List.append_assoc]
        rw [aa] at w1 w2
        exact ⟨i3, f3, _, _, rfl, u1, em2_le u2, fun _ => ⟨x1, x2, w1, w2⟩, fun h => by cases h⟩
    · rw [if_neg c2]
      have ac := cl_acN X z1 (nI s2) code2
      have nm : ¬ nI (psn t L i2) = -1 := nI_m1 (by omega)
      rw [if_neg c2, (bd_e ac).trans ((ck_e (io_194 _)).trans ((bd_e (cl_sumW g (nI i2) _ (nI s2) code2 nm hF)).trans ((ck_e (io_194 _)).trans (bd_e (emE g (nI i2) _ (s2, code2) z2 _)))))]
      exact ⟨i2, _, _, _, rfl, z1, em2_le z2, (fun h => by cases h), fun _ => ⟨rfl, nm⟩⟩
theorem nI_s {e : Nat} (h : e < 6) : nI (6 - (e + 1)) + nI 1 = nI (6 - e) := by rw [nI_add]; congr 1; omega
theorem atB_12 {g : gG} {t : Nat → Nat} {L Z : Nat} (X : Cx g t L Z) {F : Nat} {A : Nat → Int32 → ab_H → Option ab_H} {d : Int32} {i : Nat} (hi : i ≤ Z) (s : Nat) (code : Nat → Int32) (c : kd t L (psn t L i) = 1012) : fX3_readAtomB F A 194 d (gH (cst g (nI i) (-1) (nI s) code)) = (ab_bd (fX10_acceptL 194 (if d < nI 6 then nI 1 else nI 0) (gH (cst g (nI i) (-1) (nI s) code))) fun h40 => ab_ck (ab_io h40 194 3 = true) (ab_bd (fX10_isRightL 194 h40) fun v41 => (if v41 = 0 then some h40 else ab_ck (ab_io h40 194 3 = true) (ab_bd (A 194 (d + (nI 1)) h40) fun h43 => ab_ck (ab_io h43 194 3 = true) (ab_bd (fX3_emit 194 (nI 1012) h43) fun h44 => some h44))))) := by
  unfold fX3_readAtomB
  have h1012 := cl_ih X hi (-1) (nI s) code (k := 1012) (by omega)
  rw [decide_eq_true c] at h1012
  refine (ck_e (io_194 _)).trans ?_
  refine (bd_e h1012).trans ?_
  refine (if_neg (fun h => by cases bI_0.mp h)).trans ?_
  refine (jn_e _ _).trans ?_
  by_cases k : d < nI 6
  · rw [if_pos k, if_pos k]; exact ck_e (io_194 _)
  · rw [if_neg k, if_neg k]; exact ck_e (io_194 _)
theorem atB_40 {g : gG} {t : Nat → Nat} {L Z : Nat} (X : Cx g t L Z) {F : Nat} {A : Nat → Int32 → ab_H → Option ab_H} {d : Int32} {i : Nat} (hi : i ≤ Z) (s : Nat) (code : Nat → Int32) (c : kd t L (psn t L i) = 40) : fX3_readAtomB F A 194 d (gH (cst g (nI i) (-1) (nI s) code)) = (ab_bd (fX10_acceptL 194 (if d < nI 6 then nI 1 else nI 0) (gH (cst g (nI i) (-1) (nI s) code))) fun h31 => ab_ck (ab_io h31 194 3 = true) (ab_bd (fX10_isRightL 194 h31) fun v32 => (if v32 = 0 then some h31 else ab_ck (ab_io h31 194 3 = true) (ab_bd (fX3_readCondition F A 194 (d + (nI 1)) h31) fun h34 => ab_ck (ab_io h34 194 3 = true) (ab_bd (fX10_isHereL 194 (nI 41) h34) fun v35 => ab_ck (ab_io h34 194 3 = true) (ab_bd (fX10_acceptL 194 v35 h34) fun h36 => some h36)))))) := by
  have c0 : ¬ kd t L (psn t L i) = 1012 := by omega
  unfold fX3_readAtomB
  have h1012 := cl_ih X hi (-1) (nI s) code (k := 1012) (by omega)
  rw [decide_eq_false c0] at h1012
  refine (ck_e (io_194 _)).trans ?_
  refine (bd_e h1012).trans ?_
  refine (if_pos (bI_0.mpr rfl)).trans ?_
  have h40 := cl_ih X hi (-1) (nI s) code (k := 40) (by omega)
  rw [decide_eq_true c] at h40
  refine (ck_e (io_194 _)).trans ?_
  refine (bd_e h40).trans ?_
  refine (if_neg (fun h => by cases bI_0.mp h)).trans ?_
  refine (jn_e _ _).trans ?_
  by_cases k : d < nI 6
  · rw [if_pos k, if_pos k]; exact ck_e (io_194 _)
  · rw [if_neg k, if_neg k]; exact ck_e (io_194 _)
theorem atB_w {g : gG} {t : Nat → Nat} {L Z : Nat} (X : Cx g t L Z) {F : Nat} {A : Nat → Int32 → ab_H → Option ab_H} {d : Int32} {i : Nat} (hi : i ≤ Z) (s : Nat) (code : Nat → Int32) (hs : s ≤ 400) (c : kd t L (psn t L i) = 1013 ∨ kd t L (psn t L i) = 1002) : fX3_readAtomB F A 194 d (gH (cst g (nI i) (-1) (nI s) code)) = some (gH (cst g (nI (gnx Z i)) (-1) (nI (em2 true (kd t L (psn t L i)) (s, code)).1) (em2 true (kd t L (psn t L i)) (s, code)).2)) := by
  have c0 : ¬ kd t L (psn t L i) = 1012 := by omega
  have c1 : ¬ kd t L (psn t L i) = 40 := by omega
  have kh := cl_kh X hi (-1) (nI s) code
  have kv : kI (kd t L (psn t L i)) = nI (kd t L (psn t L i)) := by unfold kI; rw [if_neg (by omega)]
  rw [kv] at kh
  have E : (ab_bd (ab_fr (gH (cst g (nI i) (-1) (nI s) code)) 194 3 0) fun v6 => ab_ck (ab_io (gH (cst g (nI i) (-1) (nI s) code)) v6 0 = true) (ab_bd (fX0_kindHere v6 (gH (cst g (nI i) (-1) (nI s) code))) fun v7 => ab_ck (ab_io (gH (cst g (nI i) (-1) (nI s) code)) 194 3 = true) (ab_bd (fX3_emit 194 v7 (gH (cst g (nI i) (-1) (nI s) code))) fun h8 => ab_bd (ab_fr h8 194 3 0) fun v9 => ab_ck (ab_io h8 v9 0 = true) (ab_bd (fX0_goOn v9 h8) fun h10 => some h10)))) = some (gH (cst g (nI (gnx Z i)) (-1) (nI (em2 true (kd t L (psn t L i)) (s, code)).1) (em2 true (kd t L (psn t L i)) (s, code)).2)) := by
    refine (bd_e (fr_194_0 _)).trans ?_
    refine (ck_e (io_188 _)).trans ?_
    refine (bd_e kh).trans ?_
    refine (ck_e (io_194 _)).trans ?_
    refine (bd_e (emE g (nI i) (-1) (s, code) hs _)).trans ?_
    refine (bd_e (fr_194_0 _)).trans ?_
    refine (ck_e (io_188 _)).trans ?_
    exact bd_e (cl_go X hi _ _ _)
  unfold fX3_readAtomB
  have h1012 := cl_ih X hi (-1) (nI s) code (k := 1012) (by omega)
  rw [decide_eq_false c0] at h1012
  refine (ck_e (io_194 _)).trans ?_
  refine (bd_e h1012).trans ?_
  refine (if_pos (bI_0.mpr rfl)).trans ?_
  have h40 := cl_ih X hi (-1) (nI s) code (k := 40) (by omega)
  rw [decide_eq_false c1] at h40
  refine (ck_e (io_194 _)).trans ?_
  refine (bd_e h40).trans ?_
  refine (if_pos (bI_0.mpr rfl)).trans ?_
  have h13 := cl_ih X hi (-1) (nI s) code (k := 1013) (by omega)
  have h02 := cl_ih X hi (-1) (nI s) code (k := 1002) (by omega)
  refine (ck_e (io_194 _)).trans ?_
  refine (bd_e h13).trans ?_
  refine (jn_e _ _).trans ?_
  by_cases k : kd t L (psn t L i) = 1013
  · rw [decide_eq_true k]
    refine (if_neg (fun h => by cases bI_0.mp h)).trans ?_
    exact E
  · rw [decide_eq_false k]
    refine (if_pos (bI_0.mpr rfl)).trans ?_
    refine (ck_e (io_194 _)).trans ?_
    refine (bd_e h02).trans ?_
    rw [decide_eq_true (c.resolve_left k)]
    refine (if_neg (fun h => by cases bI_0.mp h)).trans ?_
    exact E
theorem atB_p {g : gG} {t : Nat → Nat} {L Z : Nat} (X : Cx g t L Z) {F : Nat} {A : Nat → Int32 → ab_H → Option ab_H} {d : Int32} {i : Nat} (hi : i ≤ Z) (s : Nat) (code : Nat → Int32) (c0 : ¬ kd t L (psn t L i) = 1012) (c1 : ¬ kd t L (psn t L i) = 40) (c : ¬ (kd t L (psn t L i) = 1013 ∨ kd t L (psn t L i) = 1002)) : fX3_readAtomB F A 194 d (gH (cst g (nI i) (-1) (nI s) code)) = (ab_bd (fX3_readSum F 194 (gH (cst g (nI i) (-1) (nI s) code))) fun h15 => ab_ck (ab_io h15 194 3 = true) (ab_bd (fX10_isHereL 194 (nI 60) h15) fun v16 => ab_jn (κ := Int32 → Option ab_H) (fun (z17 : Int32) => ab_ck (ab_io h15 194 3 = true) (ab_bd (fX10_isHereL 194 (nI 60) h15) fun v18 => ab_jn (κ := Int32 → Option ab_H) (fun (z19 : Int32) => ab_ck (ab_io h15 194 3 = true) (ab_bd (fX10_acceptL 194 z19 h15) fun h20 => ab_ck (ab_io h20 194 3 = true) (ab_bd (fX3_readSum F 194 h20) fun h21 => ab_ck (ab_io h21 194 3 = true) (ab_bd (fX3_emit 194 z17 h21) fun h22 => some h22)))) fun j23 => ab_jn (κ := Option ab_H) (j23 (nI 1)) fun j24 => (if v18 = 0 then ab_ck (ab_io h15 194 3 = true) (ab_bd (fX10_isHereL 194 (nI 62) h15) fun v26 => (if v26 = 0 then j23 (nI 0) else j24)) else j24))) fun j28 => (if v16 = 0 then j28 (nI 1102) else j28 (nI 1101)))) := by
  have c2 : ¬ kd t L (psn t L i) = 1013 := fun h => c (Or.inl h)
  have c3 : ¬ kd t L (psn t L i) = 1002 := fun h => c (Or.inr h)
  unfold fX3_readAtomB
  have h1012 := cl_ih X hi (-1) (nI s) code (k := 1012) (by omega)
  rw [decide_eq_false c0] at h1012
  refine (ck_e (io_194 _)).trans ?_
  refine (bd_e h1012).trans ?_
  refine (if_pos (bI_0.mpr rfl)).trans ?_
  have h40 := cl_ih X hi (-1) (nI s) code (k := 40) (by omega)
  rw [decide_eq_false c1] at h40
  refine (ck_e (io_194 _)).trans ?_
  refine (bd_e h40).trans ?_
  refine (if_pos (bI_0.mpr rfl)).trans ?_
  have h1013 := cl_ih X hi (-1) (nI s) code (k := 1013) (by omega)
  rw [decide_eq_false c2] at h1013
  refine (ck_e (io_194 _)).trans ?_
  refine (bd_e h1013).trans ?_
  refine (jn_e _ _).trans ?_
  refine (if_pos (bI_0.mpr rfl)).trans ?_
  have h1002 := cl_ih X hi (-1) (nI s) code (k := 1002) (by omega)
  rw [decide_eq_false c3] at h1002
  refine (ck_e (io_194 _)).trans ?_
  refine (bd_e h1002).trans ?_
  refine (if_pos (bI_0.mpr rfl)).trans ?_
  exact ck_e (io_194 _)
/-- what isn't a bracket nor a not -/
theorem cl_atP {g : gG} {t : Nat → Nat} {L Z : Nat} (X : Cx g t L Z) {F : Nat} (hF : 11000 < F) {A : Nat → Int32 → ab_H → Option ab_H} {d : Int32} (c : List Nat) {i : Nat} {code : Nat → Int32} (hi : i ≤ Z) (hr : rep code c) (hl : c.length ≤ psn t L i) (c0 : ¬ kd t L (psn t L i) = 1012) (c1 : ¬ kd t L (psn t L i) = 40) : CnC g t L Z c (pPlain t L (psn t L i)) (fX3_readAtomB F A 194 d (gH (cst g (nI i) (-1) (nI c.length) code))) := by
  have h2 := X.1.2.1
  by_cases k : kd t L (psn t L i) = 1013 ∨ kd t L (psn t L i) = 1002
  · have hl' : psn t L i < L := kd_lt (t := t) (by omega)
    obtain ⟨g1, g2⟩ := gnx_p X hi
    obtain ⟨w1, w2⟩ := em2_ok (b := true) (w := kd t L (psn t L i)) (q := (c.length, code)) rfl hr (fun _ => by omega)
    rw [atB_w X hi c.length code (by omega) k]
    unfold pPlain
    rw [if_pos k]
    exact ⟨gnx Z i, -1, _, _, rfl, g2, em2_le (by show c.length ≤ 400; omega), fun _ => ⟨rfl, g1, w1, w2⟩, fun h => by cases h⟩
  · rw [atB_p X hi c.length code c0 c1 k]
    exact cl_plain X hF c hi hr hl k rfl
theorem cl_atom {g : gG} {t : Nat → Nat} {L Z : Nat} (X : Cx g t L Z) {F : Nat} (hF : 11000 < F) : ∀ e, e ≤ 6 → AtC g t L Z (pAtom t L e) (fX3_readAtom F (e + 1) 194 (nI (6 - e))) := by
  have h2 := X.1.2.1
  intro e
  induction e with
  | zero =>
    intro _ c i code hi hr hl
    have pl := (psn_nrm (t := t) (L := L) i).2
    have n6 : ¬ (nI (6 - 0) : Int32) < nI 6 := by decide
    have ac := cl_acN X hi (nI c.length) code
    have nm : ¬ nI (psn t L i) = -1 := nI_m1 (by omega)
    have ir := cl_ir g (nI i) (nI (psn t L i)) (nI c.length) code
    rw [decide_eq_false nm] at ir
    have R : CnC g t L Z c (false, psn t L i, []) (some (gH (cst g (nI i) (nI (psn t L i)) (nI c.length) code))) := ⟨i, _, _, _, rfl, hi, by omega, (fun h => by cases h), fun _ => ⟨rfl, nm⟩⟩
    rw [pAtom]
    show CnC g t L Z c _ (fX3_readAtomB F (fX3_readAtom F 0) 194 (nI (6 - 0)) _)
    by_cases k0 : kd t L (psn t L i) = 1012
    · rw [if_pos (Or.inl k0), atB_12 X hi c.length code k0, if_neg n6, (bd_e ac).trans ((ck_e (io_194 _)).trans ((bd_e ir).trans (if_pos (bI_0.mpr rfl))))]
      exact R
    · by_cases k1 : kd t L (psn t L i) = 40
      · rw [if_pos (Or.inr k1), atB_40 X hi c.length code k1, if_neg n6, (bd_e ac).trans ((ck_e (io_194 _)).trans ((bd_e ir).trans (if_pos (bI_0.mpr rfl))))]
        exact R
      · rw [if_neg (fun h => h.elim k0 k1)]
        exact cl_atP X hF c hi hr hl k0 k1
  | succ e ih =>
    intro he c i code hi hr hl
    have IH := ih (by omega)
    have pl := (psn_nrm (t := t) (L := L) i).2
    have n6 : (nI (6 - (e + 1)) : Int32) < nI 6 := nI_lt (by omega) (by decide)
    have ns := nI_s (show e < 6 by omega)
    have ac := cl_acY X hi (nI c.length) code
    obtain ⟨g1, g2⟩ := gnx_p X hi
    have ir := cl_ir g (nI (gnx Z i)) (-1) (nI c.length) code
    rw [decide_eq_true rfl] at ir
    rw [pAtom]
    show CnC g t L Z c _ (fX3_readAtomB F (fX3_readAtom F (e + 1)) 194 (nI (6 - (e + 1))) _)
    by_cases k0 : kd t L (psn t L i) = 1012
    · have hl' : psn t L i < L := kd_lt (t := t) (by omega)
      have gt := nxt_gt (t := t) hl'
      obtain ⟨i3, f3, s3, code3, e3, u1, u2, v1, v2⟩ := IH c (gnx Z i) code g2 hr (by omega)
      rw [g1] at v1 v2
      rw [← ns] at e3
      rw [if_pos k0, atB_12 X hi c.length code k0, if_pos n6]
      refine CnC.eq (Y := some (gH (cst g (nI i3) f3 (nI (em2 true 1012 (s3, code3)).1) (em2 true 1012 (s3, code3)).2))) ?_ ?_
      · refine (bd_e ac).trans ?_
        refine (ck_e (io_194 _)).trans ?_
        refine (bd_e ir).trans ?_
        refine (if_neg (fun h => by cases bI_0.mp h)).trans ?_
        refine (ck_e (io_194 _)).trans ?_
        refine (bd_e e3).trans ?_
        refine (ck_e (io_194 _)).trans ?_
        exact bd_e (emE g (nI i3) f3 (s3, code3) u2 _)
      cases c3 : (pAtom t L e (nxt t L (psn t L i))).1
      · obtain ⟨x1, x2⟩ := v2 c3
        rw [if_neg (by decide)]
        exact ⟨i3, f3, _, _, rfl, u1, em2_le u2, (fun h => by cases h), fun _ => ⟨x1, x2⟩⟩
      · obtain ⟨x1, x2, x3, x4⟩ := v1 c3
        obtain ⟨b1, b2, b3⟩ := (pg_atom (t := t) (L := L) e _ (nxt_nrm (t := t) hl').2).1 c3
        have bL := b2.2
        rw [if_pos rfl]
        obtain ⟨w1, w2⟩ := em2_ok (b := true) (w := 1012) (q := (s3, code3)) x3 x4 (fun _ => by rw [List.length_append]; omega)
        have aa : c ++ (pAtom t L e (nxt t L (psn t L i))).2.2 ++ jl true 1012 = c ++ ((pAtom t L e (nxt t L (psn t L i))).2.2 ++ [1012]) := by
          simp only [jl, if_true, List.append_assoc]
        rw [aa] at w1 w2
        exact ⟨i3, f3, _, _, rfl, u1, em2_le u2, fun _ => ⟨x1, x2, w1, w2⟩, fun h => by cases h⟩
    · rw [if_neg k0]
      by_cases k1 : kd t L (psn t L i) = 40
      · have hl' : psn t L i < L := kd_lt (t := t) (by omega)
        have gt := nxt_gt (t := t) hl'
        have CC := cl_cond X hF (A := fX3_readAtom F (e + 1)) (fun a h => pg_atom e a h) IH
        obtain ⟨i3, f3, s3, code3, e3, u1, u2, v1, v2⟩ := CC c (gnx Z i) code g2 hr (by omega)
        rw [g1] at v1 v2
        have h41 := cl_ih X u1 f3 (nI s3) code3 (k := 41) (by omega)
        rw [← ns] at e3
        rw [if_pos k1, atB_40 X hi c.length code k1, if_pos n6]
        refine CnC.eq (Y := ab_bd (fX10_acceptL 194 (bI (decide (kd t L (psn t L i3) = 41))) (gH (cst g (nI i3) f3 (nI s3) code3))) fun h36 => some h36) ?_ ?_
        · refine (bd_e ac).trans ?_
          refine (ck_e (io_194 _)).trans ?_
          refine (bd_e ir).trans ?_
          refine (if_neg (fun h => by cases bI_0.mp h)).trans ?_
          refine (ck_e (io_194 _)).trans ?_
          refine (bd_e e3).trans ?_
          refine (ck_e (io_194 _)).trans ?_
          refine (bd_e h41).trans ?_
          exact ck_e (io_194 _)
        cases c3 : (pSome t L (pAtom t L e) (nxt t L (psn t L i))).1
        · obtain ⟨x1, x2⟩ := v2 c3
          rw [if_neg (by decide), cl_acW g (nI i3) f3 (nI s3) _ code3 x2, bdS]
          exact ⟨i3, f3, s3, code3, rfl, u1, u2, (fun h => by cases h), fun _ => ⟨x1, x2⟩⟩
        · obtain ⟨x1, x2, x3, x4⟩ := v1 c3
          obtain ⟨b1, b2, b3⟩ := (pg_some (t := t) (A := pAtom t L e) (fun a h => pg_atom e a h) _ (nxt_nrm (t := t) hl').2).1 c3
          have bL := b2.2
          subst x1
          rw [if_pos rfl, ← x2]
          rw [← x2] at b1 b2 b3 bL
          obtain ⟨g3, g4⟩ := gnx_p X u1
          by_cases k3 : kd t L (psn t L i3) = 41
          · rw [if_pos k3, decide_eq_true k3]
            have ac2 := cl_acY X u1 (nI s3) code3
            rw [show bI true = nI 1 from rfl, ac2, bdS]
            exact ⟨gnx Z i3, -1, s3, code3, rfl, g4, u2, fun _ => ⟨rfl, g3, x3, x4⟩, fun h => by cases h⟩
          · rw [if_neg k3, decide_eq_false k3]
            have ac2 := cl_acN X u1 (nI s3) code3
            rw [show bI false = nI 0 from rfl, ac2, bdS]
            exact ⟨i3, _, s3, code3, rfl, u1, u2, (fun h => by cases h), fun _ => ⟨rfl, nI_m1 (by omega)⟩⟩
      · rw [if_neg k1]
        exact cl_atP X hF c hi hr hl k0 k1
