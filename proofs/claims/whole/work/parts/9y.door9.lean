variable {Nq : Nat}
/-! ===== the class reads the LINES of THE DOOR ===== -/
def CL (g : gG) (t : Nat → Nat) (L Z : Nat) (r : DR) (X : Option ab_H) : Prop := ∃ G' i' f' m' n' k', X = some (gH G') ∧ Dq g t L Z G' i' f' m' n' k' ∧ (r.1 = true → f' = -1 ∧ psn t L i' = r.2.1 ∧ m' = r.2.2) ∧ (r.1 = false → (f' = nI r.2.1 ∧ ¬ f' = -1) ∨ (f' = -1 ∧ psn t L i' = r.2.1 ∧ kd t L (psn t L i') = 256))
theorem CL.no {g : gG} {t : Nat → Nat} {L Z : Nat} {X : Option ab_H} {G' : gG} {i' q : Nat} {f' : Int32} {m' m2 : Nat → Int32} {n' k' : Nat} (e : X = some (gH G')) (D : Dq g t L Z G' i' f' m' n' k') (hf : f' = nI q) (hq : q ≤ 1000) : CL g t L Z (false, q, m2) X := ⟨G', i', f', m', n', k', e, D, (fun h => by cases h), fun _ => Or.inl ⟨hf, by rw [hf]; exact nI_m1 (by omega)⟩⟩
theorem CL.ok {g : gG} {t : Nat → Nat} {L Z : Nat} {X : Option ab_H} {G' : gG} {i' q : Nat} {f' : Int32} {m' : Nat → Int32} {n' k' : Nat} (e : X = some (gH G')) (D : Dq g t L Z G' i' f' m' n' k') (hf : f' = -1) (hq : psn t L i' = q) : CL g t L Z (true, q, m') X := ⟨G', i', f', m', n', k', e, D, fun _ => ⟨hf, hq, rfl⟩, (fun h => by cases h)⟩
theorem cs_pers {g : gG} {t : Nat → Nat} {L Z : Nat} {G : gG} {i : Nat} {m : Nat → Int32} {n k : Nat} (D : Dq g t L Z G i (-1) m n k) (I : Ix m n) {F : Nat} (hF : 11000 < F) : CL g t L Z (dPers t L (psn t L i) m n) (fX1_readPerson F 192 (gH G)) := by
  have pl := D.pl
  have h10 := D.2.2.2.2.1.n10
  have hn : gF G 18 0 = nI n := D.2.2.2.2.1.1.2.1
  unfold dPers
  generalize hb : nxt t L (psn t L i) = b
  obtain ⟨G1, e1, i1, f1, D1, _, y1, y2, y3⟩ := D.ac (decide (n < 10))
  obtain ⟨G2, e2, i2, f2, D2, _, w1, w2, w3⟩ := D1.rf hF
  obtain ⟨G3, e3, i3, f3, D3, _, u1, u2, u3⟩ := D2.rf hF
  have ir := D3.ir
  have E : fX1_readPerson F 192 (gH G) = if f3 = -1 then fX8_addPerson F 18 (if e8b t L (psn t L i1) = true then e8v t (psn t L i1) else -1) (if e8b t L (psn t L i2) = true then e8v t (psn t L i2) else -1) (gH G3) else some (gH G3) := by
    unfold fX1_readPerson
    refine (bd_e (fr_192_5 _)).trans ?_
    refine (bd_e ((fi_s0 _ st18).trans (congrArg some hn))).trans ?_
    refine (jsel _ _ _).trans ?_
    have ez : (if nI n < nI 10 then nI 1 else nI 0) = bI (decide (n < 10)) := by
      by_cases c : n < 10
      · rw [if_pos (nI_lt c (by omega)), decide_eq_true c]; rfl
      · rw [if_neg (fun h => c (by rw [nI_ltI (by omega) (by omega)] at h; exact h)), decide_eq_false c]; rfl
    rw [ez]
    refine (ck_e (io_192 _)).trans ?_
    refine (bd_e e1).trans ?_
    refine (ck_e (io_192 _)).trans ?_
    refine (bd_e e2).trans ?_
    refine (ck_e (io_192 _)).trans ?_
    refine (bd_e e3).trans ?_
    refine (ck_e (io_192 _)).trans ?_
    refine (bd_e ir).trans ?_
    by_cases c : f3 = -1
    · rw [if_pos c, decide_eq_true c]
      refine (if_neg (show ¬ bI true = 0 by decide)).trans ?_
      refine (bd_e (fr_192_5 _)).trans ?_
      refine (ck_e (io_s _ st18)).trans ?_
      generalize fX8_addPerson F 18 _ _ _ = z
      cases z <;> rfl
    · rw [if_neg c, decide_eq_false c]
      exact if_pos (bI_0.mpr rfl)
  rw [E]
  by_cases c : n = 10
  · rw [if_pos c]
    have a1 := y2 rfl (decide_eq_false (by omega))
    have nf : ¬ f1 = -1 := by rw [a1]; exact nI_m1 (by omega)
    have a2 := (w3 nf).1
    have a3 := (u3 (by rw [a2]; exact nf)).1
    rw [if_neg (by rw [a3, a2]; exact nf)]
    exact CL.no rfl D3 (by rw [a3, a2, a1]) (by omega)
  · rw [if_neg c]
    obtain ⟨a1, a2, _⟩ := y1 rfl (decide_eq_true (by omega))
    rw [a2, hb] at w1 w2
    rw [a2, hb]
    by_cases c1 : e8b t L b = true
    · rw [if_pos c1]
      obtain ⟨b1, b2, _⟩ := w1 a1 c1
      rw [b2] at u1 u2
      rw [b2]
      by_cases c2 : e8b t L (nxt t L b) = true
      · obtain ⟨d1, d2, _⟩ := u1 b1 c2
        rw [if_pos c2, if_pos d1, if_pos c1, if_pos c2]
        obtain ⟨G4, e4, s1, s2⟩ := cl_addP D3.2.2.2.2.1 I (by omega) (e8v t b) (e8v t (nxt t L b)) hF
        exact CL.ok e4 (D3.fs s1 s2) d1 d2
      · have d1 := u2 b1 (by simpa using c2)
        have pl2 := D2.pl
        rw [b2] at pl2
        rw [if_neg c2, if_neg (by rw [d1]; exact nI_m1 (by omega))]
        exact CL.no rfl D3 d1 (by omega)
    · have b1 := w2 a1 (by simpa using c1)
      have pl1 := D1.pl
      rw [a2, hb] at pl1
      have nf : ¬ f2 = -1 := by rw [b1]; exact nI_m1 (by omega)
      have d1 := (u3 nf).1
      rw [if_neg c1, if_neg (by rw [d1]; exact nf)]
      exact CL.no rfl D3 (by rw [d1, b1]) (by omega)
/-- who can wed -/
theorem cl_canW {G : gG} {m : Nat → Int32} {n k : Nat} (S : SC G 18 m n k) {t : Nat → Nat} {L a : Nat} : fX8_canWed 18 (kI (nmb t L a)) (gH G) = some (bI (decide (nmb t L a < n ∧ m (12 + 6 * nmb t L a + 4) = -1))) := by
  have h10 := S.n10
  have hp := cl_hasPerson S.1 (kI (nmb t L a))
  rw [inR_k (by omega)] at hp
  have nl := nmb_lt (t := t) (L := L) (a := a)
  generalize nmb t L a = z at *
  unfold fX8_canWed
  refine (ck_e (io_s _ st18)).trans ?_
  refine (bd_e hp).trans ?_
  by_cases c : z < n
  · rw [decide_eq_true c]
    have kz : kI z = nI z := by unfold kI; rw [if_neg (by omega)]
    refine (if_neg (show ¬ bI true = 0 by decide)).trans ?_
    refine (bd_e (fr_s13 _ st18)).trans ?_
    rw [kz]
    refine (bd_e ((ia_s7 _ st18 (by omega)).trans (congrArg some (S.1.2.2.2.2.2.2.2.2.2.1 z c)))).trans ?_
    by_cases d : m (12 + 6 * z + 4) = -1
    · rw [decide_eq_true (show z < n ∧ m (12 + 6 * z + 4) = -1 from ⟨c, d⟩)]; exact if_pos d
    · rw [decide_eq_false (show ¬ (z < n ∧ m (12 + 6 * z + 4) = -1) from fun h => d h.2)]; exact if_neg d
  · rw [decide_eq_false c, decide_eq_false (show ¬ (z < n ∧ m (12 + 6 * z + 4) = -1) from fun h => c h.1)]
    exact if_pos (bI_0.mpr rfl)
theorem cs_wed {g : gG} {t : Nat → Nat} {L Z : Nat} {G : gG} {i : Nat} {m : Nat → Int32} {n k : Nat} (D : Dq g t L Z G i (-1) m n k) {F : Nat} (hF : 11000 < F) : CL g t L Z (dWed t L (psn t L i) m n) (fX1_readWed F 192 (gH G)) := by
  have h10 := D.2.2.2.2.1.n10
  unfold dWed
  obtain ⟨e0, D0, p0⟩ := D.go
  generalize hb : nxt t L (psn t L i) = b at *
  generalize gnx Z i = i0 at *
  have nh := dk_nh D0.1 D0.2.1 D0.2.2.1 hF
  have cw := cl_canW D0.2.2.2.2.1 (t := t) (L := L) (a := b)
  rw [p0] at nh
  obtain ⟨G1, e1, i1, f1, D1, _, y1, y2, y3⟩ := D0.ac (decide (nmb t L b < n ∧ m (12 + 6 * nmb t L b + 4) = -1))
  rw [p0] at y1 y2
  have nh1 := dk_nh D1.1 D1.2.1 D1.2.2.1 hF
  have cw1 := cl_canW D1.2.2.2.2.1 (t := t) (L := L) (a := psn t L i1)
  obtain ⟨G2, e2, i2, f2, D2, _, w1, w2, w3⟩ := D1.ac (decide ((nmb t L (psn t L i1) < n ∧ m (12 + 6 * nmb t L (psn t L i1) + 4) = -1) ∧ ¬ kI (nmb t L (psn t L i1)) = kI (nmb t L b)))
  have ir := D2.ir
  have E : fX1_readWed F 192 (gH G) = if f2 = -1 then (ab_bd (ab_iw 0 (gH G2) (18 + 7) (kI (nmb t L b)) (kI (nmb t L (psn t L i1)))) fun h18 => ab_bd (ab_fr h18 192 1 5) fun v19 => ab_bd (ab_fr h18 v19 8 13) fun v20 => ab_bd (ab_iw 0 h18 v20 (kI (nmb t L (psn t L i1))) (kI (nmb t L b))) fun h21 => some h21) else some (gH G2) := by
    unfold fX1_readWed
    refine (bd_e (fr_192_0 _)).trans ?_
    refine (ck_e (io_188 _)).trans ?_
    refine (bd_e e0).trans ?_
    refine (bd_e (fr_192_0 _)).trans ?_
    refine (ck_e (io_188 _)).trans ?_
    refine (bd_e nh).trans ?_
    refine (bd_e (fr_192_5 _)).trans ?_
    refine (ck_e (io_s _ st18)).trans ?_
    refine (bd_e cw).trans ?_
    refine (ck_e (io_192 _)).trans ?_
    refine (bd_e e1).trans ?_
    refine (bd_e (fr_192_0 _)).trans ?_
    refine (ck_e (io_188 _)).trans ?_
    refine (bd_e nh1).trans ?_
    refine (bd_e (fr_192_5 _)).trans ?_
    refine (ck_e (io_s _ st18)).trans ?_
    refine (bd_e cw1).trans ?_
    refine (jn_e _ _).trans ?_
    refine (jn_e _ _).trans ?_
    have J : (ab_ck (ab_io (gH G1) 192 1 = true) (ab_bd (fX10_acceptD 192 (bI (decide ((nmb t L (psn t L i1) < n ∧ m (12 + 6 * nmb t L (psn t L i1) + 4) = -1) ∧ ¬ kI (nmb t L (psn t L i1)) = kI (nmb t L b)))) (gH G1)) fun h13 => ab_ck (ab_io h13 192 1 = true) (ab_bd (fX10_isRightD 192 h13) fun v14 => (if v14 = 0 then some h13 else ab_bd (ab_fr h13 192 1 5) fun v16 => ab_bd (ab_fr h13 v16 8 13) fun v17 => ab_bd (ab_iw 0 h13 v17 (kI (nmb t L b)) (kI (nmb t L (psn t L i1)))) fun h18 => ab_bd (ab_fr h18 192 1 5) fun v19 => ab_bd (ab_fr h18 v19 8 13) fun v20 => ab_bd (ab_iw 0 h18 v20 (kI (nmb t L (psn t L i1))) (kI (nmb t L b))) fun h21 => some h21)))) = if f2 = -1 then (ab_bd (ab_iw 0 (gH G2) (18 + 7) (kI (nmb t L b)) (kI (nmb t L (psn t L i1)))) fun h18 => ab_bd (ab_fr h18 192 1 5) fun v19 => ab_bd (ab_fr h18 v19 8 13) fun v20 => ab_bd (ab_iw 0 h18 v20 (kI (nmb t L (psn t L i1))) (kI (nmb t L b))) fun h21 => some h21) else some (gH G2) := by
      refine (ck_e (io_192 _)).trans ?_
      refine (bd_e e2).trans ?_
      refine (ck_e (io_192 _)).trans ?_
      refine (bd_e ir).trans ?_
      by_cases c : f2 = -1
      · rw [if_pos c, decide_eq_true c]
        refine (if_neg (show ¬ bI true = 0 by decide)).trans ?_
        refine (bd_e (fr_192_5 _)).trans ?_
        exact bd_e (fr_s13 _ st18)
      · rw [if_neg c, decide_eq_false c]
        exact if_pos (bI_0.mpr rfl)
    rw [← J]
    by_cases c : nmb t L (psn t L i1) < n ∧ m (12 + 6 * nmb t L (psn t L i1) + 4) = -1
    · rw [decide_eq_true c]
      refine (if_neg (show ¬ bI true = 0 by decide)).trans ?_
      by_cases d : kI (nmb t L (psn t L i1)) = kI (nmb t L b)
      · rw [decide_eq_false (show ¬ ((nmb t L (psn t L i1) < n ∧ m (12 + 6 * nmb t L (psn t L i1) + 4) = -1) ∧ ¬ kI (nmb t L (psn t L i1)) = kI (nmb t L b)) from fun h => h.2 d)]
        exact if_pos d
      · rw [decide_eq_true (show ((nmb t L (psn t L i1) < n ∧ m (12 + 6 * nmb t L (psn t L i1) + 4) = -1) ∧ ¬ kI (nmb t L (psn t L i1)) = kI (nmb t L b)) from ⟨c, d⟩)]
        exact if_neg d
    · rw [decide_eq_false c, decide_eq_false (show ¬ ((nmb t L (psn t L i1) < n ∧ m (12 + 6 * nmb t L (psn t L i1) + 4) = -1) ∧ ¬ kI (nmb t L (psn t L i1)) = kI (nmb t L b)) from fun h => c h.1)]
      exact if_pos (bI_0.mpr rfl)
  rw [E]
  have pl0 := D0.pl
  rw [p0] at pl0
  by_cases c : nmb t L b < n ∧ m (12 + 6 * nmb t L b + 4) = -1
  · rw [if_pos c]
    obtain ⟨a1, a2, _⟩ := y1 rfl (decide_eq_true c)
    have pl1 := D1.pl
    rw [a2] at w1 w2 pl1
    rw [a2]
    have kb : kI (nmb t L b) = nI (nmb t L b) := by unfold kI; rw [if_neg (by omega)]
    by_cases d : nmb t L (nxt t L b) < n ∧ nmb t L (nxt t L b) ≠ nmb t L b ∧ m (12 + 6 * nmb t L (nxt t L b) + 4) = -1
    · have kc : kI (nmb t L (nxt t L b)) = nI (nmb t L (nxt t L b)) := by unfold kI; rw [if_neg (by omega)]
      obtain ⟨b1, b2, _⟩ := w1 a1 (decide_eq_true ⟨⟨d.1, d.2.2⟩, fun h => d.2.1 (by rw [kb, kc, nI_eq (by omega) (by omega)] at h; exact h)⟩)
      rw [if_pos d, if_pos b1, kb, kc]
      obtain ⟨G3, e3, s3, S3⟩ := D2.2.2.2.2.1.iw (r := 4) (a := 18 + 7) rfl (by omega) c.1 (nI (nmb t L (nxt t L b)))
      obtain ⟨G4, e4, s4, S4⟩ := S3.iw (r := 4) (a := 18 + 7) rfl (by omega) d.1 (nI (nmb t L b))
      refine CL.ok (G' := G4) ?_ ((D2.fs s3 S3).fs s4 S4) b1 b2
      refine (bd_e e3).trans ?_
      refine (bd_e (fr_192_5 _)).trans ?_
      refine (bd_e (fr_s13 _ st18)).trans ?_
      exact bd_e e4
    · have b1 := w2 a1 (decide_eq_false (fun h => d ⟨h.1.1, fun e => h.2 (by rw [e]), h.1.2⟩))
      rw [if_neg d, if_neg (by rw [b1]; exact nI_m1 (by omega))]
      exact CL.no rfl D2 b1 (by omega)
  · rw [if_neg c]
    have a1 := y2 rfl (decide_eq_false c)
    have nf : ¬ f1 = -1 := by rw [a1]; exact nI_m1 (by omega)
    have a2 := (w3 nf).1
    rw [if_neg (by rw [a2]; exact nf)]
    exact CL.no rfl D2 (by rw [a2, a1]) (by omega)
