variable {Nq : Nat}
/-! ===== call: door, the class; both ===== -/
theorem SR.texts {g : gG} {m : Nat → Int32} {n k : Nat} (S : SR g 6 m n k) {v : Int32} (hv : nv v ≤ 12) : SR (sF g 6 6 v) 6 (upd m 0 v) n k := by
  obtain ⟨⟨hx, q0, h10, q1, h12, e3, e4, e5, e6, e7, e8, e11, e9, e10⟩, k1, m3, m4, ⟨x1, x2, x3, x4, x5, x6⟩, Lo, B, W, I⟩ := S
  refine ⟨⟨hx, by rw [gF_sF1, upd_2 _ _ (by omega)]; exact q0, h10, by rw [gF_sF1, upd_2 _ _ (by omega)]; exact q1, h12, ?_, ?_, ?_, ?_, ?_, ?_, ?_, ?_, ?_⟩, k1, by rw [upd_2 _ _ (by omega)]; exact m3, by rw [upd_2 _ _ (by omega)]; exact m4, ⟨?_, ?_, ?_, ?_, ?_, by rw [upd_1]; exact hv⟩, Lo.keep (gF_sF2 _ _ (by omega)) rfl (upd_2 _ _ (by omega)) (fun q _ _ => upd_2 _ _ (by omega)), B.keep (fun _ _ _ _ _ _ => rfl) (fun _ _ _ _ _ => ⟨rfl, rfl⟩), W.cg (fun q _ => upd_2 _ _ (by omega)) (fun q _ => upd_2 _ _ (by omega)) (fun q _ => upd_2 _ _ (by omega)), I.cg h10 (fun q _ => upd_2 _ _ (by omega)) (fun q _ => upd_2 _ _ (by omega)) (fun q _ => upd_2 _ _ (by omega)) (fun q _ _ => upd_2 _ _ (by omega))⟩
  · intro p hp; rw [upd_2 _ _ (by omega)]; exact e3 p hp
  · intro p hp; rw [upd_2 _ _ (by omega)]; exact e4 p hp
  · intro p hp; rw [upd_2 _ _ (by omega)]; exact e5 p hp
  · intro p hp; rw [upd_2 _ _ (by omega)]; exact e6 p hp
  · intro p hp; rw [upd_2 _ _ (by omega)]; exact e7 p hp
  · intro p hp; rw [upd_2 _ _ (by omega)]; exact e8 p hp
  · intro p hp; rw [upd_2 _ _ (by omega)]; exact e11 p hp
  · intro p o hp ho; rw [upd_2 _ _ (by omega)]; exact e9 p o hp ho
  · intro p o hp ho; rw [upd_2 _ _ (by omega)]; exact e10 p o hp ho
  · rw [gF_sF1, upd_2 _ _ (by omega), upd_2 _ _ (by omega)]; exact x1
  · rw [gF_sF1, upd_2 _ _ (by omega), upd_2 _ _ (by omega)]; exact x2
  · rw [gF_sF1, upd_2 _ _ (by omega), upd_2 _ _ (by omega)]; exact x3
  · rw [gF_sF1, upd_2 _ _ (by omega), upd_2 _ _ (by omega)]; exact x4
  · rw [gF_sF1, upd_1, upd_1]
/-- the class -/
theorem cl_door {g : gG} {t : Nat → Nat} {L : Nat} (T : Tq g t L) (h14 : gF g 192 1 = nI 14) {m : Nat → Int32} {n k : Nat} (S : SR g 6 m n k) {F : Nat} (hF : 11000 < F) : ∃ r g1, fX11_door F 0 (gH g) = some (r, gH g1) ∧ (∀ b, (b < 6 ∨ 30 ≤ b) → b ≠ 0 → b ≠ 4 → b ≠ 42 → b ≠ 188 → b ≠ 192 → gF g1 b = gF g b) ∧ (∀ j, j ≠ 10 → gF g1 0 j = gF g 0 j) ∧ gF g1 4 1 = nI 0 ∧ gF g1 42 1 = gF g 42 1 ∧ gF g1 192 1 = gF g 192 1 ∧ (∀ b, (b < 6 ∨ 30 ≤ b) → b ≠ 189 → b ≠ 190 → b ≠ 191 → b ≠ 193 → gA g1 b = gA g b) ∧ (∀ b, (b < 6 ∨ 30 ≤ b) → gL g1 b = gL g b) ∧ (∀ b, b ≠ 18 → gw g1 b = gw g b) ∧ gn g1 = gn g ∧ gl g1 = gl g ∧
    ((dText t L m).1 = true → nv (m 0) < 12 → r = .inl (m 0 + nI 1) ∧ gF g1 0 10 = -1 ∧ gF g1 42 2 = nI 0 ∧ ∃ n' k', SR g1 6 (upd (dText t L m).2.2 0 (m 0 + nI 1)) n' k') ∧
    ((dText t L m).1 = true → nv (m 0) = 12 → r = .inr eUn ∧ gF g1 0 10 = -1 ∧ gF g1 42 = gF g 42 ∧ Es g g1 6) ∧
    ((dText t L m).1 = false → r = .inr eAr ∧ gF g1 0 10 = nI (dText t L m).2.1 ∧ gF g1 42 = gF g 42 ∧ Es g g1 6) := by
  obtain ⟨Kd, Bg, En, Z, c', G, i', f', m', n', k', e1, D, r1, r2⟩ := cl_textD T h14 S hF
  have Gd : Dgd m := ⟨n, k, S.2.2.1, S.c.n10, S.2.2.2.1, S.2.1, S.c.k12, S.w, S.i⟩
  have dq := dText_q (t := t) (L := L) (q := 0) (by omega) Gd
  obtain ⟨o1, ⟨o2, _⟩, o4, o5, o6, o7, o8⟩ := D.2.2.2.2.2
  have qF : ∀ b, (b < 18 ∨ 30 ≤ b) → b ≠ 188 → b ≠ 192 → gF G b = gF g b := fun b h1 h2 h3 => by rw [o1 b h1 h2 h3, gF_sF2 _ _ h3]; rfl
  have q192 : gF G 192 1 = gF g 192 1 := by rw [o2, gF_sF1, upd_2 _ _ (by omega)]; rfl
  have qA : ∀ b, (b < 18 ∨ 30 ≤ b) → b ≠ 189 → b ≠ 190 → b ≠ 191 → b ≠ 193 → gA G b = gA g b := fun b h1 h2 h3 h4 h5 => by
    rw [o4 b h1 h5]
    show gA (ct3 g Kd Bg En) b = _
    unfold ct3
    rw [gA_sA2 _ _ h4, gA_sA2 _ _ h3, gA_sA2 _ _ h2]
  have qL : ∀ b, (b < 18 ∨ 30 ≤ b) → gL G b = gL g b := fun b h1 => by rw [o5 b h1]; rfl
  have qw : ∀ b, gw G b = if b = 18 then gw g 6 else gw g b := fun b => by rw [o6 b]; exact gw_sW ..
  have qn : gn G = gn g := by rw [o7]; rfl
  have ql : gl G = gl g := by funext b; rw [o8 b]; rfl
  have SD := D.2.2.2.2.1
  clear o1 o2 o4 o5 o6 o7 o8 D
  obtain ⟨H, hH⟩ : ∃ H, H = sF (sF G 0 10 f') 4 1 (nI 0) := ⟨_, rfl⟩
  have hF' : ∀ b, b ≠ 0 → b ≠ 4 → gF H b = gF G b := fun b h1 h2 => by rw [hH, gF_sF2 _ _ h2, gF_sF2 _ _ h1]
  have h0 : ∀ j, j ≠ 10 → gF H 0 j = gF g 0 j := fun j hj => by rw [hH, gF_sF2 _ _ (by omega), gF_sF1, upd_2 _ _ hj, qF 0 (by omega) (by omega) (by omega)]
  have h010 : gF H 0 10 = f' := by rw [hH, gF_sF2 _ _ (by omega), gF_sF1, upd_1]
  have h41 : gF H 4 1 = nI 0 := by rw [hH, gF_sF1, upd_1]
  have hA : gA H = gA G := by rw [hH]; rfl
  have hLL : gL H = gL G := by rw [hH]; rfl
  have hw : gw H = gw G := by rw [hH]; rfl
  have hn : gn H = gn g := by rw [hH, ← qn]; rfl
  have hl : gl H = gl g := by rw [hH, ← ql]; rfl
  have m6 : gF H 6 6 = m 0 := by rw [hF' 6 (by omega) (by omega), qF 6 (by omega) (by omega) (by omega)]; exact S.2.2.2.2.1.2.2.2.2.1
  have hm12 : nv (m 0) ≤ 12 := S.2.2.2.2.1.2.2.2.2.2
  have mI : m 0 = nI (nv (m 0)) := (nI_nv _).symm
  have head : fX11_door F 0 (gH g) = (if f' = (-1 : Int32) then ab_bd (ab_fr (gH H) 0 11 1) fun v8 => ab_bd (ab_fi (gH H) v8 8 6) fun v9 => (if v9 < (nI 12) then ab_bd (ab_fr (gH H) 0 11 1) fun v11 => ab_bd (ab_fr (gH H) 0 11 2) fun v12 => ab_ck (ab_io (gH H) v11 8 = true) (ab_bd (fX8_copyFrom v11 v12 (gH H)) fun h13 => ab_bd (ab_fr h13 0 11 1) fun v14 => ab_bd (ab_fi h13 v14 8 6) fun v15 => ab_bd (ab_fw h13 v14 8 6 (.int (v15 + (nI 1)))) fun h16 => ab_bd (ab_fr h16 0 11 4) fun v17 => ab_ck (ab_io h16 v17 6 = true) (ab_bd (fX6_forget v17 h16) fun h18 => ab_bd (ab_fr h18 0 11 1) fun v19 => ab_bd (ab_fi h18 v19 8 6) fun v20 => some (.inl v20, h18))) else some (.inr "java/lang/UnsupportedOperationException", gH H)) else some (.inr "java/lang/IllegalArgumentException", gH H)) := by
    unfold fX11_door
    refine (bd_e (fr_0_5 _)).trans ?_
    refine (ck_e (io_192 _)).trans ?_
    refine (bd_e e1).trans ?_
    refine (bd_e (fw_0_10 _ _)).trans ?_
    refine (bd_e (fr_0_0 _)).trans ?_
    refine (bd_e (fw_4_1 _ _)).trans ?_
    rw [← hH]
    exact bd_e (by rw [fi_0_10, h010])
  have SH : SC H 18 m' n' k' := SD.es (fun r hr => ⟨hF' _ (by omega) (by omega), by rw [hA], by rw [hLL]⟩)
  clear hH
  have E6 : Es g H 6 := fun r hr => ⟨(hF' _ (by omega) (by omega)).trans (qF _ (by omega) (by omega) (by omega)), by rw [hA]; exact qA _ (by omega) (by omega) (by omega) (by omega) (by omega), by rw [hLL]; exact qL _ (by omega)⟩
  have e42 : gF H 42 = gF g 42 := (hF' 42 (by omega) (by omega)).trans (qF 42 (by omega) (by omega) (by omega))
  generalize dText t L m = r at *
  obtain ⟨ra, rb, rc⟩ := r
  dsimp only at *
  by_cases c : ra = true ∧ nv (m 0) < 12
  · obtain ⟨a1, a2, a3⟩ := r1 c.1
    have CP := cpS_Cp H (x := 6) (y := 18) (by omega)
    have cp := cl_copy H (x := 6) (y := 18) isSt6 st18 (by omega)
    have S6 := (SH.r a3.2.2.2.2.2.1 a3.2.2.2.2.2.2).copy isSt6 CP
    have w6 : gw (cpS H 6 18) 6 = gw g 6 := by rw [CP.2.2.2.2.1, hw, qw, if_pos rfl]
    have wo : ∀ b, b ≠ 6 → gw (cpS H 6 18) b = gw H b := fun b hb => by
      unfold cpS
      simp only [gw_sA, gw_sF, gw_sL, gw_sW]; rw [if_neg hb]
    have c6 : gF (cpS H 6 18) 6 6 = m 0 := by rw [S6.2.2.2.2.1.2.2.2.2.1, a2]; exact dq
    generalize cpS H 6 18 = C at *
    have nv1 : nv (m 0 + nI 1) ≤ 12 := by
      rw [mI, nI_add, nv_nI (by omega)]; omega
    have S7 := S6.texts (v := m 0 + nI 1) nv1
    refine ⟨.inl (m 0 + nI 1), sF (sF C 6 6 (m 0 + nI 1)) 42 2 (nI 0), ?_, ?_, ?_, ?_, ?_, ?_, ?_, ?_, ?_, ?_, ?_, fun _ _ => ⟨rfl, ?_, ?_, n', k', ?_⟩, (fun _ h => by omega), (fun h => by rw [c.1] at h; cases h)⟩
    · refine head.trans ((if_pos a1).trans ?_)
      refine (bd_e (fr_0_1 _)).trans ?_
      refine (bd_e ((fi_s6 _ isSt6).trans (congrArg some m6))).trans ?_
      refine (if_pos (by rw [mI]; exact nI_lt c.2 (by omega))).trans ?_
      refine (bd_e (fr_0_1 _)).trans ?_
      refine (bd_e (fr_0_2 _)).trans ?_
      refine (ck_e (io_s _ isSt6)).trans ?_
      refine (bd_e cp).trans ?_
      refine (bd_e (fr_0_1 _)).trans ?_
      refine (bd_e ((fi_s6 _ isSt6).trans (congrArg some c6))).trans ?_
      refine (bd_e (fw_s6 _ _ isSt6)).trans ?_
      refine (bd_e (fr_0_4 _)).trans ?_
      refine (ck_e (io_42 _)).trans ?_
      refine (bd_e (show fX6_forget 42 (gH (sF C 6 6 (m 0 + nI 1))) = some (gH (sF (sF C 6 6 (m 0 + nI 1)) 42 2 (nI 0))) from by unfold fX6_forget; rw [fw_42_2, bdS])).trans ?_
      refine (bd_e (fr_0_1 _)).trans ?_
      refine (bd_e ((fi_s6 _ isSt6).trans (congrArg some (show gF (sF (sF C 6 6 (m 0 + nI 1)) 42 2 (nI 0)) 6 6 = m 0 + nI 1 by rw [gF_sF2 _ _ (by omega), gF_sF1, upd_1])))).trans ?_
      rfl
    · intro b h1 h2 h3 h4 h5 h6
      rw [gF_sF2 _ _ h4, gF_sF2 _ _ (by omega), (CP.1 b (by omega)).1, hF' b h2 h3, qF b (by omega) h5 h6]
    · intro j hj
      rw [gF_sF2 _ _ (by omega), gF_sF2 _ _ (by omega), (CP.1 0 (by omega)).1, h0 j hj]
    · rw [gF_sF2 _ _ (by omega), gF_sF2 _ _ (by omega), (CP.1 4 (by omega)).1, h41]
    · rw [gF_sF1, upd_2 _ _ (by omega), gF_sF2 _ _ (by omega), (CP.1 42 (by omega)).1, e42]
    · rw [gF_sF2 _ _ (by omega), gF_sF2 _ _ (by omega), (CP.1 192 (by omega)).1, hF' 192 (by omega) (by omega), q192]
    · intro b h1 h2 h3 h4 h5
      rw [gA_sF, gA_sF, (CP.1 b (by omega)).2.1, hA, qA b (by omega) h2 h3 h4 h5]
    · intro b h1
      rw [gL_sF, gL_sF, (CP.1 b (by omega)).2.2.1, hLL, qL b (by omega)]
    · intro b hb
      rw [gw_sF, gw_sF]
      by_cases d : b = 6
      · rw [d, w6]
      · rw [wo b d, hw, qw, if_neg hb]
    · rw [gn_sF, gn_sF, CP.2.1, hn]
    · funext b; rw [gl_sF, gl_sF, CP.2.2.1, hl]
    · rw [gF_sF2 _ _ (by omega), gF_sF2 _ _ (by omega), (CP.1 0 (by omega)).1, h010, a1]
    · rw [gF_sF1, upd_1]
    · rw [← a2]
      exact S7.keep (fun r hr => ⟨gF_sF2 _ _ (by omega), rfl, rfl⟩)
  · have Q : ∀ rr, fX11_door F 0 (gH g) = some (rr, gH H) → ((ra = true → nv (m 0) = 12 → rr = .inr eUn ∧ f' = -1) ∧ (ra = false → rr = .inr eAr ∧ f' = nI rb)) → ∃ r g1, fX11_door F 0 (gH g) = some (r, gH g1) ∧ (∀ b, (b < 6 ∨ 30 ≤ b) → b ≠ 0 → b ≠ 4 → b ≠ 42 → b ≠ 188 → b ≠ 192 → gF g1 b = gF g b) ∧ (∀ j, j ≠ 10 → gF g1 0 j = gF g 0 j) ∧ gF g1 4 1 = nI 0 ∧ gF g1 42 1 = gF g 42 1 ∧ gF g1 192 1 = gF g 192 1 ∧ (∀ b, (b < 6 ∨ 30 ≤ b) → b ≠ 189 → b ≠ 190 → b ≠ 191 → b ≠ 193 → gA g1 b = gA g b) ∧ (∀ b, (b < 6 ∨ 30 ≤ b) → gL g1 b = gL g b) ∧ (∀ b, b ≠ 18 → gw g1 b = gw g b) ∧ gn g1 = gn g ∧ gl g1 = gl g ∧
    (ra = true → nv (m 0) < 12 → r = .inl (m 0 + nI 1) ∧ gF g1 0 10 = -1 ∧ gF g1 42 2 = nI 0 ∧ ∃ n' k', SR g1 6 (upd rc 0 (m 0 + nI 1)) n' k') ∧
    (ra = true → nv (m 0) = 12 → r = .inr eUn ∧ gF g1 0 10 = -1 ∧ gF g1 42 = gF g 42 ∧ Es g g1 6) ∧
    (ra = false → r = .inr eAr ∧ gF g1 0 10 = nI rb ∧ gF g1 42 = gF g 42 ∧ Es g g1 6) := fun rr e q => ⟨rr, H, e, fun b h1 h2 h3 h4 h5 h6 => (hF' b h2 h3).trans (qF b (by omega) h5 h6), h0, h41, by rw [e42], by rw [hF' 192 (by omega) (by omega), q192], fun b h1 h2 h3 h4 h5 => by rw [hA]; exact qA b (by omega) h2 h3 h4 h5, fun b h1 => by rw [hLL]; exact qL b (by omega), fun b hb => by rw [hw, qw, if_neg hb], hn, hl, fun h1 h2 => absurd ⟨h1, h2⟩ c, fun h1 h2 => ⟨(q.1 h1 h2).1, h010.trans (q.1 h1 h2).2, e42, E6⟩, fun h1 => ⟨(q.2 h1).1, h010.trans (q.2 h1).2, e42, E6⟩⟩
    cases ra
    · obtain ⟨a1, a2⟩ := r2 rfl
      exact Q (.inr eAr) (head.trans (if_neg a2)) ⟨(fun h => by cases h), fun _ => ⟨rfl, a1⟩⟩
    · obtain ⟨a1, a2, a3⟩ := r1 rfl
      have n12 : nv (m 0) = 12 := Decidable.byContradiction fun h => c ⟨rfl, by omega⟩
      refine Q (.inr eUn) (head.trans ((if_pos a1).trans ?_)) ⟨fun _ _ => ⟨rfl, a1⟩, (fun h => by cases h)⟩
      refine (bd_e (fr_0_1 _)).trans ?_
      refine (bd_e ((fi_s6 _ isSt6).trans (congrArg some m6))).trans ?_
      exact if_neg (fun h => by rw [mI, n12] at h; exact absurd h (by decide))
/-- both -/
theorem door_ok {g g' : gG} {n k s f n' k' : Nat} (R : Re Nq g n k s f) (S : SR g' 6 (gA g' 207) n' k') (e : El2 g g') (w6 : gw g' 6 = gw g 6) (w30 : gw g' 30 = gw g 30) (h3 : Es g g' 30) (hp : gF g' 42 2 = nI 0) (hp1 : gF g' 42 1 = gF g 42 1) (m8 : gA g' 208 = gA g 208) (f3 : gF g' 206 3 = gF g 206 3) (f6 : gF g' 206 6 = nI 0) (f9 : gF g' 0 9 = gF g 0 9) (f10 : gF g' 0 10 = gF g' 206 12) (a1 : gF g' 192 1 = gF g 192 1) (a2 : gF g' 194 1 = gF g 194 1) (B : Bo g') (T : Tp g') (h1 : gA g' 207 1 = gA g 207 1) (h2 : gA g' 207 2 = gA g 207 2) (hh : ∀ i, 584 ≤ i → i < 984 → gA g' 207 i = gA g 207 i) : RE Nq g' := by
  obtain ⟨r1, r2, r3, _, r5, r6, r7, r8, r9, r10, r11⟩ := R
  refine ⟨n', k', 0, f, S, ⟨by omega, r2.2.1, hp, hp1.trans r2.2.2.2.1, fun j hj => absurd hj (Nat.not_lt_zero j)⟩, f6, T, ?_, f10, by rw [a1]; exact r7, by rw [a2]; exact r8, by rw [w6]; exact r9.keep2 e h1 h2 hh, fun j hj => absurd hj (Nat.not_lt_zero j), B, by rw [e.1]; exact r11.2⟩
  obtain ⟨i1, i2⟩ := r5
  refine ⟨by rw [f9, f3]; exact i1, ?_⟩
  rw [f9]
  refine i2.imp id (fun ⟨h1, h2, n, k, h4⟩ => ⟨h1, ?_, n, k, ?_⟩)
  · rw [w30, m8]; exact h2.keep2 e rfl rfl (fun _ _ _ => rfl)
  · rw [m8]; exact h4.keep h3
theorem ca_door {g : gG} (R : RE Nq g) {F : Nat} (hF : 11000 < F) : Ca Nq (fX11_door F 0 (gH g)) (fun g1 => fX12_door F 206 (gH g1)) [eAr, eUn] := by
  obtain ⟨n, k, s, f, R⟩ := R
  have X := R.2.2.2.2.2.2.2.2.2.2
  have S := R.1
  obtain ⟨L, t, l1, l2, l3, T⟩ := R.2.2.2.1.t
  obtain ⟨r, g1, e1, p1, p2, p3, p4, p5, p6, p7, p8, p9, p10, y1, y2, y3⟩ := cl_door T R.2.2.2.2.2.2.1 S hF
  have b1 : gF g1 206 = gF g 206 := p1 206 (by omega) (by omega) (by omega) (by omega) (by omega) (by omega)
  have a207 : gA g1 207 = gA g 207 := p6 207 (by omega) (by omega) (by omega) (by omega) (by omega)
  have a211 : gA g1 211 = gA g 211 := p6 211 (by omega) (by omega) (by omega) (by omega) (by omega)
  have Gd : Dgd (gA g 207) := ⟨n, k, S.2.2.1, S.c.n10, S.2.2.2.1, S.2.1, S.c.k12, S.w, S.i⟩
  have hm12 : nv (gA g 207 0) ≤ 12 := S.2.2.2.2.1.2.2.2.2.2
  obtain ⟨v, g2, e2, q1, q2, q3, q4, q5, q6, q7, q8, z1, z2, z3⟩ := rf_door (g := g1) (t := t) (L := L) (by rw [b1]; exact l2) l1 (by rw [a211]; exact l3) (by rw [a207]; exact Gd) (by rw [a207]; exact hm12) hF
  rw [a207] at z1 z2 z3
  have F2 : ∀ b, (b < 6 ∨ 30 ≤ b) → b ≠ 0 → b ≠ 4 → b ≠ 42 → b ≠ 188 → b ≠ 192 → b ≠ 206 → gF g2 b = gF g b := fun b h1 h2 h3 h4 h5 h6 h7 => by rw [q1 b h7, p1 b h1 h2 h3 h4 h5 h6]
  have A2 : ∀ b, (b < 6 ∨ 30 ≤ b) → b ≠ 189 → b ≠ 190 → b ≠ 191 → b ≠ 193 → b ≠ 207 → b ≠ 209 → gA g2 b = gA g b := fun b h1 h2 h3 h4 h5 h6 h7 => by rw [q4 b h6 h7, p6 b h1 h2 h3 h4 h5]
  have L2 : ∀ b, (b < 6 ∨ 30 ≤ b) → gL g2 b = gL g b := fun b h1 => by rw [q5, p7 b h1]
  have W2 : ∀ b, b ≠ 18 → gw g2 b = gw g b := fun b h1 => by rw [q6, p8 b h1]
  have N2 : gn g2 = gn g := by rw [q7, p9]
  have l2' : gl g2 = gl g := by rw [q8, p10]
  have EL : El2 g g2 := ⟨N2, fun b => by rw [l2'], fun b hb => F2 b (by omega) (by omega) (by omega) (by omega) (by omega) (by omega) (by omega), A2 3 (by omega) (by omega) (by omega) (by omega) (by omega) (by omega) (by omega), fun b hb _ => A2 b (by omega) (by omega) (by omega) (by omega) (by omega) (by omega) (by omega)⟩
  have BO : Bo g2 := by unfold Bo; rw [q2 15 (by omega), q2 16 (by omega), b1]; exact X.1
  have TP : Tp g2 := ⟨0, by omega, by rw [q1 4 (by omega), p3], q3, fun i hi => absurd hi (Nat.not_lt_zero i)⟩
  have f3 : gF g2 206 3 = gF g 206 3 := by rw [q2 3 (by omega), b1]
  have f9 : gF g2 0 9 = gF g 0 9 := by rw [q1 0 (by omega), p2 9 (by omega)]
  have a1 : gF g2 192 1 = gF g 192 1 := by rw [q1 192 (by omega), p5]
  have a2 : gF g2 194 1 = gF g 194 1 := by rw [F2 194 (by omega) (by omega) (by omega) (by omega) (by omega) (by omega) (by omega)]
  have E30 : Es g g2 30 := fun r hr => ⟨F2 _ (by omega) (by omega) (by omega) (by omega) (by omega) (by omega) (by omega), A2 _ (by omega) (by omega) (by omega) (by omega) (by omega) (by omega) (by omega), L2 _ (by omega)⟩
  have BACK : gF g1 42 = gF g 42 → Es g g1 6 → gF g2 206 6 = gF g1 206 6 → gA g2 207 = gA g 207 → gF g2 0 10 = gF g2 206 12 → Re Nq g2 n k s f := fun h42 h6 h66 h7 h10 => by
    have Ec1 : Ec g g2 6 18 := fun b hb hb' => by
      obtain ⟨x1, x2, x3⟩ := h6 (b - 6) (by omega)
      rw [show 6 + (b - 6) = b by omega] at x1 x2 x3
      exact ⟨by rw [q1 b (by omega), x1], by rw [q4 b (by omega) (by omega), x2], by rw [q5, x3], W2 b (by omega)⟩
    have Ec2 : Ec g g2 30 188 := fun b hb hb' => by
      refine ⟨?_, A2 b (by omega) (by omega) (by omega) (by omega) (by omega) (by omega) (by omega), L2 b (by omega), W2 b (by omega)⟩
      by_cases c : b = 42
      · rw [c, q1 42 (by omega), h42]
      · exact F2 b (by omega) (by omega) (by omega) c (by omega) (by omega) (by omega)
    exact R.kp2 EL Ec1 Ec2 h7 (A2 208 (by omega) (by omega) (by omega) (by omega) (by omega) (by omega) (by omega)) (A2 210 (by omega) (by omega) (by omega) (by omega) (by omega) (by omega) (by omega)) f3 (by rw [h66, b1]) f9 h10 a1 a2 BO TP
  by_cases c : (dText t L (gA g 207)).1 = true
  · by_cases d : nv (gA g 207 0) < 12
    · obtain ⟨u1, u2, u3, n', k', u4⟩ := y1 c d
      obtain ⟨w1, w2, w3, w4, w5, w6⟩ := z1 c d
      have dl : ∀ q, q < 3 → (dText t L (gA g 207)).2.2 q = gA g 207 q := fun q hq => dText_q hq Gd
      rw [u1, ← w1] at e1
      refine ⟨.inl v, g1, v, g2, e1, e2, ⟨w2, rfl⟩, ?_⟩
      refine door_ok R (n' := n') (k' := k') ?_ EL (W2 6 (by omega)) (W2 30 (by omega)) E30 (by rw [q1 42 (by omega), u3]) (by rw [q1 42 (by omega), p4]) (A2 208 (by omega) (by omega) (by omega) (by omega) (by omega) (by omega) (by omega)) f3 w4 f9 (by rw [q1 0 (by omega), u2, w3]) a1 a2 BO TP ?_ ?_ ?_
      · rw [w5]
        exact u4.keep (fun r hr => ⟨q1 _ (by omega), q4 _ (by omega) (by omega), by rw [q5]⟩)
      · rw [w5, upd_2 _ _ (by omega), dl 1 (by omega)]
      · rw [w5, upd_2 _ _ (by omega), dl 2 (by omega)]
      · intro i h1 _
        rw [w5, upd_2 _ _ (by omega), w6 i h1]
    · have d12 : nv (gA g 207 0) = 12 := by omega
      obtain ⟨u1, u2, u3, u4⟩ := y2 c d12
      obtain ⟨w2, w3, w4, w5⟩ := z2 c d12
      rw [u1] at e1
      exact ⟨.inr eUn, g1, v, g2, e1, e2, ⟨1, by omega, rfl, w2⟩, n, k, s, f, BACK u3 u4 w4 w5 (by rw [q1 0 (by omega), u2, w3])⟩
  · have c' : (dText t L (gA g 207)).1 = false := by simpa using c
    obtain ⟨u1, u2, u3, u4⟩ := y3 c'
    obtain ⟨w2, w3, w4, w5⟩ := z3 c'
    rw [u1] at e1
    exact ⟨.inr eAr, g1, v, g2, e1, e2, ⟨0, by omega, rfl, w2⟩, n, k, s, f, BACK u3 u4 w4 w5 (by rw [q1 0 (by omega), u2, w3])⟩
