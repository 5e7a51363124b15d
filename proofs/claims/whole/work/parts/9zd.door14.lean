variable {Nq : Nat}
/-! ===== call: door ===== -/
theorem flW_q {w p : Nat} : ∀ k j i m q, (q < 72 + 10 * p) → flW w p k j i m q = m q
  | 0, _, _, _, _, _ => rfl
  | k + 1, j, i, m, q, h => by
    rw [flW]
    split
    · exact flW_q k j (i + 1) m q h
    · rw [flW_q k (j + 1) (i + 1) _ q h, upd_2 _ _ (by omega)]
theorem dWl_q {t : Nat → Nat} {L n p q : Nat} (hq : q < 3) : ∀ k c w j m, (dWl t L n p k c w j m).2.2 q = m q
  | 0, _, _, _, _ => rfl
  | k + 1, c, w, j, m => by
    rw [dWl]
    split
    · split
      · rw [dWl_q hq k _ _ _ _, upd_2 _ _ (by omega)]
      · show flW _ _ _ _ _ _ q = _
        rw [flW_q _ _ _ _ _ (by omega), upd_2 _ _ (by omega)]
    · rfl
theorem dKl_q {t : Nat → Nat} {L n p q : Nat} (hq : q < 3) : ∀ k c m, (dKl t L n p k c m).2.2 q = m q
  | 0, _, _ => rfl
  | k + 1, c, m => by
    rw [dKl]
    split
    · split
      · rw [dKl_q hq k _ _, upd_2 _ _ (by omega)]
      · show upd _ _ _ q = _
        rw [upd_2 _ _ (by omega)]
    · rfl
theorem dSet_q {t : Nat → Nat} {L a hi q : Nat} {m : Nat → Int32} {lo : Int32} {r : Nat} (hq : q < 3) (hr : 3 < r) : (dSet t L a m lo hi r).2.2 q = m q := by
  unfold dSet
  split
  · show upd _ _ _ q = _
    rw [upd_2 _ _ (by omega)]
  · rfl
theorem dLine_q {t : Nat → Nat} {L a n k q : Nat} {m : Nat → Int32} (hq : q < 3) (h10 : n ≤ 10) : (dLine t L a m n k).2.2 q = m q := by
  unfold dLine
  split
  · unfold dPers
    split
    · rfl
    · split
      · split
        · exact adP_lo m _ _ (by omega) (by omega)
        · rfl
      · rfl
  split
  · unfold dWish
    split
    · exact dWl_q hq _ _ _ _ _
    · rfl
  split
  · unfold dWed
    split
    · split
      · show upd (upd _ _ _) _ _ q = _
        rw [upd_2 _ _ (by omega), upd_2 _ _ (by omega)]
      · rfl
    · rfl
  split
  · unfold dKnows
    split
    · exact dKl_q hq _ _ _
    · rfl
  split
  · exact dSet_q hq (by omega)
  split
  · exact dSet_q hq (by omega)
  split
  · exact dSet_q hq (by omega)
  · rfl
theorem dLines_q {t : Nat → Nat} {L q : Nat} (hq : q < 3) : ∀ k a m, Dgd m → (dLines t L k a m).2.2 q = m q
  | 0, _, _, _ => rfl
  | k + 1, a, m, G => by
    have e := dLine_q (t := t) (L := L) (a := a) (n := nv (m 3)) (k := nv (m 4)) (m := m) hq G.v.2.1
    have g := fun h => dLine_gr (t := t) (L := L) (a := a) G.v h
    rw [dLines]
    generalize dLine t L a m (nv (m 3)) (nv (m 4)) = r at *
    by_cases c : r.1 = true
    · rw [if_pos c]
      split
      · exact e
      · split
        · rw [dLines_q hq k _ _ (g c)]; exact e
        · rfl
    · rw [if_neg c]
theorem dText_q {t : Nat → Nat} {L q : Nat} {m : Nat → Int32} (hq : q < 3) (G : Dgd m) : (dText t L m).2.2 q = m q := by
  unfold dText
  split
  · rfl
  · exact dLines_q hq _ _ _ G
/-- the reference -/
theorem rf_door {g : gG} {t : Nat → Nat} {L : Nat} (h8 : gF g 206 8 = nI L) (hL : L ≤ 400) (ht : ∀ i, i < L → gA g 211 i = nI (t i) ∧ t i < 256) (G : Dgd (gA g 207)) (hq : nv (gA g 207 0) ≤ 12) {F : Nat} (hF : 11000 < F) : ∃ v g2, fX12_door F 206 (gH g) = some (v, gH g2) ∧ (∀ b, b ≠ 206 → gF g2 b = gF g b) ∧ (∀ j, j = 3 ∨ j = 15 ∨ j = 16 → gF g2 206 j = gF g 206 j) ∧ gF g2 206 8 = nI 0 ∧ (∀ b, b ≠ 207 → b ≠ 209 → gA g2 b = gA g b) ∧ gL g2 = gL g ∧ gw g2 = gw g ∧ gn g2 = gn g ∧ gl g2 = gl g ∧
    ((dText t L (gA g 207)).1 = true → nv (gA g 207 0) < 12 → v = gA g 207 0 + nI 1 ∧ gF g2 206 0 = nI 0 ∧ gF g2 206 12 = -1 ∧ gF g2 206 6 = nI 0 ∧ gA g2 207 = upd (dText t L (gA g 207)).2.2 0 (gA g 207 0 + nI 1) ∧ ∀ i, 584 ≤ i → (dText t L (gA g 207)).2.2 i = gA g 207 i) ∧
    ((dText t L (gA g 207)).1 = true → nv (gA g 207 0) = 12 → gF g2 206 0 = nI 2 ∧ gF g2 206 12 = -1 ∧ gF g2 206 6 = gF g 206 6 ∧ gA g2 207 = gA g 207) ∧
    ((dText t L (gA g 207)).1 = false → gF g2 206 0 = nI 1 ∧ gF g2 206 12 = nI (dText t L (gA g 207)).2.1 ∧ gF g2 206 6 = gF g 206 6 ∧ gA g2 207 = gA g 207) := by
  have pa := rf_putsAside g hF
  obtain ⟨ga, hga⟩ : ∃ ga, ga = sA g 209 (cp584 (gA g 207) (gA g 209)) := ⟨_, rfl⟩
  rw [← hga] at pa
  have aF : gF ga = gF g := by rw [hga]; rfl
  have aA : ∀ b, b ≠ 209 → gA ga b = gA g b := fun b hb => by rw [hga, gA_sA2 _ _ hb]
  have a9 : gA ga 209 = cp584 (gA g 207) (gA g 209) := by rw [hga, gA_sA1]
  have aL : gL ga = gL g := by rw [hga]; rfl
  have aw : gw ga = gw g := by rw [hga]; rfl
  have an : gn ga = gn g := by rw [hga]; rfl
  have al : gl ga = gl g := by rw [hga]; rfl
  clear hga
  have bg := rf_begins ga
  obtain ⟨gb, hgb⟩ : ∃ gb, gb = bgG ga (gF ga 206 8) := ⟨_, rfl⟩
  rw [← hgb] at bg
  have bF : ∀ b, b ≠ 206 → gF gb b = gF g b := fun b hb => by rw [hgb]; unfold bgG; rw [gF_sF2 _ _ hb, gF_sF2 _ _ hb, gF_sF2 _ _ hb, aF]
  have b9 : gF gb 206 9 = -1 := by rw [hgb]; unfold bgG; rw [gF_sF1, upd_2 _ _ (by omega), gF_sF1, upd_2 _ _ (by omega), gF_sF1, upd_1]
  have b10 : gF gb 206 10 = nI L := by rw [hgb]; unfold bgG; rw [gF_sF1, upd_2 _ _ (by omega), gF_sF1, upd_1, aF, h8]
  have b8 : gF gb 206 8 = nI 0 := by rw [hgb]; unfold bgG; rw [gF_sF1, upd_1]
  have bo : ∀ j, j ≠ 8 → j ≠ 9 → j ≠ 10 → gF gb 206 j = gF g 206 j := fun j h1 h2 h3 => by rw [hgb]; unfold bgG; rw [gF_sF1, upd_2 _ _ h1, gF_sF1, upd_2 _ _ h3, gF_sF1, upd_2 _ _ h2, aF]
  have bA : gA gb = gA ga := by rw [hgb]; rfl
  have bL : gL gb = gL g := by rw [hgb, ← aL]; rfl
  have bw : gw gb = gw g := by rw [hgb, ← aw]; rfl
  have bn : gn gb = gn g := by rw [hgb, ← an]; rfl
  have bl : gl gb = gl g := by rw [hgb, ← al]; rfl
  clear hgb
  have m7 : gA gb 207 = gA g 207 := by rw [bA, aA 207 (by omega)]
  have H : Ld gb t L := ⟨b10, hL, fun i hi => (ht i hi).2, b9, fun k hk => by rw [bA, aA 211 (by omega)]; exact (ht k hk).1⟩
  obtain ⟨n', a', f', m', e3, c1, c2, c3⟩ := rf_readD H hF (gF ga 206 17) (gF ga 206 18) G
  have eb : td gb (gA g 207) (nI 0) (-1) (gF ga 206 17) (gF ga 206 18) = tx gb (nI 0) (-1) (nI 0) (gF ga 206 17) (gF ga 206 18) := by
    unfold td; rw [← m7, sA_id]
  rw [eb] at e3
  have dq := dText_q (t := t) (L := L) (q := 0) (by omega) G
  generalize gF ga 206 17 = u at *
  generalize gF ga 206 18 = v at *
  generalize dText t L (gA g 207) = r at *
  obtain ⟨r1, r2, r3⟩ := r
  dsimp only at *
  have HEAD : ∀ {X}, (∀ z, z = (if f' = -1 then (if m' 0 = nI 12 then nI 2 else nI 0) else nI 1) → (ab_bd (ab_fw (gH (td gb m' a' f' u v)) 206 12 0 (.int z)) fun h6 => ab_bd (ab_fi h6 206 12 0) fun v7 => (if v7 ≤ 0 then ab_bd (ab_fr h6 206 12 1) fun v9 => ab_bd (ab_ia 0 h6 v9 (nI 0)) fun v10 => ab_bd (ab_iw 0 h6 v9 (nI 0) (v10 + (nI 1))) fun h11 => ab_bd (ab_fw h11 206 12 6 (.int (nI 0))) fun h12 => ab_bd (ab_fr h12 206 12 1) fun v13 => ab_bd (ab_ia 0 h12 v13 (nI 0)) fun v14 => some (v14, h12) else ab_ck (ab_io h6 206 12 = true) (ab_bd (fX12_comesBack F 206 h6) fun h15 => some (nI 0, h15)))) = X) → fX12_door F 206 (gH g) = X := fun {X} hX => by
    unfold fX12_door
    refine (ck_e (io_206 _)).trans ?_
    refine (bd_e pa).trans ?_
    refine (ck_e (io_206 _)).trans ?_
    refine (bd_e bg).trans ?_
    refine (ck_e (io_206 _)).trans ?_
    refine (bd_e e3).trans ?_
    refine (bd_e (td_f12 _ _ _ _ _ _)).trans ?_
    refine (jn_e _ _).trans ?_
    by_cases c : f' = -1
    · refine (if_pos c).trans ?_
      refine (bd_e (fr_206_1 _)).trans ?_
      refine (bd_e (td_ia _ _ _ _ _ _ (by omega))).trans ?_
      by_cases d : m' 0 = nI 12
      · refine (if_pos d).trans ?_
        exact hX _ (by rw [if_pos c, if_pos d])
      · refine (if_neg d).trans ?_
        exact hX _ (by rw [if_pos c, if_neg d])
    · refine (if_neg c).trans ?_
      exact hX _ (by rw [if_neg c])
  have tF : ∀ b, b ≠ 206 → gF (td gb m' a' f' u v) b = gF g b := fun b hb => by unfold td; rw [tfx _ _ _ _ _ _ hb, gF_sA, bF b hb]
  have to : ∀ j, j ≠ 8 → j ≠ 9 → j ≠ 10 → j ≠ 11 → j ≠ 12 → j ≠ 13 → j ≠ 17 → j ≠ 18 → gF (td gb m' a' f' u v) 206 j = gF g 206 j := fun j h1 h2 h3 h4 h5 h6 h7 h9 => by unfold td; rw [tfo _ _ _ _ _ _ (by omega), gF_sA, bo j h1 h2 h3]
  have t8 : gF (td gb m' a' f' u v) 206 8 = nI 0 := by unfold td; rw [tfo _ _ _ _ _ _ (by omega), gF_sA, b8]
  have t12 : gF (td gb m' a' f' u v) 206 12 = f' := by unfold td; exact tf12 ..
  have tA : ∀ b, b ≠ 207 → b ≠ 209 → gA (td gb m' a' f' u v) b = gA g b := fun b h7 h9 => by show gA (sA gb 207 m') b = _; rw [gA_sA2 _ _ h7, bA, aA b h9]
  have t9 : gA (td gb m' a' f' u v) 209 = cp584 (gA g 207) (gA g 209) := by show gA (sA gb 207 m') 209 = _; rw [gA_sA2 _ _ (by omega), bA, a9]
  have t7 : gA (td gb m' a' f' u v) 207 = m' := td_m ..
  have tL : gL (td gb m' a' f' u v) = gL g := by rw [← bL]; rfl
  have tw : gw (td gb m' a' f' u v) = gw g := by rw [← bw]; rfl
  have tn : gn (td gb m' a' f' u v) = gn g := by rw [← bn]; rfl
  have tl : gl (td gb m' a' f' u v) = gl g := by rw [← bl]; rfl
  generalize td gb m' a' f' u v = gt at *
  have BACK : ∀ z : Int32, ¬ z ≤ 0 → (ab_bd (ab_fw (gH gt) 206 12 0 (.int z)) fun h6 => ab_bd (ab_fi h6 206 12 0) fun v7 => (if v7 ≤ 0 then ab_bd (ab_fr h6 206 12 1) fun v9 => ab_bd (ab_ia 0 h6 v9 (nI 0)) fun v10 => ab_bd (ab_iw 0 h6 v9 (nI 0) (v10 + (nI 1))) fun h11 => ab_bd (ab_fw h11 206 12 6 (.int (nI 0))) fun h12 => ab_bd (ab_fr h12 206 12 1) fun v13 => ab_bd (ab_ia 0 h12 v13 (nI 0)) fun v14 => some (v14, h12) else ab_ck (ab_io h6 206 12 = true) (ab_bd (fX12_comesBack F 206 h6) fun h15 => some (nI 0, h15)))) = some (nI 0, gH (sA (sF gt 206 0 z) 207 (gA g 207))) := fun z hz => by
    refine (bd_e (fw_206_0 _ _)).trans ?_
    refine (bd_e ((fi_206_0 _).trans (congrArg some (show gF (sF gt 206 0 z) 206 0 = z by rw [gF_sF1, upd_1])))).trans ?_
    refine (if_neg hz).trans ?_
    refine (ck_e (io_206 _)).trans ?_
    have cb := rf_comesBack (sF gt 206 0 z) hF
    have e : cp584 (gA (sF gt 206 0 z) 209) (gA (sF gt 206 0 z) 207) = gA g 207 := by
      funext q
      rw [gA_sF, gA_sF, t9, t7]
      unfold cp584
      by_cases c : q < 584
      · rw [if_pos c, if_pos c]
      · rw [if_neg c, c1 q (by omega)]
    rw [e] at cb
    exact bd_e cb
  have FAIL : ∀ z : Int32, ¬ z ≤ 0 → z = (if f' = -1 then (if m' 0 = nI 12 then nI 2 else nI 0) else nI 1) → fX12_door F 206 (gH g) = some (nI 0, gH (sA (sF gt 206 0 z) 207 (gA g 207))) := fun z hz h => HEAD (fun z' hz' => by rw [hz', ← h]; exact BACK z hz)
  have oF : ∀ z b, b ≠ 206 → gF (sA (sF gt 206 0 z) 207 (gA g 207)) b = gF g b := fun z b hb => by rw [gF_sA, gF_sF2 _ _ hb, tF b hb]
  have oj : ∀ z j, j ≠ 0 → gF (sA (sF gt 206 0 z) 207 (gA g 207)) 206 j = gF gt 206 j := fun z j hj => by rw [gF_sA, gF_sF1, upd_2 _ _ hj]
  have oA : ∀ z b, b ≠ 207 → b ≠ 209 → gA (sA (sF gt 206 0 z) 207 (gA g 207)) b = gA g b := fun z b h7 h9 => by rw [gA_sA2 _ _ h7, gA_sF, tA b h7 h9]
  cases r1
  · obtain ⟨d1, d2⟩ := c3 rfl
    refine ⟨nI 0, _, FAIL (nI 1) (by decide) (by rw [if_neg d2]), oF _, fun j hj => (oj _ j (by omega)).trans (to j (by omega) (by omega) (by omega) (by omega) (by omega) (by omega) (by omega) (by omega)), (oj _ 8 (by omega)).trans t8, oA _, tL, tw, tn, tl, (fun h => by cases h), (fun h => by cases h), fun _ => ⟨?_, ?_, ?_, ?_⟩⟩
    · rw [gF_sA, gF_sF1, upd_1]
    · rw [oj _ 12 (by omega), t12, d1]
    · rw [oj _ 6 (by omega)]; exact to 6 (by omega) (by omega) (by omega) (by omega) (by omega) (by omega) (by omega) (by omega)
    · rw [gA_sA1]
  · obtain ⟨d1, d2⟩ := c2 rfl
    have m0 : m' 0 = nI (nv (gA g 207 0)) := by rw [d2, dq, nI_nv]
    by_cases c : nv (gA g 207 0) = 12
    · refine ⟨nI 0, _, FAIL (nI 2) (by decide) (by rw [if_pos d1, if_pos (by rw [m0, c])]), oF _, fun j hj => (oj _ j (by omega)).trans (to j (by omega) (by omega) (by omega) (by omega) (by omega) (by omega) (by omega) (by omega)), (oj _ 8 (by omega)).trans t8, oA _, tL, tw, tn, tl, (fun _ h => by omega), fun _ _ => ⟨?_, ?_, ?_, ?_⟩, (fun h => by cases h)⟩
      · rw [gF_sA, gF_sF1, upd_1]
      · rw [oj _ 12 (by omega), t12, d1]
      · rw [oj _ 6 (by omega)]; exact to 6 (by omega) (by omega) (by omega) (by omega) (by omega) (by omega) (by omega) (by omega)
      · rw [gA_sA1]
    · have n12 : ¬ m' 0 = nI 12 := fun h => by rw [m0, nI_eq (by omega) (by omega)] at h; exact c h
      have m0' : m' 0 = gA g 207 0 := by rw [d2, dq]
      refine ⟨gA g 207 0 + nI 1, sF (sA (sF gt 206 0 (nI 0)) 207 (upd m' 0 (gA g 207 0 + nI 1))) 206 6 (nI 0), HEAD (fun z hz => ?_), fun b hb => ?_, fun j hj => ?_, ?_, fun b h7 h9 => ?_, tL, tw, tn, tl, fun _ _ => ⟨rfl, ?_, ?_, ?_, ?_, fun i hi => ?_⟩, (fun _ h => absurd h c), (fun h => by cases h)⟩
      · rw [if_pos d1, if_neg n12] at hz
        rw [hz]
        refine (bd_e (fw_206_0 _ _)).trans ?_
        refine (bd_e ((fi_206_0 _).trans (congrArg some (show gF (sF gt 206 0 (nI 0)) 206 0 = nI 0 by rw [gF_sF1, upd_1])))).trans ?_
        refine (if_pos (by decide)).trans ?_
        refine (bd_e (fr_206_1 _)).trans ?_
        refine (bd_e ((ia_207 _ (by omega)).trans (congrArg some (show gA (sF gt 206 0 (nI 0)) 207 0 = gA g 207 0 by rw [gA_sF, t7, m0'])))).trans ?_
        refine (bd_e (iw_207 _ _ (by omega))).trans ?_
        rw [gA_sF, t7]
        refine (bd_e (fw_206_6 _ _)).trans ?_
        refine (bd_e (fr_206_1 _)).trans ?_
        refine (bd_e ((ia_207 _ (by omega)).trans (congrArg some (show gA (sF (sA (sF gt 206 0 (nI 0)) 207 (upd m' 0 (gA g 207 0 + nI 1))) 206 6 (nI 0)) 207 0 = gA g 207 0 + nI 1 by rw [gA_sF, gA_sA1, upd_1])))).trans ?_
        rfl
      · rw [gF_sF2 _ _ hb, gF_sA, gF_sF2 _ _ hb, tF b hb]
      · rw [gF_sF1, upd_2 _ _ (by omega), gF_sA, gF_sF1, upd_2 _ _ (by omega)]; exact to j (by omega) (by omega) (by omega) (by omega) (by omega) (by omega) (by omega) (by omega)
      · rw [gF_sF1, upd_2 _ _ (by omega), gF_sA, gF_sF1, upd_2 _ _ (by omega), t8]
      · rw [gA_sF, gA_sA2 _ _ h7, gA_sF, tA b h7 h9]
      · rw [gF_sF1, upd_2 _ _ (by omega), gF_sA, gF_sF1, upd_1]
      · rw [gF_sF1, upd_2 _ _ (by omega), gF_sA, gF_sF1, upd_2 _ _ (by omega), t12, d1]
      · rw [gF_sF1, upd_1]
      · rw [gA_sF, gA_sA1, d2]
      · rw [← d2]; exact c1 i hi
