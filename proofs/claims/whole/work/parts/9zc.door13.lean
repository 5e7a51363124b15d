variable {Nq : Nat}
/-! ===== the class reads a text of THE DOOR ===== -/
def kTD : Int32 → ab_H → Option (Int32 × ab_H) := fun z25 h26 => ab_jn (κ := Int32 → Option (Int32 × ab_H)) (fun (z27 : Int32) => ab_ck (ab_io h26 192 1 = true) (ab_bd (fX10_acceptD 192 z27 h26) fun h28 => ab_bd (ab_fi h28 192 1 2) fun v29 => some (v29, h28))) fun j30 => ab_jn (κ := Option (Int32 × ab_H)) (j30 (nI 0)) fun j31 => (if z25 = 0 then ab_ck (ab_io h26 192 1 = true) (ab_bd (fX10_isHereD 192 (-1 : Int32) h26) fun v33 => (if v33 = 0 then j31 else j30 (nI 1))) else j31)
theorem kTD_s {g : gG} {t : Nat → Nat} {L Z : Nat} {G : gG} {i : Nat} {f : Int32} {m : Nat → Int32} {n k : Nat} (D : Dq g t L Z G i f m n k) (z : Int32) : ∃ G' i' f', kTD z (gH G) = some (f', gH G') ∧ Dq g t L Z G' i' f' m n k ∧ (f = -1 → z = 0 → kd t L (psn t L i) = 4000 → f' = -1) ∧ (f = -1 → ¬ (z = 0 ∧ kd t L (psn t L i) = 4000) → f' = nI (psn t L i)) ∧ (¬ f = -1 → f' = f) := by
  obtain ⟨G1, e1, i1, f1, D1, _, y1, y2, y3⟩ := D.ac (decide (z = 0 ∧ kd t L (psn t L i) = 4000))
  have ih := dk_ihE D.1 D.2.1 D.2.2.1
  refine ⟨G1, i1, f1, ?_, D1, fun h1 h2 h3 => (y1 h1 (decide_eq_true ⟨h2, h3⟩)).1, fun h1 h2 => y2 h1 (decide_eq_false h2), fun h => (y3 h).1⟩
  have J : (ab_ck (ab_io (gH G) 192 1 = true) (ab_bd (fX10_acceptD 192 (bI (decide (z = 0 ∧ kd t L (psn t L i) = 4000))) (gH G)) fun h28 => ab_bd (ab_fi h28 192 1 2) fun v29 => some (v29, h28))) = some (f1, gH G1) := by
    refine (ck_e (io_192 _)).trans ?_
    refine (bd_e e1).trans ?_
    exact bd_e ((fi_192_2 _).trans (congrArg some D1.2.2.2.1))
  unfold kTD
  refine (jn_e _ _).trans ?_
  refine (jn_e _ _).trans ?_
  by_cases c : z = 0
  · refine (if_pos c).trans ?_
    refine (ck_e (io_192 _)).trans ?_
    refine (bd_e ih).trans ?_
    by_cases d : kd t L (psn t L i) = 4000
    · rw [decide_eq_true (show z = 0 ∧ kd t L (psn t L i) = 4000 from ⟨c, d⟩)] at J
      rw [decide_eq_true d]
      exact (if_neg (show ¬ bI true = 0 by decide)).trans J
    · rw [decide_eq_false (show ¬ (z = 0 ∧ kd t L (psn t L i) = 4000) from fun h => d h.2)] at J
      rw [decide_eq_false d]
      exact (if_pos (bI_0.mpr rfl)).trans J
  · rw [decide_eq_false (show ¬ (z = 0 ∧ kd t L (psn t L i) = 4000) from fun h => c h.1)] at J
    exact (if_neg c).trans J
theorem Dq.l {g : gG} {t : Nat → Nat} {L Z : Nat} {G : gG} {i : Nat} {f v : Int32} {m : Nat → Int32} {n k : Nat} (D : Dq (sF g 192 3 v) t L Z G i f m n k) (w : Int32) : Dq (sF g 192 3 w) t L Z (sF G 192 3 w) i f m n k := by
  obtain ⟨d1, d2, d3, d4, d5, ⟨o1, o2, o3⟩⟩ := D
  refine ⟨⟨d1.1.f (by omega), d1.2⟩, d2, by rw [gF_sF2 _ _ (by omega)]; exact d3, by rw [gF_sF1, upd_2 _ _ (by omega)]; exact d4, d5.es (fun r hr => ⟨gF_sF2 _ _ (by omega), rfl, rfl⟩), fun b h1 h2 h3 => ?_, ⟨?_, by rw [gF_sF1, upd_1, gF_sF1, upd_1]⟩, o3⟩
  · rw [gF_sF2 _ _ h3, o1 b h1 h2 h3, gF_sF2 _ _ h3, gF_sF2 _ _ h3]
  · have := o2.1
    rw [gF_sF1, upd_2 _ _ (by omega)] at this
    rw [gF_sF1, upd_2 _ _ (by omega), gF_sF1, upd_2 _ _ (by omega)]; exact this
theorem dtx_0 {F F' : Nat} {k : Int32 → ab_H → Option (Int32 × ab_H)} {h : ab_H} : fX10_readTextD_35 F 192 k (F' + 1) (nI 0) h = k (nI 0) h := by
  rw [fX10_readTextD_35, if_pos nI_0]
def TD (g : gG) (t : Nat → Nat) (L Z : Nat) (r : DR) (X : Option (Int32 × ab_H)) : Prop := ∃ c' G' i' f' m' n' k', X = some (f', gH G') ∧ Dq (sF g 192 3 c') t L Z G' i' f' m' n' k' ∧ (r.1 = true → f' = -1 ∧ m' = r.2.2 ∧ Gr m' n' k') ∧ (r.1 = false → f' = nI r.2.1 ∧ ¬ f' = -1)
theorem Gr.eq {m : Nat → Int32} {n k n' k' : Nat} (G : Gr m n k) (h3 : m 3 = nI n') (h4 : m 4 = nI k') (hn : n' ≤ 10) (hk : k' ≤ 12) : Gr m n' k' := by
  have e1 : n = n' := by have := G.1; rw [h3, nI_eq (by omega) (by have := G.2.1; omega)] at this; omega
  have e2 : k = k' := by have := G.2.2.1; rw [h4, nI_eq (by omega) (by have := G.2.2.2.2.1; omega)] at this; omega
  rw [← e1, ← e2]; exact G
theorem dtx_loop {g : gG} {t : Nat → Nat} {L Z : Nat} (h14 : gF g 192 1 = nI 14) {F : Nat} (hF : 11000 < F) : ∀ k c i m n kk G Fu, k + c = 14 → k + 2 < Fu → Dq (sF g 192 3 (nI c)) t L Z G i (-1) m n kk → Gr m n kk → TD g t L Z (dLines t L k (psn t L i) m) (fX10_readTextD_35 F 192 kTD Fu (nI 1) (gH G)) := by
  have i1 : ¬ (nI 1 : Int32) = 0 := by decide
  intro k
  induction k with
  | zero =>
    intro c i m n kk G Fu hk hFu D R
    obtain ⟨F', rfl⟩ : ∃ F', Fu = F' + 1 := ⟨Fu - 1, by omega⟩
    have pl := D.pl
    obtain ⟨G1, i2, f1, e1, D1, _, y2, _⟩ := kTD_s D (nI 1)
    have a := y2 rfl (fun h => i1 h.1)
    have f3 : gF G 192 3 = nI c := by rw [D.2.2.2.2.2.2.1.2, gF_sF1, upd_1]
    have fh : gF G 192 1 = nI 14 := by rw [D.2.2.2.2.2.2.1.1, gF_sF1, upd_2 _ _ (by omega), h14]
    refine ⟨_, G1, i2, f1, m, n, kk, ?_, D1, (fun h => by cases h), fun _ => ⟨a, by rw [a]; exact nI_m1 (by omega)⟩⟩
    rw [fX10_readTextD_35]
    refine (if_neg i1).trans ?_
    refine (bd_e ((fi_192_3 _).trans (congrArg some f3))).trans ?_
    refine (bd_e ((fi_192_1 _).trans (congrArg some fh))).trans ?_
    refine (if_neg (fun h => by rw [nI_ltI (by omega) (by omega)] at h; omega)).trans ?_
    exact e1
  | succ k ih =>
    intro c i m n kk G Fu hk hFu D R
    obtain ⟨F', rfl⟩ : ∃ F', Fu = F' + 2 := ⟨Fu - 2, by omega⟩
    have f3 : gF G 192 3 = nI c := by rw [D.2.2.2.2.2.2.1.2, gF_sF1, upd_1]
    have fh : gF G 192 1 = nI 14 := by rw [D.2.2.2.2.2.2.1.1, gF_sF1, upd_2 _ _ (by omega), h14]
    have e3 : nv (m 3) = n := by rw [R.1]; exact nv_nI (by have := R.2.1; omega)
    have e4 : nv (m 4) = kk := by rw [R.2.2.1]; exact nv_nI (by have := R.2.2.2.2.1; omega)
    obtain ⟨G1, i2, f1, m1, n1, k1, e1, D1, r1, r2⟩ := cs_line D R.2.2.2.2.2.2 hF
    have g1 := fun h => dLine_gr (t := t) (L := L) (a := psn t L i) R h
    have f31 : gF G1 192 3 = nI c := by rw [D1.2.2.2.2.2.2.1.2, gF_sF1, upd_1]
    have D2 := D1.l (nI (c + 1))
    have ir := D2.ir
    have h59 := dk_ih D2.1 D2.2.1 D2.2.2.1 (k := 59) (by omega)
    obtain ⟨eg, D3, p3⟩ := D2.go
    have pl2 := D2.pl
    rw [dLines, e3, e4]
    generalize dLine t L (psn t L i) m n kk = r at *
    obtain ⟨ra, rb, rc⟩ := r
    dsimp only at *
    have E : fX10_readTextD_35 F 192 kTD (F' + 2) (nI 1) (gH G) = if f1 = -1 ∧ kd t L (psn t L i2) = 59 then fX10_readTextD_35 F 192 kTD (F' + 1) (nI 1) (gH (sF (sF G1 192 3 (nI (c + 1))) 188 4 (nI (gnx Z i2)))) else kTD (nI 0) (gH (sF G1 192 3 (nI (c + 1)))) := by
      rw [fX10_readTextD_35, if_neg i1]
      refine (bd_e ((fi_192_3 _).trans (congrArg some f3))).trans ?_
      refine (bd_e ((fi_192_1 _).trans (congrArg some fh))).trans ?_
      refine (if_pos (nI_lt (by omega) (by omega))).trans ?_
      refine (ck_e (io_192 _)).trans ?_
      refine (bd_e e1).trans ?_
      refine (bd_e ((fi_192_3 _).trans (congrArg some f31))).trans ?_
      rw [nI_add]
      refine (bd_e (fw_192_3 _ _)).trans ?_
      refine (ck_e (io_192 _)).trans ?_
      refine (bd_e ir).trans ?_
      refine (jn_e _ _).trans ?_
      refine (jn_e _ _).trans ?_
      by_cases cf : f1 = -1
      · rw [decide_eq_true cf]
        refine (if_neg (show ¬ bI true = 0 by decide)).trans ?_
        refine (ck_e (io_192 _)).trans ?_
        refine (bd_e h59).trans ?_
        by_cases ck : kd t L (psn t L i2) = 59
        · rw [if_pos (show (f1 = -1 ∧ kd t L (psn t L i2) = 59) from ⟨cf, ck⟩), decide_eq_true ck]
          refine (if_neg (show ¬ bI true = 0 by decide)).trans ?_
          refine (if_neg i1).trans ?_
          refine (bd_e (fr_192_0 _)).trans ?_
          refine (ck_e (io_188 _)).trans ?_
          exact bd_e eg
        · rw [if_neg (show ¬ (f1 = -1 ∧ kd t L (psn t L i2) = 59) from fun h => ck h.2), decide_eq_false ck]
          refine (if_pos (bI_0.mpr rfl)).trans ?_
          refine (if_pos nI_0).trans ?_
          exact dtx_0
      · rw [if_neg (show ¬ (f1 = -1 ∧ kd t L (psn t L i2) = 59) from fun h => cf h.1), decide_eq_false cf]
        refine (if_pos (bI_0.mpr rfl)).trans ?_
        refine (if_pos nI_0).trans ?_
        exact dtx_0
    rw [E]
    obtain ⟨G4, i4, f4, e5, D4, z1, z2, z3⟩ := kTD_s D2 (nI 0)
    cases ra
    · rw [if_neg (show ¬ false = true by decide)]
      rcases r2 rfl with ⟨a, b⟩ | ⟨a, b, d⟩
      · rw [if_neg (show ¬ (f1 = -1 ∧ kd t L (psn t L i2) = 59) from fun h => b h.1)]
        exact ⟨_, G4, i4, f4, m1, n1, k1, e5, D4, (fun h => by cases h), fun _ => ⟨(z3 b).trans a, by rw [z3 b]; exact b⟩⟩
      · rw [if_neg (show ¬ (f1 = -1 ∧ kd t L (psn t L i2) = 59) from fun h => by omega)]
        have x := z2 a (fun h => by omega)
        exact ⟨_, G4, i4, f4, m1, n1, k1, e5, D4, (fun h => by cases h), fun _ => ⟨by rw [x, b], by rw [x]; exact nI_m1 (by omega)⟩⟩
    · rw [if_pos rfl]
      obtain ⟨a, b, d⟩ := r1 rfl
      obtain ⟨n5, k5, G5⟩ := g1 rfl
      have S1 := D1.2.2.2.2.1
      rw [← d] at G5
      have G6 : Gr m1 n1 k1 := G5.eq S1.2.2.1 S1.2.2.2.1 S1.n10 S1.k12
      rw [← b]
      by_cases c4 : kd t L (psn t L i2) = 4000
      · rw [if_neg (show ¬ (f1 = -1 ∧ kd t L (psn t L i2) = 59) from fun h => by omega), if_pos c4]
        exact ⟨_, G4, i4, f4, m1, n1, k1, e5, D4, fun _ => ⟨z1 a nI_0 c4, d, G6⟩, fun h => by cases h⟩
      · rw [if_neg c4]
        by_cases c5 : kd t L (psn t L i2) = 59
        · rw [if_pos (show (f1 = -1 ∧ kd t L (psn t L i2) = 59) from ⟨a, c5⟩), if_pos c5, ← p3, ← d]
          rw [a] at D3
          exact ih (c + 1) (gnx Z i2) m1 n1 k1 _ (F' + 1) (by omega) (by omega) D3 G6
        · rw [if_neg (show ¬ (f1 = -1 ∧ kd t L (psn t L i2) = 59) from fun h => c5 h.2), if_neg c5]
          have x := z2 a (fun h => c4 h.2)
          exact ⟨_, G4, i4, f4, m1, n1, k1, e5, D4, (fun h => by cases h), fun _ => ⟨x, by rw [x]; exact nI_m1 (by omega)⟩⟩
/-- the store that the reading leaves as it was -/
def bsD (g : gG) (Kd Bg En : Nat → Int32) : gG := sW (ct3 g Kd Bg En) 18 (gw g 6)
theorem cl_textD {g : gG} {t : Nat → Nat} {L : Nat} (T : Tq g t L) (h14 : gF g 192 1 = nI 14) {m : Nat → Int32} {n k : Nat} (S : SR g 6 m n k) {F : Nat} (hF : 11000 < F) : ∃ Kd Bg En Z, TD (bsD g Kd Bg En) t L Z (dText t L m) (fX10_readTextD F 192 (gH g)) := by
  have T2 : Tq (sF (sF g 192 2 (-1)) 192 3 (nI 0)) t L := (T.f (by omega)).f (by omega)
  obtain ⟨Kd, Bg, En, Z, e1, C⟩ := cl_cut T2 hF
  refine ⟨Kd, Bg, En, Z, ?_⟩
  have st := cl_copy (sF (ct3 (sF (sF g 192 2 (-1)) 192 3 (nI 0)) Kd Bg En) 188 4 (nI 0)) (x := 18) (y := 6) st18 isSt6 (by omega)
  have CP := cpS_Cp (sF (ct3 (sF (sF g 192 2 (-1)) 192 3 (nI 0)) Kd Bg En) 188 4 (nI 0)) (x := 18) (y := 6) (by omega)
  have sF0 : ∀ b, b ≠ 188 → b ≠ 192 → gF (sF (ct3 (sF (sF g 192 2 (-1)) 192 3 (nI 0)) Kd Bg En) 188 4 (nI 0)) b = gF g b := fun b h1 h2 => by
    rw [gF_sF2 _ _ h1]
    unfold ct3
    rw [gF_sA, gF_sA, gF_sA, gF_sF2 _ _ h2, gF_sF2 _ _ h2]
  have sA0 : ∀ b, b ≠ 189 → b ≠ 190 → b ≠ 191 → gA (sF (ct3 (sF (sF g 192 2 (-1)) 192 3 (nI 0)) Kd Bg En) 188 4 (nI 0)) b = gA g b := fun b h1 h2 h3 => by
    unfold ct3
    rw [gA_sF, gA_sA2 _ _ h3, gA_sA2 _ _ h2, gA_sA2 _ _ h1, gA_sF, gA_sF]
  have s188 : gF (sF (ct3 (sF (sF g 192 2 (-1)) 192 3 (nI 0)) Kd Bg En) 188 4 (nI 0)) 188 4 = nI 0 := by rw [gF_sF1, upd_1]
  have s192 : gF (sF (ct3 (sF (sF g 192 2 (-1)) 192 3 (nI 0)) Kd Bg En) 188 4 (nI 0)) 192 = upd (upd (gF g 192) 2 (-1)) 3 (nI 0) := by
    rw [gF_sF2 _ _ (by omega)]
    unfold ct3
    rw [gF_sA, gF_sA, gF_sA, gF_sF1, gF_sF1]
  have sB : gA (sF (ct3 (sF (sF g 192 2 (-1)) 192 3 (nI 0)) Kd Bg En) 188 4 (nI 0)) = gA (ct3 g Kd Bg En) := rfl
  have sL : gL (sF (ct3 (sF (sF g 192 2 (-1)) 192 3 (nI 0)) Kd Bg En) 188 4 (nI 0)) = gL g := rfl
  have sw : gw (sF (ct3 (sF (sF g 192 2 (-1)) 192 3 (nI 0)) Kd Bg En) 188 4 (nI 0)) = gw g := rfl
  have sn : gn (sF (ct3 (sF (sF g 192 2 (-1)) 192 3 (nI 0)) Kd Bg En) 188 4 (nI 0)) = gn g := rfl
  have sl : gl (sF (ct3 (sF (sF g 192 2 (-1)) 192 3 (nI 0)) Kd Bg En) 188 4 (nI 0)) = gl g := rfl
  have S1 : SR (sF (ct3 (sF (sF g 192 2 (-1)) 192 3 (nI 0)) Kd Bg En) 188 4 (nI 0)) 6 m n k := S.keep (fun r hr => ⟨sF0 _ (by omega) (by omega), sA0 _ (by omega) (by omega) (by omega), rfl⟩)
  generalize hs : sF (ct3 (sF (sF g 192 2 (-1)) 192 3 (nI 0)) Kd Bg En) 188 4 (nI 0) = s at *
  have S2 := S1.copy st18 CP
  generalize hG : cpS s 18 6 = G at *
  have D : Dq (sF (bsD g Kd Bg En) 192 3 (nI 0)) t L Z G 0 (-1) m n k := by
    refine ⟨⟨⟨?_, T.2.1, fun i hi => ?_⟩, ?_⟩, Nat.zero_le Z, ?_, ?_, S2.c, fun b h1 h2 h3 => ?_, ⟨?_, ?_⟩, fun b h1 h2 => ?_, fun b h1 => ?_, fun b => ?_, ?_, fun b => ?_⟩
    · rw [(CP.1 4 (by omega)).1, sF0 4 (by omega) (by omega)]; exact T.1
    · rw [(CP.1 5 (by omega)).2.1, sA0 5 (by omega) (by omega) (by omega)]; exact T.2.2 i hi
    · rw [(CP.1 189 (by omega)).2.1, (CP.1 190 (by omega)).2.1, (CP.1 191 (by omega)).2.1, sB, ct3_a9, ct3_a0, ct3_a1]; exact C
    · rw [(CP.1 188 (by omega)).1]; exact s188
    · rw [(CP.1 192 (by omega)).1, s192, upd_2 _ _ (by omega), upd_1]
    · rw [(CP.1 b (by omega)).1, sF0 b h2 h3, gF_sF2 _ _ h3]; rfl
    · rw [(CP.1 192 (by omega)).1, s192, upd_2 _ _ (by omega), upd_2 _ _ (by omega), gF_sF1, upd_2 _ _ (by omega)]; rfl
    · rw [(CP.1 192 (by omega)).1, s192, upd_1, gF_sF1, upd_1]
    · rw [(CP.1 b (by omega)).2.1, sB]; rfl
    · rw [(CP.1 b (by omega)).2.2.1, sL]; rfl
    · rw [gw_sF]
      show gw G b = gw (sW (ct3 g Kd Bg En) 18 (gw g 6)) b
      rw [gw_sW]
      by_cases c : b = 18
      · rw [if_pos c, c, CP.2.2.2.2.1, sw]
      · rw [if_neg c]
        have : gw G b = gw g b := by
          by_cases d : b < 18 ∨ 18 + 12 ≤ b
          · rw [(CP.1 b d).2.2.2, sw]
          · rw [← hG, ← sw]
            unfold cpS
            simp only [gw_sA, gw_sF, gw_sL, gw_sW]; rw [if_neg c]
        rw [this]; rfl
    · rw [CP.2.1, sn]; rfl
    · rw [CP.2.2.1, sl]; rfl
  have h14' : gF (bsD g Kd Bg En) 192 1 = nI 14 := h14
  have hE := dk_ihE D.1 D.2.1 D.2.2.1
  have st2 : fX1_startText 192 (gH s) = some (gH G) := by
    unfold fX1_startText
    refine (bd_e (fr_192_5 _)).trans ?_
    refine (bd_e (fr_192_4 _)).trans ?_
    refine (ck_e (io_s _ st18)).trans ?_
    exact bd_e st
  have p0 : psn t L 0 = rn (bk t) L 0 := rfl
  have R : Gr m n k := ⟨S.2.2.1, S.c.n10, S.2.2.2.1, S.2.1, S.c.k12, S.w, S.i⟩
  obtain ⟨F', rfl⟩ : ∃ F', F = F' + 1 := ⟨F - 1, by omega⟩
  have HEAD : ∀ {X}, (∀ b, b = bI (decide (kd t L (psn t L 0) = 4000)) → (if b = 0 then fX10_readTextD_35 (F' + 1) 192 kTD (F' + 1) (nI 1) (gH G) else fX10_readTextD_35 (F' + 1) 192 kTD (F' + 1) (nI 0) (gH G)) = X) → fX10_readTextD (F' + 1) 192 (gH g) = X := fun {X} hX => by
    unfold fX10_readTextD
    refine (bd_e (fw_192_2 _ _)).trans ?_
    refine (bd_e (fw_192_3 _ _)).trans ?_
    refine (bd_e (fr_192_0 _)).trans ?_
    refine (ck_e (io_188 _)).trans ?_
    refine (bd_e e1).trans ?_
    refine (ck_e (io_192 _)).trans ?_
    refine (bd_e st2).trans ?_
    refine (ck_e (io_192 _)).trans ?_
    refine (bd_e hE).trans ?_
    exact hX _ rfl
  unfold dText
  rw [← p0]
  by_cases k4 : kd t L (psn t L 0) = 4000
  · rw [if_pos k4]
    obtain ⟨G4, i4, f4, e5, D4, z1, z2, z3⟩ := kTD_s D (nI 0)
    refine ⟨_, G4, i4, f4, m, n, k, HEAD (fun b hb => ?_), D4, fun _ => ⟨z1 rfl nI_0 k4, rfl, R⟩, fun h => by cases h⟩
    rw [hb, decide_eq_true k4]
    refine (if_neg (show ¬ bI true = 0 by decide)).trans ?_
    exact dtx_0.trans e5
  · rw [if_neg k4]
    obtain ⟨c', G', i', f', m', n', k', e5, Q⟩ := dtx_loop (g := bsD g Kd Bg En) h14' hF 14 0 0 m n k G (F' + 1) (by omega) (by omega) D R
    refine ⟨c', G', i', f', m', n', k', HEAD (fun b hb => ?_), Q⟩
    rw [hb, decide_eq_false k4]
    refine (if_pos (bI_0.mpr rfl)).trans ?_
    exact e5
