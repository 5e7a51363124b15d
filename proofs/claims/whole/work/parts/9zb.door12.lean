variable {Nq : Nat}
/-! ===== the class: settings, a LINE ===== -/
theorem okN_s {t : Nat → Nat} {L a hi : Nat} {lo : Int32} (h : hi ≤ 100) : okN lo (nI hi) (nmb t L a) = decide (nmb t L a ≤ hi ∧ ¬ nI (nmb t L a) < lo) := by
  have nl := nmb_lt (t := t) (L := L) (a := a)
  generalize nmb t L a = q at *
  unfold okN
  refine decide_eq_decide.mpr ⟨fun h => ?_, fun h => ⟨by omega, h.2, nI_le h.1 (by omega)⟩⟩
  have h3 := h.2.2
  rw [nI_leI (by omega) (by omega)] at h3
  exact ⟨h3, h.2.1⟩
theorem cl_maxH (m : Nat → Int32) (n : Nat) {k : Nat} (hk : k ≤ 12) (h : ab_H) : fJ9_max_7cf53 (nI 1) (mLst m n k + nI 1) h = some (loH m n k) := by
  unfold fJ9_max_7cf53
  rcases loH_c m n hk with ⟨a, b⟩ | ⟨j, hj, a, b⟩
  · rw [a, b]; exact if_neg (by decide)
  · rw [a, b, nI_add]
    by_cases c : 0 < j
    · exact if_pos (nI_lt (by omega) (by omega))
    · have : j = 0 := by omega
      subst this
      exact if_neg (by decide)
/-- what readSetting does behind the word -/
def kSt (F : Nat) (v2 : Int32) (h4 : ab_H) : Option ab_H := ab_jn (κ := Int32 → Option ab_H) (fun (z7 : Int32) => ab_jn (κ := Int32 → Option ab_H) (fun (z8 : Int32) => ab_jn (κ := Int32 → Option ab_H) (fun (z9 : Int32) => ab_ck (ab_io h4 192 1 = true) (ab_bd (fX1_readNumber F 192 z8 z9 h4) fun v10 => ab_ck (ab_io v10.2 192 1 = true) (ab_bd (fX10_isRightD 192 v10.2) fun v11 => (if v11 = 0 then some v10.2 else (if z7 = 0 then (if v2 = (nI 1005) then ab_bd (ab_fr v10.2 192 1 5) fun v15 => ab_bd (ab_fw v10.2 v15 8 3 (.int v10.1)) fun h16 => some h16 else ab_bd (ab_fr v10.2 192 1 5) fun v17 => ab_bd (ab_fw v10.2 v17 8 4 (.int v10.1)) fun h18 => some h18) else ab_bd (ab_fr v10.2 192 1 5) fun v19 => ab_bd (ab_fw v10.2 v19 8 1 (.int v10.1)) fun h20 => some h20))))) fun j21 => (if z7 = 0 then j21 (nI 100) else j21 (nI 12))) fun j23 => (if z7 = 0 then j23 (nI 0) else ab_bd (ab_fr h4 192 1 5) fun v25 => ab_ck (ab_io h4 v25 8 = true) (ab_bd (fX8_lastTakenHook F v25 h4) fun v26 => ab_bd (fJ9_max_7cf53 (nI 1) (v26 + (nI 1)) h4) fun v27 => j23 v27))) fun j28 => (if v2 = (nI 1004) then j28 (nI 1) else j28 (nI 0))
theorem rdS {F : Nat} {G : gG} {v2 : Int32} (e : fX0_kindHere 188 (gH G) = some v2) : fX1_readSetting F 192 (gH G) = ab_ck (ab_io (gH G) 192 1 = true) (ab_bd (fX10_acceptD 192 (bI (decide (v2 = nI 1004 ∨ v2 = nI 1005 ∨ v2 = nI 1006))) (gH G)) fun h4 => ab_ck (ab_io h4 192 1 = true) (ab_bd (fX10_isRightD 192 h4) fun v5 => (if v5 = 0 then some h4 else kSt F v2 h4))) := by
  unfold fX1_readSetting
  refine (bd_e (fr_192_0 _)).trans ?_
  refine (ck_e (io_188 _)).trans ?_
  refine (bd_e e).trans ?_
  refine (jn_e _ _).trans ?_
  refine (jn_e _ _).trans ?_
  by_cases c4 : v2 = nI 1004
  · rw [decide_eq_true (show v2 = nI 1004 ∨ v2 = nI 1005 ∨ v2 = nI 1006 from Or.inl c4)]
    exact if_pos c4
  · refine (if_neg c4).trans ?_
    by_cases c5 : v2 = nI 1005
    · rw [decide_eq_true (show v2 = nI 1004 ∨ v2 = nI 1005 ∨ v2 = nI 1006 from Or.inr (Or.inl c5))]
      exact if_pos c5
    · refine (if_neg c5).trans ?_
      by_cases c6 : v2 = nI 1006
      · rw [decide_eq_true (show v2 = nI 1004 ∨ v2 = nI 1005 ∨ v2 = nI 1006 from Or.inr (Or.inr c6))]
        exact if_pos c6
      · rw [decide_eq_false (show ¬ (v2 = nI 1004 ∨ v2 = nI 1005 ∨ v2 = nI 1006) from fun h => by rcases h with h | h | h <;> contradiction)]
        exact if_neg c6
theorem kSt_s {g : gG} {t : Nat → Nat} {L Z : Nat} {G : gG} {i : Nat} {m : Nat → Int32} {n k : Nat} (D : Dq g t L Z G i (-1) m n k) {F : Nat} (hF : 11000 < F) {lo : Int32} (h0 : (-1 : Int32) < lo) {hi q : Nat} (h100 : hi ≤ 100) (W : Int32 → ab_H → Option ab_H) (hW : ∀ G' i' f', Dq g t L Z G' i' f' m n k → nmb t L (psn t L i) ≤ hi → ¬ nI (nmb t L (psn t L i)) < lo → ∃ G'' k'', W (nI (nmb t L (psn t L i))) (gH G') = some (gH G'') ∧ Dq g t L Z G'' i' f' (upd m q (nI (nmb t L (psn t L i)))) n k'') : CL g t L Z (if nmb t L (psn t L i) ≤ hi ∧ ¬ nI (nmb t L (psn t L i)) < lo then (true, nxt t L (psn t L i), upd m q (nI (nmb t L (psn t L i)))) else (false, psn t L i, m)) (ab_ck (ab_io (gH G) 192 1 = true) (ab_bd (fX1_readNumber F 192 lo (nI hi) (gH G)) fun v10 => ab_ck (ab_io v10.2 192 1 = true) (ab_bd (fX10_isRightD 192 v10.2) fun v11 => (if v11 = 0 then some v10.2 else W v10.1 v10.2)))) := by
  have pl := D.pl
  obtain ⟨G1, e1, i1, f1, D1, _, y1, y2, y3⟩ := D.rn (hi := nI hi) h0 hF
  rw [okN_s h100] at y1 y2
  have ir := D1.ir
  by_cases c : nmb t L (psn t L i) ≤ hi ∧ ¬ nI (nmb t L (psn t L i)) < lo
  · rw [if_pos c]
    obtain ⟨a1, a2, _⟩ := y1 rfl (decide_eq_true c)
    obtain ⟨G2, k2, e2, D2⟩ := hW G1 i1 f1 D1 c.1 c.2
    have kz : kI (nmb t L (psn t L i)) = nI (nmb t L (psn t L i)) := by unfold kI; rw [if_neg (by omega)]
    refine CL.ok (G' := G2) ?_ D2 a1 a2
    refine (ck_e (io_192 _)).trans ?_
    refine (bd_e e1).trans ?_
    refine (ck_e (io_192 _)).trans ?_
    refine (bd_e ir).trans ?_
    rw [decide_eq_true a1]
    refine (if_neg (show ¬ bI true = 0 by decide)).trans ?_
    rw [kz]; exact e2
  · rw [if_neg c]
    have a1 := y2 rfl (decide_eq_false c)
    have nf : ¬ f1 = -1 := by rw [a1]; exact nI_m1 (by omega)
    refine CL.no (G' := G1) ?_ D1 a1 (by omega)
    refine (ck_e (io_192 _)).trans ?_
    refine (bd_e e1).trans ?_
    refine (ck_e (io_192 _)).trans ?_
    refine (bd_e ir).trans ?_
    rw [decide_eq_false nf]
    exact if_pos (bI_0.mpr rfl)
theorem cs_sett {g : gG} {t : Nat → Nat} {L Z : Nat} {G : gG} {i : Nat} {m : Nat → Int32} {n k : Nat} (D : Dq g t L Z G i (-1) m n k) {F : Nat} (hF : 11000 < F) : CL g t L Z (if kd t L (psn t L i) = 1004 then dSet t L (psn t L i) m (loH m n k) 12 4 else if kd t L (psn t L i) = 1005 then dSet t L (psn t L i) m (nI 0) 100 6 else if kd t L (psn t L i) = 1006 then dSet t L (psn t L i) m (nI 0) 100 7 else (false, psn t L i, m)) (fX1_readSetting F 192 (gH G)) := by
  have pl := D.pl
  have hbt : ∀ i, i < L → t i < 256 := fun i hi => (D.1.1.2.2 i hi).2
  have kl := kd_lt1 (t := t) (L := L) (a := psn t L i) hbt
  rw [rdS (F := F) (dk_kh D.1 D.2.1 D.2.2.1)]
  have K4 := kI_eq (m := 1004) kl (by omega)
  have K5 := kI_eq (m := 1005) kl (by omega)
  have K6 := kI_eq (m := 1006) kl (by omega)
  obtain ⟨G1, e1, i1, f1, D1, _, y1, y2, y3⟩ := D.ac (decide (kI (kd t L (psn t L i)) = nI 1004 ∨ kI (kd t L (psn t L i)) = nI 1005 ∨ kI (kd t L (psn t L i)) = nI 1006))
  have ir := D1.ir
  by_cases c : kI (kd t L (psn t L i)) = nI 1004 ∨ kI (kd t L (psn t L i)) = nI 1005 ∨ kI (kd t L (psn t L i)) = nI 1006
  · obtain ⟨a1, a2, _⟩ := y1 rfl (decide_eq_true c)
    rw [decide_eq_true a1] at ir
    have E : (ab_ck (ab_io (gH G) 192 1 = true) (ab_bd (fX10_acceptD 192 (bI (decide (kI (kd t L (psn t L i)) = nI 1004 ∨ kI (kd t L (psn t L i)) = nI 1005 ∨ kI (kd t L (psn t L i)) = nI 1006))) (gH G)) fun h4 => ab_ck (ab_io h4 192 1 = true) (ab_bd (fX10_isRightD 192 h4) fun v5 => (if v5 = 0 then some h4 else kSt F (kI (kd t L (psn t L i))) h4)))) = kSt F (kI (kd t L (psn t L i))) (gH G1) := by
      refine (ck_e (io_192 _)).trans ?_
      refine (bd_e e1).trans ?_
      refine (ck_e (io_192 _)).trans ?_
      refine (bd_e ir).trans ?_
      exact if_neg (show ¬ bI true = 0 by decide)
    rw [E]
    rw [a1] at D1
    unfold dSet
    rw [← a2]
    have h12 := D1.2.2.2.2.1.k12
    by_cases c4 : kd t L (psn t L i) = 1004
    · rw [if_pos c4]
      have lt := cl_lastTakenHook D1.2.2.2.2.1.1 hF
      have lp : (-1 : Int32) < loH m n k := by
        rcases loH_c m n h12 with ⟨_, b⟩ | ⟨j, hj, _, b⟩
        · rw [b]; decide
        · rw [b]; exact Int32.lt_of_lt_of_le (show (-1 : Int32) < nI 0 by decide) (nI_le (by omega) (by omega))
      have r := kSt_s D1 hF lp (hi := 12) (q := 4) (by omega) (fun v h => ab_bd (ab_fr h 192 1 5) fun v19 => ab_bd (ab_fw h v19 8 1 (.int v)) fun h20 => some h20) (fun G' i' f' D' h1 h2 => by
        have v1 : 1 ≤ nmb t L (psn t L i1) := by
          have nl := nmb_lt (t := t) (L := L) (a := psn t L i1)
          rcases loH_c m n h12 with ⟨_, b⟩ | ⟨j, hj, _, b⟩
          · rw [b, nI_ltI (by omega) (by omega)] at h2; omega
          · rw [b, nI_ltI (by omega) (by omega)] at h2; omega
        refine ⟨sF G' 18 1 (nI (nmb t L (psn t L i1))), _, ?_, D'.fs Fs_F0 (D'.2.2.2.2.1.f4 v1 h1)⟩
        refine (bd_e (fr_192_5 _)).trans ?_
        exact bd_e (fw_s1 _ _ st18))
      have E2 : kSt F (kI (kd t L (psn t L i))) (gH G1) = (ab_ck (ab_io (gH G1) 192 1 = true) (ab_bd (fX1_readNumber F 192 (loH m n k) (nI 12) (gH G1)) fun v10 => ab_ck (ab_io v10.2 192 1 = true) (ab_bd (fX10_isRightD 192 v10.2) fun v11 => (if v11 = 0 then some v10.2 else (fun v h => ab_bd (ab_fr h 192 1 5) fun v19 => ab_bd (ab_fw h v19 8 1 (.int v)) fun h20 => some h20) v10.1 v10.2)))) := by
        unfold kSt
        refine (jn_e _ _).trans ?_
        refine (if_pos (K4.mpr c4)).trans ?_
        refine (jn_e _ _).trans ?_
        refine (if_neg (by decide)).trans ?_
        refine (bd_e (fr_192_5 _)).trans ?_
        refine (ck_e (io_s _ st18)).trans ?_
        refine (bd_e lt).trans ?_
        refine (bd_e (cl_maxH m n h12 _)).trans ?_
        refine (jn_e _ _).trans ?_
        exact if_neg (by decide)
      rw [E2]; exact r
    · rw [if_neg c4]
      have n4 : ¬ kI (kd t L (psn t L i)) = nI 1004 := fun h => c4 (K4.mp h)
      by_cases c5 : kd t L (psn t L i) = 1005
      · rw [if_pos c5]
        have r := kSt_s D1 hF (lo := nI 0) (by decide) (hi := 100) (q := 6) (by omega) (fun v h => ab_bd (ab_fr h 192 1 5) fun v19 => ab_bd (ab_fw h v19 8 3 (.int v)) fun h20 => some h20) (fun G' i' f' D' h1 h2 => by
          refine ⟨sF G' 18 3 (nI (nmb t L (psn t L i1))), _, ?_, D'.fs Fs_F0 (D'.2.2.2.2.1.f6 _)⟩
          refine (bd_e (fr_192_5 _)).trans ?_
          exact bd_e (fw_s3 _ _ st18))
        have E2 : kSt F (kI (kd t L (psn t L i))) (gH G1) = (ab_ck (ab_io (gH G1) 192 1 = true) (ab_bd (fX1_readNumber F 192 (nI 0) (nI 100) (gH G1)) fun v10 => ab_ck (ab_io v10.2 192 1 = true) (ab_bd (fX10_isRightD 192 v10.2) fun v11 => (if v11 = 0 then some v10.2 else (fun v h => ab_bd (ab_fr h 192 1 5) fun v19 => ab_bd (ab_fw h v19 8 3 (.int v)) fun h20 => some h20) v10.1 v10.2)))) := by
          unfold kSt
          refine (jn_e _ _).trans ?_
          refine (if_neg n4).trans ?_
          refine (jn_e _ _).trans ?_
          refine (if_pos nI_0).trans ?_
          refine (jn_e _ _).trans ?_
          refine (if_pos nI_0).trans ?_
          simp only [if_pos nI_0, if_pos (K5.mpr c5)]
        rw [E2]; exact r
      · rw [if_neg c5]
        have n5 : ¬ kI (kd t L (psn t L i)) = nI 1005 := fun h => c5 (K5.mp h)
        have c6 : kd t L (psn t L i) = 1006 := by
          rcases c with h | h | h
          · exact absurd h n4
          · exact absurd h n5
          · exact K6.mp h
        rw [if_pos c6]
        have r := kSt_s D1 hF (lo := nI 0) (by decide) (hi := 100) (q := 7) (by omega) (fun v h => ab_bd (ab_fr h 192 1 5) fun v19 => ab_bd (ab_fw h v19 8 4 (.int v)) fun h20 => some h20) (fun G' i' f' D' h1 h2 => by
          refine ⟨sF G' 18 4 (nI (nmb t L (psn t L i1))), _, ?_, D'.fs Fs_F0 (D'.2.2.2.2.1.f7 _)⟩
          refine (bd_e (fr_192_5 _)).trans ?_
          exact bd_e (fw_s4 _ _ st18))
        have E2 : kSt F (kI (kd t L (psn t L i))) (gH G1) = (ab_ck (ab_io (gH G1) 192 1 = true) (ab_bd (fX1_readNumber F 192 (nI 0) (nI 100) (gH G1)) fun v10 => ab_ck (ab_io v10.2 192 1 = true) (ab_bd (fX10_isRightD 192 v10.2) fun v11 => (if v11 = 0 then some v10.2 else (fun v h => ab_bd (ab_fr h 192 1 5) fun v19 => ab_bd (ab_fw h v19 8 4 (.int v)) fun h20 => some h20) v10.1 v10.2)))) := by
          unfold kSt
          refine (jn_e _ _).trans ?_
          refine (if_neg n4).trans ?_
          refine (jn_e _ _).trans ?_
          refine (if_pos nI_0).trans ?_
          refine (jn_e _ _).trans ?_
          refine (if_pos nI_0).trans ?_
          simp only [if_pos nI_0, if_neg n5]
        rw [E2]; exact r
  · have a1 := y2 rfl (decide_eq_false c)
    have nf : ¬ f1 = -1 := by rw [a1]; exact nI_m1 (by omega)
    rw [decide_eq_false nf] at ir
    rw [if_neg (fun h => c (Or.inl (K4.mpr h))), if_neg (fun h => c (Or.inr (Or.inl (K5.mpr h)))), if_neg (fun h => c (Or.inr (Or.inr (K6.mpr h))))]
    refine CL.no (G' := G1) ?_ D1 a1 (by omega)
    refine (ck_e (io_192 _)).trans ?_
    refine (bd_e e1).trans ?_
    refine (ck_e (io_192 _)).trans ?_
    refine (bd_e ir).trans ?_
    exact if_pos (bI_0.mpr rfl)
theorem CL.s {g : gG} {t : Nat → Nat} {L Z : Nat} {r : DR} {X Y : Option ab_H} (C : CL g t L Z r X) (h : ∀ G', X = some (gH G') → Y = some (gH G')) : CL g t L Z r Y := by
  obtain ⟨G', i', f', m', n', k', e, C⟩ := C
  exact ⟨G', i', f', m', n', k', h G' e, C⟩
theorem cs_line {g : gG} {t : Nat → Nat} {L Z : Nat} {G : gG} {i : Nat} {m : Nat → Int32} {n k : Nat} (D : Dq g t L Z G i (-1) m n k) (I : Ix m n) {F : Nat} (hF : 11000 < F) : CL g t L Z (dLine t L (psn t L i) m n k) (fX1_readLine F 192 (gH G)) := by
  have hbt : ∀ i, i < L → t i < 256 := fun i hi => (D.1.1.2.2 i hi).2
  have kl := kd_lt1 (t := t) (L := L) (a := psn t L i) hbt
  have kh := dk_kh D.1 D.2.1 D.2.2.1
  have K0 := kI_eq (m := 1000) kl (by omega)
  have K1 := kI_eq (m := 1001) kl (by omega)
  have K2 := kI_eq (m := 1002) kl (by omega)
  have K3 := kI_eq (m := 1003) kl (by omega)
  unfold dLine fX1_readLine
  by_cases c0 : kd t L (psn t L i) = 1000
  · rw [if_pos c0]
    refine (cs_pers D I hF).s (fun G' e => ?_)
    refine (bd_e (fr_192_0 _)).trans ?_
    refine (ck_e (io_188 _)).trans ?_
    refine (bd_e kh).trans ?_
    refine (if_pos (K0.mpr c0)).trans ?_
    refine (ck_e (io_192 _)).trans ?_
    exact bd_e e
  rw [if_neg c0]
  have n0 : ¬ kI (kd t L (psn t L i)) = nI 1000 := fun h => c0 (K0.mp h)
  by_cases c1 : kd t L (psn t L i) = 1001
  · rw [if_pos c1]
    refine (cs_wish D hF).s (fun G' e => ?_)
    refine (bd_e (fr_192_0 _)).trans ?_
    refine (ck_e (io_188 _)).trans ?_
    refine (bd_e kh).trans ?_
    refine (if_neg n0).trans ?_
    refine (if_pos (K1.mpr c1)).trans ?_
    refine (ck_e (io_192 _)).trans ?_
    exact bd_e e
  rw [if_neg c1]
  have n1 : ¬ kI (kd t L (psn t L i)) = nI 1001 := fun h => c1 (K1.mp h)
  by_cases c2 : kd t L (psn t L i) = 1002
  · rw [if_pos c2]
    refine (cs_wed D hF).s (fun G' e => ?_)
    refine (bd_e (fr_192_0 _)).trans ?_
    refine (ck_e (io_188 _)).trans ?_
    refine (bd_e kh).trans ?_
    refine (if_neg n0).trans ?_
    refine (if_neg n1).trans ?_
    refine (if_pos (K2.mpr c2)).trans ?_
    refine (ck_e (io_192 _)).trans ?_
    exact bd_e e
  rw [if_neg c2]
  have n2 : ¬ kI (kd t L (psn t L i)) = nI 1002 := fun h => c2 (K2.mp h)
  by_cases c3 : kd t L (psn t L i) = 1003
  · rw [if_pos c3]
    refine (cs_knows D hF).s (fun G' e => ?_)
    refine (bd_e (fr_192_0 _)).trans ?_
    refine (ck_e (io_188 _)).trans ?_
    refine (bd_e kh).trans ?_
    refine (if_neg n0).trans ?_
    refine (if_neg n1).trans ?_
    refine (if_neg n2).trans ?_
    refine (if_pos (K3.mpr c3)).trans ?_
    refine (ck_e (io_192 _)).trans ?_
    exact bd_e e
  rw [if_neg c3]
  have n3 : ¬ kI (kd t L (psn t L i)) = nI 1003 := fun h => c3 (K3.mp h)
  refine (cs_sett D hF).s (fun G' e => ?_)
  refine (bd_e (fr_192_0 _)).trans ?_
  refine (ck_e (io_188 _)).trans ?_
  refine (bd_e kh).trans ?_
  refine (if_neg n0).trans ?_
  refine (if_neg n1).trans ?_
  refine (if_neg n2).trans ?_
  refine (if_neg n3).trans ?_
  refine (ck_e (io_192 _)).trans ?_
  exact bd_e e
