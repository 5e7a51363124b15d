variable {Nq : Nat}
/-! ===== AN HOUR ===== -/
def ho1 (C : List Nat) (n k : Nat) (m : Nat → Int32) : Nat → Int32 := drM (tuM C k m n).1
def ho2 (n : Nat) (m : Nat → Int32) : Nat → Int32 := if ab_rm (dvl m) (nI 100) < m 6 then mxM n m else m
def ho3 (k : Nat) (m : Nat → Int32) : Nat → Int32 := if ab_rm (dvl m) (nI 100) < m 7 then rbM k m else m
def ho4 (m : Nat → Int32) : Nat → Int32 := upd m 5 (m 5 + nI 1)
def hoM (C : List Nat) (n k : Nat) (m : Nat → Int32) : Nat → Int32 := ho4 (ho3 k (drM (ho2 n (ho1 C n k m))))
theorem SR.hour {g : gG} {x : Nat} {m : Nat → Int32} {n k : Nat} (S : SR g x m n k) (v : Int32) : SR (sF g x 2 v) x (upd m 5 v) n k := by
  obtain ⟨V, k1, m3, m4, X, L, B, W, I⟩ := S
  have h10 := V.2.2.1
  have A : ∀ q, q ≠ 5 → upd m 5 v q = m q := fun q h => upd_2 _ _ h
  obtain ⟨hx, hn, _, hk, h12, e3, e4, e5, e6, e7, e8, e11, e9, e10⟩ := V
  have z : ∀ j, j ≠ 2 → gF (sF g x 2 v) x j = gF g x j := fun j hj => by rw [gF_sF1, upd_2 _ _ hj]
  refine ⟨⟨hx, (z 0 (by omega)).trans hn, h10, (z 1 (by omega)).trans hk, h12, ?_, ?_, ?_, ?_, ?_, ?_, ?_, ?_, ?_⟩, k1, (A 3 (by omega)).trans m3, (A 4 (by omega)).trans m4, ?_, L.keep (gF_sF2 _ _ (by omega)) rfl (A 8 (by omega)) (fun q _ _ => A q (by omega)), B, W.cg (fun q _ => A _ (by omega)) (fun i _ => A _ (by omega)) (fun q _ => A _ (by omega)), I.cg h10 (fun q _ => A _ (by omega)) (fun q _ => A _ (by omega)) (fun q _ => A _ (by omega)) (fun q _ _ => A q (by omega))⟩
  · intro q hq; rw [A _ (by omega)]; exact e3 q hq
  · intro q hq; rw [A _ (by omega)]; exact e4 q hq
  · intro q hq; rw [A _ (by omega)]; exact e5 q hq
  · intro q hq; rw [A _ (by omega)]; exact e6 q hq
  · intro q hq; rw [A _ (by omega)]; exact e7 q hq
  · intro q hq; rw [A _ (by omega)]; exact e8 q hq
  · intro q hq; rw [A _ (by omega)]; exact e11 q hq
  · intro p o hp ho; rw [A _ (by omega)]; exact e9 p o hp ho
  · intro p o hp ho; rw [A _ (by omega)]; exact e10 p o hp ho
  · refine ⟨?_, (z 3 (by omega)).trans (X.2.1.trans (A 6 (by omega)).symm), (z 4 (by omega)).trans (X.2.2.1.trans (A 7 (by omega)).symm), (z 5 (by omega)).trans (X.2.2.2.1.trans (A 9 (by omega)).symm), (z 6 (by omega)).trans (X.2.2.2.2.1.trans (A 0 (by omega)).symm), by rw [A 0 (by omega)]; exact X.2.2.2.2.2⟩
    rw [gF_sF1, upd_1, upd_1]
theorem n100 : ¬ (nI 100 : Int32) = 0 := by decide
theorem cl_hour {g : gG} {x : Nat} {m : Nat → Int32} {n k : Nat} {C : List Nat} (S : SR g x m n k) (H : LwC g (gw g x) m C) {F : Nat} (hF : 11000 < F) : ∃ g', fX8_passHour F x (gH g) = some (nI (tuM C k m n).2, gH g') ∧ Fh g g' x (gw g x) ∧ SR g' x (hoM C n k m) n k ∧ Lm m (hoM C n k m) := by
  have hx := S.c.st
  have h10 := S.c.n10
  unfold fX8_passHour
  obtain ⟨_, _, L1, _⟩ := tu_all S H hF n (Nat.le_refl _)
  generalize hK : (fun (z5 : Int32) (h6 : ab_H) => ab_ck (ab_io h6 x 8 = true) (ab_bd (fX8_draw x h6) fun v7 => ab_ck (¬ (nI 100) = 0) (ab_bd (ab_fi v7.2 x 8 3) fun v9 => ab_jn (κ := ab_H → Option (Int32 × ab_H)) (fun (h10 : ab_H) => ab_ck (ab_io h10 x 8 = true) (ab_bd (fX8_draw x h10) fun v11 => ab_ck (¬ (nI 100) = 0) (ab_bd (ab_fi v11.2 x 8 4) fun v13 => (if (ab_rm v11.1 (nI 100)) < v13 then ab_ck (ab_io v11.2 x 8 = true) (ab_bd (fX8_robByDraw F x v11.2) fun h15 => ab_bd (ab_fi h15 x 8 2) fun v16 => ab_bd (ab_fw h15 x 8 2 (.int (v16 + (nI 1)))) fun h17 => some (z5, h17)) else ab_bd (ab_fi v11.2 x 8 2) fun v18 => ab_bd (ab_fw v11.2 x 8 2 (.int (v18 + (nI 1)))) fun h19 => some (z5, h19))))) fun j20 => (if (ab_rm v7.1 (nI 100)) < v9 then ab_ck (ab_io v7.2 x 8 = true) (ab_bd (fX8_mixByDraws F x v7.2) fun h22 => j20 h22) else j20 v7.2)))) = K
  obtain ⟨g1, e1, F1, S1⟩ := cl_turns (m := m) (C := C) hF K h10 n 0 g F (by omega) S H (by omega)
  have e1 : fX8_passHour_4 F x K F (nI 0) (nI 0) (gH g) = K (nI (tuM C k m n).2) (gH g1) := e1
  rw [e1, ← hK]
  clear hK e1
  -- the first draw
  obtain ⟨w1, S2⟩ := cl_draw S1
  -- mixing
  obtain ⟨g3, F3, S3, L3, w3⟩ : ∃ g3, Fs (sF g1 x 5 (drM (tuM C k m n).1 9)) g3 x ∧ SR g3 x (ho2 n (ho1 C n k m)) n k ∧ Lm (ho1 C n k m) (ho2 n (ho1 C n k m)) ∧ ∀ J : ab_H → Option (Int32 × ab_H), (if (ab_rm (dvl (ho1 C n k m)) (nI 100)) < (ho1 C n k m) 6 then ab_ck (ab_io (gH (sF g1 x 5 (drM (tuM C k m n).1 9))) x 8 = true) (ab_bd (fX8_mixByDraws F x (gH (sF g1 x 5 (drM (tuM C k m n).1 9)))) fun h22 => J h22) else J (gH (sF g1 x 5 (drM (tuM C k m n).1 9)))) = J (gH g3) := by
    unfold ho2
    by_cases c : ab_rm (dvl (ho1 C n k m)) (nI 100) < (ho1 C n k m) 6
    · obtain ⟨g3, a1, a2, a3⟩ := cl_mixD S2 hF
      rw [if_pos c]
      refine ⟨g3, a2, a3, Lm.mx h10, fun J => ?_⟩
      rw [if_pos c]
      refine (ck_e (io_s _ hx)).trans ?_
      exact bd_e a1
    · rw [if_neg c]
      refine ⟨_, Fs.refl _ _, S2, Lm.refl _, fun J => ?_⟩
      rw [if_neg c]
  obtain ⟨w4, S4⟩ := cl_draw S3
  -- the thief
  obtain ⟨g5, F5, S5, L5, w5⟩ : ∃ g5, Fs (sF g3 x 5 (drM (ho2 n (ho1 C n k m)) 9)) g5 x ∧ SR g5 x (ho3 k (drM (ho2 n (ho1 C n k m)))) n k ∧ Lm (drM (ho2 n (ho1 C n k m))) (ho3 k (drM (ho2 n (ho1 C n k m)))) ∧ (if (ab_rm (dvl (drM (ho2 n (ho1 C n k m)))) (nI 100)) < (drM (ho2 n (ho1 C n k m))) 7 then ab_ck (ab_io (gH (sF g3 x 5 (drM (ho2 n (ho1 C n k m)) 9))) x 8 = true) (ab_bd (fX8_robByDraw F x (gH (sF g3 x 5 (drM (ho2 n (ho1 C n k m)) 9)))) fun h15 => ab_bd (ab_fi h15 x 8 2) fun v16 => ab_bd (ab_fw h15 x 8 2 (.int (v16 + (nI 1)))) fun h17 => some (nI (tuM C k m n).2, h17)) else ab_bd (ab_fi (gH (sF g3 x 5 (drM (ho2 n (ho1 C n k m)) 9))) x 8 2) fun v18 => ab_bd (ab_fw (gH (sF g3 x 5 (drM (ho2 n (ho1 C n k m)) 9))) x 8 2 (.int (v18 + (nI 1)))) fun h19 => some (nI (tuM C k m n).2, h19)) = ab_bd (ab_fi (gH g5) x 8 2) fun v18 => ab_bd (ab_fw (gH g5) x 8 2 (.int (v18 + (nI 1)))) fun h19 => some (nI (tuM C k m n).2, h19) := by
    unfold ho3
    by_cases c : ab_rm (dvl (drM (ho2 n (ho1 C n k m)))) (nI 100) < (drM (ho2 n (ho1 C n k m))) 7
    · obtain ⟨g5, a1, a2, a3, a4⟩ := cl_robD S4 hF
      rw [if_pos c]
      refine ⟨g5, a2, a3, a4, ?_⟩
      rw [if_pos c]
      refine (ck_e (io_s _ hx)).trans ?_
      exact bd_e a1
    · rw [if_neg c]
      refine ⟨_, Fs.refl _ _, S4, Lm.refl _, ?_⟩
      rw [if_neg c]
  have S6 := S5.hour (ho3 k (drM (ho2 n (ho1 C n k m))) 5 + nI 1)
  refine ⟨sF g5 x 2 (ho3 k (drM (ho2 n (ho1 C n k m))) 5 + nI 1), ?_, (((((F1.trans (Fs_F0.h _)).trans (F3.h _)).trans (Fs_F0.h _)).trans (F5.h _)).trans (Fs_F0.h _)), S6, ((((L1.trans (Lm.dr _)).trans L3).trans (Lm.dr _)).trans L5).trans (Lm.u (by omega))⟩
  refine (ck_e (io_s _ hx)).trans ?_
  refine (bd_e w1).trans ?_
  unfold ab_ck
  rw [if_pos n100]
  refine (bd_e ((fi_s3 _ hx).trans (by rw [S2.2.2.2.2.1.2.1]))).trans ?_
  refine (jn_e _ _).trans ?_
  have w3 := w3 (fun (h10 : ab_H) => ab_ck (ab_io h10 x 8 = true) (ab_bd (fX8_draw x h10) fun v11 => ab_ck (¬ (nI 100) = 0) (ab_bd (ab_fi v11.2 x 8 4) fun v13 => (if (ab_rm v11.1 (nI 100)) < v13 then ab_ck (ab_io v11.2 x 8 = true) (ab_bd (fX8_robByDraw F x v11.2) fun h15 => ab_bd (ab_fi h15 x 8 2) fun v16 => ab_bd (ab_fw h15 x 8 2 (.int (v16 + (nI 1)))) fun h17 => some (nI (tuM C k m n).2, h17)) else ab_bd (ab_fi v11.2 x 8 2) fun v18 => ab_bd (ab_fw v11.2 x 8 2 (.int (v18 + (nI 1)))) fun h19 => some (nI (tuM C k m n).2, h19)))))
  unfold ab_ck at w3 w5
  refine w3.trans ?_
  rw [if_pos (io_s _ hx)]
  refine (bd_e w4).trans ?_
  rw [if_pos n100]
  refine (bd_e ((fi_s4 _ hx).trans (by rw [S4.2.2.2.2.1.2.2.1]))).trans ?_
  refine w5.trans ?_
  refine (bd_e ((fi_s2 _ hx).trans (by rw [S5.2.2.2.2.1.1]))).trans ?_
  exact bd_e (fw_s2 _ _ hx)
theorem rf_hour {g : gG} {m : Nat → Int32} {n k w x : Nat} {g0 : gG} {C : List Nat} (S : SR g0 x m n k) (H0 : LwC g0 (gw g0 x) m C) (hm : gA g 207 = m) (H : LwC g w m C) (hb : Bo g) {F : Nat} (hF : 11000 < F) : ∃ g', fX12_hour F 206 (gH g) = some (nI (tuM C k m n).2, gH g') ∧ Fr g g' ∧ gA g' 207 = hoM C n k m := by
  have h10 := S.c.n10
  have h12 := S.c.k12
  have G : ∀ i, i ≤ n → GdR n k (tuM C k m i).1 := fun i hi => by
    obtain ⟨gi, Si, _, _⟩ := tu_all S H0 hF i hi
    exact ⟨gi, x, Si⟩
  obtain ⟨gn1, xn1, Sn⟩ := G n (Nat.le_refl _)
  have Sd1 : GdR n k (ho1 C n k m) := ⟨_, _, (cl_draw Sn).2⟩
  have Sd2 : GdR n k (ho2 n (ho1 C n k m)) := by
    unfold ho2
    split
    · obtain ⟨g3, _, _, a3⟩ := cl_mixD (cl_draw Sn).2 hF
      exact ⟨g3, _, a3⟩
    · exact Sd1
  have Sd3 : GdR n k (drM (ho2 n (ho1 C n k m))) := by
    obtain ⟨a, b, c⟩ := Sd2
    exact ⟨_, _, (cl_draw c).2⟩
  unfold fX12_hour
  generalize hK : (fun (z26 : Int32) (h27 : ab_H) => ab_ck (ab_io h27 206 12 = true) (ab_bd (fX12_draw 206 (nI 100) h27) fun v28 => ab_bd (ab_fr v28.2 206 12 1) fun v29 => ab_bd (ab_ia 0 v28.2 v29 (nI 6)) fun v30 => ab_jn (κ := Int32 → Option (Int32 × ab_H)) (fun (z31 : Int32) => ab_ck (ab_io v28.2 206 12 = true) (ab_bd (fX12_holders F 206 v28.2) fun v32 => ab_bd (fX12_bits F v32 v28.2) fun v33 => ab_jn (κ := ab_H → Option (Int32 × ab_H)) (fun (h34 : ab_H) => ab_ck (ab_io h34 206 12 = true) (ab_bd (fX12_draw 206 (nI 100) h34) fun v35 => ab_bd (ab_fr v35.2 206 12 1) fun v36 => ab_bd (ab_ia 0 v35.2 v36 (nI 7)) fun v37 => ab_jn (κ := ab_H → Option (Int32 × ab_H)) (fun (h38 : ab_H) => ab_bd (ab_fr h38 206 12 1) fun v39 => ab_bd (ab_ia 0 h38 v39 (nI 5)) fun v40 => ab_bd (ab_iw 0 h38 v39 (nI 5) (v40 + (nI 1))) fun h41 => some (z26, h41)) fun j42 => (if v35.1 < v37 then ab_ck (ab_io v35.2 206 12 = true) (ab_bd (fX12_hung F 206 v35.2) fun v44 => (if v44 ≤ 0 then j42 v35.2 else ab_ck (ab_io v35.2 206 12 = true) (ab_bd (fX12_robs F 206 v35.2) fun h46 => j42 h46))) else j42 v35.2))) fun j47 => (if z31 = 0 then j47 v28.2 else (if v33 ≤ (nI 1) then j47 v28.2 else ab_ck (ab_io v28.2 206 12 = true) (ab_bd (fX12_draw 206 v33 v28.2) fun v50 => ab_ck (ab_io v50.2 206 12 = true) (ab_bd (fX12_holder F 206 v50.1 (-1 : Int32) v50.2) fun v51 => ab_ck (ab_io v50.2 206 12 = true) (ab_bd (fX12_draw 206 (v33 - (nI 1)) v50.2) fun v52 => ab_ck (ab_io v52.2 206 12 = true) (ab_bd (fX12_holder F 206 v52.1 v51 v52.2) fun v53 => ab_ck (ab_io v52.2 206 12 = true) (ab_bd (fX12_mixes F 206 v51 v53 v52.2) fun h54 => j47 h54))))))))) fun j55 => (if v28.1 < v30 then j55 (nI 1) else j55 (nI 0)))) = K
  obtain ⟨g1, e1, F1, M1⟩ := rf_turns (m := m) (C := C) hF K h10 G n 0 g F (by omega) hm H hb (by omega)
  have e1 : fX12_hour_4 F 206 K F (nI 0) (nI 0) (gH g) = K (nI (tuM C k m n).2) (gH g1) := e1
  rw [e1, ← hK]
  clear hK e1
  have b1 := F1.2.2.1
  have w1 := rf_draw g1 n100
  rw [M1] at w1
  have w1 : fX12_draw 206 (nI 100) (gH g1) = some (ab_rm (dvl (ho1 C n k m)) (nI 100), gH (sA g1 207 (ho1 C n k m))) := w1
  have hol := rf_holders (sA g1 207 (ho1 C n k m)) (n := n) (by rw [gA_sA1]; exact (Sd1.choose_spec.choose_spec).2.2.1) h10 hF
  rw [gA_sA1] at hol
  have hol : fX12_holders F 206 (gH (sA g1 207 (ho1 C n k m))) = some (nI (st (hP (ho1 C n k m)) n)) := hol
  have bit := rf_bits (nI (st (hP (ho1 C n k m)) n)) (gH (sA g1 207 (ho1 C n k m))) hF
  rw [st_pc h10] at bit
  have mi := rf_mixD (sA g1 207 (ho1 C n k m)) (n := n) (k := k) (by rw [gA_sA1]; exact Sd1) (if ab_rm (dvl (ho1 C n k m)) (nI 100) < ho1 C n k m 6 then nI 1 else nI 0) (by split <;> simp) hF
  rw [gA_sA1, sA_sA] at mi
  have ez : (if (if ab_rm (dvl (ho1 C n k m)) (nI 100) < ho1 C n k m 6 then nI 1 else nI 0) = 0 then ho1 C n k m else mxM n (ho1 C n k m)) = ho2 n (ho1 C n k m) := by
    unfold ho2
    by_cases c : ab_rm (dvl (ho1 C n k m)) (nI 100) < ho1 C n k m 6
    · rw [if_pos c, if_pos c]; exact if_neg (by decide)
    · rw [if_neg c, if_neg c]; exact if_pos nI_0
  rw [ez] at mi
  have w4 := rf_draw (sA g1 207 (ho2 n (ho1 C n k m))) n100
  rw [gA_sA1, sA_sA] at w4
  have hu := rf_hung (sA g1 207 (drM (ho2 n (ho1 C n k m)))) (k := k) (by rw [gA_sA1]; exact (Sd3.choose_spec.choose_spec).2.2.2.1) h12 hF
  rw [gA_sA1] at hu
  have hu : fX12_hung F 206 (gH (sA g1 207 (drM (ho2 n (ho1 C n k m))))) = some (hgM (drM (ho2 n (ho1 C n k m))) k) := hu
  refine ⟨sA g1 207 (hoM C n k m), ?_, F1.trans (Fr.m b1 _), gA_sA1 _ _ _⟩
  refine (ck_e (io_206 _)).trans ?_
  refine (bd_e w1).trans ?_
  refine (bd_e (fr_206_1 _)).trans ?_
  refine (bd_e ((ia_207 _ (show 6 < 984 by omega)).trans (by rw [gA_sA1]))).trans ?_
  refine (jsel _ _ _).trans ?_
  refine (ck_e (io_206 _)).trans ?_
  refine (bd_e hol).trans ?_
  refine (bd_e bit).trans ?_
  refine (jn_e _ _).trans ?_
  refine (mi _).trans ?_
  refine (ck_e (io_206 _)).trans ?_
  refine (bd_e w4).trans ?_
  refine (bd_e (fr_206_1 _)).trans ?_
  refine (bd_e ((ia_207 _ (show 7 < 984 by omega)).trans (by rw [gA_sA1]))).trans ?_
  refine (jn_e _ _).trans ?_
  have fin : ∀ M : Nat → Int32, (ab_bd (ab_fr (gH (sA g1 207 M)) 206 12 1) fun v39 => ab_bd (ab_ia 0 (gH (sA g1 207 M)) v39 (nI 5)) fun v40 => ab_bd (ab_iw 0 (gH (sA g1 207 M)) v39 (nI 5) (v40 + (nI 1))) fun h41 => some (nI (tuM C k m n).2, h41)) = some (nI (tuM C k m n).2, gH (sA g1 207 (ho4 M))) := fun M => by
    refine (bd_e (fr_206_1 _)).trans ?_
    refine (bd_e ((ia_207 _ (show 5 < 984 by omega)).trans (by rw [gA_sA1]))).trans ?_
    refine (bd_e (iw_207 _ _ (show 5 < 984 by omega))).trans ?_
    rw [gA_sA1, sA_sA]
    rfl
  unfold hoM ho3
  by_cases c : ab_rm (dvl (drM (ho2 n (ho1 C n k m)))) (nI 100) < drM (ho2 n (ho1 C n k m)) 7
  · refine (if_pos c).trans ?_
    rw [if_pos c]
    refine (ck_e (io_206 _)).trans ?_
    refine (bd_e hu).trans ?_
    by_cases c2 : hgM (drM (ho2 n (ho1 C n k m))) k = 0
    · have er : rbM k (drM (ho2 n (ho1 C n k m))) = drM (ho2 n (ho1 C n k m)) := if_pos c2
      rw [er, c2]
      refine (if_pos (by decide)).trans ?_
      exact fin _
    · have rb := rf_robD (sA g1 207 (drM (ho2 n (ho1 C n k m)))) (n := n) (k := k) (by rw [gA_sA1]; exact Sd3) (by rw [gA_sA1]; exact c2) hF
      rw [gA_sA1, sA_sA] at rb
      have l0 : ¬ hgM (drM (ho2 n (ho1 C n k m))) k ≤ 0 := by
        have := fb_ct_le (fun h => decide (¬ drM (ho2 n (ho1 C n k m)) (272 + h) = -1)) k
        have c3 : ¬ fb_ct (fun h => decide (¬ drM (ho2 n (ho1 C n k m)) (272 + h) = -1)) k = 0 := fun h => c2 ((hgM_0 h12).mpr h)
        unfold hgM
        rw [← nI_0]
        exact nI_ge (by omega) (by omega)
      refine (if_neg l0).trans ?_
      refine (ck_e (io_206 _)).trans ?_
      refine (bd_e rb).trans ?_
      exact fin _
  · refine (if_neg c).trans ?_
    rw [if_neg c]
    exact fin _
