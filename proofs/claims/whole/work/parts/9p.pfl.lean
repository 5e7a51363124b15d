variable {Nq : Nat}
/-! ===== calls: person, face, log ===== -/
theorem cq_person {g : gG} (R : RE Nq g) (x y : Int32) {F : Nat} (hF : 11000 < F) : Cq Nq g (fX11_person F 0 x y (gH g)) (fun g => fX12_person F 206 x y (gH g)) [eIx, eNo] := by
  have R0 := R
  obtain ⟨n, k, s, f, R⟩ := R
  have V := R.1.1
  obtain ⟨rn, h10, rk, h12⟩ := R.rv
  have W := V
  obtain ⟨hx, hn, _, hk, _, e3, e4, e5, e6, e7, e8, e11, e9, e10⟩ := W
  refine Cq_of R0 ?_
  have Z : ∀ (t : Int32) (z : Int32) (hz : z ≤ 0 ∨ ¬ z ≤ 0), t = z → True := fun _ _ _ _ => trivial
  rcases inR_or (n := n) (x := x) (by omega) with e | ⟨p, hp, rfl⟩
  · refine ⟨.inr eIx, nI 0, nI 1, ?_, ?_, 0, by decide, rfl, rfl⟩
    · unfold fX11_person
      refine (ck_e (io_0 _)).trans ?_
      rw [cl_needPerson V, e]; rfl
    · unfold fX12_person
      refine (ck_e (io_206 _)).trans ?_
      refine (bd_e (rf_isPerson g rn h10 x)).trans ?_
      rw [e]
      refine (jn_e _ _).trans ?_
      refine (if_pos (bI_0.mpr rfl)).trans ?_
      refine (bd_e (fw_206_0 _ _)).trans ?_
      refine (bd_e ((fi_206_0 _).trans (by rw [gF_sF1, upd_1]))).trans ?_
      exact if_neg (by decide)
  have ep := inR_of hp (show n < 2 ^ 31 by omega)
  have hd : ∀ R, (if y = nI 0 then ab_bd (ab_fr (gH g) 0 11 1) fun v8 => ab_bd (ab_fr (gH g) v8 8 10) fun v9 => ab_bd (ab_ia 0 (gH g) v9 (nI p)) fun v10 => some (.inl v10) else (if y = nI 1 then ab_bd (ab_fr (gH g) 0 11 1) fun v11 => ab_bd (ab_fr (gH g) v11 8 11) fun v12 => ab_bd (ab_ia 0 (gH g) v12 (nI p)) fun v13 => some (.inl v13) else (if y = nI 2 then ab_bd (ab_fr (gH g) 0 11 1) fun v14 => ab_bd (ab_fr (gH g) v14 8 12) fun v15 => ab_bd (ab_ia 0 (gH g) v15 (nI p)) fun v16 => some (.inl v16) else (if y = nI 3 then ab_bd (ab_fr (gH g) 0 11 1) fun v17 => ab_bd (ab_fr (gH g) v17 8 13) fun v18 => ab_bd (ab_ia 0 (gH g) v18 (nI p)) fun v19 => some (.inl v19) else (if y = nI 4 then ab_bd (ab_fr (gH g) 0 11 1) fun v20 => ab_bd (ab_fr (gH g) v20 8 14) fun v21 => ab_bd (ab_ia 0 (gH g) v21 (nI p)) fun v22 => some (.inl v22) else (if y = nI 5 then ab_bd (ab_fr (gH g) 0 11 1) fun v23 => ab_ck (ab_io (gH g) v23 8 = true) (ab_bd (fX8_ringOf F v23 (nI p) (gH g)) fun v24 => some (.inl v24)) else some (.inr "java/util/NoSuchElementException"))))))) = R → fX11_person F 0 (nI p) y (gH g) = R := fun R h => by
    unfold fX11_person
    refine (ck_e (io_0 _)).trans ?_
    rw [cl_needPerson V, ep]
    exact h
  have hr : ∀ (b : Bool), decide (¬ y < nI 0 ∧ y ≤ nI 5) = b → ∀ R, (if (if b = true then nI 0 else nI 2) ≤ 0 then (if y < (nI 5) then ab_bd (fX12_of 206 (nI p) (y + (nI 1)) (gH (sF g 206 0 (if b = true then nI 0 else nI 2)))) fun v7 => some (v7, gH (sF g 206 0 (if b = true then nI 0 else nI 2))) else ab_bd (fX12_ring F 206 (nI p) (gH (sF g 206 0 (if b = true then nI 0 else nI 2)))) fun v8 => some (v8, gH (sF g 206 0 (if b = true then nI 0 else nI 2)))) else some (nI 0, gH (sF g 206 0 (if b = true then nI 0 else nI 2)))) = R → fX12_person F 206 (nI p) y (gH g) = R := fun b hb R h => by
    unfold fX12_person
    refine (ck_e (io_206 _)).trans ?_
    refine (bd_e (rf_isPerson g rn h10 (nI p))).trans ?_
    rw [ep]
    refine (jn_e _ _).trans ?_
    refine (if_neg (show ¬ bI true = 0 by decide)).trans ?_
    refine (bd_e (rf_isIn _ _ _ _)).trans ?_
    rw [hb]
    have fin : ∀ z : Int32, (ab_bd (ab_fw (gH g) 206 12 0 (.int z)) fun h3 => ab_bd (ab_fi h3 206 12 0) fun v4 => (if v4 ≤ 0 then (if y < (nI 5) then ab_ck (ab_io h3 206 12 = true) (ab_bd (fX12_of 206 (nI p) (y + (nI 1)) h3) fun v7 => some (v7, h3)) else ab_ck (ab_io h3 206 12 = true) (ab_bd (fX12_ring F 206 (nI p) h3) fun v8 => some (v8, h3))) else some (nI 0, h3))) = (if z ≤ 0 then (if y < (nI 5) then ab_bd (fX12_of 206 (nI p) (y + (nI 1)) (gH (sF g 206 0 z))) fun v7 => some (v7, gH (sF g 206 0 z)) else ab_bd (fX12_ring F 206 (nI p) (gH (sF g 206 0 z))) fun v8 => some (v8, gH (sF g 206 0 z))) else some (nI 0, gH (sF g 206 0 z))) := fun z => by
      refine (bd_e (fw_206_0 _ _)).trans ?_
      refine (bd_e ((fi_206_0 _).trans (by rw [gF_sF1, upd_1]))).trans ?_
      by_cases c : z ≤ 0
      · rw [if_pos c, if_pos c]
        by_cases c2 : y < nI 5
        · rw [if_pos c2, if_pos c2]; exact ck_e (io_206 _)
        · rw [if_neg c2, if_neg c2]; exact ck_e (io_206 _)
      · rw [if_neg c, if_neg c]
    cases b
    · refine (if_pos (bI_0.mpr rfl)).trans ?_
      exact (fin _).trans h
    · refine (if_neg (show ¬ bI true = 0 by decide)).trans ?_
      exact (fin _).trans h
  rcases isIn_or (b := 5) (by decide) y with e | ⟨c, hc, rfl⟩
  · have nj : ∀ j, j ≤ 5 → ¬ y = nI j := fun j hj h => by
      rw [h, isIn_c (by decide) hj] at e; cases e
    refine ⟨.inr eNo, nI 0, nI 2, hd _ ?_, hr false e _ ?_, 1, by decide, rfl, rfl⟩
    · rw [if_neg (nj 0 (by omega)), if_neg (nj 1 (by omega)), if_neg (nj 2 (by omega)), if_neg (nj 3 (by omega)), if_neg (nj 4 (by omega)), if_neg (nj 5 (by omega))]
      rfl
    · exact if_neg (by decide)
  have ec := isIn_c (b := 5) (by decide) hc
  have ro : ∀ j, j < 6 → fX12_of 206 (nI p) (nI j) (gH (sF g 206 0 (nI 0))) = some (gA g 207 (12 + 6 * p + j)) := fun j hj => by rw [rf_of _ (show 12 + 6 * p + j < 984 by omega), gA_sF]
  have hc' : c = 0 ∨ c = 1 ∨ c = 2 ∨ c = 3 ∨ c = 4 ∨ c = 5 := by omega
  rcases hc' with rfl | rfl | rfl | rfl | rfl | rfl
  · refine ag_ok (v := gA g 207 (12 + 6 * p + 1)) (hd _ ?_) (hr true ec _ ?_)
    · skip
      refine (if_pos rfl).trans ?_
      refine (bd_e (fr_0_1 _)).trans ?_
      refine (bd_e (fr_s10 _ isSt6)).trans ?_
      refine (bd_e (ia_s4 _ isSt6 (by omega))).trans ?_
      rw [e4 p hp]
    · refine (if_pos (by decide)).trans ?_
      refine (if_pos (by decide)).trans ?_
      exact bd_e (ro 1 (by omega))
  · refine ag_ok (v := gA g 207 (12 + 6 * p + 2)) (hd _ ?_) (hr true ec _ ?_)
    · skip
      refine (if_neg (show ¬ (nI 1 : Int32) = nI 0 by decide)).trans ?_
      refine (if_pos rfl).trans ?_
      refine (bd_e (fr_0_1 _)).trans ?_
      refine (bd_e (fr_s11 _ isSt6)).trans ?_
      refine (bd_e (ia_s5 _ isSt6 (by omega))).trans ?_
      rw [e5 p hp]
    · refine (if_pos (by decide)).trans ?_
      refine (if_pos (by decide)).trans ?_
      exact bd_e (ro 2 (by omega))
  · refine ag_ok (v := gA g 207 (12 + 6 * p + 3)) (hd _ ?_) (hr true ec _ ?_)
    · skip
      refine (if_neg (show ¬ (nI 2 : Int32) = nI 0 by decide)).trans ?_
      refine (if_neg (show ¬ (nI 2 : Int32) = nI 1 by decide)).trans ?_
      refine (if_pos rfl).trans ?_
      refine (bd_e (fr_0_1 _)).trans ?_
      refine (bd_e (fr_s12 _ isSt6)).trans ?_
      refine (bd_e (ia_s6 _ isSt6 (by omega))).trans ?_
      rw [e6 p hp]
    · refine (if_pos (by decide)).trans ?_
      refine (if_pos (by decide)).trans ?_
      exact bd_e (ro 3 (by omega))
  · refine ag_ok (v := gA g 207 (12 + 6 * p + 4)) (hd _ ?_) (hr true ec _ ?_)
    · skip
      refine (if_neg (show ¬ (nI 3 : Int32) = nI 0 by decide)).trans ?_
      refine (if_neg (show ¬ (nI 3 : Int32) = nI 1 by decide)).trans ?_
      refine (if_neg (show ¬ (nI 3 : Int32) = nI 2 by decide)).trans ?_
      refine (if_pos rfl).trans ?_
      refine (bd_e (fr_0_1 _)).trans ?_
      refine (bd_e (fr_s13 _ isSt6)).trans ?_
      refine (bd_e (ia_s7 _ isSt6 (by omega))).trans ?_
      rw [e7 p hp]
    · refine (if_pos (by decide)).trans ?_
      refine (if_pos (by decide)).trans ?_
      exact bd_e (ro 4 (by omega))
  · refine ag_ok (v := gA g 207 (12 + 6 * p + 5)) (hd _ ?_) (hr true ec _ ?_)
    · skip
      refine (if_neg (show ¬ (nI 4 : Int32) = nI 0 by decide)).trans ?_
      refine (if_neg (show ¬ (nI 4 : Int32) = nI 1 by decide)).trans ?_
      refine (if_neg (show ¬ (nI 4 : Int32) = nI 2 by decide)).trans ?_
      refine (if_neg (show ¬ (nI 4 : Int32) = nI 3 by decide)).trans ?_
      refine (if_pos rfl).trans ?_
      refine (bd_e (fr_0_1 _)).trans ?_
      refine (bd_e (fr_s14 _ isSt6)).trans ?_
      refine (bd_e (ia_s8 _ isSt6 (by omega))).trans ?_
      rw [e8 p hp]
    · refine (if_pos (by decide)).trans ?_
      refine (if_pos (by decide)).trans ?_
      exact bd_e (ro 5 (by omega))
  · have rr := rf_ring (sF g 206 0 (nI 0)) (n := n) rn h10 hF hp
    refine ag_ok (v := orS (fun q => gA g 207 (12 + 6 * q + 2)) n p n) (hd _ ?_) (hr true ec _ ?_)
    · skip
      refine (if_neg (show ¬ (nI 5 : Int32) = nI 0 by decide)).trans ?_
      refine (if_neg (show ¬ (nI 5 : Int32) = nI 1 by decide)).trans ?_
      refine (if_neg (show ¬ (nI 5 : Int32) = nI 2 by decide)).trans ?_
      refine (if_neg (show ¬ (nI 5 : Int32) = nI 3 by decide)).trans ?_
      refine (if_neg (show ¬ (nI 5 : Int32) = nI 4 by decide)).trans ?_
      refine (if_pos rfl).trans ?_
      refine (bd_e (fr_0_1 _)).trans ?_
      refine (ck_e (io_s _ isSt6)).trans ?_
      exact bd_e (cl_ringOf V hF hp)
    · refine (if_pos (by decide)).trans ?_
      refine (if_neg (by decide)).trans ?_
      exact bd_e rr
theorem cq_face {g : gG} (R : RE Nq g) (x y : Int32) {F : Nat} (hF : 11000 < F) : Cq Nq g (fX11_face F 0 x y (gH g)) (fun g => fX12_face F 206 x y (gH g)) [eIx, eNo] := by
  have R0 := R
  obtain ⟨n, k, s, f, R⟩ := R
  have V := R.1.1
  obtain ⟨rn, h10, rk, h12⟩ := R.rv
  have W := V
  obtain ⟨hx, hn, _, hk, _, e3, e4, e5, e6, e7, e8, e11, e9, e10⟩ := W
  refine Cq_of R0 ?_
  rcases inR_or (n := n) (x := x) (by omega) with e | ⟨p, hp, rfl⟩
  · refine ⟨.inr eIx, nI 0, nI 1, ?_, ?_, 0, by decide, rfl, rfl⟩
    · unfold fX11_face
      refine (ck_e (io_0 _)).trans ?_
      rw [cl_needPerson V, e]; rfl
    · unfold fX12_face
      refine (ck_e (io_206 _)).trans ?_
      refine (bd_e (rf_isPerson g rn h10 x)).trans ?_
      rw [e]
      refine (jn_e _ _).trans ?_
      refine (if_pos (bI_0.mpr rfl)).trans ?_
      refine (bd_e (fw_206_0 _ _)).trans ?_
      refine (bd_e ((fi_206_0 _).trans (by rw [gF_sF1, upd_1]))).trans ?_
      exact if_neg (by decide)
  have ep := inR_of hp (show n < 2 ^ 31 by omega)
  have hd : ∀ R, (ab_bx (some (.inl ())) (fun E => Sum.inr E) ((if y = nI 0 then ab_bd (ab_fr (gH g) 0 11 1) fun v6 => ab_bd (ab_fr (gH g) v6 8 9) fun v7 => ab_bd (ab_ia 0 (gH g) v7 (nI p)) fun v8 => some (.inl v8) else (if y = nI 1 then ab_bd (ab_fr (gH g) 0 11 1) fun v9 => ab_ck (ab_io (gH g) v9 8 = true) (ab_bd (fX8_wearerOf F v9 (nI p) (gH g)) fun v10 => some (.inl v10)) else (if y = nI 2 then ab_bd (ab_fr (gH g) 0 11 1) fun v11 => ab_ck (ab_io (gH g) v11 8 = true) (ab_bd (fX8_hookOf F v11 (nI p) (gH g)) fun v12 => some (.inl v12)) else (if y = nI 3 then ab_bd (ab_fr (gH g) 0 11 1) fun v13 => ab_bd (ab_fr (gH g) 0 11 1) fun v14 => ab_bd (ab_fr (gH g) v14 8 9) fun v15 => ab_ck (ab_io (gH g) v13 8 = true) (ab_bd (fX8_sameAs F v13 v15 (nI p) (gH g)) fun v16 => some (.inl v16)) else some (.inr "java/util/NoSuchElementException"))))))) = R → fX11_face F 0 (nI p) y (gH g) = R := fun R h => by
    unfold fX11_face
    refine (ck_e (io_0 _)).trans ?_
    rw [cl_needPerson V, ep]
    exact h
  have hr : ∀ (b : Bool), decide (¬ y < nI 0 ∧ y ≤ nI 3) = b → ∀ R, ((fun (z2 : Int32) => ab_bd (ab_fw (gH g) 206 12 0 (.int z2)) fun h3 => ab_bd (ab_fi h3 206 12 0) fun v4 => (if v4 ≤ 0 then (if y = 0 then ab_ck (ab_io h3 206 12 = true) (ab_bd (fX12_of 206 (nI p) (nI 0) h3) fun v7 => some (v7, h3)) else (if y = (nI 1) then ab_ck (ab_io h3 206 12 = true) (ab_bd (fX12_wearer F 206 (nI p) h3) fun v9 => some (v9, h3)) else (if y = (nI 2) then ab_ck (ab_io h3 206 12 = true) (ab_bd (fX12_hookOf F 206 (nI p) h3) fun v11 => some (v11, h3)) else ab_ck (ab_io h3 206 12 = true) (ab_bd (fX12_alike F 206 (nI p) h3) fun v12 => some (v12, h3))))) else some (nI 0, h3))) (if b = true then nI 0 else nI 2)) = R → fX12_face F 206 (nI p) y (gH g) = R := fun b hb R h => by
    unfold fX12_face
    refine (ck_e (io_206 _)).trans ?_
    refine (bd_e (rf_isPerson g rn h10 (nI p))).trans ?_
    rw [ep]
    refine (jn_e _ _).trans ?_
    refine (if_neg (show ¬ bI true = 0 by decide)).trans ?_
    refine (bd_e (rf_isIn _ _ _ _)).trans ?_
    rw [hb]
    cases b
    · exact (if_pos (bI_0.mpr rfl)).trans h
    · exact (if_neg (show ¬ bI true = 0 by decide)).trans h
  rcases isIn_or (b := 3) (by decide) y with e | ⟨c, hc, rfl⟩
  · have nj : ∀ j, j ≤ 3 → ¬ y = nI j := fun j hj h => by
      rw [h, isIn_c (by decide) hj] at e; cases e
    refine ⟨.inr eNo, nI 0, nI 2, hd _ ?_, hr false e _ ?_, 1, by decide, rfl, rfl⟩
    · rw [bx_l, if_neg (nj 0 (by omega)), if_neg (nj 1 (by omega)), if_neg (nj 2 (by omega)), if_neg (nj 3 (by omega))]
      rfl
    · refine (bd_e (fw_206_0 _ _)).trans ?_
      refine (bd_e ((fi_206_0 _).trans (by rw [gF_sF1, upd_1]))).trans ?_
      exact if_neg (by decide)
  have ec := isIn_c (b := 3) (by decide) hc
  have hc' : c = 0 ∨ c = 1 ∨ c = 2 ∨ c = 3 := by omega
  rcases hc' with rfl | rfl | rfl | rfl
  · refine ag_ok (v := gA g 207 (12 + 6 * p)) (hd _ ?_) (hr true ec _ ?_)
    · rw [bx_l]
      refine (if_pos rfl).trans ?_
      refine (bd_e (fr_0_1 _)).trans ?_
      refine (bd_e (fr_s9 _ isSt6)).trans ?_
      refine (bd_e (ia_s3 _ isSt6 (by omega))).trans ?_
      rw [e3 p hp]
    · refine (bd_e (fw_206_0 _ _)).trans ?_
      refine (bd_e ((fi_206_0 _).trans (by rw [gF_sF1, upd_1]))).trans ?_
      refine (if_pos (by decide)).trans ?_
      refine (if_pos (show (nI 0 : Int32) = 0 by decide)).trans ?_
      refine (ck_e (io_206 _)).trans ?_
      exact bd_e (rf_of _ (w := 0) (show 12 + 6 * p + 0 < 984 by omega))
  · refine ag_ok (v := fnd (fun q => gA g 207 (12 + 6 * q + 2) = nI p) n) (hd _ ?_) (hr true ec _ ?_)
    · rw [bx_l]
      refine (if_neg (show ¬ (nI 1 : Int32) = nI 0 by decide)).trans ?_
      refine (if_pos rfl).trans ?_
      refine (bd_e (fr_0_1 _)).trans ?_
      refine (ck_e (io_s _ isSt6)).trans ?_
      exact bd_e (cl_wearerOf V hF (nI p))
    · refine (bd_e (fw_206_0 _ _)).trans ?_
      refine (bd_e ((fi_206_0 _).trans (by rw [gF_sF1, upd_1]))).trans ?_
      refine (if_pos (by decide)).trans ?_
      refine (if_neg (show ¬ (nI 1 : Int32) = 0 by decide)).trans ?_
      refine (if_pos (show (nI 1 : Int32) = nI 1 by decide)).trans ?_
      refine (ck_e (io_206 _)).trans ?_
      exact bd_e (rf_wearer (sF g 206 0 (nI 0)) rn h10 (nI p) (by omega))
  · refine ag_ok (v := fnd (fun q => gA g 207 (272 + q) = nI p) k) (hd _ ?_) (hr true ec _ ?_)
    · rw [bx_l]
      refine (if_neg (show ¬ (nI 2 : Int32) = nI 0 by decide)).trans ?_
      refine (if_neg (show ¬ (nI 2 : Int32) = nI 1 by decide)).trans ?_
      refine (if_pos rfl).trans ?_
      refine (bd_e (fr_0_1 _)).trans ?_
      refine (ck_e (io_s _ isSt6)).trans ?_
      exact bd_e (cl_hookOf V hF (nI p))
    · refine (bd_e (fw_206_0 _ _)).trans ?_
      refine (bd_e ((fi_206_0 _).trans (by rw [gF_sF1, upd_1]))).trans ?_
      refine (if_pos (by decide)).trans ?_
      refine (if_neg (show ¬ (nI 2 : Int32) = 0 by decide)).trans ?_
      refine (if_neg (show ¬ (nI 2 : Int32) = nI 1 by decide)).trans ?_
      refine (if_pos (show (nI 2 : Int32) = nI 2 by decide)).trans ?_
      refine (ck_e (io_206 _)).trans ?_
      exact bd_e (rf_hookOf (sF g 206 0 (nI 0)) rk h12 (nI p) (by omega))
  · refine ag_ok (v := nI (st (fun o => decide (¬ o = p) && decide (gA g 207 (12 + 6 * o) = gA g 207 (12 + 6 * p))) n)) (hd _ ?_) (hr true ec _ ?_)
    · rw [bx_l]
      refine (if_neg (show ¬ (nI 3 : Int32) = nI 0 by decide)).trans ?_
      refine (if_neg (show ¬ (nI 3 : Int32) = nI 1 by decide)).trans ?_
      refine (if_neg (show ¬ (nI 3 : Int32) = nI 2 by decide)).trans ?_
      refine (if_pos rfl).trans ?_
      refine (bd_e (fr_0_1 _)).trans ?_
      refine (bd_e (fr_0_1 _)).trans ?_
      refine (bd_e (fr_s9 _ isSt6)).trans ?_
      refine (ck_e (io_s _ isSt6)).trans ?_
      exact bd_e (cl_sameAs V hF (r := 6 + 3) (v := fun q => gA g 207 (12 + 6 * q)) (fun q hq => by rw [ia_s3 _ isSt6 (by omega), e3 q hq]) hp)
    · refine (bd_e (fw_206_0 _ _)).trans ?_
      refine (bd_e ((fi_206_0 _).trans (by rw [gF_sF1, upd_1]))).trans ?_
      refine (if_pos (by decide)).trans ?_
      refine (if_neg (show ¬ (nI 3 : Int32) = 0 by decide)).trans ?_
      refine (if_neg (show ¬ (nI 3 : Int32) = nI 1 by decide)).trans ?_
      refine (if_neg (show ¬ (nI 3 : Int32) = nI 2 by decide)).trans ?_
      refine (ck_e (io_206 _)).trans ?_
      exact bd_e (rf_alike (sF g 206 0 (nI 0)) rn h10 hF hp)
theorem cq_log {g : gG} (R : RE Nq g) (x y : Int32) {F : Nat} (hF : 11000 < F) : Cq Nq g (fX11_log 0 x y (gH g)) (fun g => fX12_log 206 x y (gH g)) [eNo] := by
  have R0 := R
  obtain ⟨n, k, s, f, R⟩ := R
  obtain ⟨lr, nx, l1, l2, l3, l4, l5, l6⟩ := R.1.2.2.2.2.2.1
  refine Cq_of R0 ?_
  rcases isIn_or (b := 4) (by decide) y with e | ⟨c, hc, rfl⟩
  · have ny : y < 0 ∨ ¬ y ≤ nI 4 := by
      by_cases h : y < 0
      · exact Or.inl h
      · right
        intro h2
        exact (of_decide_eq_false e) ⟨by rw [nI_0]; exact h, h2⟩
    refine ⟨.inr eNo, nI 0, nI 1, ?_, ?_, 0, by decide, rfl, rfl⟩
    · unfold fX11_log
      refine (jn_e _ _).trans ?_
      by_cases h : y < 0
      · exact if_pos h
      · refine (if_neg h).trans ?_
        exact if_neg (ny.resolve_left h)
    · unfold fX12_log
      refine (bd_e (rf_isIn _ _ _ _)).trans ?_
      rw [e]
      refine (jn_e _ _).trans ?_
      refine (if_pos (bI_0.mpr rfl)).trans ?_
      refine (bd_e (fw_206_0 _ _)).trans ?_
      refine (bd_e ((fi_206_0 _).trans (by rw [gF_sF1, upd_1]))).trans ?_
      exact if_neg (by decide)
  have ec := isIn_c (b := 4) (by decide) hc
  have hd : ∀ R, (ab_bd (fX4_cell (6 + 1) x (nI c) (gH g)) fun v6 => some (.inl v6)) = R → fX11_log 0 x (nI c) (gH g) = R := fun R h => by
    unfold fX11_log
    refine (jn_e _ _).trans ?_
    refine (if_neg (nI_pos (by omega))).trans ?_
    refine (if_pos (nI_le hc (by decide))).trans ?_
    refine (bd_e (fr_0_1 _)).trans ?_
    refine (bd_e (fr_s8 _ isSt6)).trans ?_
    exact (ck_e (io_l _ isSt6)).trans h
  have hr : ∀ R, (if bI (inR x lr) = 0 then some ((-99 : Int32), gH (sF g 206 0 (nI 0))) else ab_bd (fX12_logged 206 x (nI c) (gH (sF g 206 0 (nI 0)))) fun v10 => some (v10, gH (sF g 206 0 (nI 0)))) = R → fX12_log 206 x (nI c) (gH g) = R := fun R h => by
    unfold fX12_log
    refine (bd_e (rf_isIn _ _ _ _)).trans ?_
    rw [ec]
    refine (jn_e _ _).trans ?_
    refine (if_neg (show ¬ bI true = 0 by decide)).trans ?_
    refine (bd_e (fw_206_0 _ _)).trans ?_
    refine (bd_e ((fi_206_0 _).trans (by rw [gF_sF1, upd_1]))).trans ?_
    refine (if_pos (by decide)).trans ?_
    refine (bd_e (fr_206_1 _)).trans ?_
    refine (bd_e ((ia_207 _ (show 8 < 984 by omega)).trans (by rw [gA_sF, l4]))).trans ?_
    refine (bd_e (rf_isIn _ _ _ _)).trans ?_
    rw [isIn_in (x := x) (n := lr) (by omega)]
    refine Eq.trans ?_ h
    cases inR x lr
    · rw [if_pos (bI_0.mpr rfl), if_pos (bI_0.mpr rfl)]
    · rw [if_neg (show ¬ bI true = 0 by decide), if_neg (show ¬ bI true = 0 by decide)]
      exact ck_e (io_206 _)
  rcases inR_or (n := lr) (x := x) (by omega) with e | ⟨a, ha, rfl⟩
  · refine ag_ok (v := -99) (hd _ ?_) (hr _ (by rw [e]; exact if_pos (bI_0.mpr rfl)))
    refine bd_e ?_
    unfold fX4_cell
    by_cases h : x < 0
    · rw [if_pos h]
    · rw [if_neg h]
      refine (bd_e ((fi_l1 _ isSt6).trans (by rw [l3]))).trans ?_
      refine if_neg (fun h2 => ?_)
      unfold inR at e
      exact (of_decide_eq_false e) ⟨h, h2⟩
  · have ea := inR_of ha (show lr < 2 ^ 31 by omega)
    refine ag_ok (v := gA g 207 (284 + 5 * a + c)) (hd _ ?_) (hr _ ?_)
    · exact bd_e (cl_cell isSt6 l1 l2 l3 l5 l6 ha (by omega))
    · rw [ea]
      refine (if_neg (show ¬ bI true = 0 by decide)).trans ?_
      exact bd_e (rf_logged (sF g 206 0 (nI 0)) (a := a) (w := c) (by omega))
