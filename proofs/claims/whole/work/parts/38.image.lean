variable {Nq : Nat}
/-! ===== calls: image, back ===== -/
def cp984 (a b : Nat → Int32) : Nat → Int32 := fun q => if q < 984 then a q else b q
theorem rl_image (g : gG) {F : Nat} (hF : 11000 < F) : fX12_image_7 206 F (nI 0) (gH g) = some (gH (sF (sA g 208 (cp984 (gA g 207) (gA g 208))) 206 3 (nI 1))) := by
  have h0 := lp0 (L := fun F' i (g : gG) => fX12_image_7 206 F' i (gH g)) (n := 984) (fun i => sA g 208 (fun q => if q < i then gA g 207 q else gA g 208 q)) (some (gH (sF (sA g 208 (cp984 (gA g 207) (gA g 208))) 206 3 (nI 1)))) ?_ ?_ F (by omega)
  · have e2 : sA g 208 (fun q => if q < 0 then gA g 207 q else gA g 208 q) = g := by
      have : (fun q => if q < 0 then gA g 207 q else gA g 208 q) = gA g 208 := by funext q; rw [if_neg (by omega)]
      rw [this, sA_id]
    rw [e2] at h0
    exact h0
  · intro F i hi
    have e6 : upd (fun q => if q < i then gA g 207 q else gA g 208 q) i (gA g 207 i) = fun q => if q < i + 1 then gA g 207 q else gA g 208 q := by
      funext q
      rw [upd_e]
      by_cases c : q = i
      · rw [if_pos c, if_pos (by omega), c]
      · rw [if_neg c]
        by_cases c2 : q < i
        · rw [if_pos c2, if_pos (by omega)]
        · rw [if_neg c2, if_neg (by omega)]
    have e7 : ¬ (207 = 208) := by omega
    simp (disch := omega) only [fX12_image_7, fr_206_2, ia_208, iw_208, fr_206_1, ia_207, iw_207, fw_206_3, ab_bd_some, ck_t, ck_T, cb_0, cb_1, ab_jn, if_true, if_false, hi, gA_sA1, gA_sA2 _ _ e7, sA_sA, e6, nI_add, pk_mul, nI_ltI, nI_leI, nI_eq]
  · intro F
    simp (disch := omega) only [fX12_image_7, fr_206_2, ia_208, iw_208, fr_206_1, ia_207, iw_207, fw_206_3, ab_bd_some, ck_t, ck_T, cb_0, cb_1, ab_jn, if_true, if_false, Nat.lt_irrefl, nI_add, pk_mul, nI_ltI, nI_leI, nI_eq]
    rfl
theorem rl_back (g : gG) {F : Nat} (hF : 11000 < F) : fX12_back_16 206 F (nI 0) (gH g) = some (nI 1, gH (sF (sA g 207 (cp984 (gA g 208) (gA g 207))) 206 6 (nI 0))) := by
  have h0 := lp0 (L := fun F' i (g : gG) => fX12_back_16 206 F' i (gH g)) (n := 984) (fun i => sA g 207 (fun q => if q < i then gA g 208 q else gA g 207 q)) (some (nI 1, gH (sF (sA g 207 (cp984 (gA g 208) (gA g 207))) 206 6 (nI 0)))) ?_ ?_ F (by omega)
  · have e2 : sA g 207 (fun q => if q < 0 then gA g 208 q else gA g 207 q) = g := by
      have : (fun q => if q < 0 then gA g 208 q else gA g 207 q) = gA g 207 := by funext q; rw [if_neg (by omega)]
      rw [this, sA_id]
    rw [e2] at h0
    exact h0
  · intro F i hi
    have e6 : upd (fun q => if q < i then gA g 208 q else gA g 207 q) i (gA g 208 i) = fun q => if q < i + 1 then gA g 208 q else gA g 207 q := by
      funext q
      rw [upd_e]
      by_cases c : q = i
      · rw [if_pos c, if_pos (by omega), c]
      · rw [if_neg c]
        by_cases c2 : q < i
        · rw [if_pos c2, if_pos (by omega)]
        · rw [if_neg c2, if_neg (by omega)]
    have e7 : ¬ (208 = 207) := by omega
    simp (disch := omega) only [fX12_back_16, fr_206_1, ia_207, iw_207, fr_206_2, ia_208, iw_208, fw_206_6, ab_bd_some, ck_t, ck_T, cb_0, cb_1, ab_jn, if_true, if_false, hi, gA_sA1, gA_sA2 _ _ e7, sA_sA, e6, nI_add, pk_mul, nI_ltI, nI_leI, nI_eq]
  · intro F
    simp (disch := omega) only [fX12_back_16, fr_206_1, ia_207, iw_207, fr_206_2, ia_208, iw_208, fw_206_6, ab_bd_some, ck_t, ck_T, cb_0, cb_1, ab_jn, if_true, if_false, Nat.lt_irrefl, nI_add, pk_mul, nI_ltI, nI_leI, nI_eq]
    rfl
theorem cp984_lt {a b : Nat → Int32} {q : Nat} (h : q < 984) : cp984 a b q = a q := if_pos h
theorem c_image {g : gG} (R : RE Nq g) {F : Nat} (hF : 11000 < F) : ∃ g1 g2, fX11_image 0 (gH g) = some (gH g1) ∧ fX12_image F 206 (gH g1) = some (gH g2) ∧ RE Nq g2 := by
  have R0 := R
  obtain ⟨n, k, s, f, R⟩ := R
  have S := R.1
  have V := S.1
  obtain ⟨rn, h10, rk, h12⟩ := R.rv
  have W := V
  obtain ⟨hx, hn, _, hk, _, e3, e4, e5, e6, e7, e8, e11, e9, e10⟩ := W
  have hs : s ≤ 12 := R.2.1.1
  obtain ⟨r1, r2, r3, r4, r5, r6, r7, r8, r9, r10, r11⟩ := R
  have hc := cl_copy g isSt30 isSt6 (by omega)
  have C := cpS_Cp g (x := 30) (y := 6) (by omega)
  generalize cpS g 30 6 = gc at hc C
  have cF : ∀ b, b ≠ 0 → b ≠ 206 → (b < 30 ∨ 42 ≤ b) → gF (sF (sA (sF (sF gc 0 9 (nI 1)) 206 0 (nI 0)) 208 (cp984 (gA g 207) (gA g 208))) 206 3 (nI 1)) b = gF g b := fun b h0 h6 hb => by
    rw [gF_sF2 _ _ h6, gF_sA, gF_sF2 _ _ h6, gF_sF2 _ _ h0, (C.1 b (by omega)).1]
  have cA : ∀ b, b ≠ 208 → (b < 30 ∨ 42 ≤ b) → gA (sF (sA (sF (sF gc 0 9 (nI 1)) 206 0 (nI 0)) 208 (cp984 (gA g 207) (gA g 208))) 206 3 (nI 1)) b = gA g b := fun b h0 hb => by
    rw [gA_sF, gA_sA2 _ _ h0, gA_sF, gA_sF, (C.1 b (by omega)).2.1]
  have cL : ∀ b, (b < 30 ∨ 42 ≤ b) → gL (sF (sA (sF (sF gc 0 9 (nI 1)) 206 0 (nI 0)) 208 (cp984 (gA g 207) (gA g 208))) 206 3 (nI 1)) b = gL g b := fun b hb => by
    rw [gL_sF, gL_sA, gL_sF, gL_sF, (C.1 b (by omega)).2.2.1]
  have cw : ∀ b, (b < 30 ∨ 42 ≤ b) → gw (sF (sA (sF (sF gc 0 9 (nI 1)) 206 0 (nI 0)) 208 (cp984 (gA g 207) (gA g 208))) 206 3 (nI 1)) b = gw g b := fun b hb => by
    rw [gw_sF, gw_sA, gw_sF, gw_sF, (C.1 b (by omega)).2.2.2]
  have c6 : ∀ j, j ≠ 0 → j ≠ 3 → gF (sF (sA (sF (sF gc 0 9 (nI 1)) 206 0 (nI 0)) 208 (cp984 (gA g 207) (gA g 208))) 206 3 (nI 1)) 206 j = gF g 206 j := fun j h1 h2 => by
    rw [gF_sF1, upd_2 _ _ h2, gF_sA, gF_sF1, upd_2 _ _ h1, gF_sF2 _ _ (by omega), (C.1 206 (by omega)).1]
  have c0 : ∀ j, j ≠ 9 → gF (sF (sA (sF (sF gc 0 9 (nI 1)) 206 0 (nI 0)) 208 (cp984 (gA g 207) (gA g 208))) 206 3 (nI 1)) 0 j = gF g 0 j := fun j h1 => by
    rw [gF_sF2 _ _ (by omega), gF_sA, gF_sF2 _ _ (by omega), gF_sF1, upd_2 _ _ h1, (C.1 0 (by omega)).1]
  have z8 : gA (sF (sA (sF (sF gc 0 9 (nI 1)) 206 0 (nI 0)) 208 (cp984 (gA g 207) (gA g 208))) 206 3 (nI 1)) 208 = cp984 (gA g 207) (gA g 208) := by rw [gA_sF, gA_sA1]
  have z9 : gF (sF (sA (sF (sF gc 0 9 (nI 1)) 206 0 (nI 0)) 208 (cp984 (gA g 207) (gA g 208))) 206 3 (nI 1)) 0 9 = nI 1 := by rw [gF_sF2 _ _ (by omega), gF_sA, gF_sF2 _ _ (by omega), gF_sF1, upd_1]
  have m7 := cA 207 (by omega) (by omega)
  have El0 : ∀ L m, LW g L m → isLw (sF (sA (sF (sF gc 0 9 (nI 1)) 206 0 (nI 0)) 208 (cp984 (gA g 207) (gA g 208))) 206 3 (nI 1)) L ∧ gF (sF (sA (sF (sF gc 0 9 (nI 1)) 206 0 (nI 0)) 208 (cp984 (gA g 207) (gA g 208))) 206 3 (nI 1)) L = gF g L ∧ gA (sF (sA (sF (sF gc 0 9 (nI 1)) 206 0 (nI 0)) 208 (cp984 (gA g 207) (gA g 208))) 206 3 (nI 1)) (L + 2) = gA g (L + 2) := by
    intro L m h
    have hL : L = 1 ∨ 220 ≤ L := by rcases h.1 with h | ⟨i, h, _⟩ <;> omega
    exact ⟨h.1.keep C.2.1, cF L (by omega) (by omega) (by omega), cA (L + 2) (by omega) (by omega)⟩
  have LW1 : ∀ m', (∀ i, i < 984 → m' i = gA g 207 i) → LW (sF (sA (sF (sF gc 0 9 (nI 1)) 206 0 (nI 0)) 208 (cp984 (gA g 207) (gA g 208))) 206 3 (nI 1)) (gw g 6) m' := by
    intro m' hm
    obtain ⟨l1, l2, l3⟩ := El0 _ _ r9
    obtain ⟨s1, s2, s3⟩ := r9
    have et : cut m' = cut (gA g 207) := by
      funext i
      unfold cut
      by_cases c : i < 400
      · rw [if_pos c, if_pos c, hm _ (by omega)]
      · rw [if_neg c, if_neg c]
    refine ⟨l1, by rw [l2, hm 1 (by omega)]; exact s2, ?_⟩
    rw [l3, et, hm 1 (by omega), hm 2 (by omega)]
    have : gl (sF (sA (sF (sF gc 0 9 (nI 1)) 206 0 (nI 0)) 208 (cp984 (gA g 207) (gA g 208))) 206 3 (nI 1)) (gw g 6 + 2) = gl g (gw g 6 + 2) := C.2.2.1 _
    rw [this]
    exact s3
  refine ⟨sF gc 0 9 (nI 1), sF (sA (sF (sF gc 0 9 (nI 1)) 206 0 (nI 0)) 208 (cp984 (gA g 207) (gA g 208))) 206 3 (nI 1), ?_, ?_, n, k, s, f, ?_⟩
  · simp (disch := first | omega | assumption | exact isSt6 | exact isSt18 | exact isSt30) only [fX11_image, io_s, fr_0_3, fr_0_1, fw_0_9, bdS, ck_t, ck_T, cb_0, cb_1, ab_jn, if_true, if_false, io_s, hc, reduceCtorEq, m1_ne, and_true, true_and, and_false, false_and, not_true_eq_false, not_false_eq_true, ne_eq, decide_true, decide_false, Bool.false_eq_true, ite_true, ite_false, if_true, if_false, Nat.add_zero, Bool.and_true, Bool.true_and, Bool.and_false, Bool.false_and, Bool.or_true, Bool.true_or, Bool.or_false, Bool.false_or, decide_not, Bool.not_true, Bool.not_false, or_true, true_or, or_false, false_or, or_self, and_self, decide_eq_true_eq]
  · have u := rl_image (sF (sF gc 0 9 (nI 1)) 206 0 (nI 0)) hF
    simp only [gA_sF, (C.1 207 (by omega)).2.1, (C.1 208 (by omega)).2.1] at u
    simp (disch := first | omega | assumption | exact isSt6 | exact isSt18 | exact isSt30) only [fX12_image, fw_206_0, bdS, ck_t, ck_T, cb_0, cb_1, ab_jn, if_true, if_false, u, reduceCtorEq, m1_ne, and_true, true_and, and_false, false_and, not_true_eq_false, not_false_eq_true, ne_eq, decide_true, decide_false, Bool.false_eq_true, ite_true, ite_false, if_true, if_false, Nat.add_zero, Bool.and_true, Bool.true_and, Bool.and_false, Bool.false_and, Bool.or_true, Bool.true_or, Bool.or_false, Bool.false_or, decide_not, Bool.not_true, Bool.not_false, or_true, true_or, or_false, false_or, or_self, and_self, decide_eq_true_eq]
  · refine ⟨?_, ?_, ?_, ?_, ⟨?_, Or.inr ⟨z9, ?_, n, k, ?_⟩⟩, ?_, ?_, ?_, ?_, ?_, r11.keep (c6 15 (by omega) (by omega)) (c6 16 (by omega) (by omega)) C.2.1⟩
    · rw [m7]; exact r1.keep (fun r hr => ⟨cF _ (by omega) (by omega) (by omega), cA _ (by omega) (by omega), cL _ (by omega)⟩)
    · rw [cA 210 (by omega) (by omega)]; exact r2.keep (fun b h1 h2 => ⟨cF b (by omega) (by omega) (by omega), cA b (by omega) (by omega), cL b (by omega), cw b (by omega)⟩) (cw 6 (by omega))
    · rw [c6 6 (by omega) (by omega)]; exact r3
    · obtain ⟨L, t1, t2, t3, t4⟩ := r4
      refine ⟨L, t1, ?_, ?_, fun i hi => ?_⟩
      · rw [cF 4 (by omega) (by omega) (by omega)]; exact t2
      · rw [c6 8 (by omega) (by omega)]; exact t3
      · rw [cA 5 (by omega) (by omega), cA 211 (by omega) (by omega)]; exact t4 i hi
    · rw [z9, gF_sF1, upd_1]
    · rw [gw_sF, gw_sA, gw_sF, gw_sF, C.2.2.2.2.1, z8]
      exact LW1 _ (fun i hi => cp984_lt hi)
    · rw [z8]
      have S1 := r1.copy isSt30 C
      exact SR.cg (S1.keep (fun r hr => ⟨by rw [gF_sF2 _ _ (by omega), gF_sA, gF_sF2 _ _ (by omega), gF_sF2 _ _ (by omega)], by rw [gA_sF, gA_sA2 _ _ (by omega), gA_sF, gA_sF], rfl⟩)) (fun i hi => cp984_lt (by omega))
    · rw [c0 10 (by omega), c6 12 (by omega) (by omega)]; exact r6
    · rw [cF 192 (by omega) (by omega) (by omega)]; exact r7
    · rw [cF 194 (by omega) (by omega) (by omega)]; exact r8
    · rw [cw 6 (by omega), m7]; exact LW1 _ (fun _ _ => rfl)
    · rw [m7, cA 210 (by omega) (by omega)]; exact r10
theorem cb_back {g : gG} (R : RE Nq g) {F : Nat} (hF : 11000 < F) : Cb Nq (fX11_back 0 (gH g)) (fun g1 => fX12_back F 206 (gH g1)) := by
  have R0 := R
  obtain ⟨n, k, s, f, R⟩ := R
  have S := R.1
  have V := S.1
  obtain ⟨rn, h10, rk, h12⟩ := R.rv
  have W := V
  obtain ⟨hx, hn, _, hk, _, e3, e4, e5, e6, e7, e8, e11, e9, e10⟩ := W
  have hs : s ≤ 12 := R.2.1.1
  have R1 := R
  obtain ⟨r1, r2, r3, r4, ⟨i1, i2⟩, r6, r7, r8, r9, r10, r11⟩ := R
  rcases i2 with i2 | ⟨i2, i3, n', k', i4⟩
  · refine ⟨nI 0, g, sF g 206 0 (nI 0), ?_, ?_, n, k, s, f, R1.thr _⟩
    · simp (disch := first | omega | assumption | exact isSt6 | exact isSt18 | exact isSt30) only [fX11_back, io_s, io_42, fi_0_9, fr_0_1, fr_0_3, fr_0_4, bdS, ck_t, ck_T, cb_0, cb_1, ab_jn, if_true, if_false, i2, z_eq, reduceCtorEq, m1_ne, and_true, true_and, and_false, false_and, not_true_eq_false, not_false_eq_true, ne_eq, decide_true, decide_false, Bool.false_eq_true, ite_true, ite_false, if_true, if_false, Nat.add_zero, Bool.and_true, Bool.true_and, Bool.and_false, Bool.false_and, Bool.or_true, Bool.true_or, Bool.or_false, Bool.false_or, decide_not, Bool.not_true, Bool.not_false, or_true, true_or, or_false, false_or, or_self, and_self, decide_eq_true_eq]
    · have e : upd (gF g 206) 0 (nI 0) 3 = nI 0 := by rw [upd_2 _ _ (by omega), ← i1]; exact i2
      simp (disch := first | omega | assumption | exact isSt6 | exact isSt18 | exact isSt30) only [fX12_back, fw_206_0, fi_206_3, bdS, ck_t, ck_T, cb_0, cb_1, ab_jn, if_true, if_false, gF_sF1, e, z_eq, reduceCtorEq, m1_ne, and_true, true_and, and_false, false_and, not_true_eq_false, not_false_eq_true, ne_eq, decide_true, decide_false, Bool.false_eq_true, ite_true, ite_false, if_true, if_false, Nat.add_zero, Bool.and_true, Bool.true_and, Bool.and_false, Bool.false_and, Bool.or_true, Bool.true_or, Bool.or_false, Bool.false_or, decide_not, Bool.not_true, Bool.not_false, or_true, true_or, or_false, false_or, or_self, and_self, decide_eq_true_eq]
  · have hc := cl_copy g isSt6 isSt30 (by omega)
    have C := cpS_Cp g (x := 6) (y := 30) (by omega)
    generalize cpS g 6 30 = gc at hc C
    have cF : ∀ b, b ≠ 42 → b ≠ 206 → (b < 6 ∨ 18 ≤ b) → gF (sF (sA (sF (sF gc 42 2 (nI 0)) 206 0 (nI 0)) 207 (cp984 (gA g 208) (gA g 207))) 206 6 (nI 0)) b = gF g b := fun b h0 h6 hb => by
      rw [gF_sF2 _ _ h6, gF_sA, gF_sF2 _ _ h6, gF_sF2 _ _ h0, (C.1 b (by omega)).1]
    have cA : ∀ b, b ≠ 207 → (b < 6 ∨ 18 ≤ b) → gA (sF (sA (sF (sF gc 42 2 (nI 0)) 206 0 (nI 0)) 207 (cp984 (gA g 208) (gA g 207))) 206 6 (nI 0)) b = gA g b := fun b h0 hb => by
      rw [gA_sF, gA_sA2 _ _ h0, gA_sF, gA_sF, (C.1 b (by omega)).2.1]
    have cL : ∀ b, (b < 6 ∨ 18 ≤ b) → gL (sF (sA (sF (sF gc 42 2 (nI 0)) 206 0 (nI 0)) 207 (cp984 (gA g 208) (gA g 207))) 206 6 (nI 0)) b = gL g b := fun b hb => by
      rw [gL_sF, gL_sA, gL_sF, gL_sF, (C.1 b (by omega)).2.2.1]
    have cw : ∀ b, (b < 6 ∨ 18 ≤ b) → gw (sF (sA (sF (sF gc 42 2 (nI 0)) 206 0 (nI 0)) 207 (cp984 (gA g 208) (gA g 207))) 206 6 (nI 0)) b = gw g b := fun b hb => by
      rw [gw_sF, gw_sA, gw_sF, gw_sF, (C.1 b (by omega)).2.2.2]
    have w6 : gw (sF (sA (sF (sF gc 42 2 (nI 0)) 206 0 (nI 0)) 207 (cp984 (gA g 208) (gA g 207))) 206 6 (nI 0)) 6 = gw g 30 := by
      rw [gw_sF, gw_sA, gw_sF, gw_sF, C.2.2.2.2.1]
    have c6 : ∀ j, j ≠ 0 → j ≠ 6 → gF (sF (sA (sF (sF gc 42 2 (nI 0)) 206 0 (nI 0)) 207 (cp984 (gA g 208) (gA g 207))) 206 6 (nI 0)) 206 j = gF g 206 j := fun j h1 h2 => by
      rw [gF_sF1, upd_2 _ _ h2, gF_sA, gF_sF1, upd_2 _ _ h1, gF_sF2 _ _ (by omega), (C.1 206 (by omega)).1]
    have E : El g (sF (sA (sF (sF gc 42 2 (nI 0)) 206 0 (nI 0)) 207 (cp984 (gA g 208) (gA g 207))) 206 6 (nI 0)) :=
      ⟨C.2.1, C.2.2.1, fun b hb => cF b (by omega) (by omega) (by omega), cA 3 (by omega) (by omega), fun b h1 h2 => cA b (by omega) (by omega)⟩
    have z7 : gA (sF (sA (sF (sF gc 42 2 (nI 0)) 206 0 (nI 0)) 207 (cp984 (gA g 208) (gA g 207))) 206 6 (nI 0)) 207 = cp984 (gA g 208) (gA g 207) := by rw [gA_sF, gA_sA1]
    have z0 := cF 0 (by omega) (by omega) (by omega)
    have z8 := cA 208 (by omega) (by omega)
    refine ⟨nI 1, sF gc 42 2 (nI 0), sF (sA (sF (sF gc 42 2 (nI 0)) 206 0 (nI 0)) 207 (cp984 (gA g 208) (gA g 207))) 206 6 (nI 0), ?_, ?_, n', k', 0, f, ?_⟩
    · have hf : fX6_forget 42 (gH gc) = some (gH (sF gc 42 2 (nI 0))) := by simp (disch := first | omega | assumption | exact isSt6 | exact isSt18 | exact isSt30) only [fX6_forget, fw_42_2, bdS, ck_t, ck_T, cb_0, cb_1, ab_jn, if_true, if_false]
      simp (disch := first | omega | assumption | exact isSt6 | exact isSt18 | exact isSt30) only [fX11_back, io_s, io_42, fi_0_9, fr_0_1, fr_0_3, fr_0_4, bdS, ck_t, ck_T, cb_0, cb_1, ab_jn, if_true, if_false, i2, z_eq, io_s, hc, hf, reduceCtorEq, m1_ne, and_true, true_and, and_false, false_and, not_true_eq_false, not_false_eq_true, ne_eq, decide_true, decide_false, Bool.false_eq_true, ite_true, ite_false, if_true, if_false, Nat.add_zero, Bool.and_true, Bool.true_and, Bool.and_false, Bool.false_and, Bool.or_true, Bool.true_or, Bool.or_false, Bool.false_or, decide_not, Bool.not_true, Bool.not_false, or_true, true_or, or_false, false_or, or_self, and_self, decide_eq_true_eq]
    · have e : upd (gF (sF gc 42 2 (nI 0)) 206) 0 (nI 0) 3 = nI 1 := by rw [upd_2 _ _ (by omega), gF_sF2 _ _ (by omega), (C.1 206 (by omega)).1, ← i1]; exact i2
      have u := rl_back (sF (sF gc 42 2 (nI 0)) 206 0 (nI 0)) hF
      simp only [gA_sF, (C.1 207 (by omega)).2.1, (C.1 208 (by omega)).2.1] at u
      simp (disch := first | omega | assumption | exact isSt6 | exact isSt18 | exact isSt30) only [fX12_back, fw_206_0, fi_206_3, bdS, ck_t, ck_T, cb_0, cb_1, ab_jn, if_true, if_false, gF_sF1, e, z_eq, u, reduceCtorEq, m1_ne, and_true, true_and, and_false, false_and, not_true_eq_false, not_false_eq_true, ne_eq, decide_true, decide_false, Bool.false_eq_true, ite_true, ite_false, if_true, if_false, Nat.add_zero, Bool.and_true, Bool.true_and, Bool.and_false, Bool.false_and, Bool.or_true, Bool.true_or, Bool.or_false, Bool.false_or, decide_not, Bool.not_true, Bool.not_false, or_true, true_or, or_false, false_or, or_self, and_self, decide_eq_true_eq]
    · refine ⟨?_, ⟨by omega, r2.2.1, ?_, ?_, fun j hj => absurd hj (Nat.not_lt_zero j)⟩, ?_, ?_, ⟨?_, ?_⟩, ?_, ?_, ?_, ?_, fun j hj => absurd hj (Nat.not_lt_zero j), r11.keep (c6 15 (by omega) (by omega)) (c6 16 (by omega) (by omega)) E.1⟩
      · rw [z7]
        have S1 := i4.copy isSt6 C
        exact SR.cg (S1.keep (fun r hr => ⟨by rw [gF_sF2 _ _ (by omega), gF_sA, gF_sF2 _ _ (by omega), gF_sF2 _ _ (by omega)], by rw [gA_sF, gA_sA2 _ _ (by omega), gA_sF, gA_sF], rfl⟩)) (fun i hi => cp984_lt (by omega))
      · rw [gF_sF2 _ _ (by omega), gF_sA, gF_sF2 _ _ (by omega), gF_sF1, upd_1]
      · rw [gF_sF2 _ _ (by omega), gF_sA, gF_sF2 _ _ (by omega), gF_sF1, upd_2 _ _ (by omega), (C.1 42 (by omega)).1]; exact r2.2.2.2.1
      · rw [gF_sF1, upd_1]
      · obtain ⟨L, t1, t2, t3, t4⟩ := r4
        refine ⟨L, t1, ?_, ?_, fun i hi => ?_⟩
        · rw [cF 4 (by omega) (by omega) (by omega)]; exact t2
        · rw [c6 8 (by omega) (by omega)]; exact t3
        · rw [cA 5 (by omega) (by omega), cA 211 (by omega) (by omega)]; exact t4 i hi
      · rw [z0, c6 3 (by omega) (by omega)]; exact i1
      · rw [z0, z8]
        refine Or.inr ⟨i2, ?_, n', k', ?_⟩
        · rw [cw 30 (by omega)]; exact i3.keep E rfl rfl (fun _ _ _ => rfl)
        · exact i4.keep (fun r hr => ⟨cF _ (by omega) (by omega) (by omega), cA _ (by omega) (by omega), cL _ (by omega)⟩)
      · rw [z0, c6 12 (by omega) (by omega)]; exact r6
      · rw [cF 192 (by omega) (by omega) (by omega)]; exact r7
      · rw [cF 194 (by omega) (by omega) (by omega)]; exact r8
      · rw [w6, z7]; exact i3.keep E (cp984_lt (by omega)) (cp984_lt (by omega)) (fun i _ hi => cp984_lt hi)
