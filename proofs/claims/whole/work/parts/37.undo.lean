variable {Nq : Nat}
/-! ===== calls: undo, image, back ===== -/
theorem cl_takeBack (g : gG) {s f : Nat} (hs : s ≤ 12) (h0 : 0 < s) (h1 : gF g 42 2 = nI s) (h2 : gF g 42 1 = nI f) (hf : f < 12) : fX6_takeBack 42 6 (gH g) = some (nI 1, gH (cpS (sF g 42 2 (nI (s - 1))) 6 (44 + 12 * ((f + (s - 1)) % 12)))) := by
  have hm : (f + (s - 1)) % 12 < 12 := Nat.mod_lt _ (by decide)
  have e1 : nI s - nI 1 = nI (s - 1) := pk_sub (by omega)
  have e2 : ¬ (1 = 2) := by omega
  have e3 : ¬ s = 0 := by omega
  have hc := cl_copy (sF g 42 2 (nI (s - 1))) isSt6 (isStP hm) (by omega)
  simp (disch := first | omega | assumption | exact isSt6 | exact isSt18 | exact isSt30) only [fX6_takeBack, io_s, fi_42_2, fw_42_2, fr_42_0, ra_43, fi_42_1, bdS, ck_t, ck_T, cb_0, cb_1, ab_jn, if_true, if_false, ra_43, h1, h2, n12, rm_12, gF_sF1, upd_1, upd_2 _ _ e2, z_eq, e1, e3, hc, io_s, nI_add, pk_mul, nI_ltI, nI_leI, nI_eq, reduceCtorEq, m1_ne, and_true, true_and, and_false, false_and, not_true_eq_false, not_false_eq_true, ne_eq, decide_true, decide_false, Bool.false_eq_true, ite_true, ite_false, if_true, if_false, Nat.add_zero, Bool.and_true, Bool.true_and, Bool.and_false, Bool.false_and, Bool.or_true, Bool.true_or, Bool.or_false, Bool.false_or, decide_not, Bool.not_true, Bool.not_false, or_true, true_or, or_false, false_or, or_self, and_self, decide_eq_true_eq]
theorem rl_undo (g : gG) {s : Nat} (hs : s < 12) (h : gF g 206 6 = nI s) {F : Nat} (hF : 11000 < F) : fX12_undo_26 206 F (nI 0) (gH g) = some (nI 1, gH (sA g 207 (fun q => if q < 584 then gA g 210 (584 * s + q) else gA g 207 q))) := by
  have h0 := lp0 (L := fun F' i (g : gG) => fX12_undo_26 206 F' i (gH g)) (n := 584) (fun i => sA g 207 (fun q => if q < i then gA g 210 (584 * s + q) else gA g 207 q)) (some (nI 1, gH (sA g 207 (fun q => if q < 584 then gA g 210 (584 * s + q) else gA g 207 q)))) ?_ ?_ F (by omega)
  · have e2 : sA g 207 (fun q => if q < 0 then gA g 210 (584 * s + q) else gA g 207 q) = g := by
      have : (fun q => if q < 0 then gA g 210 (584 * s + q) else gA g 207 q) = gA g 207 := by funext q; rw [if_neg (by omega)]
      rw [this, sA_id]
    rw [e2] at h0
    exact h0
  · intro F i hi
    have e6 : upd (fun q => if q < i then gA g 210 (584 * s + q) else gA g 207 q) i (gA g 210 (584 * s + i)) = fun q => if q < i + 1 then gA g 210 (584 * s + q) else gA g 207 q := by
      funext q
      rw [upd_e]
      by_cases c : q = i
      · rw [if_pos c, if_pos (by omega), c]
      · rw [if_neg c]
        by_cases c2 : q < i
        · rw [if_pos c2, if_pos (by omega)]
        · rw [if_neg c2, if_neg (by omega)]
    have e7 : ¬ (210 = 207) := by omega
    simp (disch := omega) only [fX12_undo_26, fr_206_1, ia_207, iw_207, fr_206_5, ia_210, iw_210, fi_206_6, ab_bd_some, ck_t, ck_T, cb_0, cb_1, ab_jn, if_true, if_false, h, hi, gF_sA, gA_sA1, gA_sA2 _ _ e7, sA_sA, e6, nI_add, pk_mul, nI_ltI, nI_leI, nI_eq]
  · intro F
    simp (disch := omega) only [fX12_undo_26, fr_206_1, ia_207, iw_207, fr_206_5, ia_210, iw_210, fi_206_6, ab_bd_some, ck_t, ck_T, cb_0, cb_1, ab_jn, if_true, if_false, Nat.lt_irrefl, nI_add, pk_mul, nI_ltI, nI_leI, nI_eq]
theorem cb_undo {g : gG} (R : RE Nq g) {F : Nat} (hF : 11000 < F) : Cb Nq (fX11_undo 0 (gH g)) (fun g1 => fX12_undo F 206 (gH g1)) := by
  have R0 := R
  obtain ⟨n, k, s, f, R⟩ := R
  have S := R.1
  have V := S.1
  obtain ⟨rn, h10, rk, h12⟩ := R.rv
  have W := V
  obtain ⟨hx, hn, _, hk, _, e3, e4, e5, e6, e7, e8, e11, e9, e10⟩ := W
  have hs : s ≤ 12 := R.2.1.1
  obtain ⟨r1, r2, r3, r4, r5, r6, r7, r8, r9, r10, r11⟩ := R
  obtain ⟨p1, p2, p3, p4, p5⟩ := r2
  by_cases c : s = 0
  · subst c
    refine ⟨nI 0, g, sF g 206 0 (nI 0), ?_, ?_, n, k, 0, f, Re.thr ⟨r1, ⟨p1, p2, p3, p4, p5⟩, r3, r4, r5, r6, r7, r8, r9, r10, r11⟩ _⟩
    · have hb : fX6_takeBack 42 6 (gH g) = some (nI 0, gH g) := by
        simp (disch := first | omega | assumption | exact isSt6 | exact isSt18 | exact isSt30) only [fX6_takeBack, io_s, fi_42_2, fw_42_2, fr_42_0, ra_43, fi_42_1, bdS, ck_t, ck_T, cb_0, cb_1, ab_jn, if_true, if_false, p3, z_eq, reduceCtorEq, m1_ne, and_true, true_and, and_false, false_and, not_true_eq_false, not_false_eq_true, ne_eq, decide_true, decide_false, Bool.false_eq_true, ite_true, ite_false, if_true, if_false, Nat.add_zero, Bool.and_true, Bool.true_and, Bool.and_false, Bool.false_and, Bool.or_true, Bool.true_or, Bool.or_false, Bool.false_or, decide_not, Bool.not_true, Bool.not_false, or_true, true_or, or_false, false_or, or_self, and_self, decide_eq_true_eq]
      simp (disch := first | omega | assumption | exact isSt6 | exact isSt18 | exact isSt30) only [fX11_undo, io_42, fr_0_4, fr_0_1, bdS, ck_t, ck_T, cb_0, cb_1, ab_jn, if_true, if_false, hb, reduceCtorEq, m1_ne, and_true, true_and, and_false, false_and, not_true_eq_false, not_false_eq_true, ne_eq, decide_true, decide_false, Bool.false_eq_true, ite_true, ite_false, if_true, if_false, Nat.add_zero, Bool.and_true, Bool.true_and, Bool.and_false, Bool.false_and, Bool.or_true, Bool.true_or, Bool.or_false, Bool.false_or, decide_not, Bool.not_true, Bool.not_false, or_true, true_or, or_false, false_or, or_self, and_self, decide_eq_true_eq]
    · have e : upd (gF g 206) 0 (nI 0) 6 = nI 0 := by rw [upd_2 _ _ (by omega)]; exact r3
      simp (disch := first | omega | assumption | exact isSt6 | exact isSt18 | exact isSt30) only [fX12_undo, fw_206_0, fi_206_6, fw_206_6, bdS, ck_t, ck_T, cb_0, cb_1, ab_jn, if_true, if_false, gF_sF1, e, z_eq, reduceCtorEq, m1_ne, and_true, true_and, and_false, false_and, not_true_eq_false, not_false_eq_true, ne_eq, decide_true, decide_false, Bool.false_eq_true, ite_true, ite_false, if_true, if_false, Nat.add_zero, Bool.and_true, Bool.true_and, Bool.and_false, Bool.false_and, Bool.or_true, Bool.true_or, Bool.or_false, Bool.false_or, decide_not, Bool.not_true, Bool.not_false, or_true, true_or, or_false, false_or, or_self, and_self, decide_eq_true_eq]
  · have hm : (f + (s - 1)) % 12 < 12 := Nat.mod_lt _ (by decide)
    have tb := cl_takeBack g p1 (by omega) p3 p4 p2
    have C := cpS_Cp (sF g 42 2 (nI (s - 1))) (x := 6) (y := 44 + 12 * ((f + (s - 1)) % 12)) (by omega)
    generalize cpS (sF g 42 2 (nI (s - 1))) 6 (44 + 12 * ((f + (s - 1)) % 12)) = g1 at tb C
    obtain ⟨q1, n', k', q2⟩ := p5 (s - 1) (by omega)
    have cF : ∀ b, b ≠ 42 → (b < 6 ∨ 18 ≤ b) → gF g1 b = gF g b := fun b hb hb' => by rw [(C.1 b (by omega)).1, gF_sF2 _ _ hb]
    have cA : ∀ b, (b < 6 ∨ 18 ≤ b) → gA g1 b = gA g b := fun b hb' => by rw [(C.1 b (by omega)).2.1]; rfl
    have cL : ∀ b, (b < 6 ∨ 18 ≤ b) → gL g1 b = gL g b := fun b hb' => by rw [(C.1 b (by omega)).2.2.1]; rfl
    have cw : ∀ b, (b < 6 ∨ 18 ≤ b) → gw g1 b = gw g b := fun b hb' => by rw [(C.1 b (by omega)).2.2.2]; rfl
    have c6 : gw g1 6 = gw g 6 := by rw [C.2.2.2.2.1, gw_sF]; exact q1
    have m1 : gA g1 207 = gA g 207 := cA 207 (by omega)
    have a1 : gA g1 210 = gA g 210 := cA 210 (by omega)
    have f6 : gF g1 206 = gF g 206 := cF 206 (by omega) (by omega)
    have S1 : SR (sF g 42 2 (nI (s - 1))) _ _ n' k' := q2.keep (fun r hr => ⟨by rw [gF_sF2 _ _ (by omega)], rfl, rfl⟩)
    have S2 := S1.copy isSt6 C
    have S3 : SR g1 6 (fun q => if q < 584 then gA g 210 (584 * (s - 1) + q) else gA g 207 q) n' k' := S2.cg (fun i hi => by simp [hi])
    have hl1 : (if 1 < 584 then gA g 210 (584 * (s - 1) + 1) else gA g 207 1) = gA g 207 1 := by simp only [show (1 < 584) by omega, if_true]; exact (r10 (s - 1) (by omega)).1
    have hl2 : (if 2 < 584 then gA g 210 (584 * (s - 1) + 2) else gA g 207 2) = gA g 207 2 := by simp only [show (2 < 584) by omega, if_true]; exact (r10 (s - 1) (by omega)).2
    refine ⟨nI 1, g1, sA (sF (sF g1 206 0 (nI 0)) 206 6 (nI (s - 1))) 207 (fun q => if q < 584 then gA g 210 (584 * (s - 1) + q) else gA g 207 q), ?_, ?_, n', k', s - 1, f, ?_⟩
    · simp (disch := first | omega | assumption | exact isSt6 | exact isSt18 | exact isSt30) only [fX11_undo, io_42, fr_0_4, fr_0_1, bdS, ck_t, ck_T, cb_0, cb_1, ab_jn, if_true, if_false, tb, reduceCtorEq, m1_ne, and_true, true_and, and_false, false_and, not_true_eq_false, not_false_eq_true, ne_eq, decide_true, decide_false, Bool.false_eq_true, ite_true, ite_false, if_true, if_false, Nat.add_zero, Bool.and_true, Bool.true_and, Bool.and_false, Bool.false_and, Bool.or_true, Bool.true_or, Bool.or_false, Bool.false_or, decide_not, Bool.not_true, Bool.not_false, or_true, true_or, or_false, false_or, or_self, and_self, decide_eq_true_eq]
    · have e : upd (gF g1 206) 0 (nI 0) 6 = nI s := by rw [upd_2 _ _ (by omega), f6]; exact r3
      have e1 : nI s - nI 1 = nI (s - 1) := pk_sub (by omega)
      have u := rl_undo (sF (sF g1 206 0 (nI 0)) 206 6 (nI (s - 1))) (s := s - 1) (by omega) (by rw [gF_sF1, upd_1]) hF
      simp only [gA_sF, m1, a1] at u
      simp (disch := first | omega | assumption | exact isSt6 | exact isSt18 | exact isSt30) only [fX12_undo, fw_206_0, fi_206_6, fw_206_6, bdS, ck_t, ck_T, cb_0, cb_1, ab_jn, if_true, if_false, gF_sF1, e, e1, z_eq, c, u, reduceCtorEq, m1_ne, and_true, true_and, and_false, false_and, not_true_eq_false, not_false_eq_true, ne_eq, decide_true, decide_false, Bool.false_eq_true, ite_true, ite_false, if_true, if_false, Nat.add_zero, Bool.and_true, Bool.true_and, Bool.and_false, Bool.false_and, Bool.or_true, Bool.true_or, Bool.or_false, Bool.false_or, decide_not, Bool.not_true, Bool.not_false, or_true, true_or, or_false, false_or, or_self, and_self, decide_eq_true_eq]
    · have zF : ∀ b, b ≠ 42 → b ≠ 206 → (b < 6 ∨ 18 ≤ b) → gF (sA (sF (sF g1 206 0 (nI 0)) 206 6 (nI (s - 1))) 207 (fun q => if q < 584 then gA g 210 (584 * (s - 1) + q) else gA g 207 q)) b = gF g b := fun b h1 h2 h3 => by
        rw [gF_sA, gF_sF2 _ _ h2, gF_sF2 _ _ h2, cF b h1 h3]
      have zA : ∀ b, b ≠ 207 → (b < 6 ∨ 18 ≤ b) → gA (sA (sF (sF g1 206 0 (nI 0)) 206 6 (nI (s - 1))) 207 (fun q => if q < 584 then gA g 210 (584 * (s - 1) + q) else gA g 207 q)) b = gA g b := fun b h1 h3 => by
        rw [gA_sA2 _ _ h1, gA_sF, gA_sF, cA b h3]
      have z6 : ∀ j, j ≠ 0 → j ≠ 6 → gF (sA (sF (sF g1 206 0 (nI 0)) 206 6 (nI (s - 1))) 207 (fun q => if q < 584 then gA g 210 (584 * (s - 1) + q) else gA g 207 q)) 206 j = gF g 206 j := fun j h1 h2 => by
        rw [gF_sA, gF_sF1, upd_2 _ _ h2, gF_sF1, upd_2 _ _ h1, f6]
      have E : El g (sA (sF (sF g1 206 0 (nI 0)) 206 6 (nI (s - 1))) 207 (fun q => if q < 584 then gA g 210 (584 * (s - 1) + q) else gA g 207 q)) :=
        ⟨C.2.1, C.2.2.1, fun b hb => zF b (by omega) (by omega) (by omega), zA 3 (by omega) (by omega), fun b h1 h2 => zA b (by omega) (by omega)⟩
      have z0 := zF 0 (by omega) (by omega) (by omega)
      have z8 := zA 208 (by omega) (by omega)
      refine ⟨?_, ⟨by omega, p2, ?_, ?_, ?_⟩, ?_, ?_, ?_, ?_, ?_, ?_, ?_, ?_, r11.keep (z6 15 (by omega) (by omega)) (z6 16 (by omega) (by omega)) E.1⟩
      · rw [gA_sA1]
        exact S3.keep (fun r hr => ⟨by rw [gF_sA, gF_sF2 _ _ (by omega), gF_sF2 _ _ (by omega)], by rw [gA_sA2 _ _ (by omega)]; rfl, rfl⟩)
      · rw [gF_sA, gF_sF2 _ _ (by omega), gF_sF2 _ _ (by omega), (C.1 42 (by omega)).1, gF_sF1, upd_1]
      · rw [gF_sA, gF_sF2 _ _ (by omega), gF_sF2 _ _ (by omega), (C.1 42 (by omega)).1, gF_sF1, upd_2 _ _ (by omega)]; exact p4
      · intro j hj
        obtain ⟨w1, n2, k2, w2⟩ := p5 j (by omega)
        have hm2 : (f + j) % 12 < 12 := Nat.mod_lt _ (by decide)
        refine ⟨?_, n2, k2, ?_⟩
        · rw [gw_sA, gw_sF, gw_sF, cw _ (by omega), gw_sA, gw_sF, gw_sF, c6]; exact w1
        · rw [zA 210 (by omega) (by omega)]
          exact w2.keep (fun r hr => ⟨zF _ (by omega) (by omega) (by omega), zA _ (by omega) (by omega), by rw [gL_sA, gL_sF, gL_sF, cL _ (by omega)]⟩)
      · rw [gF_sA, gF_sF1, upd_1]
      · obtain ⟨L, t1, t2, t3, t4⟩ := r4
        refine ⟨L, t1, ?_, ?_, fun i hi => ?_⟩
        · rw [zF 4 (by omega) (by omega) (by omega)]; exact t2
        · rw [z6 8 (by omega) (by omega)]; exact t3
        · rw [zA 5 (by omega) (by omega), zA 211 (by omega) (by omega)]; exact t4 i hi
      · obtain ⟨i1, i2⟩ := r5
        refine ⟨by rw [z0, z6 3 (by omega) (by omega)]; exact i1, ?_⟩
        rw [z0]
        refine i2.imp id (fun ⟨j1, j2, n, k, j3⟩ => ⟨j1, ?_, n, k, ?_⟩)
        · rw [gw_sA, gw_sF, gw_sF, cw 30 (by omega), z8]; exact j2.keep E rfl rfl (fun _ _ _ => rfl)
        · rw [z8]; exact j3.keep (fun r hr => ⟨zF _ (by omega) (by omega) (by omega), zA _ (by omega) (by omega), by rw [gL_sA, gL_sF, gL_sF, cL _ (by omega)]⟩)
      · rw [z0, z6 12 (by omega) (by omega)]; exact r6
      · rw [zF 192 (by omega) (by omega) (by omega)]; exact r7
      · rw [zF 194 (by omega) (by omega) (by omega)]; exact r8
      · rw [gw_sA, gw_sF, gw_sF, c6, gA_sA1]
        exact r9.keep E hl1 hl2 (fun i hi _ => by simp only [show ¬ i < 584 by omega, if_false])
      · rw [gA_sA1, zA 210 (by omega) (by omega)]
        intro j hj
        rw [show (fun q => if q < 584 then gA g 210 (584 * (s - 1) + q) else gA g 207 q) 1 = gA g 207 1 from hl1, show (fun q => if q < 584 then gA g 210 (584 * (s - 1) + q) else gA g 207 q) 2 = gA g 207 2 from hl2]
        exact r10 j (by omega)
