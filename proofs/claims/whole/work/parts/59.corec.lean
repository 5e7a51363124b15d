variable {Nq : Nat}
/-! ===== calls: core, gains ===== -/
theorem gsr_G {m : Nat → Int32} {n : Nat} {X : Int32} {G G' : Nat → Int32} {b : Nat} (h : G b = G' b) : ∀ i, gsr m n X G i b = gsr m n X G' i b
  | 0 => h
  | i + 1 => by
    show (if xs m n X i = 0 then gsr m n X G i else gv m n (xs m n X i) (gsr m n X G i)) b = (if xs m n X i = 0 then gsr m n X G' i else gv m n (xs m n X i) (gsr m n X G' i)) b
    by_cases c : xs m n X i = 0
    · rw [if_pos c, if_pos c]; exact gsr_G h i
    · rw [if_neg c, if_neg c]
      unfold gv gj
      rw [gsr_G h i]
theorem rf_trades (g : gG) {n : Nat} (hn : gA g 207 3 = nI n) (h10 : n ≤ 10) {F : Nat} (hF : 11000 < F) {k : Nat} (I : Ix (gA g 207) n) (W : Iw (gA g 207) n k) : fX12_trades F 206 (gH g) = some (gH (sA g 216 (gsr (gA g 207) n (leP (gA g 207) n) (fun q => if q < n then -1 else gA g 216 q) 10))) := by
  have e7 : ¬ (207 = 216) := by omega
  unfold fX12_trades
  have r4 : ∀ K, fX12_trades_4 F 206 K F (nI 0) (nI 0) (gH g) = K (leP (gA g 207) n) (gH (sA g 216 (fun q => if q < n then -1 else gA g 216 q))) := by
    intro K
    have h0 := lp0 (L := fun F' i (a : Int32 × gG) => fX12_trades_4 F 206 K F' a.1 i (gH a.2)) (n := n) (fun i => (nI (st (fun p => !decide (gA g 207 (12 + 6 * p + 2) = -1)) i), sA g 216 (fun q => if q < i then -1 else gA g 216 q))) (K (leP (gA g 207) n) (gH (sA g 216 (fun q => if q < n then -1 else gA g 216 q)))) ?_ ?_ F (by omega)
    · have e2 : sA g 216 (fun q => if q < 0 then -1 else gA g 216 q) = g := by
        have : (fun q => if q < 0 then -1 else gA g 216 q) = gA g 216 := by funext q; rw [if_neg (by omega)]
        rw [this, sA_id]
      rw [e2] at h0; exact h0
    · intro F' i hi
      have e6 : upd (fun q => if q < i then -1 else gA g 216 q) i (-1) = fun q => if q < i + 1 then -1 else gA g 216 q := by
        funext q
        rw [upd_e]
        by_cases c : q = i
        · rw [if_pos c, if_pos (by omega)]
        · rw [if_neg c]
          by_cases c2 : q < i
          · rw [if_pos c2, if_pos (by omega)]
          · rw [if_neg c2, if_neg (by omega)]
      have m1 : ∀ f, gA (sA g 216 f) 207 = gA g 207 := fun f => gA_sA2 _ _ e7
      by_cases c : gA g 207 (12 + 6 * i + 2) = -1 <;>
      simp (disch := omega) only [fX12_trades_4, io_206, fr_206_1, ia_207, iw_207, fr_206_23, ia_216, iw_216, bdS, ck_t, ck_T, cb_0, cb_1, ab_jn, if_true, if_false, m1, hn, hi, rf_of, gA_sA1, sA_sA, e6, c, sh1, st, or_st, or_0, nI_add, pk_mul, nI_ltI, nI_leI, nI_eq, reduceCtorEq, m1_ne, and_true, true_and, and_false, false_and, not_true_eq_false, not_false_eq_true, ne_eq, decide_true, decide_false, Bool.false_eq_true, ite_true, ite_false, if_true, if_false, Nat.add_zero, Bool.and_true, Bool.true_and, Bool.and_false, Bool.false_and, Bool.or_true, Bool.true_or, Bool.or_false, Bool.false_or, decide_not, Bool.not_true, Bool.not_false, or_true, true_or, or_false, false_or, or_self, and_self, decide_eq_true_eq]
    · intro F'
      have m1 : ∀ f, gA (sA g 216 f) 207 = gA g 207 := fun f => gA_sA2 _ _ e7
      simp (disch := omega) only [fX12_trades_4, io_206, fr_206_1, ia_207, iw_207, fr_206_23, ia_216, iw_216, bdS, ck_t, ck_T, cb_0, cb_1, ab_jn, if_true, if_false, m1, hn, Nat.lt_irrefl, nI_add, pk_mul, nI_ltI, nI_leI, nI_eq, reduceCtorEq, m1_ne, and_true, true_and, and_false, false_and, not_true_eq_false, not_false_eq_true, ne_eq, decide_true, decide_false, Bool.false_eq_true, ite_true, ite_false, if_true, if_false, Nat.add_zero, Bool.and_true, Bool.true_and, Bool.and_false, Bool.false_and, Bool.or_true, Bool.true_or, Bool.or_false, Bool.false_or, decide_not, Bool.not_true, Bool.not_false, or_true, true_or, or_false, false_or, or_self, and_self, decide_eq_true_eq]
      rfl
  rw [r4]
  have m1 : gA (sA g 216 (fun q => if q < n then -1 else gA g 216 q)) 207 = gA g 207 := gA_sA2 _ _ e7
  have t := rl_tr47 (sA g 216 (fun q => if q < n then -1 else gA g 216 q)) (n := n) (by rw [m1]; exact hn) h10 hF (X := leP (gA g 207) n) (by rw [m1]; exact Wb_le I W h10)
  rw [m1, gA_sA1, sA_sA] at t
  exact t
/-- the market's cells and the reference's gets are scratch -/
theorem mk_ok {g : gG} {n k s f : Nat} (R : Re Nq g n k s f) (P G G' : Nat → Int32) (t : Int32) : Re Nq (sA (sF (sA (sA g 205 P) 204 G) 206 0 t) 216 G') n k s f := by
  have zF : ∀ b, b ≠ 206 → gF (sA (sF (sA (sA g 205 P) 204 G) 206 0 t) 216 G') b = gF g b := fun b h => by rw [gF_sA, gF_sF2 _ _ h, gF_sA, gF_sA]
  have zA : ∀ b, b ≠ 204 → b ≠ 205 → b ≠ 216 → gA (sA (sF (sA (sA g 205 P) 204 G) 206 0 t) 216 G') b = gA g b := fun b h1 h2 h3 => by rw [gA_sA2 _ _ h3, gA_sF, gA_sA2 _ _ h1, gA_sA2 _ _ h2]
  have z6 : ∀ j, j ≠ 0 → gF (sA (sF (sA (sA g 205 P) 204 G) 206 0 t) 216 G') 206 j = gF g 206 j := fun j hj => by rw [gF_sA, gF_sF1, upd_2 _ _ hj, gF_sA, gF_sA]
  refine R.kp ⟨⟨rfl, fun _ => rfl, fun b hb => zF b (by omega), zA 3 (by omega) (by omega) (by omega), fun b h1 h2 => zA b (by omega) (by omega) (by omega)⟩, fun b h1 h2 => ⟨zF b (by omega), zA b (by omega) (by omega) (by omega), rfl, rfl⟩, fun b h1 h2 => ⟨zF b (by omega), zA b (by omega) (by omega) (by omega), rfl, rfl⟩, zA _ (by omega) (by omega) (by omega), zA _ (by omega) (by omega) (by omega), zA _ (by omega) (by omega) (by omega), fun j hj => z6 j (by omega), congrFun (zF 192 (by omega)) 1, congrFun (zF 194 (by omega)) 1⟩ ?_
  obtain ⟨L, t1, t2, t3, t4⟩ := R.2.2.2.1
  refine ⟨L, t1, ?_, ?_, fun i hi => ?_⟩
  · rw [zF 4 (by omega)]; exact t2
  · rw [z6 8 (by omega)]; exact t3
  · rw [zA 5 (by omega) (by omega) (by omega), zA 211 (by omega) (by omega) (by omega)]; exact t4 i hi
theorem ca_core {g : gG} (R : RE Nq g) (x : Int32) {F : Nat} (hF : 11000 < F) : Ca Nq (fX11_core F 0 x (gH g)) (fun g1 => fX12_core F 206 x (gH g1)) [eIx] := by
  have R0 := R
  obtain ⟨n, k, s, f, R⟩ := R
  have S := R.1
  have V := S.1
  obtain ⟨rn, h10, rk, h12⟩ := R.rv
  have W := V
  obtain ⟨hx, hn, _, hk, _, e3, e4, e5, e6, e7, e8, e11, e9, e10⟩ := W
  have hs : s ≤ 12 := R.2.1.1
  rcases inR_or (n := n) (x := x) (by omega) with e | ⟨p, hp, rfl⟩
  · refine Ca_thr R0 0 (by decide) rfl (v := nI 0) ?_ ?_
    · simp (disch := first | omega | assumption | exact isSt6 | exact isSt18 | exact isSt30) only [fX11_core, io_0, io_203, fr_0_8, fr_0_1, fr_203_0, ia_204, bdS, ck_t, ck_T, cb_0, cb_1, ab_jn, if_true, if_false, cl_needPerson V, e, bx_r, reduceCtorEq, m1_ne, and_true, true_and, and_false, false_and, not_true_eq_false, not_false_eq_true, ne_eq, decide_true, decide_false, Bool.false_eq_true, ite_true, ite_false, if_true, if_false, Nat.add_zero, Bool.and_true, Bool.true_and, Bool.and_false, Bool.false_and, Bool.or_true, Bool.true_or, Bool.or_false, Bool.false_or, decide_not, Bool.not_true, Bool.not_false, or_true, true_or, or_false, false_or, or_self, and_self, decide_eq_true_eq]
    · simp (disch := first | omega | assumption | exact isSt6 | exact isSt18 | exact isSt30) only [fX12_core, io_206, fw_206_0, fi_206_0, fr_206_23, ia_216, bdS, ck_t, ck_T, cb_0, cb_1, ab_jn, if_true, if_false, rf_isPerson g rn h10, e, bI_0, gF_sF1, upd_1, nI10, reduceCtorEq, m1_ne, and_true, true_and, and_false, false_and, not_true_eq_false, not_false_eq_true, ne_eq, decide_true, decide_false, Bool.false_eq_true, ite_true, ite_false, if_true, if_false, Nat.add_zero, Bool.and_true, Bool.true_and, Bool.and_false, Bool.false_and, Bool.or_true, Bool.true_or, Bool.or_false, Bool.false_or, decide_not, Bool.not_true, Bool.not_false, or_true, true_or, or_false, false_or, or_self, and_self, decide_eq_true_eq]
  have ep := inR_of hp (show n < 2 ^ 31 by omega)
  obtain ⟨P, ht⟩ := cl_trade V hF S.i S.w
  obtain ⟨G, eG⟩ : ∃ G, G = gsr (gA g 207) n (leP (gA g 207) n) (fun q => if q < 10 then -1 else gA g 204 q) 10 := ⟨_, rfl⟩
  rw [← eG] at ht
  have m1 : gA (sF (sA (sA g 205 P) 204 G) 206 0 (nI 0)) 207 = gA g 207 := by rw [gA_sF, gA_sA2 _ _ (by omega), gA_sA2 _ _ (by omega)]
  have m0 : gA (sA (sA g 205 P) 204 G) 207 = gA g 207 := by rw [gA_sA2 _ _ (by omega), gA_sA2 _ _ (by omega)]
  have rt := rf_trades (sF (sA (sA g 205 P) 204 G) 206 0 (nI 0)) (n := n) (k := k) (by rw [m1]; exact rn) h10 hF (by rw [m1]; exact S.i) (by rw [m1]; exact S.w)
  rw [m1] at rt
  obtain ⟨G', eG'⟩ : ∃ G', G' = gsr (gA g 207) n (leP (gA g 207) n) (fun q => if q < n then -1 else gA (sF (sA (sA g 205 P) 204 G) 206 0 (nI 0)) 216 q) 10 := ⟨_, rfl⟩
  rw [← eG'] at rt
  have eq : G' p = G p := by
    rw [eG, eG']
    exact gsr_G (by rw [if_pos hp, if_pos (by omega)]) 10
  refine Ca_ok (g1 := sA (sA g 205 P) 204 G) (g2 := sA (sF (sA (sA g 205 P) 204 G) 206 0 (nI 0)) 216 G') (G p) ?_ ?_ ?_ ⟨n, k, s, f, mk_ok R P G G' _⟩
  · simp (disch := first | omega | assumption | exact isSt6 | exact isSt18 | exact isSt30) only [fX11_core, io_0, io_203, fr_0_8, fr_0_1, fr_203_0, ia_204, bdS, ck_t, ck_T, cb_0, cb_1, ab_jn, if_true, if_false, cl_needPerson V, ep, bx_l, io_s, ht, fr_203_0, ia_204, gA_sA1, reduceCtorEq, m1_ne, and_true, true_and, and_false, false_and, not_true_eq_false, not_false_eq_true, ne_eq, decide_true, decide_false, Bool.false_eq_true, ite_true, ite_false, if_true, if_false, Nat.add_zero, Bool.and_true, Bool.true_and, Bool.and_false, Bool.false_and, Bool.or_true, Bool.true_or, Bool.or_false, Bool.false_or, decide_not, Bool.not_true, Bool.not_false, or_true, true_or, or_false, false_or, or_self, and_self, decide_eq_true_eq]
  · have i1 := rf_isPerson (sA (sA g 205 P) 204 G) (by rw [m0]; exact rn) h10 (nI p)
    simp (disch := first | omega | assumption | exact isSt6 | exact isSt18 | exact isSt30) only [fX12_core, io_206, fw_206_0, fi_206_0, fr_206_23, ia_216, bdS, ck_t, ck_T, cb_0, cb_1, ab_jn, if_true, if_false, i1, ep, bI_0, gF_sF1, upd_1, nI00, rt, gA_sA1, eq, reduceCtorEq, m1_ne, and_true, true_and, and_false, false_and, not_true_eq_false, not_false_eq_true, ne_eq, decide_true, decide_false, Bool.false_eq_true, ite_true, ite_false, if_true, if_false, Nat.add_zero, Bool.and_true, Bool.true_and, Bool.and_false, Bool.false_and, Bool.or_true, Bool.true_or, Bool.or_false, Bool.false_or, decide_not, Bool.not_true, Bool.not_false, or_true, true_or, or_false, false_or, or_self, and_self, decide_eq_true_eq]
  · rw [gF_sA, gF_sF1, upd_1]
theorem cb_gains {g : gG} (R : RE Nq g) {F : Nat} (hF : 11000 < F) : Cb Nq (fX11_gains F 0 (gH g)) (fun g1 => fX12_gains F 206 (gH g1)) := by
  have R0 := R
  obtain ⟨n, k, s, f, R⟩ := R
  have S := R.1
  have V := S.1
  obtain ⟨rn, h10, rk, h12⟩ := R.rv
  have W := V
  obtain ⟨hx, hn, _, hk, _, e3, e4, e5, e6, e7, e8, e11, e9, e10⟩ := W
  have hs : s ≤ 12 := R.2.1.1
  obtain ⟨P, ht⟩ := cl_trade V hF S.i S.w
  obtain ⟨G, eG⟩ : ∃ G, G = gsr (gA g 207) n (leP (gA g 207) n) (fun q => if q < 10 then -1 else gA g 204 q) 10 := ⟨_, rfl⟩
  rw [← eG] at ht
  have m1 : gA (sF (sA (sA g 205 P) 204 G) 206 0 (nI 0)) 207 = gA g 207 := by rw [gA_sF, gA_sA2 _ _ (by omega), gA_sA2 _ _ (by omega)]
  have rt := rf_trades (sF (sA (sA g 205 P) 204 G) 206 0 (nI 0)) (n := n) (k := k) (by rw [m1]; exact rn) h10 hF (by rw [m1]; exact S.i) (by rw [m1]; exact S.w)
  rw [m1] at rt
  obtain ⟨G', eG'⟩ : ∃ G', G' = gsr (gA g 207) n (leP (gA g 207) n) (fun q => if q < n then -1 else gA (sF (sA (sA g 205 P) 204 G) 206 0 (nI 0)) 216 q) 10 := ⟨_, rfl⟩
  rw [← eG'] at rt
  have eq : ∀ p, p < n → G' p = G p := fun p hp => by
    rw [eG, eG']
    exact gsr_G (by rw [if_pos hp, if_pos (by omega)]) 10
  have V1 : Sv (sA (sA g 205 P) 204 G) 6 (gA g 207) n k := (V.a (by decide)).a (by decide)
  have e51 := V1.2.2.2.2.2.2.2.1
  have hn1 := V1.2.1
  have c15 : fX11_gains_15 F 0 (gH (sA (sA g 205 P) 204 G)) F (nI 0) (nI 0) = some (nI (fb_ct (fun p => !decide (G p = gA g 207 (12 + 6 * p + 2))) n), gH (sA (sA g 205 P) 204 G)) := by
    refine lp0 (L := fun F' i (a : Int32) => fX11_gains_15 F 0 (gH (sA (sA g 205 P) 204 G)) F' a i) (n := n) (fun i => nI (fb_ct (fun p => !decide (G p = gA g 207 (12 + 6 * p + 2))) i)) _ ?_ ?_ F (by omega)
    · intro F' i hi
      have q5 := e51 i hi
      by_cases c : G i = gA g 207 (12 + 6 * i + 2) <;>
      simp (disch := first | omega | assumption | exact isSt6 | exact isSt18 | exact isSt30) only [fX11_gains_15, fr_0_1, fi_s0, fr_0_8, fr_203_0, ia_204, fr_s11, ia_s5, bdS, ck_t, ck_T, cb_0, cb_1, ab_jn, if_true, if_false, fi_s0, fr_s11, ia_s5, fr_203_0, ia_204, hn1, hi, q5, gA_sA1, c, fb_ct_succ, nI_add, pk_mul, nI_ltI, nI_leI, nI_eq, reduceCtorEq, m1_ne, and_true, true_and, and_false, false_and, not_true_eq_false, not_false_eq_true, ne_eq, decide_true, decide_false, Bool.false_eq_true, ite_true, ite_false, if_true, if_false, Nat.add_zero, Bool.and_true, Bool.true_and, Bool.and_false, Bool.false_and, Bool.or_true, Bool.true_or, Bool.or_false, Bool.false_or, decide_not, Bool.not_true, Bool.not_false, or_true, true_or, or_false, false_or, or_self, and_self, decide_eq_true_eq]
    · intro F'
      simp (disch := first | omega | assumption | exact isSt6 | exact isSt18 | exact isSt30) only [fX11_gains_15, fr_0_1, fi_s0, fr_0_8, fr_203_0, ia_204, fr_s11, ia_s5, bdS, ck_t, ck_T, cb_0, cb_1, ab_jn, if_true, if_false, fi_s0, hn1, Nat.lt_irrefl, nI_add, pk_mul, nI_ltI, nI_leI, nI_eq, reduceCtorEq, m1_ne, and_true, true_and, and_false, false_and, not_true_eq_false, not_false_eq_true, ne_eq, decide_true, decide_false, Bool.false_eq_true, ite_true, ite_false, if_true, if_false, Nat.add_zero, Bool.and_true, Bool.true_and, Bool.and_false, Bool.false_and, Bool.or_true, Bool.true_or, Bool.or_false, Bool.false_or, decide_not, Bool.not_true, Bool.not_false, or_true, true_or, or_false, false_or, or_self, and_self, decide_eq_true_eq]
  have m2 : gA (sA (sF (sA (sA g 205 P) 204 G) 206 0 (nI 0)) 216 G') 207 = gA g 207 := by rw [gA_sA2 _ _ (by omega)]; exact m1
  have r13 : fX12_gains_13 F 206 (gH (sA (sF (sA (sA g 205 P) 204 G) 206 0 (nI 0)) 216 G')) F (nI 0) (nI 0) = some (nI (fb_ct (fun p => !decide (G p = gA g 207 (12 + 6 * p + 2))) n), gH (sA (sF (sA (sA g 205 P) 204 G) 206 0 (nI 0)) 216 G')) := by
    refine lp0 (L := fun F' i (a : Int32) => fX12_gains_13 F 206 (gH (sA (sF (sA (sA g 205 P) 204 G) 206 0 (nI 0)) 216 G')) F' a i) (n := n) (fun i => nI (fb_ct (fun p => !decide (G p = gA g 207 (12 + 6 * p + 2))) i)) _ ?_ ?_ F (by omega)
    · intro F' i hi
      have q := eq i hi
      by_cases c : G i = gA g 207 (12 + 6 * i + 2) <;>
      simp (disch := omega) only [fX12_gains_13, io_206, fr_206_1, ia_207, fr_206_23, ia_216, bdS, ck_t, ck_T, cb_0, cb_1, ab_jn, if_true, if_false, m2, rn, hi, gA_sA1, q, rf_of, c, fb_ct_succ, nI_add, pk_mul, nI_ltI, nI_leI, nI_eq, reduceCtorEq, m1_ne, and_true, true_and, and_false, false_and, not_true_eq_false, not_false_eq_true, ne_eq, decide_true, decide_false, Bool.false_eq_true, ite_true, ite_false, if_true, if_false, Nat.add_zero, Bool.and_true, Bool.true_and, Bool.and_false, Bool.false_and, Bool.or_true, Bool.true_or, Bool.or_false, Bool.false_or, decide_not, Bool.not_true, Bool.not_false, or_true, true_or, or_false, false_or, or_self, and_self, decide_eq_true_eq]
    · intro F'
      simp (disch := omega) only [fX12_gains_13, io_206, fr_206_1, ia_207, fr_206_23, ia_216, bdS, ck_t, ck_T, cb_0, cb_1, ab_jn, if_true, if_false, m2, rn, Nat.lt_irrefl, nI_add, pk_mul, nI_ltI, nI_leI, nI_eq, reduceCtorEq, m1_ne, and_true, true_and, and_false, false_and, not_true_eq_false, not_false_eq_true, ne_eq, decide_true, decide_false, Bool.false_eq_true, ite_true, ite_false, if_true, if_false, Nat.add_zero, Bool.and_true, Bool.true_and, Bool.and_false, Bool.false_and, Bool.or_true, Bool.true_or, Bool.or_false, Bool.false_or, decide_not, Bool.not_true, Bool.not_false, or_true, true_or, or_false, false_or, or_self, and_self, decide_eq_true_eq]
  refine ⟨nI (fb_ct (fun p => !decide (G p = gA g 207 (12 + 6 * p + 2))) n), sA (sA g 205 P) 204 G, sA (sF (sA (sA g 205 P) 204 G) 206 0 (nI 0)) 216 G', ?_, ?_, n, k, s, f, mk_ok R P G G' _⟩
  · simp (disch := first | omega | assumption | exact isSt6 | exact isSt18 | exact isSt30) only [fX11_gains, io_203, fr_0_8, fr_0_1, bdS, ck_t, ck_T, cb_0, cb_1, ab_jn, if_true, if_false, ht]
    exact c15
  · simp (disch := first | omega | assumption | exact isSt6 | exact isSt18 | exact isSt30) only [fX12_gains, io_206, fw_206_0, bdS, ck_t, ck_T, cb_0, cb_1, ab_jn, if_true, if_false, rt]
    exact r13
