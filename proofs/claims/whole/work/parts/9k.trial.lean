variable {Nq : Nat}
/-! ===== calls: trial, span ===== -/
def wpM (m : Nat → Int32) (p : Nat) : Bool := decide (¬ m (12 + 6 * p + 2) = -1) && decide (¬ m (12 + 6 * p + 2) = nI p)
def wvM (C : List Nat) (n k : Nat) (m : Nat → Int32) (c : Nat) : Nat := pc (nI (st (wpM (goM C n k m c).1) n))
theorem wv_lt {C : List Nat} {n k : Nat} {m : Nat → Int32} {c : Nat} : wvM C n k m c < 32 := by
  have := fb_ct_le (bt (nI (st (wpM (goM C n k m c).1) n))) 31
  unfold wvM pc
  omega
/-- all but the STATE 18 and a stack -/
def Fsc (g g' : gG) (w : Nat) : Prop := (∀ b, (b < 18 ∨ 30 ≤ b) → gF g' b = gF g b ∧ gL g' b = gL g b ∧ gw g' b = gw g b ∧ (b ≠ w + 1 → gA g' b = gA g b)) ∧ gn g' = gn g ∧ ∀ b, gl g' b = gl g b
theorem Fsc.trans {g h k : gG} {w : Nat} (a : Fsc g h w) (b : Fsc h k w) : Fsc g k w := ⟨fun c hc => ⟨((b.1 c hc).1).trans (a.1 c hc).1, ((b.1 c hc).2.1).trans (a.1 c hc).2.1, ((b.1 c hc).2.2.1).trans (a.1 c hc).2.2.1, fun h => ((b.1 c hc).2.2.2 h).trans ((a.1 c hc).2.2.2 h)⟩, b.2.1.trans a.2.1, fun c => (b.2.2 c).trans (a.2.2 c)⟩
theorem cl_wA21 {m : Nat → Int32} {n k N : Nat} {C : List Nat} {F : Nat} (hF : 11000 < F) (hN : N ≤ 50) (K : ab_H → Option (Int32 × ab_H)) : ∀ d i g Fu, i + d = N → SR g 18 (goM C n k m i).1 n k → LwC g (gw g 18) (goM C n k m i).1 C → d < Fu → ∃ g', fX11_wrongAfter_21 F 0 (nI N) K Fu (nI i) (gH g) = K (gH g') ∧ Fh g g' 18 (gw g 18) ∧ SR g' 18 (goM C n k m N).1 n k := by
  intro d
  induction d with
  | zero =>
    intro i g Fu hi S H hFu
    obtain ⟨F', rfl⟩ : ∃ F', Fu = F' + 1 := ⟨Fu - 1, by omega⟩
    have e : i = N := by omega
    subst e
    refine ⟨g, ?_, Fh.refl _ _ _, S⟩
    rw [fX11_wrongAfter_21]
    exact if_neg (fun h => Int32.lt_irrefl h)
  | succ d ih =>
    intro i g Fu hi S H hFu
    obtain ⟨F', rfl⟩ : ∃ F', Fu = F' + 1 := ⟨Fu - 1, by omega⟩
    obtain ⟨g1, e1, F1, S1, L1⟩ := cl_hour S H hF
    have H1 := H.keep F1 S.c.st L1
    rw [← F1.w] at H1
    obtain ⟨g2, e2, F2, S2⟩ := ih (i + 1) g1 F' (by omega) S1 H1 (by omega)
    rw [F1.w] at F2
    refine ⟨g2, ?_, F1.trans F2, S2⟩
    rw [fX11_wrongAfter_21]
    refine (if_pos (nI_lt (by omega) (by omega))).trans ?_
    refine (bd_e (fr_0_2 _)).trans ?_
    refine (ck_e (io_s _ isSt18)).trans ?_
    refine (bd_e e1).trans ?_
    rw [nI_add]
    exact e2
theorem cl_wA {g : gG} {m : Nat → Int32} {n k N w : Nat} {C : List Nat} (S : SR g 6 m n k) (hw : gw g 6 = w) (H : LwC g w m C) (hN : N ≤ 50) (v : Int32) {F : Nat} (hF : 11000 < F) : ∃ g1, fX11_wrongAfter F 0 (nI N) v (gH g) = some (nI (wvM C n k (upd m 9 v) N), gH g1) ∧ Fsc g g1 w := by
  have wl : w = 1 ∨ (220 ≤ w ∧ (w - 220) % 3 = 0) := by rcases H.1 with h | ⟨i, h, _⟩ <;> omega
  have hcp := cl_copy g isSt18 isSt6 (by omega)
  have Cc := cpS_Cp g (x := 18) (y := 6) (by omega)
  generalize cpS g 18 6 = g0 at hcp Cc
  have S0 := (S.copy isSt18 Cc).seed v
  have w0 : gw (sF g0 18 5 v) 18 = w := by rw [gw_sF, Cc.2.2.2.2.1, hw]
  have H0 : LwC (sF g0 18 5 v) w (upd m 9 v) C := by
    have h1 : LwC (sF g0 18 5 v) w m C := H.fs (by rw [gn_sF]; exact Cc.2.1) (by rw [gl_sF]; exact Cc.2.2.1 _) (by rw [gA_sF]; exact (Cc.1 (w + 2) (by omega)).2.1)
    exact h1.keep (Fh.refl _ 18 w) isSt18 (Lm.u (by omega))
  rw [← w0] at H0
  obtain ⟨g1, e1, F1, S1⟩ := cl_wA21 (m := upd m 9 v) (C := C) hF hN (fun (h9 : ab_H) => ab_bd (ab_fr h9 0 11 2) fun v10 => ab_ck (ab_io h9 v10 8 = true) (ab_bd (fX8_wrongOnes F v10 h9) fun v11 => ab_bd (fJ6_bitCount_0f7a4 v11 h9) fun v12 => some (v12, h9))) N 0 (sF g0 18 5 v) F (by omega) S0 H0 (by omega)
  rw [w0] at F1
  refine ⟨g1, ?_, ?_, ?_, ?_⟩
  · unfold fX11_wrongAfter
    refine (bd_e (fr_0_2 _)).trans ?_
    refine (bd_e (fr_0_1 _)).trans ?_
    refine (ck_e (io_s _ isSt18)).trans ?_
    refine (bd_e hcp).trans ?_
    refine (bd_e (fr_0_2 _)).trans ?_
    refine (bd_e (fw_s5 _ _ isSt18)).trans ?_
    refine e1.trans ?_
    refine (bd_e (fr_0_2 _)).trans ?_
    refine (ck_e (io_s _ isSt18)).trans ?_
    refine (bd_e (cl_wrongOnes S1.1 hF)).trans ?_
    refine (bd_e (cl_bitCount (s := st (wpM (goM C n k (upd m 9 v) N).1) n) _ (by have := st_le (P := wpM (goM C n k (upd m 9 v) N).1) (k := 10) S.c.n10; omega))).trans ?_
    rfl
  · intro b hb
    obtain ⟨a1, a2, a3, a4⟩ := Cc.1 b (by omega)
    obtain ⟨b1, b2, b3⟩ := F1.1 b (by omega)
    refine ⟨by rw [b1, gF_sF2 _ _ (by omega), a1], by rw [b2, gL_sF, a3], by rw [F1.2.2.2, gw_sF, a4], fun h => by rw [b3 h, gA_sF, a2]⟩
  · rw [F1.2.1, gn_sF, Cc.2.1]
  · intro b; rw [F1.2.2.1, gl_sF, Cc.2.2.1]
theorem rf_tries {g g0 : gG} {m : Nat → Int32} {n k N w x : Nat} {C : List Nat} (S : SR g0 x m n k) (H0 : LwC g0 (gw g0 x) m C) (hm : gA g 207 = m) (H : LwC g w m C) (hb : Bo g) {F : Nat} (hF : 11000 < F) (hN : N ≤ 50) : ∃ g', fX12_tries F 206 (nI N) (gH g) = some (nI (wvM C n k m N), gH g') ∧ Fr g g' ∧ gA g' 207 = cp584 (gA g 209) (goM C n k m N).1 := by
  have h10 := S.c.n10
  obtain ⟨g1, e1, F1, M1⟩ := rf_goesT S H0 hm H hb hF hN
  obtain ⟨gN, SN, _, _⟩ := cl_goes hF N g0 S H0
  have wr := rf_wrongs g1 (n := n) (by rw [M1]; exact SN.2.2.1) h10 hF
  rw [M1] at wr
  have wr : fX12_wrongs F 206 (gH g1) = some (nI (st (wpM (goM C n k m N).1) n)) := wr
  have cb := rf_comesBack g1 hF
  rw [M1, F1.2.2.2.1 209 (by omega) (by omega)] at cb
  refine ⟨_, ?_, F1.trans (Fr.m F1.2.2.1 _), gA_sA1 _ _ _⟩
  unfold fX12_tries
  refine (ck_e (io_206 _)).trans ?_
  refine (bd_e e1).trans ?_
  refine (ck_e (io_206 _)).trans ?_
  refine (bd_e wr).trans ?_
  refine (bd_e (rf_bits _ _ hF)).trans ?_
  refine (ck_e (io_206 _)).trans ?_
  exact bd_e cb
theorem ca_trial {g : gG} (R : RE Nq g) (y : Int32) {F : Nat} (hF : 11000 < F) : Ca Nq (fX11_trial F 0 y (gH g)) (fun g1 => fX12_trial F 206 y (gH g1)) [eAr] := by
  have R0 := R
  obtain ⟨n, k, s, f, R⟩ := R
  have S := R.1
  have V := S.1
  obtain ⟨rn, h10, rk, h12⟩ := R.rv
  have W := V
  obtain ⟨hx, hn, _, hk, _, e3, e4, e5, e6, e7, e8, e11, e9, e10⟩ := W
  have hs : s ≤ 12 := R.2.1.1
  rcases isIn_or (b := 30) (by decide) y with e | ⟨N, hN, rfl⟩
  · refine Ca_thr R0 0 (by decide) rfl (v := nI 0) ?_ ?_
    · unfold fX11_trial
      rw [cl_needNumber, e]; rfl
    · unfold fX12_trial
      refine (bd_e (rf_isIn _ _ _ _)).trans ?_
      rw [e]
      refine (jn_e _ _).trans ?_
      refine (if_pos (bI_0.mpr rfl)).trans ?_
      refine (bd_e (fw_206_0 _ _)).trans ?_
      refine (bd_e ((fi_206_0 _).trans (by rw [gF_sF1, upd_1]))).trans ?_
      exact if_neg (by decide)
  have ec := isIn_c (b := 30) (by decide) hN
  obtain ⟨C, HC⟩ := R.2.2.2.2.2.2.2.2.1.c
  obtain ⟨w, hw⟩ : ∃ w, gw g 6 = w := ⟨_, rfl⟩
  have HC0 := HC
  rw [hw] at HC
  have X := R.2.2.2.2.2.2.2.2.2.2
  have wl : w = 1 ∨ (220 ≤ w ∧ (w - 220) % 3 = 0) := by rcases HC.1 with h | ⟨i, h, _⟩ <;> omega
  have q9 : gF g 6 5 = gA g 207 9 := S.2.2.2.2.1.2.2.2.1
  obtain ⟨g1, c1, F1⟩ := cl_wA S hw HC (N := N) (by omega) (gF g 6 5) hF
  have u9 : upd (gA g 207) 9 (gF g 6 5) = gA g 207 := by rw [q9]; exact fa_upd_same rfl
  rw [u9] at c1
  have g6 : gF g1 206 = gF g 206 := (F1.1 206 (by omega)).1
  have m1 : gA g1 207 = gA g 207 := (F1.1 207 (by omega)).2.2.2 (by omega)
  have pa := rf_putsAside (sF g1 206 0 (nI 0)) hF
  rw [gA_sF, gA_sF, m1] at pa
  obtain ⟨ga, hga⟩ : ∃ ga, ga = sA (sF g1 206 0 (nI 0)) 209 (cp584 (gA g 207) (gA g1 209)) := ⟨_, rfl⟩
  rw [← hga] at pa
  have ma : gA ga 207 = gA g 207 := by rw [hga, gA_sA2 _ _ (by omega), gA_sF, m1]
  have ba : Bo ga := by
    unfold Bo
    rw [hga, gF_sA, gF_sF1, upd_2 _ _ (by omega), upd_2 _ _ (by omega), g6]
    exact X.1
  have Ha : LwC ga w (gA g 207) C := HC.fs (by rw [hga]; exact F1.2.1) (by rw [hga]; exact F1.2.2 _) (by rw [hga, gA_sA2 _ _ (by omega), gA_sF, (F1.1 (w + 2) (by omega)).2.2.2 (by omega)])
  obtain ⟨g2, c2, F2, M2⟩ := rf_tries S HC0 ma Ha ba hF (N := N) (by omega)
  obtain ⟨_, _, LN, _⟩ := cl_goes hF N g S HC0
  have a9 : gA ga 209 = cp584 (gA g 207) (gA g1 209) := by rw [hga, gA_sA1]
  rw [a9, back_m LN.2.2] at M2
  obtain ⟨u1, u2, u3, u4, u5, u6, u7, u8⟩ := F2
  refine Ca_ok (g1 := g1) (g2 := g2) (nI (wvM C n k (gA g 207) N)) ?_ ?_ ?_ ⟨n, k, s, f, R.kp3 wl (fun b h1 h2 => ?_) (fun j hj => ?_) (fun b h1 h2 h3 h4 => ?_) (fun b hb => ?_) (fun b hb => ?_) ?_ (fun b => ?_) u3⟩
  · unfold fX11_trial
    rw [cl_needNumber, ec]
    refine (show ab_bx (some (.inl ())) _ _ = _ from ?_)
    rw [bx_l]
    refine (bd_e (fr_0_1 _)).trans ?_
    refine (bd_e (fi_s5 _ isSt6)).trans ?_
    refine (ck_e (io_0 _)).trans ?_
    exact bd_e c1
  · unfold fX12_trial
    refine (bd_e (rf_isIn _ _ _ _)).trans ?_
    rw [ec]
    refine (jn_e _ _).trans ?_
    refine (if_neg (show ¬ bI true = 0 by decide)).trans ?_
    refine (bd_e (fw_206_0 _ _)).trans ?_
    refine (bd_e ((fi_206_0 _).trans (by rw [gF_sF1, upd_1]))).trans ?_
    refine (if_pos (by decide)).trans ?_
    refine (ck_e (io_206 _)).trans ?_
    refine (bd_e pa).trans ?_
    refine (ck_e (io_206 _)).trans ?_
    exact bd_e c2
  · rw [u2 0 (by omega), hga, gF_sA, gF_sF1, upd_1]
  · rw [u1 b h1, hga, gF_sA, gF_sF2 _ _ h1, (F1.1 b h2).1]
  · rw [u2 j (by omega), hga, gF_sA, gF_sF1, upd_2 _ _ (by omega), g6]
  · by_cases c7 : b = 207
    · rw [c7, M2]
    · rw [u4 b c7 h2, hga, gA_sA2 _ _ h1, gA_sF, (F1.1 b h4).2.2.2 h3]
  · rw [u5, hga]; exact (F1.1 b hb).2.1
  · rw [u6, hga]; exact (F1.1 b hb).2.2.1
  · rw [u7, hga]; exact F1.2.1
  · rw [u8, hga]; exact F1.2.2 b
