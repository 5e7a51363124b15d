variable {Nq : Nat}
/-! ===== calls: hours ===== -/
def goM (C : List Nat) (n k : Nat) (m : Nat → Int32) : Nat → (Nat → Int32) × Nat
  | 0 => (m, 0)
  | i + 1 => (hoM C n k (goM C n k m i).1, (goM C n k m i).2 + (tuM C k (goM C n k m i).1 n).2)
theorem cl_goes {x : Nat} {m : Nat → Int32} {n k : Nat} {C : List Nat} {F : Nat} (hF : 11000 < F) : ∀ i g, SR g x m n k → LwC g (gw g x) m C → ∃ g', SR g' x (goM C n k m i).1 n k ∧ Lm m (goM C n k m i).1 ∧ Fh g g' x (gw g x)
  | 0, g, S, H => ⟨g, S, Lm.refl m, Fh.refl _ _ _⟩
  | i + 1, g, S, H => by
    obtain ⟨g1, S1, L1, F1⟩ := cl_goes hF i g S H
    have H1 := H.keep F1 S.c.st L1
    rw [← F1.w] at H1
    obtain ⟨g2, _, F2, S2, L2⟩ := cl_hour S1 H1 hF
    rw [F1.w] at F2
    exact ⟨g2, S2, L1.trans L2, F1.trans F2⟩
theorem cl_hours22 {m : Nat → Int32} {n k N : Nat} {C : List Nat} {F : Nat} (hF : 11000 < F) (hN : N ≤ 50) : ∀ d i g Fu, i + d = N → SR g 6 (goM C n k m i).1 n k → LwC g (gw g 6) (goM C n k m i).1 C → d < Fu → ∃ g', fX11_hours_22 F 0 (nI N) Fu (nI (goM C n k m i).2) (nI i) (gH g) = some (.inl (nI (goM C n k m N).2), gH g') ∧ Fh g g' 6 (gw g 6) ∧ SR g' 6 (goM C n k m N).1 n k := by
  intro d
  induction d with
  | zero =>
    intro i g Fu hi S H hFu
    obtain ⟨F', rfl⟩ : ∃ F', Fu = F' + 1 := ⟨Fu - 1, by omega⟩
    have e : i = N := by omega
    subst e
    refine ⟨g, ?_, Fh.refl _ _ _, S⟩
    rw [fX11_hours_22]
    exact if_neg (fun h => Int32.lt_irrefl h)
  | succ d ih =>
    intro i g Fu hi S H hFu
    obtain ⟨F', rfl⟩ : ∃ F', Fu = F' + 1 := ⟨Fu - 1, by omega⟩
    obtain ⟨g1, e1, F1, S1, L1⟩ := cl_hour S H hF
    have H1 := H.keep F1 S.c.st L1
    rw [← F1.w] at H1
    obtain ⟨g2, e2, F2, S2⟩ := ih (i + 1) g1 F' (by omega) S1 H1 (by omega)
    rw [F1.w] at F2
    refine ⟨g2, ?_, F1.trans F2, S2⟩
    rw [fX11_hours_22]
    refine (if_pos (nI_lt (by omega) (by omega))).trans ?_
    refine (bd_e (fr_0_1 _)).trans ?_
    refine (ck_e (io_s _ isSt6)).trans ?_
    refine (bd_e e1).trans ?_
    show fX11_hours_22 F 0 (nI N) F' (nI (goM C n k m i).2 + nI (tuM C k (goM C n k m i).1 n).2) (nI i + nI 1) (gH g1) = _
    rw [nI_add, nI_add]
    exact e2
theorem rf_goes {m : Nat → Int32} {n k N w x : Nat} {g0 : gG} {C : List Nat} (S : SR g0 x m n k) (H0 : LwC g0 (gw g0 x) m C) {F : Nat} (hF : 11000 < F) (hN : N ≤ 50) : ∀ d i g Fu, i + d = N → gA g 207 = (goM C n k m i).1 → LwC g w (goM C n k m i).1 C → Bo g → d < Fu → ∃ g', fX12_goes_4 F 206 (nI N) Fu (nI (goM C n k m i).2) (nI i) (gH g) = some (nI (goM C n k m N).2, gH g') ∧ Fr g g' ∧ gA g' 207 = (goM C n k m N).1 := by
  intro d
  induction d with
  | zero =>
    intro i g Fu hi hm H hb hFu
    obtain ⟨F', rfl⟩ : ∃ F', Fu = F' + 1 := ⟨Fu - 1, by omega⟩
    have e : i = N := by omega
    subst e
    refine ⟨g, ?_, Fr.refl hb, hm⟩
    rw [fX12_goes_4]
    exact if_neg (fun h => Int32.lt_irrefl h)
  | succ d ih =>
    intro i g Fu hi hm H hb hFu
    obtain ⟨F', rfl⟩ : ∃ F', Fu = F' + 1 := ⟨Fu - 1, by omega⟩
    obtain ⟨gi, Si, Li, Fi⟩ := cl_goes hF i g0 S H0
    have Hi := H0.keep Fi S.c.st Li
    rw [← Fi.w] at Hi
    obtain ⟨_, _, _, _, L2⟩ := cl_hour Si Hi hF
    obtain ⟨g1, e1, F1, M1⟩ := rf_hour (g := g) Si Hi hm H hb hF
    have H1 := H.kr F1 L2
    obtain ⟨g2, e2, F2, M2⟩ := ih (i + 1) g1 F' (by omega) M1 H1 F1.2.2.1 (by omega)
    refine ⟨g2, ?_, F1.trans F2, M2⟩
    rw [fX12_goes_4]
    refine (if_pos (nI_lt (by omega) (by omega))).trans ?_
    refine (ck_e (io_206 _)).trans ?_
    refine (bd_e e1).trans ?_
    show fX12_goes_4 F 206 (nI N) F' (nI (goM C n k m i).2 + nI (tuM C k (goM C n k m i).1 n).2) (nI i + nI 1) (gH g1) = _
    rw [nI_add, nI_add]
    exact e2
theorem rf_goesT {g g0 : gG} {m : Nat → Int32} {n k N w x : Nat} {C : List Nat} (S : SR g0 x m n k) (H0 : LwC g0 (gw g0 x) m C) (hm : gA g 207 = m) (H : LwC g w m C) (hb : Bo g) {F : Nat} (hF : 11000 < F) (hN : N ≤ 50) : ∃ g', fX12_goes F 206 (nI N) (gH g) = some (nI (goM C n k m N).2, gH g') ∧ Fr g g' ∧ gA g' 207 = (goM C n k m N).1 := by
  obtain ⟨g', e, h⟩ := rf_goes S H0 hF hN N 0 g F (by omega) hm H hb (by omega)
  exact ⟨g', e, h⟩
theorem LwC.fs {g g' : gG} {w : Nat} {m : Nat → Int32} {C : List Nat} (H : LwC g w m C) (hn : gn g' = gn g) (hl : gl g' (w + 2) = gl g (w + 2)) (hA : gA g' (w + 2) = gA g (w + 2)) : LwC g' w m C := by
  obtain ⟨h1, h2, h3, h4, h5, h6⟩ := H
  exact ⟨h1.keep hn, by rw [hl]; exact h2, by rw [hA]; exact h3, h4, h5, h6⟩
theorem isIn_or1 {b : Nat} (hb : b < 2 ^ 31) (x : Int32) : decide (¬ x < nI 1 ∧ x ≤ nI b) = false ∨ ∃ c, 1 ≤ c ∧ c ≤ b ∧ x = nI c := by
  by_cases h : ¬ x < nI 1 ∧ x ≤ nI b
  · right
    have h0 : ¬ x < nI 0 := fun h2 => h.1 (Int32.lt_trans h2 (by decide))
    rcases isIn_or hb x with e | ⟨c, h1, h2⟩
    · exact absurd ⟨h0, h.2⟩ (of_decide_eq_false e)
    · refine ⟨c, ?_, h1, h2⟩
      apply Decidable.byContradiction
      intro k
      apply h.1
      rw [h2]
      exact nI_lt (by omega) (by decide)
  · exact Or.inl (decide_eq_false h)
/-- AN HOUR's scratch cells may be what they will -/
theorem Re.kp3 {g g' : gG} {n k s f w : Nat} (R : Re Nq g n k s f) (wl : w = 1 ∨ (220 ≤ w ∧ (w - 220) % 3 = 0)) (eF : ∀ b, b ≠ 206 → (b < 18 ∨ 30 ≤ b) → gF g' b = gF g b) (e6 : ∀ j, j = 3 ∨ j = 6 ∨ j = 8 ∨ j = 12 → gF g' 206 j = gF g 206 j) (eA : ∀ b, b ≠ 209 → b ≠ 212 → b ≠ w + 1 → (b < 18 ∨ 30 ≤ b) → gA g' b = gA g b) (eL : ∀ b, (b < 18 ∨ 30 ≤ b) → gL g' b = gL g b) (ew : ∀ b, (b < 18 ∨ 30 ≤ b) → gw g' b = gw g b) (en : gn g' = gn g) (el : ∀ b, gl g' b = gl g b) (B : Bo g') : Re Nq g' n k s f := by
  have T := R.2.2.2.1
  have r6 := R.2.2.2.2.2.1
  refine R.kp2 ⟨en, el, fun b hb => eF b (by omega) (by omega), eA 3 (by omega) (by omega) (by omega) (by omega), fun b hb hb' => eA b (by omega) (by omega) (by omega) (by omega)⟩ (fun b h1 h2 => ⟨eF b (by omega) (by omega), eA b (by omega) (by omega) (by omega) (by omega), eL b (by omega), ew b (by omega)⟩) (fun b h1 h2 => ⟨eF b (by omega) (by omega), eA b (by omega) (by omega) (by omega) (by omega), eL b (by omega), ew b (by omega)⟩) (eA _ (by omega) (by omega) (by omega) (by omega)) (eA _ (by omega) (by omega) (by omega) (by omega)) (eA _ (by omega) (by omega) (by omega) (by omega)) (e6 3 (by omega)) (e6 6 (by omega)) (by rw [eF 0 (by omega) (by omega)]) ?_ (by rw [eF 192 (by omega) (by omega)]) (by rw [eF 194 (by omega) (by omega)]) B ?_
  · rw [eF 0 (by omega) (by omega), e6 12 (by omega)]; exact r6
  · obtain ⟨L, t1, t2, t3, t4⟩ := T
    refine ⟨L, t1, ?_, ?_, fun i hi => ?_⟩
    · rw [eF 4 (by omega) (by omega)]; exact t2
    · rw [e6 8 (by omega)]; exact t3
    · rw [eA 5 (by omega) (by omega) (by omega) (by omega), eA 211 (by omega) (by omega) (by omega) (by omega)]; exact t4 i hi
theorem ca_hours {g : gG} (R : RE Nq g) (y : Int32) {F : Nat} (hF : 11000 < F) : Ca Nq (fX11_hours F 0 y (gH g)) (fun g1 => fX12_hours F 206 y (gH g1)) [eAr] := by
  have R0 := R
  obtain ⟨n, k, s, f, R⟩ := R
  have S := R.1
  have V := S.1
  obtain ⟨rn, h10, rk, h12⟩ := R.rv
  have W := V
  obtain ⟨hx, hn, _, hk, _, e3, e4, e5, e6, e7, e8, e11, e9, e10⟩ := W
  have hs : s ≤ 12 := R.2.1.1
  rcases isIn_or1 (b := 50) (by decide) y with e | ⟨N, h1, hN, rfl⟩
  · refine Ca_thr R0 0 (by decide) rfl (v := nI 0) ?_ ?_
    · unfold fX11_hours
      rw [cl_needNumber, e]; rfl
    · unfold fX12_hours
      refine (bd_e (rf_isIn _ _ _ _)).trans ?_
      rw [e]
      refine (jn_e _ _).trans ?_
      refine (if_pos (bI_0.mpr rfl)).trans ?_
      refine (bd_e (fw_206_0 _ _)).trans ?_
      refine (bd_e ((fi_206_0 _).trans (by rw [gF_sF1, upd_1]))).trans ?_
      exact if_neg (by decide)
  have ec : decide (¬ nI N < nI 1 ∧ nI N ≤ nI 50) = true := decide_eq_true ⟨fun h => by have := (nI_ltI (by omega) (by decide)).mp h; omega, nI_le hN (by decide)⟩
  obtain ⟨gk, f1, c1, P, e1, _, e2, e3, e4⟩ := keepC R.2.1 R.1
  obtain ⟨C, HC⟩ := R.2.2.2.2.2.2.2.2.1.c
  obtain ⟨w, hw⟩ : ∃ w, w = gw g 6 := ⟨_, rfl⟩
  rw [← hw] at HC
  have X := R.2.2.2.2.2.2.2.2.2.2
  have wl : w = 1 ∨ (220 ≤ w ∧ (w - 220) % 3 = 0) := by rcases HC.1 with h | ⟨i, h, _⟩ <;> omega
  have wk : gw gk 6 = w := by rw [(e1 6 (by omega) (by omega)).2.2.2, hw]
  have Sk : SR gk 6 (gA g 207) n k := S.keep (e1.es (by omega) (by omega))
  have aw : gA gk (w + 2) = gA g (w + 2) := by
    rcases wl with h | h
    · exact (e1 _ (by omega) (by omega)).2.1
    · exact (e4 _ (by omega)).2.1
  have Hk : LwC gk (gw gk 6) (gA g 207) C := by rw [wk]; exact HC.fs e2 (e3 _) aw
  obtain ⟨g1, c2, F1, S1⟩ := cl_hours22 (m := gA g 207) (C := C) hF hN N 0 gk F (by omega) Sk Hk (by omega)
  have c2 : fX11_hours_22 F 0 (nI N) F (nI 0) (nI 0) (gH gk) = some (.inl (nI (goM C n k (gA g 207) N).2), gH g1) := c2
  obtain ⟨_, _, L1, _⟩ := cl_goes hF N gk Sk Hk
  rw [wk] at F1
  generalize hm' : (goM C n k (gA g 207) N).1 = m' at *
  have x1 : isLw g1 w := (HC.1.keep e2).keep F1.2.1
  have Fs1 : Fs gk (sA g1 (w + 1) (gA gk (w + 1))) 6 := by
    refine ⟨fun b hb => ⟨(F1.1 b hb).1, ?_, (F1.1 b hb).2.1⟩, F1.2.1, F1.2.2.1, F1.2.2.2⟩
    by_cases c : b = w + 1
    · rw [c, gA_sA1]
    · rw [gA_sA2 _ _ c]; exact (F1.1 b hb).2.2 c
  have Rb := act_ok R L1.1 L1.2.1 L1.2.2 P e1 e2 e3 e4 Fs1 (S1.stk x1 _)
  have g6 : gF g1 206 = gF g 206 := by rw [(F1.1 206 (by omega)).1, (e4 206 (by omega)).1]
  have m1 : gA g1 207 = gA g 207 := by rw [(F1.1 207 (by omega)).2.2 (by omega), (e4 207 (by omega)).2.1]
  have r1 := rf_rem (sF g1 206 0 (nI 0)) hs (by rw [gF_sF1, upd_2 _ _ (by omega), g6]; exact R.2.2.1) hF
  obtain ⟨q1, q2, q3, q4, q5, q6, q7, q8, q9⟩ := remG_ok (sF g1 206 0 (nI 0)) hs
  obtain ⟨t1, t2, t3, t4, t5, t6, t7, t8, t9⟩ := remG_ok (sF (sA g1 (w + 1) (gA gk (w + 1))) 206 0 (nI 0)) hs
  obtain ⟨gr, hgr⟩ : ∃ gr, gr = remG (sF g1 206 0 (nI 0)) s := ⟨_, rfl⟩
  rw [← hgr] at r1 q1 q2 q3 q4 q5 q6 q7 q8 q9
  have mr : gA gr 207 = gA g 207 := by rw [q2 207 (by omega), gA_sF, m1]
  have Hr : LwC gr w (gA g 207) C := by
    refine HC.fs (by rw [q8, gn_sF, F1.2.1, e2]) (by rw [q9, gl_sF, F1.2.2.1, e3]) ?_
    rw [q2 _ (by omega), gA_sF, (F1.1 (w + 2) (by omega)).2.2 (by omega), aw]
  have br : Bo gr := by
    unfold Bo
    rw [q4 15 (by omega), q4 16 (by omega), gF_sF1, upd_2 _ _ (by omega), upd_2 _ _ (by omega), g6]
    exact X.1
  obtain ⟨g2, c3, F2, M2⟩ := rf_goesT Sk Hk mr Hr br hF hN
  rw [hm'] at M2
  obtain ⟨u1, u2, u3, u4, u5, u6, u7, u8⟩ := F2
  refine Ca_ok (g1 := g1) (g2 := g2) (nI (goM C n k (gA g 207) N).2) ?_ ?_ ?_ ⟨n, k, _, f1, Rb.kp3 wl (fun b h1 h2 => ?_) (fun j hj => ?_) (fun b h1 h2 h3 h4 => ?_) (fun b _ => ?_) (fun b _ => ?_) ?_ (fun b => ?_) u3⟩
  · unfold fX11_hours
    rw [cl_needNumber, ec]
    refine (show ab_bx (some (.inl ())) _ _ = _ from ?_)
    rw [bx_l]
    refine (bd_e (fr_0_4 _)).trans ?_
    refine (bd_e (fr_0_1 _)).trans ?_
    refine (ck_e (io_42 _)).trans ?_
    refine (bd_e c1).trans ?_
    exact c2
  · unfold fX12_hours
    refine (bd_e (rf_isIn _ _ _ _)).trans ?_
    rw [ec]
    refine (jn_e _ _).trans ?_
    refine (if_neg (show ¬ bI true = 0 by decide)).trans ?_
    refine (bd_e (fw_206_0 _ _)).trans ?_
    refine (bd_e ((fi_206_0 _).trans (by rw [gF_sF1, upd_1]))).trans ?_
    refine (if_pos (by decide)).trans ?_
    refine (ck_e (io_206 _)).trans ?_
    refine (bd_e r1).trans ?_
    refine (ck_e (io_206 _)).trans ?_
    exact bd_e c3
  · rw [u2 0 (by omega), q4 0 (by omega), gF_sF1, upd_1]
  · rw [u1 b h1, q5 b h1, gF_sF2 _ _ h1, gF_sA, t5 b h1, gF_sF2 _ _ h1, gF_sA]
  · rw [u2 j (by omega), gF_sA]
    by_cases c : j = 6
    · rw [c, q3, t3]
    · rw [q4 j c, t4 j c, gF_sF1, gF_sF1, gF_sA]
  · by_cases c7 : b = 207
    · rw [c7, M2, gA_sA1]
    · rw [u4 b c7 h2, gA_sA2 _ _ c7]
      by_cases c10 : b = 210
      · rw [c10, q1, t1, gA_sF, gA_sF, gA_sF, gA_sF, gA_sA2 _ _ (by omega), gA_sA2 _ _ (by omega)]
      · rw [q2 b c10, t2 b c10, gA_sF, gA_sF, gA_sA2 _ _ h3]
  · rw [u5, q6, gL_sA, t6]; rfl
  · rw [u6, q7, gw_sA, t7]; rfl
  · rw [u7, q8, gn_sA, t8]; rfl
  · rw [u8, q9, gl_sA, t9]; rfl
