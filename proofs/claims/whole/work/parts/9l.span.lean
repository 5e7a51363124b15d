variable {Nq : Nat}
/-! ===== call: span ===== -/
def spM (V : Nat → Nat) (b : Bool) : Nat → Nat
  | 0 => V 1
  | i + 1 => if b = true then max (spM V b i) (V (i + 2)) else min (spM V b i) (V (i + 2))
theorem spM_lt {V : Nat → Nat} {b : Bool} (h : ∀ i, V i < 32) : ∀ i, spM V b i < 32
  | 0 => h 1
  | i + 1 => by
    have := spM_lt (V := V) (b := b) h i
    have := h (i + 2)
    rw [spM]
    split
    · exact Nat.max_lt.mpr ⟨by omega, by omega⟩
    · exact Nat.lt_of_le_of_lt (Nat.min_le_left _ _) (by omega)
theorem rf_les {a b : Nat} (h : ab_H) (ha : a < 2 ^ 31) (hb : b < 2 ^ 31) : fX12_lesser (nI a) (nI b) h = some (nI (min a b)) := by
  unfold fX12_lesser
  by_cases c : a < b
  · rw [if_pos (nI_lt c hb), Nat.min_eq_left (by omega)]
  · rw [if_neg (fun h => c ((nI_ltI ha hb).mp h)), Nat.min_eq_right (by omega)]
theorem Fsc.sr {g g' : gG} {w : Nat} {m : Nat → Int32} {n k : Nat} (h : Fsc g g' w) (wl : w = 1 ∨ (220 ≤ w ∧ (w - 220) % 3 = 0)) (S : SR g 6 m n k) : SR g' 6 m n k := S.keep (fun r hr => by
  obtain ⟨a, b, _, d⟩ := h.1 (6 + r) (by omega)
  exact ⟨a, d (by omega), b⟩)
theorem Fsc.lw {g g' : gG} {w : Nat} {m : Nat → Int32} {C : List Nat} (h : Fsc g g' w) (wl : w = 1 ∨ (220 ≤ w ∧ (w - 220) % 3 = 0)) (H : LwC g w m C) : LwC g' w m C := H.fs h.2.1 (h.2.2 _) ((h.1 (w + 2) (by omega)).2.2.2 (by omega))
theorem cl_span17 {m : Nat → Int32} {n k N w : Nat} {C : List Nat} {F : Nat} (hF : 11000 < F) (hN : N ≤ 50) (b : Bool) (z : Int32) (hz : (z = 0) ↔ b = false) (wl : w = 1 ∨ (220 ≤ w ∧ (w - 220) % 3 = 0)) : ∀ d i g Fu, i + d = 5 → SR g 6 m n k → gw g 6 = w → LwC g w m C → d < Fu → ∃ g', fX11_span_17 F 0 (nI N) z Fu (nI (spM (fun s => wvM C n k (upd m 9 (nI s)) N) b i)) (nI (i + 2)) (gH g) = some (.inl (nI (spM (fun s => wvM C n k (upd m 9 (nI s)) N) b 5)), gH g') ∧ Fsc g g' w := by
  intro d
  induction d with
  | zero =>
    intro i g Fu hi S hw H hFu
    obtain ⟨F', rfl⟩ : ∃ F', Fu = F' + 1 := ⟨Fu - 1, by omega⟩
    have e : i = 5 := by omega
    subst e
    refine ⟨g, ?_, fun _ _ => ⟨rfl, rfl, rfl, fun _ => rfl⟩, rfl, fun _ => rfl⟩
    rw [fX11_span_17]
    exact if_neg (by decide)
  | succ d ih =>
    intro i g Fu hi S hw H hFu
    obtain ⟨F', rfl⟩ : ∃ F', Fu = F' + 1 := ⟨Fu - 1, by omega⟩
    obtain ⟨g1, e1, F1⟩ := cl_wA S hw H hN (nI (i + 2)) hF
    obtain ⟨g2, e2, F2⟩ := ih (i + 1) g1 F' (by omega) (F1.sr wl S) (by rw [(F1.1 6 (by omega)).2.2.1]; exact hw) (F1.lw wl H) (by omega)
    have b1 := spM_lt (V := fun s => wvM C n k (upd m 9 (nI s)) N) (b := b) (fun _ => wv_lt) i
    have b2 : wvM C n k (upd m 9 (nI (i + 2))) N < 32 := wv_lt
    have es : spM (fun s => wvM C n k (upd m 9 (nI s)) N) b (i + 1) = if b = true then max (spM (fun s => wvM C n k (upd m 9 (nI s)) N) b i) (wvM C n k (upd m 9 (nI (i + 2))) N) else min (spM (fun s => wvM C n k (upd m 9 (nI s)) N) b i) (wvM C n k (upd m 9 (nI (i + 2))) N) := rfl
    rw [es] at e2
    refine ⟨g2, ?_, F1.trans F2⟩
    rw [fX11_span_17]
    refine (if_pos (nI_le (by omega) (by decide))).trans ?_
    refine (ck_e (io_0 _)).trans ?_
    refine (bd_e e1).trans ?_
    rw [nI_add]
    cases b
    · refine (if_pos (hz.mpr rfl)).trans ?_
      refine (bd_e (cl_min _ (by omega) (by omega))).trans ?_
      exact e2
    · refine (if_neg (fun h => by cases hz.mp h)).trans ?_
      refine (bd_e (cl_max _ (by omega) (by omega))).trans ?_
      exact e2
theorem rf_span37 {m a0 : Nat → Int32} {n k N w : Nat} {g0 : gG} {C : List Nat} (S : SR g0 6 m n k) (H0 : LwC g0 (gw g0 6) m C) {F : Nat} (hF : 11000 < F) (hN : N ≤ 50) (b : Bool) (z : Int32) (hz : (z = 0) ↔ b = false) : ∀ d i g Fu, i + d = 6 → gA g 207 = m → gA g 209 = cp584 m a0 → LwC g w m C → Bo g → d < Fu → ∃ g', fX12_span_37 F 206 (nI N) z Fu (if i = 0 then -1 else nI (spM (fun s => wvM C n k (upd m 9 (nI s)) N) b (i - 1))) (nI (i + 1)) (gH g) = some (nI (spM (fun s => wvM C n k (upd m 9 (nI s)) N) b 5), gH g') ∧ Fr g g' ∧ gA g' 207 = m := by
  intro d
  induction d with
  | zero =>
    intro i g Fu hi hm ha H hb hFu
    obtain ⟨F', rfl⟩ : ∃ F', Fu = F' + 1 := ⟨Fu - 1, by omega⟩
    have e : i = 6 := by omega
    subst e
    refine ⟨g, ?_, Fr.refl hb, hm⟩
    rw [fX12_span_37]
    exact if_neg (by decide)
  | succ d ih =>
    intro i g Fu hi hm ha H hb hFu
    obtain ⟨F', rfl⟩ : ∃ F', Fu = F' + 1 := ⟨Fu - 1, by omega⟩
    have S1 := S.seed (nI (i + 1))
    have L1 : Lm m (upd m 9 (nI (i + 1))) := Lm.u (by omega)
    have H1 : LwC (sF g0 6 5 (nI (i + 1))) (gw (sF g0 6 5 (nI (i + 1))) 6) (upd m 9 (nI (i + 1))) C := H0.keep (Fs_F0.h _) S.c.st L1
    have Fa := Fr.m hb (upd m 9 (nI (i + 1)))
    obtain ⟨g2, e2, F2, M2⟩ := rf_tries (g := sA g 207 (upd m 9 (nI (i + 1)))) S1 H1 (gA_sA1 _ _ _) (H.kr Fa L1) hb hF hN
    rw [gA_sA2 _ _ (by omega), ha] at M2
    obtain ⟨_, _, LN, _⟩ := cl_goes hF N _ S1 H1
    rw [back_m (fun i hi => (LN.2.2 i hi).trans (L1.2.2 i hi))] at M2
    have Fg := Fa.trans F2
    obtain ⟨g3, e3, F3, M3⟩ := ih (i + 1) g2 F' (by omega) M2 (by rw [Fg.2.2.2.1 209 (by omega) (by omega)]; exact ha) (H.kr Fg (Lm.refl m)) Fg.2.2.1 (by omega)
    rw [if_neg (by omega), Nat.add_sub_cancel] at e3
    have b2 : wvM C n k (upd m 9 (nI (i + 1))) N < 32 := wv_lt
    refine ⟨g3, ?_, Fg.trans F3, M3⟩
    rw [fX12_span_37]
    refine (if_pos (nI_le (by omega) (by decide))).trans ?_
    refine (bd_e (fr_206_1 _)).trans ?_
    refine (bd_e (iw_207 _ _ (show 9 < 984 by omega))).trans ?_
    rw [hm]
    refine (ck_e (io_206 _)).trans ?_
    refine (bd_e e2).trans ?_
    rw [nI_add]
    by_cases c : i = 0
    · subst c
      rw [if_pos rfl]
      refine (if_pos rfl).trans ?_
      exact e3
    · rw [if_neg c]
      obtain ⟨j, rfl⟩ : ∃ j, i = j + 1 := ⟨i - 1, by omega⟩
      rw [Nat.add_sub_cancel]
      have b1 := spM_lt (V := fun s => wvM C n k (upd m 9 (nI s)) N) (b := b) (fun _ => wv_lt) j
      have es : spM (fun s => wvM C n k (upd m 9 (nI s)) N) b (j + 1) = if b = true then max (spM (fun s => wvM C n k (upd m 9 (nI s)) N) b j) (wvM C n k (upd m 9 (nI (j + 2))) N) else min (spM (fun s => wvM C n k (upd m 9 (nI s)) N) b j) (wvM C n k (upd m 9 (nI (j + 2))) N) := rfl
      rw [es] at e3
      refine (if_neg (nI_m1 (by omega))).trans ?_
      cases b
      · refine (if_pos (hz.mpr rfl)).trans ?_
        refine (bd_e (rf_les _ (by omega) (by omega))).trans ?_
        exact e3
      · refine (if_neg (fun h => by cases hz.mp h)).trans ?_
        refine (bd_e (rf_greater _ (by omega) (by omega))).trans ?_
        exact e3
theorem ca_span {g : gG} (R : RE Nq g) (y z : Int32) {F : Nat} (hF : 11000 < F) : Ca Nq (fX11_span F 0 y z (gH g)) (fun g1 => fX12_span F 206 y z (gH g1)) [eAr] := by
  have R0 := R
  obtain ⟨n, k, s, f, R⟩ := R
  have S := R.1
  have V := S.1
  obtain ⟨rn, h10, rk, h12⟩ := R.rv
  have W := V
  obtain ⟨hx, hn, _, hk, _, e3, e4, e5, e6, e7, e8, e11, e9, e10⟩ := W
  have hs : s ≤ 12 := R.2.1.1
  rcases isIn_or (b := 30) (by decide) y with e | ⟨N, hN, rfl⟩
  · refine Ca_thr R0 0 (by decide) rfl (v := nI 0) ?_ ?_
    · unfold fX11_span
      rw [cl_needNumber, e]; rfl
    · unfold fX12_span
      refine (bd_e (rf_isIn _ _ _ _)).trans ?_
      rw [e]
      refine (jn_e _ _).trans ?_
      refine (if_pos (bI_0.mpr rfl)).trans ?_
      refine (bd_e (fw_206_0 _ _)).trans ?_
      refine (bd_e ((fi_206_0 _).trans (by rw [gF_sF1, upd_1]))).trans ?_
      exact if_neg (by decide)
  have ec := isIn_c (b := 30) (by decide) hN
  obtain ⟨C, HC⟩ := R.2.2.2.2.2.2.2.2.1.c
  obtain ⟨w, hw⟩ : ∃ w, gw g 6 = w := ⟨_, rfl⟩
  have HC0 := HC
  rw [hw] at HC
  have X := R.2.2.2.2.2.2.2.2.2.2
  have wl : w = 1 ∨ (220 ≤ w ∧ (w - 220) % 3 = 0) := by rcases HC.1 with h | ⟨i, h, _⟩ <;> omega
  obtain ⟨b, hz⟩ : ∃ b : Bool, (z = 0) ↔ b = false := by
    by_cases c : z = 0
    · exact ⟨false, fun _ => rfl, fun _ => c⟩
    · exact ⟨true, fun h => absurd h c, fun h => by cases h⟩
  obtain ⟨ga, c1, F1⟩ := cl_wA S hw HC (N := N) (by omega) (nI 1) hF
  obtain ⟨g1, c2, F2⟩ := cl_span17 hF (N := N) (by omega) b z hz wl 5 0 ga F (by omega) (F1.sr wl S) (by rw [(F1.1 6 (by omega)).2.2.1]; exact hw) (F1.lw wl HC) (by omega)
  have c2 : fX11_span_17 F 0 (nI N) z F (nI (wvM C n k (upd (gA g 207) 9 (nI 1)) N)) (nI 2) (gH ga) = some (.inl (nI (spM (fun s => wvM C n k (upd (gA g 207) 9 (nI s)) N) b 5)), gH g1) := c2
  have F1 := F1.trans F2
  have g6 : gF g1 206 = gF g 206 := (F1.1 206 (by omega)).1
  have m1 : gA g1 207 = gA g 207 := (F1.1 207 (by omega)).2.2.2 (by omega)
  have pa := rf_putsAside (sF g1 206 0 (nI 0)) hF
  rw [gA_sF, gA_sF, m1] at pa
  obtain ⟨gb, hgb⟩ : ∃ gb, gb = sA (sF g1 206 0 (nI 0)) 209 (cp584 (gA g 207) (gA g1 209)) := ⟨_, rfl⟩
  rw [← hgb] at pa
  have mb : gA gb 207 = gA g 207 := by rw [hgb, gA_sA2 _ _ (by omega), gA_sF, m1]
  have bb : Bo gb := by
    unfold Bo
    rw [hgb, gF_sA, gF_sF1, upd_2 _ _ (by omega), upd_2 _ _ (by omega), g6]
    exact X.1
  have Hb : LwC gb w (gA g 207) C := HC.fs (by rw [hgb]; exact F1.2.1) (by rw [hgb]; exact F1.2.2 _) (by rw [hgb, gA_sA2 _ _ (by omega), gA_sF, (F1.1 (w + 2) (by omega)).2.2.2 (by omega)])
  have a9 : gA gb 209 = cp584 (gA g 207) (gA g1 209) := by rw [hgb, gA_sA1]
  obtain ⟨g2, c3, F3, M3⟩ := rf_span37 S HC0 hF (N := N) (by omega) b z hz 6 0 gb F (by omega) mb a9 Hb bb (by omega)
  have c3 : fX12_span_37 F 206 (nI N) z F (-1) (nI 1) (gH gb) = some (nI (spM (fun s => wvM C n k (upd (gA g 207) 9 (nI s)) N) b 5), gH g2) := c3
  obtain ⟨u1, u2, u3, u4, u5, u6, u7, u8⟩ := F3
  refine Ca_ok (g1 := g1) (g2 := g2) (nI (spM (fun s => wvM C n k (upd (gA g 207) 9 (nI s)) N) b 5)) ?_ ?_ ?_ ⟨n, k, s, f, R.kp3 wl (fun b h1 h2 => ?_) (fun j hj => ?_) (fun b h1 h2 h3 h4 => ?_) (fun b hb => ?_) (fun b hb => ?_) ?_ (fun b => ?_) u3⟩
  · unfold fX11_span
    rw [cl_needNumber, ec]
    refine (show ab_bx (some (.inl ())) _ _ = _ from ?_)
    rw [bx_l]
    refine (ck_e (io_0 _)).trans ?_
    refine (bd_e c1).trans ?_
    exact c2
  · unfold fX12_span
    refine (bd_e (rf_isIn _ _ _ _)).trans ?_
    rw [ec]
    refine (jn_e _ _).trans ?_
    refine (if_neg (show ¬ bI true = 0 by decide)).trans ?_
    refine (bd_e (fw_206_0 _ _)).trans ?_
    refine (bd_e ((fi_206_0 _).trans (by rw [gF_sF1, upd_1]))).trans ?_
    refine (if_pos (by decide)).trans ?_
    refine (ck_e (io_206 _)).trans ?_
    refine (bd_e pa).trans ?_
    exact c3
  · rw [u2 0 (by omega), hgb, gF_sA, gF_sF1, upd_1]
  · rw [u1 b h1, hgb, gF_sA, gF_sF2 _ _ h1, (F1.1 b h2).1]
  · rw [u2 j (by omega), hgb, gF_sA, gF_sF1, upd_2 _ _ (by omega), g6]
  · by_cases c7 : b = 207
    · rw [c7, M3]
    · rw [u4 b c7 h2, hgb, gA_sA2 _ _ h1, gA_sF, (F1.1 b h4).2.2.2 h3]
  · rw [u5, hgb]; exact (F1.1 b hb).2.1
  · rw [u6, hgb]; exact (F1.1 b hb).2.2.1
  · rw [u7, hgb]; exact F1.2.1
  · rw [u8, hgb]; exact F1.2.2 b
