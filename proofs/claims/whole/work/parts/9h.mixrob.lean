variable {Nq : Nat}
/-! ===== TICKETS are mixed, a FACE is robbed, by draws ===== -/
def hP (m : Nat → Int32) (p : Nat) : Bool := decide (¬ m (12 + 6 * p + 3) = -1)
def mx1 (m : Nat → Int32) (n : Nat) : Nat := nv (nthM (hP m) n (nv (ab_rm (dvl (drM m)) (nI (fb_ct (hP m) n)))))
def mx2 (m : Nat → Int32) (n : Nat) : Nat := nv (nthM (fun q => hP m q && decide (q ≠ mx1 m n)) n (nv (ab_rm (dvl (drM (drM m))) (nI (fb_ct (hP m) n - 1)))))
def mxM (n : Nat) (m : Nat → Int32) : Nat → Int32 := if fb_ct (hP m) n < 2 then m else mixM (drM (drM m)) (mx1 m n) (mx2 m n)
theorem hP_dr (m : Nat → Int32) : hP (drM m) = hP m := by
  funext p
  unfold hP drM
  rw [upd_2 _ _ (by omega)]
theorem mx_in {m : Nat → Int32} {n : Nat} (h10 : n ≤ 10) (h : ¬ fb_ct (hP m) n < 2) : ∃ d1 d2, d1 < fb_ct (hP m) n ∧ ab_rm (dvl (drM m)) (nI (fb_ct (hP m) n)) = nI d1 ∧ mx1 m n < n ∧ hP m (mx1 m n) = true ∧ nthM (hP m) n d1 = nI (mx1 m n) ∧ d2 < fb_ct (fun q => hP m q && decide (q ≠ mx1 m n)) n ∧ ab_rm (dvl (drM (drM m))) (nI (fb_ct (hP m) n - 1)) = nI d2 ∧ mx2 m n < n ∧ hP m (mx2 m n) = true ∧ mx2 m n ≠ mx1 m n ∧ nthM (fun q => hP m q && decide (q ≠ mx1 m n)) n d2 = nI (mx2 m n) := by
  have hle := fb_ct_le (hP m) n
  obtain ⟨d1, a1, a2⟩ := dvl_rm (drM m) (c := fb_ct (hP m) n) (by omega) (by omega)
  obtain ⟨p, b1, b2, b3, b4⟩ := nthM_in a1 (show n < 1000 by omega)
  have ep : mx1 m n = p := by unfold mx1; rw [a2, nv_nI (by omega)]; exact b4
  have cb := ct_but b1 b2
  obtain ⟨d2, c1, c2⟩ := dvl_rm (drM (drM m)) (c := fb_ct (hP m) n - 1) (by omega) (by omega)
  obtain ⟨o, e1, e2, e3, e4⟩ := nthM_in (Q := fun q => hP m q && decide (q ≠ p)) (n := n) (d := d2) (by omega) (by omega)
  have eo : mx2 m n = o := by unfold mx2; rw [ep, c2, nv_nI (by omega)]; exact e4
  rw [ep, eo]
  rw [Bool.and_eq_true] at e2
  exact ⟨d1, d2, a1, a2, b1, b2, b3, by omega, c2, e1, e2.1, of_decide_eq_true e2.2, e3⟩
theorem Lm.mix {m : Nat → Int32} {p o : Nat} (hp : p < 10) (ho : o < 10) : Lm m (mixM m p o) := by
  unfold mixM mi2 mi1
  refine Lm.trans ?_ (Lm.wr _ _ _ _)
  refine Lm.trans ?_ (Lm.wr _ _ _ _)
  exact (Lm.u (by omega)).trans (Lm.u (by omega))
theorem Lm.mx {m : Nat → Int32} {n : Nat} (h10 : n ≤ 10) : Lm m (mxM n m) := by
  unfold mxM
  by_cases c : fb_ct (hP m) n < 2
  · rw [if_pos c]; exact Lm.refl m
  · rw [if_neg c]
    obtain ⟨_, _, _, _, h1, _, _, _, _, h2, _⟩ := mx_in h10 c
    exact ((Lm.dr m).trans (Lm.dr _)).trans (Lm.mix (by omega) (by omega))
theorem cl_mixD {g : gG} {x : Nat} {m : Nat → Int32} {n k : Nat} (S : SR g x m n k) {F : Nat} (hF : 11000 < F) : ∃ g', fX8_mixByDraws F x (gH g) = some (gH g') ∧ Fs g g' x ∧ SR g' x (mxM n m) n k := by
  have h10 := S.c.n10
  have hx := S.c.st
  have th := cl_ticketHolders S.1 hF
  have es : st (fun p => decide (¬ m (12 + 6 * p + 3) = -1)) n = st (hP m) n := rfl
  rw [es] at th
  have bc := cl_bitCount (s := st (hP m) n) (gH g) (by have := st_le (P := hP m) (k := 10) h10; omega)
  rw [st_pc h10] at bc
  have hle := fb_ct_le (hP m) n
  unfold mxM
  by_cases c : fb_ct (hP m) n < 2
  · rw [if_pos c]
    refine ⟨g, ?_, Fs.refl _ _, S⟩
    unfold fX8_mixByDraws
    refine (ck_e (io_s _ hx)).trans ?_
    refine (bd_e th).trans ?_
    refine (bd_e bc).trans ?_
    exact if_pos (nI_lt c (by decide))
  · rw [if_neg c]
    obtain ⟨d1, d2, a1, a2, b1, b2, b3, c1, c2, e1, e2, e3, e4⟩ := mx_in h10 c
    obtain ⟨w1, S1⟩ := cl_draw S
    obtain ⟨w2, S2⟩ := cl_draw S1
    have tp : ¬ (drM (drM m)) (12 + 6 * mx1 m n + 3) = -1 := by
      have := of_decide_eq_true (show decide (¬ (drM (drM m)) (12 + 6 * mx1 m n + 3) = -1) = true from by rw [← b2, ← hP_dr m, ← hP_dr (drM m)]; rfl)
      exact this
    have to : ¬ (drM (drM m)) (12 + 6 * mx2 m n + 3) = -1 := by
      have := of_decide_eq_true (show decide (¬ (drM (drM m)) (12 + 6 * mx2 m n + 3) = -1) = true from by rw [← e2, ← hP_dr m, ← hP_dr (drM m)]; rfl)
      exact this
    obtain ⟨g3, w3, F3, S3⟩ := S2.mix b1 e1 tp to
    have n1 := cl_nthS (P := hP m) h10 a1 (gH (sF g x 5 (drM m 9))) hF
    rw [b3] at n1
    have n2 := cl_nthS (P := fun q => hP m q && decide (q ≠ mx1 m n)) h10 c1 (gH (sF (sF g x 5 (drM m 9)) x 5 (drM (drM m) 9))) hF
    rw [e4] at n2
    refine ⟨g3, ?_, (Fs_F0.trans Fs_F0).trans F3, S3⟩
    unfold fX8_mixByDraws
    refine (ck_e (io_s _ hx)).trans ?_
    refine (bd_e th).trans ?_
    refine (bd_e bc).trans ?_
    refine (if_neg (fun h => c ((nI_ltI (by omega) (by decide)).mp h))).trans ?_
    refine (ck_e (io_s _ hx)).trans ?_
    refine (bd_e w1).trans ?_
    unfold ab_ck
    rw [if_pos (show ¬ nI (fb_ct (hP m) n) = 0 from fun h => by have := (z_eq (by omega)).mp h; omega), a2]
    refine (bd_e n1).trans ?_
    rw [if_pos (io_s _ hx)]
    refine (bd_e w2).trans ?_
    rw [show nI (fb_ct (hP m) n) - nI 1 = nI (fb_ct (hP m) n - 1) from pk_sub (by omega), if_pos (show ¬ nI (fb_ct (hP m) n - 1) = 0 from fun h => by have := (z_eq (by omega)).mp h; omega), sh1 (by omega), st_but h10 b1, c2]
    refine (bd_e n2).trans ?_
    rw [if_pos (io_s _ hx)]
    exact bd_e w3
theorem rf_mixD (g : gG) {n k : Nat} (G : GdR n k (gA g 207)) (z : Int32) (hz : z = nI 0 ∨ z = nI 1) {F : Nat} (hF : 11000 < F) (J : ab_H → Option (Int32 × ab_H)) : (if z = 0 then J (gH g) else (if nI (fb_ct (hP (gA g 207)) n) ≤ (nI 1) then J (gH g) else ab_ck (ab_io (gH g) 206 12 = true) (ab_bd (fX12_draw 206 (nI (fb_ct (hP (gA g 207)) n)) (gH g)) fun v50 => ab_ck (ab_io v50.2 206 12 = true) (ab_bd (fX12_holder F 206 v50.1 (-1 : Int32) v50.2) fun v51 => ab_ck (ab_io v50.2 206 12 = true) (ab_bd (fX12_draw 206 (nI (fb_ct (hP (gA g 207)) n) - (nI 1)) v50.2) fun v52 => ab_ck (ab_io v52.2 206 12 = true) (ab_bd (fX12_holder F 206 v52.1 v51 v52.2) fun v53 => ab_ck (ab_io v52.2 206 12 = true) (ab_bd (fX12_mixes F 206 v51 v53 v52.2) fun h54 => J h54))))))) = J (gH (sA g 207 (if z = 0 then gA g 207 else mxM n (gA g 207)))) := by
  obtain ⟨_, _, S⟩ := G
  have h10 := S.c.n10
  have m3 := S.2.2.1
  have hle := fb_ct_le (hP (gA g 207)) n
  rcases hz with hz | hz
  · have : z = 0 := by rw [hz]; exact nI_0
    rw [if_pos this, if_pos this, sA_id]
  · have z0 : ¬ z = 0 := by rw [hz]; decide
    rw [if_neg z0, if_neg z0]
    unfold mxM
    by_cases c : fb_ct (hP (gA g 207)) n < 2
    · rw [if_pos c, sA_id]
      exact if_pos (nI_le (by omega) (by decide))
    · rw [if_neg c]
      obtain ⟨d1, d2, a1, a2, b1, b2, b3, c1, c2, e1, e2, e3, e4⟩ := mx_in h10 c
      have w1 := rf_draw g (by9 := nI (fb_ct (hP (gA g 207)) n)) (fun h => by have := (z_eq (by omega)).mp h; omega)
      have w2 := rf_draw (sA g 207 (drM (gA g 207))) (by9 := nI (fb_ct (hP (gA g 207)) n - 1)) (fun h => by have := (z_eq (by omega)).mp h; omega)
      rw [gA_sA1, sA_sA] at w2
      clear S
      generalize gA g 207 = m at *
      have q3 : drM m 3 = nI n := by unfold drM; rw [upd_2 _ _ (by omega)]; exact m3
      have q4 : drM (drM m) 3 = nI n := by unfold drM; rw [upd_2 _ _ (by omega), upd_2 _ _ (by omega)]; exact m3
      have h1 := rf_holder (sA g 207 (drM m)) (n := n) (by rw [gA_sA1]; exact q3) h10 (-1) (d := d1) (by omega) hF
      have h2 := rf_holder (sA g 207 (drM (drM m))) (n := n) (by rw [gA_sA1]; exact q4) h10 (nI (mx1 m n)) (d := d2) (by have := fb_ct_le (fun q => hP m q && decide (q ≠ mx1 m n)) n; omega) hF
      rw [gA_sA1] at h1 h2
      have k1 : nthM (fun p => decide (¬ drM m (12 + 6 * p + 3) = -1) && decide (¬ nI p = -1)) n d1 = nthM (hP m) n d1 := nthM_cong (fun p hp => by
        have e : decide (¬ drM m (12 + 6 * p + 3) = -1) = hP m p := by rw [← hP_dr m]; rfl
        rw [e, decide_eq_true (nI_m1 (show p < 2 ^ 31 by omega)), Bool.and_true])
      have k2 : nthM (fun p => decide (¬ drM (drM m) (12 + 6 * p + 3) = -1) && decide (¬ nI p = nI (mx1 m n))) n d2 = nthM (fun q => hP m q && decide (q ≠ mx1 m n)) n d2 := nthM_cong (fun p hp => by
        have e : decide (¬ drM (drM m) (12 + 6 * p + 3) = -1) = hP m p := by rw [← hP_dr m, ← hP_dr (drM m)]; rfl
        rw [e]
        congr 1
        exact decide_eq_decide.mpr (not_congr (nI_eq (by omega) (by omega))))
      rw [k1, b3] at h1
      rw [k2, e4] at h2
      have mi := rf_mixes (sA g 207 (drM (drM m))) (p := mx1 m n) (o := mx2 m n) (by omega) (by omega) hF
      rw [gA_sA1, sA_sA] at mi
      refine (if_neg (nI_ge (by omega) (by omega))).trans ?_
      refine (ck_e (io_206 _)).trans ?_
      refine (bd_e w1).trans ?_
      refine (ck_e (io_206 _)).trans ?_
      rw [a2]
      refine (bd_e h1).trans ?_
      refine (ck_e (io_206 _)).trans ?_
      rw [show nI (fb_ct (hP m) n) - nI 1 = nI (fb_ct (hP m) n - 1) from pk_sub (by omega)]
      refine (bd_e w2).trans ?_
      refine (ck_e (io_206 _)).trans ?_
      rw [c2]
      refine (bd_e h2).trans ?_
      refine (ck_e (io_206 _)).trans ?_
      exact bd_e mi
/-! ===== the thief ===== -/
def rbS (m : Nat → Int32) (l : Int32) : Nat → Int32 × (Nat → Int32)
  | 0 => (l, m)
  | i + 1 => if (rbS m l i).2 (272 + i) = -1 then rbS m l i else ((rbS m l i).1 + (-1), if (rbS m l i).1 = 0 then upd (rbS m l i).2 (12 + 6 * nv ((rbS m l i).2 (272 + i))) ((rbS m l i).2 (12 + 6 * nv ((rbS m l i).2 (272 + i))) &&& ((rbS m l i).2 (12 + 6 * nv ((rbS m l i).2 (272 + i))) - nI 1)) else (rbS m l i).2)
def rbM (k : Nat) (m : Nat → Int32) : Nat → Int32 := if hgM m k = 0 then m else (rbS (drM m) (ab_rm (dvl (drM m)) (hgM m k)) k).2
theorem rob1 {g : gG} {x : Nat} {m : Nat → Int32} {n k f : Nat} (S : SR g x m n k) (hf : f < n) : ∃ g', ab_iw 0 (gH g) (x + 3) (nI f) (m (12 + 6 * f) &&& (m (12 + 6 * f) - nI 1)) = some (gH g') ∧ Fs g g' x ∧ SR g' x (upd m (12 + 6 * f) (m (12 + 6 * f) &&& (m (12 + 6 * f) - nI 1))) n k := by
  have h10 := S.c.n10
  obtain ⟨g1, a1, a2, a3⟩ := S.c.iw (r := 0) (a := x + 3) rfl (by decide) hf (m (12 + 6 * f) &&& (m (12 + 6 * f) - nI 1))
  exact ⟨g1, a1, a2, a3.r (S.w.u0 h10 (by omega)) (S.i.u0 h10 (by omega) (nv_and (S.i.1 f hf)))⟩
/-- a step of the thief, of the class -/
theorem cl_rob1 {g : gG} {x : Nat} {m : Nat → Int32} {l : Int32} {n k i : Nat} (S : SR g x (rbS m l i).2 n k) (hi : i < k) {F : Nat} (F' : Nat) : ∃ g', fX8_robByDraw_19 F x (F' + 1) (rbS m l i).1 (nI i) (gH g) = fX8_robByDraw_19 F x F' (rbS m l (i + 1)).1 (nI (i + 1)) (gH g') ∧ Fs g g' x ∧ SR g' x (rbS m l (i + 1)).2 n k ∧ Lm (rbS m l i).2 (rbS m l (i + 1)).2 := by
  have hx := S.c.st
  have h12 := S.c.k12
  have h10 := S.c.n10
  have V := S.1
  obtain ⟨_, hn, _, hk, _, e3, e4, e5, e6, e7, e8, e11, e9, e10⟩ := V
  have eq : rbS m l (i + 1) = if (rbS m l i).2 (272 + i) = -1 then rbS m l i else ((rbS m l i).1 + (-1), if (rbS m l i).1 = 0 then upd (rbS m l i).2 (12 + 6 * nv ((rbS m l i).2 (272 + i))) ((rbS m l i).2 (12 + 6 * nv ((rbS m l i).2 (272 + i))) &&& ((rbS m l i).2 (12 + 6 * nv ((rbS m l i).2 (272 + i))) - nI 1)) else (rbS m l i).2) := rfl
  have front : ∀ R, ((if (rbS m l i).2 (272 + i) = (-1 : Int32) then fX8_robByDraw_19 F x F' (rbS m l i).1 (nI i + nI 1) (gH g) else (if (rbS m l i).1 = 0 then ab_bd (ab_fr (gH g) x 8 9) fun v11 => ab_bd (ab_fr (gH g) x 8 17) fun v12 => ab_bd (ab_ia 0 (gH g) v12 (nI i)) fun v13 => ab_bd (ab_ia 0 (gH g) v11 v13) fun v14 => ab_bd (ab_fr (gH g) x 8 9) fun v15 => ab_bd (ab_fr (gH g) x 8 17) fun v16 => ab_bd (ab_ia 0 (gH g) v16 (nI i)) fun v17 => ab_bd (ab_ia 0 (gH g) v15 v17) fun v18 => ab_bd (ab_iw 0 (gH g) v11 v13 (v14 &&& (v18 - (nI 1)))) fun h19 => fX8_robByDraw_19 F x F' ((rbS m l i).1 + (-1 : Int32)) (nI i + nI 1) h19 else fX8_robByDraw_19 F x F' ((rbS m l i).1 + (-1 : Int32)) (nI i + nI 1) (gH g)))) = R → fX8_robByDraw_19 F x (F' + 1) (rbS m l i).1 (nI i) (gH g) = R := fun R h => by
    rw [fX8_robByDraw_19]
    refine (bd_e ((fi_s1 _ hx).trans (by rw [hk]))).trans ?_
    refine (if_pos (nI_lt hi (by omega))).trans ?_
    refine (bd_e (fr_s17 _ hx)).trans ?_
    refine (bd_e (ia_s11 _ hx (by omega))).trans ?_
    rw [e11 i (by omega)]
    exact h
  rw [nI_add] at front
  rw [eq]
  by_cases c1 : (rbS m l i).2 (272 + i) = -1
  · rw [if_pos c1]
    exact ⟨g, front _ (if_pos c1), Fs.refl _ _, S, Lm.refl _⟩
  · rw [if_neg c1]
    obtain ⟨_, f, hf, ef⟩ := (S.w.2.2.1 i (by omega)).resolve_left c1
    by_cases c2 : (rbS m l i).1 = 0
    · rw [if_pos c2, ef, nv_nI (by omega)]
      obtain ⟨g1, a1, a2, a3⟩ := rob1 S hf
      refine ⟨g1, front _ ?_, a2, a3, Lm.u (by omega)⟩
      refine (if_neg c1).trans ((if_pos c2).trans ?_)
      have r9 := fr_s9 g hx
      have r17 := fr_s17 g hx
      have ih : ab_ia 0 (gH g) (x + 11) (nI i) = some (nI f) := by rw [ia_s11 _ hx (by omega), e11 i (by omega), ef]
      have iff : ab_ia 0 (gH g) (x + 3) (nI f) = some ((rbS m l i).2 (12 + 6 * f)) := by rw [ia_s3 _ hx (by omega), e3 f hf]
      refine (bd_e r9).trans ?_
      refine (bd_e r17).trans ?_
      refine (bd_e ih).trans ?_
      refine (bd_e iff).trans ?_
      refine (bd_e r9).trans ?_
      refine (bd_e r17).trans ?_
      refine (bd_e ih).trans ?_
      refine (bd_e iff).trans ?_
      exact bd_e a1
    · rw [if_neg c2]
      exact ⟨g, front _ ((if_neg c1).trans (if_neg c2)), Fs.refl _ _, S, Lm.refl _⟩
theorem cl_robL {x : Nat} {m : Nat → Int32} {l : Int32} {n k : Nat} {F : Nat} : ∀ d i g Fu, i + d = k → SR g x (rbS m l i).2 n k → d < Fu → ∃ g', fX8_robByDraw_19 F x Fu (rbS m l i).1 (nI i) (gH g) = some (gH g') ∧ Fs g g' x ∧ SR g' x (rbS m l k).2 n k ∧ Lm (rbS m l i).2 (rbS m l k).2 := by
  intro d
  induction d with
  | zero =>
    intro i g Fu hi S hFu
    obtain ⟨F', rfl⟩ : ∃ F', Fu = F' + 1 := ⟨Fu - 1, by omega⟩
    have e : i = k := by omega
    subst e
    refine ⟨g, ?_, Fs.refl _ _, S, Lm.refl _⟩
    rw [fX8_robByDraw_19]
    refine (bd_e ((fi_s1 _ S.c.st).trans (by rw [S.1.2.2.2.1]))).trans ?_
    exact if_neg (fun h => Int32.lt_irrefl h)
  | succ d ih =>
    intro i g Fu hi S hFu
    obtain ⟨F', rfl⟩ : ∃ F', Fu = F' + 1 := ⟨Fu - 1, by omega⟩
    obtain ⟨g1, e1, F1, S1, L1⟩ := cl_rob1 S (show i < k by omega) F'
    obtain ⟨g2, e2, F2, S2, L2⟩ := ih (i + 1) g1 F' (by omega) S1 (by omega)
    exact ⟨g2, e1.trans e2, F1.trans F2, S2, L1.trans L2⟩
theorem rb_all {g : gG} {x : Nat} {m : Nat → Int32} {l : Int32} {n k : Nat} (S : SR g x m n k) : ∀ i, i ≤ k → ∃ g', SR g' x (rbS m l i).2 n k
  | 0, _ => ⟨g, S⟩
  | i + 1, hi => by
    obtain ⟨g1, S1⟩ := rb_all S i (by omega)
    obtain ⟨g2, _, _, S2, _⟩ := cl_rob1 (F := 0) S1 (show i < k by omega) 0
    exact ⟨g2, S2⟩
theorem hgM_0 {m : Nat → Int32} {k : Nat} (h : k ≤ 12) : hgM m k = 0 ↔ fb_ct (fun h => decide (¬ m (272 + h) = -1)) k = 0 := by
  unfold hgM
  have := fb_ct_le (fun h => decide (¬ m (272 + h) = -1)) k
  exact z_eq (by omega)
theorem cl_robD {g : gG} {x : Nat} {m : Nat → Int32} {n k : Nat} (S : SR g x m n k) {F : Nat} (hF : 11000 < F) : ∃ g', fX8_robByDraw F x (gH g) = some (gH g') ∧ Fs g g' x ∧ SR g' x (rbM k m) n k ∧ Lm m (rbM k m) := by
  have hx := S.c.st
  have h12 := S.c.k12
  have hc := cl_hungCount S.1 hF
  have hc : fX8_hungCount F x (gH g) = some (hgM m k) := hc
  unfold rbM
  by_cases c : hgM m k = 0
  · rw [if_pos c]
    refine ⟨g, ?_, Fs.refl _ _, S, Lm.refl _⟩
    unfold fX8_robByDraw
    refine (ck_e (io_s _ hx)).trans ?_
    refine (bd_e hc).trans ?_
    exact if_pos c
  · rw [if_neg c]
    obtain ⟨w1, S1⟩ := cl_draw S
    obtain ⟨g2, e2, F2, S2, L2⟩ := cl_robL (F := F) k 0 (sF g x 5 (drM m 9)) F (by omega) (m := drM m) (l := ab_rm (dvl (drM m)) (hgM m k)) S1 (by omega)
    refine ⟨g2, ?_, Fs_F0.trans F2, S2, (Lm.dr m).trans L2⟩
    unfold fX8_robByDraw
    refine (ck_e (io_s _ hx)).trans ?_
    refine (bd_e hc).trans ?_
    refine (if_neg c).trans ?_
    refine (ck_e (io_s _ hx)).trans ?_
    refine (bd_e w1).trans ?_
    unfold ab_ck
    rw [if_pos c]
    exact e2
theorem rf_robD (g : gG) {n k : Nat} (G : GdR n k (gA g 207)) (hc : ¬ hgM (gA g 207) k = 0) {F : Nat} (hF : 11000 < F) : fX12_robs F 206 (gH g) = some (gH (sA g 207 (rbM k (gA g 207)))) := by
  obtain ⟨g0, x0, S⟩ := G
  have h12 := S.c.k12
  have h10 := S.c.n10
  have m4 := S.2.2.2.1
  have hh := rf_hung g m4 h12 hF
  have hh : fX12_hung F 206 (gH g) = some (hgM (gA g 207) k) := hh
  have w := rf_draw g hc
  have S1 := (cl_draw S).2
  have al := rb_all (l := ab_rm (dvl (drM (gA g 207))) (hgM (gA g 207) k)) S1
  have q4 : drM (gA g 207) 4 = nI k := by unfold drM; rw [upd_2 _ _ (by omega)]; exact m4
  unfold rbM
  rw [if_neg hc]
  generalize drM (gA g 207) = m at *
  generalize hl : ab_rm (dvl m) (hgM (gA g 207) k) = l at *
  unfold fX12_robs
  refine (ck_e (io_206 _)).trans ?_
  refine (bd_e hh).trans ?_
  refine (ck_e (io_206 _)).trans ?_
  refine (bd_e w).trans ?_
  have lp := lp0 (L := fun F' i (a : Int32 × gG) => fX12_robs_11 F 206 F' a.1 i (gH a.2)) (n := k) (fun i => ((rbS m l i).1, sA g 207 (rbS m l i).2)) (some (gH (sA g 207 (rbS m l k).2))) ?_ ?_ F (by omega)
  · exact lp
  · intro F' i hi
    obtain ⟨gi, Si⟩ := al i (by omega)
    have k4 : (rbS m l i).2 4 = nI k := Si.2.2.2.1
    have eq : rbS m l (i + 1) = if (rbS m l i).2 (272 + i) = -1 then rbS m l i else ((rbS m l i).1 + (-1), if (rbS m l i).1 = 0 then upd (rbS m l i).2 (12 + 6 * nv ((rbS m l i).2 (272 + i))) ((rbS m l i).2 (12 + 6 * nv ((rbS m l i).2 (272 + i))) &&& ((rbS m l i).2 (12 + 6 * nv ((rbS m l i).2 (272 + i))) - nI 1)) else (rbS m l i).2) := rfl
    show fX12_robs_11 F 206 (F' + 1) (rbS m l i).1 (nI i) (gH (sA g 207 (rbS m l i).2)) = fX12_robs_11 F 206 F' (rbS m l (i + 1)).1 (nI (i + 1)) (gH (sA g 207 (rbS m l (i + 1)).2))
    rw [fX12_robs_11]
    refine (bd_e (fr_206_1 _)).trans ?_
    refine (bd_e ((ia_207 _ (show 4 < 984 by omega)).trans (by rw [gA_sA1, k4]))).trans ?_
    refine (if_pos (nI_lt hi (by omega))).trans ?_
    refine (bd_e (fr_206_1 _)).trans ?_
    rw [nI_add, nI_add]
    refine (bd_e ((ia_207 _ (show 272 + i < 984 by omega)).trans (by rw [gA_sA1]))).trans ?_
    rw [eq]
    by_cases c1 : (rbS m l i).2 (272 + i) = -1
    · refine (if_pos c1).trans ?_
      rw [if_pos c1]
    · obtain ⟨_, f, hf, ef⟩ := (Si.w.2.2.1 i (by omega)).resolve_left c1
      refine (if_neg c1).trans ?_
      rw [if_neg c1]
      by_cases c2 : (rbS m l i).1 = 0
      · refine (if_pos c2).trans ?_
        rw [if_pos c2, ef, nv_nI (by omega)]
        have o := rf_of (sA g 207 (rbS m l i).2) (p := f) (w := 0) (by omega)
        rw [gA_sA1, Nat.add_zero] at o
        have hs := rf_has (sA g 207 (rbS m l i).2) (p := f) (r := 0) ((rbS m l i).2 (12 + 6 * f) &&& ((rbS m l i).2 (12 + 6 * f) - nI 1)) (by omega)
        rw [gA_sA1, sA_sA, Nat.add_zero] at hs
        refine (ck_e (io_206 _)).trans ?_
        refine (bd_e o).trans ?_
        refine (ck_e (io_206 _)).trans ?_
        refine (bd_e o).trans ?_
        refine (ck_e (io_206 _)).trans ?_
        exact bd_e hs
      · refine (if_neg c2).trans ?_
        rw [if_neg c2]
  · intro F'
    obtain ⟨gi, Si⟩ := al k (Nat.le_refl _)
    show fX12_robs_11 F 206 (F' + 1) (rbS m l k).1 (nI k) (gH (sA g 207 (rbS m l k).2)) = _
    rw [fX12_robs_11]
    refine (bd_e (fr_206_1 _)).trans ?_
    refine (bd_e ((ia_207 _ (show 4 < 984 by omega)).trans (by rw [gA_sA1, Si.2.2.2.1]))).trans ?_
    exact if_neg (fun h => Int32.lt_irrefl h)
