variable {Nq : Nat}
/-! ===== all turns of AN HOUR ===== -/
def tuM (C : List Nat) (k : Nat) (m : Nat → Int32) : Nat → (Nat → Int32) × Nat
  | 0 => (m, 0)
  | i + 1 => ((trM C k (tuM C k m i).1 i).1, (tuM C k m i).2 + (if (trM C k (tuM C k m i).1 i).2 = true then 1 else 0))
def GdR (n k : Nat) (m : Nat → Int32) : Prop := ∃ g x, SR g x m n k
theorem Fh.w {g g' : gG} {x w : Nat} (h : Fh g g' x w) : gw g' x = gw g x := h.2.2.2 x
theorem tu_all {g : gG} {x : Nat} {m : Nat → Int32} {n k : Nat} {C : List Nat} (S : SR g x m n k) (H : LwC g (gw g x) m C) {F : Nat} (hF : 11000 < F) : ∀ i, i ≤ n → ∃ g', SR g' x (tuM C k m i).1 n k ∧ Lm m (tuM C k m i).1 ∧ Fh g g' x (gw g x)
  | 0, _ => ⟨g, S, Lm.refl m, Fh.refl _ _ _⟩
  | i + 1, hi => by
    obtain ⟨g1, S1, L1, F1⟩ := tu_all S H hF i (by omega)
    have H1 := H.keep F1 S.c.st L1
    rw [← F1.w] at H1
    obtain ⟨g2, _, F2, S2⟩ := cl_turn S1 H1 (p := i) (by omega) hF
    rw [F1.w] at F2
    exact ⟨g2, S2, L1.trans (trM_Lm S1.w (by omega) S1.c.n10 S1.c.k12), F1.trans F2⟩
theorem cl_turns {x : Nat} {m : Nat → Int32} {n k : Nat} {C : List Nat} {F : Nat} (hF : 11000 < F) (K : Int32 → ab_H → Option (Int32 × ab_H)) (h10 : n ≤ 10) : ∀ d i g Fu, i + d = n → SR g x (tuM C k m i).1 n k → LwC g (gw g x) (tuM C k m i).1 C → d < Fu → ∃ g', fX8_passHour_4 F x K Fu (nI (tuM C k m i).2) (nI i) (gH g) = K (nI (tuM C k m n).2) (gH g') ∧ Fh g g' x (gw g x) ∧ SR g' x (tuM C k m n).1 n k := by
  intro d
  induction d with
  | zero =>
    intro i g Fu hi S H hFu
    obtain ⟨F', rfl⟩ : ∃ F', Fu = F' + 1 := ⟨Fu - 1, by omega⟩
    have e : i = n := by omega
    subst e
    refine ⟨g, ?_, Fh.refl _ _ _, S⟩
    rw [fX8_passHour_4]
    refine (bd_e ((fi_s0 _ S.c.st).trans (by rw [S.1.2.1]))).trans ?_
    exact if_neg (fun h => Int32.lt_irrefl h)
  | succ d ih =>
    intro i g Fu hi S H hFu
    obtain ⟨F', rfl⟩ : ∃ F', Fu = F' + 1 := ⟨Fu - 1, by omega⟩
    obtain ⟨g1, e1, F1, S1⟩ := cl_turn S H (p := i) (by omega) hF
    have H1 := H.keep F1 S.c.st (trM_Lm (C := C) S.w (show i < n by omega) S.c.n10 S.c.k12)
    rw [← F1.w] at H1
    obtain ⟨g2, e2, F2, S2⟩ := ih (i + 1) g1 F' (by omega) S1 H1 (by omega)
    rw [F1.w] at F2
    refine ⟨g2, ?_, F1.trans F2, S2⟩
    rw [fX8_passHour_4]
    refine (bd_e ((fi_s0 _ S.c.st).trans (by rw [S.1.2.1]))).trans ?_
    refine (if_pos (nI_lt (by omega) (by omega))).trans ?_
    refine (ck_e (io_s _ S.c.st)).trans ?_
    refine (bd_e e1).trans ?_
    have ec : (tuM C k m (i + 1)).2 = (tuM C k m i).2 + (if (trM C k (tuM C k m i).1 i).2 = true then 1 else 0) := rfl
    rw [ec, ← nI_add (a := i) (b := 1)] at e2
    by_cases c : (trM C k (tuM C k m i).1 i).2 = true
    · rw [if_pos c, ← nI_add] at e2
      rw [c]
      refine (if_neg (show ¬ bI true = 0 by decide)).trans ?_
      exact e2
    · rw [if_neg c, Nat.add_zero] at e2
      rw [show (trM C k (tuM C k m i).1 i).2 = false by simpa using c]
      refine (if_pos (bI_0.mpr rfl)).trans ?_
      exact e2
/-! ===== the reference's turns ===== -/
def Fr (g g' : gG) : Prop := (∀ b, b ≠ 206 → gF g' b = gF g b) ∧ (∀ j, j < 9 ∨ j = 12 → gF g' 206 j = gF g 206 j) ∧ Bo g' ∧ (∀ b, b ≠ 207 → b ≠ 212 → gA g' b = gA g b) ∧ gL g' = gL g ∧ gw g' = gw g ∧ gn g' = gn g ∧ gl g' = gl g
theorem Fr.refl {g : gG} (h : Bo g) : Fr g g := ⟨fun _ _ => rfl, fun _ _ => rfl, h, fun _ _ _ => rfl, rfl, rfl, rfl, rfl⟩
theorem Fr.trans {g h k : gG} (a : Fr g h) (b : Fr h k) : Fr g k := ⟨fun c hc => (b.1 c hc).trans (a.1 c hc), fun c hc => (b.2.1 c hc).trans (a.2.1 c hc), b.2.2.1, fun c h1 h2 => (b.2.2.2.1 c h1 h2).trans (a.2.2.2.1 c h1 h2), b.2.2.2.2.1.trans a.2.2.2.2.1, b.2.2.2.2.2.1.trans a.2.2.2.2.2.1, b.2.2.2.2.2.2.1.trans a.2.2.2.2.2.2.1, b.2.2.2.2.2.2.2.trans a.2.2.2.2.2.2.2⟩
theorem Fr.m {g : gG} (h : Bo g) (m : Nat → Int32) : Fr g (sA g 207 m) := ⟨fun _ _ => rfl, fun _ _ => rfl, h, fun b h1 _ => gA_sA2 _ _ h1, rfl, rfl, rfl, rfl⟩
theorem LwC.kr {g g' : gG} {w : Nat} {m m' : Nat → Int32} {C : List Nat} (H : LwC g w m C) (h : Fr g g') (e : Lm m m') : LwC g' w m' C := by
  obtain ⟨h1, h2, h3, h4, h5, h6⟩ := H
  obtain ⟨a, b, c, d, _, _, f, i⟩ := h
  obtain ⟨e1, e2, e3⟩ := e
  have hw : w = 1 ∨ 220 ≤ w := by rcases h1 with h | ⟨i, h, _⟩ <;> omega
  refine ⟨h1.keep f, by rw [i]; exact h2, by rw [d (w + 2) (by omega) (by omega)]; exact h3, h4, h5, ?_⟩
  rw [e1, e2]
  refine h6.imp id (fun ⟨q1, L, t, q2, q3, q4, q5⟩ => ⟨q1, L, t, q2, q3, fun i hi => ?_, q5⟩)
  rw [e3 _ (by omega)]; exact q4 i hi
theorem rf_turn {g : gG} {n k p w : Nat} {C : List Nat} (G : GdR n k (gA g 207)) (hp : p < n) (H : LwC g w (gA g 207) C) (hb : Bo g) {F : Nat} (hF : 11000 < F) (K : Int32 → ab_H → Option (Int32 × ab_H)) (F' c : Nat) : ∃ g', fX12_hour_4 F 206 K (F' + 1) (nI c) (nI p) (gH g) = fX12_hour_4 F 206 K F' (nI (c + (if (trM C k (gA g 207) p).2 = true then 1 else 0))) (nI (p + 1)) (gH g') ∧ Fr g g' ∧ gA g' 207 = (trM C k (gA g 207) p).1 := by
  obtain ⟨_, _, S⟩ := G
  have h10 := S.c.n10
  have h12 := S.c.k12
  have W := S.w
  have m3 := S.2.2.1
  have m4 := S.2.2.2.1
  clear S
  obtain ⟨g2, a1, a2, a3, a4, a5, a6, a7, a8, a9, a17, a18⟩ := rf_asks W m3 h10 m4 h12 hp H hb hF
  have fr2 : Fr g g2 := ⟨a2, a3, a4, fun b _ h => a5 b h, a6, a7, a8, a9⟩
  have m2 : gA g2 207 = gA g 207 := a5 207 (by omega)
  have i0 : (nI 0 : Int32) = 0 := by decide
  have i1 : ¬ (nI 1 : Int32) = 0 := by decide
  have o2 := rf_of g (show 12 + 6 * p + 2 < 984 by omega)
  have o3 := rf_of g (show 12 + 6 * p + 3 < 984 by omega)
  -- behind the question whether both are the same
  have front : ∀ (z5 z7 : Int32), (if gA g 207 (12 + 6 * p + 2) = -1 then nI 0 else nI 1) = z5 → (if gA g 207 (12 + 6 * p + 3) = -1 then nI 0 else nI 1) = z7 → ∀ R, ((if z5 = z7 then fX12_hour_4 F 206 K F' (nI c) (nI p + nI 1) (gH g) else ab_ck (ab_io (gH g) 206 12 = true) (ab_bd (fX12_asks F 206 (nI p) (gH g)) fun h9 => ab_jn (κ := Option (Int32 × ab_H)) ((if z5 = 0 then ab_bd (ab_fi h9 206 12 18) fun v11 => (if v11 = 0 then fX12_hour_4 F 206 K F' (nI c) (nI p + nI 1) h9 else ab_ck (ab_io h9 206 12 = true) (ab_bd (fX12_gets F 206 (nI p) h9) fun v13 => fX12_hour_4 F 206 K F' (nI c + nI 1) (nI p + nI 1) v13.2)) else fX12_hour_4 F 206 K F' (nI c) (nI p + nI 1) h9)) fun j14 => (if z5 = 0 then j14 else ab_bd (ab_fi h9 206 12 17) fun v16 => (if v16 = 0 then j14 else ab_ck (ab_io h9 206 12 = true) (ab_bd (fX12_freeHook F 206 h9) fun v18 => (if v18 = (-1 : Int32) then j14 else ab_ck (ab_io h9 206 12 = true) (ab_bd (fX12_freeHook F 206 h9) fun v20 => ab_ck (ab_io h9 206 12 = true) (ab_bd (fX12_handsIn F 206 (nI p) v20 h9) fun v21 => fX12_hour_4 F 206 K F' (nI c + nI 1) (nI p + nI 1) v21.2))))))))) = R → fX12_hour_4 F 206 K (F' + 1) (nI c) (nI p) (gH g) = R := fun z5 z7 h5 h7 R h => by
    rw [fX12_hour_4]
    refine (bd_e (fr_206_1 _)).trans ?_
    refine (bd_e ((ia_207 _ (show 3 < 984 by omega)).trans (by rw [m3]))).trans ?_
    refine (if_pos (nI_lt hp (by omega))).trans ?_
    refine (ck_e (io_206 _)).trans ?_
    refine (bd_e o2).trans ?_
    refine (jsel _ _ _).trans ?_
    rw [h5]
    refine (ck_e (io_206 _)).trans ?_
    refine (bd_e o3).trans ?_
    refine (jsel _ _ _).trans ?_
    rw [h7]
    exact h
  unfold trM
  by_cases c1 : gA g 207 (12 + 6 * p + 2) = -1
  · rw [if_pos c1]
    by_cases c2 : gA g 207 (12 + 6 * p + 3) = -1
    · rw [if_pos c2]
      refine ⟨g, front _ _ (if_pos c1) (if_pos c2) _ ?_, Fr.refl hb, rfl⟩
      rw [← nI_add (a := p)]
      exact if_pos rfl
    · rw [if_neg c2]
      obtain ⟨j, hj, e⟩ := (W.2.2.2.2.2 p hp).resolve_left c2
      by_cases c3 : hit (envM (gA g 207) k p) 1008 C [] = true
      · rw [if_pos c3, e, nv_nI (by omega)]
        have rg := rf_gets g2 (p := p) (h := j) (by omega) (by omega) (by rw [m2]; exact e) hF
        refine ⟨sA g2 207 (getM (gA g2 207) p j), front _ _ (if_pos c1) (if_neg c2) _ ?_, fr2.trans (Fr.m a4 _), by rw [gA_sA1, m2]⟩
        refine (if_neg (by decide)).trans ?_
        refine (ck_e (io_206 _)).trans ?_
        refine (bd_e a1).trans ?_
        refine (jn_e _ _).trans ?_
        refine (if_pos i0).trans ?_
        refine (if_pos i0).trans ?_
        refine (bd_e ((fi_206_18 _).trans (by rw [a18, c3]))).trans ?_
        refine (if_neg (show ¬ bI true = 0 by decide)).trans ?_
        refine (ck_e (io_206 _)).trans ?_
        refine (bd_e rg).trans ?_
        rw [nI_add, nI_add]
        rfl
      · rw [if_neg c3]
        refine ⟨g2, front _ _ (if_pos c1) (if_neg c2) _ ?_, fr2, m2⟩
        refine (if_neg (by decide)).trans ?_
        refine (ck_e (io_206 _)).trans ?_
        refine (bd_e a1).trans ?_
        refine (jn_e _ _).trans ?_
        refine (if_pos i0).trans ?_
        refine (if_pos i0).trans ?_
        refine (bd_e ((fi_206_18 _).trans (by rw [a18, show hit (envM (gA g 207) k p) 1008 C [] = false by simpa using c3]))).trans ?_
        refine (if_pos (bI_0.mpr rfl)).trans ?_
        rw [nI_add]
        rfl
  · rw [if_neg c1]
    by_cases c2 : gA g 207 (12 + 6 * p + 3) = -1
    · rw [if_pos c2]
      have fh := rf_freeHook g2 (k := k) (by rw [m2]; exact m4) h12 hF
      rw [m2] at fh
      have mid : ∀ R, (if bI (hit (envM (gA g 207) k p) 1007 C []) = 0 then fX12_hour_4 F 206 K F' (nI c) (nI p + nI 1) (gH g2) else (if fnd (fun h => gA g 207 (272 + h) = -1) k = (-1 : Int32) then fX12_hour_4 F 206 K F' (nI c) (nI p + nI 1) (gH g2) else ab_bd (fX12_handsIn F 206 (nI p) (fnd (fun h => gA g 207 (272 + h) = -1) k) (gH g2)) fun v21 => fX12_hour_4 F 206 K F' (nI c + nI 1) (nI p + nI 1) v21.2)) = R → fX12_hour_4 F 206 K (F' + 1) (nI c) (nI p) (gH g) = R := fun R h => by
        refine front _ _ (if_neg c1) (if_pos c2) _ ?_
        refine (if_neg (by decide)).trans ?_
        refine (ck_e (io_206 _)).trans ?_
        refine (bd_e a1).trans ?_
        refine (jn_e _ _).trans ?_
        refine (if_neg i1).trans ?_
        refine (bd_e ((fi_206_17 _).trans (by rw [a17]))).trans ?_
        refine Eq.trans ?_ h
        by_cases d : bI (hit (envM (gA g 207) k p) 1007 C []) = 0
        · rw [if_pos d, if_pos d]; exact if_neg i1
        · rw [if_neg d, if_neg d]
          refine (ck_e (io_206 _)).trans ?_
          refine (bd_e fh).trans ?_
          by_cases d2 : fnd (fun h => gA g 207 (272 + h) = -1) k = (-1 : Int32)
          · rw [if_pos d2, if_pos d2]; exact if_neg i1
          · rw [if_neg d2, if_neg d2]
            refine (ck_e (io_206 _)).trans ?_
            refine (bd_e fh).trans ?_
            exact ck_e (io_206 _)
      by_cases c4 : fnd (fun h => gA g 207 (272 + h) = -1) k = -1
      · rw [if_pos c4]
        refine ⟨g2, mid _ ?_, fr2, m2⟩
        rw [nI_add]
        by_cases d : bI (hit (envM (gA g 207) k p) 1007 C []) = 0
        · rw [if_pos d]; rfl
        · rw [if_neg d, if_pos c4]; rfl
      · rw [if_neg c4]
        obtain ⟨i, hi, _, ei, ev⟩ := fnd_in c4 (by omega)
        by_cases c3 : hit (envM (gA g 207) k p) 1007 C [] = true
        · rw [if_pos c3, ev]
          have rh := rf_handsIn g2 (p := p) (h := i) (by omega) (by omega) hF
          refine ⟨sA g2 207 (hanM (gA g2 207) p i), mid _ ?_, fr2.trans (Fr.m a4 _), by rw [gA_sA1, m2]⟩
          rw [c3]
          refine (if_neg (show ¬ bI true = 0 by decide)).trans ?_
          refine (if_neg c4).trans ?_
          rw [ei]
          refine (bd_e rh).trans ?_
          rw [nI_add, nI_add]
          rfl
        · rw [if_neg c3]
          refine ⟨g2, mid _ ?_, fr2, m2⟩
          rw [show hit (envM (gA g 207) k p) 1007 C [] = false by simpa using c3, nI_add]
          exact if_pos (bI_0.mpr rfl)
    · rw [if_neg c2]
      refine ⟨g, front _ _ (if_neg c1) (if_neg c2) _ ?_, Fr.refl hb, rfl⟩
      rw [← nI_add (a := p)]
      exact if_pos rfl
theorem rf_turns {m : Nat → Int32} {n k w : Nat} {C : List Nat} {F : Nat} (hF : 11000 < F) (K : Int32 → ab_H → Option (Int32 × ab_H)) (h10 : n ≤ 10) (G : ∀ i, i ≤ n → GdR n k (tuM C k m i).1) : ∀ d i g Fu, i + d = n → gA g 207 = (tuM C k m i).1 → LwC g w (tuM C k m i).1 C → Bo g → d < Fu → ∃ g', fX12_hour_4 F 206 K Fu (nI (tuM C k m i).2) (nI i) (gH g) = K (nI (tuM C k m n).2) (gH g') ∧ Fr g g' ∧ gA g' 207 = (tuM C k m n).1 := by
  intro d
  induction d with
  | zero =>
    intro i g Fu hi hm H hb hFu
    obtain ⟨F', rfl⟩ : ∃ F', Fu = F' + 1 := ⟨Fu - 1, by omega⟩
    have e : i = n := by omega
    subst e
    obtain ⟨_, _, S⟩ := G i (Nat.le_refl _)
    refine ⟨g, ?_, Fr.refl hb, hm⟩
    rw [fX12_hour_4]
    refine (bd_e (fr_206_1 _)).trans ?_
    refine (bd_e ((ia_207 _ (show 3 < 984 by omega)).trans (by rw [hm, S.2.2.1]))).trans ?_
    exact if_neg (fun h => Int32.lt_irrefl h)
  | succ d ih =>
    intro i g Fu hi hm H hb hFu
    obtain ⟨F', rfl⟩ : ∃ F', Fu = F' + 1 := ⟨Fu - 1, by omega⟩
    have Gi := G i (by omega)
    obtain ⟨g1, e1, F1, M1⟩ := rf_turn (g := g) (n := n) (k := k) (p := i) (C := C) (by rw [hm]; exact Gi) (by omega) (by rw [hm]; exact H) hb hF K F' (tuM C k m i).2
    rw [hm] at e1 M1
    obtain ⟨_, _, S⟩ := Gi
    have H1 := H.kr F1 (trM_Lm (C := C) S.w (show i < n by omega) S.c.n10 S.c.k12)
    obtain ⟨g2, e2, F2, M2⟩ := ih (i + 1) g1 F' (by omega) M1 H1 F1.2.2.1 (by omega)
    exact ⟨g2, e1.trans e2, F1.trans F2, M2⟩
