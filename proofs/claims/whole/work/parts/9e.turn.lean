variable {Nq : Nat}
/-! ===== a turn of a PERSON in AN HOUR ===== -/
def trM (C : List Nat) (k : Nat) (m : Nat → Int32) (p : Nat) : (Nat → Int32) × Bool :=
  if m (12 + 6 * p + 2) = -1 then (if m (12 + 6 * p + 3) = -1 then (m, false) else if hit (envM m k p) 1008 C [] = true then (getM m p (nv (m (12 + 6 * p + 3))), true) else (m, false))
  else (if m (12 + 6 * p + 3) = -1 then (if fnd (fun h => m (272 + h) = -1) k = -1 then (m, false) else if hit (envM m k p) 1007 C [] = true then (hanM m p (nv (fnd (fun h => m (272 + h) = -1) k)), true) else (m, false)) else (m, false))
/-- what AN HOUR leaves of the class's cells -/
def Fh (g g' : gG) (x w : Nat) : Prop := (∀ b, (b < x ∨ x + 12 ≤ b) → gF g' b = gF g b ∧ gL g' b = gL g b ∧ (b ≠ w + 1 → gA g' b = gA g b)) ∧ gn g' = gn g ∧ (∀ b, gl g' b = gl g b) ∧ ∀ b, gw g' b = gw g b
theorem Fh.refl (g : gG) (x w : Nat) : Fh g g x w := ⟨fun _ _ => ⟨rfl, rfl, fun _ => rfl⟩, rfl, fun _ => rfl, fun _ => rfl⟩
theorem Fh.trans {g h k : gG} {x w : Nat} (a : Fh g h x w) (b : Fh h k x w) : Fh g k x w := ⟨fun c hc => ⟨((b.1 c hc).1).trans (a.1 c hc).1, ((b.1 c hc).2.1).trans (a.1 c hc).2.1, fun h => ((b.1 c hc).2.2 h).trans ((a.1 c hc).2.2 h)⟩, b.2.1.trans a.2.1, fun c => (b.2.2.1 c).trans (a.2.2.1 c), fun c => (b.2.2.2 c).trans (a.2.2.2 c)⟩
theorem Fs.h {g g' : gG} {x : Nat} (h : Fs g g' x) (w : Nat) : Fh g g' x w := ⟨fun b hb => ⟨(h.1 b hb).1, (h.1 b hb).2.2, fun _ => (h.1 b hb).2.1⟩, h.2.1, h.2.2.1, h.2.2.2⟩
theorem Fh_stk (g : gG) (x w : Nat) (T : Nat → Int32) : Fh g (sA g (w + 1) T) x w := ⟨fun b hb => ⟨rfl, rfl, fun h => gA_sA2 _ _ h⟩, rfl, fun _ => rfl, fun _ => rfl⟩
/-- the row's LAW stays -/
def Lm (m m' : Nat → Int32) : Prop := m' 1 = m 1 ∧ m' 2 = m 2 ∧ ∀ i, 584 ≤ i → m' i = m i
theorem Lm.refl (m : Nat → Int32) : Lm m m := ⟨rfl, rfl, fun _ _ => rfl⟩
theorem Lm.trans {a b c : Nat → Int32} (h : Lm a b) (k : Lm b c) : Lm a c := ⟨k.1.trans h.1, k.2.1.trans h.2.1, fun i hi => (k.2.2 i hi).trans (h.2.2 i hi)⟩
theorem Lm.u {m : Nat → Int32} {i : Nat} {v : Int32} (h : 3 ≤ i ∧ i < 584) : Lm m (upd m i v) := ⟨upd_2 _ _ (by omega), upd_2 _ _ (by omega), fun j hj => upd_2 _ _ (by omega)⟩
theorem Lm.wr {m : Nat → Int32} (p h f w : Int32) : Lm m (wrM m p h f w) := ⟨wrM_1 _ _ _ _ _, wrM_2 _ _ _ _ _, fun _ hi => wrM_hi _ _ _ _ _ hi⟩
theorem Lm.han {m : Nat → Int32} {p h : Nat} (hp : p < 10) (hh : h < 12) : Lm m (hanM m p h) := by
  unfold hanM
  exact ((Lm.u (by omega)).trans ((Lm.u (by omega)).trans (Lm.u (by omega)))).trans (Lm.wr _ _ _ _)
theorem Lm.get {m : Nat → Int32} {p h : Nat} (hp : p < 10) (hh : h < 12) : Lm m (getM m p h) := by
  unfold getM
  exact ((Lm.u (by omega)).trans ((Lm.u (by omega)).trans (Lm.u (by omega)))).trans (Lm.wr _ _ _ _)
theorem LwC.keep {g g' : gG} {x w : Nat} {m m' : Nat → Int32} {C : List Nat} (H : LwC g w m C) (h : Fh g g' x w) (hx : isSt x) (e : Lm m m') : LwC g' w m' C := by
  obtain ⟨h1, h2, h3, h4, h5, h6⟩ := H
  obtain ⟨a, b, c, d⟩ := h
  obtain ⟨e1, e2, e3⟩ := e
  have hl := isSt_lt hx
  have hw : w = 1 ∨ 220 ≤ w := by rcases h1 with h | ⟨i, h, _⟩ <;> omega
  refine ⟨h1.keep b, by rw [c]; exact h2, by rw [(a (w + 2) (by omega)).2.2 (by omega)]; exact h3, h4, h5, ?_⟩
  rw [e1, e2]
  refine h6.imp id (fun ⟨q1, L, t, q2, q3, q4, q5⟩ => ⟨q1, L, t, q2, q3, fun i hi => ?_, q5⟩)
  rw [e3 _ (by omega)]; exact q4 i hi
theorem fnd_in {P : Nat → Bool} {k : Nat} (h : ¬ fnd P k = -1) (hk : k < 1000) : ∃ i, i < k ∧ P i = true ∧ fnd P k = nI i ∧ nv (fnd P k) = i := by
  rcases fnd_cases P k with ⟨e, _⟩ | ⟨i, h1, h2, _, e⟩
  · exact absurd e h
  · exact ⟨i, h1, h2, e, by rw [e, nv_nI (by omega)]⟩
/-- the row stays what it must be -/
theorem trM_Lm {C : List Nat} {m : Nat → Int32} {n k p : Nat} (W : Iw m n k) (hp : p < n) (h10 : n ≤ 10) (h12 : k ≤ 12) : Lm m (trM C k m p).1 := by
  unfold trM
  by_cases c1 : m (12 + 6 * p + 2) = -1
  · rw [if_pos c1]
    by_cases c2 : m (12 + 6 * p + 3) = -1
    · rw [if_pos c2]; exact Lm.refl m
    · rw [if_neg c2]
      obtain ⟨j, hj, e⟩ := (W.2.2.2.2.2 p hp).resolve_left c2
      by_cases c3 : hit (envM m k p) 1008 C [] = true
      · rw [if_pos c3, e, nv_nI (by omega)]; exact Lm.get (by omega) (by omega)
      · rw [if_neg c3]; exact Lm.refl m
  · rw [if_neg c1]
    by_cases c2 : m (12 + 6 * p + 3) = -1
    · rw [if_pos c2]
      by_cases c4 : fnd (fun h => m (272 + h) = -1) k = -1
      · rw [if_pos c4]; exact Lm.refl m
      · rw [if_neg c4]
        obtain ⟨i, hi, _, _, e⟩ := fnd_in c4 (by omega)
        by_cases c3 : hit (envM m k p) 1007 C [] = true
        · rw [if_pos c3, e]; exact Lm.han (by omega) (by omega)
        · rw [if_neg c3]; exact Lm.refl m
    · rw [if_neg c2]; exact Lm.refl m
theorem cl_turn {g : gG} {x : Nat} {m : Nat → Int32} {n k p : Nat} {C : List Nat} (S : SR g x m n k) (H : LwC g (gw g x) m C) (hp : p < n) {F : Nat} (hF : 11000 < F) : ∃ g', fX8_takesTurn F x (nI p) (gH g) = some (bI (trM C k m p).2, gH g') ∧ Fh g g' x (gw g x) ∧ SR g' x (trM C k m p).1 n k := by
  have V := S.1
  have lf := cl_leastFreeHook V hF
  obtain ⟨hx, hn, h10, hk, h12, e3, e4, e5, e6, e7, e8, e11, e9, e10⟩ := V
  obtain ⟨q1, q2, q3, q4, q5, _⟩ := H
  have r7 := fr_s7 g hx
  have front : ∀ R, (ab_jn (κ := Int32 → Option (Int32 × ab_H)) (fun (z3 : Int32) => ab_bd (ab_fr (gH g) x 8 12) fun v4 => ab_bd (ab_ia 0 (gH g) v4 (nI p)) fun v5 => ab_jn (κ := Int32 → Option (Int32 × ab_H)) (fun (z6 : Int32) => ab_jn (κ := Option (Int32 × ab_H)) ((if z3 = 0 then some (nI 0, gH g) else (if z6 = 0 then some (nI 0, gH g) else ab_bd (ab_fr (gH g) x 8 7) fun v9 => ab_ck (ab_io (gH g) v9 2 = true) (ab_bd (fX2_allows F v9 x (nI p) (nI 1008) (gH g)) fun v10 => (if v10.1 = 0 then some (nI 0, v10.2) else ab_ck (ab_io v10.2 x 8 = true) (ab_bd (fX8_fetchBy x (nI p) v10.2) fun v12 => some (nI 1, v12.2))))))) fun j13 => (if z3 = 0 then (if z6 = 0 then ab_ck (ab_io (gH g) x 8 = true) (ab_bd (fX8_leastFreeHook F x (gH g)) fun v16 => (if v16 = (-1 : Int32) then some (nI 0, gH g) else ab_bd (ab_fr (gH g) x 8 7) fun v18 => ab_ck (ab_io (gH g) v18 2 = true) (ab_bd (fX2_allows F v18 x (nI p) (nI 1007) (gH g)) fun v19 => (if v19.1 = 0 then some (nI 0, v19.2) else ab_ck (ab_io v19.2 x 8 = true) (ab_bd (fX8_handIn x (nI p) v16 v19.2) fun v21 => some (nI 1, v21.2)))))) else j13) else j13)) fun j22 => (if v5 = (-1 : Int32) then j22 (nI 0) else j22 (nI 1))) fun j24 => (if m (12 + 6 * p + 2) = (-1 : Int32) then j24 (nI 1) else j24 (nI 0))) = R → fX8_takesTurn F x (nI p) (gH g) = R := fun R h => by
    unfold fX8_takesTurn
    refine (bd_e (fr_s11 _ hx)).trans ?_
    refine (bd_e (ia_s5 _ hx (by omega))).trans ?_
    rw [e5 p hp]
    exact h
  have i0 : (nI 0 : Int32) = 0 := by decide
  have i1 : ¬ (nI 1 : Int32) = 0 := by decide
  unfold trM
  by_cases c1 : m (12 + 6 * p + 2) = -1
  · rw [if_pos c1]
    by_cases c2 : m (12 + 6 * p + 3) = -1
    · rw [if_pos c2]
      refine ⟨g, front _ ?_, Fh.refl _ _ _, S⟩
      refine (jsel _ _ _).trans ?_
      rw [if_pos c1]
      refine (bd_e (fr_s12 _ hx)).trans ?_
      refine (bd_e (ia_s6 _ hx (by omega))).trans ?_
      rw [e6 p hp]
      refine (jsel _ _ _).trans ?_
      rw [if_pos c2]
      refine (jn_e _ _).trans ?_
      refine (if_neg i1).trans ?_
      refine (if_neg i1).trans ?_
      exact if_pos i0
    · rw [if_neg c2]
      obtain ⟨j, hj, e⟩ := (S.w.2.2.2.2.2 p hp).resolve_left c2
      obtain ⟨T, al⟩ := cl_allows q1 S hp q2 q3 q4 q5 (lw := 1008) (Or.inr rfl) hF
      have fr2 : ∀ R, (ab_bd (some (bI (hit (envM m k p) 1008 C []), gH (sA g (gw g x + 1) T))) fun v10 => (if v10.1 = 0 then some (nI 0, v10.2) else ab_ck (ab_io v10.2 x 8 = true) (ab_bd (fX8_fetchBy x (nI p) v10.2) fun v12 => some (nI 1, v12.2)))) = R → fX8_takesTurn F x (nI p) (gH g) = R := fun R h => by
        refine front _ ?_
        refine (jsel _ _ _).trans ?_
        rw [if_pos c1]
        refine (bd_e (fr_s12 _ hx)).trans ?_
        refine (bd_e (ia_s6 _ hx (by omega))).trans ?_
        rw [e6 p hp]
        refine (jsel _ _ _).trans ?_
        rw [if_neg c2]
        refine (jn_e _ _).trans ?_
        refine (if_neg i1).trans ?_
        refine (if_neg i1).trans ?_
        refine (if_neg i1).trans ?_
        refine (bd_e r7).trans ?_
        refine (ck_e (io_w _ q1)).trans ?_
        rw [al]
        exact h
      by_cases c3 : hit (envM m k p) 1008 C [] = true
      · rw [if_pos c3, e, nv_nI (by omega)]
        obtain ⟨g1, a1, a2, a3⟩ := (S.stk q1 T).get hp hj e
        refine ⟨g1, fr2 _ ?_, (Fh_stk g x (gw g x) T).trans (a2.h _), a3⟩
        refine (bd_e rfl).trans ?_
        rw [c3]
        refine (if_neg (show ¬ bI true = 0 by decide)).trans ?_
        refine (ck_e (io_s _ hx)).trans ?_
        exact bd_e a1
      · rw [if_neg c3]
        refine ⟨sA g (gw g x + 1) T, fr2 _ ?_, Fh_stk g x (gw g x) T, S.stk q1 T⟩
        refine (bd_e rfl).trans ?_
        rw [show hit (envM m k p) 1008 C [] = false by simpa using c3]
        exact if_pos (bI_0.mpr rfl)
  · rw [if_neg c1]
    by_cases c2 : m (12 + 6 * p + 3) = -1
    · rw [if_pos c2]
      have fr2 : ∀ R, ((if fnd (fun h => m (272 + h) = -1) k = (-1 : Int32) then some (nI 0, gH g) else ab_bd (ab_fr (gH g) x 8 7) fun v18 => ab_ck (ab_io (gH g) v18 2 = true) (ab_bd (fX2_allows F v18 x (nI p) (nI 1007) (gH g)) fun v19 => (if v19.1 = 0 then some (nI 0, v19.2) else ab_ck (ab_io v19.2 x 8 = true) (ab_bd (fX8_handIn x (nI p) (fnd (fun h => m (272 + h) = -1) k) v19.2) fun v21 => some (nI 1, v21.2)))))) = R → fX8_takesTurn F x (nI p) (gH g) = R := fun R h => by
        refine front _ ?_
        refine (jsel _ _ _).trans ?_
        rw [if_neg c1]
        refine (bd_e (fr_s12 _ hx)).trans ?_
        refine (bd_e (ia_s6 _ hx (by omega))).trans ?_
        rw [e6 p hp]
        refine (jsel _ _ _).trans ?_
        rw [if_pos c2]
        refine (jn_e _ _).trans ?_
        refine (if_pos i0).trans ?_
        refine (if_pos i0).trans ?_
        refine (ck_e (io_s _ hx)).trans ?_
        exact (bd_e lf).trans h
      by_cases c4 : fnd (fun h => m (272 + h) = -1) k = -1
      · rw [if_pos c4]
        exact ⟨g, fr2 _ (if_pos c4), Fh.refl _ _ _, S⟩
      · rw [if_neg c4]
        obtain ⟨i, hi, _, ei, ev⟩ := fnd_in c4 (by omega)
        obtain ⟨T, al⟩ := cl_allows q1 S hp q2 q3 q4 q5 (lw := 1007) (Or.inl rfl) hF
        by_cases c3 : hit (envM m k p) 1007 C [] = true
        · rw [if_pos c3, ev]
          obtain ⟨f, hf, ef⟩ := (S.w.1 p hp).resolve_left c1
          obtain ⟨g1, a1, a2, a3⟩ := (S.stk q1 T).hand hp hi hf ef
          refine ⟨g1, fr2 _ ?_, (Fh_stk g x (gw g x) T).trans (a2.h _), a3⟩
          refine (if_neg c4).trans ?_
          refine (bd_e r7).trans ?_
          refine (ck_e (io_w _ q1)).trans ?_
          refine (bd_e al).trans ?_
          rw [c3]
          refine (if_neg (show ¬ bI true = 0 by decide)).trans ?_
          refine (ck_e (io_s _ hx)).trans ?_
          rw [ei]
          exact bd_e a1
        · rw [if_neg c3]
          refine ⟨sA g (gw g x + 1) T, fr2 _ ?_, Fh_stk g x (gw g x) T, S.stk q1 T⟩
          refine (if_neg c4).trans ?_
          refine (bd_e r7).trans ?_
          refine (ck_e (io_w _ q1)).trans ?_
          refine (bd_e al).trans ?_
          rw [show hit (envM m k p) 1007 C [] = false by simpa using c3]
          exact if_pos (bI_0.mpr rfl)
    · rw [if_neg c2]
      refine ⟨g, front _ ?_, Fh.refl _ _ _, S⟩
      refine (jsel _ _ _).trans ?_
      rw [if_neg c1]
      refine (bd_e (fr_s12 _ hx)).trans ?_
      refine (bd_e (ia_s6 _ hx (by omega))).trans ?_
      rw [e6 p hp]
      refine (jsel _ _ _).trans ?_
      rw [if_neg c2]
      refine (jn_e _ _).trans ?_
      refine (if_pos i0).trans ?_
      refine (if_neg i1).trans ?_
      exact if_pos i0
