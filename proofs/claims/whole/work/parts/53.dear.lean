variable {Nq : Nat}
/-! ===== WISHES: how dear; who wants another's ===== -/
def pos (m : Nat → Int32) (p : Nat) (x : Int32) : Nat := fa_first (fun k => decide (m (72 + 10 * p + k) = x)) 10
theorem wish_onto {m : Nat → Int32} {n p j : Nat} (I : Ix m n) (h10 : n ≤ 10) (hp : p < n) (hj : j < n) : ∃ k, k < n ∧ m (72 + 10 * p + k) = nI j := by
  obtain ⟨k, hk, e⟩ := fb_onto (n := n) (f := fun k => nv (m (72 + 10 * p + k))) (fun k hk => by
    obtain ⟨j, hj, e⟩ := I.2.2.2.1 p k hp hk
    show nv (m (72 + 10 * p + k)) < n
    rw [e, nv_nI (by omega)]; exact hj) (fun a b hab hb => by
    intro e
    have e' : m (72 + 10 * p + a) = m (72 + 10 * p + b) := by
      have := congrArg nI (show nv (m (72 + 10 * p + a)) = nv (m (72 + 10 * p + b)) from e)
      rwa [nI_nv, nI_nv] at this
    have := I.2.2.2.2.1 p a b hp (by omega) hb e'
    omega) hj
  refine ⟨k, hk, ?_⟩
  have := congrArg nI (show nv (m (72 + 10 * p + k)) = j from e)
  rwa [nI_nv] at this
theorem pos_spec {m : Nat → Int32} {n p j : Nat} (I : Ix m n) (h10 : n ≤ 10) (hp : p < n) (hj : j < n) : pos m p (nI j) < n ∧ m (72 + 10 * p + pos m p (nI j)) = nI j ∧ ∀ k, k < n → m (72 + 10 * p + k) = nI j → k = pos m p (nI j) := by
  obtain ⟨k, hk, e⟩ := wish_onto I h10 hp hj
  have hle : pos m p (nI j) ≤ k := by
    apply Decidable.byContradiction
    intro hl
    have := fa_first_no (fun k => decide (m (72 + 10 * p + k) = nI j)) 10 k (by unfold pos at hl; omega)
    rw [e] at this; simp at this
  have hy := fa_first_yes (fun k => decide (m (72 + 10 * p + k) = nI j)) 10 (show pos m p (nI j) < 10 by omega)
  have hy : m (72 + 10 * p + pos m p (nI j)) = nI j := of_decide_eq_true hy
  refine ⟨by omega, hy, fun k' hk' e' => ?_⟩
  exact I.2.2.2.2.1 p k' (pos m p (nI j)) hp hk' (by omega) (e'.trans hy.symm)
theorem rf_dear (g : gG) {n p j : Nat} (I : Ix (gA g 207) n) (h10 : n ≤ 10) (hp : p < n) (hj : j < n) {F : Nat} (hF : 11000 < F) : fX12_dear F 206 (nI p) (nI j) (gH g) = some (nI (pos (gA g 207) p (nI j))) := by
  obtain ⟨p1, p2, p3⟩ := pos_spec I h10 hp hj
  unfold fX12_dear
  refine lp0 (L := fun F' i (_ : Unit) => fX12_dear_2 206 (nI p) (nI j) (gH g) F' i) (n := pos (gA g 207) p (nI j)) (fun _ => ()) _ ?_ ?_ F (by omega)
  · intro F' i hi
    have hne : ¬ gA g 207 (72 + 10 * p + i) = nI j := fun e => by have := p3 i (by omega) e; omega
    simp (disch := omega) only [fX12_dear_2, fr_206_1, ia_207, bdS, ck_t, ck_T, cb_0, cb_1, ab_jn, if_true, if_false, hne, nI_add, pk_mul, nI_ltI, nI_leI, nI_eq, reduceCtorEq, m1_ne, and_true, true_and, and_false, false_and, not_true_eq_false, not_false_eq_true, ne_eq, decide_true, decide_false, Bool.false_eq_true, ite_true, ite_false, if_true, if_false, Nat.add_zero, Bool.and_true, Bool.true_and, Bool.and_false, Bool.false_and, Bool.or_true, Bool.true_or, Bool.or_false, Bool.false_or, decide_not, Bool.not_true, Bool.not_false, or_true, true_or, or_false, false_or, or_self, and_self, decide_eq_true_eq]
  · intro F'
    simp (disch := omega) only [fX12_dear_2, fr_206_1, ia_207, bdS, ck_t, ck_T, cb_0, cb_1, ab_jn, if_true, if_false, p2, nI_add, pk_mul, nI_ltI, nI_leI, nI_eq, reduceCtorEq, m1_ne, and_true, true_and, and_false, false_and, not_true_eq_false, not_false_eq_true, ne_eq, decide_true, decide_false, Bool.false_eq_true, ite_true, ite_false, if_true, if_false, Nat.add_zero, Bool.and_true, Bool.true_and, Bool.and_false, Bool.false_and, Bool.or_true, Bool.true_or, Bool.or_false, Bool.false_or, decide_not, Bool.not_true, Bool.not_false, or_true, true_or, or_false, false_or, or_self, and_self, decide_eq_true_eq]
/-- whether one of the set has a dearer FACE -/
def dea (m : Nat → Int32) (n : Nat) (S : Nat → Bool) (p : Nat) : Bool := exB (fun o => S o && decide (pos m p (m (12 + 6 * o + 2)) < pos m p (m (12 + 6 * p + 2)))) n
theorem rf_hasDearer (g : gG) {n : Nat} (hn : gA g 207 3 = nI n) (h10 : n ≤ 10) {F : Nat} (hF : 11000 < F) (I : Ix (gA g 207) n) (i1 : ∀ p, p < n → gA g 207 (12 + 6 * p + 2) = -1 ∨ ∃ j, j < n ∧ gA g 207 (12 + 6 * p + 2) = nI j) {p : Nat} (hp : p < n) (x : Int32) (hx : ∀ o, o < n → bt x o = true → ¬ gA g 207 (12 + 6 * o + 2) = -1) (hpx : bt x p = true) : fX12_hasDearer F 206 (nI p) x (gH g) = some (bI (dea (gA g 207) n (bt x) p)) := by
  unfold fX12_hasDearer dea
  obtain ⟨v, hv, ev⟩ := (i1 p hp).resolve_left (hx p hp hpx)
  have dp := rf_dear g I h10 hp hv hF
  have pv := (pos_spec I h10 hp hv).1
  refine lpx (L := fun F' i (_ : Unit) => fX12_hasDearer_2 F 206 (nI p) x (gH g) F' i) (n := n) (fun _ => ()) (fun o => (bt x o && decide (pos (gA g 207) p (gA g 207 (12 + 6 * o + 2)) < pos (gA g 207) p (gA g 207 (12 + 6 * p + 2)))) = true) _ ?_ ?_ ?_ F (by omega)
  · intro F' i hi _ hE
    cases c : bt x i
    · simp (disch := omega) only [fX12_hasDearer_2, io_206, fr_206_1, ia_207, bdS, ck_t, ck_T, cb_0, cb_1, ab_jn, if_true, if_false, hn, hi, rf_isOfX, c, bI_0, nI_add, pk_mul, nI_ltI, nI_leI, nI_eq, reduceCtorEq, m1_ne, and_true, true_and, and_false, false_and, not_true_eq_false, not_false_eq_true, ne_eq, decide_true, decide_false, Bool.false_eq_true, ite_true, ite_false, if_true, if_false, Nat.add_zero, Bool.and_true, Bool.true_and, Bool.and_false, Bool.false_and, Bool.or_true, Bool.true_or, Bool.or_false, Bool.false_or, decide_not, Bool.not_true, Bool.not_false, or_true, true_or, or_false, false_or, or_self, and_self, decide_eq_true_eq]
    · obtain ⟨u, hu, eu⟩ := (i1 i hi).resolve_left (hx i hi c)
      have du := rf_dear g I h10 hp hu hF
      have pu := (pos_spec I h10 hp hu).1
      rw [c, eu, ev] at hE
      have hlt : ¬ pos (gA g 207) p (nI u) < pos (gA g 207) p (nI v) := by simpa using hE
      simp (disch := omega) only [fX12_hasDearer_2, io_206, fr_206_1, ia_207, bdS, ck_t, ck_T, cb_0, cb_1, ab_jn, if_true, if_false, hn, hi, rf_isOfX, rf_of, eu, ev, du, dp, hlt, c, bI_0, nI_add, pk_mul, nI_ltI, nI_leI, nI_eq, reduceCtorEq, m1_ne, and_true, true_and, and_false, false_and, not_true_eq_false, not_false_eq_true, ne_eq, decide_true, decide_false, Bool.false_eq_true, ite_true, ite_false, if_true, if_false, Nat.add_zero, Bool.and_true, Bool.true_and, Bool.and_false, Bool.false_and, Bool.or_true, Bool.true_or, Bool.or_false, Bool.false_or, decide_not, Bool.not_true, Bool.not_false, or_true, true_or, or_false, false_or, or_self, and_self, decide_eq_true_eq]
  · intro F' i hi hj hE
    rw [exB_at (P := fun o => bt x o && decide (pos (gA g 207) p (gA g 207 (12 + 6 * o + 2)) < pos (gA g 207) p (gA g 207 (12 + 6 * p + 2)))) hi hE hj]
    have c : bt x i = true := by
      cases h : bt x i
      · rw [h] at hE; simp at hE
      · rfl
    obtain ⟨u, hu, eu⟩ := (i1 i hi).resolve_left (hx i hi c)
    have du := rf_dear g I h10 hp hu hF
    have pu := (pos_spec I h10 hp hu).1
    rw [c, eu, ev] at hE
    have hlt : pos (gA g 207) p (nI u) < pos (gA g 207) p (nI v) := by simpa using hE
    simp (disch := omega) only [fX12_hasDearer_2, io_206, fr_206_1, ia_207, bdS, ck_t, ck_T, cb_0, cb_1, ab_jn, if_true, if_false, hn, hi, rf_isOfX, rf_of, eu, ev, du, dp, hlt, c, bI_0, nI_add, pk_mul, nI_ltI, nI_leI, nI_eq, reduceCtorEq, m1_ne, and_true, true_and, and_false, false_and, not_true_eq_false, not_false_eq_true, ne_eq, decide_true, decide_false, Bool.false_eq_true, ite_true, ite_false, if_true, if_false, Nat.add_zero, Bool.and_true, Bool.true_and, Bool.and_false, Bool.false_and, Bool.or_true, Bool.true_or, Bool.or_false, Bool.false_or, decide_not, Bool.not_true, Bool.not_false, or_true, true_or, or_false, false_or, or_self, and_self, decide_eq_true_eq]
    rfl
  · intro F' hj
    rw [exB_no (P := fun o => bt x o && decide (pos (gA g 207) p (gA g 207 (12 + 6 * o + 2)) < pos (gA g 207) p (gA g 207 (12 + 6 * p + 2)))) hj]
    simp (disch := omega) only [fX12_hasDearer_2, io_206, fr_206_1, ia_207, bdS, ck_t, ck_T, cb_0, cb_1, ab_jn, if_true, if_false, hn, Nat.lt_irrefl, nI_add, pk_mul, nI_ltI, nI_leI, nI_eq, reduceCtorEq, m1_ne, and_true, true_and, and_false, false_and, not_true_eq_false, not_false_eq_true, ne_eq, decide_true, decide_false, Bool.false_eq_true, ite_true, ite_false, if_true, if_false, Nat.add_zero, Bool.and_true, Bool.true_and, Bool.and_false, Bool.false_and, Bool.or_true, Bool.true_or, Bool.or_false, Bool.false_or, decide_not, Bool.not_true, Bool.not_false, or_true, true_or, or_false, false_or, or_self, and_self, decide_eq_true_eq]
    rfl
theorem cl_wantsAny {g : gG} {x : Nat} {m : Nat → Int32} {n k : Nat} (V : Sv g x m n k) {F : Nat} (hF : 11000 < F) (I : Ix m n) (i1 : ∀ p, p < n → m (12 + 6 * p + 2) = -1 ∨ ∃ j, j < n ∧ m (12 + 6 * p + 2) = nI j) (i2 : ∀ p q, p < n → q < n → m (12 + 6 * p + 2) = m (12 + 6 * q + 2) → m (12 + 6 * p + 2) = -1 ∨ p = q) {p : Nat} (hp : p < n) (y : Int32) (hy : ∀ o, o < n → bt y o = true → ¬ m (12 + 6 * o + 2) = -1) (hpy : bt y p = true) : fX5_wantsAny F x (nI p) y (gH g) = some (bI (dea m n (bt y) p)) := by
  have W := V
  obtain ⟨hx, hn, h10, hk, h12, e3, e4, e5, e6, e7, e8, e11, e9, e10⟩ := W
  unfold fX5_wantsAny
  obtain ⟨v, hv, ev⟩ := (i1 p hp).resolve_left (hy p hp hpy)
  obtain ⟨pv1, pv2, pv3⟩ := pos_spec I h10 hp hv
  have q5 := e5 p hp
  have wk : ∀ k, k < n → ∃ j, j < n ∧ m (72 + 10 * p + k) = nI j ∧ ((wrr (fun q => m (12 + 6 * q + 2)) n (nI j) = -1 ∧ ∀ o, o < n → ¬ m (12 + 6 * o + 2) = nI j) ∨ ∃ o, o < n ∧ m (12 + 6 * o + 2) = nI j ∧ wrr (fun q => m (12 + 6 * q + 2)) n (nI j) = nI o) := by
    intro k hk
    obtain ⟨j, hj, e⟩ := I.2.2.2.1 p k hp hk
    refine ⟨j, hj, e, ?_⟩
    rcases fnd_cases (fun q => decide (m (12 + 6 * q + 2) = nI j)) n with ⟨e1, h1⟩ | ⟨o, ho, h1, _, e1⟩
    · exact Or.inl ⟨e1, fun o ho => of_decide_eq_false (h1 o ho)⟩
    · exact Or.inr ⟨o, ho, of_decide_eq_true h1, e1⟩
  have hw : ∀ f : Int32, fX8_wearerOf F x f (gH g) = some (wrr (fun q => m (12 + 6 * q + 2)) n f) := fun f => cl_wearerOf V hF f
  refine lpx (L := fun F' i (_ : Unit) => fX5_wantsAny_2 F x (nI p) y (gH g) F' i) (n := n) (fun _ => ()) (fun k => m (72 + 10 * p + k) = nI v ∨ ∃ o, o < n ∧ m (12 + 6 * o + 2) = m (72 + 10 * p + k) ∧ bt y o = true) _ ?_ ?_ ?_ F (by omega)
  · intro F' i hi _ hE
    have q10 := e10 p i hp hi
    obtain ⟨j, hj, e, h⟩ := wk i hi
    have hne : ¬ nI j = nI v := fun h => hE (Or.inl (e.trans h))
    rcases h with ⟨w1, _⟩ | ⟨o, ho, w1, w2⟩
    · simp (disch := first | omega | assumption | exact isSt6 | exact isSt18 | exact isSt30) only [fX5_wantsAny_2, io_s, fi_s0, fr_s16, ia_s10, fr_s11, ia_s5, bdS, ck_t, ck_T, cb_0, cb_1, ab_jn, if_true, if_false, hn, hi, q10, q5, e, ev, hne, hw, w1, nI_add, pk_mul, nI_ltI, if_true, if_false]
    · have hb : bt y o = false := by
        cases h : bt y o
        · rfl
        · exact absurd (Or.inr ⟨o, ho, w1.trans e.symm, h⟩) hE
      have hm1 : ¬ nI o = (-1 : Int32) := nI_m1 (by omega)
      simp (disch := first | omega | assumption | exact isSt6 | exact isSt18 | exact isSt30) only [fX5_wantsAny_2, io_s, fi_s0, fr_s16, ia_s10, fr_s11, ia_s5, bdS, ck_t, ck_T, cb_0, cb_1, ab_jn, if_true, if_false, hn, hi, q10, q5, e, ev, hne, hw, w2, hm1, cl_hasX, hb, bI_0, nI_add, pk_mul, nI_ltI, if_true, if_false]
  · intro F' i hi hj hE
    have q10 := e10 p i hp hi
    obtain ⟨j, hj', e, h⟩ := wk i hi
    by_cases hne : nI j = nI v
    · have hd : dea m n (bt y) p = false := by
        refine exB_f.mpr (fun o ho => ?_)
        cases hb : bt y o
        · rfl
        · obtain ⟨u, hu, eu⟩ := (i1 o ho).resolve_left (hy o ho hb)
          rw [eu, ev, Bool.true_and]
          obtain ⟨u1, u2, u3⟩ := pos_spec I h10 hp hu
          have hi' := pv3 i hi (e.trans hne)
          refine decide_eq_false (fun hl => ?_)
          exact hj (pos m p (nI u)) (by omega) (Or.inr ⟨o, ho, eu.trans u2.symm, hb⟩)
      rw [hd]
      simp (disch := first | omega | assumption | exact isSt6 | exact isSt18 | exact isSt30) only [fX5_wantsAny_2, io_s, fi_s0, fr_s16, ia_s10, fr_s11, ia_s5, bdS, ck_t, ck_T, cb_0, cb_1, ab_jn, if_true, if_false, hn, hi, q10, q5, e, ev, hne, nI_add, pk_mul, nI_ltI, if_true]
      rfl
    · obtain ⟨o, ho, w1, hb⟩ := hE.resolve_left (fun h => hne (e.symm.trans h))
      rw [e] at w1
      have w2 : wrr (fun q => m (12 + 6 * q + 2)) n (nI j) = nI o := (wrr_iff (w := fun q => m (12 + 6 * q + 2)) h10 ho hj' i2).mpr w1
      have hd : dea m n (bt y) p = true := by
        refine exB_t.mpr ⟨o, ho, ?_⟩
        obtain ⟨u1, u2, u3⟩ := pos_spec I h10 hp hj'
        have hi' := u3 i hi e
        rw [hb, w1, ev, Bool.true_and]
        refine decide_eq_true ?_
        rcases Nat.lt_trichotomy (pos m p (nI j)) (pos m p (nI v)) with h | h | h
        · exact h
        · rw [h, pv2] at u2; exact absurd u2.symm hne
        · exact absurd (Or.inl pv2) (hj (pos m p (nI v)) (by omega))
      rw [hd]
      have hm1 : ¬ nI o = (-1 : Int32) := nI_m1 (by omega)
      simp (disch := first | omega | assumption | exact isSt6 | exact isSt18 | exact isSt30) only [fX5_wantsAny_2, io_s, fi_s0, fr_s16, ia_s10, fr_s11, ia_s5, bdS, ck_t, ck_T, cb_0, cb_1, ab_jn, if_true, if_false, hn, hi, q10, q5, e, ev, hne, hw, w2, hm1, cl_hasX, hb, bI_0, nI_add, pk_mul, nI_ltI, if_true, if_false, reduceCtorEq]
      rfl
  · intro F' hj
    exact absurd (Or.inl pv2) (hj (pos m p (nI v)) pv1)
