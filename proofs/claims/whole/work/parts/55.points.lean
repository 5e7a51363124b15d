variable {Nq : Nat}
/-! ===== whom one points to ===== -/
def amB (m : Nat → Int32) (n : Nat) (S : Nat → Bool) (p o : Nat) : Bool := S o && !exB (fun q => S q && decide (pos m p (m (12 + 6 * q + 2)) < pos m p (m (12 + 6 * o + 2)))) n
def ptN (m : Nat → Int32) (n : Nat) (S : Nat → Bool) (p : Nat) : Nat := fa_first (amB m n S p) n
def Am (m : Nat → Int32) (n : Nat) (S : Nat → Bool) (p o : Nat) : Prop := o < n ∧ S o = true ∧ ∀ q, q < n → S q = true → pos m p (m (12 + 6 * o + 2)) ≤ pos m p (m (12 + 6 * q + 2))
/-- what holds of the row and of a set of wearers -/
def Ws (m : Nat → Int32) (n : Nat) (S : Nat → Bool) : Prop := n ≤ 10 ∧ Ix m n ∧ (∀ p, p < n → m (12 + 6 * p + 2) = -1 ∨ ∃ j, j < n ∧ m (12 + 6 * p + 2) = nI j) ∧ (∀ p q, p < n → q < n → m (12 + 6 * p + 2) = m (12 + 6 * q + 2) → m (12 + 6 * p + 2) = -1 ∨ p = q) ∧ ∀ o, o < n → S o = true → ¬ m (12 + 6 * o + 2) = -1
theorem Ws.w {m : Nat → Int32} {n : Nat} {S : Nat → Bool} (W : Ws m n S) {o : Nat} (ho : o < n) (hs : S o = true) : ∃ j, j < n ∧ m (12 + 6 * o + 2) = nI j := (W.2.2.1 o ho).resolve_left (W.2.2.2.2 o ho hs)
theorem Am_one {m : Nat → Int32} {n : Nat} {S : Nat → Bool} (W : Ws m n S) {p o o' : Nat} (hp : p < n) (h : Am m n S p o) (h' : Am m n S p o') : o = o' := by
  have e : pos m p (m (12 + 6 * o + 2)) = pos m p (m (12 + 6 * o' + 2)) := Nat.le_antisymm (h.2.2 o' h'.1 h'.2.1) (h'.2.2 o h.1 h.2.1)
  obtain ⟨j, hj, ej⟩ := W.w h.1 h.2.1
  obtain ⟨j', hj', ej'⟩ := W.w h'.1 h'.2.1
  have a := (pos_spec W.2.1 W.1 hp hj).2.1
  have b := (pos_spec W.2.1 W.1 hp hj').2.1
  rw [ej, ej'] at e
  rw [e, b] at a
  have := W.2.2.2.1 o o' h.1 h'.1 (by rw [ej, ej', a])
  exact this.resolve_left (W.2.2.2.2 o h.1 h.2.1)
theorem ptN_of {m : Nat → Int32} {n : Nat} {S : Nat → Bool} (W : Ws m n S) {p o : Nat} (hp : p < n) (h : Am m n S p o) : ptN m n S p = o := by
  have hb : amB m n S p o = true := by
    unfold amB
    rw [h.2.1, Bool.true_and, exB_f.mpr (fun q hq => ?_)]
    · rfl
    · cases c : S q
      · rfl
      · rw [Bool.true_and]; exact decide_eq_false (by have := h.2.2 q hq c; omega)
  have hl : fa_first (amB m n S p) n ≤ o := by
    apply Decidable.byContradiction
    intro hl
    have := fa_first_no (amB m n S p) n o (by omega)
    rw [hb] at this; cases this
  have hy := fa_first_yes (amB m n S p) n (by have := h.1; omega)
  have hm : Am m n S p (ptN m n S p) := by
    have hlt : ptN m n S p < n := by have := h.1; show fa_first (amB m n S p) n < n; omega
    have hy : amB m n S p (ptN m n S p) = true := hy
    unfold amB at hy
    cases c : S (ptN m n S p)
    · rw [c] at hy; simp at hy
    · rw [c, Bool.true_and] at hy
      refine ⟨hlt, c, fun q hq hs => ?_⟩
      have hf : exB (fun q => S q && decide (pos m p (m (12 + 6 * q + 2)) < pos m p (m (12 + 6 * ptN m n S p + 2)))) n = false := by simpa using hy
      have := exB_f.mp hf q hq
      rw [hs, Bool.true_and] at this
      have := of_decide_eq_false this
      omega
  exact Am_one W hp hm h
theorem rf_pointsTo (g : gG) {n : Nat} (hn : gA g 207 3 = nI n) (h10 : n ≤ 10) {F : Nat} (hF : 11000 < F) (x : Int32) (W : Ws (gA g 207) n (bt x)) {p : Nat} (hp : p < n) (he : ∃ o, o < n ∧ bt x o = true) : ∃ o, fX12_pointsTo F 206 (nI p) x (gH g) = some (nI o) ∧ Am (gA g 207) n (bt x) p o := by
  unfold fX12_pointsTo
  have h0 := lpE (L := fun F' i (a : Int32) => fX12_pointsTo_5 F 206 (nI p) x (gH g) F' a i) (n := n) (fun i a => (a = -1 ∧ ∀ q, q < i → bt x q = false) ∨ ∃ o, o < i ∧ a = nI o ∧ bt x o = true ∧ ∀ q, q < i → bt x q = true → pos (gA g 207) p (gA g 207 (12 + 6 * o + 2)) ≤ pos (gA g 207) p (gA g 207 (12 + 6 * q + 2))) (fun a => some a) ?_ ?_ F 0 (-1) (by omega) (by omega) (Or.inl ⟨rfl, fun q hq => absurd hq (Nat.not_lt_zero q)⟩)
  · obtain ⟨a, h1, h2⟩ := h0
    rcases h1 with ⟨e, h⟩ | ⟨o, ho, e, h3, h4⟩
    · obtain ⟨o, ho, hb⟩ := he
      rw [h o ho] at hb; cases hb
    · rw [e] at h2
      exact ⟨o, h2, ho, h3, h4⟩
  · intro F' i a hi hI
    cases c : bt x i
    · refine ⟨a, ?_, ?_⟩
      · rcases hI with ⟨e, h⟩ | ⟨o, ho, e, h3, h4⟩
        · exact Or.inl ⟨e, fun q hq => by
            by_cases cq : q = i
            · rw [cq, c]
            · exact h q (by omega)⟩
        · exact Or.inr ⟨o, by omega, e, h3, fun q hq hb => by
            by_cases cq : q = i
            · rw [cq, c] at hb; cases hb
            · exact h4 q (by omega) hb⟩
      · simp (disch := omega) only [fX12_pointsTo_5, io_206, fr_206_1, ia_207, bdS, ck_t, ck_T, cb_0, cb_1, ab_jn, if_true, if_false, hn, hi, rf_isOfX, c, bI_0, nI_add, pk_mul, nI_ltI, nI_leI, nI_eq, reduceCtorEq, m1_ne, and_true, true_and, and_false, false_and, not_true_eq_false, not_false_eq_true, ne_eq, decide_true, decide_false, Bool.false_eq_true, ite_true, ite_false, if_true, if_false, Nat.add_zero, Bool.and_true, Bool.true_and, Bool.and_false, Bool.false_and, Bool.or_true, Bool.true_or, Bool.or_false, Bool.false_or, decide_not, Bool.not_true, Bool.not_false, or_true, true_or, or_false, false_or, or_self, and_self, decide_eq_true_eq]
    · rcases hI with ⟨e, h⟩ | ⟨o, ho, e, h3, h4⟩
      · refine ⟨nI i, Or.inr ⟨i, by omega, rfl, c, fun q hq hb => ?_⟩, ?_⟩
        · by_cases cq : q = i
          · rw [cq]; exact Nat.le_refl _
          · rw [h q (by omega)] at hb; cases hb
        · simp (disch := omega) only [fX12_pointsTo_5, io_206, fr_206_1, ia_207, bdS, ck_t, ck_T, cb_0, cb_1, ab_jn, if_true, if_false, hn, hi, rf_isOfX, c, bI_0, e, nI_add, pk_mul, nI_ltI, nI_leI, nI_eq, reduceCtorEq, m1_ne, and_true, true_and, and_false, false_and, not_true_eq_false, not_false_eq_true, ne_eq, decide_true, decide_false, Bool.false_eq_true, ite_true, ite_false, if_true, if_false, Nat.add_zero, Bool.and_true, Bool.true_and, Bool.and_false, Bool.false_and, Bool.or_true, Bool.true_or, Bool.or_false, Bool.false_or, decide_not, Bool.not_true, Bool.not_false, or_true, true_or, or_false, false_or, or_self, and_self, decide_eq_true_eq]
      · obtain ⟨u, hu, eu⟩ := W.w hi c
        obtain ⟨v, hv, ev⟩ := W.w (show o < n by omega) h3
        have du := rf_dear g W.2.1 h10 hp hu hF
        have dv := rf_dear g W.2.1 h10 hp hv hF
        have pu := (pos_spec W.2.1 h10 hp hu).1
        have pv := (pos_spec W.2.1 h10 hp hv).1
        have hm1 : ¬ nI o = (-1 : Int32) := nI_m1 (by omega)
        by_cases cl : pos (gA g 207) p (nI u) < pos (gA g 207) p (nI v)
        · refine ⟨nI i, Or.inr ⟨i, by omega, rfl, c, fun q hq hb => ?_⟩, ?_⟩
          · by_cases cq : q = i
            · rw [cq]; exact Nat.le_refl _
            · have := h4 q (by omega) hb
              rw [ev] at this
              rw [eu]; omega
          · simp (disch := omega) only [fX12_pointsTo_5, io_206, fr_206_1, ia_207, bdS, ck_t, ck_T, cb_0, cb_1, ab_jn, if_true, if_false, hn, hi, rf_isOfX, rf_of, c, bI_0, e, hm1, eu, ev, du, dv, cl, nI_add, pk_mul, nI_ltI, nI_leI, nI_eq, reduceCtorEq, m1_ne, and_true, true_and, and_false, false_and, not_true_eq_false, not_false_eq_true, ne_eq, decide_true, decide_false, Bool.false_eq_true, ite_true, ite_false, if_true, if_false, Nat.add_zero, Bool.and_true, Bool.true_and, Bool.and_false, Bool.false_and, Bool.or_true, Bool.true_or, Bool.or_false, Bool.false_or, decide_not, Bool.not_true, Bool.not_false, or_true, true_or, or_false, false_or, or_self, and_self, decide_eq_true_eq]
        · refine ⟨nI o, Or.inr ⟨o, by omega, rfl, h3, fun q hq hb => ?_⟩, ?_⟩
          · by_cases cq : q = i
            · rw [cq, eu, ev]; omega
            · exact h4 q (by omega) hb
          · simp (disch := omega) only [fX12_pointsTo_5, io_206, fr_206_1, ia_207, bdS, ck_t, ck_T, cb_0, cb_1, ab_jn, if_true, if_false, hn, hi, rf_isOfX, rf_of, c, bI_0, e, hm1, eu, ev, du, dv, cl, nI_add, pk_mul, nI_ltI, nI_leI, nI_eq, reduceCtorEq, m1_ne, and_true, true_and, and_false, false_and, not_true_eq_false, not_false_eq_true, ne_eq, decide_true, decide_false, Bool.false_eq_true, ite_true, ite_false, if_true, if_false, Nat.add_zero, Bool.and_true, Bool.true_and, Bool.and_false, Bool.false_and, Bool.or_true, Bool.true_or, Bool.or_false, Bool.false_or, decide_not, Bool.not_true, Bool.not_false, or_true, true_or, or_false, false_or, or_self, and_self, decide_eq_true_eq]
  · intro F' a hI
    simp (disch := omega) only [fX12_pointsTo_5, io_206, fr_206_1, ia_207, bdS, ck_t, ck_T, cb_0, cb_1, ab_jn, if_true, if_false, hn, Nat.lt_irrefl, nI_add, pk_mul, nI_ltI, nI_leI, nI_eq, reduceCtorEq, m1_ne, and_true, true_and, and_false, false_and, not_true_eq_false, not_false_eq_true, ne_eq, decide_true, decide_false, Bool.false_eq_true, ite_true, ite_false, if_true, if_false, Nat.add_zero, Bool.and_true, Bool.true_and, Bool.and_false, Bool.false_and, Bool.or_true, Bool.true_or, Bool.or_false, Bool.false_or, decide_not, Bool.not_true, Bool.not_false, or_true, true_or, or_false, false_or, or_self, and_self, decide_eq_true_eq]
theorem rf_pt (g : gG) {n : Nat} (hn : gA g 207 3 = nI n) (h10 : n ≤ 10) {F : Nat} (hF : 11000 < F) (x : Int32) (W : Ws (gA g 207) n (bt x)) {p : Nat} (hp : p < n) (he : ∃ o, o < n ∧ bt x o = true) : fX12_pointsTo F 206 (nI p) x (gH g) = some (nI (ptN (gA g 207) n (bt x) p)) ∧ Am (gA g 207) n (bt x) p (ptN (gA g 207) n (bt x) p) := by
  obtain ⟨o, h1, h2⟩ := rf_pointsTo g hn h10 hF x W hp he
  rw [ptN_of W hp h2]
  exact ⟨h1, h2⟩
theorem cl_bringer {g : gG} {x : Nat} {m : Nat → Int32} {n k : Nat} (V : Sv g x m n k) {F : Nat} (hF : 11000 < F) (y : Int32) (W : Ws m n (bt y)) {p : Nat} (hp : p < n) (he : ∃ o, o < n ∧ bt y o = true) : fX5_bringerOfDearest F x (nI p) y (gH g) = some (nI (ptN m n (bt y) p)) ∧ Am m n (bt y) p (ptN m n (bt y) p) := by
  have W := V
  obtain ⟨hx, hn, h10, hk, h12, e3, e4, e5, e6, e7, e8, e11, e9, e10⟩ := W
  obtain ⟨o0, ho0, hb0⟩ := he
  have hx1 : ∃ k, k < n ∧ ∃ o, o < n ∧ m (12 + 6 * o + 2) = m (72 + 10 * p + k) ∧ bt y o = true := by
    obtain ⟨j, hj, ej⟩ := W.w ho0 hb0
    obtain ⟨p1, p2, _⟩ := pos_spec W.2.1 h10 hp hj
    exact ⟨_, p1, o0, ho0, ej.trans p2.symm, hb0⟩
  have hw : ∀ f : Int32, fX8_wearerOf F x f (gH g) = some (wrr (fun q => m (12 + 6 * q + 2)) n f) := fun f => cl_wearerOf V hF f
  have wk : ∀ k, k < n → ∃ j, j < n ∧ m (72 + 10 * p + k) = nI j ∧ ((wrr (fun q => m (12 + 6 * q + 2)) n (nI j) = -1 ∧ ∀ o, o < n → ¬ m (12 + 6 * o + 2) = nI j) ∨ ∃ o, o < n ∧ m (12 + 6 * o + 2) = nI j ∧ wrr (fun q => m (12 + 6 * q + 2)) n (nI j) = nI o) := by
    intro k hk
    obtain ⟨j, hj, e⟩ := W.2.1.2.2.2.1 p k hp hk
    refine ⟨j, hj, e, ?_⟩
    rcases fnd_cases (fun q => decide (m (12 + 6 * q + 2) = nI j)) n with ⟨e1, h1⟩ | ⟨o, ho, h1, _, e1⟩
    · exact Or.inl ⟨e1, fun o ho => of_decide_eq_false (h1 o ho)⟩
    · exact Or.inr ⟨o, ho, of_decide_eq_true h1, e1⟩
  have amk : ∀ k, k < n → (∀ k', k' < k → ¬ ∃ o, o < n ∧ m (12 + 6 * o + 2) = m (72 + 10 * p + k') ∧ bt y o = true) → ∀ o, o < n → m (12 + 6 * o + 2) = m (72 + 10 * p + k) → bt y o = true → Am m n (bt y) p o := by
    intro k hk hno o ho e hb
    refine ⟨ho, hb, fun q hq hbq => ?_⟩
    obtain ⟨j, hj, ej⟩ := W.w ho hb
    obtain ⟨u, hu, eu⟩ := W.w hq hbq
    have h1 := (pos_spec W.2.1 h10 hp hj).2.2 k hk (e.symm.trans ej)
    obtain ⟨u1, u2, _⟩ := pos_spec W.2.1 h10 hp hu
    rw [ej, eu, ← h1]
    apply Decidable.byContradiction
    intro hl
    exact hno (pos m p (nI u)) (by omega) ⟨q, hq, eu.trans u2.symm, hbq⟩
  have hfirst : ∃ k, k < n ∧ (∃ o, o < n ∧ m (12 + 6 * o + 2) = m (72 + 10 * p + k) ∧ bt y o = true) ∧ ∀ k', k' < k → ¬ ∃ o, o < n ∧ m (12 + 6 * o + 2) = m (72 + 10 * p + k') ∧ bt y o = true := by
    have : ∀ N, (∃ k, k < N ∧ ∃ o, o < n ∧ m (12 + 6 * o + 2) = m (72 + 10 * p + k) ∧ bt y o = true) → ∃ k, k < N ∧ (∃ o, o < n ∧ m (12 + 6 * o + 2) = m (72 + 10 * p + k) ∧ bt y o = true) ∧ ∀ k', k' < k → ¬ ∃ o, o < n ∧ m (12 + 6 * o + 2) = m (72 + 10 * p + k') ∧ bt y o = true := by
      intro N
      induction N with
      | zero => intro ⟨k, hk, _⟩; omega
      | succ N ih =>
        intro ⟨k, hk, h⟩
        by_cases c : ∃ k, k < N ∧ ∃ o, o < n ∧ m (12 + 6 * o + 2) = m (72 + 10 * p + k) ∧ bt y o = true
        · obtain ⟨k1, a, b⟩ := ih c
          exact ⟨k1, by omega, b⟩
        · have : k = N := by
            apply Decidable.byContradiction
            intro hne
            exact c ⟨k, by omega, h⟩
          subst this
          exact ⟨k, hk, h, fun k' hk' h' => c ⟨k', hk', h'⟩⟩
    exact this n hx1
  obtain ⟨k0, hk0, ⟨o, ho, e, hb⟩, hno⟩ := hfirst
  have A := amk k0 hk0 hno o ho e hb
  rw [ptN_of W hp A]
  refine ⟨?_, A⟩
  unfold fX5_bringerOfDearest
  refine lpx (L := fun F' i (_ : Unit) => fX5_bringerOfDearest_2 F x (nI p) y (gH g) F' i) (n := n) (fun _ => ()) (fun k => ∃ o, o < n ∧ m (12 + 6 * o + 2) = m (72 + 10 * p + k) ∧ bt y o = true) _ ?_ ?_ ?_ F (by omega)
  · intro F' i hi _ hE
    have q10 := e10 p i hp hi
    obtain ⟨j, hj, ej, h⟩ := wk i hi
    rcases h with ⟨w1, _⟩ | ⟨q, hq, w1, w2⟩
    · simp (disch := first | omega | assumption | exact isSt6 | exact isSt18 | exact isSt30) only [fX5_bringerOfDearest_2, io_s, fi_s0, fr_s16, ia_s10, bdS, ck_t, ck_T, cb_0, cb_1, ab_jn, if_true, if_false, hn, hi, q10, ej, hw, w1, nI_add, pk_mul, nI_ltI, if_true, if_false]
    · have hbq : bt y q = false := by
        cases h : bt y q
        · rfl
        · exact absurd ⟨q, hq, w1.trans ej.symm, h⟩ hE
      have hm1 : ¬ nI q = (-1 : Int32) := nI_m1 (by omega)
      simp (disch := first | omega | assumption | exact isSt6 | exact isSt18 | exact isSt30) only [fX5_bringerOfDearest_2, io_s, fi_s0, fr_s16, ia_s10, bdS, ck_t, ck_T, cb_0, cb_1, ab_jn, if_true, if_false, hn, hi, q10, ej, hw, w2, hm1, cl_hasX, hbq, bI_0, nI_add, pk_mul, nI_ltI, if_true, if_false]
  · intro F' i hi hj hE
    have q10 := e10 p i hp hi
    obtain ⟨j, hj', ej, _⟩ := wk i hi
    obtain ⟨q, hq, w1, hbq⟩ := hE
    have hqo : q = o := Am_one W hp (amk i hi hj q hq w1 hbq) A
    subst hqo
    rw [ej] at w1
    have w2 : wrr (fun q => m (12 + 6 * q + 2)) n (nI j) = nI q := (wrr_iff (w := fun q => m (12 + 6 * q + 2)) h10 hq hj' W.2.2.2.1).mpr w1
    have hm1 : ¬ nI q = (-1 : Int32) := nI_m1 (by omega)
    simp (disch := first | omega | assumption | exact isSt6 | exact isSt18 | exact isSt30) only [fX5_bringerOfDearest_2, io_s, fi_s0, fr_s16, ia_s10, bdS, ck_t, ck_T, cb_0, cb_1, ab_jn, if_true, if_false, hn, hi, q10, ej, hw, w2, hm1, cl_hasX, hbq, bI_0, nI_add, pk_mul, nI_ltI, if_true, if_false, reduceCtorEq]
  · intro F' hj
    exact absurd ⟨o, ho, e, hb⟩ (hj k0 hk0)
