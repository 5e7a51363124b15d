variable {Nq : Nat}
/-! ===== row and talk: runs of taken HOOKS ===== -/
/-- how many taken ones stand from h on, below k -/
def rl (P : Nat → Bool) (k : Nat) : Nat → Nat
  | h => fa_first (fun i => !(decide (h + i < k) && P (h + i))) (k - h)
theorem rl_le (P : Nat → Bool) (k h : Nat) : rl P k h ≤ k - h := fa_first_le _ _
theorem rl_in {P : Nat → Bool} {k h i : Nat} (hi : i < rl P k h) : h + i < k ∧ P (h + i) = true := by
  have := fa_first_no (fun i => !(decide (h + i < k) && P (h + i))) (k - h) i hi
  simpa using this
theorem rl_out {P : Nat → Bool} {k h : Nat} : ¬ (h + rl P k h < k ∧ P (h + rl P k h) = true) := by
  intro ⟨h1, h2⟩
  have hl : rl P k h < k - h := by omega
  have := fa_first_yes (fun i => !(decide (h + i < k) && P (h + i))) (k - h) hl
  have e : fa_first (fun i => !(decide (h + i < k) && P (h + i))) (k - h) = rl P k h := rfl
  rw [e] at this
  simp [h1, h2] at this
theorem rf_rowFrom (g : gG) {k : Nat} (hk : gA g 207 4 = nI k) (h12 : k ≤ 12) {F : Nat} (hF : 11000 < F) {h : Nat} (hh : h ≤ k) : fX12_rowFrom F 206 (nI h) (gH g) = some (nI (rl (fun i => !decide (gA g 207 (272 + i) = -1)) k h)) := by
  unfold fX12_rowFrom
  have hlen := rl_le (fun i => !decide (gA g 207 (272 + i) = -1)) k h
  refine lp0 (L := fun F' i (_ : Unit) => fX12_rowFrom_2 206 (nI h) (gH g) F' i) (n := rl (fun i => !decide (gA g 207 (272 + i) = -1)) k h) (fun _ => ()) _ ?_ ?_ F (by omega)
  · intro F i hi
    obtain ⟨a1, a2⟩ := rl_in hi
    have a3 : ¬ gA g 207 (272 + (h + i)) = -1 := by simpa using a2
    rw [show 272 + (h + i) = 272 + h + i by omega] at a3
    simp (disch := omega) only [fX12_rowFrom_2, fr_206_1, ia_207, ab_bd_some, ck_t, ck_T, cb_0, cb_1, ab_jn, if_true, if_false, hk, a1, a3, nI_add, pk_mul, nI_ltI, nI_leI, nI_eq]
  · intro F
    by_cases c : h + rl (fun i => !decide (gA g 207 (272 + i) = -1)) k h < k
    · have a2 : gA g 207 (272 + (h + rl (fun i => !decide (gA g 207 (272 + i) = -1)) k h)) = -1 := by
        apply Decidable.byContradiction
        intro hne
        exact rl_out ⟨c, by simpa using hne⟩
      rw [show 272 + (h + rl (fun i => !decide (gA g 207 (272 + i) = -1)) k h) = 272 + h + rl (fun i => !decide (gA g 207 (272 + i) = -1)) k h by omega] at a2
      simp (disch := omega) only [fX12_rowFrom_2, fr_206_1, ia_207, ab_bd_some, ck_t, ck_T, cb_0, cb_1, ab_jn, if_true, if_false, hk, c, a2, nI_add, pk_mul, nI_ltI, nI_leI, nI_eq]
    · simp (disch := omega) only [fX12_rowFrom_2, fr_206_1, ia_207, ab_bd_some, ck_t, ck_T, cb_0, cb_1, ab_jn, if_true, if_false, hk, c, nI_add, pk_mul, nI_ltI, nI_leI, nI_eq]
/-- the reference's row: the first of the longest runs -/
def rwR (P : Nat → Bool) (k : Nat) : Nat → Int32 × Nat := it (fun h a => if rl P k h ≤ a.2 then a else (nI h, rl P k h)) (-1, 0)
theorem rwR_le (P : Nat → Bool) (k : Nat) : ∀ h, (rwR P k h).2 ≤ k
  | 0 => Nat.zero_le _
  | h + 1 => by
    have e : rwR P k (h + 1) = if rl P k h ≤ (rwR P k h).2 then rwR P k h else (nI h, rl P k h) := rfl
    have := rl_le P k h
    rw [e]
    split
    · exact rwR_le P k h
    · show rl P k h ≤ k; omega
theorem rl_row (g : gG) {k : Nat} (hk : gA g 207 4 = nI k) (h12 : k ≤ 12) {F : Nat} (hF : 11000 < F) (z : Int32) (K : Int32 → Int32 → Option (Int32 × ab_H)) : fX12_row_12 F 206 z (gH g) K F (-1) (nI 0) (nI 0) = K (rwR (fun i => !decide (gA g 207 (272 + i) = -1)) k k).1 (nI (rwR (fun i => !decide (gA g 207 (272 + i) = -1)) k k).2) := by
  refine lp0 (L := fun F' i (a : Int32 × Nat) => fX12_row_12 F 206 z (gH g) K F' a.1 (nI a.2) i) (n := k) (fun i => rwR (fun i => !decide (gA g 207 (272 + i) = -1)) k i) _ ?_ ?_ F (by omega)
  · intro F' i hi
    have e : rwR (fun i => !decide (gA g 207 (272 + i) = -1)) k (i + 1) = if rl (fun i => !decide (gA g 207 (272 + i) = -1)) k i ≤ (rwR (fun i => !decide (gA g 207 (272 + i) = -1)) k i).2 then rwR (fun i => !decide (gA g 207 (272 + i) = -1)) k i else (nI i, rl (fun i => !decide (gA g 207 (272 + i) = -1)) k i) := rfl
    have b1 := rl_le (fun i => !decide (gA g 207 (272 + i) = -1)) k i
    have b2 := rwR_le (fun i => !decide (gA g 207 (272 + i) = -1)) k i
    have rf := rf_rowFrom g hk h12 hF (show i ≤ k by omega)
    rw [e]
    by_cases c : rl (fun i => !decide (gA g 207 (272 + i) = -1)) k i ≤ (rwR (fun i => !decide (gA g 207 (272 + i) = -1)) k i).2 <;>
    simp (disch := omega) only [fX12_row_12, io_206, fr_206_1, ia_207, ab_bd_some, ck_t, ck_T, cb_0, cb_1, ab_jn, if_true, if_false, hk, hi, rf, c, nI_add, pk_mul, nI_ltI, nI_leI, nI_eq]
  · intro F'
    simp (disch := omega) only [fX12_row_12, io_206, fr_206_1, ia_207, ab_bd_some, ck_t, ck_T, cb_0, cb_1, ab_jn, if_true, if_false, hk, Nat.lt_irrefl, nI_add, pk_mul, nI_ltI, nI_leI, nI_eq]
/-- the class's row: by where a run ends -/
def rwC (P : Nat → Bool) : Nat → Int32 × Nat × Nat := it (fun h a => let l := if P h = true then a.2.2 + 1 else 0; if l ≤ a.2.1 then (a.1, a.2.1, l) else (nI (h + 1 - l), l, l)) (-1, 0, 0)
theorem rwC_S (P : Nat → Bool) (h : Nat) : rwC P (h + 1) = if (if P h = true then (rwC P h).2.2 + 1 else 0) ≤ (rwC P h).2.1 then ((rwC P h).1, (rwC P h).2.1, if P h = true then (rwC P h).2.2 + 1 else 0) else (nI (h + 1 - (if P h = true then (rwC P h).2.2 + 1 else 0)), if P h = true then (rwC P h).2.2 + 1 else 0, if P h = true then (rwC P h).2.2 + 1 else 0) := rfl
theorem rwC_le (P : Nat → Bool) : ∀ h, (rwC P h).2.1 ≤ h ∧ (rwC P h).2.2 ≤ h
  | 0 => ⟨Nat.le_refl 0, Nat.le_refl 0⟩
  | h + 1 => by
    obtain ⟨a, b⟩ := rwC_le P h
    rw [rwC_S]
    by_cases c : P h = true
    · simp only [c, if_true]
      split
      · exact ⟨by show _ ≤ _; simp only; omega, by show _ ≤ _; simp only; omega⟩
      · exact ⟨by show _ ≤ _; simp only; omega, by show _ ≤ _; simp only; omega⟩
    · rw [if_neg c, if_pos (Nat.zero_le _)]
      exact ⟨Nat.le_succ_of_le a, Nat.zero_le _⟩
/-- a run of l taken ones from h on, below k -/
def run (P : Nat → Bool) (k h l : Nat) : Prop := h + l ≤ k ∧ ∀ i, i < l → P (h + i) = true
/-- the first of the longest runs below k -/
def Lr (P : Nat → Bool) (k : Nat) (a : Int32) (m : Nat) : Prop := (∀ h l, run P k h l → l ≤ m) ∧ ((m = 0 ∧ a = -1) ∨ (0 < m ∧ ∃ h, run P k h m ∧ a = nI h ∧ ∀ i, i < h → ¬ run P k i m))
theorem Lr_one {P : Nat → Bool} {k m m' : Nat} {a a' : Int32} (h : Lr P k a m) (h' : Lr P k a' m') : a = a' ∧ m = m' := by
  obtain ⟨x1, x2⟩ := h
  obtain ⟨y1, y2⟩ := h'
  have e : m = m' := by
    rcases x2 with ⟨x2, _⟩ | ⟨x2, u, x3, _, _⟩
    · rcases y2 with ⟨y2, _⟩ | ⟨y2, v, y3, _, _⟩
      · omega
      · have := x1 _ _ y3; omega
    · have h1 := y1 _ _ x3
      rcases y2 with ⟨y2, _⟩ | ⟨y2, v, y3, _, _⟩
      · omega
      · have := x1 _ _ y3; omega
  subst e
  refine ⟨?_, rfl⟩
  rcases x2 with ⟨x2, e1⟩ | ⟨x2, u, x3, e1, x4⟩
  · rcases y2 with ⟨y2, e2⟩ | ⟨y2, _⟩
    · rw [e1, e2]
    · omega
  · rcases y2 with ⟨y2, _⟩ | ⟨y2, v, y3, e2, y4⟩
    · omega
    · have : u = v := by
        rcases Nat.lt_trichotomy u v with h | h | h
        · exact absurd x3 (y4 u h)
        · exact h
        · exact absurd y3 (x4 v h)
      rw [e1, e2, this]
theorem rl_run (P : Nat → Bool) {k h : Nat} (hh : h ≤ k) : run P k h (rl P k h) := by
  have := rl_le P k h
  exact ⟨by omega, fun i hi => (rl_in hi).2⟩
theorem run_rl {P : Nat → Bool} {k h l : Nat} (r : run P k h l) : l ≤ rl P k h := by
  apply Decidable.byContradiction
  intro hl
  have hl : rl P k h < l := by omega
  exact rl_out ⟨by have := r.1; omega, r.2 _ hl⟩
theorem rwR_Lr (P : Nat → Bool) (k : Nat) : Lr P k (rwR P k k).1 (rwR P k k).2 := by
  have key : ∀ j, j ≤ k → (∀ h, h < j → rl P k h ≤ (rwR P k j).2) ∧ (((rwR P k j).2 = 0 ∧ (rwR P k j).1 = -1) ∨ (0 < (rwR P k j).2 ∧ ∃ h, h < j ∧ rl P k h = (rwR P k j).2 ∧ (rwR P k j).1 = nI h ∧ ∀ i, i < h → rl P k i < (rwR P k j).2)) := by
    intro j
    induction j with
    | zero => intro _; exact ⟨fun h hh => absurd hh (Nat.not_lt_zero h), Or.inl ⟨rfl, rfl⟩⟩
    | succ j ih =>
      intro hj
      obtain ⟨a1, a2⟩ := ih (by omega)
      have e : rwR P k (j + 1) = if rl P k j ≤ (rwR P k j).2 then rwR P k j else (nI j, rl P k j) := rfl
      by_cases c : rl P k j ≤ (rwR P k j).2
      · rw [e, if_pos c]
        refine ⟨fun h hh => ?_, ?_⟩
        · by_cases ch : h = j
          · rw [ch]; exact c
          · exact a1 h (by omega)
        · exact a2.imp id (fun ⟨x, h, y⟩ => ⟨x, h, by omega, y.2⟩)
      · rw [e, if_neg c]
        refine ⟨fun h hh => ?_, Or.inr ⟨by show 0 < rl P k j; omega, j, by omega, rfl, rfl, fun i hi => ?_⟩⟩
        · by_cases ch : h = j
          · rw [ch]; exact Nat.le_refl _
          · have := a1 h (by omega); show rl P k h ≤ rl P k j; omega
        · have := a1 i hi; show rl P k i < rl P k j; omega
  obtain ⟨a1, a2⟩ := key k (Nat.le_refl k)
  refine ⟨fun h l r => ?_, ?_⟩
  · have h1 := run_rl r
    by_cases c : h < k
    · have := a1 h c; omega
    · have := r.1; omega
  · rcases a2 with h | ⟨x, h, hh, e1, e2, e3⟩
    · exact Or.inl h
    · exact Or.inr ⟨x, h, e1 ▸ rl_run P (by omega), e2, fun i hi r => by have h1 := run_rl r; have := e3 i hi; omega⟩
theorem rwC_Lr (P : Nat → Bool) : ∀ j, Lr P j (rwC P j).1 (rwC P j).2.1 ∧ run P j (j - (rwC P j).2.2) (rwC P j).2.2 ∧ ((rwC P j).2.2 < j → P (j - 1 - (rwC P j).2.2) = false) := by
  intro j
  induction j with
  | zero =>
    refine ⟨⟨fun h l r => ?_, Or.inl ⟨rfl, rfl⟩⟩, ⟨Nat.le_refl 0, fun i hi => absurd hi (Nat.not_lt_zero i)⟩, fun h => absurd h (Nat.not_lt_zero _)⟩
    have := r.1
    show l ≤ 0; omega
  | succ j ih =>
    obtain ⟨⟨a1, a2⟩, a3, a4⟩ := ih
    obtain ⟨b1, b2⟩ := rwC_le P j
    generalize hl : (if P j = true then (rwC P j).2.2 + 1 else 0) = l'
    have hS := rwC_S P j
    rw [hl] at hS
    have L1 : run P (j + 1) (j + 1 - l') l' := by
      by_cases c : P j = true
      · rw [if_pos c] at hl
        subst hl
        refine ⟨by omega, fun i hi => ?_⟩
        by_cases ci : i = (rwC P j).2.2
        · rw [ci, show j + 1 - ((rwC P j).2.2 + 1) + (rwC P j).2.2 = j by omega]; exact c
        · have := a3.2 i (by omega)
          rwa [show j + 1 - ((rwC P j).2.2 + 1) + i = j - (rwC P j).2.2 + i by omega]
      · rw [if_neg c] at hl
        subst hl
        exact ⟨by omega, fun i hi => absurd hi (Nat.not_lt_zero i)⟩
    have L2 : l' < j + 1 → P (j + 1 - 1 - l') = false := by
      intro h
      by_cases c : P j = true
      · rw [if_pos c] at hl
        subst hl
        have := a4 (by omega)
        rwa [show j + 1 - 1 - ((rwC P j).2.2 + 1) = j - 1 - (rwC P j).2.2 by omega]
      · rw [if_neg c] at hl
        subst hl
        simpa using c
    have L3 : ∀ h l, run P (j + 1) h l → l ≤ (rwC P j).2.1 ∨ l ≤ l' := by
      intro h l r
      by_cases c : h + l ≤ j
      · exact Or.inl (a1 h l ⟨c, r.2⟩)
      · right
        have h1 := r.1
        apply Decidable.byContradiction
        intro hl'
        have h2 := L2 (by omega)
        have h3 := r.2 (j - l' - h) (by omega)
        rw [show h + (j - l' - h) = j + 1 - 1 - l' by omega, h2] at h3
        cases h3
    have hl1 : l' ≤ j + 1 := by have := L1.1; omega
    by_cases c : l' ≤ (rwC P j).2.1
    · rw [hS, if_pos c]
      refine ⟨⟨fun h l r => ?_, ?_⟩, L1, L2⟩
      · rcases L3 h l r with x | x
        · exact x
        · show l ≤ (rwC P j).2.1; omega
      · rcases a2 with x | ⟨x, h, y1, y2, y3⟩
        · exact Or.inl x
        · refine Or.inr ⟨x, h, ⟨by have := y1.1; show h + (rwC P j).2.1 ≤ j + 1; omega, y1.2⟩, y2, fun i hi r => y3 i hi ⟨?_, r.2⟩⟩
          have := y1.1
          show i + (rwC P j).2.1 ≤ j; omega
    · rw [hS, if_neg c]
      refine ⟨⟨fun h l r => ?_, Or.inr ⟨by show 0 < l'; omega, j + 1 - l', L1, rfl, fun i hi r => ?_⟩⟩, L1, L2⟩
      · rcases L3 h l r with x | x
        · show l ≤ l'; omega
        · exact x
      · have h1 : i + l' ≤ j := by omega
        have := a1 i l' ⟨h1, r.2⟩
        omega
theorem row_eq (P : Nat → Bool) (k : Nat) : (rwR P k k).1 = (rwC P k).1 ∧ (rwR P k k).2 = (rwC P k).2.1 := Lr_one (rwR_Lr P k) (rwC_Lr P k).1
theorem cl_row10 {g : gG} {m : Nat → Int32} {n k : Nat} (V : Sv g 6 m n k) {F : Nat} (hF : 11000 < F) (z : Int32) (K : Int32 → Int32 → Option Int32) : fX11_row_10 0 z (gH g) K F (-1) (nI 0) (nI 0) (nI 0) = K (rwC (fun i => !decide (m (272 + i) = -1)) k).1 (nI (rwC (fun i => !decide (m (272 + i) = -1)) k).2.1) := by
  have W := V
  obtain ⟨hx, hn, h10, hk, h12, e3, e4, e5, e6, e7, e8, e11, e9, e10⟩ := W
  refine lp0 (L := fun F' i (a : Int32 × Nat × Nat) => fX11_row_10 0 z (gH g) K F' a.1 (nI a.2.1) (nI a.2.2) i) (n := k) (fun i => rwC (fun i => !decide (m (272 + i) = -1)) i) _ ?_ ?_ F (by omega)
  · intro F' i hi
    obtain ⟨b1, b2⟩ := rwC_le (fun i => !decide (m (272 + i) = -1)) i
    have q := e11 i (by omega)
    rw [rwC_S]
    by_cases c : m (272 + i) = -1
    · have e0 : (!decide (m (272 + i) = -1)) = false := by simp [c]
      simp (disch := first | omega | assumption | exact isSt6 | exact isSt18 | exact isSt30) only [fX11_row_10, fr_0_1, fi_s1, fr_s17, ia_s11, bdS, ck_t, ck_T, cb_0, cb_1, ab_jn, if_true, if_false, fr_s17, ia_s11, fi_s1, hk, hi, q, c, e0, Nat.zero_le, nI_add, pk_mul, nI_ltI, nI_leI, nI_eq, reduceCtorEq, m1_ne, and_true, true_and, and_false, false_and, not_true_eq_false, not_false_eq_true, ne_eq, decide_true, decide_false, Bool.false_eq_true, ite_true, ite_false, if_true, if_false, Nat.add_zero, Bool.and_true, Bool.true_and, Bool.and_false, Bool.false_and, Bool.or_true, Bool.true_or, Bool.or_false, Bool.false_or, decide_not, Bool.not_true, Bool.not_false, or_true, true_or, or_false, false_or, or_self, and_self, decide_eq_true_eq]
    · have e0 : (!decide (m (272 + i) = -1)) = true := by simp [c]
      by_cases c2 : (rwC (fun i => !decide (m (272 + i) = -1)) i).2.2 + 1 ≤ (rwC (fun i => !decide (m (272 + i) = -1)) i).2.1
      · simp (disch := first | omega | assumption | exact isSt6 | exact isSt18 | exact isSt30) only [fX11_row_10, fr_0_1, fi_s1, fr_s17, ia_s11, bdS, ck_t, ck_T, cb_0, cb_1, ab_jn, if_true, if_false, fr_s17, ia_s11, fi_s1, hk, hi, q, c, c2, e0, nI_add, pk_mul, nI_ltI, nI_leI, nI_eq, reduceCtorEq, m1_ne, and_true, true_and, and_false, false_and, not_true_eq_false, not_false_eq_true, ne_eq, decide_true, decide_false, Bool.false_eq_true, ite_true, ite_false, if_true, if_false, Nat.add_zero, Bool.and_true, Bool.true_and, Bool.and_false, Bool.false_and, Bool.or_true, Bool.true_or, Bool.or_false, Bool.false_or, decide_not, Bool.not_true, Bool.not_false, or_true, true_or, or_false, false_or, or_self, and_self, decide_eq_true_eq]
      · have e3 : nI i - nI ((rwC (fun i => !decide (m (272 + i) = -1)) i).2.2 + 1) + nI 1 = nI (i + 1 - ((rwC (fun i => !decide (m (272 + i) = -1)) i).2.2 + 1)) := by
          by_cases c3 : (rwC (fun i => !decide (m (272 + i) = -1)) i).2.2 + 1 ≤ i
          · rw [pk_sub c3, nI_add]; congr 1; omega
          · have : (rwC (fun i => !decide (m (272 + i) = -1)) i).2.2 = i := by omega
            rw [this, ← nI_add, Int32.sub_eq_add_neg, Int32.neg_add, Int32.sub_eq_add_neg, ← Int32.add_assoc, Int32.add_right_neg, Int32.zero_add, Nat.sub_self]; decide
        simp (disch := first | omega | assumption | exact isSt6 | exact isSt18 | exact isSt30) only [fX11_row_10, fr_0_1, fi_s1, fr_s17, ia_s11, bdS, ck_t, ck_T, cb_0, cb_1, ab_jn, if_true, if_false, fr_s17, ia_s11, fi_s1, hk, hi, q, c, c2, e0, e3, nI_add, pk_mul, nI_ltI, nI_leI, nI_eq, reduceCtorEq, m1_ne, and_true, true_and, and_false, false_and, not_true_eq_false, not_false_eq_true, ne_eq, decide_true, decide_false, Bool.false_eq_true, ite_true, ite_false, if_true, if_false, Nat.add_zero, Bool.and_true, Bool.true_and, Bool.and_false, Bool.false_and, Bool.or_true, Bool.true_or, Bool.or_false, Bool.false_or, decide_not, Bool.not_true, Bool.not_false, or_true, true_or, or_false, false_or, or_self, and_self, decide_eq_true_eq]
  · intro F'
    simp (disch := first | omega | assumption | exact isSt6 | exact isSt18 | exact isSt30) only [fX11_row_10, fr_0_1, fi_s1, fr_s17, ia_s11, bdS, ck_t, ck_T, cb_0, cb_1, ab_jn, if_true, if_false, fi_s1, hk, Nat.lt_irrefl, nI_add, pk_mul, nI_ltI, nI_leI, nI_eq, reduceCtorEq, m1_ne, and_true, true_and, and_false, false_and, not_true_eq_false, not_false_eq_true, ne_eq, decide_true, decide_false, Bool.false_eq_true, ite_true, ite_false, if_true, if_false, Nat.add_zero, Bool.and_true, Bool.true_and, Bool.and_false, Bool.false_and, Bool.or_true, Bool.true_or, Bool.or_false, Bool.false_or, decide_not, Bool.not_true, Bool.not_false, or_true, true_or, or_false, false_or, or_self, and_self, decide_eq_true_eq]
theorem cr_row {g : gG} (R : RE Nq g) (z : Int32) {F : Nat} (hF : 11000 < F) : Cr Nq g (fX11_row F 0 z (gH g)) (fun g => fX12_row F 206 z (gH g)) := by
  have R0 := R; obtain ⟨n, k, s, f, R⟩ := R
  have V := R.1.1
  obtain ⟨rn, h10, rk, h12⟩ := R.rv
  obtain ⟨q1, q2⟩ := row_eq (fun i => !decide (gA g 207 (272 + i) = -1)) k
  have rr : fX12_row_12 F 206 z (gH (sF g 206 0 (nI 0))) (fun (z8 : Int32) (z9 : Int32) => (if z = 0 then some (z9, gH (sF g 206 0 (nI 0))) else some (z8, gH (sF g 206 0 (nI 0))))) F (-1) (nI 0) (nI 0) = (if z = 0 then some (nI (rwR (fun i => !decide (gA g 207 (272 + i) = -1)) k k).2, gH (sF g 206 0 (nI 0))) else some ((rwR (fun i => !decide (gA g 207 (272 + i) = -1)) k k).1, gH (sF g 206 0 (nI 0)))) := rl_row (sF g 206 0 (nI 0)) (k := k) rk h12 hF z (fun (z8 : Int32) (z9 : Int32) => (if z = 0 then some (z9, gH (sF g 206 0 (nI 0))) else some (z8, gH (sF g 206 0 (nI 0)))))
  rw [q1, q2] at rr
  refine Cr_of R0 (v := if z = 0 then nI (rwC (fun i => !decide (gA g 207 (272 + i) = -1)) k).2.1 else (rwC (fun i => !decide (gA g 207 (272 + i) = -1)) k).1) (t := nI 0) ?_ ?_
  · unfold fX11_row
    rw [cl_row10 V hF]
    by_cases c0 : z = 0 <;> simp only [c0, if_true, if_false]
  · simp (disch := first | omega | assumption | exact isSt6 | exact isSt18 | exact isSt30) only [fX12_row, fw_206_0, bdS, ck_t, ck_T, cb_0, cb_1, ab_jn, if_true, if_false, rr]
    by_cases c0 : z = 0 <;> simp only [c0, if_true, if_false]
