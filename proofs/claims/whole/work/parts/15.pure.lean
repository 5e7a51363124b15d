/-! ===== loops that count up; sets, firsts, counts ===== -/
theorem lp {α ρ : Type} {L : Nat → Int32 → α → ρ} {n : Nat} (A : Nat → α) (E : Nat → Prop) (R : ρ)
  (hs : ∀ F i, i < n → (∀ j, j < i → ¬ E j) → ¬ E i → L (F + 1) (nI i) (A i) = L F (nI (i + 1)) (A (i + 1)))
  (hx : ∀ F i, i < n → (∀ j, j < i → ¬ E j) → E i → L (F + 1) (nI i) (A i) = R)
  (he : ∀ F, (∀ j, j < n → ¬ E j) → L (F + 1) (nI n) (A n) = R) :
  ∀ F i, i ≤ n → n < F + i → (∀ j, j < i → ¬ E j) → L F (nI i) (A i) = R := by
  intro F
  induction F with
  | zero => intro i h1 h2; omega
  | succ F ih =>
    intro i h1 h2 h3
    by_cases hi : i = n
    · subst hi; exact he F h3
    · by_cases hE : E i
      · exact hx F i (by omega) h3 hE
      · rw [hs F i (by omega) h3 hE]
        refine ih (i + 1) (by omega) (by omega) ?_
        intro j hj
        by_cases hj2 : j = i
        · subst hj2; exact hE
        · exact h3 j (by omega)
/-- from 0 on, with an early end -/
theorem lpx {α ρ : Type} {L : Nat → Int32 → α → ρ} {n : Nat} (A : Nat → α) (E : Nat → Prop) (R : ρ)
  (hs : ∀ F i, i < n → (∀ j, j < i → ¬ E j) → ¬ E i → L (F + 1) (nI i) (A i) = L F (nI (i + 1)) (A (i + 1)))
  (hx : ∀ F i, i < n → (∀ j, j < i → ¬ E j) → E i → L (F + 1) (nI i) (A i) = R)
  (he : ∀ F, (∀ j, j < n → ¬ E j) → L (F + 1) (nI n) (A n) = R) (F : Nat) (hF : n < F) : L F (nI 0) (A 0) = R :=
  lp A E R hs hx he F 0 (Nat.zero_le _) (by omega) (fun j hj => absurd hj (Nat.not_lt_zero j))
/-- from 0 on, to the end -/
theorem lp0 {α ρ : Type} {L : Nat → Int32 → α → ρ} {n : Nat} (A : Nat → α) (R : ρ)
  (hs : ∀ F i, i < n → L (F + 1) (nI i) (A i) = L F (nI (i + 1)) (A (i + 1)))
  (he : ∀ F, L (F + 1) (nI n) (A n) = R) (F : Nat) (hF : n < F) : L F (nI 0) (A 0) = R :=
  lpx A (fun _ => False) R (fun F i h _ _ => hs F i h) (fun _ _ _ _ h => h.elim) (fun F _ => he F) F hF
theorem ck_t {ρ : Type} {t : Option ρ} : ab_ck (true = true) t = t := rfl
theorem ck_T {ρ : Type} {t : Option ρ} {i : Decidable True} : @ab_ck ρ True i t = t := if_pos trivial
theorem cb_0 {ρ : Type} {t : Option ρ} : ab_cb (nI 0) t = t := rfl
theorem cb_1 {ρ : Type} {t : Option ρ} : ab_cb (nI 1) t = t := rfl
theorem m1_ne {k : Nat} (h : k < 2 ^ 31) : (nI k = (-1 : Int32)) ↔ False := by
  refine ⟨fun e => ?_, False.elim⟩
  have h1 := congrArg Int32.toInt e
  rw [nI_toInt h] at h1
  have h2 : (-1 : Int32).toInt = -1 := by decide
  omega
theorem m1_ne' {k : Nat} (h : k < 2 ^ 31) : ((-1 : Int32) = nI k) ↔ False := by rw [eq_comm, m1_ne h]
theorem m1_lt {k : Nat} (h : k < 2 ^ 31) : ((-1 : Int32) < nI k) ↔ True := by
  refine ⟨fun _ => trivial, fun _ => ?_⟩
  rw [fa_lt, nI_toInt h]
  have h2 : (-1 : Int32).toInt = -1 := by decide
  omega
theorem lt_m1 {k : Nat} (h : k < 2 ^ 31) : (nI k < (-1 : Int32)) ↔ False := by
  refine ⟨fun e => ?_, False.elim⟩
  rw [fa_lt, nI_toInt h] at e
  have h2 : (-1 : Int32).toInt = -1 := by decide
  omega
theorem ylt_0 {k : Nat} (h : k < 2 ^ 31) : (nI k < nI 0) ↔ False := ⟨fun e => nI_pos h (nI_0 ▸ e), False.elim⟩
theorem z_eq {k : Nat} (h : k < 2 ^ 31) : (nI k = 0) ↔ k = 0 := by rw [← nI_0, nI_eq h (by decide)]
/-- a set of the numbers below n -/
def st (P : Nat → Bool) : Nat → Nat
  | 0 => 0
  | n + 1 => st P n + (if P n then 2 ^ n else 0)
theorem st_lt (P : Nat → Bool) : ∀ n, st P n < 2 ^ n
  | 0 => by simp [st]
  | n + 1 => by
    have := st_lt P n
    unfold st
    split <;> omega
theorem st_le {P : Nat → Bool} {n k : Nat} (h : n ≤ k) : st P n < 2 ^ k := Nat.lt_of_lt_of_le (st_lt P n) (Nat.pow_le_pow_right (by decide) h)
theorem st_succ_yes {P : Nat → Bool} {n : Nat} (h : P n = true) : st P (n + 1) = st P n + 2 ^ n := by rw [st, if_pos h]
theorem st_succ_no {P : Nat → Bool} {n : Nat} (h : P n = false) : st P (n + 1) = st P n := by rw [st, if_neg (by rw [h]; decide)]; rfl
theorem st_bit (P : Nat → Bool) : ∀ n i, (st P n).testBit i = (decide (i < n) && P i)
  | 0, i => by simp [st]
  | n + 1, i => by
    have ih := st_bit P n i
    have hl := st_lt P n
    by_cases hP : P n = true
    · rw [st_succ_yes hP, Nat.add_comm]
      rcases Nat.lt_trichotomy i n with h | h | h
      · rw [Nat.testBit_two_pow_add_gt h, ih]
        simp [h, show i < n + 1 by omega]
      · subst h
        rw [Nat.testBit_two_pow_add_eq, Nat.testBit_lt_two_pow hl]
        simp [hP]
      · rw [Nat.testBit_lt_two_pow (Nat.lt_of_lt_of_le (show 2 ^ n + st P n < 2 ^ (n + 1) by omega) (Nat.pow_le_pow_right (by decide) h))]
        simp [show ¬ i < n + 1 by omega]
    · have hP : P n = false := by simpa using hP
      rw [st_succ_no hP, ih]
      by_cases h : i = n
      · subst h; simp [hP]
      · simp [show (i < n + 1) = (i < n) by simp; omega]
theorem st_cong {P Q : Nat → Bool} : ∀ {n : Nat}, (∀ k, k < n → P k = Q k) → st P n = st Q n
  | 0, _ => rfl
  | n + 1, h => by rw [st, st, st_cong (fun k hk => h k (by omega)), h n (by omega)]
/-- 1 shifted, oring it into a set -/
theorem sh1 {k : Nat} (h : k < 31) : nI 1 <<< (nI k &&& 31) = nI (2 ^ k) := by
  rw [pk_shlN (n := 1) _ k (s_l k (by omega)) (by have := Nat.pow_lt_pow_right (a := 2) (by decide) h; omega), Nat.one_mul]
theorem or_st {P : Nat → Bool} {n : Nat} : nI (st P n) ||| nI (2 ^ n) = nI (st P n + 2 ^ n) := by
  rw [fa_or, Nat.add_comm, show 2 ^ n = 2 ^ n * 1 by omega, Nat.two_pow_add_eq_or_of_lt (st_lt P n), Nat.or_comm]
/-- the first of the numbers below n, as an int -/
def fnd (P : Nat → Bool) (n : Nat) : Int32 := if fa_first P n < n then nI (fa_first P n) else -1
theorem fnd_at {P : Nat → Bool} {n i : Nat} (hi : i < n) (hP : P i = true) (h : ∀ j, j < i → ¬ P j = true) : fnd P n = nI i := by
  have h1 := fa_first_le P n
  have h2 := fa_first_no P n
  have h3 : fa_first P n = i := by
    rcases Nat.lt_trichotomy (fa_first P n) i with hl | hl | hl
    · exact absurd (fa_first_yes P n (by omega)) (h _ hl)
    · exact hl
    · exact absurd hP (by rw [h2 i hl]; decide)
  unfold fnd
  rw [h3, if_pos hi]
theorem fnd_no {P : Nat → Bool} {n : Nat} (h : ∀ j, j < n → ¬ P j = true) : fnd P n = -1 := by
  unfold fnd
  rw [if_neg]
  intro hl
  exact h _ hl (fa_first_yes P n hl)
theorem fnd_cases (P : Nat → Bool) (n : Nat) : (fnd P n = -1 ∧ ∀ j, j < n → P j = false) ∨ ∃ i, i < n ∧ P i = true ∧ (∀ j, j < i → P j = false) ∧ fnd P n = nI i := by
  unfold fnd
  by_cases h : fa_first P n < n
  · right
    exact ⟨_, h, fa_first_yes P n h, fa_first_no P n, by rw [if_pos h]⟩
  · left
    have h1 := fa_first_le P n
    exact ⟨by rw [if_neg h], fun j hj => fa_first_no P n j (by omega)⟩
theorem fnd_cong {P Q : Nat → Bool} {n : Nat} (h : ∀ k, k < n → P k = Q k) : fnd P n = fnd Q n := by
  rcases fnd_cases Q n with ⟨e, h1⟩ | ⟨i, h1, h2, h3, e⟩
  · rw [e]; exact fnd_no (fun j hj => by rw [h j hj, h1 j hj]; decide)
  · rw [e]; exact fnd_at h1 (by rw [h i h1, h2]) (fun j hj => by rw [h j (by omega), h3 j hj]; decide)
/-- a bit of a set -/
theorem isOf_bit {s k : Nat} (hs : s < 2 ^ 31) (hk : k < 31) : ((nI s >>> (nI k &&& 31)) &&& nI 1) = nI (if s.testBit k then 1 else 0) := by
  rw [pk_shrN hs _ k (s_l k (by omega)), fa_and, Nat.and_one_is_mod, Nat.testBit_eq_decide_div_mod_eq]
  have : s / 2 ^ k % 2 = 0 ∨ s / 2 ^ k % 2 = 1 := by omega
  rcases this with h | h <;> simp [h]
theorem rf_isOf {s k : Nat} (h : ab_H) (hs : s < 2 ^ 31) (hk : k < 31) : fX12_isOf (nI s) (nI k) h = some (nI (if s.testBit k then 1 else 0)) := by
  unfold fX12_isOf
  rw [isOf_bit hs hk]
  cases s.testBit k <;> simp [nI_eq]
/-- what the reference reads -/
theorem rf_of (g : gG) {p w : Nat} (h : 12 + 6 * p + w < 984) : fX12_of 206 (nI p) (nI w) (gH g) = some (gA g 207 (12 + 6 * p + w)) := by
  simp (disch := omega) only [fX12_of, fr_206_1, ia_207, ab_bd_some, ck_t, ck_T, cb_0, cb_1, ab_jn, if_true, if_false, nI_add, pk_mul, nI_ltI, nI_leI, nI_eq]
theorem rf_wearer (g : gG) {n : Nat} (hn : gA g 207 3 = nI n) (h10 : n ≤ 10) (f : Int32) {F : Nat} (hF : 20 < F) : fX12_wearer F 206 f (gH g) = some (fnd (fun p => gA g 207 (12 + 6 * p + 2) = f) n) := by
  unfold fX12_wearer
  refine lpx (L := fun F i (_ : Unit) => fX12_wearer_2 206 f (gH g) F i) (n := n) (fun _ => ()) (fun p => gA g 207 (12 + 6 * p + 2) = f) _ ?_ ?_ ?_ F (by omega)
  · intro F i hi _ hE
    simp (disch := omega) only [fX12_wearer_2, io_206, fr_206_1, ia_207, ab_bd_some, ck_t, ck_T, cb_0, cb_1, ab_jn, if_true, if_false, rf_of, hn, hi, hE, nI_add, pk_mul, nI_ltI, nI_leI, nI_eq]
  · intro F i hi hj hE
    rw [fnd_at hi (by simpa using hE) (fun j h => by simpa using hj j h)]
    simp (disch := omega) only [fX12_wearer_2, io_206, fr_206_1, ia_207, ab_bd_some, ck_t, ck_T, cb_0, cb_1, ab_jn, if_true, if_false, rf_of, hn, hi, hE, nI_add, pk_mul, nI_ltI, nI_leI, nI_eq]
  · intro F hj
    rw [fnd_no (fun j h => by simpa using hj j h)]
    simp (disch := omega) only [fX12_wearer_2, io_206, fr_206_1, ia_207, ab_bd_some, ck_t, ck_T, cb_0, cb_1, ab_jn, if_true, if_false, rf_of, hn, Nat.lt_irrefl, nI_add, pk_mul, nI_ltI, nI_leI, nI_eq]
