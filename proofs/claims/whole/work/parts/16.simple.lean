/-! ===== the plain reading methods, of the reference (rf_) and of the class (cl_) ===== -/
def bI (b : Bool) : Int32 := if b then nI 1 else nI 0
theorem bI_t : bI true = nI 1 := rfl
theorem bI_f : bI false = nI 0 := rfl
theorem bI_0 {b : Bool} : (bI b = 0) ↔ b = false := by cases b <;> decide
theorem bI_n0 {b : Bool} : (bI b = nI 0) ↔ b = false := by cases b <;> decide
theorem cb_b {ρ : Type} {b : Bool} {t : Option ρ} : ab_cb (bI b) t = t := by cases b <;> rfl
theorem ifb {ρ : Type} {c : Prop} [Decidable c] : (if c then some (nI 1) else some (nI 0)) = some (bI (decide c)) := by by_cases h : c <;> simp [h, bI]
theorem ifb' {ρ : Type} {c : Prop} [Decidable c] : (if c then some (nI 0) else some (nI 1)) = some (bI (decide (¬ c))) := by by_cases h : c <;> simp [h, bI]
def inR (x : Int32) (n : Nat) : Bool := decide (¬ x < 0 ∧ x < nI n)
theorem inR_of {j n : Nat} (h : j < n) (hn : n < 2 ^ 31) : inR (nI j) n = true := by
  unfold inR
  have h1 : ¬ nI j < 0 := nI_pos (by omega)
  have h2 : nI j < nI n := nI_lt h hn
  simp [h1, h2]
theorem inR_ex {x : Int32} {n : Nat} (hn : n < 2 ^ 31) (h : inR x n = true) : ∃ j, j < n ∧ x = nI j := by
  unfold inR at h
  obtain ⟨h1, h2⟩ := of_decide_eq_true h
  obtain ⟨j, hj, rfl⟩ := nI_of h1
  exact ⟨j, (nI_ltI hj hn).mp h2, rfl⟩
theorem inR_or {x : Int32} {n : Nat} (hn : n < 2 ^ 31) : inR x n = false ∨ ∃ j, j < n ∧ x = nI j := by
  cases h : inR x n
  · exact Or.inl rfl
  · exact Or.inr (inR_ex hn h)
theorem inR_m1 (n : Nat) : inR (-1) n = false := by
  unfold inR
  rw [decide_eq_false]
  intro h
  exact h.1 (by decide)
theorem rf_isIn (x a b : Int32) (h : ab_H) : fX12_isIn x a b h = some (bI (decide (¬ x < a ∧ x ≤ b))) := by
  unfold fX12_isIn
  by_cases h1 : x < a
  · simp [h1, bI]
  · by_cases h2 : x ≤ b <;> simp [h1, h2, bI]
theorem isIn_in {x : Int32} {n : Nat} (hn : n < 2 ^ 30) : decide (¬ x < nI 0 ∧ x ≤ nI n - nI 1) = inR x n := by
  unfold inR
  rw [nI_0]
  congr 1
  apply propext
  constructor
  · rintro ⟨h1, h2⟩
    refine ⟨h1, ?_⟩
    rw [fa_le, pk_sub_toInt hn (by decide)] at h2
    rw [fa_lt, nI_toInt (by omega)]
    omega
  · rintro ⟨h1, h2⟩
    refine ⟨h1, ?_⟩
    rw [fa_lt, nI_toInt (by omega)] at h2
    rw [fa_le, pk_sub_toInt hn (by decide)]
    omega
theorem rf_isPerson (g : gG) {n : Nat} (hn : gA g 207 3 = nI n) (h10 : n ≤ 10) (x : Int32) : fX12_isPerson 206 x (gH g) = some (bI (inR x n)) := by
  have e := isIn_in (x := x) (show n < 2 ^ 30 by omega)
  simp (disch := omega) only [fX12_isPerson, fr_206_1, ia_207, ab_bd_some, ck_t, ck_T, cb_0, cb_1, ab_jn, if_true, if_false, rf_isIn, hn, e, cb_b, nI_add, pk_mul, nI_ltI, nI_leI, nI_eq]
theorem rf_isHook (g : gG) {k : Nat} (hk : gA g 207 4 = nI k) (h12 : k ≤ 12) (x : Int32) : fX12_isHook 206 x (gH g) = some (bI (inR x k)) := by
  have e := isIn_in (x := x) (show k < 2 ^ 30 by omega)
  simp (disch := omega) only [fX12_isHook, fr_206_1, ia_207, ab_bd_some, ck_t, ck_T, cb_0, cb_1, ab_jn, if_true, if_false, rf_isIn, hk, e, cb_b, nI_add, pk_mul, nI_ltI, nI_leI, nI_eq]
/-- a STATE of the class and a row of 984 ints of the reference tell the same -/
def Sv (g : gG) (x : Nat) (m : Nat → Int32) (n k : Nat) : Prop := isSt x ∧ gF g x 0 = nI n ∧ n ≤ 10 ∧ gF g x 1 = nI k ∧ k ≤ 12 ∧
  (∀ p, p < n → gA g (x + 3) p = m (12 + 6 * p)) ∧ (∀ p, p < n → gA g (x + 4) p = m (12 + 6 * p + 1)) ∧ (∀ p, p < n → gA g (x + 5) p = m (12 + 6 * p + 2)) ∧
  (∀ p, p < n → gA g (x + 6) p = m (12 + 6 * p + 3)) ∧ (∀ p, p < n → gA g (x + 7) p = m (12 + 6 * p + 4)) ∧ (∀ p, p < n → gA g (x + 8) p = m (12 + 6 * p + 5)) ∧
  (∀ h, h < 12 → gA g (x + 11) h = m (272 + h)) ∧ (∀ p o, p < n → o < n → gA g (x + 9) (p * 10 + o) = m (172 + 10 * p + o)) ∧ (∀ p o, p < n → o < n → gA g (x + 10) (p * 10 + o) = m (72 + 10 * p + o))
theorem cl_hasPerson {g : gG} {x : Nat} {m : Nat → Int32} {n k : Nat} (V : Sv g x m n k) (y : Int32) : fX8_hasPerson x y (gH g) = some (bI (inR y n)) := by
  have W := V
  obtain ⟨hx, hn, h10, hk, h12, e3, e4, e5, e6, e7, e8, e11, e9, e10⟩ := W
  unfold fX8_hasPerson inR
  by_cases h1 : y < 0
  · simp [h1, bI]
  · simp (disch := assumption) only [fi_s0, ab_bd_some, ck_t, ck_T, cb_0, cb_1, ab_jn, if_true, if_false, hn, h1]
    by_cases h2 : y < nI n <;> simp [h2, bI, h1]
theorem cl_wearerOf {g : gG} {x : Nat} {m : Nat → Int32} {n k : Nat} (V : Sv g x m n k) {F : Nat} (hF : 11000 < F) (f : Int32) : fX8_wearerOf F x f (gH g) = some (fnd (fun p => m (12 + 6 * p + 2) = f) (n)) := by
  have W := V
  obtain ⟨hx, hn, h10, hk, h12, e3, e4, e5, e6, e7, e8, e11, e9, e10⟩ := W
  unfold fX8_wearerOf
  refine lpx (L := fun F i (_ : Unit) => fX8_wearerOf_2 x f (gH g) F i) (n := n) (fun _ => ()) (fun p => m (12 + 6 * p + 2) = f) _ ?_ ?_ ?_ F (by omega)
  · intro F i hi _ hE
    simp (disch := first | omega | assumption | exact isSt6 | exact isSt18 | exact isSt30) only [fX8_wearerOf_2, fi_s0, fr_s11, ia_s5, ab_bd_some, ck_t, ck_T, cb_0, cb_1, ab_jn, if_true, if_false, hn, e5, hi, hE, nI_add, pk_mul, nI_ltI, nI_leI, nI_eq, bI_t, bI_f]
  · intro F i hi hj hE
    rw [fnd_at hi (by simpa using hE) (fun j h => by simpa using hj j h)]
    simp (disch := first | omega | assumption | exact isSt6 | exact isSt18 | exact isSt30) only [fX8_wearerOf_2, fi_s0, fr_s11, ia_s5, ab_bd_some, ck_t, ck_T, cb_0, cb_1, ab_jn, if_true, if_false, hn, e5, hi, hE, nI_add, pk_mul, nI_ltI, nI_leI, nI_eq, bI_t, bI_f]
  · intro F hj
    rw [fnd_no (fun j h => by simpa using hj j h)]
    simp (disch := first | omega | assumption | exact isSt6 | exact isSt18 | exact isSt30) only [fX8_wearerOf_2, fi_s0, fr_s11, ia_s5, ab_bd_some, ck_t, ck_T, cb_0, cb_1, ab_jn, if_true, if_false, hn, e5, Nat.lt_irrefl, nI_add, pk_mul, nI_ltI, nI_leI, nI_eq, bI_t, bI_f]
theorem rf_hookOf (g : gG) {k : Nat} (hk : gA g 207 4 = nI k) (h12 : k ≤ 12) (f : Int32) {F : Nat} (hF : 20 < F) : fX12_hookOf F 206 f (gH g) = some (fnd (fun p => gA g 207 (272 + p) = f) k) := by
  unfold fX12_hookOf
  refine lpx (L := fun F i (_ : Unit) => fX12_hookOf_2 206 f (gH g) F i) (n := k) (fun _ => ()) (fun p => gA g 207 (272 + p) = f) _ ?_ ?_ ?_ F (by omega)
  · intro F i hi _ hE
    simp (disch := first | omega | assumption) only [fX12_hookOf_2, fr_206_1, ia_207, ab_bd_some, ck_t, ck_T, cb_0, cb_1, ab_jn, if_true, if_false, hk, hi, hE, nI_add, pk_mul, nI_ltI, nI_leI, nI_eq]
  · intro F i hi hj hE
    rw [fnd_at hi (by simpa using hE) (fun j h => by simpa using hj j h)]
    simp (disch := first | omega | assumption) only [fX12_hookOf_2, fr_206_1, ia_207, ab_bd_some, ck_t, ck_T, cb_0, cb_1, ab_jn, if_true, if_false, hk, hi, hE, nI_add, pk_mul, nI_ltI, nI_leI, nI_eq]
  · intro F hj
    rw [fnd_no (fun j h => by simpa using hj j h)]
    simp (disch := first | omega | assumption) only [fX12_hookOf_2, fr_206_1, ia_207, ab_bd_some, ck_t, ck_T, cb_0, cb_1, ab_jn, if_true, if_false, hk, Nat.lt_irrefl, nI_add, pk_mul, nI_ltI, nI_leI, nI_eq]
theorem cl_has (s : Int32) (y : Int32) (h : ab_H) : fX11_has s y h = some (bI (decide (¬ ((ab_us s y) &&& nI 1) = 0))) := by
  unfold fX11_has; rw [ifb' (ρ := Int32)]
theorem us_bit {s k : Nat} (hs : s < 2 ^ 31) (hk : k < 31) : (ab_us (nI s) (nI k) &&& nI 1) = bI (s.testBit k) := by
  unfold ab_us
  rw [pk_ushrN (by omega) _ k (s_u k (by omega)), fa_and, Nat.and_one_is_mod, Nat.testBit_eq_decide_div_mod_eq]
  have : s / 2 ^ k % 2 = 0 ∨ s / 2 ^ k % 2 = 1 := by omega
  rcases this with h | h <;> simp [h, bI]
theorem cl_hasB {s k : Nat} (h : ab_H) (hs : s < 2 ^ 31) (hk : k < 31) : fX11_has (nI s) (nI k) h = some (bI (s.testBit k)) := by
  rw [cl_has, us_bit hs hk]; cases s.testBit k <;> rfl
theorem rf_isOfB {s k : Nat} (h : ab_H) (hs : s < 2 ^ 31) (hk : k < 31) : fX12_isOf (nI s) (nI k) h = some (bI (s.testBit k)) := by
  rw [rf_isOf h hs hk]; cases s.testBit k <;> rfl
/-- is there one among the numbers below n -/
def exB (P : Nat → Bool) (n : Nat) : Bool := decide (fa_first P n < n)
theorem exB_at {P : Nat → Bool} {n i : Nat} (hi : i < n) (hP : P i = true) (_h : ∀ j, j < i → ¬ P j = true) : exB P n = true := by
  unfold exB
  refine decide_eq_true ?_
  have h2 := fa_first_no P n
  by_cases hl : fa_first P n < n
  · exact hl
  · exact absurd hP (by rw [h2 i (by omega)]; decide)
theorem exB_no {P : Nat → Bool} {n : Nat} (h : ∀ j, j < n → ¬ P j = true) : exB P n = false := by
  unfold exB
  refine decide_eq_false ?_
  intro hl
  exact h _ hl (fa_first_yes P n hl)
theorem exB_t {P : Nat → Bool} {n : Nat} : exB P n = true ↔ ∃ i, i < n ∧ P i = true := by
  constructor
  · intro h
    unfold exB at h
    have hl := of_decide_eq_true h
    exact ⟨_, hl, fa_first_yes P n hl⟩
  · rintro ⟨i, hi, hP⟩
    cases h : exB P n
    · unfold exB at h
      have hl := of_decide_eq_false h
      exact absurd hP (by rw [fa_first_no P n i (by omega)]; decide)
    · rfl
theorem exB_f {P : Nat → Bool} {n : Nat} : exB P n = false ↔ ∀ i, i < n → P i = false := by
  cases h : exB P n
  · refine ⟨fun _ i hi => ?_, fun _ => rfl⟩
    cases hp : P i
    · rfl
    · exact absurd (exB_t.mpr ⟨i, hi, hp⟩) (by rw [h]; decide)
  · refine ⟨fun e => (by cases e), fun hh => ?_⟩
    obtain ⟨i, hi, hp⟩ := exB_t.mp h
    rw [hh i hi] at hp; cases hp
theorem exB_cong {P Q : Nat → Bool} {n : Nat} (h : ∀ k, k < n → P k = Q k) : exB P n = exB Q n := by
  cases e : exB Q n
  · exact exB_f.mpr (fun i hi => by rw [h i hi]; exact exB_f.mp e i hi)
  · obtain ⟨i, hi, hp⟩ := exB_t.mp e
    exact exB_t.mpr ⟨i, hi, by rw [h i hi]; exact hp⟩
/-- the last of the numbers below n -/
def lst (P : Nat → Bool) : Nat → Int32
  | 0 => -1
  | n + 1 => if P n then nI n else lst P n
theorem lst_cong {P Q : Nat → Bool} : ∀ {n : Nat}, (∀ k, k < n → P k = Q k) → lst P n = lst Q n
  | 0, _ => rfl
  | n + 1, h => by rw [lst, lst, lst_cong (fun k hk => h k (by omega)), h n (by omega)]
theorem or_0 (x : Int32) : x ||| nI 0 = x := by rw [nI_0]; exact Int32.or_zero
theorem cl_hookOf {g : gG} {x : Nat} {m : Nat → Int32} {n k : Nat} (V : Sv g x m n k) {F : Nat} (hF : 11000 < F) (f : Int32) : fX8_hookOf F x f (gH g) = some (fnd (fun p => m (272 + p) = f) (k)) := by
  have W := V
  obtain ⟨hx, hn, h10, hk, h12, e3, e4, e5, e6, e7, e8, e11, e9, e10⟩ := W
  unfold fX8_hookOf
  refine lpx (L := fun F i (_ : Unit) => fX8_hookOf_2 x f (gH g) F i) (n := k) (fun _ => ()) (fun p => m (272 + p) = f) _ ?_ ?_ ?_ F (by omega)
  · intro F i hi _ hE
    simp (disch := first | omega | assumption | exact isSt6 | exact isSt18 | exact isSt30) only [fX8_hookOf_2, fi_s1, fr_s17, ia_s11, ab_bd_some, ck_t, ck_T, cb_0, cb_1, ab_jn, if_true, if_false, hk, e11, hi, hE, nI_add, pk_mul, nI_ltI, nI_leI, nI_eq, bI_t, bI_f]
  · intro F i hi hj hE
    rw [fnd_at hi (by simpa using hE) (fun j h => by simpa using hj j h)]
    simp (disch := first | omega | assumption | exact isSt6 | exact isSt18 | exact isSt30) only [fX8_hookOf_2, fi_s1, fr_s17, ia_s11, ab_bd_some, ck_t, ck_T, cb_0, cb_1, ab_jn, if_true, if_false, hk, e11, hi, hE, nI_add, pk_mul, nI_ltI, nI_leI, nI_eq, bI_t, bI_f]
  · intro F hj
    rw [fnd_no (fun j h => by simpa using hj j h)]
    simp (disch := first | omega | assumption | exact isSt6 | exact isSt18 | exact isSt30) only [fX8_hookOf_2, fi_s1, fr_s17, ia_s11, ab_bd_some, ck_t, ck_T, cb_0, cb_1, ab_jn, if_true, if_false, hk, e11, Nat.lt_irrefl, nI_add, pk_mul, nI_ltI, nI_leI, nI_eq, bI_t, bI_f]
theorem rf_freeHook (g : gG) {k : Nat} (hk : gA g 207 4 = nI k) (h12 : k ≤ 12) {F : Nat} (hF : 11000 < F) : fX12_freeHook F 206 (gH g) = some (fnd (fun p => gA g 207 (272 + p) = -1) (k)) := by
  unfold fX12_freeHook
  refine lpx (L := fun F i (_ : Unit) => fX12_freeHook_2 206 (gH g) F i) (n := k) (fun _ => ()) (fun p => gA g 207 (272 + p) = -1) _ ?_ ?_ ?_ F (by omega)
  · intro F i hi _ hE
    simp (disch := first | omega | assumption | exact isSt6 | exact isSt18 | exact isSt30) only [fX12_freeHook_2, fr_206_1, ia_207, ab_bd_some, ck_t, ck_T, cb_0, cb_1, ab_jn, if_true, if_false, hk, hi, hE, nI_add, pk_mul, nI_ltI, nI_leI, nI_eq, bI_t, bI_f]
  · intro F i hi hj hE
    rw [fnd_at hi (by simpa using hE) (fun j h => by simpa using hj j h)]
    simp (disch := first | omega | assumption | exact isSt6 | exact isSt18 | exact isSt30) only [fX12_freeHook_2, fr_206_1, ia_207, ab_bd_some, ck_t, ck_T, cb_0, cb_1, ab_jn, if_true, if_false, hk, hi, hE, nI_add, pk_mul, nI_ltI, nI_leI, nI_eq, bI_t, bI_f]
  · intro F hj
    rw [fnd_no (fun j h => by simpa using hj j h)]
    simp (disch := first | omega | assumption | exact isSt6 | exact isSt18 | exact isSt30) only [fX12_freeHook_2, fr_206_1, ia_207, ab_bd_some, ck_t, ck_T, cb_0, cb_1, ab_jn, if_true, if_false, hk, Nat.lt_irrefl, nI_add, pk_mul, nI_ltI, nI_leI, nI_eq, bI_t, bI_f]
theorem cl_leastFreeHook {g : gG} {x : Nat} {m : Nat → Int32} {n k : Nat} (V : Sv g x m n k) {F : Nat} (hF : 11000 < F) : fX8_leastFreeHook F x (gH g) = some (fnd (fun p => m (272 + p) = -1) (k)) := by
  have W := V
  obtain ⟨hx, hn, h10, hk, h12, e3, e4, e5, e6, e7, e8, e11, e9, e10⟩ := W
  unfold fX8_leastFreeHook
  refine lpx (L := fun F i (_ : Unit) => fX8_leastFreeHook_2 x (gH g) F i) (n := k) (fun _ => ()) (fun p => m (272 + p) = -1) _ ?_ ?_ ?_ F (by omega)
  · intro F i hi _ hE
    simp (disch := first | omega | assumption | exact isSt6 | exact isSt18 | exact isSt30) only [fX8_leastFreeHook_2, fi_s1, fr_s17, ia_s11, ab_bd_some, ck_t, ck_T, cb_0, cb_1, ab_jn, if_true, if_false, hk, e11, hi, hE, nI_add, pk_mul, nI_ltI, nI_leI, nI_eq, bI_t, bI_f]
  · intro F i hi hj hE
    rw [fnd_at hi (by simpa using hE) (fun j h => by simpa using hj j h)]
    simp (disch := first | omega | assumption | exact isSt6 | exact isSt18 | exact isSt30) only [fX8_leastFreeHook_2, fi_s1, fr_s17, ia_s11, ab_bd_some, ck_t, ck_T, cb_0, cb_1, ab_jn, if_true, if_false, hk, e11, hi, hE, nI_add, pk_mul, nI_ltI, nI_leI, nI_eq, bI_t, bI_f]
  · intro F hj
    rw [fnd_no (fun j h => by simpa using hj j h)]
    simp (disch := first | omega | assumption | exact isSt6 | exact isSt18 | exact isSt30) only [fX8_leastFreeHook_2, fi_s1, fr_s17, ia_s11, ab_bd_some, ck_t, ck_T, cb_0, cb_1, ab_jn, if_true, if_false, hk, e11, Nat.lt_irrefl, nI_add, pk_mul, nI_ltI, nI_leI, nI_eq, bI_t, bI_f]
theorem rf_hasTicketOf (g : gG) {n : Nat} (hn : gA g 207 3 = nI n) (h10 : n ≤ 10) {F : Nat} (hF : 11000 < F) (f : Int32) : fX12_hasTicketOf F 206 f (gH g) = some (bI (exB (fun p => gA g 207 (12 + 6 * p + 3) = f) (n))) := by
  unfold fX12_hasTicketOf
  refine lpx (L := fun F i (_ : Unit) => fX12_hasTicketOf_2 206 f (gH g) F i) (n := n) (fun _ => ()) (fun p => gA g 207 (12 + 6 * p + 3) = f) _ ?_ ?_ ?_ F (by omega)
  · intro F i hi _ hE
    simp (disch := first | omega | assumption | exact isSt6 | exact isSt18 | exact isSt30) only [fX12_hasTicketOf_2, io_206, fr_206_1, ia_207, ab_bd_some, ck_t, ck_T, cb_0, cb_1, ab_jn, if_true, if_false, hn, rf_of, hi, hE, nI_add, pk_mul, nI_ltI, nI_leI, nI_eq, bI_t, bI_f]
  · intro F i hi hj hE
    rw [exB_at hi (by simpa using hE) (fun j h => by simpa using hj j h)]
    simp (disch := first | omega | assumption | exact isSt6 | exact isSt18 | exact isSt30) only [fX12_hasTicketOf_2, io_206, fr_206_1, ia_207, ab_bd_some, ck_t, ck_T, cb_0, cb_1, ab_jn, if_true, if_false, hn, rf_of, hi, hE, nI_add, pk_mul, nI_ltI, nI_leI, nI_eq, bI_t, bI_f]
  · intro F hj
    rw [exB_no (fun j h => by simpa using hj j h)]
    simp (disch := first | omega | assumption | exact isSt6 | exact isSt18 | exact isSt30) only [fX12_hasTicketOf_2, io_206, fr_206_1, ia_207, ab_bd_some, ck_t, ck_T, cb_0, cb_1, ab_jn, if_true, if_false, hn, rf_of, Nat.lt_irrefl, nI_add, pk_mul, nI_ltI, nI_leI, nI_eq, bI_t, bI_f]
theorem cl_ticketIsOut {g : gG} {x : Nat} {m : Nat → Int32} {n k : Nat} (V : Sv g x m n k) {F : Nat} (hF : 11000 < F) (f : Int32) : fX8_ticketIsOut F x f (gH g) = some (bI (exB (fun p => m (12 + 6 * p + 3) = f) (n))) := by
  have W := V
  obtain ⟨hx, hn, h10, hk, h12, e3, e4, e5, e6, e7, e8, e11, e9, e10⟩ := W
  unfold fX8_ticketIsOut
  refine lpx (L := fun F i (_ : Unit) => fX8_ticketIsOut_2 x f (gH g) F i) (n := n) (fun _ => ()) (fun p => m (12 + 6 * p + 3) = f) _ ?_ ?_ ?_ F (by omega)
  · intro F i hi _ hE
    simp (disch := first | omega | assumption | exact isSt6 | exact isSt18 | exact isSt30) only [fX8_ticketIsOut_2, fi_s0, fr_s12, ia_s6, ab_bd_some, ck_t, ck_T, cb_0, cb_1, ab_jn, if_true, if_false, hn, e6, hi, hE, nI_add, pk_mul, nI_ltI, nI_leI, nI_eq, bI_t, bI_f]
  · intro F i hi hj hE
    rw [exB_at hi (by simpa using hE) (fun j h => by simpa using hj j h)]
    simp (disch := first | omega | assumption | exact isSt6 | exact isSt18 | exact isSt30) only [fX8_ticketIsOut_2, fi_s0, fr_s12, ia_s6, ab_bd_some, ck_t, ck_T, cb_0, cb_1, ab_jn, if_true, if_false, hn, e6, hi, hE, nI_add, pk_mul, nI_ltI, nI_leI, nI_eq, bI_t, bI_f]
  · intro F hj
    rw [exB_no (fun j h => by simpa using hj j h)]
    simp (disch := first | omega | assumption | exact isSt6 | exact isSt18 | exact isSt30) only [fX8_ticketIsOut_2, fi_s0, fr_s12, ia_s6, ab_bd_some, ck_t, ck_T, cb_0, cb_1, ab_jn, if_true, if_false, hn, e6, Nat.lt_irrefl, nI_add, pk_mul, nI_ltI, nI_leI, nI_eq, bI_t, bI_f]
theorem rf_hung (g : gG) {k : Nat} (hk : gA g 207 4 = nI k) (h12 : k ≤ 12) {F : Nat} (hF : 11000 < F) : fX12_hung F 206 (gH g) = some (nI (fb_ct (fun h => decide (¬ gA g 207 (272 + h) = -1)) k)) := by
  unfold fX12_hung
  refine lp0 (L := fun F i a => fX12_hung_4 206 (gH g) F a i) (n := k) (fun i => nI (fb_ct (fun h => decide (¬ gA g 207 (272 + h) = -1)) i)) _ ?_ ?_ F (by omega)
  · intro F i hi

    by_cases c0 : gA g 207 (272 + i) = -1 <;>
    simp (disch := first | omega | assumption | exact isSt6 | exact isSt18 | exact isSt30) only [fX12_hung_4, fr_206_1, ia_207, ab_bd_some, ck_t, ck_T, cb_0, cb_1, ab_jn, if_true, if_false, hk, fb_ct, hi, c0, nI_add, pk_mul, nI_ltI, nI_leI, nI_eq, reduceCtorEq, m1_ne, and_true, true_and, and_false, false_and, not_true_eq_false, not_false_eq_true, ne_eq, decide_true, decide_false, Bool.false_eq_true, ite_true, ite_false, if_true, if_false, Nat.add_zero, Bool.and_true, Bool.true_and, Bool.and_false, Bool.false_and, Bool.or_true, Bool.true_or, Bool.or_false, Bool.false_or, decide_not, Bool.not_true, Bool.not_false, or_true, true_or, or_false, false_or, or_self, and_self, decide_eq_true_eq]
  · intro F
    simp (disch := first | omega | assumption | exact isSt6 | exact isSt18 | exact isSt30) only [fX12_hung_4, fr_206_1, ia_207, ab_bd_some, ck_t, ck_T, cb_0, cb_1, ab_jn, if_true, if_false, hk, Nat.lt_irrefl, nI_add, pk_mul, nI_ltI, nI_leI, nI_eq]
theorem cl_hungCount {g : gG} {x : Nat} {m : Nat → Int32} {n k : Nat} (V : Sv g x m n k) {F : Nat} (hF : 11000 < F) : fX8_hungCount F x (gH g) = some (nI (fb_ct (fun h => decide (¬ m (272 + h) = -1)) k)) := by
  have W := V
  obtain ⟨hx, hn, h10, hk, h12, e3, e4, e5, e6, e7, e8, e11, e9, e10⟩ := W
  unfold fX8_hungCount
  refine lp0 (L := fun F i a => fX8_hungCount_4 x (gH g) F a i) (n := k) (fun i => nI (fb_ct (fun h => decide (¬ m (272 + h) = -1)) i)) _ ?_ ?_ F (by omega)
  · intro F i hi

    by_cases c0 : m (272 + i) = -1 <;>
    simp (disch := first | omega | assumption | exact isSt6 | exact isSt18 | exact isSt30) only [fX8_hungCount_4, fi_s1, fr_s17, ia_s11, ab_bd_some, ck_t, ck_T, cb_0, cb_1, ab_jn, if_true, if_false, hk, e11, fb_ct, hi, c0, nI_add, pk_mul, nI_ltI, nI_leI, nI_eq, reduceCtorEq, m1_ne, and_true, true_and, and_false, false_and, not_true_eq_false, not_false_eq_true, ne_eq, decide_true, decide_false, Bool.false_eq_true, ite_true, ite_false, if_true, if_false, Nat.add_zero, Bool.and_true, Bool.true_and, Bool.and_false, Bool.false_and, Bool.or_true, Bool.true_or, Bool.or_false, Bool.false_or, decide_not, Bool.not_true, Bool.not_false, or_true, true_or, or_false, false_or, or_self, and_self, decide_eq_true_eq]
  · intro F
    simp (disch := first | omega | assumption | exact isSt6 | exact isSt18 | exact isSt30) only [fX8_hungCount_4, fi_s1, fr_s17, ia_s11, ab_bd_some, ck_t, ck_T, cb_0, cb_1, ab_jn, if_true, if_false, hk, e11, Nat.lt_irrefl, nI_add, pk_mul, nI_ltI, nI_leI, nI_eq]
theorem rf_holders (g : gG) {n : Nat} (hn : gA g 207 3 = nI n) (h10 : n ≤ 10) {F : Nat} (hF : 11000 < F) : fX12_holders F 206 (gH g) = some (nI (st (fun p => decide (¬ gA g 207 (12 + 6 * p + 3) = -1)) n)) := by
  unfold fX12_holders
  refine lp0 (L := fun F i a => fX12_holders_4 206 (gH g) F a i) (n := n) (fun i => nI (st (fun p => decide (¬ gA g 207 (12 + 6 * p + 3) = -1)) i)) _ ?_ ?_ F (by omega)
  · intro F i hi

    by_cases c0 : gA g 207 (12 + 6 * i + 3) = -1 <;>
    simp (disch := first | omega | assumption | exact isSt6 | exact isSt18 | exact isSt30) only [fX12_holders_4, io_206, fr_206_1, ia_207, ab_bd_some, ck_t, ck_T, cb_0, cb_1, ab_jn, if_true, if_false, hn, rf_of, sh1, st, or_st, or_0, hi, c0, nI_add, pk_mul, nI_ltI, nI_leI, nI_eq, reduceCtorEq, m1_ne, and_true, true_and, and_false, false_and, not_true_eq_false, not_false_eq_true, ne_eq, decide_true, decide_false, Bool.false_eq_true, ite_true, ite_false, if_true, if_false, Nat.add_zero, Bool.and_true, Bool.true_and, Bool.and_false, Bool.false_and, Bool.or_true, Bool.true_or, Bool.or_false, Bool.false_or, decide_not, Bool.not_true, Bool.not_false, or_true, true_or, or_false, false_or, or_self, and_self, decide_eq_true_eq]
  · intro F
    simp (disch := first | omega | assumption | exact isSt6 | exact isSt18 | exact isSt30) only [fX12_holders_4, io_206, fr_206_1, ia_207, ab_bd_some, ck_t, ck_T, cb_0, cb_1, ab_jn, if_true, if_false, hn, rf_of, sh1, Nat.lt_irrefl, nI_add, pk_mul, nI_ltI, nI_leI, nI_eq]
theorem cl_ticketHolders {g : gG} {x : Nat} {m : Nat → Int32} {n k : Nat} (V : Sv g x m n k) {F : Nat} (hF : 11000 < F) : fX8_ticketHolders F x (gH g) = some (nI (st (fun p => decide (¬ m (12 + 6 * p + 3) = -1)) n)) := by
  have W := V
  obtain ⟨hx, hn, h10, hk, h12, e3, e4, e5, e6, e7, e8, e11, e9, e10⟩ := W
  unfold fX8_ticketHolders
  refine lp0 (L := fun F i a => fX8_ticketHolders_4 x (gH g) F a i) (n := n) (fun i => nI (st (fun p => decide (¬ m (12 + 6 * p + 3) = -1)) i)) _ ?_ ?_ F (by omega)
  · intro F i hi

    by_cases c0 : m (12 + 6 * i + 3) = -1 <;>
    simp (disch := first | omega | assumption | exact isSt6 | exact isSt18 | exact isSt30) only [fX8_ticketHolders_4, fi_s0, fr_s12, ia_s6, ab_bd_some, ck_t, ck_T, cb_0, cb_1, ab_jn, if_true, if_false, hn, e6, sh1, st, or_st, hi, c0, nI_add, pk_mul, nI_ltI, nI_leI, nI_eq, reduceCtorEq, m1_ne, and_true, true_and, and_false, false_and, not_true_eq_false, not_false_eq_true, ne_eq, decide_true, decide_false, Bool.false_eq_true, ite_true, ite_false, if_true, if_false, Nat.add_zero, Bool.and_true, Bool.true_and, Bool.and_false, Bool.false_and, Bool.or_true, Bool.true_or, Bool.or_false, Bool.false_or, decide_not, Bool.not_true, Bool.not_false, or_true, true_or, or_false, false_or, or_self, and_self, decide_eq_true_eq]
  · intro F
    simp (disch := first | omega | assumption | exact isSt6 | exact isSt18 | exact isSt30) only [fX8_ticketHolders_4, fi_s0, fr_s12, ia_s6, ab_bd_some, ck_t, ck_T, cb_0, cb_1, ab_jn, if_true, if_false, hn, e6, sh1, Nat.lt_irrefl, nI_add, pk_mul, nI_ltI, nI_leI, nI_eq]
theorem rf_wrongs (g : gG) {n : Nat} (hn : gA g 207 3 = nI n) (h10 : n ≤ 10) {F : Nat} (hF : 11000 < F) : fX12_wrongs F 206 (gH g) = some (nI (st (fun p => decide (¬ gA g 207 (12 + 6 * p + 2) = -1) && decide (¬ gA g 207 (12 + 6 * p + 2) = nI p)) n)) := by
  unfold fX12_wrongs
  refine lp0 (L := fun F i a => fX12_wrongs_4 206 (gH g) F a i) (n := n) (fun i => nI (st (fun p => decide (¬ gA g 207 (12 + 6 * p + 2) = -1) && decide (¬ gA g 207 (12 + 6 * p + 2) = nI p)) i)) _ ?_ ?_ F (by omega)
  · intro F i hi

    by_cases c0 : gA g 207 (12 + 6 * i + 2) = -1 <;> by_cases c1 : gA g 207 (12 + 6 * i + 2) = nI i <;>
    simp (disch := first | omega | assumption | exact isSt6 | exact isSt18 | exact isSt30) only [fX12_wrongs_4, io_206, fr_206_1, ia_207, ab_bd_some, ck_t, ck_T, cb_0, cb_1, ab_jn, if_true, if_false, hn, rf_of, sh1, st, or_st, or_0, hi, c0, c1, nI_add, pk_mul, nI_ltI, nI_leI, nI_eq, reduceCtorEq, m1_ne, and_true, true_and, and_false, false_and, not_true_eq_false, not_false_eq_true, ne_eq, decide_true, decide_false, Bool.false_eq_true, ite_true, ite_false, if_true, if_false, Nat.add_zero, Bool.and_true, Bool.true_and, Bool.and_false, Bool.false_and, Bool.or_true, Bool.true_or, Bool.or_false, Bool.false_or, decide_not, Bool.not_true, Bool.not_false, or_true, true_or, or_false, false_or, or_self, and_self, decide_eq_true_eq]
  · intro F
    simp (disch := first | omega | assumption | exact isSt6 | exact isSt18 | exact isSt30) only [fX12_wrongs_4, io_206, fr_206_1, ia_207, ab_bd_some, ck_t, ck_T, cb_0, cb_1, ab_jn, if_true, if_false, hn, rf_of, sh1, Nat.lt_irrefl, nI_add, pk_mul, nI_ltI, nI_leI, nI_eq]
theorem cl_wrongOnes {g : gG} {x : Nat} {m : Nat → Int32} {n k : Nat} (V : Sv g x m n k) {F : Nat} (hF : 11000 < F) : fX8_wrongOnes F x (gH g) = some (nI (st (fun p => decide (¬ m (12 + 6 * p + 2) = -1) && decide (¬ m (12 + 6 * p + 2) = nI p)) n)) := by
  have W := V
  obtain ⟨hx, hn, h10, hk, h12, e3, e4, e5, e6, e7, e8, e11, e9, e10⟩ := W
  unfold fX8_wrongOnes
  refine lp0 (L := fun F i a => fX8_wrongOnes_4 x (gH g) F a i) (n := n) (fun i => nI (st (fun p => decide (¬ m (12 + 6 * p + 2) = -1) && decide (¬ m (12 + 6 * p + 2) = nI p)) i)) _ ?_ ?_ F (by omega)
  · intro F i hi

    by_cases c0 : m (12 + 6 * i + 2) = -1 <;> by_cases c1 : m (12 + 6 * i + 2) = nI i <;>
    simp (disch := first | omega | assumption | exact isSt6 | exact isSt18 | exact isSt30) only [fX8_wrongOnes_4, fi_s0, fr_s11, ia_s5, ab_bd_some, ck_t, ck_T, cb_0, cb_1, ab_jn, if_true, if_false, hn, e5, sh1, st, or_st, hi, c0, c1, nI_add, pk_mul, nI_ltI, nI_leI, nI_eq, reduceCtorEq, m1_ne, and_true, true_and, and_false, false_and, not_true_eq_false, not_false_eq_true, ne_eq, decide_true, decide_false, Bool.false_eq_true, ite_true, ite_false, if_true, if_false, Nat.add_zero, Bool.and_true, Bool.true_and, Bool.and_false, Bool.false_and, Bool.or_true, Bool.true_or, Bool.or_false, Bool.false_or, decide_not, Bool.not_true, Bool.not_false, or_true, true_or, or_false, false_or, or_self, and_self, decide_eq_true_eq]
  · intro F
    simp (disch := first | omega | assumption | exact isSt6 | exact isSt18 | exact isSt30) only [fX8_wrongOnes_4, fi_s0, fr_s11, ia_s5, ab_bd_some, ck_t, ck_T, cb_0, cb_1, ab_jn, if_true, if_false, hn, e5, sh1, Nat.lt_irrefl, nI_add, pk_mul, nI_ltI, nI_leI, nI_eq]
theorem rf_lastTaken (g : gG) {n k : Nat} (hn : gA g 207 3 = nI n) (h10 : n ≤ 10) (hk : gA g 207 4 = nI k) (h12 : k ≤ 12) {F : Nat} (hF : 11000 < F) : fX12_lastTaken F 206 (gH g) = some (lst (fun h => decide (¬ gA g 207 (272 + h) = -1) || exB (fun p => gA g 207 (12 + 6 * p + 3) = nI h) n) k) := by
  unfold fX12_lastTaken
  refine lp0 (L := fun F' i a => fX12_lastTaken_4 F 206 (gH g) F' a i) (n := k) (fun i => lst (fun h => decide (¬ gA g 207 (272 + h) = -1) || exB (fun p => gA g 207 (12 + 6 * p + 3) = nI h) n) i) _ ?_ ?_ F (by omega)
  · intro F i hi

    by_cases c0 : gA g 207 (272 + i) = -1 <;> by_cases c1 : exB (fun p => gA g 207 (12 + 6 * p + 3) = nI i) n = true <;>
    simp (disch := first | omega | assumption | exact isSt6 | exact isSt18 | exact isSt30) only [fX12_lastTaken_4, io_206, fr_206_1, ia_207, ab_bd_some, ck_t, ck_T, cb_0, cb_1, ab_jn, if_true, if_false, hk, rf_hasTicketOf g hn h10 hF, bI_0, lst, hi, c0, c1, nI_add, pk_mul, nI_ltI, nI_leI, nI_eq, reduceCtorEq, m1_ne, and_true, true_and, and_false, false_and, not_true_eq_false, not_false_eq_true, ne_eq, decide_true, decide_false, Bool.false_eq_true, ite_true, ite_false, if_true, if_false, Nat.add_zero, Bool.and_true, Bool.true_and, Bool.and_false, Bool.false_and, Bool.or_true, Bool.true_or, Bool.or_false, Bool.false_or, decide_not, Bool.not_true, Bool.not_false, or_true, true_or, or_false, false_or, or_self, and_self, decide_eq_true_eq]
  · intro F
    simp (disch := first | omega | assumption | exact isSt6 | exact isSt18 | exact isSt30) only [fX12_lastTaken_4, io_206, fr_206_1, ia_207, ab_bd_some, ck_t, ck_T, cb_0, cb_1, ab_jn, if_true, if_false, hk, rf_hasTicketOf g hn h10 hF, bI_0, Nat.lt_irrefl, nI_add, pk_mul, nI_ltI, nI_leI, nI_eq]
theorem cl_lastTakenHook {g : gG} {x : Nat} {m : Nat → Int32} {n k : Nat} (V : Sv g x m n k) {F : Nat} (hF : 11000 < F) : fX8_lastTakenHook F x (gH g) = some (lst (fun h => decide (¬ m (272 + h) = -1) || exB (fun p => m (12 + 6 * p + 3) = nI h) n) k) := by
  have W := V
  obtain ⟨hx, hn, h10, hk, h12, e3, e4, e5, e6, e7, e8, e11, e9, e10⟩ := W
  unfold fX8_lastTakenHook
  refine lp0 (L := fun F' i a => fX8_lastTakenHook_4 F x (gH g) F' a i) (n := k) (fun i => lst (fun h => decide (¬ m (272 + h) = -1) || exB (fun p => m (12 + 6 * p + 3) = nI h) n) i) _ ?_ ?_ F (by omega)
  · intro F i hi

    by_cases c0 : m (272 + i) = -1 <;> by_cases c1 : exB (fun p => m (12 + 6 * p + 3) = nI i) n = true <;>
    simp (disch := first | omega | assumption | exact isSt6 | exact isSt18 | exact isSt30) only [fX8_lastTakenHook_4, io_s, fi_s1, fr_s17, ia_s11, ab_bd_some, ck_t, ck_T, cb_0, cb_1, ab_jn, if_true, if_false, hk, e11, cl_ticketIsOut V hF, bI_0, lst, hi, c0, c1, nI_add, pk_mul, nI_ltI, nI_leI, nI_eq, reduceCtorEq, m1_ne, and_true, true_and, and_false, false_and, not_true_eq_false, not_false_eq_true, ne_eq, decide_true, decide_false, Bool.false_eq_true, ite_true, ite_false, if_true, if_false, Nat.add_zero, Bool.and_true, Bool.true_and, Bool.and_false, Bool.false_and, Bool.or_true, Bool.true_or, Bool.or_false, Bool.false_or, decide_not, Bool.not_true, Bool.not_false, or_true, true_or, or_false, false_or, or_self, and_self, decide_eq_true_eq]
  · intro F
    simp (disch := first | omega | assumption | exact isSt6 | exact isSt18 | exact isSt30) only [fX8_lastTakenHook_4, io_s, fi_s1, fr_s17, ia_s11, ab_bd_some, ck_t, ck_T, cb_0, cb_1, ab_jn, if_true, if_false, hk, e11, cl_ticketIsOut V hF, bI_0, Nat.lt_irrefl, nI_add, pk_mul, nI_ltI, nI_leI, nI_eq]
