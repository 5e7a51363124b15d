variable {Nq : Nat}
/-! ===== chain ===== -/
def Wq (kn : Nat → Int32) (n p : Nat) : Nat → Nat → Bool
  | 0, b => decide (b = p)
  | j + 1, b => Wq kn n p j b || exB (fun a => Wq kn n p j a && bt (kn a) b) n
theorem Wq_mono {kn : Nat → Int32} {n p j b : Nat} (h : Wq kn n p j b = true) : ∀ i, Wq kn n p (j + i) b = true
  | 0 => h
  | i + 1 => by
    show (Wq kn n p (j + i) b || _) = true
    rw [Wq_mono h i, Bool.true_or]
theorem Wq_stab {kn : Nat → Int32} {n p j : Nat} (h : ∀ b, b < n → Wq kn n p (j + 1) b = Wq kn n p j b) : ∀ i b, b < n → Wq kn n p (j + i) b = Wq kn n p j b
  | 0, _, _ => rfl
  | i + 1, b, hb => by
    have ih := Wq_stab h i
    have e : Wq kn n p (j + (i + 1)) b = (Wq kn n p (j + i) b || exB (fun a => Wq kn n p (j + i) a && bt (kn a) b) n) := rfl
    rw [e, ih b hb, exB_cong (Q := fun a => Wq kn n p j a && bt (kn a) b) (fun a ha => by rw [ih a ha])]
    exact h b hb
theorem ct_lt {P Q : Nat → Bool} {n b : Nat} (h : ∀ i, i < n → P i = true → Q i = true) (hb : b < n) (h1 : P b = false) (h2 : Q b = true) : fb_ct P n + 1 ≤ fb_ct Q n := by
  have e1 := fb_ct_upd P true hb
  rw [h1] at e1
  have e2 : fb_ct (fun k => if k = b then true else P k) n ≤ fb_ct Q n := fb_ct_sub (fun k hk hP => by
    by_cases c : k = b
    · rw [c]; exact h2
    · simp only [c, if_false] at hP; exact h k hk hP)
  simp only [Bool.false_eq_true, if_true, if_false] at e1
  omega
theorem Wq_grow {kn : Nat → Int32} {n p : Nat} (hp : p < n) : ∀ j, (∃ i, i ≤ j ∧ ∀ b, b < n → Wq kn n p (i + 1) b = Wq kn n p i b) ∨ j + 2 ≤ fb_ct (Wq kn n p (j + 1)) n := by
  intro j
  have step : ∀ i, (∀ b, b < n → Wq kn n p (i + 1) b = Wq kn n p i b) ∨ fb_ct (Wq kn n p i) n + 1 ≤ fb_ct (Wq kn n p (i + 1)) n := by
    intro i
    by_cases c : ∃ b, b < n ∧ Wq kn n p i b = false ∧ Wq kn n p (i + 1) b = true
    · obtain ⟨b, hb, h1, h2⟩ := c
      exact Or.inr (ct_lt (fun k _ hk => Wq_mono hk 1) hb h1 h2)
    · left
      intro b hb
      cases h1 : Wq kn n p i b
      · cases h2 : Wq kn n p (i + 1) b
        · rfl
        · exact absurd ⟨b, hb, h1, h2⟩ c
      · exact Wq_mono h1 1
  induction j with
  | zero =>
    rcases step 0 with h | h
    · exact Or.inl ⟨0, Nat.le_refl 0, h⟩
    · right
      have : 0 < fb_ct (Wq kn n p 0) n := fb_ct_pos.mpr ⟨p, hp, by simp [Wq]⟩
      omega
  | succ j ih =>
    rcases ih with ⟨i, hi, h⟩ | h
    · exact Or.inl ⟨i, by omega, h⟩
    · rcases step (j + 1) with h' | h'
      · exact Or.inl ⟨j + 1, Nat.le_refl _, h'⟩
      · right; omega
theorem Wq_n {kn : Nat → Int32} {n p J o : Nat} (hp : p < n) (ho : o < n) (h : Wq kn n p J o = true) : ∃ j, j < n ∧ Wq kn n p j o = true := by
  rcases Wq_grow (kn := kn) hp (n - 1) with ⟨i, hi, hs⟩ | hg
  · by_cases c : J < n
    · exact ⟨J, c, h⟩
    · have := Wq_stab hs (J - i) o ho
      rw [show i + (J - i) = J by omega, h] at this
      exact ⟨i, by omega, this.symm⟩
  · have := fb_ct_le (Wq kn n p (n - 1 + 1)) n
    omega
def chF (kn : Nat → Int32) (n p o : Nat) : Int32 := fnd (fun j => Wq kn n p j o) 11
theorem chF_cl {kn : Nat → Int32} {n p o : Nat} (hp : p < n) (ho : o < n) (hne : p ≠ o) (h10 : n ≤ 10) : chF kn n p o = (if exB (fun j => Wq kn n p (j + 1) o) (n - 1) = true then nI (fa_first (fun j => Wq kn n p (j + 1) o) (n - 1) + 1) else -1) := by
  have h0 : Wq kn n p 0 o = false := by simp [Wq]; omega
  unfold chF
  cases c : exB (fun j => Wq kn n p (j + 1) o) (n - 1)
  · refine fnd_no (fun j hj hW => ?_)
    obtain ⟨i, hi, hWi⟩ := Wq_n hp ho hW
    by_cases ci : i = 0
    · rw [ci, h0] at hWi; cases hWi
    · have := exB_f.mp c (i - 1) (by omega)
      rw [show i - 1 + 1 = i by omega, hWi] at this
      cases this
  · rw [if_pos rfl]
    have hl : fa_first (fun j => Wq kn n p (j + 1) o) (n - 1) < n - 1 := by unfold exB at c; exact of_decide_eq_true c
    have hy := fa_first_yes (fun j => Wq kn n p (j + 1) o) (n - 1) hl
    have hno := fa_first_no (fun j => Wq kn n p (j + 1) o) (n - 1)
    refine fnd_at (by omega) hy (fun j hj => ?_)
    by_cases cj : j = 0
    · rw [cj, h0]; decide
    · have := hno (j - 1) (by omega)
      rw [show j - 1 + 1 = j by omega] at this
      rw [this]; decide
theorem cl_known {g : gG} {x : Nat} {m : Nat → Int32} {n k : Nat} (V : Sv g x m n k) {F : Nat} (hF : 11000 < F) (s : Int32) : fX8_knownToAny F x s (gH g) = some (it (fun p a => if bt s p = true then a ||| m (12 + 6 * p + 5) else a) (nI 0) n) := by
  have W := V
  obtain ⟨hx, hn, h10, hk, h12, e3, e4, e5, e6, e7, e8, e11, e9, e10⟩ := W
  unfold fX8_knownToAny
  refine lp0 (L := fun F' i a => fX8_knownToAny_4 x s (gH g) F' a i) (n := n) (fun i => it (fun p a => if bt s p = true then a ||| m (12 + 6 * p + 5) else a) (nI 0) i) _ ?_ ?_ F (by omega)
  · intro F i hi
    have q := e8 i hi
    cases c : bt s i <;>
    simp (disch := first | omega | assumption | exact isSt6 | exact isSt18 | exact isSt30) only [fX8_knownToAny_4, fi_s0, fr_s14, ia_s8, bdS, ck_t, ck_T, cb_0, cb_1, ab_jn, if_true, if_false, hn, hi, q, cl_hasX, c, bI_0, it, nI_add, pk_mul, nI_ltI, nI_leI, nI_eq, reduceCtorEq, m1_ne, and_true, true_and, and_false, false_and, not_true_eq_false, not_false_eq_true, ne_eq, decide_true, decide_false, Bool.false_eq_true, ite_true, ite_false, if_true, if_false, Nat.add_zero, Bool.and_true, Bool.true_and, Bool.and_false, Bool.false_and, Bool.or_true, Bool.true_or, Bool.or_false, Bool.false_or, decide_not, Bool.not_true, Bool.not_false, or_true, true_or, or_false, false_or, or_self, and_self, decide_eq_true_eq]
  · intro F
    simp (disch := first | omega | assumption | exact isSt6 | exact isSt18 | exact isSt30) only [fX8_knownToAny_4, fi_s0, fr_s14, ia_s8, bdS, ck_t, ck_T, cb_0, cb_1, ab_jn, if_true, if_false, hn, Nat.lt_irrefl, nI_add, pk_mul, nI_ltI, nI_leI, nI_eq, reduceCtorEq, m1_ne, and_true, true_and, and_false, false_and, not_true_eq_false, not_false_eq_true, ne_eq, decide_true, decide_false, Bool.false_eq_true, ite_true, ite_false, if_true, if_false, Nat.add_zero, Bool.and_true, Bool.true_and, Bool.and_false, Bool.false_and, Bool.or_true, Bool.true_or, Bool.or_false, Bool.false_or, decide_not, Bool.not_true, Bool.not_false, or_true, true_or, or_false, false_or, or_self, and_self, decide_eq_true_eq]
theorem known_bt (kn : Nat → Int32) (s : Int32) (b : Nat) : ∀ n, bt (it (fun p a => if bt s p = true then a ||| kn p else a) (nI 0) n) b = exB (fun a => bt s a && bt (kn a) b) n
  | 0 => by rw [exB_0]; show bt (nI 0) b = false; rw [nI_0, b_0]
  | n + 1 => by
    rw [exB_S]
    show bt (if bt s n = true then _ ||| kn n else _) b = _
    cases c : bt s n
    · rw [if_neg (by decide), known_bt kn s b n]; simp
    · rw [if_pos rfl, b_or, known_bt kn s b n]; simp
/-- what the class has reached -/
def rch (kn : Nat → Int32) (n p : Nat) : Nat → Int32
  | 0 => nI (2 ^ p)
  | j + 1 => rch kn n p j ||| it (fun q a => if bt (rch kn n p j) q = true then a ||| kn q else a) (nI 0) n
theorem rch_bt {kn : Nat → Int32} {n p : Nat} (hp : p < 10) (h10 : n ≤ 10) : ∀ j b, b < 32 → bt (rch kn n p j) b = Wq kn n p j b
  | 0, b, hb => by
    show bt (nI (2 ^ p)) b = decide (b = p)
    rw [bt_nI' hb, Nat.testBit_two_pow]
    by_cases c : b = p
    · subst c; simp
    · simp [c]; omega
  | j + 1, b, hb => by
    show bt (rch kn n p j ||| _) b = _
    rw [b_or, known_bt, rch_bt hp h10 j b hb]
    show _ = (_ || _)
    rw [exB_cong (Q := fun a => Wq kn n p j a && bt (kn a) b) (fun a ha => by rw [rch_bt hp h10 j a (by omega)])]
theorem cl_chain13 {g : gG} {m : Nat → Int32} {n k : Nat} (V : Sv g 6 m n k) {F : Nat} (hF : 11000 < F) {p o : Nat} (hp : p < n) (ho : o < n) : fX11_chain_13 F 0 (nI o) (gH g) F (nI (2 ^ p)) (nI 1) = some (.inl (if exB (fun j => Wq (fun q => m (12 + 6 * q + 5)) n p (j + 1) o) (n - 1) = true then nI (fa_first (fun j => Wq (fun q => m (12 + 6 * q + 5)) n p (j + 1) o) (n - 1) + 1) else -1)) := by
  have W := V
  obtain ⟨hx, hn, h10, hk, h12, e3, e4, e5, e6, e7, e8, e11, e9, e10⟩ := W
  have st1 : ∀ j, rch (fun q => m (12 + 6 * q + 5)) n p (j + 1) = rch (fun q => m (12 + 6 * q + 5)) n p j ||| it (fun q a => if bt (rch (fun q => m (12 + 6 * q + 5)) n p j) q = true then a ||| m (12 + 6 * q + 5) else a) (nI 0) n := fun j => rfl
  have h0 := lpx (L := fun F' i a => fX11_chain_13 F 0 (nI o) (gH g) F' a (i + nI 1)) (n := n - 1) (fun i => rch (fun q => m (12 + 6 * q + 5)) n p i) (fun j => Wq (fun q => m (12 + 6 * q + 5)) n p (j + 1) o = true) (some (.inl (if exB (fun j => Wq (fun q => m (12 + 6 * q + 5)) n p (j + 1) o) (n - 1) = true then nI (fa_first (fun j => Wq (fun q => m (12 + 6 * q + 5)) n p (j + 1) o) (n - 1) + 1) else -1))) ?_ ?_ ?_ F (by omega)
  · rw [nI_add] at h0; exact h0
  · intro F' i hi _ hE
    have b := rch_bt (kn := fun q => m (12 + 6 * q + 5)) (n := n) (p := p) (by omega) h10 (i + 1) o (by omega)
    have hf : Wq (fun q => m (12 + 6 * q + 5)) n p (i + 1) o = false := by simpa using hE
    rw [hf] at b
    have hi' : i + 1 < n := by omega
    rw [st1] at b
    rw [st1]
    simp (disch := first | omega | assumption | exact isSt6 | exact isSt18 | exact isSt30) only [fX11_chain_13, io_s, fr_0_1, fi_s0, bdS, ck_t, ck_T, cb_0, cb_1, ab_jn, if_true, if_false, io_s, fi_s0, hn, hi', cl_known V hF, cl_hasX, b, bI_0, nI_add, nI_ltI, if_true, reduceCtorEq, if_false]
  · intro F' i hi hj hE
    have b := rch_bt (kn := fun q => m (12 + 6 * q + 5)) (n := n) (p := p) (by omega) h10 (i + 1) o (by omega)
    rw [hE, st1] at b
    have hi' : i + 1 < n := by omega
    have ef : fa_first (fun j => Wq (fun q => m (12 + 6 * q + 5)) n p (j + 1) o) (n - 1) = i := by
      have h1 := fa_first_le (fun j => Wq (fun q => m (12 + 6 * q + 5)) n p (j + 1) o) (n - 1)
      rcases Nat.lt_trichotomy (fa_first (fun j => Wq (fun q => m (12 + 6 * q + 5)) n p (j + 1) o) (n - 1)) i with hl | hl | hl
      · exact absurd (fa_first_yes (fun j => Wq (fun q => m (12 + 6 * q + 5)) n p (j + 1) o) (n - 1) (by omega)) (hj _ hl)
      · exact hl
      · have := fa_first_no (fun j => Wq (fun q => m (12 + 6 * q + 5)) n p (j + 1) o) (n - 1) i hl
        rw [hE] at this; cases this
    rw [exB_t.mpr ⟨i, hi, hE⟩, if_pos rfl, ef]
    simp (disch := first | omega | assumption | exact isSt6 | exact isSt18 | exact isSt30) only [fX11_chain_13, io_s, fr_0_1, fi_s0, bdS, ck_t, ck_T, cb_0, cb_1, ab_jn, if_true, if_false, io_s, fi_s0, hn, hi', cl_known V hF, cl_hasX, b, bI_0, nI_add, nI_ltI, if_true, reduceCtorEq, if_false]
  · intro F' hj
    rw [exB_no hj]
    have hi' : ¬ n - 1 + 1 < n := by omega
    simp (disch := first | omega | assumption | exact isSt6 | exact isSt18 | exact isSt30) only [fX11_chain_13, io_s, fr_0_1, fi_s0, bdS, ck_t, ck_T, cb_0, cb_1, ab_jn, if_true, if_false, fi_s0, hn, hi', nI_add, nI_ltI, if_false, Bool.false_eq_true]
