variable {Nq : Nat}
/-! ===== rings ===== -/
def wrr (w : Nat → Int32) (n : Nat) (x : Int32) : Int32 := fnd (fun p => w p = x) n
def orb (w : Nat → Int32) (n p : Nat) : Nat → Int32
  | 0 => nI p
  | i + 1 => if orb w n p i = -1 then -1 else wrr w n (orb w n p i)
theorem orb_S (w : Nat → Int32) (n p i : Nat) : orb w n p (i + 1) = if orb w n p i = -1 then -1 else wrr w n (orb w n p i) := rfl
theorem orb_in {w : Nat → Int32} {n p : Nat} (hp : p < n) : ∀ i, orb w n p i = -1 ∨ ∃ j, j < n ∧ orb w n p i = nI j
  | 0 => Or.inr ⟨p, hp, rfl⟩
  | i + 1 => by
    rw [orb_S]
    by_cases c : orb w n p i = -1
    · rw [if_pos c]; exact Or.inl rfl
    · rw [if_neg c]
      unfold wrr
      rcases fnd_cases (fun q => decide (w q = orb w n p i)) n with ⟨e, _⟩ | ⟨j, hj, _, _, e⟩
      · exact Or.inl e
      · exact Or.inr ⟨j, hj, e⟩
theorem orb_m1 {w : Nat → Int32} {n p i : Nat} (h : orb w n p i = -1) : ∀ j, orb w n p (i + j) = -1
  | 0 => h
  | j + 1 => by
    show orb w n p (i + j + 1) = -1
    rw [orb_S, if_pos (orb_m1 h j)]
/-- who was met on the way -/
def orS (w : Nat → Int32) (n p : Nat) : Nat → Int32 := it (fun i a => if orb w n p i = -1 then a else a ||| (nI 1 <<< (orb w n p i &&& 31))) (nI 0)
theorem orS_S (w : Nat → Int32) (n p i : Nat) : orS w n p (i + 1) = if orb w n p i = -1 then orS w n p i else orS w n p i ||| (nI 1 <<< (orb w n p i &&& 31)) := rfl
theorem orS_bt {w : Nat → Int32} {n p : Nat} (hp : p < n) (h10 : n ≤ 10) {b : Nat} (hb : b < 32) : ∀ i, bt (orS w n p i) b = exB (fun j => decide (orb w n p j = nI b)) i
  | 0 => by rw [exB_0]; show bt (nI 0) b = false; rw [nI_0, b_0]
  | i + 1 => by
    rw [orS_S, exB_S, ← orS_bt hp h10 hb i]
    rcases orb_in (w := w) hp i with e | ⟨j, hj, e⟩
    · rw [if_pos e, e, decide_eq_false (by rw [m1_ne' (by omega)]; exact id), Bool.or_false]
    · rw [e, if_neg (nI_m1 (by omega)), sh1 (by omega), b_or, bt_nI' hb, Nat.testBit_two_pow]
      congr 1
      simp only [nI_eq (show j < 2 ^ 31 by omega) (show b < 2 ^ 31 by omega)]
theorem orS_lt {w : Nat → Int32} {n p : Nat} (hp : p < n) (h10 : n ≤ 10) : ∀ i, ∃ t, t < 2 ^ n ∧ orS w n p i = nI t
  | 0 => ⟨0, Nat.two_pow_pos n, rfl⟩
  | i + 1 => by
    obtain ⟨t, ht, e⟩ := orS_lt (w := w) hp h10 i
    rw [orS_S]
    rcases orb_in (w := w) hp i with e1 | ⟨j, hj, e1⟩
    · rw [if_pos e1]; exact ⟨t, ht, e⟩
    · rw [e1, if_neg (nI_m1 (by omega)), e, sh1 (by omega), fa_or]
      exact ⟨t ||| 2 ^ j, or_lt ht (Nat.pow_lt_pow_right (by decide) hj), rfl⟩
/-- the way ends: it leaves, or someone is met again -/
def orE (w : Nat → Int32) (n p i : Nat) : Prop := orb w n p i = -1 ∨ ∃ j, j < i ∧ orb w n p j = orb w n p i
theorem orb_later {w : Nat → Int32} {n p i : Nat} (h : orE w n p i) : ∀ d, orb w n p (i + d) = -1 ∨ ∃ j, j < i ∧ orb w n p (i + d) = orb w n p j := by
  intro d
  rcases h with h | ⟨j0, hj0, e0⟩
  · exact Or.inl (orb_m1 h d)
  · induction d with
    | zero => exact Or.inr ⟨j0, hj0, e0.symm⟩
    | succ d ih =>
      rcases ih with ih | ⟨j, hj, e⟩
      · exact Or.inl (orb_m1 ih 1)
      · show orb w n p (i + d + 1) = -1 ∨ _
        have e2 : orb w n p (i + d + 1) = orb w n p (j + 1) := by rw [orb_S, orb_S, e]
        by_cases c : j + 1 < i
        · exact Or.inr ⟨j + 1, c, e2⟩
        · have : j + 1 = i := by omega
          rw [this] at e2
          exact Or.inr ⟨j0, hj0, e2.trans e0.symm⟩
theorem orS_end {w : Nat → Int32} {n p i : Nat} (hp : p < n) (h10 : n ≤ 10) (h : orE w n p i) (hi : i ≤ n) : orS w n p i = orS w n p n := by
  apply b_ext
  intro b hb
  rw [orS_bt hp h10 hb, orS_bt hp h10 hb]
  cases c : exB (fun j => decide (orb w n p j = nI b)) i
  · refine (exB_f.mpr (fun j hj => ?_)).symm
    by_cases cj : j < i
    · exact exB_f.mp c j cj
    · rcases orb_later h (j - i) with e | ⟨j', hj', e⟩
      · rw [show i + (j - i) = j by omega] at e
        rw [e, decide_eq_false (by rw [m1_ne' (by omega)]; exact id)]
      · rw [show i + (j - i) = j by omega] at e
        rw [e]; exact exB_f.mp c j' hj'
  · obtain ⟨j, hj, e⟩ := exB_t.mp c
    exact (exB_t.mpr ⟨j, by omega, e⟩).symm
theorem orE_ex {w : Nat → Int32} {n p : Nat} (hp : p < n) (h10 : n ≤ 10) (h : ∀ i, i < n + 1 → ¬ orE w n p i) : False := by
  have hv : ∀ i, i < n + 1 → ∃ j, j < n ∧ orb w n p i = nI j := fun i hi => (orb_in hp i).resolve_left (fun e => h i hi (Or.inl e))
  have := fb_holes n (n + 1) (fun i => nv (orb w n p i)) (fun i hi => by
    obtain ⟨j, hj, e⟩ := hv i hi
    show nv (orb w n p i) < n
    rw [e, nv_nI (by omega)]; exact hj) (fun i j hij hj => by
    intro e
    have e' : orb w n p i = orb w n p j := by
      have := congrArg nI (show nv (orb w n p i) = nv (orb w n p j) from e)
      rwa [nI_nv, nI_nv] at this
    exact h j hj (Or.inr ⟨i, hij, e'⟩))
  omega
theorem rf_ring (g : gG) {n : Nat} (hn : gA g 207 3 = nI n) (h10 : n ≤ 10) {F : Nat} (hF : 11000 < F) {p : Nat} (hp : p < n) : fX12_ring F 206 (nI p) (gH g) = some (orS (fun q => gA g 207 (12 + 6 * q + 2)) n p n) := by
  unfold fX12_ring
  have st1 : ∀ i, ¬ orb (fun q => gA g 207 (12 + 6 * q + 2)) n p i = -1 → fX12_wearer F 206 (orb (fun q => gA g 207 (12 + 6 * q + 2)) n p i) (gH g) = some (orb (fun q => gA g 207 (12 + 6 * q + 2)) n p (i + 1)) := fun i h => by
    rw [rf_wearer g hn h10 _ (by omega), orb_S, if_neg h]; rfl
  have b1 : ∀ i, ¬ orb (fun q => gA g 207 (12 + 6 * q + 2)) n p i = -1 → fX12_isOf (orS (fun q => gA g 207 (12 + 6 * q + 2)) n p i) (orb (fun q => gA g 207 (12 + 6 * q + 2)) n p i) (gH g) = some (bI (exB (fun j => decide (orb (fun q => gA g 207 (12 + 6 * q + 2)) n p j = orb (fun q => gA g 207 (12 + 6 * q + 2)) n p i)) i)) := fun i h => by
    obtain ⟨j, hj, e⟩ := (orb_in hp i).resolve_left h
    rw [e, rf_isOfX _ _ (by omega), orS_bt hp h10 (by omega)]
  refine lpx (L := fun F' _ (a : Int32 × Int32) => fX12_ring_4 F 206 (gH g) F' a.1 a.2) (n := n + 1) (fun i => (orS (fun q => gA g 207 (12 + 6 * q + 2)) n p i, orb (fun q => gA g 207 (12 + 6 * q + 2)) n p i)) (orE (fun q => gA g 207 (12 + 6 * q + 2)) n p) _ ?_ ?_ ?_ F (by omega)
  · intro F' i hi _ hE
    have h1 : ¬ orb (fun q => gA g 207 (12 + 6 * q + 2)) n p i = -1 := fun h => hE (Or.inl h)
    have h2 : exB (fun j => decide (orb (fun q => gA g 207 (12 + 6 * q + 2)) n p j = orb (fun q => gA g 207 (12 + 6 * q + 2)) n p i)) i = false := exB_f.mpr (fun j hj => decide_eq_false (fun e => hE (Or.inr ⟨j, hj, e⟩)))
    have b := b1 i h1
    rw [h2] at b
    rw [orS_S, if_neg h1]
    simp (disch := omega) only [fX12_ring_4, io_206, bdS, ck_t, ck_T, cb_0, cb_1, ab_jn, if_true, if_false, h1, b, bI_0, st1 i h1, reduceCtorEq, m1_ne, and_true, true_and, and_false, false_and, not_true_eq_false, not_false_eq_true, ne_eq, decide_true, decide_false, Bool.false_eq_true, ite_true, ite_false, if_true, if_false, Nat.add_zero, Bool.and_true, Bool.true_and, Bool.and_false, Bool.false_and, Bool.or_true, Bool.true_or, Bool.or_false, Bool.false_or, decide_not, Bool.not_true, Bool.not_false, or_true, true_or, or_false, false_or, or_self, and_self, decide_eq_true_eq]
  · intro F' i hi hj hE
    by_cases cn : i ≤ n
    · rw [← orS_end hp h10 hE cn]
      by_cases h1 : orb (fun q => gA g 207 (12 + 6 * q + 2)) n p i = -1
      · simp (disch := omega) only [fX12_ring_4, io_206, bdS, ck_t, ck_T, cb_0, cb_1, ab_jn, if_true, if_false, h1, reduceCtorEq, m1_ne, and_true, true_and, and_false, false_and, not_true_eq_false, not_false_eq_true, ne_eq, decide_true, decide_false, Bool.false_eq_true, ite_true, ite_false, if_true, if_false, Nat.add_zero, Bool.and_true, Bool.true_and, Bool.and_false, Bool.false_and, Bool.or_true, Bool.true_or, Bool.or_false, Bool.false_or, decide_not, Bool.not_true, Bool.not_false, or_true, true_or, or_false, false_or, or_self, and_self, decide_eq_true_eq]
      · obtain ⟨j, hj, e⟩ := hE.resolve_left h1
        have h2 : exB (fun j => decide (orb (fun q => gA g 207 (12 + 6 * q + 2)) n p j = orb (fun q => gA g 207 (12 + 6 * q + 2)) n p i)) i = true := exB_t.mpr ⟨j, hj, decide_eq_true e⟩
        have b := b1 i h1
        rw [h2] at b
        simp (disch := omega) only [fX12_ring_4, io_206, bdS, ck_t, ck_T, cb_0, cb_1, ab_jn, if_true, if_false, h1, b, bI_0, reduceCtorEq, m1_ne, and_true, true_and, and_false, false_and, not_true_eq_false, not_false_eq_true, ne_eq, decide_true, decide_false, Bool.false_eq_true, ite_true, ite_false, if_true, if_false, Nat.add_zero, Bool.and_true, Bool.true_and, Bool.and_false, Bool.false_and, Bool.or_true, Bool.true_or, Bool.or_false, Bool.false_or, decide_not, Bool.not_true, Bool.not_false, or_true, true_or, or_false, false_or, or_self, and_self, decide_eq_true_eq]
    · omega
  · intro F' hj
    exact (orE_ex hp h10 hj).elim
theorem cl_ringOf {g : gG} {x : Nat} {m : Nat → Int32} {n k : Nat} (V : Sv g x m n k) {F : Nat} (hF : 11000 < F) {p : Nat} (hp : p < n) : fX8_ringOf F x (nI p) (gH g) = some (orS (fun q => m (12 + 6 * q + 2)) n p n) := by
  have W := V
  obtain ⟨hx, hn, h10, hk, h12, e3, e4, e5, e6, e7, e8, e11, e9, e10⟩ := W
  unfold fX8_ringOf
  have st1 : ∀ i, ¬ orb (fun q => m (12 + 6 * q + 2)) n p i = -1 → fX8_wearerOf F x (orb (fun q => m (12 + 6 * q + 2)) n p i) (gH g) = some (orb (fun q => m (12 + 6 * q + 2)) n p (i + 1)) := fun i h => by
    rw [cl_wearerOf V hF, orb_S, if_neg h]; rfl
  refine lpx (L := fun F' i (a : Int32 × Int32) => fX8_ringOf_7 F x (gH g) F' a.1 a.2 i) (n := n) (fun i => (orS (fun q => m (12 + 6 * q + 2)) n p i, orb (fun q => m (12 + 6 * q + 2)) n p i)) (fun i => orb (fun q => m (12 + 6 * q + 2)) n p i = -1) _ ?_ ?_ ?_ F (by omega)
  · intro F' i hi _ h1
    rw [orS_S, if_neg h1]
    simp (disch := first | omega | assumption | exact isSt6 | exact isSt18 | exact isSt30) only [fX8_ringOf_7, io_s, fi_s0, bdS, ck_t, ck_T, cb_0, cb_1, ab_jn, if_true, if_false, hn, hi, h1, st1 i h1, nI_add, pk_mul, nI_ltI, nI_leI, nI_eq, reduceCtorEq, m1_ne, and_true, true_and, and_false, false_and, not_true_eq_false, not_false_eq_true, ne_eq, decide_true, decide_false, Bool.false_eq_true, ite_true, ite_false, if_true, if_false, Nat.add_zero, Bool.and_true, Bool.true_and, Bool.and_false, Bool.false_and, Bool.or_true, Bool.true_or, Bool.or_false, Bool.false_or, decide_not, Bool.not_true, Bool.not_false, or_true, true_or, or_false, false_or, or_self, and_self, decide_eq_true_eq]
  · intro F' i hi hj hE
    rw [← orS_end hp h10 (Or.inl hE) (by omega)]
    simp (disch := first | omega | assumption | exact isSt6 | exact isSt18 | exact isSt30) only [fX8_ringOf_7, io_s, fi_s0, bdS, ck_t, ck_T, cb_0, cb_1, ab_jn, if_true, if_false, hn, hi, hE, nI_add, pk_mul, nI_ltI, nI_leI, nI_eq, reduceCtorEq, m1_ne, and_true, true_and, and_false, false_and, not_true_eq_false, not_false_eq_true, ne_eq, decide_true, decide_false, Bool.false_eq_true, ite_true, ite_false, if_true, if_false, Nat.add_zero, Bool.and_true, Bool.true_and, Bool.and_false, Bool.false_and, Bool.or_true, Bool.true_or, Bool.or_false, Bool.false_or, decide_not, Bool.not_true, Bool.not_false, or_true, true_or, or_false, false_or, or_self, and_self, decide_eq_true_eq]
  · intro F' hj
    simp (disch := first | omega | assumption | exact isSt6 | exact isSt18 | exact isSt30) only [fX8_ringOf_7, io_s, fi_s0, bdS, ck_t, ck_T, cb_0, cb_1, ab_jn, if_true, if_false, hn, Nat.lt_irrefl, nI_add, pk_mul, nI_ltI, nI_leI, nI_eq, reduceCtorEq, m1_ne, and_true, true_and, and_false, false_and, not_true_eq_false, not_false_eq_true, ne_eq, decide_true, decide_false, Bool.false_eq_true, ite_true, ite_false, if_true, if_false, Nat.add_zero, Bool.and_true, Bool.true_and, Bool.and_false, Bool.false_and, Bool.or_true, Bool.true_or, Bool.or_false, Bool.false_or, decide_not, Bool.not_true, Bool.not_false, or_true, true_or, or_false, false_or, or_self, and_self, decide_eq_true_eq]
