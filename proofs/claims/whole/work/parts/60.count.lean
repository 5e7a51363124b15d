variable {Nq : Nat}
/-! ===== OWNERS counted: by sets, from below ===== -/
def sumI (g : Nat → Int32) : Nat → Int32 := it (fun f a => a + g f) (nI 0)
theorem sumI_S (g : Nat → Int32) (n : Nat) : sumI g (n + 1) = sumI g n + g n := rfl
theorem sumI_cong {g g' : Nat → Int32} : ∀ {n : Nat}, (∀ f, f < n → g f = g' f) → sumI g n = sumI g' n
  | 0, _ => rfl
  | n + 1, h => by rw [sumI_S, sumI_S, sumI_cong (fun f hf => h f (by omega)), h n (by omega)]
theorem sumI_upd {g g' : Nat → Int32} {f0 : Nat} (h0 : g f0 = nI 0) (h : ∀ f, f ≠ f0 → g' f = g f) : ∀ {n : Nat}, f0 < n → sumI g' n = sumI g n + g' f0
  | 0, hn => absurd hn (Nat.not_lt_zero _)
  | n + 1, hn => by
    rw [sumI_S, sumI_S]
    by_cases c : f0 = n
    · subst c
      rw [sumI_cong (fun f hf => h f (by omega)), h0, nI_0, Int32.add_zero]
    · rw [sumI_upd h0 h (show f0 < n by omega), h n (fun e => c e.symm), Int32.add_assoc, Int32.add_assoc, Int32.add_comm (g' f0)]
theorem sumI_0 {g : Nat → Int32} : ∀ {n : Nat}, (∀ f, f < n → g f = nI 0) → sumI g n = nI 0
  | 0, _ => rfl
  | n + 1, h => by rw [sumI_S, sumI_0 (fun f hf => h f (by omega)), h n (by omega)]; decide
/-- in how many orders a set of FACES goes to the first PEOPLE -/
def tb (al : Nat → Int32) (n : Nat) (G : Nat → Int32) : Nat → Nat → Int32
  | 0 => G
  | k + 1 => upd (tb al n G k) (k + 1) (sumI (fun f => if (k + 1).testBit f = true ∧ bt (al (pc (nI (k + 1)) - 1)) f = true then tb al n G k (k + 1 - 2 ^ f) else nI 0) n)
theorem tb_hi {al : Nat → Int32} {n : Nat} {G : Nat → Int32} {S : Nat} : ∀ {k : Nat}, k < S → tb al n G k S = G S
  | 0, _ => rfl
  | k + 1, h => by
    show upd (tb al n G k) (k + 1) _ S = _
    rw [upd_2 _ _ (by omega)]; exact tb_hi (by omega)
theorem tb_st {al : Nat → Int32} {n : Nat} {G : Nat → Int32} {S : Nat} : ∀ {d : Nat}, tb al n G (S + d) S = tb al n G S S
  | 0 => rfl
  | d + 1 => by
    show upd (tb al n G (S + d)) (S + d + 1) _ S = _
    rw [upd_2 _ _ (by omega)]; exact tb_st
def ov (al : Nat → Int32) (n : Nat) (G : Nat → Int32) (S : Nat) : Int32 := tb al n G S S
/-- what a FACE brings to a set -/
def wt (al : Nat → Int32) (n : Nat) (G : Nat → Int32) (S f : Nat) : Int32 := if S.testBit f = true ∧ bt (al (pc (nI S) - 1)) f = true then ov al n G (S - 2 ^ f) else nI 0
theorem ov_S (al : Nat → Int32) (n : Nat) (G : Nat → Int32) {S : Nat} (h : 0 < S) : ov al n G S = sumI (wt al n G S) n := by
  obtain ⟨k, rfl⟩ : ∃ k, S = k + 1 := ⟨S - 1, by omega⟩
  show upd (tb al n G k) (k + 1) _ (k + 1) = _
  rw [upd_1]
  refine sumI_cong (fun f hf => ?_)
  unfold wt
  by_cases c : (k + 1).testBit f = true ∧ bt (al (pc (nI (k + 1)) - 1)) f = true
  · rw [if_pos c, if_pos c]
    have hp : 0 < 2 ^ f := Nat.two_pow_pos f
    have e : k = (k + 1 - 2 ^ f) + (k - (k + 1 - 2 ^ f)) := by omega
    show tb al n G k (k + 1 - 2 ^ f) = tb al n G (k + 1 - 2 ^ f) (k + 1 - 2 ^ f)
    have := tb_st (al := al) (n := n) (G := G) (S := k + 1 - 2 ^ f) (d := k - (k + 1 - 2 ^ f))
    rwa [← e] at this
  · rw [if_neg c, if_neg c]
theorem wt_G {al : Nat → Int32} {n : Nat} {G G' : Nat → Int32} (h : G 0 = G' 0) : ∀ S, ov al n G S = ov al n G' S := by
  intro S
  induction S using Nat.strongRecOn with
  | ind S ih =>
    by_cases c : S = 0
    · subst c; exact h
    · rw [ov_S al n G (by omega), ov_S al n G' (by omega)]
      refine sumI_cong (fun f hf => ?_)
      unfold wt
      by_cases c2 : S.testBit f = true ∧ bt (al (pc (nI S) - 1)) f = true
      · rw [if_pos c2, if_pos c2]
        exact ih _ (by have := Nat.two_pow_pos f; omega)
      · rw [if_neg c2, if_neg c2]
theorem pc_lt {n S : Nat} (h10 : n ≤ 10) (hS : S < 2 ^ n) : pc (nI S) ≤ n := by
  have h2 : 2 ^ n ≤ 2 ^ 10 := Nat.pow_le_pow_right (by decide) h10
  unfold pc
  refine ct_le (fun i hi => ?_) 31
  rw [bt_nI]
  rw [Nat.testBit_lt_two_pow (Nat.lt_of_lt_of_le hS (Nat.pow_le_pow_right (by decide) hi)), Bool.and_false]
theorem add_n0 (x : Int32) : x + nI 0 = x := by rw [nI_0, Int32.add_zero]
theorem rl_cnt36 (g : gG) {n : Nat} (hn : gA g 207 3 = nI n) (h10 : n ≤ 10) {F : Nat} (hF : 11000 < F) {S : Nat} (h0 : 0 < S) (hS : S < 2 ^ n) (K : Int32 → Option (Int32 × ab_H)) : fX12_counts_36 F 206 (nI n) (nI S) (nI (pc (nI S) - 1)) (gH g) K F (nI 0) (nI 0) = K (sumI (fun f => if S.testBit f = true ∧ bt (gA g 214 (pc (nI S) - 1)) f = true then gA g 215 (S - 2 ^ f) else nI 0) n) := by
  have h2 : 2 ^ n ≤ 2 ^ 10 := Nat.pow_le_pow_right (by decide) h10
  have p1 := pc_lt h10 hS
  have p0 := pc_pos S (by omega) h0
  refine lp0 (L := fun F' i (a : Int32) => fX12_counts_36 F 206 (nI n) (nI S) (nI (pc (nI S) - 1)) (gH g) K F' a i) (n := n) (fun i => sumI (fun f => if S.testBit f = true ∧ bt (gA g 214 (pc (nI S) - 1)) f = true then gA g 215 (S - 2 ^ f) else nI 0) i) _ ?_ ?_ F (by omega)
  · intro F' i hi
    rw [sumI_S]
    cases c1 : S.testBit i
    · have b1 : bt (nI S) i = false := by rw [bt_nI' (by omega)]; exact c1
      simp (disch := omega) only [fX12_counts_36, fr_206_21, ia_214, fr_206_22, ia_215, bdS, ck_t, ck_T, cb_0, cb_1, ab_jn, if_true, if_false, hi, rf_isOfX, b1, bI_0, add_n0, nI_add, pk_mul, nI_ltI, nI_leI, nI_eq, reduceCtorEq, m1_ne, and_true, true_and, and_false, false_and, not_true_eq_false, not_false_eq_true, ne_eq, decide_true, decide_false, Bool.false_eq_true, ite_true, ite_false, if_true, if_false, Nat.add_zero, Bool.and_true, Bool.true_and, Bool.and_false, Bool.false_and, Bool.or_true, Bool.true_or, Bool.or_false, Bool.false_or, decide_not, Bool.not_true, Bool.not_false, or_true, true_or, or_false, false_or, or_self, and_self, decide_eq_true_eq]
    · have b1 : bt (nI S) i = true := by rw [bt_nI' (by omega)]; exact c1
      obtain ⟨o1, o2, o3⟩ := set_out i (by omega) S (by omega) c1
      have hx : S - 2 ^ i < 1024 := Nat.lt_of_le_of_lt (Nat.sub_le _ _) (by omega)
      cases c2 : bt (gA g 214 (pc (nI S) - 1)) i
      · simp (disch := omega) only [fX12_counts_36, fr_206_21, ia_214, fr_206_22, ia_215, bdS, ck_t, ck_T, cb_0, cb_1, ab_jn, if_true, if_false, hi, rf_isOfX, b1, c2, bI_0, add_n0, nI_add, pk_mul, nI_ltI, nI_leI, nI_eq, reduceCtorEq, m1_ne, and_true, true_and, and_false, false_and, not_true_eq_false, not_false_eq_true, ne_eq, decide_true, decide_false, Bool.false_eq_true, ite_true, ite_false, if_true, if_false, Nat.add_zero, Bool.and_true, Bool.true_and, Bool.and_false, Bool.false_and, Bool.or_true, Bool.true_or, Bool.or_false, Bool.false_or, decide_not, Bool.not_true, Bool.not_false, or_true, true_or, or_false, false_or, or_self, and_self, decide_eq_true_eq]
      · simp (disch := omega) only [fX12_counts_36, fr_206_21, ia_214, fr_206_22, ia_215, bdS, ck_t, ck_T, cb_0, cb_1, ab_jn, if_true, if_false, hi, rf_isOfX, b1, c2, bI_0, sh1, o1, ia_215 g hx, nI_add, pk_mul, nI_ltI, nI_leI, nI_eq, reduceCtorEq, m1_ne, and_true, true_and, and_false, false_and, not_true_eq_false, not_false_eq_true, ne_eq, decide_true, decide_false, Bool.false_eq_true, ite_true, ite_false, if_true, if_false, Nat.add_zero, Bool.and_true, Bool.true_and, Bool.and_false, Bool.false_and, Bool.or_true, Bool.true_or, Bool.or_false, Bool.false_or, decide_not, Bool.not_true, Bool.not_false, or_true, true_or, or_false, false_or, or_self, and_self, decide_eq_true_eq]
  · intro F'
    simp (disch := omega) only [fX12_counts_36, fr_206_21, ia_214, fr_206_22, ia_215, bdS, ck_t, ck_T, cb_0, cb_1, ab_jn, if_true, if_false, Nat.lt_irrefl, nI_add, pk_mul, nI_ltI, nI_leI, nI_eq, reduceCtorEq, m1_ne, and_true, true_and, and_false, false_and, not_true_eq_false, not_false_eq_true, ne_eq, decide_true, decide_false, Bool.false_eq_true, ite_true, ite_false, if_true, if_false, Nat.add_zero, Bool.and_true, Bool.true_and, Bool.and_false, Bool.false_and, Bool.or_true, Bool.true_or, Bool.or_false, Bool.false_or, decide_not, Bool.not_true, Bool.not_false, or_true, true_or, or_false, false_or, or_self, and_self, decide_eq_true_eq]
theorem rf_counts (g : gG) {n : Nat} (hn : gA g 207 3 = nI n) (h10 : n ≤ 10) {F : Nat} (hF : 11000 < F) : fX12_counts F 206 (gH g) = some (ov (gA g 214) n (upd (gA g 215) 0 (nI 1)) (2 ^ n - 1), gH (sA g 215 (tb (gA g 214) n (upd (gA g 215) 0 (nI 1)) (2 ^ n - 1)))) := by
  have h2 : 2 ^ n ≤ 2 ^ 10 := Nat.pow_le_pow_right (by decide) h10
  have h1 : 1 ≤ 2 ^ n := Nat.one_le_two_pow
  have e14 : ¬ (214 = 215) := by omega
  have e7 : ¬ (207 = 215) := by omega
  have s1 := sh1 (k := n) (by omega)
  have r16 : fX12_counts_16 F 206 (nI n) F (nI 1) (gH (sA g 215 (upd (gA g 215) 0 (nI 1)))) = some (ov (gA g 214) n (upd (gA g 215) 0 (nI 1)) (2 ^ n - 1), gH (sA g 215 (tb (gA g 214) n (upd (gA g 215) 0 (nI 1)) (2 ^ n - 1)))) := by
    have h0 := lp0 (L := fun F' i (g : gG) => fX12_counts_16 F 206 (nI n) F' (i + nI 1) (gH g)) (n := 2 ^ n - 1) (fun i => sA g 215 (tb (gA g 214) n (upd (gA g 215) 0 (nI 1)) i)) (some (ov (gA g 214) n (upd (gA g 215) 0 (nI 1)) (2 ^ n - 1), gH (sA g 215 (tb (gA g 214) n (upd (gA g 215) 0 (nI 1)) (2 ^ n - 1))))) ?_ ?_ F (by omega)
    · rw [nI_add] at h0; exact h0
    · intro F' i hi
      have hl : i + 1 < 2 ^ n := by omega
      have p1 := pc_lt h10 hl
      have p0 := pc_pos (i + 1) (by omega) (by omega)
      have ep : nI (pc (nI (i + 1))) - nI 1 = nI (pc (nI (i + 1)) - 1) := pk_sub p0
      have a4 : gA (sA g 215 (tb (gA g 214) n (upd (gA g 215) 0 (nI 1)) i)) 214 = gA g 214 := gA_sA2 _ _ e14
      have n7 : gA (sA g 215 (tb (gA g 214) n (upd (gA g 215) 0 (nI 1)) i)) 207 3 = nI n := by rw [gA_sA2 _ _ e7]; exact hn
      have t := fun K => rl_cnt36 (sA g 215 (tb (gA g 214) n (upd (gA g 215) 0 (nI 1)) i)) n7 h10 hF (S := i + 1) (by omega) hl K
      simp only [a4, gA_sA1] at t
      have et : tb (gA g 214) n (upd (gA g 215) 0 (nI 1)) (i + 1) = upd (tb (gA g 214) n (upd (gA g 215) 0 (nI 1)) i) (i + 1) (sumI (fun f => if (i + 1).testBit f = true ∧ bt (gA g 214 (pc (nI (i + 1)) - 1)) f = true then tb (gA g 214) n (upd (gA g 215) 0 (nI 1)) i (i + 1 - 2 ^ f) else nI 0) n) := rfl
      rw [et]
      simp (disch := omega) only [fX12_counts_16, fr_206_22, ia_215, iw_215, bdS, ck_t, ck_T, cb_0, cb_1, ab_jn, if_true, if_false, s1, hl, rf_bits _ _ hF, ep, t, gA_sA1, sA_sA, nI_add, nI_ltI, if_true]
    · intro F'
      have e2 : nI (2 ^ n) - nI 1 = nI (2 ^ n - 1) := pk_sub h1
      have hnl : ¬ (2 ^ n - 1 + 1 < 2 ^ n) := by omega
      simp (disch := omega) only [fX12_counts_16, fr_206_22, ia_215, iw_215, bdS, ck_t, ck_T, cb_0, cb_1, ab_jn, if_true, if_false, s1, hnl, e2, gA_sA1, nI_add, nI_ltI, if_false]
      rfl
  simp (disch := omega) only [fX12_counts, fr_206_1, ia_207, iw_207, fr_206_22, ia_215, iw_215, bdS, ck_t, ck_T, cb_0, cb_1, ab_jn, if_true, if_false, hn]
  exact r16
