variable {Nq : Nat}
/-! ===== block ===== -/
theorem dea_mono {m : Nat → Int32} {n p : Nat} {S T : Nat → Bool} (h : ∀ o, o < n → S o = true → T o = true) (hd : dea m n S p = true) : dea m n T p = true := by
  obtain ⟨o, ho, e⟩ := exB_t.mp hd
  refine exB_t.mpr ⟨o, ho, ?_⟩
  cases c : S o
  · rw [c] at e; simp at e
  · rw [c, Bool.true_and] at e
    rw [h o ho c, Bool.true_and]; exact e
/-- all of the set want one of the set -/
def Fx (m : Nat → Int32) (n : Nat) (S : Nat → Bool) : Prop := ∀ p, p < n → S p = true → dea m n S p = true
def tR (m : Nat → Int32) (n : Nat) (X : Int32) : Nat → Int32
  | 0 => X
  | i + 1 => nI (st (fun p => bt (tR m n X i) p && dea m n (bt (tR m n X i)) p) n)
theorem tR_S {m : Nat → Int32} {n : Nat} {X : Int32} (h10 : n ≤ 10) (i b : Nat) : bt (tR m n X (i + 1)) b = (decide (b < n) && (bt (tR m n X i) b && dea m n (bt (tR m n X i)) b)) := bt_st (by omega)
theorem tR_sub {m : Nat → Int32} {n : Nat} {X : Int32} (h10 : n ≤ 10) : ∀ i b, bt (tR m n X i) b = true → bt X b = true
  | 0, _, h => h
  | i + 1, b, h => by
    rw [tR_S h10] at h
    refine tR_sub (m := m) h10 i b ?_
    cases c : bt (tR m n X i) b
    · rw [c] at h; simp at h
    · rfl
theorem tR_Fx {m : Nat → Int32} {n : Nat} {X : Int32} (h10 : n ≤ 10) : Fx m n (bt (tR m n X 10)) := by
  have key : ∀ i, Fx m n (bt (tR m n X i)) ∨ fb_ct (bt (tR m n X i)) n + i ≤ fb_ct (bt X) n := by
    intro i
    induction i with
    | zero => exact Or.inr (Nat.le_refl _)
    | succ i ih =>
      have fixed : Fx m n (bt (tR m n X i)) → Fx m n (bt (tR m n X (i + 1))) := by
        intro h p hp hb
        have same : ∀ q, q < n → bt (tR m n X (i + 1)) q = bt (tR m n X i) q := fun q hq => by
          rw [tR_S h10, decide_eq_true hq, Bool.true_and]
          cases c : bt (tR m n X i) q
          · rfl
          · rw [h q hq c]; rfl
        rw [same p hp] at hb
        exact dea_mono (fun o ho h => by rw [same o ho]; exact h) (h p hp hb)
      rcases ih with h | h
      · exact Or.inl (fixed h)
      · by_cases c : ∃ p, p < n ∧ bt (tR m n X i) p = true ∧ dea m n (bt (tR m n X i)) p = false
        · obtain ⟨p, hp, h1, h2⟩ := c
          right
          have := ct_lt (P := bt (tR m n X (i + 1))) (Q := bt (tR m n X i)) (n := n) (b := p) (fun q hq hb => by
            rw [tR_S h10] at hb
            cases c : bt (tR m n X i) q
            · rw [c] at hb; simp at hb
            · rfl) hp (by rw [tR_S h10, h2]; simp) h1
          omega
        · left
          refine fixed (fun p hp hb => ?_)
          cases h2 : dea m n (bt (tR m n X i)) p
          · exact absurd ⟨p, hp, hb, h2⟩ c
          · rfl
  rcases key 10 with h | h
  · exact h
  · have h1 := fb_ct_le (bt X) n
    have h2 : fb_ct (bt (tR m n X 10)) n = 0 := by omega
    intro p hp hb
    have := fb_ct_zero.mp h2 p hp
    rw [this] at hb; cases hb
theorem tR_all {m : Nat → Int32} {n : Nat} {X : Int32} (h10 : n ≤ 10) {Z : Nat → Bool} (hZ : Fx m n Z) (hs : ∀ p, p < n → Z p = true → bt X p = true) : ∀ i p, p < n → Z p = true → bt (tR m n X i) p = true
  | 0, p, hp, h => hs p hp h
  | i + 1, p, hp, h => by
    rw [tR_S h10, decide_eq_true hp, tR_all h10 hZ hs i p hp h, dea_mono (fun o ho h' => tR_all h10 hZ hs i o ho h') (hZ p hp h)]; rfl
theorem cl_dring18 {g : gG} {x : Nat} {m : Nat → Int32} {n k : Nat} (V : Sv g x m n k) {F : Nat} (hF : 11000 < F) (I : Ix m n) (i1 : ∀ p, p < n → m (12 + 6 * p + 2) = -1 ∨ ∃ j, j < n ∧ m (12 + 6 * p + 2) = nI j) (i2 : ∀ p q, p < n → q < n → m (12 + 6 * p + 2) = m (12 + 6 * q + 2) → m (12 + 6 * p + 2) = -1 ∨ p = q) (y z : Int32) (hy : ∀ o, o < n → bt y o = true → ¬ m (12 + 6 * o + 2) = -1) (K : Int32 → Option Int32) : fX5_hasDearerRing_18 F x y z (gH g) K F (nI 0) (nI 0) = K (nI (st (fun p => bt y p && dea m n (bt y) p) n)) := by
  have W := V
  obtain ⟨hx, hn, h10, hk, h12, e3, e4, e5, e6, e7, e8, e11, e9, e10⟩ := W
  refine lp0 (L := fun F' i (a : Int32) => fX5_hasDearerRing_18 F x y z (gH g) K F' a i) (n := n) (fun i => nI (st (fun p => bt y p && dea m n (bt y) p) i)) _ ?_ ?_ F (by omega)
  · intro F' i hi
    cases c : bt y i
    · simp (disch := first | omega | assumption | exact isSt6 | exact isSt18 | exact isSt30) only [fX5_hasDearerRing_18, fi_s0, bdS, ck_t, ck_T, cb_0, cb_1, ab_jn, if_true, if_false, hn, hi, cl_hasX, c, bI_0, st, nI_add, pk_mul, nI_ltI, nI_leI, nI_eq, reduceCtorEq, m1_ne, and_true, true_and, and_false, false_and, not_true_eq_false, not_false_eq_true, ne_eq, decide_true, decide_false, Bool.false_eq_true, ite_true, ite_false, if_true, if_false, Nat.add_zero, Bool.and_true, Bool.true_and, Bool.and_false, Bool.false_and, Bool.or_true, Bool.true_or, Bool.or_false, Bool.false_or, decide_not, Bool.not_true, Bool.not_false, or_true, true_or, or_false, false_or, or_self, and_self, decide_eq_true_eq]
    · have wa := cl_wantsAny V hF I i1 i2 hi y hy c
      cases cd : dea m n (bt y) i <;> rw [cd] at wa <;>
      simp (disch := first | omega | assumption | exact isSt6 | exact isSt18 | exact isSt30) only [fX5_hasDearerRing_18, fi_s0, bdS, ck_t, ck_T, cb_0, cb_1, ab_jn, if_true, if_false, hn, hi, cl_hasX, c, cd, wa, bI_0, sh1, st, or_st, nI_add, pk_mul, nI_ltI, nI_leI, nI_eq, reduceCtorEq, m1_ne, and_true, true_and, and_false, false_and, not_true_eq_false, not_false_eq_true, ne_eq, decide_true, decide_false, Bool.false_eq_true, ite_true, ite_false, if_true, if_false, Nat.add_zero, Bool.and_true, Bool.true_and, Bool.and_false, Bool.false_and, Bool.or_true, Bool.true_or, Bool.or_false, Bool.false_or, decide_not, Bool.not_true, Bool.not_false, or_true, true_or, or_false, false_or, or_self, and_self, decide_eq_true_eq]
  · intro F'
    simp (disch := first | omega | assumption | exact isSt6 | exact isSt18 | exact isSt30) only [fX5_hasDearerRing_18, fi_s0, bdS, ck_t, ck_T, cb_0, cb_1, ab_jn, if_true, if_false, hn, Nat.lt_irrefl, nI_add, pk_mul, nI_ltI, nI_leI, nI_eq, reduceCtorEq, m1_ne, and_true, true_and, and_false, false_and, not_true_eq_false, not_false_eq_true, ne_eq, decide_true, decide_false, Bool.false_eq_true, ite_true, ite_false, if_true, if_false, Nat.add_zero, Bool.and_true, Bool.true_and, Bool.and_false, Bool.false_and, Bool.or_true, Bool.true_or, Bool.or_false, Bool.false_or, decide_not, Bool.not_true, Bool.not_false, or_true, true_or, or_false, false_or, or_self, and_self, decide_eq_true_eq]
theorem cl_dring {g : gG} {x : Nat} {m : Nat → Int32} {n k : Nat} (V : Sv g x m n k) {F : Nat} (hF : 11000 < F) (I : Ix m n) (i1 : ∀ p, p < n → m (12 + 6 * p + 2) = -1 ∨ ∃ j, j < n ∧ m (12 + 6 * p + 2) = nI j) (i2 : ∀ p q, p < n → q < n → m (12 + 6 * p + 2) = m (12 + 6 * q + 2) → m (12 + 6 * p + 2) = -1 ∨ p = q) (X : Int32) (hy : ∀ o, o < n → bt X o = true → ¬ m (12 + 6 * o + 2) = -1) : fX5_hasDearerRing F 203 x X (gH g) = some (bI (!decide (tR m n X 10 = 0))) := by
  have h10 := V.2.2.1
  unfold fX5_hasDearerRing
  refine lp0 (L := fun F' i (a : Int32) => fX5_hasDearerRing_5 F x (gH g) (fun (z9 : Int32) => (if z9 = 0 then some (nI 0) else some (nI 1))) F' a i) (n := 10) (fun i => tR m n X i) _ ?_ ?_ F (by omega)
  · intro F' i hi
    have t := cl_dring18 V hF I i1 i2 (tR m n X i) (nI i) (fun o ho hb => hy o ho (tR_sub h10 i o hb)) (fun (z8 : Int32) => fX5_hasDearerRing_5 F x (gH g) (fun (z9 : Int32) => (if z9 = 0 then some (nI 0) else some (nI 1))) F' z8 (nI i + nI 1))
    simp (disch := omega) only [fX5_hasDearerRing_5, bdS, ck_t, ck_T, cb_0, cb_1, ab_jn, if_true, if_false, hi, nI_ltI, if_true, t]
    rw [nI_add]; rfl
  · intro F'
    simp (disch := omega) only [fX5_hasDearerRing_5, bdS, ck_t, ck_T, cb_0, cb_1, ab_jn, if_true, if_false, Nat.lt_irrefl, nI_ltI, if_false]
    by_cases c : tR m n X 10 = 0 <;> simp [c, bI]
def pas (m : Nat → Int32) (n : Nat) (S : Int32) : Nat → Int32 × Int32 := it (fun p a => if bt a.1 p = true ∧ dea m n (bt a.1) p = false then (a.1 &&& (nI (2 ^ p) ^^^ (-1)), nI 1) else a) (S, nI 0)
theorem pas_S (m : Nat → Int32) (n : Nat) (S : Int32) (p : Nat) : pas m n S (p + 1) = if bt (pas m n S p).1 p = true ∧ dea m n (bt (pas m n S p).1) p = false then ((pas m n S p).1 &&& (nI (2 ^ p) ^^^ (-1)), nI 1) else pas m n S p := rfl
theorem rem_bt (x : Int32) {p b : Nat} (hp : p < 31) (hb : b < 32) : bt (x &&& (nI (2 ^ p) ^^^ (-1))) b = (bt x b && !decide (b = p)) := by
  rw [b_and, b_not _ hb, bt_nI' hb, Nat.testBit_two_pow]
  congr 2
  by_cases c : b = p
  · simp [c]
  · simp [c]; omega
theorem pas_ok {m : Nat → Int32} {n : Nat} (h10 : n ≤ 10) (S : Int32) : ∀ i, i ≤ n → (∀ b, b < 32 → bt (pas m n S i).1 b = true → bt S b = true) ∧
  ((pas m n S i).2 = nI 0 ∧ (pas m n S i).1 = S ∧ (∀ p, p < i → bt S p = true → dea m n (bt S) p = true) ∨ (pas m n S i).2 = nI 1 ∧ fb_ct (bt (pas m n S i).1) n + 1 ≤ fb_ct (bt S) n) ∧
  (∀ Z : Nat → Bool, Fx m n Z → (∀ p, p < n → Z p = true → bt S p = true) → ∀ p, p < n → Z p = true → bt (pas m n S i).1 p = true) := by
  intro i
  induction i with
  | zero => intro _; exact ⟨fun b _ h => h, Or.inl ⟨rfl, rfl, fun p hp => absurd hp (Nat.not_lt_zero p)⟩, fun Z _ hs p hp h => hs p hp h⟩
  | succ i ih =>
    intro hi
    obtain ⟨a1, a2, a3⟩ := ih (by omega)
    rw [pas_S]
    by_cases c : bt (pas m n S i).1 i = true ∧ dea m n (bt (pas m n S i).1) i = false
    · rw [if_pos c]
      have hb : ∀ b, b < 32 → bt ((pas m n S i).1 &&& (nI (2 ^ i) ^^^ (-1))) b = (bt (pas m n S i).1 b && !decide (b = i)) := fun b hb => rem_bt _ (by omega) hb
      refine ⟨fun b hb' h => ?_, Or.inr ⟨rfl, ?_⟩, fun Z hZ hs p hp h => ?_⟩
      · refine a1 b hb' ?_
        have h : bt ((pas m n S i).1 &&& (nI (2 ^ i) ^^^ (-1))) b = true := h
        rw [hb b hb'] at h
        cases cb : bt (pas m n S i).1 b
        · rw [cb] at h; simp at h
        · rfl
      · have l1 := ct_lt (P := bt ((pas m n S i).1 &&& (nI (2 ^ i) ^^^ (-1)))) (Q := bt (pas m n S i).1) (n := n) (b := i) (fun q hq h => by
          rw [hb q (by omega)] at h
          cases cb : bt (pas m n S i).1 q
          · rw [cb] at h; simp at h
          · rfl) (by omega) (by rw [hb i (by omega)]; simp) c.1
        show fb_ct (bt ((pas m n S i).1 &&& (nI (2 ^ i) ^^^ (-1)))) n + 1 ≤ _
        rcases a2 with ⟨_, e, _⟩ | ⟨_, e⟩
        · rw [e] at l1 ⊢; exact l1
        · omega
      · show bt ((pas m n S i).1 &&& (nI (2 ^ i) ^^^ (-1))) p = true
        rw [hb p (by omega), a3 Z hZ hs p hp h, Bool.true_and]
        by_cases cp : p = i
        · subst cp
          have := dea_mono (m := m) (T := bt (pas m n S p).1) (fun o ho h' => a3 Z hZ hs o ho h') (hZ p hp h)
          rw [c.2] at this; cases this
        · simp [cp]
    · rw [if_neg c]
      refine ⟨a1, ?_, a3⟩
      rcases a2 with ⟨e1, e2, e3⟩ | e
      · refine Or.inl ⟨e1, e2, fun p hp h => ?_⟩
        by_cases cp : p = i
        · subst cp
          cases hd : dea m n (bt S) p
          · rw [e2] at c; exact absurd ⟨h, hd⟩ c
          · rfl
        · exact e3 p (by omega) h
      · exact Or.inr e
theorem rl_block101 (g : gG) {n : Nat} (hn : gA g 207 3 = nI n) (h10 : n ≤ 10) {F : Nat} (hF : 11000 < F) (I : Ix (gA g 207) n) (i1 : ∀ p, p < n → gA g 207 (12 + 6 * p + 2) = -1 ∨ ∃ j, j < n ∧ gA g 207 (12 + 6 * p + 2) = nI j) (S : Int32) (hx : ∀ o, o < n → bt S o = true → ¬ gA g 207 (12 + 6 * o + 2) = -1) (K : Int32 → Int32 → Option (Int32 × ab_H)) : fX12_block_101 F 206 (gH g) K F S (nI 0) (nI 0) = K (pas (gA g 207) n S n).1 (pas (gA g 207) n S n).2 := by
  refine lp0 (L := fun F' i (a : Int32 × Int32) => fX12_block_101 F 206 (gH g) K F' a.1 a.2 i) (n := n) (fun i => pas (gA g 207) n S i) _ ?_ ?_ F (by omega)
  · intro F' i hi
    obtain ⟨a1, _, _⟩ := pas_ok (m := gA g 207) h10 S i (by omega)
    rw [pas_S]
    cases c : bt (pas (gA g 207) n S i).1 i
    · rw [if_neg (by simp)]
      simp (disch := omega) only [fX12_block_101, io_206, fr_206_1, ia_207, bdS, ck_t, ck_T, cb_0, cb_1, ab_jn, if_true, if_false, hn, hi, rf_isOfX, c, bI_0, nI_add, pk_mul, nI_ltI, nI_leI, nI_eq, reduceCtorEq, m1_ne, and_true, true_and, and_false, false_and, not_true_eq_false, not_false_eq_true, ne_eq, decide_true, decide_false, Bool.false_eq_true, ite_true, ite_false, if_true, if_false, Nat.add_zero, Bool.and_true, Bool.true_and, Bool.and_false, Bool.false_and, Bool.or_true, Bool.true_or, Bool.or_false, Bool.false_or, decide_not, Bool.not_true, Bool.not_false, or_true, true_or, or_false, false_or, or_self, and_self, decide_eq_true_eq]
    · have hd := rf_hasDearer g hn h10 hF I i1 hi (pas (gA g 207) n S i).1 (fun o ho hb => hx o ho (a1 o (by omega) hb)) c
      cases cd : dea (gA g 207) n (bt (pas (gA g 207) n S i).1) i
      · rw [if_pos ⟨rfl, rfl⟩]
        rw [cd] at hd
        simp (disch := omega) only [fX12_block_101, io_206, fr_206_1, ia_207, bdS, ck_t, ck_T, cb_0, cb_1, ab_jn, if_true, if_false, hn, hi, rf_isOfX, c, hd, sh1, bI_0, nI_add, pk_mul, nI_ltI, nI_leI, nI_eq, reduceCtorEq, m1_ne, and_true, true_and, and_false, false_and, not_true_eq_false, not_false_eq_true, ne_eq, decide_true, decide_false, Bool.false_eq_true, ite_true, ite_false, if_true, if_false, Nat.add_zero, Bool.and_true, Bool.true_and, Bool.and_false, Bool.false_and, Bool.or_true, Bool.true_or, Bool.or_false, Bool.false_or, decide_not, Bool.not_true, Bool.not_false, or_true, true_or, or_false, false_or, or_self, and_self, decide_eq_true_eq]
      · rw [if_neg (by simp)]
        rw [cd] at hd
        simp (disch := omega) only [fX12_block_101, io_206, fr_206_1, ia_207, bdS, ck_t, ck_T, cb_0, cb_1, ab_jn, if_true, if_false, hn, hi, rf_isOfX, c, hd, bI_0, nI_add, pk_mul, nI_ltI, nI_leI, nI_eq, reduceCtorEq, m1_ne, and_true, true_and, and_false, false_and, not_true_eq_false, not_false_eq_true, ne_eq, decide_true, decide_false, Bool.false_eq_true, ite_true, ite_false, if_true, if_false, Nat.add_zero, Bool.and_true, Bool.true_and, Bool.and_false, Bool.false_and, Bool.or_true, Bool.true_or, Bool.or_false, Bool.false_or, decide_not, Bool.not_true, Bool.not_false, or_true, true_or, or_false, false_or, or_self, and_self, decide_eq_true_eq]
  · intro F'
    simp (disch := omega) only [fX12_block_101, io_206, fr_206_1, ia_207, bdS, ck_t, ck_T, cb_0, cb_1, ab_jn, if_true, if_false, hn, Nat.lt_irrefl, nI_add, pk_mul, nI_ltI, nI_leI, nI_eq, reduceCtorEq, m1_ne, and_true, true_and, and_false, false_and, not_true_eq_false, not_false_eq_true, ne_eq, decide_true, decide_false, Bool.false_eq_true, ite_true, ite_false, if_true, if_false, Nat.add_zero, Bool.and_true, Bool.true_and, Bool.and_false, Bool.false_and, Bool.or_true, Bool.true_or, Bool.or_false, Bool.false_or, decide_not, Bool.not_true, Bool.not_false, or_true, true_or, or_false, false_or, or_self, and_self, decide_eq_true_eq]
theorem rl_block90 (g : gG) {n : Nat} (hn : gA g 207 3 = nI n) (h10 : n ≤ 10) {F : Nat} (hF : 11000 < F) (I : Ix (gA g 207) n) (i1 : ∀ p, p < n → gA g 207 (12 + 6 * p + 2) = -1 ∨ ∃ j, j < n ∧ gA g 207 (12 + 6 * p + 2) = nI j) (K : Int32 → Option (Int32 × ab_H)) : ∀ (c : Nat) (S : Int32) (F' : Nat), fb_ct (bt S) n ≤ c → c + 2 < F' → (∀ o, o < n → bt S o = true → ¬ gA g 207 (12 + 6 * o + 2) = -1) → ∃ Z, fX12_block_90 F 206 (gH g) K F' S (nI 1) = K Z ∧ (∀ b, b < 32 → bt Z b = true → bt S b = true) ∧ Fx (gA g 207) n (bt Z) ∧ (∀ Y : Nat → Bool, Fx (gA g 207) n Y → (∀ p, p < n → Y p = true → bt S p = true) → ∀ p, p < n → Y p = true → bt Z p = true) := by
  intro c
  induction c with
  | zero =>
    intro S F' hc hF' hx
    obtain ⟨F1, rfl⟩ : ∃ F1, F' = F1 + 2 := ⟨F' - 2, by omega⟩
    obtain ⟨a1, a2, a3⟩ := pas_ok (m := gA g 207) h10 S n (Nat.le_refl n)
    rcases a2 with ⟨e1, e2, e3⟩ | ⟨_, e⟩
    · refine ⟨S, ?_, fun b _ h => h, fun p hp h => e3 p hp h, fun Y hY hs p hp h => hs p hp h⟩
      rw [fX12_block_90, if_neg (nI_ne0 (by decide) (by decide)), rl_block101 g hn h10 hF I i1 S hx, e1, e2, fX12_block_90, if_pos nI_0]
    · omega
  | succ c ih =>
    intro S F' hc hF' hx
    obtain ⟨F1, rfl⟩ : ∃ F1, F' = F1 + 2 := ⟨F' - 2, by omega⟩
    obtain ⟨a1, a2, a3⟩ := pas_ok (m := gA g 207) h10 S n (Nat.le_refl n)
    rcases a2 with ⟨e1, e2, e3⟩ | ⟨e1, e⟩
    · refine ⟨S, ?_, fun b _ h => h, fun p hp h => e3 p hp h, fun Y hY hs p hp h => hs p hp h⟩
      rw [fX12_block_90, if_neg (nI_ne0 (by decide) (by decide)), rl_block101 g hn h10 hF I i1 S hx, e1, e2, fX12_block_90, if_pos nI_0]
    · obtain ⟨Z, z1, z2, z3, z4⟩ := ih (pas (gA g 207) n S n).1 (F1 + 1) (by omega) (by omega) (fun o ho hb => hx o ho (a1 o (by omega) hb))
      refine ⟨Z, ?_, fun b hb h => a1 b hb (z2 b hb h), z3, fun Y hY hs p hp h => z4 Y hY (fun q hq h' => a3 Y hY hs q hq h') p hp h⟩
      rw [fX12_block_90, if_neg (nI_ne0 (by decide) (by decide)), rl_block101 g hn h10 hF I i1 S hx, e1]
      exact z1
theorem rl_block18 (g : gG) {n : Nat} (hn : gA g 207 3 = nI n) (h10 : n ≤ 10) {F : Nat} (hF : 11000 < F) (X : Int32) (K : Int32 → Option (Int32 × ab_H)) : fX12_block_18 F 206 X (gH g) K F (nI 1) (nI 0) = K (bI (!exB (fun p => bt X p && decide (gA g 207 (12 + 6 * p + 2) = -1)) n)) := by
  have h0 := lp0 (L := fun F' i (a : Int32) => fX12_block_18 F 206 X (gH g) K F' a i) (n := n) (fun i => bI (!exB (fun p => bt X p && decide (gA g 207 (12 + 6 * p + 2) = -1)) i)) (K (bI (!exB (fun p => bt X p && decide (gA g 207 (12 + 6 * p + 2) = -1)) n))) ?_ ?_ F (by omega)
  · rw [exB_0] at h0; exact h0
  · intro F' i hi
    rw [exB_S]
    cases c : exB (fun p => bt X p && decide (gA g 207 (12 + 6 * p + 2) = -1)) i <;> cases cb : bt X i <;> by_cases cw : gA g 207 (12 + 6 * i + 2) = -1 <;>
    simp (disch := omega) only [fX12_block_18, io_206, fr_206_1, ia_207, bdS, ck_t, ck_T, cb_0, cb_1, ab_jn, if_true, if_false, hn, hi, rf_isOfX, rf_of, cb, cw, bI_0, nI_add, pk_mul, nI_ltI, nI_leI, nI_eq, reduceCtorEq, m1_ne, and_true, true_and, and_false, false_and, not_true_eq_false, not_false_eq_true, ne_eq, decide_true, decide_false, Bool.false_eq_true, ite_true, ite_false, if_true, if_false, Nat.add_zero, Bool.and_true, Bool.true_and, Bool.and_false, Bool.false_and, Bool.or_true, Bool.true_or, Bool.or_false, Bool.false_or, decide_not, Bool.not_true, Bool.not_false, or_true, true_or, or_false, false_or, or_self, and_self, decide_eq_true_eq] <;> rfl
  · intro F'
    simp (disch := omega) only [fX12_block_18, io_206, fr_206_1, ia_207, bdS, ck_t, ck_T, cb_0, cb_1, ab_jn, if_true, if_false, hn, Nat.lt_irrefl, nI_add, pk_mul, nI_ltI, nI_leI, nI_eq, reduceCtorEq, m1_ne, and_true, true_and, and_false, false_and, not_true_eq_false, not_false_eq_true, ne_eq, decide_true, decide_false, Bool.false_eq_true, ite_true, ite_false, if_true, if_false, Nat.add_zero, Bool.and_true, Bool.true_and, Bool.and_false, Bool.false_and, Bool.or_true, Bool.true_or, Bool.or_false, Bool.false_or, decide_not, Bool.not_true, Bool.not_false, or_true, true_or, or_false, false_or, or_self, and_self, decide_eq_true_eq]
theorem cl_block16 {g : gG} {m : Nat → Int32} {n k : Nat} (V : Sv g 6 m n k) {F : Nat} (hF : 11000 < F) (X : Int32) (K1 K2 : Option (Int32 ⊕ String)) : fX11_block_16 F 0 X (gH g) K1 K2 F (nI 0) = if exB (fun p => bt X p && decide (m (12 + 6 * p + 2) = -1)) n = true then K1 else K2 := by
  have W := V
  obtain ⟨hx, hn, h10, hk, h12, e3, e4, e5, e6, e7, e8, e11, e9, e10⟩ := W
  refine lpx (L := fun F' i (_ : Unit) => fX11_block_16 F 0 X (gH g) K1 K2 F' i) (n := n) (fun _ => ()) (fun p => (bt X p && decide (m (12 + 6 * p + 2) = -1)) = true) _ ?_ ?_ ?_ F (by omega)
  · intro F' i hi _ hE
    have q5 := e5 i hi
    cases cb : bt X i
    · simp (disch := first | omega | assumption | exact isSt6 | exact isSt18 | exact isSt30) only [fX11_block_16, fr_0_1, fi_s0, fr_s11, ia_s5, bdS, ck_t, ck_T, cb_0, cb_1, ab_jn, if_true, if_false, fi_s0, hn, hi, cl_hasX, cb, bI_0, nI_add, pk_mul, nI_ltI, nI_leI, nI_eq, reduceCtorEq, m1_ne, and_true, true_and, and_false, false_and, not_true_eq_false, not_false_eq_true, ne_eq, decide_true, decide_false, Bool.false_eq_true, ite_true, ite_false, if_true, if_false, Nat.add_zero, Bool.and_true, Bool.true_and, Bool.and_false, Bool.false_and, Bool.or_true, Bool.true_or, Bool.or_false, Bool.false_or, decide_not, Bool.not_true, Bool.not_false, or_true, true_or, or_false, false_or, or_self, and_self, decide_eq_true_eq]
    · have cw : ¬ m (12 + 6 * i + 2) = -1 := by rw [cb] at hE; simpa using hE
      simp (disch := first | omega | assumption | exact isSt6 | exact isSt18 | exact isSt30) only [fX11_block_16, fr_0_1, fi_s0, fr_s11, ia_s5, bdS, ck_t, ck_T, cb_0, cb_1, ab_jn, if_true, if_false, fi_s0, fr_s11, ia_s5, hn, hi, cl_hasX, cb, q5, cw, bI_0, nI_add, pk_mul, nI_ltI, nI_leI, nI_eq, reduceCtorEq, m1_ne, and_true, true_and, and_false, false_and, not_true_eq_false, not_false_eq_true, ne_eq, decide_true, decide_false, Bool.false_eq_true, ite_true, ite_false, if_true, if_false, Nat.add_zero, Bool.and_true, Bool.true_and, Bool.and_false, Bool.false_and, Bool.or_true, Bool.true_or, Bool.or_false, Bool.false_or, decide_not, Bool.not_true, Bool.not_false, or_true, true_or, or_false, false_or, or_self, and_self, decide_eq_true_eq]
  · intro F' i hi hj hE
    have q5 := e5 i hi
    rw [exB_at (P := fun p => bt X p && decide (m (12 + 6 * p + 2) = -1)) hi hE hj, if_pos rfl]
    cases cb : bt X i
    · rw [cb] at hE; simp at hE
    · have cw : m (12 + 6 * i + 2) = -1 := by rw [cb] at hE; simpa using hE
      simp (disch := first | omega | assumption | exact isSt6 | exact isSt18 | exact isSt30) only [fX11_block_16, fr_0_1, fi_s0, fr_s11, ia_s5, bdS, ck_t, ck_T, cb_0, cb_1, ab_jn, if_true, if_false, fi_s0, fr_s11, ia_s5, hn, hi, cl_hasX, cb, q5, cw, bI_0, nI_add, pk_mul, nI_ltI, nI_leI, nI_eq, reduceCtorEq, m1_ne, and_true, true_and, and_false, false_and, not_true_eq_false, not_false_eq_true, ne_eq, decide_true, decide_false, Bool.false_eq_true, ite_true, ite_false, if_true, if_false, Nat.add_zero, Bool.and_true, Bool.true_and, Bool.and_false, Bool.false_and, Bool.or_true, Bool.true_or, Bool.or_false, Bool.false_or, decide_not, Bool.not_true, Bool.not_false, or_true, true_or, or_false, false_or, or_self, and_self, decide_eq_true_eq]
  · intro F' hj
    rw [exB_no (P := fun p => bt X p && decide (m (12 + 6 * p + 2) = -1)) hj]
    simp (disch := first | omega | assumption | exact isSt6 | exact isSt18 | exact isSt30) only [fX11_block_16, fr_0_1, fi_s0, fr_s11, ia_s5, bdS, ck_t, ck_T, cb_0, cb_1, ab_jn, if_true, if_false, fi_s0, hn, Nat.lt_irrefl, nI_add, pk_mul, nI_ltI, nI_leI, nI_eq, reduceCtorEq, m1_ne, and_true, true_and, and_false, false_and, not_true_eq_false, not_false_eq_true, ne_eq, decide_true, decide_false, Bool.false_eq_true, ite_true, ite_false, if_true, if_false, Nat.add_zero, Bool.and_true, Bool.true_and, Bool.and_false, Bool.false_and, Bool.or_true, Bool.true_or, Bool.or_false, Bool.false_or, decide_not, Bool.not_true, Bool.not_false, or_true, true_or, or_false, false_or, or_self, and_self, decide_eq_true_eq]
theorem cq_block {g : gG} (R : RE Nq g) (x : Int32) {F : Nat} (hF : 11000 < F) : Cq Nq g (fX11_block F 0 x (gH g)) (fun g => fX12_block F 206 x (gH g)) [eSt] := by
  have R0 := R; obtain ⟨n, k, s, f, R⟩ := R
  have V := R.1.1
  obtain ⟨rn, h10, rk, h12⟩ := R.rv
  have hn := V.2.1
  have I := R.1.i
  have i1 := R.1.w.1
  have i2 := R.1.w.2.1
  have h2n : 1 ≤ 2 ^ n := Nat.one_le_two_pow
  have h3 : 2 ^ n ≤ 2 ^ 10 := Nat.pow_le_pow_right (by decide) h10
  have hX : ∀ i, i < 32 → bt (x &&& (nI (2 ^ n) - nI 1)) i = (bt x i && decide (i < n)) := fun i hi => by
    rw [b_and, pk_sub h2n, bt_nI' hi, Nat.testBit_two_pow_sub_one]
  obtain ⟨X, eX⟩ : ∃ X, X = x &&& (nI (2 ^ n) - nI 1) := ⟨_, rfl⟩
  rw [← eX] at hX
  have s1 := sh1 (k := n) (by omega)
  refine Cq_of R0 ?_
  cases c : exB (fun p => bt X p && decide (gA g 207 (12 + 6 * p + 2) = -1)) n
  · have hy : ∀ o, o < n → bt X o = true → ¬ gA g 207 (12 + 6 * o + 2) = -1 := fun o ho hb e => by
      have := exB_f.mp c o ho
      rw [hb, e] at this; simp at this
    obtain ⟨Z, z1, z2, z3, z4⟩ := rl_block90 (sF g 206 0 (nI 0)) rn h10 hF I i1 (fun (z26 : Int32) => (if z26 = 0 then some (nI 0, gH (sF g 206 0 (nI 0))) else some (nI 1, gH (sF g 206 0 (nI 0))))) 10 X F (Nat.le_trans (fb_ct_le _ _) h10) (by omega) hy
    have z3 : Fx (gA g 207) n (bt Z) := z3
    have z4 : ∀ Y : Nat → Bool, Fx (gA g 207) n Y → (∀ p, p < n → Y p = true → bt X p = true) → ∀ p, p < n → Y p = true → bt Z p = true := z4
    have eZ : Z = tR (gA g 207) n X 10 := by
      apply b_ext
      intro b hb
      by_cases cb : b < n
      · cases c1 : bt Z b
        · cases c2 : bt (tR (gA g 207) n X 10) b
          · rfl
          · have := z4 _ (tR_Fx h10) (fun p _ h => tR_sub h10 10 p h) b cb c2
            rw [c1] at this; cases this
        · exact (tR_all h10 z3 (fun p hp h => z2 p (by omega) h) 10 b cb c1).symm
      · have n1 : bt X b = false := by rw [hX b hb, decide_eq_false cb, Bool.and_false]
        cases c1 : bt Z b
        · cases c2 : bt (tR (gA g 207) n X 10) b
          · rfl
          · have := tR_sub h10 10 b c2; rw [n1] at this; cases this
        · have := z2 b hb c1; rw [n1] at this; cases this
    apply ag_ok (v := bI (!decide (tR (gA g 207) n X 10 = 0)))
    · have d := cl_dring V hF I i1 i2 X hy
      simp (disch := first | omega | assumption | exact isSt6 | exact isSt18 | exact isSt30) only [fX11_block, io_203, fr_0_1, fi_s0, fr_0_8, bdS, ck_t, ck_T, cb_0, cb_1, ab_jn, if_true, if_false, fi_s0, hn, s1, ← eX, cl_block16 V hF, c, d, cb_b, if_false, Bool.false_eq_true]
    · rw [eZ] at z1
      have b18 := fun K => rl_block18 g rn h10 hF X K
      rw [c] at b18
      simp (disch := first | omega | assumption | exact isSt6 | exact isSt18 | exact isSt30) only [fX12_block, fr_206_1, ia_207, fw_206_0, fi_206_0, bdS, ck_t, ck_T, cb_0, cb_1, ab_jn, if_true, if_false, rn, s1, ← eX, b18, bI_0, gF_sF1, upd_1, nI00, z1, Bool.not_false, reduceCtorEq, if_true, if_false]
      by_cases c0 : tR (gA g 207) n X 10 = 0 <;> simp [c0, bI]
  · refine ⟨.inr eSt, nI 0, nI 1, ?_, ?_, 0, by decide, rfl, rfl⟩
    · simp (disch := first | omega | assumption | exact isSt6 | exact isSt18 | exact isSt30) only [fX11_block, io_203, fr_0_1, fi_s0, fr_0_8, bdS, ck_t, ck_T, cb_0, cb_1, ab_jn, if_true, if_false, fi_s0, hn, s1, ← eX, cl_block16 V hF, c, if_true]; rfl
    · have b18 := fun K => rl_block18 g rn h10 hF X K
      rw [c] at b18
      simp (disch := first | omega | assumption | exact isSt6 | exact isSt18 | exact isSt30) only [fX12_block, fr_206_1, ia_207, fw_206_0, fi_206_0, bdS, ck_t, ck_T, cb_0, cb_1, ab_jn, if_true, if_false, rn, s1, ← eX, b18, bI_0, gF_sF1, upd_1, nI10, Bool.not_true, if_true, if_false]
