variable {Nq : Nat}
/-! ===== what to ask next ===== -/
def fc : Nat → Nat
  | 0 => 1
  | k + 1 => (k + 1) * fc k
theorem fc_le : ∀ k, k < 11 → fc k ≤ 3628800 := by decide
def bc (S : Nat) : Nat → Nat
  | 0 => 0
  | i + 1 => bc S i + (if S.testBit i = true then 1 else 0)
theorem bc_pc : ∀ S, S < 1024 → bc S 10 ≤ pc (nI S) := by decide +kernel
theorem bc_mono (S i : Nat) : ∀ d, bc S i ≤ bc S (i + d)
  | 0 => Nat.le_refl _
  | d + 1 => Nat.le_trans (bc_mono S i d) (Nat.le_add_right _ _)
theorem sumI_b {h : Nat → Int32} {S B : Nat} (hB : 10 * B < 2 ^ 31) (hh : ∀ f, f < 10 → ∃ v, h f = nI v ∧ v ≤ (if S.testBit f = true then B else 0)) : ∀ i, i ≤ 10 → bc S i ≤ i ∧ ∃ v, sumI h i = nI v ∧ v ≤ bc S i * B
  | 0, _ => ⟨Nat.le_refl _, 0, rfl, Nat.zero_le _⟩
  | i + 1, hi => by
    obtain ⟨a, v, e, b⟩ := sumI_b hB hh i (by omega)
    obtain ⟨w, e2, b2⟩ := hh i (by omega)
    have k : bc S i * B ≤ i * B := Nat.mul_le_mul_right _ a
    have k2 : i * B ≤ 9 * B := Nat.mul_le_mul_right _ (by omega)
    refine ⟨?_, v + w, ?_, ?_⟩
    · show bc S i + _ ≤ _
      split <;> omega
    · rw [sumI_S, e, e2, nI_add]
    · show _ ≤ (bc S i + _) * B
      rw [Nat.add_mul]
      by_cases c : S.testBit i = true
      · rw [if_pos c] at b2 ⊢; omega
      · rw [if_neg c] at b2 ⊢; omega
theorem ov_b {al : Nat → Int32} {n : Nat} (h10 : n ≤ 10) : ∀ S, S < 2 ^ n → ∃ v, ov al n (fun _ => nI 1) S = nI v ∧ v ≤ fc (pc (nI S)) := by
  have h2 : 2 ^ n ≤ 2 ^ 10 := Nat.pow_le_pow_right (by decide) h10
  intro S
  induction S using Nat.strongRecOn with
  | ind S ih =>
    intro hS
    by_cases c : S = 0
    · subst c; exact ⟨1, rfl, by decide⟩
    · rw [ov_S al n _ (by omega)]
      have p1 := pc_lt h10 hS
      have p0 := pc_pos S (by omega) (by omega)
      obtain ⟨k, hk⟩ : ∃ k, pc (nI S) = k + 1 := ⟨pc (nI S) - 1, by omega⟩
      have f1 := fc_le k (by omega)
      have q : sumI (wt al n (fun _ => nI 1) S) n = sumI (fun f => if f < n then wt al n (fun _ => nI 1) S f else nI 0) n := sumI_cong (fun f hf => (if_pos hf).symm)
      rw [q]
      obtain ⟨_, v, e, b⟩ := sumI_b (h := fun f => if f < n then wt al n (fun _ => nI 1) S f else nI 0) (S := S) (B := fc k) (by omega) (fun f hf => by
        show ∃ v, (if f < n then wt al n (fun _ => nI 1) S f else nI 0) = _ ∧ _
        by_cases d : f < n
        · rw [if_pos d]
          unfold wt
          by_cases c2 : S.testBit f = true ∧ bt (al (pc (nI S) - 1)) f = true
          · rw [if_pos c2, if_pos c2.1]
            obtain ⟨_, _, o⟩ := set_out f (by omega) S (by omega) c2.1
            obtain ⟨w, e, b⟩ := ih (S - 2 ^ f) (by have := Nat.two_pow_pos f; omega) (Nat.lt_of_le_of_lt (Nat.sub_le _ _) hS)
            have o' : pc (nI (S - 2 ^ f)) = k := by omega
            rw [o'] at b
            exact ⟨w, e, b⟩
          · rw [if_neg c2]; exact ⟨0, rfl, Nat.zero_le _⟩
        · rw [if_neg d]; exact ⟨0, rfl, Nat.zero_le _⟩) n h10
      refine ⟨v, e, Nat.le_trans b ?_⟩
      have m := bc_mono S n (10 - n)
      rw [show n + (10 - n) = 10 by omega] at m
      have m2 := bc_pc S (by omega)
      rw [hk]
      exact Nat.mul_le_mul_right _ (by omega)
theorem ov_bd {al : Nat → Int32} {n : Nat} (h10 : n ≤ 10) : ∃ v, ov al n (fun _ => nI 1) (2 ^ n - 1) = nI v ∧ v ≤ 3628800 := by
  have := Nat.two_pow_pos n
  obtain ⟨v, e, b⟩ := ov_b (al := al) h10 (2 ^ n - 1) (by omega)
  rw [pc_full n h10] at b
  exact ⟨v, e, Nat.le_trans b (fc_le n (by omega))⟩
def gr (a b : Int32) : Int32 := if a ≤ b then b else a
theorem rf_gr (a b : Int32) (h : ab_H) : fX12_greater a b h = some (gr a b) := by
  unfold fX12_greater gr
  split <;> rfl
theorem cl_gr (a b : Int32) (h : ab_H) : fJ9_max_7cf53 a b h = some (gr a b) := by
  unfold fJ9_max_7cf53 gr
  by_cases c : a < b
  · rw [if_pos c, if_pos (Int32.le_of_lt c)]
  · rw [if_neg c]
    by_cases d : a ≤ b
    · rw [if_pos d, Int32.le_antisymm d (Int32.not_lt.mp c)]
    · rw [if_neg d]
theorem gr_lt {a b : Nat} (ha : a ≤ 3628800) (hb : b ≤ 3628800) : gr (nI a) (nI b - nI a) < nI 2000000000 := by
  have e : (nI b - nI a).toInt = (b : Int) - a := by
    rw [Int32.toInt_sub, nI_toInt (by omega), nI_toInt (by omega)]
    rw [Int.bmod_eq_of_le (by omega) (by omega)]
  unfold gr
  split
  · rw [fa_lt, e, nI_toInt (by omega)]; omega
  · rw [fa_lt, nI_toInt (by omega), nI_toInt (by omega)]; omega
def qS (P : Nat → Int32) : Nat → Int32 × Int32 := it (fun i a => if P i < a.2 then (nI i, P i) else a) (-1, nI 2000000000)
theorem qS_S (P : Nat → Int32) (i : Nat) : qS P (i + 1) = if P i < (qS P i).2 then (nI i, P i) else qS P i := rfl
theorem qS_1 {P : Nat → Int32} (h : P 0 < nI 2000000000) : qS P 1 = (nI 0, P 0) := by
  rw [qS_S]; exact if_pos h
theorem qS_p {P : Nat → Int32} (h : P 0 < nI 2000000000) : ∀ i, i < 100 → (qS P (i + 1)).1 ≠ -1
  | 0, _ => by rw [qS_1 h]; show nI 0 ≠ -1; decide
  | i + 1, hi => by
    rw [qS_S]
    split
    · intro e
      have h1 := congrArg Int32.toInt e
      rw [nI_toInt (by omega)] at h1
      have h2 : (-1 : Int32).toInt = -1 := by decide
      omega
    · exact qS_p h i (by omega)
