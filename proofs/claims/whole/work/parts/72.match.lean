variable {Nq : Nat}
/-! ===== whether all can have one: by counting ===== -/
def PM (al : Nat → Int32) (n S : Nat) : Prop := ∃ σ : Nat → Nat, (∀ p, p < pc (nI S) → σ p < n ∧ S.testBit (σ p) = true ∧ bt (al p) (σ p) = true) ∧ ∀ p q, p < pc (nI S) → q < pc (nI S) → σ p = σ q → p = q
theorem sum0 {h : Nat → Int32} {B : Nat} : ∀ n, n * B < 2 ^ 31 → (∀ f, f < n → ∃ v, h f = nI v ∧ v ≤ B) → (∃ v, sumI h n = nI v ∧ v ≤ n * B) ∧ (sumI h n = nI 0 ↔ ∀ f, f < n → h f = nI 0)
  | 0, _, _ => ⟨⟨0, rfl, Nat.zero_le _⟩, ⟨fun _ f hf => absurd hf (Nat.not_lt_zero f), fun _ => rfl⟩⟩
  | n + 1, hB, hh => by
    have e : (n + 1) * B = n * B + B := Nat.succ_mul n B
    obtain ⟨⟨v, e1, b1⟩, hi⟩ := sum0 n (by omega) (fun f hf => hh f (by omega))
    obtain ⟨w, e2, b2⟩ := hh n (by omega)
    refine ⟨⟨v + w, by rw [sumI_S, e1, e2, nI_add], by omega⟩, ?_⟩
    rw [sumI_S, e1, e2, nI_add, nI_eq (by omega) (by omega)]
    constructor
    · intro h f hf
      have hv : v = 0 := by omega
      have hw : w = 0 := by omega
      by_cases c : f = n
      · rw [c, e2, hw]
      · exact hi.mp (by rw [e1, hv]) f (by omega)
    · intro h
      have h1 := hi.mpr (fun f hf => h f (by omega))
      have h2 := h n (by omega)
      rw [e1, nI_eq (by omega) (by omega)] at h1
      rw [e2, nI_eq (by omega) (by omega)] at h2
      omega
theorem out_b {f S b : Nat} (hf : f < 10) (hS : S < 1024) (h : S.testBit f = true) (hb : b < 32) : (S - 2 ^ f).testBit b = (S.testBit b && !decide (f = b)) := by
  obtain ⟨o, _, _⟩ := set_out f hf S hS h
  rw [← bt_nI' hb, ← o, b_and, b_not _ hb, bt_nI' hb, bt_nI' hb, Nat.testBit_two_pow]
theorem ov_PM {al : Nat → Int32} {n : Nat} (h10 : n ≤ 10) : ∀ S, S < 2 ^ n → (ov al n (fun _ => nI 1) S = nI 0 ↔ ¬ PM al n S) := by
  have h2 : 2 ^ n ≤ 2 ^ 10 := Nat.pow_le_pow_right (by decide) h10
  intro S
  induction S using Nat.strongRecOn with
  | ind S ih =>
    intro hS
    by_cases c : S = 0
    · subst c
      have p0 : pc (nI 0) = 0 := by decide
      constructor
      · intro h
        have : (nI 1 : Int32) = nI 0 := h
        exact absurd this (by decide)
      · intro h
        exact absurd ⟨fun _ => 0, fun p hp => by omega, fun p q hp => by omega⟩ h
    · have p0 := pc_pos S (by omega) (by omega)
      have hw : ∀ f, f < n → ∃ v, wt al n (fun _ => nI 1) S f = nI v ∧ v ≤ 3628800 := fun f hf => by
        unfold wt
        split
        · have hl : S - 2 ^ f < 2 ^ n := Nat.lt_of_le_of_lt (Nat.sub_le _ _) hS
          obtain ⟨v, e, b⟩ := ov_b (al := al) h10 (S - 2 ^ f) hl
          have := pc_lt h10 hl
          exact ⟨v, e, Nat.le_trans b (fc_le _ (by omega))⟩
        · exact ⟨0, rfl, Nat.zero_le _⟩
      have hm : n * 3628800 ≤ 10 * 3628800 := Nat.mul_le_mul_right _ h10
      rw [ov_S al n _ (by omega), (sum0 n (by omega) hw).2]
      constructor
      · rintro h ⟨σ, s1, s2⟩
        obtain ⟨f1, f2, f3⟩ := s1 (pc (nI S) - 1) (by omega)
        obtain ⟨_, _, o⟩ := set_out (σ (pc (nI S) - 1)) (by omega) S (by omega) f2
        have h1 := h _ f1
        unfold wt at h1
        rw [if_pos ⟨f2, f3⟩] at h1
        refine (ih _ (by have := Nat.two_pow_pos (σ (pc (nI S) - 1)); omega) (Nat.lt_of_le_of_lt (Nat.sub_le _ _) hS)).mp h1 ⟨σ, fun p hp => ?_, fun p q hp hq => s2 p q (by omega) (by omega)⟩
        obtain ⟨t1, t2, t3⟩ := s1 p (by omega)
        refine ⟨t1, ?_, t3⟩
        rw [out_b (by omega) (by omega) f2 (by omega), t2, decide_eq_false]
        · rfl
        · intro e
          have := s2 _ _ (by omega) (by omega) e
          omega
      · intro h f hf
        unfold wt
        split
        · rename_i c2
          obtain ⟨_, _, o⟩ := set_out f (by omega) S (by omega) c2.1
          refine (ih _ (by have := Nat.two_pow_pos f; omega) (Nat.lt_of_le_of_lt (Nat.sub_le _ _) hS)).mpr ?_
          rintro ⟨σ, s1, s2⟩
          refine h ⟨fun p => if p = pc (nI S) - 1 then f else σ p, fun p hp => ?_, fun p q hp hq e => ?_⟩
          · show (if p = pc (nI S) - 1 then f else σ p) < n ∧ _
            by_cases d : p = pc (nI S) - 1
            · simp only [if_pos d]; rw [d]; exact ⟨hf, c2.1, c2.2⟩
            · simp only [if_neg d]
              obtain ⟨t1, t2, t3⟩ := s1 p (by omega)
              rw [out_b (by omega) (by omega) c2.1 (by omega)] at t2
              exact ⟨t1, by simp at t2; exact t2.1, t3⟩
          · have ne : ∀ p, p < pc (nI (S - 2 ^ f)) → σ p ≠ f := fun p hp e => by
              obtain ⟨t1, t2, t3⟩ := s1 p hp
              rw [out_b (by omega) (by omega) c2.1 (by omega), e] at t2
              simp at t2
            have e : (if p = pc (nI S) - 1 then f else σ p) = (if q = pc (nI S) - 1 then f else σ q) := e
            by_cases d : p = pc (nI S) - 1 <;> by_cases d' : q = pc (nI S) - 1
            · omega
            · rw [if_pos d, if_neg d'] at e
              exact absurd e.symm (ne q (by omega))
            · rw [if_neg d, if_pos d'] at e
              exact absurd e (ne p (by omega))
            · rw [if_neg d, if_neg d'] at e
              exact s2 p q (by omega) (by omega) e
        · rfl
/-- all can have one -/
def AM (al : Nat → Int32) (n : Nat) : Prop := ∃ σ : Nat → Nat, (∀ p, p < n → σ p < n ∧ bt (al p) (σ p) = true) ∧ ∀ p q, p < n → q < n → σ p = σ q → p = q
theorem ov_AM {al : Nat → Int32} {n : Nat} (h10 : n ≤ 10) : ov al n (fun _ => nI 1) (2 ^ n - 1) = nI 0 ↔ ¬ AM al n := by
  have := Nat.two_pow_pos n
  rw [ov_PM h10 (2 ^ n - 1) (by omega)]
  unfold PM AM
  rw [pc_full n h10]
  constructor
  · rintro h ⟨σ, s1, s2⟩
    refine h ⟨σ, fun p hp => ⟨(s1 p hp).1, ?_, (s1 p hp).2⟩, s2⟩
    rw [Nat.testBit_two_pow_sub_one]; exact decide_eq_true (s1 p hp).1
  · rintro h ⟨σ, s1, s2⟩
    exact h ⟨σ, fun p hp => ⟨(s1 p hp).1, (s1 p hp).2.2⟩, s2⟩
/-! ===== whether all can have one: by giving, and giving others ===== -/
def okO (al own : Nat → Int32) (n : Nat) : Prop := ∀ f, f < n → own f = -1 ∨ ∃ r, r < n ∧ own f = nI r ∧ bt (al r) f = true
def cn (own : Nat → Int32) (n r : Nat) : Nat := fb_ct (fun f => decide (own f = nI r)) n
def un (T n : Nat) : Nat := fb_ct (fun f => !T.testBit f) n
def clo (al own : Nat → Int32) (n T T1 : Nat) : Prop := ∀ f, f < n → T1.testBit f = true → T.testBit f = false → ∃ q, q < n ∧ own f = nI q ∧ ∀ f', f' < n → bt (al q) f' = true → T1.testBit f' = true
theorem un_set {T n i : Nat} (hi : i < n) (h : T.testBit i = false) : un (T ||| 2 ^ i) n + 1 = un T n := by
  unfold un
  have e : (fun f => !(T ||| 2 ^ i).testBit f) = fun k => if k = i then false else !T.testBit k := by
    funext f
    rw [fb_bit_set]
    by_cases c : f = i
    · rw [if_pos c, decide_eq_true c, Bool.or_true]; rfl
    · rw [if_neg c, decide_eq_false c, Bool.or_false]
  have := fb_ct_upd (fun f => !T.testBit f) false hi
  rw [e]
  simp only [h, Bool.not_false, if_true, Bool.false_eq_true, if_false, Nat.add_zero] at this
  exact this
theorem cn_upd {own : Nat → Int32} {n i p r : Nat} (hi : i < n) (hp : p < 2 ^ 31) (hr : r < 2 ^ 31) : cn (upd own i (nI p)) n r + (if own i = nI r then 1 else 0) = cn own n r + (if r = p then 1 else 0) := by
  unfold cn
  have e : (fun f => decide (upd own i (nI p) f = nI r)) = fun k => if k = i then decide (r = p) else decide (own k = nI r) := by
    funext f
    rw [upd_e]
    by_cases c : f = i
    · rw [if_pos c, if_pos c]
      by_cases d : r = p
      · rw [d, decide_eq_true rfl, decide_eq_true rfl]
      · rw [decide_eq_false d, decide_eq_false]
        rw [nI_eq hp hr]; exact fun h => d h.symm
    · rw [if_neg c, if_neg c]
  have := fb_ct_upd (fun f => decide (own f = nI r)) (decide (r = p)) hi
  rw [e]
  simpa using this
