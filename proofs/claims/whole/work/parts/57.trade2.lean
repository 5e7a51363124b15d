variable {Nq : Nat}
/-! ===== trade: the rounds of both ===== -/
theorem Am_ex {m : Nat → Int32} {n : Nat} {S : Nat → Bool} (he : ∃ o, o < n ∧ S o = true) (p : Nat) : ∃ o, Am m n S p o := by
  have key : ∀ i, i ≤ n → (∀ q, q < i → S q = false) ∨ ∃ o, o < i ∧ S o = true ∧ ∀ q, q < i → S q = true → pos m p (m (12 + 6 * o + 2)) ≤ pos m p (m (12 + 6 * q + 2)) := by
    intro i
    induction i with
    | zero => intro _; exact Or.inl (fun q hq => absurd hq (Nat.not_lt_zero q))
    | succ i ih =>
      intro hi
      cases c : S i
      · rcases ih (by omega) with h | ⟨o, ho, h1, h2⟩
        · refine Or.inl (fun q hq => ?_)
          by_cases cq : q = i
          · rw [cq, c]
          · exact h q (by omega)
        · refine Or.inr ⟨o, by omega, h1, fun q hq hs => ?_⟩
          by_cases cq : q = i
          · rw [cq, c] at hs; cases hs
          · exact h2 q (by omega) hs
      · rcases ih (by omega) with h | ⟨o, ho, h1, h2⟩
        · refine Or.inr ⟨i, by omega, c, fun q hq hs => ?_⟩
          by_cases cq : q = i
          · rw [cq]; exact Nat.le_refl _
          · rw [h q (by omega)] at hs; cases hs
        · by_cases cl : pos m p (m (12 + 6 * i + 2)) ≤ pos m p (m (12 + 6 * o + 2))
          · refine Or.inr ⟨i, by omega, c, fun q hq hs => ?_⟩
            by_cases cq : q = i
            · rw [cq]; exact Nat.le_refl _
            · have := h2 q (by omega) hs; omega
          · refine Or.inr ⟨o, by omega, h1, fun q hq hs => ?_⟩
            by_cases cq : q = i
            · rw [cq]; omega
            · exact h2 q (by omega) hs
  rcases key n (Nat.le_refl n) with h | ⟨o, ho, h1, h2⟩
  · obtain ⟨o, ho, hs⟩ := he
    rw [h o ho] at hs; cases hs
  · exact ⟨o, ho, h1, h2⟩
theorem Wx_of {m : Nat → Int32} {n : Nat} {x : Int32} (W : Ws m n (bt x)) (he : ∃ o, o < n ∧ bt x o = true) : Wx m n x := by
  refine ⟨W, he, fun p hp => ?_⟩
  obtain ⟨o, h⟩ := Am_ex (m := m) he p
  rw [ptN_of W hp h]; exact h
def xs (m : Nat → Int32) (n : Nat) (X : Int32) : Nat → Int32
  | 0 => X
  | i + 1 => xs m n X i &&& (lvs m n (xs m n X i) ^^^ (-1))
def gsr (m : Nat → Int32) (n : Nat) (X : Int32) (G : Nat → Int32) : Nat → Nat → Int32
  | 0 => G
  | i + 1 => if xs m n X i = 0 then gsr m n X G i else gv m n (xs m n X i) (gsr m n X G i)
theorem xs_sub {m : Nat → Int32} {n : Nat} {X : Int32} : ∀ i b, b < 32 → bt (xs m n X i) b = true → bt X b = true
  | 0, _, _, h => h
  | i + 1, b, hb, h => by
    have h : bt (xs m n X i &&& (lvs m n (xs m n X i) ^^^ (-1))) b = true := h
    rw [b_and] at h
    refine xs_sub (m := m) (n := n) i b hb ?_
    cases c : bt (xs m n X i) b
    · rw [c] at h; simp at h
    · rfl
theorem and_z (y : Int32) : (0 : Int32) &&& y = 0 := by
  apply b_ext
  intro i hi
  rw [b_and, b_0, Bool.false_and]
theorem xs_0 {m : Nat → Int32} {n : Nat} {X : Int32} {i : Nat} (h : xs m n X i = 0) : ∀ j, xs m n X (i + j) = 0
  | 0 => h
  | j + 1 => by
    show xs m n X (i + j) &&& _ = 0
    rw [xs_0 h j, and_z]
theorem gsr_0 {m : Nat → Int32} {n : Nat} {X : Int32} {G : Nat → Int32} {i : Nat} (h : xs m n X i = 0) : ∀ j, gsr m n X G (i + j) = gsr m n X G i
  | 0 => rfl
  | j + 1 => by
    show (if xs m n X (i + j) = 0 then gsr m n X G (i + j) else _) = _
    rw [if_pos (xs_0 h j), gsr_0 h j]
/-- the set at the begin: all of it wear -/
def Wb (m : Nat → Int32) (n : Nat) (X : Int32) : Prop := Ws m n (bt X) ∧ ∀ b, b < 32 → bt X b = true → b < n
theorem Wb.x {m : Nat → Int32} {n : Nat} {X : Int32} (W : Wb m n X) {i : Nat} (h : ¬ xs m n X i = 0) : Wx m n (xs m n X i) := by
  have h10 := W.1.1
  refine Wx_of ⟨W.1.1, W.1.2.1, W.1.2.2.1, W.1.2.2.2.1, fun o ho hb => W.1.2.2.2.2 o ho (xs_sub i o (by omega) hb)⟩ ?_
  apply Decidable.byContradiction
  intro hne
  refine h (b_ext (fun b hb => ?_))
  rw [b_0]
  cases c : bt (xs m n X i) b
  · rfl
  · exact absurd ⟨b, W.2 b hb (xs_sub i b hb c), c⟩ hne
theorem xs_10 {m : Nat → Int32} {n : Nat} {X : Int32} (W : Wb m n X) : xs m n X 10 = 0 := by
  have h10 := W.1.1
  have key : ∀ i, xs m n X i = 0 ∨ fb_ct (bt (xs m n X i)) n + i ≤ fb_ct (bt X) n := by
    intro i
    induction i with
    | zero => exact Or.inr (Nat.le_refl _)
    | succ i ih =>
      by_cases c : xs m n X i = 0
      · exact Or.inl (xs_0 c 1)
      · rcases ih with h | h
        · exact absurd h c
        · right
          have Wi := W.x c
          obtain ⟨t1, t2, _, _⟩ := lvT_ok Wi
          have q := qq_in Wi 0
          have l1 : bt (lvs m n (xs m n X i)) (qq m n (xs m n X i) 0) = true := by
            unfold lvs
            rw [lv_bt Wi (by omega)]
            exact exB_t.mpr ⟨0, t2, decide_eq_true rfl⟩
          have := ct_lt (P := bt (xs m n X (i + 1))) (Q := bt (xs m n X i)) (n := n) (b := qq m n (xs m n X i) 0) (fun b hb h => by
            have h : bt (xs m n X i &&& (lvs m n (xs m n X i) ^^^ (-1))) b = true := h
            rw [b_and] at h
            cases cb : bt (xs m n X i) b
            · rw [cb] at h; simp at h
            · rfl) q.1 (by
            show bt (xs m n X i &&& (lvs m n (xs m n X i) ^^^ (-1))) _ = false
            rw [b_and, b_not _ (by omega), l1]; simp) q.2
          omega
  rcases key 10 with h | h
  · exact h
  · have h1 := fb_ct_le (bt X) n
    have h2 : fb_ct (bt (xs m n X 10)) n = 0 := by omega
    apply b_ext
    intro b hb
    rw [b_0]
    cases c : bt (xs m n X 10) b
    · rfl
    · have := fb_ct_zero.mp h2 b (W.2 b hb (xs_sub 10 b hb c))
      rw [this] at c; cases c
theorem rl_tr47 (g : gG) {n : Nat} (hn : gA g 207 3 = nI n) (h10 : n ≤ 10) {F : Nat} (hF : 11000 < F) {X : Int32} (W : Wb (gA g 207) n X) : fX12_trades_47 F 206 F X (gH g) = some (gH (sA g 216 (gsr (gA g 207) n X (gA g 216) 10))) := by
  have e7 : ¬ (207 = 216) := by omega
  have h0 := lpx (L := fun F' _ (a : Int32 × gG) => fX12_trades_47 F 206 F' a.1 (gH a.2)) (n := 11) (fun i => (xs (gA g 207) n X i, sA g 216 (gsr (gA g 207) n X (gA g 216) i))) (fun i => xs (gA g 207) n X i = 0) (some (gH (sA g 216 (gsr (gA g 207) n X (gA g 216) 10)))) ?_ ?_ ?_ F (by omega)
  · have : sA g 216 (gsr (gA g 207) n X (gA g 216) 0) = g := sA_id g 216
    rw [this] at h0; exact h0
  · intro F' i hi _ hE
    have Wi := W.x hE
    have m1 : gA (sA g 216 (gsr (gA g 207) n X (gA g 216) i)) 207 = gA g 207 := gA_sA2 _ _ e7
    have t53 := fun K => rl_tr53 (sA g 216 (gsr (gA g 207) n X (gA g 216) i)) Wi K hF
    have t69 := fun K => rl_tr69 (sA g 216 (gsr (gA g 207) n X (gA g 216) i)) (n := n) (by rw [m1]; exact hn) h10 hF (x := xs (gA g 207) n X i) (by rw [m1]; exact Wi) K
    have t93 := fun K => rl_tr93 (sA g 216 (gsr (gA g 207) n X (gA g 216) i)) (n := n) (by rw [m1]; exact hn) h10 hF (x := xs (gA g 207) n X i) (by rw [m1]; exact Wi) K
    simp only [m1, gA_sA1, sA_sA] at t69 t93
    have eg : gsr (gA g 207) n X (gA g 216) (i + 1) = gv (gA g 207) n (xs (gA g 207) n X i) (gsr (gA g 207) n X (gA g 216) i) := if_neg hE
    rw [eg]
    simp (disch := omega) only [fX12_trades_47, bdS, ck_t, ck_T, cb_0, cb_1, ab_jn, if_true, if_false, hE, if_false, t53, t69, t93]
    rfl
  · intro F' i hi _ hE
    have eg : gsr (gA g 207) n X (gA g 216) 10 = gsr (gA g 207) n X (gA g 216) i := by
      have := gsr_0 (G := gA g 216) hE (10 - i)
      rwa [show i + (10 - i) = 10 by omega] at this
    rw [eg]
    simp (disch := omega) only [fX12_trades_47, bdS, ck_t, ck_T, cb_0, cb_1, ab_jn, if_true, if_false, hE, if_true]
  · intro F' hno
    exact absurd (xs_10 W) (hno 10 (by omega))
