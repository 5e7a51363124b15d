variable {Nq : Nat}
/-! ===== what a text of THE DOOR leaves is a good row ===== -/
def Gr (m : Nat → Int32) (n k : Nat) : Prop := m 3 = nI n ∧ n ≤ 10 ∧ m 4 = nI k ∧ 1 ≤ k ∧ k ≤ 12 ∧ Iw m n k ∧ Ix m n
theorem nrm_nx {t : Nat → Nat} {L a : Nat} (h : nrm t L a) : nrm t L (nxt t L a) := by
  by_cases c : a < L
  · exact nxt_nrm c
  · unfold nxt; rw [if_neg c]; exact h
theorem adL_w (n : Nat) (m : Nat → Int32) (hn : n < 10) : ∀ i, i ≤ 10 → ∀ o, o < i → adL n m i (72 + 10 * n + o) = nI o
  | 0, _, _, h => absurd h (Nat.not_lt_zero _)
  | i + 1, h, o, ho => by
    show upd (upd (upd (adL n m i) _ _) _ _) _ _ _ = _
    rw [upd_2 _ _ (by omega), upd_2 _ _ (by omega)]
    by_cases c : o = i
    · rw [c, upd_1]
    · rw [upd_2 _ _ (by omega)]; exact adL_w n m hn i (by omega) o (by omega)
theorem adL_a (n : Nat) (m : Nat → Int32) (hn : n < 10) : ∀ i, i ≤ 10 → ∀ o, o < i → adL n m i (172 + 10 * n + o) = nI 0 ∧ adL n m i (172 + 10 * o + n) = nI 0
  | 0, _, _, h => absurd h (Nat.not_lt_zero _)
  | i + 1, h, o, ho => by
    show upd (upd (upd (adL n m i) _ _) _ _) _ _ _ = _ ∧ upd (upd (upd (adL n m i) _ _) _ _) _ _ _ = _
    have ih := fun h1 => adL_a n m hn i (by omega) o h1
    constructor
    · rw [upd_e]
      split
      · rfl
      · rw [upd_e]
        split
        · rfl
        · rw [upd_2 _ _ (by omega)]; exact (ih (by omega)).1
    · rw [upd_e]
      split
      · rfl
      · rw [upd_e]
        split
        · rfl
        · rw [upd_2 _ _ (by omega)]; exact (ih (by omega)).2
theorem adL_o (n : Nat) (m : Nat → Int32) {q : Nat} (hq : ∀ o, o < 10 → q ≠ 72 + 10 * n + o ∧ q ≠ 172 + 10 * n + o ∧ q ≠ 172 + 10 * o + n) : ∀ i, i ≤ 10 → adL n m i q = m q
  | 0, _ => rfl
  | i + 1, h => by
    show upd (upd (upd (adL n m i) _ _) _ _) _ _ _ = _
    obtain ⟨a, b, c⟩ := hq i (by omega)
    rw [upd_2 _ _ c, upd_2 _ _ b, upd_2 _ _ a]
    exact adL_o n m hq i (by omega)
theorem ad6_o (m : Nat → Int32) (n : Nat) (x y : Int32) {q : Nat} (h : q < 12 + 6 * n ∨ 12 + 6 * n + 6 ≤ q) : ad6 m n x y q = m q := by
  unfold ad6
  rw [upd_2 _ _ (by omega), upd_2 _ _ (by omega), upd_2 _ _ (by omega), upd_2 _ _ (by omega), upd_2 _ _ (by omega), upd_2 _ _ (by omega)]
theorem ad6_i (m : Nat → Int32) (n : Nat) (x y : Int32) : ad6 m n x y (12 + 6 * n) = x ∧ ad6 m n x y (12 + 6 * n + 1) = y ∧ ad6 m n x y (12 + 6 * n + 2) = nI n ∧ ad6 m n x y (12 + 6 * n + 3) = -1 ∧ ad6 m n x y (12 + 6 * n + 4) = -1 ∧ ad6 m n x y (12 + 6 * n + 5) = nI 0 := by
  unfold ad6
  refine ⟨?_, ?_, ?_, ?_, ?_, ?_⟩
  · rw [upd_2 _ _ (by omega), upd_2 _ _ (by omega), upd_2 _ _ (by omega), upd_2 _ _ (by omega), upd_2 _ _ (by omega)]; exact upd_1 _ _ _
  · rw [upd_2 _ _ (by omega), upd_2 _ _ (by omega), upd_2 _ _ (by omega), upd_2 _ _ (by omega), upd_1]
  · rw [upd_2 _ _ (by omega), upd_2 _ _ (by omega), upd_2 _ _ (by omega), upd_1]
  · rw [upd_2 _ _ (by omega), upd_2 _ _ (by omega), upd_1]
  · rw [upd_2 _ _ (by omega), upd_1]
  · rw [upd_1]
section ADP
variable (m : Nat → Int32) {n : Nat} (x y : Int32) (hn : n < 10)
theorem adP_lo (m : Nat → Int32) {n : Nat} (x y : Int32) (hn : n < 10) {q : Nat} (h : (q < 12 + 6 * n ∧ q ≠ 3) ∨ (12 + 6 * n + 6 ≤ q ∧ q < 72) ∨ 272 ≤ q) : adP m n x y q = m q := by
  unfold adP
  rw [upd_2 _ _ (by omega), adL_hi _ _ hn _ (by omega) _ (by omega), ad6_o _ _ _ _ (by omega)]
theorem adP_in (m : Nat → Int32) {n : Nat} (x y : Int32) (hn : n < 10) {r : Nat} (hr : r < 6) : adP m n x y (12 + 6 * n + r) = ad6 m n x y (12 + 6 * n + r) := by
  unfold adP
  rw [upd_2 _ _ (by omega), adL_hi _ _ hn _ (by omega) _ (by omega)]
theorem adP_w (m : Nat → Int32) {n : Nat} (x y : Int32) (hn : n < 10) {p o : Nat} (hp : p < 10) (ho : o < 10) : adP m n x y (72 + 10 * p + o) = if p = n then nI o else m (72 + 10 * p + o) := by
  unfold adP
  rw [upd_2 _ _ (by omega)]
  by_cases c : p = n
  · rw [if_pos c, c, adL_w _ _ hn _ (by omega) o ho]
  · rw [if_neg c, adL_o _ _ (fun i hi => by omega) _ (by omega), ad6_o _ _ _ _ (by omega)]
theorem adP_t (m : Nat → Int32) {n : Nat} (x y : Int32) (hn : n < 10) {p o : Nat} (hp : p < 10) (ho : o < 10) : adP m n x y (172 + 10 * p + o) = if p = n ∨ o = n then nI 0 else m (172 + 10 * p + o) := by
  unfold adP
  rw [upd_2 _ _ (by omega)]
  by_cases c : p = n
  · rw [if_pos (Or.inl c), c]; exact (adL_a _ _ hn _ (by omega) o ho).1
  · by_cases c2 : o = n
    · rw [if_pos (Or.inr c2), c2]; exact (adL_a _ _ hn _ (by omega) p hp).2
    · rw [if_neg (by omega), adL_o _ _ (fun i hi => by omega) _ (by omega), ad6_o _ _ _ _ (by omega)]
theorem adP_3 (m : Nat → Int32) (n : Nat) (x y : Int32) : adP m n x y 3 = nI (n + 1) := upd_1 _ _ _
end ADP
theorem Gr.pers {m : Nat → Int32} {n k : Nat} (G : Gr m n k) (hn : n < 10) {x y : Int32} (hx : nv x < 256) : Gr (adP m n x y) (n + 1) k := by
  obtain ⟨g1, g2, g3, g4, g5, ⟨i1, i2, i3, i4, i5, i6⟩, ⟨j1, j2, j3, j4, j5, j6⟩⟩ := G
  obtain ⟨a0, a1, a2, a3, a4, a5⟩ := ad6_i m n x y
  have lo : ∀ p r, p < n → r < 6 → adP m n x y (12 + 6 * p + r) = m (12 + 6 * p + r) := fun p r hp hr => adP_lo m x y hn (by omega)
  have up : ∀ h, adP m n x y (272 + h) = m (272 + h) := fun h => adP_lo m x y hn (by omega)
  have jn : ∀ j, j < n → ¬ (nI j : Int32) = nI n := fun j hj h => by rw [nI_eq (by omega) (by omega)] at h; omega
  have W : ∀ p, p < n + 1 → adP m n x y (12 + 6 * p + 2) = if p = n then nI n else m (12 + 6 * p + 2) := fun p hp => by
    by_cases c : p = n
    · rw [if_pos c, c, adP_in m x y hn (by omega)]; exact a2
    · rw [if_neg c, lo p 2 (by omega) (by omega)]
  have T : ∀ p, p < n + 1 → adP m n x y (12 + 6 * p + 3) = if p = n then -1 else m (12 + 6 * p + 3) := fun p hp => by
    by_cases c : p = n
    · rw [if_pos c, c, adP_in m x y hn (by omega)]; exact a3
    · rw [if_neg c, lo p 3 (by omega) (by omega)]
  refine ⟨adP_3 _ _ _ _, by omega, by rw [adP_lo m x y hn (by omega)]; exact g3, g4, g5, Iw.mk (m := m) _ _ _ W (fun h _ => up h) T ?_ ?_ ?_ ?_ ?_ ?_, ?_, ?_, ?_, ?_, ?_, ?_⟩
  · intro p hp
    by_cases c : p = n
    · rw [if_pos c]; exact Or.inr ⟨n, by omega, rfl⟩
    · rw [if_neg c]
      rcases i1 p (by omega) with h | ⟨j, hj, h⟩
      · exact Or.inl h
      · exact Or.inr ⟨j, by omega, h⟩
  · intro p q hp hq e
    by_cases c : p = n
    · rw [if_pos c] at e ⊢
      by_cases d : q = n
      · right; omega
      · rw [if_neg d] at e
        rcases i1 q (by omega) with h | ⟨j, hj, h⟩
        · rw [h] at e; exact absurd e (nI_m1 (by omega))
        · rw [h] at e; exact absurd e.symm (jn j hj)
    · rw [if_neg c] at e ⊢
      by_cases d : q = n
      · rw [if_pos d] at e
        rcases i1 p (by omega) with h | ⟨j, hj, h⟩
        · exact Or.inl h
        · rw [h] at e; exact absurd e (jn j hj)
      · rw [if_neg d] at e; exact i2 p q (by omega) (by omega) e
  · intro h hh
    rcases i3 h hh with a | ⟨b, j, hj, c⟩
    · exact Or.inl a
    · exact Or.inr ⟨b, j, by omega, c⟩
  · exact i4
  · intro p h hp hh e
    by_cases c : p = n
    · rw [if_pos c] at e
      rcases i3 h hh with a | ⟨b, j, hj, d⟩
      · exact a
      · rw [d] at e; exact absurd e.symm (jn j hj)
    · rw [if_neg c] at e; exact i5 p h (by omega) hh e
  · intro p hp
    by_cases c : p = n
    · rw [if_pos c]; exact Or.inl rfl
    · rw [if_neg c]; exact i6 p (by omega)
  · intro p hp
    by_cases c : p = n
    · have := adP_in m x y hn (r := 0) (by omega)
      rw [Nat.add_zero] at this
      rw [c, this, a0]; exact hx
    · have := lo p 0 (by omega) (by omega)
      rw [Nat.add_zero] at this
      rw [this]; exact j1 p (by omega)
  · intro p hp
    by_cases c : p = n
    · rw [c, adP_in m x y hn (by omega)]; exact Or.inl a4
    · rw [lo p 4 (by omega) (by omega)]
      rcases j2 p (by omega) with h | ⟨j, hj, h⟩
      · exact Or.inl h
      · exact Or.inr ⟨j, by omega, h⟩
  · intro p hp
    by_cases c : p = n
    · rw [c, adP_in m x y hn (by omega), a5]; decide
    · rw [lo p 5 (by omega) (by omega)]; exact j3 p (by omega)
  · intro p o hp ho
    rw [adP_w m x y hn (by omega) (by omega)]
    by_cases c : p = n
    · rw [if_pos c]; exact ⟨o, ho, rfl⟩
    · rw [if_neg c]
      by_cases d : o = n
      · exact ⟨n, by omega, by rw [d]; exact j6 p n (by omega) (by omega) hn⟩
      · obtain ⟨j, hj, h⟩ := j4 p o (by omega) (by omega)
        exact ⟨j, by omega, h⟩
  · intro p o i hp ho hi e
    rw [adP_w m x y hn (by omega) (by omega), adP_w m x y hn (by omega) (by omega)] at e
    by_cases c : p = n
    · rw [if_pos c, if_pos c, nI_eq (by omega) (by omega)] at e; exact e
    · rw [if_neg c, if_neg c] at e
      by_cases d : o = n
      · by_cases f : i = n
        · omega
        · obtain ⟨j, hj, h⟩ := j4 p i (by omega) (by omega)
          rw [d, j6 p n (by omega) (by omega) hn, h] at e
          exact absurd e.symm (jn j hj)
      · by_cases f : i = n
        · obtain ⟨j, hj, h⟩ := j4 p o (by omega) (by omega)
          rw [f, j6 p n (by omega) (by omega) hn, h] at e
          exact absurd e (jn j hj)
        · exact j5 p o i (by omega) (by omega) (by omega) e
  · intro p o hp ho ho2
    rw [adP_w m x y hn (by omega) (by omega)]
    by_cases c : p = n
    · rw [if_pos c]
    · rw [if_neg c]; exact j6 p o (by omega) (by omega) ho2
/-- the settings -/
theorem lst_ge {P : Nat → Bool} {h : Nat} (hp : P h = true) : ∀ k, h < k → ∃ j, lst P k = nI j ∧ h ≤ j ∧ j < k
  | 0, hk => absurd hk (Nat.not_lt_zero _)
  | k + 1, hk => by
    show ∃ j, (if P k then nI k else lst P k) = nI j ∧ _
    by_cases c : P k = true
    · rw [if_pos c]; exact ⟨k, rfl, by omega, by omega⟩
    · rw [if_neg c]
      have : h ≠ k := fun e => c (e ▸ hp)
      obtain ⟨j, a, b, d⟩ := lst_ge hp k (by omega)
      exact ⟨j, a, b, by omega⟩
theorem lst_c {P : Nat → Bool} : ∀ k, lst P k = -1 ∨ ∃ j, j < k ∧ lst P k = nI j
  | 0 => Or.inl rfl
  | k + 1 => by
    show (if P k then nI k else lst P k) = -1 ∨ ∃ j, _ ∧ (if P k then nI k else lst P k) = nI j
    by_cases c : P k = true
    · rw [if_pos c]; exact Or.inr ⟨k, by omega, rfl⟩
    · rw [if_neg c]
      rcases lst_c (P := P) k with h | ⟨j, hj, h⟩
      · exact Or.inl h
      · exact Or.inr ⟨j, by omega, h⟩
theorem loH_c (m : Nat → Int32) (n : Nat) {k : Nat} (hk : k ≤ 12) : (mLst m n k = -1 ∧ loH m n k = nI 1) ∨ ∃ j, j < k ∧ mLst m n k = nI j ∧ loH m n k = nI (j + 1) := by
  unfold loH
  rcases lst_c (P := fun h => decide (¬ m (272 + h) = -1) || exB (fun p => m (12 + 6 * p + 3) = nI h) n) k with h | ⟨j, hj, h⟩
  · left
    have e : mLst m n k = -1 := h
    rw [e]; exact ⟨rfl, by decide⟩
  · right
    have e : mLst m n k = nI j := h
    rw [e, nI_add]
    exact ⟨j, hj, rfl, if_pos (nI_le (by omega) (by omega))⟩
theorem Gr.hooks {m : Nat → Int32} {n k v : Nat} (G : Gr m n k) (hv : v ≤ 12) (h : ¬ nI v < loH m n k) : Gr (upd m 4 (nI v)) n v := by
  obtain ⟨g1, g2, g3, g4, g5, ⟨i1, i2, i3, i4, i5, i6⟩, J⟩ := G
  have L := loH_c m n (k := k) g5
  have v1 : 1 ≤ v := by
    rcases L with ⟨_, e⟩ | ⟨j, _, _, e⟩
    · rw [e, nI_ltI (by omega) (by omega)] at h; omega
    · rw [e, nI_ltI (by omega) (by omega)] at h; omega
  have key : ∀ q, q < k → (decide (¬ m (272 + q) = -1) || exB (fun p => m (12 + 6 * p + 3) = nI q) n) = true → q < v := by
    intro q hq hp
    obtain ⟨j, a, b, d⟩ := lst_ge (P := fun h => decide (¬ m (272 + h) = -1) || exB (fun p => m (12 + 6 * p + 3) = nI h) n) hp k hq
    rcases L with ⟨e, _⟩ | ⟨j2, hj2, e, e2⟩
    · have : mLst m n k = nI j := a
      rw [e] at this
      exact absurd this.symm (nI_m1 (by omega))
    · have : mLst m n k = nI j := a
      rw [e, nI_eq (by omega) (by omega)] at this
      rw [e2, nI_ltI (by omega) (by omega)] at h; omega
  refine ⟨by rw [upd_2 _ _ (by omega)]; exact g1, g2, upd_1 _ _ _, v1, hv, Iw.mk (m := m) _ _ _ (fun p hp => upd_2 _ _ (by omega)) (fun p hp => upd_2 _ _ (by omega)) (fun p hp => upd_2 _ _ (by omega)) i1 i2 ?_ i4 i5 ?_, J.cg g2 (fun p hp => upd_2 _ _ (by omega)) (fun p hp => upd_2 _ _ (by omega)) (fun p hp => upd_2 _ _ (by omega)) (fun p hp _ => upd_2 _ _ (by omega))⟩
  · intro q hq
    rcases i3 q hq with a | ⟨b, c⟩
    · exact Or.inl a
    · by_cases e : m (272 + q) = -1
      · exact Or.inl e
      · exact Or.inr ⟨key q b (by rw [decide_eq_true e]; rfl), c⟩
  · intro p hp
    rcases i6 p hp with a | ⟨j, hj, e⟩
    · exact Or.inl a
    · refine Or.inr ⟨j, key j hj ?_, e⟩
      rw [Bool.or_eq_true]
      right
      exact exB_t.mpr ⟨p, hp, decide_eq_true e⟩
theorem Gr.set {m : Nat → Int32} {n k q : Nat} {v : Int32} (G : Gr m n k) (hq : q = 6 ∨ q = 7) : Gr (upd m q v) n k := by
  obtain ⟨g1, g2, g3, g4, g5, I, J⟩ := G
  exact ⟨by rw [upd_2 _ _ (by omega)]; exact g1, g2, by rw [upd_2 _ _ (by omega)]; exact g3, g4, g5, I.cg (fun p hp => upd_2 _ _ (by omega)) (fun p hp => upd_2 _ _ (by omega)) (fun p hp => upd_2 _ _ (by omega)), J.cg g2 (fun p hp => upd_2 _ _ (by omega)) (fun p hp => upd_2 _ _ (by omega)) (fun p hp => upd_2 _ _ (by omega)) (fun p hp _ => upd_2 _ _ (by omega))⟩
/-- who is wed, who KNOWS -/
theorem Gr.u4 {m : Nat → Int32} {n k p o : Nat} (G : Gr m n k) (hp : p < n) (ho : o < n) : Gr (upd m (12 + 6 * p + 4) (nI o)) n k := by
  obtain ⟨g1, g2, g3, g4, g5, I, ⟨j1, j2, j3, j4, j5, j6⟩⟩ := G
  refine ⟨by rw [upd_2 _ _ (by omega)]; exact g1, g2, by rw [upd_2 _ _ (by omega)]; exact g3, g4, g5, I.cg (fun p hp => upd_2 _ _ (by omega)) (fun p hp => upd_2 _ _ (by omega)) (fun p hp => upd_2 _ _ (by omega)), ?_, ?_, ?_, ?_, ?_, ?_⟩
  · intro q hq; rw [upd_2 _ _ (by omega)]; exact j1 q hq
  · intro q hq
    rw [upd_e]
    split
    · exact Or.inr ⟨o, ho, rfl⟩
    · exact j2 q hq
  · intro q hq; rw [upd_2 _ _ (by omega)]; exact j3 q hq
  · intro q i hq hi; rw [upd_2 _ _ (by omega)]; exact j4 q i hq hi
  · intro q i j hq hi hj; rw [upd_2 _ _ (by omega), upd_2 _ _ (by omega)]; exact j5 q i j hq hi hj
  · intro q i hq hi hi2; rw [upd_2 _ _ (by omega)]; exact j6 q i hq hi hi2
theorem Gr.u5 {m : Nat → Int32} {n k p : Nat} {v : Int32} (G : Gr m n k) (hp : p < n) (hv : nv v < 1024) : Gr (upd m (12 + 6 * p + 5) v) n k := by
  obtain ⟨g1, g2, g3, g4, g5, I, ⟨j1, j2, j3, j4, j5, j6⟩⟩ := G
  refine ⟨by rw [upd_2 _ _ (by omega)]; exact g1, g2, by rw [upd_2 _ _ (by omega)]; exact g3, g4, g5, I.cg (fun p hp => upd_2 _ _ (by omega)) (fun p hp => upd_2 _ _ (by omega)) (fun p hp => upd_2 _ _ (by omega)), ?_, ?_, ?_, ?_, ?_, ?_⟩
  · intro q hq; rw [upd_2 _ _ (by omega)]; exact j1 q hq
  · intro q hq; rw [upd_2 _ _ (by omega)]; exact j2 q hq
  · intro q hq
    rw [upd_e]
    split
    · exact hv
    · exact j3 q hq
  · intro q i hq hi; rw [upd_2 _ _ (by omega)]; exact j4 q i hq hi
  · intro q i j hq hi hj; rw [upd_2 _ _ (by omega), upd_2 _ _ (by omega)]; exact j5 q i j hq hi hj
  · intro q i hq hi hi2; rw [upd_2 _ _ (by omega)]; exact j6 q i hq hi hi2
theorem Gr.knows {m : Nat → Int32} {n k p z : Nat} (G : Gr m n k) (hp : p < n) (hz : z < n) : Gr (upd m (12 + 6 * p + 5) (m (12 + 6 * p + 5) ||| (nI 1 <<< (nI z &&& 31)))) n k := by
  have g2 := G.2.1
  refine G.u5 hp (nv_or (G.2.2.2.2.2.2.2.2.1 p hp) ?_)
  rw [sh1 (by omega), nv_nI (by have : 2 ^ z ≤ 2 ^ 9 := Nat.pow_le_pow_right (by decide) (by omega); omega)]
  have : 2 ^ z ≤ 2 ^ 9 := Nat.pow_le_pow_right (by decide) (by omega)
  omega
