variable {Nq : Nat}
/-! ===== a row of wishes ===== -/
def Wi (w p n j : Nat) (m m0 : Nat → Int32) : Prop := w < 1024 ∧ fb_ct (fun q => w.testBit q) 10 = j ∧ (∀ q, w.testBit q = true → q < n) ∧ (∀ o, o < j → ∃ v, v < n ∧ m (72 + 10 * p + o) = nI v ∧ w.testBit v = true) ∧ (∀ o i, o < j → i < j → m (72 + 10 * p + o) = m (72 + 10 * p + i) → o = i) ∧ (∀ q, (q < 72 + 10 * p ∨ 72 + 10 * p + 10 ≤ q) → m q = m0 q)
theorem Wi.step {w p n j z : Nat} {m m0 : Nat → Int32} (W : Wi w p n j m m0) (h10 : n ≤ 10) (hz : z < n) (hb : w.testBit z = false) : Wi (w ||| 2 ^ z) p n (j + 1) (upd m (72 + 10 * p + j) (nI z)) m0 := by
  obtain ⟨w1, w2, w3, w4, w5, w6⟩ := W
  have ct := ct_set (n := 10) (show z < 10 by omega) hb
  rw [w2] at ct
  have j9 := ct10 (w := w ||| 2 ^ z)
  refine ⟨or1_lt w1 (by omega), ct, fun q hq => ?_, fun o ho => ?_, fun o i ho hi e => ?_, fun q hq => ?_⟩
  · rw [fb_bit_set] at hq
    by_cases c : q = z
    · omega
    · exact w3 q (by simpa [c] using hq)
  · by_cases c : o = j
    · exact ⟨z, hz, by rw [c, upd_1], by rw [fb_bit_set]; simp⟩
    · obtain ⟨v, a, b, d⟩ := w4 o (by omega)
      exact ⟨v, a, by rw [upd_2 _ _ (by omega)]; exact b, by rw [fb_bit_set]; simp [d]⟩
  · have key : ∀ o, o < j → ¬ (nI z : Int32) = m (72 + 10 * p + o) := fun o ho h => by
      obtain ⟨v, a, b, d⟩ := w4 o ho
      rw [b, nI_eq (by omega) (by omega)] at h
      rw [← h, hb] at d; cases d
    by_cases c : o = j
    · by_cases d : i = j
      · omega
      · rw [c, upd_1, upd_2 _ _ (by omega)] at e
        exact absurd e (key i (by omega))
    · by_cases d : i = j
      · rw [d, upd_1, upd_2 _ _ (by omega)] at e
        exact absurd e.symm (key o (by omega))
      · rw [upd_2 _ _ (by omega), upd_2 _ _ (by omega)] at e
        exact w5 o i (by omega) (by omega) e
  · rw [upd_2 _ _ (by omega)]; exact w6 q hq
/-- the rest, as far as i -/
def Fil (w p n j i : Nat) (m m0 : Nat → Int32) : Prop := w < 1024 ∧ fb_ct (fun q => w.testBit q) 10 + i = j + fb_ct (fun q => w.testBit q) i ∧ (∀ q, w.testBit q = true → q < n) ∧ (∀ o, o < j → ∃ v, v < 10 ∧ m (72 + 10 * p + o) = nI v ∧ (w.testBit v = true ∨ v < i)) ∧ (∀ o i, o < j → i < j → m (72 + 10 * p + o) = m (72 + 10 * p + i) → o = i) ∧ (∀ o, n ≤ o → o < j → m (72 + 10 * p + o) = nI o) ∧ (∀ q, (q < 72 + 10 * p ∨ 72 + 10 * p + 10 ≤ q) → m q = m0 q)
theorem ct_n {w n : Nat} (h10 : n ≤ 10) (h : ∀ q, w.testBit q = true → q < n) {i : Nat} (h1 : n ≤ i) (h2 : i ≤ 10) : fb_ct (fun q => w.testBit q) i = fb_ct (fun q => w.testBit q) 10 := by
  have s := fb_ct_split (fun q => w.testBit q) i (10 - i)
  rw [show i + (10 - i) = 10 by omega] at s
  have z : fb_ct (fun k => w.testBit (i + k)) (10 - i) = 0 := fb_ct_zero.mpr (fun k hk => by
    cases c : w.testBit (i + k)
    · rfl
    · have := h _ c; omega)
  omega
theorem Fil.j {w p n j i : Nat} {m m0 : Nat → Int32} (W : Fil w p n j i m m0) (h10 : n ≤ 10) (hi : i < 10) (hb : w.testBit i = false) : (i < n → j < n) ∧ (n ≤ i → j = i) := by
  obtain ⟨w1, w2, w3, w4, w5, w6, w7⟩ := W
  refine ⟨fun h => ?_, fun h => ?_⟩
  · have e := ct_n h10 w3 (Nat.le_refl n) h10
    have s := fb_ct_split (fun q => w.testBit q) (i + 1) (n - (i + 1))
    rw [show i + 1 + (n - (i + 1)) = n by omega] at s
    have le := fb_ct_le (fun k => w.testBit (i + 1 + k)) (n - (i + 1))
    have s1 := fb_ct_succ (fun q => w.testBit q) i
    rw [hb] at s1
    simp only [Bool.false_eq_true, if_false] at s1
    omega
  · have e := ct_n h10 w3 h (by omega)
    omega
theorem Fil.step {w p n j i : Nat} {m m0 : Nat → Int32} (W : Fil w p n j i m m0) (h10 : n ≤ 10) (hi : i < 10) (hb : w.testBit i = false) : Fil w p n (j + 1) (i + 1) (upd m (72 + 10 * p + j) (nI i)) m0 := by
  have J := W.j h10 hi hb
  obtain ⟨w1, w2, w3, w4, w5, w6, w7⟩ := W
  have s1 := fb_ct_succ (fun q => w.testBit q) i
  rw [hb] at s1
  simp only [Bool.false_eq_true, if_false] at s1
  have j10 : j < 10 := by
    by_cases c : i < n
    · have := J.1 c; omega
    · have := J.2 (by omega); omega
  refine ⟨w1, by omega, w3, fun o ho => ?_, fun o q ho hq e => ?_, fun o ho ho2 => ?_, fun q hq => ?_⟩
  · by_cases c : o = j
    · exact ⟨i, hi, by rw [c, upd_1], Or.inr (by omega)⟩
    · obtain ⟨v, a, b, d⟩ := w4 o (by omega)
      refine ⟨v, a, by rw [upd_2 _ _ (by omega)]; exact b, ?_⟩
      rcases d with d | d
      · exact Or.inl d
      · exact Or.inr (by omega)
  · have key : ∀ o, o < j → ¬ (nI i : Int32) = m (72 + 10 * p + o) := fun o ho h => by
      obtain ⟨v, a, b, d⟩ := w4 o ho
      rw [b, nI_eq (by omega) (by omega)] at h
      rcases d with d | d
      · rw [← h, hb] at d; cases d
      · omega
    by_cases c : o = j
    · by_cases d : q = j
      · omega
      · rw [c, upd_1, upd_2 _ _ (by omega)] at e
        exact absurd e (key q (by omega))
    · by_cases d : q = j
      · rw [d, upd_1, upd_2 _ _ (by omega)] at e
        exact absurd e.symm (key o (by omega))
      · rw [upd_2 _ _ (by omega), upd_2 _ _ (by omega)] at e
        exact w5 o q (by omega) (by omega) e
  · by_cases c : o = j
    · have : j = i := by
        by_cases c : i < n
        · have := J.1 c; omega
        · exact J.2 (by omega)
      rw [c, upd_1, this]
    · rw [upd_2 _ _ (by omega)]; exact w6 o ho (by omega)
  · rw [upd_2 _ _ (by omega)]; exact w7 q hq
theorem Fil.skip {w p n j i : Nat} {m m0 : Nat → Int32} (W : Fil w p n j i m m0) (hb : w.testBit i = true) : Fil w p n j (i + 1) m m0 := by
  obtain ⟨w1, w2, w3, w4, w5, w6, w7⟩ := W
  have s1 := fb_ct_succ (fun q => w.testBit q) i
  rw [hb] at s1
  simp only [if_true] at s1
  refine ⟨w1, by omega, w3, fun o ho => ?_, w5, w6, w7⟩
  obtain ⟨v, a, b, d⟩ := w4 o ho
  refine ⟨v, a, b, ?_⟩
  rcases d with d | d
  · exact Or.inl d
  · exact Or.inr (by omega)
theorem Fil.fill {w p n : Nat} {m0 : Nat → Int32} (h10 : n ≤ 10) : ∀ k j i m, i + k = 10 → Fil w p n j i m m0 → Fil w p n 10 10 (flW w p k j i m) m0
  | 0, j, i, m, hi, W => by
    have e : i = 10 := by omega
    subst e
    have : j = 10 := by have := W.2.1; omega
    subst this
    exact W
  | k + 1, j, i, m, hi, W => by
    rw [flW]
    cases c : w.testBit i
    · rw [if_neg (show ¬ false = true by decide)]
      exact Fil.fill h10 k (j + 1) (i + 1) _ (by omega) (W.step h10 (by omega) c)
    · rw [if_pos rfl]
      exact Fil.fill h10 k j (i + 1) m (by omega) (W.skip c)
theorem Wi.le {w p n j : Nat} {m m0 : Nat → Int32} (W : Wi w p n j m m0) (h10 : n ≤ 10) : j ≤ n := by
  have e := ct_n h10 W.2.2.1 (Nat.le_refl n) h10
  have le := fb_ct_le (fun q => w.testBit q) n
  have := W.2.1
  omega
theorem Wi.f {w p n j : Nat} {m m0 : Nat → Int32} (W : Wi w p n j m m0) (h10 : n ≤ 10) : Fil w p n j 0 m m0 := by
  have le := W.le h10
  obtain ⟨w1, w2, w3, w4, w5, w6⟩ := W
  refine ⟨w1, by rw [w2]; rfl, w3, fun o ho => ?_, w5, fun o h1 h2 => by omega, w6⟩
  obtain ⟨v, a, b, d⟩ := w4 o ho
  exact ⟨v, by omega, b, Or.inl d⟩
theorem Fil.gr {w p n k : Nat} {m m0 : Nat → Int32} (W : Fil w p n 10 10 m m0) (G : Gr m0 n k) (hp : p < n) : Gr m n k := by
  obtain ⟨w1, w2, w3, w4, w5, w6, w7⟩ := W
  obtain ⟨g1, g2, g3, g4, g5, I, ⟨j1, j2, j3, j4, j5, j6⟩⟩ := G
  have o1 : ∀ q, q < 72 → m q = m0 q := fun q hq => w7 q (by omega)
  have o2 : ∀ q o, q < n → o < 10 → ¬ q = p → m (72 + 10 * q + o) = m0 (72 + 10 * q + o) := fun q o hq ho hne => w7 _ (by omega)
  refine ⟨by rw [o1 _ (by omega)]; exact g1, g2, by rw [o1 _ (by omega)]; exact g3, g4, g5, I.cg (fun q hq => o1 _ (by omega)) (fun i hi => w7 _ (by omega)) (fun q hq => o1 _ (by omega)), ?_, ?_, ?_, ?_, ?_, ?_⟩
  · intro q hq; rw [o1 _ (by omega)]; exact j1 q hq
  · intro q hq; rw [o1 _ (by omega)]; exact j2 q hq
  · intro q hq; rw [o1 _ (by omega)]; exact j3 q hq
  · intro q o hq ho
    by_cases c : q = p
    · subst c
      obtain ⟨v, a, b, d⟩ := w4 o (by omega)
      refine ⟨v, ?_, b⟩
      apply Decidable.byContradiction
      intro h
      have e := w5 o v (by omega) a (by rw [b, w6 v (by omega) a])
      omega
    · rw [o2 q o hq (by omega) c]; exact j4 q o hq ho
  · intro q o i hq ho hi e
    by_cases c : q = p
    · subst c; exact w5 o i (by omega) (by omega) e
    · rw [o2 q o hq (by omega) c, o2 q i hq (by omega) c] at e; exact j5 q o i hq ho hi e
  · intro q o hq ho ho2
    by_cases c : q = p
    · subst c; exact w6 o ho ho2
    · rw [o2 q o hq ho2 c]; exact j6 q o hq ho ho2
theorem Wi.run {t : Nat → Nat} {L n p kk : Nat} {m0 : Nat → Int32} (G : Gr m0 n kk) (hp : p < n) : ∀ k c w j m, Wi w p n j m m0 → (dWl t L n p k c w j m).1 = true → Gr (dWl t L n p k c w j m).2.2 n kk
  | 0, c, w, j, m, _, h => by cases h
  | k + 1, c, w, j, m, W, h => by
    have h10 := G.2.1
    rw [dWl] at h ⊢
    by_cases c1 : nmb t L c < n ∧ w.testBit (nmb t L c) = false
    · rw [if_pos c1] at h ⊢
      have W2 := W.step h10 c1.1 c1.2
      by_cases c2 : kd t L (nxt t L c) = 256
      · rw [if_pos c2] at h ⊢
        exact Wi.run G hp k _ _ _ _ W2 h
      · rw [if_neg c2]
        exact ((W2.f h10).fill h10 10 _ 0 _ (by omega)).gr G hp
    · rw [if_neg c1] at h; cases h
theorem Wi.zero {n p : Nat} (m : Nat → Int32) : Wi 0 p n 0 m m := ⟨by omega, by decide, (fun q hq => by rw [Nat.zero_testBit] at hq; cases hq), fun o ho => absurd ho (Nat.not_lt_zero o), fun o _ ho => absurd ho (Nat.not_lt_zero o), fun _ _ => rfl⟩
theorem dKl_gr {t : Nat → Nat} {L n p kk : Nat} (hp : p < n) : ∀ k c m, Gr m n kk → (dKl t L n p k c m).1 = true → Gr (dKl t L n p k c m).2.2 n kk
  | 0, c, m, _, h => by cases h
  | k + 1, c, m, G, h => by
    rw [dKl] at h ⊢
    by_cases c1 : nmb t L c < n ∧ nmb t L c ≠ p
    · rw [if_pos c1] at h ⊢
      have G2 := G.knows hp c1.1
      by_cases c2 : kd t L (nxt t L c) = 256
      · rw [if_pos c2] at h ⊢
        exact dKl_gr hp k _ _ G2 h
      · rw [if_neg c2]; exact G2
    · rw [if_neg c1] at h; cases h
theorem dLine_gr {t : Nat → Nat} {L a n k : Nat} {m : Nat → Int32} (G : Gr m n k) (h : (dLine t L a m n k).1 = true) : ∃ n' k', Gr (dLine t L a m n k).2.2 n' k' := by
  unfold dLine at h ⊢
  by_cases c0 : kd t L a = 1000
  · rw [if_pos c0] at h ⊢
    unfold dPers at h ⊢
    by_cases d : n = 10
    · rw [if_pos d] at h; cases h
    · rw [if_neg d] at h ⊢
      by_cases d1 : e8b t L (nxt t L a) = true
      · rw [if_pos d1] at h ⊢
        by_cases d2 : e8b t L (nxt t L (nxt t L a)) = true
        · rw [if_pos d2]
          have := G.2.1
          exact ⟨_, _, G.pers (by omega) (e8v_lt t _ 8 (by omega))⟩
        · rw [if_neg d2] at h; cases h
      · rw [if_neg d1] at h; cases h
  rw [if_neg c0] at h ⊢
  by_cases c1 : kd t L a = 1001
  · rw [if_pos c1] at h ⊢
    unfold dWish at h ⊢
    by_cases d : nmb t L (nxt t L a) < n
    · rw [if_pos d] at h ⊢
      exact ⟨_, _, Wi.run G d _ _ _ _ _ (Wi.zero m) h⟩
    · rw [if_neg d] at h; cases h
  rw [if_neg c1] at h ⊢
  by_cases c2 : kd t L a = 1002
  · rw [if_pos c2] at h ⊢
    unfold dWed at h ⊢
    by_cases d : nmb t L (nxt t L a) < n ∧ m (12 + 6 * nmb t L (nxt t L a) + 4) = -1
    · rw [if_pos d] at h ⊢
      by_cases d1 : nmb t L (nxt t L (nxt t L a)) < n ∧ nmb t L (nxt t L (nxt t L a)) ≠ nmb t L (nxt t L a) ∧ m (12 + 6 * nmb t L (nxt t L (nxt t L a)) + 4) = -1
      · rw [if_pos d1]
        exact ⟨_, _, (G.u4 d.1 d1.1).u4 d1.1 d.1⟩
      · rw [if_neg d1] at h; cases h
    · rw [if_neg d] at h; cases h
  rw [if_neg c2] at h ⊢
  by_cases c3 : kd t L a = 1003
  · rw [if_pos c3] at h ⊢
    unfold dKnows at h ⊢
    by_cases d : nmb t L (nxt t L a) < n
    · rw [if_pos d] at h ⊢
      exact ⟨_, _, dKl_gr d _ _ _ G h⟩
    · rw [if_neg d] at h; cases h
  rw [if_neg c3] at h ⊢
  by_cases c4 : kd t L a = 1004
  · rw [if_pos c4] at h ⊢
    unfold dSet at h ⊢
    by_cases d : nmb t L (nxt t L a) ≤ 12 ∧ ¬ nI (nmb t L (nxt t L a)) < loH m n k
    · rw [if_pos d]; exact ⟨_, _, G.hooks d.1 d.2⟩
    · rw [if_neg d] at h; cases h
  rw [if_neg c4] at h ⊢
  by_cases c5 : kd t L a = 1005
  · rw [if_pos c5] at h ⊢
    unfold dSet at h ⊢
    by_cases d : nmb t L (nxt t L a) ≤ 100 ∧ ¬ nI (nmb t L (nxt t L a)) < nI 0
    · rw [if_pos d]; exact ⟨_, _, G.set (Or.inl rfl)⟩
    · rw [if_neg d] at h; cases h
  rw [if_neg c5] at h ⊢
  by_cases c6 : kd t L a = 1006
  · rw [if_pos c6] at h ⊢
    unfold dSet at h ⊢
    by_cases d : nmb t L (nxt t L a) ≤ 100 ∧ ¬ nI (nmb t L (nxt t L a)) < nI 0
    · rw [if_pos d]; exact ⟨_, _, G.set (Or.inr rfl)⟩
    · rw [if_neg d] at h; cases h
  · rw [if_neg c6] at h; cases h
theorem dWl_nrm {t : Nat → Nat} {L n p : Nat} : ∀ k c w j m, nrm t L c → nrm t L (dWl t L n p k c w j m).2.1
  | 0, c, w, j, m, h => h
  | k + 1, c, w, j, m, h => by
    rw [dWl]
    split
    · split
      · exact dWl_nrm k _ _ _ _ (nrm_nx h)
      · exact nrm_nx h
    · exact h
theorem dKl_nrm {t : Nat → Nat} {L n p : Nat} : ∀ k c m, nrm t L c → nrm t L (dKl t L n p k c m).2.1
  | 0, c, m, h => h
  | k + 1, c, m, h => by
    rw [dKl]
    split
    · split
      · exact dKl_nrm k _ _ (nrm_nx h)
      · exact nrm_nx h
    · exact h
theorem dLine_nrm {t : Nat → Nat} {L a n k : Nat} {m : Nat → Int32} (h : nrm t L a) : nrm t L (dLine t L a m n k).2.1 := by
  have h1 := nrm_nx h
  have h2 := nrm_nx h1
  have h3 := nrm_nx h2
  unfold dLine
  split
  · unfold dPers
    split
    · exact h
    · split
      · split
        · exact h3
        · exact h2
      · exact h1
  split
  · unfold dWish
    split
    · exact dWl_nrm _ _ _ _ _ h2
    · exact h1
  split
  · unfold dWed
    split
    · split
      · exact h3
      · exact h2
    · exact h1
  split
  · unfold dKnows
    split
    · exact dKl_nrm _ _ _ h2
    · exact h1
  split
  · unfold dSet
    split
    · exact h2
    · exact h1
  split
  · unfold dSet
    split
    · exact h2
    · exact h1
  split
  · unfold dSet
    split
    · exact h2
    · exact h1
  · exact h
def Dgd (m : Nat → Int32) : Prop := ∃ n k, Gr m n k
theorem Dgd.v {m : Nat → Int32} (G : Dgd m) : Gr m (nv (m 3)) (nv (m 4)) := by
  obtain ⟨n, k, G⟩ := G
  have e1 : nv (m 3) = n := by rw [G.1]; exact nv_nI (by have := G.2.1; omega)
  have e2 : nv (m 4) = k := by rw [G.2.2.1]; exact nv_nI (by have := G.2.2.2.2.1; omega)
  rw [e1, e2]; exact G
/-- the reference reads a text of THE DOOR -/
theorem rf_readD {g : gG} {t : Nat → Nat} {L : Nat} (H : Ld g t L) {F : Nat} (hF : 11000 < F) (u v : Int32) {m : Nat → Int32} (G : Dgd m) : ∃ n' a' f' m', fX12_read F 206 (nI 0) (gH (td g m (nI 0) (-1) u v)) = some (n', gH (td g m' a' f' u v)) ∧ (∀ i, 584 ≤ i → m' i = m i) ∧ ((dText t L m).1 = true → f' = -1 ∧ m' = (dText t L m).2.2) ∧ ((dText t L m).1 = false → f' = nI (dText t L m).2.1 ∧ ¬ f' = -1) := by
  have h1 := H.1
  have h2 := H.2.1
  have hbt := H.2.2.1
  have s := rf_skip (H.m m).x (-1) (nI 0) u v (show 0 < 1000 by omega) hF
  have bl := rn_le (P := bk t) (L := L) 0 (by omega)
  have nb := rn_rn (P := bk t) (L := L) 0
  unfold dText
  generalize rn (bk t) L 0 = b at *
  unfold fX12_read
  by_cases c : kd t L b = 4000
  · have pe := (kd_end hbt bl).mp c
    obtain ⟨F', rfl⟩ : ∃ F', F = F' + 1 := ⟨F - 1, by omega⟩
    rw [if_pos c]
    refine ⟨nI 0, nI b, -1, m, ?_, fun _ _ => rfl, fun _ => ⟨rfl, rfl⟩, fun h => by cases h⟩
    refine (ck_e (io_206 _)).trans ?_
    refine (bd_e s).trans ?_
    refine (bd_e (td_f11 g m _ _ _ _)).trans ?_
    refine (bd_e (td_f10 h1 m _ _ _ _)).trans ?_
    refine (if_neg (fun h => by rw [nI_ltI (by omega) (by omega)] at h; omega)).trans ?_
    exact rd_0
  · have nl : b < L := by
      apply Decidable.byContradiction
      intro k
      exact c ((kd_end hbt bl).mpr (by omega))
    rw [if_neg c]
    obtain ⟨n', a', f', m', e3, C⟩ := rl_readD H hF u v m Dgd (fun m G => ⟨G.v.2.1, G.v.2.2.2.2.1⟩) (fun m a G h => dLine_gr G.v h) (fun m a G hn _ => dLine_nrm hn) 14 0 F b m (by omega) (by omega) bl G (fun _ _ => rfl)
    rw [nb] at C
    refine ⟨n', a', f', m', ?_, C⟩
    refine (ck_e (io_206 _)).trans ?_
    refine (bd_e s).trans ?_
    refine (bd_e (td_f11 g m _ _ _ _)).trans ?_
    refine (bd_e (td_f10 h1 m _ _ _ _)).trans ?_
    refine (if_pos (nI_lt nl (by omega))).trans ?_
    exact e3
