/-! ===== the relation without what must hold of the row; writes one by one ===== -/
def SC (g : gG) (x : Nat) (m : Nat → Int32) (n k : Nat) : Prop := Sv g x m n k ∧ 1 ≤ k ∧ m 3 = nI n ∧ m 4 = nI k ∧ Sx g x m ∧ Lg g x m ∧ Sb g x n
theorem SR.c {g : gG} {x : Nat} {m : Nat → Int32} {n k : Nat} (S : SR g x m n k) : SC g x m n k := ⟨S.1, S.2.1, S.2.2.1, S.2.2.2.1, S.2.2.2.2.1, S.2.2.2.2.2.1, S.2.2.2.2.2.2.1⟩
theorem SR.w {g : gG} {x : Nat} {m : Nat → Int32} {n k : Nat} (S : SR g x m n k) : Iw m n k := S.2.2.2.2.2.2.2.1
theorem SR.i {g : gG} {x : Nat} {m : Nat → Int32} {n k : Nat} (S : SR g x m n k) : Ix m n := S.2.2.2.2.2.2.2.2
theorem SC.r {g : gG} {x : Nat} {m : Nat → Int32} {n k : Nat} (S : SC g x m n k) (W : Iw m n k) (I : Ix m n) : SR g x m n k := ⟨S.1, S.2.1, S.2.2.1, S.2.2.2.1, S.2.2.2.2.1, S.2.2.2.2.2.1, S.2.2.2.2.2.2, W, I⟩
theorem SC.st {g : gG} {x : Nat} {m : Nat → Int32} {n k : Nat} (S : SC g x m n k) : isSt x := S.1.1
theorem SC.n10 {g : gG} {x : Nat} {m : Nat → Int32} {n k : Nat} (S : SC g x m n k) : n ≤ 10 := S.1.2.2.1
theorem SC.k12 {g : gG} {x : Nat} {m : Nat → Int32} {n k : Nat} (S : SC g x m n k) : k ≤ 12 := S.1.2.2.2.2.1
theorem SC.hr {g : gG} {x : Nat} {m : Nat → Int32} {n k : Nat} (S : SC g x m n k) : gF g x 2 = m 5 := S.2.2.2.2.1.1
theorem SC.per {g : gG} {x : Nat} {m : Nat → Int32} {n k : Nat} (S : SC g x m n k) {r p : Nat} (hr : r < 6) (hp : p < n) (v : Int32) : SC (sA g (x + (3 + r)) (upd (gA g (x + (3 + r))) p v)) x (upd m (12 + 6 * p + r) v) n k := by
  have h10 := S.n10
  obtain ⟨V, k1, m3, m4, X, L, B⟩ := S
  refine ⟨V.per hr hp v, k1, ?_, ?_, X.keep rfl ?_ ?_ ?_ ?_ ?_, L.keep rfl rfl ?_ ?_, B.keep ?_ ?_⟩
  · rw [upd_2 _ _ (by omega)]; exact m3
  · rw [upd_2 _ _ (by omega)]; exact m4
  · rw [upd_2 _ _ (by omega)]
  · rw [upd_2 _ _ (by omega)]
  · rw [upd_2 _ _ (by omega)]
  · rw [upd_2 _ _ (by omega)]
  · rw [upd_2 _ _ (by omega)]
  · rw [upd_2 _ _ (by omega)]
  · intro q h1 h2; rw [upd_2 _ _ (by omega)]
  · intro s _ _ q hq hq'
    by_cases c : s = 3 + r
    · subst c; rw [gA_sA1, upd_2 _ _ (by omega)]
    · rw [gA_sA2 g _ (by omega)]
  · intro q o hq hq' ho
    rw [gA_sA2 g _ (by omega)]; exact ⟨rfl, rfl⟩
theorem SC.hook {g : gG} {x : Nat} {m : Nat → Int32} {n k : Nat} (S : SC g x m n k) {h : Nat} (hh : h < 12) (v : Int32) : SC (sA g (x + 11) (upd (gA g (x + 11)) h v)) x (upd m (272 + h) v) n k := by
  obtain ⟨V, k1, m3, m4, X, L, B⟩ := S
  refine ⟨V.hook hh v, k1, ?_, ?_, X.keep rfl ?_ ?_ ?_ ?_ ?_, L.keep rfl rfl ?_ ?_, B.keep ?_ ?_⟩
  · rw [upd_2 _ _ (by omega)]; exact m3
  · rw [upd_2 _ _ (by omega)]; exact m4
  · rw [upd_2 _ _ (by omega)]
  · rw [upd_2 _ _ (by omega)]
  · rw [upd_2 _ _ (by omega)]
  · rw [upd_2 _ _ (by omega)]
  · rw [upd_2 _ _ (by omega)]
  · rw [upd_2 _ _ (by omega)]
  · intro q h1 h2; rw [upd_2 _ _ (by omega)]
  · intro s _ _ q hq hq'
    rw [gA_sA2 g _ (by omega)]
  · intro q o hq hq' ho
    rw [gA_sA2 g _ (by omega)]; exact ⟨rfl, rfl⟩
theorem SC.think {g : gG} {x : Nat} {m : Nat → Int32} {n k : Nat} (S : SC g x m n k) {p o : Nat} (hp : p < n) (ho : o < n) (v : Int32) : SC (sA g (x + 9) (upd (gA g (x + 9)) (p * 10 + o) v)) x (upd m (172 + 10 * p + o) v) n k := by
  have h10 := S.n10
  obtain ⟨V, k1, m3, m4, X, L, B⟩ := S
  refine ⟨V.think hp ho v, k1, ?_, ?_, X.keep rfl ?_ ?_ ?_ ?_ ?_, L.keep rfl rfl ?_ ?_, B.keep ?_ ?_⟩
  · rw [upd_2 _ _ (by omega)]; exact m3
  · rw [upd_2 _ _ (by omega)]; exact m4
  · rw [upd_2 _ _ (by omega)]
  · rw [upd_2 _ _ (by omega)]
  · rw [upd_2 _ _ (by omega)]
  · rw [upd_2 _ _ (by omega)]
  · rw [upd_2 _ _ (by omega)]
  · rw [upd_2 _ _ (by omega)]
  · intro q h1 h2; rw [upd_2 _ _ (by omega)]
  · intro s _ _ q hq hq'
    rw [gA_sA2 g _ (by omega)]
  · intro q i hq hq' hi
    rw [gA_sA1, upd_2 _ _ (by omega), upd_2 _ _ (by omega)]; exact ⟨rfl, rfl⟩
theorem SC.add {g : gG} {x : Nat} {m : Nat → Int32} {n k : Nat} (S : SC g x m n k) {p h f w : Nat} (hp : p < 16) (hh : h < 16) (hf : f < 16) (hw : w < 16) : ∃ g', fX4_addRow (x + 1) (m 5) (nI p) (nI h) (nI f + (-1)) (nI w) (gH g) = some (gH g') ∧ Fs g g' x ∧ SC g' x (wrM m (nI p) (nI h) (nI f + (-1)) (nI w)) n k ∧ gA g' = gA g ∧ gF g' x = gF g x := by
  obtain ⟨V, k1, m3, m4, X, L, B⟩ := S
  obtain ⟨r, nx, h1, h2, h3, h4, h5, h6⟩ := L
  have hx := V.1
  have h10 := V.2.2.1
  have A := wrM_Al m (nI p) (nI h) (nI f + (-1)) (nI w)
  have f0 : gF (adR g x nx r (pkL (m 5) p h f w)) x = gF g x := by
    unfold adR; rw [gF_sF2 _ _ (by omega), gF_sF2 _ _ (by omega), gF_sL]
  refine ⟨_, cl_addRow g hx h5 h2 h3 h1 (m 5) p h f w, adR_Fs g x nx r _, ⟨V.al A f0 (fun _ _ _ => rfl), k1, ?_, ?_, ?_, Lg.add h1 h2 h3 h4 h5 h6 hp hh hf hw, B.keep (fun _ _ _ _ _ _ => rfl) (fun _ _ _ _ _ => ⟨rfl, rfl⟩)⟩, rfl, f0⟩
  · rw [A 3 (by decide) (by decide)]; exact m3
  · rw [A 4 (by decide) (by decide)]; exact m4
  · exact X.keep f0 (A 5 (by decide) (by decide)) (A 6 (by decide) (by decide)) (A 7 (by decide) (by decide)) (A 9 (by decide) (by decide)) (A 0 (by decide) (by decide))
/-- reading behind a write -/
theorem uPP (m : Nat → Int32) {p q r s : Nat} (v : Int32) (hr : r < 6) (hs : s < 6) : upd m (12 + 6 * p + r) v (12 + 6 * q + s) = if q = p ∧ s = r then v else m (12 + 6 * q + s) := by
  rw [upd_e]
  by_cases c : q = p ∧ s = r
  · rw [if_pos c, if_pos (by omega)]
  · rw [if_neg c, if_neg (by omega)]
theorem uPH (m : Nat → Int32) {p r h : Nat} (v : Int32) (hr : r < 6) (hp : p < 10) : upd m (12 + 6 * p + r) v (272 + h) = m (272 + h) := upd_2 _ _ (by omega)
theorem uHP (m : Nat → Int32) {q s h : Nat} (v : Int32) (hs : s < 6) (hq : q < 10) : upd m (272 + h) v (12 + 6 * q + s) = m (12 + 6 * q + s) := upd_2 _ _ (by omega)
theorem uHH (m : Nat → Int32) {h i : Nat} (v : Int32) : upd m (272 + h) v (272 + i) = if i = h then v else m (272 + i) := by
  rw [upd_e]
  by_cases c : i = h
  · rw [if_pos c, if_pos (by omega)]
  · rw [if_neg c, if_neg (by omega)]
theorem nI_m1 {j : Nat} (h : j < 2 ^ 31) : ¬ nI j = -1 := fun e => (m1_ne h).mp e
/-- who WEARS what, and what hangs where -/
theorem Iw.mk {m m' : Nat → Int32} {n k : Nat} (w u t : Nat → Int32) (hw : ∀ p, p < n → m' (12 + 6 * p + 2) = w p) (hu : ∀ h, h < 12 → m' (272 + h) = u h) (ht : ∀ p, p < n → m' (12 + 6 * p + 3) = t p)
  (i1 : ∀ p, p < n → w p = -1 ∨ ∃ j, j < n ∧ w p = nI j) (i2 : ∀ p q, p < n → q < n → w p = w q → w p = -1 ∨ p = q) (i3 : ∀ h, h < 12 → u h = -1 ∨ (h < k ∧ ∃ j, j < n ∧ u h = nI j)) (i4 : ∀ h i, h < 12 → i < 12 → u h = u i → u h = -1 ∨ h = i)
  (i5 : ∀ p h, p < n → h < 12 → w p = u h → u h = -1) (i6 : ∀ p, p < n → t p = -1 ∨ ∃ j, j < k ∧ t p = nI j) : Iw m' n k := by
  refine ⟨fun p hp => ?_, fun p q hp hq => ?_, fun h hh => ?_, fun h i hh hi => ?_, fun p h hp hh => ?_, fun p hp => ?_⟩
  · rw [hw p hp]; exact i1 p hp
  · rw [hw p hp, hw q hq]; exact i2 p q hp hq
  · rw [hu h hh]; exact i3 h hh
  · rw [hu h hh, hu i hi]; exact i4 h i hh hi
  · rw [hw p hp, hu h hh]; exact i5 p h hp hh
  · rw [ht p hp]; exact i6 p hp
theorem Iw.hand {m m' : Nat → Int32} {n k : Nat} (I : Iw m n k) {p h f : Nat} (hp : p < n) (hh : h < k) (hf : f < n) (h10 : n ≤ 10) (e : m (12 + 6 * p + 2) = nI f)
  (hw : ∀ q, q < n → m' (12 + 6 * q + 2) = if q = p then -1 else m (12 + 6 * q + 2)) (hu : ∀ i, i < 12 → m' (272 + i) = if i = h then nI f else m (272 + i)) (ht : ∀ q, q < n → m' (12 + 6 * q + 3) = if q = p then nI h else m (12 + 6 * q + 3)) : Iw m' n k := by
  obtain ⟨i1, i2, i3, i4, i5, i6⟩ := I
  have hne : ¬ nI f = -1 := nI_m1 (by omega)
  refine Iw.mk (m := m) _ _ _ hw hu ht ?_ ?_ ?_ ?_ ?_ ?_
  · intro q hq
    by_cases c : q = p
    · rw [if_pos c]; exact Or.inl rfl
    · rw [if_neg c]; exact i1 q hq
  · intro a b ha hb
    by_cases ca : a = p
    · rw [if_pos ca]; exact fun _ => Or.inl rfl
    · rw [if_neg ca]
      by_cases cb : b = p
      · rw [if_pos cb]; exact fun h => Or.inl h
      · rw [if_neg cb]; exact i2 a b ha hb
  · intro i hi
    by_cases c : i = h
    · rw [if_pos c]; subst c; exact Or.inr ⟨hh, f, hf, rfl⟩
    · rw [if_neg c]; exact i3 i hi
  · intro a b ha hb
    by_cases ca : a = h
    · rw [if_pos ca]
      by_cases cb : b = h
      · exact fun _ => Or.inr (ca.trans cb.symm)
      · rw [if_neg cb]
        intro h1
        have := i5 p b hp hb (e.trans h1)
        exact absurd (h1.trans this) hne
    · rw [if_neg ca]
      by_cases cb : b = h
      · rw [if_pos cb]
        intro h1
        have := i5 p a hp ha (e.trans h1.symm)
        exact Or.inl this
      · rw [if_neg cb]; exact i4 a b ha hb
  · intro q i hq hi
    by_cases c : q = p
    · rw [if_pos c]; exact fun h => h.symm
    · rw [if_neg c]
      by_cases ci : i = h
      · rw [if_pos ci]
        intro h1
        rcases i2 q p hq hp (h1.trans e.symm) with h2 | h2
        · exact absurd (h1.symm.trans h2) hne
        · exact absurd h2 c
      · rw [if_neg ci]; exact i5 q i hq hi
  · intro q hq
    by_cases c : q = p
    · rw [if_pos c]; exact Or.inr ⟨h, hh, rfl⟩
    · rw [if_neg c]; exact i6 q hq
theorem Iw.get {m m' : Nat → Int32} {n k : Nat} (I : Iw m n k) {p h : Nat} (hh : h < 12) (t : Nat → Int32)
  (hw : ∀ q, q < n → m' (12 + 6 * q + 2) = if q = p then m (272 + h) else m (12 + 6 * q + 2)) (hu : ∀ i, i < 12 → m' (272 + i) = if i = h then -1 else m (272 + i)) (ht : ∀ q, q < n → m' (12 + 6 * q + 3) = t q) (it : ∀ q, q < n → t q = -1 ∨ ∃ j, j < k ∧ t q = nI j) : Iw m' n k := by
  obtain ⟨i1, i2, i3, i4, i5, i6⟩ := I
  refine Iw.mk (m := m) _ _ _ hw hu ht ?_ ?_ ?_ ?_ ?_ it
  · intro q hq
    by_cases c : q = p
    · rw [if_pos c]; exact (i3 h hh).imp id (fun h => h.2)
    · rw [if_neg c]; exact i1 q hq
  · intro a b ha hb
    by_cases ca : a = p
    · rw [if_pos ca]
      by_cases cb : b = p
      · exact fun _ => Or.inr (ca.trans cb.symm)
      · rw [if_neg cb]; exact fun h1 => Or.inl (i5 b h hb hh h1.symm)
    · rw [if_neg ca]
      by_cases cb : b = p
      · rw [if_pos cb]; exact fun h1 => Or.inl (h1.trans (i5 a h ha hh h1))
      · rw [if_neg cb]; exact i2 a b ha hb
  · intro i hi
    by_cases c : i = h
    · rw [if_pos c]; exact Or.inl rfl
    · rw [if_neg c]; exact i3 i hi
  · intro a b ha hb
    by_cases ca : a = h
    · rw [if_pos ca]; exact fun _ => Or.inl rfl
    · rw [if_neg ca]
      by_cases cb : b = h
      · rw [if_pos cb]; exact fun h1 => Or.inl h1
      · rw [if_neg cb]; exact i4 a b ha hb
  · intro q i hq hi
    by_cases ci : i = h
    · rw [if_pos ci]; exact fun _ => rfl
    · rw [if_neg ci]
      by_cases c : q = p
      · rw [if_pos c]
        intro h1
        rcases i4 h i hh hi h1 with h2 | h2
        · exact h1.symm.trans h2
        · exact absurd h2.symm ci
      · rw [if_neg c]; exact i5 q i hq hi
def tau (p o q : Nat) : Nat := if q = o then p else if q = p then o else q
theorem tau_lt {p o q n : Nat} (hp : p < n) (ho : o < n) (hq : q < n) : tau p o q < n := by
  unfold tau
  split
  · exact hp
  · split
    · exact ho
    · exact hq
theorem tau_inj {p o a b : Nat} (h : tau p o a = tau p o b) : a = b := by
  revert h
  unfold tau
  repeat' split
  all_goals (intro h; omega)
theorem Iw.swap {m m' : Nat → Int32} {n k : Nat} (I : Iw m n k) {p o : Nat} (hp : p < n) (ho : o < n)
  (hw : ∀ q, q < n → m' (12 + 6 * q + 2) = m (12 + 6 * tau p o q + 2)) (hu : ∀ i, i < 12 → m' (272 + i) = m (272 + i)) (ht : ∀ q, q < n → m' (12 + 6 * q + 3) = m (12 + 6 * q + 3)) : Iw m' n k := by
  obtain ⟨i1, i2, i3, i4, i5, i6⟩ := I
  refine Iw.mk (m := m) _ _ _ hw hu ht ?_ ?_ i3 i4 ?_ i6
  · exact fun q hq => i1 _ (tau_lt hp ho hq)
  · exact fun a b ha hb h => (i2 _ _ (tau_lt hp ho ha) (tau_lt hp ho hb) h).imp id tau_inj
  · exact fun q i hq hi => i5 _ i (tau_lt hp ho hq) hi
