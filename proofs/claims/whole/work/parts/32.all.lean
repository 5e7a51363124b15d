variable {Nq : Nat}
/-! ===== the whole relation between the class's object and the reference's ===== -/
/-- THE LAW's code is that of THE LAW's text -/
def rep (code : Nat → Int32) (c : List Nat) : Prop := ∀ q, q < c.length → code q = nI (c.getD q 0)
def LawOk (len : Nat) (code : Nat → Int32) (lines size : Int32) (t : Nat → Int32) : Prop := (lines = -1 ∧ len = 0) ∨ ∃ L, ∃ b : Nat → Nat, L ≤ 400 ∧ size = nI L ∧ (∀ i, i < L → t i = nI (b i) ∧ b i < 256) ∧ (pLaw b L).1 = true ∧ lines = nI (pLaw b L).2.2.1 ∧ len = (pLaw b L).2.2.2.length ∧ rep code (pLaw b L).2.2.2
def Bo (g : gG) : Prop := (gF g 206 15 = nI 0 ∨ gF g 206 15 = nI 1) ∧ (gF g 206 16 = nI 0 ∨ gF g 206 16 = nI 1)
def Xt (N : Nat) (g : gG) : Prop := Bo g ∧ gn g = 3 * N
theorem Xt.keep {N : Nat} {g g' : gG} (h : Xt N g) (h1 : gF g' 206 15 = gF g 206 15) (h2 : gF g' 206 16 = gF g 206 16) (h3 : gn g' = gn g) : Xt N g' := by
  unfold Xt Bo at *
  rw [h1, h2, h3]; exact h
def Tp (g : gG) : Prop := ∃ L, L ≤ 400 ∧ gF g 4 1 = nI L ∧ gF g 206 8 = nI L ∧ ∀ i, i < L → gA g 5 i = gA g 211 i ∧ ∃ b, b < 256 ∧ gA g 211 i = nI b
def cut (m : Nat → Int32) : Nat → Int32 := fun i => if i < 400 then m (584 + i) else nI 0
def LW (g : gG) (L : Nat) (m : Nat → Int32) : Prop := isLw g L ∧ gF g L 0 = m 1 ∧ LawOk (gl g (L + 2)) (gA g (L + 2)) (m 1) (m 2) (cut m)
def Im (g : gG) : Prop := gF g 0 9 = gF g 206 3 ∧ (gF g 0 9 = nI 0 ∨ (gF g 0 9 = nI 1 ∧ LW g (gw g 30) (gA g 208) ∧ ∃ n k, SR g 30 (gA g 208) n k))
/-- the rows of acts have THE LAW that there is -/
def Rl (m a : Nat → Int32) (s : Nat) : Prop := ∀ j, j < s → a (584 * j + 1) = m 1 ∧ a (584 * j + 2) = m 2
theorem Rl.rem {m m' a : Nat → Int32} {s : Nat} (h : Rl m a s) (hs : s ≤ 12) (h1 : m' 1 = m 1) (h2 : m' 2 = m 2) : Rl m' (remA m a s) (min (s + 1) 12) := by
  intro j hj
  rw [h1, h2]
  unfold remA
  by_cases c : s = 12
  · subst c
    simp only [if_true]
    unfold rem1 rem2
    by_cases c2 : j = 11
    · subst c2
      rw [if_pos (by omega), if_pos (by omega)]
      exact ⟨by rw [Nat.add_sub_cancel_left], by rw [Nat.add_sub_cancel_left]⟩
    · obtain ⟨q1, q2⟩ := h (j + 1) (by omega)
      refine ⟨?_, ?_⟩
      · rw [if_neg (by omega), if_pos (by omega), ← q1]; congr 1
      · rw [if_neg (by omega), if_pos (by omega), ← q2]; congr 1
  · simp only [c, if_false]
    unfold rem1
    by_cases c2 : j = s
    · subst c2
      rw [if_pos (by omega), if_pos (by omega)]
      exact ⟨by rw [Nat.add_sub_cancel_left], by rw [Nat.add_sub_cancel_left]⟩
    · rw [if_neg (by omega), if_neg (by omega)]
      exact h j (by omega)
def Re (Nq : Nat) (g : gG) (n k s f : Nat) : Prop := SR g 6 (gA g 207) n k ∧ Pq g (gA g 210) s f ∧ gF g 206 6 = nI s ∧ Tp g ∧ Im g ∧ gF g 0 10 = gF g 206 12 ∧ gF g 192 1 = nI 14 ∧ gF g 194 1 = nI 12 ∧ LW g (gw g 6) (gA g 207) ∧ Rl (gA g 207) (gA g 210) s ∧ Xt Nq g
def RE (Nq : Nat) (g : gG) : Prop := ∃ n k s f, Re Nq g n k s f
/-- the cells of THE LAWS stay, but for their stacks -/
def El (g g' : gG) : Prop := gn g' = gn g ∧ (∀ b, gl g' b = gl g b) ∧ (∀ b, (b < 4 ∨ 220 ≤ b) → gF g' b = gF g b) ∧ (gA g' 3 = gA g 3) ∧ ∀ b, 220 ≤ b → (b - 220) % 3 = 2 → gA g' b = gA g b
theorem isLw.keep {g g' : gG} {L : Nat} (h : isLw g L) (hn : gn g' = gn g) : isLw g' L := by unfold isLw at *; rw [hn]; exact h
theorem LW.keep {g g' : gG} {L : Nat} {m m' : Nat → Int32} (h : LW g L m) (e : El g g') (h1 : m' 1 = m 1) (h2 : m' 2 = m 2) (ht : ∀ i, 584 ≤ i → i < 984 → m' i = m i) : LW g' L m' := by
  obtain ⟨a, b, c⟩ := h
  obtain ⟨e1, e2, e3, e4, e5⟩ := e
  have ef : gF g' L = gF g L := e3 L (by rcases a with h | ⟨i, h, _⟩ <;> omega)
  have ea : gA g' (L + 2) = gA g (L + 2) := by
    rcases a with h | ⟨i, h, _⟩
    · subst h; exact e4
    · subst h; exact e5 _ (by omega) (by omega)
  refine ⟨a.keep e1, by rw [ef, h1]; exact b, ?_⟩
  have et : cut m' = cut m := by
    funext i
    unfold cut
    by_cases c : i < 400
    · rw [if_pos c, if_pos c, ht _ (by omega) (by omega)]
    · rw [if_neg c, if_neg c]
  rw [e2, ea, h1, h2, et]
  exact c
theorem El.refl (g : gG) : El g g := ⟨rfl, fun _ => rfl, fun _ _ => rfl, rfl, fun _ _ _ => rfl⟩
theorem El.trans {g h k : gG} (a : El g h) (b : El h k) : El g k := ⟨b.1.trans a.1, fun c => (b.2.1 c).trans (a.2.1 c), fun c hc => (b.2.2.1 c hc).trans (a.2.2.1 c hc), b.2.2.2.1.trans a.2.2.2.1, fun c h1 h2 => (b.2.2.2.2 c h1 h2).trans (a.2.2.2.2 c h1 h2)⟩
/-- what a call may leave as it will: scratch cells of both -/
def Kp (g g' : gG) : Prop := El g g' ∧ Ec g g' 6 18 ∧ Ec g g' 30 188 ∧ gA g' 207 = gA g 207 ∧ gA g' 208 = gA g 208 ∧ gA g' 210 = gA g 210 ∧ (∀ k, k = 3 ∨ k = 6 ∨ k = 12 ∨ k = 15 ∨ k = 16 → gF g' 206 k = gF g 206 k) ∧ gF g' 192 1 = gF g 192 1 ∧ gF g' 194 1 = gF g 194 1
theorem Re.kp {g g' : gG} {n k s f : Nat} (R : Re Nq g n k s f) (K : Kp g g') (T : Tp g') : Re Nq g' n k s f := by
  obtain ⟨r1, r2, r3, _, r5, r6, r7, r8, r9, r10, r11⟩ := R
  obtain ⟨k1, k2, k3, k4, k5, k6, k7, k8, k9⟩ := K
  have f0 : gF g' 0 = gF g 0 := k1.2.2.1 0 (by omega)
  have w6 : gw g' 6 = gw g 6 := (k2 6 (by omega) (by omega)).2.2.2
  have w30 : gw g' 30 = gw g 30 := (k3 30 (by omega) (by omega)).2.2.2
  refine ⟨?_, ?_, ?_, T, ?_, ?_, ?_, ?_, ?_, by rw [k4, k6]; exact r10, r11.keep (k7 15 (by omega)) (k7 16 (by omega)) k1.1⟩
  · rw [k4]; exact r1.keep (k2.es (by omega) (by omega))
  · rw [k6]; exact r2.keep (fun b h1 h2 => k3 b (by omega) h2) w6
  · rw [k7 6 (by omega)]; exact r3
  · obtain ⟨i1, i2⟩ := r5
    refine ⟨by rw [f0, k7 3 (by omega)]; exact i1, ?_⟩
    rw [f0]
    refine i2.imp id (fun ⟨h1, h2, n, k, h3⟩ => ⟨h1, ?_, n, k, ?_⟩)
    · rw [w30, k5]; exact h2.keep k1 rfl rfl (fun _ _ _ => rfl)
    · rw [k5]; exact h3.keep (k3.es (by omega) (by omega))
  · rw [f0, k7 12 (by omega)]; exact r6
  · rw [k8]; exact r7
  · rw [k9]; exact r8
  · rw [w6, k4]; exact r9.keep k1 rfl rfl (fun _ _ _ => rfl)
theorem Kp_F {g : gG} {k : Nat} {v : Int32} (h : k ≠ 3 ∧ k ≠ 6 ∧ k ≠ 12 ∧ k ≠ 15 ∧ k ≠ 16) : Kp g (sF g 206 k v) := by
  have h1 : ∀ b, b ≠ 206 → gF (sF g 206 k v) b = gF g b := fun b hb => gF_sF2 _ _ hb
  refine ⟨⟨rfl, fun _ => rfl, fun b hb => h1 b (by omega), rfl, fun _ _ _ => rfl⟩, fun b _ hb => ⟨h1 b (by omega), rfl, rfl, rfl⟩, fun b _ hb => ⟨h1 b (by omega), rfl, rfl, rfl⟩, rfl, rfl, rfl, ?_, congrFun (h1 192 (by omega)) 1, congrFun (h1 194 (by omega)) 1⟩
  intro j hj
  rw [gF_sF1, upd_2 _ _ (by omega)]
theorem Tp_F {g : gG} {k : Nat} {v : Int32} (T : Tp g) (h : k ≠ 8) : Tp (sF g 206 k v) := by
  obtain ⟨L, a, b, c, d⟩ := T
  refine ⟨L, a, ?_, ?_, d⟩
  · rw [gF_sF2 _ _ (by omega)]; exact b
  · rw [gF_sF1, upd_2 _ _ (by omega)]; exact c
theorem Re.thr {g : gG} {n k s f : Nat} (R : Re Nq g n k s f) (t : Int32) : Re Nq (sF g 206 0 t) n k s f := R.kp (Kp_F (by omega)) (Tp_F R.2.2.2.1 (by omega))
def remG (g : gG) (s : Nat) : gG := if s = 12 then sF (sA (sF (sA g 210 (rem2 (gA g 210))) 206 6 (nI 11)) 210 (rem1 (gA g 207) (rem2 (gA g 210)) 11)) 206 6 (nI 12) else sF (sA g 210 (rem1 (gA g 207) (gA g 210) s)) 206 6 (nI (s + 1))
theorem remG_ok (g : gG) {s : Nat} (hs : s ≤ 12) : gA (remG g s) 210 = remA (gA g 207) (gA g 210) s ∧ (∀ b, b ≠ 210 → gA (remG g s) b = gA g b) ∧ gF (remG g s) 206 6 = nI (min (s + 1) 12) ∧ (∀ k, k ≠ 6 → gF (remG g s) 206 k = gF g 206 k) ∧ (∀ b, b ≠ 206 → gF (remG g s) b = gF g b) ∧ gL (remG g s) = gL g ∧ gw (remG g s) = gw g ∧ gn (remG g s) = gn g ∧ gl (remG g s) = gl g := by
  unfold remG remA
  by_cases c : s = 12
  · subst c
    simp only [if_true]
    refine ⟨?_, fun b hb => ?_, ?_, fun k hk => ?_, fun b hb => ?_, rfl, rfl, rfl, rfl⟩
    · rw [gA_sF, gA_sA1]
    · rw [gA_sF, gA_sA2 _ _ hb, gA_sF, gA_sA2 _ _ hb]
    · rw [gF_sF1, upd_1]; rfl
    · rw [gF_sF1, upd_2 _ _ hk, gF_sA, gF_sF1, upd_2 _ _ hk, gF_sA]
    · rw [gF_sF2 _ _ hb, gF_sA, gF_sF2 _ _ hb, gF_sA]
  · simp only [c, if_false]
    refine ⟨?_, fun b hb => ?_, ?_, fun k hk => ?_, fun b hb => ?_, rfl, rfl, rfl, rfl⟩
    · rw [gA_sF, gA_sA1]
    · rw [gA_sF, gA_sA2 _ _ hb]
    · rw [gF_sF1, upd_1]; congr 1; omega
    · rw [gF_sF1, upd_2 _ _ hk, gF_sA]
    · rw [gF_sF2 _ _ hb, gF_sA]
/-- an ACT of both: kept, done on the STATE, remembered, done on the row -/
theorem act_ok {g : gG} {n k s f : Nat} (R : Re Nq g n k s f) {m' : Nat → Int32} {n' k' : Nat} (h1 : m' 1 = gA g 207 1) (h2 : m' 2 = gA g 207 2) (hl : ∀ i, 584 ≤ i → m' i = gA g 207 i) {gk g1 : gG} {f1 : Nat}
  (P : Pq gk (remA (gA g 207) (gA g 210) s) (min (s + 1) 12) f1) (e1 : Ec g gk 0 42) (e2 : gn gk = gn g) (e3 : ∀ b, gl gk b = gl g b) (e4 : ∀ b, 188 ≤ b → gF gk b = gF g b ∧ gA gk b = gA g b ∧ gL gk b = gL g b ∧ gw gk b = gw g b)
  (hF : Fs gk g1 6) (hS : SR g1 6 m' n' k') : Re Nq (sA (remG (sF g1 206 0 (nI 0)) s) 207 m') n' k' (min (s + 1) 12) f1 := by
  obtain ⟨r1, r2, r3, r4, r5, r6, r7, r8, r9, r10, r11⟩ := R
  have hs : s ≤ 12 := r2.1
  obtain ⟨q1, q2, q3, q4, q5, q6, q7, q8, q9⟩ := remG_ok (sF g1 206 0 (nI 0)) hs
  obtain ⟨a1, a2, a3, a4⟩ := hF
  have cF : ∀ b, b ≠ 206 → (b < 6 ∨ 18 ≤ b) → gF (sA (remG (sF g1 206 0 (nI 0)) s) 207 m') b = gF gk b := fun b hb hb' => by
    rw [gF_sA, q5 b hb, gF_sF2 _ _ hb]; exact (a1 b (by omega)).1
  have cA : ∀ b, b ≠ 207 → b ≠ 210 → (b < 6 ∨ 18 ≤ b) → gA (sA (remG (sF g1 206 0 (nI 0)) s) 207 m') b = gA gk b := fun b h7 h10 hb' => by
    rw [gA_sA2 _ _ h7, q2 b h10, gA_sF]; exact (a1 b (by omega)).2.1
  have cL : ∀ b, (b < 6 ∨ 18 ≤ b) → gL (sA (remG (sF g1 206 0 (nI 0)) s) 207 m') b = gL gk b := fun b hb' => by
    rw [gL_sA, q6, gL_sF]; exact (a1 b (by omega)).2.2
  have cw : ∀ b, gw (sA (remG (sF g1 206 0 (nI 0)) s) 207 m') b = gw gk b := fun b => by
    rw [gw_sA, q7, gw_sF]; exact a4 b
  have g6 : ∀ k, k ≠ 6 → k ≠ 0 → gF (sA (remG (sF g1 206 0 (nI 0)) s) 207 m') 206 k = gF g 206 k := fun k h h0 => by
    rw [gF_sA, q4 k h, gF_sF1, upd_2 _ _ h0, (a1 206 (by omega)).1, (e4 206 (by omega)).1]
  have m207 : gA g1 207 = gA g 207 := by rw [(a1 207 (by omega)).2.1, (e4 207 (by omega)).2.1]
  have m210 : gA g1 210 = gA g 210 := by rw [(a1 210 (by omega)).2.1, (e4 210 (by omega)).2.1]
  have E : El g (sA (remG (sF g1 206 0 (nI 0)) s) 207 m') := by
    refine ⟨?_, fun b => ?_, fun b hb => ?_, ?_, fun b hb hb' => ?_⟩
    · rw [gn_sA, q8, gn_sF, a2, e2]
    · rw [gl_sA, q9, gl_sF, a3, e3]
    · rw [cF b (by omega) (by omega)]
      rcases hb with h | h
      · exact (e1 b (by omega) (by omega)).1
      · exact (e4 b (by omega)).1
    · rw [cA 3 (by omega) (by omega) (by omega)]; exact (e1 3 (by omega) (by omega)).2.1
    · rw [cA b (by omega) (by omega) (by omega)]; exact (e4 b (by omega)).2.1
  refine ⟨?_, ?_, ?_, ?_, ?_, ?_, ?_, ?_, ?_, by rw [gA_sA1, gA_sA2 _ _ (by omega), q1, gA_sF, gA_sF, m207, m210]; exact r10.rem hs h1 h2, r11.keep (g6 15 (by omega) (by omega)) (g6 16 (by omega) (by omega)) E.1⟩
  · rw [gA_sA1]
    refine hS.keep (fun r hr => ⟨?_, ?_, ?_⟩)
    · rw [gF_sA, q5 _ (by omega), gF_sF2 _ _ (by omega)]
    · rw [gA_sA2 _ _ (by omega), q2 _ (by omega), gA_sF]
    · rw [gL_sA, q6, gL_sF]
  · rw [gA_sA2 _ _ (by omega), q1, gA_sF, gA_sF, m207, m210]
    exact P.keep (fun b hb hb' => ⟨cF b (by omega) (by omega), cA b (by omega) (by omega) (by omega), cL b (by omega), cw b⟩) (cw 6)
  · rw [gF_sA]; exact q3
  · obtain ⟨L, t1, t2, t3, t4⟩ := r4
    refine ⟨L, t1, ?_, ?_, fun i hi => ?_⟩
    · rw [cF 4 (by omega) (by omega), (e1 4 (by omega) (by omega)).1]; exact t2
    · rw [g6 8 (by omega) (by omega)]; exact t3
    · rw [cA 5 (by omega) (by omega) (by omega), cA 211 (by omega) (by omega) (by omega), (e1 5 (by omega) (by omega)).2.1, (e4 211 (by omega)).2.1]; exact t4 i hi
  · obtain ⟨i1, i2⟩ := r5
    have z : gF (sA (remG (sF g1 206 0 (nI 0)) s) 207 m') 0 = gF g 0 := by rw [cF 0 (by omega) (by omega)]; exact (e1 0 (by omega) (by omega)).1
    have z8 : gA (sA (remG (sF g1 206 0 (nI 0)) s) 207 m') 208 = gA g 208 := by rw [cA 208 (by omega) (by omega) (by omega)]; exact (e4 208 (by omega)).2.1
    refine ⟨by rw [z, g6 3 (by omega) (by omega)]; exact i1, ?_⟩
    rw [z]
    refine i2.imp id (fun ⟨j1, j2, n, k, j3⟩ => ⟨j1, ?_, n, k, ?_⟩)
    · rw [cw, (e1 30 (by omega) (by omega)).2.2.2, z8]; exact j2.keep E rfl rfl (fun _ _ _ => rfl)
    · rw [z8]
      refine j3.keep (fun r hr => ⟨?_, ?_, ?_⟩)
      · rw [cF _ (by omega) (by omega)]; exact (e1 _ (by omega) (by omega)).1
      · rw [cA _ (by omega) (by omega) (by omega)]; exact (e1 _ (by omega) (by omega)).2.1
      · rw [cL _ (by omega)]; exact (e1 _ (by omega) (by omega)).2.2.1
  · rw [cF 0 (by omega) (by omega), (e1 0 (by omega) (by omega)).1, g6 12 (by omega) (by omega)]; exact r6
  · rw [cF 192 (by omega) (by omega), (e4 192 (by omega)).1]; exact r7
  · rw [cF 194 (by omega) (by omega), (e4 194 (by omega)).1]; exact r8
  · rw [cw, (e1 6 (by omega) (by omega)).2.2.2, gA_sA1]
    exact r9.keep E h1 h2 (fun i hi _ => hl i hi)
