variable {Nq : Nat}
/-! ===== the relation behind a text: wrong, and a LAW that is taken ===== -/
def El2 (g g' : gG) : Prop := gn g' = gn g ∧ (∀ b, gl g' b = gl g b) ∧ (∀ b, (1 ≤ b ∧ b < 4 ∨ 220 ≤ b) → gF g' b = gF g b) ∧ (gA g' 3 = gA g 3) ∧ ∀ b, 220 ≤ b → (b - 220) % 3 = 2 → gA g' b = gA g b
/-- a LAW's cells stay -/
theorem LW.of {g g' : gG} {L : Nat} {m m' : Nat → Int32} (h : LW g L m) (hn : gn g ≤ gn g') (hF : gF g' L = gF g L) (hA : gA g' (L + 2) = gA g (L + 2)) (hl : gl g' (L + 2) = gl g (L + 2)) (h1 : m' 1 = m 1) (h2 : m' 2 = m 2) (ht : ∀ i, 584 ≤ i → i < 984 → m' i = m i) : LW g' L m' := by
  obtain ⟨a, b, c⟩ := h
  have et : cut m' = cut m := by
    funext i
    unfold cut
    by_cases c : i < 400
    · rw [if_pos c, if_pos c, ht _ (by omega) (by omega)]
    · rw [if_neg c, if_neg c]
  refine ⟨?_, by rw [hF, h1]; exact b, by rw [hl, hA, h1, h2, et]; exact c⟩
  rcases a with h | ⟨i, h, h3⟩
  · exact Or.inl h
  · exact Or.inr ⟨i, h, by omega⟩
theorem LW.keep2 {g g' : gG} {L : Nat} {m m' : Nat → Int32} (h : LW g L m) (e : El2 g g') (h1 : m' 1 = m 1) (h2 : m' 2 = m 2) (ht : ∀ i, 584 ≤ i → i < 984 → m' i = m i) : LW g' L m' := by
  obtain ⟨e1, e2, e3, e4, e5⟩ := e
  refine h.of (Nat.le_of_eq e1.symm) (e3 L (by rcases h.1 with h | ⟨i, h, _⟩ <;> omega)) ?_ (e2 _) h1 h2 ht
  rcases h.1 with h | ⟨i, h, _⟩
  · subst h; exact e4
  · subst h; exact e5 _ (by omega) (by omega)
theorem Re.kp2 {g g' : gG} {n k s f : Nat} (R : Re Nq g n k s f) (e : El2 g g') (k2 : Ec g g' 6 18) (k3 : Ec g g' 30 188) (m7 : gA g' 207 = gA g 207) (m8 : gA g' 208 = gA g 208) (m10 : gA g' 210 = gA g 210) (f3 : gF g' 206 3 = gF g 206 3) (f6 : gF g' 206 6 = gF g 206 6) (f9 : gF g' 0 9 = gF g 0 9) (f10 : gF g' 0 10 = gF g' 206 12) (a1 : gF g' 192 1 = gF g 192 1) (a2 : gF g' 194 1 = gF g 194 1) (B : Bo g') (T : Tp g') : Re Nq g' n k s f := by
  obtain ⟨r1, r2, r3, _, r5, r6, r7, r8, r9, r10, r11⟩ := R
  have w6 : gw g' 6 = gw g 6 := (k2 6 (by omega) (by omega)).2.2.2
  have w30 : gw g' 30 = gw g 30 := (k3 30 (by omega) (by omega)).2.2.2
  refine ⟨?_, ?_, ?_, T, ?_, f10, ?_, ?_, ?_, by rw [m7, m10]; exact r10, B, by rw [e.1]; exact r11.2⟩
  · rw [m7]; exact r1.keep (k2.es (by omega) (by omega))
  · rw [m10]; exact r2.keep (fun b h1 h2 => k3 b (by omega) h2) w6
  · rw [f6]; exact r3
  · obtain ⟨i1, i2⟩ := r5
    refine ⟨by rw [f9, f3]; exact i1, ?_⟩
    rw [f9]
    refine i2.imp id (fun ⟨h1, h2, n, k, h3⟩ => ⟨h1, ?_, n, k, ?_⟩)
    · rw [w30, m8]; exact h2.keep2 e rfl rfl (fun _ _ _ => rfl)
    · rw [m8]; exact h3.keep (k3.es (by omega) (by omega))
  · rw [a1]; exact r7
  · rw [a2]; exact r8
  · rw [w6, m7]; exact r9.keep2 e rfl rfl (fun _ _ _ => rfl)
theorem SR.cg2 {g : gG} {x : Nat} {m m' : Nat → Int32} {n k : Nat} (S : SR g x m n k) (h : ∀ i, i < 584 ∧ i ≠ 1 ∧ i ≠ 2 → m' i = m i) : SR g x m' n k := by
  obtain ⟨V, k1, m3, m4, X, L, B, W, I⟩ := S
  have h10 := V.2.2.1
  obtain ⟨hx, hn, _, hk, h12, e3, e4, e5, e6, e7, e8, e11, e9, e10⟩ := V
  refine ⟨⟨hx, hn, h10, hk, h12, ?_, ?_, ?_, ?_, ?_, ?_, ?_, ?_, ?_⟩, k1, ?_, ?_, X.keep rfl (h _ (by omega)) (h _ (by omega)) (h _ (by omega)) (h _ (by omega)) (h _ (by omega)), L.keep rfl rfl (h _ (by omega)) (fun q _ hq => h q (by omega)), B, W.cg (fun q _ => h _ (by omega)) (fun i _ => h _ (by omega)) (fun q _ => h _ (by omega)), I.cg h10 (fun q _ => h _ (by omega)) (fun q _ => h _ (by omega)) (fun q _ => h _ (by omega)) (fun q _ _ => h q (by omega))⟩
  · intro q hq; rw [h _ (by omega)]; exact e3 q hq
  · intro q hq; rw [h _ (by omega)]; exact e4 q hq
  · intro q hq; rw [h _ (by omega)]; exact e5 q hq
  · intro q hq; rw [h _ (by omega)]; exact e6 q hq
  · intro q hq; rw [h _ (by omega)]; exact e7 q hq
  · intro q hq; rw [h _ (by omega)]; exact e8 q hq
  · intro q hq; rw [h _ (by omega)]; exact e11 q hq
  · intro p o hp ho; rw [h _ (by omega)]; exact e9 p o hp ho
  · intro p o hp ho; rw [h _ (by omega)]; exact e10 p o hp ho
  · rw [h _ (by omega)]; exact m3
  · rw [h _ (by omega)]; exact m4
/-- another LAW -/
theorem law_ok {g g' : gG} {n k s f : Nat} (R : Re Nq g n k s f) (hn : gn g' = gn g + 3) (hE : Es g g' 6) (h3 : Es g g' 30) (w30 : gw g' 30 = gw g 30) (hp : gF g' 42 2 = nI 0) (hp1 : gF g' 42 1 = gF g 42 1) (hm : ∀ i, i < 584 ∧ i ≠ 1 ∧ i ≠ 2 → gA g' 207 i = gA g 207 i) (m8 : gA g' 208 = gA g 208) (f3 : gF g' 206 3 = gF g 206 3) (f6 : gF g' 206 6 = nI 0) (f9 : gF g' 0 9 = gF g 0 9) (f10 : gF g' 0 10 = gF g' 206 12) (a1 : gF g' 192 1 = gF g 192 1) (a2 : gF g' 194 1 = gF g 194 1) (B : Bo g') (T : Tp g')
  (ho : ∀ L, isLw g L → gF g' L = gF g L ∧ gA g' (L + 2) = gA g (L + 2) ∧ gl g' (L + 2) = gl g (L + 2)) (hw : LW g' (gw g' 6) (gA g' 207)) : RE (Nq + 1) g' := by
  obtain ⟨r1, r2, r3, _, r5, r6, r7, r8, r9, r10, r11⟩ := R
  refine ⟨n, k, 0, f, ?_, ⟨by omega, r2.2.1, hp, hp1.trans r2.2.2.2.1, fun j hj => absurd hj (Nat.not_lt_zero j)⟩, f6, T, ?_, f10, by rw [a1]; exact r7, by rw [a2]; exact r8, hw, fun j hj => absurd hj (Nat.not_lt_zero j), B, by rw [hn, r11.2]; omega⟩
  · exact (r1.keep hE).cg2 hm
  · obtain ⟨i1, i2⟩ := r5
    refine ⟨by rw [f9, f3]; exact i1, ?_⟩
    rw [f9]
    refine i2.imp id (fun ⟨h1, h2, n, k, h4⟩ => ⟨h1, ?_, n, k, ?_⟩)
    · rw [w30, m8]
      obtain ⟨q1, q2, q3⟩ := ho _ h2.1
      exact h2.of (by omega) q1 q2 q3 rfl rfl (fun _ _ _ => rfl)
    · rw [m8]; exact h4.keep h3
/-! ===== a LAW is made ===== -/
def nwG (g : gG) (v : Int32) (len : Nat) : gG := sA (sA (sF ((gn g + 3, (fun b => if b = 220 + gn g + 2 then len else gl g b), g.1.2.2), g.2) (220 + gn g) 0 v) (220 + gn g + 1) (fun _ => 0)) (220 + gn g + 2) (fun _ => 0)
theorem nw_F {g : gG} {v : Int32} {len b : Nat} (h : b ≠ 220 + gn g) : gF (nwG g v len) b = gF g b := by
  unfold nwG; rw [gF_sA, gF_sA, gF_sF2 _ _ h]; rfl
theorem nw_F0 {g : gG} {v : Int32} {len : Nat} : gF (nwG g v len) (220 + gn g) 0 = v := by
  unfold nwG; rw [gF_sA, gF_sA, gF_sF1, upd_1]
theorem nw_A {g : gG} {v : Int32} {len b : Nat} (h1 : b ≠ 220 + gn g + 1) (h2 : b ≠ 220 + gn g + 2) : gA (nwG g v len) b = gA g b := by
  unfold nwG; rw [gA_sA2 _ _ h2, gA_sA2 _ _ h1]; rfl
theorem nw_A1 {g : gG} {v : Int32} {len : Nat} : gA (nwG g v len) (220 + gn g + 1) = fun _ => 0 := by
  unfold nwG; rw [gA_sA2 _ _ (by omega), gA_sA1]
theorem nw_A2 {g : gG} {v : Int32} {len : Nat} : gA (nwG g v len) (220 + gn g + 2) = fun _ => 0 := by
  unfold nwG; rw [gA_sA1]
theorem nw_L {g : gG} {v : Int32} {len : Nat} : gL (nwG g v len) = gL g := rfl
theorem nw_w {g : gG} {v : Int32} {len : Nat} : gw (nwG g v len) = gw g := rfl
theorem nw_n {g : gG} {v : Int32} {len : Nat} : gn (nwG g v len) = gn g + 3 := rfl
theorem nw_l {g : gG} {v : Int32} {len b : Nat} : gl (nwG g v len) b = if b = 220 + gn g + 2 then len else gl g b := rfl
theorem nw_c {g : gG} {v : Int32} {len b : Nat} (h : b < 220 + gn g ∨ 220 + gn g + 2 < b) : gc (nwG g v len) b = gc g b := by
  unfold gc
  rw [nw_F (by omega), nw_A (by omega) (by omega), nw_L, nw_w, nw_l, if_neg (by omega)]
theorem ps_lt {h : ab_H} {e : va_E} {b : Nat} (hb : b ≠ h.1) : (ab_ps h e).2 b = h.2 b := if_neg hb
theorem ps_eq {h : ab_H} {e : va_E} : (ab_ps h e).2 h.1 = e := if_pos rfl
theorem cl_lawInit {g : gG} {N : Nat} (hN : gn g = 3 * N) (hb : 220 + gn g + 3 ≤ ab_SB) (v : Int32) {len : Nat} (hl : len ≤ 400) : fX2_init (220 + gn g) v (nI len) (ab_ps (gH g) (.inr (2, [.int 0, .null, .null]))) = some (gH (nwG g v len)) := by
  have sb : ab_SB = 1000000 := rfl
  obtain ⟨c, hc⟩ : ∃ c, c = 220 + gn g := ⟨_, rfl⟩
  have g1 : (gH g).1 = c := hc.symm
  have mx : ∀ h, fJ9_max_7cf53 (nI 0) (nI len) h = some (nI len) := fun h => by rw [cl_max h (by omega) (by omega), Nat.max_eq_right (Nat.zero_le _)]
  have p1 : (ab_ps (gH g) (.inr (2, [.int 0, .null, .null]))).1 = c + 1 := by show (gH g).1 + 1 = _; rw [g1]
  -- the stack
  have n1 : ab_na 0 24 (ab_ps (gH g) (.inr (2, [.int 0, .null, .null]))) (nI 24) = some (ab_ps (ab_ps (gH g) (.inr (2, [.int 0, .null, .null]))) (.inl (0, 24, .inl (fun _ => 0)))) := by
    unfold ab_na
    rw [if_pos ⟨by rw [p1]; omega, by decide, by decide⟩]
    rfl
  generalize hH1 : ab_ps (gH g) (.inr (2, [.int 0, .null, .null])) = H1 at *
  generalize hH2 : ab_ps H1 (.inl (0, 24, .inl (fun _ => 0))) = H2 at *
  have q2 : H2.1 = c + 2 := by rw [← hH2]; show H1.1 + 1 = _; rw [p1]
  have o2 : H2.2 c = .inr (2, [.int 0, .null, .null]) := by
    rw [← hH2, ps_lt (by rw [p1]; omega), ← hH1, ← g1, ps_eq]
  have w1 : ab_fw H2 c 2 2 (.ref H1.1) = some (ab_up H2 c (.inr (2, [.int 0, .null, .ref H1.1]))) := g_fw o2 (by rw [q2]; omega) (by simp)
  have w2 : ab_fw (ab_up H2 c (.inr (2, [.int 0, .null, .ref H1.1]))) c 2 0 (.int v) = some (ab_up (ab_up H2 c (.inr (2, [.int 0, .null, .ref H1.1]))) c (.inr (2, [.int v, .null, .ref H1.1]))) := g_fw (h := ab_up H2 c (.inr (2, [.int 0, .null, .ref H1.1]))) (if_pos rfl) (by show c < H2.1; rw [q2]; omega) (by simp)
  generalize hH3 : ab_up (ab_up H2 c (.inr (2, [.int 0, .null, .ref H1.1]))) c (.inr (2, [.int v, .null, .ref H1.1])) = H3 at *
  have q3 : H3.1 = c + 2 := by rw [← hH3]; exact q2
  have n2 : ab_na 0 400 H3 (nI len) = some (ab_ps H3 (.inl (0, len, .inl (fun _ => 0)))) := by
    unfold ab_na
    rw [if_pos ⟨by rw [q3]; omega, nI_pos (by omega), by rw [nI_clamp (by omega)]; exact hl⟩, nI_clamp (by omega)]
    rfl
  generalize hH4 : ab_ps H3 (.inl (0, len, .inl (fun _ => 0))) = H4 at *
  have q4 : H4.1 = c + 3 := by rw [← hH4]; show H3.1 + 1 = _; rw [q3]
  have o4 : H4.2 c = .inr (2, [.int v, .null, .ref H1.1]) := by
    rw [← hH4, ps_lt (by rw [q3]; omega), ← hH3]; exact if_pos rfl
  have w3 : ab_fw H4 c 2 1 (.ref H3.1) = some (ab_up H4 c (.inr (2, [.int v, .ref H3.1, .ref H1.1]))) := g_fw o4 (by rw [q4]; omega) (by simp)
  rw [← hc]
  unfold fX2_init
  refine (bd_e n1).trans ?_
  refine (bd_e w1).trans ?_
  refine (bd_e w2).trans ?_
  refine (bd_e (mx _)).trans ?_
  refine (bd_e n2).trans ?_
  refine (bd_e w3).trans ?_
  refine congrArg some (Prod.ext ?_ ?_)
  · show H4.1 = 220 + (gn g + 3)
    rw [q4]; omega
  · funext b
    show va_up H4.2 c _ b = gc (nwG g v len) b
    unfold va_up
    by_cases c0 : b = c
    · rw [if_pos c0, c0]
      have e : gc (nwG g v len) c = glc c ((c - 220) % 3) (gF (nwG g v len) c) (gA (nwG g v len) c) (gl (nwG g v len) c) := by
        unfold gc gcl; rw [if_neg (by omega)]
      rw [e, show (c - 220) % 3 = 0 by omega, q3, p1]
      show (Sum.inr (2, [Value.int v, .ref (c + 2), .ref (c + 1)]) : va_E) = Sum.inr (2, [.int (gF (nwG g v len) c 0), .ref (c + 2), .ref (c + 1)])
      rw [hc, nw_F0]
    · rw [if_neg c0]
      by_cases c2 : b = c + 2
      · have e4 : H4.2 b = .inl (0, len, .inl (fun _ => 0)) := by rw [← hH4, c2, ← q3, ps_eq]
        have e : gc (nwG g v len) b = glc b ((b - 220) % 3) (gF (nwG g v len) b) (gA (nwG g v len) b) (gl (nwG g v len) b) := by
          unfold gc gcl; rw [if_neg (by omega)]
        rw [e4, e, show (b - 220) % 3 = 2 by omega, c2, hc]
        show (Sum.inl (0, len, .inl (fun _ => 0)) : va_E) = Sum.inl (0, gl (nwG g v len) (220 + gn g + 2), .inl (gA (nwG g v len) (220 + gn g + 2)))
        rw [nw_A2, nw_l, if_pos rfl]
      · have e4 : H4.2 b = H2.2 b := by
          rw [← hH4, ps_lt (by rw [q3]; exact c2), ← hH3]
          show va_up (va_up H2.2 c _) c _ b = _
          unfold va_up
          rw [if_neg c0, if_neg c0]
        rw [e4]
        by_cases c1 : b = c + 1
        · have e5 : H2.2 b = .inl (0, 24, .inl (fun _ => 0)) := by rw [← hH2, c1, ← p1, ps_eq]
          have e : gc (nwG g v len) b = glc b ((b - 220) % 3) (gF (nwG g v len) b) (gA (nwG g v len) b) (gl (nwG g v len) b) := by
            unfold gc gcl; rw [if_neg (by omega)]
          rw [e5, e, show (b - 220) % 3 = 1 by omega, c1, hc]
          show (Sum.inl (0, 24, .inl (fun _ => 0)) : va_E) = Sum.inl (0, 24, .inl (gA (nwG g v len) (220 + gn g + 1)))
          rw [nw_A1]
        · rw [← hH2, ps_lt (by rw [p1]; exact c1), ← hH1, ps_lt (by rw [g1]; exact c0), nw_c (by omega)]
          rfl
