/-! ===== keeping and remembering ===== -/
theorem SR.cg {g : gG} {x : Nat} {m m' : Nat → Int32} {n k : Nat} (S : SR g x m n k) (h : ∀ i, i < 584 → m' i = m i) : SR g x m' n k := by
  obtain ⟨V, k1, m3, m4, X, L, B, W, I⟩ := S
  have h10 := V.2.2.1
  obtain ⟨hx, hn, _, hk, h12, e3, e4, e5, e6, e7, e8, e11, e9, e10⟩ := V
  refine ⟨⟨hx, hn, h10, hk, h12, ?_, ?_, ?_, ?_, ?_, ?_, ?_, ?_, ?_⟩, k1, ?_, ?_, X.keep rfl (h _ (by omega)) (h _ (by omega)) (h _ (by omega)) (h _ (by omega)) (h _ (by omega)), L.keep rfl rfl (h _ (by omega)) (fun q _ hq => h q hq), B, W.al (fun q hq _ => h q (by omega)) h10, I.al (fun q hq _ => h q (by omega)) h10⟩
  · intro q hq; rw [h _ (by omega)]; exact e3 q hq
  · intro q hq; rw [h _ (by omega)]; exact e4 q hq
  · intro q hq; rw [h _ (by omega)]; exact e5 q hq
  · intro q hq; rw [h _ (by omega)]; exact e6 q hq
  · intro q hq; rw [h _ (by omega)]; exact e7 q hq
  · intro q hq; rw [h _ (by omega)]; exact e8 q hq
  · intro q hq; rw [h _ (by omega)]; exact e11 q hq
  · intro p o hp ho; rw [h _ (by omega)]; exact e9 p o hp ho
  · intro p o hp ho; rw [h _ (by omega)]; exact e10 p o hp ho
  · rw [h _ (by omega)]; exact m3
  · rw [h _ (by omega)]; exact m4
/-- the kept STATES of the class and the reference's rows of acts -/
def Pq (g : gG) (a : Nat → Int32) (s f : Nat) : Prop := s ≤ 12 ∧ f < 12 ∧ gF g 42 2 = nI s ∧ gF g 42 1 = nI f ∧ ∀ j, j < s → gw g (44 + 12 * ((f + j) % 12)) = gw g 6 ∧ ∃ n k, SR g (44 + 12 * ((f + j) % 12)) (fun i => a (584 * j + i)) n k
def Ec (g g' : gG) (lo hi : Nat) : Prop := ∀ b, lo ≤ b → b < hi → gF g' b = gF g b ∧ gA g' b = gA g b ∧ gL g' b = gL g b ∧ gw g' b = gw g b
theorem Ec.es {g g' : gG} {lo hi x : Nat} (h : Ec g g' lo hi) (h1 : lo ≤ x) (h2 : x + 12 ≤ hi) : Es g g' x := fun r hr => by
  obtain ⟨a, b, c, _⟩ := h (x + r) (by omega) (by omega)
  exact ⟨a, b, c⟩
theorem Pq.keep {g g' : gG} {a : Nat → Int32} {s f : Nat} (P : Pq g a s f) (h : Ec g g' 42 188) (hw : gw g' 6 = gw g 6) : Pq g' a s f := by
  obtain ⟨p1, p2, p3, p4, p5⟩ := P
  have h42 := (h 42 (by omega) (by omega)).1
  refine ⟨p1, p2, by rw [h42]; exact p3, by rw [h42]; exact p4, fun j hj => ?_⟩
  obtain ⟨q1, n, k, q2⟩ := p5 j hj
  have hm : (f + j) % 12 < 12 := Nat.mod_lt _ (by decide)
  refine ⟨?_, n, k, q2.keep (h.es (by omega) (by omega))⟩
  rw [(h _ (by omega) (by omega)).2.2.2, hw]; exact q1
def remA (m a : Nat → Int32) (s : Nat) : Nat → Int32 := if s = 12 then rem1 m (rem2 a) 11 else rem1 m a s
theorem keepC {g : gG} {a m : Nat → Int32} {s f n k : Nat} (P : Pq g a s f) (S : SR g 6 m n k) : ∃ g1 f1, fX6_keep 42 6 (gH g) = some (gH g1) ∧ Pq g1 (remA m a s) (min (s + 1) 12) f1 ∧ Ec g g1 0 42 ∧ Ec g g1 188 (220 + gn g) ∧ gn g1 = gn g ∧ (∀ b, gl g1 b = gl g b) ∧ (∀ b, 188 ≤ b → gF g1 b = gF g b ∧ gA g1 b = gA g b ∧ gL g1 b = gL g b ∧ gw g1 b = gw g b) := by
  obtain ⟨p1, p2, p3, p4, p5⟩ := P
  have hm : ∀ a, a % 12 < 12 := fun a => Nat.mod_lt _ (by decide)
  have hk := cl_keep g p1 p2 p3 p4
  by_cases c : s = 12
  · subst c
    rw [if_pos rfl] at hk
    have m1 := hm ((f + 1) % 12 + 11)
    have C := cpS_Cp (sF (sF g 42 1 (nI ((f + 1) % 12))) 42 2 (nI 11)) (x := 44 + 12 * (((f + 1) % 12 + 11) % 12)) (y := 6) (by omega)
    have hout : ∀ b, (b < 42 ∨ 188 ≤ b) → gF (sF (cpS (sF (sF g 42 1 (nI ((f + 1) % 12))) 42 2 (nI 11)) (44 + 12 * (((f + 1) % 12 + 11) % 12)) 6) 42 2 (nI 12)) b = gF g b ∧ gA (sF (cpS (sF (sF g 42 1 (nI ((f + 1) % 12))) 42 2 (nI 11)) (44 + 12 * (((f + 1) % 12 + 11) % 12)) 6) 42 2 (nI 12)) b = gA g b ∧ gL (sF (cpS (sF (sF g 42 1 (nI ((f + 1) % 12))) 42 2 (nI 11)) (44 + 12 * (((f + 1) % 12 + 11) % 12)) 6) 42 2 (nI 12)) b = gL g b ∧ gw (sF (cpS (sF (sF g 42 1 (nI ((f + 1) % 12))) 42 2 (nI 11)) (44 + 12 * (((f + 1) % 12 + 11) % 12)) 6) 42 2 (nI 12)) b = gw g b := by
      intro b hb
      obtain ⟨c1, c2, c3, c4⟩ := C.1 b (by omega)
      rw [gF_sF2 _ _ (by omega), gA_sF, gL_sF, gw_sF, c1, c2, c3, c4, gF_sF2 _ _ (by omega), gF_sF2 _ _ (by omega)]
      exact ⟨rfl, rfl, rfl, rfl⟩
    refine ⟨_, (f + 1) % 12, hk, ⟨by omega, hm _, ?_, ?_, ?_⟩, fun b _ hb => hout b (by omega), fun b hb _ => hout b (by omega), C.2.1, C.2.2.1, fun b hb => hout b (by omega)⟩
    · rw [gF_sF1, upd_1]; rfl
    · have e42 := (C.1 42 (by omega)).1
      rw [gF_sF1, upd_2 _ _ (by omega), e42, gF_sF1, upd_2 _ _ (by omega), gF_sF1, upd_1]
    · intro j hj
      by_cases cj : j = 11
      · subst cj
        refine ⟨?_, n, k, ?_⟩
        · rw [gw_sF, gw_sF, C.2.2.2.2.1, (C.1 6 (by omega)).2.2.2]
        · have S1 : SR (sF (sF g 42 1 (nI ((f + 1) % 12))) 42 2 (nI 11)) 6 m n k := S.keep (fun r hr => ⟨by rw [gF_sF2 _ _ (by omega), gF_sF2 _ _ (by omega)], rfl, rfl⟩)
          have S2 := S1.copy (isStP m1) C
          refine (S2.keep (g' := sF _ 42 2 (nI 12)) (fun r hr => ⟨by rw [gF_sF2 _ _ (by omega)], rfl, rfl⟩)).cg (fun i hi => ?_)
          show remA m a 12 (584 * 11 + i) = m i
          unfold remA rem1
          rw [if_pos rfl, if_pos (by omega), Nat.add_sub_cancel_left]
      · obtain ⟨q1, n', k', q2⟩ := p5 (j + 1) (by omega)
        have ej : ((f + 1) % 12 + j) % 12 = (f + (j + 1)) % 12 := by omega
        have m2 := hm (f + (j + 1))
        have hne : (f + (j + 1)) % 12 ≠ ((f + 1) % 12 + 11) % 12 := by omega
        have hd : 44 + 12 * ((f + (j + 1)) % 12) + 12 ≤ 44 + 12 * (((f + 1) % 12 + 11) % 12) ∨ 44 + 12 * (((f + 1) % 12 + 11) % 12) + 12 ≤ 44 + 12 * ((f + (j + 1)) % 12) := by omega
        rw [ej]
        refine ⟨?_, n', k', ?_⟩
        · rw [gw_sF, gw_sF, (C.1 _ (by omega)).2.2.2, (C.1 6 (by omega)).2.2.2]; exact q1
        · have S1 : SR (sF (sF g 42 1 (nI ((f + 1) % 12))) 42 2 (nI 11)) _ _ n' k' := q2.keep (fun r hr => ⟨by rw [gF_sF2 _ _ (by omega), gF_sF2 _ _ (by omega)], rfl, rfl⟩)
          have S2 := S1.keep (C.es hd)
          refine (S2.keep (g' := sF _ 42 2 (nI 12)) (fun r hr => ⟨by rw [gF_sF2 _ _ (by omega)], rfl, rfl⟩)).cg (fun i hi => ?_)
          show remA m a 12 (584 * j + i) = a (584 * (j + 1) + i)
          unfold remA rem1 rem2
          rw [if_pos rfl, if_neg (by omega), if_pos (by omega)]; congr 1; omega
  · rw [if_neg c] at hk
    have m1 := hm (f + s)
    have C := cpS_Cp g (x := 44 + 12 * ((f + s) % 12)) (y := 6) (by omega)
    have hout : ∀ b, (b < 42 ∨ 188 ≤ b) → gF (sF (cpS g (44 + 12 * ((f + s) % 12)) 6) 42 2 (nI (s + 1))) b = gF g b ∧ gA (sF (cpS g (44 + 12 * ((f + s) % 12)) 6) 42 2 (nI (s + 1))) b = gA g b ∧ gL (sF (cpS g (44 + 12 * ((f + s) % 12)) 6) 42 2 (nI (s + 1))) b = gL g b ∧ gw (sF (cpS g (44 + 12 * ((f + s) % 12)) 6) 42 2 (nI (s + 1))) b = gw g b := by
      intro b hb
      obtain ⟨c1, c2, c3, c4⟩ := C.1 b (by omega)
      rw [gF_sF2 _ _ (by omega), gA_sF, gL_sF, gw_sF, c1, c2, c3, c4]
      exact ⟨rfl, rfl, rfl, rfl⟩
    refine ⟨_, f, hk, ⟨by omega, p2, ?_, ?_, ?_⟩, fun b _ hb => hout b (by omega), fun b hb _ => hout b (by omega), C.2.1, C.2.2.1, fun b hb => hout b (by omega)⟩
    · rw [gF_sF1, upd_1]; congr 1; omega
    · rw [gF_sF1, upd_2 _ _ (by omega), (C.1 42 (by omega)).1]; exact p4
    · intro j hj
      by_cases cj : j = s
      · subst cj
        refine ⟨?_, n, k, ?_⟩
        · rw [gw_sF, gw_sF, C.2.2.2.2.1, (C.1 6 (by omega)).2.2.2]
        · have S2 := S.copy (isStP m1) C
          refine (S2.keep (g' := sF _ 42 2 (nI (j + 1))) (fun r hr => ⟨by rw [gF_sF2 _ _ (by omega)], rfl, rfl⟩)).cg (fun i hi => ?_)
          show remA m a j (584 * j + i) = m i
          unfold remA rem1
          rw [if_neg c, if_pos (by omega), Nat.add_sub_cancel_left]
      · obtain ⟨q1, n', k', q2⟩ := p5 j (by omega)
        have m2 := hm (f + j)
        have hne : (f + j) % 12 ≠ (f + s) % 12 := by omega
        have hd : 44 + 12 * ((f + j) % 12) + 12 ≤ 44 + 12 * ((f + s) % 12) ∨ 44 + 12 * ((f + s) % 12) + 12 ≤ 44 + 12 * ((f + j) % 12) := by omega
        refine ⟨?_, n', k', ?_⟩
        · rw [gw_sF, gw_sF, (C.1 _ (by omega)).2.2.2, (C.1 6 (by omega)).2.2.2]; exact q1
        · have S2 := q2.keep (C.es hd)
          refine (S2.keep (g' := sF _ 42 2 (nI (s + 1))) (fun r hr => ⟨by rw [gF_sF2 _ _ (by omega)], rfl, rfl⟩)).cg (fun i hi => ?_)
          show remA m a s (584 * j + i) = a (584 * j + i)
          unfold remA rem1
          rw [if_neg c, if_neg (by omega)]
