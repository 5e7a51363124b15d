/-! ===== the relation between a STATE and a row of the reference; what must hold of the row ===== -/
def Sx (g : gG) (x : Nat) (m : Nat → Int32) : Prop := gF g x 2 = m 5 ∧ gF g x 3 = m 6 ∧ gF g x 4 = m 7 ∧ gF g x 5 = m 9 ∧ gF g x 6 = m 0 ∧ nv (m 0) ≤ 12
def pkL (hr : Int32) (p h f w : Nat) : Int64 := ((((hr.toInt64 <<< ((nI 16).toInt64 &&& 63)) ||| ((nI p <<< ((nI 12) &&& 31)).toInt64)) ||| ((nI h <<< ((nI 8) &&& 31)).toInt64)) ||| ((nI f <<< ((nI 4) &&& 31)).toInt64)) ||| (nI w).toInt64
def Lg (g : gG) (x : Nat) (m : Nat → Int32) : Prop := ∃ r nx, r ≤ 60 ∧ nx < 60 ∧ gF g (x + 1) 1 = nI r ∧ m 8 = nI r ∧ gF g (x + 1) 2 = nI nx ∧
  ∀ a, a < r → ∃ p h f w, p < 16 ∧ h < 16 ∧ f < 16 ∧ w < 16 ∧ gL g (x + 2) ((nx + 59 - a) % 60) = pkL (m (284 + 5 * a)) p h f w ∧ m (285 + 5 * a) = nI p ∧ m (286 + 5 * a) = nI h ∧ m (287 + 5 * a) = nI f + (-1) ∧ m (288 + 5 * a) = nI w
def Sb (g : gG) (x n : Nat) : Prop := ∀ p, n ≤ p → p < 10 → gA g (x + 6) p = -1 ∧ gA g (x + 7) p = -1 ∧ gA g (x + 8) p = nI 0 ∧ ∀ o, o < 10 → gA g (x + 9) (p * 10 + o) = nI 0 ∧ gA g (x + 9) (o * 10 + p) = nI 0
def Iw (m : Nat → Int32) (n k : Nat) : Prop := (∀ p, p < n → m (12 + 6 * p + 2) = -1 ∨ ∃ j, j < n ∧ m (12 + 6 * p + 2) = nI j) ∧
  (∀ p q, p < n → q < n → m (12 + 6 * p + 2) = m (12 + 6 * q + 2) → m (12 + 6 * p + 2) = -1 ∨ p = q) ∧
  (∀ h, h < 12 → m (272 + h) = -1 ∨ (h < k ∧ ∃ j, j < n ∧ m (272 + h) = nI j)) ∧
  (∀ h i, h < 12 → i < 12 → m (272 + h) = m (272 + i) → m (272 + h) = -1 ∨ h = i) ∧
  (∀ p h, p < n → h < 12 → m (12 + 6 * p + 2) = m (272 + h) → m (272 + h) = -1) ∧
  (∀ p, p < n → m (12 + 6 * p + 3) = -1 ∨ ∃ j, j < k ∧ m (12 + 6 * p + 3) = nI j)
def Ix (m : Nat → Int32) (n : Nat) : Prop := (∀ p, p < n → nv (m (12 + 6 * p)) < 256) ∧
  (∀ p, p < n → m (12 + 6 * p + 4) = -1 ∨ ∃ j, j < n ∧ m (12 + 6 * p + 4) = nI j) ∧
  (∀ p, p < n → nv (m (12 + 6 * p + 5)) < 1024) ∧
  (∀ p o, p < n → o < n → ∃ j, j < n ∧ m (72 + 10 * p + o) = nI j) ∧
  (∀ p o i, p < n → o < n → i < n → m (72 + 10 * p + o) = m (72 + 10 * p + i) → o = i) ∧
  (∀ p o, p < n → n ≤ o → o < 10 → m (72 + 10 * p + o) = nI o)
def SR (g : gG) (x : Nat) (m : Nat → Int32) (n k : Nat) : Prop := Sv g x m n k ∧ 1 ≤ k ∧ m 3 = nI n ∧ m 4 = nI k ∧ Sx g x m ∧ Lg g x m ∧ Sb g x n ∧ Iw m n k ∧ Ix m n
/-- stores that differ at the cells of one STATE alone -/
def Fs (g g' : gG) (x : Nat) : Prop := (∀ b, (b < x ∨ x + 12 ≤ b) → gF g' b = gF g b ∧ gA g' b = gA g b ∧ gL g' b = gL g b) ∧ gn g' = gn g ∧ (∀ b, gl g' b = gl g b) ∧ ∀ b, gw g' b = gw g b
theorem Fs.refl (g : gG) (x : Nat) : Fs g g x := ⟨fun _ _ => ⟨rfl, rfl, rfl⟩, rfl, fun _ => rfl, fun _ => rfl⟩
theorem Fs.trans {g h k : gG} {x : Nat} (a : Fs g h x) (b : Fs h k x) : Fs g k x := ⟨fun c hc => ⟨((b.1 c hc).1).trans (a.1 c hc).1, ((b.1 c hc).2.1).trans (a.1 c hc).2.1, ((b.1 c hc).2.2).trans (a.1 c hc).2.2⟩, b.2.1.trans a.2.1, fun c => (b.2.2.1 c).trans (a.2.2.1 c), fun c => (b.2.2.2 c).trans (a.2.2.2 c)⟩
theorem Fs_A {g : gG} {x r : Nat} {f : Nat → Int32} (hr : r < 12) : Fs g (sA g (x + r) f) x := ⟨fun b hb => ⟨rfl, gA_sA2 g f (by omega), rfl⟩, rfl, fun _ => rfl, fun _ => rfl⟩
theorem Fs_L {g : gG} {x r : Nat} {f : Nat → Int64} (hr : r < 12) : Fs g (sL g (x + r) f) x := ⟨fun b hb => ⟨rfl, rfl, gL_sL2 g f (by omega)⟩, rfl, fun _ => rfl, fun _ => rfl⟩
theorem Fs_F {g : gG} {x r k : Nat} {v : Int32} (hr : r < 12) : Fs g (sF g (x + r) k v) x := ⟨fun b hb => ⟨gF_sF2 g v (by omega), rfl, rfl⟩, rfl, fun _ => rfl, fun _ => rfl⟩
theorem Fs_F0 {g : gG} {x k : Nat} {v : Int32} : Fs g (sF g x k v) x := Fs_F (r := 0) (by decide)
/-- the cells of a STATE are the same -/
def Es (g g' : gG) (x : Nat) : Prop := ∀ r, r < 12 → gF g' (x + r) = gF g (x + r) ∧ gA g' (x + r) = gA g (x + r) ∧ gL g' (x + r) = gL g (x + r)
theorem SR.keep {g g' : gG} {x : Nat} {m : Nat → Int32} {n k : Nat} (S : SR g x m n k) (h : Es g g' x) : SR g' x m n k := by
  have h0 := h 0 (by decide)
  have h1 := h 1 (by decide)
  have h2 := h 2 (by decide)
  have a (r : Nat) (hr : r < 12) : gA g' (x + r) = gA g (x + r) := (h r hr).2.1
  have f0 : gF g' x = gF g x := h0.1
  obtain ⟨V, k1, m3, m4, X, L, B, W, I⟩ := S
  obtain ⟨hx, hn, h10, hk, h12, e3, e4, e5, e6, e7, e8, e11, e9, e10⟩ := V
  refine ⟨⟨hx, by rw [f0]; exact hn, h10, by rw [f0]; exact hk, h12, ?_, ?_, ?_, ?_, ?_, ?_, ?_, ?_, ?_⟩, k1, m3, m4, ?_, ?_, ?_, W, I⟩
  · rw [a 3 (by decide)]; exact e3
  · rw [a 4 (by decide)]; exact e4
  · rw [a 5 (by decide)]; exact e5
  · rw [a 6 (by decide)]; exact e6
  · rw [a 7 (by decide)]; exact e7
  · rw [a 8 (by decide)]; exact e8
  · rw [a 11 (by decide)]; exact e11
  · rw [a 9 (by decide)]; exact e9
  · rw [a 10 (by decide)]; exact e10
  · unfold Sx; rw [f0]; exact X
  · unfold Lg; rw [h1.1, h2.2.2]; exact L
  · unfold Sb; rw [a 6 (by decide), a 7 (by decide), a 8 (by decide), a 9 (by decide)]; exact B
/-- a write to what a PERSON has, of both -/
theorem Sv.per {g : gG} {x : Nat} {m : Nat → Int32} {n k : Nat} (V : Sv g x m n k) {r p : Nat} (hr : r < 6) (hp : p < n) (v : Int32) : Sv (sA g (x + (3 + r)) (upd (gA g (x + (3 + r))) p v)) x (upd m (12 + 6 * p + r) v) n k := by
  obtain ⟨hx, hn, h10, hk, h12, e3, e4, e5, e6, e7, e8, e11, e9, e10⟩ := V
  have key : ∀ j, j < 6 → (∀ q, q < n → gA g (x + (3 + j)) q = m (12 + 6 * q + j)) → ∀ q, q < n → gA (sA g (x + (3 + r)) (upd (gA g (x + (3 + r))) p v)) (x + (3 + j)) q = upd m (12 + 6 * p + r) v (12 + 6 * q + j) := by
    intro j hj e q hq
    by_cases c : j = r
    · subst c
      rw [gA_sA1, upd_e, upd_e]
      by_cases c2 : q = p
      · subst c2; rw [if_pos rfl, if_pos rfl]
      · rw [if_neg c2, if_neg (by omega)]; exact e q hq
    · rw [gA_sA2 g _ (by omega), upd_2 _ _ (by omega)]; exact e q hq
  refine ⟨hx, hn, h10, hk, h12, ?_, ?_, ?_, ?_, ?_, ?_, ?_, ?_, ?_⟩
  · exact key 0 (by decide) e3
  · exact key 1 (by decide) e4
  · exact key 2 (by decide) e5
  · exact key 3 (by decide) e6
  · exact key 4 (by decide) e7
  · exact key 5 (by decide) e8
  · intro h hh; rw [gA_sA2 g _ (by omega), upd_2 _ _ (by omega)]; exact e11 h hh
  · intro p' o hp' ho; rw [gA_sA2 g _ (by omega), upd_2 _ _ (by omega)]; exact e9 p' o hp' ho
  · intro p' o hp' ho; rw [gA_sA2 g _ (by omega), upd_2 _ _ (by omega)]; exact e10 p' o hp' ho
theorem Sv.hook {g : gG} {x : Nat} {m : Nat → Int32} {n k : Nat} (V : Sv g x m n k) {h : Nat} (hh : h < 12) (v : Int32) : Sv (sA g (x + 11) (upd (gA g (x + 11)) h v)) x (upd m (272 + h) v) n k := by
  obtain ⟨hx, hn, h10, hk, h12, e3, e4, e5, e6, e7, e8, e11, e9, e10⟩ := V
  refine ⟨hx, hn, h10, hk, h12, ?_, ?_, ?_, ?_, ?_, ?_, ?_, ?_, ?_⟩
  · intro q hq; rw [gA_sA2 g _ (by omega), upd_2 _ _ (by omega)]; exact e3 q hq
  · intro q hq; rw [gA_sA2 g _ (by omega), upd_2 _ _ (by omega)]; exact e4 q hq
  · intro q hq; rw [gA_sA2 g _ (by omega), upd_2 _ _ (by omega)]; exact e5 q hq
  · intro q hq; rw [gA_sA2 g _ (by omega), upd_2 _ _ (by omega)]; exact e6 q hq
  · intro q hq; rw [gA_sA2 g _ (by omega), upd_2 _ _ (by omega)]; exact e7 q hq
  · intro q hq; rw [gA_sA2 g _ (by omega), upd_2 _ _ (by omega)]; exact e8 q hq
  · intro i hi
    rw [gA_sA1, upd_e, upd_e]
    by_cases c2 : i = h
    · subst c2; rw [if_pos rfl, if_pos rfl]
    · rw [if_neg c2, if_neg (by omega)]; exact e11 i hi
  · intro p' o hp' ho; rw [gA_sA2 g _ (by omega), upd_2 _ _ (by omega)]; exact e9 p' o hp' ho
  · intro p' o hp' ho; rw [gA_sA2 g _ (by omega), upd_2 _ _ (by omega)]; exact e10 p' o hp' ho
theorem Sv.think {g : gG} {x : Nat} {m : Nat → Int32} {n k : Nat} (V : Sv g x m n k) {p o : Nat} (hp : p < n) (ho : o < n) (v : Int32) : Sv (sA g (x + 9) (upd (gA g (x + 9)) (p * 10 + o) v)) x (upd m (172 + 10 * p + o) v) n k := by
  obtain ⟨hx, hn, h10, hk, h12, e3, e4, e5, e6, e7, e8, e11, e9, e10⟩ := V
  refine ⟨hx, hn, h10, hk, h12, ?_, ?_, ?_, ?_, ?_, ?_, ?_, ?_, ?_⟩
  · intro q hq; rw [gA_sA2 g _ (by omega), upd_2 _ _ (by omega)]; exact e3 q hq
  · intro q hq; rw [gA_sA2 g _ (by omega), upd_2 _ _ (by omega)]; exact e4 q hq
  · intro q hq; rw [gA_sA2 g _ (by omega), upd_2 _ _ (by omega)]; exact e5 q hq
  · intro q hq; rw [gA_sA2 g _ (by omega), upd_2 _ _ (by omega)]; exact e6 q hq
  · intro q hq; rw [gA_sA2 g _ (by omega), upd_2 _ _ (by omega)]; exact e7 q hq
  · intro q hq; rw [gA_sA2 g _ (by omega), upd_2 _ _ (by omega)]; exact e8 q hq
  · intro i hi; rw [gA_sA2 g _ (by omega), upd_2 _ _ (by omega)]; exact e11 i hi
  · intro p' o' hp' ho'
    rw [gA_sA1, upd_e, upd_e]
    by_cases c2 : p' * 10 + o' = p * 10 + o
    · rw [if_pos c2, if_pos (by omega)]
    · rw [if_neg c2, if_neg (by omega)]; exact e9 p' o' hp' ho'
  · intro p' o' hp' ho'; rw [gA_sA2 g _ (by omega), upd_2 _ _ (by omega)]; exact e10 p' o' hp' ho'
/-- what stands beside the arrays stays -/
theorem Sx.keep {g g' : gG} {x : Nat} {m m' : Nat → Int32} (X : Sx g x m) (hF : gF g' x = gF g x) (h5 : m' 5 = m 5) (h6 : m' 6 = m 6) (h7 : m' 7 = m 7) (h9 : m' 9 = m 9) (h0 : m' 0 = m 0) : Sx g' x m' := by
  unfold Sx; rw [hF, h5, h6, h7, h9, h0]; exact X
theorem Lg.keep {g g' : gG} {x : Nat} {m m' : Nat → Int32} (X : Lg g x m) (hF : gF g' (x + 1) = gF g (x + 1)) (hL : gL g' (x + 2) = gL g (x + 2)) (h8 : m' 8 = m 8) (hm : ∀ q, 284 ≤ q → q < 584 → m' q = m q) : Lg g' x m' := by
  obtain ⟨r, nx, h1, h2, h3, h4, h5, h6⟩ := X
  refine ⟨r, nx, h1, h2, by rw [hF]; exact h3, by rw [h8]; exact h4, by rw [hF]; exact h5, fun a ha => ?_⟩
  rw [hL, hm _ (by omega) (by omega), hm _ (by omega) (by omega), hm _ (by omega) (by omega), hm _ (by omega) (by omega), hm _ (by omega) (by omega)]
  exact h6 a ha
theorem Sb.keep {g g' : gG} {x n : Nat} (X : Sb g x n) (h : ∀ r, 6 ≤ r → r ≤ 8 → ∀ p, n ≤ p → p < 10 → gA g' (x + r) p = gA g (x + r) p) (h9 : ∀ p o, n ≤ p → p < 10 → o < 10 → gA g' (x + 9) (p * 10 + o) = gA g (x + 9) (p * 10 + o) ∧ gA g' (x + 9) (o * 10 + p) = gA g (x + 9) (o * 10 + p)) : Sb g' x n := by
  intro p hp hp'
  obtain ⟨a, b, c, d⟩ := X p hp hp'
  rw [h 6 (by decide) (by decide) p hp hp', h 7 (by decide) (by decide) p hp hp', h 8 (by decide) (by decide) p hp hp']
  refine ⟨a, b, c, fun o ho => ?_⟩
  rw [(h9 p o hp hp' ho).1, (h9 p o hp hp' ho).2]
  exact d o ho
