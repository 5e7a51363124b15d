/-! ===== the store: the heap by numbers as int fields, int arrays, long arrays over a fixed layout ===== -/
abbrev gG : Type := (Nat × (Nat → Nat) × (Nat → Nat)) × (Nat → Nat → Int32) × (Nat → Nat → Int32) × (Nat → Nat → Int64)
def gn (g : gG) : Nat := g.1.1
def gl (g : gG) (a : Nat) : Nat := g.1.2.1 a
def gw (g : gG) (x : Nat) : Nat := g.1.2.2 x
def gF (g : gG) (a : Nat) : Nat → Int32 := g.2.1 a
def gA (g : gG) (a : Nat) : Nat → Int32 := g.2.2.1 a
def gL (g : gG) (a : Nat) : Nat → Int64 := g.2.2.2 a
def sF (g : gG) (a k : Nat) (v : Int32) : gG := (g.1, (fun b => if b = a then upd (g.2.1 a) k v else g.2.1 b), g.2.2)
def sA (g : gG) (a : Nat) (f : Nat → Int32) : gG := (g.1, g.2.1, (fun b => if b = a then f else g.2.2.1 b), g.2.2.2)
def sL (g : gG) (a : Nat) (f : Nat → Int64) : gG := (g.1, g.2.1, g.2.2.1, fun b => if b = a then f else g.2.2.2 b)
def sW (g : gG) (x y : Nat) : gG := ((g.1.1, g.1.2.1, fun b => if b = x then y else g.1.2.2 b), g.2)
def isSt (x : Nat) : Prop := x = 6 ∨ x = 18 ∨ x = 30 ∨ ∃ i, i < 12 ∧ x = 44 + 12 * i
def isLw (g : gG) (a : Nat) : Prop := a = 1 ∨ ∃ i, a = 220 + 3 * i ∧ 3 * i + 3 ≤ gn g
def gsc (b r : Nat) (F A : Nat → Int32) (L : Nat → Int64) (w : Nat) : va_E := match r with
  | 0 => .inr (8, [.int (F 0), .int (F 1), .int (F 2), .int (F 3), .int (F 4), .int (F 5), .int (F 6), .ref w, .ref (b + 1), .ref (b + 3), .ref (b + 4), .ref (b + 5), .ref (b + 6), .ref (b + 7), .ref (b + 8), .ref (b + 9), .ref (b + 10), .ref (b + 11)])
  | 1 => .inr (4, [.ref (b + 1), .int (F 1), .int (F 2)])
  | 2 => .inl (1, 60, .inr (.inl L))
  | 9 => .inl (0, 100, .inl A)
  | 10 => .inl (0, 100, .inl A)
  | 11 => .inl (0, 12, .inl A)
  | _ => .inl (0, 10, .inl A)
def glc (b r : Nat) (F A : Nat → Int32) (l : Nat) : va_E := match r with
  | 0 => .inr (2, [.int (F 0), .ref (b + 2), .ref (b + 1)])
  | 1 => .inl (0, 24, .inl A)
  | _ => .inl (0, l, .inl A)
def gc1 (b : Nat) (F A : Nat → Int32) (L : Nat → Int64) : va_E := match b with
  | 0 => .inr (11, [.ref 4, .ref 6, .ref 18, .ref 30, .ref 42, .ref 192, .ref 194, .ref 196, .ref 203, .int (F 9), .int (F 10)])
  | 4 => .inr (9, [.ref 5, .int (F 1)])
  | 5 => .inl (0, 400, .inl (A))
  | 42 => .inr (6, [.ref 43, .int (F 1), .int (F 2)])
  | 43 => .inl (3, 12, .inr (.inr (.inr (.inr (fun j => if j < 12 then some (44 + 12 * j) else none)))))
  | 188 => .inr (0, [.ref 4, .ref 189, .ref 190, .ref 191, .int (F 4)])
  | 189 => .inl (0, 401, .inl (A))
  | 190 => .inl (0, 401, .inl (A))
  | 191 => .inl (0, 401, .inl (A))
  | 192 => .inr (1, [.ref 188, .int (F 1), .int (F 2), .int (F 3), .ref 6, .ref 18, .ref 193])
  | 193 => .inl (0, 10, .inl (A))
  | 194 => .inr (3, [.ref 188, .int (F 1), .int (F 2), .int (F 3), .ref 195, .int (F 5)])
  | 195 => .inl (0, 400, .inl (A))
  | 196 => .inr (7, [.ref 197, .ref 198, .ref 199, .ref 200, .ref 201, .ref 202, .int (F 6), .int (F 7), .int (F 8)])
  | 197 => .inl (0, 12, .inl (A))
  | 198 => .inl (0, 12, .inl (A))
  | 199 => .inl (2, 12, .inl (A))
  | 200 => .inl (0, 10, .inl (A))
  | 201 => .inl (0, 10, .inl (A))
  | 202 => .inl (0, 1024, .inl (A))
  | 203 => .inr (5, [.ref 204, .ref 205])
  | 204 => .inl (0, 10, .inl (A))
  | 205 => .inl (0, 10, .inl (A))
  | 206 => .inr (12, [.int (F 0), .ref 207, .ref 208, .int (F 3), .ref 209, .ref 210, .int (F 6), .ref 211, .int (F 8), .int (F 9), .int (F 10), .int (F 11), .int (F 12), .int (F 13), .ref 212, .int (F 15), .int (F 16), .int (F 17), .int (F 18), .ref 213, .int (F 20), .ref 214, .ref 215, .ref 216, .ref 217, .ref 218])
  | 207 => .inl (0, 984, .inl (A))
  | 208 => .inl (0, 984, .inl (A))
  | 209 => .inl (0, 584, .inl (A))
  | 210 => .inl (0, 7008, .inl (A))
  | 211 => .inl (0, 400, .inl (A))
  | 212 => .inl (0, 6, .inl (A))
  | 213 => .inl (0, 36, .inl (A))
  | 214 => .inl (0, 10, .inl (A))
  | 215 => .inl (0, 1024, .inl (A))
  | 216 => .inl (0, 10, .inl (A))
  | 217 => .inl (0, 10240, .inl (A))
  | 218 => .inl (0, 10, .inl (A))
  | _ => .inl (1, 1, .inr (.inl (L)))
def gcl (b : Nat) (F A : Nat → Int32) (L : Nat → Int64) (w l : Nat) : va_E := if b < 220 then (if b < 6 then (if 1 ≤ b ∧ b < 4 then glc b (b - 1) F A l else gc1 b F A L) else if b < 42 then gsc b ((b - 6) % 12) F A L w else if 44 ≤ b ∧ b < 188 then gsc b ((b - 44) % 12) F A L w else gc1 b F A L) else glc b ((b - 220) % 3) F A l
def gc (g : gG) (b : Nat) : va_E := gcl b (gF g b) (gA g b) (gL g b) (gw g b) (gl g b)
def gH (g : gG) : ab_H := (220 + gn g, gc g)
theorem gc_st {g : gG} {x : Nat} (hx : isSt x) {r : Nat} (hr : r < 12) : gc g (x + r) = gsc (x + r) r (gF g (x + r)) (gA g (x + r)) (gL g (x + r)) (gw g (x + r)) := by
  unfold gc gcl
  rcases hx with rfl | rfl | rfl | ⟨i, hi, rfl⟩
  · rw [if_pos (by omega), if_neg (by omega), if_pos (by omega), show (6 + r - 6) % 12 = r by omega]
  · rw [if_pos (by omega), if_neg (by omega), if_pos (by omega), show (18 + r - 6) % 12 = r by omega]
  · rw [if_pos (by omega), if_neg (by omega), if_pos (by omega), show (30 + r - 6) % 12 = r by omega]
  · rw [if_pos (by omega), if_neg (by omega), if_neg (by omega), if_pos (by omega), show (44 + 12 * i + r - 44) % 12 = r by omega]
theorem gc_lw {g : gG} {x : Nat} (hx : isLw g x) {r : Nat} (hr : r < 3) : gc g (x + r) = glc (x + r) r (gF g (x + r)) (gA g (x + r)) (gl g (x + r)) := by
  unfold gc gcl
  rcases hx with rfl | ⟨i, rfl, hi⟩
  · rw [if_pos (by omega), if_pos (by omega), if_pos (by omega), show 1 + r - 1 = r by omega]
  · rw [if_neg (by omega), show (220 + 3 * i + r - 220) % 3 = r by omega]
theorem isSt_lt {x : Nat} (hx : isSt x) : 6 ≤ x ∧ x + 11 < 188 := by rcases hx with rfl | rfl | rfl | ⟨i, hi, rfl⟩ <;> omega
theorem isLw_lt {g : gG} {x : Nat} (hx : isLw g x) : x + 2 < 220 + gn g := by rcases hx with rfl | ⟨i, rfl, hi⟩ <;> omega
theorem isSt6 : isSt 6 := Or.inl rfl
theorem isSt18 : isSt 18 := Or.inr (Or.inl rfl)
theorem isSt30 : isSt 30 := Or.inr (Or.inr (Or.inl rfl))
theorem isStP {i : Nat} (h : i < 12) : isSt (44 + 12 * i) := Or.inr (Or.inr (Or.inr ⟨i, h, rfl⟩))
theorem gN {g : gG} {a : Nat} (h : a < 220) : a < (gH g).1 := Nat.lt_of_lt_of_le h (Nat.le_add_right _ _)
theorem g_fi {h : ab_H} {a ci k : Nat} {fs : List Value} {x : Int32} (hc : h.2 a = .inr (ci, fs)) (ha : a < h.1) (hk : fs[k]? = some (.int x)) : ab_fi h a ci k = some x := by
  unfold ab_fi; rw [hc]; simp only [ha, hk, and_self, if_true]
theorem g_fr {h : ab_H} {a ci k : Nat} {fs : List Value} {x : Nat} (hc : h.2 a = .inr (ci, fs)) (ha : a < h.1) (hk : fs[k]? = some (.ref x)) : ab_fr h a ci k = some x := by
  unfold ab_fr; rw [hc]; simp only [ha, hk, and_self, if_true]
theorem g_io {h : ab_H} {a ci : Nat} {fs : List Value} (hc : h.2 a = .inr (ci, fs)) (ha : a < h.1) : ab_io h a ci = true := by
  unfold ab_io; rw [hc]; simp only [ha, decide_true, Bool.and_self]
theorem g_fw {h : ab_H} {a ci k : Nat} {fs : List Value} {v : Value} (hc : h.2 a = .inr (ci, fs)) (ha : a < h.1) (hk : k < fs.length) : ab_fw h a ci k v = some (ab_up h a (.inr (ci, fs.set k v))) := by
  unfold ab_fw; rw [hc]; simp only [ha, hk, and_self, if_true]
theorem g_ia {h : ab_H} {kd a n i : Nat} {f : Nat → Int32} (hc : h.2 a = .inl (kd, n, .inl f)) (ha : a < h.1) (hi : i < n) (hn : n < 2 ^ 31) : ab_ia kd h a (nI i) = some (f i) := by
  unfold ab_ia; rw [hc]
  have h1 := nI_in hi hn
  simp only [nI_clamp (Nat.lt_trans hi hn)] at h1 ⊢
  rw [if_pos ⟨ha, trivial, h1⟩]
theorem g_iw {h : ab_H} {kd a n i : Nat} {f : Nat → Int32} {v : Int32} (hc : h.2 a = .inl (kd, n, .inl f)) (ha : a < h.1) (hi : i < n) (hn : n < 2 ^ 31) : ab_iw kd h a (nI i) v = some (ab_up h a (.inl (kd, n, .inl (upd f i v)))) := by
  unfold ab_iw; rw [hc]
  have h1 := nI_in hi hn
  simp only [nI_clamp (Nat.lt_trans hi hn)] at h1 ⊢
  rw [if_pos ⟨ha, trivial, h1⟩]
theorem g_la {h : ab_H} {a n i : Nat} {f : Nat → Int64} (hc : h.2 a = .inl (1, n, .inr (.inl f))) (ha : a < h.1) (hi : i < n) (hn : n < 2 ^ 31) : ab_la h a (nI i) = some (f i) := by
  unfold ab_la; rw [hc]
  have h1 := nI_in hi hn
  simp only [nI_clamp (Nat.lt_trans hi hn)] at h1 ⊢
  rw [if_pos ⟨ha, trivial, h1⟩]
theorem g_lw {h : ab_H} {a n i : Nat} {f : Nat → Int64} {v : Int64} (hc : h.2 a = .inl (1, n, .inr (.inl f))) (ha : a < h.1) (hi : i < n) (hn : n < 2 ^ 31) : ab_lw h a (nI i) v = some (ab_up h a (.inl (1, n, .inr (.inl (vp_updL f i v))))) := by
  unfold ab_lw; rw [hc]
  have h1 := nI_in hi hn
  simp only [nI_clamp (Nat.lt_trans hi hn)] at h1 ⊢
  rw [if_pos ⟨ha, trivial, h1⟩]
theorem gF_sF (g : gG) (a k : Nat) (v : Int32) (b : Nat) : gF (sF g a k v) b = if b = a then upd (gF g a) k v else gF g b := rfl
theorem gF_sF1 (g : gG) (a k : Nat) (v : Int32) : gF (sF g a k v) a = upd (gF g a) k v := if_pos rfl
theorem gF_sF2 (g : gG) {a k : Nat} (v : Int32) {b : Nat} (h : ¬ b = a) : gF (sF g a k v) b = gF g b := if_neg h
theorem gA_sF (g : gG) (a k : Nat) (v : Int32) (b : Nat) : gA (sF g a k v) b = gA g b := rfl
theorem gL_sF (g : gG) (a k : Nat) (v : Int32) (b : Nat) : gL (sF g a k v) b = gL g b := rfl
theorem gw_sF (g : gG) (a k : Nat) (v : Int32) (b : Nat) : gw (sF g a k v) b = gw g b := rfl
theorem gn_sF (g : gG) (a k : Nat) (v : Int32) : gn (sF g a k v) = gn g := rfl
theorem gl_sF (g : gG) (a k : Nat) (v : Int32) (b : Nat) : gl (sF g a k v) b = gl g b := rfl
theorem gF_sA (g : gG) (a : Nat) (f : Nat → Int32) (b : Nat) : gF (sA g a f) b = gF g b := rfl
theorem gA_sA (g : gG) (a : Nat) (f : Nat → Int32) (b : Nat) : gA (sA g a f) b = if b = a then f else gA g b := rfl
theorem gA_sA1 (g : gG) (a : Nat) (f : Nat → Int32) : gA (sA g a f) a = f := if_pos rfl
theorem gA_sA2 (g : gG) {a : Nat} (f : Nat → Int32) {b : Nat} (h : ¬ b = a) : gA (sA g a f) b = gA g b := if_neg h
theorem gL_sA (g : gG) (a : Nat) (f : Nat → Int32) (b : Nat) : gL (sA g a f) b = gL g b := rfl
theorem gw_sA (g : gG) (a : Nat) (f : Nat → Int32) (b : Nat) : gw (sA g a f) b = gw g b := rfl
theorem gn_sA (g : gG) (a : Nat) (f : Nat → Int32) : gn (sA g a f) = gn g := rfl
theorem gl_sA (g : gG) (a : Nat) (f : Nat → Int32) (b : Nat) : gl (sA g a f) b = gl g b := rfl
theorem gF_sL (g : gG) (a : Nat) (f : Nat → Int64) (b : Nat) : gF (sL g a f) b = gF g b := rfl
theorem gA_sL (g : gG) (a : Nat) (f : Nat → Int64) (b : Nat) : gA (sL g a f) b = gA g b := rfl
theorem gL_sL (g : gG) (a : Nat) (f : Nat → Int64) (b : Nat) : gL (sL g a f) b = if b = a then f else gL g b := rfl
theorem gL_sL1 (g : gG) (a : Nat) (f : Nat → Int64) : gL (sL g a f) a = f := if_pos rfl
theorem gL_sL2 (g : gG) {a : Nat} (f : Nat → Int64) {b : Nat} (h : ¬ b = a) : gL (sL g a f) b = gL g b := if_neg h
theorem gw_sL (g : gG) (a : Nat) (f : Nat → Int64) (b : Nat) : gw (sL g a f) b = gw g b := rfl
theorem gn_sL (g : gG) (a : Nat) (f : Nat → Int64) : gn (sL g a f) = gn g := rfl
theorem gl_sL (g : gG) (a : Nat) (f : Nat → Int64) (b : Nat) : gl (sL g a f) b = gl g b := rfl
theorem gF_sW (g : gG) (x y b : Nat) : gF (sW g x y) b = gF g b := rfl
theorem gA_sW (g : gG) (x y b : Nat) : gA (sW g x y) b = gA g b := rfl
theorem gL_sW (g : gG) (x y b : Nat) : gL (sW g x y) b = gL g b := rfl
theorem gw_sW (g : gG) (x y b : Nat) : gw (sW g x y) b = if b = x then y else gw g b := rfl
theorem gn_sW (g : gG) (x y : Nat) : gn (sW g x y) = gn g := rfl
theorem gl_sW (g : gG) (x y b : Nat) : gl (sW g x y) b = gl g b := rfl
theorem upd_1 (f : Nat → Int32) (i : Nat) (v : Int32) : upd f i v i = v := if_pos rfl
theorem upd_2 (f : Nat → Int32) {i : Nat} (v : Int32) {j : Nat} (h : ¬ j = i) : upd f i v j = f j := if_neg h
theorem upd_e (f : Nat → Int32) (i : Nat) (v : Int32) (j : Nat) : upd f i v j = if j = i then v else f j := rfl
theorem g_up {g g' : gG} {a : Nat} {e : va_E} (hn : gn g' = gn g) (ha : gc g' a = e) (hb : ∀ b, b ≠ a → gc g' b = gc g b) : ab_up (gH g) a e = gH g' := by
  unfold ab_up gH
  rw [hn]
  congr 1
  funext b
  show va_up (gc g) a e b = _
  unfold va_up
  by_cases h : b = a
  · subst h; rw [if_pos rfl, ha]
  · rw [if_neg h, hb b h]
theorem gc_sF {g : gG} {a k : Nat} {v : Int32} (b : Nat) (h : b ≠ a) : gc (sF g a k v) b = gc g b := by unfold gc; rw [gF_sF2 g v h]; rfl
theorem gc_sA {g : gG} {a : Nat} {f : Nat → Int32} (b : Nat) (h : b ≠ a) : gc (sA g a f) b = gc g b := by unfold gc; rw [gA_sA2 g f h]; rfl
theorem gc_sL {g : gG} {a : Nat} {f : Nat → Int64} (b : Nat) (h : b ≠ a) : gc (sL g a f) b = gc g b := by unfold gc; rw [gL_sL2 g f h]; rfl
theorem gc_sW {g : gG} {x y : Nat} (b : Nat) (h : b ≠ x) : gc (sW g x y) b = gc g b := by unfold gc; rw [gw_sW, if_neg h]; rfl
/-- a write to a field, to an array -/
theorem g_wF {g : gG} {a ci k : Nat} {v : Int32} {fs : List Value} (ha : a < (gH g).1) (hc : gc g a = .inr (ci, fs)) (hk : k < fs.length) (h2 : gc (sF g a k v) a = .inr (ci, fs.set k (.int v))) : ab_fw (gH g) a ci k (.int v) = some (gH (sF g a k v)) := by
  rw [g_fw hc ha hk]; exact congrArg some (g_up rfl h2 gc_sF)
theorem g_wA {g : gG} {kd a n i : Nat} {v : Int32} (ha : a < (gH g).1) (hc : ∀ f, gc (sA g a f) a = .inl (kd, n, .inl f)) (hi : i < n) (hn : n < 2 ^ 31) : ab_iw kd (gH g) a (nI i) v = some (gH (sA g a (upd (gA g a) i v))) := by
  have h0 : gc g a = .inl (kd, n, .inl (gA g a)) := by
    have := hc (gA g a)
    rw [← this]; unfold gc; rw [gA_sA1]; rfl
  rw [g_iw (h := gH g) h0 ha hi hn]; exact congrArg some (g_up rfl (hc _) gc_sA)
theorem g_rA {g : gG} {kd a n i : Nat} (ha : a < (gH g).1) (hc : gc g a = .inl (kd, n, .inl (gA g a))) (hi : i < n) (hn : n < 2 ^ 31) : ab_ia kd (gH g) a (nI i) = some (gA g a i) := g_ia (h := gH g) hc ha hi hn
theorem gc_0 (g : gG) : gc g 0 = .inr (11, [.ref 4, .ref 6, .ref 18, .ref 30, .ref 42, .ref 192, .ref 194, .ref 196, .ref 203, .int (gF g 0 9), .int (gF g 0 10)]) := rfl
theorem io_0 (g : gG) : ab_io (gH g) 0 11 = true := g_io (gc_0 g) (gN (by decide))
theorem fr_0_0 (g : gG) : ab_fr (gH g) 0 11 0 = some 4 := g_fr (gc_0 g) (gN (by decide)) rfl
theorem fr_0_1 (g : gG) : ab_fr (gH g) 0 11 1 = some 6 := g_fr (gc_0 g) (gN (by decide)) rfl
theorem fr_0_2 (g : gG) : ab_fr (gH g) 0 11 2 = some 18 := g_fr (gc_0 g) (gN (by decide)) rfl
theorem fr_0_3 (g : gG) : ab_fr (gH g) 0 11 3 = some 30 := g_fr (gc_0 g) (gN (by decide)) rfl
theorem fr_0_4 (g : gG) : ab_fr (gH g) 0 11 4 = some 42 := g_fr (gc_0 g) (gN (by decide)) rfl
theorem fr_0_5 (g : gG) : ab_fr (gH g) 0 11 5 = some 192 := g_fr (gc_0 g) (gN (by decide)) rfl
theorem fr_0_6 (g : gG) : ab_fr (gH g) 0 11 6 = some 194 := g_fr (gc_0 g) (gN (by decide)) rfl
theorem fr_0_7 (g : gG) : ab_fr (gH g) 0 11 7 = some 196 := g_fr (gc_0 g) (gN (by decide)) rfl
theorem fr_0_8 (g : gG) : ab_fr (gH g) 0 11 8 = some 203 := g_fr (gc_0 g) (gN (by decide)) rfl
theorem fi_0_9 (g : gG) : ab_fi (gH g) 0 11 9 = some (gF g 0 9) := g_fi (gc_0 g) (gN (by decide)) rfl
theorem fw_0_9 (g : gG) (v : Int32) : ab_fw (gH g) 0 11 9 (.int v) = some (gH (sF g 0 9 v)) := g_wF (gN (by decide)) (gc_0 g) (by simp) rfl
theorem fi_0_10 (g : gG) : ab_fi (gH g) 0 11 10 = some (gF g 0 10) := g_fi (gc_0 g) (gN (by decide)) rfl
theorem fw_0_10 (g : gG) (v : Int32) : ab_fw (gH g) 0 11 10 (.int v) = some (gH (sF g 0 10 v)) := g_wF (gN (by decide)) (gc_0 g) (by simp) rfl
theorem gc_4 (g : gG) : gc g 4 = .inr (9, [.ref 5, .int (gF g 4 1)]) := rfl
theorem io_4 (g : gG) : ab_io (gH g) 4 9 = true := g_io (gc_4 g) (gN (by decide))
theorem fr_4_0 (g : gG) : ab_fr (gH g) 4 9 0 = some 5 := g_fr (gc_4 g) (gN (by decide)) rfl
theorem fi_4_1 (g : gG) : ab_fi (gH g) 4 9 1 = some (gF g 4 1) := g_fi (gc_4 g) (gN (by decide)) rfl
theorem fw_4_1 (g : gG) (v : Int32) : ab_fw (gH g) 4 9 1 (.int v) = some (gH (sF g 4 1 v)) := g_wF (gN (by decide)) (gc_4 g) (by simp) rfl
theorem gc_42 (g : gG) : gc g 42 = .inr (6, [.ref 43, .int (gF g 42 1), .int (gF g 42 2)]) := rfl
theorem io_42 (g : gG) : ab_io (gH g) 42 6 = true := g_io (gc_42 g) (gN (by decide))
theorem fr_42_0 (g : gG) : ab_fr (gH g) 42 6 0 = some 43 := g_fr (gc_42 g) (gN (by decide)) rfl
theorem fi_42_1 (g : gG) : ab_fi (gH g) 42 6 1 = some (gF g 42 1) := g_fi (gc_42 g) (gN (by decide)) rfl
theorem fw_42_1 (g : gG) (v : Int32) : ab_fw (gH g) 42 6 1 (.int v) = some (gH (sF g 42 1 v)) := g_wF (gN (by decide)) (gc_42 g) (by simp) rfl
theorem fi_42_2 (g : gG) : ab_fi (gH g) 42 6 2 = some (gF g 42 2) := g_fi (gc_42 g) (gN (by decide)) rfl
theorem fw_42_2 (g : gG) (v : Int32) : ab_fw (gH g) 42 6 2 (.int v) = some (gH (sF g 42 2 v)) := g_wF (gN (by decide)) (gc_42 g) (by simp) rfl
theorem gc_188 (g : gG) : gc g 188 = .inr (0, [.ref 4, .ref 189, .ref 190, .ref 191, .int (gF g 188 4)]) := rfl
theorem io_188 (g : gG) : ab_io (gH g) 188 0 = true := g_io (gc_188 g) (gN (by decide))
theorem fr_188_0 (g : gG) : ab_fr (gH g) 188 0 0 = some 4 := g_fr (gc_188 g) (gN (by decide)) rfl
theorem fr_188_1 (g : gG) : ab_fr (gH g) 188 0 1 = some 189 := g_fr (gc_188 g) (gN (by decide)) rfl
theorem fr_188_2 (g : gG) : ab_fr (gH g) 188 0 2 = some 190 := g_fr (gc_188 g) (gN (by decide)) rfl
theorem fr_188_3 (g : gG) : ab_fr (gH g) 188 0 3 = some 191 := g_fr (gc_188 g) (gN (by decide)) rfl
theorem fi_188_4 (g : gG) : ab_fi (gH g) 188 0 4 = some (gF g 188 4) := g_fi (gc_188 g) (gN (by decide)) rfl
theorem fw_188_4 (g : gG) (v : Int32) : ab_fw (gH g) 188 0 4 (.int v) = some (gH (sF g 188 4 v)) := g_wF (gN (by decide)) (gc_188 g) (by simp) rfl
theorem gc_192 (g : gG) : gc g 192 = .inr (1, [.ref 188, .int (gF g 192 1), .int (gF g 192 2), .int (gF g 192 3), .ref 6, .ref 18, .ref 193]) := rfl
theorem io_192 (g : gG) : ab_io (gH g) 192 1 = true := g_io (gc_192 g) (gN (by decide))
theorem fr_192_0 (g : gG) : ab_fr (gH g) 192 1 0 = some 188 := g_fr (gc_192 g) (gN (by decide)) rfl
theorem fi_192_1 (g : gG) : ab_fi (gH g) 192 1 1 = some (gF g 192 1) := g_fi (gc_192 g) (gN (by decide)) rfl
theorem fw_192_1 (g : gG) (v : Int32) : ab_fw (gH g) 192 1 1 (.int v) = some (gH (sF g 192 1 v)) := g_wF (gN (by decide)) (gc_192 g) (by simp) rfl
theorem fi_192_2 (g : gG) : ab_fi (gH g) 192 1 2 = some (gF g 192 2) := g_fi (gc_192 g) (gN (by decide)) rfl
theorem fw_192_2 (g : gG) (v : Int32) : ab_fw (gH g) 192 1 2 (.int v) = some (gH (sF g 192 2 v)) := g_wF (gN (by decide)) (gc_192 g) (by simp) rfl
theorem fi_192_3 (g : gG) : ab_fi (gH g) 192 1 3 = some (gF g 192 3) := g_fi (gc_192 g) (gN (by decide)) rfl
theorem fw_192_3 (g : gG) (v : Int32) : ab_fw (gH g) 192 1 3 (.int v) = some (gH (sF g 192 3 v)) := g_wF (gN (by decide)) (gc_192 g) (by simp) rfl
theorem fr_192_4 (g : gG) : ab_fr (gH g) 192 1 4 = some 6 := g_fr (gc_192 g) (gN (by decide)) rfl
theorem fr_192_5 (g : gG) : ab_fr (gH g) 192 1 5 = some 18 := g_fr (gc_192 g) (gN (by decide)) rfl
theorem fr_192_6 (g : gG) : ab_fr (gH g) 192 1 6 = some 193 := g_fr (gc_192 g) (gN (by decide)) rfl
theorem gc_194 (g : gG) : gc g 194 = .inr (3, [.ref 188, .int (gF g 194 1), .int (gF g 194 2), .int (gF g 194 3), .ref 195, .int (gF g 194 5)]) := rfl
theorem io_194 (g : gG) : ab_io (gH g) 194 3 = true := g_io (gc_194 g) (gN (by decide))
theorem fr_194_0 (g : gG) : ab_fr (gH g) 194 3 0 = some 188 := g_fr (gc_194 g) (gN (by decide)) rfl
theorem fi_194_1 (g : gG) : ab_fi (gH g) 194 3 1 = some (gF g 194 1) := g_fi (gc_194 g) (gN (by decide)) rfl
theorem fw_194_1 (g : gG) (v : Int32) : ab_fw (gH g) 194 3 1 (.int v) = some (gH (sF g 194 1 v)) := g_wF (gN (by decide)) (gc_194 g) (by simp) rfl
theorem fi_194_2 (g : gG) : ab_fi (gH g) 194 3 2 = some (gF g 194 2) := g_fi (gc_194 g) (gN (by decide)) rfl
theorem fw_194_2 (g : gG) (v : Int32) : ab_fw (gH g) 194 3 2 (.int v) = some (gH (sF g 194 2 v)) := g_wF (gN (by decide)) (gc_194 g) (by simp) rfl
theorem fi_194_3 (g : gG) : ab_fi (gH g) 194 3 3 = some (gF g 194 3) := g_fi (gc_194 g) (gN (by decide)) rfl
theorem fw_194_3 (g : gG) (v : Int32) : ab_fw (gH g) 194 3 3 (.int v) = some (gH (sF g 194 3 v)) := g_wF (gN (by decide)) (gc_194 g) (by simp) rfl
theorem fr_194_4 (g : gG) : ab_fr (gH g) 194 3 4 = some 195 := g_fr (gc_194 g) (gN (by decide)) rfl
theorem fi_194_5 (g : gG) : ab_fi (gH g) 194 3 5 = some (gF g 194 5) := g_fi (gc_194 g) (gN (by decide)) rfl
theorem fw_194_5 (g : gG) (v : Int32) : ab_fw (gH g) 194 3 5 (.int v) = some (gH (sF g 194 5 v)) := g_wF (gN (by decide)) (gc_194 g) (by simp) rfl
theorem gc_196 (g : gG) : gc g 196 = .inr (7, [.ref 197, .ref 198, .ref 199, .ref 200, .ref 201, .ref 202, .int (gF g 196 6), .int (gF g 196 7), .int (gF g 196 8)]) := rfl
theorem io_196 (g : gG) : ab_io (gH g) 196 7 = true := g_io (gc_196 g) (gN (by decide))
theorem fr_196_0 (g : gG) : ab_fr (gH g) 196 7 0 = some 197 := g_fr (gc_196 g) (gN (by decide)) rfl
theorem fr_196_1 (g : gG) : ab_fr (gH g) 196 7 1 = some 198 := g_fr (gc_196 g) (gN (by decide)) rfl
theorem fr_196_2 (g : gG) : ab_fr (gH g) 196 7 2 = some 199 := g_fr (gc_196 g) (gN (by decide)) rfl
theorem fr_196_3 (g : gG) : ab_fr (gH g) 196 7 3 = some 200 := g_fr (gc_196 g) (gN (by decide)) rfl
theorem fr_196_4 (g : gG) : ab_fr (gH g) 196 7 4 = some 201 := g_fr (gc_196 g) (gN (by decide)) rfl
theorem fr_196_5 (g : gG) : ab_fr (gH g) 196 7 5 = some 202 := g_fr (gc_196 g) (gN (by decide)) rfl
theorem fi_196_6 (g : gG) : ab_fi (gH g) 196 7 6 = some (gF g 196 6) := g_fi (gc_196 g) (gN (by decide)) rfl
theorem fw_196_6 (g : gG) (v : Int32) : ab_fw (gH g) 196 7 6 (.int v) = some (gH (sF g 196 6 v)) := g_wF (gN (by decide)) (gc_196 g) (by simp) rfl
theorem fi_196_7 (g : gG) : ab_fi (gH g) 196 7 7 = some (gF g 196 7) := g_fi (gc_196 g) (gN (by decide)) rfl
theorem fw_196_7 (g : gG) (v : Int32) : ab_fw (gH g) 196 7 7 (.int v) = some (gH (sF g 196 7 v)) := g_wF (gN (by decide)) (gc_196 g) (by simp) rfl
theorem fi_196_8 (g : gG) : ab_fi (gH g) 196 7 8 = some (gF g 196 8) := g_fi (gc_196 g) (gN (by decide)) rfl
theorem fw_196_8 (g : gG) (v : Int32) : ab_fw (gH g) 196 7 8 (.int v) = some (gH (sF g 196 8 v)) := g_wF (gN (by decide)) (gc_196 g) (by simp) rfl
theorem gc_203 (g : gG) : gc g 203 = .inr (5, [.ref 204, .ref 205]) := rfl
theorem io_203 (g : gG) : ab_io (gH g) 203 5 = true := g_io (gc_203 g) (gN (by decide))
theorem fr_203_0 (g : gG) : ab_fr (gH g) 203 5 0 = some 204 := g_fr (gc_203 g) (gN (by decide)) rfl
theorem fr_203_1 (g : gG) : ab_fr (gH g) 203 5 1 = some 205 := g_fr (gc_203 g) (gN (by decide)) rfl
theorem gc_206 (g : gG) : gc g 206 = .inr (12, [.int (gF g 206 0), .ref 207, .ref 208, .int (gF g 206 3), .ref 209, .ref 210, .int (gF g 206 6), .ref 211, .int (gF g 206 8), .int (gF g 206 9), .int (gF g 206 10), .int (gF g 206 11), .int (gF g 206 12), .int (gF g 206 13), .ref 212, .int (gF g 206 15), .int (gF g 206 16), .int (gF g 206 17), .int (gF g 206 18), .ref 213, .int (gF g 206 20), .ref 214, .ref 215, .ref 216, .ref 217, .ref 218]) := rfl
theorem io_206 (g : gG) : ab_io (gH g) 206 12 = true := g_io (gc_206 g) (gN (by decide))
theorem fi_206_0 (g : gG) : ab_fi (gH g) 206 12 0 = some (gF g 206 0) := g_fi (gc_206 g) (gN (by decide)) rfl
theorem fw_206_0 (g : gG) (v : Int32) : ab_fw (gH g) 206 12 0 (.int v) = some (gH (sF g 206 0 v)) := g_wF (gN (by decide)) (gc_206 g) (by simp) rfl
theorem fr_206_1 (g : gG) : ab_fr (gH g) 206 12 1 = some 207 := g_fr (gc_206 g) (gN (by decide)) rfl
theorem fr_206_2 (g : gG) : ab_fr (gH g) 206 12 2 = some 208 := g_fr (gc_206 g) (gN (by decide)) rfl
theorem fi_206_3 (g : gG) : ab_fi (gH g) 206 12 3 = some (gF g 206 3) := g_fi (gc_206 g) (gN (by decide)) rfl
theorem fw_206_3 (g : gG) (v : Int32) : ab_fw (gH g) 206 12 3 (.int v) = some (gH (sF g 206 3 v)) := g_wF (gN (by decide)) (gc_206 g) (by simp) rfl
theorem fr_206_4 (g : gG) : ab_fr (gH g) 206 12 4 = some 209 := g_fr (gc_206 g) (gN (by decide)) rfl
theorem fr_206_5 (g : gG) : ab_fr (gH g) 206 12 5 = some 210 := g_fr (gc_206 g) (gN (by decide)) rfl
theorem fi_206_6 (g : gG) : ab_fi (gH g) 206 12 6 = some (gF g 206 6) := g_fi (gc_206 g) (gN (by decide)) rfl
theorem fw_206_6 (g : gG) (v : Int32) : ab_fw (gH g) 206 12 6 (.int v) = some (gH (sF g 206 6 v)) := g_wF (gN (by decide)) (gc_206 g) (by simp) rfl
theorem fr_206_7 (g : gG) : ab_fr (gH g) 206 12 7 = some 211 := g_fr (gc_206 g) (gN (by decide)) rfl
theorem fi_206_8 (g : gG) : ab_fi (gH g) 206 12 8 = some (gF g 206 8) := g_fi (gc_206 g) (gN (by decide)) rfl
theorem fw_206_8 (g : gG) (v : Int32) : ab_fw (gH g) 206 12 8 (.int v) = some (gH (sF g 206 8 v)) := g_wF (gN (by decide)) (gc_206 g) (by simp) rfl
theorem fi_206_9 (g : gG) : ab_fi (gH g) 206 12 9 = some (gF g 206 9) := g_fi (gc_206 g) (gN (by decide)) rfl
theorem fw_206_9 (g : gG) (v : Int32) : ab_fw (gH g) 206 12 9 (.int v) = some (gH (sF g 206 9 v)) := g_wF (gN (by decide)) (gc_206 g) (by simp) rfl
theorem fi_206_10 (g : gG) : ab_fi (gH g) 206 12 10 = some (gF g 206 10) := g_fi (gc_206 g) (gN (by decide)) rfl
theorem fw_206_10 (g : gG) (v : Int32) : ab_fw (gH g) 206 12 10 (.int v) = some (gH (sF g 206 10 v)) := g_wF (gN (by decide)) (gc_206 g) (by simp) rfl
theorem fi_206_11 (g : gG) : ab_fi (gH g) 206 12 11 = some (gF g 206 11) := g_fi (gc_206 g) (gN (by decide)) rfl
theorem fw_206_11 (g : gG) (v : Int32) : ab_fw (gH g) 206 12 11 (.int v) = some (gH (sF g 206 11 v)) := g_wF (gN (by decide)) (gc_206 g) (by simp) rfl
theorem fi_206_12 (g : gG) : ab_fi (gH g) 206 12 12 = some (gF g 206 12) := g_fi (gc_206 g) (gN (by decide)) rfl
theorem fw_206_12 (g : gG) (v : Int32) : ab_fw (gH g) 206 12 12 (.int v) = some (gH (sF g 206 12 v)) := g_wF (gN (by decide)) (gc_206 g) (by simp) rfl
theorem fi_206_13 (g : gG) : ab_fi (gH g) 206 12 13 = some (gF g 206 13) := g_fi (gc_206 g) (gN (by decide)) rfl
theorem fw_206_13 (g : gG) (v : Int32) : ab_fw (gH g) 206 12 13 (.int v) = some (gH (sF g 206 13 v)) := g_wF (gN (by decide)) (gc_206 g) (by simp) rfl
theorem fr_206_14 (g : gG) : ab_fr (gH g) 206 12 14 = some 212 := g_fr (gc_206 g) (gN (by decide)) rfl
theorem fi_206_15 (g : gG) : ab_fi (gH g) 206 12 15 = some (gF g 206 15) := g_fi (gc_206 g) (gN (by decide)) rfl
theorem fw_206_15 (g : gG) (v : Int32) : ab_fw (gH g) 206 12 15 (.int v) = some (gH (sF g 206 15 v)) := g_wF (gN (by decide)) (gc_206 g) (by simp) rfl
theorem fi_206_16 (g : gG) : ab_fi (gH g) 206 12 16 = some (gF g 206 16) := g_fi (gc_206 g) (gN (by decide)) rfl
theorem fw_206_16 (g : gG) (v : Int32) : ab_fw (gH g) 206 12 16 (.int v) = some (gH (sF g 206 16 v)) := g_wF (gN (by decide)) (gc_206 g) (by simp) rfl
theorem fi_206_17 (g : gG) : ab_fi (gH g) 206 12 17 = some (gF g 206 17) := g_fi (gc_206 g) (gN (by decide)) rfl
theorem fw_206_17 (g : gG) (v : Int32) : ab_fw (gH g) 206 12 17 (.int v) = some (gH (sF g 206 17 v)) := g_wF (gN (by decide)) (gc_206 g) (by simp) rfl
theorem fi_206_18 (g : gG) : ab_fi (gH g) 206 12 18 = some (gF g 206 18) := g_fi (gc_206 g) (gN (by decide)) rfl
theorem fw_206_18 (g : gG) (v : Int32) : ab_fw (gH g) 206 12 18 (.int v) = some (gH (sF g 206 18 v)) := g_wF (gN (by decide)) (gc_206 g) (by simp) rfl
theorem fr_206_19 (g : gG) : ab_fr (gH g) 206 12 19 = some 213 := g_fr (gc_206 g) (gN (by decide)) rfl
theorem fi_206_20 (g : gG) : ab_fi (gH g) 206 12 20 = some (gF g 206 20) := g_fi (gc_206 g) (gN (by decide)) rfl
theorem fw_206_20 (g : gG) (v : Int32) : ab_fw (gH g) 206 12 20 (.int v) = some (gH (sF g 206 20 v)) := g_wF (gN (by decide)) (gc_206 g) (by simp) rfl
theorem fr_206_21 (g : gG) : ab_fr (gH g) 206 12 21 = some 214 := g_fr (gc_206 g) (gN (by decide)) rfl
theorem fr_206_22 (g : gG) : ab_fr (gH g) 206 12 22 = some 215 := g_fr (gc_206 g) (gN (by decide)) rfl
theorem fr_206_23 (g : gG) : ab_fr (gH g) 206 12 23 = some 216 := g_fr (gc_206 g) (gN (by decide)) rfl
theorem fr_206_24 (g : gG) : ab_fr (gH g) 206 12 24 = some 217 := g_fr (gc_206 g) (gN (by decide)) rfl
theorem fr_206_25 (g : gG) : ab_fr (gH g) 206 12 25 = some 218 := g_fr (gc_206 g) (gN (by decide)) rfl
theorem ia_5 (g : gG) {i : Nat} (h : i < 400) : ab_ia 0 (gH g) 5 (nI i) = some (gA g 5 i) := g_rA (gN (by decide)) rfl h (by decide)
theorem iw_5 (g : gG) {i : Nat} (v : Int32) (h : i < 400) : ab_iw 0 (gH g) 5 (nI i) v = some (gH (sA g 5 (upd (gA g 5) i v))) := g_wA (gN (by decide)) (fun _ => rfl) h (by decide)
theorem ia_189 (g : gG) {i : Nat} (h : i < 401) : ab_ia 0 (gH g) 189 (nI i) = some (gA g 189 i) := g_rA (gN (by decide)) rfl h (by decide)
theorem iw_189 (g : gG) {i : Nat} (v : Int32) (h : i < 401) : ab_iw 0 (gH g) 189 (nI i) v = some (gH (sA g 189 (upd (gA g 189) i v))) := g_wA (gN (by decide)) (fun _ => rfl) h (by decide)
theorem ia_190 (g : gG) {i : Nat} (h : i < 401) : ab_ia 0 (gH g) 190 (nI i) = some (gA g 190 i) := g_rA (gN (by decide)) rfl h (by decide)
theorem iw_190 (g : gG) {i : Nat} (v : Int32) (h : i < 401) : ab_iw 0 (gH g) 190 (nI i) v = some (gH (sA g 190 (upd (gA g 190) i v))) := g_wA (gN (by decide)) (fun _ => rfl) h (by decide)
theorem ia_191 (g : gG) {i : Nat} (h : i < 401) : ab_ia 0 (gH g) 191 (nI i) = some (gA g 191 i) := g_rA (gN (by decide)) rfl h (by decide)
theorem iw_191 (g : gG) {i : Nat} (v : Int32) (h : i < 401) : ab_iw 0 (gH g) 191 (nI i) v = some (gH (sA g 191 (upd (gA g 191) i v))) := g_wA (gN (by decide)) (fun _ => rfl) h (by decide)
theorem ia_193 (g : gG) {i : Nat} (h : i < 10) : ab_ia 0 (gH g) 193 (nI i) = some (gA g 193 i) := g_rA (gN (by decide)) rfl h (by decide)
theorem iw_193 (g : gG) {i : Nat} (v : Int32) (h : i < 10) : ab_iw 0 (gH g) 193 (nI i) v = some (gH (sA g 193 (upd (gA g 193) i v))) := g_wA (gN (by decide)) (fun _ => rfl) h (by decide)
theorem ia_195 (g : gG) {i : Nat} (h : i < 400) : ab_ia 0 (gH g) 195 (nI i) = some (gA g 195 i) := g_rA (gN (by decide)) rfl h (by decide)
theorem iw_195 (g : gG) {i : Nat} (v : Int32) (h : i < 400) : ab_iw 0 (gH g) 195 (nI i) v = some (gH (sA g 195 (upd (gA g 195) i v))) := g_wA (gN (by decide)) (fun _ => rfl) h (by decide)
theorem ia_197 (g : gG) {i : Nat} (h : i < 12) : ab_ia 0 (gH g) 197 (nI i) = some (gA g 197 i) := g_rA (gN (by decide)) rfl h (by decide)
theorem iw_197 (g : gG) {i : Nat} (v : Int32) (h : i < 12) : ab_iw 0 (gH g) 197 (nI i) v = some (gH (sA g 197 (upd (gA g 197) i v))) := g_wA (gN (by decide)) (fun _ => rfl) h (by decide)
theorem ia_198 (g : gG) {i : Nat} (h : i < 12) : ab_ia 0 (gH g) 198 (nI i) = some (gA g 198 i) := g_rA (gN (by decide)) rfl h (by decide)
theorem iw_198 (g : gG) {i : Nat} (v : Int32) (h : i < 12) : ab_iw 0 (gH g) 198 (nI i) v = some (gH (sA g 198 (upd (gA g 198) i v))) := g_wA (gN (by decide)) (fun _ => rfl) h (by decide)
theorem ia_199 (g : gG) {i : Nat} (h : i < 12) : ab_ia 2 (gH g) 199 (nI i) = some (gA g 199 i) := g_rA (gN (by decide)) rfl h (by decide)
theorem iw_199 (g : gG) {i : Nat} (v : Int32) (h : i < 12) : ab_iw 2 (gH g) 199 (nI i) v = some (gH (sA g 199 (upd (gA g 199) i v))) := g_wA (gN (by decide)) (fun _ => rfl) h (by decide)
theorem ia_200 (g : gG) {i : Nat} (h : i < 10) : ab_ia 0 (gH g) 200 (nI i) = some (gA g 200 i) := g_rA (gN (by decide)) rfl h (by decide)
theorem iw_200 (g : gG) {i : Nat} (v : Int32) (h : i < 10) : ab_iw 0 (gH g) 200 (nI i) v = some (gH (sA g 200 (upd (gA g 200) i v))) := g_wA (gN (by decide)) (fun _ => rfl) h (by decide)
theorem ia_201 (g : gG) {i : Nat} (h : i < 10) : ab_ia 0 (gH g) 201 (nI i) = some (gA g 201 i) := g_rA (gN (by decide)) rfl h (by decide)
theorem iw_201 (g : gG) {i : Nat} (v : Int32) (h : i < 10) : ab_iw 0 (gH g) 201 (nI i) v = some (gH (sA g 201 (upd (gA g 201) i v))) := g_wA (gN (by decide)) (fun _ => rfl) h (by decide)
theorem ia_202 (g : gG) {i : Nat} (h : i < 1024) : ab_ia 0 (gH g) 202 (nI i) = some (gA g 202 i) := g_rA (gN (by decide)) rfl h (by decide)
theorem iw_202 (g : gG) {i : Nat} (v : Int32) (h : i < 1024) : ab_iw 0 (gH g) 202 (nI i) v = some (gH (sA g 202 (upd (gA g 202) i v))) := g_wA (gN (by decide)) (fun _ => rfl) h (by decide)
theorem ia_204 (g : gG) {i : Nat} (h : i < 10) : ab_ia 0 (gH g) 204 (nI i) = some (gA g 204 i) := g_rA (gN (by decide)) rfl h (by decide)
theorem iw_204 (g : gG) {i : Nat} (v : Int32) (h : i < 10) : ab_iw 0 (gH g) 204 (nI i) v = some (gH (sA g 204 (upd (gA g 204) i v))) := g_wA (gN (by decide)) (fun _ => rfl) h (by decide)
theorem ia_205 (g : gG) {i : Nat} (h : i < 10) : ab_ia 0 (gH g) 205 (nI i) = some (gA g 205 i) := g_rA (gN (by decide)) rfl h (by decide)
theorem iw_205 (g : gG) {i : Nat} (v : Int32) (h : i < 10) : ab_iw 0 (gH g) 205 (nI i) v = some (gH (sA g 205 (upd (gA g 205) i v))) := g_wA (gN (by decide)) (fun _ => rfl) h (by decide)
theorem ia_207 (g : gG) {i : Nat} (h : i < 984) : ab_ia 0 (gH g) 207 (nI i) = some (gA g 207 i) := g_rA (gN (by decide)) rfl h (by decide)
theorem iw_207 (g : gG) {i : Nat} (v : Int32) (h : i < 984) : ab_iw 0 (gH g) 207 (nI i) v = some (gH (sA g 207 (upd (gA g 207) i v))) := g_wA (gN (by decide)) (fun _ => rfl) h (by decide)
theorem ia_208 (g : gG) {i : Nat} (h : i < 984) : ab_ia 0 (gH g) 208 (nI i) = some (gA g 208 i) := g_rA (gN (by decide)) rfl h (by decide)
theorem iw_208 (g : gG) {i : Nat} (v : Int32) (h : i < 984) : ab_iw 0 (gH g) 208 (nI i) v = some (gH (sA g 208 (upd (gA g 208) i v))) := g_wA (gN (by decide)) (fun _ => rfl) h (by decide)
theorem ia_209 (g : gG) {i : Nat} (h : i < 584) : ab_ia 0 (gH g) 209 (nI i) = some (gA g 209 i) := g_rA (gN (by decide)) rfl h (by decide)
theorem iw_209 (g : gG) {i : Nat} (v : Int32) (h : i < 584) : ab_iw 0 (gH g) 209 (nI i) v = some (gH (sA g 209 (upd (gA g 209) i v))) := g_wA (gN (by decide)) (fun _ => rfl) h (by decide)
theorem ia_210 (g : gG) {i : Nat} (h : i < 7008) : ab_ia 0 (gH g) 210 (nI i) = some (gA g 210 i) := g_rA (gN (by decide)) rfl h (by decide)
theorem iw_210 (g : gG) {i : Nat} (v : Int32) (h : i < 7008) : ab_iw 0 (gH g) 210 (nI i) v = some (gH (sA g 210 (upd (gA g 210) i v))) := g_wA (gN (by decide)) (fun _ => rfl) h (by decide)
theorem ia_211 (g : gG) {i : Nat} (h : i < 400) : ab_ia 0 (gH g) 211 (nI i) = some (gA g 211 i) := g_rA (gN (by decide)) rfl h (by decide)
theorem iw_211 (g : gG) {i : Nat} (v : Int32) (h : i < 400) : ab_iw 0 (gH g) 211 (nI i) v = some (gH (sA g 211 (upd (gA g 211) i v))) := g_wA (gN (by decide)) (fun _ => rfl) h (by decide)
theorem ia_212 (g : gG) {i : Nat} (h : i < 6) : ab_ia 0 (gH g) 212 (nI i) = some (gA g 212 i) := g_rA (gN (by decide)) rfl h (by decide)
theorem iw_212 (g : gG) {i : Nat} (v : Int32) (h : i < 6) : ab_iw 0 (gH g) 212 (nI i) v = some (gH (sA g 212 (upd (gA g 212) i v))) := g_wA (gN (by decide)) (fun _ => rfl) h (by decide)
theorem ia_213 (g : gG) {i : Nat} (h : i < 36) : ab_ia 0 (gH g) 213 (nI i) = some (gA g 213 i) := g_rA (gN (by decide)) rfl h (by decide)
theorem iw_213 (g : gG) {i : Nat} (v : Int32) (h : i < 36) : ab_iw 0 (gH g) 213 (nI i) v = some (gH (sA g 213 (upd (gA g 213) i v))) := g_wA (gN (by decide)) (fun _ => rfl) h (by decide)
theorem ia_214 (g : gG) {i : Nat} (h : i < 10) : ab_ia 0 (gH g) 214 (nI i) = some (gA g 214 i) := g_rA (gN (by decide)) rfl h (by decide)
theorem iw_214 (g : gG) {i : Nat} (v : Int32) (h : i < 10) : ab_iw 0 (gH g) 214 (nI i) v = some (gH (sA g 214 (upd (gA g 214) i v))) := g_wA (gN (by decide)) (fun _ => rfl) h (by decide)
theorem ia_215 (g : gG) {i : Nat} (h : i < 1024) : ab_ia 0 (gH g) 215 (nI i) = some (gA g 215 i) := g_rA (gN (by decide)) rfl h (by decide)
theorem iw_215 (g : gG) {i : Nat} (v : Int32) (h : i < 1024) : ab_iw 0 (gH g) 215 (nI i) v = some (gH (sA g 215 (upd (gA g 215) i v))) := g_wA (gN (by decide)) (fun _ => rfl) h (by decide)
theorem ia_216 (g : gG) {i : Nat} (h : i < 10) : ab_ia 0 (gH g) 216 (nI i) = some (gA g 216 i) := g_rA (gN (by decide)) rfl h (by decide)
theorem iw_216 (g : gG) {i : Nat} (v : Int32) (h : i < 10) : ab_iw 0 (gH g) 216 (nI i) v = some (gH (sA g 216 (upd (gA g 216) i v))) := g_wA (gN (by decide)) (fun _ => rfl) h (by decide)
theorem ia_217 (g : gG) {i : Nat} (h : i < 10240) : ab_ia 0 (gH g) 217 (nI i) = some (gA g 217 i) := g_rA (gN (by decide)) rfl h (by decide)
theorem iw_217 (g : gG) {i : Nat} (v : Int32) (h : i < 10240) : ab_iw 0 (gH g) 217 (nI i) v = some (gH (sA g 217 (upd (gA g 217) i v))) := g_wA (gN (by decide)) (fun _ => rfl) h (by decide)
theorem ia_218 (g : gG) {i : Nat} (h : i < 10) : ab_ia 0 (gH g) 218 (nI i) = some (gA g 218 i) := g_rA (gN (by decide)) rfl h (by decide)
theorem iw_218 (g : gG) {i : Nat} (v : Int32) (h : i < 10) : ab_iw 0 (gH g) 218 (nI i) v = some (gH (sA g 218 (upd (gA g 218) i v))) := g_wA (gN (by decide)) (fun _ => rfl) h (by decide)
theorem ra_43 (g : gG) {i : Nat} (h : i < 12) : ab_ra (gH g) 43 (nI i) = some (44 + 12 * i) := by
  have h1 := nI_in h (by decide)
  have h2 := nI_clamp (show i < 2 ^ 31 by omega)
  unfold ab_ra
  rw [show (gH g).2 43 = .inl (3, 12, .inr (.inr (.inr (.inr (fun j => if j < 12 then some (44 + 12 * j) else none))))) from rfl]
  simp only [h2] at h1 ⊢
  rw [if_pos ⟨gN (by decide), trivial, h1⟩, if_pos h]
theorem la_219 (g : gG) {i : Nat} (h : i < 1) : ab_la (gH g) 219 (nI i) = some (gL g 219 i) := g_la (h := gH g) rfl (gN (by decide)) h (by decide)
theorem lw_219 (g : gG) {i : Nat} (v : Int64) (h : i < 1) : ab_lw (gH g) 219 (nI i) v = some (gH (sL g 219 (vp_updL (gL g 219) i v))) := by
  rw [g_lw (h := gH g) (f := gL g 219) rfl (gN (by decide)) h (by decide)]; exact congrArg some (g_up rfl rfl gc_sL)
theorem gS {g : gG} {x r : Nat} (hx : isSt x) (hr : r < 12) : x + r < (gH g).1 := gN (by have := isSt_lt hx; omega)
theorem io_s (g : gG) {x : Nat} (hx : isSt x) : ab_io (gH g) x 8 = true := g_io (gc_st (g := g) hx (r := 0) (by decide)) (gS (r := 0) hx (by decide))
theorem io_l (g : gG) {x : Nat} (hx : isSt x) : ab_io (gH g) (x + 1) 4 = true := g_io (gc_st (g := g) hx (r := 1) (by decide)) (gS hx (by decide))
theorem fi_s0 (g : gG) {x : Nat} (hx : isSt x) : ab_fi (gH g) x 8 0 = some (gF g x 0) := g_fi (gc_st (g := g) hx (r := 0) (by decide)) (gS (r := 0) hx (by decide)) rfl
theorem fw_s0 (g : gG) {x : Nat} (v : Int32) (hx : isSt x) : ab_fw (gH g) x 8 0 (.int v) = some (gH (sF g x 0 v)) := g_wF (gS (r := 0) hx (by decide)) (gc_st (g := g) hx (r := 0) (by decide)) (by simp) (by
  refine (gc_st (g := sF g x 0 v) hx (r := 0) (by decide)).trans ?_
  show gsc x 0 (gF (sF g x 0 v) x) _ _ _ = _
  rw [gF_sF1]; rfl)
theorem fi_s1 (g : gG) {x : Nat} (hx : isSt x) : ab_fi (gH g) x 8 1 = some (gF g x 1) := g_fi (gc_st (g := g) hx (r := 0) (by decide)) (gS (r := 0) hx (by decide)) rfl
theorem fw_s1 (g : gG) {x : Nat} (v : Int32) (hx : isSt x) : ab_fw (gH g) x 8 1 (.int v) = some (gH (sF g x 1 v)) := g_wF (gS (r := 0) hx (by decide)) (gc_st (g := g) hx (r := 0) (by decide)) (by simp) (by
  refine (gc_st (g := sF g x 1 v) hx (r := 0) (by decide)).trans ?_
  show gsc x 0 (gF (sF g x 1 v) x) _ _ _ = _
  rw [gF_sF1]; rfl)
theorem fi_s2 (g : gG) {x : Nat} (hx : isSt x) : ab_fi (gH g) x 8 2 = some (gF g x 2) := g_fi (gc_st (g := g) hx (r := 0) (by decide)) (gS (r := 0) hx (by decide)) rfl
theorem fw_s2 (g : gG) {x : Nat} (v : Int32) (hx : isSt x) : ab_fw (gH g) x 8 2 (.int v) = some (gH (sF g x 2 v)) := g_wF (gS (r := 0) hx (by decide)) (gc_st (g := g) hx (r := 0) (by decide)) (by simp) (by
  refine (gc_st (g := sF g x 2 v) hx (r := 0) (by decide)).trans ?_
  show gsc x 0 (gF (sF g x 2 v) x) _ _ _ = _
  rw [gF_sF1]; rfl)
theorem fi_s3 (g : gG) {x : Nat} (hx : isSt x) : ab_fi (gH g) x 8 3 = some (gF g x 3) := g_fi (gc_st (g := g) hx (r := 0) (by decide)) (gS (r := 0) hx (by decide)) rfl
theorem fw_s3 (g : gG) {x : Nat} (v : Int32) (hx : isSt x) : ab_fw (gH g) x 8 3 (.int v) = some (gH (sF g x 3 v)) := g_wF (gS (r := 0) hx (by decide)) (gc_st (g := g) hx (r := 0) (by decide)) (by simp) (by
  refine (gc_st (g := sF g x 3 v) hx (r := 0) (by decide)).trans ?_
  show gsc x 0 (gF (sF g x 3 v) x) _ _ _ = _
  rw [gF_sF1]; rfl)
theorem fi_s4 (g : gG) {x : Nat} (hx : isSt x) : ab_fi (gH g) x 8 4 = some (gF g x 4) := g_fi (gc_st (g := g) hx (r := 0) (by decide)) (gS (r := 0) hx (by decide)) rfl
theorem fw_s4 (g : gG) {x : Nat} (v : Int32) (hx : isSt x) : ab_fw (gH g) x 8 4 (.int v) = some (gH (sF g x 4 v)) := g_wF (gS (r := 0) hx (by decide)) (gc_st (g := g) hx (r := 0) (by decide)) (by simp) (by
  refine (gc_st (g := sF g x 4 v) hx (r := 0) (by decide)).trans ?_
  show gsc x 0 (gF (sF g x 4 v) x) _ _ _ = _
  rw [gF_sF1]; rfl)
theorem fi_s5 (g : gG) {x : Nat} (hx : isSt x) : ab_fi (gH g) x 8 5 = some (gF g x 5) := g_fi (gc_st (g := g) hx (r := 0) (by decide)) (gS (r := 0) hx (by decide)) rfl
theorem fw_s5 (g : gG) {x : Nat} (v : Int32) (hx : isSt x) : ab_fw (gH g) x 8 5 (.int v) = some (gH (sF g x 5 v)) := g_wF (gS (r := 0) hx (by decide)) (gc_st (g := g) hx (r := 0) (by decide)) (by simp) (by
  refine (gc_st (g := sF g x 5 v) hx (r := 0) (by decide)).trans ?_
  show gsc x 0 (gF (sF g x 5 v) x) _ _ _ = _
  rw [gF_sF1]; rfl)
theorem fi_s6 (g : gG) {x : Nat} (hx : isSt x) : ab_fi (gH g) x 8 6 = some (gF g x 6) := g_fi (gc_st (g := g) hx (r := 0) (by decide)) (gS (r := 0) hx (by decide)) rfl
theorem fw_s6 (g : gG) {x : Nat} (v : Int32) (hx : isSt x) : ab_fw (gH g) x 8 6 (.int v) = some (gH (sF g x 6 v)) := g_wF (gS (r := 0) hx (by decide)) (gc_st (g := g) hx (r := 0) (by decide)) (by simp) (by
  refine (gc_st (g := sF g x 6 v) hx (r := 0) (by decide)).trans ?_
  show gsc x 0 (gF (sF g x 6 v) x) _ _ _ = _
  rw [gF_sF1]; rfl)
theorem fr_s7 (g : gG) {x : Nat} (hx : isSt x) : ab_fr (gH g) x 8 7 = some (gw g x) := g_fr (gc_st (g := g) hx (r := 0) (by decide)) (gS (r := 0) hx (by decide)) rfl
theorem fr_s8 (g : gG) {x : Nat} (hx : isSt x) : ab_fr (gH g) x 8 8 = some (x + 1) := g_fr (gc_st (g := g) hx (r := 0) (by decide)) (gS (r := 0) hx (by decide)) rfl
theorem fr_s9 (g : gG) {x : Nat} (hx : isSt x) : ab_fr (gH g) x 8 9 = some (x + 3) := g_fr (gc_st (g := g) hx (r := 0) (by decide)) (gS (r := 0) hx (by decide)) rfl
theorem fr_s10 (g : gG) {x : Nat} (hx : isSt x) : ab_fr (gH g) x 8 10 = some (x + 4) := g_fr (gc_st (g := g) hx (r := 0) (by decide)) (gS (r := 0) hx (by decide)) rfl
theorem fr_s11 (g : gG) {x : Nat} (hx : isSt x) : ab_fr (gH g) x 8 11 = some (x + 5) := g_fr (gc_st (g := g) hx (r := 0) (by decide)) (gS (r := 0) hx (by decide)) rfl
theorem fr_s12 (g : gG) {x : Nat} (hx : isSt x) : ab_fr (gH g) x 8 12 = some (x + 6) := g_fr (gc_st (g := g) hx (r := 0) (by decide)) (gS (r := 0) hx (by decide)) rfl
theorem fr_s13 (g : gG) {x : Nat} (hx : isSt x) : ab_fr (gH g) x 8 13 = some (x + 7) := g_fr (gc_st (g := g) hx (r := 0) (by decide)) (gS (r := 0) hx (by decide)) rfl
theorem fr_s14 (g : gG) {x : Nat} (hx : isSt x) : ab_fr (gH g) x 8 14 = some (x + 8) := g_fr (gc_st (g := g) hx (r := 0) (by decide)) (gS (r := 0) hx (by decide)) rfl
theorem fr_s15 (g : gG) {x : Nat} (hx : isSt x) : ab_fr (gH g) x 8 15 = some (x + 9) := g_fr (gc_st (g := g) hx (r := 0) (by decide)) (gS (r := 0) hx (by decide)) rfl
theorem fr_s16 (g : gG) {x : Nat} (hx : isSt x) : ab_fr (gH g) x 8 16 = some (x + 10) := g_fr (gc_st (g := g) hx (r := 0) (by decide)) (gS (r := 0) hx (by decide)) rfl
theorem fr_s17 (g : gG) {x : Nat} (hx : isSt x) : ab_fr (gH g) x 8 17 = some (x + 11) := g_fr (gc_st (g := g) hx (r := 0) (by decide)) (gS (r := 0) hx (by decide)) rfl
theorem fw_s7 (g : gG) {x : Nat} (y : Nat) (hx : isSt x) : ab_fw (gH g) x 8 7 (.ref y) = some (gH (sW g x y)) := by
  rw [g_fw (h := gH g) (a := x) (gc_st (g := g) hx (r := 0) (by decide)) (gS (r := 0) hx (by decide)) (by simp)]
  refine congrArg some (g_up rfl ?_ gc_sW)
  refine (gc_st (g := sW g x y) hx (r := 0) (by decide)).trans ?_
  show gsc x 0 _ _ _ (gw (sW g x y) x) = _
  rw [gw_sW, if_pos rfl]; rfl
theorem fr_l0 (g : gG) {x : Nat} (hx : isSt x) : ab_fr (gH g) (x + 1) 4 0 = some (x + 2) := g_fr (gc_st (g := g) hx (r := 1) (by decide)) (gS hx (by decide)) rfl
theorem fi_l1 (g : gG) {x : Nat} (hx : isSt x) : ab_fi (gH g) (x + 1) 4 1 = some (gF g (x + 1) 1) := g_fi (gc_st (g := g) hx (r := 1) (by decide)) (gS hx (by decide)) rfl
theorem fw_l1 (g : gG) {x : Nat} (v : Int32) (hx : isSt x) : ab_fw (gH g) (x + 1) 4 1 (.int v) = some (gH (sF g (x + 1) 1 v)) := g_wF (gS hx (by decide)) (gc_st (g := g) hx (r := 1) (by decide)) (by simp) (by
  refine (gc_st (g := sF g (x + 1) 1 v) hx (r := 1) (by decide)).trans ?_
  rw [gF_sF1]; rfl)
theorem fi_l2 (g : gG) {x : Nat} (hx : isSt x) : ab_fi (gH g) (x + 1) 4 2 = some (gF g (x + 1) 2) := g_fi (gc_st (g := g) hx (r := 1) (by decide)) (gS hx (by decide)) rfl
theorem fw_l2 (g : gG) {x : Nat} (v : Int32) (hx : isSt x) : ab_fw (gH g) (x + 1) 4 2 (.int v) = some (gH (sF g (x + 1) 2 v)) := g_wF (gS hx (by decide)) (gc_st (g := g) hx (r := 1) (by decide)) (by simp) (by
  refine (gc_st (g := sF g (x + 1) 2 v) hx (r := 1) (by decide)).trans ?_
  rw [gF_sF1]; rfl)
theorem la_s (g : gG) {x i : Nat} (hx : isSt x) (h : i < 60) : ab_la (gH g) (x + 2) (nI i) = some (gL g (x + 2) i) := g_la (h := gH g) (gc_st (g := g) hx (r := 2) (by decide)) (gS hx (by decide)) h (by decide)
theorem lw_s (g : gG) {x i : Nat} (v : Int64) (hx : isSt x) (h : i < 60) : ab_lw (gH g) (x + 2) (nI i) v = some (gH (sL g (x + 2) (vp_updL (gL g (x + 2)) i v))) := by
  rw [g_lw (h := gH g) (gc_st (g := g) hx (r := 2) (by decide)) (gS hx (by decide)) h (by decide)]
  refine congrArg some (g_up rfl ?_ gc_sL)
  refine (gc_st (g := sL g (x + 2) _) hx (r := 2) (by decide)).trans ?_
  rw [gL_sL1]; rfl
theorem ia_s3 (g : gG) {x i : Nat} (hx : isSt x) (h : i < 10) : ab_ia 0 (gH g) (x + 3) (nI i) = some (gA g (x + 3) i) := g_rA (gS hx (by decide)) (gc_st (g := g) hx (r := 3) (by decide)) h (by decide)
theorem iw_s3 (g : gG) {x i : Nat} (v : Int32) (hx : isSt x) (h : i < 10) : ab_iw 0 (gH g) (x + 3) (nI i) v = some (gH (sA g (x + 3) (upd (gA g (x + 3)) i v))) := g_wA (gS hx (by decide)) (fun f => by
  refine (gc_st (g := sA g (x + 3) f) hx (r := 3) (by decide)).trans ?_
  rw [gA_sA1]; rfl) h (by decide)
theorem ia_s4 (g : gG) {x i : Nat} (hx : isSt x) (h : i < 10) : ab_ia 0 (gH g) (x + 4) (nI i) = some (gA g (x + 4) i) := g_rA (gS hx (by decide)) (gc_st (g := g) hx (r := 4) (by decide)) h (by decide)
theorem iw_s4 (g : gG) {x i : Nat} (v : Int32) (hx : isSt x) (h : i < 10) : ab_iw 0 (gH g) (x + 4) (nI i) v = some (gH (sA g (x + 4) (upd (gA g (x + 4)) i v))) := g_wA (gS hx (by decide)) (fun f => by
  refine (gc_st (g := sA g (x + 4) f) hx (r := 4) (by decide)).trans ?_
  rw [gA_sA1]; rfl) h (by decide)
theorem ia_s5 (g : gG) {x i : Nat} (hx : isSt x) (h : i < 10) : ab_ia 0 (gH g) (x + 5) (nI i) = some (gA g (x + 5) i) := g_rA (gS hx (by decide)) (gc_st (g := g) hx (r := 5) (by decide)) h (by decide)
theorem iw_s5 (g : gG) {x i : Nat} (v : Int32) (hx : isSt x) (h : i < 10) : ab_iw 0 (gH g) (x + 5) (nI i) v = some (gH (sA g (x + 5) (upd (gA g (x + 5)) i v))) := g_wA (gS hx (by decide)) (fun f => by
  refine (gc_st (g := sA g (x + 5) f) hx (r := 5) (by decide)).trans ?_
  rw [gA_sA1]; rfl) h (by decide)
theorem ia_s6 (g : gG) {x i : Nat} (hx : isSt x) (h : i < 10) : ab_ia 0 (gH g) (x + 6) (nI i) = some (gA g (x + 6) i) := g_rA (gS hx (by decide)) (gc_st (g := g) hx (r := 6) (by decide)) h (by decide)
theorem iw_s6 (g : gG) {x i : Nat} (v : Int32) (hx : isSt x) (h : i < 10) : ab_iw 0 (gH g) (x + 6) (nI i) v = some (gH (sA g (x + 6) (upd (gA g (x + 6)) i v))) := g_wA (gS hx (by decide)) (fun f => by
  refine (gc_st (g := sA g (x + 6) f) hx (r := 6) (by decide)).trans ?_
  rw [gA_sA1]; rfl) h (by decide)
theorem ia_s7 (g : gG) {x i : Nat} (hx : isSt x) (h : i < 10) : ab_ia 0 (gH g) (x + 7) (nI i) = some (gA g (x + 7) i) := g_rA (gS hx (by decide)) (gc_st (g := g) hx (r := 7) (by decide)) h (by decide)
theorem iw_s7 (g : gG) {x i : Nat} (v : Int32) (hx : isSt x) (h : i < 10) : ab_iw 0 (gH g) (x + 7) (nI i) v = some (gH (sA g (x + 7) (upd (gA g (x + 7)) i v))) := g_wA (gS hx (by decide)) (fun f => by
  refine (gc_st (g := sA g (x + 7) f) hx (r := 7) (by decide)).trans ?_
  rw [gA_sA1]; rfl) h (by decide)
theorem ia_s8 (g : gG) {x i : Nat} (hx : isSt x) (h : i < 10) : ab_ia 0 (gH g) (x + 8) (nI i) = some (gA g (x + 8) i) := g_rA (gS hx (by decide)) (gc_st (g := g) hx (r := 8) (by decide)) h (by decide)
theorem iw_s8 (g : gG) {x i : Nat} (v : Int32) (hx : isSt x) (h : i < 10) : ab_iw 0 (gH g) (x + 8) (nI i) v = some (gH (sA g (x + 8) (upd (gA g (x + 8)) i v))) := g_wA (gS hx (by decide)) (fun f => by
  refine (gc_st (g := sA g (x + 8) f) hx (r := 8) (by decide)).trans ?_
  rw [gA_sA1]; rfl) h (by decide)
theorem ia_s9 (g : gG) {x i : Nat} (hx : isSt x) (h : i < 100) : ab_ia 0 (gH g) (x + 9) (nI i) = some (gA g (x + 9) i) := g_rA (gS hx (by decide)) (gc_st (g := g) hx (r := 9) (by decide)) h (by decide)
theorem iw_s9 (g : gG) {x i : Nat} (v : Int32) (hx : isSt x) (h : i < 100) : ab_iw 0 (gH g) (x + 9) (nI i) v = some (gH (sA g (x + 9) (upd (gA g (x + 9)) i v))) := g_wA (gS hx (by decide)) (fun f => by
  refine (gc_st (g := sA g (x + 9) f) hx (r := 9) (by decide)).trans ?_
  rw [gA_sA1]; rfl) h (by decide)
theorem ia_s10 (g : gG) {x i : Nat} (hx : isSt x) (h : i < 100) : ab_ia 0 (gH g) (x + 10) (nI i) = some (gA g (x + 10) i) := g_rA (gS hx (by decide)) (gc_st (g := g) hx (r := 10) (by decide)) h (by decide)
theorem iw_s10 (g : gG) {x i : Nat} (v : Int32) (hx : isSt x) (h : i < 100) : ab_iw 0 (gH g) (x + 10) (nI i) v = some (gH (sA g (x + 10) (upd (gA g (x + 10)) i v))) := g_wA (gS hx (by decide)) (fun f => by
  refine (gc_st (g := sA g (x + 10) f) hx (r := 10) (by decide)).trans ?_
  rw [gA_sA1]; rfl) h (by decide)
theorem ia_s11 (g : gG) {x i : Nat} (hx : isSt x) (h : i < 12) : ab_ia 0 (gH g) (x + 11) (nI i) = some (gA g (x + 11) i) := g_rA (gS hx (by decide)) (gc_st (g := g) hx (r := 11) (by decide)) h (by decide)
theorem iw_s11 (g : gG) {x i : Nat} (v : Int32) (hx : isSt x) (h : i < 12) : ab_iw 0 (gH g) (x + 11) (nI i) v = some (gH (sA g (x + 11) (upd (gA g (x + 11)) i v))) := g_wA (gS hx (by decide)) (fun f => by
  refine (gc_st (g := sA g (x + 11) f) hx (r := 11) (by decide)).trans ?_
  rw [gA_sA1]; rfl) h (by decide)
theorem io_w (g : gG) {x : Nat} (hx : isLw g x) : ab_io (gH g) x 2 = true := g_io (gc_lw (g := g) hx (r := 0) (by decide)) (by have := isLw_lt hx; show x < 220 + gn g; omega)
theorem fi_w0 (g : gG) {x : Nat} (hx : isLw g x) : ab_fi (gH g) x 2 0 = some (gF g x 0) := g_fi (gc_lw (g := g) hx (r := 0) (by decide)) (by have := isLw_lt hx; show x < 220 + gn g; omega) rfl
theorem fr_w1 (g : gG) {x : Nat} (hx : isLw g x) : ab_fr (gH g) x 2 1 = some (x + 2) := g_fr (gc_lw (g := g) hx (r := 0) (by decide)) (by have := isLw_lt hx; show x < 220 + gn g; omega) rfl
theorem fr_w2 (g : gG) {x : Nat} (hx : isLw g x) : ab_fr (gH g) x 2 2 = some (x + 1) := g_fr (gc_lw (g := g) hx (r := 0) (by decide)) (by have := isLw_lt hx; show x < 220 + gn g; omega) rfl
theorem ia_w1 (g : gG) {x i : Nat} (hx : isLw g x) (h : i < 24) : ab_ia 0 (gH g) (x + 1) (nI i) = some (gA g (x + 1) i) := g_rA (by have := isLw_lt hx; show x + 1 < 220 + gn g; omega) (gc_lw (g := g) hx (r := 1) (by decide)) h (by decide)
theorem iw_w1 (g : gG) {x i : Nat} (v : Int32) (hx : isLw g x) (h : i < 24) : ab_iw 0 (gH g) (x + 1) (nI i) v = some (gH (sA g (x + 1) (upd (gA g (x + 1)) i v))) := g_wA (by have := isLw_lt hx; show x + 1 < 220 + gn g; omega) (fun f => by
  refine (gc_lw (g := sA g (x + 1) f) hx (r := 1) (by decide)).trans ?_
  rw [gA_sA1]; rfl) h (by decide)
theorem ia_w2 (g : gG) {x i : Nat} (hx : isLw g x) (h : i < gl g (x + 2)) (h2 : gl g (x + 2) < 2 ^ 31) : ab_ia 0 (gH g) (x + 2) (nI i) = some (gA g (x + 2) i) := g_rA (by have := isLw_lt hx; show x + 2 < 220 + gn g; omega) (gc_lw (g := g) hx (r := 2) (by decide)) h h2
theorem al_w2 (g : gG) {x : Nat} (hx : isLw g x) : ab_al (gH g) (x + 2) = some (nI (gl g (x + 2))) := by
  have h : (gH g).2 (x + 2) = .inl (0, gl g (x + 2), .inl (gA g (x + 2))) := gc_lw (g := g) hx (r := 2) (by decide)
  have h2 : x + 2 < (gH g).1 := by have := isLw_lt hx; show x + 2 < 220 + gn g; omega
  have h3 : ab_il (gH g) (x + 2) = some (gl g (x + 2)) := by unfold ab_il; rw [h]; simp only [h2, and_self, if_true]
  unfold ab_al; rw [h3]
