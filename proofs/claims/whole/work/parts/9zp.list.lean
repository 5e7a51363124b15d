/-! ===== heaps as lists of cells: what the constructors make ===== -/
def d0 : va_E := .inr (0, [])
def ofL (l : List va_E) : ab_H := (l.length, fun b => l.getD b d0)
def lq (c ts : List va_E) : ab_H := (c.length + ts.length, fun b => (c ++ ts).getD b d0)
theorem lq_of (c ts : List va_E) : lq c ts = ofL (c ++ ts) := Prod.ext (List.length_append).symm rfl
section LP
variable {c ts : List va_E} {i : Nat}
theorem lq_get {e : va_E} (h : ts[i]? = some e) : (lq c ts).2 (c.length + i) = e := by
  show (c ++ ts).getD (c.length + i) d0 = e
  rw [List.getD_eq_getElem?_getD, List.getElem?_append_right (Nat.le_add_right _ _), Nat.add_sub_cancel_left, h]; rfl
theorem lq_lt {e : va_E} (h : ts[i]? = some e) : c.length + i < (lq c ts).1 := by
  have := (List.getElem?_eq_some_iff.mp h).1
  show c.length + i < c.length + ts.length
  omega
theorem lq_up {e : va_E} (h : i < ts.length) : ab_up (lq c ts) (c.length + i) e = lq c (ts.set i e) := by
  refine Prod.ext (by show c.length + ts.length = c.length + (ts.set i e).length; rw [List.length_set]) (funext fun b => ?_)
  show va_up (fun b => (c ++ ts).getD b d0) (c.length + i) e b = (c ++ ts.set i e).getD b d0
  unfold va_up
  simp only [List.getD_eq_getElem?_getD]
  by_cases hb : b < c.length
  · rw [if_neg (by omega), List.getElem?_append_left hb, List.getElem?_append_left hb]
  · rw [List.getElem?_append_right (by omega), List.getElem?_append_right (by omega)]
    by_cases hi : b = c.length + i
    · rw [if_pos hi, hi, Nat.add_sub_cancel_left, List.getElem?_set_self h]; rfl
    · rw [if_neg hi, List.getElem?_set_ne (by omega)]
theorem lq_ps {e : va_E} : ab_ps (lq c ts) e = lq c (ts ++ [e]) := by
  refine Prod.ext (by show c.length + ts.length + 1 = c.length + (ts ++ [e]).length; rw [List.length_append]; rfl) (funext fun b => ?_)
  show va_up (fun b => (c ++ ts).getD b d0) (c.length + ts.length) e b = (c ++ (ts ++ [e])).getD b d0
  unfold va_up
  simp only [List.getD_eq_getElem?_getD]
  rw [← List.append_assoc]
  by_cases hb : b < (c ++ ts).length
  · rw [if_neg (by rw [List.length_append] at hb; omega), List.getElem?_append_left hb]
  · by_cases hi : b = c.length + ts.length
    · rw [if_pos hi, hi, ← List.length_append, List.getElem?_append_right (Nat.le_refl _), Nat.sub_self]; rfl
    · rw [if_neg hi, List.getElem?_eq_none (by omega), List.getElem?_eq_none (by rw [List.length_append]; rw [List.length_append] at hb ⊢; simp only [List.length_singleton]; omega)]
theorem lq_fw {ci k : Nat} {fs : List Value} {v : Value} (h : ts[i]? = some (.inr (ci, fs))) (hk : k < fs.length) : ab_fw (lq c ts) (c.length + i) ci k v = some (lq c (ts.set i (.inr (ci, fs.set k v)))) := by
  rw [g_fw (lq_get h) (lq_lt h) hk, lq_up (List.getElem?_eq_some_iff.mp h).1]
theorem lq_fr {ci k y : Nat} {fs : List Value} (h : ts[i]? = some (.inr (ci, fs))) (hk : fs[k]? = some (.ref y)) : ab_fr (lq c ts) (c.length + i) ci k = some y := g_fr (lq_get h) (lq_lt h) hk
theorem lq_nw {ci : Nat} {fs : List Value} (hn : c.length + ts.length < ab_SB) : ab_nw (lq c ts) ci fs = some (lq c (ts ++ [.inr (ci, fs)])) := by
  unfold ab_nw; rw [if_pos (show (lq c ts).1 < ab_SB from hn), lq_ps]
theorem lq_na {kd B n : Nat} (hk : ¬ kd = 1) (hn : c.length + ts.length < ab_SB) (hB : n ≤ B) (h2 : n < 2 ^ 31) : ab_na kd B (lq c ts) (nI n) = some (lq c (ts ++ [.inl (kd, n, .inl (fun _ => 0))])) := by
  unfold ab_na
  rw [nI_clamp h2, if_pos ⟨hn, Int32.not_lt.mpr (by rw [Int32.le_iff_toInt_le, nI_toInt h2]; exact Int.natCast_nonneg _), hB⟩, if_neg hk, lq_ps]
theorem lq_naL {B n : Nat} (hn : c.length + ts.length < ab_SB) (hB : n ≤ B) (h2 : n < 2 ^ 31) : ab_na 1 B (lq c ts) (nI n) = some (lq c (ts ++ [.inl (1, n, .inr (.inl (fun _ => 0)))])) := by
  unfold ab_na
  rw [nI_clamp h2, if_pos ⟨hn, Int32.not_lt.mpr (by rw [Int32.le_iff_toInt_le, nI_toInt h2]; exact Int.natCast_nonneg _), hB⟩, if_pos rfl, lq_ps]
theorem lq_nq {B n : Nat} (hn : c.length + ts.length < ab_SB) (hB : n ≤ B) (h2 : n < 2 ^ 31) : ab_nq B (lq c ts) (nI n) = some (lq c (ts ++ [.inl (3, n, .inr (.inr (.inr (.inr (fun _ => none)))))])) := by
  unfold ab_nq
  rw [nI_clamp h2, if_pos ⟨hn, Int32.not_lt.mpr (by rw [Int32.le_iff_toInt_le, nI_toInt h2]; exact Int.natCast_nonneg _), hB⟩, lq_ps]
theorem lq_iw {n j : Nat} {f : Nat → Int32} {v : Int32} (h : ts[i]? = some (.inl (0, n, .inl f))) (hj : j < n) (hn : n < 2 ^ 31) : ab_iw 0 (lq c ts) (c.length + i) (nI j) v = some (lq c (ts.set i (.inl (0, n, .inl (upd f j v))))) := by
  rw [g_iw (lq_get h) (lq_lt h) hj hn, lq_up (List.getElem?_eq_some_iff.mp h).1]
theorem lq_rw {n j y : Nat} {f : Nat → Option Nat} (h : ts[i]? = some (.inl (3, n, .inr (.inr (.inr (.inr f)))))) (hj : j < n) (hn : n < 2 ^ 31) (hy : y < c.length + ts.length) : ab_rw (lq c ts) (c.length + i) (nI j) y = some (lq c (ts.set i (.inl (3, n, .inr (.inr (.inr (.inr (va_up f j (some y))))))))) := by
  have h1 := nI_in hj hn
  have h2 := nI_clamp (Nat.lt_trans hj hn)
  unfold ab_rw
  rw [lq_get h]
  simp only [h2] at h1 ⊢
  rw [if_pos ⟨lq_lt h, trivial, h1, hy⟩, lq_up (List.getElem?_eq_some_iff.mp h).1]
theorem lq_io {ci : Nat} {fs : List Value} (h : ts[i]? = some (.inr (ci, fs))) : ab_io (lq c ts) (c.length + i) ci = true := g_io (lq_get h) (lq_lt h)
def fil (v : Int32) (n : Nat) (f : Nat → Int32) : Nat → Int32 := fun j => if j < n then v else f j
theorem lq_fill5 {n : Nat} {f : Nat → Int32} {v : Int32} (hi : i < ts.length) (hn : n < 2 ^ 31) : ∀ (d j F : Nat), j + d = n → d < F → fJ7_fill_53178_5 (c.length + i) v (nI n) F (nI j) (lq c (ts.set i (.inl (0, n, .inl (fil v j f))))) = some (lq c (ts.set i (.inl (0, n, .inl (fil v n f))))) := by
  intro d
  induction d with
  | zero =>
    intro j F hj hF
    obtain ⟨F, rfl⟩ : ∃ F', F = F' + 1 := ⟨F - 1, by omega⟩
    have e : j = n := by omega
    subst e
    rw [fJ7_fill_53178_5, if_neg (by rw [nI_ltI (by omega) (by omega)]; omega)]
  | succ d ih =>
    intro j F hj hF
    obtain ⟨F, rfl⟩ : ∃ F', F = F' + 1 := ⟨F - 1, by omega⟩
    rw [fJ7_fill_53178_5, if_pos (by rw [nI_ltI (by omega) (by omega)]; omega), lq_iw (n := n) (f := fil v j f) (List.getElem?_set_self hi) (by omega) hn, ab_bd_some, List.set_set, nI_add]
    have e : upd (fil v j f) j v = fil v (j + 1) f := by
      funext q
      unfold upd fil
      by_cases h1 : q = j
      · rw [if_pos h1, if_pos (by omega)]
      · rw [if_neg h1]
        by_cases h2 : q < j
        · rw [if_pos h2, if_pos (by omega)]
        · rw [if_neg h2, if_neg (by omega)]
    rw [e]
    exact ih (j + 1) F (by omega) (by omega)
theorem fil_0 (v : Int32) (f : Nat → Int32) : fil v 0 f = f := by funext j; unfold fil; rw [if_neg (Nat.not_lt_zero j)]
theorem lq_fill {n F : Nat} {f : Nat → Int32} {v : Int32} (h : ts[i]? = some (.inl (0, n, .inl f))) (hn : n < 2 ^ 31) (hF : n < F) : fJ7_fill_53178 F (c.length + i) v (lq c ts) = some (lq c (ts.set i (.inl (0, n, .inl (fil v n f))))) := by
  have hi := (List.getElem?_eq_some_iff.mp h).1
  have e : ab_al (lq c ts) (c.length + i) = some (nI n) := by
    unfold ab_al ab_il
    rw [lq_get h]
    simp only [lq_lt h, true_and, if_true]
  unfold fJ7_fill_53178
  rw [e, ab_bd_some]
  have h5 := lq_fill5 (c := c) (f := f) (v := v) hi hn n 0 F (by omega) hF
  rw [fil_0] at h5
  have e2 : ts.set i (.inl (0, n, .inl f)) = ts := by
    have := List.getElem?_eq_some_iff.mp h
    obtain ⟨h1, h2⟩ := this
    rw [← h2]; exact List.set_getElem_self h1
  rw [e2] at h5
  exact h5
end LP
