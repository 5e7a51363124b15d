variable {Nq : Nat}
/-! ===== the words of THE LAW's code ===== -/
def gW (x : Nat) : Prop := x < 1000 ∨ x = 1002 ∨ x = 1007 ∨ x = 1008 ∨ (1012 ≤ x ∧ x ≤ 1019) ∨ (1100 ≤ x ∧ x ≤ 1104)
def gWs (c : List Nat) : Prop := ∀ x, x ∈ c → gW x
theorem gWs_nil : gWs [] := fun x h => by cases h
theorem gWs_app {c d : List Nat} (h : gWs c) (k : gWs d) : gWs (c ++ d) := fun x hx => (List.mem_append.mp hx).elim (h x) (k x)
theorem gWs_one {w : Nat} (h : gW w) : gWs [w] := fun x hx => by rw [List.mem_singleton.mp hx]; exact h
theorem gw_part {t : Nat → Nat} {L a : Nat} (h : (pPart t L a).1 = true) : gWs (pPart t L a).2.2 := by
  unfold pPart at *
  by_cases c : 1014 ≤ kd t L a ∧ kd t L a ≤ 1019
  · rw [if_pos c]; exact gWs_one (by unfold gW; omega)
  · rw [if_neg c] at h ⊢
    by_cases d : nmb t L a = 4000
    · rw [if_pos d] at h; cases h
    · rw [if_neg d]
      have := (nmb_lt (t := t) (L := L) (a := a)).resolve_left d
      exact gWs_one (Or.inl this)
theorem gw_sumL {t : Nat → Nat} {L : Nat} : ∀ k a c, gWs c → (pSumL t L k a c).1 = true → gWs (pSumL t L k a c).2.2
  | 0, a, c, h, _ => h
  | k + 1, a, c, h, e => by
    rw [pSumL] at e ⊢
    by_cases d : kd t L a = 43
    · rw [if_pos d] at e ⊢
      by_cases e1 : (pPart t L (nxt t L a)).1 = true
      · rw [if_pos e1] at e ⊢
        exact gw_sumL k _ _ (gWs_app (gWs_app h (gw_part e1)) (gWs_one (by unfold gW; omega))) e
      · rw [if_neg e1] at e; cases e
    · rw [if_neg d]; exact h
theorem gw_sum {t : Nat → Nat} {L a : Nat} (e : (pSum t L a).1 = true) : gWs (pSum t L a).2.2 := by
  unfold pSum at *
  by_cases e1 : (pPart t L a).1 = true
  · rw [if_pos e1] at e ⊢
    exact gw_sumL _ _ _ (gw_part e1) e
  · rw [if_neg e1] at e; cases e
theorem gw_plain {t : Nat → Nat} {L a : Nat} (e : (pPlain t L a).1 = true) : gWs (pPlain t L a).2.2 := by
  unfold pPlain at *
  by_cases c : kd t L a = 1013 ∨ kd t L a = 1002
  · rw [if_pos c]; exact gWs_one (by unfold gW; omega)
  · rw [if_neg c] at e ⊢
    by_cases e1 : (pSum t L a).1 = true
    · rw [if_pos e1] at e ⊢
      by_cases c2 : kd t L (pSum t L a).2.1 = 60 ∨ kd t L (pSum t L a).2.1 = 62
      · rw [if_pos c2] at e ⊢
        by_cases e2 : (pSum t L (nxt t L (pSum t L a).2.1)).1 = true
        · rw [if_pos e2]
          refine gWs_app (gWs_app (gw_sum e1) (gw_sum e2)) (gWs_one ?_)
          split
          · unfold gW; omega
          · unfold gW; omega
        · rw [if_neg e2] at e; cases e
      · rw [if_neg c2] at e; cases e
    · rw [if_neg e1] at e; cases e
theorem gw_joinL {t : Nat → Nat} {L : Nat} {A : Nat → Bool × Nat × List Nat} (hA : ∀ a, (A a).1 = true → gWs (A a).2.2) {w j : Nat} (hj : gW j) : ∀ k a c, gWs c → (pJoinL t L A w j k a c).1 = true → gWs (pJoinL t L A w j k a c).2.2
  | 0, a, c, h, _ => h
  | k + 1, a, c, h, e => by
    rw [pJoinL] at e ⊢
    by_cases d : kd t L a = w
    · rw [if_pos d] at e ⊢
      by_cases e1 : (A (nxt t L a)).1 = true
      · rw [if_pos e1] at e ⊢
        exact gw_joinL hA hj k _ _ (gWs_app (gWs_app h (hA _ e1)) (gWs_one hj)) e
      · rw [if_neg e1] at e; cases e
    · rw [if_neg d]; exact h
theorem gw_join {t : Nat → Nat} {L : Nat} {A : Nat → Bool × Nat × List Nat} (hA : ∀ a, (A a).1 = true → gWs (A a).2.2) {w j : Nat} (hj : gW j) (a : Nat) (e : (pJoin t L A w j a).1 = true) : gWs (pJoin t L A w j a).2.2 := by
  unfold pJoin at *
  by_cases e1 : (A a).1 = true
  · rw [if_pos e1] at e ⊢
    exact gw_joinL hA hj _ _ _ (hA _ e1) e
  · rw [if_neg e1] at e; cases e
theorem gw_some {t : Nat → Nat} {L : Nat} {A : Nat → Bool × Nat × List Nat} (hA : ∀ a, (A a).1 = true → gWs (A a).2.2) (a : Nat) (e : (pSome t L A a).1 = true) : gWs (pSome t L A a).2.2 :=
  gw_join (gw_join hA (by unfold gW; omega)) (by unfold gW; omega) a e
theorem gw_atom {t : Nat → Nat} {L : Nat} : ∀ d a, (pAtom t L d a).1 = true → gWs (pAtom t L d a).2.2
  | 0, a, e => by
    rw [pAtom] at e ⊢
    by_cases c : kd t L a = 1012 ∨ kd t L a = 40
    · rw [if_pos c] at e; cases e
    · rw [if_neg c] at e ⊢; exact gw_plain e
  | d + 1, a, e => by
    rw [pAtom] at e ⊢
    by_cases c : kd t L a = 1012
    · rw [if_pos c] at e ⊢
      by_cases e1 : (pAtom t L d (nxt t L a)).1 = true
      · rw [if_pos e1]
        exact gWs_app (gw_atom d _ e1) (gWs_one (by unfold gW; omega))
      · rw [if_neg e1] at e; cases e
    · rw [if_neg c] at e ⊢
      by_cases c2 : kd t L a = 40
      · rw [if_pos c2] at e ⊢
        by_cases e1 : (pSome t L (pAtom t L d) (nxt t L a)).1 = true
        · rw [if_pos e1] at e ⊢
          by_cases c3 : kd t L (pSome t L (pAtom t L d) (nxt t L a)).2.1 = 41
          · rw [if_pos c3]; exact gw_some (gw_atom d) _ e1
          · rw [if_neg c3] at e; cases e
        · rw [if_neg e1] at e; cases e
      · rw [if_neg c2] at e ⊢; exact gw_plain e
theorem gw_line {t : Nat → Nat} {L a : Nat} (e : (pLine t L a).1 = true) : gWs (pLine t L a).2.2 := by
  unfold pLine at *
  by_cases c : kd t L a = 1007 ∨ kd t L a = 1008
  · have gk : gWs [kd t L a] := gWs_one (by unfold gW; omega)
    rw [if_pos c] at e ⊢
    by_cases c2 : kd t L (nxt t L a) = 1009
    · rw [if_pos c2] at e ⊢
      by_cases e1 : (pSome t L (pAtom t L 6) (nxt t L (nxt t L a))).1 = true
      · rw [if_pos e1]; exact gWs_app (gw_some (gw_atom 6) _ e1) gk
      · rw [if_neg e1] at e; cases e
    · rw [if_neg c2]
      exact gWs_app (gWs_one (w := 1) (Or.inl (by omega))) gk
  · rw [if_neg c] at e; cases e
theorem gw_lines {t : Nat → Nat} {L : Nat} : ∀ k a n c, gWs c → (pLines t L k a n c).1 = true → gWs (pLines t L k a n c).2.2.2
  | 0, a, n, c, _, e => by cases e
  | k + 1, a, n, c, h, e => by
    rw [pLines] at e ⊢
    by_cases e1 : (pLine t L a).1 = true
    · rw [if_pos e1] at e ⊢
      by_cases c1 : kd t L (pLine t L a).2.1 = 4000
      · rw [if_pos c1]; exact gWs_app h (gw_line e1)
      · rw [if_neg c1] at e ⊢
        by_cases c2 : kd t L (pLine t L a).2.1 = 59
        · rw [if_pos c2] at e ⊢
          exact gw_lines k _ _ _ (gWs_app h (gw_line e1)) e
        · rw [if_neg c2] at e; cases e
    · rw [if_neg e1] at e; cases e
theorem gw_law {t : Nat → Nat} {L : Nat} (e : (pLaw t L).1 = true) : gWs (pLaw t L).2.2.2 := by
  unfold pLaw at *
  by_cases c : kd t L (rn (bk t) L 0) = 4000
  · rw [if_pos c]; exact gWs_nil
  · rw [if_neg c] at e ⊢; exact gw_lines _ _ _ _ gWs_nil e
/-! ===== the class's machine ===== -/
def stR (S : Nat → Int32) (st : List Int32) : Prop := ∀ j, j < st.length → S (st.length - 1 - j) = st.getD j 0
theorem stR_push {S : Nat → Int32} {st : List Int32} (h : stR S st) (v : Int32) : stR (upd S st.length v) (v :: st) := by
  intro j hj
  rw [List.length_cons] at hj ⊢
  cases j with
  | zero => rw [show st.length + 1 - 1 - 0 = st.length by omega, upd_1]; rfl
  | succ j =>
    rw [show st.length + 1 - 1 - (j + 1) = st.length - 1 - j by omega, upd_2 _ _ (by omega)]
    exact h j (by omega)
theorem stR_pop {S : Nat → Int32} {x : Int32} {st : List Int32} (h : stR S (x :: st)) : S st.length = x ∧ stR S st := by
  constructor
  · have := h 0 (by rw [List.length_cons]; omega)
    rw [List.length_cons, show st.length + 1 - 1 - 0 = st.length by omega] at this
    exact this
  · intro j hj
    have := h (j + 1) (by rw [List.length_cons]; omega)
    rw [List.length_cons, show st.length + 1 - 1 - (j + 1) = st.length - 1 - j by omega] at this
    exact this
theorem stR_set {S : Nat → Int32} {x y : Int32} {st : List Int32} (h : stR S (x :: st)) : stR (upd S st.length y) (y :: st) := stR_push (stR_pop h).2 y
theorem stR_last {S : Nat → Int32} {st : List Int32} (h : stR S st) (hn : st ≠ []) : S 0 = st.getLastD 0 := by
  obtain ⟨l, hl⟩ : ∃ l, st.length = l + 1 := ⟨st.length - 1, by have := List.length_pos_iff.mpr hn; omega⟩
  have := h l (by omega)
  rw [hl, show l + 1 - 1 - l = 0 by omega] at this
  rw [this, List.getLastD_eq_getLast?, List.getLast?_eq_getElem?, hl, List.getD_eq_getElem?_getD]
  rfl
