/-! ===== texts: where things begin and end ===== -/
def rnF (P : Nat → Bool) (L : Nat) : Nat → Nat → Nat
  | 0, a => a
  | k + 1, a => if a < L ∧ P a = true then rnF P L k (a + 1) else a
/-- the first place from a on that is no P, or the end -/
def rn (P : Nat → Bool) (L a : Nat) : Nat := rnF P L (L - a) a
theorem rn_stop {P : Nat → Bool} {L a : Nat} (h : ¬ (a < L ∧ P a = true)) : rn P L a = a := by
  unfold rn
  cases c : L - a with
  | zero => rfl
  | succ k => rw [rnF, if_neg h]
theorem rn_go {P : Nat → Bool} {L a : Nat} (h : a < L ∧ P a = true) : rn P L a = rn P L (a + 1) := by
  unfold rn
  obtain ⟨k, hk⟩ : ∃ k, L - a = k + 1 := ⟨L - a - 1, by omega⟩
  rw [hk, rnF, if_pos h, show L - (a + 1) = k by omega]
theorem rn_ind {P : Nat → Bool} {L : Nat} {X : Nat → Prop} (hs : ∀ a, ¬ (a < L ∧ P a = true) → X a) (hg : ∀ a, a < L ∧ P a = true → X (a + 1) → X a) : ∀ a, X a := by
  have : ∀ d a, L - a ≤ d → X a := by
    intro d
    induction d with
    | zero => intro a h; exact hs a (fun k => by omega)
    | succ d ih =>
      intro a h
      by_cases c : a < L ∧ P a = true
      · exact hg a c (ih (a + 1) (by omega))
      · exact hs a c
  exact fun a => this (L - a) a (Nat.le_refl _)
theorem rn_ge {P : Nat → Bool} {L : Nat} (a : Nat) : a ≤ rn P L a := by
  refine rn_ind (P := P) (L := L) (X := fun a => a ≤ rn P L a) (fun a h => ?_) (fun a h ih => ?_) a
  · rw [rn_stop h]; exact Nat.le_refl _
  · rw [rn_go h]; omega
theorem rn_le {P : Nat → Bool} {L : Nat} (a : Nat) (h : a ≤ L) : rn P L a ≤ L := by
  refine rn_ind (P := P) (L := L) (X := fun a => a ≤ L → rn P L a ≤ L) (fun a h h2 => ?_) (fun a h ih h2 => ?_) a h
  · rw [rn_stop h]; exact h2
  · rw [rn_go h]; exact ih (by omega)
theorem rn_end {P : Nat → Bool} {L : Nat} (a : Nat) : ¬ (rn P L a < L ∧ P (rn P L a) = true) := by
  refine rn_ind (P := P) (L := L) (X := fun a => ¬ (rn P L a < L ∧ P (rn P L a) = true)) (fun a h => ?_) (fun a h ih => ?_) a
  · rw [rn_stop h]; exact h
  · rw [rn_go h]; exact ih
theorem rn_rn {P : Nat → Bool} {L : Nat} (a : Nat) : rn P L (rn P L a) = rn P L a := rn_stop (rn_end a)
theorem rn_in {P : Nat → Bool} {L : Nat} (a : Nat) : ∀ i, a ≤ i → i < rn P L a → P i = true := by
  refine rn_ind (P := P) (L := L) (X := fun a => ∀ i, a ≤ i → i < rn P L a → P i = true) (fun a h i h1 h2 => ?_) (fun a h ih i h1 h2 => ?_) a
  · rw [rn_stop h] at h2; omega
  · rw [rn_go h] at h2
    by_cases c : i = a
    · rw [c]; exact h.2
    · exact ih i (by omega) h2
def bk (t : Nat → Nat) (i : Nat) : Bool := decide (t i = 32)
def ltr (t : Nat → Nat) (i : Nat) : Bool := decide (97 ≤ t i ∧ t i ≤ 122)
def dig (t : Nat → Nat) (i : Nat) : Bool := decide (48 ≤ t i ∧ t i ≤ 57)
/-! ===== words, numbers and signs ===== -/
def wW : List (List Nat) := [[112, 101, 114, 115, 111, 110], [119, 105, 115, 104], [119, 101, 100], [107, 110, 111, 119, 115], [104, 111, 111, 107, 115], [109, 105, 120], [116, 104, 105, 101, 102], [104, 97, 110, 100], [102, 101, 116, 99, 104], [105, 102], [111, 114], [97, 110, 100], [110, 111, 116], [111, 119, 110], [119, 104, 111], [104, 111, 117, 114], [104, 111, 111, 107], [109, 97, 114, 107, 115], [104, 117, 110, 103], [102, 114, 101, 101]]
def spl (t : Nat → Nat) : List Nat → Nat → Bool
  | [], _ => true
  | c :: w, a => decide (t a = c) && spl t w (a + 1)
def hsW (t : Nat → Nat) (L : Nat) (w : List Nat) (a : Nat) : Bool := decide (rn (ltr t) L a = a + w.length) && spl t w a
def fwd (t : Nat → Nat) (L a : Nat) : List (List Nat) → Nat → Nat
  | [], _ => 257
  | w :: ws, k => if hsW t L w a = true then k else fwd t L a ws (k + 1)
/-- what stands at a place: a word, 256 a number, a sign, 4000 the end -/
def kd (t : Nat → Nat) (L a : Nat) : Nat := if a < L then (if ltr t a = true then fwd t L a wW 1000 else if dig t a = true then 256 else t a) else 4000
def en (t : Nat → Nat) (L a : Nat) : Nat := if ltr t a = true then rn (ltr t) L (a + 1) else if dig t a = true then rn (dig t) L (a + 1) else a + 1
def nxt (t : Nat → Nat) (L a : Nat) : Nat := if a < L then rn (bk t) L (en t L a) else a
def dv (t : Nat → Nat) (a : Nat) : Nat → Nat
  | 0 => 0
  | k + 1 => 10 * dv t a k + (t (a + k) - 48)
/-- the number of 1 to 3 digits, 4000 if none -/
def nmb (t : Nat → Nat) (L a : Nat) : Nat := if a < L ∧ dig t a = true ∧ en t L a ≤ a + 3 then dv t a (en t L a - a) else 4000
def nrm (t : Nat → Nat) (L a : Nat) : Prop := rn (bk t) L a = a ∧ a ≤ L
theorem en_gt {t : Nat → Nat} {L a : Nat} : a < en t L a := by
  unfold en
  split
  · exact rn_ge (a + 1)
  · split
    · exact rn_ge (a + 1)
    · omega
theorem en_le {t : Nat → Nat} {L a : Nat} (h : a < L) : en t L a ≤ L := by
  unfold en
  split
  · exact rn_le (a + 1) (by omega)
  · split
    · exact rn_le (a + 1) (by omega)
    · omega
theorem nxt_gt {t : Nat → Nat} {L a : Nat} (h : a < L) : en t L a ≤ nxt t L a ∧ a < nxt t L a := by
  unfold nxt
  rw [if_pos h]
  have h1 := en_gt (t := t) (L := L) (a := a)
  have h2 := rn_ge (P := bk t) (L := L) (en t L a)
  omega
theorem nxt_nrm {t : Nat → Nat} {L a : Nat} (h : a < L) : nrm t L (nxt t L a) := by
  unfold nxt
  rw [if_pos h]
  exact ⟨rn_rn _, rn_le _ (en_le h)⟩
theorem kd_lt {t : Nat → Nat} {L a : Nat} (h : kd t L a ≠ 4000) : a < L := by
  unfold kd at h
  apply Decidable.byContradiction
  intro c
  rw [if_neg c] at h
  exact h rfl
theorem fwd_lo {t : Nat → Nat} {L a : Nat} : ∀ {ws : List (List Nat)} {k : Nat}, fwd t L a ws k = 257 ∨ (k ≤ fwd t L a ws k ∧ fwd t L a ws k < k + ws.length)
  | [], k => Or.inl rfl
  | w :: ws, k => by
    rw [fwd]
    split
    · right; exact ⟨Nat.le_refl _, by rw [List.length_cons]; omega⟩
    · rcases fwd_lo (t := t) (L := L) (a := a) (ws := ws) (k := k + 1) with h | h
      · exact Or.inl h
      · right; rw [List.length_cons]; omega
theorem kd_cases {t : Nat → Nat} {L a : Nat} (hb : ∀ i, i < L → t i < 256) : kd t L a < 258 ∨ (1000 ≤ kd t L a ∧ kd t L a < 1020) ∨ kd t L a = 4000 := by
  unfold kd
  split
  · split
    · rcases fwd_lo (t := t) (L := L) (a := a) (ws := wW) (k := 1000) with h | h
      · left; omega
      · right; left; exact h
    · split
      · left; omega
      · rename_i h _ _; have := hb a h; left; omega
  · right; right; rfl
theorem dv_lt {t : Nat → Nat} {a : Nat} : ∀ {k : Nat}, (∀ i, i < k → 48 ≤ t (a + i) ∧ t (a + i) ≤ 57) → dv t a k < 10 ^ k
  | 0, _ => Nat.one_pos
  | k + 1, h => by
    have ih := dv_lt (t := t) (a := a) (k := k) (fun i hi => h i (by omega))
    have := h k (by omega)
    show 10 * dv t a k + (t (a + k) - 48) < 10 ^ (k + 1)
    rw [Nat.pow_succ]
    omega
theorem nmb_lt {t : Nat → Nat} {L a : Nat} : nmb t L a = 4000 ∨ nmb t L a < 1000 := by
  unfold nmb
  split
  · rename_i h
    right
    have h0 : ltr t a = false := by
      have := of_decide_eq_true h.2.1
      unfold ltr; exact decide_eq_false (by omega)
    have e : en t L a = rn (dig t) L a := by
      unfold en
      rw [h0, if_neg (by decide), if_pos h.2.1, rn_go ⟨h.1, h.2.1⟩]
    have l : dv t a (en t L a - a) < 10 ^ (en t L a - a) := dv_lt (fun i hi => by
      have := rn_in (P := dig t) (L := L) a (a + i) (by omega) (by rw [← e]; omega)
      exact of_decide_eq_true this)
    have : 10 ^ (en t L a - a) ≤ 10 ^ 3 := Nat.pow_le_pow_right (by decide) (by omega)
    omega
  · exact Or.inl rfl
/-! ===== a text of THE LAW, read ===== -/
def pPart (t : Nat → Nat) (L a : Nat) : Bool × Nat × List Nat := if 1014 ≤ kd t L a ∧ kd t L a ≤ 1019 then (true, nxt t L a, [kd t L a]) else if nmb t L a = 4000 then (false, a, []) else (true, nxt t L a, [nmb t L a])
def pSumL (t : Nat → Nat) (L : Nat) : Nat → Nat → List Nat → Bool × Nat × List Nat
  | 0, a, c => (true, a, c)
  | k + 1, a, c => if kd t L a = 43 then (if (pPart t L (nxt t L a)).1 = true then pSumL t L k (pPart t L (nxt t L a)).2.1 (c ++ (pPart t L (nxt t L a)).2.2 ++ [1100]) else (false, (pPart t L (nxt t L a)).2.1, [])) else (true, a, c)
def pSum (t : Nat → Nat) (L a : Nat) : Bool × Nat × List Nat := if (pPart t L a).1 = true then pSumL t L (L + 1) (pPart t L a).2.1 (pPart t L a).2.2 else (false, (pPart t L a).2.1, [])
def pPlain (t : Nat → Nat) (L a : Nat) : Bool × Nat × List Nat :=
  if kd t L a = 1013 ∨ kd t L a = 1002 then (true, nxt t L a, [kd t L a])
  else if (pSum t L a).1 = true then
    (if kd t L (pSum t L a).2.1 = 60 ∨ kd t L (pSum t L a).2.1 = 62 then
      (if (pSum t L (nxt t L (pSum t L a).2.1)).1 = true then (true, (pSum t L (nxt t L (pSum t L a).2.1)).2.1, (pSum t L a).2.2 ++ (pSum t L (nxt t L (pSum t L a).2.1)).2.2 ++ [if kd t L (pSum t L a).2.1 = 60 then 1101 else 1102]) else (false, (pSum t L (nxt t L (pSum t L a).2.1)).2.1, []))
    else (false, (pSum t L a).2.1, []))
  else (false, (pSum t L a).2.1, [])
/-- A's, with a word between them, and what joins them -/
def pJoinL (t : Nat → Nat) (L : Nat) (A : Nat → Bool × Nat × List Nat) (w j : Nat) : Nat → Nat → List Nat → Bool × Nat × List Nat
  | 0, a, c => (true, a, c)
  | k + 1, a, c => if kd t L a = w then (if (A (nxt t L a)).1 = true then pJoinL t L A w j k (A (nxt t L a)).2.1 (c ++ (A (nxt t L a)).2.2 ++ [j]) else (false, (A (nxt t L a)).2.1, [])) else (true, a, c)
def pJoin (t : Nat → Nat) (L : Nat) (A : Nat → Bool × Nat × List Nat) (w j a : Nat) : Bool × Nat × List Nat := if (A a).1 = true then pJoinL t L A w j (L + 1) (A a).2.1 (A a).2.2 else (false, (A a).2.1, [])
def pEvery (t : Nat → Nat) (L : Nat) (A : Nat → Bool × Nat × List Nat) (a : Nat) : Bool × Nat × List Nat := pJoin t L A 1011 1103 a
def pSome (t : Nat → Nat) (L : Nat) (A : Nat → Bool × Nat × List Nat) (a : Nat) : Bool × Nat × List Nat := pJoin t L (pEvery t L A) 1010 1104 a
def pAtom (t : Nat → Nat) (L : Nat) : Nat → Nat → Bool × Nat × List Nat
  | 0, a => if kd t L a = 1012 ∨ kd t L a = 40 then (false, a, []) else pPlain t L a
  | d + 1, a =>
    if kd t L a = 1012 then (if (pAtom t L d (nxt t L a)).1 = true then (true, (pAtom t L d (nxt t L a)).2.1, (pAtom t L d (nxt t L a)).2.2 ++ [1012]) else (false, (pAtom t L d (nxt t L a)).2.1, []))
    else if kd t L a = 40 then
      (if (pSome t L (pAtom t L d) (nxt t L a)).1 = true then
        (if kd t L (pSome t L (pAtom t L d) (nxt t L a)).2.1 = 41 then (true, nxt t L (pSome t L (pAtom t L d) (nxt t L a)).2.1, (pSome t L (pAtom t L d) (nxt t L a)).2.2) else (false, (pSome t L (pAtom t L d) (nxt t L a)).2.1, []))
      else (false, (pSome t L (pAtom t L d) (nxt t L a)).2.1, []))
    else pPlain t L a
def pLine (t : Nat → Nat) (L a : Nat) : Bool × Nat × List Nat :=
  if kd t L a = 1007 ∨ kd t L a = 1008 then
    (if kd t L (nxt t L a) = 1009 then
      (if (pSome t L (pAtom t L 6) (nxt t L (nxt t L a))).1 = true then (true, (pSome t L (pAtom t L 6) (nxt t L (nxt t L a))).2.1, (pSome t L (pAtom t L 6) (nxt t L (nxt t L a))).2.2 ++ [kd t L a]) else (false, (pSome t L (pAtom t L 6) (nxt t L (nxt t L a))).2.1, []))
    else (true, nxt t L a, [1, kd t L a]))
  else (false, a, [])
/-- n lines are read; a line begins here -/
def pLines (t : Nat → Nat) (L : Nat) : Nat → Nat → Nat → List Nat → Bool × Nat × Nat × List Nat
  | 0, a, n, _ => (false, a, n, [])
  | k + 1, a, n, c =>
    if (pLine t L a).1 = true then
      (if kd t L (pLine t L a).2.1 = 4000 then (true, (pLine t L a).2.1, n + 1, c ++ (pLine t L a).2.2)
      else if kd t L (pLine t L a).2.1 = 59 then pLines t L k (nxt t L (pLine t L a).2.1) (n + 1) (c ++ (pLine t L a).2.2)
      else (false, (pLine t L a).2.1, n + 1, []))
    else (false, (pLine t L a).2.1, n, [])
/-- a text of THE LAW: whether it is right, the wrong byte, the LINES, the code -/
def pLaw (t : Nat → Nat) (L : Nat) : Bool × Nat × Nat × List Nat := if kd t L (rn (bk t) L 0) = 4000 then (true, rn (bk t) L 0, 0, []) else pLines t L 12 (rn (bk t) L 0) 0 []
