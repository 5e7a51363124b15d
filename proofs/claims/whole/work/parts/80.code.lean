variable {Nq : Nat}
/-! ===== reading goes on, and its code is no longer than its text ===== -/
def Pg (t : Nat → Nat) (L s : Nat) (r : Bool × Nat × List Nat) : Prop := (r.1 = true → s < r.2.1 ∧ nrm t L r.2.1 ∧ r.2.2.length + s ≤ r.2.1) ∧ (r.1 = false → r.2.1 ≤ L)
theorem pg_part {t : Nat → Nat} {L a : Nat} (h : a ≤ L) : Pg t L a (pPart t L a) := by
  unfold pPart
  by_cases c : 1014 ≤ kd t L a ∧ kd t L a ≤ 1019
  · rw [if_pos c]
    have hl : a < L := kd_lt (t := t) (by omega)
    exact ⟨fun _ => ⟨(nxt_gt hl).2, nxt_nrm hl, by have := (nxt_gt (t := t) hl).2; simp; omega⟩, fun h => by cases h⟩
  · rw [if_neg c]
    by_cases d : nmb t L a = 4000
    · rw [if_pos d]; exact ⟨(fun h => by cases h), fun _ => h⟩
    · rw [if_neg d]
      have hl : a < L := by
        apply Decidable.byContradiction
        intro k
        apply d
        unfold nmb
        rw [if_neg (fun h => k h.1)]
      exact ⟨fun _ => ⟨(nxt_gt hl).2, nxt_nrm hl, by have := (nxt_gt (t := t) hl).2; simp; omega⟩, fun h => by cases h⟩
theorem pg_sumL {t : Nat → Nat} {L s : Nat} : ∀ k a c, nrm t L a → s < a → c.length + s ≤ a → Pg t L s (pSumL t L k a c)
  | 0, a, c, h1, h2, h3 => ⟨fun _ => ⟨h2, h1, h3⟩, fun h => by cases h⟩
  | k + 1, a, c, h1, h2, h3 => by
    rw [pSumL]
    by_cases d : kd t L a = 43
    · rw [if_pos d]
      have hl : a < L := kd_lt (t := t) (by omega)
      have g1 := nxt_gt (t := t) hl
      have g2 := nxt_nrm (t := t) hl
      have P := pg_part (t := t) (L := L) g2.2
      by_cases e : (pPart t L (nxt t L a)).1 = true
      · rw [if_pos e]
        obtain ⟨q1, q2, q3⟩ := P.1 e
        refine pg_sumL k _ _ q2 (by omega) ?_
        simp only [List.length_append, List.length_cons, List.length_nil]
        omega
      · rw [if_neg e]
        exact ⟨(fun h => by cases h), fun _ => P.2 (by simpa using e)⟩
    · rw [if_neg d]; exact ⟨fun _ => ⟨h2, h1, h3⟩, fun h => by cases h⟩
theorem pg_sum {t : Nat → Nat} {L a : Nat} (h : a ≤ L) : Pg t L a (pSum t L a) := by
  have P := pg_part (t := t) h
  unfold pSum
  by_cases e : (pPart t L a).1 = true
  · rw [if_pos e]
    obtain ⟨q1, q2, q3⟩ := P.1 e
    exact pg_sumL _ _ _ q2 q1 q3
  · rw [if_neg e]
    exact ⟨(fun h => by cases h), fun _ => P.2 (by simpa using e)⟩
theorem pg_plain {t : Nat → Nat} {L a : Nat} (h : a ≤ L) : Pg t L a (pPlain t L a) := by
  have P := pg_sum (t := t) h
  unfold pPlain
  by_cases c : kd t L a = 1013 ∨ kd t L a = 1002
  · rw [if_pos c]
    have hl : a < L := kd_lt (t := t) (by omega)
    exact ⟨fun _ => ⟨(nxt_gt hl).2, nxt_nrm hl, by have := (nxt_gt (t := t) hl).2; simp; omega⟩, fun h => by cases h⟩
  · rw [if_neg c]
    by_cases e : (pSum t L a).1 = true
    · rw [if_pos e]
      obtain ⟨q1, q2, q3⟩ := P.1 e
      by_cases c2 : kd t L (pSum t L a).2.1 = 60 ∨ kd t L (pSum t L a).2.1 = 62
      · rw [if_pos c2]
        have hl : (pSum t L a).2.1 < L := kd_lt (t := t) (by omega)
        have g1 := nxt_gt (t := t) hl
        have g2 := nxt_nrm (t := t) hl
        have P2 := pg_sum (t := t) g2.2
        by_cases e2 : (pSum t L (nxt t L (pSum t L a).2.1)).1 = true
        · rw [if_pos e2]
          obtain ⟨r1, r2, r3⟩ := P2.1 e2
          refine ⟨fun _ => ⟨?_, r2, ?_⟩, fun h => by cases h⟩
          · show a < (pSum t L (nxt t L (pSum t L a).2.1)).2.1
            omega
          · simp only [List.length_append, List.length_cons, List.length_nil]
            omega
        · rw [if_neg e2]
          exact ⟨(fun h => by cases h), fun _ => P2.2 (by simpa using e2)⟩
      · rw [if_neg c2]; exact ⟨(fun h => by cases h), fun _ => q2.2⟩
    · rw [if_neg e]
      exact ⟨(fun h => by cases h), fun _ => P.2 (by simpa using e)⟩
theorem pg_joinL {t : Nat → Nat} {L s : Nat} {A : Nat → Bool × Nat × List Nat} (hA : ∀ a, a ≤ L → Pg t L a (A a)) {w j : Nat} (hw : w ≠ 4000) : ∀ k a c, nrm t L a → s < a → c.length + s ≤ a → Pg t L s (pJoinL t L A w j k a c)
  | 0, a, c, h1, h2, h3 => ⟨fun _ => ⟨h2, h1, h3⟩, fun h => by cases h⟩
  | k + 1, a, c, h1, h2, h3 => by
    rw [pJoinL]
    by_cases d : kd t L a = w
    · rw [if_pos d]
      have hl : a < L := kd_lt (t := t) (by omega)
      have g1 := nxt_gt (t := t) hl
      have g2 := nxt_nrm (t := t) hl
      have P := hA _ g2.2
      by_cases e : (A (nxt t L a)).1 = true
      · rw [if_pos e]
        obtain ⟨q1, q2, q3⟩ := P.1 e
        refine pg_joinL hA hw k _ _ q2 (by omega) ?_
        simp only [List.length_append, List.length_cons, List.length_nil]
        omega
      · rw [if_neg e]
        exact ⟨(fun h => by cases h), fun _ => P.2 (by simpa using e)⟩
    · rw [if_neg d]; exact ⟨fun _ => ⟨h2, h1, h3⟩, fun h => by cases h⟩
theorem pg_join {t : Nat → Nat} {L : Nat} {A : Nat → Bool × Nat × List Nat} (hA : ∀ a, a ≤ L → Pg t L a (A a)) {w j : Nat} (hw : w ≠ 4000) : ∀ a, a ≤ L → Pg t L a (pJoin t L A w j a) := by
  intro a h
  have P := hA a h
  unfold pJoin
  by_cases e : (A a).1 = true
  · rw [if_pos e]
    obtain ⟨q1, q2, q3⟩ := P.1 e
    exact pg_joinL hA hw _ _ _ q2 q1 q3
  · rw [if_neg e]
    exact ⟨(fun h => by cases h), fun _ => P.2 (by simpa using e)⟩
theorem pg_some {t : Nat → Nat} {L : Nat} {A : Nat → Bool × Nat × List Nat} (hA : ∀ a, a ≤ L → Pg t L a (A a)) : ∀ a, a ≤ L → Pg t L a (pSome t L A a) :=
  pg_join (pg_join hA (by decide)) (by decide)
theorem pg_atom {t : Nat → Nat} {L : Nat} : ∀ d a, a ≤ L → Pg t L a (pAtom t L d a)
  | 0, a, h => by
    rw [pAtom]
    split
    · exact ⟨(fun h => by cases h), fun _ => h⟩
    · exact pg_plain h
  | d + 1, a, h => by
    rw [pAtom]
    by_cases c : kd t L a = 1012
    · rw [if_pos c]
      have hl : a < L := kd_lt (t := t) (by omega)
      have g1 := nxt_gt (t := t) hl
      have g2 := nxt_nrm (t := t) hl
      have P := pg_atom (t := t) d _ g2.2
      by_cases e : (pAtom t L d (nxt t L a)).1 = true
      · rw [if_pos e]
        obtain ⟨q1, q2, q3⟩ := P.1 e
        refine ⟨fun _ => ⟨?_, q2, ?_⟩, fun h => by cases h⟩
        · show a < (pAtom t L d (nxt t L a)).2.1
          omega
        · simp only [List.length_append, List.length_cons, List.length_nil]
          omega
      · rw [if_neg e]
        exact ⟨(fun h => by cases h), fun _ => P.2 (by simpa using e)⟩
    · rw [if_neg c]
      by_cases c2 : kd t L a = 40
      · rw [if_pos c2]
        have hl : a < L := kd_lt (t := t) (by omega)
        have g1 := nxt_gt (t := t) hl
        have g2 := nxt_nrm (t := t) hl
        have P := pg_some (t := t) (A := pAtom t L d) (fun a h => pg_atom d a h) _ g2.2
        by_cases e : (pSome t L (pAtom t L d) (nxt t L a)).1 = true
        · rw [if_pos e]
          obtain ⟨q1, q2, q3⟩ := P.1 e
          by_cases c3 : kd t L (pSome t L (pAtom t L d) (nxt t L a)).2.1 = 41
          · rw [if_pos c3]
            have hl2 : (pSome t L (pAtom t L d) (nxt t L a)).2.1 < L := kd_lt (t := t) (by omega)
            have g3 := nxt_gt (t := t) hl2
            refine ⟨fun _ => ⟨?_, nxt_nrm hl2, ?_⟩, fun h => by cases h⟩
            · show a < nxt t L (pSome t L (pAtom t L d) (nxt t L a)).2.1
              omega
            · show (pSome t L (pAtom t L d) (nxt t L a)).2.2.length + a ≤ nxt t L (pSome t L (pAtom t L d) (nxt t L a)).2.1
              omega
          · rw [if_neg c3]; exact ⟨(fun h => by cases h), fun _ => q2.2⟩
        · rw [if_neg e]
          exact ⟨(fun h => by cases h), fun _ => P.2 (by simpa using e)⟩
      · rw [if_neg c2]; exact pg_plain h
theorem fwd_get {t : Nat → Nat} {L a : Nat} : ∀ {ws : List (List Nat)} {k j : Nat}, j < ws.length → k + j ≠ 257 → fwd t L a ws k = k + j → hsW t L (ws.getD j []) a = true
  | [], k, j, h, _, _ => absurd h (Nat.not_lt_zero j)
  | w :: ws, k, j, h, hn, e => by
    rw [fwd] at e
    by_cases c : hsW t L w a = true
    · rw [if_pos c] at e
      have : j = 0 := by omega
      subst this
      exact c
    · rw [if_neg c] at e
      cases j with
      | zero =>
        rcases fwd_lo (t := t) (L := L) (a := a) (ws := ws) (k := k + 1) with h1 | h1
        · omega
        · omega
      | succ j =>
        have := fwd_get (t := t) (L := L) (a := a) (ws := ws) (k := k + 1) (j := j) (by rw [List.length_cons] at h; omega) (by omega) (by omega)
        exact this
theorem kd_word {t : Nat → Nat} {L a j : Nat} (hb : ∀ i, i < L → t i < 256) (hj : j < 20) (h : kd t L a = 1000 + j) : hsW t L (wW.getD j []) a = true ∧ a < L ∧ ltr t a = true := by
  have hl : a < L := kd_lt (t := t) (by omega)
  unfold kd at h
  rw [if_pos hl] at h
  by_cases c : ltr t a = true
  · rw [if_pos c] at h
    exact ⟨fwd_get (ws := wW) (k := 1000) hj (by omega) h, hl, c⟩
  · rw [if_neg c] at h
    have := hb a hl
    split at h <;> omega
theorem wW_len : ∀ j, j < 20 → 2 ≤ (wW.getD j []).length := by decide
theorem en_word {t : Nat → Nat} {L a : Nat} {w : List Nat} (h : hsW t L w a = true) (hl : a < L) (c : ltr t a = true) : en t L a = a + w.length := by
  unfold hsW at h
  rw [Bool.and_eq_true] at h
  have := of_decide_eq_true h.1
  unfold en
  rw [if_pos c, ← rn_go ⟨hl, c⟩]; exact this
theorem pg_line {t : Nat → Nat} {L : Nat} (hb : ∀ i, i < L → t i < 256) {a : Nat} (h : a ≤ L) : Pg t L a (pLine t L a) := by
  unfold pLine
  by_cases c : kd t L a = 1007 ∨ kd t L a = 1008
  · rw [if_pos c]
    have hl : a < L := kd_lt (t := t) (by omega)
    have g1 := nxt_gt (t := t) hl
    have g2 := nxt_nrm (t := t) hl
    have e2 : a + 2 ≤ nxt t L a := by
      obtain ⟨j, hj, e⟩ : ∃ j, j < 20 ∧ kd t L a = 1000 + j := by
        rcases c with c | c
        · exact ⟨7, by omega, by omega⟩
        · exact ⟨8, by omega, by omega⟩
      obtain ⟨k1, _, k2⟩ := kd_word hb hj e
      have := en_word k1 hl k2
      have := wW_len j hj
      omega
    by_cases c2 : kd t L (nxt t L a) = 1009
    · rw [if_pos c2]
      have hl2 : nxt t L a < L := kd_lt (t := t) (by omega)
      have g3 := nxt_gt (t := t) hl2
      have P := pg_some (t := t) (A := pAtom t L 6) (fun a h => pg_atom 6 a h) _ (nxt_nrm (t := t) hl2).2
      by_cases e : (pSome t L (pAtom t L 6) (nxt t L (nxt t L a))).1 = true
      · rw [if_pos e]
        obtain ⟨q1, q2, q3⟩ := P.1 e
        refine ⟨fun _ => ⟨?_, q2, ?_⟩, fun h => by cases h⟩
        · show a < (pSome t L (pAtom t L 6) (nxt t L (nxt t L a))).2.1
          omega
        · simp only [List.length_append, List.length_cons, List.length_nil]
          omega
      · rw [if_neg e]
        exact ⟨(fun h => by cases h), fun _ => P.2 (by simpa using e)⟩
    · rw [if_neg c2]
      exact ⟨fun _ => ⟨g1.2, g2, by simp only [List.length_cons, List.length_nil]; omega⟩, fun h => by cases h⟩
  · rw [if_neg c]; exact ⟨(fun h => by cases h), fun _ => h⟩
/-! ===== what code is worth ===== -/
def jnd (w : Nat) (a b : Int32) : Int32 := if w = 1100 then a + b else if w = 1101 then (if a < b then nI 1 else nI 0) else if w = 1102 then (if b < a then nI 1 else nI 0) else if w = 1103 then a &&& b else a ||| b
def stp (env : Nat → Int32) (w : Nat) (st : List Int32) : List Int32 :=
  if w = 1012 then (match st with | [] => [] | x :: s => (nI 1 - x) :: s)
  else if 1100 ≤ w then (match st with | b :: a :: s => jnd w a b :: s | s => s)
  else if st.length < 24 then (if w < 1000 then nI w else env w) :: st else st
def xc (env : Nat → Int32) : List Nat → List Int32 → List Int32
  | [], st => st
  | w :: c, st => xc env c (stp env w st)
theorem xc_app (env : Nat → Int32) : ∀ (c d : List Nat) (st : List Int32), xc env (c ++ d) st = xc env d (xc env c st)
  | [], _, _ => rfl
  | w :: c, d, st => xc_app env c d (stp env w st)
def vl (env : Nat → Int32) (c : List Nat) : Int32 := (xc env c []).headD 0
def wfc (D : Nat) (c : List Nat) : Prop := (∀ w, w ∈ c → w ≠ 1007 ∧ w ≠ 1008) ∧ ∀ env st, st.length + D ≤ 24 → xc env c st = vl env c :: st
theorem wfc.mono {D D' : Nat} {c : List Nat} (h : wfc D c) (hd : D ≤ D') : wfc D' c := ⟨h.1, fun env st hs => h.2 env st (by omega)⟩
theorem wf_one {w : Nat} (h : w ≠ 1012 ∧ w < 1100 ∧ w ≠ 1007 ∧ w ≠ 1008) : wfc 1 [w] ∧ ∀ env, vl env [w] = if w < 1000 then nI w else env w := by
  have s : ∀ env (st : List Int32), st.length < 24 → stp env w st = (if w < 1000 then nI w else env w) :: st := fun env st hs => by
    unfold stp
    rw [if_neg h.1, if_neg (by omega), if_pos hs]
  have v : ∀ env, vl env [w] = if w < 1000 then nI w else env w := fun env => by
    show (stp env w []).headD 0 = _
    rw [s env [] (by decide)]; rfl
  refine ⟨⟨fun w' hw => ?_, fun env st hs => ?_⟩, v⟩
  · have : w' = w := by simpa using hw
    rw [this]; exact ⟨h.2.2.1, h.2.2.2⟩
  · rw [v env]
    exact s env st (by omega)
theorem wf_join {D1 D2 D : Nat} {c1 c2 : List Nat} {j : Nat} (h1 : wfc D1 c1) (h2 : wfc D2 c2) (hj : 1100 ≤ j) (d1 : D1 ≤ D) (d2 : D2 + 1 ≤ D) (d3 : D ≤ 24) : wfc D (c1 ++ c2 ++ [j]) ∧ ∀ env, vl env (c1 ++ c2 ++ [j]) = jnd j (vl env c1) (vl env c2) := by
  have k : ∀ env st, st.length + D ≤ 24 → xc env (c1 ++ c2 ++ [j]) st = jnd j (vl env c1) (vl env c2) :: st := fun env st hs => by
    rw [xc_app, xc_app, h1.2 env st (by omega), h2.2 env _ (by rw [List.length_cons]; omega)]
    show stp env j (vl env c2 :: vl env c1 :: st) = _
    unfold stp
    rw [if_neg (by omega), if_pos hj]
  have v : ∀ env, vl env (c1 ++ c2 ++ [j]) = jnd j (vl env c1) (vl env c2) := fun env => by
    have := k env [] (by simp; omega)
    unfold vl
    rw [this]; rfl
  refine ⟨⟨fun w hw => ?_, fun env st hs => by rw [v env]; exact k env st hs⟩, v⟩
  rw [List.mem_append, List.mem_append] at hw
  rcases hw with (hw | hw) | hw
  · exact h1.1 w hw
  · exact h2.1 w hw
  · have : w = j := by simpa using hw
    omega
theorem wf_not {D : Nat} {c : List Nat} (h : wfc D c) (d3 : D ≤ 24) : wfc D (c ++ [1012]) ∧ ∀ env, vl env (c ++ [1012]) = nI 1 - vl env c := by
  have k : ∀ env st, st.length + D ≤ 24 → xc env (c ++ [1012]) st = (nI 1 - vl env c) :: st := fun env st hs => by
    rw [xc_app, h.2 env st hs]
    rfl
  have v : ∀ env, vl env (c ++ [1012]) = nI 1 - vl env c := fun env => by
    have := k env [] (by simp; omega)
    unfold vl
    rw [this]; rfl
  refine ⟨⟨fun w hw => ?_, fun env st hs => by rw [v env]; exact k env st hs⟩, v⟩
  rw [List.mem_append] at hw
  rcases hw with hw | hw
  · exact h.1 w hw
  · have : w = 1012 := by simpa using hw
    omega
theorem wf_part {t : Nat → Nat} {L a : Nat} (h : (pPart t L a).1 = true) : wfc 1 (pPart t L a).2.2 := by
  unfold pPart at *
  by_cases c : 1014 ≤ kd t L a ∧ kd t L a ≤ 1019
  · rw [if_pos c]; exact (wf_one (by omega)).1
  · rw [if_neg c] at h ⊢
    by_cases d : nmb t L a = 4000
    · rw [if_pos d] at h; cases h
    · rw [if_neg d]
      have := (nmb_lt (t := t) (L := L) (a := a)).resolve_left d
      exact (wf_one (by omega)).1
theorem wf_sumL {t : Nat → Nat} {L : Nat} : ∀ k a c, wfc 2 c → (pSumL t L k a c).1 = true → wfc 2 (pSumL t L k a c).2.2
  | 0, a, c, h, _ => h
  | k + 1, a, c, h, e => by
    rw [pSumL] at e ⊢
    by_cases d : kd t L a = 43
    · rw [if_pos d] at e ⊢
      by_cases e1 : (pPart t L (nxt t L a)).1 = true
      · rw [if_pos e1] at e ⊢
        exact wf_sumL k _ _ (wf_join h (wf_part e1) (by decide) (by decide) (by decide) (by decide)).1 e
      · rw [if_neg e1] at e; cases e
    · rw [if_neg d]; exact h
theorem wf_sum {t : Nat → Nat} {L a : Nat} (e : (pSum t L a).1 = true) : wfc 2 (pSum t L a).2.2 := by
  unfold pSum at *
  by_cases e1 : (pPart t L a).1 = true
  · rw [if_pos e1] at e ⊢
    exact wf_sumL _ _ _ ((wf_part e1).mono (by decide)) e
  · rw [if_neg e1] at e; cases e
/-- what is yes or no -/
def bln (c : List Nat) : Prop := ∀ env : Nat → Int32, (env 1013 = nI 0 ∨ env 1013 = nI 1) → (env 1002 = nI 0 ∨ env 1002 = nI 1) → vl env c = nI 0 ∨ vl env c = nI 1
theorem wf_plain {t : Nat → Nat} {L a : Nat} (e : (pPlain t L a).1 = true) : wfc 3 (pPlain t L a).2.2 ∧ bln (pPlain t L a).2.2 := by
  unfold pPlain at *
  by_cases c : kd t L a = 1013 ∨ kd t L a = 1002
  · rw [if_pos c]
    have w := wf_one (w := kd t L a) (by omega)
    refine ⟨w.1.mono (by decide), fun env h1 h2 => ?_⟩
    have := w.2 env
    rw [if_neg (by omega)] at this
    rcases c with c | c
    · rw [this, c]; exact h1
    · rw [this, c]; exact h2
  · rw [if_neg c] at e ⊢
    by_cases e1 : (pSum t L a).1 = true
    · rw [if_pos e1] at e ⊢
      by_cases c2 : kd t L (pSum t L a).2.1 = 60 ∨ kd t L (pSum t L a).2.1 = 62
      · rw [if_pos c2] at e ⊢
        by_cases e2 : (pSum t L (nxt t L (pSum t L a).2.1)).1 = true
        · rw [if_pos e2]
          have W := wf_join (D := 3) (j := if kd t L (pSum t L a).2.1 = 60 then 1101 else 1102) (wf_sum e1) (wf_sum e2) (by split <;> decide) (by decide) (by decide) (by decide)
          refine ⟨W.1, fun env _ _ => ?_⟩
          rw [W.2 env]
          unfold jnd
          by_cases k : kd t L (pSum t L a).2.1 = 60
          · rw [if_pos k, if_neg (by decide), if_pos rfl]; split <;> simp
          · rw [if_neg k, if_neg (by decide), if_neg (by decide), if_pos rfl]; split <;> simp
        · rw [if_neg e2] at e; cases e
      · rw [if_neg c2] at e; cases e
    · rw [if_neg e1] at e; cases e
theorem and_01 : ∀ a b : Int32, (a = nI 0 ∨ a = nI 1) → (b = nI 0 ∨ b = nI 1) → (a &&& b = nI 0 ∨ a &&& b = nI 1) := by
  rintro a b (rfl | rfl) (rfl | rfl) <;> decide
theorem or_01 : ∀ a b : Int32, (a = nI 0 ∨ a = nI 1) → (b = nI 0 ∨ b = nI 1) → (a ||| b = nI 0 ∨ a ||| b = nI 1) := by
  rintro a b (rfl | rfl) (rfl | rfl) <;> decide
theorem jnd_01 {j : Nat} (hj : j = 1103 ∨ j = 1104) {a b : Int32} (h1 : a = nI 0 ∨ a = nI 1) (h2 : b = nI 0 ∨ b = nI 1) : jnd j a b = nI 0 ∨ jnd j a b = nI 1 := by
  rcases hj with rfl | rfl
  · exact and_01 a b h1 h2
  · exact or_01 a b h1 h2
theorem wf_joinL {t : Nat → Nat} {L D : Nat} {A : Nat → Bool × Nat × List Nat} (hA : ∀ a, (A a).1 = true → wfc D (A a).2.2 ∧ bln (A a).2.2) (hD : D + 1 ≤ 24) {w j : Nat} (hj : j = 1103 ∨ j = 1104) : ∀ k a c, wfc (D + 1) c → bln c → (pJoinL t L A w j k a c).1 = true → wfc (D + 1) (pJoinL t L A w j k a c).2.2 ∧ bln (pJoinL t L A w j k a c).2.2
  | 0, a, c, h, hb, _ => ⟨h, hb⟩
  | k + 1, a, c, h, hb, e => by
    rw [pJoinL] at e ⊢
    by_cases d : kd t L a = w
    · rw [if_pos d] at e ⊢
      by_cases e1 : (A (nxt t L a)).1 = true
      · rw [if_pos e1] at e ⊢
        obtain ⟨w1, w2⟩ := hA _ e1
        have W := wf_join (D := D + 1) (j := j) h w1 (by omega) (Nat.le_refl _) (Nat.le_refl _) hD
        refine wf_joinL hA hD hj k _ _ W.1 (fun env h1 h2 => ?_) e
        rw [W.2 env]
        exact jnd_01 hj (hb env h1 h2) (w2 env h1 h2)
      · rw [if_neg e1] at e; cases e
    · rw [if_neg d]; exact ⟨h, hb⟩
theorem wf_join1 {t : Nat → Nat} {L D : Nat} {A : Nat → Bool × Nat × List Nat} (hA : ∀ a, (A a).1 = true → wfc D (A a).2.2 ∧ bln (A a).2.2) (hD : D + 1 ≤ 24) {w j : Nat} (hj : j = 1103 ∨ j = 1104) : ∀ a, (pJoin t L A w j a).1 = true → wfc (D + 1) (pJoin t L A w j a).2.2 ∧ bln (pJoin t L A w j a).2.2 := by
  intro a e
  unfold pJoin at *
  by_cases e1 : (A a).1 = true
  · rw [if_pos e1] at e ⊢
    obtain ⟨w1, w2⟩ := hA _ e1
    exact wf_joinL hA hD hj _ _ _ (w1.mono (by omega)) w2 e
  · rw [if_neg e1] at e; cases e
theorem wf_some {t : Nat → Nat} {L D : Nat} {A : Nat → Bool × Nat × List Nat} (hA : ∀ a, (A a).1 = true → wfc D (A a).2.2 ∧ bln (A a).2.2) (hD : D + 2 ≤ 24) : ∀ a, (pSome t L A a).1 = true → wfc (D + 2) (pSome t L A a).2.2 ∧ bln (pSome t L A a).2.2 :=
  wf_join1 (wf_join1 hA (by omega) (Or.inl rfl)) hD (Or.inr rfl)
theorem not_01 : ∀ a : Int32, (a = nI 0 ∨ a = nI 1) → (nI 1 - a = nI 0 ∨ nI 1 - a = nI 1) := by
  rintro a (rfl | rfl) <;> decide
theorem wf_atom {t : Nat → Nat} {L : Nat} : ∀ d, 3 + 2 * d ≤ 24 → ∀ a, (pAtom t L d a).1 = true → wfc (3 + 2 * d) (pAtom t L d a).2.2 ∧ bln (pAtom t L d a).2.2
  | 0, _, a, e => by
    rw [pAtom] at e ⊢
    by_cases c : kd t L a = 1012 ∨ kd t L a = 40
    · rw [if_pos c] at e; cases e
    · rw [if_neg c] at e ⊢; exact wf_plain e
  | d + 1, hd, a, e => by
    rw [pAtom] at e ⊢
    by_cases c : kd t L a = 1012
    · rw [if_pos c] at e ⊢
      by_cases e1 : (pAtom t L d (nxt t L a)).1 = true
      · rw [if_pos e1]
        obtain ⟨w1, w2⟩ := wf_atom d (by omega) _ e1
        have W := wf_not w1 (by omega)
        refine ⟨W.1.mono (by omega), fun env h1 h2 => ?_⟩
        rw [W.2 env]
        exact not_01 _ (w2 env h1 h2)
      · rw [if_neg e1] at e; cases e
    · rw [if_neg c] at e ⊢
      by_cases c2 : kd t L a = 40
      · rw [if_pos c2] at e ⊢
        by_cases e1 : (pSome t L (pAtom t L d) (nxt t L a)).1 = true
        · rw [if_pos e1] at e ⊢
          by_cases c3 : kd t L (pSome t L (pAtom t L d) (nxt t L a)).2.1 = 41
          · rw [if_pos c3]
            obtain ⟨w1, w2⟩ := wf_some (wf_atom d (by omega)) (by omega) _ e1
            exact ⟨w1.mono (by omega), w2⟩
          · rw [if_neg c3] at e; cases e
        · rw [if_neg e1] at e; cases e
      · rw [if_neg c2] at e ⊢
        obtain ⟨w1, w2⟩ := wf_plain e
        exact ⟨w1.mono (by omega), w2⟩
theorem wf_cond {t : Nat → Nat} {L a : Nat} (e : (pSome t L (pAtom t L 6) a).1 = true) : wfc 17 (pSome t L (pAtom t L 6) a).2.2 ∧ bln (pSome t L (pAtom t L 6) a).2.2 := wf_some (wf_atom 6 (by decide)) (by decide) a e
