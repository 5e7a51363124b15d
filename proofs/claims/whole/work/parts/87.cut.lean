variable {Nq : Nat}
/-! ===== the class cuts a text ===== -/
def psn (t : Nat → Nat) (L : Nat) : Nat → Nat
  | 0 => rn (bk t) L 0
  | i + 1 => nxt t L (psn t L i)
theorem psn_nrm {t : Nat → Nat} {L : Nat} : ∀ i, nrm t L (psn t L i)
  | 0 => ⟨rn_rn 0, rn_le 0 (Nat.zero_le _)⟩
  | i + 1 => by
    have ih := psn_nrm (t := t) (L := L) i
    show nrm t L (nxt t L (psn t L i))
    by_cases c : psn t L i < L
    · exact nxt_nrm c
    · unfold nxt; rw [if_neg c]; exact ih
theorem psn_ge {t : Nat → Nat} {L : Nat} : ∀ i, i ≤ psn t L i ∨ psn t L i = L
  | 0 => Or.inl (Nat.zero_le _)
  | i + 1 => by
    have h1 := (psn_nrm (t := t) (L := L) i).2
    show i + 1 ≤ nxt t L (psn t L i) ∨ nxt t L (psn t L i) = L
    by_cases c : psn t L i < L
    · rcases psn_ge (t := t) (L := L) i with h | h
      · have := (nxt_gt (t := t) c).2; left; omega
      · omega
    · right; unfold nxt; rw [if_neg c]; omega
theorem psn_Z (t : Nat → Nat) (L : Nat) : ∃ Z, Z ≤ L ∧ psn t L Z = L ∧ ∀ j, j < Z → psn t L j < L := by
  have h : ∃ i, i < L + 1 ∧ psn t L i = L := ⟨L, by omega, by
    have h1 := (psn_nrm (t := t) (L := L) L).2
    rcases psn_ge (t := t) (L := L) L with h | h <;> omega⟩
  obtain ⟨Z, h1, h2, h3⟩ := fb_first (p := fun i => psn t L i = L) h
  refine ⟨Z, by omega, h2, fun j hj => ?_⟩
  have := (psn_nrm (t := t) (L := L) j).2
  have := h3 j hj
  omega
def Tq (g : gG) (t : Nat → Nat) (L : Nat) : Prop := gF g 4 1 = nI L ∧ L ≤ 400 ∧ ∀ i, i < L → gA g 5 i = nI (t i) ∧ t i < 256
theorem Tq.a {g : gG} {t : Nat → Nat} {L : Nat} (T : Tq g t L) {x : Nat} {f : Nat → Int32} (h : x ≠ 5) : Tq (sA g x f) t L := by
  obtain ⟨t1, t2, t3⟩ := T
  exact ⟨t1, t2, fun i hi => by rw [gA_sA2 _ _ (by omega)]; exact t3 i hi⟩
theorem Tq.f {g : gG} {t : Nat → Nat} {L : Nat} (T : Tq g t L) {x k : Nat} {v : Int32} (h : x ≠ 4) : Tq (sF g x k v) t L := by
  obtain ⟨t1, t2, t3⟩ := T
  exact ⟨by rw [gF_sF2 _ _ (by omega)]; exact t1, t2, t3⟩
theorem Tq.b {g : gG} {t : Nat → Nat} {L i : Nat} (T : Tq g t L) (hi : i < L) : fX9_byteAt 4 (nI i) (gH g) = some (nI (t i)) := cl_byte T.1 T.2.1 hi (T.2.2 i hi).1
theorem cl_past {g : gG} {t : Nat → Nat} {L : Nat} (T : Tq g t L) {F : Nat} (hF : 11000 < F) {a : Nat} (ha : a < 1000) : fX0_pastBlanks F 188 (nI a) (gH g) = some (nI (rn (bk t) L a)) := by
  have h1 := T.1
  have h2 := T.2.1
  have : ∀ Fu a, a < 1000 → L - a < Fu → fX0_pastBlanks_2 188 (gH g) Fu (nI a) = some (nI (rn (bk t) L a)) := by
    intro Fu
    induction Fu with
    | zero => intro a _ h; omega
    | succ Fu ih =>
      intro a ha h
      by_cases c : a < L
      · have l := T.b c
        have b := (T.2.2 a c).2
        by_cases c2 : t a = 32
        · have e := ih (a + 1) (by omega) (by omega)
          rw [rn_go ⟨c, decide_eq_true c2⟩]
          rw [c2] at l
          simp (disch := omega) only [fX0_pastBlanks_2, io_4, fr_188_0, fi_4_1, bdS, ck_t, ck_T, cb_0, cb_1, ab_jn, if_true, if_false, fi_4_1, io_4, h1, c, l, nI_ltI, nI_add, if_true]
          exact e
        · rw [rn_stop (fun h => c2 (of_decide_eq_true h.2))]
          simp (disch := omega) only [fX0_pastBlanks_2, io_4, fr_188_0, fi_4_1, bdS, ck_t, ck_T, cb_0, cb_1, ab_jn, if_true, if_false, fi_4_1, io_4, h1, c, l, c2, nI_ltI, nI_eq, if_true, if_false]
      · rw [rn_stop (fun h => c h.1)]
        simp (disch := omega) only [fX0_pastBlanks_2, io_4, fr_188_0, fi_4_1, bdS, ck_t, ck_T, cb_0, cb_1, ab_jn, if_true, if_false, fi_4_1, io_4, h1, c, nI_ltI, if_false]
  unfold fX0_pastBlanks
  exact this F a ha (by omega)
/-- the kind before words are known -/
def kd0 (t : Nat → Nat) (a : Nat) : Nat := if ltr t a = true then 257 else if dig t a = true then 256 else t a
theorem cl_kindAt {g : gG} {t : Nat → Nat} {L : Nat} (T : Tq g t L) {a : Nat} (ha : a < L) : fX0_kindAt 188 (nI a) (gH g) = some (nI (kd0 t a)) := by
  have l := T.b ha
  have h2 := T.2.1
  have b := (T.2.2 a ha).2
  unfold kd0 ltr dig
  by_cases c1 : t a < 97
  · have n1 : ¬ (97 ≤ t a ∧ t a ≤ 122) := by omega
    by_cases c2 : t a < 48
    · have n2 : ¬ (48 ≤ t a ∧ t a ≤ 57) := by omega
      rw [decide_eq_false n1, decide_eq_false n2]
      simp (disch := omega) only [fX0_kindAt, io_4, fr_188_0, bdS, ck_t, ck_T, cb_0, cb_1, ab_jn, if_true, if_false, io_4, l, c1, c2, nI_ltI, decide_false, Bool.false_eq_true, if_true, if_false]
    · by_cases c3 : t a ≤ 57
      · have n2 : 48 ≤ t a ∧ t a ≤ 57 := by omega
        rw [decide_eq_false n1, decide_eq_true n2]
        simp (disch := omega) only [fX0_kindAt, io_4, fr_188_0, bdS, ck_t, ck_T, cb_0, cb_1, ab_jn, if_true, if_false, io_4, l, c1, c2, c3, nI_ltI, nI_leI, decide_true, decide_false, Bool.false_eq_true, if_true, if_false, and_self]
      · have n2 : ¬ (48 ≤ t a ∧ t a ≤ 57) := by omega
        rw [decide_eq_false n1, decide_eq_false n2]
        simp (disch := omega) only [fX0_kindAt, io_4, fr_188_0, bdS, ck_t, ck_T, cb_0, cb_1, ab_jn, if_true, if_false, io_4, l, c1, c2, c3, nI_ltI, nI_leI, decide_false, Bool.false_eq_true, if_true, if_false]
  · have c2 : ¬ t a < 48 := by omega
    have c3 : ¬ t a ≤ 57 := by omega
    have n2 : ¬ (48 ≤ t a ∧ t a ≤ 57) := by omega
    by_cases c4 : t a ≤ 122
    · have n1 : 97 ≤ t a ∧ t a ≤ 122 := by omega
      rw [decide_eq_true n1]
      simp (disch := omega) only [fX0_kindAt, io_4, fr_188_0, bdS, ck_t, ck_T, cb_0, cb_1, ab_jn, if_true, if_false, io_4, l, c1, c2, c3, c4, nI_ltI, nI_leI, decide_true, if_true, if_false, and_self]
    · have n1 : ¬ (97 ≤ t a ∧ t a ≤ 122) := by omega
      rw [decide_eq_false n1, decide_eq_false n2]
      simp (disch := omega) only [fX0_kindAt, io_4, fr_188_0, bdS, ck_t, ck_T, cb_0, cb_1, ab_jn, if_true, if_false, io_4, l, c1, c2, c3, c4, nI_ltI, nI_leI, decide_false, Bool.false_eq_true, if_true, if_false]
theorem kd0_257 {t : Nat → Nat} {a : Nat} (h : t a < 256) : kd0 t a = 257 ↔ ltr t a = true := by
  unfold kd0
  by_cases c : ltr t a = true
  · rw [if_pos c]; exact ⟨fun _ => c, fun _ => rfl⟩
  · rw [if_neg c]
    constructor
    · intro e; split at e <;> omega
    · intro e; exact absurd e c
theorem kd0_256 {t : Nat → Nat} {a : Nat} (h : t a < 256) : kd0 t a = 256 ↔ dig t a = true := by
  unfold kd0
  by_cases c : ltr t a = true
  · rw [if_pos c]
    have := of_decide_eq_true c
    constructor
    · intro e; omega
    · intro e; have := of_decide_eq_true e; omega
  · rw [if_neg c]
    by_cases d : dig t a = true
    · rw [if_pos d]; exact ⟨fun _ => d, fun _ => rfl⟩
    · rw [if_neg d]; exact ⟨fun e => by omega, fun e => absurd e d⟩
theorem kd0_lt {t : Nat → Nat} {a : Nat} (h : t a < 256) : kd0 t a < 258 := by
  unfold kd0
  split
  · omega
  · split <;> omega
theorem rl_endOf {g : gG} {t : Nat → Nat} {L : Nat} (T : Tq g t L) {k : Nat} {P : Nat → Bool} (hk : k < 258) (hP : ∀ a, a < L → (kd0 t a = k ↔ P a = true)) : ∀ Fu a, a < 1000 → L - a < Fu → fX0_endOf_18 188 (nI k) (gH g) Fu (nI a) = some (nI (rn P L a)) := by
  have h1 := T.1
  have h2 := T.2.1
  intro Fu
  induction Fu with
  | zero => intro a _ h; omega
  | succ Fu ih =>
    intro a ha h
    by_cases c : a < L
    · have l := cl_kindAt T c
      have lt := kd0_lt (T.2.2 a c).2
      by_cases c2 : kd0 t a = k
      · have e := ih (a + 1) (by omega) (by omega)
        rw [rn_go ⟨c, (hP a c).mp c2⟩]
        rw [c2] at l
        simp (disch := omega) only [fX0_endOf_18, io_188, fr_188_0, fi_4_1, bdS, ck_t, ck_T, cb_0, cb_1, ab_jn, if_true, if_false, fi_4_1, io_188, h1, c, l, nI_ltI, nI_add, if_true]
        exact e
      · rw [rn_stop (fun h => c2 ((hP a c).mpr h.2))]
        simp (disch := omega) only [fX0_endOf_18, io_188, fr_188_0, fi_4_1, bdS, ck_t, ck_T, cb_0, cb_1, ab_jn, if_true, if_false, fi_4_1, io_188, h1, c, l, c2, nI_ltI, nI_eq, if_true, if_false]
    · rw [rn_stop (fun h => c h.1)]
      simp (disch := omega) only [fX0_endOf_18, io_188, fr_188_0, fi_4_1, bdS, ck_t, ck_T, cb_0, cb_1, ab_jn, if_true, if_false, fi_4_1, io_188, h1, c, nI_ltI, if_false]
theorem cl_endOf {g : gG} {t : Nat → Nat} {L : Nat} (T : Tq g t L) {F : Nat} (hF : 11000 < F) {a : Nat} (ha : a < L) : fX0_endOf F 188 (nI (kd0 t a)) (nI a) (gH g) = some (nI (en t L a)) := by
  have h2 := T.2.1
  have b := (T.2.2 a ha).2
  have lt := kd0_lt b
  unfold en
  by_cases c : ltr t a = true
  · have e := (kd0_257 b).mpr c
    rw [if_pos c, e]
    have := rl_endOf T (k := 257) (P := ltr t) (by omega) (fun a ha => kd0_257 (T.2.2 a ha).2) F (a + 1) (by omega) (by omega)
    simp (disch := omega) only [fX0_endOf, bdS, ck_t, ck_T, cb_0, cb_1, ab_jn, if_true, if_false, nI_add, if_true]
    exact this
  · have n7 : ¬ kd0 t a = 257 := fun h => c ((kd0_257 b).mp h)
    rw [if_neg c]
    by_cases d : dig t a = true
    · have e := (kd0_256 b).mpr d
      rw [if_pos d, e]
      have := rl_endOf T (k := 256) (P := dig t) (by omega) (fun a ha => kd0_256 (T.2.2 a ha).2) F (a + 1) (by omega) (by omega)
      simp (disch := omega) only [fX0_endOf, bdS, ck_t, ck_T, cb_0, cb_1, ab_jn, if_true, if_false, nI_add, nI_eq, show ¬ (256 = 257) by omega, if_true, if_false]
      exact this
    · have n6 : ¬ kd0 t a = 256 := fun h => d ((kd0_256 b).mp h)
      rw [if_neg d]
      simp (disch := omega) only [fX0_endOf, bdS, ck_t, ck_T, cb_0, cb_1, ab_jn, if_true, if_false, nI_add, nI_eq, n6, n7, if_false]
/-! ===== the class's words ===== -/
def chW (i : Nat) : Nat := (wW.flatMap (fun w => w ++ [32])).getD i 0
theorem chW_ok : ∀ i, i < 97 → ab_sC (ab_SB + 0) (nI i) = some (nI (chW i)) ∧ chW i < 256 := by decide +kernel
theorem lenW : ab_sL (ab_SB + 0) = some (nI 97) := by decide +kernel
/-- the words from a place of WORDS on -/
def cw : List (List Nat) → Nat → Prop
  | [], s => s = 97
  | w :: ws, s => s + w.length < 97 ∧ w.length < 8 ∧ (∀ i, i < w.length → chW (s + i) = w.getD i 0 ∧ w.getD i 0 ≠ 32) ∧ chW (s + w.length) = 32 ∧ cw ws (s + w.length + 1)
def cwB : List (List Nat) → Nat → Bool
  | [], s => decide (s = 97)
  | w :: ws, s => decide (s + w.length < 97) && decide (w.length < 8) && (List.range w.length).all (fun i => decide (chW (s + i) = w.getD i 0) && decide (w.getD i 0 ≠ 32)) && decide (chW (s + w.length) = 32) && cwB ws (s + w.length + 1)
theorem cwB_ok : ∀ ws s, cwB ws s = true → cw ws s
  | [], s, h => by
    show s = 97
    exact of_decide_eq_true h
  | w :: ws, s, h => by
    rw [cwB, Bool.and_eq_true, Bool.and_eq_true, Bool.and_eq_true, Bool.and_eq_true] at h
    obtain ⟨⟨⟨⟨h1, h2⟩, h3⟩, h4⟩, h5⟩ := h
    refine ⟨of_decide_eq_true h1, of_decide_eq_true h2, fun i hi => ?_, of_decide_eq_true h4, cwB_ok ws _ h5⟩
    have := List.all_eq_true.mp h3 i (List.mem_range.mpr hi)
    rw [Bool.and_eq_true] at this
    exact ⟨of_decide_eq_true this.1, of_decide_eq_true this.2⟩
theorem cw_W : cw wW 0 := cwB_ok _ _ (by decide +kernel)
theorem cl_spelt {g : gG} {t : Nat → Nat} {L : Nat} (T : Tq g t L) {F : Nat} (hF : 11000 < F) {a s : Nat} {w : List Nat} (hs : s + w.length < 97) (h8 : w.length < 8) (hc : ∀ i, i < w.length → chW (s + i) = w.getD i 0) (hl : a + w.length ≤ L) : fX0_isSpelt F 188 (nI s) (nI a) (nI (a + w.length)) (gH g) = some (bI (spl t w a)) := by
  have h2 := T.2.1
  unfold fX0_isSpelt
  have key : ∀ d i Fu, i + d = w.length → d < Fu → (∀ j, j < i → t (a + j) = w.getD j 0) → fX0_isSpelt_3 188 (nI s) (nI a) (nI (a + w.length)) (gH g) Fu (nI (a + i)) = some (bI (spl t w a)) := by
    intro d
    induction d with
    | zero =>
      intro i Fu hi hFu hj
      obtain ⟨F', rfl⟩ : ∃ F', Fu = F' + 1 := ⟨Fu - 1, by omega⟩
      have e : i = w.length := by omega
      subst e
      rw [spl_iff.mpr hj]
      simp (disch := omega) only [fX0_isSpelt_3, io_4, fr_188_0, bdS, ck_t, ck_T, cb_0, cb_1, ab_jn, if_true, if_false, Nat.lt_irrefl, nI_ltI, if_false]
      rfl
    | succ d ih =>
      intro i Fu hi hFu hj
      obtain ⟨F', rfl⟩ : ∃ F', Fu = F' + 1 := ⟨Fu - 1, by omega⟩
      have il : i < w.length := by omega
      have lt : a + i < a + w.length := by omega
      have pl : nI (s + (a + i)) - nI a = nI (s + i) := by rw [pk_sub (by omega)]; congr 1; omega
      have p97 : s + i < 97 := by omega
      obtain ⟨k1, k2⟩ := chW_ok (s + i) p97
      have l := T.b (show a + i < L by omega)
      have lb := (T.2.2 (a + i) (by omega)).2
      rw [hc i il] at k1 k2
      by_cases c : t (a + i) = w.getD i 0
      · have e := ih (i + 1) F' (by omega) (by omega) (fun j hj' => by
          by_cases k : j = i
          · rw [k]; exact c
          · exact hj j (by omega))
        rw [c] at l
        have as : a + (i + 1) = a + i + 1 := by omega
        rw [as] at e
        simp (disch := omega) only [fX0_isSpelt_3, io_4, fr_188_0, bdS, ck_t, ck_T, cb_0, cb_1, ab_jn, if_true, if_false, lt, lenW, pl, p97, k1, io_4, l, nI_ltI, nI_add, if_true]
        exact e
      · have ns : spl t w a = false := by
          cases k : spl t w a
          · rfl
          · exact absurd (spl_iff.mp k i il) c
        rw [ns]
        have ne : ¬ (nI (w.getD i 0) = nI (t (a + i))) := by rw [nI_eq (by omega) (by omega)]; exact fun h => c h.symm
        simp (disch := omega) only [fX0_isSpelt_3, io_4, fr_188_0, bdS, ck_t, ck_T, cb_0, cb_1, ab_jn, if_true, if_false, lt, lenW, nI_add, pl, p97, k1, io_4, l, ne, nI_ltI, if_true, if_false]
        rfl
  exact key w.length 0 F (by omega) (by omega) (fun j hj => absurd hj (Nat.not_lt_zero j))
theorem rl_word {g : gG} {t : Nat → Nat} {L : Nat} (T : Tq g t L) {F : Nat} (hF : 11000 < F) {a : Nat} (ha : a < L) (hlt : ltr t a = true) : ∀ ws s k Fu, cw ws s → 200 < Fu + s → fX0_wordOf_10 F 188 (nI a) (nI (en t L a)) (gH g) Fu (nI k) (nI s) (nI s) = some (nI (fwd t L a ws k)) := by
  have h2 := T.2.1
  have el := en_le (t := t) ha
  have eg := en_gt (t := t) (L := L) (a := a)
  have er : en t L a = rn (ltr t) L a := by unfold en; rw [if_pos hlt, rn_go ⟨ha, hlt⟩]
  have se : nI (en t L a) - nI a = nI (en t L a - a) := pk_sub (by omega)
  intro ws
  induction ws with
  | nil =>
    intro s k Fu h hFu
    have e : s = 97 := h
    subst e
    obtain ⟨F', rfl⟩ : ∃ F', Fu = F' + 1 := ⟨Fu - 1, by omega⟩
    simp (disch := omega) only [fX0_wordOf_10, io_188, bdS, ck_t, ck_T, cb_0, cb_1, ab_jn, if_true, if_false, lenW, Nat.lt_irrefl, nI_ltI, if_false, fwd]
  | cons w ws ih =>
    intro s k Fu h hFu
    obtain ⟨h1, h8, h3, h4, h5⟩ := h
    have inner : ∀ d i Fu, i + d = w.length → 200 < Fu + s + i → fX0_wordOf_10 F 188 (nI a) (nI (en t L a)) (gH g) Fu (nI k) (nI s) (nI (s + i)) = some (nI (fwd t L a (w :: ws) k)) := by
      intro d
      induction d with
      | zero =>
        intro i Fu hi hFu
        obtain ⟨F', rfl⟩ : ∃ F', Fu = F' + 1 := ⟨Fu - 1, by omega⟩
        have e : i = w.length := by omega
        subst e
        obtain ⟨k1, k2⟩ := chW_ok (s + w.length) h1
        rw [h4] at k1
        have sb : nI (s + w.length) - nI s = nI w.length := by rw [pk_sub (by omega), Nat.add_sub_cancel_left]
        have nxt1 := ih (s + w.length + 1) (k + 1) F' h5
        rw [fwd]
        by_cases c : w.length = en t L a - a
        · have sp := cl_spelt T hF h1 h8 (fun i hi => (h3 i hi).1) (show a + w.length ≤ L by omega)
          rw [show a + w.length = en t L a by omega] at sp
          have hs : hsW t L w a = spl t w a := by
            unfold hsW
            rw [decide_eq_true (by omega), Bool.true_and]
          have ceq : (nI w.length = nI (en t L a - a)) = True := eq_true (by rw [c])
          rw [hs]
          cases d : spl t w a
          · rw [d] at sp
            simp (disch := omega) only [fX0_wordOf_10, io_188, bdS, ck_t, ck_T, cb_0, cb_1, ab_jn, if_true, if_false, lenW, h1, k1, sb, se, ceq, io_188, sp, bI_0, nI_ltI, nI_add, if_true, Bool.false_eq_true, if_false]
            exact nxt1 (by omega)
          · rw [d] at sp
            simp (disch := omega) only [fX0_wordOf_10, io_188, bdS, ck_t, ck_T, cb_0, cb_1, ab_jn, if_true, if_false, lenW, h1, k1, sb, se, ceq, io_188, sp, bI_0, nI_ltI, nI_add, if_true, reduceCtorEq, if_false]
        · have hs : hsW t L w a = false := by
            unfold hsW
            rw [decide_eq_false (by omega)]; rfl
          rw [hs]
          simp (disch := omega) only [fX0_wordOf_10, io_188, bdS, ck_t, ck_T, cb_0, cb_1, ab_jn, if_true, if_false, lenW, h1, k1, sb, se, c, nI_eq, nI_ltI, nI_add, if_true, Bool.false_eq_true, if_false]
          exact nxt1 (by omega)
      | succ d ihd =>
        intro i Fu hi hFu
        obtain ⟨F', rfl⟩ : ∃ F', Fu = F' + 1 := ⟨Fu - 1, by omega⟩
        obtain ⟨k1, k2⟩ := chW_ok (s + i) (by omega)
        obtain ⟨c1, c2⟩ := h3 i (by omega)
        rw [c1] at k1 k2
        have e := ihd (i + 1) F' (by omega) (by omega)
        have l97 : s + i < 97 := by omega
        have as : s + (i + 1) = s + i + 1 := by omega
        rw [as] at e
        simp (disch := omega) only [fX0_wordOf_10, io_188, bdS, ck_t, ck_T, cb_0, cb_1, ab_jn, if_true, if_false, lenW, l97, k1, c2, nI_eq, nI_ltI, nI_add, if_true, if_false]
        exact e
    exact inner w.length 0 Fu (by omega) (by omega)
theorem cl_wordOf {g : gG} {t : Nat → Nat} {L : Nat} (T : Tq g t L) {F : Nat} (hF : 11000 < F) {a : Nat} (ha : a < L) (hlt : ltr t a = true) : fX0_wordOf F 188 (nI a) (nI (en t L a)) (gH g) = some (nI (fwd t L a wW 1000)) := by
  unfold fX0_wordOf
  exact rl_word T hF ha hlt wW 0 1000 F cw_W (by omega)
