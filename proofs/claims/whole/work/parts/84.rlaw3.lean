variable {Nq : Nat}
/-! ===== every, some ===== -/
theorem envR_b {g : gG} (hb : Bo g) : (envR g 1013 = nI 0 ∨ envR g 1013 = nI 1) ∧ (envR g 1002 = nI 0 ∨ envR g 1002 = nI 1) := hb
theorem and_if {α : Type} {X x : Int32} (f : Int32 → α) (h1 : X = nI 0 ∨ X = nI 1) (h2 : x = nI 0 ∨ x = nI 1) : (if X = 0 then f (nI 0) else if x = 0 then f (nI 0) else f (nI 1)) = f (jnd 1103 X x) := by
  rcases h1 with rfl | rfl <;> rcases h2 with rfl | rfl <;> rfl
theorem or_if {α : Type} {X x : Int32} (f : Int32 → α) (h1 : X = nI 0 ∨ X = nI 1) (h2 : x = nI 0 ∨ x = nI 1) : (if X = 0 then (if x = 0 then f (nI 0) else f (nI 1)) else f (nI 1)) = f (jnd 1104 X x) := by
  rcases h1 with rfl | rfl <;> rcases h2 with rfl | rfl <;> rfl
theorem rl_every5 {g : gG} {t : Nat → Nat} {L D B : Nat} (H : Ltx g t L) (hb : Bo g) (d : Int32) {F : Nat} (hF : 11000 < F) (u v : Int32) {A : Nat → ab_H → Option (Int32 × ab_H)} {p : Nat → Bool × Nat × List Nat} (hA : RsB g t L d B (A 206) p) (hW : ∀ a, (p a).1 = true → wfc D (p a).2.2 ∧ bln (p a).2.2) (hP : ∀ a, a ≤ L → Pg t L a (p a)) (hD : D + 1 ≤ 24) : ∀ k Fu a c, a ≤ L → L - rn (bk t) L a < k → k < Fu → wfc (D + 1) c → bln c → ∃ x a' f' d', fX12_every_5 F A 206 Fu (vl (envR g) c) (gH (tx g (nI a) (-1) d u v)) = some (x, gH (tx g (nI a') f' d' u v)) ∧ (x = nI 0 ∨ x = nI 1) ∧ Cn t L (envR g) d B (pJoinL t L p 1011 1103 k (rn (bk t) L a) c) x a' f' d' := by
  have h2 := H.2.1
  intro k
  induction k with
  | zero => intro Fu a c _ h; omega
  | succ k ih =>
    intro Fu a c ha hk hFu hc hcb
    obtain ⟨F', rfl⟩ : ∃ F', Fu = F' + 1 := ⟨Fu - 1, by omega⟩
    have sg := hw_33 H (-1) d u v (show a < 1000 by omega) hF
    have bl := rn_le (P := bk t) (L := L) a ha
    have nb := rn_rn (P := bk t) (L := L) a
    have v01 := hcb (envR g) (envR_b hb).1 (envR_b hb).2
    generalize rn (bk t) L a = b at *
    rw [pJoinL]
    by_cases c1 : kd t L b = 1011
    · have hl : b < L := kd_lt (t := t) (by omega)
      rw [if_pos c1]
      have nx := nx_en (t := t) hl
      have el := en_le (t := t) hl
      obtain ⟨x, a1, f1, d1, e1, x01, q1, q2, q3⟩ := hA (en t L b) u v el
      rw [nx] at q2 q3
      have P := hP _ (nxt_nrm (t := t) hl).2
      have gt := nxt_gt (t := t) hl
      have stp1 : fX12_every_5 F A 206 (F' + 1) (vl (envR g) c) (gH (tx g (nI a) (-1) d u v)) = fX12_every_5 F A 206 F' (jnd 1103 (vl (envR g) c) x) (gH (tx g (nI a1) f1 d1 u v)) := by
        have e := and_if (fun z => fX12_every_5 F A 206 F' z (gH (tx g (nI a1) f1 d1 u v))) v01 x01
        rw [fX12_every_5]
        simp (disch := omega) only [bdS, fi_206_12, tf12, io_206, ck_t, ck_T, if_true, sg, c1, decide_true, bI_0, reduceCtorEq, if_false, e1]
        exact e
      rw [stp1]
      cases e2 : (p (nxt t L b)).1
      · obtain ⟨r1, r2⟩ := q3 e2
        obtain ⟨F2, rfl⟩ : ∃ F2, F' = F2 + 1 := ⟨F' - 1, by omega⟩
        rw [if_neg (by decide)]
        have j01 := jnd_01 (j := 1103) (by omega) v01 x01
        refine ⟨jnd 1103 (vl (envR g) c) x, a1, f1, d1, ?_, j01, by omega, (fun h => by cases h), fun _ => ⟨r1, r2⟩⟩
        rw [fX12_every_5]
        simp (disch := omega) only [bdS, fi_206_12, tf12, r2, if_false, cb_ok j01]
      · obtain ⟨r1, r2, r3, r4, r5⟩ := q2 e2
        obtain ⟨p1, p2, p3⟩ := P.1 e2
        obtain ⟨w1, w2⟩ := hW _ e2
        subst r1 r2
        rw [if_pos rfl]
        have W := wf_join (D := D + 1) (j := 1103) hc w1 (by decide) (Nat.le_refl _) (Nat.le_refl _) hD
        obtain ⟨x', a', f', d', e3, C0, C⟩ := ih F' a1 (c ++ (p (nxt t L b)).2.2 ++ [1103]) r3 (by omega) (by omega) W.1 (fun env h1 h2 => by rw [W.2 env]; exact jnd_01 (by omega) (hcb env h1 h2) (w2 env h1 h2))
        rw [r4] at C
        refine ⟨x', a', f', d', ?_, C0, C⟩
        rw [W.2 (envR g), ← r5] at e3
        exact e3
    · rw [if_neg c1]
      refine ⟨vl (envR g) c, b, -1, d, ?_, v01, Cn.ok bl nb rfl⟩
      rw [fX12_every_5]
      simp (disch := omega) only [bdS, fi_206_12, tf12, io_206, ck_t, ck_T, if_true, sg, c1, decide_false, bI_0, if_false, cb_ok v01]
theorem rs_every {g : gG} {t : Nat → Nat} {L D B : Nat} (H : Ltx g t L) (hb : Bo g) (d : Int32) {F : Nat} (hF : 11000 < F) {A : Nat → ab_H → Option (Int32 × ab_H)} {p : Nat → Bool × Nat × List Nat} (hA : RsB g t L d B (A 206) p) (hW : ∀ a, (p a).1 = true → wfc D (p a).2.2 ∧ bln (p a).2.2) (hP : ∀ a, a ≤ L → Pg t L a (p a)) (hD : D + 1 ≤ 24) : RsB g t L d B (fX12_every F A 206) (pJoin t L p 1011 1103) := by
  intro a u v ha
  have h2 := H.2.1
  obtain ⟨x, a1, f1, d1, e1, x01, q1, q2, q3⟩ := hA a u v ha
  have bl := rn_le (P := bk t) (L := L) a ha
  have P := hP _ bl
  generalize rn (bk t) L a = b at *
  unfold pJoin
  cases e2 : (p b).1
  · obtain ⟨r1, r2⟩ := q3 e2
    obtain ⟨F2, rfl⟩ : ∃ F2, F = F2 + 1 := ⟨F - 1, by omega⟩
    rw [if_neg (by decide)]
    refine ⟨x, a1, f1, d1, ?_, x01, by omega, (fun h => by cases h), fun _ => ⟨r1, r2⟩⟩
    simp (disch := omega) only [fX12_every, io_206, bdS, ck_t, ck_T, cb_0, cb_1, ab_jn, if_true, if_false, tf9, tf10, tf11, tf12, tf13, tf15, tf16, tf17, tf18, tA, tx_11, tx_12, tx_13, tx_17, tx_18, e1]
    rw [fX12_every_5]
    simp (disch := omega) only [bdS, fi_206_12, tf12, r2, if_false, cb_ok x01]
  · obtain ⟨r1, r2, r3, r4, r5⟩ := q2 e2
    obtain ⟨p1, p2, p3⟩ := P.1 e2
    obtain ⟨w1, w2⟩ := hW _ e2
    subst r1 r2
    rw [if_pos rfl]
    obtain ⟨x', a', f', d', e3, C0, C⟩ := rl_every5 H hb d1 hF u v hA hW hP hD (L + 1) F a1 (p b).2.2 r3 (by omega) (by omega) (w1.mono (by omega)) w2
    rw [r4] at C
    rw [← r5] at e3
    refine ⟨x', a', f', d', ?_, C0, C⟩
    simp (disch := omega) only [fX12_every, io_206, bdS, ck_t, ck_T, cb_0, cb_1, ab_jn, if_true, if_false, tf9, tf10, tf11, tf12, tf13, tf15, tf16, tf17, tf18, tA, tx_11, tx_12, tx_13, tx_17, tx_18, e1]
    exact e3
theorem rl_some5 {g : gG} {t : Nat → Nat} {L D B : Nat} (H : Ltx g t L) (hb : Bo g) (d : Int32) {F : Nat} (hF : 11000 < F) (u v : Int32) {A : Nat → ab_H → Option (Int32 × ab_H)} {p : Nat → Bool × Nat × List Nat} (hA : RsB g t L d B (fX12_every F A 206) p) (hW : ∀ a, (p a).1 = true → wfc D (p a).2.2 ∧ bln (p a).2.2) (hP : ∀ a, a ≤ L → Pg t L a (p a)) (hD : D + 1 ≤ 24) : ∀ k Fu a c, a ≤ L → L - rn (bk t) L a < k → k < Fu → wfc (D + 1) c → bln c → ∃ x a' f' d', fX12_some_5 F A 206 Fu (vl (envR g) c) (gH (tx g (nI a) (-1) d u v)) = some (x, gH (tx g (nI a') f' d' u v)) ∧ (x = nI 0 ∨ x = nI 1) ∧ Cn t L (envR g) d B (pJoinL t L p 1010 1104 k (rn (bk t) L a) c) x a' f' d' := by
  have h2 := H.2.1
  intro k
  induction k with
  | zero => intro Fu a c _ h; omega
  | succ k ih =>
    intro Fu a c ha hk hFu hc hcb
    obtain ⟨F', rfl⟩ : ∃ F', Fu = F' + 1 := ⟨Fu - 1, by omega⟩
    have sg := hw_34 H (-1) d u v (show a < 1000 by omega) hF
    have bl := rn_le (P := bk t) (L := L) a ha
    have nb := rn_rn (P := bk t) (L := L) a
    have v01 := hcb (envR g) (envR_b hb).1 (envR_b hb).2
    generalize rn (bk t) L a = b at *
    rw [pJoinL]
    by_cases c1 : kd t L b = 1010
    · have hl : b < L := kd_lt (t := t) (by omega)
      rw [if_pos c1]
      have nx := nx_en (t := t) hl
      have el := en_le (t := t) hl
      obtain ⟨x, a1, f1, d1, e1, x01, q1, q2, q3⟩ := hA (en t L b) u v el
      rw [nx] at q2 q3
      have P := hP _ (nxt_nrm (t := t) hl).2
      have gt := nxt_gt (t := t) hl
      have stp1 : fX12_some_5 F A 206 (F' + 1) (vl (envR g) c) (gH (tx g (nI a) (-1) d u v)) = fX12_some_5 F A 206 F' (jnd 1104 (vl (envR g) c) x) (gH (tx g (nI a1) f1 d1 u v)) := by
        have e := or_if (fun z => fX12_some_5 F A 206 F' z (gH (tx g (nI a1) f1 d1 u v))) v01 x01
        rw [fX12_some_5]
        simp (disch := omega) only [bdS, fi_206_12, tf12, io_206, ck_t, ck_T, if_true, sg, c1, decide_true, bI_0, reduceCtorEq, if_false, e1]
        exact e
      rw [stp1]
      cases e2 : (p (nxt t L b)).1
      · obtain ⟨r1, r2⟩ := q3 e2
        obtain ⟨F2, rfl⟩ : ∃ F2, F' = F2 + 1 := ⟨F' - 1, by omega⟩
        rw [if_neg (by decide)]
        have j01 := jnd_01 (j := 1104) (by omega) v01 x01
        refine ⟨jnd 1104 (vl (envR g) c) x, a1, f1, d1, ?_, j01, by omega, (fun h => by cases h), fun _ => ⟨r1, r2⟩⟩
        rw [fX12_some_5]
        simp (disch := omega) only [bdS, fi_206_12, tf12, r2, if_false, cb_ok j01]
      · obtain ⟨r1, r2, r3, r4, r5⟩ := q2 e2
        obtain ⟨p1, p2, p3⟩ := P.1 e2
        obtain ⟨w1, w2⟩ := hW _ e2
        subst r1 r2
        rw [if_pos rfl]
        have W := wf_join (D := D + 1) (j := 1104) hc w1 (by decide) (Nat.le_refl _) (Nat.le_refl _) hD
        obtain ⟨x', a', f', d', e3, C0, C⟩ := ih F' a1 (c ++ (p (nxt t L b)).2.2 ++ [1104]) r3 (by omega) (by omega) W.1 (fun env h1 h2 => by rw [W.2 env]; exact jnd_01 (by omega) (hcb env h1 h2) (w2 env h1 h2))
        rw [r4] at C
        refine ⟨x', a', f', d', ?_, C0, C⟩
        rw [W.2 (envR g), ← r5] at e3
        exact e3
    · rw [if_neg c1]
      refine ⟨vl (envR g) c, b, -1, d, ?_, v01, Cn.ok bl nb rfl⟩
      rw [fX12_some_5]
      simp (disch := omega) only [bdS, fi_206_12, tf12, io_206, ck_t, ck_T, if_true, sg, c1, decide_false, bI_0, if_false, cb_ok v01]
theorem rs_some {g : gG} {t : Nat → Nat} {L D B : Nat} (H : Ltx g t L) (hb : Bo g) (d : Int32) {F : Nat} (hF : 11000 < F) {A : Nat → ab_H → Option (Int32 × ab_H)} {p : Nat → Bool × Nat × List Nat} (hA : RsB g t L d B (fX12_every F A 206) p) (hW : ∀ a, (p a).1 = true → wfc D (p a).2.2 ∧ bln (p a).2.2) (hP : ∀ a, a ≤ L → Pg t L a (p a)) (hD : D + 1 ≤ 24) : RsB g t L d B (fX12_some F A 206) (pJoin t L p 1010 1104) := by
  intro a u v ha
  have h2 := H.2.1
  obtain ⟨x, a1, f1, d1, e1, x01, q1, q2, q3⟩ := hA a u v ha
  have bl := rn_le (P := bk t) (L := L) a ha
  have P := hP _ bl
  generalize rn (bk t) L a = b at *
  unfold pJoin
  cases e2 : (p b).1
  · obtain ⟨r1, r2⟩ := q3 e2
    obtain ⟨F2, rfl⟩ : ∃ F2, F = F2 + 1 := ⟨F - 1, by omega⟩
    rw [if_neg (by decide)]
    refine ⟨x, a1, f1, d1, ?_, x01, by omega, (fun h => by cases h), fun _ => ⟨r1, r2⟩⟩
    simp (disch := omega) only [fX12_some, io_206, bdS, ck_t, ck_T, cb_0, cb_1, ab_jn, if_true, if_false, tf9, tf10, tf11, tf12, tf13, tf15, tf16, tf17, tf18, tA, tx_11, tx_12, tx_13, tx_17, tx_18, e1]
    rw [fX12_some_5]
    simp (disch := omega) only [bdS, fi_206_12, tf12, r2, if_false, cb_ok x01]
  · obtain ⟨r1, r2, r3, r4, r5⟩ := q2 e2
    obtain ⟨p1, p2, p3⟩ := P.1 e2
    obtain ⟨w1, w2⟩ := hW _ e2
    subst r1 r2
    rw [if_pos rfl]
    obtain ⟨x', a', f', d', e3, C0, C⟩ := rl_some5 H hb d1 hF u v hA hW hP hD (L + 1) F a1 (p b).2.2 r3 (by omega) (by omega) (w1.mono (by omega)) w2
    rw [r4] at C
    rw [← r5] at e3
    refine ⟨x', a', f', d', ?_, C0, C⟩
    simp (disch := omega) only [fX12_some, io_206, bdS, ck_t, ck_T, cb_0, cb_1, ab_jn, if_true, if_false, tf9, tf10, tf11, tf12, tf13, tf15, tf16, tf17, tf18, tA, tx_11, tx_12, tx_13, tx_17, tx_18, e1]
    exact e3
/-! ===== atom ===== -/
theorem Cn.mono {t : Nat → Nat} {L : Nat} {env : Nat → Int32} {d : Int32} {B B' : Nat} {r : Bool × Nat × List Nat} {x : Int32} {a' : Nat} {f' d' : Int32} (h : Cn t L env d B r x a' f' d') (hB : B ≤ B') : Cn t L env d B' r x a' f' d' := by
  obtain ⟨h1, h2⟩ := h
  exact ⟨by omega, h2⟩
theorem not_if {α : Type} {x : Int32} (f : Int32 → α) (h : x = nI 0 ∨ x = nI 1) : (if x = 0 then f (nI 1) else f (nI 0)) = f (nI 1 - x) := by
  rcases h with rfl | rfl <;> rfl
theorem rs_plainB {g : gG} {t : Nat → Nat} {L : Nat} (H : Ltx g t L) (hb : Bo g) (d : Int32) {F : Nat} (hF : 11000 < F) (A : Nat → ab_H → Option (Int32 × ab_H)) {a : Nat} {u v : Int32} (ha : a ≤ L) (k0 : ¬ kd t L (rn (bk t) L a) = 1012) (k1 : ¬ kd t L (rn (bk t) L a) = 40) : ∃ x a' f' d', fX12_atomB F A 206 (gH (tx g (nI a) (-1) d u v)) = some (x, gH (tx g (nI a') f' d' u v)) ∧ (x = nI 0 ∨ x = nI 1) ∧ Cn t L (envR g) d 0 (pPlain t L (rn (bk t) L a)) x a' f' d' := by
  have h2 := H.2.1
  have pl := rf_place H (-1) d u v (show a < 1000 by omega) hF
  have bl := rn_le (P := bk t) (L := L) a ha
  have nb := rn_rn (P := bk t) (L := L) a
  generalize rn (bk t) L a = b at *
  have w24 := hw_24 H (-1) d u v (show b < 1000 by omega) hF
  have s40 := rf_isSign H (-1) d u v (show b < 1000 by omega) isG40 hF
  rw [nb] at w24 s40
  obtain ⟨x, a1, f1, d1, e1, x01, C⟩ := rs_plain H hb d hF b u v bl
  rw [nb] at C
  refine ⟨x, a1, f1, d1, ?_, x01, C⟩
  simp (disch := omega) only [fX12_atomB, io_206, fi_206_12, fi_206_13, fw_206_13, fi_206_11, fw_206_11, bdS, ck_t, ck_T, cb_0, cb_1, if_true, if_false, tf9, tf10, tf11, tf12, tf13, tf15, tf16, tf17, tf18, tA, tx_11, tx_12, tx_13, tx_17, tx_18, pl, w24, s40, k0, k1, decide_false, bI_0, e1, cb_ok x01, if_true, if_false]
  rfl
theorem rs_atom {g : gG} {t : Nat → Nat} {L : Nat} (H : Ltx g t L) (hb : Bo g) {F : Nat} (hF : 11000 < F) : ∀ e, e ≤ 6 → RsB g t L (nI (6 - e)) e (fX12_atom F (e + 1) 206) (pAtom t L e) := by
  have h2 := H.2.1
  intro e
  induction e with
  | zero =>
    intro _ a u v ha
    show ∃ x a' f' d', fX12_atomB F (fX12_atom F 0) 206 (gH (tx g (nI a) (-1) (nI (6 - 0)) u v)) = _ ∧ _ ∧ _
    rw [pAtom]
    by_cases k0 : kd t L (rn (bk t) L a) = 1012
    · have pl := rf_place H (-1) (nI (6 - 0)) u v (show a < 1000 by omega) hF
      have bl := rn_le (P := bk t) (L := L) a ha
      have nb := rn_rn (P := bk t) (L := L) a
      generalize rn (bk t) L a = b at *
      have w24 := hw_24 H (-1) (nI (6 - 0)) u v (show b < 1000 by omega) hF
      rw [nb] at w24
      have hl : b < L := kd_lt (t := t) (by omega)
      rw [if_pos (Or.inl k0)]
      refine ⟨nI 0, en t L b, nI b, nI (6 - 0), ?_, Or.inl rfl, Cn.no (by have := en_le (t := t) hl; omega) (by omega)⟩
      simp (disch := omega) only [fX12_atomB, io_206, fi_206_12, fi_206_13, fw_206_13, fi_206_11, fw_206_11, bdS, ck_t, ck_T, cb_0, cb_1, if_true, if_false, tf9, tf10, tf11, tf12, tf13, tf15, tf16, tf17, tf18, tA, tx_11, tx_12, tx_13, tx_17, tx_18, pl, w24, k0, decide_true, bI_0, reduceCtorEq, if_true, if_false]
      simp (disch := omega) only [ab_jn, fX12_atomB, fX12_wrong, io_206, fi_206_12, fi_206_13, fw_206_13, fi_206_11, fw_206_11, fw_206_12, bdS, ck_t, ck_T, cb_0, cb_1, if_true, if_false, tf9, tf10, tf11, tf12, tf13, tf15, tf16, tf17, tf18, tA, tx_11, tx_12, tx_13, tx_17, tx_18, Nat.sub_zero, if_true]
    · by_cases k1 : kd t L (rn (bk t) L a) = 40
      · have pl := rf_place H (-1) (nI (6 - 0)) u v (show a < 1000 by omega) hF
        have bl := rn_le (P := bk t) (L := L) a ha
        have nb := rn_rn (P := bk t) (L := L) a
        generalize rn (bk t) L a = b at *
        have w24 := hw_24 H (-1) (nI (6 - 0)) u v (show b < 1000 by omega) hF
        have s40 := rf_isSign H (-1) (nI (6 - 0)) u v (show b < 1000 by omega) isG40 hF
        rw [nb] at w24 s40
        rw [if_pos (Or.inr k1)]
        refine ⟨nI 0, b, nI b, nI (6 - 0), ?_, Or.inl rfl, Cn.no (by omega) (by omega)⟩
        simp (disch := omega) only [fX12_atomB, io_206, fi_206_12, fi_206_13, fw_206_13, fi_206_11, fw_206_11, bdS, ck_t, ck_T, cb_0, cb_1, if_true, if_false, tf9, tf10, tf11, tf12, tf13, tf15, tf16, tf17, tf18, tA, tx_11, tx_12, tx_13, tx_17, tx_18, pl, w24, s40, k0, k1, decide_true, decide_false, bI_0, reduceCtorEq, if_true, if_false, show ¬ (40 = 1012) by omega]
        simp (disch := omega) only [ab_jn, fX12_atomB, fX12_wrong, io_206, fi_206_12, fi_206_13, fw_206_13, fi_206_11, fw_206_11, fw_206_12, bdS, ck_t, ck_T, cb_0, cb_1, if_true, if_false, tf9, tf10, tf11, tf12, tf13, tf15, tf16, tf17, tf18, tA, tx_11, tx_12, tx_13, tx_17, tx_18, Nat.sub_zero, if_true]
      · rw [if_neg (fun h => h.elim k0 k1)]
        exact rs_plainB H hb (nI (6 - 0)) hF _ ha k0 k1
  | succ e ih =>
    intro he a u v ha
    have IH := ih (by omega)
    show ∃ x a' f' d', fX12_atomB F (fX12_atom F (e + 1)) 206 (gH (tx g (nI a) (-1) (nI (6 - (e + 1))) u v)) = _ ∧ _ ∧ _
    rw [pAtom]
    have n6 : ¬ (6 - (e + 1) = 6) := by omega
    have d1' : 6 - (e + 1) + 1 = 6 - e := by omega
    have dd : nI (6 - e) - nI 1 = nI (6 - (e + 1)) := by rw [pk_sub (by omega)]; congr 1
    by_cases k0 : kd t L (rn (bk t) L a) = 1012
    · have pl := rf_place H (-1) (nI (6 - (e + 1))) u v (show a < 1000 by omega) hF
      have bl := rn_le (P := bk t) (L := L) a ha
      have nb := rn_rn (P := bk t) (L := L) a
      generalize rn (bk t) L a = b at *
      have w24 := hw_24 H (-1) (nI (6 - (e + 1))) u v (show b < 1000 by omega) hF
      rw [nb] at w24
      have hl : b < L := kd_lt (t := t) (by omega)
      have el := en_le (t := t) hl
      rw [if_pos k0]
      obtain ⟨x, a1, f1, d1, e1, x01, q1, q2, q3⟩ := IH (en t L b) u v el
      rw [nx_en hl] at q2 q3
      have z01 := not_01 x x01
      have run : fX12_atomB F (fX12_atom F (e + 1)) 206 (gH (tx g (nI a) (-1) (nI (6 - (e + 1))) u v)) = some (nI 1 - x, gH (tx g (nI a1) f1 (d1 - nI 1) u v)) := by
        simp (disch := omega) only [fX12_atomB, io_206, fi_206_12, fi_206_13, fw_206_13, fi_206_11, fw_206_11, bdS, ck_t, ck_T, cb_0, cb_1, if_true, if_false, tf9, tf10, tf11, tf12, tf13, tf15, tf16, tf17, tf18, tA, tx_11, tx_12, tx_13, tx_17, tx_18, pl, w24, k0, decide_true, bI_0, reduceCtorEq, if_true, if_false]
        simp (disch := omega) only [ab_jn, fX12_atomB, io_206, fi_206_12, fi_206_13, fw_206_13, fi_206_11, fw_206_11, bdS, ck_t, ck_T, cb_0, cb_1, if_true, if_false, tf9, tf10, tf11, tf12, tf13, tf15, tf16, tf17, tf18, tA, tx_11, tx_12, tx_13, tx_17, tx_18, nI_eq, n6, nI_add, d1', e1, if_false]
        rcases x01 with rfl | rfl
        · rw [if_pos nI_0]; rfl
        · rw [if_neg (by decide)]; rfl
      rw [run]
      cases e2 : (pAtom t L e (nxt t L b)).1
      · obtain ⟨r1, r2⟩ := q3 e2
        rw [if_neg (by decide)]
        exact ⟨_, _, _, _, rfl, z01, by omega, (fun h => by cases h), fun _ => ⟨r1, r2⟩⟩
      · obtain ⟨r1, r2, r3, r4, r5⟩ := q2 e2
        subst r1 r2
        rw [if_pos rfl, dd]
        refine ⟨_, _, _, _, rfl, z01, Cn.ok r3 r4 ?_⟩
        obtain ⟨w1, w2⟩ := wf_atom e (by omega) _ e2
        rw [(wf_not w1 (by omega)).2, ← r5]
    · rw [if_neg k0]
      by_cases k1 : kd t L (rn (bk t) L a) = 40
      · have pl := rf_place H (-1) (nI (6 - (e + 1))) u v (show a < 1000 by omega) hF
        have bl := rn_le (P := bk t) (L := L) a ha
        have nb := rn_rn (P := bk t) (L := L) a
        generalize rn (bk t) L a = b at *
        have w24 := hw_24 H (-1) (nI (6 - (e + 1))) u v (show b < 1000 by omega) hF
        have s40 := rf_isSign H (-1) (nI (6 - (e + 1))) u v (show b < 1000 by omega) isG40 hF
        rw [nb] at w24 s40
        obtain ⟨hl, en1⟩ := en_sign isG40 k1
        have nx := nx_en (t := t) hl
        rw [en1] at nx
        rw [if_pos k1]
        have ev := rs_every H hb (nI (6 - e)) hF IH (wf_atom e (by omega)) (fun a h => pg_atom e a h) (by omega)
        have so := rs_some H hb (nI (6 - e)) hF ev (wf_join1 (wf_atom e (by omega)) (by omega) (Or.inl rfl)) (pg_join (fun a h => pg_atom e a h) (by decide)) (by omega)
        obtain ⟨x, a1, f1, d1, e1, x01, q1, q2, q3⟩ := so (b + 1) u v (by omega)
        rw [nx] at q2 q3
        have P := pg_some (t := t) (A := pAtom t L e) (fun a h => pg_atom e a h) _ (nxt_nrm (t := t) hl).2
        have es : pJoin t L (pJoin t L (pAtom t L e) 1011 1103) 1010 1104 (nxt t L b) = pSome t L (pAtom t L e) (nxt t L b) := rfl
        rw [es] at q2 q3
        cases e2 : (pSome t L (pAtom t L e) (nxt t L b)).1
        · obtain ⟨r1, r2⟩ := q3 e2
          rw [if_neg (by decide)]
          refine ⟨x, a1 + 1, f1, d1 - nI 1, ?_, x01, by omega, (fun h => by cases h), fun _ => ⟨r1, r2⟩⟩
          simp (disch := omega) only [fX12_atomB, io_206, fi_206_12, fi_206_13, fw_206_13, fi_206_11, fw_206_11, bdS, ck_t, ck_T, cb_0, cb_1, if_true, if_false, tf9, tf10, tf11, tf12, tf13, tf15, tf16, tf17, tf18, tA, tx_11, tx_12, tx_13, tx_17, tx_18, pl, w24, s40, k0, k1, decide_true, decide_false, bI_0, reduceCtorEq, if_true, if_false, show ¬ (40 = 1012) by omega]
          simp (disch := omega) only [ab_jn, fX12_atomB, io_206, fi_206_12, fi_206_13, fw_206_13, fi_206_11, fw_206_11, bdS, ck_t, ck_T, cb_0, cb_1, if_true, if_false, tf9, tf10, tf11, tf12, tf13, tf15, tf16, tf17, tf18, tA, tx_11, tx_12, tx_13, tx_17, tx_18, nI_eq, n6, nI_add, d1', e1, r2, cb_ok x01, if_true, if_false]
        · obtain ⟨r1, r2, r3, r4, r5⟩ := q2 e2
          obtain ⟨p1, p2, p3⟩ := P.1 e2
          subst r1 r2
          rw [if_pos rfl]
          have s41 := rf_isSign H (-1) (nI (6 - e)) u v (show a1 < 1000 by omega) isG41 hF
          rw [r4] at s41
          generalize (pSome t L (pAtom t L e) (nxt t L b)).2.1 = p at *
          have pl2 := p2.2
          by_cases c41 : kd t L p = 41
          · obtain ⟨hl2, en2⟩ := en_sign isG41 c41
            have nx2 := nx_en (t := t) hl2
            rw [en2] at nx2
            rw [if_pos c41]
            refine ⟨x, p + 1, -1, nI (6 - (e + 1)), ?_, x01, Cn.ok (by omega) nx2 r5⟩
            simp (disch := omega) only [fX12_atomB, io_206, fi_206_12, fi_206_13, fw_206_13, fi_206_11, fw_206_11, bdS, ck_t, ck_T, cb_0, cb_1, if_true, if_false, tf9, tf10, tf11, tf12, tf13, tf15, tf16, tf17, tf18, tA, tx_11, tx_12, tx_13, tx_17, tx_18, pl, w24, s40, k0, k1, decide_true, decide_false, bI_0, reduceCtorEq, if_true, if_false, show ¬ (40 = 1012) by omega]
            simp (disch := omega) only [ab_jn, fX12_atomB, io_206, fi_206_12, fi_206_13, fw_206_13, fi_206_11, fw_206_11, bdS, ck_t, ck_T, cb_0, cb_1, if_true, if_false, tf9, tf10, tf11, tf12, tf13, tf15, tf16, tf17, tf18, tA, tx_11, tx_12, tx_13, tx_17, tx_18, nI_eq, n6, nI_add, d1', e1, s41, c41, decide_true, bI_0, reduceCtorEq, dd, cb_ok x01, if_true, if_false]
          · rw [if_neg c41]
            refine ⟨x, p + 1, nI p, nI (6 - (e + 1)), ?_, x01, Cn.no (by omega) (by omega)⟩
            simp (disch := omega) only [fX12_atomB, io_206, fi_206_12, fi_206_13, fw_206_13, fi_206_11, fw_206_11, bdS, ck_t, ck_T, cb_0, cb_1, if_true, if_false, tf9, tf10, tf11, tf12, tf13, tf15, tf16, tf17, tf18, tA, tx_11, tx_12, tx_13, tx_17, tx_18, pl, w24, s40, k0, k1, decide_true, decide_false, bI_0, reduceCtorEq, if_true, if_false, show ¬ (40 = 1012) by omega]
            simp (disch := omega) only [ab_jn, fX12_atomB, fX12_wrong, io_206, fi_206_12, fi_206_13, fw_206_13, fi_206_11, fw_206_11, fw_206_12, bdS, ck_t, ck_T, cb_0, cb_1, if_true, if_false, tf9, tf10, tf11, tf12, tf13, tf15, tf16, tf17, tf18, tA, tx_11, tx_12, tx_13, tx_17, tx_18, nI_eq, n6, nI_add, d1', e1, s41, c41, decide_false, bI_0, dd, cb_ok x01, if_true, if_false]
      · rw [if_neg k1]
        obtain ⟨x, a', f', d', h1, h3, h4⟩ := rs_plainB H hb (nI (6 - (e + 1))) hF (fX12_atom F (e + 1)) (u := u) (v := v) ha k0 k1
        exact ⟨x, a', f', d', h1, h3, h4.mono (by omega)⟩
