variable {Nq : Nat}
/-! ===== sum ===== -/
theorem isG43 : isG 43 := by unfold isG; omega
theorem isG60 : isG 60 := by unfold isG; omega
theorem isG62 : isG 62 := by unfold isG; omega
theorem isG40 : isG 40 := by unfold isG; omega
theorem isG41 : isG 41 := by unfold isG; omega
theorem isG59 : isG 59 := by unfold isG; omega
theorem jnd_p (a b : Int32) : jnd 1100 a b = a + b := rfl
theorem rl_sum5 {g : gG} {t : Nat → Nat} {L : Nat} (H : Ltx g t L) (d : Int32) {F : Nat} (hF : 11000 < F) (u v : Int32) : ∀ k Fu a c, a ≤ L → L - rn (bk t) L a < k → k < Fu → wfc 2 c → ∃ x a' f' d', fX12_sum_5 F 206 Fu (vl (envR g) c) (gH (tx g (nI a) (-1) d u v)) = some (x, gH (tx g (nI a') f' d' u v)) ∧ Cn t L (envR g) d 0 (pSumL t L k (rn (bk t) L a) c) x a' f' d' := by
  have h2 := H.2.1
  intro k
  induction k with
  | zero => intro Fu a c _ h; omega
  | succ k ih =>
    intro Fu a c ha hk hFu hc
    obtain ⟨F', rfl⟩ : ∃ F', Fu = F' + 1 := ⟨Fu - 1, by omega⟩
    have sg := rf_isSign H (-1) d u v (show a < 1000 by omega) isG43 hF
    have bl := rn_le (P := bk t) (L := L) a ha
    have nb := rn_rn (P := bk t) (L := L) a
    generalize rn (bk t) L a = b at *
    rw [pSumL]
    by_cases c1 : kd t L b = 43
    · obtain ⟨hl, en1⟩ := en_sign isG43 c1
      rw [if_pos c1]
      have nx := nx_en (t := t) hl
      rw [en1] at nx
      obtain ⟨x, a1, f1, d1, e1, q1, q2, q3⟩ := rs_part H d hF (b + 1) u v (by omega)
      rw [nx] at q2 q3
      have P := pg_part (t := t) (nxt_nrm (t := t) hl).2
      have gt := nxt_gt (t := t) hl
      cases e2 : (pPart t L (nxt t L b)).1
      · obtain ⟨r1, r2⟩ := q3 e2
        obtain ⟨F2, rfl⟩ : ∃ F2, F' = F2 + 1 := ⟨F' - 1, by omega⟩
        rw [if_neg (by decide)]
        refine ⟨vl (envR g) c + x, a1, f1, d1, ?_, by omega, (fun h => by cases h), fun _ => ⟨r1, r2⟩⟩
        simp (disch := omega) only [fX12_sum_5, io_206, fi_206_12, fi_206_11, fw_206_11, bdS, ck_t, ck_T, cb_0, cb_1, ab_jn, if_true, if_false, tf9, tf10, tf11, tf12, tf13, tf15, tf16, tf17, tf18, tA, tx_11, tx_12, tx_13, tx_17, tx_18, sg, c1, decide_true, bI_0, nI_add, e1, r2, if_true, if_false, reduceCtorEq]
      · obtain ⟨r1, r2, r3, r4, r5⟩ := q2 e2
        obtain ⟨p1, p2, p3⟩ := P.1 e2
        subst r1 r2
        rw [if_pos rfl]
        have W := wf_join (D := 2) (j := 1100) hc (wf_part e2) (by decide) (by decide) (by decide) (by decide)
        obtain ⟨x', a', f', d', e3, C⟩ := ih F' a1 (c ++ (pPart t L (nxt t L b)).2.2 ++ [1100]) r3 (by omega) (by omega) W.1
        rw [r4] at C
        refine ⟨x', a', f', d', ?_, C⟩
        rw [W.2 (envR g), jnd_p, ← r5] at e3
        simp (disch := omega) only [fX12_sum_5, io_206, fi_206_12, fi_206_11, fw_206_11, bdS, ck_t, ck_T, cb_0, cb_1, ab_jn, if_true, if_false, tf9, tf10, tf11, tf12, tf13, tf15, tf16, tf17, tf18, tA, tx_11, tx_12, tx_13, tx_17, tx_18, sg, c1, decide_true, bI_0, nI_add, e1, if_true, if_false, reduceCtorEq]
        exact e3
    · rw [if_neg c1]
      refine ⟨vl (envR g) c, b, -1, d, ?_, Cn.ok bl nb rfl⟩
      simp (disch := omega) only [fX12_sum_5, io_206, fi_206_12, fi_206_11, fw_206_11, bdS, ck_t, ck_T, cb_0, cb_1, ab_jn, if_true, if_false, tf9, tf10, tf11, tf12, tf13, tf15, tf16, tf17, tf18, tA, tx_11, tx_12, tx_13, tx_17, tx_18, sg, c1, decide_false, bI_0, if_true, if_false, reduceCtorEq]
theorem rs_sum {g : gG} {t : Nat → Nat} {L : Nat} (H : Ltx g t L) (d : Int32) {F : Nat} (hF : 11000 < F) : Rs g t L d 0 (fX12_sum F 206) (pSum t L) := by
  intro a u v ha
  have h2 := H.2.1
  obtain ⟨x, a1, f1, d1, e1, q1, q2, q3⟩ := rs_part H d hF a u v ha
  have bl := rn_le (P := bk t) (L := L) a ha
  have P := pg_part (t := t) bl
  generalize rn (bk t) L a = b at *
  unfold pSum
  cases e2 : (pPart t L b).1
  · obtain ⟨r1, r2⟩ := q3 e2
    obtain ⟨F2, rfl⟩ : ∃ F2, F = F2 + 1 := ⟨F - 1, by omega⟩
    rw [if_neg (by decide)]
    refine ⟨x, a1, f1, d1, ?_, by omega, (fun h => by cases h), fun _ => ⟨r1, r2⟩⟩
    simp (disch := omega) only [fX12_sum, io_206, bdS, ck_t, ck_T, cb_0, cb_1, ab_jn, if_true, if_false, tf9, tf10, tf11, tf12, tf13, tf15, tf16, tf17, tf18, tA, tx_11, tx_12, tx_13, tx_17, tx_18, e1]
    simp (disch := omega) only [fX12_sum_5, io_206, fi_206_12, fi_206_11, fw_206_11, bdS, ck_t, ck_T, cb_0, cb_1, ab_jn, if_true, if_false, tf9, tf10, tf11, tf12, tf13, tf15, tf16, tf17, tf18, tA, tx_11, tx_12, tx_13, tx_17, tx_18, r2, if_false]
  · obtain ⟨r1, r2, r3, r4, r5⟩ := q2 e2
    obtain ⟨p1, p2, p3⟩ := P.1 e2
    subst r1 r2
    rw [if_pos rfl]
    obtain ⟨x', a', f', d', e3, C⟩ := rl_sum5 H d1 hF u v (L + 1) F a1 (pPart t L b).2.2 r3 (by omega) (by omega) ((wf_part e2).mono (by decide))
    rw [r4] at C
    rw [← r5] at e3
    refine ⟨x', a', f', d', ?_, C⟩
    simp (disch := omega) only [fX12_sum, io_206, bdS, ck_t, ck_T, cb_0, cb_1, ab_jn, if_true, if_false, tf9, tf10, tf11, tf12, tf13, tf15, tf16, tf17, tf18, tA, tx_11, tx_12, tx_13, tx_17, tx_18, e1]
    exact e3
/-! ===== plain ===== -/
def RsB (g : gG) (t : Nat → Nat) (L : Nat) (d : Int32) (B : Nat) (X : ab_H → Option (Int32 × ab_H)) (p : Nat → Bool × Nat × List Nat) : Prop := ∀ a u v, a ≤ L → ∃ x a' f' d', X (gH (tx g (nI a) (-1) d u v)) = some (x, gH (tx g (nI a') f' d' u v)) ∧ (x = nI 0 ∨ x = nI 1) ∧ Cn t L (envR g) d B (p (rn (bk t) L a)) x a' f' d'
theorem cb_ok {ρ : Type} {x : Int32} {t : Option ρ} (h : x = nI 0 ∨ x = nI 1) : ab_cb x t = t := by unfold ab_cb; rw [if_pos h]
theorem cmp_01 (c : Prop) [Decidable c] : (if c then nI 1 else nI 0 : Int32) = nI 0 ∨ (if c then nI 1 else nI 0 : Int32) = nI 1 := by
  by_cases h : c
  · rw [if_pos h]; exact Or.inr rfl
  · rw [if_neg h]; exact Or.inl rfl
theorem rs_plain {g : gG} {t : Nat → Nat} {L : Nat} (H : Ltx g t L) (hb : Bo g) (d : Int32) {F : Nat} (hF : 11000 < F) : RsB g t L d 0 (fX12_plain F 206) (pPlain t L) := by
  intro a u v ha
  have h2 := H.2.1
  have bl := rn_le (P := bk t) (L := L) a ha
  have nb := rn_rn (P := bk t) (L := L) a
  have w25 := hw_25 H (-1) d u v (show a < 1000 by omega) hF
  generalize rn (bk t) L a = b at *
  have w26 := hw_26 H (-1) d u v (show b < 1000 by omega) hF
  rw [nb] at w26
  have unw : pPlain t L b = pPlain t L b := rfl
  unfold pPlain
  by_cases k0 : kd t L b = 1013
  · have hl : b < L := kd_lt (t := t) (by omega)
    rw [if_pos (Or.inl k0)]
    refine ⟨gF g 206 15, en t L b, -1, d, ?_, hb.1, Cn.ok (en_le hl) (nx_en hl) ?_⟩
    · simp (disch := omega) only [fX12_plain, io_206, fi_206_12, fi_206_11, fw_206_11, fi_206_16, fi_206_15, bdS, ck_t, ck_T, cb_0, cb_1, if_true, if_false, tf9, tf10, tf11, tf12, tf13, tf15, tf16, tf17, tf18, tA, tx_11, tx_12, tx_13, tx_17, tx_18, w25, k0, decide_true, bI_0, cb_ok hb.1, if_true, if_false, reduceCtorEq]
    · rw [(wf_one (w := kd t L b) (by omega)).2, if_neg (by omega), k0]; rfl
  by_cases k1 : kd t L b = 1002
  · have hl : b < L := kd_lt (t := t) (by omega)
    rw [if_pos (Or.inr k1)]
    refine ⟨gF g 206 16, en t L b, -1, d, ?_, hb.2, Cn.ok (en_le hl) (nx_en hl) ?_⟩
    · simp (disch := omega) only [fX12_plain, io_206, fi_206_12, fi_206_11, fw_206_11, fi_206_16, fi_206_15, bdS, ck_t, ck_T, cb_0, cb_1, if_true, if_false, tf9, tf10, tf11, tf12, tf13, tf15, tf16, tf17, tf18, tA, tx_11, tx_12, tx_13, tx_17, tx_18, w25, w26, k0, k1, decide_true, decide_false, bI_0, cb_ok hb.2, if_true, if_false, reduceCtorEq, show ¬ (1002 = 1013) by omega]
    · rw [(wf_one (w := kd t L b) (by omega)).2, if_neg (by omega), k1]; rfl
  rw [if_neg (fun h => h.elim k0 k1)]
  obtain ⟨x, a1, f1, d1, e1, q1, q2, q3⟩ := rs_sum H d hF b u v bl
  rw [nb] at q2 q3
  have P := pg_sum (t := t) bl
  cases e2 : (pSum t L b).1
  · obtain ⟨r1, r2⟩ := q3 e2
    rw [if_neg (by decide)]
    refine ⟨nI 0, a1, f1, d1, ?_, Or.inl rfl, by omega, (fun h => by cases h), fun _ => ⟨r1, r2⟩⟩
    simp (disch := omega) only [fX12_plain, io_206, fi_206_12, fi_206_11, fw_206_11, fi_206_16, fi_206_15, bdS, ck_t, ck_T, cb_0, cb_1, if_true, if_false, tf9, tf10, tf11, tf12, tf13, tf15, tf16, tf17, tf18, tA, tx_11, tx_12, tx_13, tx_17, tx_18, w25, w26, k0, k1, decide_false, bI_0, e1, r2, if_true, if_false, reduceCtorEq]
  · obtain ⟨r1, r2, r3, r4, r5⟩ := q2 e2
    obtain ⟨p1, p2, p3⟩ := P.1 e2
    subst r1 r2
    rw [if_pos rfl]
    have s60 := rf_isSign H (-1) d1 u v (show a1 < 1000 by omega) isG60 hF
    rw [r4] at s60
    have wf1 := wf_sum e2
    generalize (pSum t L b).2.1 = p at *
    generalize (pSum t L b).2.2 = cs at *
    have pl := p2.2
    have s62 := rf_isSign H (-1) d1 u v (show p < 1000 by omega) isG62 hF
    rw [p2.1] at s62
    have go : ∀ (hk : isG (kd t L p)) {z : Prop} [Decidable z], True := fun _ _ _ => trivial
    by_cases c60 : kd t L p = 60
    · obtain ⟨hl, en1⟩ := en_sign isG60 c60
      have nx := nx_en (t := t) hl
      rw [en1] at nx
      rw [if_pos (Or.inl c60), if_pos c60]
      obtain ⟨y, a2, f2, d2, e3, t1, t2, t3⟩ := rs_sum H d1 hF (p + 1) u v (by omega)
      rw [nx] at t2 t3
      cases e4 : (pSum t L (nxt t L p)).1
      · obtain ⟨r1, r2⟩ := t3 e4
        rw [if_neg (by decide)]
        refine ⟨if x < y then nI 1 else nI 0, a2, f2, d2, ?_, cmp_01 _, by omega, (fun h => by cases h), fun _ => ⟨r1, r2⟩⟩
        simp (disch := omega) only [fX12_plain, io_206, fi_206_12, fi_206_11, fw_206_11, fi_206_16, fi_206_15, bdS, ck_t, ck_T, cb_0, cb_1, if_true, if_false, tf9, tf10, tf11, tf12, tf13, tf15, tf16, tf17, tf18, tA, tx_11, tx_12, tx_13, tx_17, tx_18, w25, w26, k0, k1, decide_true, decide_false, bI_0, e1, s60, c60, if_true, if_false, reduceCtorEq]
        simp (disch := omega) only [ab_jn, fX12_plain, io_206, fi_206_12, fi_206_11, fw_206_11, fi_206_16, fi_206_15, bdS, ck_t, ck_T, cb_0, cb_1, if_true, if_false, tf9, tf10, tf11, tf12, tf13, tf15, tf16, tf17, tf18, tA, tx_11, tx_12, tx_13, tx_17, tx_18, nI_add, e3]
        by_cases cc : x < y
        · rw [if_pos cc, if_pos cc]
        · rw [if_neg cc, if_neg cc]
      · obtain ⟨v1, v2, v3, v4, v5⟩ := t2 e4
        subst v1 v2
        rw [if_pos rfl]
        have W := wf_join (D := 3) (j := 1101) wf1 (wf_sum e4) (by decide) (by decide) (by decide) (by decide)
        refine ⟨if x < y then nI 1 else nI 0, a2, -1, d2, ?_, cmp_01 _, Cn.ok v3 v4 ?_⟩
        · simp (disch := omega) only [fX12_plain, io_206, fi_206_12, fi_206_11, fw_206_11, fi_206_16, fi_206_15, bdS, ck_t, ck_T, cb_0, cb_1, if_true, if_false, tf9, tf10, tf11, tf12, tf13, tf15, tf16, tf17, tf18, tA, tx_11, tx_12, tx_13, tx_17, tx_18, w25, w26, k0, k1, decide_true, decide_false, bI_0, e1, s60, c60, if_true, if_false, reduceCtorEq]
          simp (disch := omega) only [ab_jn, fX12_plain, io_206, fi_206_12, fi_206_11, fw_206_11, fi_206_16, fi_206_15, bdS, ck_t, ck_T, cb_0, cb_1, if_true, if_false, tf9, tf10, tf11, tf12, tf13, tf15, tf16, tf17, tf18, tA, tx_11, tx_12, tx_13, tx_17, tx_18, nI_add, e3]
          by_cases cc : x < y
          · rw [if_pos cc, if_pos cc]
          · rw [if_neg cc, if_neg cc]
        · rw [W.2, ← r5, ← v5]; rfl
    by_cases c62 : kd t L p = 62
    · obtain ⟨hl, en1⟩ := en_sign isG62 c62
      have nx := nx_en (t := t) hl
      rw [en1] at nx
      rw [if_pos (Or.inr c62), if_neg c60]
      obtain ⟨y, a2, f2, d2, e3, t1, t2, t3⟩ := rs_sum H d1 hF (p + 1) u v (by omega)
      rw [nx] at t2 t3
      have vv : (if x ≤ y then (some (nI 0, gH (tx g (nI a2) f2 d2 u v)) : Option (Int32 × ab_H)) else some (nI 1, gH (tx g (nI a2) f2 d2 u v))) = some (if y < x then nI 1 else nI 0, gH (tx g (nI a2) f2 d2 u v)) := by
        by_cases cc : x ≤ y
        · rw [if_pos cc, if_neg (Int32.not_lt.mpr cc)]
        · rw [if_neg cc, if_pos (Int32.not_le.mp cc)]
      cases e4 : (pSum t L (nxt t L p)).1
      · obtain ⟨r1, r2⟩ := t3 e4
        rw [if_neg (by decide)]
        refine ⟨if y < x then nI 1 else nI 0, a2, f2, d2, ?_, cmp_01 _, by omega, (fun h => by cases h), fun _ => ⟨r1, r2⟩⟩
        simp (disch := omega) only [fX12_plain, io_206, fi_206_12, fi_206_11, fw_206_11, fi_206_16, fi_206_15, bdS, ck_t, ck_T, cb_0, cb_1, if_true, if_false, tf9, tf10, tf11, tf12, tf13, tf15, tf16, tf17, tf18, tA, tx_11, tx_12, tx_13, tx_17, tx_18, w25, w26, k0, k1, decide_true, decide_false, bI_0, e1, s60, s62, c60, c62, if_true, if_false, reduceCtorEq, show ¬ (62 = 60) by omega]
        simp (disch := omega) only [ab_jn, fX12_plain, io_206, fi_206_12, fi_206_11, fw_206_11, fi_206_16, fi_206_15, bdS, ck_t, ck_T, cb_0, cb_1, if_true, if_false, tf9, tf10, tf11, tf12, tf13, tf15, tf16, tf17, tf18, tA, tx_11, tx_12, tx_13, tx_17, tx_18, nI_add, e3]
        exact vv
      · obtain ⟨v1, v2, v3, v4, v5⟩ := t2 e4
        subst v1 v2
        rw [if_pos rfl]
        have W := wf_join (D := 3) (j := 1102) wf1 (wf_sum e4) (by decide) (by decide) (by decide) (by decide)
        refine ⟨if y < x then nI 1 else nI 0, a2, -1, d2, ?_, cmp_01 _, Cn.ok v3 v4 ?_⟩
        · simp (disch := omega) only [fX12_plain, io_206, fi_206_12, fi_206_11, fw_206_11, fi_206_16, fi_206_15, bdS, ck_t, ck_T, cb_0, cb_1, if_true, if_false, tf9, tf10, tf11, tf12, tf13, tf15, tf16, tf17, tf18, tA, tx_11, tx_12, tx_13, tx_17, tx_18, w25, w26, k0, k1, decide_true, decide_false, bI_0, e1, s60, s62, c60, c62, if_true, if_false, reduceCtorEq, show ¬ (62 = 60) by omega]
          simp (disch := omega) only [ab_jn, fX12_plain, io_206, fi_206_12, fi_206_11, fw_206_11, fi_206_16, fi_206_15, bdS, ck_t, ck_T, cb_0, cb_1, if_true, if_false, tf9, tf10, tf11, tf12, tf13, tf15, tf16, tf17, tf18, tA, tx_11, tx_12, tx_13, tx_17, tx_18, nI_add, e3]
          exact vv
        · rw [W.2, ← r5, ← v5]; rfl
    · rw [if_neg (fun h => h.elim c60 c62)]
      refine ⟨nI 0, p, nI p, d1, ?_, Or.inl rfl, Cn.no (by omega) (by omega)⟩
      simp (disch := omega) only [fX12_plain, fX12_wrong, io_206, fi_206_12, fi_206_11, fw_206_11, fi_206_16, fi_206_15, fw_206_12, bdS, ck_t, ck_T, cb_0, cb_1, if_true, if_false, tf9, tf10, tf11, tf12, tf13, tf15, tf16, tf17, tf18, tA, tx_11, tx_12, tx_13, tx_17, tx_18, w25, w26, k0, k1, decide_true, decide_false, bI_0, e1, s60, s62, c60, c62, if_true, if_false, reduceCtorEq]
      rfl
