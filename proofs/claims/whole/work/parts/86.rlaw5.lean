variable {Nq : Nat}
/-! ===== a text of THE LAW, read by the reference ===== -/
theorem flg_flg (b c : Bool) (u : Int32) : flg c (flg b u) = flg (b || c) u := by cases b <;> cases c <;> rfl
theorem kd_end {t : Nat → Nat} {L p : Nat} (hbt : ∀ i, i < L → t i < 256) (h : p ≤ L) : kd t L p = 4000 ↔ p = L := by
  constructor
  · intro e
    apply Decidable.byContradiction
    intro k
    have hl : p < L := by omega
    unfold kd at e
    rw [if_pos hl] at e
    split at e
    · rcases fwd_lo (t := t) (L := L) (a := p) (ws := wW) (k := 1000) with h1 | h1
      · omega
      · have : wW.length = 20 := by decide
        omega
    · split at e
      · omega
      · have := hbt p hl; omega
  · intro e
    unfold kd
    rw [if_neg (by omega)]
theorem rd_0 {F : Nat} {x1 x3 : Int32} {h : ab_H} {F' : Nat} : fX12_read_23 F 206 x1 (F' + 1) (nI 0) x3 h = some (x3, h) := by
  rw [fX12_read_23, if_pos nI_0]
theorem rl_readL {g : gG} {t : Nat → Nat} {L : Nat} (H : Ltx g t L) (hb : Bo g) {F : Nat} (hF : 11000 < F) (u0 v0 : Int32) : ∀ k n Fu a C, k + n = 12 → k + 2 < Fu → a ≤ L → lnC C → ∃ n' a' f' d' u' v', fX12_read_23 F 206 (nI 1) Fu (nI 1) (nI n) (gH (tx g (nI a) (-1) (nI 0) (flg (hit (envR g) 1007 C []) u0) (flg (hit (envR g) 1008 C []) v0))) = some (n', gH (tx g a' f' d' u' v')) ∧ ((pLines t L k (rn (bk t) L a) n C).1 = true → f' = -1 ∧ n' = nI (pLines t L k (rn (bk t) L a) n C).2.2.1 ∧ u' = flg (hit (envR g) 1007 (pLines t L k (rn (bk t) L a) n C).2.2.2 []) u0 ∧ v' = flg (hit (envR g) 1008 (pLines t L k (rn (bk t) L a) n C).2.2.2 []) v0) ∧ ((pLines t L k (rn (bk t) L a) n C).1 = false → f' = nI (pLines t L k (rn (bk t) L a) n C).2.1 ∧ ¬ f' = -1) := by
  have h1 := H.1
  have h2 := H.2.1
  have hbt := H.2.2.1
  have i1 : ¬ (nI 1 : Int32) = 0 := by decide
  intro k
  induction k with
  | zero =>
    intro n Fu a C hk hFu ha hC
    have e : n = 12 := by omega
    subst e
    obtain ⟨F', rfl⟩ : ∃ F', Fu = F' + 2 := ⟨Fu - 2, by omega⟩
    obtain ⟨U, eU⟩ : ∃ U, flg (hit (envR g) 1007 C []) u0 = U := ⟨_, rfl⟩
    obtain ⟨V, eV⟩ : ∃ V, flg (hit (envR g) 1008 C []) v0 = V := ⟨_, rfl⟩
    rw [eU, eV]
    have s := rf_skip H (-1) (nI 0) U V (show a < 1000 by omega) hF
    have bl := rn_le (P := bk t) (L := L) a ha
    have nb := rn_rn (P := bk t) (L := L) a
    generalize rn (bk t) L a = b at *
    have s2 := rf_skip H (nI b) (nI 0) U V (show b < 1000 by omega) hF
    rw [nb] at s2
    have nm : ¬ nI b = -1 := fun h => (m1_ne (by omega)).mp h
    refine ⟨nI 13, nI b, nI b, nI 0, U, V, ?_, (fun h => by cases h), fun _ => ⟨rfl, nm⟩⟩
    rw [fX12_read_23, if_neg i1]
    simp (disch := omega) only [bdS, fi_206_12, tf12, io_206, ck_t, ck_T, s, if_true]
    rw [jn_e]
    simp (disch := omega) only [i1, if_true, bdS, fi_206_11, tf11, io_206, ck_t, ck_T, fX12_wrong, fi_206_12, tf12, fw_206_12, tx_12, jn_e, s2, nm, if_false, rd_0, nI_add]
  | succ k ih =>
    intro n Fu a C hk hFu ha hC
    obtain ⟨F', rfl⟩ : ∃ F', Fu = F' + 2 := ⟨Fu - 2, by omega⟩
    obtain ⟨U, eU⟩ : ∃ U, flg (hit (envR g) 1007 C []) u0 = U := ⟨_, rfl⟩
    obtain ⟨V, eV⟩ : ∃ V, flg (hit (envR g) 1008 C []) v0 = V := ⟨_, rfl⟩
    rw [eU, eV]
    have s := rf_skip H (-1) (nI 0) U V (show a < 1000 by omega) hF
    have bl := rn_le (P := bk t) (L := L) a ha
    have nb := rn_rn (P := bk t) (L := L) a
    generalize rn (bk t) L a = b at *
    obtain ⟨a1, f1, d1, u1, v1, e1, q1, q2, q3⟩ := rs_line H hb hF bl U V
    rw [nb] at q2 q3
    have P := pg_line (t := t) hbt bl
    have nn : ¬ (n = 12) := by omega
    have s1 := rf_skip H f1 d1 u1 v1 (show a1 < 1000 by omega) hF
    rw [pLines]
    cases e2 : (pLine t L b).1
    · obtain ⟨r1, r2⟩ := q3 e2
      simp only [Bool.false_eq_true, if_false]
      refine ⟨nI (n + 1), nI (rn (bk t) L a1), f1, d1, u1, v1, ?_, (fun h => by cases h), fun _ => ⟨r1, r2⟩⟩
      rw [fX12_read_23, if_neg i1]
      simp (disch := omega) only [bdS, fi_206_12, tf12, io_206, ck_t, ck_T, s, if_true]
      rw [jn_e]
      simp (disch := omega) only [nI_eq, nn, if_false, i1, bdS, io_206, ck_t, ck_T, e1, jn_e, s1, fi_206_12, tf12, r2, rd_0, nI_add]
    · obtain ⟨r1, r2, r3, r4, r5, r6⟩ := q2 e2
      obtain ⟨p1, p2, p3⟩ := P.1 e2
      subst r1 r2
      rw [r4] at s1
      rw [if_pos rfl]
      have hC2 := lnC_line hC e2
      have u1e : u1 = flg (hit (envR g) 1007 (C ++ (pLine t L b).2.2) []) u0 := by rw [r5, ← eU, flg_flg, hC]
      have v1e : v1 = flg (hit (envR g) 1008 (C ++ (pLine t L b).2.2) []) v0 := by rw [r6, ← eV, flg_flg, hC]
      generalize (pLine t L b).2.2 = cl at *
      generalize (pLine t L b).2.1 = p at *
      have pl := p2.2
      by_cases c1 : kd t L p = 4000
      · have pe := (kd_end hbt pl).mp c1
        rw [if_pos c1]
        refine ⟨nI (n + 1), nI p, -1, nI 0, u1, v1, ?_, fun _ => ⟨rfl, rfl, u1e, v1e⟩, fun h => by cases h⟩
        rw [fX12_read_23, if_neg i1]
        simp (disch := omega) only [bdS, fi_206_12, tf12, io_206, ck_t, ck_T, s, if_true]
        rw [jn_e]
        simp (disch := omega) only [nI_eq, nn, if_false, i1, bdS, io_206, ck_t, ck_T, e1, jn_e, s1, fi_206_12, fi_206_11, fi_206_10, tf12, tf11, tf10, h1, pe, if_true, rd_0, nI_add]
      · rw [if_neg c1]
        have pn : ¬ p = L := fun h => c1 ((kd_end hbt pl).mpr h)
        have s59 := rf_isSign H (-1) (nI 0) u1 v1 (show p < 1000 by omega) isG59 hF
        rw [p2.1] at s59
        by_cases c2 : kd t L p = 59
        · obtain ⟨hl, en1⟩ := en_sign isG59 c2
          have nx := nx_en (t := t) hl
          rw [en1] at nx
          rw [if_pos c2]
          obtain ⟨n', a', f', d', u', v', e3, C1, C3⟩ := ih (n + 1) (F' + 1) (p + 1) (C ++ cl) (by omega) (by omega) (by omega) hC2
          rw [nx] at C1 C3
          rw [← u1e, ← v1e] at e3
          refine ⟨n', a', f', d', u', v', ?_, C1, C3⟩
          rw [fX12_read_23, if_neg i1]
          simp (disch := omega) only [bdS, fi_206_12, tf12, io_206, ck_t, ck_T, s, if_true]
          rw [jn_e]
          simp (disch := omega) only [nI_eq, nn, if_false, i1, bdS, io_206, ck_t, ck_T, e1, jn_e, s1, fi_206_12, fi_206_11, fi_206_10, fw_206_11, tf12, tf11, tf10, tx_11, h1, pn, s59, c2, decide_true, bI_0, reduceCtorEq, if_true, nI_add]
          exact e3
        · rw [if_neg c2]
          have nm : ¬ nI p = -1 := fun h => (m1_ne (by omega)).mp h
          refine ⟨nI (n + 1), nI p, nI p, nI 0, u1, v1, ?_, (fun h => by cases h), fun _ => ⟨rfl, nm⟩⟩
          rw [fX12_read_23, if_neg i1]
          simp (disch := omega) only [bdS, fi_206_12, tf12, io_206, ck_t, ck_T, s, if_true]
          rw [jn_e]
          simp (disch := omega) only [nI_eq, nn, if_false, i1, bdS, io_206, ck_t, ck_T, e1, jn_e, s1, fi_206_12, fi_206_11, fi_206_10, fw_206_12, fX12_wrong, tf12, tf11, tf10, tx_12, h1, pn, s59, c2, decide_false, bI_0, if_true, nI_add]
          rw [fX12_read_23, if_neg i1]
          simp (disch := omega) only [bdS, fi_206_12, tf12, nm, if_false]
theorem rf_readL {g : gG} {t : Nat → Nat} {L : Nat} (H : Ltx g t L) (hb : Bo g) {F : Nat} (hF : 11000 < F) (u0 v0 : Int32) : ∃ n' a' f' d' u' v', fX12_read F 206 (nI 1) (gH (tx g (nI 0) (-1) (nI 0) u0 v0)) = some (n', gH (tx g a' f' d' u' v')) ∧ ((pLaw t L).1 = true → f' = -1 ∧ n' = nI (pLaw t L).2.2.1 ∧ u' = flg (hit (envR g) 1007 (pLaw t L).2.2.2 []) u0 ∧ v' = flg (hit (envR g) 1008 (pLaw t L).2.2.2 []) v0) ∧ ((pLaw t L).1 = false → f' = nI (pLaw t L).2.1 ∧ ¬ f' = -1) := by
  have h1 := H.1
  have h2 := H.2.1
  have hbt := H.2.2.1
  have s := rf_skip H (-1) (nI 0) u0 v0 (show 0 < 1000 by omega) hF
  have bl := rn_le (P := bk t) (L := L) 0 (by omega)
  have nb := rn_rn (P := bk t) (L := L) 0
  unfold pLaw
  generalize rn (bk t) L 0 = b at *
  by_cases c : kd t L b = 4000
  · have pe := (kd_end hbt bl).mp c
    have nl : ¬ b < L := by omega
    obtain ⟨F', rfl⟩ : ∃ F', F = F' + 1 := ⟨F - 1, by omega⟩
    rw [if_pos c]
    refine ⟨nI 0, nI b, -1, nI 0, u0, v0, ?_, fun _ => ⟨rfl, rfl, rfl, rfl⟩, fun h => by cases h⟩
    simp (disch := omega) only [fX12_read, io_206, fi_206_11, fi_206_10, bdS, ck_t, ck_T, cb_0, cb_1, if_true, if_false, tf9, tf10, tf11, tf12, tf13, tf15, tf16, tf17, tf18, tA, tx_11, tx_12, tx_13, tx_17, tx_18, s, h1, nl, nI_ltI, if_false, rd_0]
  · have nl : b < L := by
      apply Decidable.byContradiction
      intro k
      exact c ((kd_end hbt bl).mpr (by omega))
    rw [if_neg c]
    obtain ⟨n', a', f', d', u', v', e3, C⟩ := rl_readL H hb hF u0 v0 12 0 F b [] (by omega) (by omega) bl lnC_nil
    rw [nb] at C
    have z1 : flg (hit (envR g) 1007 [] []) u0 = u0 := rfl
    have z2 : flg (hit (envR g) 1008 [] []) v0 = v0 := rfl
    rw [z1, z2] at e3
    refine ⟨n', a', f', d', u', v', ?_, C⟩
    simp (disch := omega) only [fX12_read, io_206, fi_206_11, fi_206_10, bdS, ck_t, ck_T, cb_0, cb_1, if_true, if_false, tf9, tf10, tf11, tf12, tf13, tf15, tf16, tf17, tf18, tA, tx_11, tx_12, tx_13, tx_17, tx_18, s, h1, nl, nI_ltI, if_true]
    exact e3
