variable {Nq : Nat}
/-! ===== the reference reads a text of THE LAW ===== -/
theorem hw_21 {g : gG} {t : Nat → Nat} {L : Nat} (H : Ltx g t L) (f d u v : Int32) {a : Nat} (ha : a < 1000) {F : Nat} (hF : 11000 < F) : fX12_has_ F 206 (ab_SB + 21) (gH (tx g (nI a) f d u v)) = some (bI (decide (kd t L (rn (bk t) L a) = 1007)), gH (tx g (nI (if kd t L (rn (bk t) L a) = 1007 then en t L (rn (bk t) L a) else rn (bk t) L a)) f d u v)) := rf_hasW H f d u v (k := 0) ha (by decide) hF
theorem hw_22 {g : gG} {t : Nat → Nat} {L : Nat} (H : Ltx g t L) (f d u v : Int32) {a : Nat} (ha : a < 1000) {F : Nat} (hF : 11000 < F) : fX12_has_ F 206 (ab_SB + 22) (gH (tx g (nI a) f d u v)) = some (bI (decide (kd t L (rn (bk t) L a) = 1008)), gH (tx g (nI (if kd t L (rn (bk t) L a) = 1008 then en t L (rn (bk t) L a) else rn (bk t) L a)) f d u v)) := rf_hasW H f d u v (k := 1) ha (by decide) hF
theorem hw_23 {g : gG} {t : Nat → Nat} {L : Nat} (H : Ltx g t L) (f d u v : Int32) {a : Nat} (ha : a < 1000) {F : Nat} (hF : 11000 < F) : fX12_has_ F 206 (ab_SB + 23) (gH (tx g (nI a) f d u v)) = some (bI (decide (kd t L (rn (bk t) L a) = 1009)), gH (tx g (nI (if kd t L (rn (bk t) L a) = 1009 then en t L (rn (bk t) L a) else rn (bk t) L a)) f d u v)) := rf_hasW H f d u v (k := 2) ha (by decide) hF
theorem hw_24 {g : gG} {t : Nat → Nat} {L : Nat} (H : Ltx g t L) (f d u v : Int32) {a : Nat} (ha : a < 1000) {F : Nat} (hF : 11000 < F) : fX12_has_ F 206 (ab_SB + 24) (gH (tx g (nI a) f d u v)) = some (bI (decide (kd t L (rn (bk t) L a) = 1012)), gH (tx g (nI (if kd t L (rn (bk t) L a) = 1012 then en t L (rn (bk t) L a) else rn (bk t) L a)) f d u v)) := rf_hasW H f d u v (k := 3) ha (by decide) hF
theorem hw_25 {g : gG} {t : Nat → Nat} {L : Nat} (H : Ltx g t L) (f d u v : Int32) {a : Nat} (ha : a < 1000) {F : Nat} (hF : 11000 < F) : fX12_has_ F 206 (ab_SB + 25) (gH (tx g (nI a) f d u v)) = some (bI (decide (kd t L (rn (bk t) L a) = 1013)), gH (tx g (nI (if kd t L (rn (bk t) L a) = 1013 then en t L (rn (bk t) L a) else rn (bk t) L a)) f d u v)) := rf_hasW H f d u v (k := 4) ha (by decide) hF
theorem hw_26 {g : gG} {t : Nat → Nat} {L : Nat} (H : Ltx g t L) (f d u v : Int32) {a : Nat} (ha : a < 1000) {F : Nat} (hF : 11000 < F) : fX12_has_ F 206 (ab_SB + 26) (gH (tx g (nI a) f d u v)) = some (bI (decide (kd t L (rn (bk t) L a) = 1002)), gH (tx g (nI (if kd t L (rn (bk t) L a) = 1002 then en t L (rn (bk t) L a) else rn (bk t) L a)) f d u v)) := rf_hasW H f d u v (k := 5) ha (by decide) hF
theorem hw_27 {g : gG} {t : Nat → Nat} {L : Nat} (H : Ltx g t L) (f d u v : Int32) {a : Nat} (ha : a < 1000) {F : Nat} (hF : 11000 < F) : fX12_has_ F 206 (ab_SB + 27) (gH (tx g (nI a) f d u v)) = some (bI (decide (kd t L (rn (bk t) L a) = 1014)), gH (tx g (nI (if kd t L (rn (bk t) L a) = 1014 then en t L (rn (bk t) L a) else rn (bk t) L a)) f d u v)) := rf_hasW H f d u v (k := 6) ha (by decide) hF
theorem hw_28 {g : gG} {t : Nat → Nat} {L : Nat} (H : Ltx g t L) (f d u v : Int32) {a : Nat} (ha : a < 1000) {F : Nat} (hF : 11000 < F) : fX12_has_ F 206 (ab_SB + 28) (gH (tx g (nI a) f d u v)) = some (bI (decide (kd t L (rn (bk t) L a) = 1015)), gH (tx g (nI (if kd t L (rn (bk t) L a) = 1015 then en t L (rn (bk t) L a) else rn (bk t) L a)) f d u v)) := rf_hasW H f d u v (k := 7) ha (by decide) hF
theorem hw_29 {g : gG} {t : Nat → Nat} {L : Nat} (H : Ltx g t L) (f d u v : Int32) {a : Nat} (ha : a < 1000) {F : Nat} (hF : 11000 < F) : fX12_has_ F 206 (ab_SB + 29) (gH (tx g (nI a) f d u v)) = some (bI (decide (kd t L (rn (bk t) L a) = 1016)), gH (tx g (nI (if kd t L (rn (bk t) L a) = 1016 then en t L (rn (bk t) L a) else rn (bk t) L a)) f d u v)) := rf_hasW H f d u v (k := 8) ha (by decide) hF
theorem hw_30 {g : gG} {t : Nat → Nat} {L : Nat} (H : Ltx g t L) (f d u v : Int32) {a : Nat} (ha : a < 1000) {F : Nat} (hF : 11000 < F) : fX12_has_ F 206 (ab_SB + 30) (gH (tx g (nI a) f d u v)) = some (bI (decide (kd t L (rn (bk t) L a) = 1017)), gH (tx g (nI (if kd t L (rn (bk t) L a) = 1017 then en t L (rn (bk t) L a) else rn (bk t) L a)) f d u v)) := rf_hasW H f d u v (k := 9) ha (by decide) hF
theorem hw_31 {g : gG} {t : Nat → Nat} {L : Nat} (H : Ltx g t L) (f d u v : Int32) {a : Nat} (ha : a < 1000) {F : Nat} (hF : 11000 < F) : fX12_has_ F 206 (ab_SB + 31) (gH (tx g (nI a) f d u v)) = some (bI (decide (kd t L (rn (bk t) L a) = 1018)), gH (tx g (nI (if kd t L (rn (bk t) L a) = 1018 then en t L (rn (bk t) L a) else rn (bk t) L a)) f d u v)) := rf_hasW H f d u v (k := 10) ha (by decide) hF
theorem hw_32 {g : gG} {t : Nat → Nat} {L : Nat} (H : Ltx g t L) (f d u v : Int32) {a : Nat} (ha : a < 1000) {F : Nat} (hF : 11000 < F) : fX12_has_ F 206 (ab_SB + 32) (gH (tx g (nI a) f d u v)) = some (bI (decide (kd t L (rn (bk t) L a) = 1019)), gH (tx g (nI (if kd t L (rn (bk t) L a) = 1019 then en t L (rn (bk t) L a) else rn (bk t) L a)) f d u v)) := rf_hasW H f d u v (k := 11) ha (by decide) hF
theorem hw_33 {g : gG} {t : Nat → Nat} {L : Nat} (H : Ltx g t L) (f d u v : Int32) {a : Nat} (ha : a < 1000) {F : Nat} (hF : 11000 < F) : fX12_has_ F 206 (ab_SB + 33) (gH (tx g (nI a) f d u v)) = some (bI (decide (kd t L (rn (bk t) L a) = 1011)), gH (tx g (nI (if kd t L (rn (bk t) L a) = 1011 then en t L (rn (bk t) L a) else rn (bk t) L a)) f d u v)) := rf_hasW H f d u v (k := 12) ha (by decide) hF
theorem hw_34 {g : gG} {t : Nat → Nat} {L : Nat} (H : Ltx g t L) (f d u v : Int32) {a : Nat} (ha : a < 1000) {F : Nat} (hF : 11000 < F) : fX12_has_ F 206 (ab_SB + 34) (gH (tx g (nI a) f d u v)) = some (bI (decide (kd t L (rn (bk t) L a) = 1010)), gH (tx g (nI (if kd t L (rn (bk t) L a) = 1010 then en t L (rn (bk t) L a) else rn (bk t) L a)) f d u v)) := rf_hasW H f d u v (k := 13) ha (by decide) hF
theorem hw_35 {g : gG} {t : Nat → Nat} {L : Nat} (H : Ltx g t L) (f d u v : Int32) {a : Nat} (ha : a < 1000) {F : Nat} (hF : 11000 < F) : fX12_has_ F 206 (ab_SB + 35) (gH (tx g (nI a) f d u v)) = some (bI (decide (kd t L (rn (bk t) L a) = 1000)), gH (tx g (nI (if kd t L (rn (bk t) L a) = 1000 then en t L (rn (bk t) L a) else rn (bk t) L a)) f d u v)) := rf_hasW H f d u v (k := 14) ha (by decide) hF
theorem hw_36 {g : gG} {t : Nat → Nat} {L : Nat} (H : Ltx g t L) (f d u v : Int32) {a : Nat} (ha : a < 1000) {F : Nat} (hF : 11000 < F) : fX12_has_ F 206 (ab_SB + 36) (gH (tx g (nI a) f d u v)) = some (bI (decide (kd t L (rn (bk t) L a) = 1001)), gH (tx g (nI (if kd t L (rn (bk t) L a) = 1001 then en t L (rn (bk t) L a) else rn (bk t) L a)) f d u v)) := rf_hasW H f d u v (k := 15) ha (by decide) hF
theorem hw_37 {g : gG} {t : Nat → Nat} {L : Nat} (H : Ltx g t L) (f d u v : Int32) {a : Nat} (ha : a < 1000) {F : Nat} (hF : 11000 < F) : fX12_has_ F 206 (ab_SB + 37) (gH (tx g (nI a) f d u v)) = some (bI (decide (kd t L (rn (bk t) L a) = 1003)), gH (tx g (nI (if kd t L (rn (bk t) L a) = 1003 then en t L (rn (bk t) L a) else rn (bk t) L a)) f d u v)) := rf_hasW H f d u v (k := 16) ha (by decide) hF
theorem hw_38 {g : gG} {t : Nat → Nat} {L : Nat} (H : Ltx g t L) (f d u v : Int32) {a : Nat} (ha : a < 1000) {F : Nat} (hF : 11000 < F) : fX12_has_ F 206 (ab_SB + 38) (gH (tx g (nI a) f d u v)) = some (bI (decide (kd t L (rn (bk t) L a) = 1004)), gH (tx g (nI (if kd t L (rn (bk t) L a) = 1004 then en t L (rn (bk t) L a) else rn (bk t) L a)) f d u v)) := rf_hasW H f d u v (k := 17) ha (by decide) hF
theorem hw_39 {g : gG} {t : Nat → Nat} {L : Nat} (H : Ltx g t L) (f d u v : Int32) {a : Nat} (ha : a < 1000) {F : Nat} (hF : 11000 < F) : fX12_has_ F 206 (ab_SB + 39) (gH (tx g (nI a) f d u v)) = some (bI (decide (kd t L (rn (bk t) L a) = 1005)), gH (tx g (nI (if kd t L (rn (bk t) L a) = 1005 then en t L (rn (bk t) L a) else rn (bk t) L a)) f d u v)) := rf_hasW H f d u v (k := 18) ha (by decide) hF
theorem hw_40 {g : gG} {t : Nat → Nat} {L : Nat} (H : Ltx g t L) (f d u v : Int32) {a : Nat} (ha : a < 1000) {F : Nat} (hF : 11000 < F) : fX12_has_ F 206 (ab_SB + 40) (gH (tx g (nI a) f d u v)) = some (bI (decide (kd t L (rn (bk t) L a) = 1006)), gH (tx g (nI (if kd t L (rn (bk t) L a) = 1006 then en t L (rn (bk t) L a) else rn (bk t) L a)) f d u v)) := rf_hasW H f d u v (k := 19) ha (by decide) hF
theorem dig_en {t : Nat → Nat} {L b : Nat} (h : b < L ∧ dig t b = true) : en t L b = rn (dig t) L b ∧ ltr t b = false := by
  have h0 : ltr t b = false := by
    have := of_decide_eq_true h.2
    unfold ltr; exact decide_eq_false (by omega)
  refine ⟨?_, h0⟩
  unfold en
  rw [h0, if_neg (by decide), if_pos h.2, rn_go h]
theorem rl_figs {g : gG} {t : Nat → Nat} {L : Nat} (H : Ltx g t L) (f d u v lo hi : Int32) {b : Nat} (hb : b ≤ L) {F : Nat} (hF : 11000 < F) (K : Int32 → ab_H → Option (Int32 × ab_H)) : fX12_figures_18 F 206 lo hi (nI b) K F (nI 0) (gH (tx g (nI b) f d u v)) = K (nI (dv t b (min (rn (dig t) L b - b) 4))) (gH (tx g (nI (b + min (rn (dig t) L b - b) 4)) f d u v)) := by
  have h1 := H.1
  have h2 := H.2.1
  have ge := rn_ge (P := dig t) (L := L) b
  have le := rn_le (P := dig t) (L := L) b hb
  have en := rn_end (P := dig t) (L := L) b
  have ins := rn_in (P := dig t) (L := L) b
  generalize rn (dig t) L b = e at *
  have dl : ∀ k, k ≤ min (e - b) 4 → dv t b k < 10000 := fun k hk => by
    have : dv t b k < 10 ^ k := dv_lt (fun i hi => of_decide_eq_true (ins (b + i) (by omega) (by omega)))
    have : 10 ^ k ≤ 10 ^ 4 := Nat.pow_le_pow_right (by decide) (by omega)
    omega
  refine lp0 (L := fun F' (_ : Int32) (a : Int32 × gG) => fX12_figures_18 F 206 lo hi (nI b) K F' a.1 (gH a.2)) (n := min (e - b) 4) (fun i => (nI (dv t b i), tx g (nI (b + i)) f d u v)) _ ?_ ?_ F (by omega)
  · intro F' i hi
    have c : b + i < L := by omega
    have l := rf_letter H c (nI (b + i)) f d u v
    have tb := H.2.2.1 (b + i) c
    have c2 := of_decide_eq_true (ins (b + i) (by omega) (by omega))
    have i3 : i ≤ 3 := by omega
    have sb : nI (b + i) - nI b = nI (b + i - b) := pk_sub (by omega)
    have sb2 : nI (b + i - b) = nI i := by rw [Nat.add_sub_cancel_left]
    have ad : nI 10 * nI (dv t b i) + nI (t (b + i)) - nI 48 = nI (10 * dv t b i + (t (b + i) - 48)) := by
      rw [pk_mul, nI_add, pk_sub (by omega)]; congr 1; omega
    have le3 : nI i ≤ nI 3 := nI_le i3 (by decide)
    have ed : dv t b (i + 1) = 10 * dv t b i + (t (b + i) - 48) := rfl
    rw [ed]
    have as : b + (i + 1) = b + i + 1 := by omega
    rw [as]
    simp (disch := omega) only [fX12_figures_18, io_206, fi_206_11, fi_206_10, fw_206_11, bdS, ck_t, ck_T, cb_0, cb_1, ab_jn, if_true, if_false, tf9, tf10, tf11, tf12, tf13, tf15, tf16, tf17, tf18, tA, tx_11, tx_12, tx_13, tx_17, tx_18, h1, c, l, rf_in, c2, sb, sb2, le3, ad, decide_true, bI_0, nI_ltI, nI_add, if_true, if_false, reduceCtorEq, and_self]
  · intro F'
    by_cases c : b + min (e - b) 4 < L
    · have l := rf_letter H c (nI (b + min (e - b) 4)) f d u v
      have tb := H.2.2.1 _ c
      by_cases c2 : 48 ≤ t (b + min (e - b) 4) ∧ t (b + min (e - b) 4) ≤ 57
      · have m4 : min (e - b) 4 = 4 := by
          apply Decidable.byContradiction
          intro k
          have : b + min (e - b) 4 = e := by omega
          rw [this] at c c2
          exact en ⟨c, decide_eq_true c2⟩
        have sb : nI (b + min (e - b) 4) - nI b = nI 4 := by rw [pk_sub (by omega), Nat.add_sub_cancel_left, m4]
        have le3 : ¬ nI 4 ≤ nI 3 := by decide
        simp (disch := omega) only [fX12_figures_18, io_206, fi_206_11, fi_206_10, fw_206_11, bdS, ck_t, ck_T, cb_0, cb_1, ab_jn, if_true, if_false, tf9, tf10, tf11, tf12, tf13, tf15, tf16, tf17, tf18, tA, tx_11, tx_12, tx_13, tx_17, tx_18, h1, c, l, rf_in, c2, sb, le3, decide_true, bI_0, nI_ltI, nI_add, if_true, if_false, reduceCtorEq, and_self]
      · simp (disch := omega) only [fX12_figures_18, io_206, fi_206_11, fi_206_10, fw_206_11, bdS, ck_t, ck_T, cb_0, cb_1, ab_jn, if_true, if_false, tf9, tf10, tf11, tf12, tf13, tf15, tf16, tf17, tf18, tA, tx_11, tx_12, tx_13, tx_17, tx_18, h1, c, l, rf_in, c2, decide_false, bI_0, nI_ltI, nI_add, if_true, if_false, reduceCtorEq]
    · simp (disch := omega) only [fX12_figures_18, io_206, fi_206_11, fi_206_10, fw_206_11, bdS, ck_t, ck_T, cb_0, cb_1, ab_jn, if_true, if_false, tf9, tf10, tf11, tf12, tf13, tf15, tf16, tf17, tf18, tA, tx_11, tx_12, tx_13, tx_17, tx_18, h1, c, nI_ltI, if_false]
theorem rf_figs {g : gG} {t : Nat → Nat} {L : Nat} (H : Ltx g t L) (d u v lo hi : Int32) {a : Nat} (ha : a ≤ L) {F : Nat} (hF : 11000 < F) : ∃ x a', a' ≤ L ∧ fX12_figures F 206 lo hi (gH (tx g (nI a) (-1) d u v)) = if nmb t L (rn (bk t) L a) ≠ 4000 ∧ ¬ nI (nmb t L (rn (bk t) L a)) < lo ∧ nI (nmb t L (rn (bk t) L a)) ≤ hi then some (nI (nmb t L (rn (bk t) L a)), gH (tx g (nI (en t L (rn (bk t) L a))) (-1) d u v)) else some (x, gH (tx g (nI a') (nI (rn (bk t) L a)) d u v)) := by
  have h1 := H.1
  have h2 := H.2.1
  have pl := rf_place H (-1) d u v (show a < 1000 by omega) hF
  have bl := rn_le (P := bk t) (L := L) a ha
  generalize rn (bk t) L a = b at *
  have fg := fun K => rl_figs H (-1) d u v lo hi bl hF K
  have ge := rn_ge (P := dig t) (L := L) b
  have le := rn_le (P := dig t) (L := L) b bl
  have ee := dig_en (t := t) (L := L) (b := b)
  have stop : ¬ (b < L ∧ dig t b = true) → rn (dig t) L b = b := rn_stop
  have go : (b < L ∧ dig t b = true) → b + 1 ≤ rn (dig t) L b := fun h => by
    rw [rn_go h]; exact rn_ge (b + 1)
  have nm : nmb t L b = if b < L ∧ dig t b = true ∧ en t L b ≤ b + 3 then dv t b (en t L b - b) else 4000 := rfl
  generalize rn (dig t) L b = e at *
  refine ⟨nI (dv t b (min (e - b) 4)), b + min (e - b) 4, by omega, ?_⟩
  have sb : nI (b + min (e - b) 4) - nI b = nI (min (e - b) 4) := by rw [pk_sub (by omega), Nat.add_sub_cancel_left]
  by_cases c : b < L ∧ dig t b = true
  · have en1 := (ee c).1
    have g1 := go c
    have ne : ¬ (b + min (e - b) 4 = b) := by omega
    by_cases c3 : e ≤ b + 3
    · have m : min (e - b) 4 = e - b := by omega
      have nm1 : nmb t L b = dv t b (e - b) := by rw [nm, if_pos ⟨c.1, c.2, by omega⟩, en1]
      have n4 : nmb t L b ≠ 4000 := by
        rcases nmb_lt (t := t) (L := L) (a := b) with k | k
        · have : dv t b (e - b) < 10 ^ (e - b) := dv_lt (fun i hi => of_decide_eq_true (rn_in (P := dig t) (L := L) b (b + i) (by omega) (by
            have h5 := (dig_en (t := t) (L := L) (b := b) c).1
            omega)))
          have : 10 ^ (e - b) ≤ 10 ^ 3 := Nat.pow_le_pow_right (by decide) (by omega)
          omega
        · omega
      have be : b + (e - b) = e := by omega
      have le3 : nI (e - b) ≤ nI 3 := nI_le (by omega) (by decide)
      rw [m] at fg sb ne ⊢
      rw [en1, nm1]
      rw [nm1] at n4
      rw [be] at fg sb ne ⊢
      by_cases c4 : nI (dv t b (e - b)) < lo
      · rw [if_neg (fun h => h.2.1 c4)]
        simp (disch := omega) only [fX12_figures, fX12_wrong, io_206, fi_206_12, fi_206_11, fw_206_12, bdS, ck_t, ck_T, cb_0, cb_1, ab_jn, if_true, if_false, tf9, tf10, tf11, tf12, tf13, tf15, tf16, tf17, tf18, tA, tx_11, tx_12, tx_13, tx_17, tx_18, pl, fg, nI_eq, ne, sb, le3, c4, if_true, if_false]
      · by_cases c5 : nI (dv t b (e - b)) ≤ hi
        · rw [if_pos ⟨n4, c4, c5⟩]
          simp (disch := omega) only [fX12_figures, fX12_wrong, io_206, fi_206_12, fi_206_11, fw_206_12, bdS, ck_t, ck_T, cb_0, cb_1, ab_jn, if_true, if_false, tf9, tf10, tf11, tf12, tf13, tf15, tf16, tf17, tf18, tA, tx_11, tx_12, tx_13, tx_17, tx_18, pl, fg, nI_eq, ne, sb, le3, c4, c5, if_true, if_false]
        · rw [if_neg (fun h => c5 h.2.2)]
          simp (disch := omega) only [fX12_figures, fX12_wrong, io_206, fi_206_12, fi_206_11, fw_206_12, bdS, ck_t, ck_T, cb_0, cb_1, ab_jn, if_true, if_false, tf9, tf10, tf11, tf12, tf13, tf15, tf16, tf17, tf18, tA, tx_11, tx_12, tx_13, tx_17, tx_18, pl, fg, nI_eq, ne, sb, le3, c4, c5, if_true, if_false]
    · have m : min (e - b) 4 = 4 := by omega
      have nm1 : nmb t L b = 4000 := by rw [nm, if_neg (by omega)]
      rw [if_neg (fun h => h.1 nm1)]
      rw [m] at fg sb ne ⊢
      have le3 : ¬ nI 4 ≤ nI 3 := by decide
      simp (disch := omega) only [fX12_figures, fX12_wrong, io_206, fi_206_12, fi_206_11, fw_206_12, bdS, ck_t, ck_T, cb_0, cb_1, ab_jn, if_true, if_false, tf9, tf10, tf11, tf12, tf13, tf15, tf16, tf17, tf18, tA, tx_11, tx_12, tx_13, tx_17, tx_18, pl, fg, nI_eq, ne, sb, le3, if_true, if_false]
  · have es := stop c
    have nm1 : nmb t L b = 4000 := by rw [nm, if_neg (fun h => c ⟨h.1, h.2.1⟩)]
    rw [if_neg (fun h => h.1 nm1)]
    have m : min (e - b) 4 = 0 := by omega
    rw [m] at fg ⊢
    simp (disch := omega) only [fX12_figures, fX12_wrong, io_206, fi_206_12, fi_206_11, fw_206_12, bdS, ck_t, ck_T, cb_0, cb_1, ab_jn, if_true, if_false, tf9, tf10, tf11, tf12, tf13, tf15, tf16, tf17, tf18, tA, tx_11, tx_12, tx_13, tx_17, tx_18, pl, fg, Nat.add_zero, if_true, if_false]
/-! ===== part, sum, plain ===== -/
def envR (g : gG) (w : Nat) : Int32 := if w = 1013 then gF g 206 15 else if w = 1002 then gF g 206 16 else gA g 212 (w - 1014)
/-- how a reading ends -/
def Cn (t : Nat → Nat) (L : Nat) (env : Nat → Int32) (d : Int32) (B : Nat) (r : Bool × Nat × List Nat) (x : Int32) (a' : Nat) (f' d' : Int32) : Prop := a' ≤ L + B ∧ (r.1 = true → f' = -1 ∧ d' = d ∧ a' ≤ L ∧ rn (bk t) L a' = r.2.1 ∧ x = vl env r.2.2) ∧ (r.1 = false → f' = nI r.2.1 ∧ ¬ f' = -1)
def Rs (g : gG) (t : Nat → Nat) (L : Nat) (d : Int32) (B : Nat) (X : ab_H → Option (Int32 × ab_H)) (p : Nat → Bool × Nat × List Nat) : Prop := ∀ a u v, a ≤ L → ∃ x a' f' d', X (gH (tx g (nI a) (-1) d u v)) = some (x, gH (tx g (nI a') f' d' u v)) ∧ Cn t L (envR g) d B (p (rn (bk t) L a)) x a' f' d'
theorem Cn.ok {t : Nat → Nat} {L : Nat} {env : Nat → Int32} {d : Int32} {B : Nat} {q : Nat} {c : List Nat} {x : Int32} {a' : Nat} (h1 : a' ≤ L) (h2 : rn (bk t) L a' = q) (h3 : x = vl env c) : Cn t L env d B (true, q, c) x a' (-1) d := ⟨by omega, fun _ => ⟨rfl, rfl, h1, h2, h3⟩, fun h => by cases h⟩
theorem Cn.no {t : Nat → Nat} {L : Nat} {env : Nat → Int32} {d : Int32} {B : Nat} {q : Nat} {c : List Nat} {x : Int32} {a' : Nat} {d' : Int32} (h1 : a' ≤ L + B) (hq : q ≤ 1000) : Cn t L env d B (false, q, c) x a' (nI q) d' := ⟨h1, (fun h => by cases h), fun _ => ⟨rfl, fun h => (m1_ne (by omega)).mp h⟩⟩
theorem nx_en {t : Nat → Nat} {L b : Nat} (h : b < L) : rn (bk t) L (en t L b) = nxt t L b := by unfold nxt; rw [if_pos h]
theorem en_sign {t : Nat → Nat} {L b c : Nat} (hc : isG c) (h : kd t L b = c) : b < L ∧ en t L b = b + 1 := by
  obtain ⟨h1, h2⟩ := (kd_sign hc).mp h
  refine ⟨h1, ?_⟩
  unfold isG at hc
  unfold en
  rw [if_neg (by unfold ltr; rw [decide_eq_true_iff]; omega), if_neg (by unfold dig; rw [decide_eq_true_iff]; omega)]
theorem rs_part {g : gG} {t : Nat → Nat} {L : Nat} (H : Ltx g t L) (d : Int32) {F : Nat} (hF : 11000 < F) : Rs g t L d 0 (fX12_part F 206) (pPart t L) := by
  intro a u v ha
  have h1 := H.1
  have h2 := H.2.1
  have hbt := H.2.2.1
  have s := rf_skip H (-1) d u v (show a < 1000 by omega) hF
  have bl := rn_le (P := bk t) (L := L) a ha
  have nb := rn_rn (P := bk t) (L := L) a
  generalize rn (bk t) L a = b at *
  by_cases c : b < L ∧ dig t b = true
  · obtain ⟨x, a', ha', fg⟩ := rf_figs H d u v (nI 0) (nI 999) bl hF
    rw [nb] at fg
    have l := rf_letter H c.1 (nI b) (-1) d u v
    have tb := hbt b c.1
    have c2 := of_decide_eq_true c.2
    have kd1 : ¬ (1014 ≤ kd t L b ∧ kd t L b ≤ 1019) := by
      unfold kd
      rw [if_pos c.1, if_neg (by rw [(dig_en c).2]; decide), if_pos c.2]; omega
    have pp : pPart t L b = if nmb t L b = 4000 then (false, b, []) else (true, nxt t L b, [nmb t L b]) := by unfold pPart; rw [if_neg kd1]
    by_cases n4 : nmb t L b = 4000
    · rw [if_neg (fun h => h.1 n4)] at fg
      rw [pp, if_pos n4]
      refine ⟨x, a', nI b, d, ?_, Cn.no (by omega) (by omega)⟩
      simp (disch := omega) only [fX12_part, io_206, fi_206_12, fi_206_11, fi_206_10, fr_206_14, ia_212, bdS, ck_t, ck_T, cb_0, cb_1, if_true, if_false, tf9, tf10, tf11, tf12, tf13, tf15, tf16, tf17, tf18, tA, tx_11, tx_12, tx_13, tx_17, tx_18, s, h1, c.1, l, rf_in, c2, fg, decide_true, bI_0, nI_ltI, if_true, if_false, reduceCtorEq, and_self]
      rfl
    · have nl := (nmb_lt (t := t) (L := L) (a := b)).resolve_left n4
      rw [if_pos ⟨n4, by rw [nI_ltI (by omega) (by omega)]; omega, nI_le (by omega) (by decide)⟩] at fg
      rw [pp, if_neg n4]
      refine ⟨nI (nmb t L b), en t L b, -1, d, ?_, Cn.ok (en_le c.1) (nx_en c.1) ?_⟩
      · simp (disch := omega) only [fX12_part, io_206, fi_206_12, fi_206_11, fi_206_10, fr_206_14, ia_212, bdS, ck_t, ck_T, cb_0, cb_1, if_true, if_false, tf9, tf10, tf11, tf12, tf13, tf15, tf16, tf17, tf18, tA, tx_11, tx_12, tx_13, tx_17, tx_18, s, h1, c.1, l, rf_in, c2, fg, decide_true, bI_0, nI_ltI, if_true, if_false, reduceCtorEq, and_self]
        rfl
      · rw [(wf_one (w := nmb t L b) (by omega)).2, if_pos nl]
  · have n4 : nmb t L b = 4000 := by unfold nmb; rw [if_neg (fun h => c ⟨h.1, h.2.1⟩)]
    have w27 := hw_27 H (-1) d u v (show b < 1000 by omega) hF
    have w28 := hw_28 H (-1) d u v (show b < 1000 by omega) hF
    have w29 := hw_29 H (-1) d u v (show b < 1000 by omega) hF
    have w30 := hw_30 H (-1) d u v (show b < 1000 by omega) hF
    have w31 := hw_31 H (-1) d u v (show b < 1000 by omega) hF
    have w32 := hw_32 H (-1) d u v (show b < 1000 by omega) hF
    rw [nb] at w27 w28 w29 w30 w31 w32
    have fin : ∀ i, i < 6 → kd t L b = 1014 + i → Cn t L (envR g) d 0 (pPart t L b) (gA g 212 i) (en t L b) (-1) d := fun i hi e => by
      have hl : b < L := kd_lt (t := t) (by omega)
      have pp : pPart t L b = (true, nxt t L b, [kd t L b]) := by unfold pPart; rw [if_pos (by omega)]
      rw [pp]
      refine Cn.ok (en_le hl) (nx_en hl) ?_
      rw [(wf_one (w := kd t L b) (by omega)).2, if_neg (by omega), e]
      unfold envR
      rw [if_neg (by omega), if_neg (by omega), Nat.add_sub_cancel_left]
    have noF : fX12_part F 206 (gH (tx g (nI a) (-1) d u v)) = ab_bd (fX12_has_ F 206 (ab_SB + 27) (gH (tx g (nI b) (-1) d u v))) fun v6 => ab_jn (κ := Int32 → ab_H → Option (Int32 × ab_H)) (fun (z7 : Int32) (h8 : ab_H) => (if z7 = (-1 : Int32) then ab_bd (ab_fi h8 206 12 11) fun v10 => ab_ck (ab_io h8 206 12 = true) (ab_bd (fX12_wrong 206 v10 h8) fun h11 => some (nI 0, h11)) else ab_bd (ab_fr h8 206 12 14) fun v12 => ab_bd (ab_ia 0 h8 v12 z7) fun v13 => some (v13, h8))) fun j14 => (if v6.1 = 0 then ab_ck (ab_io v6.2 206 12 = true) (ab_bd (fX12_has_ F 206 (ab_SB + 28) v6.2) fun v16 => (if v16.1 = 0 then ab_ck (ab_io v16.2 206 12 = true) (ab_bd (fX12_has_ F 206 (ab_SB + 29) v16.2) fun v18 => (if v18.1 = 0 then ab_ck (ab_io v18.2 206 12 = true) (ab_bd (fX12_has_ F 206 (ab_SB + 30) v18.2) fun v20 => (if v20.1 = 0 then ab_ck (ab_io v20.2 206 12 = true) (ab_bd (fX12_has_ F 206 (ab_SB + 31) v20.2) fun v22 => (if v22.1 = 0 then ab_ck (ab_io v22.2 206 12 = true) (ab_bd (fX12_has_ F 206 (ab_SB + 32) v22.2) fun v24 => (if v24.1 = 0 then j14 (-1 : Int32) v24.2 else j14 (nI 5) v24.2)) else j14 (nI 4) v22.2)) else j14 (nI 3) v20.2)) else j14 (nI 2) v18.2)) else j14 (nI 1) v16.2)) else j14 (nI 0) v6.2) := by
      by_cases c1 : b < L
      · have l := rf_letter H c1 (nI b) (-1) d u v
        have tb := hbt b c1
        have c2 : ¬ (48 ≤ t b ∧ t b ≤ 57) := fun h => c ⟨c1, decide_eq_true h⟩
        have u1 : fX12_part F 206 (gH (tx g (nI a) (-1) d u v)) = fX12_part F 206 (gH (tx g (nI a) (-1) d u v)) := rfl
        unfold fX12_part
        rw [fi_206_12, bdS, tf12, if_pos rfl, io_206, ck_t, s, bdS, fi_206_11, bdS, fi_206_10, bdS, tf11, tf10, h1]
        simp (disch := omega) only [fi_206_11, tf11, bdS, io_206, ck_t, ck_T, l, rf_in, c2, decide_false, bI_0, nI_ltI, c1, if_true]
        rfl
      · unfold fX12_part
        rw [fi_206_12, bdS, tf12, if_pos rfl, io_206, ck_t, s, bdS, fi_206_11, bdS, fi_206_10, bdS, tf11, tf10, h1]
        simp (disch := omega) only [io_206, ck_t, ck_T, nI_ltI, c1, if_false]
        rfl
    rw [noF]
    by_cases k0 : kd t L b = 1014
    · refine ⟨_, _, _, _, ?_, fin 0 (by omega) k0⟩
      simp (disch := omega) only [fX12_part, io_206, fi_206_12, fi_206_11, fi_206_10, fr_206_14, ia_212, bdS, ck_t, ck_T, cb_0, cb_1, if_true, if_false, tf9, tf10, tf11, tf12, tf13, tf15, tf16, tf17, tf18, tA, tx_11, tx_12, tx_13, tx_17, tx_18, w27, k0, decide_true, bI_0, m1_ne, if_true, if_false, reduceCtorEq]
      simp (disch := omega) only [ab_jn, fX12_part, io_206, fi_206_12, fi_206_11, fi_206_10, fr_206_14, ia_212, bdS, ck_t, ck_T, cb_0, cb_1, if_true, if_false, tf9, tf10, tf11, tf12, tf13, tf15, tf16, tf17, tf18, tA, tx_11, tx_12, tx_13, tx_17, tx_18, m1_ne, if_false]
    by_cases k1 : kd t L b = 1015
    · refine ⟨_, _, _, _, ?_, fin 1 (by omega) k1⟩
      simp (disch := omega) only [fX12_part, io_206, fi_206_12, fi_206_11, fi_206_10, fr_206_14, ia_212, bdS, ck_t, ck_T, cb_0, cb_1, if_true, if_false, tf9, tf10, tf11, tf12, tf13, tf15, tf16, tf17, tf18, tA, tx_11, tx_12, tx_13, tx_17, tx_18, w27, w28, k0, k1, decide_true, decide_false, bI_0, m1_ne, if_true, if_false, reduceCtorEq, show ¬ (1015 = 1014) by omega]
      simp (disch := omega) only [ab_jn, fX12_part, io_206, fi_206_12, fi_206_11, fi_206_10, fr_206_14, ia_212, bdS, ck_t, ck_T, cb_0, cb_1, if_true, if_false, tf9, tf10, tf11, tf12, tf13, tf15, tf16, tf17, tf18, tA, tx_11, tx_12, tx_13, tx_17, tx_18, m1_ne, if_false]
    by_cases k2 : kd t L b = 1016
    · refine ⟨_, _, _, _, ?_, fin 2 (by omega) k2⟩
      simp (disch := omega) only [fX12_part, io_206, fi_206_12, fi_206_11, fi_206_10, fr_206_14, ia_212, bdS, ck_t, ck_T, cb_0, cb_1, if_true, if_false, tf9, tf10, tf11, tf12, tf13, tf15, tf16, tf17, tf18, tA, tx_11, tx_12, tx_13, tx_17, tx_18, w27, w28, w29, k0, k1, k2, decide_true, decide_false, bI_0, m1_ne, if_true, if_false, reduceCtorEq, show ¬ (1016 = 1014) by omega, show ¬ (1016 = 1015) by omega]
      simp (disch := omega) only [ab_jn, fX12_part, io_206, fi_206_12, fi_206_11, fi_206_10, fr_206_14, ia_212, bdS, ck_t, ck_T, cb_0, cb_1, if_true, if_false, tf9, tf10, tf11, tf12, tf13, tf15, tf16, tf17, tf18, tA, tx_11, tx_12, tx_13, tx_17, tx_18, m1_ne, if_false]
    by_cases k3 : kd t L b = 1017
    · refine ⟨_, _, _, _, ?_, fin 3 (by omega) k3⟩
      simp (disch := omega) only [fX12_part, io_206, fi_206_12, fi_206_11, fi_206_10, fr_206_14, ia_212, bdS, ck_t, ck_T, cb_0, cb_1, if_true, if_false, tf9, tf10, tf11, tf12, tf13, tf15, tf16, tf17, tf18, tA, tx_11, tx_12, tx_13, tx_17, tx_18, w27, w28, w29, w30, k0, k1, k2, k3, decide_true, decide_false, bI_0, m1_ne, if_true, if_false, reduceCtorEq, show ¬ (1017 = 1014) by omega, show ¬ (1017 = 1015) by omega, show ¬ (1017 = 1016) by omega]
      simp (disch := omega) only [ab_jn, fX12_part, io_206, fi_206_12, fi_206_11, fi_206_10, fr_206_14, ia_212, bdS, ck_t, ck_T, cb_0, cb_1, if_true, if_false, tf9, tf10, tf11, tf12, tf13, tf15, tf16, tf17, tf18, tA, tx_11, tx_12, tx_13, tx_17, tx_18, m1_ne, if_false]
    by_cases k4 : kd t L b = 1018
    · refine ⟨_, _, _, _, ?_, fin 4 (by omega) k4⟩
      simp (disch := omega) only [fX12_part, io_206, fi_206_12, fi_206_11, fi_206_10, fr_206_14, ia_212, bdS, ck_t, ck_T, cb_0, cb_1, if_true, if_false, tf9, tf10, tf11, tf12, tf13, tf15, tf16, tf17, tf18, tA, tx_11, tx_12, tx_13, tx_17, tx_18, w27, w28, w29, w30, w31, k0, k1, k2, k3, k4, decide_true, decide_false, bI_0, m1_ne, if_true, if_false, reduceCtorEq, show ¬ (1018 = 1014) by omega, show ¬ (1018 = 1015) by omega, show ¬ (1018 = 1016) by omega, show ¬ (1018 = 1017) by omega]
      simp (disch := omega) only [ab_jn, fX12_part, io_206, fi_206_12, fi_206_11, fi_206_10, fr_206_14, ia_212, bdS, ck_t, ck_T, cb_0, cb_1, if_true, if_false, tf9, tf10, tf11, tf12, tf13, tf15, tf16, tf17, tf18, tA, tx_11, tx_12, tx_13, tx_17, tx_18, m1_ne, if_false]
    by_cases k5 : kd t L b = 1019
    · refine ⟨_, _, _, _, ?_, fin 5 (by omega) k5⟩
      simp (disch := omega) only [fX12_part, io_206, fi_206_12, fi_206_11, fi_206_10, fr_206_14, ia_212, bdS, ck_t, ck_T, cb_0, cb_1, if_true, if_false, tf9, tf10, tf11, tf12, tf13, tf15, tf16, tf17, tf18, tA, tx_11, tx_12, tx_13, tx_17, tx_18, w27, w28, w29, w30, w31, w32, k0, k1, k2, k3, k4, k5, decide_true, decide_false, bI_0, m1_ne, if_true, if_false, reduceCtorEq, show ¬ (1019 = 1014) by omega, show ¬ (1019 = 1015) by omega, show ¬ (1019 = 1016) by omega, show ¬ (1019 = 1017) by omega, show ¬ (1019 = 1018) by omega]
      simp (disch := omega) only [ab_jn, fX12_part, io_206, fi_206_12, fi_206_11, fi_206_10, fr_206_14, ia_212, bdS, ck_t, ck_T, cb_0, cb_1, if_true, if_false, tf9, tf10, tf11, tf12, tf13, tf15, tf16, tf17, tf18, tA, tx_11, tx_12, tx_13, tx_17, tx_18, m1_ne, if_false]
    · have pp : pPart t L b = (false, b, []) := by unfold pPart; rw [if_neg (by omega), if_pos n4]
      rw [pp]
      refine ⟨nI 0, b, nI b, d, ?_, Cn.no (by omega) (by omega)⟩
      simp (disch := omega) only [fX12_part, fX12_wrong, io_206, fi_206_12, fi_206_11, fi_206_10, fr_206_14, ia_212, fw_206_12, bdS, ck_t, ck_T, cb_0, cb_1, if_true, if_false, tf9, tf10, tf11, tf12, tf13, tf15, tf16, tf17, tf18, tA, tx_11, tx_12, tx_13, tx_17, tx_18, w27, w28, w29, w30, w31, w32, k0, k1, k2, k3, k4, k5, decide_false, bI_0, if_true, if_false, reduceCtorEq]
      simp (disch := omega) only [ab_jn, fX12_part, fX12_wrong, io_206, fi_206_12, fi_206_11, fi_206_10, fr_206_14, ia_212, fw_206_12, bdS, ck_t, ck_T, cb_0, cb_1, if_true, if_false, tf9, tf10, tf11, tf12, tf13, tf15, tf16, tf17, tf18, tA, tx_11, tx_12, tx_13, tx_17, tx_18, if_true]
