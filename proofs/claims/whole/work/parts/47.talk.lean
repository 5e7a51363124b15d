variable {Nq : Nat}
/-! ===== talk ===== -/
def ol (v : Nat → Int32) (a : Int32) : Nat → Int32 := it (fun i x => x ||| v i) a
theorem ol_bt (v : Nat → Int32) (a : Int32) (j : Nat) : ∀ l, bt (ol v a l) j = (bt a j || exB (fun i => bt (v i) j) l)
  | 0 => by rw [exB_0, Bool.or_false]; rfl
  | l + 1 => by
    show bt (ol v a l ||| v l) j = _
    rw [b_or, ol_bt v a j l, exB_S, Bool.or_assoc]
def dnl (P : Nat → Bool) (h : Nat) : Nat := fa_first (fun i => !(decide (i < h) && P (h - 1 - i))) h
theorem dnl_le (P : Nat → Bool) (h : Nat) : dnl P h ≤ h := fa_first_le _ _
theorem dnl_in {P : Nat → Bool} {h i : Nat} (hi : i < dnl P h) : P (h - 1 - i) = true := by
  have := fa_first_no (fun i => !(decide (i < h) && P (h - 1 - i))) h i hi
  simp at this
  exact this.2
theorem dnl_out {P : Nat → Bool} {h : Nat} (hl : dnl P h < h) : P (h - 1 - dnl P h) = false := by
  have := fa_first_yes (fun i => !(decide (i < h) && P (h - 1 - i))) h hl
  have e : fa_first (fun i => !(decide (i < h) && P (h - 1 - i))) h = dnl P h := rfl
  rw [e] at this
  simpa [hl] using this
theorem rl_dn {P : Nat → Bool} {k h : Nat} (hh : h < k) (hP : P h = true) : rl P k (h - dnl P h) = dnl P h + rl P k h := by
  have d1 := dnl_le P h
  have r1 : run P k (h - dnl P h) (dnl P h + rl P k h) := by
    have r := rl_run P (k := k) (h := h) (by omega)
    refine ⟨by have := r.1; omega, fun i hi => ?_⟩
    by_cases c : i < dnl P h
    · have := dnl_in (P := P) (h := h) (i := dnl P h - 1 - i) (by omega)
      rwa [show h - 1 - (dnl P h - 1 - i) = h - dnl P h + i by omega] at this
    · have := r.2 (i - dnl P h) (by omega)
      rwa [show h + (i - dnl P h) = h - dnl P h + i by omega] at this
  have h1 := run_rl r1
  have h2 : run P k h (rl P k (h - dnl P h) - dnl P h) := by
    have r := rl_run P (k := k) (h := h - dnl P h) (by omega)
    refine ⟨by have := r.1; omega, fun i hi => ?_⟩
    have := r.2 (dnl P h + i) (by omega)
    rwa [show h - dnl P h + (dnl P h + i) = h + i by omega] at this
  have h3 := run_rl h2
  omega
theorem dn2 {h i : Nat} (hi : i ≤ h) : nI h - nI i = nI (h - i) := pk_sub hi
theorem dn_e (h : Nat) : nI h - nI (h + 1) = (-1 : Int32) := by rw [← nI_add]; exact dn_end h
theorem cl_talk9 {g : gG} {m : Nat → Int32} {n k : Nat} (V : Sv g 6 m n k) {F : Nat} (hF : 11000 < F) {h : Nat} (hh : h < k) (hP : ¬ m (272 + h) = -1) (K : Int32 → Option (Int32 ⊕ String)) : fX11_talk_9 F 0 (nI h) (gH g) K F (nI 0) (nI h) = K (ol (fun i => nI 1 <<< (m (272 + (h - i)) &&& 31)) (nI 0) (dnl (fun i => !decide (m (272 + i) = -1)) h + 1)) := by
  have W := V
  obtain ⟨hx, hn, h10, hk, h12, e3, e4, e5, e6, e7, e8, e11, e9, e10⟩ := W
  have d1 := dnl_le (fun i => !decide (m (272 + i) = -1)) h
  have h0 := lp0 (L := fun F' i (a : Int32) => fX11_talk_9 F 0 (nI h) (gH g) K F' a (nI h - i)) (n := dnl (fun i => !decide (m (272 + i) = -1)) h + 1) (fun i => ol (fun i => nI 1 <<< (m (272 + (h - i)) &&& 31)) (nI 0) i) (K (ol (fun i => nI 1 <<< (m (272 + (h - i)) &&& 31)) (nI 0) (dnl (fun i => !decide (m (272 + i) = -1)) h + 1))) ?_ ?_ F (by omega)
  · rw [nI_0, Int32.sub_zero] at h0; rw [nI_0]; exact h0
  · intro F' i hi
    have e : ol (fun i => nI 1 <<< (m (272 + (h - i)) &&& 31)) (nI 0) (i + 1) = ol (fun i => nI 1 <<< (m (272 + (h - i)) &&& 31)) (nI 0) i ||| (nI 1 <<< (m (272 + (h - i)) &&& 31)) := rfl
    have hne : ¬ m (272 + (h - i)) = -1 := by
      by_cases c : i = 0
      · rw [c]; exact hP
      · have := dnl_in (P := fun i => !decide (m (272 + i) = -1)) (h := h) (i := i - 1) (by omega)
        rw [show h - 1 - (i - 1) = h - i by omega] at this
        simpa using this
    have n0 : ¬ nI (h - i) < 0 := nI_pos (by omega)
    have nx : nI h - nI (i + 1) = nI (h - i) + (-1) := by rw [← dn2 (by omega : i ≤ h), dn1, nI_add]
    have q := e11 (h - i) (by omega)
    rw [e, nx, dn2 (by omega)]
    simp (disch := first | omega | assumption | exact isSt6 | exact isSt18 | exact isSt30) only [fX11_talk_9, fr_0_1, fr_s17, ia_s11, bdS, ck_t, ck_T, cb_0, cb_1, ab_jn, if_true, if_false, fr_s17, ia_s11, n0, q, hne, reduceCtorEq, m1_ne, and_true, true_and, and_false, false_and, not_true_eq_false, not_false_eq_true, ne_eq, decide_true, decide_false, Bool.false_eq_true, ite_true, ite_false, if_true, if_false, Nat.add_zero, Bool.and_true, Bool.true_and, Bool.and_false, Bool.false_and, Bool.or_true, Bool.true_or, Bool.or_false, Bool.false_or, decide_not, Bool.not_true, Bool.not_false, or_true, true_or, or_false, false_or, or_self, and_self, decide_eq_true_eq]
  · intro F'
    show fX11_talk_9 F 0 (nI h) (gH g) K (F' + 1) _ (nI h - nI (dnl (fun i => !decide (m (272 + i) = -1)) h + 1)) = _
    by_cases c : dnl (fun i => !decide (m (272 + i) = -1)) h = h
    · rw [c, dn_e, fX11_talk_9, if_pos (by decide)]
    · have ho := dnl_out (P := fun i => !decide (m (272 + i) = -1)) (h := h) (by omega)
      have hv : m (272 + (h - 1 - dnl (fun i => !decide (m (272 + i) = -1)) h)) = -1 := by simpa using ho
      rw [dn2 (by omega), show h - (dnl (fun i => !decide (m (272 + i) = -1)) h + 1) = h - 1 - dnl (fun i => !decide (m (272 + i) = -1)) h by omega]
      have n0 : ¬ nI (h - 1 - dnl (fun i => !decide (m (272 + i) = -1)) h) < 0 := nI_pos (by omega)
      have q := e11 (h - 1 - dnl (fun i => !decide (m (272 + i) = -1)) h) (by omega)
      simp (disch := first | omega | assumption | exact isSt6 | exact isSt18 | exact isSt30) only [fX11_talk_9, fr_0_1, fr_s17, ia_s11, bdS, ck_t, ck_T, cb_0, cb_1, ab_jn, if_true, if_false, fr_s17, ia_s11, n0, q, hv, reduceCtorEq, m1_ne, and_true, true_and, and_false, false_and, not_true_eq_false, not_false_eq_true, ne_eq, decide_true, decide_false, Bool.false_eq_true, ite_true, ite_false, if_true, if_false, Nat.add_zero, Bool.and_true, Bool.true_and, Bool.and_false, Bool.false_and, Bool.or_true, Bool.true_or, Bool.or_false, Bool.false_or, decide_not, Bool.not_true, Bool.not_false, or_true, true_or, or_false, false_or, or_self, and_self, decide_eq_true_eq]
theorem cl_talk48 {g : gG} {m : Nat → Int32} {n k : Nat} (V : Sv g 6 m n k) {F : Nat} (hF : 11000 < F) {h : Nat} (hh : h < k) (a : Int32) : fX11_talk_48 F 0 (gH g) F a (nI h) = some (.inl (ol (fun i => nI 1 <<< (m (272 + (h + i)) &&& 31)) a (rl (fun i => !decide (m (272 + i) = -1)) k h))) := by
  have W := V
  obtain ⟨hx, hn, h10, hk, h12, e3, e4, e5, e6, e7, e8, e11, e9, e10⟩ := W
  have d1 := rl_le (fun i => !decide (m (272 + i) = -1)) k h
  have h0 := lp0 (L := fun F' i (a : Int32) => fX11_talk_48 F 0 (gH g) F' a (nI h + i)) (n := rl (fun i => !decide (m (272 + i) = -1)) k h) (fun i => ol (fun i => nI 1 <<< (m (272 + (h + i)) &&& 31)) a i) (some (.inl (ol (fun i => nI 1 <<< (m (272 + (h + i)) &&& 31)) a (rl (fun i => !decide (m (272 + i) = -1)) k h)))) ?_ ?_ F (by omega)
  · rw [nI_0, Int32.add_zero] at h0; exact h0
  · intro F' i hi
    have e : ol (fun i => nI 1 <<< (m (272 + (h + i)) &&& 31)) a (i + 1) = ol (fun i => nI 1 <<< (m (272 + (h + i)) &&& 31)) a i ||| (nI 1 <<< (m (272 + (h + i)) &&& 31)) := rfl
    obtain ⟨a1, a2⟩ := rl_in hi
    have hne : ¬ m (272 + (h + i)) = -1 := by simpa using a2
    have q := e11 (h + i) (by omega)
    rw [e]
    simp (disch := first | omega | assumption | exact isSt6 | exact isSt18 | exact isSt30) only [fX11_talk_48, fr_0_1, fi_s1, fr_s17, ia_s11, bdS, ck_t, ck_T, cb_0, cb_1, ab_jn, if_true, if_false, fr_s17, ia_s11, fi_s1, hk, a1, q, hne, nI_add, pk_mul, nI_ltI, nI_leI, nI_eq, reduceCtorEq, m1_ne, and_true, true_and, and_false, false_and, not_true_eq_false, not_false_eq_true, ne_eq, decide_true, decide_false, Bool.false_eq_true, ite_true, ite_false, if_true, if_false, Nat.add_zero, Bool.and_true, Bool.true_and, Bool.and_false, Bool.false_and, Bool.or_true, Bool.true_or, Bool.or_false, Bool.false_or, decide_not, Bool.not_true, Bool.not_false, or_true, true_or, or_false, false_or, or_self, and_self, decide_eq_true_eq]
    rw [show h + i + 1 = h + (i + 1) by omega]
  · intro F'
    by_cases c : h + rl (fun i => !decide (m (272 + i) = -1)) k h < k
    · have hv : m (272 + (h + rl (fun i => !decide (m (272 + i) = -1)) k h)) = -1 := by
        apply Decidable.byContradiction
        intro hne
        exact rl_out ⟨c, by simpa using hne⟩
      have q := e11 (h + rl (fun i => !decide (m (272 + i) = -1)) k h) (by omega)
      simp (disch := first | omega | assumption | exact isSt6 | exact isSt18 | exact isSt30) only [fX11_talk_48, fr_0_1, fi_s1, fr_s17, ia_s11, bdS, ck_t, ck_T, cb_0, cb_1, ab_jn, if_true, if_false, fr_s17, ia_s11, fi_s1, hk, c, q, hv, nI_add, pk_mul, nI_ltI, nI_leI, nI_eq, reduceCtorEq, m1_ne, and_true, true_and, and_false, false_and, not_true_eq_false, not_false_eq_true, ne_eq, decide_true, decide_false, Bool.false_eq_true, ite_true, ite_false, if_true, if_false, Nat.add_zero, Bool.and_true, Bool.true_and, Bool.and_false, Bool.false_and, Bool.or_true, Bool.true_or, Bool.or_false, Bool.false_or, decide_not, Bool.not_true, Bool.not_false, or_true, true_or, or_false, false_or, or_self, and_self, decide_eq_true_eq]
    · simp (disch := first | omega | assumption | exact isSt6 | exact isSt18 | exact isSt30) only [fX11_talk_48, fr_0_1, fi_s1, fr_s17, ia_s11, bdS, ck_t, ck_T, cb_0, cb_1, ab_jn, if_true, if_false, fi_s1, hk, c, nI_add, pk_mul, nI_ltI, nI_leI, nI_eq, reduceCtorEq, m1_ne, and_true, true_and, and_false, false_and, not_true_eq_false, not_false_eq_true, ne_eq, decide_true, decide_false, Bool.false_eq_true, ite_true, ite_false, if_true, if_false, Nat.add_zero, Bool.and_true, Bool.true_and, Bool.and_false, Bool.false_and, Bool.or_true, Bool.true_or, Bool.or_false, Bool.false_or, decide_not, Bool.not_true, Bool.not_false, or_true, true_or, or_false, false_or, or_self, and_self, decide_eq_true_eq]
theorem rl_talk42 (g : gG) {k : Nat} (hk : gA g 207 4 = nI k) (h12 : k ≤ 12) {F : Nat} (hF : 11000 < F) {h : Nat} (hh : h < k) (K : Int32 → Option (Int32 × ab_H)) : fX12_talk_42 F 206 (gH g) K F (nI h) = K (nI (h - dnl (fun i => !decide (gA g 207 (272 + i) = -1)) h)) := by
  have d1 := dnl_le (fun i => !decide (gA g 207 (272 + i) = -1)) h
  have h0 := lp0 (L := fun F' i (_ : Unit) => fX12_talk_42 F 206 (gH g) K F' (nI h - i)) (n := dnl (fun i => !decide (gA g 207 (272 + i) = -1)) h) (fun _ => ()) (K (nI (h - dnl (fun i => !decide (gA g 207 (272 + i) = -1)) h))) ?_ ?_ F (by omega)
  · rw [nI_0, Int32.sub_zero] at h0; exact h0
  · intro F' i hi
    have hne : ¬ gA g 207 (272 + (h - 1 - i)) = -1 := by
      have := dnl_in (P := fun i => !decide (gA g 207 (272 + i) = -1)) hi
      simpa using this
    have n0 : ¬ nI (h - i) ≤ 0 := nI_nle (by omega) (by omega)
    have nx : nI h - nI (i + 1) = nI (h - i) + (-1) := by rw [← dn2 (by omega : i ≤ h), dn1, nI_add]
    have ix : nI (272 + (h - i)) - nI 1 = nI (272 + (h - 1 - i)) := by rw [pk_sub (by omega)]; congr 1; omega
    rw [nx, dn2 (by omega)]
    simp (disch := omega) only [fX12_talk_42, fr_206_1, ia_207, bdS, ck_t, ck_T, cb_0, cb_1, ab_jn, if_true, if_false, n0, ix, hne, nI_add, reduceCtorEq, m1_ne, and_true, true_and, and_false, false_and, not_true_eq_false, not_false_eq_true, ne_eq, decide_true, decide_false, Bool.false_eq_true, ite_true, ite_false, if_true, if_false, Nat.add_zero, Bool.and_true, Bool.true_and, Bool.and_false, Bool.false_and, Bool.or_true, Bool.true_or, Bool.or_false, Bool.false_or, decide_not, Bool.not_true, Bool.not_false, or_true, true_or, or_false, false_or, or_self, and_self, decide_eq_true_eq]
  · intro F'
    rw [dn2 d1]
    by_cases c : dnl (fun i => !decide (gA g 207 (272 + i) = -1)) h = h
    · rw [c, Nat.sub_self, fX12_talk_42, if_pos (by decide)]
    · have ho := dnl_out (P := fun i => !decide (gA g 207 (272 + i) = -1)) (h := h) (by omega)
      have hv : gA g 207 (272 + (h - 1 - dnl (fun i => !decide (gA g 207 (272 + i) = -1)) h)) = -1 := by simpa using ho
      have n0 : ¬ nI (h - dnl (fun i => !decide (gA g 207 (272 + i) = -1)) h) ≤ 0 := nI_nle (by omega) (by omega)
      have ix : nI (272 + (h - dnl (fun i => !decide (gA g 207 (272 + i) = -1)) h)) - nI 1 = nI (272 + (h - 1 - dnl (fun i => !decide (gA g 207 (272 + i) = -1)) h)) := by rw [pk_sub (by omega)]; congr 1; omega
      simp (disch := omega) only [fX12_talk_42, fr_206_1, ia_207, bdS, ck_t, ck_T, cb_0, cb_1, ab_jn, if_true, if_false, n0, ix, hv, nI_add, reduceCtorEq, m1_ne, and_true, true_and, and_false, false_and, not_true_eq_false, not_false_eq_true, ne_eq, decide_true, decide_false, Bool.false_eq_true, ite_true, ite_false, if_true, if_false, Nat.add_zero, Bool.and_true, Bool.true_and, Bool.and_false, Bool.false_and, Bool.or_true, Bool.true_or, Bool.or_false, Bool.false_or, decide_not, Bool.not_true, Bool.not_false, or_true, true_or, or_false, false_or, or_self, and_self, decide_eq_true_eq]
theorem rl_talk73 (g : gG) {k : Nat} (hk : gA g 207 4 = nI k) (h12 : k ≤ 12) {F : Nat} (hF : 11000 < F) {h : Nat} (hh : h < k) : fX12_talk_73 F 206 (nI h) (gH g) F (nI 0) (nI 0) = some (ol (fun i => nI 1 <<< (gA g 207 (272 + (h + i)) &&& 31)) (nI 0) (rl (fun i => !decide (gA g 207 (272 + i) = -1)) k h), gH g) := by
  have d1 := rl_le (fun i => !decide (gA g 207 (272 + i) = -1)) k h
  have rf := rf_rowFrom g hk h12 hF (show h ≤ k by omega)
  refine lp0 (L := fun F' i (a : Int32) => fX12_talk_73 F 206 (nI h) (gH g) F' a i) (n := rl (fun i => !decide (gA g 207 (272 + i) = -1)) k h) (fun i => ol (fun i => nI 1 <<< (gA g 207 (272 + (h + i)) &&& 31)) (nI 0) i) _ ?_ ?_ F (by omega)
  · intro F' i hi
    have e : ol (fun i => nI 1 <<< (gA g 207 (272 + (h + i)) &&& 31)) (nI 0) (i + 1) = ol (fun i => nI 1 <<< (gA g 207 (272 + (h + i)) &&& 31)) (nI 0) i ||| (nI 1 <<< (gA g 207 (272 + (h + i)) &&& 31)) := rfl
    rw [e]
    simp (disch := omega) only [fX12_talk_73, io_206, fr_206_1, ia_207, bdS, ck_t, ck_T, cb_0, cb_1, ab_jn, if_true, if_false, rf, hi, nI_add, pk_mul, nI_ltI, nI_leI, nI_eq, reduceCtorEq, m1_ne, and_true, true_and, and_false, false_and, not_true_eq_false, not_false_eq_true, ne_eq, decide_true, decide_false, Bool.false_eq_true, ite_true, ite_false, if_true, if_false, Nat.add_zero, Bool.and_true, Bool.true_and, Bool.and_false, Bool.false_and, Bool.or_true, Bool.true_or, Bool.or_false, Bool.false_or, decide_not, Bool.not_true, Bool.not_false, or_true, true_or, or_false, false_or, or_self, and_self, decide_eq_true_eq]
    rw [show 272 + h + i = 272 + (h + i) by omega]
  · intro F'
    simp (disch := omega) only [fX12_talk_73, io_206, fr_206_1, ia_207, bdS, ck_t, ck_T, cb_0, cb_1, ab_jn, if_true, if_false, rf, Nat.lt_irrefl, nI_add, pk_mul, nI_ltI, nI_leI, nI_eq, reduceCtorEq, m1_ne, and_true, true_and, and_false, false_and, not_true_eq_false, not_false_eq_true, ne_eq, decide_true, decide_false, Bool.false_eq_true, ite_true, ite_false, if_true, if_false, Nat.add_zero, Bool.and_true, Bool.true_and, Bool.and_false, Bool.false_and, Bool.or_true, Bool.true_or, Bool.or_false, Bool.false_or, decide_not, Bool.not_true, Bool.not_false, or_true, true_or, or_false, false_or, or_self, and_self, decide_eq_true_eq]
theorem talk_eq {v : Nat → Int32} {P : Nat → Bool} {k h : Nat} (hh : h < k) (hP : P h = true) : ol (fun i => v (h + i)) (ol (fun i => v (h - i)) (nI 0) (dnl P h + 1)) (rl P k h) = ol (fun i => v (h - dnl P h + i)) (nI 0) (rl P k (h - dnl P h)) := by
  have d1 := dnl_le P h
  have e := rl_dn hh hP
  apply b_ext
  intro j hj
  rw [ol_bt, ol_bt, ol_bt, e, nI_0, b_0, Bool.false_or, Bool.false_or]
  cases c : exB (fun i => bt (v (h - dnl P h + i)) j) (dnl P h + rl P k h)
  · have c' := exB_f.mp c
    have x1 : exB (fun i => bt (v (h - i)) j) (dnl P h + 1) = false := exB_f.mpr (fun i hi => by
      by_cases ci : i = 0
      · by_cases cr : 0 < rl P k h
        · have := c' (dnl P h) (by omega)
          rwa [show h - dnl P h + dnl P h = h - i by omega] at this
        · exact absurd ⟨by omega, by rw [show h + rl P k h = h by omega]; exact hP⟩ (rl_out (P := P) (k := k) (h := h))
      · have := c' (dnl P h - i) (by omega)
        rwa [show h - dnl P h + (dnl P h - i) = h - i by omega] at this)
    have x2 : exB (fun i => bt (v (h + i)) j) (rl P k h) = false := exB_f.mpr (fun i hi => by
      have := c' (dnl P h + i) (by omega)
      rwa [show h - dnl P h + (dnl P h + i) = h + i by omega] at this)
    rw [x1, x2]; rfl
  · obtain ⟨i, hi, hb⟩ := exB_t.mp c
    by_cases ci : i < dnl P h
    · have x1 : exB (fun i => bt (v (h - i)) j) (dnl P h + 1) = true := exB_t.mpr ⟨dnl P h - i, by omega, by rw [show h - (dnl P h - i) = h - dnl P h + i by omega]; exact hb⟩
      rw [x1, Bool.true_or]
    · have x2 : exB (fun i => bt (v (h + i)) j) (rl P k h) = true := exB_t.mpr ⟨i - dnl P h, by omega, by rw [show h + (i - dnl P h) = h - dnl P h + i by omega]; exact hb⟩
      rw [x2, Bool.or_true]
theorem cq_talk {g : gG} (R : RE Nq g) (x : Int32) {F : Nat} (hF : 11000 < F) : Cq Nq g (fX11_talk F 0 x (gH g)) (fun g => fX12_talk F 206 x (gH g)) [eIx] := by
  have R0 := R; obtain ⟨n, k, s, f, R⟩ := R
  have V := R.1.1
  obtain ⟨rn, h10, rk, h12⟩ := R.rv
  refine Cq_of R0 ?_
  rcases inR_or (n := k) (x := x) (by omega) with e | ⟨h, hh, rfl⟩
  · refine ⟨.inr eIx, nI 0, nI 1, ?_, ?_, 0, by decide, rfl, rfl⟩
    · simp (disch := first | omega | assumption | exact isSt6 | exact isSt18 | exact isSt30) only [fX11_talk, io_0, bdS, ck_t, ck_T, cb_0, cb_1, ab_jn, if_true, if_false, cl_needHook V, e, bx_r, reduceCtorEq, m1_ne, and_true, true_and, and_false, false_and, not_true_eq_false, not_false_eq_true, ne_eq, decide_true, decide_false, Bool.false_eq_true, ite_true, ite_false, if_true, if_false, Nat.add_zero, Bool.and_true, Bool.true_and, Bool.and_false, Bool.false_and, Bool.or_true, Bool.true_or, Bool.or_false, Bool.false_or, decide_not, Bool.not_true, Bool.not_false, or_true, true_or, or_false, false_or, or_self, and_self, decide_eq_true_eq]
    · simp (disch := first | omega | assumption | exact isSt6 | exact isSt18 | exact isSt30) only [fX12_talk, io_206, fw_206_0, fi_206_0, fr_206_1, ia_207, bdS, ck_t, ck_T, cb_0, cb_1, ab_jn, if_true, if_false, rf_isHook g rk h12, e, bI_0, gF_sF1, upd_1, nI10, reduceCtorEq, m1_ne, and_true, true_and, and_false, false_and, not_true_eq_false, not_false_eq_true, ne_eq, decide_true, decide_false, Bool.false_eq_true, ite_true, ite_false, if_true, if_false, Nat.add_zero, Bool.and_true, Bool.true_and, Bool.and_false, Bool.false_and, Bool.or_true, Bool.true_or, Bool.or_false, Bool.false_or, decide_not, Bool.not_true, Bool.not_false, or_true, true_or, or_false, false_or, or_self, and_self, decide_eq_true_eq]
  have eh := inR_of hh (show k < 2 ^ 31 by omega)
  have q11 := V.2.2.2.2.2.2.2.2.2.2.2.1 h (by omega)
  by_cases c : gA g 207 (272 + h) = -1
  · apply ag_ok (v := nI 0)
    · have n0 : ¬ nI h < 0 := nI_pos (by omega)
      have hk := V.2.2.2.1
      have t9 : ∀ K, fX11_talk_9 F 0 (nI h) (gH g) K F (nI 0) (nI h) = K (nI 0) := fun K => by
        obtain ⟨F', rfl⟩ : ∃ F', F = F' + 1 := ⟨F - 1, by omega⟩
        simp (disch := first | omega | assumption | exact isSt6 | exact isSt18 | exact isSt30) only [fX11_talk_9, fr_0_1, fr_s17, ia_s11, bdS, ck_t, ck_T, cb_0, cb_1, ab_jn, if_true, if_false, fr_s17, ia_s11, n0, q11, c, reduceCtorEq, m1_ne, and_true, true_and, and_false, false_and, not_true_eq_false, not_false_eq_true, ne_eq, decide_true, decide_false, Bool.false_eq_true, ite_true, ite_false, if_true, if_false, Nat.add_zero, Bool.and_true, Bool.true_and, Bool.and_false, Bool.false_and, Bool.or_true, Bool.true_or, Bool.or_false, Bool.false_or, decide_not, Bool.not_true, Bool.not_false, or_true, true_or, or_false, false_or, or_self, and_self, decide_eq_true_eq]
      have t48 : fX11_talk_48 F 0 (gH g) F (nI 0) (nI h) = some (.inl (nI 0)) := by
        have t := cl_talk48 V hF hh (nI 0)
        have hr : rl (fun i => !decide (gA g 207 (272 + i) = -1)) k h = 0 := by
          apply Decidable.byContradiction
          intro hne
          have := (rl_in (P := fun i => !decide (gA g 207 (272 + i) = -1)) (k := k) (h := h) (i := 0) (by omega)).2
          rw [Nat.add_zero] at this
          simp [c] at this
        rw [hr] at t; exact t
      simp (disch := first | omega | assumption | exact isSt6 | exact isSt18 | exact isSt30) only [fX11_talk, io_0, bdS, ck_t, ck_T, cb_0, cb_1, ab_jn, if_true, if_false, cl_needHook V, eh, bx_l, t9, t48, reduceCtorEq, m1_ne, and_true, true_and, and_false, false_and, not_true_eq_false, not_false_eq_true, ne_eq, decide_true, decide_false, Bool.false_eq_true, ite_true, ite_false, if_true, if_false, Nat.add_zero, Bool.and_true, Bool.true_and, Bool.and_false, Bool.false_and, Bool.or_true, Bool.true_or, Bool.or_false, Bool.false_or, decide_not, Bool.not_true, Bool.not_false, or_true, true_or, or_false, false_or, or_self, and_self, decide_eq_true_eq]
    · simp (disch := first | omega | assumption | exact isSt6 | exact isSt18 | exact isSt30) only [fX12_talk, io_206, fw_206_0, fi_206_0, fr_206_1, ia_207, bdS, ck_t, ck_T, cb_0, cb_1, ab_jn, if_true, if_false, rf_isHook g rk h12, eh, bI_0, gF_sF1, upd_1, nI00, gA_sF, c, nI_add, pk_mul, nI_ltI, nI_leI, nI_eq, reduceCtorEq, m1_ne, and_true, true_and, and_false, false_and, not_true_eq_false, not_false_eq_true, ne_eq, decide_true, decide_false, Bool.false_eq_true, ite_true, ite_false, if_true, if_false, Nat.add_zero, Bool.and_true, Bool.true_and, Bool.and_false, Bool.false_and, Bool.or_true, Bool.true_or, Bool.or_false, Bool.false_or, decide_not, Bool.not_true, Bool.not_false, or_true, true_or, or_false, false_or, or_self, and_self, decide_eq_true_eq]
  · have hP : (fun i => !decide (gA g 207 (272 + i) = -1)) h = true := by simp [c]
    have te := talk_eq (v := fun i => nI 1 <<< (gA g 207 (272 + i) &&& 31)) (P := fun i => !decide (gA g 207 (272 + i) = -1)) hh hP
    have d1 := dnl_le (fun i => !decide (gA g 207 (272 + i) = -1)) h
    have t42 : ∀ K, fX12_talk_42 F 206 (gH (sF g 206 0 (nI 0))) K F (nI h) = K (nI (h - dnl (fun i => !decide (gA g 207 (272 + i) = -1)) h)) := fun K => rl_talk42 (sF g 206 0 (nI 0)) rk h12 hF hh K
    have t73 : fX12_talk_73 F 206 (nI (h - dnl (fun i => !decide (gA g 207 (272 + i) = -1)) h)) (gH (sF g 206 0 (nI 0))) F (nI 0) (nI 0) = some (ol (fun i => nI 1 <<< (gA g 207 (272 + (h - dnl (fun i => !decide (gA g 207 (272 + i) = -1)) h + i)) &&& 31)) (nI 0) (rl (fun i => !decide (gA g 207 (272 + i) = -1)) k (h - dnl (fun i => !decide (gA g 207 (272 + i) = -1)) h)), gH (sF g 206 0 (nI 0))) := rl_talk73 (sF g 206 0 (nI 0)) rk h12 hF (by omega)
    apply ag_ok (v := ol (fun i => nI 1 <<< (gA g 207 (272 + (h - dnl (fun i => !decide (gA g 207 (272 + i) = -1)) h + i)) &&& 31)) (nI 0) (rl (fun i => !decide (gA g 207 (272 + i) = -1)) k (h - dnl (fun i => !decide (gA g 207 (272 + i) = -1)) h)))
    · have c9 := cl_talk9 V hF hh c (fun (z10 : Int32) => fX11_talk_48 F 0 (gH g) F z10 (nI h))
      have hx : fX11_talk F 0 (nI h) (gH g) = fX11_talk_9 F 0 (nI h) (gH g) (fun (z10 : Int32) => fX11_talk_48 F 0 (gH g) F z10 (nI h)) F (nI 0) (nI h) := by
        simp (disch := first | omega | assumption | exact isSt6 | exact isSt18 | exact isSt30) only [fX11_talk, io_0, bdS, ck_t, ck_T, cb_0, cb_1, ab_jn, if_true, if_false, cl_needHook V, eh, bx_l, reduceCtorEq, m1_ne, and_true, true_and, and_false, false_and, not_true_eq_false, not_false_eq_true, ne_eq, decide_true, decide_false, Bool.false_eq_true, ite_true, ite_false, if_true, if_false, Nat.add_zero, Bool.and_true, Bool.true_and, Bool.and_false, Bool.false_and, Bool.or_true, Bool.true_or, Bool.or_false, Bool.false_or, decide_not, Bool.not_true, Bool.not_false, or_true, true_or, or_false, false_or, or_self, and_self, decide_eq_true_eq]
      rw [hx, c9, cl_talk48 V hF hh, te]
    · simp (disch := first | omega | assumption | exact isSt6 | exact isSt18 | exact isSt30) only [fX12_talk, io_206, fw_206_0, fi_206_0, fr_206_1, ia_207, bdS, ck_t, ck_T, cb_0, cb_1, ab_jn, if_true, if_false, rf_isHook g rk h12, eh, bI_0, gF_sF1, upd_1, nI00, gA_sF, c, t42, t73, nI_add, if_true, if_false]
      simp only [reduceCtorEq, if_false]
