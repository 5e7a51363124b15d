/-! ===== forged, ways, talk, row, count, seed, fault ===== -/
theorem or_lt {a b n : Nat} (ha : a < 2 ^ n) (hb : b < 2 ^ n) : a ||| b < 2 ^ n := Nat.or_lt_two_pow ha hb
theorem pHang_n {m : Nat → Int32} {n : Nat} (h10 : n ≤ 10) : ∀ k, (∀ h, h < k → m (272 + h) = -1 ∨ ∃ j, j < n ∧ m (272 + h) = nI j) → ∃ t, t < 2 ^ n ∧ pHang m k = nI t
  | 0, _ => ⟨0, Nat.two_pow_pos n, rfl⟩
  | k + 1, hu => by
    obtain ⟨t, ht, e⟩ := pHang_n h10 k (fun h hh => hu h (by omega))
    rw [pHang_S]
    rcases hu k (by omega) with e1 | ⟨j, hj, e1⟩
    · rw [if_pos e1]; exact ⟨t, ht, e⟩
    · rw [if_neg (by rw [e1, m1_ne (by omega)]; exact id), e1, e, sh1 (by omega), fa_or]
      exact ⟨t ||| 2 ^ j, or_lt ht (Nat.pow_lt_pow_right (by decide) hj), rfl⟩
def qFo (m : Nat → Int32) (n : Nat) (Y T : Int32) (s : Nat) : Bool := decide (nI s &&& (T ^^^ (-1)) = 0) && decide (Y &&& (pMk m (nI s) n ^^^ (-1)) = 0)
theorem b_not (x : Int32) {i : Nat} (hi : i < 32) : bt (x ^^^ (-1)) i = !bt x i := by rw [b_xor, b_m1 i hi]; cases bt x i <;> rfl
theorem sub_le {s t : Nat} (hs : s < 2 ^ 31) (ht : t < 2 ^ 31) (h : nI s &&& (nI t ^^^ (-1)) = 0) : s ≤ t := by
  refine Nat.le_of_testBit (fun i hi => ?_)
  have hi31 : i < 31 := by
    rcases Nat.lt_or_ge i 31 with h | h
    · exact h
    · rw [Nat.testBit_lt_two_pow (Nat.lt_of_lt_of_le hs (Nat.pow_le_pow_right (by decide) h))] at hi; cases hi
  have h1 : bt (nI s &&& (nI t ^^^ (-1))) i = bt 0 i := by rw [h]
  rw [b_and, b_not _ (by omega), b_0, bt_nI' (by omega), bt_nI' (by omega), hi] at h1
  revert h1
  cases t.testBit i <;> simp
theorem few_more {Q : Nat → Bool} {a : Nat} (h : ∀ s, a ≤ s → Q s = false) : ∀ b, few Q (a + b) = few Q a
  | 0 => rfl
  | b + 1 => by
    show few Q (a + b + 1) = _
    rw [few_S, h (a + b) (by omega), few_more h b]
    simp
theorem few_lt {Q : Nat → Bool} {a : Nat} : few Q a = -1 ∨ ∃ t, t < a ∧ few Q a = nI t := few_m1 Q a
theorem rl_forged87 (g : gG) {n : Nat} (hn : gA g 207 3 = nI n) (h10 : n ≤ 10) {F : Nat} (hF : 11000 < F) (Y : Int32) {t : Nat} (ht : t < 2 ^ n) : fX12_forged_87 F 206 Y (nI t) (gH g) F (-1) (nI 0) = some (few (qFo (gA g 207) n Y (nI t)) (t + 1), gH g) := by
  have h2 : 2 ^ n ≤ 2 ^ 10 := Nat.pow_le_pow_right (by decide) h10
  refine lp0 (L := fun F' i a => fX12_forged_87 F 206 Y (nI t) (gH g) F' a i) (n := t + 1) (fun i => few (qFo (gA g 207) n Y (nI t)) i) _ ?_ ?_ F (by omega)
  · intro F' i hi
    have hi' : i ≤ t := by omega
    have hq : qFo (gA g 207) n Y (nI t) i = (decide (nI i &&& (nI t ^^^ (-1)) = 0) && decide (Y &&& (pMk (gA g 207) (nI i) n ^^^ (-1)) = 0)) := rfl
    by_cases c2 : nI i &&& (nI t ^^^ (-1)) = 0 <;> by_cases c3 : Y &&& (pMk (gA g 207) (nI i) n ^^^ (-1)) = 0 <;> by_cases c0 : few (qFo (gA g 207) n Y (nI t)) i = -1 <;> by_cases c1 : pc (nI i) < pc (few (qFo (gA g 207) n Y (nI t)) i) <;>
    simp (disch := first | omega | assumption | exact isSt6 | exact isSt18 | exact isSt30) only [fX12_forged_87, io_206, bdS, ck_t, ck_T, cb_0, cb_1, ab_jn, if_true, if_false, rf_marksOf g hn h10 hF, rf_bits _ _ hF, pc_nlt, few_S, hq, hi', c0, c1, c2, c3, nI_add, pk_mul, nI_ltI, nI_leI, nI_eq, reduceCtorEq, m1_ne, and_true, true_and, and_false, false_and, not_true_eq_false, not_false_eq_true, ne_eq, decide_true, decide_false, Bool.false_eq_true, ite_true, ite_false, if_true, if_false, Nat.add_zero, Bool.and_true, Bool.true_and, Bool.and_false, Bool.false_and, Bool.or_true, Bool.true_or, Bool.or_false, Bool.false_or, decide_not, Bool.not_true, Bool.not_false, or_true, true_or, or_false, false_or, or_self, and_self, decide_eq_true_eq]
  · intro F'
    simp (disch := first | omega | assumption | exact isSt6 | exact isSt18 | exact isSt30) only [fX12_forged_87, io_206, bdS, ck_t, ck_T, cb_0, cb_1, ab_jn, if_true, if_false, show ¬ (t + 1 ≤ t) by omega, nI_add, pk_mul, nI_ltI, nI_leI, nI_eq, reduceCtorEq, m1_ne, and_true, true_and, and_false, false_and, not_true_eq_false, not_false_eq_true, ne_eq, decide_true, decide_false, Bool.false_eq_true, ite_true, ite_false, if_true, if_false, Nat.add_zero, Bool.and_true, Bool.true_and, Bool.and_false, Bool.false_and, Bool.or_true, Bool.true_or, Bool.or_false, Bool.false_or, decide_not, Bool.not_true, Bool.not_false, or_true, true_or, or_false, false_or, or_self, and_self, decide_eq_true_eq]
theorem cl_forged21 {g : gG} {m : Nat → Int32} {n k : Nat} (V : Sv g 6 m n k) {F : Nat} (hF : 11000 < F) (Y : Int32) {t : Nat} (ht : t < 2 ^ n) : fX11_forged_21 F 0 Y (nI t) (gH g) F (-1) (nI 0) = some (.inl (few (qFo m n Y (nI t)) (2 ^ n))) := by
  have W := V
  obtain ⟨hx, hn, h10, hk, h12, e3, e4, e5, e6, e7, e8, e11, e9, e10⟩ := W
  have h2 : 2 ^ n ≤ 2 ^ 10 := Nat.pow_le_pow_right (by decide) h10
  have h3 := sh1 (k := n) (by omega)
  refine lp0 (L := fun F' i a => fX11_forged_21 F 0 Y (nI t) (gH g) F' a i) (n := 2 ^ n) (fun i => few (qFo m n Y (nI t)) i) _ ?_ ?_ F (by omega)
  · intro F' i hi
    have hq : qFo m n Y (nI t) i = (decide (nI i &&& (nI t ^^^ (-1)) = 0) && decide (Y &&& (pMk m (nI i) n ^^^ (-1)) = 0)) := rfl
    have hw : few (qFo m n Y (nI t)) i = -1 ∨ ∃ t', t' < 4096 ∧ few (qFo m n Y (nI t)) i = nI t' := few_lt.imp id (fun ⟨t, h1, h2⟩ => ⟨t, by omega, h2⟩)
    have hf := cl_isFewer (gH g) (show i < 4096 by omega) hw
    by_cases c2 : nI i &&& (nI t ^^^ (-1)) = 0 <;> by_cases c3 : Y &&& (pMk m (nI i) n ^^^ (-1)) = 0 <;> by_cases c0 : few (qFo m n Y (nI t)) i = -1 ∨ pc (nI i) < pc (few (qFo m n Y (nI t)) i) <;>
    simp (disch := first | omega | assumption | exact isSt6 | exact isSt18 | exact isSt30) only [fX11_forged_21, io_0, fr_0_1, fi_s0, bdS, ck_t, ck_T, cb_0, cb_1, ab_jn, if_true, if_false, hn, h3, hf, cl_marksTogether V hF, few_S, bI_0, hq, hi, c0, c2, c3, nI_add, pk_mul, nI_ltI, nI_leI, nI_eq, reduceCtorEq, m1_ne, and_true, true_and, and_false, false_and, not_true_eq_false, not_false_eq_true, ne_eq, decide_true, decide_false, Bool.false_eq_true, ite_true, ite_false, if_true, if_false, Nat.add_zero, Bool.and_true, Bool.true_and, Bool.and_false, Bool.false_and, Bool.or_true, Bool.true_or, Bool.or_false, Bool.false_or, decide_not, Bool.not_true, Bool.not_false, or_true, true_or, or_false, false_or, or_self, and_self, decide_eq_true_eq]
  · intro F'
    simp (disch := first | omega | assumption | exact isSt6 | exact isSt18 | exact isSt30) only [fX11_forged_21, io_0, fr_0_1, fi_s0, bdS, ck_t, ck_T, cb_0, cb_1, ab_jn, if_true, if_false, hn, h3, Nat.lt_irrefl, nI_add, pk_mul, nI_ltI, nI_leI, nI_eq, reduceCtorEq, m1_ne, and_true, true_and, and_false, false_and, not_true_eq_false, not_false_eq_true, ne_eq, decide_true, decide_false, Bool.false_eq_true, ite_true, ite_false, if_true, if_false, Nat.add_zero, Bool.and_true, Bool.true_and, Bool.and_false, Bool.false_and, Bool.or_true, Bool.true_or, Bool.or_false, Bool.false_or, decide_not, Bool.not_true, Bool.not_false, or_true, true_or, or_false, false_or, or_self, and_self, decide_eq_true_eq]
theorem few_fo {m : Nat → Int32} {n t : Nat} {Y : Int32} (h10 : n ≤ 10) (ht : t < 2 ^ n) : few (qFo m n Y (nI t)) (2 ^ n) = few (qFo m n Y (nI t)) (t + 1) := by
  have h2 : 2 ^ n ≤ 2 ^ 10 := Nat.pow_le_pow_right (by decide) h10
  have e : 2 ^ n = t + 1 + (2 ^ n - (t + 1)) := by omega
  have h3 : ∀ s, t + 1 ≤ s → s < 2 ^ 31 → qFo m n Y (nI t) s = false := by
    intro s hs hl
    unfold qFo
    rw [decide_eq_false (fun h => by have := sub_le hl (by omega) h; omega), Bool.false_and]
  have h4 : ∀ b, t + 1 + b ≤ 2 ^ 10 → few (qFo m n Y (nI t)) (t + 1 + b) = few (qFo m n Y (nI t)) (t + 1) := by
    intro b
    induction b with
    | zero => intro _; rfl
    | succ b ih =>
      intro hb
      rw [show t + 1 + (b + 1) = t + 1 + b + 1 by omega, few_S, h3 _ (by omega) (by omega), ih (by omega)]
      simp
  rw [e]
  exact h4 _ (by omega)
theorem ca_forged {g : gG} {n k : Nat} (V : Sv g 6 (gA g 207) n k) (R : Rv g n k) (hu : ∀ h, h < k → gA g 207 (272 + h) = -1 ∨ ∃ j, j < n ∧ gA g 207 (272 + h) = nI j) (x : Int32) {F : Nat} (hF : 11000 < F) : ∃ r v t, fX11_forged F 0 x (gH g) = some r ∧ fX12_forged F 206 x (gH g) = some (v, gH (sF g 206 0 t)) ∧ Ag r v t [eAr] := by
  obtain ⟨rn, h10, rk, h12⟩ := R
  cases e1 : decide (¬ x < nI 0 ∧ x ≤ nI 255)
  · refine ⟨.inr eAr, nI 0, nI 1, ?_, ?_, 0, by decide, rfl, rfl⟩
    · simp (disch := first | omega | assumption | exact isSt6 | exact isSt18 | exact isSt30) only [fX11_forged, io_s, fr_0_1, ab_bd_some, ck_t, ck_T, cb_0, cb_1, ab_jn, if_true, if_false, cl_needNumber, e1, bx_r, reduceCtorEq, m1_ne, and_true, true_and, and_false, false_and, not_true_eq_false, not_false_eq_true, ne_eq, decide_true, decide_false, Bool.false_eq_true, ite_true, ite_false, if_true, if_false, Nat.add_zero, Bool.and_true, Bool.true_and, Bool.and_false, Bool.false_and, Bool.or_true, Bool.true_or, Bool.or_false, Bool.false_or, decide_not, Bool.not_true, Bool.not_false, or_true, true_or, or_false, false_or, or_self, and_self, decide_eq_true_eq]
    · simp (disch := first | omega | assumption | exact isSt6 | exact isSt18 | exact isSt30) only [fX12_forged, fw_206_0, fi_206_0, ab_bd_some, ck_t, ck_T, cb_0, cb_1, ab_jn, if_true, if_false, rf_isIn, e1, bI_0, gF_sF1, upd_1, nI10, reduceCtorEq, m1_ne, and_true, true_and, and_false, false_and, not_true_eq_false, not_false_eq_true, ne_eq, decide_true, decide_false, Bool.false_eq_true, ite_true, ite_false, if_true, if_false, Nat.add_zero, Bool.and_true, Bool.true_and, Bool.and_false, Bool.false_and, Bool.or_true, Bool.true_or, Bool.or_false, Bool.false_or, decide_not, Bool.not_true, Bool.not_false, or_true, true_or, or_false, false_or, or_self, and_self, decide_eq_true_eq]
  obtain ⟨t, ht, et⟩ := pHang_n h10 k hu
  apply ag_ok (v := few (qFo (gA g 207) n x (nI t)) (t + 1))
  · simp (disch := first | omega | assumption | exact isSt6 | exact isSt18 | exact isSt30) only [fX11_forged, io_s, fr_0_1, bdS, ck_t, ck_T, cb_0, cb_1, ab_jn, if_true, if_false, io_s g isSt6, cl_needNumber, cl_hangingFaces V hF, et, e1, bx_l, reduceCtorEq, m1_ne, and_true, true_and, and_false, false_and, not_true_eq_false, not_false_eq_true, ne_eq, decide_true, decide_false, Bool.false_eq_true, ite_true, ite_false, if_true, if_false, Nat.add_zero, Bool.and_true, Bool.true_and, Bool.and_false, Bool.false_and, Bool.or_true, Bool.true_or, Bool.or_false, Bool.false_or, decide_not, Bool.not_true, Bool.not_false, or_true, true_or, or_false, false_or, or_self, and_self, decide_eq_true_eq]
    rw [cl_forged21 V hF x ht, few_fo h10 ht]
  · simp (disch := first | omega | assumption | exact isSt6 | exact isSt18 | exact isSt30) only [fX12_forged, fw_206_0, fi_206_0, bdS, ck_t, ck_T, cb_0, cb_1, ab_jn, if_true, if_false, rf_isIn, e1, bI_0, gF_sF1, upd_1, nI00, reduceCtorEq, m1_ne, and_true, true_and, and_false, false_and, not_true_eq_false, not_false_eq_true, ne_eq, decide_true, decide_false, Bool.false_eq_true, ite_true, ite_false, if_true, if_false, Nat.add_zero, Bool.and_true, Bool.true_and, Bool.and_false, Bool.false_and, Bool.or_true, Bool.true_or, Bool.or_false, Bool.false_or, decide_not, Bool.not_true, Bool.not_false, or_true, true_or, or_false, false_or, or_self, and_self, decide_eq_true_eq]
    rw [rl_forged33 (sF g 206 0 (nI 0)) rk h12 hF, gA_sF, et]
    exact rl_forged87 (sF g 206 0 (nI 0)) rn h10 hF x ht
