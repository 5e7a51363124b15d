/-! ===== what is asked, of both: lost, unclaimed, saved, marks .. ===== -/
theorem rf_of0 (g : gG) {p : Nat} (h : 12 + 6 * p < 984) : fX12_of 206 (nI p) (nI 0) (gH g) = some (gA g 207 (12 + 6 * p)) := rf_of g (w := 0) h
theorem fnd_m1 {P : Nat → Bool} {n : Nat} (hn : n < 2 ^ 31) : decide (fnd P n = -1) = !exB P n := by
  rcases fnd_cases P n with ⟨e, h⟩ | ⟨i, hi, hP, _, e⟩
  · rw [e, exB_f.mpr h]; rfl
  · rw [e, exB_t.mpr ⟨i, hi, hP⟩, decide_eq_false (by rw [m1_ne (by omega)]; exact id)]; rfl
theorem fnd_m1' {P : Nat → Bool} {n : Nat} (hn : n < 2 ^ 31) : (fnd P n = -1) ↔ exB P n = false := by
  have := fnd_m1 (P := P) hn
  rw [← decide_eq_true_iff (p := fnd P n = -1), this]
  cases exB P n <;> simp
theorem rf_isLost (g : gG) {n k : Nat} (hn : gA g 207 3 = nI n) (h10 : n ≤ 10) (hk : gA g 207 4 = nI k) (h12 : k ≤ 12) {F : Nat} (hF : 11000 < F) (f : Int32) : fX12_isLost F 206 f (gH g) = some (bI (!exB (fun p => gA g 207 (12 + 6 * p + 2) = f) n && !exB (fun p => gA g 207 (272 + p) = f) k)) := by
  simp (disch := omega) only [fX12_isLost, io_206, ab_bd_some, ck_t, ck_T, cb_0, cb_1, ab_jn, if_true, if_false, rf_wearer g hn h10 f (show 20 < F by omega), rf_hookOf g hk h12 f (show 20 < F by omega), fnd_m1']
  cases exB (fun p => decide (gA g 207 (12 + 6 * p + 2) = f)) n <;> cases exB (fun p => decide (gA g 207 (272 + p) = f)) k <;> rfl
theorem cl_isLost {g : gG} {x : Nat} {m : Nat → Int32} {n k : Nat} (V : Sv g x m n k) {F : Nat} (hF : 11000 < F) (f : Int32) : fX8_isLost F x f (gH g) = some (bI (!exB (fun p => m (12 + 6 * p + 2) = f) n && !exB (fun p => m (272 + p) = f) k)) := by
  have W := V
  obtain ⟨hx, hn, h10, hk, h12, e3, e4, e5, e6, e7, e8, e11, e9, e10⟩ := W
  simp (disch := first | omega | assumption | exact isSt6 | exact isSt18 | exact isSt30) only [fX8_isLost, io_s, ab_bd_some, ck_t, ck_T, cb_0, cb_1, ab_jn, if_true, if_false, cl_wearerOf V hF f, cl_hookOf V hF f, fnd_m1']
  cases exB (fun p => decide (m (12 + 6 * p + 2) = f)) n <;> cases exB (fun p => decide (m (272 + p) = f)) k <;> rfl
theorem rl_lost (g : gG) {n k : Nat} (hn : gA g 207 3 = nI n) (h10 : n ≤ 10) (hk : gA g 207 4 = nI k) (h12 : k ≤ 12) {F : Nat} (hF : 11000 < F) : fX12_lost_9 F 206 (gH g) F (nI 0) (nI 0) = some ((nI (st (fun f => !exB (fun p => gA g 207 (12 + 6 * p + 2) = nI f) n && !exB (fun p => gA g 207 (272 + p) = nI f) k) n)), gH g) := by

  refine lp0 (L := fun F' i a => fX12_lost_9 F 206 (gH g) F' a i) (n := n) (fun i => nI (st (fun f => !exB (fun p => gA g 207 (12 + 6 * p + 2) = nI f) n && !exB (fun p => gA g 207 (272 + p) = nI f) k) i)) _ ?_ ?_ F (by omega)
  · intro F i hi

    by_cases c0 : exB (fun p => gA g 207 (12 + 6 * p + 2) = nI i) n = true <;> by_cases c1 : exB (fun p => gA g 207 (272 + p) = nI i) k = true <;>
    simp (disch := first | omega | assumption | exact isSt6 | exact isSt18 | exact isSt30) only [fX12_lost_9, io_206, fr_206_1, ia_207, ab_bd_some, ck_t, ck_T, cb_0, cb_1, ab_jn, if_true, if_false, hn, rf_isLost g hn h10 hk h12 hF, sh1, st, or_st, or_0, bI_0, Bool.not_eq_true, hi, c0, c1, nI_add, pk_mul, nI_ltI, nI_leI, nI_eq, reduceCtorEq, m1_ne, and_true, true_and, and_false, false_and, not_true_eq_false, not_false_eq_true, ne_eq, decide_true, decide_false, Bool.false_eq_true, ite_true, ite_false, if_true, if_false, Nat.add_zero, Bool.and_true, Bool.true_and, Bool.and_false, Bool.false_and, Bool.or_true, Bool.true_or, Bool.or_false, Bool.false_or, decide_not, Bool.not_true, Bool.not_false, or_true, true_or, or_false, false_or, or_self, and_self, decide_eq_true_eq]
  · intro F
    simp (disch := first | omega | assumption | exact isSt6 | exact isSt18 | exact isSt30) only [fX12_lost_9, io_206, fr_206_1, ia_207, ab_bd_some, ck_t, ck_T, cb_0, cb_1, ab_jn, if_true, if_false, hn, rf_isLost g hn h10 hk h12 hF, sh1, Nat.lt_irrefl, nI_add, pk_mul, nI_ltI, nI_leI, nI_eq]
theorem rf_lost (g : gG) {n k : Nat} (hn : gA g 207 3 = nI n) (h10 : n ≤ 10) (hk : gA g 207 4 = nI k) (h12 : k ≤ 12) {F : Nat} (hF : 11000 < F) : fX12_lost F 206 (gH g) = some (nI (st (fun f => !exB (fun p => gA g 207 (12 + 6 * p + 2) = nI f) n && !exB (fun p => gA g 207 (272 + p) = nI f) k) n), gH (sF g 206 0 (nI 0))) := by
  simp only [fX12_lost, fw_206_0, ab_bd_some, ck_t, ck_T, cb_0, cb_1, ab_jn, if_true, if_false]
  exact rl_lost (sF g 206 0 (nI 0)) hn h10 hk h12 hF
theorem cl_lost {g : gG} {m : Nat → Int32} {n k : Nat} (V : Sv g 6 m n k) {F : Nat} (hF : 11000 < F) : fX11_lost F 0 (gH g) = some ((nI (st (fun f => !exB (fun p => m (12 + 6 * p + 2) = nI f) n && !exB (fun p => m (272 + p) = nI f) k) n))) := by
  have W := V
  obtain ⟨hx, hn, h10, hk, h12, e3, e4, e5, e6, e7, e8, e11, e9, e10⟩ := W
  unfold fX11_lost
  refine lp0 (L := fun F' i a => fX11_lost_4 F 0 (gH g) F' a i) (n := n) (fun i => nI (st (fun f => !exB (fun p => m (12 + 6 * p + 2) = nI f) n && !exB (fun p => m (272 + p) = nI f) k) i)) _ ?_ ?_ F (by omega)
  · intro F i hi

    by_cases c0 : exB (fun p => m (12 + 6 * p + 2) = nI i) n = true <;> by_cases c1 : exB (fun p => m (272 + p) = nI i) k = true <;>
    simp (disch := first | omega | assumption | exact isSt6 | exact isSt18 | exact isSt30) only [fX11_lost_4, fr_0_1, fi_s0, io_s, isSt6, ab_bd_some, ck_t, ck_T, cb_0, cb_1, ab_jn, if_true, if_false, hn, cl_isLost V hF, sh1, st, or_st, or_0, bI_0, Bool.not_eq_true, hi, c0, c1, nI_add, pk_mul, nI_ltI, nI_leI, nI_eq, reduceCtorEq, m1_ne, and_true, true_and, and_false, false_and, not_true_eq_false, not_false_eq_true, ne_eq, decide_true, decide_false, Bool.false_eq_true, ite_true, ite_false, if_true, if_false, Nat.add_zero, Bool.and_true, Bool.true_and, Bool.and_false, Bool.false_and, Bool.or_true, Bool.true_or, Bool.or_false, Bool.false_or, decide_not, Bool.not_true, Bool.not_false, or_true, true_or, or_false, false_or, or_self, and_self, decide_eq_true_eq]
  · intro F
    simp (disch := first | omega | assumption | exact isSt6 | exact isSt18 | exact isSt30) only [fX11_lost_4, fr_0_1, fi_s0, io_s, isSt6, ab_bd_some, ck_t, ck_T, cb_0, cb_1, ab_jn, if_true, if_false, hn, cl_isLost V hF, sh1, Nat.lt_irrefl, nI_add, pk_mul, nI_ltI, nI_leI, nI_eq]
/-- what a loop adds up -/
def it {α : Type} (f : Nat → α → α) (a : α) : Nat → α
  | 0 => a
  | n + 1 => f n (it f a n)
theorem rl_unclaimed (g : gG) {n k : Nat} (hn : gA g 207 3 = nI n) (h10 : n ≤ 10) (hk : gA g 207 4 = nI k) (h12 : k ≤ 12) {F : Nat} (hF : 11000 < F) : fX12_unclaimed_9 F 206 (gH g) F (nI 0) (nI 0) = some ((it (fun h a => if gA g 207 (272 + h) = -1 then a else if exB (fun p => gA g 207 (12 + 6 * p + 3) = nI h) n = true then a else a ||| (nI 1 <<< (gA g 207 (272 + h) &&& 31))) (nI 0) k), gH g) := by

  refine lp0 (L := fun F' i a => fX12_unclaimed_9 F 206 (gH g) F' a i) (n := k) (fun i => it (fun h a => if gA g 207 (272 + h) = -1 then a else if exB (fun p => gA g 207 (12 + 6 * p + 3) = nI h) n = true then a else a ||| (nI 1 <<< (gA g 207 (272 + h) &&& 31))) (nI 0) i) _ ?_ ?_ F (by omega)
  · intro F i hi

    by_cases c0 : gA g 207 (272 + i) = -1 <;> by_cases c1 : exB (fun p => gA g 207 (12 + 6 * p + 3) = nI i) n = true <;>
    simp (disch := first | omega | assumption | exact isSt6 | exact isSt18 | exact isSt30) only [fX12_unclaimed_9, io_206, fr_206_1, ia_207, ab_bd_some, ck_t, ck_T, cb_0, cb_1, ab_jn, if_true, if_false, hk, rf_hasTicketOf g hn h10 hF, it, or_0, bI_0, Bool.not_eq_true, hi, c0, c1, nI_add, pk_mul, nI_ltI, nI_leI, nI_eq, reduceCtorEq, m1_ne, and_true, true_and, and_false, false_and, not_true_eq_false, not_false_eq_true, ne_eq, decide_true, decide_false, Bool.false_eq_true, ite_true, ite_false, if_true, if_false, Nat.add_zero, Bool.and_true, Bool.true_and, Bool.and_false, Bool.false_and, Bool.or_true, Bool.true_or, Bool.or_false, Bool.false_or, decide_not, Bool.not_true, Bool.not_false, or_true, true_or, or_false, false_or, or_self, and_self, decide_eq_true_eq]
  · intro F
    simp (disch := first | omega | assumption | exact isSt6 | exact isSt18 | exact isSt30) only [fX12_unclaimed_9, io_206, fr_206_1, ia_207, ab_bd_some, ck_t, ck_T, cb_0, cb_1, ab_jn, if_true, if_false, hk, rf_hasTicketOf g hn h10 hF, Nat.lt_irrefl, nI_add, pk_mul, nI_ltI, nI_leI, nI_eq]
theorem rf_unclaimed (g : gG) {n k : Nat} (hn : gA g 207 3 = nI n) (h10 : n ≤ 10) (hk : gA g 207 4 = nI k) (h12 : k ≤ 12) {F : Nat} (hF : 11000 < F) : fX12_unclaimed F 206 (gH g) = some (it (fun h a => if gA g 207 (272 + h) = -1 then a else if exB (fun p => gA g 207 (12 + 6 * p + 3) = nI h) n = true then a else a ||| (nI 1 <<< (gA g 207 (272 + h) &&& 31))) (nI 0) k, gH (sF g 206 0 (nI 0))) := by
  simp only [fX12_unclaimed, fw_206_0, ab_bd_some, ck_t, ck_T, cb_0, cb_1, ab_jn, if_true, if_false]
  exact rl_unclaimed (sF g 206 0 (nI 0)) hn h10 hk h12 hF
theorem cl_unclaimed {g : gG} {m : Nat → Int32} {n k : Nat} (V : Sv g 6 m n k) {F : Nat} (hF : 11000 < F) : fX11_unclaimed F 0 (gH g) = some ((it (fun h a => if m (272 + h) = -1 then a else if exB (fun p => m (12 + 6 * p + 3) = nI h) n = true then a else a ||| (nI 1 <<< (m (272 + h) &&& 31))) (nI 0) k)) := by
  have W := V
  obtain ⟨hx, hn, h10, hk, h12, e3, e4, e5, e6, e7, e8, e11, e9, e10⟩ := W
  unfold fX11_unclaimed
  refine lp0 (L := fun F' i a => fX11_unclaimed_4 F 0 (gH g) F' a i) (n := k) (fun i => it (fun h a => if m (272 + h) = -1 then a else if exB (fun p => m (12 + 6 * p + 3) = nI h) n = true then a else a ||| (nI 1 <<< (m (272 + h) &&& 31))) (nI 0) i) _ ?_ ?_ F (by omega)
  · intro F i hi

    by_cases c0 : m (272 + i) = -1 <;> by_cases c1 : exB (fun p => m (12 + 6 * p + 3) = nI i) n = true <;>
    simp (disch := first | omega | assumption | exact isSt6 | exact isSt18 | exact isSt30) only [fX11_unclaimed_4, io_s, fr_0_1, fi_s1, fr_s17, ia_s11, ab_bd_some, ck_t, ck_T, cb_0, cb_1, ab_jn, if_true, if_false, hk, e11, cl_ticketIsOut V hF, it, or_0, bI_0, Bool.not_eq_true, hi, c0, c1, nI_add, pk_mul, nI_ltI, nI_leI, nI_eq, reduceCtorEq, m1_ne, and_true, true_and, and_false, false_and, not_true_eq_false, not_false_eq_true, ne_eq, decide_true, decide_false, Bool.false_eq_true, ite_true, ite_false, if_true, if_false, Nat.add_zero, Bool.and_true, Bool.true_and, Bool.and_false, Bool.false_and, Bool.or_true, Bool.true_or, Bool.or_false, Bool.false_or, decide_not, Bool.not_true, Bool.not_false, or_true, true_or, or_false, false_or, or_self, and_self, decide_eq_true_eq]
  · intro F
    simp (disch := first | omega | assumption | exact isSt6 | exact isSt18 | exact isSt30) only [fX11_unclaimed_4, io_s, fr_0_1, fi_s1, fr_s17, ia_s11, ab_bd_some, ck_t, ck_T, cb_0, cb_1, ab_jn, if_true, if_false, hk, e11, cl_ticketIsOut V hF, Nat.lt_irrefl, nI_add, pk_mul, nI_ltI, nI_leI, nI_eq]
theorem rl_saved (g : gG) {n : Nat} (hn : gA g 207 3 = nI n) (h10 : n ≤ 10) {F : Nat} (hF : 11000 < F) (hs : ∀ p, p < n → gA g 207 (12 + 6 * p + 4) = -1 ∨ ∃ j, j < n ∧ gA g 207 (12 + 6 * p + 4) = nI j) : fX12_saved_9 206 (gH g) F (nI 0) (nI 0) = some (nI (st (fun p => decide (¬ gA g 207 (12 + 6 * p + 4) = -1) && decide (gA g 207 (12 + 6 * p + 2) = gA g 207 (12 + 6 * p + 4)) && decide (gA g 207 (12 + 6 * nv (gA g 207 (12 + 6 * p + 4)) + 2) = nI p)) n), gH g) := by
  refine lp0 (L := fun F' i a => fX12_saved_9 206 (gH g) F' a i) (n := n) (fun i => nI (st (fun p => decide (¬ gA g 207 (12 + 6 * p + 4) = -1) && decide (gA g 207 (12 + 6 * p + 2) = gA g 207 (12 + 6 * p + 4)) && decide (gA g 207 (12 + 6 * nv (gA g 207 (12 + 6 * p + 4)) + 2) = nI p)) i)) _ ?_ ?_ F (by omega)
  · intro F i hi
    rcases hs i hi with e | ⟨j, hj, e⟩
    · simp (disch := first | omega | assumption | exact isSt6 | exact isSt18 | exact isSt30) only [fX12_saved_9, io_206, fr_206_1, ia_207, ab_bd_some, ck_t, ck_T, cb_0, cb_1, ab_jn, if_true, if_false, hn, rf_of, sh1, st, or_st, or_0, hi, e, nI_add, pk_mul, nI_ltI, nI_leI, nI_eq, reduceCtorEq, m1_ne, and_true, true_and, and_false, false_and, not_true_eq_false, not_false_eq_true, ne_eq, decide_true, decide_false, Bool.false_eq_true, ite_true, ite_false, if_true, if_false, Nat.add_zero, Bool.and_true, Bool.true_and, Bool.and_false, Bool.false_and, Bool.or_true, Bool.true_or, Bool.or_false, Bool.false_or, decide_not, Bool.not_true, Bool.not_false, or_true, true_or, or_false, false_or, or_self, and_self, decide_eq_true_eq]
    · by_cases c1 : gA g 207 (12 + 6 * i + 2) = nI j <;> by_cases c2 : gA g 207 (12 + 6 * j + 2) = nI i <;>
      simp (disch := first | omega | assumption | exact isSt6 | exact isSt18 | exact isSt30) only [fX12_saved_9, io_206, fr_206_1, ia_207, ab_bd_some, ck_t, ck_T, cb_0, cb_1, ab_jn, if_true, if_false, hn, rf_of, sh1, st, or_st, or_0, hi, e, c1, c2, nv_nI, nI_add, pk_mul, nI_ltI, nI_leI, nI_eq, reduceCtorEq, m1_ne, and_true, true_and, and_false, false_and, not_true_eq_false, not_false_eq_true, ne_eq, decide_true, decide_false, Bool.false_eq_true, ite_true, ite_false, if_true, if_false, Nat.add_zero, Bool.and_true, Bool.true_and, Bool.and_false, Bool.false_and, Bool.or_true, Bool.true_or, Bool.or_false, Bool.false_or, decide_not, Bool.not_true, Bool.not_false, or_true, true_or, or_false, false_or, or_self, and_self, decide_eq_true_eq]
  · intro F
    simp (disch := first | omega | assumption | exact isSt6 | exact isSt18 | exact isSt30) only [fX12_saved_9, io_206, fr_206_1, ia_207, ab_bd_some, ck_t, ck_T, cb_0, cb_1, ab_jn, if_true, if_false, hn, Nat.lt_irrefl, nI_add, pk_mul, nI_ltI, nI_leI, nI_eq]
theorem rf_saved (g : gG) {n : Nat} (hn : gA g 207 3 = nI n) (h10 : n ≤ 10) {F : Nat} (hF : 11000 < F) (hs : ∀ p, p < n → gA g 207 (12 + 6 * p + 4) = -1 ∨ ∃ j, j < n ∧ gA g 207 (12 + 6 * p + 4) = nI j) : fX12_saved F 206 (gH g) = some (nI (st (fun p => decide (¬ gA g 207 (12 + 6 * p + 4) = -1) && decide (gA g 207 (12 + 6 * p + 2) = gA g 207 (12 + 6 * p + 4)) && decide (gA g 207 (12 + 6 * nv (gA g 207 (12 + 6 * p + 4)) + 2) = nI p)) n), gH (sF g 206 0 (nI 0))) := by
  simp only [fX12_saved, fw_206_0, ab_bd_some, ck_t, ck_T, cb_0, cb_1, ab_jn, if_true, if_false]
  exact rl_saved (sF g 206 0 (nI 0)) hn h10 hF hs
theorem cl_saved {g : gG} {m : Nat → Int32} {n k : Nat} (V : Sv g 6 m n k) {F : Nat} (hF : 11000 < F) (hs : ∀ p, p < n → m (12 + 6 * p + 4) = -1 ∨ ∃ j, j < n ∧ m (12 + 6 * p + 4) = nI j) : fX11_saved F 0 (gH g) = some (nI (st (fun p => decide (¬ m (12 + 6 * p + 4) = -1) && decide (m (12 + 6 * p + 2) = m (12 + 6 * p + 4)) && decide (m (12 + 6 * nv (m (12 + 6 * p + 4)) + 2) = nI p)) n)) := by
  have W := V
  obtain ⟨hx, hn, h10, hk, h12, e3, e4, e5, e6, e7, e8, e11, e9, e10⟩ := W
  unfold fX11_saved
  refine lp0 (L := fun F' i a => fX11_saved_4 0 (gH g) F' a i) (n := n) (fun i => nI (st (fun p => decide (¬ m (12 + 6 * p + 4) = -1) && decide (m (12 + 6 * p + 2) = m (12 + 6 * p + 4)) && decide (m (12 + 6 * nv (m (12 + 6 * p + 4)) + 2) = nI p)) i)) _ ?_ ?_ F (by omega)
  · intro F i hi
    rcases hs i hi with e | ⟨j, hj, e⟩
    · simp (disch := first | omega | assumption | exact isSt6 | exact isSt18 | exact isSt30) only [fX11_saved_4, fr_0_1, fi_s0, fr_s13, ia_s7, fr_s11, ia_s5, ab_bd_some, ck_t, ck_T, cb_0, cb_1, ab_jn, if_true, if_false, hn, e5, e7, sh1, st, or_st, or_0, hi, e, nI_add, pk_mul, nI_ltI, nI_leI, nI_eq, reduceCtorEq, m1_ne, and_true, true_and, and_false, false_and, not_true_eq_false, not_false_eq_true, ne_eq, decide_true, decide_false, Bool.false_eq_true, ite_true, ite_false, if_true, if_false, Nat.add_zero, Bool.and_true, Bool.true_and, Bool.and_false, Bool.false_and, Bool.or_true, Bool.true_or, Bool.or_false, Bool.false_or, decide_not, Bool.not_true, Bool.not_false, or_true, true_or, or_false, false_or, or_self, and_self, decide_eq_true_eq]
    · by_cases c1 : m (12 + 6 * i + 2) = nI j <;> by_cases c2 : m (12 + 6 * j + 2) = nI i <;>
      simp (disch := first | omega | assumption | exact isSt6 | exact isSt18 | exact isSt30) only [fX11_saved_4, fr_0_1, fi_s0, fr_s13, ia_s7, fr_s11, ia_s5, ab_bd_some, ck_t, ck_T, cb_0, cb_1, ab_jn, if_true, if_false, hn, e5, e7, sh1, st, or_st, or_0, hi, e, c1, c2, nv_nI, nI_add, pk_mul, nI_ltI, nI_leI, nI_eq, reduceCtorEq, m1_ne, and_true, true_and, and_false, false_and, not_true_eq_false, not_false_eq_true, ne_eq, decide_true, decide_false, Bool.false_eq_true, ite_true, ite_false, if_true, if_false, Nat.add_zero, Bool.and_true, Bool.true_and, Bool.and_false, Bool.false_and, Bool.or_true, Bool.true_or, Bool.or_false, Bool.false_or, decide_not, Bool.not_true, Bool.not_false, or_true, true_or, or_false, false_or, or_self, and_self, decide_eq_true_eq]
  · intro F
    simp (disch := first | omega | assumption | exact isSt6 | exact isSt18 | exact isSt30) only [fX11_saved_4, fr_0_1, fi_s0, fr_s13, ia_s7, fr_s11, ia_s5, ab_bd_some, ck_t, ck_T, cb_0, cb_1, ab_jn, if_true, if_false, hn, Nat.lt_irrefl, nI_add, pk_mul, nI_ltI, nI_leI, nI_eq]
theorem rf_alike (g : gG) {n : Nat} (hn : gA g 207 3 = nI n) (h10 : n ≤ 10) {F : Nat} (hF : 11000 < F) {f : Nat} (hf : f < n) : fX12_alike F 206 (nI f) (gH g) = some ((nI (st (fun o => decide (¬ o = f) && decide (gA g 207 (12 + 6 * o) = gA g 207 (12 + 6 * f))) n))) := by
  unfold fX12_alike
  refine lp0 (L := fun F' i a => fX12_alike_4 206 (nI f) (gH g) F' a i) (n := n) (fun i => nI (st (fun o => decide (¬ o = f) && decide (gA g 207 (12 + 6 * o) = gA g 207 (12 + 6 * f))) i)) _ ?_ ?_ F (by omega)
  · intro F i hi

    by_cases c0 : i = f <;> by_cases c1 : gA g 207 (12 + 6 * i) = gA g 207 (12 + 6 * f) <;>
    simp (disch := first | omega | assumption | exact isSt6 | exact isSt18 | exact isSt30) only [fX12_alike_4, io_206, fr_206_1, ia_207, ab_bd_some, ck_t, ck_T, cb_0, cb_1, ab_jn, if_true, if_false, hn, hf, rf_of0, sh1, st, or_st, or_0, hi, c0, c1, nI_add, pk_mul, nI_ltI, nI_leI, nI_eq, reduceCtorEq, m1_ne, and_true, true_and, and_false, false_and, not_true_eq_false, not_false_eq_true, ne_eq, decide_true, decide_false, Bool.false_eq_true, ite_true, ite_false, if_true, if_false, Nat.add_zero, Bool.and_true, Bool.true_and, Bool.and_false, Bool.false_and, Bool.or_true, Bool.true_or, Bool.or_false, Bool.false_or, decide_not, Bool.not_true, Bool.not_false, or_true, true_or, or_false, false_or, or_self, and_self, decide_eq_true_eq]
  · intro F
    simp (disch := first | omega | assumption | exact isSt6 | exact isSt18 | exact isSt30) only [fX12_alike_4, io_206, fr_206_1, ia_207, ab_bd_some, ck_t, ck_T, cb_0, cb_1, ab_jn, if_true, if_false, hn, hf, rf_of0, sh1, Nat.lt_irrefl, nI_add, pk_mul, nI_ltI, nI_leI, nI_eq]
theorem cl_sameAs {g : gG} {x : Nat} {m : Nat → Int32} {n k : Nat} (V : Sv g x m n k) {F : Nat} (hF : 11000 < F) {r : Nat} {v : Nat → Int32} (hr : ∀ p, p < n → ab_ia 0 (gH g) r (nI p) = some (v p)) {f : Nat} (hf : f < n) : fX8_sameAs F x r (nI f) (gH g) = some (nI (st (fun o => decide (¬ o = f) && decide (v o = v f)) n)) := by
  have W := V
  obtain ⟨hx, hn, h10, hk, h12, e3, e4, e5, e6, e7, e8, e11, e9, e10⟩ := W
  unfold fX8_sameAs
  refine lp0 (L := fun F' i a => fX8_sameAs_5 x r (nI f) (gH g) F' a i) (n := n) (fun i => nI (st (fun o => decide (¬ o = f) && decide (v o = v f)) i)) _ ?_ ?_ F (by omega)
  · intro F i hi
    by_cases c0 : i = f <;> by_cases c1 : v i = v f <;>
    simp (disch := first | omega | assumption | exact isSt6 | exact isSt18 | exact isSt30) only [fX8_sameAs_5, fi_s0, ab_bd_some, ck_t, ck_T, cb_0, cb_1, ab_jn, if_true, if_false, hn, hf, hr, sh1, st, or_st, hi, c0, c1, nI_add, pk_mul, nI_ltI, nI_leI, nI_eq, reduceCtorEq, m1_ne, and_true, true_and, and_false, false_and, not_true_eq_false, not_false_eq_true, ne_eq, decide_true, decide_false, Bool.false_eq_true, ite_true, ite_false, if_true, if_false, Nat.add_zero, Bool.and_true, Bool.true_and, Bool.and_false, Bool.false_and, Bool.or_true, Bool.true_or, Bool.or_false, Bool.false_or, decide_not, Bool.not_true, Bool.not_false, or_true, true_or, or_false, false_or, or_self, and_self, decide_eq_true_eq]
  · intro F
    simp (disch := first | omega | assumption | exact isSt6 | exact isSt18 | exact isSt30) only [fX8_sameAs_5, fi_s0, ab_bd_some, ck_t, ck_T, cb_0, cb_1, ab_jn, if_true, if_false, hn, Nat.lt_irrefl, nI_add, pk_mul, nI_ltI, nI_leI, nI_eq]
theorem rf_marksNow (g : gG) {n : Nat} (hn : gA g 207 3 = nI n) (h10 : n ≤ 10) {F : Nat} (hF : 11000 < F) : fX12_marksNow F 206 (gH g) = some ((it (fun p a => a + nI (pc (gA g 207 (12 + 6 * p)))) (nI 0) n)) := by
  unfold fX12_marksNow
  refine lp0 (L := fun F' i a => fX12_marksNow_4 F 206 (gH g) F' a i) (n := n) (fun i => it (fun p a => a + nI (pc (gA g 207 (12 + 6 * p)))) (nI 0) i) _ ?_ ?_ F (by omega)
  · intro F i hi

    simp (disch := first | omega | assumption | exact isSt6 | exact isSt18 | exact isSt30) only [fX12_marksNow_4, io_206, fr_206_1, ia_207, ab_bd_some, ck_t, ck_T, cb_0, cb_1, ab_jn, if_true, if_false, hn, rf_of0, rf_bits _ _ hF, it, hi, nI_add, pk_mul, nI_ltI, nI_leI, nI_eq, reduceCtorEq, m1_ne, and_true, true_and, and_false, false_and, not_true_eq_false, not_false_eq_true, ne_eq, decide_true, decide_false, Bool.false_eq_true, ite_true, ite_false, if_true, if_false, Nat.add_zero, Bool.and_true, Bool.true_and, Bool.and_false, Bool.false_and, Bool.or_true, Bool.true_or, Bool.or_false, Bool.false_or, decide_not, Bool.not_true, Bool.not_false, or_true, true_or, or_false, false_or, or_self, and_self, decide_eq_true_eq]
  · intro F
    simp (disch := first | omega | assumption | exact isSt6 | exact isSt18 | exact isSt30) only [fX12_marksNow_4, io_206, fr_206_1, ia_207, ab_bd_some, ck_t, ck_T, cb_0, cb_1, ab_jn, if_true, if_false, hn, rf_of0, rf_bits _ _ hF, Nat.lt_irrefl, nI_add, pk_mul, nI_ltI, nI_leI, nI_eq]
theorem cl_allMarksCount {g : gG} {x : Nat} {m : Nat → Int32} {n k : Nat} (V : Sv g x m n k) {F : Nat} (hF : 11000 < F) (hb : ∀ p, p < n → nv (m (12 + 6 * p)) < 4096) : fX8_allMarksCount F x (gH g) = some ((it (fun p a => a + nI (pc (m (12 + 6 * p)))) (nI 0) n)) := by
  have W := V
  obtain ⟨hx, hn, h10, hk, h12, e3, e4, e5, e6, e7, e8, e11, e9, e10⟩ := W
  unfold fX8_allMarksCount
  refine lp0 (L := fun F' i a => fX8_allMarksCount_4 x (gH g) F' a i) (n := n) (fun i => it (fun p a => a + nI (pc (m (12 + 6 * p)))) (nI 0) i) _ ?_ ?_ F (by omega)
  · intro F i hi

    simp (disch := first | omega | assumption | exact isSt6 | exact isSt18 | exact isSt30) only [fX8_allMarksCount_4, fi_s0, fr_s9, ia_s3, ab_bd_some, ck_t, ck_T, cb_0, cb_1, ab_jn, if_true, if_false, hn, e3, it, cl_bitCountX _ (hb i hi), hi, nI_add, pk_mul, nI_ltI, nI_leI, nI_eq, reduceCtorEq, m1_ne, and_true, true_and, and_false, false_and, not_true_eq_false, not_false_eq_true, ne_eq, decide_true, decide_false, Bool.false_eq_true, ite_true, ite_false, if_true, if_false, Nat.add_zero, Bool.and_true, Bool.true_and, Bool.and_false, Bool.false_and, Bool.or_true, Bool.true_or, Bool.or_false, Bool.false_or, decide_not, Bool.not_true, Bool.not_false, or_true, true_or, or_false, false_or, or_self, and_self, decide_eq_true_eq]
  · intro F
    simp (disch := first | omega | assumption | exact isSt6 | exact isSt18 | exact isSt30) only [fX8_allMarksCount_4, fi_s0, fr_s9, ia_s3, ab_bd_some, ck_t, ck_T, cb_0, cb_1, ab_jn, if_true, if_false, hn, e3, Nat.lt_irrefl, nI_add, pk_mul, nI_ltI, nI_leI, nI_eq]
