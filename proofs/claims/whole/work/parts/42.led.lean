variable {Nq : Nat}
/-! ===== led ===== -/
theorem dn1 (a b : Int32) : a - b + (-1) = a - (b + nI 1) := by
  have h : -(nI 1) = (-1 : Int32) := by decide
  rw [Int32.sub_eq_add_neg, Int32.sub_eq_add_neg, Int32.neg_add, Int32.sub_eq_add_neg, h, Int32.add_assoc]
theorem dn_in {r i : Nat} (h : i < r) : nI r - (nI i + nI 1) = nI (r - 1 - i) := by
  rw [nI_add, pk_sub (by omega)]; congr 1; omega
theorem dn_end (r : Nat) : nI r - (nI r + nI 1) = (-1 : Int32) := by
  have h : -(nI 1) = (-1 : Int32) := by decide
  rw [Int32.sub_eq_add_neg, Int32.neg_add, Int32.sub_eq_add_neg, ← Int32.add_assoc, Int32.add_right_neg, Int32.zero_add, h]
theorem dn_0 (r : Nat) : nI r - nI 1 = nI r - (nI 0 + nI 1) := by rw [nI_add]
def ledF (m : Nat → Int32) (f : Int32) (r : Nat) (j : Nat) (a : Int32 × Int32) : Int32 × Int32 := if m (284 + 5 * (r - 1 - j) + 3) = f ∧ (m (284 + 5 * (r - 1 - j) + 4) = nI 1 ∨ m (284 + 5 * (r - 1 - j) + 4) = nI 2) then (a.1 + nI 1, m (284 + 5 * (r - 1 - j) + 1)) else a
theorem rf_logged (g : gG) {a w : Nat} (h : 284 + 5 * a + w < 984) : fX12_logged 206 (nI a) (nI w) (gH g) = some (gA g 207 (284 + 5 * a + w)) := by
  simp (disch := omega) only [fX12_logged, fr_206_1, ia_207, ab_bd_some, ck_t, ck_T, cb_0, cb_1, ab_jn, if_true, if_false, nI_add, pk_mul, nI_ltI, nI_leI, nI_eq]
theorem in12 {w : Nat} (hw : w < 16) (h : ab_H) : fX12_isIn (nI w) (nI 1) (nI 2) h = some (bI (decide (nI w = nI 1 ∨ nI w = nI 2))) := by
  rw [rf_isIn]
  congr 2
  simp (disch := omega) only [nI_add, pk_mul, nI_ltI, nI_leI, nI_eq]
  have : (¬ w < 1 ∧ w ≤ 2) ↔ (w = 1 ∨ w = 2) := by omega
  simp only [this]
theorem rl_led (g : gG) {r : Nat} (hr : r ≤ 60) (hw : ∀ a, a < r → ∃ w, w < 16 ∧ gA g 207 (284 + 5 * a + 4) = nI w) (f z : Int32) (K : Int32 → Int32 → Option (Int32 × ab_H)) {F : Nat} (hF : 11000 < F) : fX12_led_42 206 f z (gH g) K F (nI 0) (-1) (nI r - nI 1) = K (it (ledF (gA g 207) f r) (nI 0, -1) r).1 (it (ledF (gA g 207) f r) (nI 0, -1) r).2 := by
  have h0 := lp0 (L := fun F' i (a : Int32 × Int32) => fX12_led_42 206 f z (gH g) K F' a.1 a.2 (nI r - (i + nI 1))) (n := r) (fun i => it (ledF (gA g 207) f r) (nI 0, -1) i) (K (it (ledF (gA g 207) f r) (nI 0, -1) r).1 (it (ledF (gA g 207) f r) (nI 0, -1) r).2) ?_ ?_ F (by omega)
  · rw [dn_0]; exact h0
  · intro F i hi
    obtain ⟨w, hw1, ew⟩ := hw (r - 1 - i) (by omega)
    have i12 := in12 hw1 (gH g)
    have n0 : ¬ nI (r - 1 - i) < 0 := nI_pos (by omega)
    have e1 : it (ledF (gA g 207) f r) (nI 0, -1) (i + 1) = ledF (gA g 207) f r i (it (ledF (gA g 207) f r) (nI 0, -1) i) := rfl
    have d1 : nI r - (nI (i + 1) + nI 1) = nI (r - 1 - i) + (-1) := by rw [← dn_in hi, dn1, nI_add, nI_add, nI_add]
    rw [e1, d1, dn_in hi]
    unfold ledF
    rw [fX12_led_42, if_neg n0]
    by_cases c1 : gA g 207 (284 + 5 * (r - 1 - i) + 3) = f <;> by_cases c2 : (nI w = nI 1 ∨ nI w = nI 2) <;>
    simp (disch := omega) only [ab_bd_some, ck_t, io_206, ck_T, rf_logged, ew, i12, bI_0, c1, c2, reduceCtorEq, m1_ne, and_true, true_and, and_false, false_and, not_true_eq_false, not_false_eq_true, ne_eq, decide_true, decide_false, Bool.false_eq_true, ite_true, ite_false, if_true, if_false, Nat.add_zero, Bool.and_true, Bool.true_and, Bool.and_false, Bool.false_and, Bool.or_true, Bool.true_or, Bool.or_false, Bool.false_or, decide_not, Bool.not_true, Bool.not_false, or_true, true_or, or_false, false_or, or_self, and_self, decide_eq_true_eq]
  · intro F
    show fX12_led_42 206 f z (gH g) K (F + 1) _ _ (nI r - (nI r + nI 1)) = _
    rw [dn_end, fX12_led_42, if_pos (by decide)]
theorem cl_led24 {g : gG} {m : Nat → Int32} {r nx : Nat} (h1 : r ≤ 60) (h2 : nx < 60) (h3 : gF g (6 + 1) 1 = nI r) (h5 : gF g (6 + 1) 2 = nI nx)
  (h6 : ∀ a, a < r → ∃ p h f w, p < 16 ∧ h < 16 ∧ f < 16 ∧ w < 16 ∧ gL g (6 + 2) ((nx + 59 - a) % 60) = pkL (m (284 + 5 * a)) p h f w ∧ m (285 + 5 * a) = nI p ∧ m (286 + 5 * a) = nI h ∧ m (287 + 5 * a) = nI f + (-1) ∧ m (288 + 5 * a) = nI w)
  (f z : Int32) (K : Int32 → Int32 → Option (Int32 ⊕ String)) {F : Nat} (hF : 11000 < F) : fX11_led_24 0 f z (gH g) K F (nI 0) (-1) (nI r - nI 1) = K (it (ledF m f r) (nI 0, -1) r).1 (it (ledF m f r) (nI 0, -1) r).2 := by
  have h0 := lp0 (L := fun F' i (a : Int32 × Int32) => fX11_led_24 0 f z (gH g) K F' a.1 a.2 (nI r - (i + nI 1))) (n := r) (fun i => it (ledF m f r) (nI 0, -1) i) (K (it (ledF m f r) (nI 0, -1) r).1 (it (ledF m f r) (nI 0, -1) r).2) ?_ ?_ F (by omega)
  · rw [dn_0]; exact h0
  · intro F i hi
    have q1 := cl_cell isSt6 h1 h2 h3 h5 h6 (a := r - 1 - i) (w := 1) (by omega) (by decide)
    have q3 := cl_cell isSt6 h1 h2 h3 h5 h6 (a := r - 1 - i) (w := 3) (by omega) (by decide)
    have q4 := cl_cell isSt6 h1 h2 h3 h5 h6 (a := r - 1 - i) (w := 4) (by omega) (by decide)
    have n0 : ¬ nI (r - 1 - i) < 0 := nI_pos (by omega)
    have e1 : it (ledF m f r) (nI 0, -1) (i + 1) = ledF m f r i (it (ledF m f r) (nI 0, -1) i) := rfl
    have d1 : nI r - (nI (i + 1) + nI 1) = nI (r - 1 - i) + (-1) := by rw [← dn_in hi, dn1, nI_add, nI_add, nI_add]
    rw [e1, d1, dn_in hi]
    unfold ledF
    rw [fX11_led_24, if_neg n0]
    by_cases c1 : m (284 + 5 * (r - 1 - i) + 3) = f <;> by_cases c2 : m (284 + 5 * (r - 1 - i) + 4) = nI 1 <;> by_cases c3 : m (284 + 5 * (r - 1 - i) + 4) = nI 2 <;>
    simp (disch := first | omega | assumption | exact isSt6 | exact isSt18 | exact isSt30) only [ab_bd_some, ab_jn, ck_t, fr_0_1, fr_s8, io_l, ck_T, q1, q3, q4, c1, c2, c3, reduceCtorEq, m1_ne, and_true, true_and, and_false, false_and, not_true_eq_false, not_false_eq_true, ne_eq, decide_true, decide_false, Bool.false_eq_true, ite_true, ite_false, if_true, if_false, Nat.add_zero, Bool.and_true, Bool.true_and, Bool.and_false, Bool.false_and, Bool.or_true, Bool.true_or, Bool.or_false, Bool.false_or, decide_not, Bool.not_true, Bool.not_false, or_true, true_or, or_false, false_or, or_self, and_self, decide_eq_true_eq]
    all_goals first | rfl | (exfalso; rw [c2] at c3; exact absurd c3 (by decide)) | skip
  · intro F
    show fX11_led_24 0 f z (gH g) K (F + 1) _ _ (nI r - (nI r + nI 1)) = _
    rw [dn_end, fX11_led_24, if_pos (by decide)]
theorem cq_led {g : gG} (R : RE Nq g) (x z : Int32) {F : Nat} (hF : 11000 < F) : Cq Nq g (fX11_led F 0 x z (gH g)) (fun g => fX12_led F 206 x z (gH g)) [eIx] := by
  have R0 := R; obtain ⟨n, k, s, f, R⟩ := R
  have V := R.1.1
  obtain ⟨rn, h10, rk, h12⟩ := R.rv
  obtain ⟨lr, nx, l1, l2, l3, l4, l5, l6⟩ := R.1.2.2.2.2.2.1
  refine Cq_of R0 ?_
  rcases inR_or (n := n) (x := x) (by omega) with e | ⟨i, hi, rfl⟩
  · refine ⟨.inr eIx, nI 0, nI 1, ?_, ?_, 0, by decide, rfl, rfl⟩
    · simp (disch := first | omega | assumption | exact isSt6 | exact isSt18 | exact isSt30) only [fX11_led, io_0, fr_0_1, fr_s8, fi_l1, bdS, ck_t, ck_T, cb_0, cb_1, ab_jn, if_true, if_false, cl_needPerson V, e, bx_r, reduceCtorEq, m1_ne, and_true, true_and, and_false, false_and, not_true_eq_false, not_false_eq_true, ne_eq, decide_true, decide_false, Bool.false_eq_true, ite_true, ite_false, if_true, if_false, Nat.add_zero, Bool.and_true, Bool.true_and, Bool.and_false, Bool.false_and, Bool.or_true, Bool.true_or, Bool.or_false, Bool.false_or, decide_not, Bool.not_true, Bool.not_false, or_true, true_or, or_false, false_or, or_self, and_self, decide_eq_true_eq]
    · simp (disch := first | omega | assumption | exact isSt6 | exact isSt18 | exact isSt30) only [fX12_led, io_206, fw_206_0, fi_206_0, fr_206_1, ia_207, bdS, ck_t, ck_T, cb_0, cb_1, ab_jn, if_true, if_false, rf_isPerson g rn h10, e, bI_0, gF_sF1, upd_1, nI10, reduceCtorEq, m1_ne, and_true, true_and, and_false, false_and, not_true_eq_false, not_false_eq_true, ne_eq, decide_true, decide_false, Bool.false_eq_true, ite_true, ite_false, if_true, if_false, Nat.add_zero, Bool.and_true, Bool.true_and, Bool.and_false, Bool.false_and, Bool.or_true, Bool.true_or, Bool.or_false, Bool.false_or, decide_not, Bool.not_true, Bool.not_false, or_true, true_or, or_false, false_or, or_self, and_self, decide_eq_true_eq]
  have ei := inR_of hi (show n < 2 ^ 31 by omega)
  apply ag_ok (v := if z = 0 then (it (ledF (gA g 207) (nI i) lr) (nI 0, -1) lr).1 else (it (ledF (gA g 207) (nI i) lr) (nI 0, -1) lr).2)
  · have c := cl_led24 l1 l2 l3 l5 l6 (nI i) z (fun (z19 : Int32) (z20 : Int32) => (if z = 0 then some (.inl z19) else some (.inl z20))) hF
    simp (disch := first | omega | assumption | exact isSt6 | exact isSt18 | exact isSt30) only [fX11_led, io_0, fr_0_1, fr_s8, fi_l1, bdS, ck_t, ck_T, cb_0, cb_1, ab_jn, if_true, if_false, fr_s8, fi_l1, l3, cl_needPerson V, ei, bx_l, c, reduceCtorEq, m1_ne, and_true, true_and, and_false, false_and, not_true_eq_false, not_false_eq_true, ne_eq, decide_true, decide_false, Bool.false_eq_true, ite_true, ite_false, if_true, if_false, Nat.add_zero, Bool.and_true, Bool.true_and, Bool.and_false, Bool.false_and, Bool.or_true, Bool.true_or, Bool.or_false, Bool.false_or, decide_not, Bool.not_true, Bool.not_false, or_true, true_or, or_false, false_or, or_self, and_self, decide_eq_true_eq]
    by_cases c0 : z = 0 <;> simp only [c0, if_true, if_false]
  · have c := rl_led (sF g 206 0 (nI 0)) l1 (fun a ha => by obtain ⟨p, h, f, w, _, _, _, hw, _, _, _, _, e⟩ := l6 a ha; exact ⟨w, hw, by rw [gA_sF, ← e]; congr 1; omega⟩) (nI i) z (fun (z15 : Int32) (z16 : Int32) => (if z = 0 then some (z15, gH (sF g 206 0 (nI 0))) else some (z16, gH (sF g 206 0 (nI 0))))) hF
    simp only [gA_sF] at c
    simp (disch := first | omega | assumption | exact isSt6 | exact isSt18 | exact isSt30) only [fX12_led, io_206, fw_206_0, fi_206_0, fr_206_1, ia_207, bdS, ck_t, ck_T, cb_0, cb_1, ab_jn, if_true, if_false, rf_isPerson g rn h10, ei, bI_0, gF_sF1, gA_sF, upd_1, nI00, l4, c, reduceCtorEq, m1_ne, and_true, true_and, and_false, false_and, not_true_eq_false, not_false_eq_true, ne_eq, decide_true, decide_false, Bool.false_eq_true, ite_true, ite_false, if_true, if_false, Nat.add_zero, Bool.and_true, Bool.true_and, Bool.and_false, Bool.false_and, Bool.or_true, Bool.true_or, Bool.or_false, Bool.false_or, decide_not, Bool.not_true, Bool.not_false, or_true, true_or, or_false, false_or, or_self, and_self, decide_eq_true_eq]
    by_cases c0 : z = 0 <;> simp only [c0, if_true, if_false]
