variable {Nq : Nat}
/-! ===== a row of THE LOG read ===== -/
def bL (x : Int64) (i : Nat) : Bool := x.toBitVec.getLsbD i
theorem s_6 : ∀ n, n < 64 → (((nI n).toInt64 &&& 63).toBitVec.smod 64).toNat = n := by decide +kernel
theorem bL_or (x y : Int64) (i : Nat) : bL (x ||| y) i = (bL x i || bL y i) := by unfold bL; rw [Int64.toBitVec_or, BitVec.getLsbD_or]
theorem bL_shl (n : Nat) (hn : n < 64) (x : Int64) {i : Nat} (hi : i < 64) : bL (x <<< ((nI n).toInt64 &&& 63)) i = (decide (n ≤ i) && bL x (i - n)) := by
  unfold bL
  rw [Int64.toBitVec_shiftLeft]
  show (x.toBitVec <<< (((nI n).toInt64 &&& 63).toBitVec.smod 64).toNat).getLsbD i = _
  rw [s_6 n hn, BitVec.getLsbD_shiftLeft]
  rcases Nat.lt_or_ge i n with h | h
  · simp [h, Nat.not_le.mpr h]
  · simp [hi, h, Nat.not_lt.mpr h]
theorem bL_sshr (n : Nat) (hn : n < 64) (x : Int64) {i : Nat} (hi : n + i < 64) : bL (x >>> ((nI n).toInt64 &&& 63)) i = bL x (n + i) := by
  unfold bL
  rw [Int64.toBitVec_shiftRight]
  show (x.toBitVec.sshiftRight (((nI n).toInt64 &&& 63).toBitVec.smod 64).toNat).getLsbD i = _
  rw [s_6 n hn, BitVec.getLsbD_sshiftRight]
  simp [hi, show i < 64 by omega]
theorem bL_w (x : Int32) {i : Nat} (hi : i < 64) : bL x.toInt64 i = if i < 32 then bt x i else bt x 31 := by
  unfold bL bt
  rw [Int32.toBitVec_toInt64, BitVec.getLsbD_signExtend, BitVec.msb_eq_getLsbD_last]
  simp [hi]
theorem bt_t (x : Int64) {i : Nat} (hi : i < 32) : bt x.toInt32 i = bL x i := by
  unfold bL bt
  rw [Int64.toBitVec_toInt32, BitVec.getLsbD_signExtend]
  simp [hi, show i < 64 by omega]
theorem bt_sh {a k i : Nat} (ha : a < 16) (hk : k ≤ 12) (hi : i < 32) : bt (nI a <<< (nI k &&& 31)) i = (decide (k ≤ i) && (decide (i < k + 4) && a.testBit (i - k))) := by
  rw [b_shl k (by omega) _ hi]
  by_cases c : k ≤ i
  · rw [bt_nI' (by omega)]
    by_cases c2 : i < k + 4
    · simp [c, c2]
    · rw [Nat.testBit_lt_two_pow (Nat.lt_of_lt_of_le ha (Nat.pow_le_pow_right (n := 2) (by decide) (show 4 ≤ i - k by omega)))]; simp
  · simp [c]
theorem bt_w {a i : Nat} (ha : a < 16) (hi : i < 32) : bt (nI a) i = (decide (i < 4) && a.testBit i) := by
  rw [bt_nI' hi]
  by_cases c2 : i < 4
  · simp [c2]
  · rw [Nat.testBit_lt_two_pow (Nat.lt_of_lt_of_le ha (Nat.pow_le_pow_right (n := 2) (by decide) (show 4 ≤ i by omega)))]; simp
theorem pk_bits (hr : Int32) {p h f w : Nat} (hp : p < 16) (hh : h < 16) (hf : f < 16) (hw : w < 16) {i : Nat} (hi : i < 48) : bL (pkL hr p h f w) i = if i < 4 then w.testBit i else if i < 8 then f.testBit (i - 4) else if i < 12 then h.testBit (i - 8) else if i < 16 then p.testBit (i - 12) else bt hr (i - 16) := by
  unfold pkL
  rw [bL_or, bL_or, bL_or, bL_or, bL_shl 16 (by omega) _ (by omega), bL_w _ (by omega : i < 64), bL_w _ (by omega : i < 64), bL_w _ (by omega : i < 64), bL_w _ (by omega : i < 64)]
  by_cases c : i < 32
  · simp only [c, if_true]
    rw [bt_sh hp (by omega) c, bt_sh hh (by omega) c, bt_sh hf (by omega) c, bt_w hw c]
    by_cases c4 : i < 4
    · simp [c4, show ¬ 16 ≤ i by omega, show ¬ 12 ≤ i by omega, show ¬ 8 ≤ i by omega, show ¬ 4 ≤ i by omega]
    by_cases c8 : i < 8
    · simp [c4, c8, show ¬ 16 ≤ i by omega, show ¬ 12 ≤ i by omega, show ¬ 8 ≤ i by omega, show 4 ≤ i by omega]
    by_cases c12 : i < 12
    · simp [c4, c8, c12, show ¬ 16 ≤ i by omega, show ¬ 12 ≤ i by omega, show 8 ≤ i by omega, show 4 ≤ i by omega]
    by_cases c16 : i < 16
    · simp [c4, c8, c12, c16, show ¬ 16 ≤ i by omega, show 12 ≤ i by omega, show 8 ≤ i by omega, show 4 ≤ i by omega]
    · rw [bL_w _ (by omega)]
      simp [c4, c8, c12, c16, show 16 ≤ i by omega, show 12 ≤ i by omega, show 8 ≤ i by omega, show 4 ≤ i by omega, show i - 16 < 32 by omega]
  · simp only [c, if_false]
    rw [bt_sh hp (by omega) (by decide), bt_sh hh (by omega) (by decide), bt_sh hf (by omega) (by decide), bt_w hw (by decide), bL_w _ (by omega)]
    simp [show ¬ i < 4 by omega, show ¬ i < 8 by omega, show ¬ i < 12 by omega, show ¬ i < 16 by omega, show 16 ≤ i by omega, show i - 16 < 32 by omega]
theorem pk_hr (hr : Int32) {p h f w : Nat} (hp : p < 16) (hh : h < 16) (hf : f < 16) (hw : w < 16) : (pkL hr p h f w >>> ((nI 16).toInt64 &&& 63)).toInt32 = hr := by
  apply b_ext
  intro i hi
  rw [bt_t _ hi, bL_sshr 16 (by omega) _ (by omega), pk_bits hr hp hh hf hw (by omega)]
  simp [show ¬ 16 + i < 4 by omega, show ¬ 16 + i < 8 by omega, show ¬ 16 + i < 12 by omega, show ¬ 16 + i < 16 by omega]
theorem b_15 : ∀ i, i < 32 → bt (nI 15) i = decide (i < 4) := by decide +kernel
theorem pk_p (hr : Int32) {p h f w : Nat} (hp : p < 16) (hh : h < 16) (hf : f < 16) (hw : w < 16) : (pkL hr p h f w >>> ((nI 12).toInt64 &&& 63)).toInt32 &&& nI 15 = nI p := by
  apply b_ext
  intro i hi
  rw [b_and, b_15 i hi, bt_w hp hi, bt_t _ hi, bL_sshr 12 (by omega) _ (by omega), pk_bits hr hp hh hf hw (by omega)]
  by_cases c : i < 4
  · simp [c, show ¬ 12 + i < 4 by omega, show ¬ 12 + i < 8 by omega, show ¬ 12 + i < 12 by omega, show 12 + i < 16 by omega]
  · simp [c]
theorem pk_h (hr : Int32) {p h f w : Nat} (hp : p < 16) (hh : h < 16) (hf : f < 16) (hw : w < 16) : (pkL hr p h f w >>> ((nI 8).toInt64 &&& 63)).toInt32 &&& nI 15 = nI h := by
  apply b_ext
  intro i hi
  rw [b_and, b_15 i hi, bt_w hh hi, bt_t _ hi, bL_sshr 8 (by omega) _ (by omega), pk_bits hr hp hh hf hw (by omega)]
  by_cases c : i < 4
  · simp [c, show ¬ 8 + i < 4 by omega, show ¬ 8 + i < 8 by omega, show 8 + i < 12 by omega]
  · simp [c]
theorem pk_f (hr : Int32) {p h f w : Nat} (hp : p < 16) (hh : h < 16) (hf : f < 16) (hw : w < 16) : (pkL hr p h f w >>> ((nI 4).toInt64 &&& 63)).toInt32 &&& nI 15 = nI f := by
  apply b_ext
  intro i hi
  rw [b_and, b_15 i hi, bt_w hf hi, bt_t _ hi, bL_sshr 4 (by omega) _ (by omega), pk_bits hr hp hh hf hw (by omega)]
  by_cases c : i < 4
  · simp [c, show ¬ 4 + i < 4 by omega, show 4 + i < 8 by omega]
  · simp [c]
theorem pk_w (hr : Int32) {p h f w : Nat} (hp : p < 16) (hh : h < 16) (hf : f < 16) (hw : w < 16) : (pkL hr p h f w).toInt32 &&& nI 15 = nI w := by
  apply b_ext
  intro i hi
  rw [b_and, b_15 i hi, bt_w hw hi, bt_t _ hi, pk_bits hr hp hh hf hw (by omega)]
  by_cases c : i < 4
  · simp [c]
  · simp [c]
theorem fm_60 : ∀ a, a < 60 → ∀ b, b < 60 → fJ9_floorMod_7cf53 ((nI b - nI 1) - nI a) (nI 60) (0, fun _ => .inr (0, [])) = some (nI ((b + 59 - a) % 60)) := by decide +kernel
theorem cl_floorMod {a b : Nat} (h : ab_H) (ha : a < 60) (hb : b < 60) : fJ9_floorMod_7cf53 ((nI b - nI 1) - nI a) (nI 60) h = some (nI ((b + 59 - a) % 60)) := fm_60 a ha b hb
theorem cl_cell {g : gG} {x : Nat} {m : Nat → Int32} (hx : isSt x) {r nx : Nat} (h1 : r ≤ 60) (h2 : nx < 60) (h3 : gF g (x + 1) 1 = nI r) (h5 : gF g (x + 1) 2 = nI nx)
  (h6 : ∀ a, a < r → ∃ p h f w, p < 16 ∧ h < 16 ∧ f < 16 ∧ w < 16 ∧ gL g (x + 2) ((nx + 59 - a) % 60) = pkL (m (284 + 5 * a)) p h f w ∧ m (285 + 5 * a) = nI p ∧ m (286 + 5 * a) = nI h ∧ m (287 + 5 * a) = nI f + (-1) ∧ m (288 + 5 * a) = nI w)
  {a w : Nat} (ha : a < r) (hw : w < 5) : fX4_cell (x + 1) (nI a) (nI w) (gH g) = some (m (284 + 5 * a + w)) := by
  obtain ⟨p, h, f, v, hp, hh, hf, hv, e0, e1, e2, e3, e4⟩ := h6 a ha
  have n0 : ¬ nI a < 0 := nI_pos (by omega)
  have hm : (nx + 59 - a) % 60 < 60 := Nat.mod_lt _ (by decide)
  have fm := cl_floorMod (gH g) (show a < 60 by omega) h2
  have : w = 0 ∨ w = 1 ∨ w = 2 ∨ w = 3 ∨ w = 4 := by omega
  rcases this with rfl | rfl | rfl | rfl | rfl
  · simp (disch := first | omega | assumption | exact isSt6 | exact isSt18 | exact isSt30) only [fX4_cell, fi_l1, fr_l0, la_s, lw_s, fi_l2, bdS, ck_t, ck_T, cb_0, cb_1, ab_jn, if_true, if_false, n0, h3, h5, ha, fm, e0, pk_hr _ hp hh hf hv, nI_ltI, if_true, if_false, Nat.add_zero]
  · simp (disch := first | omega | assumption | exact isSt6 | exact isSt18 | exact isSt30) only [fX4_cell, fi_l1, fr_l0, la_s, lw_s, fi_l2, bdS, ck_t, ck_T, cb_0, cb_1, ab_jn, if_true, if_false, n0, h3, h5, ha, fm, e0, pk_p _ hp hh hf hv, nI_ltI, nI_eq, if_true, if_false, show ¬ (1 = 0) by omega]
    rw [← e1]; congr 2; omega
  · simp (disch := first | omega | assumption | exact isSt6 | exact isSt18 | exact isSt30) only [fX4_cell, fi_l1, fr_l0, la_s, lw_s, fi_l2, bdS, ck_t, ck_T, cb_0, cb_1, ab_jn, if_true, if_false, n0, h3, h5, ha, fm, e0, pk_h _ hp hh hf hv, nI_ltI, nI_eq, if_true, if_false, show ¬ (2 = 0) by omega, show ¬ (2 = 1) by omega]
    rw [← e2]; congr 2; omega
  · simp (disch := first | omega | assumption | exact isSt6 | exact isSt18 | exact isSt30) only [fX4_cell, fi_l1, fr_l0, la_s, lw_s, fi_l2, bdS, ck_t, ck_T, cb_0, cb_1, ab_jn, if_true, if_false, n0, h3, h5, ha, fm, e0, pk_f _ hp hh hf hv, nI_ltI, nI_eq, if_true, if_false, show ¬ (3 = 0) by omega, show ¬ (3 = 1) by omega, show ¬ (3 = 2) by omega]
    rw [← e3]; congr 2; omega
  · simp (disch := first | omega | assumption | exact isSt6 | exact isSt18 | exact isSt30) only [fX4_cell, fi_l1, fr_l0, la_s, lw_s, fi_l2, bdS, ck_t, ck_T, cb_0, cb_1, ab_jn, if_true, if_false, n0, h3, h5, ha, fm, e0, pk_w _ hp hh hf hv, nI_ltI, nI_eq, if_true, if_false, show ¬ (4 = 0) by omega, show ¬ (4 = 1) by omega, show ¬ (4 = 2) by omega, show ¬ (4 = 3) by omega]
    rw [← e4]; congr 2; omega
