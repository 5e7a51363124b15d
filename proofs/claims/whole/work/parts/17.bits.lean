/-! ===== bits: isOf, has, bits, bitCount, numberOfTrailingZeros ===== -/
theorem bt_nI (s k : Nat) : bt (nI s) k = (decide (k < 32) && s.testBit k) := by
  show (BitVec.ofNat 32 s).getLsbD k = _
  rw [BitVec.getLsbD_ofNat]
theorem bt_nI' {s k : Nat} (h : k < 32) : bt (nI s) k = s.testBit k := by rw [bt_nI, decide_eq_true h, Bool.true_and]
theorem bt_1 : ∀ k, k < 32 → bt (nI 1) k = decide (k = 0) := by decide +kernel
theorem bt_st {P : Nat → Bool} {n i : Nat} (hn : n ≤ 31) : bt (nI (st P n)) i = (decide (i < n) && P i) := by
  rw [bt_nI, st_bit]
  by_cases h : i < n
  · simp [h, show i < 32 by omega]
  · simp [h]
theorem bI_bt {b : Bool} {i : Nat} (hi : i < 32) : bt (bI b) i = (b && decide (i = 0)) := by
  cases b
  · rw [bI_f, nI_0, b_0]; rfl
  · rw [bI_t, bt_1 i hi]; simp
theorem sshr_bit (x : Int32) {k : Nat} (hk : k < 32) : ((x >>> (nI k &&& 31)) &&& nI 1) = bI (bt x k) := by
  apply b_ext
  intro i hi
  rw [b_and, bt_1 i hi, b_sshr k hk x hi, bI_bt hi]
  by_cases h : i = 0
  · subst h; simp [hk]
  · simp [h]
theorem ushr_bit (x : Int32) {k : Nat} (hk : k < 32) : ((ab_us x (nI k)) &&& nI 1) = bI (bt x k) := by
  apply b_ext
  intro i hi
  unfold ab_us
  rw [b_and, bt_1 i hi, b_ushr k hk x i, bI_bt hi]
  by_cases h : i = 0
  · subst h; simp
  · simp [h]
theorem rf_isOfX (x : Int32) {k : Nat} (h : ab_H) (hk : k < 32) : fX12_isOf x (nI k) h = some (bI (bt x k)) := by
  unfold fX12_isOf
  rw [sshr_bit x hk]
  cases bt x k <;> rfl
theorem cl_hasX (x : Int32) {k : Nat} (h : ab_H) (hk : k < 32) : fX11_has x (nI k) h = some (bI (bt x k)) := by
  unfold fX11_has
  rw [ushr_bit x hk]
  cases bt x k <;> rfl
def pc (x : Int32) : Nat := fb_ct (bt x) 31
theorem ct_add (P : Nat → Bool) (i : Nat) : nI (fb_ct P i) + bI (P i) = nI (fb_ct P (i + 1)) := by
  cases h : P i
  · rw [bI_f, nI_add]; simp [fb_ct, h]
  · rw [bI_t, nI_add]; simp [fb_ct, h]
theorem rf_bits (x : Int32) (h : ab_H) {F : Nat} (hF : 11000 < F) : fX12_bits F x h = some (nI (pc x)) := by
  unfold fX12_bits pc
  refine lp0 (L := fun F i a => fX12_bits_4 x h F a i) (n := 31) (fun i => nI (fb_ct (bt x) i)) _ ?_ ?_ F (by omega)
  · intro F i hi
    simp (disch := omega) only [fX12_bits_4, ab_bd_some, ck_t, ck_T, cb_0, cb_1, ab_jn, if_true, if_false, sshr_bit, ct_add, hi, nI_add, pk_mul, nI_ltI, nI_leI, nI_eq]
  · intro F
    simp (disch := omega) only [fX12_bits_4, ab_bd_some, ck_t, ck_T, cb_0, cb_1, ab_jn, if_true, if_false, Nat.lt_irrefl, nI_add, pk_mul, nI_ltI, nI_leI, nI_eq]
theorem cl_bitCount0_0 : ∀ s, s < 1024 → fJ6_bitCount_0f7a4 (nI (s + 0)) (0, fun _ => .inr (0, [])) = some (nI (pc (nI (s + 0)))) := by decide +kernel
theorem cl_bitCount0_1 : ∀ s, s < 1024 → fJ6_bitCount_0f7a4 (nI (s + 1024)) (0, fun _ => .inr (0, [])) = some (nI (pc (nI (s + 1024)))) := by decide +kernel
theorem cl_bitCount0_2 : ∀ s, s < 1024 → fJ6_bitCount_0f7a4 (nI (s + 2048)) (0, fun _ => .inr (0, [])) = some (nI (pc (nI (s + 2048)))) := by decide +kernel
theorem cl_bitCount0_3 : ∀ s, s < 1024 → fJ6_bitCount_0f7a4 (nI (s + 3072)) (0, fun _ => .inr (0, [])) = some (nI (pc (nI (s + 3072)))) := by decide +kernel
theorem cl_bitCount {s : Nat} (h : ab_H) (hs : s < 4096) : fJ6_bitCount_0f7a4 (nI s) h = some (nI (pc (nI s))) := by
  by_cases h1 : s < 1024
  · exact cl_bitCount0_0 s h1
  by_cases h2 : s < 2048
  · have := cl_bitCount0_1 (s - 1024) (by omega)
    rwa [show s - 1024 + 1024 = s by omega] at this
  by_cases h3 : s < 3072
  · have := cl_bitCount0_2 (s - 2048) (by omega)
    rwa [show s - 2048 + 2048 = s by omega] at this
  · have := cl_bitCount0_3 (s - 3072) (by omega)
    rwa [show s - 3072 + 3072 = s by omega] at this
theorem cl_ntz0 : ∀ s, s < 1024 → s ≠ 0 → fJ6_numberOfTrailingZeros_0f7a4 (nI s) (0, fun _ => .inr (0, [])) = some (nI (fa_first (bt (nI s)) 32)) := by decide +kernel
theorem cl_ntz {s : Nat} (h : ab_H) (hs : s < 1024) (h0 : s ≠ 0) : fJ6_numberOfTrailingZeros_0f7a4 (nI s) h = some (nI (fa_first (bt (nI s)) 32)) := cl_ntz0 s hs h0
/-- an int by the number of its bits -/
def nv (x : Int32) : Nat := x.toBitVec.toNat
theorem nI_nv (x : Int32) : nI (nv x) = x := Int32.toBitVec_inj.mp (by show BitVec.ofNat 32 _ = _; simp [nv])
theorem nv_nI {s : Nat} (h : s < 2 ^ 32) : nv (nI s) = s := pk_tn h
theorem cl_bitCountX {x : Int32} (h : ab_H) (hs : nv x < 4096) : fJ6_bitCount_0f7a4 x h = some (nI (pc x)) := by
  have := cl_bitCount h hs
  rwa [nI_nv] at this
theorem pc_le (x : Int32) : pc x ≤ 31 := fb_ct_le _ _
