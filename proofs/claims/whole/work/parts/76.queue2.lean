variable {Nq : Nat}
/-! ===== the reference's order: serves ===== -/
def tkR (g : gG) (p : Nat) : Int32 := gA g 207 (12 + 6 * p + 3)
theorem rf_step (g : gG) {l p : Nat} (hl : l < 10) (hp : p < 10) : fX12_step 206 (nI l) (nI p) (gH g) = some (stI (tkR g p) (tkR g l)) := by
  unfold stI tkR
  by_cases c : gA g 207 (12 + 6 * p + 3) - gA g 207 (12 + 6 * l + 3) < 0
  · rw [if_pos c]
    simp (disch := omega) only [fX12_step, io_206, bdS, ck_t, ck_T, cb_0, cb_1, ab_jn, if_true, if_false, rf_of, m1_ne, c, if_true, if_false]
  · rw [if_neg c]
    simp (disch := omega) only [fX12_step, io_206, bdS, ck_t, ck_T, cb_0, cb_1, ab_jn, if_true, if_false, rf_of, m1_ne, c, if_true, if_false]
theorem rf_step0 (g : gG) {p : Nat} (hp : p < 10) : fX12_step 206 (-1) (nI p) (gH g) = some (stI (tkR g p) (nI 0)) := by
  unfold stI tkR
  by_cases c : gA g 207 (12 + 6 * p + 3) - nI 0 < 0
  · rw [if_pos c]
    simp (disch := omega) only [fX12_step, io_206, bdS, ck_t, ck_T, cb_0, cb_1, ab_jn, if_true, if_false, rf_of, c, if_true, if_false]
  · rw [if_neg c]
    simp (disch := omega) only [fX12_step, io_206, bdS, ck_t, ck_T, cb_0, cb_1, ab_jn, if_true, if_false, rf_of, c, if_true, if_false]
theorem rf_left (g : gG) {s p : Nat} (hs : s < 1024) (hp : p < 10) : fX12_left 206 (nI s) (nI p) (gH g) = some (gA g 217 (10 * s + p)) := by
  have h : 10 * s + p < 10240 := by omega
  simp (disch := omega) only [fX12_left, fr_206_24, ia_217, bdS, ck_t, ck_T, cb_0, cb_1, ab_jn, if_true, if_false, pk_mul, nI_add, ia_217 g h]
theorem bt_rm {H s p : Nat} (hp : p < 32) : bt (nI H &&& (nI s ^^^ (-1))) p = rmS H s p := by
  unfold rmS
  rw [b_and, b_not _ hp, bt_nI' hp, bt_nI' hp]
theorem pc_rm {H s n : Nat} (h10 : n ≤ 10) (hH : ∀ q, H.testBit q = true → q < n) : pc (nI H &&& (nI s ^^^ (-1))) = rcS H s n := by
  unfold pc rcS
  rw [fb_ct_cong (p := bt (nI H &&& (nI s ^^^ (-1)))) (q := rmS H s) (fun k hk => bt_rm (by omega))]
  have e := fb_ct_split (rmS H s) n (31 - n)
  rw [show n + (31 - n) = 31 by omega] at e
  have z : fb_ct (fun k => rmS H s (n + k)) (31 - n) = 0 := fb_ct_zero.mpr (fun k _ => by
    unfold rmS
    cases c : H.testBit (n + k)
    · rfl
    · have := hH _ c; omega)
  omega
theorem rl_srv46 (g : gG) {n : Nat} (hn : gA g 207 3 = nI n) (h10 : n ≤ 10) {F : Nat} (hF : 11000 < F) {H s l : Nat} (hH : ∀ q, H.testBit q = true → q < n) (hs : s < 1024) (hl : l < 10) (a0 : Int32) (K : Int32 → Option ab_H) : fX12_serves_46 F 206 (nI H) (nI s) (nI l) (gH g) K F a0 (nI 0) = K (mnf (rmS H s) (cI (tkR g) (gA g 217) H n s (tkR g l)) a0 n) := by
  refine lp0 (L := fun F' i (a : Int32) => fX12_serves_46 F 206 (nI H) (nI s) (nI l) (gH g) K F' a i) (n := n) (fun i => mnf (rmS H s) (cI (tkR g) (gA g 217) H n s (tkR g l)) a0 i) _ ?_ ?_ F (by omega)
  · intro F' i hi
    rw [mnf_S]
    cases c : rmS H s i
    · simp (disch := omega) only [fX12_serves_46, io_206, fr_206_1, ia_207, bdS, ck_t, ck_T, cb_0, cb_1, ab_jn, if_true, if_false, hn, hi, rf_isOfX, bt_rm, c, bI_0, nI_ltI, nI_add, if_true, if_false, reduceCtorEq]
    · have s1 := sh1 (k := i) (by omega)
      have l2 := or1_lt hs (show i < 10 by omega)
      have ec : cI (tkR g) (gA g 217) H n s (tkR g l) i = stI (tkR g i) (tkR g l) * nI (rcS H s n) + gA g 217 (10 * (s ||| 2 ^ i) + i) := rfl
      by_cases d : mnf (rmS H s) (cI (tkR g) (gA g 217) H n s (tkR g l)) a0 i < cI (tkR g) (gA g 217) H n s (tkR g l) i <;>
      simp (disch := omega) only [fX12_serves_46, fX12_lesser, io_206, fr_206_1, ia_207, bdS, ck_t, ck_T, cb_0, cb_1, ab_jn, if_true, if_false, hn, hi, rf_isOfX, bt_rm, c, bI_0, rf_step g hl, rf_bits _ _ hF, pc_rm h10 hH, s1, fa_or, rf_left g l2, ← ec, d, nI_ltI, nI_add, if_true, if_false, reduceCtorEq]
  · intro F'
    simp (disch := omega) only [fX12_serves_46, io_206, fr_206_1, ia_207, bdS, ck_t, ck_T, cb_0, cb_1, ab_jn, if_true, if_false, hn, Nat.lt_irrefl, nI_ltI, if_false]
theorem Gd.cg {tk A A' : Nat → Int32} {H n s l : Nat} (G : Gd tk A H n s l) (h : A' (10 * s + l) = A (10 * s + l)) : Gd tk A' H n s l := by
  obtain ⟨v, g1, g2⟩ := G
  exact ⟨v, by rw [h]; exact g1, g2⟩
/-- H is the holders' set -/
def isH (tk : Nat → Int32) (H n : Nat) : Prop := (∀ q, H.testBit q = true → q < n ∧ ∃ i, i < 12 ∧ tk q = nI i) ∧ (∀ q, q < n → H.testBit q = false → tk q = -1)
theorem isH.plc {tk : Nat → Int32} {H n : Nat} (h : isH tk H n) {q : Nat} (hq : q < n) : plc (tk q) (tkT tk q) := by
  refine plc_of ?_
  cases c : H.testBit q
  · exact Or.inl (h.2 q hq c)
  · exact Or.inr (h.1 q c).2
theorem or_gt {s p : Nat} (h : s.testBit p = false) : s < s ||| 2 ^ p := by
  refine Nat.lt_of_le_of_ne Nat.left_le_or (fun e => ?_)
  have : (s ||| 2 ^ p).testBit p = true := by rw [fb_bit_set, decide_eq_true rfl, Bool.or_true]
  rw [← e, h] at this
  cases this
theorem or_in {H s p : Nat} (hs : ∀ q, s.testBit q = true → H.testBit q = true) (hp : rmS H s p = true) : ∀ q, (s ||| 2 ^ p).testBit q = true → H.testBit q = true := by
  intro q h
  rw [fb_bit_set] at h
  by_cases c : q = p
  · rw [c]; unfold rmS at hp; simp at hp; exact hp.1
  · rw [decide_eq_false c, Bool.or_false] at h; exact hs q h
theorem rm_s {H s p : Nat} (hp : rmS H s p = true) : H.testBit p = true ∧ s.testBit p = false := by
  unfold rmS at hp
  simp at hp
  exact hp
theorem rl_srv19 (g : gG) {n : Nat} (hn : gA g 207 3 = nI n) (h10 : n ≤ 10) {F : Nat} (hF : 11000 < F) {H s : Nat} {A : Nat → Int32} (hH : isH (tkR g) H n) (hs : s < 1024) (hH2 : H < 1024) (hin : ∀ q, s.testBit q = true → H.testBit q = true) (hG : ∀ s', s < s' → s' < 1024 → (∀ q, s'.testBit q = true → H.testBit q = true) → ∀ l, l < n → Gd (tkR g) A H n s' l) (K : ab_H → Option ab_H) : ∃ A', fX12_serves_19 F 206 (nI H) (nI s) K F (nI 0) (gH (sA g 217 A)) = K (gH (sA g 217 A')) ∧ ∀ s', s ≤ s' → s' < 1024 → (∀ q, s'.testBit q = true → H.testBit q = true) → ∀ l, l < n → Gd (tkR g) A' H n s' l := by
  have tr : ∀ B, tkR (sA g 217 B) = tkR g := fun B => by funext p; unfold tkR; rw [gA_sA2 _ _ (by omega)]
  have h0 := lpE (L := fun F' i (a : gG) => fX12_serves_19 F 206 (nI H) (nI s) K F' i (gH a)) (n := n) (fun i a => ∃ B, a = sA g 217 B ∧ (∀ x, x < 10 * s ∨ 10 * s + 10 ≤ x → B x = A x) ∧ ∀ l, l < i → Gd (tkR g) B H n s l) (fun a => K (gH a)) ?_ ?_ F 0 (sA g 217 A) (by omega) (by omega) ⟨A, rfl, fun _ _ => rfl, fun l h => absurd h (Nat.not_lt_zero l)⟩
  · obtain ⟨b, ⟨B, rfl, b1, b2⟩, e⟩ := h0
    refine ⟨B, e, fun s' h1 h2 h3 l hl => ?_⟩
    by_cases c : s' = s
    · rw [c]; exact b2 l hl
    · exact (hG s' (by omega) h2 h3 l hl).cg (b1 _ (by omega))
  · rintro F' l _ hl ⟨B, rfl, b1, b2⟩
    have n7 : gA (sA g 217 B) 207 3 = nI n := by rw [gA_sA2 _ _ (by omega)]; exact hn
    have r46 := fun a0 K => rl_srv46 (sA g 217 B) n7 h10 hF (H := H) (s := s) (l := l) (fun q h => (hH.1 q h).1) hs (by omega) a0 K
    rw [tr B, gA_sA1] at r46
    have hx : 10 * s + l < 10240 := by omega
    have fin : ∀ w, w = mnf (rmS H s) (cI (tkR g) B H n s (tkR g l)) (if s = H then nI 0 else nI 2000000000) n → ∃ B', sA (sA g 217 B) 217 (upd B (10 * s + l) w) = sA g 217 B' ∧ (∀ x, x < 10 * s ∨ 10 * s + 10 ≤ x → B' x = A x) ∧ ∀ l', l' < l + 1 → Gd (tkR g) B' H n s l' := fun w hw => by
      refine ⟨upd B (10 * s + l) w, sA_sA _ _ _ _, fun x hx => ?_, fun l' hl' => ?_⟩
      · rw [upd_2 _ _ (by omega)]; exact b1 x hx
      · by_cases c : l' = l
        · subst c
          refine srv_G (A := B) h10 hH.1 hin (hH.plc hl) (fun p hp hr => ?_) (by rw [upd_1]; exact hw)
          obtain ⟨r1, r2⟩ := rm_s hr
          have lt := or_gt r2
          have l2 := or1_lt hs (show p < 10 by omega)
          refine (hG _ lt l2 (or_in hin hr) p hp).cg ?_
          exact b1 _ (by omega)
        · exact (b2 l' (by omega)).cg (upd_2 _ _ (by omega))
    by_cases c : s = H
    · subst c
      obtain ⟨B', e1, e2⟩ := fin (mnf (rmS s s) (cI (tkR g) B s n s (tkR g l)) (nI 0) n) (by rw [if_pos rfl])
      refine ⟨_, ⟨B', rfl, e2⟩, ?_⟩
      rw [← e1]
      simp (disch := omega) only [fX12_serves_19, fr_206_1, ia_207, iw_207, fr_206_24, ia_217, iw_217, bdS, ck_t, ck_T, cb_0, cb_1, ab_jn, if_true, if_false, n7, hl, if_true, nI_ltI, r46, pk_mul, nI_add, gA_sA1]
    · obtain ⟨B', e1, e2⟩ := fin (mnf (rmS H s) (cI (tkR g) B H n s (tkR g l)) (nI 2000000000) n) (by rw [if_neg c])
      refine ⟨_, ⟨B', rfl, e2⟩, ?_⟩
      rw [← e1]
      simp (disch := omega) only [fX12_serves_19, fr_206_1, ia_207, iw_207, fr_206_24, ia_217, iw_217, bdS, ck_t, ck_T, cb_0, cb_1, ab_jn, if_true, if_false, n7, hl, nI_eq, c, if_true, if_false, nI_ltI, r46, pk_mul, nI_add, gA_sA1]
  · rintro F' _ ⟨B, rfl, b1, b2⟩
    have n7 : gA (sA g 217 B) 207 3 = nI n := by rw [gA_sA2 _ _ (by omega)]; exact hn
    simp (disch := omega) only [fX12_serves_19, fr_206_1, ia_207, iw_207, fr_206_24, ia_217, iw_217, bdS, ck_t, ck_T, cb_0, cb_1, ab_jn, if_true, if_false, n7, Nat.lt_irrefl, nI_ltI, if_false]
theorem sub_in {s H : Nat} (hs : s < 1024) : (nI s &&& (nI H ^^^ (-1)) = 0) ↔ ∀ q, s.testBit q = true → H.testBit q = true := by
  constructor
  · intro h q hq
    have hb : q < 10 := by
      apply Decidable.byContradiction
      intro hc
      rw [Nat.testBit_lt_two_pow (Nat.lt_of_lt_of_le hs (Nat.pow_le_pow_right (show 0 < 2 by decide) (show 10 ≤ q by omega)))] at hq
      cases hq
    have := congrArg (fun x => bt x q) h
    simp only [b_and, b_not _ (show q < 32 by omega), bt_nI' (show q < 32 by omega), hq, Bool.true_and] at this
    have z : bt (0 : Int32) q = false := by rw [← nI_0, bt_nI, Nat.zero_testBit, Bool.and_false]
    rw [z] at this
    simpa using this
  · intro h
    refine b_ext (fun q hq => ?_)
    have z : bt (0 : Int32) q = false := by rw [← nI_0, bt_nI, Nat.zero_testBit, Bool.and_false]
    rw [b_and, b_not _ hq, bt_nI' hq, bt_nI' hq, z]
    cases c : s.testBit q
    · rfl
    · rw [h q c]; rfl
theorem n_pred (s : Nat) : nI (s + 1) + (-1) = nI s := by
  rw [← nI_add, Int32.add_assoc]
  have : nI 1 + (-1 : Int32) = 0 := by decide
  rw [this, Int32.add_zero]
theorem rl_srv2 (g : gG) {n : Nat} (hn : gA g 207 3 = nI n) (h10 : n ≤ 10) {F : Nat} (hF : 11000 < F) {H : Nat} (hH : isH (tkR g) H n) (hH2 : H < 1024) : ∀ s Fu A, s ≤ H → s < Fu → (∀ s', s < s' → s' < 1024 → (∀ q, s'.testBit q = true → H.testBit q = true) → ∀ l, l < n → Gd (tkR g) A H n s' l) → ∃ A', fX12_serves_2 F 206 (nI H) Fu (nI s) (gH (sA g 217 A)) = some (gH (sA g 217 A')) ∧ ∀ s', 0 < s' → s' < 1024 → (∀ q, s'.testBit q = true → H.testBit q = true) → ∀ l, l < n → Gd (tkR g) A' H n s' l := by
  intro s
  induction s with
  | zero =>
    intro Fu A _ hFu hG
    obtain ⟨F', rfl⟩ : ∃ F', Fu = F' + 1 := ⟨Fu - 1, by omega⟩
    refine ⟨A, ?_, hG⟩
    simp (disch := omega) only [fX12_serves_2, bdS, ck_t, ck_T, cb_0, cb_1, ab_jn, if_true, if_false, nI00, if_true]
  | succ s ih =>
    intro Fu A hsH hFu hG
    obtain ⟨F', rfl⟩ : ∃ F', Fu = F' + 1 := ⟨Fu - 1, by omega⟩
    have np : ¬ nI (s + 1) ≤ 0 := by rw [← nI_0]; exact nI_ge (by omega) (by omega)
    by_cases c : ∀ q, (s + 1).testBit q = true → H.testBit q = true
    · have c' := (sub_in (H := H) (show s + 1 < 1024 by omega)).mpr c
      obtain ⟨A1, e1, G1⟩ := rl_srv19 g hn h10 hF hH (show s + 1 < 1024 by omega) hH2 c hG (fun h => fX12_serves_2 F 206 (nI H) F' (nI s) h)
      obtain ⟨A2, e2, G2⟩ := ih F' A1 (by omega) (by omega) (fun s' h => G1 s' (by omega))
      refine ⟨A2, ?_, G2⟩
      simp (disch := omega) only [fX12_serves_2, bdS, ck_t, ck_T, cb_0, cb_1, ab_jn, if_true, if_false, np, c', n_pred, if_true, if_false]
      rw [e1]; exact e2
    · have c' : ¬ (nI (s + 1) &&& (nI H ^^^ (-1)) = 0) := fun h => c ((sub_in (H := H) (show s + 1 < 1024 by omega)).mp h)
      obtain ⟨A2, e2, G2⟩ := ih F' A (by omega) (by omega) (fun s' h h1 h2 => by
        by_cases k : s' = s + 1
        · rw [k] at h2; exact absurd h2 c
        · exact hG s' (by omega) h1 h2)
      refine ⟨A2, ?_, G2⟩
      simp (disch := omega) only [fX12_serves_2, bdS, ck_t, ck_T, cb_0, cb_1, ab_jn, if_true, if_false, np, c', n_pred, if_true, if_false]
      exact e2
theorem rf_serves (g : gG) {n : Nat} (hn : gA g 207 3 = nI n) (h10 : n ≤ 10) {F : Nat} (hF : 11000 < F) {H : Nat} (hH : isH (tkR g) H n) (hH2 : H < 1024) : ∃ A, fX12_serves F 206 (nI H) (gH g) = some (gH (sA g 217 A)) ∧ ∀ s', 0 < s' → s' < 1024 → (∀ q, s'.testBit q = true → H.testBit q = true) → ∀ l, l < n → Gd (tkR g) A H n s' l := by
  have := rl_srv2 g hn h10 hF hH hH2 H F (gA g 217) (Nat.le_refl _) (by omega) (fun s' h h1 h2 => by
    exfalso
    have : s' ≤ H := by
      have e : s' &&& H = s' := by
        apply Nat.eq_of_testBit_eq
        intro q
        rw [Nat.testBit_and]
        cases c : s'.testBit q
        · rfl
        · rw [h2 q c]; rfl
      rw [← e]; exact Nat.and_le_right
    omega)
  rw [sA_id] at this
  exact this
