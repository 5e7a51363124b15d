variable {Nq : Nat}
/-! ===== who is next ===== -/
def qf (rem : Nat → Bool) (c : Nat → Int32) : Nat → Int32 × Int32 := it (fun p a => if rem p = true ∧ c p < a.2 then (nI p, c p) else a) (-1, nI 2000000000)
theorem qf_S (rem : Nat → Bool) (c : Nat → Int32) (i : Nat) : qf rem c (i + 1) = if rem i = true ∧ c i < (qf rem c i).2 then (nI i, c i) else qf rem c i := rfl
theorem qf_v {rem : Nat → Bool} {c : Nat → Int32} {n : Nat} (hc : ∀ p, p < n → rem p = true → c p = nI (nv (c p)) ∧ nv (c p) < 2000000000) : ∀ i, i ≤ n → (qf rem c i = (-1, nI 2000000000) ∧ ∀ p, p < i → rem p = false) ∨ ∃ p, p < i ∧ rem p = true ∧ qf rem c i = (nI p, c p) ∧ (∀ q, q < p → rem q = true → nv (c p) < nv (c q)) ∧ ∀ q, q < i → rem q = true → nv (c p) ≤ nv (c q)
  | 0, _ => Or.inl ⟨rfl, fun p hp => absurd hp (Nat.not_lt_zero p)⟩
  | i + 1, hi => by
    rw [qf_S]
    cases k : rem i
    · rw [if_neg (fun h => by cases h.1)]
      have ext : ∀ {X : Nat → Prop}, (∀ q, q < i → rem q = true → X q) → ∀ q, q < i + 1 → rem q = true → X q := fun h q hq hr => by
        by_cases d : q = i
        · rw [d, k] at hr; cases hr
        · exact h q (by omega) hr
      rcases qf_v hc i (by omega) with ⟨e, h⟩ | ⟨p, hp, rp, e, h1, h2⟩
      · refine Or.inl ⟨e, fun p hp => ?_⟩
        by_cases d : p = i
        · rw [d]; exact k
        · exact h p (by omega)
      · exact Or.inr ⟨p, by omega, rp, e, h1, ext h2⟩
    · obtain ⟨c1, c2⟩ := hc i (by omega) k
      rcases qf_v hc i (by omega) with ⟨e, h⟩ | ⟨p, hp, rp, e, h1, h2⟩
      · have lt : c i < (qf rem c i).2 := by
          rw [e, c1]
          show nI _ < nI 2000000000
          rw [nI_ltI (by omega) (by omega)]; exact c2
        rw [if_pos ⟨rfl, lt⟩]
        refine Or.inr ⟨i, by omega, k, rfl, fun q hq hr => ?_, fun q hq hr => ?_⟩
        · rw [h q hq] at hr; cases hr
        · by_cases d : q = i
          · rw [d]; exact Nat.le_refl _
          · rw [h q (by omega)] at hr; cases hr
      · obtain ⟨p1, p2⟩ := hc p (by omega) rp
        have iff : c i < (qf rem c i).2 ↔ nv (c i) < nv (c p) := by
          rw [e]
          show c i < c p ↔ _
          rw [c1, p1, nI_ltI (by omega) (by omega), nv_nI (by omega), nv_nI (by omega)]
        by_cases d : nv (c i) < nv (c p)
        · rw [if_pos ⟨rfl, iff.mpr d⟩]
          refine Or.inr ⟨i, by omega, k, rfl, fun q hq hr => ?_, fun q hq hr => ?_⟩
          · have := h2 q hq hr; omega
          · by_cases d2 : q = i
            · rw [d2]; exact Nat.le_refl _
            · have := h2 q (by omega) hr; omega
        · rw [if_neg (fun h => d (iff.mp h.2))]
          refine Or.inr ⟨p, by omega, rp, e, h1, fun q hq hr => ?_⟩
          by_cases d2 : q = i
          · rw [d2]; omega
          · exact h2 q (by omega) hr
abbrev lx (τ : Nat → Int) (a b : Nat) : Prop := τ a < τ b ∨ (τ a = τ b ∧ a < b)
def rkO (τ : Nat → Int) (H n p : Nat) : Nat := fb_ct (fun q => H.testBit q && decide (lx τ q p)) n
theorem q_next {tk A : Nat → Int32} {H n s : Nat} (h10 : n ≤ 10) (hH : ∀ q, H.testBit q = true → q < n ∧ ∃ i, i < 12 ∧ tk q = nI i) (hs : ∀ q, s.testBit q = true → H.testBit q = true) (hne : s ≠ H) (hG : ∀ p, p < n → rmS H s p = true → Gd tk A H n (s ||| 2 ^ p) p) {pos : Int32} {π : Int} (hpos : plc pos π) (ha : ∀ q, rmS H s q = true → π ≤ tkT tk q) : ∃ p, p < n ∧ rmS H s p = true ∧ (∀ q, q < n → rmS H s q = true → q ≠ p → lx (tkT tk) p q) ∧ qf (rmS H s) (cI tk A H n s pos) n = (nI p, cI tk A H n s pos p) ∧ cI tk A H n s pos p = nI (Bd (tkT tk) H n s π).toNat := by
  have hc := fun p (hp : p < n) hr => cand_v h10 hH hp hr (hG p hp hr) hpos
  have rl : rcS H s n ≤ n := fb_ct_le _ _
  obtain ⟨q0, hq0, hr0⟩ := rm_some (fun q h => (hH q h).1) hs hne
  obtain ⟨p, hp, hr, hm⟩ := amin (rem := rmS H s) (τ := tkT tk) ⟨q0, hq0, hr0⟩
  obtain ⟨j1, j2, j3, j4, j5, j6⟩ := hc p hp hr
  have ep := j4 (ha p hr) (fun q hq hqr => by have := hm q hq hqr; omega)
  rcases qf_v (rem := rmS H s) (c := cI tk A H n s pos) (n := n) (fun p hp hr => ⟨(hc p hp hr).1, by have := (hc p hp hr).2.1; omega⟩) n (Nat.le_refl _) with ⟨_, h⟩ | ⟨p0, hp0, rp, e, h1, h2⟩
  · rw [h q0 hq0] at hr0; cases hr0
  · obtain ⟨k1, k2, k3, k4, k5, k6⟩ := hc p0 hp0 rp
    have l1 := h2 p hp hr
    have l2 : ¬ tkT tk p < tkT tk p0 := fun h => by
      have := k6 p hp hr h
      omega
    have l3 := hm p0 hp0 rp
    have e0 : p0 = p := by
      apply Decidable.byContradiction
      intro d
      have := h1 p (by omega) hr
      omega
    rw [e0] at e
    refine ⟨p, hp, hr, fun q hq hqr hqp => ?_, e, ?_⟩
    · have := hm q hq hqr
      unfold lx
      omega
    · rw [j1]; congr 1; omega
theorem rk_next {τ : Nat → Int} {H n s p : Nat} (hs : ∀ q, s.testBit q = true → H.testBit q = true) (hl : ∀ a b, s.testBit a = true → rmS H s b = true → lx τ a b) (hr : rmS H s p = true) (hm : ∀ q, q < n → rmS H s q = true → q ≠ p → lx τ p q) : rkO τ H n p = fb_ct (fun q => s.testBit q) n := by
  refine fb_ct_cong (fun q hq => ?_)
  show (H.testBit q && decide (lx τ q p)) = s.testBit q
  cases c : s.testBit q
  · cases c2 : H.testBit q
    · rfl
    · have rq : rmS H s q = true := by unfold rmS; rw [c, c2]; rfl
      rw [Bool.true_and]
      refine decide_eq_false (fun h => ?_)
      by_cases d : q = p
      · rw [d] at h; unfold lx at h; omega
      · have := hm q hq rq d
        unfold lx at h this; omega
  · rw [hs q c, decide_eq_true (hl q p c hr)]; rfl
theorem rl_q42 (g : gG) {n : Nat} (hn : gA g 207 3 = nI n) (h10 : n ≤ 10) {F : Nat} (hF : 11000 < F) {H s : Nat} (hH : ∀ q, H.testBit q = true → q < n) (hs : s < 1024) {x1 x4 x5 x6 pos : Int32} (hst : ∀ p, p < n → fX12_step 206 x4 (nI p) (gH g) = some (stI (tkR g p) pos)) (K : Int32 → Int32 → Option (Int32 × ab_H)) : fX12_queue_42 F 206 x1 (nI H) (nI s) x4 x5 x6 (gH g) K F (-1) (nI 2000000000) (nI 0) = K (qf (rmS H s) (cI (tkR g) (gA g 217) H n s pos) n).1 (qf (rmS H s) (cI (tkR g) (gA g 217) H n s pos) n).2 := by
  refine lp0 (L := fun F' i (a : Int32 × Int32) => fX12_queue_42 F 206 x1 (nI H) (nI s) x4 x5 x6 (gH g) K F' a.1 a.2 i) (n := n) (fun i => qf (rmS H s) (cI (tkR g) (gA g 217) H n s pos) i) _ ?_ ?_ F (by omega)
  · intro F' i hi
    rw [qf_S]
    cases c : rmS H s i
    · rw [if_neg (fun h => by cases h.1)]
      simp (disch := omega) only [fX12_queue_42, io_206, fr_206_1, ia_207, bdS, ck_t, ck_T, cb_0, cb_1, ab_jn, if_true, if_false, hn, hi, rf_isOfX, bt_rm, c, bI_0, nI_ltI, nI_add, if_true, if_false, reduceCtorEq]
    · have s1 := sh1 (k := i) (by omega)
      have l2 := or1_lt hs (show i < 10 by omega)
      have ec : stI (tkR g i) pos * nI (rcS H s n) + gA g 217 (10 * (s ||| 2 ^ i) + i) = cI (tkR g) (gA g 217) H n s pos i := rfl
      by_cases d : cI (tkR g) (gA g 217) H n s pos i < (qf (rmS H s) (cI (tkR g) (gA g 217) H n s pos) i).2
      · rw [if_pos ⟨rfl, d⟩]
        simp (disch := omega) only [fX12_queue_42, io_206, fr_206_1, ia_207, bdS, ck_t, ck_T, cb_0, cb_1, ab_jn, if_true, if_false, hn, hi, rf_isOfX, bt_rm, c, bI_0, hst i hi, rf_bits _ _ hF, pc_rm h10 hH, s1, fa_or, rf_left g l2, ec, d, nI_ltI, nI_add, if_true, if_false, reduceCtorEq]
      · rw [if_neg (fun h => d h.2)]
        simp (disch := omega) only [fX12_queue_42, io_206, fr_206_1, ia_207, bdS, ck_t, ck_T, cb_0, cb_1, ab_jn, if_true, if_false, hn, hi, rf_isOfX, bt_rm, c, bI_0, hst i hi, rf_bits _ _ hF, pc_rm h10 hH, s1, fa_or, rf_left g l2, ec, d, nI_ltI, nI_add, if_true, if_false, reduceCtorEq]
  · intro F'
    simp (disch := omega) only [fX12_queue_42, io_206, fr_206_1, ia_207, bdS, ck_t, ck_T, cb_0, cb_1, ab_jn, if_true, if_false, hn, Nat.lt_irrefl, nI_ltI, if_false]
theorem ct_set {s n p : Nat} (hp : p < n) (h : s.testBit p = false) : fb_ct (fun q => (s ||| 2 ^ p).testBit q) n = fb_ct (fun q => s.testBit q) n + 1 := by
  have e : (fun q => (s ||| 2 ^ p).testBit q) = fun k => if k = p then true else s.testBit k := by
    funext q
    rw [fb_bit_set]
    by_cases c : q = p
    · rw [if_pos c, decide_eq_true c, Bool.or_true]
    · rw [if_neg c, decide_eq_false c, Bool.or_false]
  have := fb_ct_upd (fun q => s.testBit q) true hp
  simp only [h] at this
  rw [e]
  simpa using this
theorem rl_q26 (g : gG) {n : Nat} (hn : gA g 207 3 = nI n) (h10 : n ≤ 10) {F : Nat} (hF : 11000 < F) {H : Nat} (hH : isH (tkR g) H n) (hH2 : H < 1024) (hG : ∀ s', 0 < s' → s' < 1024 → (∀ q, s'.testBit q = true → H.testBit q = true) → ∀ l, l < n → Gd (tkR g) (gA g 217) H n s' l) {x1 : Int32} (K : Int32 → Option (Int32 × ab_H)) : ∀ r s j Fu x4 pos π sm, rcS H s n = r → r < Fu → s < 1024 → (∀ q, s.testBit q = true → H.testBit q = true) → fb_ct (fun q => s.testBit q) n = j → (∀ a b, s.testBit a = true → rmS H s b = true → lx (tkT (tkR g)) a b) → (∀ p, p < n → fX12_step 206 x4 (nI p) (gH g) = some (stI (tkR g p) pos)) → plc pos π → (∀ q, rmS H s q = true → π ≤ tkT (tkR g) q) →
  (∃ p, p < n ∧ H.testBit p = true ∧ nI (rkO (tkT (tkR g)) H n p) = x1 ∧ fX12_queue_26 F 206 x1 (nI H) (gH g) K Fu (nI s) x4 (nI j) sm = some (nI p, gH g)) ∨
  ((∀ p, p < n → rmS H s p = true → nI (rkO (tkT (tkR g)) H n p) ≠ x1) ∧ fX12_queue_26 F 206 x1 (nI H) (gH g) K Fu (nI s) x4 (nI j) sm = K (if s = 0 ∧ H ≠ 0 then nI (Bd (tkT (tkR g)) H n s π).toNat else sm)) := by
  intro r
  induction r with
  | zero =>
    intro s j Fu x4 pos π sm hr hFu hs hin hj hl hst hp ha
    obtain ⟨F', rfl⟩ : ∃ F', Fu = F' + 1 := ⟨Fu - 1, by omega⟩
    have no := fb_ct_zero.mp hr
    have e : s = H := by
      apply Decidable.byContradiction
      intro h
      obtain ⟨q, hq, hqr⟩ := rm_some (fun q h => (hH.1 q h).1) hin h
      rw [no q hq] at hqr; cases hqr
    subst e
    refine Or.inr ⟨(fun p hp h => by rw [no p hp] at h; cases h), ?_⟩
    rw [if_neg (fun h => h.2 h.1)]
    simp (disch := omega) only [fX12_queue_26, bdS, ck_t, ck_T, cb_0, cb_1, ab_jn, if_true, if_false, if_true]
  | succ r ih =>
    intro s j Fu x4 pos π sm hr hFu hs hin hj hl hst hp ha
    obtain ⟨F', rfl⟩ : ∃ F', Fu = F' + 1 := ⟨Fu - 1, by omega⟩
    have hne : s ≠ H := fun e => by
      subst e
      have : rcS s s n = 0 := fb_ct_zero.mpr (fun q _ => by unfold rmS; cases s.testBit q <;> rfl)
      omega
    have H0 : H ≠ 0 := fun e => by
      have : rcS H s n = 0 := fb_ct_zero.mpr (fun q _ => by unfold rmS; rw [e, Nat.zero_testBit]; rfl)
      omega
    obtain ⟨p, hpn, hrp, hm, eq, ec⟩ := q_next h10 hH.1 hin hne (fun p hp hr => by
      have lt := or_gt (rm_s hr).2
      exact hG _ (by omega) (or1_lt hs (by omega)) (or_in hin hr) p hp) hp ha
    have r42 := fun x5 x6 K' => rl_q42 g hn h10 hF (H := H) (s := s) (x1 := x1) (x4 := x4) (x5 := x5) (x6 := x6) (fun q h => (hH.1 q h).1) hs hst K'
    rw [eq] at r42
    have rk := rk_next hin hl hrp hm
    rw [hj] at rk
    have jn : j ≤ n := by rw [← hj]; exact fb_ct_le _ _
    have ne : ¬ (nI s = nI H) := by rw [nI_eq (by omega) (by omega)]; exact hne
    have s1 := sh1 (k := p) (by omega)
    have unf : fX12_queue_26 F 206 x1 (nI H) (gH g) K (F' + 1) (nI s) x4 (nI j) sm = if nI j = x1 then some (nI p, gH g) else fX12_queue_26 F 206 x1 (nI H) (gH g) K F' (nI (s ||| 2 ^ p)) (nI p) (nI (j + 1)) (if s = 0 then nI (Bd (tkT (tkR g)) H n s π).toNat else sm) := by
      by_cases c : s = 0
      · have e1 : (nI s = 0) = True := eq_true (by rw [c]; exact nI_0)
        have e2 : (s = 0) = True := eq_true c
        simp (disch := omega) only [fX12_queue_26, bdS, ck_t, ck_T, cb_0, cb_1, ab_jn, if_true, if_false, ne, r42, e1, e2, ec, s1, fa_or, nI_add, if_true, if_false]
      · simp (disch := omega) only [fX12_queue_26, bdS, ck_t, ck_T, cb_0, cb_1, ab_jn, if_true, if_false, ne, r42, z_eq, c, ec, s1, fa_or, nI_add, if_true, if_false]
    rw [unf]
    by_cases k : nI j = x1
    · rw [if_pos k]
      exact Or.inl ⟨p, hpn, (rm_s hrp).1, by rw [rk]; exact k, rfl⟩
    · rw [if_neg k]
      have l2 := or1_lt hs (show p < 10 by omega)
      have s0 : ¬ (s ||| 2 ^ p) = 0 := by have := or_gt (rm_s hrp).2; omega
      have rem' : ∀ q, rmS H (s ||| 2 ^ p) q = true → rmS H s q = true ∧ q ≠ p := fun q h => by
        rw [rm_set] at h
        by_cases c : q = p
        · simp [c] at h
        · simp only [if_neg c] at h; exact ⟨h, c⟩
      have hq : ∀ q, rmS H s q = true → q < n := fun q h => (hH.1 q (rm_s h).1).1
      have I := ih (s ||| 2 ^ p) (j + 1) F' (nI p) (tkR g p) (tkT (tkR g) p) (if s = 0 then nI (Bd (tkT (tkR g)) H n s π).toNat else sm) (by have := rc_set hpn hrp; omega) (by omega) l2 (or_in hin hrp) (by rw [ct_set hpn (rm_s hrp).2, hj]) (fun a b h1 h2 => by
        obtain ⟨h3, h4⟩ := rem' b h2
        rw [fb_bit_set] at h1
        by_cases c : a = p
        · rw [c]; exact hm b (hq b h3) h3 h4
        · rw [decide_eq_false c, Bool.or_false] at h1
          exact hl a b h1 h3) (fun q hq' => rf_step g (by omega) (by omega)) (hH.plc hpn) (fun q h => by
        obtain ⟨h3, h4⟩ := rem' q h
        have := hm q (hq q h3) h3 h4
        unfold lx at this; omega)
      rcases I with h | ⟨h1, h2⟩
      · exact Or.inl h
      · refine Or.inr ⟨fun q hqn hqr => ?_, ?_⟩
        · by_cases c : q = p
          · rw [c, rk]; exact k
          · refine h1 q hqn ?_
            rw [rm_set]
            show (if q = p then false else rmS H s q) = true
            rw [if_neg c]; exact hqr
        · rw [h2, if_neg (fun h => s0 h.1)]
          by_cases c : s = 0
          · rw [if_pos c, if_pos ⟨c, H0⟩]
          · rw [if_neg c, if_neg (fun h => c h.1)]
/-! ===== call: queue ===== -/
theorem df_lt : ∀ a, a < 12 → ∀ b, b < 12 → ((nI a - nI b < 0) ↔ a < b) := by decide
theorem df_eq : ∀ a, a < 12 → ∀ b, b < 12 → ((nI a - nI b = 0) ↔ a = b) := by decide
theorem rk_inj {τ : Nat → Int} {H n p q : Nat} (hp : p < n) (hq : q < n) (bp : H.testBit p = true) (bq : H.testBit q = true) (e : rkO τ H n p = rkO τ H n q) : p = q := by
  have one : ∀ {a b}, a < n → H.testBit a = true → lx τ a b → rkO τ H n a + 1 ≤ rkO τ H n b := fun {a b} ha ba l => by
    have h1 := fb_ct_upd (fun x => H.testBit x && decide (lx τ x a)) true ha
    have na : decide (lx τ a a) = false := decide_eq_false (by unfold lx; omega)
    simp only [na, Bool.and_false, if_true, Bool.false_eq_true, if_false, Nat.add_zero] at h1
    have h2 : fb_ct (fun k => if k = a then true else (H.testBit k && decide (lx τ k a))) n ≤ rkO τ H n b := fb_ct_sub (fun k hk h => by
      show (H.testBit k && decide (lx τ k b)) = true
      by_cases c : k = a
      · rw [c, ba, decide_eq_true l]; rfl
      · rw [if_neg c, Bool.and_eq_true] at h
        have h3 := of_decide_eq_true h.2
        rw [h.1, decide_eq_true (show lx τ k b by unfold lx at *; omega)]; rfl)
    unfold rkO at h2 ⊢
    omega
  apply Decidable.byContradiction
  intro d
  by_cases l : lx τ p q
  · have := one hp bp l; omega
  · have l2 : lx τ q p := by unfold lx at *; omega
    have := one hq bq l2; omega
theorem cl_ahead {g : gG} {m : Nat → Int32} {n k : Nat} (V : Sv g 6 m n k) {H p : Nat} (hH : isH (fun q => m (12 + 6 * q + 3)) H n) (hp : H.testBit p = true) {F : Nat} (hF : 11000 < F) : fX11_servedAheadOf F 0 (nI p) (gH g) = some (nI (rkO (tkT (fun q => m (12 + 6 * q + 3))) H n p)) := by
  have W := V
  obtain ⟨hx, hn, h10, hk, h12, e3, e4, e5, e6, e7, e8, e11, e9, e10⟩ := W
  obtain ⟨hpn, b, hb, eb⟩ := hH.1 p hp
  have eb : m (12 + 6 * p + 3) = nI b := eb
  have tb : tkT (fun q => m (12 + 6 * q + 3)) p = (b : Int) := by show (m (12 + 6 * p + 3)).toInt = _; rw [eb]; exact nI_toInt (by omega)
  have q6 := e6 p hpn
  unfold fX11_servedAheadOf
  refine lp0 (L := fun F' i (a : Int32) => fX11_servedAheadOf_4 0 (nI p) (gH g) F' a i) (n := n) (fun i => nI (fb_ct (fun q => H.testBit q && decide (lx (tkT (fun q => m (12 + 6 * q + 3))) q p)) i)) _ ?_ ?_ F (by omega)
  · intro F' i hi
    have p6 := e6 i hi
    rw [fb_ct_succ]
    cases c : H.testBit i
    · have e1 : m (12 + 6 * i + 3) = -1 := hH.2 i hi c
      simp (disch := first | omega | assumption | exact isSt6 | exact isSt18 | exact isSt30) only [fX11_servedAheadOf_4, fr_0_1, fi_s0, fr_s12, ia_s6, bdS, ck_t, ck_T, cb_0, cb_1, ab_jn, if_true, if_false, fi_s0, fr_s12, ia_s6, hn, hi, p6, q6, e1, Bool.false_and, Bool.false_eq_true, if_false, if_true, Nat.add_zero, nI_ltI, nI_add]
    · obtain ⟨_, a, ha, ea⟩ := hH.1 i c
      have ea : m (12 + 6 * i + 3) = nI a := ea
      have ta : tkT (fun q => m (12 + 6 * q + 3)) i = (a : Int) := by show (m (12 + 6 * i + 3)).toInt = _; rw [ea]; exact nI_toInt (by omega)
      have el : decide (lx (tkT (fun q => m (12 + 6 * q + 3))) i p) = decide (a < b ∨ (a = b ∧ i < p)) := by
        unfold lx
        rw [ta, tb]
        exact decide_eq_decide.mpr (by omega)
      have d1 := df_lt a ha b hb
      have d2 := df_eq a ha b hb
      rw [el]
      by_cases k1 : a < b
      · simp (disch := first | omega | assumption | exact isSt6 | exact isSt18 | exact isSt30) only [fX11_servedAheadOf_4, fr_0_1, fi_s0, fr_s12, ia_s6, bdS, ck_t, ck_T, cb_0, cb_1, ab_jn, if_true, if_false, fi_s0, fr_s12, ia_s6, hn, hi, p6, q6, ea, eb, d1, k1, m1_ne, true_or, decide_true, Bool.true_and, if_true, if_false, nI_ltI, nI_add]
      · by_cases k2 : a = b
        · by_cases k3 : i < p
          · simp (disch := first | omega | assumption | exact isSt6 | exact isSt18 | exact isSt30) only [fX11_servedAheadOf_4, fr_0_1, fi_s0, fr_s12, ia_s6, bdS, ck_t, ck_T, cb_0, cb_1, ab_jn, if_true, if_false, fi_s0, fr_s12, ia_s6, hn, hi, p6, q6, ea, eb, d1, d2, k1, k2, k3, Nat.lt_irrefl, m1_ne, and_self, or_true, decide_true, Bool.true_and, if_true, if_false, nI_ltI, nI_add]
            rw [if_neg (by rw [df_lt b hb b hb]; omega), if_pos (by rw [df_eq b hb b hb])]
          · simp (disch := first | omega | assumption | exact isSt6 | exact isSt18 | exact isSt30) only [fX11_servedAheadOf_4, fr_0_1, fi_s0, fr_s12, ia_s6, bdS, ck_t, ck_T, cb_0, cb_1, ab_jn, if_true, if_false, fi_s0, fr_s12, ia_s6, hn, hi, p6, q6, ea, eb, d1, d2, k1, k2, k3, Nat.lt_irrefl, m1_ne, and_false, or_false, decide_false, Bool.true_and, Bool.false_eq_true, if_true, if_false, Nat.add_zero, nI_ltI, nI_add]
            rw [if_neg (by rw [df_lt b hb b hb]; omega), if_pos (by rw [df_eq b hb b hb])]
        · simp (disch := first | omega | assumption | exact isSt6 | exact isSt18 | exact isSt30) only [fX11_servedAheadOf_4, fr_0_1, fi_s0, fr_s12, ia_s6, bdS, ck_t, ck_T, cb_0, cb_1, ab_jn, if_true, if_false, fi_s0, fr_s12, ia_s6, hn, hi, p6, q6, ea, eb, d1, d2, k1, k2, m1_ne, false_and, or_false, decide_false, Bool.true_and, Bool.false_eq_true, if_true, if_false, Nat.add_zero, nI_ltI, nI_add]
  · intro F'
    simp (disch := first | omega | assumption | exact isSt6 | exact isSt18 | exact isSt30) only [fX11_servedAheadOf_4, fr_0_1, fi_s0, fr_s12, ia_s6, bdS, ck_t, ck_T, cb_0, cb_1, ab_jn, if_true, if_false, fi_s0, hn, Nat.lt_irrefl, nI_ltI, if_false]
    rfl
