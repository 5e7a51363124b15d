variable {Nq : Nat}
/-! ===== the reference reads: its place in the text ===== -/
theorem upd_cm {f : Nat → Int32} {i j : Nat} (h : i ≠ j) (v w : Int32) : upd (upd f i v) j w = upd (upd f j w) i v := by
  funext q
  simp only [upd_e]
  by_cases c : q = j
  · rw [if_pos c, if_neg (by omega), if_pos c]
  · rw [if_neg c]
    by_cases c2 : q = i
    · rw [if_pos c2, if_pos c2]
    · rw [if_neg c2, if_neg c2, if_neg c]
theorem sF_cm (g : gG) (a : Nat) {k k' : Nat} (h : k ≠ k') (v w : Int32) : sF (sF g a k v) a k' w = sF (sF g a k' w) a k v := by
  unfold sF
  refine Prod.ext rfl (Prod.ext ?_ rfl)
  funext b
  show (if b = a then upd (if a = a then upd (g.2.1 a) k v else g.2.1 a) k' w else if b = a then upd (g.2.1 a) k v else g.2.1 b) = (if b = a then upd (if a = a then upd (g.2.1 a) k' w else g.2.1 a) k v else if b = a then upd (g.2.1 a) k' w else g.2.1 b)
  by_cases c : b = a
  · simp only [c, if_true]; exact upd_cm h v w
  · simp only [c, if_false]
/-- where the reference is (at), its fault, how deep, hands, fetches -/
def tx (g : gG) (a f d u v : Int32) : gG := sF (sF (sF (sF (sF g 206 18 v) 206 17 u) 206 13 d) 206 12 f) 206 11 a
section TX
variable (g : gG) (a f d u v w : Int32)
theorem tf11 : gF (tx g a f d u v) 206 11 = a := by unfold tx; rw [gF_sF1, upd_1]
theorem tf12 : gF (tx g a f d u v) 206 12 = f := by unfold tx; rw [gF_sF1, upd_2 _ _ (by omega), gF_sF1, upd_1]
theorem tf13 : gF (tx g a f d u v) 206 13 = d := by unfold tx; rw [gF_sF1, upd_2 _ _ (by omega), gF_sF1, upd_2 _ _ (by omega), gF_sF1, upd_1]
theorem tf17 : gF (tx g a f d u v) 206 17 = u := by unfold tx; rw [gF_sF1, upd_2 _ _ (by omega), gF_sF1, upd_2 _ _ (by omega), gF_sF1, upd_2 _ _ (by omega), gF_sF1, upd_1]
theorem tf18 : gF (tx g a f d u v) 206 18 = v := by unfold tx; rw [gF_sF1, upd_2 _ _ (by omega), gF_sF1, upd_2 _ _ (by omega), gF_sF1, upd_2 _ _ (by omega), gF_sF1, upd_2 _ _ (by omega), gF_sF1, upd_1]
theorem tfo {k : Nat} (h : k ≠ 11 ∧ k ≠ 12 ∧ k ≠ 13 ∧ k ≠ 17 ∧ k ≠ 18) : gF (tx g a f d u v) 206 k = gF g 206 k := by
  unfold tx
  rw [gF_sF1, upd_2 _ _ (by omega), gF_sF1, upd_2 _ _ (by omega), gF_sF1, upd_2 _ _ (by omega), gF_sF1, upd_2 _ _ (by omega), gF_sF1, upd_2 _ _ (by omega)]
theorem tf9 : gF (tx g a f d u v) 206 9 = gF g 206 9 := tfo g a f d u v (by omega)
theorem tf10 : gF (tx g a f d u v) 206 10 = gF g 206 10 := tfo g a f d u v (by omega)
theorem tf15 : gF (tx g a f d u v) 206 15 = gF g 206 15 := tfo g a f d u v (by omega)
theorem tf16 : gF (tx g a f d u v) 206 16 = gF g 206 16 := tfo g a f d u v (by omega)
theorem tfx {b : Nat} (h : b ≠ 206) : gF (tx g a f d u v) b = gF g b := by
  unfold tx
  rw [gF_sF2 _ _ h, gF_sF2 _ _ h, gF_sF2 _ _ h, gF_sF2 _ _ h, gF_sF2 _ _ h]
theorem tA (b : Nat) : gA (tx g a f d u v) b = gA g b := rfl
theorem tx_11 : sF (tx g a f d u v) 206 11 w = tx g w f d u v := by unfold tx; rw [sF_sF]
theorem tx_12 : sF (tx g a f d u v) 206 12 w = tx g a w d u v := by unfold tx; rw [sF_cm _ _ (show 11 ≠ 12 by omega), sF_sF]
theorem tx_13 : sF (tx g a f d u v) 206 13 w = tx g a f w u v := by unfold tx; rw [sF_cm _ _ (show 11 ≠ 13 by omega), sF_cm _ _ (show 12 ≠ 13 by omega), sF_sF]
theorem tx_17 : sF (tx g a f d u v) 206 17 w = tx g a f d w v := by unfold tx; rw [sF_cm _ _ (show 11 ≠ 17 by omega), sF_cm _ _ (show 12 ≠ 17 by omega), sF_cm _ _ (show 13 ≠ 17 by omega), sF_sF]
theorem tx_18 : sF (tx g a f d u v) 206 18 w = tx g a f d u w := by unfold tx; rw [sF_cm _ _ (show 11 ≠ 18 by omega), sF_cm _ _ (show 12 ≠ 18 by omega), sF_cm _ _ (show 13 ≠ 18 by omega), sF_cm _ _ (show 17 ≠ 18 by omega), sF_sF]
theorem tx_id : tx g (gF g 206 11) (gF g 206 12) (gF g 206 13) (gF g 206 17) (gF g 206 18) = g := by
  unfold tx
  have e1 : sF g 206 18 (gF g 206 18) = g := sF_id _ _ _
  have e2 : sF g 206 17 (gF g 206 17) = g := sF_id _ _ _
  have e3 : sF g 206 13 (gF g 206 13) = g := sF_id _ _ _
  have e4 : sF g 206 12 (gF g 206 12) = g := sF_id _ _ _
  have e5 : sF g 206 11 (gF g 206 11) = g := sF_id _ _ _
  rw [e1, e2, e3, e4, e5]
end TX
/-- the text that the reference reads -/
def Ltx (g : gG) (t : Nat → Nat) (L : Nat) : Prop := gF g 206 10 = nI L ∧ L ≤ 400 ∧ (∀ i, i < L → t i < 256) ∧ ((gF g 206 9 = -1 ∧ ∀ k, k < L → gA g 211 k = nI (t k)) ∨ (gF g 206 9 = nI 584 ∧ ∀ k, k < L → gA g 207 (584 + k) = nI (t k)))
theorem rf_letter {g : gG} {t : Nat → Nat} {L : Nat} (H : Ltx g t L) {k : Nat} (hk : k < L) (a f d u v : Int32) : fX12_letter 206 (nI k) (gH (tx g a f d u v)) = some (nI (t k)) := by
  obtain ⟨h1, h2, h3, h4 | h4⟩ := H
  · have e := h4.2 k hk
    simp (disch := omega) only [fX12_letter, fi_206_9, fr_206_7, ia_211, fr_206_1, ia_207, bdS, ck_t, ck_T, cb_0, cb_1, ab_jn, if_true, if_false, tf9, tf10, tf11, tf12, tf13, tf15, tf16, tf17, tf18, tA, tx_11, tx_12, tx_13, tx_17, tx_18, h4.1, e, if_true]
  · have e := h4.2 k hk
    simp (disch := omega) only [fX12_letter, fi_206_9, fr_206_7, ia_211, fr_206_1, ia_207, bdS, ck_t, ck_T, cb_0, cb_1, ab_jn, if_true, if_false, tf9, tf10, tf11, tf12, tf13, tf15, tf16, tf17, tf18, tA, tx_11, tx_12, tx_13, tx_17, tx_18, h4.1, e, m1_ne, nI_add, if_false]
theorem rl_skip {g : gG} {t : Nat → Nat} {L : Nat} (H : Ltx g t L) (f d u v : Int32) : ∀ Fu a, a < 1000 → L - a < Fu → fX12_skip_0 206 Fu (gH (tx g (nI a) f d u v)) = some (gH (tx g (nI (rn (bk t) L a)) f d u v)) := by
  have h1 := H.1
  have h2 := H.2.1
  intro Fu
  induction Fu with
  | zero => intro a _ h; omega
  | succ Fu ih =>
    intro a ha h
    by_cases c : a < L
    · have l := rf_letter H c (nI a) f d u v
      have b := H.2.2.1 a c
      by_cases c2 : t a = 32
      · have e := ih (a + 1) (by omega) (by omega)
        rw [rn_go ⟨c, decide_eq_true c2⟩]
        rw [c2] at l
        simp (disch := omega) only [fX12_skip_0, io_206, fi_206_11, fi_206_10, fw_206_11, bdS, ck_t, ck_T, cb_0, cb_1, ab_jn, if_true, if_false, tf9, tf10, tf11, tf12, tf13, tf15, tf16, tf17, tf18, tA, tx_11, tx_12, tx_13, tx_17, tx_18, h1, c, l, nI_ltI, nI_add, if_true]
        exact e
      · rw [rn_stop (fun h => c2 (of_decide_eq_true h.2))]
        simp (disch := omega) only [fX12_skip_0, io_206, fi_206_11, fi_206_10, fw_206_11, bdS, ck_t, ck_T, cb_0, cb_1, ab_jn, if_true, if_false, tf9, tf10, tf11, tf12, tf13, tf15, tf16, tf17, tf18, tA, tx_11, tx_12, tx_13, tx_17, tx_18, h1, c, l, c2, nI_ltI, nI_eq, if_true, if_false]
    · rw [rn_stop (fun h => c h.1)]
      simp (disch := omega) only [fX12_skip_0, io_206, fi_206_11, fi_206_10, fw_206_11, bdS, ck_t, ck_T, cb_0, cb_1, ab_jn, if_true, if_false, tf9, tf10, tf11, tf12, tf13, tf15, tf16, tf17, tf18, tA, tx_11, tx_12, tx_13, tx_17, tx_18, h1, c, nI_ltI, if_false]
theorem rf_skip {g : gG} {t : Nat → Nat} {L : Nat} (H : Ltx g t L) (f d u v : Int32) {a : Nat} (ha : a < 1000) {F : Nat} (hF : 11000 < F) : fX12_skip F 206 (gH (tx g (nI a) f d u v)) = some (gH (tx g (nI (rn (bk t) L a)) f d u v)) := by
  unfold fX12_skip
  exact rl_skip H f d u v F a ha (by have := H.2.1; omega)
theorem rf_place {g : gG} {t : Nat → Nat} {L : Nat} (H : Ltx g t L) (f d u v : Int32) {a : Nat} (ha : a < 1000) {F : Nat} (hF : 11000 < F) : fX12_place F 206 (gH (tx g (nI a) f d u v)) = some (nI (rn (bk t) L a), gH (tx g (nI (rn (bk t) L a)) f d u v)) := by
  simp (disch := omega) only [fX12_place, io_206, fi_206_11, bdS, ck_t, ck_T, cb_0, cb_1, ab_jn, if_true, if_false, rf_skip H f d u v ha hF, tf9, tf10, tf11, tf12, tf13, tf15, tf16, tf17, tf18, tA, tx_11, tx_12, tx_13, tx_17, tx_18]
/-- a sign that is neither letter nor digit -/
def isG (c : Nat) : Prop := c < 48 ∨ (57 < c ∧ c < 97)
theorem kd_sign {t : Nat → Nat} {L b c : Nat} (hc : isG c) : kd t L b = c ↔ (b < L ∧ t b = c) := by
  unfold isG at hc
  constructor
  · intro h
    have hl : b < L := kd_lt (t := t) (by omega)
    refine ⟨hl, ?_⟩
    unfold kd at h
    rw [if_pos hl] at h
    split at h
    · rcases fwd_lo (t := t) (L := L) (a := b) (ws := wW) (k := 1000) with h1 | h1 <;> omega
    · split at h
      · omega
      · exact h
  · rintro ⟨h1, h2⟩
    unfold kd
    rw [if_pos h1, if_neg (by unfold ltr; rw [decide_eq_true_iff]; omega), if_neg (by unfold dig; rw [decide_eq_true_iff]; omega)]
    exact h2
theorem rf_isSign {g : gG} {t : Nat → Nat} {L : Nat} (H : Ltx g t L) (f d u v : Int32) {a : Nat} (ha : a < 1000) {c : Nat} (hc : isG c) {F : Nat} (hF : 11000 < F) : fX12_isSign F 206 (nI c) (gH (tx g (nI a) f d u v)) = some (bI (decide (kd t L (rn (bk t) L a) = c)), gH (tx g (nI (rn (bk t) L a)) f d u v)) := by
  have s := rf_skip H f d u v ha hF
  have h1 := H.1
  have h2 := H.2.1
  generalize hb : rn (bk t) L a = b at *
  have hb' : b < 1000 := by
    by_cases k : a ≤ L
    · have := rn_le (P := bk t) (L := L) a k; omega
    · rw [rn_stop (fun h => k (by omega))] at hb; omega
  have hc' : c < 97 := by unfold isG at hc; omega
  rw [show decide (kd t L b = c) = decide (b < L ∧ t b = c) from decide_eq_decide.mpr (kd_sign hc)]
  by_cases c1 : b < L
  · have l := rf_letter H c1 (nI b) f d u v
    have bb := H.2.2.1 b c1
    by_cases c2 : t b = c <;>
    simp (disch := omega) only [fX12_isSign, io_206, fi_206_11, fi_206_10, bdS, ck_t, ck_T, cb_0, cb_1, ab_jn, if_true, if_false, s, tf9, tf10, tf11, tf12, tf13, tf15, tf16, tf17, tf18, tA, tx_11, tx_12, tx_13, tx_17, tx_18, h1, c1, l, c2, nI_ltI, nI_eq, if_true, if_false, true_and, and_true, and_false, decide_true, decide_false] <;> rfl
  · simp (disch := omega) only [fX12_isSign, io_206, fi_206_11, fi_206_10, bdS, ck_t, ck_T, cb_0, cb_1, ab_jn, if_true, if_false, s, tf9, tf10, tf11, tf12, tf13, tf15, tf16, tf17, tf18, tA, tx_11, tx_12, tx_13, tx_17, tx_18, h1, c1, nI_ltI, if_false, false_and, decide_false]
    rfl
/-! ===== the reference's words ===== -/
def litW (k : Nat) : Nat := [7, 8, 9, 12, 13, 2, 14, 15, 16, 17, 18, 19, 11, 10, 0, 1, 3, 4, 5, 6].getD (k - 21) 0
theorem lit_L : ∀ k, k < 20 → ab_sL (ab_SB + (21 + k)) = some (nI (wW.getD (litW (21 + k)) []).length) ∧ litW (21 + k) < 20 := by decide +kernel
theorem lit_C : ∀ k, k < 20 → ∀ i, i < 8 → i < (wW.getD (litW (21 + k)) []).length → ab_sC (ab_SB + (21 + k)) (nI i) = some (nI ((wW.getD (litW (21 + k)) []).getD i 0)) := by decide +kernel
theorem wW_len8 : ∀ j, j < 20 → (wW.getD j []).length < 8 ∧ ∀ i, i < 8 → (wW.getD j []).getD i 0 < 256 := by decide
theorem spl_iff {t : Nat → Nat} : ∀ {w : List Nat} {b : Nat}, spl t w b = true ↔ ∀ i, i < w.length → t (b + i) = w.getD i 0
  | [], b => ⟨fun _ i h => absurd h (Nat.not_lt_zero i), fun _ => rfl⟩
  | c :: w, b => by
    rw [spl, Bool.and_eq_true, spl_iff (w := w) (b := b + 1)]
    constructor
    · rintro ⟨h1, h2⟩ i hi
      cases i with
      | zero => exact of_decide_eq_true h1
      | succ i =>
        have := h2 i (by rw [List.length_cons] at hi; omega)
        rw [show b + (i + 1) = b + 1 + i by omega]; exact this
    · intro h
      refine ⟨decide_eq_true (h 0 (by rw [List.length_cons]; omega)), fun i hi => ?_⟩
      have := h (i + 1) (by rw [List.length_cons]; omega)
      rw [show b + 1 + i = b + (i + 1) by omega]; exact this
theorem spl_eq {t : Nat → Nat} : ∀ {w w' : List Nat} {b : Nat}, spl t w b = true → spl t w' b = true → w.length = w'.length → w = w'
  | [], [], _, _, _, _ => rfl
  | [], c :: w, _, _, _, h => by cases h
  | c :: w, [], _, _, _, h => by cases h
  | c :: w, c' :: w', b, h1, h2, h => by
    rw [spl, Bool.and_eq_true] at h1 h2
    have e1 := of_decide_eq_true h1.1
    have e2 := of_decide_eq_true h2.1
    rw [spl_eq h1.2 h2.2 (by simpa using h), ← e1, ← e2]
theorem hsW_eq {t : Nat → Nat} {L b : Nat} {w w' : List Nat} (h1 : hsW t L w b = true) (h2 : hsW t L w' b = true) : w = w' := by
  unfold hsW at h1 h2
  rw [Bool.and_eq_true] at h1 h2
  have e1 := of_decide_eq_true h1.1
  have e2 := of_decide_eq_true h2.1
  exact spl_eq h1.2 h2.2 (by omega)
theorem wW_ne : ∀ i, i < 20 → ∀ j, j < 20 → i ≠ j → wW.getD i [] ≠ wW.getD j [] := by decide
theorem fwd_first {t : Nat → Nat} {L a : Nat} : ∀ {ws : List (List Nat)} {k j : Nat}, j < ws.length → hsW t L (ws.getD j []) a = true → (∀ i, i < j → hsW t L (ws.getD i []) a = false) → fwd t L a ws k = k + j
  | [], k, j, h, _, _ => absurd h (Nat.not_lt_zero j)
  | w :: ws, k, 0, h, h1, _ => by
    have h1 : hsW t L w a = true := h1
    rw [fwd, if_pos h1]; rfl
  | w :: ws, k, j + 1, h, h1, h2 => by
    have h0 : hsW t L w a = false := h2 0 (by omega)
    rw [fwd, if_neg (by rw [h0]; decide)]
    have := fwd_first (t := t) (L := L) (a := a) (ws := ws) (k := k + 1) (j := j) (by rw [List.length_cons] at h; omega) h1 (fun i hi => h2 (i + 1) (by omega))
    omega
theorem hs_kd {t : Nat → Nat} {L b j : Nat} (hb : ∀ i, i < L → t i < 256) (hj : j < 20) : hsW t L (wW.getD j []) b = decide (kd t L b = 1000 + j) := by
  cases c : hsW t L (wW.getD j []) b
  · symm
    refine decide_eq_false (fun h => ?_)
    rw [(kd_word hb hj h).1] at c; cases c
  · symm
    refine decide_eq_true ?_
    have hl := wW_len j hj
    have c' := c
    unfold hsW at c'
    rw [Bool.and_eq_true] at c'
    have e := of_decide_eq_true c'.1
    have k : b < L ∧ ltr t b = true := by
      apply Decidable.byContradiction
      intro k
      rw [rn_stop k] at e
      omega
    unfold kd
    rw [if_pos k.1, if_pos k.2]
    refine fwd_first (ws := wW) hj c (fun i hi => ?_)
    cases d : hsW t L (wW.getD i []) b
    · rfl
    · exact absurd (hsW_eq d c) (wW_ne i (by omega) j hj (by omega))
theorem rf_in {x lo hi : Nat} (h : ab_H) (hx : x < 2 ^ 31) (hl : lo < 2 ^ 31) (hh : hi < 2 ^ 31) : fX12_isIn (nI x) (nI lo) (nI hi) h = some (bI (decide (lo ≤ x ∧ x ≤ hi))) := by
  rw [rf_isIn]
  congr 2
  refine decide_eq_decide.mpr ?_
  rw [nI_ltI hx hl, nI_leI hx hh]; omega
theorem rl_has9 {g : gG} {t : Nat → Nat} {L : Nat} (H : Ltx g t L) (f d u v A : Int32) {F x1 : Nat} (K : Int32 → Option (Int32 × ab_H)) : ∀ Fu a, a < 1000 → L - a < Fu → fX12_has__9 F 206 x1 (gH (tx g A f d u v)) K Fu (nI a) = K (nI (rn (ltr t) L a)) := by
  have h1 := H.1
  have h2 := H.2.1
  intro Fu
  induction Fu with
  | zero => intro a _ h; omega
  | succ Fu ih =>
    intro a ha h
    by_cases c : a < L
    · have l := rf_letter H c A f d u v
      have b := H.2.2.1 a c
      by_cases c2 : 97 ≤ t a ∧ t a ≤ 122
      · have e := ih (a + 1) (by omega) (by omega)
        rw [rn_go ⟨c, decide_eq_true c2⟩]
        simp (disch := omega) only [fX12_has__9, io_206, fi_206_10, bdS, ck_t, ck_T, cb_0, cb_1, ab_jn, if_true, if_false, tf9, tf10, tf11, tf12, tf13, tf15, tf16, tf17, tf18, tA, tx_11, tx_12, tx_13, tx_17, tx_18, h1, c, l, rf_in, c2, decide_true, bI_0, nI_ltI, nI_add, if_true, if_false, reduceCtorEq, and_self]
        exact e
      · rw [rn_stop (fun h => c2 (of_decide_eq_true h.2))]
        simp (disch := omega) only [fX12_has__9, io_206, fi_206_10, bdS, ck_t, ck_T, cb_0, cb_1, ab_jn, if_true, if_false, tf9, tf10, tf11, tf12, tf13, tf15, tf16, tf17, tf18, tA, tx_11, tx_12, tx_13, tx_17, tx_18, h1, c, l, rf_in, c2, decide_false, bI_0, nI_ltI, if_true, if_false]
    · rw [rn_stop (fun h => c h.1)]
      simp (disch := omega) only [fX12_has__9, io_206, fi_206_10, bdS, ck_t, ck_T, cb_0, cb_1, ab_jn, if_true, if_false, tf9, tf10, tf11, tf12, tf13, tf15, tf16, tf17, tf18, tA, tx_11, tx_12, tx_13, tx_17, tx_18, h1, c, nI_ltI, if_false]
theorem rl_has55 {g : gG} {t : Nat → Nat} {L : Nat} (H : Ltx g t L) (f d u v : Int32) {b k : Nat} (hk : k < 20) (hbl : b + (wW.getD (litW (21 + k)) []).length ≤ L) (z : Int32) {F : Nat} (hF : 11000 < F) : fX12_has__55 F 206 (ab_SB + (21 + k)) z (gH (tx g (nI b) f d u v)) F (nI 0) = if spl t (wW.getD (litW (21 + k)) []) b = true then some (nI 1, gH (tx g z f d u v)) else some (nI 0, gH (tx g (nI b) f d u v)) := by
  have h2 := H.2.1
  obtain ⟨k1, k2⟩ := lit_L k hk
  have k8 := wW_len8 _ k2
  have k3 := lit_C k hk
  generalize wW.getD (litW (21 + k)) [] = w at *
  refine lpx (L := fun F' i (_ : Unit) => fX12_has__55 F 206 (ab_SB + (21 + k)) z (gH (tx g (nI b) f d u v)) F' i) (n := w.length) (fun _ => ()) (fun i => t (b + i) ≠ w.getD i 0) _ ?_ ?_ ?_ F (by omega)
  · intro F' i hi _ hE
    have hE : t (b + i) = w.getD i 0 := Decidable.byContradiction hE
    have l := rf_letter H (show b + i < L by omega) (nI b) f d u v
    rw [hE] at l
    simp (disch := omega) only [fX12_has__55, io_206, fi_206_11, fw_206_11, bdS, ck_t, ck_T, cb_0, cb_1, ab_jn, if_true, if_false, tf9, tf10, tf11, tf12, tf13, tf15, tf16, tf17, tf18, tA, tx_11, tx_12, tx_13, tx_17, tx_18, k1, k3 i (by omega) hi, hi, l, nI_ltI, nI_add, if_true]
  · intro F' i hi hj hE
    rw [if_neg (fun h => hE (spl_iff.mp h i hi))]
    have l := rf_letter H (show b + i < L by omega) (nI b) f d u v
    have l1 := H.2.2.1 (b + i) (by omega)
    have l2 := k8.2 i (by omega)
    have ne : ¬ (nI (t (b + i)) = nI (w.getD i 0)) := by rw [nI_eq (by omega) (by omega)]; exact hE
    simp (disch := omega) only [fX12_has__55, io_206, fi_206_11, fw_206_11, bdS, ck_t, ck_T, cb_0, cb_1, ab_jn, if_true, if_false, tf9, tf10, tf11, tf12, tf13, tf15, tf16, tf17, tf18, tA, tx_11, tx_12, tx_13, tx_17, tx_18, k1, k3 i (by omega) hi, hi, l, ne, nI_ltI, nI_add, if_true, if_false]
  · intro F' hj
    rw [if_pos (spl_iff.mpr (fun i hi => Decidable.byContradiction (hj i hi)))]
    simp (disch := omega) only [fX12_has__55, io_206, fi_206_11, fw_206_11, bdS, ck_t, ck_T, cb_0, cb_1, ab_jn, if_true, if_false, tf9, tf10, tf11, tf12, tf13, tf15, tf16, tf17, tf18, tA, tx_11, tx_12, tx_13, tx_17, tx_18, k1, Nat.lt_irrefl, nI_ltI, if_false]
theorem rf_hasW {g : gG} {t : Nat → Nat} {L : Nat} (H : Ltx g t L) (f d u v : Int32) {a k : Nat} (ha : a < 1000) (hk : k < 20) {F : Nat} (hF : 11000 < F) : fX12_has_ F 206 (ab_SB + (21 + k)) (gH (tx g (nI a) f d u v)) = some (bI (decide (kd t L (rn (bk t) L a) = 1000 + litW (21 + k))), gH (tx g (nI (if kd t L (rn (bk t) L a) = 1000 + litW (21 + k) then en t L (rn (bk t) L a) else rn (bk t) L a)) f d u v)) := by
  have s := rf_skip H f d u v ha hF
  have h1 := H.1
  have h2 := H.2.1
  have hbt := H.2.2.1
  generalize hb : rn (bk t) L a = b at *
  have hb' : b < 1000 := by
    by_cases k : a ≤ L
    · have := rn_le (P := bk t) (L := L) a k; omega
    · rw [rn_stop (fun h => k (by omega))] at hb; omega
  obtain ⟨k1, k2⟩ := lit_L k hk
  have hs := hs_kd (t := t) (L := L) (b := b) hbt k2
  have k8 := (wW_len8 _ k2).1
  have kl := wW_len _ k2
  have n9 := fun K => rl_has9 H f d u v (nI b) (F := F) (x1 := ab_SB + (21 + k)) K F b hb' (by omega)
  have ge := rn_ge (P := ltr t) (L := L) b
  have e55 := fun z hbl => rl_has55 H f d u v (b := b) hk hbl z hF
  have le : rn (ltr t) L b < 1000 := by
    by_cases k : b ≤ L
    · have := rn_le (P := ltr t) (L := L) b k; omega
    · rw [rn_stop (fun h => k (by omega))]; exact hb'
  have sb : nI (rn (ltr t) L b) - nI b = nI (rn (ltr t) L b - b) := pk_sub ge
  have unf : fX12_has_ F 206 (ab_SB + (21 + k)) (gH (tx g (nI a) f d u v)) = if rn (ltr t) L b - b = (wW.getD (litW (21 + k)) []).length then fX12_has__55 F 206 (ab_SB + (21 + k)) (nI (rn (ltr t) L b)) (gH (tx g (nI b) f d u v)) F (nI 0) else some (nI 0, gH (tx g (nI b) f d u v)) := by
    simp (disch := omega) only [fX12_has_, io_206, fi_206_11, bdS, ck_t, ck_T, cb_0, cb_1, ab_jn, if_true, if_false, s, tf9, tf10, tf11, tf12, tf13, tf15, tf16, tf17, tf18, tA, tx_11, tx_12, tx_13, tx_17, tx_18, n9, k1, sb, nI_eq]
  rw [unf]
  by_cases c : rn (ltr t) L b - b = (wW.getD (litW (21 + k)) []).length
  · rw [if_pos c]
    have bl : b ≤ L := by
      apply Decidable.byContradiction
      intro k
      rw [rn_stop (fun h => k (by omega))] at c
      omega
    have := rn_le (P := ltr t) (L := L) b bl
    rw [e55 _ (by omega)]
    by_cases d1 : spl t (wW.getD (litW (21 + k)) []) b = true
    · have hh : hsW t L (wW.getD (litW (21 + k)) []) b = true := by
        unfold hsW; rw [d1, decide_eq_true (by omega)]; rfl
      rw [hs] at hh
      have kd1 := of_decide_eq_true hh
      rw [if_pos d1, if_pos kd1, decide_eq_true kd1]
      obtain ⟨q1, q2, q3⟩ := kd_word hbt k2 kd1
      have en1 := en_word q1 q2 q3
      rw [show rn (ltr t) L b = en t L b by omega]
      rfl
    · have hh : hsW t L (wW.getD (litW (21 + k)) []) b = false := by
        unfold hsW
        cases k : spl t (wW.getD (litW (21 + k)) []) b
        · rw [Bool.and_false]
        · exact absurd k d1
      rw [hs] at hh
      have kd1 := of_decide_eq_false hh
      rw [if_neg d1, if_neg kd1, decide_eq_false kd1]
      rfl
  · rw [if_neg c]
    have hh : hsW t L (wW.getD (litW (21 + k)) []) b = false := by
      unfold hsW
      rw [decide_eq_false (by omega)]; rfl
    rw [hs] at hh
    have kd1 := of_decide_eq_false hh
    rw [if_neg kd1, decide_eq_false kd1]
    rfl
