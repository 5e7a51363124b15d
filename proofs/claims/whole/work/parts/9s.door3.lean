variable {Nq : Nat}
/-! ===== the reference reads the LINES of THE DOOR ===== -/
def DE (g : gG) (t : Nat → Nat) (L : Nat) (u v : Int32) (m : Nat → Int32) (r : DR) (X : Option ab_H) : Prop := ∃ m' a' f', X = some (gH (td g m' (nI a') f' u v)) ∧ a' ≤ L ∧ (∀ i, 584 ≤ i → m' i = m i) ∧ (r.1 = true → f' = -1 ∧ m' = r.2.2 ∧ rn (bk t) L a' = r.2.1) ∧ (r.1 = false → f' = nI r.2.1 ∧ ¬ f' = -1)
theorem DE.no {g : gG} {t : Nat → Nat} {L : Nat} {u v : Int32} {m m' m2 : Nat → Int32} {a' q : Nat} {X : Option ab_H} (e : X = some (gH (td g m' (nI a') (nI q) u v))) (h : a' ≤ L) (hm : ∀ i, 584 ≤ i → m' i = m i) (hq : q ≤ 1000) : DE g t L u v m (false, q, m2) X := ⟨m', a', _, e, h, hm, (fun h => by cases h), fun _ => ⟨rfl, nI_m1 (by omega)⟩⟩
theorem DE.ok {g : gG} {t : Nat → Nat} {L : Nat} {u v : Int32} {m m' : Nat → Int32} {a' q : Nat} {X : Option ab_H} (e : X = some (gH (td g m' (nI a') (-1) u v))) (h : a' ≤ L) (hm : ∀ i, 584 ≤ i → m' i = m i) (hq : rn (bk t) L a' = q) : DE g t L u v m (true, q, m') X := ⟨m', a', _, e, h, hm, fun _ => ⟨rfl, rfl, hq⟩, (fun h => by cases h)⟩
theorem adL_hi (n : Nat) (m : Nat → Int32) (hn : n < 10) : ∀ i, i ≤ 10 → ∀ q, (q < 72 ∨ 272 ≤ q) → adL n m i q = m q
  | 0, _, _, _ => rfl
  | i + 1, h, q, hq => by
    show upd (upd (upd (adL n m i) _ _) _ _) _ _ q = _
    rw [upd_2 _ _ (by omega), upd_2 _ _ (by omega), upd_2 _ _ (by omega)]
    exact adL_hi n m hn i (by omega) q hq
theorem rl_pers {g : gG} (m : Nat → Int32) (a f u v : Int32) {n : Nat} (hn : n < 10) {F : Nat} : ∀ e i Fu, i + e = 10 → e < Fu → (adL n m i) 3 = nI n → fX12_personLine_95 F 206 (nI n) Fu (nI i) (gH (td g (adL n m i) a f u v)) = some (gH (td g (upd (adL n m 10) 3 (nI (n + 1))) a f u v)) := by
  intro e
  induction e with
  | zero =>
    intro i Fu hi hF h3
    obtain ⟨F', rfl⟩ : ∃ F', Fu = F' + 1 := ⟨Fu - 1, by omega⟩
    have e : i = 10 := by omega
    subst e
    rw [fX12_personLine_95]
    refine (if_neg (by decide)).trans ?_
    refine (bd_e (fr_206_1 _)).trans ?_
    refine (bd_e (td_ia _ _ _ _ _ _ (by omega))).trans ?_
    refine (bd_e (td_iw _ _ _ _ _ _ _ (by omega))).trans ?_
    rw [h3, nI_add]
  | succ e ih =>
    intro i Fu hi hF h3
    obtain ⟨F', rfl⟩ : ∃ F', Fu = F' + 1 := ⟨Fu - 1, by omega⟩
    have r := ih (i + 1) F' (by omega) (by omega) (by rw [← h3, adL_hi n m hn _ (by omega) 3 (by omega), adL_hi n m hn _ (by omega) 3 (by omega)])
    rw [← r, fX12_personLine_95]
    refine (if_pos (nI_lt (by omega) (by omega))).trans ?_
    simp only [pk_mul, nI_add]
    refine (bd_e (fr_206_1 _)).trans ?_
    refine (bd_e (td_iw _ _ _ _ _ _ _ (by omega))).trans ?_
    refine (bd_e (fr_206_1 _)).trans ?_
    refine (bd_e (td_iw _ _ _ _ _ _ _ (by omega))).trans ?_
    refine (bd_e (fr_206_1 _)).trans ?_
    refine (bd_e (td_iw _ _ _ _ _ _ _ (by omega))).trans ?_
    rfl
theorem rs_pers {g : gG} {t : Nat → Nat} {L : Nat} (H : Ld g t L) {F : Nat} (hF : 11000 < F) {m : Nat → Int32} {n : Nat} (h10 : n ≤ 10) (hm : m 3 = nI n) {a : Nat} (ha : a < L) (u v : Int32) : DE g t L u v m (dPers t L a m n) (fX12_personLine F 206 (nI a) (gH (td g m (nI (en t L a)) (-1) u v))) := by
  have h2 := H.2.1
  have ea := en_le (t := t) ha
  have nx := nx_en (t := t) ha
  obtain ⟨x, a1, z1, e1⟩ := rf_eight (H.m m).x (nI 0) u v ea hF
  rw [nx] at e1
  unfold dPers
  by_cases c : n = 10
  · subst c
    rw [if_pos rfl]
    refine DE.no (m' := m) (a' := en t L a) ?_ ea (fun _ _ => rfl) (by omega)
    have nf : ¬ (nI a : Int32) = -1 := nI_m1 (by omega)
    unfold fX12_personLine
    refine (bd_e (fr_206_1 _)).trans ?_
    refine (bd_e (td_ia _ _ _ _ _ _ (by omega))).trans ?_
    refine (jn_e _ _).trans ?_
    refine (if_pos hm).trans ?_
    refine (ck_e (io_206 _)).trans ?_
    refine (bd_e (td_wr _ _ _ _ _ _)).trans ?_
    refine (ck_e (io_206 _)).trans ?_
    refine (bd_e (rf_eightW _ _ _ _ _ _ nf _)).trans ?_
    refine (ck_e (io_206 _)).trans ?_
    refine (bd_e (rf_eightW _ _ _ _ _ _ nf _)).trans ?_
    refine (bd_e (td_f12 _ _ _ _ _ _)).trans ?_
    exact if_neg nf
  · rw [if_neg c]
    have hn : n < 10 := by omega
    have ne : ¬ m 3 = nI 10 := by rw [hm, nI_eq (by omega) (by omega)]; omega
    by_cases c1 : e8b t L (nxt t L a) = true
    · rw [if_pos c1] at e1 ⊢
      obtain ⟨c2, c3, c4⟩ := e8b_i.mp c1
      have eb := en_le (t := t) c2.1
      have nb := nx_en (t := t) c2.1
      obtain ⟨x2, a2, y1, e2⟩ := rf_eight (H.m m).x (nI 0) u v eb hF
      rw [nb] at e2
      by_cases d1 : e8b t L (nxt t L (nxt t L a)) = true
      · rw [if_pos d1] at e2 ⊢
        obtain ⟨d2, d3, d4⟩ := e8b_i.mp d1
        have ec := en_le (t := t) d2.1
        have nc := nx_en (t := t) d2.1
        have q3 : ad6 m n (e8v t (nxt t L a)) (e8v t (nxt t L (nxt t L a))) 3 = nI n := by
          unfold ad6
          rw [upd_2 _ _ (by omega), upd_2 _ _ (by omega), upd_2 _ _ (by omega), upd_2 _ _ (by omega), upd_2 _ _ (by omega), upd_2 _ _ (by omega)]; exact hm
        have lp := rl_pers (g := g) (F := F) (ad6 m n (e8v t (nxt t L a)) (e8v t (nxt t L (nxt t L a)))) (nI (en t L (nxt t L (nxt t L a)))) (-1) u v hn 10 0 F (by omega) (by omega) q3
        refine DE.ok (m' := adP m n (e8v t (nxt t L a)) (e8v t (nxt t L (nxt t L a)))) (a' := en t L (nxt t L (nxt t L a))) ?_ ec (fun i hi => ?_) nc
        · unfold fX12_personLine
          refine (bd_e (fr_206_1 _)).trans ?_
          refine (bd_e (td_ia _ _ _ _ _ _ (by omega))).trans ?_
          refine (jn_e _ _).trans ?_
          refine (if_neg ne).trans ?_
          refine (ck_e (io_206 _)).trans ?_
          refine (bd_e e1).trans ?_
          refine (ck_e (io_206 _)).trans ?_
          refine (bd_e e2).trans ?_
          refine (bd_e (td_f12 _ _ _ _ _ _)).trans ?_
          refine (if_pos rfl).trans ?_
          refine (bd_e (fr_206_1 _)).trans ?_
          refine (bd_e (td_ia _ _ _ _ _ _ (by omega))).trans ?_
          rw [hm]
          refine (ck_e (io_206 _)).trans ?_
          refine (bd_e (td_has _ _ _ _ _ _ _ (by omega))).trans ?_
          refine (ck_e (io_206 _)).trans ?_
          refine (bd_e (td_has _ _ _ _ _ _ _ (by omega))).trans ?_
          refine (ck_e (io_206 _)).trans ?_
          refine (bd_e (td_has _ _ _ _ _ _ _ (by omega))).trans ?_
          refine (ck_e (io_206 _)).trans ?_
          refine (bd_e (td_has _ _ _ _ _ _ _ (by omega))).trans ?_
          refine (ck_e (io_206 _)).trans ?_
          refine (bd_e (td_has _ _ _ _ _ _ _ (by omega))).trans ?_
          refine (ck_e (io_206 _)).trans ?_
          refine (bd_e (td_has _ _ _ _ _ _ _ (by omega))).trans ?_
          exact lp
        · unfold adP
          rw [upd_2 _ _ (by omega), adL_hi _ _ hn _ (by omega) _ (by omega)]
          unfold ad6
          rw [upd_2 _ _ (by omega), upd_2 _ _ (by omega), upd_2 _ _ (by omega), upd_2 _ _ (by omega), upd_2 _ _ (by omega), upd_2 _ _ (by omega)]
      · rw [if_neg d1] at e2 ⊢
        have nf : ¬ (nI (nxt t L (nxt t L a)) : Int32) = -1 := nI_m1 (by
          have := (nxt_nrm (t := t) c2.1).2; omega)
        refine DE.no (m' := m) (a' := a2) ?_ y1 (fun _ _ => rfl) (by have := (nxt_nrm (t := t) c2.1).2; omega)
        unfold fX12_personLine
        refine (bd_e (fr_206_1 _)).trans ?_
        refine (bd_e (td_ia _ _ _ _ _ _ (by omega))).trans ?_
        refine (jn_e _ _).trans ?_
        refine (if_neg ne).trans ?_
        refine (ck_e (io_206 _)).trans ?_
        refine (bd_e e1).trans ?_
        refine (ck_e (io_206 _)).trans ?_
        refine (bd_e e2).trans ?_
        refine (bd_e (td_f12 _ _ _ _ _ _)).trans ?_
        exact if_neg nf
    · rw [if_neg c1] at e1 ⊢
      have bl := (nxt_nrm (t := t) ha).2
      have nf : ¬ (nI (nxt t L a) : Int32) = -1 := nI_m1 (by omega)
      refine DE.no (m' := m) (a' := a1) ?_ z1 (fun _ _ => rfl) (by omega)
      unfold fX12_personLine
      refine (bd_e (fr_206_1 _)).trans ?_
      refine (bd_e (td_ia _ _ _ _ _ _ (by omega))).trans ?_
      refine (jn_e _ _).trans ?_
      refine (if_neg ne).trans ?_
      refine (ck_e (io_206 _)).trans ?_
      refine (bd_e e1).trans ?_
      refine (ck_e (io_206 _)).trans ?_
      refine (bd_e (rf_eightW _ _ _ _ _ _ nf _)).trans ?_
      refine (bd_e (td_f12 _ _ _ _ _ _)).trans ?_
      exact if_neg nf
theorem td_f10 {g : gG} {L : Nat} (h : gF g 206 10 = nI L) (m : Nat → Int32) (a f u v : Int32) : ab_fi (gH (td g m a f u v)) 206 12 10 = some (nI L) := by
  rw [fi_206_10]
  unfold td
  rw [tf10, gF_sA, h]
theorem rf_isFig {g : gG} {t : Nat → Nat} {L : Nat} (H : Ld g t L) (m : Nat → Int32) (f u v : Int32) {a : Nat} (ha : a ≤ L) {F : Nat} (hF : 11000 < F) : fX12_isFigure F 206 (gH (td g m (nI a) f u v)) = some (bI (decide (kd t L (rn (bk t) L a) = 256)), gH (td g m (nI (rn (bk t) L a)) f u v)) := by
  have h1 := H.1
  have h2 := H.2.1
  have s := rf_skip (H.m m).x f (nI 0) u v (show a < 1000 by omega) hF
  have bl := rn_le (P := bk t) (L := L) a ha
  have k6 := kd_256 (t := t) (L := L) (a := rn (bk t) L a) H.2.2.1
  generalize rn (bk t) L a = b at *
  unfold fX12_isFigure
  refine (ck_e (io_206 _)).trans ?_
  refine (bd_e s).trans ?_
  refine (bd_e (td_f11 _ _ _ _ _ _)).trans ?_
  refine (bd_e (td_f10 h1 _ _ _ _ _)).trans ?_
  by_cases c : b < L
  · refine (if_pos (nI_lt c (by omega))).trans ?_
    refine (bd_e (td_f11 _ _ _ _ _ _)).trans ?_
    refine (ck_e (io_206 _)).trans ?_
    refine (bd_e (rf_letter (H.m m).x c _ _ _ _ _)).trans ?_
    have tb := H.2.2.1 _ c
    by_cases c2 : 48 ≤ t b ∧ t b ≤ 57
    · rw [decide_eq_true (k6.mpr ⟨c, decide_eq_true c2⟩)]
      simp (disch := omega) only [rf_in, c2, and_self, decide_true, bdS, bI_0, reduceCtorEq, if_false]
      rfl
    · rw [decide_eq_false (fun h => c2 (of_decide_eq_true (k6.mp h).2))]
      simp (disch := omega) only [rf_in, c2, decide_false, bdS, bI_0, if_true]
      rfl
  · rw [decide_eq_false (fun h => c (k6.mp h).1)]
    exact if_neg (fun h => c (by rw [nI_ltI (by omega) (by omega)] at h; exact h))
theorem td_place {g : gG} {t : Nat → Nat} {L : Nat} (H : Ld g t L) (m : Nat → Int32) (f u v : Int32) {a : Nat} (ha : a ≤ L) {F : Nat} (hF : 11000 < F) : fX12_place F 206 (gH (td g m (nI a) f u v)) = some (nI (rn (bk t) L a), gH (td g m (nI (rn (bk t) L a)) f u v)) := rf_place (H.m m).x f (nI 0) u v (by have := H.2.1; omega) hF
theorem nmb_in {t : Nat → Nat} {L c n : Nat} (h : nmb t L c < n) (hn : n ≤ 1000) : c < L := by
  unfold nmb at h
  apply Decidable.byContradiction
  intro k
  rw [if_neg (fun h => k h.1)] at h; omega
theorem rl_fill {g : gG} (a f u v : Int32) {w p : Nat} (hw : w < 1024) (hp : p < 10) {F : Nat} : ∀ k j i m Fu, i + k = 10 → j + k ≤ 30 → k < Fu → fX12_wishLine_142 F 206 (nI w) (nI (72 + 10 * p)) Fu (nI j) (nI i) (gH (td g m a f u v)) = some (gH (td g (flW w p k j i m) a f u v)) := by
  intro k
  induction k with
  | zero =>
    intro j i m Fu hi hj hF
    obtain ⟨F', rfl⟩ : ∃ F', Fu = F' + 1 := ⟨Fu - 1, by omega⟩
    have e : i = 10 := by omega
    subst e
    rw [fX12_wishLine_142]
    exact if_neg (by decide)
  | succ k ih =>
    intro j i m Fu hi hj hF
    obtain ⟨F', rfl⟩ : ∃ F', Fu = F' + 1 := ⟨Fu - 1, by omega⟩
    rw [fX12_wishLine_142, flW]
    refine (if_pos (nI_lt (by omega) (by omega))).trans ?_
    refine (bd_e (rf_isOfB _ (by omega) (by omega))).trans ?_
    cases c : w.testBit i
    · rw [if_neg (show ¬ false = true by decide)]
      refine (if_pos (bI_0.mpr rfl)).trans ?_
      refine (bd_e (fr_206_1 _)).trans ?_
      simp only [nI_add]
      refine (bd_e (td_iw _ _ _ _ _ _ _ (by omega))).trans ?_
      exact ih (j + 1) (i + 1) _ F' (by omega) (by omega) (by omega)
    · rw [if_pos rfl]
      refine (if_neg (show ¬ bI true = 0 by decide)).trans ?_
      simp only [nI_add]
      exact ih j (i + 1) m F' (by omega) (by omega) (by omega)
/-- what stands behind the wishes told -/
def kWL (F p : Nat) : Int32 → Int32 → ab_H → Option ab_H := fun (z23 : Int32) (z24 : Int32) (h25 : ab_H) => ab_bd (ab_fi h25 206 12 12) fun v26 => (if v26 = (-1 : Int32) then fX12_wishLine_142 F 206 z23 (nI (72 + 10 * p)) F z24 (nI 0) h25 else some h25)
theorem ct10 {w : Nat} : fb_ct (fun q => w.testBit q) 10 ≤ 10 := fb_ct_le _ _
theorem rl_wishD {g : gG} {t : Nat → Nat} {L : Nat} (H : Ld g t L) {F : Nat} (hF : 11000 < F) {n p : Nat} (h10 : n ≤ 10) (hp : p < n) (u v : Int32) (m0 : Nat → Int32) : ∀ k a c w j m Fu, k + j = 11 → k < Fu → a ≤ L → rn (bk t) L a = c → w < 1024 → fb_ct (fun q => w.testBit q) 10 = j → m 3 = nI n → (∀ i, 584 ≤ i → m i = m0 i) → DE g t L u v m0 (dWl t L n p k c w j m) (fX12_wishLine_42 F 206 (nI (72 + 10 * p)) (kWL F p) Fu (nI w) (nI j) (nI 1) (gH (td g m (nI a) (-1) u v))) := by
  have h2 := H.2.1
  intro k
  induction k with
  | zero =>
    intro a c w j m Fu hk _ _ _ _ hj
    have := ct10 (w := w); omega
  | succ k ih =>
    intro a c w j m Fu hk hFu ha hc hw hj hm hh
    obtain ⟨F', rfl⟩ : ∃ F', Fu = F' + 2 := ⟨Fu - 2, by omega⟩
    have pl := td_place H m (-1) u v ha hF
    have cl := rn_le (P := bk t) (L := L) a ha
    have cc := rn_rn (P := bk t) (L := L) a
    rw [hc] at pl cl cc
    obtain ⟨x, a', y1, y2⟩ := td_fig H m u v (show n ≤ 1000 by omega) cl hF
    rw [cc] at y2
    have nf : ¬ (nI c : Int32) = -1 := nI_m1 (by omega)
    rw [fX12_wishLine_42, dWl]
    by_cases c1 : nmb t L c < n
    · have hl := nmb_in c1 (by omega)
      have el := en_le (t := t) hl
      have nx := nx_en (t := t) hl
      rw [if_pos c1] at y2
      generalize nmb t L c = z at *
      cases c2 : w.testBit z
      · rw [if_pos (show z < n ∧ false = false from ⟨c1, rfl⟩)]
        have ct := ct_set (n := 10) (show z < 10 by omega) c2
        rw [hj] at ct
        have w2 := or1_lt hw (show z < 10 by omega)
        have j9 := ct10 (w := w ||| 2 ^ z)
        have q3 : upd m (72 + 10 * p + j) (nI z) 3 = nI n := by rw [upd_2 _ _ (by omega)]; exact hm
        have qh : ∀ i, 584 ≤ i → upd m (72 + 10 * p + j) (nI z) i = m0 i := fun i hi => by rw [upd_2 _ _ (by omega)]; exact hh i hi
        have E : fX12_wishLine_42 F 206 (nI (72 + 10 * p)) (kWL F p) (F' + 2) (nI w) (nI j) (nI 1) (gH (td g m (nI a) (-1) u v)) = fX12_wishLine_42 F 206 (nI (72 + 10 * p)) (kWL F p) (F' + 1) (nI (w ||| 2 ^ z)) (nI (j + 1)) (bI (decide (kd t L (nxt t L c) = 256))) (gH (td g (upd m (72 + 10 * p + j) (nI z)) (nI (nxt t L c)) (-1) u v)) := by
          rw [fX12_wishLine_42]
          refine (if_neg (by decide)).trans ?_
          refine (ck_e (io_206 _)).trans ?_
          refine (bd_e pl).trans ?_
          refine (bd_e (fr_206_1 _)).trans ?_
          refine (bd_e ((td_ia _ _ _ _ _ _ (by omega)).trans (congrArg some hm))).trans ?_
          refine (ck_e (io_206 _)).trans ?_
          refine (bd_e y2).trans ?_
          refine (bd_e (td_f12 _ _ _ _ _ _)).trans ?_
          refine (jn_e _ _).trans ?_
          refine (if_pos rfl).trans ?_
          refine (bd_e (rf_isOfB _ (by omega) (by omega))).trans ?_
          rw [c2]
          refine (if_pos (bI_0.mpr rfl)).trans ?_
          refine (bd_e (td_f12 _ _ _ _ _ _)).trans ?_
          refine (if_pos rfl).trans ?_
          refine (bd_e (fr_206_1 _)).trans ?_
          rw [nI_add, nI_add, sh1 (by omega), fa_or]
          refine (bd_e (td_iw _ _ _ _ _ _ _ (by omega))).trans ?_
          refine (ck_e (io_206 _)).trans ?_
          refine (bd_e (rf_isFig H _ (-1) u v el hF)).trans ?_
          rw [nx]
        rw [← fX12_wishLine_42, E]
        have nl := (nxt_nrm (t := t) hl).2
        have nn := (nxt_nrm (t := t) hl).1
        by_cases c6 : kd t L (nxt t L c) = 256
        · rw [if_pos c6, decide_eq_true c6]
          exact ih (nxt t L c) (nxt t L c) _ _ _ (F' + 1) (by omega) (by omega) nl nn w2 ct q3 qh
        · rw [if_neg c6, decide_eq_false c6, fX12_wishLine_42]
          refine DE.ok (m' := flW (w ||| 2 ^ z) p 10 (j + 1) 0 (upd m (72 + 10 * p + j) (nI z))) (a' := nxt t L c) ?_ nl (fun i hi => ?_) nn
          · refine (if_pos (bI_0.mpr rfl)).trans ?_
            unfold kWL
            refine (bd_e (td_f12 _ _ _ _ _ _)).trans ?_
            refine (if_pos rfl).trans ?_
            exact rl_fill _ _ _ _ w2 (by omega) 10 (j + 1) 0 _ F (by omega) (by omega) (by omega)
          · rw [← qh i hi]
            have : ∀ k j i m, j + k ≤ 30 → ∀ q, 584 ≤ q → flW (w ||| 2 ^ z) p k j i m q = m q := by
              intro k
              induction k with
              | zero => intro j i m _ q _; rfl
              | succ k ih2 =>
                intro j i m hj q hq
                rw [flW]
                split
                · exact ih2 _ _ _ (by omega) q hq
                · rw [ih2 _ _ _ (by omega) q hq, upd_2 _ _ (by omega)]
            exact this 10 (j + 1) 0 _ (by omega) i hi
      · rw [if_neg (show ¬ (z < n ∧ true = false) from fun h => by cases h.2)]
        refine DE.no (m' := m) (a' := en t L c) ?_ el hh (by omega)
        refine (if_neg (by decide)).trans ?_
        refine (ck_e (io_206 _)).trans ?_
        refine (bd_e pl).trans ?_
        refine (bd_e (fr_206_1 _)).trans ?_
        refine (bd_e ((td_ia _ _ _ _ _ _ (by omega)).trans (congrArg some hm))).trans ?_
        refine (ck_e (io_206 _)).trans ?_
        refine (bd_e y2).trans ?_
        refine (bd_e (td_f12 _ _ _ _ _ _)).trans ?_
        refine (jn_e _ _).trans ?_
        refine (if_pos rfl).trans ?_
        refine (bd_e (rf_isOfB _ (by omega) (by omega))).trans ?_
        rw [c2]
        refine (if_neg (show ¬ bI true = 0 by decide)).trans ?_
        refine (ck_e (io_206 _)).trans ?_
        refine (bd_e (td_wr _ _ _ _ _ _)).trans ?_
        refine (bd_e (td_f12 _ _ _ _ _ _)).trans ?_
        exact if_neg nf
    · rw [if_neg (show ¬ (nmb t L c < n ∧ w.testBit (nmb t L c) = false) from fun h => c1 h.1)]
      rw [if_neg c1] at y2
      refine DE.no (m' := m) (a' := a') ?_ y1 hh (by omega)
      refine (if_neg (by decide)).trans ?_
      refine (ck_e (io_206 _)).trans ?_
      refine (bd_e pl).trans ?_
      refine (bd_e (fr_206_1 _)).trans ?_
      refine (bd_e ((td_ia _ _ _ _ _ _ (by omega)).trans (congrArg some hm))).trans ?_
      refine (ck_e (io_206 _)).trans ?_
      refine (bd_e y2).trans ?_
      refine (bd_e (td_f12 _ _ _ _ _ _)).trans ?_
      refine (jn_e _ _).trans ?_
      refine (if_neg nf).trans ?_
      refine (bd_e (td_f12 _ _ _ _ _ _)).trans ?_
      exact if_neg nf
theorem rs_wish {g : gG} {t : Nat → Nat} {L : Nat} (H : Ld g t L) {F : Nat} (hF : 11000 < F) {m : Nat → Int32} {n : Nat} (h10 : n ≤ 10) (hm : m 3 = nI n) {a : Nat} (ha : a < L) (u v : Int32) : DE g t L u v m (dWish t L a m n) (fX12_wishLine F 206 (gH (td g m (nI (en t L a)) (-1) u v))) := by
  have h2 := H.2.1
  have ea := en_le (t := t) ha
  have nx := nx_en (t := t) ha
  have bl := (nxt_nrm (t := t) ha).2
  obtain ⟨x, a', y1, y2⟩ := td_fig H m u v (show n ≤ 1000 by omega) ea hF
  rw [nx] at y2
  unfold dWish fX12_wishLine
  by_cases c : nmb t L (nxt t L a) < n
  · rw [if_pos c] at y2 ⊢
    have hl := nmb_in c (by omega)
    have r := rl_wishD H hF h10 c u v m 11 (en t L (nxt t L a)) (nxt t L (nxt t L a)) 0 0 m F (by omega) (by omega) (en_le hl) (nx_en hl) (by omega) (by decide) hm (fun _ _ => rfl)
    have E : (ab_bd (ab_fr (gH (td g m (nI (en t L a)) (-1) u v)) 206 12 1) fun v1 => ab_bd (ab_ia 0 (gH (td g m (nI (en t L a)) (-1) u v)) v1 (nI 3)) fun v2 => ab_ck (ab_io (gH (td g m (nI (en t L a)) (-1) u v)) 206 12 = true) (ab_bd (fX12_figures F 206 (nI 0) (v2 - (nI 1)) (gH (td g m (nI (en t L a)) (-1) u v))) fun v3 => ab_bd (ab_fi v3.2 206 12 12) fun v4 => (if v4 = (-1 : Int32) then fX12_wishLine_42 F 206 ((nI 72) + ((nI 10) * v3.1)) (fun (z23 : Int32) (z24 : Int32) (h25 : ab_H) => ab_bd (ab_fi h25 206 12 12) fun v26 => (if v26 = (-1 : Int32) then fX12_wishLine_142 F 206 z23 ((nI 72) + ((nI 10) * v3.1)) F z24 (nI 0) h25 else some h25)) F (nI 0) (nI 0) (nI 1) v3.2 else fX12_wishLine_42 F 206 ((nI 72) + ((nI 10) * v3.1)) (fun (z33 : Int32) (z34 : Int32) (h35 : ab_H) => ab_bd (ab_fi h35 206 12 12) fun v36 => (if v36 = (-1 : Int32) then fX12_wishLine_142 F 206 z33 ((nI 72) + ((nI 10) * v3.1)) F z34 (nI 0) h35 else some h35)) F (nI 0) (nI 0) (nI 0) v3.2))) = fX12_wishLine_42 F 206 (nI (72 + 10 * nmb t L (nxt t L a))) (kWL F (nmb t L (nxt t L a))) F (nI 0) (nI 0) (nI 1) (gH (td g m (nI (en t L (nxt t L a))) (-1) u v)) := by
      refine (bd_e (fr_206_1 _)).trans ?_
      refine (bd_e ((td_ia _ _ _ _ _ _ (by omega)).trans (congrArg some hm))).trans ?_
      refine (ck_e (io_206 _)).trans ?_
      refine (bd_e y2).trans ?_
      refine (bd_e (td_f12 _ _ _ _ _ _)).trans ?_
      refine (if_pos rfl).trans ?_
      simp only [pk_mul, nI_add]; rfl
    rw [E]; exact r
  · rw [if_neg c] at y2 ⊢
    have nf : ¬ (nI (nxt t L a) : Int32) = -1 := nI_m1 (by omega)
    refine DE.no (m' := m) (a' := a') ?_ y1 (fun _ _ => rfl) (by omega)
    refine (bd_e (fr_206_1 _)).trans ?_
    refine (bd_e ((td_ia _ _ _ _ _ _ (by omega)).trans (congrArg some hm))).trans ?_
    refine (ck_e (io_206 _)).trans ?_
    refine (bd_e y2).trans ?_
    refine (bd_e (td_f12 _ _ _ _ _ _)).trans ?_
    refine (if_neg nf).trans ?_
    obtain ⟨F', rfl⟩ : ∃ F', F = F' + 1 := ⟨F - 1, by omega⟩
    rw [fX12_wishLine_42]
    refine (if_pos nI_0).trans ?_
    refine (bd_e (td_f12 _ _ _ _ _ _)).trans ?_
    exact if_neg nf
