variable {Nq : Nat}
/-! ===== hears ===== -/
theorem lpE {α ρ : Type} {L : Nat → Int32 → α → ρ} {n : Nat} (I : Nat → α → Prop) (K : α → ρ)
  (hs : ∀ F i a, i < n → I i a → ∃ b, I (i + 1) b ∧ L (F + 1) (nI i) a = L F (nI (i + 1)) b)
  (he : ∀ F a, I n a → L (F + 1) (nI n) a = K a) :
  ∀ F i a, i ≤ n → n < F + i → I i a → ∃ b, I n b ∧ L F (nI i) a = K b := by
  intro F
  induction F with
  | zero => intro i a h1 h2; omega
  | succ F ih =>
    intro i a h1 h2 h3
    by_cases hi : i = n
    · subst hi; exact ⟨a, h3, he F a h3⟩
    · obtain ⟨b, h4, h5⟩ := hs F i a (by omega) h3
      obtain ⟨c, h6, h7⟩ := ih (i + 1) b (by omega) (by omega) h4
      exact ⟨c, h6, h5.trans h7⟩
def cp584 (a b : Nat → Int32) : Nat → Int32 := fun q => if q < 584 then a q else b q
theorem rf_putsAside (g : gG) {F : Nat} (hF : 11000 < F) : fX12_putsAside F 206 (gH g) = some (gH (sA g 209 (cp584 (gA g 207) (gA g 209)))) := by
  unfold fX12_putsAside
  have h0 := lp0 (L := fun F' i (g : gG) => fX12_putsAside_2 206 F' i (gH g)) (n := 584) (fun i => sA g 209 (fun q => if q < i then gA g 207 q else gA g 209 q)) (some (gH (sA g 209 (cp584 (gA g 207) (gA g 209))))) ?_ ?_ F (by omega)
  · have e2 : sA g 209 (fun q => if q < 0 then gA g 207 q else gA g 209 q) = g := by
      have : (fun q => if q < 0 then gA g 207 q else gA g 209 q) = gA g 209 := by funext q; rw [if_neg (by omega)]
      rw [this, sA_id]
    rw [e2] at h0
    exact h0
  · intro F i hi
    have e6 : upd (fun q => if q < i then gA g 207 q else gA g 209 q) i (gA g 207 i) = fun q => if q < i + 1 then gA g 207 q else gA g 209 q := by
      funext q
      rw [upd_e]
      by_cases c : q = i
      · rw [if_pos c, if_pos (by omega), c]
      · rw [if_neg c]
        by_cases c2 : q < i
        · rw [if_pos c2, if_pos (by omega)]
        · rw [if_neg c2, if_neg (by omega)]
    have e7 : ¬ (207 = 209) := by omega
    simp (disch := omega) only [fX12_putsAside_2, fr_206_4, ia_209, iw_209, fr_206_1, ia_207, iw_207, ab_bd_some, ck_t, ck_T, cb_0, cb_1, ab_jn, if_true, if_false, hi, gA_sA1, gA_sA2 _ _ e7, sA_sA, e6, nI_add, pk_mul, nI_ltI, nI_leI, nI_eq]
  · intro F
    simp (disch := omega) only [fX12_putsAside_2, fr_206_4, ia_209, iw_209, fr_206_1, ia_207, iw_207, ab_bd_some, ck_t, ck_T, cb_0, cb_1, ab_jn, if_true, if_false, Nat.lt_irrefl, nI_add, pk_mul, nI_ltI, nI_leI, nI_eq]
    rfl
theorem rf_comesBack (g : gG) {F : Nat} (hF : 11000 < F) : fX12_comesBack F 206 (gH g) = some (gH (sA g 207 (cp584 (gA g 209) (gA g 207)))) := by
  unfold fX12_comesBack
  have h0 := lp0 (L := fun F' i (g : gG) => fX12_comesBack_2 206 F' i (gH g)) (n := 584) (fun i => sA g 207 (fun q => if q < i then gA g 209 q else gA g 207 q)) (some (gH (sA g 207 (cp584 (gA g 209) (gA g 207))))) ?_ ?_ F (by omega)
  · have e2 : sA g 207 (fun q => if q < 0 then gA g 209 q else gA g 207 q) = g := by
      have : (fun q => if q < 0 then gA g 209 q else gA g 207 q) = gA g 207 := by funext q; rw [if_neg (by omega)]
      rw [this, sA_id]
    rw [e2] at h0
    exact h0
  · intro F i hi
    have e6 : upd (fun q => if q < i then gA g 209 q else gA g 207 q) i (gA g 209 i) = fun q => if q < i + 1 then gA g 209 q else gA g 207 q := by
      funext q
      rw [upd_e]
      by_cases c : q = i
      · rw [if_pos c, if_pos (by omega), c]
      · rw [if_neg c]
        by_cases c2 : q < i
        · rw [if_pos c2, if_pos (by omega)]
        · rw [if_neg c2, if_neg (by omega)]
    have e7 : ¬ (209 = 207) := by omega
    simp (disch := omega) only [fX12_comesBack_2, fr_206_1, ia_207, iw_207, fr_206_4, ia_209, iw_209, ab_bd_some, ck_t, ck_T, cb_0, cb_1, ab_jn, if_true, if_false, hi, gA_sA1, gA_sA2 _ _ e7, sA_sA, e6, nI_add, pk_mul, nI_ltI, nI_leI, nI_eq]
  · intro F
    simp (disch := omega) only [fX12_comesBack_2, fr_206_1, ia_207, iw_207, fr_206_4, ia_209, iw_209, ab_bd_some, ck_t, ck_T, cb_0, cb_1, ab_jn, if_true, if_false, Nat.lt_irrefl, nI_add, pk_mul, nI_ltI, nI_leI, nI_eq]
    rfl
def heB (m : Nat → Int32) (a b : Nat) : Nat → Int32 := if bt (m (12 + 6 * a + 5)) b = true ∧ bt (m (12 + 6 * b + 5)) a = true then telM m a b else m
def heA (n a : Nat) (m : Nat → Int32) : Nat → Nat → Int32 := it (fun i m => heB m a (a + 1 + i)) m
def heR (n : Nat) (m : Nat → Int32) : Nat → Nat → Int32 := it (fun a m => heA n a m (n - (a + 1))) m
def heN (n : Nat) (m : Nat → Int32) : Nat → Nat → Int32 := it (fun _ m => heR n m n) m
theorem cl_meet14 {g : gG} {x : Nat} {m : Nat → Int32} {n k : Nat} (S : SR g x m n k) {a : Nat} (ha : a < n) (K : ab_H → Option ab_H) {F : Nat} (hF : 11000 < F) : ∃ g', Fs g g' x ∧ SR g' x (heA n a m (n - (a + 1))) n k ∧ fX8_meetAllWhoKnow_14 F x (nI a) K F (nI a + nI 1) (gH g) = K (gH g') := by
  have hx := S.c.st
  have h10 := S.c.n10
  have h0 := lpE (L := fun F' i (g : gG) => fX8_meetAllWhoKnow_14 F x (nI a) K F' i (gH g)) (n := n) (fun i g' => a + 1 ≤ i ∧ Fs g g' x ∧ SR g' x (heA n a m (i - (a + 1))) n k) (fun g => K (gH g)) ?_ ?_ F (a + 1) g (by omega) (by omega) ⟨by omega, Fs.refl g x, by rw [Nat.sub_self]; exact S⟩
  · obtain ⟨g', ⟨_, h1, h2⟩, h3⟩ := h0
    exact ⟨g', h1, h2, by rw [nI_add]; exact h3⟩
  · intro F' i g1 hi ⟨hia, f1, s1⟩
    have hn := s1.1.2.1
    have e8 := s1.1.2.2.2.2.2.2.2.2.2.2.1
    have q1 := e8 a ha
    have q2 := e8 i hi
    have es : heA n a m (i + 1 - (a + 1)) = heB (heA n a m (i - (a + 1))) a i := by
      rw [show i + 1 - (a + 1) = (i - (a + 1)) + 1 by omega]
      show heB _ a (a + 1 + (i - (a + 1))) = _
      rw [show a + 1 + (i - (a + 1)) = i by omega]; rfl
    rw [es]
    unfold heB
    by_cases c1 : bt (heA n a m (i - (a + 1)) (12 + 6 * a + 5)) i = true ∧ bt (heA n a m (i - (a + 1)) (12 + 6 * i + 5)) a = true
    · rw [if_pos c1]
      obtain ⟨g2, t1, t2, t3⟩ := s1.tell ha hi
      refine ⟨g2, ⟨by omega, f1.trans t2, t3⟩, ?_⟩
      simp (disch := first | omega | assumption | exact isSt6 | exact isSt18 | exact isSt30) only [fX8_meetAllWhoKnow_14, io_s, fi_s0, fr_s14, ia_s8, bdS, ck_t, ck_T, cb_0, cb_1, ab_jn, if_true, if_false, hn, hi, q1, q2, cl_hasX, c1.1, c1.2, bI_0, t1, nI_add, pk_mul, nI_ltI, nI_leI, nI_eq, reduceCtorEq, m1_ne, and_true, true_and, and_false, false_and, not_true_eq_false, not_false_eq_true, ne_eq, decide_true, decide_false, Bool.false_eq_true, ite_true, ite_false, if_true, if_false, Nat.add_zero, Bool.and_true, Bool.true_and, Bool.and_false, Bool.false_and, Bool.or_true, Bool.true_or, Bool.or_false, Bool.false_or, decide_not, Bool.not_true, Bool.not_false, or_true, true_or, or_false, false_or, or_self, and_self, decide_eq_true_eq]
    · rw [if_neg c1]
      refine ⟨g1, ⟨by omega, f1, s1⟩, ?_⟩
      cases c2 : bt (heA n a m (i - (a + 1)) (12 + 6 * a + 5)) i
      · simp (disch := first | omega | assumption | exact isSt6 | exact isSt18 | exact isSt30) only [fX8_meetAllWhoKnow_14, io_s, fi_s0, fr_s14, ia_s8, bdS, ck_t, ck_T, cb_0, cb_1, ab_jn, if_true, if_false, hn, hi, q1, q2, cl_hasX, c2, bI_0, nI_add, pk_mul, nI_ltI, nI_leI, nI_eq, reduceCtorEq, m1_ne, and_true, true_and, and_false, false_and, not_true_eq_false, not_false_eq_true, ne_eq, decide_true, decide_false, Bool.false_eq_true, ite_true, ite_false, if_true, if_false, Nat.add_zero, Bool.and_true, Bool.true_and, Bool.and_false, Bool.false_and, Bool.or_true, Bool.true_or, Bool.or_false, Bool.false_or, decide_not, Bool.not_true, Bool.not_false, or_true, true_or, or_false, false_or, or_self, and_self, decide_eq_true_eq]
      · cases c3 : bt (heA n a m (i - (a + 1)) (12 + 6 * i + 5)) a
        · simp (disch := first | omega | assumption | exact isSt6 | exact isSt18 | exact isSt30) only [fX8_meetAllWhoKnow_14, io_s, fi_s0, fr_s14, ia_s8, bdS, ck_t, ck_T, cb_0, cb_1, ab_jn, if_true, if_false, hn, hi, q1, q2, cl_hasX, c2, c3, bI_0, nI_add, pk_mul, nI_ltI, nI_leI, nI_eq, reduceCtorEq, m1_ne, and_true, true_and, and_false, false_and, not_true_eq_false, not_false_eq_true, ne_eq, decide_true, decide_false, Bool.false_eq_true, ite_true, ite_false, if_true, if_false, Nat.add_zero, Bool.and_true, Bool.true_and, Bool.and_false, Bool.false_and, Bool.or_true, Bool.true_or, Bool.or_false, Bool.false_or, decide_not, Bool.not_true, Bool.not_false, or_true, true_or, or_false, false_or, or_self, and_self, decide_eq_true_eq]
        · exact absurd ⟨c2, c3⟩ c1
  · intro F' g1 ⟨_, f1, s1⟩
    have hn := s1.1.2.1
    simp (disch := first | omega | assumption | exact isSt6 | exact isSt18 | exact isSt30) only [fX8_meetAllWhoKnow_14, io_s, fi_s0, fr_s14, ia_s8, bdS, ck_t, ck_T, cb_0, cb_1, ab_jn, if_true, if_false, hn, Nat.lt_irrefl, nI_add, pk_mul, nI_ltI, nI_leI, nI_eq, reduceCtorEq, m1_ne, and_true, true_and, and_false, false_and, not_true_eq_false, not_false_eq_true, ne_eq, decide_true, decide_false, Bool.false_eq_true, ite_true, ite_false, if_true, if_false, Nat.add_zero, Bool.and_true, Bool.true_and, Bool.and_false, Bool.false_and, Bool.or_true, Bool.true_or, Bool.or_false, Bool.false_or, decide_not, Bool.not_true, Bool.not_false, or_true, true_or, or_false, false_or, or_self, and_self, decide_eq_true_eq]
theorem cl_meetAll {g : gG} {x : Nat} {m : Nat → Int32} {n k : Nat} (S : SR g x m n k) {F : Nat} (hF : 11000 < F) : ∃ g', Fs g g' x ∧ SR g' x (heR n m n) n k ∧ fX8_meetAllWhoKnow F x (gH g) = some (gH g') := by
  have hx := S.c.st
  have h10 := S.c.n10
  unfold fX8_meetAllWhoKnow
  have h0 := lpE (L := fun F' i (g : gG) => fX8_meetAllWhoKnow_2 F x F' i (gH g)) (n := n) (fun i g' => Fs g g' x ∧ SR g' x (heR n m i) n k) (fun g => some (gH g)) ?_ ?_ F 0 g (by omega) (by omega) ⟨Fs.refl g x, S⟩
  · obtain ⟨g', ⟨h1, h2⟩, h3⟩ := h0
    exact ⟨g', h1, h2, h3⟩
  · intro F' i g1 hi ⟨f1, s1⟩
    have hn := s1.1.2.1
    obtain ⟨g2, t1, t2, t3⟩ := cl_meet14 s1 hi (fun (h14 : ab_H) => fX8_meetAllWhoKnow_2 F x F' (nI i + nI 1) h14) hF
    refine ⟨g2, ⟨f1.trans t1, t2⟩, ?_⟩
    simp (disch := first | omega | assumption | exact isSt6 | exact isSt18 | exact isSt30) only [fX8_meetAllWhoKnow_2, fi_s0, bdS, ck_t, ck_T, cb_0, cb_1, ab_jn, if_true, if_false, hn, hi, nI_ltI, if_true, t3]
    rw [nI_add]
  · intro F' g1 ⟨f1, s1⟩
    have hn := s1.1.2.1
    simp (disch := first | omega | assumption | exact isSt6 | exact isSt18 | exact isSt30) only [fX8_meetAllWhoKnow_2, fi_s0, bdS, ck_t, ck_T, cb_0, cb_1, ab_jn, if_true, if_false, hn, Nat.lt_irrefl, nI_add, pk_mul, nI_ltI, nI_leI, nI_eq, reduceCtorEq, m1_ne, and_true, true_and, and_false, false_and, not_true_eq_false, not_false_eq_true, ne_eq, decide_true, decide_false, Bool.false_eq_true, ite_true, ite_false, if_true, if_false, Nat.add_zero, Bool.and_true, Bool.true_and, Bool.and_false, Bool.false_and, Bool.or_true, Bool.true_or, Bool.or_false, Bool.false_or, decide_not, Bool.not_true, Bool.not_false, or_true, true_or, or_false, false_or, or_self, and_self, decide_eq_true_eq]
theorem rl_hears71 (g : gG) {n : Nat} (hn : gA g 207 3 = nI n) (h10 : n ≤ 10) (x1 x2 x3 : Int32) {a : Nat} (ha : a < n) (K : ab_H → Option (Int32 × ab_H)) {F : Nat} (hF : 11000 < F) : fX12_hears__71 F 206 x1 x2 x3 (nI a) K F (nI a + nI 1) (gH g) = K (gH (sA g 207 (heA n a (gA g 207) (n - (a + 1))))) := by
  have h3 : ∀ m a b, a < 10 → b < 10 → heB m a b 3 = m 3 := fun m a b ha hb => by
    unfold heB; split
    · unfold telM te1; rw [upd_2 _ _ (by omega), upd_2 _ _ (by omega), upd_2 _ _ (by omega), upd_2 _ _ (by omega)]
    · rfl
  have h0 := lpE (L := fun F' i (g : gG) => fX12_hears__71 F 206 x1 x2 x3 (nI a) K F' i (gH g)) (n := n) (fun i g' => a + 1 ≤ i ∧ g' = sA g 207 (heA n a (gA g 207) (i - (a + 1))) ∧ gA g' 207 3 = nI n) (fun g => K (gH g)) ?_ ?_ F (a + 1) g (by omega) (by omega) ⟨by omega, by rw [Nat.sub_self]; exact (sA_id g 207).symm, hn⟩
  · obtain ⟨g', ⟨_, h1, h2⟩, h3⟩ := h0
    rw [nI_add]
    rw [h1] at h3
    exact h3
  · intro F' i g1 hi ⟨hia, eg, n1⟩
    have em : gA g1 207 = heA n a (gA g 207) (i - (a + 1)) := by rw [eg, gA_sA1]
    have es : heA n a (gA g 207) (i + 1 - (a + 1)) = heB (gA g1 207) a i := by
      rw [show i + 1 - (a + 1) = (i - (a + 1)) + 1 by omega, em]
      show heB _ a (a + 1 + (i - (a + 1))) = _
      rw [show a + 1 + (i - (a + 1)) = i by omega]; rfl
    refine ⟨sA g1 207 (heB (gA g1 207) a i), ⟨by omega, by rw [es, eg, sA_sA], by rw [gA_sA1, h3 _ _ _ (by omega) (by omega)]; exact n1⟩, ?_⟩
    have mt := rf_meets g1 (p := a) (o := i) (by omega) (by omega)
    unfold heB
    by_cases c1 : bt (gA g1 207 (12 + 6 * a + 5)) i = true ∧ bt (gA g1 207 (12 + 6 * i + 5)) a = true
    · rw [if_pos c1]
      simp (disch := first | omega | assumption | exact isSt6 | exact isSt18 | exact isSt30) only [fX12_hears__71, io_206, fr_206_1, ia_207, bdS, ck_t, ck_T, cb_0, cb_1, ab_jn, if_true, if_false, n1, hi, rf_of, rf_isOfX, c1.1, c1.2, bI_0, mt, nI_add, pk_mul, nI_ltI, nI_leI, nI_eq, reduceCtorEq, m1_ne, and_true, true_and, and_false, false_and, not_true_eq_false, not_false_eq_true, ne_eq, decide_true, decide_false, Bool.false_eq_true, ite_true, ite_false, if_true, if_false, Nat.add_zero, Bool.and_true, Bool.true_and, Bool.and_false, Bool.false_and, Bool.or_true, Bool.true_or, Bool.or_false, Bool.false_or, decide_not, Bool.not_true, Bool.not_false, or_true, true_or, or_false, false_or, or_self, and_self, decide_eq_true_eq]
    · rw [if_neg c1, sA_id]
      cases c2 : bt (gA g1 207 (12 + 6 * a + 5)) i
      · simp (disch := first | omega | assumption | exact isSt6 | exact isSt18 | exact isSt30) only [fX12_hears__71, io_206, fr_206_1, ia_207, bdS, ck_t, ck_T, cb_0, cb_1, ab_jn, if_true, if_false, n1, hi, rf_of, rf_isOfX, c2, bI_0, nI_add, pk_mul, nI_ltI, nI_leI, nI_eq, reduceCtorEq, m1_ne, and_true, true_and, and_false, false_and, not_true_eq_false, not_false_eq_true, ne_eq, decide_true, decide_false, Bool.false_eq_true, ite_true, ite_false, if_true, if_false, Nat.add_zero, Bool.and_true, Bool.true_and, Bool.and_false, Bool.false_and, Bool.or_true, Bool.true_or, Bool.or_false, Bool.false_or, decide_not, Bool.not_true, Bool.not_false, or_true, true_or, or_false, false_or, or_self, and_self, decide_eq_true_eq]
      · cases c3 : bt (gA g1 207 (12 + 6 * i + 5)) a
        · simp (disch := first | omega | assumption | exact isSt6 | exact isSt18 | exact isSt30) only [fX12_hears__71, io_206, fr_206_1, ia_207, bdS, ck_t, ck_T, cb_0, cb_1, ab_jn, if_true, if_false, n1, hi, rf_of, rf_isOfX, c2, c3, bI_0, nI_add, pk_mul, nI_ltI, nI_leI, nI_eq, reduceCtorEq, m1_ne, and_true, true_and, and_false, false_and, not_true_eq_false, not_false_eq_true, ne_eq, decide_true, decide_false, Bool.false_eq_true, ite_true, ite_false, if_true, if_false, Nat.add_zero, Bool.and_true, Bool.true_and, Bool.and_false, Bool.false_and, Bool.or_true, Bool.true_or, Bool.or_false, Bool.false_or, decide_not, Bool.not_true, Bool.not_false, or_true, true_or, or_false, false_or, or_self, and_self, decide_eq_true_eq]
        · exact absurd ⟨c2, c3⟩ c1
  · intro F' g1 ⟨_, _, n1⟩
    simp (disch := first | omega | assumption | exact isSt6 | exact isSt18 | exact isSt30) only [fX12_hears__71, io_206, fr_206_1, ia_207, bdS, ck_t, ck_T, cb_0, cb_1, ab_jn, if_true, if_false, n1, Nat.lt_irrefl, nI_add, pk_mul, nI_ltI, nI_leI, nI_eq, reduceCtorEq, m1_ne, and_true, true_and, and_false, false_and, not_true_eq_false, not_false_eq_true, ne_eq, decide_true, decide_false, Bool.false_eq_true, ite_true, ite_false, if_true, if_false, Nat.add_zero, Bool.and_true, Bool.true_and, Bool.and_false, Bool.false_and, Bool.or_true, Bool.true_or, Bool.or_false, Bool.false_or, decide_not, Bool.not_true, Bool.not_false, or_true, true_or, or_false, false_or, or_self, and_self, decide_eq_true_eq]
theorem heA_3 {n a : Nat} (m : Nat → Int32) (ha : a < n) (h10 : n ≤ 10) : ∀ j, j ≤ n - (a + 1) → heA n a m j 3 = m 3
  | 0, _ => rfl
  | j + 1, h => by
    have ih := heA_3 m ha h10 j (by omega)
    show heB (heA n a m j) a (a + 1 + j) 3 = _
    rw [← ih]
    unfold heB; split
    · unfold telM te1; rw [upd_2 _ _ (by omega), upd_2 _ _ (by omega), upd_2 _ _ (by omega), upd_2 _ _ (by omega)]
    · rfl
theorem heR_3 {n : Nat} (m : Nat → Int32) (h10 : n ≤ 10) : ∀ j, j ≤ n → heR n m j 3 = m 3
  | 0, _ => rfl
  | j + 1, h => by
    have ih := heR_3 m h10 j (by omega)
    show heA n j (heR n m j) (n - (j + 1)) 3 = _
    rw [heA_3 _ (by omega) h10 _ (by omega), ih]
theorem rl_hears54 (g : gG) {n : Nat} (hn : gA g 207 3 = nI n) (h10 : n ≤ 10) (x1 x2 x3 : Int32) (K : ab_H → Option (Int32 × ab_H)) {F : Nat} (hF : 11000 < F) : fX12_hears__54 F 206 x1 x2 x3 K F (nI 0) (gH g) = K (gH (sA g 207 (heR n (gA g 207) n))) := by
  have h0 := lp0 (L := fun F' i (g : gG) => fX12_hears__54 F 206 x1 x2 x3 K F' i (gH g)) (n := n) (fun i => sA g 207 (heR n (gA g 207) i)) (K (gH (sA g 207 (heR n (gA g 207) n)))) ?_ ?_ F (by omega)
  · have : sA g 207 (heR n (gA g 207) 0) = g := sA_id g 207
    rw [this] at h0; exact h0
  · intro F' i hi
    have n1 : gA (sA g 207 (heR n (gA g 207) i)) 207 3 = nI n := by rw [gA_sA1, heR_3 _ h10 i (by omega)]; exact hn
    have t := rl_hears71 (sA g 207 (heR n (gA g 207) i)) n1 h10 x1 x2 x3 hi (fun (h21 : ab_H) => fX12_hears__54 F 206 x1 x2 x3 K F' (nI i + nI 1) h21) hF
    rw [gA_sA1, sA_sA] at t
    simp (disch := first | omega | assumption | exact isSt6 | exact isSt18 | exact isSt30) only [fX12_hears__54, fr_206_1, ia_207, bdS, ck_t, ck_T, cb_0, cb_1, ab_jn, if_true, if_false, n1, hi, nI_ltI, if_true, t]
    rw [nI_add]; rfl
  · intro F'
    have n1 : gA (sA g 207 (heR n (gA g 207) n)) 207 3 = nI n := by rw [gA_sA1, heR_3 _ h10 n (by omega)]; exact hn
    simp (disch := first | omega | assumption | exact isSt6 | exact isSt18 | exact isSt30) only [fX12_hears__54, fr_206_1, ia_207, bdS, ck_t, ck_T, cb_0, cb_1, ab_jn, if_true, if_false, n1, Nat.lt_irrefl, nI_add, pk_mul, nI_ltI, nI_leI, nI_eq, reduceCtorEq, m1_ne, and_true, true_and, and_false, false_and, not_true_eq_false, not_false_eq_true, ne_eq, decide_true, decide_false, Bool.false_eq_true, ite_true, ite_false, if_true, if_false, Nat.add_zero, Bool.and_true, Bool.true_and, Bool.and_false, Bool.false_and, Bool.or_true, Bool.true_or, Bool.or_false, Bool.false_or, decide_not, Bool.not_true, Bool.not_false, or_true, true_or, or_false, false_or, or_self, and_self, decide_eq_true_eq]
theorem heN_3 {n : Nat} (m : Nat → Int32) (h10 : n ≤ 10) : ∀ c, heN n m c 3 = m 3
  | 0 => rfl
  | c + 1 => by
    show heR n (heN n m c) n 3 = _
    rw [heR_3 _ h10 n (Nat.le_refl n), heN_3 m h10 c]
theorem rl_hears46 (g : gG) {n c : Nat} (hn : gA g 207 3 = nI n) (h10 : n ≤ 10) (hc : c ≤ 20) (x1 : Int32) (K : ab_H → Option (Int32 × ab_H)) {F : Nat} (hF : 11000 < F) : fX12_hears__46 F 206 x1 (nI c) K F (nI 0) (gH g) = K (gH (sA g 207 (heN n (gA g 207) c))) := by
  have h0 := lp0 (L := fun F' i (g : gG) => fX12_hears__46 F 206 x1 (nI c) K F' i (gH g)) (n := c) (fun i => sA g 207 (heN n (gA g 207) i)) (K (gH (sA g 207 (heN n (gA g 207) c)))) ?_ ?_ F (by omega)
  · have : sA g 207 (heN n (gA g 207) 0) = g := sA_id g 207
    rw [this] at h0; exact h0
  · intro F' i hi
    have n1 : gA (sA g 207 (heN n (gA g 207) i)) 207 3 = nI n := by rw [gA_sA1, heN_3 _ h10]; exact hn
    have t := rl_hears54 (sA g 207 (heN n (gA g 207) i)) n1 h10 x1 (nI c) (nI i) (fun (h22 : ab_H) => fX12_hears__46 F 206 x1 (nI c) K F' (nI i + nI 1) h22) hF
    rw [gA_sA1, sA_sA] at t
    simp (disch := first | omega | assumption | exact isSt6 | exact isSt18 | exact isSt30) only [fX12_hears__46, bdS, ck_t, ck_T, cb_0, cb_1, ab_jn, if_true, if_false, hi, nI_ltI, if_true, t]
    rw [nI_add]; rfl
  · intro F'
    simp (disch := first | omega | assumption | exact isSt6 | exact isSt18 | exact isSt30) only [fX12_hears__46, bdS, ck_t, ck_T, cb_0, cb_1, ab_jn, if_true, if_false, Nat.lt_irrefl, nI_add, pk_mul, nI_ltI, nI_leI, nI_eq, reduceCtorEq, m1_ne, and_true, true_and, and_false, false_and, not_true_eq_false, not_false_eq_true, ne_eq, decide_true, decide_false, Bool.false_eq_true, ite_true, ite_false, if_true, if_false, Nat.add_zero, Bool.and_true, Bool.true_and, Bool.and_false, Bool.false_and, Bool.or_true, Bool.true_or, Bool.or_false, Bool.false_or, decide_not, Bool.not_true, Bool.not_false, or_true, true_or, or_false, false_or, or_self, and_self, decide_eq_true_eq]
