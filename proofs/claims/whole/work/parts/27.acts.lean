/-! ===== ACTS on a STATE and on the reference's row ===== -/
theorem rf_has (g : gG) {p r : Nat} (v : Int32) (h : 12 + 6 * p + r < 984) : fX12_has 206 (nI p) (nI r) v (gH g) = some (gH (sA g 207 (upd (gA g 207) (12 + 6 * p + r) v))) := by
  simp (disch := omega) only [fX12_has, fr_206_1, iw_207, ab_bd_some, ck_t, ck_T, cb_0, cb_1, ab_jn, if_true, if_false, nI_add, pk_mul, nI_ltI, nI_leI, nI_eq]
def hanM (m : Nat → Int32) (p h : Nat) : Nat → Int32 := wrM (upd (upd (upd m (272 + h) (m (12 + 6 * p + 2))) (12 + 6 * p + 2) (-1)) (12 + 6 * p + 3) (nI h)) (nI p) (nI h) (m (12 + 6 * p + 2)) (nI 0)
theorem rf_handsIn (g : gG) {p h : Nat} (hp : p < 10) (hh : h < 12) {F : Nat} (hF : 11000 < F) : fX12_handsIn F 206 (nI p) (nI h) (gH g) = some (gA g 207 (12 + 6 * p + 2), gH (sA g 207 (hanM (gA g 207) p h))) := by
  simp (disch := omega) only [fX12_handsIn, io_206, fr_206_1, iw_207, bdS, ck_t, ck_T, cb_0, cb_1, ab_jn, if_true, if_false, rf_of, rf_has, rf_writes _ _ _ _ _ hF, gA_sA1, sA_sA, hanM, nI_add, pk_mul, nI_ltI, nI_leI, nI_eq]
theorem enc_ok {n : Nat} {x : Int32} (h10 : n ≤ 10) (h : x = -1 ∨ ∃ j, j < n ∧ x = nI j) : ∃ f, f < 16 ∧ x = nI f + (-1) := by
  rcases h with e | ⟨j, hj, e⟩
  · exact ⟨0, by decide, by rw [e]; decide⟩
  · exact ⟨j + 1, by omega, by rw [e, sb_m1 (by omega)]; congr 1⟩
theorem SC.per' {g : gG} {x : Nat} {m : Nat → Int32} {n k : Nat} (S : SC g x m n k) {r p : Nat} (hr : r < 6) (hp : p < n) (v : Int32) {a : Nat} (ha : a = x + (3 + r)) {A : Nat → Int32} (hA : gA g a = A) : SC (sA g a (upd A p v)) x (upd m (12 + 6 * p + r) v) n k := by subst ha; subst hA; exact S.per hr hp v
theorem SC.hook' {g : gG} {x : Nat} {m : Nat → Int32} {n k : Nat} (S : SC g x m n k) {h : Nat} (hh : h < 12) (v : Int32) {A : Nat → Int32} (hA : gA g (x + 11) = A) : SC (sA g (x + 11) (upd A h v)) x (upd m (272 + h) v) n k := by subst hA; exact S.hook hh v
theorem SC.think' {g : gG} {x : Nat} {m : Nat → Int32} {n k : Nat} (S : SC g x m n k) {p o : Nat} (hp : p < n) (ho : o < n) (v : Int32) {A : Nat → Int32} (hA : gA g (x + 9) = A) : SC (sA g (x + 9) (upd A (p * 10 + o) v)) x (upd m (172 + 10 * p + o) v) n k := by subst hA; exact S.think hp ho v
theorem Ix.cg {m m' : Nat → Int32} {n : Nat} (I : Ix m n) (h10 : n ≤ 10) (h0 : ∀ p, p < n → m' (12 + 6 * p) = m (12 + 6 * p)) (h4 : ∀ p, p < n → m' (12 + 6 * p + 4) = m (12 + 6 * p + 4)) (h5 : ∀ p, p < n → m' (12 + 6 * p + 5) = m (12 + 6 * p + 5)) (hw : ∀ q, 72 ≤ q → q < 172 → m' q = m q) : Ix m' n := by
  obtain ⟨i1, i2, i3, i4, i5, i6⟩ := I
  refine ⟨fun p hp => ?_, fun p hp => ?_, fun p hp => ?_, fun p o hp ho => ?_, fun p o i hp ho hi => ?_, fun p o hp ho ho' => ?_⟩
  · rw [h0 p hp]; exact i1 p hp
  · rw [h4 p hp]; exact i2 p hp
  · rw [h5 p hp]; exact i3 p hp
  · rw [hw _ (by omega) (by omega)]; exact i4 p o hp ho
  · rw [hw _ (by omega) (by omega), hw _ (by omega) (by omega)]; exact i5 p o i hp ho hi
  · rw [hw _ (by omega) (by omega)]; exact i6 p o hp ho ho'
theorem Ix.u23 {m : Nat → Int32} {n p r : Nat} {v : Int32} (I : Ix m n) (h10 : n ≤ 10) (hp : p < 10) (hr : r = 2 ∨ r = 3) : Ix (upd m (12 + 6 * p + r) v) n := I.cg h10 (fun q hq => upd_2 _ _ (by omega)) (fun q hq => upd_2 _ _ (by omega)) (fun q hq => upd_2 _ _ (by omega)) (fun q _ _ => upd_2 _ _ (by omega))
theorem Ix.uH {m : Nat → Int32} {n h : Nat} {v : Int32} (I : Ix m n) (h10 : n ≤ 10) : Ix (upd m (272 + h) v) n := I.cg h10 (fun q hq => upd_2 _ _ (by omega)) (fun q hq => upd_2 _ _ (by omega)) (fun q hq => upd_2 _ _ (by omega)) (fun q _ _ => upd_2 _ _ (by omega))
theorem SR.hand {g : gG} {x : Nat} {m : Nat → Int32} {n k : Nat} (S : SR g x m n k) {p h f : Nat} (hp : p < n) (hh : h < k) (hf : f < n) (e : m (12 + 6 * p + 2) = nI f) : ∃ g', fX8_handIn x (nI p) (nI h) (gH g) = some (m (12 + 6 * p + 2), gH g') ∧ Fs g g' x ∧ SR g' x (hanM m p h) n k := by
  have C := S.c
  have h10 := C.n10
  have h12 := C.k12
  have hx := C.st
  have V := S.1
  obtain ⟨_, _, _, _, _, _, _, e5, _⟩ := V
  have C1 := C.hook (h := h) (by omega) (m (12 + 6 * p + 2))
  have C2 := C1.per' (r := 2) (by decide) hp (-1) (a := x + 5) rfl (A := gA g (x + 5)) (gA_sA2 g _ (by omega))
  have C3 := C2.per' (r := 3) (by decide) hp (nI h) (a := x + 6) rfl (A := gA g (x + 6)) (by rw [gA_sA2 _ _ (by omega), gA_sA2 _ _ (by omega)])
  obtain ⟨f', hf', ef'⟩ := enc_ok h10 (S.w.1 p hp)
  obtain ⟨g', a1, a2, a3, a4, a5⟩ := C3.add (p := p) (h := h) (f := f') (w := 0) (by omega) (by omega) hf' (by decide)
  rw [← ef'] at a1 a3
  have hr := C3.hr
  refine ⟨g', ?_, Fs.trans (Fs_A (by decide)) (Fs.trans (Fs_A (by decide)) (Fs.trans (Fs_A (by decide)) a2)), SC.r a3 ?_ ?_⟩
  · simp (disch := first | omega | assumption | exact isSt6 | exact isSt18 | exact isSt30) only [fX8_handIn, io_l, fr_s11, ia_s5, iw_s5, fr_s17, ia_s11, iw_s11, fr_s12, ia_s6, iw_s6, fr_s8, fi_s2, bdS, ck_t, ck_T, cb_0, cb_1, ab_jn, if_true, if_false, gA_sA1, gA_sA2, e5, io_l, hr, a1]
  · refine (S.w.hand hp hh hf h10 e (m' := upd (upd (upd m (272 + h) (m (12 + 6 * p + 2))) (12 + 6 * p + 2) (-1)) (12 + 6 * p + 3) (nI h)) ?_ ?_ ?_).al (wrM_Al _ _ _ _ _) h10
    · intro q hq; rw [uPP _ _ (by decide) (by decide), if_neg (by omega), uPP _ _ (by decide) (by decide)]
      by_cases c : q = p
      · rw [if_pos ⟨c, rfl⟩, if_pos c]
      · rw [if_neg (by omega), if_neg c, uHP _ _ (by decide) (by omega)]
    · intro i hi; rw [uPH _ _ (by decide) (by omega), uPH _ _ (by decide) (by omega), uHH, e]
    · intro q hq; rw [uPP _ _ (by decide) (by decide)]
      by_cases c : q = p
      · rw [if_pos ⟨c, rfl⟩, if_pos c]
      · rw [if_neg (by omega), if_neg c, uPP _ _ (by decide) (by decide), if_neg (by omega), uHP _ _ (by decide) (by omega)]
  · exact (((S.i.uH h10).u23 h10 (by omega) (Or.inl rfl)).u23 h10 (by omega) (Or.inr rfl)).al (wrM_Al _ _ _ _ _) h10
def getM (m : Nat → Int32) (p h : Nat) : Nat → Int32 := wrM (upd (upd (upd m (272 + h) (-1)) (12 + 6 * p + 2) (m (272 + h))) (12 + 6 * p + 3) (-1)) (nI p) (nI h) (m (272 + h)) (nI 1)
theorem rf_gets (g : gG) {p h : Nat} (hp : p < 10) (hh : h < 12) (et : gA g 207 (12 + 6 * p + 3) = nI h) {F : Nat} (hF : 11000 < F) : fX12_gets F 206 (nI p) (gH g) = some (gA g 207 (272 + h), gH (sA g 207 (getM (gA g 207) p h))) := by
  simp (disch := omega) only [fX12_gets, io_206, fr_206_1, ia_207, iw_207, bdS, ck_t, ck_T, cb_0, cb_1, ab_jn, if_true, if_false, et, rf_of, rf_has, rf_writes _ _ _ _ _ hF, gA_sA1, sA_sA, getM, nI_add, pk_mul, nI_ltI, nI_leI, nI_eq]
theorem cl_faceAt {g : gG} {x : Nat} {m : Nat → Int32} {n k : Nat} (V : Sv g x m n k) {h : Nat} (hh : h < 12) : fX8_faceAt x (nI h) (gH g) = some (m (272 + h)) := by
  have W := V
  obtain ⟨hx, hn, h10, hk, h12, e3, e4, e5, e6, e7, e8, e11, e9, e10⟩ := W
  have h1 : ¬ nI h < 0 := nI_pos (by omega)
  simp (disch := first | omega | assumption | exact isSt6 | exact isSt18 | exact isSt30) only [fX8_faceAt, fr_s17, ia_s11, ab_bd_some, ck_t, ck_T, cb_0, cb_1, ab_jn, if_true, if_false, h1, hh, e11, nI_add, pk_mul, nI_ltI, nI_leI, nI_eq]
theorem cl_faceAt0 (x : Nat) (h : ab_H) : fX8_faceAt x (-1) h = some (-1) := by
  unfold fX8_faceAt
  rw [if_pos (by decide)]
theorem Iw.getM {m : Nat → Int32} {n k : Nat} (I : Iw m n k) {p h : Nat} (hp : p < n) (hh : h < 12) (h10 : n ≤ 10) : Iw (upd (upd (upd m (272 + h) (-1)) (12 + 6 * p + 2) (m (272 + h))) (12 + 6 * p + 3) (-1)) n k := by
  refine I.get (p := p) hh (fun q => if q = p then -1 else m (12 + 6 * q + 3)) ?_ ?_ ?_ ?_
  · intro q hq; rw [uPP _ _ (by decide) (by decide), if_neg (by omega), uPP _ _ (by decide) (by decide)]
    by_cases c : q = p
    · rw [if_pos ⟨c, rfl⟩, if_pos c]
    · rw [if_neg (by omega), if_neg c, uHP _ _ (by decide) (by omega)]
  · intro i hi; rw [uPH _ _ (by decide) (by omega), uPH _ _ (by decide) (by omega), uHH]
  · intro q hq; rw [uPP _ _ (by decide) (by decide)]
    by_cases c : q = p
    · rw [if_pos ⟨c, rfl⟩, if_pos c]
    · rw [if_neg (by omega), if_neg c, uPP _ _ (by decide) (by decide), if_neg (by omega), uHP _ _ (by decide) (by omega)]
  · intro q hq
    show (if q = p then -1 else m (12 + 6 * q + 3)) = -1 ∨ ∃ j, j < k ∧ (if q = p then -1 else m (12 + 6 * q + 3)) = nI j
    by_cases c : q = p
    · rw [if_pos c]; exact Or.inl rfl
    · rw [if_neg c]; exact I.2.2.2.2.2 q hq
theorem SR.get {g : gG} {x : Nat} {m : Nat → Int32} {n k : Nat} (S : SR g x m n k) {p h : Nat} (hp : p < n) (hh : h < k) (et : m (12 + 6 * p + 3) = nI h) : ∃ g', fX8_fetchBy x (nI p) (gH g) = some (m (272 + h), gH g') ∧ Fs g g' x ∧ SR g' x (getM m p h) n k := by
  have C := S.c
  have h10 := C.n10
  have h12 := C.k12
  have hx := C.st
  have V := S.1
  have hfa := cl_faceAt V (show h < 12 by omega)
  obtain ⟨_, _, _, _, _, _, _, e5, e6, _⟩ := V
  obtain ⟨f', hf', ef'⟩ := enc_ok h10 ((S.w.2.2.1 h (by omega)).imp id (fun h => h.2))
  have W' := (S.w.getM hp (show h < 12 by omega) h10).al (wrM_Al _ (nI p) (nI h) (m (272 + h)) (nI 1)) h10
  have I' := (((S.i.uH h10 (h := h) (v := -1)).u23 h10 (p := p) (v := m (272 + h)) (by omega) (Or.inl rfl)).u23 h10 (p := p) (v := -1) (by omega) (Or.inr rfl)).al (wrM_Al _ (nI p) (nI h) (m (272 + h)) (nI 1)) h10
  by_cases c : m (272 + h) = -1
  · have eu : upd m (272 + h) (-1) = m := fa_upd_same c
    have C2 := C.per' (r := 2) (by decide) hp (m (272 + h)) (a := x + 5) rfl rfl
    have C3 := C2.per' (r := 3) (by decide) hp (-1) (a := x + 6) rfl rfl
    obtain ⟨g', a1, a2, a3, a4, a5⟩ := C3.add (p := p) (h := h) (f := f') (w := 1) (by omega) (by omega) hf' (by decide)
    rw [← ef'] at a1 a3
    have hr := C3.hr
    refine ⟨g', ?_, Fs.trans (Fs_A (by decide)) (Fs.trans (Fs_A (by decide)) a2), SC.r ?_ W' I'⟩
    · rw [c] at hfa hr a1
      simp (disch := first | omega | assumption | exact isSt6 | exact isSt18 | exact isSt30) only [fX8_fetchBy, io_s, io_l, fr_s12, ia_s6, iw_s6, fr_s11, ia_s5, iw_s5, fr_s8, fi_s2, fr_s17, ia_s11, iw_s11, bdS, ck_t, ck_T, cb_0, cb_1, ab_jn, if_true, if_false, e6, et, hfa, io_l, hr, a1, c]
    · unfold getM; rw [eu]; exact a3
  · have C1 := C.hook' (h := h) (by omega) (-1) rfl
    have C2 := C1.per' (r := 2) (by decide) hp (m (272 + h)) (a := x + 5) rfl rfl
    have C3 := C2.per' (r := 3) (by decide) hp (-1) (a := x + 6) rfl rfl
    obtain ⟨g', a1, a2, a3, a4, a5⟩ := C3.add (p := p) (h := h) (f := f') (w := 1) (by omega) (by omega) hf' (by decide)
    rw [← ef'] at a1 a3
    have hr := C3.hr
    refine ⟨g', ?_, Fs.trans (Fs_A (by decide)) (Fs.trans (Fs_A (by decide)) (Fs.trans (Fs_A (by decide)) a2)), SC.r a3 W' I'⟩
    simp (disch := first | omega | assumption | exact isSt6 | exact isSt18 | exact isSt30) only [fX8_fetchBy, io_s, io_l, fr_s12, ia_s6, iw_s6, fr_s11, ia_s5, iw_s5, fr_s8, fi_s2, fr_s17, ia_s11, iw_s11, bdS, ck_t, ck_T, cb_0, cb_1, ab_jn, if_true, if_false, e6, et, hfa, io_l, hr, a1, c]
def steM (m : Nat → Int32) (p h : Nat) : Nat → Int32 := wrM (upd (upd m (272 + h) (-1)) (12 + 6 * p + 2) (m (272 + h))) (nI p) (nI h) (m (272 + h)) (nI 2)
theorem SR.steal {g : gG} {x : Nat} {m : Nat → Int32} {n k : Nat} (S : SR g x m n k) {p h : Nat} (hp : p < n) (hh : h < k) : ∃ g', fX8_stealBy x (nI p) (nI h) (gH g) = some (m (272 + h), gH g') ∧ Fs g g' x ∧ SR g' x (steM m p h) n k := by
  have C := S.c
  have h10 := C.n10
  have h12 := C.k12
  have hx := C.st
  have V := S.1
  obtain ⟨_, _, _, _, _, _, _, e5, e6, e7, e8, e11, _⟩ := V
  obtain ⟨f', hf', ef'⟩ := enc_ok h10 ((S.w.2.2.1 h (by omega)).imp id (fun h => h.2))
  have C1 := C.hook' (h := h) (by omega) (-1) rfl
  have C2 := C1.per' (r := 2) (by decide) hp (m (272 + h)) (a := x + 5) rfl rfl
  obtain ⟨g', a1, a2, a3, a4, a5⟩ := C2.add (p := p) (h := h) (f := f') (w := 2) (by omega) (by omega) hf' (by decide)
  rw [← ef'] at a1 a3
  have hr := C2.hr
  refine ⟨g', ?_, Fs.trans (Fs_A (by decide)) (Fs.trans (Fs_A (by decide)) a2), SC.r a3 ?_ ?_⟩
  · simp (disch := first | omega | assumption | exact isSt6 | exact isSt18 | exact isSt30) only [fX8_stealBy, io_l, fr_s17, ia_s11, iw_s11, fr_s11, ia_s5, iw_s5, fr_s8, fi_s2, bdS, ck_t, ck_T, cb_0, cb_1, ab_jn, if_true, if_false, e11, io_l, hr, a1]
  · refine (S.w.get (p := p) (show h < 12 by omega) (fun q => m (12 + 6 * q + 3)) ?_ ?_ ?_ (S.w.2.2.2.2.2)).al (wrM_Al _ _ _ _ _) h10
    · intro q hq; rw [uPP _ _ (by decide) (by decide)]
      by_cases c : q = p
      · rw [if_pos ⟨c, rfl⟩, if_pos c]
      · rw [if_neg (by omega), if_neg c, uHP _ _ (by decide) (by omega)]
    · intro i hi; rw [uPH _ _ (by decide) (by omega), uHH]
    · intro q hq; rw [uPP _ _ (by decide) (by decide), if_neg (by omega), uHP _ _ (by decide) (by omega)]
  · exact ((S.i.uH h10).u23 h10 (by omega) (Or.inl rfl)).al (wrM_Al _ _ _ _ _) h10
