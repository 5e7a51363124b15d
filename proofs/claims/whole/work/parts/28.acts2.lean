/-! ===== mix, meet ===== -/
def mi1 (m : Nat → Int32) (p o : Nat) : Nat → Int32 := upd (upd m (12 + 6 * p + 3) (m (12 + 6 * o + 3))) (12 + 6 * o + 3) (m (12 + 6 * p + 3))
def mi2 (m : Nat → Int32) (p o : Nat) : Nat → Int32 := wrM (mi1 m p o) (nI (min p o)) (mi1 m p o (12 + 6 * min p o + 3)) (-1) (nI 3)
def mixM (m : Nat → Int32) (p o : Nat) : Nat → Int32 := wrM (mi2 m p o) (nI (max p o)) (mi1 m p o (12 + 6 * max p o + 3)) (-1) (nI 3)
theorem les_nI {a b : Nat} (ha : a < 2 ^ 31) (hb : b < 2 ^ 31) : les (nI a) (nI b) = nI (min a b) := by
  unfold les
  by_cases c : a < b
  · rw [if_pos (nI_lt c hb)]; congr 1; omega
  · rw [if_neg (nI_nlt (by omega) ha)]; congr 1; omega
theorem rf_greater {a b : Nat} (h : ab_H) (ha : a < 2 ^ 31) (hb : b < 2 ^ 31) : fX12_greater (nI a) (nI b) h = some (nI (max a b)) := by
  unfold fX12_greater
  by_cases c : a ≤ b
  · rw [if_pos (nI_le c hb)]; congr 2; omega
  · rw [if_neg (nI_ge (by omega) ha)]; congr 2; omega
theorem cl_max {a b : Nat} (h : ab_H) (ha : a < 2 ^ 31) (hb : b < 2 ^ 31) : fJ9_max_7cf53 (nI a) (nI b) h = some (nI (max a b)) := by
  unfold fJ9_max_7cf53
  by_cases c : a < b
  · rw [if_pos (nI_lt c hb)]; congr 2; omega
  · rw [if_neg (nI_nlt (by omega) ha)]; congr 2; omega
theorem mi2_lo (m : Nat → Int32) (p o : Nat) {q : Nat} (h : q < 284) (h8 : q ≠ 8) : mi2 m p o q = mi1 m p o q := wrM_Al _ _ _ _ _ q h h8
theorem rf_mixes (g : gG) {p o : Nat} (hp : p < 10) (ho : o < 10) {F : Nat} (hF : 11000 < F) : fX12_mixes F 206 (nI p) (nI o) (gH g) = some (gH (sA g 207 (mixM (gA g 207) p o))) := by
  have hm : min p o < 10 := by omega
  have hM : max p o < 10 := by omega
  have e1 := mi2_lo (gA g 207) p o (q := 12 + 6 * max p o + 3) (by omega) (by omega)
  unfold mi2 at e1
  unfold mixM mi2
  unfold mi1 at e1 ⊢
  simp (disch := omega) only [fX12_mixes, io_206, bdS, ck_t, ck_T, cb_0, cb_1, ab_jn, if_true, if_false, rf_of, rf_has, rf_lesser, les_nI, rf_greater, rf_writes _ _ _ _ _ hF, gA_sA1, sA_sA, e1, nI_add, pk_mul, nI_ltI, nI_leI, nI_eq]
theorem mi1_t {m : Nat → Int32} {n k p o : Nat} (I : Iw m n k) (hp : p < n) (ho : o < n) (q : Nat) (hq : q < n) : mi1 m p o (12 + 6 * q + 3) = m (12 + 6 * tau p o q + 3) := by
  unfold mi1
  rw [uPP _ _ (by decide) (by decide), uPP _ _ (by decide) (by decide)]
  unfold tau
  by_cases c : q = o
  · rw [if_pos ⟨c, rfl⟩, if_pos c]
  · rw [if_neg (by omega), if_neg c]
    by_cases c2 : q = p
    · rw [if_pos ⟨c2, rfl⟩, if_pos c2]
    · rw [if_neg (by omega), if_neg c2]
theorem Iw.mix {m : Nat → Int32} {n k p o : Nat} (I : Iw m n k) (hp : p < n) (ho : o < n) (h10 : n ≤ 10) : Iw (mi1 m p o) n k := by
  have I' := I
  obtain ⟨i1, i2, i3, i4, i5, i6⟩ := I
  refine Iw.mk (m := m) (fun q => m (12 + 6 * q + 2)) (fun h => m (272 + h)) (fun q => m (12 + 6 * tau p o q + 3)) ?_ ?_ (mi1_t I' hp ho) i1 i2 i3 i4 i5 (fun q hq => i6 _ (tau_lt hp ho hq))
  · intro q hq
    unfold mi1
    rw [uPP _ _ (by decide) (by decide), if_neg (by omega), uPP _ _ (by decide) (by decide), if_neg (by omega)]
  · intro h hh
    unfold mi1
    rw [uPH _ _ (by decide) (by omega), uPH _ _ (by decide) (by omega)]
theorem SR.mix {g : gG} {x : Nat} {m : Nat → Int32} {n k : Nat} (S : SR g x m n k) {p o : Nat} (hp : p < n) (ho : o < n) (tp : ¬ m (12 + 6 * p + 3) = -1) (to : ¬ m (12 + 6 * o + 3) = -1) : ∃ g', fX8_changeTickets x (nI p) (nI o) (gH g) = some (gH g') ∧ Fs g g' x ∧ SR g' x (mixM m p o) n k := by
  have C := S.c
  have h10 := C.n10
  have h12 := C.k12
  have hx := C.st
  have V := S.1
  obtain ⟨_, _, _, _, _, _, _, e5, e6, _⟩ := V
  have hm : min p o < n := by omega
  have hM : max p o < n := by omega
  have C1 := C.per' (r := 3) (by decide) hp (m (12 + 6 * o + 3)) (a := x + 6) rfl rfl
  have C2 : SC _ x (mi1 m p o) n k := C1.per' (r := 3) (by decide) ho (m (12 + 6 * p + 3)) (a := x + 6) rfl rfl
  have tt : ∀ q, q < n → ¬ m (12 + 6 * q + 3) = -1 → ∃ j, j < 16 ∧ m (12 + 6 * q + 3) = nI j := fun q hq h => ((S.w.2.2.2.2.2 q hq).resolve_left h).elim (fun j hj => ⟨j, by omega, hj.2⟩)
  have t2 : ∀ q, (q = p ∨ q = o) → ∃ j, j < 16 ∧ mi1 m p o (12 + 6 * q + 3) = nI j := by
    intro q hq
    rw [mi1_t S.w hp ho q (by rcases hq with h | h <;> omega)]
    unfold tau
    rcases hq with h | h
    · by_cases c : q = o
      · rw [if_pos c]; exact tt p hp tp
      · rw [if_neg c, if_pos h]; exact tt o ho to
    · rw [if_pos h]; exact tt p hp tp
  obtain ⟨j1, hj1, ej1⟩ := t2 (min p o) (by omega)
  obtain ⟨j2, hj2, ej2⟩ := t2 (max p o) (by omega)
  have em : nI 0 + (-1) = (-1 : Int32) := by decide
  obtain ⟨g1, a1, a2, a3, a4, a5⟩ := C2.add (p := min p o) (h := j1) (f := 0) (w := 3) (by omega) hj1 (by decide) (by decide)
  rw [em, ← ej1] at a1 a3
  obtain ⟨g2, b1, b2, b3, b4, b5⟩ := a3.add (p := max p o) (h := j2) (f := 0) (w := 3) (by omega) hj2 (by decide) (by decide)
  rw [em, ← ej2] at b1 b3
  have hr1 := C2.hr
  have hr2 := a3.hr
  have r1 := C2.1.2.2.2.2.2.2.2.2.1 (min p o) hm
  have r2 := a3.1.2.2.2.2.2.2.2.2.1 (max p o) hM
  have e7 := wrM_Al (mi1 m p o) (nI (min p o)) (mi1 m p o (12 + 6 * min p o + 3)) (-1) (nI 3) (12 + 6 * max p o + 3) (by omega) (by omega)
  rw [e7] at r2
  refine ⟨g2, ?_, Fs.trans (Fs_A (by decide)) (Fs.trans (Fs_A (by decide)) (Fs.trans a2 b2)), SC.r b3 ?_ ?_⟩
  · simp (disch := first | omega | assumption | exact isSt6 | exact isSt18 | exact isSt30) only [fX8_changeTickets, io_l, fr_s12, ia_s6, iw_s6, fr_s8, fi_s2, bdS, ck_t, ck_T, cb_0, cb_1, ab_jn, if_true, if_false, e6, cl_min, cl_max, io_l, hr1, r1, a1, hr2, r2, b1]
  · exact (((S.w.mix hp ho h10).al (wrM_Al _ _ _ _ _) h10)).al (wrM_Al _ _ _ _ _) h10
  · exact ((((S.i.u23 h10 (by omega) (Or.inr rfl)).u23 h10 (by omega) (Or.inr rfl)).al (wrM_Al _ _ _ _ _) h10)).al (wrM_Al _ _ _ _ _) h10
def alK (m : Nat → Int32) (p o : Nat) : Int32 := ((m (12 + 6 * p + 5) ||| m (12 + 6 * o + 5)) ||| nI (2 ^ p)) ||| nI (2 ^ o)
def te1 (m : Nat → Int32) (p o : Nat) : Nat → Int32 := upd (upd m (12 + 6 * p + 5) (alK m p o &&& (nI (2 ^ p) ^^^ (-1)))) (12 + 6 * o + 5) (alK m p o &&& (nI (2 ^ o) ^^^ (-1)))
def telM (m : Nat → Int32) (p o : Nat) : Nat → Int32 := upd (upd (te1 m p o) (172 + 10 * p + o) (te1 m p o (12 + 6 * o + 5))) (172 + 10 * o + p) (te1 m p o (12 + 6 * p + 5))
theorem rf_meets (g : gG) {p o : Nat} (hp : p < 10) (ho : o < 10) : fX12_meets 206 (nI p) (nI o) (gH g) = some (alK (gA g 207) p o, gH (sA g 207 (telM (gA g 207) p o))) := by
  have e1 : upd (te1 (gA g 207) p o) (172 + 10 * p + o) (te1 (gA g 207) p o (12 + 6 * o + 5)) (12 + 6 * p + 5) = te1 (gA g 207) p o (12 + 6 * p + 5) := upd_2 _ _ (by omega)
  unfold telM
  unfold te1 alK at e1 ⊢
  simp (disch := omega) only [fX12_meets, io_206, fr_206_1, iw_207, bdS, ck_t, ck_T, cb_0, cb_1, ab_jn, if_true, if_false, rf_of, rf_has, sh1, gA_sA1, sA_sA, e1, nI_add, pk_mul, nI_ltI, nI_leI, nI_eq]
theorem nv_or {a b : Int32} (ha : nv a < 1024) (hb : nv b < 1024) : nv (a ||| b) < 1024 := by
  unfold nv at *
  rw [Int32.toBitVec_or, BitVec.toNat_or]
  exact Nat.or_lt_two_pow (n := 10) ha hb
theorem nv_and {a b : Int32} {N : Nat} (ha : nv a < N) : nv (a &&& b) < N := by
  unfold nv at *
  rw [Int32.toBitVec_and, BitVec.toNat_and]
  exact Nat.lt_of_le_of_lt Nat.and_le_left ha
theorem alK_lt {m : Nat → Int32} {n p o : Nat} (I : Ix m n) (hp : p < n) (ho : o < n) (h10 : n ≤ 10) : nv (alK m p o) < 1024 := by
  have hq : ∀ q, q < 10 → nv (nI (2 ^ q)) < 1024 := fun q hq => by
    have : 2 ^ q < 2 ^ 10 := Nat.pow_lt_pow_right (by decide) hq
    rw [nv_nI (by omega)]; exact this
  unfold alK
  exact nv_or (nv_or (nv_or (I.2.2.1 p hp) (I.2.2.1 o ho)) (hq p (by omega))) (hq o (by omega))
theorem Ix.te {m : Nat → Int32} {n p o : Nat} (I : Ix m n) (hp : p < n) (ho : o < n) (h10 : n ≤ 10) : Ix (te1 m p o) n := by
  have hl := alK_lt I hp ho h10
  obtain ⟨i1, i2, i3, i4, i5, i6⟩ := I
  have hw : ∀ q, 72 ≤ q → q < 172 → te1 m p o q = m q := fun q h1 h2 => by
    unfold te1; rw [upd_2 _ _ (by omega), upd_2 _ _ (by omega)]
  refine ⟨fun q hq => ?_, fun q hq => ?_, fun q hq => ?_, fun q i hq hi => ?_, fun q i j hq hi hj => ?_, fun q i hq hi hi' => ?_⟩
  · unfold te1; rw [upd_2 _ _ (by omega), upd_2 _ _ (by omega)]; exact i1 q hq
  · unfold te1; rw [upd_2 _ _ (by omega), upd_2 _ _ (by omega)]; exact i2 q hq
  · unfold te1
    rw [uPP _ _ (by decide) (by decide), uPP _ _ (by decide) (by decide)]
    split
    · exact nv_and hl
    · split
      · exact nv_and hl
      · exact i3 q hq
  · rw [hw _ (by omega) (by omega)]; exact i4 q i hq hi
  · rw [hw _ (by omega) (by omega), hw _ (by omega) (by omega)]; exact i5 q i j hq hi hj
  · rw [hw _ (by omega) (by omega)]; exact i6 q i hq hi hi'
theorem SR.tell {g : gG} {x : Nat} {m : Nat → Int32} {n k : Nat} (S : SR g x m n k) {p o : Nat} (hp : p < n) (ho : o < n) : ∃ g', fX8_tellAll x (nI p) (nI o) (gH g) = some (alK m p o, gH g') ∧ Fs g g' x ∧ SR g' x (telM m p o) n k := by
  have C := S.c
  have h10 := C.n10
  have hx := C.st
  have V := S.1
  obtain ⟨_, _, _, _, _, _, _, e5, e6, e7, e8, _⟩ := V
  have C1 := C.per' (r := 5) (by decide) hp (alK m p o &&& (nI (2 ^ p) ^^^ (-1))) (a := x + 8) rfl rfl
  have C2 : SC _ x (te1 m p o) n k := C1.per' (r := 5) (by decide) ho (alK m p o &&& (nI (2 ^ o) ^^^ (-1))) (a := x + 8) rfl rfl
  have C3 := C2.think' hp ho (te1 m p o (12 + 6 * o + 5)) rfl
  have C4 := C3.think' ho hp (te1 m p o (12 + 6 * p + 5)) rfl
  have r1 := C2.1.2.2.2.2.2.2.2.2.2.2.1 o ho
  have r2 := C3.1.2.2.2.2.2.2.2.2.2.2.1 p hp
  rw [upd_2 _ _ (by omega)] at r2
  have A : ∀ q, q < 172 ∨ 272 ≤ q → telM m p o q = te1 m p o q := fun q hq => by unfold telM; rw [upd_2 _ _ (by omega), upd_2 _ _ (by omega)]
  have B : ∀ q, (q < 12 ∨ 72 ≤ q ∨ (q - 12) % 6 ≠ 5) → te1 m p o q = m q := fun q hq => by unfold te1; rw [upd_2 _ _ (by omega), upd_2 _ _ (by omega)]
  refine ⟨_, ?_, Fs.trans (Fs_A (by decide)) (Fs.trans (Fs_A (by decide)) (Fs.trans (Fs_A (by decide)) (Fs_A (by decide)))), SC.r C4 ?_ ?_⟩
  · unfold alK at r1 r2 ⊢
    simp (disch := first | omega | assumption | exact isSt6 | exact isSt18 | exact isSt30) only [fX8_tellAll, fr_s14, ia_s8, iw_s8, fr_s15, ia_s9, iw_s9, bdS, ck_t, ck_T, cb_0, cb_1, ab_jn, if_true, if_false, e8, sh1, r1, r2, nI_add, pk_mul, nI_ltI, nI_leI, nI_eq]
  · refine Iw.mk (m := m) (fun q => m (12 + 6 * q + 2)) (fun h => m (272 + h)) (fun q => m (12 + 6 * q + 3)) ?_ ?_ ?_ S.w.1 S.w.2.1 S.w.2.2.1 S.w.2.2.2.1 S.w.2.2.2.2.1 S.w.2.2.2.2.2
    · intro q hq; exact (A _ (by omega)).trans (B _ (by omega))
    · intro h hh; exact (A _ (by omega)).trans (B _ (by omega))
    · intro q hq; exact (A _ (by omega)).trans (B _ (by omega))
  · exact (S.i.te hp ho h10).cg h10 (fun q hq => A _ (by omega)) (fun q hq => A _ (by omega)) (fun q hq => A _ (by omega)) (fun q _ _ => A _ (by omega))
