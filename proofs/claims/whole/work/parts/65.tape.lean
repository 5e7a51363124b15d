variable {Nq : Nat}
/-! ===== what is SAID, read by the class ===== -/
def up3 (f : Nat → Nat) (o : Nat → Int32) (j : Nat) : Nat → Int32 := fun q => if q < j then nI (f q) else o q
theorem up3_S {f : Nat → Nat} {o : Nat → Int32} {j : Nat} : upd (up3 f o j) j (nI (f j)) = up3 f o (j + 1) := by
  funext q
  rw [upd_e]
  unfold up3
  by_cases c : q = j
  · rw [if_pos c, if_pos (by omega), c]
  · rw [if_neg c]
    by_cases c2 : q < j
    · rw [if_pos c2, if_pos (by omega)]
    · rw [if_neg c2, if_neg (by omega)]
theorem up3_0 {f : Nat → Nat} {o : Nat → Int32} : up3 f o 0 = o := by
  funext q; exact if_neg (by omega)
def st3 (g : gG) (t : Nat → Nat) (j : Nat) : gG := sF (sA (sA (sA g 197 (up3 (fun q => t (3 * q)) (gA g 197) j)) 198 (up3 (fun q => t (3 * q + 1)) (gA g 198) j)) 199 (up3 (fun q => t (3 * q + 2)) (gA g 199) j)) 196 7 (nI j)
def ok3 (t : Nat → Nat) (n j : Nat) : Prop := t (3 * j) < n ∧ t (3 * j + 1) < n ∧ t (3 * j + 2) < 2
theorem cl_byte {g : gG} {L i b : Nat} (hL : gF g 4 1 = nI L) (h4 : L ≤ 400) (hi : i < L) (hb : gA g 5 i = nI b) : fX9_byteAt 4 (nI i) (gH g) = some (nI b) := by
  have e : ¬ nI i < 0 := nI_pos (by omega)
  simp (disch := omega) only [fX9_byteAt, fi_4_1, fr_4_0, ia_5, bdS, ck_t, ck_T, cb_0, cb_1, ab_jn, if_true, if_false, hL, hi, hb, e, nI_ltI, if_true, if_false]
theorem gF_sA_ (g : gG) (a x k : Nat) (f : Nat → Int32) : gF (sA g a f) x k = gF g x k := rfl
theorem rl_tape {g : gG} {n Z : Nat} {t : Nat → Nat} (h10 : n ≤ 10) (hZ : Z ≤ 12) (hn : gF g 196 6 = nI n) (hL : gF g 4 1 = nI (3 * Z)) (ht : ∀ i, i < 3 * Z → gA g 5 i = nI (t i) ∧ t i < 256) {j : Nat} (hj : j ≤ Z) (hg : ∀ i, i < j → ok3 t n i) (he : j < Z → ¬ ok3 t n j) {F : Nat} (hF : 11000 < F) : fX7_readTape_32 196 4 F (nI 0) (gH (st3 g t 0)) = some (bI (decide (j = Z)), gH (st3 g t j)) := by
  have b5 : ∀ z i, i < 3 * Z → fX9_byteAt 4 (nI i) (gH (st3 g t z)) = some (nI (t i)) := fun z i hi => cl_byte (L := 3 * Z) hL (by omega) hi (by
    show gA g 5 i = _
    exact (ht i hi).1)
  have f6 : ∀ z, gF (st3 g t z) 196 6 = nI n := fun z => hn
  have f7 : ∀ z, gF (st3 g t z) 196 7 = nI z := fun z => rfl
  have f4 : ∀ z, gF (st3 g t z) 4 1 = nI (3 * Z) := fun z => hL
  have h0 := lp0 (L := fun F' (_ : Int32) (a : Int32 × gG) => fX7_readTape_32 196 4 F' a.1 (gH a.2)) (n := j) (fun i => (nI (3 * i), st3 g t i)) (some (bI (decide (j = Z)), gH (st3 g t j))) ?_ ?_ F (by omega)
  · exact h0
  · intro F' i hi
    show fX7_readTape_32 196 4 (F' + 1) (nI (3 * i)) (gH (st3 g t i)) = fX7_readTape_32 196 4 F' (nI (3 * (i + 1))) (gH (st3 g t (i + 1)))
    obtain ⟨c1, c2, c3⟩ := hg i hi
    have l1 := b5 i (3 * i) (by omega)
    have l2 := b5 i (3 * i + 1) (by omega)
    have l3 := b5 i (3 * i + 2) (by omega)
    have t1 := (ht (3 * i) (by omega)).2
    have t2 := (ht (3 * i + 1) (by omega)).2
    have z1 : 3 * i < 3 * Z := by omega
    have z2 : i < 12 := by omega
    have z3 : nI (t (3 * i + 2)) ≤ nI 1 := nI_le (by omega) (by decide)
    have l2' : ∀ X, fX9_byteAt 4 (nI (3 * i + 1)) (gH (sA (st3 g t i) 197 X)) = some (nI (t (3 * i + 1))) := fun X => cl_byte (L := 3 * Z) hL (by omega) (by omega) (by
      show gA g 5 _ = _
      exact (ht _ (by omega)).1)
    have u1 : gA (st3 g t i) 197 = up3 (fun q => t (3 * q)) (gA g 197) i := by funext q; rfl
    have u2 : gA (st3 g t i) 198 = up3 (fun q => t (3 * q + 1)) (gA g 198) i := by funext q; rfl
    have u3 : gA (st3 g t i) 199 = up3 (fun q => t (3 * q + 2)) (gA g 199) i := by funext q; rfl
    have s1 : upd (up3 (fun q => t (3 * q)) (gA g 197) i) i (nI (t (3 * i))) = up3 (fun q => t (3 * q)) (gA g 197) (i + 1) := up3_S (f := fun q => t (3 * q))
    have s2 : upd (up3 (fun q => t (3 * q + 1)) (gA g 198) i) i (nI (t (3 * i + 1))) = up3 (fun q => t (3 * q + 1)) (gA g 198) (i + 1) := up3_S (f := fun q => t (3 * q + 1))
    have s3 : upd (up3 (fun q => t (3 * q + 2)) (gA g 199) i) i (nI (t (3 * i + 2))) = up3 (fun q => t (3 * q + 2)) (gA g 199) (i + 1) := up3_S (f := fun q => t (3 * q + 2))
    have w : sF (sA (sA (sA (st3 g t i) 197 (up3 (fun q => t (3 * q)) (gA g 197) (i + 1))) 198 (up3 (fun q => t (3 * q + 1)) (gA g 198) (i + 1))) 199 (up3 (fun q => t (3 * q + 2)) (gA g 199) (i + 1))) 196 7 (nI (i + 1)) = st3 g t (i + 1) := by
      unfold st3
      simp only [sA_sF, sF_sF]
      rw [sA_comm _ (show 199 ≠ 197 by omega), sA_comm _ (show 198 ≠ 197 by omega), sA_sA, sA_comm _ (show 199 ≠ 198 by omega), sA_sA, sA_sA]
    have e3 : 3 * i + 3 = 3 * (i + 1) := by omega
    have q1 : ¬ (197 = 198) := by omega
    have q2 : ¬ (198 = 197) := by omega
    have q3 : ¬ (199 = 197) := by omega
    have q4 : ¬ (199 = 198) := by omega
    rcases (show t (3 * i + 2) = 0 ∨ t (3 * i + 2) = 1 by omega) with k | k
    · rw [k] at s3 l3 z3
      simp (disch := omega) only [fX7_readTape_32, io_4, fi_4_1, fi_196_7, fi_196_6, fr_196_0, iw_197, fr_196_1, iw_198, fr_196_2, iw_199, fw_196_7, bdS, ck_t, ck_T, cb_0, cb_1, ab_jn, if_true, if_false, gF_sA_, f4, f6, f7, l1, l2, l2', l3, z1, z2, z3, c1, c2, gA_sA2 _ _ q2, gA_sA2 _ _ q3, gA_sA2 _ _ q4, u1, u2, u3, s1, s2, s3, nI_ltI, nI_add, e3, if_true, if_false, show ¬ nI 0 = nI 1 by decide]
      rw [w]
    · rw [k] at s3 l3 z3
      simp (disch := omega) only [fX7_readTape_32, io_4, fi_4_1, fi_196_7, fi_196_6, fr_196_0, iw_197, fr_196_1, iw_198, fr_196_2, iw_199, fw_196_7, bdS, ck_t, ck_T, cb_0, cb_1, ab_jn, if_true, if_false, gF_sA_, f4, f6, f7, l1, l2, l2', l3, z1, z2, z3, c1, c2, gA_sA2 _ _ q2, gA_sA2 _ _ q3, gA_sA2 _ _ q4, u1, u2, u3, s1, s2, s3, nI_ltI, nI_add, e3, if_true, if_false]
      rw [w]
  · intro F'
    show fX7_readTape_32 196 4 (F' + 1) (nI (3 * j)) (gH (st3 g t j)) = _
    by_cases c : j = Z
    · subst c
      simp (disch := omega) only [fX7_readTape_32, io_4, fi_4_1, fi_196_7, fi_196_6, fr_196_0, iw_197, fr_196_1, iw_198, fr_196_2, iw_199, fw_196_7, bdS, ck_t, ck_T, cb_0, cb_1, ab_jn, if_true, if_false, f4, Nat.lt_irrefl, nI_ltI, if_false, decide_true]
      rfl
    · have h1 := he (by omega)
      have l1 := b5 j (3 * j) (by omega)
      have l2 := b5 j (3 * j + 1) (by omega)
      have l3 := b5 j (3 * j + 2) (by omega)
      have t1 := (ht (3 * j) (by omega)).2
      have t2 := (ht (3 * j + 1) (by omega)).2
      have t3 := (ht (3 * j + 2) (by omega)).2
      have z1 : 3 * j < 3 * Z := by omega
      have z2 : j < 12 := by omega
      by_cases c1 : t (3 * j) < n
      · by_cases c2 : t (3 * j + 1) < n
        · have c3 : ¬ nI (t (3 * j + 2)) ≤ nI 1 := nI_ge (by unfold ok3 at h1; omega) (by omega)
          simp (disch := omega) only [fX7_readTape_32, io_4, fi_4_1, fi_196_7, fi_196_6, fr_196_0, iw_197, fr_196_1, iw_198, fr_196_2, iw_199, fw_196_7, bdS, ck_t, ck_T, cb_0, cb_1, ab_jn, if_true, if_false, f4, f6, f7, l1, l2, l3, z1, z2, c, c1, c2, c3, nI_ltI, nI_add, if_true, if_false, decide_false]
          rfl
        · simp (disch := omega) only [fX7_readTape_32, io_4, fi_4_1, fi_196_7, fi_196_6, fr_196_0, iw_197, fr_196_1, iw_198, fr_196_2, iw_199, fw_196_7, bdS, ck_t, ck_T, cb_0, cb_1, ab_jn, if_true, if_false, f4, f6, f7, l1, l2, l3, z1, z2, c, c1, c2, nI_ltI, nI_add, if_true, if_false, decide_false]
          rfl
      · simp (disch := omega) only [fX7_readTape_32, io_4, fi_4_1, fi_196_7, fi_196_6, fr_196_0, iw_197, fr_196_1, iw_198, fr_196_2, iw_199, fw_196_7, bdS, ck_t, ck_T, cb_0, cb_1, ab_jn, if_true, if_false, f4, f6, f7, l1, l2, l3, z1, z2, c, c1, nI_ltI, nI_add, if_true, if_false, decide_false]
        rfl
theorem first3 (t : Nat → Nat) (n : Nat) : ∀ Z, ∃ j, j ≤ Z ∧ (∀ i, i < j → ok3 t n i) ∧ (j < Z → ¬ ok3 t n j)
  | 0 => ⟨0, Nat.le_refl _, fun i h => absurd h (Nat.not_lt_zero i), fun h => absurd h (Nat.not_lt_zero 0)⟩
  | Z + 1 => by
    obtain ⟨j, h1, h2, h3⟩ := first3 t n Z
    by_cases c : j < Z
    · exact ⟨j, by omega, h2, fun _ => h3 c⟩
    · have e : j = Z := by omega
      subst e
      by_cases d : ok3 t n j
      · refine ⟨j + 1, Nat.le_refl _, fun i hi => ?_, fun h => absurd h (Nat.lt_irrefl _)⟩
        by_cases k : i = j
        · rw [k]; exact d
        · exact h2 i (by omega)
      · exact ⟨j, by omega, h2, fun _ => d⟩
theorem ok3_all {T : Nat → Int32} {t : Nat → Nat} {n Z : Nat} (h10 : n ≤ 10) (ht : ∀ i, i < 3 * Z → T i = nI (t i) ∧ t i < 256) : (exB (fun k => !okS T n k) (3 * Z) = false) ↔ ∀ i, i < Z → ok3 t n i := by
  have e : (exB (fun k => !okS T n k) (3 * Z) = false) ↔ ∀ k, k < 3 * Z → okS T n k = true := by
    constructor
    · intro h k hk
      cases c : okS T n k
      · have : exB (fun k => !okS T n k) (3 * Z) = true := exB_t.mpr ⟨k, hk, by rw [c]; rfl⟩
        rw [this] at h; cases h
      · rfl
    · intro h
      cases c : exB (fun k => !okS T n k) (3 * Z)
      · rfl
      · obtain ⟨k, hk, q⟩ := exB_t.mp c
        rw [h k hk] at q; cases q
  rw [e]
  have v : ∀ k, k < 3 * Z → (okS T n k = true ↔ if k % 3 < 2 then t k < n else t k < 2) := fun k hk => by
    obtain ⟨a, b⟩ := ht k hk
    unfold okS
    rw [a]
    by_cases c : k % 3 < 2
    · rw [if_pos c, if_pos c, decide_eq_true_iff, nI_ltI (by omega) (by omega)]
    · rw [if_neg c, if_neg c, decide_eq_true_iff, nI_ltI (by omega) (by omega)]
  constructor
  · intro h i hi
    have a := (v (3 * i) (by omega)).mp (h _ (by omega))
    have b := (v (3 * i + 1) (by omega)).mp (h _ (by omega))
    have c := (v (3 * i + 2) (by omega)).mp (h _ (by omega))
    rw [if_pos (by omega)] at a b
    rw [if_neg (by omega)] at c
    exact ⟨a, b, c⟩
  · intro h k hk
    rw [v k hk]
    obtain ⟨a, b, c⟩ := h (k / 3) (by omega)
    rcases (show k = 3 * (k / 3) ∨ k = 3 * (k / 3) + 1 ∨ k = 3 * (k / 3) + 2 by omega) with q | q | q
    · rw [if_pos (by omega), q]; exact a
    · rw [if_pos (by omega), q]; exact b
    · rw [if_neg (by omega), q]; exact c
theorem st3_0 (g : gG) (t : Nat → Nat) : st3 g t 0 = sF g 196 7 (nI 0) := by
  unfold st3
  rw [up3_0, up3_0, up3_0, sA_id, sA_id, sA_id]
theorem cl_readTape {g : gG} {n L : Nat} {t : Nat → Nat} (h10 : n ≤ 10) (h4 : L ≤ 400) (hL : gF g 4 1 = nI L) (ht : ∀ i, i < L → gA g 5 i = nI (t i) ∧ t i < 256) {T : Nat → Int32} (hT : ∀ i, i < L → T i = gA g 5 i) {F : Nat} (hF : 11000 < F) : ∃ j, j ≤ 12 ∧ (gdS T n L = true → j = L / 3) ∧ fX7_readTape F 196 4 (nI n) (gH g) = some (bI (gdS T n L), gH (st3 (sF g 196 6 (nI n)) t j)) := by
  have m3 := rm_3 (show L < 2 ^ 31 by omega)
  have f4 : gF (sF (sF g 196 6 (nI n)) 196 7 (nI 0)) 4 1 = nI L := hL
  by_cases c1 : L % 3 = 0
  · by_cases c2 : L ≤ 36
    · obtain ⟨Z, rfl⟩ : ∃ Z, L = 3 * Z := ⟨L / 3, by omega⟩
      have eg : gdS T n (3 * Z) = !exB (fun k => !okS T n k) (3 * Z) := by
        unfold gdS; rw [decide_eq_true c1, decide_eq_true c2]; rfl
      have l36 : nI (3 * Z) ≤ nI 36 := nI_le c2 (by decide)
      obtain ⟨j, j1, j2, j3⟩ := first3 t n Z
      have hh := rl_tape (g := sF g 196 6 (nI n)) (t := t) h10 (show Z ≤ 12 by omega) (show gF (sF g 196 6 (nI n)) 196 6 = nI n from rfl) hL ht j1 j2 j3 hF
      rw [st3_0] at hh
      have hv := ok3_all (T := T) (t := t) (Z := Z) h10 (fun i hi => by rw [hT i hi]; exact ht i hi)
      have ev : gdS T n (3 * Z) = decide (j = Z) := by
        rw [eg]
        by_cases d : j = Z
        · rw [decide_eq_true d, hv.mpr (by rw [← d]; exact j2)]; rfl
        · rw [decide_eq_false d]
          cases q : exB (fun k => !okS T n k) (3 * Z)
          · exact absurd (hv.mp q j (by omega)) (j3 (by omega))
          · rfl
      refine ⟨j, by omega, fun h => ?_, ?_⟩
      · rw [ev] at h
        have := of_decide_eq_true h
        omega
      · rw [ev]
        simp (disch := omega) only [fX7_readTape, fw_196_6, fw_196_7, fi_4_1, bdS, ck_t, ck_T, cb_0, cb_1, ab_jn, if_true, if_false, f4, n3, m3, z_eq, c1, l36, if_true, hh]
        rfl
    · have eg : gdS T n L = false := by
        unfold gdS; rw [decide_eq_true c1, decide_eq_false c2]; rfl
      have l36 : ¬ nI L ≤ nI 36 := nI_ge (by omega) (by omega)
      refine ⟨0, by omega, (fun h => by rw [eg] at h; cases h), ?_⟩
      rw [eg, st3_0]
      simp (disch := omega) only [fX7_readTape, fw_196_6, fw_196_7, fi_4_1, bdS, ck_t, ck_T, cb_0, cb_1, ab_jn, if_true, if_false, f4, n3, m3, z_eq, c1, l36, if_true, if_false]
      rfl
  · have eg : gdS T n L = false := by
      unfold gdS; rw [decide_eq_false c1]; rfl
    refine ⟨0, by omega, (fun h => by rw [eg] at h; cases h), ?_⟩
    rw [eg, st3_0]
    simp (disch := omega) only [fX7_readTape, fw_196_6, fw_196_7, fi_4_1, bdS, ck_t, ck_T, cb_0, cb_1, ab_jn, if_true, if_false, f4, n3, m3, z_eq, c1, if_true, if_false]
    rfl
