/-! ===== marks, unknown, passes, forged ===== -/
def pUnl (fm : Nat → Int32) (n : Nat) (s : Int32) : Bool := !exB (fun a => exB (fun b => decide (fm a &&& s = fm b &&& s)) a) n
theorem rl_unl14 (g : gG) {n : Nat} (hn : gA g 207 3 = nI n) (h10 : n ≤ 10) {F : Nat} (hF : 11000 < F) (s : Int32) {a : Nat} (ha : a < n) (K : Option Int32) : fX12_areUnlike_14 F 206 s (nI a) (gH g) K F (nI 0) = if exB (fun b => decide (gA g 207 (12 + 6 * a) &&& s = gA g 207 (12 + 6 * b) &&& s)) a = true then some (nI 0) else K := by
  refine lpx (L := fun F' i (_ : Unit) => fX12_areUnlike_14 F 206 s (nI a) (gH g) K F' i) (n := a) (fun _ => ()) (fun b => gA g 207 (12 + 6 * a) &&& s = gA g 207 (12 + 6 * b) &&& s) _ ?_ ?_ ?_ F (by omega)
  · intro F i hi _ hE
    simp (disch := omega) only [fX12_areUnlike_14, io_206, ab_bd_some, ck_t, ck_T, cb_0, cb_1, ab_jn, if_true, if_false, rf_of0, hi, hE, nI_add, pk_mul, nI_ltI, nI_leI, nI_eq]
  · intro F i hi hj hE
    rw [exB_at hi (by simpa using hE) (fun j h => by simpa using hj j h)]
    simp (disch := omega) only [fX12_areUnlike_14, io_206, ab_bd_some, ck_t, ck_T, cb_0, cb_1, ab_jn, if_true, if_false, rf_of0, hi, hE, nI_add, pk_mul, nI_ltI, nI_leI, nI_eq]
  · intro F hj
    rw [exB_no (fun j h => by simpa using hj j h)]
    simp (disch := omega) only [fX12_areUnlike_14, io_206, ab_bd_some, ck_t, ck_T, cb_0, cb_1, ab_jn, if_true, if_false, Nat.lt_irrefl, nI_add, pk_mul, nI_ltI, nI_leI, nI_eq, reduceCtorEq, m1_ne, and_true, true_and, and_false, false_and, not_true_eq_false, not_false_eq_true, ne_eq, decide_true, decide_false, Bool.false_eq_true, ite_true, ite_false, if_true, if_false, Nat.add_zero, Bool.and_true, Bool.true_and, Bool.and_false, Bool.false_and, Bool.or_true, Bool.true_or, Bool.or_false, Bool.false_or, decide_not, Bool.not_true, Bool.not_false, or_true, true_or, or_false, false_or, or_self, and_self, decide_eq_true_eq]
theorem rf_areUnlike (g : gG) {n : Nat} (hn : gA g 207 3 = nI n) (h10 : n ≤ 10) {F : Nat} (hF : 11000 < F) (s : Int32) : fX12_areUnlike F 206 s (gH g) = some (bI (pUnl (fun p => gA g 207 (12 + 6 * p)) n s)) := by
  unfold fX12_areUnlike pUnl
  refine lpx (L := fun F' i (_ : Unit) => fX12_areUnlike_2 F 206 s (gH g) F' i) (n := n) (fun _ => ()) (fun a => exB (fun b => decide (gA g 207 (12 + 6 * a) &&& s = gA g 207 (12 + 6 * b) &&& s)) a = true) _ ?_ ?_ ?_ F (by omega)
  · intro F' i hi _ hE
    simp (disch := omega) only [fX12_areUnlike_2, fr_206_1, ia_207, ab_bd_some, ck_t, ck_T, cb_0, cb_1, ab_jn, if_true, if_false, hn, hi, nI_add, pk_mul, nI_ltI, nI_leI, nI_eq]
    rw [rl_unl14 g hn h10 hF s hi, if_neg hE]
  · intro F' i hi hj hE
    rw [exB_at (P := fun a => exB (fun b => decide (gA g 207 (12 + 6 * a) &&& s = gA g 207 (12 + 6 * b) &&& s)) a) hi hE hj]
    simp (disch := omega) only [fX12_areUnlike_2, fr_206_1, ia_207, ab_bd_some, ck_t, ck_T, cb_0, cb_1, ab_jn, if_true, if_false, hn, hi, nI_add, pk_mul, nI_ltI, nI_leI, nI_eq]
    rw [rl_unl14 g hn h10 hF s hi, if_pos hE]; rfl
  · intro F' hj
    rw [exB_no (P := fun a => exB (fun b => decide (gA g 207 (12 + 6 * a) &&& s = gA g 207 (12 + 6 * b) &&& s)) a) hj]
    simp (disch := omega) only [fX12_areUnlike_2, fr_206_1, ia_207, ab_bd_some, ck_t, ck_T, cb_0, cb_1, ab_jn, if_true, if_false, hn, Nat.lt_irrefl, nI_add, pk_mul, nI_ltI, nI_leI, nI_eq, reduceCtorEq, m1_ne, and_true, true_and, and_false, false_and, not_true_eq_false, not_false_eq_true, ne_eq, decide_true, decide_false, Bool.false_eq_true, ite_true, ite_false, if_true, if_false, Nat.add_zero, Bool.and_true, Bool.true_and, Bool.and_false, Bool.false_and, Bool.or_true, Bool.true_or, Bool.or_false, Bool.false_or, decide_not, Bool.not_true, Bool.not_false, or_true, true_or, or_false, false_or, or_self, and_self, decide_eq_true_eq]; rfl
theorem xor_and (a b s : Int32) : ((a ^^^ b) &&& s = 0) ↔ (a &&& s = b &&& s) := by
  constructor
  · intro h
    apply b_ext
    intro i hi
    have h1 : bt ((a ^^^ b) &&& s) i = bt 0 i := by rw [h]
    rw [b_and, b_xor, b_0] at h1
    rw [b_and, b_and]
    revert h1
    cases bt a i <;> cases bt b i <;> cases bt s i <;> simp
  · intro h
    apply b_ext
    intro i hi
    have h1 : bt (a &&& s) i = bt (b &&& s) i := by rw [h]
    rw [b_and, b_and] at h1
    rw [b_and, b_xor, b_0]
    revert h1
    cases bt a i <;> cases bt b i <;> cases bt s i <;> simp
theorem cl_unl15 {g : gG} {m : Nat → Int32} {n k : Nat} (V : Sv g 6 m n k) {F : Nat} (hF : 11000 < F) (s : Int32) {a : Nat} (ha : a < n) (K : Option Int32) : fX11_partsAllFaces_15 F 0 s (nI a) (gH g) K F (nI 0) = if exB (fun b => decide (m (12 + 6 * a) &&& s = m (12 + 6 * b) &&& s)) a = true then some (nI 0) else K := by
  have W := V
  obtain ⟨hx, hn, h10, hk, h12, e3, e4, e5, e6, e7, e8, e11, e9, e10⟩ := W
  refine lpx (L := fun F' i (_ : Unit) => fX11_partsAllFaces_15 F 0 s (nI a) (gH g) K F' i) (n := a) (fun _ => ()) (fun b => m (12 + 6 * a) &&& s = m (12 + 6 * b) &&& s) _ ?_ ?_ ?_ F (by omega)
  · intro F i hi _ hE
    simp (disch := first | omega | assumption | exact isSt6 | exact isSt18 | exact isSt30) only [fX11_partsAllFaces_15, fr_0_1, fr_s9, ia_s3, ab_bd_some, ck_t, ck_T, cb_0, cb_1, ab_jn, if_true, if_false, e3, xor_and, hi, hE, nI_add, pk_mul, nI_ltI, nI_leI, nI_eq]
  · intro F i hi hj hE
    rw [exB_at hi (by simpa using hE) (fun j h => by simpa using hj j h)]
    simp (disch := first | omega | assumption | exact isSt6 | exact isSt18 | exact isSt30) only [fX11_partsAllFaces_15, fr_0_1, fr_s9, ia_s3, ab_bd_some, ck_t, ck_T, cb_0, cb_1, ab_jn, if_true, if_false, e3, xor_and, hi, hE, nI_add, pk_mul, nI_ltI, nI_leI, nI_eq]
  · intro F hj
    rw [exB_no (fun j h => by simpa using hj j h)]
    simp (disch := first | omega | assumption | exact isSt6 | exact isSt18 | exact isSt30) only [fX11_partsAllFaces_15, fr_0_1, fr_s9, ia_s3, ab_bd_some, ck_t, ck_T, cb_0, cb_1, ab_jn, if_true, if_false, Nat.lt_irrefl, nI_add, pk_mul, nI_ltI, nI_leI, nI_eq, reduceCtorEq, m1_ne, and_true, true_and, and_false, false_and, not_true_eq_false, not_false_eq_true, ne_eq, decide_true, decide_false, Bool.false_eq_true, ite_true, ite_false, if_true, if_false, Nat.add_zero, Bool.and_true, Bool.true_and, Bool.and_false, Bool.false_and, Bool.or_true, Bool.true_or, Bool.or_false, Bool.false_or, decide_not, Bool.not_true, Bool.not_false, or_true, true_or, or_false, false_or, or_self, and_self, decide_eq_true_eq]
theorem cl_partsAllFaces {g : gG} {m : Nat → Int32} {n k : Nat} (V : Sv g 6 m n k) {F : Nat} (hF : 11000 < F) (s : Int32) : fX11_partsAllFaces F 0 s (gH g) = some (bI (pUnl (fun p => m (12 + 6 * p)) n s)) := by
  have W := V
  obtain ⟨hx, hn, h10, hk, h12, e3, e4, e5, e6, e7, e8, e11, e9, e10⟩ := W
  unfold fX11_partsAllFaces pUnl
  refine lpx (L := fun F' i (_ : Unit) => fX11_partsAllFaces_2 F 0 s (gH g) F' i) (n := n) (fun _ => ()) (fun a => exB (fun b => decide (m (12 + 6 * a) &&& s = m (12 + 6 * b) &&& s)) a = true) _ ?_ ?_ ?_ F (by omega)
  · intro F' i hi _ hE
    simp (disch := first | omega | assumption | exact isSt6 | exact isSt18 | exact isSt30) only [fX11_partsAllFaces_2, fr_0_1, fi_s0, ab_bd_some, ck_t, ck_T, cb_0, cb_1, ab_jn, if_true, if_false, hn, hi, nI_add, pk_mul, nI_ltI, nI_leI, nI_eq]
    rw [cl_unl15 V hF s hi, if_neg hE]
  · intro F' i hi hj hE
    rw [exB_at (P := fun a => exB (fun b => decide (m (12 + 6 * a) &&& s = m (12 + 6 * b) &&& s)) a) hi hE hj]
    simp (disch := first | omega | assumption | exact isSt6 | exact isSt18 | exact isSt30) only [fX11_partsAllFaces_2, fr_0_1, fi_s0, ab_bd_some, ck_t, ck_T, cb_0, cb_1, ab_jn, if_true, if_false, hn, hi, nI_add, pk_mul, nI_ltI, nI_leI, nI_eq]
    rw [cl_unl15 V hF s hi, if_pos hE]; rfl
  · intro F' hj
    rw [exB_no (P := fun a => exB (fun b => decide (m (12 + 6 * a) &&& s = m (12 + 6 * b) &&& s)) a) hj]
    simp (disch := first | omega | assumption | exact isSt6 | exact isSt18 | exact isSt30) only [fX11_partsAllFaces_2, fr_0_1, fi_s0, ab_bd_some, ck_t, ck_T, cb_0, cb_1, ab_jn, if_true, if_false, hn, Nat.lt_irrefl, nI_add, pk_mul, nI_ltI, nI_leI, nI_eq, reduceCtorEq, m1_ne, and_true, true_and, and_false, false_and, not_true_eq_false, not_false_eq_true, ne_eq, decide_true, decide_false, Bool.false_eq_true, ite_true, ite_false, if_true, if_false, Nat.add_zero, Bool.and_true, Bool.true_and, Bool.and_false, Bool.false_and, Bool.or_true, Bool.true_or, Bool.or_false, Bool.false_or, decide_not, Bool.not_true, Bool.not_false, or_true, true_or, or_false, false_or, or_self, and_self, decide_eq_true_eq]; rfl
/-- the least of the sets, the fewest first -/
def few (Q : Nat → Bool) : Nat → Int32 := it (fun s a => if (a = -1 ∨ pc (nI s) < pc a) ∧ Q s = true then nI s else a) (-1)
theorem few_S (Q : Nat → Bool) (n : Nat) : few Q (n + 1) = if (few Q n = -1 ∨ pc (nI n) < pc (few Q n)) ∧ Q n = true then nI n else few Q n := rfl
theorem few_m1 (Q : Nat → Bool) : ∀ n, few Q n = -1 ∨ ∃ s, s < n ∧ few Q n = nI s
  | 0 => Or.inl rfl
  | n + 1 => by
    rw [few_S]
    split
    · exact Or.inr ⟨n, by omega, rfl⟩
    · rcases few_m1 Q n with h | ⟨s, hs, h⟩
      · exact Or.inl h
      · exact Or.inr ⟨s, by omega, h⟩
theorem pc_nlt (x y : Int32) : (nI (pc x) < nI (pc y)) ↔ pc x < pc y := nI_ltI (by have := pc_le x; omega) (by have := pc_le y; omega)
theorem cl_isFewer {s : Nat} {a : Int32} (h : ab_H) (hs : s < 4096) (ha : a = -1 ∨ ∃ t, t < 4096 ∧ a = nI t) : fX11_isFewer (nI s) a h = some (bI (decide (a = -1 ∨ pc (nI s) < pc a))) := by
  rcases ha with rfl | ⟨t, ht, rfl⟩
  · rfl
  · simp (disch := omega) only [fX11_isFewer, ab_bd_some, ck_t, ck_T, cb_0, cb_1, ab_jn, if_true, if_false, cl_bitCount, pc_nlt, m1_ne, false_or]
    by_cases c : pc (nI s) < pc (nI t) <;> simp [c, bI]
theorem rl_marks (g : gG) {n : Nat} (hn : gA g 207 3 = nI n) (h10 : n ≤ 10) {F : Nat} (hF : 11000 < F) : fX12_marks_9 F 206 (gH g) F (-1) (nI 0) = some (few (fun s => pUnl (fun p => gA g 207 (12 + 6 * p)) n (nI s)) 256, gH g) := by
  refine lp0 (L := fun F' i a => fX12_marks_9 F 206 (gH g) F' a i) (n := 256) (fun i => few (fun s => pUnl (fun p => gA g 207 (12 + 6 * p)) n (nI s)) i) _ ?_ ?_ F (by omega)
  · intro F' i hi
    by_cases c0 : few (fun s => pUnl (fun p => gA g 207 (12 + 6 * p)) n (nI s)) i = -1 <;> by_cases c1 : pc (nI i) < pc (few (fun s => pUnl (fun p => gA g 207 (12 + 6 * p)) n (nI s)) i) <;> by_cases c2 : pUnl (fun p => gA g 207 (12 + 6 * p)) n (nI i) = true <;>
    simp (disch := first | omega | assumption | exact isSt6 | exact isSt18 | exact isSt30) only [fX12_marks_9, io_206, ab_bd_some, ck_t, ck_T, cb_0, cb_1, ab_jn, if_true, if_false, rf_areUnlike g hn h10 hF, rf_bits _ _ hF, pc_nlt, few_S, bI_0, hi, c0, c1, c2, Bool.not_eq_true, nI_add, pk_mul, nI_ltI, nI_leI, nI_eq, reduceCtorEq, m1_ne, and_true, true_and, and_false, false_and, not_true_eq_false, not_false_eq_true, ne_eq, decide_true, decide_false, Bool.false_eq_true, ite_true, ite_false, if_true, if_false, Nat.add_zero, Bool.and_true, Bool.true_and, Bool.and_false, Bool.false_and, Bool.or_true, Bool.true_or, Bool.or_false, Bool.false_or, decide_not, Bool.not_true, Bool.not_false, or_true, true_or, or_false, false_or, or_self, and_self, decide_eq_true_eq]
  · intro F'
    simp (disch := first | omega | assumption | exact isSt6 | exact isSt18 | exact isSt30) only [fX12_marks_9, io_206, ab_bd_some, ck_t, ck_T, cb_0, cb_1, ab_jn, if_true, if_false, Nat.lt_irrefl, nI_add, pk_mul, nI_ltI, nI_leI, nI_eq]
theorem rf_marks (g : gG) {n : Nat} (hn : gA g 207 3 = nI n) (h10 : n ≤ 10) {F : Nat} (hF : 11000 < F) : fX12_marks F 206 (gH g) = some (few (fun s => pUnl (fun p => gA g 207 (12 + 6 * p)) n (nI s)) 256, gH (sF g 206 0 (nI 0))) := by
  simp only [fX12_marks, fw_206_0, ab_bd_some, ck_t, ck_T, cb_0, cb_1, ab_jn, if_true, if_false]
  exact rl_marks (sF g 206 0 (nI 0)) hn h10 hF
theorem cl_marks {g : gG} {m : Nat → Int32} {n k : Nat} (V : Sv g 6 m n k) {F : Nat} (hF : 11000 < F) : fX11_marks F 0 (gH g) = some (few (fun s => pUnl (fun p => m (12 + 6 * p)) n (nI s)) 256) := by
  unfold fX11_marks
  refine lp0 (L := fun F' i a => fX11_marks_4 F 0 (gH g) F' a i) (n := 256) (fun i => few (fun s => pUnl (fun p => m (12 + 6 * p)) n (nI s)) i) _ ?_ ?_ F (by omega)
  · intro F' i hi
    have hw := few_m1 (fun s => pUnl (fun p => m (12 + 6 * p)) n (nI s)) i
    have hw : few (fun s => pUnl (fun p => m (12 + 6 * p)) n (nI s)) i = -1 ∨ ∃ t, t < 4096 ∧ few (fun s => pUnl (fun p => m (12 + 6 * p)) n (nI s)) i = nI t := hw.imp id (fun ⟨t, h1, h2⟩ => ⟨t, by omega, h2⟩)
    have hi' : i ≤ 255 := by omega
    by_cases c0 : few (fun s => pUnl (fun p => m (12 + 6 * p)) n (nI s)) i = -1 ∨ pc (nI i) < pc (few (fun s => pUnl (fun p => m (12 + 6 * p)) n (nI s)) i) <;> by_cases c2 : pUnl (fun p => m (12 + 6 * p)) n (nI i) = true <;>
    simp (disch := first | omega | assumption | exact isSt6 | exact isSt18 | exact isSt30) only [fX11_marks_4, io_0, ab_bd_some, ck_t, ck_T, cb_0, cb_1, ab_jn, if_true, if_false, cl_isFewer (gH g) (show i < 4096 by omega) hw, cl_partsAllFaces V hF, few_S, bI_0, hi', c0, c2, Bool.not_eq_true, nI_add, pk_mul, nI_ltI, nI_leI, nI_eq, reduceCtorEq, m1_ne, and_true, true_and, and_false, false_and, not_true_eq_false, not_false_eq_true, ne_eq, decide_true, decide_false, Bool.false_eq_true, ite_true, ite_false, if_true, if_false, Nat.add_zero, Bool.and_true, Bool.true_and, Bool.and_false, Bool.false_and, Bool.or_true, Bool.true_or, Bool.or_false, Bool.false_or, decide_not, Bool.not_true, Bool.not_false, or_true, true_or, or_false, false_or, or_self, and_self, decide_eq_true_eq]
  · intro F'
    simp (disch := first | omega | assumption | exact isSt6 | exact isSt18 | exact isSt30) only [fX11_marks_4, io_0, ab_bd_some, ck_t, ck_T, cb_0, cb_1, ab_jn, if_true, if_false, show ¬ (256 ≤ 255) by omega, nI_add, pk_mul, nI_ltI, nI_leI, nI_eq, reduceCtorEq, m1_ne, and_true, true_and, and_false, false_and, not_true_eq_false, not_false_eq_true, ne_eq, decide_true, decide_false, Bool.false_eq_true, ite_true, ite_false, if_true, if_false, Nat.add_zero, Bool.and_true, Bool.true_and, Bool.and_false, Bool.false_and, Bool.or_true, Bool.true_or, Bool.or_false, Bool.false_or, decide_not, Bool.not_true, Bool.not_false, or_true, true_or, or_false, false_or, or_self, and_self, decide_eq_true_eq]
