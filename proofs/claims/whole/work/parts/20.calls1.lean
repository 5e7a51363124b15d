/-! ===== calls: what is needed; hook, thinks, wish, passes, unknown ===== -/
def eIx : String := "java/lang/IndexOutOfBoundsException"
def eAr : String := "java/lang/IllegalArgumentException"
def eSt : String := "java/lang/IllegalStateException"
def eNo : String := "java/util/NoSuchElementException"
def eUn : String := "java/lang/UnsupportedOperationException"
/-- the answer, or what was thrown: both alike -/
def Ag (r : Int32 ⊕ String) (y t : Int32) (cs : List String) : Prop := match r with
  | .inl v => t = nI 0 ∧ v = y
  | .inr E => ∃ i, i < 4 ∧ cs[i]? = some E ∧ t = nI (i + 1)
theorem bx_l {ρ : Type} {f : String → ρ} {t : Option ρ} : ab_bx (some (.inl ())) f t = t := rfl
theorem bx_r {ρ : Type} {E : String} {f : String → ρ} {t : Option ρ} : ab_bx (some (.inr E)) f t = some (f E) := rfl
/-- what the reference's row says of how many there are -/
def Rv (g : gG) (n k : Nat) : Prop := gA g 207 3 = nI n ∧ n ≤ 10 ∧ gA g 207 4 = nI k ∧ k ≤ 12
theorem cl_needPerson {g : gG} {m : Nat → Int32} {n k : Nat} (V : Sv g 6 m n k) (x : Int32) : fX11_needPerson 0 x (gH g) = some (if inR x n = true then .inl () else .inr eIx) := by
  simp (disch := first | omega | assumption | exact isSt6 | exact isSt18 | exact isSt30) only [fX11_needPerson, io_s, fr_0_1, ab_bd_some, ck_t, ck_T, cb_0, cb_1, ab_jn, if_true, if_false, io_s g isSt6, cl_hasPerson V, bI_0]
  cases inR x n <;> rfl
theorem cl_needHook {g : gG} {m : Nat → Int32} {n k : Nat} (V : Sv g 6 m n k) (x : Int32) : fX11_needHook 0 x (gH g) = some (if inR x k = true then .inl () else .inr eIx) := by
  have W := V
  obtain ⟨hx, hn, h10, hk, h12, e3, e4, e5, e6, e7, e8, e11, e9, e10⟩ := W
  simp (disch := first | omega | assumption | exact isSt6 | exact isSt18 | exact isSt30) only [fX11_needHook, fr_0_1, fi_s1, ab_bd_some, ck_t, ck_T, cb_0, cb_1, ab_jn, if_true, if_false, fi_s1 g isSt6, hk]
  unfold inR
  by_cases h1 : x < 0
  · simp [h1, eIx]
  · by_cases h2 : nI k ≤ x
    · have h3 : ¬ x < nI k := by rw [fa_lt]; rw [fa_le] at h2; omega
      simp [h1, h2, h3, eIx]
    · have h3 : x < nI k := by rw [fa_lt]; rw [fa_le] at h2; omega
      simp [h1, h2, h3]
theorem cl_needUnlike (x y : Int32) (h : ab_H) : fX11_needUnlike x y h = some (if x = y then .inr eAr else .inl ()) := by
  unfold fX11_needUnlike
  by_cases c : x = y <;> simp [c, eAr]
theorem cl_needTwo {g : gG} {m : Nat → Int32} {n k : Nat} (V : Sv g 6 m n k) (x y : Int32) : fX11_needTwo 0 x y (gH g) = some (if inR x n = true then (if inR y n = true then (if x = y then .inr eAr else .inl ()) else .inr eIx) else .inr eIx) := by
  simp (disch := first | omega | assumption | exact isSt6 | exact isSt18 | exact isSt30) only [fX11_needTwo, io_0, ab_bd_some, ck_t, ck_T, cb_0, cb_1, ab_jn, if_true, if_false, cl_needPerson V, cl_needUnlike]
  cases inR x n <;> cases inR y n <;> by_cases c : x = y <;> simp [c, bx_l, bx_r]
theorem cl_needNumber (x a b : Int32) (h : ab_H) : fX11_needNumber x a b h = some (if decide (¬ x < a ∧ x ≤ b) = true then .inl () else .inr eAr) := by
  unfold fX11_needNumber
  by_cases c1 : x < a <;> by_cases c2 : x ≤ b <;> simp [c1, c2, ab_jn, eAr]
theorem cl_needMark (x : Int32) (h : ab_H) : fX11_needMark x h = some (if inR x 8 = true then .inl () else .inr eIx) := by
  unfold fX11_needMark inR
  by_cases h1 : x < 0
  · simp [h1, ab_jn, eIx]
  · by_cases h2 : nI 8 ≤ x
    · have h3 : ¬ x < nI 8 := by rw [fa_lt]; rw [fa_le] at h2; omega
      simp [h1, h2, h3, ab_jn, eIx]
    · have h3 : x < nI 8 := by rw [fa_lt]; rw [fa_le] at h2; omega
      simp [h1, h2, h3, ab_jn]
theorem cl_needTold (b : Bool) (h : ab_H) : fX11_needTold (bI b) h = some (if b = true then .inl () else .inr eAr) := by
  cases b <;> rfl
theorem rf_two {g : gG} {n k : Nat} (R : Rv g n k) (x y : Int32) : fX12_two 206 x y (gH g) = some (if inR x n = true then (if inR y n = true then (if x = y then nI 2 else nI 0) else nI 1) else nI 1) := by
  obtain ⟨hn, h10, hk, h12⟩ := R
  simp (disch := first | omega | assumption | exact isSt6 | exact isSt18 | exact isSt30) only [fX12_two, io_206, ab_bd_some, ck_t, ck_T, cb_0, cb_1, ab_jn, if_true, if_false, rf_isPerson g hn h10, bI_0]
  cases inR x n <;> cases inR y n <;> by_cases c : x = y <;> simp [c]
theorem nI10 : ¬ nI 1 ≤ 0 := by decide
theorem nI20 : ¬ nI 2 ≤ 0 := by decide
theorem nI30 : ¬ nI 3 ≤ 0 := by decide
theorem nI00 : nI 0 ≤ 0 := by decide
theorem ca_hook {g : gG} {n k : Nat} (V : Sv g 6 (gA g 207) n k) (R : Rv g n k) (x : Int32) : ∃ r y t, fX11_hook 0 x (gH g) = some r ∧ fX12_hook 206 x (gH g) = some (y, gH (sF g 206 0 t)) ∧ Ag r y t [eIx] := by
  have W := V
  obtain ⟨hx, hn, h10, hk, h12, e3, e4, e5, e6, e7, e8, e11, e9, e10⟩ := W
  obtain ⟨rn, _, rk, _⟩ := R
  rcases inR_or (n := k) (x := x) (by omega) with e | ⟨j, hj, rfl⟩
  · refine ⟨.inr eIx, nI 0, nI 1, ?_, ?_, 0, by decide, rfl, rfl⟩
    · simp (disch := first | omega | assumption | exact isSt6 | exact isSt18 | exact isSt30) only [fX11_hook, io_0, fr_0_1, fr_s17, ia_s11, ab_bd_some, ck_t, ck_T, cb_0, cb_1, ab_jn, if_true, if_false, cl_needHook V, e, bx_r, reduceCtorEq, m1_ne, and_true, true_and, and_false, false_and, not_true_eq_false, not_false_eq_true, ne_eq, decide_true, decide_false, Bool.false_eq_true, ite_true, ite_false, if_true, if_false, Nat.add_zero, Bool.and_true, Bool.true_and, Bool.and_false, Bool.false_and, Bool.or_true, Bool.true_or, Bool.or_false, Bool.false_or, decide_not, Bool.not_true, Bool.not_false, or_true, true_or, or_false, false_or, or_self, and_self, decide_eq_true_eq]
    · simp (disch := first | omega | assumption | exact isSt6 | exact isSt18 | exact isSt30) only [fX12_hook, io_206, fw_206_0, fi_206_0, fr_206_1, ia_207, ab_bd_some, ck_t, ck_T, cb_0, cb_1, ab_jn, if_true, if_false, rf_isHook g rk h12, e, bI_0, gF_sF1, upd_1, nI10, reduceCtorEq, m1_ne, and_true, true_and, and_false, false_and, not_true_eq_false, not_false_eq_true, ne_eq, decide_true, decide_false, Bool.false_eq_true, ite_true, ite_false, if_true, if_false, Nat.add_zero, Bool.and_true, Bool.true_and, Bool.and_false, Bool.false_and, Bool.or_true, Bool.true_or, Bool.or_false, Bool.false_or, decide_not, Bool.not_true, Bool.not_false, or_true, true_or, or_false, false_or, or_self, and_self, decide_eq_true_eq]
  · have e := inR_of hj (show k < 2 ^ 31 by omega)
    refine ⟨.inl (gA g 207 (272 + j)), gA g 207 (272 + j), nI 0, ?_, ?_, rfl, rfl⟩
    · simp (disch := first | omega | assumption | exact isSt6 | exact isSt18 | exact isSt30) only [fX11_hook, io_0, fr_0_1, fr_s17, ia_s11, ab_bd_some, ck_t, ck_T, cb_0, cb_1, ab_jn, if_true, if_false, fr_s17 g isSt6, ia_s11 g isSt6, cl_needHook V, e, e11, bx_l, reduceCtorEq, m1_ne, and_true, true_and, and_false, false_and, not_true_eq_false, not_false_eq_true, ne_eq, decide_true, decide_false, Bool.false_eq_true, ite_true, ite_false, if_true, if_false, Nat.add_zero, Bool.and_true, Bool.true_and, Bool.and_false, Bool.false_and, Bool.or_true, Bool.true_or, Bool.or_false, Bool.false_or, decide_not, Bool.not_true, Bool.not_false, or_true, true_or, or_false, false_or, or_self, and_self, decide_eq_true_eq]
    · simp (disch := first | omega | assumption | exact isSt6 | exact isSt18 | exact isSt30) only [fX12_hook, io_206, fw_206_0, fi_206_0, fr_206_1, ia_207, ab_bd_some, ck_t, ck_T, cb_0, cb_1, ab_jn, if_true, if_false, rf_isHook g rk h12, e, bI_0, gF_sF1, upd_1, nI00, gA_sF, nI_add, pk_mul, nI_ltI, nI_leI, nI_eq, reduceCtorEq, m1_ne, and_true, true_and, and_false, false_and, not_true_eq_false, not_false_eq_true, ne_eq, decide_true, decide_false, Bool.false_eq_true, ite_true, ite_false, if_true, if_false, Nat.add_zero, Bool.and_true, Bool.true_and, Bool.and_false, Bool.false_and, Bool.or_true, Bool.true_or, Bool.or_false, Bool.false_or, decide_not, Bool.not_true, Bool.not_false, or_true, true_or, or_false, false_or, or_self, and_self, decide_eq_true_eq]
theorem ca_thinks {g : gG} {n k : Nat} (V : Sv g 6 (gA g 207) n k) (R : Rv g n k) (x y : Int32) : ∃ r v t, fX11_thinks 0 x y (gH g) = some r ∧ fX12_thinks 206 x y (gH g) = some (v, gH (sF g 206 0 t)) ∧ Ag r v t [eIx, eAr] := by
  have W := V
  obtain ⟨hx, hn, h10, hk, h12, e3, e4, e5, e6, e7, e8, e11, e9, e10⟩ := W
  have R' := R
  obtain ⟨rn, _, rk, _⟩ := R'
  rcases inR_or (n := n) (x := x) (by omega) with e | ⟨i, hi, rfl⟩
  · refine ⟨.inr eIx, nI 0, nI 1, ?_, ?_, 0, by decide, rfl, rfl⟩
    · simp (disch := first | omega | assumption | exact isSt6 | exact isSt18 | exact isSt30) only [fX11_thinks, io_0, fr_0_1, fr_s15, ia_s9, ab_bd_some, ck_t, ck_T, cb_0, cb_1, ab_jn, if_true, if_false, cl_needTwo V, e, bx_r, reduceCtorEq, m1_ne, and_true, true_and, and_false, false_and, not_true_eq_false, not_false_eq_true, ne_eq, decide_true, decide_false, Bool.false_eq_true, ite_true, ite_false, if_true, if_false, Nat.add_zero, Bool.and_true, Bool.true_and, Bool.and_false, Bool.false_and, Bool.or_true, Bool.true_or, Bool.or_false, Bool.false_or, decide_not, Bool.not_true, Bool.not_false, or_true, true_or, or_false, false_or, or_self, and_self, decide_eq_true_eq]
    · simp (disch := first | omega | assumption | exact isSt6 | exact isSt18 | exact isSt30) only [fX12_thinks, io_206, fw_206_0, fi_206_0, ab_bd_some, ck_t, ck_T, cb_0, cb_1, ab_jn, if_true, if_false, rf_two R, e, gF_sF1, upd_1, nI10, reduceCtorEq, m1_ne, and_true, true_and, and_false, false_and, not_true_eq_false, not_false_eq_true, ne_eq, decide_true, decide_false, Bool.false_eq_true, ite_true, ite_false, if_true, if_false, Nat.add_zero, Bool.and_true, Bool.true_and, Bool.and_false, Bool.false_and, Bool.or_true, Bool.true_or, Bool.or_false, Bool.false_or, decide_not, Bool.not_true, Bool.not_false, or_true, true_or, or_false, false_or, or_self, and_self, decide_eq_true_eq]
  have ei := inR_of hi (show n < 2 ^ 31 by omega)
  rcases inR_or (n := n) (x := y) (by omega) with e | ⟨j, hj, rfl⟩
  · refine ⟨.inr eIx, nI 0, nI 1, ?_, ?_, 0, by decide, rfl, rfl⟩
    · simp (disch := first | omega | assumption | exact isSt6 | exact isSt18 | exact isSt30) only [fX11_thinks, io_0, fr_0_1, fr_s15, ia_s9, ab_bd_some, ck_t, ck_T, cb_0, cb_1, ab_jn, if_true, if_false, cl_needTwo V, e, ei, bx_r, reduceCtorEq, m1_ne, and_true, true_and, and_false, false_and, not_true_eq_false, not_false_eq_true, ne_eq, decide_true, decide_false, Bool.false_eq_true, ite_true, ite_false, if_true, if_false, Nat.add_zero, Bool.and_true, Bool.true_and, Bool.and_false, Bool.false_and, Bool.or_true, Bool.true_or, Bool.or_false, Bool.false_or, decide_not, Bool.not_true, Bool.not_false, or_true, true_or, or_false, false_or, or_self, and_self, decide_eq_true_eq]
    · simp (disch := first | omega | assumption | exact isSt6 | exact isSt18 | exact isSt30) only [fX12_thinks, io_206, fw_206_0, fi_206_0, ab_bd_some, ck_t, ck_T, cb_0, cb_1, ab_jn, if_true, if_false, rf_two R, e, ei, gF_sF1, upd_1, nI10, reduceCtorEq, m1_ne, and_true, true_and, and_false, false_and, not_true_eq_false, not_false_eq_true, ne_eq, decide_true, decide_false, Bool.false_eq_true, ite_true, ite_false, if_true, if_false, Nat.add_zero, Bool.and_true, Bool.true_and, Bool.and_false, Bool.false_and, Bool.or_true, Bool.true_or, Bool.or_false, Bool.false_or, decide_not, Bool.not_true, Bool.not_false, or_true, true_or, or_false, false_or, or_self, and_self, decide_eq_true_eq]
  have ej := inR_of hj (show n < 2 ^ 31 by omega)
  by_cases c : i = j
  · refine ⟨.inr eAr, nI 0, nI 2, ?_, ?_, 1, by decide, rfl, rfl⟩
    · simp (disch := first | omega | assumption | exact isSt6 | exact isSt18 | exact isSt30) only [fX11_thinks, io_0, fr_0_1, fr_s15, ia_s9, ab_bd_some, ck_t, ck_T, cb_0, cb_1, ab_jn, if_true, if_false, cl_needTwo V, ei, ej, c, bx_r, nI_add, pk_mul, nI_ltI, nI_leI, nI_eq, reduceCtorEq, m1_ne, and_true, true_and, and_false, false_and, not_true_eq_false, not_false_eq_true, ne_eq, decide_true, decide_false, Bool.false_eq_true, ite_true, ite_false, if_true, if_false, Nat.add_zero, Bool.and_true, Bool.true_and, Bool.and_false, Bool.false_and, Bool.or_true, Bool.true_or, Bool.or_false, Bool.false_or, decide_not, Bool.not_true, Bool.not_false, or_true, true_or, or_false, false_or, or_self, and_self, decide_eq_true_eq]
    · simp (disch := first | omega | assumption | exact isSt6 | exact isSt18 | exact isSt30) only [fX12_thinks, io_206, fw_206_0, fi_206_0, ab_bd_some, ck_t, ck_T, cb_0, cb_1, ab_jn, if_true, if_false, rf_two R, ei, ej, c, gF_sF1, upd_1, nI20, nI_add, pk_mul, nI_ltI, nI_leI, nI_eq, reduceCtorEq, m1_ne, and_true, true_and, and_false, false_and, not_true_eq_false, not_false_eq_true, ne_eq, decide_true, decide_false, Bool.false_eq_true, ite_true, ite_false, if_true, if_false, Nat.add_zero, Bool.and_true, Bool.true_and, Bool.and_false, Bool.false_and, Bool.or_true, Bool.true_or, Bool.or_false, Bool.false_or, decide_not, Bool.not_true, Bool.not_false, or_true, true_or, or_false, false_or, or_self, and_self, decide_eq_true_eq]
  · refine ⟨.inl (gA g 207 (172 + 10 * i + j)), gA g 207 (172 + 10 * i + j), nI 0, ?_, ?_, rfl, rfl⟩
    · simp (disch := first | omega | assumption | exact isSt6 | exact isSt18 | exact isSt30) only [fX11_thinks, io_0, fr_0_1, fr_s15, ia_s9, ab_bd_some, ck_t, ck_T, cb_0, cb_1, ab_jn, if_true, if_false, fr_s15 g isSt6, ia_s9 g isSt6, cl_needTwo V, ei, ej, c, e9, bx_l, nI_add, pk_mul, nI_ltI, nI_leI, nI_eq, reduceCtorEq, m1_ne, and_true, true_and, and_false, false_and, not_true_eq_false, not_false_eq_true, ne_eq, decide_true, decide_false, Bool.false_eq_true, ite_true, ite_false, if_true, if_false, Nat.add_zero, Bool.and_true, Bool.true_and, Bool.and_false, Bool.false_and, Bool.or_true, Bool.true_or, Bool.or_false, Bool.false_or, decide_not, Bool.not_true, Bool.not_false, or_true, true_or, or_false, false_or, or_self, and_self, decide_eq_true_eq]
    · simp (disch := first | omega | assumption | exact isSt6 | exact isSt18 | exact isSt30) only [fX12_thinks, io_206, fw_206_0, fi_206_0, ab_bd_some, ck_t, ck_T, cb_0, cb_1, ab_jn, if_true, if_false, fX12_thought, fr_206_1, ia_207, rf_two R, ei, ej, c, gF_sF1, upd_1, nI00, gA_sF, nI_add, pk_mul, nI_ltI, nI_leI, nI_eq, reduceCtorEq, m1_ne, and_true, true_and, and_false, false_and, not_true_eq_false, not_false_eq_true, ne_eq, decide_true, decide_false, Bool.false_eq_true, ite_true, ite_false, if_true, if_false, Nat.add_zero, Bool.and_true, Bool.true_and, Bool.and_false, Bool.false_and, Bool.or_true, Bool.true_or, Bool.or_false, Bool.false_or, decide_not, Bool.not_true, Bool.not_false, or_true, true_or, or_false, false_or, or_self, and_self, decide_eq_true_eq]
