variable {Nq : Nat}
/-! ===== rounds of trade ===== -/
def lo (n : Nat) (x : Int32) : Nat := fa_first (bt x) n
def wk (m : Nat → Int32) (n : Nat) (x : Int32) : Nat → Nat
  | 0 => lo n x
  | i + 1 => ptN m n (bt x) (wk m n x i)
def qq (m : Nat → Int32) (n : Nat) (x : Int32) (j : Nat) : Nat := wk m n x (10 + j)
def lv (m : Nat → Int32) (n : Nat) (x : Int32) : Nat → Int32 := it (fun j a => a ||| nI (2 ^ qq m n x j)) (nI 0)
def lvT (m : Nat → Int32) (n : Nat) (x : Int32) : Nat := fa_first (fun j => bt (lv m n x j) (qq m n x j)) 11
def lvs (m : Nat → Int32) (n : Nat) (x : Int32) : Int32 := lv m n x (lvT m n x)
def gj (m : Nat → Int32) (n : Nat) (x : Int32) (G : Nat → Int32) (j : Nat) : Nat → Int32 := fun b => if exB (fun i => decide (qq m n x i = b)) j = true then m (12 + 6 * ptN m n (bt x) b + 2) else G b
def gv (m : Nat → Int32) (n : Nat) (x : Int32) (G : Nat → Int32) : Nat → Int32 := gj m n x G (lvT m n x)
/-- a set that isn't empty, of wearers below n -/
def Wx (m : Nat → Int32) (n : Nat) (x : Int32) : Prop := Ws m n (bt x) ∧ (∃ o, o < n ∧ bt x o = true) ∧ ∀ p, p < n → Am m n (bt x) p (ptN m n (bt x) p)
theorem lo_in {m : Nat → Int32} {n : Nat} {x : Int32} (W : Wx m n x) : lo n x < n ∧ bt x (lo n x) = true ∧ ∀ b, b < lo n x → bt x b = false := by
  obtain ⟨o, ho, hb⟩ := W.2.1
  have hl : lo n x < n := by
    apply Decidable.byContradiction
    intro hl
    have := fa_first_no (bt x) n o (by unfold lo at hl; omega)
    rw [hb] at this; cases this
  exact ⟨hl, fa_first_yes (bt x) n hl, fun b hb => fa_first_no (bt x) n b hb⟩
theorem wk_in {m : Nat → Int32} {n : Nat} {x : Int32} (W : Wx m n x) : ∀ i, wk m n x i < n ∧ bt x (wk m n x i) = true
  | 0 => ⟨(lo_in W).1, (lo_in W).2.1⟩
  | i + 1 => by
    have := W.2.2 (wk m n x i) (wk_in W i).1
    exact ⟨this.1, this.2.1⟩
theorem qq_in {m : Nat → Int32} {n : Nat} {x : Int32} (W : Wx m n x) (j : Nat) : qq m n x j < n ∧ bt x (qq m n x j) = true := wk_in W (10 + j)
theorem qq_S (m : Nat → Int32) (n : Nat) (x : Int32) (j : Nat) : qq m n x (j + 1) = ptN m n (bt x) (qq m n x j) := rfl
theorem lv_S (m : Nat → Int32) (n : Nat) (x : Int32) (j : Nat) : lv m n x (j + 1) = lv m n x j ||| nI (2 ^ qq m n x j) := rfl
theorem lv_bt {m : Nat → Int32} {n : Nat} {x : Int32} (W : Wx m n x) {b : Nat} (hb : b < 32) : ∀ j, bt (lv m n x j) b = exB (fun i => decide (qq m n x i = b)) j
  | 0 => by rw [exB_0]; show bt (nI 0) b = false; rw [nI_0, b_0]
  | j + 1 => by
    have := (qq_in W j).1
    have h10 := W.1.1
    rw [lv_S, b_or, lv_bt W hb j, exB_S, bt_nI' hb, Nat.testBit_two_pow]
theorem lvT_ex {m : Nat → Int32} {n : Nat} {x : Int32} (W : Wx m n x) : ∃ j, j < 11 ∧ bt (lv m n x j) (qq m n x j) = true := by
  have h10 := W.1.1
  obtain ⟨i, j, hij, hj, e⟩ := fb_twice (m := n) (n := 11) (f := fun j => qq m n x j) (fun i _ => (qq_in W i).1) (by omega)
  refine ⟨j, hj, ?_⟩
  rw [lv_bt W (by have := (qq_in W j).1; omega)]
  exact exB_t.mpr ⟨i, hij, decide_eq_true e⟩
theorem lvT_ok {m : Nat → Int32} {n : Nat} {x : Int32} (W : Wx m n x) : lvT m n x < 11 ∧ 0 < lvT m n x ∧ bt (lv m n x (lvT m n x)) (qq m n x (lvT m n x)) = true ∧ ∀ j, j < lvT m n x → bt (lv m n x j) (qq m n x j) = false := by
  obtain ⟨j, hj, hb⟩ := lvT_ex W
  have hl : lvT m n x ≤ j := by
    apply Decidable.byContradiction
    intro hl
    have := fa_first_no (fun j => bt (lv m n x j) (qq m n x j)) 11 j (by unfold lvT at hl; omega)
    rw [hb] at this; cases this
  have hy := fa_first_yes (fun j => bt (lv m n x j) (qq m n x j)) 11 (show lvT m n x < 11 by omega)
  refine ⟨by omega, ?_, hy, fun j hj => fa_first_no (fun j => bt (lv m n x j) (qq m n x j)) 11 j hj⟩
  apply Decidable.byContradiction
  intro h0
  have e : lvT m n x = 0 := by omega
  have hy : bt (lv m n x (lvT m n x)) (qq m n x (lvT m n x)) = true := hy
  rw [e] at hy
  have : bt (nI 0) (qq m n x 0) = true := hy
  rw [nI_0, b_0] at this; cases this
theorem gj_S {m : Nat → Int32} {n : Nat} {x : Int32} (G : Nat → Int32) (j : Nat) : upd (gj m n x G j) (qq m n x j) (m (12 + 6 * ptN m n (bt x) (qq m n x j) + 2)) = gj m n x G (j + 1) := by
  funext b
  rw [upd_e]
  unfold gj
  rw [exB_S]
  by_cases c : b = qq m n x j
  · subst c
    rw [if_pos rfl]
    simp
  · rw [if_neg c, decide_eq_false (fun e => c e.symm), Bool.or_false]
theorem gj_0 {m : Nat → Int32} {n : Nat} {x : Int32} (G : Nat → Int32) : gj m n x G 0 = G := by
  funext b; unfold gj; rw [exB_0]; rfl
theorem rl_tr53 (g : gG) {m : Nat → Int32} {n : Nat} {x : Int32} (W : Wx m n x) (K : Int32 → Option ab_H) {F : Nat} (hF : 11000 < F) : fX12_trades_53 F 206 x (gH g) K F (nI 0) = K (nI (lo n x)) := by
  obtain ⟨h1, h2, h3⟩ := lo_in W
  have h10 := W.1.1
  refine lp0 (L := fun F' i (_ : Unit) => fX12_trades_53 F 206 x (gH g) K F' i) (n := lo n x) (fun _ => ()) _ ?_ ?_ F (by omega)
  · intro F' i hi
    have := h3 i hi
    simp (disch := omega) only [fX12_trades_53, bdS, ck_t, ck_T, cb_0, cb_1, ab_jn, if_true, if_false, rf_isOfX, this, bI_0, nI_add, pk_mul, nI_ltI, nI_leI, nI_eq, reduceCtorEq, m1_ne, and_true, true_and, and_false, false_and, not_true_eq_false, not_false_eq_true, ne_eq, decide_true, decide_false, Bool.false_eq_true, ite_true, ite_false, if_true, if_false, Nat.add_zero, Bool.and_true, Bool.true_and, Bool.and_false, Bool.false_and, Bool.or_true, Bool.true_or, Bool.or_false, Bool.false_or, decide_not, Bool.not_true, Bool.not_false, or_true, true_or, or_false, false_or, or_self, and_self, decide_eq_true_eq]
  · intro F'
    simp (disch := omega) only [fX12_trades_53, bdS, ck_t, ck_T, cb_0, cb_1, ab_jn, if_true, if_false, rf_isOfX, h2, bI_0, nI_add, pk_mul, nI_ltI, nI_leI, nI_eq, reduceCtorEq, m1_ne, and_true, true_and, and_false, false_and, not_true_eq_false, not_false_eq_true, ne_eq, decide_true, decide_false, Bool.false_eq_true, ite_true, ite_false, if_true, if_false, Nat.add_zero, Bool.and_true, Bool.true_and, Bool.and_false, Bool.false_and, Bool.or_true, Bool.true_or, Bool.or_false, Bool.false_or, decide_not, Bool.not_true, Bool.not_false, or_true, true_or, or_false, false_or, or_self, and_self, decide_eq_true_eq]
theorem rl_tr69 (g : gG) {n : Nat} (hn : gA g 207 3 = nI n) (h10 : n ≤ 10) {F : Nat} (hF : 11000 < F) {x : Int32} (W : Wx (gA g 207) n x) (K : Int32 → Option ab_H) : fX12_trades_69 F 206 x (gH g) K F (nI (lo n x)) (nI 0) = K (nI (wk (gA g 207) n x 10)) := by
  refine lp0 (L := fun F' i (a : Int32) => fX12_trades_69 F 206 x (gH g) K F' a i) (n := 10) (fun i => nI (wk (gA g 207) n x i)) _ ?_ ?_ F (by omega)
  · intro F' i hi
    have pt := (rf_pt g hn h10 hF x W.1 (wk_in W i).1 W.2.1).1
    simp (disch := omega) only [fX12_trades_69, io_206, bdS, ck_t, ck_T, cb_0, cb_1, ab_jn, if_true, if_false, hi, pt, wk, nI_add, pk_mul, nI_ltI, nI_leI, nI_eq, reduceCtorEq, m1_ne, and_true, true_and, and_false, false_and, not_true_eq_false, not_false_eq_true, ne_eq, decide_true, decide_false, Bool.false_eq_true, ite_true, ite_false, if_true, if_false, Nat.add_zero, Bool.and_true, Bool.true_and, Bool.and_false, Bool.false_and, Bool.or_true, Bool.true_or, Bool.or_false, Bool.false_or, decide_not, Bool.not_true, Bool.not_false, or_true, true_or, or_false, false_or, or_self, and_self, decide_eq_true_eq]
  · intro F'
    simp (disch := omega) only [fX12_trades_69, io_206, bdS, ck_t, ck_T, cb_0, cb_1, ab_jn, if_true, if_false, Nat.lt_irrefl, nI_add, pk_mul, nI_ltI, nI_leI, nI_eq, reduceCtorEq, m1_ne, and_true, true_and, and_false, false_and, not_true_eq_false, not_false_eq_true, ne_eq, decide_true, decide_false, Bool.false_eq_true, ite_true, ite_false, if_true, if_false, Nat.add_zero, Bool.and_true, Bool.true_and, Bool.and_false, Bool.false_and, Bool.or_true, Bool.true_or, Bool.or_false, Bool.false_or, decide_not, Bool.not_true, Bool.not_false, or_true, true_or, or_false, false_or, or_self, and_self, decide_eq_true_eq]
theorem rl_tr93 (g : gG) {n : Nat} (hn : gA g 207 3 = nI n) (h10 : n ≤ 10) {F : Nat} (hF : 11000 < F) {x : Int32} (W : Wx (gA g 207) n x) (K : Int32 → ab_H → Option ab_H) : fX12_trades_93 F 206 x K F (nI (wk (gA g 207) n x 10)) (nI 0) (gH g) = K (lvs (gA g 207) n x) (gH (sA g 216 (gv (gA g 207) n x (gA g 216)))) := by
  obtain ⟨t1, t2, t3, t4⟩ := lvT_ok W
  have e7 : ¬ (207 = 216) := by omega
  have h0 := lpx (L := fun F' _ (a : Int32 × Int32 × gG) => fX12_trades_93 F 206 x K F' a.1 a.2.1 (gH a.2.2)) (n := 11) (fun j => (nI (qq (gA g 207) n x j), lv (gA g 207) n x j, sA g 216 (gj (gA g 207) n x (gA g 216) j))) (fun j => bt (lv (gA g 207) n x j) (qq (gA g 207) n x j) = true) (K (lvs (gA g 207) n x) (gH (sA g 216 (gv (gA g 207) n x (gA g 216))))) ?_ ?_ ?_ F (by omega)
  · rw [gj_0, sA_id] at h0; exact h0
  · intro F' j hj _ hE
    have hf : bt (lv (gA g 207) n x j) (qq (gA g 207) n x j) = false := by simpa using hE
    have q := qq_in W j
    have q1 := qq_in W (j + 1)
    have m1 : gA (sA g 216 (gj (gA g 207) n x (gA g 216) j)) 207 = gA g 207 := gA_sA2 _ _ e7
    have m2 : gA (sA g 216 (gj (gA g 207) n x (gA g 216) (j + 1))) 207 = gA g 207 := gA_sA2 _ _ e7
    have p1 := (rf_pt (sA g 216 (gj (gA g 207) n x (gA g 216) j)) (by rw [m1]; exact hn) h10 hF x (by rw [m1]; exact W.1) q.1 W.2.1).1
    have p2 := (rf_pt (sA g 216 (gj (gA g 207) n x (gA g 216) (j + 1))) (by rw [m2]; exact hn) h10 hF x (by rw [m2]; exact W.1) q.1 W.2.1).1
    rw [m1] at p1
    rw [m2] at p2
    have qs := q1.1
    rw [qq_S] at qs
    have gs := gj_S (m := gA g 207) (n := n) (x := x) (gA g 216) j
    rw [lv_S, qq_S]
    simp (disch := omega) only [fX12_trades_93, io_206, fr_206_23, iw_216, bdS, ck_t, ck_T, cb_0, cb_1, ab_jn, if_true, if_false, rf_isOfX, hf, bI_0, p1, rf_of, m1, gA_sA1, sA_sA, gs, p2, sh1, reduceCtorEq, m1_ne, and_true, true_and, and_false, false_and, not_true_eq_false, not_false_eq_true, ne_eq, decide_true, decide_false, Bool.false_eq_true, ite_true, ite_false, if_true, if_false, Nat.add_zero, Bool.and_true, Bool.true_and, Bool.and_false, Bool.false_and, Bool.or_true, Bool.true_or, Bool.or_false, Bool.false_or, decide_not, Bool.not_true, Bool.not_false, or_true, true_or, or_false, false_or, or_self, and_self, decide_eq_true_eq]
  · intro F' j hj hno hE
    have hT : lvT (gA g 207) n x = j := by
      rcases Nat.lt_trichotomy (lvT (gA g 207) n x) j with h | h | h
      · exact absurd t3 (hno _ h)
      · exact h
      · have := t4 j h; rw [hE] at this; cases this
    have q := qq_in W j
    unfold lvs gv
    rw [hT]
    simp (disch := omega) only [fX12_trades_93, io_206, fr_206_23, iw_216, bdS, ck_t, ck_T, cb_0, cb_1, ab_jn, if_true, if_false, rf_isOfX, hE, bI_0, reduceCtorEq, m1_ne, and_true, true_and, and_false, false_and, not_true_eq_false, not_false_eq_true, ne_eq, decide_true, decide_false, Bool.false_eq_true, ite_true, ite_false, if_true, if_false, Nat.add_zero, Bool.and_true, Bool.true_and, Bool.and_false, Bool.false_and, Bool.or_true, Bool.true_or, Bool.or_false, Bool.false_or, decide_not, Bool.not_true, Bool.not_false, or_true, true_or, or_false, false_or, or_self, and_self, decide_eq_true_eq]
  · intro F' hno
    exact absurd t3 (hno _ t1)
