variable {Nq : Nat}
/-! ===== calls: change, shave, graft ===== -/
theorem Iw.cg {m m' : Nat → Int32} {n k : Nat} (I : Iw m n k) (hw : ∀ q, q < n → m' (12 + 6 * q + 2) = m (12 + 6 * q + 2)) (hu : ∀ i, i < 12 → m' (272 + i) = m (272 + i)) (ht : ∀ q, q < n → m' (12 + 6 * q + 3) = m (12 + 6 * q + 3)) : Iw m' n k := Iw.mk (m := m) _ _ _ hw hu ht I.1 I.2.1 I.2.2.1 I.2.2.2.1 I.2.2.2.2.1 I.2.2.2.2.2
theorem SC.iw {g : gG} {x : Nat} {m : Nat → Int32} {n k : Nat} (S : SC g x m n k) {r p a : Nat} (ha : a = x + (3 + r)) (hr : r < 6) (hp : p < n) (v : Int32) : ∃ g1, ab_iw 0 (gH g) a (nI p) v = some (gH g1) ∧ Fs g g1 x ∧ SC g1 x (upd m (12 + 6 * p + r) v) n k := by
  subst ha
  have h10 := S.n10
  have hx := S.st
  refine ⟨_, ?_, Fs_A (by omega), S.per hr hp v⟩
  have : r = 0 ∨ r = 1 ∨ r = 2 ∨ r = 3 ∨ r = 4 ∨ r = 5 := by omega
  rcases this with rfl | rfl | rfl | rfl | rfl | rfl
  · exact iw_s3 g v hx (by omega)
  · exact iw_s4 g v hx (by omega)
  · exact iw_s5 g v hx (by omega)
  · exact iw_s6 g v hx (by omega)
  · exact iw_s7 g v hx (by omega)
  · exact iw_s8 g v hx (by omega)
def chgM (m : Nat → Int32) (p o : Nat) : Nat → Int32 := upd (upd m (12 + 6 * p + 2) (m (12 + 6 * o + 2))) (12 + 6 * o + 2) (m (12 + 6 * p + 2))
theorem ca_change {g : gG} (R : RE Nq g) (x y : Int32) {F : Nat} (hF : 11000 < F) : Ca Nq (fX11_change 0 x y (gH g)) (fun g1 => fX12_change F 206 x y (gH g1)) [eIx, eAr, eSt] := by
  have R0 := R
  obtain ⟨n, k, s, f, R⟩ := R
  have S := R.1
  have V := S.1
  obtain ⟨rn, h10, rk, h12⟩ := R.rv
  have W := V
  obtain ⟨hx, hn, _, hk, _, e3, e4, e5, e6, e7, e8, e11, e9, e10⟩ := W
  have hs : s ≤ 12 := R.2.1.1
  rcases two_cases h10 x y with (e | ⟨e, e'⟩) | ⟨p, o, hp, ho, rfl, rfl, ep, eo⟩
  · refine Ca_thr R0 0 (by decide) rfl (v := nI 0) ?_ ?_
    · simp (disch := first | omega | assumption | exact isSt6 | exact isSt18 | exact isSt30) only [fX11_change, io_0, io_42, fr_0_1, fr_s11, ia_s5, iw_s5, fr_0_4, bdS, ck_t, ck_T, cb_0, cb_1, ab_jn, if_true, if_false, cl_needTwo V, e, bx_r, reduceCtorEq, m1_ne, and_true, true_and, and_false, false_and, not_true_eq_false, not_false_eq_true, ne_eq, decide_true, decide_false, Bool.false_eq_true, ite_true, ite_false, if_true, if_false, Nat.add_zero, Bool.and_true, Bool.true_and, Bool.and_false, Bool.false_and, Bool.or_true, Bool.true_or, Bool.or_false, Bool.false_or, decide_not, Bool.not_true, Bool.not_false, or_true, true_or, or_false, false_or, or_self, and_self, decide_eq_true_eq]
    · simp (disch := first | omega | assumption | exact isSt6 | exact isSt18 | exact isSt30) only [fX12_change, io_206, fw_206_0, fi_206_0, bdS, ck_t, ck_T, cb_0, cb_1, ab_jn, if_true, if_false, rf_two R.rv, e, gF_sF1, upd_1, nI10, reduceCtorEq, m1_ne, and_true, true_and, and_false, false_and, not_true_eq_false, not_false_eq_true, ne_eq, decide_true, decide_false, Bool.false_eq_true, ite_true, ite_false, if_true, if_false, Nat.add_zero, Bool.and_true, Bool.true_and, Bool.and_false, Bool.false_and, Bool.or_true, Bool.true_or, Bool.or_false, Bool.false_or, decide_not, Bool.not_true, Bool.not_false, or_true, true_or, or_false, false_or, or_self, and_self, decide_eq_true_eq]
  · refine Ca_thr R0 0 (by decide) rfl (v := nI 0) ?_ ?_
    · simp (disch := first | omega | assumption | exact isSt6 | exact isSt18 | exact isSt30) only [fX11_change, io_0, io_42, fr_0_1, fr_s11, ia_s5, iw_s5, fr_0_4, bdS, ck_t, ck_T, cb_0, cb_1, ab_jn, if_true, if_false, cl_needTwo V, e, e', bx_r, reduceCtorEq, m1_ne, and_true, true_and, and_false, false_and, not_true_eq_false, not_false_eq_true, ne_eq, decide_true, decide_false, Bool.false_eq_true, ite_true, ite_false, if_true, if_false, Nat.add_zero, Bool.and_true, Bool.true_and, Bool.and_false, Bool.false_and, Bool.or_true, Bool.true_or, Bool.or_false, Bool.false_or, decide_not, Bool.not_true, Bool.not_false, or_true, true_or, or_false, false_or, or_self, and_self, decide_eq_true_eq]
    · simp (disch := first | omega | assumption | exact isSt6 | exact isSt18 | exact isSt30) only [fX12_change, io_206, fw_206_0, fi_206_0, bdS, ck_t, ck_T, cb_0, cb_1, ab_jn, if_true, if_false, rf_two R.rv, e, e', gF_sF1, upd_1, nI10, reduceCtorEq, m1_ne, and_true, true_and, and_false, false_and, not_true_eq_false, not_false_eq_true, ne_eq, decide_true, decide_false, Bool.false_eq_true, ite_true, ite_false, if_true, if_false, Nat.add_zero, Bool.and_true, Bool.true_and, Bool.and_false, Bool.false_and, Bool.or_true, Bool.true_or, Bool.or_false, Bool.false_or, decide_not, Bool.not_true, Bool.not_false, or_true, true_or, or_false, false_or, or_self, and_self, decide_eq_true_eq]
  by_cases c : p = o
  · refine Ca_thr R0 1 (by decide) rfl (v := nI 0) ?_ ?_
    · simp (disch := first | omega | assumption | exact isSt6 | exact isSt18 | exact isSt30) only [fX11_change, io_0, io_42, fr_0_1, fr_s11, ia_s5, iw_s5, fr_0_4, bdS, ck_t, ck_T, cb_0, cb_1, ab_jn, if_true, if_false, cl_needTwo V, ep, eo, c, bx_r, nI_add, pk_mul, nI_ltI, nI_leI, nI_eq, reduceCtorEq, m1_ne, and_true, true_and, and_false, false_and, not_true_eq_false, not_false_eq_true, ne_eq, decide_true, decide_false, Bool.false_eq_true, ite_true, ite_false, if_true, if_false, Nat.add_zero, Bool.and_true, Bool.true_and, Bool.and_false, Bool.false_and, Bool.or_true, Bool.true_or, Bool.or_false, Bool.false_or, decide_not, Bool.not_true, Bool.not_false, or_true, true_or, or_false, false_or, or_self, and_self, decide_eq_true_eq]
    · simp (disch := first | omega | assumption | exact isSt6 | exact isSt18 | exact isSt30) only [fX12_change, io_206, fw_206_0, fi_206_0, bdS, ck_t, ck_T, cb_0, cb_1, ab_jn, if_true, if_false, rf_two R.rv, ep, eo, c, gF_sF1, upd_1, nI20, nI_add, pk_mul, nI_ltI, nI_leI, nI_eq, reduceCtorEq, m1_ne, and_true, true_and, and_false, false_and, not_true_eq_false, not_false_eq_true, ne_eq, decide_true, decide_false, Bool.false_eq_true, ite_true, ite_false, if_true, if_false, Nat.add_zero, Bool.and_true, Bool.true_and, Bool.and_false, Bool.false_and, Bool.or_true, Bool.true_or, Bool.or_false, Bool.false_or, decide_not, Bool.not_true, Bool.not_false, or_true, true_or, or_false, false_or, or_self, and_self, decide_eq_true_eq]
  have q5 := e5 p hp
  have q5' := e5 o ho
  by_cases c1 : gA g 207 (12 + 6 * p + 2) = -1
  · refine Ca_thr R0 2 (by decide) rfl (v := nI 0) ?_ ?_
    · simp (disch := first | omega | assumption | exact isSt6 | exact isSt18 | exact isSt30) only [fX11_change, io_0, io_42, fr_0_1, fr_s11, ia_s5, iw_s5, fr_0_4, bdS, ck_t, ck_T, cb_0, cb_1, ab_jn, if_true, if_false, cl_needTwo V, ep, eo, c, bx_l, fr_s11, ia_s5, q5, c1, nI_add, pk_mul, nI_ltI, nI_leI, nI_eq, reduceCtorEq, m1_ne, and_true, true_and, and_false, false_and, not_true_eq_false, not_false_eq_true, ne_eq, decide_true, decide_false, Bool.false_eq_true, ite_true, ite_false, if_true, if_false, Nat.add_zero, Bool.and_true, Bool.true_and, Bool.and_false, Bool.false_and, Bool.or_true, Bool.true_or, Bool.or_false, Bool.false_or, decide_not, Bool.not_true, Bool.not_false, or_true, true_or, or_false, false_or, or_self, and_self, decide_eq_true_eq]; rfl
    · simp (disch := first | omega | assumption | exact isSt6 | exact isSt18 | exact isSt30) only [fX12_change, io_206, fw_206_0, fi_206_0, bdS, ck_t, ck_T, cb_0, cb_1, ab_jn, if_true, if_false, rf_two R.rv, ep, eo, c, rf_of, c1, gF_sF1, upd_1, nI00, nI30, nI_add, pk_mul, nI_ltI, nI_leI, nI_eq, reduceCtorEq, m1_ne, and_true, true_and, and_false, false_and, not_true_eq_false, not_false_eq_true, ne_eq, decide_true, decide_false, Bool.false_eq_true, ite_true, ite_false, if_true, if_false, Nat.add_zero, Bool.and_true, Bool.true_and, Bool.and_false, Bool.false_and, Bool.or_true, Bool.true_or, Bool.or_false, Bool.false_or, decide_not, Bool.not_true, Bool.not_false, or_true, true_or, or_false, false_or, or_self, and_self, decide_eq_true_eq]
  by_cases c2 : gA g 207 (12 + 6 * o + 2) = -1
  · refine Ca_thr R0 2 (by decide) rfl (v := nI 0) ?_ ?_
    · simp (disch := first | omega | assumption | exact isSt6 | exact isSt18 | exact isSt30) only [fX11_change, io_0, io_42, fr_0_1, fr_s11, ia_s5, iw_s5, fr_0_4, bdS, ck_t, ck_T, cb_0, cb_1, ab_jn, if_true, if_false, cl_needTwo V, ep, eo, c, bx_l, fr_s11, ia_s5, q5, q5', c1, c2, nI_add, pk_mul, nI_ltI, nI_leI, nI_eq, reduceCtorEq, m1_ne, and_true, true_and, and_false, false_and, not_true_eq_false, not_false_eq_true, ne_eq, decide_true, decide_false, Bool.false_eq_true, ite_true, ite_false, if_true, if_false, Nat.add_zero, Bool.and_true, Bool.true_and, Bool.and_false, Bool.false_and, Bool.or_true, Bool.true_or, Bool.or_false, Bool.false_or, decide_not, Bool.not_true, Bool.not_false, or_true, true_or, or_false, false_or, or_self, and_self, decide_eq_true_eq]; rfl
    · simp (disch := first | omega | assumption | exact isSt6 | exact isSt18 | exact isSt30) only [fX12_change, io_206, fw_206_0, fi_206_0, bdS, ck_t, ck_T, cb_0, cb_1, ab_jn, if_true, if_false, rf_two R.rv, ep, eo, c, rf_of, c1, c2, gF_sF1, upd_1, nI00, nI30, nI_add, pk_mul, nI_ltI, nI_leI, nI_eq, reduceCtorEq, m1_ne, and_true, true_and, and_false, false_and, not_true_eq_false, not_false_eq_true, ne_eq, decide_true, decide_false, Bool.false_eq_true, ite_true, ite_false, if_true, if_false, Nat.add_zero, Bool.and_true, Bool.true_and, Bool.and_false, Bool.false_and, Bool.or_true, Bool.true_or, Bool.or_false, Bool.false_or, decide_not, Bool.not_true, Bool.not_false, or_true, true_or, or_false, false_or, or_self, and_self, decide_eq_true_eq]
  obtain ⟨gk, d1, Sk, d2, d3, d4, d5⟩ := R.kept
  have k5 := Sk.1.2.2.2.2.2.2.2.1 p hp
  have k5' := Sk.1.2.2.2.2.2.2.2.1 o ho
  obtain ⟨g0, a1, a2, a3⟩ := Sk.c.iw (r := 2) (a := 6 + 5) rfl (by decide) hp (gA g 207 (12 + 6 * o + 2))
  obtain ⟨g1, a4, a5, a6⟩ := a3.iw (r := 2) (a := 6 + 5) rfl (by decide) ho (gA g 207 (12 + 6 * p + 2))
  have z5 := a6.1.2.2.2.2.2.2.2.1 p hp
  have b2 : Fs gk g1 6 := Fs.trans a2 a5
  have b3 : SR g1 6 (chgM (gA g 207) p o) n k := a6.r (Iw.swap S.w (p := p) (o := o) hp ho (fun q hq => ?_) (fun i hi => ?_) (fun q hq => ?_)) (((S.i.u23 h10 (by omega) (Or.inl rfl)).u23 h10 (by omega) (Or.inl rfl)))
  · have m1 := b2.a207.trans d2
    have f6 := b2.f206.trans d3
    refine Ca_ok (g1 := g1) (g2 := sA (remG (sF g1 206 0 (nI 0)) s) 207 (chgM (gA g 207) p o)) (chgM (gA g 207) p o (12 + 6 * p + 2)) ?_ ?_ (rem_0 _ hs _ _) (d5 _ n k _ ?_ ?_ ?_ b2 b3)
    · unfold chgM
      simp (disch := first | omega | assumption | exact isSt6 | exact isSt18 | exact isSt30) only [fX11_change, io_0, io_42, fr_0_1, fr_s11, ia_s5, fr_0_4, bdS, ck_t, ck_T, cb_0, cb_1, ab_jn, if_true, if_false, cl_needTwo V, ep, eo, c, bx_l, fr_s11, ia_s5, io_s, q5, q5', c1, c2, d1, k5, k5', a1, a4, z5, nI_add, pk_mul, nI_ltI, nI_leI, nI_eq, reduceCtorEq, m1_ne, and_true, true_and, and_false, false_and, not_true_eq_false, not_false_eq_true, ne_eq, decide_true, decide_false, Bool.false_eq_true, ite_true, ite_false, if_true, if_false, Nat.add_zero, Bool.and_true, Bool.true_and, Bool.and_false, Bool.false_and, Bool.or_true, Bool.true_or, Bool.or_false, Bool.false_or, decide_not, Bool.not_true, Bool.not_false, or_true, true_or, or_false, false_or, or_self, and_self, decide_eq_true_eq]
    · have r1 := rf_rem (sF g1 206 0 (nI 0)) hs (by rw [gF_sF1, upd_2 _ _ (by omega), f6]; exact R.2.2.1) hF
      have r0 : gA (remG (sF g1 206 0 (nI 0)) s) 207 = gA g 207 := by rw [rem_207 _ hs, gA_sF, m1]
      have i1 := rf_two (g := g1) (n := n) (k := k) ⟨by rw [m1]; exact rn, h10, by rw [m1]; exact rk, h12⟩ (nI p) (nI o)
      unfold chgM
      simp (disch := first | omega | assumption | exact isSt6 | exact isSt18 | exact isSt30) only [fX12_change, io_206, fw_206_0, fi_206_0, bdS, ck_t, ck_T, cb_0, cb_1, ab_jn, if_true, if_false, i1, ep, eo, c, rf_of, rf_has, m1, c1, c2, gF_sF1, gA_sA1, sA_sA, upd_1, nI00, r1, r0, nI_add, pk_mul, nI_ltI, nI_leI, nI_eq, reduceCtorEq, m1_ne, and_true, true_and, and_false, false_and, not_true_eq_false, not_false_eq_true, ne_eq, decide_true, decide_false, Bool.false_eq_true, ite_true, ite_false, if_true, if_false, Nat.add_zero, Bool.and_true, Bool.true_and, Bool.and_false, Bool.false_and, Bool.or_true, Bool.true_or, Bool.or_false, Bool.false_or, decide_not, Bool.not_true, Bool.not_false, or_true, true_or, or_false, false_or, or_self, and_self, decide_eq_true_eq]
    · unfold chgM; rw [upd_2 _ _ (by omega), upd_2 _ _ (by omega)]
    · unfold chgM; rw [upd_2 _ _ (by omega), upd_2 _ _ (by omega)]
    · intro i hi; unfold chgM; rw [upd_2 _ _ (by omega), upd_2 _ _ (by omega)]
  · unfold tau
    rw [uPP _ _ (by decide) (by decide), uPP _ _ (by decide) (by decide)]
    by_cases c3 : q = o
    · rw [if_pos ⟨c3, rfl⟩, if_pos c3]
    · rw [if_neg (by omega), if_neg c3]
      by_cases c4 : q = p
      · rw [if_pos ⟨c4, rfl⟩, if_pos c4]
      · rw [if_neg (by omega), if_neg c4]
  · rw [uPH _ _ (by decide) (by omega), uPH _ _ (by decide) (by omega)]
  · rw [uPP _ _ (by decide) (by decide), if_neg (by omega), uPP _ _ (by decide) (by decide), if_neg (by omega)]
theorem Ix.u0 {m : Nat → Int32} {n p : Nat} {v : Int32} (I : Ix m n) (h10 : n ≤ 10) (hp : p < 10) (hv : nv v < 256) : Ix (upd m (12 + 6 * p) v) n := by
  obtain ⟨i1, i2, i3, i4, i5, i6⟩ := I
  refine ⟨fun q hq => ?_, fun q hq => ?_, fun q hq => ?_, fun q o hq ho => ?_, fun q o i hq ho hi => ?_, fun q o hq ho ho' => ?_⟩
  · rw [upd_e]
    by_cases c : 12 + 6 * q = 12 + 6 * p
    · rw [if_pos c]; exact hv
    · rw [if_neg c]; exact i1 q hq
  · rw [upd_2 _ _ (by omega)]; exact i2 q hq
  · rw [upd_2 _ _ (by omega)]; exact i3 q hq
  · rw [upd_2 _ _ (by omega)]; exact i4 q o hq ho
  · rw [upd_2 _ _ (by omega), upd_2 _ _ (by omega)]; exact i5 q o i hq ho hi
  · rw [upd_2 _ _ (by omega)]; exact i6 q o hq ho ho'
theorem Iw.u0 {m : Nat → Int32} {n k p : Nat} {v : Int32} (I : Iw m n k) (h10 : n ≤ 10) (hp : p < 10) : Iw (upd m (12 + 6 * p) v) n k := I.cg (fun q hq => upd_2 _ _ (by omega)) (fun i hi => upd_2 _ _ (by omega)) (fun q hq => upd_2 _ _ (by omega))
theorem inR_7 (x : Int32) : decide (¬ x < nI 0 ∧ x ≤ nI 7) = inR x 8 := isIn_in (n := 8) (by decide)
def shvV (v : Int32) (j : Nat) : Int32 := v &&& (nI (2 ^ j) ^^^ (-1))
theorem shvV_lt {v : Int32} {j : Nat} (h : nv v < 256) : nv (shvV v j) < 256 := nv_and h
theorem ca_shave {g : gG} (R : RE Nq g) (x y : Int32) {F : Nat} (hF : 11000 < F) : Ca Nq (fX11_shave 0 x y (gH g)) (fun g1 => fX12_shave F 206 x y (gH g1)) [eIx, eSt] := by
  have R0 := R
  obtain ⟨n, k, s, f, R⟩ := R
  have S := R.1
  have V := S.1
  obtain ⟨rn, h10, rk, h12⟩ := R.rv
  have W := V
  obtain ⟨hx, hn, _, hk, _, e3, e4, e5, e6, e7, e8, e11, e9, e10⟩ := W
  have hs : s ≤ 12 := R.2.1.1
  rcases inR_or (n := n) (x := x) (by omega) with e | ⟨p, hp, rfl⟩
  · refine Ca_thr R0 0 (by decide) rfl (v := nI 0) ?_ ?_
    · simp (disch := first | omega | assumption | exact isSt6 | exact isSt18 | exact isSt30) only [fX11_shave, io_0, io_42, fr_0_1, fr_s9, ia_s3, fr_0_4, bdS, ck_t, ck_T, cb_0, cb_1, ab_jn, if_true, if_false, cl_needPerson V, e, bx_r, reduceCtorEq, m1_ne, and_true, true_and, and_false, false_and, not_true_eq_false, not_false_eq_true, ne_eq, decide_true, decide_false, Bool.false_eq_true, ite_true, ite_false, if_true, if_false, Nat.add_zero, Bool.and_true, Bool.true_and, Bool.and_false, Bool.false_and, Bool.or_true, Bool.true_or, Bool.or_false, Bool.false_or, decide_not, Bool.not_true, Bool.not_false, or_true, true_or, or_false, false_or, or_self, and_self, decide_eq_true_eq]
    · simp (disch := first | omega | assumption | exact isSt6 | exact isSt18 | exact isSt30) only [fX12_shave, io_206, fw_206_0, fi_206_0, bdS, ck_t, ck_T, cb_0, cb_1, ab_jn, if_true, if_false, rf_isPerson g rn h10, e, bI_0, gF_sF1, upd_1, nI10, reduceCtorEq, m1_ne, and_true, true_and, and_false, false_and, not_true_eq_false, not_false_eq_true, ne_eq, decide_true, decide_false, Bool.false_eq_true, ite_true, ite_false, if_true, if_false, Nat.add_zero, Bool.and_true, Bool.true_and, Bool.and_false, Bool.false_and, Bool.or_true, Bool.true_or, Bool.or_false, Bool.false_or, decide_not, Bool.not_true, Bool.not_false, or_true, true_or, or_false, false_or, or_self, and_self, decide_eq_true_eq]
  have ep := inR_of hp (show n < 2 ^ 31 by omega)
  rcases inR_or (n := 8) (x := y) (by omega) with e | ⟨j, hj, rfl⟩
  · refine Ca_thr R0 0 (by decide) rfl (v := nI 0) ?_ ?_
    · simp (disch := first | omega | assumption | exact isSt6 | exact isSt18 | exact isSt30) only [fX11_shave, io_0, io_42, fr_0_1, fr_s9, ia_s3, fr_0_4, bdS, ck_t, ck_T, cb_0, cb_1, ab_jn, if_true, if_false, cl_needPerson V, cl_needMark, ep, e, bx_l, bx_r, reduceCtorEq, m1_ne, and_true, true_and, and_false, false_and, not_true_eq_false, not_false_eq_true, ne_eq, decide_true, decide_false, Bool.false_eq_true, ite_true, ite_false, if_true, if_false, Nat.add_zero, Bool.and_true, Bool.true_and, Bool.and_false, Bool.false_and, Bool.or_true, Bool.true_or, Bool.or_false, Bool.false_or, decide_not, Bool.not_true, Bool.not_false, or_true, true_or, or_false, false_or, or_self, and_self, decide_eq_true_eq]
    · simp (disch := first | omega | assumption | exact isSt6 | exact isSt18 | exact isSt30) only [fX12_shave, io_206, fw_206_0, fi_206_0, bdS, ck_t, ck_T, cb_0, cb_1, ab_jn, if_true, if_false, rf_isPerson g rn h10, rf_isIn, inR_7, ep, e, bI_0, gF_sF1, upd_1, nI10, reduceCtorEq, m1_ne, and_true, true_and, and_false, false_and, not_true_eq_false, not_false_eq_true, ne_eq, decide_true, decide_false, Bool.false_eq_true, ite_true, ite_false, if_true, if_false, Nat.add_zero, Bool.and_true, Bool.true_and, Bool.and_false, Bool.false_and, Bool.or_true, Bool.true_or, Bool.or_false, Bool.false_or, decide_not, Bool.not_true, Bool.not_false, or_true, true_or, or_false, false_or, or_self, and_self, decide_eq_true_eq]
  have ej := inR_of hj (show 8 < 2 ^ 31 by omega)
  have i7 : ∀ h, fX12_isIn (nI j) (nI 0) (nI 7) h = some (bI true) := fun h => by rw [rf_isIn, inR_7, ej]
  have q3 := e3 p hp
  have hb := S.i.1 p hp
  cases c : bt (gA g 207 (12 + 6 * p)) j
  · refine Ca_thr R0 1 (by decide) rfl (v := nI 0) ?_ ?_
    · simp (disch := first | omega | assumption | exact isSt6 | exact isSt18 | exact isSt30) only [fX11_shave, io_0, io_42, fr_0_1, fr_s9, ia_s3, fr_0_4, bdS, ck_t, ck_T, cb_0, cb_1, ab_jn, if_true, if_false, cl_needPerson V, cl_needMark, ep, ej, bx_l, fr_s9, ia_s3, q3, cl_hasX, c, bI_0, reduceCtorEq, m1_ne, and_true, true_and, and_false, false_and, not_true_eq_false, not_false_eq_true, ne_eq, decide_true, decide_false, Bool.false_eq_true, ite_true, ite_false, if_true, if_false, Nat.add_zero, Bool.and_true, Bool.true_and, Bool.and_false, Bool.false_and, Bool.or_true, Bool.true_or, Bool.or_false, Bool.false_or, decide_not, Bool.not_true, Bool.not_false, or_true, true_or, or_false, false_or, or_self, and_self, decide_eq_true_eq]; rfl
    · simp (disch := first | omega | assumption | exact isSt6 | exact isSt18 | exact isSt30) only [fX12_shave, io_206, fw_206_0, fi_206_0, bdS, ck_t, ck_T, cb_0, cb_1, ab_jn, if_true, if_false, rf_isPerson g rn h10, i7, ep, ej, bI_0, rf_of0, rf_isOfX, c, gF_sF1, upd_1, nI20, reduceCtorEq, m1_ne, and_true, true_and, and_false, false_and, not_true_eq_false, not_false_eq_true, ne_eq, decide_true, decide_false, Bool.false_eq_true, ite_true, ite_false, if_true, if_false, Nat.add_zero, Bool.and_true, Bool.true_and, Bool.and_false, Bool.false_and, Bool.or_true, Bool.true_or, Bool.or_false, Bool.false_or, decide_not, Bool.not_true, Bool.not_false, or_true, true_or, or_false, false_or, or_self, and_self, decide_eq_true_eq]
  obtain ⟨gk, d1, Sk, d2, d3, d4, d5⟩ := R.kept
  have k3 := Sk.1.2.2.2.2.2.1 p hp
  obtain ⟨g1, a1, a2, a3⟩ := Sk.c.iw (r := 0) (a := 6 + 3) rfl (by decide) hp (shvV (gA g 207 (12 + 6 * p)) j)
  have b3 : SR g1 6 (upd (gA g 207) (12 + 6 * p) (shvV (gA g 207 (12 + 6 * p)) j)) n k := a3.r (S.w.u0 h10 (by omega)) (S.i.u0 h10 (by omega) (shvV_lt hb))
  have z3 := b3.1.2.2.2.2.2.1 p hp
  rw [upd_1] at z3
  have m1 := a2.a207.trans d2
  have f6 := a2.f206.trans d3
  have hbc : fJ6_bitCount_0f7a4 (shvV (gA g 207 (12 + 6 * p)) j) (gH g1) = some (nI (pc (shvV (gA g 207 (12 + 6 * p)) j))) := cl_bitCountX _ (lt4096 (shvV_lt hb))
  refine Ca_ok (g1 := g1) (g2 := sA (remG (sF g1 206 0 (nI 0)) s) 207 (upd (gA g 207) (12 + 6 * p) (shvV (gA g 207 (12 + 6 * p)) j))) (nI (pc (shvV (gA g 207 (12 + 6 * p)) j))) ?_ ?_ (rem_0 _ hs _ _) (d5 _ n k _ ?_ ?_ ?_ a2 b3)
  · unfold shvV at a1 z3 hbc ⊢
    simp (disch := first | omega | assumption | exact isSt6 | exact isSt18 | exact isSt30) only [fX11_shave, io_0, io_42, fr_0_1, fr_s9, ia_s3, fr_0_4, bdS, ck_t, ck_T, cb_0, cb_1, ab_jn, if_true, if_false, cl_needPerson V, cl_needMark, ep, ej, bx_l, fr_s9, ia_s3, q3, k3, cl_hasX, sh1, c, bI_0, d1, a1, z3, hbc, reduceCtorEq, m1_ne, and_true, true_and, and_false, false_and, not_true_eq_false, not_false_eq_true, ne_eq, decide_true, decide_false, Bool.false_eq_true, ite_true, ite_false, if_true, if_false, Nat.add_zero, Bool.and_true, Bool.true_and, Bool.and_false, Bool.false_and, Bool.or_true, Bool.true_or, Bool.or_false, Bool.false_or, decide_not, Bool.not_true, Bool.not_false, or_true, true_or, or_false, false_or, or_self, and_self, decide_eq_true_eq]
  · have r1 := rf_rem (sF g1 206 0 (nI 0)) hs (by rw [gF_sF1, upd_2 _ _ (by omega), f6]; exact R.2.2.1) hF
    have r0 : gA (remG (sF g1 206 0 (nI 0)) s) 207 = gA g 207 := by rw [rem_207 _ hs, gA_sF, m1]
    have i1 := rf_isPerson g1 (by rw [m1]; exact rn) h10 (nI p)
    have rh := fun (g : gG) (v : Int32) => rf_has g (p := p) (r := 0) v (by omega)
    simp only [Nat.add_zero] at rh
    unfold shvV
    simp (disch := first | omega | assumption | exact isSt6 | exact isSt18 | exact isSt30) only [fX12_shave, io_206, fw_206_0, fi_206_0, bdS, ck_t, ck_T, cb_0, cb_1, ab_jn, if_true, if_false, i1, i7, ep, ej, bI_0, rf_of0, rf_isOfX, rh, rf_bits _ _ hF, sh1, c, m1, gF_sF1, gA_sA1, upd_1, nI00, r1, r0, nI_add, pk_mul, nI_ltI, nI_leI, nI_eq, reduceCtorEq, m1_ne, and_true, true_and, and_false, false_and, not_true_eq_false, not_false_eq_true, ne_eq, decide_true, decide_false, Bool.false_eq_true, ite_true, ite_false, if_true, if_false, Nat.add_zero, Bool.and_true, Bool.true_and, Bool.and_false, Bool.false_and, Bool.or_true, Bool.true_or, Bool.or_false, Bool.false_or, decide_not, Bool.not_true, Bool.not_false, or_true, true_or, or_false, false_or, or_self, and_self, decide_eq_true_eq]
  · rw [upd_2 _ _ (by omega)]
  · rw [upd_2 _ _ (by omega)]
  · intro i hi; rw [upd_2 _ _ (by omega)]
def grfV (v : Int32) (j : Nat) : Int32 := v ||| nI (2 ^ j)
theorem grfV_lt {v : Int32} {j : Nat} (h : nv v < 256) (hj : j < 8) : nv (grfV v j) < 256 := by
  have h2 : 2 ^ j < 2 ^ 8 := Nat.pow_lt_pow_right (by decide) hj
  have h3 : nv (nI (2 ^ j)) < 2 ^ 8 := by rw [nv_nI (by omega)]; exact h2
  unfold grfV nv at *
  rw [Int32.toBitVec_or, BitVec.toNat_or]
  exact Nat.or_lt_two_pow (n := 8) h h3
theorem ca_graft {g : gG} (R : RE Nq g) (x y z : Int32) {F : Nat} (hF : 11000 < F) : Ca Nq (fX11_graft 0 x y z (gH g)) (fun g1 => fX12_graft F 206 x y z (gH g1)) [eIx, eAr, eSt] := by
  have R0 := R
  obtain ⟨n, k, s, f, R⟩ := R
  have S := R.1
  have V := S.1
  obtain ⟨rn, h10, rk, h12⟩ := R.rv
  have W := V
  obtain ⟨hx, hn, _, hk, _, e3, e4, e5, e6, e7, e8, e11, e9, e10⟩ := W
  have hs : s ≤ 12 := R.2.1.1
  rcases two_cases h10 x y with (e | ⟨e, e'⟩) | ⟨p, o, hp, ho, rfl, rfl, ep, eo⟩
  · refine Ca_thr R0 0 (by decide) rfl (v := nI 0) ?_ ?_
    · simp (disch := first | omega | assumption | exact isSt6 | exact isSt18 | exact isSt30) only [fX11_graft, io_0, io_42, fr_0_1, fr_s9, ia_s3, fr_0_4, bdS, ck_t, ck_T, cb_0, cb_1, ab_jn, if_true, if_false, cl_needPerson V, e, bx_r, reduceCtorEq, m1_ne, and_true, true_and, and_false, false_and, not_true_eq_false, not_false_eq_true, ne_eq, decide_true, decide_false, Bool.false_eq_true, ite_true, ite_false, if_true, if_false, Nat.add_zero, Bool.and_true, Bool.true_and, Bool.and_false, Bool.false_and, Bool.or_true, Bool.true_or, Bool.or_false, Bool.false_or, decide_not, Bool.not_true, Bool.not_false, or_true, true_or, or_false, false_or, or_self, and_self, decide_eq_true_eq]
    · simp (maxSteps := 3000000) (disch := first | omega | assumption | exact isSt6 | exact isSt18 | exact isSt30) only [fX12_graft, io_206, fw_206_0, fi_206_0, bdS, ck_t, ck_T, cb_0, cb_1, ab_jn, if_true, if_false, rf_isPerson g rn h10, e, bI_0, gF_sF1, upd_1, nI10, reduceCtorEq, m1_ne, and_true, true_and, and_false, false_and, not_true_eq_false, not_false_eq_true, ne_eq, decide_true, decide_false, Bool.false_eq_true, ite_true, ite_false, if_true, if_false, Nat.add_zero, Bool.and_true, Bool.true_and, Bool.and_false, Bool.false_and, Bool.or_true, Bool.true_or, Bool.or_false, Bool.false_or, decide_not, Bool.not_true, Bool.not_false, or_true, true_or, or_false, false_or, or_self, and_self, decide_eq_true_eq]
  · refine Ca_thr R0 0 (by decide) rfl (v := nI 0) ?_ ?_
    · simp (disch := first | omega | assumption | exact isSt6 | exact isSt18 | exact isSt30) only [fX11_graft, io_0, io_42, fr_0_1, fr_s9, ia_s3, fr_0_4, bdS, ck_t, ck_T, cb_0, cb_1, ab_jn, if_true, if_false, cl_needPerson V, e, e', bx_l, bx_r, reduceCtorEq, m1_ne, and_true, true_and, and_false, false_and, not_true_eq_false, not_false_eq_true, ne_eq, decide_true, decide_false, Bool.false_eq_true, ite_true, ite_false, if_true, if_false, Nat.add_zero, Bool.and_true, Bool.true_and, Bool.and_false, Bool.false_and, Bool.or_true, Bool.true_or, Bool.or_false, Bool.false_or, decide_not, Bool.not_true, Bool.not_false, or_true, true_or, or_false, false_or, or_self, and_self, decide_eq_true_eq]
    · simp (maxSteps := 3000000) (disch := first | omega | assumption | exact isSt6 | exact isSt18 | exact isSt30) only [fX12_graft, io_206, fw_206_0, fi_206_0, bdS, ck_t, ck_T, cb_0, cb_1, ab_jn, if_true, if_false, rf_isPerson g rn h10, e, e', bI_0, gF_sF1, upd_1, nI10, reduceCtorEq, m1_ne, and_true, true_and, and_false, false_and, not_true_eq_false, not_false_eq_true, ne_eq, decide_true, decide_false, Bool.false_eq_true, ite_true, ite_false, if_true, if_false, Nat.add_zero, Bool.and_true, Bool.true_and, Bool.and_false, Bool.false_and, Bool.or_true, Bool.true_or, Bool.or_false, Bool.false_or, decide_not, Bool.not_true, Bool.not_false, or_true, true_or, or_false, false_or, or_self, and_self, decide_eq_true_eq]
  rcases inR_or (n := 8) (x := z) (by omega) with e | ⟨j, hj, rfl⟩
  · refine Ca_thr R0 0 (by decide) rfl (v := nI 0) ?_ ?_
    · simp (disch := first | omega | assumption | exact isSt6 | exact isSt18 | exact isSt30) only [fX11_graft, io_0, io_42, fr_0_1, fr_s9, ia_s3, fr_0_4, bdS, ck_t, ck_T, cb_0, cb_1, ab_jn, if_true, if_false, cl_needPerson V, cl_needMark, ep, eo, e, bx_l, bx_r, reduceCtorEq, m1_ne, and_true, true_and, and_false, false_and, not_true_eq_false, not_false_eq_true, ne_eq, decide_true, decide_false, Bool.false_eq_true, ite_true, ite_false, if_true, if_false, Nat.add_zero, Bool.and_true, Bool.true_and, Bool.and_false, Bool.false_and, Bool.or_true, Bool.true_or, Bool.or_false, Bool.false_or, decide_not, Bool.not_true, Bool.not_false, or_true, true_or, or_false, false_or, or_self, and_self, decide_eq_true_eq]
    · simp (disch := first | omega | assumption | exact isSt6 | exact isSt18 | exact isSt30) only [fX12_graft, io_206, fw_206_0, fi_206_0, bdS, ck_t, ck_T, cb_0, cb_1, ab_jn, if_true, if_false, rf_isPerson g rn h10, rf_isIn, inR_7, ep, eo, e, bI_0, gF_sF1, upd_1, nI10, reduceCtorEq, m1_ne, and_true, true_and, and_false, false_and, not_true_eq_false, not_false_eq_true, ne_eq, decide_true, decide_false, Bool.false_eq_true, ite_true, ite_false, if_true, if_false, Nat.add_zero, Bool.and_true, Bool.true_and, Bool.and_false, Bool.false_and, Bool.or_true, Bool.true_or, Bool.or_false, Bool.false_or, decide_not, Bool.not_true, Bool.not_false, or_true, true_or, or_false, false_or, or_self, and_self, decide_eq_true_eq]
  have ej := inR_of hj (show 8 < 2 ^ 31 by omega)
  have i7 : ∀ h, fX12_isIn (nI j) (nI 0) (nI 7) h = some (bI true) := fun h => by rw [rf_isIn, inR_7, ej]
  by_cases c : p = o
  · refine Ca_thr R0 1 (by decide) rfl (v := nI 0) ?_ ?_
    · simp (disch := first | omega | assumption | exact isSt6 | exact isSt18 | exact isSt30) only [fX11_graft, io_0, io_42, fr_0_1, fr_s9, ia_s3, fr_0_4, bdS, ck_t, ck_T, cb_0, cb_1, ab_jn, if_true, if_false, cl_needPerson V, cl_needMark, cl_needUnlike, ep, eo, ej, c, bx_l, bx_r, nI_add, pk_mul, nI_ltI, nI_leI, nI_eq, reduceCtorEq, m1_ne, and_true, true_and, and_false, false_and, not_true_eq_false, not_false_eq_true, ne_eq, decide_true, decide_false, Bool.false_eq_true, ite_true, ite_false, if_true, if_false, Nat.add_zero, Bool.and_true, Bool.true_and, Bool.and_false, Bool.false_and, Bool.or_true, Bool.true_or, Bool.or_false, Bool.false_or, decide_not, Bool.not_true, Bool.not_false, or_true, true_or, or_false, false_or, or_self, and_self, decide_eq_true_eq]
    · simp (disch := first | omega | assumption | exact isSt6 | exact isSt18 | exact isSt30) only [fX12_graft, io_206, fw_206_0, fi_206_0, bdS, ck_t, ck_T, cb_0, cb_1, ab_jn, if_true, if_false, rf_isPerson g rn h10, i7, ep, eo, c, bI_0, gF_sF1, upd_1, nI20, nI_add, pk_mul, nI_ltI, nI_leI, nI_eq, reduceCtorEq, m1_ne, and_true, true_and, and_false, false_and, not_true_eq_false, not_false_eq_true, ne_eq, decide_true, decide_false, Bool.false_eq_true, ite_true, ite_false, if_true, if_false, Nat.add_zero, Bool.and_true, Bool.true_and, Bool.and_false, Bool.false_and, Bool.or_true, Bool.true_or, Bool.or_false, Bool.false_or, decide_not, Bool.not_true, Bool.not_false, or_true, true_or, or_false, false_or, or_self, and_self, decide_eq_true_eq]
  have q3 := e3 p hp
  have q3' := e3 o ho
  have hb := S.i.1 p hp
  have hb' := S.i.1 o ho
  cases c1 : bt (gA g 207 (12 + 6 * p)) j
  · refine Ca_thr R0 2 (by decide) rfl (v := nI 0) ?_ ?_
    · simp (disch := first | omega | assumption | exact isSt6 | exact isSt18 | exact isSt30) only [fX11_graft, io_0, io_42, fr_0_1, fr_s9, ia_s3, fr_0_4, bdS, ck_t, ck_T, cb_0, cb_1, ab_jn, if_true, if_false, cl_needPerson V, cl_needMark, cl_needUnlike, ep, eo, ej, c, bx_l, fr_s9, ia_s3, q3, cl_hasX, c1, bI_0, nI_add, pk_mul, nI_ltI, nI_leI, nI_eq, reduceCtorEq, m1_ne, and_true, true_and, and_false, false_and, not_true_eq_false, not_false_eq_true, ne_eq, decide_true, decide_false, Bool.false_eq_true, ite_true, ite_false, if_true, if_false, Nat.add_zero, Bool.and_true, Bool.true_and, Bool.and_false, Bool.false_and, Bool.or_true, Bool.true_or, Bool.or_false, Bool.false_or, decide_not, Bool.not_true, Bool.not_false, or_true, true_or, or_false, false_or, or_self, and_self, decide_eq_true_eq]; rfl
    · simp (disch := first | omega | assumption | exact isSt6 | exact isSt18 | exact isSt30) only [fX12_graft, io_206, fw_206_0, fi_206_0, bdS, ck_t, ck_T, cb_0, cb_1, ab_jn, if_true, if_false, rf_isPerson g rn h10, i7, ep, eo, c, bI_0, rf_of0, rf_isOfX, c1, gF_sF1, upd_1, nI30, nI_add, pk_mul, nI_ltI, nI_leI, nI_eq, reduceCtorEq, m1_ne, and_true, true_and, and_false, false_and, not_true_eq_false, not_false_eq_true, ne_eq, decide_true, decide_false, Bool.false_eq_true, ite_true, ite_false, if_true, if_false, Nat.add_zero, Bool.and_true, Bool.true_and, Bool.and_false, Bool.false_and, Bool.or_true, Bool.true_or, Bool.or_false, Bool.false_or, decide_not, Bool.not_true, Bool.not_false, or_true, true_or, or_false, false_or, or_self, and_self, decide_eq_true_eq]
  cases c2 : bt (gA g 207 (12 + 6 * o)) j
  · obtain ⟨gk, d1, Sk, d2, d3, d4, d5⟩ := R.kept
    have k3 := Sk.1.2.2.2.2.2.1 p hp
    obtain ⟨g0, a1, a2, a3⟩ := Sk.c.iw (r := 0) (a := 6 + 3) rfl (by decide) hp (shvV (gA g 207 (12 + 6 * p)) j)
    have k3' := a3.1.2.2.2.2.2.1 o ho
    rw [Nat.add_zero, upd_2 _ _ (by omega)] at k3'
    obtain ⟨g1, a4, a5, a6⟩ := a3.iw (r := 0) (a := 6 + 3) rfl (by decide) ho (grfV (gA g 207 (12 + 6 * o)) j)
    have b2 : Fs gk g1 6 := Fs.trans a2 a5
    have b3 : SR g1 6 (upd (upd (gA g 207) (12 + 6 * p) (shvV (gA g 207 (12 + 6 * p)) j)) (12 + 6 * o) (grfV (gA g 207 (12 + 6 * o)) j)) n k := a6.r ((S.w.u0 h10 (by omega)).u0 h10 (by omega)) ((S.i.u0 h10 (by omega) (shvV_lt hb)).u0 h10 (by omega) (grfV_lt hb' hj))
    have z3 := b3.1.2.2.2.2.2.1 o ho
    rw [upd_1] at z3
    have m1 := b2.a207.trans d2
    have f6 := b2.f206.trans d3
    have hbc : fJ6_bitCount_0f7a4 (grfV (gA g 207 (12 + 6 * o)) j) (gH g1) = some (nI (pc (grfV (gA g 207 (12 + 6 * o)) j))) := cl_bitCountX _ (lt4096 (grfV_lt hb' hj))
    refine Ca_ok (g1 := g1) (g2 := sA (remG (sF g1 206 0 (nI 0)) s) 207 (upd (upd (gA g 207) (12 + 6 * p) (shvV (gA g 207 (12 + 6 * p)) j)) (12 + 6 * o) (grfV (gA g 207 (12 + 6 * o)) j))) (nI (pc (grfV (gA g 207 (12 + 6 * o)) j))) ?_ ?_ (rem_0 _ hs _ _) (d5 _ n k _ ?_ ?_ ?_ b2 b3)
    · unfold shvV at a1
      unfold grfV at a4 z3 hbc ⊢
      simp (disch := first | omega | assumption | exact isSt6 | exact isSt18 | exact isSt30) only [fX11_graft, io_0, io_42, fr_0_1, fr_s9, ia_s3, fr_0_4, bdS, ck_t, ck_T, cb_0, cb_1, ab_jn, if_true, if_false, cl_needPerson V, cl_needMark, cl_needUnlike, ep, eo, ej, c, bx_l, fr_s9, ia_s3, q3, q3', k3, k3', cl_hasX, sh1, c1, c2, bI_0, d1, a1, a4, z3, hbc, nI_add, pk_mul, nI_ltI, nI_leI, nI_eq, reduceCtorEq, m1_ne, and_true, true_and, and_false, false_and, not_true_eq_false, not_false_eq_true, ne_eq, decide_true, decide_false, Bool.false_eq_true, ite_true, ite_false, if_true, if_false, Nat.add_zero, Bool.and_true, Bool.true_and, Bool.and_false, Bool.false_and, Bool.or_true, Bool.true_or, Bool.or_false, Bool.false_or, decide_not, Bool.not_true, Bool.not_false, or_true, true_or, or_false, false_or, or_self, and_self, decide_eq_true_eq]
    · have r1 := rf_rem (sF g1 206 0 (nI 0)) hs (by rw [gF_sF1, upd_2 _ _ (by omega), f6]; exact R.2.2.1) hF
      have r0 : gA (remG (sF g1 206 0 (nI 0)) s) 207 = gA g 207 := by rw [rem_207 _ hs, gA_sF, m1]
      have i1 := rf_isPerson g1 (by rw [m1]; exact rn) h10
      have rh := fun (g : gG) (v : Int32) => rf_has g (p := p) (r := 0) v (by omega)
      have rh' := fun (g : gG) (v : Int32) => rf_has g (p := o) (r := 0) v (by omega)
      simp only [Nat.add_zero] at rh rh'
      have u1 : upd (gA g 207) (12 + 6 * p) (gA g 207 (12 + 6 * p) &&& (nI (2 ^ j) ^^^ -1)) (12 + 6 * o) = gA g 207 (12 + 6 * o) := upd_2 _ _ (by omega)
      unfold shvV grfV
      simp (disch := first | omega | assumption | exact isSt6 | exact isSt18 | exact isSt30) only [fX12_graft, io_206, fw_206_0, fi_206_0, bdS, ck_t, ck_T, cb_0, cb_1, ab_jn, if_true, if_false, i1, i7, ep, eo, c, bI_0, rf_of0, rf_isOfX, rh, rh', rf_bits _ _ hF, sh1, c1, c2, m1, gF_sF1, gA_sA1, sA_sA, upd_1, u1, nI00, r1, r0, nI_add, pk_mul, nI_ltI, nI_leI, nI_eq, reduceCtorEq, m1_ne, and_true, true_and, and_false, false_and, not_true_eq_false, not_false_eq_true, ne_eq, decide_true, decide_false, Bool.false_eq_true, ite_true, ite_false, if_true, if_false, Nat.add_zero, Bool.and_true, Bool.true_and, Bool.and_false, Bool.false_and, Bool.or_true, Bool.true_or, Bool.or_false, Bool.false_or, decide_not, Bool.not_true, Bool.not_false, or_true, true_or, or_false, false_or, or_self, and_self, decide_eq_true_eq]
    · rw [upd_2 _ _ (by omega), upd_2 _ _ (by omega)]
    · rw [upd_2 _ _ (by omega), upd_2 _ _ (by omega)]
    · intro i hi; rw [upd_2 _ _ (by omega), upd_2 _ _ (by omega)]
  · refine Ca_thr R0 2 (by decide) rfl (v := nI 0) ?_ ?_
    · simp (disch := first | omega | assumption | exact isSt6 | exact isSt18 | exact isSt30) only [fX11_graft, io_0, io_42, fr_0_1, fr_s9, ia_s3, fr_0_4, bdS, ck_t, ck_T, cb_0, cb_1, ab_jn, if_true, if_false, cl_needPerson V, cl_needMark, cl_needUnlike, ep, eo, ej, c, bx_l, fr_s9, ia_s3, q3, q3', cl_hasX, c1, c2, bI_0, nI_add, pk_mul, nI_ltI, nI_leI, nI_eq, reduceCtorEq, m1_ne, and_true, true_and, and_false, false_and, not_true_eq_false, not_false_eq_true, ne_eq, decide_true, decide_false, Bool.false_eq_true, ite_true, ite_false, if_true, if_false, Nat.add_zero, Bool.and_true, Bool.true_and, Bool.and_false, Bool.false_and, Bool.or_true, Bool.true_or, Bool.or_false, Bool.false_or, decide_not, Bool.not_true, Bool.not_false, or_true, true_or, or_false, false_or, or_self, and_self, decide_eq_true_eq]; rfl
    · simp (disch := first | omega | assumption | exact isSt6 | exact isSt18 | exact isSt30) only [fX12_graft, io_206, fw_206_0, fi_206_0, bdS, ck_t, ck_T, cb_0, cb_1, ab_jn, if_true, if_false, rf_isPerson g rn h10, i7, ep, eo, c, bI_0, rf_of0, rf_isOfX, c1, c2, gF_sF1, upd_1, nI30, nI_add, pk_mul, nI_ltI, nI_leI, nI_eq, reduceCtorEq, m1_ne, and_true, true_and, and_false, false_and, not_true_eq_false, not_false_eq_true, ne_eq, decide_true, decide_false, Bool.false_eq_true, ite_true, ite_false, if_true, if_false, Nat.add_zero, Bool.and_true, Bool.true_and, Bool.and_false, Bool.false_and, Bool.or_true, Bool.true_or, Bool.or_false, Bool.false_or, decide_not, Bool.not_true, Bool.not_false, or_true, true_or, or_false, false_or, or_self, and_self, decide_eq_true_eq]
