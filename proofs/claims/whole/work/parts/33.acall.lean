variable {Nq : Nat}
/-! ===== calls that are ACTS ===== -/
theorem rf_rem (g : gG) {s : Nat} (hs : s ≤ 12) (h : gF g 206 6 = nI s) {F : Nat} (hF : 11000 < F) : fX12_remembers F 206 (gH g) = some (gH (remG g s)) := rf_remembers g hs h hF
def Ca (Nq : Nat) (X : Option ((Int32 ⊕ String) × ab_H)) (Y : gG → Option (Int32 × ab_H)) (cs : List String) : Prop := ∃ r g1 v g2, X = some (r, gH g1) ∧ Y g1 = some (v, gH g2) ∧ Ag r v (gF g2 206 0) cs ∧ RE Nq g2
theorem Ca_thr {g : gG} {X : Option ((Int32 ⊕ String) × ab_H)} {Y : gG → Option (Int32 × ab_H)} {cs : List String} (R : RE Nq g) (i : Nat) (hi : i < 4) {E : String} (hE : cs[i]? = some E) {v : Int32} (hX : X = some (.inr E, gH g)) (hY : Y g = some (v, gH (sF g 206 0 (nI (i + 1))))) : Ca Nq X Y cs := by
  obtain ⟨n, k, s, f, R⟩ := R
  exact ⟨.inr E, g, v, _, hX, hY, ⟨i, hi, hE, by rw [gF_sF1, upd_1]⟩, n, k, s, f, R.thr _⟩
theorem Ca_ok {g1 g2 : gG} {X : Option ((Int32 ⊕ String) × ab_H)} {Y : gG → Option (Int32 × ab_H)} {cs : List String} (v : Int32) (hX : X = some (.inl v, gH g1)) (hY : Y g1 = some (v, gH g2)) (h0 : gF g2 206 0 = nI 0) (R : RE Nq g2) : Ca Nq X Y cs := ⟨.inl v, g1, v, g2, hX, hY, ⟨h0, rfl⟩, R⟩
theorem Re.rv {g : gG} {n k s f : Nat} (R : Re Nq g n k s f) : Rv g n k := ⟨R.1.2.2.1, R.1.c.n10, R.1.2.2.2.1, R.1.c.k12⟩
/-- the kept store, ready for an ACT -/
theorem Re.kept {g : gG} {n k s f : Nat} (R : Re Nq g n k s f) : ∃ gk, fX6_keep 42 6 (gH g) = some (gH gk) ∧ SR gk 6 (gA g 207) n k ∧ gA gk 207 = gA g 207 ∧ gF gk 206 = gF g 206 ∧ Ec g gk 0 42 ∧
  ∀ m' n' k' g1, m' 1 = gA g 207 1 → m' 2 = gA g 207 2 → (∀ i, 584 ≤ i → m' i = gA g 207 i) → Fs gk g1 6 → SR g1 6 m' n' k' → RE Nq (sA (remG (sF g1 206 0 (nI 0)) s) 207 m') := by
  obtain ⟨gk, f1, c1, P, e1, _, e2, e3, e4⟩ := keepC R.2.1 R.1
  exact ⟨gk, c1, R.1.keep (e1.es (by omega) (by omega)), (e4 207 (by omega)).2.1, (e4 206 (by omega)).1, e1, fun m' n' k' g1 h1 h2 hl hF hS => ⟨n', k', _, f1, act_ok R h1 h2 hl P e1 e2 e3 e4 hF hS⟩⟩
theorem Fs.f206 {g g' : gG} (h : Fs g g' 6) : gF g' 206 = gF g 206 := (h.1 206 (by omega)).1
theorem Fs.a207 {g g' : gG} (h : Fs g g' 6) : gA g' 207 = gA g 207 := (h.1 207 (by omega)).2.1
theorem rem_207 (g : gG) {s : Nat} (hs : s ≤ 12) : gA (remG g s) 207 = gA g 207 := (remG_ok g hs).2.1 207 (by omega)
theorem rem_0 (g : gG) {s : Nat} (hs : s ≤ 12) (t : Int32) (m' : Nat → Int32) : gF (sA (remG (sF g 206 0 t) s) 207 m') 206 0 = t := by
  rw [gF_sA, (remG_ok _ hs).2.2.2.1 0 (by omega), gF_sF1, upd_1]
theorem wrM_1 (m : Nat → Int32) (p h f w : Int32) : wrM m p h f w 1 = m 1 := wrM_Al _ _ _ _ _ 1 (by decide) (by decide)
theorem wrM_2 (m : Nat → Int32) (p h f w : Int32) : wrM m p h f w 2 = m 2 := wrM_Al _ _ _ _ _ 2 (by decide) (by decide)
theorem wrM_hi (m : Nat → Int32) (p h f w : Int32) {i : Nat} (hi : 584 ≤ i) : wrM m p h f w i = m i := by
  unfold wrM
  rw [if_neg (by omega), if_neg (by omega), if_neg (by omega), if_neg (by omega), if_neg (by omega), if_neg (by omega), if_neg (by omega)]
theorem ca_hand {g : gG} (R : RE Nq g) (x y : Int32) {F : Nat} (hF : 11000 < F) : Ca Nq (fX11_hand 0 x y (gH g)) (fun g1 => fX12_hand F 206 x y (gH g1)) [eIx, eSt] := by
  have R0 := R
  obtain ⟨n, k, s, f, R⟩ := R
  have S := R.1
  have V := S.1
  obtain ⟨rn, h10, rk, h12⟩ := R.rv
  have W := V
  obtain ⟨hx, hn, h10, hk, h12, e3, e4, e5, e6, e7, e8, e11, e9, e10⟩ := W
  have hs : s ≤ 12 := R.2.1.1
  rcases inR_or (n := n) (x := x) (by omega) with e | ⟨p, hp, rfl⟩
  · refine Ca_thr R0 0 (by decide) rfl (v := nI 0) ?_ ?_
    · simp (disch := first | omega | assumption | exact isSt6 | exact isSt18 | exact isSt30) only [fX11_hand, io_0, io_42, io_s, fr_0_1, fr_s11, ia_s5, fr_s12, ia_s6, fr_s17, ia_s11, fr_0_4, bdS, ck_t, ck_T, cb_0, cb_1, ab_jn, if_true, if_false, cl_needPerson V, e, bx_r, reduceCtorEq, m1_ne, and_true, true_and, and_false, false_and, not_true_eq_false, not_false_eq_true, ne_eq, decide_true, decide_false, Bool.false_eq_true, ite_true, ite_false, if_true, if_false, Nat.add_zero, Bool.and_true, Bool.true_and, Bool.and_false, Bool.false_and, Bool.or_true, Bool.true_or, Bool.or_false, Bool.false_or, decide_not, Bool.not_true, Bool.not_false, or_true, true_or, or_false, false_or, or_self, and_self, decide_eq_true_eq]
    · simp (disch := first | omega | assumption | exact isSt6 | exact isSt18 | exact isSt30) only [fX12_hand, io_206, fw_206_0, fi_206_0, fr_206_1, ia_207, bdS, ck_t, ck_T, cb_0, cb_1, ab_jn, if_true, if_false, rf_isPerson g rn h10, e, bI_0, gF_sF1, upd_1, nI10, reduceCtorEq, m1_ne, and_true, true_and, and_false, false_and, not_true_eq_false, not_false_eq_true, ne_eq, decide_true, decide_false, Bool.false_eq_true, ite_true, ite_false, if_true, if_false, Nat.add_zero, Bool.and_true, Bool.true_and, Bool.and_false, Bool.false_and, Bool.or_true, Bool.true_or, Bool.or_false, Bool.false_or, decide_not, Bool.not_true, Bool.not_false, or_true, true_or, or_false, false_or, or_self, and_self, decide_eq_true_eq]
  have ep := inR_of hp (show n < 2 ^ 31 by omega)
  rcases inR_or (n := k) (x := y) (by omega) with e | ⟨h, hh, rfl⟩
  · refine Ca_thr R0 0 (by decide) rfl (v := nI 0) ?_ ?_
    · simp (disch := first | omega | assumption | exact isSt6 | exact isSt18 | exact isSt30) only [fX11_hand, io_0, io_42, io_s, fr_0_1, fr_s11, ia_s5, fr_s12, ia_s6, fr_s17, ia_s11, fr_0_4, bdS, ck_t, ck_T, cb_0, cb_1, ab_jn, if_true, if_false, cl_needPerson V, cl_needHook V, ep, e, bx_l, bx_r, reduceCtorEq, m1_ne, and_true, true_and, and_false, false_and, not_true_eq_false, not_false_eq_true, ne_eq, decide_true, decide_false, Bool.false_eq_true, ite_true, ite_false, if_true, if_false, Nat.add_zero, Bool.and_true, Bool.true_and, Bool.and_false, Bool.false_and, Bool.or_true, Bool.true_or, Bool.or_false, Bool.false_or, decide_not, Bool.not_true, Bool.not_false, or_true, true_or, or_false, false_or, or_self, and_self, decide_eq_true_eq]
    · simp (disch := first | omega | assumption | exact isSt6 | exact isSt18 | exact isSt30) only [fX12_hand, io_206, fw_206_0, fi_206_0, fr_206_1, ia_207, bdS, ck_t, ck_T, cb_0, cb_1, ab_jn, if_true, if_false, rf_isPerson g rn h10, rf_isHook g rk h12, ep, e, bI_0, gF_sF1, upd_1, nI10, reduceCtorEq, m1_ne, and_true, true_and, and_false, false_and, not_true_eq_false, not_false_eq_true, ne_eq, decide_true, decide_false, Bool.false_eq_true, ite_true, ite_false, if_true, if_false, Nat.add_zero, Bool.and_true, Bool.true_and, Bool.and_false, Bool.false_and, Bool.or_true, Bool.true_or, Bool.or_false, Bool.false_or, decide_not, Bool.not_true, Bool.not_false, or_true, true_or, or_false, false_or, or_self, and_self, decide_eq_true_eq]
  have eh := inR_of hh (show k < 2 ^ 31 by omega)
  have q5 := e5 p hp
  have q6 := e6 p hp
  have q11 := e11 h (by omega)
  by_cases c : gA g 207 (12 + 6 * p + 2) = -1 ∨ ¬ gA g 207 (12 + 6 * p + 3) = -1 ∨ ¬ gA g 207 (272 + h) = -1
  · refine Ca_thr R0 1 (by decide) rfl (v := nI 0) ?_ ?_
    · by_cases c1 : gA g 207 (12 + 6 * p + 2) = -1
      · simp (disch := first | omega | assumption | exact isSt6 | exact isSt18 | exact isSt30) only [fX11_hand, io_0, io_42, io_s, fr_0_1, fr_s11, ia_s5, fr_s12, ia_s6, fr_s17, ia_s11, fr_0_4, bdS, ck_t, ck_T, cb_0, cb_1, ab_jn, if_true, if_false, cl_needPerson V, cl_needHook V, ep, eh, bx_l, fr_s11, ia_s5, q5, c1, reduceCtorEq, m1_ne, and_true, true_and, and_false, false_and, not_true_eq_false, not_false_eq_true, ne_eq, decide_true, decide_false, Bool.false_eq_true, ite_true, ite_false, if_true, if_false, Nat.add_zero, Bool.and_true, Bool.true_and, Bool.and_false, Bool.false_and, Bool.or_true, Bool.true_or, Bool.or_false, Bool.false_or, decide_not, Bool.not_true, Bool.not_false, or_true, true_or, or_false, false_or, or_self, and_self, decide_eq_true_eq]; rfl
      · by_cases c2 : gA g 207 (12 + 6 * p + 3) = -1
        · have c3 : ¬ gA g 207 (272 + h) = -1 := by rcases c with c | c | c; exact absurd c c1; exact absurd c2 c; exact c
          simp (disch := first | omega | assumption | exact isSt6 | exact isSt18 | exact isSt30) only [fX11_hand, io_0, io_42, io_s, fr_0_1, fr_s11, ia_s5, fr_s12, ia_s6, fr_s17, ia_s11, fr_0_4, bdS, ck_t, ck_T, cb_0, cb_1, ab_jn, if_true, if_false, cl_needPerson V, cl_needHook V, ep, eh, bx_l, fr_s11, ia_s5, fr_s12, ia_s6, fr_s17, ia_s11, q5, q6, q11, c1, c2, c3, reduceCtorEq, m1_ne, and_true, true_and, and_false, false_and, not_true_eq_false, not_false_eq_true, ne_eq, decide_true, decide_false, Bool.false_eq_true, ite_true, ite_false, if_true, if_false, Nat.add_zero, Bool.and_true, Bool.true_and, Bool.and_false, Bool.false_and, Bool.or_true, Bool.true_or, Bool.or_false, Bool.false_or, decide_not, Bool.not_true, Bool.not_false, or_true, true_or, or_false, false_or, or_self, and_self, decide_eq_true_eq]; rfl
        · simp (disch := first | omega | assumption | exact isSt6 | exact isSt18 | exact isSt30) only [fX11_hand, io_0, io_42, io_s, fr_0_1, fr_s11, ia_s5, fr_s12, ia_s6, fr_s17, ia_s11, fr_0_4, bdS, ck_t, ck_T, cb_0, cb_1, ab_jn, if_true, if_false, cl_needPerson V, cl_needHook V, ep, eh, bx_l, fr_s11, ia_s5, fr_s12, ia_s6, q5, q6, c1, c2, reduceCtorEq, m1_ne, and_true, true_and, and_false, false_and, not_true_eq_false, not_false_eq_true, ne_eq, decide_true, decide_false, Bool.false_eq_true, ite_true, ite_false, if_true, if_false, Nat.add_zero, Bool.and_true, Bool.true_and, Bool.and_false, Bool.false_and, Bool.or_true, Bool.true_or, Bool.or_false, Bool.false_or, decide_not, Bool.not_true, Bool.not_false, or_true, true_or, or_false, false_or, or_self, and_self, decide_eq_true_eq]; rfl
    · by_cases c1 : gA g 207 (12 + 6 * p + 2) = -1
      · simp (disch := first | omega | assumption | exact isSt6 | exact isSt18 | exact isSt30) only [fX12_hand, io_206, fw_206_0, fi_206_0, fr_206_1, ia_207, bdS, ck_t, ck_T, cb_0, cb_1, ab_jn, if_true, if_false, rf_isPerson g rn h10, rf_isHook g rk h12, ep, eh, bI_0, rf_of, c1, gF_sF1, upd_1, nI20, reduceCtorEq, m1_ne, and_true, true_and, and_false, false_and, not_true_eq_false, not_false_eq_true, ne_eq, decide_true, decide_false, Bool.false_eq_true, ite_true, ite_false, if_true, if_false, Nat.add_zero, Bool.and_true, Bool.true_and, Bool.and_false, Bool.false_and, Bool.or_true, Bool.true_or, Bool.or_false, Bool.false_or, decide_not, Bool.not_true, Bool.not_false, or_true, true_or, or_false, false_or, or_self, and_self, decide_eq_true_eq]
      · by_cases c2 : gA g 207 (12 + 6 * p + 3) = -1
        · have c3 : ¬ gA g 207 (272 + h) = -1 := by rcases c with c | c | c; exact absurd c c1; exact absurd c2 c; exact c
          simp (disch := first | omega | assumption | exact isSt6 | exact isSt18 | exact isSt30) only [fX12_hand, io_206, fw_206_0, fi_206_0, fr_206_1, ia_207, bdS, ck_t, ck_T, cb_0, cb_1, ab_jn, if_true, if_false, rf_isPerson g rn h10, rf_isHook g rk h12, ep, eh, bI_0, rf_of, c1, c2, c3, gF_sF1, upd_1, nI20, nI_add, pk_mul, nI_ltI, nI_leI, nI_eq, reduceCtorEq, m1_ne, and_true, true_and, and_false, false_and, not_true_eq_false, not_false_eq_true, ne_eq, decide_true, decide_false, Bool.false_eq_true, ite_true, ite_false, if_true, if_false, Nat.add_zero, Bool.and_true, Bool.true_and, Bool.and_false, Bool.false_and, Bool.or_true, Bool.true_or, Bool.or_false, Bool.false_or, decide_not, Bool.not_true, Bool.not_false, or_true, true_or, or_false, false_or, or_self, and_self, decide_eq_true_eq]
        · simp (disch := first | omega | assumption | exact isSt6 | exact isSt18 | exact isSt30) only [fX12_hand, io_206, fw_206_0, fi_206_0, fr_206_1, ia_207, bdS, ck_t, ck_T, cb_0, cb_1, ab_jn, if_true, if_false, rf_isPerson g rn h10, rf_isHook g rk h12, ep, eh, bI_0, rf_of, c1, c2, gF_sF1, upd_1, nI20, reduceCtorEq, m1_ne, and_true, true_and, and_false, false_and, not_true_eq_false, not_false_eq_true, ne_eq, decide_true, decide_false, Bool.false_eq_true, ite_true, ite_false, if_true, if_false, Nat.add_zero, Bool.and_true, Bool.true_and, Bool.and_false, Bool.false_and, Bool.or_true, Bool.true_or, Bool.or_false, Bool.false_or, decide_not, Bool.not_true, Bool.not_false, or_true, true_or, or_false, false_or, or_self, and_self, decide_eq_true_eq]
  have c1 : ¬ gA g 207 (12 + 6 * p + 2) = -1 := fun h => c (Or.inl h)
  have c2 : gA g 207 (12 + 6 * p + 3) = -1 := Decidable.byContradiction fun h => c (Or.inr (Or.inl h))
  have c3 : gA g 207 (272 + h) = -1 := Decidable.byContradiction fun h => c (Or.inr (Or.inr h))
  obtain ⟨gk, d1, Sk, d2, d3, d4, d5⟩ := R.kept
  obtain ⟨fj, hfj, efj⟩ := (S.w.1 p hp).resolve_left c1
  obtain ⟨g1, b1, b2, b3⟩ := Sk.hand hp hh hfj efj
  have m1 : gA g1 207 = gA g 207 := b2.a207.trans d2
  have f6 : gF g1 206 = gF g 206 := b2.f206.trans d3
  refine Ca_ok (g1 := g1) (g2 := sA (remG (sF g1 206 0 (nI 0)) s) 207 (hanM (gA g 207) p h)) (gA g 207 (12 + 6 * p + 2)) ?_ ?_ (rem_0 _ hs _ _) (d5 _ n k g1 ?_ ?_ ?_ b2 b3)
  · simp (disch := first | omega | assumption | exact isSt6 | exact isSt18 | exact isSt30) only [fX11_hand, io_0, io_42, io_s, fr_0_1, fr_s11, ia_s5, fr_s12, ia_s6, fr_s17, ia_s11, fr_0_4, bdS, ck_t, ck_T, cb_0, cb_1, ab_jn, if_true, if_false, cl_needPerson V, cl_needHook V, ep, eh, bx_l, fr_s11, ia_s5, fr_s12, ia_s6, fr_s17, ia_s11, io_s, q5, q6, q11, c1, c2, c3, d1, b1, reduceCtorEq, m1_ne, and_true, true_and, and_false, false_and, not_true_eq_false, not_false_eq_true, ne_eq, decide_true, decide_false, Bool.false_eq_true, ite_true, ite_false, if_true, if_false, Nat.add_zero, Bool.and_true, Bool.true_and, Bool.and_false, Bool.false_and, Bool.or_true, Bool.true_or, Bool.or_false, Bool.false_or, decide_not, Bool.not_true, Bool.not_false, or_true, true_or, or_false, false_or, or_self, and_self, decide_eq_true_eq]
  · have r1 := rf_rem (sF g1 206 0 (nI 0)) hs (by rw [gF_sF1, upd_2 _ _ (by omega), f6]; exact R.2.2.1) hF
    have r2 := rf_handsIn (remG (sF g1 206 0 (nI 0)) s) (show p < 10 by omega) (show h < 12 by omega) hF
    rw [rem_207 _ hs, gA_sF, m1] at r2
    have i1 := rf_isPerson g1 (by rw [m1]; exact rn) h10 (nI p)
    have i2 := rf_isHook g1 (by rw [m1]; exact rk) h12 (nI h)
    simp (disch := first | omega | assumption | exact isSt6 | exact isSt18 | exact isSt30) only [fX12_hand, io_206, fw_206_0, fi_206_0, fr_206_1, ia_207, bdS, ck_t, ck_T, cb_0, cb_1, ab_jn, if_true, if_false, i1, i2, ep, eh, bI_0, rf_of, m1, c1, c2, c3, gF_sF1, upd_1, nI00, r1, r2, nI_add, pk_mul, nI_ltI, nI_leI, nI_eq, reduceCtorEq, m1_ne, and_true, true_and, and_false, false_and, not_true_eq_false, not_false_eq_true, ne_eq, decide_true, decide_false, Bool.false_eq_true, ite_true, ite_false, if_true, if_false, Nat.add_zero, Bool.and_true, Bool.true_and, Bool.and_false, Bool.false_and, Bool.or_true, Bool.true_or, Bool.or_false, Bool.false_or, decide_not, Bool.not_true, Bool.not_false, or_true, true_or, or_false, false_or, or_self, and_self, decide_eq_true_eq]
  · unfold hanM; rw [wrM_1, upd_2 _ _ (by omega), upd_2 _ _ (by omega), upd_2 _ _ (by omega)]
  · unfold hanM; rw [wrM_2, upd_2 _ _ (by omega), upd_2 _ _ (by omega), upd_2 _ _ (by omega)]
  · intro i hi; unfold hanM; rw [wrM_hi _ _ _ _ _ hi, upd_2 _ _ (by omega), upd_2 _ _ (by omega), upd_2 _ _ (by omega)]
