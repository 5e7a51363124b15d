variable {Nq : Nat}
/-! ===== calls: fits, ask ===== -/
theorem Sq.f {g : gG} {n z : Nat} {sa sb sc : Nat → Nat} (S : Sq g n z sa sb sc) {k : Nat} {v : Int32} (h : k ≠ 20) : Sq (sF g 206 k v) n z sa sb sc := by
  obtain ⟨s1, s2, s3, s4, s5⟩ := S
  exact ⟨s1, s2, s3, by rw [gF_sF1, upd_2 _ _ (by omega)]; exact s4, s5⟩
theorem Sh.n {g g' : gG} (h : Sh g g') {n : Nat} (hn : gA g 207 3 = nI n) : gA g' 207 3 = nI n := by rw [h.2.2.2.2.2.2 207 (by omega)]; exact hn
/-- a throw behind the hearing -/
theorem Sh.thr {g g2 : gG} {n k s f : Nat} (R : Re Nq g n k s f) (H : Sh g g2) (h4 : gF g2 4 1 = nI 0) (h6 : gF g2 206 8 = nI 0) (v : Int32) : RE Nq (sF g2 206 0 v) :=
  ⟨n, k, s, f, (H.f (Or.inl rfl)).re R (by rw [gF_sF2 _ _ (by omega)]; exact h4) (by rw [gF_sF1, upd_2 _ _ (by omega)]; exact h6)⟩
theorem Sh.end {g g2 : gG} {n k s f : Nat} (R : Re Nq g n k s f) (H : Sh g g2) (h4 : gF g2 4 1 = nI 0) (h6 : gF g2 206 8 = nI 0) (v : Int32) (M O : Nat → Int32) : RE Nq (sA (sA (sF g2 206 0 v) 214 M) 215 O) :=
  ⟨n, k, s, f, (((H.f (Or.inl rfl)).a (by omega)).a (by omega)).re R (by rw [gF_sA, gF_sA, gF_sF2 _ _ (by omega)]; exact h4) (by rw [gF_sA, gF_sA, gF_sF1, upd_2 _ _ (by omega)]; exact h6)⟩
theorem ca_fits {g : gG} (R : RE Nq g) (x : Int32) {F : Nat} (hF : 11000 < F) : Ca Nq (fX11_fits F 0 x (gH g)) (fun g1 => fX12_fits F 206 x (gH g1)) [eIx, eAr] := by
  have R0 := R
  obtain ⟨n, k, s, f, R⟩ := R
  have S := R.1
  have V := S.1
  obtain ⟨rn, h10, rk, h12⟩ := R.rv
  have W := V
  obtain ⟨hx, hn, _, hk, _, e3, e4, e5, e6, e7, e8, e11, e9, e10⟩ := W
  have hs : s ≤ 12 := R.2.1.1
  obtain ⟨L, t, g0, l4, h8, ht, c1, hc, hd⟩ := heardC R hF
  obtain ⟨g1, eg1⟩ : ∃ g1, sF g0 4 1 (nI 0) = g1 := ⟨_, rfl⟩
  rw [eg1] at hc hd
  have V1 : Sv g1 6 (gA g 207) n k := (hc.sh.sr R).1
  have q4 : gF g1 4 1 = nI 0 := by rw [← eg1, gF_sF1, upd_1]
  by_cases cA : ¬ x = -1 ∧ inR x n = false
  · obtain ⟨cx, ci⟩ := cA
    obtain ⟨g2, r1, r2, r3, r4, r5⟩ := heardR R hc l4 h8 ht q4 hF
    have ip := rf_isPerson g2 (r2.n rn) h10 x
    refine ⟨.inr eIx, g1, nI 0, sF g2 206 0 (nI 1), ?_, ?_, ⟨0, by decide, rfl, by rw [gF_sF1, upd_1]⟩, Sh.thr R r2 r3 r4 _⟩
    · simp (disch := first | omega | assumption | exact isSt6 | exact isSt18 | exact isSt30) only [fX11_fits, io_196, io_0, fr_0_7, fr_0_0, fr_0_1, fi_s0, fw_4_1, bdS, ck_t, ck_T, cb_0, cb_1, ab_jn, if_true, if_false, fi_s0, hn, c1, eg1, cx, cl_needPerson V1, ci, bx_r, reduceCtorEq, m1_ne, and_true, true_and, and_false, false_and, not_true_eq_false, not_false_eq_true, ne_eq, decide_true, decide_false, Bool.false_eq_true, ite_true, ite_false, if_true, if_false, Nat.add_zero, Bool.and_true, Bool.true_and, Bool.and_false, Bool.false_and, Bool.or_true, Bool.true_or, Bool.or_false, Bool.false_or, decide_not, Bool.not_true, Bool.not_false, or_true, true_or, or_false, false_or, or_self, and_self, decide_eq_true_eq]
    · simp (disch := first | omega | assumption | exact isSt6 | exact isSt18 | exact isSt30) only [fX12_fits, io_206, fw_206_0, fi_206_0, bdS, ck_t, ck_T, cb_0, cb_1, ab_jn, if_true, if_false, r1, ip, cx, ci, bI_0, gF_sF1, upd_1, nI10, reduceCtorEq, m1_ne, and_true, true_and, and_false, false_and, not_true_eq_false, not_false_eq_true, ne_eq, decide_true, decide_false, Bool.false_eq_true, ite_true, ite_false, if_true, if_false, Nat.add_zero, Bool.and_true, Bool.true_and, Bool.and_false, Bool.false_and, Bool.or_true, Bool.true_or, Bool.or_false, Bool.false_or, decide_not, Bool.not_true, Bool.not_false, or_true, true_or, or_false, false_or, or_self, and_self, decide_eq_true_eq]
  have np : ∀ {ρ : Type} (f : String → ρ) (t : Option ρ), (if x = -1 then t else ab_bx (fX11_needPerson 0 x (gH g1)) f t) = t := fun f t => by
    by_cases cx : x = -1
    · rw [if_pos cx]
    · have ci : inR x n = true := by
        cases c : inR x n
        · exact absurd ⟨cx, c⟩ cA
        · rfl
      rw [if_neg cx, cl_needPerson V1, ci]; rfl
  cases hg : gdS (gA g 211) n L
  · obtain ⟨g2, r1, r2, r3, r4, r5⟩ := heardR R hc l4 h8 ht q4 hF
    have ip := rf_isPerson g2 (r2.n rn) h10 x
    rw [hg] at c1 r1
    refine ⟨.inr eAr, g1, nI 0, sF g2 206 0 (nI 2), ?_, ?_, ⟨1, by decide, rfl, by rw [gF_sF1, upd_1]⟩, Sh.thr R r2 r3 r4 _⟩
    · simp (disch := first | omega | assumption | exact isSt6 | exact isSt18 | exact isSt30) only [fX11_fits, io_196, io_0, fr_0_7, fr_0_0, fr_0_1, fi_s0, fw_4_1, bdS, ck_t, ck_T, cb_0, cb_1, ab_jn, if_true, if_false, fi_s0, hn, c1, eg1, np, cl_needTold, bx_r, reduceCtorEq, m1_ne, and_true, true_and, and_false, false_and, not_true_eq_false, not_false_eq_true, ne_eq, decide_true, decide_false, Bool.false_eq_true, ite_true, ite_false, if_true, if_false, Nat.add_zero, Bool.and_true, Bool.true_and, Bool.and_false, Bool.false_and, Bool.or_true, Bool.true_or, Bool.or_false, Bool.false_or, decide_not, Bool.not_true, Bool.not_false, or_true, true_or, or_false, false_or, or_self, and_self, decide_eq_true_eq]
    · by_cases cx : x = -1
      · simp (disch := first | omega | assumption | exact isSt6 | exact isSt18 | exact isSt30) only [fX12_fits, io_206, fw_206_0, fi_206_0, bdS, ck_t, ck_T, cb_0, cb_1, ab_jn, if_true, if_false, r1, cx, bI_0, gF_sF1, upd_1, nI20, reduceCtorEq, m1_ne, and_true, true_and, and_false, false_and, not_true_eq_false, not_false_eq_true, ne_eq, decide_true, decide_false, Bool.false_eq_true, ite_true, ite_false, if_true, if_false, Nat.add_zero, Bool.and_true, Bool.true_and, Bool.and_false, Bool.false_and, Bool.or_true, Bool.true_or, Bool.or_false, Bool.false_or, decide_not, Bool.not_true, Bool.not_false, or_true, true_or, or_false, false_or, or_self, and_self, decide_eq_true_eq]
      · have ci : inR x n = true := by
          cases c : inR x n
          · exact absurd ⟨cx, c⟩ cA
          · rfl
        simp (disch := first | omega | assumption | exact isSt6 | exact isSt18 | exact isSt30) only [fX12_fits, io_206, fw_206_0, fi_206_0, bdS, ck_t, ck_T, cb_0, cb_1, ab_jn, if_true, if_false, r1, ip, cx, ci, bI_0, gF_sF1, upd_1, nI20, reduceCtorEq, m1_ne, and_true, true_and, and_false, false_and, not_true_eq_false, not_false_eq_true, ne_eq, decide_true, decide_false, Bool.false_eq_true, ite_true, ite_false, if_true, if_false, Nat.add_zero, Bool.and_true, Bool.true_and, Bool.and_false, Bool.false_and, Bool.or_true, Bool.true_or, Bool.or_false, Bool.false_or, decide_not, Bool.not_true, Bool.not_false, or_true, true_or, or_false, false_or, or_self, and_self, decide_eq_true_eq]
  · rw [hg] at c1
    have D := hd hg
    by_cases cx : x = -1
    · subst cx
      obtain ⟨W, O, o1⟩ := cl_ownersOfAll D h10 hF
      obtain ⟨g2, r1, r2, r3, r4, r5⟩ := heardR (g1 := sA (sA g1 200 W) 202 O) R ((hc.a (by omega)).a (by omega)) l4 h8 ht q4 hF
      rw [hg] at r1
      obtain ⟨M, O', r6, _⟩ := rf_ownedAll (sF g2 206 0 (nI 0)) (n := n) (by rw [gA_sF]; exact r2.n rn) h10 hF ((r5 hg).f (by omega))
      refine Ca_ok (g1 := sA (sA g1 200 W) 202 O) (g2 := sA (sA (sF g2 206 0 (nI 0)) 214 M) 215 O') (ov0 (fun i => t (3 * i)) (fun i => t (3 * i + 1)) (fun i => t (3 * i + 2)) n (L / 3)) ?_ ?_ (by rw [gF_sA, gF_sA, gF_sF1, upd_1]) (Sh.end R r2 r3 r4 _ _ _)
      · simp (disch := first | omega | assumption | exact isSt6 | exact isSt18 | exact isSt30) only [fX11_fits, io_196, io_0, fr_0_7, fr_0_0, fr_0_1, fi_s0, fw_4_1, bdS, ck_t, ck_T, cb_0, cb_1, ab_jn, if_true, if_false, fi_s0, hn, c1, eg1, cl_needTold, bx_l, o1, reduceCtorEq, m1_ne, and_true, true_and, and_false, false_and, not_true_eq_false, not_false_eq_true, ne_eq, decide_true, decide_false, Bool.false_eq_true, ite_true, ite_false, if_true, if_false, Nat.add_zero, Bool.and_true, Bool.true_and, Bool.and_false, Bool.false_and, Bool.or_true, Bool.true_or, Bool.or_false, Bool.false_or, decide_not, Bool.not_true, Bool.not_false, or_true, true_or, or_false, false_or, or_self, and_self, decide_eq_true_eq]
      · simp (disch := first | omega | assumption | exact isSt6 | exact isSt18 | exact isSt30) only [fX12_fits, io_206, fw_206_0, fi_206_0, bdS, ck_t, ck_T, cb_0, cb_1, ab_jn, if_true, if_false, r1, bI_0, gF_sF1, upd_1, nI00, r6, reduceCtorEq, m1_ne, and_true, true_and, and_false, false_and, not_true_eq_false, not_false_eq_true, ne_eq, decide_true, decide_false, Bool.false_eq_true, ite_true, ite_false, if_true, if_false, Nat.add_zero, Bool.and_true, Bool.true_and, Bool.and_false, Bool.false_and, Bool.or_true, Bool.true_or, Bool.or_false, Bool.false_or, decide_not, Bool.not_true, Bool.not_false, or_true, true_or, or_false, false_or, or_self, and_self, decide_eq_true_eq]
    · rcases inR_or (n := n) (x := x) (by omega) with e | ⟨p, hp, rfl⟩
      · exact absurd ⟨cx, e⟩ cA
      have ep := inR_of hp (show n < 2 ^ 31 by omega)
      obtain ⟨W, O, o1⟩ := cl_sure D h10 hp hF
      obtain ⟨g2, r1, r2, r3, r4, r5⟩ := heardR (g1 := sA (sA g1 200 W) 202 O) R ((hc.a (by omega)).a (by omega)) l4 h8 ht q4 hF
      rw [hg] at r1
      have ip := rf_isPerson g2 (r2.n rn) h10 (nI p)
      have n7 : gA (sF g2 206 0 (nI 0)) 207 3 = nI n := by rw [gA_sF]; exact r2.n rn
      have Q := (r5 hg).f (k := 0) (v := nI 0) (by omega)
      obtain ⟨M, O', r6, _⟩ := rf_ownedAll (sF g2 206 0 (nI 0)) (n := n) n7 h10 hF Q
      obtain ⟨M2, O2, r7⟩ := rf_sure (sA (sA (sF g2 206 0 (nI 0)) 214 M) 215 O') (n := n) n7 h10 hF ((Q.a (by omega)).a (by omega)) hp
      have e5 : sA (sA (sA (sA (sF g2 206 0 (nI 0)) 214 M) 215 O') 214 M2) 215 O2 = sA (sA (sF g2 206 0 (nI 0)) 214 M2) 215 O2 := by
        rw [sA_comm _ (show 215 ≠ 214 by omega), sA_sA, sA_sA]
      rw [e5] at r7
      refine Ca_ok (g1 := sA (sA g1 200 W) 202 O) (g2 := sA (sA (sF g2 206 0 (nI 0)) 214 M2) 215 O2) (fitV (fun i => t (3 * i)) (fun i => t (3 * i + 1)) (fun i => t (3 * i + 2)) n (L / 3) p) ?_ ?_ (by rw [gF_sA, gF_sA, gF_sF1, upd_1]) (Sh.end R r2 r3 r4 _ _ _)
      · simp (disch := first | omega | assumption | exact isSt6 | exact isSt18 | exact isSt30) only [fX11_fits, io_196, io_0, fr_0_7, fr_0_0, fr_0_1, fi_s0, fw_4_1, bdS, ck_t, ck_T, cb_0, cb_1, ab_jn, if_true, if_false, fi_s0, hn, c1, eg1, cx, cl_needPerson V1, ep, cl_needTold, bx_l, o1, reduceCtorEq, m1_ne, and_true, true_and, and_false, false_and, not_true_eq_false, not_false_eq_true, ne_eq, decide_true, decide_false, Bool.false_eq_true, ite_true, ite_false, if_true, if_false, Nat.add_zero, Bool.and_true, Bool.true_and, Bool.and_false, Bool.false_and, Bool.or_true, Bool.true_or, Bool.or_false, Bool.false_or, decide_not, Bool.not_true, Bool.not_false, or_true, true_or, or_false, false_or, or_self, and_self, decide_eq_true_eq]
      · simp (disch := first | omega | assumption | exact isSt6 | exact isSt18 | exact isSt30) only [fX12_fits, io_206, fw_206_0, fi_206_0, bdS, ck_t, ck_T, cb_0, cb_1, ab_jn, if_true, if_false, r1, ip, cx, ep, bI_0, gF_sF1, upd_1, nI00, r6, r7, reduceCtorEq, m1_ne, and_true, true_and, and_false, false_and, not_true_eq_false, not_false_eq_true, ne_eq, decide_true, decide_false, Bool.false_eq_true, ite_true, ite_false, if_true, if_false, Nat.add_zero, Bool.and_true, Bool.true_and, Bool.and_false, Bool.false_and, Bool.or_true, Bool.true_or, Bool.or_false, Bool.false_or, decide_not, Bool.not_true, Bool.not_false, or_true, true_or, or_false, false_or, or_self, and_self, decide_eq_true_eq]
theorem ca_ask {g : gG} (R : RE Nq g) (x : Int32) {F : Nat} (hF : 11000 < F) : Ca Nq (fX11_ask F 0 x (gH g)) (fun g1 => fX12_ask F 206 x (gH g1)) [eIx, eAr] := by
  have R0 := R
  obtain ⟨n, k, s, f, R⟩ := R
  have S := R.1
  have V := S.1
  obtain ⟨rn, h10, rk, h12⟩ := R.rv
  have W := V
  obtain ⟨hx, hn, _, hk, _, e3, e4, e5, e6, e7, e8, e11, e9, e10⟩ := W
  have hs : s ≤ 12 := R.2.1.1
  obtain ⟨L, t, g0, l4, h8, ht, c1, hc, hd⟩ := heardC R hF
  obtain ⟨g1, eg1⟩ : ∃ g1, sF g0 4 1 (nI 0) = g1 := ⟨_, rfl⟩
  rw [eg1] at hc hd
  have V1 : Sv g1 6 (gA g 207) n k := (hc.sh.sr R).1
  have q4 : gF g1 4 1 = nI 0 := by rw [← eg1, gF_sF1, upd_1]
  rcases inR_or (n := n) (x := x) (by omega) with ci | ⟨p, hp, rfl⟩
  · obtain ⟨g2, r1, r2, r3, r4, r5⟩ := heardR R hc l4 h8 ht q4 hF
    have ip := rf_isPerson g2 (r2.n rn) h10 x
    refine ⟨.inr eIx, g1, nI 0, sF g2 206 0 (nI 1), ?_, ?_, ⟨0, by decide, rfl, by rw [gF_sF1, upd_1]⟩, Sh.thr R r2 r3 r4 _⟩
    · simp (disch := first | omega | assumption | exact isSt6 | exact isSt18 | exact isSt30) only [fX11_ask, io_196, io_0, fr_0_7, fr_0_0, fr_0_1, fi_s0, fw_4_1, bdS, ck_t, ck_T, cb_0, cb_1, ab_jn, if_true, if_false, fi_s0, hn, c1, eg1, cl_needPerson V1, ci, bx_r, reduceCtorEq, m1_ne, and_true, true_and, and_false, false_and, not_true_eq_false, not_false_eq_true, ne_eq, decide_true, decide_false, Bool.false_eq_true, ite_true, ite_false, if_true, if_false, Nat.add_zero, Bool.and_true, Bool.true_and, Bool.and_false, Bool.false_and, Bool.or_true, Bool.true_or, Bool.or_false, Bool.false_or, decide_not, Bool.not_true, Bool.not_false, or_true, true_or, or_false, false_or, or_self, and_self, decide_eq_true_eq]
    · simp (disch := first | omega | assumption | exact isSt6 | exact isSt18 | exact isSt30) only [fX12_ask, io_206, fw_206_0, fi_206_0, bdS, ck_t, ck_T, cb_0, cb_1, ab_jn, if_true, if_false, r1, ip, ci, bI_0, gF_sF1, upd_1, nI10, reduceCtorEq, m1_ne, and_true, true_and, and_false, false_and, not_true_eq_false, not_false_eq_true, ne_eq, decide_true, decide_false, Bool.false_eq_true, ite_true, ite_false, if_true, if_false, Nat.add_zero, Bool.and_true, Bool.true_and, Bool.and_false, Bool.false_and, Bool.or_true, Bool.true_or, Bool.or_false, Bool.false_or, decide_not, Bool.not_true, Bool.not_false, or_true, true_or, or_false, false_or, or_self, and_self, decide_eq_true_eq]
  have ep := inR_of hp (show n < 2 ^ 31 by omega)
  cases hg : gdS (gA g 211) n L
  · obtain ⟨g2, r1, r2, r3, r4, r5⟩ := heardR R hc l4 h8 ht q4 hF
    have ip := rf_isPerson g2 (r2.n rn) h10 (nI p)
    rw [hg] at c1 r1
    refine ⟨.inr eAr, g1, nI 0, sF g2 206 0 (nI 2), ?_, ?_, ⟨1, by decide, rfl, by rw [gF_sF1, upd_1]⟩, Sh.thr R r2 r3 r4 _⟩
    · simp (disch := first | omega | assumption | exact isSt6 | exact isSt18 | exact isSt30) only [fX11_ask, io_196, io_0, fr_0_7, fr_0_0, fr_0_1, fi_s0, fw_4_1, bdS, ck_t, ck_T, cb_0, cb_1, ab_jn, if_true, if_false, fi_s0, hn, c1, eg1, cl_needPerson V1, ep, bx_l, cl_needTold, bx_r, reduceCtorEq, m1_ne, and_true, true_and, and_false, false_and, not_true_eq_false, not_false_eq_true, ne_eq, decide_true, decide_false, Bool.false_eq_true, ite_true, ite_false, if_true, if_false, Nat.add_zero, Bool.and_true, Bool.true_and, Bool.and_false, Bool.false_and, Bool.or_true, Bool.true_or, Bool.or_false, Bool.false_or, decide_not, Bool.not_true, Bool.not_false, or_true, true_or, or_false, false_or, or_self, and_self, decide_eq_true_eq]
    · simp (disch := first | omega | assumption | exact isSt6 | exact isSt18 | exact isSt30) only [fX12_ask, io_206, fw_206_0, fi_206_0, bdS, ck_t, ck_T, cb_0, cb_1, ab_jn, if_true, if_false, r1, ip, ep, bI_0, gF_sF1, upd_1, nI20, reduceCtorEq, m1_ne, and_true, true_and, and_false, false_and, not_true_eq_false, not_false_eq_true, ne_eq, decide_true, decide_false, Bool.false_eq_true, ite_true, ite_false, if_true, if_false, Nat.add_zero, Bool.and_true, Bool.true_and, Bool.and_false, Bool.false_and, Bool.or_true, Bool.true_or, Bool.or_false, Bool.false_or, decide_not, Bool.not_true, Bool.not_false, or_true, true_or, or_false, false_or, or_self, and_self, decide_eq_true_eq]
  · rw [hg] at c1
    have D := hd hg
    obtain ⟨W, O, o1⟩ := cl_best D h10 hp hF
    obtain ⟨g2, r1, r2, r3, r4, r5⟩ := heardR (g1 := sA (sA g1 200 W) 202 O) R ((hc.a (by omega)).a (by omega)) l4 h8 ht q4 hF
    rw [hg] at r1
    have ip := rf_isPerson g2 (r2.n rn) h10 (nI p)
    have n7 : gA (sF g2 206 0 (nI 0)) 207 3 = nI n := by rw [gA_sF]; exact r2.n rn
    have Q := (r5 hg).f (k := 0) (v := nI 0) (by omega)
    obtain ⟨M, O', r6, _⟩ := rf_ownedAll (sF g2 206 0 (nI 0)) (n := n) n7 h10 hF Q
    obtain ⟨M2, O2, r7⟩ := rf_best (sA (sA (sF g2 206 0 (nI 0)) 214 M) 215 O') (n := n) n7 h10 hF ((Q.a (by omega)).a (by omega)) hp
    have e5 : sA (sA (sA (sA (sF g2 206 0 (nI 0)) 214 M) 215 O') 214 M2) 215 O2 = sA (sA (sF g2 206 0 (nI 0)) 214 M2) 215 O2 := by
      rw [sA_comm _ (show 215 ≠ 214 by omega), sA_sA, sA_sA]
    rw [e5] at r7
    refine Ca_ok (g1 := sA (sA g1 200 W) 202 O) (g2 := sA (sA (sF g2 206 0 (nI 0)) 214 M2) 215 O2) (askV (fun i => t (3 * i)) (fun i => t (3 * i + 1)) (fun i => t (3 * i + 2)) n (L / 3) p) ?_ ?_ (by rw [gF_sA, gF_sA, gF_sF1, upd_1]) (Sh.end R r2 r3 r4 _ _ _)
    · simp (disch := first | omega | assumption | exact isSt6 | exact isSt18 | exact isSt30) only [fX11_ask, io_196, io_0, fr_0_7, fr_0_0, fr_0_1, fi_s0, fw_4_1, bdS, ck_t, ck_T, cb_0, cb_1, ab_jn, if_true, if_false, fi_s0, hn, c1, eg1, cl_needPerson V1, ep, cl_needTold, bx_l, o1, reduceCtorEq, m1_ne, and_true, true_and, and_false, false_and, not_true_eq_false, not_false_eq_true, ne_eq, decide_true, decide_false, Bool.false_eq_true, ite_true, ite_false, if_true, if_false, Nat.add_zero, Bool.and_true, Bool.true_and, Bool.and_false, Bool.false_and, Bool.or_true, Bool.true_or, Bool.or_false, Bool.false_or, decide_not, Bool.not_true, Bool.not_false, or_true, true_or, or_false, false_or, or_self, and_self, decide_eq_true_eq]
    · simp (disch := first | omega | assumption | exact isSt6 | exact isSt18 | exact isSt30) only [fX12_ask, io_206, fw_206_0, fi_206_0, bdS, ck_t, ck_T, cb_0, cb_1, ab_jn, if_true, if_false, r1, ip, ep, bI_0, gF_sF1, upd_1, nI00, r6, r7, reduceCtorEq, m1_ne, and_true, true_and, and_false, false_and, not_true_eq_false, not_false_eq_true, ne_eq, decide_true, decide_false, Bool.false_eq_true, ite_true, ite_false, if_true, if_false, Nat.add_zero, Bool.and_true, Bool.true_and, Bool.and_false, Bool.false_and, Bool.or_true, Bool.true_or, Bool.or_false, Bool.false_or, decide_not, Bool.not_true, Bool.not_false, or_true, true_or, or_false, false_or, or_self, and_self, decide_eq_true_eq]
