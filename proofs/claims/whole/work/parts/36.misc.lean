variable {Nq : Nat}
/-! ===== calls: seed, fault, end, undo, image, back ===== -/
def Cb (Nq : Nat) (X : Option (Int32 × ab_H)) (Y : gG → Option (Int32 × ab_H)) : Prop := ∃ v g1 g2, X = some (v, gH g1) ∧ Y g1 = some (v, gH g2) ∧ RE Nq g2
def Cr (Nq : Nat) (g : gG) (X : Option Int32) (Y : gG → Option (Int32 × ab_H)) : Prop := ∃ v g2, X = some v ∧ Y g = some (v, gH g2) ∧ RE Nq g2
/-- the STATE now and the row are others; nothing else is -/
theorem now_ok {g : gG} {n k s f : Nat} (R : Re Nq g n k s f) {m' : Nat → Int32} {n' k' : Nat} {t : Int32} (h1 : m' 1 = gA g 207 1) (h2 : m' 2 = gA g 207 2) (hl : ∀ i, 584 ≤ i → m' i = gA g 207 i) {g1 : gG}
  (hF : Fs g g1 6) (hS : SR g1 6 m' n' k') : Re Nq (sA (sF g1 206 0 t) 207 m') n' k' s f := by
  obtain ⟨r1, r2, r3, r4, r5, r6, r7, r8, r9, r10, r11⟩ := R
  obtain ⟨a1, a2, a3, a4⟩ := hF
  have cF : ∀ b, b ≠ 206 → (b < 6 ∨ 18 ≤ b) → gF (sA (sF g1 206 0 t) 207 m') b = gF g b := fun b hb hb' => by
    rw [gF_sA, gF_sF2 _ _ hb]; exact (a1 b (by omega)).1
  have cA : ∀ b, b ≠ 207 → (b < 6 ∨ 18 ≤ b) → gA (sA (sF g1 206 0 t) 207 m') b = gA g b := fun b h7 hb' => by
    rw [gA_sA2 _ _ h7, gA_sF]; exact (a1 b (by omega)).2.1
  have cL : ∀ b, (b < 6 ∨ 18 ≤ b) → gL (sA (sF g1 206 0 t) 207 m') b = gL g b := fun b hb' => by
    rw [gL_sA, gL_sF]; exact (a1 b (by omega)).2.2
  have cw : ∀ b, gw (sA (sF g1 206 0 t) 207 m') b = gw g b := fun b => by rw [gw_sA, gw_sF]; exact a4 b
  have g6 : ∀ k, k ≠ 0 → gF (sA (sF g1 206 0 t) 207 m') 206 k = gF g 206 k := fun k h0 => by
    rw [gF_sA, gF_sF1, upd_2 _ _ h0, (a1 206 (by omega)).1]
  have E : El g (sA (sF g1 206 0 t) 207 m') := by
    refine ⟨?_, fun b => ?_, fun b hb => ?_, ?_, fun b hb hb' => ?_⟩
    · rw [gn_sA, gn_sF, a2]
    · rw [gl_sA, gl_sF, a3]
    · exact cF b (by omega) (by omega)
    · exact cA 3 (by omega) (by omega)
    · exact cA b (by omega) (by omega)
  have z0 := cF 0 (by omega) (by omega)
  have z8 := cA 208 (by omega) (by omega)
  refine ⟨?_, ?_, ?_, ?_, ?_, ?_, ?_, ?_, ?_, ?_, r11.keep (g6 15 (by omega)) (g6 16 (by omega)) E.1⟩
  · rw [gA_sA1]
    refine hS.keep (fun r hr => ⟨?_, ?_, ?_⟩)
    · rw [gF_sA, gF_sF2 _ _ (by omega)]
    · rw [gA_sA2 _ _ (by omega), gA_sF]
    · rw [gL_sA, gL_sF]
  · rw [cA 210 (by omega) (by omega)]
    exact r2.keep (fun b hb hb' => ⟨cF b (by omega) (by omega), cA b (by omega) (by omega), cL b (by omega), cw b⟩) (cw 6)
  · rw [g6 6 (by omega)]; exact r3
  · obtain ⟨L, t1, t2, t3, t4⟩ := r4
    refine ⟨L, t1, ?_, ?_, fun i hi => ?_⟩
    · rw [cF 4 (by omega) (by omega)]; exact t2
    · rw [g6 8 (by omega)]; exact t3
    · rw [cA 5 (by omega) (by omega), cA 211 (by omega) (by omega)]; exact t4 i hi
  · obtain ⟨i1, i2⟩ := r5
    refine ⟨by rw [z0, g6 3 (by omega)]; exact i1, ?_⟩
    rw [z0]
    refine i2.imp id (fun ⟨j1, j2, n, k, j3⟩ => ⟨j1, ?_, n, k, ?_⟩)
    · rw [cw, z8]; exact j2.keep E rfl rfl (fun _ _ _ => rfl)
    · rw [z8]; exact j3.keep (fun r hr => ⟨cF _ (by omega) (by omega), cA _ (by omega) (by omega), cL _ (by omega)⟩)
  · rw [z0, g6 12 (by omega)]; exact r6
  · rw [cF 192 (by omega) (by omega)]; exact r7
  · rw [cF 194 (by omega) (by omega)]; exact r8
  · rw [cw, gA_sA1]; exact r9.keep E h1 h2 (fun i hi _ => hl i hi)
  · rw [gA_sA1, cA 210 (by omega) (by omega)]; intro j hj; rw [h1, h2]; exact r10 j hj
theorem SR.seed {g : gG} {x : Nat} {m : Nat → Int32} {n k : Nat} (S : SR g x m n k) (v : Int32) : SR (sF g x 5 v) x (upd m 9 v) n k := by
  obtain ⟨V, k1, m3, m4, X, L, B, W, I⟩ := S
  have h10 := V.2.2.1
  have A : ∀ q, q ≠ 9 → upd m 9 v q = m q := fun q h => upd_2 _ _ h
  obtain ⟨hx, hn, _, hk, h12, e3, e4, e5, e6, e7, e8, e11, e9, e10⟩ := V
  have z : ∀ j, j ≠ 5 → gF (sF g x 5 v) x j = gF g x j := fun j hj => by rw [gF_sF1, upd_2 _ _ hj]
  refine ⟨⟨hx, (z 0 (by omega)).trans hn, h10, (z 1 (by omega)).trans hk, h12, ?_, ?_, ?_, ?_, ?_, ?_, ?_, ?_, ?_⟩, k1, (A 3 (by omega)).trans m3, (A 4 (by omega)).trans m4, ?_, L.keep (gF_sF2 _ _ (by omega)) rfl (A 8 (by omega)) (fun q _ _ => A q (by omega)), B, W.cg (fun q _ => A _ (by omega)) (fun i _ => A _ (by omega)) (fun q _ => A _ (by omega)), I.cg h10 (fun q _ => A _ (by omega)) (fun q _ => A _ (by omega)) (fun q _ => A _ (by omega)) (fun q _ _ => A q (by omega))⟩
  · intro q hq; rw [A _ (by omega)]; exact e3 q hq
  · intro q hq; rw [A _ (by omega)]; exact e4 q hq
  · intro q hq; rw [A _ (by omega)]; exact e5 q hq
  · intro q hq; rw [A _ (by omega)]; exact e6 q hq
  · intro q hq; rw [A _ (by omega)]; exact e7 q hq
  · intro q hq; rw [A _ (by omega)]; exact e8 q hq
  · intro q hq; rw [A _ (by omega)]; exact e11 q hq
  · intro p o hp ho; rw [A _ (by omega)]; exact e9 p o hp ho
  · intro p o hp ho; rw [A _ (by omega)]; exact e10 p o hp ho
  · refine ⟨(z 2 (by omega)).trans (X.1.trans (A 5 (by omega)).symm), (z 3 (by omega)).trans (X.2.1.trans (A 6 (by omega)).symm), (z 4 (by omega)).trans (X.2.2.1.trans (A 7 (by omega)).symm), ?_, (z 6 (by omega)).trans (X.2.2.2.2.1.trans (A 0 (by omega)).symm), by rw [A 0 (by omega)]; exact X.2.2.2.2.2⟩
    rw [gF_sF1, upd_1, upd_1]
theorem cb_seed {g : gG} (R : RE Nq g) (x : Int32) : Cb Nq (fX11_seed 0 x (gH g)) (fun g1 => fX12_seed 206 x (gH g1)) := by
  have R0 := R
  obtain ⟨n, k, s, f, R⟩ := R
  have S := R.1
  have V := S.1
  obtain ⟨rn, h10, rk, h12⟩ := R.rv
  have W := V
  obtain ⟨hx, hn, _, hk, _, e3, e4, e5, e6, e7, e8, e11, e9, e10⟩ := W
  have hs : s ≤ 12 := R.2.1.1
  have q := S.2.2.2.2.1.2.2.2.1
  refine ⟨gA g 207 9, sF g 6 5 x, sA (sF (sF g 6 5 x) 206 0 (nI 0)) 207 (upd (gA g 207) 9 x), ?_, ?_, n, k, s, f, now_ok R (upd_2 _ _ (by omega)) (upd_2 _ _ (by omega)) (fun i hi => upd_2 _ _ (by omega)) Fs_F0 (S.seed x)⟩
  · simp (disch := first | omega | assumption | exact isSt6 | exact isSt18 | exact isSt30) only [fX11_seed, fr_0_1, fi_s5, fw_s5, bdS, ck_t, ck_T, cb_0, cb_1, ab_jn, if_true, if_false, fi_s5, fw_s5, q]
  · simp (disch := first | omega | assumption | exact isSt6 | exact isSt18 | exact isSt30) only [fX12_seed, fw_206_0, fr_206_1, ia_207, iw_207, bdS, ck_t, ck_T, cb_0, cb_1, ab_jn, if_true, if_false, gA_sF]
theorem cr_fault {g : gG} (R : RE Nq g) : Cr Nq g (fX11_fault 0 (gH g)) (fun g1 => fX12_fault 206 (gH g1)) := by
  have R0 := R
  obtain ⟨n, k, s, f, R⟩ := R
  have S := R.1
  have V := S.1
  obtain ⟨rn, h10, rk, h12⟩ := R.rv
  have W := V
  obtain ⟨hx, hn, _, hk, _, e3, e4, e5, e6, e7, e8, e11, e9, e10⟩ := W
  have hs : s ≤ 12 := R.2.1.1
  refine ⟨gF g 206 12, sF g 206 0 (nI 0), ?_, ?_, n, k, s, f, R.thr _⟩
  · simp (disch := first | omega | assumption | exact isSt6 | exact isSt18 | exact isSt30) only [fX11_fault, fi_0_10, bdS, ck_t, ck_T, cb_0, cb_1, ab_jn, if_true, if_false, R.2.2.2.2.2.1]
  · simp (disch := first | omega | assumption | exact isSt6 | exact isSt18 | exact isSt30) only [fX12_fault, fw_206_0, fi_206_12, bdS, ck_t, ck_T, cb_0, cb_1, ab_jn, if_true, if_false, gF_sF1]
    rw [upd_2 _ _ (by omega)]
theorem Kp_T {g : gG} {v w : Int32} : Kp g (sF (sF g 4 1 v) 206 8 w) := by
  have h1 : ∀ b, b ≠ 206 → b ≠ 4 → gF (sF (sF g 4 1 v) 206 8 w) b = gF g b := fun b hb hb' => by rw [gF_sF2 _ _ hb, gF_sF2 _ _ hb']
  refine ⟨⟨rfl, fun _ => rfl, fun b hb => h1 b (by omega) (by omega), rfl, fun _ _ _ => rfl⟩, fun b _ hb => ⟨h1 b (by omega) (by omega), rfl, rfl, rfl⟩, fun b _ hb => ⟨h1 b (by omega) (by omega), rfl, rfl, rfl⟩, rfl, rfl, rfl, ?_, congrFun (h1 192 (by omega) (by omega)) 1, congrFun (h1 194 (by omega) (by omega)) 1⟩
  intro j hj
  rw [gF_sF1, upd_2 _ _ (by omega), gF_sF2 _ _ (by omega)]
theorem sF_comm (g : gG) {a k1 k2 : Nat} {v1 v2 : Int32} (h : k1 ≠ k2) : sF (sF g a k1 v1) a k2 v2 = sF (sF g a k2 v2) a k1 v1 := by
  unfold sF
  refine Prod.ext rfl (Prod.ext ?_ rfl)
  funext b
  show (if b = a then upd (if a = a then upd (g.2.1 a) k1 v1 else g.2.1 a) k2 v2 else if b = a then upd (g.2.1 a) k1 v1 else g.2.1 b) = (if b = a then upd (if a = a then upd (g.2.1 a) k2 v2 else g.2.1 a) k1 v1 else if b = a then upd (g.2.1 a) k2 v2 else g.2.1 b)
  by_cases c : b = a
  · simp only [c, if_true]; exact fa_upd_swap _ h v1 v2
  · simp only [c, if_false]
theorem cb_end {g : gG} (R : RE Nq g) (x : Int32) : Cb Nq (fX11_end 0 x (gH g)) (fun g1 => fX12_end 206 x (gH g1)) := by
  have R0 := R
  obtain ⟨n, k, s, f, R⟩ := R
  have S := R.1
  have V := S.1
  obtain ⟨rn, h10, rk, h12⟩ := R.rv
  have W := V
  obtain ⟨hx, hn, _, hk, _, e3, e4, e5, e6, e7, e8, e11, e9, e10⟩ := W
  have hs : s ≤ 12 := R.2.1.1
  obtain ⟨L, t1, t2, t3, t4⟩ := R.2.2.2.1
  have u8 : upd (gF g 206) 0 (nI 0) 8 = nI L := by rw [upd_2 _ _ (by omega)]; exact t3
  by_cases c0 : x < 0
  · refine ⟨nI 0, g, sF g 206 0 (nI 0), ?_, ?_, n, k, s, f, R.thr _⟩
    · simp (disch := first | omega | assumption | exact isSt6 | exact isSt18 | exact isSt30) only [fX11_end, fr_0_0, fi_4_1, fw_4_1, bdS, ck_t, ck_T, cb_0, cb_1, ab_jn, if_true, if_false, c0, reduceCtorEq, m1_ne, and_true, true_and, and_false, false_and, not_true_eq_false, not_false_eq_true, ne_eq, decide_true, decide_false, Bool.false_eq_true, ite_true, ite_false, if_true, if_false, Nat.add_zero, Bool.and_true, Bool.true_and, Bool.and_false, Bool.false_and, Bool.or_true, Bool.true_or, Bool.or_false, Bool.false_or, decide_not, Bool.not_true, Bool.not_false, or_true, true_or, or_false, false_or, or_self, and_self, decide_eq_true_eq]
    · have : decide (¬ x < nI 0 ∧ x ≤ nI L) = false := by rw [nI_0]; simp [c0]
      simp (disch := first | omega | assumption | exact isSt6 | exact isSt18 | exact isSt30) only [fX12_end, fw_206_0, fi_206_8, fw_206_8, bdS, ck_t, ck_T, cb_0, cb_1, ab_jn, if_true, if_false, rf_isIn, gF_sF1, u8, this, bI_0, reduceCtorEq, m1_ne, and_true, true_and, and_false, false_and, not_true_eq_false, not_false_eq_true, ne_eq, decide_true, decide_false, Bool.false_eq_true, ite_true, ite_false, if_true, if_false, Nat.add_zero, Bool.and_true, Bool.true_and, Bool.and_false, Bool.false_and, Bool.or_true, Bool.true_or, Bool.or_false, Bool.false_or, decide_not, Bool.not_true, Bool.not_false, or_true, true_or, or_false, false_or, or_self, and_self, decide_eq_true_eq]
  · obtain ⟨j, hj, rfl⟩ := nI_of c0
    by_cases c1 : j ≤ L
    · have e1 : decide (¬ nI j < nI 0 ∧ nI j ≤ nI L) = true := by rw [nI_0]; exact decide_eq_true ⟨c0, nI_le c1 (by omega)⟩
      have e2 : fX12_isIn (nI j) (nI 0) (nI L) (gH (sF (sF g 4 1 (nI j)) 206 0 (nI 0))) = some (bI true) := by rw [rf_isIn, e1]
      have u8' : upd (gF (sF g 4 1 (nI j)) 206) 0 (nI 0) 8 = nI L := by rw [upd_2 _ _ (by omega), gF_sF2 _ _ (by omega)]; exact t3
      have c2 : ¬ L < j := by omega
      refine ⟨nI 1, sF g 4 1 (nI j), sF (sF (sF g 4 1 (nI j)) 206 0 (nI 0)) 206 8 (nI j), ?_, ?_, n, k, s, f, ?_⟩
      · have c3 : ¬ nI L < nI j := nI_nlt c1 (by omega)
        simp (disch := first | omega | assumption | exact isSt6 | exact isSt18 | exact isSt30) only [fX11_end, fr_0_0, fi_4_1, fw_4_1, bdS, ck_t, ck_T, cb_0, cb_1, ab_jn, if_true, if_false, c0, t2, c1, c3, nI_add, pk_mul, nI_ltI, nI_leI, nI_eq, reduceCtorEq, m1_ne, and_true, true_and, and_false, false_and, not_true_eq_false, not_false_eq_true, ne_eq, decide_true, decide_false, Bool.false_eq_true, ite_true, ite_false, if_true, if_false, Nat.add_zero, Bool.and_true, Bool.true_and, Bool.and_false, Bool.false_and, Bool.or_true, Bool.true_or, Bool.or_false, Bool.false_or, decide_not, Bool.not_true, Bool.not_false, or_true, true_or, or_false, false_or, or_self, and_self, decide_eq_true_eq]
      · simp (disch := first | omega | assumption | exact isSt6 | exact isSt18 | exact isSt30) only [fX12_end, fw_206_0, fi_206_8, fw_206_8, bdS, ck_t, ck_T, cb_0, cb_1, ab_jn, if_true, if_false, gF_sF1, u8', e2, bI_0, reduceCtorEq, m1_ne, and_true, true_and, and_false, false_and, not_true_eq_false, not_false_eq_true, ne_eq, decide_true, decide_false, Bool.false_eq_true, ite_true, ite_false, if_true, if_false, Nat.add_zero, Bool.and_true, Bool.true_and, Bool.and_false, Bool.false_and, Bool.or_true, Bool.true_or, Bool.or_false, Bool.false_or, decide_not, Bool.not_true, Bool.not_false, or_true, true_or, or_false, false_or, or_self, and_self, decide_eq_true_eq]
      · have R1 := R.kp (Kp_T (v := nI j) (w := nI j)) ⟨j, by omega, ?_, ?_, fun i hi => t4 i (by omega)⟩
        · have R2 := R1.thr (nI 0)
          have e : sF (sF (sF g 4 1 (nI j)) 206 8 (nI j)) 206 0 (nI 0) = sF (sF (sF g 4 1 (nI j)) 206 0 (nI 0)) 206 8 (nI j) := by
            exact sF_comm _ (by omega)
          rw [e] at R2; exact R2
        · rw [gF_sF2 _ _ (by omega), gF_sF1, upd_1]
        · rw [gF_sF1, upd_1]
    · have e1 : decide (¬ nI j < nI 0 ∧ nI j ≤ nI L) = false := decide_eq_false (fun h => c1 ((nI_leI hj (by omega)).mp h.2))
      have e2 : fX12_isIn (nI j) (nI 0) (nI L) (gH (sF g 206 0 (nI 0))) = some (bI false) := by rw [rf_isIn, e1]
      refine ⟨nI 0, g, sF g 206 0 (nI 0), ?_, ?_, n, k, s, f, R.thr _⟩
      · have c3 : nI L < nI j := nI_lt (by omega) (by omega)
        have c4 : ¬ j ≤ L := c1
        simp (disch := first | omega | assumption | exact isSt6 | exact isSt18 | exact isSt30) only [fX11_end, fr_0_0, fi_4_1, fw_4_1, bdS, ck_t, ck_T, cb_0, cb_1, ab_jn, if_true, if_false, c0, t2, c3, c4, nI_add, pk_mul, nI_ltI, nI_leI, nI_eq, reduceCtorEq, m1_ne, and_true, true_and, and_false, false_and, not_true_eq_false, not_false_eq_true, ne_eq, decide_true, decide_false, Bool.false_eq_true, ite_true, ite_false, if_true, if_false, Nat.add_zero, Bool.and_true, Bool.true_and, Bool.and_false, Bool.false_and, Bool.or_true, Bool.true_or, Bool.or_false, Bool.false_or, decide_not, Bool.not_true, Bool.not_false, or_true, true_or, or_false, false_or, or_self, and_self, decide_eq_true_eq]
      · simp (disch := first | omega | assumption | exact isSt6 | exact isSt18 | exact isSt30) only [fX12_end, fw_206_0, fi_206_8, fw_206_8, bdS, ck_t, ck_T, cb_0, cb_1, ab_jn, if_true, if_false, gF_sF1, u8, e2, bI_0, reduceCtorEq, m1_ne, and_true, true_and, and_false, false_and, not_true_eq_false, not_false_eq_true, ne_eq, decide_true, decide_false, Bool.false_eq_true, ite_true, ite_false, if_true, if_false, Nat.add_zero, Bool.and_true, Bool.true_and, Bool.and_false, Bool.false_and, Bool.or_true, Bool.true_or, Bool.or_false, Bool.false_or, decide_not, Bool.not_true, Bool.not_false, or_true, true_or, or_false, false_or, or_self, and_self, decide_eq_true_eq]
