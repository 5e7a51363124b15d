variable {Nq : Nat}
/-! ===== calls that only ask ===== -/
def Cq (Nq : Nat) (g : gG) (X : Option (Int32 ⊕ String)) (Y : gG → Option (Int32 × ab_H)) (cs : List String) : Prop := ∃ r v g2, X = some r ∧ Y g = some (v, gH g2) ∧ Ag r v (gF g2 206 0) cs ∧ RE Nq g2
theorem Cq_of {g : gG} (R : RE Nq g) {X : Option (Int32 ⊕ String)} {Y : gG → Option (Int32 × ab_H)} {cs : List String} (h : ∃ r v t, X = some r ∧ Y g = some (v, gH (sF g 206 0 t)) ∧ Ag r v t cs) : Cq Nq g X Y cs := by
  obtain ⟨n, k, s, f, R⟩ := R
  obtain ⟨r, v, t, h1, h2, h3⟩ := h
  exact ⟨r, v, _, h1, h2, by rw [gF_sF1, upd_1]; exact h3, n, k, s, f, R.thr t⟩
theorem Cr_of {g : gG} (R : RE Nq g) {X : Option Int32} {Y : gG → Option (Int32 × ab_H)} {v : Int32} {t : Int32} (h1 : X = some v) (h2 : Y g = some (v, gH (sF g 206 0 t))) : Cr Nq g X Y := by
  obtain ⟨n, k, s, f, R⟩ := R
  exact ⟨v, _, h1, h2, n, k, s, f, R.thr t⟩
theorem cq_hook {g : gG} (R : RE Nq g) (x : Int32) : Cq Nq g (fX11_hook 0 x (gH g)) (fun g => fX12_hook 206 x (gH g)) [eIx] := by
  have R0 := R; obtain ⟨n, k, s, f, R⟩ := R
  exact Cq_of R0 (ca_hook R.1.1 R.rv x)
theorem cq_thinks {g : gG} (R : RE Nq g) (x y : Int32) : Cq Nq g (fX11_thinks 0 x y (gH g)) (fun g => fX12_thinks 206 x y (gH g)) [eIx, eAr] := by
  have R0 := R; obtain ⟨n, k, s, f, R⟩ := R
  exact Cq_of R0 (ca_thinks R.1.1 R.rv x y)
theorem cq_wish {g : gG} (R : RE Nq g) (x y : Int32) {F : Nat} (hF : 11000 < F) : Cq Nq g (fX11_wish 0 x y (gH g)) (fun g => fX12_wish F 206 x y (gH g)) [eIx] := by
  have R0 := R; obtain ⟨n, k, s, f, R⟩ := R
  exact Cq_of R0 (ca_wish R.1.1 R.rv R.1.i.2.2.2.1 x y hF)
theorem cq_passes {g : gG} (R : RE Nq g) (x y : Int32) {F : Nat} (hF : 11000 < F) : Cq Nq g (fX11_passes F 0 x y (gH g)) (fun g => fX12_passes F 206 x y (gH g)) [eAr] := by
  have R0 := R; obtain ⟨n, k, s, f, R⟩ := R
  exact Cq_of R0 (ca_passes R.1.1 R.rv R.1.i.1 x y hF)
theorem cq_forged {g : gG} (R : RE Nq g) (x : Int32) {F : Nat} (hF : 11000 < F) : Cq Nq g (fX11_forged F 0 x (gH g)) (fun g => fX12_forged F 206 x (gH g)) [eAr] := by
  have R0 := R; obtain ⟨n, k, s, f, R⟩ := R
  have h12 := R.1.c.k12
  exact Cq_of R0 (ca_forged R.1.1 R.rv (fun h hh => (R.1.w.2.2.1 h (by omega)).imp id (fun h => h.2)) x hF)
theorem cr_wrong {g : gG} (R : RE Nq g) {F : Nat} (hF : 11000 < F) : Cr Nq g (fX11_wrong F 0 (gH g)) (fun g => fX12_wrong_ F 206 (gH g)) := by
  have R0 := R; obtain ⟨n, k, s, f, R⟩ := R
  obtain ⟨rn, h10, rk, h12⟩ := R.rv
  have V := R.1.1
  refine Cr_of R0 (v := nI (st (fun p => decide (¬ gA g 207 (12 + 6 * p + 2) = -1) && decide (¬ gA g 207 (12 + 6 * p + 2) = nI p)) n)) (t := nI 0) ?_ ?_
  · simp (disch := first | omega | assumption | exact isSt6 | exact isSt18 | exact isSt30) only [fX11_wrong, io_s, fr_0_1, bdS, ck_t, ck_T, cb_0, cb_1, ab_jn, if_true, if_false, io_s, cl_wrongOnes V hF]
  · simp (disch := first | omega | assumption | exact isSt6 | exact isSt18 | exact isSt30) only [fX12_wrong_, io_206, fw_206_0, bdS, ck_t, ck_T, cb_0, cb_1, ab_jn, if_true, if_false, rf_wrongs (sF g 206 0 (nI 0)) rn h10 hF, gA_sF]
    rfl
theorem cr_lost {g : gG} (R : RE Nq g) {F : Nat} (hF : 11000 < F) : Cr Nq g (fX11_lost F 0 (gH g)) (fun g => fX12_lost F 206 (gH g)) := by
  have R0 := R; obtain ⟨n, k, s, f, R⟩ := R
  obtain ⟨rn, h10, rk, h12⟩ := R.rv
  exact Cr_of R0 (cl_lost R.1.1 hF) (rf_lost g rn h10 rk h12 hF)
theorem cr_unclaimed {g : gG} (R : RE Nq g) {F : Nat} (hF : 11000 < F) : Cr Nq g (fX11_unclaimed F 0 (gH g)) (fun g => fX12_unclaimed F 206 (gH g)) := by
  have R0 := R; obtain ⟨n, k, s, f, R⟩ := R
  obtain ⟨rn, h10, rk, h12⟩ := R.rv
  exact Cr_of R0 (cl_unclaimed R.1.1 hF) (rf_unclaimed g rn h10 rk h12 hF)
theorem cr_saved {g : gG} (R : RE Nq g) {F : Nat} (hF : 11000 < F) : Cr Nq g (fX11_saved F 0 (gH g)) (fun g => fX12_saved F 206 (gH g)) := by
  have R0 := R; obtain ⟨n, k, s, f, R⟩ := R
  obtain ⟨rn, h10, rk, h12⟩ := R.rv
  exact Cr_of R0 (cl_saved R.1.1 hF R.1.i.2.1) (rf_saved g rn h10 hF R.1.i.2.1)
theorem cr_marks {g : gG} (R : RE Nq g) {F : Nat} (hF : 11000 < F) : Cr Nq g (fX11_marks F 0 (gH g)) (fun g => fX12_marks F 206 (gH g)) := by
  have R0 := R; obtain ⟨n, k, s, f, R⟩ := R
  obtain ⟨rn, h10, rk, h12⟩ := R.rv
  exact Cr_of R0 (cl_marks R.1.1 hF) (rf_marks g rn h10 hF)
theorem cr_unknown {g : gG} (R : RE Nq g) {F : Nat} (hF : 11000 < F) : Cr Nq g (fX11_unknown F 0 (gH g)) (fun g => fX12_unknown F 206 (gH g)) := by
  have R0 := R; obtain ⟨n, k, s, f, R⟩ := R
  obtain ⟨rn, h10, rk, h12⟩ := R.rv
  exact Cr_of R0 (cl_unknown R.1.1 hF) (rf_unknown g rn h10 hF)
theorem cr_count {g : gG} (R : RE Nq g) (x : Int32) {F : Nat} (hF : 11000 < F) : Cr Nq g (fX11_count F 0 x (gH g)) (fun g => fX12_count F 206 x (gH g)) := by
  have R0 := R; obtain ⟨n, k, s, f, R⟩ := R
  have V := R.1.1
  obtain ⟨rn, h10, rk, h12⟩ := R.rv
  obtain ⟨q1, q2, q3, q4, q5⟩ := R.1.2.2.2.2.1
  obtain ⟨lr, nx, l1, l2, l3, l4, l5, l6⟩ := R.1.2.2.2.2.2.1
  have W := V
  obtain ⟨hx, hn, h10, hk, h12, e3, e4, e5, e6, e7, e8, e11, e9, e10⟩ := W
  have b : ∀ j, j < 2 ^ 31 → ∀ x : Int32, x = nI j ∨ ¬ x = nI j := fun j _ x => Decidable.em _
  have hu := rf_hung (sF g 206 0 (nI 0)) rk h12 hF
  have hh := rf_holders (sF g 206 0 (nI 0)) rn h10 hF
  have hm := rf_marksNow (sF g 206 0 (nI 0)) rn h10 hF
  have lw := R.2.2.2.2.2.2.2.2.1
  have fl : ab_fi (gH g) (gw g 6) 2 0 = some (gF g (gw g 6) 0) := fi_w0 g lw.1
  have hb : ∀ p, p < n → nv (gA g 207 (12 + 6 * p)) < 4096 := fun p hp => lt4096 (R.1.i.1 p hp)
  have mc := cl_allMarksCount V hF hb
  have tc := cl_ticketHolders V hF
  have hc := cl_hungCount V hF
  have p3 := R.2.1.2.2.1
  have u6 : upd (gF g 206) 0 (nI 0) 6 = nI s := by rw [upd_2 _ _ (by omega)]; exact R.2.2.1
  have lw2 : gF g (gw g 6) 0 = gA g 207 1 := lw.2.1
  by_cases c0 : x = nI 0
  · subst c0
    have ij : ∀ h, fX12_isIn (nI 0) (nI 5) (nI 7) h = some (nI 0) := fun h => rfl
    have ea : nI 5 + nI 0 - nI 5 = nI 0 := by decide
    exact Cr_of R0 (v := nI n) (t := nI 0) (by simp (disch := first | omega | assumption | exact isSt6 | exact isSt18 | exact isSt30) only [fX11_count, io_s, fr_0_1, fi_s0, fi_s1, fi_s6, fr_s7, fi_w0, fi_s2, fi_s3, fi_s4, fr_s8, fi_l1, fr_0_4, fi_42_2, bdS, ck_t, ck_T, cb_0, cb_1, ab_jn, if_true, if_false, fi_s0, hn, nI_eq, if_true, if_false, show ¬ (0 = 1) by omega, show ¬ (0 = 2) by omega, show ¬ (0 = 3) by omega, show ¬ (0 = 4) by omega, show ¬ (0 = 5) by omega, show ¬ (0 = 6) by omega, show ¬ (0 = 7) by omega, show ¬ (0 = 8) by omega, show ¬ (0 = 9) by omega, show ¬ (0 = 10) by omega, show ¬ (0 = 11) by omega]) (by simp (disch := first | omega | assumption | exact isSt6 | exact isSt18 | exact isSt30) only [fX12_count, io_206, fw_206_0, fr_206_1, ia_207, fi_206_6, bdS, ck_t, ck_T, cb_0, cb_1, ab_jn, if_true, if_false, ij, ea, z_eq, gA_sF, nI_eq, rn, if_true, if_false, show ¬ (1 = 0) by omega, show ¬ (0 = 1) by omega, show ¬ (0 = 2) by omega, show ¬ (0 = 3) by omega, show ¬ (0 = 4) by omega, show ¬ (0 = 5) by omega, show ¬ (0 = 6) by omega, show ¬ (0 = 7) by omega, show ¬ (0 = 8) by omega, show ¬ (0 = 9) by omega, show ¬ (0 = 10) by omega, show ¬ (0 = 11) by omega])
  by_cases c1 : x = nI 1
  · subst c1
    have ij : ∀ h, fX12_isIn (nI 1) (nI 5) (nI 7) h = some (nI 0) := fun h => rfl
    have ea : nI 5 + nI 1 - nI 5 = nI 1 := by decide
    exact Cr_of R0 (v := nI k) (t := nI 0) (by simp (disch := first | omega | assumption | exact isSt6 | exact isSt18 | exact isSt30) only [fX11_count, io_s, fr_0_1, fi_s0, fi_s1, fi_s6, fr_s7, fi_w0, fi_s2, fi_s3, fi_s4, fr_s8, fi_l1, fr_0_4, fi_42_2, bdS, ck_t, ck_T, cb_0, cb_1, ab_jn, if_true, if_false, fi_s1, hk, nI_eq, if_true, if_false, show ¬ (1 = 0) by omega, show ¬ (1 = 2) by omega, show ¬ (1 = 3) by omega, show ¬ (1 = 4) by omega, show ¬ (1 = 5) by omega, show ¬ (1 = 6) by omega, show ¬ (1 = 7) by omega, show ¬ (1 = 8) by omega, show ¬ (1 = 9) by omega, show ¬ (1 = 10) by omega, show ¬ (1 = 11) by omega]) (by simp (disch := first | omega | assumption | exact isSt6 | exact isSt18 | exact isSt30) only [fX12_count, io_206, fw_206_0, fr_206_1, ia_207, fi_206_6, bdS, ck_t, ck_T, cb_0, cb_1, ab_jn, if_true, if_false, ij, ea, z_eq, gA_sF, nI_eq, rk, if_true, if_false, show ¬ (1 = 0) by omega, show ¬ (1 = 0) by omega, show ¬ (1 = 2) by omega, show ¬ (1 = 3) by omega, show ¬ (1 = 4) by omega, show ¬ (1 = 5) by omega, show ¬ (1 = 6) by omega, show ¬ (1 = 7) by omega, show ¬ (1 = 8) by omega, show ¬ (1 = 9) by omega, show ¬ (1 = 10) by omega, show ¬ (1 = 11) by omega])
  by_cases c2 : x = nI 2
  · subst c2
    have ij : ∀ h, fX12_isIn (nI 2) (nI 5) (nI 7) h = some (nI 0) := fun h => rfl
    have ea : nI 5 + nI 2 - nI 5 = nI 2 := by decide
    exact Cr_of R0 (v := nI (fb_ct (fun h => decide (¬ gA g 207 (272 + h) = -1)) k)) (t := nI 0) (by simp (disch := first | omega | assumption | exact isSt6 | exact isSt18 | exact isSt30) only [fX11_count, io_s, fr_0_1, fi_s0, fi_s1, fi_s6, fr_s7, fi_w0, fi_s2, fi_s3, fi_s4, fr_s8, fi_l1, fr_0_4, fi_42_2, bdS, ck_t, ck_T, cb_0, cb_1, ab_jn, if_true, if_false, io_s, hc, nI_eq, if_true, if_false, show ¬ (2 = 0) by omega, show ¬ (2 = 1) by omega, show ¬ (2 = 3) by omega, show ¬ (2 = 4) by omega, show ¬ (2 = 5) by omega, show ¬ (2 = 6) by omega, show ¬ (2 = 7) by omega, show ¬ (2 = 8) by omega, show ¬ (2 = 9) by omega, show ¬ (2 = 10) by omega, show ¬ (2 = 11) by omega]) (by simp (disch := first | omega | assumption | exact isSt6 | exact isSt18 | exact isSt30) only [fX12_count, io_206, fw_206_0, fr_206_1, ia_207, fi_206_6, bdS, ck_t, ck_T, cb_0, cb_1, ab_jn, if_true, if_false, ij, ea, z_eq, gA_sF, nI_eq, hu, if_true, if_false, show ¬ (1 = 0) by omega, show ¬ (2 = 0) by omega, show ¬ (2 = 1) by omega, show ¬ (2 = 3) by omega, show ¬ (2 = 4) by omega, show ¬ (2 = 5) by omega, show ¬ (2 = 6) by omega, show ¬ (2 = 7) by omega, show ¬ (2 = 8) by omega, show ¬ (2 = 9) by omega, show ¬ (2 = 10) by omega, show ¬ (2 = 11) by omega]; rfl)
  by_cases c3 : x = nI 3
  · subst c3
    have ij : ∀ h, fX12_isIn (nI 3) (nI 5) (nI 7) h = some (nI 0) := fun h => rfl
    have ea : nI 5 + nI 3 - nI 5 = nI 3 := by decide
    exact Cr_of R0 (v := gA g 207 0) (t := nI 0) (by simp (disch := first | omega | assumption | exact isSt6 | exact isSt18 | exact isSt30) only [fX11_count, io_s, fr_0_1, fi_s0, fi_s1, fi_s6, fr_s7, fi_w0, fi_s2, fi_s3, fi_s4, fr_s8, fi_l1, fr_0_4, fi_42_2, bdS, ck_t, ck_T, cb_0, cb_1, ab_jn, if_true, if_false, fi_s6, q5, nI_eq, if_true, if_false, show ¬ (3 = 0) by omega, show ¬ (3 = 1) by omega, show ¬ (3 = 2) by omega, show ¬ (3 = 4) by omega, show ¬ (3 = 5) by omega, show ¬ (3 = 6) by omega, show ¬ (3 = 7) by omega, show ¬ (3 = 8) by omega, show ¬ (3 = 9) by omega, show ¬ (3 = 10) by omega, show ¬ (3 = 11) by omega]) (by simp (disch := first | omega | assumption | exact isSt6 | exact isSt18 | exact isSt30) only [fX12_count, io_206, fw_206_0, fr_206_1, ia_207, fi_206_6, bdS, ck_t, ck_T, cb_0, cb_1, ab_jn, if_true, if_false, ij, ea, z_eq, gA_sF, nI_eq, if_true, if_false, show ¬ (1 = 0) by omega, show ¬ (3 = 0) by omega, show ¬ (3 = 1) by omega, show ¬ (3 = 2) by omega, show ¬ (3 = 4) by omega, show ¬ (3 = 5) by omega, show ¬ (3 = 6) by omega, show ¬ (3 = 7) by omega, show ¬ (3 = 8) by omega, show ¬ (3 = 9) by omega, show ¬ (3 = 10) by omega, show ¬ (3 = 11) by omega])
  by_cases c4 : x = nI 4
  · subst c4
    have ij : ∀ h, fX12_isIn (nI 4) (nI 5) (nI 7) h = some (nI 0) := fun h => rfl
    have ea : nI 5 + nI 4 - nI 5 = nI 4 := by decide
    exact Cr_of R0 (v := gA g 207 1) (t := nI 0) (by simp (disch := first | omega | assumption | exact isSt6 | exact isSt18 | exact isSt30) only [fX11_count, io_s, fr_0_1, fi_s0, fi_s1, fi_s6, fr_s7, fi_w0, fi_s2, fi_s3, fi_s4, fr_s8, fi_l1, fr_0_4, fi_42_2, bdS, ck_t, ck_T, cb_0, cb_1, ab_jn, if_true, if_false, fr_s7, fl, lw2, nI_eq, if_true, if_false, show ¬ (4 = 0) by omega, show ¬ (4 = 1) by omega, show ¬ (4 = 2) by omega, show ¬ (4 = 3) by omega, show ¬ (4 = 5) by omega, show ¬ (4 = 6) by omega, show ¬ (4 = 7) by omega, show ¬ (4 = 8) by omega, show ¬ (4 = 9) by omega, show ¬ (4 = 10) by omega, show ¬ (4 = 11) by omega]) (by simp (disch := first | omega | assumption | exact isSt6 | exact isSt18 | exact isSt30) only [fX12_count, io_206, fw_206_0, fr_206_1, ia_207, fi_206_6, bdS, ck_t, ck_T, cb_0, cb_1, ab_jn, if_true, if_false, ij, ea, z_eq, gA_sF, nI_eq, if_true, if_false, show ¬ (1 = 0) by omega, show ¬ (4 = 0) by omega, show ¬ (4 = 1) by omega, show ¬ (4 = 2) by omega, show ¬ (4 = 3) by omega, show ¬ (4 = 5) by omega, show ¬ (4 = 6) by omega, show ¬ (4 = 7) by omega, show ¬ (4 = 8) by omega, show ¬ (4 = 9) by omega, show ¬ (4 = 10) by omega, show ¬ (4 = 11) by omega])
  by_cases c5 : x = nI 5
  · subst c5
    have ij : ∀ h, fX12_isIn (nI 5) (nI 5) (nI 7) h = some (nI 1) := fun h => rfl
    have ea : nI 5 + nI 5 - nI 5 = nI 5 := by decide
    exact Cr_of R0 (v := gA g 207 5) (t := nI 0) (by simp (disch := first | omega | assumption | exact isSt6 | exact isSt18 | exact isSt30) only [fX11_count, io_s, fr_0_1, fi_s0, fi_s1, fi_s6, fr_s7, fi_w0, fi_s2, fi_s3, fi_s4, fr_s8, fi_l1, fr_0_4, fi_42_2, bdS, ck_t, ck_T, cb_0, cb_1, ab_jn, if_true, if_false, fi_s2, q1, nI_eq, if_true, if_false, show ¬ (5 = 0) by omega, show ¬ (5 = 1) by omega, show ¬ (5 = 2) by omega, show ¬ (5 = 3) by omega, show ¬ (5 = 4) by omega, show ¬ (5 = 6) by omega, show ¬ (5 = 7) by omega, show ¬ (5 = 8) by omega, show ¬ (5 = 9) by omega, show ¬ (5 = 10) by omega, show ¬ (5 = 11) by omega]) (by simp (disch := first | omega | assumption | exact isSt6 | exact isSt18 | exact isSt30) only [fX12_count, io_206, fw_206_0, fr_206_1, ia_207, fi_206_6, bdS, ck_t, ck_T, cb_0, cb_1, ab_jn, if_true, if_false, ij, ea, z_eq, gA_sF, nI_eq, if_true, if_false, show ¬ (1 = 0) by omega, show ¬ (5 = 0) by omega, show ¬ (5 = 1) by omega, show ¬ (5 = 2) by omega, show ¬ (5 = 3) by omega, show ¬ (5 = 4) by omega, show ¬ (5 = 6) by omega, show ¬ (5 = 7) by omega, show ¬ (5 = 8) by omega, show ¬ (5 = 9) by omega, show ¬ (5 = 10) by omega, show ¬ (5 = 11) by omega])
  by_cases c6 : x = nI 6
  · subst c6
    have ij : ∀ h, fX12_isIn (nI 6) (nI 5) (nI 7) h = some (nI 1) := fun h => rfl
    have ea : nI 5 + nI 6 - nI 5 = nI 6 := by decide
    exact Cr_of R0 (v := gA g 207 6) (t := nI 0) (by simp (disch := first | omega | assumption | exact isSt6 | exact isSt18 | exact isSt30) only [fX11_count, io_s, fr_0_1, fi_s0, fi_s1, fi_s6, fr_s7, fi_w0, fi_s2, fi_s3, fi_s4, fr_s8, fi_l1, fr_0_4, fi_42_2, bdS, ck_t, ck_T, cb_0, cb_1, ab_jn, if_true, if_false, fi_s3, q2, nI_eq, if_true, if_false, show ¬ (6 = 0) by omega, show ¬ (6 = 1) by omega, show ¬ (6 = 2) by omega, show ¬ (6 = 3) by omega, show ¬ (6 = 4) by omega, show ¬ (6 = 5) by omega, show ¬ (6 = 7) by omega, show ¬ (6 = 8) by omega, show ¬ (6 = 9) by omega, show ¬ (6 = 10) by omega, show ¬ (6 = 11) by omega]) (by simp (disch := first | omega | assumption | exact isSt6 | exact isSt18 | exact isSt30) only [fX12_count, io_206, fw_206_0, fr_206_1, ia_207, fi_206_6, bdS, ck_t, ck_T, cb_0, cb_1, ab_jn, if_true, if_false, ij, ea, z_eq, gA_sF, nI_eq, if_true, if_false, show ¬ (1 = 0) by omega, show ¬ (6 = 0) by omega, show ¬ (6 = 1) by omega, show ¬ (6 = 2) by omega, show ¬ (6 = 3) by omega, show ¬ (6 = 4) by omega, show ¬ (6 = 5) by omega, show ¬ (6 = 7) by omega, show ¬ (6 = 8) by omega, show ¬ (6 = 9) by omega, show ¬ (6 = 10) by omega, show ¬ (6 = 11) by omega])
  by_cases c7 : x = nI 7
  · subst c7
    have ij : ∀ h, fX12_isIn (nI 7) (nI 5) (nI 7) h = some (nI 1) := fun h => rfl
    have ea : nI 5 + nI 7 - nI 5 = nI 7 := by decide
    exact Cr_of R0 (v := gA g 207 7) (t := nI 0) (by simp (disch := first | omega | assumption | exact isSt6 | exact isSt18 | exact isSt30) only [fX11_count, io_s, fr_0_1, fi_s0, fi_s1, fi_s6, fr_s7, fi_w0, fi_s2, fi_s3, fi_s4, fr_s8, fi_l1, fr_0_4, fi_42_2, bdS, ck_t, ck_T, cb_0, cb_1, ab_jn, if_true, if_false, fi_s4, q3, nI_eq, if_true, if_false, show ¬ (7 = 0) by omega, show ¬ (7 = 1) by omega, show ¬ (7 = 2) by omega, show ¬ (7 = 3) by omega, show ¬ (7 = 4) by omega, show ¬ (7 = 5) by omega, show ¬ (7 = 6) by omega, show ¬ (7 = 8) by omega, show ¬ (7 = 9) by omega, show ¬ (7 = 10) by omega, show ¬ (7 = 11) by omega]) (by simp (disch := first | omega | assumption | exact isSt6 | exact isSt18 | exact isSt30) only [fX12_count, io_206, fw_206_0, fr_206_1, ia_207, fi_206_6, bdS, ck_t, ck_T, cb_0, cb_1, ab_jn, if_true, if_false, ij, ea, z_eq, gA_sF, nI_eq, if_true, if_false, show ¬ (1 = 0) by omega, show ¬ (7 = 0) by omega, show ¬ (7 = 1) by omega, show ¬ (7 = 2) by omega, show ¬ (7 = 3) by omega, show ¬ (7 = 4) by omega, show ¬ (7 = 5) by omega, show ¬ (7 = 6) by omega, show ¬ (7 = 8) by omega, show ¬ (7 = 9) by omega, show ¬ (7 = 10) by omega, show ¬ (7 = 11) by omega])
  by_cases c8 : x = nI 8
  · subst c8
    have ij : ∀ h, fX12_isIn (nI 8) (nI 5) (nI 7) h = some (nI 0) := fun h => rfl
    have ea : nI 5 + nI 8 - nI 5 = nI 8 := by decide
    exact Cr_of R0 (v := nI (st (fun p => decide (¬ gA g 207 (12 + 6 * p + 3) = -1)) n)) (t := nI 0) (by simp (disch := first | omega | assumption | exact isSt6 | exact isSt18 | exact isSt30) only [fX11_count, io_s, fr_0_1, fi_s0, fi_s1, fi_s6, fr_s7, fi_w0, fi_s2, fi_s3, fi_s4, fr_s8, fi_l1, fr_0_4, fi_42_2, bdS, ck_t, ck_T, cb_0, cb_1, ab_jn, if_true, if_false, io_s, tc, nI_eq, if_true, if_false, show ¬ (8 = 0) by omega, show ¬ (8 = 1) by omega, show ¬ (8 = 2) by omega, show ¬ (8 = 3) by omega, show ¬ (8 = 4) by omega, show ¬ (8 = 5) by omega, show ¬ (8 = 6) by omega, show ¬ (8 = 7) by omega, show ¬ (8 = 9) by omega, show ¬ (8 = 10) by omega, show ¬ (8 = 11) by omega]) (by simp (disch := first | omega | assumption | exact isSt6 | exact isSt18 | exact isSt30) only [fX12_count, io_206, fw_206_0, fr_206_1, ia_207, fi_206_6, bdS, ck_t, ck_T, cb_0, cb_1, ab_jn, if_true, if_false, ij, ea, z_eq, gA_sF, nI_eq, hh, if_true, if_false, show ¬ (1 = 0) by omega, show ¬ (8 = 0) by omega, show ¬ (8 = 1) by omega, show ¬ (8 = 2) by omega, show ¬ (8 = 3) by omega, show ¬ (8 = 4) by omega, show ¬ (8 = 5) by omega, show ¬ (8 = 6) by omega, show ¬ (8 = 7) by omega, show ¬ (8 = 9) by omega, show ¬ (8 = 10) by omega, show ¬ (8 = 11) by omega]; rfl)
  by_cases c9 : x = nI 9
  · subst c9
    have ij : ∀ h, fX12_isIn (nI 9) (nI 5) (nI 7) h = some (nI 0) := fun h => rfl
    have ea : nI 5 + nI 9 - nI 5 = nI 9 := by decide
    exact Cr_of R0 (v := it (fun p a => a + nI (pc (gA g 207 (12 + 6 * p)))) (nI 0) n) (t := nI 0) (by simp (disch := first | omega | assumption | exact isSt6 | exact isSt18 | exact isSt30) only [fX11_count, io_s, fr_0_1, fi_s0, fi_s1, fi_s6, fr_s7, fi_w0, fi_s2, fi_s3, fi_s4, fr_s8, fi_l1, fr_0_4, fi_42_2, bdS, ck_t, ck_T, cb_0, cb_1, ab_jn, if_true, if_false, io_s, mc, nI_eq, if_true, if_false, show ¬ (9 = 0) by omega, show ¬ (9 = 1) by omega, show ¬ (9 = 2) by omega, show ¬ (9 = 3) by omega, show ¬ (9 = 4) by omega, show ¬ (9 = 5) by omega, show ¬ (9 = 6) by omega, show ¬ (9 = 7) by omega, show ¬ (9 = 8) by omega, show ¬ (9 = 10) by omega, show ¬ (9 = 11) by omega]) (by simp (disch := first | omega | assumption | exact isSt6 | exact isSt18 | exact isSt30) only [fX12_count, io_206, fw_206_0, fr_206_1, ia_207, fi_206_6, bdS, ck_t, ck_T, cb_0, cb_1, ab_jn, if_true, if_false, ij, ea, z_eq, gA_sF, nI_eq, hm, if_true, if_false, show ¬ (1 = 0) by omega, show ¬ (9 = 0) by omega, show ¬ (9 = 1) by omega, show ¬ (9 = 2) by omega, show ¬ (9 = 3) by omega, show ¬ (9 = 4) by omega, show ¬ (9 = 5) by omega, show ¬ (9 = 6) by omega, show ¬ (9 = 7) by omega, show ¬ (9 = 8) by omega, show ¬ (9 = 10) by omega, show ¬ (9 = 11) by omega])
  by_cases c10 : x = nI 10
  · subst c10
    have ij : ∀ h, fX12_isIn (nI 10) (nI 5) (nI 7) h = some (nI 0) := fun h => rfl
    have ea : nI 5 + nI 10 - nI 5 = nI 10 := by decide
    exact Cr_of R0 (v := nI lr) (t := nI 0) (by simp (disch := first | omega | assumption | exact isSt6 | exact isSt18 | exact isSt30) only [fX11_count, io_s, fr_0_1, fi_s0, fi_s1, fi_s6, fr_s7, fi_w0, fi_s2, fi_s3, fi_s4, fr_s8, fi_l1, fr_0_4, fi_42_2, bdS, ck_t, ck_T, cb_0, cb_1, ab_jn, if_true, if_false, fr_s8, fi_l1, l3, nI_eq, if_true, if_false, show ¬ (10 = 0) by omega, show ¬ (10 = 1) by omega, show ¬ (10 = 2) by omega, show ¬ (10 = 3) by omega, show ¬ (10 = 4) by omega, show ¬ (10 = 5) by omega, show ¬ (10 = 6) by omega, show ¬ (10 = 7) by omega, show ¬ (10 = 8) by omega, show ¬ (10 = 9) by omega, show ¬ (10 = 11) by omega]) (by simp (disch := first | omega | assumption | exact isSt6 | exact isSt18 | exact isSt30) only [fX12_count, io_206, fw_206_0, fr_206_1, ia_207, fi_206_6, bdS, ck_t, ck_T, cb_0, cb_1, ab_jn, if_true, if_false, ij, ea, z_eq, gA_sF, nI_eq, l4, if_true, if_false, show ¬ (1 = 0) by omega, show ¬ (10 = 0) by omega, show ¬ (10 = 1) by omega, show ¬ (10 = 2) by omega, show ¬ (10 = 3) by omega, show ¬ (10 = 4) by omega, show ¬ (10 = 5) by omega, show ¬ (10 = 6) by omega, show ¬ (10 = 7) by omega, show ¬ (10 = 8) by omega, show ¬ (10 = 9) by omega, show ¬ (10 = 11) by omega])
  by_cases c11 : x = nI 11
  · subst c11
    have ij : ∀ h, fX12_isIn (nI 11) (nI 5) (nI 7) h = some (nI 0) := fun h => rfl
    have ea : nI 5 + nI 11 - nI 5 = nI 11 := by decide
    exact Cr_of R0 (v := nI s) (t := nI 0) (by simp (disch := first | omega | assumption | exact isSt6 | exact isSt18 | exact isSt30) only [fX11_count, io_s, fr_0_1, fi_s0, fi_s1, fi_s6, fr_s7, fi_w0, fi_s2, fi_s3, fi_s4, fr_s8, fi_l1, fr_0_4, fi_42_2, bdS, ck_t, ck_T, cb_0, cb_1, ab_jn, if_true, if_false, fr_0_4, fi_42_2, p3, nI_eq, if_true, if_false, show ¬ (11 = 0) by omega, show ¬ (11 = 1) by omega, show ¬ (11 = 2) by omega, show ¬ (11 = 3) by omega, show ¬ (11 = 4) by omega, show ¬ (11 = 5) by omega, show ¬ (11 = 6) by omega, show ¬ (11 = 7) by omega, show ¬ (11 = 8) by omega, show ¬ (11 = 9) by omega, show ¬ (11 = 10) by omega]) (by simp (disch := first | omega | assumption | exact isSt6 | exact isSt18 | exact isSt30) only [fX12_count, io_206, fw_206_0, fr_206_1, ia_207, fi_206_6, bdS, ck_t, ck_T, cb_0, cb_1, ab_jn, if_true, if_false, ij, ea, z_eq, gA_sF, nI_eq, u6, gF_sF1, if_true, if_false, show ¬ (1 = 0) by omega, show ¬ (11 = 0) by omega, show ¬ (11 = 1) by omega, show ¬ (11 = 2) by omega, show ¬ (11 = 3) by omega, show ¬ (11 = 4) by omega, show ¬ (11 = 5) by omega, show ¬ (11 = 6) by omega, show ¬ (11 = 7) by omega, show ¬ (11 = 8) by omega, show ¬ (11 = 9) by omega, show ¬ (11 = 10) by omega])
  have i5 : ∀ h, fX12_isIn x (nI 5) (nI 7) h = some (nI 0) := by
    intro h
    have : decide (¬ x < nI 5 ∧ x ≤ nI 7) = false := by
      refine decide_eq_false (fun ⟨a1, a2⟩ => ?_)
      obtain ⟨j, hj, rfl⟩ := nI_of (x := x) (fun hx => a1 (by rw [fa_lt] at hx ⊢; rw [show (0 : Int32).toInt = 0 by decide] at hx; rw [nI_toInt (by decide)]; omega))
      have b1 : ¬ j < 5 := fun h => a1 (nI_lt h (by decide))
      have b2 : j ≤ 7 := (nI_leI hj (by decide)).mp a2
      have : j = 5 ∨ j = 6 ∨ j = 7 := by omega
      rcases this with rfl | rfl | rfl
      · exact c5 rfl
      · exact c6 rfl
      · exact c7 rfl
    rw [rf_isIn, this]; rfl
  have c0' : ¬ x = 0 := fun h => c0 (h.trans nI_0.symm)
  have z1 : (nI 0 : Int32) = 0 := nI_0
  exact Cr_of R0 (v := -1) (t := nI 0) (by simp (disch := first | omega | assumption | exact isSt6 | exact isSt18 | exact isSt30) only [fX11_count, io_s, fr_0_1, fi_s0, fi_s1, fi_s6, fr_s7, fi_w0, fi_s2, fi_s3, fi_s4, fr_s8, fi_l1, fr_0_4, fi_42_2, bdS, ck_t, ck_T, cb_0, cb_1, ab_jn, if_true, if_false, c0, c1, c2, c3, c4, c5, c6, c7, c8, c9, c10, c11, if_false]) (by simp (disch := first | omega | assumption | exact isSt6 | exact isSt18 | exact isSt30) only [fX12_count, io_206, fw_206_0, fr_206_1, ia_207, fi_206_6, bdS, ck_t, ck_T, cb_0, cb_1, ab_jn, if_true, if_false, i5, c0', c1, c2, c3, c4, c8, c9, c10, c11, z_eq, if_false, if_true])
