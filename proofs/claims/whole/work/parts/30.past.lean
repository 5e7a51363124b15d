/-! ===== Past of the class, acts of the reference ===== -/
set_option maxHeartbeats 2000000 in
theorem cpS_Cp (g : gG) {x y : Nat} (hd : x + 12 ≤ y ∨ y + 12 ≤ x) : Cp g (cpS g x y) x y := by
  unfold Cp cpS
  refine ⟨fun b hb => ⟨?_, ?_, ?_, ?_⟩, rfl, fun b => rfl, ?_, ?_, ?_, ?_, ?_, ?_, ?_, ?_⟩
  · simp (disch := omega) only [gF_sA, gF_sF2, gF_sL, gF_sW]
  · simp (disch := omega) only [gA_sA2, gA_sF, gA_sL, gA_sW]
  · simp (disch := omega) only [gL_sA, gL_sF, gL_sL2, gL_sW]
  · simp only [gw_sA, gw_sF, gw_sL, gw_sW]; rw [if_neg (by omega)]
  · intro k hk
    simp (disch := omega) only [gF_sA, gF_sF2, gF_sL, gF_sW, gF_sF1]
    rcases k with _ | _ | _ | _ | _ | _ | _ | k
    · simp [upd_e]
    · simp [upd_e]
    · simp [upd_e]
    · simp [upd_e]
    · simp [upd_e]
    · simp [upd_e]
    · simp [upd_e]
    · omega
  · simp only [gw_sA, gw_sF, gw_sL, gw_sW, if_true]
  · simp (disch := omega) only [gF_sA, gF_sF1]; simp [upd_e]
  · simp (disch := omega) only [gF_sA, gF_sF1]; simp [upd_e]
  · intro i hi
    simp (disch := omega) only [gL_sA, gL_sF, gL_sL1, cpy0]
  · intro r h1 h2 i hi
    have : r = 3 ∨ r = 4 ∨ r = 5 ∨ r = 6 ∨ r = 7 ∨ r = 8 := by omega
    rcases this with rfl | rfl | rfl | rfl | rfl | rfl <;> simp (disch := omega) only [gA_sA1, gA_sA2, cpy0]
  · intro r hr i hi
    rcases hr with rfl | rfl <;> simp (disch := omega) only [gA_sA1, gA_sA2, cpy0]
  · intro i hi
    simp (disch := omega) only [gA_sA1, gA_sA2, cpy0]
theorem SR.copy {g g' : gG} {x y : Nat} {m : Nat → Int32} {n k : Nat} (S : SR g y m n k) (hx : isSt x) (h : Cp g g' x y) : SR g' x m n k := by
  obtain ⟨c1, c2, c3, c4, c5, c6, c7, c8, c9, c10, c11⟩ := h
  obtain ⟨V, k1, m3, m4, X, L, B, W, I⟩ := S
  obtain ⟨hy, hn, h10, hk, h12, e3, e4, e5, e6, e7, e8, e11, e9, e10⟩ := V
  refine ⟨⟨hx, (c4 0 (by decide)).trans hn, h10, (c4 1 (by decide)).trans hk, h12, ?_, ?_, ?_, ?_, ?_, ?_, ?_, ?_, ?_⟩, k1, m3, m4, ⟨(c4 2 (by decide)).trans X.1, (c4 3 (by decide)).trans X.2.1, (c4 4 (by decide)).trans X.2.2.1, (c4 5 (by decide)).trans X.2.2.2.1, (c4 6 (by decide)).trans X.2.2.2.2.1, X.2.2.2.2.2⟩, ?_, ?_, W, I⟩
  · intro q hq; rw [c9 3 (by decide) (by decide) q (by omega)]; exact e3 q hq
  · intro q hq; rw [c9 4 (by decide) (by decide) q (by omega)]; exact e4 q hq
  · intro q hq; rw [c9 5 (by decide) (by decide) q (by omega)]; exact e5 q hq
  · intro q hq; rw [c9 6 (by decide) (by decide) q (by omega)]; exact e6 q hq
  · intro q hq; rw [c9 7 (by decide) (by decide) q (by omega)]; exact e7 q hq
  · intro q hq; rw [c9 8 (by decide) (by decide) q (by omega)]; exact e8 q hq
  · intro q hq; rw [c11 q hq]; exact e11 q hq
  · intro p o hp ho; rw [c10 9 (Or.inl rfl) _ (by omega)]; exact e9 p o hp ho
  · intro p o hp ho; rw [c10 10 (Or.inr rfl) _ (by omega)]; exact e10 p o hp ho
  · obtain ⟨r, nx, h1, h2, h3, h4, h5, h6⟩ := L
    refine ⟨r, nx, h1, h2, c6.trans h3, h4, c7.trans h5, fun a ha => ?_⟩
    rw [c8 _ (by omega)]
    exact h6 a ha
  · intro p hp hp'
    obtain ⟨b1, b2, b3, b4⟩ := B p hp hp'
    rw [c9 6 (by decide) (by decide) p hp', c9 7 (by decide) (by decide) p hp', c9 8 (by decide) (by decide) p hp']
    refine ⟨b1, b2, b3, fun o ho => ?_⟩
    rw [c10 9 (Or.inl rfl) _ (by omega), c10 9 (Or.inl rfl) _ (by omega)]
    exact b4 o ho
theorem Cp.es {g g' : gG} {x y z : Nat} (h : Cp g g' x y) (hz : z + 12 ≤ x ∨ x + 12 ≤ z) : Es g g' z := fun r hr => by
  obtain ⟨a, b, c, _⟩ := h.1 (z + r) (by omega)
  exact ⟨a, b, c⟩
def rem1 (m a : Nat → Int32) (s : Nat) : Nat → Int32 := fun q => if 584 * s ≤ q ∧ q < 584 * s + 584 then m (q - 584 * s) else a q
def rem2 (a : Nat → Int32) : Nat → Int32 := fun q => if q < 6424 then a (q + 584) else a q
theorem rl_rem52 (g : gG) {s : Nat} (hs : s < 12) (h : gF g 206 6 = nI s) {F : Nat} (hF : 11000 < F) : fX12_remembers_52 F 206 F (nI 0) (gH g) = some (gH (sF (sA g 210 (rem1 (gA g 207) (gA g 210) s)) 206 6 (nI (s + 1)))) := by
  have h0 := lp0 (L := fun F' i (g : gG) => fX12_remembers_52 F 206 F' i (gH g)) (n := 584) (fun i => sA g 210 (fun q => if 584 * s ≤ q ∧ q < 584 * s + i then gA g 207 (q - 584 * s) else gA g 210 q)) (some (gH (sF (sA g 210 (rem1 (gA g 207) (gA g 210) s)) 206 6 (nI (s + 1))))) ?_ ?_ F (by omega)
  · have e2 : sA g 210 (fun q => if 584 * s ≤ q ∧ q < 584 * s + 0 then gA g 207 (q - 584 * s) else gA g 210 q) = g := by
      have : (fun q => if 584 * s ≤ q ∧ q < 584 * s + 0 then gA g 207 (q - 584 * s) else gA g 210 q) = gA g 210 := by funext q; rw [if_neg (by omega)]
      rw [this, sA_id]
    rw [e2] at h0
    exact h0
  · intro F i hi
    have e6 : upd (fun q => if 584 * s ≤ q ∧ q < 584 * s + i then gA g 207 (q - 584 * s) else gA g 210 q) (584 * s + i) (gA g 207 i) = fun q => if 584 * s ≤ q ∧ q < 584 * s + (i + 1) then gA g 207 (q - 584 * s) else gA g 210 q := by
      funext q
      rw [upd_e]
      by_cases c : q = 584 * s + i
      · rw [if_pos c, if_pos (by omega)]; congr 1; omega
      · rw [if_neg c]
        by_cases c2 : 584 * s ≤ q ∧ q < 584 * s + i
        · rw [if_pos c2, if_pos (by omega)]
        · rw [if_neg c2, if_neg (by omega)]
    have e7 : ¬ (207 = 210) := by omega
    simp (disch := omega) only [fX12_remembers_52, fr_206_5, ia_210, iw_210, fi_206_6, fr_206_1, ia_207, iw_207, fw_206_6, ab_bd_some, ck_t, ck_T, cb_0, cb_1, ab_jn, if_true, if_false, h, hi, gF_sA, gA_sA1, gA_sA2 _ _ e7, sA_sA, e6, nI_add, pk_mul, nI_ltI, nI_leI, nI_eq]
  · intro F
    simp (disch := omega) only [fX12_remembers_52, fr_206_5, ia_210, iw_210, fi_206_6, fr_206_1, ia_207, iw_207, fw_206_6, ab_bd_some, ck_t, ck_T, cb_0, cb_1, ab_jn, if_true, if_false, h, gF_sA, Nat.lt_irrefl, nI_add, pk_mul, nI_ltI, nI_leI, nI_eq]
    rfl
theorem rl_rem11 (g : gG) (K : ab_H → Option ab_H) {F : Nat} (hF : 11000 < F) : fX12_remembers_11 F 206 K F (nI 0) (gH g) = K (gH (sA g 210 (rem2 (gA g 210)))) := by
  have h0 := lp0 (L := fun F' i (g : gG) => fX12_remembers_11 F 206 K F' i (gH g)) (n := 6424) (fun i => sA g 210 (fun q => if q < i then gA g 210 (q + 584) else gA g 210 q)) (K (gH (sA g 210 (rem2 (gA g 210))))) ?_ ?_ F (by omega)
  · have e2 : sA g 210 (fun q => if q < 0 then gA g 210 (q + 584) else gA g 210 q) = g := by
      have : (fun q => if q < 0 then gA g 210 (q + 584) else gA g 210 q) = gA g 210 := by funext q; rw [if_neg (by omega)]
      rw [this, sA_id]
    rw [e2] at h0
    exact h0
  · intro F i hi
    have e6 : upd (fun q => if q < i then gA g 210 (q + 584) else gA g 210 q) i (gA g 210 (i + 584)) = fun q => if q < i + 1 then gA g 210 (q + 584) else gA g 210 q := by
      funext q
      rw [upd_e]
      by_cases c : q = i
      · rw [if_pos c, if_pos (by omega), c]
      · rw [if_neg c]
        by_cases c2 : q < i
        · rw [if_pos c2, if_pos (by omega)]
        · rw [if_neg c2, if_neg (by omega)]
    have e7 : ¬ (i + 584 < i) := by omega
    simp (disch := omega) only [fX12_remembers_11, fr_206_5, ia_210, iw_210, ab_bd_some, ck_t, ck_T, cb_0, cb_1, ab_jn, if_true, if_false, hi, gA_sA1, sA_sA, e6, e7, nI_add, pk_mul, nI_ltI, nI_leI, nI_eq]
  · intro F
    simp (disch := omega) only [fX12_remembers_11, fr_206_5, ia_210, iw_210, ab_bd_some, ck_t, ck_T, cb_0, cb_1, ab_jn, if_true, if_false, Nat.lt_irrefl, nI_add, pk_mul, nI_ltI, nI_leI, nI_eq]
    rfl
theorem rf_remembers (g : gG) {s : Nat} (hs : s ≤ 12) (h : gF g 206 6 = nI s) {F : Nat} (hF : 11000 < F) : fX12_remembers F 206 (gH g) = some (gH (if s = 12 then sF (sA (sF (sA g 210 (rem2 (gA g 210))) 206 6 (nI 11)) 210 (rem1 (gA g 207) (rem2 (gA g 210)) 11)) 206 6 (nI 12) else sF (sA g 210 (rem1 (gA g 207) (gA g 210) s)) 206 6 (nI (s + 1)))) := by
  by_cases c : s = 12
  · subst c
    have e1 : nI 12 - nI 1 = nI 11 := by decide
    have h1 := rl_rem52 (sF (sA g 210 (rem2 (gA g 210))) 206 6 (nI 11)) (s := 11) (by decide) (by rw [gF_sF1, upd_1]) hF
    simp (disch := omega) only [fX12_remembers, fi_206_6, fw_206_6, ab_bd_some, ck_t, ck_T, cb_0, cb_1, ab_jn, if_true, if_false, h, rl_rem11 _ _ hF, gF_sA, e1, h1, gA_sF, gA_sA1, nI_add, pk_mul, nI_ltI, nI_leI, nI_eq]
    rfl
  · have h1 := rl_rem52 g (s := s) (by omega) h hF
    simp (disch := omega) only [fX12_remembers, fi_206_6, fw_206_6, ab_bd_some, ck_t, ck_T, cb_0, cb_1, ab_jn, if_true, if_false, h, c, h1, nI_add, pk_mul, nI_ltI, nI_leI, nI_eq]
theorem cl_keep (g : gG) {s f : Nat} (hs : s ≤ 12) (hf : f < 12) (h1 : gF g 42 2 = nI s) (h2 : gF g 42 1 = nI f) : fX6_keep 42 6 (gH g) = some (gH (if s = 12 then sF (cpS (sF (sF g 42 1 (nI ((f + 1) % 12))) 42 2 (nI 11)) (44 + 12 * (((f + 1) % 12 + 11) % 12)) 6) 42 2 (nI 12) else sF (cpS g (44 + 12 * ((f + s) % 12)) 6) 42 2 (nI (s + 1)))) := by
  have hm : ∀ a, a % 12 < 12 := fun a => Nat.mod_lt _ (by decide)
  have hq : ∀ a (h : gG), gF (cpS h (44 + 12 * (a % 12)) 6) 42 = gF h 42 := fun a h => by
    have := hm a
    exact ((cpS_Cp h (x := 44 + 12 * (a % 12)) (y := 6) (by omega)).1 42 (by omega)).1
  have hc : ∀ a (h : gG), fX8_copyFrom (44 + 12 * (a % 12)) 6 (gH h) = some (gH (cpS h (44 + 12 * (a % 12)) 6)) := fun a h => cl_copy h (isStP (hm a)) isSt6 (by have := hm a; omega)
  have hi : ∀ a (h : gG), ab_io (gH h) (44 + 12 * (a % 12)) 8 = true := fun a h => io_s h (isStP (hm a))
  by_cases c : s = 12
  · subst c
    have e1 : nI 12 - nI 1 = nI 11 := by decide
    have e2 : ¬ (1 = 2) := by omega
    have e2' : ¬ (2 = 1) := by omega
    have e3 : (f + 1) % 12 < 12 := hm _
    have e4 := hm ((f + 1) % 12 + 11)
    simp (disch := first | omega | assumption | exact isSt6 | exact isSt18 | exact isSt30) only [fX6_keep, io_s, fi_42_2, fr_42_0, ra_43, fi_42_1, fw_42_2, fw_42_1, bdS, ck_t, ck_T, cb_0, cb_1, ab_jn, if_true, if_false, ra_43, h1, h2, n12, rm_12, gF_sF1, upd_1, upd_2 _ _ e2, upd_2 _ _ e2', e1, hc, hi, hq, nI_add, pk_mul, nI_ltI, nI_leI, nI_eq, reduceCtorEq, m1_ne, and_true, true_and, and_false, false_and, not_true_eq_false, not_false_eq_true, ne_eq, decide_true, decide_false, Bool.false_eq_true, ite_true, ite_false, if_true, if_false, Nat.add_zero, Bool.and_true, Bool.true_and, Bool.and_false, Bool.false_and, Bool.or_true, Bool.true_or, Bool.or_false, Bool.false_or, decide_not, Bool.not_true, Bool.not_false, or_true, true_or, or_false, false_or, or_self, and_self, decide_eq_true_eq]
  · have e4 := hm (f + s)
    simp (disch := first | omega | assumption | exact isSt6 | exact isSt18 | exact isSt30) only [fX6_keep, io_s, fi_42_2, fr_42_0, ra_43, fi_42_1, fw_42_2, fw_42_1, bdS, ck_t, ck_T, cb_0, cb_1, ab_jn, if_true, if_false, ra_43, h1, h2, n12, rm_12, hc, hi, hq, c, nI_add, pk_mul, nI_ltI, nI_leI, nI_eq, reduceCtorEq, m1_ne, and_true, true_and, and_false, false_and, not_true_eq_false, not_false_eq_true, ne_eq, decide_true, decide_false, Bool.false_eq_true, ite_true, ite_false, if_true, if_false, Nat.add_zero, Bool.and_true, Bool.true_and, Bool.and_false, Bool.false_and, Bool.or_true, Bool.true_or, Bool.or_false, Bool.false_or, decide_not, Bool.not_true, Bool.not_false, or_true, true_or, or_false, false_or, or_self, and_self, decide_eq_true_eq]
