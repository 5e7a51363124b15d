/-! ===== copies of STATES ===== -/
theorem cp_I (g : gG) {x y r : Nat} (hx : isSt x) (hy : isSt y) (hr : r < 12) {N : Nat} (h1 : ∀ z, isSt z → gc g (z + r) = .inl (0, N, .inl (gA g (z + r)))) (h2 : ∀ f, gc (sA g (x + r) f) (x + r) = .inl (0, N, .inl f)) (hN : N < 2 ^ 31) : ab_cpI (gH g) (y + r) (nI 0) (x + r) (nI 0) (nI N) = some (gH (sA g (x + r) (va_cpy (gA g (y + r)) (gA g (x + r)) 0 0 N))) := by
  have a1 : (gH g).2 (y + r) = .inl (0, N, .inl (gA g (y + r))) := h1 y hy
  have a2 : (gH g).2 (x + r) = .inl (0, N, .inl (gA g (x + r))) := h1 x hx
  have c0 : (nI 0).toNatClampNeg = 0 := by decide
  have cN : (nI N).toNatClampNeg = N := nI_clamp hN
  have p0 : ¬ nI 0 < 0 := by decide
  have pN : ¬ nI N < 0 := nI_pos hN
  unfold ab_cpI
  rw [a1, a2]
  simp only [c0, cN]
  rw [if_pos ⟨gS hy hr, gS hx hr, trivial, trivial, p0, p0, pN, by omega, by omega⟩]
  exact congrArg some (g_up rfl (h2 _) gc_sA)
theorem cpy0 {α : Type} (f g : Nat → α) {N j : Nat} (h : j < N) : va_cpy f g 0 0 N j = f j := by
  unfold va_cpy
  simp [h]
theorem cp_s3 (g : gG) {x y : Nat} (hx : isSt x) (hy : isSt y) : ab_cpI (gH g) (y + 3) (nI 0) (x + 3) (nI 0) (nI 10) = some (gH (sA g (x + 3) (va_cpy (gA g (y + 3)) (gA g (x + 3)) 0 0 10))) := cp_I g hx hy (by decide) (fun z hz => gc_st (g := g) hz (r := 3) (by decide)) (fun f => by
  refine (gc_st (g := sA g (x + 3) f) hx (r := 3) (by decide)).trans ?_
  rw [gA_sA1]; rfl) (by decide)
theorem cp_s4 (g : gG) {x y : Nat} (hx : isSt x) (hy : isSt y) : ab_cpI (gH g) (y + 4) (nI 0) (x + 4) (nI 0) (nI 10) = some (gH (sA g (x + 4) (va_cpy (gA g (y + 4)) (gA g (x + 4)) 0 0 10))) := cp_I g hx hy (by decide) (fun z hz => gc_st (g := g) hz (r := 4) (by decide)) (fun f => by
  refine (gc_st (g := sA g (x + 4) f) hx (r := 4) (by decide)).trans ?_
  rw [gA_sA1]; rfl) (by decide)
theorem cp_s5 (g : gG) {x y : Nat} (hx : isSt x) (hy : isSt y) : ab_cpI (gH g) (y + 5) (nI 0) (x + 5) (nI 0) (nI 10) = some (gH (sA g (x + 5) (va_cpy (gA g (y + 5)) (gA g (x + 5)) 0 0 10))) := cp_I g hx hy (by decide) (fun z hz => gc_st (g := g) hz (r := 5) (by decide)) (fun f => by
  refine (gc_st (g := sA g (x + 5) f) hx (r := 5) (by decide)).trans ?_
  rw [gA_sA1]; rfl) (by decide)
theorem cp_s6 (g : gG) {x y : Nat} (hx : isSt x) (hy : isSt y) : ab_cpI (gH g) (y + 6) (nI 0) (x + 6) (nI 0) (nI 10) = some (gH (sA g (x + 6) (va_cpy (gA g (y + 6)) (gA g (x + 6)) 0 0 10))) := cp_I g hx hy (by decide) (fun z hz => gc_st (g := g) hz (r := 6) (by decide)) (fun f => by
  refine (gc_st (g := sA g (x + 6) f) hx (r := 6) (by decide)).trans ?_
  rw [gA_sA1]; rfl) (by decide)
theorem cp_s7 (g : gG) {x y : Nat} (hx : isSt x) (hy : isSt y) : ab_cpI (gH g) (y + 7) (nI 0) (x + 7) (nI 0) (nI 10) = some (gH (sA g (x + 7) (va_cpy (gA g (y + 7)) (gA g (x + 7)) 0 0 10))) := cp_I g hx hy (by decide) (fun z hz => gc_st (g := g) hz (r := 7) (by decide)) (fun f => by
  refine (gc_st (g := sA g (x + 7) f) hx (r := 7) (by decide)).trans ?_
  rw [gA_sA1]; rfl) (by decide)
theorem cp_s8 (g : gG) {x y : Nat} (hx : isSt x) (hy : isSt y) : ab_cpI (gH g) (y + 8) (nI 0) (x + 8) (nI 0) (nI 10) = some (gH (sA g (x + 8) (va_cpy (gA g (y + 8)) (gA g (x + 8)) 0 0 10))) := cp_I g hx hy (by decide) (fun z hz => gc_st (g := g) hz (r := 8) (by decide)) (fun f => by
  refine (gc_st (g := sA g (x + 8) f) hx (r := 8) (by decide)).trans ?_
  rw [gA_sA1]; rfl) (by decide)
theorem cp_s9 (g : gG) {x y : Nat} (hx : isSt x) (hy : isSt y) : ab_cpI (gH g) (y + 9) (nI 0) (x + 9) (nI 0) (nI 100) = some (gH (sA g (x + 9) (va_cpy (gA g (y + 9)) (gA g (x + 9)) 0 0 100))) := cp_I g hx hy (by decide) (fun z hz => gc_st (g := g) hz (r := 9) (by decide)) (fun f => by
  refine (gc_st (g := sA g (x + 9) f) hx (r := 9) (by decide)).trans ?_
  rw [gA_sA1]; rfl) (by decide)
theorem cp_s10 (g : gG) {x y : Nat} (hx : isSt x) (hy : isSt y) : ab_cpI (gH g) (y + 10) (nI 0) (x + 10) (nI 0) (nI 100) = some (gH (sA g (x + 10) (va_cpy (gA g (y + 10)) (gA g (x + 10)) 0 0 100))) := cp_I g hx hy (by decide) (fun z hz => gc_st (g := g) hz (r := 10) (by decide)) (fun f => by
  refine (gc_st (g := sA g (x + 10) f) hx (r := 10) (by decide)).trans ?_
  rw [gA_sA1]; rfl) (by decide)
theorem cp_s11 (g : gG) {x y : Nat} (hx : isSt x) (hy : isSt y) : ab_cpI (gH g) (y + 11) (nI 0) (x + 11) (nI 0) (nI 12) = some (gH (sA g (x + 11) (va_cpy (gA g (y + 11)) (gA g (x + 11)) 0 0 12))) := cp_I g hx hy (by decide) (fun z hz => gc_st (g := g) hz (r := 11) (by decide)) (fun f => by
  refine (gc_st (g := sA g (x + 11) f) hx (r := 11) (by decide)).trans ?_
  rw [gA_sA1]; rfl) (by decide)
theorem cp_l (g : gG) {x y : Nat} (hx : isSt x) (hy : isSt y) : ab_cpL (gH g) (y + 2) (nI 0) (x + 2) (nI 0) (nI 60) = some (gH (sL g (x + 2) (va_cpy (gL g (y + 2)) (gL g (x + 2)) 0 0 60))) := by
  have a1 : (gH g).2 (y + 2) = .inl (1, 60, .inr (.inl (gL g (y + 2)))) := gc_st (g := g) hy (r := 2) (by decide)
  have a2 : (gH g).2 (x + 2) = .inl (1, 60, .inr (.inl (gL g (x + 2)))) := gc_st (g := g) hx (r := 2) (by decide)
  have c0 : (nI 0).toNatClampNeg = 0 := by decide
  have cN : (nI 60).toNatClampNeg = 60 := by decide
  have p0 : ¬ nI 0 < 0 := by decide
  have pN : ¬ nI 60 < 0 := by decide
  unfold ab_cpL
  rw [a1, a2]
  simp only [c0, cN]
  rw [if_pos ⟨gS hy (by decide), gS hx (by decide), trivial, trivial, p0, p0, pN, by omega, by omega⟩]
  refine congrArg some (g_up rfl ?_ gc_sL)
  refine (gc_st (g := sL g (x + 2) _) hx (r := 2) (by decide)).trans ?_
  rw [gL_sL1]; rfl
theorem cl_logCopy (g : gG) {x y : Nat} (hx : isSt x) (hy : isSt y) (hd : x + 12 ≤ y ∨ y + 12 ≤ x) : fX4_copyFrom (x + 1) (y + 1) (gH g) = some (gH (sF (sF (sL g (x + 2) (va_cpy (gL g (y + 2)) (gL g (x + 2)) 0 0 60)) (x + 1) 1 (gF g (y + 1) 1)) (x + 1) 2 (gF g (y + 1) 2))) := by
  simp (disch := first | omega | assumption | exact isSt6 | exact isSt18 | exact isSt30) only [fX4_copyFrom, fr_l0, la_s, lw_s, fi_l1, fw_l1, fi_l2, fw_l2, bdS, ck_t, ck_T, cb_0, cb_1, ab_jn, if_true, if_false, cp_l, gF_sL, gF_sF2]
/-- what a copy leaves -/
def Cp (g g' : gG) (x y : Nat) : Prop := (∀ b, (b < x ∨ x + 12 ≤ b) → gF g' b = gF g b ∧ gA g' b = gA g b ∧ gL g' b = gL g b ∧ gw g' b = gw g b) ∧ gn g' = gn g ∧ (∀ b, gl g' b = gl g b) ∧
  (∀ k, k < 7 → gF g' x k = gF g y k) ∧ gw g' x = gw g y ∧ gF g' (x + 1) 1 = gF g (y + 1) 1 ∧ gF g' (x + 1) 2 = gF g (y + 1) 2 ∧ (∀ i, i < 60 → gL g' (x + 2) i = gL g (y + 2) i) ∧
  (∀ r, 3 ≤ r → r ≤ 8 → ∀ i, i < 10 → gA g' (x + r) i = gA g (y + r) i) ∧ (∀ r, r = 9 ∨ r = 10 → ∀ i, i < 100 → gA g' (x + r) i = gA g (y + r) i) ∧ ∀ i, i < 12 → gA g' (x + 11) i = gA g (y + 11) i
def cpS (g : gG) (x y : Nat) : gG :=
  let g1 := sW (sF (sF (sF (sF (sF (sF (sF g x 0 (gF g y 0)) x 1 (gF g y 1)) x 2 (gF g y 2)) x 3 (gF g y 3)) x 4 (gF g y 4)) x 5 (gF g y 5)) x 6 (gF g y 6)) x (gw g y)
  let g2 := sF (sF (sL g1 (x + 2) (va_cpy (gL g (y + 2)) (gL g (x + 2)) 0 0 60)) (x + 1) 1 (gF g (y + 1) 1)) (x + 1) 2 (gF g (y + 1) 2)
  sA (sA (sA (sA (sA (sA (sA (sA (sA g2 (x + 3) (va_cpy (gA g (y + 3)) (gA g (x + 3)) 0 0 10)) (x + 4) (va_cpy (gA g (y + 4)) (gA g (x + 4)) 0 0 10)) (x + 5) (va_cpy (gA g (y + 5)) (gA g (x + 5)) 0 0 10)) (x + 6) (va_cpy (gA g (y + 6)) (gA g (x + 6)) 0 0 10)) (x + 7) (va_cpy (gA g (y + 7)) (gA g (x + 7)) 0 0 10)) (x + 8) (va_cpy (gA g (y + 8)) (gA g (x + 8)) 0 0 10)) (x + 9) (va_cpy (gA g (y + 9)) (gA g (x + 9)) 0 0 100)) (x + 10) (va_cpy (gA g (y + 10)) (gA g (x + 10)) 0 0 100)) (x + 11) (va_cpy (gA g (y + 11)) (gA g (x + 11)) 0 0 12)
set_option maxHeartbeats 2000000 in
theorem cl_copy (g : gG) {x y : Nat} (hx : isSt x) (hy : isSt y) (hd : x + 12 ≤ y ∨ y + 12 ≤ x) : fX8_copyFrom x y (gH g) = some (gH (cpS g x y)) := by
  have hw : ∀ b, ¬ b = x → gw (sW g x (gw g y)) b = gw g b := fun b hb => by rw [gw_sW, if_neg hb]
  simp (disch := first | omega | assumption | exact isSt6 | exact isSt18 | exact isSt30) only [fX8_copyFrom, io_l, fi_s0, fw_s0, fi_s1, fw_s1, fi_s2, fw_s2, fi_s3, fw_s3, fi_s4, fw_s4, fi_s5, fw_s5, fi_s6, fw_s6, fr_s7, fw_s7, fr_s8, fr_s9, fr_s10, fr_s11, fr_s12, fr_s13, fr_s14, fr_s15, fr_s16, fr_s17, bdS, ck_t, ck_T, cb_0, cb_1, ab_jn, if_true, if_false, cl_logCopy _ hx hy hd, cp_s3, cp_s4, cp_s5, cp_s6, cp_s7, cp_s8, cp_s9, cp_s10, cp_s11, io_l, gF_sF2, gF_sW, gF_sA, gF_sL, gw_sF, gw_sA, gw_sL, gA_sF, gA_sW, gA_sL, gA_sA2, gL_sF, gL_sW, gL_sA]
  rfl
