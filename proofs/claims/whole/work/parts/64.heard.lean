/-! ===== what is SAID, heard by the reference ===== -/
def okS (t : Nat → Int32) (n k : Nat) : Bool := if k % 3 < 2 then decide (t k < nI n) else decide (t k < nI 2)
theorem n3 : (¬ nI 3 = 0) ↔ True := by decide
theorem rm_3 {a : Nat} (h : a < 2 ^ 31) : ab_rm (nI a) (nI 3) = nI (a % 3) := pk_rem h (by decide) (by decide)
theorem rl_heard30 (g : gG) {n : Nat} (hn : gA g 207 3 = nI n) (h10 : n ≤ 10) {F : Nat} (hF : 11000 < F) {L : Nat} (hL : L ≤ 36) (K : Int32 → Option (Int32 × ab_H)) : fX12_hears_30 F 206 (nI L) (gH g) K F (nI 1) (nI 0) = K (bI (!exB (fun k => !okS (gA g 211) n k) L)) := by
  have h0 := lpx (L := fun F' i (a : Int32) => fX12_hears_30 F 206 (nI L) (gH g) K F' a i) (n := L) (fun i => bI (!exB (fun k => !okS (gA g 211) n k) i)) (fun i => exB (fun k => !okS (gA g 211) n k) i = true) (K (bI (!exB (fun k => !okS (gA g 211) n k) L))) ?_ ?_ ?_ F (by omega)
  · rw [exB_0] at h0; exact h0
  · intro F' i hi _ hE
    have hf : exB (fun k => !okS (gA g 211) n k) i = false := by simpa using hE
    rw [exB_S, hf]
    have hm : i % 3 < 3 := Nat.mod_lt _ (by decide)
    by_cases c : i % 3 < 2
    · have e : okS (gA g 211) n i = decide (gA g 211 i < nI n) := if_pos c
      rw [e]
      by_cases c2 : gA g 211 i < nI n <;>
      simp (disch := omega) only [fX12_hears_30, fr_206_7, ia_211, fr_206_1, ia_207, bdS, ck_t, ck_T, cb_0, cb_1, ab_jn, if_true, if_false, hi, n3, rm_3, c, hn, c2, bI_0, nI_ltI, Bool.not_false, Bool.not_true, Bool.or_false, Bool.or_true, Bool.false_or, decide_true, decide_false, reduceCtorEq, if_true, if_false, nI_add, bI_t, z_eq, show ¬ (1 = 0) by omega] <;> rfl
    · have e : okS (gA g 211) n i = decide (gA g 211 i < nI 2) := if_neg c
      rw [e]
      by_cases c2 : gA g 211 i < nI 2 <;>
      simp (disch := omega) only [fX12_hears_30, fr_206_7, ia_211, fr_206_1, ia_207, bdS, ck_t, ck_T, cb_0, cb_1, ab_jn, if_true, if_false, hi, n3, rm_3, c, c2, bI_0, nI_ltI, Bool.not_false, Bool.not_true, Bool.or_false, Bool.or_true, Bool.false_or, decide_true, decide_false, reduceCtorEq, if_true, if_false, nI_add, bI_t, z_eq, show ¬ (1 = 0) by omega] <;> rfl
  · intro F' i hi _ hE
    obtain ⟨j, hj, e⟩ := exB_t.mp hE
    have hL' : exB (fun k => !okS (gA g 211) n k) L = true := exB_t.mpr ⟨j, by omega, e⟩
    rw [hL', hE]
    simp (disch := omega) only [fX12_hears_30, fr_206_7, ia_211, fr_206_1, ia_207, bdS, ck_t, ck_T, cb_0, cb_1, ab_jn, if_true, if_false, hi, bI_0, nI_ltI, Bool.not_true, if_true]
  · intro F' _
    simp (disch := omega) only [fX12_hears_30, fr_206_7, ia_211, fr_206_1, ia_207, bdS, ck_t, ck_T, cb_0, cb_1, ab_jn, if_true, if_false, Nat.lt_irrefl, nI_ltI, if_false]
