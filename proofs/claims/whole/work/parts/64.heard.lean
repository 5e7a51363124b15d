variable {Nq : Nat}
/-! ===== what is SAID, heard by the reference ===== -/
def okS (t : Nat → Int32) (n k : Nat) : Bool := if k % 3 < 2 then decide (t k < nI n) else decide (t k < nI 2)
theorem n3 : (¬ nI 3 = 0) ↔ True := by decide
theorem rm_3 {a : Nat} (h : a < 2 ^ 31) : ab_rm (nI a) (nI 3) = nI (a % 3) := pk_rem h (by decide) (by decide)
theorem rl_heard30 (g : gG) {n : Nat} (hn : gA g 207 3 = nI n) (h10 : n ≤ 10) {F : Nat} (hF : 11000 < F) {L : Nat} (hL : L ≤ 36) (K : Int32 → Option (Int32 × ab_H)) : fX12_hears_30 F 206 (nI L) (gH g) K F (nI 1) (nI 0) = K (bI (!exB (fun k => !okS (gA g 211) n k) L)) := by
  have h0 := lpx (L := fun F' i (a : Int32) => fX12_hears_30 F 206 (nI L) (gH g) K F' a i) (n := L) (fun i => bI (!exB (fun k => !okS (gA g 211) n k) i)) (fun i => exB (fun k => !okS (gA g 211) n k) i = true) (K (bI (!exB (fun k => !okS (gA g 211) n k) L))) ?_ ?_ ?_ F (by omega)
  · rw [exB_0] at h0; exact h0
  · intro F' i hi _ hE
    have hf : exB (fun k => !okS (gA g 211) n k) i = false := by simpa using hE
    rw [exB_S, hf]
    have hm : i % 3 < 3 := Nat.mod_lt _ (by decide)
    by_cases c : i % 3 < 2
    · have e : okS (gA g 211) n i = decide (gA g 211 i < nI n) := if_pos c
      rw [e]
      by_cases c2 : gA g 211 i < nI n <;>
      simp (disch := omega) only [fX12_hears_30, fr_206_7, ia_211, fr_206_1, ia_207, bdS, ck_t, ck_T, cb_0, cb_1, ab_jn, if_true, if_false, hi, n3, rm_3, c, hn, c2, bI_0, nI_ltI, Bool.not_false, Bool.not_true, Bool.or_false, Bool.or_true, Bool.false_or, decide_true, decide_false, reduceCtorEq, if_true, if_false, nI_add, bI_t, z_eq, show ¬ (1 = 0) by omega] <;> rfl
    · have e : okS (gA g 211) n i = decide (gA g 211 i < nI 2) := if_neg c
      rw [e]
      by_cases c2 : gA g 211 i < nI 2 <;>
      simp (disch := omega) only [fX12_hears_30, fr_206_7, ia_211, fr_206_1, ia_207, bdS, ck_t, ck_T, cb_0, cb_1, ab_jn, if_true, if_false, hi, n3, rm_3, c, c2, bI_0, nI_ltI, Bool.not_false, Bool.not_true, Bool.or_false, Bool.or_true, Bool.false_or, decide_true, decide_false, reduceCtorEq, if_true, if_false, nI_add, bI_t, z_eq, show ¬ (1 = 0) by omega] <;> rfl
  · intro F' i hi _ hE
    obtain ⟨j, hj, e⟩ := exB_t.mp hE
    have hL' : exB (fun k => !okS (gA g 211) n k) L = true := exB_t.mpr ⟨j, by omega, e⟩
    rw [hL', hE]
    simp (disch := omega) only [fX12_hears_30, fr_206_7, ia_211, fr_206_1, ia_207, bdS, ck_t, ck_T, cb_0, cb_1, ab_jn, if_true, if_false, hi, bI_0, nI_ltI, Bool.not_true, if_true]
  · intro F' _
    simp (disch := omega) only [fX12_hears_30, fr_206_7, ia_211, fr_206_1, ia_207, bdS, ck_t, ck_T, cb_0, cb_1, ab_jn, if_true, if_false, Nat.lt_irrefl, nI_ltI, if_false]
theorem cb_bI {ρ : Type} {b : Bool} {t : Option ρ} : ab_cb (bI b) t = t := cb_b
theorem div_3 {a : Nat} (h : a < 2 ^ 31) : nI a / nI 3 = nI (a / 3) := pk_div h (by decide) (by decide)
theorem rl_heard93 (g : gG) {L : Nat} (hL : L ≤ 400) (b : Bool) (hb : b = true → L ≤ 36) {F : Nat} (hF : 11000 < F) : fX12_hears_93 F 206 (nI L) (bI b) F (nI 0) (gH g) = some (bI b, gH (sF (if b = true then sA g 213 (fun q => if q < L then gA g 211 q else gA g 213 q) else g) 206 20 (nI (L / 3)))) := by
  have e11 : ¬ (211 = 213) := by omega
  cases b
  · obtain ⟨F', rfl⟩ : ∃ F', F = F' + 1 := ⟨F - 1, by omega⟩
    by_cases c : 0 < L
    · simp (disch := omega) only [fX12_hears_93, fw_206_20, fr_206_19, ia_213, iw_213, fr_206_7, ia_211, iw_211, bdS, ck_t, ck_T, cb_0, cb_1, ab_jn, if_true, if_false, c, n3, div_3, bI_0, cb_bI, nI_ltI, if_true, if_false, reduceCtorEq]
    · simp (disch := omega) only [fX12_hears_93, fw_206_20, fr_206_19, ia_213, iw_213, fr_206_7, ia_211, iw_211, bdS, ck_t, ck_T, cb_0, cb_1, ab_jn, if_true, if_false, c, n3, div_3, bI_0, cb_bI, nI_ltI, if_true, if_false, reduceCtorEq]
  · have hL' := hb rfl
    rw [if_pos rfl]
    have h0 := lp0 (L := fun F' i (g : gG) => fX12_hears_93 F 206 (nI L) (bI true) F' i (gH g)) (n := L) (fun i => sA g 213 (fun q => if q < i then gA g 211 q else gA g 213 q)) (some (bI true, gH (sF (sA g 213 (fun q => if q < L then gA g 211 q else gA g 213 q)) 206 20 (nI (L / 3))))) ?_ ?_ F (by omega)
    · have e2 : sA g 213 (fun q => if q < 0 then gA g 211 q else gA g 213 q) = g := by
        have : (fun q => if q < 0 then gA g 211 q else gA g 213 q) = gA g 213 := by funext q; rw [if_neg (by omega)]
        rw [this, sA_id]
      rw [e2] at h0; exact h0
    · intro F' i hi
      have e6 : upd (fun q => if q < i then gA g 211 q else gA g 213 q) i (gA g 211 i) = fun q => if q < i + 1 then gA g 211 q else gA g 213 q := by
        funext q
        rw [upd_e]
        by_cases c : q = i
        · rw [if_pos c, if_pos (by omega), c]
        · rw [if_neg c]
          by_cases c2 : q < i
          · rw [if_pos c2, if_pos (by omega)]
          · rw [if_neg c2, if_neg (by omega)]
      simp (disch := omega) only [fX12_hears_93, fw_206_20, fr_206_19, ia_213, iw_213, fr_206_7, ia_211, iw_211, bdS, ck_t, ck_T, cb_0, cb_1, ab_jn, if_true, if_false, hi, bI_0, gA_sA1, gA_sA2 _ _ e11, sA_sA, e6, nI_ltI, nI_add, if_true, if_false, reduceCtorEq]
    · intro F'
      simp (disch := omega) only [fX12_hears_93, fw_206_20, fr_206_19, ia_213, iw_213, fr_206_7, ia_211, iw_211, bdS, ck_t, ck_T, cb_0, cb_1, ab_jn, if_true, if_false, Nat.lt_irrefl, n3, div_3, cb_bI, nI_ltI, if_false]
def gdS (t : Nat → Int32) (n L : Nat) : Bool := decide (L % 3 = 0) && decide (L ≤ 36) && !exB (fun k => !okS t n k) L
theorem rf_heard (g : gG) {n : Nat} (hn : gA g 207 3 = nI n) (h10 : n ≤ 10) {F : Nat} (hF : 11000 < F) {L : Nat} (hL : L ≤ 400) (ht : gF g 206 8 = nI L) : fX12_hears F 206 (gH g) = some (bI (gdS (gA g 211) n L), gH (sF (if gdS (gA g 211) n L = true then sA (sF g 206 8 (nI 0)) 213 (fun q => if q < L then gA g 211 q else gA g 213 q) else sF g 206 8 (nI 0)) 206 20 (nI (L / 3)))) := by
  have r93 : ∀ b, (b = true → L ≤ 36) → fX12_hears_93 F 206 (nI L) (bI b) F (nI 0) (gH (sF g 206 8 (nI 0))) = some (bI b, gH (sF (if b = true then sA (sF g 206 8 (nI 0)) 213 (fun q => if q < L then gA g 211 q else gA g 213 q) else sF g 206 8 (nI 0)) 206 20 (nI (L / 3)))) := fun b hb => rl_heard93 (sF g 206 8 (nI 0)) hL b hb hF
  have r0 : 0 < L → ∀ K, fX12_hears_30 F 206 (nI L) (gH (sF g 206 8 (nI 0))) K F (nI 0) (nI 0) = K (nI 0) := fun h K => by
    obtain ⟨F', rfl⟩ : ∃ F', F = F' + 1 := ⟨F - 1, by omega⟩
    simp (disch := omega) only [fX12_hears_30, fr_206_7, ia_211, fr_206_1, ia_207, bdS, ck_t, ck_T, cb_0, cb_1, ab_jn, if_true, if_false, h, z_eq, nI_ltI, if_true]
  have r30 : L ≤ 36 → ∀ K, fX12_hears_30 F 206 (nI L) (gH (sF g 206 8 (nI 0))) K F (nI 1) (nI 0) = K (bI (!exB (fun k => !okS (gA g 211) n k) L)) := fun h K => rl_heard30 (sF g 206 8 (nI 0)) hn h10 hF h K
  have m3 := rm_3 (show L < 2 ^ 31 by omega)
  by_cases c1 : L % 3 = 0
  · by_cases c2 : L ≤ 36
    · have eg : gdS (gA g 211) n L = !exB (fun k => !okS (gA g 211) n k) L := by
        unfold gdS; rw [decide_eq_true c1, decide_eq_true c2]; rfl
      have l36 : nI L ≤ nI 36 := nI_le c2 (by decide)
      rw [eg]
      have := r93 (!exB (fun k => !okS (gA g 211) n k) L) (fun _ => c2)
      simp (disch := omega) only [fX12_hears, fi_206_8, fw_206_8, bdS, ck_t, ck_T, cb_0, cb_1, ab_jn, if_true, if_false, ht, n3, m3, z_eq, c1, l36, if_true, r30 c2]
      exact this
    · have eg : gdS (gA g 211) n L = false := by
        unfold gdS; rw [decide_eq_true c1, decide_eq_false c2]; rfl
      have l36 : ¬ nI L ≤ nI 36 := nI_ge (by omega) (by omega)
      rw [eg]
      have := r93 false (fun h => by cases h)
      simp (disch := omega) only [fX12_hears, fi_206_8, fw_206_8, bdS, ck_t, ck_T, cb_0, cb_1, ab_jn, if_true, if_false, ht, n3, m3, z_eq, c1, l36, if_true, if_false, r0 (by omega)]
      exact this
  · have eg : gdS (gA g 211) n L = false := by
      unfold gdS; rw [decide_eq_false c1]; rfl
    rw [eg]
    have := r93 false (fun h => by cases h)
    simp (disch := omega) only [fX12_hears, fi_206_8, fw_206_8, bdS, ck_t, ck_T, cb_0, cb_1, ab_jn, if_true, if_false, ht, n3, m3, z_eq, c1, if_true, if_false, r0 (by omega)]
    exact this
