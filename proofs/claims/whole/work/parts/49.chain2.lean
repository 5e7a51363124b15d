variable {Nq : Nat}
/-! ===== chain, the reference ===== -/
def cla (kn : Nat → Int32) (s : Nat) (f : Nat → Int32) (a b : Nat) : Int32 := if f a = nI s ∧ f b = -1 ∧ bt (kn a) b = true then nI (s + 1) else f b
def clb (kn : Nat → Int32) (n s : Nat) (f : Nat → Int32) (a : Nat) : Nat → Int32 := fun b => if b < n then cla kn s f a b else f b
def clA (kn : Nat → Int32) (n s : Nat) (f : Nat → Int32) : Nat → Nat → Int32 := it (fun a f => clb kn n s f a) f
def clS (kn : Nat → Int32) (n : Nat) (f : Nat → Int32) : Nat → Nat → Int32 := it (fun s f => clA kn n s f n) f
theorem cla_self {kn : Nat → Int32} {s : Nat} {f : Nat → Int32} {a : Nat} (hs : s < 2 ^ 31) : cla kn s f a a = f a := by
  unfold cla
  by_cases c : f a = nI s ∧ f a = -1 ∧ bt (kn a) a = true
  · exact absurd (c.1.symm.trans c.2.1) (nI_m1 hs)
  · rw [if_neg c]
theorem rl_chain72 (g : gG) {n : Nat} (hn : gA g 207 3 = nI n) (h10 : n ≤ 10) (x2 : Int32) {s a : Nat} (hs : s < 10) (ha : a < n) (K : ab_H → Option (Int32 × ab_H)) {F : Nat} (hF : 11000 < F) : fX12_chain_72 F 206 x2 (nI s) (nI a) K F (nI 0) (gH g) = K (gH (sA g 218 (clb (fun q => gA g 207 (12 + 6 * q + 5)) n s (gA g 218) a))) := by
  have h0 := lp0 (L := fun F' i (g : gG) => fX12_chain_72 F 206 x2 (nI s) (nI a) K F' i (gH g)) (n := n) (fun i => sA g 218 (fun b => if b < i then cla (fun q => gA g 207 (12 + 6 * q + 5)) s (gA g 218) a b else gA g 218 b)) (K (gH (sA g 218 (clb (fun q => gA g 207 (12 + 6 * q + 5)) n s (gA g 218) a)))) ?_ ?_ F (by omega)
  · have e2 : sA g 218 (fun b => if b < 0 then cla (fun q => gA g 207 (12 + 6 * q + 5)) s (gA g 218) a b else gA g 218 b) = g := by
      have : (fun b => if b < 0 then cla (fun q => gA g 207 (12 + 6 * q + 5)) s (gA g 218) a b else gA g 218 b) = gA g 218 := by funext q; rw [if_neg (by omega)]
      rw [this, sA_id]
    rw [e2] at h0; exact h0
  · intro F i hi
    have e7 : ¬ (207 = 218) := by omega
    have n1 : gA (sA g 218 (fun b => if b < i then cla (fun q => gA g 207 (12 + 6 * q + 5)) s (gA g 218) a b else gA g 218 b)) 207 = gA g 207 := gA_sA2 _ _ e7
    have ea : (if a < i then cla (fun q => gA g 207 (12 + 6 * q + 5)) s (gA g 218) a a else gA g 218 a) = gA g 218 a := by
      by_cases c : a < i
      · rw [if_pos c, cla_self (by omega)]
      · rw [if_neg c]
    have ei : (if i < i then cla (fun q => gA g 207 (12 + 6 * q + 5)) s (gA g 218) a i else gA g 218 i) = gA g 218 i := if_neg (by omega)
    have e6 : upd (fun b => if b < i then cla (fun q => gA g 207 (12 + 6 * q + 5)) s (gA g 218) a b else gA g 218 b) i (cla (fun q => gA g 207 (12 + 6 * q + 5)) s (gA g 218) a i) = fun b => if b < i + 1 then cla (fun q => gA g 207 (12 + 6 * q + 5)) s (gA g 218) a b else gA g 218 b := by
      funext q
      rw [upd_e]
      by_cases c : q = i
      · rw [if_pos c, if_pos (by omega), c]
      · rw [if_neg c]
        by_cases c2 : q < i
        · rw [if_pos c2, if_pos (by omega)]
        · rw [if_neg c2, if_neg (by omega)]
    rw [← e6]
    have hc : cla (fun q => gA g 207 (12 + 6 * q + 5)) s (gA g 218) a i = if gA g 218 a = nI s ∧ gA g 218 i = -1 ∧ bt (gA g 207 (12 + 6 * a + 5)) i = true then nI (s + 1) else gA g 218 i := rfl
    clear e6
    obtain ⟨A, hA⟩ : ∃ A, A = fun b => if b < i then cla (fun q => gA g 207 (12 + 6 * q + 5)) s (gA g 218) a b else gA g 218 b := ⟨_, rfl⟩
    rw [← hA] at n1 ⊢
    have ea : A a = gA g 218 a := by rw [hA]; exact ea
    have ei : A i = gA g 218 i := by rw [hA]; exact ei
    have same : upd A i (gA g 218 i) = A := fa_upd_same ei
    by_cases c1 : gA g 218 a = nI s
    · by_cases c2 : gA g 218 i = -1
      · cases c3 : bt (gA g 207 (12 + 6 * a + 5)) i
        · rw [hc, if_neg (by rw [c3]; simp), same]
          simp (disch := omega) only [fX12_chain_72, io_206, fr_206_1, ia_207, iw_207, fr_206_25, ia_218, iw_218, bdS, ck_t, ck_T, cb_0, cb_1, ab_jn, if_true, if_false, n1, hn, hi, gA_sA1, ea, ei, c1, c2, rf_of, rf_isOfX, c3, bI_0, nI_add, pk_mul, nI_ltI, nI_leI, nI_eq, reduceCtorEq, m1_ne, and_true, true_and, and_false, false_and, not_true_eq_false, not_false_eq_true, ne_eq, decide_true, decide_false, Bool.false_eq_true, ite_true, ite_false, if_true, if_false, Nat.add_zero, Bool.and_true, Bool.true_and, Bool.and_false, Bool.false_and, Bool.or_true, Bool.true_or, Bool.or_false, Bool.false_or, decide_not, Bool.not_true, Bool.not_false, or_true, true_or, or_false, false_or, or_self, and_self, decide_eq_true_eq]
        · rw [hc, if_pos ⟨c1, c2, c3⟩]
          simp (disch := omega) only [fX12_chain_72, io_206, fr_206_1, ia_207, iw_207, fr_206_25, ia_218, iw_218, bdS, ck_t, ck_T, cb_0, cb_1, ab_jn, if_true, if_false, n1, hn, hi, gA_sA1, ea, ei, c1, c2, rf_of, rf_isOfX, c3, bI_0, sA_sA, nI_add, pk_mul, nI_ltI, nI_leI, nI_eq, reduceCtorEq, m1_ne, and_true, true_and, and_false, false_and, not_true_eq_false, not_false_eq_true, ne_eq, decide_true, decide_false, Bool.false_eq_true, ite_true, ite_false, if_true, if_false, Nat.add_zero, Bool.and_true, Bool.true_and, Bool.and_false, Bool.false_and, Bool.or_true, Bool.true_or, Bool.or_false, Bool.false_or, decide_not, Bool.not_true, Bool.not_false, or_true, true_or, or_false, false_or, or_self, and_self, decide_eq_true_eq]
      · rw [hc, if_neg (fun h => c2 h.2.1), same]
        simp (disch := omega) only [fX12_chain_72, io_206, fr_206_1, ia_207, iw_207, fr_206_25, ia_218, iw_218, bdS, ck_t, ck_T, cb_0, cb_1, ab_jn, if_true, if_false, n1, hn, hi, gA_sA1, ea, ei, c1, c2, nI_add, pk_mul, nI_ltI, nI_leI, nI_eq, reduceCtorEq, m1_ne, and_true, true_and, and_false, false_and, not_true_eq_false, not_false_eq_true, ne_eq, decide_true, decide_false, Bool.false_eq_true, ite_true, ite_false, if_true, if_false, Nat.add_zero, Bool.and_true, Bool.true_and, Bool.and_false, Bool.false_and, Bool.or_true, Bool.true_or, Bool.or_false, Bool.false_or, decide_not, Bool.not_true, Bool.not_false, or_true, true_or, or_false, false_or, or_self, and_self, decide_eq_true_eq]
    · rw [hc, if_neg (fun h => c1 h.1), same]
      simp (disch := omega) only [fX12_chain_72, io_206, fr_206_1, ia_207, iw_207, fr_206_25, ia_218, iw_218, bdS, ck_t, ck_T, cb_0, cb_1, ab_jn, if_true, if_false, n1, hn, hi, gA_sA1, ea, c1, nI_add, pk_mul, nI_ltI, nI_leI, nI_eq, reduceCtorEq, m1_ne, and_true, true_and, and_false, false_and, not_true_eq_false, not_false_eq_true, ne_eq, decide_true, decide_false, Bool.false_eq_true, ite_true, ite_false, if_true, if_false, Nat.add_zero, Bool.and_true, Bool.true_and, Bool.and_false, Bool.false_and, Bool.or_true, Bool.true_or, Bool.or_false, Bool.false_or, decide_not, Bool.not_true, Bool.not_false, or_true, true_or, or_false, false_or, or_self, and_self, decide_eq_true_eq]
  · intro F
    have e7 : ¬ (207 = 218) := by omega
    have n1 : gA (sA g 218 (fun b => if b < n then cla (fun q => gA g 207 (12 + 6 * q + 5)) s (gA g 218) a b else gA g 218 b)) 207 = gA g 207 := gA_sA2 _ _ e7
    simp (disch := omega) only [fX12_chain_72, io_206, fr_206_1, ia_207, iw_207, fr_206_25, ia_218, iw_218, bdS, ck_t, ck_T, cb_0, cb_1, ab_jn, if_true, if_false, n1, hn, Nat.lt_irrefl, nI_add, pk_mul, nI_ltI, nI_leI, nI_eq, reduceCtorEq, m1_ne, and_true, true_and, and_false, false_and, not_true_eq_false, not_false_eq_true, ne_eq, decide_true, decide_false, Bool.false_eq_true, ite_true, ite_false, if_true, if_false, Nat.add_zero, Bool.and_true, Bool.true_and, Bool.and_false, Bool.false_and, Bool.or_true, Bool.true_or, Bool.or_false, Bool.false_or, decide_not, Bool.not_true, Bool.not_false, or_true, true_or, or_false, false_or, or_self, and_self, decide_eq_true_eq]
    rfl
theorem rl_chain58 (g : gG) {n : Nat} (hn : gA g 207 3 = nI n) (h10 : n ≤ 10) (x2 : Int32) {s : Nat} (hs : s < 10) (K : ab_H → Option (Int32 × ab_H)) {F : Nat} (hF : 11000 < F) : fX12_chain_58 F 206 x2 (nI s) K F (nI 0) (gH g) = K (gH (sA g 218 (clA (fun q => gA g 207 (12 + 6 * q + 5)) n s (gA g 218) n))) := by
  have e7 : ¬ (207 = 218) := by omega
  have h0 := lp0 (L := fun F' i (g : gG) => fX12_chain_58 F 206 x2 (nI s) K F' i (gH g)) (n := n) (fun i => sA g 218 (clA (fun q => gA g 207 (12 + 6 * q + 5)) n s (gA g 218) i)) (K (gH (sA g 218 (clA (fun q => gA g 207 (12 + 6 * q + 5)) n s (gA g 218) n)))) ?_ ?_ F (by omega)
  · have e2 : sA g 218 (clA (fun q => gA g 207 (12 + 6 * q + 5)) n s (gA g 218) 0) = g := sA_id g 218
    rw [e2] at h0; exact h0
  · intro F' i hi
    have n1 : gA (sA g 218 (clA (fun q => gA g 207 (12 + 6 * q + 5)) n s (gA g 218) i)) 207 = gA g 207 := gA_sA2 _ _ e7
    have t := rl_chain72 (sA g 218 (clA (fun q => gA g 207 (12 + 6 * q + 5)) n s (gA g 218) i)) (n := n) (by rw [n1]; exact hn) h10 x2 hs hi (fun (h29 : ab_H) => fX12_chain_58 F 206 x2 (nI s) K F' (nI i + nI 1) h29) hF
    rw [n1, gA_sA1, sA_sA] at t
    simp (disch := omega) only [fX12_chain_58, fr_206_1, ia_207, bdS, ck_t, ck_T, cb_0, cb_1, ab_jn, if_true, if_false, n1, hn, hi, nI_ltI, if_true, t]
    rw [nI_add]; rfl
  · intro F'
    have n1 : gA (sA g 218 (clA (fun q => gA g 207 (12 + 6 * q + 5)) n s (gA g 218) n)) 207 = gA g 207 := gA_sA2 _ _ e7
    simp (disch := omega) only [fX12_chain_58, fr_206_1, ia_207, bdS, ck_t, ck_T, cb_0, cb_1, ab_jn, if_true, if_false, n1, hn, Nat.lt_irrefl, nI_add, pk_mul, nI_ltI, nI_leI, nI_eq, reduceCtorEq, m1_ne, and_true, true_and, and_false, false_and, not_true_eq_false, not_false_eq_true, ne_eq, decide_true, decide_false, Bool.false_eq_true, ite_true, ite_false, if_true, if_false, Nat.add_zero, Bool.and_true, Bool.true_and, Bool.and_false, Bool.false_and, Bool.or_true, Bool.true_or, Bool.or_false, Bool.false_or, decide_not, Bool.not_true, Bool.not_false, or_true, true_or, or_false, false_or, or_self, and_self, decide_eq_true_eq]
theorem rl_chain49 (g : gG) {n o : Nat} (hn : gA g 207 3 = nI n) (h10 : n ≤ 10) (ho : o < n) {F : Nat} (hF : 11000 < F) : fX12_chain_49 F 206 (nI o) F (nI 0) (gH g) = some (clS (fun q => gA g 207 (12 + 6 * q + 5)) n (gA g 218) 10 o, gH (sA g 218 (clS (fun q => gA g 207 (12 + 6 * q + 5)) n (gA g 218) 10))) := by
  have e7 : ¬ (207 = 218) := by omega
  have h0 := lp0 (L := fun F' i (g : gG) => fX12_chain_49 F 206 (nI o) F' i (gH g)) (n := 10) (fun i => sA g 218 (clS (fun q => gA g 207 (12 + 6 * q + 5)) n (gA g 218) i)) (some (clS (fun q => gA g 207 (12 + 6 * q + 5)) n (gA g 218) 10 o, gH (sA g 218 (clS (fun q => gA g 207 (12 + 6 * q + 5)) n (gA g 218) 10)))) ?_ ?_ F (by omega)
  · have e2 : sA g 218 (clS (fun q => gA g 207 (12 + 6 * q + 5)) n (gA g 218) 0) = g := sA_id g 218
    rw [e2] at h0; exact h0
  · intro F' i hi
    have n1 : gA (sA g 218 (clS (fun q => gA g 207 (12 + 6 * q + 5)) n (gA g 218) i)) 207 = gA g 207 := gA_sA2 _ _ e7
    have t := rl_chain58 (sA g 218 (clS (fun q => gA g 207 (12 + 6 * q + 5)) n (gA g 218) i)) (n := n) (by rw [n1]; exact hn) h10 (nI o) hi (fun (h30 : ab_H) => fX12_chain_49 F 206 (nI o) F' (nI i + nI 1) h30) hF
    rw [n1, gA_sA1, sA_sA] at t
    simp (disch := omega) only [fX12_chain_49, fr_206_25, ia_218, bdS, ck_t, ck_T, cb_0, cb_1, ab_jn, if_true, if_false, hi, nI_ltI, if_true, t]
    rw [nI_add]; rfl
  · intro F'
    simp (disch := omega) only [fX12_chain_49, fr_206_25, ia_218, bdS, ck_t, ck_T, cb_0, cb_1, ab_jn, if_true, if_false, gA_sA1, Nat.lt_irrefl, nI_add, pk_mul, nI_ltI, nI_leI, nI_eq, reduceCtorEq, m1_ne, and_true, true_and, and_false, false_and, not_true_eq_false, not_false_eq_true, ne_eq, decide_true, decide_false, Bool.false_eq_true, ite_true, ite_false, if_true, if_false, Nat.add_zero, Bool.and_true, Bool.true_and, Bool.and_false, Bool.false_and, Bool.or_true, Bool.true_or, Bool.or_false, Bool.false_or, decide_not, Bool.not_true, Bool.not_false, or_true, true_or, or_false, false_or, or_self, and_self, decide_eq_true_eq]
theorem rl_chain21 (g : gG) (x1 x2 : Int32) (K : ab_H → Option (Int32 × ab_H)) {F : Nat} (hF : 11000 < F) : fX12_chain_21 F 206 x1 x2 K F (nI 0) (gH g) = K (gH (sA g 218 (fun q => if q < 10 then -1 else gA g 218 q))) := by
  have h0 := lp0 (L := fun F' i (g : gG) => fX12_chain_21 F 206 x1 x2 K F' i (gH g)) (n := 10) (fun i => sA g 218 (fun q => if q < i then -1 else gA g 218 q)) (K (gH (sA g 218 (fun q => if q < 10 then -1 else gA g 218 q)))) ?_ ?_ F (by omega)
  · have e2 : sA g 218 (fun q => if q < 0 then -1 else gA g 218 q) = g := by
      have : (fun q => if q < 0 then -1 else gA g 218 q) = gA g 218 := by funext q; rw [if_neg (by omega)]
      rw [this, sA_id]
    rw [e2] at h0; exact h0
  · intro F i hi
    have e6 : upd (fun q => if q < i then -1 else gA g 218 q) i (-1) = fun q => if q < i + 1 then -1 else gA g 218 q := by
      funext q
      rw [upd_e]
      by_cases c : q = i
      · rw [if_pos c, if_pos (by omega)]
      · rw [if_neg c]
        by_cases c2 : q < i
        · rw [if_pos c2, if_pos (by omega)]
        · rw [if_neg c2, if_neg (by omega)]
    simp (disch := omega) only [fX12_chain_21, fr_206_25, iw_218, bdS, ck_t, ck_T, cb_0, cb_1, ab_jn, if_true, if_false, hi, gA_sA1, sA_sA, e6, nI_add, pk_mul, nI_ltI, nI_leI, nI_eq, reduceCtorEq, m1_ne, and_true, true_and, and_false, false_and, not_true_eq_false, not_false_eq_true, ne_eq, decide_true, decide_false, Bool.false_eq_true, ite_true, ite_false, if_true, if_false, Nat.add_zero, Bool.and_true, Bool.true_and, Bool.and_false, Bool.false_and, Bool.or_true, Bool.true_or, Bool.or_false, Bool.false_or, decide_not, Bool.not_true, Bool.not_false, or_true, true_or, or_false, false_or, or_self, and_self, decide_eq_true_eq]
  · intro F
    simp (disch := omega) only [fX12_chain_21, fr_206_25, iw_218, bdS, ck_t, ck_T, cb_0, cb_1, ab_jn, if_true, if_false, Nat.lt_irrefl, nI_add, pk_mul, nI_ltI, nI_leI, nI_eq, reduceCtorEq, m1_ne, and_true, true_and, and_false, false_and, not_true_eq_false, not_false_eq_true, ne_eq, decide_true, decide_false, Bool.false_eq_true, ite_true, ite_false, if_true, if_false, Nat.add_zero, Bool.and_true, Bool.true_and, Bool.and_false, Bool.false_and, Bool.or_true, Bool.true_or, Bool.or_false, Bool.false_or, decide_not, Bool.not_true, Bool.not_false, or_true, true_or, or_false, false_or, or_self, and_self, decide_eq_true_eq]
theorem clA_eq {kn : Nat → Int32} {n s : Nat} {f : Nat → Int32} (hs : s < 100) : ∀ a, a ≤ n → ∀ b, b < n → clA kn n s f a b = if f b = -1 ∧ exB (fun c => decide (f c = nI s) && bt (kn c) b) a = true then nI (s + 1) else f b
  | 0, _, b, _ => by rw [exB_0]; simp [clA, it]
  | a + 1, ha, b, hb => by
    have ih := clA_eq (kn := kn) (n := n) (f := f) hs a (by omega)
    have e : clA kn n s f (a + 1) b = cla kn s (clA kn n s f a) a b := by
      show (if b < n then cla kn s (clA kn n s f a) a b else _) = _
      rw [if_pos hb]
    have ia := ih a (by omega)
    have ib := ih b hb
    have ne1 : ¬ (nI (s + 1) = nI s) := by rw [nI_eq (by omega) (by omega)]; omega
    have ne2 : ¬ (nI (s + 1) = -1) := nI_m1 (by omega)
    have ha2 : (clA kn n s f a a = nI s) ↔ (f a = nI s) := by
      rw [ia]
      split
      · rename_i h
        constructor
        · intro h2; exact absurd h2 ne1
        · intro h2; rw [h.1] at h2; exact absurd h2.symm (nI_m1 (by omega))
      · exact Iff.rfl
    rw [e, exB_S]
    unfold cla
    rw [ib]
    cases cx : exB (fun c => decide (f c = nI s) && bt (kn c) b) a
    · simp only [Bool.false_eq_true, and_false, if_false, Bool.false_or, ha2]
      by_cases c1 : f a = nI s <;> by_cases c2 : f b = -1 <;> cases c3 : bt (kn a) b <;> simp [c1, c2, c3]
    · by_cases c2 : f b = -1
      · simp [c2, ne2]
      · simp [c2]
theorem fnd_S (P : Nat → Bool) {n : Nat} (hn : n < 2 ^ 31) : fnd P (n + 1) = if fnd P n = -1 then (if P n = true then nI n else -1) else fnd P n := by
  rcases fnd_cases P n with ⟨e, h⟩ | ⟨i, hi, h1, h2, e⟩
  · rw [e, if_pos rfl]
    cases c : P n
    · refine (fnd_no (fun j hj => ?_)).trans (by simp)
      by_cases cj : j = n
      · rw [cj, c]; decide
      · rw [h j (by omega)]; decide
    · exact (fnd_at (by omega) c (fun j hj => by rw [h j hj]; decide)).trans (by simp)
  · rw [e, if_neg (nI_m1 (by omega))]; exact fnd_at (by omega) h1 (fun j hj => by rw [h2 j hj]; decide)
theorem clS_eq {kn : Nat → Int32} {n p : Nat} {f : Nat → Int32} (h0 : ∀ b, b < n → f b = fnd (fun j => Wq kn n p j b) 1) : ∀ s, s < 50 → ∀ b, b < n → clS kn n f s b = fnd (fun j => Wq kn n p j b) (s + 1)
  | 0, _, b, hb => h0 b hb
  | s + 1, hs, b, hb => by
    have ih := clS_eq h0 s (by omega)
    have e : clS kn n f (s + 1) b = clA kn n s (clS kn n f s) n b := rfl
    rw [e, clA_eq (by omega) n (Nat.le_refl n) b hb, ih b hb, fnd_S (fun j => Wq kn n p j b) (n := s + 1) (by omega)]
    by_cases c : fnd (fun j => Wq kn n p j b) (s + 1) = -1
    · rw [c]
      simp only [true_and, if_true]
      have hW : ∀ j, j < s + 1 → Wq kn n p j b = false := exB_f.mp ((fnd_m1' (by omega)).mp c)
      have e2 : Wq kn n p (s + 1) b = exB (fun a => Wq kn n p s a && bt (kn a) b) n := by
        show (Wq kn n p s b || _) = _
        rw [hW s (by omega), Bool.false_or]
      rw [e2]
      have e3 : exB (fun c => decide (clS kn n f s c = nI s) && bt (kn c) b) n = exB (fun a => Wq kn n p s a && bt (kn a) b) n := by
        refine exB_cong (fun a ha => ?_)
        rw [ih a ha]
        cases hk : bt (kn a) b
        · simp
        · simp only [Bool.and_true]
          rcases fnd_cases (fun j => Wq kn n p j a) (s + 1) with ⟨ea, h⟩ | ⟨i, hi, h1, h2, ea⟩
          · rw [ea, h s (by omega), decide_eq_false (fun h => (nI_m1 (by omega)) h.symm)]
          · rw [ea]
            by_cases ci : i = s
            · subst ci; rw [h1]; simp
            · have hlt : i < s := by omega
              have : Wq kn n p (i + 1) b = true := by
                show (_ || exB (fun a => Wq kn n p i a && bt (kn a) b) n) = true
                rw [exB_t.mpr ⟨a, ha, by rw [h1, hk]; rfl⟩, Bool.or_true]
              rw [hW (i + 1) (by omega)] at this; cases this
      rw [e3]
    · rw [if_neg (fun h => c h.1), if_neg c]
theorem cq_chain {g : gG} (R : RE Nq g) (x y : Int32) {F : Nat} (hF : 11000 < F) : Cq Nq g (fX11_chain F 0 x y (gH g)) (fun g => fX12_chain F 206 x y (gH g)) [eIx, eAr] := by
  have R0 := R; obtain ⟨n, k, s, f, R⟩ := R
  have V := R.1.1
  obtain ⟨rn, h10, rk, h12⟩ := R.rv
  rcases two_cases h10 x y with (e | ⟨e, e'⟩) | ⟨p, o, hp, ho, rfl, rfl, ep, eo⟩
  · refine Cq_of R0 ⟨.inr eIx, nI 0, nI 1, ?_, ?_, 0, by decide, rfl, rfl⟩
    · simp (disch := first | omega | assumption | exact isSt6 | exact isSt18 | exact isSt30) only [fX11_chain, io_0, bdS, ck_t, ck_T, cb_0, cb_1, ab_jn, if_true, if_false, cl_needTwo V, e, bx_r, reduceCtorEq, m1_ne, and_true, true_and, and_false, false_and, not_true_eq_false, not_false_eq_true, ne_eq, decide_true, decide_false, Bool.false_eq_true, ite_true, ite_false, if_true, if_false, Nat.add_zero, Bool.and_true, Bool.true_and, Bool.and_false, Bool.false_and, Bool.or_true, Bool.true_or, Bool.or_false, Bool.false_or, decide_not, Bool.not_true, Bool.not_false, or_true, true_or, or_false, false_or, or_self, and_self, decide_eq_true_eq]
    · simp (disch := first | omega | assumption | exact isSt6 | exact isSt18 | exact isSt30) only [fX12_chain, io_206, fw_206_0, fi_206_0, fr_206_25, iw_218, bdS, ck_t, ck_T, cb_0, cb_1, ab_jn, if_true, if_false, rf_two R.rv, e, gF_sF1, upd_1, nI10, reduceCtorEq, m1_ne, and_true, true_and, and_false, false_and, not_true_eq_false, not_false_eq_true, ne_eq, decide_true, decide_false, Bool.false_eq_true, ite_true, ite_false, if_true, if_false, Nat.add_zero, Bool.and_true, Bool.true_and, Bool.and_false, Bool.false_and, Bool.or_true, Bool.true_or, Bool.or_false, Bool.false_or, decide_not, Bool.not_true, Bool.not_false, or_true, true_or, or_false, false_or, or_self, and_self, decide_eq_true_eq]
  · refine Cq_of R0 ⟨.inr eIx, nI 0, nI 1, ?_, ?_, 0, by decide, rfl, rfl⟩
    · simp (disch := first | omega | assumption | exact isSt6 | exact isSt18 | exact isSt30) only [fX11_chain, io_0, bdS, ck_t, ck_T, cb_0, cb_1, ab_jn, if_true, if_false, cl_needTwo V, e, e', bx_r, reduceCtorEq, m1_ne, and_true, true_and, and_false, false_and, not_true_eq_false, not_false_eq_true, ne_eq, decide_true, decide_false, Bool.false_eq_true, ite_true, ite_false, if_true, if_false, Nat.add_zero, Bool.and_true, Bool.true_and, Bool.and_false, Bool.false_and, Bool.or_true, Bool.true_or, Bool.or_false, Bool.false_or, decide_not, Bool.not_true, Bool.not_false, or_true, true_or, or_false, false_or, or_self, and_self, decide_eq_true_eq]
    · simp (disch := first | omega | assumption | exact isSt6 | exact isSt18 | exact isSt30) only [fX12_chain, io_206, fw_206_0, fi_206_0, fr_206_25, iw_218, bdS, ck_t, ck_T, cb_0, cb_1, ab_jn, if_true, if_false, rf_two R.rv, e, e', gF_sF1, upd_1, nI10, reduceCtorEq, m1_ne, and_true, true_and, and_false, false_and, not_true_eq_false, not_false_eq_true, ne_eq, decide_true, decide_false, Bool.false_eq_true, ite_true, ite_false, if_true, if_false, Nat.add_zero, Bool.and_true, Bool.true_and, Bool.and_false, Bool.false_and, Bool.or_true, Bool.true_or, Bool.or_false, Bool.false_or, decide_not, Bool.not_true, Bool.not_false, or_true, true_or, or_false, false_or, or_self, and_self, decide_eq_true_eq]
  by_cases c : p = o
  · refine Cq_of R0 ⟨.inr eAr, nI 0, nI 2, ?_, ?_, 1, by decide, rfl, rfl⟩
    · simp (disch := first | omega | assumption | exact isSt6 | exact isSt18 | exact isSt30) only [fX11_chain, io_0, bdS, ck_t, ck_T, cb_0, cb_1, ab_jn, if_true, if_false, cl_needTwo V, ep, eo, c, bx_r, nI_add, pk_mul, nI_ltI, nI_leI, nI_eq, reduceCtorEq, m1_ne, and_true, true_and, and_false, false_and, not_true_eq_false, not_false_eq_true, ne_eq, decide_true, decide_false, Bool.false_eq_true, ite_true, ite_false, if_true, if_false, Nat.add_zero, Bool.and_true, Bool.true_and, Bool.and_false, Bool.false_and, Bool.or_true, Bool.true_or, Bool.or_false, Bool.false_or, decide_not, Bool.not_true, Bool.not_false, or_true, true_or, or_false, false_or, or_self, and_self, decide_eq_true_eq]
    · simp (disch := first | omega | assumption | exact isSt6 | exact isSt18 | exact isSt30) only [fX12_chain, io_206, fw_206_0, fi_206_0, fr_206_25, iw_218, bdS, ck_t, ck_T, cb_0, cb_1, ab_jn, if_true, if_false, rf_two R.rv, ep, eo, c, gF_sF1, upd_1, nI20, nI_add, pk_mul, nI_ltI, nI_leI, nI_eq, reduceCtorEq, m1_ne, and_true, true_and, and_false, false_and, not_true_eq_false, not_false_eq_true, ne_eq, decide_true, decide_false, Bool.false_eq_true, ite_true, ite_false, if_true, if_false, Nat.add_zero, Bool.and_true, Bool.true_and, Bool.and_false, Bool.false_and, Bool.or_true, Bool.true_or, Bool.or_false, Bool.false_or, decide_not, Bool.not_true, Bool.not_false, or_true, true_or, or_false, false_or, or_self, and_self, decide_eq_true_eq]
  have e7 : ¬ (207 = 218) := by omega
  have q := chF_cl (kn := fun q => gA g 207 (12 + 6 * q + 5)) hp ho c h10
  have t13 := cl_chain13 V hF hp ho
  rw [← q] at t13
  generalize hf0 : upd (fun q => if q < 10 then -1 else gA g 218 q) p (nI 0) = f0
  have hb0 : ∀ b, b < n → f0 b = fnd (fun j => Wq (fun q => gA g 207 (12 + 6 * q + 5)) n p j b) 1 := fun b hb => by
    rw [← hf0, upd_e]
    by_cases cb : b = p
    · rw [if_pos cb]; exact (fnd_at (by omega) (by simp [Wq, cb]) (fun j hj => absurd hj (Nat.not_lt_zero j))).symm
    · rw [if_neg cb, if_pos (by omega)]
      exact (fnd_no (fun j hj => by rw [show j = 0 by omega]; simp [Wq, cb])).symm
  have eS := clS_eq hb0 10 (by decide) o ho
  have t49 := rl_chain49 (sA (sF g 206 0 (nI 0)) 218 f0) (n := n) (o := o) (by rw [gA_sA2 _ _ e7, gA_sF]; exact rn) h10 ho hF
  simp only [gA_sA2 _ _ e7, gA_sF, gA_sA1, sA_sA] at t49
  rw [eS] at t49
  have zA : ∀ b, b ≠ 218 → gA (sA (sF g 206 0 (nI 0)) 218 (clS (fun q => gA g 207 (12 + 6 * q + 5)) n f0 10)) b = gA g b := fun b hb => by rw [gA_sA2 _ _ hb, gA_sF]
  have zF : ∀ b, b ≠ 206 → gF (sA (sF g 206 0 (nI 0)) 218 (clS (fun q => gA g 207 (12 + 6 * q + 5)) n f0 10)) b = gF g b := fun b hb => by rw [gF_sA, gF_sF2 _ _ hb]
  have z6 : ∀ j, j ≠ 0 → gF (sA (sF g 206 0 (nI 0)) 218 (clS (fun q => gA g 207 (12 + 6 * q + 5)) n f0 10)) 206 j = gF g 206 j := fun j hj => by rw [gF_sA, gF_sF1, upd_2 _ _ hj]
  refine ⟨.inl (chF (fun q => gA g 207 (12 + 6 * q + 5)) n p o), chF (fun q => gA g 207 (12 + 6 * q + 5)) n p o, sA (sF g 206 0 (nI 0)) 218 (clS (fun q => gA g 207 (12 + 6 * q + 5)) n f0 10), ?_, ?_, ⟨by rw [gF_sA, gF_sF1, upd_1], rfl⟩, n, k, s, f, R.kp ⟨⟨rfl, fun _ => rfl, fun b hb => zF b (by omega), zA 3 (by omega), fun b h1 h2 => zA b (by omega)⟩, fun b h1 h2 => ⟨zF b (by omega), zA b (by omega), rfl, rfl⟩, fun b h1 h2 => ⟨zF b (by omega), zA b (by omega), rfl, rfl⟩, zA _ (by omega), zA _ (by omega), zA _ (by omega), fun j hj => z6 j (by omega), congrFun (zF 192 (by omega)) 1, congrFun (zF 194 (by omega)) 1⟩ ?_⟩
  · simp (disch := first | omega | assumption | exact isSt6 | exact isSt18 | exact isSt30) only [fX11_chain, io_0, bdS, ck_t, ck_T, cb_0, cb_1, ab_jn, if_true, if_false, cl_needTwo V, ep, eo, c, bx_l, sh1, t13, nI_add, pk_mul, nI_ltI, nI_leI, nI_eq, reduceCtorEq, m1_ne, and_true, true_and, and_false, false_and, not_true_eq_false, not_false_eq_true, ne_eq, decide_true, decide_false, Bool.false_eq_true, ite_true, ite_false, if_true, if_false, Nat.add_zero, Bool.and_true, Bool.true_and, Bool.and_false, Bool.false_and, Bool.or_true, Bool.true_or, Bool.or_false, Bool.false_or, decide_not, Bool.not_true, Bool.not_false, or_true, true_or, or_false, false_or, or_self, and_self, decide_eq_true_eq]
  · have t21 := fun K => rl_chain21 (sF g 206 0 (nI 0)) (nI p) (nI o) K hF
    simp only [gA_sF] at t21
    simp (disch := first | omega | assumption | exact isSt6 | exact isSt18 | exact isSt30) only [fX12_chain, io_206, fw_206_0, fi_206_0, fr_206_25, iw_218, bdS, ck_t, ck_T, cb_0, cb_1, ab_jn, if_true, if_false, rf_two R.rv, ep, eo, c, gF_sF1, upd_1, nI00, t21, nI_eq, if_true, if_false]
    rw [gA_sA1, sA_sA, hf0, t49]; rfl
  · obtain ⟨L, t1, t2, t3, t4⟩ := R.2.2.2.1
    refine ⟨L, t1, ?_, ?_, fun i hi => ?_⟩
    · rw [zF 4 (by omega)]; exact t2
    · rw [z6 8 (by omega)]; exact t3
    · rw [zA 5 (by omega), zA 211 (by omega)]; exact t4 i hi
