variable {Nq : Nat}
/-! ===== draws; who is the d-th ===== -/
def dvl (m : Nat → Int32) : Int32 := ab_us (m 9) (nI 16) &&& nI 32767
def drM (m : Nat → Int32) : Nat → Int32 := upd m 9 (nI 1103515245 * m 9 + nI 12345)
theorem dvl_in (m : Nat → Int32) : ∃ b, b < 32768 ∧ dvl m = nI b := pk_andE _ 15 (by decide)
theorem dvl_rm (m : Nat → Int32) {c : Nat} (h0 : 0 < c) (hc : c < 1000) : ∃ d, d < c ∧ ab_rm (dvl m) (nI c) = nI d := by
  obtain ⟨b, hb, e⟩ := dvl_in m
  refine ⟨b % c, Nat.mod_lt _ h0, ?_⟩
  rw [e]; exact pk_rem (by omega) h0 (by omega)
theorem cl_draw {g : gG} {x : Nat} {m : Nat → Int32} {n k : Nat} (S : SR g x m n k) : fX8_draw x (gH g) = some (dvl (drM m), gH (sF g x 5 (drM m 9))) ∧ SR (sF g x 5 (drM m 9)) x (drM m) n k := by
  have hx := S.c.st
  have e9 : gF g x 5 = m 9 := S.2.2.2.2.1.2.2.2.1
  have d9 : drM m 9 = nI 1103515245 * m 9 + nI 12345 := upd_1 _ _ _
  refine ⟨?_, ?_⟩
  · unfold fX8_draw
    refine (bd_e ((fi_s5 _ hx).trans (by rw [e9]))).trans ?_
    refine (bd_e (fw_s5 _ _ hx)).trans ?_
    refine (bd_e ((fi_s5 _ hx).trans (by rw [gF_sF1, upd_1]))).trans ?_
    unfold dvl
    rw [d9]
  · have := S.seed (drM m 9)
    unfold drM at this ⊢
    rw [upd_1] at this ⊢
    exact this
theorem rf_draw (g : gG) {by9 : Int32} (h : ¬ by9 = 0) : fX12_draw 206 by9 (gH g) = some (ab_rm (dvl (drM (gA g 207))) by9, gH (sA g 207 (drM (gA g 207)))) := by
  have d9 : drM (gA g 207) 9 = nI 1103515245 * gA g 207 9 + nI 12345 := upd_1 _ _ _
  unfold fX12_draw
  refine (bd_e (fr_206_1 _)).trans ?_
  refine (bd_e (fr_206_1 _)).trans ?_
  refine (bd_e (ia_207 _ (show 9 < 984 by omega))).trans ?_
  refine (bd_e (iw_207 _ _ (show 9 < 984 by omega))).trans ?_
  refine (bd_e (fr_206_1 _)).trans ?_
  refine (bd_e (ia_207 _ (show 9 < 984 by omega))).trans ?_
  rw [gA_sA1, upd_1]
  unfold ab_ck
  rw [if_pos h]
  unfold dvl
  rw [d9]
  rfl
theorem Lm.dr (m : Nat → Int32) : Lm m (drM m) := Lm.u (by omega)
/-! who is the d-th -/
def nthM (Q : Nat → Bool) (n d : Nat) : Int32 := fnd (fun p => Q p && decide (fb_ct Q p = d)) n
theorem nthM_in {Q : Nat → Bool} {n d : Nat} (h : d < fb_ct Q n) (hn : n < 1000) : ∃ p, p < n ∧ Q p = true ∧ nthM Q n d = nI p ∧ nv (nthM Q n d) = p := by
  obtain ⟨i, h1, h2, h3⟩ := fb_ct_kth h
  unfold nthM
  rcases fnd_cases (fun p => Q p && decide (fb_ct Q p = d)) n with ⟨_, e⟩ | ⟨j, j1, j2, _, e⟩
  · have := e i h1
    rw [h2, decide_eq_true h3] at this; cases this
  · rw [Bool.and_eq_true] at j2
    exact ⟨j, j1, j2.1, e, by rw [e, nv_nI (by omega)]⟩
theorem nthM_cong {P Q : Nat → Bool} {n d : Nat} (h : ∀ p, p < n → P p = Q p) : nthM P n d = nthM Q n d := by
  unfold nthM
  exact fnd_cong (fun p hp => by rw [h p hp, fb_ct_cong (fun q hq => h q (by omega))])
theorem fnd_more {P : Nat → Bool} {n N : Nat} (h : n ≤ N) (h2 : ∀ p, n ≤ p → p < N → P p = false) : fnd P N = fnd P n := by
  rcases fnd_cases P n with ⟨e, h1⟩ | ⟨i, h1, h3, h4, e⟩
  · rw [e]
    exact fnd_no (fun j hj => by
      by_cases c : j < n
      · rw [h1 j c]; decide
      · rw [h2 j (by omega) hj]; decide)
  · rw [e]
    exact fnd_at (by omega) h3 (fun j hj => by rw [h4 j hj]; decide)
theorem clr_e : ∀ d s, clr (d + 1) s = clr d s &&& (clr d s - 1)
  | 0, _ => rfl
  | d + 1, s => clr_e d (s &&& (s - 1))
theorem cl_nthOf {s d : Nat} (hs : s < 1024) (hd : d < 10) (h : d < fb_ct s.testBit 10) (H : ab_H) {F : Nat} (hF : 11000 < F) : fX8_nthOf F (nI s) (nI d) H = some (fnd (fun p => s.testBit p && decide (fb_ct s.testBit p = d)) 10) := by
  obtain ⟨z1, z2, z3⟩ := nth_ok s hs d hd h
  rw [z3]
  unfold fX8_nthOf
  refine (lp0 (L := fun F' i (a : Int32) => fX8_nthOf_4 (nI d) H (fun (z2 : Int32) => ab_bd (fJ6_numberOfTrailingZeros_0f7a4 z2 H) fun v3 => some v3) F' a i) (n := d) (fun i => nI (clr i s)) (some (nI (fa_first (clr d s).testBit 10))) ?_ ?_ F (by omega))
  · intro F' i hi
    have c0 := z2 i hi
    have cl := clr_lt i s hs
    show fX8_nthOf_4 (nI d) H _ (F' + 1) (nI (clr i s)) (nI i) = fX8_nthOf_4 (nI d) H _ F' (nI (clr (i + 1) s)) (nI (i + 1))
    rw [fX8_nthOf_4, if_pos (nI_lt hi (by omega)), clr_e, ← fa_and, pk_sub (by omega), nI_add]
  · intro F'
    show fX8_nthOf_4 (nI d) H _ (F' + 1) (nI (clr d s)) (nI d) = _
    rw [fX8_nthOf_4, if_neg (fun h => Int32.lt_irrefl h)]
    refine (bd_e (cl_ntz H (clr_lt d s hs) z1)).trans ?_
    rw [ntz_ok _ (clr_lt d s hs) z1]
theorem st_tb {P : Nat → Bool} {n p : Nat} (h : p < n) : (st P n).testBit p = P p := by rw [st_bit, decide_eq_true h, Bool.true_and]
theorem st_ct {P : Nat → Bool} {n : Nat} (h10 : n ≤ 10) : fb_ct (st P n).testBit 10 = fb_ct P n := by
  obtain ⟨d, hd⟩ : ∃ d, 10 = n + d := ⟨10 - n, by omega⟩
  have z : fb_ct (fun k => (st P n).testBit (n + k)) d = 0 := fb_ct_zero.mpr (fun k _ => by rw [st_bit, decide_eq_false (by omega), Bool.false_and])
  rw [hd, fb_ct_split, fb_ct_cong (q := P) (fun k hk => st_tb hk), z, Nat.add_zero]
theorem st_nth {P : Nat → Bool} {n d : Nat} (h10 : n ≤ 10) : fnd (fun p => (st P n).testBit p && decide (fb_ct (st P n).testBit p = d)) 10 = nthM P n d := by
  rw [fnd_more h10 (fun p h1 _ => by rw [st_bit, decide_eq_false (by omega), Bool.false_and, Bool.false_and])]
  unfold nthM
  exact fnd_cong (fun p hp => by rw [st_tb hp, fb_ct_cong (fun q hq => st_tb (show q < n by omega))])
theorem cl_nthS {P : Nat → Bool} {n d : Nat} (h10 : n ≤ 10) (h : d < fb_ct P n) (H : ab_H) {F : Nat} (hF : 11000 < F) : fX8_nthOf F (nI (st P n)) (nI d) H = some (nthM P n d) := by
  have hs : st P n < 1024 := st_le (k := 10) h10
  have := fb_ct_le P n
  rw [cl_nthOf hs (by omega) (by rw [st_ct h10]; exact h) H hF, st_nth h10]
theorem st_pc {P : Nat → Bool} {n : Nat} (h10 : n ≤ 10) : pc (nI (st P n)) = fb_ct P n := by rw [pc_ok _ (st_le (k := 10) h10), st_ct h10]
theorem st_but {P : Nat → Bool} {n p : Nat} (h10 : n ≤ 10) (hp : p < n) : nI (st P n) &&& (nI (2 ^ p) ^^^ (-1)) = nI (st (fun q => P q && decide (q ≠ p)) n) := by
  refine b_ext (fun i hi => ?_)
  rw [b_and, b_not _ hi, bt_st (by omega), bt_st (by omega), bt_nI' hi, Nat.testBit_two_pow]
  by_cases c : p = i
  · subst c
    simp
  · have c2 : ¬ i = p := fun h => c h.symm
    simp [c, c2]
theorem ct_but {P : Nat → Bool} {n p : Nat} (hp : p < n) (h : P p = true) : fb_ct (fun q => P q && decide (q ≠ p)) n + 1 = fb_ct P n := by
  have := fb_ct_upd P false (i := p) (n := n) hp
  rw [h, if_pos rfl, if_neg (by decide)] at this
  rw [← Nat.add_zero (fb_ct P n), ← this]
  congr 1
  refine fb_ct_cong (fun k hk => ?_)
  by_cases c : k = p
  · rw [if_pos c, c]; simp
  · rw [if_neg c]; simp [c]
theorem rf_holder (g : gG) {n : Nat} (hn : gA g 207 3 = nI n) (h10 : n ≤ 10) (but : Int32) {d : Nat} (hd : d < 1000) {F : Nat} (hF : 11000 < F) : fX12_holder F 206 (nI d) but (gH g) = some (nthM (fun p => decide (¬ gA g 207 (12 + 6 * p + 3) = -1) && decide (¬ nI p = but)) n d) := by
  obtain ⟨Q, hQ⟩ : ∃ Q : Nat → Bool, Q = fun p => decide (¬ gA g 207 (12 + 6 * p + 3) = -1) && decide (¬ nI p = but) := ⟨_, rfl⟩
  rw [← hQ]
  have e3 := (ia_207 g (show 3 < 984 by omega)).trans (by rw [hn])
  have le : ∀ i, (∀ j, j < i → ¬ (Q j = true ∧ fb_ct Q j = d)) → fb_ct Q i ≤ d := fun i h => by
    apply Decidable.byContradiction
    intro c
    obtain ⟨j, h1, h2, h3⟩ := fb_ct_kth (show d < fb_ct Q i by omega)
    exact h j h1 ⟨h2, h3⟩
  unfold fX12_holder nthM
  refine lpx (L := fun F' i (a : Int32) => fX12_holder_5 206 but (gH g) F' a i) (n := n) (fun i => nI (d - fb_ct Q i)) (fun i => Q i = true ∧ fb_ct Q i = d) _ ?_ ?_ ?_ F (by omega)
  · intro F' i hi hj hE
    have l := le i hj
    show fX12_holder_5 206 but (gH g) (F' + 1) (nI (d - fb_ct Q i)) (nI i) = fX12_holder_5 206 but (gH g) F' (nI (d - fb_ct Q (i + 1))) (nI (i + 1))
    rw [fX12_holder_5]
    refine (bd_e (fr_206_1 _)).trans ?_
    refine (bd_e e3).trans ?_
    refine (if_pos (nI_lt hi (by omega))).trans ?_
    refine (ck_e (io_206 _)).trans ?_
    refine (bd_e (rf_of g (show 12 + 6 * i + 3 < 984 by omega))).trans ?_
    rw [fb_ct_succ, nI_add]
    by_cases c1 : gA g 207 (12 + 6 * i + 3) = -1
    · have q : Q i = false := by rw [hQ]; simp [c1]
      rw [q, if_neg (show ¬ false = true by decide), Nat.add_zero]
      exact if_pos c1
    · refine (if_neg c1).trans ?_
      by_cases c2 : nI i = but
      · have q : Q i = false := by rw [hQ]; simp [c2]
        rw [q, if_neg (show ¬ false = true by decide), Nat.add_zero]
        exact if_pos c2
      · have q : Q i = true := by rw [hQ]; simp [c1, c2]
        have ne : fb_ct Q i ≠ d := fun h => hE ⟨q, h⟩
        refine (if_neg c2).trans ?_
        obtain ⟨r, hr⟩ : ∃ r, d - fb_ct Q i = r + 1 := ⟨d - fb_ct Q i - 1, by omega⟩
        rw [q, if_pos (show true = true from rfl), hr, show d - (fb_ct Q i + 1) = r by omega, nI_d1]
        exact if_neg (fun h => by have := (z_eq (by omega)).mp h; omega)
  · intro F' i hi hj hE
    rw [fnd_at hi (by rw [hE.1, decide_eq_true hE.2]; rfl) (fun j hj' h => by
      rw [Bool.and_eq_true] at h
      exact hj j hj' ⟨h.1, of_decide_eq_true h.2⟩)]
    show fX12_holder_5 206 but (gH g) (F' + 1) (nI (d - fb_ct Q i)) (nI i) = _
    rw [fX12_holder_5]
    refine (bd_e (fr_206_1 _)).trans ?_
    refine (bd_e e3).trans ?_
    refine (if_pos (nI_lt hi (by omega))).trans ?_
    refine (ck_e (io_206 _)).trans ?_
    refine (bd_e (rf_of g (show 12 + 6 * i + 3 < 984 by omega))).trans ?_
    have q := hE.1
    rw [hQ, Bool.and_eq_true] at q
    refine (if_neg (of_decide_eq_true q.1)).trans ?_
    refine (if_neg (of_decide_eq_true q.2)).trans ?_
    rw [hE.2, Nat.sub_self]
    exact if_pos nI_0
  · intro F' hj
    rw [fnd_no (fun j hj' h => by
      rw [Bool.and_eq_true] at h
      exact hj j hj' ⟨h.1, of_decide_eq_true h.2⟩)]
    show fX12_holder_5 206 but (gH g) (F' + 1) (nI (d - fb_ct Q n)) (nI n) = _
    rw [fX12_holder_5]
    refine (bd_e (fr_206_1 _)).trans ?_
    refine (bd_e e3).trans ?_
    exact if_neg (fun h => Int32.lt_irrefl h)
