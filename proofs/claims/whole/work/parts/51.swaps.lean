variable {Nq : Nat}
/-! ===== swaps ===== -/
theorem wrr_iff {w : Nat → Int32} {n p f : Nat} (h10 : n ≤ 10) (hp : p < n) (hf : f < n) (i2 : ∀ p q, p < n → q < n → w p = w q → w p = -1 ∨ p = q) : wrr w n (nI f) = nI p ↔ w p = nI f := by
  unfold wrr
  constructor
  · intro h
    rcases fnd_cases (fun q => decide (w q = nI f)) n with ⟨e, _⟩ | ⟨j, hj, h1, _, e⟩
    · rw [e, m1_ne' (by omega)] at h; exact h.elim
    · rw [e, nI_eq (by omega) (by omega)] at h
      subst h; simpa using h1
  · intro h
    rcases fnd_cases (fun q => decide (w q = nI f)) n with ⟨_, h1⟩ | ⟨j, hj, h1, _, e⟩
    · have := h1 p hp; rw [h] at this; simp at this
    · have h2 : w j = nI f := by simpa using h1
      rcases i2 j p hj hp (h2.trans h.symm) with h3 | h3
      · rw [h2] at h3; exact absurd h3 (nI_m1 (by omega))
      · rw [e, h3]
/-- the way comes round -/
def crd (w : Nat → Int32) (n p : Nat) : Bool := exB (fun i => decide (orb w n p (i + 1) = nI p)) n
theorem crd_end {w : Nat → Int32} {n p : Nat} (hp : p < n) (h10 : n ≤ 10) (i2 : ∀ p q, p < n → q < n → w p = w q → w p = -1 ∨ p = q) (h : ∀ i, i < n → ¬ (orb w n p (i + 1) = -1 ∨ orb w n p (i + 1) = nI p)) : False := by
  have hinj : ∀ i, i ≤ n → ∀ j, j < i → ¬ orb w n p j = orb w n p i := by
    intro i
    induction i with
    | zero => intro _ j hj; omega
    | succ i ih =>
      intro hi j hj e
      cases j with
      | zero => exact h i (by omega) (Or.inr e.symm)
      | succ j =>
        have n1 : ¬ orb w n p (i + 1) = -1 := fun e => h i (by omega) (Or.inl e)
        have n2 : ¬ orb w n p (j + 1) = -1 := fun e' => n1 (e.symm.trans e')
        have c1 : ¬ orb w n p i = -1 := fun e' => n1 (orb_m1 e' 1)
        have c2 : ¬ orb w n p j = -1 := fun e' => n2 (orb_m1 e' 1)
        obtain ⟨a, ha, ea⟩ := (orb_in (w := w) hp i).resolve_left c1
        obtain ⟨b, hb, eb⟩ := (orb_in (w := w) hp j).resolve_left c2
        obtain ⟨c, hc, ec⟩ := (orb_in (w := w) hp (i + 1)).resolve_left n1
        have x1 : wrr w n (nI a) = nI c := by rw [← ea, ← ec, orb_S, if_neg c1]
        have x2 : wrr w n (nI b) = nI c := by rw [← eb, ← ec, ← e, orb_S, if_neg c2]
        have y1 := (wrr_iff h10 hc ha i2).mp x1
        have y2 := (wrr_iff h10 hc hb i2).mp x2
        refine ih (by omega) j (by omega) ?_
        rw [ea, eb]
        exact y2.symm.trans y1
  refine orE_ex (w := w) hp h10 (fun i hi hE => ?_)
  rcases hE with e | ⟨j, hj, e⟩
  · cases i with
    | zero => exact absurd e (nI_m1 (by omega))
    | succ i => exact h i (by omega) (Or.inl e)
  · exact hinj i (by omega) j hj e
theorem rf_comesRound (g : gG) {n : Nat} (hn : gA g 207 3 = nI n) (h10 : n ≤ 10) {F : Nat} (hF : 11000 < F) (i2 : ∀ p q, p < n → q < n → gA g 207 (12 + 6 * p + 2) = gA g 207 (12 + 6 * q + 2) → gA g 207 (12 + 6 * p + 2) = -1 ∨ p = q) {p : Nat} (hp : p < n) : fX12_comesRound F 206 (nI p) (gH g) = some (bI (crd (fun q => gA g 207 (12 + 6 * q + 2)) n p)) := by
  have o1 : orb (fun q => gA g 207 (12 + 6 * q + 2)) n p 1 = fnd (fun q => decide (gA g 207 (12 + 6 * q + 2) = nI p)) n := by
    rw [orb_S]
    show (if nI p = -1 then -1 else _) = _
    rw [if_neg (nI_m1 (by omega))]; rfl
  have st1 : ∀ i, ¬ orb (fun q => gA g 207 (12 + 6 * q + 2)) n p i = -1 → fX12_wearer F 206 (orb (fun q => gA g 207 (12 + 6 * q + 2)) n p i) (gH g) = some (orb (fun q => gA g 207 (12 + 6 * q + 2)) n p (i + 1)) := fun i h => by
    rw [rf_wearer g hn h10 _ (by omega), orb_S, if_neg h]; rfl
  have hx : fX12_comesRound F 206 (nI p) (gH g) = fX12_comesRound_6 F 206 (nI p) (gH g) (fun (z5 : Int32) => (if z5 = nI p then some (nI 1) else some (nI 0))) F (orb (fun q => gA g 207 (12 + 6 * q + 2)) n p 1) := by
    simp (disch := omega) only [fX12_comesRound, io_206, bdS, ck_t, ck_T, cb_0, cb_1, ab_jn, if_true, if_false, rf_wearer g hn h10 (nI p) (show 20 < F by omega), o1]
  rw [hx]
  refine lpx (L := fun F' _ (a : Int32) => fX12_comesRound_6 F 206 (nI p) (gH g) (fun (z5 : Int32) => (if z5 = nI p then some (nI 1) else some (nI 0))) F' a) (n := n) (fun i => orb (fun q => gA g 207 (12 + 6 * q + 2)) n p (i + 1)) (fun i => orb (fun q => gA g 207 (12 + 6 * q + 2)) n p (i + 1) = -1 ∨ orb (fun q => gA g 207 (12 + 6 * q + 2)) n p (i + 1) = nI p) _ ?_ ?_ ?_ F (by omega)
  · intro F' i hi _ hE
    have h1 : ¬ orb (fun q => gA g 207 (12 + 6 * q + 2)) n p (i + 1) = -1 := fun h => hE (Or.inl h)
    have h2 : ¬ orb (fun q => gA g 207 (12 + 6 * q + 2)) n p (i + 1) = nI p := fun h => hE (Or.inr h)
    simp (disch := omega) only [fX12_comesRound_6, io_206, bdS, ck_t, ck_T, cb_0, cb_1, ab_jn, if_true, if_false, h1, h2, st1 _ h1, reduceCtorEq, m1_ne, and_true, true_and, and_false, false_and, not_true_eq_false, not_false_eq_true, ne_eq, decide_true, decide_false, Bool.false_eq_true, ite_true, ite_false, if_true, if_false, Nat.add_zero, Bool.and_true, Bool.true_and, Bool.and_false, Bool.false_and, Bool.or_true, Bool.true_or, Bool.or_false, Bool.false_or, decide_not, Bool.not_true, Bool.not_false, or_true, true_or, or_false, false_or, or_self, and_self, decide_eq_true_eq]
  · intro F' i hi hj hE
    by_cases h2 : orb (fun q => gA g 207 (12 + 6 * q + 2)) n p (i + 1) = nI p
    · have hc : crd (fun q => gA g 207 (12 + 6 * q + 2)) n p = true := exB_t.mpr ⟨i, hi, decide_eq_true h2⟩
      have h3 : ¬ nI p = (-1 : Int32) := nI_m1 (by omega)
      rw [hc]
      simp (disch := omega) only [fX12_comesRound_6, io_206, bdS, ck_t, ck_T, cb_0, cb_1, ab_jn, if_true, if_false, h2, h3, bI_t, reduceCtorEq, m1_ne, and_true, true_and, and_false, false_and, not_true_eq_false, not_false_eq_true, ne_eq, decide_true, decide_false, Bool.false_eq_true, ite_true, ite_false, if_true, if_false, Nat.add_zero, Bool.and_true, Bool.true_and, Bool.and_false, Bool.false_and, Bool.or_true, Bool.true_or, Bool.or_false, Bool.false_or, decide_not, Bool.not_true, Bool.not_false, or_true, true_or, or_false, false_or, or_self, and_self, decide_eq_true_eq]
    · have h1 := hE.resolve_right h2
      have hc : crd (fun q => gA g 207 (12 + 6 * q + 2)) n p = false := exB_f.mpr (fun j hj' => by
        by_cases cj : j < i
        · exact decide_eq_false (fun e => hj j cj (Or.inr e))
        · have := orb_m1 h1 (j - i)
          rw [show i + 1 + (j - i) = j + 1 by omega] at this
          rw [this]; exact decide_eq_false (fun e => nI_m1 (j := p) (by omega) e.symm))
      have h3 : ¬ ((-1 : Int32) = nI p) := fun e => nI_m1 (j := p) (by omega) e.symm
      rw [hc]
      simp (disch := omega) only [fX12_comesRound_6, io_206, bdS, ck_t, ck_T, cb_0, cb_1, ab_jn, if_true, if_false, h1, h3, bI_f, reduceCtorEq, m1_ne, and_true, true_and, and_false, false_and, not_true_eq_false, not_false_eq_true, ne_eq, decide_true, decide_false, Bool.false_eq_true, ite_true, ite_false, if_true, if_false, Nat.add_zero, Bool.and_true, Bool.true_and, Bool.and_false, Bool.false_and, Bool.or_true, Bool.true_or, Bool.or_false, Bool.false_or, decide_not, Bool.not_true, Bool.not_false, or_true, true_or, or_false, false_or, or_self, and_self, decide_eq_true_eq]
  · intro F' hj
    exact (crd_end hp h10 i2 hj).elim
/-- the least of a closed way -/
def led0 (w : Nat → Int32) (n p : Nat) : Bool := crd w n p && !exB (fun b => bt (orS w n p n) b) p
theorem low_0 {x : Int32} {p : Nat} (hp : p < 10) : (x &&& (nI (2 ^ p) - nI 1) = 0) ↔ exB (fun b => bt x b) p = false := by
  have h2 : 1 ≤ 2 ^ p := Nat.one_le_two_pow
  have h3 : 2 ^ p < 2 ^ 10 := Nat.pow_lt_pow_right (by decide) hp
  have hb : ∀ i, i < 32 → bt (nI (2 ^ p) - nI 1) i = decide (i < p) := fun i hi => by
    rw [pk_sub h2, bt_nI' hi, Nat.testBit_two_pow_sub_one]
  constructor
  · intro h
    refine exB_f.mpr (fun b hb' => ?_)
    have e : bt (x &&& (nI (2 ^ p) - nI 1)) b = bt 0 b := by rw [h]
    rw [b_and, hb b (by omega), b_0, decide_eq_true hb', Bool.and_true] at e
    exact e
  · intro h
    apply b_ext
    intro i hi
    rw [b_and, hb i hi, b_0]
    by_cases c : i < p
    · rw [exB_f.mp h i c]; rfl
    · rw [decide_eq_false c, Bool.and_false]
def lstB (w u : Nat → Int32) (n k f : Nat) : Bool := !exB (fun p => decide (w p = nI f)) n && !exB (fun h => decide (u h = nI f)) k
def swA (w u : Nat → Int32) (n k f : Nat) : Bool := !lstB w u n k f && !decide (w f = nI f)
theorem orS_p {w : Nat → Int32} {n p : Nat} (hp : p < n) (h10 : n ≤ 10) : bt (orS w n p n) p = true := by
  rw [orS_bt hp h10 (by omega)]
  exact exB_t.mpr ⟨0, by omega, by simp [orb]⟩
theorem crd_w {w : Nat → Int32} {n p v : Nat} (hp : p < n) (hv : v < n) (h10 : n ≤ 10) (i2 : ∀ p q, p < n → q < n → w p = w q → w p = -1 ∨ p = q) (e : w p = nI v) : bt (orS w n p n) v = crd w n p := by
  rw [orS_bt hp h10 (by omega)]
  have key : ∀ i, orb w n p i = nI v ↔ (orb w n p (i + 1) = nI p) := by
    intro i
    constructor
    · intro h
      rw [orb_S, h, if_neg (nI_m1 (by omega))]
      exact (wrr_iff h10 hp hv i2).mpr e
    · intro h
      rw [orb_S] at h
      by_cases c : orb w n p i = -1
      · rw [if_pos c, m1_ne' (by omega)] at h; exact h.elim
      · rw [if_neg c] at h
        obtain ⟨a, ha, ea⟩ := (orb_in (w := w) hp i).resolve_left c
        rw [ea] at h ⊢
        have := (wrr_iff h10 hp ha i2).mp h
        exact this.symm.trans e
  exact exB_cong (fun i _ => by simp only [key])
theorem crd_no {w : Nat → Int32} {n p : Nat} (hp : p < n) (h10 : n ≤ 10) (i2 : ∀ p q, p < n → q < n → w p = w q → w p = -1 ∨ p = q) (e : w p = -1) : crd w n p = false := by
  refine exB_f.mpr (fun i _ => decide_eq_false (fun h => ?_))
  rw [orb_S] at h
  by_cases c : orb w n p i = -1
  · rw [if_pos c, m1_ne' (by omega)] at h; exact h
  · rw [if_neg c] at h
    obtain ⟨a, ha, ea⟩ := (orb_in (w := w) hp i).resolve_left c
    rw [ea] at h
    have := (wrr_iff h10 hp ha i2).mp h
    rw [e, m1_ne' (by omega)] at this; exact this
theorem cl_leads {g : gG} {m : Nat → Int32} {n k : Nat} (V : Sv g 6 m n k) {F : Nat} (hF : 11000 < F) (i1 : ∀ p, p < n → m (12 + 6 * p + 2) = -1 ∨ ∃ j, j < n ∧ m (12 + 6 * p + 2) = nI j) (i2 : ∀ p q, p < n → q < n → m (12 + 6 * p + 2) = m (12 + 6 * q + 2) → m (12 + 6 * p + 2) = -1 ∨ p = q) {p : Nat} (hp : p < n) : fX11_leadsClosedRing F 0 (nI p) (gH g) = some (bI (!decide (m (12 + 6 * p + 2) = nI p) && led0 (fun q => m (12 + 6 * q + 2)) n p)) := by
  have W := V
  obtain ⟨hx, hn, h10, hk, h12, e3, e4, e5, e6, e7, e8, e11, e9, e10⟩ := W
  have q5 := e5 p hp
  unfold led0
  rcases i1 p hp with e | ⟨v, hv, e⟩
  · rw [crd_no (w := fun q => m (12 + 6 * q + 2)) hp h10 i2 e]
    simp (disch := first | omega | assumption | exact isSt6 | exact isSt18 | exact isSt30) only [fX11_leadsClosedRing, io_s, fr_0_1, fr_s11, ia_s5, bdS, ck_t, ck_T, cb_0, cb_1, ab_jn, if_true, if_false, fr_s11, ia_s5, q5, e, reduceCtorEq, m1_ne, and_true, true_and, and_false, false_and, not_true_eq_false, not_false_eq_true, ne_eq, decide_true, decide_false, Bool.false_eq_true, ite_true, ite_false, if_true, if_false, Nat.add_zero, Bool.and_true, Bool.true_and, Bool.and_false, Bool.false_and, Bool.or_true, Bool.true_or, Bool.or_false, Bool.false_or, decide_not, Bool.not_true, Bool.not_false, or_true, true_or, or_false, false_or, or_self, and_self, decide_eq_true_eq]
    rfl
  · have hne : ¬ nI v = (-1 : Int32) := nI_m1 (by omega)
    by_cases c : v = p
    · subst c
      simp (disch := first | omega | assumption | exact isSt6 | exact isSt18 | exact isSt30) only [fX11_leadsClosedRing, io_s, fr_0_1, fr_s11, ia_s5, bdS, ck_t, ck_T, cb_0, cb_1, ab_jn, if_true, if_false, fr_s11, ia_s5, q5, e, hne, reduceCtorEq, m1_ne, and_true, true_and, and_false, false_and, not_true_eq_false, not_false_eq_true, ne_eq, decide_true, decide_false, Bool.false_eq_true, ite_true, ite_false, if_true, if_false, Nat.add_zero, Bool.and_true, Bool.true_and, Bool.and_false, Bool.false_and, Bool.or_true, Bool.true_or, Bool.or_false, Bool.false_or, decide_not, Bool.not_true, Bool.not_false, or_true, true_or, or_false, false_or, or_self, and_self, decide_eq_true_eq]
      rfl
    · have hb := crd_w (w := fun q => m (12 + 6 * q + 2)) hp hv h10 i2 e
      obtain ⟨t, ht, et⟩ := orS_lt (w := fun q => m (12 + 6 * q + 2)) hp h10 n
      have h2n : 2 ^ n ≤ 2 ^ 10 := Nat.pow_le_pow_right (by decide) h10
      have hpb := orS_p (w := fun q => m (12 + 6 * q + 2)) hp h10
      have t0 : t ≠ 0 := fun h0 => by rw [et, h0, nI_0, b_0] at hpb; cases hpb
      have nz := cl_ntz (gH g) (show t < 1024 by omega) t0
      rw [← et] at nz
      have rg := cl_ringOf V hF hp
      have fl : fa_first (bt (orS (fun q => m (12 + 6 * q + 2)) n p n)) 32 ≤ 32 := fa_first_le _ _
      have key : (nI (fa_first (bt (orS (fun q => m (12 + 6 * q + 2)) n p n)) 32) = nI p) ↔ exB (fun b => bt (orS (fun q => m (12 + 6 * q + 2)) n p n) b) p = false := by
        rw [nI_eq (by omega) (by omega)]
        constructor
        · intro h
          refine exB_f.mpr (fun b hb' => ?_)
          exact fa_first_no (bt (orS (fun q => m (12 + 6 * q + 2)) n p n)) 32 b (by omega)
        · intro h
          rcases Nat.lt_trichotomy (fa_first (bt (orS (fun q => m (12 + 6 * q + 2)) n p n)) 32) p with hl | hl | hl
          · have := fa_first_yes (bt (orS (fun q => m (12 + 6 * q + 2)) n p n)) 32 (by omega)
            rw [exB_f.mp h _ hl] at this; cases this
          · exact hl
          · have := fa_first_no (bt (orS (fun q => m (12 + 6 * q + 2)) n p n)) 32 p hl
            rw [hpb] at this; cases this
      have ev : (nI v = nI p) ↔ False := by rw [nI_eq (by omega) (by omega)]; exact ⟨c, False.elim⟩
      cases cc : crd (fun q => m (12 + 6 * q + 2)) n p
      · rw [cc] at hb
        simp (disch := first | omega | assumption | exact isSt6 | exact isSt18 | exact isSt30) only [fX11_leadsClosedRing, io_s, fr_0_1, fr_s11, ia_s5, bdS, ck_t, ck_T, cb_0, cb_1, ab_jn, if_true, if_false, fr_s11, ia_s5, io_s, q5, e, hne, ev, rg, cl_hasX, hb, bI_0, reduceCtorEq, m1_ne, and_true, true_and, and_false, false_and, not_true_eq_false, not_false_eq_true, ne_eq, decide_true, decide_false, Bool.false_eq_true, ite_true, ite_false, if_true, if_false, Nat.add_zero, Bool.and_true, Bool.true_and, Bool.and_false, Bool.false_and, Bool.or_true, Bool.true_or, Bool.or_false, Bool.false_or, decide_not, Bool.not_true, Bool.not_false, or_true, true_or, or_false, false_or, or_self, and_self, decide_eq_true_eq]
        rfl
      · rw [cc] at hb
        cases cx : exB (fun b => bt (orS (fun q => m (12 + 6 * q + 2)) n p n) b) p
        · have k2 := key.mpr cx
          simp (disch := first | omega | assumption | exact isSt6 | exact isSt18 | exact isSt30) only [fX11_leadsClosedRing, io_s, fr_0_1, fr_s11, ia_s5, bdS, ck_t, ck_T, cb_0, cb_1, ab_jn, if_true, if_false, fr_s11, ia_s5, io_s, q5, e, hne, ev, rg, cl_hasX, hb, bI_0, nz, k2, reduceCtorEq, m1_ne, and_true, true_and, and_false, false_and, not_true_eq_false, not_false_eq_true, ne_eq, decide_true, decide_false, Bool.false_eq_true, ite_true, ite_false, if_true, if_false, Nat.add_zero, Bool.and_true, Bool.true_and, Bool.and_false, Bool.false_and, Bool.or_true, Bool.true_or, Bool.or_false, Bool.false_or, decide_not, Bool.not_true, Bool.not_false, or_true, true_or, or_false, false_or, or_self, and_self, decide_eq_true_eq]
          rfl
        · have k2 : ¬ (nI (fa_first (bt (orS (fun q => m (12 + 6 * q + 2)) n p n)) 32) = nI p) := fun h => by rw [key.mp h] at cx; cases cx
          simp (disch := first | omega | assumption | exact isSt6 | exact isSt18 | exact isSt30) only [fX11_leadsClosedRing, io_s, fr_0_1, fr_s11, ia_s5, bdS, ck_t, ck_T, cb_0, cb_1, ab_jn, if_true, if_false, fr_s11, ia_s5, io_s, q5, e, hne, ev, rg, cl_hasX, hb, bI_0, nz, k2, reduceCtorEq, m1_ne, and_true, true_and, and_false, false_and, not_true_eq_false, not_false_eq_true, ne_eq, decide_true, decide_false, Bool.false_eq_true, ite_true, ite_false, if_true, if_false, Nat.add_zero, Bool.and_true, Bool.true_and, Bool.and_false, Bool.false_and, Bool.or_true, Bool.true_or, Bool.or_false, Bool.false_or, decide_not, Bool.not_true, Bool.not_false, or_true, true_or, or_false, false_or, or_self, and_self, decide_eq_true_eq]
          rfl
theorem cl_swaps {g : gG} {m : Nat → Int32} {n k : Nat} (V : Sv g 6 m n k) {F : Nat} (hF : 11000 < F) (i1 : ∀ p, p < n → m (12 + 6 * p + 2) = -1 ∨ ∃ j, j < n ∧ m (12 + 6 * p + 2) = nI j) (i2 : ∀ p q, p < n → q < n → m (12 + 6 * p + 2) = m (12 + 6 * q + 2) → m (12 + 6 * p + 2) = -1 ∨ p = q) : fX11_swaps F 0 (gH g) = some (nI (fb_ct (swA (fun q => m (12 + 6 * q + 2)) (fun h => m (272 + h)) n k) n) - nI (fb_ct (fun p => !decide (m (12 + 6 * p + 2) = nI p) && led0 (fun q => m (12 + 6 * q + 2)) n p) n)) := by
  have W := V
  obtain ⟨hx, hn, h10, hk, h12, e3, e4, e5, e6, e7, e8, e11, e9, e10⟩ := W
  unfold fX11_swaps
  refine lp0 (L := fun F' i (a : Int32 × Int32) => fX11_swaps_6 F 0 (gH g) F' a.1 a.2 i) (n := n) (fun i => (nI (fb_ct (swA (fun q => m (12 + 6 * q + 2)) (fun h => m (272 + h)) n k) i), nI (fb_ct (fun p => !decide (m (12 + 6 * p + 2) = nI p) && led0 (fun q => m (12 + 6 * q + 2)) n p) i))) _ ?_ ?_ F (by omega)
  · intro F' i hi
    have q5 := e5 i hi
    have ll := cl_leads V hF i1 i2 hi
    have lo := cl_isLost V hF (nI i)
    have hA : swA (fun q => m (12 + 6 * q + 2)) (fun h => m (272 + h)) n k i = (!(!exB (fun p => decide (m (12 + 6 * p + 2) = nI i)) n && !exB (fun p => decide (m (272 + p) = nI i)) k) && !decide (m (12 + 6 * i + 2) = nI i)) := rfl
    generalize (!exB (fun p => decide (m (12 + 6 * p + 2) = nI i)) n && !exB (fun p => decide (m (272 + p) = nI i)) k) = LO at lo hA
    generalize hLE : led0 (fun q => m (12 + 6 * q + 2)) n i = LE at ll
    by_cases c0 : m (12 + 6 * i + 2) = nI i <;> cases LO <;> cases LE <;>
    simp (disch := first | omega | assumption | exact isSt6 | exact isSt18 | exact isSt30) only [fX11_swaps_6, io_0, io_s, fr_0_1, fi_s0, fr_s11, ia_s5, bdS, ck_t, ck_T, cb_0, cb_1, ab_jn, if_true, if_false, fi_s0, fr_s11, ia_s5, io_s, hn, hi, q5, ll, lo, c0, bI_0, fb_ct_succ, hA, hLE, nI_add, pk_mul, nI_ltI, nI_leI, nI_eq, reduceCtorEq, m1_ne, and_true, true_and, and_false, false_and, not_true_eq_false, not_false_eq_true, ne_eq, decide_true, decide_false, Bool.false_eq_true, ite_true, ite_false, if_true, if_false, Nat.add_zero, Bool.and_true, Bool.true_and, Bool.and_false, Bool.false_and, Bool.or_true, Bool.true_or, Bool.or_false, Bool.false_or, decide_not, Bool.not_true, Bool.not_false, or_true, true_or, or_false, false_or, or_self, and_self, decide_eq_true_eq]
  · intro F'
    simp (disch := first | omega | assumption | exact isSt6 | exact isSt18 | exact isSt30) only [fX11_swaps_6, io_0, io_s, fr_0_1, fi_s0, fr_s11, ia_s5, bdS, ck_t, ck_T, cb_0, cb_1, ab_jn, if_true, if_false, fi_s0, hn, Nat.lt_irrefl, nI_add, pk_mul, nI_ltI, nI_leI, nI_eq, reduceCtorEq, m1_ne, and_true, true_and, and_false, false_and, not_true_eq_false, not_false_eq_true, ne_eq, decide_true, decide_false, Bool.false_eq_true, ite_true, ite_false, if_true, if_false, Nat.add_zero, Bool.and_true, Bool.true_and, Bool.and_false, Bool.false_and, Bool.or_true, Bool.true_or, Bool.or_false, Bool.false_or, decide_not, Bool.not_true, Bool.not_false, or_true, true_or, or_false, false_or, or_self, and_self, decide_eq_true_eq]
theorem rl_swaps (g : gG) {n k : Nat} (hn : gA g 207 3 = nI n) (h10 : n ≤ 10) (hk : gA g 207 4 = nI k) (h12 : k ≤ 12) {F : Nat} (hF : 11000 < F) (i1 : ∀ p, p < n → gA g 207 (12 + 6 * p + 2) = -1 ∨ ∃ j, j < n ∧ gA g 207 (12 + 6 * p + 2) = nI j) (i2 : ∀ p q, p < n → q < n → gA g 207 (12 + 6 * p + 2) = gA g 207 (12 + 6 * q + 2) → gA g 207 (12 + 6 * p + 2) = -1 ∨ p = q) : fX12_swaps_9 F 206 (gH g) F (nI 0) (nI 0) = some (nI (fb_ct (fun p => swA (fun q => gA g 207 (12 + 6 * q + 2)) (fun h => gA g 207 (272 + h)) n k p && !led0 (fun q => gA g 207 (12 + 6 * q + 2)) n p) n), gH g) := by
  refine lp0 (L := fun F' i (a : Int32) => fX12_swaps_9 F 206 (gH g) F' a i) (n := n) (fun i => nI (fb_ct (fun p => swA (fun q => gA g 207 (12 + 6 * q + 2)) (fun h => gA g 207 (272 + h)) n k p && !led0 (fun q => gA g 207 (12 + 6 * q + 2)) n p) i)) _ ?_ ?_ F (by omega)
  · intro F' i hi
    have lo := rf_isLost g hn h10 hk h12 hF (nI i)
    have we := rf_wearer g hn h10 (nI i) (show 20 < F by omega)
    have wi : (fnd (fun p => decide (gA g 207 (12 + 6 * p + 2) = nI i)) n = nI i) ↔ (gA g 207 (12 + 6 * i + 2) = nI i) := wrr_iff (w := fun q => gA g 207 (12 + 6 * q + 2)) h10 hi hi i2
    have rg := rf_ring g hn h10 hF hi
    have cr := rf_comesRound g hn h10 hF i2 hi
    have lz := low_0 (x := orS (fun q => gA g 207 (12 + 6 * q + 2)) n i n) (p := i) (by omega)
    have hA : swA (fun q => gA g 207 (12 + 6 * q + 2)) (fun h => gA g 207 (272 + h)) n k i = (!(!exB (fun p => decide (gA g 207 (12 + 6 * p + 2) = nI i)) n && !exB (fun p => decide (gA g 207 (272 + p) = nI i)) k) && !decide (gA g 207 (12 + 6 * i + 2) = nI i)) := rfl
    have hL : led0 (fun q => gA g 207 (12 + 6 * q + 2)) n i = (crd (fun q => gA g 207 (12 + 6 * q + 2)) n i && !exB (fun b => bt (orS (fun q => gA g 207 (12 + 6 * q + 2)) n i n) b) i) := rfl
    have add0 : ∀ x : Int32, x + nI 1 + (-1) = x := fun x => by rw [Int32.add_assoc, show nI 1 + (-1 : Int32) = 0 by decide, Int32.add_zero]
    generalize (!exB (fun p => decide (gA g 207 (12 + 6 * p + 2) = nI i)) n && !exB (fun p => decide (gA g 207 (272 + p) = nI i)) k) = LO at lo hA
    generalize exB (fun b => bt (orS (fun q => gA g 207 (12 + 6 * q + 2)) n i n) b) i = EX at lz hL
    generalize crd (fun q => gA g 207 (12 + 6 * q + 2)) n i = CR at cr hL
    generalize orS (fun q => gA g 207 (12 + 6 * q + 2)) n i n = OR at rg lz
    rw [fb_ct_succ, hA, hL]
    by_cases c0 : gA g 207 (12 + 6 * i + 2) = nI i <;> cases LO <;> cases EX <;> cases CR <;>
    simp (disch := omega) only [fX12_swaps_9, io_206, fr_206_1, ia_207, bdS, ck_t, ck_T, cb_0, cb_1, ab_jn, if_true, if_false, hn, hi, lo, we, wi, rg, cr, lz, c0, sh1, bI_0, add0, nI_ltI, ← nI_add, nI_0, Int32.add_zero, reduceCtorEq, m1_ne, and_true, true_and, and_false, false_and, not_true_eq_false, not_false_eq_true, ne_eq, decide_true, decide_false, Bool.false_eq_true, ite_true, ite_false, if_true, if_false, Nat.add_zero, Bool.and_true, Bool.true_and, Bool.and_false, Bool.false_and, Bool.or_true, Bool.true_or, Bool.or_false, Bool.false_or, decide_not, Bool.not_true, Bool.not_false, or_true, true_or, or_false, false_or, or_self, and_self, decide_eq_true_eq]
  · intro F'
    simp (disch := omega) only [fX12_swaps_9, io_206, fr_206_1, ia_207, bdS, ck_t, ck_T, cb_0, cb_1, ab_jn, if_true, if_false, hn, Nat.lt_irrefl, nI_add, pk_mul, nI_ltI, nI_leI, nI_eq, reduceCtorEq, m1_ne, and_true, true_and, and_false, false_and, not_true_eq_false, not_false_eq_true, ne_eq, decide_true, decide_false, Bool.false_eq_true, ite_true, ite_false, if_true, if_false, Nat.add_zero, Bool.and_true, Bool.true_and, Bool.and_false, Bool.false_and, Bool.or_true, Bool.true_or, Bool.or_false, Bool.false_or, decide_not, Bool.not_true, Bool.not_false, or_true, true_or, or_false, false_or, or_self, and_self, decide_eq_true_eq]
