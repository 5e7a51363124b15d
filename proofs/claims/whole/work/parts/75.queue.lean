variable {Nq : Nat}
/-! ===== an order of fetching: what is left to wait ===== -/
def rmS (H s q : Nat) : Bool := H.testBit q && !s.testBit q
def rcS (H s n : Nat) : Nat := fb_ct (rmS H s) n
def smS (τ : Nat → Int) (H s n : Nat) : Int := fb_si (fun q => if rmS H s q = true then τ q else 0) n
def tri : Nat → Int
  | 0 => 0
  | r + 1 => tri r + (r + 1)
def Bd (τ : Nat → Int) (H n s : Nat) (pos : Int) : Int := smS τ H s n - pos * rcS H s n + tri (rcS H s n)
theorem rm_set {H s p : Nat} : rmS H (s ||| 2 ^ p) = fun q => if q = p then false else rmS H s q := by
  funext q
  unfold rmS
  rw [fb_bit_set]
  by_cases c : q = p
  · rw [if_pos c, decide_eq_true c, Bool.or_true]; simp
  · rw [if_neg c, decide_eq_false c, Bool.or_false]
theorem rc_set {H s n p : Nat} (hp : p < n) (h : rmS H s p = true) : rcS H (s ||| 2 ^ p) n + 1 = rcS H s n := by
  unfold rcS
  rw [rm_set]
  have := fb_ct_upd (rmS H s) false hp
  simp only [h, if_true] at this
  simpa using this
theorem sm_set {τ : Nat → Int} {H s n p : Nat} (hp : p < n) (h : rmS H s p = true) : smS τ H (s ||| 2 ^ p) n = smS τ H s n - τ p := by
  unfold smS
  rw [rm_set]
  have e : (fun q => if (if q = p then false else rmS H s q) = true then τ q else 0) = fun k => if k = p then 0 else (if rmS H s k = true then τ k else 0) := by
    funext q
    by_cases c : q = p
    · simp [c]
    · simp [c]
  have e : (fun q => if (fun q => if q = p then false else rmS H s q) q = true then τ q else 0) = fun k => if k = p then 0 else (if rmS H s k = true then τ k else 0) := e
  rw [e]
  have := fb_si_upd (fun k => if rmS H s k = true then τ k else 0) 0 hp
  rw [this]
  simp only [h, if_true]
  omega
theorem Bd_step {τ : Nat → Int} {H n s p : Nat} (hp : p < n) (h : rmS H s p = true) (pos : Int) : Bd τ H n s pos = (τ p - pos + 1) * (rcS H s n : Int) + Bd τ H n (s ||| 2 ^ p) (τ p) := by
  unfold Bd
  rw [sm_set hp h, ← rc_set hp h]
  generalize rcS H (s ||| 2 ^ p) n = r
  have e1 : ((r + 1 : Nat) : Int) = (r : Int) + 1 := by omega
  have e2 : tri (r + 1) = tri r + ((r : Int) + 1) := rfl
  rw [e2, e1, Int.mul_add, Int.mul_add, Int.mul_one, Int.mul_one, Int.add_mul, Int.sub_mul, Int.one_mul]
  omega
def stI (x pos : Int32) : Int32 := if x - pos < 0 then (-(x - pos)) + nI 1 else (x - pos) + nI 1
theorem stI_1 : ∀ j, j < 12 → ∀ i, i < 12 → stI (nI j) (nI i) = nI (if i ≤ j then j - i + 1 else i - j + 1) := by decide
theorem stI_2 : ∀ j, j < 12 → stI (nI j) (-1) = nI (j + 2) := by decide
/-- a place along the row -/
def plc (x : Int32) (π : Int) : Prop := (x = -1 ∧ π = -1) ∨ ∃ i, i < 12 ∧ x = nI i ∧ π = (i : Int)
theorem stI_v {j : Nat} (hj : j < 12) {pos : Int32} {π : Int} (h : plc pos π) : ∃ u, stI (nI j) pos = nI u ∧ u ≤ 13 ∧ (j : Int) - π + 1 ≤ (u : Int) ∧ (π ≤ j → (u : Int) = j - π + 1) ∧ ((j : Int) < π → (j : Int) - π + 1 < u) := by
  rcases h with ⟨rfl, rfl⟩ | ⟨i, hi, rfl, rfl⟩
  · exact ⟨j + 2, stI_2 j hj, by omega, by omega, by omega, by omega⟩
  · refine ⟨_, stI_1 j hj i hi, ?_⟩
    by_cases c : i ≤ j
    · rw [if_pos c]; omega
    · rw [if_neg c]; omega
theorem plc_of {x : Int32} (h : x = -1 ∨ ∃ i, i < 12 ∧ x = nI i) : plc x x.toInt := by
  rcases h with rfl | ⟨i, hi, rfl⟩
  · exact Or.inl ⟨rfl, by decide⟩
  · exact Or.inr ⟨i, hi, rfl, nI_toInt (by omega)⟩
def tkT (tk : Nat → Int32) (p : Nat) : Int := (tk p).toInt
def cI (tk A : Nat → Int32) (H n s : Nat) (pos : Int32) (p : Nat) : Int32 := stI (tk p) pos * nI (rcS H s n) + A (10 * (s ||| 2 ^ p) + p)
def Gd (tk A : Nat → Int32) (H n s l : Nat) : Prop := ∃ v : Nat, A (10 * s + l) = nI v ∧ v ≤ 130 * rcS H s n ∧ Bd (tkT tk) H n s (tkT tk l) ≤ v ∧ ((∀ q, q < n → rmS H s q = true → tkT tk l ≤ tkT tk q) → (v : Int) = Bd (tkT tk) H n s (tkT tk l)) ∧ ∀ q, q < n → rmS H s q = true → tkT tk q < tkT tk l → Bd (tkT tk) H n s (tkT tk l) < v
theorem cand_v {tk A : Nat → Int32} {H n s p : Nat} (h10 : n ≤ 10) (hH : ∀ q, H.testBit q = true → q < n ∧ ∃ i, i < 12 ∧ tk q = nI i) (hp : p < n) (hr : rmS H s p = true) (G : Gd tk A H n (s ||| 2 ^ p) p) {pos : Int32} {π : Int} (hpos : plc pos π) : cI tk A H n s pos p = nI (nv (cI tk A H n s pos p)) ∧ nv (cI tk A H n s pos p) ≤ 130 * rcS H s n ∧ Bd (tkT tk) H n s π ≤ (nv (cI tk A H n s pos p) : Int) ∧ (π ≤ tkT tk p → (∀ q, q < n → rmS H s q = true → tkT tk p ≤ tkT tk q) → (nv (cI tk A H n s pos p) : Int) = Bd (tkT tk) H n s π) ∧ (tkT tk p < π → Bd (tkT tk) H n s π < (nv (cI tk A H n s pos p) : Int)) ∧ ∀ q, q < n → rmS H s q = true → tkT tk q < tkT tk p → Bd (tkT tk) H n s π < (nv (cI tk A H n s pos p) : Int) := by
  obtain ⟨v, g1, g2, g3, g4, g5⟩ := G
  have hb : H.testBit p = true := by unfold rmS at hr; simp at hr; exact hr.1
  obtain ⟨_, j, hj, ej⟩ := hH p hb
  have ej' : tkT tk p = (j : Int) := by unfold tkT; rw [ej]; exact nI_toInt (by omega)
  obtain ⟨u, u1, u2, u3, u4, u5⟩ := stI_v hj hpos
  have rc := rc_set hp hr
  have rl : rcS H s n ≤ n := fb_ct_le _ _
  have ul : u * rcS H s n ≤ 13 * 10 := Nat.mul_le_mul u2 (by omega)
  have ev : cI tk A H n s pos p = nI (u * rcS H s n + v) := by
    unfold cI
    rw [ej, u1, g1, pk_mul, nI_add]
  have hc : nv (cI tk A H n s pos p) = u * rcS H s n + v := by rw [ev]; exact nv_nI (by omega)
  have st := Bd_step (τ := tkT tk) hp hr π
  rw [ej'] at st g3 g4 g5 ⊢
  rw [hc]
  have cst : ((u * rcS H s n + v : Nat) : Int) = (u : Int) * (rcS H s n : Int) + v := by rw [Int.natCast_add, Int.natCast_mul]
  rw [cst, st]
  have r0 : (0 : Int) ≤ (rcS H s n : Int) := by omega
  have r1 : (0 : Int) < (rcS H s n : Int) := by omega
  have m1 : ((j : Int) - π + 1) * (rcS H s n : Int) ≤ (u : Int) * (rcS H s n : Int) := Int.mul_le_mul_of_nonneg_right u3 r0
  refine ⟨ev, by omega, by omega, fun h1 h2 => ?_, fun h1 => ?_, fun q hq hqr hql => ?_⟩
  · rw [u4 h1, g4 (fun q hq hqr => ?_)]
    rw [rm_set] at hqr
    by_cases c : q = p
    · simp [c] at hqr
    · simp only [if_neg c] at hqr; exact h2 q hq hqr
  · have := Int.mul_lt_mul_of_pos_right (u5 h1) r1
    omega
  · have := g5 q hq (by
      rw [rm_set]
      show (if q = p then false else rmS H s q) = true
      rw [if_neg (fun e => by rw [e, ej'] at hql; omega)]; exact hqr) hql
    omega
/-! ===== the least ===== -/
def mnf (rem : Nat → Bool) (c : Nat → Int32) (a0 : Int32) : Nat → Int32 := it (fun p a => if rem p = true then (if a < c p then a else c p) else a) a0
theorem mnf_S (rem : Nat → Bool) (c : Nat → Int32) (a0 : Int32) (i : Nat) : mnf rem c a0 (i + 1) = if rem i = true then (if mnf rem c a0 i < c i then mnf rem c a0 i else c i) else mnf rem c a0 i := rfl
theorem mnf_no {rem : Nat → Bool} {c : Nat → Int32} {a0 : Int32} : ∀ {i : Nat}, (∀ p, p < i → rem p = false) → mnf rem c a0 i = a0
  | 0, _ => rfl
  | i + 1, h => by rw [mnf_S, h i (by omega), if_neg (by decide)]; exact mnf_no (fun p hp => h p (by omega))
theorem mnf_v {rem : Nat → Bool} {c : Nat → Int32} {n : Nat} (hc : ∀ p, p < n → rem p = true → c p = nI (nv (c p)) ∧ nv (c p) < 2000000000) : ∀ i, i ≤ n → ∃ w, mnf rem c (nI 2000000000) i = nI w ∧ w ≤ 2000000000 ∧ (∀ p, p < i → rem p = true → w ≤ nv (c p)) ∧ (w = 2000000000 ∨ ∃ p, p < i ∧ rem p = true ∧ w = nv (c p))
  | 0, _ => ⟨2000000000, rfl, Nat.le_refl _, fun p hp => absurd hp (Nat.not_lt_zero p), Or.inl rfl⟩
  | i + 1, hi => by
    obtain ⟨w, e, b, l, o⟩ := mnf_v hc i (by omega)
    rw [mnf_S]
    cases k : rem i
    · refine ⟨w, by rw [if_neg (by decide)]; exact e, b, fun p hp hr => ?_, o.imp id (fun ⟨p, hp, hr⟩ => ⟨p, by omega, hr⟩)⟩
      by_cases d : p = i
      · rw [d, k] at hr; cases hr
      · exact l p (by omega) hr
    · obtain ⟨c1, c2⟩ := hc i (by omega) k
      rw [if_pos rfl]
      by_cases d : w < nv (c i)
      · refine ⟨w, ?_, b, fun p hp hr => ?_, o.imp id (fun ⟨p, hp, hr⟩ => ⟨p, by omega, hr⟩)⟩
        · rw [e, c1, if_pos (by rw [nI_ltI (by omega) (by omega)]; exact d)]
        · by_cases d2 : p = i
          · rw [d2]; omega
          · exact l p (by omega) hr
      · refine ⟨nv (c i), ?_, by omega, fun p hp hr => ?_, Or.inr ⟨i, by omega, k, rfl⟩⟩
        · have := c1
          rw [e, if_neg (by rw [c1, nI_ltI (by omega) (by omega)]; exact d)]
          exact c1
        · by_cases d2 : p = i
          · rw [d2]; omega
          · have := l p (by omega) hr; omega
/-- the least in place, and of these the least in number -/
theorem amin {rem : Nat → Bool} {τ : Nat → Int} : ∀ {n : Nat}, (∃ q, q < n ∧ rem q = true) → ∃ p, p < n ∧ rem p = true ∧ ∀ q, q < n → rem q = true → τ p < τ q ∨ (τ p = τ q ∧ p ≤ q)
  | 0, ⟨q, hq, _⟩ => absurd hq (Nat.not_lt_zero q)
  | n + 1, ⟨q, hq, hr⟩ => by
    by_cases c : ∃ q, q < n ∧ rem q = true
    · obtain ⟨p, hp, rp, l⟩ := amin (τ := τ) c
      by_cases d : rem n = true ∧ τ n < τ p
      · refine ⟨n, by omega, d.1, fun q hq hr => ?_⟩
        by_cases e : q = n
        · right; rw [e]; exact ⟨rfl, Nat.le_refl _⟩
        · have := l q (by omega) hr; omega
      · refine ⟨p, by omega, rp, fun q hq hr => ?_⟩
        by_cases e : q = n
        · rw [e] at hr ⊢
          have : ¬ τ n < τ p := fun h => d ⟨hr, h⟩
          omega
        · exact l q (by omega) hr
    · have e : q = n := by
        apply Decidable.byContradiction
        intro h
        exact c ⟨q, by omega, hr⟩
      subst e
      refine ⟨q, by omega, hr, fun q' hq' hr' => ?_⟩
      by_cases e : q' = q
      · right; rw [e]; exact ⟨rfl, Nat.le_refl _⟩
      · exact absurd ⟨q', by omega, hr'⟩ c
theorem rm_some {H s n : Nat} (hH : ∀ q, H.testBit q = true → q < n) (hs : ∀ q, s.testBit q = true → H.testBit q = true) (hne : s ≠ H) : ∃ q, q < n ∧ rmS H s q = true := by
  apply Decidable.byContradiction
  intro h
  apply hne
  apply Nat.eq_of_testBit_eq
  intro q
  cases k : H.testBit q
  · cases k2 : s.testBit q
    · rfl
    · rw [hs q k2] at k; cases k
  · cases k2 : s.testBit q
    · exact absurd ⟨q, hH q k, by unfold rmS; rw [k, k2]; rfl⟩ h
    · rfl
theorem srv_G {tk A : Nat → Int32} {H n s l : Nat} (h10 : n ≤ 10) (hH : ∀ q, H.testBit q = true → q < n ∧ ∃ i, i < 12 ∧ tk q = nI i) (hs : ∀ q, s.testBit q = true → H.testBit q = true) (hl : plc (tk l) (tkT tk l)) (hG : ∀ p, p < n → rmS H s p = true → Gd tk A H n (s ||| 2 ^ p) p) {A' : Nat → Int32} (hA : A' (10 * s + l) = mnf (rmS H s) (cI tk A H n s (tk l)) (if s = H then nI 0 else nI 2000000000) n) : Gd tk A' H n s l := by
  by_cases c : s = H
  · subst c
    have no : ∀ q, rmS s s q = false := fun q => by unfold rmS; cases s.testBit q <;> rfl
    rw [if_pos rfl, mnf_no (fun p _ => no p)] at hA
    have r0 : rcS s s n = 0 := fb_ct_zero.mpr (fun k _ => no k)
    have s0 : smS (tkT tk) s s n = 0 := by
      unfold smS
      have : (fun q => if rmS s s q = true then tkT tk q else 0) = fun _ => 0 := by funext q; rw [no q]; rfl
      rw [this]
      have : ∀ m, fb_si (fun _ => 0) m = 0 := by
        intro m
        induction m with
        | zero => rfl
        | succ m ih => rw [fb_si_succ, ih]; rfl
      exact this n
    have b0 : Bd (tkT tk) s n s (tkT tk l) = 0 := by
      unfold Bd
      rw [s0, r0]
      show 0 - tkT tk l * 0 + tri 0 = 0
      rw [Int.mul_zero]; rfl
    exact ⟨0, hA, Nat.zero_le _, by rw [b0]; exact Int.le_refl _, fun _ => by rw [b0]; rfl, fun q _ h => by rw [no q] at h; cases h⟩
  · rw [if_neg c] at hA
    have hc := fun p (hp : p < n) hr => cand_v h10 hH hp hr (hG p hp hr) hl
    have rl : rcS H s n ≤ n := fb_ct_le _ _
    obtain ⟨w, e, b, lw, o⟩ := mnf_v (rem := rmS H s) (c := cI tk A H n s (tk l)) (n := n) (fun p hp hr => ⟨(hc p hp hr).1, by have := (hc p hp hr).2.1; omega⟩) n (Nat.le_refl _)
    rw [e] at hA
    obtain ⟨q0, hq0, hr0⟩ := rm_some (fun q h => (hH q h).1) hs c
    have w0 := lw q0 hq0 hr0
    have b0 := (hc q0 hq0 hr0).2.1
    obtain ⟨p0, hp0, hrp, ew⟩ := o.resolve_left (by omega)
    obtain ⟨k1, k2, k3, k4, k5, k6⟩ := hc p0 hp0 hrp
    rw [← ew] at k2 k3 k4 k5 k6
    refine ⟨w, hA, k2, k3, fun h => ?_, fun q hq hqr hql => ?_⟩
    · obtain ⟨p, hp, hr, hm⟩ := amin (rem := rmS H s) (τ := tkT tk) ⟨q0, hq0, hr0⟩
      obtain ⟨_, _, _, j4, _, _⟩ := hc p hp hr
      have := j4 (h p hp hr) (fun q hq hqr => by have := hm q hq hqr; omega)
      have := lw p hp hr
      omega
    · by_cases d : tkT tk p0 < tkT tk l
      · exact k5 d
      · exact k6 q hq hqr (by omega)
