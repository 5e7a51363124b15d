variable {Nq : Nat}
/-! ===== what is SAID is heard by both ===== -/
theorem sF_id (g : gG) (a k : Nat) : sF g a k (gF g a k) = g := by
  unfold sF
  refine Prod.ext rfl (Prod.ext ?_ rfl)
  funext b
  show (if b = a then upd (g.2.1 a) k (g.2.1 a k) else g.2.1 b) = g.2.1 b
  by_cases c : b = a
  · rw [if_pos c, c]; exact fa_upd_same rfl
  · rw [if_neg c]
/-- of the class alone -/
def Shc (g g' : gG) : Prop := gn g' = gn g ∧ gl g' = gl g ∧ gL g' = gL g ∧ gw g' = gw g ∧ (∀ b, b ≠ 4 → b ≠ 196 → gF g' b = gF g b) ∧ ∀ b, (b < 197 ∨ 203 ≤ b) → gA g' b = gA g b
def Sh (g g' : gG) : Prop := gn g' = gn g ∧ gl g' = gl g ∧ gL g' = gL g ∧ gw g' = gw g ∧ (∀ b, b ≠ 4 → b ≠ 196 → b ≠ 206 → gF g' b = gF g b) ∧ (∀ k, k ≠ 0 → k ≠ 8 → k ≠ 20 → gF g' 206 k = gF g 206 k) ∧ ∀ b, (b < 197 ∨ (203 ≤ b ∧ b < 213) ∨ 216 ≤ b) → gA g' b = gA g b
theorem Shc.sh {g g' : gG} (h : Shc g g') : Sh g g' := by
  obtain ⟨a, b, c, d, e, f⟩ := h
  exact ⟨a, b, c, d, fun x h1 h2 _ => e x h1 h2, fun x _ _ _ => by rw [e 206 (by omega) (by omega)], fun x hx => f x (by omega)⟩
theorem Shc.a {g g' : gG} (h : Shc g g') {x : Nat} {v : Nat → Int32} (hx : 197 ≤ x ∧ x < 203) : Shc g (sA g' x v) := by
  obtain ⟨a, b, c, d, e, f⟩ := h
  exact ⟨a, b, c, d, e, fun y hy => by rw [gA_sA2 _ _ (by omega)]; exact f y hy⟩
theorem Shc.f {g g' : gG} (h : Shc g g') {x k : Nat} {v : Int32} (hx : x = 4 ∨ x = 196) : Shc g (sF g' x k v) := by
  obtain ⟨a, b, c, d, e, f⟩ := h
  exact ⟨a, b, c, d, fun y h1 h2 => by rw [gF_sF2 _ _ (by omega)]; exact e y h1 h2, f⟩
theorem Sh.a {g g' : gG} (h : Sh g g') {x : Nat} {v : Nat → Int32} (hx : (197 ≤ x ∧ x < 203) ∨ (213 ≤ x ∧ x < 216)) : Sh g (sA g' x v) := by
  obtain ⟨a, b, c, d, e, e', f⟩ := h
  exact ⟨a, b, c, d, e, e', fun y hy => by rw [gA_sA2 _ _ (by omega)]; exact f y hy⟩
theorem Sh.f {g g' : gG} (h : Sh g g') {k : Nat} {v : Int32} (hx : k = 0 ∨ k = 8 ∨ k = 20) : Sh g (sF g' 206 k v) := by
  obtain ⟨a, b, c, d, e, e', f⟩ := h
  exact ⟨a, b, c, d, fun y h1 h2 h3 => by rw [gF_sF2 _ _ h3]; exact e y h1 h2 h3, fun y h1 h2 h3 => by rw [gF_sF1, upd_2 _ _ (by omega)]; exact e' y h1 h2 h3, f⟩
theorem Shc.refl (g : gG) : Shc g g := ⟨rfl, rfl, rfl, rfl, fun _ _ _ => rfl, fun _ _ => rfl⟩
theorem Sh.kp {g g' : gG} (h : Sh g g') : Kp g g' := by
  obtain ⟨a, b, c, d, e, e', f⟩ := h
  refine ⟨⟨a, fun y => by rw [b], fun y hy => e y (by omega) (by omega) (by omega), f 3 (by omega), fun y h1 h2 => f y (by omega)⟩, fun y h1 h2 => ⟨e y (by omega) (by omega) (by omega), f y (by omega), by rw [c], by rw [d]⟩, fun y h1 h2 => ⟨e y (by omega) (by omega) (by omega), f y (by omega), by rw [c], by rw [d]⟩, f _ (by omega), f _ (by omega), f _ (by omega), fun y hy => e' y (by omega) (by omega) (by omega), ?_, ?_⟩
  · rw [e 192 (by omega) (by omega) (by omega)]
  · rw [e 194 (by omega) (by omega) (by omega)]
theorem Sh.re {g g' : gG} (h : Sh g g') {n k s f : Nat} (R : Re Nq g n k s f) (h4 : gF g' 4 1 = nI 0) (h6 : gF g' 206 8 = nI 0) : Re Nq g' n k s f :=
  R.kp h.kp ⟨0, by omega, h4, h6, fun i hi => absurd hi (Nat.not_lt_zero i)⟩
theorem Sh.sr {g g' : gG} (h : Sh g g') {n k s f : Nat} (R : Re Nq g n k s f) : SR g' 6 (gA g 207) n k := R.1.keep (h.kp.2.1.es (by omega) (by omega))
theorem heardC {g : gG} {n k s f : Nat} (R : Re Nq g n k s f) {F : Nat} (hF : 11000 < F) : ∃ (L : Nat) (t : Nat → Nat) (g0 : gG), L ≤ 400 ∧ gF g 206 8 = nI L ∧ (∀ i, i < L → gA g 211 i = nI (t i) ∧ t i < 256) ∧ fX7_readTape F 196 4 (nI n) (gH g) = some (bI (gdS (gA g 211) n L), gH g0) ∧ Shc g (sF g0 4 1 (nI 0)) ∧ (gdS (gA g 211) n L = true → Sd (sF g0 4 1 (nI 0)) n (L / 3) (fun i => t (3 * i)) (fun i => t (3 * i + 1)) (fun i => t (3 * i + 2))) := by
  obtain ⟨rn, h10, rk, h12⟩ := R.rv
  obtain ⟨L, t1, t2, t3, t4⟩ := R.2.2.2.1
  have hc : ∀ i, ∃ b, i < L → b < 256 ∧ gA g 211 i = nI b := fun i => by
    by_cases c : i < L
    · obtain ⟨_, b, h1, h2⟩ := t4 i c
      exact ⟨b, fun _ => ⟨h1, h2⟩⟩
    · exact ⟨0, fun h => absurd h c⟩
  let t : Nat → Nat := fun i => Classical.choose (hc i)
  have ht : ∀ i, i < L → gA g 211 i = nI (t i) ∧ t i < 256 := fun i hi => by
    obtain ⟨h1, h2⟩ := Classical.choose_spec (hc i) hi
    exact ⟨h2, h1⟩
  obtain ⟨j, j1, j2, j3⟩ := cl_readTape (g := g) (n := n) (L := L) (t := t) h10 t1 t2 (fun i hi => by rw [(t4 i hi).1]; exact ht i hi) (T := gA g 211) (fun i hi => ((t4 i hi).1).symm) hF
  refine ⟨L, t, _, t1, t3, ht, j3, ?_, fun hg => ?_⟩
  · refine Shc.f ?_ (Or.inl rfl)
    refine Shc.f (Shc.a (Shc.a (Shc.a (Shc.f (Shc.refl g) (Or.inr rfl)) (by omega)) (by omega)) (by omega)) (Or.inr rfl)
  · have hj := j2 hg
    subst hj
    have hg' := hg
    unfold gdS at hg'
    simp only [Bool.and_eq_true, decide_eq_true_eq] at hg'
    obtain ⟨⟨m3, l36⟩, hh⟩ := hg'
    have hL : 3 * (L / 3) = L := by omega
    have hv := (ok3_all (T := gA g 211) (t := t) (n := n) (Z := L / 3) h10 (fun i hi => ht i (by omega))).mp (by rw [hL]; simpa using hh)
    refine ⟨j1, rfl, rfl, trivial, fun i hi => ?_⟩
    obtain ⟨o1, o2, o3⟩ := hv i hi
    refine ⟨o1, o2, o3, ?_, ?_, ?_, trivial⟩
    · show up3 (fun q => t (3 * q)) (gA g 197) (L / 3) i = _
      exact if_pos hi
    · show up3 (fun q => t (3 * q + 1)) (gA g 198) (L / 3) i = _
      exact if_pos hi
    · show up3 (fun q => t (3 * q + 2)) (gA g 199) (L / 3) i = _
      exact if_pos hi
theorem heardR {g g1 : gG} {n k s f L : Nat} (R : Re Nq g n k s f) (H : Shc g g1) {t : Nat → Nat} (hL : L ≤ 400) (h8 : gF g 206 8 = nI L) (ht : ∀ i, i < L → gA g 211 i = nI (t i) ∧ t i < 256) (h4 : gF g1 4 1 = nI 0) {F : Nat} (hF : 11000 < F) : ∃ g2, fX12_hears F 206 (gH g1) = some (bI (gdS (gA g 211) n L), gH g2) ∧ Sh g g2 ∧ gF g2 4 1 = nI 0 ∧ gF g2 206 8 = nI 0 ∧ (gdS (gA g 211) n L = true → Sq g2 n (L / 3) (fun i => t (3 * i)) (fun i => t (3 * i + 1)) (fun i => t (3 * i + 2))) := by
  obtain ⟨rn, h10, rk, h12⟩ := R.rv
  have h7 : gA g1 207 = gA g 207 := H.2.2.2.2.2 207 (by omega)
  have h11 : gA g1 211 = gA g 211 := H.2.2.2.2.2 211 (by omega)
  have hh := rf_heard g1 (n := n) (by rw [h7]; exact rn) h10 hF hL (by rw [H.2.2.2.2.1 206 (by omega) (by omega)]; exact h8)
  rw [h11] at hh
  refine ⟨_, hh, ?_, ?_, ?_, fun hg => ?_⟩
  · refine Sh.f ?_ (by omega)
    split
    · exact (H.sh.f (by omega)).a (by omega)
    · exact H.sh.f (by omega)
  · rw [gF_sF2 _ _ (by omega)]
    split
    · rw [gF_sA, gF_sF2 _ _ (by omega)]; exact h4
    · rw [gF_sF2 _ _ (by omega)]; exact h4
  · rw [gF_sF1, upd_2 _ _ (by omega)]
    split
    · rw [gF_sA, gF_sF1, upd_1]
    · rw [gF_sF1, upd_1]
  · have hg' := hg
    unfold gdS at hg'
    simp only [Bool.and_eq_true, decide_eq_true_eq] at hg'
    obtain ⟨⟨m3, l36⟩, hb⟩ := hg'
    have hL : 3 * (L / 3) = L := by omega
    have hv := (ok3_all (T := gA g 211) (t := t) (n := n) (Z := L / 3) h10 (fun i hi => ht i (by omega))).mp (by rw [hL]; simpa using hb)
    rw [if_pos hg]
    refine ⟨by omega, trivial, trivial, by rw [gF_sF1, upd_1], fun i hi => ?_⟩
    obtain ⟨o1, o2, o3⟩ := hv i hi
    refine ⟨o1, o2, o3, trivial, trivial, trivial, ?_, ?_, ?_⟩
    · rw [gA_sF, gA_sA1, if_pos (by omega)]; exact (ht _ (by omega)).1
    · rw [gA_sF, gA_sA1, if_pos (by omega)]; exact (ht _ (by omega)).1
    · rw [gA_sF, gA_sA1, if_pos (by omega)]; exact (ht _ (by omega)).1
