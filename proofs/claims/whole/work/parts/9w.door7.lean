variable {Nq : Nat}
/-! ===== the class reads a text of THE DOOR: where it stands ===== -/
theorem st18 : isSt 18 := Or.inr (Or.inl rfl)
/-- stores that differ at STATE 18, at the reader and the cutter's place alone -/
def Of (g G : gG) : Prop := (∀ b, (b < 18 ∨ 30 ≤ b) → b ≠ 188 → b ≠ 192 → gF G b = gF g b) ∧ (gF G 192 1 = gF g 192 1 ∧ gF G 192 3 = gF g 192 3) ∧ (∀ b, (b < 18 ∨ 30 ≤ b) → b ≠ 193 → gA G b = gA g b) ∧ (∀ b, (b < 18 ∨ 30 ≤ b) → gL G b = gL g b) ∧ (∀ b, gw G b = gw g b) ∧ gn G = gn g ∧ ∀ b, gl G b = gl g b
theorem Of.refl (g : gG) : Of g g := ⟨fun _ _ _ _ => rfl, ⟨rfl, rfl⟩, fun _ _ _ => rfl, fun _ _ => rfl, fun _ => rfl, rfl, fun _ => rfl⟩
theorem Of.trans {g h k : gG} (a : Of g h) (b : Of h k) : Of g k := ⟨fun c h1 h2 h3 => (b.1 c h1 h2 h3).trans (a.1 c h1 h2 h3), ⟨b.2.1.1.trans a.2.1.1, b.2.1.2.trans a.2.1.2⟩, fun c h1 h2 => (b.2.2.1 c h1 h2).trans (a.2.2.1 c h1 h2), fun c h1 => (b.2.2.2.1 c h1).trans (a.2.2.2.1 c h1), fun c => (b.2.2.2.2.1 c).trans (a.2.2.2.2.1 c), b.2.2.2.2.2.1.trans a.2.2.2.2.2.1, fun c => (b.2.2.2.2.2.2 c).trans (a.2.2.2.2.2.2 c)⟩
theorem Of.fs {g G : gG} (h : Fs g G 18) : Of g G := by
  obtain ⟨h1, h2, h3, h4⟩ := h
  exact ⟨fun b hb _ _ => (h1 b (by omega)).1, ⟨by rw [(h1 192 (by omega)).1], by rw [(h1 192 (by omega)).1]⟩, fun b hb _ => (h1 b (by omega)).2.1, fun b hb => (h1 b (by omega)).2.2, h4, h2, h3⟩
theorem Of.i (g : gG) (v : Int32) : Of g (sF g 188 4 v) := ⟨fun b _ h _ => gF_sF2 _ _ h, ⟨by rw [gF_sF2 _ _ (by omega)], by rw [gF_sF2 _ _ (by omega)]⟩, fun _ _ _ => rfl, fun _ _ => rfl, fun _ => rfl, rfl, fun _ => rfl⟩
theorem Of.f (g : gG) (v : Int32) : Of g (sF g 192 2 v) := ⟨fun b _ _ h => gF_sF2 _ _ h, ⟨by rw [gF_sF1, upd_2 _ _ (by omega)], by rw [gF_sF1, upd_2 _ _ (by omega)]⟩, fun _ _ _ => rfl, fun _ _ => rfl, fun _ => rfl, rfl, fun _ => rfl⟩
theorem Of.t (g : gG) (f : Nat → Int32) : Of g (sA g 193 f) := ⟨fun b _ _ _ => rfl, ⟨rfl, rfl⟩, fun _ _ h => gA_sA2 _ _ h, fun _ _ => rfl, fun _ => rfl, rfl, fun _ => rfl⟩
theorem Cx.of {g G : gG} {t : Nat → Nat} {L Z : Nat} (X : Cx g t L Z) (h : Of g G) : Cx G t L Z := by
  obtain ⟨⟨t1, t2, t3⟩, C⟩ := X
  refine ⟨⟨by rw [h.1 4 (by omega) (by omega) (by omega)]; exact t1, t2, by rw [h.2.2.1 5 (by omega) (by omega)]; exact t3⟩, ?_⟩
  rw [h.2.2.1 189 (by omega) (by omega), h.2.2.1 190 (by omega) (by omega), h.2.2.1 191 (by omega) (by omega)]; exact C
theorem SC.es {g g' : gG} {x : Nat} {m : Nat → Int32} {n k : Nat} (S : SC g x m n k) (h : Es g g' x) : SC g' x m n k := by
  obtain ⟨V, k1, m3, m4, X, L, B⟩ := S
  have h0 := h 0 (by decide)
  have h1 := h 1 (by decide)
  have h2 := h 2 (by decide)
  have a (r : Nat) (hr : r < 12) : gA g' (x + r) = gA g (x + r) := (h r hr).2.1
  refine ⟨V.k h0.1 a, k1, m3, m4, X.keep h0.1 rfl rfl rfl rfl rfl, L.keep h1.1 h2.2.2 rfl (fun _ _ _ => rfl), B.keep (fun r h1 h2 p _ _ => by rw [a r (by omega)]) (fun p o _ _ _ => by rw [a 9 (by omega)]; exact ⟨rfl, rfl⟩)⟩
/-- index i, wrong byte f, the draft tells the row m -/
def Dq (g : gG) (t : Nat → Nat) (L Z : Nat) (G : gG) (i : Nat) (f : Int32) (m : Nat → Int32) (n k : Nat) : Prop := Cx G t L Z ∧ i ≤ Z ∧ gF G 188 4 = nI i ∧ gF G 192 2 = f ∧ SC G 18 m n k ∧ Of g G
theorem Dq.fs {g : gG} {t : Nat → Nat} {L Z : Nat} {G G' : gG} {i : Nat} {f : Int32} {m m' : Nat → Int32} {n k n' k' : Nat} (D : Dq g t L Z G i f m n k) (h : Fs G G' 18) (S : SC G' 18 m' n' k') : Dq g t L Z G' i f m' n' k' := by
  obtain ⟨d1, d2, d3, d4, d5, d6⟩ := D
  exact ⟨d1.of (Of.fs h), d2, by rw [(h.1 188 (by omega)).1]; exact d3, by rw [(h.1 192 (by omega)).1]; exact d4, S, d6.trans (Of.fs h)⟩
theorem Dq.t {g : gG} {t : Nat → Nat} {L Z : Nat} {G : gG} {i : Nat} {f : Int32} {m : Nat → Int32} {n k : Nat} (D : Dq g t L Z G i f m n k) (A : Nat → Int32) : Dq g t L Z (sA G 193 A) i f m n k := by
  obtain ⟨d1, d2, d3, d4, d5, d6⟩ := D
  exact ⟨d1.of (Of.t G A), d2, d3, d4, d5.es (fun r hr => ⟨rfl, gA_sA2 _ _ (by omega), rfl⟩), d6.trans (Of.t G A)⟩
theorem Dq.go {g : gG} {t : Nat → Nat} {L Z : Nat} {G : gG} {i : Nat} {f : Int32} {m : Nat → Int32} {n k : Nat} (D : Dq g t L Z G i f m n k) : fX0_goOn 188 (gH G) = some (gH (sF G 188 4 (nI (gnx Z i)))) ∧ Dq g t L Z (sF G 188 4 (nI (gnx Z i))) (gnx Z i) f m n k ∧ psn t L (gnx Z i) = nxt t L (psn t L i) := by
  obtain ⟨d1, d2, d3, d4, d5, d6⟩ := D
  obtain ⟨p1, p2⟩ := gnx_p d1 d2
  exact ⟨dk_go d1 d2 d3, ⟨d1.of (Of.i G _), p2, by rw [gF_sF1, upd_1], by rw [gF_sF2 _ _ (by omega)]; exact d4, d5.es (fun r hr => ⟨gF_sF2 _ _ (by omega), rfl, rfl⟩), d6.trans (Of.i G _)⟩, p1⟩
theorem Dq.ir {g : gG} {t : Nat → Nat} {L Z : Nat} {G : gG} {i : Nat} {f : Int32} {m : Nat → Int32} {n k : Nat} (D : Dq g t L Z G i f m n k) : fX10_isRightD 192 (gH G) = some (bI (decide (f = -1))) := by
  unfold fX10_isRightD
  refine (bd_e ((fi_192_2 _).trans (congrArg some D.2.2.2.1))).trans ?_
  by_cases c : f = -1
  · rw [decide_eq_true c]; exact if_pos c
  · rw [decide_eq_false c]; exact if_neg c
theorem Dq.w {g : gG} {t : Nat → Nat} {L Z : Nat} {G : gG} {i : Nat} {f : Int32} {m : Nat → Int32} {n k : Nat} (D : Dq g t L Z G i f m n k) (v : Int32) : Dq g t L Z (sF G 192 2 v) i v m n k := by
  obtain ⟨d1, d2, d3, d4, d5, d6⟩ := D
  exact ⟨d1.of (Of.f G _), d2, by rw [gF_sF2 _ _ (by omega)]; exact d3, by rw [gF_sF1, upd_1], d5.es (fun r hr => ⟨gF_sF2 _ _ (by omega), rfl, rfl⟩), d6.trans (Of.f G _)⟩
theorem Dq.pl {g : gG} {t : Nat → Nat} {L Z : Nat} {G : gG} {i : Nat} {f : Int32} {m : Nat → Int32} {n k : Nat} (D : Dq g t L Z G i f m n k) : psn t L i ≤ L ∧ L ≤ 400 ∧ i < 401 := ⟨(psn_nrm i).2, D.1.1.2.1, (D.1.at D.2.1).2.2.1⟩
/-- accept: what it leaves -/
def AcE (g : gG) (t : Nat → Nat) (L Z : Nat) (G : gG) (i : Nat) (f : Int32) (m : Nat → Int32) (n k : Nat) (b : Bool) (G' : gG) : Prop := ∃ i' f', Dq g t L Z G' i' f' m n k ∧ gA G' 193 = gA G 193 ∧ (f = -1 → b = true → f' = -1 ∧ psn t L i' = nxt t L (psn t L i) ∧ i' = gnx Z i) ∧ (f = -1 → b = false → f' = nI (psn t L i)) ∧ (¬ f = -1 → f' = f ∧ i' = i)
theorem Dq.ac {g : gG} {t : Nat → Nat} {L Z : Nat} {G : gG} {i : Nat} {f : Int32} {m : Nat → Int32} {n k : Nat} (D : Dq g t L Z G i f m n k) (b : Bool) : ∃ G', fX10_acceptD 192 (bI b) (gH G) = some (gH G') ∧ AcE g t L Z G i f m n k b G' := by
  have ir := D.ir
  by_cases c : f = -1
  · rw [decide_eq_true c] at ir
    cases b
    · have bh := dk_bh D.1 D.2.1 D.2.2.1
      refine ⟨sF G 192 2 (nI (psn t L i)), ?_, i, _, D.w _, rfl, (fun _ h => by cases h), fun _ _ => rfl, fun h => absurd c h⟩
      unfold fX10_acceptD
      refine (ck_e (io_192 _)).trans ?_
      refine (bd_e ir).trans ?_
      refine (if_neg (show ¬ bI true = 0 by decide)).trans ?_
      refine (if_pos (bI_0.mpr rfl)).trans ?_
      refine (bd_e (fr_192_0 _)).trans ?_
      refine (ck_e (io_188 _)).trans ?_
      refine (bd_e bh).trans ?_
      exact bd_e (fw_192_2 _ _)
    · obtain ⟨e1, D1, p1⟩ := D.go
      refine ⟨_, ?_, _, _, D1, rfl, fun _ _ => ⟨c, p1, rfl⟩, (fun _ h => by cases h), fun h => absurd c h⟩
      unfold fX10_acceptD
      refine (ck_e (io_192 _)).trans ?_
      refine (bd_e ir).trans ?_
      refine (if_neg (show ¬ bI true = 0 by decide)).trans ?_
      refine (if_neg (show ¬ bI true = 0 by decide)).trans ?_
      refine (bd_e (fr_192_0 _)).trans ?_
      refine (ck_e (io_188 _)).trans ?_
      exact bd_e e1
  · rw [decide_eq_false c] at ir
    refine ⟨G, ?_, i, f, D, rfl, (fun h => absurd h c), (fun h => absurd h c), fun _ => ⟨rfl, rfl⟩⟩
    unfold fX10_acceptD
    refine (ck_e (io_192 _)).trans ?_
    refine (bd_e ir).trans ?_
    exact if_pos (bI_0.mpr rfl)
/-- numbers -/
def okN (lo hi : Int32) (q : Nat) : Bool := decide (q ≠ 4000 ∧ ¬ nI q < lo ∧ nI q ≤ hi)
theorem Dq.rn {g : gG} {t : Nat → Nat} {L Z : Nat} {G : gG} {i : Nat} {f : Int32} {m : Nat → Int32} {n k : Nat} (D : Dq g t L Z G i f m n k) {lo hi : Int32} (h0 : (-1 : Int32) < lo) {F : Nat} (hF : 11000 < F) : ∃ G', fX1_readNumber F 192 lo hi (gH G) = some (kI (nmb t L (psn t L i)), gH G') ∧ AcE g t L Z G i f m n k (okN lo hi (nmb t L (psn t L i))) G' := by
  obtain ⟨G', e1, A⟩ := D.ac (okN lo hi (nmb t L (psn t L i)))
  refine ⟨G', ?_, A⟩
  have nh := dk_nh D.1 D.2.1 D.2.2.1 hF
  generalize nmb t L (psn t L i) = q at *
  unfold fX1_readNumber
  refine (bd_e (fr_192_0 _)).trans ?_
  refine (ck_e (io_188 _)).trans ?_
  refine (bd_e nh).trans ?_
  refine (jn_e _ _).trans ?_
  refine (jn_e _ _).trans ?_
  have E : (ab_ck (ab_io (gH G) 192 1 = true) (ab_bd (fX10_acceptD 192 (bI (okN lo hi q)) (gH G)) fun h4 => some (kI q, h4))) = some (kI q, gH G') := (ck_e (io_192 _)).trans (bd_e e1)
  by_cases c4 : q = 4000
  · have o : okN lo hi q = false := decide_eq_false (fun h => h.1 c4)
    rw [o] at E
    refine (if_pos ?_).trans E
    unfold kI; rw [if_pos c4]; exact h0
  · have kq : kI q = nI q := by unfold kI; rw [if_neg c4]
    by_cases c1 : nI q < lo
    · have o : okN lo hi q = false := decide_eq_false (fun h => h.2.1 c1)
      rw [o] at E
      exact (if_pos (by rw [kq]; exact c1)).trans E
    · refine (if_neg (by rw [kq]; exact c1)).trans ?_
      by_cases c2 : nI q ≤ hi
      · have o : okN lo hi q = true := decide_eq_true ⟨c4, c1, c2⟩
        rw [o] at E
        exact (if_pos (by rw [kq]; exact c2)).trans E
      · have o : okN lo hi q = false := decide_eq_false (fun h => c2 h.2.2)
        rw [o] at E
        exact (if_neg (by rw [kq]; exact c2)).trans E
theorem okN_n {t : Nat → Nat} {L a n : Nat} (hn : n ≤ 1000) : okN (nI 0) (nI n - nI 1) (nmb t L a) = decide (nmb t L a < n) := by
  have nl := nmb_lt (t := t) (L := L) (a := a)
  generalize nmb t L a = q at *
  unfold okN
  refine decide_eq_decide.mpr ?_
  have e := isIn_in (x := nI q) (n := n) (by omega)
  constructor
  · intro h
    obtain ⟨j, hj, ej⟩ := inR_ex (x := nI q) (n := n) (by omega) (by rw [← e]; exact decide_eq_true ⟨h.2.1, h.2.2⟩)
    rw [nI_eq (by omega) (by omega)] at ej; omega
  · intro h
    have := inR_of h (show n < 2 ^ 31 by omega)
    rw [← e] at this
    have := of_decide_eq_true this
    exact ⟨by omega, this.1, this.2⟩
theorem Dq.rf {g : gG} {t : Nat → Nat} {L Z : Nat} {G : gG} {i : Nat} {f : Int32} {m : Nat → Int32} {n k : Nat} (D : Dq g t L Z G i f m n k) {F : Nat} (hF : 11000 < F) : ∃ G', fX1_readFigures F 192 (gH G) = some (if e8b t L (psn t L i) = true then e8v t (psn t L i) else -1, gH G') ∧ AcE g t L Z G i f m n k (e8b t L (psn t L i)) G' := by
  obtain ⟨G', e1, A⟩ := D.ac (e8b t L (psn t L i))
  refine ⟨G', ?_, A⟩
  have fh := dk_fh D.1 D.2.1 D.2.2.1 hF
  unfold fX1_readFigures
  refine (bd_e (fr_192_0 _)).trans ?_
  refine (ck_e (io_188 _)).trans ?_
  refine (bd_e fh).trans ?_
  refine (jn_e _ _).trans ?_
  have vl := e8v_lt t (psn t L i) 8 (by omega)
  cases c : e8b t L (psn t L i)
  · rw [c] at e1
    refine (if_pos (if_neg (by decide))).trans ?_
    exact (ck_e (io_192 _)).trans (bd_e e1)
  · rw [c] at e1
    refine (if_neg (fun h => ?_)).trans ?_
    · rw [if_pos rfl] at h
      have : nv (e8v t (psn t L i)) = nv (-1) := by rw [h]
      have h2 : nv (-1 : Int32) = 4294967295 := by decide
      have h3 : nv (e8v t (psn t L i)) < 256 := vl
      omega
    · exact (ck_e (io_192 _)).trans (bd_e e1)
theorem inR_k {t : Nat → Nat} {L a n : Nat} (hn : n ≤ 1000) : inR (kI (nmb t L a)) n = decide (nmb t L a < n) := by
  have nl := nmb_lt (t := t) (L := L) (a := a)
  generalize nmb t L a = q at *
  unfold kI
  by_cases c : q = 4000
  · rw [if_pos c, inR_m1, decide_eq_false (by omega)]
  · rw [if_neg c]
    by_cases d : q < n
    · rw [inR_of d (by omega), decide_eq_true d]
    · rw [decide_eq_false d]
      rcases inR_or (x := nI q) (n := n) (by omega) with h | ⟨j, hj, h⟩
      · exact h
      · rw [nI_eq (by omega) (by omega)] at h; omega
