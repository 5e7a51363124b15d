variable {Nq : Nat}
/-! ===== the class reads a sum ===== -/
theorem getD_ap : ∀ {c : List Nat} {w q : Nat}, (c ++ [w]).getD q 0 = if q < c.length then c.getD q 0 else if q = c.length then w else 0
  | [], w, 0 => rfl
  | [], w, q + 1 => by simp
  | x :: c, w, 0 => by simp
  | x :: c, w, q + 1 => by
    have := getD_ap (c := c) (w := w) (q := q)
    show (c ++ [w]).getD q 0 = if q + 1 < c.length + 1 then c.getD q 0 else if q + 1 = c.length + 1 then w else 0
    rw [this]
    by_cases h : q < c.length
    · rw [if_pos h, if_pos (by omega)]
    · rw [if_neg h, if_neg (show ¬ q + 1 < c.length + 1 by omega)]
      by_cases k : q = c.length
      · rw [if_pos k, if_pos (show q + 1 = c.length + 1 by omega)]
      · rw [if_neg k, if_neg (show ¬ q + 1 = c.length + 1 by omega)]
theorem rep_ap {code : Nat → Int32} {c : List Nat} (h : rep code c) (w : Nat) : rep (upd code c.length (nI w)) (c ++ [w]) := by
  intro q hq
  rw [List.length_append, List.length_cons, List.length_nil] at hq
  rw [upd_e, getD_ap]
  by_cases k : q = c.length
  · rw [if_pos k, if_neg (by omega), if_pos k]
  · rw [if_neg k, if_pos (by omega)]; exact h q (by omega)
/-- how the class's reading ends -/
def CnC (g : gG) (t : Nat → Nat) (L Z : Nat) (c : List Nat) (r : Bool × Nat × List Nat) (X : Option ab_H) : Prop := ∃ i' f' s' code', X = some (gH (cst g (nI i') f' (nI s') code')) ∧ i' ≤ Z ∧ s' ≤ 400 ∧ (r.1 = true → f' = -1 ∧ psn t L i' = r.2.1 ∧ s' = (c ++ r.2.2).length ∧ rep code' (c ++ r.2.2)) ∧ (r.1 = false → f' = nI r.2.1 ∧ ¬ f' = -1)
def pwN (t : Nat → Nat) (L a : Nat) : Nat := if 1014 ≤ kd t L a ∧ kd t L a ≤ 1019 then kd t L a else nmb t L a
theorem pPart_w {t : Nat → Nat} {L a : Nat} : pPart t L a = if pwN t L a = 4000 then (false, a, []) else (true, nxt t L a, [pwN t L a]) := by
  unfold pPart pwN
  by_cases c : 1014 ≤ kd t L a ∧ kd t L a ≤ 1019
  · rw [if_pos c, if_pos c, if_neg (by omega)]
  · rw [if_neg c, if_neg c]
theorem pwN_lt {t : Nat → Nat} {L a : Nat} : pwN t L a = 4000 ∨ pwN t L a < 1020 := by
  unfold pwN
  split
  · right; omega
  · rcases nmb_lt (t := t) (L := L) (a := a) with h | h
    · exact Or.inl h
    · right; omega
theorem sum_0 {F : Nat} {x2 : Int32} {h : ab_H} {F' : Nat} : fX3_readSum_7 F 194 (F' + 1) (nI 0) x2 h = some h := by
  rw [fX3_readSum_7]
  split
  · rw [if_pos nI_0]
  · rfl
/-- what is taken for a part -/
theorem cl_part {g : gG} {t : Nat → Nat} {L Z : Nat} (X : Cx g t L Z) {i : Nat} (hi : i ≤ Z) (f s : Int32) (c : Nat → Int32) {F : Nat} (hF : 11000 < F) (J : Int32 → Option ab_H) : (ab_jn (κ := Option ab_H) (ab_bd (ab_fr (gH (cst g (nI i) f s c)) 194 3 0) fun v27 => ab_ck (ab_io (gH (cst g (nI i) f s c)) v27 0 = true) (ab_bd (fX0_numberHere F v27 (gH (cst g (nI i) f s c))) fun v28 => J v28)) fun j29 => (if kI (kd t L (psn t L i)) < (nI 1014) then j29 else (if kI (kd t L (psn t L i)) ≤ (nI 1019) then J (kI (kd t L (psn t L i))) else j29))) = J (kI (pwN t L (psn t L i))) := by
  have hbt : ∀ i, i < L → t i < 256 := fun i hi => (X.1.2.2 i hi).2
  have nh := cl_nh X hi f s c hF
  rw [jn_e, fr_194_0, bdS, io_188, ck_t, nh, bdS]
  unfold pwN
  rcases kd_cases (t := t) (L := L) (a := psn t L i) hbt with h | h | h
  · have e : kI (kd t L (psn t L i)) = nI (kd t L (psn t L i)) := by unfold kI; rw [if_neg (by omega)]
    rw [e, if_pos (by rw [nI_ltI (by omega) (by omega)]; omega), if_neg (by omega)]
  · have e : kI (kd t L (psn t L i)) = nI (kd t L (psn t L i)) := by unfold kI; rw [if_neg (by omega)]
    rw [e]
    by_cases c1 : kd t L (psn t L i) < 1014
    · rw [if_pos (by rw [nI_ltI (by omega) (by omega)]; exact c1), if_neg (by omega)]
    · rw [if_neg (by rw [nI_ltI (by omega) (by omega)]; exact c1), if_pos (nI_le (by omega) (by decide)), if_pos (by omega), e]
  · have e : kI (kd t L (psn t L i)) = -1 := by unfold kI; rw [if_pos h]
    rw [e, if_pos (by decide), if_neg (by omega)]
