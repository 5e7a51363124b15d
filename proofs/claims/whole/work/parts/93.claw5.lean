variable {Nq : Nat}
/-! ===== the class reads a sum: the whole ===== -/
def sumQ (t : Nat → Nat) (L k a : Nat) (c : List Nat) : Bool × Nat × List Nat := if (pPart t L a).1 = true then pSumL t L k (pPart t L a).2.1 (c ++ (pPart t L a).2.2 ++ [1100]) else (false, (pPart t L a).2.1, [])
theorem pw_end {t : Nat → Nat} {L a : Nat} (h : pwN t L a ≠ 4000) : a < L := by
  apply Decidable.byContradiction
  intro k
  apply h
  have e1 : kd t L a = 4000 := by unfold kd; rw [if_neg k]
  unfold pwN nmb
  rw [if_neg (by omega), if_neg (fun h => k h.1)]
theorem sum_loop {g : gG} {t : Nat → Nat} {L Z : Nat} (X : Cx g t L Z) {F : Nat} (hF : 11000 < F) (c0 : List Nat) : ∀ k n i c code Fu, i ≤ Z → 1 ≤ n → 2 * n ≤ psn t L i → rep code (c0 ++ c) → (c0 ++ c).length + 1 ≤ psn t L i → L - psn t L i ≤ k → k + 1 < Fu → CnC g t L Z c0 (sumQ t L k (psn t L i) c) (fX3_readSum_7 F 194 Fu (nI 1) (nI n) (gH (cst g (nI i) (-1) (nI (c0 ++ c).length) code))) := by
  have h2 := X.1.2.1
  intro k
  induction k with
  | zero =>
    intro n i c code Fu hi h1 hn hr hs hk hFu
    obtain ⟨F', rfl⟩ : ∃ F', Fu = F' + 2 := ⟨Fu - 2, by omega⟩
    have pl := (X.at hi).2.2.2
    obtain ⟨i2, f2, s2, code2, a1, a2, b1, b2, b3, e⟩ := sum_step X hi (show n < 400 by omega) (show (c0 ++ c).length ≤ 400 by omega) code hF (F' + 1)
    have pe : pwN t L (psn t L i) = 4000 := Decidable.byContradiction fun h => by
      have := pw_end h; omega
    obtain ⟨x1, x2⟩ := a2 pe
    have nm : ¬ f2 = -1 := by rw [x2]; exact nI_m1 (by omega)
    rw [e, if_neg (show ¬ (f2 = -1 ∧ kd t L (psn t L i2) = 43) from fun h => nm h.1), sum_0]
    unfold sumQ
    rw [pPart_w, if_pos pe]
    exact ⟨i2, f2, s2, code2, rfl, by omega, b1, (fun h => by cases h), fun _ => ⟨x2, nm⟩⟩
  | succ k ih =>
    intro n i c code Fu hi h1 hn hr hs hk hFu
    obtain ⟨F', rfl⟩ : ∃ F', Fu = F' + 2 := ⟨Fu - 2, by omega⟩
    have pl := (X.at hi).2.2.2
    obtain ⟨i2, f2, s2, code2, a1, a2, b1, b2, b3, e⟩ := sum_step X hi (show n < 400 by omega) (show (c0 ++ c).length ≤ 400 by omega) code hF (F' + 1)
    rw [e]
    unfold sumQ
    rw [pPart_w]
    by_cases pe : pwN t L (psn t L i) = 4000
    · obtain ⟨x1, x2⟩ := a2 pe
      have nm : ¬ f2 = -1 := by rw [x2]; exact nI_m1 (by omega)
      rw [if_neg (show ¬ (f2 = -1 ∧ kd t L (psn t L i2) = 43) from fun h => nm h.1), sum_0, if_pos pe]
      exact ⟨i2, f2, s2, code2, rfl, by omega, b1, (fun h => by cases h), fun _ => ⟨x2, nm⟩⟩
    · obtain ⟨x1, x2⟩ := a1 pe
      have al := pw_end pe
      obtain ⟨y1, y2⟩ := b3 (by omega) (by omega)
      obtain ⟨p1, p2⟩ := gnx_p X hi
      have gt := nxt_gt (t := t) al
      have kv : kI (pwN t L (psn t L i)) = nI (pwN t L (psn t L i)) := by unfold kI; rw [if_neg pe]
      subst x1 x2 y1
      have cl : (c0 ++ (c ++ [pwN t L (psn t L i)] ++ [1100])).length = (c0 ++ c).length + 2 := by
        simp only [List.length_append, List.length_cons, List.length_nil]; omega
      have rp : rep code2 (c0 ++ (c ++ [pwN t L (psn t L i)] ++ [1100])) := by
        have r1 := rep_ap hr (pwN t L (psn t L i))
        have r2 := rep_ap r1 1100
        have l1 : (c0 ++ c ++ [pwN t L (psn t L i)]).length = (c0 ++ c).length + 1 := by
          simp only [List.length_append, List.length_cons, List.length_nil]
        rw [l1] at r2
        rw [y2, kv, ← List.append_assoc, ← List.append_assoc]
        exact r2
      rw [if_neg pe, if_pos rfl]
      show CnC g t L Z c0 (pSumL t L (k + 1) (nxt t L (psn t L i)) (c ++ [pwN t L (psn t L i)] ++ [1100])) _
      rw [pSumL, ← p1]
      by_cases c43 : kd t L (psn t L (gnx Z i)) = 43
      · have hl : psn t L (gnx Z i) < L := kd_lt (t := t) (by omega)
        obtain ⟨p3, p4⟩ := gnx_p X p2
        have gt2 := nxt_gt (t := t) hl
        rw [if_pos c43, if_pos (show (-1 : Int32) = -1 ∧ kd t L (psn t L (gnx Z i)) = 43 from ⟨rfl, c43⟩), ← p3]
        have I := ih (n + 1) (gnx Z (gnx Z i)) (c ++ [pwN t L (psn t L i)] ++ [1100]) code2 (F' + 1) p4 (by omega) (by omega) rp (by omega) (by omega) (by omega)
        rw [cl] at I
        exact I
      · rw [if_neg c43, if_neg (show ¬ ((-1 : Int32) = -1 ∧ kd t L (psn t L (gnx Z i)) = 43) from fun h => c43 h.2), sum_0]
        refine ⟨gnx Z i, -1, (c0 ++ c).length + 2, code2, rfl, p2, b1, fun _ => ⟨rfl, rfl, cl.symm, rp⟩, fun h => by cases h⟩
theorem cl_sum {g : gG} {t : Nat → Nat} {L Z : Nat} (X : Cx g t L Z) {F : Nat} (hF : 11000 < F) (c0 : List Nat) {i : Nat} (hi : i ≤ Z) {code : Nat → Int32} (hr : rep code c0) (hs : c0.length ≤ psn t L i) : CnC g t L Z c0 (pSum t L (psn t L i)) (fX3_readSum F 194 (gH (cst g (nI i) (-1) (nI c0.length) code))) := by
  have h2 := X.1.2.1
  have pl := (X.at hi).2.2.2
  obtain ⟨F', rfl⟩ : ∃ F', F = F' + 2 := ⟨F - 2, by omega⟩
  obtain ⟨i2, f2, s2, code2, a1, a2, b1, b2, b3, e⟩ := sum_step X hi (show 0 < 400 by omega) (show c0.length ≤ 400 by omega) code hF (F' + 1)
  have top : fX3_readSum (F' + 2) 194 (gH (cst g (nI i) (-1) (nI c0.length) code)) = fX3_readSum_7 (F' + 2) 194 (F' + 2) (nI 1) (nI 0) (gH (cst g (nI i) (-1) (nI c0.length) code)) := by
    unfold fX3_readSum
    rw [io_194, ck_t, cl_ir, bdS, decide_eq_true rfl]
    rfl
  rw [top, e]
  unfold pSum
  rw [pPart_w]
  by_cases pe : pwN t L (psn t L i) = 4000
  · obtain ⟨x1, x2⟩ := a2 pe
    have nm : ¬ f2 = -1 := by rw [x2]; exact nI_m1 (by omega)
    rw [if_neg (show ¬ (f2 = -1 ∧ kd t L (psn t L i2) = 43) from fun h => nm h.1), sum_0, if_pos pe]
    exact ⟨i2, f2, s2, code2, rfl, by omega, b1, (fun h => by cases h), fun _ => ⟨x2, nm⟩⟩
  · obtain ⟨x1, x2⟩ := a1 pe
    have al := pw_end pe
    by_cases c400 : c0.length < 400
    · obtain ⟨y1, y2⟩ := b2 c400 rfl
      obtain ⟨p1, p2⟩ := gnx_p X hi
      have gt := nxt_gt (t := t) al
      have kv : kI (pwN t L (psn t L i)) = nI (pwN t L (psn t L i)) := by unfold kI; rw [if_neg pe]
      subst x1 x2 y1
      have cl : (c0 ++ [pwN t L (psn t L i)]).length = c0.length + 1 := by
        simp only [List.length_append, List.length_cons, List.length_nil]
      have rp : rep code2 (c0 ++ [pwN t L (psn t L i)]) := by
        rw [y2, kv]; exact rep_ap hr _
      rw [if_neg pe, if_pos rfl]
      show CnC g t L Z c0 (pSumL t L (L + 1) (nxt t L (psn t L i)) [pwN t L (psn t L i)]) _
      rw [pSumL, ← p1]
      by_cases c43 : kd t L (psn t L (gnx Z i)) = 43
      · have hl : psn t L (gnx Z i) < L := kd_lt (t := t) (by omega)
        obtain ⟨p3, p4⟩ := gnx_p X p2
        have gt2 := nxt_gt (t := t) hl
        rw [if_pos c43, if_pos (show (-1 : Int32) = -1 ∧ kd t L (psn t L (gnx Z i)) = 43 from ⟨rfl, c43⟩), ← p3]
        have I := sum_loop X hF c0 L 1 (gnx Z (gnx Z i)) [pwN t L (psn t L i)] code2 (F' + 1) p4 (by omega) (by omega) rp (by omega) (by omega) (by omega)
        rw [cl] at I
        exact I
      · rw [if_neg c43, if_neg (show ¬ ((-1 : Int32) = -1 ∧ kd t L (psn t L (gnx Z i)) = 43) from fun h => c43 h.2), sum_0]
        exact ⟨gnx Z i, -1, c0.length + 1, code2, rfl, p2, b1, fun _ => ⟨rfl, rfl, cl.symm, rp⟩, fun h => by cases h⟩
    · exfalso
      omega
