variable {Nq : Nat}
/-! ===== a LINE of THE LAW, read by the reference ===== -/
theorem jn_e {α β : Type} (f : α) (k : α → Option β) : ab_jn f k = k f := rfl
theorem rs_condE {g : gG} {t : Nat → Nat} {L : Nat} (H : Ltx g t L) (hb : Bo g) {F : Nat} (hF : 11000 < F) (e : Nat) (he : e ≤ 6) : RsB g t L (nI (6 - e)) e (fX12_some F (fX12_atom F (e + 1)) 206) (pSome t L (pAtom t L e)) := by
  have IH := rs_atom H hb hF e he
  have ev := rs_every H hb (nI (6 - e)) hF IH (wf_atom e (by omega)) (fun a h => pg_atom e a h) (by omega)
  have so := rs_some H hb (nI (6 - e)) hF ev (wf_join1 (wf_atom e (by omega)) (by omega) (Or.inl rfl)) (pg_join (fun a h => pg_atom e a h) (by decide)) (by omega)
  exact so
theorem rs_cond {g : gG} {t : Nat → Nat} {L : Nat} (H : Ltx g t L) (hb : Bo g) {F : Nat} (hF : 11000 < F) : RsB g t L (nI 0) 6 (fX12_someT F 206) (pSome t L (pAtom t L 6)) := by
  have h := rs_condE H hb hF 6 (Nat.le_refl 6)
  rw [Nat.sub_self] at h
  intro a u v ha
  unfold fX12_someT
  exact h a u v ha
/-- whether code has a LINE of a word that holds -/
def hit (env : Nat → Int32) (w : Nat) : List Nat → List Int32 → Bool
  | [], _ => false
  | x :: c, st => if x = 1007 ∨ x = 1008 then (if x = w ∧ st ≠ [] ∧ st.getLastD 0 ≠ 0 then true else hit env w c []) else hit env w c (stp env x st)
theorem hit_app {env : Nat → Int32} {w : Nat} : ∀ {c : List Nat} {r : List Nat} {st : List Int32}, (∀ x, x ∈ c → x ≠ 1007 ∧ x ≠ 1008) → hit env w (c ++ r) st = hit env w r (xc env c st)
  | [], r, st, _ => rfl
  | x :: c, r, st, h => by
    have hx := h x List.mem_cons_self
    show hit env w (x :: (c ++ r)) st = _
    rw [hit, if_neg (by omega)]
    exact hit_app (fun y hy => h y (List.mem_cons_of_mem _ hy))
/-- code of a condition and a word -/
theorem hit_line {env : Nat → Int32} {w : Nat} {c r : List Nat} {x : Nat} (hc : wfc 17 c) (hx : x = 1007 ∨ x = 1008) : hit env w (c ++ [x] ++ r) [] = ((decide (x = w) && decide (vl env c ≠ 0)) || hit env w r []) := by
  rw [List.append_assoc, hit_app hc.1, hc.2 env [] (by decide)]
  show hit env w (x :: r) [vl env c] = _
  rw [hit, if_pos hx]
  by_cases c1 : x = w
  · by_cases c2 : vl env c ≠ 0
    · rw [if_pos ⟨c1, by simp, c2⟩, decide_eq_true c1, decide_eq_true c2]; rfl
    · rw [if_neg (fun h => c2 h.2.2), decide_eq_false c2, Bool.and_false, Bool.false_or]
  · rw [if_neg (fun h => c1 h.1), decide_eq_false c1, Bool.false_and, Bool.false_or]
/-- code that is of whole LINES -/
def lnC (C : List Nat) : Prop := ∀ env w r, hit env w (C ++ r) [] = (hit env w C [] || hit env w r [])
theorem lnC_nil : lnC [] := fun env w r => by
  show hit env w r [] = (false || hit env w r [])
  rw [Bool.false_or]
theorem line_C {t : Nat → Nat} {L a : Nat} (e : (pLine t L a).1 = true) : ∃ c, wfc 17 c ∧ (pLine t L a).2.2 = c ++ [kd t L a] ∧ (kd t L a = 1007 ∨ kd t L a = 1008) := by
  unfold pLine at *
  by_cases c : kd t L a = 1007 ∨ kd t L a = 1008
  · rw [if_pos c] at e ⊢
    by_cases c2 : kd t L (nxt t L a) = 1009
    · rw [if_pos c2] at e ⊢
      by_cases e1 : (pSome t L (pAtom t L 6) (nxt t L (nxt t L a))).1 = true
      · rw [if_pos e1]
        exact ⟨_, (wf_cond e1).1, rfl, c⟩
      · rw [if_neg e1] at e; cases e
    · rw [if_neg c2]
      exact ⟨[1], (wf_one (by omega)).1.mono (by decide), rfl, c⟩
  · rw [if_neg c] at e; cases e
theorem lnC_line {t : Nat → Nat} {L a : Nat} {C : List Nat} (hC : lnC C) (e : (pLine t L a).1 = true) : lnC (C ++ (pLine t L a).2.2) := by
  obtain ⟨c, w1, w2, w3⟩ := line_C e
  intro env w r
  rw [w2, List.append_assoc, hC, hC env w (c ++ [kd t L a])]
  have h1 := hit_line (env := env) (w := w) (r := r) w1 w3
  have h2 := hit_line (env := env) (w := w) (r := []) w1 w3
  rw [List.append_nil] at h2
  rw [h1, h2]
  show _ = (hit env w C [] || (_ || false) || _)
  rw [Bool.or_false, Bool.or_assoc]
/-- what a LINE does to hands (1007) and fetches (1008) -/
def flg (b : Bool) (u : Int32) : Int32 := if b = true then nI 1 else u
theorem rs_line {g : gG} {t : Nat → Nat} {L : Nat} (H : Ltx g t L) (hb : Bo g) {F : Nat} (hF : 11000 < F) {a : Nat} (ha : a ≤ L) (u v : Int32) : ∃ a' f' d' u' v', fX12_lawLine F 206 (gH (tx g (nI a) (-1) (nI 0) u v)) = some (gH (tx g (nI a') f' d' u' v')) ∧ a' ≤ L + 6 ∧ ((pLine t L (rn (bk t) L a)).1 = true → f' = -1 ∧ d' = nI 0 ∧ a' ≤ L ∧ rn (bk t) L a' = (pLine t L (rn (bk t) L a)).2.1 ∧ u' = flg (hit (envR g) 1007 (pLine t L (rn (bk t) L a)).2.2 []) u ∧ v' = flg (hit (envR g) 1008 (pLine t L (rn (bk t) L a)).2.2 []) v) ∧ ((pLine t L (rn (bk t) L a)).1 = false → f' = nI (pLine t L (rn (bk t) L a)).2.1 ∧ ¬ f' = -1) := by
  have h2 := H.2.1
  have w21 := hw_21 H (-1) (nI 0) u v (show a < 1000 by omega) hF
  have bl := rn_le (P := bk t) (L := L) a ha
  have nb := rn_rn (P := bk t) (L := L) a
  generalize rn (bk t) L a = b at *
  have w22 := hw_22 H (-1) (nI 0) u v (show b < 1000 by omega) hF
  rw [nb] at w22
  by_cases c : kd t L b = 1007 ∨ kd t L b = 1008
  · have hl : b < L := kd_lt (t := t) (by omega)
    have el := en_le (t := t) hl
    have nx := nx_en (t := t) hl
    have w23 := hw_23 H (-1) (nI 0) u v (show en t L b < 1000 by omega) hF
    rw [nx] at w23
    have pl : nrm t L (nxt t L b) := nxt_nrm hl
    -- behind the word
    have run : fX12_lawLine F 206 (gH (tx g (nI a) (-1) (nI 0) u v)) = ab_bd (fX12_has_ F 206 (ab_SB + 23) (gH (tx g (nI (en t L b)) (-1) (nI 0) u v))) fun v3 => ab_jn (κ := Int32 → ab_H → Option ab_H) (fun (z4 : Int32) (h5 : ab_H) => ab_bd (ab_fi h5 206 12 12) fun v6 => (if v6 = (-1 : Int32) then (if z4 = 0 then some h5 else (if bI (decide (kd t L b = 1007)) = 0 then ab_bd (ab_fw h5 206 12 18 (.int (nI 1))) fun h10 => some h10 else ab_bd (ab_fw h5 206 12 17 (.int (nI 1))) fun h11 => some h11)) else some h5)) fun j12 => ab_jn (κ := ab_H → Option ab_H) (fun (h13 : ab_H) => j12 (nI 1) h13) fun j14 => (if v3.1 = 0 then j14 v3.2 else ab_ck (ab_io v3.2 206 12 = true) (ab_bd (fX12_someT F 206 v3.2) fun v16 => (if v16.1 = 0 then j12 (nI 0) v16.2 else j14 v16.2))) := by
      by_cases c7 : kd t L b = 1007
      · rw [decide_eq_true c7] at w21 ⊢
        rw [if_pos c7] at w21
        unfold fX12_lawLine
        rw [io_206, ck_t, w21, bdS]
        simp only [bI_0, reduceCtorEq, if_false]
        rw [jn_e]
        dsimp only
        rw [io_206, ck_t]
      · have c8 : kd t L b = 1008 := c.resolve_left c7
        rw [decide_eq_false c7] at w21 ⊢
        rw [if_neg c7] at w21
        rw [decide_eq_true c8, if_pos c8] at w22
        unfold fX12_lawLine
        rw [io_206, ck_t, w21, bdS]
        simp only [bI_0, if_true]
        rw [jn_e, io_206, ck_t, w22, bdS]
        simp only [bI_0, reduceCtorEq, if_false]
        rw [io_206, ck_t]
    have fin : ∀ (z : Int32) (a1 : Nat) (f1 d1 : Int32), (z = nI 0 ∨ z = nI 1) → (ab_bd (ab_fi (gH (tx g (nI a1) f1 d1 u v)) 206 12 12) fun v6 => (if v6 = (-1 : Int32) then (if z = 0 then some (gH (tx g (nI a1) f1 d1 u v)) else (if bI (decide (kd t L b = 1007)) = 0 then ab_bd (ab_fw (gH (tx g (nI a1) f1 d1 u v)) 206 12 18 (.int (nI 1))) fun h10 => some h10 else ab_bd (ab_fw (gH (tx g (nI a1) f1 d1 u v)) 206 12 17 (.int (nI 1))) fun h11 => some h11)) else some (gH (tx g (nI a1) f1 d1 u v)))) = if f1 = -1 then some (gH (tx g (nI a1) f1 d1 (flg (decide (kd t L b = 1007) && decide (z ≠ 0)) u) (flg (decide (kd t L b = 1008) && decide (z ≠ 0)) v))) else some (gH (tx g (nI a1) f1 d1 u v)) := by
      intro z a1 f1 d1 hz
      by_cases cf : f1 = -1
      · rw [if_pos cf]
        rcases hz with rfl | rfl
        · have e0 : decide (nI 0 ≠ 0) = false := by decide
          rw [e0, Bool.and_false, Bool.and_false]
          simp (disch := omega) only [bdS, fi_206_12, tf12, cf, if_true, nI_0]
          rfl
        · have e0 : decide (nI 1 ≠ 0) = true := by decide
          have e1 : ¬ (nI 1 = 0) := by decide
          rw [e0, Bool.and_true, Bool.and_true]
          by_cases c7 : kd t L b = 1007
          · have c8 : ¬ kd t L b = 1008 := by omega
            simp (disch := omega) only [bdS, fi_206_12, fw_206_17, tf12, tx_17, cf, c7, e1, decide_true, bI_0, reduceCtorEq, if_true, if_false, show ¬ (1007 = 1008) by omega, decide_false]
            rfl
          · have c8 : kd t L b = 1008 := c.resolve_left c7
            simp (disch := omega) only [bdS, fi_206_12, fw_206_18, tf12, tx_18, cf, c7, c8, e1, decide_true, decide_false, bI_0, if_true, if_false, show ¬ (1008 = 1007) by omega]
            rfl
      · rw [if_neg cf]
        simp (disch := omega) only [bdS, fi_206_12, tf12, cf, if_false]
    rw [run]
    by_cases c9 : kd t L (nxt t L b) = 1009
    · rw [decide_eq_true c9, if_pos c9] at w23
      have hl2 : nxt t L b < L := kd_lt (t := t) (by omega)
      have nx2 := nx_en (t := t) hl2
      obtain ⟨x, a1, f1, d1, e1, x01, q1, q2, q3⟩ := rs_cond H hb hF (en t L (nxt t L b)) u v (en_le hl2)
      rw [nx2] at q2 q3
      have run2 : (ab_bd (fX12_has_ F 206 (ab_SB + 23) (gH (tx g (nI (en t L b)) (-1) (nI 0) u v))) fun v3 => ab_jn (κ := Int32 → ab_H → Option ab_H) (fun (z4 : Int32) (h5 : ab_H) => ab_bd (ab_fi h5 206 12 12) fun v6 => (if v6 = (-1 : Int32) then (if z4 = 0 then some h5 else (if bI (decide (kd t L b = 1007)) = 0 then ab_bd (ab_fw h5 206 12 18 (.int (nI 1))) fun h10 => some h10 else ab_bd (ab_fw h5 206 12 17 (.int (nI 1))) fun h11 => some h11)) else some h5)) fun j12 => ab_jn (κ := ab_H → Option ab_H) (fun (h13 : ab_H) => j12 (nI 1) h13) fun j14 => (if v3.1 = 0 then j14 v3.2 else ab_ck (ab_io v3.2 206 12 = true) (ab_bd (fX12_someT F 206 v3.2) fun v16 => (if v16.1 = 0 then j12 (nI 0) v16.2 else j14 v16.2)))) = if f1 = -1 then some (gH (tx g (nI a1) f1 d1 (flg (decide (kd t L b = 1007) && decide (x ≠ 0)) u) (flg (decide (kd t L b = 1008) && decide (x ≠ 0)) v))) else some (gH (tx g (nI a1) f1 d1 u v)) := by
        rw [← fin x a1 f1 d1 x01, w23, bdS]
        simp only [ab_jn, bI_0, reduceCtorEq, if_false]
        rw [io_206, ck_t, e1, bdS]
        rcases x01 with rfl | rfl
        · exact if_pos nI_0
        · exact if_neg (show ¬ (nI 1 : Int32) = 0 by decide)
      rw [run2]
      unfold pLine
      rw [if_pos c, if_pos c9]
      cases e2 : (pSome t L (pAtom t L 6) (nxt t L (nxt t L b))).1
      · obtain ⟨r1, r2⟩ := q3 e2
        rw [if_neg r2]
        simp only [Bool.false_eq_true, if_false]
        exact ⟨a1, f1, d1, u, v, rfl, q1, (fun h => by cases h), fun _ => ⟨r1, r2⟩⟩
      · obtain ⟨r1, r2, r3, r4, r5⟩ := q2 e2
        rw [if_pos rfl, if_pos r1]
        refine ⟨a1, f1, d1, _, _, rfl, q1, fun _ => ⟨r1, r2, r3, r4, ?_, ?_⟩, fun h => by cases h⟩
        · have h7 := hit_line (env := envR g) (w := 1007) (r := []) (wf_cond e2).1 c
          rw [List.append_nil] at h7
          show _ = flg (hit (envR g) 1007 ((pSome t L (pAtom t L 6) (nxt t L (nxt t L b))).2.2 ++ [kd t L b]) []) u
          rw [h7, ← r5]
          show _ = flg (_ || false) u
          rw [Bool.or_false]
        · have h8 := hit_line (env := envR g) (w := 1008) (r := []) (wf_cond e2).1 c
          rw [List.append_nil] at h8
          show _ = flg (hit (envR g) 1008 ((pSome t L (pAtom t L 6) (nxt t L (nxt t L b))).2.2 ++ [kd t L b]) []) v
          rw [h8, ← r5]
          show _ = flg (_ || false) v
          rw [Bool.or_false]
    · rw [decide_eq_false c9, if_neg c9] at w23
      have run2 : (ab_bd (fX12_has_ F 206 (ab_SB + 23) (gH (tx g (nI (en t L b)) (-1) (nI 0) u v))) fun v3 => ab_jn (κ := Int32 → ab_H → Option ab_H) (fun (z4 : Int32) (h5 : ab_H) => ab_bd (ab_fi h5 206 12 12) fun v6 => (if v6 = (-1 : Int32) then (if z4 = 0 then some h5 else (if bI (decide (kd t L b = 1007)) = 0 then ab_bd (ab_fw h5 206 12 18 (.int (nI 1))) fun h10 => some h10 else ab_bd (ab_fw h5 206 12 17 (.int (nI 1))) fun h11 => some h11)) else some h5)) fun j12 => ab_jn (κ := ab_H → Option ab_H) (fun (h13 : ab_H) => j12 (nI 1) h13) fun j14 => (if v3.1 = 0 then j14 v3.2 else ab_ck (ab_io v3.2 206 12 = true) (ab_bd (fX12_someT F 206 v3.2) fun v16 => (if v16.1 = 0 then j12 (nI 0) v16.2 else j14 v16.2)))) = some (gH (tx g (nI (nxt t L b)) (-1) (nI 0) (flg (decide (kd t L b = 1007) && decide (nI 1 ≠ 0)) u) (flg (decide (kd t L b = 1008) && decide (nI 1 ≠ 0)) v))) := by
        have f1 := fin (nI 1) (nxt t L b) (-1) (nI 0) (Or.inr rfl)
        rw [if_pos rfl] at f1
        rw [← f1, w23, bdS]
        simp only [ab_jn, bI_0, if_true]
      rw [run2]
      unfold pLine
      rw [if_pos c, if_neg c9]
      have wf1 := wf_one (w := 1) (by omega)
      have vl1 : vl (envR g) [1] = nI 1 := by rw [wf1.2, if_pos (by omega)]
      refine ⟨nxt t L b, -1, nI 0, _, _, rfl, by have := pl.2; omega, fun _ => ⟨rfl, rfl, pl.2, pl.1, ?_, ?_⟩, fun h => by cases h⟩
      · have h7 := hit_line (env := envR g) (w := 1007) (r := []) (wf1.1.mono (show 1 ≤ 17 by decide)) c
        show _ = flg (hit (envR g) 1007 ([1] ++ [kd t L b]) []) u
        rw [List.append_nil] at h7
        rw [h7, vl1]
        show _ = flg (_ || false) u
        rw [Bool.or_false]
      · have h8 := hit_line (env := envR g) (w := 1008) (r := []) (wf1.1.mono (show 1 ≤ 17 by decide)) c
        show _ = flg (hit (envR g) 1008 ([1] ++ [kd t L b]) []) v
        rw [List.append_nil] at h8
        rw [h8, vl1]
        show _ = flg (_ || false) v
        rw [Bool.or_false]
  · have c7 : ¬ kd t L b = 1007 := fun h => c (Or.inl h)
    have c8 : ¬ kd t L b = 1008 := fun h => c (Or.inr h)
    unfold pLine
    rw [if_neg c]
    rw [decide_eq_false c7, if_neg c7] at w21
    rw [decide_eq_false c8, if_neg c8] at w22
    refine ⟨b, nI b, nI 0, u, v, ?_, by omega, (fun h => by cases h), fun _ => ⟨rfl, fun h => (m1_ne (by omega)).mp h⟩⟩
    simp (disch := omega) only [fX12_lawLine, fX12_wrong, io_206, fi_206_12, fw_206_18, fw_206_17, fi_206_11, fw_206_12, bdS, ck_t, ck_T, cb_0, cb_1, if_true, if_false, tf9, tf10, tf11, tf12, tf13, tf15, tf16, tf17, tf18, tA, tx_11, tx_12, tx_13, tx_17, tx_18, w21, w22, bI_0, if_true]
    rfl
