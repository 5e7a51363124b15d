variable {Nq : Nat}
/-! ===== texts of THE DOOR: eight figures ===== -/
def e8p (t : Nat → Nat) (a : Nat) : Nat → Bool × Int32
  | 0 => (true, nI 0)
  | i + 1 => if (e8p t a i).1 = true ∧ t (a + i) ≤ 49 ∧ i < 8 then (true, if t (a + i) = 49 then (e8p t a i).2 ||| (nI 1 <<< (nI i &&& 31)) else (e8p t a i).2) else (false, (e8p t a i).2)
theorem e8p_S (t : Nat → Nat) (a i : Nat) : e8p t a (i + 1) = if (e8p t a i).1 = true ∧ t (a + i) ≤ 49 ∧ i < 8 then (true, if t (a + i) = 49 then (e8p t a i).2 ||| (nI 1 <<< (nI i &&& 31)) else (e8p t a i).2) else (false, (e8p t a i).2) := rfl
def e8b (t : Nat → Nat) (L a : Nat) : Bool := decide ((a < L ∧ dig t a = true) ∧ en t L a = a + 8 ∧ (e8p t a 8).1 = true)
theorem e8b_i {t : Nat → Nat} {L a : Nat} : e8b t L a = true ↔ ((a < L ∧ dig t a = true) ∧ en t L a = a + 8 ∧ (e8p t a 8).1 = true) := decide_eq_true_iff
def e8v (t : Nat → Nat) (a : Nat) : Int32 := (e8p t a 8).2
theorem or8 : ∀ i, i < 8 → ∀ x, x < 256 → nv (nI x ||| (nI 1 <<< (nI i &&& 31))) < 256 := by decide +kernel
theorem e8v_lt (t : Nat → Nat) (a : Nat) : ∀ i, i ≤ 8 → nv (e8p t a i).2 < 256
  | 0, _ => show nv (nI 0) < 256 by decide
  | i + 1, h => by
    have ih := e8v_lt t a i (by omega)
    rw [e8p_S]
    have o := or8 i (by omega) _ ih
    rw [nI_nv] at o
    split
    · show nv (if _ then _ else _) < 256
      split
      · exact o
      · exact ih
    · exact ih
/-- the reference -/
theorem rl_eight {g : gG} {t : Nat → Nat} {L : Nat} (H : Ltx g t L) (d u v x1 : Int32) {b : Nat} (hb : b ≤ L) {F : Nat} (K : Int32 → Int32 → Int32 → ab_H → Option (Int32 × ab_H)) : ∀ e i Fu, b + i + e = rn (dig t) L b → e < Fu → fX12_eight_22 F 206 x1 K Fu (e8p t b i).2 (nI i) (bI (e8p t b i).1) (gH (tx g (nI (b + i)) (-1) d u v)) = K (e8p t b (i + e)).2 (nI (i + e)) (bI (e8p t b (i + e)).1) (gH (tx g (nI (b + (i + e))) (-1) d u v)) := by
  have h1 := H.1
  have h2 := H.2.1
  have le := rn_le (P := dig t) (L := L) b hb
  have en := rn_end (P := dig t) (L := L) b
  have ins := rn_in (P := dig t) (L := L) b
  generalize rn (dig t) L b = E at *
  intro e
  induction e with
  | zero =>
    intro i Fu hi hF
    obtain ⟨F', rfl⟩ : ∃ F', Fu = F' + 1 := ⟨Fu - 1, by omega⟩
    have hE : b + i = E := by omega
    rw [Nat.add_zero]
    by_cases c : b + i < L
    · have l := rf_letter H c (nI (b + i)) (-1) d u v
      have tb := H.2.2.1 _ c
      have c2 : ¬ (48 ≤ t (b + i) ∧ t (b + i) ≤ 57) := fun k => en (by rw [← hE]; exact ⟨c, decide_eq_true k⟩)
      rw [fX12_eight_22]
      refine (bd_e ((fi_206_11 _).trans (congrArg some (tf11 ..)))).trans ?_
      refine (bd_e ((fi_206_10 _).trans (congrArg some ((tf10 ..).trans h1)))).trans ?_
      refine (if_pos (nI_lt c (by omega))).trans ?_
      refine (bd_e ((fi_206_11 _).trans (congrArg some (tf11 ..)))).trans ?_
      refine (ck_e (io_206 _)).trans ?_
      refine (bd_e l).trans ?_
      simp (disch := omega) only [rf_in, c2, decide_false, bdS, bI_0, if_true]
      rfl
    · rw [fX12_eight_22]
      refine (bd_e ((fi_206_11 _).trans (congrArg some (tf11 ..)))).trans ?_
      refine (bd_e ((fi_206_10 _).trans (congrArg some ((tf10 ..).trans h1)))).trans ?_
      exact if_neg (fun h => c (by rw [nI_ltI (by omega) (by omega)] at h; exact h))
  | succ e ih =>
    intro i Fu hi hF
    obtain ⟨F', rfl⟩ : ∃ F', Fu = F' + 1 := ⟨Fu - 1, by omega⟩
    have c : b + i < L := by omega
    have l := rf_letter H c (nI (b + i)) (-1) d u v
    have tb := H.2.2.1 _ c
    have c2 := of_decide_eq_true (ins (b + i) (by omega) (by omega))
    have r := ih (i + 1) F' (by omega) (by omega)
    rw [show i + 1 + e = i + (e + 1) by omega, show b + (i + 1) = b + i + 1 by omega] at r
    rw [← r, e8p_S, fX12_eight_22]
    refine (bd_e ((fi_206_11 _).trans (congrArg some (tf11 ..)))).trans ?_
    refine (bd_e ((fi_206_10 _).trans (congrArg some ((tf10 ..).trans h1)))).trans ?_
    refine (if_pos (nI_lt c (by omega))).trans ?_
    refine (bd_e ((fi_206_11 _).trans (congrArg some (tf11 ..)))).trans ?_
    refine (ck_e (io_206 _)).trans ?_
    refine (bd_e l).trans ?_
    refine (bd_e (show fX12_isIn (nI (t (b + i))) (nI 48) (nI 57) _ = some (bI true) by simp (disch := omega) only [rf_in, c2, and_self, decide_true])).trans ?_
    refine (if_neg (show ¬ bI true = 0 by decide)).trans ?_
    refine (jn_e _ _).trans ?_
    refine (jn_e _ _).trans ?_
    generalize e8p t b i = q at *
    obtain ⟨q1, q2⟩ := q
    have A : ∀ z2 z11 : Int32, (ab_bd (ab_fi (gH (tx g (nI (b + i)) (-1) d u v)) 206 12 11) fun v13 => ab_bd (ab_fw (gH (tx g (nI (b + i)) (-1) d u v)) 206 12 11 (.int (v13 + (nI 1)))) fun h14 => fX12_eight_22 F 206 x1 K F' z2 (nI i + nI 1) z11 h14) = fX12_eight_22 F 206 x1 K F' z2 (nI (i + 1)) z11 (gH (tx g (nI (b + i + 1)) (-1) d u v)) := by
      intro z2 z11
      refine (bd_e ((fi_206_11 _).trans (congrArg some (tf11 ..)))).trans ?_
      refine (bd_e (fw_206_11 _ _)).trans ?_
      rw [tx_11, nI_add, nI_add]
    have N : (ab_jn (κ := Int32 → Option (Int32 × ab_H)) (fun (z12 : Int32) => ab_bd (ab_fi (gH (tx g (nI (b + i)) (-1) d u v)) 206 12 11) fun v13 => ab_bd (ab_fw (gH (tx g (nI (b + i)) (-1) d u v)) 206 12 11 (.int (v13 + (nI 1)))) fun h14 => fX12_eight_22 F 206 x1 K F' z12 (nI i + nI 1) (nI 0) h14) fun j15 => (if (nI 0 : Int32) = 0 then j15 q2 else ab_bd (ab_fi (gH (tx g (nI (b + i)) (-1) d u v)) 206 12 11) fun v17 => ab_ck (ab_io (gH (tx g (nI (b + i)) (-1) d u v)) 206 12 = true) (ab_bd (fX12_letter 206 v17 (gH (tx g (nI (b + i)) (-1) d u v))) fun v18 => (if v18 = (nI 49) then j15 (q2 ||| ((nI 1) <<< (nI i &&& 31))) else j15 q2)))) = fX12_eight_22 F 206 x1 K F' q2 (nI (i + 1)) (bI false) (gH (tx g (nI (b + i + 1)) (-1) d u v)) := by
      refine (jn_e _ _).trans ?_
      refine (if_pos nI_0).trans ?_
      exact A _ _
    cases q1
    · rw [if_neg (show ¬ ((false, q2).1 = true ∧ t (b + i) ≤ 49 ∧ i < 8) from fun h => by cases h.1)]
      refine (if_pos (bI_0.mpr rfl)).trans ?_
      exact N
    · refine (if_neg (show ¬ bI true = 0 by decide)).trans ?_
      refine (bd_e ((fi_206_11 _).trans (congrArg some (tf11 ..)))).trans ?_
      refine (ck_e (io_206 _)).trans ?_
      refine (bd_e l).trans ?_
      by_cases c4 : t (b + i) ≤ 49
      · refine (if_pos (nI_le c4 (by omega))).trans ?_
        by_cases c8 : i < 8
        · refine (if_pos (nI_lt c8 (by omega))).trans ?_
          rw [if_pos (show ((true, q2).1 = true ∧ t (b + i) ≤ 49 ∧ i < 8) from ⟨rfl, c4, c8⟩)]
          refine (jn_e _ _).trans ?_
          refine (if_neg (show ¬ (nI 1 : Int32) = 0 by decide)).trans ?_
          refine (bd_e ((fi_206_11 _).trans (congrArg some (tf11 ..)))).trans ?_
          refine (ck_e (io_206 _)).trans ?_
          refine (bd_e l).trans ?_
          by_cases c9 : t (b + i) = 49
          · rw [if_pos c9]
            refine (if_pos (by rw [c9])).trans ?_
            exact A _ _
          · rw [if_neg c9]
            refine (if_neg (fun h => c9 ((nI_eq (by omega) (by omega)).mp h))).trans ?_
            exact A _ _
        · refine (if_neg (fun h => c8 (by rw [nI_ltI (by omega) (by omega)] at h; exact h))).trans ?_
          rw [if_neg (show ¬ ((true, q2).1 = true ∧ t (b + i) ≤ 49 ∧ i < 8) from fun h => c8 h.2.2)]
          exact N
      · refine (if_neg (fun h => c4 (by rw [nI_leI (by omega) (by omega)] at h; exact h))).trans ?_
        rw [if_neg (show ¬ ((true, q2).1 = true ∧ t (b + i) ≤ 49 ∧ i < 8) from fun h => c4 h.2.1)]
        exact N
theorem rf_eight {g : gG} {t : Nat → Nat} {L : Nat} (H : Ltx g t L) (d u v : Int32) {a : Nat} (ha : a ≤ L) {F : Nat} (hF : 11000 < F) : ∃ x a', a' ≤ L ∧ fX12_eight F 206 (gH (tx g (nI a) (-1) d u v)) = if e8b t L (rn (bk t) L a) = true then some (e8v t (rn (bk t) L a), gH (tx g (nI (en t L (rn (bk t) L a))) (-1) d u v)) else some (x, gH (tx g (nI a') (nI (rn (bk t) L a)) d u v)) := by
  have h2 := H.2.1
  have pl := rf_place H (-1) d u v (show a < 1000 by omega) hF
  have bl := rn_le (P := bk t) (L := L) a ha
  generalize rn (bk t) L a = b at *
  have ge := rn_ge (P := dig t) (L := L) b
  have le := rn_le (P := dig t) (L := L) b bl
  have lp := fun K => rl_eight (F := F) H d u v (nI b) bl K (rn (dig t) L b - b) 0 F (by omega) (by omega)
  have ee := dig_en (t := t) (L := L) (b := b)
  have stop : ¬ (b < L ∧ dig t b = true) → rn (dig t) L b = b := rn_stop
  refine ⟨(e8p t b (rn (dig t) L b - b)).2, rn (dig t) L b, le, ?_⟩
  generalize rn (dig t) L b = E at *
  rw [show b + (0 + (E - b)) = E by omega, Nat.zero_add, Nat.add_zero] at lp
  unfold fX12_eight
  refine (bd_e ((fi_206_12 _).trans (congrArg some (tf12 ..)))).trans ?_
  refine (if_pos rfl).trans ?_
  refine (ck_e (io_206 _)).trans ?_
  refine (bd_e pl).trans ?_
  refine (lp _).trans ?_
  refine (jn_e _ _).trans ?_
  have W : (ab_ck (ab_io (gH (tx g (nI E) (-1) d u v)) 206 12 = true) (ab_bd (fX12_wrong 206 (nI b) (gH (tx g (nI E) (-1) d u v))) fun h31 => some ((e8p t b (E - b)).2, h31))) = some ((e8p t b (E - b)).2, gH (tx g (nI E) (nI b) d u v)) := by
    simp (disch := omega) only [fX12_wrong, fi_206_12, fw_206_12, bdS, ck_t, ck_T, cb_0, cb_1, ab_jn, if_true, if_false, tf9, tf10, tf11, tf12, tf13, tf15, tf16, tf17, tf18, tA, tx_11, tx_12, tx_13, tx_17, tx_18, io_206, ck_T, if_true]
  by_cases c : e8b t L b = true
  · rw [if_pos c]
    obtain ⟨c1, c3, c4⟩ := e8b_i.mp c
    have e1 := (ee c1).1
    have e8 : E - b = 8 := by omega
    rw [e8, c4]
    refine (if_neg (show ¬ bI true = 0 by decide)).trans ?_
    refine (if_pos rfl).trans ?_
    rw [e1]; rfl
  · rw [if_neg c]
    cases c4 : (e8p t b (E - b)).1
    · refine (if_pos (bI_0.mpr rfl)).trans ?_
      exact W
    · refine (if_neg (show ¬ bI true = 0 by decide)).trans ?_
      refine (if_neg (fun h => ?_)).trans W
      have e8 : E - b = 8 := (nI_eq (by omega) (by omega)).mp h
      have c1 : b < L ∧ dig t b = true := Decidable.byContradiction fun k => by have := stop k; omega
      exact c (e8b_i.mpr ⟨c1, by have := (ee c1).1; omega, by rw [← e8]; exact c4⟩)
theorem rf_eightW (g : gG) (a f d u v : Int32) (hf : ¬ f = -1) (F : Nat) : fX12_eight F 206 (gH (tx g a f d u v)) = some (nI 0, gH (tx g a f d u v)) := by
  unfold fX12_eight
  refine (bd_e ((fi_206_12 _).trans (congrArg some (tf12 ..)))).trans ?_
  exact if_neg hf
/-- the class -/
theorem cst_id (G : gG) : cst G (gF G 188 4) (gF G 194 2) (gF G 194 5) (gA G 195) = G := by
  unfold cst
  rw [sA_id]
  have e1 : sF G 194 5 (gF G 194 5) = G := sF_id _ _ _
  have e2 : sF G 194 2 (gF G 194 2) = G := sF_id _ _ _
  have e3 : sF G 188 4 (gF G 188 4) = G := sF_id _ _ _
  rw [e1, e2, e3]
theorem cst_i {G : gG} {i : Nat} (h : gF G 188 4 = nI i) : cst G (nI i) (gF G 194 2) (gF G 194 5) (gA G 195) = G := by rw [← h]; exact cst_id G
theorem cst_j (G : gG) (v : Int32) : cst G v (gF G 194 2) (gF G 194 5) (gA G 195) = sF G 188 4 v := by rw [← cs_i G (gF G 188 4), cst_id]
theorem dk_kh {G : gG} {t : Nat → Nat} {L Z i : Nat} (X : Cx G t L Z) (hi : i ≤ Z) (h4 : gF G 188 4 = nI i) : fX0_kindHere 188 (gH G) = some (kI (kd t L (psn t L i))) := by have := cl_kh X hi (gF G 194 2) (gF G 194 5) (gA G 195); rwa [cst_i h4] at this
theorem dk_bh {G : gG} {t : Nat → Nat} {L Z i : Nat} (X : Cx G t L Z) (hi : i ≤ Z) (h4 : gF G 188 4 = nI i) : fX0_beginHere 188 (gH G) = some (nI (psn t L i)) := by have := cl_bh X hi (gF G 194 2) (gF G 194 5) (gA G 195); rwa [cst_i h4] at this
theorem dk_go {G : gG} {t : Nat → Nat} {L Z i : Nat} (X : Cx G t L Z) (hi : i ≤ Z) (h4 : gF G 188 4 = nI i) : fX0_goOn 188 (gH G) = some (gH (sF G 188 4 (nI (gnx Z i)))) := by have := cl_go X hi (gF G 194 2) (gF G 194 5) (gA G 195); rwa [cst_i h4, cst_j] at this
theorem dk_nh {G : gG} {t : Nat → Nat} {L Z i : Nat} (X : Cx G t L Z) (hi : i ≤ Z) (h4 : gF G 188 4 = nI i) {F : Nat} (hF : 11000 < F) : fX0_numberHere F 188 (gH G) = some (kI (nmb t L (psn t L i))) := by have := cl_nh X hi (gF G 194 2) (gF G 194 5) (gA G 195) hF; rwa [cst_i h4] at this
theorem dk_ih {G : gG} {t : Nat → Nat} {L Z i : Nat} (X : Cx G t L Z) (hi : i ≤ Z) (h4 : gF G 188 4 = nI i) {k : Nat} (hk : k < 4000) : fX10_isHereD 192 (nI k) (gH G) = some (bI (decide (kd t L (psn t L i) = k))) := by
  have hbt : ∀ i, i < L → t i < 256 := fun i hi => (X.1.2.2 i hi).2
  have ke := kI_eq (m := k) (kd_lt1 (t := t) (L := L) (a := psn t L i) hbt) hk
  unfold fX10_isHereD
  refine (bd_e (fr_192_0 _)).trans ?_
  refine (ck_e (io_188 _)).trans ?_
  refine (bd_e (dk_kh X hi h4)).trans ?_
  by_cases c1 : kd t L (psn t L i) = k
  · rw [decide_eq_true c1]; exact if_pos (ke.mpr c1)
  · rw [decide_eq_false c1]; exact if_neg (fun h => c1 (ke.mp h))
theorem dk_ihE {G : gG} {t : Nat → Nat} {L Z i : Nat} (X : Cx G t L Z) (hi : i ≤ Z) (h4 : gF G 188 4 = nI i) : fX10_isHereD 192 (-1) (gH G) = some (bI (decide (kd t L (psn t L i) = 4000))) := by
  have hbt : ∀ i, i < L → t i < 256 := fun i hi => (X.1.2.2 i hi).2
  have ke := kI_m1 (kd_lt1 (t := t) (L := L) (a := psn t L i) hbt)
  unfold fX10_isHereD
  refine (bd_e (fr_192_0 _)).trans ?_
  refine (ck_e (io_188 _)).trans ?_
  refine (bd_e (dk_kh X hi h4)).trans ?_
  by_cases c1 : kd t L (psn t L i) = 4000
  · rw [decide_eq_true c1]; exact if_pos (ke.mpr c1)
  · rw [decide_eq_false c1]; exact if_neg (fun h => c1 (ke.mp h))
theorem dk_fh {G : gG} {t : Nat → Nat} {L Z i : Nat} (X : Cx G t L Z) (hi : i ≤ Z) (h4 : gF G 188 4 = nI i) {F : Nat} (hF : 11000 < F) : fX0_figuresHere F 188 (gH G) = some (if e8b t L (psn t L i) = true then e8v t (psn t L i) else -1) := by
  have hbt : ∀ i, i < L → t i < 256 := fun i hi => (X.1.2.2 i hi).2
  obtain ⟨q1, q2, q3, q4⟩ := X.at hi
  have ke := kI_eq (m := 256) (kd_lt1 (t := t) (L := L) (a := psn t L i) hbt) (by omega)
  have k6 := kd_256 (t := t) (L := L) (a := psn t L i) hbt
  have h2 := X.1.2.1
  have F4 : ab_fi (gH G) 188 0 4 = some (nI i) := (fi_188_4 _).trans (congrArg some h4)
  have A9 : ab_ia 0 (gH G) 189 (nI i) = some (kI (kd t L (psn t L i))) := (ia_189 _ q3).trans (congrArg some q1)
  have A0 : ab_ia 0 (gH G) 190 (nI i) = some (nI (psn t L i)) := (ia_190 _ q3).trans (congrArg some q2)
  unfold fX0_figuresHere
  refine (bd_e (fr_188_1 _)).trans ?_
  refine (bd_e F4).trans ?_
  refine (bd_e A9).trans ?_
  by_cases c1 : kd t L (psn t L i) = 256
  · obtain ⟨hl, hd⟩ := k6.mp c1
    have iz : i < Z := by
      apply Decidable.byContradiction
      intro h
      have e : i = Z := by omega
      rw [e, X.2.2.1] at hl; omega
    have q5 := (X.2.2.2.1 i iz).2.2.2
    have A1 : ab_ia 0 (gH G) 191 (nI i) = some (nI (en t L (psn t L i))) := (ia_191 _ q3).trans (congrArg some q5)
    have eg := en_gt (t := t) (L := L) (a := psn t L i)
    have el := en_le (t := t) hl
    refine (if_pos (ke.mpr c1)).trans ?_
    refine (bd_e (fr_188_3 _)).trans ?_
    refine (bd_e F4).trans ?_
    refine (bd_e A1).trans ?_
    refine (bd_e (fr_188_2 _)).trans ?_
    refine (bd_e F4).trans ?_
    refine (bd_e A0).trans ?_
    rw [pk_sub (by omega)]
    have ed := (dig_en ⟨hl, hd⟩).1
    have ins := rn_in (P := dig t) (L := L) (psn t L i)
    rw [← ed] at ins
    generalize psn t L i = p at *
    by_cases c3 : en t L p = p + 8
    · refine (if_pos (by rw [c3, Nat.add_sub_cancel_left])).trans ?_
      have lp : ∀ e j Fu, j + e = 8 → e < Fu → (e8p t p j).1 = true → fX0_figuresHere_45 188 (gH G) Fu (e8p t p j).2 (nI j) = some (if (e8p t p 8).1 = true then (e8p t p 8).2 else -1) := by
        have bad : ∀ j, (e8p t p j).1 = false → ∀ e, (e8p t p (j + e)).1 = false := by
          intro j h e
          induction e with
          | zero => exact h
          | succ e ih => rw [show j + (e + 1) = j + e + 1 from rfl, e8p_S, if_neg (fun h => by rw [ih] at h; cases h.1)]
        intro e
        induction e with
        | zero =>
          intro j Fu hj hFu h
          obtain ⟨F', rfl⟩ : ∃ F', Fu = F' + 1 := ⟨Fu - 1, by omega⟩
          have e : j = 8 := by omega
          subst e
          rw [h, fX0_figuresHere_45]
          exact if_neg (by decide)
        | succ e ih =>
          intro j Fu hj hFu h
          obtain ⟨F', rfl⟩ : ∃ F', Fu = F' + 1 := ⟨Fu - 1, by omega⟩
          have hj8 : j < 8 := by omega
          have c2 := of_decide_eq_true (ins (p + j) (by omega) (by omega))
          have tb := X.1.b (show p + j < L by omega)
          have sb : nI (t (p + j)) - nI 48 = nI (t (p + j) - 48) := pk_sub (by omega)
          rw [fX0_figuresHere_45]
          refine (if_pos (nI_lt hj8 (by omega))).trans ?_
          refine (bd_e (fr_188_0 _)).trans ?_
          refine (bd_e (fr_188_2 _)).trans ?_
          refine (bd_e F4).trans ?_
          refine (bd_e A0).trans ?_
          refine (ck_e (io_4 _)).trans ?_
          rw [nI_add]
          refine (bd_e tb).trans ?_
          rw [sb]
          by_cases c4 : t (p + j) ≤ 49
          · refine (if_pos (nI_le (by omega) (by decide))).trans ?_
            have e1 : e8p t p (j + 1) = (true, if t (p + j) = 49 then (e8p t p j).2 ||| (nI 1 <<< (nI j &&& 31)) else (e8p t p j).2) := by rw [e8p_S, if_pos ⟨h, c4, hj8⟩]
            have r := ih (j + 1) F' (by omega) (by omega) (by rw [e1])
            rw [← r, e1, nI_add]
            congr 1
            show _ = if _ then _ else _
            by_cases c9 : t (p + j) = 49
            · rw [if_pos c9, c9]
            · rw [if_neg c9, show t (p + j) - 48 = 0 by omega]
              have z : (nI 0 : Int32) <<< (nI j &&& 31) = nI 0 := by
                have : ∀ j, j < 8 → (nI 0 : Int32) <<< (nI j &&& 31) = nI 0 := by decide +kernel
                exact this j hj8
              rw [z, or_0]
          · refine (if_neg (fun h => by rw [nI_leI (by omega) (by omega)] at h; omega)).trans ?_
            have b1 : (e8p t p (j + 1)).1 = false := by rw [e8p_S, if_neg (fun h => c4 h.2.1)]
            have b2 := bad (j + 1) b1 e
            rw [show j + 1 + e = 8 by omega] at b2
            rw [b2]; rfl
      refine (lp 8 0 F (by omega) (by omega) rfl).trans ?_
      congr 1
      by_cases c5 : (e8p t p 8).1 = true
      · rw [if_pos c5, if_pos (show e8b t L p = true from e8b_i.mpr ⟨⟨hl, hd⟩, c3, c5⟩)]; rfl
      · rw [if_neg c5, if_neg (show ¬ e8b t L p = true from fun h => c5 (e8b_i.mp h).2.2)]
    · rw [if_neg (show ¬ e8b t L p = true from fun h => c3 (e8b_i.mp h).2.1)]
      exact if_neg (fun h => by rw [nI_eq (by omega) (by omega)] at h; omega)
  · rw [if_neg (show ¬ e8b t L (psn t L i) = true from fun h => c1 (k6.mpr (e8b_i.mp h).1))]
    exact if_neg (fun h => c1 (ke.mp h))
