variable {Nq : Nat}
/-! ===== canBe ===== -/
theorem cn_one {o : Nat → Int32} {n r f f' : Nat} (h : cn o n r ≤ 1) (hf : f < n) (hf' : f' < n) (e : o f = nI r) (e' : o f' = nI r) : f = f' := by
  have one : ∀ a, a < n → o a = nI r → fb_ct (fun f => decide (o f = nI r)) a = 0 := fun a ha ea => by
    have h1 := fb_ct_mono (fun f => decide (o f = nI r)) (show a + 1 ≤ n by omega)
    rw [fb_ct_succ] at h1
    have : (decide (o a = nI r)) = true := decide_eq_true ea
    simp only [this, if_true] at h1
    unfold cn at h
    omega
  exact fb_ct_kth_one (p := fun f => decide (o f = nI r)) (decide_eq_true e) (decide_eq_true e') (by rw [one f hf e, one f' hf' e'])
def pth (o : Nat → Int32) (σ : Nat → Nat) (i : Nat) : Nat → Nat
  | 0 => i
  | j + 1 => nv (o (σ (pth o σ i j)))
theorem hall {al o : Nat → Int32} {n i T : Nat} (h10 : n ≤ 10) (hi : i < n) (hc : ∀ r, r < n → cn o n r = if r < i then 1 else 0) (ha : ∀ f, f < n → bt (al i) f = true → T.testBit f = true) (hcl : clo al o n 0 T) : ¬ AM al n := by
  rintro ⟨σ, s1, s2⟩
  have inv : ∀ j, pth o σ i j < n ∧ ∀ f, f < n → bt (al (pth o σ i j)) f = true → T.testBit f = true := by
    intro j
    induction j with
    | zero => exact ⟨hi, ha⟩
    | succ j ih =>
      obtain ⟨t1, t2⟩ := s1 _ ih.1
      obtain ⟨q, hq, eq, aq⟩ := hcl _ t1 (ih.2 _ t1 t2) (Nat.zero_testBit _)
      show nv (o (σ (pth o σ i j))) < n ∧ ∀ f, f < n → bt (al (nv (o (σ (pth o σ i j))))) f = true → _
      rw [eq, nv_nI (by omega)]
      exact ⟨hq, aq⟩
  have own : ∀ j, o (σ (pth o σ i j)) = nI (pth o σ i (j + 1)) := fun j => by
    obtain ⟨t1, t2⟩ := s1 _ (inv j).1
    obtain ⟨q, hq, eq, aq⟩ := hcl _ t1 ((inv j).2 _ t1 t2) (Nat.zero_testBit _)
    show _ = nI (nv (o (σ (pth o σ i j))))
    rw [eq, nv_nI (by omega)]
  have dis : ∀ a b, a < b → σ (pth o σ i a) ≠ σ (pth o σ i b) := by
    intro a
    induction a with
    | zero =>
      intro b hb e
      obtain ⟨b', rfl⟩ : ∃ b', b = b' + 1 := ⟨b - 1, by omega⟩
      have e1 := s2 _ _ (inv 0).1 (inv (b' + 1)).1 e
      have e2 := own b'
      rw [← e1] at e2
      have h0 := hc i hi
      rw [if_neg (Nat.lt_irrefl i)] at h0
      have := fb_ct_zero.mp h0 _ (s1 _ (inv b').1).1
      simp only [decide_eq_false_iff_not] at this
      exact this e2
    | succ a ih =>
      intro b hb e
      obtain ⟨b', rfl⟩ : ∃ b', b = b' + 1 := ⟨b - 1, by omega⟩
      have e1 := s2 _ _ (inv (a + 1)).1 (inv (b' + 1)).1 e
      have o1 := own a
      have o2 := own b'
      rw [← e1] at o2
      refine ih b' (by omega) (cn_one (r := pth o σ i (a + 1)) ?_ (s1 _ (inv a).1).1 (s1 _ (inv b').1).1 o1 o2)
      rw [hc _ (inv (a + 1)).1]
      split <;> omega
  have := fb_holes n (n + 1) (fun j => σ (pth o σ i j)) (fun j _ => (s1 _ (inv j).1).1) (fun a b h _ => dis a b h)
  omega
theorem full_AM {al o : Nat → Int32} {n : Nat} (h10 : n ≤ 10) (hc : ∀ r, r < n → cn o n r = 1) (ho : okO al o n) : AM al n := by
  have ex : ∀ r, ∃ f, r < n → f < n ∧ o f = nI r := fun r => by
    by_cases c : r < n
    · have h1 := hc r c
      obtain ⟨f, hf, e⟩ := fb_ct_pos.mp (show 0 < fb_ct (fun f => decide (o f = nI r)) n by unfold cn at h1; omega)
      exact ⟨f, fun _ => ⟨hf, of_decide_eq_true e⟩⟩
    · exact ⟨0, fun h => absurd h c⟩
  refine ⟨fun r => Classical.choose (ex r), fun p hp => ?_, fun p q hp hq e => ?_⟩
  · obtain ⟨a, b⟩ := Classical.choose_spec (ex p) hp
    refine ⟨a, ?_⟩
    rcases ho _ a with k | ⟨r, hr, er, br⟩
    · rw [b] at k; exact absurd k (fun e => (m1_ne (by omega)).mp e)
    · rw [b, nI_eq (by omega) (by omega)] at er
      subst er; exact br
  · obtain ⟨a, b⟩ := Classical.choose_spec (ex p) hp
    obtain ⟨a', b'⟩ := Classical.choose_spec (ex q) hq
    have e : Classical.choose (ex p) = Classical.choose (ex q) := e
    rw [e, b'] at b
    exact ((nI_eq (by omega) (by omega)).mp b).symm
theorem cl_can15 {g : gG} {n : Nat} (hn : gF g 196 6 = nI n) (h10 : n ≤ 10) {F : Nat} (hF : 11000 < F) : ∀ m i o T Fu, i + m = n → m < Fu → okO (gA g 200) o n → (∀ r, r < n → cn o n r = if r < i then 1 else 0) → ∃ b o' T', fX7_canBe_15 F 196 Fu (nI i) (gH (kst g o T)) = some (bI b, gH (kst g o' T')) ∧ (b = true ↔ AM (gA g 200) n) := by
  have f6 : ∀ o T, gF (kst g o T) 196 6 = nI n := fun o T => hn
  have w8 : ∀ o T T', sF (kst g o T) 196 8 (nI T') = kst g o T' := fun o T T' => by unfold kst; rw [sF_sF]
  intro m
  induction m with
  | zero =>
    intro i o T Fu hi hFu ho hc
    obtain ⟨F', rfl⟩ : ∃ F', Fu = F' + 1 := ⟨Fu - 1, by omega⟩
    have e : i = n := by omega
    subst e
    refine ⟨true, o, T, ?_, fun _ => full_AM h10 (fun r hr => by rw [hc r hr, if_pos hr]) ho, fun _ => rfl⟩
    simp (disch := omega) only [fX7_canBe_15, io_196, fi_196_6, fw_196_8, bdS, ck_t, ck_T, cb_0, cb_1, ab_jn, if_true, if_false, f6, Nat.lt_irrefl, nI_ltI, if_false]
    rfl
  | succ m ih =>
    intro i o T Fu hi hFu ho hc
    obtain ⟨F', rfl⟩ : ∃ F', Fu = F' + 1 := ⟨Fu - 1, by omega⟩
    have hin : i < n := by omega
    have u0 : un 0 n ≤ n := fb_ct_le _ _
    obtain ⟨b, o', T', e, q1, q2, q3, q4⟩ := cl_finds hn h10 hF 11 i 0 o 0 hin (by omega) ho (by omega) (by omega)
    have e' : fX7_findsFaceT F 196 (nI i) (nI 0) (gH (kst g o 0)) = some (bI b, gH (kst g o' T')) := e
    cases b
    · obtain ⟨eo, qa, qc⟩ := q4 rfl
      subst eo
      refine ⟨false, o', T', ?_, (fun h => by cases h), fun h => absurd h (hall h10 hin hc qa qc)⟩
      simp (disch := omega) only [fX7_canBe_15, io_196, fi_196_6, fw_196_8, bdS, ck_t, ck_T, cb_0, cb_1, ab_jn, if_true, if_false, f6, w8, hin, e', bI_0, nI_ltI, if_true]
      rfl
    · obtain ⟨qa, qb, qc⟩ := q3 rfl
      obtain ⟨b2, o2, T2, e2, k⟩ := ih (i + 1) o' T' F' (by omega) (by omega) qa (fun r hr => by
        rw [qc r hr, hc r hr]
        by_cases c1 : r < i
        · rw [if_pos c1, if_neg (by omega), if_pos (by omega)]
        · rw [if_neg c1]
          by_cases c2 : r = i
          · rw [if_pos c2, if_pos (by omega)]
          · rw [if_neg c2, if_neg (by omega)])
      refine ⟨b2, o2, T2, ?_, k⟩
      simp (disch := omega) only [fX7_canBe_15, io_196, fi_196_6, fw_196_8, bdS, ck_t, ck_T, cb_0, cb_1, ab_jn, if_true, if_false, f6, w8, hin, e', bI_0, nI_ltI, nI_add, if_true, if_false, reduceCtorEq]
      exact e2
def ovX (sa sb sc : Nat → Nat) (n z : Nat) (x : Int32) : Int32 := ov (alw sa sb sc x (fun _ => nI (2 ^ n - 1)) z) n (fun _ => nI 1) (2 ^ n - 1)
theorem AM_cg {al al' : Nat → Int32} {n : Nat} (h : ∀ p, p < n → al p = al' p) : AM al n ↔ AM al' n := by
  constructor
  · rintro ⟨σ, s1, s2⟩; exact ⟨σ, fun p hp => by rw [← h p hp]; exact s1 p hp, s2⟩
  · rintro ⟨σ, s1, s2⟩; exact ⟨σ, fun p hp => by rw [h p hp]; exact s1 p hp, s2⟩
theorem Sd.k {g : gG} {n z : Nat} {sa sb sc : Nat → Nat} (S : Sd g n z sa sb sc) (W O : Nat → Int32) (T : Nat) : Sd (kst (sA g 200 W) O T) n z sa sb sc := by
  have := (S.a (a := 200) (f := W) (by omega)).a (a := 201) (f := O) (by omega)
  obtain ⟨s1, s2, s3, s4, s5⟩ := this
  exact ⟨s1, s2, s3, s4, s5⟩
theorem kst_2 (g : gG) (W W' O O' : Nat → Int32) (T T' : Nat) : kst (sA (kst (sA g 200 W) O T) 200 W') O' T' = kst (sA g 200 W') O' T' := by
  unfold kst
  rw [sA_sF, sA_sF, sF_sF, sA_comm _ (show 201 ≠ 200 by omega), sA_sA, sA_sA]
theorem cl_canBe {g : gG} {n z : Nat} {sa sb sc : Nat → Nat} (S : Sd g n z sa sb sc) (h10 : n ≤ 10) (x : Int32) {F : Nat} (hF : 11000 < F) : ∃ W O T, fX7_canBe F 196 x (gH g) = some (bI (!decide (ovX sa sb sc n z x = nI 0)), gH (kst (sA g 200 W) O T)) := by
  have h1 := cl_allowBy S h10 x hF
  have hW : ∀ p, p < n → alw sa sb sc x (fun q => if q < 10 then nI (2 ^ n - 1) else gA g 200 q) z p = alw sa sb sc x (fun _ => nI (2 ^ n - 1)) z p := fun p hp => by
    obtain ⟨_, _, _, _, hd⟩ := S
    exact alw_cg (n := n) (fun i hi => (hd i hi).1) (fun p hp => if_pos (by omega)) z (Nat.le_refl _) p hp
  generalize alw sa sb sc x (fun q => if q < 10 then nI (2 ^ n - 1) else gA g 200 q) z = W at h1 hW
  have h2 := cl_fill201 (sA g 200 W) (-1) hF
  obtain ⟨o, eo⟩ : ∃ o, (fun q => if q < 10 then (-1 : Int32) else gA (sA g 200 W) 201 q) = o := ⟨_, rfl⟩
  have ho : ∀ f, f < n → o f = -1 := fun f hf => by rw [← eo]; exact if_pos (by omega)
  rw [eo] at h2
  have hn : gF g 196 6 = nI n := S.2.1
  have t8 : sA (sA g 200 W) 201 o = kst (sA g 200 W) o (nv (gF g 196 8)) := by
    unfold kst
    rw [nI_nv]
    exact (sF_id _ _ _).symm
  obtain ⟨b, o', T', e, k⟩ := cl_can15 (g := sA g 200 W) (n := n) hn h10 hF n 0 o (nv (gF g 196 8)) F (by omega) (by omega) (fun f hf => Or.inl (ho f hf)) (fun r hr => by
    rw [if_neg (Nat.not_lt_zero r)]
    refine fb_ct_zero.mpr (fun f hf => decide_eq_false ?_)
    rw [ho f hf]
    exact fun e => (m1_ne (show r < 2 ^ 31 by omega)).mp e.symm)
  rw [gA_sA1, AM_cg hW] at k
  have hv := ov_AM (al := alw sa sb sc x (fun _ => nI (2 ^ n - 1)) z) h10
  have eb : b = !decide (ovX sa sb sc n z x = nI 0) := by
    unfold ovX
    cases b
    · rw [decide_eq_true (hv.mpr (fun h => by cases k.mpr h))]; rfl
    · rw [decide_eq_false (fun h => hv.mp h (k.mp rfl))]; rfl
  refine ⟨W, o', T', ?_⟩
  rw [← eb]
  simp (disch := omega) only [fX7_canBe, io_196, fr_196_4, bdS, ck_t, ck_T, cb_0, cb_1, ab_jn, if_true, if_false, h1, h2, t8]
  exact e
theorem cl_fewest {g : gG} {n z : Nat} {sa sb sc : Nat → Nat} (S : Sd g n z sa sb sc) (h10 : n ≤ 10) {F : Nat} (hF : 11000 < F) : ∃ W O T, fX7_fewestApart F 196 (gH g) = some (if ov0 sa sb sc n z = nI 0 then few (fun s => decide (ovX sa sb sc n z (nI s) = nI 0)) (2 ^ z) else nI 0, gH (kst (sA g 200 W) O T)) := by
  have z12 : z ≤ 12 := S.1
  have hz : gF g 196 7 = nI z := S.2.2.1
  have hp : 2 ^ z ≤ 2 ^ 12 := Nat.pow_le_pow_right (by decide) z12
  have hq : 1 ≤ 2 ^ z := Nat.one_le_two_pow
  have s1 := sh1 (k := z) (by omega)
  have e1 : nI (2 ^ z) - nI 1 = nI (2 ^ z - 1) := pk_sub hq
  have e0 : ovX sa sb sc n z (nI (2 ^ z - 1)) = ov0 sa sb sc n z := by
    unfold ovX ov0 al0
    rw [alw_x (x := nI (2 ^ z - 1)) (y := nI 4095) z (fun i hi => by rw [bt_all z (by omega) i (by omega) hi, bt_4095 i (by omega)])]
  obtain ⟨W, O, T, h1⟩ := cl_canBe S h10 (nI (2 ^ z - 1)) hF
  rw [e0] at h1
  by_cases c : ov0 sa sb sc n z = nI 0
  · rw [if_pos c]
    rw [decide_eq_true c] at h1
    have q0 : decide (ovX sa sb sc n z (nI 0) = nI 0) = false := by
      refine decide_eq_false (fun h => ?_)
      have e : alw sa sb sc (nI 0) (fun _ => nI (2 ^ n - 1)) z = fun _ => nI (2 ^ n - 1) := by
        have : ∀ i, alw sa sb sc (nI 0) (fun _ => nI (2 ^ n - 1)) i = fun _ => nI (2 ^ n - 1) := by
          intro i
          induction i with
          | zero => rfl
          | succ i ih =>
            rw [alw_S, if_neg, ih]
            rw [bt_nI, Nat.zero_testBit, Bool.and_false]; decide
        exact this z
      unfold ovX at h
      rw [e] at h
      refine (ov_AM h10).mp h ⟨fun p => p, fun p hp => ⟨hp, ?_⟩, fun p q _ _ e => e⟩
      show bt (nI (2 ^ n - 1)) p = true
      rw [bt_nI' (by omega), Nat.testBit_two_pow_sub_one]; exact decide_eq_true hp
    have f1 : few (fun s => decide (ovX sa sb sc n z (nI s) = nI 0)) 1 = -1 := by
      rw [few_S, if_neg (by rw [q0]; exact fun h => by cases h.2)]; rfl
    have h2 := lpE (L := fun F' i (a : Int32 × gG) => fX7_fewestApart_23 F 196 (nI (2 ^ z - 1)) F' a.1 i (gH a.2)) (n := 2 ^ z) (fun i a => a.1 = few (fun s => decide (ovX sa sb sc n z (nI s) = nI 0)) i ∧ ∃ W O T, a.2 = kst (sA g 200 W) O T) (fun a => some (a.1, gH a.2)) ?_ ?_ F 1 (-1, kst (sA g 200 W) O T) (by omega) (by omega) ⟨f1.symm, W, O, T, rfl⟩
    · obtain ⟨⟨b1, b2⟩, ⟨eb, W', O', T', e2⟩, hb⟩ := h2
      refine ⟨W', O', T', ?_⟩
      simp (disch := omega) only [fX7_fewestApart, io_196, fi_196_7, bdS, ck_t, ck_T, cb_0, cb_1, ab_jn, if_true, if_false, hz, s1, e1, h1, Bool.not_true, bI_0, if_true]
      rw [← e2, ← eb]
      exact hb
    · rintro F' i ⟨b1, b2⟩ hi ⟨eb, W1, O1, T1, e2⟩
      obtain rfl : b1 = _ := eb
      obtain rfl : b2 = _ := e2
      obtain ⟨W2, O2, T2, h3⟩ := cl_canBe (S.k W1 O1 T1) h10 (nI i) hF
      rw [kst_2] at h3
      have hw := few_m1 (fun s => decide (ovX sa sb sc n z (nI s) = nI 0)) i
      have hw : few (fun s => decide (ovX sa sb sc n z (nI s) = nI 0)) i = -1 ∨ ∃ t, t < 4096 ∧ few (fun s => decide (ovX sa sb sc n z (nI s) = nI 0)) i = nI t := hw.imp id (fun ⟨t, h1, h2⟩ => ⟨t, by omega, h2⟩)
      have le : nI i ≤ nI (2 ^ z - 1) := nI_le (by omega) (by omega)
      have isf := cl_isFewer (gH (kst (sA g 200 W1) O1 T1)) (show i < 4096 by omega) hw
      by_cases c0 : few (fun s => decide (ovX sa sb sc n z (nI s) = nI 0)) i = -1 ∨ pc (nI i) < pc (few (fun s => decide (ovX sa sb sc n z (nI s) = nI 0)) i)
      · by_cases c2 : ovX sa sb sc n z (nI i) = nI 0
        · refine ⟨(few (fun s => decide (ovX sa sb sc n z (nI s) = nI 0)) (i + 1), kst (sA g 200 W2) O2 T2), ⟨rfl, W2, O2, T2, rfl⟩, ?_⟩
          rw [few_S, if_pos ⟨c0, decide_eq_true c2⟩]
          rw [decide_eq_true c2] at h3
          rw [decide_eq_true c0] at isf
          simp (disch := omega) only [fX7_fewestApart_23, io_196, bdS, ck_t, ck_T, cb_0, cb_1, ab_jn, if_true, if_false, le, isf, h3, bI_0, Bool.not_true, nI_add, if_true, if_false, reduceCtorEq]
        · refine ⟨(few (fun s => decide (ovX sa sb sc n z (nI s) = nI 0)) (i + 1), kst (sA g 200 W2) O2 T2), ⟨rfl, W2, O2, T2, rfl⟩, ?_⟩
          rw [few_S, if_neg (fun h => c2 (of_decide_eq_true h.2))]
          rw [decide_eq_false c2] at h3
          rw [decide_eq_true c0] at isf
          simp (disch := omega) only [fX7_fewestApart_23, io_196, bdS, ck_t, ck_T, cb_0, cb_1, ab_jn, if_true, if_false, le, isf, h3, bI_0, Bool.not_false, nI_add, if_true, if_false, reduceCtorEq]
      · refine ⟨(few (fun s => decide (ovX sa sb sc n z (nI s) = nI 0)) (i + 1), kst (sA g 200 W1) O1 T1), ⟨rfl, W1, O1, T1, rfl⟩, ?_⟩
        rw [few_S, if_neg (fun h => c0 h.1)]
        rw [decide_eq_false c0] at isf
        simp (disch := omega) only [fX7_fewestApart_23, io_196, bdS, ck_t, ck_T, cb_0, cb_1, ab_jn, if_true, if_false, le, isf, bI_0, nI_add, if_true, if_false, reduceCtorEq]
    · rintro F' ⟨b1, b2⟩ ⟨eb, W1, O1, T1, e2⟩
      have le : ¬ nI (2 ^ z) ≤ nI (2 ^ z - 1) := nI_ge (by omega) (by omega)
      simp (disch := omega) only [fX7_fewestApart_23, io_196, bdS, ck_t, ck_T, cb_0, cb_1, ab_jn, if_true, if_false, le, if_false]
  · refine ⟨W, O, T, ?_⟩
    rw [if_neg c]
    rw [decide_eq_false c] at h1
    simp (disch := omega) only [fX7_fewestApart, io_196, fi_196_7, bdS, ck_t, ck_T, cb_0, cb_1, ab_jn, if_true, if_false, hz, s1, e1, h1, Bool.not_false, bI_0, if_false, reduceCtorEq]
theorem rf_few (g : gG) {n : Nat} (hn : gA g 207 3 = nI n) (h10 : n ≤ 10) {F : Nat} (hF : 11000 < F) {z : Nat} {sa sb sc : Nat → Nat} (S : Sq g n z sa sb sc) : ∃ M O, fX12_clash_41 F 206 F (-1) (nI 0) (gH g) = some (few (fun s => decide (ovX sa sb sc n z (nI s) = nI 0)) (2 ^ z), gH (sA (sA g 214 M) 215 O)) := by
  have z12 : z ≤ 12 := S.1
  have hp : 2 ^ z ≤ 2 ^ 12 := Nat.pow_le_pow_right (by decide) z12
  have hp' : 2 ^ z ≤ 4096 := hp
  have s1 := sh1 (k := z) (by omega)
  have hS : ∀ W O, Sq (sA (sA g 214 W) 215 O) n z sa sb sc := fun W O => (S.a (by omega)).a (by omega)
  have hz : ∀ W O, gF (sA (sA g 214 W) 215 O) 206 20 = nI z := fun W O => S.2.2.2.1
  have hn7 : ∀ W O, gA (sA (sA g 214 W) 215 O) 207 3 = nI n := fun W O => by rw [gA_sA2 _ _ (by omega), gA_sA2 _ _ (by omega)]; exact hn
  have eid : sA (sA g 214 (gA g 214)) 215 (gA g 215) = g := by rw [sA_id, sA_id]
  have h2 := lpE (L := fun F' i (a : Int32 × gG) => fX12_clash_41 F 206 F' a.1 i (gH a.2)) (n := 2 ^ z) (fun i a => a.1 = few (fun s => decide (ovX sa sb sc n z (nI s) = nI 0)) i ∧ ∃ W O, a.2 = sA (sA g 214 W) 215 O) (fun a => some (a.1, gH a.2)) ?_ ?_ F 0 (-1, g) (Nat.zero_le _) (by omega) ⟨rfl, _, _, eid.symm⟩
  · obtain ⟨⟨b1, b2⟩, ⟨eb, W', O', e2⟩, hb⟩ := h2
    refine ⟨W', O', ?_⟩
    rw [← e2, ← eb]
    exact hb
  · rintro F' i ⟨b1, b2⟩ hi ⟨eb, W1, O1, e2⟩
    obtain rfl : b1 = _ := eb
    obtain rfl : b2 = _ := e2
    obtain ⟨W2, O2, h3, _⟩ := rf_owned _ (hn7 W1 O1) h10 hF (hS W1 O1) (nI i)
    have e5 : sA (sA (sA (sA g 214 W1) 215 O1) 214 W2) 215 O2 = sA (sA g 214 W2) 215 O2 := by
      rw [sA_comm _ (show 215 ≠ 214 by omega), sA_sA, sA_sA]
    rw [e5] at h3
    have h3 : fX12_owned F 206 (nI i) (gH (sA (sA g 214 W1) 215 O1)) = some (ovX sa sb sc n z (nI i), gH (sA (sA g 214 W2) 215 O2)) := h3
    have zz := hz W1 O1
    have n0 : (ovX sa sb sc n z (nI i) = 0) ↔ ovX sa sb sc n z (nI i) = nI 0 := by rw [nI_0]
    by_cases c0 : few (fun s => decide (ovX sa sb sc n z (nI s) = nI 0)) i = -1 ∨ pc (nI i) < pc (few (fun s => decide (ovX sa sb sc n z (nI s) = nI 0)) i)
    · refine ⟨(few (fun s => decide (ovX sa sb sc n z (nI s) = nI 0)) (i + 1), sA (sA g 214 W2) 215 O2), ⟨rfl, W2, O2, rfl⟩, ?_⟩
      rw [few_S]
      by_cases c1 : few (fun s => decide (ovX sa sb sc n z (nI s) = nI 0)) i = -1
      · by_cases c2 : ovX sa sb sc n z (nI i) = nI 0
        · rw [if_pos ⟨c0, decide_eq_true c2⟩]
          simp (disch := omega) only [fX12_clash_41, io_206, fi_206_20, bdS, ck_t, ck_T, cb_0, cb_1, ab_jn, if_true, if_false, zz, s1, hi, c1, h3, n0, c2, nI_ltI, nI_add, if_true, if_false]
          rw [if_pos nI_0]
        · rw [if_neg (fun h => c2 (of_decide_eq_true h.2))]
          simp (disch := omega) only [fX12_clash_41, io_206, fi_206_20, bdS, ck_t, ck_T, cb_0, cb_1, ab_jn, if_true, if_false, zz, s1, hi, c1, h3, n0, c2, nI_ltI, nI_add, if_true, if_false]
      · have c3 := c0.resolve_left c1
        by_cases c2 : ovX sa sb sc n z (nI i) = nI 0
        · rw [if_pos ⟨c0, decide_eq_true c2⟩]
          simp (disch := omega) only [fX12_clash_41, io_206, fi_206_20, bdS, ck_t, ck_T, cb_0, cb_1, ab_jn, if_true, if_false, zz, s1, hi, c1, rf_bits _ _ hF, pc_nlt, c3, h3, n0, c2, nI_ltI, nI_add, if_true, if_false]
          rw [if_pos nI_0]
        · rw [if_neg (fun h => c2 (of_decide_eq_true h.2))]
          simp (disch := omega) only [fX12_clash_41, io_206, fi_206_20, bdS, ck_t, ck_T, cb_0, cb_1, ab_jn, if_true, if_false, zz, s1, hi, c1, rf_bits _ _ hF, pc_nlt, c3, h3, n0, c2, nI_ltI, nI_add, if_true, if_false]
    · refine ⟨(few (fun s => decide (ovX sa sb sc n z (nI s) = nI 0)) (i + 1), sA (sA g 214 W1) 215 O1), ⟨rfl, W1, O1, rfl⟩, ?_⟩
      rw [few_S, if_neg (fun h => c0 h.1)]
      have c1 : ¬ few (fun s => decide (ovX sa sb sc n z (nI s) = nI 0)) i = -1 := fun h => c0 (Or.inl h)
      have c3 : ¬ pc (nI i) < pc (few (fun s => decide (ovX sa sb sc n z (nI s) = nI 0)) i) := fun h => c0 (Or.inr h)
      simp (disch := omega) only [fX12_clash_41, io_206, fi_206_20, bdS, ck_t, ck_T, cb_0, cb_1, ab_jn, if_true, if_false, zz, s1, hi, c1, rf_bits _ _ hF, pc_nlt, c3, nI_ltI, nI_add, if_true, if_false]
  · rintro F' ⟨b1, b2⟩ ⟨eb, W1, O1, e2⟩
    obtain rfl : b2 = _ := e2
    have zz := hz W1 O1
    simp (disch := omega) only [fX12_clash_41, io_206, fi_206_20, bdS, ck_t, ck_T, cb_0, cb_1, ab_jn, if_true, if_false, zz, s1, Nat.lt_irrefl, nI_ltI, if_false]
theorem ca_clash {g : gG} (R : RE Nq g) {F : Nat} (hF : 11000 < F) : Ca Nq (fX11_clash F 0 (gH g)) (fun g1 => fX12_clash F 206 (gH g1)) [eAr] := by
  have R0 := R
  obtain ⟨n, k, s, f, R⟩ := R
  have S := R.1
  have V := S.1
  obtain ⟨rn, h10, rk, h12⟩ := R.rv
  have W := V
  obtain ⟨hx, hn, _, hk, _, e3, e4, e5, e6, e7, e8, e11, e9, e10⟩ := W
  have hs : s ≤ 12 := R.2.1.1
  obtain ⟨L, t, g0, l4, h8, ht, c1, hc, hd⟩ := heardC R hF
  obtain ⟨g1, eg1⟩ : ∃ g1, sF g0 4 1 (nI 0) = g1 := ⟨_, rfl⟩
  rw [eg1] at hc hd
  have q4 : gF g1 4 1 = nI 0 := by rw [← eg1, gF_sF1, upd_1]
  cases hg : gdS (gA g 211) n L
  · obtain ⟨g2, r1, r2, r3, r4, r5⟩ := heardR R hc l4 h8 ht q4 hF
    rw [hg] at c1 r1
    refine ⟨.inr eAr, g1, nI 0, sF g2 206 0 (nI 1), ?_, ?_, ⟨0, by decide, rfl, by rw [gF_sF1, upd_1]⟩, Sh.thr R r2 r3 r4 _⟩
    · simp (disch := first | omega | assumption | exact isSt6 | exact isSt18 | exact isSt30) only [fX11_clash, io_196, fr_0_7, fr_0_0, fr_0_1, fi_s0, fw_4_1, bdS, ck_t, ck_T, cb_0, cb_1, ab_jn, if_true, if_false, fi_s0, hn, c1, eg1, cl_needTold, bx_r, reduceCtorEq, m1_ne, and_true, true_and, and_false, false_and, not_true_eq_false, not_false_eq_true, ne_eq, decide_true, decide_false, Bool.false_eq_true, ite_true, ite_false, if_true, if_false, Nat.add_zero, Bool.and_true, Bool.true_and, Bool.and_false, Bool.false_and, Bool.or_true, Bool.true_or, Bool.or_false, Bool.false_or, decide_not, Bool.not_true, Bool.not_false, or_true, true_or, or_false, false_or, or_self, and_self, decide_eq_true_eq]
    · simp (disch := first | omega | assumption | exact isSt6 | exact isSt18 | exact isSt30) only [fX12_clash, io_206, fw_206_0, fi_206_0, bdS, ck_t, ck_T, cb_0, cb_1, ab_jn, if_true, if_false, r1, bI_0, gF_sF1, upd_1, nI10, reduceCtorEq, m1_ne, and_true, true_and, and_false, false_and, not_true_eq_false, not_false_eq_true, ne_eq, decide_true, decide_false, Bool.false_eq_true, ite_true, ite_false, if_true, if_false, Nat.add_zero, Bool.and_true, Bool.true_and, Bool.and_false, Bool.false_and, Bool.or_true, Bool.true_or, Bool.or_false, Bool.false_or, decide_not, Bool.not_true, Bool.not_false, or_true, true_or, or_false, false_or, or_self, and_self, decide_eq_true_eq]
  · rw [hg] at c1
    have D := hd hg
    obtain ⟨W, O, T, o1⟩ := cl_fewest D h10 hF
    have hk : Shc g (kst (sA g1 200 W) O T) := ((hc.a (x := 200) (by omega)).a (x := 201) (by omega)).f (Or.inr rfl)
    have k4 : gF (kst (sA g1 200 W) O T) 4 1 = nI 0 := by unfold kst; rw [gF_sF2 _ _ (by omega)]; exact q4
    obtain ⟨g2, r1, r2, r3, r4, r5⟩ := heardR (g1 := kst (sA g1 200 W) O T) R hk l4 h8 ht k4 hF
    rw [hg] at r1
    have n7 : gA (sF g2 206 0 (nI 0)) 207 3 = nI n := by rw [gA_sF]; exact r2.n rn
    have Q := (r5 hg).f (k := 0) (v := nI 0) (by omega)
    obtain ⟨M, O', r6, _⟩ := rf_ownedAll (sF g2 206 0 (nI 0)) (n := n) n7 h10 hF Q
    by_cases c : ov0 (fun i => t (3 * i)) (fun i => t (3 * i + 1)) (fun i => t (3 * i + 2)) n (L / 3) = nI 0
    · rw [if_pos c] at o1
      obtain ⟨M2, O2, r7⟩ := rf_few (sA (sA (sF g2 206 0 (nI 0)) 214 M) 215 O') (n := n) n7 h10 hF ((Q.a (by omega)).a (by omega))
      have e5 : sA (sA (sA (sA (sF g2 206 0 (nI 0)) 214 M) 215 O') 214 M2) 215 O2 = sA (sA (sF g2 206 0 (nI 0)) 214 M2) 215 O2 := by
        rw [sA_comm _ (show 215 ≠ 214 by omega), sA_sA, sA_sA]
      rw [e5] at r7
      refine Ca_ok (g1 := kst (sA g1 200 W) O T) (g2 := sA (sA (sF g2 206 0 (nI 0)) 214 M2) 215 O2) (few (fun s => decide (ovX (fun i => t (3 * i)) (fun i => t (3 * i + 1)) (fun i => t (3 * i + 2)) n (L / 3) (nI s) = nI 0)) (2 ^ (L / 3))) ?_ ?_ (by rw [gF_sA, gF_sA, gF_sF1, upd_1]) (Sh.end R r2 r3 r4 _ _ _)
      · simp (disch := first | omega | assumption | exact isSt6 | exact isSt18 | exact isSt30) only [fX11_clash, io_196, fr_0_7, fr_0_0, fr_0_1, fi_s0, fw_4_1, bdS, ck_t, ck_T, cb_0, cb_1, ab_jn, if_true, if_false, fi_s0, hn, c1, eg1, cl_needTold, bx_l, o1, reduceCtorEq, m1_ne, and_true, true_and, and_false, false_and, not_true_eq_false, not_false_eq_true, ne_eq, decide_true, decide_false, Bool.false_eq_true, ite_true, ite_false, if_true, if_false, Nat.add_zero, Bool.and_true, Bool.true_and, Bool.and_false, Bool.false_and, Bool.or_true, Bool.true_or, Bool.or_false, Bool.false_or, decide_not, Bool.not_true, Bool.not_false, or_true, true_or, or_false, false_or, or_self, and_self, decide_eq_true_eq]
      · simp (disch := first | omega | assumption | exact isSt6 | exact isSt18 | exact isSt30) only [fX12_clash, io_206, fw_206_0, fi_206_0, bdS, ck_t, ck_T, cb_0, cb_1, ab_jn, if_true, if_false, r1, bI_0, gF_sF1, upd_1, nI00, r6, c, r7, reduceCtorEq, m1_ne, and_true, true_and, and_false, false_and, not_true_eq_false, not_false_eq_true, ne_eq, decide_true, decide_false, Bool.false_eq_true, ite_true, ite_false, if_true, if_false, Nat.add_zero, Bool.and_true, Bool.true_and, Bool.and_false, Bool.false_and, Bool.or_true, Bool.true_or, Bool.or_false, Bool.false_or, decide_not, Bool.not_true, Bool.not_false, or_true, true_or, or_false, false_or, or_self, and_self, decide_eq_true_eq]
    · rw [if_neg c] at o1
      have cp : ¬ ov0 (fun i => t (3 * i)) (fun i => t (3 * i + 1)) (fun i => t (3 * i + 2)) n (L / 3) ≤ 0 := by
        obtain ⟨a, e, b⟩ := ov_bd (al := al0 (fun i => t (3 * i)) (fun i => t (3 * i + 1)) (fun i => t (3 * i + 2)) n (L / 3)) h10
        have e : ov0 (fun i => t (3 * i)) (fun i => t (3 * i + 1)) (fun i => t (3 * i + 2)) n (L / 3) = nI a := e
        rw [e, ← nI_0]
        rw [e, nI_eq (by omega) (by omega)] at c
        exact nI_ge (by omega) (by omega)
      refine Ca_ok (g1 := kst (sA g1 200 W) O T) (g2 := sA (sA (sF g2 206 0 (nI 0)) 214 M) 215 O') (nI 0) ?_ ?_ (by rw [gF_sA, gF_sA, gF_sF1, upd_1]) (Sh.end R r2 r3 r4 _ _ _)
      · simp (disch := first | omega | assumption | exact isSt6 | exact isSt18 | exact isSt30) only [fX11_clash, io_196, fr_0_7, fr_0_0, fr_0_1, fi_s0, fw_4_1, bdS, ck_t, ck_T, cb_0, cb_1, ab_jn, if_true, if_false, fi_s0, hn, c1, eg1, cl_needTold, bx_l, o1, reduceCtorEq, m1_ne, and_true, true_and, and_false, false_and, not_true_eq_false, not_false_eq_true, ne_eq, decide_true, decide_false, Bool.false_eq_true, ite_true, ite_false, if_true, if_false, Nat.add_zero, Bool.and_true, Bool.true_and, Bool.and_false, Bool.false_and, Bool.or_true, Bool.true_or, Bool.or_false, Bool.false_or, decide_not, Bool.not_true, Bool.not_false, or_true, true_or, or_false, false_or, or_self, and_self, decide_eq_true_eq]
      · simp (disch := first | omega | assumption | exact isSt6 | exact isSt18 | exact isSt30) only [fX12_clash, io_206, fw_206_0, fi_206_0, bdS, ck_t, ck_T, cb_0, cb_1, ab_jn, if_true, if_false, r1, bI_0, gF_sF1, upd_1, nI00, r6, cp, reduceCtorEq, m1_ne, and_true, true_and, and_false, false_and, not_true_eq_false, not_false_eq_true, ne_eq, decide_true, decide_false, Bool.false_eq_true, ite_true, ite_false, if_true, if_false, Nat.add_zero, Bool.and_true, Bool.true_and, Bool.and_false, Bool.false_and, Bool.or_true, Bool.true_or, Bool.or_false, Bool.false_or, decide_not, Bool.not_true, Bool.not_false, or_true, true_or, or_false, false_or, or_self, and_self, decide_eq_true_eq]
