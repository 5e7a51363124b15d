variable {Nq : Nat}
/-! ===== the OWNERS that can be, by all that is SAID ===== -/
theorem alw_x {sa sb sc : Nat → Nat} {x y : Int32} {M : Nat → Int32} : ∀ z, (∀ i, i < z → bt x i = bt y i) → alw sa sb sc x M z = alw sa sb sc y M z
  | 0, _ => rfl
  | z + 1, h => by
    rw [alw_S, alw_S, alw_x z (fun i hi => h i (by omega)), h z (by omega)]
theorem bt_all : ∀ z, z < 13 → ∀ i, i < 12 → i < z → bt (nI (2 ^ z - 1)) i = true := by decide
theorem bt_4095 : ∀ i, i < 12 → bt (nI 4095) i = true := by decide
/-- whom all that is SAID allows -/
def al0 (sa sb sc : Nat → Nat) (n z : Nat) : Nat → Int32 := alw sa sb sc (nI 4095) (fun _ => nI (2 ^ n - 1)) z
theorem cl_allowAll {g : gG} {n z : Nat} {sa sb sc : Nat → Nat} (S : Sd g n z sa sb sc) (h10 : n ≤ 10) {F : Nat} (hF : 11000 < F) : ∃ W, fX7_allowBy F 196 (nI (2 ^ z - 1)) (gH g) = some (gH (sA g 200 W)) ∧ ∀ p, p < n → W p = al0 sa sb sc n z p := by
  refine ⟨_, cl_allowBy S h10 _ hF, fun p hp => ?_⟩
  obtain ⟨z12, _, _, _, hd⟩ := S
  have e := alw_x (sa := sa) (sb := sb) (sc := sc) (x := nI (2 ^ z - 1)) (y := nI 4095) (M := fun q => if q < 10 then nI (2 ^ n - 1) else gA g 200 q) z (fun i hi => by rw [bt_all z (by omega) i (by omega) hi, bt_4095 i (by omega)])
  rw [e]
  exact alw_cg (n := n) (fun i hi => (hd i hi).1) (fun p hp => if_pos (by omega)) z (Nat.le_refl _) p hp
def ov0 (sa sb sc : Nat → Nat) (n z : Nat) : Int32 := ov (al0 sa sb sc n z) n (fun _ => nI 1) (2 ^ n - 1)
theorem cl_ownersOfAll {g : gG} {n z : Nat} {sa sb sc : Nat → Nat} (S : Sd g n z sa sb sc) (h10 : n ≤ 10) {F : Nat} (hF : 11000 < F) : ∃ W O, fX7_ownersOfAll F 196 (gH g) = some (ov0 sa sb sc n z, gH (sA (sA g 200 W) 202 O)) := by
  obtain ⟨W, h1, h2⟩ := cl_allowAll S h10 hF
  have S' := S
  obtain ⟨z12, hp, hz, _, hd⟩ := S'
  obtain ⟨O, h3⟩ := cl_countOwners (sA g 200 W) (n := n) hp h10 hF
  have hn2 : 1 ≤ 2 ^ n := Nat.one_le_two_pow
  have e : ov (gA (sA g 200 W) 200) n (fun _ => nI 1) (2 ^ n - 1) = ov0 sa sb sc n z := by
    rw [gA_sA1]
    exact ov_al h10 h2 _ (by omega)
  rw [e] at h3
  have s1 := sh1 (k := z) (by omega)
  have e1 : nI (2 ^ z) - nI 1 = nI (2 ^ z - 1) := pk_sub Nat.one_le_two_pow
  refine ⟨W, O, ?_⟩
  simp (disch := omega) only [fX7_ownersOfAll, io_196, fi_196_7, bdS, ck_t, ck_T, cb_0, cb_1, ab_jn, if_true, if_false, hz, s1, e1, h1, h3]
theorem rf_ownedAll (g : gG) {n : Nat} (hn : gA g 207 3 = nI n) (h10 : n ≤ 10) {F : Nat} (hF : 11000 < F) {z : Nat} {sa sb sc : Nat → Nat} (S : Sq g n z sa sb sc) : ∃ M O, fX12_owned F 206 (nI 4095) (gH g) = some (ov0 sa sb sc n z, gH (sA (sA g 214 M) 215 O)) ∧ ∀ p, p < n → M p = al0 sa sb sc n z p := rf_owned g hn h10 hF S (nI 4095)
/-- and p's own is f besides -/
def ov1 (sa sb sc : Nat → Nat) (n z p f : Nat) : Int32 := ov (upd (al0 sa sb sc n z) p (al0 sa sb sc n z p &&& nI (2 ^ f))) n (fun _ => nI 1) (2 ^ n - 1)
theorem cl_ownersWith {g : gG} {n z : Nat} {sa sb sc : Nat → Nat} (S : Sd g n z sa sb sc) (h10 : n ≤ 10) {p f : Nat} (hp' : p < n) (hf : f < n) {F : Nat} (hF : 11000 < F) : ∃ W O, fX7_ownersWith F 196 (nI p) (nI f) (gH g) = some (ov1 sa sb sc n z p f, gH (sA (sA g 200 W) 202 O)) := by
  obtain ⟨W, h1, h2⟩ := cl_allowAll S h10 hF
  have S' := S
  obtain ⟨z12, hp, hz, _, hd⟩ := S'
  obtain ⟨O, h3⟩ := cl_countOwners (sA g 200 (upd W p (W p &&& nI (2 ^ f)))) (n := n) hp h10 hF
  have hn2 : 1 ≤ 2 ^ n := Nat.one_le_two_pow
  have e : ov (gA (sA g 200 (upd W p (W p &&& nI (2 ^ f)))) 200) n (fun _ => nI 1) (2 ^ n - 1) = ov1 sa sb sc n z p f := by
    rw [gA_sA1]
    refine ov_al h10 (fun q hq => ?_) _ (by omega)
    rw [upd_e, upd_e, h2 p hp', h2 q hq]
  rw [e] at h3
  have s1 := sh1 (k := z) (by omega)
  have s2 := sh1 (k := f) (by omega)
  have e1 : nI (2 ^ z) - nI 1 = nI (2 ^ z - 1) := pk_sub Nat.one_le_two_pow
  refine ⟨upd W p (W p &&& nI (2 ^ f)), O, ?_⟩
  simp (disch := omega) only [fX7_ownersWith, io_196, fi_196_7, fr_196_3, ia_200, iw_200, bdS, ck_t, ck_T, cb_0, cb_1, ab_jn, if_true, if_false, hz, s1, s2, e1, h1, h3, gA_sA1, sA_sA]
theorem ov_z {al : Nat → Int32} {n : Nat} {G : Nat → Int32} (h10 : n ≤ 10) {p : Nat} (hz : ∀ f, f < n → bt (al p) f = false) : ∀ S, S < 2 ^ n → p < pc (nI S) → ov al n G S = nI 0 := by
  have h2 : 2 ^ n ≤ 2 ^ 10 := Nat.pow_le_pow_right (by decide) h10
  intro S
  induction S using Nat.strongRecOn with
  | ind S ih =>
    intro hS hp
    have c : S ≠ 0 := by
      intro c; subst c
      have : pc (nI 0) = 0 := by decide
      omega
    rw [ov_S al n G (by omega)]
    refine sumI_0 (fun f hf => ?_)
    unfold wt
    by_cases c2 : S.testBit f = true ∧ bt (al (pc (nI S) - 1)) f = true
    · rw [if_pos c2]
      obtain ⟨_, _, o⟩ := set_out f (by omega) S (by omega) c2.1
      by_cases d : p = pc (nI S) - 1
      · rw [← d, hz f hf] at c2
        cases c2.2
      · exact ih _ (by have := Nat.two_pow_pos f; omega) (Nat.lt_of_le_of_lt (Nat.sub_le _ _) hS) (by omega)
    · rw [if_neg c2]
theorem pc_full : ∀ n, n ≤ 10 → pc (nI (2 ^ n - 1)) = n := by decide
theorem ov_bt {al al' : Nat → Int32} {n : Nat} {G : Nat → Int32} (h10 : n ≤ 10) (h : ∀ p, p < n → ∀ f, f < n → bt (al p) f = bt (al' p) f) : ∀ S, S < 2 ^ n → ov al n G S = ov al' n G S := by
  have h2 : 2 ^ n ≤ 2 ^ 10 := Nat.pow_le_pow_right (by decide) h10
  intro S
  induction S using Nat.strongRecOn with
  | ind S ih =>
    intro hS
    by_cases c : S = 0
    · subst c; rfl
    · rw [ov_S al n G (by omega), ov_S al' n G (by omega)]
      have p1 := pc_lt h10 hS
      have p0 := pc_pos S (by omega) (by omega)
      refine sumI_cong (fun f hf => ?_)
      unfold wt
      rw [h (pc (nI S) - 1) (by omega) f hf]
      by_cases c2 : S.testBit f = true ∧ bt (al' (pc (nI S) - 1)) f = true
      · rw [if_pos c2, if_pos c2]
        exact ih _ (by have := Nat.two_pow_pos f; omega) (Nat.lt_of_le_of_lt (Nat.sub_le _ _) hS)
      · rw [if_neg c2, if_neg c2]
theorem and_p (x : Int32) {f b : Nat} (hb : b < 32) : bt (x &&& nI (2 ^ f)) b = (bt x b && decide (f = b)) := by
  rw [b_and, bt_nI' hb, Nat.testBit_two_pow]
theorem rf_waysOf (g : gG) {n : Nat} (hn : gA g 207 3 = nI n) (h10 : n ≤ 10) {F : Nat} (hF : 11000 < F) {z : Nat} {sa sb sc : Nat → Nat} (S : Sq g n z sa sb sc) {p f : Nat} (hp : p < n) (hf : f < n) : ∃ M O, fX12_waysOf F 206 (nI p) (nI f) (gH g) = some (ov1 sa sb sc n z p f, gH (sA (sA g 214 M) 215 O)) := by
  obtain ⟨M, O, h1, h2⟩ := rf_ownedAll g hn h10 hF S
  have hn2 : 1 ≤ 2 ^ n := Nat.one_le_two_pow
  have e14 : ¬ (214 = 215) := by omega
  have hm : gA (sA (sA g 214 M) 215 O) 214 = M := by rw [gA_sA2 _ _ e14, gA_sA1]
  cases c : bt (al0 sa sb sc n z p) f
  · refine ⟨M, O, ?_⟩
    have e : ov1 sa sb sc n z p f = nI 0 := by
      refine ov_z h10 (p := p) (fun b hb => ?_) _ (by omega) (by rw [pc_full n h10]; exact hp)
      rw [upd_1, and_p _ (by omega)]
      by_cases d : f = b
      · rw [← d, c]; rfl
      · rw [decide_eq_false d, Bool.and_false]
    have c' : bt (M p) f = false := by rw [h2 p hp]; exact c
    rw [e]
    simp (disch := omega) only [fX12_waysOf, io_206, fr_206_21, ia_214, iw_214, bdS, ck_t, ck_T, cb_0, cb_1, ab_jn, if_true, if_false, h1, hm, rf_isOfX, c', bI_0, if_true]
  · have c' : bt (M p) f = true := by rw [h2 p hp]; exact c
    have h3 := rf_counts (sA (sA (sA g 214 M) 215 O) 214 (upd M p (nI (2 ^ f)))) (n := n) hn h10 hF
    have s2 := sh1 (k := f) (by omega)
    have e : ov (upd M p (nI (2 ^ f))) n (upd O 0 (nI 1)) (2 ^ n - 1) = ov1 sa sb sc n z p f := by
      rw [wt_G (G' := fun _ => nI 1) (by rw [upd_1])]
      refine ov_bt h10 (fun q hq b hb => ?_) _ (by omega)
      rw [upd_e, upd_e]
      by_cases d : q = p
      · rw [if_pos d, if_pos d, and_p _ (by omega), bt_nI' (by omega), Nat.testBit_two_pow]
        by_cases d2 : f = b
        · rw [← d2, c, Bool.true_and]
        · rw [decide_eq_false d2, Bool.and_false]
      · rw [if_neg d, if_neg d, h2 q hq]
    refine ⟨upd M p (nI (2 ^ f)), tb (upd M p (nI (2 ^ f))) n (upd O 0 (nI 1)) (2 ^ n - 1), ?_⟩
    have e5 : sA (sA (sA (sA g 214 M) 215 O) 214 (upd M p (nI (2 ^ f)))) 215 (tb (upd M p (nI (2 ^ f))) n (upd O 0 (nI 1)) (2 ^ n - 1)) = sA (sA g 214 (upd M p (nI (2 ^ f)))) 215 (tb (upd M p (nI (2 ^ f))) n (upd O 0 (nI 1)) (2 ^ n - 1)) := by
      rw [sA_comm _ (show 215 ≠ 214 by omega), sA_sA, sA_sA]
    have g14 : gA (sA (sA (sA g 214 M) 215 O) 214 (upd M p (nI (2 ^ f)))) 214 = upd M p (nI (2 ^ f)) := gA_sA1 _ _ _
    have g15 : gA (sA (sA (sA g 214 M) 215 O) 214 (upd M p (nI (2 ^ f)))) 215 = O := by rw [gA_sA2 _ _ (by omega), gA_sA1]
    rw [g14, g15, e, e5] at h3
    simp (disch := omega) only [fX12_waysOf, io_206, fr_206_21, ia_214, iw_214, bdS, ck_t, ck_T, cb_0, cb_1, ab_jn, if_true, if_false, h1, hm, rf_isOfX, c', bI_0, s2, reduceCtorEq, if_false, h3]
