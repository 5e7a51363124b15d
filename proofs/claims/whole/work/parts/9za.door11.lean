variable {Nq : Nat}
/-! ===== the class: wishes ===== -/
theorem al_193 (g : gG) : ab_al (gH g) 193 = some (nI 10) := by
  have h : (gH g).2 193 = .inl (0, 10, .inl (gA g 193)) := rfl
  have h2 : 193 < (gH g).1 := gN (by decide)
  have h3 : ab_il (gH g) 193 = some 10 := by unfold ab_il; rw [h]; simp only [h2, and_self, if_true]
  unfold ab_al; rw [h3]
def wOf (T : Nat → Int32) : Nat → Nat
  | 0 => 0
  | j + 1 => wOf T j ||| 2 ^ nv (T j)
theorem wOf_cg {T U : Nat → Int32} : ∀ j, (∀ o, o < j → T o = U o) → wOf T j = wOf U j
  | 0, _ => rfl
  | j + 1, h => by rw [wOf, wOf, wOf_cg j (fun o ho => h o (by omega)), h j (by omega)]
def cpW (T : Nat → Int32) (p : Nat) : Nat → Nat → (Nat → Int32) → (Nat → Int32)
  | 0, _, A => A
  | e + 1, i, A => cpW T p e (i + 1) (upd A (p * 10 + i) (T i))
theorem cpW_o {T : Nat → Int32} {p : Nat} : ∀ e i A q, (q < p * 10 + i ∨ p * 10 + i + e ≤ q) → cpW T p e i A q = A q
  | 0, _, _, _, _ => rfl
  | e + 1, i, A, q, h => by rw [cpW, cpW_o e (i + 1) _ q (by omega), upd_2 _ _ (by omega)]
theorem cpW_i {T : Nat → Int32} {p : Nat} : ∀ e i A o, i ≤ o → o < i + e → cpW T p e i A (p * 10 + o) = T o
  | 0, i, A, o, h1, h2 => by omega
  | e + 1, i, A, o, h1, h2 => by
    rw [cpW]
    by_cases c : o = i
    · rw [cpW_o e (i + 1) _ _ (by omega), c, upd_1]
    · exact cpW_i e (i + 1) _ o (by omega) (by omega)
theorem cl_cp12 {G : gG} {p j : Nat} (hp : p < 10) (hj : j ≤ 10) (hT : ∀ o, o < j → ∃ v, v < 10 ∧ gA G 193 o = nI v) {F : Nat} (K : Int32 → Int32 → ab_H → Option ab_H) : ∀ e i A Fu, i + e = j → e < Fu → fX8_setWishes_12 F 18 193 (nI j) K Fu (nI (wOf (gA G 193) i)) (nI (p * 10 + i)) (nI i) (gH (sA G (18 + 10) A)) = K (nI (wOf (gA G 193) j)) (nI (p * 10 + j)) (gH (sA G (18 + 10) (cpW (gA G 193) p e i A))) := by
  intro e
  induction e with
  | zero =>
    intro i A Fu hi hFu
    obtain ⟨F', rfl⟩ : ∃ F', Fu = F' + 1 := ⟨Fu - 1, by omega⟩
    have : i = j := by omega
    subst this
    rw [fX8_setWishes_12]
    exact if_neg (fun h => by rw [nI_ltI (by omega) (by omega)] at h; omega)
  | succ e ih =>
    intro i A Fu hi hFu
    obtain ⟨F', rfl⟩ : ∃ F', Fu = F' + 1 := ⟨Fu - 1, by omega⟩
    obtain ⟨v, hv, ev⟩ := hT i (by omega)
    have a3 : ab_ia 0 (gH (sA G (18 + 10) A)) 193 (nI i) = some (nI v) := by rw [ia_193 _ (by omega), gA_sA2 _ _ (by omega), ev]
    have w1 : wOf (gA G 193) (i + 1) = wOf (gA G 193) i ||| 2 ^ v := by rw [wOf, ev, nv_nI (by omega)]
    have r := ih (i + 1) (upd A (p * 10 + i) (nI v)) F' (by omega) (by omega)
    rw [w1] at r
    rw [cpW, ev, ← r, fX8_setWishes_12]
    refine (if_pos (nI_lt (by omega) (by omega))).trans ?_
    refine (bd_e (al_193 _)).trans ?_
    refine (if_pos (nI_lt (by omega) (by omega))).trans ?_
    refine (bd_e a3).trans ?_
    refine (bd_e (fr_s16 _ st18)).trans ?_
    refine (bd_e a3).trans ?_
    refine (bd_e (iw_s10 _ _ st18 (by omega))).trans ?_
    rw [gA_sA1, sA_sA, nI_add, nI_add, sh1 (by omega), fa_or]
    rfl
theorem SC.wish {G : gG} {m0 m : Nat → Int32} {n k p : Nat} {A : Nat → Int32} (S : SC G 18 m0 n k) (hp : p < n) (hm : ∀ q, (q < 72 + 10 * p ∨ 72 + 10 * p + 10 ≤ q) → m q = m0 q) (hA : ∀ o, o < n → A (p * 10 + o) = m (72 + 10 * p + o)) (hB : ∀ q, (q < p * 10 ∨ p * 10 + 10 ≤ q) → A q = gA G (18 + 10) q) : SC (sA G (18 + 10) A) 18 m n k := by
  obtain ⟨⟨hx, q0, h10, q1, h12, e3, e4, e5, e6, e7, e8, e11, e9, e10⟩, k1, m3, m4, ⟨x1, x2, x3, x4, x5, x6⟩, Lo, B⟩ := S
  have ar : ∀ r, r < 10 ∨ r = 11 → gA (sA G (18 + 10) A) (18 + r) = gA G (18 + r) := fun r hr => gA_sA2 _ _ (by omega)
  refine ⟨⟨hx, q0, h10, q1, h12, ?_, ?_, ?_, ?_, ?_, ?_, ?_, ?_, ?_⟩, k1, by rw [hm _ (by omega)]; exact m3, by rw [hm _ (by omega)]; exact m4, ⟨?_, ?_, ?_, ?_, ?_, by rw [hm _ (by omega)]; exact x6⟩, Lo.keep rfl rfl (hm _ (by omega)) (fun q _ _ => hm _ (by omega)), B.keep (fun r h1 h2 p _ _ => by rw [ar r (by omega)]) (fun _ _ _ _ _ => by rw [ar 9 (by omega)]; exact ⟨rfl, rfl⟩)⟩
  · intro q hq; rw [ar 3 (by omega), hm _ (by omega)]; exact e3 q hq
  · intro q hq; rw [ar 4 (by omega), hm _ (by omega)]; exact e4 q hq
  · intro q hq; rw [ar 5 (by omega), hm _ (by omega)]; exact e5 q hq
  · intro q hq; rw [ar 6 (by omega), hm _ (by omega)]; exact e6 q hq
  · intro q hq; rw [ar 7 (by omega), hm _ (by omega)]; exact e7 q hq
  · intro q hq; rw [ar 8 (by omega), hm _ (by omega)]; exact e8 q hq
  · intro q hq; rw [ar 11 (by omega), hm _ (by omega)]; exact e11 q hq
  · intro q o hq ho; rw [ar 9 (by omega), hm _ (by omega)]; exact e9 q o hq ho
  · intro q o hq ho
    rw [gA_sA1]
    by_cases c : q = p
    · rw [c]; exact hA o ho
    · rw [hB _ (by omega), hm _ (by omega)]; exact e10 q o hq ho
  · rw [hm _ (by omega)]; exact x1
  · rw [hm _ (by omega)]; exact x2
  · rw [hm _ (by omega)]; exact x3
  · rw [hm _ (by omega)]; exact x4
  · rw [hm _ (by omega)]; exact x5
theorem cl_setW {G : gG} {m0 m : Nat → Int32} {n k p w j : Nat} (S : SC G 18 m0 n k) (hp : p < n) (W : Wi w p n j m m0) (hT : ∀ o, o < j → gA G 193 o = m (72 + 10 * p + o)) (hw : w = wOf (gA G 193) j) {F : Nat} (hF : 11000 < F) : ∃ G', fX8_setWishes F 18 (nI p) 193 (nI j) (gH G) = some (gH G') ∧ Fs G G' 18 ∧ SC G' 18 (flW w p 10 j 0 m) n k := by
  have h10 := S.n10
  have jn := W.le h10
  have hn : gF G 18 0 = nI n := S.1.2.1
  obtain ⟨A', f1, f2, f3⟩ := cl_fill (S := G) (w := w) (p := p) (N := n) (m0 := m0) h10 hn (by omega) (F := F) n j 0 m (cpW (gA G 193) p j 0 (gA G (18 + 10))) F (by omega) (by omega) (W.f h10) (fun o ho => by rw [cpW_i j 0 _ o (by omega) (by omega)]; exact hT o ho)
  have FL := ((W.f h10).fill h10 10 j 0 m (by omega))
  refine ⟨sA G (18 + 10) A', ?_, Fs_A (r := 10) (by decide), S.wish hp FL.2.2.2.2.2.2 f2 (fun q hq => by rw [f3 q hq, cpW_o _ _ _ _ (by omega)])⟩
  have cp := cl_cp12 (G := G) (p := p) (j := j) (F := F) (by omega) (by omega) (fun o ho => by
    obtain ⟨v, a, b, _⟩ := W.2.2.2.1 o ho
    exact ⟨v, by omega, (hT o ho).trans b⟩) (fun (z8 : Int32) (z9 : Int32) (h10 : ab_H) => fX8_setWishes_59 F 18 z8 F z9 (nI 0) h10) j 0 (gA G (18 + 10)) F (by omega) (by omega)
  rw [sA_id, ← hw, f1] at cp
  unfold fX8_setWishes
  rw [pk_mul]
  exact cp
/-- what stands behind the wishes told, in the class -/
def kWC (F p : Nat) : Int32 → ab_H → Option ab_H := fun (z31 : Int32) (h32 : ab_H) => ab_ck (ab_io h32 192 1 = true) (ab_bd (fX10_isRightD 192 h32) fun v33 => (if v33 = 0 then some h32 else ab_bd (ab_fr h32 192 1 5) fun v35 => ab_bd (ab_fr h32 192 1 6) fun v36 => ab_ck (ab_io h32 v35 8 = true) (ab_bd (fX8_setWishes F v35 (nI p) v36 z31 h32) fun h37 => some h37)))
theorem kWC_1 {g : gG} {t : Nat → Nat} {L Z : Nat} {G : gG} {i : Nat} {m0 m : Nat → Int32} {n k p w j : Nat} (D : Dq g t L Z G i (-1) m0 n k) (hp : p < n) (W : Wi w p n j m m0) (hT : ∀ o, o < j → gA G 193 o = m (72 + 10 * p + o)) (hw : w = wOf (gA G 193) j) {F : Nat} (hF : 11000 < F) : ∃ G', kWC F p (nI j) (gH G) = some (gH G') ∧ Dq g t L Z G' i (-1) (flW w p 10 j 0 m) n k := by
  obtain ⟨G', e1, e2, e3⟩ := cl_setW D.2.2.2.2.1 hp W hT hw hF
  refine ⟨G', ?_, D.fs e2 e3⟩
  unfold kWC
  refine (ck_e (io_192 _)).trans ?_
  refine (bd_e D.ir).trans ?_
  refine (if_neg (show ¬ bI (decide ((-1 : Int32) = -1)) = 0 by decide)).trans ?_
  refine (bd_e (fr_192_5 _)).trans ?_
  refine (bd_e (fr_192_6 _)).trans ?_
  refine (ck_e (io_s _ st18)).trans ?_
  exact bd_e e1
theorem kWC_0 {g : gG} {t : Nat → Nat} {L Z : Nat} {G : gG} {i : Nat} {f : Int32} {m : Nat → Int32} {n k p : Nat} (D : Dq g t L Z G i f m n k) (hf : ¬ f = -1) (F : Nat) (z : Int32) : kWC F p z (gH G) = some (gH G) := by
  unfold kWC
  refine (ck_e (io_192 _)).trans ?_
  refine (bd_e D.ir).trans ?_
  rw [decide_eq_false hf]
  exact if_pos (bI_0.mpr rfl)
theorem cs_wishL {g : gG} {t : Nat → Nat} {L Z : Nat} {n kk p : Nat} (hp : p < n) {F : Nat} (hF : 11000 < F) {m0 : Nat → Int32} : ∀ k i m G w j Fu, k + j = 11 → k + 1 < Fu → (j = 0 ∨ kd t L (psn t L i) = 256) → Wi w p n j m m0 → (∀ o, o < j → gA G 193 o = m (72 + 10 * p + o)) → w = wOf (gA G 193) j → Dq g t L Z G i (-1) m0 n kk → CL g t L Z (dWl t L n p k (psn t L i) w j m) (fX1_readWish_32 F 192 (nI p) (kWC F p) Fu (nI w) (nI j) (nI 1) (gH G)) := by
  intro k
  induction k with
  | zero =>
    intro i m G w j Fu hk _ _ W
    have := ct10 (w := w); have := W.2.1; omega
  | succ k ih =>
    intro i m G w j Fu hk hFu hj0 W hT hw D
    obtain ⟨F', rfl⟩ : ∃ F', Fu = F' + 2 := ⟨Fu - 2, by omega⟩
    have h10 := D.2.2.2.2.1.n10
    have pl := D.pl
    have nh := dk_nh D.1 D.2.1 D.2.2.1 hF
    have nl := nmb_lt (t := t) (L := L) (a := psn t L i)
    have jle := W.le h10
    rw [dWl]
    by_cases cj : j < 10
    · have hpn := cl_hasPerson D.2.2.2.2.1.1 (kI (nmb t L (psn t L i)))
      rw [inR_k (by omega)] at hpn
      by_cases c : nmb t L (psn t L i) < n ∧ w.testBit (nmb t L (psn t L i)) = false
      · rw [if_pos c]
        obtain ⟨G1, e1, i1, f1, D1, t1, y1, y2, y3⟩ := D.ac true
        obtain ⟨a1, a2, a3⟩ := y1 rfl rfl
        have W2 := W.step h10 c.1 c.2
        have hs := cl_hasX (nI w) (gH G) (show nmb t L (psn t L i) < 32 by omega)
        rw [bt_nI' (by omega), c.2] at hs
        have kz : kI (nmb t L (psn t L i)) = nI (nmb t L (psn t L i)) := by unfold kI; rw [if_neg (by omega)]
        rw [decide_eq_true c.1] at hpn
        rw [kz] at nh hpn
        generalize nmb t L (psn t L i) = z at *
        have D2 := D1.t (upd (gA G1 193) j (nI z))
        have ir := D1.ir
        have ir2 := D2.ir
        rw [decide_eq_true a1] at ir ir2
        have ih6 := dk_ih D2.1 D2.2.1 D2.2.2.1 (k := 256) (by omega)
        have T2 : ∀ o, o < j + 1 → gA (sA G1 193 (upd (gA G1 193) j (nI z))) 193 o = upd m (72 + 10 * p + j) (nI z) (72 + 10 * p + o) := fun o ho => by
          rw [gA_sA1]
          by_cases c2 : o = j
          · rw [c2, upd_1, upd_1]
          · rw [upd_2 _ _ c2, upd_2 _ _ (by omega), t1]; exact hT o (by omega)
        have w2 : w ||| 2 ^ z = wOf (gA (sA G1 193 (upd (gA G1 193) j (nI z))) 193) (j + 1) := by
          rw [wOf, gA_sA1, upd_1, nv_nI (by omega), hw]
          congr 1
          exact wOf_cg j (fun o ho => by rw [upd_2 _ _ (by omega), t1])
        have E : fX1_readWish_32 F 192 (nI p) (kWC F p) (F' + 2) (nI w) (nI j) (nI 1) (gH G) = fX1_readWish_32 F 192 (nI p) (kWC F p) (F' + 1) (nI (w ||| 2 ^ z)) (nI (j + 1)) (if kd t L (psn t L i1) = 256 then nI 1 else nI 0) (gH (sA G1 193 (upd (gA G1 193) j (nI z)))) := by
          rw [fX1_readWish_32]
          refine (if_neg (by decide)).trans ?_
          refine (if_pos (nI_lt cj (by omega))).trans ?_
          refine (bd_e (fr_192_0 _)).trans ?_
          refine (ck_e (io_188 _)).trans ?_
          refine (bd_e nh).trans ?_
          refine (bd_e (fr_192_5 _)).trans ?_
          refine (ck_e (io_s _ st18)).trans ?_
          refine (bd_e hpn).trans ?_
          refine (jn_e _ _).trans ?_
          refine (jn_e _ _).trans ?_
          refine (if_neg (show ¬ bI true = 0 by decide)).trans ?_
          refine (bd_e hs).trans ?_
          refine (if_pos (bI_0.mpr rfl)).trans ?_
          refine (ck_e (io_192 _)).trans ?_
          refine (bd_e e1).trans ?_
          refine (ck_e (io_192 _)).trans ?_
          refine (bd_e ir).trans ?_
          refine (jn_e _ _).trans ?_
          refine (if_neg (show ¬ bI true = 0 by decide)).trans ?_
          refine (bd_e (fr_192_6 _)).trans ?_
          refine (bd_e (iw_193 _ _ cj)).trans ?_
          refine (ck_e (io_192 _)).trans ?_
          refine (bd_e ir2).trans ?_
          refine (if_neg (show ¬ bI true = 0 by decide)).trans ?_
          refine (ck_e (io_192 _)).trans ?_
          refine (bd_e ih6).trans ?_
          rw [nI_add, sh1 (by omega), fa_or]
          by_cases c6 : kd t L (psn t L i1) = 256
          · rw [if_pos c6, decide_eq_true c6]; exact if_neg (show ¬ bI true = 0 by decide)
          · rw [if_neg c6, decide_eq_false c6]; exact if_pos (bI_0.mpr rfl)
        rw [E, a2]
        rw [a1] at D2
        by_cases c6 : kd t L (nxt t L (psn t L i)) = 256
        · rw [if_pos c6, if_pos c6, ← a2]
          exact ih i1 _ _ _ (j + 1) (F' + 1) (by omega) (by omega) (Or.inr (by rw [a2]; exact c6)) W2 T2 w2 D2
        · rw [if_neg c6, if_neg c6]
          obtain ⟨G3, e3, D3⟩ := kWC_1 D2 hp W2 T2 w2 hF
          refine CL.ok (G' := G3) ?_ D3 rfl a2
          rw [fX1_readWish_32]
          exact (if_pos nI_0).trans e3
      · rw [if_neg c]
        obtain ⟨G1, e1, i1, f1, D1, t1, y1, y2, y3⟩ := D.ac false
        have a1 := y2 rfl rfl
        have nf : ¬ f1 = -1 := by rw [a1]; exact nI_m1 (by omega)
        have ir := D1.ir
        rw [decide_eq_false nf] at ir
        have J : ∀ (v10 : Int32), (ab_ck (ab_io (gH G) 192 1 = true) (ab_bd (fX10_acceptD 192 (nI 0) (gH G)) fun h14 => ab_ck (ab_io h14 192 1 = true) (ab_bd (fX10_isRightD 192 h14) fun v15 => ab_jn (κ := Int32 → ab_H → Option ab_H) (fun (z16 : Int32) (h17 : ab_H) => ab_ck (ab_io h17 192 1 = true) (ab_bd (fX10_isRightD 192 h17) fun v18 => (if v18 = 0 then fX1_readWish_32 F 192 (nI p) (kWC F p) (F' + 1) z16 (nI j + nI 1) (nI 0) h17 else ab_ck (ab_io h17 192 1 = true) (ab_bd (fX10_isHereD 192 (nI 256) h17) fun v20 => (if v20 = 0 then fX1_readWish_32 F 192 (nI p) (kWC F p) (F' + 1) z16 (nI j + nI 1) (nI 0) h17 else fX1_readWish_32 F 192 (nI p) (kWC F p) (F' + 1) z16 (nI j + nI 1) (nI 1) h17))))) fun j22 => (if v15 = 0 then j22 (nI w) h14 else ab_bd (ab_fr h14 192 1 6) fun v24 => ab_bd (ab_iw 0 h14 v24 (nI j) v10) fun h25 => j22 (nI w ||| ((nI 1) <<< (v10 &&& 31))) h25)))) = some (gH G1) := by
          intro v10
          refine (ck_e (io_192 _)).trans ?_
          refine (bd_e e1).trans ?_
          refine (ck_e (io_192 _)).trans ?_
          refine (bd_e ir).trans ?_
          refine (jn_e _ _).trans ?_
          refine (if_pos (bI_0.mpr rfl)).trans ?_
          refine (ck_e (io_192 _)).trans ?_
          refine (bd_e ir).trans ?_
          refine (if_pos (bI_0.mpr rfl)).trans ?_
          rw [fX1_readWish_32]
          refine (if_pos nI_0).trans ?_
          exact kWC_0 D1 nf F _
        refine CL.no (G' := G1) ?_ D1 a1 (by omega)
        rw [fX1_readWish_32]
        refine (if_neg (by decide)).trans ?_
        refine (if_pos (nI_lt cj (by omega))).trans ?_
        refine (bd_e (fr_192_0 _)).trans ?_
        refine (ck_e (io_188 _)).trans ?_
        refine (bd_e nh).trans ?_
        refine (bd_e (fr_192_5 _)).trans ?_
        refine (ck_e (io_s _ st18)).trans ?_
        refine (bd_e hpn).trans ?_
        refine (jn_e _ _).trans ?_
        refine (jn_e _ _).trans ?_
        by_cases d : nmb t L (psn t L i) < n
        · have kz : kI (nmb t L (psn t L i)) = nI (nmb t L (psn t L i)) := by unfold kI; rw [if_neg (by omega)]
          have hs := cl_hasX (nI w) (gH G) (show nmb t L (psn t L i) < 32 by omega)
          have wb : w.testBit (nmb t L (psn t L i)) = true := by
            cases h : w.testBit (nmb t L (psn t L i))
            · exact absurd ⟨d, h⟩ c
            · rfl
          rw [bt_nI' (by omega), wb, ← kz] at hs
          rw [decide_eq_true d]
          refine (if_neg (show ¬ bI true = 0 by decide)).trans ?_
          refine (bd_e hs).trans ?_
          exact (if_neg (show ¬ bI true = 0 by decide)).trans (J _)
        · rw [decide_eq_false d]
          exact (if_pos (bI_0.mpr rfl)).trans (J _)
    · have j10 : j = 10 := by omega
      have full : ∀ q, q < n → w.testBit q = true := fun q hq => fb_ct_all.mp (show fb_ct (fun q => w.testBit q) 10 = 10 by rw [W.2.1, j10]) q (by omega)
      rw [if_neg (show ¬ (nmb t L (psn t L i) < n ∧ w.testBit (nmb t L (psn t L i)) = false) from fun h => by rw [full _ h.1] at h; cases h.2)]
      obtain ⟨G3, e3, D3⟩ := kWC_1 D hp W hT hw hF
      refine ⟨G3, i, -1, _, n, kk, ?_, D3, (fun h => by cases h), fun _ => Or.inr ⟨rfl, rfl, ?_⟩⟩
      · rw [fX1_readWish_32]
        refine (if_neg (by decide)).trans ?_
        refine (if_neg (fun h => by rw [nI_ltI (by omega) (by omega)] at h; omega)).trans ?_
        exact e3
      · rcases hj0 with h | h
        · omega
        · exact h
theorem cs_wish {g : gG} {t : Nat → Nat} {L Z : Nat} {G : gG} {i : Nat} {m : Nat → Int32} {n k : Nat} (D : Dq g t L Z G i (-1) m n k) {F : Nat} (hF : 11000 < F) : CL g t L Z (dWish t L (psn t L i) m n) (fX1_readWish F 192 (gH G)) := by
  have h10 := D.2.2.2.2.1.n10
  obtain ⟨e0, D0, p0⟩ := D.go
  have hn : gF (sF G 188 4 (nI (gnx Z i))) 18 0 = nI n := D0.2.2.2.2.1.1.2.1
  unfold dWish
  have pl0 := D0.pl
  generalize hG0 : sF G 188 4 (nI (gnx Z i)) = G0 at *
  generalize gnx Z i = i0 at *
  obtain ⟨G1, e1, i1, f1, D1, _, y1, y2, y3⟩ := D0.rn (lo := nI 0) (hi := nI n - nI 1) (by decide) hF
  rw [okN_n (by omega), p0] at y1 y2
  rw [p0] at e1 pl0
  have ir := D1.ir
  generalize hb : nxt t L (psn t L i) = b at *
  have E : fX1_readWish F 192 (gH G) = fX1_readWish_32 F 192 (kI (nmb t L b)) (fun (z31 : Int32) (h32 : ab_H) => ab_ck (ab_io h32 192 1 = true) (ab_bd (fX10_isRightD 192 h32) fun v33 => (if v33 = 0 then some h32 else ab_bd (ab_fr h32 192 1 5) fun v35 => ab_bd (ab_fr h32 192 1 6) fun v36 => ab_ck (ab_io h32 v35 8 = true) (ab_bd (fX8_setWishes F v35 (kI (nmb t L b)) v36 z31 h32) fun h37 => some h37)))) F (nI 0) (nI 0) (bI (decide (f1 = -1))) (gH G1) := by
    unfold fX1_readWish
    refine (bd_e (fr_192_0 _)).trans ?_
    refine (ck_e (io_188 _)).trans ?_
    refine (bd_e e0).trans ?_
    refine (bd_e (fr_192_5 _)).trans ?_
    refine (bd_e ((fi_s0 _ st18).trans (congrArg some hn))).trans ?_
    refine (ck_e (io_192 _)).trans ?_
    refine (bd_e e1).trans ?_
    refine (ck_e (io_192 _)).trans ?_
    exact bd_e ir
  rw [E]
  by_cases c : nmb t L b < n
  · rw [if_pos c]
    obtain ⟨a1, a2, _⟩ := y1 rfl (decide_eq_true c)
    have kz : kI (nmb t L b) = nI (nmb t L b) := by unfold kI; rw [if_neg (by omega)]
    rw [kz, decide_eq_true a1, ← a2]
    rw [a1] at D1
    exact cs_wishL c hF 11 i1 m G1 0 0 F (by omega) (by omega) (Or.inl rfl) (Wi.zero m) (fun o ho => absurd ho (Nat.not_lt_zero o)) rfl D1
  · rw [if_neg c]
    have a1 := y2 rfl (decide_eq_false c)
    have nf : ¬ f1 = -1 := by rw [a1]; exact nI_m1 (by omega)
    have ir1 := D1.ir
    rw [decide_eq_false nf] at ir1 ⊢
    refine CL.no (G' := G1) ?_ D1 a1 (by omega)
    obtain ⟨F', rfl⟩ : ∃ F', F = F' + 1 := ⟨F - 1, by omega⟩
    rw [fX1_readWish_32]
    refine (if_pos (bI_0.mpr rfl)).trans ?_
    refine (ck_e (io_192 _)).trans ?_
    refine (bd_e ir1).trans ?_
    exact if_pos (bI_0.mpr rfl)
