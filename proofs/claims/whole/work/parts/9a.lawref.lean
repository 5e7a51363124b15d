variable {Nq : Nat}
/-! ===== call: law, the reference; both ===== -/
theorem st_ext {g1 g2 : gG} (h0 : g1.1 = g2.1) (hF : ∀ b k, gF g1 b k = gF g2 b k) (hA : ∀ b, gA g1 b = gA g2 b) (hL : ∀ b, gL g1 b = gL g2 b) : g1 = g2 := by
  refine Prod.ext h0 (Prod.ext ?_ (Prod.ext ?_ ?_))
  · funext b k; exact hF b k
  · funext b; exact hA b
  · funext b; exact hL b
def bgG (g : gG) (L : Int32) : gG := sF (sF (sF g 206 9 (-1)) 206 10 L) 206 8 (nI 0)
theorem rf_begins (g : gG) : fX12_begins 206 (gH g) = some (gH (tx (bgG g (gF g 206 8)) (nI 0) (-1) (nI 0) (gF g 206 17) (gF g 206 18))) := by
  have e : ∀ u : Int32, sF (sF (sF (sF (sF (sF g 206 12 (-1)) 206 9 (-1)) 206 10 u) 206 8 (nI 0)) 206 11 (nI 0)) 206 13 (nI 0) = tx (bgG g u) (nI 0) (-1) (nI 0) (gF g 206 17) (gF g 206 18) := by
    intro u
    refine st_ext rfl (fun b k => ?_) (fun b => rfl) (fun b => rfl)
    by_cases c : b = 206
    · subst c
      unfold tx bgG
      simp only [gF_sF1, upd_e]
      by_cases k18 : k = 18
      · subst k18; rfl
      by_cases k17 : k = 17
      · subst k17; rfl
      by_cases k13 : k = 13
      · subst k13; rfl
      by_cases k12 : k = 12
      · subst k12; rfl
      by_cases k11 : k = 11
      · subst k11; rfl
      simp only [k18, k17, k13, k12, k11, if_false]
    · rw [tfx _ _ _ _ _ _ c]
      unfold bgG
      simp only [gF_sF2 _ _ c]
  unfold fX12_begins
  refine (bd_e (fw_206_12 _ _)).trans ?_
  refine (bd_e (fw_206_9 _ _)).trans ?_
  refine (bd_e (fi_206_8 _)).trans ?_
  refine (bd_e (fw_206_10 _ _)).trans ?_
  refine (bd_e (fw_206_8 _ _)).trans ?_
  refine (bd_e (fw_206_11 _ _)).trans ?_
  refine (bd_e (fw_206_13 _ _)).trans ?_
  rw [e, gF_sF1, upd_2 _ _ (by omega), gF_sF1, upd_2 _ _ (by omega)]
def lwM (m t : Nat → Int32) (i : Nat) : Nat → Int32 := fun q => if 584 ≤ q ∧ q < 584 + i then t (q - 584) else m q
theorem rl_law (g : gG) (x : Int32) {L : Nat} (h : gF g 206 10 = nI L) (hL : L ≤ 400) {F : Nat} (hF : 11000 < F) : fX12_law_55 F 206 x F (nI 0) (gH g) = some (x, gH (sF (sA g 207 (lwM (gA g 207) (gA g 211) L)) 206 6 (nI 0))) := by
  have h0 := lp0 (L := fun F' i (g : gG) => fX12_law_55 F 206 x F' i (gH g)) (n := L) (fun i => sA g 207 (lwM (gA g 207) (gA g 211) i)) (some (x, gH (sF (sA g 207 (lwM (gA g 207) (gA g 211) L)) 206 6 (nI 0)))) ?_ ?_ F (by omega)
  · have e : sA g 207 (lwM (gA g 207) (gA g 211) 0) = g := by
      have : lwM (gA g 207) (gA g 211) 0 = gA g 207 := by funext q; unfold lwM; rw [if_neg (by omega)]
      rw [this, sA_id]
    rw [e] at h0
    exact h0
  · intro F' i hi
    have e1 : upd (lwM (gA g 207) (gA g 211) i) (584 + i) (gA g 211 i) = lwM (gA g 207) (gA g 211) (i + 1) := by
      funext q
      rw [upd_e]
      unfold lwM
      by_cases c : q = 584 + i
      · rw [if_pos c, if_pos (by omega), c, Nat.add_sub_cancel_left]
      · rw [if_neg c]
        by_cases c2 : 584 ≤ q ∧ q < 584 + i
        · rw [if_pos c2, if_pos (by omega)]
        · rw [if_neg c2, if_neg (by omega)]
    show fX12_law_55 F 206 x (F' + 1) (nI i) (gH (sA g 207 (lwM (gA g 207) (gA g 211) i))) = fX12_law_55 F 206 x F' (nI (i + 1)) (gH (sA g 207 (lwM (gA g 207) (gA g 211) (i + 1))))
    rw [fX12_law_55]
    refine (bd_e (by rw [fi_206_10, gF_sA, h])).trans ?_
    refine (if_pos (nI_lt hi (by omega))).trans ?_
    refine (bd_e (fr_206_1 _)).trans ?_
    refine (bd_e (fr_206_7 _)).trans ?_
    refine (bd_e (ia_211 _ (show i < 400 by omega))).trans ?_
    rw [nI_add]
    refine (bd_e (iw_207 _ _ (show 584 + i < 984 by omega))).trans ?_
    rw [gA_sA1, gA_sA2 _ _ (by omega), sA_sA, e1, nI_add]
  · intro F'
    show fX12_law_55 F 206 x (F' + 1) (nI L) (gH (sA g 207 (lwM (gA g 207) (gA g 211) L))) = _
    rw [fX12_law_55]
    refine (bd_e (by rw [fi_206_10, gF_sA, h])).trans ?_
    refine (if_neg (fun h => Int32.lt_irrefl h)).trans ?_
    exact bd_e (fw_206_6 _ _)
theorem rf_law {g : gG} {t : Nat → Nat} {L : Nat} (h8 : gF g 206 8 = nI L) (hL : L ≤ 400) (ht : ∀ i, i < L → gA g 211 i = nI (t i) ∧ t i < 256) (hb : Bo g) {F : Nat} (hF : 11000 < F) : ∃ v g2, fX12_law F 206 (gH g) = some (v, gH g2) ∧ (∀ b, b ≠ 206 → gF g2 b = gF g b) ∧ (∀ k, k = 3 ∨ k = 15 ∨ k = 16 → gF g2 206 k = gF g 206 k) ∧ gF g2 206 8 = nI 0 ∧ (∀ b, b ≠ 207 → gA g2 b = gA g b) ∧ gL g2 = gL g ∧ gw g2 = gw g ∧ gn g2 = gn g ∧ gl g2 = gl g ∧
  ((pLaw t L).1 = true → v = nI (pLaw t L).2.2.1 ∧ gF g2 206 0 = nI 0 ∧ gF g2 206 12 = -1 ∧ gF g2 206 6 = nI 0 ∧ gA g2 207 = lwM (upd (upd (gA g 207) 1 (nI (pLaw t L).2.2.1)) 2 (nI L)) (gA g 211) L) ∧
  ((pLaw t L).1 = false → gF g2 206 0 = nI 1 ∧ gF g2 206 12 = nI (pLaw t L).2.1 ∧ gF g2 206 6 = gF g 206 6 ∧ gA g2 207 = gA g 207) := by
  obtain ⟨gf, hf⟩ : ∃ gf, gf = bgG g (gF g 206 8) := ⟨_, rfl⟩
  have bg := rf_begins g
  rw [← hf] at bg
  have fF : ∀ b, b ≠ 206 → gF gf b = gF g b := fun b h => by rw [hf]; unfold bgG; rw [gF_sF2 _ _ h, gF_sF2 _ _ h, gF_sF2 _ _ h]
  have f6 : ∀ k, k ≠ 8 → k ≠ 9 → k ≠ 10 → gF gf 206 k = gF g 206 k := fun k a b c => by rw [hf]; unfold bgG; rw [gF_sF1, upd_2 _ _ a, gF_sF1, upd_2 _ _ c, gF_sF1, upd_2 _ _ b]
  have f8 : gF gf 206 8 = nI 0 := by rw [hf]; unfold bgG; rw [gF_sF1, upd_1]
  have f9 : gF gf 206 9 = -1 := by rw [hf]; unfold bgG; rw [gF_sF1, upd_2 _ _ (by omega), gF_sF1, upd_2 _ _ (by omega), gF_sF1, upd_1]
  have f10 : gF gf 206 10 = nI L := by rw [hf]; unfold bgG; rw [gF_sF1, upd_2 _ _ (by omega), gF_sF1, upd_1, h8]
  have fA : ∀ b, gA gf b = gA g b := fun b => by rw [hf]; rfl
  have fL : gL gf = gL g := by rw [hf]; rfl
  have fw : gw gf = gw g := by rw [hf]; rfl
  have fn : gn gf = gn g := by rw [hf]; rfl
  have fl : gl gf = gl g := by rw [hf]; rfl
  clear hf
  have H : Ltx gf t L := ⟨f10, hL, fun i hi => (ht i hi).2, Or.inl ⟨f9, fun k hk => by rw [fA]; exact (ht k hk).1⟩⟩
  have hb' : Bo gf := by unfold Bo at *; rw [f6 15 (by omega) (by omega) (by omega), f6 16 (by omega) (by omega) (by omega)]; exact hb
  obtain ⟨n', a', f', d', u', v', e1, r1, r2⟩ := rf_readL H hb' hF (gF g 206 17) (gF g 206 18)
  obtain ⟨gt, hT⟩ : ∃ gt, gt = tx gf a' f' d' u' v' := ⟨_, rfl⟩
  rw [← hT] at e1
  have tF : ∀ b, b ≠ 206 → gF gt b = gF g b := fun b h => by rw [hT, tfx _ _ _ _ _ _ h, fF b h]
  have t6 : ∀ k, k ≠ 8 → k ≠ 9 → k ≠ 10 → k ≠ 11 → k ≠ 12 → k ≠ 13 → k ≠ 17 → k ≠ 18 → gF gt 206 k = gF g 206 k := fun k a b c d e f h i => by rw [hT, tfo _ _ _ _ _ _ ⟨d, e, f, h, i⟩, f6 k a b c]
  have t8 : gF gt 206 8 = nI 0 := by rw [hT, tfo _ _ _ _ _ _ (by omega), f8]
  have t10 : gF gt 206 10 = nI L := by rw [hT, tf10, f10]
  have t12 : gF gt 206 12 = f' := by rw [hT, tf12]
  have tA' : ∀ b, gA gt b = gA g b := fun b => by rw [hT, tA, fA]
  have tL : gL gt = gL g := by rw [hT, ← fL]; rfl
  have tw : gw gt = gw g := by rw [hT, ← fw]; rfl
  have tn : gn gt = gn g := by rw [hT, ← fn]; rfl
  have tl : gl gt = gl g := by rw [hT, ← fl]; rfl
  clear hT
  cases c : (pLaw t L).1
  · obtain ⟨x1, x2⟩ := r2 c
    refine ⟨nI 0, sF gt 206 0 (nI 1), ?_, fun b hb => by rw [gF_sF2 _ _ hb, tF b hb], fun k hk => by rw [gF_sF1, upd_2 _ _ (by omega)]; exact t6 k (by omega) (by omega) (by omega) (by omega) (by omega) (by omega) (by omega) (by omega), by rw [gF_sF1, upd_2 _ _ (by omega), t8], fun b _ => by rw [gA_sF, tA'], by rw [← tL]; rfl, by rw [← tw]; rfl, by rw [← tn]; rfl, by rw [← tl]; rfl, (fun h => by cases h), fun _ => ⟨by rw [gF_sF1, upd_1], by rw [gF_sF1, upd_2 _ _ (by omega), t12, x1], by rw [gF_sF1, upd_2 _ _ (by omega)]; exact t6 6 (by omega) (by omega) (by omega) (by omega) (by omega) (by omega) (by omega) (by omega), by rw [gA_sF, tA']⟩⟩
    unfold fX12_law
    refine (ck_e (io_206 _)).trans ?_
    refine (bd_e bg).trans ?_
    refine (ck_e (io_206 _)).trans ?_
    refine (bd_e e1).trans ?_
    refine (bd_e (by rw [fi_206_12, t12])).trans ?_
    refine (jn_e _ _).trans ?_
    refine (if_neg x2).trans ?_
    refine (bd_e (fw_206_0 _ _)).trans ?_
    refine (bd_e (by rw [fi_206_0, gF_sF1, upd_1])).trans ?_
    exact if_neg (by decide)
  · obtain ⟨x1, x2, _, _⟩ := r1 c
    subst x1 x2
    have u := rl_law (sA (sA (sF gt 206 0 (nI 0)) 207 (upd (gA gt 207) 1 (nI (pLaw t L).2.2.1))) 207 (upd (upd (gA gt 207) 1 (nI (pLaw t L).2.2.1)) 2 (nI L))) (nI (pLaw t L).2.2.1) (L := L) (by rw [gF_sA, gF_sA, gF_sF1, upd_2 _ _ (by omega), t10]) hL hF
    rw [gA_sA1, sA_sA, sA_sA, gA_sA2 _ _ (by omega), gA_sF] at u
    refine ⟨nI (pLaw t L).2.2.1, sF (sA (sF gt 206 0 (nI 0)) 207 (lwM (upd (upd (gA gt 207) 1 (nI (pLaw t L).2.2.1)) 2 (nI L)) (gA gt 211) L)) 206 6 (nI 0), ?_, fun b hb => ?_, fun k hk => ?_, ?_, fun b hb => ?_, ?_, ?_, ?_, ?_, fun _ => ⟨rfl, ?_, ?_, ?_, ?_⟩, fun h => by cases h⟩
    rotate_left
    · rw [gF_sF2 _ _ hb, gF_sA, gF_sF2 _ _ hb, tF b hb]
    · rw [gF_sF1, upd_2 _ _ (by omega), gF_sA, gF_sF1, upd_2 _ _ (by omega)]; exact t6 k (by omega) (by omega) (by omega) (by omega) (by omega) (by omega) (by omega) (by omega)
    · rw [gF_sF1, upd_2 _ _ (by omega), gF_sA, gF_sF1, upd_2 _ _ (by omega), t8]
    · rw [gA_sF, gA_sA2 _ _ hb, gA_sF, tA']
    · rw [← tL]; rfl
    · rw [← tw]; rfl
    · rw [← tn]; rfl
    · rw [← tl]; rfl
    · rw [gF_sF1, upd_2 _ _ (by omega), gF_sA, gF_sF1, upd_1]
    · rw [gF_sF1, upd_2 _ _ (by omega), gF_sA, gF_sF1, upd_2 _ _ (by omega), t12]
    · rw [gF_sF1, upd_1]
    · rw [gA_sF, gA_sA1, tA', tA']
    · unfold fX12_law
      refine (ck_e (io_206 _)).trans ?_
      refine (bd_e bg).trans ?_
      refine (ck_e (io_206 _)).trans ?_
      refine (bd_e e1).trans ?_
      refine (bd_e (by rw [fi_206_12, t12])).trans ?_
      refine (jn_e _ _).trans ?_
      refine (if_pos rfl).trans ?_
      refine (bd_e (fw_206_0 _ _)).trans ?_
      refine (bd_e (by rw [fi_206_0, gF_sF1, upd_1])).trans ?_
      refine (if_pos (by decide)).trans ?_
      refine (bd_e (fr_206_1 _)).trans ?_
      refine (bd_e (iw_207 _ _ (show 1 < 984 by omega))).trans ?_
      refine (bd_e (fr_206_1 _)).trans ?_
      refine (bd_e (by rw [fi_206_10, gF_sA, gF_sF1, upd_2 _ _ (by omega), t10])).trans ?_
      refine (bd_e (iw_207 _ _ (show 2 < 984 by omega))).trans ?_
      rw [gA_sA1, sA_sA, gA_sF]
      exact u
/-- the bytes of the TAPE -/
theorem Tp.t {g : gG} (T : Tp g) : ∃ (L : Nat) (t : Nat → Nat), L ≤ 400 ∧ gF g 206 8 = nI L ∧ (∀ i, i < L → gA g 211 i = nI (t i) ∧ t i < 256) ∧ Tq g t L := by
  obtain ⟨L, t1, t2, t3, t4⟩ := T
  refine ⟨L, fun i => nv (gA g 211 i), t1, t3, fun i hi => ?_, t2, t1, fun i hi => ?_⟩
  · obtain ⟨_, b, h1, h2⟩ := t4 i hi
    show gA g 211 i = nI (nv (gA g 211 i)) ∧ nv (gA g 211 i) < 256
    rw [h2, nv_nI (by omega)]
    exact ⟨rfl, h1⟩
  · obtain ⟨h0, b, h1, h2⟩ := t4 i hi
    show gA g 5 i = nI (nv (gA g 211 i)) ∧ nv (gA g 211 i) < 256
    rw [h0, h2, nv_nI (by omega)]
    exact ⟨rfl, h1⟩
theorem ca_law {g : gG} (R : RE Nq g) (hq : Nq < 1000) {F : Nat} (hF : 11000 < F) : ∃ N', N' ≤ Nq + 1 ∧ Ca N' (fX11_law F 0 (gH g)) (fun g1 => fX12_law F 206 (gH g1)) [eAr] := by
  have R0 := R
  obtain ⟨n, k, s, f, R⟩ := R
  have X := R.2.2.2.2.2.2.2.2.2.2
  obtain ⟨L, t, l1, l2, l3, T⟩ := R.2.2.2.1.t
  obtain ⟨ok, no⟩ := cl_law T R.2.2.2.2.2.2.2.1 X.2 hq hF
  cases c : (pLaw t L).1
  · obtain ⟨g1, e1, p1, p2, p3, p4, p5, p6, p7, p8, p9, p10⟩ := no c
    have b1 : gF g1 206 = gF g 206 := p1 206 (by omega) (by omega) (by omega) (by omega)
    have a211 : gA g1 211 = gA g 211 := p6 211 (by omega)
    obtain ⟨v, g2, e2, q1, q2, q3, q4, q5, q6, q7, q8, _, q9⟩ := rf_law (g := g1) (t := t) (L := L) (by rw [b1]; exact l2) l1 (by rw [a211]; exact l3) (by unfold Bo; rw [b1]; exact X.1) hF
    obtain ⟨z1, z2, z3, z4⟩ := q9 c
    refine ⟨Nq, by omega, .inr eAr, g1, v, g2, e1, e2, ⟨0, by omega, rfl, z1⟩, n, k, s, f, ?_⟩
    have F2 : ∀ b, b ≠ 0 → b ≠ 4 → b ≠ 188 → b ≠ 194 → b ≠ 206 → gF g2 b = gF g b := fun b h0 h4 h1 h2 h3 => by rw [q1 b h3, p1 b h0 h4 h1 h2]
    have A2 : ∀ b, b < 189 ∨ 196 ≤ b → b ≠ 207 → gA g2 b = gA g b := fun b h0 h7 => by rw [q4 b h7, p6 b h0]
    have A7 : gA g2 207 = gA g 207 := by rw [z4, p6 207 (by omega)]
    have Ecx : ∀ lo hi, 6 ≤ lo → hi ≤ 188 → Ec g g2 lo hi := fun lo hi h1 h2 b hb hb' => ⟨F2 b (by omega) (by omega) (by omega) (by omega) (by omega), A2 b (by omega) (by omega), by rw [q5, p8], by rw [q6, p9]⟩
    refine R.kp2 ⟨by rw [q7, p10], fun b => by rw [q8, p7], fun b hb => F2 b (by omega) (by omega) (by omega) (by omega) (by omega), A2 3 (by omega) (by omega), fun b hb _ => A2 b (by omega) (by omega)⟩ (Ecx 6 18 (by omega) (by omega)) (Ecx 30 188 (by omega) (by omega)) A7 (A2 208 (by omega) (by omega)) (A2 210 (by omega) (by omega)) ?_ ?_ ?_ ?_ (by rw [F2 192 (by omega) (by omega) (by omega) (by omega) (by omega)]) ?_ ?_ ⟨0, by omega, ?_, q3, fun i hi => absurd hi (Nat.not_lt_zero i)⟩
    · rw [q2 3 (by omega), b1]
    · rw [z3, b1]
    · rw [q1 0 (by omega), p2 9 (by omega)]
    · rw [q1 0 (by omega), p3, z2]
    · rw [q1 194 (by omega), p5]
    · unfold Bo; rw [q2 15 (by omega), q2 16 (by omega), b1]; exact X.1
    · rw [q1 4 (by omega), p4]
  · obtain ⟨g1, e1, p1, p2, p3, p4, p5, p6, p7, p8, p9, p10, p11, p12, p13, p14, p15, p16⟩ := ok c
    have b1 : gF g1 206 = gF g 206 := p1 206 (by omega) (by omega) (by omega) (by omega) (by omega) (by omega)
    have a211 : gA g1 211 = gA g 211 := p9 211 (by omega) (by omega) (by omega)
    have a207 : gA g1 207 = gA g 207 := p9 207 (by omega) (by omega) (by omega)
    obtain ⟨v, g2, e2, q1, q2, q3, q4, q5, q6, q7, q8, q9, _⟩ := rf_law (g := g1) (t := t) (L := L) (by rw [b1]; exact l2) l1 (by rw [a211]; exact l3) (by unfold Bo; rw [b1]; exact X.1) hF
    obtain ⟨z1, z2, z3, z4, z5⟩ := q9 c
    have e1' := e1
    rw [← z1] at e1'
    refine ⟨Nq + 1, by omega, .inl v, g1, v, g2, e1', e2, ⟨z2, rfl⟩, ?_⟩
    have F2 : ∀ b, b ≠ 0 → b ≠ 4 → b ≠ 42 → b ≠ 188 → b ≠ 194 → b ≠ 206 → b ≠ 220 + gn g → gF g2 b = gF g b := fun b h0 h4 h42 h1 h2 h3 hn => by rw [q1 b h3, p1 b h0 h4 h42 h1 h2 hn]
    have A2 : ∀ b, b < 189 ∨ 196 ≤ b → b ≠ 207 → b ≠ 220 + gn g + 1 → b ≠ 220 + gn g + 2 → gA g2 b = gA g b := fun b h0 h7 h1 h2 => by rw [q4 b h7, p9 b h0 h1 h2]
    have Esx : ∀ x, 6 ≤ x → x + 12 ≤ 42 → Es g g2 x := fun x h1 h2 r hr => ⟨F2 _ (by omega) (by omega) (by omega) (by omega) (by omega) (by omega) (by omega), A2 _ (by omega) (by omega) (by omega) (by omega), by rw [q5, p13]⟩
    have hm : ∀ i, gA g2 207 i = lwM (upd (upd (gA g 207) 1 (nI (pLaw t L).2.2.1)) 2 (nI L)) (gA g 211) L i := fun i => by rw [z5, a207, a211]
    have w6 : gw g2 6 = 220 + gn g := by rw [q6, p14]
    have N3 := X.2
    refine law_ok R (by rw [q7, p16]) (Esx 6 (by omega) (by omega)) (Esx 30 (by omega) (by omega)) (by rw [q6, p15 30 (by omega)]) (by rw [q1 42 (by omega), p5]) (by rw [q1 42 (by omega), p6]) (fun i hi => ?_) (A2 208 (by omega) (by omega) (by omega) (by omega)) (by rw [q2 3 (by omega), b1]) z4 (by rw [q1 0 (by omega), p2 9 (by omega)]) (by rw [q1 0 (by omega), p3, z3]) (F2 192 (by omega) (by omega) (by omega) (by omega) (by omega) (by omega) (by omega) ▸ rfl) (by rw [q1 194 (by omega), p7]) ?_ ⟨0, by omega, ?_, q3, fun i hi => absurd hi (Nat.not_lt_zero i)⟩ (fun K hK => ?_) ?_
    · rw [hm]; unfold lwM; rw [if_neg (by omega), upd_2 _ _ hi.2.2, upd_2 _ _ hi.2.1]
    · unfold Bo; rw [q2 15 (by omega), q2 16 (by omega), b1]; exact X.1
    · rw [q1 4 (by omega), p4]
    · have hK2 := isLw_lt hK
      have hK3 : K = 1 ∨ 220 ≤ K := by rcases hK with h | ⟨i, h, _⟩ <;> omega
      refine ⟨F2 K (by omega) (by omega) (by omega) (by omega) (by omega) (by omega) (by omega), A2 (K + 2) (by omega) (by omega) (by omega) (by omega), by rw [q8, p12 _ (by omega)]⟩
    · have m1 : gA g2 207 1 = nI (pLaw t L).2.2.1 := by rw [hm]; unfold lwM; rw [if_neg (by omega), upd_2 _ _ (by omega), upd_1]
      have m2 : gA g2 207 2 = nI L := by rw [hm]; unfold lwM; rw [if_neg (by omega), upd_1]
      rw [w6]
      refine ⟨Or.inr ⟨Nq, by rw [N3], by rw [q7, p16]; omega⟩, ?_, Or.inr ⟨L, t, l1, m2, fun i hi => ⟨?_, (l3 i hi).2⟩, c, m1, ?_, ?_⟩⟩
      · rw [q1 _ (by omega), p8, m1]
      · unfold cut
        rw [if_pos (by omega), hm]
        unfold lwM
        rw [if_pos (by omega), Nat.add_sub_cancel_left]
        exact (l3 i hi).1
      · rw [q8, p11]
      · rw [q4 _ (by omega)]; exact p10
