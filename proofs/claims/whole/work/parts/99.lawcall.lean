variable {Nq : Nat}
/-! ===== call: law ===== -/
theorem iw_w2 (g : gG) {x i : Nat} (v : Int32) (hx : isLw g x) (h : i < gl g (x + 2)) (h2 : gl g (x + 2) < 2 ^ 31) : ab_iw 0 (gH g) (x + 2) (nI i) v = some (gH (sA g (x + 2) (upd (gA g (x + 2)) i v))) := g_wA (by have := isLw_lt hx; show x + 2 < 220 + gn g; omega) (fun f => by
  refine (gc_lw (g := sA g (x + 2) f) hx (r := 2) (by decide)).trans ?_
  rw [gA_sA1]; rfl) h h2
theorem al_195 (g : gG) : ab_al (gH g) 195 = some (nI 400) := by
  have h : (gH g).2 195 = .inl (0, 400, .inl (gA g 195)) := rfl
  have h2 : 195 < (gH g).1 := gN (by decide)
  have h3 : ab_il (gH g) 195 = some 400 := by unfold ab_il; rw [h]; simp only [h2, and_self, if_true]
  unfold ab_al; rw [h3]
theorem cl_take (g : gG) {x : Nat} (hx : isLw g x) (hl : gl g (x + 2) ≤ 400) {F : Nat} (hF : 11000 < F) : fX2_takeCode F x 195 (gH g) = some (gH (sA g (x + 2) (fun q => if q < gl g (x + 2) then gA g 195 q else gA g (x + 2) q))) := by
  have ne : ¬ (195 = x + 2) := by rcases hx with h | ⟨i, h, _⟩ <;> omega
  unfold fX2_takeCode
  have h0 := lp0 (L := fun F' i (g : gG) => fX2_takeCode_2 x 195 F' i (gH g)) (n := gl g (x + 2)) (fun i => sA g (x + 2) (fun q => if q < i then gA g 195 q else gA g (x + 2) q)) (some (gH (sA g (x + 2) (fun q => if q < gl g (x + 2) then gA g 195 q else gA g (x + 2) q)))) ?_ ?_ F (by omega)
  · have e : sA g (x + 2) (fun q => if q < 0 then gA g 195 q else gA g (x + 2) q) = g := by
      have : (fun q => if q < 0 then gA g 195 q else gA g (x + 2) q) = gA g (x + 2) := by funext q; rw [if_neg (Nat.not_lt_zero q)]
      rw [this, sA_id]
    rw [e] at h0
    exact h0
  · intro F' i hi
    have hx' : isLw (sA g (x + 2) (fun q => if q < i then gA g 195 q else gA g (x + 2) q)) x := hx
    have e1 : upd (fun q => if q < i then gA g 195 q else gA g (x + 2) q) i (gA g 195 i) = (fun q => if q < i + 1 then gA g 195 q else gA g (x + 2) q) := by
      funext q
      rw [upd_e]
      by_cases c : q = i
      · rw [if_pos c, if_pos (by omega), c]
      · rw [if_neg c]
        by_cases c2 : q < i
        · rw [if_pos c2, if_pos (by omega)]
        · rw [if_neg c2, if_neg (by omega)]
    show fX2_takeCode_2 x 195 (F' + 1) (nI i) (gH (sA g (x + 2) (fun q => if q < i then gA g 195 q else gA g (x + 2) q))) = fX2_takeCode_2 x 195 F' (nI (i + 1)) (gH (sA g (x + 2) (fun q => if q < i + 1 then gA g 195 q else gA g (x + 2) q)))
    rw [fX2_takeCode_2]
    refine (bd_e (fr_w1 _ hx')).trans ?_
    refine (bd_e (al_w2 _ hx')).trans ?_
    refine (if_pos (nI_lt hi (by omega))).trans ?_
    refine (bd_e (al_195 _)).trans ?_
    refine (if_pos (nI_lt (by omega) (by decide))).trans ?_
    refine (bd_e (fr_w1 _ hx')).trans ?_
    refine (bd_e (ia_195 _ (show i < 400 by omega))).trans ?_
    refine (bd_e (iw_w2 _ _ hx' (by rw [gl_sA]; exact hi) (by rw [gl_sA]; omega))).trans ?_
    rw [gA_sA1, gA_sA2 _ _ ne, sA_sA, e1, nI_add]
  · intro F'
    have hx' : isLw (sA g (x + 2) (fun q => if q < gl g (x + 2) then gA g 195 q else gA g (x + 2) q)) x := hx
    show fX2_takeCode_2 x 195 (F' + 1) (nI (gl g (x + 2))) (gH (sA g (x + 2) (fun q => if q < gl g (x + 2) then gA g 195 q else gA g (x + 2) q))) = _
    rw [fX2_takeCode_2]
    refine (bd_e (fr_w1 _ hx')).trans ?_
    refine (bd_e (al_w2 _ hx')).trans ?_
    refine if_neg ?_
    rw [gl_sA]
    exact fun h => Int32.lt_irrefl h
def mdG (g : gG) (v : Int32) (len : Nat) : gG := sA (nwG g v len) (220 + gn g + 2) (fun q => if q < len then gA g 195 q else 0)
theorem cl_made {g : gG} {N : Nat} (hN : gn g = 3 * N) (hb : N < 1000) {v : Int32} {len : Nat} (h3 : gF g 194 3 = v) (h5 : gF g 194 5 = nI len) (hl : len ≤ 400) {F : Nat} (hF : 11000 < F) : fX3_madeLaw F 194 (gH g) = some (220 + gn g, gH (mdG g v len)) := by
  have sb : ab_SB = 1000000 := rfl
  have lt : (gH g).1 < ab_SB := by show 220 + gn g < ab_SB; omega
  have n1 : ab_nw (gH g) 2 [.int 0, .null, .null] = some (ab_ps (gH g) (.inr (2, [.int 0, .null, .null]))) := by unfold ab_nw; rw [if_pos lt]
  have ne : 194 ≠ (gH g).1 := by show 194 ≠ 220 + gn g; omega
  have o1 : (ab_ps (gH g) (.inr (2, [.int 0, .null, .null]))).2 194 = gc g 194 := ps_lt ne
  have l1 : 194 < (ab_ps (gH g) (.inr (2, [.int 0, .null, .null]))).1 := by show 194 < 220 + gn g + 1; omega
  have r3 : ab_fi (ab_ps (gH g) (.inr (2, [.int 0, .null, .null]))) 194 3 3 = some v := by rw [← h3]; exact g_fi (o1.trans (gc_194 g)) l1 rfl
  have r5 : ab_fi (ab_ps (gH g) (.inr (2, [.int 0, .null, .null]))) 194 3 5 = some (nI len) := by rw [← h5]; exact g_fi (o1.trans (gc_194 g)) l1 rfl
  have hx : isLw (nwG g v len) (220 + gn g) := Or.inr ⟨N, by rw [hN], by rw [nw_n]; omega⟩
  have gl1 : gl (nwG g v len) (220 + gn g + 2) = len := by rw [nw_l, if_pos rfl]
  have tk := cl_take (nwG g v len) hx (by rw [gl1]; exact hl) hF
  rw [gl1, nw_A2, nw_A (by omega) (by omega)] at tk
  unfold fX3_madeLaw
  refine (bd_e n1).trans ?_
  refine (bd_e r3).trans ?_
  refine (bd_e r5).trans ?_
  refine (bd_e (cl_lawInit hN (by omega) v hl)).trans ?_
  refine (bd_e (fr_194_4 _)).trans ?_
  refine (ck_e (io_w _ hx)).trans ?_
  exact bd_e tk
/-- the class, of a text of THE LAW -/
theorem cl_law {g : gG} {t : Nat → Nat} {L N : Nat} (T : Tq g t L) (h12 : gF g 194 1 = nI 12) (hN : gn g = 3 * N) (hb : N < 1000) {F : Nat} (hF : 11000 < F) :
  ((pLaw t L).1 = true → ∃ g1, fX11_law F 0 (gH g) = some (.inl (nI (pLaw t L).2.2.1), gH g1) ∧ (∀ b, b ≠ 0 → b ≠ 4 → b ≠ 42 → b ≠ 188 → b ≠ 194 → b ≠ 220 + gn g → gF g1 b = gF g b) ∧ (∀ k, k ≠ 10 → gF g1 0 k = gF g 0 k) ∧ gF g1 0 10 = -1 ∧ gF g1 4 1 = nI 0 ∧ gF g1 42 2 = nI 0 ∧ gF g1 42 1 = gF g 42 1 ∧ gF g1 194 1 = gF g 194 1 ∧ gF g1 (220 + gn g) 0 = nI (pLaw t L).2.2.1 ∧ (∀ b, b < 189 ∨ 196 ≤ b → b ≠ 220 + gn g + 1 → b ≠ 220 + gn g + 2 → gA g1 b = gA g b) ∧ rep (gA g1 (220 + gn g + 2)) (pLaw t L).2.2.2 ∧ gl g1 (220 + gn g + 2) = (pLaw t L).2.2.2.length ∧ (∀ b, b ≠ 220 + gn g + 2 → gl g1 b = gl g b) ∧ gL g1 = gL g ∧ gw g1 6 = 220 + gn g ∧ (∀ b, b ≠ 6 → gw g1 b = gw g b) ∧ gn g1 = gn g + 3) ∧
  ((pLaw t L).1 = false → ∃ g1, fX11_law F 0 (gH g) = some (.inr "java/lang/IllegalArgumentException", gH g1) ∧ (∀ b, b ≠ 0 → b ≠ 4 → b ≠ 188 → b ≠ 194 → gF g1 b = gF g b) ∧ (∀ k, k ≠ 10 → gF g1 0 k = gF g 0 k) ∧ gF g1 0 10 = nI (pLaw t L).2.1 ∧ gF g1 4 1 = nI 0 ∧ gF g1 194 1 = gF g 194 1 ∧ (∀ b, b < 189 ∨ 196 ≤ b → gA g1 b = gA g b) ∧ gl g1 = gl g ∧ gL g1 = gL g ∧ gw g1 = gw g ∧ gn g1 = gn g) := by
  obtain ⟨Kd, Bg, En, n', i', f', s', code', e1, r1, r2⟩ := cl_text T h12 hF
  obtain ⟨gq, hq⟩ : ∃ gq, gq = cst (sF (ct3 g Kd Bg En) 194 3 n') (nI i') f' (nI s') code' := ⟨_, rfl⟩
  rw [← hq] at e1
  have qF : ∀ b, b ≠ 188 → b ≠ 194 → gF gq b = gF g b := fun b h1 h2 => by rw [hq, csx _ _ _ _ _ ⟨h1, h2⟩, gF_sF2 _ _ h2]; rfl
  have q3 : gF gq 194 3 = n' := by rw [hq, cs3 _ _ _ _ _ (by omega), gF_sF1, upd_1]
  have q1 : gF gq 194 1 = gF g 194 1 := by rw [hq, cs3 _ _ _ _ _ (by omega), gF_sF1, upd_2 _ _ (by omega)]; rfl
  have q5 : gF gq 194 5 = nI s' := by rw [hq, cs5]
  have qA : ∀ b, b < 189 ∨ 196 ≤ b → gA gq b = gA g b := fun b h1 => by
    rw [hq, csb _ _ _ _ _ (by omega), gA_sF]
    unfold ct3
    rw [gA_sA2 _ _ (by omega), gA_sA2 _ _ (by omega), gA_sA2 _ _ (by omega)]
  have qc : gA gq 195 = code' := by rw [hq, csa]
  have qL : gL gq = gL g := by rw [hq]; rfl
  have qw : gw gq = gw g := by rw [hq]; rfl
  have qn : gn gq = gn g := by rw [hq]; rfl
  have ql : gl gq = gl g := by rw [hq]; rfl
  clear hq
  obtain ⟨gd, hd⟩ : ∃ gd, gd = sF (sF gq 0 10 f') 4 1 (nI 0) := ⟨_, rfl⟩
  have dF : ∀ b, b ≠ 0 → b ≠ 4 → gF gd b = gF gq b := fun b h1 h2 => by rw [hd, gF_sF2 _ _ h2, gF_sF2 _ _ h1]
  have d0 : ∀ k, k ≠ 10 → gF gd 0 k = gF g 0 k := fun k hk => by rw [hd, gF_sF2 _ _ (by omega), gF_sF1, upd_2 _ _ hk, qF 0 (by omega) (by omega)]
  have d10 : gF gd 0 10 = f' := by rw [hd, gF_sF2 _ _ (by omega), gF_sF1, upd_1]
  have d4 : gF gd 4 1 = nI 0 := by rw [hd, gF_sF1, upd_1]
  have dA : gA gd = gA gq := by rw [hd]; rfl
  have dL : gL gd = gL g := by rw [hd]; exact qL
  have dw : gw gd = gw g := by rw [hd]; exact qw
  have dn : gn gd = gn g := by rw [hd]; exact qn
  have dl : gl gd = gl g := by rw [hd]; exact ql
  have head : fX11_law F 0 (gH g) = (if f' = (-1 : Int32) then ab_bd (ab_fr (gH gd) 0 11 1) fun v8 => ab_bd (ab_fr (gH gd) 0 11 6) fun v9 => ab_ck (ab_io (gH gd) v9 3 = true) (ab_bd (fX3_madeLaw F v9 (gH gd)) fun v10 => ab_bd (ab_fw v10.2 v8 8 7 (.ref v10.1)) fun h11 => ab_bd (ab_fr h11 0 11 4) fun v12 => ab_ck (ab_io h11 v12 6 = true) (ab_bd (fX6_forget v12 h11) fun h13 => ab_bd (ab_fr h13 0 11 1) fun v14 => ab_bd (ab_fr h13 v14 8 7) fun v15 => ab_bd (ab_fi h13 v15 2 0) fun v16 => some (.inl v16, h13))) else some (.inr "java/lang/IllegalArgumentException", gH gd)) := by
    unfold fX11_law
    refine (bd_e (fr_0_6 _)).trans ?_
    refine (ck_e (io_194 _)).trans ?_
    refine (bd_e e1).trans ?_
    refine (bd_e (fw_0_10 _ _)).trans ?_
    refine (bd_e (fr_0_0 _)).trans ?_
    refine (bd_e (fw_4_1 _ _)).trans ?_
    rw [← hd]
    exact bd_e (by rw [fi_0_10, d10])
  clear hd
  refine ⟨fun ok => ?_, fun no => ?_⟩
  · obtain ⟨x1, x2, x3, x4, x5⟩ := r1 ok
    subst x1
    have md := cl_made (g := gd) (N := N) (by rw [dn]; exact hN) hb (v := n') (len := s') (by rw [dF 194 (by omega) (by omega)]; exact q3) (by rw [dF 194 (by omega) (by omega)]; exact q5) x4 hF
    rw [dn] at md
    obtain ⟨gm, hm⟩ : ∃ gm, gm = mdG gd n' s' := ⟨_, rfl⟩
    rw [← hm] at md
    have mF : ∀ b, b ≠ 220 + gn g → gF gm b = gF gd b := fun b hb => by rw [hm]; unfold mdG; rw [gF_sA, nw_F (by rw [dn]; exact hb)]
    have m0 : gF gm (220 + gn g) 0 = n' := by rw [hm]; unfold mdG; rw [gF_sA, ← dn, nw_F0]
    have mA : ∀ b, b ≠ 220 + gn g + 1 → b ≠ 220 + gn g + 2 → gA gm b = gA gd b := fun b h1 h2 => by rw [hm]; unfold mdG; rw [gA_sA2 _ _ (by rw [dn]; exact h2), nw_A (by rw [dn]; exact h1) (by rw [dn]; exact h2)]
    have m2 : gA gm (220 + gn g + 2) = fun q => if q < s' then gA gd 195 q else 0 := by rw [hm]; unfold mdG; rw [← dn, gA_sA1]
    have ml : ∀ b, gl gm b = if b = 220 + gn g + 2 then s' else gl g b := fun b => by rw [hm]; unfold mdG; rw [gl_sA, nw_l, dn, dl]
    have mL : gL gm = gL g := by rw [hm, ← dL]; rfl
    have mw : gw gm = gw g := by rw [hm, ← dw]; rfl
    have mn : gn gm = gn g + 3 := by rw [hm, ← dn]; rfl
    clear hm
    have hx : isLw (sF (sW gm 6 (220 + gn g)) 42 2 (nI 0)) (220 + gn g) := Or.inr ⟨N, by rw [hN], by rw [gn_sF, gn_sW, mn]; omega⟩
    refine ⟨sF (sW gm 6 (220 + gn g)) 42 2 (nI 0), ?_, ?_, ?_, ?_, ?_, ?_, ?_, ?_, ?_, ?_, ?_, ?_, ?_, ?_, ?_, ?_, ?_⟩
    · refine head.trans ((if_pos rfl).trans ?_)
      refine (bd_e (fr_0_1 _)).trans ?_
      refine (bd_e (fr_0_6 _)).trans ?_
      refine (ck_e (io_194 _)).trans ?_
      refine (bd_e md).trans ?_
      refine (bd_e (fw_s7 _ _ isSt6)).trans ?_
      refine (bd_e (fr_0_4 _)).trans ?_
      refine (ck_e (io_42 _)).trans ?_
      refine (bd_e (show fX6_forget 42 (gH (sW gm 6 (220 + gn g))) = some (gH (sF (sW gm 6 (220 + gn g)) 42 2 (nI 0))) from by unfold fX6_forget; rw [fw_42_2, bdS])).trans ?_
      refine (bd_e (fr_0_1 _)).trans ?_
      refine (bd_e (show ab_fr (gH (sF (sW gm 6 (220 + gn g)) 42 2 (nI 0))) 6 8 7 = some (220 + gn g) from by rw [fr_s7 _ isSt6, gw_sF, gw_sW, if_pos rfl])).trans ?_
      refine (bd_e (fi_w0 _ hx)).trans ?_
      rw [gF_sF2 _ _ (by omega), gF_sW, m0, x2]
    · intro b h0 h4 h42 h188 h194 hn0
      rw [gF_sF2 _ _ h42, gF_sW, mF b hn0, dF b h0 h4, qF b h188 h194]
    · intro k hk
      rw [gF_sF2 _ _ (by omega), gF_sW, mF 0 (by omega), d0 k hk]
    · rw [gF_sF2 _ _ (by omega), gF_sW, mF 0 (by omega), d10]
    · rw [gF_sF2 _ _ (by omega), gF_sW, mF 4 (by omega), d4]
    · rw [gF_sF1, upd_1]
    · rw [gF_sF1, upd_2 _ _ (by omega), gF_sW, mF 42 (by omega), dF 42 (by omega) (by omega), qF 42 (by omega) (by omega)]
    · rw [gF_sF2 _ _ (by omega), gF_sW, mF 194 (by omega), dF 194 (by omega) (by omega), q1]
    · rw [gF_sF2 _ _ (by omega), gF_sW, m0, x2]
    · intro b hb h1 h2
      rw [gA_sF, gA_sW, mA b h1 h2, dA, qA b hb]
    · rw [gA_sF, gA_sW, m2, dA, qc]
      intro q hq
      rw [← x3] at hq
      show (if q < s' then code' q else 0) = _
      rw [if_pos hq]
      exact x5 q (by rw [← x3]; exact hq)
    · rw [gl_sF, gl_sW, ml, if_pos rfl, x3]
    · intro b hb
      rw [gl_sF, gl_sW, ml, if_neg hb]
    · rw [← mL]; rfl
    · rw [gw_sF, gw_sW, if_pos rfl]
    · intro b hb
      rw [gw_sF, gw_sW, if_neg hb, mw]
    · rw [gn_sF, gn_sW, mn]
  · obtain ⟨x1, x2⟩ := r2 no
    refine ⟨gd, head.trans (if_neg x2), fun b h0 h4 h188 h194 => by rw [dF b h0 h4, qF b h188 h194], d0, by rw [d10]; exact x1, d4, by rw [dF 194 (by omega) (by omega), q1], fun b hb => by rw [dA, qA b hb], dl, dL, dw, dn⟩
