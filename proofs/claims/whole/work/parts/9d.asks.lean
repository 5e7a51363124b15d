variable {Nq : Nat}
/-! ===== the reference asks THE LAW ===== -/
theorem jsel {α : Type} {c : Prop} [i : Decidable c] (f : Int32 → Option α) (a b : Int32) : (ab_jn (κ := Int32 → Option α) f fun j => if c then j a else j b) = f (if c then a else b) := by
  rw [jn_e]
  by_cases h : c
  · rw [if_pos h, if_pos h]
  · rw [if_neg h, if_neg h]
theorem hit_cong {env env' : Nat → Int32} {w : Nat} : ∀ (c : List Nat) (st : List Int32), gWs c → (∀ x, x = 1002 ∨ (1013 ≤ x ∧ x ≤ 1019) → env x = env' x) → hit env w c st = hit env' w c st
  | [], _, _, _ => rfl
  | y :: c, st, hg, he => by
    have hc : gWs c := fun x hx => hg x (List.mem_cons_of_mem _ hx)
    have hy := hg y List.mem_cons_self
    rw [hit, hit]
    by_cases c7 : y = 1007 ∨ y = 1008
    · rw [if_pos c7, if_pos c7, hit_cong c [] hc he]
    · rw [if_neg c7, if_neg c7]
      have es : stp env y st = stp env' y st := by
        unfold stp
        by_cases c12 : y = 1012
        · rw [if_pos c12, if_pos c12]
        · rw [if_neg c12, if_neg c12]
          by_cases c11 : 1100 ≤ y
          · rw [if_pos c11, if_pos c11]
          · rw [if_neg c11, if_neg c11]
            by_cases c10 : y < 1000
            · rw [if_pos c10, if_pos c10]
            · rw [if_neg c10, if_neg c10, he y (by unfold gW at hy; omega)]
      rw [es]
      exact hit_cong c _ hc he
theorem len_lines {t : Nat → Nat} {L : Nat} (hb : ∀ i, i < L → t i < 256) : ∀ k a n c, a ≤ L → c.length ≤ a → (pLines t L k a n c).1 = true → (pLines t L k a n c).2.2.2.length ≤ L ∧ n + 1 ≤ (pLines t L k a n c).2.2.1 ∧ (pLines t L k a n c).2.2.1 ≤ n + k
  | 0, a, n, c, _, _, e => by cases e
  | k + 1, a, n, c, ha, hl, e => by
    rw [pLines] at e ⊢
    by_cases e1 : (pLine t L a).1 = true
    · obtain ⟨p1, p2, p3⟩ := (pg_line (t := t) hb ha).1 e1
      have p4 := p2.2
      rw [if_pos e1] at e ⊢
      have ln : (c ++ (pLine t L a).2.2).length = c.length + (pLine t L a).2.2.length := List.length_append
      by_cases c1 : kd t L (pLine t L a).2.1 = 4000
      · rw [if_pos c1]
        refine ⟨?_, Nat.le_refl _, ?_⟩
        · show (c ++ (pLine t L a).2.2).length ≤ L
          omega
        · show n + 1 ≤ n + (k + 1)
          omega
      · rw [if_neg c1] at e ⊢
        by_cases c2 : kd t L (pLine t L a).2.1 = 59
        · rw [if_pos c2] at e ⊢
          have hl2 : (pLine t L a).2.1 < L := kd_lt (t := t) (by omega)
          have gt := nxt_gt (t := t) hl2
          obtain ⟨q1, q2, q3⟩ := len_lines hb k _ (n + 1) _ (nxt_nrm (t := t) hl2).2 (by omega) e
          exact ⟨q1, by omega, by omega⟩
        · rw [if_neg c2] at e; cases e
    · rw [if_neg e1] at e; cases e
theorem len_law {t : Nat → Nat} {L : Nat} (hb : ∀ i, i < L → t i < 256) (e : (pLaw t L).1 = true) : (pLaw t L).2.2.2.length ≤ L ∧ (pLaw t L).2.2.1 ≤ 12 ∧ ((pLaw t L).2.2.1 = 0 → (pLaw t L).2.2.2 = []) := by
  unfold pLaw at *
  by_cases c : kd t L (rn (bk t) L 0) = 4000
  · rw [if_pos c]; exact ⟨Nat.zero_le _, by show 0 ≤ 12; omega, fun _ => rfl⟩
  · rw [if_neg c] at e ⊢
    obtain ⟨q1, q2, q3⟩ := len_lines hb 12 _ 0 [] (rn_le 0 (Nat.zero_le _)) (Nat.zero_le _) e
    exact ⟨q1, by omega, fun h => by omega⟩
/-- THE LAW as both have it -/
def LwC (g : gG) (w : Nat) (m : Nat → Int32) (C : List Nat) : Prop := isLw g w ∧ gl g (w + 2) = C.length ∧ rep (gA g (w + 2)) C ∧ C.length ≤ 400 ∧ gWs C ∧ ((m 1 < nI 1 ∧ C = []) ∨ (¬ m 1 < nI 1 ∧ ∃ (L : Nat) (t : Nat → Nat), L ≤ 400 ∧ m 2 = nI L ∧ (∀ i, i < L → m (584 + i) = nI (t i) ∧ t i < 256) ∧ (pLaw t L).1 = true ∧ C = (pLaw t L).2.2.2))
theorem LW.c {g : gG} {w : Nat} {m : Nat → Int32} (h : LW g w m) : ∃ C, LwC g w m C := by
  obtain ⟨h1, h2, h3 | ⟨L, t, l1, l2, l3, l4, l5, l6, l7⟩⟩ := h
  · refine ⟨[], h1, h3.2, fun q hq => absurd hq (Nat.not_lt_zero q), by decide, gWs_nil, Or.inl ⟨by rw [h3.1]; decide, rfl⟩⟩
  · have hb : ∀ i, i < L → t i < 256 := fun i hi => (l3 i hi).2
    obtain ⟨q1, q2, q3⟩ := len_law hb l4
    have l3' : ∀ i, i < L → m (584 + i) = nI (t i) ∧ t i < 256 := fun i hi => by
      have := l3 i hi
      unfold cut at this
      rw [if_pos (by omega)] at this
      exact this
    refine ⟨(pLaw t L).2.2.2, h1, l6, l7, by omega, gw_law l4, ?_⟩
    by_cases c : (pLaw t L).2.2.1 = 0
    · left
      refine ⟨by rw [l5, c]; decide, q3 c⟩
    · right
      refine ⟨by rw [l5]; exact fun h => by have := (nI_ltI (by omega) (by decide)).mp h; omega, L, t, l1, l2, l3', l4, rfl⟩
def factM (m : Nat → Int32) (k p : Nat) (f : Nat → Int32) : Nat → Int32 := upd (upd (upd (upd (upd (upd f 0 (nI p)) 1 (m 5)) 2 (if m (12 + 6 * p + 3) = -1 then nI 99 else m (12 + 6 * p + 3))) 3 (if fM m p = -1 then nI 0 else nI (pc (m (12 + 6 * nv (fM m p)))))) 4 (hgM m k)) 5 (nI k - hgM m k)
theorem rf_asks {g : gG} {n k p w : Nat} {C : List Nat} (W : Iw (gA g 207) n k) (hn : gA g 207 3 = nI n) (h10 : n ≤ 10) (hk : gA g 207 4 = nI k) (h12 : k ≤ 12) (hp : p < n) (H : LwC g w (gA g 207) C) (hb : Bo g) {F : Nat} (hF : 11000 < F) : ∃ g2, fX12_asks F 206 (nI p) (gH g) = some (gH g2) ∧ (∀ b, b ≠ 206 → gF g2 b = gF g b) ∧ (∀ j, j < 9 ∨ j = 12 → gF g2 206 j = gF g 206 j) ∧ Bo g2 ∧ (∀ b, b ≠ 212 → gA g2 b = gA g b) ∧ gL g2 = gL g ∧ gw g2 = gw g ∧ gn g2 = gn g ∧ gl g2 = gl g ∧ gF g2 206 17 = bI (hit (envM (gA g 207) k p) 1007 C []) ∧ gF g2 206 18 = bI (hit (envM (gA g 207) k p) 1008 C []) := by
  obtain ⟨_, _, _, _, hg, H⟩ := H
  generalize hm : gA g 207 = m at *
  obtain ⟨g', hg'⟩ : ∃ g', g' = sF (sF g 206 17 (nI 0)) 206 18 (nI 0) := ⟨_, rfl⟩
  have mA : gA g' 207 = m := by rw [hg']; exact hm
  have pF : ∀ b, b ≠ 206 → gF g' b = gF g b := fun b h => by rw [hg', gF_sF2 _ _ h, gF_sF2 _ _ h]
  have p6 : ∀ j, j ≠ 17 → j ≠ 18 → gF g' 206 j = gF g 206 j := fun j a b => by rw [hg', gF_sF1, upd_2 _ _ b, gF_sF1, upd_2 _ _ a]
  have p17 : gF g' 206 17 = nI 0 := by rw [hg', gF_sF1, upd_2 _ _ (by omega), gF_sF1, upd_1]
  have p18 : gF g' 206 18 = nI 0 := by rw [hg', gF_sF1, upd_1]
  have pA : ∀ b, gA g' b = gA g b := fun b => by rw [hg']; rfl
  have pL : gL g' = gL g := by rw [hg']; rfl
  have pw : gw g' = gw g := by rw [hg']; rfl
  have pn : gn g' = gn g := by rw [hg']; rfl
  have pl : gl g' = gl g := by rw [hg']; rfl
  rcases H with ⟨c1, cC⟩ | ⟨c1, L, t, l1, l2, l3, l4, l5⟩
  · subst cC
    refine ⟨g', ?_, pF, fun j hj => p6 j (by omega) (by omega), ?_, fun b _ => pA b, pL, pw, pn, pl, p17, p18⟩
    · unfold fX12_asks
      refine (bd_e (fw_206_17 _ _)).trans ?_
      refine (bd_e (fw_206_18 _ _)).trans ?_
      rw [← hg']
      refine (bd_e (fr_206_1 _)).trans ?_
      refine (bd_e (ia_207 _ (show 1 < 984 by omega))).trans ?_
      rw [mA]
      exact if_pos c1
    · unfold Bo; rw [p6 15 (by omega) (by omega), p6 16 (by omega) (by omega)]; exact hb
  · -- the FACE
    have tk := W.2.2.2.2.2 p hp
    have fi := fM_in W hp h12
    have fc : ∀ J : Int32 → Option ab_H, (if m (12 + 6 * p + 2) = (-1 : Int32) then (if m (12 + 6 * p + 3) = (-1 : Int32) then J (-1 : Int32) else ab_bd (ab_fr (gH g') 206 12 1) fun v59 => ab_bd (ab_ia 0 (gH g') v59 ((nI 272) + m (12 + 6 * p + 3))) fun v60 => J v60) else ab_ck (ab_io (gH g') 206 12 = true) (ab_bd (fX12_of 206 (nI p) (nI 2) (gH g')) fun v61 => J v61)) = J (fM m p) := fun J => by
      unfold fM
      by_cases d1 : m (12 + 6 * p + 2) = -1
      · rw [if_pos d1, if_pos d1]
        by_cases d2 : m (12 + 6 * p + 3) = -1
        · rw [if_pos d2, if_pos d2]
        · rw [if_neg d2, if_neg d2]
          obtain ⟨j, hj, e⟩ := tk.resolve_left d2
          rw [e, nv_nI (by omega), nI_add]
          refine (bd_e (fr_206_1 _)).trans ?_
          refine (bd_e (ia_207 _ (show 272 + j < 984 by omega))).trans ?_
          rw [mA]
      · rw [if_neg d1, if_neg d1]
        refine (ck_e (io_206 _)).trans ?_
        refine (bd_e (rf_of _ (show 12 + 6 * p + 2 < 984 by omega))).trans ?_
        rw [mA]
    -- the facts
    obtain ⟨x1, hx1⟩ : ∃ x, x = sA g' 212 (upd (gA g' 212) 0 (nI p)) := ⟨_, rfl⟩
    obtain ⟨fs, hfs⟩ : ∃ f, f = factM m k p (gA g' 212) := ⟨_, rfl⟩
    obtain ⟨ow, how⟩ : ∃ v, v = (if fM m p = nI p then nI 1 else nI 0) := ⟨_, rfl⟩
    obtain ⟨wd, hwd⟩ : ∃ v, v = (if m (12 + 6 * p + 4) = -1 then nI 0 else nI 1) := ⟨_, rfl⟩
    have ow1 : ow = nI 0 ∨ ow = nI 1 := by rw [how]; split <;> simp
    have wd1 : wd = nI 0 ∨ wd = nI 1 := by rw [hwd]; split <;> simp
    obtain ⟨gx, hgx⟩ : ∃ v, v = sF (sF (sA g' 212 fs) 206 15 ow) 206 16 wd := ⟨_, rfl⟩
    obtain ⟨gf, hgf⟩ : ∃ v, v = sF (sF gx 206 9 (nI 584)) 206 10 (nI L) := ⟨_, rfl⟩
    have mX : gA gx 207 = m := by rw [hgx, gA_sF, gA_sF, gA_sA2 _ _ (by omega)]; exact mA
    have xt : sF (sF (sF (sF (sF gx 206 12 (-1)) 206 9 (nI 584)) 206 10 (nI L)) 206 11 (nI 0)) 206 13 (nI 0) = tx gf (nI 0) (-1) (nI 0) (nI 0) (nI 0) := by
      have k17 : gF gx 206 17 = nI 0 := by rw [hgx, gF_sF1, upd_2 _ _ (by omega), gF_sF1, upd_2 _ _ (by omega), gF_sA]; exact p17
      have k18 : gF gx 206 18 = nI 0 := by rw [hgx, gF_sF1, upd_2 _ _ (by omega), gF_sF1, upd_2 _ _ (by omega), gF_sA]; exact p18
      rw [hgf]
      clear hgx
      refine st_ext rfl (fun b j => ?_) (fun b => rfl) (fun b => rfl)
      by_cases c : b = 206
      · subst c
        unfold tx
        simp only [gF_sF1, upd_e]
        by_cases j18 : j = 18
        · subst j18; exact k18
        by_cases j17 : j = 17
        · subst j17; exact k17
        by_cases j13 : j = 13
        · subst j13; rfl
        by_cases j12 : j = 12
        · subst j12; rfl
        by_cases j11 : j = 11
        · subst j11; rfl
        simp only [j18, j17, j13, j12, j11, if_false]
      · rw [tfx _ _ _ _ _ _ c]
        simp only [gF_sF2 _ _ c]
    have fF : ∀ b, b ≠ 206 → gF gf b = gF g b := fun b h => by rw [hgf, gF_sF2 _ _ h, gF_sF2 _ _ h, hgx, gF_sF2 _ _ h, gF_sF2 _ _ h, gF_sA, pF b h]
    have f6 : ∀ j, j ≠ 9 → j ≠ 10 → j ≠ 15 → j ≠ 16 → j ≠ 17 → j ≠ 18 → gF gf 206 j = gF g 206 j := fun j a b c d e f => by rw [hgf, gF_sF1, upd_2 _ _ b, gF_sF1, upd_2 _ _ a, hgx, gF_sF1, upd_2 _ _ d, gF_sF1, upd_2 _ _ c, gF_sA, p6 j e f]
    have f15 : gF gf 206 15 = ow := by rw [hgf, gF_sF1, upd_2 _ _ (by omega), gF_sF1, upd_2 _ _ (by omega), hgx, gF_sF1, upd_2 _ _ (by omega), gF_sF1, upd_1]
    have f16 : gF gf 206 16 = wd := by rw [hgf, gF_sF1, upd_2 _ _ (by omega), gF_sF1, upd_2 _ _ (by omega), hgx, gF_sF1, upd_1]
    have f9 : gF gf 206 9 = nI 584 := by rw [hgf, gF_sF1, upd_2 _ _ (by omega), gF_sF1, upd_1]
    have f10 : gF gf 206 10 = nI L := by rw [hgf, gF_sF1, upd_1]
    have fA : ∀ b, b ≠ 212 → gA gf b = gA g b := fun b h => by rw [hgf, gA_sF, gA_sF, hgx, gA_sF, gA_sF, gA_sA2 _ _ h, pA]
    have f212 : gA gf 212 = fs := by rw [hgf, gA_sF, gA_sF, hgx, gA_sF, gA_sF, gA_sA1]
    have fL : gL gf = gL g := by rw [hgf, hgx, ← pL]; rfl
    have fw : gw gf = gw g := by rw [hgf, hgx, ← pw]; rfl
    have fn : gn gf = gn g := by rw [hgf, hgx, ← pn]; rfl
    have fl : gl gf = gl g := by rw [hgf, hgx, ← pl]; rfl
    have bf : Bo gf := ⟨by rw [f15]; exact ow1, by rw [f16]; exact wd1⟩
    have HL : Ltx gf t L := ⟨f10, l1, fun i hi => (l3 i hi).2, Or.inr ⟨f9, fun i hi => by rw [fA 207 (by omega), hm]; exact (l3 i hi).1⟩⟩
    have ev : ∀ x, x = 1002 ∨ (1013 ≤ x ∧ x ≤ 1019) → envR gf x = envM m k p x := fun x hx => by
      have hw' : x = 1002 ∨ x = 1013 ∨ x = 1014 ∨ x = 1015 ∨ x = 1016 ∨ x = 1017 ∨ x = 1018 ∨ x = 1019 := by omega
      unfold envR
      rw [f15, f16, f212, hfs]
      rcases hw' with rfl | rfl | rfl | rfl | rfl | rfl | rfl | rfl
      · exact hwd
      · exact how
      · rfl
      · rfl
      · rfl
      · rfl
      · rfl
      · rfl
    obtain ⟨n', a', f', d', u', v', e1, r1, _⟩ := rf_readL HL bf hF (nI 0) (nI 0)
    obtain ⟨z1, z2, z3, z4⟩ := r1 l4
    rw [← l5, hit_cong C [] hg ev] at z3 z4
    have fl3 : ∀ b : Bool, flg b (nI 0) = bI b := fun b => by cases b <;> rfl
    rw [fl3] at z3 z4
    refine ⟨sF (tx gf a' f' d' u' v') 206 12 (gF g 206 12), ?_, fun b h => by rw [gF_sF2 _ _ h, tfx _ _ _ _ _ _ h, fF b h], fun j hj => ?_, ?_, fun b h => by rw [gA_sF, tA, fA b h], by rw [← fL]; rfl, by rw [← fw]; rfl, by rw [← fn]; rfl, by rw [← fl]; rfl, by rw [gF_sF1, upd_2 _ _ (by omega), tf17, z3], by rw [gF_sF1, upd_2 _ _ (by omega), tf18, z4]⟩
    · have hhg : ∀ q, gA q 207 = m → fX12_hung F 206 (gH q) = some (hgM m k) := fun q hq => by
        have := rf_hung q (by rw [hq]; exact hk) h12 hF
        rw [hq] at this
        exact this
      unfold fX12_asks
      refine (bd_e (fw_206_17 _ _)).trans ?_
      refine (bd_e (fw_206_18 _ _)).trans ?_
      rw [← hg']
      have wr : ∀ (f : Nat → Int32) (i : Nat) (v : Int32), i < 6 → ab_iw 0 (gH (sA g' 212 f)) 212 (nI i) v = some (gH (sA g' 212 (upd f i v))) := fun f i v hi => by
        rw [iw_212 _ _ hi, gA_sA1, sA_sA]
      have rd : ∀ (f : Nat → Int32) (i : Nat), i < 984 → ab_ia 0 (gH (sA g' 212 f)) 207 (nI i) = some (m i) := fun f i hi => by
        rw [ia_207 _ hi, gA_sA2 _ _ (by omega), mA]
      have ro : ∀ (f : Nat → Int32) (q j : Nat), 12 + 6 * q + j < 984 → fX12_of 206 (nI q) (nI j) (gH (sA g' 212 f)) = some (m (12 + 6 * q + j)) := fun f q j h => by
        rw [rf_of _ h, gA_sA2 _ _ (by omega), mA]
      have cbe : ∀ {v : Int32} {X : Option ab_H}, v = nI 0 ∨ v = nI 1 → ab_cb v X = X := fun {v X} h => by
        rcases h with h | h
        · rw [h]; exact cb_0
        · rw [h]; exact cb_1
      refine (bd_e (fr_206_1 _)).trans ?_
      refine (bd_e (ia_207 _ (show 1 < 984 by omega))).trans ?_
      rw [mA]
      refine (if_neg c1).trans ?_
      refine (ck_e (io_206 _)).trans ?_
      refine (bd_e (rf_of _ (show 12 + 6 * p + 3 < 984 by omega))).trans ?_
      rw [mA]
      refine (ck_e (io_206 _)).trans ?_
      refine (bd_e (rf_of _ (show 12 + 6 * p + 2 < 984 by omega))).trans ?_
      rw [mA]
      refine (jn_e _ _).trans ?_
      refine (fc _).trans ?_
      refine (bd_e (fr_206_14 _)).trans ?_
      refine (bd_e (iw_212 _ _ (show 0 < 6 by omega))).trans ?_
      refine (bd_e (fr_206_14 _)).trans ?_
      refine (bd_e (fr_206_1 _)).trans ?_
      refine (bd_e (rd _ 5 (by omega))).trans ?_
      refine (bd_e (wr _ 1 _ (by omega))).trans ?_
      refine (bd_e (fr_206_14 _)).trans ?_
      refine (jsel _ _ _).trans ?_
      refine (bd_e (wr _ 2 _ (by omega))).trans ?_
      refine (bd_e (fr_206_14 _)).trans ?_
      refine (jn_e _ _).trans ?_
      have fb : ∀ (f : Nat → Int32) (J : Int32 → Option ab_H), (if fM m p = (-1 : Int32) then J (nI 0) else ab_ck (ab_io (gH (sA g' 212 f)) 206 12 = true) (ab_bd (fX12_of 206 (fM m p) (nI 0) (gH (sA g' 212 f))) fun v52 => ab_bd (fX12_bits F v52 (gH (sA g' 212 f))) fun v53 => J v53)) = J (if fM m p = -1 then nI 0 else nI (pc (m (12 + 6 * nv (fM m p))))) := fun f J => by
        by_cases d : fM m p = -1
        · rw [if_pos d, if_pos d]
        · rw [if_neg d, if_neg d]
          obtain ⟨q, hq, e⟩ := fi.resolve_left d
          rw [e, nv_nI (by omega)]
          refine (ck_e (io_206 _)).trans ?_
          refine (bd_e (ro f q 0 (by omega))).trans ?_
          exact bd_e (rf_bits _ _ hF)
      refine (fb _ _).trans ?_
      refine (bd_e (wr _ 3 _ (by omega))).trans ?_
      refine (bd_e (fr_206_14 _)).trans ?_
      refine (ck_e (io_206 _)).trans ?_
      refine (bd_e (hhg _ (by rw [gA_sA2 _ _ (by omega), mA]))).trans ?_
      refine (bd_e (wr _ 4 _ (by omega))).trans ?_
      refine (bd_e (fr_206_14 _)).trans ?_
      refine (bd_e (fr_206_1 _)).trans ?_
      refine (bd_e (rd _ 4 (by omega))).trans ?_
      refine (ck_e (io_206 _)).trans ?_
      refine (bd_e (hhg _ (by rw [gA_sA2 _ _ (by omega), mA]))).trans ?_
      rw [hk]
      refine (bd_e (wr _ 5 _ (by omega))).trans ?_
      rw [show upd (upd (upd (upd (upd (upd (gA g' 212) 0 (nI p)) 1 (m 5)) 2 (if m (12 + 6 * p + 3) = -1 then nI 99 else m (12 + 6 * p + 3))) 3 (if fM m p = -1 then nI 0 else nI (pc (m (12 + 6 * nv (fM m p)))))) 4 (hgM m k)) 5 (nI k - hgM m k) = fs from hfs.symm]
      refine (jsel _ _ _).trans ?_
      rw [← how]
      refine (cbe ow1).trans ?_
      refine (bd_e (fw_206_15 _ _)).trans ?_
      refine (ck_e (io_206 _)).trans ?_
      refine (bd_e (rf_of _ (show 12 + 6 * p + 4 < 984 by omega))).trans ?_
      rw [gA_sF, gA_sA2 _ _ (by omega), mA]
      refine (jsel _ _ _).trans ?_
      rw [← hwd]
      refine (cbe wd1).trans ?_
      refine (bd_e (fw_206_16 _ _)).trans ?_
      rw [← hgx]
      refine (bd_e (fi_206_12 _)).trans ?_
      refine (bd_e (fw_206_12 _ _)).trans ?_
      refine (bd_e (fw_206_9 _ _)).trans ?_
      refine (bd_e (fr_206_1 _)).trans ?_
      refine (bd_e (ia_207 _ (show 2 < 984 by omega))).trans ?_
      rw [gA_sF, gA_sF, mX, l2]
      refine (bd_e (fw_206_10 _ _)).trans ?_
      refine (bd_e (fw_206_11 _ _)).trans ?_
      refine (bd_e (fw_206_13 _ _)).trans ?_
      rw [xt]
      refine (ck_e (io_206 _)).trans ?_
      refine (bd_e e1).trans ?_
      refine (bd_e (fw_206_12 _ _)).trans ?_
      have x12 : gF gx 206 12 = gF g 206 12 := by rw [hgx, gF_sF1, upd_2 _ _ (by omega), gF_sF1, upd_2 _ _ (by omega), gF_sA, p6 12 (by omega) (by omega)]
      rw [x12]
    · rw [gF_sF1, upd_e]
      by_cases c : j = 12
      · rw [if_pos c, c]
      · rw [if_neg c, tfo _ _ _ _ _ _ (by omega)]; exact f6 j (by omega) (by omega) (by omega) (by omega) (by omega) (by omega)
    · unfold Bo
      rw [gF_sF1, upd_2 _ _ (by omega), upd_2 _ _ (by omega), tf15, tf16]
      exact bf
