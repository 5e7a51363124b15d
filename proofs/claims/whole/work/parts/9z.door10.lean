variable {Nq : Nat}
/-! ===== the class: knows, settings ===== -/
theorem ck0 {h : ab_H} {F x F' : Nat} {q : Int32} : fX1_readKnows_29 F 192 (nI x) (F' + 1) (nI 0) q h = some h := by
  rw [fX1_readKnows_29]
  split
  · exact if_pos nI_0
  · rfl
theorem cs_knowsL {g : gG} {t : Nat → Nat} {L Z : Nat} {n kk p : Nat} (hp : p < n) {F : Nat} (hF : 11000 < F) : ∀ k i m G q Fu, L - psn t L i < k → k + 1 < Fu → q ≤ i → (q = 0 ∨ kd t L (psn t L i) = 256) → Dq g t L Z G i (-1) m n kk → CL g t L Z (dKl t L n p k (psn t L i) m) (fX1_readKnows_29 F 192 (nI p) Fu (nI 1) (nI q) (gH G)) := by
  intro k
  induction k with
  | zero => intro i m G q Fu h; omega
  | succ k ih =>
    intro i m G q Fu hk hFu hq hq2 D
    obtain ⟨F', rfl⟩ : ∃ F', Fu = F' + 2 := ⟨Fu - 2, by omega⟩
    have h10 := D.2.2.2.2.1.n10
    have pl := D.pl
    have hbt : ∀ i, i < L → t i < 256 := fun i hi => (D.1.1.2.2 i hi).2
    have zi : psn t L i < L → i < Z := fun h => by
      apply Decidable.byContradiction
      intro h2
      have e : i = Z := by have := D.2.1; omega
      rw [e, D.1.2.2.1] at h; omega
    have zl : Z ≤ L := D.1.2.1
    have q4 : q < 400 := by
      rcases hq2 with h | h
      · omega
      · have := zi (kd_lt (t := t) (by omega)); omega
    have nh := dk_nh D.1 D.2.1 D.2.2.1 hF
    have hpn := cl_hasPerson D.2.2.2.2.1.1 (kI (nmb t L (psn t L i)))
    rw [inR_k (by omega)] at hpn
    have nl := nmb_lt (t := t) (L := L) (a := psn t L i)
    obtain ⟨G1, e1, i1, f1, D1, _, y1, y2, y3⟩ := D.ac (decide (nmb t L (psn t L i) < n ∧ ¬ kI (nmb t L (psn t L i)) = nI p))
    have ir := D1.ir
    rw [dKl]
    by_cases c : nmb t L (psn t L i) < n ∧ nmb t L (psn t L i) ≠ p
    · rw [if_pos c]
      have hl := nmb_in c.1 (by omega)
      have gt := nxt_gt (t := t) hl
      have kz : kI (nmb t L (psn t L i)) = nI (nmb t L (psn t L i)) := by unfold kI; rw [if_neg (by omega)]
      have nep : ¬ nI (nmb t L (psn t L i)) = nI p := fun h => c.2 (by rw [nI_eq (by omega) (by omega)] at h; exact h)
      obtain ⟨a1, a2, a3⟩ := y1 rfl (decide_eq_true ⟨c.1, by rw [kz]; exact nep⟩)
      have a3' : i1 = i + 1 := by rw [a3]; unfold gnx; rw [if_pos (zi hl)]
      rw [decide_eq_true (show nmb t L (psn t L i) < n ∧ ¬ kI (nmb t L (psn t L i)) = nI p from ⟨c.1, by rw [kz]; exact nep⟩)] at e1
      rw [decide_eq_true a1] at ir
      rw [decide_eq_true c.1] at hpn
      rw [kz] at nh hpn
      obtain ⟨G2, e2, s2, S2⟩ := D1.2.2.2.2.1.iw (r := 5) (a := 18 + 8) rfl (by omega) hp (m (12 + 6 * p + 5) ||| (nI 1 <<< (nI (nmb t L (psn t L i)) &&& 31)))
      have D2 := D1.fs s2 S2
      have ir2 := D2.ir
      rw [decide_eq_true a1] at ir2
      have ih6 := dk_ih D2.1 D2.2.1 D2.2.2.1 (k := 256) (by omega)
      have E : fX1_readKnows_29 F 192 (nI p) (F' + 2) (nI 1) (nI q) (gH G) = fX1_readKnows_29 F 192 (nI p) (F' + 1) (if kd t L (psn t L i1) = 256 then nI 1 else nI 0) (nI (q + 1)) (gH G2) := by
        rw [fX1_readKnows_29]
        refine (if_pos (nI_lt q4 (by omega))).trans ?_
        refine (if_neg (by decide)).trans ?_
        refine (bd_e (fr_192_0 _)).trans ?_
        refine (ck_e (io_188 _)).trans ?_
        refine (bd_e nh).trans ?_
        refine (bd_e (fr_192_5 _)).trans ?_
        refine (ck_e (io_s _ st18)).trans ?_
        refine (bd_e hpn).trans ?_
        refine (jn_e _ _).trans ?_
        refine (jn_e _ _).trans ?_
        refine (if_neg (show ¬ bI true = 0 by decide)).trans ?_
        refine (if_neg nep).trans ?_
        refine (ck_e (io_192 _)).trans ?_
        refine (bd_e e1).trans ?_
        refine (ck_e (io_192 _)).trans ?_
        refine (bd_e ir).trans ?_
        refine (jn_e _ _).trans ?_
        refine (if_neg (show ¬ bI true = 0 by decide)).trans ?_
        refine (bd_e (fr_192_5 _)).trans ?_
        refine (bd_e (fr_s14 _ st18)).trans ?_
        refine (bd_e ((ia_s8 _ st18 (by omega)).trans (congrArg some (D1.2.2.2.2.1.1.2.2.2.2.2.2.2.2.2.2.1 p hp)))).trans ?_
        refine (bd_e e2).trans ?_
        refine (ck_e (io_192 _)).trans ?_
        refine (bd_e ir2).trans ?_
        refine (if_neg (show ¬ bI true = 0 by decide)).trans ?_
        refine (ck_e (io_192 _)).trans ?_
        refine (bd_e ih6).trans ?_
        rw [nI_add]
        by_cases c6 : kd t L (psn t L i1) = 256
        · rw [if_pos c6, decide_eq_true c6]; exact if_neg (show ¬ bI true = 0 by decide)
        · rw [if_neg c6, decide_eq_false c6]; exact if_pos (bI_0.mpr rfl)
      rw [E, a2]
      by_cases c6 : kd t L (nxt t L (psn t L i)) = 256
      · rw [if_pos c6, if_pos c6, ← a2]
        rw [a1] at D2
        exact ih i1 _ G2 (q + 1) (F' + 1) (by rw [a2]; omega) (by omega) (by omega) (Or.inr (by rw [a2]; exact c6)) D2
      · rw [if_neg c6, if_neg c6]
        exact CL.ok ck0 D2 a1 a2
    · rw [if_neg c]
      have hd : decide (nmb t L (psn t L i) < n ∧ ¬ kI (nmb t L (psn t L i)) = nI p) = false := decide_eq_false (fun h => c ⟨h.1, fun e => h.2 (by unfold kI; rw [if_neg (by omega), e])⟩)
      have a1 := y2 rfl hd
      rw [hd] at e1
      have nf : ¬ f1 = -1 := by rw [a1]; exact nI_m1 (by omega)
      rw [decide_eq_false nf] at ir
      refine CL.no (G' := G1) ?_ D1 a1 (by omega)
      rw [fX1_readKnows_29]
      refine (if_pos (nI_lt q4 (by omega))).trans ?_
      refine (if_neg (by decide)).trans ?_
      refine (bd_e (fr_192_0 _)).trans ?_
      refine (ck_e (io_188 _)).trans ?_
      refine (bd_e nh).trans ?_
      refine (bd_e (fr_192_5 _)).trans ?_
      refine (ck_e (io_s _ st18)).trans ?_
      refine (bd_e hpn).trans ?_
      refine (jn_e _ _).trans ?_
      refine (jn_e _ _).trans ?_
      have J : (ab_ck (ab_io (gH G) 192 1 = true) (ab_bd (fX10_acceptD 192 (nI 0) (gH G)) fun h14 => ab_ck (ab_io h14 192 1 = true) (ab_bd (fX10_isRightD 192 h14) fun v15 => ab_jn (κ := ab_H → Option ab_H) (fun (h16 : ab_H) => ab_ck (ab_io h16 192 1 = true) (ab_bd (fX10_isRightD 192 h16) fun v17 => (if v17 = 0 then fX1_readKnows_29 F 192 (nI p) (F' + 1) (nI 0) (nI q + nI 1) h16 else ab_ck (ab_io h16 192 1 = true) (ab_bd (fX10_isHereD 192 (nI 256) h16) fun v19 => (if v19 = 0 then fX1_readKnows_29 F 192 (nI p) (F' + 1) (nI 0) (nI q + nI 1) h16 else fX1_readKnows_29 F 192 (nI p) (F' + 1) (nI 1) (nI q + nI 1) h16))))) fun j21 => (if v15 = 0 then j21 h14 else ab_bd (ab_fr h14 192 1 5) fun v23 => ab_bd (ab_fr h14 v23 8 14) fun v24 => ab_bd (ab_ia 0 h14 v24 (nI p)) fun v25 => ab_bd (ab_iw 0 h14 v24 (nI p) (v25 ||| ((nI 1) <<< (kI (nmb t L (psn t L i)) &&& 31)))) fun h26 => j21 h26)))) = some (gH G1) := by
        refine (ck_e (io_192 _)).trans ?_
        refine (bd_e e1).trans ?_
        refine (ck_e (io_192 _)).trans ?_
        refine (bd_e ir).trans ?_
        refine (jn_e _ _).trans ?_
        refine (if_pos (bI_0.mpr rfl)).trans ?_
        refine (ck_e (io_192 _)).trans ?_
        refine (bd_e ir).trans ?_
        refine (if_pos (bI_0.mpr rfl)).trans ?_
        exact ck0
      by_cases d : nmb t L (psn t L i) < n
      · rw [decide_eq_true d]
        refine (if_neg (show ¬ bI true = 0 by decide)).trans ?_
        refine (if_pos ?_).trans J
        have : nmb t L (psn t L i) = p := Decidable.byContradiction fun h => c ⟨d, h⟩
        unfold kI; rw [if_neg (by omega), this]
      · rw [decide_eq_false d]
        exact (if_pos (bI_0.mpr rfl)).trans J
theorem cs_knows {g : gG} {t : Nat → Nat} {L Z : Nat} {G : gG} {i : Nat} {m : Nat → Int32} {n k : Nat} (D : Dq g t L Z G i (-1) m n k) {F : Nat} (hF : 11000 < F) : CL g t L Z (dKnows t L (psn t L i) m n) (fX1_readKnows F 192 (gH G)) := by
  have h10 := D.2.2.2.2.1.n10
  obtain ⟨e0, D0, p0⟩ := D.go
  have hn : gF (sF G 188 4 (nI (gnx Z i))) 18 0 = nI n := D0.2.2.2.2.1.1.2.1
  unfold dKnows
  have pl0 := D0.pl
  generalize hG0 : sF G 188 4 (nI (gnx Z i)) = G0 at *
  generalize gnx Z i = i0 at *
  obtain ⟨G1, e1, i1, f1, D1, _, y1, y2, y3⟩ := D0.rn (lo := nI 0) (hi := nI n - nI 1) (by decide) hF
  rw [okN_n (by omega), p0] at y1 y2
  rw [p0] at e1 pl0
  have ir := D1.ir
  generalize hb : nxt t L (psn t L i) = b at *
  have E : fX1_readKnows F 192 (gH G) = fX1_readKnows_29 F 192 (kI (nmb t L b)) F (bI (decide (f1 = -1))) (nI 0) (gH G1) := by
    unfold fX1_readKnows
    refine (bd_e (fr_192_0 _)).trans ?_
    refine (ck_e (io_188 _)).trans ?_
    refine (bd_e e0).trans ?_
    refine (bd_e (fr_192_5 _)).trans ?_
    refine (bd_e ((fi_s0 _ st18).trans (congrArg some hn))).trans ?_
    refine (ck_e (io_192 _)).trans ?_
    refine (bd_e e1).trans ?_
    refine (ck_e (io_192 _)).trans ?_
    exact bd_e ir
  rw [E]
  by_cases c : nmb t L b < n
  · rw [if_pos c]
    obtain ⟨a1, a2, _⟩ := y1 rfl (decide_eq_true c)
    have kz : kI (nmb t L b) = nI (nmb t L b) := by unfold kI; rw [if_neg (by omega)]
    rw [kz, decide_eq_true a1, ← a2]
    rw [a1] at D1
    exact cs_knowsL c hF (L + 1) i1 m G1 0 F (by omega) (by have := D1.pl; omega) (by omega) (Or.inl rfl) D1
  · rw [if_neg c]
    have a1 := y2 rfl (decide_eq_false c)
    have nf : ¬ f1 = -1 := by rw [a1]; exact nI_m1 (by omega)
    rw [decide_eq_false nf]
    refine CL.no (G' := G1) ?_ D1 a1 (by omega)
    obtain ⟨F', rfl⟩ : ∃ F', F = F' + 1 := ⟨F - 1, by omega⟩
    rw [fX1_readKnows_29]
    refine (if_pos (by decide)).trans ?_
    exact if_pos (bI_0.mpr rfl)
/-- the settings -/
theorem SC.f6 {G : gG} {m : Nat → Int32} {n k : Nat} (S : SC G 18 m n k) (v : Int32) : SC (sF G 18 3 v) 18 (upd m 6 v) n k := by
  obtain ⟨⟨hx, q0, h10, q1, h12, e3, e4, e5, e6, e7, e8, e11, e9, e10⟩, k1, m3, m4, ⟨x1, x2, x3, x4, x5, x6⟩, Lo, B⟩ := S
  refine ⟨⟨hx, by rw [gF_sF1, upd_2 _ _ (by omega)]; exact q0, h10, by rw [gF_sF1, upd_2 _ _ (by omega)]; exact q1, h12, ?_, ?_, ?_, ?_, ?_, ?_, ?_, ?_, ?_⟩, k1, by rw [upd_2 _ _ (by omega)]; exact m3, by rw [upd_2 _ _ (by omega)]; exact m4, ⟨?_, ?_, ?_, ?_, ?_, by rw [upd_2 _ _ (by omega)]; exact x6⟩, Lo.keep (gF_sF2 _ _ (by omega)) rfl (upd_2 _ _ (by omega)) (fun q _ _ => upd_2 _ _ (by omega)), B.keep (fun _ _ _ _ _ _ => rfl) (fun _ _ _ _ _ => ⟨rfl, rfl⟩)⟩
  · intro p hp; rw [upd_2 _ _ (by omega)]; exact e3 p hp
  · intro p hp; rw [upd_2 _ _ (by omega)]; exact e4 p hp
  · intro p hp; rw [upd_2 _ _ (by omega)]; exact e5 p hp
  · intro p hp; rw [upd_2 _ _ (by omega)]; exact e6 p hp
  · intro p hp; rw [upd_2 _ _ (by omega)]; exact e7 p hp
  · intro p hp; rw [upd_2 _ _ (by omega)]; exact e8 p hp
  · intro p hp; rw [upd_2 _ _ (by omega)]; exact e11 p hp
  · intro p o hp ho; rw [upd_2 _ _ (by omega)]; exact e9 p o hp ho
  · intro p o hp ho; rw [upd_2 _ _ (by omega)]; exact e10 p o hp ho
  · rw [gF_sF1, upd_2 _ _ (by omega), upd_2 _ _ (by omega)]; exact x1
  · rw [gF_sF1, upd_1, upd_1]
  · rw [gF_sF1, upd_2 _ _ (by omega), upd_2 _ _ (by omega)]; exact x3
  · rw [gF_sF1, upd_2 _ _ (by omega), upd_2 _ _ (by omega)]; exact x4
  · rw [gF_sF1, upd_2 _ _ (by omega), upd_2 _ _ (by omega)]; exact x5
theorem SC.f7 {G : gG} {m : Nat → Int32} {n k : Nat} (S : SC G 18 m n k) (v : Int32) : SC (sF G 18 4 v) 18 (upd m 7 v) n k := by
  obtain ⟨⟨hx, q0, h10, q1, h12, e3, e4, e5, e6, e7, e8, e11, e9, e10⟩, k1, m3, m4, ⟨x1, x2, x3, x4, x5, x6⟩, Lo, B⟩ := S
  refine ⟨⟨hx, by rw [gF_sF1, upd_2 _ _ (by omega)]; exact q0, h10, by rw [gF_sF1, upd_2 _ _ (by omega)]; exact q1, h12, ?_, ?_, ?_, ?_, ?_, ?_, ?_, ?_, ?_⟩, k1, by rw [upd_2 _ _ (by omega)]; exact m3, by rw [upd_2 _ _ (by omega)]; exact m4, ⟨?_, ?_, ?_, ?_, ?_, by rw [upd_2 _ _ (by omega)]; exact x6⟩, Lo.keep (gF_sF2 _ _ (by omega)) rfl (upd_2 _ _ (by omega)) (fun q _ _ => upd_2 _ _ (by omega)), B.keep (fun _ _ _ _ _ _ => rfl) (fun _ _ _ _ _ => ⟨rfl, rfl⟩)⟩
  · intro p hp; rw [upd_2 _ _ (by omega)]; exact e3 p hp
  · intro p hp; rw [upd_2 _ _ (by omega)]; exact e4 p hp
  · intro p hp; rw [upd_2 _ _ (by omega)]; exact e5 p hp
  · intro p hp; rw [upd_2 _ _ (by omega)]; exact e6 p hp
  · intro p hp; rw [upd_2 _ _ (by omega)]; exact e7 p hp
  · intro p hp; rw [upd_2 _ _ (by omega)]; exact e8 p hp
  · intro p hp; rw [upd_2 _ _ (by omega)]; exact e11 p hp
  · intro p o hp ho; rw [upd_2 _ _ (by omega)]; exact e9 p o hp ho
  · intro p o hp ho; rw [upd_2 _ _ (by omega)]; exact e10 p o hp ho
  · rw [gF_sF1, upd_2 _ _ (by omega), upd_2 _ _ (by omega)]; exact x1
  · rw [gF_sF1, upd_2 _ _ (by omega), upd_2 _ _ (by omega)]; exact x2
  · rw [gF_sF1, upd_1, upd_1]
  · rw [gF_sF1, upd_2 _ _ (by omega), upd_2 _ _ (by omega)]; exact x4
  · rw [gF_sF1, upd_2 _ _ (by omega), upd_2 _ _ (by omega)]; exact x5
theorem SC.f4 {G : gG} {m : Nat → Int32} {n k v : Nat} (S : SC G 18 m n k) (h1 : 1 ≤ v) (h2 : v ≤ 12) : SC (sF G 18 1 (nI v)) 18 (upd m 4 (nI v)) n v := by
  obtain ⟨⟨hx, q0, h10, q1, h12, e3, e4, e5, e6, e7, e8, e11, e9, e10⟩, k1, m3, m4, ⟨x1, x2, x3, x4, x5, x6⟩, Lo, B⟩ := S
  refine ⟨⟨hx, by rw [gF_sF1, upd_2 _ _ (by omega)]; exact q0, h10, by rw [gF_sF1, upd_1], h2, ?_, ?_, ?_, ?_, ?_, ?_, ?_, ?_, ?_⟩, h1, by rw [upd_2 _ _ (by omega)]; exact m3, upd_1 _ _ _, ⟨?_, ?_, ?_, ?_, ?_, by rw [upd_2 _ _ (by omega)]; exact x6⟩, Lo.keep (gF_sF2 _ _ (by omega)) rfl (upd_2 _ _ (by omega)) (fun q _ _ => upd_2 _ _ (by omega)), B.keep (fun _ _ _ _ _ _ => rfl) (fun _ _ _ _ _ => ⟨rfl, rfl⟩)⟩
  · intro p hp; rw [upd_2 _ _ (by omega)]; exact e3 p hp
  · intro p hp; rw [upd_2 _ _ (by omega)]; exact e4 p hp
  · intro p hp; rw [upd_2 _ _ (by omega)]; exact e5 p hp
  · intro p hp; rw [upd_2 _ _ (by omega)]; exact e6 p hp
  · intro p hp; rw [upd_2 _ _ (by omega)]; exact e7 p hp
  · intro p hp; rw [upd_2 _ _ (by omega)]; exact e8 p hp
  · intro p hp; rw [upd_2 _ _ (by omega)]; exact e11 p hp
  · intro p o hp ho; rw [upd_2 _ _ (by omega)]; exact e9 p o hp ho
  · intro p o hp ho; rw [upd_2 _ _ (by omega)]; exact e10 p o hp ho
  · rw [gF_sF1, upd_2 _ _ (by omega), upd_2 _ _ (by omega)]; exact x1
  · rw [gF_sF1, upd_2 _ _ (by omega), upd_2 _ _ (by omega)]; exact x2
  · rw [gF_sF1, upd_2 _ _ (by omega), upd_2 _ _ (by omega)]; exact x3
  · rw [gF_sF1, upd_2 _ _ (by omega), upd_2 _ _ (by omega)]; exact x4
  · rw [gF_sF1, upd_2 _ _ (by omega), upd_2 _ _ (by omega)]; exact x5
