variable {Nq : Nat}
/-! ===== the class reads a sum: its turns ===== -/
theorem bd_e {α β : Type} {u : Option α} {x : α} {f : α → Option β} (h : u = some x) : ab_bd u f = f x := by rw [h, bdS]
theorem ck_e {ρ : Type} {a : Bool} {t : Option ρ} (h : a = true) : ab_ck (a = true) t = t := by rw [h, ck_t]
/-- one turn of a sum: a part, and a plus from the second on -/
theorem sum_step {g : gG} {t : Nat → Nat} {L Z : Nat} (X : Cx g t L Z) {i n : Nat} (hi : i ≤ Z) (hn : n < 400) {s : Nat} (hs : s ≤ 400) (code : Nat → Int32) {F : Nat} (hF : 11000 < F) (F' : Nat) : ∃ i2 f2 s2 code2, (pwN t L (psn t L i) ≠ 4000 → i2 = gnx Z i ∧ f2 = -1) ∧ (pwN t L (psn t L i) = 4000 → i2 = i ∧ f2 = nI (psn t L i)) ∧ s2 ≤ 400 ∧ (s < 400 → n = 0 → s2 = s + 1 ∧ code2 = upd code s (kI (pwN t L (psn t L i)))) ∧ (s + 1 < 400 → n ≠ 0 → s2 = s + 2 ∧ code2 = upd (upd code s (kI (pwN t L (psn t L i)))) (s + 1) (nI 1100)) ∧
  fX3_readSum_7 F 194 (F' + 1) (nI 1) (nI n) (gH (cst g (nI i) (-1) (nI s) code)) = if f2 = -1 ∧ kd t L (psn t L i2) = 43 then fX3_readSum_7 F 194 F' (nI 1) (nI (n + 1)) (gH (cst g (nI (gnx Z i2)) f2 (nI s2) code2)) else fX3_readSum_7 F 194 F' (nI 0) (nI (n + 1)) (gH (cst g (nI i2) f2 (nI s2) code2)) := by
  have i1 : ¬ (nI 1 : Int32) = 0 := by decide
  have kh := cl_kh X hi (-1) (nI s) code
  obtain ⟨_, _, _, pl⟩ := X.at hi
  -- behind the part
  obtain ⟨i2, f2, a1, a2, a3, hz⟩ : ∃ i2 f2, (pwN t L (psn t L i) ≠ 4000 → i2 = gnx Z i ∧ f2 = -1) ∧ (pwN t L (psn t L i) = 4000 → i2 = i ∧ f2 = nI (psn t L i)) ∧ i2 ≤ Z ∧ ∀ K : ab_H → Option ab_H, (ab_jn (κ := Int32 → Option ab_H) (fun (z7 : Int32) => ab_ck (ab_io (gH (cst g (nI i) (-1) (nI s) code)) 194 3 = true) (ab_bd (fX10_acceptL 194 z7 (gH (cst g (nI i) (-1) (nI s) code))) K)) fun j24 => (if kI (pwN t L (psn t L i)) = (-1 : Int32) then j24 (nI 0) else j24 (nI 1))) = K (gH (cst g (nI i2) f2 (nI s) code)) := by
    have hp : pwN t L (psn t L i) < 4001 := by rcases pwN_lt (t := t) (L := L) (a := psn t L i) with h | h <;> omega
    by_cases c : pwN t L (psn t L i) = 4000
    · refine ⟨i, nI (psn t L i), fun h => absurd c h, fun _ => ⟨rfl, rfl⟩, hi, fun K => ?_⟩
      rw [jn_e, if_pos ((kI_m1 hp).mpr c)]
      dsimp only
      rw [io_194, ck_t, cl_acN X hi, bdS]
    · refine ⟨gnx Z i, -1, fun _ => ⟨rfl, rfl⟩, fun h => absurd h c, (gnx_p X hi).2, fun K => ?_⟩
      rw [jn_e, if_neg (fun h => c ((kI_m1 hp).mp h))]
      dsimp only
      rw [io_194, ck_t, cl_acY X hi, bdS]
  -- behind what is emitted
  obtain ⟨s2, code2, b1, b2, b3, he⟩ : ∃ s2 code2, s2 ≤ 400 ∧ (s < 400 → n = 0 → s2 = s + 1 ∧ code2 = upd code s (kI (pwN t L (psn t L i)))) ∧ (s + 1 < 400 → n ≠ 0 → s2 = s + 2 ∧ code2 = upd (upd code s (kI (pwN t L (psn t L i)))) (s + 1) (nI 1100)) ∧ ∀ K : ab_H → Option ab_H, (ab_bd (fX3_emit 194 (kI (pwN t L (psn t L i))) (gH (cst g (nI i2) f2 (nI s) code))) fun h9 => ab_jn (κ := ab_H → Option ab_H) K fun j21 => (if nI n ≤ 0 then j21 h9 else ab_ck (ab_io h9 194 3 = true) (ab_bd (fX3_emit 194 (nI 1100) h9) fun h23 => j21 h23))) = K (gH (cst g (nI i2) f2 (nI s2) code2)) := by
    have e1 := cl_em g (nI i2) f2 (kI (pwN t L (psn t L i))) hs code
    by_cases c : n = 0
    · refine ⟨if s < 400 then s + 1 else s, if s < 400 then upd code s (kI (pwN t L (psn t L i))) else code, by split <;> omega, fun h _ => ⟨if_pos (by omega), if_pos (by omega)⟩, fun _ h => absurd c h, fun K => ?_⟩
      rw [e1, bdS, jn_e, if_pos (by rw [c]; exact nI00)]
    · have hs2 : (if s < 400 then s + 1 else s) ≤ 400 := by split <;> omega
      have e2 := cl_em g (nI i2) f2 (nI 1100) hs2 (if s < 400 then upd code s (kI (pwN t L (psn t L i))) else code)
      refine ⟨if (if s < 400 then s + 1 else s) < 400 then (if s < 400 then s + 1 else s) + 1 else (if s < 400 then s + 1 else s), if (if s < 400 then s + 1 else s) < 400 then upd (if s < 400 then upd code s (kI (pwN t L (psn t L i))) else code) (if s < 400 then s + 1 else s) (nI 1100) else (if s < 400 then upd code s (kI (pwN t L (psn t L i))) else code), ?_, fun _ h => absurd h c, fun h _ => ?_, fun K => ?_⟩
      · generalize (if s < 400 then s + 1 else s) = q at hs2
        by_cases k : q < 400
        · rw [if_pos k]; omega
        · rw [if_neg k]; omega
      · rw [if_pos (show s < 400 by omega), if_pos h, if_pos h, if_pos (show s < 400 by omega)]
        exact ⟨rfl, rfl⟩
      · rw [e1, bdS, jn_e, if_neg (by rw [← nI_0]; exact nI_ge (by omega) (by omega)), io_194, ck_t, e2, bdS]
  refine ⟨i2, f2, s2, code2, a1, a2, b1, b2, b3, ?_⟩
  have ih43 := cl_ih X a3 f2 (nI s2) code2 (k := 43) (by omega)
  have go := cl_go X a3 f2 (nI s2) code2
  have ir := cl_ir g (nI i2) f2 (nI s2) code2
  rw [fX3_readSum_7, if_pos ((nI_ltI (show n < 2 ^ 31 by omega) (by decide)).mpr hn), if_neg i1]
  refine (bd_e (fr_194_0 _)).trans ?_
  refine (ck_e (io_188 _)).trans ?_
  refine (bd_e kh).trans ?_
  refine (jn_e _ _).trans ?_
  refine (cl_part X hi (-1) (nI s) code hF _).trans ?_
  refine (hz _).trans ?_
  refine (ck_e (io_194 _)).trans ?_
  refine (he _).trans ?_
  refine (ck_e (io_194 _)).trans ?_
  refine (bd_e ir).trans ?_
  by_cases cf : f2 = -1
  · by_cases ck : kd t L (psn t L i2) = 43
    · rw [if_pos ⟨cf, ck⟩]
      rw [decide_eq_true ck] at ih43
      simp (disch := omega) only [jn_e, cf, decide_true, bI_0, reduceCtorEq, if_false, io_194, ck_t, ck_T, bdS, i1, fr_194_0, io_188, nI_add]
      rw [cf] at ih43 go
      simp (disch := omega) only [ih43, bdS, bI_0, reduceCtorEq, if_false, go]
    · rw [if_neg (fun h => ck h.2)]
      rw [decide_eq_false ck] at ih43
      simp (disch := omega) only [jn_e, cf, decide_true, bI_0, reduceCtorEq, if_false, io_194, ck_t, ck_T, bdS, i1, fr_194_0, io_188, nI_add]
      rw [cf] at ih43
      simp (disch := omega) only [ih43, bdS, bI_0, if_true, nI_0]
  · rw [if_neg (fun h => cf h.1)]
    simp (disch := omega) only [jn_e, cf, decide_false, bI_0, if_true, nI_0, nI_add]
