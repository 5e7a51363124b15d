variable {Nq : Nat}
/-! ===== findsFace ===== -/
def kst (g : gG) (o : Nat → Int32) (T : Nat) : gG := sF (sA g 201 o) 196 8 (nI T)
theorem or1_lt {T i : Nat} (hT : T < 1024) (hi : i < 10) : T ||| 2 ^ i < 1024 := Nat.or_lt_two_pow (n := 10) hT (Nat.pow_lt_pow_right (by decide) hi)
def FS (al : Nat → Int32) (n p : Nat) (o : Nat → Int32) (T : Nat) (b : Bool) (o' : Nat → Int32) (T' : Nat) : Prop := T' < 1024 ∧ (∀ f, T.testBit f = true → T'.testBit f = true) ∧
  (b = true → okO al o' n ∧ (∀ f, f < n → T.testBit f = true → o' f = o f) ∧ ∀ r, r < n → cn o' n r = cn o n r + (if r = p then 1 else 0)) ∧
  (b = false → o' = o ∧ (∀ f, f < n → bt (al p) f = true → T'.testBit f = true) ∧ clo al o n T T')
theorem cl_finds {g : gG} {n : Nat} (hn : gF g 196 6 = nI n) (h10 : n ≤ 10) {F : Nat} (hF : 11000 < F) : ∀ D p d o T, p < n → T < 1024 → okO (gA g 200) o n → un T n + d ≤ 10 → un T n < D → ∃ b o' T', fX7_findsFace F D 196 (nI p) (nI d) (gH (kst g o T)) = some (bI b, gH (kst g o' T')) ∧ FS (gA g 200) n p o T b o' T'
  | 0, p, d, o, T, _, _, _, _, h => absurd h (Nat.not_lt_zero _)
  | D + 1, p, d, o, T, hp, hT, ho, hd, hD => by
    have f6 : ∀ o T, gF (kst g o T) 196 6 = nI n := fun o T => hn
    have f8 : ∀ o T, gF (kst g o T) 196 8 = nI T := fun o T => rfl
    have a0 : ∀ o T, gA (kst g o T) 200 = gA g 200 := fun o T => by unfold kst; rw [gA_sF, gA_sA2 _ _ (by omega)]
    have a1 : ∀ o T, gA (kst g o T) 201 = o := fun o T => by unfold kst; rw [gA_sF, gA_sA1]
    have w8 : ∀ o T T', sF (kst g o T) 196 8 (nI T') = kst g o T' := fun o T T' => by unfold kst; rw [sF_sF]
    have w1 : ∀ o T o', sA (kst g o T) 201 o' = kst g o' T := fun o T o' => by unfold kst; rw [sA_sF, sA_sA]
    show ∃ b o' T', fX7_findsFace_2 F (fX7_findsFace F D) 196 (nI p) (nI d) F (nI 0) (gH (kst g o T)) = _ ∧ _
    by_cases cd : d < 10
    · have loop : ∀ m i T1 Fu, i + m = n → m < Fu → T1 < 1024 → (∀ f, T.testBit f = true → T1.testBit f = true) → un T1 n + d ≤ 10 → un T1 n < D + 1 → clo (gA g 200) o n T T1 → (∀ f, f < i → bt (gA g 200 p) f = true → T1.testBit f = true) → ∃ b o' T', fX7_findsFace_2 F (fX7_findsFace F D) 196 (nI p) (nI d) Fu (nI i) (gH (kst g o T1)) = some (bI b, gH (kst g o' T')) ∧ FS (gA g 200) n p o T b o' T' := by
        intro m
        induction m with
        | zero =>
          intro i T1 Fu hi hFu h1 h2 h3 h4 h5 h6
          obtain ⟨F', rfl⟩ : ∃ F', Fu = F' + 1 := ⟨Fu - 1, by omega⟩
          have e : i = n := by omega
          subst e
          refine ⟨false, o, T1, ?_, h1, h2, (fun h => by cases h), fun _ => ⟨rfl, h6, h5⟩⟩
          simp (disch := omega) only [fX7_findsFace_2, io_196, fi_196_6, fr_196_3, ia_200, iw_200, fi_196_8, fw_196_8, fr_196_4, ia_201, iw_201, bdS, ck_t, ck_T, cb_0, cb_1, ab_jn, if_true, if_false, f6, Nat.lt_irrefl, nI_ltI, if_false]
          rfl
        | succ m ih =>
          intro i T1 Fu hi hFu h1 h2 h3 h4 h5 h6
          obtain ⟨F', rfl⟩ : ∃ F', Fu = F' + 1 := ⟨Fu - 1, by omega⟩
          have hin : i < n := by omega
          have eb : bt (gA g 200 p &&& (nI T1 ^^^ (-1))) i = (bt (gA g 200 p) i && !T1.testBit i) := by
            rw [b_and, b_not _ (by omega), bt_nI' (by omega)]
          cases c : (bt (gA g 200 p) i && !T1.testBit i)
          · obtain ⟨b, o', T', e, q⟩ := ih (i + 1) T1 F' (by omega) (by omega) h1 h2 h3 h4 h5 (fun f hf hb => by
              by_cases k : f = i
              · subst k
                rw [hb, Bool.true_and] at c
                simpa using c
              · exact h6 f (by omega) hb)
            refine ⟨b, o', T', ?_, q⟩
            simp (disch := omega) only [fX7_findsFace_2, io_196, fi_196_6, fr_196_3, ia_200, iw_200, fi_196_8, fw_196_8, fr_196_4, ia_201, iw_201, bdS, ck_t, ck_T, cb_0, cb_1, ab_jn, if_true, if_false, f6, f8, a0, hin, cd, cl_hasX, eb, c, bI_0, nI_ltI, nI_add, if_true]
            exact e
          · rw [Bool.and_eq_true] at c
            obtain ⟨ca, cT⟩ := c
            have cT : T1.testBit i = false := by simpa using cT
            have c : (bt (gA g 200 p) i && !T1.testBit i) = true := by rw [ca, cT]; rfl
            have s1 := sh1 (k := i) (by omega)
            have l2 := or1_lt h1 (show i < 10 by omega)
            have u2 := un_set hin cT
            have m2 : ∀ f, T1.testBit f = true → (T1 ||| 2 ^ i).testBit f = true := fun f h => by rw [fb_bit_set, h, Bool.true_or]
            have mi : (T1 ||| 2 ^ i).testBit i = true := by rw [fb_bit_set, decide_eq_true rfl, Bool.or_true]
            rcases ho i hin with k | ⟨q, hq, eq, bq⟩
            · refine ⟨true, upd o i (nI p), T1 ||| 2 ^ i, ?_, l2, fun f h => m2 f (h2 f h), fun _ => ⟨fun f hf => ?_, fun f hf ht => ?_, fun r hr => ?_⟩, (fun h => by cases h)⟩
              · simp (disch := omega) only [fX7_findsFace_2, io_196, fi_196_6, fr_196_3, ia_200, iw_200, fi_196_8, fw_196_8, fr_196_4, ia_201, iw_201, bdS, ck_t, ck_T, cb_0, cb_1, ab_jn, if_true, if_false, f6, f8, a0, a1, w8, w1, hin, cd, cl_hasX, eb, c, bI_0, s1, fa_or, k, nI_ltI, nI_add, if_true, if_false, reduceCtorEq]
                rfl
              · rw [upd_e]
                by_cases d : f = i
                · rw [if_pos d, d]; exact Or.inr ⟨p, hp, rfl, ca⟩
                · rw [if_neg d]; exact ho f hf
              · rw [upd_2 _ _ (fun e => by rw [e] at ht; rw [h2 i ht] at cT; cases cT)]
              · have := cn_upd (own := o) (n := n) (i := i) (p := p) (r := r) hin (by omega) (by omega)
                rw [if_neg (show ¬ o i = nI r by rw [k]; intro e; exact (m1_ne (by omega)).mp e.symm)] at this
                exact this
            · have kn : ¬ o i = -1 := by rw [eq]; exact fun e => (m1_ne (by omega)).mp e
              obtain ⟨b, o2, T2, e2, q1, q2, q3, q4⟩ := cl_finds hn h10 hF D q (d + 1) o (T1 ||| 2 ^ i) hq l2 ho (by omega) (by omega)
              cases b
              · obtain ⟨eo, qa, qc⟩ := q4 rfl
                subst eo
                have un2 : un T2 n ≤ un (T1 ||| 2 ^ i) n := fb_ct_sub (fun f hf h => by
                  cases k : (T1 ||| 2 ^ i).testBit f
                  · rfl
                  · rw [q2 f k] at h; cases h)
                obtain ⟨b', o', T', e, Q⟩ := ih (i + 1) T2 F' (by omega) (by omega) q1 (fun f h => q2 f (m2 f (h2 f h))) (by omega) (by omega) (fun f hf t2 t0 => by
                  cases k : (T1 ||| 2 ^ i).testBit f
                  · exact qc f hf t2 k
                  · rw [fb_bit_set] at k
                    by_cases d : f = i
                    · subst d; exact ⟨q, hq, eq, qa⟩
                    · rw [decide_eq_false d, Bool.or_false] at k
                      obtain ⟨r, hr, er, ar⟩ := h5 f hf k t0
                      exact ⟨r, hr, er, fun f' hf' hb => q2 f' (m2 f' (ar f' hf' hb))⟩) (fun f hf hb => by
                  by_cases k : f = i
                  · subst k; exact q2 _ mi
                  · exact q2 f (m2 f (h6 f (by omega) hb)))
                refine ⟨b', o', T', ?_, Q⟩
                simp (disch := omega) only [fX7_findsFace_2, io_196, fi_196_6, fr_196_3, ia_200, iw_200, fi_196_8, fw_196_8, fr_196_4, ia_201, iw_201, bdS, ck_t, ck_T, cb_0, cb_1, ab_jn, if_true, if_false, f6, f8, a0, a1, w8, w1, hin, cd, cl_hasX, eb, c, bI_0, s1, fa_or, kn, eq, e2, io_196, nI_ltI, nI_add, if_true, if_false, reduceCtorEq, m1_ne]
                exact e
              · obtain ⟨qa, qb, qc⟩ := q3 rfl
                refine ⟨true, upd o2 i (nI p), T2, ?_, q1, fun f h => q2 f (m2 f (h2 f h)), fun _ => ⟨fun f hf => ?_, fun f hf ht => ?_, fun r hr => ?_⟩, (fun h => by cases h)⟩
                · simp (disch := omega) only [fX7_findsFace_2, io_196, fi_196_6, fr_196_3, ia_200, iw_200, fi_196_8, fw_196_8, fr_196_4, ia_201, iw_201, bdS, ck_t, ck_T, cb_0, cb_1, ab_jn, if_true, if_false, f6, f8, a0, a1, w8, w1, hin, cd, cl_hasX, eb, c, bI_0, s1, fa_or, kn, eq, e2, io_196, nI_ltI, nI_add, if_true, if_false, reduceCtorEq, m1_ne]
                  rfl
                · rw [upd_e]
                  by_cases d : f = i
                  · rw [if_pos d, d]; exact Or.inr ⟨p, hp, rfl, ca⟩
                  · rw [if_neg d]; exact qa f hf
                · rw [upd_2 _ _ (fun e => by rw [e] at ht; rw [h2 i ht] at cT; cases cT)]
                  exact qb f hf (m2 f (h2 f ht))
                · have h7 := cn_upd (own := o2) (n := n) (i := i) (p := p) (r := r) hin (by omega) (by omega)
                  have h8 := qc r hr
                  rw [qb i hin mi, eq] at h7
                  by_cases d : r = q
                  · subst d
                    rw [if_pos rfl] at h7 h8
                    omega
                  · rw [if_neg (show ¬ nI q = nI r by rw [nI_eq (by omega) (by omega)]; exact fun h => d h.symm)] at h7
                    rw [if_neg d] at h8
                    omega
      exact loop n 0 T F (by omega) (by omega) hT (fun f h => h) hd hD (fun f _ h h' => by rw [h] at h'; cases h') (fun f hf => absurd hf (Nat.not_lt_zero f))
    · obtain ⟨F', rfl⟩ : ∃ F', F = F' + 1 := ⟨F - 1, by omega⟩
      have u0 : un T n = 0 := by omega
      have n0 : 0 < n := by omega
      have cd' : ¬ nI d < nI 10 := fun h => cd (by
        have hd' : d ≤ 10 := by omega
        exact (nI_ltI (by omega) (by omega)).mp h)
      refine ⟨false, o, T, ?_, hT, fun f h => h, (fun h => by cases h), fun _ => ⟨rfl, fun f hf _ => ?_, fun f _ h h' => by rw [h] at h'; cases h'⟩⟩
      · simp (disch := omega) only [fX7_findsFace_2, io_196, fi_196_6, fr_196_3, ia_200, iw_200, fi_196_8, fw_196_8, fr_196_4, ia_201, iw_201, bdS, ck_t, ck_T, cb_0, cb_1, ab_jn, if_true, if_false, f6, n0, cd', nI_ltI, if_true, if_false]
        rfl
      · have := fb_ct_zero.mp u0 f hf
        simpa using this
