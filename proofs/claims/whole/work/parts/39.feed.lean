variable {Nq : Nat}
/-! ===== call: feed ===== -/
def byt (v : Int32) (j : Nat) : Int32 := ab_us v (nI (24 - 8 * j)) &&& nI 255
theorem byt_lt (v : Int32) (j : Nat) : ∃ b, b < 256 ∧ byt v j = nI b := pk_andE _ 8 (by decide)
theorem sA_sF (g : gG) (a k : Nat) (v : Int32) (b : Nat) (f : Nat → Int32) : sA (sF g a k v) b f = sF (sA g b f) a k v := rfl
theorem sF_sF (g : gG) (a k : Nat) (v w : Int32) : sF (sF g a k v) a k w = sF g a k w := by
  unfold sF
  refine Prod.ext rfl (Prod.ext ?_ rfl)
  funext b
  show (if b = a then upd (if a = a then upd (g.2.1 a) k v else g.2.1 a) k w else if b = a then upd (g.2.1 a) k v else g.2.1 b) = (if b = a then upd (g.2.1 a) k w else g.2.1 b)
  by_cases c : b = a
  · simp only [c, if_true]; exact fa_upd_twice _ _ _ _
  · simp only [c, if_false]
def ap4 (a : Nat → Int32) (L : Nat) (v : Int32) : Nat → Int32 := fun q => if L ≤ q ∧ q < L + 4 then byt v (q - L) else a q
theorem ap4_u (a : Nat → Int32) (L : Nat) (v : Int32) : upd (upd (upd (upd a L (byt v 0)) (L + 1) (byt v 1)) (L + 1 + 1) (byt v 2)) (L + 1 + 1 + 1) (byt v 3) = ap4 a L v := by
  funext q
  simp only [upd_e, ap4]
  by_cases c3 : q = L + 1 + 1 + 1
  · subst c3; rw [if_pos rfl, if_pos (by omega)]; congr 1; omega
  rw [if_neg c3]
  by_cases c2 : q = L + 1 + 1
  · subst c2; rw [if_pos rfl, if_pos (by omega)]; congr 1; omega
  rw [if_neg c2]
  by_cases c1 : q = L + 1
  · subst c1; rw [if_pos rfl, if_pos (by omega)]; congr 1; omega
  rw [if_neg c1]
  by_cases c0 : q = L
  · subst c0; rw [if_pos rfl, if_pos (by omega)]; congr 1; omega
  rw [if_neg c0, if_neg (by omega)]
theorem cl_add1 (g : gG) {L : Nat} (h : gF g 4 1 = nI L) (hL : L < 400) (v x : Int32) (hx : ¬ x < 0) (F : Nat) : fX9_addFour_3 4 v (F + 1) x (gH g) = fX9_addFour_3 4 v F (x + (-8)) (gH (sF (sA g 5 (upd (gA g 5) L (ab_us v x &&& nI 255))) 4 1 (nI (L + 1)))) := by
  simp (disch := omega) only [fX9_addFour_3, fi_4_1, fr_4_0, iw_5, fw_4_1, bdS, ck_t, ck_T, cb_0, cb_1, ab_jn, if_true, if_false, h, hx, hL, gF_sA, nI_add, pk_mul, nI_ltI, nI_leI, nI_eq, reduceCtorEq, m1_ne, and_true, true_and, and_false, false_and, not_true_eq_false, not_false_eq_true, ne_eq, decide_true, decide_false, Bool.false_eq_true, ite_true, ite_false, if_true, if_false, Nat.add_zero, Bool.and_true, Bool.true_and, Bool.and_false, Bool.false_and, Bool.or_true, Bool.true_or, Bool.or_false, Bool.false_or, decide_not, Bool.not_true, Bool.not_false, or_true, true_or, or_false, false_or, or_self, and_self, decide_eq_true_eq]
theorem cl_addFour (g : gG) {L : Nat} (h : gF g 4 1 = nI L) (hL : L + 4 ≤ 400) (v : Int32) {F : Nat} (hF : 11000 < F) : fX9_addFour F 4 v (gH g) = some (gH (sF (sA g 5 (ap4 (gA g 5) L v)) 4 1 (nI (L + 4)))) := by
  obtain ⟨F', rfl⟩ : ∃ F', F = F' + 5 := ⟨F - 5, by omega⟩
  have s1 : nI 24 + (-8) = nI 16 := by decide
  have s2 : nI 16 + (-8) = nI 8 := by decide
  have s3 : nI 8 + (-8) = nI 0 := by decide
  have s4 : nI 0 + (-8) = (-8 : Int32) := by decide
  have t4 : (-8 : Int32) < 0 := by decide
  unfold fX9_addFour
  rw [cl_add1 g h (by omega) v _ (by decide), s1]
  rw [cl_add1 _ (by rw [gF_sF1, upd_1]) (by omega) v _ (by decide), s2]
  rw [cl_add1 _ (by rw [gF_sF1, upd_1]) (by omega) v _ (by decide), s3]
  rw [cl_add1 _ (by rw [gF_sF1, upd_1]) (by omega) v _ (by decide), s4]
  rw [fX9_addFour_3, if_pos t4]
  simp only [gA_sF, gA_sA1, sA_sF, sF_sF, sA_sA]
  rw [← ap4_u]
  rfl
def fsel (a b c d e : Int32) (i : Nat) : Int32 := if i < 4 then a else if i < 8 then b else if i < 12 then c else if i < 16 then d else e
def apN (t : Nat → Int32) (L : Nat) (a b c d e : Int32) (i : Nat) : Nat → Int32 := fun q => if L ≤ q ∧ q < L + i then byt (fsel a b c d e (q - L)) ((q - L) % 4) else t q
theorem rl_feed (g : gG) {L : Nat} (h : gF g 206 8 = nI L) (hL : L + 20 ≤ 400) (a b c d e : Int32) {F : Nat} (hF : 11000 < F) : fX12_feed_23 206 a b c d e F (nI 0) (gH g) = some (nI (L + 20), gH (sF (sA g 211 (apN (gA g 211) L a b c d e 20)) 206 8 (nI (L + 20)))) := by
  have h0 := lp0 (L := fun F' i (g : gG) => fX12_feed_23 206 a b c d e F' i (gH g)) (n := 20) (fun i => sF (sA g 211 (apN (gA g 211) L a b c d e i)) 206 8 (nI (L + i))) (some (nI (L + 20), gH (sF (sA g 211 (apN (gA g 211) L a b c d e 20)) 206 8 (nI (L + 20))))) ?_ ?_ F (by omega)
  · have e2 : sF (sA g 211 (apN (gA g 211) L a b c d e 0)) 206 8 (nI (L + 0)) = g := by
      have : apN (gA g 211) L a b c d e 0 = gA g 211 := by funext q; unfold apN; rw [if_neg (by omega)]
      rw [this, sA_id, Nat.add_zero, ← h]
      unfold sF
      refine Prod.ext rfl (Prod.ext ?_ rfl)
      funext q
      show (if q = 206 then upd (g.2.1 206) 8 (g.2.1 206 8) else g.2.1 q) = g.2.1 q
      by_cases c : q = 206
      · rw [if_pos c, c]; exact fa_upd_same rfl
      · rw [if_neg c]
    rw [e2] at h0
    exact h0
  · intro F i hi
    have m4 : ab_rm (nI i) (nI 4) = nI (i % 4) := pk_rem (by omega) (by decide) (by decide)
    have m5 : nI 24 - nI (8 * (i % 4)) = nI (24 - 8 * (i % 4)) := pk_sub (by omega)
    have n4 : (¬ nI 4 = 0) ↔ True := by decide
    have e6 : upd (apN (gA g 211) L a b c d e i) (L + i) (ab_us (fsel a b c d e i) (nI (24 - 8 * (i % 4))) &&& nI 255) = apN (gA g 211) L a b c d e (i + 1) := by
      funext q
      rw [upd_e]
      unfold apN
      by_cases c : q = L + i
      · rw [if_pos c, if_pos (by omega), show q - L = i by omega]; rfl
      · rw [if_neg c]
        by_cases c2 : L ≤ q ∧ q < L + i
        · rw [if_pos c2, if_pos (by omega)]
        · rw [if_neg c2, if_neg (by omega)]
    have hsel : fsel a b c d e i = if i < 4 then a else if i < 8 then b else if i < 12 then c else if i < 16 then d else e := rfl
    by_cases c1 : i < 4 <;> by_cases c2 : i < 8 <;> by_cases c3 : i < 12 <;> by_cases c4 : i < 16 <;> first
      | omega
      | (simp only [hsel, c1, c2, c3, c4, if_true, if_false] at e6
         simp (disch := omega) only [fX12_feed_23, fr_206_7, iw_211, fi_206_8, fw_206_8, bdS, ck_t, ck_T, cb_0, cb_1, ab_jn, if_true, if_false, hi, c1, c2, c3, c4, n4, m4, m5, gF_sF1, upd_1, gF_sA, gA_sF, gA_sA1, sA_sF, sF_sF, sA_sA, e6, nI_add, pk_mul, nI_ltI, nI_leI, nI_eq, reduceCtorEq, m1_ne, and_true, true_and, and_false, false_and, not_true_eq_false, not_false_eq_true, ne_eq, decide_true, decide_false, Bool.false_eq_true, ite_true, ite_false, if_true, if_false, Nat.add_zero, Bool.and_true, Bool.true_and, Bool.and_false, Bool.false_and, Bool.or_true, Bool.true_or, Bool.or_false, Bool.false_or, decide_not, Bool.not_true, Bool.not_false, or_true, true_or, or_false, false_or, or_self, and_self, decide_eq_true_eq]
         rfl)
  · intro F
    simp (disch := omega) only [fX12_feed_23, fr_206_7, iw_211, fi_206_8, fw_206_8, bdS, ck_t, ck_T, cb_0, cb_1, ab_jn, if_true, if_false, Nat.lt_irrefl, gF_sF1, upd_1, nI_add, pk_mul, nI_ltI, nI_leI, nI_eq, reduceCtorEq, m1_ne, and_true, true_and, and_false, false_and, not_true_eq_false, not_false_eq_true, ne_eq, decide_true, decide_false, Bool.false_eq_true, ite_true, ite_false, if_true, if_false, Nat.add_zero, Bool.and_true, Bool.true_and, Bool.and_false, Bool.false_and, Bool.or_true, Bool.true_or, Bool.or_false, Bool.false_or, decide_not, Bool.not_true, Bool.not_false, or_true, true_or, or_false, false_or, or_self, and_self, decide_eq_true_eq]
theorem Kp_feed {g : gG} {f h : Nat → Int32} {v w : Int32} : Kp g (sF (sA (sF (sF (sA g 5 f) 4 1 v) 206 0 (nI 0)) 211 h) 206 8 w) := by
  have h1 : ∀ b, b ≠ 206 → b ≠ 4 → gF (sF (sA (sF (sF (sA g 5 f) 4 1 v) 206 0 (nI 0)) 211 h) 206 8 w) b = gF g b := fun b hb hb' => by rw [gF_sF2 _ _ hb, gF_sA, gF_sF2 _ _ hb, gF_sF2 _ _ hb', gF_sA]
  have h2 : ∀ b, b ≠ 5 → b ≠ 211 → gA (sF (sA (sF (sF (sA g 5 f) 4 1 v) 206 0 (nI 0)) 211 h) 206 8 w) b = gA g b := fun b hb hb' => by rw [gA_sF, gA_sA2 _ _ hb', gA_sF, gA_sF, gA_sA2 _ _ hb]
  refine ⟨⟨rfl, fun _ => rfl, fun b hb => h1 b (by omega) (by omega), h2 3 (by omega) (by omega), fun b _ _ => h2 b (by omega) (by omega)⟩, fun b _ hb => ⟨h1 b (by omega) (by omega), h2 b (by omega) (by omega), rfl, rfl⟩, fun b _ hb => ⟨h1 b (by omega) (by omega), h2 b (by omega) (by omega), rfl, rfl⟩, h2 _ (by omega) (by omega), h2 _ (by omega) (by omega), h2 _ (by omega) (by omega), ?_, congrFun (h1 192 (by omega) (by omega)) 1, congrFun (h1 194 (by omega) (by omega)) 1⟩
  intro j hj
  rw [gF_sF1, upd_2 _ _ (by omega), gF_sA, gF_sF1, upd_2 _ _ (by omega), gF_sF2 _ _ (by omega), gF_sA]
theorem cb_feed {g : gG} (R : RE Nq g) (a b c d e : Int32) {F : Nat} (hF : 11000 < F) : Cb Nq (fX11_feed F 0 a b c d e (gH g)) (fun g1 => fX12_feed F 206 a b c d e (gH g1)) := by
  have R0 := R
  obtain ⟨n, k, s, f, R⟩ := R
  have S := R.1
  have V := S.1
  obtain ⟨rn, h10, rk, h12⟩ := R.rv
  have W := V
  obtain ⟨hx, hn, _, hk, _, e3, e4, e5, e6, e7, e8, e11, e9, e10⟩ := W
  have hs : s ≤ 12 := R.2.1.1
  obtain ⟨L, t1, t2, t3, t4⟩ := R.2.2.2.1
  by_cases c0 : L + 20 ≤ 400
  · have l1 : nI L + nI 20 ≤ nI 400 := by rw [nI_add]; exact nI_le c0 (by decide)
    have A1 := cl_addFour g t2 (by omega) a hF
    have A2 := cl_addFour (sF (sA g 5 (ap4 (gA g 5) L a)) 4 1 (nI (L + 4))) (L := L + 4) (by rw [gF_sF1, upd_1]) (by omega) b hF
    simp only [gA_sF, gA_sA1, sA_sF, sF_sF, sA_sA] at A2
    have A3 := cl_addFour (sF (sA g 5 (ap4 (ap4 (gA g 5) L a) (L + 4) b)) 4 1 (nI (L + 4 + 4))) (L := L + 4 + 4) (by rw [gF_sF1, upd_1]) (by omega) c hF
    simp only [gA_sF, gA_sA1, sA_sF, sF_sF, sA_sA] at A3
    have A4 := cl_addFour (sF (sA g 5 (ap4 (ap4 (ap4 (gA g 5) L a) (L + 4) b) (L + 4 + 4) c)) 4 1 (nI (L + 4 + 4 + 4))) (L := L + 4 + 4 + 4) (by rw [gF_sF1, upd_1]) (by omega) d hF
    simp only [gA_sF, gA_sA1, sA_sF, sF_sF, sA_sA] at A4
    have A5 := cl_addFour (sF (sA g 5 (ap4 (ap4 (ap4 (ap4 (gA g 5) L a) (L + 4) b) (L + 4 + 4) c) (L + 4 + 4 + 4) d)) 4 1 (nI (L + 4 + 4 + 4 + 4))) (L := L + 4 + 4 + 4 + 4) (by rw [gF_sF1, upd_1]) (by omega) e hF
    simp only [gA_sF, gA_sA1, sA_sF, sF_sF, sA_sA] at A5
    rw [show L + 4 + 4 + 4 + 4 + 4 = L + 20 by omega] at A5
    refine ⟨nI (L + 20), sF (sA g 5 (ap4 (ap4 (ap4 (ap4 (ap4 (gA g 5) L a) (L + 4) b) (L + 4 + 4) c) (L + 4 + 4 + 4) d) (L + 4 + 4 + 4 + 4) e)) 4 1 (nI (L + 20)), sF (sA (sF (sF (sA g 5 (ap4 (ap4 (ap4 (ap4 (ap4 (gA g 5) L a) (L + 4) b) (L + 4 + 4) c) (L + 4 + 4 + 4) d) (L + 4 + 4 + 4 + 4) e)) 4 1 (nI (L + 20))) 206 0 (nI 0)) 211 (apN (gA g 211) L a b c d e 20)) 206 8 (nI (L + 20)), ?_, ?_, n, k, s, f, R.kp Kp_feed ⟨L + 20, c0, ?_, ?_, fun i hi => ?_⟩⟩
    · simp (disch := first | omega | assumption | exact isSt6 | exact isSt18 | exact isSt30) only [fX11_feed, io_4, fr_0_0, fi_4_1, bdS, ck_t, ck_T, cb_0, cb_1, ab_jn, if_true, if_false, t2, l1, A1, A2, A3, A4, A5, gF_sF1, upd_1, reduceCtorEq, m1_ne, and_true, true_and, and_false, false_and, not_true_eq_false, not_false_eq_true, ne_eq, decide_true, decide_false, Bool.false_eq_true, ite_true, ite_false, if_true, if_false, Nat.add_zero, Bool.and_true, Bool.true_and, Bool.and_false, Bool.false_and, Bool.or_true, Bool.true_or, Bool.or_false, Bool.false_or, decide_not, Bool.not_true, Bool.not_false, or_true, true_or, or_false, false_or, or_self, and_self, decide_eq_true_eq]
    · have u8 : upd (gF (sF (sA g 5 (ap4 (ap4 (ap4 (ap4 (ap4 (gA g 5) L a) (L + 4) b) (L + 4 + 4) c) (L + 4 + 4 + 4) d) (L + 4 + 4 + 4 + 4) e)) 4 1 (nI (L + 20))) 206) 0 (nI 0) 8 = nI L := by rw [upd_2 _ _ (by omega), gF_sF2 _ _ (by omega), gF_sA]; exact t3
      have u := rl_feed (sF (sF (sA g 5 (ap4 (ap4 (ap4 (ap4 (ap4 (gA g 5) L a) (L + 4) b) (L + 4 + 4) c) (L + 4 + 4 + 4) d) (L + 4 + 4 + 4 + 4) e)) 4 1 (nI (L + 20))) 206 0 (nI 0)) (L := L) (by rw [gF_sF1]; exact u8) c0 a b c d e hF
      simp only [gA_sF, gA_sA2 g (a := 5) (b := 211) _ (by omega)] at u
      simp (disch := first | omega | assumption | exact isSt6 | exact isSt18 | exact isSt30) only [fX12_feed, fw_206_0, fi_206_8, bdS, ck_t, ck_T, cb_0, cb_1, ab_jn, if_true, if_false, gF_sF1, u8, l1, u, reduceCtorEq, m1_ne, and_true, true_and, and_false, false_and, not_true_eq_false, not_false_eq_true, ne_eq, decide_true, decide_false, Bool.false_eq_true, ite_true, ite_false, if_true, if_false, Nat.add_zero, Bool.and_true, Bool.true_and, Bool.and_false, Bool.false_and, Bool.or_true, Bool.true_or, Bool.or_false, Bool.false_or, decide_not, Bool.not_true, Bool.not_false, or_true, true_or, or_false, false_or, or_self, and_self, decide_eq_true_eq]
    · rw [gF_sF2 _ _ (by omega), gF_sA, gF_sF2 _ _ (by omega), gF_sF1, upd_1]
    · rw [gF_sF1, upd_1]
    · rw [gA_sF, gA_sA2 _ _ (by omega), gA_sF, gA_sF, gA_sA1, gA_sF, gA_sA1]
      by_cases ci : i < L
      · have e1 : apN (gA g 211) L a b c d e 20 i = gA g 211 i := if_neg (by omega)
        have e2 : ap4 (ap4 (ap4 (ap4 (ap4 (gA g 5) L a) (L + 4) b) (L + 4 + 4) c) (L + 4 + 4 + 4) d) (L + 4 + 4 + 4 + 4) e i = gA g 5 i := by
          unfold ap4
          rw [if_neg (by omega), if_neg (by omega), if_neg (by omega), if_neg (by omega), if_neg (by omega)]
        rw [e1, e2]; exact t4 i ci
      · have e1 : apN (gA g 211) L a b c d e 20 i = byt (fsel a b c d e (i - L)) ((i - L) % 4) := if_pos (by omega)
        have e2 : ap4 (ap4 (ap4 (ap4 (ap4 (gA g 5) L a) (L + 4) b) (L + 4 + 4) c) (L + 4 + 4 + 4) d) (L + 4 + 4 + 4 + 4) e i = byt (fsel a b c d e (i - L)) ((i - L) % 4) := by
          unfold ap4 fsel
          by_cases c1 : i - L < 4
          · rw [if_neg (by omega), if_neg (by omega), if_neg (by omega), if_neg (by omega), if_pos (by omega), if_pos c1]; congr 1; omega
          by_cases c2 : i - L < 8
          · rw [if_neg (by omega), if_neg (by omega), if_neg (by omega), if_pos (by omega), if_neg c1, if_pos c2]; congr 1; omega
          by_cases c3 : i - L < 12
          · rw [if_neg (by omega), if_neg (by omega), if_pos (by omega), if_neg c1, if_neg c2, if_pos c3]; congr 1; omega
          by_cases c4 : i - L < 16
          · rw [if_neg (by omega), if_pos (by omega), if_neg c1, if_neg c2, if_neg c3, if_pos c4]; congr 1; omega
          · rw [if_pos (by omega), if_neg c1, if_neg c2, if_neg c3, if_neg c4]; congr 1; omega
        rw [e1, e2]
        exact ⟨rfl, byt_lt _ _⟩
  · have l1 : ¬ nI L + nI 20 ≤ nI 400 := by rw [nI_add]; exact nI_ge (by omega) (by omega)
    have u8 : upd (gF g 206) 0 (nI 0) 8 = nI L := by rw [upd_2 _ _ (by omega)]; exact t3
    refine ⟨-1, g, sF g 206 0 (nI 0), ?_, ?_, n, k, s, f, R.thr _⟩
    · simp (disch := first | omega | assumption | exact isSt6 | exact isSt18 | exact isSt30) only [fX11_feed, io_4, fr_0_0, fi_4_1, bdS, ck_t, ck_T, cb_0, cb_1, ab_jn, if_true, if_false, t2, l1, reduceCtorEq, m1_ne, and_true, true_and, and_false, false_and, not_true_eq_false, not_false_eq_true, ne_eq, decide_true, decide_false, Bool.false_eq_true, ite_true, ite_false, if_true, if_false, Nat.add_zero, Bool.and_true, Bool.true_and, Bool.and_false, Bool.false_and, Bool.or_true, Bool.true_or, Bool.or_false, Bool.false_or, decide_not, Bool.not_true, Bool.not_false, or_true, true_or, or_false, false_or, or_self, and_self, decide_eq_true_eq]
    · simp (disch := first | omega | assumption | exact isSt6 | exact isSt18 | exact isSt30) only [fX12_feed, fw_206_0, fi_206_8, bdS, ck_t, ck_T, cb_0, cb_1, ab_jn, if_true, if_false, gF_sF1, u8, l1, reduceCtorEq, m1_ne, and_true, true_and, and_false, false_and, not_true_eq_false, not_false_eq_true, ne_eq, decide_true, decide_false, Bool.false_eq_true, ite_true, ite_false, if_true, if_false, Nat.add_zero, Bool.and_true, Bool.true_and, Bool.and_false, Bool.false_and, Bool.or_true, Bool.true_or, Bool.or_false, Bool.false_or, decide_not, Bool.not_true, Bool.not_false, or_true, true_or, or_false, false_or, or_self, and_self, decide_eq_true_eq]
