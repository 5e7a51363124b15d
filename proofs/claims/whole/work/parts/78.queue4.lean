variable {Nq : Nat}
/-! ===== call: queue ===== -/
def mN (tk : Nat → Int32) (H : Nat) : Nat → Nat
  | 0 => 0
  | i + 1 => if H.testBit i = true then mN tk H i + (nv (tk i) + (fb_ct (fun q => H.testBit q) i + 1)) else mN tk H i
theorem mN_v {tk : Nat → Int32} {H n : Nat} (hH : isH tk H n) : ∀ i, i ≤ n → (mN tk H i : Int) = fb_si (fun q => if rmS H 0 q = true then tkT tk q else 0) i + tri (fb_ct (rmS H 0) i) ∧ fb_ct (rmS H 0) i = fb_ct (fun q => H.testBit q) i
  | 0, _ => ⟨rfl, rfl⟩
  | i + 1, hi => by
    obtain ⟨h1, h2⟩ := mN_v hH i (by omega)
    have r : rmS H 0 i = H.testBit i := by unfold rmS; rw [Nat.zero_testBit]; simp
    rw [fb_si_succ, fb_ct_succ, fb_ct_succ, r, h2]
    refine ⟨?_, rfl⟩
    show ((if H.testBit i = true then mN tk H i + (nv (tk i) + (fb_ct (fun q => H.testBit q) i + 1)) else mN tk H i : Nat) : Int) = _
    rw [h2] at h1
    cases c : H.testBit i
    · simp only [Bool.false_eq_true, if_false, Nat.add_zero]
      omega
    · obtain ⟨_, a, ha, ea⟩ := hH.1 i c
      have t : tkT tk i = (a : Int) := by unfold tkT; rw [ea]; exact nI_toInt (by omega)
      have v : nv (tk i) = a := by rw [ea]; exact nv_nI (by omega)
      simp only [if_true]
      rw [t, v]
      have e : tri (fb_ct (fun q => H.testBit q) i + 1) = tri (fb_ct (fun q => H.testBit q) i) + ((fb_ct (fun q => H.testBit q) i : Int) + 1) := rfl
      rw [e]
      omega
theorem cl_minutes {g : gG} {m : Nat → Int32} {n k : Nat} (V : Sv g 6 m n k) {H : Nat} (hH : isH (fun q => m (12 + 6 * q + 3)) H n) {F : Nat} (hF : 11000 < F) : fX11_minutesAlongTheRow F 0 (gH g) = some (nI (mN (fun q => m (12 + 6 * q + 3)) H n)) := by
  have W := V
  obtain ⟨hx, hn, h10, hk, h12, e3, e4, e5, e6, e7, e8, e11, e9, e10⟩ := W
  unfold fX11_minutesAlongTheRow
  refine lp0 (L := fun F' i (a : Int32 × Int32) => fX11_minutesAlongTheRow_6 0 (gH g) F' a.1 a.2 i) (n := n) (fun i => (nI (fb_ct (fun q => H.testBit q) i), nI (mN (fun q => m (12 + 6 * q + 3)) H i))) _ ?_ ?_ F (by omega)
  · intro F' i hi
    have p6 := e6 i hi
    have em : mN (fun q => m (12 + 6 * q + 3)) H (i + 1) = if H.testBit i = true then mN (fun q => m (12 + 6 * q + 3)) H i + (nv (m (12 + 6 * i + 3)) + (fb_ct (fun q => H.testBit q) i + 1)) else mN (fun q => m (12 + 6 * q + 3)) H i := rfl
    rw [em, fb_ct_succ]
    cases c : H.testBit i
    · have e1 : m (12 + 6 * i + 3) = -1 := hH.2 i hi c
      simp (disch := first | omega | assumption | exact isSt6 | exact isSt18 | exact isSt30) only [fX11_minutesAlongTheRow_6, fr_0_1, fi_s0, fr_s12, ia_s6, bdS, ck_t, ck_T, cb_0, cb_1, ab_jn, if_true, if_false, fi_s0, fr_s12, ia_s6, hn, hi, p6, e1, Bool.false_eq_true, if_false, if_true, Nat.add_zero, nI_ltI, nI_add]
    · obtain ⟨_, a, ha, ea⟩ := hH.1 i c
      have ea : m (12 + 6 * i + 3) = nI a := ea
      have v : nv (m (12 + 6 * i + 3)) = a := by rw [ea]; exact nv_nI (by omega)
      rw [v]
      simp (disch := first | omega | assumption | exact isSt6 | exact isSt18 | exact isSt30) only [fX11_minutesAlongTheRow_6, fr_0_1, fi_s0, fr_s12, ia_s6, bdS, ck_t, ck_T, cb_0, cb_1, ab_jn, if_true, if_false, fi_s0, fr_s12, ia_s6, hn, hi, p6, ea, m1_ne, if_false, if_true, nI_ltI, nI_add]
  · intro F'
    simp (disch := first | omega | assumption | exact isSt6 | exact isSt18 | exact isSt30) only [fX11_minutesAlongTheRow_6, fr_0_1, fi_s0, fr_s12, ia_s6, bdS, ck_t, ck_T, cb_0, cb_1, ab_jn, if_true, if_false, fi_s0, hn, Nat.lt_irrefl, nI_ltI, if_false]
theorem cl_find {g : gG} {m : Nat → Int32} {n k : Nat} (V : Sv g 6 m n k) {H : Nat} (hH : isH (fun q => m (12 + 6 * q + 3)) H n) (x : Int32) {F : Nat} (hF : 11000 < F) : fX11_queue_12 F 0 x (gH g) F (nI 0) = some (fnd (fun p => H.testBit p && decide (nI (rkO (tkT (fun q => m (12 + 6 * q + 3))) H n p) = x)) n) := by
  have W := V
  have W := V
  obtain ⟨hx, hn, h10, hk, h12, e3, e4, e5, e6, e7, e8, e11, e9, e10⟩ := W
  refine lpx (L := fun F' i (_ : Unit) => fX11_queue_12 F 0 x (gH g) F' i) (n := n) (fun _ => ()) (fun p => (H.testBit p && decide (nI (rkO (tkT (fun q => m (12 + 6 * q + 3))) H n p) = x)) = true) _ ?_ ?_ ?_ F (by omega)
  · intro F' i hi _ hE
    have p6 := e6 i hi
    cases c : H.testBit i
    · have e1 : m (12 + 6 * i + 3) = -1 := hH.2 i hi c
      simp (disch := first | omega | assumption | exact isSt6 | exact isSt18 | exact isSt30) only [fX11_queue_12, io_0, fr_0_1, fi_s0, fr_s12, ia_s6, bdS, ck_t, ck_T, cb_0, cb_1, ab_jn, if_true, if_false, fi_s0, fr_s12, ia_s6, hn, hi, p6, e1, if_true, nI_ltI, nI_add]
    · obtain ⟨_, a, ha, ea⟩ := hH.1 i c
      have ea : m (12 + 6 * i + 3) = nI a := ea
      have ne : ¬ nI (rkO (tkT (fun q => m (12 + 6 * q + 3))) H n i) = x := fun h => hE (by rw [c, decide_eq_true h]; rfl)
      simp (disch := first | omega | assumption | exact isSt6 | exact isSt18 | exact isSt30) only [fX11_queue_12, io_0, fr_0_1, fi_s0, fr_s12, ia_s6, bdS, ck_t, ck_T, cb_0, cb_1, ab_jn, if_true, if_false, fi_s0, fr_s12, ia_s6, hn, hi, p6, ea, m1_ne, cl_ahead W hH c hF, ne, if_true, if_false, nI_ltI, nI_add]
  · intro F' i hi hj hE
    rw [fnd_at hi hE hj]
    rw [Bool.and_eq_true] at hE
    have p6 := e6 i hi
    obtain ⟨_, a, ha, ea⟩ := hH.1 i hE.1
    have ea : m (12 + 6 * i + 3) = nI a := ea
    have eq : nI (rkO (tkT (fun q => m (12 + 6 * q + 3))) H n i) = x := of_decide_eq_true hE.2
    simp (disch := first | omega | assumption | exact isSt6 | exact isSt18 | exact isSt30) only [fX11_queue_12, io_0, fr_0_1, fi_s0, fr_s12, ia_s6, bdS, ck_t, ck_T, cb_0, cb_1, ab_jn, if_true, if_false, fi_s0, fr_s12, ia_s6, hn, hi, p6, ea, m1_ne, cl_ahead W hH hE.1 hF, eq, if_true, if_false, nI_ltI, nI_add]
  · intro F' hj
    rw [fnd_no hj]
    simp (disch := first | omega | assumption | exact isSt6 | exact isSt18 | exact isSt30) only [fX11_queue_12, io_0, fr_0_1, fi_s0, fr_s12, ia_s6, bdS, ck_t, ck_T, cb_0, cb_1, ab_jn, if_true, if_false, fi_s0, hn, Nat.lt_irrefl, nI_ltI, if_false]
theorem le_ok {g : gG} {n k s f : Nat} (R : Re Nq g n k s f) (A : Nat → Int32) (t : Int32) : Re Nq (sA (sF g 206 0 t) 217 A) n k s f := by
  have zF : ∀ b, b ≠ 206 → gF (sA (sF g 206 0 t) 217 A) b = gF g b := fun b h => by rw [gF_sA, gF_sF2 _ _ h]
  have zA : ∀ b, b ≠ 217 → gA (sA (sF g 206 0 t) 217 A) b = gA g b := fun b h1 => by rw [gA_sA2 _ _ h1, gA_sF]
  have z6 : ∀ j, j ≠ 0 → gF (sA (sF g 206 0 t) 217 A) 206 j = gF g 206 j := fun j hj => by rw [gF_sA, gF_sF1, upd_2 _ _ hj]
  refine R.kp ⟨⟨rfl, fun _ => rfl, fun b hb => zF b (by omega), zA 3 (by omega), fun b h1 h2 => zA b (by omega)⟩, fun b h1 h2 => ⟨zF b (by omega), zA b (by omega), rfl, rfl⟩, fun b h1 h2 => ⟨zF b (by omega), zA b (by omega), rfl, rfl⟩, zA _ (by omega), zA _ (by omega), zA _ (by omega), fun j hj => z6 j (by omega), congrFun (zF 192 (by omega)) 1, congrFun (zF 194 (by omega)) 1⟩ ?_
  obtain ⟨L, t1, t2, t3, t4⟩ := R.2.2.2.1
  refine ⟨L, t1, ?_, ?_, fun i hi => ?_⟩
  · rw [zF 4 (by omega)]; exact t2
  · rw [z6 8 (by omega)]; exact t3
  · rw [zA 5 (by omega), zA 211 (by omega)]; exact t4 i hi
theorem cr_queue {g : gG} (R : RE Nq g) (x : Int32) {F : Nat} (hF : 11000 < F) : Cr Nq g (fX11_queue F 0 x (gH g)) (fun g1 => fX12_queue F 206 x (gH g1)) := by
  have R0 := R
  obtain ⟨n, k, s, f, R⟩ := R
  have S := R.1
  have V := S.1
  obtain ⟨rn, h10, rk, h12⟩ := R.rv
  have W := V
  obtain ⟨hx, hn, _, hk, _, e3, e4, e5, e6, e7, e8, e11, e9, e10⟩ := W
  have hs : s ≤ 12 := R.2.1.1
  obtain ⟨H, eH⟩ : ∃ H, st (fun p => decide (¬ gA g 207 (12 + 6 * p + 3) = -1)) n = H := ⟨_, rfl⟩
  have bit : ∀ q, H.testBit q = (decide (q < n) && decide (¬ gA g 207 (12 + 6 * q + 3) = -1)) := fun q => by rw [← eH]; exact st_bit _ n q
  have H2 : H < 1024 := by rw [← eH]; exact st_le (k := 10) h10
  have I6 := S.w.2.2.2.2.2
  have hH : isH (fun q => gA g 207 (12 + 6 * q + 3)) H n := by
    refine ⟨fun q h => ?_, fun q hq h => ?_⟩
    · rw [bit q, Bool.and_eq_true] at h
      have hq := of_decide_eq_true h.1
      have h3 := of_decide_eq_true h.2
      obtain ⟨j, hj, e⟩ := (I6 q hq).resolve_left h3
      exact ⟨hq, j, by omega, e⟩
    · rw [bit q, decide_eq_true hq, Bool.true_and] at h
      have := of_decide_eq_false h
      exact Decidable.byContradiction this
  have hH' : isH (tkR (sF g 206 0 (nI 0))) H n := hH
  have ho := rf_holders (sF g 206 0 (nI 0)) rn h10 hF
  rw [gA_sF, eH] at ho
  obtain ⟨A, sv, hG⟩ := rf_serves (sF g 206 0 (nI 0)) (n := n) rn h10 hF hH' H2
  have tr : tkR (sA (sF g 206 0 (nI 0)) 217 A) = tkR g := by funext p; unfold tkR; rw [gA_sA2 _ _ (by omega), gA_sF]
  have tr0 : tkR (sF g 206 0 (nI 0)) = tkR g := by funext p; unfold tkR; rw [gA_sF]
  rw [tr0] at hG hH'
  have q26 := rl_q26 (sA (sF g 206 0 (nI 0)) 217 A) (n := n) (by rw [gA_sA2 _ _ (by omega)]; exact rn) h10 hF (H := H) (by rw [tr]; exact hH') H2 (by rw [tr, gA_sA1]; exact hG) (x1 := x) (fun z20 => if x = (-1 : Int32) then some (z20, gH (sA (sF g 206 0 (nI 0)) 217 A)) else some ((-1 : Int32), gH (sA (sF g 206 0 (nI 0)) 217 A))) (rcS H 0 n) 0 0 F (-1) (nI 0) 0 (nI 0) rfl (by have : rcS H 0 n ≤ n := fb_ct_le _ _; omega) (by omega) (fun q h => by rw [Nat.zero_testBit] at h; cases h) (fb_ct_zero.mpr (fun q _ => Nat.zero_testBit q)) (fun a b h => by rw [Nat.zero_testBit] at h; cases h) (fun p hp => rf_step0 _ (by omega)) (Or.inr ⟨0, by omega, rfl, rfl⟩) (fun q h => by
    obtain ⟨_, i, _, e⟩ := hH.1 q (rm_s h).1
    have e : gA g 207 (12 + 6 * q + 3) = nI i := e
    show (0 : Int) ≤ (tkR _ q).toInt
    rw [tr]
    show (0 : Int) ≤ (gA g 207 (12 + 6 * q + 3)).toInt
    rw [e, nI_toInt (by omega)]; omega)
  rw [tr] at q26
  have et : tkR g = fun q => gA g 207 (12 + 6 * q + 3) := rfl
  rw [et] at q26
  have fin : RE Nq (sA (sF g 206 0 (nI 0)) 217 A) := ⟨n, k, s, f, le_ok R A _⟩
  have top : fX12_queue F 206 x (gH g) = fX12_queue_26 F 206 x (nI H) (gH (sA (sF g 206 0 (nI 0)) 217 A)) (fun z20 => if x = (-1 : Int32) then some (z20, gH (sA (sF g 206 0 (nI 0)) 217 A)) else some ((-1 : Int32), gH (sA (sF g 206 0 (nI 0)) 217 A))) F (nI 0) (-1) (nI 0) (nI 0) := by
    simp (disch := first | omega | assumption | exact isSt6 | exact isSt18 | exact isSt30) only [fX12_queue, io_206, fw_206_0, bdS, ck_t, ck_T, cb_0, cb_1, ab_jn, if_true, if_false, ho, sv]
  by_cases cx : x = -1
  · subst cx
    have cl := cl_minutes V hH hF
    have mv := (mN_v hH n (Nat.le_refl _)).1
    rcases q26 with ⟨p, hp, bp, e, _⟩ | ⟨h1, h2⟩
    · exact absurd e (nI_m1 (by
        have : rkO (tkT (fun q => gA g 207 (12 + 6 * q + 3))) H n p ≤ n := fb_ct_le _ _
        omega))
    · rw [if_pos rfl] at h2
      have ev : (if 0 = 0 ∧ H ≠ 0 then nI (Bd (tkT (fun q => gA g 207 (12 + 6 * q + 3))) H n 0 0).toNat else nI 0) = nI (mN (fun q => gA g 207 (12 + 6 * q + 3)) H n) := by
        have b : Bd (tkT (fun q => gA g 207 (12 + 6 * q + 3))) H n 0 0 = (mN (fun q => gA g 207 (12 + 6 * q + 3)) H n : Int) := by
          rw [mv]
          unfold Bd smS rcS
          rw [Int.zero_mul, Int.sub_zero]
        by_cases c : H = 0
        · rw [if_neg (fun h => h.2 c)]
          congr 1
          have : ∀ i, mN (fun q => gA g 207 (12 + 6 * q + 3)) H i = 0 := by
            intro i
            induction i with
            | zero => rfl
            | succ i ih =>
              show (if H.testBit i = true then _ else mN (fun q => gA g 207 (12 + 6 * q + 3)) H i) = 0
              have z : H.testBit i = false := by rw [c]; exact Nat.zero_testBit i
              rw [z, if_neg (by decide)]; exact ih
          exact (this n).symm
        · rw [if_pos ⟨rfl, c⟩, b]; rfl
      rw [ev] at h2
      refine ⟨nI (mN (fun q => gA g 207 (12 + 6 * q + 3)) H n), sA (sF g 206 0 (nI 0)) 217 A, ?_, ?_, fin⟩
      · simp (disch := first | omega | assumption | exact isSt6 | exact isSt18 | exact isSt30) only [fX11_queue, io_0, bdS, ck_t, ck_T, cb_0, cb_1, ab_jn, if_true, if_false, cl, if_true]
      · show fX12_queue F 206 (-1) (gH g) = _
        rw [top]; exact h2
  · have cl := cl_find V hH x hF
    have clq : fX11_queue F 0 x (gH g) = some (fnd (fun p => H.testBit p && decide (nI (rkO (tkT (fun q => gA g 207 (12 + 6 * q + 3))) H n p) = x)) n) := by
      simp (disch := first | omega | assumption | exact isSt6 | exact isSt18 | exact isSt30) only [fX11_queue, io_0, bdS, ck_t, ck_T, cb_0, cb_1, ab_jn, if_true, if_false, cx, if_false]
      exact cl
    rcases q26 with ⟨p, hp, bp, e, h2⟩ | ⟨h1, h2⟩
    · have hf : fnd (fun p => H.testBit p && decide (nI (rkO (tkT (fun q => gA g 207 (12 + 6 * q + 3))) H n p) = x)) n = nI p := by
        refine fnd_at hp (by rw [bp, decide_eq_true e]; rfl) (fun j hj hc => ?_)
        rw [Bool.and_eq_true] at hc
        have e2 := of_decide_eq_true hc.2
        have r1 : rkO (tkT (fun q => gA g 207 (12 + 6 * q + 3))) H n p ≤ n := fb_ct_le _ _
        have r2 : rkO (tkT (fun q => gA g 207 (12 + 6 * q + 3))) H n j ≤ n := fb_ct_le _ _
        rw [← e, nI_eq (by omega) (by omega)] at e2
        have := rk_inj (by omega) hp hc.1 bp e2
        omega
      rw [hf] at clq
      refine ⟨nI p, sA (sF g 206 0 (nI 0)) 217 A, clq, ?_, fin⟩
      show fX12_queue F 206 x (gH g) = _
      rw [top]; exact h2
    · have hf : fnd (fun p => H.testBit p && decide (nI (rkO (tkT (fun q => gA g 207 (12 + 6 * q + 3))) H n p) = x)) n = -1 := by
        refine fnd_no (fun j hj hc => ?_)
        rw [Bool.and_eq_true] at hc
        exact h1 j hj (by unfold rmS; rw [hc.1, Nat.zero_testBit]; rfl) (of_decide_eq_true hc.2)
      rw [hf] at clq
      rw [if_neg cx] at h2
      refine ⟨-1, sA (sF g 206 0 (nI 0)) 217 A, clq, ?_, fin⟩
      show fX12_queue F 206 x (gH g) = _
      rw [top]; exact h2
