variable {Nq : Nat}
/-! ===== what to ask next: both ===== -/
def pS (sa sb sc : Nat → Nat) (n z p f : Nat) : Int32 := gr (ov1 sa sb sc n z p f) (ov0 sa sb sc n z - ov1 sa sb sc n z p f)
theorem pS_lt {sa sb sc : Nat → Nat} {n z p f : Nat} (h10 : n ≤ 10) : pS sa sb sc n z p f < nI 2000000000 := by
  obtain ⟨a, e, b⟩ := ov_bd (al := al0 sa sb sc n z) h10
  obtain ⟨a', e', b'⟩ := ov_bd (al := upd (al0 sa sb sc n z) p (al0 sa sb sc n z p &&& nI (2 ^ f))) h10
  unfold pS ov0 ov1
  rw [e, e']
  exact gr_lt b' b
def askV (sa sb sc : Nat → Nat) (n z p : Nat) : Int32 := if ov0 sa sb sc n z ≤ nI 1 then -1 else (qS (pS sa sb sc n z p) n).1
theorem rf_best (g : gG) {n : Nat} (hn : gA g 207 3 = nI n) (h10 : n ≤ 10) {F : Nat} (hF : 11000 < F) {z : Nat} {sa sb sc : Nat → Nat} (S : Sq g n z sa sb sc) {p : Nat} (hp : p < n) : ∃ M O, fX12_ask_58 F 206 (nI p) (ov0 sa sb sc n z) F (-1) (nI 2000000000) (nI 0) (gH g) = some (askV sa sb sc n z p, gH (sA (sA g 214 M) 215 O)) := by
  have hS : ∀ W O, Sq (sA (sA g 214 W) 215 O) n z sa sb sc := fun W O => (S.a (by omega)).a (by omega)
  have hn7 : ∀ W O, gA (sA (sA g 214 W) 215 O) 207 3 = nI n := fun W O => by rw [gA_sA2 _ _ (by omega), gA_sA2 _ _ (by omega)]; exact hn
  have eid : sA (sA g 214 (gA g 214)) 215 (gA g 215) = g := by rw [sA_id, sA_id]
  by_cases c : ov0 sa sb sc n z ≤ nI 1
  · refine ⟨gA g 214, gA g 215, ?_⟩
    obtain ⟨F', rfl⟩ : ∃ F', F = F' + 1 := ⟨F - 1, by omega⟩
    have e : askV sa sb sc n z p = -1 := if_pos c
    have n0 : 0 < n := by omega
    rw [e, eid]
    simp (disch := omega) only [fX12_ask_58, io_206, fr_206_1, ia_207, bdS, ck_t, ck_T, cb_0, cb_1, ab_jn, if_true, if_false, hn, n0, nI_ltI, c, if_true]
  · have e : askV sa sb sc n z p = (qS (pS sa sb sc n z p) n).1 := if_neg c
    rw [e]
    have h1 := lpE (L := fun F' i (a : (Int32 × Int32) × gG) => fX12_ask_58 F 206 (nI p) (ov0 sa sb sc n z) F' a.1.1 a.1.2 i (gH a.2)) (n := n) (fun i a => a.1 = qS (pS sa sb sc n z p) i ∧ ∃ W O, a.2 = sA (sA g 214 W) 215 O) (fun a => some (a.1.1, gH a.2)) ?_ ?_ F 0 ((-1, nI 2000000000), g) (by omega) (by omega) ⟨rfl, _, _, eid.symm⟩
    · obtain ⟨⟨b1, b2⟩, ⟨eb, W, O, e2⟩, hb⟩ := h1
      refine ⟨W, O, ?_⟩
      rw [← e2, ← eb]; exact hb
    · rintro F' i ⟨b1, b2⟩ hi ⟨eb, W, O, e2⟩
      obtain rfl : b1 = _ := eb
      obtain rfl : b2 = _ := e2
      obtain ⟨W', O', h2⟩ := rf_waysOf _ (hn7 W O) h10 hF (hS W O) hp hi
      have e2 : sA (sA (sA (sA g 214 W) 215 O) 214 W') 215 O' = sA (sA g 214 W') 215 O' := by
        rw [sA_comm _ (show 215 ≠ 214 by omega), sA_sA, sA_sA]
      rw [e2] at h2
      have n7 := hn7 W O
      refine ⟨(qS (pS sa sb sc n z p) (i + 1), sA (sA g 214 W') 215 O'), ⟨rfl, W', O', rfl⟩, ?_⟩
      have q0 : gr (ov1 sa sb sc n z p i) (ov0 sa sb sc n z - ov1 sa sb sc n z p i) = pS sa sb sc n z p i := rfl
      rw [qS_S]
      by_cases k : pS sa sb sc n z p i < (qS (pS sa sb sc n z p) i).2
      · rw [if_pos k]
        simp (disch := omega) only [fX12_ask_58, io_206, fr_206_1, ia_207, bdS, ck_t, ck_T, cb_0, cb_1, ab_jn, if_true, if_false, n7, hi, nI_ltI, c, h2, rf_gr, q0, k, nI_add, if_true, if_false]
      · rw [if_neg k]
        simp (disch := omega) only [fX12_ask_58, io_206, fr_206_1, ia_207, bdS, ck_t, ck_T, cb_0, cb_1, ab_jn, if_true, if_false, n7, hi, nI_ltI, c, h2, rf_gr, q0, k, nI_add, if_true, if_false]
    · rintro F' ⟨b1, b2⟩ ⟨eb, W, O, e2⟩
      obtain rfl : b1 = _ := eb
      obtain rfl : b2 = _ := e2
      have n7 := hn7 W O
      simp (disch := omega) only [fX12_ask_58, io_206, fr_206_1, ia_207, bdS, ck_t, ck_T, cb_0, cb_1, ab_jn, if_true, if_false, n7, Nat.lt_irrefl, nI_ltI, if_false]
theorem lt2_le1 {x : Int32} : x < nI 2 ↔ x ≤ nI 1 := by
  rw [fa_lt, fa_le, nI_toInt (by decide), nI_toInt (by decide)]; omega
theorem cl_best {g : gG} {n z : Nat} {sa sb sc : Nat → Nat} (S : Sd g n z sa sb sc) (h10 : n ≤ 10) {p : Nat} (hp : p < n) {F : Nat} (hF : 11000 < F) : ∃ W O, fX7_bestQuestion F 196 (nI p) (gH g) = some (askV sa sb sc n z p, gH (sA (sA g 200 W) 202 O)) := by
  obtain ⟨W0, O0, h0⟩ := cl_ownersOfAll S h10 hF
  have hS : ∀ W O, Sd (sA (sA g 200 W) 202 O) n z sa sb sc := fun W O => (S.a (by omega)).a (by omega)
  have hn6 : ∀ W O, gF (sA (sA g 200 W) 202 O) 196 6 = nI n := fun W O => S.2.1
  have r : ∃ W O, fX7_bestQuestion_13 F 196 (nI p) (ov0 sa sb sc n z) F (-1) (ov0 sa sb sc n z) (nI 0) (gH (sA (sA g 200 W0) 202 O0)) = some (askV sa sb sc n z p, gH (sA (sA g 200 W) 202 O)) := by
    by_cases c : ov0 sa sb sc n z ≤ nI 1
    · refine ⟨W0, O0, ?_⟩
      obtain ⟨F', rfl⟩ : ∃ F', F = F' + 1 := ⟨F - 1, by omega⟩
      have e : askV sa sb sc n z p = -1 := if_pos c
      have n0 : 0 < n := by omega
      have c' := lt2_le1.mpr c
      rw [e]
      simp (disch := omega) only [fX7_bestQuestion_13, io_196, fi_196_6, bdS, ck_t, ck_T, cb_0, cb_1, ab_jn, if_true, if_false, hn6, n0, nI_ltI, c', if_true]
    · have e : askV sa sb sc n z p = (qS (pS sa sb sc n z p) n).1 := if_neg c
      have c' : ¬ ov0 sa sb sc n z < nI 2 := fun h => c (lt2_le1.mp h)
      rw [e]
      have h1 := lpE (L := fun F' i (a : (Int32 × Int32) × gG) => fX7_bestQuestion_13 F 196 (nI p) (ov0 sa sb sc n z) F' a.1.1 a.1.2 i (gH a.2)) (n := n) (fun i a => a.1 = (if i = 0 then (-1, ov0 sa sb sc n z) else qS (pS sa sb sc n z p) i) ∧ ∃ W O, a.2 = sA (sA g 200 W) 202 O) (fun a => some (a.1.1, gH a.2)) ?_ ?_ F 0 ((-1, ov0 sa sb sc n z), sA (sA g 200 W0) 202 O0) (by omega) (by omega) ⟨rfl, _, _, rfl⟩
      · obtain ⟨⟨b1, b2⟩, ⟨eb, W, O, e2⟩, hb⟩ := h1
        rw [if_neg (by omega)] at eb
        refine ⟨W, O, ?_⟩
        rw [← e2, ← eb]; exact hb
      · rintro F' i ⟨b1, b2⟩ hi ⟨eb, W, O, e2⟩
        obtain rfl : b2 = _ := e2
        obtain ⟨W', O', h2⟩ := cl_ownersWith (hS W O) h10 hp hi hF
        have e2 : sA (sA (sA (sA g 200 W) 202 O) 200 W') 202 O' = sA (sA g 200 W') 202 O' := by
          rw [sA_comm _ (show 202 ≠ 200 by omega), sA_sA, sA_sA]
        rw [e2] at h2
        refine ⟨(qS (pS sa sb sc n z p) (i + 1), sA (sA g 200 W') 202 O'), ⟨by rw [if_neg (by omega)], W', O', rfl⟩, ?_⟩
        have q0 : gr (ov1 sa sb sc n z p i) (ov0 sa sb sc n z - ov1 sa sb sc n z p i) = pS sa sb sc n z p i := rfl
        have eb' : b1 = _ := eb
        by_cases i0 : i = 0
        · subst i0
          rw [if_pos rfl] at eb'
          subst eb'
          rw [qS_1 (pS_lt h10)]
          simp (disch := omega) only [fX7_bestQuestion_13, io_196, fi_196_6, bdS, ck_t, ck_T, cb_0, cb_1, ab_jn, if_true, if_false, hn6, hi, nI_ltI, c', h2, cl_gr, q0, nI_add, if_true, if_false]
        · rw [if_neg i0] at eb'
          subst eb'
          obtain ⟨i', rfl⟩ : ∃ i', i = i' + 1 := ⟨i - 1, by omega⟩
          have k0 := qS_p (P := pS sa sb sc n z p) (pS_lt h10) i' (by omega)
          rw [qS_S _ (i' + 1)]
          by_cases k : pS sa sb sc n z p (i' + 1) < (qS (pS sa sb sc n z p) (i' + 1)).2
          · rw [if_pos k]
            simp (disch := omega) only [fX7_bestQuestion_13, io_196, fi_196_6, bdS, ck_t, ck_T, cb_0, cb_1, ab_jn, if_true, if_false, hn6, hi, nI_ltI, c', h2, cl_gr, q0, k, k0, nI_add, if_true, if_false]
          · rw [if_neg k]
            simp (disch := omega) only [fX7_bestQuestion_13, io_196, fi_196_6, bdS, ck_t, ck_T, cb_0, cb_1, ab_jn, if_true, if_false, hn6, hi, nI_ltI, c', h2, cl_gr, q0, k, k0, nI_add, if_true, if_false]
      · rintro F' ⟨b1, b2⟩ ⟨eb, W, O, e2⟩
        obtain rfl : b2 = _ := e2
        simp (disch := omega) only [fX7_bestQuestion_13, io_196, fi_196_6, bdS, ck_t, ck_T, cb_0, cb_1, ab_jn, if_true, if_false, hn6, Nat.lt_irrefl, nI_ltI, if_false]
  obtain ⟨W, O, h1⟩ := r
  refine ⟨W, O, ?_⟩
  simp (disch := omega) only [fX7_bestQuestion, io_196, bdS, ck_t, ck_T, cb_0, cb_1, ab_jn, if_true, if_false, h0, h1]
