variable {Nq : Nat}
/-! ===== sure of one: fits ===== -/
def fs (c : Nat → Bool) : Nat → Nat → Int32
  | _, 0 => -1
  | i, d + 1 => if c i = true then nI i else fs c (i + 1) d
theorem lpF {α ρ : Type} {L : Nat → Int32 → α → ρ} {n : Nat} (I : α → Prop) (c : Nat → Bool) (K : Int32 → α → ρ)
  (hs : ∀ F i a, i < n → I a → ∃ b, I b ∧ L (F + 1) (nI i) a = if c i = true then K (nI i) b else L F (nI (i + 1)) b)
  (he : ∀ F a, I a → L (F + 1) (nI n) a = K (-1) a) :
  ∀ d F i a, i + d = n → d < F → I a → ∃ b, I b ∧ L F (nI i) a = K (fs c i d) b
  | 0, F, i, a, h1, h2, h3 => by
    obtain ⟨F', rfl⟩ : ∃ F', F = F' + 1 := ⟨F - 1, by omega⟩
    have : i = n := by omega
    subst this
    exact ⟨a, h3, he F' a h3⟩
  | d + 1, F, i, a, h1, h2, h3 => by
    obtain ⟨F', rfl⟩ : ∃ F', F = F' + 1 := ⟨F - 1, by omega⟩
    obtain ⟨b, hb, e⟩ := hs F' i a (by omega) h3
    rw [e]
    by_cases k : c i = true
    · exact ⟨b, hb, by rw [if_pos k]; unfold fs; rw [if_pos k]⟩
    · obtain ⟨b', hb', e'⟩ := lpF I c K hs he d F' (i + 1) b (by omega) (by omega) hb
      exact ⟨b', hb', by rw [if_neg k, e']; rw [fs, if_neg k]⟩
def fitV (sa sb sc : Nat → Nat) (n z p : Nat) : Int32 := if n = 0 ∨ ov0 sa sb sc n z ≤ 0 then -1 else fs (fun f => decide (ov1 sa sb sc n z p f = ov0 sa sb sc n z)) 0 n
theorem cl_sure {g : gG} {n z : Nat} {sa sb sc : Nat → Nat} (S : Sd g n z sa sb sc) (h10 : n ≤ 10) {p : Nat} (hp : p < n) {F : Nat} (hF : 11000 < F) : ∃ W O, fX7_sureFace F 196 (nI p) (gH g) = some (fitV sa sb sc n z p, gH (sA (sA g 200 W) 202 O)) := by
  obtain ⟨W0, O0, h0⟩ := cl_ownersOfAll S h10 hF
  have hS : ∀ W O, Sd (sA (sA g 200 W) 202 O) n z sa sb sc := fun W O => (S.a (by omega)).a (by omega)
  have hn6 : ∀ W O, gF (sA (sA g 200 W) 202 O) 196 6 = nI n := fun W O => S.2.1
  have r : ∃ W O, fX7_sureFace_7 F 196 (nI p) (ov0 sa sb sc n z) F (nI 0) (gH (sA (sA g 200 W0) 202 O0)) = some (fitV sa sb sc n z p, gH (sA (sA g 200 W) 202 O)) := by
    by_cases c : ov0 sa sb sc n z ≤ 0
    · refine ⟨W0, O0, ?_⟩
      obtain ⟨F', rfl⟩ : ∃ F', F = F' + 1 := ⟨F - 1, by omega⟩
      have e : fitV sa sb sc n z p = -1 := if_pos (Or.inr c)
      have n0 : 0 < n := by omega
      rw [e]
      simp (disch := omega) only [fX7_sureFace_7, io_196, fi_196_6, bdS, ck_t, ck_T, cb_0, cb_1, ab_jn, if_true, if_false, hn6, n0, nI_ltI, c, if_true]
    · have e : fitV sa sb sc n z p = fs (fun f => decide (ov1 sa sb sc n z p f = ov0 sa sb sc n z)) 0 n := if_neg (by intro h; rcases h with h | h; omega; exact c h)
      rw [e]
      have h1 := lpF (L := fun F' i (a : gG) => fX7_sureFace_7 F 196 (nI p) (ov0 sa sb sc n z) F' i (gH a)) (n := n) (fun a => ∃ W O, a = sA (sA g 200 W) 202 O) (fun f => decide (ov1 sa sb sc n z p f = ov0 sa sb sc n z)) (fun v a => some (v, gH a)) ?_ ?_ n F 0 (sA (sA g 200 W0) 202 O0) (by omega) (by omega) ⟨W0, O0, rfl⟩
      · obtain ⟨b, ⟨W, O, rfl⟩, hb⟩ := h1
        exact ⟨W, O, hb⟩
      · rintro F' i _ hi ⟨W, O, rfl⟩
        obtain ⟨W', O', h2⟩ := cl_ownersWith (hS W O) h10 hp hi hF
        have e2 : sA (sA (sA (sA g 200 W) 202 O) 200 W') 202 O' = sA (sA g 200 W') 202 O' := by
          rw [sA_comm _ (show 202 ≠ 200 by omega), sA_sA, sA_sA]
        rw [e2] at h2
        refine ⟨_, ⟨W', O', rfl⟩, ?_⟩
        by_cases k : ov1 sa sb sc n z p i = ov0 sa sb sc n z
        · simp (disch := omega) only [fX7_sureFace_7, io_196, fi_196_6, bdS, ck_t, ck_T, cb_0, cb_1, ab_jn, if_true, if_false, hn6, hi, nI_ltI, c, h2, k, nI_add, if_true, if_false, decide_true]
        · simp (disch := omega) only [fX7_sureFace_7, io_196, fi_196_6, bdS, ck_t, ck_T, cb_0, cb_1, ab_jn, if_true, if_false, hn6, hi, nI_ltI, c, h2, k, nI_add, if_true, if_false, decide_false, reduceCtorEq]
      · rintro F' _ ⟨W, O, rfl⟩
        simp (disch := omega) only [fX7_sureFace_7, io_196, fi_196_6, bdS, ck_t, ck_T, cb_0, cb_1, ab_jn, if_true, if_false, hn6, Nat.lt_irrefl, nI_ltI, if_false]
  obtain ⟨W, O, h1⟩ := r
  refine ⟨W, O, ?_⟩
  simp (disch := omega) only [fX7_sureFace, io_196, bdS, ck_t, ck_T, cb_0, cb_1, ab_jn, if_true, if_false, h0, h1]
theorem rf_sure (g : gG) {n : Nat} (hn : gA g 207 3 = nI n) (h10 : n ≤ 10) {F : Nat} (hF : 11000 < F) {z : Nat} {sa sb sc : Nat → Nat} (S : Sq g n z sa sb sc) {p : Nat} (hp : p < n) : ∃ M O, fX12_fits_62 F 206 (nI p) (ov0 sa sb sc n z) F (nI 0) (gH g) = some (fitV sa sb sc n z p, gH (sA (sA g 214 M) 215 O)) := by
  have hS : ∀ W O, Sq (sA (sA g 214 W) 215 O) n z sa sb sc := fun W O => (S.a (by omega)).a (by omega)
  have hn7 : ∀ W O, gA (sA (sA g 214 W) 215 O) 207 3 = nI n := fun W O => by rw [gA_sA2 _ _ (by omega), gA_sA2 _ _ (by omega)]; exact hn
  have eid : sA (sA g 214 (gA g 214)) 215 (gA g 215) = g := by rw [sA_id, sA_id]
  by_cases c : ov0 sa sb sc n z ≤ 0
  · refine ⟨gA g 214, gA g 215, ?_⟩
    obtain ⟨F', rfl⟩ : ∃ F', F = F' + 1 := ⟨F - 1, by omega⟩
    have e : fitV sa sb sc n z p = -1 := if_pos (Or.inr c)
    have n0 : 0 < n := by omega
    rw [e, eid]
    simp (disch := omega) only [fX12_fits_62, io_206, fr_206_1, ia_207, bdS, ck_t, ck_T, cb_0, cb_1, ab_jn, if_true, if_false, hn, n0, nI_ltI, c, if_true]
  · have e : fitV sa sb sc n z p = fs (fun f => decide (ov1 sa sb sc n z p f = ov0 sa sb sc n z)) 0 n := if_neg (by intro h; rcases h with h | h; omega; exact c h)
    rw [e]
    have h1 := lpF (L := fun F' i (a : gG) => fX12_fits_62 F 206 (nI p) (ov0 sa sb sc n z) F' i (gH a)) (n := n) (fun a => ∃ W O, a = sA (sA g 214 W) 215 O) (fun f => decide (ov1 sa sb sc n z p f = ov0 sa sb sc n z)) (fun v a => some (v, gH a)) ?_ ?_ n F 0 g (by omega) (by omega) ⟨_, _, eid.symm⟩
    · obtain ⟨b, ⟨W, O, rfl⟩, hb⟩ := h1
      exact ⟨W, O, hb⟩
    · rintro F' i _ hi ⟨W, O, rfl⟩
      obtain ⟨W', O', h2⟩ := rf_waysOf _ (hn7 W O) h10 hF (hS W O) hp hi
      have e2 : sA (sA (sA (sA g 214 W) 215 O) 214 W') 215 O' = sA (sA g 214 W') 215 O' := by
        rw [sA_comm _ (show 215 ≠ 214 by omega), sA_sA, sA_sA]
      rw [e2] at h2
      have n7 := hn7 W O
      refine ⟨_, ⟨W', O', rfl⟩, ?_⟩
      by_cases k : ov1 sa sb sc n z p i = ov0 sa sb sc n z
      · simp (disch := omega) only [fX12_fits_62, io_206, fr_206_1, ia_207, bdS, ck_t, ck_T, cb_0, cb_1, ab_jn, if_true, if_false, n7, hi, nI_ltI, c, h2, k, nI_add, if_true, if_false, decide_true]
      · simp (disch := omega) only [fX12_fits_62, io_206, fr_206_1, ia_207, bdS, ck_t, ck_T, cb_0, cb_1, ab_jn, if_true, if_false, n7, hi, nI_ltI, c, h2, k, nI_add, if_true, if_false, decide_false, reduceCtorEq]
    · rintro F' _ ⟨W, O, rfl⟩
      have n7 := hn7 W O
      simp (disch := omega) only [fX12_fits_62, io_206, fr_206_1, ia_207, bdS, ck_t, ck_T, cb_0, cb_1, ab_jn, if_true, if_false, n7, Nat.lt_irrefl, nI_ltI, if_false]
