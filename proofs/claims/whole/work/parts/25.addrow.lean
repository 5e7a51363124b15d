/-! ===== addRow ===== -/
theorem sub_m1 (f : Nat) : (nI f + (-1)) - (-1) = nI f := by
  rw [Int32.sub_eq_add_neg, Int32.add_assoc, show (-1 : Int32) + -(-1) = 0 by decide, Int32.add_zero]
theorem rm_60 {a : Nat} (h : a < 2 ^ 31) : ab_rm (nI a) (nI 60) = nI (a % 60) := pk_rem h (by decide) (by decide)
theorem rm_12 {a : Nat} (h : a < 2 ^ 31) : ab_rm (nI a) (nI 12) = nI (a % 12) := pk_rem h (by decide) (by decide)
theorem n60 : (¬ nI 60 = 0) ↔ True := by decide
theorem n12 : (¬ nI 12 = 0) ↔ True := by decide
theorem cl_min {a b : Nat} (h : ab_H) (ha : a < 2 ^ 31) (hb : b < 2 ^ 31) : fJ9_min_7cf53 (nI a) (nI b) h = some (nI (min a b)) := by
  unfold fJ9_min_7cf53
  rw [Nat.min_def]
  by_cases c : a ≤ b
  · simp (disch := omega) only [nI_leI, c, if_true]
  · simp (disch := omega) only [nI_leI, c, if_false]
def adR (g : gG) (x nx r : Nat) (v : Int64) : gG := sF (sF (sL g (x + 2) (vp_updL (gL g (x + 2)) nx v)) (x + 1) 2 (nI ((nx + 1) % 60))) (x + 1) 1 (nI (min (r + 1) 60))
theorem cl_addRow (g : gG) {x nx r : Nat} (hx : isSt x) (h1 : gF g (x + 1) 2 = nI nx) (hnx : nx < 60) (h2 : gF g (x + 1) 1 = nI r) (hr : r ≤ 60) (hr5 : Int32) (p h f w : Nat) : fX4_addRow (x + 1) hr5 (nI p) (nI h) (nI f + (-1)) (nI w) (gH g) = some (gH (adR g x nx r (pkL hr5 p h f w))) := by
  have e : ¬ (1 = 2) := by omega
  simp (disch := first | omega | assumption | exact isSt6 | exact isSt18 | exact isSt30) only [fX4_addRow, fr_l0, la_s, lw_s, fi_l2, fw_l2, fi_l1, fw_l1, bdS, ck_t, ck_T, cb_0, cb_1, ab_jn, if_true, if_false, h1, sub_m1, gF_sL, gF_sF1, n60, rm_60, upd_1, upd_2 _ _ e, h2, cl_min, nI_add, pk_mul, nI_ltI, nI_leI, nI_eq]
  rfl
theorem adR_Fs (g : gG) (x nx r : Nat) (v : Int64) : Fs g (adR g x nx r v) x := (Fs_L (by decide)).trans ((Fs_F (by decide)).trans (Fs_F (by decide)))
theorem les_60 {r : Nat} (h : r ≤ 60) : les (nI 60) (nI r + nI 1) = nI (min (r + 1) 60) := by
  unfold les
  rw [nI_add]
  by_cases c : 60 < r + 1
  · rw [if_pos (nI_lt c (by omega))]; congr 1; omega
  · rw [if_neg (nI_nlt (by omega) (by omega))]; congr 1; omega
theorem Lg.add {g : gG} {x : Nat} {m : Nat → Int32} {nx r : Nat} (h1 : r ≤ 60) (h2 : nx < 60) (h3 : gF g (x + 1) 1 = nI r) (h4 : m 8 = nI r) (h5 : gF g (x + 1) 2 = nI nx)
  (h6 : ∀ a, a < r → ∃ p h f w, p < 16 ∧ h < 16 ∧ f < 16 ∧ w < 16 ∧ gL g (x + 2) ((nx + 59 - a) % 60) = pkL (m (284 + 5 * a)) p h f w ∧ m (285 + 5 * a) = nI p ∧ m (286 + 5 * a) = nI h ∧ m (287 + 5 * a) = nI f + (-1) ∧ m (288 + 5 * a) = nI w)
  {p h f w : Nat} (hp : p < 16) (hh : h < 16) (hf : f < 16) (hw : w < 16) : Lg (adR g x nx r (pkL (m 5) p h f w)) x (wrM m (nI p) (nI h) (nI f + (-1)) (nI w)) := by
  have e21 : ¬ (2 = 1) := by omega
  refine ⟨min (r + 1) 60, (nx + 1) % 60, by omega, by omega, ?_, ?_, ?_, ?_⟩
  · unfold adR; rw [gF_sF1, upd_1]
  · unfold wrM; rw [if_pos rfl, h4, les_60 h1]
  · unfold adR; rw [gF_sF1, upd_2 _ _ e21, gF_sF1, upd_1]
  · intro a ha
    have eL : gL (adR g x nx r (pkL (m 5) p h f w)) (x + 2) = vp_updL (gL g (x + 2)) nx (pkL (m 5) p h f w) := by
      unfold adR; rw [gL_sF, gL_sF, gL_sL1]
    by_cases c : a = 0
    · subst c
      refine ⟨p, h, f, w, hp, hh, hf, hw, ?_, ?_, ?_, ?_, ?_⟩
      · rw [eL, show ((nx + 1) % 60 + 59 - 0) % 60 = nx by omega]
        show (if nx = nx then _ else _) = _
        rw [if_pos rfl]
        simp [wrM]
      · simp [wrM]
      · simp [wrM]
      · simp [wrM]
      · simp [wrM]
    · obtain ⟨p', h', f', w', a1, a2, a3, a4, a5, a6, a7, a8, a9⟩ := h6 (a - 1) (by omega)
      have em : ∀ j, 284 ≤ j → j ≤ 288 → wrM m (nI p) (nI h) (nI f + (-1)) (nI w) (j + 5 * a) = m (j + 5 * (a - 1)) := by
        intro j hj hj'
        unfold wrM
        rw [if_neg (by omega), if_neg (by omega), if_neg (by omega), if_neg (by omega), if_neg (by omega), if_neg (by omega), if_pos (by omega)]
        congr 1; omega
      refine ⟨p', h', f', w', a1, a2, a3, a4, ?_, ?_, ?_, ?_, ?_⟩
      · rw [eL, em 284 (by omega) (by omega), ← a5, show ((nx + 1) % 60 + 59 - a) % 60 = (nx + 59 - (a - 1)) % 60 by omega]
        show (if (nx + 59 - (a - 1)) % 60 = nx then _ else _) = _
        rw [if_neg (by omega)]
      · rw [em 285 (by omega) (by omega)]; exact a6
      · rw [em 286 (by omega) (by omega)]; exact a7
      · rw [em 287 (by omega) (by omega)]; exact a8
      · rw [em 288 (by omega) (by omega)]; exact a9
/-- rows that agree below THE LOG -/
def Al (m m' : Nat → Int32) : Prop := ∀ q, q < 284 → q ≠ 8 → m' q = m q
theorem wrM_Al (m : Nat → Int32) (p h f w : Int32) : Al m (wrM m p h f w) := by
  intro q hq h8
  unfold wrM
  rw [if_neg h8, if_neg (by omega), if_neg (by omega), if_neg (by omega), if_neg (by omega), if_neg (by omega), if_neg (by omega)]
theorem Iw.al {m m' : Nat → Int32} {n k : Nat} (I : Iw m n k) (A : Al m m') (h10 : n ≤ 10) : Iw m' n k := by
  obtain ⟨i1, i2, i3, i4, i5, i6⟩ := I
  refine ⟨fun p hp => ?_, fun p q hp hq => ?_, fun h hh => ?_, fun h i hh hi => ?_, fun p h hp hh => ?_, fun p hp => ?_⟩
  · rw [A _ (by omega) (by omega)]; exact i1 p hp
  · rw [A _ (by omega) (by omega), A _ (by omega) (by omega)]; exact i2 p q hp hq
  · rw [A _ (by omega) (by omega)]; exact i3 h hh
  · rw [A _ (by omega) (by omega), A _ (by omega) (by omega)]; exact i4 h i hh hi
  · rw [A _ (by omega) (by omega), A _ (by omega) (by omega)]; exact i5 p h hp hh
  · rw [A _ (by omega) (by omega)]; exact i6 p hp
theorem Ix.al {m m' : Nat → Int32} {n : Nat} (I : Ix m n) (A : Al m m') (h10 : n ≤ 10) : Ix m' n := by
  obtain ⟨i1, i2, i3, i4, i5, i6⟩ := I
  refine ⟨fun p hp => ?_, fun p hp => ?_, fun p hp => ?_, fun p o hp ho => ?_, fun p o i hp ho hi => ?_, fun p o hp ho ho' => ?_⟩
  · rw [A _ (by omega) (by omega)]; exact i1 p hp
  · rw [A _ (by omega) (by omega)]; exact i2 p hp
  · rw [A _ (by omega) (by omega)]; exact i3 p hp
  · rw [A _ (by omega) (by omega)]; exact i4 p o hp ho
  · rw [A _ (by omega) (by omega), A _ (by omega) (by omega)]; exact i5 p o i hp ho hi
  · rw [A _ (by omega) (by omega)]; exact i6 p o hp ho ho'
theorem Sv.al {g g' : gG} {x : Nat} {m m' : Nat → Int32} {n k : Nat} (V : Sv g x m n k) (A : Al m m') (h0 : gF g' x = gF g x) (ha : ∀ r, 3 ≤ r → r < 12 → gA g' (x + r) = gA g (x + r)) : Sv g' x m' n k := by
  obtain ⟨hx, hn, h10, hk, h12, e3, e4, e5, e6, e7, e8, e11, e9, e10⟩ := V
  refine ⟨hx, by rw [h0]; exact hn, h10, by rw [h0]; exact hk, h12, ?_, ?_, ?_, ?_, ?_, ?_, ?_, ?_, ?_⟩
  · intro q hq; rw [ha 3 (by decide) (by decide), A _ (by omega) (by omega)]; exact e3 q hq
  · intro q hq; rw [ha 4 (by decide) (by decide), A _ (by omega) (by omega)]; exact e4 q hq
  · intro q hq; rw [ha 5 (by decide) (by decide), A _ (by omega) (by omega)]; exact e5 q hq
  · intro q hq; rw [ha 6 (by decide) (by decide), A _ (by omega) (by omega)]; exact e6 q hq
  · intro q hq; rw [ha 7 (by decide) (by decide), A _ (by omega) (by omega)]; exact e7 q hq
  · intro q hq; rw [ha 8 (by decide) (by decide), A _ (by omega) (by omega)]; exact e8 q hq
  · intro q hq; rw [ha 11 (by decide) (by decide), A _ (by omega) (by omega)]; exact e11 q hq
  · intro p o hp ho; rw [ha 9 (by decide) (by decide), A _ (by omega) (by omega)]; exact e9 p o hp ho
  · intro p o hp ho; rw [ha 10 (by decide) (by decide), A _ (by omega) (by omega)]; exact e10 p o hp ho
/-- a row more in THE LOG, of both -/
theorem SR.add {g : gG} {x : Nat} {m : Nat → Int32} {n k : Nat} (S : SR g x m n k) {p h f w : Nat} (hp : p < 16) (hh : h < 16) (hf : f < 16) (hw : w < 16) : ∃ g', fX4_addRow (x + 1) (m 5) (nI p) (nI h) (nI f + (-1)) (nI w) (gH g) = some (gH g') ∧ Fs g g' x ∧ SR g' x (wrM m (nI p) (nI h) (nI f + (-1)) (nI w)) n k := by
  obtain ⟨V, k1, m3, m4, X, L, B, W, I⟩ := S
  obtain ⟨r, nx, h1, h2, h3, h4, h5, h6⟩ := L
  have hx := V.1
  have h10 := V.2.2.1
  have A := wrM_Al m (nI p) (nI h) (nI f + (-1)) (nI w)
  have f0 : gF (adR g x nx r (pkL (m 5) p h f w)) x = gF g x := by
    unfold adR; rw [gF_sF2 _ _ (by omega), gF_sF2 _ _ (by omega), gF_sL]
  refine ⟨_, cl_addRow g hx h5 h2 h3 h1 (m 5) p h f w, adR_Fs g x nx r _, V.al A f0 (fun _ _ _ => rfl), k1, ?_, ?_, ?_, Lg.add h1 h2 h3 h4 h5 h6 hp hh hf hw, B.keep (fun _ _ _ _ _ _ => rfl) (fun _ _ _ _ _ => ⟨rfl, rfl⟩), W.al A h10, I.al A h10⟩
  · rw [A 3 (by decide) (by decide)]; exact m3
  · rw [A 4 (by decide) (by decide)]; exact m4
  · exact X.keep f0 (A 5 (by decide) (by decide)) (A 6 (by decide) (by decide)) (A 7 (by decide) (by decide)) (A 9 (by decide) (by decide)) (A 0 (by decide) (by decide))
