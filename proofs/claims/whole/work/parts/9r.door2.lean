variable {Nq : Nat}
/-! ===== texts of THE DOOR: the reading, and the row that it leaves ===== -/
def adL (n : Nat) (m : Nat → Int32) : Nat → Nat → Int32
  | 0 => m
  | i + 1 => upd (upd (upd (adL n m i) (72 + 10 * n + i) (nI i)) (172 + 10 * n + i) (nI 0)) (172 + 10 * i + n) (nI 0)
def ad6 (m : Nat → Int32) (n : Nat) (x y : Int32) : Nat → Int32 := upd (upd (upd (upd (upd (upd m (12 + 6 * n + 0) x) (12 + 6 * n + 1) y) (12 + 6 * n + 2) (nI n)) (12 + 6 * n + 3) (-1)) (12 + 6 * n + 4) (-1)) (12 + 6 * n + 5) (nI 0)
def adP (m : Nat → Int32) (n : Nat) (x y : Int32) : Nat → Int32 := upd (adL n (ad6 m n x y) 10) 3 (nI (n + 1))
abbrev DR := Bool × Nat × (Nat → Int32)
/-- `person` at a -/
def dPers (t : Nat → Nat) (L a : Nat) (m : Nat → Int32) (n : Nat) : DR :=
  if n = 10 then (false, a, m) else
  if e8b t L (nxt t L a) = true then
    (if e8b t L (nxt t L (nxt t L a)) = true then (true, nxt t L (nxt t L (nxt t L a)), adP m n (e8v t (nxt t L a)) (e8v t (nxt t L (nxt t L a)))) else (false, nxt t L (nxt t L a), m))
  else (false, nxt t L a, m)
/-- the rest of a row of wishes -/
def flW (w p : Nat) : Nat → Nat → Nat → (Nat → Int32) → (Nat → Int32)
  | 0, _, _, m => m
  | k + 1, j, i, m => if w.testBit i = true then flW w p k j (i + 1) m else flW w p k (j + 1) (i + 1) (upd m (72 + 10 * p + j) (nI i))
def dWl (t : Nat → Nat) (L n p : Nat) : Nat → Nat → Nat → Nat → (Nat → Int32) → DR
  | 0, c, _, _, m => (false, c, m)
  | k + 1, c, w, j, m => if nmb t L c < n ∧ w.testBit (nmb t L c) = false then
      (if kd t L (nxt t L c) = 256 then dWl t L n p k (nxt t L c) (w ||| 2 ^ nmb t L c) (j + 1) (upd m (72 + 10 * p + j) (nI (nmb t L c)))
       else (true, nxt t L c, flW (w ||| 2 ^ nmb t L c) p 10 (j + 1) 0 (upd m (72 + 10 * p + j) (nI (nmb t L c)))))
    else (false, c, m)
def dWish (t : Nat → Nat) (L a : Nat) (m : Nat → Int32) (n : Nat) : DR :=
  if nmb t L (nxt t L a) < n then dWl t L n (nmb t L (nxt t L a)) 11 (nxt t L (nxt t L a)) 0 0 m else (false, nxt t L a, m)
def dWed (t : Nat → Nat) (L a : Nat) (m : Nat → Int32) (n : Nat) : DR :=
  if nmb t L (nxt t L a) < n ∧ m (12 + 6 * nmb t L (nxt t L a) + 4) = -1 then
    (if nmb t L (nxt t L (nxt t L a)) < n ∧ nmb t L (nxt t L (nxt t L a)) ≠ nmb t L (nxt t L a) ∧ m (12 + 6 * nmb t L (nxt t L (nxt t L a)) + 4) = -1 then (true, nxt t L (nxt t L (nxt t L a)), upd (upd m (12 + 6 * nmb t L (nxt t L a) + 4) (nI (nmb t L (nxt t L (nxt t L a))))) (12 + 6 * nmb t L (nxt t L (nxt t L a)) + 4) (nI (nmb t L (nxt t L a))))
     else (false, nxt t L (nxt t L a), m))
  else (false, nxt t L a, m)
def dKl (t : Nat → Nat) (L n p : Nat) : Nat → Nat → (Nat → Int32) → DR
  | 0, c, m => (false, c, m)
  | k + 1, c, m => if nmb t L c < n ∧ nmb t L c ≠ p then
      (if kd t L (nxt t L c) = 256 then dKl t L n p k (nxt t L c) (upd m (12 + 6 * p + 5) (m (12 + 6 * p + 5) ||| (nI 1 <<< (nI (nmb t L c) &&& 31))))
       else (true, nxt t L c, upd m (12 + 6 * p + 5) (m (12 + 6 * p + 5) ||| (nI 1 <<< (nI (nmb t L c) &&& 31)))))
    else (false, c, m)
def dKnows (t : Nat → Nat) (L a : Nat) (m : Nat → Int32) (n : Nat) : DR :=
  if nmb t L (nxt t L a) < n then dKl t L n (nmb t L (nxt t L a)) (L + 1) (nxt t L (nxt t L a)) m else (false, nxt t L a, m)
def mLst (m : Nat → Int32) (n k : Nat) : Int32 := lst (fun h => decide (¬ m (272 + h) = -1) || exB (fun p => m (12 + 6 * p + 3) = nI h) n) k
/-- a setting at a: its number from lo to hi goes to q -/
def dSet (t : Nat → Nat) (L a : Nat) (m : Nat → Int32) (lo : Int32) (hi q : Nat) : DR :=
  if nmb t L (nxt t L a) ≤ hi ∧ ¬ nI (nmb t L (nxt t L a)) < lo then (true, nxt t L (nxt t L a), upd m q (nI (nmb t L (nxt t L a)))) else (false, nxt t L a, m)
def loH (m : Nat → Int32) (n k : Nat) : Int32 := if nI 1 ≤ mLst m n k + nI 1 then mLst m n k + nI 1 else nI 1
def dLine (t : Nat → Nat) (L a : Nat) (m : Nat → Int32) (n k : Nat) : DR :=
  if kd t L a = 1000 then dPers t L a m n else
  if kd t L a = 1001 then dWish t L a m n else
  if kd t L a = 1002 then dWed t L a m n else
  if kd t L a = 1003 then dKnows t L a m n else
  if kd t L a = 1004 then dSet t L a m (loH m n k) 12 4 else
  if kd t L a = 1005 then dSet t L a m (nI 0) 100 6 else
  if kd t L a = 1006 then dSet t L a m (nI 0) 100 7 else (false, a, m)
def dLines (t : Nat → Nat) (L : Nat) : Nat → Nat → (Nat → Int32) → DR
  | 0, a, m => (false, a, m)
  | k + 1, a, m => if (dLine t L a m (nv (m 3)) (nv (m 4))).1 = true then
      (if kd t L (dLine t L a m (nv (m 3)) (nv (m 4))).2.1 = 4000 then (true, (dLine t L a m (nv (m 3)) (nv (m 4))).2.1, (dLine t L a m (nv (m 3)) (nv (m 4))).2.2)
       else if kd t L (dLine t L a m (nv (m 3)) (nv (m 4))).2.1 = 59 then dLines t L k (nxt t L (dLine t L a m (nv (m 3)) (nv (m 4))).2.1) (dLine t L a m (nv (m 3)) (nv (m 4))).2.2
       else (false, (dLine t L a m (nv (m 3)) (nv (m 4))).2.1, m))
    else (false, (dLine t L a m (nv (m 3)) (nv (m 4))).2.1, m)
def dText (t : Nat → Nat) (L : Nat) (m : Nat → Int32) : DR := if kd t L (rn (bk t) L 0) = 4000 then (true, rn (bk t) L 0, m) else dLines t L 14 (rn (bk t) L 0) m
/-! ===== the reference ===== -/
theorem txA (g : gG) (a f d u v : Int32) (h : Nat → Int32) : sA (tx g a f d u v) 207 h = tx (sA g 207 h) a f d u v := rfl
/-- the reference while it reads a text of THE DOOR -/
def Ld (g : gG) (t : Nat → Nat) (L : Nat) : Prop := gF g 206 10 = nI L ∧ L ≤ 400 ∧ (∀ i, i < L → t i < 256) ∧ gF g 206 9 = -1 ∧ ∀ k, k < L → gA g 211 k = nI (t k)
theorem Ld.x {g : gG} {t : Nat → Nat} {L : Nat} (H : Ld g t L) : Ltx g t L := ⟨H.1, H.2.1, H.2.2.1, Or.inl ⟨H.2.2.2.1, H.2.2.2.2⟩⟩
theorem Ld.m {g : gG} {t : Nat → Nat} {L : Nat} (H : Ld g t L) (m : Nat → Int32) : Ld (sA g 207 m) t L := ⟨H.1, H.2.1, H.2.2.1, H.2.2.2.1, fun k hk => by rw [gA_sA2 _ _ (by omega)]; exact H.2.2.2.2 k hk⟩
def td (g : gG) (m : Nat → Int32) (a f u v : Int32) : gG := tx (sA g 207 m) a f (nI 0) u v
theorem td_m (g : gG) (m : Nat → Int32) (a f u v : Int32) : gA (td g m a f u v) 207 = m := gA_sA1 _ _ _
theorem td_w (g : gG) (m m' : Nat → Int32) (a f u v : Int32) : sA (td g m a f u v) 207 m' = td g m' a f u v := by unfold td; rw [txA, sA_sA]
theorem td_has (g : gG) (m : Nat → Int32) (a f u v w : Int32) {p r : Nat} (h : 12 + 6 * p + r < 984) : fX12_has 206 (nI p) (nI r) w (gH (td g m a f u v)) = some (gH (td g (upd m (12 + 6 * p + r) w) a f u v)) := by rw [rf_has _ _ h, td_m, td_w]
theorem td_of (g : gG) (m : Nat → Int32) (a f u v : Int32) {p r : Nat} (h : 12 + 6 * p + r < 984) : fX12_of 206 (nI p) (nI r) (gH (td g m a f u v)) = some (m (12 + 6 * p + r)) := by rw [rf_of _ h, td_m]
theorem td_ia (g : gG) (m : Nat → Int32) (a f u v : Int32) {q : Nat} (h : q < 984) : ab_ia 0 (gH (td g m a f u v)) 207 (nI q) = some (m q) := by rw [ia_207 _ h, td_m]
theorem td_iw (g : gG) (m : Nat → Int32) (a f u v w : Int32) {q : Nat} (h : q < 984) : ab_iw 0 (gH (td g m a f u v)) 207 (nI q) w = some (gH (td g (upd m q w) a f u v)) := by rw [iw_207 _ _ h, td_m, td_w]
theorem td_f12 (g : gG) (m : Nat → Int32) (a f u v : Int32) : ab_fi (gH (td g m a f u v)) 206 12 12 = some f := (fi_206_12 _).trans (congrArg some (tf12 ..))
theorem td_f11 (g : gG) (m : Nat → Int32) (a f u v : Int32) : ab_fi (gH (td g m a f u v)) 206 12 11 = some a := (fi_206_11 _).trans (congrArg some (tf11 ..))
theorem td_wr (g : gG) (m : Nat → Int32) (a u v w : Int32) : fX12_wrong 206 w (gH (td g m a (-1) u v)) = some (gH (td g m a w u v)) := by
  unfold td
  simp (disch := omega) only [fX12_wrong, fi_206_12, fw_206_12, bdS, ck_t, ck_T, cb_0, cb_1, ab_jn, if_true, if_false, tf9, tf10, tf11, tf12, tf13, tf15, tf16, tf17, tf18, tA, tx_11, tx_12, tx_13, tx_17, tx_18, if_true]
theorem td_wrW (g : gG) (m : Nat → Int32) (a f u v w : Int32) (hf : ¬ f = -1) : fX12_wrong 206 w (gH (td g m a f u v)) = some (gH (td g m a f u v)) := by
  unfold td
  simp (disch := omega) only [fX12_wrong, fi_206_12, fw_206_12, bdS, ck_t, ck_T, cb_0, cb_1, ab_jn, if_true, if_false, tf9, tf10, tf11, tf12, tf13, tf15, tf16, tf17, tf18, tA, tx_11, tx_12, tx_13, tx_17, tx_18, hf, if_false]
/-- numbers from 0 to n - 1 -/
theorem td_fig {g : gG} {t : Nat → Nat} {L : Nat} (H : Ld g t L) (m : Nat → Int32) (u v : Int32) {n : Nat} (hn : n ≤ 1000) {a : Nat} (ha : a ≤ L) {F : Nat} (hF : 11000 < F) : ∃ x a', a' ≤ L ∧ fX12_figures F 206 (nI 0) (nI n - nI 1) (gH (td g m (nI a) (-1) u v)) = if nmb t L (rn (bk t) L a) < n then some (nI (nmb t L (rn (bk t) L a)), gH (td g m (nI (en t L (rn (bk t) L a))) (-1) u v)) else some (x, gH (td g m (nI a') (nI (rn (bk t) L a)) u v)) := by
  obtain ⟨x, a', h1, h2⟩ := rf_figs (H.m m).x (nI 0) u v (nI 0) (nI n - nI 1) ha hF
  refine ⟨x, a', h1, ?_⟩
  unfold td
  rw [h2]
  have nl := nmb_lt (t := t) (L := L) (a := rn (bk t) L a)
  generalize nmb t L (rn (bk t) L a) = q at *
  have q0 : ¬ nI q < nI 0 := fun h => by rw [nI_ltI (by omega) (by omega)] at h; omega
  by_cases c : n = 0
  · subst c
    rw [if_neg (fun h => ?_), if_neg (by omega)]
    have h3 := h.2.2
    rw [show (nI 0 : Int32) - nI 1 = -1 by decide] at h3
    have : ¬ nI q ≤ -1 := fun h4 => by
      have h5 : nI q < nI 0 := Int32.lt_of_le_of_lt h4 (by decide)
      exact q0 h5
    exact this h3
  · rw [pk_sub (by omega)]
    by_cases c2 : q < n
    · rw [if_pos c2, if_pos ⟨by omega, q0, nI_le (by omega) (by omega)⟩]
    · rw [if_neg c2, if_neg (fun h => by have := h.2.2; rw [nI_leI (by omega) (by omega)] at this; omega)]
