variable {Nq : Nat}
/-! ===== what THE LAW asks of a PERSON ===== -/
def fM (m : Nat → Int32) (p : Nat) : Int32 := if m (12 + 6 * p + 2) = -1 then (if m (12 + 6 * p + 3) = -1 then -1 else m (272 + nv (m (12 + 6 * p + 3)))) else m (12 + 6 * p + 2)
def hgM (m : Nat → Int32) (k : Nat) : Int32 := nI (fb_ct (fun h => decide (¬ m (272 + h) = -1)) k)
def envM (m : Nat → Int32) (k p w : Nat) : Int32 := if w = 1002 then (if m (12 + 6 * p + 4) = -1 then nI 0 else nI 1) else if w = 1013 then (if fM m p = nI p then nI 1 else nI 0) else if w = 1014 then nI p else if w = 1015 then m 5 else if w = 1016 then (if m (12 + 6 * p + 3) = -1 then nI 99 else m (12 + 6 * p + 3)) else if w = 1017 then (if fM m p = -1 then nI 0 else nI (pc (m (12 + 6 * nv (fM m p))))) else if w = 1018 then hgM m k else nI k - hgM m k
theorem fM_in {m : Nat → Int32} {n k p : Nat} (W : Iw m n k) (hp : p < n) (k12 : k ≤ 12) : fM m p = -1 ∨ ∃ f, f < n ∧ fM m p = nI f := by
  unfold fM
  by_cases c : m (12 + 6 * p + 2) = -1
  · rw [if_pos c]
    by_cases c2 : m (12 + 6 * p + 3) = -1
    · rw [if_pos c2]; exact Or.inl rfl
    · rw [if_neg c2]
      obtain ⟨j, hj, e⟩ := (W.2.2.2.2.2 p hp).resolve_left c2
      rw [e, nv_nI (by omega)]
      exact (W.2.2.1 j (by omega)).imp id (fun h => h.2)
  · rw [if_neg c]
    exact W.1 p hp
theorem cl_fm {g : gG} {x : Nat} {m : Nat → Int32} {n k : Nat} (S : SR g x m n k) {p : Nat} (hp : p < n) (J : Int32 → Option Int32) : (if m (12 + 6 * p + 2) = (-1 : Int32) then ab_bd (ab_fr (gH g) x 8 12) fun v41 => ab_bd (ab_ia 0 (gH g) v41 (nI p)) fun v42 => ab_ck (ab_io (gH g) x 8 = true) (ab_bd (fX8_faceAt x v42 (gH g)) fun v43 => J v43) else ab_bd (ab_fr (gH g) x 8 11) fun v44 => ab_bd (ab_ia 0 (gH g) v44 (nI p)) fun v45 => J v45) = J (fM m p) := by
  have V := S.1
  obtain ⟨hx, hn, h10, hk, h12, e3, e4, e5, e6, e7, e8, e11, e9, e10⟩ := V
  unfold fM
  by_cases c : m (12 + 6 * p + 2) = -1
  · rw [if_pos c, if_pos c]
    refine (bd_e (fr_s12 _ hx)).trans ?_
    refine (bd_e (ia_s6 _ hx (by omega))).trans ?_
    rw [e6 p hp]
    refine (ck_e (io_s _ hx)).trans ?_
    by_cases c2 : m (12 + 6 * p + 3) = -1
    · rw [if_pos c2, c2]
      exact bd_e (show fX8_faceAt x (-1) (gH g) = some (-1) from by unfold fX8_faceAt; rw [if_pos (by decide)])
    · rw [if_neg c2]
      obtain ⟨j, hj, e⟩ := (S.w.2.2.2.2.2 p hp).resolve_left c2
      rw [e, nv_nI (by omega)]
      refine bd_e ?_
      unfold fX8_faceAt
      rw [if_neg (nI_pos (by omega)), if_pos (nI_lt (by omega) (by decide))]
      refine (bd_e (fr_s17 _ hx)).trans ?_
      refine (bd_e (ia_s11 _ hx (by omega))).trans ?_
      rw [e11 j (by omega)]
  · rw [if_neg c, if_neg c]
    refine (bd_e (fr_s11 _ hx)).trans ?_
    refine (bd_e (ia_s5 _ hx (by omega))).trans ?_
    rw [e5 p hp]
theorem cl_value {g : gG} {x : Nat} {m : Nat → Int32} {n k : Nat} (S : SR g x m n k) {p : Nat} (hp : p < n) {w : Nat} (hw : w = 1002 ∨ (1013 ≤ w ∧ w ≤ 1019)) {F : Nat} (hF : 11000 < F) : fX8_valueOf F x (nI w) (nI p) (gH g) = some (envM m k p w) := by
  have V := S.1
  have hg := cl_hungCount V hF
  have fi := fM_in S.w hp S.c.k12
  obtain ⟨hx, hn, h10, hk, h12, e3, e4, e5, e6, e7, e8, e11, e9, e10⟩ := V
  unfold fX8_valueOf
  refine (bd_e (fr_s11 _ hx)).trans ?_
  refine (bd_e (ia_s5 _ hx (by omega))).trans ?_
  rw [e5 p hp]
  refine (jn_e _ _).trans ?_
  refine (cl_fm S hp _).trans ?_
  have hw' : w = 1002 ∨ w = 1013 ∨ w = 1014 ∨ w = 1015 ∨ w = 1016 ∨ w = 1017 ∨ w = 1018 ∨ w = 1019 := by omega
  rcases hw' with rfl | rfl | rfl | rfl | rfl | rfl | rfl | rfl
  · refine (if_pos rfl).trans ?_
    refine (bd_e (fr_s13 _ hx)).trans ?_
    refine (bd_e (ia_s7 _ hx (by omega))).trans ?_
    rw [e7 p hp]
    show _ = some (if m (12 + 6 * p + 4) = -1 then nI 0 else nI 1)
    by_cases c : m (12 + 6 * p + 4) = -1
    · rw [if_pos c, if_pos c]
    · rw [if_neg c, if_neg c]
  · refine (if_neg (show ¬ (nI 1013 : Int32) = nI 1002 by decide)).trans ?_
    refine (if_neg (show ¬ (nI 1013 : Int32) = nI 1003 by decide)).trans ?_
    refine (if_neg (show ¬ (nI 1013 : Int32) = nI 1004 by decide)).trans ?_
    refine (if_neg (show ¬ (nI 1013 : Int32) = nI 1005 by decide)).trans ?_
    refine (if_neg (show ¬ (nI 1013 : Int32) = nI 1006 by decide)).trans ?_
    refine (if_neg (show ¬ (nI 1013 : Int32) = nI 1007 by decide)).trans ?_
    refine (if_neg (show ¬ (nI 1013 : Int32) = nI 1008 by decide)).trans ?_
    refine (if_neg (show ¬ (nI 1013 : Int32) = nI 1009 by decide)).trans ?_
    refine (if_neg (show ¬ (nI 1013 : Int32) = nI 1010 by decide)).trans ?_
    refine (if_neg (show ¬ (nI 1013 : Int32) = nI 1011 by decide)).trans ?_
    refine (if_neg (show ¬ (nI 1013 : Int32) = nI 1012 by decide)).trans ?_
    refine (if_pos rfl).trans ?_
    show _ = some (if fM m p = nI p then nI 1 else nI 0)
    by_cases c : fM m p = nI p
    · rw [if_pos c, if_pos c]
    · rw [if_neg c, if_neg c]
  · refine (if_neg (show ¬ (nI 1014 : Int32) = nI 1002 by decide)).trans ?_
    refine (if_neg (show ¬ (nI 1014 : Int32) = nI 1003 by decide)).trans ?_
    refine (if_neg (show ¬ (nI 1014 : Int32) = nI 1004 by decide)).trans ?_
    refine (if_neg (show ¬ (nI 1014 : Int32) = nI 1005 by decide)).trans ?_
    refine (if_neg (show ¬ (nI 1014 : Int32) = nI 1006 by decide)).trans ?_
    refine (if_neg (show ¬ (nI 1014 : Int32) = nI 1007 by decide)).trans ?_
    refine (if_neg (show ¬ (nI 1014 : Int32) = nI 1008 by decide)).trans ?_
    refine (if_neg (show ¬ (nI 1014 : Int32) = nI 1009 by decide)).trans ?_
    refine (if_neg (show ¬ (nI 1014 : Int32) = nI 1010 by decide)).trans ?_
    refine (if_neg (show ¬ (nI 1014 : Int32) = nI 1011 by decide)).trans ?_
    refine (if_neg (show ¬ (nI 1014 : Int32) = nI 1012 by decide)).trans ?_
    refine (if_neg (show ¬ (nI 1014 : Int32) = nI 1013 by decide)).trans ?_
    refine (if_pos rfl).trans ?_
    rfl
  · refine (if_neg (show ¬ (nI 1015 : Int32) = nI 1002 by decide)).trans ?_
    refine (if_neg (show ¬ (nI 1015 : Int32) = nI 1003 by decide)).trans ?_
    refine (if_neg (show ¬ (nI 1015 : Int32) = nI 1004 by decide)).trans ?_
    refine (if_neg (show ¬ (nI 1015 : Int32) = nI 1005 by decide)).trans ?_
    refine (if_neg (show ¬ (nI 1015 : Int32) = nI 1006 by decide)).trans ?_
    refine (if_neg (show ¬ (nI 1015 : Int32) = nI 1007 by decide)).trans ?_
    refine (if_neg (show ¬ (nI 1015 : Int32) = nI 1008 by decide)).trans ?_
    refine (if_neg (show ¬ (nI 1015 : Int32) = nI 1009 by decide)).trans ?_
    refine (if_neg (show ¬ (nI 1015 : Int32) = nI 1010 by decide)).trans ?_
    refine (if_neg (show ¬ (nI 1015 : Int32) = nI 1011 by decide)).trans ?_
    refine (if_neg (show ¬ (nI 1015 : Int32) = nI 1012 by decide)).trans ?_
    refine (if_neg (show ¬ (nI 1015 : Int32) = nI 1013 by decide)).trans ?_
    refine (if_neg (show ¬ (nI 1015 : Int32) = nI 1014 by decide)).trans ?_
    refine (if_pos rfl).trans ?_
    refine (bd_e (fi_s2 _ hx)).trans ?_
    rw [S.c.hr]
    rfl
  · refine (if_neg (show ¬ (nI 1016 : Int32) = nI 1002 by decide)).trans ?_
    refine (if_neg (show ¬ (nI 1016 : Int32) = nI 1003 by decide)).trans ?_
    refine (if_neg (show ¬ (nI 1016 : Int32) = nI 1004 by decide)).trans ?_
    refine (if_neg (show ¬ (nI 1016 : Int32) = nI 1005 by decide)).trans ?_
    refine (if_neg (show ¬ (nI 1016 : Int32) = nI 1006 by decide)).trans ?_
    refine (if_neg (show ¬ (nI 1016 : Int32) = nI 1007 by decide)).trans ?_
    refine (if_neg (show ¬ (nI 1016 : Int32) = nI 1008 by decide)).trans ?_
    refine (if_neg (show ¬ (nI 1016 : Int32) = nI 1009 by decide)).trans ?_
    refine (if_neg (show ¬ (nI 1016 : Int32) = nI 1010 by decide)).trans ?_
    refine (if_neg (show ¬ (nI 1016 : Int32) = nI 1011 by decide)).trans ?_
    refine (if_neg (show ¬ (nI 1016 : Int32) = nI 1012 by decide)).trans ?_
    refine (if_neg (show ¬ (nI 1016 : Int32) = nI 1013 by decide)).trans ?_
    refine (if_neg (show ¬ (nI 1016 : Int32) = nI 1014 by decide)).trans ?_
    refine (if_neg (show ¬ (nI 1016 : Int32) = nI 1015 by decide)).trans ?_
    refine (if_pos rfl).trans ?_
    refine (bd_e (fr_s12 _ hx)).trans ?_
    refine (bd_e (ia_s6 _ hx (by omega))).trans ?_
    rw [e6 p hp]
    show _ = some (if m (12 + 6 * p + 3) = -1 then nI 99 else m (12 + 6 * p + 3))
    by_cases c : m (12 + 6 * p + 3) = -1
    · rw [if_pos c, if_pos c]
    · rw [if_neg c, if_neg c]
      refine (bd_e (fr_s12 _ hx)).trans ?_
      refine (bd_e (ia_s6 _ hx (by omega))).trans ?_
      rw [e6 p hp]
  · refine (if_neg (show ¬ (nI 1017 : Int32) = nI 1002 by decide)).trans ?_
    refine (if_neg (show ¬ (nI 1017 : Int32) = nI 1003 by decide)).trans ?_
    refine (if_neg (show ¬ (nI 1017 : Int32) = nI 1004 by decide)).trans ?_
    refine (if_neg (show ¬ (nI 1017 : Int32) = nI 1005 by decide)).trans ?_
    refine (if_neg (show ¬ (nI 1017 : Int32) = nI 1006 by decide)).trans ?_
    refine (if_neg (show ¬ (nI 1017 : Int32) = nI 1007 by decide)).trans ?_
    refine (if_neg (show ¬ (nI 1017 : Int32) = nI 1008 by decide)).trans ?_
    refine (if_neg (show ¬ (nI 1017 : Int32) = nI 1009 by decide)).trans ?_
    refine (if_neg (show ¬ (nI 1017 : Int32) = nI 1010 by decide)).trans ?_
    refine (if_neg (show ¬ (nI 1017 : Int32) = nI 1011 by decide)).trans ?_
    refine (if_neg (show ¬ (nI 1017 : Int32) = nI 1012 by decide)).trans ?_
    refine (if_neg (show ¬ (nI 1017 : Int32) = nI 1013 by decide)).trans ?_
    refine (if_neg (show ¬ (nI 1017 : Int32) = nI 1014 by decide)).trans ?_
    refine (if_neg (show ¬ (nI 1017 : Int32) = nI 1015 by decide)).trans ?_
    refine (if_neg (show ¬ (nI 1017 : Int32) = nI 1016 by decide)).trans ?_
    refine (if_pos rfl).trans ?_
    show _ = some (if fM m p = -1 then nI 0 else nI (pc (m (12 + 6 * nv (fM m p)))))
    by_cases c : fM m p = -1
    · rw [if_pos c, if_pos c]
    · rw [if_neg c, if_neg c]
      obtain ⟨f, hf, e⟩ := fi.resolve_left c
      rw [e, nv_nI (by omega)]
      refine (bd_e (fr_s9 _ hx)).trans ?_
      refine (bd_e (ia_s3 _ hx (by omega))).trans ?_
      rw [e3 f hf]
      exact bd_e (cl_bitCountX _ (by have := S.i.1 f hf; omega))
  · refine (if_neg (show ¬ (nI 1018 : Int32) = nI 1002 by decide)).trans ?_
    refine (if_neg (show ¬ (nI 1018 : Int32) = nI 1003 by decide)).trans ?_
    refine (if_neg (show ¬ (nI 1018 : Int32) = nI 1004 by decide)).trans ?_
    refine (if_neg (show ¬ (nI 1018 : Int32) = nI 1005 by decide)).trans ?_
    refine (if_neg (show ¬ (nI 1018 : Int32) = nI 1006 by decide)).trans ?_
    refine (if_neg (show ¬ (nI 1018 : Int32) = nI 1007 by decide)).trans ?_
    refine (if_neg (show ¬ (nI 1018 : Int32) = nI 1008 by decide)).trans ?_
    refine (if_neg (show ¬ (nI 1018 : Int32) = nI 1009 by decide)).trans ?_
    refine (if_neg (show ¬ (nI 1018 : Int32) = nI 1010 by decide)).trans ?_
    refine (if_neg (show ¬ (nI 1018 : Int32) = nI 1011 by decide)).trans ?_
    refine (if_neg (show ¬ (nI 1018 : Int32) = nI 1012 by decide)).trans ?_
    refine (if_neg (show ¬ (nI 1018 : Int32) = nI 1013 by decide)).trans ?_
    refine (if_neg (show ¬ (nI 1018 : Int32) = nI 1014 by decide)).trans ?_
    refine (if_neg (show ¬ (nI 1018 : Int32) = nI 1015 by decide)).trans ?_
    refine (if_neg (show ¬ (nI 1018 : Int32) = nI 1016 by decide)).trans ?_
    refine (if_neg (show ¬ (nI 1018 : Int32) = nI 1017 by decide)).trans ?_
    refine (if_pos rfl).trans ?_
    refine (ck_e (io_s _ hx)).trans ?_
    exact bd_e hg
  · refine (if_neg (show ¬ (nI 1019 : Int32) = nI 1002 by decide)).trans ?_
    refine (if_neg (show ¬ (nI 1019 : Int32) = nI 1003 by decide)).trans ?_
    refine (if_neg (show ¬ (nI 1019 : Int32) = nI 1004 by decide)).trans ?_
    refine (if_neg (show ¬ (nI 1019 : Int32) = nI 1005 by decide)).trans ?_
    refine (if_neg (show ¬ (nI 1019 : Int32) = nI 1006 by decide)).trans ?_
    refine (if_neg (show ¬ (nI 1019 : Int32) = nI 1007 by decide)).trans ?_
    refine (if_neg (show ¬ (nI 1019 : Int32) = nI 1008 by decide)).trans ?_
    refine (if_neg (show ¬ (nI 1019 : Int32) = nI 1009 by decide)).trans ?_
    refine (if_neg (show ¬ (nI 1019 : Int32) = nI 1010 by decide)).trans ?_
    refine (if_neg (show ¬ (nI 1019 : Int32) = nI 1011 by decide)).trans ?_
    refine (if_neg (show ¬ (nI 1019 : Int32) = nI 1012 by decide)).trans ?_
    refine (if_neg (show ¬ (nI 1019 : Int32) = nI 1013 by decide)).trans ?_
    refine (if_neg (show ¬ (nI 1019 : Int32) = nI 1014 by decide)).trans ?_
    refine (if_neg (show ¬ (nI 1019 : Int32) = nI 1015 by decide)).trans ?_
    refine (if_neg (show ¬ (nI 1019 : Int32) = nI 1016 by decide)).trans ?_
    refine (if_neg (show ¬ (nI 1019 : Int32) = nI 1017 by decide)).trans ?_
    refine (if_neg (show ¬ (nI 1019 : Int32) = nI 1018 by decide)).trans ?_
    refine (if_pos rfl).trans ?_
    refine (bd_e (fi_s1 _ hx)).trans ?_
    rw [hk]
    refine (ck_e (io_s _ hx)).trans ?_
    exact bd_e hg
/-! ===== the class's machine runs ===== -/
theorem nI_d1 (a : Nat) : nI (a + 1) + (-1) = nI a := by rw [← nI_add, Int32.add_assoc, show nI 1 + (-1) = (0 : Int32) from by decide, Int32.add_zero]
theorem cl_joined {y : Nat} (hy : 1100 ≤ y ∧ y ≤ 1104) (a b : Int32) (h : ab_H) : fX2_joined (nI y) a b h = some (jnd y a b) := by
  unfold fX2_joined jnd
  have hw : y = 1100 ∨ y = 1101 ∨ y = 1102 ∨ y = 1103 ∨ y = 1104 := by omega
  rcases hw with rfl | rfl | rfl | rfl | rfl
  · rfl
  · show (if a < b then some (nI 1) else some (nI 0)) = some (if a < b then nI 1 else nI 0)
    by_cases c : a < b
    · rw [if_pos c, if_pos c]
    · rw [if_neg c, if_neg c]
  · show (if a ≤ b then some (nI 0) else some (nI 1)) = some (if b < a then nI 1 else nI 0)
    by_cases c : a ≤ b
    · rw [if_pos c, if_neg (Int32.not_lt.mpr c)]
    · rw [if_neg c, if_pos (Int32.not_le.mp c)]
  · rfl
  · rfl
theorem SR.stk {g : gG} {x w : Nat} {m : Nat → Int32} {n k : Nat} (S : SR g x m n k) (hx : isLw g w) (T : Nat → Int32) : SR (sA g (w + 1) T) x m n k := by
  have hl := isSt_lt S.c.st
  refine S.keep (fun r hr => ⟨rfl, gA_sA2 _ _ ?_, rfl⟩)
  rcases hx with h | ⟨i, h, _⟩ <;> omega
theorem al_loop {g : gG} {w x : Nat} {m : Nat → Int32} {n k : Nat} (hx : isLw g w) (S : SR g x m n k) {p : Nat} (hp : p < n) {C : List Nat} (hC : gl g (w + 2) = C.length) (hr : rep (gA g (w + 2)) C) (h4 : C.length ≤ 400) (hg : gWs C) {lw : Nat} (hlw : lw = 1007 ∨ lw = 1008) {F : Nat} (hF : 11000 < F) : ∀ (c pre : List Nat) (st : List Int32) (T : Nat → Int32) (Fu : Nat), C = pre ++ c → st.length ≤ 24 → stR T st → c.length < Fu → ∃ T', fX2_allows_6 F w x (nI p) (nI lw) Fu (nI st.length) (nI pre.length) (gH (sA g (w + 1) T)) = some (bI (hit (envM m k p) lw c st), gH (sA g (w + 1) T')) := by
  intro c
  induction c with
  | nil =>
    intro pre st T Fu hc hs hT hFu
    obtain ⟨F', rfl⟩ : ∃ F', Fu = F' + 1 := ⟨Fu - 1, by simp at hFu; omega⟩
    have hx' : isLw (sA g (w + 1) T) w := hx
    refine ⟨T, ?_⟩
    rw [fX2_allows_6]
    refine (bd_e (fr_w1 _ hx')).trans ?_
    refine (bd_e (al_w2 _ hx')).trans ?_
    rw [gl_sA, hC, hc, List.append_nil]
    exact if_neg (fun h => Int32.lt_irrefl h)
  | cons y c ih =>
    intro pre st T Fu hc hs hT hFu
    rw [List.length_cons] at hFu
    obtain ⟨F', rfl⟩ : ∃ F', Fu = F' + 1 := ⟨Fu - 1, by omega⟩
    have hx' : isLw (sA g (w + 1) T) w := hx
    have lC : C.length = pre.length + (c.length + 1) := by rw [hc, List.length_append, List.length_cons]
    have hy : gW y := hg y (by rw [hc]; simp)
    have y12 : y < 1200 := by unfold gW at hy; omega
    have rd : gA (sA g (w + 1) T) (w + 2) pre.length = nI y := by
      rw [gA_sA2 _ _ (by omega), hr _ (by omega), hc, List.getD_eq_getElem?_getD, List.getElem?_append_right (Nat.le_refl _), Nat.sub_self]
      rfl
    have hc2 : C = (pre ++ [y]) ++ c := by rw [hc, List.append_assoc]; rfl
    have lp : (pre ++ [y]).length = pre.length + 1 := by rw [List.length_append, List.length_cons, List.length_nil]
    -- the next one, with another stack
    have nx : ∀ (st2 : List Int32) (T2 : Nat → Int32), st2.length ≤ 24 → stR T2 st2 → ∃ T', fX2_allows_6 F w x (nI p) (nI lw) F' (nI st2.length) (nI pre.length + nI 1) (gH (sA g (w + 1) T2)) = some (bI (hit (envM m k p) lw c st2), gH (sA g (w + 1) T')) := fun st2 T2 h1 h2 => by
      have := ih (pre ++ [y]) st2 T2 F' hc2 h1 h2 (by omega)
      rw [lp, ← nI_add] at this
      exact this
    have head : ∀ R, (ab_jn (κ := Option (Int32 × ab_H)) ((if nI y = nI lw then (if nI st.length ≤ 0 then fX2_allows_6 F w x (nI p) (nI lw) F' (nI 0) (nI pre.length + nI 1) (gH (sA g (w + 1) T)) else ab_bd (ab_fr (gH (sA g (w + 1) T)) w 2 2) fun v8 => ab_bd (ab_ia 0 (gH (sA g (w + 1) T)) v8 (nI 0)) fun v9 => (if v9 = 0 then fX2_allows_6 F w x (nI p) (nI lw) F' (nI 0) (nI pre.length + nI 1) (gH (sA g (w + 1) T)) else some (nI 1, gH (sA g (w + 1) T)))) else fX2_allows_6 F w x (nI p) (nI lw) F' (nI 0) (nI pre.length + nI 1) (gH (sA g (w + 1) T)))) fun j11 => (if nI y = (nI 1007) then j11 else (if nI y = (nI 1008) then j11 else (if nI y = (nI 1012) then (if nI st.length < (nI 1) then fX2_allows_6 F w x (nI p) (nI lw) F' (nI st.length) (nI pre.length + nI 1) (gH (sA g (w + 1) T)) else ab_bd (ab_fr (gH (sA g (w + 1) T)) w 2 2) fun v16 => ab_bd (ab_fr (gH (sA g (w + 1) T)) w 2 2) fun v17 => ab_bd (ab_ia 0 (gH (sA g (w + 1) T)) v17 (nI st.length - (nI 1))) fun v18 => ab_bd (ab_iw 0 (gH (sA g (w + 1) T)) v16 (nI st.length - (nI 1)) ((nI 1) - v18)) fun h19 => fX2_allows_6 F w x (nI p) (nI lw) F' (nI st.length) (nI pre.length + nI 1) h19) else (if nI y < (nI 1100) then (if nI st.length < (nI 24) then ab_bd (ab_fr (gH (sA g (w + 1) T)) w 2 2) fun v22 => (if nI y < (nI 1000) then ab_bd (ab_iw 0 (gH (sA g (w + 1) T)) v22 (nI st.length) (nI y)) fun h24 => fX2_allows_6 F w x (nI p) (nI lw) F' (nI st.length + nI 1) (nI pre.length + nI 1) h24 else ab_ck (ab_io (gH (sA g (w + 1) T)) x 8 = true) (ab_bd (fX8_valueOf F x (nI y) (nI p) (gH (sA g (w + 1) T))) fun v25 => ab_bd (ab_iw 0 (gH (sA g (w + 1) T)) v22 (nI st.length) v25) fun h26 => fX2_allows_6 F w x (nI p) (nI lw) F' (nI st.length + nI 1) (nI pre.length + nI 1) h26)) else fX2_allows_6 F w x (nI p) (nI lw) F' (nI st.length) (nI pre.length + nI 1) (gH (sA g (w + 1) T))) else (if nI st.length < (nI 2) then fX2_allows_6 F w x (nI p) (nI lw) F' (nI st.length) (nI pre.length + nI 1) (gH (sA g (w + 1) T)) else ab_bd (ab_fr (gH (sA g (w + 1) T)) w 2 2) fun v28 => ab_bd (ab_fr (gH (sA g (w + 1) T)) w 2 2) fun v29 => ab_bd (ab_ia 0 (gH (sA g (w + 1) T)) v29 ((nI st.length + (-1 : Int32)) - (nI 1))) fun v30 => ab_bd (ab_fr (gH (sA g (w + 1) T)) w 2 2) fun v31 => ab_bd (ab_ia 0 (gH (sA g (w + 1) T)) v31 (nI st.length + (-1 : Int32))) fun v32 => ab_bd (fX2_joined (nI y) v30 v32 (gH (sA g (w + 1) T))) fun v33 => ab_bd (ab_iw 0 (gH (sA g (w + 1) T)) v28 ((nI st.length + (-1 : Int32)) - (nI 1)) v33) fun h34 => fX2_allows_6 F w x (nI p) (nI lw) F' (nI st.length + (-1 : Int32)) (nI pre.length + nI 1) h34)))))) = R → fX2_allows_6 F w x (nI p) (nI lw) (F' + 1) (nI st.length) (nI pre.length) (gH (sA g (w + 1) T)) = R := fun R h => by
      rw [fX2_allows_6]
      refine (bd_e (fr_w1 _ hx')).trans ?_
      refine (bd_e (al_w2 _ hx')).trans ?_
      rw [gl_sA, hC]
      refine (if_pos (nI_lt (by omega) (by omega))).trans ?_
      refine (bd_e (fr_w1 _ hx')).trans ?_
      refine (bd_e ((ia_w2 _ hx' (by rw [gl_sA, hC]; omega) (by rw [gl_sA, hC]; omega)).trans (by rw [rd]))).trans ?_
      exact h
    have n7 : (nI y = nI 1007) ↔ y = 1007 := nI_eq (by omega) (by decide)
    have n8 : (nI y = nI 1008) ↔ y = 1008 := nI_eq (by omega) (by decide)
    have n12 : (nI y = nI 1012) ↔ y = 1012 := nI_eq (by omega) (by decide)
    have rA : ∀ (U : Nat → Int32) (v : Int32) (i : Nat), i < 24 → ab_iw 0 (gH (sA g (w + 1) U)) (w + 1) (nI i) v = some (gH (sA g (w + 1) (upd U i v))) := fun U v i hi => by
      rw [iw_w1 _ _ (show isLw (sA g (w + 1) U) w from hx) hi, gA_sA1, sA_sA]
    have rI : ∀ (i : Nat), i < 24 → ab_ia 0 (gH (sA g (w + 1) T)) (w + 1) (nI i) = some (T i) := fun i hi => by
      rw [ia_w1 _ hx' hi, gA_sA1]
    have fr2 := fr_w2 _ hx'
    rw [hit]
    by_cases c7 : y = 1007 ∨ y = 1008
    · rw [if_pos c7]
      obtain ⟨T', e0⟩ := nx [] T (by decide) (fun j hj => absurd hj (Nat.not_lt_zero j))
      have nl : (nI y = nI lw) ↔ y = lw := nI_eq (by omega) (by omega)
      have go : ∀ R, ((if nI y = nI lw then (if nI st.length ≤ 0 then fX2_allows_6 F w x (nI p) (nI lw) F' (nI 0) (nI pre.length + nI 1) (gH (sA g (w + 1) T)) else ab_bd (ab_fr (gH (sA g (w + 1) T)) w 2 2) fun v8 => ab_bd (ab_ia 0 (gH (sA g (w + 1) T)) v8 (nI 0)) fun v9 => (if v9 = 0 then fX2_allows_6 F w x (nI p) (nI lw) F' (nI 0) (nI pre.length + nI 1) (gH (sA g (w + 1) T)) else some (nI 1, gH (sA g (w + 1) T)))) else fX2_allows_6 F w x (nI p) (nI lw) F' (nI 0) (nI pre.length + nI 1) (gH (sA g (w + 1) T)))) = R → fX2_allows_6 F w x (nI p) (nI lw) (F' + 1) (nI st.length) (nI pre.length) (gH (sA g (w + 1) T)) = R := fun R h => by
        refine head R ?_
        refine (jn_e _ _).trans ?_
        by_cases c1 : y = 1007
        · exact (if_pos (n7.mpr c1)).trans h
        · refine (if_neg (fun h => c1 (n7.mp h))).trans ?_
          exact (if_pos (n8.mpr (c7.resolve_left c1))).trans h
      by_cases c1 : y = lw
      · by_cases c2 : st = []
        · refine ⟨T', ?_⟩
          rw [if_neg (fun h => h.2.1 c2)]
          refine go _ ((if_pos (nl.mpr c1)).trans ?_)
          refine (if_pos (by rw [c2]; decide)).trans ?_
          exact e0
        · have l0 : 0 < st.length := List.length_pos_iff.mpr c2
          have ng : ¬ nI st.length ≤ 0 := by rw [← nI_0]; exact nI_ge l0 (by omega)
          have T0 := stR_last hT c2
          by_cases c3 : st.getLastD 0 = 0
          · refine ⟨T', ?_⟩
            rw [if_neg (fun h => h.2.2 c3)]
            refine go _ ((if_pos (nl.mpr c1)).trans ?_)
            refine (if_neg ng).trans ?_
            refine (bd_e fr2).trans ?_
            refine (bd_e (rI 0 (by omega))).trans ?_
            exact (if_pos (T0.trans c3)).trans e0
          · refine ⟨T, ?_⟩
            rw [if_pos ⟨c1, c2, c3⟩]
            refine go _ ((if_pos (nl.mpr c1)).trans ?_)
            refine (if_neg ng).trans ?_
            refine (bd_e fr2).trans ?_
            refine (bd_e (rI 0 (by omega))).trans ?_
            exact if_neg (fun h => c3 (T0.symm.trans h))
      · refine ⟨T', ?_⟩
        rw [if_neg (fun h => c1 h.1)]
        exact go _ ((if_neg (fun h => c1 (nl.mp h))).trans e0)
    · rw [if_neg c7]
      have c71 : ¬ y = 1007 := fun h => c7 (Or.inl h)
      have c72 : ¬ y = 1008 := fun h => c7 (Or.inr h)
      unfold stp
      by_cases c12 : y = 1012
      · rw [if_pos c12]
        cases st with
        | nil =>
          obtain ⟨T', e0⟩ := nx [] T (by decide) hT
          refine ⟨T', head _ ?_⟩
          refine (jn_e _ _).trans ?_
          refine (if_neg (fun h => c71 (n7.mp h))).trans ?_
          refine (if_neg (fun h => c72 (n8.mp h))).trans ?_
          refine (if_pos (n12.mpr c12)).trans ?_
          exact (if_pos (by decide)).trans e0
        | cons a s =>
          rw [List.length_cons] at hs
          obtain ⟨q1, q2⟩ := stR_pop hT
          obtain ⟨T', e0⟩ := nx ((nI 1 - a) :: s) (upd T s.length (nI 1 - a)) (by rw [List.length_cons]; omega) (stR_set hT)
          rw [List.length_cons] at e0
          have sb : nI (s.length + 1) - nI 1 = nI s.length := by rw [pk_sub (by omega), Nat.add_sub_cancel]
          refine ⟨T', head _ ?_⟩
          rw [List.length_cons, sb]
          refine (jn_e _ _).trans ?_
          refine (if_neg (fun h => c71 (n7.mp h))).trans ?_
          refine (if_neg (fun h => c72 (n8.mp h))).trans ?_
          refine (if_pos (n12.mpr c12)).trans ?_
          refine (if_neg (fun h => by have := (nI_ltI (by omega) (by decide)).mp h; omega)).trans ?_
          refine (bd_e fr2).trans ?_
          refine (bd_e fr2).trans ?_
          refine (bd_e (rI s.length (by omega))).trans ?_
          rw [q1]
          refine (bd_e (rA T _ s.length (by omega))).trans ?_
          exact e0
      · rw [if_neg c12]
        by_cases c11 : 1100 ≤ y
        · rw [if_pos c11]
          have nl : ¬ nI y < nI 1100 := fun h => by have := (nI_ltI (by omega) (by decide)).mp h; omega
          have front : ∀ R, (if nI st.length < (nI 2) then fX2_allows_6 F w x (nI p) (nI lw) F' (nI st.length) (nI pre.length + nI 1) (gH (sA g (w + 1) T)) else ab_bd (ab_fr (gH (sA g (w + 1) T)) w 2 2) fun v28 => ab_bd (ab_fr (gH (sA g (w + 1) T)) w 2 2) fun v29 => ab_bd (ab_ia 0 (gH (sA g (w + 1) T)) v29 ((nI st.length + (-1 : Int32)) - (nI 1))) fun v30 => ab_bd (ab_fr (gH (sA g (w + 1) T)) w 2 2) fun v31 => ab_bd (ab_ia 0 (gH (sA g (w + 1) T)) v31 (nI st.length + (-1 : Int32))) fun v32 => ab_bd (fX2_joined (nI y) v30 v32 (gH (sA g (w + 1) T))) fun v33 => ab_bd (ab_iw 0 (gH (sA g (w + 1) T)) v28 ((nI st.length + (-1 : Int32)) - (nI 1)) v33) fun h34 => fX2_allows_6 F w x (nI p) (nI lw) F' (nI st.length + (-1 : Int32)) (nI pre.length + nI 1) h34) = R → fX2_allows_6 F w x (nI p) (nI lw) (F' + 1) (nI st.length) (nI pre.length) (gH (sA g (w + 1) T)) = R := fun R h => by
            refine head R ?_
            refine (jn_e _ _).trans ?_
            refine (if_neg (fun h => c71 (n7.mp h))).trans ?_
            refine (if_neg (fun h => c72 (n8.mp h))).trans ?_
            refine (if_neg (fun h => c12 (n12.mp h))).trans ?_
            exact (if_neg nl).trans h
          match st, hs, hT, front, nx with
          | [], hs, hT, front, nx =>
            obtain ⟨T', e0⟩ := nx [] T (by decide) hT
            exact ⟨T', front _ ((if_pos (by decide)).trans e0)⟩
          | [a], hs, hT, front, nx =>
            obtain ⟨T', e0⟩ := nx [a] T (by show 1 ≤ 24; decide) hT
            exact ⟨T', front _ ((if_pos (by show nI 1 < nI 2; decide)).trans e0)⟩
          | b :: a :: s, hs, hT, front, nx =>
            rw [List.length_cons, List.length_cons] at hs
            obtain ⟨q1, q2⟩ := stR_pop hT
            obtain ⟨q3, q4⟩ := stR_pop q2
            rw [List.length_cons] at q1
            obtain ⟨T', e0⟩ := nx (jnd y a b :: s) (upd T s.length (jnd y a b)) (by rw [List.length_cons]; omega) (stR_set q2)
            rw [List.length_cons] at e0
            have sb : nI (s.length + 1) - nI 1 = nI s.length := by rw [pk_sub (by omega), Nat.add_sub_cancel]
            refine ⟨T', front _ ?_⟩
            rw [List.length_cons, List.length_cons, nI_d1, sb]
            refine (if_neg (fun h => by have := (nI_ltI (by omega) (by decide)).mp h; omega)).trans ?_
            refine (bd_e fr2).trans ?_
            refine (bd_e fr2).trans ?_
            refine (bd_e (rI s.length (by omega))).trans ?_
            refine (bd_e fr2).trans ?_
            refine (bd_e (rI (s.length + 1) (by omega))).trans ?_
            rw [q1, q3]
            refine (bd_e (cl_joined (by unfold gW at hy; omega) a b _)).trans ?_
            refine (bd_e (rA T _ s.length (by omega))).trans ?_
            exact e0
        · rw [if_neg c11]
          have yl : nI y < nI 1100 := nI_lt (by omega) (by decide)
          by_cases c24 : st.length < 24
          · rw [if_pos c24]
            obtain ⟨T', e0⟩ := nx ((if y < 1000 then nI y else envM m k p y) :: st) (upd T st.length (if y < 1000 then nI y else envM m k p y)) (by rw [List.length_cons]; omega) (stR_push hT _)
            rw [List.length_cons, ← nI_add] at e0
            refine ⟨T', head _ ?_⟩
            refine (jn_e _ _).trans ?_
            refine (if_neg (fun h => c71 (n7.mp h))).trans ?_
            refine (if_neg (fun h => c72 (n8.mp h))).trans ?_
            refine (if_neg (fun h => c12 (n12.mp h))).trans ?_
            refine (if_pos yl).trans ?_
            refine (if_pos (nI_lt c24 (by decide))).trans ?_
            refine (bd_e fr2).trans ?_
            by_cases c10 : y < 1000
            · rw [if_pos c10] at e0 ⊢
              refine (if_pos (nI_lt c10 (by decide))).trans ?_
              refine (bd_e (rA T _ st.length c24)).trans ?_
              exact e0
            · rw [if_neg c10] at e0 ⊢
              refine (if_neg (fun h => c10 ((nI_ltI (by omega) (by decide)).mp h))).trans ?_
              refine (ck_e (io_s _ S.c.st)).trans ?_
              refine (bd_e (cl_value (S.stk hx T) hp (by unfold gW at hy; omega) hF)).trans ?_
              refine (bd_e (rA T _ st.length c24)).trans ?_
              exact e0
          · rw [if_neg c24]
            obtain ⟨T', e0⟩ := nx st T hs hT
            refine ⟨T', head _ ?_⟩
            refine (jn_e _ _).trans ?_
            refine (if_neg (fun h => c71 (n7.mp h))).trans ?_
            refine (if_neg (fun h => c72 (n8.mp h))).trans ?_
            refine (if_neg (fun h => c12 (n12.mp h))).trans ?_
            refine (if_pos yl).trans ?_
            refine (if_neg (fun h => c24 ((nI_ltI (by omega) (by decide)).mp h))).trans ?_
            exact e0
theorem cl_allows {g : gG} {w x : Nat} {m : Nat → Int32} {n k : Nat} (hx : isLw g w) (S : SR g x m n k) {p : Nat} (hp : p < n) {C : List Nat} (hC : gl g (w + 2) = C.length) (hr : rep (gA g (w + 2)) C) (h4 : C.length ≤ 400) (hg : gWs C) {lw : Nat} (hlw : lw = 1007 ∨ lw = 1008) {F : Nat} (hF : 11000 < F) : ∃ T', fX2_allows F w x (nI p) (nI lw) (gH g) = some (bI (hit (envM m k p) lw C []), gH (sA g (w + 1) T')) := by
  obtain ⟨T', e⟩ := al_loop hx S hp hC hr h4 hg hlw hF C [] [] (gA g (w + 1)) F rfl (by decide) (fun j hj => absurd hj (Nat.not_lt_zero j)) (by omega)
  rw [sA_id] at e
  exact ⟨T', e⟩
