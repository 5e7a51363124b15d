/-! ===== THE LOG: writes of the reference, addRow and cell of the class ===== -/
theorem sA_sA (g : gG) (a : Nat) (f f' : Nat → Int32) : sA (sA g a f) a f' = sA g a f' := by
  unfold sA
  refine Prod.ext rfl (Prod.ext rfl (Prod.ext ?_ rfl))
  funext b
  show (if b = a then f' else if b = a then f else g.2.2.1 b) = _
  by_cases h : b = a <;> simp [h]
theorem sA_id (g : gG) (a : Nat) : sA g a (gA g a) = g := by
  unfold sA
  refine Prod.ext rfl (Prod.ext rfl (Prod.ext ?_ rfl))
  funext b
  show (if b = a then gA g a else g.2.2.1 b) = _
  by_cases h : b = a
  · subst h; rw [if_pos rfl]; rfl
  · rw [if_neg h]
def les (a b : Int32) : Int32 := if a < b then a else b
def wrM (m : Nat → Int32) (p h f w : Int32) : Nat → Int32 := fun q => if q = 8 then les (nI 60) (m 8 + nI 1) else if q = 284 then m 5 else if q = 285 then p else if q = 286 then h else if q = 287 then f else if q = 288 then w else if 289 ≤ q ∧ q < 584 then m (q - 5) else m q
def wr1 (m : Nat → Int32) (i : Nat) : Nat → Int32 := fun q => if 583 - i < q ∧ q < 584 then m (q - 5) else m q
theorem rf_lesser (a b : Int32) (h : ab_H) : fX12_lesser a b h = some (les a b) := by
  unfold fX12_lesser les; split <;> rfl
theorem rf_writes (g : gG) (p h f w : Int32) {F : Nat} (hF : 11000 < F) : fX12_writes F 206 p h f w (gH g) = some (gH (sA g 207 (wrM (gA g 207) p h f w))) := by
  unfold fX12_writes
  have h0 := lp0 (L := fun F' i (g : gG) => fX12_writes_5 206 p h f w (fun (h6 : ab_H) => ab_bd (ab_fr h6 206 12 1) fun v7 => ab_bd (ab_fr h6 206 12 1) fun v8 => ab_bd (ab_ia 0 h6 v8 (nI 5)) fun v9 => ab_bd (ab_iw 0 h6 v7 (nI 284) v9) fun h10 => ab_bd (ab_fr h10 206 12 1) fun v11 => ab_bd (ab_iw 0 h10 v11 (nI 285) p) fun h12 => ab_bd (ab_fr h12 206 12 1) fun v13 => ab_bd (ab_iw 0 h12 v13 (nI 286) h) fun h14 => ab_bd (ab_fr h14 206 12 1) fun v15 => ab_bd (ab_iw 0 h14 v15 (nI 287) f) fun h16 => ab_bd (ab_fr h16 206 12 1) fun v17 => ab_bd (ab_iw 0 h16 v17 (nI 288) w) fun h18 => ab_bd (ab_fr h18 206 12 1) fun v19 => ab_bd (ab_fr h18 206 12 1) fun v20 => ab_bd (ab_ia 0 h18 v20 (nI 8)) fun v21 => ab_bd (fX12_lesser (nI 60) (v21 + (nI 1)) h18) fun v22 => ab_bd (ab_iw 0 h18 v19 (nI 8) v22) fun h23 => some h23) F' (nI 299 - i) (gH g)) (n := 295) (fun i => sA g 207 (wr1 (gA g 207) i)) (some (gH (sA g 207 (wrM (gA g 207) p h f w)))) ?_ ?_ F (by omega)
  · have e1 : nI 299 - nI 0 = nI 299 := by decide
    have e2 : sA g 207 (wr1 (gA g 207) 0) = g := by
      have : wr1 (gA g 207) 0 = gA g 207 := by funext q; unfold wr1; rw [if_neg (by omega)]
      rw [this, sA_id]
    rw [e1, e2] at h0
    exact h0
  · intro F i hi
    have e1 : nI 299 - nI i = nI (299 - i) := pk_sub (by omega)
    have e2 : nI 299 - nI (i + 1) = nI (299 - (i + 1)) := pk_sub (by omega)
    have e3 : nI (299 - i) + (-1) = nI (299 - (i + 1)) := by rw [sb_m1 (by omega)]; congr 1
    have e4 : nI (284 + (299 - i)) - nI 5 = nI (578 - i) := by rw [pk_sub (by omega)]; congr 1; omega
    have e5 : ¬ (299 - i < 5) := by omega
    have e6 : upd (wr1 (gA g 207) i) (284 + (299 - i)) (wr1 (gA g 207) i (578 - i)) = wr1 (gA g 207) (i + 1) := by
      funext q
      unfold wr1
      rw [upd_e]
      by_cases c : q = 284 + (299 - i)
      · rw [if_pos c, if_neg (by omega), if_pos (by omega)]; congr 1; omega
      · rw [if_neg c]
        by_cases c2 : 583 - i < q ∧ q < 584
        · rw [if_pos c2, if_pos (by omega)]
        · rw [if_neg c2, if_neg (by omega)]
    simp (disch := omega) only [fX12_writes_5, fr_206_1, ia_207, iw_207, ab_bd_some, ck_t, ck_T, cb_0, cb_1, ab_jn, if_true, if_false, e1, e2, e3, e4, e5, e6, gA_sA1, sA_sA, nI_add, pk_mul, nI_ltI, nI_leI, nI_eq]
  · intro F
    have e1 : nI 299 - nI 295 = nI 4 := by decide
    simp (disch := omega) only [fX12_writes_5, fr_206_1, ia_207, iw_207, ab_bd_some, ck_t, ck_T, cb_0, cb_1, ab_jn, if_true, if_false, e1, fr_206_1, ia_207, iw_207, rf_lesser, gA_sA1, sA_sA, nI_add, pk_mul, nI_ltI, nI_leI, nI_eq, show (4 < 5) by omega]
    congr 3
    funext q
    simp only [upd_e, wrM, wr1]
    by_cases c8 : q = 8
    · subst c8; simp
    by_cases c0 : q = 284
    · subst c0; simp
    by_cases c1 : q = 285
    · subst c1; simp
    by_cases c2 : q = 286
    · subst c2; simp
    by_cases c3 : q = 287
    · subst c3; simp
    by_cases c4 : q = 288
    · subst c4; simp
    simp only [c8, c0, c1, c2, c3, c4, if_false]
    by_cases c5 : 289 ≤ q ∧ q < 584
    · rw [if_pos c5, if_pos (by omega)]
    · rw [if_neg c5, if_neg (by omega)]
