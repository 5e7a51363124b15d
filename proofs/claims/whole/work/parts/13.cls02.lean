/-! ===== class (by program, decomp.py) ===== -/
def mX10_acceptL : ab_M := (yX10_accept, cX10_accept, 2, none, { frames := 1, cells := 0, slots := 0, locals := 20 })
theorem iX10_acceptL : ab_MI mX10_acceptL 1 := ⟨kw_a37be495fd, kw_564260d124, by decide +kernel⟩
theorem lk_X10_40_3 : ab_LU RX10 40 3 mX10_isRightL 0 := ⟨"HungFaces$LawReader", "HungFaces$TextReader", ⟨"HungFaces$TextReader", "isRight", "()Z"⟩, rfl, iX10_isRightL, kw_8e080cb74d, kw_30a31ea8db, kw_bfebedbedb, kw_27a447b283, by decide +kernel, by decide +kernel, by decide +kernel, by decide +kernel⟩
def fX10_acceptL (x0 : Nat) (x1 : Int32) (h : ab_H) : Option ab_H := ab_ck (ab_io h x0 3 = true) (ab_bd (fX10_isRightL x0 h) fun v1 => (if v1 = 0 then some h else (if x1 = 0 then ab_bd (ab_fr h x0 3 0) fun v4 => ab_ck (ab_io h v4 0 = true) (ab_bd (fX0_beginHere v4 h) fun v5 => ab_bd (ab_fw h x0 3 2 (.int v5)) fun h6 => some h6) else ab_bd (ab_fr h x0 3 0) fun v7 => ab_ck (ab_io h v7 0 = true) (ab_bd (fX0_goOn v7 h) fun h8 => some h8))))
set_option maxRecDepth 100000 in
set_option maxHeartbeats 4000000 in
theorem wX10_acceptL {l : Launch} (hl : l.stackTraces = false) (x0 : Nat) (x1 : Int32) (h : ab_H) : ab_S l mX10_acceptL (fun y : ab_H => ((.inl none, y) : ab_R × ab_H)) 0 0 (fX10_acceptL x0 x1 h) 0 [(0, .ref x0), (1, .int x1)] [] h := by
  unfold fX10_acceptL
  refine ab_aload_n (pc := 0) (n := 0) (i := 0) (j := 0) (by decide +kernel) rfl rfl ?_
  refine ab_callUi (As := []) (st := []) (pc := 1) lk_X10_40_3 rfl rfl rfl (by decide) rfl (Nat.le_of_ble_eq_true rfl) (by decide +kernel) (fun y9 e9 => okX10_isRightL hl e9) (fun v1 ev1 => ?_)
  refine ab_if_ne (off := 4) (pc := 4) (tgt := 8) (by decide +kernel) (by decide) (fun g2 => ?_) (fun g2 => ?_)
  · exact ab_vret (pc := 7) (by decide +kernel) rfl rfl (Nat.le_of_ble_eq_true rfl) (Nat.le_of_ble_eq_true rfl)
  · refine ab_iload_n (pc := 8) (n := 1) (i := 1) (j := 1) (by decide +kernel) rfl rfl ?_
    refine ab_if_eq (off := 13) (pc := 9) (tgt := 22) (by decide +kernel) (by decide) (fun g3 => ?_) (fun g3 => ?_)
    · refine ab_aload_n (pc := 22) (n := 0) (i := 0) (j := 0) (by decide +kernel) rfl rfl ?_
      refine ab_aload_n (pc := 23) (n := 0) (i := 0) (j := 0) (by decide +kernel) rfl rfl ?_
      refine ab_getR (pc := 24) fl_X10_9_3 (by decide +kernel) (fun v4 ev4 => ?_)
      refine ab_callVi (As := []) (st := [.ref x0]) (pc := 27) lk_X10_55_0 rfl rfl rfl (by decide) rfl (Nat.le_of_ble_eq_true rfl) (by decide +kernel) (fun y9 e9 => okX0_beginHere hl e9) (fun v5 ev5 => ?_)
      refine ab_put (pc := 30) fl_X10_19_3 rfl (fun _ => rfl) (fun _ => rfl) (by decide +kernel) (fun h6 eh6 => ?_)
      exact ab_vret (pc := 33) (by decide +kernel) rfl rfl (Nat.le_of_ble_eq_true rfl) (Nat.le_of_ble_eq_true rfl)
    · refine ab_aload_n (pc := 12) (n := 0) (i := 0) (j := 0) (by decide +kernel) rfl rfl ?_
      refine ab_getR (pc := 13) fl_X10_9_3 (by decide +kernel) (fun v7 ev7 => ?_)
      refine ab_callVw (As := []) (st := []) (pc := 16) lk_X10_44_0 rfl rfl rfl (by decide) rfl (Nat.le_of_ble_eq_true rfl) (by decide +kernel) (fun y9 e9 => okX0_goOn hl e9) (fun h8 eh8 => ?_)
      refine ab_goto (pc := 19) (off := 14) (tgt := 33) (by decide +kernel) (by decide) ?_
      exact ab_vret (pc := 33) (by decide +kernel) rfl rfl (Nat.le_of_ble_eq_true rfl) (Nat.le_of_ble_eq_true rfl)
set_option maxRecDepth 100000 in
set_option maxHeartbeats 4000000 in
theorem okX10_acceptL {l : Launch} (hl : l.stackTraces = false) {x0 : Nat} {x1 : Int32} {h : ab_H} {y : ab_H} (e : fX10_acceptL x0 x1 h = some y) : ab_Met l mX10_acceptL [.ref x0, .int x1] h (.inl none, y) := ab_ofS (io := (fun y : ab_H => ((.inl none, y) : ab_R × ab_H))) (x := y) hl (by decide) rfl (Nat.le_of_ble_eq_true rfl) (wX10_acceptL hl x0 x1 h) e
