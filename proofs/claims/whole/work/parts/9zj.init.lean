variable {Nq : Nat}
/-! ===== constructors (by program, decomp.py) ===== -/
def mX6_init : ab_M := (yX6_init, cX6_init, 3, none, { frames := 3, cells := 145, slots := 4248, locals := 61 })
theorem iX6_init : ab_MI mX6_init 1 := ⟨kw_c0a783dfe9, kw_252be10908, by decide +kernel⟩
theorem nw_X6_9 : ab_NW RX6 9 8 18 [.int 0, .int 0, .int 0, .int 0, .int 0, .int 0, .int 0, .null, .null, .null, .null, .null, .null, .null, .null, .null, .null, .null] := ⟨(RX8, TX8, 18), tyX8, rfl, rfl, uwX8, tyX8_ok, kw_0983522d55, kw_2c41f44828, kw_a869362287, by decide +kernel⟩
def fX6_init (F : Nat) (x0 : Nat) (x1 : Nat) (h : ab_H) : Option ab_H := ab_bd (ab_nq 12 h (nI 12)) fun h1 => ab_bd (ab_fw h1 x0 6 0 (.ref h.1)) fun h2 => (if (nI 0) < (nI 12) then ab_bd (ab_fr h2 x0 6 0) fun v4 => ab_bd (ab_nw h2 8 [.int 0, .int 0, .int 0, .int 0, .int 0, .int 0, .int 0, .null, .null, .null, .null, .null, .null, .null, .null, .null, .null, .null]) fun h5 => ab_bd (fX8_init F h2.1 x1 h5) fun h6 => ab_ck (ab_io h6 h2.1 8 = true) (ab_bd (ab_rw h6 v4 (nI 0) h2.1) fun h7 => (if ((nI 0) + nI 1) < (nI 12) then ab_bd (ab_fr h7 x0 6 0) fun v9 => ab_bd (ab_nw h7 8 [.int 0, .int 0, .int 0, .int 0, .int 0, .int 0, .int 0, .null, .null, .null, .null, .null, .null, .null, .null, .null, .null, .null]) fun h10 => ab_bd (fX8_init F h7.1 x1 h10) fun h11 => ab_ck (ab_io h11 h7.1 8 = true) (ab_bd (ab_rw h11 v9 ((nI 0) + nI 1) h7.1) fun h12 => (if (((nI 0) + nI 1) + nI 1) < (nI 12) then ab_bd (ab_fr h12 x0 6 0) fun v14 => ab_bd (ab_nw h12 8 [.int 0, .int 0, .int 0, .int 0, .int 0, .int 0, .int 0, .null, .null, .null, .null, .null, .null, .null, .null, .null, .null, .null]) fun h15 => ab_bd (fX8_init F h12.1 x1 h15) fun h16 => ab_ck (ab_io h16 h12.1 8 = true) (ab_bd (ab_rw h16 v14 (((nI 0) + nI 1) + nI 1) h12.1) fun h17 => (if ((((nI 0) + nI 1) + nI 1) + nI 1) < (nI 12) then ab_bd (ab_fr h17 x0 6 0) fun v19 => ab_bd (ab_nw h17 8 [.int 0, .int 0, .int 0, .int 0, .int 0, .int 0, .int 0, .null, .null, .null, .null, .null, .null, .null, .null, .null, .null, .null]) fun h20 => ab_bd (fX8_init F h17.1 x1 h20) fun h21 => ab_ck (ab_io h21 h17.1 8 = true) (ab_bd (ab_rw h21 v19 ((((nI 0) + nI 1) + nI 1) + nI 1) h17.1) fun h22 => (if (((((nI 0) + nI 1) + nI 1) + nI 1) + nI 1) < (nI 12) then ab_bd (ab_fr h22 x0 6 0) fun v24 => ab_bd (ab_nw h22 8 [.int 0, .int 0, .int 0, .int 0, .int 0, .int 0, .int 0, .null, .null, .null, .null, .null, .null, .null, .null, .null, .null, .null]) fun h25 => ab_bd (fX8_init F h22.1 x1 h25) fun h26 => ab_ck (ab_io h26 h22.1 8 = true) (ab_bd (ab_rw h26 v24 (((((nI 0) + nI 1) + nI 1) + nI 1) + nI 1) h22.1) fun h27 => (if ((((((nI 0) + nI 1) + nI 1) + nI 1) + nI 1) + nI 1) < (nI 12) then ab_bd (ab_fr h27 x0 6 0) fun v29 => ab_bd (ab_nw h27 8 [.int 0, .int 0, .int 0, .int 0, .int 0, .int 0, .int 0, .null, .null, .null, .null, .null, .null, .null, .null, .null, .null, .null]) fun h30 => ab_bd (fX8_init F h27.1 x1 h30) fun h31 => ab_ck (ab_io h31 h27.1 8 = true) (ab_bd (ab_rw h31 v29 ((((((nI 0) + nI 1) + nI 1) + nI 1) + nI 1) + nI 1) h27.1) fun h32 => (if (((((((nI 0) + nI 1) + nI 1) + nI 1) + nI 1) + nI 1) + nI 1) < (nI 12) then ab_bd (ab_fr h32 x0 6 0) fun v34 => ab_bd (ab_nw h32 8 [.int 0, .int 0, .int 0, .int 0, .int 0, .int 0, .int 0, .null, .null, .null, .null, .null, .null, .null, .null, .null, .null, .null]) fun h35 => ab_bd (fX8_init F h32.1 x1 h35) fun h36 => ab_ck (ab_io h36 h32.1 8 = true) (ab_bd (ab_rw h36 v34 (((((((nI 0) + nI 1) + nI 1) + nI 1) + nI 1) + nI 1) + nI 1) h32.1) fun h37 => (if ((((((((nI 0) + nI 1) + nI 1) + nI 1) + nI 1) + nI 1) + nI 1) + nI 1) < (nI 12) then ab_bd (ab_fr h37 x0 6 0) fun v39 => ab_bd (ab_nw h37 8 [.int 0, .int 0, .int 0, .int 0, .int 0, .int 0, .int 0, .null, .null, .null, .null, .null, .null, .null, .null, .null, .null, .null]) fun h40 => ab_bd (fX8_init F h37.1 x1 h40) fun h41 => ab_ck (ab_io h41 h37.1 8 = true) (ab_bd (ab_rw h41 v39 ((((((((nI 0) + nI 1) + nI 1) + nI 1) + nI 1) + nI 1) + nI 1) + nI 1) h37.1) fun h42 => (if (((((((((nI 0) + nI 1) + nI 1) + nI 1) + nI 1) + nI 1) + nI 1) + nI 1) + nI 1) < (nI 12) then ab_bd (ab_fr h42 x0 6 0) fun v44 => ab_bd (ab_nw h42 8 [.int 0, .int 0, .int 0, .int 0, .int 0, .int 0, .int 0, .null, .null, .null, .null, .null, .null, .null, .null, .null, .null, .null]) fun h45 => ab_bd (fX8_init F h42.1 x1 h45) fun h46 => ab_ck (ab_io h46 h42.1 8 = true) (ab_bd (ab_rw h46 v44 (((((((((nI 0) + nI 1) + nI 1) + nI 1) + nI 1) + nI 1) + nI 1) + nI 1) + nI 1) h42.1) fun h47 => (if ((((((((((nI 0) + nI 1) + nI 1) + nI 1) + nI 1) + nI 1) + nI 1) + nI 1) + nI 1) + nI 1) < (nI 12) then ab_bd (ab_fr h47 x0 6 0) fun v49 => ab_bd (ab_nw h47 8 [.int 0, .int 0, .int 0, .int 0, .int 0, .int 0, .int 0, .null, .null, .null, .null, .null, .null, .null, .null, .null, .null, .null]) fun h50 => ab_bd (fX8_init F h47.1 x1 h50) fun h51 => ab_ck (ab_io h51 h47.1 8 = true) (ab_bd (ab_rw h51 v49 ((((((((((nI 0) + nI 1) + nI 1) + nI 1) + nI 1) + nI 1) + nI 1) + nI 1) + nI 1) + nI 1) h47.1) fun h52 => (if (((((((((((nI 0) + nI 1) + nI 1) + nI 1) + nI 1) + nI 1) + nI 1) + nI 1) + nI 1) + nI 1) + nI 1) < (nI 12) then ab_bd (ab_fr h52 x0 6 0) fun v54 => ab_bd (ab_nw h52 8 [.int 0, .int 0, .int 0, .int 0, .int 0, .int 0, .int 0, .null, .null, .null, .null, .null, .null, .null, .null, .null, .null, .null]) fun h55 => ab_bd (fX8_init F h52.1 x1 h55) fun h56 => ab_ck (ab_io h56 h52.1 8 = true) (ab_bd (ab_rw h56 v54 (((((((((((nI 0) + nI 1) + nI 1) + nI 1) + nI 1) + nI 1) + nI 1) + nI 1) + nI 1) + nI 1) + nI 1) h52.1) fun h57 => (if ((((((((((((nI 0) + nI 1) + nI 1) + nI 1) + nI 1) + nI 1) + nI 1) + nI 1) + nI 1) + nI 1) + nI 1) + nI 1) < (nI 12) then ab_bd (ab_fr h57 x0 6 0) fun v59 => ab_bd (ab_nw h57 8 [.int 0, .int 0, .int 0, .int 0, .int 0, .int 0, .int 0, .null, .null, .null, .null, .null, .null, .null, .null, .null, .null, .null]) fun h60 => ab_bd (fX8_init F h57.1 x1 h60) fun h61 => ab_ck (ab_io h61 h57.1 8 = true) (ab_bd (ab_rw h61 v59 ((((((((((((nI 0) + nI 1) + nI 1) + nI 1) + nI 1) + nI 1) + nI 1) + nI 1) + nI 1) + nI 1) + nI 1) + nI 1) h57.1) fun h62 => (if (((((((((((((nI 0) + nI 1) + nI 1) + nI 1) + nI 1) + nI 1) + nI 1) + nI 1) + nI 1) + nI 1) + nI 1) + nI 1) + nI 1) < (nI 12) then none else some h62)) else none)) else none)) else none)) else none)) else none)) else none)) else none)) else none)) else none)) else none)) else none)) else none)
set_option maxRecDepth 100000 in
set_option maxHeartbeats 4000000 in
theorem wX6_init {l : Launch} (hl : l.stackTraces = false) (F : Nat) (x0 : Nat) (x1 : Nat) (h : ab_H) : ab_S l mX6_init (fun y : ab_H => ((.inl none, y) : ab_R × ab_H)) 0 0 (fX6_init F x0 x1 h) 0 [(0, .ref x0), (1, .ref x1)] [] h := by
  unfold fX6_init
  refine ab_aload_n (pc := 0) (n := 0) (i := 0) (j := 0) (by decide +kernel) rfl rfl ?_
  refine ab_objInit (pc := 1) (index := 3) kw_d76795631b kw_3e5ce616d8 kw_90b5ae3dba (Nat.le_of_ble_eq_true rfl) (Nat.le_of_ble_eq_true rfl) (by decide +kernel) ?_
  refine ab_aload_n (pc := 4) (n := 0) (i := 0) (j := 0) (by decide +kernel) rfl rfl ?_
  refine ab_bipush (pc := 5) (n := 12) (v := nI 12) (by decide +kernel) (by decide) ?_
  refine ab_naQ (pc := 7) (B := 12) kw_0983522d55 (by decide) (Nat.le_of_ble_eq_true rfl) (Nat.le_of_ble_eq_true rfl) (by decide +kernel) (fun h1 eh1 => ?_)
  refine ab_putF (pc := 10) fl_X6_11_6 rfl rfl (fun _ => rfl) (fun _ => rfl) (by decide +kernel) (fun h2 eh2 => ?_)
  refine ab_iconst (pc := 13) (n := 0) (v := nI 0) (by decide +kernel) rfl ?_
  refine ab_istore_n (pc := 14) (n := 2) (i := 2) (lv' := [(0, .ref x0), (1, .ref x1), (2, .int (nI 0))]) (by decide +kernel) rfl (Nat.le_of_ble_eq_true rfl) rfl rfl ?_
  refine ab_iload_n (pc := 15) (n := 2) (i := 2) (j := 2) (by decide +kernel) rfl rfl ?_
  refine ab_bipush (pc := 16) (n := 12) (v := nI 12) (by decide +kernel) (by decide) ?_
  refine ab_icmp_ge (off := 23) (pc := 18) (tgt := 41) (by decide +kernel) (by decide) (fun g3 => ?_) (fun g3 => ?_)
  · refine ab_aload_n (pc := 21) (n := 0) (i := 0) (j := 0) (by decide +kernel) rfl rfl ?_
    refine ab_getR (pc := 22) fl_X6_11_6 (by decide +kernel) (fun v4 ev4 => ?_)
    refine ab_iload_n (pc := 25) (n := 2) (i := 2) (j := 2) (by decide +kernel) rfl rfl ?_
    refine ab_newB (pc := 26) nw_X6_9 rfl (Nat.le_of_ble_eq_true rfl) (Nat.le_of_ble_eq_true rfl) (by decide +kernel) (fun h5 eh5 => ?_)
    refine ab_dup (pc := 29) (by decide +kernel) rfl ?_
    refine ab_aload_n (pc := 30) (n := 1) (i := 1) (j := 1) (by decide +kernel) rfl rfl ?_
    refine ab_callI (M' := mX8_init) (As := [.ref x1]) (st := [.ref h2.1, .int (nI 0), .ref v4]) (pc := 31) (index := 17) iX8_init (Or.inl kw_ee2f48e8ee) kw_9235d33151 rfl rfl rfl (by decide) rfl (Nat.le_of_ble_eq_true rfl) (by decide +kernel) (fun y9 e9 => okX8_init hl (F := F) e9) (fun h6 eh6 => ?_)
    refine ab_aast (pc := 34) (ci := 8) rfl (by decide +kernel) (fun h7 eh7 => ?_)
    refine ab_iinc (pc := 35) (i := 2) (n := 1) (j := 2) (d := nI 1) (lv' := [(0, .ref x0), (1, .ref x1), (2, .int ((nI 0) + nI 1))]) (by decide +kernel) rfl rfl (Nat.le_of_ble_eq_true rfl) rfl rfl ?_
    refine ab_goto (pc := 38) (off := (-23)) (tgt := 15) (by decide +kernel) (by decide) ?_
    refine ab_iload_n (pc := 15) (n := 2) (i := 2) (j := 2) (by decide +kernel) rfl rfl ?_
    refine ab_bipush (pc := 16) (n := 12) (v := nI 12) (by decide +kernel) (by decide) ?_
    refine ab_icmp_ge (off := 23) (pc := 18) (tgt := 41) (by decide +kernel) (by decide) (fun g8 => ?_) (fun g8 => ?_)
    · refine ab_aload_n (pc := 21) (n := 0) (i := 0) (j := 0) (by decide +kernel) rfl rfl ?_
      refine ab_getR (pc := 22) fl_X6_11_6 (by decide +kernel) (fun v9 ev9 => ?_)
      refine ab_iload_n (pc := 25) (n := 2) (i := 2) (j := 2) (by decide +kernel) rfl rfl ?_
      refine ab_newB (pc := 26) nw_X6_9 rfl (Nat.le_of_ble_eq_true rfl) (Nat.le_of_ble_eq_true rfl) (by decide +kernel) (fun h10 eh10 => ?_)
      refine ab_dup (pc := 29) (by decide +kernel) rfl ?_
      refine ab_aload_n (pc := 30) (n := 1) (i := 1) (j := 1) (by decide +kernel) rfl rfl ?_
      refine ab_callI (M' := mX8_init) (As := [.ref x1]) (st := [.ref h7.1, .int ((nI 0) + nI 1), .ref v9]) (pc := 31) (index := 17) iX8_init (Or.inl kw_ee2f48e8ee) kw_9235d33151 rfl rfl rfl (by decide) rfl (Nat.le_of_ble_eq_true rfl) (by decide +kernel) (fun y9 e9 => okX8_init hl (F := F) e9) (fun h11 eh11 => ?_)
      refine ab_aast (pc := 34) (ci := 8) rfl (by decide +kernel) (fun h12 eh12 => ?_)
      refine ab_iinc (pc := 35) (i := 2) (n := 1) (j := 2) (d := nI 1) (lv' := [(0, .ref x0), (1, .ref x1), (2, .int (((nI 0) + nI 1) + nI 1))]) (by decide +kernel) rfl rfl (Nat.le_of_ble_eq_true rfl) rfl rfl ?_
      refine ab_goto (pc := 38) (off := (-23)) (tgt := 15) (by decide +kernel) (by decide) ?_
      refine ab_iload_n (pc := 15) (n := 2) (i := 2) (j := 2) (by decide +kernel) rfl rfl ?_
      refine ab_bipush (pc := 16) (n := 12) (v := nI 12) (by decide +kernel) (by decide) ?_
      refine ab_icmp_ge (off := 23) (pc := 18) (tgt := 41) (by decide +kernel) (by decide) (fun g13 => ?_) (fun g13 => ?_)
      · refine ab_aload_n (pc := 21) (n := 0) (i := 0) (j := 0) (by decide +kernel) rfl rfl ?_
        refine ab_getR (pc := 22) fl_X6_11_6 (by decide +kernel) (fun v14 ev14 => ?_)
        refine ab_iload_n (pc := 25) (n := 2) (i := 2) (j := 2) (by decide +kernel) rfl rfl ?_
        refine ab_newB (pc := 26) nw_X6_9 rfl (Nat.le_of_ble_eq_true rfl) (Nat.le_of_ble_eq_true rfl) (by decide +kernel) (fun h15 eh15 => ?_)
        refine ab_dup (pc := 29) (by decide +kernel) rfl ?_
        refine ab_aload_n (pc := 30) (n := 1) (i := 1) (j := 1) (by decide +kernel) rfl rfl ?_
        refine ab_callI (M' := mX8_init) (As := [.ref x1]) (st := [.ref h12.1, .int (((nI 0) + nI 1) + nI 1), .ref v14]) (pc := 31) (index := 17) iX8_init (Or.inl kw_ee2f48e8ee) kw_9235d33151 rfl rfl rfl (by decide) rfl (Nat.le_of_ble_eq_true rfl) (by decide +kernel) (fun y9 e9 => okX8_init hl (F := F) e9) (fun h16 eh16 => ?_)
        refine ab_aast (pc := 34) (ci := 8) rfl (by decide +kernel) (fun h17 eh17 => ?_)
        refine ab_iinc (pc := 35) (i := 2) (n := 1) (j := 2) (d := nI 1) (lv' := [(0, .ref x0), (1, .ref x1), (2, .int ((((nI 0) + nI 1) + nI 1) + nI 1))]) (by decide +kernel) rfl rfl (Nat.le_of_ble_eq_true rfl) rfl rfl ?_
        refine ab_goto (pc := 38) (off := (-23)) (tgt := 15) (by decide +kernel) (by decide) ?_
        refine ab_iload_n (pc := 15) (n := 2) (i := 2) (j := 2) (by decide +kernel) rfl rfl ?_
        refine ab_bipush (pc := 16) (n := 12) (v := nI 12) (by decide +kernel) (by decide) ?_
        refine ab_icmp_ge (off := 23) (pc := 18) (tgt := 41) (by decide +kernel) (by decide) (fun g18 => ?_) (fun g18 => ?_)
        · refine ab_aload_n (pc := 21) (n := 0) (i := 0) (j := 0) (by decide +kernel) rfl rfl ?_
          refine ab_getR (pc := 22) fl_X6_11_6 (by decide +kernel) (fun v19 ev19 => ?_)
          refine ab_iload_n (pc := 25) (n := 2) (i := 2) (j := 2) (by decide +kernel) rfl rfl ?_
          refine ab_newB (pc := 26) nw_X6_9 rfl (Nat.le_of_ble_eq_true rfl) (Nat.le_of_ble_eq_true rfl) (by decide +kernel) (fun h20 eh20 => ?_)
          refine ab_dup (pc := 29) (by decide +kernel) rfl ?_
          refine ab_aload_n (pc := 30) (n := 1) (i := 1) (j := 1) (by decide +kernel) rfl rfl ?_
          refine ab_callI (M' := mX8_init) (As := [.ref x1]) (st := [.ref h17.1, .int ((((nI 0) + nI 1) + nI 1) + nI 1), .ref v19]) (pc := 31) (index := 17) iX8_init (Or.inl kw_ee2f48e8ee) kw_9235d33151 rfl rfl rfl (by decide) rfl (Nat.le_of_ble_eq_true rfl) (by decide +kernel) (fun y9 e9 => okX8_init hl (F := F) e9) (fun h21 eh21 => ?_)
          refine ab_aast (pc := 34) (ci := 8) rfl (by decide +kernel) (fun h22 eh22 => ?_)
          refine ab_iinc (pc := 35) (i := 2) (n := 1) (j := 2) (d := nI 1) (lv' := [(0, .ref x0), (1, .ref x1), (2, .int (((((nI 0) + nI 1) + nI 1) + nI 1) + nI 1))]) (by decide +kernel) rfl rfl (Nat.le_of_ble_eq_true rfl) rfl rfl ?_
          refine ab_goto (pc := 38) (off := (-23)) (tgt := 15) (by decide +kernel) (by decide) ?_
          refine ab_iload_n (pc := 15) (n := 2) (i := 2) (j := 2) (by decide +kernel) rfl rfl ?_
          refine ab_bipush (pc := 16) (n := 12) (v := nI 12) (by decide +kernel) (by decide) ?_
          refine ab_icmp_ge (off := 23) (pc := 18) (tgt := 41) (by decide +kernel) (by decide) (fun g23 => ?_) (fun g23 => ?_)
          · refine ab_aload_n (pc := 21) (n := 0) (i := 0) (j := 0) (by decide +kernel) rfl rfl ?_
            refine ab_getR (pc := 22) fl_X6_11_6 (by decide +kernel) (fun v24 ev24 => ?_)
            refine ab_iload_n (pc := 25) (n := 2) (i := 2) (j := 2) (by decide +kernel) rfl rfl ?_
            refine ab_newB (pc := 26) nw_X6_9 rfl (Nat.le_of_ble_eq_true rfl) (Nat.le_of_ble_eq_true rfl) (by decide +kernel) (fun h25 eh25 => ?_)
            refine ab_dup (pc := 29) (by decide +kernel) rfl ?_
            refine ab_aload_n (pc := 30) (n := 1) (i := 1) (j := 1) (by decide +kernel) rfl rfl ?_
            refine ab_callI (M' := mX8_init) (As := [.ref x1]) (st := [.ref h22.1, .int (((((nI 0) + nI 1) + nI 1) + nI 1) + nI 1), .ref v24]) (pc := 31) (index := 17) iX8_init (Or.inl kw_ee2f48e8ee) kw_9235d33151 rfl rfl rfl (by decide) rfl (Nat.le_of_ble_eq_true rfl) (by decide +kernel) (fun y9 e9 => okX8_init hl (F := F) e9) (fun h26 eh26 => ?_)
            refine ab_aast (pc := 34) (ci := 8) rfl (by decide +kernel) (fun h27 eh27 => ?_)
            refine ab_iinc (pc := 35) (i := 2) (n := 1) (j := 2) (d := nI 1) (lv' := [(0, .ref x0), (1, .ref x1), (2, .int ((((((nI 0) + nI 1) + nI 1) + nI 1) + nI 1) + nI 1))]) (by decide +kernel) rfl rfl (Nat.le_of_ble_eq_true rfl) rfl rfl ?_
            refine ab_goto (pc := 38) (off := (-23)) (tgt := 15) (by decide +kernel) (by decide) ?_
            refine ab_iload_n (pc := 15) (n := 2) (i := 2) (j := 2) (by decide +kernel) rfl rfl ?_
            refine ab_bipush (pc := 16) (n := 12) (v := nI 12) (by decide +kernel) (by decide) ?_
            refine ab_icmp_ge (off := 23) (pc := 18) (tgt := 41) (by decide +kernel) (by decide) (fun g28 => ?_) (fun g28 => ?_)
            · refine ab_aload_n (pc := 21) (n := 0) (i := 0) (j := 0) (by decide +kernel) rfl rfl ?_
              refine ab_getR (pc := 22) fl_X6_11_6 (by decide +kernel) (fun v29 ev29 => ?_)
              refine ab_iload_n (pc := 25) (n := 2) (i := 2) (j := 2) (by decide +kernel) rfl rfl ?_
              refine ab_newB (pc := 26) nw_X6_9 rfl (Nat.le_of_ble_eq_true rfl) (Nat.le_of_ble_eq_true rfl) (by decide +kernel) (fun h30 eh30 => ?_)
              refine ab_dup (pc := 29) (by decide +kernel) rfl ?_
              refine ab_aload_n (pc := 30) (n := 1) (i := 1) (j := 1) (by decide +kernel) rfl rfl ?_
              refine ab_callI (M' := mX8_init) (As := [.ref x1]) (st := [.ref h27.1, .int ((((((nI 0) + nI 1) + nI 1) + nI 1) + nI 1) + nI 1), .ref v29]) (pc := 31) (index := 17) iX8_init (Or.inl kw_ee2f48e8ee) kw_9235d33151 rfl rfl rfl (by decide) rfl (Nat.le_of_ble_eq_true rfl) (by decide +kernel) (fun y9 e9 => okX8_init hl (F := F) e9) (fun h31 eh31 => ?_)
              refine ab_aast (pc := 34) (ci := 8) rfl (by decide +kernel) (fun h32 eh32 => ?_)
              refine ab_iinc (pc := 35) (i := 2) (n := 1) (j := 2) (d := nI 1) (lv' := [(0, .ref x0), (1, .ref x1), (2, .int (((((((nI 0) + nI 1) + nI 1) + nI 1) + nI 1) + nI 1) + nI 1))]) (by decide +kernel) rfl rfl (Nat.le_of_ble_eq_true rfl) rfl rfl ?_
              refine ab_goto (pc := 38) (off := (-23)) (tgt := 15) (by decide +kernel) (by decide) ?_
              refine ab_iload_n (pc := 15) (n := 2) (i := 2) (j := 2) (by decide +kernel) rfl rfl ?_
              refine ab_bipush (pc := 16) (n := 12) (v := nI 12) (by decide +kernel) (by decide) ?_
              refine ab_icmp_ge (off := 23) (pc := 18) (tgt := 41) (by decide +kernel) (by decide) (fun g33 => ?_) (fun g33 => ?_)
              · refine ab_aload_n (pc := 21) (n := 0) (i := 0) (j := 0) (by decide +kernel) rfl rfl ?_
                refine ab_getR (pc := 22) fl_X6_11_6 (by decide +kernel) (fun v34 ev34 => ?_)
                refine ab_iload_n (pc := 25) (n := 2) (i := 2) (j := 2) (by decide +kernel) rfl rfl ?_
                refine ab_newB (pc := 26) nw_X6_9 rfl (Nat.le_of_ble_eq_true rfl) (Nat.le_of_ble_eq_true rfl) (by decide +kernel) (fun h35 eh35 => ?_)
                refine ab_dup (pc := 29) (by decide +kernel) rfl ?_
                refine ab_aload_n (pc := 30) (n := 1) (i := 1) (j := 1) (by decide +kernel) rfl rfl ?_
                refine ab_callI (M' := mX8_init) (As := [.ref x1]) (st := [.ref h32.1, .int (((((((nI 0) + nI 1) + nI 1) + nI 1) + nI 1) + nI 1) + nI 1), .ref v34]) (pc := 31) (index := 17) iX8_init (Or.inl kw_ee2f48e8ee) kw_9235d33151 rfl rfl rfl (by decide) rfl (Nat.le_of_ble_eq_true rfl) (by decide +kernel) (fun y9 e9 => okX8_init hl (F := F) e9) (fun h36 eh36 => ?_)
                refine ab_aast (pc := 34) (ci := 8) rfl (by decide +kernel) (fun h37 eh37 => ?_)
                refine ab_iinc (pc := 35) (i := 2) (n := 1) (j := 2) (d := nI 1) (lv' := [(0, .ref x0), (1, .ref x1), (2, .int ((((((((nI 0) + nI 1) + nI 1) + nI 1) + nI 1) + nI 1) + nI 1) + nI 1))]) (by decide +kernel) rfl rfl (Nat.le_of_ble_eq_true rfl) rfl rfl ?_
                refine ab_goto (pc := 38) (off := (-23)) (tgt := 15) (by decide +kernel) (by decide) ?_
                refine ab_iload_n (pc := 15) (n := 2) (i := 2) (j := 2) (by decide +kernel) rfl rfl ?_
                refine ab_bipush (pc := 16) (n := 12) (v := nI 12) (by decide +kernel) (by decide) ?_
                refine ab_icmp_ge (off := 23) (pc := 18) (tgt := 41) (by decide +kernel) (by decide) (fun g38 => ?_) (fun g38 => ?_)
                · refine ab_aload_n (pc := 21) (n := 0) (i := 0) (j := 0) (by decide +kernel) rfl rfl ?_
                  refine ab_getR (pc := 22) fl_X6_11_6 (by decide +kernel) (fun v39 ev39 => ?_)
                  refine ab_iload_n (pc := 25) (n := 2) (i := 2) (j := 2) (by decide +kernel) rfl rfl ?_
                  refine ab_newB (pc := 26) nw_X6_9 rfl (Nat.le_of_ble_eq_true rfl) (Nat.le_of_ble_eq_true rfl) (by decide +kernel) (fun h40 eh40 => ?_)
                  refine ab_dup (pc := 29) (by decide +kernel) rfl ?_
                  refine ab_aload_n (pc := 30) (n := 1) (i := 1) (j := 1) (by decide +kernel) rfl rfl ?_
                  refine ab_callI (M' := mX8_init) (As := [.ref x1]) (st := [.ref h37.1, .int ((((((((nI 0) + nI 1) + nI 1) + nI 1) + nI 1) + nI 1) + nI 1) + nI 1), .ref v39]) (pc := 31) (index := 17) iX8_init (Or.inl kw_ee2f48e8ee) kw_9235d33151 rfl rfl rfl (by decide) rfl (Nat.le_of_ble_eq_true rfl) (by decide +kernel) (fun y9 e9 => okX8_init hl (F := F) e9) (fun h41 eh41 => ?_)
                  refine ab_aast (pc := 34) (ci := 8) rfl (by decide +kernel) (fun h42 eh42 => ?_)
                  refine ab_iinc (pc := 35) (i := 2) (n := 1) (j := 2) (d := nI 1) (lv' := [(0, .ref x0), (1, .ref x1), (2, .int (((((((((nI 0) + nI 1) + nI 1) + nI 1) + nI 1) + nI 1) + nI 1) + nI 1) + nI 1))]) (by decide +kernel) rfl rfl (Nat.le_of_ble_eq_true rfl) rfl rfl ?_
                  refine ab_goto (pc := 38) (off := (-23)) (tgt := 15) (by decide +kernel) (by decide) ?_
                  refine ab_iload_n (pc := 15) (n := 2) (i := 2) (j := 2) (by decide +kernel) rfl rfl ?_
                  refine ab_bipush (pc := 16) (n := 12) (v := nI 12) (by decide +kernel) (by decide) ?_
                  refine ab_icmp_ge (off := 23) (pc := 18) (tgt := 41) (by decide +kernel) (by decide) (fun g43 => ?_) (fun g43 => ?_)
                  · refine ab_aload_n (pc := 21) (n := 0) (i := 0) (j := 0) (by decide +kernel) rfl rfl ?_
                    refine ab_getR (pc := 22) fl_X6_11_6 (by decide +kernel) (fun v44 ev44 => ?_)
                    refine ab_iload_n (pc := 25) (n := 2) (i := 2) (j := 2) (by decide +kernel) rfl rfl ?_
                    refine ab_newB (pc := 26) nw_X6_9 rfl (Nat.le_of_ble_eq_true rfl) (Nat.le_of_ble_eq_true rfl) (by decide +kernel) (fun h45 eh45 => ?_)
                    refine ab_dup (pc := 29) (by decide +kernel) rfl ?_
                    refine ab_aload_n (pc := 30) (n := 1) (i := 1) (j := 1) (by decide +kernel) rfl rfl ?_
                    refine ab_callI (M' := mX8_init) (As := [.ref x1]) (st := [.ref h42.1, .int (((((((((nI 0) + nI 1) + nI 1) + nI 1) + nI 1) + nI 1) + nI 1) + nI 1) + nI 1), .ref v44]) (pc := 31) (index := 17) iX8_init (Or.inl kw_ee2f48e8ee) kw_9235d33151 rfl rfl rfl (by decide) rfl (Nat.le_of_ble_eq_true rfl) (by decide +kernel) (fun y9 e9 => okX8_init hl (F := F) e9) (fun h46 eh46 => ?_)
                    refine ab_aast (pc := 34) (ci := 8) rfl (by decide +kernel) (fun h47 eh47 => ?_)
                    refine ab_iinc (pc := 35) (i := 2) (n := 1) (j := 2) (d := nI 1) (lv' := [(0, .ref x0), (1, .ref x1), (2, .int ((((((((((nI 0) + nI 1) + nI 1) + nI 1) + nI 1) + nI 1) + nI 1) + nI 1) + nI 1) + nI 1))]) (by decide +kernel) rfl rfl (Nat.le_of_ble_eq_true rfl) rfl rfl ?_
                    refine ab_goto (pc := 38) (off := (-23)) (tgt := 15) (by decide +kernel) (by decide) ?_
                    refine ab_iload_n (pc := 15) (n := 2) (i := 2) (j := 2) (by decide +kernel) rfl rfl ?_
                    refine ab_bipush (pc := 16) (n := 12) (v := nI 12) (by decide +kernel) (by decide) ?_
                    refine ab_icmp_ge (off := 23) (pc := 18) (tgt := 41) (by decide +kernel) (by decide) (fun g48 => ?_) (fun g48 => ?_)
                    · refine ab_aload_n (pc := 21) (n := 0) (i := 0) (j := 0) (by decide +kernel) rfl rfl ?_
                      refine ab_getR (pc := 22) fl_X6_11_6 (by decide +kernel) (fun v49 ev49 => ?_)
                      refine ab_iload_n (pc := 25) (n := 2) (i := 2) (j := 2) (by decide +kernel) rfl rfl ?_
                      refine ab_newB (pc := 26) nw_X6_9 rfl (Nat.le_of_ble_eq_true rfl) (Nat.le_of_ble_eq_true rfl) (by decide +kernel) (fun h50 eh50 => ?_)
                      refine ab_dup (pc := 29) (by decide +kernel) rfl ?_
                      refine ab_aload_n (pc := 30) (n := 1) (i := 1) (j := 1) (by decide +kernel) rfl rfl ?_
                      refine ab_callI (M' := mX8_init) (As := [.ref x1]) (st := [.ref h47.1, .int ((((((((((nI 0) + nI 1) + nI 1) + nI 1) + nI 1) + nI 1) + nI 1) + nI 1) + nI 1) + nI 1), .ref v49]) (pc := 31) (index := 17) iX8_init (Or.inl kw_ee2f48e8ee) kw_9235d33151 rfl rfl rfl (by decide) rfl (Nat.le_of_ble_eq_true rfl) (by decide +kernel) (fun y9 e9 => okX8_init hl (F := F) e9) (fun h51 eh51 => ?_)
                      refine ab_aast (pc := 34) (ci := 8) rfl (by decide +kernel) (fun h52 eh52 => ?_)
                      refine ab_iinc (pc := 35) (i := 2) (n := 1) (j := 2) (d := nI 1) (lv' := [(0, .ref x0), (1, .ref x1), (2, .int (((((((((((nI 0) + nI 1) + nI 1) + nI 1) + nI 1) + nI 1) + nI 1) + nI 1) + nI 1) + nI 1) + nI 1))]) (by decide +kernel) rfl rfl (Nat.le_of_ble_eq_true rfl) rfl rfl ?_
                      refine ab_goto (pc := 38) (off := (-23)) (tgt := 15) (by decide +kernel) (by decide) ?_
                      refine ab_iload_n (pc := 15) (n := 2) (i := 2) (j := 2) (by decide +kernel) rfl rfl ?_
                      refine ab_bipush (pc := 16) (n := 12) (v := nI 12) (by decide +kernel) (by decide) ?_
                      refine ab_icmp_ge (off := 23) (pc := 18) (tgt := 41) (by decide +kernel) (by decide) (fun g53 => ?_) (fun g53 => ?_)
                      · refine ab_aload_n (pc := 21) (n := 0) (i := 0) (j := 0) (by decide +kernel) rfl rfl ?_
                        refine ab_getR (pc := 22) fl_X6_11_6 (by decide +kernel) (fun v54 ev54 => ?_)
                        refine ab_iload_n (pc := 25) (n := 2) (i := 2) (j := 2) (by decide +kernel) rfl rfl ?_
                        refine ab_newB (pc := 26) nw_X6_9 rfl (Nat.le_of_ble_eq_true rfl) (Nat.le_of_ble_eq_true rfl) (by decide +kernel) (fun h55 eh55 => ?_)
                        refine ab_dup (pc := 29) (by decide +kernel) rfl ?_
                        refine ab_aload_n (pc := 30) (n := 1) (i := 1) (j := 1) (by decide +kernel) rfl rfl ?_
                        refine ab_callI (M' := mX8_init) (As := [.ref x1]) (st := [.ref h52.1, .int (((((((((((nI 0) + nI 1) + nI 1) + nI 1) + nI 1) + nI 1) + nI 1) + nI 1) + nI 1) + nI 1) + nI 1), .ref v54]) (pc := 31) (index := 17) iX8_init (Or.inl kw_ee2f48e8ee) kw_9235d33151 rfl rfl rfl (by decide) rfl (Nat.le_of_ble_eq_true rfl) (by decide +kernel) (fun y9 e9 => okX8_init hl (F := F) e9) (fun h56 eh56 => ?_)
                        refine ab_aast (pc := 34) (ci := 8) rfl (by decide +kernel) (fun h57 eh57 => ?_)
                        refine ab_iinc (pc := 35) (i := 2) (n := 1) (j := 2) (d := nI 1) (lv' := [(0, .ref x0), (1, .ref x1), (2, .int ((((((((((((nI 0) + nI 1) + nI 1) + nI 1) + nI 1) + nI 1) + nI 1) + nI 1) + nI 1) + nI 1) + nI 1) + nI 1))]) (by decide +kernel) rfl rfl (Nat.le_of_ble_eq_true rfl) rfl rfl ?_
                        refine ab_goto (pc := 38) (off := (-23)) (tgt := 15) (by decide +kernel) (by decide) ?_
                        refine ab_iload_n (pc := 15) (n := 2) (i := 2) (j := 2) (by decide +kernel) rfl rfl ?_
                        refine ab_bipush (pc := 16) (n := 12) (v := nI 12) (by decide +kernel) (by decide) ?_
                        refine ab_icmp_ge (off := 23) (pc := 18) (tgt := 41) (by decide +kernel) (by decide) (fun g58 => ?_) (fun g58 => ?_)
                        · refine ab_aload_n (pc := 21) (n := 0) (i := 0) (j := 0) (by decide +kernel) rfl rfl ?_
                          refine ab_getR (pc := 22) fl_X6_11_6 (by decide +kernel) (fun v59 ev59 => ?_)
                          refine ab_iload_n (pc := 25) (n := 2) (i := 2) (j := 2) (by decide +kernel) rfl rfl ?_
                          refine ab_newB (pc := 26) nw_X6_9 rfl (Nat.le_of_ble_eq_true rfl) (Nat.le_of_ble_eq_true rfl) (by decide +kernel) (fun h60 eh60 => ?_)
                          refine ab_dup (pc := 29) (by decide +kernel) rfl ?_
                          refine ab_aload_n (pc := 30) (n := 1) (i := 1) (j := 1) (by decide +kernel) rfl rfl ?_
                          refine ab_callI (M' := mX8_init) (As := [.ref x1]) (st := [.ref h57.1, .int ((((((((((((nI 0) + nI 1) + nI 1) + nI 1) + nI 1) + nI 1) + nI 1) + nI 1) + nI 1) + nI 1) + nI 1) + nI 1), .ref v59]) (pc := 31) (index := 17) iX8_init (Or.inl kw_ee2f48e8ee) kw_9235d33151 rfl rfl rfl (by decide) rfl (Nat.le_of_ble_eq_true rfl) (by decide +kernel) (fun y9 e9 => okX8_init hl (F := F) e9) (fun h61 eh61 => ?_)
                          refine ab_aast (pc := 34) (ci := 8) rfl (by decide +kernel) (fun h62 eh62 => ?_)
                          refine ab_iinc (pc := 35) (i := 2) (n := 1) (j := 2) (d := nI 1) (lv' := [(0, .ref x0), (1, .ref x1), (2, .int (((((((((((((nI 0) + nI 1) + nI 1) + nI 1) + nI 1) + nI 1) + nI 1) + nI 1) + nI 1) + nI 1) + nI 1) + nI 1) + nI 1))]) (by decide +kernel) rfl rfl (Nat.le_of_ble_eq_true rfl) rfl rfl ?_
                          refine ab_goto (pc := 38) (off := (-23)) (tgt := 15) (by decide +kernel) (by decide) ?_
                          refine ab_iload_n (pc := 15) (n := 2) (i := 2) (j := 2) (by decide +kernel) rfl rfl ?_
                          refine ab_bipush (pc := 16) (n := 12) (v := nI 12) (by decide +kernel) (by decide) ?_
                          refine ab_icmp_ge (off := 23) (pc := 18) (tgt := 41) (by decide +kernel) (by decide) (fun g63 => ?_) (fun g63 => ?_)
                          · exact absurd g63 (by decide)
                          · exact ab_vret (pc := 41) (by decide +kernel) rfl rfl (Nat.le_of_ble_eq_true rfl) (Nat.le_of_ble_eq_true rfl)
                        · exact absurd (show ((((((((((((nI 0) + nI 1) + nI 1) + nI 1) + nI 1) + nI 1) + nI 1) + nI 1) + nI 1) + nI 1) + nI 1) + nI 1) < (nI 12) by decide) g58
                      · exact absurd (show (((((((((((nI 0) + nI 1) + nI 1) + nI 1) + nI 1) + nI 1) + nI 1) + nI 1) + nI 1) + nI 1) + nI 1) < (nI 12) by decide) g53
                    · exact absurd (show ((((((((((nI 0) + nI 1) + nI 1) + nI 1) + nI 1) + nI 1) + nI 1) + nI 1) + nI 1) + nI 1) < (nI 12) by decide) g48
                  · exact absurd (show (((((((((nI 0) + nI 1) + nI 1) + nI 1) + nI 1) + nI 1) + nI 1) + nI 1) + nI 1) < (nI 12) by decide) g43
                · exact absurd (show ((((((((nI 0) + nI 1) + nI 1) + nI 1) + nI 1) + nI 1) + nI 1) + nI 1) < (nI 12) by decide) g38
              · exact absurd (show (((((((nI 0) + nI 1) + nI 1) + nI 1) + nI 1) + nI 1) + nI 1) < (nI 12) by decide) g33
            · exact absurd (show ((((((nI 0) + nI 1) + nI 1) + nI 1) + nI 1) + nI 1) < (nI 12) by decide) g28
          · exact absurd (show (((((nI 0) + nI 1) + nI 1) + nI 1) + nI 1) < (nI 12) by decide) g23
        · exact absurd (show ((((nI 0) + nI 1) + nI 1) + nI 1) < (nI 12) by decide) g18
      · exact absurd (show (((nI 0) + nI 1) + nI 1) < (nI 12) by decide) g13
    · exact absurd (show ((nI 0) + nI 1) < (nI 12) by decide) g8
  · exact absurd (show (nI 0) < (nI 12) by decide) g3
set_option maxRecDepth 100000 in
set_option maxHeartbeats 4000000 in
theorem okX6_init {l : Launch} (hl : l.stackTraces = false) {F : Nat} {x0 : Nat} {x1 : Nat} {h : ab_H} {y : ab_H} (e : fX6_init F x0 x1 h = some y) : ab_Met l mX6_init [.ref x0, .ref x1] h (.inl none, y) := ab_ofS (io := (fun y : ab_H => ((.inl none, y) : ab_R × ab_H))) (x := y) hl (by decide) rfl (Nat.le_of_ble_eq_true rfl) (wX6_init hl F x0 x1 h) e
def mX11_init : ab_M := (yX11_init, cX11_init, 3, none, { frames := 4, cells := 205, slots := 8881, locals := 83 })
theorem iX11_init : ab_MI mX11_init 0 := ⟨kw_71822d604c, kw_62b61b7ad3, by decide +kernel⟩
theorem nw_X11_7 : ab_NW RX11 7 2 3 [.int 0, .null, .null] := ⟨(RX2, TX2, 3), tyX2, rfl, rfl, uwX2, tyX2_ok, kw_be440b0eb3, kw_94bfbe3342, kw_0069db34e3, by decide +kernel⟩
theorem nw_X11_14 : ab_NW RX11 14 9 2 [.null, .int 0] := ⟨(RX9, TX9, 2), tyX9, rfl, rfl, uwX9, tyX9_ok, kw_5bf64fe815, kw_3717d64de8, kw_65fe9e2a2b, by decide +kernel⟩
theorem nw_X11_21 : ab_NW RX11 21 8 18 [.int 0, .int 0, .int 0, .int 0, .int 0, .int 0, .int 0, .null, .null, .null, .null, .null, .null, .null, .null, .null, .null, .null] := ⟨(RX8, TX8, 18), tyX8, rfl, rfl, uwX8, tyX8_ok, kw_4bb695162e, kw_2c41f44828, kw_a869362287, by decide +kernel⟩
theorem nw_X11_36 : ab_NW RX11 36 6 3 [.null, .int 0, .int 0] := ⟨(RX6, TX6, 3), tyX6, rfl, rfl, uwX6, tyX6_ok, kw_54d7dc853b, kw_4f09a742d1, kw_252be10908, by decide +kernel⟩
theorem nw_X11_43 : ab_NW RX11 43 0 5 [.null, .null, .null, .null, .int 0] := ⟨(RX0, TX0, 5), tyX0, rfl, rfl, uwX0, tyX0_ok, kw_69939e130d, kw_c32a25656b, kw_284a064ce4, by decide +kernel⟩
theorem nw_X11_48 : ab_NW RX11 48 1 7 [.null, .int 0, .int 0, .int 0, .null, .null, .null] := ⟨(RX1, TX1, 7), tyX1, rfl, rfl, uwX1, tyX1_ok, kw_7eee0ace2f, kw_c94e1a1a8b, kw_9c5cf83101, by decide +kernel⟩
theorem nw_X11_57 : ab_NW RX11 57 3 6 [.null, .int 0, .int 0, .int 0, .null, .int 0] := ⟨(RX3, TX3, 6), tyX3, rfl, rfl, uwX3, tyX3_ok, kw_5fc9bb5b3b, kw_d368eafe48, kw_c1639047af, by decide +kernel⟩
theorem nw_X11_66 : ab_NW RX11 66 7 9 [.null, .null, .null, .null, .null, .null, .int 0, .int 0, .int 0] := ⟨(RX7, TX7, 9), tyX7, rfl, rfl, uwX7, tyX7_ok, kw_a73866eb83, kw_e0c74b5556, kw_7a4ae534b5, by decide +kernel⟩
theorem nw_X11_73 : ab_NW RX11 73 5 2 [.null, .null] := ⟨(RX5, TX5, 2), tyX5, rfl, rfl, uwX5, tyX5_ok, kw_2c97c60217, kw_e396ef81f0, kw_c0673d947a, by decide +kernel⟩
def fX11_init (F : Nat) (x0 : Nat) (h : ab_H) : Option ab_H := ab_bd (ab_nw h 2 [.int 0, .null, .null]) fun h1 => ab_bd (fX2_init h.1 (-1 : Int32) (nI 0) h1) fun h2 => ab_bd (ab_nw h2 9 [.null, .int 0]) fun h3 => ab_bd (fX9_init h2.1 h3) fun h4 => ab_bd (ab_fw h4 x0 11 0 (.ref h2.1)) fun h5 => ab_bd (ab_nw h5 8 [.int 0, .int 0, .int 0, .int 0, .int 0, .int 0, .int 0, .null, .null, .null, .null, .null, .null, .null, .null, .null, .null, .null]) fun h6 => ab_bd (fX8_init F h5.1 h.1 h6) fun h7 => ab_bd (ab_fw h7 x0 11 1 (.ref h5.1)) fun h8 => ab_bd (ab_nw h8 8 [.int 0, .int 0, .int 0, .int 0, .int 0, .int 0, .int 0, .null, .null, .null, .null, .null, .null, .null, .null, .null, .null, .null]) fun h9 => ab_bd (fX8_init F h8.1 h.1 h9) fun h10 => ab_bd (ab_fw h10 x0 11 2 (.ref h8.1)) fun h11 => ab_bd (ab_nw h11 8 [.int 0, .int 0, .int 0, .int 0, .int 0, .int 0, .int 0, .null, .null, .null, .null, .null, .null, .null, .null, .null, .null, .null]) fun h12 => ab_bd (fX8_init F h11.1 h.1 h12) fun h13 => ab_bd (ab_fw h13 x0 11 3 (.ref h11.1)) fun h14 => ab_bd (ab_nw h14 6 [.null, .int 0, .int 0]) fun h15 => ab_bd (fX6_init F h14.1 h.1 h15) fun h16 => ab_bd (ab_fw h16 x0 11 4 (.ref h14.1)) fun h17 => ab_bd (ab_nw h17 0 [.null, .null, .null, .null, .int 0]) fun h18 => ab_bd (ab_fr h18 x0 11 0) fun v19 => ab_bd (fX0_init h17.1 v19 h18) fun h20 => ab_bd (ab_nw h20 1 [.null, .int 0, .int 0, .int 0, .null, .null, .null]) fun h21 => ab_bd (ab_fr h21 x0 11 1) fun v22 => ab_bd (ab_fr h21 x0 11 2) fun v23 => ab_bd (fX1_init h20.1 h17.1 v22 v23 h21) fun h24 => ab_bd (ab_fw h24 x0 11 5 (.ref h20.1)) fun h25 => ab_bd (ab_nw h25 3 [.null, .int 0, .int 0, .int 0, .null, .int 0]) fun h26 => ab_bd (fX3_init h25.1 h17.1 h26) fun h27 => ab_bd (ab_fw h27 x0 11 6 (.ref h25.1)) fun h28 => ab_bd (ab_nw h28 7 [.null, .null, .null, .null, .null, .null, .int 0, .int 0, .int 0]) fun h29 => ab_bd (fX7_init h28.1 h29) fun h30 => ab_bd (ab_fw h30 x0 11 7 (.ref h28.1)) fun h31 => ab_bd (ab_nw h31 5 [.null, .null]) fun h32 => ab_bd (fX5_init h31.1 h32) fun h33 => ab_bd (ab_fw h33 x0 11 8 (.ref h31.1)) fun h34 => ab_bd (ab_fw h34 x0 11 10 (.int (-1 : Int32))) fun h35 => some h35
set_option maxRecDepth 100000 in
set_option maxHeartbeats 4000000 in
theorem wX11_init {l : Launch} (hl : l.stackTraces = false) (F : Nat) (x0 : Nat) (h : ab_H) : ab_S l mX11_init (fun y : ab_H => ((.inl none, y) : ab_R × ab_H)) 0 0 (fX11_init F x0 h) 0 [(0, .ref x0)] [] h := by
  unfold fX11_init
  refine ab_aload_n (pc := 0) (n := 0) (i := 0) (j := 0) (by decide +kernel) rfl rfl ?_
  refine ab_objInit (pc := 1) (index := 1) kw_25b5eb70d8 kw_3e5ce616d8 kw_90b5ae3dba (Nat.le_of_ble_eq_true rfl) (Nat.le_of_ble_eq_true rfl) (by decide +kernel) ?_
  refine ab_newB (pc := 4) nw_X11_7 rfl (Nat.le_of_ble_eq_true rfl) (Nat.le_of_ble_eq_true rfl) (by decide +kernel) (fun h1 eh1 => ?_)
  refine ab_dup (pc := 7) (by decide +kernel) rfl ?_
  refine ab_iconst (pc := 8) (n := -1) (v := (-1 : Int32)) (by decide +kernel) rfl ?_
  refine ab_iconst (pc := 9) (n := 0) (v := nI 0) (by decide +kernel) rfl ?_
  refine ab_callI (M' := mX2_init) (As := [.int (-1 : Int32), .int (nI 0)]) (st := [.ref h.1]) (pc := 10) (index := 11) iX2_init (Or.inl kw_36c729004d) kw_89b138e392 rfl rfl rfl (by decide) rfl (Nat.le_of_ble_eq_true rfl) (by decide +kernel) (fun y9 e9 => okX2_init hl e9) (fun h2 eh2 => ?_)
  refine ab_astore_n (pc := 13) (n := 1) (i := 1) (lv' := [(0, .ref x0), (1, .ref h.1)]) (by decide +kernel) rfl (Nat.le_of_ble_eq_true rfl) rfl rfl ?_
  refine ab_aload_n (pc := 14) (n := 0) (i := 0) (j := 0) (by decide +kernel) rfl rfl ?_
  refine ab_newB (pc := 15) nw_X11_14 rfl (Nat.le_of_ble_eq_true rfl) (Nat.le_of_ble_eq_true rfl) (by decide +kernel) (fun h3 eh3 => ?_)
  refine ab_dup (pc := 18) (by decide +kernel) rfl ?_
  refine ab_callI (M' := mX9_init) (As := []) (st := [.ref h2.1, .ref x0]) (pc := 19) (index := 16) iX9_init (Or.inr ⟨"HungFaces", (by show (RX11, 16, yX9_init, "HungFaces") ∈ ab_nm; decide +kernel)⟩) kw_0255b2231e rfl rfl rfl (by decide) rfl (Nat.le_of_ble_eq_true rfl) (by decide +kernel) (fun y9 e9 => okX9_init hl e9) (fun h4 eh4 => ?_)
  refine ab_putF (pc := 22) fl_X11_17_11 rfl rfl (fun _ => rfl) (fun _ => rfl) (by decide +kernel) (fun h5 eh5 => ?_)
  refine ab_aload_n (pc := 25) (n := 0) (i := 0) (j := 0) (by decide +kernel) rfl rfl ?_
  refine ab_newB (pc := 26) nw_X11_21 rfl (Nat.le_of_ble_eq_true rfl) (Nat.le_of_ble_eq_true rfl) (by decide +kernel) (fun h6 eh6 => ?_)
  refine ab_dup (pc := 29) (by decide +kernel) rfl ?_
  refine ab_aload_n (pc := 30) (n := 1) (i := 1) (j := 1) (by decide +kernel) rfl rfl ?_
  refine ab_callI (M' := mX8_init) (As := [.ref h.1]) (st := [.ref h5.1, .ref x0]) (pc := 31) (index := 23) iX8_init (Or.inl kw_73cc50e2e1) kw_9235d33151 rfl rfl rfl (by decide) rfl (Nat.le_of_ble_eq_true rfl) (by decide +kernel) (fun y9 e9 => okX8_init hl (F := F) e9) (fun h7 eh7 => ?_)
  refine ab_putF (pc := 34) fl_X11_26_11 rfl rfl (fun _ => rfl) (fun _ => rfl) (by decide +kernel) (fun h8 eh8 => ?_)
  refine ab_aload_n (pc := 37) (n := 0) (i := 0) (j := 0) (by decide +kernel) rfl rfl ?_
  refine ab_newB (pc := 38) nw_X11_21 rfl (Nat.le_of_ble_eq_true rfl) (Nat.le_of_ble_eq_true rfl) (by decide +kernel) (fun h9 eh9 => ?_)
  refine ab_dup (pc := 41) (by decide +kernel) rfl ?_
  refine ab_aload_n (pc := 42) (n := 1) (i := 1) (j := 1) (by decide +kernel) rfl rfl ?_
  refine ab_callI (M' := mX8_init) (As := [.ref h.1]) (st := [.ref h8.1, .ref x0]) (pc := 43) (index := 23) iX8_init (Or.inl kw_73cc50e2e1) kw_9235d33151 rfl rfl rfl (by decide) rfl (Nat.le_of_ble_eq_true rfl) (by decide +kernel) (fun y9 e9 => okX8_init hl (F := F) e9) (fun h10 eh10 => ?_)
  refine ab_putF (pc := 46) fl_X11_30_11 rfl rfl (fun _ => rfl) (fun _ => rfl) (by decide +kernel) (fun h11 eh11 => ?_)
  refine ab_aload_n (pc := 49) (n := 0) (i := 0) (j := 0) (by decide +kernel) rfl rfl ?_
  refine ab_newB (pc := 50) nw_X11_21 rfl (Nat.le_of_ble_eq_true rfl) (Nat.le_of_ble_eq_true rfl) (by decide +kernel) (fun h12 eh12 => ?_)
  refine ab_dup (pc := 53) (by decide +kernel) rfl ?_
  refine ab_aload_n (pc := 54) (n := 1) (i := 1) (j := 1) (by decide +kernel) rfl rfl ?_
  refine ab_callI (M' := mX8_init) (As := [.ref h.1]) (st := [.ref h11.1, .ref x0]) (pc := 55) (index := 23) iX8_init (Or.inl kw_73cc50e2e1) kw_9235d33151 rfl rfl rfl (by decide) rfl (Nat.le_of_ble_eq_true rfl) (by decide +kernel) (fun y9 e9 => okX8_init hl (F := F) e9) (fun h13 eh13 => ?_)
  refine ab_putF (pc := 58) fl_X11_33_11 rfl rfl (fun _ => rfl) (fun _ => rfl) (by decide +kernel) (fun h14 eh14 => ?_)
  refine ab_aload_n (pc := 61) (n := 0) (i := 0) (j := 0) (by decide +kernel) rfl rfl ?_
  refine ab_newB (pc := 62) nw_X11_36 rfl (Nat.le_of_ble_eq_true rfl) (Nat.le_of_ble_eq_true rfl) (by decide +kernel) (fun h15 eh15 => ?_)
  refine ab_dup (pc := 65) (by decide +kernel) rfl ?_
  refine ab_aload_n (pc := 66) (n := 1) (i := 1) (j := 1) (by decide +kernel) rfl rfl ?_
  refine ab_callI (M' := mX6_init) (As := [.ref h.1]) (st := [.ref h14.1, .ref x0]) (pc := 67) (index := 38) iX6_init (Or.inl kw_c9cfe67345) kw_cde69b1455 rfl rfl rfl (by decide) rfl (Nat.le_of_ble_eq_true rfl) (by decide +kernel) (fun y9 e9 => okX6_init hl (F := F) e9) (fun h16 eh16 => ?_)
  refine ab_putF (pc := 70) fl_X11_39_11 rfl rfl (fun _ => rfl) (fun _ => rfl) (by decide +kernel) (fun h17 eh17 => ?_)
  refine ab_newB (pc := 73) nw_X11_43 rfl (Nat.le_of_ble_eq_true rfl) (Nat.le_of_ble_eq_true rfl) (by decide +kernel) (fun h18 eh18 => ?_)
  refine ab_dup (pc := 76) (by decide +kernel) rfl ?_
  refine ab_aload_n (pc := 77) (n := 0) (i := 0) (j := 0) (by decide +kernel) rfl rfl ?_
  refine ab_getR (pc := 78) fl_X11_17_11 (by decide +kernel) (fun v19 ev19 => ?_)
  refine ab_callI (M' := mX0_init) (As := [.ref v19]) (st := [.ref h17.1]) (pc := 81) (index := 45) iX0_init (Or.inl kw_30f2a429ae) kw_0b14fbdd2c rfl rfl rfl (by decide) rfl (Nat.le_of_ble_eq_true rfl) (by decide +kernel) (fun y9 e9 => okX0_init hl e9) (fun h20 eh20 => ?_)
  refine ab_astore_n (pc := 84) (n := 2) (i := 2) (lv' := [(0, .ref x0), (1, .ref h.1), (2, .ref h17.1)]) (by decide +kernel) rfl (Nat.le_of_ble_eq_true rfl) rfl rfl ?_
  refine ab_aload_n (pc := 85) (n := 0) (i := 0) (j := 0) (by decide +kernel) rfl rfl ?_
  refine ab_newB (pc := 86) nw_X11_48 rfl (Nat.le_of_ble_eq_true rfl) (Nat.le_of_ble_eq_true rfl) (by decide +kernel) (fun h21 eh21 => ?_)
  refine ab_dup (pc := 89) (by decide +kernel) rfl ?_
  refine ab_aload_n (pc := 90) (n := 2) (i := 2) (j := 2) (by decide +kernel) rfl rfl ?_
  refine ab_aload_n (pc := 91) (n := 0) (i := 0) (j := 0) (by decide +kernel) rfl rfl ?_
  refine ab_getR (pc := 92) fl_X11_26_11 (by decide +kernel) (fun v22 ev22 => ?_)
  refine ab_aload_n (pc := 95) (n := 0) (i := 0) (j := 0) (by decide +kernel) rfl rfl ?_
  refine ab_getR (pc := 96) fl_X11_30_11 (by decide +kernel) (fun v23 ev23 => ?_)
  refine ab_callI (M' := mX1_init) (As := [.ref h17.1, .ref v22, .ref v23]) (st := [.ref h20.1, .ref x0]) (pc := 99) (index := 50) iX1_init (Or.inl kw_ec0ddf06c6) kw_05c796293e rfl rfl rfl (by decide) rfl (Nat.le_of_ble_eq_true rfl) (by decide +kernel) (fun y9 e9 => okX1_init hl e9) (fun h24 eh24 => ?_)
  refine ab_putF (pc := 102) fl_X11_53_11 rfl rfl (fun _ => rfl) (fun _ => rfl) (by decide +kernel) (fun h25 eh25 => ?_)
  refine ab_aload_n (pc := 105) (n := 0) (i := 0) (j := 0) (by decide +kernel) rfl rfl ?_
  refine ab_newB (pc := 106) nw_X11_57 rfl (Nat.le_of_ble_eq_true rfl) (Nat.le_of_ble_eq_true rfl) (by decide +kernel) (fun h26 eh26 => ?_)
  refine ab_dup (pc := 109) (by decide +kernel) rfl ?_
  refine ab_aload_n (pc := 110) (n := 2) (i := 2) (j := 2) (by decide +kernel) rfl rfl ?_
  refine ab_callI (M' := mX3_init) (As := [.ref h17.1]) (st := [.ref h25.1, .ref x0]) (pc := 111) (index := 59) iX3_init (Or.inl kw_6261927462) kw_7dea033f9f rfl rfl rfl (by decide) rfl (Nat.le_of_ble_eq_true rfl) (by decide +kernel) (fun y9 e9 => okX3_init hl e9) (fun h27 eh27 => ?_)
  refine ab_putF (pc := 114) fl_X11_62_11 rfl rfl (fun _ => rfl) (fun _ => rfl) (by decide +kernel) (fun h28 eh28 => ?_)
  refine ab_aload_n (pc := 117) (n := 0) (i := 0) (j := 0) (by decide +kernel) rfl rfl ?_
  refine ab_newB (pc := 118) nw_X11_66 rfl (Nat.le_of_ble_eq_true rfl) (Nat.le_of_ble_eq_true rfl) (by decide +kernel) (fun h29 eh29 => ?_)
  refine ab_dup (pc := 121) (by decide +kernel) rfl ?_
  refine ab_callI (M' := mX7_init) (As := []) (st := [.ref h28.1, .ref x0]) (pc := 122) (index := 68) iX7_init (Or.inr ⟨"HungFaces", (by show (RX11, 68, yX7_init, "HungFaces") ∈ ab_nm; decide +kernel)⟩) kw_33772d6053 rfl rfl rfl (by decide) rfl (Nat.le_of_ble_eq_true rfl) (by decide +kernel) (fun y9 e9 => okX7_init hl e9) (fun h30 eh30 => ?_)
  refine ab_putF (pc := 125) fl_X11_69_11 rfl rfl (fun _ => rfl) (fun _ => rfl) (by decide +kernel) (fun h31 eh31 => ?_)
  refine ab_aload_n (pc := 128) (n := 0) (i := 0) (j := 0) (by decide +kernel) rfl rfl ?_
  refine ab_newB (pc := 129) nw_X11_73 rfl (Nat.le_of_ble_eq_true rfl) (Nat.le_of_ble_eq_true rfl) (by decide +kernel) (fun h32 eh32 => ?_)
  refine ab_dup (pc := 132) (by decide +kernel) rfl ?_
  refine ab_callI (M' := mX5_init) (As := []) (st := [.ref h31.1, .ref x0]) (pc := 133) (index := 75) iX5_init (Or.inr ⟨"HungFaces", (by show (RX11, 75, yX5_init, "HungFaces") ∈ ab_nm; decide +kernel)⟩) kw_61b8a12035 rfl rfl rfl (by decide) rfl (Nat.le_of_ble_eq_true rfl) (by decide +kernel) (fun y9 e9 => okX5_init hl e9) (fun h33 eh33 => ?_)
  refine ab_putF (pc := 136) fl_X11_76_11 rfl rfl (fun _ => rfl) (fun _ => rfl) (by decide +kernel) (fun h34 eh34 => ?_)
  refine ab_aload_n (pc := 139) (n := 0) (i := 0) (j := 0) (by decide +kernel) rfl rfl ?_
  refine ab_iconst (pc := 140) (n := -1) (v := (-1 : Int32)) (by decide +kernel) rfl ?_
  refine ab_put (pc := 141) fl_X11_80_11 rfl (fun _ => rfl) (fun _ => rfl) (by decide +kernel) (fun h35 eh35 => ?_)
  exact ab_vret (pc := 144) (by decide +kernel) rfl rfl (Nat.le_of_ble_eq_true rfl) (Nat.le_of_ble_eq_true rfl)
set_option maxRecDepth 100000 in
set_option maxHeartbeats 4000000 in
theorem okX11_init {l : Launch} (hl : l.stackTraces = false) {F : Nat} {x0 : Nat} {h : ab_H} {y : ab_H} (e : fX11_init F x0 h = some y) : ab_Met l mX11_init [.ref x0] h (.inl none, y) := ab_ofS (io := (fun y : ab_H => ((.inl none, y) : ab_R × ab_H))) (x := y) hl (by decide) rfl (Nat.le_of_ble_eq_true rfl) (wX11_init hl F x0 h) e
def mX12_init : ab_M := (yX12_init, cX12_init, 2, none, { frames := 1, cells := 12, slots := 21296, locals := 20 })
theorem iX12_init : ab_MI mX12_init 0 := ⟨kw_a058811cfe, kw_30b3f7d7c6, by decide +kernel⟩
def fX12_init_137 (x0 : Nat) : Nat → Int32 → ab_H → Option ab_H
  | 0, _, _ => none
  | n + 1, x1, h => (if x1 < (nI 12) then ab_bd (ab_fr h x0 12 1) fun v33 => ab_bd (ab_iw 0 h v33 ((nI 272) + x1) (-1 : Int32)) fun h34 => fX12_init_137 x0 n (x1 + nI 1) h34 else some h)
def fX12_init (F : Nat) (x0 : Nat) (h : ab_H) : Option ab_H := ab_bd (ab_na 0 984 h (nI 984)) fun h1 => ab_bd (ab_fw h1 x0 12 1 (.ref h.1)) fun h2 => ab_bd (ab_na 0 984 h2 (nI 984)) fun h3 => ab_bd (ab_fw h3 x0 12 2 (.ref h2.1)) fun h4 => ab_bd (ab_na 0 584 h4 (nI 584)) fun h5 => ab_bd (ab_fw h5 x0 12 4 (.ref h4.1)) fun h6 => ab_bd (ab_na 0 7008 h6 (nI 7008)) fun h7 => ab_bd (ab_fw h7 x0 12 5 (.ref h6.1)) fun h8 => ab_bd (ab_na 0 400 h8 (nI 400)) fun h9 => ab_bd (ab_fw h9 x0 12 7 (.ref h8.1)) fun h10 => ab_bd (ab_fw h10 x0 12 12 (.int (-1 : Int32))) fun h11 => ab_bd (ab_na 0 6 h11 (nI 6)) fun h12 => ab_bd (ab_fw h12 x0 12 14 (.ref h11.1)) fun h13 => ab_bd (ab_na 0 36 h13 (nI 36)) fun h14 => ab_bd (ab_fw h14 x0 12 19 (.ref h13.1)) fun h15 => ab_bd (ab_na 0 10 h15 (nI 10)) fun h16 => ab_bd (ab_fw h16 x0 12 21 (.ref h15.1)) fun h17 => ab_bd (ab_na 0 1024 h17 (nI 1024)) fun h18 => ab_bd (ab_fw h18 x0 12 22 (.ref h17.1)) fun h19 => ab_bd (ab_na 0 10 h19 (nI 10)) fun h20 => ab_bd (ab_fw h20 x0 12 23 (.ref h19.1)) fun h21 => ab_bd (ab_na 0 10240 h21 (nI 10240)) fun h22 => ab_bd (ab_fw h22 x0 12 24 (.ref h21.1)) fun h23 => ab_bd (ab_na 0 10 h23 (nI 10)) fun h24 => ab_bd (ab_fw h24 x0 12 25 (.ref h23.1)) fun h25 => ab_bd (ab_fr h25 x0 12 1) fun v26 => ab_bd (ab_iw 0 h25 v26 (nI 1) (-1 : Int32)) fun h27 => ab_bd (ab_fr h27 x0 12 1) fun v28 => ab_bd (ab_iw 0 h27 v28 (nI 4) (nI 6)) fun h29 => ab_bd (ab_fr h29 x0 12 1) fun v30 => ab_bd (ab_iw 0 h29 v30 (nI 9) (nI 1)) fun h31 => fX12_init_137 x0 F (nI 0) h31
set_option maxRecDepth 100000 in
set_option maxHeartbeats 4000000 in
theorem lX12_init_137 {l : Launch} (hl : l.stackTraces = false) (x0 : Nat) : ∀ (n : Nat) (x1 : Int32) (h : ab_H), ab_S l mX12_init (fun y : ab_H => ((.inl none, y) : ab_R × ab_H)) 12 21296 (fX12_init_137 x0 n x1 h) 137 [(0, .ref x0), (1, .int x1)] [] h := by
  intro n
  induction n with
  | zero =>
    intro x1 h
    exact ab_none
  | succ n ih =>
    intro x1 h
    rw [fX12_init_137]
    refine ab_iload_n (pc := 137) (n := 1) (i := 1) (j := 1) (by decide +kernel) rfl rfl ?_
    refine ab_bipush (pc := 138) (n := 12) (v := nI 12) (by decide +kernel) (by decide) ?_
    refine ab_icmp_ge (off := 20) (pc := 140) (tgt := 160) (by decide +kernel) (by decide) (fun g32 => ?_) (fun g32 => ?_)
    · refine ab_aload_n (pc := 143) (n := 0) (i := 0) (j := 0) (by decide +kernel) rfl rfl ?_
      refine ab_getR (pc := 144) fl_X12_7_12 (by decide +kernel) (fun v33 ev33 => ?_)
      refine ab_sipush (pc := 147) (n := 272) (v := nI 272) (by decide +kernel) (by decide) ?_
      refine ab_iload_n (pc := 150) (n := 1) (i := 1) (j := 1) (by decide +kernel) rfl rfl ?_
      refine ab_iadd (pc := 151) (by decide +kernel) ?_
      refine ab_iconst (pc := 152) (n := -1) (v := (-1 : Int32)) (by decide +kernel) rfl ?_
      refine ab_iast (pc := 153) (by decide +kernel) (fun h34 eh34 => ?_)
      refine ab_iinc (pc := 154) (i := 1) (n := 1) (j := 1) (d := nI 1) (lv' := [(0, .ref x0), (1, .int (x1 + nI 1))]) (by decide +kernel) rfl rfl (Nat.le_of_ble_eq_true rfl) rfl rfl ?_
      refine ab_goto (pc := 157) (off := (-20)) (tgt := 137) (by decide +kernel) (by decide) ?_
      exact ih (x1 + nI 1) h34
    · exact ab_vret (pc := 160) (by decide +kernel) rfl rfl (Nat.le_of_ble_eq_true rfl) (Nat.le_of_ble_eq_true rfl)
set_option maxRecDepth 100000 in
set_option maxHeartbeats 4000000 in
theorem wX12_init {l : Launch} (hl : l.stackTraces = false) (F : Nat) (x0 : Nat) (h : ab_H) : ab_S l mX12_init (fun y : ab_H => ((.inl none, y) : ab_R × ab_H)) 0 0 (fX12_init F x0 h) 0 [(0, .ref x0)] [] h := by
  unfold fX12_init
  refine ab_aload_n (pc := 0) (n := 0) (i := 0) (j := 0) (by decide +kernel) rfl rfl ?_
  refine ab_objInit (pc := 1) (index := 1) kw_f82e361710 kw_3e5ce616d8 kw_90b5ae3dba (Nat.le_of_ble_eq_true rfl) (Nat.le_of_ble_eq_true rfl) (by decide +kernel) ?_
  refine ab_aload_n (pc := 4) (n := 0) (i := 0) (j := 0) (by decide +kernel) rfl rfl ?_
  refine ab_sipush (pc := 5) (n := 984) (v := nI 984) (by decide +kernel) (by decide) ?_
  refine ab_naI (pc := 8) (B := 984) kw_b5d2f4680e (by decide) (Nat.le_of_ble_eq_true rfl) (Nat.le_of_ble_eq_true rfl) (by decide +kernel) (fun h1 eh1 => ?_)
  refine ab_putF (pc := 10) fl_X12_7_12 rfl rfl (fun _ => rfl) (fun _ => rfl) (by decide +kernel) (fun h2 eh2 => ?_)
  refine ab_aload_n (pc := 13) (n := 0) (i := 0) (j := 0) (by decide +kernel) rfl rfl ?_
  refine ab_sipush (pc := 14) (n := 984) (v := nI 984) (by decide +kernel) (by decide) ?_
  refine ab_naI (pc := 17) (B := 984) kw_b5d2f4680e (by decide) (Nat.le_of_ble_eq_true rfl) (Nat.le_of_ble_eq_true rfl) (by decide +kernel) (fun h3 eh3 => ?_)
  refine ab_putF (pc := 19) fl_X12_13_12 rfl rfl (fun _ => rfl) (fun _ => rfl) (by decide +kernel) (fun h4 eh4 => ?_)
  refine ab_aload_n (pc := 22) (n := 0) (i := 0) (j := 0) (by decide +kernel) rfl rfl ?_
  refine ab_sipush (pc := 23) (n := 584) (v := nI 584) (by decide +kernel) (by decide) ?_
  refine ab_naI (pc := 26) (B := 584) kw_b5d2f4680e (by decide) (Nat.le_of_ble_eq_true rfl) (Nat.le_of_ble_eq_true rfl) (by decide +kernel) (fun h5 eh5 => ?_)
  refine ab_putF (pc := 28) fl_X12_16_12 rfl rfl (fun _ => rfl) (fun _ => rfl) (by decide +kernel) (fun h6 eh6 => ?_)
  refine ab_aload_n (pc := 31) (n := 0) (i := 0) (j := 0) (by decide +kernel) rfl rfl ?_
  refine ab_sipush (pc := 32) (n := 7008) (v := nI 7008) (by decide +kernel) (by decide) ?_
  refine ab_naI (pc := 35) (B := 7008) kw_b5d2f4680e (by decide) (Nat.le_of_ble_eq_true rfl) (Nat.le_of_ble_eq_true rfl) (by decide +kernel) (fun h7 eh7 => ?_)
  refine ab_putF (pc := 37) fl_X12_19_12 rfl rfl (fun _ => rfl) (fun _ => rfl) (by decide +kernel) (fun h8 eh8 => ?_)
  refine ab_aload_n (pc := 40) (n := 0) (i := 0) (j := 0) (by decide +kernel) rfl rfl ?_
  refine ab_sipush (pc := 41) (n := 400) (v := nI 400) (by decide +kernel) (by decide) ?_
  refine ab_naI (pc := 44) (B := 400) kw_b5d2f4680e (by decide) (Nat.le_of_ble_eq_true rfl) (Nat.le_of_ble_eq_true rfl) (by decide +kernel) (fun h9 eh9 => ?_)
  refine ab_putF (pc := 46) fl_X12_22_12 rfl rfl (fun _ => rfl) (fun _ => rfl) (by decide +kernel) (fun h10 eh10 => ?_)
  refine ab_aload_n (pc := 49) (n := 0) (i := 0) (j := 0) (by decide +kernel) rfl rfl ?_
  refine ab_iconst (pc := 50) (n := -1) (v := (-1 : Int32)) (by decide +kernel) rfl ?_
  refine ab_put (pc := 51) fl_X12_25_12 rfl (fun _ => rfl) (fun _ => rfl) (by decide +kernel) (fun h11 eh11 => ?_)
  refine ab_aload_n (pc := 54) (n := 0) (i := 0) (j := 0) (by decide +kernel) rfl rfl ?_
  refine ab_bipush (pc := 55) (n := 6) (v := nI 6) (by decide +kernel) (by decide) ?_
  refine ab_naI (pc := 57) (B := 6) kw_b5d2f4680e (by decide) (Nat.le_of_ble_eq_true rfl) (Nat.le_of_ble_eq_true rfl) (by decide +kernel) (fun h12 eh12 => ?_)
  refine ab_putF (pc := 59) fl_X12_29_12 rfl rfl (fun _ => rfl) (fun _ => rfl) (by decide +kernel) (fun h13 eh13 => ?_)
  refine ab_aload_n (pc := 62) (n := 0) (i := 0) (j := 0) (by decide +kernel) rfl rfl ?_
  refine ab_bipush (pc := 63) (n := 36) (v := nI 36) (by decide +kernel) (by decide) ?_
  refine ab_naI (pc := 65) (B := 36) kw_b5d2f4680e (by decide) (Nat.le_of_ble_eq_true rfl) (Nat.le_of_ble_eq_true rfl) (by decide +kernel) (fun h14 eh14 => ?_)
  refine ab_putF (pc := 67) fl_X12_32_12 rfl rfl (fun _ => rfl) (fun _ => rfl) (by decide +kernel) (fun h15 eh15 => ?_)
  refine ab_aload_n (pc := 70) (n := 0) (i := 0) (j := 0) (by decide +kernel) rfl rfl ?_
  refine ab_bipush (pc := 71) (n := 10) (v := nI 10) (by decide +kernel) (by decide) ?_
  refine ab_naI (pc := 73) (B := 10) kw_b5d2f4680e (by decide) (Nat.le_of_ble_eq_true rfl) (Nat.le_of_ble_eq_true rfl) (by decide +kernel) (fun h16 eh16 => ?_)
  refine ab_putF (pc := 75) fl_X12_35_12 rfl rfl (fun _ => rfl) (fun _ => rfl) (by decide +kernel) (fun h17 eh17 => ?_)
  refine ab_aload_n (pc := 78) (n := 0) (i := 0) (j := 0) (by decide +kernel) rfl rfl ?_
  refine ab_sipush (pc := 79) (n := 1024) (v := nI 1024) (by decide +kernel) (by decide) ?_
  refine ab_naI (pc := 82) (B := 1024) kw_b5d2f4680e (by decide) (Nat.le_of_ble_eq_true rfl) (Nat.le_of_ble_eq_true rfl) (by decide +kernel) (fun h18 eh18 => ?_)
  refine ab_putF (pc := 84) fl_X12_38_12 rfl rfl (fun _ => rfl) (fun _ => rfl) (by decide +kernel) (fun h19 eh19 => ?_)
  refine ab_aload_n (pc := 87) (n := 0) (i := 0) (j := 0) (by decide +kernel) rfl rfl ?_
  refine ab_bipush (pc := 88) (n := 10) (v := nI 10) (by decide +kernel) (by decide) ?_
  refine ab_naI (pc := 90) (B := 10) kw_b5d2f4680e (by decide) (Nat.le_of_ble_eq_true rfl) (Nat.le_of_ble_eq_true rfl) (by decide +kernel) (fun h20 eh20 => ?_)
  refine ab_putF (pc := 92) fl_X12_41_12 rfl rfl (fun _ => rfl) (fun _ => rfl) (by decide +kernel) (fun h21 eh21 => ?_)
  refine ab_aload_n (pc := 95) (n := 0) (i := 0) (j := 0) (by decide +kernel) rfl rfl ?_
  refine ab_sipush (pc := 96) (n := 10240) (v := nI 10240) (by decide +kernel) (by decide) ?_
  refine ab_naI (pc := 99) (B := 10240) kw_b5d2f4680e (by decide) (Nat.le_of_ble_eq_true rfl) (Nat.le_of_ble_eq_true rfl) (by decide +kernel) (fun h22 eh22 => ?_)
  refine ab_putF (pc := 101) fl_X12_44_12 rfl rfl (fun _ => rfl) (fun _ => rfl) (by decide +kernel) (fun h23 eh23 => ?_)
  refine ab_aload_n (pc := 104) (n := 0) (i := 0) (j := 0) (by decide +kernel) rfl rfl ?_
  refine ab_bipush (pc := 105) (n := 10) (v := nI 10) (by decide +kernel) (by decide) ?_
  refine ab_naI (pc := 107) (B := 10) kw_b5d2f4680e (by decide) (Nat.le_of_ble_eq_true rfl) (Nat.le_of_ble_eq_true rfl) (by decide +kernel) (fun h24 eh24 => ?_)
  refine ab_putF (pc := 109) fl_X12_47_12 rfl rfl (fun _ => rfl) (fun _ => rfl) (by decide +kernel) (fun h25 eh25 => ?_)
  refine ab_aload_n (pc := 112) (n := 0) (i := 0) (j := 0) (by decide +kernel) rfl rfl ?_
  refine ab_getR (pc := 113) fl_X12_7_12 (by decide +kernel) (fun v26 ev26 => ?_)
  refine ab_iconst (pc := 116) (n := 1) (v := nI 1) (by decide +kernel) rfl ?_
  refine ab_iconst (pc := 117) (n := -1) (v := (-1 : Int32)) (by decide +kernel) rfl ?_
  refine ab_iast (pc := 118) (by decide +kernel) (fun h27 eh27 => ?_)
  refine ab_aload_n (pc := 119) (n := 0) (i := 0) (j := 0) (by decide +kernel) rfl rfl ?_
  refine ab_getR (pc := 120) fl_X12_7_12 (by decide +kernel) (fun v28 ev28 => ?_)
  refine ab_iconst (pc := 123) (n := 4) (v := nI 4) (by decide +kernel) rfl ?_
  refine ab_bipush (pc := 124) (n := 6) (v := nI 6) (by decide +kernel) (by decide) ?_
  refine ab_iast (pc := 126) (by decide +kernel) (fun h29 eh29 => ?_)
  refine ab_aload_n (pc := 127) (n := 0) (i := 0) (j := 0) (by decide +kernel) rfl rfl ?_
  refine ab_getR (pc := 128) fl_X12_7_12 (by decide +kernel) (fun v30 ev30 => ?_)
  refine ab_bipush (pc := 131) (n := 9) (v := nI 9) (by decide +kernel) (by decide) ?_
  refine ab_iconst (pc := 133) (n := 1) (v := nI 1) (by decide +kernel) rfl ?_
  refine ab_iast (pc := 134) (by decide +kernel) (fun h31 eh31 => ?_)
  refine ab_iconst (pc := 135) (n := 0) (v := nI 0) (by decide +kernel) rfl ?_
  refine ab_istore_n (pc := 136) (n := 1) (i := 1) (lv' := [(0, .ref x0), (1, .int (nI 0))]) (by decide +kernel) rfl (Nat.le_of_ble_eq_true rfl) rfl rfl ?_
  refine lX12_init_137 hl x0 F (nI 0) h31
set_option maxRecDepth 100000 in
set_option maxHeartbeats 4000000 in
theorem okX12_init {l : Launch} (hl : l.stackTraces = false) {F : Nat} {x0 : Nat} {h : ab_H} {y : ab_H} (e : fX12_init F x0 h = some y) : ab_Met l mX12_init [.ref x0] h (.inl none, y) := ab_ofS (io := (fun y : ab_H => ((.inl none, y) : ab_R × ab_H))) (x := y) hl (by decide) rfl (Nat.le_of_ble_eq_true rfl) (wX12_init hl F x0 h) e
