/-! ===== reference (by program, decomp.py) ===== -/
def mX12_personLine : ab_M := (yX12_personLine, cX12_personLine, 6, none, { frames := 4, cells := 0, slots := 0, locals := 85 })
theorem iX12_personLine : ab_MI mX12_personLine 1 := ⟨kw_1d5d0e0a44, kw_30b3f7d7c6, by decide +kernel⟩
theorem lk_X12_100_12 : ab_LV RX12 100 12 mX12_has 3 := ⟨RX12, rfl, iX12_has, kw_54cf38ce2e, kw_df0a97be28, kw_13dc32b385⟩
theorem lk_X12_97_12 : ab_LV RX12 97 12 mX12_eight 0 := ⟨RX12, rfl, iX12_eight, kw_0bd1e7d829, kw_9a506d17bc, kw_0fd2c52651⟩
def fX12_personLine_95 (F : Nat) (x0 : Nat) (x4 : Int32) : Nat → Int32 → ab_H → Option ab_H
  | 0, _, _ => none
  | n + 1, x5, h => (if x5 < (nI 10) then ab_bd (ab_fr h x0 12 1) fun v17 => ab_bd (ab_iw 0 h v17 (((nI 72) + ((nI 10) * x4)) + x5) x5) fun h18 => ab_bd (ab_fr h18 x0 12 1) fun v19 => ab_bd (ab_iw 0 h18 v19 (((nI 172) + ((nI 10) * x4)) + x5) (nI 0)) fun h20 => ab_bd (ab_fr h20 x0 12 1) fun v21 => ab_bd (ab_iw 0 h20 v21 (((nI 172) + ((nI 10) * x5)) + x4) (nI 0)) fun h22 => fX12_personLine_95 F x0 x4 n (x5 + nI 1) h22 else ab_bd (ab_fr h x0 12 1) fun v23 => ab_bd (ab_ia 0 h v23 (nI 3)) fun v24 => ab_bd (ab_iw 0 h v23 (nI 3) (v24 + (nI 1))) fun h25 => some h25)
def fX12_personLine (F : Nat) (x0 : Nat) (x1 : Int32) (h : ab_H) : Option ab_H := ab_bd (ab_fr h x0 12 1) fun v1 => ab_bd (ab_ia 0 h v1 (nI 3)) fun v2 => ab_jn (κ := ab_H → Option ab_H) (fun (h3 : ab_H) => ab_ck (ab_io h3 x0 12 = true) (ab_bd (fX12_eight F x0 h3) fun v4 => ab_ck (ab_io v4.2 x0 12 = true) (ab_bd (fX12_eight F x0 v4.2) fun v5 => ab_bd (ab_fi v5.2 x0 12 12) fun v6 => (if v6 = (-1 : Int32) then ab_bd (ab_fr v5.2 x0 12 1) fun v8 => ab_bd (ab_ia 0 v5.2 v8 (nI 3)) fun v9 => ab_ck (ab_io v5.2 x0 12 = true) (ab_bd (fX12_has x0 v9 (nI 0) v4.1 v5.2) fun h10 => ab_ck (ab_io h10 x0 12 = true) (ab_bd (fX12_has x0 v9 (nI 1) v5.1 h10) fun h11 => ab_ck (ab_io h11 x0 12 = true) (ab_bd (fX12_has x0 v9 (nI 2) v9 h11) fun h12 => ab_ck (ab_io h12 x0 12 = true) (ab_bd (fX12_has x0 v9 (nI 3) (-1 : Int32) h12) fun h13 => ab_ck (ab_io h13 x0 12 = true) (ab_bd (fX12_has x0 v9 (nI 4) (-1 : Int32) h13) fun h14 => ab_ck (ab_io h14 x0 12 = true) (ab_bd (fX12_has x0 v9 (nI 5) (nI 0) h14) fun h15 => fX12_personLine_95 F x0 v9 F (nI 0) h15)))))) else some v5.2)))) fun j26 => (if v2 = (nI 10) then ab_ck (ab_io h x0 12 = true) (ab_bd (fX12_wrong x0 x1 h) fun h28 => j26 h28) else j26 h)
set_option maxRecDepth 100000 in
set_option maxHeartbeats 4000000 in
theorem lX12_personLine_95 {l : Launch} (hl : l.stackTraces = false) (F : Nat) (x0 : Nat) (x4 : Int32) : ∀ (n : Nat) (x5 : Int32) (h : ab_H), ab_S l mX12_personLine (fun y : ab_H => ((.inl none, y) : ab_R × ab_H)) 0 0 (fX12_personLine_95 F x0 x4 n x5 h) 95 [(0, .ref x0), (4, .int x4), (5, .int x5)] [] h := by
  intro n
  induction n with
  | zero =>
    intro x5 h
    exact ab_none
  | succ n ih =>
    intro x5 h
    rw [fX12_personLine_95]
    refine ab_iload (pc := 95) (i := 5) (j := 2) (by decide +kernel) rfl ?_
    refine ab_bipush (pc := 97) (n := 10) (v := nI 10) (by decide +kernel) (by decide) ?_
    refine ab_icmp_ge (off := 63) (pc := 99) (tgt := 162) (by decide +kernel) (by decide) (fun g16 => ?_) (fun g16 => ?_)
    · refine ab_aload_n (pc := 102) (n := 0) (i := 0) (j := 0) (by decide +kernel) rfl rfl ?_
      refine ab_getR (pc := 103) fl_X12_7_12 (by decide +kernel) (fun v17 ev17 => ?_)
      refine ab_bipush (pc := 106) (n := 72) (v := nI 72) (by decide +kernel) (by decide) ?_
      refine ab_bipush (pc := 108) (n := 10) (v := nI 10) (by decide +kernel) (by decide) ?_
      refine ab_iload (pc := 110) (i := 4) (j := 1) (by decide +kernel) rfl ?_
      refine ab_imul (pc := 112) (by decide +kernel) ?_
      refine ab_iadd (pc := 113) (by decide +kernel) ?_
      refine ab_iload (pc := 114) (i := 5) (j := 2) (by decide +kernel) rfl ?_
      refine ab_iadd (pc := 116) (by decide +kernel) ?_
      refine ab_iload (pc := 117) (i := 5) (j := 2) (by decide +kernel) rfl ?_
      refine ab_iast (pc := 119) (by decide +kernel) (fun h18 eh18 => ?_)
      refine ab_aload_n (pc := 120) (n := 0) (i := 0) (j := 0) (by decide +kernel) rfl rfl ?_
      refine ab_getR (pc := 121) fl_X12_7_12 (by decide +kernel) (fun v19 ev19 => ?_)
      refine ab_sipush (pc := 124) (n := 172) (v := nI 172) (by decide +kernel) (by decide) ?_
      refine ab_bipush (pc := 127) (n := 10) (v := nI 10) (by decide +kernel) (by decide) ?_
      refine ab_iload (pc := 129) (i := 4) (j := 1) (by decide +kernel) rfl ?_
      refine ab_imul (pc := 131) (by decide +kernel) ?_
      refine ab_iadd (pc := 132) (by decide +kernel) ?_
      refine ab_iload (pc := 133) (i := 5) (j := 2) (by decide +kernel) rfl ?_
      refine ab_iadd (pc := 135) (by decide +kernel) ?_
      refine ab_iconst (pc := 136) (n := 0) (v := nI 0) (by decide +kernel) rfl ?_
      refine ab_iast (pc := 137) (by decide +kernel) (fun h20 eh20 => ?_)
      refine ab_aload_n (pc := 138) (n := 0) (i := 0) (j := 0) (by decide +kernel) rfl rfl ?_
      refine ab_getR (pc := 139) fl_X12_7_12 (by decide +kernel) (fun v21 ev21 => ?_)
      refine ab_sipush (pc := 142) (n := 172) (v := nI 172) (by decide +kernel) (by decide) ?_
      refine ab_bipush (pc := 145) (n := 10) (v := nI 10) (by decide +kernel) (by decide) ?_
      refine ab_iload (pc := 147) (i := 5) (j := 2) (by decide +kernel) rfl ?_
      refine ab_imul (pc := 149) (by decide +kernel) ?_
      refine ab_iadd (pc := 150) (by decide +kernel) ?_
      refine ab_iload (pc := 151) (i := 4) (j := 1) (by decide +kernel) rfl ?_
      refine ab_iadd (pc := 153) (by decide +kernel) ?_
      refine ab_iconst (pc := 154) (n := 0) (v := nI 0) (by decide +kernel) rfl ?_
      refine ab_iast (pc := 155) (by decide +kernel) (fun h22 eh22 => ?_)
      refine ab_iinc (pc := 156) (i := 5) (n := 1) (j := 2) (d := nI 1) (lv' := [(0, .ref x0), (4, .int x4), (5, .int (x5 + nI 1))]) (by decide +kernel) rfl rfl (by decide) rfl rfl ?_
      refine ab_goto (pc := 159) (off := (-64)) (tgt := 95) (by decide +kernel) (by decide) ?_
      exact ih (x5 + nI 1) h22
    · refine ab_aload_n (pc := 162) (n := 0) (i := 0) (j := 0) (by decide +kernel) rfl rfl ?_
      refine ab_getR (pc := 163) fl_X12_7_12 (by decide +kernel) (fun v23 ev23 => ?_)
      refine ab_iconst (pc := 166) (n := 3) (v := nI 3) (by decide +kernel) rfl ?_
      refine ab_dup2 (pc := 167) (by decide +kernel) rfl rfl ?_
      refine ab_iald (pc := 168) (by decide +kernel) (fun v24 ev24 => ?_)
      refine ab_iconst (pc := 169) (n := 1) (v := nI 1) (by decide +kernel) rfl ?_
      refine ab_iadd (pc := 170) (by decide +kernel) ?_
      refine ab_iast (pc := 171) (by decide +kernel) (fun h25 eh25 => ?_)
      exact ab_vret (pc := 172) (by decide +kernel) rfl rfl (Nat.zero_le _) (Nat.zero_le _)
set_option maxRecDepth 100000 in
set_option maxHeartbeats 4000000 in
theorem wX12_personLine {l : Launch} (hl : l.stackTraces = false) (F : Nat) (x0 : Nat) (x1 : Int32) (h : ab_H) : ab_S l mX12_personLine (fun y : ab_H => ((.inl none, y) : ab_R × ab_H)) 0 0 (fX12_personLine F x0 x1 h) 0 [(0, .ref x0), (1, .int x1)] [] h := by
  unfold fX12_personLine
  refine ab_aload_n (pc := 0) (n := 0) (i := 0) (j := 0) (by decide +kernel) rfl rfl ?_
  refine ab_getR (pc := 1) fl_X12_7_12 (by decide +kernel) (fun v1 ev1 => ?_)
  refine ab_iconst (pc := 4) (n := 3) (v := nI 3) (by decide +kernel) rfl ?_
  refine ab_iald (pc := 5) (by decide +kernel) (fun v2 ev2 => ?_)
  refine ab_bipush (pc := 6) (n := 10) (v := nI 10) (by decide +kernel) (by decide) ?_
  refine ab_jr (fun k9 : ab_H → Option ab_H => ∀ (h3 : ab_H), ab_S l mX12_personLine (fun y : ab_H => ((.inl none, y) : ab_R × ab_H)) 0 0 (k9 h3) 16 [(0, .ref x0)] [] h3) ?_ (fun j26 hj26 => ?_)
  · intro h3
    refine ab_aload_n (pc := 16) (n := 0) (i := 0) (j := 0) (by decide +kernel) rfl rfl ?_
    refine ab_callVj (As := []) (st := []) (pc := 17) lk_X12_97_12 rfl rfl rfl (by decide) (by decide) (Nat.le_of_ble_eq_true rfl) (by decide +kernel) (fun y9 e9 => okX12_eight hl (F := F) e9) (fun v4 ev4 => ?_)
    refine ab_istore_n (pc := 20) (n := 2) (i := 2) (lv' := [(0, .ref x0), (2, .int v4.1)]) (by decide +kernel) rfl (by decide) rfl rfl ?_
    refine ab_aload_n (pc := 21) (n := 0) (i := 0) (j := 0) (by decide +kernel) rfl rfl ?_
    refine ab_callVj (As := []) (st := []) (pc := 22) lk_X12_97_12 rfl rfl rfl (by decide) (by decide) (Nat.le_of_ble_eq_true rfl) (by decide +kernel) (fun y9 e9 => okX12_eight hl (F := F) e9) (fun v5 ev5 => ?_)
    refine ab_istore_n (pc := 25) (n := 3) (i := 3) (lv' := [(0, .ref x0), (2, .int v4.1), (3, .int v5.1)]) (by decide +kernel) rfl (by decide) rfl rfl ?_
    refine ab_aload_n (pc := 26) (n := 0) (i := 0) (j := 0) (by decide +kernel) rfl rfl ?_
    refine ab_getI (pc := 27) fl_X12_25_12 (by decide +kernel) (fun v6 ev6 => ?_)
    refine ab_iconst (pc := 30) (n := -1) (v := (-1 : Int32)) (by decide +kernel) rfl ?_
    refine ab_icmp_eq (off := 4) (pc := 31) (tgt := 35) (by decide +kernel) (by decide) (fun g7 => ?_) (fun g7 => ?_)
    · refine ab_aload_n (pc := 35) (n := 0) (i := 0) (j := 0) (by decide +kernel) rfl rfl ?_
      refine ab_getR (pc := 36) fl_X12_7_12 (by decide +kernel) (fun v8 ev8 => ?_)
      refine ab_iconst (pc := 39) (n := 3) (v := nI 3) (by decide +kernel) rfl ?_
      refine ab_iald (pc := 40) (by decide +kernel) (fun v9 ev9 => ?_)
      refine ab_istore (pc := 41) (i := 4) (lv' := [(0, .ref x0), (2, .int v4.1), (3, .int v5.1), (4, .int v9)]) (by decide +kernel) (by decide) rfl rfl ?_
      refine ab_aload_n (pc := 43) (n := 0) (i := 0) (j := 0) (by decide +kernel) rfl rfl ?_
      refine ab_iload (pc := 44) (i := 4) (j := 3) (by decide +kernel) rfl ?_
      refine ab_iconst (pc := 46) (n := 0) (v := nI 0) (by decide +kernel) rfl ?_
      refine ab_iload_n (pc := 47) (n := 2) (i := 2) (j := 1) (by decide +kernel) rfl rfl ?_
      refine ab_callVw (As := [.int v9, .int (nI 0), .int v4.1]) (st := []) (pc := 48) lk_X12_100_12 rfl rfl rfl (by decide) (by decide) (Nat.le_of_ble_eq_true rfl) (by decide +kernel) (fun y9 e9 => okX12_has hl e9) (fun h10 eh10 => ?_)
      refine ab_aload_n (pc := 51) (n := 0) (i := 0) (j := 0) (by decide +kernel) rfl rfl ?_
      refine ab_iload (pc := 52) (i := 4) (j := 3) (by decide +kernel) rfl ?_
      refine ab_iconst (pc := 54) (n := 1) (v := nI 1) (by decide +kernel) rfl ?_
      refine ab_iload_n (pc := 55) (n := 3) (i := 3) (j := 2) (by decide +kernel) rfl rfl ?_
      refine ab_callVw (As := [.int v9, .int (nI 1), .int v5.1]) (st := []) (pc := 56) lk_X12_100_12 rfl rfl rfl (by decide) (by decide) (Nat.le_of_ble_eq_true rfl) (by decide +kernel) (fun y9 e9 => okX12_has hl e9) (fun h11 eh11 => ?_)
      refine ab_aload_n (pc := 59) (n := 0) (i := 0) (j := 0) (by decide +kernel) rfl rfl ?_
      refine ab_iload (pc := 60) (i := 4) (j := 3) (by decide +kernel) rfl ?_
      refine ab_iconst (pc := 62) (n := 2) (v := nI 2) (by decide +kernel) rfl ?_
      refine ab_iload (pc := 63) (i := 4) (j := 3) (by decide +kernel) rfl ?_
      refine ab_callVw (As := [.int v9, .int (nI 2), .int v9]) (st := []) (pc := 65) lk_X12_100_12 rfl rfl rfl (by decide) (by decide) (Nat.le_of_ble_eq_true rfl) (by decide +kernel) (fun y9 e9 => okX12_has hl e9) (fun h12 eh12 => ?_)
      refine ab_aload_n (pc := 68) (n := 0) (i := 0) (j := 0) (by decide +kernel) rfl rfl ?_
      refine ab_iload (pc := 69) (i := 4) (j := 3) (by decide +kernel) rfl ?_
      refine ab_iconst (pc := 71) (n := 3) (v := nI 3) (by decide +kernel) rfl ?_
      refine ab_iconst (pc := 72) (n := -1) (v := (-1 : Int32)) (by decide +kernel) rfl ?_
      refine ab_callVw (As := [.int v9, .int (nI 3), .int (-1 : Int32)]) (st := []) (pc := 73) lk_X12_100_12 rfl rfl rfl (by decide) (by decide) (Nat.le_of_ble_eq_true rfl) (by decide +kernel) (fun y9 e9 => okX12_has hl e9) (fun h13 eh13 => ?_)
      refine ab_aload_n (pc := 76) (n := 0) (i := 0) (j := 0) (by decide +kernel) rfl rfl ?_
      refine ab_iload (pc := 77) (i := 4) (j := 3) (by decide +kernel) rfl ?_
      refine ab_iconst (pc := 79) (n := 4) (v := nI 4) (by decide +kernel) rfl ?_
      refine ab_iconst (pc := 80) (n := -1) (v := (-1 : Int32)) (by decide +kernel) rfl ?_
      refine ab_callVw (As := [.int v9, .int (nI 4), .int (-1 : Int32)]) (st := []) (pc := 81) lk_X12_100_12 rfl rfl rfl (by decide) (by decide) (Nat.le_of_ble_eq_true rfl) (by decide +kernel) (fun y9 e9 => okX12_has hl e9) (fun h14 eh14 => ?_)
      refine ab_aload_n (pc := 84) (n := 0) (i := 0) (j := 0) (by decide +kernel) rfl rfl ?_
      refine ab_iload (pc := 85) (i := 4) (j := 3) (by decide +kernel) rfl ?_
      refine ab_iconst (pc := 87) (n := 5) (v := nI 5) (by decide +kernel) rfl ?_
      refine ab_iconst (pc := 88) (n := 0) (v := nI 0) (by decide +kernel) rfl ?_
      refine ab_callVw (As := [.int v9, .int (nI 5), .int (nI 0)]) (st := []) (pc := 89) lk_X12_100_12 rfl rfl rfl (by decide) (by decide) (Nat.le_of_ble_eq_true rfl) (by decide +kernel) (fun y9 e9 => okX12_has hl e9) (fun h15 eh15 => ?_)
      refine ab_iconst (pc := 92) (n := 0) (v := nI 0) (by decide +kernel) rfl ?_
      refine ab_istore (pc := 93) (i := 5) (lv' := [(0, .ref x0), (2, .int v4.1), (3, .int v5.1), (4, .int v9), (5, .int (nI 0))]) (by decide +kernel) (by decide) rfl rfl ?_
      refine ab_few [0, 3, 4] (lv' := [(0, .ref x0), (4, .int v9), (5, .int (nI 0))]) rfl ?_
      refine lX12_personLine_95 hl F x0 v9 F (nI 0) h15
    · exact ab_vret (pc := 34) (by decide +kernel) rfl rfl (Nat.zero_le _) (Nat.zero_le _)
  · refine ab_icmp_ne (off := 8) (pc := 8) (tgt := 16) (by decide +kernel) (by decide) (fun g27 => ?_) (fun g27 => ?_)
    · refine ab_aload_n (pc := 11) (n := 0) (i := 0) (j := 0) (by decide +kernel) rfl rfl ?_
      refine ab_iload_n (pc := 12) (n := 1) (i := 1) (j := 1) (by decide +kernel) rfl rfl ?_
      refine ab_callVw (As := [.int x1]) (st := []) (pc := 13) lk_X12_93_12 rfl rfl rfl (by decide) (by decide) (Nat.le_of_ble_eq_true rfl) (by decide +kernel) (fun y9 e9 => okX12_wrong hl e9) (fun h28 eh28 => ?_)
      refine ab_few [0] (lv' := [(0, .ref x0)]) rfl ?_
      exact hj26 h28
    · refine ab_few [0] (lv' := [(0, .ref x0)]) rfl ?_
      exact hj26 h
set_option maxRecDepth 100000 in
set_option maxHeartbeats 4000000 in
theorem okX12_personLine {l : Launch} (hl : l.stackTraces = false) {F : Nat} {x0 : Nat} {x1 : Int32} {h : ab_H} {y : ab_H} (e : fX12_personLine F x0 x1 h = some y) : ab_Met l mX12_personLine [.ref x0, .int x1] h (.inl none, y) := ab_ofS (io := (fun y : ab_H => ((.inl none, y) : ab_R × ab_H))) (x := y) hl (by decide) rfl (Nat.le_of_ble_eq_true rfl) (wX12_personLine hl F x0 x1 h) e
def mX12_wishLine : ab_M := (yX12_wishLine, cX12_wishLine, 8, none, { frames := 4, cells := 0, slots := 0, locals := 85 })
theorem iX12_wishLine : ab_MI mX12_wishLine 0 := ⟨kw_60f30f8193, kw_30b3f7d7c6, by decide +kernel⟩
theorem lk_X12_104_12 : ab_LV RX12 104 12 mX12_figures 2 := ⟨RX12, rfl, iX12_figures, kw_9125871b6c, kw_bd09a27232, kw_ce1d23828d⟩
theorem lk_X12_107 : ab_LS RX12 107 mX12_isOf 2 := ⟨iX12_isOf, kw_cc2604b9c2, kw_ff615fe2fa⟩
theorem lk_X12_111_12 : ab_LV RX12 111 12 mX12_isFigure 0 := ⟨RX12, rfl, iX12_isFigure, kw_1ee35cd06e, kw_8bab8cbbb8, kw_29967af9e1⟩
def fX12_wishLine_42 (F : Nat) (x0 : Nat) (x5 : Int32) (k130 : Int32 → Int32 → ab_H → Option ab_H) : Nat → Int32 → Int32 → Int32 → ab_H → Option ab_H
  | 0, _, _, _, _ => none
  | n + 1, x2, x3, x4, h => (if x4 = 0 then k130 x2 x3 h else ab_ck (ab_io h x0 12 = true) (ab_bd (fX12_place F x0 h) fun v7 => ab_bd (ab_fr v7.2 x0 12 1) fun v8 => ab_bd (ab_ia 0 v7.2 v8 (nI 3)) fun v9 => ab_ck (ab_io v7.2 x0 12 = true) (ab_bd (fX12_figures F x0 (nI 0) (v9 - (nI 1)) v7.2) fun v10 => ab_bd (ab_fi v10.2 x0 12 12) fun v11 => ab_jn (κ := ab_H → Option ab_H) (fun (h12 : ab_H) => ab_bd (ab_fi h12 x0 12 12) fun v13 => (if v13 = (-1 : Int32) then ab_bd (ab_fr h12 x0 12 1) fun v15 => ab_bd (ab_iw 0 h12 v15 (x5 + x3) v10.1) fun h16 => ab_ck (ab_io h16 x0 12 = true) (ab_bd (fX12_isFigure F x0 h16) fun v17 => fX12_wishLine_42 F x0 x5 k130 n (x2 ||| ((nI 1) <<< (v10.1 &&& 31))) (x3 + nI 1) v17.1 v17.2) else some h12)) fun j18 => (if v11 = (-1 : Int32) then ab_bd (fX12_isOf x2 v10.1 v10.2) fun v20 => (if v20 = 0 then j18 v10.2 else ab_ck (ab_io v10.2 x0 12 = true) (ab_bd (fX12_wrong x0 v7.1 v10.2) fun h22 => j18 h22)) else j18 v10.2))))
def fX12_wishLine_142 (F : Nat) (x0 : Nat) (x2 : Int32) (x5 : Int32) : Nat → Int32 → Int32 → ab_H → Option ab_H
  | 0, _, _, _ => none
  | n + 1, x3, x6, h => (if x6 < (nI 10) then ab_bd (fX12_isOf x2 x6 h) fun v29 => (if v29 = 0 then ab_bd (ab_fr h x0 12 1) fun v31 => ab_bd (ab_iw 0 h v31 (x5 + x3) x6) fun h32 => fX12_wishLine_142 F x0 x2 x5 n (x3 + nI 1) (x6 + nI 1) h32 else fX12_wishLine_142 F x0 x2 x5 n x3 (x6 + nI 1) h) else some h)
def fX12_wishLine (F : Nat) (x0 : Nat) (h : ab_H) : Option ab_H := ab_bd (ab_fr h x0 12 1) fun v1 => ab_bd (ab_ia 0 h v1 (nI 3)) fun v2 => ab_ck (ab_io h x0 12 = true) (ab_bd (fX12_figures F x0 (nI 0) (v2 - (nI 1)) h) fun v3 => ab_bd (ab_fi v3.2 x0 12 12) fun v4 => (if v4 = (-1 : Int32) then fX12_wishLine_42 F x0 ((nI 72) + ((nI 10) * v3.1)) (fun (z23 : Int32) (z24 : Int32) (h25 : ab_H) => ab_bd (ab_fi h25 x0 12 12) fun v26 => (if v26 = (-1 : Int32) then fX12_wishLine_142 F x0 z23 ((nI 72) + ((nI 10) * v3.1)) F z24 (nI 0) h25 else some h25)) F (nI 0) (nI 0) (nI 1) v3.2 else fX12_wishLine_42 F x0 ((nI 72) + ((nI 10) * v3.1)) (fun (z33 : Int32) (z34 : Int32) (h35 : ab_H) => ab_bd (ab_fi h35 x0 12 12) fun v36 => (if v36 = (-1 : Int32) then fX12_wishLine_142 F x0 z33 ((nI 72) + ((nI 10) * v3.1)) F z34 (nI 0) h35 else some h35)) F (nI 0) (nI 0) (nI 0) v3.2))
set_option maxRecDepth 100000 in
set_option maxHeartbeats 4000000 in
theorem lX12_wishLine_42 {l : Launch} (hl : l.stackTraces = false) (F : Nat) (x0 : Nat) (x5 : Int32) {k130 : Int32 → Int32 → ab_H → Option ab_H} (hk130 : ∀ (x2 : Int32), ∀ (x3 : Int32), ∀ (h : ab_H), ab_S l mX12_wishLine (fun y : ab_H => ((.inl none, y) : ab_R × ab_H)) 0 0 (k130 x2 x3 h) 130 [(0, .ref x0), (2, .int x2), (3, .int x3), (5, .int x5)] [] h) : ∀ (n : Nat) (x2 : Int32) (x3 : Int32) (x4 : Int32) (h : ab_H), ab_S l mX12_wishLine (fun y : ab_H => ((.inl none, y) : ab_R × ab_H)) 0 0 (fX12_wishLine_42 F x0 x5 k130 n x2 x3 x4 h) 42 [(0, .ref x0), (2, .int x2), (3, .int x3), (4, .int x4), (5, .int x5)] [] h := by
  intro n
  induction n with
  | zero =>
    intro x2 x3 x4 h
    exact ab_none
  | succ n ih =>
    intro x2 x3 x4 h
    rw [fX12_wishLine_42]
    refine ab_iload (pc := 42) (i := 4) (j := 3) (by decide +kernel) rfl ?_
    refine ab_if_eq (off := 86) (pc := 44) (tgt := 130) (by decide +kernel) (by decide) (fun g6 => ?_) (fun g6 => ?_)
    · refine ab_few [0, 1, 2, 4] (lv' := [(0, .ref x0), (2, .int x2), (3, .int x3), (5, .int x5)]) rfl ?_
      exact hk130 x2 x3 h
    · refine ab_aload_n (pc := 47) (n := 0) (i := 0) (j := 0) (by decide +kernel) rfl rfl ?_
      refine ab_callVj (As := []) (st := []) (pc := 48) lk_X12_90_12 rfl rfl rfl (by decide) (by decide) (Nat.le_of_ble_eq_true rfl) (by decide +kernel) (fun y9 e9 => okX12_place hl (F := F) e9) (fun v7 ev7 => ?_)
      refine ab_istore (pc := 51) (i := 6) (lv' := [(0, .ref x0), (2, .int x2), (3, .int x3), (4, .int x4), (5, .int x5), (6, .int v7.1)]) (by decide +kernel) (by decide) rfl rfl ?_
      refine ab_aload_n (pc := 53) (n := 0) (i := 0) (j := 0) (by decide +kernel) rfl rfl ?_
      refine ab_iconst (pc := 54) (n := 0) (v := nI 0) (by decide +kernel) rfl ?_
      refine ab_aload_n (pc := 55) (n := 0) (i := 0) (j := 0) (by decide +kernel) rfl rfl ?_
      refine ab_getR (pc := 56) fl_X12_7_12 (by decide +kernel) (fun v8 ev8 => ?_)
      refine ab_iconst (pc := 59) (n := 3) (v := nI 3) (by decide +kernel) rfl ?_
      refine ab_iald (pc := 60) (by decide +kernel) (fun v9 ev9 => ?_)
      refine ab_iconst (pc := 61) (n := 1) (v := nI 1) (by decide +kernel) rfl ?_
      refine ab_isub (pc := 62) (by decide +kernel) ?_
      refine ab_callVj (As := [.int (nI 0), .int (v9 - (nI 1))]) (st := []) (pc := 63) lk_X12_104_12 rfl rfl rfl (by decide) (by decide) (Nat.le_of_ble_eq_true rfl) (by decide +kernel) (fun y9 e9 => okX12_figures hl (F := F) e9) (fun v10 ev10 => ?_)
      refine ab_istore (pc := 66) (i := 7) (lv' := [(0, .ref x0), (2, .int x2), (3, .int x3), (4, .int x4), (5, .int x5), (6, .int v7.1), (7, .int v10.1)]) (by decide +kernel) (by decide) rfl rfl ?_
      refine ab_aload_n (pc := 68) (n := 0) (i := 0) (j := 0) (by decide +kernel) rfl rfl ?_
      refine ab_getI (pc := 69) fl_X12_25_12 (by decide +kernel) (fun v11 ev11 => ?_)
      refine ab_iconst (pc := 72) (n := -1) (v := (-1 : Int32)) (by decide +kernel) rfl ?_
      refine ab_jr (fun k9 : ab_H → Option ab_H => ∀ (h12 : ab_H), ab_S l mX12_wishLine (fun y : ab_H => ((.inl none, y) : ab_R × ab_H)) 0 0 (k9 h12) 91 [(0, .ref x0), (2, .int x2), (3, .int x3), (5, .int x5), (7, .int v10.1)] [] h12) ?_ (fun j18 hj18 => ?_)
      · intro h12
        refine ab_aload_n (pc := 91) (n := 0) (i := 0) (j := 0) (by decide +kernel) rfl rfl ?_
        refine ab_getI (pc := 92) fl_X12_25_12 (by decide +kernel) (fun v13 ev13 => ?_)
        refine ab_iconst (pc := 95) (n := -1) (v := (-1 : Int32)) (by decide +kernel) rfl ?_
        refine ab_icmp_eq (off := 4) (pc := 96) (tgt := 100) (by decide +kernel) (by decide) (fun g14 => ?_) (fun g14 => ?_)
        · refine ab_iload_n (pc := 100) (n := 2) (i := 2) (j := 1) (by decide +kernel) rfl rfl ?_
          refine ab_iconst (pc := 101) (n := 1) (v := nI 1) (by decide +kernel) rfl ?_
          refine ab_iload (pc := 102) (i := 7) (j := 4) (by decide +kernel) rfl ?_
          refine ab_ishl (pc := 104) (by decide +kernel) ?_
          refine ab_ior (pc := 105) (by decide +kernel) ?_
          refine ab_istore_n (pc := 106) (n := 2) (i := 2) (lv' := [(0, .ref x0), (2, .int (x2 ||| ((nI 1) <<< (v10.1 &&& 31)))), (3, .int x3), (5, .int x5), (7, .int v10.1)]) (by decide +kernel) rfl (by decide) rfl rfl ?_
          refine ab_aload_n (pc := 107) (n := 0) (i := 0) (j := 0) (by decide +kernel) rfl rfl ?_
          refine ab_getR (pc := 108) fl_X12_7_12 (by decide +kernel) (fun v15 ev15 => ?_)
          refine ab_iload (pc := 111) (i := 5) (j := 3) (by decide +kernel) rfl ?_
          refine ab_iload_n (pc := 113) (n := 3) (i := 3) (j := 2) (by decide +kernel) rfl rfl ?_
          refine ab_iadd (pc := 114) (by decide +kernel) ?_
          refine ab_iload (pc := 115) (i := 7) (j := 4) (by decide +kernel) rfl ?_
          refine ab_iast (pc := 117) (by decide +kernel) (fun h16 eh16 => ?_)
          refine ab_iinc (pc := 118) (i := 3) (n := 1) (j := 2) (d := nI 1) (lv' := [(0, .ref x0), (2, .int (x2 ||| ((nI 1) <<< (v10.1 &&& 31)))), (3, .int (x3 + nI 1)), (5, .int x5), (7, .int v10.1)]) (by decide +kernel) rfl rfl (by decide) rfl rfl ?_
          refine ab_aload_n (pc := 121) (n := 0) (i := 0) (j := 0) (by decide +kernel) rfl rfl ?_
          refine ab_callVj (As := []) (st := []) (pc := 122) lk_X12_111_12 rfl rfl rfl (by decide) (by decide) (Nat.le_of_ble_eq_true rfl) (by decide +kernel) (fun y9 e9 => okX12_isFigure hl (F := F) e9) (fun v17 ev17 => ?_)
          refine ab_istore (pc := 125) (i := 4) (lv' := [(0, .ref x0), (2, .int (x2 ||| ((nI 1) <<< (v10.1 &&& 31)))), (3, .int (x3 + nI 1)), (4, .int v17.1), (5, .int x5), (7, .int v10.1)]) (by decide +kernel) (by decide) rfl rfl ?_
          refine ab_goto (pc := 127) (off := (-85)) (tgt := 42) (by decide +kernel) (by decide) ?_
          refine ab_few [0, 1, 2, 3, 4] (lv' := [(0, .ref x0), (2, .int (x2 ||| ((nI 1) <<< (v10.1 &&& 31)))), (3, .int (x3 + nI 1)), (4, .int v17.1), (5, .int x5)]) rfl ?_
          exact ih (x2 ||| ((nI 1) <<< (v10.1 &&& 31))) (x3 + nI 1) v17.1 v17.2
        · exact ab_vret (pc := 99) (by decide +kernel) rfl rfl (Nat.zero_le _) (Nat.zero_le _)
      · refine ab_icmp_ne (off := 18) (pc := 73) (tgt := 91) (by decide +kernel) (by decide) (fun g19 => ?_) (fun g19 => ?_)
        · refine ab_iload_n (pc := 76) (n := 2) (i := 2) (j := 1) (by decide +kernel) rfl rfl ?_
          refine ab_iload (pc := 77) (i := 7) (j := 6) (by decide +kernel) rfl ?_
          refine ab_callSi (As := [.int x2, .int v10.1]) (st := []) (pc := 79) lk_X12_107 rfl rfl rfl (by decide) (by decide) (Nat.le_of_ble_eq_true rfl) (by decide +kernel) (fun y9 e9 => okX12_isOf hl e9) (fun v20 ev20 => ?_)
          refine ab_if_eq (off := 9) (pc := 82) (tgt := 91) (by decide +kernel) (by decide) (fun g21 => ?_) (fun g21 => ?_)
          · refine ab_few [0, 1, 2, 4, 6] (lv' := [(0, .ref x0), (2, .int x2), (3, .int x3), (5, .int x5), (7, .int v10.1)]) rfl ?_
            exact hj18 v10.2
          · refine ab_aload_n (pc := 85) (n := 0) (i := 0) (j := 0) (by decide +kernel) rfl rfl ?_
            refine ab_iload (pc := 86) (i := 6) (j := 5) (by decide +kernel) rfl ?_
            refine ab_callVw (As := [.int v7.1]) (st := []) (pc := 88) lk_X12_93_12 rfl rfl rfl (by decide) (by decide) (Nat.le_of_ble_eq_true rfl) (by decide +kernel) (fun y9 e9 => okX12_wrong hl e9) (fun h22 eh22 => ?_)
            refine ab_few [0, 1, 2, 4, 6] (lv' := [(0, .ref x0), (2, .int x2), (3, .int x3), (5, .int x5), (7, .int v10.1)]) rfl ?_
            exact hj18 h22
        · refine ab_few [0, 1, 2, 4, 6] (lv' := [(0, .ref x0), (2, .int x2), (3, .int x3), (5, .int x5), (7, .int v10.1)]) rfl ?_
          exact hj18 v10.2
set_option maxRecDepth 100000 in
set_option maxHeartbeats 4000000 in
theorem lX12_wishLine_142 {l : Launch} (hl : l.stackTraces = false) (F : Nat) (x0 : Nat) (x2 : Int32) (x5 : Int32) : ∀ (n : Nat) (x3 : Int32) (x6 : Int32) (h : ab_H), ab_S l mX12_wishLine (fun y : ab_H => ((.inl none, y) : ab_R × ab_H)) 0 0 (fX12_wishLine_142 F x0 x2 x5 n x3 x6 h) 142 [(0, .ref x0), (2, .int x2), (3, .int x3), (5, .int x5), (6, .int x6)] [] h := by
  intro n
  induction n with
  | zero =>
    intro x3 x6 h
    exact ab_none
  | succ n ih =>
    intro x3 x6 h
    rw [fX12_wishLine_142]
    refine ab_iload (pc := 142) (i := 6) (j := 4) (by decide +kernel) rfl ?_
    refine ab_bipush (pc := 144) (n := 10) (v := nI 10) (by decide +kernel) (by decide) ?_
    refine ab_icmp_ge (off := 35) (pc := 146) (tgt := 181) (by decide +kernel) (by decide) (fun g28 => ?_) (fun g28 => ?_)
    · refine ab_iload_n (pc := 149) (n := 2) (i := 2) (j := 1) (by decide +kernel) rfl rfl ?_
      refine ab_iload (pc := 150) (i := 6) (j := 4) (by decide +kernel) rfl ?_
      refine ab_callSi (As := [.int x2, .int x6]) (st := []) (pc := 152) lk_X12_107 rfl rfl rfl (by decide) (by decide) (Nat.le_of_ble_eq_true rfl) (by decide +kernel) (fun y9 e9 => okX12_isOf hl e9) (fun v29 ev29 => ?_)
      refine ab_if_eq (off := 6) (pc := 155) (tgt := 161) (by decide +kernel) (by decide) (fun g30 => ?_) (fun g30 => ?_)
      · refine ab_aload_n (pc := 161) (n := 0) (i := 0) (j := 0) (by decide +kernel) rfl rfl ?_
        refine ab_getR (pc := 162) fl_X12_7_12 (by decide +kernel) (fun v31 ev31 => ?_)
        refine ab_iload (pc := 165) (i := 5) (j := 3) (by decide +kernel) rfl ?_
        refine ab_iload_n (pc := 167) (n := 3) (i := 3) (j := 2) (by decide +kernel) rfl rfl ?_
        refine ab_iadd (pc := 168) (by decide +kernel) ?_
        refine ab_iload (pc := 169) (i := 6) (j := 4) (by decide +kernel) rfl ?_
        refine ab_iast (pc := 171) (by decide +kernel) (fun h32 eh32 => ?_)
        refine ab_iinc (pc := 172) (i := 3) (n := 1) (j := 2) (d := nI 1) (lv' := [(0, .ref x0), (2, .int x2), (3, .int (x3 + nI 1)), (5, .int x5), (6, .int x6)]) (by decide +kernel) rfl rfl (by decide) rfl rfl ?_
        refine ab_iinc (pc := 175) (i := 6) (n := 1) (j := 4) (d := nI 1) (lv' := [(0, .ref x0), (2, .int x2), (3, .int (x3 + nI 1)), (5, .int x5), (6, .int (x6 + nI 1))]) (by decide +kernel) rfl rfl (by decide) rfl rfl ?_
        refine ab_goto (pc := 178) (off := (-36)) (tgt := 142) (by decide +kernel) (by decide) ?_
        exact ih (x3 + nI 1) (x6 + nI 1) h32
      · refine ab_goto (pc := 158) (off := 17) (tgt := 175) (by decide +kernel) (by decide) ?_
        refine ab_iinc (pc := 175) (i := 6) (n := 1) (j := 4) (d := nI 1) (lv' := [(0, .ref x0), (2, .int x2), (3, .int x3), (5, .int x5), (6, .int (x6 + nI 1))]) (by decide +kernel) rfl rfl (by decide) rfl rfl ?_
        refine ab_goto (pc := 178) (off := (-36)) (tgt := 142) (by decide +kernel) (by decide) ?_
        exact ih x3 (x6 + nI 1) h
    · exact ab_vret (pc := 181) (by decide +kernel) rfl rfl (Nat.zero_le _) (Nat.zero_le _)
set_option maxRecDepth 100000 in
set_option maxHeartbeats 4000000 in
theorem wX12_wishLine {l : Launch} (hl : l.stackTraces = false) (F : Nat) (x0 : Nat) (h : ab_H) : ab_S l mX12_wishLine (fun y : ab_H => ((.inl none, y) : ab_R × ab_H)) 0 0 (fX12_wishLine F x0 h) 0 [(0, .ref x0)] [] h := by
  unfold fX12_wishLine
  refine ab_aload_n (pc := 0) (n := 0) (i := 0) (j := 0) (by decide +kernel) rfl rfl ?_
  refine ab_iconst (pc := 1) (n := 0) (v := nI 0) (by decide +kernel) rfl ?_
  refine ab_aload_n (pc := 2) (n := 0) (i := 0) (j := 0) (by decide +kernel) rfl rfl ?_
  refine ab_getR (pc := 3) fl_X12_7_12 (by decide +kernel) (fun v1 ev1 => ?_)
  refine ab_iconst (pc := 6) (n := 3) (v := nI 3) (by decide +kernel) rfl ?_
  refine ab_iald (pc := 7) (by decide +kernel) (fun v2 ev2 => ?_)
  refine ab_iconst (pc := 8) (n := 1) (v := nI 1) (by decide +kernel) rfl ?_
  refine ab_isub (pc := 9) (by decide +kernel) ?_
  refine ab_callVj (As := [.int (nI 0), .int (v2 - (nI 1))]) (st := []) (pc := 10) lk_X12_104_12 rfl rfl rfl (by decide) (by decide) (Nat.le_of_ble_eq_true rfl) (by decide +kernel) (fun y9 e9 => okX12_figures hl (F := F) e9) (fun v3 ev3 => ?_)
  refine ab_istore_n (pc := 13) (n := 1) (i := 1) (lv' := [(0, .ref x0), (1, .int v3.1)]) (by decide +kernel) rfl (by decide) rfl rfl ?_
  refine ab_iconst (pc := 14) (n := 0) (v := nI 0) (by decide +kernel) rfl ?_
  refine ab_istore_n (pc := 15) (n := 2) (i := 2) (lv' := [(0, .ref x0), (1, .int v3.1), (2, .int (nI 0))]) (by decide +kernel) rfl (by decide) rfl rfl ?_
  refine ab_iconst (pc := 16) (n := 0) (v := nI 0) (by decide +kernel) rfl ?_
  refine ab_istore_n (pc := 17) (n := 3) (i := 3) (lv' := [(0, .ref x0), (1, .int v3.1), (2, .int (nI 0)), (3, .int (nI 0))]) (by decide +kernel) rfl (by decide) rfl rfl ?_
  refine ab_aload_n (pc := 18) (n := 0) (i := 0) (j := 0) (by decide +kernel) rfl rfl ?_
  refine ab_getI (pc := 19) fl_X12_25_12 (by decide +kernel) (fun v4 ev4 => ?_)
  refine ab_iconst (pc := 22) (n := -1) (v := (-1 : Int32)) (by decide +kernel) rfl ?_
  refine ab_icmp_ne (off := 7) (pc := 23) (tgt := 30) (by decide +kernel) (by decide) (fun g5 => ?_) (fun g5 => ?_)
  · refine ab_iconst (pc := 26) (n := 1) (v := nI 1) (by decide +kernel) rfl ?_
    refine ab_goto (pc := 27) (off := 4) (tgt := 31) (by decide +kernel) (by decide) ?_
    refine ab_istore (pc := 31) (i := 4) (lv' := [(0, .ref x0), (1, .int v3.1), (2, .int (nI 0)), (3, .int (nI 0)), (4, .int (nI 1))]) (by decide +kernel) (by decide) rfl rfl ?_
    refine ab_bipush (pc := 33) (n := 72) (v := nI 72) (by decide +kernel) (by decide) ?_
    refine ab_bipush (pc := 35) (n := 10) (v := nI 10) (by decide +kernel) (by decide) ?_
    refine ab_iload_n (pc := 37) (n := 1) (i := 1) (j := 1) (by decide +kernel) rfl rfl ?_
    refine ab_imul (pc := 38) (by decide +kernel) ?_
    refine ab_iadd (pc := 39) (by decide +kernel) ?_
    refine ab_istore (pc := 40) (i := 5) (lv' := [(0, .ref x0), (1, .int v3.1), (2, .int (nI 0)), (3, .int (nI 0)), (4, .int (nI 1)), (5, .int ((nI 72) + ((nI 10) * v3.1)))]) (by decide +kernel) (by decide) rfl rfl ?_
    refine ab_few [0, 2, 3, 4, 5] (lv' := [(0, .ref x0), (2, .int (nI 0)), (3, .int (nI 0)), (4, .int (nI 1)), (5, .int ((nI 72) + ((nI 10) * v3.1)))]) rfl ?_
    refine lX12_wishLine_42 hl F x0 ((nI 72) + ((nI 10) * v3.1)) ?_ F (nI 0) (nI 0) (nI 1) v3.2
    intro z23 z24 h25
    refine ab_aload_n (pc := 130) (n := 0) (i := 0) (j := 0) (by decide +kernel) rfl rfl ?_
    refine ab_getI (pc := 131) fl_X12_25_12 (by decide +kernel) (fun v26 ev26 => ?_)
    refine ab_iconst (pc := 134) (n := -1) (v := (-1 : Int32)) (by decide +kernel) rfl ?_
    refine ab_icmp_eq (off := 4) (pc := 135) (tgt := 139) (by decide +kernel) (by decide) (fun g27 => ?_) (fun g27 => ?_)
    · refine ab_iconst (pc := 139) (n := 0) (v := nI 0) (by decide +kernel) rfl ?_
      refine ab_istore (pc := 140) (i := 6) (lv' := [(0, .ref x0), (2, .int z23), (3, .int z24), (5, .int ((nI 72) + ((nI 10) * v3.1))), (6, .int (nI 0))]) (by decide +kernel) (by decide) rfl rfl ?_
      refine lX12_wishLine_142 hl F x0 z23 ((nI 72) + ((nI 10) * v3.1)) F z24 (nI 0) h25
    · exact ab_vret (pc := 138) (by decide +kernel) rfl rfl (Nat.zero_le _) (Nat.zero_le _)
  · refine ab_iconst (pc := 30) (n := 0) (v := nI 0) (by decide +kernel) rfl ?_
    refine ab_istore (pc := 31) (i := 4) (lv' := [(0, .ref x0), (1, .int v3.1), (2, .int (nI 0)), (3, .int (nI 0)), (4, .int (nI 0))]) (by decide +kernel) (by decide) rfl rfl ?_
    refine ab_bipush (pc := 33) (n := 72) (v := nI 72) (by decide +kernel) (by decide) ?_
    refine ab_bipush (pc := 35) (n := 10) (v := nI 10) (by decide +kernel) (by decide) ?_
    refine ab_iload_n (pc := 37) (n := 1) (i := 1) (j := 1) (by decide +kernel) rfl rfl ?_
    refine ab_imul (pc := 38) (by decide +kernel) ?_
    refine ab_iadd (pc := 39) (by decide +kernel) ?_
    refine ab_istore (pc := 40) (i := 5) (lv' := [(0, .ref x0), (1, .int v3.1), (2, .int (nI 0)), (3, .int (nI 0)), (4, .int (nI 0)), (5, .int ((nI 72) + ((nI 10) * v3.1)))]) (by decide +kernel) (by decide) rfl rfl ?_
    refine ab_few [0, 2, 3, 4, 5] (lv' := [(0, .ref x0), (2, .int (nI 0)), (3, .int (nI 0)), (4, .int (nI 0)), (5, .int ((nI 72) + ((nI 10) * v3.1)))]) rfl ?_
    refine lX12_wishLine_42 hl F x0 ((nI 72) + ((nI 10) * v3.1)) ?_ F (nI 0) (nI 0) (nI 0) v3.2
    intro z33 z34 h35
    refine ab_aload_n (pc := 130) (n := 0) (i := 0) (j := 0) (by decide +kernel) rfl rfl ?_
    refine ab_getI (pc := 131) fl_X12_25_12 (by decide +kernel) (fun v36 ev36 => ?_)
    refine ab_iconst (pc := 134) (n := -1) (v := (-1 : Int32)) (by decide +kernel) rfl ?_
    refine ab_icmp_eq (off := 4) (pc := 135) (tgt := 139) (by decide +kernel) (by decide) (fun g37 => ?_) (fun g37 => ?_)
    · refine ab_iconst (pc := 139) (n := 0) (v := nI 0) (by decide +kernel) rfl ?_
      refine ab_istore (pc := 140) (i := 6) (lv' := [(0, .ref x0), (2, .int z33), (3, .int z34), (5, .int ((nI 72) + ((nI 10) * v3.1))), (6, .int (nI 0))]) (by decide +kernel) (by decide) rfl rfl ?_
      refine lX12_wishLine_142 hl F x0 z33 ((nI 72) + ((nI 10) * v3.1)) F z34 (nI 0) h35
    · exact ab_vret (pc := 138) (by decide +kernel) rfl rfl (Nat.zero_le _) (Nat.zero_le _)
set_option maxRecDepth 100000 in
set_option maxHeartbeats 4000000 in
theorem okX12_wishLine {l : Launch} (hl : l.stackTraces = false) {F : Nat} {x0 : Nat} {h : ab_H} {y : ab_H} (e : fX12_wishLine F x0 h = some y) : ab_Met l mX12_wishLine [.ref x0] h (.inl none, y) := ab_ofS (io := (fun y : ab_H => ((.inl none, y) : ab_R × ab_H))) (x := y) hl (by decide) rfl (Nat.le_of_ble_eq_true rfl) (wX12_wishLine hl F x0 h) e
def mX12_single : ab_M := (yX12_single, cX12_single, 4, (some .int), { frames := 4, cells := 0, slots := 0, locals := 85 })
theorem iX12_single : ab_MI mX12_single 1 := ⟨kw_f46fcff4b9, kw_30b3f7d7c6, by decide +kernel⟩
def fX12_single (F : Nat) (x0 : Nat) (x1 : Int32) (h : ab_H) : Option (Int32 × ab_H) := ab_ck (ab_io h x0 12 = true) (ab_bd (fX12_place F x0 h) fun v1 => ab_bd (ab_fr v1.2 x0 12 1) fun v2 => ab_bd (ab_ia 0 v1.2 v2 (nI 3)) fun v3 => ab_ck (ab_io v1.2 x0 12 = true) (ab_bd (fX12_figures F x0 (nI 0) (v3 - (nI 1)) v1.2) fun v4 => ab_bd (ab_fi v4.2 x0 12 12) fun v5 => (if v5 = (-1 : Int32) then ab_jn (κ := Option (Int32 × ab_H)) (ab_ck (ab_io v4.2 x0 12 = true) (ab_bd (fX12_wrong x0 v1.1 v4.2) fun h7 => some (v4.1, h7))) fun j8 => (if v4.1 = x1 then j8 else ab_ck (ab_io v4.2 x0 12 = true) (ab_bd (fX12_of x0 v4.1 (nI 4) v4.2) fun v10 => (if v10 = (-1 : Int32) then some (v4.1, v4.2) else j8))) else some (v4.1, v4.2))))
set_option maxRecDepth 100000 in
set_option maxHeartbeats 4000000 in
theorem wX12_single {l : Launch} (hl : l.stackTraces = false) (F : Nat) (x0 : Nat) (x1 : Int32) (h : ab_H) : ab_S l mX12_single (fun y : (Int32 × ab_H) => ((.inl (some (.int y.1)), y.2) : ab_R × ab_H)) 0 0 (fX12_single F x0 x1 h) 0 [(0, .ref x0), (1, .int x1)] [] h := by
  unfold fX12_single
  refine ab_aload_n (pc := 0) (n := 0) (i := 0) (j := 0) (by decide +kernel) rfl rfl ?_
  refine ab_callVj (As := []) (st := []) (pc := 1) lk_X12_90_12 rfl rfl rfl (by decide) (by decide) (Nat.le_of_ble_eq_true rfl) (by decide +kernel) (fun y9 e9 => okX12_place hl (F := F) e9) (fun v1 ev1 => ?_)
  refine ab_istore_n (pc := 4) (n := 2) (i := 2) (lv' := [(0, .ref x0), (1, .int x1), (2, .int v1.1)]) (by decide +kernel) rfl (by decide) rfl rfl ?_
  refine ab_aload_n (pc := 5) (n := 0) (i := 0) (j := 0) (by decide +kernel) rfl rfl ?_
  refine ab_iconst (pc := 6) (n := 0) (v := nI 0) (by decide +kernel) rfl ?_
  refine ab_aload_n (pc := 7) (n := 0) (i := 0) (j := 0) (by decide +kernel) rfl rfl ?_
  refine ab_getR (pc := 8) fl_X12_7_12 (by decide +kernel) (fun v2 ev2 => ?_)
  refine ab_iconst (pc := 11) (n := 3) (v := nI 3) (by decide +kernel) rfl ?_
  refine ab_iald (pc := 12) (by decide +kernel) (fun v3 ev3 => ?_)
  refine ab_iconst (pc := 13) (n := 1) (v := nI 1) (by decide +kernel) rfl ?_
  refine ab_isub (pc := 14) (by decide +kernel) ?_
  refine ab_callVj (As := [.int (nI 0), .int (v3 - (nI 1))]) (st := []) (pc := 15) lk_X12_104_12 rfl rfl rfl (by decide) (by decide) (Nat.le_of_ble_eq_true rfl) (by decide +kernel) (fun y9 e9 => okX12_figures hl (F := F) e9) (fun v4 ev4 => ?_)
  refine ab_istore_n (pc := 18) (n := 3) (i := 3) (lv' := [(0, .ref x0), (1, .int x1), (2, .int v1.1), (3, .int v4.1)]) (by decide +kernel) rfl (by decide) rfl rfl ?_
  refine ab_aload_n (pc := 19) (n := 0) (i := 0) (j := 0) (by decide +kernel) rfl rfl ?_
  refine ab_getI (pc := 20) fl_X12_25_12 (by decide +kernel) (fun v5 ev5 => ?_)
  refine ab_iconst (pc := 23) (n := -1) (v := (-1 : Int32)) (by decide +kernel) rfl ?_
  refine ab_icmp_ne (off := 23) (pc := 24) (tgt := 47) (by decide +kernel) (by decide) (fun g6 => ?_) (fun g6 => ?_)
  · refine ab_iload_n (pc := 27) (n := 3) (i := 3) (j := 3) (by decide +kernel) rfl rfl ?_
    refine ab_iload_n (pc := 28) (n := 1) (i := 1) (j := 1) (by decide +kernel) rfl rfl ?_
    refine ab_jr (fun k9 : Option (Int32 × ab_H) => ab_S l mX12_single (fun y : (Int32 × ab_H) => ((.inl (some (.int y.1)), y.2) : ab_R × ab_H)) 0 0 (k9) 42 [(0, .ref x0), (2, .int v1.1), (3, .int v4.1)] [] v4.2) ?_ (fun j8 hj8 => ?_)
    · refine ab_aload_n (pc := 42) (n := 0) (i := 0) (j := 0) (by decide +kernel) rfl rfl ?_
      refine ab_iload_n (pc := 43) (n := 2) (i := 2) (j := 1) (by decide +kernel) rfl rfl ?_
      refine ab_callVw (As := [.int v1.1]) (st := []) (pc := 44) lk_X12_93_12 rfl rfl rfl (by decide) (by decide) (Nat.le_of_ble_eq_true rfl) (by decide +kernel) (fun y9 e9 => okX12_wrong hl e9) (fun h7 eh7 => ?_)
      refine ab_iload_n (pc := 47) (n := 3) (i := 3) (j := 2) (by decide +kernel) rfl rfl ?_
      exact ab_iret (pc := 48) (by decide +kernel) rfl rfl (Nat.zero_le _) (Nat.zero_le _)
    · refine ab_icmp_eq (off := 13) (pc := 29) (tgt := 42) (by decide +kernel) (by decide) (fun g9 => ?_) (fun g9 => ?_)
      · refine ab_few [0, 2, 3] (lv' := [(0, .ref x0), (2, .int v1.1), (3, .int v4.1)]) rfl ?_
        exact hj8
      · refine ab_aload_n (pc := 32) (n := 0) (i := 0) (j := 0) (by decide +kernel) rfl rfl ?_
        refine ab_iload_n (pc := 33) (n := 3) (i := 3) (j := 3) (by decide +kernel) rfl rfl ?_
        refine ab_iconst (pc := 34) (n := 4) (v := nI 4) (by decide +kernel) rfl ?_
        refine ab_callVi (As := [.int v4.1, .int (nI 4)]) (st := []) (pc := 35) lk_X12_57_12 rfl rfl rfl (by decide) (by decide) (Nat.le_of_ble_eq_true rfl) (by decide +kernel) (fun y9 e9 => okX12_of hl e9) (fun v10 ev10 => ?_)
        refine ab_iconst (pc := 38) (n := -1) (v := (-1 : Int32)) (by decide +kernel) rfl ?_
        refine ab_icmp_eq (off := 8) (pc := 39) (tgt := 47) (by decide +kernel) (by decide) (fun g11 => ?_) (fun g11 => ?_)
        · refine ab_iload_n (pc := 47) (n := 3) (i := 3) (j := 3) (by decide +kernel) rfl rfl ?_
          exact ab_iret (pc := 48) (by decide +kernel) rfl rfl (Nat.zero_le _) (Nat.zero_le _)
        · refine ab_few [0, 2, 3] (lv' := [(0, .ref x0), (2, .int v1.1), (3, .int v4.1)]) rfl ?_
          exact hj8
  · refine ab_iload_n (pc := 47) (n := 3) (i := 3) (j := 3) (by decide +kernel) rfl rfl ?_
    exact ab_iret (pc := 48) (by decide +kernel) rfl rfl (Nat.zero_le _) (Nat.zero_le _)
set_option maxRecDepth 100000 in
set_option maxHeartbeats 4000000 in
theorem okX12_single {l : Launch} (hl : l.stackTraces = false) {F : Nat} {x0 : Nat} {x1 : Int32} {h : ab_H} {y : (Int32 × ab_H)} (e : fX12_single F x0 x1 h = some y) : ab_Met l mX12_single [.ref x0, .int x1] h (.inl (some (.int y.1)), y.2) := ab_ofS (io := (fun y : (Int32 × ab_H) => ((.inl (some (.int y.1)), y.2) : ab_R × ab_H))) (x := y) hl (by decide) rfl (Nat.le_of_ble_eq_true rfl) (wX12_single hl F x0 x1 h) e
def mX12_wedLine : ab_M := (yX12_wedLine, cX12_wedLine, 3, none, { frames := 5, cells := 0, slots := 0, locals := 108 })
theorem iX12_wedLine : ab_MI mX12_wedLine 0 := ⟨kw_ad52778d8c, kw_30b3f7d7c6, by decide +kernel⟩
theorem lk_X12_115_12 : ab_LV RX12 115 12 mX12_single 1 := ⟨RX12, rfl, iX12_single, kw_7ecda438f2, kw_5586911afc, kw_1402bef122⟩
def fX12_wedLine (F : Nat) (x0 : Nat) (h : ab_H) : Option ab_H := ab_ck (ab_io h x0 12 = true) (ab_bd (fX12_single F x0 (-1 : Int32) h) fun v1 => ab_ck (ab_io v1.2 x0 12 = true) (ab_bd (fX12_single F x0 v1.1 v1.2) fun v2 => ab_bd (ab_fi v2.2 x0 12 12) fun v3 => (if v3 = (-1 : Int32) then ab_ck (ab_io v2.2 x0 12 = true) (ab_bd (fX12_has x0 v1.1 (nI 4) v2.1 v2.2) fun h5 => ab_ck (ab_io h5 x0 12 = true) (ab_bd (fX12_has x0 v2.1 (nI 4) v1.1 h5) fun h6 => some h6)) else some v2.2)))
set_option maxRecDepth 100000 in
set_option maxHeartbeats 4000000 in
theorem wX12_wedLine {l : Launch} (hl : l.stackTraces = false) (F : Nat) (x0 : Nat) (h : ab_H) : ab_S l mX12_wedLine (fun y : ab_H => ((.inl none, y) : ab_R × ab_H)) 0 0 (fX12_wedLine F x0 h) 0 [(0, .ref x0)] [] h := by
  unfold fX12_wedLine
  refine ab_aload_n (pc := 0) (n := 0) (i := 0) (j := 0) (by decide +kernel) rfl rfl ?_
  refine ab_iconst (pc := 1) (n := -1) (v := (-1 : Int32)) (by decide +kernel) rfl ?_
  refine ab_callVj (As := [.int (-1 : Int32)]) (st := []) (pc := 2) lk_X12_115_12 rfl rfl rfl (by decide) (by decide) (Nat.le_of_ble_eq_true rfl) (by decide +kernel) (fun y9 e9 => okX12_single hl (F := F) e9) (fun v1 ev1 => ?_)
  refine ab_istore_n (pc := 5) (n := 1) (i := 1) (lv' := [(0, .ref x0), (1, .int v1.1)]) (by decide +kernel) rfl (by decide) rfl rfl ?_
  refine ab_aload_n (pc := 6) (n := 0) (i := 0) (j := 0) (by decide +kernel) rfl rfl ?_
  refine ab_iload_n (pc := 7) (n := 1) (i := 1) (j := 1) (by decide +kernel) rfl rfl ?_
  refine ab_callVj (As := [.int v1.1]) (st := []) (pc := 8) lk_X12_115_12 rfl rfl rfl (by decide) (by decide) (Nat.le_of_ble_eq_true rfl) (by decide +kernel) (fun y9 e9 => okX12_single hl (F := F) e9) (fun v2 ev2 => ?_)
  refine ab_istore_n (pc := 11) (n := 2) (i := 2) (lv' := [(0, .ref x0), (1, .int v1.1), (2, .int v2.1)]) (by decide +kernel) rfl (by decide) rfl rfl ?_
  refine ab_aload_n (pc := 12) (n := 0) (i := 0) (j := 0) (by decide +kernel) rfl rfl ?_
  refine ab_getI (pc := 13) fl_X12_25_12 (by decide +kernel) (fun v3 ev3 => ?_)
  refine ab_iconst (pc := 16) (n := -1) (v := (-1 : Int32)) (by decide +kernel) rfl ?_
  refine ab_icmp_eq (off := 4) (pc := 17) (tgt := 21) (by decide +kernel) (by decide) (fun g4 => ?_) (fun g4 => ?_)
  · refine ab_aload_n (pc := 21) (n := 0) (i := 0) (j := 0) (by decide +kernel) rfl rfl ?_
    refine ab_iload_n (pc := 22) (n := 1) (i := 1) (j := 1) (by decide +kernel) rfl rfl ?_
    refine ab_iconst (pc := 23) (n := 4) (v := nI 4) (by decide +kernel) rfl ?_
    refine ab_iload_n (pc := 24) (n := 2) (i := 2) (j := 2) (by decide +kernel) rfl rfl ?_
    refine ab_callVw (As := [.int v1.1, .int (nI 4), .int v2.1]) (st := []) (pc := 25) lk_X12_100_12 rfl rfl rfl (by decide) (by decide) (Nat.le_of_ble_eq_true rfl) (by decide +kernel) (fun y9 e9 => okX12_has hl e9) (fun h5 eh5 => ?_)
    refine ab_aload_n (pc := 28) (n := 0) (i := 0) (j := 0) (by decide +kernel) rfl rfl ?_
    refine ab_iload_n (pc := 29) (n := 2) (i := 2) (j := 2) (by decide +kernel) rfl rfl ?_
    refine ab_iconst (pc := 30) (n := 4) (v := nI 4) (by decide +kernel) rfl ?_
    refine ab_iload_n (pc := 31) (n := 1) (i := 1) (j := 1) (by decide +kernel) rfl rfl ?_
    refine ab_callVw (As := [.int v2.1, .int (nI 4), .int v1.1]) (st := []) (pc := 32) lk_X12_100_12 rfl rfl rfl (by decide) (by decide) (Nat.le_of_ble_eq_true rfl) (by decide +kernel) (fun y9 e9 => okX12_has hl e9) (fun h6 eh6 => ?_)
    exact ab_vret (pc := 35) (by decide +kernel) rfl rfl (Nat.zero_le _) (Nat.zero_le _)
  · exact ab_vret (pc := 20) (by decide +kernel) rfl rfl (Nat.zero_le _) (Nat.zero_le _)
set_option maxRecDepth 100000 in
set_option maxHeartbeats 4000000 in
theorem okX12_wedLine {l : Launch} (hl : l.stackTraces = false) {F : Nat} {x0 : Nat} {h : ab_H} {y : ab_H} (e : fX12_wedLine F x0 h = some y) : ab_Met l mX12_wedLine [.ref x0] h (.inl none, y) := ab_ofS (io := (fun y : ab_H => ((.inl none, y) : ab_R × ab_H))) (x := y) hl (by decide) rfl (Nat.le_of_ble_eq_true rfl) (wX12_wedLine hl F x0 h) e
def mX12_knowsLine : ab_M := (yX12_knowsLine, cX12_knowsLine, 5, none, { frames := 4, cells := 0, slots := 0, locals := 85 })
theorem iX12_knowsLine : ab_MI mX12_knowsLine 0 := ⟨kw_f6da3fec15, kw_30b3f7d7c6, by decide +kernel⟩
def fX12_knowsLine_28 (F : Nat) (x0 : Nat) (x1 : Int32) : Nat → Int32 → ab_H → Option ab_H
  | 0, _, _ => none
  | n + 1, x2, h => (if x2 = 0 then some h else ab_ck (ab_io h x0 12 = true) (ab_bd (fX12_place F x0 h) fun v7 => ab_bd (ab_fr v7.2 x0 12 1) fun v8 => ab_bd (ab_ia 0 v7.2 v8 (nI 3)) fun v9 => ab_ck (ab_io v7.2 x0 12 = true) (ab_bd (fX12_figures F x0 (nI 0) (v9 - (nI 1)) v7.2) fun v10 => ab_bd (ab_fi v10.2 x0 12 12) fun v11 => ab_jn (κ := ab_H → Option ab_H) (fun (h12 : ab_H) => ab_bd (ab_fi h12 x0 12 12) fun v13 => ab_jn (κ := ab_H → Option ab_H) (fun (h14 : ab_H) => ab_bd (ab_fi h14 x0 12 12) fun v15 => (if v15 = (-1 : Int32) then ab_ck (ab_io h14 x0 12 = true) (ab_bd (fX12_isFigure F x0 h14) fun v17 => (if v17.1 = 0 then fX12_knowsLine_28 F x0 x1 n (nI 0) v17.2 else fX12_knowsLine_28 F x0 x1 n (nI 1) v17.2)) else fX12_knowsLine_28 F x0 x1 n (nI 0) h14)) fun j19 => (if v13 = (-1 : Int32) then ab_ck (ab_io h12 x0 12 = true) (ab_bd (fX12_of x0 x1 (nI 5) h12) fun v21 => ab_ck (ab_io h12 x0 12 = true) (ab_bd (fX12_has x0 x1 (nI 5) (v21 ||| ((nI 1) <<< (v10.1 &&& 31))) h12) fun h22 => j19 h22)) else j19 h12)) fun j23 => (if v11 = (-1 : Int32) then (if v10.1 = x1 then ab_ck (ab_io v10.2 x0 12 = true) (ab_bd (fX12_wrong x0 v7.1 v10.2) fun h26 => j23 h26) else j23 v10.2) else j23 v10.2))))
def fX12_knowsLine (F : Nat) (x0 : Nat) (h : ab_H) : Option ab_H := ab_bd (ab_fr h x0 12 1) fun v1 => ab_bd (ab_ia 0 h v1 (nI 3)) fun v2 => ab_ck (ab_io h x0 12 = true) (ab_bd (fX12_figures F x0 (nI 0) (v2 - (nI 1)) h) fun v3 => ab_bd (ab_fi v3.2 x0 12 12) fun v4 => (if v4 = (-1 : Int32) then fX12_knowsLine_28 F x0 v3.1 F (nI 1) v3.2 else fX12_knowsLine_28 F x0 v3.1 F (nI 0) v3.2))
set_option maxRecDepth 100000 in
set_option maxHeartbeats 4000000 in
theorem lX12_knowsLine_28 {l : Launch} (hl : l.stackTraces = false) (F : Nat) (x0 : Nat) (x1 : Int32) : ∀ (n : Nat) (x2 : Int32) (h : ab_H), ab_S l mX12_knowsLine (fun y : ab_H => ((.inl none, y) : ab_R × ab_H)) 0 0 (fX12_knowsLine_28 F x0 x1 n x2 h) 28 [(0, .ref x0), (1, .int x1), (2, .int x2)] [] h := by
  intro n
  induction n with
  | zero =>
    intro x2 h
    exact ab_none
  | succ n ih =>
    intro x2 h
    rw [fX12_knowsLine_28]
    refine ab_iload_n (pc := 28) (n := 2) (i := 2) (j := 2) (by decide +kernel) rfl rfl ?_
    refine ab_if_eq (off := 91) (pc := 29) (tgt := 120) (by decide +kernel) (by decide) (fun g6 => ?_) (fun g6 => ?_)
    · exact ab_vret (pc := 120) (by decide +kernel) rfl rfl (Nat.zero_le _) (Nat.zero_le _)
    · refine ab_aload_n (pc := 32) (n := 0) (i := 0) (j := 0) (by decide +kernel) rfl rfl ?_
      refine ab_callVj (As := []) (st := []) (pc := 33) lk_X12_90_12 rfl rfl rfl (by decide) (by decide) (Nat.le_of_ble_eq_true rfl) (by decide +kernel) (fun y9 e9 => okX12_place hl (F := F) e9) (fun v7 ev7 => ?_)
      refine ab_istore_n (pc := 36) (n := 3) (i := 3) (lv' := [(0, .ref x0), (1, .int x1), (2, .int x2), (3, .int v7.1)]) (by decide +kernel) rfl (by decide) rfl rfl ?_
      refine ab_aload_n (pc := 37) (n := 0) (i := 0) (j := 0) (by decide +kernel) rfl rfl ?_
      refine ab_iconst (pc := 38) (n := 0) (v := nI 0) (by decide +kernel) rfl ?_
      refine ab_aload_n (pc := 39) (n := 0) (i := 0) (j := 0) (by decide +kernel) rfl rfl ?_
      refine ab_getR (pc := 40) fl_X12_7_12 (by decide +kernel) (fun v8 ev8 => ?_)
      refine ab_iconst (pc := 43) (n := 3) (v := nI 3) (by decide +kernel) rfl ?_
      refine ab_iald (pc := 44) (by decide +kernel) (fun v9 ev9 => ?_)
      refine ab_iconst (pc := 45) (n := 1) (v := nI 1) (by decide +kernel) rfl ?_
      refine ab_isub (pc := 46) (by decide +kernel) ?_
      refine ab_callVj (As := [.int (nI 0), .int (v9 - (nI 1))]) (st := []) (pc := 47) lk_X12_104_12 rfl rfl rfl (by decide) (by decide) (Nat.le_of_ble_eq_true rfl) (by decide +kernel) (fun y9 e9 => okX12_figures hl (F := F) e9) (fun v10 ev10 => ?_)
      refine ab_istore (pc := 50) (i := 4) (lv' := [(0, .ref x0), (1, .int x1), (2, .int x2), (3, .int v7.1), (4, .int v10.1)]) (by decide +kernel) (by decide) rfl rfl ?_
      refine ab_aload_n (pc := 52) (n := 0) (i := 0) (j := 0) (by decide +kernel) rfl rfl ?_
      refine ab_getI (pc := 53) fl_X12_25_12 (by decide +kernel) (fun v11 ev11 => ?_)
      refine ab_iconst (pc := 56) (n := -1) (v := (-1 : Int32)) (by decide +kernel) rfl ?_
      refine ab_jr (fun k9 : ab_H → Option ab_H => ∀ (h12 : ab_H), ab_S l mX12_knowsLine (fun y : ab_H => ((.inl none, y) : ab_R × ab_H)) 0 0 (k9 h12) 71 [(0, .ref x0), (1, .int x1), (4, .int v10.1)] [] h12) ?_ (fun j23 hj23 => ?_)
      · intro h12
        refine ab_aload_n (pc := 71) (n := 0) (i := 0) (j := 0) (by decide +kernel) rfl rfl ?_
        refine ab_getI (pc := 72) fl_X12_25_12 (by decide +kernel) (fun v13 ev13 => ?_)
        refine ab_iconst (pc := 75) (n := -1) (v := (-1 : Int32)) (by decide +kernel) rfl ?_
        refine ab_jr (fun k9 : ab_H → Option ab_H => ∀ (h14 : ab_H), ab_S l mX12_knowsLine (fun y : ab_H => ((.inl none, y) : ab_R × ab_H)) 0 0 (k9 h14) 96 [(0, .ref x0), (1, .int x1)] [] h14) ?_ (fun j19 hj19 => ?_)
        · intro h14
          refine ab_aload_n (pc := 96) (n := 0) (i := 0) (j := 0) (by decide +kernel) rfl rfl ?_
          refine ab_getI (pc := 97) fl_X12_25_12 (by decide +kernel) (fun v15 ev15 => ?_)
          refine ab_iconst (pc := 100) (n := -1) (v := (-1 : Int32)) (by decide +kernel) rfl ?_
          refine ab_icmp_ne (off := 14) (pc := 101) (tgt := 115) (by decide +kernel) (by decide) (fun g16 => ?_) (fun g16 => ?_)
          · refine ab_aload_n (pc := 104) (n := 0) (i := 0) (j := 0) (by decide +kernel) rfl rfl ?_
            refine ab_callVj (As := []) (st := []) (pc := 105) lk_X12_111_12 rfl rfl rfl (by decide) (by decide) (Nat.le_of_ble_eq_true rfl) (by decide +kernel) (fun y9 e9 => okX12_isFigure hl (F := F) e9) (fun v17 ev17 => ?_)
            refine ab_if_eq (off := 7) (pc := 108) (tgt := 115) (by decide +kernel) (by decide) (fun g18 => ?_) (fun g18 => ?_)
            · refine ab_iconst (pc := 115) (n := 0) (v := nI 0) (by decide +kernel) rfl ?_
              refine ab_istore_n (pc := 116) (n := 2) (i := 2) (lv' := [(0, .ref x0), (1, .int x1), (2, .int (nI 0))]) (by decide +kernel) rfl (by decide) rfl rfl ?_
              refine ab_goto (pc := 117) (off := (-89)) (tgt := 28) (by decide +kernel) (by decide) ?_
              exact ih (nI 0) v17.2
            · refine ab_iconst (pc := 111) (n := 1) (v := nI 1) (by decide +kernel) rfl ?_
              refine ab_goto (pc := 112) (off := 4) (tgt := 116) (by decide +kernel) (by decide) ?_
              refine ab_istore_n (pc := 116) (n := 2) (i := 2) (lv' := [(0, .ref x0), (1, .int x1), (2, .int (nI 1))]) (by decide +kernel) rfl (by decide) rfl rfl ?_
              refine ab_goto (pc := 117) (off := (-89)) (tgt := 28) (by decide +kernel) (by decide) ?_
              exact ih (nI 1) v17.2
          · refine ab_iconst (pc := 115) (n := 0) (v := nI 0) (by decide +kernel) rfl ?_
            refine ab_istore_n (pc := 116) (n := 2) (i := 2) (lv' := [(0, .ref x0), (1, .int x1), (2, .int (nI 0))]) (by decide +kernel) rfl (by decide) rfl rfl ?_
            refine ab_goto (pc := 117) (off := (-89)) (tgt := 28) (by decide +kernel) (by decide) ?_
            exact ih (nI 0) h14
        · refine ab_icmp_ne (off := 20) (pc := 76) (tgt := 96) (by decide +kernel) (by decide) (fun g20 => ?_) (fun g20 => ?_)
          · refine ab_aload_n (pc := 79) (n := 0) (i := 0) (j := 0) (by decide +kernel) rfl rfl ?_
            refine ab_iload_n (pc := 80) (n := 1) (i := 1) (j := 1) (by decide +kernel) rfl rfl ?_
            refine ab_iconst (pc := 81) (n := 5) (v := nI 5) (by decide +kernel) rfl ?_
            refine ab_aload_n (pc := 82) (n := 0) (i := 0) (j := 0) (by decide +kernel) rfl rfl ?_
            refine ab_iload_n (pc := 83) (n := 1) (i := 1) (j := 1) (by decide +kernel) rfl rfl ?_
            refine ab_iconst (pc := 84) (n := 5) (v := nI 5) (by decide +kernel) rfl ?_
            refine ab_callVi (As := [.int x1, .int (nI 5)]) (st := [.int (nI 5), .int x1, .ref x0]) (pc := 85) lk_X12_57_12 rfl rfl rfl (by decide) (by decide) (Nat.le_of_ble_eq_true rfl) (by decide +kernel) (fun y9 e9 => okX12_of hl e9) (fun v21 ev21 => ?_)
            refine ab_iconst (pc := 88) (n := 1) (v := nI 1) (by decide +kernel) rfl ?_
            refine ab_iload (pc := 89) (i := 4) (j := 2) (by decide +kernel) rfl ?_
            refine ab_ishl (pc := 91) (by decide +kernel) ?_
            refine ab_ior (pc := 92) (by decide +kernel) ?_
            refine ab_callVw (As := [.int x1, .int (nI 5), .int (v21 ||| ((nI 1) <<< (v10.1 &&& 31)))]) (st := []) (pc := 93) lk_X12_100_12 rfl rfl rfl (by decide) (by decide) (Nat.le_of_ble_eq_true rfl) (by decide +kernel) (fun y9 e9 => okX12_has hl e9) (fun h22 eh22 => ?_)
            refine ab_few [0, 1] (lv' := [(0, .ref x0), (1, .int x1)]) rfl ?_
            exact hj19 h22
          · refine ab_few [0, 1] (lv' := [(0, .ref x0), (1, .int x1)]) rfl ?_
            exact hj19 h12
      · refine ab_icmp_ne (off := 14) (pc := 57) (tgt := 71) (by decide +kernel) (by decide) (fun g24 => ?_) (fun g24 => ?_)
        · refine ab_iload (pc := 60) (i := 4) (j := 4) (by decide +kernel) rfl ?_
          refine ab_iload_n (pc := 62) (n := 1) (i := 1) (j := 1) (by decide +kernel) rfl rfl ?_
          refine ab_icmp_ne (off := 8) (pc := 63) (tgt := 71) (by decide +kernel) (by decide) (fun g25 => ?_) (fun g25 => ?_)
          · refine ab_aload_n (pc := 66) (n := 0) (i := 0) (j := 0) (by decide +kernel) rfl rfl ?_
            refine ab_iload_n (pc := 67) (n := 3) (i := 3) (j := 3) (by decide +kernel) rfl rfl ?_
            refine ab_callVw (As := [.int v7.1]) (st := []) (pc := 68) lk_X12_93_12 rfl rfl rfl (by decide) (by decide) (Nat.le_of_ble_eq_true rfl) (by decide +kernel) (fun y9 e9 => okX12_wrong hl e9) (fun h26 eh26 => ?_)
            refine ab_few [0, 1, 4] (lv' := [(0, .ref x0), (1, .int x1), (4, .int v10.1)]) rfl ?_
            exact hj23 h26
          · refine ab_few [0, 1, 4] (lv' := [(0, .ref x0), (1, .int x1), (4, .int v10.1)]) rfl ?_
            exact hj23 v10.2
        · refine ab_few [0, 1, 4] (lv' := [(0, .ref x0), (1, .int x1), (4, .int v10.1)]) rfl ?_
          exact hj23 v10.2
set_option maxRecDepth 100000 in
set_option maxHeartbeats 4000000 in
theorem wX12_knowsLine {l : Launch} (hl : l.stackTraces = false) (F : Nat) (x0 : Nat) (h : ab_H) : ab_S l mX12_knowsLine (fun y : ab_H => ((.inl none, y) : ab_R × ab_H)) 0 0 (fX12_knowsLine F x0 h) 0 [(0, .ref x0)] [] h := by
  unfold fX12_knowsLine
  refine ab_aload_n (pc := 0) (n := 0) (i := 0) (j := 0) (by decide +kernel) rfl rfl ?_
  refine ab_iconst (pc := 1) (n := 0) (v := nI 0) (by decide +kernel) rfl ?_
  refine ab_aload_n (pc := 2) (n := 0) (i := 0) (j := 0) (by decide +kernel) rfl rfl ?_
  refine ab_getR (pc := 3) fl_X12_7_12 (by decide +kernel) (fun v1 ev1 => ?_)
  refine ab_iconst (pc := 6) (n := 3) (v := nI 3) (by decide +kernel) rfl ?_
  refine ab_iald (pc := 7) (by decide +kernel) (fun v2 ev2 => ?_)
  refine ab_iconst (pc := 8) (n := 1) (v := nI 1) (by decide +kernel) rfl ?_
  refine ab_isub (pc := 9) (by decide +kernel) ?_
  refine ab_callVj (As := [.int (nI 0), .int (v2 - (nI 1))]) (st := []) (pc := 10) lk_X12_104_12 rfl rfl rfl (by decide) (by decide) (Nat.le_of_ble_eq_true rfl) (by decide +kernel) (fun y9 e9 => okX12_figures hl (F := F) e9) (fun v3 ev3 => ?_)
  refine ab_istore_n (pc := 13) (n := 1) (i := 1) (lv' := [(0, .ref x0), (1, .int v3.1)]) (by decide +kernel) rfl (by decide) rfl rfl ?_
  refine ab_aload_n (pc := 14) (n := 0) (i := 0) (j := 0) (by decide +kernel) rfl rfl ?_
  refine ab_getI (pc := 15) fl_X12_25_12 (by decide +kernel) (fun v4 ev4 => ?_)
  refine ab_iconst (pc := 18) (n := -1) (v := (-1 : Int32)) (by decide +kernel) rfl ?_
  refine ab_icmp_ne (off := 7) (pc := 19) (tgt := 26) (by decide +kernel) (by decide) (fun g5 => ?_) (fun g5 => ?_)
  · refine ab_iconst (pc := 22) (n := 1) (v := nI 1) (by decide +kernel) rfl ?_
    refine ab_goto (pc := 23) (off := 4) (tgt := 27) (by decide +kernel) (by decide) ?_
    refine ab_istore_n (pc := 27) (n := 2) (i := 2) (lv' := [(0, .ref x0), (1, .int v3.1), (2, .int (nI 1))]) (by decide +kernel) rfl (by decide) rfl rfl ?_
    refine lX12_knowsLine_28 hl F x0 v3.1 F (nI 1) v3.2
  · refine ab_iconst (pc := 26) (n := 0) (v := nI 0) (by decide +kernel) rfl ?_
    refine ab_istore_n (pc := 27) (n := 2) (i := 2) (lv' := [(0, .ref x0), (1, .int v3.1), (2, .int (nI 0))]) (by decide +kernel) rfl (by decide) rfl rfl ?_
    refine lX12_knowsLine_28 hl F x0 v3.1 F (nI 0) v3.2
set_option maxRecDepth 100000 in
set_option maxHeartbeats 4000000 in
theorem okX12_knowsLine {l : Launch} (hl : l.stackTraces = false) {F : Nat} {x0 : Nat} {h : ab_H} {y : ab_H} (e : fX12_knowsLine F x0 h = some y) : ab_Met l mX12_knowsLine [.ref x0] h (.inl none, y) := ab_ofS (io := (fun y : ab_H => ((.inl none, y) : ab_R × ab_H))) (x := y) hl (by decide) rfl (Nat.le_of_ble_eq_true rfl) (wX12_knowsLine hl F x0 h) e
def mX12_lastTaken : ab_M := (yX12_lastTaken, cX12_lastTaken, 3, (some .int), { frames := 2, cells := 0, slots := 0, locals := 44 })
theorem iX12_lastTaken : ab_MI mX12_lastTaken 0 := ⟨kw_ef9038eaee, kw_30b3f7d7c6, by decide +kernel⟩
theorem lk_X12_118_12 : ab_LV RX12 118 12 mX12_hasTicketOf 1 := ⟨RX12, rfl, iX12_hasTicketOf, kw_da21116af0, kw_99416bea91, kw_cb10f25681⟩
def fX12_lastTaken_4 (F : Nat) (x0 : Nat) (h : ab_H) : Nat → Int32 → Int32 → Option Int32
  | 0, _, _ => none
  | n + 1, x1, x2 => ab_bd (ab_fr h x0 12 1) fun v1 => ab_bd (ab_ia 0 h v1 (nI 4)) fun v2 => (if x2 < v2 then ab_bd (ab_fr h x0 12 1) fun v4 => ab_bd (ab_ia 0 h v4 ((nI 272) + x2)) fun v5 => (if v5 = (-1 : Int32) then ab_ck (ab_io h x0 12 = true) (ab_bd (fX12_hasTicketOf F x0 x2 h) fun v7 => (if v7 = 0 then fX12_lastTaken_4 F x0 h n x1 (x2 + nI 1) else fX12_lastTaken_4 F x0 h n x2 (x2 + nI 1))) else fX12_lastTaken_4 F x0 h n x2 (x2 + nI 1)) else some x1)
def fX12_lastTaken (F : Nat) (x0 : Nat) (h : ab_H) : Option Int32 := fX12_lastTaken_4 F x0 h F (-1 : Int32) (nI 0)
set_option maxRecDepth 100000 in
set_option maxHeartbeats 4000000 in
theorem lX12_lastTaken_4 {l : Launch} (hl : l.stackTraces = false) (F : Nat) (x0 : Nat) (h : ab_H) : ∀ (n : Nat) (x1 : Int32) (x2 : Int32), ab_S l mX12_lastTaken (fun y : Int32 => ((.inl (some (.int y)), h) : ab_R × ab_H)) 0 0 (fX12_lastTaken_4 F x0 h n x1 x2) 4 [(0, .ref x0), (1, .int x1), (2, .int x2)] [] h := by
  intro n
  induction n with
  | zero =>
    intro x1 x2
    exact ab_none
  | succ n ih =>
    intro x1 x2
    rw [fX12_lastTaken_4]
    refine ab_iload_n (pc := 4) (n := 2) (i := 2) (j := 2) (by decide +kernel) rfl rfl ?_
    refine ab_aload_n (pc := 5) (n := 0) (i := 0) (j := 0) (by decide +kernel) rfl rfl ?_
    refine ab_getR (pc := 6) fl_X12_7_12 (by decide +kernel) (fun v1 ev1 => ?_)
    refine ab_iconst (pc := 9) (n := 4) (v := nI 4) (by decide +kernel) rfl ?_
    refine ab_iald (pc := 10) (by decide +kernel) (fun v2 ev2 => ?_)
    refine ab_icmp_ge (off := 33) (pc := 11) (tgt := 44) (by decide +kernel) (by decide) (fun g3 => ?_) (fun g3 => ?_)
    · refine ab_aload_n (pc := 14) (n := 0) (i := 0) (j := 0) (by decide +kernel) rfl rfl ?_
      refine ab_getR (pc := 15) fl_X12_7_12 (by decide +kernel) (fun v4 ev4 => ?_)
      refine ab_sipush (pc := 18) (n := 272) (v := nI 272) (by decide +kernel) (by decide) ?_
      refine ab_iload_n (pc := 21) (n := 2) (i := 2) (j := 2) (by decide +kernel) rfl rfl ?_
      refine ab_iadd (pc := 22) (by decide +kernel) ?_
      refine ab_iald (pc := 23) (by decide +kernel) (fun v5 ev5 => ?_)
      refine ab_iconst (pc := 24) (n := -1) (v := (-1 : Int32)) (by decide +kernel) rfl ?_
      refine ab_icmp_ne (off := 11) (pc := 25) (tgt := 36) (by decide +kernel) (by decide) (fun g6 => ?_) (fun g6 => ?_)
      · refine ab_aload_n (pc := 28) (n := 0) (i := 0) (j := 0) (by decide +kernel) rfl rfl ?_
        refine ab_iload_n (pc := 29) (n := 2) (i := 2) (j := 2) (by decide +kernel) rfl rfl ?_
        refine ab_callVi (As := [.int x2]) (st := []) (pc := 30) lk_X12_118_12 rfl rfl rfl (by decide) (by decide) (Nat.le_of_ble_eq_true rfl) (by decide +kernel) (fun y9 e9 => okX12_hasTicketOf hl (F := F) e9) (fun v7 ev7 => ?_)
        refine ab_if_eq (off := 5) (pc := 33) (tgt := 38) (by decide +kernel) (by decide) (fun g8 => ?_) (fun g8 => ?_)
        · refine ab_iinc (pc := 38) (i := 2) (n := 1) (j := 2) (d := nI 1) (lv' := [(0, .ref x0), (1, .int x1), (2, .int (x2 + nI 1))]) (by decide +kernel) rfl rfl (by decide) rfl rfl ?_
          refine ab_goto (pc := 41) (off := (-37)) (tgt := 4) (by decide +kernel) (by decide) ?_
          exact ih x1 (x2 + nI 1)
        · refine ab_iload_n (pc := 36) (n := 2) (i := 2) (j := 2) (by decide +kernel) rfl rfl ?_
          refine ab_istore_n (pc := 37) (n := 1) (i := 1) (lv' := [(0, .ref x0), (1, .int x2), (2, .int x2)]) (by decide +kernel) rfl (by decide) rfl rfl ?_
          refine ab_iinc (pc := 38) (i := 2) (n := 1) (j := 2) (d := nI 1) (lv' := [(0, .ref x0), (1, .int x2), (2, .int (x2 + nI 1))]) (by decide +kernel) rfl rfl (by decide) rfl rfl ?_
          refine ab_goto (pc := 41) (off := (-37)) (tgt := 4) (by decide +kernel) (by decide) ?_
          exact ih x2 (x2 + nI 1)
      · refine ab_iload_n (pc := 36) (n := 2) (i := 2) (j := 2) (by decide +kernel) rfl rfl ?_
        refine ab_istore_n (pc := 37) (n := 1) (i := 1) (lv' := [(0, .ref x0), (1, .int x2), (2, .int x2)]) (by decide +kernel) rfl (by decide) rfl rfl ?_
        refine ab_iinc (pc := 38) (i := 2) (n := 1) (j := 2) (d := nI 1) (lv' := [(0, .ref x0), (1, .int x2), (2, .int (x2 + nI 1))]) (by decide +kernel) rfl rfl (by decide) rfl rfl ?_
        refine ab_goto (pc := 41) (off := (-37)) (tgt := 4) (by decide +kernel) (by decide) ?_
        exact ih x2 (x2 + nI 1)
    · refine ab_iload_n (pc := 44) (n := 1) (i := 1) (j := 1) (by decide +kernel) rfl rfl ?_
      exact ab_iret (pc := 45) (by decide +kernel) rfl rfl (Nat.zero_le _) (Nat.zero_le _)
set_option maxRecDepth 100000 in
set_option maxHeartbeats 4000000 in
theorem wX12_lastTaken {l : Launch} (hl : l.stackTraces = false) (F : Nat) (x0 : Nat) (h : ab_H) : ab_S l mX12_lastTaken (fun y : Int32 => ((.inl (some (.int y)), h) : ab_R × ab_H)) 0 0 (fX12_lastTaken F x0 h) 0 [(0, .ref x0)] [] h := by
  unfold fX12_lastTaken
  refine ab_iconst (pc := 0) (n := -1) (v := (-1 : Int32)) (by decide +kernel) rfl ?_
  refine ab_istore_n (pc := 1) (n := 1) (i := 1) (lv' := [(0, .ref x0), (1, .int (-1 : Int32))]) (by decide +kernel) rfl (by decide) rfl rfl ?_
  refine ab_iconst (pc := 2) (n := 0) (v := nI 0) (by decide +kernel) rfl ?_
  refine ab_istore_n (pc := 3) (n := 2) (i := 2) (lv' := [(0, .ref x0), (1, .int (-1 : Int32)), (2, .int (nI 0))]) (by decide +kernel) rfl (by decide) rfl rfl ?_
  refine lX12_lastTaken_4 hl F x0 h F (-1 : Int32) (nI 0)
set_option maxRecDepth 100000 in
set_option maxHeartbeats 4000000 in
theorem okX12_lastTaken {l : Launch} (hl : l.stackTraces = false) {F : Nat} {x0 : Nat} {h : ab_H} {y : Int32} (e : fX12_lastTaken F x0 h = some y) : ab_Met l mX12_lastTaken [.ref x0] h (.inl (some (.int y)), h) := ab_ofS (io := (fun y : Int32 => ((.inl (some (.int y)), h) : ab_R × ab_H))) (x := y) hl (by decide) rfl (Nat.le_of_ble_eq_true rfl) (wX12_lastTaken hl F x0 h) e
def mX12_begins : ab_M := (yX12_begins, cX12_begins, 1, none, { frames := 0, cells := 0, slots := 0, locals := 0 })
theorem iX12_begins : ab_MI mX12_begins 0 := ⟨kw_b617f22485, kw_30b3f7d7c6, by decide +kernel⟩
def fX12_begins (x0 : Nat) (h : ab_H) : Option ab_H := ab_bd (ab_fw h x0 12 12 (.int (-1 : Int32))) fun h1 => ab_bd (ab_fw h1 x0 12 9 (.int (-1 : Int32))) fun h2 => ab_bd (ab_fi h2 x0 12 8) fun v3 => ab_bd (ab_fw h2 x0 12 10 (.int v3)) fun h4 => ab_bd (ab_fw h4 x0 12 8 (.int (nI 0))) fun h5 => ab_bd (ab_fw h5 x0 12 11 (.int (nI 0))) fun h6 => ab_bd (ab_fw h6 x0 12 13 (.int (nI 0))) fun h7 => some h7
set_option maxRecDepth 100000 in
set_option maxHeartbeats 4000000 in
theorem wX12_begins {l : Launch} (hl : l.stackTraces = false) (x0 : Nat) (h : ab_H) : ab_S l mX12_begins (fun y : ab_H => ((.inl none, y) : ab_R × ab_H)) 0 0 (fX12_begins x0 h) 0 [(0, .ref x0)] [] h := by
  unfold fX12_begins
  refine ab_aload_n (pc := 0) (n := 0) (i := 0) (j := 0) (by decide +kernel) rfl rfl ?_
  refine ab_iconst (pc := 1) (n := -1) (v := (-1 : Int32)) (by decide +kernel) rfl ?_
  refine ab_put (pc := 2) fl_X12_25_12 rfl (fun _ => rfl) (fun _ => rfl) (by decide +kernel) (fun h1 eh1 => ?_)
  refine ab_aload_n (pc := 5) (n := 0) (i := 0) (j := 0) (by decide +kernel) rfl rfl ?_
  refine ab_iconst (pc := 6) (n := -1) (v := (-1 : Int32)) (by decide +kernel) rfl ?_
  refine ab_put (pc := 7) fl_X12_64_12 rfl (fun _ => rfl) (fun _ => rfl) (by decide +kernel) (fun h2 eh2 => ?_)
  refine ab_aload_n (pc := 10) (n := 0) (i := 0) (j := 0) (by decide +kernel) rfl rfl ?_
  refine ab_aload_n (pc := 11) (n := 0) (i := 0) (j := 0) (by decide +kernel) rfl rfl ?_
  refine ab_getI (pc := 12) fl_X12_61_12 (by decide +kernel) (fun v3 ev3 => ?_)
  refine ab_put (pc := 15) fl_X12_70_12 rfl (fun _ => rfl) (fun _ => rfl) (by decide +kernel) (fun h4 eh4 => ?_)
  refine ab_aload_n (pc := 18) (n := 0) (i := 0) (j := 0) (by decide +kernel) rfl rfl ?_
  refine ab_iconst (pc := 19) (n := 0) (v := nI 0) (by decide +kernel) rfl ?_
  refine ab_put (pc := 20) fl_X12_61_12 rfl (fun _ => rfl) (fun _ => rfl) (by decide +kernel) (fun h5 eh5 => ?_)
  refine ab_aload_n (pc := 23) (n := 0) (i := 0) (j := 0) (by decide +kernel) rfl rfl ?_
  refine ab_iconst (pc := 24) (n := 0) (v := nI 0) (by decide +kernel) rfl ?_
  refine ab_put (pc := 25) fl_X12_67_12 rfl (fun _ => rfl) (fun _ => rfl) (by decide +kernel) (fun h6 eh6 => ?_)
  refine ab_aload_n (pc := 28) (n := 0) (i := 0) (j := 0) (by decide +kernel) rfl rfl ?_
  refine ab_iconst (pc := 29) (n := 0) (v := nI 0) (by decide +kernel) rfl ?_
  refine ab_put (pc := 30) fl_X12_157_12 rfl (fun _ => rfl) (fun _ => rfl) (by decide +kernel) (fun h7 eh7 => ?_)
  exact ab_vret (pc := 33) (by decide +kernel) rfl rfl (Nat.zero_le _) (Nat.zero_le _)
set_option maxRecDepth 100000 in
set_option maxHeartbeats 4000000 in
theorem okX12_begins {l : Launch} (hl : l.stackTraces = false) {x0 : Nat} {h : ab_H} {y : ab_H} (e : fX12_begins x0 h = some y) : ab_Met l mX12_begins [.ref x0] h (.inl none, y) := ab_ofS (io := (fun y : ab_H => ((.inl none, y) : ab_R × ab_H))) (x := y) hl (by decide) rfl (Nat.le_of_ble_eq_true rfl) (wX12_begins hl x0 h) e
def mX12_putsAside : ab_M := (yX12_putsAside, cX12_putsAside, 2, none, { frames := 0, cells := 0, slots := 0, locals := 0 })
theorem iX12_putsAside : ab_MI mX12_putsAside 0 := ⟨kw_aa2fcf4a69, kw_30b3f7d7c6, by decide +kernel⟩
def fX12_putsAside_2 (x0 : Nat) : Nat → Int32 → ab_H → Option ab_H
  | 0, _, _ => none
  | n + 1, x1, h => (if x1 < (nI 584) then ab_bd (ab_fr h x0 12 4) fun v2 => ab_bd (ab_fr h x0 12 1) fun v3 => ab_bd (ab_ia 0 h v3 x1) fun v4 => ab_bd (ab_iw 0 h v2 x1 v4) fun h5 => fX12_putsAside_2 x0 n (x1 + nI 1) h5 else some h)
def fX12_putsAside (F : Nat) (x0 : Nat) (h : ab_H) : Option ab_H := fX12_putsAside_2 x0 F (nI 0) h
set_option maxRecDepth 100000 in
set_option maxHeartbeats 4000000 in
theorem lX12_putsAside_2 {l : Launch} (hl : l.stackTraces = false) (x0 : Nat) : ∀ (n : Nat) (x1 : Int32) (h : ab_H), ab_S l mX12_putsAside (fun y : ab_H => ((.inl none, y) : ab_R × ab_H)) 0 0 (fX12_putsAside_2 x0 n x1 h) 2 [(0, .ref x0), (1, .int x1)] [] h := by
  intro n
  induction n with
  | zero =>
    intro x1 h
    exact ab_none
  | succ n ih =>
    intro x1 h
    rw [fX12_putsAside_2]
    refine ab_iload_n (pc := 2) (n := 1) (i := 1) (j := 1) (by decide +kernel) rfl rfl ?_
    refine ab_sipush (pc := 3) (n := 584) (v := nI 584) (by decide +kernel) (by decide) ?_
    refine ab_icmp_ge (off := 21) (pc := 6) (tgt := 27) (by decide +kernel) (by decide) (fun g1 => ?_) (fun g1 => ?_)
    · refine ab_aload_n (pc := 9) (n := 0) (i := 0) (j := 0) (by decide +kernel) rfl rfl ?_
      refine ab_getR (pc := 10) fl_X12_16_12 (by decide +kernel) (fun v2 ev2 => ?_)
      refine ab_iload_n (pc := 13) (n := 1) (i := 1) (j := 1) (by decide +kernel) rfl rfl ?_
      refine ab_aload_n (pc := 14) (n := 0) (i := 0) (j := 0) (by decide +kernel) rfl rfl ?_
      refine ab_getR (pc := 15) fl_X12_7_12 (by decide +kernel) (fun v3 ev3 => ?_)
      refine ab_iload_n (pc := 18) (n := 1) (i := 1) (j := 1) (by decide +kernel) rfl rfl ?_
      refine ab_iald (pc := 19) (by decide +kernel) (fun v4 ev4 => ?_)
      refine ab_iast (pc := 20) (by decide +kernel) (fun h5 eh5 => ?_)
      refine ab_iinc (pc := 21) (i := 1) (n := 1) (j := 1) (d := nI 1) (lv' := [(0, .ref x0), (1, .int (x1 + nI 1))]) (by decide +kernel) rfl rfl (by decide) rfl rfl ?_
      refine ab_goto (pc := 24) (off := (-22)) (tgt := 2) (by decide +kernel) (by decide) ?_
      exact ih (x1 + nI 1) h5
    · exact ab_vret (pc := 27) (by decide +kernel) rfl rfl (Nat.zero_le _) (Nat.zero_le _)
set_option maxRecDepth 100000 in
set_option maxHeartbeats 4000000 in
theorem wX12_putsAside {l : Launch} (hl : l.stackTraces = false) (F : Nat) (x0 : Nat) (h : ab_H) : ab_S l mX12_putsAside (fun y : ab_H => ((.inl none, y) : ab_R × ab_H)) 0 0 (fX12_putsAside F x0 h) 0 [(0, .ref x0)] [] h := by
  unfold fX12_putsAside
  refine ab_iconst (pc := 0) (n := 0) (v := nI 0) (by decide +kernel) rfl ?_
  refine ab_istore_n (pc := 1) (n := 1) (i := 1) (lv' := [(0, .ref x0), (1, .int (nI 0))]) (by decide +kernel) rfl (by decide) rfl rfl ?_
  refine lX12_putsAside_2 hl x0 F (nI 0) h
set_option maxRecDepth 100000 in
set_option maxHeartbeats 4000000 in
theorem okX12_putsAside {l : Launch} (hl : l.stackTraces = false) {F : Nat} {x0 : Nat} {h : ab_H} {y : ab_H} (e : fX12_putsAside F x0 h = some y) : ab_Met l mX12_putsAside [.ref x0] h (.inl none, y) := ab_ofS (io := (fun y : ab_H => ((.inl none, y) : ab_R × ab_H))) (x := y) hl (by decide) rfl (Nat.le_of_ble_eq_true rfl) (wX12_putsAside hl F x0 h) e
def mX12_comesBack : ab_M := (yX12_comesBack, cX12_comesBack, 2, none, { frames := 0, cells := 0, slots := 0, locals := 0 })
theorem iX12_comesBack : ab_MI mX12_comesBack 0 := ⟨kw_e9702c811d, kw_30b3f7d7c6, by decide +kernel⟩
def fX12_comesBack_2 (x0 : Nat) : Nat → Int32 → ab_H → Option ab_H
  | 0, _, _ => none
  | n + 1, x1, h => (if x1 < (nI 584) then ab_bd (ab_fr h x0 12 1) fun v2 => ab_bd (ab_fr h x0 12 4) fun v3 => ab_bd (ab_ia 0 h v3 x1) fun v4 => ab_bd (ab_iw 0 h v2 x1 v4) fun h5 => fX12_comesBack_2 x0 n (x1 + nI 1) h5 else some h)
def fX12_comesBack (F : Nat) (x0 : Nat) (h : ab_H) : Option ab_H := fX12_comesBack_2 x0 F (nI 0) h
set_option maxRecDepth 100000 in
set_option maxHeartbeats 4000000 in
theorem lX12_comesBack_2 {l : Launch} (hl : l.stackTraces = false) (x0 : Nat) : ∀ (n : Nat) (x1 : Int32) (h : ab_H), ab_S l mX12_comesBack (fun y : ab_H => ((.inl none, y) : ab_R × ab_H)) 0 0 (fX12_comesBack_2 x0 n x1 h) 2 [(0, .ref x0), (1, .int x1)] [] h := by
  intro n
  induction n with
  | zero =>
    intro x1 h
    exact ab_none
  | succ n ih =>
    intro x1 h
    rw [fX12_comesBack_2]
    refine ab_iload_n (pc := 2) (n := 1) (i := 1) (j := 1) (by decide +kernel) rfl rfl ?_
    refine ab_sipush (pc := 3) (n := 584) (v := nI 584) (by decide +kernel) (by decide) ?_
    refine ab_icmp_ge (off := 21) (pc := 6) (tgt := 27) (by decide +kernel) (by decide) (fun g1 => ?_) (fun g1 => ?_)
    · refine ab_aload_n (pc := 9) (n := 0) (i := 0) (j := 0) (by decide +kernel) rfl rfl ?_
      refine ab_getR (pc := 10) fl_X12_7_12 (by decide +kernel) (fun v2 ev2 => ?_)
      refine ab_iload_n (pc := 13) (n := 1) (i := 1) (j := 1) (by decide +kernel) rfl rfl ?_
      refine ab_aload_n (pc := 14) (n := 0) (i := 0) (j := 0) (by decide +kernel) rfl rfl ?_
      refine ab_getR (pc := 15) fl_X12_16_12 (by decide +kernel) (fun v3 ev3 => ?_)
      refine ab_iload_n (pc := 18) (n := 1) (i := 1) (j := 1) (by decide +kernel) rfl rfl ?_
      refine ab_iald (pc := 19) (by decide +kernel) (fun v4 ev4 => ?_)
      refine ab_iast (pc := 20) (by decide +kernel) (fun h5 eh5 => ?_)
      refine ab_iinc (pc := 21) (i := 1) (n := 1) (j := 1) (d := nI 1) (lv' := [(0, .ref x0), (1, .int (x1 + nI 1))]) (by decide +kernel) rfl rfl (by decide) rfl rfl ?_
      refine ab_goto (pc := 24) (off := (-22)) (tgt := 2) (by decide +kernel) (by decide) ?_
      exact ih (x1 + nI 1) h5
    · exact ab_vret (pc := 27) (by decide +kernel) rfl rfl (Nat.zero_le _) (Nat.zero_le _)
set_option maxRecDepth 100000 in
set_option maxHeartbeats 4000000 in
theorem wX12_comesBack {l : Launch} (hl : l.stackTraces = false) (F : Nat) (x0 : Nat) (h : ab_H) : ab_S l mX12_comesBack (fun y : ab_H => ((.inl none, y) : ab_R × ab_H)) 0 0 (fX12_comesBack F x0 h) 0 [(0, .ref x0)] [] h := by
  unfold fX12_comesBack
  refine ab_iconst (pc := 0) (n := 0) (v := nI 0) (by decide +kernel) rfl ?_
  refine ab_istore_n (pc := 1) (n := 1) (i := 1) (lv' := [(0, .ref x0), (1, .int (nI 0))]) (by decide +kernel) rfl (by decide) rfl rfl ?_
  refine lX12_comesBack_2 hl x0 F (nI 0) h
set_option maxRecDepth 100000 in
set_option maxHeartbeats 4000000 in
theorem okX12_comesBack {l : Launch} (hl : l.stackTraces = false) {F : Nat} {x0 : Nat} {h : ab_H} {y : ab_H} (e : fX12_comesBack F x0 h = some y) : ab_Met l mX12_comesBack [.ref x0] h (.inl none, y) := ab_ofS (io := (fun y : ab_H => ((.inl none, y) : ab_R × ab_H))) (x := y) hl (by decide) rfl (Nat.le_of_ble_eq_true rfl) (wX12_comesBack hl F x0 h) e
def mX12_fault : ab_M := (yX12_fault, cX12_fault, 1, (some .int), { frames := 0, cells := 0, slots := 0, locals := 0 })
theorem iX12_fault : ab_MI mX12_fault 0 := ⟨kw_4c0fe8cfb4, kw_30b3f7d7c6, by decide +kernel⟩
def fX12_fault (x0 : Nat) (h : ab_H) : Option (Int32 × ab_H) := ab_bd (ab_fw h x0 12 0 (.int (nI 0))) fun h1 => ab_bd (ab_fi h1 x0 12 12) fun v2 => some (v2, h1)
set_option maxRecDepth 100000 in
set_option maxHeartbeats 4000000 in
theorem wX12_fault {l : Launch} (hl : l.stackTraces = false) (x0 : Nat) (h : ab_H) : ab_S l mX12_fault (fun y : (Int32 × ab_H) => ((.inl (some (.int y.1)), y.2) : ab_R × ab_H)) 0 0 (fX12_fault x0 h) 0 [(0, .ref x0)] [] h := by
  unfold fX12_fault
  refine ab_aload_n (pc := 0) (n := 0) (i := 0) (j := 0) (by decide +kernel) rfl rfl ?_
  refine ab_iconst (pc := 1) (n := 0) (v := nI 0) (by decide +kernel) rfl ?_
  refine ab_put (pc := 2) fl_X12_50_12 rfl (fun _ => rfl) (fun _ => rfl) (by decide +kernel) (fun h1 eh1 => ?_)
  refine ab_aload_n (pc := 5) (n := 0) (i := 0) (j := 0) (by decide +kernel) rfl rfl ?_
  refine ab_getI (pc := 6) fl_X12_25_12 (by decide +kernel) (fun v2 ev2 => ?_)
  exact ab_iret (pc := 9) (by decide +kernel) rfl rfl (Nat.zero_le _) (Nat.zero_le _)
set_option maxRecDepth 100000 in
set_option maxHeartbeats 4000000 in
theorem okX12_fault {l : Launch} (hl : l.stackTraces = false) {x0 : Nat} {h : ab_H} {y : (Int32 × ab_H)} (e : fX12_fault x0 h = some y) : ab_Met l mX12_fault [.ref x0] h (.inl (some (.int y.1)), y.2) := ab_ofS (io := (fun y : (Int32 × ab_H) => ((.inl (some (.int y.1)), y.2) : ab_R × ab_H))) (x := y) hl (by decide) rfl (Nat.le_of_ble_eq_true rfl) (wX12_fault hl x0 h) e
def mX12_ring : ab_M := (yX12_ring, cX12_ring, 4, (some .int), { frames := 2, cells := 0, slots := 0, locals := 44 })
theorem iX12_ring : ab_MI mX12_ring 1 := ⟨kw_1fd16a4c50, kw_30b3f7d7c6, by decide +kernel⟩
theorem lk_X12_247_12 : ab_LV RX12 247 12 mX12_wearer 1 := ⟨RX12, rfl, iX12_wearer, kw_344f3453c8, kw_ec700c763b, kw_abaa3c82b5⟩
def fX12_ring_4 (F : Nat) (x0 : Nat) (h : ab_H) : Nat → Int32 → Int32 → Option Int32
  | 0, _, _ => none
  | n + 1, x2, x3 => (if x3 = (-1 : Int32) then some x2 else ab_bd (fX12_isOf x2 x3 h) fun v2 => (if v2 = 0 then ab_ck (ab_io h x0 12 = true) (ab_bd (fX12_wearer F x0 x3 h) fun v4 => fX12_ring_4 F x0 h n (x2 ||| ((nI 1) <<< (x3 &&& 31))) v4) else some x2))
def fX12_ring (F : Nat) (x0 : Nat) (x1 : Int32) (h : ab_H) : Option Int32 := fX12_ring_4 F x0 h F (nI 0) x1
set_option maxRecDepth 100000 in
set_option maxHeartbeats 4000000 in
theorem lX12_ring_4 {l : Launch} (hl : l.stackTraces = false) (F : Nat) (x0 : Nat) (h : ab_H) : ∀ (n : Nat) (x2 : Int32) (x3 : Int32), ab_S l mX12_ring (fun y : Int32 => ((.inl (some (.int y)), h) : ab_R × ab_H)) 0 0 (fX12_ring_4 F x0 h n x2 x3) 4 [(0, .ref x0), (2, .int x2), (3, .int x3)] [] h := by
  intro n
  induction n with
  | zero =>
    intro x2 x3
    exact ab_none
  | succ n ih =>
    intro x2 x3
    rw [fX12_ring_4]
    refine ab_iload_n (pc := 4) (n := 3) (i := 3) (j := 2) (by decide +kernel) rfl rfl ?_
    refine ab_iconst (pc := 5) (n := -1) (v := (-1 : Int32)) (by decide +kernel) rfl ?_
    refine ab_icmp_eq (off := 26) (pc := 6) (tgt := 32) (by decide +kernel) (by decide) (fun g1 => ?_) (fun g1 => ?_)
    · refine ab_iload_n (pc := 32) (n := 2) (i := 2) (j := 1) (by decide +kernel) rfl rfl ?_
      exact ab_iret (pc := 33) (by decide +kernel) rfl rfl (Nat.zero_le _) (Nat.zero_le _)
    · refine ab_iload_n (pc := 9) (n := 2) (i := 2) (j := 1) (by decide +kernel) rfl rfl ?_
      refine ab_iload_n (pc := 10) (n := 3) (i := 3) (j := 2) (by decide +kernel) rfl rfl ?_
      refine ab_callSi (As := [.int x2, .int x3]) (st := []) (pc := 11) lk_X12_107 rfl rfl rfl (by decide) (by decide) (Nat.le_of_ble_eq_true rfl) (by decide +kernel) (fun y9 e9 => okX12_isOf hl e9) (fun v2 ev2 => ?_)
      refine ab_if_ne (off := 18) (pc := 14) (tgt := 32) (by decide +kernel) (by decide) (fun g3 => ?_) (fun g3 => ?_)
      · refine ab_iload_n (pc := 17) (n := 2) (i := 2) (j := 1) (by decide +kernel) rfl rfl ?_
        refine ab_iconst (pc := 18) (n := 1) (v := nI 1) (by decide +kernel) rfl ?_
        refine ab_iload_n (pc := 19) (n := 3) (i := 3) (j := 2) (by decide +kernel) rfl rfl ?_
        refine ab_ishl (pc := 20) (by decide +kernel) ?_
        refine ab_ior (pc := 21) (by decide +kernel) ?_
        refine ab_istore_n (pc := 22) (n := 2) (i := 2) (lv' := [(0, .ref x0), (2, .int (x2 ||| ((nI 1) <<< (x3 &&& 31)))), (3, .int x3)]) (by decide +kernel) rfl (by decide) rfl rfl ?_
        refine ab_aload_n (pc := 23) (n := 0) (i := 0) (j := 0) (by decide +kernel) rfl rfl ?_
        refine ab_iload_n (pc := 24) (n := 3) (i := 3) (j := 2) (by decide +kernel) rfl rfl ?_
        refine ab_callVi (As := [.int x3]) (st := []) (pc := 25) lk_X12_247_12 rfl rfl rfl (by decide) (by decide) (Nat.le_of_ble_eq_true rfl) (by decide +kernel) (fun y9 e9 => okX12_wearer hl (F := F) e9) (fun v4 ev4 => ?_)
        refine ab_istore_n (pc := 28) (n := 3) (i := 3) (lv' := [(0, .ref x0), (2, .int (x2 ||| ((nI 1) <<< (x3 &&& 31)))), (3, .int v4)]) (by decide +kernel) rfl (by decide) rfl rfl ?_
        refine ab_goto (pc := 29) (off := (-25)) (tgt := 4) (by decide +kernel) (by decide) ?_
        exact ih (x2 ||| ((nI 1) <<< (x3 &&& 31))) v4
      · refine ab_iload_n (pc := 32) (n := 2) (i := 2) (j := 1) (by decide +kernel) rfl rfl ?_
        exact ab_iret (pc := 33) (by decide +kernel) rfl rfl (Nat.zero_le _) (Nat.zero_le _)
set_option maxRecDepth 100000 in
set_option maxHeartbeats 4000000 in
theorem wX12_ring {l : Launch} (hl : l.stackTraces = false) (F : Nat) (x0 : Nat) (x1 : Int32) (h : ab_H) : ab_S l mX12_ring (fun y : Int32 => ((.inl (some (.int y)), h) : ab_R × ab_H)) 0 0 (fX12_ring F x0 x1 h) 0 [(0, .ref x0), (1, .int x1)] [] h := by
  unfold fX12_ring
  refine ab_iconst (pc := 0) (n := 0) (v := nI 0) (by decide +kernel) rfl ?_
  refine ab_istore_n (pc := 1) (n := 2) (i := 2) (lv' := [(0, .ref x0), (1, .int x1), (2, .int (nI 0))]) (by decide +kernel) rfl (by decide) rfl rfl ?_
  refine ab_iload_n (pc := 2) (n := 1) (i := 1) (j := 1) (by decide +kernel) rfl rfl ?_
  refine ab_istore_n (pc := 3) (n := 3) (i := 3) (lv' := [(0, .ref x0), (1, .int x1), (2, .int (nI 0)), (3, .int x1)]) (by decide +kernel) rfl (by decide) rfl rfl ?_
  refine ab_few [0, 2, 3] (lv' := [(0, .ref x0), (2, .int (nI 0)), (3, .int x1)]) rfl ?_
  refine lX12_ring_4 hl F x0 h F (nI 0) x1
set_option maxRecDepth 100000 in
set_option maxHeartbeats 4000000 in
theorem okX12_ring {l : Launch} (hl : l.stackTraces = false) {F : Nat} {x0 : Nat} {x1 : Int32} {h : ab_H} {y : Int32} (e : fX12_ring F x0 x1 h = some y) : ab_Met l mX12_ring [.ref x0, .int x1] h (.inl (some (.int y)), h) := ab_ofS (io := (fun y : Int32 => ((.inl (some (.int y)), h) : ab_R × ab_H))) (x := y) hl (by decide) rfl (Nat.le_of_ble_eq_true rfl) (wX12_ring hl F x0 x1 h) e
def mX12_person : ab_M := (yX12_person, cX12_person, 3, (some .int), { frames := 3, cells := 0, slots := 0, locals := 67 })
theorem iX12_person : ab_MI mX12_person 2 := ⟨kw_3a3cad029a, kw_30b3f7d7c6, by decide +kernel⟩
theorem lk_X12_250_12 : ab_LV RX12 250 12 mX12_isPerson 1 := ⟨RX12, rfl, iX12_isPerson, kw_62391ec76f, kw_ee4a17dd17, kw_52d462f113⟩
theorem lk_X12_253_12 : ab_LV RX12 253 12 mX12_ring 1 := ⟨RX12, rfl, iX12_ring, kw_a80f2da9c6, kw_b985f2f9d2, kw_0d52396c27⟩
def fX12_person (F : Nat) (x0 : Nat) (x1 : Int32) (x2 : Int32) (h : ab_H) : Option (Int32 × ab_H) := ab_ck (ab_io h x0 12 = true) (ab_bd (fX12_isPerson x0 x1 h) fun v1 => ab_jn (κ := Int32 → Option (Int32 × ab_H)) (fun (z2 : Int32) => ab_bd (ab_fw h x0 12 0 (.int z2)) fun h3 => ab_bd (ab_fi h3 x0 12 0) fun v4 => (if v4 ≤ 0 then (if x2 < (nI 5) then ab_ck (ab_io h3 x0 12 = true) (ab_bd (fX12_of x0 x1 (x2 + (nI 1)) h3) fun v7 => some (v7, h3)) else ab_ck (ab_io h3 x0 12 = true) (ab_bd (fX12_ring F x0 x1 h3) fun v8 => some (v8, h3))) else some (nI 0, h3))) fun j9 => (if v1 = 0 then j9 (nI 1) else ab_bd (fX12_isIn x2 (nI 0) (nI 5) h) fun v11 => (if v11 = 0 then j9 (nI 2) else j9 (nI 0))))
set_option maxRecDepth 100000 in
set_option maxHeartbeats 4000000 in
theorem wX12_person {l : Launch} (hl : l.stackTraces = false) (F : Nat) (x0 : Nat) (x1 : Int32) (x2 : Int32) (h : ab_H) : ab_S l mX12_person (fun y : (Int32 × ab_H) => ((.inl (some (.int y.1)), y.2) : ab_R × ab_H)) 0 0 (fX12_person F x0 x1 x2 h) 0 [(0, .ref x0), (1, .int x1), (2, .int x2)] [] h := by
  unfold fX12_person
  refine ab_aload_n (pc := 0) (n := 0) (i := 0) (j := 0) (by decide +kernel) rfl rfl ?_
  refine ab_aload_n (pc := 1) (n := 0) (i := 0) (j := 0) (by decide +kernel) rfl rfl ?_
  refine ab_iload_n (pc := 2) (n := 1) (i := 1) (j := 1) (by decide +kernel) rfl rfl ?_
  refine ab_callVi (As := [.int x1]) (st := [.ref x0]) (pc := 3) lk_X12_250_12 rfl rfl rfl (by decide) (by decide) (Nat.le_of_ble_eq_true rfl) (by decide +kernel) (fun y9 e9 => okX12_isPerson hl e9) (fun v1 ev1 => ?_)
  refine ab_jr (fun k9 : Int32 → Option (Int32 × ab_H) => ∀ (z2 : Int32), ab_S l mX12_person (fun y : (Int32 × ab_H) => ((.inl (some (.int y.1)), y.2) : ab_R × ab_H)) 0 0 (k9 z2) 27 [(0, .ref x0), (1, .int x1), (2, .int x2)] [.int z2, .ref x0] h) ?_ (fun j9 hj9 => ?_)
  · intro z2
    refine ab_put (pc := 27) fl_X12_50_12 rfl (fun _ => rfl) (fun _ => rfl) (by decide +kernel) (fun h3 eh3 => ?_)
    refine ab_aload_n (pc := 30) (n := 0) (i := 0) (j := 0) (by decide +kernel) rfl rfl ?_
    refine ab_getI (pc := 31) fl_X12_50_12 (by decide +kernel) (fun v4 ev4 => ?_)
    refine ab_if_le (off := 5) (pc := 34) (tgt := 39) (by decide +kernel) (by decide) (fun g5 => ?_) (fun g5 => ?_)
    · refine ab_iload_n (pc := 39) (n := 2) (i := 2) (j := 2) (by decide +kernel) rfl rfl ?_
      refine ab_iconst (pc := 40) (n := 5) (v := nI 5) (by decide +kernel) rfl ?_
      refine ab_icmp_ge (off := 14) (pc := 41) (tgt := 55) (by decide +kernel) (by decide) (fun g6 => ?_) (fun g6 => ?_)
      · refine ab_aload_n (pc := 44) (n := 0) (i := 0) (j := 0) (by decide +kernel) rfl rfl ?_
        refine ab_iload_n (pc := 45) (n := 1) (i := 1) (j := 1) (by decide +kernel) rfl rfl ?_
        refine ab_iload_n (pc := 46) (n := 2) (i := 2) (j := 2) (by decide +kernel) rfl rfl ?_
        refine ab_iconst (pc := 47) (n := 1) (v := nI 1) (by decide +kernel) rfl ?_
        refine ab_iadd (pc := 48) (by decide +kernel) ?_
        refine ab_callVi (As := [.int x1, .int (x2 + (nI 1))]) (st := []) (pc := 49) lk_X12_57_12 rfl rfl rfl (by decide) (by decide) (Nat.le_of_ble_eq_true rfl) (by decide +kernel) (fun y9 e9 => okX12_of hl e9) (fun v7 ev7 => ?_)
        refine ab_goto (pc := 52) (off := 8) (tgt := 60) (by decide +kernel) (by decide) ?_
        exact ab_iret (pc := 60) (by decide +kernel) rfl rfl (Nat.zero_le _) (Nat.zero_le _)
      · refine ab_aload_n (pc := 55) (n := 0) (i := 0) (j := 0) (by decide +kernel) rfl rfl ?_
        refine ab_iload_n (pc := 56) (n := 1) (i := 1) (j := 1) (by decide +kernel) rfl rfl ?_
        refine ab_callVi (As := [.int x1]) (st := []) (pc := 57) lk_X12_253_12 rfl rfl rfl (by decide) (by decide) (Nat.le_of_ble_eq_true rfl) (by decide +kernel) (fun y9 e9 => okX12_ring hl (F := F) e9) (fun v8 ev8 => ?_)
        exact ab_iret (pc := 60) (by decide +kernel) rfl rfl (Nat.zero_le _) (Nat.zero_le _)
    · refine ab_iconst (pc := 37) (n := 0) (v := nI 0) (by decide +kernel) rfl ?_
      exact ab_iret (pc := 38) (by decide +kernel) rfl rfl (Nat.zero_le _) (Nat.zero_le _)
  · refine ab_if_ne (off := 7) (pc := 6) (tgt := 13) (by decide +kernel) (by decide) (fun g10 => ?_) (fun g10 => ?_)
    · refine ab_iconst (pc := 9) (n := 1) (v := nI 1) (by decide +kernel) rfl ?_
      refine ab_goto (pc := 10) (off := 17) (tgt := 27) (by decide +kernel) (by decide) ?_
      exact hj9 (nI 1)
    · refine ab_iload_n (pc := 13) (n := 2) (i := 2) (j := 2) (by decide +kernel) rfl rfl ?_
      refine ab_iconst (pc := 14) (n := 0) (v := nI 0) (by decide +kernel) rfl ?_
      refine ab_iconst (pc := 15) (n := 5) (v := nI 5) (by decide +kernel) rfl ?_
      refine ab_callSi (As := [.int x2, .int (nI 0), .int (nI 5)]) (st := [.ref x0]) (pc := 16) lk_X12_53 rfl rfl rfl (by decide) (by decide) (Nat.le_of_ble_eq_true rfl) (by decide +kernel) (fun y9 e9 => okX12_isIn hl e9) (fun v11 ev11 => ?_)
      refine ab_if_ne (off := 7) (pc := 19) (tgt := 26) (by decide +kernel) (by decide) (fun g12 => ?_) (fun g12 => ?_)
      · refine ab_iconst (pc := 22) (n := 2) (v := nI 2) (by decide +kernel) rfl ?_
        refine ab_goto (pc := 23) (off := 4) (tgt := 27) (by decide +kernel) (by decide) ?_
        exact hj9 (nI 2)
      · refine ab_iconst (pc := 26) (n := 0) (v := nI 0) (by decide +kernel) rfl ?_
        exact hj9 (nI 0)
set_option maxRecDepth 100000 in
set_option maxHeartbeats 4000000 in
theorem okX12_person {l : Launch} (hl : l.stackTraces = false) {F : Nat} {x0 : Nat} {x1 : Int32} {x2 : Int32} {h : ab_H} {y : (Int32 × ab_H)} (e : fX12_person F x0 x1 x2 h = some y) : ab_Met l mX12_person [.ref x0, .int x1, .int x2] h (.inl (some (.int y.1)), y.2) := ab_ofS (io := (fun y : (Int32 × ab_H) => ((.inl (some (.int y.1)), y.2) : ab_R × ab_H))) (x := y) hl (by decide) rfl (Nat.le_of_ble_eq_true rfl) (wX12_person hl F x0 x1 x2 h) e
def mX12_alike : ab_M := (yX12_alike, cX12_alike, 4, (some .int), { frames := 1, cells := 0, slots := 0, locals := 22 })
theorem iX12_alike : ab_MI mX12_alike 1 := ⟨kw_cd4da646a8, kw_30b3f7d7c6, by decide +kernel⟩
def fX12_alike_4 (x0 : Nat) (x1 : Int32) (h : ab_H) : Nat → Int32 → Int32 → Option Int32
  | 0, _, _ => none
  | n + 1, x2, x3 => ab_bd (ab_fr h x0 12 1) fun v1 => ab_bd (ab_ia 0 h v1 (nI 3)) fun v2 => (if x3 < v2 then (if x3 = x1 then fX12_alike_4 x0 x1 h n (x2 ||| (nI 0)) (x3 + nI 1) else ab_ck (ab_io h x0 12 = true) (ab_bd (fX12_of x0 x3 (nI 0) h) fun v5 => ab_ck (ab_io h x0 12 = true) (ab_bd (fX12_of x0 x1 (nI 0) h) fun v6 => (if v5 = v6 then fX12_alike_4 x0 x1 h n (x2 ||| ((nI 1) <<< (x3 &&& 31))) (x3 + nI 1) else fX12_alike_4 x0 x1 h n (x2 ||| (nI 0)) (x3 + nI 1))))) else some x2)
def fX12_alike (F : Nat) (x0 : Nat) (x1 : Int32) (h : ab_H) : Option Int32 := fX12_alike_4 x0 x1 h F (nI 0) (nI 0)
set_option maxRecDepth 100000 in
set_option maxHeartbeats 4000000 in
theorem lX12_alike_4 {l : Launch} (hl : l.stackTraces = false) (x0 : Nat) (x1 : Int32) (h : ab_H) : ∀ (n : Nat) (x2 : Int32) (x3 : Int32), ab_S l mX12_alike (fun y : Int32 => ((.inl (some (.int y)), h) : ab_R × ab_H)) 0 0 (fX12_alike_4 x0 x1 h n x2 x3) 4 [(0, .ref x0), (1, .int x1), (2, .int x2), (3, .int x3)] [] h := by
  intro n
  induction n with
  | zero =>
    intro x2 x3
    exact ab_none
  | succ n ih =>
    intro x2 x3
    rw [fX12_alike_4]
    refine ab_iload_n (pc := 4) (n := 3) (i := 3) (j := 3) (by decide +kernel) rfl rfl ?_
    refine ab_aload_n (pc := 5) (n := 0) (i := 0) (j := 0) (by decide +kernel) rfl rfl ?_
    refine ab_getR (pc := 6) fl_X12_7_12 (by decide +kernel) (fun v1 ev1 => ?_)
    refine ab_iconst (pc := 9) (n := 3) (v := nI 3) (by decide +kernel) rfl ?_
    refine ab_iald (pc := 10) (by decide +kernel) (fun v2 ev2 => ?_)
    refine ab_icmp_ge (off := 39) (pc := 11) (tgt := 50) (by decide +kernel) (by decide) (fun g3 => ?_) (fun g3 => ?_)
    · refine ab_iload_n (pc := 14) (n := 2) (i := 2) (j := 2) (by decide +kernel) rfl rfl ?_
      refine ab_iload_n (pc := 15) (n := 3) (i := 3) (j := 3) (by decide +kernel) rfl rfl ?_
      refine ab_iload_n (pc := 16) (n := 1) (i := 1) (j := 1) (by decide +kernel) rfl rfl ?_
      refine ab_icmp_eq (off := 24) (pc := 17) (tgt := 41) (by decide +kernel) (by decide) (fun g4 => ?_) (fun g4 => ?_)
      · refine ab_iconst (pc := 41) (n := 0) (v := nI 0) (by decide +kernel) rfl ?_
        refine ab_ior (pc := 42) (by decide +kernel) ?_
        refine ab_istore_n (pc := 43) (n := 2) (i := 2) (lv' := [(0, .ref x0), (1, .int x1), (2, .int (x2 ||| (nI 0))), (3, .int x3)]) (by decide +kernel) rfl (by decide) rfl rfl ?_
        refine ab_iinc (pc := 44) (i := 3) (n := 1) (j := 3) (d := nI 1) (lv' := [(0, .ref x0), (1, .int x1), (2, .int (x2 ||| (nI 0))), (3, .int (x3 + nI 1))]) (by decide +kernel) rfl rfl (by decide) rfl rfl ?_
        refine ab_goto (pc := 47) (off := (-43)) (tgt := 4) (by decide +kernel) (by decide) ?_
        exact ih (x2 ||| (nI 0)) (x3 + nI 1)
      · refine ab_aload_n (pc := 20) (n := 0) (i := 0) (j := 0) (by decide +kernel) rfl rfl ?_
        refine ab_iload_n (pc := 21) (n := 3) (i := 3) (j := 3) (by decide +kernel) rfl rfl ?_
        refine ab_iconst (pc := 22) (n := 0) (v := nI 0) (by decide +kernel) rfl ?_
        refine ab_callVi (As := [.int x3, .int (nI 0)]) (st := [.int x2]) (pc := 23) lk_X12_57_12 rfl rfl rfl (by decide) (by decide) (Nat.le_of_ble_eq_true rfl) (by decide +kernel) (fun y9 e9 => okX12_of hl e9) (fun v5 ev5 => ?_)
        refine ab_aload_n (pc := 26) (n := 0) (i := 0) (j := 0) (by decide +kernel) rfl rfl ?_
        refine ab_iload_n (pc := 27) (n := 1) (i := 1) (j := 1) (by decide +kernel) rfl rfl ?_
        refine ab_iconst (pc := 28) (n := 0) (v := nI 0) (by decide +kernel) rfl ?_
        refine ab_callVi (As := [.int x1, .int (nI 0)]) (st := [.int v5, .int x2]) (pc := 29) lk_X12_57_12 rfl rfl rfl (by decide) (by decide) (Nat.le_of_ble_eq_true rfl) (by decide +kernel) (fun y9 e9 => okX12_of hl e9) (fun v6 ev6 => ?_)
        refine ab_icmp_ne (off := 9) (pc := 32) (tgt := 41) (by decide +kernel) (by decide) (fun g7 => ?_) (fun g7 => ?_)
        · refine ab_iconst (pc := 35) (n := 1) (v := nI 1) (by decide +kernel) rfl ?_
          refine ab_iload_n (pc := 36) (n := 3) (i := 3) (j := 3) (by decide +kernel) rfl rfl ?_
          refine ab_ishl (pc := 37) (by decide +kernel) ?_
          refine ab_goto (pc := 38) (off := 4) (tgt := 42) (by decide +kernel) (by decide) ?_
          refine ab_ior (pc := 42) (by decide +kernel) ?_
          refine ab_istore_n (pc := 43) (n := 2) (i := 2) (lv' := [(0, .ref x0), (1, .int x1), (2, .int (x2 ||| ((nI 1) <<< (x3 &&& 31)))), (3, .int x3)]) (by decide +kernel) rfl (by decide) rfl rfl ?_
          refine ab_iinc (pc := 44) (i := 3) (n := 1) (j := 3) (d := nI 1) (lv' := [(0, .ref x0), (1, .int x1), (2, .int (x2 ||| ((nI 1) <<< (x3 &&& 31)))), (3, .int (x3 + nI 1))]) (by decide +kernel) rfl rfl (by decide) rfl rfl ?_
          refine ab_goto (pc := 47) (off := (-43)) (tgt := 4) (by decide +kernel) (by decide) ?_
          exact ih (x2 ||| ((nI 1) <<< (x3 &&& 31))) (x3 + nI 1)
        · refine ab_iconst (pc := 41) (n := 0) (v := nI 0) (by decide +kernel) rfl ?_
          refine ab_ior (pc := 42) (by decide +kernel) ?_
          refine ab_istore_n (pc := 43) (n := 2) (i := 2) (lv' := [(0, .ref x0), (1, .int x1), (2, .int (x2 ||| (nI 0))), (3, .int x3)]) (by decide +kernel) rfl (by decide) rfl rfl ?_
          refine ab_iinc (pc := 44) (i := 3) (n := 1) (j := 3) (d := nI 1) (lv' := [(0, .ref x0), (1, .int x1), (2, .int (x2 ||| (nI 0))), (3, .int (x3 + nI 1))]) (by decide +kernel) rfl rfl (by decide) rfl rfl ?_
          refine ab_goto (pc := 47) (off := (-43)) (tgt := 4) (by decide +kernel) (by decide) ?_
          exact ih (x2 ||| (nI 0)) (x3 + nI 1)
    · refine ab_iload_n (pc := 50) (n := 2) (i := 2) (j := 2) (by decide +kernel) rfl rfl ?_
      exact ab_iret (pc := 51) (by decide +kernel) rfl rfl (Nat.zero_le _) (Nat.zero_le _)
set_option maxRecDepth 100000 in
set_option maxHeartbeats 4000000 in
theorem wX12_alike {l : Launch} (hl : l.stackTraces = false) (F : Nat) (x0 : Nat) (x1 : Int32) (h : ab_H) : ab_S l mX12_alike (fun y : Int32 => ((.inl (some (.int y)), h) : ab_R × ab_H)) 0 0 (fX12_alike F x0 x1 h) 0 [(0, .ref x0), (1, .int x1)] [] h := by
  unfold fX12_alike
  refine ab_iconst (pc := 0) (n := 0) (v := nI 0) (by decide +kernel) rfl ?_
  refine ab_istore_n (pc := 1) (n := 2) (i := 2) (lv' := [(0, .ref x0), (1, .int x1), (2, .int (nI 0))]) (by decide +kernel) rfl (by decide) rfl rfl ?_
  refine ab_iconst (pc := 2) (n := 0) (v := nI 0) (by decide +kernel) rfl ?_
  refine ab_istore_n (pc := 3) (n := 3) (i := 3) (lv' := [(0, .ref x0), (1, .int x1), (2, .int (nI 0)), (3, .int (nI 0))]) (by decide +kernel) rfl (by decide) rfl rfl ?_
  refine lX12_alike_4 hl x0 x1 h F (nI 0) (nI 0)
set_option maxRecDepth 100000 in
set_option maxHeartbeats 4000000 in
theorem okX12_alike {l : Launch} (hl : l.stackTraces = false) {F : Nat} {x0 : Nat} {x1 : Int32} {h : ab_H} {y : Int32} (e : fX12_alike F x0 x1 h = some y) : ab_Met l mX12_alike [.ref x0, .int x1] h (.inl (some (.int y)), h) := ab_ofS (io := (fun y : Int32 => ((.inl (some (.int y)), h) : ab_R × ab_H))) (x := y) hl (by decide) rfl (Nat.le_of_ble_eq_true rfl) (wX12_alike hl F x0 x1 h) e
def mX12_face : ab_M := (yX12_face, cX12_face, 3, (some .int), { frames := 2, cells := 0, slots := 0, locals := 45 })
theorem iX12_face : ab_MI mX12_face 2 := ⟨kw_0d1d2035c9, kw_30b3f7d7c6, by decide +kernel⟩
theorem lk_X12_256_12 : ab_LV RX12 256 12 mX12_hookOf 1 := ⟨RX12, rfl, iX12_hookOf, kw_4f509058fd, kw_f32432b618, kw_b5c4fef769⟩
theorem lk_X12_259_12 : ab_LV RX12 259 12 mX12_alike 1 := ⟨RX12, rfl, iX12_alike, kw_9e915c447a, kw_acb5ebd508, kw_0852e85837⟩
def fX12_face (F : Nat) (x0 : Nat) (x1 : Int32) (x2 : Int32) (h : ab_H) : Option (Int32 × ab_H) := ab_ck (ab_io h x0 12 = true) (ab_bd (fX12_isPerson x0 x1 h) fun v1 => ab_jn (κ := Int32 → Option (Int32 × ab_H)) (fun (z2 : Int32) => ab_bd (ab_fw h x0 12 0 (.int z2)) fun h3 => ab_bd (ab_fi h3 x0 12 0) fun v4 => (if v4 ≤ 0 then (if x2 = 0 then ab_ck (ab_io h3 x0 12 = true) (ab_bd (fX12_of x0 x1 (nI 0) h3) fun v7 => some (v7, h3)) else (if x2 = (nI 1) then ab_ck (ab_io h3 x0 12 = true) (ab_bd (fX12_wearer F x0 x1 h3) fun v9 => some (v9, h3)) else (if x2 = (nI 2) then ab_ck (ab_io h3 x0 12 = true) (ab_bd (fX12_hookOf F x0 x1 h3) fun v11 => some (v11, h3)) else ab_ck (ab_io h3 x0 12 = true) (ab_bd (fX12_alike F x0 x1 h3) fun v12 => some (v12, h3))))) else some (nI 0, h3))) fun j13 => (if v1 = 0 then j13 (nI 1) else ab_bd (fX12_isIn x2 (nI 0) (nI 3) h) fun v15 => (if v15 = 0 then j13 (nI 2) else j13 (nI 0))))
set_option maxRecDepth 100000 in
set_option maxHeartbeats 4000000 in
theorem wX12_face {l : Launch} (hl : l.stackTraces = false) (F : Nat) (x0 : Nat) (x1 : Int32) (x2 : Int32) (h : ab_H) : ab_S l mX12_face (fun y : (Int32 × ab_H) => ((.inl (some (.int y.1)), y.2) : ab_R × ab_H)) 0 0 (fX12_face F x0 x1 x2 h) 0 [(0, .ref x0), (1, .int x1), (2, .int x2)] [] h := by
  unfold fX12_face
  refine ab_aload_n (pc := 0) (n := 0) (i := 0) (j := 0) (by decide +kernel) rfl rfl ?_
  refine ab_aload_n (pc := 1) (n := 0) (i := 0) (j := 0) (by decide +kernel) rfl rfl ?_
  refine ab_iload_n (pc := 2) (n := 1) (i := 1) (j := 1) (by decide +kernel) rfl rfl ?_
  refine ab_callVi (As := [.int x1]) (st := [.ref x0]) (pc := 3) lk_X12_250_12 rfl rfl rfl (by decide) (by decide) (Nat.le_of_ble_eq_true rfl) (by decide +kernel) (fun y9 e9 => okX12_isPerson hl e9) (fun v1 ev1 => ?_)
  refine ab_jr (fun k9 : Int32 → Option (Int32 × ab_H) => ∀ (z2 : Int32), ab_S l mX12_face (fun y : (Int32 × ab_H) => ((.inl (some (.int y.1)), y.2) : ab_R × ab_H)) 0 0 (k9 z2) 27 [(0, .ref x0), (1, .int x1), (2, .int x2)] [.int z2, .ref x0] h) ?_ (fun j13 hj13 => ?_)
  · intro z2
    refine ab_put (pc := 27) fl_X12_50_12 rfl (fun _ => rfl) (fun _ => rfl) (by decide +kernel) (fun h3 eh3 => ?_)
    refine ab_aload_n (pc := 30) (n := 0) (i := 0) (j := 0) (by decide +kernel) rfl rfl ?_
    refine ab_getI (pc := 31) fl_X12_50_12 (by decide +kernel) (fun v4 ev4 => ?_)
    refine ab_if_le (off := 5) (pc := 34) (tgt := 39) (by decide +kernel) (by decide) (fun g5 => ?_) (fun g5 => ?_)
    · refine ab_iload_n (pc := 39) (n := 2) (i := 2) (j := 2) (by decide +kernel) rfl rfl ?_
      refine ab_if_ne (off := 12) (pc := 40) (tgt := 52) (by decide +kernel) (by decide) (fun g6 => ?_) (fun g6 => ?_)
      · refine ab_aload_n (pc := 43) (n := 0) (i := 0) (j := 0) (by decide +kernel) rfl rfl ?_
        refine ab_iload_n (pc := 44) (n := 1) (i := 1) (j := 1) (by decide +kernel) rfl rfl ?_
        refine ab_iconst (pc := 45) (n := 0) (v := nI 0) (by decide +kernel) rfl ?_
        refine ab_callVi (As := [.int x1, .int (nI 0)]) (st := []) (pc := 46) lk_X12_57_12 rfl rfl rfl (by decide) (by decide) (Nat.le_of_ble_eq_true rfl) (by decide +kernel) (fun y9 e9 => okX12_of hl e9) (fun v7 ev7 => ?_)
        refine ab_goto (pc := 49) (off := 34) (tgt := 83) (by decide +kernel) (by decide) ?_
        exact ab_iret (pc := 83) (by decide +kernel) rfl rfl (Nat.zero_le _) (Nat.zero_le _)
      · refine ab_iload_n (pc := 52) (n := 2) (i := 2) (j := 2) (by decide +kernel) rfl rfl ?_
        refine ab_iconst (pc := 53) (n := 1) (v := nI 1) (by decide +kernel) rfl ?_
        refine ab_icmp_ne (off := 11) (pc := 54) (tgt := 65) (by decide +kernel) (by decide) (fun g8 => ?_) (fun g8 => ?_)
        · refine ab_aload_n (pc := 57) (n := 0) (i := 0) (j := 0) (by decide +kernel) rfl rfl ?_
          refine ab_iload_n (pc := 58) (n := 1) (i := 1) (j := 1) (by decide +kernel) rfl rfl ?_
          refine ab_callVi (As := [.int x1]) (st := []) (pc := 59) lk_X12_247_12 rfl rfl rfl (by decide) (by decide) (Nat.le_of_ble_eq_true rfl) (by decide +kernel) (fun y9 e9 => okX12_wearer hl (F := F) e9) (fun v9 ev9 => ?_)
          refine ab_goto (pc := 62) (off := 21) (tgt := 83) (by decide +kernel) (by decide) ?_
          exact ab_iret (pc := 83) (by decide +kernel) rfl rfl (Nat.zero_le _) (Nat.zero_le _)
        · refine ab_iload_n (pc := 65) (n := 2) (i := 2) (j := 2) (by decide +kernel) rfl rfl ?_
          refine ab_iconst (pc := 66) (n := 2) (v := nI 2) (by decide +kernel) rfl ?_
          refine ab_icmp_ne (off := 11) (pc := 67) (tgt := 78) (by decide +kernel) (by decide) (fun g10 => ?_) (fun g10 => ?_)
          · refine ab_aload_n (pc := 70) (n := 0) (i := 0) (j := 0) (by decide +kernel) rfl rfl ?_
            refine ab_iload_n (pc := 71) (n := 1) (i := 1) (j := 1) (by decide +kernel) rfl rfl ?_
            refine ab_callVi (As := [.int x1]) (st := []) (pc := 72) lk_X12_256_12 rfl rfl rfl (by decide) (by decide) (Nat.le_of_ble_eq_true rfl) (by decide +kernel) (fun y9 e9 => okX12_hookOf hl (F := F) e9) (fun v11 ev11 => ?_)
            refine ab_goto (pc := 75) (off := 8) (tgt := 83) (by decide +kernel) (by decide) ?_
            exact ab_iret (pc := 83) (by decide +kernel) rfl rfl (Nat.zero_le _) (Nat.zero_le _)
          · refine ab_aload_n (pc := 78) (n := 0) (i := 0) (j := 0) (by decide +kernel) rfl rfl ?_
            refine ab_iload_n (pc := 79) (n := 1) (i := 1) (j := 1) (by decide +kernel) rfl rfl ?_
            refine ab_callVi (As := [.int x1]) (st := []) (pc := 80) lk_X12_259_12 rfl rfl rfl (by decide) (by decide) (Nat.le_of_ble_eq_true rfl) (by decide +kernel) (fun y9 e9 => okX12_alike hl (F := F) e9) (fun v12 ev12 => ?_)
            exact ab_iret (pc := 83) (by decide +kernel) rfl rfl (Nat.zero_le _) (Nat.zero_le _)
    · refine ab_iconst (pc := 37) (n := 0) (v := nI 0) (by decide +kernel) rfl ?_
      exact ab_iret (pc := 38) (by decide +kernel) rfl rfl (Nat.zero_le _) (Nat.zero_le _)
  · refine ab_if_ne (off := 7) (pc := 6) (tgt := 13) (by decide +kernel) (by decide) (fun g14 => ?_) (fun g14 => ?_)
    · refine ab_iconst (pc := 9) (n := 1) (v := nI 1) (by decide +kernel) rfl ?_
      refine ab_goto (pc := 10) (off := 17) (tgt := 27) (by decide +kernel) (by decide) ?_
      exact hj13 (nI 1)
    · refine ab_iload_n (pc := 13) (n := 2) (i := 2) (j := 2) (by decide +kernel) rfl rfl ?_
      refine ab_iconst (pc := 14) (n := 0) (v := nI 0) (by decide +kernel) rfl ?_
      refine ab_iconst (pc := 15) (n := 3) (v := nI 3) (by decide +kernel) rfl ?_
      refine ab_callSi (As := [.int x2, .int (nI 0), .int (nI 3)]) (st := [.ref x0]) (pc := 16) lk_X12_53 rfl rfl rfl (by decide) (by decide) (Nat.le_of_ble_eq_true rfl) (by decide +kernel) (fun y9 e9 => okX12_isIn hl e9) (fun v15 ev15 => ?_)
      refine ab_if_ne (off := 7) (pc := 19) (tgt := 26) (by decide +kernel) (by decide) (fun g16 => ?_) (fun g16 => ?_)
      · refine ab_iconst (pc := 22) (n := 2) (v := nI 2) (by decide +kernel) rfl ?_
        refine ab_goto (pc := 23) (off := 4) (tgt := 27) (by decide +kernel) (by decide) ?_
        exact hj13 (nI 2)
      · refine ab_iconst (pc := 26) (n := 0) (v := nI 0) (by decide +kernel) rfl ?_
        exact hj13 (nI 0)
set_option maxRecDepth 100000 in
set_option maxHeartbeats 4000000 in
theorem okX12_face {l : Launch} (hl : l.stackTraces = false) {F : Nat} {x0 : Nat} {x1 : Int32} {x2 : Int32} {h : ab_H} {y : (Int32 × ab_H)} (e : fX12_face F x0 x1 x2 h = some y) : ab_Met l mX12_face [.ref x0, .int x1, .int x2] h (.inl (some (.int y.1)), y.2) := ab_ofS (io := (fun y : (Int32 × ab_H) => ((.inl (some (.int y.1)), y.2) : ab_R × ab_H))) (x := y) hl (by decide) rfl (Nat.le_of_ble_eq_true rfl) (wX12_face hl F x0 x1 x2 h) e
def mX12_hook : ab_M := (yX12_hook, cX12_hook, 2, (some .int), { frames := 2, cells := 0, slots := 0, locals := 43 })
theorem iX12_hook : ab_MI mX12_hook 1 := ⟨kw_76d5bc2010, kw_30b3f7d7c6, by decide +kernel⟩
theorem lk_X12_262_12 : ab_LV RX12 262 12 mX12_isHook 1 := ⟨RX12, rfl, iX12_isHook, kw_a2518c1123, kw_83d3c4b1f2, kw_a6f7a54d83⟩
def fX12_hook (x0 : Nat) (x1 : Int32) (h : ab_H) : Option (Int32 × ab_H) := ab_ck (ab_io h x0 12 = true) (ab_bd (fX12_isHook x0 x1 h) fun v1 => ab_jn (κ := Int32 → Option (Int32 × ab_H)) (fun (z2 : Int32) => ab_bd (ab_fw h x0 12 0 (.int z2)) fun h3 => ab_bd (ab_fi h3 x0 12 0) fun v4 => (if v4 ≤ 0 then ab_bd (ab_fr h3 x0 12 1) fun v6 => ab_bd (ab_ia 0 h3 v6 ((nI 272) + x1)) fun v7 => some (v7, h3) else some (nI 0, h3))) fun j8 => (if v1 = 0 then j8 (nI 1) else j8 (nI 0)))
set_option maxRecDepth 100000 in
set_option maxHeartbeats 4000000 in
theorem wX12_hook {l : Launch} (hl : l.stackTraces = false) (x0 : Nat) (x1 : Int32) (h : ab_H) : ab_S l mX12_hook (fun y : (Int32 × ab_H) => ((.inl (some (.int y.1)), y.2) : ab_R × ab_H)) 0 0 (fX12_hook x0 x1 h) 0 [(0, .ref x0), (1, .int x1)] [] h := by
  unfold fX12_hook
  refine ab_aload_n (pc := 0) (n := 0) (i := 0) (j := 0) (by decide +kernel) rfl rfl ?_
  refine ab_aload_n (pc := 1) (n := 0) (i := 0) (j := 0) (by decide +kernel) rfl rfl ?_
  refine ab_iload_n (pc := 2) (n := 1) (i := 1) (j := 1) (by decide +kernel) rfl rfl ?_
  refine ab_callVi (As := [.int x1]) (st := [.ref x0]) (pc := 3) lk_X12_262_12 rfl rfl rfl (by decide) (by decide) (Nat.le_of_ble_eq_true rfl) (by decide +kernel) (fun y9 e9 => okX12_isHook hl e9) (fun v1 ev1 => ?_)
  refine ab_jr (fun k9 : Int32 → Option (Int32 × ab_H) => ∀ (z2 : Int32), ab_S l mX12_hook (fun y : (Int32 × ab_H) => ((.inl (some (.int y.1)), y.2) : ab_R × ab_H)) 0 0 (k9 z2) 14 [(0, .ref x0), (1, .int x1)] [.int z2, .ref x0] h) ?_ (fun j8 hj8 => ?_)
  · intro z2
    refine ab_put (pc := 14) fl_X12_50_12 rfl (fun _ => rfl) (fun _ => rfl) (by decide +kernel) (fun h3 eh3 => ?_)
    refine ab_aload_n (pc := 17) (n := 0) (i := 0) (j := 0) (by decide +kernel) rfl rfl ?_
    refine ab_getI (pc := 18) fl_X12_50_12 (by decide +kernel) (fun v4 ev4 => ?_)
    refine ab_if_le (off := 7) (pc := 21) (tgt := 28) (by decide +kernel) (by decide) (fun g5 => ?_) (fun g5 => ?_)
    · refine ab_aload_n (pc := 28) (n := 0) (i := 0) (j := 0) (by decide +kernel) rfl rfl ?_
      refine ab_getR (pc := 29) fl_X12_7_12 (by decide +kernel) (fun v6 ev6 => ?_)
      refine ab_sipush (pc := 32) (n := 272) (v := nI 272) (by decide +kernel) (by decide) ?_
      refine ab_iload_n (pc := 35) (n := 1) (i := 1) (j := 1) (by decide +kernel) rfl rfl ?_
      refine ab_iadd (pc := 36) (by decide +kernel) ?_
      refine ab_iald (pc := 37) (by decide +kernel) (fun v7 ev7 => ?_)
      exact ab_iret (pc := 38) (by decide +kernel) rfl rfl (Nat.zero_le _) (Nat.zero_le _)
    · refine ab_iconst (pc := 24) (n := 0) (v := nI 0) (by decide +kernel) rfl ?_
      refine ab_goto (pc := 25) (off := 13) (tgt := 38) (by decide +kernel) (by decide) ?_
      exact ab_iret (pc := 38) (by decide +kernel) rfl rfl (Nat.zero_le _) (Nat.zero_le _)
  · refine ab_if_ne (off := 7) (pc := 6) (tgt := 13) (by decide +kernel) (by decide) (fun g9 => ?_) (fun g9 => ?_)
    · refine ab_iconst (pc := 9) (n := 1) (v := nI 1) (by decide +kernel) rfl ?_
      refine ab_goto (pc := 10) (off := 4) (tgt := 14) (by decide +kernel) (by decide) ?_
      exact hj8 (nI 1)
    · refine ab_iconst (pc := 13) (n := 0) (v := nI 0) (by decide +kernel) rfl ?_
      exact hj8 (nI 0)
set_option maxRecDepth 100000 in
set_option maxHeartbeats 4000000 in
theorem okX12_hook {l : Launch} (hl : l.stackTraces = false) {x0 : Nat} {x1 : Int32} {h : ab_H} {y : (Int32 × ab_H)} (e : fX12_hook x0 x1 h = some y) : ab_Met l mX12_hook [.ref x0, .int x1] h (.inl (some (.int y.1)), y.2) := ab_ofS (io := (fun y : (Int32 × ab_H) => ((.inl (some (.int y.1)), y.2) : ab_R × ab_H))) (x := y) hl (by decide) rfl (Nat.le_of_ble_eq_true rfl) (wX12_hook hl x0 x1 h) e
def mX12_dear : ab_M := (yX12_dear, cX12_dear, 4, (some .int), { frames := 0, cells := 0, slots := 0, locals := 0 })
theorem iX12_dear : ab_MI mX12_dear 2 := ⟨kw_74bc19f0e8, kw_30b3f7d7c6, by decide +kernel⟩
def fX12_dear_2 (x0 : Nat) (x1 : Int32) (x2 : Int32) (h : ab_H) : Nat → Int32 → Option Int32
  | 0, _ => none
  | n + 1, x3 => ab_bd (ab_fr h x0 12 1) fun v1 => ab_bd (ab_ia 0 h v1 (((nI 72) + ((nI 10) * x1)) + x3)) fun v2 => (if v2 = x2 then some x3 else fX12_dear_2 x0 x1 x2 h n (x3 + nI 1))
def fX12_dear (F : Nat) (x0 : Nat) (x1 : Int32) (x2 : Int32) (h : ab_H) : Option Int32 := fX12_dear_2 x0 x1 x2 h F (nI 0)
set_option maxRecDepth 100000 in
set_option maxHeartbeats 4000000 in
theorem lX12_dear_2 {l : Launch} (hl : l.stackTraces = false) (x0 : Nat) (x1 : Int32) (x2 : Int32) (h : ab_H) : ∀ (n : Nat) (x3 : Int32), ab_S l mX12_dear (fun y : Int32 => ((.inl (some (.int y)), h) : ab_R × ab_H)) 0 0 (fX12_dear_2 x0 x1 x2 h n x3) 2 [(0, .ref x0), (1, .int x1), (2, .int x2), (3, .int x3)] [] h := by
  intro n
  induction n with
  | zero =>
    intro x3
    exact ab_none
  | succ n ih =>
    intro x3
    rw [fX12_dear_2]
    refine ab_aload_n (pc := 2) (n := 0) (i := 0) (j := 0) (by decide +kernel) rfl rfl ?_
    refine ab_getR (pc := 3) fl_X12_7_12 (by decide +kernel) (fun v1 ev1 => ?_)
    refine ab_bipush (pc := 6) (n := 72) (v := nI 72) (by decide +kernel) (by decide) ?_
    refine ab_bipush (pc := 8) (n := 10) (v := nI 10) (by decide +kernel) (by decide) ?_
    refine ab_iload_n (pc := 10) (n := 1) (i := 1) (j := 1) (by decide +kernel) rfl rfl ?_
    refine ab_imul (pc := 11) (by decide +kernel) ?_
    refine ab_iadd (pc := 12) (by decide +kernel) ?_
    refine ab_iload_n (pc := 13) (n := 3) (i := 3) (j := 3) (by decide +kernel) rfl rfl ?_
    refine ab_iadd (pc := 14) (by decide +kernel) ?_
    refine ab_iald (pc := 15) (by decide +kernel) (fun v2 ev2 => ?_)
    refine ab_iload_n (pc := 16) (n := 2) (i := 2) (j := 2) (by decide +kernel) rfl rfl ?_
    refine ab_icmp_eq (off := 9) (pc := 17) (tgt := 26) (by decide +kernel) (by decide) (fun g3 => ?_) (fun g3 => ?_)
    · refine ab_iload_n (pc := 26) (n := 3) (i := 3) (j := 3) (by decide +kernel) rfl rfl ?_
      exact ab_iret (pc := 27) (by decide +kernel) rfl rfl (Nat.zero_le _) (Nat.zero_le _)
    · refine ab_iinc (pc := 20) (i := 3) (n := 1) (j := 3) (d := nI 1) (lv' := [(0, .ref x0), (1, .int x1), (2, .int x2), (3, .int (x3 + nI 1))]) (by decide +kernel) rfl rfl (by decide) rfl rfl ?_
      refine ab_goto (pc := 23) (off := (-21)) (tgt := 2) (by decide +kernel) (by decide) ?_
      exact ih (x3 + nI 1)
set_option maxRecDepth 100000 in
set_option maxHeartbeats 4000000 in
theorem wX12_dear {l : Launch} (hl : l.stackTraces = false) (F : Nat) (x0 : Nat) (x1 : Int32) (x2 : Int32) (h : ab_H) : ab_S l mX12_dear (fun y : Int32 => ((.inl (some (.int y)), h) : ab_R × ab_H)) 0 0 (fX12_dear F x0 x1 x2 h) 0 [(0, .ref x0), (1, .int x1), (2, .int x2)] [] h := by
  unfold fX12_dear
  refine ab_iconst (pc := 0) (n := 0) (v := nI 0) (by decide +kernel) rfl ?_
  refine ab_istore_n (pc := 1) (n := 3) (i := 3) (lv' := [(0, .ref x0), (1, .int x1), (2, .int x2), (3, .int (nI 0))]) (by decide +kernel) rfl (by decide) rfl rfl ?_
  refine lX12_dear_2 hl x0 x1 x2 h F (nI 0)
set_option maxRecDepth 100000 in
set_option maxHeartbeats 4000000 in
theorem okX12_dear {l : Launch} (hl : l.stackTraces = false) {F : Nat} {x0 : Nat} {x1 : Int32} {x2 : Int32} {h : ab_H} {y : Int32} (e : fX12_dear F x0 x1 x2 h = some y) : ab_Met l mX12_dear [.ref x0, .int x1, .int x2] h (.inl (some (.int y)), h) := ab_ofS (io := (fun y : Int32 => ((.inl (some (.int y)), h) : ab_R × ab_H))) (x := y) hl (by decide) rfl (Nat.le_of_ble_eq_true rfl) (wX12_dear hl F x0 x1 x2 h) e
def mX12_wish : ab_M := (yX12_wish, cX12_wish, 5, (some .int), { frames := 2, cells := 0, slots := 0, locals := 43 })
theorem iX12_wish : ab_MI mX12_wish 2 := ⟨kw_7d136c3240, kw_30b3f7d7c6, by decide +kernel⟩
def fX12_wish_58 (x0 : Nat) (x1 : Int32) (h : ab_H) (k119 : Int32 → Option (Int32 × ab_H)) : Nat → Int32 → Int32 → Option (Int32 × ab_H)
  | 0, _, _ => none
  | n + 1, x3, x4 => ab_jn (κ := Option (Int32 × ab_H)) (ab_bd (ab_fr h x0 12 1) fun v13 => ab_bd (ab_ia 0 h v13 (((nI 72) + ((nI 10) * x1)) + x4)) fun v14 => ab_bd (ab_fr h x0 12 1) fun v15 => ab_bd (ab_ia 0 h v15 (nI 3)) fun v16 => (if v14 < v16 then fX12_wish_58 x0 x1 h k119 n (x3 + (-1 : Int32)) (x4 + nI 1) else fX12_wish_58 x0 x1 h k119 n x3 (x4 + nI 1))) fun j18 => (if x3 ≤ 0 then ab_bd (ab_fr h x0 12 1) fun v20 => ab_bd (ab_ia 0 h v20 (((nI 72) + ((nI 10) * x1)) + x4)) fun v21 => ab_bd (ab_fr h x0 12 1) fun v22 => ab_bd (ab_ia 0 h v22 (nI 3)) fun v23 => (if v21 < v23 then k119 x4 else j18) else j18)
def fX12_wish (F : Nat) (x0 : Nat) (x1 : Int32) (x2 : Int32) (h : ab_H) : Option (Int32 × ab_H) := ab_ck (ab_io h x0 12 = true) (ab_bd (fX12_isPerson x0 x1 h) fun v1 => ab_jn (κ := Int32 → Option (Int32 × ab_H)) (fun (z2 : Int32) => ab_bd (ab_fw h x0 12 0 (.int z2)) fun h3 => ab_bd (ab_fi h3 x0 12 0) fun v4 => ab_jn (κ := Option (Int32 × ab_H)) (ab_bd (ab_fi h3 x0 12 0) fun v5 => (if v5 ≤ 0 then some ((-1 : Int32), h3) else some (nI 0, h3))) fun j7 => (if v4 ≤ 0 then ab_bd (ab_fr h3 x0 12 1) fun v9 => ab_bd (ab_ia 0 h3 v9 (nI 3)) fun v10 => ab_bd (fX12_isIn x2 (nI 0) (v10 - (nI 1)) h3) fun v11 => (if v11 = 0 then j7 else fX12_wish_58 x0 x1 h3 (fun (z25 : Int32) => ab_bd (ab_fr h3 x0 12 1) fun v26 => ab_bd (ab_ia 0 h3 v26 (((nI 72) + ((nI 10) * x1)) + z25)) fun v27 => some (v27, h3)) F x2 (nI 0)) else j7)) fun j28 => (if v1 = 0 then j28 (nI 1) else j28 (nI 0)))
set_option maxRecDepth 100000 in
set_option maxHeartbeats 4000000 in
theorem lX12_wish_58 {l : Launch} (hl : l.stackTraces = false) (x0 : Nat) (x1 : Int32) (h : ab_H) {k119 : Int32 → Option (Int32 × ab_H)} (hk119 : ∀ (x4 : Int32), ab_S l mX12_wish (fun y : (Int32 × ab_H) => ((.inl (some (.int y.1)), y.2) : ab_R × ab_H)) 0 0 (k119 x4) 119 [(0, .ref x0), (1, .int x1), (4, .int x4)] [] h) : ∀ (n : Nat) (x3 : Int32) (x4 : Int32), ab_S l mX12_wish (fun y : (Int32 × ab_H) => ((.inl (some (.int y.1)), y.2) : ab_R × ab_H)) 0 0 (fX12_wish_58 x0 x1 h k119 n x3 x4) 58 [(0, .ref x0), (1, .int x1), (3, .int x3), (4, .int x4)] [] h := by
  intro n
  induction n with
  | zero =>
    intro x3 x4
    exact ab_none
  | succ n ih =>
    intro x3 x4
    rw [fX12_wish_58]
    refine ab_iload_n (pc := 58) (n := 3) (i := 3) (j := 2) (by decide +kernel) rfl rfl ?_
    refine ab_jr (fun k9 : Option (Int32 × ab_H) => ab_S l mX12_wish (fun y : (Int32 × ab_H) => ((.inl (some (.int y.1)), y.2) : ab_R × ab_H)) 0 0 (k9) 86 [(0, .ref x0), (1, .int x1), (3, .int x3), (4, .int x4)] [] h) ?_ (fun j18 hj18 => ?_)
    · refine ab_aload_n (pc := 86) (n := 0) (i := 0) (j := 0) (by decide +kernel) rfl rfl ?_
      refine ab_getR (pc := 87) fl_X12_7_12 (by decide +kernel) (fun v13 ev13 => ?_)
      refine ab_bipush (pc := 90) (n := 72) (v := nI 72) (by decide +kernel) (by decide) ?_
      refine ab_bipush (pc := 92) (n := 10) (v := nI 10) (by decide +kernel) (by decide) ?_
      refine ab_iload_n (pc := 94) (n := 1) (i := 1) (j := 1) (by decide +kernel) rfl rfl ?_
      refine ab_imul (pc := 95) (by decide +kernel) ?_
      refine ab_iadd (pc := 96) (by decide +kernel) ?_
      refine ab_iload (pc := 97) (i := 4) (j := 3) (by decide +kernel) rfl ?_
      refine ab_iadd (pc := 99) (by decide +kernel) ?_
      refine ab_iald (pc := 100) (by decide +kernel) (fun v14 ev14 => ?_)
      refine ab_aload_n (pc := 101) (n := 0) (i := 0) (j := 0) (by decide +kernel) rfl rfl ?_
      refine ab_getR (pc := 102) fl_X12_7_12 (by decide +kernel) (fun v15 ev15 => ?_)
      refine ab_iconst (pc := 105) (n := 3) (v := nI 3) (by decide +kernel) rfl ?_
      refine ab_iald (pc := 106) (by decide +kernel) (fun v16 ev16 => ?_)
      refine ab_icmp_ge (off := 6) (pc := 107) (tgt := 113) (by decide +kernel) (by decide) (fun g17 => ?_) (fun g17 => ?_)
      · refine ab_iinc (pc := 110) (i := 3) (n := -1) (j := 2) (d := (-1 : Int32)) (lv' := [(0, .ref x0), (1, .int x1), (3, .int (x3 + (-1 : Int32))), (4, .int x4)]) (by decide +kernel) rfl rfl (by decide) rfl rfl ?_
        refine ab_iinc (pc := 113) (i := 4) (n := 1) (j := 3) (d := nI 1) (lv' := [(0, .ref x0), (1, .int x1), (3, .int (x3 + (-1 : Int32))), (4, .int (x4 + nI 1))]) (by decide +kernel) rfl rfl (by decide) rfl rfl ?_
        refine ab_goto (pc := 116) (off := (-58)) (tgt := 58) (by decide +kernel) (by decide) ?_
        exact ih (x3 + (-1 : Int32)) (x4 + nI 1)
      · refine ab_iinc (pc := 113) (i := 4) (n := 1) (j := 3) (d := nI 1) (lv' := [(0, .ref x0), (1, .int x1), (3, .int x3), (4, .int (x4 + nI 1))]) (by decide +kernel) rfl rfl (by decide) rfl rfl ?_
        refine ab_goto (pc := 116) (off := (-58)) (tgt := 58) (by decide +kernel) (by decide) ?_
        exact ih x3 (x4 + nI 1)
    · refine ab_if_gt (off := 27) (pc := 59) (tgt := 86) (by decide +kernel) (by decide) (fun g19 => ?_) (fun g19 => ?_)
      · refine ab_aload_n (pc := 62) (n := 0) (i := 0) (j := 0) (by decide +kernel) rfl rfl ?_
        refine ab_getR (pc := 63) fl_X12_7_12 (by decide +kernel) (fun v20 ev20 => ?_)
        refine ab_bipush (pc := 66) (n := 72) (v := nI 72) (by decide +kernel) (by decide) ?_
        refine ab_bipush (pc := 68) (n := 10) (v := nI 10) (by decide +kernel) (by decide) ?_
        refine ab_iload_n (pc := 70) (n := 1) (i := 1) (j := 1) (by decide +kernel) rfl rfl ?_
        refine ab_imul (pc := 71) (by decide +kernel) ?_
        refine ab_iadd (pc := 72) (by decide +kernel) ?_
        refine ab_iload (pc := 73) (i := 4) (j := 3) (by decide +kernel) rfl ?_
        refine ab_iadd (pc := 75) (by decide +kernel) ?_
        refine ab_iald (pc := 76) (by decide +kernel) (fun v21 ev21 => ?_)
        refine ab_aload_n (pc := 77) (n := 0) (i := 0) (j := 0) (by decide +kernel) rfl rfl ?_
        refine ab_getR (pc := 78) fl_X12_7_12 (by decide +kernel) (fun v22 ev22 => ?_)
        refine ab_iconst (pc := 81) (n := 3) (v := nI 3) (by decide +kernel) rfl ?_
        refine ab_iald (pc := 82) (by decide +kernel) (fun v23 ev23 => ?_)
        refine ab_icmp_lt (off := 36) (pc := 83) (tgt := 119) (by decide +kernel) (by decide) (fun g24 => ?_) (fun g24 => ?_)
        · refine ab_few [0, 1, 3] (lv' := [(0, .ref x0), (1, .int x1), (4, .int x4)]) rfl ?_
          exact hk119 x4
        · exact hj18
      · exact hj18
set_option maxRecDepth 100000 in
set_option maxHeartbeats 4000000 in
theorem wX12_wish {l : Launch} (hl : l.stackTraces = false) (F : Nat) (x0 : Nat) (x1 : Int32) (x2 : Int32) (h : ab_H) : ab_S l mX12_wish (fun y : (Int32 × ab_H) => ((.inl (some (.int y.1)), y.2) : ab_R × ab_H)) 0 0 (fX12_wish F x0 x1 x2 h) 0 [(0, .ref x0), (1, .int x1), (2, .int x2)] [] h := by
  unfold fX12_wish
  refine ab_aload_n (pc := 0) (n := 0) (i := 0) (j := 0) (by decide +kernel) rfl rfl ?_
  refine ab_aload_n (pc := 1) (n := 0) (i := 0) (j := 0) (by decide +kernel) rfl rfl ?_
  refine ab_iload_n (pc := 2) (n := 1) (i := 1) (j := 1) (by decide +kernel) rfl rfl ?_
  refine ab_callVi (As := [.int x1]) (st := [.ref x0]) (pc := 3) lk_X12_250_12 rfl rfl rfl (by decide) (by decide) (Nat.le_of_ble_eq_true rfl) (by decide +kernel) (fun y9 e9 => okX12_isPerson hl e9) (fun v1 ev1 => ?_)
  refine ab_jr (fun k9 : Int32 → Option (Int32 × ab_H) => ∀ (z2 : Int32), ab_S l mX12_wish (fun y : (Int32 × ab_H) => ((.inl (some (.int y.1)), y.2) : ab_R × ab_H)) 0 0 (k9 z2) 14 [(0, .ref x0), (1, .int x1), (2, .int x2)] [.int z2, .ref x0] h) ?_ (fun j28 hj28 => ?_)
  · intro z2
    refine ab_put (pc := 14) fl_X12_50_12 rfl (fun _ => rfl) (fun _ => rfl) (by decide +kernel) (fun h3 eh3 => ?_)
    refine ab_aload_n (pc := 17) (n := 0) (i := 0) (j := 0) (by decide +kernel) rfl rfl ?_
    refine ab_getI (pc := 18) fl_X12_50_12 (by decide +kernel) (fun v4 ev4 => ?_)
    refine ab_jr (fun k9 : Option (Int32 × ab_H) => ab_S l mX12_wish (fun y : (Int32 × ab_H) => ((.inl (some (.int y.1)), y.2) : ab_R × ab_H)) 0 0 (k9) 40 [(0, .ref x0)] [] h3) ?_ (fun j7 hj7 => ?_)
    · refine ab_aload_n (pc := 40) (n := 0) (i := 0) (j := 0) (by decide +kernel) rfl rfl ?_
      refine ab_getI (pc := 41) fl_X12_50_12 (by decide +kernel) (fun v5 ev5 => ?_)
      refine ab_if_le (off := 7) (pc := 44) (tgt := 51) (by decide +kernel) (by decide) (fun g6 => ?_) (fun g6 => ?_)
      · refine ab_iconst (pc := 51) (n := -1) (v := (-1 : Int32)) (by decide +kernel) rfl ?_
        exact ab_iret (pc := 52) (by decide +kernel) rfl rfl (Nat.zero_le _) (Nat.zero_le _)
      · refine ab_iconst (pc := 47) (n := 0) (v := nI 0) (by decide +kernel) rfl ?_
        refine ab_goto (pc := 48) (off := 4) (tgt := 52) (by decide +kernel) (by decide) ?_
        exact ab_iret (pc := 52) (by decide +kernel) rfl rfl (Nat.zero_le _) (Nat.zero_le _)
    · refine ab_if_gt (off := 19) (pc := 21) (tgt := 40) (by decide +kernel) (by decide) (fun g8 => ?_) (fun g8 => ?_)
      · refine ab_iload_n (pc := 24) (n := 2) (i := 2) (j := 2) (by decide +kernel) rfl rfl ?_
        refine ab_iconst (pc := 25) (n := 0) (v := nI 0) (by decide +kernel) rfl ?_
        refine ab_aload_n (pc := 26) (n := 0) (i := 0) (j := 0) (by decide +kernel) rfl rfl ?_
        refine ab_getR (pc := 27) fl_X12_7_12 (by decide +kernel) (fun v9 ev9 => ?_)
        refine ab_iconst (pc := 30) (n := 3) (v := nI 3) (by decide +kernel) rfl ?_
        refine ab_iald (pc := 31) (by decide +kernel) (fun v10 ev10 => ?_)
        refine ab_iconst (pc := 32) (n := 1) (v := nI 1) (by decide +kernel) rfl ?_
        refine ab_isub (pc := 33) (by decide +kernel) ?_
        refine ab_callSi (As := [.int x2, .int (nI 0), .int (v10 - (nI 1))]) (st := []) (pc := 34) lk_X12_53 rfl rfl rfl (by decide) (by decide) (Nat.le_of_ble_eq_true rfl) (by decide +kernel) (fun y9 e9 => okX12_isIn hl e9) (fun v11 ev11 => ?_)
        refine ab_if_ne (off := 16) (pc := 37) (tgt := 53) (by decide +kernel) (by decide) (fun g12 => ?_) (fun g12 => ?_)
        · refine ab_few [0] (lv' := [(0, .ref x0)]) rfl ?_
          exact hj7
        · refine ab_iload_n (pc := 53) (n := 2) (i := 2) (j := 2) (by decide +kernel) rfl rfl ?_
          refine ab_istore_n (pc := 54) (n := 3) (i := 3) (lv' := [(0, .ref x0), (1, .int x1), (2, .int x2), (3, .int x2)]) (by decide +kernel) rfl (by decide) rfl rfl ?_
          refine ab_iconst (pc := 55) (n := 0) (v := nI 0) (by decide +kernel) rfl ?_
          refine ab_istore (pc := 56) (i := 4) (lv' := [(0, .ref x0), (1, .int x1), (2, .int x2), (3, .int x2), (4, .int (nI 0))]) (by decide +kernel) (by decide) rfl rfl ?_
          refine ab_few [0, 1, 3, 4] (lv' := [(0, .ref x0), (1, .int x1), (3, .int x2), (4, .int (nI 0))]) rfl ?_
          refine lX12_wish_58 hl x0 x1 h3 ?_ F x2 (nI 0)
          intro z25
          refine ab_aload_n (pc := 119) (n := 0) (i := 0) (j := 0) (by decide +kernel) rfl rfl ?_
          refine ab_getR (pc := 120) fl_X12_7_12 (by decide +kernel) (fun v26 ev26 => ?_)
          refine ab_bipush (pc := 123) (n := 72) (v := nI 72) (by decide +kernel) (by decide) ?_
          refine ab_bipush (pc := 125) (n := 10) (v := nI 10) (by decide +kernel) (by decide) ?_
          refine ab_iload_n (pc := 127) (n := 1) (i := 1) (j := 1) (by decide +kernel) rfl rfl ?_
          refine ab_imul (pc := 128) (by decide +kernel) ?_
          refine ab_iadd (pc := 129) (by decide +kernel) ?_
          refine ab_iload (pc := 130) (i := 4) (j := 2) (by decide +kernel) rfl ?_
          refine ab_iadd (pc := 132) (by decide +kernel) ?_
          refine ab_iald (pc := 133) (by decide +kernel) (fun v27 ev27 => ?_)
          exact ab_iret (pc := 134) (by decide +kernel) rfl rfl (Nat.zero_le _) (Nat.zero_le _)
      · refine ab_few [0] (lv' := [(0, .ref x0)]) rfl ?_
        exact hj7
  · refine ab_if_ne (off := 7) (pc := 6) (tgt := 13) (by decide +kernel) (by decide) (fun g29 => ?_) (fun g29 => ?_)
    · refine ab_iconst (pc := 9) (n := 1) (v := nI 1) (by decide +kernel) rfl ?_
      refine ab_goto (pc := 10) (off := 4) (tgt := 14) (by decide +kernel) (by decide) ?_
      exact hj28 (nI 1)
    · refine ab_iconst (pc := 13) (n := 0) (v := nI 0) (by decide +kernel) rfl ?_
      exact hj28 (nI 0)
set_option maxRecDepth 100000 in
set_option maxHeartbeats 4000000 in
theorem okX12_wish {l : Launch} (hl : l.stackTraces = false) {F : Nat} {x0 : Nat} {x1 : Int32} {x2 : Int32} {h : ab_H} {y : (Int32 × ab_H)} (e : fX12_wish F x0 x1 x2 h = some y) : ab_Met l mX12_wish [.ref x0, .int x1, .int x2] h (.inl (some (.int y.1)), y.2) := ab_ofS (io := (fun y : (Int32 × ab_H) => ((.inl (some (.int y.1)), y.2) : ab_R × ab_H))) (x := y) hl (by decide) rfl (Nat.le_of_ble_eq_true rfl) (wX12_wish hl F x0 x1 x2 h) e
def mX12_two : ab_M := (yX12_two, cX12_two, 3, (some .int), { frames := 2, cells := 0, slots := 0, locals := 43 })
theorem iX12_two : ab_MI mX12_two 2 := ⟨kw_ebba7dcbac, kw_30b3f7d7c6, by decide +kernel⟩
def fX12_two (x0 : Nat) (x1 : Int32) (x2 : Int32) (h : ab_H) : Option Int32 := ab_ck (ab_io h x0 12 = true) (ab_bd (fX12_isPerson x0 x1 h) fun v1 => (if v1 = 0 then some (nI 1) else ab_ck (ab_io h x0 12 = true) (ab_bd (fX12_isPerson x0 x2 h) fun v3 => (if v3 = 0 then some (nI 1) else (if x1 = x2 then some (nI 2) else some (nI 0))))))
set_option maxRecDepth 100000 in
set_option maxHeartbeats 4000000 in
theorem wX12_two {l : Launch} (hl : l.stackTraces = false) (x0 : Nat) (x1 : Int32) (x2 : Int32) (h : ab_H) : ab_S l mX12_two (fun y : Int32 => ((.inl (some (.int y)), h) : ab_R × ab_H)) 0 0 (fX12_two x0 x1 x2 h) 0 [(0, .ref x0), (1, .int x1), (2, .int x2)] [] h := by
  unfold fX12_two
  refine ab_aload_n (pc := 0) (n := 0) (i := 0) (j := 0) (by decide +kernel) rfl rfl ?_
  refine ab_iload_n (pc := 1) (n := 1) (i := 1) (j := 1) (by decide +kernel) rfl rfl ?_
  refine ab_callVi (As := [.int x1]) (st := []) (pc := 2) lk_X12_250_12 rfl rfl rfl (by decide) (by decide) (Nat.le_of_ble_eq_true rfl) (by decide +kernel) (fun y9 e9 => okX12_isPerson hl e9) (fun v1 ev1 => ?_)
  refine ab_if_eq (off := 11) (pc := 5) (tgt := 16) (by decide +kernel) (by decide) (fun g2 => ?_) (fun g2 => ?_)
  · refine ab_iconst (pc := 16) (n := 1) (v := nI 1) (by decide +kernel) rfl ?_
    refine ab_goto (pc := 17) (off := 13) (tgt := 30) (by decide +kernel) (by decide) ?_
    exact ab_iret (pc := 30) (by decide +kernel) rfl rfl (Nat.zero_le _) (Nat.zero_le _)
  · refine ab_aload_n (pc := 8) (n := 0) (i := 0) (j := 0) (by decide +kernel) rfl rfl ?_
    refine ab_iload_n (pc := 9) (n := 2) (i := 2) (j := 2) (by decide +kernel) rfl rfl ?_
    refine ab_callVi (As := [.int x2]) (st := []) (pc := 10) lk_X12_250_12 rfl rfl rfl (by decide) (by decide) (Nat.le_of_ble_eq_true rfl) (by decide +kernel) (fun y9 e9 => okX12_isPerson hl e9) (fun v3 ev3 => ?_)
    refine ab_if_ne (off := 7) (pc := 13) (tgt := 20) (by decide +kernel) (by decide) (fun g4 => ?_) (fun g4 => ?_)
    · refine ab_iconst (pc := 16) (n := 1) (v := nI 1) (by decide +kernel) rfl ?_
      refine ab_goto (pc := 17) (off := 13) (tgt := 30) (by decide +kernel) (by decide) ?_
      exact ab_iret (pc := 30) (by decide +kernel) rfl rfl (Nat.zero_le _) (Nat.zero_le _)
    · refine ab_iload_n (pc := 20) (n := 1) (i := 1) (j := 1) (by decide +kernel) rfl rfl ?_
      refine ab_iload_n (pc := 21) (n := 2) (i := 2) (j := 2) (by decide +kernel) rfl rfl ?_
      refine ab_icmp_ne (off := 7) (pc := 22) (tgt := 29) (by decide +kernel) (by decide) (fun g5 => ?_) (fun g5 => ?_)
      · refine ab_iconst (pc := 25) (n := 2) (v := nI 2) (by decide +kernel) rfl ?_
        refine ab_goto (pc := 26) (off := 4) (tgt := 30) (by decide +kernel) (by decide) ?_
        exact ab_iret (pc := 30) (by decide +kernel) rfl rfl (Nat.zero_le _) (Nat.zero_le _)
      · refine ab_iconst (pc := 29) (n := 0) (v := nI 0) (by decide +kernel) rfl ?_
        exact ab_iret (pc := 30) (by decide +kernel) rfl rfl (Nat.zero_le _) (Nat.zero_le _)
set_option maxRecDepth 100000 in
set_option maxHeartbeats 4000000 in
theorem okX12_two {l : Launch} (hl : l.stackTraces = false) {x0 : Nat} {x1 : Int32} {x2 : Int32} {h : ab_H} {y : Int32} (e : fX12_two x0 x1 x2 h = some y) : ab_Met l mX12_two [.ref x0, .int x1, .int x2] h (.inl (some (.int y)), h) := ab_ofS (io := (fun y : Int32 => ((.inl (some (.int y)), h) : ab_R × ab_H))) (x := y) hl (by decide) rfl (Nat.le_of_ble_eq_true rfl) (wX12_two hl x0 x1 x2 h) e
def mX12_thinks : ab_M := (yX12_thinks, cX12_thinks, 3, (some .int), { frames := 3, cells := 0, slots := 0, locals := 65 })
theorem iX12_thinks : ab_MI mX12_thinks 2 := ⟨kw_85c4937652, kw_30b3f7d7c6, by decide +kernel⟩
theorem lk_X12_265_12 : ab_LV RX12 265 12 mX12_two 2 := ⟨RX12, rfl, iX12_two, kw_e526f929ec, kw_175f2c8ff3, kw_dda2f6f22a⟩
theorem lk_X12_268_12 : ab_LV RX12 268 12 mX12_thought 2 := ⟨RX12, rfl, iX12_thought, kw_f9c694e219, kw_7adf59bd04, kw_8a08c65417⟩
def fX12_thinks (x0 : Nat) (x1 : Int32) (x2 : Int32) (h : ab_H) : Option (Int32 × ab_H) := ab_ck (ab_io h x0 12 = true) (ab_bd (fX12_two x0 x1 x2 h) fun v1 => ab_bd (ab_fw h x0 12 0 (.int v1)) fun h2 => ab_bd (ab_fi h2 x0 12 0) fun v3 => (if v3 ≤ 0 then ab_ck (ab_io h2 x0 12 = true) (ab_bd (fX12_thought x0 x1 x2 h2) fun v5 => some (v5, h2)) else some (nI 0, h2)))
set_option maxRecDepth 100000 in
set_option maxHeartbeats 4000000 in
theorem wX12_thinks {l : Launch} (hl : l.stackTraces = false) (x0 : Nat) (x1 : Int32) (x2 : Int32) (h : ab_H) : ab_S l mX12_thinks (fun y : (Int32 × ab_H) => ((.inl (some (.int y.1)), y.2) : ab_R × ab_H)) 0 0 (fX12_thinks x0 x1 x2 h) 0 [(0, .ref x0), (1, .int x1), (2, .int x2)] [] h := by
  unfold fX12_thinks
  refine ab_aload_n (pc := 0) (n := 0) (i := 0) (j := 0) (by decide +kernel) rfl rfl ?_
  refine ab_aload_n (pc := 1) (n := 0) (i := 0) (j := 0) (by decide +kernel) rfl rfl ?_
  refine ab_iload_n (pc := 2) (n := 1) (i := 1) (j := 1) (by decide +kernel) rfl rfl ?_
  refine ab_iload_n (pc := 3) (n := 2) (i := 2) (j := 2) (by decide +kernel) rfl rfl ?_
  refine ab_callVi (As := [.int x1, .int x2]) (st := [.ref x0]) (pc := 4) lk_X12_265_12 rfl rfl rfl (by decide) (by decide) (Nat.le_of_ble_eq_true rfl) (by decide +kernel) (fun y9 e9 => okX12_two hl e9) (fun v1 ev1 => ?_)
  refine ab_put (pc := 7) fl_X12_50_12 rfl (fun _ => rfl) (fun _ => rfl) (by decide +kernel) (fun h2 eh2 => ?_)
  refine ab_aload_n (pc := 10) (n := 0) (i := 0) (j := 0) (by decide +kernel) rfl rfl ?_
  refine ab_getI (pc := 11) fl_X12_50_12 (by decide +kernel) (fun v3 ev3 => ?_)
  refine ab_if_le (off := 7) (pc := 14) (tgt := 21) (by decide +kernel) (by decide) (fun g4 => ?_) (fun g4 => ?_)
  · refine ab_aload_n (pc := 21) (n := 0) (i := 0) (j := 0) (by decide +kernel) rfl rfl ?_
    refine ab_iload_n (pc := 22) (n := 1) (i := 1) (j := 1) (by decide +kernel) rfl rfl ?_
    refine ab_iload_n (pc := 23) (n := 2) (i := 2) (j := 2) (by decide +kernel) rfl rfl ?_
    refine ab_callVi (As := [.int x1, .int x2]) (st := []) (pc := 24) lk_X12_268_12 rfl rfl rfl (by decide) (by decide) (Nat.le_of_ble_eq_true rfl) (by decide +kernel) (fun y9 e9 => okX12_thought hl e9) (fun v5 ev5 => ?_)
    exact ab_iret (pc := 27) (by decide +kernel) rfl rfl (Nat.zero_le _) (Nat.zero_le _)
  · refine ab_iconst (pc := 17) (n := 0) (v := nI 0) (by decide +kernel) rfl ?_
    refine ab_goto (pc := 18) (off := 9) (tgt := 27) (by decide +kernel) (by decide) ?_
    exact ab_iret (pc := 27) (by decide +kernel) rfl rfl (Nat.zero_le _) (Nat.zero_le _)
set_option maxRecDepth 100000 in
set_option maxHeartbeats 4000000 in
theorem okX12_thinks {l : Launch} (hl : l.stackTraces = false) {x0 : Nat} {x1 : Int32} {x2 : Int32} {h : ab_H} {y : (Int32 × ab_H)} (e : fX12_thinks x0 x1 x2 h = some y) : ab_Met l mX12_thinks [.ref x0, .int x1, .int x2] h (.inl (some (.int y.1)), y.2) := ab_ofS (io := (fun y : (Int32 × ab_H) => ((.inl (some (.int y.1)), y.2) : ab_R × ab_H))) (x := y) hl (by decide) rfl (Nat.le_of_ble_eq_true rfl) (wX12_thinks hl x0 x1 x2 h) e
def mX12_remembers : ab_M := (yX12_remembers, cX12_remembers, 2, none, { frames := 0, cells := 0, slots := 0, locals := 0 })
theorem iX12_remembers : ab_MI mX12_remembers 0 := ⟨kw_329fdc5faa, kw_30b3f7d7c6, by decide +kernel⟩
def fX12_remembers_11 (F : Nat) (x0 : Nat) (k40 : ab_H → Option ab_H) : Nat → Int32 → ab_H → Option ab_H
  | 0, _, _ => none
  | n + 1, x1, h => (if x1 < (nI 6424) then ab_bd (ab_fr h x0 12 5) fun v4 => ab_bd (ab_fr h x0 12 5) fun v5 => ab_bd (ab_ia 0 h v5 (x1 + (nI 584))) fun v6 => ab_bd (ab_iw 0 h v4 x1 v6) fun h7 => fX12_remembers_11 F x0 k40 n (x1 + nI 1) h7 else k40 h)
def fX12_remembers_52 (F : Nat) (x0 : Nat) : Nat → Int32 → ab_H → Option ab_H
  | 0, _, _ => none
  | n + 1, x1, h => (if x1 < (nI 584) then ab_bd (ab_fr h x0 12 5) fun v12 => ab_bd (ab_fi h x0 12 6) fun v13 => ab_bd (ab_fr h x0 12 1) fun v14 => ab_bd (ab_ia 0 h v14 x1) fun v15 => ab_bd (ab_iw 0 h v12 (((nI 584) * v13) + x1) v15) fun h16 => fX12_remembers_52 F x0 n (x1 + nI 1) h16 else ab_bd (ab_fi h x0 12 6) fun v17 => ab_bd (ab_fw h x0 12 6 (.int (v17 + (nI 1)))) fun h18 => some h18)
def fX12_remembers (F : Nat) (x0 : Nat) (h : ab_H) : Option ab_H := ab_bd (ab_fi h x0 12 6) fun v1 => (if v1 = (nI 12) then fX12_remembers_11 F x0 (fun (h8 : ab_H) => ab_bd (ab_fi h8 x0 12 6) fun v9 => ab_bd (ab_fw h8 x0 12 6 (.int (v9 - (nI 1)))) fun h10 => fX12_remembers_52 F x0 F (nI 0) h10) F (nI 0) h else fX12_remembers_52 F x0 F (nI 0) h)
set_option maxRecDepth 100000 in
set_option maxHeartbeats 4000000 in
theorem lX12_remembers_11 {l : Launch} (hl : l.stackTraces = false) (F : Nat) (x0 : Nat) {k40 : ab_H → Option ab_H} (hk40 : ∀ (h : ab_H), ab_S l mX12_remembers (fun y : ab_H => ((.inl none, y) : ab_R × ab_H)) 0 0 (k40 h) 40 [(0, .ref x0)] [] h) : ∀ (n : Nat) (x1 : Int32) (h : ab_H), ab_S l mX12_remembers (fun y : ab_H => ((.inl none, y) : ab_R × ab_H)) 0 0 (fX12_remembers_11 F x0 k40 n x1 h) 11 [(0, .ref x0), (1, .int x1)] [] h := by
  intro n
  induction n with
  | zero =>
    intro x1 h
    exact ab_none
  | succ n ih =>
    intro x1 h
    rw [fX12_remembers_11]
    refine ab_iload_n (pc := 11) (n := 1) (i := 1) (j := 1) (by decide +kernel) rfl rfl ?_
    refine ab_sipush (pc := 12) (n := 6424) (v := nI 6424) (by decide +kernel) (by decide) ?_
    refine ab_icmp_ge (off := 25) (pc := 15) (tgt := 40) (by decide +kernel) (by decide) (fun g3 => ?_) (fun g3 => ?_)
    · refine ab_aload_n (pc := 18) (n := 0) (i := 0) (j := 0) (by decide +kernel) rfl rfl ?_
      refine ab_getR (pc := 19) fl_X12_19_12 (by decide +kernel) (fun v4 ev4 => ?_)
      refine ab_iload_n (pc := 22) (n := 1) (i := 1) (j := 1) (by decide +kernel) rfl rfl ?_
      refine ab_aload_n (pc := 23) (n := 0) (i := 0) (j := 0) (by decide +kernel) rfl rfl ?_
      refine ab_getR (pc := 24) fl_X12_19_12 (by decide +kernel) (fun v5 ev5 => ?_)
      refine ab_iload_n (pc := 27) (n := 1) (i := 1) (j := 1) (by decide +kernel) rfl rfl ?_
      refine ab_sipush (pc := 28) (n := 584) (v := nI 584) (by decide +kernel) (by decide) ?_
      refine ab_iadd (pc := 31) (by decide +kernel) ?_
      refine ab_iald (pc := 32) (by decide +kernel) (fun v6 ev6 => ?_)
      refine ab_iast (pc := 33) (by decide +kernel) (fun h7 eh7 => ?_)
      refine ab_iinc (pc := 34) (i := 1) (n := 1) (j := 1) (d := nI 1) (lv' := [(0, .ref x0), (1, .int (x1 + nI 1))]) (by decide +kernel) rfl rfl (by decide) rfl rfl ?_
      refine ab_goto (pc := 37) (off := (-26)) (tgt := 11) (by decide +kernel) (by decide) ?_
      exact ih (x1 + nI 1) h7
    · refine ab_few [0] (lv' := [(0, .ref x0)]) rfl ?_
      exact hk40 h
set_option maxRecDepth 100000 in
set_option maxHeartbeats 4000000 in
theorem lX12_remembers_52 {l : Launch} (hl : l.stackTraces = false) (F : Nat) (x0 : Nat) : ∀ (n : Nat) (x1 : Int32) (h : ab_H), ab_S l mX12_remembers (fun y : ab_H => ((.inl none, y) : ab_R × ab_H)) 0 0 (fX12_remembers_52 F x0 n x1 h) 52 [(0, .ref x0), (1, .int x1)] [] h := by
  intro n
  induction n with
  | zero =>
    intro x1 h
    exact ab_none
  | succ n ih =>
    intro x1 h
    rw [fX12_remembers_52]
    refine ab_iload_n (pc := 52) (n := 1) (i := 1) (j := 1) (by decide +kernel) rfl rfl ?_
    refine ab_sipush (pc := 53) (n := 584) (v := nI 584) (by decide +kernel) (by decide) ?_
    refine ab_icmp_ge (off := 30) (pc := 56) (tgt := 86) (by decide +kernel) (by decide) (fun g11 => ?_) (fun g11 => ?_)
    · refine ab_aload_n (pc := 59) (n := 0) (i := 0) (j := 0) (by decide +kernel) rfl rfl ?_
      refine ab_getR (pc := 60) fl_X12_19_12 (by decide +kernel) (fun v12 ev12 => ?_)
      refine ab_sipush (pc := 63) (n := 584) (v := nI 584) (by decide +kernel) (by decide) ?_
      refine ab_aload_n (pc := 66) (n := 0) (i := 0) (j := 0) (by decide +kernel) rfl rfl ?_
      refine ab_getI (pc := 67) fl_X12_182_12 (by decide +kernel) (fun v13 ev13 => ?_)
      refine ab_imul (pc := 70) (by decide +kernel) ?_
      refine ab_iload_n (pc := 71) (n := 1) (i := 1) (j := 1) (by decide +kernel) rfl rfl ?_
      refine ab_iadd (pc := 72) (by decide +kernel) ?_
      refine ab_aload_n (pc := 73) (n := 0) (i := 0) (j := 0) (by decide +kernel) rfl rfl ?_
      refine ab_getR (pc := 74) fl_X12_7_12 (by decide +kernel) (fun v14 ev14 => ?_)
      refine ab_iload_n (pc := 77) (n := 1) (i := 1) (j := 1) (by decide +kernel) rfl rfl ?_
      refine ab_iald (pc := 78) (by decide +kernel) (fun v15 ev15 => ?_)
      refine ab_iast (pc := 79) (by decide +kernel) (fun h16 eh16 => ?_)
      refine ab_iinc (pc := 80) (i := 1) (n := 1) (j := 1) (d := nI 1) (lv' := [(0, .ref x0), (1, .int (x1 + nI 1))]) (by decide +kernel) rfl rfl (by decide) rfl rfl ?_
      refine ab_goto (pc := 83) (off := (-31)) (tgt := 52) (by decide +kernel) (by decide) ?_
      exact ih (x1 + nI 1) h16
    · refine ab_aload_n (pc := 86) (n := 0) (i := 0) (j := 0) (by decide +kernel) rfl rfl ?_
      refine ab_dup (pc := 87) (by decide +kernel) rfl ?_
      refine ab_getI (pc := 88) fl_X12_182_12 (by decide +kernel) (fun v17 ev17 => ?_)
      refine ab_iconst (pc := 91) (n := 1) (v := nI 1) (by decide +kernel) rfl ?_
      refine ab_iadd (pc := 92) (by decide +kernel) ?_
      refine ab_put (pc := 93) fl_X12_182_12 rfl (fun _ => rfl) (fun _ => rfl) (by decide +kernel) (fun h18 eh18 => ?_)
      exact ab_vret (pc := 96) (by decide +kernel) rfl rfl (Nat.zero_le _) (Nat.zero_le _)
set_option maxRecDepth 100000 in
set_option maxHeartbeats 4000000 in
theorem wX12_remembers {l : Launch} (hl : l.stackTraces = false) (F : Nat) (x0 : Nat) (h : ab_H) : ab_S l mX12_remembers (fun y : ab_H => ((.inl none, y) : ab_R × ab_H)) 0 0 (fX12_remembers F x0 h) 0 [(0, .ref x0)] [] h := by
  unfold fX12_remembers
  refine ab_aload_n (pc := 0) (n := 0) (i := 0) (j := 0) (by decide +kernel) rfl rfl ?_
  refine ab_getI (pc := 1) fl_X12_182_12 (by decide +kernel) (fun v1 ev1 => ?_)
  refine ab_bipush (pc := 4) (n := 12) (v := nI 12) (by decide +kernel) (by decide) ?_
  refine ab_icmp_ne (off := 44) (pc := 6) (tgt := 50) (by decide +kernel) (by decide) (fun g2 => ?_) (fun g2 => ?_)
  · refine ab_iconst (pc := 9) (n := 0) (v := nI 0) (by decide +kernel) rfl ?_
    refine ab_istore_n (pc := 10) (n := 1) (i := 1) (lv' := [(0, .ref x0), (1, .int (nI 0))]) (by decide +kernel) rfl (by decide) rfl rfl ?_
    refine lX12_remembers_11 hl F x0 ?_ F (nI 0) h
    intro h8
    refine ab_aload_n (pc := 40) (n := 0) (i := 0) (j := 0) (by decide +kernel) rfl rfl ?_
    refine ab_dup (pc := 41) (by decide +kernel) rfl ?_
    refine ab_getI (pc := 42) fl_X12_182_12 (by decide +kernel) (fun v9 ev9 => ?_)
    refine ab_iconst (pc := 45) (n := 1) (v := nI 1) (by decide +kernel) rfl ?_
    refine ab_isub (pc := 46) (by decide +kernel) ?_
    refine ab_put (pc := 47) fl_X12_182_12 rfl (fun _ => rfl) (fun _ => rfl) (by decide +kernel) (fun h10 eh10 => ?_)
    refine ab_iconst (pc := 50) (n := 0) (v := nI 0) (by decide +kernel) rfl ?_
    refine ab_istore_n (pc := 51) (n := 1) (i := 1) (lv' := [(0, .ref x0), (1, .int (nI 0))]) (by decide +kernel) rfl (by decide) rfl rfl ?_
    refine lX12_remembers_52 hl F x0 F (nI 0) h10
  · refine ab_iconst (pc := 50) (n := 0) (v := nI 0) (by decide +kernel) rfl ?_
    refine ab_istore_n (pc := 51) (n := 1) (i := 1) (lv' := [(0, .ref x0), (1, .int (nI 0))]) (by decide +kernel) rfl (by decide) rfl rfl ?_
    refine lX12_remembers_52 hl F x0 F (nI 0) h
set_option maxRecDepth 100000 in
set_option maxHeartbeats 4000000 in
theorem okX12_remembers {l : Launch} (hl : l.stackTraces = false) {F : Nat} {x0 : Nat} {h : ab_H} {y : ab_H} (e : fX12_remembers F x0 h = some y) : ab_Met l mX12_remembers [.ref x0] h (.inl none, y) := ab_ofS (io := (fun y : ab_H => ((.inl none, y) : ab_R × ab_H))) (x := y) hl (by decide) rfl (Nat.le_of_ble_eq_true rfl) (wX12_remembers hl F x0 h) e
def mX12_draw : ab_M := (yX12_draw, cX12_draw, 2, (some .int), { frames := 0, cells := 0, slots := 0, locals := 0 })
theorem iX12_draw : ab_MI mX12_draw 1 := ⟨kw_566098c68d, kw_30b3f7d7c6, by decide +kernel⟩
def fX12_draw (x0 : Nat) (x1 : Int32) (h : ab_H) : Option (Int32 × ab_H) := ab_bd (ab_fr h x0 12 1) fun v1 => ab_bd (ab_fr h x0 12 1) fun v2 => ab_bd (ab_ia 0 h v2 (nI 9)) fun v3 => ab_bd (ab_iw 0 h v1 (nI 9) (((nI 1103515245) * v3) + (nI 12345))) fun h4 => ab_bd (ab_fr h4 x0 12 1) fun v5 => ab_bd (ab_ia 0 h4 v5 (nI 9)) fun v6 => ab_ck (¬ x1 = 0) (some (ab_rm ((ab_us v6 (nI 16)) &&& (nI 32767)) x1, h4))
set_option maxRecDepth 100000 in
set_option maxHeartbeats 4000000 in
theorem wX12_draw {l : Launch} (hl : l.stackTraces = false) (x0 : Nat) (x1 : Int32) (h : ab_H) : ab_S l mX12_draw (fun y : (Int32 × ab_H) => ((.inl (some (.int y.1)), y.2) : ab_R × ab_H)) 0 0 (fX12_draw x0 x1 h) 0 [(0, .ref x0), (1, .int x1)] [] h := by
  unfold fX12_draw
  refine ab_aload_n (pc := 0) (n := 0) (i := 0) (j := 0) (by decide +kernel) rfl rfl ?_
  refine ab_getR (pc := 1) fl_X12_7_12 (by decide +kernel) (fun v1 ev1 => ?_)
  refine ab_bipush (pc := 4) (n := 9) (v := nI 9) (by decide +kernel) (by decide) ?_
  refine ab_ldcw (pc := 6) (v := nI 1103515245) (by decide +kernel) kw_795a21753c ?_
  refine ab_aload_n (pc := 9) (n := 0) (i := 0) (j := 0) (by decide +kernel) rfl rfl ?_
  refine ab_getR (pc := 10) fl_X12_7_12 (by decide +kernel) (fun v2 ev2 => ?_)
  refine ab_bipush (pc := 13) (n := 9) (v := nI 9) (by decide +kernel) (by decide) ?_
  refine ab_iald (pc := 15) (by decide +kernel) (fun v3 ev3 => ?_)
  refine ab_imul (pc := 16) (by decide +kernel) ?_
  refine ab_sipush (pc := 17) (n := 12345) (v := nI 12345) (by decide +kernel) (by decide) ?_
  refine ab_iadd (pc := 20) (by decide +kernel) ?_
  refine ab_iast (pc := 21) (by decide +kernel) (fun h4 eh4 => ?_)
  refine ab_aload_n (pc := 22) (n := 0) (i := 0) (j := 0) (by decide +kernel) rfl rfl ?_
  refine ab_getR (pc := 23) fl_X12_7_12 (by decide +kernel) (fun v5 ev5 => ?_)
  refine ab_bipush (pc := 26) (n := 9) (v := nI 9) (by decide +kernel) (by decide) ?_
  refine ab_iald (pc := 28) (by decide +kernel) (fun v6 ev6 => ?_)
  refine ab_bipush (pc := 29) (n := 16) (v := nI 16) (by decide +kernel) (by decide) ?_
  refine ab_iushr (pc := 31) (by decide +kernel) ?_
  refine ab_sipush (pc := 32) (n := 32767) (v := nI 32767) (by decide +kernel) (by decide) ?_
  refine ab_iand (pc := 35) (by decide +kernel) ?_
  refine ab_iload_n (pc := 36) (n := 1) (i := 1) (j := 1) (by decide +kernel) rfl rfl ?_
  refine ab_irem (pc := 37) (by decide +kernel) (fun g7 => ?_)
  exact ab_iret (pc := 38) (by decide +kernel) rfl rfl (Nat.zero_le _) (Nat.zero_le _)
set_option maxRecDepth 100000 in
set_option maxHeartbeats 4000000 in
theorem okX12_draw {l : Launch} (hl : l.stackTraces = false) {x0 : Nat} {x1 : Int32} {h : ab_H} {y : (Int32 × ab_H)} (e : fX12_draw x0 x1 h = some y) : ab_Met l mX12_draw [.ref x0, .int x1] h (.inl (some (.int y.1)), y.2) := ab_ofS (io := (fun y : (Int32 × ab_H) => ((.inl (some (.int y.1)), y.2) : ab_R × ab_H))) (x := y) hl (by decide) rfl (Nat.le_of_ble_eq_true rfl) (wX12_draw hl x0 x1 h) e
def mX12_writes : ab_M := (yX12_writes, cX12_writes, 6, none, { frames := 1, cells := 0, slots := 0, locals := 21 })
theorem iX12_writes : ab_MI mX12_writes 4 := ⟨kw_a937d4e968, kw_30b3f7d7c6, by decide +kernel⟩
theorem lk_X12_272 : ab_LS RX12 272 mX12_lesser 2 := ⟨iX12_lesser, kw_49b0aad20e, kw_eb9835ca42⟩
def fX12_writes_5 (x0 : Nat) (x1 : Int32) (x2 : Int32) (x3 : Int32) (x4 : Int32) (k41 : ab_H → Option ab_H) : Nat → Int32 → ab_H → Option ab_H
  | 0, _, _ => none
  | n + 1, x5, h => (if x5 < (nI 5) then k41 h else ab_bd (ab_fr h x0 12 1) fun v2 => ab_bd (ab_fr h x0 12 1) fun v3 => ab_bd (ab_ia 0 h v3 (((nI 284) + x5) - (nI 5))) fun v4 => ab_bd (ab_iw 0 h v2 ((nI 284) + x5) v4) fun h5 => fX12_writes_5 x0 x1 x2 x3 x4 k41 n (x5 + (-1 : Int32)) h5)
def fX12_writes (F : Nat) (x0 : Nat) (x1 : Int32) (x2 : Int32) (x3 : Int32) (x4 : Int32) (h : ab_H) : Option ab_H := fX12_writes_5 x0 x1 x2 x3 x4 (fun (h6 : ab_H) => ab_bd (ab_fr h6 x0 12 1) fun v7 => ab_bd (ab_fr h6 x0 12 1) fun v8 => ab_bd (ab_ia 0 h6 v8 (nI 5)) fun v9 => ab_bd (ab_iw 0 h6 v7 (nI 284) v9) fun h10 => ab_bd (ab_fr h10 x0 12 1) fun v11 => ab_bd (ab_iw 0 h10 v11 (nI 285) x1) fun h12 => ab_bd (ab_fr h12 x0 12 1) fun v13 => ab_bd (ab_iw 0 h12 v13 (nI 286) x2) fun h14 => ab_bd (ab_fr h14 x0 12 1) fun v15 => ab_bd (ab_iw 0 h14 v15 (nI 287) x3) fun h16 => ab_bd (ab_fr h16 x0 12 1) fun v17 => ab_bd (ab_iw 0 h16 v17 (nI 288) x4) fun h18 => ab_bd (ab_fr h18 x0 12 1) fun v19 => ab_bd (ab_fr h18 x0 12 1) fun v20 => ab_bd (ab_ia 0 h18 v20 (nI 8)) fun v21 => ab_bd (fX12_lesser (nI 60) (v21 + (nI 1)) h18) fun v22 => ab_bd (ab_iw 0 h18 v19 (nI 8) v22) fun h23 => some h23) F (nI 299) h
set_option maxRecDepth 100000 in
set_option maxHeartbeats 4000000 in
theorem lX12_writes_5 {l : Launch} (hl : l.stackTraces = false) (x0 : Nat) (x1 : Int32) (x2 : Int32) (x3 : Int32) (x4 : Int32) {k41 : ab_H → Option ab_H} (hk41 : ∀ (h : ab_H), ab_S l mX12_writes (fun y : ab_H => ((.inl none, y) : ab_R × ab_H)) 0 0 (k41 h) 41 [(0, .ref x0), (1, .int x1), (2, .int x2), (3, .int x3), (4, .int x4)] [] h) : ∀ (n : Nat) (x5 : Int32) (h : ab_H), ab_S l mX12_writes (fun y : ab_H => ((.inl none, y) : ab_R × ab_H)) 0 0 (fX12_writes_5 x0 x1 x2 x3 x4 k41 n x5 h) 5 [(0, .ref x0), (1, .int x1), (2, .int x2), (3, .int x3), (4, .int x4), (5, .int x5)] [] h := by
  intro n
  induction n with
  | zero =>
    intro x5 h
    exact ab_none
  | succ n ih =>
    intro x5 h
    rw [fX12_writes_5]
    refine ab_iload (pc := 5) (i := 5) (j := 5) (by decide +kernel) rfl ?_
    refine ab_iconst (pc := 7) (n := 5) (v := nI 5) (by decide +kernel) rfl ?_
    refine ab_icmp_lt (off := 33) (pc := 8) (tgt := 41) (by decide +kernel) (by decide) (fun g1 => ?_) (fun g1 => ?_)
    · refine ab_few [0, 1, 2, 3, 4] (lv' := [(0, .ref x0), (1, .int x1), (2, .int x2), (3, .int x3), (4, .int x4)]) rfl ?_
      exact hk41 h
    · refine ab_aload_n (pc := 11) (n := 0) (i := 0) (j := 0) (by decide +kernel) rfl rfl ?_
      refine ab_getR (pc := 12) fl_X12_7_12 (by decide +kernel) (fun v2 ev2 => ?_)
      refine ab_sipush (pc := 15) (n := 284) (v := nI 284) (by decide +kernel) (by decide) ?_
      refine ab_iload (pc := 18) (i := 5) (j := 5) (by decide +kernel) rfl ?_
      refine ab_iadd (pc := 20) (by decide +kernel) ?_
      refine ab_aload_n (pc := 21) (n := 0) (i := 0) (j := 0) (by decide +kernel) rfl rfl ?_
      refine ab_getR (pc := 22) fl_X12_7_12 (by decide +kernel) (fun v3 ev3 => ?_)
      refine ab_sipush (pc := 25) (n := 284) (v := nI 284) (by decide +kernel) (by decide) ?_
      refine ab_iload (pc := 28) (i := 5) (j := 5) (by decide +kernel) rfl ?_
      refine ab_iadd (pc := 30) (by decide +kernel) ?_
      refine ab_iconst (pc := 31) (n := 5) (v := nI 5) (by decide +kernel) rfl ?_
      refine ab_isub (pc := 32) (by decide +kernel) ?_
      refine ab_iald (pc := 33) (by decide +kernel) (fun v4 ev4 => ?_)
      refine ab_iast (pc := 34) (by decide +kernel) (fun h5 eh5 => ?_)
      refine ab_iinc (pc := 35) (i := 5) (n := -1) (j := 5) (d := (-1 : Int32)) (lv' := [(0, .ref x0), (1, .int x1), (2, .int x2), (3, .int x3), (4, .int x4), (5, .int (x5 + (-1 : Int32)))]) (by decide +kernel) rfl rfl (by decide) rfl rfl ?_
      refine ab_goto (pc := 38) (off := (-33)) (tgt := 5) (by decide +kernel) (by decide) ?_
      exact ih (x5 + (-1 : Int32)) h5
set_option maxRecDepth 100000 in
set_option maxHeartbeats 4000000 in
theorem wX12_writes {l : Launch} (hl : l.stackTraces = false) (F : Nat) (x0 : Nat) (x1 : Int32) (x2 : Int32) (x3 : Int32) (x4 : Int32) (h : ab_H) : ab_S l mX12_writes (fun y : ab_H => ((.inl none, y) : ab_R × ab_H)) 0 0 (fX12_writes F x0 x1 x2 x3 x4 h) 0 [(0, .ref x0), (1, .int x1), (2, .int x2), (3, .int x3), (4, .int x4)] [] h := by
  unfold fX12_writes
  refine ab_sipush (pc := 0) (n := 299) (v := nI 299) (by decide +kernel) (by decide) ?_
  refine ab_istore (pc := 3) (i := 5) (lv' := [(0, .ref x0), (1, .int x1), (2, .int x2), (3, .int x3), (4, .int x4), (5, .int (nI 299))]) (by decide +kernel) (by decide) rfl rfl ?_
  refine lX12_writes_5 hl x0 x1 x2 x3 x4 ?_ F (nI 299) h
  intro h6
  refine ab_aload_n (pc := 41) (n := 0) (i := 0) (j := 0) (by decide +kernel) rfl rfl ?_
  refine ab_getR (pc := 42) fl_X12_7_12 (by decide +kernel) (fun v7 ev7 => ?_)
  refine ab_sipush (pc := 45) (n := 284) (v := nI 284) (by decide +kernel) (by decide) ?_
  refine ab_aload_n (pc := 48) (n := 0) (i := 0) (j := 0) (by decide +kernel) rfl rfl ?_
  refine ab_getR (pc := 49) fl_X12_7_12 (by decide +kernel) (fun v8 ev8 => ?_)
  refine ab_iconst (pc := 52) (n := 5) (v := nI 5) (by decide +kernel) rfl ?_
  refine ab_iald (pc := 53) (by decide +kernel) (fun v9 ev9 => ?_)
  refine ab_iast (pc := 54) (by decide +kernel) (fun h10 eh10 => ?_)
  refine ab_aload_n (pc := 55) (n := 0) (i := 0) (j := 0) (by decide +kernel) rfl rfl ?_
  refine ab_getR (pc := 56) fl_X12_7_12 (by decide +kernel) (fun v11 ev11 => ?_)
  refine ab_sipush (pc := 59) (n := 285) (v := nI 285) (by decide +kernel) (by decide) ?_
  refine ab_iload_n (pc := 62) (n := 1) (i := 1) (j := 1) (by decide +kernel) rfl rfl ?_
  refine ab_iast (pc := 63) (by decide +kernel) (fun h12 eh12 => ?_)
  refine ab_aload_n (pc := 64) (n := 0) (i := 0) (j := 0) (by decide +kernel) rfl rfl ?_
  refine ab_getR (pc := 65) fl_X12_7_12 (by decide +kernel) (fun v13 ev13 => ?_)
  refine ab_sipush (pc := 68) (n := 286) (v := nI 286) (by decide +kernel) (by decide) ?_
  refine ab_iload_n (pc := 71) (n := 2) (i := 2) (j := 2) (by decide +kernel) rfl rfl ?_
  refine ab_iast (pc := 72) (by decide +kernel) (fun h14 eh14 => ?_)
  refine ab_aload_n (pc := 73) (n := 0) (i := 0) (j := 0) (by decide +kernel) rfl rfl ?_
  refine ab_getR (pc := 74) fl_X12_7_12 (by decide +kernel) (fun v15 ev15 => ?_)
  refine ab_sipush (pc := 77) (n := 287) (v := nI 287) (by decide +kernel) (by decide) ?_
  refine ab_iload_n (pc := 80) (n := 3) (i := 3) (j := 3) (by decide +kernel) rfl rfl ?_
  refine ab_iast (pc := 81) (by decide +kernel) (fun h16 eh16 => ?_)
  refine ab_aload_n (pc := 82) (n := 0) (i := 0) (j := 0) (by decide +kernel) rfl rfl ?_
  refine ab_getR (pc := 83) fl_X12_7_12 (by decide +kernel) (fun v17 ev17 => ?_)
  refine ab_sipush (pc := 86) (n := 288) (v := nI 288) (by decide +kernel) (by decide) ?_
  refine ab_iload (pc := 89) (i := 4) (j := 4) (by decide +kernel) rfl ?_
  refine ab_iast (pc := 91) (by decide +kernel) (fun h18 eh18 => ?_)
  refine ab_aload_n (pc := 92) (n := 0) (i := 0) (j := 0) (by decide +kernel) rfl rfl ?_
  refine ab_getR (pc := 93) fl_X12_7_12 (by decide +kernel) (fun v19 ev19 => ?_)
  refine ab_bipush (pc := 96) (n := 8) (v := nI 8) (by decide +kernel) (by decide) ?_
  refine ab_bipush (pc := 98) (n := 60) (v := nI 60) (by decide +kernel) (by decide) ?_
  refine ab_aload_n (pc := 100) (n := 0) (i := 0) (j := 0) (by decide +kernel) rfl rfl ?_
  refine ab_getR (pc := 101) fl_X12_7_12 (by decide +kernel) (fun v20 ev20 => ?_)
  refine ab_bipush (pc := 104) (n := 8) (v := nI 8) (by decide +kernel) (by decide) ?_
  refine ab_iald (pc := 106) (by decide +kernel) (fun v21 ev21 => ?_)
  refine ab_iconst (pc := 107) (n := 1) (v := nI 1) (by decide +kernel) rfl ?_
  refine ab_iadd (pc := 108) (by decide +kernel) ?_
  refine ab_callSi (As := [.int (nI 60), .int (v21 + (nI 1))]) (st := [.int (nI 8), .ref v19]) (pc := 109) lk_X12_272 rfl rfl rfl (by decide) (by decide) (Nat.le_of_ble_eq_true rfl) (by decide +kernel) (fun y9 e9 => okX12_lesser hl e9) (fun v22 ev22 => ?_)
  refine ab_iast (pc := 112) (by decide +kernel) (fun h23 eh23 => ?_)
  exact ab_vret (pc := 113) (by decide +kernel) rfl rfl (Nat.zero_le _) (Nat.zero_le _)
set_option maxRecDepth 100000 in
set_option maxHeartbeats 4000000 in
theorem okX12_writes {l : Launch} (hl : l.stackTraces = false) {F : Nat} {x0 : Nat} {x1 : Int32} {x2 : Int32} {x3 : Int32} {x4 : Int32} {h : ab_H} {y : ab_H} (e : fX12_writes F x0 x1 x2 x3 x4 h = some y) : ab_Met l mX12_writes [.ref x0, .int x1, .int x2, .int x3, .int x4] h (.inl none, y) := ab_ofS (io := (fun y : ab_H => ((.inl none, y) : ab_R × ab_H))) (x := y) hl (by decide) rfl (Nat.le_of_ble_eq_true rfl) (wX12_writes hl F x0 x1 x2 x3 x4 h) e
def mX12_handsIn : ab_M := (yX12_handsIn, cX12_handsIn, 4, (some .int), { frames := 2, cells := 0, slots := 0, locals := 46 })
theorem iX12_handsIn : ab_MI mX12_handsIn 2 := ⟨kw_359480fed8, kw_30b3f7d7c6, by decide +kernel⟩
theorem lk_X12_275_12 : ab_LV RX12 275 12 mX12_writes 4 := ⟨RX12, rfl, iX12_writes, kw_2e48b58cfc, kw_d5f9c9686e, kw_d64ba3eb8d⟩
def fX12_handsIn (F : Nat) (x0 : Nat) (x1 : Int32) (x2 : Int32) (h : ab_H) : Option (Int32 × ab_H) := ab_ck (ab_io h x0 12 = true) (ab_bd (fX12_of x0 x1 (nI 2) h) fun v1 => ab_bd (ab_fr h x0 12 1) fun v2 => ab_bd (ab_iw 0 h v2 ((nI 272) + x2) v1) fun h3 => ab_ck (ab_io h3 x0 12 = true) (ab_bd (fX12_has x0 x1 (nI 2) (-1 : Int32) h3) fun h4 => ab_ck (ab_io h4 x0 12 = true) (ab_bd (fX12_has x0 x1 (nI 3) x2 h4) fun h5 => ab_ck (ab_io h5 x0 12 = true) (ab_bd (fX12_writes F x0 x1 x2 v1 (nI 0) h5) fun h6 => some (v1, h6)))))
set_option maxRecDepth 100000 in
set_option maxHeartbeats 4000000 in
theorem wX12_handsIn {l : Launch} (hl : l.stackTraces = false) (F : Nat) (x0 : Nat) (x1 : Int32) (x2 : Int32) (h : ab_H) : ab_S l mX12_handsIn (fun y : (Int32 × ab_H) => ((.inl (some (.int y.1)), y.2) : ab_R × ab_H)) 0 0 (fX12_handsIn F x0 x1 x2 h) 0 [(0, .ref x0), (1, .int x1), (2, .int x2)] [] h := by
  unfold fX12_handsIn
  refine ab_aload_n (pc := 0) (n := 0) (i := 0) (j := 0) (by decide +kernel) rfl rfl ?_
  refine ab_iload_n (pc := 1) (n := 1) (i := 1) (j := 1) (by decide +kernel) rfl rfl ?_
  refine ab_iconst (pc := 2) (n := 2) (v := nI 2) (by decide +kernel) rfl ?_
  refine ab_callVi (As := [.int x1, .int (nI 2)]) (st := []) (pc := 3) lk_X12_57_12 rfl rfl rfl (by decide) (by decide) (Nat.le_of_ble_eq_true rfl) (by decide +kernel) (fun y9 e9 => okX12_of hl e9) (fun v1 ev1 => ?_)
  refine ab_istore_n (pc := 6) (n := 3) (i := 3) (lv' := [(0, .ref x0), (1, .int x1), (2, .int x2), (3, .int v1)]) (by decide +kernel) rfl (by decide) rfl rfl ?_
  refine ab_aload_n (pc := 7) (n := 0) (i := 0) (j := 0) (by decide +kernel) rfl rfl ?_
  refine ab_getR (pc := 8) fl_X12_7_12 (by decide +kernel) (fun v2 ev2 => ?_)
  refine ab_sipush (pc := 11) (n := 272) (v := nI 272) (by decide +kernel) (by decide) ?_
  refine ab_iload_n (pc := 14) (n := 2) (i := 2) (j := 2) (by decide +kernel) rfl rfl ?_
  refine ab_iadd (pc := 15) (by decide +kernel) ?_
  refine ab_iload_n (pc := 16) (n := 3) (i := 3) (j := 3) (by decide +kernel) rfl rfl ?_
  refine ab_iast (pc := 17) (by decide +kernel) (fun h3 eh3 => ?_)
  refine ab_aload_n (pc := 18) (n := 0) (i := 0) (j := 0) (by decide +kernel) rfl rfl ?_
  refine ab_iload_n (pc := 19) (n := 1) (i := 1) (j := 1) (by decide +kernel) rfl rfl ?_
  refine ab_iconst (pc := 20) (n := 2) (v := nI 2) (by decide +kernel) rfl ?_
  refine ab_iconst (pc := 21) (n := -1) (v := (-1 : Int32)) (by decide +kernel) rfl ?_
  refine ab_callVw (As := [.int x1, .int (nI 2), .int (-1 : Int32)]) (st := []) (pc := 22) lk_X12_100_12 rfl rfl rfl (by decide) (by decide) (Nat.le_of_ble_eq_true rfl) (by decide +kernel) (fun y9 e9 => okX12_has hl e9) (fun h4 eh4 => ?_)
  refine ab_aload_n (pc := 25) (n := 0) (i := 0) (j := 0) (by decide +kernel) rfl rfl ?_
  refine ab_iload_n (pc := 26) (n := 1) (i := 1) (j := 1) (by decide +kernel) rfl rfl ?_
  refine ab_iconst (pc := 27) (n := 3) (v := nI 3) (by decide +kernel) rfl ?_
  refine ab_iload_n (pc := 28) (n := 2) (i := 2) (j := 2) (by decide +kernel) rfl rfl ?_
  refine ab_callVw (As := [.int x1, .int (nI 3), .int x2]) (st := []) (pc := 29) lk_X12_100_12 rfl rfl rfl (by decide) (by decide) (Nat.le_of_ble_eq_true rfl) (by decide +kernel) (fun y9 e9 => okX12_has hl e9) (fun h5 eh5 => ?_)
  refine ab_aload_n (pc := 32) (n := 0) (i := 0) (j := 0) (by decide +kernel) rfl rfl ?_
  refine ab_iload_n (pc := 33) (n := 1) (i := 1) (j := 1) (by decide +kernel) rfl rfl ?_
  refine ab_iload_n (pc := 34) (n := 2) (i := 2) (j := 2) (by decide +kernel) rfl rfl ?_
  refine ab_iload_n (pc := 35) (n := 3) (i := 3) (j := 3) (by decide +kernel) rfl rfl ?_
  refine ab_iconst (pc := 36) (n := 0) (v := nI 0) (by decide +kernel) rfl ?_
  refine ab_callVw (As := [.int x1, .int x2, .int v1, .int (nI 0)]) (st := []) (pc := 37) lk_X12_275_12 rfl rfl rfl (by decide) (by decide) (Nat.le_of_ble_eq_true rfl) (by decide +kernel) (fun y9 e9 => okX12_writes hl (F := F) e9) (fun h6 eh6 => ?_)
  refine ab_iload_n (pc := 40) (n := 3) (i := 3) (j := 3) (by decide +kernel) rfl rfl ?_
  exact ab_iret (pc := 41) (by decide +kernel) rfl rfl (Nat.zero_le _) (Nat.zero_le _)
set_option maxRecDepth 100000 in
set_option maxHeartbeats 4000000 in
theorem okX12_handsIn {l : Launch} (hl : l.stackTraces = false) {F : Nat} {x0 : Nat} {x1 : Int32} {x2 : Int32} {h : ab_H} {y : (Int32 × ab_H)} (e : fX12_handsIn F x0 x1 x2 h = some y) : ab_Met l mX12_handsIn [.ref x0, .int x1, .int x2] h (.inl (some (.int y.1)), y.2) := ab_ofS (io := (fun y : (Int32 × ab_H) => ((.inl (some (.int y.1)), y.2) : ab_R × ab_H))) (x := y) hl (by decide) rfl (Nat.le_of_ble_eq_true rfl) (wX12_handsIn hl F x0 x1 x2 h) e
def mX12_gets : ab_M := (yX12_gets, cX12_gets, 4, (some .int), { frames := 2, cells := 0, slots := 0, locals := 46 })
theorem iX12_gets : ab_MI mX12_gets 1 := ⟨kw_0097abf862, kw_30b3f7d7c6, by decide +kernel⟩
def fX12_gets (F : Nat) (x0 : Nat) (x1 : Int32) (h : ab_H) : Option (Int32 × ab_H) := ab_ck (ab_io h x0 12 = true) (ab_bd (fX12_of x0 x1 (nI 3) h) fun v1 => ab_bd (ab_fr h x0 12 1) fun v2 => ab_bd (ab_ia 0 h v2 ((nI 272) + v1)) fun v3 => ab_bd (ab_fr h x0 12 1) fun v4 => ab_bd (ab_iw 0 h v4 ((nI 272) + v1) (-1 : Int32)) fun h5 => ab_ck (ab_io h5 x0 12 = true) (ab_bd (fX12_has x0 x1 (nI 2) v3 h5) fun h6 => ab_ck (ab_io h6 x0 12 = true) (ab_bd (fX12_has x0 x1 (nI 3) (-1 : Int32) h6) fun h7 => ab_ck (ab_io h7 x0 12 = true) (ab_bd (fX12_writes F x0 x1 v1 v3 (nI 1) h7) fun h8 => some (v3, h8)))))
set_option maxRecDepth 100000 in
set_option maxHeartbeats 4000000 in
theorem wX12_gets {l : Launch} (hl : l.stackTraces = false) (F : Nat) (x0 : Nat) (x1 : Int32) (h : ab_H) : ab_S l mX12_gets (fun y : (Int32 × ab_H) => ((.inl (some (.int y.1)), y.2) : ab_R × ab_H)) 0 0 (fX12_gets F x0 x1 h) 0 [(0, .ref x0), (1, .int x1)] [] h := by
  unfold fX12_gets
  refine ab_aload_n (pc := 0) (n := 0) (i := 0) (j := 0) (by decide +kernel) rfl rfl ?_
  refine ab_iload_n (pc := 1) (n := 1) (i := 1) (j := 1) (by decide +kernel) rfl rfl ?_
  refine ab_iconst (pc := 2) (n := 3) (v := nI 3) (by decide +kernel) rfl ?_
  refine ab_callVi (As := [.int x1, .int (nI 3)]) (st := []) (pc := 3) lk_X12_57_12 rfl rfl rfl (by decide) (by decide) (Nat.le_of_ble_eq_true rfl) (by decide +kernel) (fun y9 e9 => okX12_of hl e9) (fun v1 ev1 => ?_)
  refine ab_istore_n (pc := 6) (n := 2) (i := 2) (lv' := [(0, .ref x0), (1, .int x1), (2, .int v1)]) (by decide +kernel) rfl (by decide) rfl rfl ?_
  refine ab_aload_n (pc := 7) (n := 0) (i := 0) (j := 0) (by decide +kernel) rfl rfl ?_
  refine ab_getR (pc := 8) fl_X12_7_12 (by decide +kernel) (fun v2 ev2 => ?_)
  refine ab_sipush (pc := 11) (n := 272) (v := nI 272) (by decide +kernel) (by decide) ?_
  refine ab_iload_n (pc := 14) (n := 2) (i := 2) (j := 2) (by decide +kernel) rfl rfl ?_
  refine ab_iadd (pc := 15) (by decide +kernel) ?_
  refine ab_iald (pc := 16) (by decide +kernel) (fun v3 ev3 => ?_)
  refine ab_istore_n (pc := 17) (n := 3) (i := 3) (lv' := [(0, .ref x0), (1, .int x1), (2, .int v1), (3, .int v3)]) (by decide +kernel) rfl (by decide) rfl rfl ?_
  refine ab_aload_n (pc := 18) (n := 0) (i := 0) (j := 0) (by decide +kernel) rfl rfl ?_
  refine ab_getR (pc := 19) fl_X12_7_12 (by decide +kernel) (fun v4 ev4 => ?_)
  refine ab_sipush (pc := 22) (n := 272) (v := nI 272) (by decide +kernel) (by decide) ?_
  refine ab_iload_n (pc := 25) (n := 2) (i := 2) (j := 2) (by decide +kernel) rfl rfl ?_
  refine ab_iadd (pc := 26) (by decide +kernel) ?_
  refine ab_iconst (pc := 27) (n := -1) (v := (-1 : Int32)) (by decide +kernel) rfl ?_
  refine ab_iast (pc := 28) (by decide +kernel) (fun h5 eh5 => ?_)
  refine ab_aload_n (pc := 29) (n := 0) (i := 0) (j := 0) (by decide +kernel) rfl rfl ?_
  refine ab_iload_n (pc := 30) (n := 1) (i := 1) (j := 1) (by decide +kernel) rfl rfl ?_
  refine ab_iconst (pc := 31) (n := 2) (v := nI 2) (by decide +kernel) rfl ?_
  refine ab_iload_n (pc := 32) (n := 3) (i := 3) (j := 3) (by decide +kernel) rfl rfl ?_
  refine ab_callVw (As := [.int x1, .int (nI 2), .int v3]) (st := []) (pc := 33) lk_X12_100_12 rfl rfl rfl (by decide) (by decide) (Nat.le_of_ble_eq_true rfl) (by decide +kernel) (fun y9 e9 => okX12_has hl e9) (fun h6 eh6 => ?_)
  refine ab_aload_n (pc := 36) (n := 0) (i := 0) (j := 0) (by decide +kernel) rfl rfl ?_
  refine ab_iload_n (pc := 37) (n := 1) (i := 1) (j := 1) (by decide +kernel) rfl rfl ?_
  refine ab_iconst (pc := 38) (n := 3) (v := nI 3) (by decide +kernel) rfl ?_
  refine ab_iconst (pc := 39) (n := -1) (v := (-1 : Int32)) (by decide +kernel) rfl ?_
  refine ab_callVw (As := [.int x1, .int (nI 3), .int (-1 : Int32)]) (st := []) (pc := 40) lk_X12_100_12 rfl rfl rfl (by decide) (by decide) (Nat.le_of_ble_eq_true rfl) (by decide +kernel) (fun y9 e9 => okX12_has hl e9) (fun h7 eh7 => ?_)
  refine ab_aload_n (pc := 43) (n := 0) (i := 0) (j := 0) (by decide +kernel) rfl rfl ?_
  refine ab_iload_n (pc := 44) (n := 1) (i := 1) (j := 1) (by decide +kernel) rfl rfl ?_
  refine ab_iload_n (pc := 45) (n := 2) (i := 2) (j := 2) (by decide +kernel) rfl rfl ?_
  refine ab_iload_n (pc := 46) (n := 3) (i := 3) (j := 3) (by decide +kernel) rfl rfl ?_
  refine ab_iconst (pc := 47) (n := 1) (v := nI 1) (by decide +kernel) rfl ?_
  refine ab_callVw (As := [.int x1, .int v1, .int v3, .int (nI 1)]) (st := []) (pc := 48) lk_X12_275_12 rfl rfl rfl (by decide) (by decide) (Nat.le_of_ble_eq_true rfl) (by decide +kernel) (fun y9 e9 => okX12_writes hl (F := F) e9) (fun h8 eh8 => ?_)
  refine ab_iload_n (pc := 51) (n := 3) (i := 3) (j := 3) (by decide +kernel) rfl rfl ?_
  exact ab_iret (pc := 52) (by decide +kernel) rfl rfl (Nat.zero_le _) (Nat.zero_le _)
set_option maxRecDepth 100000 in
set_option maxHeartbeats 4000000 in
theorem okX12_gets {l : Launch} (hl : l.stackTraces = false) {F : Nat} {x0 : Nat} {x1 : Int32} {h : ab_H} {y : (Int32 × ab_H)} (e : fX12_gets F x0 x1 h = some y) : ab_Met l mX12_gets [.ref x0, .int x1] h (.inl (some (.int y.1)), y.2) := ab_ofS (io := (fun y : (Int32 × ab_H) => ((.inl (some (.int y.1)), y.2) : ab_R × ab_H))) (x := y) hl (by decide) rfl (Nat.le_of_ble_eq_true rfl) (wX12_gets hl F x0 x1 h) e
def mX12_mixes : ab_M := (yX12_mixes, cX12_mixes, 6, none, { frames := 2, cells := 0, slots := 0, locals := 46 })
theorem iX12_mixes : ab_MI mX12_mixes 2 := ⟨kw_3218aa3178, kw_30b3f7d7c6, by decide +kernel⟩
theorem lk_X12_150 : ab_LS RX12 150 mX12_greater 2 := ⟨iX12_greater, kw_9adc154ca0, kw_8502913d98⟩
def fX12_mixes (F : Nat) (x0 : Nat) (x1 : Int32) (x2 : Int32) (h : ab_H) : Option ab_H := ab_ck (ab_io h x0 12 = true) (ab_bd (fX12_of x0 x1 (nI 3) h) fun v1 => ab_ck (ab_io h x0 12 = true) (ab_bd (fX12_of x0 x2 (nI 3) h) fun v2 => ab_ck (ab_io h x0 12 = true) (ab_bd (fX12_has x0 x1 (nI 3) v2 h) fun h3 => ab_ck (ab_io h3 x0 12 = true) (ab_bd (fX12_has x0 x2 (nI 3) v1 h3) fun h4 => ab_bd (fX12_lesser x1 x2 h4) fun v5 => ab_bd (fX12_greater x1 x2 h4) fun v6 => ab_ck (ab_io h4 x0 12 = true) (ab_bd (fX12_of x0 v5 (nI 3) h4) fun v7 => ab_ck (ab_io h4 x0 12 = true) (ab_bd (fX12_writes F x0 v5 v7 (-1 : Int32) (nI 3) h4) fun h8 => ab_ck (ab_io h8 x0 12 = true) (ab_bd (fX12_of x0 v6 (nI 3) h8) fun v9 => ab_ck (ab_io h8 x0 12 = true) (ab_bd (fX12_writes F x0 v6 v9 (-1 : Int32) (nI 3) h8) fun h10 => some h10))))))))
set_option maxRecDepth 100000 in
set_option maxHeartbeats 4000000 in
theorem wX12_mixes {l : Launch} (hl : l.stackTraces = false) (F : Nat) (x0 : Nat) (x1 : Int32) (x2 : Int32) (h : ab_H) : ab_S l mX12_mixes (fun y : ab_H => ((.inl none, y) : ab_R × ab_H)) 0 0 (fX12_mixes F x0 x1 x2 h) 0 [(0, .ref x0), (1, .int x1), (2, .int x2)] [] h := by
  unfold fX12_mixes
  refine ab_aload_n (pc := 0) (n := 0) (i := 0) (j := 0) (by decide +kernel) rfl rfl ?_
  refine ab_iload_n (pc := 1) (n := 1) (i := 1) (j := 1) (by decide +kernel) rfl rfl ?_
  refine ab_iconst (pc := 2) (n := 3) (v := nI 3) (by decide +kernel) rfl ?_
  refine ab_callVi (As := [.int x1, .int (nI 3)]) (st := []) (pc := 3) lk_X12_57_12 rfl rfl rfl (by decide) (by decide) (Nat.le_of_ble_eq_true rfl) (by decide +kernel) (fun y9 e9 => okX12_of hl e9) (fun v1 ev1 => ?_)
  refine ab_istore_n (pc := 6) (n := 3) (i := 3) (lv' := [(0, .ref x0), (1, .int x1), (2, .int x2), (3, .int v1)]) (by decide +kernel) rfl (by decide) rfl rfl ?_
  refine ab_aload_n (pc := 7) (n := 0) (i := 0) (j := 0) (by decide +kernel) rfl rfl ?_
  refine ab_iload_n (pc := 8) (n := 1) (i := 1) (j := 1) (by decide +kernel) rfl rfl ?_
  refine ab_iconst (pc := 9) (n := 3) (v := nI 3) (by decide +kernel) rfl ?_
  refine ab_aload_n (pc := 10) (n := 0) (i := 0) (j := 0) (by decide +kernel) rfl rfl ?_
  refine ab_iload_n (pc := 11) (n := 2) (i := 2) (j := 2) (by decide +kernel) rfl rfl ?_
  refine ab_iconst (pc := 12) (n := 3) (v := nI 3) (by decide +kernel) rfl ?_
  refine ab_callVi (As := [.int x2, .int (nI 3)]) (st := [.int (nI 3), .int x1, .ref x0]) (pc := 13) lk_X12_57_12 rfl rfl rfl (by decide) (by decide) (Nat.le_of_ble_eq_true rfl) (by decide +kernel) (fun y9 e9 => okX12_of hl e9) (fun v2 ev2 => ?_)
  refine ab_callVw (As := [.int x1, .int (nI 3), .int v2]) (st := []) (pc := 16) lk_X12_100_12 rfl rfl rfl (by decide) (by decide) (Nat.le_of_ble_eq_true rfl) (by decide +kernel) (fun y9 e9 => okX12_has hl e9) (fun h3 eh3 => ?_)
  refine ab_aload_n (pc := 19) (n := 0) (i := 0) (j := 0) (by decide +kernel) rfl rfl ?_
  refine ab_iload_n (pc := 20) (n := 2) (i := 2) (j := 2) (by decide +kernel) rfl rfl ?_
  refine ab_iconst (pc := 21) (n := 3) (v := nI 3) (by decide +kernel) rfl ?_
  refine ab_iload_n (pc := 22) (n := 3) (i := 3) (j := 3) (by decide +kernel) rfl rfl ?_
  refine ab_callVw (As := [.int x2, .int (nI 3), .int v1]) (st := []) (pc := 23) lk_X12_100_12 rfl rfl rfl (by decide) (by decide) (Nat.le_of_ble_eq_true rfl) (by decide +kernel) (fun y9 e9 => okX12_has hl e9) (fun h4 eh4 => ?_)
  refine ab_iload_n (pc := 26) (n := 1) (i := 1) (j := 1) (by decide +kernel) rfl rfl ?_
  refine ab_iload_n (pc := 27) (n := 2) (i := 2) (j := 2) (by decide +kernel) rfl rfl ?_
  refine ab_callSi (As := [.int x1, .int x2]) (st := []) (pc := 28) lk_X12_272 rfl rfl rfl (by decide) (by decide) (Nat.le_of_ble_eq_true rfl) (by decide +kernel) (fun y9 e9 => okX12_lesser hl e9) (fun v5 ev5 => ?_)
  refine ab_istore (pc := 31) (i := 4) (lv' := [(0, .ref x0), (1, .int x1), (2, .int x2), (3, .int v1), (4, .int v5)]) (by decide +kernel) (by decide) rfl rfl ?_
  refine ab_iload_n (pc := 33) (n := 1) (i := 1) (j := 1) (by decide +kernel) rfl rfl ?_
  refine ab_iload_n (pc := 34) (n := 2) (i := 2) (j := 2) (by decide +kernel) rfl rfl ?_
  refine ab_callSi (As := [.int x1, .int x2]) (st := []) (pc := 35) lk_X12_150 rfl rfl rfl (by decide) (by decide) (Nat.le_of_ble_eq_true rfl) (by decide +kernel) (fun y9 e9 => okX12_greater hl e9) (fun v6 ev6 => ?_)
  refine ab_istore (pc := 38) (i := 5) (lv' := [(0, .ref x0), (1, .int x1), (2, .int x2), (3, .int v1), (4, .int v5), (5, .int v6)]) (by decide +kernel) (by decide) rfl rfl ?_
  refine ab_aload_n (pc := 40) (n := 0) (i := 0) (j := 0) (by decide +kernel) rfl rfl ?_
  refine ab_iload (pc := 41) (i := 4) (j := 4) (by decide +kernel) rfl ?_
  refine ab_aload_n (pc := 43) (n := 0) (i := 0) (j := 0) (by decide +kernel) rfl rfl ?_
  refine ab_iload (pc := 44) (i := 4) (j := 4) (by decide +kernel) rfl ?_
  refine ab_iconst (pc := 46) (n := 3) (v := nI 3) (by decide +kernel) rfl ?_
  refine ab_callVi (As := [.int v5, .int (nI 3)]) (st := [.int v5, .ref x0]) (pc := 47) lk_X12_57_12 rfl rfl rfl (by decide) (by decide) (Nat.le_of_ble_eq_true rfl) (by decide +kernel) (fun y9 e9 => okX12_of hl e9) (fun v7 ev7 => ?_)
  refine ab_iconst (pc := 50) (n := -1) (v := (-1 : Int32)) (by decide +kernel) rfl ?_
  refine ab_iconst (pc := 51) (n := 3) (v := nI 3) (by decide +kernel) rfl ?_
  refine ab_callVw (As := [.int v5, .int v7, .int (-1 : Int32), .int (nI 3)]) (st := []) (pc := 52) lk_X12_275_12 rfl rfl rfl (by decide) (by decide) (Nat.le_of_ble_eq_true rfl) (by decide +kernel) (fun y9 e9 => okX12_writes hl (F := F) e9) (fun h8 eh8 => ?_)
  refine ab_aload_n (pc := 55) (n := 0) (i := 0) (j := 0) (by decide +kernel) rfl rfl ?_
  refine ab_iload (pc := 56) (i := 5) (j := 5) (by decide +kernel) rfl ?_
  refine ab_aload_n (pc := 58) (n := 0) (i := 0) (j := 0) (by decide +kernel) rfl rfl ?_
  refine ab_iload (pc := 59) (i := 5) (j := 5) (by decide +kernel) rfl ?_
  refine ab_iconst (pc := 61) (n := 3) (v := nI 3) (by decide +kernel) rfl ?_
  refine ab_callVi (As := [.int v6, .int (nI 3)]) (st := [.int v6, .ref x0]) (pc := 62) lk_X12_57_12 rfl rfl rfl (by decide) (by decide) (Nat.le_of_ble_eq_true rfl) (by decide +kernel) (fun y9 e9 => okX12_of hl e9) (fun v9 ev9 => ?_)
  refine ab_iconst (pc := 65) (n := -1) (v := (-1 : Int32)) (by decide +kernel) rfl ?_
  refine ab_iconst (pc := 66) (n := 3) (v := nI 3) (by decide +kernel) rfl ?_
  refine ab_callVw (As := [.int v6, .int v9, .int (-1 : Int32), .int (nI 3)]) (st := []) (pc := 67) lk_X12_275_12 rfl rfl rfl (by decide) (by decide) (Nat.le_of_ble_eq_true rfl) (by decide +kernel) (fun y9 e9 => okX12_writes hl (F := F) e9) (fun h10 eh10 => ?_)
  exact ab_vret (pc := 70) (by decide +kernel) rfl rfl (Nat.zero_le _) (Nat.zero_le _)
set_option maxRecDepth 100000 in
set_option maxHeartbeats 4000000 in
theorem okX12_mixes {l : Launch} (hl : l.stackTraces = false) {F : Nat} {x0 : Nat} {x1 : Int32} {x2 : Int32} {h : ab_H} {y : ab_H} (e : fX12_mixes F x0 x1 x2 h = some y) : ab_Met l mX12_mixes [.ref x0, .int x1, .int x2] h (.inl none, y) := ab_ofS (io := (fun y : ab_H => ((.inl none, y) : ab_R × ab_H))) (x := y) hl (by decide) rfl (Nat.le_of_ble_eq_true rfl) (wX12_mixes hl F x0 x1 x2 h) e
