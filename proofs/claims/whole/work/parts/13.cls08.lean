/-! ===== class (by program, decomp.py) ===== -/
def mX0_wordOf : ab_M := (yX0_wordOf, cX0_wordOf, 6, (some .int), { frames := 5, cells := 0, slots := 0, locals := 110 })
theorem iX0_wordOf : ab_MI mX0_wordOf 2 := ⟨kw_683f6b34e1, kw_284a064ce4, by decide +kernel⟩
theorem lk_X0_62_0 : ab_LV RX0 62 0 mX0_isSpelt 3 := ⟨RX0, rfl, iX0_isSpelt, kw_4488d2bdc0, kw_0ff4de8111, kw_e71f2cb08d⟩
def fX0_wordOf_10 (F : Nat) (x0 : Nat) (x1 : Int32) (x2 : Int32) (h : ab_H) : Nat → Int32 → Int32 → Int32 → Option Int32
  | 0, _, _, _ => none
  | n + 1, x3, x4, x5 => ab_bd (ab_sL (ab_SB + 0)) fun v1 => (if x5 < v1 then ab_bd (ab_sC (ab_SB + 0) x5) fun v3 => (if v3 = (nI 32) then (if (x5 - x4) = (x2 - x1) then ab_ck (ab_io h x0 0 = true) (ab_bd (fX0_isSpelt F x0 x4 x1 x2 h) fun v6 => (if v6 = 0 then fX0_wordOf_10 F x0 x1 x2 h n (x3 + nI 1) (x5 + (nI 1)) (x5 + nI 1) else some x3)) else fX0_wordOf_10 F x0 x1 x2 h n (x3 + nI 1) (x5 + (nI 1)) (x5 + nI 1)) else fX0_wordOf_10 F x0 x1 x2 h n x3 x4 (x5 + nI 1)) else some (nI 257))
def fX0_wordOf (F : Nat) (x0 : Nat) (x1 : Int32) (x2 : Int32) (h : ab_H) : Option Int32 := fX0_wordOf_10 F x0 x1 x2 h F (nI 1000) (nI 0) (nI 0)
set_option maxRecDepth 100000 in
set_option maxHeartbeats 4000000 in
theorem lX0_wordOf_10 {l : Launch} (hl : l.stackTraces = false) (F : Nat) (x0 : Nat) (x1 : Int32) (x2 : Int32) (h : ab_H) : ∀ (n : Nat) (x3 : Int32) (x4 : Int32) (x5 : Int32), ab_S l mX0_wordOf (fun y : Int32 => ((.inl (some (.int y)), h) : ab_R × ab_H)) 0 0 (fX0_wordOf_10 F x0 x1 x2 h n x3 x4 x5) 10 [(0, .ref x0), (1, .int x1), (2, .int x2), (3, .int x3), (4, .int x4), (5, .int x5)] [] h := by
  intro n
  induction n with
  | zero =>
    intro x3 x4 x5
    exact ab_none
  | succ n ih =>
    intro x3 x4 x5
    rw [fX0_wordOf_10]
    refine ab_iload (pc := 10) (i := 5) (j := 5) (by decide +kernel) rfl ?_
    refine ab_ldcS (pc := 12) (index := 51) (kk := 0) (tx := "person wish wed knows hooks mix thief hand fetch if or and not own who hour hook marks hung free ") (by decide +kernel) (by show (RX0, 51, "person wish wed knows hooks mix thief hand fetch if or and not own who hour hook marks hung free ", 0) ∈ ab_sr; decide +kernel) ?_
    refine ab_callVs (As := []) (st := [.int x5]) (pc := 14) (index := 53) iJ0_length_8abf5 kw_284567147f kw_a4669d76c9 kw_6241048d1d rfl rfl rfl (by decide) rfl (Nat.le_of_ble_eq_true rfl) (by decide +kernel) (fun y9 e9 => ab_sL_in e9) (fun y9 e9 => okJ0_length_8abf5 hl e9) (fun v1 ev1 => ?_)
    refine ab_icmp_ge (off := 54) (pc := 17) (tgt := 71) (by decide +kernel) (by decide) (fun g2 => ?_) (fun g2 => ?_)
    · refine ab_ldcS (pc := 20) (index := 51) (kk := 0) (tx := "person wish wed knows hooks mix thief hand fetch if or and not own who hour hook marks hung free ") (by decide +kernel) (by show (RX0, 51, "person wish wed knows hooks mix thief hand fetch if or and not own who hour hook marks hung free ", 0) ∈ ab_sr; decide +kernel) ?_
      refine ab_iload (pc := 22) (i := 5) (j := 5) (by decide +kernel) rfl ?_
      refine ab_callVs (As := [.int x5]) (st := []) (pc := 24) (index := 58) iJ0_charAt_5068e kw_74e48f0b05 kw_4aa780f2d5 kw_36ffa5c8dc rfl rfl rfl (by decide) rfl (Nat.le_of_ble_eq_true rfl) (by decide +kernel) (fun y9 e9 => ab_sC_in e9) (fun y9 e9 => okJ0_charAt_5068e hl e9) (fun v3 ev3 => ?_)
      refine ab_bipush (pc := 27) (n := 32) (v := nI 32) (by decide +kernel) (by decide) ?_
      refine ab_icmp_ne (off := 36) (pc := 29) (tgt := 65) (by decide +kernel) (by decide) (fun g4 => ?_) (fun g4 => ?_)
      · refine ab_iload (pc := 32) (i := 5) (j := 5) (by decide +kernel) rfl ?_
        refine ab_iload (pc := 34) (i := 4) (j := 4) (by decide +kernel) rfl ?_
        refine ab_isub (pc := 36) (by decide +kernel) ?_
        refine ab_iload_n (pc := 37) (n := 2) (i := 2) (j := 2) (by decide +kernel) rfl rfl ?_
        refine ab_iload_n (pc := 38) (n := 1) (i := 1) (j := 1) (by decide +kernel) rfl rfl ?_
        refine ab_isub (pc := 39) (by decide +kernel) ?_
        refine ab_icmp_ne (off := 16) (pc := 40) (tgt := 56) (by decide +kernel) (by decide) (fun g5 => ?_) (fun g5 => ?_)
        · refine ab_aload_n (pc := 43) (n := 0) (i := 0) (j := 0) (by decide +kernel) rfl rfl ?_
          refine ab_iload (pc := 44) (i := 4) (j := 4) (by decide +kernel) rfl ?_
          refine ab_iload_n (pc := 46) (n := 1) (i := 1) (j := 1) (by decide +kernel) rfl rfl ?_
          refine ab_iload_n (pc := 47) (n := 2) (i := 2) (j := 2) (by decide +kernel) rfl rfl ?_
          refine ab_callVi (As := [.int x4, .int x1, .int x2]) (st := []) (pc := 48) lk_X0_62_0 rfl rfl rfl (by decide) rfl (Nat.le_of_ble_eq_true rfl) (by decide +kernel) (fun y9 e9 => okX0_isSpelt hl (F := F) e9) (fun v6 ev6 => ?_)
          refine ab_if_eq (off := 5) (pc := 51) (tgt := 56) (by decide +kernel) (by decide) (fun g7 => ?_) (fun g7 => ?_)
          · refine ab_iinc (pc := 56) (i := 3) (n := 1) (j := 3) (d := nI 1) (lv' := [(0, .ref x0), (1, .int x1), (2, .int x2), (3, .int (x3 + nI 1)), (4, .int x4), (5, .int x5)]) (by decide +kernel) rfl rfl (Nat.le_of_ble_eq_true rfl) rfl rfl ?_
            refine ab_iload (pc := 59) (i := 5) (j := 5) (by decide +kernel) rfl ?_
            refine ab_iconst (pc := 61) (n := 1) (v := nI 1) (by decide +kernel) rfl ?_
            refine ab_iadd (pc := 62) (by decide +kernel) ?_
            refine ab_istore (pc := 63) (i := 4) (lv' := [(0, .ref x0), (1, .int x1), (2, .int x2), (3, .int (x3 + nI 1)), (4, .int (x5 + (nI 1))), (5, .int x5)]) (by decide +kernel) (Nat.le_of_ble_eq_true rfl) rfl rfl ?_
            refine ab_iinc (pc := 65) (i := 5) (n := 1) (j := 5) (d := nI 1) (lv' := [(0, .ref x0), (1, .int x1), (2, .int x2), (3, .int (x3 + nI 1)), (4, .int (x5 + (nI 1))), (5, .int (x5 + nI 1))]) (by decide +kernel) rfl rfl (Nat.le_of_ble_eq_true rfl) rfl rfl ?_
            refine ab_goto (pc := 68) (off := (-58)) (tgt := 10) (by decide +kernel) (by decide) ?_
            exact ih (x3 + nI 1) (x5 + (nI 1)) (x5 + nI 1)
          · refine ab_iload_n (pc := 54) (n := 3) (i := 3) (j := 3) (by decide +kernel) rfl rfl ?_
            exact ab_iret (pc := 55) (by decide +kernel) rfl rfl (Nat.le_of_ble_eq_true rfl) (Nat.le_of_ble_eq_true rfl)
        · refine ab_iinc (pc := 56) (i := 3) (n := 1) (j := 3) (d := nI 1) (lv' := [(0, .ref x0), (1, .int x1), (2, .int x2), (3, .int (x3 + nI 1)), (4, .int x4), (5, .int x5)]) (by decide +kernel) rfl rfl (Nat.le_of_ble_eq_true rfl) rfl rfl ?_
          refine ab_iload (pc := 59) (i := 5) (j := 5) (by decide +kernel) rfl ?_
          refine ab_iconst (pc := 61) (n := 1) (v := nI 1) (by decide +kernel) rfl ?_
          refine ab_iadd (pc := 62) (by decide +kernel) ?_
          refine ab_istore (pc := 63) (i := 4) (lv' := [(0, .ref x0), (1, .int x1), (2, .int x2), (3, .int (x3 + nI 1)), (4, .int (x5 + (nI 1))), (5, .int x5)]) (by decide +kernel) (Nat.le_of_ble_eq_true rfl) rfl rfl ?_
          refine ab_iinc (pc := 65) (i := 5) (n := 1) (j := 5) (d := nI 1) (lv' := [(0, .ref x0), (1, .int x1), (2, .int x2), (3, .int (x3 + nI 1)), (4, .int (x5 + (nI 1))), (5, .int (x5 + nI 1))]) (by decide +kernel) rfl rfl (Nat.le_of_ble_eq_true rfl) rfl rfl ?_
          refine ab_goto (pc := 68) (off := (-58)) (tgt := 10) (by decide +kernel) (by decide) ?_
          exact ih (x3 + nI 1) (x5 + (nI 1)) (x5 + nI 1)
      · refine ab_iinc (pc := 65) (i := 5) (n := 1) (j := 5) (d := nI 1) (lv' := [(0, .ref x0), (1, .int x1), (2, .int x2), (3, .int x3), (4, .int x4), (5, .int (x5 + nI 1))]) (by decide +kernel) rfl rfl (Nat.le_of_ble_eq_true rfl) rfl rfl ?_
        refine ab_goto (pc := 68) (off := (-58)) (tgt := 10) (by decide +kernel) (by decide) ?_
        exact ih x3 x4 (x5 + nI 1)
    · refine ab_sipush (pc := 71) (n := 257) (v := nI 257) (by decide +kernel) (by decide) ?_
      exact ab_iret (pc := 74) (by decide +kernel) rfl rfl (Nat.le_of_ble_eq_true rfl) (Nat.le_of_ble_eq_true rfl)
set_option maxRecDepth 100000 in
set_option maxHeartbeats 4000000 in
theorem wX0_wordOf {l : Launch} (hl : l.stackTraces = false) (F : Nat) (x0 : Nat) (x1 : Int32) (x2 : Int32) (h : ab_H) : ab_S l mX0_wordOf (fun y : Int32 => ((.inl (some (.int y)), h) : ab_R × ab_H)) 0 0 (fX0_wordOf F x0 x1 x2 h) 0 [(0, .ref x0), (1, .int x1), (2, .int x2)] [] h := by
  unfold fX0_wordOf
  refine ab_sipush (pc := 0) (n := 1000) (v := nI 1000) (by decide +kernel) (by decide) ?_
  refine ab_istore_n (pc := 3) (n := 3) (i := 3) (lv' := [(0, .ref x0), (1, .int x1), (2, .int x2), (3, .int (nI 1000))]) (by decide +kernel) rfl (Nat.le_of_ble_eq_true rfl) rfl rfl ?_
  refine ab_iconst (pc := 4) (n := 0) (v := nI 0) (by decide +kernel) rfl ?_
  refine ab_istore (pc := 5) (i := 4) (lv' := [(0, .ref x0), (1, .int x1), (2, .int x2), (3, .int (nI 1000)), (4, .int (nI 0))]) (by decide +kernel) (Nat.le_of_ble_eq_true rfl) rfl rfl ?_
  refine ab_iconst (pc := 7) (n := 0) (v := nI 0) (by decide +kernel) rfl ?_
  refine ab_istore (pc := 8) (i := 5) (lv' := [(0, .ref x0), (1, .int x1), (2, .int x2), (3, .int (nI 1000)), (4, .int (nI 0)), (5, .int (nI 0))]) (by decide +kernel) (Nat.le_of_ble_eq_true rfl) rfl rfl ?_
  refine lX0_wordOf_10 hl F x0 x1 x2 h F (nI 1000) (nI 0) (nI 0)
set_option maxRecDepth 100000 in
set_option maxHeartbeats 4000000 in
theorem okX0_wordOf {l : Launch} (hl : l.stackTraces = false) {F : Nat} {x0 : Nat} {x1 : Int32} {x2 : Int32} {h : ab_H} {y : Int32} (e : fX0_wordOf F x0 x1 x2 h = some y) : ab_Met l mX0_wordOf [.ref x0, .int x1, .int x2] h (.inl (some (.int y)), h) := ab_ofS (io := (fun y : Int32 => ((.inl (some (.int y)), h) : ab_R × ab_H))) (x := y) hl (by decide) rfl (Nat.le_of_ble_eq_true rfl) (wX0_wordOf hl F x0 x1 x2 h) e
def mX1_readSetting : ab_M := (yX1_readSetting, cX1_readSetting, 5, none, { frames := 3, cells := 0, slots := 0, locals := 66 })
theorem iX1_readSetting : ab_MI mX1_readSetting 0 := ⟨kw_5d07343378, kw_9c5cf83101, by decide +kernel⟩
theorem lk_X1_32_0 : ab_LV RX1 32 0 mX0_kindHere 0 := ⟨RX0, rfl, iX0_kindHere, kw_1b8d71030a, kw_8205f23004, kw_455e2d1259⟩
theorem lk_X1_62_8 : ab_LV RX1 62 8 mX8_lastTakenHook 0 := ⟨RX8, rfl, iX8_lastTakenHook, kw_a3b889f7c8, kw_a1529f4a2f, kw_23fa986f40⟩
theorem lk_X1_65 : ab_LS RX1 65 mJ9_max_7cf53 2 := ⟨iJ9_max_7cf53, kw_04921a8266, kw_cd9e564d81⟩
def fX1_readSetting (F : Nat) (x0 : Nat) (h : ab_H) : Option ab_H := ab_bd (ab_fr h x0 1 0) fun v1 => ab_ck (ab_io h v1 0 = true) (ab_bd (fX0_kindHere v1 h) fun v2 => ab_jn (κ := Int32 → Option ab_H) (fun (z3 : Int32) => ab_ck (ab_io h x0 1 = true) (ab_bd (fX10_acceptD x0 z3 h) fun h4 => ab_ck (ab_io h4 x0 1 = true) (ab_bd (fX10_isRightD x0 h4) fun v5 => (if v5 = 0 then some h4 else ab_jn (κ := Int32 → Option ab_H) (fun (z7 : Int32) => ab_jn (κ := Int32 → Option ab_H) (fun (z8 : Int32) => ab_jn (κ := Int32 → Option ab_H) (fun (z9 : Int32) => ab_ck (ab_io h4 x0 1 = true) (ab_bd (fX1_readNumber F x0 z8 z9 h4) fun v10 => ab_ck (ab_io v10.2 x0 1 = true) (ab_bd (fX10_isRightD x0 v10.2) fun v11 => (if v11 = 0 then some v10.2 else (if z7 = 0 then (if v2 = (nI 1005) then ab_bd (ab_fr v10.2 x0 1 5) fun v15 => ab_bd (ab_fw v10.2 v15 8 3 (.int v10.1)) fun h16 => some h16 else ab_bd (ab_fr v10.2 x0 1 5) fun v17 => ab_bd (ab_fw v10.2 v17 8 4 (.int v10.1)) fun h18 => some h18) else ab_bd (ab_fr v10.2 x0 1 5) fun v19 => ab_bd (ab_fw v10.2 v19 8 1 (.int v10.1)) fun h20 => some h20))))) fun j21 => (if z7 = 0 then j21 (nI 100) else j21 (nI 12))) fun j23 => (if z7 = 0 then j23 (nI 0) else ab_bd (ab_fr h4 x0 1 5) fun v25 => ab_ck (ab_io h4 v25 8 = true) (ab_bd (fX8_lastTakenHook F v25 h4) fun v26 => ab_bd (fJ9_max_7cf53 (nI 1) (v26 + (nI 1)) h4) fun v27 => j23 v27))) fun j28 => (if v2 = (nI 1004) then j28 (nI 1) else j28 (nI 0)))))) fun j30 => ab_jn (κ := Option ab_H) (j30 (nI 1)) fun j31 => (if v2 = (nI 1004) then j31 else (if v2 = (nI 1005) then j31 else (if v2 = (nI 1006) then j31 else j30 (nI 0)))))
set_option maxRecDepth 100000 in
set_option maxHeartbeats 4000000 in
theorem wX1_readSetting {l : Launch} (hl : l.stackTraces = false) (F : Nat) (x0 : Nat) (h : ab_H) : ab_S l mX1_readSetting (fun y : ab_H => ((.inl none, y) : ab_R × ab_H)) 0 0 (fX1_readSetting F x0 h) 0 [(0, .ref x0)] [] h := by
  unfold fX1_readSetting
  refine ab_aload_n (pc := 0) (n := 0) (i := 0) (j := 0) (by decide +kernel) rfl rfl ?_
  refine ab_getR (pc := 1) fl_X1_28_1 (by decide +kernel) (fun v1 ev1 => ?_)
  refine ab_callVi (As := []) (st := []) (pc := 4) lk_X1_32_0 rfl rfl rfl (by decide) rfl (Nat.le_of_ble_eq_true rfl) (by decide +kernel) (fun y9 e9 => okX0_kindHere hl e9) (fun v2 ev2 => ?_)
  refine ab_istore_n (pc := 7) (n := 1) (i := 1) (lv' := [(0, .ref x0), (1, .int v2)]) (by decide +kernel) rfl (Nat.le_of_ble_eq_true rfl) rfl rfl ?_
  refine ab_aload_n (pc := 8) (n := 0) (i := 0) (j := 0) (by decide +kernel) rfl rfl ?_
  refine ab_iload_n (pc := 9) (n := 1) (i := 1) (j := 1) (by decide +kernel) rfl rfl ?_
  refine ab_sipush (pc := 10) (n := 1004) (v := nI 1004) (by decide +kernel) (by decide) ?_
  refine ab_jr (fun k9 : Int32 → Option ab_H => ∀ (z3 : Int32), ab_S l mX1_readSetting (fun y : ab_H => ((.inl none, y) : ab_R × ab_H)) 0 0 (k9 z3) 35 [(0, .ref x0), (1, .int v2)] [.int z3, .ref x0] h) ?_ (fun j30 hj30 => ?_)
  · intro z3
    refine ab_callUw (As := [.int z3]) (st := []) (pc := 35) lk_X1_54_1 rfl rfl rfl (by decide) rfl (Nat.le_of_ble_eq_true rfl) (by decide +kernel) (fun y9 e9 => okX10_acceptD hl e9) (fun h4 eh4 => ?_)
    refine ab_aload_n (pc := 38) (n := 0) (i := 0) (j := 0) (by decide +kernel) rfl rfl ?_
    refine ab_callUi (As := []) (st := []) (pc := 39) lk_X1_58_1 rfl rfl rfl (by decide) rfl (Nat.le_of_ble_eq_true rfl) (by decide +kernel) (fun y9 e9 => okX10_isRightD hl e9) (fun v5 ev5 => ?_)
    refine ab_if_ne (off := 4) (pc := 42) (tgt := 46) (by decide +kernel) (by decide) (fun g6 => ?_) (fun g6 => ?_)
    · exact ab_vret (pc := 45) (by decide +kernel) rfl rfl (Nat.le_of_ble_eq_true rfl) (Nat.le_of_ble_eq_true rfl)
    · refine ab_iload_n (pc := 46) (n := 1) (i := 1) (j := 1) (by decide +kernel) rfl rfl ?_
      refine ab_sipush (pc := 47) (n := 1004) (v := nI 1004) (by decide +kernel) (by decide) ?_
      refine ab_jr (fun k9 : Int32 → Option ab_H => ∀ (z7 : Int32), ab_S l mX1_readSetting (fun y : ab_H => ((.inl none, y) : ab_R × ab_H)) 0 0 (k9 z7) 58 [(0, .ref x0), (1, .int v2)] [.int z7] h4) ?_ (fun j28 hj28 => ?_)
      · intro z7
        refine ab_istore_n (pc := 58) (n := 2) (i := 2) (lv' := [(0, .ref x0), (1, .int v2), (2, .int z7)]) (by decide +kernel) rfl (Nat.le_of_ble_eq_true rfl) rfl rfl ?_
        refine ab_iload_n (pc := 59) (n := 2) (i := 2) (j := 2) (by decide +kernel) rfl rfl ?_
        refine ab_jr (fun k9 : Int32 → Option ab_H => ∀ (z8 : Int32), ab_S l mX1_readSetting (fun y : ab_H => ((.inl none, y) : ab_R × ab_H)) 0 0 (k9 z8) 80 [(0, .ref x0), (1, .int v2), (2, .int z7)] [.int z8] h4) ?_ (fun j23 hj23 => ?_)
        · intro z8
          refine ab_istore_n (pc := 80) (n := 3) (i := 3) (lv' := [(0, .ref x0), (1, .int v2), (2, .int z7), (3, .int z8)]) (by decide +kernel) rfl (Nat.le_of_ble_eq_true rfl) rfl rfl ?_
          refine ab_aload_n (pc := 81) (n := 0) (i := 0) (j := 0) (by decide +kernel) rfl rfl ?_
          refine ab_iload_n (pc := 82) (n := 3) (i := 3) (j := 3) (by decide +kernel) rfl rfl ?_
          refine ab_iload_n (pc := 83) (n := 2) (i := 2) (j := 2) (by decide +kernel) rfl rfl ?_
          refine ab_jr (fun k9 : Int32 → Option ab_H => ∀ (z9 : Int32), ab_S l mX1_readSetting (fun y : ab_H => ((.inl none, y) : ab_R × ab_H)) 0 0 (k9 z9) 94 [(0, .ref x0), (1, .int v2), (2, .int z7)] [.int z9, .int z8, .ref x0] h4) ?_ (fun j21 hj21 => ?_)
          · intro z9
            refine ab_callVj (As := [.int z8, .int z9]) (st := []) (pc := 94) lk_X1_71_1 rfl rfl rfl (by decide) rfl (Nat.le_of_ble_eq_true rfl) (by decide +kernel) (fun y9 e9 => okX1_readNumber hl (F := F) e9) (fun v10 ev10 => ?_)
            refine ab_istore (pc := 97) (i := 4) (lv' := [(0, .ref x0), (1, .int v2), (2, .int z7), (4, .int v10.1)]) (by decide +kernel) (Nat.le_of_ble_eq_true rfl) rfl rfl ?_
            refine ab_aload_n (pc := 99) (n := 0) (i := 0) (j := 0) (by decide +kernel) rfl rfl ?_
            refine ab_callUi (As := []) (st := []) (pc := 100) lk_X1_58_1 rfl rfl rfl (by decide) rfl (Nat.le_of_ble_eq_true rfl) (by decide +kernel) (fun y9 e9 => okX10_isRightD hl e9) (fun v11 ev11 => ?_)
            refine ab_if_ne (off := 4) (pc := 103) (tgt := 107) (by decide +kernel) (by decide) (fun g12 => ?_) (fun g12 => ?_)
            · exact ab_vret (pc := 106) (by decide +kernel) rfl rfl (Nat.le_of_ble_eq_true rfl) (Nat.le_of_ble_eq_true rfl)
            · refine ab_iload_n (pc := 107) (n := 2) (i := 2) (j := 2) (by decide +kernel) rfl rfl ?_
              refine ab_if_eq (off := 15) (pc := 108) (tgt := 123) (by decide +kernel) (by decide) (fun g13 => ?_) (fun g13 => ?_)
              · refine ab_iload_n (pc := 123) (n := 1) (i := 1) (j := 1) (by decide +kernel) rfl rfl ?_
                refine ab_sipush (pc := 124) (n := 1005) (v := nI 1005) (by decide +kernel) (by decide) ?_
                refine ab_icmp_ne (off := 15) (pc := 127) (tgt := 142) (by decide +kernel) (by decide) (fun g14 => ?_) (fun g14 => ?_)
                · refine ab_aload_n (pc := 130) (n := 0) (i := 0) (j := 0) (by decide +kernel) rfl rfl ?_
                  refine ab_getR (pc := 131) fl_X1_19_1 (by decide +kernel) (fun v15 ev15 => ?_)
                  refine ab_iload (pc := 134) (i := 4) (j := 3) (by decide +kernel) rfl ?_
                  refine ab_put (pc := 136) fl_X1_78_8 rfl (fun _ => rfl) (fun _ => rfl) (by decide +kernel) (fun h16 eh16 => ?_)
                  refine ab_goto (pc := 139) (off := 12) (tgt := 151) (by decide +kernel) (by decide) ?_
                  exact ab_vret (pc := 151) (by decide +kernel) rfl rfl (Nat.le_of_ble_eq_true rfl) (Nat.le_of_ble_eq_true rfl)
                · refine ab_aload_n (pc := 142) (n := 0) (i := 0) (j := 0) (by decide +kernel) rfl rfl ?_
                  refine ab_getR (pc := 143) fl_X1_19_1 (by decide +kernel) (fun v17 ev17 => ?_)
                  refine ab_iload (pc := 146) (i := 4) (j := 3) (by decide +kernel) rfl ?_
                  refine ab_put (pc := 148) fl_X1_81_8 rfl (fun _ => rfl) (fun _ => rfl) (by decide +kernel) (fun h18 eh18 => ?_)
                  exact ab_vret (pc := 151) (by decide +kernel) rfl rfl (Nat.le_of_ble_eq_true rfl) (Nat.le_of_ble_eq_true rfl)
              · refine ab_aload_n (pc := 111) (n := 0) (i := 0) (j := 0) (by decide +kernel) rfl rfl ?_
                refine ab_getR (pc := 112) fl_X1_19_1 (by decide +kernel) (fun v19 ev19 => ?_)
                refine ab_iload (pc := 115) (i := 4) (j := 3) (by decide +kernel) rfl ?_
                refine ab_put (pc := 117) fl_X1_74_8 rfl (fun _ => rfl) (fun _ => rfl) (by decide +kernel) (fun h20 eh20 => ?_)
                refine ab_goto (pc := 120) (off := 31) (tgt := 151) (by decide +kernel) (by decide) ?_
                exact ab_vret (pc := 151) (by decide +kernel) rfl rfl (Nat.le_of_ble_eq_true rfl) (Nat.le_of_ble_eq_true rfl)
          · refine ab_if_eq (off := 8) (pc := 84) (tgt := 92) (by decide +kernel) (by decide) (fun g22 => ?_) (fun g22 => ?_)
            · refine ab_bipush (pc := 92) (n := 100) (v := nI 100) (by decide +kernel) (by decide) ?_
              refine ab_few [0, 1, 2] (lv' := [(0, .ref x0), (1, .int v2), (2, .int z7)]) rfl ?_
              exact hj21 (nI 100)
            · refine ab_bipush (pc := 87) (n := 12) (v := nI 12) (by decide +kernel) (by decide) ?_
              refine ab_goto (pc := 89) (off := 5) (tgt := 94) (by decide +kernel) (by decide) ?_
              refine ab_few [0, 1, 2] (lv' := [(0, .ref x0), (1, .int v2), (2, .int z7)]) rfl ?_
              exact hj21 (nI 12)
        · refine ab_if_eq (off := 19) (pc := 60) (tgt := 79) (by decide +kernel) (by decide) (fun g24 => ?_) (fun g24 => ?_)
          · refine ab_iconst (pc := 79) (n := 0) (v := nI 0) (by decide +kernel) rfl ?_
            exact hj23 (nI 0)
          · refine ab_iconst (pc := 63) (n := 1) (v := nI 1) (by decide +kernel) rfl ?_
            refine ab_aload_n (pc := 64) (n := 0) (i := 0) (j := 0) (by decide +kernel) rfl rfl ?_
            refine ab_getR (pc := 65) fl_X1_19_1 (by decide +kernel) (fun v25 ev25 => ?_)
            refine ab_callVi (As := []) (st := [.int (nI 1)]) (pc := 68) lk_X1_62_8 rfl rfl rfl (by decide) rfl (Nat.le_of_ble_eq_true rfl) (by decide +kernel) (fun y9 e9 => okX8_lastTakenHook hl (F := F) e9) (fun v26 ev26 => ?_)
            refine ab_iconst (pc := 71) (n := 1) (v := nI 1) (by decide +kernel) rfl ?_
            refine ab_iadd (pc := 72) (by decide +kernel) ?_
            refine ab_callSi (As := [.int (nI 1), .int (v26 + (nI 1))]) (st := []) (pc := 73) lk_X1_65 rfl rfl rfl (by decide) rfl (Nat.le_of_ble_eq_true rfl) (by decide +kernel) (fun y9 e9 => okJ9_max_7cf53 hl e9) (fun v27 ev27 => ?_)
            refine ab_goto (pc := 76) (off := 4) (tgt := 80) (by decide +kernel) (by decide) ?_
            exact hj23 v27
      · refine ab_icmp_ne (off := 7) (pc := 50) (tgt := 57) (by decide +kernel) (by decide) (fun g29 => ?_) (fun g29 => ?_)
        · refine ab_iconst (pc := 53) (n := 1) (v := nI 1) (by decide +kernel) rfl ?_
          refine ab_goto (pc := 54) (off := 4) (tgt := 58) (by decide +kernel) (by decide) ?_
          exact hj28 (nI 1)
        · refine ab_iconst (pc := 57) (n := 0) (v := nI 0) (by decide +kernel) rfl ?_
          exact hj28 (nI 0)
  · refine ab_jr (fun k9 : Option ab_H => ab_S l mX1_readSetting (fun y : ab_H => ((.inl none, y) : ab_R × ab_H)) 0 0 (k9) 30 [(0, .ref x0), (1, .int v2)] [.ref x0] h) ?_ (fun j31 hj31 => ?_)
    · refine ab_iconst (pc := 30) (n := 1) (v := nI 1) (by decide +kernel) rfl ?_
      refine ab_goto (pc := 31) (off := 4) (tgt := 35) (by decide +kernel) (by decide) ?_
      exact hj30 (nI 1)
    · refine ab_icmp_eq (off := 17) (pc := 13) (tgt := 30) (by decide +kernel) (by decide) (fun g32 => ?_) (fun g32 => ?_)
      · exact hj31
      · refine ab_iload_n (pc := 16) (n := 1) (i := 1) (j := 1) (by decide +kernel) rfl rfl ?_
        refine ab_sipush (pc := 17) (n := 1005) (v := nI 1005) (by decide +kernel) (by decide) ?_
        refine ab_icmp_eq (off := 10) (pc := 20) (tgt := 30) (by decide +kernel) (by decide) (fun g33 => ?_) (fun g33 => ?_)
        · exact hj31
        · refine ab_iload_n (pc := 23) (n := 1) (i := 1) (j := 1) (by decide +kernel) rfl rfl ?_
          refine ab_sipush (pc := 24) (n := 1006) (v := nI 1006) (by decide +kernel) (by decide) ?_
          refine ab_icmp_ne (off := 7) (pc := 27) (tgt := 34) (by decide +kernel) (by decide) (fun g34 => ?_) (fun g34 => ?_)
          · exact hj31
          · refine ab_iconst (pc := 34) (n := 0) (v := nI 0) (by decide +kernel) rfl ?_
            exact hj30 (nI 0)
set_option maxRecDepth 100000 in
set_option maxHeartbeats 4000000 in
theorem okX1_readSetting {l : Launch} (hl : l.stackTraces = false) {F : Nat} {x0 : Nat} {h : ab_H} {y : ab_H} (e : fX1_readSetting F x0 h = some y) : ab_Met l mX1_readSetting [.ref x0] h (.inl none, y) := ab_ofS (io := (fun y : ab_H => ((.inl none, y) : ab_R × ab_H))) (x := y) hl (by decide) rfl (Nat.le_of_ble_eq_true rfl) (wX1_readSetting hl F x0 h) e
def mX1_readWish : ab_M := (yX1_readWish, cX1_readWish, 6, none, { frames := 3, cells := 0, slots := 0, locals := 66 })
theorem iX1_readWish : ab_MI mX1_readWish 0 := ⟨kw_c5731a8bda, kw_9c5cf83101, by decide +kernel⟩
theorem lk_X1_114_8 : ab_LV RX1 114 8 mX8_setWishes 3 := ⟨RX8, rfl, iX8_setWishes, kw_84bdd8b8c5, kw_b37458f022, kw_c712b47560⟩
def fX1_readWish_32 (F : Nat) (x0 : Nat) (x1 : Int32) (k134 : Int32 → ab_H → Option ab_H) : Nat → Int32 → Int32 → Int32 → ab_H → Option ab_H
  | 0, _, _, _, _ => none
  | n + 1, x2, x3, x4, h => (if x4 = 0 then k134 x3 h else (if x3 < (nI 10) then ab_bd (ab_fr h x0 1 0) fun v9 => ab_ck (ab_io h v9 0 = true) (ab_bd (fX0_numberHere F v9 h) fun v10 => ab_bd (ab_fr h x0 1 5) fun v11 => ab_ck (ab_io h v11 8 = true) (ab_bd (fX8_hasPerson v11 v10 h) fun v12 => ab_jn (κ := Int32 → Option ab_H) (fun (z13 : Int32) => ab_ck (ab_io h x0 1 = true) (ab_bd (fX10_acceptD x0 z13 h) fun h14 => ab_ck (ab_io h14 x0 1 = true) (ab_bd (fX10_isRightD x0 h14) fun v15 => ab_jn (κ := Int32 → ab_H → Option ab_H) (fun (z16 : Int32) (h17 : ab_H) => ab_ck (ab_io h17 x0 1 = true) (ab_bd (fX10_isRightD x0 h17) fun v18 => (if v18 = 0 then fX1_readWish_32 F x0 x1 k134 n z16 (x3 + nI 1) (nI 0) h17 else ab_ck (ab_io h17 x0 1 = true) (ab_bd (fX10_isHereD x0 (nI 256) h17) fun v20 => (if v20 = 0 then fX1_readWish_32 F x0 x1 k134 n z16 (x3 + nI 1) (nI 0) h17 else fX1_readWish_32 F x0 x1 k134 n z16 (x3 + nI 1) (nI 1) h17))))) fun j22 => (if v15 = 0 then j22 x2 h14 else ab_bd (ab_fr h14 x0 1 6) fun v24 => ab_bd (ab_iw 0 h14 v24 x3 v10) fun h25 => j22 (x2 ||| ((nI 1) <<< (v10 &&& 31))) h25)))) fun j26 => ab_jn (κ := Option ab_H) (j26 (nI 0)) fun j27 => (if v12 = 0 then j27 else ab_bd (fX11_has x2 v10 h) fun v29 => (if v29 = 0 then j26 (nI 1) else j27)))) else k134 x3 h))
def fX1_readWish (F : Nat) (x0 : Nat) (h : ab_H) : Option ab_H := ab_bd (ab_fr h x0 1 0) fun v1 => ab_ck (ab_io h v1 0 = true) (ab_bd (fX0_goOn v1 h) fun h2 => ab_bd (ab_fr h2 x0 1 5) fun v3 => ab_bd (ab_fi h2 v3 8 0) fun v4 => ab_ck (ab_io h2 x0 1 = true) (ab_bd (fX1_readNumber F x0 (nI 0) (v4 - (nI 1)) h2) fun v5 => ab_ck (ab_io v5.2 x0 1 = true) (ab_bd (fX10_isRightD x0 v5.2) fun v6 => fX1_readWish_32 F x0 v5.1 (fun (z31 : Int32) (h32 : ab_H) => ab_ck (ab_io h32 x0 1 = true) (ab_bd (fX10_isRightD x0 h32) fun v33 => (if v33 = 0 then some h32 else ab_bd (ab_fr h32 x0 1 5) fun v35 => ab_bd (ab_fr h32 x0 1 6) fun v36 => ab_ck (ab_io h32 v35 8 = true) (ab_bd (fX8_setWishes F v35 v5.1 v36 z31 h32) fun h37 => some h37)))) F (nI 0) (nI 0) v6 v5.2)))
set_option maxRecDepth 100000 in
set_option maxHeartbeats 4000000 in
theorem lX1_readWish_32 {l : Launch} (hl : l.stackTraces = false) (F : Nat) (x0 : Nat) (x1 : Int32) {k134 : Int32 → ab_H → Option ab_H} (hk134 : ∀ (x3 : Int32), ∀ (h : ab_H), ab_S l mX1_readWish (fun y : ab_H => ((.inl none, y) : ab_R × ab_H)) 0 0 (k134 x3 h) 134 [(0, .ref x0), (1, .int x1), (3, .int x3)] [] h) : ∀ (n : Nat) (x2 : Int32) (x3 : Int32) (x4 : Int32) (h : ab_H), ab_S l mX1_readWish (fun y : ab_H => ((.inl none, y) : ab_R × ab_H)) 0 0 (fX1_readWish_32 F x0 x1 k134 n x2 x3 x4 h) 32 [(0, .ref x0), (1, .int x1), (2, .int x2), (3, .int x3), (4, .int x4)] [] h := by
  intro n
  induction n with
  | zero =>
    intro x2 x3 x4 h
    exact ab_none
  | succ n ih =>
    intro x2 x3 x4 h
    rw [fX1_readWish_32]
    refine ab_iload (pc := 32) (i := 4) (j := 4) (by decide +kernel) rfl ?_
    refine ab_if_eq (off := 100) (pc := 34) (tgt := 134) (by decide +kernel) (by decide) (fun g7 => ?_) (fun g7 => ?_)
    · refine ab_few [0, 1, 3] (lv' := [(0, .ref x0), (1, .int x1), (3, .int x3)]) rfl ?_
      exact hk134 x3 h
    · refine ab_iload_n (pc := 37) (n := 3) (i := 3) (j := 3) (by decide +kernel) rfl rfl ?_
      refine ab_bipush (pc := 38) (n := 10) (v := nI 10) (by decide +kernel) (by decide) ?_
      refine ab_icmp_ge (off := 94) (pc := 40) (tgt := 134) (by decide +kernel) (by decide) (fun g8 => ?_) (fun g8 => ?_)
      · refine ab_aload_n (pc := 43) (n := 0) (i := 0) (j := 0) (by decide +kernel) rfl rfl ?_
        refine ab_getR (pc := 44) fl_X1_28_1 (by decide +kernel) (fun v9 ev9 => ?_)
        refine ab_callVi (As := []) (st := []) (pc := 47) lk_X1_84_0 rfl rfl rfl (by decide) rfl (Nat.le_of_ble_eq_true rfl) (by decide +kernel) (fun y9 e9 => okX0_numberHere hl (F := F) e9) (fun v10 ev10 => ?_)
        refine ab_istore (pc := 50) (i := 5) (lv' := [(0, .ref x0), (1, .int x1), (2, .int x2), (3, .int x3), (4, .int x4), (5, .int v10)]) (by decide +kernel) (Nat.le_of_ble_eq_true rfl) rfl rfl ?_
        refine ab_aload_n (pc := 52) (n := 0) (i := 0) (j := 0) (by decide +kernel) rfl rfl ?_
        refine ab_aload_n (pc := 53) (n := 0) (i := 0) (j := 0) (by decide +kernel) rfl rfl ?_
        refine ab_getR (pc := 54) fl_X1_19_1 (by decide +kernel) (fun v11 ev11 => ?_)
        refine ab_iload (pc := 57) (i := 5) (j := 5) (by decide +kernel) rfl ?_
        refine ab_callVi (As := [.int v10]) (st := [.ref x0]) (pc := 59) lk_X1_103_8 rfl rfl rfl (by decide) rfl (Nat.le_of_ble_eq_true rfl) (by decide +kernel) (fun y9 e9 => okX8_hasPerson hl e9) (fun v12 ev12 => ?_)
        refine ab_jr (fun k9 : Int32 → Option ab_H => ∀ (z13 : Int32), ab_S l mX1_readWish (fun y : ab_H => ((.inl none, y) : ab_R × ab_H)) 0 0 (k9 z13) 79 [(0, .ref x0), (1, .int x1), (2, .int x2), (3, .int x3), (5, .int v10)] [.int z13, .ref x0] h) ?_ (fun j26 hj26 => ?_)
        · intro z13
          refine ab_callUw (As := [.int z13]) (st := []) (pc := 79) lk_X1_54_1 rfl rfl rfl (by decide) rfl (Nat.le_of_ble_eq_true rfl) (by decide +kernel) (fun y9 e9 => okX10_acceptD hl e9) (fun h14 eh14 => ?_)
          refine ab_aload_n (pc := 82) (n := 0) (i := 0) (j := 0) (by decide +kernel) rfl rfl ?_
          refine ab_callUi (As := []) (st := []) (pc := 83) lk_X1_58_1 rfl rfl rfl (by decide) rfl (Nat.le_of_ble_eq_true rfl) (by decide +kernel) (fun y9 e9 => okX10_isRightD hl e9) (fun v15 ev15 => ?_)
          refine ab_jr (fun k9 : Int32 → ab_H → Option ab_H => ∀ (z16 : Int32), ∀ (h17 : ab_H), ab_S l mX1_readWish (fun y : ab_H => ((.inl none, y) : ab_R × ab_H)) 0 0 (k9 z16 h17) 104 [(0, .ref x0), (1, .int x1), (2, .int z16), (3, .int x3)] [] h17) ?_ (fun j22 hj22 => ?_)
          · intro z16 h17
            refine ab_iinc (pc := 104) (i := 3) (n := 1) (j := 3) (d := nI 1) (lv' := [(0, .ref x0), (1, .int x1), (2, .int z16), (3, .int (x3 + nI 1))]) (by decide +kernel) rfl rfl (Nat.le_of_ble_eq_true rfl) rfl rfl ?_
            refine ab_aload_n (pc := 107) (n := 0) (i := 0) (j := 0) (by decide +kernel) rfl rfl ?_
            refine ab_callUi (As := []) (st := []) (pc := 108) lk_X1_58_1 rfl rfl rfl (by decide) rfl (Nat.le_of_ble_eq_true rfl) (by decide +kernel) (fun y9 e9 => okX10_isRightD hl e9) (fun v18 ev18 => ?_)
            refine ab_if_eq (off := 17) (pc := 111) (tgt := 128) (by decide +kernel) (by decide) (fun g19 => ?_) (fun g19 => ?_)
            · refine ab_iconst (pc := 128) (n := 0) (v := nI 0) (by decide +kernel) rfl ?_
              refine ab_istore (pc := 129) (i := 4) (lv' := [(0, .ref x0), (1, .int x1), (2, .int z16), (3, .int (x3 + nI 1)), (4, .int (nI 0))]) (by decide +kernel) (Nat.le_of_ble_eq_true rfl) rfl rfl ?_
              refine ab_goto (pc := 131) (off := (-99)) (tgt := 32) (by decide +kernel) (by decide) ?_
              exact ih z16 (x3 + nI 1) (nI 0) h17
            · refine ab_aload_n (pc := 114) (n := 0) (i := 0) (j := 0) (by decide +kernel) rfl rfl ?_
              refine ab_sipush (pc := 115) (n := 256) (v := nI 256) (by decide +kernel) (by decide) ?_
              refine ab_callUi (As := [.int (nI 256)]) (st := []) (pc := 118) lk_X1_111_1 rfl rfl rfl (by decide) rfl (Nat.le_of_ble_eq_true rfl) (by decide +kernel) (fun y9 e9 => okX10_isHereD hl e9) (fun v20 ev20 => ?_)
              refine ab_if_eq (off := 7) (pc := 121) (tgt := 128) (by decide +kernel) (by decide) (fun g21 => ?_) (fun g21 => ?_)
              · refine ab_iconst (pc := 128) (n := 0) (v := nI 0) (by decide +kernel) rfl ?_
                refine ab_istore (pc := 129) (i := 4) (lv' := [(0, .ref x0), (1, .int x1), (2, .int z16), (3, .int (x3 + nI 1)), (4, .int (nI 0))]) (by decide +kernel) (Nat.le_of_ble_eq_true rfl) rfl rfl ?_
                refine ab_goto (pc := 131) (off := (-99)) (tgt := 32) (by decide +kernel) (by decide) ?_
                exact ih z16 (x3 + nI 1) (nI 0) h17
              · refine ab_iconst (pc := 124) (n := 1) (v := nI 1) (by decide +kernel) rfl ?_
                refine ab_goto (pc := 125) (off := 4) (tgt := 129) (by decide +kernel) (by decide) ?_
                refine ab_istore (pc := 129) (i := 4) (lv' := [(0, .ref x0), (1, .int x1), (2, .int z16), (3, .int (x3 + nI 1)), (4, .int (nI 1))]) (by decide +kernel) (Nat.le_of_ble_eq_true rfl) rfl rfl ?_
                refine ab_goto (pc := 131) (off := (-99)) (tgt := 32) (by decide +kernel) (by decide) ?_
                exact ih z16 (x3 + nI 1) (nI 1) h17
          · refine ab_if_eq (off := 18) (pc := 86) (tgt := 104) (by decide +kernel) (by decide) (fun g23 => ?_) (fun g23 => ?_)
            · refine ab_few [0, 1, 2, 3] (lv' := [(0, .ref x0), (1, .int x1), (2, .int x2), (3, .int x3)]) rfl ?_
              exact hj22 x2 h14
            · refine ab_iload_n (pc := 89) (n := 2) (i := 2) (j := 2) (by decide +kernel) rfl rfl ?_
              refine ab_iconst (pc := 90) (n := 1) (v := nI 1) (by decide +kernel) rfl ?_
              refine ab_iload (pc := 91) (i := 5) (j := 4) (by decide +kernel) rfl ?_
              refine ab_ishl (pc := 93) (by decide +kernel) ?_
              refine ab_ior (pc := 94) (by decide +kernel) ?_
              refine ab_istore_n (pc := 95) (n := 2) (i := 2) (lv' := [(0, .ref x0), (1, .int x1), (2, .int (x2 ||| ((nI 1) <<< (v10 &&& 31)))), (3, .int x3), (5, .int v10)]) (by decide +kernel) rfl (Nat.le_of_ble_eq_true rfl) rfl rfl ?_
              refine ab_aload_n (pc := 96) (n := 0) (i := 0) (j := 0) (by decide +kernel) rfl rfl ?_
              refine ab_getR (pc := 97) fl_X1_9_1 (by decide +kernel) (fun v24 ev24 => ?_)
              refine ab_iload_n (pc := 100) (n := 3) (i := 3) (j := 3) (by decide +kernel) rfl rfl ?_
              refine ab_iload (pc := 101) (i := 5) (j := 4) (by decide +kernel) rfl ?_
              refine ab_iast (pc := 103) (by decide +kernel) (fun h25 eh25 => ?_)
              refine ab_few [0, 1, 2, 3] (lv' := [(0, .ref x0), (1, .int x1), (2, .int (x2 ||| ((nI 1) <<< (v10 &&& 31)))), (3, .int x3)]) rfl ?_
              exact hj22 (x2 ||| ((nI 1) <<< (v10 &&& 31))) h25
        · refine ab_jr (fun k9 : Option ab_H => ab_S l mX1_readWish (fun y : ab_H => ((.inl none, y) : ab_R × ab_H)) 0 0 (k9) 78 [(0, .ref x0), (1, .int x1), (2, .int x2), (3, .int x3), (5, .int v10)] [.ref x0] h) ?_ (fun j27 hj27 => ?_)
          · refine ab_iconst (pc := 78) (n := 0) (v := nI 0) (by decide +kernel) rfl ?_
            exact hj26 (nI 0)
          · refine ab_if_eq (off := 16) (pc := 62) (tgt := 78) (by decide +kernel) (by decide) (fun g28 => ?_) (fun g28 => ?_)
            · refine ab_few [0, 1, 2, 3, 5] (lv' := [(0, .ref x0), (1, .int x1), (2, .int x2), (3, .int x3), (5, .int v10)]) rfl ?_
              exact hj27
            · refine ab_iload_n (pc := 65) (n := 2) (i := 2) (j := 2) (by decide +kernel) rfl rfl ?_
              refine ab_iload (pc := 66) (i := 5) (j := 5) (by decide +kernel) rfl ?_
              refine ab_callNi (As := [.int x2, .int v10]) (st := [.ref x0]) (pc := 68) (index := 107) (host := "HungFaces") iX11_has (by show (RX1, 107, yX11_has, "HungFaces") ∈ ab_nm; decide +kernel) kw_b5c7c9a43d rfl rfl rfl (by decide) rfl (Nat.le_of_ble_eq_true rfl) (by decide +kernel) (fun y9 e9 => okX11_has hl e9) (fun v29 ev29 => ?_)
              refine ab_if_ne (off := 7) (pc := 71) (tgt := 78) (by decide +kernel) (by decide) (fun g30 => ?_) (fun g30 => ?_)
              · refine ab_iconst (pc := 74) (n := 1) (v := nI 1) (by decide +kernel) rfl ?_
                refine ab_goto (pc := 75) (off := 4) (tgt := 79) (by decide +kernel) (by decide) ?_
                refine ab_few [0, 1, 2, 3, 5] (lv' := [(0, .ref x0), (1, .int x1), (2, .int x2), (3, .int x3), (5, .int v10)]) rfl ?_
                exact hj26 (nI 1)
              · refine ab_few [0, 1, 2, 3, 5] (lv' := [(0, .ref x0), (1, .int x1), (2, .int x2), (3, .int x3), (5, .int v10)]) rfl ?_
                exact hj27
      · refine ab_few [0, 1, 3] (lv' := [(0, .ref x0), (1, .int x1), (3, .int x3)]) rfl ?_
        exact hk134 x3 h
set_option maxRecDepth 100000 in
set_option maxHeartbeats 4000000 in
theorem wX1_readWish {l : Launch} (hl : l.stackTraces = false) (F : Nat) (x0 : Nat) (h : ab_H) : ab_S l mX1_readWish (fun y : ab_H => ((.inl none, y) : ab_R × ab_H)) 0 0 (fX1_readWish F x0 h) 0 [(0, .ref x0)] [] h := by
  unfold fX1_readWish
  refine ab_aload_n (pc := 0) (n := 0) (i := 0) (j := 0) (by decide +kernel) rfl rfl ?_
  refine ab_getR (pc := 1) fl_X1_28_1 (by decide +kernel) (fun v1 ev1 => ?_)
  refine ab_callVw (As := []) (st := []) (pc := 4) lk_X1_100_0 rfl rfl rfl (by decide) rfl (Nat.le_of_ble_eq_true rfl) (by decide +kernel) (fun y9 e9 => okX0_goOn hl e9) (fun h2 eh2 => ?_)
  refine ab_aload_n (pc := 7) (n := 0) (i := 0) (j := 0) (by decide +kernel) rfl rfl ?_
  refine ab_iconst (pc := 8) (n := 0) (v := nI 0) (by decide +kernel) rfl ?_
  refine ab_aload_n (pc := 9) (n := 0) (i := 0) (j := 0) (by decide +kernel) rfl rfl ?_
  refine ab_getR (pc := 10) fl_X1_19_1 (by decide +kernel) (fun v3 ev3 => ?_)
  refine ab_getI (pc := 13) fl_X1_90_8 (by decide +kernel) (fun v4 ev4 => ?_)
  refine ab_iconst (pc := 16) (n := 1) (v := nI 1) (by decide +kernel) rfl ?_
  refine ab_isub (pc := 17) (by decide +kernel) ?_
  refine ab_callVj (As := [.int (nI 0), .int (v4 - (nI 1))]) (st := []) (pc := 18) lk_X1_71_1 rfl rfl rfl (by decide) rfl (Nat.le_of_ble_eq_true rfl) (by decide +kernel) (fun y9 e9 => okX1_readNumber hl (F := F) e9) (fun v5 ev5 => ?_)
  refine ab_istore_n (pc := 21) (n := 1) (i := 1) (lv' := [(0, .ref x0), (1, .int v5.1)]) (by decide +kernel) rfl (Nat.le_of_ble_eq_true rfl) rfl rfl ?_
  refine ab_iconst (pc := 22) (n := 0) (v := nI 0) (by decide +kernel) rfl ?_
  refine ab_istore_n (pc := 23) (n := 2) (i := 2) (lv' := [(0, .ref x0), (1, .int v5.1), (2, .int (nI 0))]) (by decide +kernel) rfl (Nat.le_of_ble_eq_true rfl) rfl rfl ?_
  refine ab_iconst (pc := 24) (n := 0) (v := nI 0) (by decide +kernel) rfl ?_
  refine ab_istore_n (pc := 25) (n := 3) (i := 3) (lv' := [(0, .ref x0), (1, .int v5.1), (2, .int (nI 0)), (3, .int (nI 0))]) (by decide +kernel) rfl (Nat.le_of_ble_eq_true rfl) rfl rfl ?_
  refine ab_aload_n (pc := 26) (n := 0) (i := 0) (j := 0) (by decide +kernel) rfl rfl ?_
  refine ab_callUi (As := []) (st := []) (pc := 27) lk_X1_58_1 rfl rfl rfl (by decide) rfl (Nat.le_of_ble_eq_true rfl) (by decide +kernel) (fun y9 e9 => okX10_isRightD hl e9) (fun v6 ev6 => ?_)
  refine ab_istore (pc := 30) (i := 4) (lv' := [(0, .ref x0), (1, .int v5.1), (2, .int (nI 0)), (3, .int (nI 0)), (4, .int v6)]) (by decide +kernel) (Nat.le_of_ble_eq_true rfl) rfl rfl ?_
  refine lX1_readWish_32 hl F x0 v5.1 ?_ F (nI 0) (nI 0) v6 v5.2
  intro z31 h32
  refine ab_aload_n (pc := 134) (n := 0) (i := 0) (j := 0) (by decide +kernel) rfl rfl ?_
  refine ab_callUi (As := []) (st := []) (pc := 135) lk_X1_58_1 rfl rfl rfl (by decide) rfl (Nat.le_of_ble_eq_true rfl) (by decide +kernel) (fun y9 e9 => okX10_isRightD hl e9) (fun v33 ev33 => ?_)
  refine ab_if_eq (off := 16) (pc := 138) (tgt := 154) (by decide +kernel) (by decide) (fun g34 => ?_) (fun g34 => ?_)
  · exact ab_vret (pc := 154) (by decide +kernel) rfl rfl (Nat.le_of_ble_eq_true rfl) (Nat.le_of_ble_eq_true rfl)
  · refine ab_aload_n (pc := 141) (n := 0) (i := 0) (j := 0) (by decide +kernel) rfl rfl ?_
    refine ab_getR (pc := 142) fl_X1_19_1 (by decide +kernel) (fun v35 ev35 => ?_)
    refine ab_iload_n (pc := 145) (n := 1) (i := 1) (j := 1) (by decide +kernel) rfl rfl ?_
    refine ab_aload_n (pc := 146) (n := 0) (i := 0) (j := 0) (by decide +kernel) rfl rfl ?_
    refine ab_getR (pc := 147) fl_X1_9_1 (by decide +kernel) (fun v36 ev36 => ?_)
    refine ab_iload_n (pc := 150) (n := 3) (i := 3) (j := 2) (by decide +kernel) rfl rfl ?_
    refine ab_callVw (As := [.int v5.1, .ref v36, .int z31]) (st := []) (pc := 151) lk_X1_114_8 rfl rfl rfl (by decide) rfl (Nat.le_of_ble_eq_true rfl) (by decide +kernel) (fun y9 e9 => okX8_setWishes hl (F := F) e9) (fun h37 eh37 => ?_)
    exact ab_vret (pc := 154) (by decide +kernel) rfl rfl (Nat.le_of_ble_eq_true rfl) (Nat.le_of_ble_eq_true rfl)
set_option maxRecDepth 100000 in
set_option maxHeartbeats 4000000 in
theorem okX1_readWish {l : Launch} (hl : l.stackTraces = false) {F : Nat} {x0 : Nat} {h : ab_H} {y : ab_H} (e : fX1_readWish F x0 h = some y) : ab_Met l mX1_readWish [.ref x0] h (.inl none, y) := ab_ofS (io := (fun y : ab_H => ((.inl none, y) : ab_R × ab_H))) (x := y) hl (by decide) rfl (Nat.le_of_ble_eq_true rfl) (wX1_readWish hl F x0 h) e
def mX2_allows : ab_M := (yX2_allows, cX2_allows, 7, (some .boolean), { frames := 2, cells := 0, slots := 0, locals := 45 })
theorem iX2_allows : ab_MI mX2_allows 3 := ⟨kw_4d5c9f234e, kw_0069db34e3, by decide +kernel⟩
theorem lk_X2_28 : ab_LS RX2 28 mX2_joined 3 := ⟨iX2_joined, kw_1ac3e03edc, kw_9beb299a3c⟩
theorem lk_X2_32_8 : ab_LV RX2 32 8 mX8_valueOf 2 := ⟨RX8, rfl, iX8_valueOf, kw_97b650e251, kw_70b37669e4, kw_a19a998cf1⟩
def fX2_allows_6 (F : Nat) (x0 : Nat) (x1 : Nat) (x2 : Int32) (x3 : Int32) : Nat → Int32 → Int32 → ab_H → Option (Int32 × ab_H)
  | 0, _, _, _ => none
  | n + 1, x4, x5, h => ab_bd (ab_fr h x0 2 1) fun v1 => ab_bd (ab_al h v1) fun v2 => (if x5 < v2 then ab_bd (ab_fr h x0 2 1) fun v4 => ab_bd (ab_ia 0 h v4 x5) fun v5 => ab_jn (κ := Option (Int32 × ab_H)) ((if v5 = x3 then (if x4 ≤ 0 then fX2_allows_6 F x0 x1 x2 x3 n (nI 0) (x5 + nI 1) h else ab_bd (ab_fr h x0 2 2) fun v8 => ab_bd (ab_ia 0 h v8 (nI 0)) fun v9 => (if v9 = 0 then fX2_allows_6 F x0 x1 x2 x3 n (nI 0) (x5 + nI 1) h else some (nI 1, h))) else fX2_allows_6 F x0 x1 x2 x3 n (nI 0) (x5 + nI 1) h)) fun j11 => (if v5 = (nI 1007) then j11 else (if v5 = (nI 1008) then j11 else (if v5 = (nI 1012) then (if x4 < (nI 1) then fX2_allows_6 F x0 x1 x2 x3 n x4 (x5 + nI 1) h else ab_bd (ab_fr h x0 2 2) fun v16 => ab_bd (ab_fr h x0 2 2) fun v17 => ab_bd (ab_ia 0 h v17 (x4 - (nI 1))) fun v18 => ab_bd (ab_iw 0 h v16 (x4 - (nI 1)) ((nI 1) - v18)) fun h19 => fX2_allows_6 F x0 x1 x2 x3 n x4 (x5 + nI 1) h19) else (if v5 < (nI 1100) then (if x4 < (nI 24) then ab_bd (ab_fr h x0 2 2) fun v22 => (if v5 < (nI 1000) then ab_bd (ab_iw 0 h v22 x4 v5) fun h24 => fX2_allows_6 F x0 x1 x2 x3 n (x4 + nI 1) (x5 + nI 1) h24 else ab_ck (ab_io h x1 8 = true) (ab_bd (fX8_valueOf F x1 v5 x2 h) fun v25 => ab_bd (ab_iw 0 h v22 x4 v25) fun h26 => fX2_allows_6 F x0 x1 x2 x3 n (x4 + nI 1) (x5 + nI 1) h26)) else fX2_allows_6 F x0 x1 x2 x3 n x4 (x5 + nI 1) h) else (if x4 < (nI 2) then fX2_allows_6 F x0 x1 x2 x3 n x4 (x5 + nI 1) h else ab_bd (ab_fr h x0 2 2) fun v28 => ab_bd (ab_fr h x0 2 2) fun v29 => ab_bd (ab_ia 0 h v29 ((x4 + (-1 : Int32)) - (nI 1))) fun v30 => ab_bd (ab_fr h x0 2 2) fun v31 => ab_bd (ab_ia 0 h v31 (x4 + (-1 : Int32))) fun v32 => ab_bd (fX2_joined v5 v30 v32 h) fun v33 => ab_bd (ab_iw 0 h v28 ((x4 + (-1 : Int32)) - (nI 1)) v33) fun h34 => fX2_allows_6 F x0 x1 x2 x3 n (x4 + (-1 : Int32)) (x5 + nI 1) h34))))) else some (nI 0, h))
def fX2_allows (F : Nat) (x0 : Nat) (x1 : Nat) (x2 : Int32) (x3 : Int32) (h : ab_H) : Option (Int32 × ab_H) := fX2_allows_6 F x0 x1 x2 x3 F (nI 0) (nI 0) h
set_option maxRecDepth 100000 in
set_option maxHeartbeats 4000000 in
theorem lX2_allows_6 {l : Launch} (hl : l.stackTraces = false) (F : Nat) (x0 : Nat) (x1 : Nat) (x2 : Int32) (x3 : Int32) : ∀ (n : Nat) (x4 : Int32) (x5 : Int32) (h : ab_H), ab_S l mX2_allows (fun y : (Int32 × ab_H) => ((.inl (some (.int y.1)), y.2) : ab_R × ab_H)) 0 0 (fX2_allows_6 F x0 x1 x2 x3 n x4 x5 h) 6 [(0, .ref x0), (1, .ref x1), (2, .int x2), (3, .int x3), (4, .int x4), (5, .int x5)] [] h := by
  intro n
  induction n with
  | zero =>
    intro x4 x5 h
    exact ab_none
  | succ n ih =>
    intro x4 x5 h
    rw [fX2_allows_6]
    refine ab_iload (pc := 6) (i := 5) (j := 5) (by decide +kernel) rfl ?_
    refine ab_aload_n (pc := 8) (n := 0) (i := 0) (j := 0) (by decide +kernel) rfl rfl ?_
    refine ab_getR (pc := 9) fl_X2_25_2 (by decide +kernel) (fun v1 ev1 => ?_)
    refine ab_alen2 (pc := 12) (by decide +kernel) (fun v2 ev2 => ?_)
    refine ab_icmp_ge (off := 186) (pc := 13) (tgt := 199) (by decide +kernel) (by decide) (fun g3 => ?_) (fun g3 => ?_)
    · refine ab_aload_n (pc := 16) (n := 0) (i := 0) (j := 0) (by decide +kernel) rfl rfl ?_
      refine ab_getR (pc := 17) fl_X2_25_2 (by decide +kernel) (fun v4 ev4 => ?_)
      refine ab_iload (pc := 20) (i := 5) (j := 5) (by decide +kernel) rfl ?_
      refine ab_iald (pc := 22) (by decide +kernel) (fun v5 ev5 => ?_)
      refine ab_istore (pc := 23) (i := 6) (lv' := [(0, .ref x0), (1, .ref x1), (2, .int x2), (3, .int x3), (4, .int x4), (5, .int x5), (6, .int v5)]) (by decide +kernel) (Nat.le_of_ble_eq_true rfl) rfl rfl ?_
      refine ab_iload (pc := 25) (i := 6) (j := 6) (by decide +kernel) rfl ?_
      refine ab_sipush (pc := 27) (n := 1007) (v := nI 1007) (by decide +kernel) (by decide) ?_
      refine ab_jr (fun k9 : Option (Int32 × ab_H) => ab_S l mX2_allows (fun y : (Int32 × ab_H) => ((.inl (some (.int y.1)), y.2) : ab_R × ab_H)) 0 0 (k9) 41 [(0, .ref x0), (1, .ref x1), (2, .int x2), (3, .int x3), (4, .int x4), (5, .int x5), (6, .int v5)] [] h) ?_ (fun j11 hj11 => ?_)
      · refine ab_iload (pc := 41) (i := 6) (j := 6) (by decide +kernel) rfl ?_
        refine ab_iload_n (pc := 43) (n := 3) (i := 3) (j := 3) (by decide +kernel) rfl rfl ?_
        refine ab_icmp_ne (off := 19) (pc := 44) (tgt := 63) (by decide +kernel) (by decide) (fun g6 => ?_) (fun g6 => ?_)
        · refine ab_iload (pc := 47) (i := 4) (j := 4) (by decide +kernel) rfl ?_
          refine ab_if_le (off := 14) (pc := 49) (tgt := 63) (by decide +kernel) (by decide) (fun g7 => ?_) (fun g7 => ?_)
          · refine ab_iconst (pc := 63) (n := 0) (v := nI 0) (by decide +kernel) rfl ?_
            refine ab_istore (pc := 64) (i := 4) (lv' := [(0, .ref x0), (1, .ref x1), (2, .int x2), (3, .int x3), (4, .int (nI 0)), (5, .int x5), (6, .int v5)]) (by decide +kernel) (Nat.le_of_ble_eq_true rfl) rfl rfl ?_
            refine ab_goto (pc := 66) (off := 127) (tgt := 193) (by decide +kernel) (by decide) ?_
            refine ab_iinc (pc := 193) (i := 5) (n := 1) (j := 5) (d := nI 1) (lv' := [(0, .ref x0), (1, .ref x1), (2, .int x2), (3, .int x3), (4, .int (nI 0)), (5, .int (x5 + nI 1)), (6, .int v5)]) (by decide +kernel) rfl rfl (Nat.le_of_ble_eq_true rfl) rfl rfl ?_
            refine ab_goto (pc := 196) (off := (-190)) (tgt := 6) (by decide +kernel) (by decide) ?_
            refine ab_few [0, 1, 2, 3, 4, 5] (lv' := [(0, .ref x0), (1, .ref x1), (2, .int x2), (3, .int x3), (4, .int (nI 0)), (5, .int (x5 + nI 1))]) rfl ?_
            exact ih (nI 0) (x5 + nI 1) h
          · refine ab_aload_n (pc := 52) (n := 0) (i := 0) (j := 0) (by decide +kernel) rfl rfl ?_
            refine ab_getR (pc := 53) fl_X2_9_2 (by decide +kernel) (fun v8 ev8 => ?_)
            refine ab_iconst (pc := 56) (n := 0) (v := nI 0) (by decide +kernel) rfl ?_
            refine ab_iald (pc := 57) (by decide +kernel) (fun v9 ev9 => ?_)
            refine ab_if_eq (off := 5) (pc := 58) (tgt := 63) (by decide +kernel) (by decide) (fun g10 => ?_) (fun g10 => ?_)
            · refine ab_iconst (pc := 63) (n := 0) (v := nI 0) (by decide +kernel) rfl ?_
              refine ab_istore (pc := 64) (i := 4) (lv' := [(0, .ref x0), (1, .ref x1), (2, .int x2), (3, .int x3), (4, .int (nI 0)), (5, .int x5), (6, .int v5)]) (by decide +kernel) (Nat.le_of_ble_eq_true rfl) rfl rfl ?_
              refine ab_goto (pc := 66) (off := 127) (tgt := 193) (by decide +kernel) (by decide) ?_
              refine ab_iinc (pc := 193) (i := 5) (n := 1) (j := 5) (d := nI 1) (lv' := [(0, .ref x0), (1, .ref x1), (2, .int x2), (3, .int x3), (4, .int (nI 0)), (5, .int (x5 + nI 1)), (6, .int v5)]) (by decide +kernel) rfl rfl (Nat.le_of_ble_eq_true rfl) rfl rfl ?_
              refine ab_goto (pc := 196) (off := (-190)) (tgt := 6) (by decide +kernel) (by decide) ?_
              refine ab_few [0, 1, 2, 3, 4, 5] (lv' := [(0, .ref x0), (1, .ref x1), (2, .int x2), (3, .int x3), (4, .int (nI 0)), (5, .int (x5 + nI 1))]) rfl ?_
              exact ih (nI 0) (x5 + nI 1) h
            · refine ab_iconst (pc := 61) (n := 1) (v := nI 1) (by decide +kernel) rfl ?_
              exact ab_zret (pc := 62) (by decide +kernel) rfl ab_bl1.1 rfl (Nat.le_of_ble_eq_true rfl) (Nat.le_of_ble_eq_true rfl)
        · refine ab_iconst (pc := 63) (n := 0) (v := nI 0) (by decide +kernel) rfl ?_
          refine ab_istore (pc := 64) (i := 4) (lv' := [(0, .ref x0), (1, .ref x1), (2, .int x2), (3, .int x3), (4, .int (nI 0)), (5, .int x5), (6, .int v5)]) (by decide +kernel) (Nat.le_of_ble_eq_true rfl) rfl rfl ?_
          refine ab_goto (pc := 66) (off := 127) (tgt := 193) (by decide +kernel) (by decide) ?_
          refine ab_iinc (pc := 193) (i := 5) (n := 1) (j := 5) (d := nI 1) (lv' := [(0, .ref x0), (1, .ref x1), (2, .int x2), (3, .int x3), (4, .int (nI 0)), (5, .int (x5 + nI 1)), (6, .int v5)]) (by decide +kernel) rfl rfl (Nat.le_of_ble_eq_true rfl) rfl rfl ?_
          refine ab_goto (pc := 196) (off := (-190)) (tgt := 6) (by decide +kernel) (by decide) ?_
          refine ab_few [0, 1, 2, 3, 4, 5] (lv' := [(0, .ref x0), (1, .ref x1), (2, .int x2), (3, .int x3), (4, .int (nI 0)), (5, .int (x5 + nI 1))]) rfl ?_
          exact ih (nI 0) (x5 + nI 1) h
      · refine ab_icmp_eq (off := 11) (pc := 30) (tgt := 41) (by decide +kernel) (by decide) (fun g12 => ?_) (fun g12 => ?_)
        · exact hj11
        · refine ab_iload (pc := 33) (i := 6) (j := 6) (by decide +kernel) rfl ?_
          refine ab_sipush (pc := 35) (n := 1008) (v := nI 1008) (by decide +kernel) (by decide) ?_
          refine ab_icmp_ne (off := 31) (pc := 38) (tgt := 69) (by decide +kernel) (by decide) (fun g13 => ?_) (fun g13 => ?_)
          · exact hj11
          · refine ab_iload (pc := 69) (i := 6) (j := 6) (by decide +kernel) rfl ?_
            refine ab_sipush (pc := 71) (n := 1012) (v := nI 1012) (by decide +kernel) (by decide) ?_
            refine ab_icmp_ne (off := 32) (pc := 74) (tgt := 106) (by decide +kernel) (by decide) (fun g14 => ?_) (fun g14 => ?_)
            · refine ab_iload (pc := 77) (i := 4) (j := 4) (by decide +kernel) rfl ?_
              refine ab_iconst (pc := 79) (n := 1) (v := nI 1) (by decide +kernel) rfl ?_
              refine ab_icmp_lt (off := 113) (pc := 80) (tgt := 193) (by decide +kernel) (by decide) (fun g15 => ?_) (fun g15 => ?_)
              · refine ab_iinc (pc := 193) (i := 5) (n := 1) (j := 5) (d := nI 1) (lv' := [(0, .ref x0), (1, .ref x1), (2, .int x2), (3, .int x3), (4, .int x4), (5, .int (x5 + nI 1)), (6, .int v5)]) (by decide +kernel) rfl rfl (Nat.le_of_ble_eq_true rfl) rfl rfl ?_
                refine ab_goto (pc := 196) (off := (-190)) (tgt := 6) (by decide +kernel) (by decide) ?_
                refine ab_few [0, 1, 2, 3, 4, 5] (lv' := [(0, .ref x0), (1, .ref x1), (2, .int x2), (3, .int x3), (4, .int x4), (5, .int (x5 + nI 1))]) rfl ?_
                exact ih x4 (x5 + nI 1) h
              · refine ab_aload_n (pc := 83) (n := 0) (i := 0) (j := 0) (by decide +kernel) rfl rfl ?_
                refine ab_getR (pc := 84) fl_X2_9_2 (by decide +kernel) (fun v16 ev16 => ?_)
                refine ab_iload (pc := 87) (i := 4) (j := 4) (by decide +kernel) rfl ?_
                refine ab_iconst (pc := 89) (n := 1) (v := nI 1) (by decide +kernel) rfl ?_
                refine ab_isub (pc := 90) (by decide +kernel) ?_
                refine ab_iconst (pc := 91) (n := 1) (v := nI 1) (by decide +kernel) rfl ?_
                refine ab_aload_n (pc := 92) (n := 0) (i := 0) (j := 0) (by decide +kernel) rfl rfl ?_
                refine ab_getR (pc := 93) fl_X2_9_2 (by decide +kernel) (fun v17 ev17 => ?_)
                refine ab_iload (pc := 96) (i := 4) (j := 4) (by decide +kernel) rfl ?_
                refine ab_iconst (pc := 98) (n := 1) (v := nI 1) (by decide +kernel) rfl ?_
                refine ab_isub (pc := 99) (by decide +kernel) ?_
                refine ab_iald (pc := 100) (by decide +kernel) (fun v18 ev18 => ?_)
                refine ab_isub (pc := 101) (by decide +kernel) ?_
                refine ab_iast (pc := 102) (by decide +kernel) (fun h19 eh19 => ?_)
                refine ab_goto (pc := 103) (off := 90) (tgt := 193) (by decide +kernel) (by decide) ?_
                refine ab_iinc (pc := 193) (i := 5) (n := 1) (j := 5) (d := nI 1) (lv' := [(0, .ref x0), (1, .ref x1), (2, .int x2), (3, .int x3), (4, .int x4), (5, .int (x5 + nI 1)), (6, .int v5)]) (by decide +kernel) rfl rfl (Nat.le_of_ble_eq_true rfl) rfl rfl ?_
                refine ab_goto (pc := 196) (off := (-190)) (tgt := 6) (by decide +kernel) (by decide) ?_
                refine ab_few [0, 1, 2, 3, 4, 5] (lv' := [(0, .ref x0), (1, .ref x1), (2, .int x2), (3, .int x3), (4, .int x4), (5, .int (x5 + nI 1))]) rfl ?_
                exact ih x4 (x5 + nI 1) h19
            · refine ab_iload (pc := 106) (i := 6) (j := 6) (by decide +kernel) rfl ?_
              refine ab_sipush (pc := 108) (n := 1100) (v := nI 1100) (by decide +kernel) (by decide) ?_
              refine ab_icmp_lt (off := 45) (pc := 111) (tgt := 156) (by decide +kernel) (by decide) (fun g20 => ?_) (fun g20 => ?_)
              · refine ab_iload (pc := 156) (i := 4) (j := 4) (by decide +kernel) rfl ?_
                refine ab_bipush (pc := 158) (n := 24) (v := nI 24) (by decide +kernel) (by decide) ?_
                refine ab_icmp_ge (off := 33) (pc := 160) (tgt := 193) (by decide +kernel) (by decide) (fun g21 => ?_) (fun g21 => ?_)
                · refine ab_aload_n (pc := 163) (n := 0) (i := 0) (j := 0) (by decide +kernel) rfl rfl ?_
                  refine ab_getR (pc := 164) fl_X2_9_2 (by decide +kernel) (fun v22 ev22 => ?_)
                  refine ab_iload (pc := 167) (i := 4) (j := 4) (by decide +kernel) rfl ?_
                  refine ab_iload (pc := 169) (i := 6) (j := 6) (by decide +kernel) rfl ?_
                  refine ab_sipush (pc := 171) (n := 1000) (v := nI 1000) (by decide +kernel) (by decide) ?_
                  refine ab_icmp_ge (off := 8) (pc := 174) (tgt := 182) (by decide +kernel) (by decide) (fun g23 => ?_) (fun g23 => ?_)
                  · refine ab_iload (pc := 177) (i := 6) (j := 6) (by decide +kernel) rfl ?_
                    refine ab_goto (pc := 179) (off := 10) (tgt := 189) (by decide +kernel) (by decide) ?_
                    refine ab_iast (pc := 189) (by decide +kernel) (fun h24 eh24 => ?_)
                    refine ab_iinc (pc := 190) (i := 4) (n := 1) (j := 4) (d := nI 1) (lv' := [(0, .ref x0), (1, .ref x1), (2, .int x2), (3, .int x3), (4, .int (x4 + nI 1)), (5, .int x5), (6, .int v5)]) (by decide +kernel) rfl rfl (Nat.le_of_ble_eq_true rfl) rfl rfl ?_
                    refine ab_iinc (pc := 193) (i := 5) (n := 1) (j := 5) (d := nI 1) (lv' := [(0, .ref x0), (1, .ref x1), (2, .int x2), (3, .int x3), (4, .int (x4 + nI 1)), (5, .int (x5 + nI 1)), (6, .int v5)]) (by decide +kernel) rfl rfl (Nat.le_of_ble_eq_true rfl) rfl rfl ?_
                    refine ab_goto (pc := 196) (off := (-190)) (tgt := 6) (by decide +kernel) (by decide) ?_
                    refine ab_few [0, 1, 2, 3, 4, 5] (lv' := [(0, .ref x0), (1, .ref x1), (2, .int x2), (3, .int x3), (4, .int (x4 + nI 1)), (5, .int (x5 + nI 1))]) rfl ?_
                    exact ih (x4 + nI 1) (x5 + nI 1) h24
                  · refine ab_aload_n (pc := 182) (n := 1) (i := 1) (j := 1) (by decide +kernel) rfl rfl ?_
                    refine ab_iload (pc := 183) (i := 6) (j := 6) (by decide +kernel) rfl ?_
                    refine ab_iload_n (pc := 185) (n := 2) (i := 2) (j := 2) (by decide +kernel) rfl rfl ?_
                    refine ab_callVi (As := [.int v5, .int x2]) (st := [.int x4, .ref v22]) (pc := 186) lk_X2_32_8 rfl rfl rfl (by decide) rfl (Nat.le_of_ble_eq_true rfl) (by decide +kernel) (fun y9 e9 => okX8_valueOf hl (F := F) e9) (fun v25 ev25 => ?_)
                    refine ab_iast (pc := 189) (by decide +kernel) (fun h26 eh26 => ?_)
                    refine ab_iinc (pc := 190) (i := 4) (n := 1) (j := 4) (d := nI 1) (lv' := [(0, .ref x0), (1, .ref x1), (2, .int x2), (3, .int x3), (4, .int (x4 + nI 1)), (5, .int x5), (6, .int v5)]) (by decide +kernel) rfl rfl (Nat.le_of_ble_eq_true rfl) rfl rfl ?_
                    refine ab_iinc (pc := 193) (i := 5) (n := 1) (j := 5) (d := nI 1) (lv' := [(0, .ref x0), (1, .ref x1), (2, .int x2), (3, .int x3), (4, .int (x4 + nI 1)), (5, .int (x5 + nI 1)), (6, .int v5)]) (by decide +kernel) rfl rfl (Nat.le_of_ble_eq_true rfl) rfl rfl ?_
                    refine ab_goto (pc := 196) (off := (-190)) (tgt := 6) (by decide +kernel) (by decide) ?_
                    refine ab_few [0, 1, 2, 3, 4, 5] (lv' := [(0, .ref x0), (1, .ref x1), (2, .int x2), (3, .int x3), (4, .int (x4 + nI 1)), (5, .int (x5 + nI 1))]) rfl ?_
                    exact ih (x4 + nI 1) (x5 + nI 1) h26
                · refine ab_iinc (pc := 193) (i := 5) (n := 1) (j := 5) (d := nI 1) (lv' := [(0, .ref x0), (1, .ref x1), (2, .int x2), (3, .int x3), (4, .int x4), (5, .int (x5 + nI 1)), (6, .int v5)]) (by decide +kernel) rfl rfl (Nat.le_of_ble_eq_true rfl) rfl rfl ?_
                  refine ab_goto (pc := 196) (off := (-190)) (tgt := 6) (by decide +kernel) (by decide) ?_
                  refine ab_few [0, 1, 2, 3, 4, 5] (lv' := [(0, .ref x0), (1, .ref x1), (2, .int x2), (3, .int x3), (4, .int x4), (5, .int (x5 + nI 1))]) rfl ?_
                  exact ih x4 (x5 + nI 1) h
              · refine ab_iload (pc := 114) (i := 4) (j := 4) (by decide +kernel) rfl ?_
                refine ab_iconst (pc := 116) (n := 2) (v := nI 2) (by decide +kernel) rfl ?_
                refine ab_icmp_lt (off := 76) (pc := 117) (tgt := 193) (by decide +kernel) (by decide) (fun g27 => ?_) (fun g27 => ?_)
                · refine ab_iinc (pc := 193) (i := 5) (n := 1) (j := 5) (d := nI 1) (lv' := [(0, .ref x0), (1, .ref x1), (2, .int x2), (3, .int x3), (4, .int x4), (5, .int (x5 + nI 1)), (6, .int v5)]) (by decide +kernel) rfl rfl (Nat.le_of_ble_eq_true rfl) rfl rfl ?_
                  refine ab_goto (pc := 196) (off := (-190)) (tgt := 6) (by decide +kernel) (by decide) ?_
                  refine ab_few [0, 1, 2, 3, 4, 5] (lv' := [(0, .ref x0), (1, .ref x1), (2, .int x2), (3, .int x3), (4, .int x4), (5, .int (x5 + nI 1))]) rfl ?_
                  exact ih x4 (x5 + nI 1) h
                · refine ab_iinc (pc := 120) (i := 4) (n := -1) (j := 4) (d := (-1 : Int32)) (lv' := [(0, .ref x0), (1, .ref x1), (2, .int x2), (3, .int x3), (4, .int (x4 + (-1 : Int32))), (5, .int x5), (6, .int v5)]) (by decide +kernel) rfl rfl (Nat.le_of_ble_eq_true rfl) rfl rfl ?_
                  refine ab_aload_n (pc := 123) (n := 0) (i := 0) (j := 0) (by decide +kernel) rfl rfl ?_
                  refine ab_getR (pc := 124) fl_X2_9_2 (by decide +kernel) (fun v28 ev28 => ?_)
                  refine ab_iload (pc := 127) (i := 4) (j := 4) (by decide +kernel) rfl ?_
                  refine ab_iconst (pc := 129) (n := 1) (v := nI 1) (by decide +kernel) rfl ?_
                  refine ab_isub (pc := 130) (by decide +kernel) ?_
                  refine ab_iload (pc := 131) (i := 6) (j := 6) (by decide +kernel) rfl ?_
                  refine ab_aload_n (pc := 133) (n := 0) (i := 0) (j := 0) (by decide +kernel) rfl rfl ?_
                  refine ab_getR (pc := 134) fl_X2_9_2 (by decide +kernel) (fun v29 ev29 => ?_)
                  refine ab_iload (pc := 137) (i := 4) (j := 4) (by decide +kernel) rfl ?_
                  refine ab_iconst (pc := 139) (n := 1) (v := nI 1) (by decide +kernel) rfl ?_
                  refine ab_isub (pc := 140) (by decide +kernel) ?_
                  refine ab_iald (pc := 141) (by decide +kernel) (fun v30 ev30 => ?_)
                  refine ab_aload_n (pc := 142) (n := 0) (i := 0) (j := 0) (by decide +kernel) rfl rfl ?_
                  refine ab_getR (pc := 143) fl_X2_9_2 (by decide +kernel) (fun v31 ev31 => ?_)
                  refine ab_iload (pc := 146) (i := 4) (j := 4) (by decide +kernel) rfl ?_
                  refine ab_iald (pc := 148) (by decide +kernel) (fun v32 ev32 => ?_)
                  refine ab_callSi (As := [.int v5, .int v30, .int v32]) (st := [.int ((x4 + (-1 : Int32)) - (nI 1)), .ref v28]) (pc := 149) lk_X2_28 rfl rfl rfl (by decide) rfl (Nat.le_of_ble_eq_true rfl) (by decide +kernel) (fun y9 e9 => okX2_joined hl e9) (fun v33 ev33 => ?_)
                  refine ab_iast (pc := 152) (by decide +kernel) (fun h34 eh34 => ?_)
                  refine ab_goto (pc := 153) (off := 40) (tgt := 193) (by decide +kernel) (by decide) ?_
                  refine ab_iinc (pc := 193) (i := 5) (n := 1) (j := 5) (d := nI 1) (lv' := [(0, .ref x0), (1, .ref x1), (2, .int x2), (3, .int x3), (4, .int (x4 + (-1 : Int32))), (5, .int (x5 + nI 1)), (6, .int v5)]) (by decide +kernel) rfl rfl (Nat.le_of_ble_eq_true rfl) rfl rfl ?_
                  refine ab_goto (pc := 196) (off := (-190)) (tgt := 6) (by decide +kernel) (by decide) ?_
                  refine ab_few [0, 1, 2, 3, 4, 5] (lv' := [(0, .ref x0), (1, .ref x1), (2, .int x2), (3, .int x3), (4, .int (x4 + (-1 : Int32))), (5, .int (x5 + nI 1))]) rfl ?_
                  exact ih (x4 + (-1 : Int32)) (x5 + nI 1) h34
    · refine ab_iconst (pc := 199) (n := 0) (v := nI 0) (by decide +kernel) rfl ?_
      exact ab_zret (pc := 200) (by decide +kernel) rfl ab_bl0.1 rfl (Nat.le_of_ble_eq_true rfl) (Nat.le_of_ble_eq_true rfl)
set_option maxRecDepth 100000 in
set_option maxHeartbeats 4000000 in
theorem wX2_allows {l : Launch} (hl : l.stackTraces = false) (F : Nat) (x0 : Nat) (x1 : Nat) (x2 : Int32) (x3 : Int32) (h : ab_H) : ab_S l mX2_allows (fun y : (Int32 × ab_H) => ((.inl (some (.int y.1)), y.2) : ab_R × ab_H)) 0 0 (fX2_allows F x0 x1 x2 x3 h) 0 [(0, .ref x0), (1, .ref x1), (2, .int x2), (3, .int x3)] [] h := by
  unfold fX2_allows
  refine ab_iconst (pc := 0) (n := 0) (v := nI 0) (by decide +kernel) rfl ?_
  refine ab_istore (pc := 1) (i := 4) (lv' := [(0, .ref x0), (1, .ref x1), (2, .int x2), (3, .int x3), (4, .int (nI 0))]) (by decide +kernel) (Nat.le_of_ble_eq_true rfl) rfl rfl ?_
  refine ab_iconst (pc := 3) (n := 0) (v := nI 0) (by decide +kernel) rfl ?_
  refine ab_istore (pc := 4) (i := 5) (lv' := [(0, .ref x0), (1, .ref x1), (2, .int x2), (3, .int x3), (4, .int (nI 0)), (5, .int (nI 0))]) (by decide +kernel) (Nat.le_of_ble_eq_true rfl) rfl rfl ?_
  refine lX2_allows_6 hl F x0 x1 x2 x3 F (nI 0) (nI 0) h
set_option maxRecDepth 100000 in
set_option maxHeartbeats 4000000 in
theorem okX2_allows {l : Launch} (hl : l.stackTraces = false) {F : Nat} {x0 : Nat} {x1 : Nat} {x2 : Int32} {x3 : Int32} {h : ab_H} {y : (Int32 × ab_H)} (e : fX2_allows F x0 x1 x2 x3 h = some y) : ab_Met l mX2_allows [.ref x0, .ref x1, .int x2, .int x3] h (.inl (some (.int y.1)), y.2) := ab_ofS (io := (fun y : (Int32 × ab_H) => ((.inl (some (.int y.1)), y.2) : ab_R × ab_H))) (x := y) hl (by decide) rfl (Nat.le_of_ble_eq_true rfl) (wX2_allows hl F x0 x1 x2 x3 h) e
def mX3_readLine : ab_M := (yX3_readLine, cX3_readLine, 2, none, { frames := 19, cells := 0, slots := 0, locals := 443 })
theorem iX3_readLine : ab_MI mX3_readLine 0 := ⟨kw_5fedb07664, kw_c1639047af, by decide +kernel⟩
def fX3_readLine (F : Nat) (x0 : Nat) (h : ab_H) : Option ab_H := ab_bd (ab_fr h x0 3 0) fun v1 => ab_ck (ab_io h v1 0 = true) (ab_bd (fX0_kindHere v1 h) fun v2 => ab_jn (κ := Int32 → Option ab_H) (fun (z3 : Int32) => ab_ck (ab_io h x0 3 = true) (ab_bd (fX10_acceptL x0 z3 h) fun h4 => ab_ck (ab_io h4 x0 3 = true) (ab_bd (fX10_isRightL x0 h4) fun v5 => ab_jn (κ := ab_H → Option ab_H) (fun (h6 : ab_H) => ab_ck (ab_io h6 x0 3 = true) (ab_bd (fX3_emit x0 v2 h6) fun h7 => some h7)) fun j8 => ab_jn (κ := Option ab_H) (ab_ck (ab_io h4 x0 3 = true) (ab_bd (fX3_emit x0 (nI 1) h4) fun h9 => j8 h9)) fun j10 => (if v5 = 0 then j10 else ab_ck (ab_io h4 x0 3 = true) (ab_bd (fX10_isHereL x0 (nI 1009) h4) fun v12 => (if v12 = 0 then j10 else ab_bd (ab_fr h4 x0 3 0) fun v14 => ab_ck (ab_io h4 v14 0 = true) (ab_bd (fX0_goOn v14 h4) fun h15 => ab_ck (ab_io h15 x0 3 = true) (ab_bd (fX3_readConditionT F x0 (nI 0) h15) fun h16 => j8 h16)))))))) fun j17 => ab_jn (κ := Option ab_H) (j17 (nI 1)) fun j18 => (if v2 = (nI 1007) then j18 else (if v2 = (nI 1008) then j18 else j17 (nI 0))))
set_option maxRecDepth 100000 in
set_option maxHeartbeats 4000000 in
theorem wX3_readLine {l : Launch} (hl : l.stackTraces = false) (F : Nat) (x0 : Nat) (h : ab_H) : ab_S l mX3_readLine (fun y : ab_H => ((.inl none, y) : ab_R × ab_H)) 0 0 (fX3_readLine F x0 h) 0 [(0, .ref x0)] [] h := by
  unfold fX3_readLine
  refine ab_aload_n (pc := 0) (n := 0) (i := 0) (j := 0) (by decide +kernel) rfl rfl ?_
  refine ab_getR (pc := 1) fl_X3_19_3 (by decide +kernel) (fun v1 ev1 => ?_)
  refine ab_callVi (As := []) (st := []) (pc := 4) lk_X3_23_0 rfl rfl rfl (by decide) rfl (Nat.le_of_ble_eq_true rfl) (by decide +kernel) (fun y9 e9 => okX0_kindHere hl e9) (fun v2 ev2 => ?_)
  refine ab_istore_n (pc := 7) (n := 1) (i := 1) (lv' := [(0, .ref x0), (1, .int v2)]) (by decide +kernel) rfl (Nat.le_of_ble_eq_true rfl) rfl rfl ?_
  refine ab_aload_n (pc := 8) (n := 0) (i := 0) (j := 0) (by decide +kernel) rfl rfl ?_
  refine ab_iload_n (pc := 9) (n := 1) (i := 1) (j := 1) (by decide +kernel) rfl rfl ?_
  refine ab_sipush (pc := 10) (n := 1007) (v := nI 1007) (by decide +kernel) (by decide) ?_
  refine ab_jr (fun k9 : Int32 → Option ab_H => ∀ (z3 : Int32), ab_S l mX3_readLine (fun y : ab_H => ((.inl none, y) : ab_R × ab_H)) 0 0 (k9 z3) 28 [(0, .ref x0), (1, .int v2)] [.int z3, .ref x0] h) ?_ (fun j17 hj17 => ?_)
  · intro z3
    refine ab_callUw (As := [.int z3]) (st := []) (pc := 28) lk_X3_29_3 rfl rfl rfl (by decide) rfl (Nat.le_of_ble_eq_true rfl) (by decide +kernel) (fun y9 e9 => okX10_acceptL hl e9) (fun h4 eh4 => ?_)
    refine ab_aload_n (pc := 31) (n := 0) (i := 0) (j := 0) (by decide +kernel) rfl rfl ?_
    refine ab_callUi (As := []) (st := []) (pc := 32) lk_X3_33_3 rfl rfl rfl (by decide) rfl (Nat.le_of_ble_eq_true rfl) (by decide +kernel) (fun y9 e9 => okX10_isRightL hl e9) (fun v5 ev5 => ?_)
    refine ab_jr (fun k9 : ab_H → Option ab_H => ∀ (h6 : ab_H), ab_S l mX3_readLine (fun y : ab_H => ((.inl none, y) : ab_R × ab_H)) 0 0 (k9 h6) 68 [(0, .ref x0), (1, .int v2)] [] h6) ?_ (fun j8 hj8 => ?_)
    · intro h6
      refine ab_aload_n (pc := 68) (n := 0) (i := 0) (j := 0) (by decide +kernel) rfl rfl ?_
      refine ab_iload_n (pc := 69) (n := 1) (i := 1) (j := 1) (by decide +kernel) rfl rfl ?_
      refine ab_callVw (As := [.int v2]) (st := []) (pc := 70) lk_X3_49_3 rfl rfl rfl (by decide) rfl (Nat.le_of_ble_eq_true rfl) (by decide +kernel) (fun y9 e9 => okX3_emit hl e9) (fun h7 eh7 => ?_)
      exact ab_vret (pc := 73) (by decide +kernel) rfl rfl (Nat.le_of_ble_eq_true rfl) (Nat.le_of_ble_eq_true rfl)
    · refine ab_jr (fun k9 : Option ab_H => ab_S l mX3_readLine (fun y : ab_H => ((.inl none, y) : ab_R × ab_H)) 0 0 (k9) 63 [(0, .ref x0), (1, .int v2)] [] h4) ?_ (fun j10 hj10 => ?_)
      · refine ab_aload_n (pc := 63) (n := 0) (i := 0) (j := 0) (by decide +kernel) rfl rfl ?_
        refine ab_iconst (pc := 64) (n := 1) (v := nI 1) (by decide +kernel) rfl ?_
        refine ab_callVw (As := [.int (nI 1)]) (st := []) (pc := 65) lk_X3_49_3 rfl rfl rfl (by decide) rfl (Nat.le_of_ble_eq_true rfl) (by decide +kernel) (fun y9 e9 => okX3_emit hl e9) (fun h9 eh9 => ?_)
        exact hj8 h9
      · refine ab_if_eq (off := 28) (pc := 35) (tgt := 63) (by decide +kernel) (by decide) (fun g11 => ?_) (fun g11 => ?_)
        · exact hj10
        · refine ab_aload_n (pc := 38) (n := 0) (i := 0) (j := 0) (by decide +kernel) rfl rfl ?_
          refine ab_sipush (pc := 39) (n := 1009) (v := nI 1009) (by decide +kernel) (by decide) ?_
          refine ab_callUi (As := [.int (nI 1009)]) (st := []) (pc := 42) lk_X3_37_3 rfl rfl rfl (by decide) rfl (Nat.le_of_ble_eq_true rfl) (by decide +kernel) (fun y9 e9 => okX10_isHereL hl e9) (fun v12 ev12 => ?_)
          refine ab_if_eq (off := 18) (pc := 45) (tgt := 63) (by decide +kernel) (by decide) (fun g13 => ?_) (fun g13 => ?_)
          · exact hj10
          · refine ab_aload_n (pc := 48) (n := 0) (i := 0) (j := 0) (by decide +kernel) rfl rfl ?_
            refine ab_getR (pc := 49) fl_X3_19_3 (by decide +kernel) (fun v14 ev14 => ?_)
            refine ab_callVw (As := []) (st := []) (pc := 52) lk_X3_41_0 rfl rfl rfl (by decide) rfl (Nat.le_of_ble_eq_true rfl) (by decide +kernel) (fun y9 e9 => okX0_goOn hl e9) (fun h15 eh15 => ?_)
            refine ab_aload_n (pc := 55) (n := 0) (i := 0) (j := 0) (by decide +kernel) rfl rfl ?_
            refine ab_iconst (pc := 56) (n := 0) (v := nI 0) (by decide +kernel) rfl ?_
            refine ab_callVw (As := [.int (nI 0)]) (st := []) (pc := 57) (lk_X3_45_3 7) rfl rfl rfl (by decide) rfl (Nat.le_of_ble_eq_true rfl) (by decide +kernel) (fun y9 e9 => okX3_readConditionT hl (F := F) e9) (fun h16 eh16 => ?_)
            refine ab_goto (pc := 60) (off := 8) (tgt := 68) (by decide +kernel) (by decide) ?_
            exact hj8 h16
  · refine ab_jr (fun k9 : Option ab_H => ab_S l mX3_readLine (fun y : ab_H => ((.inl none, y) : ab_R × ab_H)) 0 0 (k9) 23 [(0, .ref x0), (1, .int v2)] [.ref x0] h) ?_ (fun j18 hj18 => ?_)
    · refine ab_iconst (pc := 23) (n := 1) (v := nI 1) (by decide +kernel) rfl ?_
      refine ab_goto (pc := 24) (off := 4) (tgt := 28) (by decide +kernel) (by decide) ?_
      exact hj17 (nI 1)
    · refine ab_icmp_eq (off := 10) (pc := 13) (tgt := 23) (by decide +kernel) (by decide) (fun g19 => ?_) (fun g19 => ?_)
      · exact hj18
      · refine ab_iload_n (pc := 16) (n := 1) (i := 1) (j := 1) (by decide +kernel) rfl rfl ?_
        refine ab_sipush (pc := 17) (n := 1008) (v := nI 1008) (by decide +kernel) (by decide) ?_
        refine ab_icmp_ne (off := 7) (pc := 20) (tgt := 27) (by decide +kernel) (by decide) (fun g20 => ?_) (fun g20 => ?_)
        · exact hj18
        · refine ab_iconst (pc := 27) (n := 0) (v := nI 0) (by decide +kernel) rfl ?_
          exact hj17 (nI 0)
set_option maxRecDepth 100000 in
set_option maxHeartbeats 4000000 in
theorem okX3_readLine {l : Launch} (hl : l.stackTraces = false) {F : Nat} {x0 : Nat} {h : ab_H} {y : ab_H} (e : fX3_readLine F x0 h = some y) : ab_Met l mX3_readLine [.ref x0] h (.inl none, y) := ab_ofS (io := (fun y : ab_H => ((.inl none, y) : ab_R × ab_H))) (x := y) hl (by decide) rfl (Nat.le_of_ble_eq_true rfl) (wX3_readLine hl F x0 h) e
def mX5_point : ab_M := (yX5_point, cX5_point, 4, none, { frames := 2, cells := 0, slots := 0, locals := 46 })
theorem iX5_point : ab_MI mX5_point 2 := ⟨kw_5bc1c08057, kw_c0673d947a, by decide +kernel⟩
theorem lk_X5_45 : ab_LS RX5 45 mX5_bringerOfDearest 3 := ⟨iX5_bringerOfDearest, kw_ed3f0db62e, kw_51c1fa9183⟩
def fX5_point_2 (F : Nat) (x0 : Nat) (x1 : Nat) (x2 : Int32) : Nat → Int32 → ab_H → Option ab_H
  | 0, _, _ => none
  | n + 1, x3, h => ab_bd (ab_fi h x1 8 0) fun v1 => (if x3 < v1 then ab_bd (fX11_has x2 x3 h) fun v3 => (if v3 = 0 then fX5_point_2 F x0 x1 x2 n (x3 + nI 1) h else ab_bd (ab_fr h x0 5 1) fun v5 => ab_bd (fX5_bringerOfDearest F x1 x3 x2 h) fun v6 => ab_bd (ab_iw 0 h v5 x3 v6) fun h7 => fX5_point_2 F x0 x1 x2 n (x3 + nI 1) h7) else some h)
def fX5_point (F : Nat) (x0 : Nat) (x1 : Nat) (x2 : Int32) (h : ab_H) : Option ab_H := fX5_point_2 F x0 x1 x2 F (nI 0) h
set_option maxRecDepth 100000 in
set_option maxHeartbeats 4000000 in
theorem lX5_point_2 {l : Launch} (hl : l.stackTraces = false) (F : Nat) (x0 : Nat) (x1 : Nat) (x2 : Int32) : ∀ (n : Nat) (x3 : Int32) (h : ab_H), ab_S l mX5_point (fun y : ab_H => ((.inl none, y) : ab_R × ab_H)) 0 0 (fX5_point_2 F x0 x1 x2 n x3 h) 2 [(0, .ref x0), (1, .ref x1), (2, .int x2), (3, .int x3)] [] h := by
  intro n
  induction n with
  | zero =>
    intro x3 h
    exact ab_none
  | succ n ih =>
    intro x3 h
    rw [fX5_point_2]
    refine ab_iload_n (pc := 2) (n := 3) (i := 3) (j := 3) (by decide +kernel) rfl rfl ?_
    refine ab_aload_n (pc := 3) (n := 1) (i := 1) (j := 1) (by decide +kernel) rfl rfl ?_
    refine ab_getI (pc := 4) fl_X5_24_8 (by decide +kernel) (fun v1 ev1 => ?_)
    refine ab_icmp_ge (off := 29) (pc := 7) (tgt := 36) (by decide +kernel) (by decide) (fun g2 => ?_) (fun g2 => ?_)
    · refine ab_iload_n (pc := 10) (n := 2) (i := 2) (j := 2) (by decide +kernel) rfl rfl ?_
      refine ab_iload_n (pc := 11) (n := 3) (i := 3) (j := 3) (by decide +kernel) rfl rfl ?_
      refine ab_callNi (As := [.int x2, .int x3]) (st := []) (pc := 12) (index := 41) (host := "HungFaces") iX11_has (by show (RX5, 41, yX11_has, "HungFaces") ∈ ab_nm; decide +kernel) kw_b5c7c9a43d rfl rfl rfl (by decide) rfl (Nat.le_of_ble_eq_true rfl) (by decide +kernel) (fun y9 e9 => okX11_has hl e9) (fun v3 ev3 => ?_)
      refine ab_if_eq (off := 15) (pc := 15) (tgt := 30) (by decide +kernel) (by decide) (fun g4 => ?_) (fun g4 => ?_)
      · refine ab_iinc (pc := 30) (i := 3) (n := 1) (j := 3) (d := nI 1) (lv' := [(0, .ref x0), (1, .ref x1), (2, .int x2), (3, .int (x3 + nI 1))]) (by decide +kernel) rfl rfl (Nat.le_of_ble_eq_true rfl) rfl rfl ?_
        refine ab_goto (pc := 33) (off := (-31)) (tgt := 2) (by decide +kernel) (by decide) ?_
        exact ih (x3 + nI 1) h
      · refine ab_aload_n (pc := 18) (n := 0) (i := 0) (j := 0) (by decide +kernel) rfl rfl ?_
        refine ab_getR (pc := 19) fl_X5_15_5 (by decide +kernel) (fun v5 ev5 => ?_)
        refine ab_iload_n (pc := 22) (n := 3) (i := 3) (j := 3) (by decide +kernel) rfl rfl ?_
        refine ab_aload_n (pc := 23) (n := 1) (i := 1) (j := 1) (by decide +kernel) rfl rfl ?_
        refine ab_iload_n (pc := 24) (n := 3) (i := 3) (j := 3) (by decide +kernel) rfl rfl ?_
        refine ab_iload_n (pc := 25) (n := 2) (i := 2) (j := 2) (by decide +kernel) rfl rfl ?_
        refine ab_callSi (As := [.ref x1, .int x3, .int x2]) (st := [.int x3, .ref v5]) (pc := 26) lk_X5_45 rfl rfl rfl (by decide) rfl (Nat.le_of_ble_eq_true rfl) (by decide +kernel) (fun y9 e9 => okX5_bringerOfDearest hl (F := F) e9) (fun v6 ev6 => ?_)
        refine ab_iast (pc := 29) (by decide +kernel) (fun h7 eh7 => ?_)
        refine ab_iinc (pc := 30) (i := 3) (n := 1) (j := 3) (d := nI 1) (lv' := [(0, .ref x0), (1, .ref x1), (2, .int x2), (3, .int (x3 + nI 1))]) (by decide +kernel) rfl rfl (Nat.le_of_ble_eq_true rfl) rfl rfl ?_
        refine ab_goto (pc := 33) (off := (-31)) (tgt := 2) (by decide +kernel) (by decide) ?_
        exact ih (x3 + nI 1) h7
    · exact ab_vret (pc := 36) (by decide +kernel) rfl rfl (Nat.le_of_ble_eq_true rfl) (Nat.le_of_ble_eq_true rfl)
set_option maxRecDepth 100000 in
set_option maxHeartbeats 4000000 in
theorem wX5_point {l : Launch} (hl : l.stackTraces = false) (F : Nat) (x0 : Nat) (x1 : Nat) (x2 : Int32) (h : ab_H) : ab_S l mX5_point (fun y : ab_H => ((.inl none, y) : ab_R × ab_H)) 0 0 (fX5_point F x0 x1 x2 h) 0 [(0, .ref x0), (1, .ref x1), (2, .int x2)] [] h := by
  unfold fX5_point
  refine ab_iconst (pc := 0) (n := 0) (v := nI 0) (by decide +kernel) rfl ?_
  refine ab_istore_n (pc := 1) (n := 3) (i := 3) (lv' := [(0, .ref x0), (1, .ref x1), (2, .int x2), (3, .int (nI 0))]) (by decide +kernel) rfl (Nat.le_of_ble_eq_true rfl) rfl rfl ?_
  refine lX5_point_2 hl F x0 x1 x2 F (nI 0) h
set_option maxRecDepth 100000 in
set_option maxHeartbeats 4000000 in
theorem okX5_point {l : Launch} (hl : l.stackTraces = false) {F : Nat} {x0 : Nat} {x1 : Nat} {x2 : Int32} {h : ab_H} {y : ab_H} (e : fX5_point F x0 x1 x2 h = some y) : ab_Met l mX5_point [.ref x0, .ref x1, .int x2] h (.inl none, y) := ab_ofS (io := (fun y : ab_H => ((.inl none, y) : ab_R × ab_H))) (x := y) hl (by decide) rfl (Nat.le_of_ble_eq_true rfl) (wX5_point hl F x0 x1 x2 h) e
def mX5_hasDearerRing : ab_M := (yX5_hasDearerRing, cX5_hasDearerRing, 7, (some .boolean), { frames := 2, cells := 0, slots := 0, locals := 47 })
theorem iX5_hasDearerRing : ab_MI mX5_hasDearerRing 2 := ⟨kw_6f4a7deca2, kw_c0673d947a, by decide +kernel⟩
theorem lk_X5_61 : ab_LS RX5 61 mX5_wantsAny 3 := ⟨iX5_wantsAny, kw_a8a9ffdf1c, kw_0c71179482⟩
def fX5_hasDearerRing_18 (F : Nat) (x1 : Nat) (x3 : Int32) (x4 : Int32) (h : ab_H) (k61 : Int32 → Option Int32) : Nat → Int32 → Int32 → Option Int32
  | 0, _, _ => none
  | n + 1, x5, x6 => ab_bd (ab_fi h x1 8 0) fun v2 => (if x6 < v2 then ab_bd (fX11_has x3 x6 h) fun v4 => (if v4 = 0 then fX5_hasDearerRing_18 F x1 x3 x4 h k61 n x5 (x6 + nI 1) else ab_bd (fX5_wantsAny F x1 x6 x3 h) fun v6 => (if v6 = 0 then fX5_hasDearerRing_18 F x1 x3 x4 h k61 n x5 (x6 + nI 1) else fX5_hasDearerRing_18 F x1 x3 x4 h k61 n (x5 ||| ((nI 1) <<< (x6 &&& 31))) (x6 + nI 1))) else k61 x5)
def fX5_hasDearerRing_5 (F : Nat) (x1 : Nat) (h : ab_H) (k70 : Int32 → Option Int32) : Nat → Int32 → Int32 → Option Int32
  | 0, _, _ => none
  | n + 1, x3, x4 => (if x4 < (nI 10) then fX5_hasDearerRing_18 F x1 x3 x4 h (fun (z8 : Int32) => fX5_hasDearerRing_5 F x1 h k70 n z8 (x4 + nI 1)) F (nI 0) (nI 0) else k70 x3)
def fX5_hasDearerRing (F : Nat) (x0 : Nat) (x1 : Nat) (x2 : Int32) (h : ab_H) : Option Int32 := fX5_hasDearerRing_5 F x1 h (fun (z9 : Int32) => (if z9 = 0 then some (nI 0) else some (nI 1))) F x2 (nI 0)
set_option maxRecDepth 100000 in
set_option maxHeartbeats 4000000 in
theorem lX5_hasDearerRing_18 {l : Launch} (hl : l.stackTraces = false) (F : Nat) (x1 : Nat) (x3 : Int32) (x4 : Int32) (h : ab_H) {k61 : Int32 → Option Int32} (hk61 : ∀ (x5 : Int32), ab_S l mX5_hasDearerRing (fun y : Int32 => ((.inl (some (.int y)), h) : ab_R × ab_H)) 0 0 (k61 x5) 61 [(1, .ref x1), (4, .int x4), (5, .int x5)] [] h) : ∀ (n : Nat) (x5 : Int32) (x6 : Int32), ab_S l mX5_hasDearerRing (fun y : Int32 => ((.inl (some (.int y)), h) : ab_R × ab_H)) 0 0 (fX5_hasDearerRing_18 F x1 x3 x4 h k61 n x5 x6) 18 [(1, .ref x1), (3, .int x3), (4, .int x4), (5, .int x5), (6, .int x6)] [] h := by
  intro n
  induction n with
  | zero =>
    intro x5 x6
    exact ab_none
  | succ n ih =>
    intro x5 x6
    rw [fX5_hasDearerRing_18]
    refine ab_iload (pc := 18) (i := 6) (j := 4) (by decide +kernel) rfl ?_
    refine ab_aload_n (pc := 20) (n := 1) (i := 1) (j := 0) (by decide +kernel) rfl rfl ?_
    refine ab_getI (pc := 21) fl_X5_24_8 (by decide +kernel) (fun v2 ev2 => ?_)
    refine ab_icmp_ge (off := 37) (pc := 24) (tgt := 61) (by decide +kernel) (by decide) (fun g3 => ?_) (fun g3 => ?_)
    · refine ab_iload_n (pc := 27) (n := 3) (i := 3) (j := 1) (by decide +kernel) rfl rfl ?_
      refine ab_iload (pc := 28) (i := 6) (j := 4) (by decide +kernel) rfl ?_
      refine ab_callNi (As := [.int x3, .int x6]) (st := []) (pc := 30) (index := 41) (host := "HungFaces") iX11_has (by show (RX5, 41, yX11_has, "HungFaces") ∈ ab_nm; decide +kernel) kw_b5c7c9a43d rfl rfl rfl (by decide) rfl (Nat.le_of_ble_eq_true rfl) (by decide +kernel) (fun y9 e9 => okX11_has hl e9) (fun v4 ev4 => ?_)
      refine ab_if_eq (off := 22) (pc := 33) (tgt := 55) (by decide +kernel) (by decide) (fun g5 => ?_) (fun g5 => ?_)
      · refine ab_iinc (pc := 55) (i := 6) (n := 1) (j := 4) (d := nI 1) (lv' := [(1, .ref x1), (3, .int x3), (4, .int x4), (5, .int x5), (6, .int (x6 + nI 1))]) (by decide +kernel) rfl rfl (Nat.le_of_ble_eq_true rfl) rfl rfl ?_
        refine ab_goto (pc := 58) (off := (-40)) (tgt := 18) (by decide +kernel) (by decide) ?_
        exact ih x5 (x6 + nI 1)
      · refine ab_aload_n (pc := 36) (n := 1) (i := 1) (j := 0) (by decide +kernel) rfl rfl ?_
        refine ab_iload (pc := 37) (i := 6) (j := 4) (by decide +kernel) rfl ?_
        refine ab_iload_n (pc := 39) (n := 3) (i := 3) (j := 1) (by decide +kernel) rfl rfl ?_
        refine ab_callSi (As := [.ref x1, .int x6, .int x3]) (st := []) (pc := 40) lk_X5_61 rfl rfl rfl (by decide) rfl (Nat.le_of_ble_eq_true rfl) (by decide +kernel) (fun y9 e9 => okX5_wantsAny hl (F := F) e9) (fun v6 ev6 => ?_)
        refine ab_if_eq (off := 12) (pc := 43) (tgt := 55) (by decide +kernel) (by decide) (fun g7 => ?_) (fun g7 => ?_)
        · refine ab_iinc (pc := 55) (i := 6) (n := 1) (j := 4) (d := nI 1) (lv' := [(1, .ref x1), (3, .int x3), (4, .int x4), (5, .int x5), (6, .int (x6 + nI 1))]) (by decide +kernel) rfl rfl (Nat.le_of_ble_eq_true rfl) rfl rfl ?_
          refine ab_goto (pc := 58) (off := (-40)) (tgt := 18) (by decide +kernel) (by decide) ?_
          exact ih x5 (x6 + nI 1)
        · refine ab_iload (pc := 46) (i := 5) (j := 3) (by decide +kernel) rfl ?_
          refine ab_iconst (pc := 48) (n := 1) (v := nI 1) (by decide +kernel) rfl ?_
          refine ab_iload (pc := 49) (i := 6) (j := 4) (by decide +kernel) rfl ?_
          refine ab_ishl (pc := 51) (by decide +kernel) ?_
          refine ab_ior (pc := 52) (by decide +kernel) ?_
          refine ab_istore (pc := 53) (i := 5) (lv' := [(1, .ref x1), (3, .int x3), (4, .int x4), (5, .int (x5 ||| ((nI 1) <<< (x6 &&& 31)))), (6, .int x6)]) (by decide +kernel) (Nat.le_of_ble_eq_true rfl) rfl rfl ?_
          refine ab_iinc (pc := 55) (i := 6) (n := 1) (j := 4) (d := nI 1) (lv' := [(1, .ref x1), (3, .int x3), (4, .int x4), (5, .int (x5 ||| ((nI 1) <<< (x6 &&& 31)))), (6, .int (x6 + nI 1))]) (by decide +kernel) rfl rfl (Nat.le_of_ble_eq_true rfl) rfl rfl ?_
          refine ab_goto (pc := 58) (off := (-40)) (tgt := 18) (by decide +kernel) (by decide) ?_
          exact ih (x5 ||| ((nI 1) <<< (x6 &&& 31))) (x6 + nI 1)
    · refine ab_few [0, 2, 3] (lv' := [(1, .ref x1), (4, .int x4), (5, .int x5)]) rfl ?_
      exact hk61 x5
set_option maxRecDepth 100000 in
set_option maxHeartbeats 4000000 in
theorem lX5_hasDearerRing_5 {l : Launch} (hl : l.stackTraces = false) (F : Nat) (x1 : Nat) (h : ab_H) {k70 : Int32 → Option Int32} (hk70 : ∀ (x3 : Int32), ab_S l mX5_hasDearerRing (fun y : Int32 => ((.inl (some (.int y)), h) : ab_R × ab_H)) 0 0 (k70 x3) 70 [(3, .int x3)] [] h) : ∀ (n : Nat) (x3 : Int32) (x4 : Int32), ab_S l mX5_hasDearerRing (fun y : Int32 => ((.inl (some (.int y)), h) : ab_R × ab_H)) 0 0 (fX5_hasDearerRing_5 F x1 h k70 n x3 x4) 5 [(1, .ref x1), (3, .int x3), (4, .int x4)] [] h := by
  intro n
  induction n with
  | zero =>
    intro x3 x4
    exact ab_none
  | succ n ih =>
    intro x3 x4
    rw [fX5_hasDearerRing_5]
    refine ab_iload (pc := 5) (i := 4) (j := 2) (by decide +kernel) rfl ?_
    refine ab_bipush (pc := 7) (n := 10) (v := nI 10) (by decide +kernel) (by decide) ?_
    refine ab_icmp_ge (off := 61) (pc := 9) (tgt := 70) (by decide +kernel) (by decide) (fun g1 => ?_) (fun g1 => ?_)
    · refine ab_iconst (pc := 12) (n := 0) (v := nI 0) (by decide +kernel) rfl ?_
      refine ab_istore (pc := 13) (i := 5) (lv' := [(1, .ref x1), (3, .int x3), (4, .int x4), (5, .int (nI 0))]) (by decide +kernel) (Nat.le_of_ble_eq_true rfl) rfl rfl ?_
      refine ab_iconst (pc := 15) (n := 0) (v := nI 0) (by decide +kernel) rfl ?_
      refine ab_istore (pc := 16) (i := 6) (lv' := [(1, .ref x1), (3, .int x3), (4, .int x4), (5, .int (nI 0)), (6, .int (nI 0))]) (by decide +kernel) (Nat.le_of_ble_eq_true rfl) rfl rfl ?_
      refine lX5_hasDearerRing_18 hl F x1 x3 x4 h ?_ F (nI 0) (nI 0)
      intro z8
      refine ab_iload (pc := 61) (i := 5) (j := 2) (by decide +kernel) rfl ?_
      refine ab_istore_n (pc := 63) (n := 3) (i := 3) (lv' := [(1, .ref x1), (3, .int z8), (4, .int x4), (5, .int z8)]) (by decide +kernel) rfl (Nat.le_of_ble_eq_true rfl) rfl rfl ?_
      refine ab_iinc (pc := 64) (i := 4) (n := 1) (j := 2) (d := nI 1) (lv' := [(1, .ref x1), (3, .int z8), (4, .int (x4 + nI 1)), (5, .int z8)]) (by decide +kernel) rfl rfl (Nat.le_of_ble_eq_true rfl) rfl rfl ?_
      refine ab_goto (pc := 67) (off := (-62)) (tgt := 5) (by decide +kernel) (by decide) ?_
      refine ab_few [0, 1, 2] (lv' := [(1, .ref x1), (3, .int z8), (4, .int (x4 + nI 1))]) rfl ?_
      exact ih z8 (x4 + nI 1)
    · refine ab_few [1] (lv' := [(3, .int x3)]) rfl ?_
      exact hk70 x3
set_option maxRecDepth 100000 in
set_option maxHeartbeats 4000000 in
theorem wX5_hasDearerRing {l : Launch} (hl : l.stackTraces = false) (F : Nat) (x0 : Nat) (x1 : Nat) (x2 : Int32) (h : ab_H) : ab_S l mX5_hasDearerRing (fun y : Int32 => ((.inl (some (.int y)), h) : ab_R × ab_H)) 0 0 (fX5_hasDearerRing F x0 x1 x2 h) 0 [(0, .ref x0), (1, .ref x1), (2, .int x2)] [] h := by
  unfold fX5_hasDearerRing
  refine ab_iload_n (pc := 0) (n := 2) (i := 2) (j := 2) (by decide +kernel) rfl rfl ?_
  refine ab_istore_n (pc := 1) (n := 3) (i := 3) (lv' := [(0, .ref x0), (1, .ref x1), (2, .int x2), (3, .int x2)]) (by decide +kernel) rfl (Nat.le_of_ble_eq_true rfl) rfl rfl ?_
  refine ab_iconst (pc := 2) (n := 0) (v := nI 0) (by decide +kernel) rfl ?_
  refine ab_istore (pc := 3) (i := 4) (lv' := [(0, .ref x0), (1, .ref x1), (2, .int x2), (3, .int x2), (4, .int (nI 0))]) (by decide +kernel) (Nat.le_of_ble_eq_true rfl) rfl rfl ?_
  refine ab_few [1, 3, 4] (lv' := [(1, .ref x1), (3, .int x2), (4, .int (nI 0))]) rfl ?_
  refine lX5_hasDearerRing_5 hl F x1 h ?_ F x2 (nI 0)
  intro z9
  refine ab_iload_n (pc := 70) (n := 3) (i := 3) (j := 0) (by decide +kernel) rfl rfl ?_
  refine ab_if_eq (off := 7) (pc := 71) (tgt := 78) (by decide +kernel) (by decide) (fun g10 => ?_) (fun g10 => ?_)
  · refine ab_iconst (pc := 78) (n := 0) (v := nI 0) (by decide +kernel) rfl ?_
    exact ab_zret (pc := 79) (by decide +kernel) rfl ab_bl0.1 rfl (Nat.le_of_ble_eq_true rfl) (Nat.le_of_ble_eq_true rfl)
  · refine ab_iconst (pc := 74) (n := 1) (v := nI 1) (by decide +kernel) rfl ?_
    refine ab_goto (pc := 75) (off := 4) (tgt := 79) (by decide +kernel) (by decide) ?_
    exact ab_zret (pc := 79) (by decide +kernel) rfl ab_bl1.1 rfl (Nat.le_of_ble_eq_true rfl) (Nat.le_of_ble_eq_true rfl)
set_option maxRecDepth 100000 in
set_option maxHeartbeats 4000000 in
theorem okX5_hasDearerRing {l : Launch} (hl : l.stackTraces = false) {F : Nat} {x0 : Nat} {x1 : Nat} {x2 : Int32} {h : ab_H} {y : Int32} (e : fX5_hasDearerRing F x0 x1 x2 h = some y) : ab_Met l mX5_hasDearerRing [.ref x0, .ref x1, .int x2] h (.inl (some (.int y)), h) := ab_ofS (io := (fun y : Int32 => ((.inl (some (.int y)), h) : ab_R × ab_H))) (x := y) hl (by decide) rfl (Nat.le_of_ble_eq_true rfl) (wX5_hasDearerRing hl F x0 x1 x2 h) e
def mX7_ownersOfAll : ab_M := (yX7_ownersOfAll, cX7_ownersOfAll, 1, (some .int), { frames := 2, cells := 0, slots := 0, locals := 47 })
theorem iX7_ownersOfAll : ab_MI mX7_ownersOfAll 0 := ⟨kw_2955ef86ff, kw_7a4ae534b5, by decide +kernel⟩
theorem lk_X7_61_7 : ab_LV RX7 61 7 mX7_countOwners 0 := ⟨RX7, rfl, iX7_countOwners, kw_96598896f5, kw_166c80c19f, kw_4f99d1c718⟩
def fX7_ownersOfAll (F : Nat) (x0 : Nat) (h : ab_H) : Option (Int32 × ab_H) := ab_bd (ab_fi h x0 7 7) fun v1 => ab_ck (ab_io h x0 7 = true) (ab_bd (fX7_allowBy F x0 (((nI 1) <<< (v1 &&& 31)) - (nI 1)) h) fun h2 => ab_ck (ab_io h2 x0 7 = true) (ab_bd (fX7_countOwners F x0 h2) fun v3 => some (v3.1, v3.2)))
set_option maxRecDepth 100000 in
set_option maxHeartbeats 4000000 in
theorem wX7_ownersOfAll {l : Launch} (hl : l.stackTraces = false) (F : Nat) (x0 : Nat) (h : ab_H) : ab_S l mX7_ownersOfAll (fun y : (Int32 × ab_H) => ((.inl (some (.int y.1)), y.2) : ab_R × ab_H)) 0 0 (fX7_ownersOfAll F x0 h) 0 [(0, .ref x0)] [] h := by
  unfold fX7_ownersOfAll
  refine ab_aload_n (pc := 0) (n := 0) (i := 0) (j := 0) (by decide +kernel) rfl rfl ?_
  refine ab_iconst (pc := 1) (n := 1) (v := nI 1) (by decide +kernel) rfl ?_
  refine ab_aload_n (pc := 2) (n := 0) (i := 0) (j := 0) (by decide +kernel) rfl rfl ?_
  refine ab_getI (pc := 3) fl_X7_35_7 (by decide +kernel) (fun v1 ev1 => ?_)
  refine ab_ishl (pc := 6) (by decide +kernel) ?_
  refine ab_iconst (pc := 7) (n := 1) (v := nI 1) (by decide +kernel) rfl ?_
  refine ab_isub (pc := 8) (by decide +kernel) ?_
  refine ab_callVw (As := [.int (((nI 1) <<< (v1 &&& 31)) - (nI 1))]) (st := []) (pc := 9) lk_X7_57_7 rfl rfl rfl (by decide) rfl (Nat.le_of_ble_eq_true rfl) (by decide +kernel) (fun y9 e9 => okX7_allowBy hl (F := F) e9) (fun h2 eh2 => ?_)
  refine ab_aload_n (pc := 12) (n := 0) (i := 0) (j := 0) (by decide +kernel) rfl rfl ?_
  refine ab_callVj (As := []) (st := []) (pc := 13) lk_X7_61_7 rfl rfl rfl (by decide) rfl (Nat.le_of_ble_eq_true rfl) (by decide +kernel) (fun y9 e9 => okX7_countOwners hl (F := F) e9) (fun v3 ev3 => ?_)
  exact ab_iret (pc := 16) (by decide +kernel) rfl rfl (Nat.le_of_ble_eq_true rfl) (Nat.le_of_ble_eq_true rfl)
set_option maxRecDepth 100000 in
set_option maxHeartbeats 4000000 in
theorem okX7_ownersOfAll {l : Launch} (hl : l.stackTraces = false) {F : Nat} {x0 : Nat} {h : ab_H} {y : (Int32 × ab_H)} (e : fX7_ownersOfAll F x0 h = some y) : ab_Met l mX7_ownersOfAll [.ref x0] h (.inl (some (.int y.1)), y.2) := ab_ofS (io := (fun y : (Int32 × ab_H) => ((.inl (some (.int y.1)), y.2) : ab_R × ab_H))) (x := y) hl (by decide) rfl (Nat.le_of_ble_eq_true rfl) (wX7_ownersOfAll hl F x0 h) e
def mX7_ownersWith : ab_M := (yX7_ownersWith, cX7_ownersWith, 3, (some .int), { frames := 2, cells := 0, slots := 0, locals := 47 })
theorem iX7_ownersWith : ab_MI mX7_ownersWith 2 := ⟨kw_f11a86dfeb, kw_7a4ae534b5, by decide +kernel⟩
def fX7_ownersWith (F : Nat) (x0 : Nat) (x1 : Int32) (x2 : Int32) (h : ab_H) : Option (Int32 × ab_H) := ab_bd (ab_fi h x0 7 7) fun v1 => ab_ck (ab_io h x0 7 = true) (ab_bd (fX7_allowBy F x0 (((nI 1) <<< (v1 &&& 31)) - (nI 1)) h) fun h2 => ab_bd (ab_fr h2 x0 7 3) fun v3 => ab_bd (ab_ia 0 h2 v3 x1) fun v4 => ab_bd (ab_iw 0 h2 v3 x1 (v4 &&& ((nI 1) <<< (x2 &&& 31)))) fun h5 => ab_ck (ab_io h5 x0 7 = true) (ab_bd (fX7_countOwners F x0 h5) fun v6 => some (v6.1, v6.2)))
set_option maxRecDepth 100000 in
set_option maxHeartbeats 4000000 in
theorem wX7_ownersWith {l : Launch} (hl : l.stackTraces = false) (F : Nat) (x0 : Nat) (x1 : Int32) (x2 : Int32) (h : ab_H) : ab_S l mX7_ownersWith (fun y : (Int32 × ab_H) => ((.inl (some (.int y.1)), y.2) : ab_R × ab_H)) 0 0 (fX7_ownersWith F x0 x1 x2 h) 0 [(0, .ref x0), (1, .int x1), (2, .int x2)] [] h := by
  unfold fX7_ownersWith
  refine ab_aload_n (pc := 0) (n := 0) (i := 0) (j := 0) (by decide +kernel) rfl rfl ?_
  refine ab_iconst (pc := 1) (n := 1) (v := nI 1) (by decide +kernel) rfl ?_
  refine ab_aload_n (pc := 2) (n := 0) (i := 0) (j := 0) (by decide +kernel) rfl rfl ?_
  refine ab_getI (pc := 3) fl_X7_35_7 (by decide +kernel) (fun v1 ev1 => ?_)
  refine ab_ishl (pc := 6) (by decide +kernel) ?_
  refine ab_iconst (pc := 7) (n := 1) (v := nI 1) (by decide +kernel) rfl ?_
  refine ab_isub (pc := 8) (by decide +kernel) ?_
  refine ab_callVw (As := [.int (((nI 1) <<< (v1 &&& 31)) - (nI 1))]) (st := []) (pc := 9) lk_X7_57_7 rfl rfl rfl (by decide) rfl (Nat.le_of_ble_eq_true rfl) (by decide +kernel) (fun y9 e9 => okX7_allowBy hl (F := F) e9) (fun h2 eh2 => ?_)
  refine ab_aload_n (pc := 12) (n := 0) (i := 0) (j := 0) (by decide +kernel) rfl rfl ?_
  refine ab_getR (pc := 13) fl_X7_22_7 (by decide +kernel) (fun v3 ev3 => ?_)
  refine ab_iload_n (pc := 16) (n := 1) (i := 1) (j := 1) (by decide +kernel) rfl rfl ?_
  refine ab_dup2 (pc := 17) (by decide +kernel) rfl rfl ?_
  refine ab_iald (pc := 18) (by decide +kernel) (fun v4 ev4 => ?_)
  refine ab_iconst (pc := 19) (n := 1) (v := nI 1) (by decide +kernel) rfl ?_
  refine ab_iload_n (pc := 20) (n := 2) (i := 2) (j := 2) (by decide +kernel) rfl rfl ?_
  refine ab_ishl (pc := 21) (by decide +kernel) ?_
  refine ab_iand (pc := 22) (by decide +kernel) ?_
  refine ab_iast (pc := 23) (by decide +kernel) (fun h5 eh5 => ?_)
  refine ab_aload_n (pc := 24) (n := 0) (i := 0) (j := 0) (by decide +kernel) rfl rfl ?_
  refine ab_callVj (As := []) (st := []) (pc := 25) lk_X7_61_7 rfl rfl rfl (by decide) rfl (Nat.le_of_ble_eq_true rfl) (by decide +kernel) (fun y9 e9 => okX7_countOwners hl (F := F) e9) (fun v6 ev6 => ?_)
  exact ab_iret (pc := 28) (by decide +kernel) rfl rfl (Nat.le_of_ble_eq_true rfl) (Nat.le_of_ble_eq_true rfl)
set_option maxRecDepth 100000 in
set_option maxHeartbeats 4000000 in
theorem okX7_ownersWith {l : Launch} (hl : l.stackTraces = false) {F : Nat} {x0 : Nat} {x1 : Int32} {x2 : Int32} {h : ab_H} {y : (Int32 × ab_H)} (e : fX7_ownersWith F x0 x1 x2 h = some y) : ab_Met l mX7_ownersWith [.ref x0, .int x1, .int x2] h (.inl (some (.int y.1)), y.2) := ab_ofS (io := (fun y : (Int32 × ab_H) => ((.inl (some (.int y.1)), y.2) : ab_R × ab_H))) (x := y) hl (by decide) rfl (Nat.le_of_ble_eq_true rfl) (wX7_ownersWith hl F x0 x1 x2 h) e
def mX7_sureFace : ab_M := (yX7_sureFace, cX7_sureFace, 4, (some .int), { frames := 3, cells := 0, slots := 0, locals := 69 })
theorem iX7_sureFace : ab_MI mX7_sureFace 1 := ⟨kw_eca22eafcc, kw_7a4ae534b5, by decide +kernel⟩
theorem lk_X7_70_7 : ab_LV RX7 70 7 mX7_ownersOfAll 0 := ⟨RX7, rfl, iX7_ownersOfAll, kw_0b943afaff, kw_f88b345808, kw_1c5895f2a2⟩
theorem lk_X7_73_7 : ab_LV RX7 73 7 mX7_ownersWith 2 := ⟨RX7, rfl, iX7_ownersWith, kw_8aef0af504, kw_56cfb0e8ac, kw_39c830670f⟩
def fX7_sureFace_7 (F : Nat) (x0 : Nat) (x1 : Int32) (x2 : Int32) : Nat → Int32 → ab_H → Option (Int32 × ab_H)
  | 0, _, _ => none
  | n + 1, x3, h => ab_bd (ab_fi h x0 7 6) fun v2 => (if x3 < v2 then (if x2 ≤ 0 then some ((-1 : Int32), h) else ab_ck (ab_io h x0 7 = true) (ab_bd (fX7_ownersWith F x0 x1 x3 h) fun v5 => (if v5.1 = x2 then some (x3, v5.2) else fX7_sureFace_7 F x0 x1 x2 n (x3 + nI 1) v5.2))) else some ((-1 : Int32), h))
def fX7_sureFace (F : Nat) (x0 : Nat) (x1 : Int32) (h : ab_H) : Option (Int32 × ab_H) := ab_ck (ab_io h x0 7 = true) (ab_bd (fX7_ownersOfAll F x0 h) fun v1 => fX7_sureFace_7 F x0 x1 v1.1 F (nI 0) v1.2)
set_option maxRecDepth 100000 in
set_option maxHeartbeats 4000000 in
theorem lX7_sureFace_7 {l : Launch} (hl : l.stackTraces = false) (F : Nat) (x0 : Nat) (x1 : Int32) (x2 : Int32) : ∀ (n : Nat) (x3 : Int32) (h : ab_H), ab_S l mX7_sureFace (fun y : (Int32 × ab_H) => ((.inl (some (.int y.1)), y.2) : ab_R × ab_H)) 0 0 (fX7_sureFace_7 F x0 x1 x2 n x3 h) 7 [(0, .ref x0), (1, .int x1), (2, .int x2), (3, .int x3)] [] h := by
  intro n
  induction n with
  | zero =>
    intro x3 h
    exact ab_none
  | succ n ih =>
    intro x3 h
    rw [fX7_sureFace_7]
    refine ab_iload_n (pc := 7) (n := 3) (i := 3) (j := 3) (by decide +kernel) rfl rfl ?_
    refine ab_aload_n (pc := 8) (n := 0) (i := 0) (j := 0) (by decide +kernel) rfl rfl ?_
    refine ab_getI (pc := 9) fl_X7_31_7 (by decide +kernel) (fun v2 ev2 => ?_)
    refine ab_icmp_ge (off := 25) (pc := 12) (tgt := 37) (by decide +kernel) (by decide) (fun g3 => ?_) (fun g3 => ?_)
    · refine ab_iload_n (pc := 15) (n := 2) (i := 2) (j := 2) (by decide +kernel) rfl rfl ?_
      refine ab_if_le (off := 21) (pc := 16) (tgt := 37) (by decide +kernel) (by decide) (fun g4 => ?_) (fun g4 => ?_)
      · refine ab_iconst (pc := 37) (n := -1) (v := (-1 : Int32)) (by decide +kernel) rfl ?_
        exact ab_iret (pc := 38) (by decide +kernel) rfl rfl (Nat.le_of_ble_eq_true rfl) (Nat.le_of_ble_eq_true rfl)
      · refine ab_aload_n (pc := 19) (n := 0) (i := 0) (j := 0) (by decide +kernel) rfl rfl ?_
        refine ab_iload_n (pc := 20) (n := 1) (i := 1) (j := 1) (by decide +kernel) rfl rfl ?_
        refine ab_iload_n (pc := 21) (n := 3) (i := 3) (j := 3) (by decide +kernel) rfl rfl ?_
        refine ab_callVj (As := [.int x1, .int x3]) (st := []) (pc := 22) lk_X7_73_7 rfl rfl rfl (by decide) rfl (Nat.le_of_ble_eq_true rfl) (by decide +kernel) (fun y9 e9 => okX7_ownersWith hl (F := F) e9) (fun v5 ev5 => ?_)
        refine ab_iload_n (pc := 25) (n := 2) (i := 2) (j := 2) (by decide +kernel) rfl rfl ?_
        refine ab_icmp_ne (off := 5) (pc := 26) (tgt := 31) (by decide +kernel) (by decide) (fun g6 => ?_) (fun g6 => ?_)
        · refine ab_iload_n (pc := 29) (n := 3) (i := 3) (j := 3) (by decide +kernel) rfl rfl ?_
          exact ab_iret (pc := 30) (by decide +kernel) rfl rfl (Nat.le_of_ble_eq_true rfl) (Nat.le_of_ble_eq_true rfl)
        · refine ab_iinc (pc := 31) (i := 3) (n := 1) (j := 3) (d := nI 1) (lv' := [(0, .ref x0), (1, .int x1), (2, .int x2), (3, .int (x3 + nI 1))]) (by decide +kernel) rfl rfl (Nat.le_of_ble_eq_true rfl) rfl rfl ?_
          refine ab_goto (pc := 34) (off := (-27)) (tgt := 7) (by decide +kernel) (by decide) ?_
          exact ih (x3 + nI 1) v5.2
    · refine ab_iconst (pc := 37) (n := -1) (v := (-1 : Int32)) (by decide +kernel) rfl ?_
      exact ab_iret (pc := 38) (by decide +kernel) rfl rfl (Nat.le_of_ble_eq_true rfl) (Nat.le_of_ble_eq_true rfl)
set_option maxRecDepth 100000 in
set_option maxHeartbeats 4000000 in
theorem wX7_sureFace {l : Launch} (hl : l.stackTraces = false) (F : Nat) (x0 : Nat) (x1 : Int32) (h : ab_H) : ab_S l mX7_sureFace (fun y : (Int32 × ab_H) => ((.inl (some (.int y.1)), y.2) : ab_R × ab_H)) 0 0 (fX7_sureFace F x0 x1 h) 0 [(0, .ref x0), (1, .int x1)] [] h := by
  unfold fX7_sureFace
  refine ab_aload_n (pc := 0) (n := 0) (i := 0) (j := 0) (by decide +kernel) rfl rfl ?_
  refine ab_callVj (As := []) (st := []) (pc := 1) lk_X7_70_7 rfl rfl rfl (by decide) rfl (Nat.le_of_ble_eq_true rfl) (by decide +kernel) (fun y9 e9 => okX7_ownersOfAll hl (F := F) e9) (fun v1 ev1 => ?_)
  refine ab_istore_n (pc := 4) (n := 2) (i := 2) (lv' := [(0, .ref x0), (1, .int x1), (2, .int v1.1)]) (by decide +kernel) rfl (Nat.le_of_ble_eq_true rfl) rfl rfl ?_
  refine ab_iconst (pc := 5) (n := 0) (v := nI 0) (by decide +kernel) rfl ?_
  refine ab_istore_n (pc := 6) (n := 3) (i := 3) (lv' := [(0, .ref x0), (1, .int x1), (2, .int v1.1), (3, .int (nI 0))]) (by decide +kernel) rfl (Nat.le_of_ble_eq_true rfl) rfl rfl ?_
  refine lX7_sureFace_7 hl F x0 x1 v1.1 F (nI 0) v1.2
set_option maxRecDepth 100000 in
set_option maxHeartbeats 4000000 in
theorem okX7_sureFace {l : Launch} (hl : l.stackTraces = false) {F : Nat} {x0 : Nat} {x1 : Int32} {h : ab_H} {y : (Int32 × ab_H)} (e : fX7_sureFace F x0 x1 h = some y) : ab_Met l mX7_sureFace [.ref x0, .int x1] h (.inl (some (.int y.1)), y.2) := ab_ofS (io := (fun y : (Int32 × ab_H) => ((.inl (some (.int y.1)), y.2) : ab_R × ab_H))) (x := y) hl (by decide) rfl (Nat.le_of_ble_eq_true rfl) (wX7_sureFace hl F x0 x1 h) e
def mX7_bestQuestion : ab_M := (yX7_bestQuestion, cX7_bestQuestion, 8, (some .int), { frames := 3, cells := 0, slots := 0, locals := 69 })
theorem iX7_bestQuestion : ab_MI mX7_bestQuestion 1 := ⟨kw_69a0e654aa, kw_7a4ae534b5, by decide +kernel⟩
theorem lk_X7_77 : ab_LS RX7 77 mJ9_max_7cf53 2 := ⟨iJ9_max_7cf53, kw_93956b9666, kw_cd9e564d81⟩
def fX7_bestQuestion_13 (F : Nat) (x0 : Nat) (x1 : Int32) (x2 : Int32) : Nat → Int32 → Int32 → Int32 → ab_H → Option (Int32 × ab_H)
  | 0, _, _, _, _ => none
  | n + 1, x3, x4, x5, h => ab_bd (ab_fi h x0 7 6) fun v2 => (if x5 < v2 then (if x2 < (nI 2) then some (x3, h) else ab_ck (ab_io h x0 7 = true) (ab_bd (fX7_ownersWith F x0 x1 x5 h) fun v5 => ab_bd (fJ9_max_7cf53 v5.1 (x2 - v5.1) v5.2) fun v6 => (if x3 = (-1 : Int32) then fX7_bestQuestion_13 F x0 x1 x2 n x5 v6 (x5 + nI 1) v5.2 else (if v6 < x4 then fX7_bestQuestion_13 F x0 x1 x2 n x5 v6 (x5 + nI 1) v5.2 else fX7_bestQuestion_13 F x0 x1 x2 n x3 x4 (x5 + nI 1) v5.2)))) else some (x3, h))
def fX7_bestQuestion (F : Nat) (x0 : Nat) (x1 : Int32) (h : ab_H) : Option (Int32 × ab_H) := ab_ck (ab_io h x0 7 = true) (ab_bd (fX7_ownersOfAll F x0 h) fun v1 => fX7_bestQuestion_13 F x0 x1 v1.1 F (-1 : Int32) v1.1 (nI 0) v1.2)
set_option maxRecDepth 100000 in
set_option maxHeartbeats 4000000 in
theorem lX7_bestQuestion_13 {l : Launch} (hl : l.stackTraces = false) (F : Nat) (x0 : Nat) (x1 : Int32) (x2 : Int32) : ∀ (n : Nat) (x3 : Int32) (x4 : Int32) (x5 : Int32) (h : ab_H), ab_S l mX7_bestQuestion (fun y : (Int32 × ab_H) => ((.inl (some (.int y.1)), y.2) : ab_R × ab_H)) 0 0 (fX7_bestQuestion_13 F x0 x1 x2 n x3 x4 x5 h) 13 [(0, .ref x0), (1, .int x1), (2, .int x2), (3, .int x3), (4, .int x4), (5, .int x5)] [] h := by
  intro n
  induction n with
  | zero =>
    intro x3 x4 x5 h
    exact ab_none
  | succ n ih =>
    intro x3 x4 x5 h
    rw [fX7_bestQuestion_13]
    refine ab_iload (pc := 13) (i := 5) (j := 5) (by decide +kernel) rfl ?_
    refine ab_aload_n (pc := 15) (n := 0) (i := 0) (j := 0) (by decide +kernel) rfl rfl ?_
    refine ab_getI (pc := 16) fl_X7_31_7 (by decide +kernel) (fun v2 ev2 => ?_)
    refine ab_icmp_ge (off := 53) (pc := 19) (tgt := 72) (by decide +kernel) (by decide) (fun g3 => ?_) (fun g3 => ?_)
    · refine ab_iload_n (pc := 22) (n := 2) (i := 2) (j := 2) (by decide +kernel) rfl rfl ?_
      refine ab_iconst (pc := 23) (n := 2) (v := nI 2) (by decide +kernel) rfl ?_
      refine ab_icmp_lt (off := 48) (pc := 24) (tgt := 72) (by decide +kernel) (by decide) (fun g4 => ?_) (fun g4 => ?_)
      · refine ab_iload_n (pc := 72) (n := 3) (i := 3) (j := 3) (by decide +kernel) rfl rfl ?_
        exact ab_iret (pc := 73) (by decide +kernel) rfl rfl (Nat.le_of_ble_eq_true rfl) (Nat.le_of_ble_eq_true rfl)
      · refine ab_aload_n (pc := 27) (n := 0) (i := 0) (j := 0) (by decide +kernel) rfl rfl ?_
        refine ab_iload_n (pc := 28) (n := 1) (i := 1) (j := 1) (by decide +kernel) rfl rfl ?_
        refine ab_iload (pc := 29) (i := 5) (j := 5) (by decide +kernel) rfl ?_
        refine ab_callVj (As := [.int x1, .int x5]) (st := []) (pc := 31) lk_X7_73_7 rfl rfl rfl (by decide) rfl (Nat.le_of_ble_eq_true rfl) (by decide +kernel) (fun y9 e9 => okX7_ownersWith hl (F := F) e9) (fun v5 ev5 => ?_)
        refine ab_istore (pc := 34) (i := 6) (lv' := [(0, .ref x0), (1, .int x1), (2, .int x2), (3, .int x3), (4, .int x4), (5, .int x5), (6, .int v5.1)]) (by decide +kernel) (Nat.le_of_ble_eq_true rfl) rfl rfl ?_
        refine ab_iload (pc := 36) (i := 6) (j := 6) (by decide +kernel) rfl ?_
        refine ab_iload_n (pc := 38) (n := 2) (i := 2) (j := 2) (by decide +kernel) rfl rfl ?_
        refine ab_iload (pc := 39) (i := 6) (j := 6) (by decide +kernel) rfl ?_
        refine ab_isub (pc := 41) (by decide +kernel) ?_
        refine ab_callSi (As := [.int v5.1, .int (x2 - v5.1)]) (st := []) (pc := 42) lk_X7_77 rfl rfl rfl (by decide) rfl (Nat.le_of_ble_eq_true rfl) (by decide +kernel) (fun y9 e9 => okJ9_max_7cf53 hl e9) (fun v6 ev6 => ?_)
        refine ab_istore (pc := 45) (i := 7) (lv' := [(0, .ref x0), (1, .int x1), (2, .int x2), (3, .int x3), (4, .int x4), (5, .int x5), (6, .int v5.1), (7, .int v6)]) (by decide +kernel) (Nat.le_of_ble_eq_true rfl) rfl rfl ?_
        refine ab_iload_n (pc := 47) (n := 3) (i := 3) (j := 3) (by decide +kernel) rfl rfl ?_
        refine ab_iconst (pc := 48) (n := -1) (v := (-1 : Int32)) (by decide +kernel) rfl ?_
        refine ab_icmp_eq (off := 10) (pc := 49) (tgt := 59) (by decide +kernel) (by decide) (fun g7 => ?_) (fun g7 => ?_)
        · refine ab_iload (pc := 59) (i := 5) (j := 5) (by decide +kernel) rfl ?_
          refine ab_istore_n (pc := 61) (n := 3) (i := 3) (lv' := [(0, .ref x0), (1, .int x1), (2, .int x2), (3, .int x5), (4, .int x4), (5, .int x5), (6, .int v5.1), (7, .int v6)]) (by decide +kernel) rfl (Nat.le_of_ble_eq_true rfl) rfl rfl ?_
          refine ab_iload (pc := 62) (i := 7) (j := 7) (by decide +kernel) rfl ?_
          refine ab_istore (pc := 64) (i := 4) (lv' := [(0, .ref x0), (1, .int x1), (2, .int x2), (3, .int x5), (4, .int v6), (5, .int x5), (6, .int v5.1), (7, .int v6)]) (by decide +kernel) (Nat.le_of_ble_eq_true rfl) rfl rfl ?_
          refine ab_iinc (pc := 66) (i := 5) (n := 1) (j := 5) (d := nI 1) (lv' := [(0, .ref x0), (1, .int x1), (2, .int x2), (3, .int x5), (4, .int v6), (5, .int (x5 + nI 1)), (6, .int v5.1), (7, .int v6)]) (by decide +kernel) rfl rfl (Nat.le_of_ble_eq_true rfl) rfl rfl ?_
          refine ab_goto (pc := 69) (off := (-56)) (tgt := 13) (by decide +kernel) (by decide) ?_
          refine ab_few [0, 1, 2, 3, 4, 5] (lv' := [(0, .ref x0), (1, .int x1), (2, .int x2), (3, .int x5), (4, .int v6), (5, .int (x5 + nI 1))]) rfl ?_
          exact ih x5 v6 (x5 + nI 1) v5.2
        · refine ab_iload (pc := 52) (i := 7) (j := 7) (by decide +kernel) rfl ?_
          refine ab_iload (pc := 54) (i := 4) (j := 4) (by decide +kernel) rfl ?_
          refine ab_icmp_ge (off := 10) (pc := 56) (tgt := 66) (by decide +kernel) (by decide) (fun g8 => ?_) (fun g8 => ?_)
          · refine ab_iload (pc := 59) (i := 5) (j := 5) (by decide +kernel) rfl ?_
            refine ab_istore_n (pc := 61) (n := 3) (i := 3) (lv' := [(0, .ref x0), (1, .int x1), (2, .int x2), (3, .int x5), (4, .int x4), (5, .int x5), (6, .int v5.1), (7, .int v6)]) (by decide +kernel) rfl (Nat.le_of_ble_eq_true rfl) rfl rfl ?_
            refine ab_iload (pc := 62) (i := 7) (j := 7) (by decide +kernel) rfl ?_
            refine ab_istore (pc := 64) (i := 4) (lv' := [(0, .ref x0), (1, .int x1), (2, .int x2), (3, .int x5), (4, .int v6), (5, .int x5), (6, .int v5.1), (7, .int v6)]) (by decide +kernel) (Nat.le_of_ble_eq_true rfl) rfl rfl ?_
            refine ab_iinc (pc := 66) (i := 5) (n := 1) (j := 5) (d := nI 1) (lv' := [(0, .ref x0), (1, .int x1), (2, .int x2), (3, .int x5), (4, .int v6), (5, .int (x5 + nI 1)), (6, .int v5.1), (7, .int v6)]) (by decide +kernel) rfl rfl (Nat.le_of_ble_eq_true rfl) rfl rfl ?_
            refine ab_goto (pc := 69) (off := (-56)) (tgt := 13) (by decide +kernel) (by decide) ?_
            refine ab_few [0, 1, 2, 3, 4, 5] (lv' := [(0, .ref x0), (1, .int x1), (2, .int x2), (3, .int x5), (4, .int v6), (5, .int (x5 + nI 1))]) rfl ?_
            exact ih x5 v6 (x5 + nI 1) v5.2
          · refine ab_iinc (pc := 66) (i := 5) (n := 1) (j := 5) (d := nI 1) (lv' := [(0, .ref x0), (1, .int x1), (2, .int x2), (3, .int x3), (4, .int x4), (5, .int (x5 + nI 1)), (6, .int v5.1), (7, .int v6)]) (by decide +kernel) rfl rfl (Nat.le_of_ble_eq_true rfl) rfl rfl ?_
            refine ab_goto (pc := 69) (off := (-56)) (tgt := 13) (by decide +kernel) (by decide) ?_
            refine ab_few [0, 1, 2, 3, 4, 5] (lv' := [(0, .ref x0), (1, .int x1), (2, .int x2), (3, .int x3), (4, .int x4), (5, .int (x5 + nI 1))]) rfl ?_
            exact ih x3 x4 (x5 + nI 1) v5.2
    · refine ab_iload_n (pc := 72) (n := 3) (i := 3) (j := 3) (by decide +kernel) rfl rfl ?_
      exact ab_iret (pc := 73) (by decide +kernel) rfl rfl (Nat.le_of_ble_eq_true rfl) (Nat.le_of_ble_eq_true rfl)
set_option maxRecDepth 100000 in
set_option maxHeartbeats 4000000 in
theorem wX7_bestQuestion {l : Launch} (hl : l.stackTraces = false) (F : Nat) (x0 : Nat) (x1 : Int32) (h : ab_H) : ab_S l mX7_bestQuestion (fun y : (Int32 × ab_H) => ((.inl (some (.int y.1)), y.2) : ab_R × ab_H)) 0 0 (fX7_bestQuestion F x0 x1 h) 0 [(0, .ref x0), (1, .int x1)] [] h := by
  unfold fX7_bestQuestion
  refine ab_aload_n (pc := 0) (n := 0) (i := 0) (j := 0) (by decide +kernel) rfl rfl ?_
  refine ab_callVj (As := []) (st := []) (pc := 1) lk_X7_70_7 rfl rfl rfl (by decide) rfl (Nat.le_of_ble_eq_true rfl) (by decide +kernel) (fun y9 e9 => okX7_ownersOfAll hl (F := F) e9) (fun v1 ev1 => ?_)
  refine ab_istore_n (pc := 4) (n := 2) (i := 2) (lv' := [(0, .ref x0), (1, .int x1), (2, .int v1.1)]) (by decide +kernel) rfl (Nat.le_of_ble_eq_true rfl) rfl rfl ?_
  refine ab_iconst (pc := 5) (n := -1) (v := (-1 : Int32)) (by decide +kernel) rfl ?_
  refine ab_istore_n (pc := 6) (n := 3) (i := 3) (lv' := [(0, .ref x0), (1, .int x1), (2, .int v1.1), (3, .int (-1 : Int32))]) (by decide +kernel) rfl (Nat.le_of_ble_eq_true rfl) rfl rfl ?_
  refine ab_iload_n (pc := 7) (n := 2) (i := 2) (j := 2) (by decide +kernel) rfl rfl ?_
  refine ab_istore (pc := 8) (i := 4) (lv' := [(0, .ref x0), (1, .int x1), (2, .int v1.1), (3, .int (-1 : Int32)), (4, .int v1.1)]) (by decide +kernel) (Nat.le_of_ble_eq_true rfl) rfl rfl ?_
  refine ab_iconst (pc := 10) (n := 0) (v := nI 0) (by decide +kernel) rfl ?_
  refine ab_istore (pc := 11) (i := 5) (lv' := [(0, .ref x0), (1, .int x1), (2, .int v1.1), (3, .int (-1 : Int32)), (4, .int v1.1), (5, .int (nI 0))]) (by decide +kernel) (Nat.le_of_ble_eq_true rfl) rfl rfl ?_
  refine lX7_bestQuestion_13 hl F x0 x1 v1.1 F (-1 : Int32) v1.1 (nI 0) v1.2
set_option maxRecDepth 100000 in
set_option maxHeartbeats 4000000 in
theorem okX7_bestQuestion {l : Launch} (hl : l.stackTraces = false) {F : Nat} {x0 : Nat} {x1 : Int32} {h : ab_H} {y : (Int32 × ab_H)} (e : fX7_bestQuestion F x0 x1 h = some y) : ab_Met l mX7_bestQuestion [.ref x0, .int x1] h (.inl (some (.int y.1)), y.2) := ab_ofS (io := (fun y : (Int32 × ab_H) => ((.inl (some (.int y.1)), y.2) : ab_R × ab_H))) (x := y) hl (by decide) rfl (Nat.le_of_ble_eq_true rfl) (wX7_bestQuestion hl F x0 x1 h) e
def mX7_fewestApart : ab_M := (yX7_fewestApart, cX7_fewestApart, 4, (some .int), { frames := 14, cells := 0, slots := 0, locals := 319 })
theorem iX7_fewestApart : ab_MI mX7_fewestApart 0 := ⟨kw_24b7b03e98, kw_7a4ae534b5, by decide +kernel⟩
theorem lk_X7_82_7 : ab_LV RX7 82 7 mX7_canBe 1 := ⟨RX7, rfl, iX7_canBe, kw_8f8a6e2379, kw_ce7f072502, kw_87f53e0eec⟩
def fX7_fewestApart_23 (F : Nat) (x0 : Nat) (x1 : Int32) : Nat → Int32 → Int32 → ab_H → Option (Int32 × ab_H)
  | 0, _, _, _ => none
  | n + 1, x2, x3, h => (if x3 ≤ x1 then ab_bd (fX11_isFewer x3 x2 h) fun v5 => (if v5 = 0 then fX7_fewestApart_23 F x0 x1 n x2 (x3 + nI 1) h else ab_ck (ab_io h x0 7 = true) (ab_bd (fX7_canBe F x0 x3 h) fun v7 => (if v7.1 = 0 then fX7_fewestApart_23 F x0 x1 n x3 (x3 + nI 1) v7.2 else fX7_fewestApart_23 F x0 x1 n x2 (x3 + nI 1) v7.2))) else some (x2, h))
def fX7_fewestApart (F : Nat) (x0 : Nat) (h : ab_H) : Option (Int32 × ab_H) := ab_bd (ab_fi h x0 7 7) fun v1 => ab_ck (ab_io h x0 7 = true) (ab_bd (fX7_canBe F x0 (((nI 1) <<< (v1 &&& 31)) - (nI 1)) h) fun v2 => (if v2.1 = 0 then fX7_fewestApart_23 F x0 (((nI 1) <<< (v1 &&& 31)) - (nI 1)) F (-1 : Int32) (nI 1) v2.2 else some (nI 0, v2.2)))
set_option maxRecDepth 100000 in
set_option maxHeartbeats 4000000 in
theorem lX7_fewestApart_23 {l : Launch} (hl : l.stackTraces = false) (F : Nat) (x0 : Nat) (x1 : Int32) : ∀ (n : Nat) (x2 : Int32) (x3 : Int32) (h : ab_H), ab_S l mX7_fewestApart (fun y : (Int32 × ab_H) => ((.inl (some (.int y.1)), y.2) : ab_R × ab_H)) 0 0 (fX7_fewestApart_23 F x0 x1 n x2 x3 h) 23 [(0, .ref x0), (1, .int x1), (2, .int x2), (3, .int x3)] [] h := by
  intro n
  induction n with
  | zero =>
    intro x2 x3 h
    exact ab_none
  | succ n ih =>
    intro x2 x3 h
    rw [fX7_fewestApart_23]
    refine ab_iload_n (pc := 23) (n := 3) (i := 3) (j := 3) (by decide +kernel) rfl rfl ?_
    refine ab_iload_n (pc := 24) (n := 1) (i := 1) (j := 1) (by decide +kernel) rfl rfl ?_
    refine ab_icmp_gt (off := 27) (pc := 25) (tgt := 52) (by decide +kernel) (by decide) (fun g4 => ?_) (fun g4 => ?_)
    · refine ab_iload_n (pc := 28) (n := 3) (i := 3) (j := 3) (by decide +kernel) rfl rfl ?_
      refine ab_iload_n (pc := 29) (n := 2) (i := 2) (j := 2) (by decide +kernel) rfl rfl ?_
      refine ab_callNi (As := [.int x3, .int x2]) (st := []) (pc := 30) (index := 86) (host := "HungFaces") iX11_isFewer (by show (RX7, 86, yX11_isFewer, "HungFaces") ∈ ab_nm; decide +kernel) kw_785778782c rfl rfl rfl (by decide) rfl (Nat.le_of_ble_eq_true rfl) (by decide +kernel) (fun y9 e9 => okX11_isFewer hl e9) (fun v5 ev5 => ?_)
      refine ab_if_eq (off := 13) (pc := 33) (tgt := 46) (by decide +kernel) (by decide) (fun g6 => ?_) (fun g6 => ?_)
      · refine ab_iinc (pc := 46) (i := 3) (n := 1) (j := 3) (d := nI 1) (lv' := [(0, .ref x0), (1, .int x1), (2, .int x2), (3, .int (x3 + nI 1))]) (by decide +kernel) rfl rfl (Nat.le_of_ble_eq_true rfl) rfl rfl ?_
        refine ab_goto (pc := 49) (off := (-26)) (tgt := 23) (by decide +kernel) (by decide) ?_
        exact ih x2 (x3 + nI 1) h
      · refine ab_aload_n (pc := 36) (n := 0) (i := 0) (j := 0) (by decide +kernel) rfl rfl ?_
        refine ab_iload_n (pc := 37) (n := 3) (i := 3) (j := 3) (by decide +kernel) rfl rfl ?_
        refine ab_callVj (As := [.int x3]) (st := []) (pc := 38) lk_X7_82_7 rfl rfl rfl (by decide) rfl (Nat.le_of_ble_eq_true rfl) (by decide +kernel) (fun y9 e9 => okX7_canBe hl (F := F) e9) (fun v7 ev7 => ?_)
        refine ab_if_ne (off := 5) (pc := 41) (tgt := 46) (by decide +kernel) (by decide) (fun g8 => ?_) (fun g8 => ?_)
        · refine ab_iload_n (pc := 44) (n := 3) (i := 3) (j := 3) (by decide +kernel) rfl rfl ?_
          refine ab_istore_n (pc := 45) (n := 2) (i := 2) (lv' := [(0, .ref x0), (1, .int x1), (2, .int x3), (3, .int x3)]) (by decide +kernel) rfl (Nat.le_of_ble_eq_true rfl) rfl rfl ?_
          refine ab_iinc (pc := 46) (i := 3) (n := 1) (j := 3) (d := nI 1) (lv' := [(0, .ref x0), (1, .int x1), (2, .int x3), (3, .int (x3 + nI 1))]) (by decide +kernel) rfl rfl (Nat.le_of_ble_eq_true rfl) rfl rfl ?_
          refine ab_goto (pc := 49) (off := (-26)) (tgt := 23) (by decide +kernel) (by decide) ?_
          exact ih x3 (x3 + nI 1) v7.2
        · refine ab_iinc (pc := 46) (i := 3) (n := 1) (j := 3) (d := nI 1) (lv' := [(0, .ref x0), (1, .int x1), (2, .int x2), (3, .int (x3 + nI 1))]) (by decide +kernel) rfl rfl (Nat.le_of_ble_eq_true rfl) rfl rfl ?_
          refine ab_goto (pc := 49) (off := (-26)) (tgt := 23) (by decide +kernel) (by decide) ?_
          exact ih x2 (x3 + nI 1) v7.2
    · refine ab_iload_n (pc := 52) (n := 2) (i := 2) (j := 2) (by decide +kernel) rfl rfl ?_
      exact ab_iret (pc := 53) (by decide +kernel) rfl rfl (Nat.le_of_ble_eq_true rfl) (Nat.le_of_ble_eq_true rfl)
set_option maxRecDepth 100000 in
set_option maxHeartbeats 4000000 in
theorem wX7_fewestApart {l : Launch} (hl : l.stackTraces = false) (F : Nat) (x0 : Nat) (h : ab_H) : ab_S l mX7_fewestApart (fun y : (Int32 × ab_H) => ((.inl (some (.int y.1)), y.2) : ab_R × ab_H)) 0 0 (fX7_fewestApart F x0 h) 0 [(0, .ref x0)] [] h := by
  unfold fX7_fewestApart
  refine ab_iconst (pc := 0) (n := 1) (v := nI 1) (by decide +kernel) rfl ?_
  refine ab_aload_n (pc := 1) (n := 0) (i := 0) (j := 0) (by decide +kernel) rfl rfl ?_
  refine ab_getI (pc := 2) fl_X7_35_7 (by decide +kernel) (fun v1 ev1 => ?_)
  refine ab_ishl (pc := 5) (by decide +kernel) ?_
  refine ab_iconst (pc := 6) (n := 1) (v := nI 1) (by decide +kernel) rfl ?_
  refine ab_isub (pc := 7) (by decide +kernel) ?_
  refine ab_istore_n (pc := 8) (n := 1) (i := 1) (lv' := [(0, .ref x0), (1, .int (((nI 1) <<< (v1 &&& 31)) - (nI 1)))]) (by decide +kernel) rfl (Nat.le_of_ble_eq_true rfl) rfl rfl ?_
  refine ab_aload_n (pc := 9) (n := 0) (i := 0) (j := 0) (by decide +kernel) rfl rfl ?_
  refine ab_iload_n (pc := 10) (n := 1) (i := 1) (j := 1) (by decide +kernel) rfl rfl ?_
  refine ab_callVj (As := [.int (((nI 1) <<< (v1 &&& 31)) - (nI 1))]) (st := []) (pc := 11) lk_X7_82_7 rfl rfl rfl (by decide) rfl (Nat.le_of_ble_eq_true rfl) (by decide +kernel) (fun y9 e9 => okX7_canBe hl (F := F) e9) (fun v2 ev2 => ?_)
  refine ab_if_eq (off := 5) (pc := 14) (tgt := 19) (by decide +kernel) (by decide) (fun g3 => ?_) (fun g3 => ?_)
  · refine ab_iconst (pc := 19) (n := -1) (v := (-1 : Int32)) (by decide +kernel) rfl ?_
    refine ab_istore_n (pc := 20) (n := 2) (i := 2) (lv' := [(0, .ref x0), (1, .int (((nI 1) <<< (v1 &&& 31)) - (nI 1))), (2, .int (-1 : Int32))]) (by decide +kernel) rfl (Nat.le_of_ble_eq_true rfl) rfl rfl ?_
    refine ab_iconst (pc := 21) (n := 1) (v := nI 1) (by decide +kernel) rfl ?_
    refine ab_istore_n (pc := 22) (n := 3) (i := 3) (lv' := [(0, .ref x0), (1, .int (((nI 1) <<< (v1 &&& 31)) - (nI 1))), (2, .int (-1 : Int32)), (3, .int (nI 1))]) (by decide +kernel) rfl (Nat.le_of_ble_eq_true rfl) rfl rfl ?_
    refine lX7_fewestApart_23 hl F x0 (((nI 1) <<< (v1 &&& 31)) - (nI 1)) F (-1 : Int32) (nI 1) v2.2
  · refine ab_iconst (pc := 17) (n := 0) (v := nI 0) (by decide +kernel) rfl ?_
    exact ab_iret (pc := 18) (by decide +kernel) rfl rfl (Nat.le_of_ble_eq_true rfl) (Nat.le_of_ble_eq_true rfl)
set_option maxRecDepth 100000 in
set_option maxHeartbeats 4000000 in
theorem okX7_fewestApart {l : Launch} (hl : l.stackTraces = false) {F : Nat} {x0 : Nat} {h : ab_H} {y : (Int32 × ab_H)} (e : fX7_fewestApart F x0 h = some y) : ab_Met l mX7_fewestApart [.ref x0] h (.inl (some (.int y.1)), y.2) := ab_ofS (io := (fun y : (Int32 × ab_H) => ((.inl (some (.int y.1)), y.2) : ab_R × ab_H))) (x := y) hl (by decide) rfl (Nat.le_of_ble_eq_true rfl) (wX7_fewestApart hl F x0 h) e
def mX8_addPerson : ab_M := (yX8_addPerson, cX8_addPerson, 5, none, { frames := 2, cells := 0, slots := 0, locals := 47 })
theorem iX8_addPerson : ab_MI mX8_addPerson 2 := ⟨kw_ac8b4ac544, kw_a869362287, by decide +kernel⟩
theorem lk_X8_92_8 : ab_LV RX8 92 8 mX8_setWishes 3 := ⟨RX8, rfl, iX8_setWishes, kw_b19f60fcc2, kw_b37458f022, kw_c712b47560⟩
def fX8_addPerson_46 (F : Nat) (x0 : Nat) (x3 : Int32) (k71 : ab_H → Option ab_H) : Nat → Int32 → ab_H → Option ab_H
  | 0, _, _ => none
  | n + 1, x4, h => (if x4 < x3 then ab_bd (ab_fr h x0 8 16) fun v12 => ab_bd (ab_iw 0 h v12 ((x4 * (nI 10)) + x3) x3) fun h13 => fX8_addPerson_46 F x0 x3 k71 n (x4 + nI 1) h13 else k71 h)
def fX8_addPerson (F : Nat) (x0 : Nat) (x1 : Int32) (x2 : Int32) (h : ab_H) : Option ab_H := ab_bd (ab_fi h x0 8 0) fun v1 => (if v1 < (nI 10) then ab_bd (ab_fi h x0 8 0) fun v3 => ab_bd (ab_fw h x0 8 0 (.int (v3 + (nI 1)))) fun h4 => ab_bd (ab_fr h4 x0 8 9) fun v5 => ab_bd (ab_iw 0 h4 v5 v1 x1) fun h6 => ab_bd (ab_fr h6 x0 8 10) fun v7 => ab_bd (ab_iw 0 h6 v7 v1 x2) fun h8 => ab_bd (ab_fr h8 x0 8 11) fun v9 => ab_bd (ab_iw 0 h8 v9 v1 v1) fun h10 => fX8_addPerson_46 F x0 v1 (fun (h14 : ab_H) => ab_bd (ab_fr h14 x0 8 16) fun v15 => ab_ck (ab_io h14 x0 8 = true) (ab_bd (fX8_setWishes F x0 v1 v15 (nI 0) h14) fun h16 => some h16)) F (nI 0) h10 else some h)
set_option maxRecDepth 100000 in
set_option maxHeartbeats 4000000 in
theorem lX8_addPerson_46 {l : Launch} (hl : l.stackTraces = false) (F : Nat) (x0 : Nat) (x3 : Int32) {k71 : ab_H → Option ab_H} (hk71 : ∀ (h : ab_H), ab_S l mX8_addPerson (fun y : ab_H => ((.inl none, y) : ab_R × ab_H)) 0 0 (k71 h) 71 [(0, .ref x0), (3, .int x3)] [] h) : ∀ (n : Nat) (x4 : Int32) (h : ab_H), ab_S l mX8_addPerson (fun y : ab_H => ((.inl none, y) : ab_R × ab_H)) 0 0 (fX8_addPerson_46 F x0 x3 k71 n x4 h) 46 [(0, .ref x0), (3, .int x3), (4, .int x4)] [] h := by
  intro n
  induction n with
  | zero =>
    intro x4 h
    exact ab_none
  | succ n ih =>
    intro x4 h
    rw [fX8_addPerson_46]
    refine ab_iload (pc := 46) (i := 4) (j := 2) (by decide +kernel) rfl ?_
    refine ab_iload_n (pc := 48) (n := 3) (i := 3) (j := 1) (by decide +kernel) rfl rfl ?_
    refine ab_icmp_ge (off := 22) (pc := 49) (tgt := 71) (by decide +kernel) (by decide) (fun g11 => ?_) (fun g11 => ?_)
    · refine ab_aload_n (pc := 52) (n := 0) (i := 0) (j := 0) (by decide +kernel) rfl rfl ?_
      refine ab_getR (pc := 53) fl_X8_47_8 (by decide +kernel) (fun v12 ev12 => ?_)
      refine ab_iload (pc := 56) (i := 4) (j := 2) (by decide +kernel) rfl ?_
      refine ab_bipush (pc := 58) (n := 10) (v := nI 10) (by decide +kernel) (by decide) ?_
      refine ab_imul (pc := 60) (by decide +kernel) ?_
      refine ab_iload_n (pc := 61) (n := 3) (i := 3) (j := 1) (by decide +kernel) rfl rfl ?_
      refine ab_iadd (pc := 62) (by decide +kernel) ?_
      refine ab_iload_n (pc := 63) (n := 3) (i := 3) (j := 1) (by decide +kernel) rfl rfl ?_
      refine ab_iast (pc := 64) (by decide +kernel) (fun h13 eh13 => ?_)
      refine ab_iinc (pc := 65) (i := 4) (n := 1) (j := 2) (d := nI 1) (lv' := [(0, .ref x0), (3, .int x3), (4, .int (x4 + nI 1))]) (by decide +kernel) rfl rfl (Nat.le_of_ble_eq_true rfl) rfl rfl ?_
      refine ab_goto (pc := 68) (off := (-22)) (tgt := 46) (by decide +kernel) (by decide) ?_
      exact ih (x4 + nI 1) h13
    · refine ab_few [0, 1] (lv' := [(0, .ref x0), (3, .int x3)]) rfl ?_
      exact hk71 h
set_option maxRecDepth 100000 in
set_option maxHeartbeats 4000000 in
theorem wX8_addPerson {l : Launch} (hl : l.stackTraces = false) (F : Nat) (x0 : Nat) (x1 : Int32) (x2 : Int32) (h : ab_H) : ab_S l mX8_addPerson (fun y : ab_H => ((.inl none, y) : ab_R × ab_H)) 0 0 (fX8_addPerson F x0 x1 x2 h) 0 [(0, .ref x0), (1, .int x1), (2, .int x2)] [] h := by
  unfold fX8_addPerson
  refine ab_aload_n (pc := 0) (n := 0) (i := 0) (j := 0) (by decide +kernel) rfl rfl ?_
  refine ab_getI (pc := 1) fl_X8_63_8 (by decide +kernel) (fun v1 ev1 => ?_)
  refine ab_istore_n (pc := 4) (n := 3) (i := 3) (lv' := [(0, .ref x0), (1, .int x1), (2, .int x2), (3, .int v1)]) (by decide +kernel) rfl (Nat.le_of_ble_eq_true rfl) rfl rfl ?_
  refine ab_iload_n (pc := 5) (n := 3) (i := 3) (j := 3) (by decide +kernel) rfl rfl ?_
  refine ab_bipush (pc := 6) (n := 10) (v := nI 10) (by decide +kernel) (by decide) ?_
  refine ab_icmp_lt (off := 4) (pc := 8) (tgt := 12) (by decide +kernel) (by decide) (fun g2 => ?_) (fun g2 => ?_)
  · refine ab_aload_n (pc := 12) (n := 0) (i := 0) (j := 0) (by decide +kernel) rfl rfl ?_
    refine ab_dup (pc := 13) (by decide +kernel) rfl ?_
    refine ab_getI (pc := 14) fl_X8_63_8 (by decide +kernel) (fun v3 ev3 => ?_)
    refine ab_iconst (pc := 17) (n := 1) (v := nI 1) (by decide +kernel) rfl ?_
    refine ab_iadd (pc := 18) (by decide +kernel) ?_
    refine ab_put (pc := 19) fl_X8_63_8 rfl (fun _ => rfl) (fun _ => rfl) (by decide +kernel) (fun h4 eh4 => ?_)
    refine ab_aload_n (pc := 22) (n := 0) (i := 0) (j := 0) (by decide +kernel) rfl rfl ?_
    refine ab_getR (pc := 23) fl_X8_25_8 (by decide +kernel) (fun v5 ev5 => ?_)
    refine ab_iload_n (pc := 26) (n := 3) (i := 3) (j := 3) (by decide +kernel) rfl rfl ?_
    refine ab_iload_n (pc := 27) (n := 1) (i := 1) (j := 1) (by decide +kernel) rfl rfl ?_
    refine ab_iast (pc := 28) (by decide +kernel) (fun h6 eh6 => ?_)
    refine ab_aload_n (pc := 29) (n := 0) (i := 0) (j := 0) (by decide +kernel) rfl rfl ?_
    refine ab_getR (pc := 30) fl_X8_29_8 (by decide +kernel) (fun v7 ev7 => ?_)
    refine ab_iload_n (pc := 33) (n := 3) (i := 3) (j := 3) (by decide +kernel) rfl rfl ?_
    refine ab_iload_n (pc := 34) (n := 2) (i := 2) (j := 2) (by decide +kernel) rfl rfl ?_
    refine ab_iast (pc := 35) (by decide +kernel) (fun h8 eh8 => ?_)
    refine ab_aload_n (pc := 36) (n := 0) (i := 0) (j := 0) (by decide +kernel) rfl rfl ?_
    refine ab_getR (pc := 37) fl_X8_32_8 (by decide +kernel) (fun v9 ev9 => ?_)
    refine ab_iload_n (pc := 40) (n := 3) (i := 3) (j := 3) (by decide +kernel) rfl rfl ?_
    refine ab_iload_n (pc := 41) (n := 3) (i := 3) (j := 3) (by decide +kernel) rfl rfl ?_
    refine ab_iast (pc := 42) (by decide +kernel) (fun h10 eh10 => ?_)
    refine ab_iconst (pc := 43) (n := 0) (v := nI 0) (by decide +kernel) rfl ?_
    refine ab_istore (pc := 44) (i := 4) (lv' := [(0, .ref x0), (1, .int x1), (2, .int x2), (3, .int v1), (4, .int (nI 0))]) (by decide +kernel) (Nat.le_of_ble_eq_true rfl) rfl rfl ?_
    refine ab_few [0, 3, 4] (lv' := [(0, .ref x0), (3, .int v1), (4, .int (nI 0))]) rfl ?_
    refine lX8_addPerson_46 hl F x0 v1 ?_ F (nI 0) h10
    intro h14
    refine ab_aload_n (pc := 71) (n := 0) (i := 0) (j := 0) (by decide +kernel) rfl rfl ?_
    refine ab_iload_n (pc := 72) (n := 3) (i := 3) (j := 1) (by decide +kernel) rfl rfl ?_
    refine ab_aload_n (pc := 73) (n := 0) (i := 0) (j := 0) (by decide +kernel) rfl rfl ?_
    refine ab_getR (pc := 74) fl_X8_47_8 (by decide +kernel) (fun v15 ev15 => ?_)
    refine ab_iconst (pc := 77) (n := 0) (v := nI 0) (by decide +kernel) rfl ?_
    refine ab_callVw (As := [.int v1, .ref v15, .int (nI 0)]) (st := []) (pc := 78) lk_X8_92_8 rfl rfl rfl (by decide) rfl (Nat.le_of_ble_eq_true rfl) (by decide +kernel) (fun y9 e9 => okX8_setWishes hl (F := F) e9) (fun h16 eh16 => ?_)
    exact ab_vret (pc := 81) (by decide +kernel) rfl rfl (Nat.le_of_ble_eq_true rfl) (Nat.le_of_ble_eq_true rfl)
  · exact ab_vret (pc := 11) (by decide +kernel) rfl rfl (Nat.le_of_ble_eq_true rfl) (Nat.le_of_ble_eq_true rfl)
set_option maxRecDepth 100000 in
set_option maxHeartbeats 4000000 in
theorem okX8_addPerson {l : Launch} (hl : l.stackTraces = false) {F : Nat} {x0 : Nat} {x1 : Int32} {x2 : Int32} {h : ab_H} {y : ab_H} (e : fX8_addPerson F x0 x1 x2 h = some y) : ab_Met l mX8_addPerson [.ref x0, .int x1, .int x2] h (.inl none, y) := ab_ofS (io := (fun y : ab_H => ((.inl none, y) : ab_R × ab_H))) (x := y) hl (by decide) rfl (Nat.le_of_ble_eq_true rfl) (wX8_addPerson hl F x0 x1 x2 h) e
def mX8_takesTurn : ab_M := (yX8_takesTurn, cX8_takesTurn, 5, (some .boolean), { frames := 3, cells := 0, slots := 0, locals := 71 })
theorem iX8_takesTurn : ab_MI mX8_takesTurn 1 := ⟨kw_e968f7651e, kw_a869362287, by decide +kernel⟩
theorem lk_X8_136_8 : ab_LV RX8 136 8 mX8_leastFreeHook 0 := ⟨RX8, rfl, iX8_leastFreeHook, kw_32e31f8a1a, kw_71aced3ed6, kw_97ec2e7b36⟩
theorem lk_X8_139_2 : ab_LV RX8 139 2 mX2_allows 3 := ⟨RX2, rfl, iX2_allows, kw_2b301b5694, kw_a192b876ee, kw_12c2fceaeb⟩
theorem lk_X8_145_8 : ab_LV RX8 145 8 mX8_handIn 2 := ⟨RX8, rfl, iX8_handIn, kw_71d729c40d, kw_843df95416, kw_13e1f6c47d⟩
theorem lk_X8_148_8 : ab_LV RX8 148 8 mX8_fetchBy 1 := ⟨RX8, rfl, iX8_fetchBy, kw_4aaaa1db28, kw_766dbb3dff, kw_72a35fa1f0⟩
def fX8_takesTurn (F : Nat) (x0 : Nat) (x1 : Int32) (h : ab_H) : Option (Int32 × ab_H) := ab_bd (ab_fr h x0 8 11) fun v1 => ab_bd (ab_ia 0 h v1 x1) fun v2 => ab_jn (κ := Int32 → Option (Int32 × ab_H)) (fun (z3 : Int32) => ab_bd (ab_fr h x0 8 12) fun v4 => ab_bd (ab_ia 0 h v4 x1) fun v5 => ab_jn (κ := Int32 → Option (Int32 × ab_H)) (fun (z6 : Int32) => ab_jn (κ := Option (Int32 × ab_H)) ((if z3 = 0 then some (nI 0, h) else (if z6 = 0 then some (nI 0, h) else ab_bd (ab_fr h x0 8 7) fun v9 => ab_ck (ab_io h v9 2 = true) (ab_bd (fX2_allows F v9 x0 x1 (nI 1008) h) fun v10 => (if v10.1 = 0 then some (nI 0, v10.2) else ab_ck (ab_io v10.2 x0 8 = true) (ab_bd (fX8_fetchBy x0 x1 v10.2) fun v12 => some (nI 1, v12.2))))))) fun j13 => (if z3 = 0 then (if z6 = 0 then ab_ck (ab_io h x0 8 = true) (ab_bd (fX8_leastFreeHook F x0 h) fun v16 => (if v16 = (-1 : Int32) then some (nI 0, h) else ab_bd (ab_fr h x0 8 7) fun v18 => ab_ck (ab_io h v18 2 = true) (ab_bd (fX2_allows F v18 x0 x1 (nI 1007) h) fun v19 => (if v19.1 = 0 then some (nI 0, v19.2) else ab_ck (ab_io v19.2 x0 8 = true) (ab_bd (fX8_handIn x0 x1 v16 v19.2) fun v21 => some (nI 1, v21.2)))))) else j13) else j13)) fun j22 => (if v5 = (-1 : Int32) then j22 (nI 0) else j22 (nI 1))) fun j24 => (if v2 = (-1 : Int32) then j24 (nI 1) else j24 (nI 0))
set_option maxRecDepth 100000 in
set_option maxHeartbeats 4000000 in
theorem wX8_takesTurn {l : Launch} (hl : l.stackTraces = false) (F : Nat) (x0 : Nat) (x1 : Int32) (h : ab_H) : ab_S l mX8_takesTurn (fun y : (Int32 × ab_H) => ((.inl (some (.int y.1)), y.2) : ab_R × ab_H)) 0 0 (fX8_takesTurn F x0 x1 h) 0 [(0, .ref x0), (1, .int x1)] [] h := by
  unfold fX8_takesTurn
  refine ab_aload_n (pc := 0) (n := 0) (i := 0) (j := 0) (by decide +kernel) rfl rfl ?_
  refine ab_getR (pc := 1) fl_X8_32_8 (by decide +kernel) (fun v1 ev1 => ?_)
  refine ab_iload_n (pc := 4) (n := 1) (i := 1) (j := 1) (by decide +kernel) rfl rfl ?_
  refine ab_iald (pc := 5) (by decide +kernel) (fun v2 ev2 => ?_)
  refine ab_iconst (pc := 6) (n := -1) (v := (-1 : Int32)) (by decide +kernel) rfl ?_
  refine ab_jr (fun k9 : Int32 → Option (Int32 × ab_H) => ∀ (z3 : Int32), ab_S l mX8_takesTurn (fun y : (Int32 × ab_H) => ((.inl (some (.int y.1)), y.2) : ab_R × ab_H)) 0 0 (k9 z3) 15 [(0, .ref x0), (1, .int x1)] [.int z3] h) ?_ (fun j24 hj24 => ?_)
  · intro z3
    refine ab_istore_n (pc := 15) (n := 2) (i := 2) (lv' := [(0, .ref x0), (1, .int x1), (2, .int z3)]) (by decide +kernel) rfl (Nat.le_of_ble_eq_true rfl) rfl rfl ?_
    refine ab_aload_n (pc := 16) (n := 0) (i := 0) (j := 0) (by decide +kernel) rfl rfl ?_
    refine ab_getR (pc := 17) fl_X8_35_8 (by decide +kernel) (fun v4 ev4 => ?_)
    refine ab_iload_n (pc := 20) (n := 1) (i := 1) (j := 1) (by decide +kernel) rfl rfl ?_
    refine ab_iald (pc := 21) (by decide +kernel) (fun v5 ev5 => ?_)
    refine ab_iconst (pc := 22) (n := -1) (v := (-1 : Int32)) (by decide +kernel) rfl ?_
    refine ab_jr (fun k9 : Int32 → Option (Int32 × ab_H) => ∀ (z6 : Int32), ab_S l mX8_takesTurn (fun y : (Int32 × ab_H) => ((.inl (some (.int y.1)), y.2) : ab_R × ab_H)) 0 0 (k9 z6) 31 [(0, .ref x0), (1, .int x1), (2, .int z3)] [.int z6] h) ?_ (fun j22 hj22 => ?_)
    · intro z6
      refine ab_istore_n (pc := 31) (n := 3) (i := 3) (lv' := [(0, .ref x0), (1, .int x1), (2, .int z3), (3, .int z6)]) (by decide +kernel) rfl (Nat.le_of_ble_eq_true rfl) rfl rfl ?_
      refine ab_iload_n (pc := 32) (n := 2) (i := 2) (j := 2) (by decide +kernel) rfl rfl ?_
      refine ab_jr (fun k9 : Option (Int32 × ab_H) => ab_S l mX8_takesTurn (fun y : (Int32 × ab_H) => ((.inl (some (.int y.1)), y.2) : ab_R × ab_H)) 0 0 (k9) 80 [(0, .ref x0), (1, .int x1), (2, .int z3), (3, .int z6)] [] h) ?_ (fun j13 hj13 => ?_)
      · refine ab_iload_n (pc := 80) (n := 2) (i := 2) (j := 2) (by decide +kernel) rfl rfl ?_
        refine ab_if_eq (off := 30) (pc := 81) (tgt := 111) (by decide +kernel) (by decide) (fun g7 => ?_) (fun g7 => ?_)
        · refine ab_iconst (pc := 111) (n := 0) (v := nI 0) (by decide +kernel) rfl ?_
          exact ab_zret (pc := 112) (by decide +kernel) rfl ab_bl0.1 rfl (Nat.le_of_ble_eq_true rfl) (Nat.le_of_ble_eq_true rfl)
        · refine ab_iload_n (pc := 84) (n := 3) (i := 3) (j := 3) (by decide +kernel) rfl rfl ?_
          refine ab_if_eq (off := 26) (pc := 85) (tgt := 111) (by decide +kernel) (by decide) (fun g8 => ?_) (fun g8 => ?_)
          · refine ab_iconst (pc := 111) (n := 0) (v := nI 0) (by decide +kernel) rfl ?_
            exact ab_zret (pc := 112) (by decide +kernel) rfl ab_bl0.1 rfl (Nat.le_of_ble_eq_true rfl) (Nat.le_of_ble_eq_true rfl)
          · refine ab_aload_n (pc := 88) (n := 0) (i := 0) (j := 0) (by decide +kernel) rfl rfl ?_
            refine ab_getR (pc := 89) fl_X8_53_8 (by decide +kernel) (fun v9 ev9 => ?_)
            refine ab_aload_n (pc := 92) (n := 0) (i := 0) (j := 0) (by decide +kernel) rfl rfl ?_
            refine ab_iload_n (pc := 93) (n := 1) (i := 1) (j := 1) (by decide +kernel) rfl rfl ?_
            refine ab_sipush (pc := 94) (n := 1008) (v := nI 1008) (by decide +kernel) (by decide) ?_
            refine ab_callVj (As := [.ref x0, .int x1, .int (nI 1008)]) (st := []) (pc := 97) lk_X8_139_2 rfl rfl rfl (by decide) rfl (Nat.le_of_ble_eq_true rfl) (by decide +kernel) (fun y9 e9 => okX2_allows hl (F := F) e9) (fun v10 ev10 => ?_)
            refine ab_if_eq (off := 11) (pc := 100) (tgt := 111) (by decide +kernel) (by decide) (fun g11 => ?_) (fun g11 => ?_)
            · refine ab_iconst (pc := 111) (n := 0) (v := nI 0) (by decide +kernel) rfl ?_
              exact ab_zret (pc := 112) (by decide +kernel) rfl ab_bl0.1 rfl (Nat.le_of_ble_eq_true rfl) (Nat.le_of_ble_eq_true rfl)
            · refine ab_aload_n (pc := 103) (n := 0) (i := 0) (j := 0) (by decide +kernel) rfl rfl ?_
              refine ab_iload_n (pc := 104) (n := 1) (i := 1) (j := 1) (by decide +kernel) rfl rfl ?_
              refine ab_callVj (As := [.int x1]) (st := []) (pc := 105) lk_X8_148_8 rfl rfl rfl (by decide) rfl (Nat.le_of_ble_eq_true rfl) (by decide +kernel) (fun y9 e9 => okX8_fetchBy hl e9) (fun v12 ev12 => ?_)
              refine ab_pop (pc := 108) (by decide +kernel) rfl ?_
              refine ab_iconst (pc := 109) (n := 1) (v := nI 1) (by decide +kernel) rfl ?_
              exact ab_zret (pc := 110) (by decide +kernel) rfl ab_bl1.1 rfl (Nat.le_of_ble_eq_true rfl) (Nat.le_of_ble_eq_true rfl)
      · refine ab_if_ne (off := 47) (pc := 33) (tgt := 80) (by decide +kernel) (by decide) (fun g14 => ?_) (fun g14 => ?_)
        · refine ab_iload_n (pc := 36) (n := 3) (i := 3) (j := 3) (by decide +kernel) rfl rfl ?_
          refine ab_if_ne (off := 43) (pc := 37) (tgt := 80) (by decide +kernel) (by decide) (fun g15 => ?_) (fun g15 => ?_)
          · refine ab_aload_n (pc := 40) (n := 0) (i := 0) (j := 0) (by decide +kernel) rfl rfl ?_
            refine ab_callVi (As := []) (st := []) (pc := 41) lk_X8_136_8 rfl rfl rfl (by decide) rfl (Nat.le_of_ble_eq_true rfl) (by decide +kernel) (fun y9 e9 => okX8_leastFreeHook hl (F := F) e9) (fun v16 ev16 => ?_)
            refine ab_istore (pc := 44) (i := 4) (lv' := [(0, .ref x0), (1, .int x1), (2, .int z3), (3, .int z6), (4, .int v16)]) (by decide +kernel) (Nat.le_of_ble_eq_true rfl) rfl rfl ?_
            refine ab_iload (pc := 46) (i := 4) (j := 4) (by decide +kernel) rfl ?_
            refine ab_iconst (pc := 48) (n := -1) (v := (-1 : Int32)) (by decide +kernel) rfl ?_
            refine ab_icmp_eq (off := 28) (pc := 49) (tgt := 77) (by decide +kernel) (by decide) (fun g17 => ?_) (fun g17 => ?_)
            · refine ab_goto (pc := 77) (off := 34) (tgt := 111) (by decide +kernel) (by decide) ?_
              refine ab_iconst (pc := 111) (n := 0) (v := nI 0) (by decide +kernel) rfl ?_
              exact ab_zret (pc := 112) (by decide +kernel) rfl ab_bl0.1 rfl (Nat.le_of_ble_eq_true rfl) (Nat.le_of_ble_eq_true rfl)
            · refine ab_aload_n (pc := 52) (n := 0) (i := 0) (j := 0) (by decide +kernel) rfl rfl ?_
              refine ab_getR (pc := 53) fl_X8_53_8 (by decide +kernel) (fun v18 ev18 => ?_)
              refine ab_aload_n (pc := 56) (n := 0) (i := 0) (j := 0) (by decide +kernel) rfl rfl ?_
              refine ab_iload_n (pc := 57) (n := 1) (i := 1) (j := 1) (by decide +kernel) rfl rfl ?_
              refine ab_sipush (pc := 58) (n := 1007) (v := nI 1007) (by decide +kernel) (by decide) ?_
              refine ab_callVj (As := [.ref x0, .int x1, .int (nI 1007)]) (st := []) (pc := 61) lk_X8_139_2 rfl rfl rfl (by decide) rfl (Nat.le_of_ble_eq_true rfl) (by decide +kernel) (fun y9 e9 => okX2_allows hl (F := F) e9) (fun v19 ev19 => ?_)
              refine ab_if_eq (off := 13) (pc := 64) (tgt := 77) (by decide +kernel) (by decide) (fun g20 => ?_) (fun g20 => ?_)
              · refine ab_goto (pc := 77) (off := 34) (tgt := 111) (by decide +kernel) (by decide) ?_
                refine ab_iconst (pc := 111) (n := 0) (v := nI 0) (by decide +kernel) rfl ?_
                exact ab_zret (pc := 112) (by decide +kernel) rfl ab_bl0.1 rfl (Nat.le_of_ble_eq_true rfl) (Nat.le_of_ble_eq_true rfl)
              · refine ab_aload_n (pc := 67) (n := 0) (i := 0) (j := 0) (by decide +kernel) rfl rfl ?_
                refine ab_iload_n (pc := 68) (n := 1) (i := 1) (j := 1) (by decide +kernel) rfl rfl ?_
                refine ab_iload (pc := 69) (i := 4) (j := 4) (by decide +kernel) rfl ?_
                refine ab_callVj (As := [.int x1, .int v16]) (st := []) (pc := 71) lk_X8_145_8 rfl rfl rfl (by decide) rfl (Nat.le_of_ble_eq_true rfl) (by decide +kernel) (fun y9 e9 => okX8_handIn hl e9) (fun v21 ev21 => ?_)
                refine ab_pop (pc := 74) (by decide +kernel) rfl ?_
                refine ab_iconst (pc := 75) (n := 1) (v := nI 1) (by decide +kernel) rfl ?_
                exact ab_zret (pc := 76) (by decide +kernel) rfl ab_bl1.1 rfl (Nat.le_of_ble_eq_true rfl) (Nat.le_of_ble_eq_true rfl)
          · exact hj13
        · exact hj13
    · refine ab_icmp_eq (off := 7) (pc := 23) (tgt := 30) (by decide +kernel) (by decide) (fun g23 => ?_) (fun g23 => ?_)
      · refine ab_iconst (pc := 30) (n := 0) (v := nI 0) (by decide +kernel) rfl ?_
        exact hj22 (nI 0)
      · refine ab_iconst (pc := 26) (n := 1) (v := nI 1) (by decide +kernel) rfl ?_
        refine ab_goto (pc := 27) (off := 4) (tgt := 31) (by decide +kernel) (by decide) ?_
        exact hj22 (nI 1)
  · refine ab_icmp_ne (off := 7) (pc := 7) (tgt := 14) (by decide +kernel) (by decide) (fun g25 => ?_) (fun g25 => ?_)
    · refine ab_iconst (pc := 10) (n := 1) (v := nI 1) (by decide +kernel) rfl ?_
      refine ab_goto (pc := 11) (off := 4) (tgt := 15) (by decide +kernel) (by decide) ?_
      exact hj24 (nI 1)
    · refine ab_iconst (pc := 14) (n := 0) (v := nI 0) (by decide +kernel) rfl ?_
      exact hj24 (nI 0)
set_option maxRecDepth 100000 in
set_option maxHeartbeats 4000000 in
theorem okX8_takesTurn {l : Launch} (hl : l.stackTraces = false) {F : Nat} {x0 : Nat} {x1 : Int32} {h : ab_H} {y : (Int32 × ab_H)} (e : fX8_takesTurn F x0 x1 h = some y) : ab_Met l mX8_takesTurn [.ref x0, .int x1] h (.inl (some (.int y.1)), y.2) := ab_ofS (io := (fun y : (Int32 × ab_H) => ((.inl (some (.int y.1)), y.2) : ab_R × ab_H))) (x := y) hl (by decide) rfl (Nat.le_of_ble_eq_true rfl) (wX8_takesTurn hl F x0 x1 h) e
def mX11_swaps : ab_M := (yX11_swaps, cX11_swaps, 4, (some .int), { frames := 3, cells := 0, slots := 0, locals := 69 })
theorem iX11_swaps : ab_MI mX11_swaps 0 := ⟨kw_c9b548176e, kw_62b61b7ad3, by decide +kernel⟩
theorem lk_X11_263_11 : ab_LV RX11 263 11 mX11_leadsClosedRing 1 := ⟨RX11, rfl, iX11_leadsClosedRing, kw_a62bc90a64, kw_f6dffb250f, kw_909e64702b⟩
def fX11_swaps_6 (F : Nat) (x0 : Nat) (h : ab_H) : Nat → Int32 → Int32 → Int32 → Option Int32
  | 0, _, _, _ => none
  | n + 1, x1, x2, x3 => ab_bd (ab_fr h x0 11 1) fun v1 => ab_bd (ab_fi h v1 8 0) fun v2 => (if x3 < v2 then ab_bd (ab_fr h x0 11 1) fun v4 => ab_bd (ab_fr h v4 8 11) fun v5 => ab_bd (ab_ia 0 h v5 x3) fun v6 => ab_jn (κ := Int32 → Option Int32) (fun (z7 : Int32) => ab_ck (ab_io h x0 11 = true) (ab_bd (fX11_leadsClosedRing F x0 x3 h) fun v8 => (if v8 = 0 then fX11_swaps_6 F x0 h n z7 x2 (x3 + nI 1) else fX11_swaps_6 F x0 h n z7 (x2 + nI 1) (x3 + nI 1)))) fun j10 => (if v6 = x3 then j10 x1 else ab_bd (ab_fr h x0 11 1) fun v12 => ab_ck (ab_io h v12 8 = true) (ab_bd (fX8_isLost F v12 x3 h) fun v13 => (if v13 = 0 then j10 (x1 + nI 1) else j10 x1))) else some (x1 - x2))
def fX11_swaps (F : Nat) (x0 : Nat) (h : ab_H) : Option Int32 := fX11_swaps_6 F x0 h F (nI 0) (nI 0) (nI 0)
set_option maxRecDepth 100000 in
set_option maxHeartbeats 4000000 in
theorem lX11_swaps_6 {l : Launch} (hl : l.stackTraces = false) (F : Nat) (x0 : Nat) (h : ab_H) : ∀ (n : Nat) (x1 : Int32) (x2 : Int32) (x3 : Int32), ab_S l mX11_swaps (fun y : Int32 => ((.inl (some (.int y)), h) : ab_R × ab_H)) 0 0 (fX11_swaps_6 F x0 h n x1 x2 x3) 6 [(0, .ref x0), (1, .int x1), (2, .int x2), (3, .int x3)] [] h := by
  intro n
  induction n with
  | zero =>
    intro x1 x2 x3
    exact ab_none
  | succ n ih =>
    intro x1 x2 x3
    rw [fX11_swaps_6]
    refine ab_iload_n (pc := 6) (n := 3) (i := 3) (j := 3) (by decide +kernel) rfl rfl ?_
    refine ab_aload_n (pc := 7) (n := 0) (i := 0) (j := 0) (by decide +kernel) rfl rfl ?_
    refine ab_getR (pc := 8) fl_X11_26_11 (by decide +kernel) (fun v1 ev1 => ?_)
    refine ab_getI (pc := 11) fl_X11_180_8 (by decide +kernel) (fun v2 ev2 => ?_)
    refine ab_icmp_ge (off := 47) (pc := 14) (tgt := 61) (by decide +kernel) (by decide) (fun g3 => ?_) (fun g3 => ?_)
    · refine ab_aload_n (pc := 17) (n := 0) (i := 0) (j := 0) (by decide +kernel) rfl rfl ?_
      refine ab_getR (pc := 18) fl_X11_26_11 (by decide +kernel) (fun v4 ev4 => ?_)
      refine ab_getR (pc := 21) fl_X11_138_8 (by decide +kernel) (fun v5 ev5 => ?_)
      refine ab_iload_n (pc := 24) (n := 3) (i := 3) (j := 3) (by decide +kernel) rfl rfl ?_
      refine ab_iald (pc := 25) (by decide +kernel) (fun v6 ev6 => ?_)
      refine ab_iload_n (pc := 26) (n := 3) (i := 3) (j := 3) (by decide +kernel) rfl rfl ?_
      refine ab_jr (fun k9 : Int32 → Option Int32 => ∀ (z7 : Int32), ab_S l mX11_swaps (fun y : Int32 => ((.inl (some (.int y)), h) : ab_R × ab_H)) 0 0 (k9 z7) 44 [(0, .ref x0), (1, .int z7), (2, .int x2), (3, .int x3)] [] h) ?_ (fun j10 hj10 => ?_)
      · intro z7
        refine ab_aload_n (pc := 44) (n := 0) (i := 0) (j := 0) (by decide +kernel) rfl rfl ?_
        refine ab_iload_n (pc := 45) (n := 3) (i := 3) (j := 3) (by decide +kernel) rfl rfl ?_
        refine ab_callVi (As := [.int x3]) (st := []) (pc := 46) lk_X11_263_11 rfl rfl rfl (by decide) rfl (Nat.le_of_ble_eq_true rfl) (by decide +kernel) (fun y9 e9 => okX11_leadsClosedRing hl (F := F) e9) (fun v8 ev8 => ?_)
        refine ab_if_eq (off := 6) (pc := 49) (tgt := 55) (by decide +kernel) (by decide) (fun g9 => ?_) (fun g9 => ?_)
        · refine ab_iinc (pc := 55) (i := 3) (n := 1) (j := 3) (d := nI 1) (lv' := [(0, .ref x0), (1, .int z7), (2, .int x2), (3, .int (x3 + nI 1))]) (by decide +kernel) rfl rfl (Nat.le_of_ble_eq_true rfl) rfl rfl ?_
          refine ab_goto (pc := 58) (off := (-52)) (tgt := 6) (by decide +kernel) (by decide) ?_
          exact ih z7 x2 (x3 + nI 1)
        · refine ab_iinc (pc := 52) (i := 2) (n := 1) (j := 2) (d := nI 1) (lv' := [(0, .ref x0), (1, .int z7), (2, .int (x2 + nI 1)), (3, .int x3)]) (by decide +kernel) rfl rfl (Nat.le_of_ble_eq_true rfl) rfl rfl ?_
          refine ab_iinc (pc := 55) (i := 3) (n := 1) (j := 3) (d := nI 1) (lv' := [(0, .ref x0), (1, .int z7), (2, .int (x2 + nI 1)), (3, .int (x3 + nI 1))]) (by decide +kernel) rfl rfl (Nat.le_of_ble_eq_true rfl) rfl rfl ?_
          refine ab_goto (pc := 58) (off := (-52)) (tgt := 6) (by decide +kernel) (by decide) ?_
          exact ih z7 (x2 + nI 1) (x3 + nI 1)
      · refine ab_icmp_eq (off := 17) (pc := 27) (tgt := 44) (by decide +kernel) (by decide) (fun g11 => ?_) (fun g11 => ?_)
        · exact hj10 x1
        · refine ab_aload_n (pc := 30) (n := 0) (i := 0) (j := 0) (by decide +kernel) rfl rfl ?_
          refine ab_getR (pc := 31) fl_X11_26_11 (by decide +kernel) (fun v12 ev12 => ?_)
          refine ab_iload_n (pc := 34) (n := 3) (i := 3) (j := 3) (by decide +kernel) rfl rfl ?_
          refine ab_callVi (As := [.int x3]) (st := []) (pc := 35) lk_X11_253_8 rfl rfl rfl (by decide) rfl (Nat.le_of_ble_eq_true rfl) (by decide +kernel) (fun y9 e9 => okX8_isLost hl (F := F) e9) (fun v13 ev13 => ?_)
          refine ab_if_ne (off := 6) (pc := 38) (tgt := 44) (by decide +kernel) (by decide) (fun g14 => ?_) (fun g14 => ?_)
          · refine ab_iinc (pc := 41) (i := 1) (n := 1) (j := 1) (d := nI 1) (lv' := [(0, .ref x0), (1, .int (x1 + nI 1)), (2, .int x2), (3, .int x3)]) (by decide +kernel) rfl rfl (Nat.le_of_ble_eq_true rfl) rfl rfl ?_
            exact hj10 (x1 + nI 1)
          · exact hj10 x1
    · refine ab_iload_n (pc := 61) (n := 1) (i := 1) (j := 1) (by decide +kernel) rfl rfl ?_
      refine ab_iload_n (pc := 62) (n := 2) (i := 2) (j := 2) (by decide +kernel) rfl rfl ?_
      refine ab_isub (pc := 63) (by decide +kernel) ?_
      exact ab_iret (pc := 64) (by decide +kernel) rfl rfl (Nat.le_of_ble_eq_true rfl) (Nat.le_of_ble_eq_true rfl)
set_option maxRecDepth 100000 in
set_option maxHeartbeats 4000000 in
theorem wX11_swaps {l : Launch} (hl : l.stackTraces = false) (F : Nat) (x0 : Nat) (h : ab_H) : ab_S l mX11_swaps (fun y : Int32 => ((.inl (some (.int y)), h) : ab_R × ab_H)) 0 0 (fX11_swaps F x0 h) 0 [(0, .ref x0)] [] h := by
  unfold fX11_swaps
  refine ab_iconst (pc := 0) (n := 0) (v := nI 0) (by decide +kernel) rfl ?_
  refine ab_istore_n (pc := 1) (n := 1) (i := 1) (lv' := [(0, .ref x0), (1, .int (nI 0))]) (by decide +kernel) rfl (Nat.le_of_ble_eq_true rfl) rfl rfl ?_
  refine ab_iconst (pc := 2) (n := 0) (v := nI 0) (by decide +kernel) rfl ?_
  refine ab_istore_n (pc := 3) (n := 2) (i := 2) (lv' := [(0, .ref x0), (1, .int (nI 0)), (2, .int (nI 0))]) (by decide +kernel) rfl (Nat.le_of_ble_eq_true rfl) rfl rfl ?_
  refine ab_iconst (pc := 4) (n := 0) (v := nI 0) (by decide +kernel) rfl ?_
  refine ab_istore_n (pc := 5) (n := 3) (i := 3) (lv' := [(0, .ref x0), (1, .int (nI 0)), (2, .int (nI 0)), (3, .int (nI 0))]) (by decide +kernel) rfl (Nat.le_of_ble_eq_true rfl) rfl rfl ?_
  refine lX11_swaps_6 hl F x0 h F (nI 0) (nI 0) (nI 0)
set_option maxRecDepth 100000 in
set_option maxHeartbeats 4000000 in
theorem okX11_swaps {l : Launch} (hl : l.stackTraces = false) {F : Nat} {x0 : Nat} {h : ab_H} {y : Int32} (e : fX11_swaps F x0 h = some y) : ab_Met l mX11_swaps [.ref x0] h (.inl (some (.int y)), h) := ab_ofS (io := (fun y : Int32 => ((.inl (some (.int y)), h) : ab_R × ab_H))) (x := y) hl (by decide) rfl (Nat.le_of_ble_eq_true rfl) (wX11_swaps hl F x0 h) e
def mX11_forged : ab_M := (yX11_forged, cX11_forged, 5, (some .int), { frames := 7, cells := 1, slots := 6, locals := 112 })
theorem iX11_forged : ab_MI mX11_forged 1 := ⟨kw_0f7cd97427, kw_62b61b7ad3, by decide +kernel⟩
theorem lk_X11_275_8 : ab_LV RX11 275 8 mX8_hangingFaces 0 := ⟨RX8, rfl, iX8_hangingFaces, kw_c3b95b545a, kw_02a0898d6b, kw_b67fec2c3e⟩
theorem lk_X11_278_11 : ab_LV RX11 278 11 mX11_marksTogether 1 := ⟨RX11, rfl, iX11_marksTogether, kw_b522af8ee7, kw_0e51781446, kw_a084ea9b83⟩
def fX11_forged_21 (F : Nat) (x0 : Nat) (x1 : Int32) (x2 : Int32) (h : ab_H) : Nat → Int32 → Int32 → Option (Int32 ⊕ String)
  | 0, _, _ => none
  | n + 1, x3, x4 => ab_bd (ab_fr h x0 11 1) fun v4 => ab_bd (ab_fi h v4 8 0) fun v5 => (if x4 < ((nI 1) <<< (v5 &&& 31)) then (if (x4 &&& (x2 ^^^ (-1 : Int32))) = 0 then ab_bd (fX11_isFewer x4 x3 h) fun v8 => (if v8 = 0 then fX11_forged_21 F x0 x1 x2 h n x3 (x4 + nI 1) else ab_ck (ab_io h x0 11 = true) (ab_bd (fX11_marksTogether F x0 x4 h) fun v10 => (if (x1 &&& (v10 ^^^ (-1 : Int32))) = 0 then fX11_forged_21 F x0 x1 x2 h n x4 (x4 + nI 1) else fX11_forged_21 F x0 x1 x2 h n x3 (x4 + nI 1)))) else fX11_forged_21 F x0 x1 x2 h n x3 (x4 + nI 1)) else some (.inl x3))
def fX11_forged (F : Nat) (x0 : Nat) (x1 : Int32) (h : ab_H) : Option (Int32 ⊕ String) := ab_bx (fX11_needNumber x1 (nI 0) (nI 255) h) (fun E => Sum.inr E) (ab_bd (ab_fr h x0 11 1) fun v2 => ab_ck (ab_io h v2 8 = true) (ab_bd (fX8_hangingFaces F v2 h) fun v3 => fX11_forged_21 F x0 x1 v3 h F (-1 : Int32) (nI 0)))
set_option maxRecDepth 100000 in
set_option maxHeartbeats 4000000 in
theorem lX11_forged_21 {l : Launch} (hl : l.stackTraces = false) (F : Nat) (x0 : Nat) (x1 : Int32) (x2 : Int32) (h : ab_H) : ∀ (n : Nat) (x3 : Int32) (x4 : Int32), ab_S l mX11_forged (fun y : (Int32 ⊕ String) => ((y.elim (fun x => .inl (some (.int x))) (fun E => .inr E), h) : ab_R × ab_H)) 1 6 (fX11_forged_21 F x0 x1 x2 h n x3 x4) 21 [(0, .ref x0), (1, .int x1), (2, .int x2), (3, .int x3), (4, .int x4)] [] h := by
  intro n
  induction n with
  | zero =>
    intro x3 x4
    exact ab_none
  | succ n ih =>
    intro x3 x4
    rw [fX11_forged_21]
    refine ab_iload (pc := 21) (i := 4) (j := 4) (by decide +kernel) rfl ?_
    refine ab_iconst (pc := 23) (n := 1) (v := nI 1) (by decide +kernel) rfl ?_
    refine ab_aload_n (pc := 24) (n := 0) (i := 0) (j := 0) (by decide +kernel) rfl rfl ?_
    refine ab_getR (pc := 25) fl_X11_26_11 (by decide +kernel) (fun v4 ev4 => ?_)
    refine ab_getI (pc := 28) fl_X11_180_8 (by decide +kernel) (fun v5 ev5 => ?_)
    refine ab_ishl (pc := 31) (by decide +kernel) ?_
    refine ab_icmp_ge (off := 43) (pc := 32) (tgt := 75) (by decide +kernel) (by decide) (fun g6 => ?_) (fun g6 => ?_)
    · refine ab_iload (pc := 35) (i := 4) (j := 4) (by decide +kernel) rfl ?_
      refine ab_iload_n (pc := 37) (n := 2) (i := 2) (j := 2) (by decide +kernel) rfl rfl ?_
      refine ab_iconst (pc := 38) (n := -1) (v := (-1 : Int32)) (by decide +kernel) rfl ?_
      refine ab_ixor (pc := 39) (by decide +kernel) ?_
      refine ab_iand (pc := 40) (by decide +kernel) ?_
      refine ab_if_ne (off := 28) (pc := 41) (tgt := 69) (by decide +kernel) (by decide) (fun g7 => ?_) (fun g7 => ?_)
      · refine ab_iload (pc := 44) (i := 4) (j := 4) (by decide +kernel) rfl ?_
        refine ab_iload_n (pc := 46) (n := 3) (i := 3) (j := 3) (by decide +kernel) rfl rfl ?_
        refine ab_callSi (As := [.int x4, .int x3]) (st := []) (pc := 47) lk_X11_269 rfl rfl rfl (by decide) rfl (Nat.le_of_ble_eq_true rfl) (by decide +kernel) (fun y9 e9 => okX11_isFewer hl e9) (fun v8 ev8 => ?_)
        refine ab_if_eq (off := 19) (pc := 50) (tgt := 69) (by decide +kernel) (by decide) (fun g9 => ?_) (fun g9 => ?_)
        · refine ab_iinc (pc := 69) (i := 4) (n := 1) (j := 4) (d := nI 1) (lv' := [(0, .ref x0), (1, .int x1), (2, .int x2), (3, .int x3), (4, .int (x4 + nI 1))]) (by decide +kernel) rfl rfl (Nat.le_of_ble_eq_true rfl) rfl rfl ?_
          refine ab_goto (pc := 72) (off := (-51)) (tgt := 21) (by decide +kernel) (by decide) ?_
          exact ih x3 (x4 + nI 1)
        · refine ab_iload_n (pc := 53) (n := 1) (i := 1) (j := 1) (by decide +kernel) rfl rfl ?_
          refine ab_aload_n (pc := 54) (n := 0) (i := 0) (j := 0) (by decide +kernel) rfl rfl ?_
          refine ab_iload (pc := 55) (i := 4) (j := 4) (by decide +kernel) rfl ?_
          refine ab_callVi (As := [.int x4]) (st := [.int x1]) (pc := 57) lk_X11_278_11 rfl rfl rfl (by decide) rfl (Nat.le_of_ble_eq_true rfl) (by decide +kernel) (fun y9 e9 => okX11_marksTogether hl (F := F) e9) (fun v10 ev10 => ?_)
          refine ab_iconst (pc := 60) (n := -1) (v := (-1 : Int32)) (by decide +kernel) rfl ?_
          refine ab_ixor (pc := 61) (by decide +kernel) ?_
          refine ab_iand (pc := 62) (by decide +kernel) ?_
          refine ab_if_ne (off := 6) (pc := 63) (tgt := 69) (by decide +kernel) (by decide) (fun g11 => ?_) (fun g11 => ?_)
          · refine ab_iload (pc := 66) (i := 4) (j := 4) (by decide +kernel) rfl ?_
            refine ab_istore_n (pc := 68) (n := 3) (i := 3) (lv' := [(0, .ref x0), (1, .int x1), (2, .int x2), (3, .int x4), (4, .int x4)]) (by decide +kernel) rfl (Nat.le_of_ble_eq_true rfl) rfl rfl ?_
            refine ab_iinc (pc := 69) (i := 4) (n := 1) (j := 4) (d := nI 1) (lv' := [(0, .ref x0), (1, .int x1), (2, .int x2), (3, .int x4), (4, .int (x4 + nI 1))]) (by decide +kernel) rfl rfl (Nat.le_of_ble_eq_true rfl) rfl rfl ?_
            refine ab_goto (pc := 72) (off := (-51)) (tgt := 21) (by decide +kernel) (by decide) ?_
            exact ih x4 (x4 + nI 1)
          · refine ab_iinc (pc := 69) (i := 4) (n := 1) (j := 4) (d := nI 1) (lv' := [(0, .ref x0), (1, .int x1), (2, .int x2), (3, .int x3), (4, .int (x4 + nI 1))]) (by decide +kernel) rfl rfl (Nat.le_of_ble_eq_true rfl) rfl rfl ?_
            refine ab_goto (pc := 72) (off := (-51)) (tgt := 21) (by decide +kernel) (by decide) ?_
            exact ih x3 (x4 + nI 1)
      · refine ab_iinc (pc := 69) (i := 4) (n := 1) (j := 4) (d := nI 1) (lv' := [(0, .ref x0), (1, .int x1), (2, .int x2), (3, .int x3), (4, .int (x4 + nI 1))]) (by decide +kernel) rfl rfl (Nat.le_of_ble_eq_true rfl) rfl rfl ?_
        refine ab_goto (pc := 72) (off := (-51)) (tgt := 21) (by decide +kernel) (by decide) ?_
        exact ih x3 (x4 + nI 1)
    · refine ab_iload_n (pc := 75) (n := 3) (i := 3) (j := 3) (by decide +kernel) rfl rfl ?_
      exact ab_iret (pc := 76) (by decide +kernel) rfl rfl (Nat.le_of_ble_eq_true rfl) (Nat.le_of_ble_eq_true rfl)
set_option maxRecDepth 100000 in
set_option maxHeartbeats 4000000 in
theorem wX11_forged {l : Launch} (hl : l.stackTraces = false) (F : Nat) (x0 : Nat) (x1 : Int32) (h : ab_H) : ab_S l mX11_forged (fun y : (Int32 ⊕ String) => ((y.elim (fun x => .inl (some (.int x))) (fun E => .inr E), h) : ab_R × ab_H)) 0 0 (fX11_forged F x0 x1 h) 0 [(0, .ref x0), (1, .int x1)] [] h := by
  unfold fX11_forged
  refine ab_iload_n (pc := 0) (n := 1) (i := 1) (j := 1) (by decide +kernel) rfl rfl ?_
  refine ab_iconst (pc := 1) (n := 0) (v := nI 0) (by decide +kernel) rfl ?_
  refine ab_sipush (pc := 2) (n := 255) (v := nI 255) (by decide +kernel) (by decide) ?_
  refine ab_callSt (As := [.int x1, .int (nI 0), .int (nI 255)]) (st := []) (thr := (fun E => Sum.inr E)) (pc := 5) lk_X11_243 (fun _ => rfl) rfl (by decide) rfl (Nat.le_of_ble_eq_true rfl) (by decide +kernel) (fun y9 e9 => okX11_needNumber hl e9) ?_
  refine ab_aload_n (pc := 8) (n := 0) (i := 0) (j := 0) (by decide +kernel) rfl rfl ?_
  refine ab_getR (pc := 9) fl_X11_26_11 (by decide +kernel) (fun v2 ev2 => ?_)
  refine ab_callVi (As := []) (st := []) (pc := 12) lk_X11_275_8 rfl rfl rfl (by decide) rfl (Nat.le_of_ble_eq_true rfl) (by decide +kernel) (fun y9 e9 => okX8_hangingFaces hl (F := F) e9) (fun v3 ev3 => ?_)
  refine ab_istore_n (pc := 15) (n := 2) (i := 2) (lv' := [(0, .ref x0), (1, .int x1), (2, .int v3)]) (by decide +kernel) rfl (Nat.le_of_ble_eq_true rfl) rfl rfl ?_
  refine ab_iconst (pc := 16) (n := -1) (v := (-1 : Int32)) (by decide +kernel) rfl ?_
  refine ab_istore_n (pc := 17) (n := 3) (i := 3) (lv' := [(0, .ref x0), (1, .int x1), (2, .int v3), (3, .int (-1 : Int32))]) (by decide +kernel) rfl (Nat.le_of_ble_eq_true rfl) rfl rfl ?_
  refine ab_iconst (pc := 18) (n := 0) (v := nI 0) (by decide +kernel) rfl ?_
  refine ab_istore (pc := 19) (i := 4) (lv' := [(0, .ref x0), (1, .int x1), (2, .int v3), (3, .int (-1 : Int32)), (4, .int (nI 0))]) (by decide +kernel) (Nat.le_of_ble_eq_true rfl) rfl rfl ?_
  refine lX11_forged_21 hl F x0 x1 v3 h F (-1 : Int32) (nI 0)
set_option maxRecDepth 100000 in
set_option maxHeartbeats 4000000 in
theorem okX11_forged {l : Launch} (hl : l.stackTraces = false) {F : Nat} {x0 : Nat} {x1 : Int32} {h : ab_H} {y : (Int32 ⊕ String)} (e : fX11_forged F x0 x1 h = some y) : ab_Met l mX11_forged [.ref x0, .int x1] h ((fun y : (Int32 ⊕ String) => ((y.elim (fun x => .inl (some (.int x))) (fun E => .inr E), h) : ab_R × ab_H)) y) := ab_ofS (io := (fun y : (Int32 ⊕ String) => ((y.elim (fun x => .inl (some (.int x))) (fun E => .inr E), h) : ab_R × ab_H))) (x := y) hl (by decide) rfl (Nat.le_of_ble_eq_true rfl) (wX11_forged hl F x0 x1 h) e
def mX11_block : ab_M := (yX11_block, cX11_block, 4, (some .boolean), { frames := 6, cells := 1, slots := 6, locals := 90 })
theorem iX11_block : ab_MI mX11_block 1 := ⟨kw_583bfb2384, kw_62b61b7ad3, by decide +kernel⟩
theorem lk_X11_289_5 : ab_LV RX11 289 5 mX5_hasDearerRing 2 := ⟨RX5, rfl, iX5_hasDearerRing, kw_1338d3794e, kw_84a381d75d, kw_549ce777ca⟩
def fX11_block_16 (F : Nat) (x0 : Nat) (x2 : Int32) (h : ab_H) (k48 : Option (Int32 ⊕ String)) (k65 : Option (Int32 ⊕ String)) : Nat → Int32 → Option (Int32 ⊕ String)
  | 0, _ => none
  | n + 1, x3 => ab_bd (ab_fr h x0 11 1) fun v3 => ab_bd (ab_fi h v3 8 0) fun v4 => (if x3 < v4 then ab_bd (fX11_has x2 x3 h) fun v6 => (if v6 = 0 then fX11_block_16 F x0 x2 h k48 k65 n (x3 + nI 1) else ab_bd (ab_fr h x0 11 1) fun v8 => ab_bd (ab_fr h v8 8 11) fun v9 => ab_bd (ab_ia 0 h v9 x3) fun v10 => (if v10 = (-1 : Int32) then k48 else fX11_block_16 F x0 x2 h k48 k65 n (x3 + nI 1))) else k65)
def fX11_block (F : Nat) (x0 : Nat) (x1 : Int32) (h : ab_H) : Option (Int32 ⊕ String) := ab_bd (ab_fr h x0 11 1) fun v1 => ab_bd (ab_fi h v1 8 0) fun v2 => fX11_block_16 F x0 (x1 &&& (((nI 1) <<< (v2 &&& 31)) - (nI 1))) h (some (.inr "java/lang/IllegalStateException")) (ab_bd (ab_fr h x0 11 8) fun v12 => ab_bd (ab_fr h x0 11 1) fun v13 => ab_ck (ab_io h v12 5 = true) (ab_bd (fX5_hasDearerRing F v12 v13 (x1 &&& (((nI 1) <<< (v2 &&& 31)) - (nI 1))) h) fun v14 => ab_cb v14 (some (.inl v14)))) F (nI 0)
set_option maxRecDepth 100000 in
set_option maxHeartbeats 4000000 in
theorem lX11_block_16 {l : Launch} (hl : l.stackTraces = false) (F : Nat) (x0 : Nat) (x2 : Int32) (h : ab_H) {k48 : Option (Int32 ⊕ String)} {k65 : Option (Int32 ⊕ String)} (hk48 : ab_S l mX11_block (fun y : (Int32 ⊕ String) => ((y.elim (fun x => .inl (some (.int x))) (fun E => .inr E), h) : ab_R × ab_H)) 0 0 (k48) 48 [] [] h) (hk65 : ab_S l mX11_block (fun y : (Int32 ⊕ String) => ((y.elim (fun x => .inl (some (.int x))) (fun E => .inr E), h) : ab_R × ab_H)) 0 0 (k65) 65 [(0, .ref x0), (2, .int x2)] [] h) : ∀ (n : Nat) (x3 : Int32), ab_S l mX11_block (fun y : (Int32 ⊕ String) => ((y.elim (fun x => .inl (some (.int x))) (fun E => .inr E), h) : ab_R × ab_H)) 0 0 (fX11_block_16 F x0 x2 h k48 k65 n x3) 16 [(0, .ref x0), (2, .int x2), (3, .int x3)] [] h := by
  intro n
  induction n with
  | zero =>
    intro x3
    exact ab_none
  | succ n ih =>
    intro x3
    rw [fX11_block_16]
    refine ab_iload_n (pc := 16) (n := 3) (i := 3) (j := 2) (by decide +kernel) rfl rfl ?_
    refine ab_aload_n (pc := 17) (n := 0) (i := 0) (j := 0) (by decide +kernel) rfl rfl ?_
    refine ab_getR (pc := 18) fl_X11_26_11 (by decide +kernel) (fun v3 ev3 => ?_)
    refine ab_getI (pc := 21) fl_X11_180_8 (by decide +kernel) (fun v4 ev4 => ?_)
    refine ab_icmp_ge (off := 41) (pc := 24) (tgt := 65) (by decide +kernel) (by decide) (fun g5 => ?_) (fun g5 => ?_)
    · refine ab_iload_n (pc := 27) (n := 2) (i := 2) (j := 1) (by decide +kernel) rfl rfl ?_
      refine ab_iload_n (pc := 28) (n := 3) (i := 3) (j := 2) (by decide +kernel) rfl rfl ?_
      refine ab_callSi (As := [.int x2, .int x3]) (st := []) (pc := 29) lk_X11_224 rfl rfl rfl (by decide) rfl (Nat.le_of_ble_eq_true rfl) (by decide +kernel) (fun y9 e9 => okX11_has hl e9) (fun v6 ev6 => ?_)
      refine ab_if_eq (off := 27) (pc := 32) (tgt := 59) (by decide +kernel) (by decide) (fun g7 => ?_) (fun g7 => ?_)
      · refine ab_iinc (pc := 59) (i := 3) (n := 1) (j := 2) (d := nI 1) (lv' := [(0, .ref x0), (2, .int x2), (3, .int (x3 + nI 1))]) (by decide +kernel) rfl rfl (Nat.le_of_ble_eq_true rfl) rfl rfl ?_
        refine ab_goto (pc := 62) (off := (-46)) (tgt := 16) (by decide +kernel) (by decide) ?_
        exact ih (x3 + nI 1)
      · refine ab_aload_n (pc := 35) (n := 0) (i := 0) (j := 0) (by decide +kernel) rfl rfl ?_
        refine ab_getR (pc := 36) fl_X11_26_11 (by decide +kernel) (fun v8 ev8 => ?_)
        refine ab_getR (pc := 39) fl_X11_138_8 (by decide +kernel) (fun v9 ev9 => ?_)
        refine ab_iload_n (pc := 42) (n := 3) (i := 3) (j := 2) (by decide +kernel) rfl rfl ?_
        refine ab_iald (pc := 43) (by decide +kernel) (fun v10 ev10 => ?_)
        refine ab_iconst (pc := 44) (n := -1) (v := (-1 : Int32)) (by decide +kernel) rfl ?_
        refine ab_icmp_ne (off := 14) (pc := 45) (tgt := 59) (by decide +kernel) (by decide) (fun g11 => ?_) (fun g11 => ?_)
        · refine ab_few [] (lv' := []) rfl ?_
          exact hk48
        · refine ab_iinc (pc := 59) (i := 3) (n := 1) (j := 2) (d := nI 1) (lv' := [(0, .ref x0), (2, .int x2), (3, .int (x3 + nI 1))]) (by decide +kernel) rfl rfl (Nat.le_of_ble_eq_true rfl) rfl rfl ?_
          refine ab_goto (pc := 62) (off := (-46)) (tgt := 16) (by decide +kernel) (by decide) ?_
          exact ih (x3 + nI 1)
    · refine ab_few [0, 1] (lv' := [(0, .ref x0), (2, .int x2)]) rfl ?_
      exact hk65
set_option maxRecDepth 100000 in
set_option maxHeartbeats 4000000 in
theorem wX11_block {l : Launch} (hl : l.stackTraces = false) (F : Nat) (x0 : Nat) (x1 : Int32) (h : ab_H) : ab_S l mX11_block (fun y : (Int32 ⊕ String) => ((y.elim (fun x => .inl (some (.int x))) (fun E => .inr E), h) : ab_R × ab_H)) 0 0 (fX11_block F x0 x1 h) 0 [(0, .ref x0), (1, .int x1)] [] h := by
  unfold fX11_block
  refine ab_iload_n (pc := 0) (n := 1) (i := 1) (j := 1) (by decide +kernel) rfl rfl ?_
  refine ab_iconst (pc := 1) (n := 1) (v := nI 1) (by decide +kernel) rfl ?_
  refine ab_aload_n (pc := 2) (n := 0) (i := 0) (j := 0) (by decide +kernel) rfl rfl ?_
  refine ab_getR (pc := 3) fl_X11_26_11 (by decide +kernel) (fun v1 ev1 => ?_)
  refine ab_getI (pc := 6) fl_X11_180_8 (by decide +kernel) (fun v2 ev2 => ?_)
  refine ab_ishl (pc := 9) (by decide +kernel) ?_
  refine ab_iconst (pc := 10) (n := 1) (v := nI 1) (by decide +kernel) rfl ?_
  refine ab_isub (pc := 11) (by decide +kernel) ?_
  refine ab_iand (pc := 12) (by decide +kernel) ?_
  refine ab_istore_n (pc := 13) (n := 2) (i := 2) (lv' := [(0, .ref x0), (1, .int x1), (2, .int (x1 &&& (((nI 1) <<< (v2 &&& 31)) - (nI 1))))]) (by decide +kernel) rfl (Nat.le_of_ble_eq_true rfl) rfl rfl ?_
  refine ab_iconst (pc := 14) (n := 0) (v := nI 0) (by decide +kernel) rfl ?_
  refine ab_istore_n (pc := 15) (n := 3) (i := 3) (lv' := [(0, .ref x0), (1, .int x1), (2, .int (x1 &&& (((nI 1) <<< (v2 &&& 31)) - (nI 1)))), (3, .int (nI 0))]) (by decide +kernel) rfl (Nat.le_of_ble_eq_true rfl) rfl rfl ?_
  refine ab_few [0, 2, 3] (lv' := [(0, .ref x0), (2, .int (x1 &&& (((nI 1) <<< (v2 &&& 31)) - (nI 1)))), (3, .int (nI 0))]) rfl ?_
  refine lX11_block_16 hl F x0 (x1 &&& (((nI 1) <<< (v2 &&& 31)) - (nI 1))) h ?_ ?_ F (nI 0)
  · exact ab_thrW (pc := 48) (ik := 192) (is := 287) (ic := 196) (kk := 18) (text := "one of the set WEARS no FACE") th_X11_192_196 (by show (RX11, 287, "one of the set WEARS no FACE", 18) ∈ ab_sr; decide +kernel) rfl (by decide +kernel) (by decide +kernel) (by decide +kernel) (by decide +kernel) (by decide +kernel) (by decide) (Nat.le_of_ble_eq_true rfl) (Nat.le_of_ble_eq_true rfl) (Nat.le_of_ble_eq_true rfl)
  · refine ab_aload_n (pc := 65) (n := 0) (i := 0) (j := 0) (by decide +kernel) rfl rfl ?_
    refine ab_getR (pc := 66) fl_X11_76_11 (by decide +kernel) (fun v12 ev12 => ?_)
    refine ab_aload_n (pc := 69) (n := 0) (i := 0) (j := 0) (by decide +kernel) rfl rfl ?_
    refine ab_getR (pc := 70) fl_X11_26_11 (by decide +kernel) (fun v13 ev13 => ?_)
    refine ab_iload_n (pc := 73) (n := 2) (i := 2) (j := 1) (by decide +kernel) rfl rfl ?_
    refine ab_callVi (As := [.ref v13, .int (x1 &&& (((nI 1) <<< (v2 &&& 31)) - (nI 1)))]) (st := []) (pc := 74) lk_X11_289_5 rfl rfl rfl (by decide) rfl (Nat.le_of_ble_eq_true rfl) (by decide +kernel) (fun y9 e9 => okX5_hasDearerRing hl (F := F) e9) (fun v14 ev14 => ?_)
    refine ab_cbr (fun b15 => ?_)
    exact ab_zret (pc := 77) (by decide +kernel) rfl b15.1 rfl (Nat.le_of_ble_eq_true rfl) (Nat.le_of_ble_eq_true rfl)
set_option maxRecDepth 100000 in
set_option maxHeartbeats 4000000 in
theorem okX11_block {l : Launch} (hl : l.stackTraces = false) {F : Nat} {x0 : Nat} {x1 : Int32} {h : ab_H} {y : (Int32 ⊕ String)} (e : fX11_block F x0 x1 h = some y) : ab_Met l mX11_block [.ref x0, .int x1] h ((fun y : (Int32 ⊕ String) => ((y.elim (fun x => .inl (some (.int x))) (fun E => .inr E), h) : ab_R × ab_H)) y) := ab_ofS (io := (fun y : (Int32 ⊕ String) => ((y.elim (fun x => .inl (some (.int x))) (fun E => .inr E), h) : ab_R × ab_H))) (x := y) hl (by decide) rfl (Nat.le_of_ble_eq_true rfl) (wX11_block hl F x0 x1 h) e
def mX11_fits : ab_M := (yX11_fits, cX11_fits, 3, (some .int), { frames := 7, cells := 2, slots := 12, locals := 111 })
theorem iX11_fits : ab_MI mX11_fits 1 := ⟨kw_658581f95d, kw_62b61b7ad3, by decide +kernel⟩
theorem lk_X11_293_7 : ab_LV RX11 293 7 mX7_readTape 2 := ⟨RX7, rfl, iX7_readTape, kw_3d467fe9ca, kw_a83fb6502e, kw_9af0024c78⟩
theorem lk_X11_297 : ab_LS RX11 297 mX11_needTold 1 := ⟨iX11_needTold, kw_0bf6629ab7, kw_e6e56ddf7e⟩
theorem lk_X11_301_7 : ab_LV RX11 301 7 mX7_ownersOfAll 0 := ⟨RX7, rfl, iX7_ownersOfAll, kw_1889b8082f, kw_f88b345808, kw_1c5895f2a2⟩
theorem lk_X11_304_7 : ab_LV RX11 304 7 mX7_sureFace 1 := ⟨RX7, rfl, iX7_sureFace, kw_f91bde1197, kw_278a93d0b9, kw_36661c4139⟩
def fX11_fits (F : Nat) (x0 : Nat) (x1 : Int32) (h : ab_H) : Option ((Int32 ⊕ String) × ab_H) := ab_bd (ab_fr h x0 11 7) fun v1 => ab_bd (ab_fr h x0 11 0) fun v2 => ab_bd (ab_fr h x0 11 1) fun v3 => ab_bd (ab_fi h v3 8 0) fun v4 => ab_ck (ab_io h v1 7 = true) (ab_bd (fX7_readTape F v1 v2 v4 h) fun v5 => ab_bd (ab_fr v5.2 x0 11 0) fun v6 => ab_bd (ab_fw v5.2 v6 9 1 (.int (nI 0))) fun h7 => ab_jn (κ := Option ((Int32 ⊕ String) × ab_H)) (ab_bx (fX11_needTold v5.1 h7) (fun E => (Sum.inr E, h7)) ((if x1 = (-1 : Int32) then ab_bd (ab_fr h7 x0 11 7) fun v10 => ab_ck (ab_io h7 v10 7 = true) (ab_bd (fX7_ownersOfAll F v10 h7) fun v11 => some (.inl v11.1, v11.2)) else ab_bd (ab_fr h7 x0 11 7) fun v12 => ab_ck (ab_io h7 v12 7 = true) (ab_bd (fX7_sureFace F v12 x1 h7) fun v13 => some (.inl v13.1, v13.2))))) fun j14 => (if x1 = (-1 : Int32) then j14 else ab_ck (ab_io h7 x0 11 = true) (ab_bx (fX11_needPerson x0 x1 h7) (fun E => (Sum.inr E, h7)) (j14))))
set_option maxRecDepth 100000 in
set_option maxHeartbeats 4000000 in
theorem wX11_fits {l : Launch} (hl : l.stackTraces = false) (F : Nat) (x0 : Nat) (x1 : Int32) (h : ab_H) : ab_S l mX11_fits (fun y : ((Int32 ⊕ String) × ab_H) => ((y.1.elim (fun x => .inl (some (.int x))) (fun E => .inr E), y.2) : ab_R × ab_H)) 0 0 (fX11_fits F x0 x1 h) 0 [(0, .ref x0), (1, .int x1)] [] h := by
  unfold fX11_fits
  refine ab_aload_n (pc := 0) (n := 0) (i := 0) (j := 0) (by decide +kernel) rfl rfl ?_
  refine ab_getR (pc := 1) fl_X11_69_11 (by decide +kernel) (fun v1 ev1 => ?_)
  refine ab_aload_n (pc := 4) (n := 0) (i := 0) (j := 0) (by decide +kernel) rfl rfl ?_
  refine ab_getR (pc := 5) fl_X11_17_11 (by decide +kernel) (fun v2 ev2 => ?_)
  refine ab_aload_n (pc := 8) (n := 0) (i := 0) (j := 0) (by decide +kernel) rfl rfl ?_
  refine ab_getR (pc := 9) fl_X11_26_11 (by decide +kernel) (fun v3 ev3 => ?_)
  refine ab_getI (pc := 12) fl_X11_180_8 (by decide +kernel) (fun v4 ev4 => ?_)
  refine ab_callVj (As := [.ref v2, .int v4]) (st := []) (pc := 15) lk_X11_293_7 rfl rfl rfl (by decide) rfl (Nat.le_of_ble_eq_true rfl) (by decide +kernel) (fun y9 e9 => okX7_readTape hl (F := F) e9) (fun v5 ev5 => ?_)
  refine ab_istore_n (pc := 18) (n := 2) (i := 2) (lv' := [(0, .ref x0), (1, .int x1), (2, .int v5.1)]) (by decide +kernel) rfl (Nat.le_of_ble_eq_true rfl) rfl rfl ?_
  refine ab_aload_n (pc := 19) (n := 0) (i := 0) (j := 0) (by decide +kernel) rfl rfl ?_
  refine ab_getR (pc := 20) fl_X11_17_11 (by decide +kernel) (fun v6 ev6 => ?_)
  refine ab_iconst (pc := 23) (n := 0) (v := nI 0) (by decide +kernel) rfl ?_
  refine ab_put (pc := 24) fl_X11_84_9 rfl (fun _ => rfl) (fun _ => rfl) (by decide +kernel) (fun h7 eh7 => ?_)
  refine ab_iload_n (pc := 27) (n := 1) (i := 1) (j := 1) (by decide +kernel) rfl rfl ?_
  refine ab_iconst (pc := 28) (n := -1) (v := (-1 : Int32)) (by decide +kernel) rfl ?_
  refine ab_jr (fun k9 : Option ((Int32 ⊕ String) × ab_H) => ab_S l mX11_fits (fun y : ((Int32 ⊕ String) × ab_H) => ((y.1.elim (fun x => .inl (some (.int x))) (fun E => .inr E), y.2) : ab_R × ab_H)) 1 6 (k9) 37 [(0, .ref x0), (1, .int x1), (2, .int v5.1)] [] h7) ?_ (fun j14 hj14 => ?_)
  · refine ab_iload_n (pc := 37) (n := 2) (i := 2) (j := 2) (by decide +kernel) rfl rfl ?_
    refine ab_callSt (As := [.int v5.1]) (st := []) (thr := (fun E => (Sum.inr E, h7))) (pc := 38) lk_X11_297 (fun _ => rfl) rfl (by decide) rfl (Nat.le_of_ble_eq_true rfl) (by decide +kernel) (fun y9 e9 => okX11_needTold hl e9) ?_
    refine ab_iload_n (pc := 41) (n := 1) (i := 1) (j := 1) (by decide +kernel) rfl rfl ?_
    refine ab_iconst (pc := 42) (n := -1) (v := (-1 : Int32)) (by decide +kernel) rfl ?_
    refine ab_icmp_ne (off := 13) (pc := 43) (tgt := 56) (by decide +kernel) (by decide) (fun g9 => ?_) (fun g9 => ?_)
    · refine ab_aload_n (pc := 46) (n := 0) (i := 0) (j := 0) (by decide +kernel) rfl rfl ?_
      refine ab_getR (pc := 47) fl_X11_69_11 (by decide +kernel) (fun v10 ev10 => ?_)
      refine ab_callVj (As := []) (st := []) (pc := 50) lk_X11_301_7 rfl rfl rfl (by decide) rfl (Nat.le_of_ble_eq_true rfl) (by decide +kernel) (fun y9 e9 => okX7_ownersOfAll hl (F := F) e9) (fun v11 ev11 => ?_)
      refine ab_goto (pc := 53) (off := 11) (tgt := 64) (by decide +kernel) (by decide) ?_
      exact ab_iret (pc := 64) (by decide +kernel) rfl rfl (Nat.le_of_ble_eq_true rfl) (Nat.le_of_ble_eq_true rfl)
    · refine ab_aload_n (pc := 56) (n := 0) (i := 0) (j := 0) (by decide +kernel) rfl rfl ?_
      refine ab_getR (pc := 57) fl_X11_69_11 (by decide +kernel) (fun v12 ev12 => ?_)
      refine ab_iload_n (pc := 60) (n := 1) (i := 1) (j := 1) (by decide +kernel) rfl rfl ?_
      refine ab_callVj (As := [.int x1]) (st := []) (pc := 61) lk_X11_304_7 rfl rfl rfl (by decide) rfl (Nat.le_of_ble_eq_true rfl) (by decide +kernel) (fun y9 e9 => okX7_sureFace hl (F := F) e9) (fun v13 ev13 => ?_)
      exact ab_iret (pc := 64) (by decide +kernel) rfl rfl (Nat.le_of_ble_eq_true rfl) (Nat.le_of_ble_eq_true rfl)
  · refine ab_icmp_eq (off := 8) (pc := 29) (tgt := 37) (by decide +kernel) (by decide) (fun g15 => ?_) (fun g15 => ?_)
    · refine ab_wid (kc' := 1) (ks' := 6) (Nat.le_of_ble_eq_true rfl) (Nat.le_of_ble_eq_true rfl) ?_
      exact hj14
    · refine ab_aload_n (pc := 32) (n := 0) (i := 0) (j := 0) (by decide +kernel) rfl rfl ?_
      refine ab_iload_n (pc := 33) (n := 1) (i := 1) (j := 1) (by decide +kernel) rfl rfl ?_
      refine ab_callVt (As := [.int x1]) (st := []) (thr := (fun E => (Sum.inr E, h7))) (pc := 34) lk_X11_131_11 (fun _ => rfl) rfl (by decide) rfl (Nat.le_of_ble_eq_true rfl) (by decide +kernel) (fun y9 e9 => okX11_needPerson hl e9) ?_
      exact hj14
set_option maxRecDepth 100000 in
set_option maxHeartbeats 4000000 in
theorem okX11_fits {l : Launch} (hl : l.stackTraces = false) {F : Nat} {x0 : Nat} {x1 : Int32} {h : ab_H} {y : ((Int32 ⊕ String) × ab_H)} (e : fX11_fits F x0 x1 h = some y) : ab_Met l mX11_fits [.ref x0, .int x1] h ((fun y : ((Int32 ⊕ String) × ab_H) => ((y.1.elim (fun x => .inl (some (.int x))) (fun E => .inr E), y.2) : ab_R × ab_H)) y) := ab_ofS (io := (fun y : ((Int32 ⊕ String) × ab_H) => ((y.1.elim (fun x => .inl (some (.int x))) (fun E => .inr E), y.2) : ab_R × ab_H))) (x := y) hl (by decide) rfl (Nat.le_of_ble_eq_true rfl) (wX11_fits hl F x0 x1 h) e
def mX11_ask : ab_M := (yX11_ask, cX11_ask, 3, (some .int), { frames := 7, cells := 2, slots := 12, locals := 111 })
theorem iX11_ask : ab_MI mX11_ask 1 := ⟨kw_96fd7bfaf6, kw_62b61b7ad3, by decide +kernel⟩
theorem lk_X11_307_7 : ab_LV RX11 307 7 mX7_bestQuestion 1 := ⟨RX7, rfl, iX7_bestQuestion, kw_37fc9c81ef, kw_c1d9287951, kw_9441d5f140⟩
def fX11_ask (F : Nat) (x0 : Nat) (x1 : Int32) (h : ab_H) : Option ((Int32 ⊕ String) × ab_H) := ab_bd (ab_fr h x0 11 7) fun v1 => ab_bd (ab_fr h x0 11 0) fun v2 => ab_bd (ab_fr h x0 11 1) fun v3 => ab_bd (ab_fi h v3 8 0) fun v4 => ab_ck (ab_io h v1 7 = true) (ab_bd (fX7_readTape F v1 v2 v4 h) fun v5 => ab_bd (ab_fr v5.2 x0 11 0) fun v6 => ab_bd (ab_fw v5.2 v6 9 1 (.int (nI 0))) fun h7 => ab_ck (ab_io h7 x0 11 = true) (ab_bx (fX11_needPerson x0 x1 h7) (fun E => (Sum.inr E, h7)) (ab_bx (fX11_needTold v5.1 h7) (fun E => (Sum.inr E, h7)) (ab_bd (ab_fr h7 x0 11 7) fun v10 => ab_ck (ab_io h7 v10 7 = true) (ab_bd (fX7_bestQuestion F v10 x1 h7) fun v11 => some (.inl v11.1, v11.2))))))
set_option maxRecDepth 100000 in
set_option maxHeartbeats 4000000 in
theorem wX11_ask {l : Launch} (hl : l.stackTraces = false) (F : Nat) (x0 : Nat) (x1 : Int32) (h : ab_H) : ab_S l mX11_ask (fun y : ((Int32 ⊕ String) × ab_H) => ((y.1.elim (fun x => .inl (some (.int x))) (fun E => .inr E), y.2) : ab_R × ab_H)) 0 0 (fX11_ask F x0 x1 h) 0 [(0, .ref x0), (1, .int x1)] [] h := by
  unfold fX11_ask
  refine ab_aload_n (pc := 0) (n := 0) (i := 0) (j := 0) (by decide +kernel) rfl rfl ?_
  refine ab_getR (pc := 1) fl_X11_69_11 (by decide +kernel) (fun v1 ev1 => ?_)
  refine ab_aload_n (pc := 4) (n := 0) (i := 0) (j := 0) (by decide +kernel) rfl rfl ?_
  refine ab_getR (pc := 5) fl_X11_17_11 (by decide +kernel) (fun v2 ev2 => ?_)
  refine ab_aload_n (pc := 8) (n := 0) (i := 0) (j := 0) (by decide +kernel) rfl rfl ?_
  refine ab_getR (pc := 9) fl_X11_26_11 (by decide +kernel) (fun v3 ev3 => ?_)
  refine ab_getI (pc := 12) fl_X11_180_8 (by decide +kernel) (fun v4 ev4 => ?_)
  refine ab_callVj (As := [.ref v2, .int v4]) (st := []) (pc := 15) lk_X11_293_7 rfl rfl rfl (by decide) rfl (Nat.le_of_ble_eq_true rfl) (by decide +kernel) (fun y9 e9 => okX7_readTape hl (F := F) e9) (fun v5 ev5 => ?_)
  refine ab_istore_n (pc := 18) (n := 2) (i := 2) (lv' := [(0, .ref x0), (1, .int x1), (2, .int v5.1)]) (by decide +kernel) rfl (Nat.le_of_ble_eq_true rfl) rfl rfl ?_
  refine ab_aload_n (pc := 19) (n := 0) (i := 0) (j := 0) (by decide +kernel) rfl rfl ?_
  refine ab_getR (pc := 20) fl_X11_17_11 (by decide +kernel) (fun v6 ev6 => ?_)
  refine ab_iconst (pc := 23) (n := 0) (v := nI 0) (by decide +kernel) rfl ?_
  refine ab_put (pc := 24) fl_X11_84_9 rfl (fun _ => rfl) (fun _ => rfl) (by decide +kernel) (fun h7 eh7 => ?_)
  refine ab_aload_n (pc := 27) (n := 0) (i := 0) (j := 0) (by decide +kernel) rfl rfl ?_
  refine ab_iload_n (pc := 28) (n := 1) (i := 1) (j := 1) (by decide +kernel) rfl rfl ?_
  refine ab_callVt (As := [.int x1]) (st := []) (thr := (fun E => (Sum.inr E, h7))) (pc := 29) lk_X11_131_11 (fun _ => rfl) rfl (by decide) rfl (Nat.le_of_ble_eq_true rfl) (by decide +kernel) (fun y9 e9 => okX11_needPerson hl e9) ?_
  refine ab_iload_n (pc := 32) (n := 2) (i := 2) (j := 2) (by decide +kernel) rfl rfl ?_
  refine ab_callSt (As := [.int v5.1]) (st := []) (thr := (fun E => (Sum.inr E, h7))) (pc := 33) lk_X11_297 (fun _ => rfl) rfl (by decide) rfl (Nat.le_of_ble_eq_true rfl) (by decide +kernel) (fun y9 e9 => okX11_needTold hl e9) ?_
  refine ab_aload_n (pc := 36) (n := 0) (i := 0) (j := 0) (by decide +kernel) rfl rfl ?_
  refine ab_getR (pc := 37) fl_X11_69_11 (by decide +kernel) (fun v10 ev10 => ?_)
  refine ab_iload_n (pc := 40) (n := 1) (i := 1) (j := 1) (by decide +kernel) rfl rfl ?_
  refine ab_callVj (As := [.int x1]) (st := []) (pc := 41) lk_X11_307_7 rfl rfl rfl (by decide) rfl (Nat.le_of_ble_eq_true rfl) (by decide +kernel) (fun y9 e9 => okX7_bestQuestion hl (F := F) e9) (fun v11 ev11 => ?_)
  exact ab_iret (pc := 44) (by decide +kernel) rfl rfl (Nat.le_of_ble_eq_true rfl) (Nat.le_of_ble_eq_true rfl)
set_option maxRecDepth 100000 in
set_option maxHeartbeats 4000000 in
theorem okX11_ask {l : Launch} (hl : l.stackTraces = false) {F : Nat} {x0 : Nat} {x1 : Int32} {h : ab_H} {y : ((Int32 ⊕ String) × ab_H)} (e : fX11_ask F x0 x1 h = some y) : ab_Met l mX11_ask [.ref x0, .int x1] h ((fun y : ((Int32 ⊕ String) × ab_H) => ((y.1.elim (fun x => .inl (some (.int x))) (fun E => .inr E), y.2) : ab_R × ab_H)) y) := ab_ofS (io := (fun y : ((Int32 ⊕ String) × ab_H) => ((y.1.elim (fun x => .inl (some (.int x))) (fun E => .inr E), y.2) : ab_R × ab_H))) (x := y) hl (by decide) rfl (Nat.le_of_ble_eq_true rfl) (wX11_ask hl F x0 x1 h) e
def mX11_clash : ab_M := (yX11_clash, cX11_clash, 2, (some .int), { frames := 15, cells := 1, slots := 6, locals := 342 })
theorem iX11_clash : ab_MI mX11_clash 0 := ⟨kw_b7c7db1744, kw_62b61b7ad3, by decide +kernel⟩
theorem lk_X11_310_7 : ab_LV RX11 310 7 mX7_fewestApart 0 := ⟨RX7, rfl, iX7_fewestApart, kw_03196f1378, kw_b92e700fb3, kw_bb104f800d⟩
def fX11_clash (F : Nat) (x0 : Nat) (h : ab_H) : Option ((Int32 ⊕ String) × ab_H) := ab_bd (ab_fr h x0 11 7) fun v1 => ab_bd (ab_fr h x0 11 0) fun v2 => ab_bd (ab_fr h x0 11 1) fun v3 => ab_bd (ab_fi h v3 8 0) fun v4 => ab_ck (ab_io h v1 7 = true) (ab_bd (fX7_readTape F v1 v2 v4 h) fun v5 => ab_bd (ab_fr v5.2 x0 11 0) fun v6 => ab_bd (ab_fw v5.2 v6 9 1 (.int (nI 0))) fun h7 => ab_bx (fX11_needTold v5.1 h7) (fun E => (Sum.inr E, h7)) (ab_bd (ab_fr h7 x0 11 7) fun v9 => ab_ck (ab_io h7 v9 7 = true) (ab_bd (fX7_fewestApart F v9 h7) fun v10 => some (.inl v10.1, v10.2))))
set_option maxRecDepth 100000 in
set_option maxHeartbeats 4000000 in
theorem wX11_clash {l : Launch} (hl : l.stackTraces = false) (F : Nat) (x0 : Nat) (h : ab_H) : ab_S l mX11_clash (fun y : ((Int32 ⊕ String) × ab_H) => ((y.1.elim (fun x => .inl (some (.int x))) (fun E => .inr E), y.2) : ab_R × ab_H)) 0 0 (fX11_clash F x0 h) 0 [(0, .ref x0)] [] h := by
  unfold fX11_clash
  refine ab_aload_n (pc := 0) (n := 0) (i := 0) (j := 0) (by decide +kernel) rfl rfl ?_
  refine ab_getR (pc := 1) fl_X11_69_11 (by decide +kernel) (fun v1 ev1 => ?_)
  refine ab_aload_n (pc := 4) (n := 0) (i := 0) (j := 0) (by decide +kernel) rfl rfl ?_
  refine ab_getR (pc := 5) fl_X11_17_11 (by decide +kernel) (fun v2 ev2 => ?_)
  refine ab_aload_n (pc := 8) (n := 0) (i := 0) (j := 0) (by decide +kernel) rfl rfl ?_
  refine ab_getR (pc := 9) fl_X11_26_11 (by decide +kernel) (fun v3 ev3 => ?_)
  refine ab_getI (pc := 12) fl_X11_180_8 (by decide +kernel) (fun v4 ev4 => ?_)
  refine ab_callVj (As := [.ref v2, .int v4]) (st := []) (pc := 15) lk_X11_293_7 rfl rfl rfl (by decide) rfl (Nat.le_of_ble_eq_true rfl) (by decide +kernel) (fun y9 e9 => okX7_readTape hl (F := F) e9) (fun v5 ev5 => ?_)
  refine ab_istore_n (pc := 18) (n := 1) (i := 1) (lv' := [(0, .ref x0), (1, .int v5.1)]) (by decide +kernel) rfl (Nat.le_of_ble_eq_true rfl) rfl rfl ?_
  refine ab_aload_n (pc := 19) (n := 0) (i := 0) (j := 0) (by decide +kernel) rfl rfl ?_
  refine ab_getR (pc := 20) fl_X11_17_11 (by decide +kernel) (fun v6 ev6 => ?_)
  refine ab_iconst (pc := 23) (n := 0) (v := nI 0) (by decide +kernel) rfl ?_
  refine ab_put (pc := 24) fl_X11_84_9 rfl (fun _ => rfl) (fun _ => rfl) (by decide +kernel) (fun h7 eh7 => ?_)
  refine ab_iload_n (pc := 27) (n := 1) (i := 1) (j := 1) (by decide +kernel) rfl rfl ?_
  refine ab_callSt (As := [.int v5.1]) (st := []) (thr := (fun E => (Sum.inr E, h7))) (pc := 28) lk_X11_297 (fun _ => rfl) rfl (by decide) rfl (Nat.le_of_ble_eq_true rfl) (by decide +kernel) (fun y9 e9 => okX11_needTold hl e9) ?_
  refine ab_aload_n (pc := 31) (n := 0) (i := 0) (j := 0) (by decide +kernel) rfl rfl ?_
  refine ab_getR (pc := 32) fl_X11_69_11 (by decide +kernel) (fun v9 ev9 => ?_)
  refine ab_callVj (As := []) (st := []) (pc := 35) lk_X11_310_7 rfl rfl rfl (by decide) rfl (Nat.le_of_ble_eq_true rfl) (by decide +kernel) (fun y9 e9 => okX7_fewestApart hl (F := F) e9) (fun v10 ev10 => ?_)
  exact ab_iret (pc := 38) (by decide +kernel) rfl rfl (Nat.le_of_ble_eq_true rfl) (Nat.le_of_ble_eq_true rfl)
set_option maxRecDepth 100000 in
set_option maxHeartbeats 4000000 in
theorem okX11_clash {l : Launch} (hl : l.stackTraces = false) {F : Nat} {x0 : Nat} {h : ab_H} {y : ((Int32 ⊕ String) × ab_H)} (e : fX11_clash F x0 h = some y) : ab_Met l mX11_clash [.ref x0] h ((fun y : ((Int32 ⊕ String) × ab_H) => ((y.1.elim (fun x => .inl (some (.int x))) (fun E => .inr E), y.2) : ab_R × ab_H)) y) := ab_ofS (io := (fun y : ((Int32 ⊕ String) × ab_H) => ((y.1.elim (fun x => .inl (some (.int x))) (fun E => .inr E), y.2) : ab_R × ab_H))) (x := y) hl (by decide) rfl (Nat.le_of_ble_eq_true rfl) (wX11_clash hl F x0 h) e
def mX0_cutText : ab_M := (yX0_cutText, cX0_cutText, 3, none, { frames := 6, cells := 0, slots := 0, locals := 135 })
theorem iX0_cutText : ab_MI mX0_cutText 0 := ⟨kw_fe43318c43, kw_284a064ce4, by decide +kernel⟩
theorem lk_X0_25_0 : ab_LV RX0 25 0 mX0_pastBlanks 1 := ⟨RX0, rfl, iX0_pastBlanks, kw_92ab88c4ee, kw_22cdbaa079, kw_2bd7ba8ece⟩
theorem lk_X0_38_0 : ab_LV RX0 38 0 mX0_endOf 2 := ⟨RX0, rfl, iX0_endOf, kw_d2610858f7, kw_9ad763d419, kw_898593fa21⟩
theorem lk_X0_42_0 : ab_LV RX0 42 0 mX0_wordOf 2 := ⟨RX0, rfl, iX0_wordOf, kw_51d5bc7ee1, kw_184868011e, kw_74d475dc9b⟩
def fX0_cutText_8 (F : Nat) (x0 : Nat) (k107 : Int32 → ab_H → Option ab_H) : Nat → Int32 → Int32 → ab_H → Option ab_H
  | 0, _, _, _ => none
  | n + 1, x1, x2, h => ab_bd (ab_fr h x0 0 0) fun v2 => ab_bd (ab_fi h v2 9 1) fun v3 => (if x2 < v3 then (if x1 < (nI 400) then ab_bd (ab_fr h x0 0 1) fun v6 => ab_ck (ab_io h x0 0 = true) (ab_bd (fX0_kindAt x0 x2 h) fun v7 => ab_bd (ab_iw 0 h v6 x1 v7) fun h8 => ab_bd (ab_fr h8 x0 0 2) fun v9 => ab_bd (ab_iw 0 h8 v9 x1 x2) fun h10 => ab_bd (ab_fr h10 x0 0 3) fun v11 => ab_bd (ab_fr h10 x0 0 1) fun v12 => ab_bd (ab_ia 0 h10 v12 x1) fun v13 => ab_ck (ab_io h10 x0 0 = true) (ab_bd (fX0_endOf F x0 v13 x2 h10) fun v14 => ab_bd (ab_iw 0 h10 v11 x1 v14) fun h15 => ab_bd (ab_fr h15 x0 0 1) fun v16 => ab_bd (ab_ia 0 h15 v16 x1) fun v17 => ab_jn (κ := ab_H → Option ab_H) (fun (h18 : ab_H) => ab_bd (ab_fr h18 x0 0 3) fun v19 => ab_bd (ab_ia 0 h18 v19 x1) fun v20 => ab_ck (ab_io h18 x0 0 = true) (ab_bd (fX0_pastBlanks F x0 v20 h18) fun v21 => fX0_cutText_8 F x0 k107 n (x1 + nI 1) v21 h18)) fun j22 => (if v17 = (nI 257) then ab_bd (ab_fr h15 x0 0 1) fun v24 => ab_bd (ab_fr h15 x0 0 3) fun v25 => ab_bd (ab_ia 0 h15 v25 x1) fun v26 => ab_ck (ab_io h15 x0 0 = true) (ab_bd (fX0_wordOf F x0 x2 v26 h15) fun v27 => ab_bd (ab_iw 0 h15 v24 x1 v27) fun h28 => j22 h28) else j22 h15))) else k107 x1 h) else k107 x1 h)
def fX0_cutText (F : Nat) (x0 : Nat) (h : ab_H) : Option ab_H := ab_ck (ab_io h x0 0 = true) (ab_bd (fX0_pastBlanks F x0 (nI 0) h) fun v1 => fX0_cutText_8 F x0 (fun (z29 : Int32) (h30 : ab_H) => ab_bd (ab_fr h30 x0 0 1) fun v31 => ab_bd (ab_iw 0 h30 v31 z29 (-1 : Int32)) fun h32 => ab_bd (ab_fr h32 x0 0 2) fun v33 => ab_bd (ab_fr h32 x0 0 0) fun v34 => ab_bd (ab_fi h32 v34 9 1) fun v35 => ab_bd (ab_iw 0 h32 v33 z29 v35) fun h36 => ab_bd (ab_fr h36 x0 0 3) fun v37 => ab_bd (ab_fr h36 x0 0 0) fun v38 => ab_bd (ab_fi h36 v38 9 1) fun v39 => ab_bd (ab_iw 0 h36 v37 z29 v39) fun h40 => ab_bd (ab_fw h40 x0 0 4 (.int (nI 0))) fun h41 => some h41) F (nI 0) v1 h)
set_option maxRecDepth 100000 in
set_option maxHeartbeats 4000000 in
theorem lX0_cutText_8 {l : Launch} (hl : l.stackTraces = false) (F : Nat) (x0 : Nat) {k107 : Int32 → ab_H → Option ab_H} (hk107 : ∀ (x1 : Int32), ∀ (h : ab_H), ab_S l mX0_cutText (fun y : ab_H => ((.inl none, y) : ab_R × ab_H)) 0 0 (k107 x1 h) 107 [(0, .ref x0), (1, .int x1)] [] h) : ∀ (n : Nat) (x1 : Int32) (x2 : Int32) (h : ab_H), ab_S l mX0_cutText (fun y : ab_H => ((.inl none, y) : ab_R × ab_H)) 0 0 (fX0_cutText_8 F x0 k107 n x1 x2 h) 8 [(0, .ref x0), (1, .int x1), (2, .int x2)] [] h := by
  intro n
  induction n with
  | zero =>
    intro x1 x2 h
    exact ab_none
  | succ n ih =>
    intro x1 x2 h
    rw [fX0_cutText_8]
    refine ab_iload_n (pc := 8) (n := 2) (i := 2) (j := 2) (by decide +kernel) rfl rfl ?_
    refine ab_aload_n (pc := 9) (n := 0) (i := 0) (j := 0) (by decide +kernel) rfl rfl ?_
    refine ab_getR (pc := 10) fl_X0_21_0 (by decide +kernel) (fun v2 ev2 => ?_)
    refine ab_getI (pc := 13) fl_X0_29_9 (by decide +kernel) (fun v3 ev3 => ?_)
    refine ab_icmp_ge (off := 91) (pc := 16) (tgt := 107) (by decide +kernel) (by decide) (fun g4 => ?_) (fun g4 => ?_)
    · refine ab_iload_n (pc := 19) (n := 1) (i := 1) (j := 1) (by decide +kernel) rfl rfl ?_
      refine ab_sipush (pc := 20) (n := 400) (v := nI 400) (by decide +kernel) (by decide) ?_
      refine ab_icmp_ge (off := 84) (pc := 23) (tgt := 107) (by decide +kernel) (by decide) (fun g5 => ?_) (fun g5 => ?_)
      · refine ab_aload_n (pc := 26) (n := 0) (i := 0) (j := 0) (by decide +kernel) rfl rfl ?_
        refine ab_getR (pc := 27) fl_X0_9_0 (by decide +kernel) (fun v6 ev6 => ?_)
        refine ab_iload_n (pc := 30) (n := 1) (i := 1) (j := 1) (by decide +kernel) rfl rfl ?_
        refine ab_aload_n (pc := 31) (n := 0) (i := 0) (j := 0) (by decide +kernel) rfl rfl ?_
        refine ab_iload_n (pc := 32) (n := 2) (i := 2) (j := 2) (by decide +kernel) rfl rfl ?_
        refine ab_callVi (As := [.int x2]) (st := [.int x1, .ref v6]) (pc := 33) lk_X0_35_0 rfl rfl rfl (by decide) rfl (Nat.le_of_ble_eq_true rfl) (by decide +kernel) (fun y9 e9 => okX0_kindAt hl e9) (fun v7 ev7 => ?_)
        refine ab_iast (pc := 36) (by decide +kernel) (fun h8 eh8 => ?_)
        refine ab_aload_n (pc := 37) (n := 0) (i := 0) (j := 0) (by decide +kernel) rfl rfl ?_
        refine ab_getR (pc := 38) fl_X0_15_0 (by decide +kernel) (fun v9 ev9 => ?_)
        refine ab_iload_n (pc := 41) (n := 1) (i := 1) (j := 1) (by decide +kernel) rfl rfl ?_
        refine ab_iload_n (pc := 42) (n := 2) (i := 2) (j := 2) (by decide +kernel) rfl rfl ?_
        refine ab_iast (pc := 43) (by decide +kernel) (fun h10 eh10 => ?_)
        refine ab_aload_n (pc := 44) (n := 0) (i := 0) (j := 0) (by decide +kernel) rfl rfl ?_
        refine ab_getR (pc := 45) fl_X0_18_0 (by decide +kernel) (fun v11 ev11 => ?_)
        refine ab_iload_n (pc := 48) (n := 1) (i := 1) (j := 1) (by decide +kernel) rfl rfl ?_
        refine ab_aload_n (pc := 49) (n := 0) (i := 0) (j := 0) (by decide +kernel) rfl rfl ?_
        refine ab_aload_n (pc := 50) (n := 0) (i := 0) (j := 0) (by decide +kernel) rfl rfl ?_
        refine ab_getR (pc := 51) fl_X0_9_0 (by decide +kernel) (fun v12 ev12 => ?_)
        refine ab_iload_n (pc := 54) (n := 1) (i := 1) (j := 1) (by decide +kernel) rfl rfl ?_
        refine ab_iald (pc := 55) (by decide +kernel) (fun v13 ev13 => ?_)
        refine ab_iload_n (pc := 56) (n := 2) (i := 2) (j := 2) (by decide +kernel) rfl rfl ?_
        refine ab_callVi (As := [.int v13, .int x2]) (st := [.int x1, .ref v11]) (pc := 57) lk_X0_38_0 rfl rfl rfl (by decide) rfl (Nat.le_of_ble_eq_true rfl) (by decide +kernel) (fun y9 e9 => okX0_endOf hl (F := F) e9) (fun v14 ev14 => ?_)
        refine ab_iast (pc := 60) (by decide +kernel) (fun h15 eh15 => ?_)
        refine ab_aload_n (pc := 61) (n := 0) (i := 0) (j := 0) (by decide +kernel) rfl rfl ?_
        refine ab_getR (pc := 62) fl_X0_9_0 (by decide +kernel) (fun v16 ev16 => ?_)
        refine ab_iload_n (pc := 65) (n := 1) (i := 1) (j := 1) (by decide +kernel) rfl rfl ?_
        refine ab_iald (pc := 66) (by decide +kernel) (fun v17 ev17 => ?_)
        refine ab_sipush (pc := 67) (n := 257) (v := nI 257) (by decide +kernel) (by decide) ?_
        refine ab_jr (fun k9 : ab_H → Option ab_H => ∀ (h18 : ab_H), ab_S l mX0_cutText (fun y : ab_H => ((.inl none, y) : ab_R × ab_H)) 0 0 (k9 h18) 90 [(0, .ref x0), (1, .int x1)] [] h18) ?_ (fun j22 hj22 => ?_)
        · intro h18
          refine ab_aload_n (pc := 90) (n := 0) (i := 0) (j := 0) (by decide +kernel) rfl rfl ?_
          refine ab_aload_n (pc := 91) (n := 0) (i := 0) (j := 0) (by decide +kernel) rfl rfl ?_
          refine ab_getR (pc := 92) fl_X0_18_0 (by decide +kernel) (fun v19 ev19 => ?_)
          refine ab_iload_n (pc := 95) (n := 1) (i := 1) (j := 1) (by decide +kernel) rfl rfl ?_
          refine ab_iald (pc := 96) (by decide +kernel) (fun v20 ev20 => ?_)
          refine ab_callVi (As := [.int v20]) (st := []) (pc := 97) lk_X0_25_0 rfl rfl rfl (by decide) rfl (Nat.le_of_ble_eq_true rfl) (by decide +kernel) (fun y9 e9 => okX0_pastBlanks hl (F := F) e9) (fun v21 ev21 => ?_)
          refine ab_istore_n (pc := 100) (n := 2) (i := 2) (lv' := [(0, .ref x0), (1, .int x1), (2, .int v21)]) (by decide +kernel) rfl (Nat.le_of_ble_eq_true rfl) rfl rfl ?_
          refine ab_iinc (pc := 101) (i := 1) (n := 1) (j := 1) (d := nI 1) (lv' := [(0, .ref x0), (1, .int (x1 + nI 1)), (2, .int v21)]) (by decide +kernel) rfl rfl (Nat.le_of_ble_eq_true rfl) rfl rfl ?_
          refine ab_goto (pc := 104) (off := (-96)) (tgt := 8) (by decide +kernel) (by decide) ?_
          exact ih (x1 + nI 1) v21 h18
        · refine ab_icmp_ne (off := 20) (pc := 70) (tgt := 90) (by decide +kernel) (by decide) (fun g23 => ?_) (fun g23 => ?_)
          · refine ab_aload_n (pc := 73) (n := 0) (i := 0) (j := 0) (by decide +kernel) rfl rfl ?_
            refine ab_getR (pc := 74) fl_X0_9_0 (by decide +kernel) (fun v24 ev24 => ?_)
            refine ab_iload_n (pc := 77) (n := 1) (i := 1) (j := 1) (by decide +kernel) rfl rfl ?_
            refine ab_aload_n (pc := 78) (n := 0) (i := 0) (j := 0) (by decide +kernel) rfl rfl ?_
            refine ab_iload_n (pc := 79) (n := 2) (i := 2) (j := 2) (by decide +kernel) rfl rfl ?_
            refine ab_aload_n (pc := 80) (n := 0) (i := 0) (j := 0) (by decide +kernel) rfl rfl ?_
            refine ab_getR (pc := 81) fl_X0_18_0 (by decide +kernel) (fun v25 ev25 => ?_)
            refine ab_iload_n (pc := 84) (n := 1) (i := 1) (j := 1) (by decide +kernel) rfl rfl ?_
            refine ab_iald (pc := 85) (by decide +kernel) (fun v26 ev26 => ?_)
            refine ab_callVi (As := [.int x2, .int v26]) (st := [.int x1, .ref v24]) (pc := 86) lk_X0_42_0 rfl rfl rfl (by decide) rfl (Nat.le_of_ble_eq_true rfl) (by decide +kernel) (fun y9 e9 => okX0_wordOf hl (F := F) e9) (fun v27 ev27 => ?_)
            refine ab_iast (pc := 89) (by decide +kernel) (fun h28 eh28 => ?_)
            refine ab_few [0, 1] (lv' := [(0, .ref x0), (1, .int x1)]) rfl ?_
            exact hj22 h28
          · refine ab_few [0, 1] (lv' := [(0, .ref x0), (1, .int x1)]) rfl ?_
            exact hj22 h15
      · refine ab_few [0, 1] (lv' := [(0, .ref x0), (1, .int x1)]) rfl ?_
        exact hk107 x1 h
    · refine ab_few [0, 1] (lv' := [(0, .ref x0), (1, .int x1)]) rfl ?_
      exact hk107 x1 h
set_option maxRecDepth 100000 in
set_option maxHeartbeats 4000000 in
theorem wX0_cutText {l : Launch} (hl : l.stackTraces = false) (F : Nat) (x0 : Nat) (h : ab_H) : ab_S l mX0_cutText (fun y : ab_H => ((.inl none, y) : ab_R × ab_H)) 0 0 (fX0_cutText F x0 h) 0 [(0, .ref x0)] [] h := by
  unfold fX0_cutText
  refine ab_iconst (pc := 0) (n := 0) (v := nI 0) (by decide +kernel) rfl ?_
  refine ab_istore_n (pc := 1) (n := 1) (i := 1) (lv' := [(0, .ref x0), (1, .int (nI 0))]) (by decide +kernel) rfl (Nat.le_of_ble_eq_true rfl) rfl rfl ?_
  refine ab_aload_n (pc := 2) (n := 0) (i := 0) (j := 0) (by decide +kernel) rfl rfl ?_
  refine ab_iconst (pc := 3) (n := 0) (v := nI 0) (by decide +kernel) rfl ?_
  refine ab_callVi (As := [.int (nI 0)]) (st := []) (pc := 4) lk_X0_25_0 rfl rfl rfl (by decide) rfl (Nat.le_of_ble_eq_true rfl) (by decide +kernel) (fun y9 e9 => okX0_pastBlanks hl (F := F) e9) (fun v1 ev1 => ?_)
  refine ab_istore_n (pc := 7) (n := 2) (i := 2) (lv' := [(0, .ref x0), (1, .int (nI 0)), (2, .int v1)]) (by decide +kernel) rfl (Nat.le_of_ble_eq_true rfl) rfl rfl ?_
  refine lX0_cutText_8 hl F x0 ?_ F (nI 0) v1 h
  intro z29 h30
  refine ab_aload_n (pc := 107) (n := 0) (i := 0) (j := 0) (by decide +kernel) rfl rfl ?_
  refine ab_getR (pc := 108) fl_X0_9_0 (by decide +kernel) (fun v31 ev31 => ?_)
  refine ab_iload_n (pc := 111) (n := 1) (i := 1) (j := 1) (by decide +kernel) rfl rfl ?_
  refine ab_iconst (pc := 112) (n := -1) (v := (-1 : Int32)) (by decide +kernel) rfl ?_
  refine ab_iast (pc := 113) (by decide +kernel) (fun h32 eh32 => ?_)
  refine ab_aload_n (pc := 114) (n := 0) (i := 0) (j := 0) (by decide +kernel) rfl rfl ?_
  refine ab_getR (pc := 115) fl_X0_15_0 (by decide +kernel) (fun v33 ev33 => ?_)
  refine ab_iload_n (pc := 118) (n := 1) (i := 1) (j := 1) (by decide +kernel) rfl rfl ?_
  refine ab_aload_n (pc := 119) (n := 0) (i := 0) (j := 0) (by decide +kernel) rfl rfl ?_
  refine ab_getR (pc := 120) fl_X0_21_0 (by decide +kernel) (fun v34 ev34 => ?_)
  refine ab_getI (pc := 123) fl_X0_29_9 (by decide +kernel) (fun v35 ev35 => ?_)
  refine ab_iast (pc := 126) (by decide +kernel) (fun h36 eh36 => ?_)
  refine ab_aload_n (pc := 127) (n := 0) (i := 0) (j := 0) (by decide +kernel) rfl rfl ?_
  refine ab_getR (pc := 128) fl_X0_18_0 (by decide +kernel) (fun v37 ev37 => ?_)
  refine ab_iload_n (pc := 131) (n := 1) (i := 1) (j := 1) (by decide +kernel) rfl rfl ?_
  refine ab_aload_n (pc := 132) (n := 0) (i := 0) (j := 0) (by decide +kernel) rfl rfl ?_
  refine ab_getR (pc := 133) fl_X0_21_0 (by decide +kernel) (fun v38 ev38 => ?_)
  refine ab_getI (pc := 136) fl_X0_29_9 (by decide +kernel) (fun v39 ev39 => ?_)
  refine ab_iast (pc := 139) (by decide +kernel) (fun h40 eh40 => ?_)
  refine ab_aload_n (pc := 140) (n := 0) (i := 0) (j := 0) (by decide +kernel) rfl rfl ?_
  refine ab_iconst (pc := 141) (n := 0) (v := nI 0) (by decide +kernel) rfl ?_
  refine ab_put (pc := 142) fl_X0_45_0 rfl (fun _ => rfl) (fun _ => rfl) (by decide +kernel) (fun h41 eh41 => ?_)
  exact ab_vret (pc := 145) (by decide +kernel) rfl rfl (Nat.le_of_ble_eq_true rfl) (Nat.le_of_ble_eq_true rfl)
set_option maxRecDepth 100000 in
set_option maxHeartbeats 4000000 in
theorem okX0_cutText {l : Launch} (hl : l.stackTraces = false) {F : Nat} {x0 : Nat} {h : ab_H} {y : ab_H} (e : fX0_cutText F x0 h = some y) : ab_Met l mX0_cutText [.ref x0] h (.inl none, y) := ab_ofS (io := (fun y : ab_H => ((.inl none, y) : ab_R × ab_H))) (x := y) hl (by decide) rfl (Nat.le_of_ble_eq_true rfl) (wX0_cutText hl F x0 h) e
