/-! ===== class (by program, decomp.py) ===== -/
def mX1_readPerson : ab_M := (yX1_readPerson, cX1_readPerson, 3, none, { frames := 3, cells := 0, slots := 0, locals := 71 })
theorem iX1_readPerson : ab_MI mX1_readPerson 0 := ⟨kw_9a45051ee2, kw_9c5cf83101, by decide +kernel⟩
theorem lk_X1_93_1 : ab_LV RX1 93 1 mX1_readFigures 0 := ⟨RX1, rfl, iX1_readFigures, kw_507147582f, kw_aaaaa38977, kw_1b153853eb⟩
theorem lk_X1_96_8 : ab_LV RX1 96 8 mX8_addPerson 2 := ⟨RX8, rfl, iX8_addPerson, kw_9e8a651deb, kw_c128aa524b, kw_6f71730fbd⟩
def fX1_readPerson (F : Nat) (x0 : Nat) (h : ab_H) : Option ab_H := ab_bd (ab_fr h x0 1 5) fun v1 => ab_bd (ab_fi h v1 8 0) fun v2 => ab_jn (κ := Int32 → Option ab_H) (fun (z3 : Int32) => ab_ck (ab_io h x0 1 = true) (ab_bd (fX10_acceptD x0 z3 h) fun h4 => ab_ck (ab_io h4 x0 1 = true) (ab_bd (fX1_readFigures F x0 h4) fun v5 => ab_ck (ab_io v5.2 x0 1 = true) (ab_bd (fX1_readFigures F x0 v5.2) fun v6 => ab_ck (ab_io v6.2 x0 1 = true) (ab_bd (fX10_isRightD x0 v6.2) fun v7 => (if v7 = 0 then some v6.2 else ab_bd (ab_fr v6.2 x0 1 5) fun v9 => ab_ck (ab_io v6.2 v9 8 = true) (ab_bd (fX8_addPerson F v9 v5.1 v6.1 v6.2) fun h10 => some h10))))))) fun j11 => (if v2 < (nI 10) then j11 (nI 1) else j11 (nI 0))
set_option maxRecDepth 100000 in
set_option maxHeartbeats 4000000 in
theorem wX1_readPerson {l : Launch} (hl : l.stackTraces = false) (F : Nat) (x0 : Nat) (h : ab_H) : ab_S l mX1_readPerson (fun y : ab_H => ((.inl none, y) : ab_R × ab_H)) 0 0 (fX1_readPerson F x0 h) 0 [(0, .ref x0)] [] h := by
  unfold fX1_readPerson
  refine ab_aload_n (pc := 0) (n := 0) (i := 0) (j := 0) (by decide +kernel) rfl rfl ?_
  refine ab_aload_n (pc := 1) (n := 0) (i := 0) (j := 0) (by decide +kernel) rfl rfl ?_
  refine ab_getR (pc := 2) fl_X1_19_1 (by decide +kernel) (fun v1 ev1 => ?_)
  refine ab_getI (pc := 5) fl_X1_90_8 (by decide +kernel) (fun v2 ev2 => ?_)
  refine ab_bipush (pc := 8) (n := 10) (v := nI 10) (by decide +kernel) (by decide) ?_
  refine ab_jr (fun k9 : Int32 → Option ab_H => ∀ (z3 : Int32), ab_S l mX1_readPerson (fun y : ab_H => ((.inl none, y) : ab_R × ab_H)) 0 0 (k9 z3) 18 [(0, .ref x0)] [.int z3, .ref x0] h) ?_ (fun j11 hj11 => ?_)
  · intro z3
    refine ab_callUw (As := [.int z3]) (st := []) (pc := 18) lk_X1_54_1 rfl rfl rfl (by decide) rfl (Nat.le_of_ble_eq_true rfl) (by decide +kernel) (fun y9 e9 => okX10_acceptD hl e9) (fun h4 eh4 => ?_)
    refine ab_aload_n (pc := 21) (n := 0) (i := 0) (j := 0) (by decide +kernel) rfl rfl ?_
    refine ab_callVj (As := []) (st := []) (pc := 22) lk_X1_93_1 rfl rfl rfl (by decide) rfl (Nat.le_of_ble_eq_true rfl) (by decide +kernel) (fun y9 e9 => okX1_readFigures hl (F := F) e9) (fun v5 ev5 => ?_)
    refine ab_istore_n (pc := 25) (n := 1) (i := 1) (lv' := [(0, .ref x0), (1, .int v5.1)]) (by decide +kernel) rfl (Nat.le_of_ble_eq_true rfl) rfl rfl ?_
    refine ab_aload_n (pc := 26) (n := 0) (i := 0) (j := 0) (by decide +kernel) rfl rfl ?_
    refine ab_callVj (As := []) (st := []) (pc := 27) lk_X1_93_1 rfl rfl rfl (by decide) rfl (Nat.le_of_ble_eq_true rfl) (by decide +kernel) (fun y9 e9 => okX1_readFigures hl (F := F) e9) (fun v6 ev6 => ?_)
    refine ab_istore_n (pc := 30) (n := 2) (i := 2) (lv' := [(0, .ref x0), (1, .int v5.1), (2, .int v6.1)]) (by decide +kernel) rfl (Nat.le_of_ble_eq_true rfl) rfl rfl ?_
    refine ab_aload_n (pc := 31) (n := 0) (i := 0) (j := 0) (by decide +kernel) rfl rfl ?_
    refine ab_callUi (As := []) (st := []) (pc := 32) lk_X1_58_1 rfl rfl rfl (by decide) rfl (Nat.le_of_ble_eq_true rfl) (by decide +kernel) (fun y9 e9 => okX10_isRightD hl e9) (fun v7 ev7 => ?_)
    refine ab_if_eq (off := 12) (pc := 35) (tgt := 47) (by decide +kernel) (by decide) (fun g8 => ?_) (fun g8 => ?_)
    · exact ab_vret (pc := 47) (by decide +kernel) rfl rfl (Nat.le_of_ble_eq_true rfl) (Nat.le_of_ble_eq_true rfl)
    · refine ab_aload_n (pc := 38) (n := 0) (i := 0) (j := 0) (by decide +kernel) rfl rfl ?_
      refine ab_getR (pc := 39) fl_X1_19_1 (by decide +kernel) (fun v9 ev9 => ?_)
      refine ab_iload_n (pc := 42) (n := 1) (i := 1) (j := 1) (by decide +kernel) rfl rfl ?_
      refine ab_iload_n (pc := 43) (n := 2) (i := 2) (j := 2) (by decide +kernel) rfl rfl ?_
      refine ab_callVw (As := [.int v5.1, .int v6.1]) (st := []) (pc := 44) lk_X1_96_8 rfl rfl rfl (by decide) rfl (Nat.le_of_ble_eq_true rfl) (by decide +kernel) (fun y9 e9 => okX8_addPerson hl (F := F) e9) (fun h10 eh10 => ?_)
      exact ab_vret (pc := 47) (by decide +kernel) rfl rfl (Nat.le_of_ble_eq_true rfl) (Nat.le_of_ble_eq_true rfl)
  · refine ab_icmp_ge (off := 7) (pc := 10) (tgt := 17) (by decide +kernel) (by decide) (fun g12 => ?_) (fun g12 => ?_)
    · refine ab_iconst (pc := 13) (n := 1) (v := nI 1) (by decide +kernel) rfl ?_
      refine ab_goto (pc := 14) (off := 4) (tgt := 18) (by decide +kernel) (by decide) ?_
      exact hj11 (nI 1)
    · refine ab_iconst (pc := 17) (n := 0) (v := nI 0) (by decide +kernel) rfl ?_
      exact hj11 (nI 0)
set_option maxRecDepth 100000 in
set_option maxHeartbeats 4000000 in
theorem okX1_readPerson {l : Launch} (hl : l.stackTraces = false) {F : Nat} {x0 : Nat} {h : ab_H} {y : ab_H} (e : fX1_readPerson F x0 h = some y) : ab_Met l mX1_readPerson [.ref x0] h (.inl none, y) := ab_ofS (io := (fun y : ab_H => ((.inl none, y) : ab_R × ab_H))) (x := y) hl (by decide) rfl (Nat.le_of_ble_eq_true rfl) (wX1_readPerson hl F x0 h) e
def mX5_trade : ab_M := (yX5_trade, cX5_trade, 4, none, { frames := 3, cells := 0, slots := 0, locals := 69 })
theorem iX5_trade : ab_MI mX5_trade 1 := ⟨kw_3ddbfd60eb, kw_c0673d947a, by decide +kernel⟩
theorem lk_X5_18 : ab_LS RX5 18 mJ7_fill_53178 2 := ⟨iJ7_fill_53178, kw_d06cf07c08, kw_7d558e229b⟩
theorem lk_X5_33_5 : ab_LV RX5 33 5 mX5_point 2 := ⟨RX5, rfl, iX5_point, kw_fe0163dbe0, kw_104db6be24, kw_91f77ba5c5⟩
theorem lk_X5_37_5 : ab_LV RX5 37 5 mX5_giveRing 2 := ⟨RX5, rfl, iX5_giveRing, kw_336af1bab5, kw_b05fcbb103, kw_e4748d22fe⟩
def fX5_trade_12 (F : Nat) (x0 : Nat) (x1 : Nat) (h : ab_H) (k42 : Int32 → Option ab_H) : Nat → Int32 → Int32 → Option ab_H
  | 0, _, _ => none
  | n + 1, x2, x3 => ab_bd (ab_fi h x1 8 0) fun v3 => (if x3 < v3 then ab_bd (ab_fr h x1 8 11) fun v5 => ab_bd (ab_ia 0 h v5 x3) fun v6 => (if v6 = (-1 : Int32) then fX5_trade_12 F x0 x1 h k42 n x2 (x3 + nI 1) else fX5_trade_12 F x0 x1 h k42 n (x2 ||| ((nI 1) <<< (x3 &&& 31))) (x3 + nI 1)) else k42 x2)
def fX5_trade_44 (F : Nat) (x0 : Nat) (x1 : Nat) : Nat → Int32 → Int32 → ab_H → Option ab_H
  | 0, _, _, _ => none
  | n + 1, x2, x3, h => (if x3 < (nI 10) then (if x2 = 0 then some h else ab_ck (ab_io h x0 5 = true) (ab_bd (fX5_point F x0 x1 x2 h) fun h11 => ab_ck (ab_io h11 x0 5 = true) (ab_bd (fX5_giveRing F x0 x1 x2 h11) fun v12 => fX5_trade_44 F x0 x1 n (x2 &&& (v12.1 ^^^ (-1 : Int32))) (x3 + nI 1) v12.2))) else some h)
def fX5_trade (F : Nat) (x0 : Nat) (x1 : Nat) (h : ab_H) : Option ab_H := ab_bd (ab_fr h x0 5 0) fun v1 => ab_bd (fJ7_fill_53178 F v1 (-1 : Int32) h) fun h2 => fX5_trade_12 F x0 x1 h2 (fun (z8 : Int32) => fX5_trade_44 F x0 x1 F z8 (nI 0) h2) F (nI 0) (nI 0)
set_option maxRecDepth 100000 in
set_option maxHeartbeats 4000000 in
theorem lX5_trade_12 {l : Launch} (hl : l.stackTraces = false) (F : Nat) (x0 : Nat) (x1 : Nat) (h : ab_H) {k42 : Int32 → Option ab_H} (hk42 : ∀ (x2 : Int32), ab_S l mX5_trade (fun y : ab_H => ((.inl none, y) : ab_R × ab_H)) 0 0 (k42 x2) 42 [(0, .ref x0), (1, .ref x1), (2, .int x2)] [] h) : ∀ (n : Nat) (x2 : Int32) (x3 : Int32), ab_S l mX5_trade (fun y : ab_H => ((.inl none, y) : ab_R × ab_H)) 0 0 (fX5_trade_12 F x0 x1 h k42 n x2 x3) 12 [(0, .ref x0), (1, .ref x1), (2, .int x2), (3, .int x3)] [] h := by
  intro n
  induction n with
  | zero =>
    intro x2 x3
    exact ab_none
  | succ n ih =>
    intro x2 x3
    rw [fX5_trade_12]
    refine ab_iload_n (pc := 12) (n := 3) (i := 3) (j := 3) (by decide +kernel) rfl rfl ?_
    refine ab_aload_n (pc := 13) (n := 1) (i := 1) (j := 1) (by decide +kernel) rfl rfl ?_
    refine ab_getI (pc := 14) fl_X5_24_8 (by decide +kernel) (fun v3 ev3 => ?_)
    refine ab_icmp_ge (off := 25) (pc := 17) (tgt := 42) (by decide +kernel) (by decide) (fun g4 => ?_) (fun g4 => ?_)
    · refine ab_aload_n (pc := 20) (n := 1) (i := 1) (j := 1) (by decide +kernel) rfl rfl ?_
      refine ab_getR (pc := 21) fl_X5_30_8 (by decide +kernel) (fun v5 ev5 => ?_)
      refine ab_iload_n (pc := 24) (n := 3) (i := 3) (j := 3) (by decide +kernel) rfl rfl ?_
      refine ab_iald (pc := 25) (by decide +kernel) (fun v6 ev6 => ?_)
      refine ab_iconst (pc := 26) (n := -1) (v := (-1 : Int32)) (by decide +kernel) rfl ?_
      refine ab_icmp_eq (off := 9) (pc := 27) (tgt := 36) (by decide +kernel) (by decide) (fun g7 => ?_) (fun g7 => ?_)
      · refine ab_iinc (pc := 36) (i := 3) (n := 1) (j := 3) (d := nI 1) (lv' := [(0, .ref x0), (1, .ref x1), (2, .int x2), (3, .int (x3 + nI 1))]) (by decide +kernel) rfl rfl (Nat.le_of_ble_eq_true rfl) rfl rfl ?_
        refine ab_goto (pc := 39) (off := (-27)) (tgt := 12) (by decide +kernel) (by decide) ?_
        exact ih x2 (x3 + nI 1)
      · refine ab_iload_n (pc := 30) (n := 2) (i := 2) (j := 2) (by decide +kernel) rfl rfl ?_
        refine ab_iconst (pc := 31) (n := 1) (v := nI 1) (by decide +kernel) rfl ?_
        refine ab_iload_n (pc := 32) (n := 3) (i := 3) (j := 3) (by decide +kernel) rfl rfl ?_
        refine ab_ishl (pc := 33) (by decide +kernel) ?_
        refine ab_ior (pc := 34) (by decide +kernel) ?_
        refine ab_istore_n (pc := 35) (n := 2) (i := 2) (lv' := [(0, .ref x0), (1, .ref x1), (2, .int (x2 ||| ((nI 1) <<< (x3 &&& 31)))), (3, .int x3)]) (by decide +kernel) rfl (Nat.le_of_ble_eq_true rfl) rfl rfl ?_
        refine ab_iinc (pc := 36) (i := 3) (n := 1) (j := 3) (d := nI 1) (lv' := [(0, .ref x0), (1, .ref x1), (2, .int (x2 ||| ((nI 1) <<< (x3 &&& 31)))), (3, .int (x3 + nI 1))]) (by decide +kernel) rfl rfl (Nat.le_of_ble_eq_true rfl) rfl rfl ?_
        refine ab_goto (pc := 39) (off := (-27)) (tgt := 12) (by decide +kernel) (by decide) ?_
        exact ih (x2 ||| ((nI 1) <<< (x3 &&& 31))) (x3 + nI 1)
    · refine ab_few [0, 1, 2] (lv' := [(0, .ref x0), (1, .ref x1), (2, .int x2)]) rfl ?_
      exact hk42 x2
set_option maxRecDepth 100000 in
set_option maxHeartbeats 4000000 in
theorem lX5_trade_44 {l : Launch} (hl : l.stackTraces = false) (F : Nat) (x0 : Nat) (x1 : Nat) : ∀ (n : Nat) (x2 : Int32) (x3 : Int32) (h : ab_H), ab_S l mX5_trade (fun y : ab_H => ((.inl none, y) : ab_R × ab_H)) 0 0 (fX5_trade_44 F x0 x1 n x2 x3 h) 44 [(0, .ref x0), (1, .ref x1), (2, .int x2), (3, .int x3)] [] h := by
  intro n
  induction n with
  | zero =>
    intro x2 x3 h
    exact ab_none
  | succ n ih =>
    intro x2 x3 h
    rw [fX5_trade_44]
    refine ab_iload_n (pc := 44) (n := 3) (i := 3) (j := 3) (by decide +kernel) rfl rfl ?_
    refine ab_bipush (pc := 45) (n := 10) (v := nI 10) (by decide +kernel) (by decide) ?_
    refine ab_icmp_ge (off := 30) (pc := 47) (tgt := 77) (by decide +kernel) (by decide) (fun g9 => ?_) (fun g9 => ?_)
    · refine ab_iload_n (pc := 50) (n := 2) (i := 2) (j := 2) (by decide +kernel) rfl rfl ?_
      refine ab_if_eq (off := 26) (pc := 51) (tgt := 77) (by decide +kernel) (by decide) (fun g10 => ?_) (fun g10 => ?_)
      · exact ab_vret (pc := 77) (by decide +kernel) rfl rfl (Nat.le_of_ble_eq_true rfl) (Nat.le_of_ble_eq_true rfl)
      · refine ab_aload_n (pc := 54) (n := 0) (i := 0) (j := 0) (by decide +kernel) rfl rfl ?_
        refine ab_aload_n (pc := 55) (n := 1) (i := 1) (j := 1) (by decide +kernel) rfl rfl ?_
        refine ab_iload_n (pc := 56) (n := 2) (i := 2) (j := 2) (by decide +kernel) rfl rfl ?_
        refine ab_callVw (As := [.ref x1, .int x2]) (st := []) (pc := 57) lk_X5_33_5 rfl rfl rfl (by decide) rfl (Nat.le_of_ble_eq_true rfl) (by decide +kernel) (fun y9 e9 => okX5_point hl (F := F) e9) (fun h11 eh11 => ?_)
        refine ab_iload_n (pc := 60) (n := 2) (i := 2) (j := 2) (by decide +kernel) rfl rfl ?_
        refine ab_aload_n (pc := 61) (n := 0) (i := 0) (j := 0) (by decide +kernel) rfl rfl ?_
        refine ab_aload_n (pc := 62) (n := 1) (i := 1) (j := 1) (by decide +kernel) rfl rfl ?_
        refine ab_iload_n (pc := 63) (n := 2) (i := 2) (j := 2) (by decide +kernel) rfl rfl ?_
        refine ab_callVj (As := [.ref x1, .int x2]) (st := [.int x2]) (pc := 64) lk_X5_37_5 rfl rfl rfl (by decide) rfl (Nat.le_of_ble_eq_true rfl) (by decide +kernel) (fun y9 e9 => okX5_giveRing hl (F := F) e9) (fun v12 ev12 => ?_)
        refine ab_iconst (pc := 67) (n := -1) (v := (-1 : Int32)) (by decide +kernel) rfl ?_
        refine ab_ixor (pc := 68) (by decide +kernel) ?_
        refine ab_iand (pc := 69) (by decide +kernel) ?_
        refine ab_istore_n (pc := 70) (n := 2) (i := 2) (lv' := [(0, .ref x0), (1, .ref x1), (2, .int (x2 &&& (v12.1 ^^^ (-1 : Int32)))), (3, .int x3)]) (by decide +kernel) rfl (Nat.le_of_ble_eq_true rfl) rfl rfl ?_
        refine ab_iinc (pc := 71) (i := 3) (n := 1) (j := 3) (d := nI 1) (lv' := [(0, .ref x0), (1, .ref x1), (2, .int (x2 &&& (v12.1 ^^^ (-1 : Int32)))), (3, .int (x3 + nI 1))]) (by decide +kernel) rfl rfl (Nat.le_of_ble_eq_true rfl) rfl rfl ?_
        refine ab_goto (pc := 74) (off := (-30)) (tgt := 44) (by decide +kernel) (by decide) ?_
        exact ih (x2 &&& (v12.1 ^^^ (-1 : Int32))) (x3 + nI 1) v12.2
    · exact ab_vret (pc := 77) (by decide +kernel) rfl rfl (Nat.le_of_ble_eq_true rfl) (Nat.le_of_ble_eq_true rfl)
set_option maxRecDepth 100000 in
set_option maxHeartbeats 4000000 in
theorem wX5_trade {l : Launch} (hl : l.stackTraces = false) (F : Nat) (x0 : Nat) (x1 : Nat) (h : ab_H) : ab_S l mX5_trade (fun y : ab_H => ((.inl none, y) : ab_R × ab_H)) 0 0 (fX5_trade F x0 x1 h) 0 [(0, .ref x0), (1, .ref x1)] [] h := by
  unfold fX5_trade
  refine ab_aload_n (pc := 0) (n := 0) (i := 0) (j := 0) (by decide +kernel) rfl rfl ?_
  refine ab_getR (pc := 1) fl_X5_9_5 (by decide +kernel) (fun v1 ev1 => ?_)
  refine ab_iconst (pc := 4) (n := -1) (v := (-1 : Int32)) (by decide +kernel) rfl ?_
  refine ab_callSw (As := [.ref v1, .int (-1 : Int32)]) (st := []) (pc := 5) lk_X5_18 rfl rfl rfl (by decide) rfl (Nat.le_of_ble_eq_true rfl) (by decide +kernel) (fun y9 e9 => okJ7_fill_53178 hl (F := F) e9) (fun h2 eh2 => ?_)
  refine ab_iconst (pc := 8) (n := 0) (v := nI 0) (by decide +kernel) rfl ?_
  refine ab_istore_n (pc := 9) (n := 2) (i := 2) (lv' := [(0, .ref x0), (1, .ref x1), (2, .int (nI 0))]) (by decide +kernel) rfl (Nat.le_of_ble_eq_true rfl) rfl rfl ?_
  refine ab_iconst (pc := 10) (n := 0) (v := nI 0) (by decide +kernel) rfl ?_
  refine ab_istore_n (pc := 11) (n := 3) (i := 3) (lv' := [(0, .ref x0), (1, .ref x1), (2, .int (nI 0)), (3, .int (nI 0))]) (by decide +kernel) rfl (Nat.le_of_ble_eq_true rfl) rfl rfl ?_
  refine lX5_trade_12 hl F x0 x1 h2 ?_ F (nI 0) (nI 0)
  intro z8
  refine ab_iconst (pc := 42) (n := 0) (v := nI 0) (by decide +kernel) rfl ?_
  refine ab_istore_n (pc := 43) (n := 3) (i := 3) (lv' := [(0, .ref x0), (1, .ref x1), (2, .int z8), (3, .int (nI 0))]) (by decide +kernel) rfl (Nat.le_of_ble_eq_true rfl) rfl rfl ?_
  refine lX5_trade_44 hl F x0 x1 F z8 (nI 0) h2
set_option maxRecDepth 100000 in
set_option maxHeartbeats 4000000 in
theorem okX5_trade {l : Launch} (hl : l.stackTraces = false) {F : Nat} {x0 : Nat} {x1 : Nat} {h : ab_H} {y : ab_H} (e : fX5_trade F x0 x1 h = some y) : ab_Met l mX5_trade [.ref x0, .ref x1] h (.inl none, y) := ab_ofS (io := (fun y : ab_H => ((.inl none, y) : ab_R × ab_H))) (x := y) hl (by decide) rfl (Nat.le_of_ble_eq_true rfl) (wX5_trade hl F x0 x1 h) e
def mX8_passHour : ab_M := (yX8_passHour, cX8_passHour, 3, (some .int), { frames := 4, cells := 0, slots := 0, locals := 95 })
theorem iX8_passHour : ab_MI mX8_passHour 0 := ⟨kw_9d7f94515c, kw_a869362287, by decide +kernel⟩
theorem lk_X8_123_8 : ab_LV RX8 123 8 mX8_takesTurn 1 := ⟨RX8, rfl, iX8_takesTurn, kw_9b01148a35, kw_4b9f4ddf42, kw_68a6eccad8⟩
theorem lk_X8_130_8 : ab_LV RX8 130 8 mX8_mixByDraws 0 := ⟨RX8, rfl, iX8_mixByDraws, kw_d3e2b69332, kw_d107608195, kw_7e6e0c3e57⟩
theorem lk_X8_133_8 : ab_LV RX8 133 8 mX8_robByDraw 0 := ⟨RX8, rfl, iX8_robByDraw, kw_7d58608b5c, kw_8f395df697, kw_877ec9f895⟩
def fX8_passHour_4 (F : Nat) (x0 : Nat) (k29 : Int32 → ab_H → Option (Int32 × ab_H)) : Nat → Int32 → Int32 → ab_H → Option (Int32 × ab_H)
  | 0, _, _, _ => none
  | n + 1, x1, x2, h => ab_bd (ab_fi h x0 8 0) fun v1 => (if x2 < v1 then ab_ck (ab_io h x0 8 = true) (ab_bd (fX8_takesTurn F x0 x2 h) fun v3 => (if v3.1 = 0 then fX8_passHour_4 F x0 k29 n x1 (x2 + nI 1) v3.2 else fX8_passHour_4 F x0 k29 n (x1 + nI 1) (x2 + nI 1) v3.2)) else k29 x1 h)
def fX8_passHour (F : Nat) (x0 : Nat) (h : ab_H) : Option (Int32 × ab_H) := fX8_passHour_4 F x0 (fun (z5 : Int32) (h6 : ab_H) => ab_ck (ab_io h6 x0 8 = true) (ab_bd (fX8_draw x0 h6) fun v7 => ab_ck (¬ (nI 100) = 0) (ab_bd (ab_fi v7.2 x0 8 3) fun v9 => ab_jn (κ := ab_H → Option (Int32 × ab_H)) (fun (h10 : ab_H) => ab_ck (ab_io h10 x0 8 = true) (ab_bd (fX8_draw x0 h10) fun v11 => ab_ck (¬ (nI 100) = 0) (ab_bd (ab_fi v11.2 x0 8 4) fun v13 => (if (ab_rm v11.1 (nI 100)) < v13 then ab_ck (ab_io v11.2 x0 8 = true) (ab_bd (fX8_robByDraw F x0 v11.2) fun h15 => ab_bd (ab_fi h15 x0 8 2) fun v16 => ab_bd (ab_fw h15 x0 8 2 (.int (v16 + (nI 1)))) fun h17 => some (z5, h17)) else ab_bd (ab_fi v11.2 x0 8 2) fun v18 => ab_bd (ab_fw v11.2 x0 8 2 (.int (v18 + (nI 1)))) fun h19 => some (z5, h19))))) fun j20 => (if (ab_rm v7.1 (nI 100)) < v9 then ab_ck (ab_io v7.2 x0 8 = true) (ab_bd (fX8_mixByDraws F x0 v7.2) fun h22 => j20 h22) else j20 v7.2)))) F (nI 0) (nI 0) h
set_option maxRecDepth 100000 in
set_option maxHeartbeats 4000000 in
theorem lX8_passHour_4 {l : Launch} (hl : l.stackTraces = false) (F : Nat) (x0 : Nat) {k29 : Int32 → ab_H → Option (Int32 × ab_H)} (hk29 : ∀ (x1 : Int32), ∀ (h : ab_H), ab_S l mX8_passHour (fun y : (Int32 × ab_H) => ((.inl (some (.int y.1)), y.2) : ab_R × ab_H)) 0 0 (k29 x1 h) 29 [(0, .ref x0), (1, .int x1)] [] h) : ∀ (n : Nat) (x1 : Int32) (x2 : Int32) (h : ab_H), ab_S l mX8_passHour (fun y : (Int32 × ab_H) => ((.inl (some (.int y.1)), y.2) : ab_R × ab_H)) 0 0 (fX8_passHour_4 F x0 k29 n x1 x2 h) 4 [(0, .ref x0), (1, .int x1), (2, .int x2)] [] h := by
  intro n
  induction n with
  | zero =>
    intro x1 x2 h
    exact ab_none
  | succ n ih =>
    intro x1 x2 h
    rw [fX8_passHour_4]
    refine ab_iload_n (pc := 4) (n := 2) (i := 2) (j := 2) (by decide +kernel) rfl rfl ?_
    refine ab_aload_n (pc := 5) (n := 0) (i := 0) (j := 0) (by decide +kernel) rfl rfl ?_
    refine ab_getI (pc := 6) fl_X8_63_8 (by decide +kernel) (fun v1 ev1 => ?_)
    refine ab_icmp_ge (off := 20) (pc := 9) (tgt := 29) (by decide +kernel) (by decide) (fun g2 => ?_) (fun g2 => ?_)
    · refine ab_aload_n (pc := 12) (n := 0) (i := 0) (j := 0) (by decide +kernel) rfl rfl ?_
      refine ab_iload_n (pc := 13) (n := 2) (i := 2) (j := 2) (by decide +kernel) rfl rfl ?_
      refine ab_callVj (As := [.int x2]) (st := []) (pc := 14) lk_X8_123_8 rfl rfl rfl (by decide) rfl (Nat.le_of_ble_eq_true rfl) (by decide +kernel) (fun y9 e9 => okX8_takesTurn hl (F := F) e9) (fun v3 ev3 => ?_)
      refine ab_if_eq (off := 6) (pc := 17) (tgt := 23) (by decide +kernel) (by decide) (fun g4 => ?_) (fun g4 => ?_)
      · refine ab_iinc (pc := 23) (i := 2) (n := 1) (j := 2) (d := nI 1) (lv' := [(0, .ref x0), (1, .int x1), (2, .int (x2 + nI 1))]) (by decide +kernel) rfl rfl (Nat.le_of_ble_eq_true rfl) rfl rfl ?_
        refine ab_goto (pc := 26) (off := (-22)) (tgt := 4) (by decide +kernel) (by decide) ?_
        exact ih x1 (x2 + nI 1) v3.2
      · refine ab_iinc (pc := 20) (i := 1) (n := 1) (j := 1) (d := nI 1) (lv' := [(0, .ref x0), (1, .int (x1 + nI 1)), (2, .int x2)]) (by decide +kernel) rfl rfl (Nat.le_of_ble_eq_true rfl) rfl rfl ?_
        refine ab_iinc (pc := 23) (i := 2) (n := 1) (j := 2) (d := nI 1) (lv' := [(0, .ref x0), (1, .int (x1 + nI 1)), (2, .int (x2 + nI 1))]) (by decide +kernel) rfl rfl (Nat.le_of_ble_eq_true rfl) rfl rfl ?_
        refine ab_goto (pc := 26) (off := (-22)) (tgt := 4) (by decide +kernel) (by decide) ?_
        exact ih (x1 + nI 1) (x2 + nI 1) v3.2
    · refine ab_few [0, 1] (lv' := [(0, .ref x0), (1, .int x1)]) rfl ?_
      exact hk29 x1 h
set_option maxRecDepth 100000 in
set_option maxHeartbeats 4000000 in
theorem wX8_passHour {l : Launch} (hl : l.stackTraces = false) (F : Nat) (x0 : Nat) (h : ab_H) : ab_S l mX8_passHour (fun y : (Int32 × ab_H) => ((.inl (some (.int y.1)), y.2) : ab_R × ab_H)) 0 0 (fX8_passHour F x0 h) 0 [(0, .ref x0)] [] h := by
  unfold fX8_passHour
  refine ab_iconst (pc := 0) (n := 0) (v := nI 0) (by decide +kernel) rfl ?_
  refine ab_istore_n (pc := 1) (n := 1) (i := 1) (lv' := [(0, .ref x0), (1, .int (nI 0))]) (by decide +kernel) rfl (Nat.le_of_ble_eq_true rfl) rfl rfl ?_
  refine ab_iconst (pc := 2) (n := 0) (v := nI 0) (by decide +kernel) rfl ?_
  refine ab_istore_n (pc := 3) (n := 2) (i := 2) (lv' := [(0, .ref x0), (1, .int (nI 0)), (2, .int (nI 0))]) (by decide +kernel) rfl (Nat.le_of_ble_eq_true rfl) rfl rfl ?_
  refine lX8_passHour_4 hl F x0 ?_ F (nI 0) (nI 0) h
  intro z5 h6
  refine ab_aload_n (pc := 29) (n := 0) (i := 0) (j := 0) (by decide +kernel) rfl rfl ?_
  refine ab_callVj (As := []) (st := []) (pc := 30) lk_X8_126_8 rfl rfl rfl (by decide) rfl (Nat.le_of_ble_eq_true rfl) (by decide +kernel) (fun y9 e9 => okX8_draw hl e9) (fun v7 ev7 => ?_)
  refine ab_bipush (pc := 33) (n := 100) (v := nI 100) (by decide +kernel) (by decide) ?_
  refine ab_irem (pc := 35) (by decide +kernel) (fun g8 => ?_)
  refine ab_aload_n (pc := 36) (n := 0) (i := 0) (j := 0) (by decide +kernel) rfl rfl ?_
  refine ab_getI (pc := 37) fl_X8_69_8 (by decide +kernel) (fun v9 ev9 => ?_)
  refine ab_jr (fun k9 : ab_H → Option (Int32 × ab_H) => ∀ (h10 : ab_H), ab_S l mX8_passHour (fun y : (Int32 × ab_H) => ((.inl (some (.int y.1)), y.2) : ab_R × ab_H)) 0 0 (k9 h10) 47 [(0, .ref x0), (1, .int z5)] [] h10) ?_ (fun j20 hj20 => ?_)
  · intro h10
    refine ab_aload_n (pc := 47) (n := 0) (i := 0) (j := 0) (by decide +kernel) rfl rfl ?_
    refine ab_callVj (As := []) (st := []) (pc := 48) lk_X8_126_8 rfl rfl rfl (by decide) rfl (Nat.le_of_ble_eq_true rfl) (by decide +kernel) (fun y9 e9 => okX8_draw hl e9) (fun v11 ev11 => ?_)
    refine ab_bipush (pc := 51) (n := 100) (v := nI 100) (by decide +kernel) (by decide) ?_
    refine ab_irem (pc := 53) (by decide +kernel) (fun g12 => ?_)
    refine ab_aload_n (pc := 54) (n := 0) (i := 0) (j := 0) (by decide +kernel) rfl rfl ?_
    refine ab_getI (pc := 55) fl_X8_72_8 (by decide +kernel) (fun v13 ev13 => ?_)
    refine ab_icmp_ge (off := 7) (pc := 58) (tgt := 65) (by decide +kernel) (by decide) (fun g14 => ?_) (fun g14 => ?_)
    · refine ab_aload_n (pc := 61) (n := 0) (i := 0) (j := 0) (by decide +kernel) rfl rfl ?_
      refine ab_callVw (As := []) (st := []) (pc := 62) lk_X8_133_8 rfl rfl rfl (by decide) rfl (Nat.le_of_ble_eq_true rfl) (by decide +kernel) (fun y9 e9 => okX8_robByDraw hl (F := F) e9) (fun h15 eh15 => ?_)
      refine ab_aload_n (pc := 65) (n := 0) (i := 0) (j := 0) (by decide +kernel) rfl rfl ?_
      refine ab_dup (pc := 66) (by decide +kernel) rfl ?_
      refine ab_getI (pc := 67) fl_X8_66_8 (by decide +kernel) (fun v16 ev16 => ?_)
      refine ab_iconst (pc := 70) (n := 1) (v := nI 1) (by decide +kernel) rfl ?_
      refine ab_iadd (pc := 71) (by decide +kernel) ?_
      refine ab_put (pc := 72) fl_X8_66_8 rfl (fun _ => rfl) (fun _ => rfl) (by decide +kernel) (fun h17 eh17 => ?_)
      refine ab_iload_n (pc := 75) (n := 1) (i := 1) (j := 1) (by decide +kernel) rfl rfl ?_
      exact ab_iret (pc := 76) (by decide +kernel) rfl rfl (Nat.le_of_ble_eq_true rfl) (Nat.le_of_ble_eq_true rfl)
    · refine ab_aload_n (pc := 65) (n := 0) (i := 0) (j := 0) (by decide +kernel) rfl rfl ?_
      refine ab_dup (pc := 66) (by decide +kernel) rfl ?_
      refine ab_getI (pc := 67) fl_X8_66_8 (by decide +kernel) (fun v18 ev18 => ?_)
      refine ab_iconst (pc := 70) (n := 1) (v := nI 1) (by decide +kernel) rfl ?_
      refine ab_iadd (pc := 71) (by decide +kernel) ?_
      refine ab_put (pc := 72) fl_X8_66_8 rfl (fun _ => rfl) (fun _ => rfl) (by decide +kernel) (fun h19 eh19 => ?_)
      refine ab_iload_n (pc := 75) (n := 1) (i := 1) (j := 1) (by decide +kernel) rfl rfl ?_
      exact ab_iret (pc := 76) (by decide +kernel) rfl rfl (Nat.le_of_ble_eq_true rfl) (Nat.le_of_ble_eq_true rfl)
  · refine ab_icmp_ge (off := 7) (pc := 40) (tgt := 47) (by decide +kernel) (by decide) (fun g21 => ?_) (fun g21 => ?_)
    · refine ab_aload_n (pc := 43) (n := 0) (i := 0) (j := 0) (by decide +kernel) rfl rfl ?_
      refine ab_callVw (As := []) (st := []) (pc := 44) lk_X8_130_8 rfl rfl rfl (by decide) rfl (Nat.le_of_ble_eq_true rfl) (by decide +kernel) (fun y9 e9 => okX8_mixByDraws hl (F := F) e9) (fun h22 eh22 => ?_)
      exact hj20 h22
    · exact hj20 v7.2
set_option maxRecDepth 100000 in
set_option maxHeartbeats 4000000 in
theorem okX8_passHour {l : Launch} (hl : l.stackTraces = false) {F : Nat} {x0 : Nat} {h : ab_H} {y : (Int32 × ab_H)} (e : fX8_passHour F x0 h = some y) : ab_Met l mX8_passHour [.ref x0] h (.inl (some (.int y.1)), y.2) := ab_ofS (io := (fun y : (Int32 × ab_H) => ((.inl (some (.int y.1)), y.2) : ab_R × ab_H))) (x := y) hl (by decide) rfl (Nat.le_of_ble_eq_true rfl) (wX8_passHour hl F x0 h) e
def mX11_hours : ab_M := (yX11_hours, cX11_hours, 4, (some .int), { frames := 7, cells := 1, slots := 6, locals := 117 })
theorem iX11_hours : ab_MI mX11_hours 1 := ⟨kw_2deb922c06, kw_62b61b7ad3, by decide +kernel⟩
theorem lk_X11_247_8 : ab_LV RX11 247 8 mX8_passHour 0 := ⟨RX8, rfl, iX8_passHour, kw_fb517262f3, kw_f4f54d6afd, kw_4dddbfadfc⟩
def fX11_hours_22 (F : Nat) (x0 : Nat) (x1 : Int32) : Nat → Int32 → Int32 → ab_H → Option ((Int32 ⊕ String) × ab_H)
  | 0, _, _, _ => none
  | n + 1, x2, x3, h => (if x3 < x1 then ab_bd (ab_fr h x0 11 1) fun v6 => ab_ck (ab_io h v6 8 = true) (ab_bd (fX8_passHour F v6 h) fun v7 => fX11_hours_22 F x0 x1 n (x2 + v7.1) (x3 + nI 1) v7.2) else some (.inl x2, h))
def fX11_hours (F : Nat) (x0 : Nat) (x1 : Int32) (h : ab_H) : Option ((Int32 ⊕ String) × ab_H) := ab_bx (fX11_needNumber x1 (nI 1) (nI 50) h) (fun E => (Sum.inr E, h)) (ab_bd (ab_fr h x0 11 4) fun v2 => ab_bd (ab_fr h x0 11 1) fun v3 => ab_ck (ab_io h v2 6 = true) (ab_bd (fX6_keep v2 v3 h) fun h4 => fX11_hours_22 F x0 x1 F (nI 0) (nI 0) h4))
set_option maxRecDepth 100000 in
set_option maxHeartbeats 4000000 in
theorem lX11_hours_22 {l : Launch} (hl : l.stackTraces = false) (F : Nat) (x0 : Nat) (x1 : Int32) : ∀ (n : Nat) (x2 : Int32) (x3 : Int32) (h : ab_H), ab_S l mX11_hours (fun y : ((Int32 ⊕ String) × ab_H) => ((y.1.elim (fun x => .inl (some (.int x))) (fun E => .inr E), y.2) : ab_R × ab_H)) 1 6 (fX11_hours_22 F x0 x1 n x2 x3 h) 22 [(0, .ref x0), (1, .int x1), (2, .int x2), (3, .int x3)] [] h := by
  intro n
  induction n with
  | zero =>
    intro x2 x3 h
    exact ab_none
  | succ n ih =>
    intro x2 x3 h
    rw [fX11_hours_22]
    refine ab_iload_n (pc := 22) (n := 3) (i := 3) (j := 3) (by decide +kernel) rfl rfl ?_
    refine ab_iload_n (pc := 23) (n := 1) (i := 1) (j := 1) (by decide +kernel) rfl rfl ?_
    refine ab_icmp_ge (off := 19) (pc := 24) (tgt := 43) (by decide +kernel) (by decide) (fun g5 => ?_) (fun g5 => ?_)
    · refine ab_iload_n (pc := 27) (n := 2) (i := 2) (j := 2) (by decide +kernel) rfl rfl ?_
      refine ab_aload_n (pc := 28) (n := 0) (i := 0) (j := 0) (by decide +kernel) rfl rfl ?_
      refine ab_getR (pc := 29) fl_X11_26_11 (by decide +kernel) (fun v6 ev6 => ?_)
      refine ab_callVj (As := []) (st := [.int x2]) (pc := 32) lk_X11_247_8 rfl rfl rfl (by decide) rfl (Nat.le_of_ble_eq_true rfl) (by decide +kernel) (fun y9 e9 => okX8_passHour hl (F := F) e9) (fun v7 ev7 => ?_)
      refine ab_iadd (pc := 35) (by decide +kernel) ?_
      refine ab_istore_n (pc := 36) (n := 2) (i := 2) (lv' := [(0, .ref x0), (1, .int x1), (2, .int (x2 + v7.1)), (3, .int x3)]) (by decide +kernel) rfl (Nat.le_of_ble_eq_true rfl) rfl rfl ?_
      refine ab_iinc (pc := 37) (i := 3) (n := 1) (j := 3) (d := nI 1) (lv' := [(0, .ref x0), (1, .int x1), (2, .int (x2 + v7.1)), (3, .int (x3 + nI 1))]) (by decide +kernel) rfl rfl (Nat.le_of_ble_eq_true rfl) rfl rfl ?_
      refine ab_goto (pc := 40) (off := (-18)) (tgt := 22) (by decide +kernel) (by decide) ?_
      exact ih (x2 + v7.1) (x3 + nI 1) v7.2
    · refine ab_iload_n (pc := 43) (n := 2) (i := 2) (j := 2) (by decide +kernel) rfl rfl ?_
      exact ab_iret (pc := 44) (by decide +kernel) rfl rfl (Nat.le_of_ble_eq_true rfl) (Nat.le_of_ble_eq_true rfl)
set_option maxRecDepth 100000 in
set_option maxHeartbeats 4000000 in
theorem wX11_hours {l : Launch} (hl : l.stackTraces = false) (F : Nat) (x0 : Nat) (x1 : Int32) (h : ab_H) : ab_S l mX11_hours (fun y : ((Int32 ⊕ String) × ab_H) => ((y.1.elim (fun x => .inl (some (.int x))) (fun E => .inr E), y.2) : ab_R × ab_H)) 0 0 (fX11_hours F x0 x1 h) 0 [(0, .ref x0), (1, .int x1)] [] h := by
  unfold fX11_hours
  refine ab_iload_n (pc := 0) (n := 1) (i := 1) (j := 1) (by decide +kernel) rfl rfl ?_
  refine ab_iconst (pc := 1) (n := 1) (v := nI 1) (by decide +kernel) rfl ?_
  refine ab_bipush (pc := 2) (n := 50) (v := nI 50) (by decide +kernel) (by decide) ?_
  refine ab_callSt (As := [.int x1, .int (nI 1), .int (nI 50)]) (st := []) (thr := (fun E => (Sum.inr E, h))) (pc := 4) lk_X11_243 (fun _ => rfl) rfl (by decide) rfl (Nat.le_of_ble_eq_true rfl) (by decide +kernel) (fun y9 e9 => okX11_needNumber hl e9) ?_
  refine ab_aload_n (pc := 7) (n := 0) (i := 0) (j := 0) (by decide +kernel) rfl rfl ?_
  refine ab_getR (pc := 8) fl_X11_39_11 (by decide +kernel) (fun v2 ev2 => ?_)
  refine ab_aload_n (pc := 11) (n := 0) (i := 0) (j := 0) (by decide +kernel) rfl rfl ?_
  refine ab_getR (pc := 12) fl_X11_26_11 (by decide +kernel) (fun v3 ev3 => ?_)
  refine ab_callVw (As := [.ref v3]) (st := []) (pc := 15) lk_X11_197_6 rfl rfl rfl (by decide) rfl (Nat.le_of_ble_eq_true rfl) (by decide +kernel) (fun y9 e9 => okX6_keep hl e9) (fun h4 eh4 => ?_)
  refine ab_iconst (pc := 18) (n := 0) (v := nI 0) (by decide +kernel) rfl ?_
  refine ab_istore_n (pc := 19) (n := 2) (i := 2) (lv' := [(0, .ref x0), (1, .int x1), (2, .int (nI 0))]) (by decide +kernel) rfl (Nat.le_of_ble_eq_true rfl) rfl rfl ?_
  refine ab_iconst (pc := 20) (n := 0) (v := nI 0) (by decide +kernel) rfl ?_
  refine ab_istore_n (pc := 21) (n := 3) (i := 3) (lv' := [(0, .ref x0), (1, .int x1), (2, .int (nI 0)), (3, .int (nI 0))]) (by decide +kernel) rfl (Nat.le_of_ble_eq_true rfl) rfl rfl ?_
  refine lX11_hours_22 hl F x0 x1 F (nI 0) (nI 0) h4
set_option maxRecDepth 100000 in
set_option maxHeartbeats 4000000 in
theorem okX11_hours {l : Launch} (hl : l.stackTraces = false) {F : Nat} {x0 : Nat} {x1 : Int32} {h : ab_H} {y : ((Int32 ⊕ String) × ab_H)} (e : fX11_hours F x0 x1 h = some y) : ab_Met l mX11_hours [.ref x0, .int x1] h ((fun y : ((Int32 ⊕ String) × ab_H) => ((y.1.elim (fun x => .inl (some (.int x))) (fun E => .inr E), y.2) : ab_R × ab_H)) y) := ab_ofS (io := (fun y : ((Int32 ⊕ String) × ab_H) => ((y.1.elim (fun x => .inl (some (.int x))) (fun E => .inr E), y.2) : ab_R × ab_H))) (x := y) hl (by decide) rfl (Nat.le_of_ble_eq_true rfl) (wX11_hours hl F x0 x1 h) e
def mX11_core : ab_M := (yX11_core, cX11_core, 2, (some .int), { frames := 7, cells := 1, slots := 6, locals := 111 })
theorem iX11_core : ab_MI mX11_core 1 := ⟨kw_845c0e5c1c, kw_62b61b7ad3, by decide +kernel⟩
theorem lk_X11_281_5 : ab_LV RX11 281 5 mX5_trade 1 := ⟨RX5, rfl, iX5_trade, kw_44f5f2d686, kw_b1763dde8f, kw_07f0f4c591⟩
def fX11_core (F : Nat) (x0 : Nat) (x1 : Int32) (h : ab_H) : Option ((Int32 ⊕ String) × ab_H) := ab_ck (ab_io h x0 11 = true) (ab_bx (fX11_needPerson x0 x1 h) (fun E => (Sum.inr E, h)) (ab_bd (ab_fr h x0 11 8) fun v2 => ab_bd (ab_fr h x0 11 1) fun v3 => ab_ck (ab_io h v2 5 = true) (ab_bd (fX5_trade F v2 v3 h) fun h4 => ab_bd (ab_fr h4 x0 11 8) fun v5 => ab_bd (ab_fr h4 v5 5 0) fun v6 => ab_bd (ab_ia 0 h4 v6 x1) fun v7 => some (.inl v7, h4))))
set_option maxRecDepth 100000 in
set_option maxHeartbeats 4000000 in
theorem wX11_core {l : Launch} (hl : l.stackTraces = false) (F : Nat) (x0 : Nat) (x1 : Int32) (h : ab_H) : ab_S l mX11_core (fun y : ((Int32 ⊕ String) × ab_H) => ((y.1.elim (fun x => .inl (some (.int x))) (fun E => .inr E), y.2) : ab_R × ab_H)) 0 0 (fX11_core F x0 x1 h) 0 [(0, .ref x0), (1, .int x1)] [] h := by
  unfold fX11_core
  refine ab_aload_n (pc := 0) (n := 0) (i := 0) (j := 0) (by decide +kernel) rfl rfl ?_
  refine ab_iload_n (pc := 1) (n := 1) (i := 1) (j := 1) (by decide +kernel) rfl rfl ?_
  refine ab_callVt (As := [.int x1]) (st := []) (thr := (fun E => (Sum.inr E, h))) (pc := 2) lk_X11_131_11 (fun _ => rfl) rfl (by decide) rfl (Nat.le_of_ble_eq_true rfl) (by decide +kernel) (fun y9 e9 => okX11_needPerson hl e9) ?_
  refine ab_aload_n (pc := 5) (n := 0) (i := 0) (j := 0) (by decide +kernel) rfl rfl ?_
  refine ab_getR (pc := 6) fl_X11_76_11 (by decide +kernel) (fun v2 ev2 => ?_)
  refine ab_aload_n (pc := 9) (n := 0) (i := 0) (j := 0) (by decide +kernel) rfl rfl ?_
  refine ab_getR (pc := 10) fl_X11_26_11 (by decide +kernel) (fun v3 ev3 => ?_)
  refine ab_callVw (As := [.ref v3]) (st := []) (pc := 13) lk_X11_281_5 rfl rfl rfl (by decide) rfl (Nat.le_of_ble_eq_true rfl) (by decide +kernel) (fun y9 e9 => okX5_trade hl (F := F) e9) (fun h4 eh4 => ?_)
  refine ab_aload_n (pc := 16) (n := 0) (i := 0) (j := 0) (by decide +kernel) rfl rfl ?_
  refine ab_getR (pc := 17) fl_X11_76_11 (by decide +kernel) (fun v5 ev5 => ?_)
  refine ab_getR (pc := 20) fl_X11_284_5 (by decide +kernel) (fun v6 ev6 => ?_)
  refine ab_iload_n (pc := 23) (n := 1) (i := 1) (j := 1) (by decide +kernel) rfl rfl ?_
  refine ab_iald (pc := 24) (by decide +kernel) (fun v7 ev7 => ?_)
  exact ab_iret (pc := 25) (by decide +kernel) rfl rfl (Nat.le_of_ble_eq_true rfl) (Nat.le_of_ble_eq_true rfl)
set_option maxRecDepth 100000 in
set_option maxHeartbeats 4000000 in
theorem okX11_core {l : Launch} (hl : l.stackTraces = false) {F : Nat} {x0 : Nat} {x1 : Int32} {h : ab_H} {y : ((Int32 ⊕ String) × ab_H)} (e : fX11_core F x0 x1 h = some y) : ab_Met l mX11_core [.ref x0, .int x1] h ((fun y : ((Int32 ⊕ String) × ab_H) => ((y.1.elim (fun x => .inl (some (.int x))) (fun E => .inr E), y.2) : ab_R × ab_H)) y) := ab_ofS (io := (fun y : ((Int32 ⊕ String) × ab_H) => ((y.1.elim (fun x => .inl (some (.int x))) (fun E => .inr E), y.2) : ab_R × ab_H))) (x := y) hl (by decide) rfl (Nat.le_of_ble_eq_true rfl) (wX11_core hl F x0 x1 h) e
def mX11_gains : ab_M := (yX11_gains, cX11_gains, 3, (some .int), { frames := 4, cells := 0, slots := 0, locals := 92 })
theorem iX11_gains : ab_MI mX11_gains 0 := ⟨kw_e153ce7bbc, kw_62b61b7ad3, by decide +kernel⟩
def fX11_gains_15 (F : Nat) (x0 : Nat) (h : ab_H) : Nat → Int32 → Int32 → Option (Int32 × ab_H)
  | 0, _, _ => none
  | n + 1, x1, x2 => ab_bd (ab_fr h x0 11 1) fun v4 => ab_bd (ab_fi h v4 8 0) fun v5 => (if x2 < v5 then ab_bd (ab_fr h x0 11 8) fun v7 => ab_bd (ab_fr h v7 5 0) fun v8 => ab_bd (ab_ia 0 h v8 x2) fun v9 => ab_bd (ab_fr h x0 11 1) fun v10 => ab_bd (ab_fr h v10 8 11) fun v11 => ab_bd (ab_ia 0 h v11 x2) fun v12 => (if v9 = v12 then fX11_gains_15 F x0 h n x1 (x2 + nI 1) else fX11_gains_15 F x0 h n (x1 + nI 1) (x2 + nI 1)) else some (x1, h))
def fX11_gains (F : Nat) (x0 : Nat) (h : ab_H) : Option (Int32 × ab_H) := ab_bd (ab_fr h x0 11 8) fun v1 => ab_bd (ab_fr h x0 11 1) fun v2 => ab_ck (ab_io h v1 5 = true) (ab_bd (fX5_trade F v1 v2 h) fun h3 => fX11_gains_15 F x0 h3 F (nI 0) (nI 0))
set_option maxRecDepth 100000 in
set_option maxHeartbeats 4000000 in
theorem lX11_gains_15 {l : Launch} (hl : l.stackTraces = false) (F : Nat) (x0 : Nat) (h : ab_H) : ∀ (n : Nat) (x1 : Int32) (x2 : Int32), ab_S l mX11_gains (fun y : (Int32 × ab_H) => ((.inl (some (.int y.1)), y.2) : ab_R × ab_H)) 0 0 (fX11_gains_15 F x0 h n x1 x2) 15 [(0, .ref x0), (1, .int x1), (2, .int x2)] [] h := by
  intro n
  induction n with
  | zero =>
    intro x1 x2
    exact ab_none
  | succ n ih =>
    intro x1 x2
    rw [fX11_gains_15]
    refine ab_iload_n (pc := 15) (n := 2) (i := 2) (j := 2) (by decide +kernel) rfl rfl ?_
    refine ab_aload_n (pc := 16) (n := 0) (i := 0) (j := 0) (by decide +kernel) rfl rfl ?_
    refine ab_getR (pc := 17) fl_X11_26_11 (by decide +kernel) (fun v4 ev4 => ?_)
    refine ab_getI (pc := 20) fl_X11_180_8 (by decide +kernel) (fun v5 ev5 => ?_)
    refine ab_icmp_ge (off := 33) (pc := 23) (tgt := 56) (by decide +kernel) (by decide) (fun g6 => ?_) (fun g6 => ?_)
    · refine ab_aload_n (pc := 26) (n := 0) (i := 0) (j := 0) (by decide +kernel) rfl rfl ?_
      refine ab_getR (pc := 27) fl_X11_76_11 (by decide +kernel) (fun v7 ev7 => ?_)
      refine ab_getR (pc := 30) fl_X11_284_5 (by decide +kernel) (fun v8 ev8 => ?_)
      refine ab_iload_n (pc := 33) (n := 2) (i := 2) (j := 2) (by decide +kernel) rfl rfl ?_
      refine ab_iald (pc := 34) (by decide +kernel) (fun v9 ev9 => ?_)
      refine ab_aload_n (pc := 35) (n := 0) (i := 0) (j := 0) (by decide +kernel) rfl rfl ?_
      refine ab_getR (pc := 36) fl_X11_26_11 (by decide +kernel) (fun v10 ev10 => ?_)
      refine ab_getR (pc := 39) fl_X11_138_8 (by decide +kernel) (fun v11 ev11 => ?_)
      refine ab_iload_n (pc := 42) (n := 2) (i := 2) (j := 2) (by decide +kernel) rfl rfl ?_
      refine ab_iald (pc := 43) (by decide +kernel) (fun v12 ev12 => ?_)
      refine ab_icmp_eq (off := 6) (pc := 44) (tgt := 50) (by decide +kernel) (by decide) (fun g13 => ?_) (fun g13 => ?_)
      · refine ab_iinc (pc := 50) (i := 2) (n := 1) (j := 2) (d := nI 1) (lv' := [(0, .ref x0), (1, .int x1), (2, .int (x2 + nI 1))]) (by decide +kernel) rfl rfl (Nat.le_of_ble_eq_true rfl) rfl rfl ?_
        refine ab_goto (pc := 53) (off := (-38)) (tgt := 15) (by decide +kernel) (by decide) ?_
        exact ih x1 (x2 + nI 1)
      · refine ab_iinc (pc := 47) (i := 1) (n := 1) (j := 1) (d := nI 1) (lv' := [(0, .ref x0), (1, .int (x1 + nI 1)), (2, .int x2)]) (by decide +kernel) rfl rfl (Nat.le_of_ble_eq_true rfl) rfl rfl ?_
        refine ab_iinc (pc := 50) (i := 2) (n := 1) (j := 2) (d := nI 1) (lv' := [(0, .ref x0), (1, .int (x1 + nI 1)), (2, .int (x2 + nI 1))]) (by decide +kernel) rfl rfl (Nat.le_of_ble_eq_true rfl) rfl rfl ?_
        refine ab_goto (pc := 53) (off := (-38)) (tgt := 15) (by decide +kernel) (by decide) ?_
        exact ih (x1 + nI 1) (x2 + nI 1)
    · refine ab_iload_n (pc := 56) (n := 1) (i := 1) (j := 1) (by decide +kernel) rfl rfl ?_
      exact ab_iret (pc := 57) (by decide +kernel) rfl rfl (Nat.le_of_ble_eq_true rfl) (Nat.le_of_ble_eq_true rfl)
set_option maxRecDepth 100000 in
set_option maxHeartbeats 4000000 in
theorem wX11_gains {l : Launch} (hl : l.stackTraces = false) (F : Nat) (x0 : Nat) (h : ab_H) : ab_S l mX11_gains (fun y : (Int32 × ab_H) => ((.inl (some (.int y.1)), y.2) : ab_R × ab_H)) 0 0 (fX11_gains F x0 h) 0 [(0, .ref x0)] [] h := by
  unfold fX11_gains
  refine ab_aload_n (pc := 0) (n := 0) (i := 0) (j := 0) (by decide +kernel) rfl rfl ?_
  refine ab_getR (pc := 1) fl_X11_76_11 (by decide +kernel) (fun v1 ev1 => ?_)
  refine ab_aload_n (pc := 4) (n := 0) (i := 0) (j := 0) (by decide +kernel) rfl rfl ?_
  refine ab_getR (pc := 5) fl_X11_26_11 (by decide +kernel) (fun v2 ev2 => ?_)
  refine ab_callVw (As := [.ref v2]) (st := []) (pc := 8) lk_X11_281_5 rfl rfl rfl (by decide) rfl (Nat.le_of_ble_eq_true rfl) (by decide +kernel) (fun y9 e9 => okX5_trade hl (F := F) e9) (fun h3 eh3 => ?_)
  refine ab_iconst (pc := 11) (n := 0) (v := nI 0) (by decide +kernel) rfl ?_
  refine ab_istore_n (pc := 12) (n := 1) (i := 1) (lv' := [(0, .ref x0), (1, .int (nI 0))]) (by decide +kernel) rfl (Nat.le_of_ble_eq_true rfl) rfl rfl ?_
  refine ab_iconst (pc := 13) (n := 0) (v := nI 0) (by decide +kernel) rfl ?_
  refine ab_istore_n (pc := 14) (n := 2) (i := 2) (lv' := [(0, .ref x0), (1, .int (nI 0)), (2, .int (nI 0))]) (by decide +kernel) rfl (Nat.le_of_ble_eq_true rfl) rfl rfl ?_
  refine lX11_gains_15 hl F x0 h3 F (nI 0) (nI 0)
set_option maxRecDepth 100000 in
set_option maxHeartbeats 4000000 in
theorem okX11_gains {l : Launch} (hl : l.stackTraces = false) {F : Nat} {x0 : Nat} {h : ab_H} {y : (Int32 × ab_H)} (e : fX11_gains F x0 h = some y) : ab_Met l mX11_gains [.ref x0] h (.inl (some (.int y.1)), y.2) := ab_ofS (io := (fun y : (Int32 × ab_H) => ((.inl (some (.int y.1)), y.2) : ab_R × ab_H))) (x := y) hl (by decide) rfl (Nat.le_of_ble_eq_true rfl) (wX11_gains hl F x0 h) e
def mX11_wrongAfter : ab_M := (yX11_wrongAfter, cX11_wrongAfter, 4, (some .int), { frames := 5, cells := 0, slots := 0, locals := 117 })
theorem iX11_wrongAfter : ab_MI mX11_wrongAfter 2 := ⟨kw_bbe1879501, kw_62b61b7ad3, by decide +kernel⟩
def fX11_wrongAfter_21 (F : Nat) (x0 : Nat) (x1 : Int32) (k40 : ab_H → Option (Int32 × ab_H)) : Nat → Int32 → ab_H → Option (Int32 × ab_H)
  | 0, _, _ => none
  | n + 1, x3, h => (if x3 < x1 then ab_bd (ab_fr h x0 11 2) fun v7 => ab_ck (ab_io h v7 8 = true) (ab_bd (fX8_passHour F v7 h) fun v8 => fX11_wrongAfter_21 F x0 x1 k40 n (x3 + nI 1) v8.2) else k40 h)
def fX11_wrongAfter (F : Nat) (x0 : Nat) (x1 : Int32) (x2 : Int32) (h : ab_H) : Option (Int32 × ab_H) := ab_bd (ab_fr h x0 11 2) fun v1 => ab_bd (ab_fr h x0 11 1) fun v2 => ab_ck (ab_io h v1 8 = true) (ab_bd (fX8_copyFrom v1 v2 h) fun h3 => ab_bd (ab_fr h3 x0 11 2) fun v4 => ab_bd (ab_fw h3 v4 8 5 (.int x2)) fun h5 => fX11_wrongAfter_21 F x0 x1 (fun (h9 : ab_H) => ab_bd (ab_fr h9 x0 11 2) fun v10 => ab_ck (ab_io h9 v10 8 = true) (ab_bd (fX8_wrongOnes F v10 h9) fun v11 => ab_bd (fJ6_bitCount_0f7a4 v11 h9) fun v12 => some (v12, h9))) F (nI 0) h5)
set_option maxRecDepth 100000 in
set_option maxHeartbeats 4000000 in
theorem lX11_wrongAfter_21 {l : Launch} (hl : l.stackTraces = false) (F : Nat) (x0 : Nat) (x1 : Int32) {k40 : ab_H → Option (Int32 × ab_H)} (hk40 : ∀ (h : ab_H), ab_S l mX11_wrongAfter (fun y : (Int32 × ab_H) => ((.inl (some (.int y.1)), y.2) : ab_R × ab_H)) 0 0 (k40 h) 40 [(0, .ref x0)] [] h) : ∀ (n : Nat) (x3 : Int32) (h : ab_H), ab_S l mX11_wrongAfter (fun y : (Int32 × ab_H) => ((.inl (some (.int y.1)), y.2) : ab_R × ab_H)) 0 0 (fX11_wrongAfter_21 F x0 x1 k40 n x3 h) 21 [(0, .ref x0), (1, .int x1), (3, .int x3)] [] h := by
  intro n
  induction n with
  | zero =>
    intro x3 h
    exact ab_none
  | succ n ih =>
    intro x3 h
    rw [fX11_wrongAfter_21]
    refine ab_iload_n (pc := 21) (n := 3) (i := 3) (j := 2) (by decide +kernel) rfl rfl ?_
    refine ab_iload_n (pc := 22) (n := 1) (i := 1) (j := 1) (by decide +kernel) rfl rfl ?_
    refine ab_icmp_ge (off := 17) (pc := 23) (tgt := 40) (by decide +kernel) (by decide) (fun g6 => ?_) (fun g6 => ?_)
    · refine ab_aload_n (pc := 26) (n := 0) (i := 0) (j := 0) (by decide +kernel) rfl rfl ?_
      refine ab_getR (pc := 27) fl_X11_30_11 (by decide +kernel) (fun v7 ev7 => ?_)
      refine ab_callVj (As := []) (st := []) (pc := 30) lk_X11_247_8 rfl rfl rfl (by decide) rfl (Nat.le_of_ble_eq_true rfl) (by decide +kernel) (fun y9 e9 => okX8_passHour hl (F := F) e9) (fun v8 ev8 => ?_)
      refine ab_pop (pc := 33) (by decide +kernel) rfl ?_
      refine ab_iinc (pc := 34) (i := 3) (n := 1) (j := 2) (d := nI 1) (lv' := [(0, .ref x0), (1, .int x1), (3, .int (x3 + nI 1))]) (by decide +kernel) rfl rfl (Nat.le_of_ble_eq_true rfl) rfl rfl ?_
      refine ab_goto (pc := 37) (off := (-16)) (tgt := 21) (by decide +kernel) (by decide) ?_
      exact ih (x3 + nI 1) v8.2
    · refine ab_few [0] (lv' := [(0, .ref x0)]) rfl ?_
      exact hk40 h
set_option maxRecDepth 100000 in
set_option maxHeartbeats 4000000 in
theorem wX11_wrongAfter {l : Launch} (hl : l.stackTraces = false) (F : Nat) (x0 : Nat) (x1 : Int32) (x2 : Int32) (h : ab_H) : ab_S l mX11_wrongAfter (fun y : (Int32 × ab_H) => ((.inl (some (.int y.1)), y.2) : ab_R × ab_H)) 0 0 (fX11_wrongAfter F x0 x1 x2 h) 0 [(0, .ref x0), (1, .int x1), (2, .int x2)] [] h := by
  unfold fX11_wrongAfter
  refine ab_aload_n (pc := 0) (n := 0) (i := 0) (j := 0) (by decide +kernel) rfl rfl ?_
  refine ab_getR (pc := 1) fl_X11_30_11 (by decide +kernel) (fun v1 ev1 => ?_)
  refine ab_aload_n (pc := 4) (n := 0) (i := 0) (j := 0) (by decide +kernel) rfl rfl ?_
  refine ab_getR (pc := 5) fl_X11_26_11 (by decide +kernel) (fun v2 ev2 => ?_)
  refine ab_callVw (As := [.ref v2]) (st := []) (pc := 8) lk_X11_110_8 rfl rfl rfl (by decide) rfl (Nat.le_of_ble_eq_true rfl) (by decide +kernel) (fun y9 e9 => okX8_copyFrom hl e9) (fun h3 eh3 => ?_)
  refine ab_aload_n (pc := 11) (n := 0) (i := 0) (j := 0) (by decide +kernel) rfl rfl ?_
  refine ab_getR (pc := 12) fl_X11_30_11 (by decide +kernel) (fun v4 ev4 => ?_)
  refine ab_iload_n (pc := 15) (n := 2) (i := 2) (j := 2) (by decide +kernel) rfl rfl ?_
  refine ab_put (pc := 16) fl_X11_334_8 rfl (fun _ => rfl) (fun _ => rfl) (by decide +kernel) (fun h5 eh5 => ?_)
  refine ab_iconst (pc := 19) (n := 0) (v := nI 0) (by decide +kernel) rfl ?_
  refine ab_istore_n (pc := 20) (n := 3) (i := 3) (lv' := [(0, .ref x0), (1, .int x1), (2, .int x2), (3, .int (nI 0))]) (by decide +kernel) rfl (Nat.le_of_ble_eq_true rfl) rfl rfl ?_
  refine ab_few [0, 1, 3] (lv' := [(0, .ref x0), (1, .int x1), (3, .int (nI 0))]) rfl ?_
  refine lX11_wrongAfter_21 hl F x0 x1 ?_ F (nI 0) h5
  intro h9
  refine ab_aload_n (pc := 40) (n := 0) (i := 0) (j := 0) (by decide +kernel) rfl rfl ?_
  refine ab_getR (pc := 41) fl_X11_30_11 (by decide +kernel) (fun v10 ev10 => ?_)
  refine ab_callVi (As := []) (st := []) (pc := 44) lk_X11_250_8 rfl rfl rfl (by decide) rfl (Nat.le_of_ble_eq_true rfl) (by decide +kernel) (fun y9 e9 => okX8_wrongOnes hl (F := F) e9) (fun v11 ev11 => ?_)
  refine ab_callSi (As := [.int v11]) (st := []) (pc := 47) lk_X11_230 rfl rfl rfl (by decide) rfl (Nat.le_of_ble_eq_true rfl) (by decide +kernel) (fun y9 e9 => okJ6_bitCount_0f7a4 hl e9) (fun v12 ev12 => ?_)
  exact ab_iret (pc := 50) (by decide +kernel) rfl rfl (Nat.le_of_ble_eq_true rfl) (Nat.le_of_ble_eq_true rfl)
set_option maxRecDepth 100000 in
set_option maxHeartbeats 4000000 in
theorem okX11_wrongAfter {l : Launch} (hl : l.stackTraces = false) {F : Nat} {x0 : Nat} {x1 : Int32} {x2 : Int32} {h : ab_H} {y : (Int32 × ab_H)} (e : fX11_wrongAfter F x0 x1 x2 h = some y) : ab_Met l mX11_wrongAfter [.ref x0, .int x1, .int x2] h (.inl (some (.int y.1)), y.2) := ab_ofS (io := (fun y : (Int32 × ab_H) => ((.inl (some (.int y.1)), y.2) : ab_R × ab_H))) (x := y) hl (by decide) rfl (Nat.le_of_ble_eq_true rfl) (wX11_wrongAfter hl F x0 x1 x2 h) e
def mX10_readTextL : ab_M := (yX10_readText, cX10_readText, 2, (some .int), { frames := 20, cells := 0, slots := 0, locals := 464 })
theorem iX10_readTextL : ab_MI mX10_readTextL 0 := ⟨kw_27571194c5, kw_564260d124, by decide +kernel⟩
theorem lk_X10_25_0 : ab_LV RX10 25 0 mX0_cutText 0 := ⟨RX0, rfl, iX0_cutText, kw_c6cb7d389f, kw_402fe861f4, kw_9449f89d4d⟩
theorem lk_X10_30_3 : ab_LU RX10 30 3 mX3_startText 0 := ⟨"HungFaces$LawReader", "HungFaces$TextReader", ⟨"HungFaces$TextReader", "startText", "()V"⟩, rfl, iX3_startText, kw_cac350d902, kw_93e6ea99cf, kw_4fc0664c01, kw_e1809ee4cf, by decide +kernel, by decide +kernel, by decide +kernel, by decide +kernel⟩
theorem lk_X10_33_3 : ab_LU RX10 33 3 mX10_isHereL 1 := ⟨"HungFaces$LawReader", "HungFaces$TextReader", ⟨"HungFaces$TextReader", "isHere", "(I)Z"⟩, rfl, iX10_isHereL, kw_6d6475e775, kw_4a0b73de13, kw_9240b532f5, kw_7a2acdffce, by decide +kernel, by decide +kernel, by decide +kernel, by decide +kernel⟩
theorem lk_X10_37_3 : ab_LU RX10 37 3 mX3_readLine 0 := ⟨"HungFaces$LawReader", "HungFaces$TextReader", ⟨"HungFaces$TextReader", "readLine", "()V"⟩, rfl, iX3_readLine, kw_172fb4e6c8, kw_dc9e5374e8, kw_ea76a122e9, kw_109fd16dc0, by decide +kernel, by decide +kernel, by decide +kernel, by decide +kernel⟩
theorem lk_X10_47_3 : ab_LU RX10 47 3 mX10_acceptL 1 := ⟨"HungFaces$LawReader", "HungFaces$TextReader", ⟨"HungFaces$TextReader", "accept", "(Z)V"⟩, rfl, iX10_acceptL, kw_085170e901, kw_7ef7d7a3f6, kw_eb4c2f4eb0, kw_25b2d2d748, by decide +kernel, by decide +kernel, by decide +kernel, by decide +kernel⟩
def fX10_readTextL_35 (F : Nat) (x0 : Nat) (k100 : Int32 → ab_H → Option (Int32 × ab_H)) : Nat → Int32 → ab_H → Option (Int32 × ab_H)
  | 0, _, _ => none
  | n + 1, x1, h => (if x1 = 0 then k100 x1 h else ab_bd (ab_fi h x0 3 3) fun v9 => ab_bd (ab_fi h x0 3 1) fun v10 => (if v9 < v10 then ab_ck (ab_io h x0 3 = true) (ab_bd (fX3_readLine F x0 h) fun h12 => ab_bd (ab_fi h12 x0 3 3) fun v13 => ab_bd (ab_fw h12 x0 3 3 (.int (v13 + (nI 1)))) fun h14 => ab_ck (ab_io h14 x0 3 = true) (ab_bd (fX10_isRightL x0 h14) fun v15 => ab_jn (κ := Int32 → Option (Int32 × ab_H)) (fun (z16 : Int32) => (if z16 = 0 then fX10_readTextL_35 F x0 k100 n z16 h14 else ab_bd (ab_fr h14 x0 3 0) fun v18 => ab_ck (ab_io h14 v18 0 = true) (ab_bd (fX0_goOn v18 h14) fun h19 => fX10_readTextL_35 F x0 k100 n z16 h19))) fun j20 => ab_jn (κ := Option (Int32 × ab_H)) (j20 (nI 0)) fun j21 => (if v15 = 0 then j21 else ab_ck (ab_io h14 x0 3 = true) (ab_bd (fX10_isHereL x0 (nI 59) h14) fun v23 => (if v23 = 0 then j21 else j20 (nI 1)))))) else k100 x1 h))
def fX10_readTextL (F : Nat) (x0 : Nat) (h : ab_H) : Option (Int32 × ab_H) := ab_bd (ab_fw h x0 3 2 (.int (-1 : Int32))) fun h1 => ab_bd (ab_fw h1 x0 3 3 (.int (nI 0))) fun h2 => ab_bd (ab_fr h2 x0 3 0) fun v3 => ab_ck (ab_io h2 v3 0 = true) (ab_bd (fX0_cutText F v3 h2) fun h4 => ab_ck (ab_io h4 x0 3 = true) (ab_bd (fX3_startText x0 h4) fun h5 => ab_ck (ab_io h5 x0 3 = true) (ab_bd (fX10_isHereL x0 (-1 : Int32) h5) fun v6 => (if v6 = 0 then fX10_readTextL_35 F x0 (fun (z25 : Int32) (h26 : ab_H) => ab_jn (κ := Int32 → Option (Int32 × ab_H)) (fun (z27 : Int32) => ab_ck (ab_io h26 x0 3 = true) (ab_bd (fX10_acceptL x0 z27 h26) fun h28 => ab_bd (ab_fi h28 x0 3 2) fun v29 => some (v29, h28))) fun j30 => ab_jn (κ := Option (Int32 × ab_H)) (j30 (nI 0)) fun j31 => (if z25 = 0 then ab_ck (ab_io h26 x0 3 = true) (ab_bd (fX10_isHereL x0 (-1 : Int32) h26) fun v33 => (if v33 = 0 then j31 else j30 (nI 1))) else j31)) F (nI 1) h5 else fX10_readTextL_35 F x0 (fun (z35 : Int32) (h36 : ab_H) => ab_jn (κ := Int32 → Option (Int32 × ab_H)) (fun (z37 : Int32) => ab_ck (ab_io h36 x0 3 = true) (ab_bd (fX10_acceptL x0 z37 h36) fun h38 => ab_bd (ab_fi h38 x0 3 2) fun v39 => some (v39, h38))) fun j40 => ab_jn (κ := Option (Int32 × ab_H)) (j40 (nI 0)) fun j41 => (if z35 = 0 then ab_ck (ab_io h36 x0 3 = true) (ab_bd (fX10_isHereL x0 (-1 : Int32) h36) fun v43 => (if v43 = 0 then j41 else j40 (nI 1))) else j41)) F (nI 0) h5))))
set_option maxRecDepth 100000 in
set_option maxHeartbeats 4000000 in
theorem lX10_readTextL_35 {l : Launch} (hl : l.stackTraces = false) (F : Nat) (x0 : Nat) {k100 : Int32 → ab_H → Option (Int32 × ab_H)} (hk100 : ∀ (x1 : Int32), ∀ (h : ab_H), ab_S l mX10_readTextL (fun y : (Int32 × ab_H) => ((.inl (some (.int y.1)), y.2) : ab_R × ab_H)) 0 0 (k100 x1 h) 100 [(0, .ref x0), (1, .int x1)] [] h) : ∀ (n : Nat) (x1 : Int32) (h : ab_H), ab_S l mX10_readTextL (fun y : (Int32 × ab_H) => ((.inl (some (.int y.1)), y.2) : ab_R × ab_H)) 0 0 (fX10_readTextL_35 F x0 k100 n x1 h) 35 [(0, .ref x0), (1, .int x1)] [] h := by
  intro n
  induction n with
  | zero =>
    intro x1 h
    exact ab_none
  | succ n ih =>
    intro x1 h
    rw [fX10_readTextL_35]
    refine ab_iload_n (pc := 35) (n := 1) (i := 1) (j := 1) (by decide +kernel) rfl rfl ?_
    refine ab_if_eq (off := 64) (pc := 36) (tgt := 100) (by decide +kernel) (by decide) (fun g8 => ?_) (fun g8 => ?_)
    · exact hk100 x1 h
    · refine ab_aload_n (pc := 39) (n := 0) (i := 0) (j := 0) (by decide +kernel) rfl rfl ?_
      refine ab_getI (pc := 40) fl_X10_22_3 (by decide +kernel) (fun v9 ev9 => ?_)
      refine ab_aload_n (pc := 43) (n := 0) (i := 0) (j := 0) (by decide +kernel) rfl rfl ?_
      refine ab_getI (pc := 44) fl_X10_15_3 (by decide +kernel) (fun v10 ev10 => ?_)
      refine ab_icmp_ge (off := 53) (pc := 47) (tgt := 100) (by decide +kernel) (by decide) (fun g11 => ?_) (fun g11 => ?_)
      · refine ab_aload_n (pc := 50) (n := 0) (i := 0) (j := 0) (by decide +kernel) rfl rfl ?_
        refine ab_callUw (As := []) (st := []) (pc := 51) lk_X10_37_3 rfl rfl rfl (by decide) rfl (Nat.le_of_ble_eq_true rfl) (by decide +kernel) (fun y9 e9 => okX3_readLine hl (F := F) e9) (fun h12 eh12 => ?_)
        refine ab_aload_n (pc := 54) (n := 0) (i := 0) (j := 0) (by decide +kernel) rfl rfl ?_
        refine ab_dup (pc := 55) (by decide +kernel) rfl ?_
        refine ab_getI (pc := 56) fl_X10_22_3 (by decide +kernel) (fun v13 ev13 => ?_)
        refine ab_iconst (pc := 59) (n := 1) (v := nI 1) (by decide +kernel) rfl ?_
        refine ab_iadd (pc := 60) (by decide +kernel) ?_
        refine ab_put (pc := 61) fl_X10_22_3 rfl (fun _ => rfl) (fun _ => rfl) (by decide +kernel) (fun h14 eh14 => ?_)
        refine ab_aload_n (pc := 64) (n := 0) (i := 0) (j := 0) (by decide +kernel) rfl rfl ?_
        refine ab_callUi (As := []) (st := []) (pc := 65) lk_X10_40_3 rfl rfl rfl (by decide) rfl (Nat.le_of_ble_eq_true rfl) (by decide +kernel) (fun y9 e9 => okX10_isRightL hl e9) (fun v15 ev15 => ?_)
        refine ab_jr (fun k9 : Int32 → Option (Int32 × ab_H) => ∀ (z16 : Int32), ab_S l mX10_readTextL (fun y : (Int32 × ab_H) => ((.inl (some (.int y.1)), y.2) : ab_R × ab_H)) 0 0 (k9 z16) 85 [(0, .ref x0)] [.int z16] h14) ?_ (fun j20 hj20 => ?_)
        · intro z16
          refine ab_istore_n (pc := 85) (n := 1) (i := 1) (lv' := [(0, .ref x0), (1, .int z16)]) (by decide +kernel) rfl (Nat.le_of_ble_eq_true rfl) rfl rfl ?_
          refine ab_iload_n (pc := 86) (n := 1) (i := 1) (j := 1) (by decide +kernel) rfl rfl ?_
          refine ab_if_eq (off := (-52)) (pc := 87) (tgt := 35) (by decide +kernel) (by decide) (fun g17 => ?_) (fun g17 => ?_)
          · exact ih z16 h14
          · refine ab_aload_n (pc := 90) (n := 0) (i := 0) (j := 0) (by decide +kernel) rfl rfl ?_
            refine ab_getR (pc := 91) fl_X10_9_3 (by decide +kernel) (fun v18 ev18 => ?_)
            refine ab_callVw (As := []) (st := []) (pc := 94) lk_X10_44_0 rfl rfl rfl (by decide) rfl (Nat.le_of_ble_eq_true rfl) (by decide +kernel) (fun y9 e9 => okX0_goOn hl e9) (fun h19 eh19 => ?_)
            refine ab_goto (pc := 97) (off := (-62)) (tgt := 35) (by decide +kernel) (by decide) ?_
            exact ih z16 h19
        · refine ab_jr (fun k9 : Option (Int32 × ab_H) => ab_S l mX10_readTextL (fun y : (Int32 × ab_H) => ((.inl (some (.int y.1)), y.2) : ab_R × ab_H)) 0 0 (k9) 84 [(0, .ref x0)] [] h14) ?_ (fun j21 hj21 => ?_)
          · refine ab_iconst (pc := 84) (n := 0) (v := nI 0) (by decide +kernel) rfl ?_
            exact hj20 (nI 0)
          · refine ab_if_eq (off := 16) (pc := 68) (tgt := 84) (by decide +kernel) (by decide) (fun g22 => ?_) (fun g22 => ?_)
            · refine ab_few [0] (lv' := [(0, .ref x0)]) rfl ?_
              exact hj21
            · refine ab_aload_n (pc := 71) (n := 0) (i := 0) (j := 0) (by decide +kernel) rfl rfl ?_
              refine ab_bipush (pc := 72) (n := 59) (v := nI 59) (by decide +kernel) (by decide) ?_
              refine ab_callUi (As := [.int (nI 59)]) (st := []) (pc := 74) lk_X10_33_3 rfl rfl rfl (by decide) rfl (Nat.le_of_ble_eq_true rfl) (by decide +kernel) (fun y9 e9 => okX10_isHereL hl e9) (fun v23 ev23 => ?_)
              refine ab_if_eq (off := 7) (pc := 77) (tgt := 84) (by decide +kernel) (by decide) (fun g24 => ?_) (fun g24 => ?_)
              · refine ab_few [0] (lv' := [(0, .ref x0)]) rfl ?_
                exact hj21
              · refine ab_iconst (pc := 80) (n := 1) (v := nI 1) (by decide +kernel) rfl ?_
                refine ab_goto (pc := 81) (off := 4) (tgt := 85) (by decide +kernel) (by decide) ?_
                refine ab_few [0] (lv' := [(0, .ref x0)]) rfl ?_
                exact hj20 (nI 1)
      · exact hk100 x1 h
set_option maxRecDepth 100000 in
set_option maxHeartbeats 4000000 in
theorem wX10_readTextL {l : Launch} (hl : l.stackTraces = false) (F : Nat) (x0 : Nat) (h : ab_H) : ab_S l mX10_readTextL (fun y : (Int32 × ab_H) => ((.inl (some (.int y.1)), y.2) : ab_R × ab_H)) 0 0 (fX10_readTextL F x0 h) 0 [(0, .ref x0)] [] h := by
  unfold fX10_readTextL
  refine ab_aload_n (pc := 0) (n := 0) (i := 0) (j := 0) (by decide +kernel) rfl rfl ?_
  refine ab_iconst (pc := 1) (n := -1) (v := (-1 : Int32)) (by decide +kernel) rfl ?_
  refine ab_put (pc := 2) fl_X10_19_3 rfl (fun _ => rfl) (fun _ => rfl) (by decide +kernel) (fun h1 eh1 => ?_)
  refine ab_aload_n (pc := 5) (n := 0) (i := 0) (j := 0) (by decide +kernel) rfl rfl ?_
  refine ab_iconst (pc := 6) (n := 0) (v := nI 0) (by decide +kernel) rfl ?_
  refine ab_put (pc := 7) fl_X10_22_3 rfl (fun _ => rfl) (fun _ => rfl) (by decide +kernel) (fun h2 eh2 => ?_)
  refine ab_aload_n (pc := 10) (n := 0) (i := 0) (j := 0) (by decide +kernel) rfl rfl ?_
  refine ab_getR (pc := 11) fl_X10_9_3 (by decide +kernel) (fun v3 ev3 => ?_)
  refine ab_callVw (As := []) (st := []) (pc := 14) lk_X10_25_0 rfl rfl rfl (by decide) rfl (Nat.le_of_ble_eq_true rfl) (by decide +kernel) (fun y9 e9 => okX0_cutText hl (F := F) e9) (fun h4 eh4 => ?_)
  refine ab_aload_n (pc := 17) (n := 0) (i := 0) (j := 0) (by decide +kernel) rfl rfl ?_
  refine ab_callUw (As := []) (st := []) (pc := 18) lk_X10_30_3 rfl rfl rfl (by decide) rfl (Nat.le_of_ble_eq_true rfl) (by decide +kernel) (fun y9 e9 => okX3_startText hl e9) (fun h5 eh5 => ?_)
  refine ab_aload_n (pc := 21) (n := 0) (i := 0) (j := 0) (by decide +kernel) rfl rfl ?_
  refine ab_iconst (pc := 22) (n := -1) (v := (-1 : Int32)) (by decide +kernel) rfl ?_
  refine ab_callUi (As := [.int (-1 : Int32)]) (st := []) (pc := 23) lk_X10_33_3 rfl rfl rfl (by decide) rfl (Nat.le_of_ble_eq_true rfl) (by decide +kernel) (fun y9 e9 => okX10_isHereL hl e9) (fun v6 ev6 => ?_)
  refine ab_if_ne (off := 7) (pc := 26) (tgt := 33) (by decide +kernel) (by decide) (fun g7 => ?_) (fun g7 => ?_)
  · refine ab_iconst (pc := 29) (n := 1) (v := nI 1) (by decide +kernel) rfl ?_
    refine ab_goto (pc := 30) (off := 4) (tgt := 34) (by decide +kernel) (by decide) ?_
    refine ab_istore_n (pc := 34) (n := 1) (i := 1) (lv' := [(0, .ref x0), (1, .int (nI 1))]) (by decide +kernel) rfl (Nat.le_of_ble_eq_true rfl) rfl rfl ?_
    refine lX10_readTextL_35 hl F x0 ?_ F (nI 1) h5
    intro z25 h26
    refine ab_aload_n (pc := 100) (n := 0) (i := 0) (j := 0) (by decide +kernel) rfl rfl ?_
    refine ab_iload_n (pc := 101) (n := 1) (i := 1) (j := 1) (by decide +kernel) rfl rfl ?_
    refine ab_jr (fun k9 : Int32 → Option (Int32 × ab_H) => ∀ (z27 : Int32), ab_S l mX10_readTextL (fun y : (Int32 × ab_H) => ((.inl (some (.int y.1)), y.2) : ab_R × ab_H)) 0 0 (k9 z27) 118 [(0, .ref x0)] [.int z27, .ref x0] h26) ?_ (fun j30 hj30 => ?_)
    · intro z27
      refine ab_callUw (As := [.int z27]) (st := []) (pc := 118) lk_X10_47_3 rfl rfl rfl (by decide) rfl (Nat.le_of_ble_eq_true rfl) (by decide +kernel) (fun y9 e9 => okX10_acceptL hl e9) (fun h28 eh28 => ?_)
      refine ab_aload_n (pc := 121) (n := 0) (i := 0) (j := 0) (by decide +kernel) rfl rfl ?_
      refine ab_getI (pc := 122) fl_X10_19_3 (by decide +kernel) (fun v29 ev29 => ?_)
      exact ab_iret (pc := 125) (by decide +kernel) rfl rfl (Nat.le_of_ble_eq_true rfl) (Nat.le_of_ble_eq_true rfl)
    · refine ab_jr (fun k9 : Option (Int32 × ab_H) => ab_S l mX10_readTextL (fun y : (Int32 × ab_H) => ((.inl (some (.int y.1)), y.2) : ab_R × ab_H)) 0 0 (k9) 117 [(0, .ref x0)] [.ref x0] h26) ?_ (fun j31 hj31 => ?_)
      · refine ab_iconst (pc := 117) (n := 0) (v := nI 0) (by decide +kernel) rfl ?_
        exact hj30 (nI 0)
      · refine ab_if_ne (off := 15) (pc := 102) (tgt := 117) (by decide +kernel) (by decide) (fun g32 => ?_) (fun g32 => ?_)
        · refine ab_aload_n (pc := 105) (n := 0) (i := 0) (j := 0) (by decide +kernel) rfl rfl ?_
          refine ab_iconst (pc := 106) (n := -1) (v := (-1 : Int32)) (by decide +kernel) rfl ?_
          refine ab_callUi (As := [.int (-1 : Int32)]) (st := [.ref x0]) (pc := 107) lk_X10_33_3 rfl rfl rfl (by decide) rfl (Nat.le_of_ble_eq_true rfl) (by decide +kernel) (fun y9 e9 => okX10_isHereL hl e9) (fun v33 ev33 => ?_)
          refine ab_if_eq (off := 7) (pc := 110) (tgt := 117) (by decide +kernel) (by decide) (fun g34 => ?_) (fun g34 => ?_)
          · refine ab_few [0] (lv' := [(0, .ref x0)]) rfl ?_
            exact hj31
          · refine ab_iconst (pc := 113) (n := 1) (v := nI 1) (by decide +kernel) rfl ?_
            refine ab_goto (pc := 114) (off := 4) (tgt := 118) (by decide +kernel) (by decide) ?_
            refine ab_few [0] (lv' := [(0, .ref x0)]) rfl ?_
            exact hj30 (nI 1)
        · refine ab_few [0] (lv' := [(0, .ref x0)]) rfl ?_
          exact hj31
  · refine ab_iconst (pc := 33) (n := 0) (v := nI 0) (by decide +kernel) rfl ?_
    refine ab_istore_n (pc := 34) (n := 1) (i := 1) (lv' := [(0, .ref x0), (1, .int (nI 0))]) (by decide +kernel) rfl (Nat.le_of_ble_eq_true rfl) rfl rfl ?_
    refine lX10_readTextL_35 hl F x0 ?_ F (nI 0) h5
    intro z35 h36
    refine ab_aload_n (pc := 100) (n := 0) (i := 0) (j := 0) (by decide +kernel) rfl rfl ?_
    refine ab_iload_n (pc := 101) (n := 1) (i := 1) (j := 1) (by decide +kernel) rfl rfl ?_
    refine ab_jr (fun k9 : Int32 → Option (Int32 × ab_H) => ∀ (z37 : Int32), ab_S l mX10_readTextL (fun y : (Int32 × ab_H) => ((.inl (some (.int y.1)), y.2) : ab_R × ab_H)) 0 0 (k9 z37) 118 [(0, .ref x0)] [.int z37, .ref x0] h36) ?_ (fun j40 hj40 => ?_)
    · intro z37
      refine ab_callUw (As := [.int z37]) (st := []) (pc := 118) lk_X10_47_3 rfl rfl rfl (by decide) rfl (Nat.le_of_ble_eq_true rfl) (by decide +kernel) (fun y9 e9 => okX10_acceptL hl e9) (fun h38 eh38 => ?_)
      refine ab_aload_n (pc := 121) (n := 0) (i := 0) (j := 0) (by decide +kernel) rfl rfl ?_
      refine ab_getI (pc := 122) fl_X10_19_3 (by decide +kernel) (fun v39 ev39 => ?_)
      exact ab_iret (pc := 125) (by decide +kernel) rfl rfl (Nat.le_of_ble_eq_true rfl) (Nat.le_of_ble_eq_true rfl)
    · refine ab_jr (fun k9 : Option (Int32 × ab_H) => ab_S l mX10_readTextL (fun y : (Int32 × ab_H) => ((.inl (some (.int y.1)), y.2) : ab_R × ab_H)) 0 0 (k9) 117 [(0, .ref x0)] [.ref x0] h36) ?_ (fun j41 hj41 => ?_)
      · refine ab_iconst (pc := 117) (n := 0) (v := nI 0) (by decide +kernel) rfl ?_
        exact hj40 (nI 0)
      · refine ab_if_ne (off := 15) (pc := 102) (tgt := 117) (by decide +kernel) (by decide) (fun g42 => ?_) (fun g42 => ?_)
        · refine ab_aload_n (pc := 105) (n := 0) (i := 0) (j := 0) (by decide +kernel) rfl rfl ?_
          refine ab_iconst (pc := 106) (n := -1) (v := (-1 : Int32)) (by decide +kernel) rfl ?_
          refine ab_callUi (As := [.int (-1 : Int32)]) (st := [.ref x0]) (pc := 107) lk_X10_33_3 rfl rfl rfl (by decide) rfl (Nat.le_of_ble_eq_true rfl) (by decide +kernel) (fun y9 e9 => okX10_isHereL hl e9) (fun v43 ev43 => ?_)
          refine ab_if_eq (off := 7) (pc := 110) (tgt := 117) (by decide +kernel) (by decide) (fun g44 => ?_) (fun g44 => ?_)
          · refine ab_few [0] (lv' := [(0, .ref x0)]) rfl ?_
            exact hj41
          · refine ab_iconst (pc := 113) (n := 1) (v := nI 1) (by decide +kernel) rfl ?_
            refine ab_goto (pc := 114) (off := 4) (tgt := 118) (by decide +kernel) (by decide) ?_
            refine ab_few [0] (lv' := [(0, .ref x0)]) rfl ?_
            exact hj40 (nI 1)
        · refine ab_few [0] (lv' := [(0, .ref x0)]) rfl ?_
          exact hj41
set_option maxRecDepth 100000 in
set_option maxHeartbeats 4000000 in
theorem okX10_readTextL {l : Launch} (hl : l.stackTraces = false) {F : Nat} {x0 : Nat} {h : ab_H} {y : (Int32 × ab_H)} (e : fX10_readTextL F x0 h = some y) : ab_Met l mX10_readTextL [.ref x0] h (.inl (some (.int y.1)), y.2) := ab_ofS (io := (fun y : (Int32 × ab_H) => ((.inl (some (.int y.1)), y.2) : ab_R × ab_H))) (x := y) hl (by decide) rfl (Nat.le_of_ble_eq_true rfl) (wX10_readTextL hl F x0 h) e
def mX1_readLine : ab_M := (yX1_readLine, cX1_readLine, 1, none, { frames := 4, cells := 0, slots := 0, locals := 93 })
theorem iX1_readLine : ab_MI mX1_readLine 0 := ⟨kw_9c4b506085, kw_9c5cf83101, by decide +kernel⟩
theorem lk_X1_38_1 : ab_LV RX1 38 1 mX1_readPerson 0 := ⟨RX1, rfl, iX1_readPerson, kw_6724f2a791, kw_1544c6933d, kw_5e6d468096⟩
theorem lk_X1_42_1 : ab_LV RX1 42 1 mX1_readWish 0 := ⟨RX1, rfl, iX1_readWish, kw_2fcb5ed094, kw_ca659646ac, kw_2d64c4e5ad⟩
theorem lk_X1_45_1 : ab_LV RX1 45 1 mX1_readWed 0 := ⟨RX1, rfl, iX1_readWed, kw_71c7f2ec20, kw_5138a3b46c, kw_852a83ac31⟩
theorem lk_X1_48_1 : ab_LV RX1 48 1 mX1_readKnows 0 := ⟨RX1, rfl, iX1_readKnows, kw_9d811dbebd, kw_e20c0d7c4b, kw_1b322e4a34⟩
theorem lk_X1_51_1 : ab_LV RX1 51 1 mX1_readSetting 0 := ⟨RX1, rfl, iX1_readSetting, kw_d4a96c9d5f, kw_1d27cb4cd7, kw_713965d082⟩
def fX1_readLine (F : Nat) (x0 : Nat) (h : ab_H) : Option ab_H := ab_bd (ab_fr h x0 1 0) fun v1 => ab_ck (ab_io h v1 0 = true) (ab_bd (fX0_kindHere v1 h) fun v2 => (if v2 = nI 1000 then ab_ck (ab_io h x0 1 = true) (ab_bd (fX1_readPerson F x0 h) fun h7 => some h7) else (if v2 = nI 1001 then ab_ck (ab_io h x0 1 = true) (ab_bd (fX1_readWish F x0 h) fun h8 => some h8) else (if v2 = nI 1002 then ab_ck (ab_io h x0 1 = true) (ab_bd (fX1_readWed F x0 h) fun h9 => some h9) else (if v2 = nI 1003 then ab_ck (ab_io h x0 1 = true) (ab_bd (fX1_readKnows F x0 h) fun h10 => some h10) else ab_ck (ab_io h x0 1 = true) (ab_bd (fX1_readSetting F x0 h) fun h11 => some h11))))))
set_option maxRecDepth 100000 in
set_option maxHeartbeats 4000000 in
theorem wX1_readLine {l : Launch} (hl : l.stackTraces = false) (F : Nat) (x0 : Nat) (h : ab_H) : ab_S l mX1_readLine (fun y : ab_H => ((.inl none, y) : ab_R × ab_H)) 0 0 (fX1_readLine F x0 h) 0 [(0, .ref x0)] [] h := by
  unfold fX1_readLine
  refine ab_aload_n (pc := 0) (n := 0) (i := 0) (j := 0) (by decide +kernel) rfl rfl ?_
  refine ab_getR (pc := 1) fl_X1_28_1 (by decide +kernel) (fun v1 ev1 => ?_)
  refine ab_callVi (As := []) (st := []) (pc := 4) lk_X1_32_0 rfl rfl rfl (by decide) rfl (Nat.le_of_ble_eq_true rfl) (by decide +kernel) (fun y9 e9 => okX0_kindHere hl e9) (fun v2 ev2 => ?_)
  refine ab_swC (pc := 7) (c9 := nI 1000) (off := 29) (tgt := 36) (dflt := 57) (lo := 1000) (hi := 1003) (offs := #[29, 36, 43, 50]) (len := 29) (by decide +kernel) (by decide) (by decide) (by decide) (by decide) (fun g3 => ?_) (fun g3 => ?_)
  · refine ab_aload_n (pc := 36) (n := 0) (i := 0) (j := 0) (by decide +kernel) rfl rfl ?_
    refine ab_callVw (As := []) (st := []) (pc := 37) lk_X1_38_1 rfl rfl rfl (by decide) rfl (Nat.le_of_ble_eq_true rfl) (by decide +kernel) (fun y9 e9 => okX1_readPerson hl (F := F) e9) (fun h7 eh7 => ?_)
    refine ab_goto (pc := 40) (off := 28) (tgt := 68) (by decide +kernel) (by decide) ?_
    exact ab_vret (pc := 68) (by decide +kernel) rfl rfl (Nat.le_of_ble_eq_true rfl) (Nat.le_of_ble_eq_true rfl)
  · refine ab_swC (pc := 7) (c9 := nI 1001) (off := 36) (tgt := 43) (dflt := 57) (lo := 1000) (hi := 1003) (offs := #[29, 36, 43, 50]) (len := 29) (by decide +kernel) (by decide) (by decide) (by decide) (by decide) (fun g4 => ?_) (fun g4 => ?_)
    · refine ab_aload_n (pc := 43) (n := 0) (i := 0) (j := 0) (by decide +kernel) rfl rfl ?_
      refine ab_callVw (As := []) (st := []) (pc := 44) lk_X1_42_1 rfl rfl rfl (by decide) rfl (Nat.le_of_ble_eq_true rfl) (by decide +kernel) (fun y9 e9 => okX1_readWish hl (F := F) e9) (fun h8 eh8 => ?_)
      refine ab_goto (pc := 47) (off := 21) (tgt := 68) (by decide +kernel) (by decide) ?_
      exact ab_vret (pc := 68) (by decide +kernel) rfl rfl (Nat.le_of_ble_eq_true rfl) (Nat.le_of_ble_eq_true rfl)
    · refine ab_swC (pc := 7) (c9 := nI 1002) (off := 43) (tgt := 50) (dflt := 57) (lo := 1000) (hi := 1003) (offs := #[29, 36, 43, 50]) (len := 29) (by decide +kernel) (by decide) (by decide) (by decide) (by decide) (fun g5 => ?_) (fun g5 => ?_)
      · refine ab_aload_n (pc := 50) (n := 0) (i := 0) (j := 0) (by decide +kernel) rfl rfl ?_
        refine ab_callVw (As := []) (st := []) (pc := 51) lk_X1_45_1 rfl rfl rfl (by decide) rfl (Nat.le_of_ble_eq_true rfl) (by decide +kernel) (fun y9 e9 => okX1_readWed hl (F := F) e9) (fun h9 eh9 => ?_)
        refine ab_goto (pc := 54) (off := 14) (tgt := 68) (by decide +kernel) (by decide) ?_
        exact ab_vret (pc := 68) (by decide +kernel) rfl rfl (Nat.le_of_ble_eq_true rfl) (Nat.le_of_ble_eq_true rfl)
      · refine ab_swC (pc := 7) (c9 := nI 1003) (off := 50) (tgt := 57) (dflt := 57) (lo := 1000) (hi := 1003) (offs := #[29, 36, 43, 50]) (len := 29) (by decide +kernel) (by decide) (by decide) (by decide) (by decide) (fun g6 => ?_) (fun g6 => ?_)
        · refine ab_aload_n (pc := 57) (n := 0) (i := 0) (j := 0) (by decide +kernel) rfl rfl ?_
          refine ab_callVw (As := []) (st := []) (pc := 58) lk_X1_48_1 rfl rfl rfl (by decide) rfl (Nat.le_of_ble_eq_true rfl) (by decide +kernel) (fun y9 e9 => okX1_readKnows hl (F := F) e9) (fun h10 eh10 => ?_)
          refine ab_goto (pc := 61) (off := 7) (tgt := 68) (by decide +kernel) (by decide) ?_
          exact ab_vret (pc := 68) (by decide +kernel) rfl rfl (Nat.le_of_ble_eq_true rfl) (Nat.le_of_ble_eq_true rfl)
        · refine ab_swD (pc := 7) (tgt := 64) (dflt := 57) (lo := 1000) (hi := 1003) (offs := #[29, 36, 43, 50]) (len := 29) (by decide +kernel) (by have qg3 := ab_neN (n := 1000) (by decide) g3; have qg4 := ab_neN (n := 1001) (by decide) g4; have qg5 := ab_neN (n := 1002) (by decide) g5; have qg6 := ab_neN (n := 1003) (by decide) g6; omega) (by decide) ?_
          refine ab_aload_n (pc := 64) (n := 0) (i := 0) (j := 0) (by decide +kernel) rfl rfl ?_
          refine ab_callVw (As := []) (st := []) (pc := 65) lk_X1_51_1 rfl rfl rfl (by decide) rfl (Nat.le_of_ble_eq_true rfl) (by decide +kernel) (fun y9 e9 => okX1_readSetting hl (F := F) e9) (fun h11 eh11 => ?_)
          exact ab_vret (pc := 68) (by decide +kernel) rfl rfl (Nat.le_of_ble_eq_true rfl) (Nat.le_of_ble_eq_true rfl)
set_option maxRecDepth 100000 in
set_option maxHeartbeats 4000000 in
theorem okX1_readLine {l : Launch} (hl : l.stackTraces = false) {F : Nat} {x0 : Nat} {h : ab_H} {y : ab_H} (e : fX1_readLine F x0 h = some y) : ab_Met l mX1_readLine [.ref x0] h (.inl none, y) := ab_ofS (io := (fun y : ab_H => ((.inl none, y) : ab_R × ab_H))) (x := y) hl (by decide) rfl (Nat.le_of_ble_eq_true rfl) (wX1_readLine hl F x0 h) e
def mX11_law : ab_M := (yX11_law, cX11_law, 1, (some .int), { frames := 21, cells := 3, slots := 427, locals := 485 })
theorem iX11_law : ab_MI mX11_law 0 := ⟨kw_cc63f0977f, kw_62b61b7ad3, by decide +kernel⟩
theorem lk_X11_117_3 : ab_LU RX11 117 3 mX10_readTextL 0 := ⟨"HungFaces$LawReader", "HungFaces$TextReader", ⟨"HungFaces$LawReader", "readText", "()I"⟩, rfl, iX10_readTextL, kw_57dce7a24a, kw_b68cdbef81, kw_7b520196f1, kw_a0ef928395, by decide +kernel, by decide +kernel, by decide +kernel, by decide +kernel⟩
theorem lk_X11_120_3 : ab_LV RX11 120 3 mX3_madeLaw 0 := ⟨RX3, rfl, iX3_madeLaw, kw_5a5a8ecff9, kw_aed06cf66a, kw_0a63aa7f63⟩
def fX11_law (F : Nat) (x0 : Nat) (h : ab_H) : Option ((Int32 ⊕ String) × ab_H) := ab_bd (ab_fr h x0 11 6) fun v1 => ab_ck (ab_io h v1 3 = true) (ab_bd (fX10_readTextL F v1 h) fun v2 => ab_bd (ab_fw v2.2 x0 11 10 (.int v2.1)) fun h3 => ab_bd (ab_fr h3 x0 11 0) fun v4 => ab_bd (ab_fw h3 v4 9 1 (.int (nI 0))) fun h5 => ab_bd (ab_fi h5 x0 11 10) fun v6 => (if v6 = (-1 : Int32) then ab_bd (ab_fr h5 x0 11 1) fun v8 => ab_bd (ab_fr h5 x0 11 6) fun v9 => ab_ck (ab_io h5 v9 3 = true) (ab_bd (fX3_madeLaw F v9 h5) fun v10 => ab_bd (ab_fw v10.2 v8 8 7 (.ref v10.1)) fun h11 => ab_bd (ab_fr h11 x0 11 4) fun v12 => ab_ck (ab_io h11 v12 6 = true) (ab_bd (fX6_forget v12 h11) fun h13 => ab_bd (ab_fr h13 x0 11 1) fun v14 => ab_bd (ab_fr h13 v14 8 7) fun v15 => ab_bd (ab_fi h13 v15 2 0) fun v16 => some (.inl v16, h13))) else some (.inr "java/lang/IllegalArgumentException", h5)))
set_option maxRecDepth 100000 in
set_option maxHeartbeats 4000000 in
theorem wX11_law {l : Launch} (hl : l.stackTraces = false) (F : Nat) (x0 : Nat) (h : ab_H) : ab_S l mX11_law (fun y : ((Int32 ⊕ String) × ab_H) => ((y.1.elim (fun x => .inl (some (.int x))) (fun E => .inr E), y.2) : ab_R × ab_H)) 0 0 (fX11_law F x0 h) 0 [(0, .ref x0)] [] h := by
  unfold fX11_law
  refine ab_aload_n (pc := 0) (n := 0) (i := 0) (j := 0) (by decide +kernel) rfl rfl ?_
  refine ab_aload_n (pc := 1) (n := 0) (i := 0) (j := 0) (by decide +kernel) rfl rfl ?_
  refine ab_getR (pc := 2) fl_X11_62_11 (by decide +kernel) (fun v1 ev1 => ?_)
  refine ab_callUj (As := []) (st := [.ref x0]) (pc := 5) lk_X11_117_3 rfl rfl rfl (by decide) rfl (Nat.le_of_ble_eq_true rfl) (by decide +kernel) (fun y9 e9 => okX10_readTextL hl (F := F) e9) (fun v2 ev2 => ?_)
  refine ab_put (pc := 8) fl_X11_80_11 rfl (fun _ => rfl) (fun _ => rfl) (by decide +kernel) (fun h3 eh3 => ?_)
  refine ab_aload_n (pc := 11) (n := 0) (i := 0) (j := 0) (by decide +kernel) rfl rfl ?_
  refine ab_getR (pc := 12) fl_X11_17_11 (by decide +kernel) (fun v4 ev4 => ?_)
  refine ab_iconst (pc := 15) (n := 0) (v := nI 0) (by decide +kernel) rfl ?_
  refine ab_put (pc := 16) fl_X11_84_9 rfl (fun _ => rfl) (fun _ => rfl) (by decide +kernel) (fun h5 eh5 => ?_)
  refine ab_aload_n (pc := 19) (n := 0) (i := 0) (j := 0) (by decide +kernel) rfl rfl ?_
  refine ab_getI (pc := 20) fl_X11_80_11 (by decide +kernel) (fun v6 ev6 => ?_)
  refine ab_iconst (pc := 23) (n := -1) (v := (-1 : Int32)) (by decide +kernel) rfl ?_
  refine ab_icmp_eq (off := 13) (pc := 24) (tgt := 37) (by decide +kernel) (by decide) (fun g7 => ?_) (fun g7 => ?_)
  · refine ab_aload_n (pc := 37) (n := 0) (i := 0) (j := 0) (by decide +kernel) rfl rfl ?_
    refine ab_getR (pc := 38) fl_X11_26_11 (by decide +kernel) (fun v8 ev8 => ?_)
    refine ab_aload_n (pc := 41) (n := 0) (i := 0) (j := 0) (by decide +kernel) rfl rfl ?_
    refine ab_getR (pc := 42) fl_X11_62_11 (by decide +kernel) (fun v9 ev9 => ?_)
    refine ab_callVr (As := []) (st := [.ref v8]) (pc := 45) lk_X11_120_3 rfl (by decide) rfl (Nat.le_of_ble_eq_true rfl) (by decide +kernel) (fun y9 e9 => okX3_madeLaw hl (F := F) e9) (fun v10 ev10 => ?_)
    refine ab_put (pc := 48) fl_X11_124_8 rfl (fun _ => rfl) (fun _ => rfl) (by decide +kernel) (fun h11 eh11 => ?_)
    refine ab_aload_n (pc := 51) (n := 0) (i := 0) (j := 0) (by decide +kernel) rfl rfl ?_
    refine ab_getR (pc := 52) fl_X11_39_11 (by decide +kernel) (fun v12 ev12 => ?_)
    refine ab_callVw (As := []) (st := []) (pc := 55) lk_X11_114_6 rfl rfl rfl (by decide) rfl (Nat.le_of_ble_eq_true rfl) (by decide +kernel) (fun y9 e9 => okX6_forget hl e9) (fun h13 eh13 => ?_)
    refine ab_aload_n (pc := 58) (n := 0) (i := 0) (j := 0) (by decide +kernel) rfl rfl ?_
    refine ab_getR (pc := 59) fl_X11_26_11 (by decide +kernel) (fun v14 ev14 => ?_)
    refine ab_getR (pc := 62) fl_X11_124_8 (by decide +kernel) (fun v15 ev15 => ?_)
    refine ab_getI (pc := 65) fl_X11_128_2 (by decide +kernel) (fun v16 ev16 => ?_)
    exact ab_iret (pc := 68) (by decide +kernel) rfl rfl (Nat.le_of_ble_eq_true rfl) (Nat.le_of_ble_eq_true rfl)
  · exact ab_thr (pc := 27) (ik := 95) (is := 118) (ic := 99) (kk := 3) (text := "the text of THE LAW is wrong") th_X11_95_99 (by show (RX11, 118, "the text of THE LAW is wrong", 3) ∈ ab_sr; decide +kernel) rfl (by decide +kernel) (by decide +kernel) (by decide +kernel) (by decide +kernel) (by decide +kernel) (by decide) (Nat.le_of_ble_eq_true rfl) (Nat.le_of_ble_eq_true rfl) (Nat.le_of_ble_eq_true rfl)
set_option maxRecDepth 100000 in
set_option maxHeartbeats 4000000 in
theorem okX11_law {l : Launch} (hl : l.stackTraces = false) {F : Nat} {x0 : Nat} {h : ab_H} {y : ((Int32 ⊕ String) × ab_H)} (e : fX11_law F x0 h = some y) : ab_Met l mX11_law [.ref x0] h ((fun y : ((Int32 ⊕ String) × ab_H) => ((y.1.elim (fun x => .inl (some (.int x))) (fun E => .inr E), y.2) : ab_R × ab_H)) y) := ab_ofS (io := (fun y : ((Int32 ⊕ String) × ab_H) => ((y.1.elim (fun x => .inl (some (.int x))) (fun E => .inr E), y.2) : ab_R × ab_H))) (x := y) hl (by decide) rfl (Nat.le_of_ble_eq_true rfl) (wX11_law hl F x0 h) e
def mX11_trial : ab_M := (yX11_trial, cX11_trial, 2, (some .int), { frames := 7, cells := 1, slots := 6, locals := 140 })
theorem iX11_trial : ab_MI mX11_trial 1 := ⟨kw_aa339dcf8d, kw_62b61b7ad3, by decide +kernel⟩
theorem lk_X11_337_11 : ab_LV RX11 337 11 mX11_wrongAfter 2 := ⟨RX11, rfl, iX11_wrongAfter, kw_edd63067c7, kw_11b8c8a97c, kw_a450031dfb⟩
def fX11_trial (F : Nat) (x0 : Nat) (x1 : Int32) (h : ab_H) : Option ((Int32 ⊕ String) × ab_H) := ab_bx (fX11_needNumber x1 (nI 0) (nI 30) h) (fun E => (Sum.inr E, h)) (ab_bd (ab_fr h x0 11 1) fun v2 => ab_bd (ab_fi h v2 8 5) fun v3 => ab_ck (ab_io h x0 11 = true) (ab_bd (fX11_wrongAfter F x0 x1 v3 h) fun v4 => some (.inl v4.1, v4.2)))
set_option maxRecDepth 100000 in
set_option maxHeartbeats 4000000 in
theorem wX11_trial {l : Launch} (hl : l.stackTraces = false) (F : Nat) (x0 : Nat) (x1 : Int32) (h : ab_H) : ab_S l mX11_trial (fun y : ((Int32 ⊕ String) × ab_H) => ((y.1.elim (fun x => .inl (some (.int x))) (fun E => .inr E), y.2) : ab_R × ab_H)) 0 0 (fX11_trial F x0 x1 h) 0 [(0, .ref x0), (1, .int x1)] [] h := by
  unfold fX11_trial
  refine ab_iload_n (pc := 0) (n := 1) (i := 1) (j := 1) (by decide +kernel) rfl rfl ?_
  refine ab_iconst (pc := 1) (n := 0) (v := nI 0) (by decide +kernel) rfl ?_
  refine ab_bipush (pc := 2) (n := 30) (v := nI 30) (by decide +kernel) (by decide) ?_
  refine ab_callSt (As := [.int x1, .int (nI 0), .int (nI 30)]) (st := []) (thr := (fun E => (Sum.inr E, h))) (pc := 4) lk_X11_243 (fun _ => rfl) rfl (by decide) rfl (Nat.le_of_ble_eq_true rfl) (by decide +kernel) (fun y9 e9 => okX11_needNumber hl e9) ?_
  refine ab_aload_n (pc := 7) (n := 0) (i := 0) (j := 0) (by decide +kernel) rfl rfl ?_
  refine ab_iload_n (pc := 8) (n := 1) (i := 1) (j := 1) (by decide +kernel) rfl rfl ?_
  refine ab_aload_n (pc := 9) (n := 0) (i := 0) (j := 0) (by decide +kernel) rfl rfl ?_
  refine ab_getR (pc := 10) fl_X11_26_11 (by decide +kernel) (fun v2 ev2 => ?_)
  refine ab_getI (pc := 13) fl_X11_334_8 (by decide +kernel) (fun v3 ev3 => ?_)
  refine ab_callVj (As := [.int x1, .int v3]) (st := []) (pc := 16) lk_X11_337_11 rfl rfl rfl (by decide) rfl (Nat.le_of_ble_eq_true rfl) (by decide +kernel) (fun y9 e9 => okX11_wrongAfter hl (F := F) e9) (fun v4 ev4 => ?_)
  exact ab_iret (pc := 19) (by decide +kernel) rfl rfl (Nat.le_of_ble_eq_true rfl) (Nat.le_of_ble_eq_true rfl)
set_option maxRecDepth 100000 in
set_option maxHeartbeats 4000000 in
theorem okX11_trial {l : Launch} (hl : l.stackTraces = false) {F : Nat} {x0 : Nat} {x1 : Int32} {h : ab_H} {y : ((Int32 ⊕ String) × ab_H)} (e : fX11_trial F x0 x1 h = some y) : ab_Met l mX11_trial [.ref x0, .int x1] h ((fun y : ((Int32 ⊕ String) × ab_H) => ((y.1.elim (fun x => .inl (some (.int x))) (fun E => .inr E), y.2) : ab_R × ab_H)) y) := ab_ofS (io := (fun y : ((Int32 ⊕ String) × ab_H) => ((y.1.elim (fun x => .inl (some (.int x))) (fun E => .inr E), y.2) : ab_R × ab_H))) (x := y) hl (by decide) rfl (Nat.le_of_ble_eq_true rfl) (wX11_trial hl F x0 x1 h) e
def mX11_span : ab_M := (yX11_span, cX11_span, 6, (some .int), { frames := 7, cells := 1, slots := 6, locals := 140 })
theorem iX11_span : ab_MI mX11_span 2 := ⟨kw_1ea98ffb2d, kw_62b61b7ad3, by decide +kernel⟩
theorem lk_X11_340 : ab_LS RX11 340 mJ9_max_7cf53 2 := ⟨iJ9_max_7cf53, kw_412a87fe87, kw_cd9e564d81⟩
theorem lk_X11_345 : ab_LS RX11 345 mJ9_min_7cf53 2 := ⟨iJ9_min_7cf53, kw_34de86d93b, kw_c73d724a51⟩
def fX11_span_17 (F : Nat) (x0 : Nat) (x1 : Int32) (x2 : Int32) : Nat → Int32 → Int32 → ab_H → Option ((Int32 ⊕ String) × ab_H)
  | 0, _, _, _ => none
  | n + 1, x3, x4, h => (if x4 ≤ (nI 6) then ab_ck (ab_io h x0 11 = true) (ab_bd (fX11_wrongAfter F x0 x1 x4 h) fun v4 => (if x2 = 0 then ab_bd (fJ9_min_7cf53 x3 v4.1 v4.2) fun v6 => fX11_span_17 F x0 x1 x2 n v6 (x4 + nI 1) v4.2 else ab_bd (fJ9_max_7cf53 x3 v4.1 v4.2) fun v7 => fX11_span_17 F x0 x1 x2 n v7 (x4 + nI 1) v4.2)) else some (.inl x3, h))
def fX11_span (F : Nat) (x0 : Nat) (x1 : Int32) (x2 : Int32) (h : ab_H) : Option ((Int32 ⊕ String) × ab_H) := ab_bx (fX11_needNumber x1 (nI 0) (nI 30) h) (fun E => (Sum.inr E, h)) (ab_ck (ab_io h x0 11 = true) (ab_bd (fX11_wrongAfter F x0 x1 (nI 1) h) fun v2 => fX11_span_17 F x0 x1 x2 F v2.1 (nI 2) v2.2))
set_option maxRecDepth 100000 in
set_option maxHeartbeats 4000000 in
theorem lX11_span_17 {l : Launch} (hl : l.stackTraces = false) (F : Nat) (x0 : Nat) (x1 : Int32) (x2 : Int32) : ∀ (n : Nat) (x3 : Int32) (x4 : Int32) (h : ab_H), ab_S l mX11_span (fun y : ((Int32 ⊕ String) × ab_H) => ((y.1.elim (fun x => .inl (some (.int x))) (fun E => .inr E), y.2) : ab_R × ab_H)) 1 6 (fX11_span_17 F x0 x1 x2 n x3 x4 h) 17 [(0, .ref x0), (1, .int x1), (2, .int x2), (3, .int x3), (4, .int x4)] [] h := by
  intro n
  induction n with
  | zero =>
    intro x3 x4 h
    exact ab_none
  | succ n ih =>
    intro x3 x4 h
    rw [fX11_span_17]
    refine ab_iload (pc := 17) (i := 4) (j := 4) (by decide +kernel) rfl ?_
    refine ab_bipush (pc := 19) (n := 6) (v := nI 6) (by decide +kernel) (by decide) ?_
    refine ab_icmp_gt (off := 38) (pc := 21) (tgt := 59) (by decide +kernel) (by decide) (fun g3 => ?_) (fun g3 => ?_)
    · refine ab_aload_n (pc := 24) (n := 0) (i := 0) (j := 0) (by decide +kernel) rfl rfl ?_
      refine ab_iload_n (pc := 25) (n := 1) (i := 1) (j := 1) (by decide +kernel) rfl rfl ?_
      refine ab_iload (pc := 26) (i := 4) (j := 4) (by decide +kernel) rfl ?_
      refine ab_callVj (As := [.int x1, .int x4]) (st := []) (pc := 28) lk_X11_337_11 rfl rfl rfl (by decide) rfl (Nat.le_of_ble_eq_true rfl) (by decide +kernel) (fun y9 e9 => okX11_wrongAfter hl (F := F) e9) (fun v4 ev4 => ?_)
      refine ab_istore (pc := 31) (i := 5) (lv' := [(0, .ref x0), (1, .int x1), (2, .int x2), (3, .int x3), (4, .int x4), (5, .int v4.1)]) (by decide +kernel) (Nat.le_of_ble_eq_true rfl) rfl rfl ?_
      refine ab_iload_n (pc := 33) (n := 2) (i := 2) (j := 2) (by decide +kernel) rfl rfl ?_
      refine ab_if_eq (off := 12) (pc := 34) (tgt := 46) (by decide +kernel) (by decide) (fun g5 => ?_) (fun g5 => ?_)
      · refine ab_iload_n (pc := 46) (n := 3) (i := 3) (j := 3) (by decide +kernel) rfl rfl ?_
        refine ab_iload (pc := 47) (i := 5) (j := 5) (by decide +kernel) rfl ?_
        refine ab_callSi (As := [.int x3, .int v4.1]) (st := []) (pc := 49) lk_X11_345 rfl rfl rfl (by decide) rfl (Nat.le_of_ble_eq_true rfl) (by decide +kernel) (fun y9 e9 => okJ9_min_7cf53 hl e9) (fun v6 ev6 => ?_)
        refine ab_istore_n (pc := 52) (n := 3) (i := 3) (lv' := [(0, .ref x0), (1, .int x1), (2, .int x2), (3, .int v6), (4, .int x4), (5, .int v4.1)]) (by decide +kernel) rfl (Nat.le_of_ble_eq_true rfl) rfl rfl ?_
        refine ab_iinc (pc := 53) (i := 4) (n := 1) (j := 4) (d := nI 1) (lv' := [(0, .ref x0), (1, .int x1), (2, .int x2), (3, .int v6), (4, .int (x4 + nI 1)), (5, .int v4.1)]) (by decide +kernel) rfl rfl (Nat.le_of_ble_eq_true rfl) rfl rfl ?_
        refine ab_goto (pc := 56) (off := (-39)) (tgt := 17) (by decide +kernel) (by decide) ?_
        refine ab_few [0, 1, 2, 3, 4] (lv' := [(0, .ref x0), (1, .int x1), (2, .int x2), (3, .int v6), (4, .int (x4 + nI 1))]) rfl ?_
        exact ih v6 (x4 + nI 1) v4.2
      · refine ab_iload_n (pc := 37) (n := 3) (i := 3) (j := 3) (by decide +kernel) rfl rfl ?_
        refine ab_iload (pc := 38) (i := 5) (j := 5) (by decide +kernel) rfl ?_
        refine ab_callSi (As := [.int x3, .int v4.1]) (st := []) (pc := 40) lk_X11_340 rfl rfl rfl (by decide) rfl (Nat.le_of_ble_eq_true rfl) (by decide +kernel) (fun y9 e9 => okJ9_max_7cf53 hl e9) (fun v7 ev7 => ?_)
        refine ab_goto (pc := 43) (off := 9) (tgt := 52) (by decide +kernel) (by decide) ?_
        refine ab_istore_n (pc := 52) (n := 3) (i := 3) (lv' := [(0, .ref x0), (1, .int x1), (2, .int x2), (3, .int v7), (4, .int x4), (5, .int v4.1)]) (by decide +kernel) rfl (Nat.le_of_ble_eq_true rfl) rfl rfl ?_
        refine ab_iinc (pc := 53) (i := 4) (n := 1) (j := 4) (d := nI 1) (lv' := [(0, .ref x0), (1, .int x1), (2, .int x2), (3, .int v7), (4, .int (x4 + nI 1)), (5, .int v4.1)]) (by decide +kernel) rfl rfl (Nat.le_of_ble_eq_true rfl) rfl rfl ?_
        refine ab_goto (pc := 56) (off := (-39)) (tgt := 17) (by decide +kernel) (by decide) ?_
        refine ab_few [0, 1, 2, 3, 4] (lv' := [(0, .ref x0), (1, .int x1), (2, .int x2), (3, .int v7), (4, .int (x4 + nI 1))]) rfl ?_
        exact ih v7 (x4 + nI 1) v4.2
    · refine ab_iload_n (pc := 59) (n := 3) (i := 3) (j := 3) (by decide +kernel) rfl rfl ?_
      exact ab_iret (pc := 60) (by decide +kernel) rfl rfl (Nat.le_of_ble_eq_true rfl) (Nat.le_of_ble_eq_true rfl)
set_option maxRecDepth 100000 in
set_option maxHeartbeats 4000000 in
theorem wX11_span {l : Launch} (hl : l.stackTraces = false) (F : Nat) (x0 : Nat) (x1 : Int32) (x2 : Int32) (h : ab_H) : ab_S l mX11_span (fun y : ((Int32 ⊕ String) × ab_H) => ((y.1.elim (fun x => .inl (some (.int x))) (fun E => .inr E), y.2) : ab_R × ab_H)) 0 0 (fX11_span F x0 x1 x2 h) 0 [(0, .ref x0), (1, .int x1), (2, .int x2)] [] h := by
  unfold fX11_span
  refine ab_iload_n (pc := 0) (n := 1) (i := 1) (j := 1) (by decide +kernel) rfl rfl ?_
  refine ab_iconst (pc := 1) (n := 0) (v := nI 0) (by decide +kernel) rfl ?_
  refine ab_bipush (pc := 2) (n := 30) (v := nI 30) (by decide +kernel) (by decide) ?_
  refine ab_callSt (As := [.int x1, .int (nI 0), .int (nI 30)]) (st := []) (thr := (fun E => (Sum.inr E, h))) (pc := 4) lk_X11_243 (fun _ => rfl) rfl (by decide) rfl (Nat.le_of_ble_eq_true rfl) (by decide +kernel) (fun y9 e9 => okX11_needNumber hl e9) ?_
  refine ab_aload_n (pc := 7) (n := 0) (i := 0) (j := 0) (by decide +kernel) rfl rfl ?_
  refine ab_iload_n (pc := 8) (n := 1) (i := 1) (j := 1) (by decide +kernel) rfl rfl ?_
  refine ab_iconst (pc := 9) (n := 1) (v := nI 1) (by decide +kernel) rfl ?_
  refine ab_callVj (As := [.int x1, .int (nI 1)]) (st := []) (pc := 10) lk_X11_337_11 rfl rfl rfl (by decide) rfl (Nat.le_of_ble_eq_true rfl) (by decide +kernel) (fun y9 e9 => okX11_wrongAfter hl (F := F) e9) (fun v2 ev2 => ?_)
  refine ab_istore_n (pc := 13) (n := 3) (i := 3) (lv' := [(0, .ref x0), (1, .int x1), (2, .int x2), (3, .int v2.1)]) (by decide +kernel) rfl (Nat.le_of_ble_eq_true rfl) rfl rfl ?_
  refine ab_iconst (pc := 14) (n := 2) (v := nI 2) (by decide +kernel) rfl ?_
  refine ab_istore (pc := 15) (i := 4) (lv' := [(0, .ref x0), (1, .int x1), (2, .int x2), (3, .int v2.1), (4, .int (nI 2))]) (by decide +kernel) (Nat.le_of_ble_eq_true rfl) rfl rfl ?_
  refine lX11_span_17 hl F x0 x1 x2 F v2.1 (nI 2) v2.2
set_option maxRecDepth 100000 in
set_option maxHeartbeats 4000000 in
theorem okX11_span {l : Launch} (hl : l.stackTraces = false) {F : Nat} {x0 : Nat} {x1 : Int32} {x2 : Int32} {h : ab_H} {y : ((Int32 ⊕ String) × ab_H)} (e : fX11_span F x0 x1 x2 h = some y) : ab_Met l mX11_span [.ref x0, .int x1, .int x2] h ((fun y : ((Int32 ⊕ String) × ab_H) => ((y.1.elim (fun x => .inl (some (.int x))) (fun E => .inr E), y.2) : ab_R × ab_H)) y) := ab_ofS (io := (fun y : ((Int32 ⊕ String) × ab_H) => ((y.1.elim (fun x => .inl (some (.int x))) (fun E => .inr E), y.2) : ab_R × ab_H))) (x := y) hl (by decide) rfl (Nat.le_of_ble_eq_true rfl) (wX11_span hl F x0 x1 x2 h) e
def mX10_readTextD : ab_M := (yX10_readText, cX10_readText, 2, (some .int), { frames := 7, cells := 0, slots := 0, locals := 157 })
theorem iX10_readTextD : ab_MI mX10_readTextD 0 := ⟨kw_27571194c5, kw_564260d124, by decide +kernel⟩
theorem lk_X10_30_1 : ab_LU RX10 30 1 mX1_startText 0 := ⟨"HungFaces$DoorReader", "HungFaces$TextReader", ⟨"HungFaces$TextReader", "startText", "()V"⟩, rfl, iX1_startText, kw_cac350d902, kw_93e6ea99cf, kw_d27bb7fbff, kw_e4bc3ccd88, by decide +kernel, by decide +kernel, by decide +kernel, by decide +kernel⟩
theorem lk_X10_33_1 : ab_LU RX10 33 1 mX10_isHereD 1 := ⟨"HungFaces$DoorReader", "HungFaces$TextReader", ⟨"HungFaces$TextReader", "isHere", "(I)Z"⟩, rfl, iX10_isHereD, kw_6d6475e775, kw_4a0b73de13, kw_9240b532f5, kw_d9fcfcac3c, by decide +kernel, by decide +kernel, by decide +kernel, by decide +kernel⟩
theorem lk_X10_37_1 : ab_LU RX10 37 1 mX1_readLine 0 := ⟨"HungFaces$DoorReader", "HungFaces$TextReader", ⟨"HungFaces$TextReader", "readLine", "()V"⟩, rfl, iX1_readLine, kw_172fb4e6c8, kw_dc9e5374e8, kw_a6b370eec8, kw_881e6731c6, by decide +kernel, by decide +kernel, by decide +kernel, by decide +kernel⟩
theorem lk_X10_47_1 : ab_LU RX10 47 1 mX10_acceptD 1 := ⟨"HungFaces$DoorReader", "HungFaces$TextReader", ⟨"HungFaces$TextReader", "accept", "(Z)V"⟩, rfl, iX10_acceptD, kw_085170e901, kw_7ef7d7a3f6, kw_eb4c2f4eb0, kw_1de8740f35, by decide +kernel, by decide +kernel, by decide +kernel, by decide +kernel⟩
def fX10_readTextD_35 (F : Nat) (x0 : Nat) (k100 : Int32 → ab_H → Option (Int32 × ab_H)) : Nat → Int32 → ab_H → Option (Int32 × ab_H)
  | 0, _, _ => none
  | n + 1, x1, h => (if x1 = 0 then k100 x1 h else ab_bd (ab_fi h x0 1 3) fun v9 => ab_bd (ab_fi h x0 1 1) fun v10 => (if v9 < v10 then ab_ck (ab_io h x0 1 = true) (ab_bd (fX1_readLine F x0 h) fun h12 => ab_bd (ab_fi h12 x0 1 3) fun v13 => ab_bd (ab_fw h12 x0 1 3 (.int (v13 + (nI 1)))) fun h14 => ab_ck (ab_io h14 x0 1 = true) (ab_bd (fX10_isRightD x0 h14) fun v15 => ab_jn (κ := Int32 → Option (Int32 × ab_H)) (fun (z16 : Int32) => (if z16 = 0 then fX10_readTextD_35 F x0 k100 n z16 h14 else ab_bd (ab_fr h14 x0 1 0) fun v18 => ab_ck (ab_io h14 v18 0 = true) (ab_bd (fX0_goOn v18 h14) fun h19 => fX10_readTextD_35 F x0 k100 n z16 h19))) fun j20 => ab_jn (κ := Option (Int32 × ab_H)) (j20 (nI 0)) fun j21 => (if v15 = 0 then j21 else ab_ck (ab_io h14 x0 1 = true) (ab_bd (fX10_isHereD x0 (nI 59) h14) fun v23 => (if v23 = 0 then j21 else j20 (nI 1)))))) else k100 x1 h))
def fX10_readTextD (F : Nat) (x0 : Nat) (h : ab_H) : Option (Int32 × ab_H) := ab_bd (ab_fw h x0 1 2 (.int (-1 : Int32))) fun h1 => ab_bd (ab_fw h1 x0 1 3 (.int (nI 0))) fun h2 => ab_bd (ab_fr h2 x0 1 0) fun v3 => ab_ck (ab_io h2 v3 0 = true) (ab_bd (fX0_cutText F v3 h2) fun h4 => ab_ck (ab_io h4 x0 1 = true) (ab_bd (fX1_startText x0 h4) fun h5 => ab_ck (ab_io h5 x0 1 = true) (ab_bd (fX10_isHereD x0 (-1 : Int32) h5) fun v6 => (if v6 = 0 then fX10_readTextD_35 F x0 (fun (z25 : Int32) (h26 : ab_H) => ab_jn (κ := Int32 → Option (Int32 × ab_H)) (fun (z27 : Int32) => ab_ck (ab_io h26 x0 1 = true) (ab_bd (fX10_acceptD x0 z27 h26) fun h28 => ab_bd (ab_fi h28 x0 1 2) fun v29 => some (v29, h28))) fun j30 => ab_jn (κ := Option (Int32 × ab_H)) (j30 (nI 0)) fun j31 => (if z25 = 0 then ab_ck (ab_io h26 x0 1 = true) (ab_bd (fX10_isHereD x0 (-1 : Int32) h26) fun v33 => (if v33 = 0 then j31 else j30 (nI 1))) else j31)) F (nI 1) h5 else fX10_readTextD_35 F x0 (fun (z35 : Int32) (h36 : ab_H) => ab_jn (κ := Int32 → Option (Int32 × ab_H)) (fun (z37 : Int32) => ab_ck (ab_io h36 x0 1 = true) (ab_bd (fX10_acceptD x0 z37 h36) fun h38 => ab_bd (ab_fi h38 x0 1 2) fun v39 => some (v39, h38))) fun j40 => ab_jn (κ := Option (Int32 × ab_H)) (j40 (nI 0)) fun j41 => (if z35 = 0 then ab_ck (ab_io h36 x0 1 = true) (ab_bd (fX10_isHereD x0 (-1 : Int32) h36) fun v43 => (if v43 = 0 then j41 else j40 (nI 1))) else j41)) F (nI 0) h5))))
set_option maxRecDepth 100000 in
set_option maxHeartbeats 4000000 in
theorem lX10_readTextD_35 {l : Launch} (hl : l.stackTraces = false) (F : Nat) (x0 : Nat) {k100 : Int32 → ab_H → Option (Int32 × ab_H)} (hk100 : ∀ (x1 : Int32), ∀ (h : ab_H), ab_S l mX10_readTextD (fun y : (Int32 × ab_H) => ((.inl (some (.int y.1)), y.2) : ab_R × ab_H)) 0 0 (k100 x1 h) 100 [(0, .ref x0), (1, .int x1)] [] h) : ∀ (n : Nat) (x1 : Int32) (h : ab_H), ab_S l mX10_readTextD (fun y : (Int32 × ab_H) => ((.inl (some (.int y.1)), y.2) : ab_R × ab_H)) 0 0 (fX10_readTextD_35 F x0 k100 n x1 h) 35 [(0, .ref x0), (1, .int x1)] [] h := by
  intro n
  induction n with
  | zero =>
    intro x1 h
    exact ab_none
  | succ n ih =>
    intro x1 h
    rw [fX10_readTextD_35]
    refine ab_iload_n (pc := 35) (n := 1) (i := 1) (j := 1) (by decide +kernel) rfl rfl ?_
    refine ab_if_eq (off := 64) (pc := 36) (tgt := 100) (by decide +kernel) (by decide) (fun g8 => ?_) (fun g8 => ?_)
    · exact hk100 x1 h
    · refine ab_aload_n (pc := 39) (n := 0) (i := 0) (j := 0) (by decide +kernel) rfl rfl ?_
      refine ab_getI (pc := 40) fl_X10_22_1 (by decide +kernel) (fun v9 ev9 => ?_)
      refine ab_aload_n (pc := 43) (n := 0) (i := 0) (j := 0) (by decide +kernel) rfl rfl ?_
      refine ab_getI (pc := 44) fl_X10_15_1 (by decide +kernel) (fun v10 ev10 => ?_)
      refine ab_icmp_ge (off := 53) (pc := 47) (tgt := 100) (by decide +kernel) (by decide) (fun g11 => ?_) (fun g11 => ?_)
      · refine ab_aload_n (pc := 50) (n := 0) (i := 0) (j := 0) (by decide +kernel) rfl rfl ?_
        refine ab_callUw (As := []) (st := []) (pc := 51) lk_X10_37_1 rfl rfl rfl (by decide) rfl (Nat.le_of_ble_eq_true rfl) (by decide +kernel) (fun y9 e9 => okX1_readLine hl (F := F) e9) (fun h12 eh12 => ?_)
        refine ab_aload_n (pc := 54) (n := 0) (i := 0) (j := 0) (by decide +kernel) rfl rfl ?_
        refine ab_dup (pc := 55) (by decide +kernel) rfl ?_
        refine ab_getI (pc := 56) fl_X10_22_1 (by decide +kernel) (fun v13 ev13 => ?_)
        refine ab_iconst (pc := 59) (n := 1) (v := nI 1) (by decide +kernel) rfl ?_
        refine ab_iadd (pc := 60) (by decide +kernel) ?_
        refine ab_put (pc := 61) fl_X10_22_1 rfl (fun _ => rfl) (fun _ => rfl) (by decide +kernel) (fun h14 eh14 => ?_)
        refine ab_aload_n (pc := 64) (n := 0) (i := 0) (j := 0) (by decide +kernel) rfl rfl ?_
        refine ab_callUi (As := []) (st := []) (pc := 65) lk_X10_40_1 rfl rfl rfl (by decide) rfl (Nat.le_of_ble_eq_true rfl) (by decide +kernel) (fun y9 e9 => okX10_isRightD hl e9) (fun v15 ev15 => ?_)
        refine ab_jr (fun k9 : Int32 → Option (Int32 × ab_H) => ∀ (z16 : Int32), ab_S l mX10_readTextD (fun y : (Int32 × ab_H) => ((.inl (some (.int y.1)), y.2) : ab_R × ab_H)) 0 0 (k9 z16) 85 [(0, .ref x0)] [.int z16] h14) ?_ (fun j20 hj20 => ?_)
        · intro z16
          refine ab_istore_n (pc := 85) (n := 1) (i := 1) (lv' := [(0, .ref x0), (1, .int z16)]) (by decide +kernel) rfl (Nat.le_of_ble_eq_true rfl) rfl rfl ?_
          refine ab_iload_n (pc := 86) (n := 1) (i := 1) (j := 1) (by decide +kernel) rfl rfl ?_
          refine ab_if_eq (off := (-52)) (pc := 87) (tgt := 35) (by decide +kernel) (by decide) (fun g17 => ?_) (fun g17 => ?_)
          · exact ih z16 h14
          · refine ab_aload_n (pc := 90) (n := 0) (i := 0) (j := 0) (by decide +kernel) rfl rfl ?_
            refine ab_getR (pc := 91) fl_X10_9_1 (by decide +kernel) (fun v18 ev18 => ?_)
            refine ab_callVw (As := []) (st := []) (pc := 94) lk_X10_44_0 rfl rfl rfl (by decide) rfl (Nat.le_of_ble_eq_true rfl) (by decide +kernel) (fun y9 e9 => okX0_goOn hl e9) (fun h19 eh19 => ?_)
            refine ab_goto (pc := 97) (off := (-62)) (tgt := 35) (by decide +kernel) (by decide) ?_
            exact ih z16 h19
        · refine ab_jr (fun k9 : Option (Int32 × ab_H) => ab_S l mX10_readTextD (fun y : (Int32 × ab_H) => ((.inl (some (.int y.1)), y.2) : ab_R × ab_H)) 0 0 (k9) 84 [(0, .ref x0)] [] h14) ?_ (fun j21 hj21 => ?_)
          · refine ab_iconst (pc := 84) (n := 0) (v := nI 0) (by decide +kernel) rfl ?_
            exact hj20 (nI 0)
          · refine ab_if_eq (off := 16) (pc := 68) (tgt := 84) (by decide +kernel) (by decide) (fun g22 => ?_) (fun g22 => ?_)
            · refine ab_few [0] (lv' := [(0, .ref x0)]) rfl ?_
              exact hj21
            · refine ab_aload_n (pc := 71) (n := 0) (i := 0) (j := 0) (by decide +kernel) rfl rfl ?_
              refine ab_bipush (pc := 72) (n := 59) (v := nI 59) (by decide +kernel) (by decide) ?_
              refine ab_callUi (As := [.int (nI 59)]) (st := []) (pc := 74) lk_X10_33_1 rfl rfl rfl (by decide) rfl (Nat.le_of_ble_eq_true rfl) (by decide +kernel) (fun y9 e9 => okX10_isHereD hl e9) (fun v23 ev23 => ?_)
              refine ab_if_eq (off := 7) (pc := 77) (tgt := 84) (by decide +kernel) (by decide) (fun g24 => ?_) (fun g24 => ?_)
              · refine ab_few [0] (lv' := [(0, .ref x0)]) rfl ?_
                exact hj21
              · refine ab_iconst (pc := 80) (n := 1) (v := nI 1) (by decide +kernel) rfl ?_
                refine ab_goto (pc := 81) (off := 4) (tgt := 85) (by decide +kernel) (by decide) ?_
                refine ab_few [0] (lv' := [(0, .ref x0)]) rfl ?_
                exact hj20 (nI 1)
      · exact hk100 x1 h
set_option maxRecDepth 100000 in
set_option maxHeartbeats 4000000 in
theorem wX10_readTextD {l : Launch} (hl : l.stackTraces = false) (F : Nat) (x0 : Nat) (h : ab_H) : ab_S l mX10_readTextD (fun y : (Int32 × ab_H) => ((.inl (some (.int y.1)), y.2) : ab_R × ab_H)) 0 0 (fX10_readTextD F x0 h) 0 [(0, .ref x0)] [] h := by
  unfold fX10_readTextD
  refine ab_aload_n (pc := 0) (n := 0) (i := 0) (j := 0) (by decide +kernel) rfl rfl ?_
  refine ab_iconst (pc := 1) (n := -1) (v := (-1 : Int32)) (by decide +kernel) rfl ?_
  refine ab_put (pc := 2) fl_X10_19_1 rfl (fun _ => rfl) (fun _ => rfl) (by decide +kernel) (fun h1 eh1 => ?_)
  refine ab_aload_n (pc := 5) (n := 0) (i := 0) (j := 0) (by decide +kernel) rfl rfl ?_
  refine ab_iconst (pc := 6) (n := 0) (v := nI 0) (by decide +kernel) rfl ?_
  refine ab_put (pc := 7) fl_X10_22_1 rfl (fun _ => rfl) (fun _ => rfl) (by decide +kernel) (fun h2 eh2 => ?_)
  refine ab_aload_n (pc := 10) (n := 0) (i := 0) (j := 0) (by decide +kernel) rfl rfl ?_
  refine ab_getR (pc := 11) fl_X10_9_1 (by decide +kernel) (fun v3 ev3 => ?_)
  refine ab_callVw (As := []) (st := []) (pc := 14) lk_X10_25_0 rfl rfl rfl (by decide) rfl (Nat.le_of_ble_eq_true rfl) (by decide +kernel) (fun y9 e9 => okX0_cutText hl (F := F) e9) (fun h4 eh4 => ?_)
  refine ab_aload_n (pc := 17) (n := 0) (i := 0) (j := 0) (by decide +kernel) rfl rfl ?_
  refine ab_callUw (As := []) (st := []) (pc := 18) lk_X10_30_1 rfl rfl rfl (by decide) rfl (Nat.le_of_ble_eq_true rfl) (by decide +kernel) (fun y9 e9 => okX1_startText hl e9) (fun h5 eh5 => ?_)
  refine ab_aload_n (pc := 21) (n := 0) (i := 0) (j := 0) (by decide +kernel) rfl rfl ?_
  refine ab_iconst (pc := 22) (n := -1) (v := (-1 : Int32)) (by decide +kernel) rfl ?_
  refine ab_callUi (As := [.int (-1 : Int32)]) (st := []) (pc := 23) lk_X10_33_1 rfl rfl rfl (by decide) rfl (Nat.le_of_ble_eq_true rfl) (by decide +kernel) (fun y9 e9 => okX10_isHereD hl e9) (fun v6 ev6 => ?_)
  refine ab_if_ne (off := 7) (pc := 26) (tgt := 33) (by decide +kernel) (by decide) (fun g7 => ?_) (fun g7 => ?_)
  · refine ab_iconst (pc := 29) (n := 1) (v := nI 1) (by decide +kernel) rfl ?_
    refine ab_goto (pc := 30) (off := 4) (tgt := 34) (by decide +kernel) (by decide) ?_
    refine ab_istore_n (pc := 34) (n := 1) (i := 1) (lv' := [(0, .ref x0), (1, .int (nI 1))]) (by decide +kernel) rfl (Nat.le_of_ble_eq_true rfl) rfl rfl ?_
    refine lX10_readTextD_35 hl F x0 ?_ F (nI 1) h5
    intro z25 h26
    refine ab_aload_n (pc := 100) (n := 0) (i := 0) (j := 0) (by decide +kernel) rfl rfl ?_
    refine ab_iload_n (pc := 101) (n := 1) (i := 1) (j := 1) (by decide +kernel) rfl rfl ?_
    refine ab_jr (fun k9 : Int32 → Option (Int32 × ab_H) => ∀ (z27 : Int32), ab_S l mX10_readTextD (fun y : (Int32 × ab_H) => ((.inl (some (.int y.1)), y.2) : ab_R × ab_H)) 0 0 (k9 z27) 118 [(0, .ref x0)] [.int z27, .ref x0] h26) ?_ (fun j30 hj30 => ?_)
    · intro z27
      refine ab_callUw (As := [.int z27]) (st := []) (pc := 118) lk_X10_47_1 rfl rfl rfl (by decide) rfl (Nat.le_of_ble_eq_true rfl) (by decide +kernel) (fun y9 e9 => okX10_acceptD hl e9) (fun h28 eh28 => ?_)
      refine ab_aload_n (pc := 121) (n := 0) (i := 0) (j := 0) (by decide +kernel) rfl rfl ?_
      refine ab_getI (pc := 122) fl_X10_19_1 (by decide +kernel) (fun v29 ev29 => ?_)
      exact ab_iret (pc := 125) (by decide +kernel) rfl rfl (Nat.le_of_ble_eq_true rfl) (Nat.le_of_ble_eq_true rfl)
    · refine ab_jr (fun k9 : Option (Int32 × ab_H) => ab_S l mX10_readTextD (fun y : (Int32 × ab_H) => ((.inl (some (.int y.1)), y.2) : ab_R × ab_H)) 0 0 (k9) 117 [(0, .ref x0)] [.ref x0] h26) ?_ (fun j31 hj31 => ?_)
      · refine ab_iconst (pc := 117) (n := 0) (v := nI 0) (by decide +kernel) rfl ?_
        exact hj30 (nI 0)
      · refine ab_if_ne (off := 15) (pc := 102) (tgt := 117) (by decide +kernel) (by decide) (fun g32 => ?_) (fun g32 => ?_)
        · refine ab_aload_n (pc := 105) (n := 0) (i := 0) (j := 0) (by decide +kernel) rfl rfl ?_
          refine ab_iconst (pc := 106) (n := -1) (v := (-1 : Int32)) (by decide +kernel) rfl ?_
          refine ab_callUi (As := [.int (-1 : Int32)]) (st := [.ref x0]) (pc := 107) lk_X10_33_1 rfl rfl rfl (by decide) rfl (Nat.le_of_ble_eq_true rfl) (by decide +kernel) (fun y9 e9 => okX10_isHereD hl e9) (fun v33 ev33 => ?_)
          refine ab_if_eq (off := 7) (pc := 110) (tgt := 117) (by decide +kernel) (by decide) (fun g34 => ?_) (fun g34 => ?_)
          · refine ab_few [0] (lv' := [(0, .ref x0)]) rfl ?_
            exact hj31
          · refine ab_iconst (pc := 113) (n := 1) (v := nI 1) (by decide +kernel) rfl ?_
            refine ab_goto (pc := 114) (off := 4) (tgt := 118) (by decide +kernel) (by decide) ?_
            refine ab_few [0] (lv' := [(0, .ref x0)]) rfl ?_
            exact hj30 (nI 1)
        · refine ab_few [0] (lv' := [(0, .ref x0)]) rfl ?_
          exact hj31
  · refine ab_iconst (pc := 33) (n := 0) (v := nI 0) (by decide +kernel) rfl ?_
    refine ab_istore_n (pc := 34) (n := 1) (i := 1) (lv' := [(0, .ref x0), (1, .int (nI 0))]) (by decide +kernel) rfl (Nat.le_of_ble_eq_true rfl) rfl rfl ?_
    refine lX10_readTextD_35 hl F x0 ?_ F (nI 0) h5
    intro z35 h36
    refine ab_aload_n (pc := 100) (n := 0) (i := 0) (j := 0) (by decide +kernel) rfl rfl ?_
    refine ab_iload_n (pc := 101) (n := 1) (i := 1) (j := 1) (by decide +kernel) rfl rfl ?_
    refine ab_jr (fun k9 : Int32 → Option (Int32 × ab_H) => ∀ (z37 : Int32), ab_S l mX10_readTextD (fun y : (Int32 × ab_H) => ((.inl (some (.int y.1)), y.2) : ab_R × ab_H)) 0 0 (k9 z37) 118 [(0, .ref x0)] [.int z37, .ref x0] h36) ?_ (fun j40 hj40 => ?_)
    · intro z37
      refine ab_callUw (As := [.int z37]) (st := []) (pc := 118) lk_X10_47_1 rfl rfl rfl (by decide) rfl (Nat.le_of_ble_eq_true rfl) (by decide +kernel) (fun y9 e9 => okX10_acceptD hl e9) (fun h38 eh38 => ?_)
      refine ab_aload_n (pc := 121) (n := 0) (i := 0) (j := 0) (by decide +kernel) rfl rfl ?_
      refine ab_getI (pc := 122) fl_X10_19_1 (by decide +kernel) (fun v39 ev39 => ?_)
      exact ab_iret (pc := 125) (by decide +kernel) rfl rfl (Nat.le_of_ble_eq_true rfl) (Nat.le_of_ble_eq_true rfl)
    · refine ab_jr (fun k9 : Option (Int32 × ab_H) => ab_S l mX10_readTextD (fun y : (Int32 × ab_H) => ((.inl (some (.int y.1)), y.2) : ab_R × ab_H)) 0 0 (k9) 117 [(0, .ref x0)] [.ref x0] h36) ?_ (fun j41 hj41 => ?_)
      · refine ab_iconst (pc := 117) (n := 0) (v := nI 0) (by decide +kernel) rfl ?_
        exact hj40 (nI 0)
      · refine ab_if_ne (off := 15) (pc := 102) (tgt := 117) (by decide +kernel) (by decide) (fun g42 => ?_) (fun g42 => ?_)
        · refine ab_aload_n (pc := 105) (n := 0) (i := 0) (j := 0) (by decide +kernel) rfl rfl ?_
          refine ab_iconst (pc := 106) (n := -1) (v := (-1 : Int32)) (by decide +kernel) rfl ?_
          refine ab_callUi (As := [.int (-1 : Int32)]) (st := [.ref x0]) (pc := 107) lk_X10_33_1 rfl rfl rfl (by decide) rfl (Nat.le_of_ble_eq_true rfl) (by decide +kernel) (fun y9 e9 => okX10_isHereD hl e9) (fun v43 ev43 => ?_)
          refine ab_if_eq (off := 7) (pc := 110) (tgt := 117) (by decide +kernel) (by decide) (fun g44 => ?_) (fun g44 => ?_)
          · refine ab_few [0] (lv' := [(0, .ref x0)]) rfl ?_
            exact hj41
          · refine ab_iconst (pc := 113) (n := 1) (v := nI 1) (by decide +kernel) rfl ?_
            refine ab_goto (pc := 114) (off := 4) (tgt := 118) (by decide +kernel) (by decide) ?_
            refine ab_few [0] (lv' := [(0, .ref x0)]) rfl ?_
            exact hj40 (nI 1)
        · refine ab_few [0] (lv' := [(0, .ref x0)]) rfl ?_
          exact hj41
set_option maxRecDepth 100000 in
set_option maxHeartbeats 4000000 in
theorem okX10_readTextD {l : Launch} (hl : l.stackTraces = false) {F : Nat} {x0 : Nat} {h : ab_H} {y : (Int32 × ab_H)} (e : fX10_readTextD F x0 h = some y) : ab_Met l mX10_readTextD [.ref x0] h (.inl (some (.int y.1)), y.2) := ab_ofS (io := (fun y : (Int32 × ab_H) => ((.inl (some (.int y.1)), y.2) : ab_R × ab_H))) (x := y) hl (by decide) rfl (Nat.le_of_ble_eq_true rfl) (wX10_readTextD hl F x0 h) e
def mX11_door : ab_M := (yX11_door, cX11_door, 1, (some .int), { frames := 8, cells := 1, slots := 6, locals := 178 })
theorem iX11_door : ab_MI mX11_door 0 := ⟨kw_877fff2476, kw_62b61b7ad3, by decide +kernel⟩
theorem lk_X11_91_1 : ab_LU RX11 91 1 mX10_readTextD 0 := ⟨"HungFaces$DoorReader", "HungFaces$TextReader", ⟨"HungFaces$DoorReader", "readText", "()I"⟩, rfl, iX10_readTextD, kw_66f87130f7, kw_ddcdd5fd6f, kw_7b520196f1, kw_1387db8c1f, by decide +kernel, by decide +kernel, by decide +kernel, by decide +kernel⟩
theorem th_X11_105_109 : ab_TH RX11 105 109 "java/lang/UnsupportedOperationException" := ⟨⟨by decide +kernel, by decide +kernel⟩, kw_f47d82ba5c, kw_f75a9724e0, by decide +kernel, by decide +kernel, by decide +kernel⟩
def fX11_door (F : Nat) (x0 : Nat) (h : ab_H) : Option ((Int32 ⊕ String) × ab_H) := ab_bd (ab_fr h x0 11 5) fun v1 => ab_ck (ab_io h v1 1 = true) (ab_bd (fX10_readTextD F v1 h) fun v2 => ab_bd (ab_fw v2.2 x0 11 10 (.int v2.1)) fun h3 => ab_bd (ab_fr h3 x0 11 0) fun v4 => ab_bd (ab_fw h3 v4 9 1 (.int (nI 0))) fun h5 => ab_bd (ab_fi h5 x0 11 10) fun v6 => (if v6 = (-1 : Int32) then ab_bd (ab_fr h5 x0 11 1) fun v8 => ab_bd (ab_fi h5 v8 8 6) fun v9 => (if v9 < (nI 12) then ab_bd (ab_fr h5 x0 11 1) fun v11 => ab_bd (ab_fr h5 x0 11 2) fun v12 => ab_ck (ab_io h5 v11 8 = true) (ab_bd (fX8_copyFrom v11 v12 h5) fun h13 => ab_bd (ab_fr h13 x0 11 1) fun v14 => ab_bd (ab_fi h13 v14 8 6) fun v15 => ab_bd (ab_fw h13 v14 8 6 (.int (v15 + (nI 1)))) fun h16 => ab_bd (ab_fr h16 x0 11 4) fun v17 => ab_ck (ab_io h16 v17 6 = true) (ab_bd (fX6_forget v17 h16) fun h18 => ab_bd (ab_fr h18 x0 11 1) fun v19 => ab_bd (ab_fi h18 v19 8 6) fun v20 => some (.inl v20, h18))) else some (.inr "java/lang/UnsupportedOperationException", h5)) else some (.inr "java/lang/IllegalArgumentException", h5)))
set_option maxRecDepth 100000 in
set_option maxHeartbeats 4000000 in
theorem wX11_door {l : Launch} (hl : l.stackTraces = false) (F : Nat) (x0 : Nat) (h : ab_H) : ab_S l mX11_door (fun y : ((Int32 ⊕ String) × ab_H) => ((y.1.elim (fun x => .inl (some (.int x))) (fun E => .inr E), y.2) : ab_R × ab_H)) 0 0 (fX11_door F x0 h) 0 [(0, .ref x0)] [] h := by
  unfold fX11_door
  refine ab_aload_n (pc := 0) (n := 0) (i := 0) (j := 0) (by decide +kernel) rfl rfl ?_
  refine ab_aload_n (pc := 1) (n := 0) (i := 0) (j := 0) (by decide +kernel) rfl rfl ?_
  refine ab_getR (pc := 2) fl_X11_53_11 (by decide +kernel) (fun v1 ev1 => ?_)
  refine ab_callUj (As := []) (st := [.ref x0]) (pc := 5) lk_X11_91_1 rfl rfl rfl (by decide) rfl (Nat.le_of_ble_eq_true rfl) (by decide +kernel) (fun y9 e9 => okX10_readTextD hl (F := F) e9) (fun v2 ev2 => ?_)
  refine ab_put (pc := 8) fl_X11_80_11 rfl (fun _ => rfl) (fun _ => rfl) (by decide +kernel) (fun h3 eh3 => ?_)
  refine ab_aload_n (pc := 11) (n := 0) (i := 0) (j := 0) (by decide +kernel) rfl rfl ?_
  refine ab_getR (pc := 12) fl_X11_17_11 (by decide +kernel) (fun v4 ev4 => ?_)
  refine ab_iconst (pc := 15) (n := 0) (v := nI 0) (by decide +kernel) rfl ?_
  refine ab_put (pc := 16) fl_X11_84_9 rfl (fun _ => rfl) (fun _ => rfl) (by decide +kernel) (fun h5 eh5 => ?_)
  refine ab_aload_n (pc := 19) (n := 0) (i := 0) (j := 0) (by decide +kernel) rfl rfl ?_
  refine ab_getI (pc := 20) fl_X11_80_11 (by decide +kernel) (fun v6 ev6 => ?_)
  refine ab_iconst (pc := 23) (n := -1) (v := (-1 : Int32)) (by decide +kernel) rfl ?_
  refine ab_icmp_eq (off := 13) (pc := 24) (tgt := 37) (by decide +kernel) (by decide) (fun g7 => ?_) (fun g7 => ?_)
  · refine ab_aload_n (pc := 37) (n := 0) (i := 0) (j := 0) (by decide +kernel) rfl rfl ?_
    refine ab_getR (pc := 38) fl_X11_26_11 (by decide +kernel) (fun v8 ev8 => ?_)
    refine ab_getI (pc := 41) fl_X11_102_8 (by decide +kernel) (fun v9 ev9 => ?_)
    refine ab_bipush (pc := 44) (n := 12) (v := nI 12) (by decide +kernel) (by decide) ?_
    refine ab_icmp_lt (off := 13) (pc := 46) (tgt := 59) (by decide +kernel) (by decide) (fun g10 => ?_) (fun g10 => ?_)
    · refine ab_aload_n (pc := 59) (n := 0) (i := 0) (j := 0) (by decide +kernel) rfl rfl ?_
      refine ab_getR (pc := 60) fl_X11_26_11 (by decide +kernel) (fun v11 ev11 => ?_)
      refine ab_aload_n (pc := 63) (n := 0) (i := 0) (j := 0) (by decide +kernel) rfl rfl ?_
      refine ab_getR (pc := 64) fl_X11_30_11 (by decide +kernel) (fun v12 ev12 => ?_)
      refine ab_callVw (As := [.ref v12]) (st := []) (pc := 67) lk_X11_110_8 rfl rfl rfl (by decide) rfl (Nat.le_of_ble_eq_true rfl) (by decide +kernel) (fun y9 e9 => okX8_copyFrom hl e9) (fun h13 eh13 => ?_)
      refine ab_aload_n (pc := 70) (n := 0) (i := 0) (j := 0) (by decide +kernel) rfl rfl ?_
      refine ab_getR (pc := 71) fl_X11_26_11 (by decide +kernel) (fun v14 ev14 => ?_)
      refine ab_dup (pc := 74) (by decide +kernel) rfl ?_
      refine ab_getI (pc := 75) fl_X11_102_8 (by decide +kernel) (fun v15 ev15 => ?_)
      refine ab_iconst (pc := 78) (n := 1) (v := nI 1) (by decide +kernel) rfl ?_
      refine ab_iadd (pc := 79) (by decide +kernel) ?_
      refine ab_put (pc := 80) fl_X11_102_8 rfl (fun _ => rfl) (fun _ => rfl) (by decide +kernel) (fun h16 eh16 => ?_)
      refine ab_aload_n (pc := 83) (n := 0) (i := 0) (j := 0) (by decide +kernel) rfl rfl ?_
      refine ab_getR (pc := 84) fl_X11_39_11 (by decide +kernel) (fun v17 ev17 => ?_)
      refine ab_callVw (As := []) (st := []) (pc := 87) lk_X11_114_6 rfl rfl rfl (by decide) rfl (Nat.le_of_ble_eq_true rfl) (by decide +kernel) (fun y9 e9 => okX6_forget hl e9) (fun h18 eh18 => ?_)
      refine ab_aload_n (pc := 90) (n := 0) (i := 0) (j := 0) (by decide +kernel) rfl rfl ?_
      refine ab_getR (pc := 91) fl_X11_26_11 (by decide +kernel) (fun v19 ev19 => ?_)
      refine ab_getI (pc := 94) fl_X11_102_8 (by decide +kernel) (fun v20 ev20 => ?_)
      exact ab_iret (pc := 97) (by decide +kernel) rfl rfl (Nat.le_of_ble_eq_true rfl) (Nat.le_of_ble_eq_true rfl)
    · exact ab_thr (pc := 49) (ik := 105) (is := 107) (ic := 109) (kk := 2) (text := "there are 12 texts of THE DOOR") th_X11_105_109 (by show (RX11, 107, "there are 12 texts of THE DOOR", 2) ∈ ab_sr; decide +kernel) rfl (by decide +kernel) (by decide +kernel) (by decide +kernel) (by decide +kernel) (by decide +kernel) (by decide) (Nat.le_of_ble_eq_true rfl) (Nat.le_of_ble_eq_true rfl) (Nat.le_of_ble_eq_true rfl)
  · exact ab_thr (pc := 27) (ik := 95) (is := 97) (ic := 99) (kk := 1) (text := "the text of THE DOOR is wrong") th_X11_95_99 (by show (RX11, 97, "the text of THE DOOR is wrong", 1) ∈ ab_sr; decide +kernel) rfl (by decide +kernel) (by decide +kernel) (by decide +kernel) (by decide +kernel) (by decide +kernel) (by decide) (Nat.le_of_ble_eq_true rfl) (Nat.le_of_ble_eq_true rfl) (Nat.le_of_ble_eq_true rfl)
set_option maxRecDepth 100000 in
set_option maxHeartbeats 4000000 in
theorem okX11_door {l : Launch} (hl : l.stackTraces = false) {F : Nat} {x0 : Nat} {h : ab_H} {y : ((Int32 ⊕ String) × ab_H)} (e : fX11_door F x0 h = some y) : ab_Met l mX11_door [.ref x0] h ((fun y : ((Int32 ⊕ String) × ab_H) => ((y.1.elim (fun x => .inl (some (.int x))) (fun E => .inr E), y.2) : ab_R × ab_H)) y) := ab_ofS (io := (fun y : ((Int32 ⊕ String) × ab_H) => ((y.1.elim (fun x => .inl (some (.int x))) (fun E => .inr E), y.2) : ab_R × ab_H))) (x := y) hl (by decide) rfl (Nat.le_of_ble_eq_true rfl) (wX11_door hl F x0 h) e
