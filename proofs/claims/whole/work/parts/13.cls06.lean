/-! ===== class (by program, decomp.py) ===== -/
def mX11_hears : ab_M := (yX11_hears, cX11_hears, 4, (some .int), { frames := 7, cells := 2, slots := 12, locals := 112 })
theorem iX11_hears : ab_MI mX11_hears 2 := ⟨kw_e7b2d4a4dc, kw_62b61b7ad3, by decide +kernel⟩
theorem lk_X11_331_8 : ab_LV RX11 331 8 mX8_meetAllWhoKnow 0 := ⟨RX8, rfl, iX8_meetAllWhoKnow, kw_fd3ab819b5, kw_ca18759d62, kw_a60a296c52⟩
def fX11_hears_25 (F : Nat) (x0 : Nat) (x1 : Int32) (x2 : Int32) : Nat → Int32 → ab_H → Option ((Int32 ⊕ String) × ab_H)
  | 0, _, _ => none
  | n + 1, x3, h => (if x3 < x2 then ab_bd (ab_fr h x0 11 2) fun v7 => ab_ck (ab_io h v7 8 = true) (ab_bd (fX8_meetAllWhoKnow F v7 h) fun h8 => fX11_hears_25 F x0 x1 x2 n (x3 + nI 1) h8) else ab_bd (ab_fr h x0 11 2) fun v9 => ab_bd (ab_fr h v9 8 14) fun v10 => ab_bd (ab_ia 0 h v10 x1) fun v11 => some (.inl v11, h))
def fX11_hears (F : Nat) (x0 : Nat) (x1 : Int32) (x2 : Int32) (h : ab_H) : Option ((Int32 ⊕ String) × ab_H) := ab_ck (ab_io h x0 11 = true) (ab_bx (fX11_needPerson x0 x1 h) (fun E => (Sum.inr E, h)) (ab_bx (fX11_needNumber x2 (nI 0) (nI 20) h) (fun E => (Sum.inr E, h)) (ab_bd (ab_fr h x0 11 2) fun v3 => ab_bd (ab_fr h x0 11 1) fun v4 => ab_ck (ab_io h v3 8 = true) (ab_bd (fX8_copyFrom v3 v4 h) fun h5 => fX11_hears_25 F x0 x1 x2 F (nI 0) h5))))
set_option maxRecDepth 100000 in
set_option maxHeartbeats 4000000 in
theorem lX11_hears_25 {l : Launch} (hl : l.stackTraces = false) (F : Nat) (x0 : Nat) (x1 : Int32) (x2 : Int32) : ∀ (n : Nat) (x3 : Int32) (h : ab_H), ab_S l mX11_hears (fun y : ((Int32 ⊕ String) × ab_H) => ((y.1.elim (fun x => .inl (some (.int x))) (fun E => .inr E), y.2) : ab_R × ab_H)) 2 12 (fX11_hears_25 F x0 x1 x2 n x3 h) 25 [(0, .ref x0), (1, .int x1), (2, .int x2), (3, .int x3)] [] h := by
  intro n
  induction n with
  | zero =>
    intro x3 h
    exact ab_none
  | succ n ih =>
    intro x3 h
    rw [fX11_hears_25]
    refine ab_iload_n (pc := 25) (n := 3) (i := 3) (j := 3) (by decide +kernel) rfl rfl ?_
    refine ab_iload_n (pc := 26) (n := 2) (i := 2) (j := 2) (by decide +kernel) rfl rfl ?_
    refine ab_icmp_ge (off := 16) (pc := 27) (tgt := 43) (by decide +kernel) (by decide) (fun g6 => ?_) (fun g6 => ?_)
    · refine ab_aload_n (pc := 30) (n := 0) (i := 0) (j := 0) (by decide +kernel) rfl rfl ?_
      refine ab_getR (pc := 31) fl_X11_30_11 (by decide +kernel) (fun v7 ev7 => ?_)
      refine ab_callVw (As := []) (st := []) (pc := 34) lk_X11_331_8 rfl rfl rfl (by decide) rfl (Nat.le_of_ble_eq_true rfl) (by decide +kernel) (fun y9 e9 => okX8_meetAllWhoKnow hl (F := F) e9) (fun h8 eh8 => ?_)
      refine ab_iinc (pc := 37) (i := 3) (n := 1) (j := 3) (d := nI 1) (lv' := [(0, .ref x0), (1, .int x1), (2, .int x2), (3, .int (x3 + nI 1))]) (by decide +kernel) rfl rfl (Nat.le_of_ble_eq_true rfl) rfl rfl ?_
      refine ab_goto (pc := 40) (off := (-15)) (tgt := 25) (by decide +kernel) (by decide) ?_
      exact ih (x3 + nI 1) h8
    · refine ab_aload_n (pc := 43) (n := 0) (i := 0) (j := 0) (by decide +kernel) rfl rfl ?_
      refine ab_getR (pc := 44) fl_X11_30_11 (by decide +kernel) (fun v9 ev9 => ?_)
      refine ab_getR (pc := 47) fl_X11_147_8 (by decide +kernel) (fun v10 ev10 => ?_)
      refine ab_iload_n (pc := 50) (n := 1) (i := 1) (j := 1) (by decide +kernel) rfl rfl ?_
      refine ab_iald (pc := 51) (by decide +kernel) (fun v11 ev11 => ?_)
      exact ab_iret (pc := 52) (by decide +kernel) rfl rfl (Nat.le_of_ble_eq_true rfl) (Nat.le_of_ble_eq_true rfl)
set_option maxRecDepth 100000 in
set_option maxHeartbeats 4000000 in
theorem wX11_hears {l : Launch} (hl : l.stackTraces = false) (F : Nat) (x0 : Nat) (x1 : Int32) (x2 : Int32) (h : ab_H) : ab_S l mX11_hears (fun y : ((Int32 ⊕ String) × ab_H) => ((y.1.elim (fun x => .inl (some (.int x))) (fun E => .inr E), y.2) : ab_R × ab_H)) 0 0 (fX11_hears F x0 x1 x2 h) 0 [(0, .ref x0), (1, .int x1), (2, .int x2)] [] h := by
  unfold fX11_hears
  refine ab_aload_n (pc := 0) (n := 0) (i := 0) (j := 0) (by decide +kernel) rfl rfl ?_
  refine ab_iload_n (pc := 1) (n := 1) (i := 1) (j := 1) (by decide +kernel) rfl rfl ?_
  refine ab_callVt (As := [.int x1]) (st := []) (thr := (fun E => (Sum.inr E, h))) (pc := 2) lk_X11_131_11 (fun _ => rfl) rfl (by decide) rfl (Nat.le_of_ble_eq_true rfl) (by decide +kernel) (fun y9 e9 => okX11_needPerson hl e9) ?_
  refine ab_iload_n (pc := 5) (n := 2) (i := 2) (j := 2) (by decide +kernel) rfl rfl ?_
  refine ab_iconst (pc := 6) (n := 0) (v := nI 0) (by decide +kernel) rfl ?_
  refine ab_bipush (pc := 7) (n := 20) (v := nI 20) (by decide +kernel) (by decide) ?_
  refine ab_callSt (As := [.int x2, .int (nI 0), .int (nI 20)]) (st := []) (thr := (fun E => (Sum.inr E, h))) (pc := 9) lk_X11_243 (fun _ => rfl) rfl (by decide) rfl (Nat.le_of_ble_eq_true rfl) (by decide +kernel) (fun y9 e9 => okX11_needNumber hl e9) ?_
  refine ab_aload_n (pc := 12) (n := 0) (i := 0) (j := 0) (by decide +kernel) rfl rfl ?_
  refine ab_getR (pc := 13) fl_X11_30_11 (by decide +kernel) (fun v3 ev3 => ?_)
  refine ab_aload_n (pc := 16) (n := 0) (i := 0) (j := 0) (by decide +kernel) rfl rfl ?_
  refine ab_getR (pc := 17) fl_X11_26_11 (by decide +kernel) (fun v4 ev4 => ?_)
  refine ab_callVw (As := [.ref v4]) (st := []) (pc := 20) lk_X11_110_8 rfl rfl rfl (by decide) rfl (Nat.le_of_ble_eq_true rfl) (by decide +kernel) (fun y9 e9 => okX8_copyFrom hl e9) (fun h5 eh5 => ?_)
  refine ab_iconst (pc := 23) (n := 0) (v := nI 0) (by decide +kernel) rfl ?_
  refine ab_istore_n (pc := 24) (n := 3) (i := 3) (lv' := [(0, .ref x0), (1, .int x1), (2, .int x2), (3, .int (nI 0))]) (by decide +kernel) rfl (Nat.le_of_ble_eq_true rfl) rfl rfl ?_
  refine lX11_hears_25 hl F x0 x1 x2 F (nI 0) h5
set_option maxRecDepth 100000 in
set_option maxHeartbeats 4000000 in
theorem okX11_hears {l : Launch} (hl : l.stackTraces = false) {F : Nat} {x0 : Nat} {x1 : Int32} {x2 : Int32} {h : ab_H} {y : ((Int32 ⊕ String) × ab_H)} (e : fX11_hears F x0 x1 x2 h = some y) : ab_Met l mX11_hears [.ref x0, .int x1, .int x2] h ((fun y : ((Int32 ⊕ String) × ab_H) => ((y.1.elim (fun x => .inl (some (.int x))) (fun E => .inr E), y.2) : ab_R × ab_H)) y) := ab_ofS (io := (fun y : ((Int32 ⊕ String) × ab_H) => ((y.1.elim (fun x => .inl (some (.int x))) (fun E => .inr E), y.2) : ab_R × ab_H))) (x := y) hl (by decide) rfl (Nat.le_of_ble_eq_true rfl) (wX11_hears hl F x0 x1 x2 h) e
def mX11_led : ab_M := (yX11_led, cX11_led, 7, (some .int), { frames := 7, cells := 1, slots := 6, locals := 111 })
theorem iX11_led : ab_MI mX11_led 2 := ⟨kw_6be3a5848c, kw_62b61b7ad3, by decide +kernel⟩
theorem lk_X11_357_4 : ab_LV RX11 357 4 mX4_cell 2 := ⟨RX4, rfl, iX4_cell, kw_b7f98934f2, kw_d4df24f002, kw_f0821e4d99⟩
def fX11_led_24 (x0 : Nat) (x1 : Int32) (x2 : Int32) (h : ab_H) (k97 : Int32 → Int32 → Option (Int32 ⊕ String)) : Nat → Int32 → Int32 → Int32 → Option (Int32 ⊕ String)
  | 0, _, _, _ => none
  | n + 1, x3, x4, x5 => (if x5 < 0 then k97 x3 x4 else ab_bd (ab_fr h x0 11 1) fun v6 => ab_bd (ab_fr h v6 8 8) fun v7 => ab_ck (ab_io h v7 4 = true) (ab_bd (fX4_cell v7 x5 (nI 4) h) fun v8 => ab_bd (ab_fr h x0 11 1) fun v9 => ab_bd (ab_fr h v9 8 8) fun v10 => ab_ck (ab_io h v10 4 = true) (ab_bd (fX4_cell v10 x5 (nI 3) h) fun v11 => (if v11 = x1 then ab_jn (κ := Option (Int32 ⊕ String)) (ab_bd (ab_fr h x0 11 1) fun v13 => ab_bd (ab_fr h v13 8 8) fun v14 => ab_ck (ab_io h v14 4 = true) (ab_bd (fX4_cell v14 x5 (nI 1) h) fun v15 => fX11_led_24 x0 x1 x2 h k97 n (x3 + nI 1) v15 (x5 + (-1 : Int32)))) fun j16 => (if v8 = (nI 1) then j16 else (if v8 = (nI 2) then j16 else fX11_led_24 x0 x1 x2 h k97 n x3 x4 (x5 + (-1 : Int32)))) else fX11_led_24 x0 x1 x2 h k97 n x3 x4 (x5 + (-1 : Int32))))))
def fX11_led (F : Nat) (x0 : Nat) (x1 : Int32) (x2 : Int32) (h : ab_H) : Option (Int32 ⊕ String) := ab_ck (ab_io h x0 11 = true) (ab_bx (fX11_needPerson x0 x1 h) (fun E => Sum.inr E) (ab_bd (ab_fr h x0 11 1) fun v2 => ab_bd (ab_fr h v2 8 8) fun v3 => ab_bd (ab_fi h v3 4 1) fun v4 => fX11_led_24 x0 x1 x2 h (fun (z19 : Int32) (z20 : Int32) => (if x2 = 0 then some (.inl z19) else some (.inl z20))) F (nI 0) (-1 : Int32) (v4 - (nI 1))))
set_option maxRecDepth 100000 in
set_option maxHeartbeats 4000000 in
theorem lX11_led_24 {l : Launch} (hl : l.stackTraces = false) (x0 : Nat) (x1 : Int32) (x2 : Int32) (h : ab_H) {k97 : Int32 → Int32 → Option (Int32 ⊕ String)} (hk97 : ∀ (x3 : Int32), ∀ (x4 : Int32), ab_S l mX11_led (fun y : (Int32 ⊕ String) => ((y.elim (fun x => .inl (some (.int x))) (fun E => .inr E), h) : ab_R × ab_H)) 1 6 (k97 x3 x4) 97 [(2, .int x2), (3, .int x3), (4, .int x4)] [] h) : ∀ (n : Nat) (x3 : Int32) (x4 : Int32) (x5 : Int32), ab_S l mX11_led (fun y : (Int32 ⊕ String) => ((y.elim (fun x => .inl (some (.int x))) (fun E => .inr E), h) : ab_R × ab_H)) 1 6 (fX11_led_24 x0 x1 x2 h k97 n x3 x4 x5) 24 [(0, .ref x0), (1, .int x1), (2, .int x2), (3, .int x3), (4, .int x4), (5, .int x5)] [] h := by
  intro n
  induction n with
  | zero =>
    intro x3 x4 x5
    exact ab_none
  | succ n ih =>
    intro x3 x4 x5
    rw [fX11_led_24]
    refine ab_iload (pc := 24) (i := 5) (j := 5) (by decide +kernel) rfl ?_
    refine ab_if_lt (off := 71) (pc := 26) (tgt := 97) (by decide +kernel) (by decide) (fun g5 => ?_) (fun g5 => ?_)
    · refine ab_few [2, 3, 4] (lv' := [(2, .int x2), (3, .int x3), (4, .int x4)]) rfl ?_
      exact hk97 x3 x4
    · refine ab_aload_n (pc := 29) (n := 0) (i := 0) (j := 0) (by decide +kernel) rfl rfl ?_
      refine ab_getR (pc := 30) fl_X11_26_11 (by decide +kernel) (fun v6 ev6 => ?_)
      refine ab_getR (pc := 33) fl_X11_348_8 (by decide +kernel) (fun v7 ev7 => ?_)
      refine ab_iload (pc := 36) (i := 5) (j := 5) (by decide +kernel) rfl ?_
      refine ab_iconst (pc := 38) (n := 4) (v := nI 4) (by decide +kernel) rfl ?_
      refine ab_callVi (As := [.int x5, .int (nI 4)]) (st := []) (pc := 39) lk_X11_357_4 rfl rfl rfl (by decide) rfl (Nat.le_of_ble_eq_true rfl) (by decide +kernel) (fun y9 e9 => okX4_cell hl e9) (fun v8 ev8 => ?_)
      refine ab_istore (pc := 42) (i := 6) (lv' := [(0, .ref x0), (1, .int x1), (2, .int x2), (3, .int x3), (4, .int x4), (5, .int x5), (6, .int v8)]) (by decide +kernel) (Nat.le_of_ble_eq_true rfl) rfl rfl ?_
      refine ab_aload_n (pc := 44) (n := 0) (i := 0) (j := 0) (by decide +kernel) rfl rfl ?_
      refine ab_getR (pc := 45) fl_X11_26_11 (by decide +kernel) (fun v9 ev9 => ?_)
      refine ab_getR (pc := 48) fl_X11_348_8 (by decide +kernel) (fun v10 ev10 => ?_)
      refine ab_iload (pc := 51) (i := 5) (j := 5) (by decide +kernel) rfl ?_
      refine ab_iconst (pc := 53) (n := 3) (v := nI 3) (by decide +kernel) rfl ?_
      refine ab_callVi (As := [.int x5, .int (nI 3)]) (st := []) (pc := 54) lk_X11_357_4 rfl rfl rfl (by decide) rfl (Nat.le_of_ble_eq_true rfl) (by decide +kernel) (fun y9 e9 => okX4_cell hl e9) (fun v11 ev11 => ?_)
      refine ab_iload_n (pc := 57) (n := 1) (i := 1) (j := 1) (by decide +kernel) rfl rfl ?_
      refine ab_icmp_ne (off := 33) (pc := 58) (tgt := 91) (by decide +kernel) (by decide) (fun g12 => ?_) (fun g12 => ?_)
      · refine ab_iload (pc := 61) (i := 6) (j := 6) (by decide +kernel) rfl ?_
        refine ab_iconst (pc := 63) (n := 1) (v := nI 1) (by decide +kernel) rfl ?_
        refine ab_jr (fun k9 : Option (Int32 ⊕ String) => ab_S l mX11_led (fun y : (Int32 ⊕ String) => ((y.elim (fun x => .inl (some (.int x))) (fun E => .inr E), h) : ab_R × ab_H)) 1 6 (k9) 73 [(0, .ref x0), (1, .int x1), (2, .int x2), (3, .int x3), (5, .int x5)] [] h) ?_ (fun j16 hj16 => ?_)
        · refine ab_iinc (pc := 73) (i := 3) (n := 1) (j := 3) (d := nI 1) (lv' := [(0, .ref x0), (1, .int x1), (2, .int x2), (3, .int (x3 + nI 1)), (5, .int x5)]) (by decide +kernel) rfl rfl (Nat.le_of_ble_eq_true rfl) rfl rfl ?_
          refine ab_aload_n (pc := 76) (n := 0) (i := 0) (j := 0) (by decide +kernel) rfl rfl ?_
          refine ab_getR (pc := 77) fl_X11_26_11 (by decide +kernel) (fun v13 ev13 => ?_)
          refine ab_getR (pc := 80) fl_X11_348_8 (by decide +kernel) (fun v14 ev14 => ?_)
          refine ab_iload (pc := 83) (i := 5) (j := 4) (by decide +kernel) rfl ?_
          refine ab_iconst (pc := 85) (n := 1) (v := nI 1) (by decide +kernel) rfl ?_
          refine ab_callVi (As := [.int x5, .int (nI 1)]) (st := []) (pc := 86) lk_X11_357_4 rfl rfl rfl (by decide) rfl (Nat.le_of_ble_eq_true rfl) (by decide +kernel) (fun y9 e9 => okX4_cell hl e9) (fun v15 ev15 => ?_)
          refine ab_istore (pc := 89) (i := 4) (lv' := [(0, .ref x0), (1, .int x1), (2, .int x2), (3, .int (x3 + nI 1)), (4, .int v15), (5, .int x5)]) (by decide +kernel) (Nat.le_of_ble_eq_true rfl) rfl rfl ?_
          refine ab_iinc (pc := 91) (i := 5) (n := -1) (j := 5) (d := (-1 : Int32)) (lv' := [(0, .ref x0), (1, .int x1), (2, .int x2), (3, .int (x3 + nI 1)), (4, .int v15), (5, .int (x5 + (-1 : Int32)))]) (by decide +kernel) rfl rfl (Nat.le_of_ble_eq_true rfl) rfl rfl ?_
          refine ab_goto (pc := 94) (off := (-70)) (tgt := 24) (by decide +kernel) (by decide) ?_
          exact ih (x3 + nI 1) v15 (x5 + (-1 : Int32))
        · refine ab_icmp_eq (off := 9) (pc := 64) (tgt := 73) (by decide +kernel) (by decide) (fun g17 => ?_) (fun g17 => ?_)
          · refine ab_few [0, 1, 2, 3, 5] (lv' := [(0, .ref x0), (1, .int x1), (2, .int x2), (3, .int x3), (5, .int x5)]) rfl ?_
            exact hj16
          · refine ab_iload (pc := 67) (i := 6) (j := 6) (by decide +kernel) rfl ?_
            refine ab_iconst (pc := 69) (n := 2) (v := nI 2) (by decide +kernel) rfl ?_
            refine ab_icmp_ne (off := 21) (pc := 70) (tgt := 91) (by decide +kernel) (by decide) (fun g18 => ?_) (fun g18 => ?_)
            · refine ab_few [0, 1, 2, 3, 5] (lv' := [(0, .ref x0), (1, .int x1), (2, .int x2), (3, .int x3), (5, .int x5)]) rfl ?_
              exact hj16
            · refine ab_iinc (pc := 91) (i := 5) (n := -1) (j := 5) (d := (-1 : Int32)) (lv' := [(0, .ref x0), (1, .int x1), (2, .int x2), (3, .int x3), (4, .int x4), (5, .int (x5 + (-1 : Int32))), (6, .int v8)]) (by decide +kernel) rfl rfl (Nat.le_of_ble_eq_true rfl) rfl rfl ?_
              refine ab_goto (pc := 94) (off := (-70)) (tgt := 24) (by decide +kernel) (by decide) ?_
              refine ab_few [0, 1, 2, 3, 4, 5] (lv' := [(0, .ref x0), (1, .int x1), (2, .int x2), (3, .int x3), (4, .int x4), (5, .int (x5 + (-1 : Int32)))]) rfl ?_
              exact ih x3 x4 (x5 + (-1 : Int32))
      · refine ab_iinc (pc := 91) (i := 5) (n := -1) (j := 5) (d := (-1 : Int32)) (lv' := [(0, .ref x0), (1, .int x1), (2, .int x2), (3, .int x3), (4, .int x4), (5, .int (x5 + (-1 : Int32))), (6, .int v8)]) (by decide +kernel) rfl rfl (Nat.le_of_ble_eq_true rfl) rfl rfl ?_
        refine ab_goto (pc := 94) (off := (-70)) (tgt := 24) (by decide +kernel) (by decide) ?_
        refine ab_few [0, 1, 2, 3, 4, 5] (lv' := [(0, .ref x0), (1, .int x1), (2, .int x2), (3, .int x3), (4, .int x4), (5, .int (x5 + (-1 : Int32)))]) rfl ?_
        exact ih x3 x4 (x5 + (-1 : Int32))
set_option maxRecDepth 100000 in
set_option maxHeartbeats 4000000 in
theorem wX11_led {l : Launch} (hl : l.stackTraces = false) (F : Nat) (x0 : Nat) (x1 : Int32) (x2 : Int32) (h : ab_H) : ab_S l mX11_led (fun y : (Int32 ⊕ String) => ((y.elim (fun x => .inl (some (.int x))) (fun E => .inr E), h) : ab_R × ab_H)) 0 0 (fX11_led F x0 x1 x2 h) 0 [(0, .ref x0), (1, .int x1), (2, .int x2)] [] h := by
  unfold fX11_led
  refine ab_aload_n (pc := 0) (n := 0) (i := 0) (j := 0) (by decide +kernel) rfl rfl ?_
  refine ab_iload_n (pc := 1) (n := 1) (i := 1) (j := 1) (by decide +kernel) rfl rfl ?_
  refine ab_callVt (As := [.int x1]) (st := []) (thr := (fun E => Sum.inr E)) (pc := 2) lk_X11_131_11 (fun _ => rfl) rfl (by decide) rfl (Nat.le_of_ble_eq_true rfl) (by decide +kernel) (fun y9 e9 => okX11_needPerson hl e9) ?_
  refine ab_iconst (pc := 5) (n := 0) (v := nI 0) (by decide +kernel) rfl ?_
  refine ab_istore_n (pc := 6) (n := 3) (i := 3) (lv' := [(0, .ref x0), (1, .int x1), (2, .int x2), (3, .int (nI 0))]) (by decide +kernel) rfl (Nat.le_of_ble_eq_true rfl) rfl rfl ?_
  refine ab_iconst (pc := 7) (n := -1) (v := (-1 : Int32)) (by decide +kernel) rfl ?_
  refine ab_istore (pc := 8) (i := 4) (lv' := [(0, .ref x0), (1, .int x1), (2, .int x2), (3, .int (nI 0)), (4, .int (-1 : Int32))]) (by decide +kernel) (Nat.le_of_ble_eq_true rfl) rfl rfl ?_
  refine ab_aload_n (pc := 10) (n := 0) (i := 0) (j := 0) (by decide +kernel) rfl rfl ?_
  refine ab_getR (pc := 11) fl_X11_26_11 (by decide +kernel) (fun v2 ev2 => ?_)
  refine ab_getR (pc := 14) fl_X11_348_8 (by decide +kernel) (fun v3 ev3 => ?_)
  refine ab_getI (pc := 17) fl_X11_352_4 (by decide +kernel) (fun v4 ev4 => ?_)
  refine ab_iconst (pc := 20) (n := 1) (v := nI 1) (by decide +kernel) rfl ?_
  refine ab_isub (pc := 21) (by decide +kernel) ?_
  refine ab_istore (pc := 22) (i := 5) (lv' := [(0, .ref x0), (1, .int x1), (2, .int x2), (3, .int (nI 0)), (4, .int (-1 : Int32)), (5, .int (v4 - (nI 1)))]) (by decide +kernel) (Nat.le_of_ble_eq_true rfl) rfl rfl ?_
  refine lX11_led_24 hl x0 x1 x2 h ?_ F (nI 0) (-1 : Int32) (v4 - (nI 1))
  intro z19 z20
  refine ab_iload_n (pc := 97) (n := 2) (i := 2) (j := 0) (by decide +kernel) rfl rfl ?_
  refine ab_if_eq (off := 8) (pc := 98) (tgt := 106) (by decide +kernel) (by decide) (fun g21 => ?_) (fun g21 => ?_)
  · refine ab_iload_n (pc := 106) (n := 3) (i := 3) (j := 1) (by decide +kernel) rfl rfl ?_
    exact ab_iret (pc := 107) (by decide +kernel) rfl rfl (Nat.le_of_ble_eq_true rfl) (Nat.le_of_ble_eq_true rfl)
  · refine ab_iload (pc := 101) (i := 4) (j := 2) (by decide +kernel) rfl ?_
    refine ab_goto (pc := 103) (off := 4) (tgt := 107) (by decide +kernel) (by decide) ?_
    exact ab_iret (pc := 107) (by decide +kernel) rfl rfl (Nat.le_of_ble_eq_true rfl) (Nat.le_of_ble_eq_true rfl)
set_option maxRecDepth 100000 in
set_option maxHeartbeats 4000000 in
theorem okX11_led {l : Launch} (hl : l.stackTraces = false) {F : Nat} {x0 : Nat} {x1 : Int32} {x2 : Int32} {h : ab_H} {y : (Int32 ⊕ String)} (e : fX11_led F x0 x1 x2 h = some y) : ab_Met l mX11_led [.ref x0, .int x1, .int x2] h ((fun y : (Int32 ⊕ String) => ((y.elim (fun x => .inl (some (.int x))) (fun E => .inr E), h) : ab_R × ab_H)) y) := ab_ofS (io := (fun y : (Int32 ⊕ String) => ((y.elim (fun x => .inl (some (.int x))) (fun E => .inr E), h) : ab_R × ab_H))) (x := y) hl (by decide) rfl (Nat.le_of_ble_eq_true rfl) (wX11_led hl F x0 x1 x2 h) e
def mX11_undo : ab_M := (yX11_undo, cX11_undo, 1, (some .boolean), { frames := 4, cells := 0, slots := 0, locals := 89 })
theorem iX11_undo : ab_MI mX11_undo 0 := ⟨kw_9ab2999f31, kw_62b61b7ad3, by decide +kernel⟩
theorem lk_X11_362_6 : ab_LV RX11 362 6 mX6_takeBack 1 := ⟨RX6, rfl, iX6_takeBack, kw_82ed09611b, kw_a298633482, kw_77ea53ef0d⟩
def fX11_undo (x0 : Nat) (h : ab_H) : Option (Int32 × ab_H) := ab_bd (ab_fr h x0 11 4) fun v1 => ab_bd (ab_fr h x0 11 1) fun v2 => ab_ck (ab_io h v1 6 = true) (ab_bd (fX6_takeBack v1 v2 h) fun v3 => ab_cb v3.1 (some (v3.1, v3.2)))
set_option maxRecDepth 100000 in
set_option maxHeartbeats 4000000 in
theorem wX11_undo {l : Launch} (hl : l.stackTraces = false) (x0 : Nat) (h : ab_H) : ab_S l mX11_undo (fun y : (Int32 × ab_H) => ((.inl (some (.int y.1)), y.2) : ab_R × ab_H)) 0 0 (fX11_undo x0 h) 0 [(0, .ref x0)] [] h := by
  unfold fX11_undo
  refine ab_aload_n (pc := 0) (n := 0) (i := 0) (j := 0) (by decide +kernel) rfl rfl ?_
  refine ab_getR (pc := 1) fl_X11_39_11 (by decide +kernel) (fun v1 ev1 => ?_)
  refine ab_aload_n (pc := 4) (n := 0) (i := 0) (j := 0) (by decide +kernel) rfl rfl ?_
  refine ab_getR (pc := 5) fl_X11_26_11 (by decide +kernel) (fun v2 ev2 => ?_)
  refine ab_callVj (As := [.ref v2]) (st := []) (pc := 8) lk_X11_362_6 rfl rfl rfl (by decide) rfl (Nat.le_of_ble_eq_true rfl) (by decide +kernel) (fun y9 e9 => okX6_takeBack hl e9) (fun v3 ev3 => ?_)
  refine ab_cbr (fun b4 => ?_)
  exact ab_zret (pc := 11) (by decide +kernel) rfl b4.1 rfl (Nat.le_of_ble_eq_true rfl) (Nat.le_of_ble_eq_true rfl)
set_option maxRecDepth 100000 in
set_option maxHeartbeats 4000000 in
theorem okX11_undo {l : Launch} (hl : l.stackTraces = false) {x0 : Nat} {h : ab_H} {y : (Int32 × ab_H)} (e : fX11_undo x0 h = some y) : ab_Met l mX11_undo [.ref x0] h (.inl (some (.int y.1)), y.2) := ab_ofS (io := (fun y : (Int32 × ab_H) => ((.inl (some (.int y.1)), y.2) : ab_R × ab_H))) (x := y) hl (by decide) rfl (Nat.le_of_ble_eq_true rfl) (wX11_undo hl x0 h) e
