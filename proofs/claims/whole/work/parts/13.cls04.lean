/-! ===== class (by program, decomp.py) ===== -/
def mX0_pastBlanks : ab_M := (yX0_pastBlanks, cX0_pastBlanks, 3, (some .int), { frames := 1, cells := 0, slots := 0, locals := 21 })
theorem iX0_pastBlanks : ab_MI mX0_pastBlanks 1 := ⟨kw_d066469d8d, kw_284a064ce4, by decide +kernel⟩
theorem lk_X0_48_9 : ab_LV RX0 48 9 mX9_byteAt 1 := ⟨RX9, rfl, iX9_byteAt, kw_3d87881958, kw_6610f83393, kw_f2124ba335⟩
def fX0_pastBlanks_2 (x0 : Nat) (h : ab_H) : Nat → Int32 → Option Int32
  | 0, _ => none
  | n + 1, x2 => ab_bd (ab_fr h x0 0 0) fun v1 => ab_bd (ab_fi h v1 9 1) fun v2 => (if x2 < v2 then ab_bd (ab_fr h x0 0 0) fun v4 => ab_ck (ab_io h v4 9 = true) (ab_bd (fX9_byteAt v4 x2 h) fun v5 => (if v5 = (nI 32) then fX0_pastBlanks_2 x0 h n (x2 + nI 1) else some x2)) else some x2)
def fX0_pastBlanks (F : Nat) (x0 : Nat) (x1 : Int32) (h : ab_H) : Option Int32 := fX0_pastBlanks_2 x0 h F x1
set_option maxRecDepth 100000 in
set_option maxHeartbeats 4000000 in
theorem lX0_pastBlanks_2 {l : Launch} (hl : l.stackTraces = false) (x0 : Nat) (h : ab_H) : ∀ (n : Nat) (x2 : Int32), ab_S l mX0_pastBlanks (fun y : Int32 => ((.inl (some (.int y)), h) : ab_R × ab_H)) 0 0 (fX0_pastBlanks_2 x0 h n x2) 2 [(0, .ref x0), (2, .int x2)] [] h := by
  intro n
  induction n with
  | zero =>
    intro x2
    exact ab_none
  | succ n ih =>
    intro x2
    rw [fX0_pastBlanks_2]
    refine ab_iload_n (pc := 2) (n := 2) (i := 2) (j := 1) (by decide +kernel) rfl rfl ?_
    refine ab_aload_n (pc := 3) (n := 0) (i := 0) (j := 0) (by decide +kernel) rfl rfl ?_
    refine ab_getR (pc := 4) fl_X0_21_0 (by decide +kernel) (fun v1 ev1 => ?_)
    refine ab_getI (pc := 7) fl_X0_29_9 (by decide +kernel) (fun v2 ev2 => ?_)
    refine ab_icmp_ge (off := 22) (pc := 10) (tgt := 32) (by decide +kernel) (by decide) (fun g3 => ?_) (fun g3 => ?_)
    · refine ab_aload_n (pc := 13) (n := 0) (i := 0) (j := 0) (by decide +kernel) rfl rfl ?_
      refine ab_getR (pc := 14) fl_X0_21_0 (by decide +kernel) (fun v4 ev4 => ?_)
      refine ab_iload_n (pc := 17) (n := 2) (i := 2) (j := 1) (by decide +kernel) rfl rfl ?_
      refine ab_callVi (As := [.int x2]) (st := []) (pc := 18) lk_X0_48_9 rfl rfl rfl (by decide) rfl (Nat.le_of_ble_eq_true rfl) (by decide +kernel) (fun y9 e9 => okX9_byteAt hl e9) (fun v5 ev5 => ?_)
      refine ab_bipush (pc := 21) (n := 32) (v := nI 32) (by decide +kernel) (by decide) ?_
      refine ab_icmp_ne (off := 9) (pc := 23) (tgt := 32) (by decide +kernel) (by decide) (fun g6 => ?_) (fun g6 => ?_)
      · refine ab_iinc (pc := 26) (i := 2) (n := 1) (j := 1) (d := nI 1) (lv' := [(0, .ref x0), (2, .int (x2 + nI 1))]) (by decide +kernel) rfl rfl (Nat.le_of_ble_eq_true rfl) rfl rfl ?_
        refine ab_goto (pc := 29) (off := (-27)) (tgt := 2) (by decide +kernel) (by decide) ?_
        exact ih (x2 + nI 1)
      · refine ab_iload_n (pc := 32) (n := 2) (i := 2) (j := 1) (by decide +kernel) rfl rfl ?_
        exact ab_iret (pc := 33) (by decide +kernel) rfl rfl (Nat.le_of_ble_eq_true rfl) (Nat.le_of_ble_eq_true rfl)
    · refine ab_iload_n (pc := 32) (n := 2) (i := 2) (j := 1) (by decide +kernel) rfl rfl ?_
      exact ab_iret (pc := 33) (by decide +kernel) rfl rfl (Nat.le_of_ble_eq_true rfl) (Nat.le_of_ble_eq_true rfl)
set_option maxRecDepth 100000 in
set_option maxHeartbeats 4000000 in
theorem wX0_pastBlanks {l : Launch} (hl : l.stackTraces = false) (F : Nat) (x0 : Nat) (x1 : Int32) (h : ab_H) : ab_S l mX0_pastBlanks (fun y : Int32 => ((.inl (some (.int y)), h) : ab_R × ab_H)) 0 0 (fX0_pastBlanks F x0 x1 h) 0 [(0, .ref x0), (1, .int x1)] [] h := by
  unfold fX0_pastBlanks
  refine ab_iload_n (pc := 0) (n := 1) (i := 1) (j := 1) (by decide +kernel) rfl rfl ?_
  refine ab_istore_n (pc := 1) (n := 2) (i := 2) (lv' := [(0, .ref x0), (1, .int x1), (2, .int x1)]) (by decide +kernel) rfl (Nat.le_of_ble_eq_true rfl) rfl rfl ?_
  refine ab_few [0, 2] (lv' := [(0, .ref x0), (2, .int x1)]) rfl ?_
  refine lX0_pastBlanks_2 hl x0 h F x1
set_option maxRecDepth 100000 in
set_option maxHeartbeats 4000000 in
theorem okX0_pastBlanks {l : Launch} (hl : l.stackTraces = false) {F : Nat} {x0 : Nat} {x1 : Int32} {h : ab_H} {y : Int32} (e : fX0_pastBlanks F x0 x1 h = some y) : ab_Met l mX0_pastBlanks [.ref x0, .int x1] h (.inl (some (.int y)), h) := ab_ofS (io := (fun y : Int32 => ((.inl (some (.int y)), h) : ab_R × ab_H))) (x := y) hl (by decide) rfl (Nat.le_of_ble_eq_true rfl) (wX0_pastBlanks hl F x0 x1 h) e
def mX0_kindAt : ab_M := (yX0_kindAt, cX0_kindAt, 3, (some .int), { frames := 1, cells := 0, slots := 0, locals := 21 })
theorem iX0_kindAt : ab_MI mX0_kindAt 1 := ⟨kw_a1fc95ab5e, kw_284a064ce4, by decide +kernel⟩
def fX0_kindAt (x0 : Nat) (x1 : Int32) (h : ab_H) : Option Int32 := ab_bd (ab_fr h x0 0 0) fun v1 => ab_ck (ab_io h v1 9 = true) (ab_bd (fX9_byteAt v1 x1 h) fun v2 => ab_jn (κ := Option Int32) ((if v2 < (nI 48) then some v2 else (if v2 ≤ (nI 57) then some (nI 256) else some v2))) fun j5 => (if v2 < (nI 97) then j5 else (if v2 ≤ (nI 122) then some (nI 257) else j5)))
set_option maxRecDepth 100000 in
set_option maxHeartbeats 4000000 in
theorem wX0_kindAt {l : Launch} (hl : l.stackTraces = false) (x0 : Nat) (x1 : Int32) (h : ab_H) : ab_S l mX0_kindAt (fun y : Int32 => ((.inl (some (.int y)), h) : ab_R × ab_H)) 0 0 (fX0_kindAt x0 x1 h) 0 [(0, .ref x0), (1, .int x1)] [] h := by
  unfold fX0_kindAt
  refine ab_aload_n (pc := 0) (n := 0) (i := 0) (j := 0) (by decide +kernel) rfl rfl ?_
  refine ab_getR (pc := 1) fl_X0_21_0 (by decide +kernel) (fun v1 ev1 => ?_)
  refine ab_iload_n (pc := 4) (n := 1) (i := 1) (j := 1) (by decide +kernel) rfl rfl ?_
  refine ab_callVi (As := [.int x1]) (st := []) (pc := 5) lk_X0_48_9 rfl rfl rfl (by decide) rfl (Nat.le_of_ble_eq_true rfl) (by decide +kernel) (fun y9 e9 => okX9_byteAt hl e9) (fun v2 ev2 => ?_)
  refine ab_istore_n (pc := 8) (n := 2) (i := 2) (lv' := [(0, .ref x0), (1, .int x1), (2, .int v2)]) (by decide +kernel) rfl (Nat.le_of_ble_eq_true rfl) rfl rfl ?_
  refine ab_iload_n (pc := 9) (n := 2) (i := 2) (j := 2) (by decide +kernel) rfl rfl ?_
  refine ab_bipush (pc := 10) (n := 97) (v := nI 97) (by decide +kernel) (by decide) ?_
  refine ab_jr (fun k9 : Option Int32 => ab_S l mX0_kindAt (fun y : Int32 => ((.inl (some (.int y)), h) : ab_R × ab_H)) 0 0 (k9) 25 [(2, .int v2)] [] h) ?_ (fun j5 hj5 => ?_)
  · refine ab_iload_n (pc := 25) (n := 2) (i := 2) (j := 0) (by decide +kernel) rfl rfl ?_
    refine ab_bipush (pc := 26) (n := 48) (v := nI 48) (by decide +kernel) (by decide) ?_
    refine ab_icmp_lt (off := 15) (pc := 28) (tgt := 43) (by decide +kernel) (by decide) (fun g3 => ?_) (fun g3 => ?_)
    · refine ab_iload_n (pc := 43) (n := 2) (i := 2) (j := 0) (by decide +kernel) rfl rfl ?_
      exact ab_iret (pc := 44) (by decide +kernel) rfl rfl (Nat.le_of_ble_eq_true rfl) (Nat.le_of_ble_eq_true rfl)
    · refine ab_iload_n (pc := 31) (n := 2) (i := 2) (j := 0) (by decide +kernel) rfl rfl ?_
      refine ab_bipush (pc := 32) (n := 57) (v := nI 57) (by decide +kernel) (by decide) ?_
      refine ab_icmp_gt (off := 9) (pc := 34) (tgt := 43) (by decide +kernel) (by decide) (fun g4 => ?_) (fun g4 => ?_)
      · refine ab_sipush (pc := 37) (n := 256) (v := nI 256) (by decide +kernel) (by decide) ?_
        refine ab_goto (pc := 40) (off := 4) (tgt := 44) (by decide +kernel) (by decide) ?_
        exact ab_iret (pc := 44) (by decide +kernel) rfl rfl (Nat.le_of_ble_eq_true rfl) (Nat.le_of_ble_eq_true rfl)
      · refine ab_iload_n (pc := 43) (n := 2) (i := 2) (j := 0) (by decide +kernel) rfl rfl ?_
        exact ab_iret (pc := 44) (by decide +kernel) rfl rfl (Nat.le_of_ble_eq_true rfl) (Nat.le_of_ble_eq_true rfl)
  · refine ab_icmp_lt (off := 13) (pc := 12) (tgt := 25) (by decide +kernel) (by decide) (fun g6 => ?_) (fun g6 => ?_)
    · refine ab_few [2] (lv' := [(2, .int v2)]) rfl ?_
      exact hj5
    · refine ab_iload_n (pc := 15) (n := 2) (i := 2) (j := 2) (by decide +kernel) rfl rfl ?_
      refine ab_bipush (pc := 16) (n := 122) (v := nI 122) (by decide +kernel) (by decide) ?_
      refine ab_icmp_gt (off := 7) (pc := 18) (tgt := 25) (by decide +kernel) (by decide) (fun g7 => ?_) (fun g7 => ?_)
      · refine ab_sipush (pc := 21) (n := 257) (v := nI 257) (by decide +kernel) (by decide) ?_
        exact ab_iret (pc := 24) (by decide +kernel) rfl rfl (Nat.le_of_ble_eq_true rfl) (Nat.le_of_ble_eq_true rfl)
      · refine ab_few [2] (lv' := [(2, .int v2)]) rfl ?_
        exact hj5
set_option maxRecDepth 100000 in
set_option maxHeartbeats 4000000 in
theorem okX0_kindAt {l : Launch} (hl : l.stackTraces = false) {x0 : Nat} {x1 : Int32} {h : ab_H} {y : Int32} (e : fX0_kindAt x0 x1 h = some y) : ab_Met l mX0_kindAt [.ref x0, .int x1] h (.inl (some (.int y)), h) := ab_ofS (io := (fun y : Int32 => ((.inl (some (.int y)), h) : ab_R × ab_H))) (x := y) hl (by decide) rfl (Nat.le_of_ble_eq_true rfl) (wX0_kindAt hl x0 x1 h) e
def mX0_endOf : ab_M := (yX0_endOf, cX0_endOf, 4, (some .int), { frames := 2, cells := 0, slots := 0, locals := 43 })
theorem iX0_endOf : ab_MI mX0_endOf 2 := ⟨kw_c6c6b85061, kw_284a064ce4, by decide +kernel⟩
theorem lk_X0_35_0 : ab_LV RX0 35 0 mX0_kindAt 1 := ⟨RX0, rfl, iX0_kindAt, kw_7e37a78b7f, kw_28178a1639, kw_7b422c388a⟩
def fX0_endOf_18 (x0 : Nat) (x1 : Int32) (h : ab_H) : Nat → Int32 → Option Int32
  | 0, _ => none
  | n + 1, x3 => ab_bd (ab_fr h x0 0 0) fun v2 => ab_bd (ab_fi h v2 9 1) fun v3 => (if x3 < v3 then ab_ck (ab_io h x0 0 = true) (ab_bd (fX0_kindAt x0 x3 h) fun v5 => (if v5 = x1 then fX0_endOf_18 x0 x1 h n (x3 + nI 1) else some x3)) else some x3)
def fX0_endOf (F : Nat) (x0 : Nat) (x1 : Int32) (x2 : Int32) (h : ab_H) : Option Int32 := (if x1 = (nI 257) then fX0_endOf_18 x0 x1 h F (x2 + (nI 1)) else (if x1 = (nI 256) then fX0_endOf_18 x0 x1 h F (x2 + (nI 1)) else some (x2 + (nI 1))))
set_option maxRecDepth 100000 in
set_option maxHeartbeats 4000000 in
theorem lX0_endOf_18 {l : Launch} (hl : l.stackTraces = false) (x0 : Nat) (x1 : Int32) (h : ab_H) : ∀ (n : Nat) (x3 : Int32), ab_S l mX0_endOf (fun y : Int32 => ((.inl (some (.int y)), h) : ab_R × ab_H)) 0 0 (fX0_endOf_18 x0 x1 h n x3) 18 [(0, .ref x0), (1, .int x1), (3, .int x3)] [] h := by
  intro n
  induction n with
  | zero =>
    intro x3
    exact ab_none
  | succ n ih =>
    intro x3
    rw [fX0_endOf_18]
    refine ab_iload_n (pc := 18) (n := 3) (i := 3) (j := 2) (by decide +kernel) rfl rfl ?_
    refine ab_aload_n (pc := 19) (n := 0) (i := 0) (j := 0) (by decide +kernel) rfl rfl ?_
    refine ab_getR (pc := 20) fl_X0_21_0 (by decide +kernel) (fun v2 ev2 => ?_)
    refine ab_getI (pc := 23) fl_X0_29_9 (by decide +kernel) (fun v3 ev3 => ?_)
    refine ab_icmp_ge (off := 18) (pc := 26) (tgt := 44) (by decide +kernel) (by decide) (fun g4 => ?_) (fun g4 => ?_)
    · refine ab_aload_n (pc := 29) (n := 0) (i := 0) (j := 0) (by decide +kernel) rfl rfl ?_
      refine ab_iload_n (pc := 30) (n := 3) (i := 3) (j := 2) (by decide +kernel) rfl rfl ?_
      refine ab_callVi (As := [.int x3]) (st := []) (pc := 31) lk_X0_35_0 rfl rfl rfl (by decide) rfl (Nat.le_of_ble_eq_true rfl) (by decide +kernel) (fun y9 e9 => okX0_kindAt hl e9) (fun v5 ev5 => ?_)
      refine ab_iload_n (pc := 34) (n := 1) (i := 1) (j := 1) (by decide +kernel) rfl rfl ?_
      refine ab_icmp_ne (off := 9) (pc := 35) (tgt := 44) (by decide +kernel) (by decide) (fun g6 => ?_) (fun g6 => ?_)
      · refine ab_iinc (pc := 38) (i := 3) (n := 1) (j := 2) (d := nI 1) (lv' := [(0, .ref x0), (1, .int x1), (3, .int (x3 + nI 1))]) (by decide +kernel) rfl rfl (Nat.le_of_ble_eq_true rfl) rfl rfl ?_
        refine ab_goto (pc := 41) (off := (-23)) (tgt := 18) (by decide +kernel) (by decide) ?_
        exact ih (x3 + nI 1)
      · refine ab_iload_n (pc := 44) (n := 3) (i := 3) (j := 2) (by decide +kernel) rfl rfl ?_
        exact ab_iret (pc := 45) (by decide +kernel) rfl rfl (Nat.le_of_ble_eq_true rfl) (Nat.le_of_ble_eq_true rfl)
    · refine ab_iload_n (pc := 44) (n := 3) (i := 3) (j := 2) (by decide +kernel) rfl rfl ?_
      exact ab_iret (pc := 45) (by decide +kernel) rfl rfl (Nat.le_of_ble_eq_true rfl) (Nat.le_of_ble_eq_true rfl)
set_option maxRecDepth 100000 in
set_option maxHeartbeats 4000000 in
theorem wX0_endOf {l : Launch} (hl : l.stackTraces = false) (F : Nat) (x0 : Nat) (x1 : Int32) (x2 : Int32) (h : ab_H) : ab_S l mX0_endOf (fun y : Int32 => ((.inl (some (.int y)), h) : ab_R × ab_H)) 0 0 (fX0_endOf F x0 x1 x2 h) 0 [(0, .ref x0), (1, .int x1), (2, .int x2)] [] h := by
  unfold fX0_endOf
  refine ab_iload_n (pc := 0) (n := 2) (i := 2) (j := 2) (by decide +kernel) rfl rfl ?_
  refine ab_iconst (pc := 1) (n := 1) (v := nI 1) (by decide +kernel) rfl ?_
  refine ab_iadd (pc := 2) (by decide +kernel) ?_
  refine ab_istore_n (pc := 3) (n := 3) (i := 3) (lv' := [(0, .ref x0), (1, .int x1), (2, .int x2), (3, .int (x2 + (nI 1)))]) (by decide +kernel) rfl (Nat.le_of_ble_eq_true rfl) rfl rfl ?_
  refine ab_iload_n (pc := 4) (n := 1) (i := 1) (j := 1) (by decide +kernel) rfl rfl ?_
  refine ab_sipush (pc := 5) (n := 257) (v := nI 257) (by decide +kernel) (by decide) ?_
  refine ab_icmp_eq (off := 10) (pc := 8) (tgt := 18) (by decide +kernel) (by decide) (fun g1 => ?_) (fun g1 => ?_)
  · refine ab_few [0, 1, 3] (lv' := [(0, .ref x0), (1, .int x1), (3, .int (x2 + (nI 1)))]) rfl ?_
    refine lX0_endOf_18 hl x0 x1 h F (x2 + (nI 1))
  · refine ab_iload_n (pc := 11) (n := 1) (i := 1) (j := 1) (by decide +kernel) rfl rfl ?_
    refine ab_sipush (pc := 12) (n := 256) (v := nI 256) (by decide +kernel) (by decide) ?_
    refine ab_icmp_ne (off := 29) (pc := 15) (tgt := 44) (by decide +kernel) (by decide) (fun g7 => ?_) (fun g7 => ?_)
    · refine ab_few [0, 1, 3] (lv' := [(0, .ref x0), (1, .int x1), (3, .int (x2 + (nI 1)))]) rfl ?_
      refine lX0_endOf_18 hl x0 x1 h F (x2 + (nI 1))
    · refine ab_iload_n (pc := 44) (n := 3) (i := 3) (j := 3) (by decide +kernel) rfl rfl ?_
      exact ab_iret (pc := 45) (by decide +kernel) rfl rfl (Nat.le_of_ble_eq_true rfl) (Nat.le_of_ble_eq_true rfl)
set_option maxRecDepth 100000 in
set_option maxHeartbeats 4000000 in
theorem okX0_endOf {l : Launch} (hl : l.stackTraces = false) {F : Nat} {x0 : Nat} {x1 : Int32} {x2 : Int32} {h : ab_H} {y : Int32} (e : fX0_endOf F x0 x1 x2 h = some y) : ab_Met l mX0_endOf [.ref x0, .int x1, .int x2] h (.inl (some (.int y)), h) := ab_ofS (io := (fun y : Int32 => ((.inl (some (.int y)), h) : ab_R × ab_H))) (x := y) hl (by decide) rfl (Nat.le_of_ble_eq_true rfl) (wX0_endOf hl F x0 x1 x2 h) e
def mX0_isSpelt : ab_M := (yX0_isSpelt, cX0_isSpelt, 6, (some .boolean), { frames := 4, cells := 0, slots := 0, locals := 85 })
theorem iX0_isSpelt : ab_MI mX0_isSpelt 3 := ⟨kw_a97f4ea335, kw_284a064ce4, by decide +kernel⟩
def fX0_isSpelt_3 (x0 : Nat) (x1 : Int32) (x2 : Int32) (x3 : Int32) (h : ab_H) : Nat → Int32 → Option Int32
  | 0, _ => none
  | n + 1, x4 => (if x4 < x3 then ab_bd (ab_sL (ab_SB + 0)) fun v2 => (if ((x1 + x4) - x2) < v2 then ab_bd (ab_sC (ab_SB + 0) ((x1 + x4) - x2)) fun v4 => ab_bd (ab_fr h x0 0 0) fun v5 => ab_ck (ab_io h v5 9 = true) (ab_bd (fX9_byteAt v5 x4 h) fun v6 => (if v4 = v6 then fX0_isSpelt_3 x0 x1 x2 x3 h n (x4 + nI 1) else some (nI 0))) else some (nI 0)) else some (nI 1))
def fX0_isSpelt (F : Nat) (x0 : Nat) (x1 : Int32) (x2 : Int32) (x3 : Int32) (h : ab_H) : Option Int32 := fX0_isSpelt_3 x0 x1 x2 x3 h F x2
set_option maxRecDepth 100000 in
set_option maxHeartbeats 4000000 in
theorem lX0_isSpelt_3 {l : Launch} (hl : l.stackTraces = false) (x0 : Nat) (x1 : Int32) (x2 : Int32) (x3 : Int32) (h : ab_H) : ∀ (n : Nat) (x4 : Int32), ab_S l mX0_isSpelt (fun y : Int32 => ((.inl (some (.int y)), h) : ab_R × ab_H)) 0 0 (fX0_isSpelt_3 x0 x1 x2 x3 h n x4) 3 [(0, .ref x0), (1, .int x1), (2, .int x2), (3, .int x3), (4, .int x4)] [] h := by
  intro n
  induction n with
  | zero =>
    intro x4
    exact ab_none
  | succ n ih =>
    intro x4
    rw [fX0_isSpelt_3]
    refine ab_iload (pc := 3) (i := 4) (j := 4) (by decide +kernel) rfl ?_
    refine ab_iload_n (pc := 5) (n := 3) (i := 3) (j := 3) (by decide +kernel) rfl rfl ?_
    refine ab_icmp_ge (off := 48) (pc := 6) (tgt := 54) (by decide +kernel) (by decide) (fun g1 => ?_) (fun g1 => ?_)
    · refine ab_iload_n (pc := 9) (n := 1) (i := 1) (j := 1) (by decide +kernel) rfl rfl ?_
      refine ab_iload (pc := 10) (i := 4) (j := 4) (by decide +kernel) rfl ?_
      refine ab_iadd (pc := 12) (by decide +kernel) ?_
      refine ab_iload_n (pc := 13) (n := 2) (i := 2) (j := 2) (by decide +kernel) rfl rfl ?_
      refine ab_isub (pc := 14) (by decide +kernel) ?_
      refine ab_istore (pc := 15) (i := 5) (lv' := [(0, .ref x0), (1, .int x1), (2, .int x2), (3, .int x3), (4, .int x4), (5, .int ((x1 + x4) - x2))]) (by decide +kernel) (Nat.le_of_ble_eq_true rfl) rfl rfl ?_
      refine ab_iload (pc := 17) (i := 5) (j := 5) (by decide +kernel) rfl ?_
      refine ab_ldcS (pc := 19) (index := 51) (kk := 0) (tx := "person wish wed knows hooks mix thief hand fetch if or and not own who hour hook marks hung free ") (by decide +kernel) (by show (RX0, 51, "person wish wed knows hooks mix thief hand fetch if or and not own who hour hook marks hung free ", 0) ∈ ab_sr; decide +kernel) ?_
      refine ab_callVs (As := []) (st := [.int ((x1 + x4) - x2)]) (pc := 21) (index := 53) iJ0_length_8abf5 kw_284567147f kw_a4669d76c9 kw_6241048d1d rfl rfl rfl (by decide) rfl (Nat.le_of_ble_eq_true rfl) (by decide +kernel) (fun y9 e9 => ab_sL_in e9) (fun y9 e9 => okJ0_length_8abf5 hl e9) (fun v2 ev2 => ?_)
      refine ab_icmp_ge (off := 22) (pc := 24) (tgt := 46) (by decide +kernel) (by decide) (fun g3 => ?_) (fun g3 => ?_)
      · refine ab_ldcS (pc := 27) (index := 51) (kk := 0) (tx := "person wish wed knows hooks mix thief hand fetch if or and not own who hour hook marks hung free ") (by decide +kernel) (by show (RX0, 51, "person wish wed knows hooks mix thief hand fetch if or and not own who hour hook marks hung free ", 0) ∈ ab_sr; decide +kernel) ?_
        refine ab_iload (pc := 29) (i := 5) (j := 5) (by decide +kernel) rfl ?_
        refine ab_callVs (As := [.int ((x1 + x4) - x2)]) (st := []) (pc := 31) (index := 58) iJ0_charAt_5068e kw_74e48f0b05 kw_4aa780f2d5 kw_36ffa5c8dc rfl rfl rfl (by decide) rfl (Nat.le_of_ble_eq_true rfl) (by decide +kernel) (fun y9 e9 => ab_sC_in e9) (fun y9 e9 => okJ0_charAt_5068e hl e9) (fun v4 ev4 => ?_)
        refine ab_aload_n (pc := 34) (n := 0) (i := 0) (j := 0) (by decide +kernel) rfl rfl ?_
        refine ab_getR (pc := 35) fl_X0_21_0 (by decide +kernel) (fun v5 ev5 => ?_)
        refine ab_iload (pc := 38) (i := 4) (j := 4) (by decide +kernel) rfl ?_
        refine ab_callVi (As := [.int x4]) (st := [.int v4]) (pc := 40) lk_X0_48_9 rfl rfl rfl (by decide) rfl (Nat.le_of_ble_eq_true rfl) (by decide +kernel) (fun y9 e9 => okX9_byteAt hl e9) (fun v6 ev6 => ?_)
        refine ab_icmp_eq (off := 5) (pc := 43) (tgt := 48) (by decide +kernel) (by decide) (fun g7 => ?_) (fun g7 => ?_)
        · refine ab_iinc (pc := 48) (i := 4) (n := 1) (j := 4) (d := nI 1) (lv' := [(0, .ref x0), (1, .int x1), (2, .int x2), (3, .int x3), (4, .int (x4 + nI 1)), (5, .int ((x1 + x4) - x2))]) (by decide +kernel) rfl rfl (Nat.le_of_ble_eq_true rfl) rfl rfl ?_
          refine ab_goto (pc := 51) (off := (-48)) (tgt := 3) (by decide +kernel) (by decide) ?_
          refine ab_few [0, 1, 2, 3, 4] (lv' := [(0, .ref x0), (1, .int x1), (2, .int x2), (3, .int x3), (4, .int (x4 + nI 1))]) rfl ?_
          exact ih (x4 + nI 1)
        · refine ab_iconst (pc := 46) (n := 0) (v := nI 0) (by decide +kernel) rfl ?_
          exact ab_zret (pc := 47) (by decide +kernel) rfl ab_bl0.1 rfl (Nat.le_of_ble_eq_true rfl) (Nat.le_of_ble_eq_true rfl)
      · refine ab_iconst (pc := 46) (n := 0) (v := nI 0) (by decide +kernel) rfl ?_
        exact ab_zret (pc := 47) (by decide +kernel) rfl ab_bl0.1 rfl (Nat.le_of_ble_eq_true rfl) (Nat.le_of_ble_eq_true rfl)
    · refine ab_iconst (pc := 54) (n := 1) (v := nI 1) (by decide +kernel) rfl ?_
      exact ab_zret (pc := 55) (by decide +kernel) rfl ab_bl1.1 rfl (Nat.le_of_ble_eq_true rfl) (Nat.le_of_ble_eq_true rfl)
set_option maxRecDepth 100000 in
set_option maxHeartbeats 4000000 in
theorem wX0_isSpelt {l : Launch} (hl : l.stackTraces = false) (F : Nat) (x0 : Nat) (x1 : Int32) (x2 : Int32) (x3 : Int32) (h : ab_H) : ab_S l mX0_isSpelt (fun y : Int32 => ((.inl (some (.int y)), h) : ab_R × ab_H)) 0 0 (fX0_isSpelt F x0 x1 x2 x3 h) 0 [(0, .ref x0), (1, .int x1), (2, .int x2), (3, .int x3)] [] h := by
  unfold fX0_isSpelt
  refine ab_iload_n (pc := 0) (n := 2) (i := 2) (j := 2) (by decide +kernel) rfl rfl ?_
  refine ab_istore (pc := 1) (i := 4) (lv' := [(0, .ref x0), (1, .int x1), (2, .int x2), (3, .int x3), (4, .int x2)]) (by decide +kernel) (Nat.le_of_ble_eq_true rfl) rfl rfl ?_
  refine lX0_isSpelt_3 hl x0 x1 x2 x3 h F x2
set_option maxRecDepth 100000 in
set_option maxHeartbeats 4000000 in
theorem okX0_isSpelt {l : Launch} (hl : l.stackTraces = false) {F : Nat} {x0 : Nat} {x1 : Int32} {x2 : Int32} {x3 : Int32} {h : ab_H} {y : Int32} (e : fX0_isSpelt F x0 x1 x2 x3 h = some y) : ab_Met l mX0_isSpelt [.ref x0, .int x1, .int x2, .int x3] h (.inl (some (.int y)), h) := ab_ofS (io := (fun y : Int32 => ((.inl (some (.int y)), h) : ab_R × ab_H))) (x := y) hl (by decide) rfl (Nat.le_of_ble_eq_true rfl) (wX0_isSpelt hl F x0 x1 x2 x3 h) e
def mX0_numberHere : ab_M := (yX0_numberHere, cX0_numberHere, 3, (some .int), { frames := 1, cells := 0, slots := 0, locals := 21 })
theorem iX0_numberHere : ab_MI mX0_numberHere 0 := ⟨kw_fed26a20e2, kw_284a064ce4, by decide +kernel⟩
def fX0_numberHere_52 (x0 : Nat) (h : ab_H) : Nat → Int32 → Int32 → Option Int32
  | 0, _, _ => none
  | n + 1, x1, x2 => ab_bd (ab_fr h x0 0 3) fun v15 => ab_bd (ab_fi h x0 0 4) fun v16 => ab_bd (ab_ia 0 h v15 v16) fun v17 => (if x2 < v17 then ab_bd (ab_fr h x0 0 0) fun v19 => ab_ck (ab_io h v19 9 = true) (ab_bd (fX9_byteAt v19 x2 h) fun v20 => fX0_numberHere_52 x0 h n (((x1 * (nI 10)) + v20) - (nI 48)) (x2 + nI 1)) else some x1)
def fX0_numberHere (F : Nat) (x0 : Nat) (h : ab_H) : Option Int32 := ab_bd (ab_fr h x0 0 1) fun v1 => ab_bd (ab_fi h x0 0 4) fun v2 => ab_bd (ab_ia 0 h v1 v2) fun v3 => (if v3 = (nI 256) then ab_bd (ab_fr h x0 0 3) fun v5 => ab_bd (ab_fi h x0 0 4) fun v6 => ab_bd (ab_ia 0 h v5 v6) fun v7 => ab_bd (ab_fr h x0 0 2) fun v8 => ab_bd (ab_fi h x0 0 4) fun v9 => ab_bd (ab_ia 0 h v8 v9) fun v10 => (if (v7 - v10) ≤ (nI 3) then ab_bd (ab_fr h x0 0 2) fun v12 => ab_bd (ab_fi h x0 0 4) fun v13 => ab_bd (ab_ia 0 h v12 v13) fun v14 => fX0_numberHere_52 x0 h F (nI 0) v14 else some (-1 : Int32)) else some (-1 : Int32))
set_option maxRecDepth 100000 in
set_option maxHeartbeats 4000000 in
theorem lX0_numberHere_52 {l : Launch} (hl : l.stackTraces = false) (x0 : Nat) (h : ab_H) : ∀ (n : Nat) (x1 : Int32) (x2 : Int32), ab_S l mX0_numberHere (fun y : Int32 => ((.inl (some (.int y)), h) : ab_R × ab_H)) 0 0 (fX0_numberHere_52 x0 h n x1 x2) 52 [(0, .ref x0), (1, .int x1), (2, .int x2)] [] h := by
  intro n
  induction n with
  | zero =>
    intro x1 x2
    exact ab_none
  | succ n ih =>
    intro x1 x2
    rw [fX0_numberHere_52]
    refine ab_iload_n (pc := 52) (n := 2) (i := 2) (j := 2) (by decide +kernel) rfl rfl ?_
    refine ab_aload_n (pc := 53) (n := 0) (i := 0) (j := 0) (by decide +kernel) rfl rfl ?_
    refine ab_getR (pc := 54) fl_X0_18_0 (by decide +kernel) (fun v15 ev15 => ?_)
    refine ab_aload_n (pc := 57) (n := 0) (i := 0) (j := 0) (by decide +kernel) rfl rfl ?_
    refine ab_getI (pc := 58) fl_X0_45_0 (by decide +kernel) (fun v16 ev16 => ?_)
    refine ab_iald (pc := 61) (by decide +kernel) (fun v17 ev17 => ?_)
    refine ab_icmp_ge (off := 26) (pc := 62) (tgt := 88) (by decide +kernel) (by decide) (fun g18 => ?_) (fun g18 => ?_)
    · refine ab_iload_n (pc := 65) (n := 1) (i := 1) (j := 1) (by decide +kernel) rfl rfl ?_
      refine ab_bipush (pc := 66) (n := 10) (v := nI 10) (by decide +kernel) (by decide) ?_
      refine ab_imul (pc := 68) (by decide +kernel) ?_
      refine ab_aload_n (pc := 69) (n := 0) (i := 0) (j := 0) (by decide +kernel) rfl rfl ?_
      refine ab_getR (pc := 70) fl_X0_21_0 (by decide +kernel) (fun v19 ev19 => ?_)
      refine ab_iload_n (pc := 73) (n := 2) (i := 2) (j := 2) (by decide +kernel) rfl rfl ?_
      refine ab_callVi (As := [.int x2]) (st := [.int (x1 * (nI 10))]) (pc := 74) lk_X0_48_9 rfl rfl rfl (by decide) rfl (Nat.le_of_ble_eq_true rfl) (by decide +kernel) (fun y9 e9 => okX9_byteAt hl e9) (fun v20 ev20 => ?_)
      refine ab_iadd (pc := 77) (by decide +kernel) ?_
      refine ab_bipush (pc := 78) (n := 48) (v := nI 48) (by decide +kernel) (by decide) ?_
      refine ab_isub (pc := 80) (by decide +kernel) ?_
      refine ab_istore_n (pc := 81) (n := 1) (i := 1) (lv' := [(0, .ref x0), (1, .int (((x1 * (nI 10)) + v20) - (nI 48))), (2, .int x2)]) (by decide +kernel) rfl (Nat.le_of_ble_eq_true rfl) rfl rfl ?_
      refine ab_iinc (pc := 82) (i := 2) (n := 1) (j := 2) (d := nI 1) (lv' := [(0, .ref x0), (1, .int (((x1 * (nI 10)) + v20) - (nI 48))), (2, .int (x2 + nI 1))]) (by decide +kernel) rfl rfl (Nat.le_of_ble_eq_true rfl) rfl rfl ?_
      refine ab_goto (pc := 85) (off := (-33)) (tgt := 52) (by decide +kernel) (by decide) ?_
      exact ih (((x1 * (nI 10)) + v20) - (nI 48)) (x2 + nI 1)
    · refine ab_iload_n (pc := 88) (n := 1) (i := 1) (j := 1) (by decide +kernel) rfl rfl ?_
      exact ab_iret (pc := 89) (by decide +kernel) rfl rfl (Nat.le_of_ble_eq_true rfl) (Nat.le_of_ble_eq_true rfl)
set_option maxRecDepth 100000 in
set_option maxHeartbeats 4000000 in
theorem wX0_numberHere {l : Launch} (hl : l.stackTraces = false) (F : Nat) (x0 : Nat) (h : ab_H) : ab_S l mX0_numberHere (fun y : Int32 => ((.inl (some (.int y)), h) : ab_R × ab_H)) 0 0 (fX0_numberHere F x0 h) 0 [(0, .ref x0)] [] h := by
  unfold fX0_numberHere
  refine ab_aload_n (pc := 0) (n := 0) (i := 0) (j := 0) (by decide +kernel) rfl rfl ?_
  refine ab_getR (pc := 1) fl_X0_9_0 (by decide +kernel) (fun v1 ev1 => ?_)
  refine ab_aload_n (pc := 4) (n := 0) (i := 0) (j := 0) (by decide +kernel) rfl rfl ?_
  refine ab_getI (pc := 5) fl_X0_45_0 (by decide +kernel) (fun v2 ev2 => ?_)
  refine ab_iald (pc := 8) (by decide +kernel) (fun v3 ev3 => ?_)
  refine ab_sipush (pc := 9) (n := 256) (v := nI 256) (by decide +kernel) (by decide) ?_
  refine ab_icmp_ne (off := 26) (pc := 12) (tgt := 38) (by decide +kernel) (by decide) (fun g4 => ?_) (fun g4 => ?_)
  · refine ab_aload_n (pc := 15) (n := 0) (i := 0) (j := 0) (by decide +kernel) rfl rfl ?_
    refine ab_getR (pc := 16) fl_X0_18_0 (by decide +kernel) (fun v5 ev5 => ?_)
    refine ab_aload_n (pc := 19) (n := 0) (i := 0) (j := 0) (by decide +kernel) rfl rfl ?_
    refine ab_getI (pc := 20) fl_X0_45_0 (by decide +kernel) (fun v6 ev6 => ?_)
    refine ab_iald (pc := 23) (by decide +kernel) (fun v7 ev7 => ?_)
    refine ab_aload_n (pc := 24) (n := 0) (i := 0) (j := 0) (by decide +kernel) rfl rfl ?_
    refine ab_getR (pc := 25) fl_X0_15_0 (by decide +kernel) (fun v8 ev8 => ?_)
    refine ab_aload_n (pc := 28) (n := 0) (i := 0) (j := 0) (by decide +kernel) rfl rfl ?_
    refine ab_getI (pc := 29) fl_X0_45_0 (by decide +kernel) (fun v9 ev9 => ?_)
    refine ab_iald (pc := 32) (by decide +kernel) (fun v10 ev10 => ?_)
    refine ab_isub (pc := 33) (by decide +kernel) ?_
    refine ab_iconst (pc := 34) (n := 3) (v := nI 3) (by decide +kernel) rfl ?_
    refine ab_icmp_le (off := 5) (pc := 35) (tgt := 40) (by decide +kernel) (by decide) (fun g11 => ?_) (fun g11 => ?_)
    · refine ab_iconst (pc := 40) (n := 0) (v := nI 0) (by decide +kernel) rfl ?_
      refine ab_istore_n (pc := 41) (n := 1) (i := 1) (lv' := [(0, .ref x0), (1, .int (nI 0))]) (by decide +kernel) rfl (Nat.le_of_ble_eq_true rfl) rfl rfl ?_
      refine ab_aload_n (pc := 42) (n := 0) (i := 0) (j := 0) (by decide +kernel) rfl rfl ?_
      refine ab_getR (pc := 43) fl_X0_15_0 (by decide +kernel) (fun v12 ev12 => ?_)
      refine ab_aload_n (pc := 46) (n := 0) (i := 0) (j := 0) (by decide +kernel) rfl rfl ?_
      refine ab_getI (pc := 47) fl_X0_45_0 (by decide +kernel) (fun v13 ev13 => ?_)
      refine ab_iald (pc := 50) (by decide +kernel) (fun v14 ev14 => ?_)
      refine ab_istore_n (pc := 51) (n := 2) (i := 2) (lv' := [(0, .ref x0), (1, .int (nI 0)), (2, .int v14)]) (by decide +kernel) rfl (Nat.le_of_ble_eq_true rfl) rfl rfl ?_
      refine lX0_numberHere_52 hl x0 h F (nI 0) v14
    · refine ab_iconst (pc := 38) (n := -1) (v := (-1 : Int32)) (by decide +kernel) rfl ?_
      exact ab_iret (pc := 39) (by decide +kernel) rfl rfl (Nat.le_of_ble_eq_true rfl) (Nat.le_of_ble_eq_true rfl)
  · refine ab_iconst (pc := 38) (n := -1) (v := (-1 : Int32)) (by decide +kernel) rfl ?_
    exact ab_iret (pc := 39) (by decide +kernel) rfl rfl (Nat.le_of_ble_eq_true rfl) (Nat.le_of_ble_eq_true rfl)
set_option maxRecDepth 100000 in
set_option maxHeartbeats 4000000 in
theorem okX0_numberHere {l : Launch} (hl : l.stackTraces = false) {F : Nat} {x0 : Nat} {h : ab_H} {y : Int32} (e : fX0_numberHere F x0 h = some y) : ab_Met l mX0_numberHere [.ref x0] h (.inl (some (.int y)), h) := ab_ofS (io := (fun y : Int32 => ((.inl (some (.int y)), h) : ab_R × ab_H))) (x := y) hl (by decide) rfl (Nat.le_of_ble_eq_true rfl) (wX0_numberHere hl F x0 h) e
def mX0_figuresHere : ab_M := (yX0_figuresHere, cX0_figuresHere, 4, (some .int), { frames := 1, cells := 0, slots := 0, locals := 21 })
theorem iX0_figuresHere : ab_MI mX0_figuresHere 0 := ⟨kw_e7895b6682, kw_284a064ce4, by decide +kernel⟩
def fX0_figuresHere_45 (x0 : Nat) (h : ab_H) : Nat → Int32 → Int32 → Option Int32
  | 0, _, _ => none
  | n + 1, x1, x2 => (if x2 < (nI 8) then ab_bd (ab_fr h x0 0 0) fun v13 => ab_bd (ab_fr h x0 0 2) fun v14 => ab_bd (ab_fi h x0 0 4) fun v15 => ab_bd (ab_ia 0 h v14 v15) fun v16 => ab_ck (ab_io h v13 9 = true) (ab_bd (fX9_byteAt v13 (v16 + x2) h) fun v17 => (if (v17 - (nI 48)) ≤ (nI 1) then fX0_figuresHere_45 x0 h n (x1 ||| ((v17 - (nI 48)) <<< (x2 &&& 31))) (x2 + nI 1) else some (-1 : Int32))) else some x1)
def fX0_figuresHere (F : Nat) (x0 : Nat) (h : ab_H) : Option Int32 := ab_bd (ab_fr h x0 0 1) fun v1 => ab_bd (ab_fi h x0 0 4) fun v2 => ab_bd (ab_ia 0 h v1 v2) fun v3 => (if v3 = (nI 256) then ab_bd (ab_fr h x0 0 3) fun v5 => ab_bd (ab_fi h x0 0 4) fun v6 => ab_bd (ab_ia 0 h v5 v6) fun v7 => ab_bd (ab_fr h x0 0 2) fun v8 => ab_bd (ab_fi h x0 0 4) fun v9 => ab_bd (ab_ia 0 h v8 v9) fun v10 => (if (v7 - v10) = (nI 8) then fX0_figuresHere_45 x0 h F (nI 0) (nI 0) else some (-1 : Int32)) else some (-1 : Int32))
set_option maxRecDepth 100000 in
set_option maxHeartbeats 4000000 in
theorem lX0_figuresHere_45 {l : Launch} (hl : l.stackTraces = false) (x0 : Nat) (h : ab_H) : ∀ (n : Nat) (x1 : Int32) (x2 : Int32), ab_S l mX0_figuresHere (fun y : Int32 => ((.inl (some (.int y)), h) : ab_R × ab_H)) 0 0 (fX0_figuresHere_45 x0 h n x1 x2) 45 [(0, .ref x0), (1, .int x1), (2, .int x2)] [] h := by
  intro n
  induction n with
  | zero =>
    intro x1 x2
    exact ab_none
  | succ n ih =>
    intro x1 x2
    rw [fX0_figuresHere_45]
    refine ab_iload_n (pc := 45) (n := 2) (i := 2) (j := 2) (by decide +kernel) rfl rfl ?_
    refine ab_bipush (pc := 46) (n := 8) (v := nI 8) (by decide +kernel) (by decide) ?_
    refine ab_icmp_ge (off := 44) (pc := 48) (tgt := 92) (by decide +kernel) (by decide) (fun g12 => ?_) (fun g12 => ?_)
    · refine ab_aload_n (pc := 51) (n := 0) (i := 0) (j := 0) (by decide +kernel) rfl rfl ?_
      refine ab_getR (pc := 52) fl_X0_21_0 (by decide +kernel) (fun v13 ev13 => ?_)
      refine ab_aload_n (pc := 55) (n := 0) (i := 0) (j := 0) (by decide +kernel) rfl rfl ?_
      refine ab_getR (pc := 56) fl_X0_15_0 (by decide +kernel) (fun v14 ev14 => ?_)
      refine ab_aload_n (pc := 59) (n := 0) (i := 0) (j := 0) (by decide +kernel) rfl rfl ?_
      refine ab_getI (pc := 60) fl_X0_45_0 (by decide +kernel) (fun v15 ev15 => ?_)
      refine ab_iald (pc := 63) (by decide +kernel) (fun v16 ev16 => ?_)
      refine ab_iload_n (pc := 64) (n := 2) (i := 2) (j := 2) (by decide +kernel) rfl rfl ?_
      refine ab_iadd (pc := 65) (by decide +kernel) ?_
      refine ab_callVi (As := [.int (v16 + x2)]) (st := []) (pc := 66) lk_X0_48_9 rfl rfl rfl (by decide) rfl (Nat.le_of_ble_eq_true rfl) (by decide +kernel) (fun y9 e9 => okX9_byteAt hl e9) (fun v17 ev17 => ?_)
      refine ab_bipush (pc := 69) (n := 48) (v := nI 48) (by decide +kernel) (by decide) ?_
      refine ab_isub (pc := 71) (by decide +kernel) ?_
      refine ab_istore_n (pc := 72) (n := 3) (i := 3) (lv' := [(0, .ref x0), (1, .int x1), (2, .int x2), (3, .int (v17 - (nI 48)))]) (by decide +kernel) rfl (Nat.le_of_ble_eq_true rfl) rfl rfl ?_
      refine ab_iload_n (pc := 73) (n := 3) (i := 3) (j := 3) (by decide +kernel) rfl rfl ?_
      refine ab_iconst (pc := 74) (n := 1) (v := nI 1) (by decide +kernel) rfl ?_
      refine ab_icmp_le (off := 5) (pc := 75) (tgt := 80) (by decide +kernel) (by decide) (fun g18 => ?_) (fun g18 => ?_)
      · refine ab_iload_n (pc := 80) (n := 1) (i := 1) (j := 1) (by decide +kernel) rfl rfl ?_
        refine ab_iload_n (pc := 81) (n := 3) (i := 3) (j := 3) (by decide +kernel) rfl rfl ?_
        refine ab_iload_n (pc := 82) (n := 2) (i := 2) (j := 2) (by decide +kernel) rfl rfl ?_
        refine ab_ishl (pc := 83) (by decide +kernel) ?_
        refine ab_ior (pc := 84) (by decide +kernel) ?_
        refine ab_istore_n (pc := 85) (n := 1) (i := 1) (lv' := [(0, .ref x0), (1, .int (x1 ||| ((v17 - (nI 48)) <<< (x2 &&& 31)))), (2, .int x2), (3, .int (v17 - (nI 48)))]) (by decide +kernel) rfl (Nat.le_of_ble_eq_true rfl) rfl rfl ?_
        refine ab_iinc (pc := 86) (i := 2) (n := 1) (j := 2) (d := nI 1) (lv' := [(0, .ref x0), (1, .int (x1 ||| ((v17 - (nI 48)) <<< (x2 &&& 31)))), (2, .int (x2 + nI 1)), (3, .int (v17 - (nI 48)))]) (by decide +kernel) rfl rfl (Nat.le_of_ble_eq_true rfl) rfl rfl ?_
        refine ab_goto (pc := 89) (off := (-44)) (tgt := 45) (by decide +kernel) (by decide) ?_
        refine ab_few [0, 1, 2] (lv' := [(0, .ref x0), (1, .int (x1 ||| ((v17 - (nI 48)) <<< (x2 &&& 31)))), (2, .int (x2 + nI 1))]) rfl ?_
        exact ih (x1 ||| ((v17 - (nI 48)) <<< (x2 &&& 31))) (x2 + nI 1)
      · refine ab_iconst (pc := 78) (n := -1) (v := (-1 : Int32)) (by decide +kernel) rfl ?_
        exact ab_iret (pc := 79) (by decide +kernel) rfl rfl (Nat.le_of_ble_eq_true rfl) (Nat.le_of_ble_eq_true rfl)
    · refine ab_iload_n (pc := 92) (n := 1) (i := 1) (j := 1) (by decide +kernel) rfl rfl ?_
      exact ab_iret (pc := 93) (by decide +kernel) rfl rfl (Nat.le_of_ble_eq_true rfl) (Nat.le_of_ble_eq_true rfl)
set_option maxRecDepth 100000 in
set_option maxHeartbeats 4000000 in
theorem wX0_figuresHere {l : Launch} (hl : l.stackTraces = false) (F : Nat) (x0 : Nat) (h : ab_H) : ab_S l mX0_figuresHere (fun y : Int32 => ((.inl (some (.int y)), h) : ab_R × ab_H)) 0 0 (fX0_figuresHere F x0 h) 0 [(0, .ref x0)] [] h := by
  unfold fX0_figuresHere
  refine ab_aload_n (pc := 0) (n := 0) (i := 0) (j := 0) (by decide +kernel) rfl rfl ?_
  refine ab_getR (pc := 1) fl_X0_9_0 (by decide +kernel) (fun v1 ev1 => ?_)
  refine ab_aload_n (pc := 4) (n := 0) (i := 0) (j := 0) (by decide +kernel) rfl rfl ?_
  refine ab_getI (pc := 5) fl_X0_45_0 (by decide +kernel) (fun v2 ev2 => ?_)
  refine ab_iald (pc := 8) (by decide +kernel) (fun v3 ev3 => ?_)
  refine ab_sipush (pc := 9) (n := 256) (v := nI 256) (by decide +kernel) (by decide) ?_
  refine ab_icmp_ne (off := 27) (pc := 12) (tgt := 39) (by decide +kernel) (by decide) (fun g4 => ?_) (fun g4 => ?_)
  · refine ab_aload_n (pc := 15) (n := 0) (i := 0) (j := 0) (by decide +kernel) rfl rfl ?_
    refine ab_getR (pc := 16) fl_X0_18_0 (by decide +kernel) (fun v5 ev5 => ?_)
    refine ab_aload_n (pc := 19) (n := 0) (i := 0) (j := 0) (by decide +kernel) rfl rfl ?_
    refine ab_getI (pc := 20) fl_X0_45_0 (by decide +kernel) (fun v6 ev6 => ?_)
    refine ab_iald (pc := 23) (by decide +kernel) (fun v7 ev7 => ?_)
    refine ab_aload_n (pc := 24) (n := 0) (i := 0) (j := 0) (by decide +kernel) rfl rfl ?_
    refine ab_getR (pc := 25) fl_X0_15_0 (by decide +kernel) (fun v8 ev8 => ?_)
    refine ab_aload_n (pc := 28) (n := 0) (i := 0) (j := 0) (by decide +kernel) rfl rfl ?_
    refine ab_getI (pc := 29) fl_X0_45_0 (by decide +kernel) (fun v9 ev9 => ?_)
    refine ab_iald (pc := 32) (by decide +kernel) (fun v10 ev10 => ?_)
    refine ab_isub (pc := 33) (by decide +kernel) ?_
    refine ab_bipush (pc := 34) (n := 8) (v := nI 8) (by decide +kernel) (by decide) ?_
    refine ab_icmp_eq (off := 5) (pc := 36) (tgt := 41) (by decide +kernel) (by decide) (fun g11 => ?_) (fun g11 => ?_)
    · refine ab_iconst (pc := 41) (n := 0) (v := nI 0) (by decide +kernel) rfl ?_
      refine ab_istore_n (pc := 42) (n := 1) (i := 1) (lv' := [(0, .ref x0), (1, .int (nI 0))]) (by decide +kernel) rfl (Nat.le_of_ble_eq_true rfl) rfl rfl ?_
      refine ab_iconst (pc := 43) (n := 0) (v := nI 0) (by decide +kernel) rfl ?_
      refine ab_istore_n (pc := 44) (n := 2) (i := 2) (lv' := [(0, .ref x0), (1, .int (nI 0)), (2, .int (nI 0))]) (by decide +kernel) rfl (Nat.le_of_ble_eq_true rfl) rfl rfl ?_
      refine lX0_figuresHere_45 hl x0 h F (nI 0) (nI 0)
    · refine ab_iconst (pc := 39) (n := -1) (v := (-1 : Int32)) (by decide +kernel) rfl ?_
      exact ab_iret (pc := 40) (by decide +kernel) rfl rfl (Nat.le_of_ble_eq_true rfl) (Nat.le_of_ble_eq_true rfl)
  · refine ab_iconst (pc := 39) (n := -1) (v := (-1 : Int32)) (by decide +kernel) rfl ?_
    exact ab_iret (pc := 40) (by decide +kernel) rfl rfl (Nat.le_of_ble_eq_true rfl) (Nat.le_of_ble_eq_true rfl)
set_option maxRecDepth 100000 in
set_option maxHeartbeats 4000000 in
theorem okX0_figuresHere {l : Launch} (hl : l.stackTraces = false) {F : Nat} {x0 : Nat} {h : ab_H} {y : Int32} (e : fX0_figuresHere F x0 h = some y) : ab_Met l mX0_figuresHere [.ref x0] h (.inl (some (.int y)), h) := ab_ofS (io := (fun y : Int32 => ((.inl (some (.int y)), h) : ab_R × ab_H))) (x := y) hl (by decide) rfl (Nat.le_of_ble_eq_true rfl) (wX0_figuresHere hl F x0 h) e
def mX1_init : ab_M := (yX1_init, cX1_init, 4, none, { frames := 2, cells := 1, slots := 10, locals := 42 })
theorem iX1_init : ab_MI mX1_init 3 := ⟨kw_9a1b3a33f2, kw_9c5cf83101, by decide +kernel⟩
def fX1_init (x0 : Nat) (x1 : Nat) (x2 : Nat) (x3 : Nat) (h : ab_H) : Option ab_H := ab_bd (fX10_initD x0 x1 (nI 14) h) fun h1 => ab_bd (ab_na 0 10 h1 (nI 10)) fun h2 => ab_bd (ab_fw h2 x0 1 6 (.ref h1.1)) fun h3 => ab_bd (ab_fw h3 x0 1 4 (.ref x2)) fun h4 => ab_bd (ab_fw h4 x0 1 5 (.ref x3)) fun h5 => some h5
set_option maxRecDepth 100000 in
set_option maxHeartbeats 4000000 in
theorem wX1_init {l : Launch} (hl : l.stackTraces = false) (x0 : Nat) (x1 : Nat) (x2 : Nat) (x3 : Nat) (h : ab_H) : ab_S l mX1_init (fun y : ab_H => ((.inl none, y) : ab_R × ab_H)) 0 0 (fX1_init x0 x1 x2 x3 h) 0 [(0, .ref x0), (1, .ref x1), (2, .ref x2), (3, .ref x3)] [] h := by
  unfold fX1_init
  refine ab_aload_n (pc := 0) (n := 0) (i := 0) (j := 0) (by decide +kernel) rfl rfl ?_
  refine ab_aload_n (pc := 1) (n := 1) (i := 1) (j := 1) (by decide +kernel) rfl rfl ?_
  refine ab_bipush (pc := 2) (n := 14) (v := nI 14) (by decide +kernel) (by decide) ?_
  refine ab_callI (M' := mX10_initD) (As := [.ref x1, .int (nI 14)]) (st := []) (pc := 4) (index := 3) iX10_initD (Or.inl kw_039b9f854d) kw_5cf7b5f4c3 rfl rfl rfl (by decide) rfl (Nat.le_of_ble_eq_true rfl) (by decide +kernel) (fun y9 e9 => okX10_initD hl e9) (fun h1 eh1 => ?_)
  refine ab_aload_n (pc := 7) (n := 0) (i := 0) (j := 0) (by decide +kernel) rfl rfl ?_
  refine ab_bipush (pc := 8) (n := 10) (v := nI 10) (by decide +kernel) (by decide) ?_
  refine ab_naI (pc := 10) (B := 10) kw_b5d2f4680e (by decide) (Nat.le_of_ble_eq_true rfl) (Nat.le_of_ble_eq_true rfl) (by decide +kernel) (fun h2 eh2 => ?_)
  refine ab_putF (pc := 12) fl_X1_9_1 rfl rfl (fun _ => rfl) (fun _ => rfl) (by decide +kernel) (fun h3 eh3 => ?_)
  refine ab_aload_n (pc := 15) (n := 0) (i := 0) (j := 0) (by decide +kernel) rfl rfl ?_
  refine ab_aload_n (pc := 16) (n := 2) (i := 2) (j := 2) (by decide +kernel) rfl rfl ?_
  refine ab_putF (pc := 17) fl_X1_15_1 rfl rfl (fun _ => rfl) (fun _ => rfl) (by decide +kernel) (fun h4 eh4 => ?_)
  refine ab_aload_n (pc := 20) (n := 0) (i := 0) (j := 0) (by decide +kernel) rfl rfl ?_
  refine ab_aload_n (pc := 21) (n := 3) (i := 3) (j := 3) (by decide +kernel) rfl rfl ?_
  refine ab_putF (pc := 22) fl_X1_19_1 rfl rfl (fun _ => rfl) (fun _ => rfl) (by decide +kernel) (fun h5 eh5 => ?_)
  exact ab_vret (pc := 25) (by decide +kernel) rfl rfl (Nat.le_of_ble_eq_true rfl) (Nat.le_of_ble_eq_true rfl)
set_option maxRecDepth 100000 in
set_option maxHeartbeats 4000000 in
theorem okX1_init {l : Launch} (hl : l.stackTraces = false) {x0 : Nat} {x1 : Nat} {x2 : Nat} {x3 : Nat} {h : ab_H} {y : ab_H} (e : fX1_init x0 x1 x2 x3 h = some y) : ab_Met l mX1_init [.ref x0, .ref x1, .ref x2, .ref x3] h (.inl none, y) := ab_ofS (io := (fun y : ab_H => ((.inl none, y) : ab_R × ab_H))) (x := y) hl (by decide) rfl (Nat.le_of_ble_eq_true rfl) (wX1_init hl x0 x1 x2 x3 h) e
def mX1_startText : ab_M := (yX1_startText, cX1_startText, 1, none, { frames := 3, cells := 0, slots := 0, locals := 68 })
theorem iX1_startText : ab_MI mX1_startText 0 := ⟨kw_53603ecda1, kw_9c5cf83101, by decide +kernel⟩
theorem lk_X1_22_8 : ab_LV RX1 22 8 mX8_copyFrom 1 := ⟨RX8, rfl, iX8_copyFrom, kw_546af516fc, kw_5db67fc933, kw_ac67004cea⟩
def fX1_startText (x0 : Nat) (h : ab_H) : Option ab_H := ab_bd (ab_fr h x0 1 5) fun v1 => ab_bd (ab_fr h x0 1 4) fun v2 => ab_ck (ab_io h v1 8 = true) (ab_bd (fX8_copyFrom v1 v2 h) fun h3 => some h3)
set_option maxRecDepth 100000 in
set_option maxHeartbeats 4000000 in
theorem wX1_startText {l : Launch} (hl : l.stackTraces = false) (x0 : Nat) (h : ab_H) : ab_S l mX1_startText (fun y : ab_H => ((.inl none, y) : ab_R × ab_H)) 0 0 (fX1_startText x0 h) 0 [(0, .ref x0)] [] h := by
  unfold fX1_startText
  refine ab_aload_n (pc := 0) (n := 0) (i := 0) (j := 0) (by decide +kernel) rfl rfl ?_
  refine ab_getR (pc := 1) fl_X1_19_1 (by decide +kernel) (fun v1 ev1 => ?_)
  refine ab_aload_n (pc := 4) (n := 0) (i := 0) (j := 0) (by decide +kernel) rfl rfl ?_
  refine ab_getR (pc := 5) fl_X1_15_1 (by decide +kernel) (fun v2 ev2 => ?_)
  refine ab_callVw (As := [.ref v2]) (st := []) (pc := 8) lk_X1_22_8 rfl rfl rfl (by decide) rfl (Nat.le_of_ble_eq_true rfl) (by decide +kernel) (fun y9 e9 => okX8_copyFrom hl e9) (fun h3 eh3 => ?_)
  exact ab_vret (pc := 11) (by decide +kernel) rfl rfl (Nat.le_of_ble_eq_true rfl) (Nat.le_of_ble_eq_true rfl)
set_option maxRecDepth 100000 in
set_option maxHeartbeats 4000000 in
theorem okX1_startText {l : Launch} (hl : l.stackTraces = false) {x0 : Nat} {h : ab_H} {y : ab_H} (e : fX1_startText x0 h = some y) : ab_Met l mX1_startText [.ref x0] h (.inl none, y) := ab_ofS (io := (fun y : ab_H => ((.inl none, y) : ab_R × ab_H))) (x := y) hl (by decide) rfl (Nat.le_of_ble_eq_true rfl) (wX1_startText hl x0 h) e
def mX1_readNumber : ab_M := (yX1_readNumber, cX1_readNumber, 4, (some .int), { frames := 2, cells := 0, slots := 0, locals := 43 })
theorem iX1_readNumber : ab_MI mX1_readNumber 2 := ⟨kw_5518bdc77a, kw_9c5cf83101, by decide +kernel⟩
theorem lk_X1_54_1 : ab_LU RX1 54 1 mX10_acceptD 1 := ⟨"HungFaces$DoorReader", "HungFaces$TextReader", ⟨"HungFaces$DoorReader", "accept", "(Z)V"⟩, rfl, iX10_acceptD, kw_c6ebc4d85f, kw_239f1e27a6, kw_eb4c2f4eb0, kw_6d598fa2ff, by decide +kernel, by decide +kernel, by decide +kernel, by decide +kernel⟩
theorem lk_X1_84_0 : ab_LV RX1 84 0 mX0_numberHere 0 := ⟨RX0, rfl, iX0_numberHere, kw_c557820b00, kw_467487164e, kw_119fd82199⟩
def fX1_readNumber (F : Nat) (x0 : Nat) (x1 : Int32) (x2 : Int32) (h : ab_H) : Option (Int32 × ab_H) := ab_bd (ab_fr h x0 1 0) fun v1 => ab_ck (ab_io h v1 0 = true) (ab_bd (fX0_numberHere F v1 h) fun v2 => ab_jn (κ := Int32 → Option (Int32 × ab_H)) (fun (z3 : Int32) => ab_ck (ab_io h x0 1 = true) (ab_bd (fX10_acceptD x0 z3 h) fun h4 => some (v2, h4))) fun j5 => ab_jn (κ := Option (Int32 × ab_H)) (j5 (nI 0)) fun j6 => (if v2 < x1 then j6 else (if v2 ≤ x2 then j5 (nI 1) else j6)))
set_option maxRecDepth 100000 in
set_option maxHeartbeats 4000000 in
theorem wX1_readNumber {l : Launch} (hl : l.stackTraces = false) (F : Nat) (x0 : Nat) (x1 : Int32) (x2 : Int32) (h : ab_H) : ab_S l mX1_readNumber (fun y : (Int32 × ab_H) => ((.inl (some (.int y.1)), y.2) : ab_R × ab_H)) 0 0 (fX1_readNumber F x0 x1 x2 h) 0 [(0, .ref x0), (1, .int x1), (2, .int x2)] [] h := by
  unfold fX1_readNumber
  refine ab_aload_n (pc := 0) (n := 0) (i := 0) (j := 0) (by decide +kernel) rfl rfl ?_
  refine ab_getR (pc := 1) fl_X1_28_1 (by decide +kernel) (fun v1 ev1 => ?_)
  refine ab_callVi (As := []) (st := []) (pc := 4) lk_X1_84_0 rfl rfl rfl (by decide) rfl (Nat.le_of_ble_eq_true rfl) (by decide +kernel) (fun y9 e9 => okX0_numberHere hl (F := F) e9) (fun v2 ev2 => ?_)
  refine ab_istore_n (pc := 7) (n := 3) (i := 3) (lv' := [(0, .ref x0), (1, .int x1), (2, .int x2), (3, .int v2)]) (by decide +kernel) rfl (Nat.le_of_ble_eq_true rfl) rfl rfl ?_
  refine ab_aload_n (pc := 8) (n := 0) (i := 0) (j := 0) (by decide +kernel) rfl rfl ?_
  refine ab_iload_n (pc := 9) (n := 3) (i := 3) (j := 3) (by decide +kernel) rfl rfl ?_
  refine ab_iload_n (pc := 10) (n := 1) (i := 1) (j := 1) (by decide +kernel) rfl rfl ?_
  refine ab_jr (fun k9 : Int32 → Option (Int32 × ab_H) => ∀ (z3 : Int32), ab_S l mX1_readNumber (fun y : (Int32 × ab_H) => ((.inl (some (.int y.1)), y.2) : ab_R × ab_H)) 0 0 (k9 z3) 24 [(3, .int v2)] [.int z3, .ref x0] h) ?_ (fun j5 hj5 => ?_)
  · intro z3
    refine ab_callUw (As := [.int z3]) (st := []) (pc := 24) lk_X1_54_1 rfl rfl rfl (by decide) rfl (Nat.le_of_ble_eq_true rfl) (by decide +kernel) (fun y9 e9 => okX10_acceptD hl e9) (fun h4 eh4 => ?_)
    refine ab_iload_n (pc := 27) (n := 3) (i := 3) (j := 0) (by decide +kernel) rfl rfl ?_
    exact ab_iret (pc := 28) (by decide +kernel) rfl rfl (Nat.le_of_ble_eq_true rfl) (Nat.le_of_ble_eq_true rfl)
  · refine ab_jr (fun k9 : Option (Int32 × ab_H) => ab_S l mX1_readNumber (fun y : (Int32 × ab_H) => ((.inl (some (.int y.1)), y.2) : ab_R × ab_H)) 0 0 (k9) 23 [(3, .int v2)] [.ref x0] h) ?_ (fun j6 hj6 => ?_)
    · refine ab_iconst (pc := 23) (n := 0) (v := nI 0) (by decide +kernel) rfl ?_
      exact hj5 (nI 0)
    · refine ab_icmp_lt (off := 12) (pc := 11) (tgt := 23) (by decide +kernel) (by decide) (fun g7 => ?_) (fun g7 => ?_)
      · refine ab_few [3] (lv' := [(3, .int v2)]) rfl ?_
        exact hj6
      · refine ab_iload_n (pc := 14) (n := 3) (i := 3) (j := 3) (by decide +kernel) rfl rfl ?_
        refine ab_iload_n (pc := 15) (n := 2) (i := 2) (j := 2) (by decide +kernel) rfl rfl ?_
        refine ab_icmp_gt (off := 7) (pc := 16) (tgt := 23) (by decide +kernel) (by decide) (fun g8 => ?_) (fun g8 => ?_)
        · refine ab_iconst (pc := 19) (n := 1) (v := nI 1) (by decide +kernel) rfl ?_
          refine ab_goto (pc := 20) (off := 4) (tgt := 24) (by decide +kernel) (by decide) ?_
          refine ab_few [3] (lv' := [(3, .int v2)]) rfl ?_
          exact hj5 (nI 1)
        · refine ab_few [3] (lv' := [(3, .int v2)]) rfl ?_
          exact hj6
set_option maxRecDepth 100000 in
set_option maxHeartbeats 4000000 in
theorem okX1_readNumber {l : Launch} (hl : l.stackTraces = false) {F : Nat} {x0 : Nat} {x1 : Int32} {x2 : Int32} {h : ab_H} {y : (Int32 × ab_H)} (e : fX1_readNumber F x0 x1 x2 h = some y) : ab_Met l mX1_readNumber [.ref x0, .int x1, .int x2] h (.inl (some (.int y.1)), y.2) := ab_ofS (io := (fun y : (Int32 × ab_H) => ((.inl (some (.int y.1)), y.2) : ab_R × ab_H))) (x := y) hl (by decide) rfl (Nat.le_of_ble_eq_true rfl) (wX1_readNumber hl F x0 x1 x2 h) e
def mX1_readFigures : ab_M := (yX1_readFigures, cX1_readFigures, 2, (some .int), { frames := 2, cells := 0, slots := 0, locals := 44 })
theorem iX1_readFigures : ab_MI mX1_readFigures 0 := ⟨kw_de23861c8c, kw_9c5cf83101, by decide +kernel⟩
theorem lk_X1_87_0 : ab_LV RX1 87 0 mX0_figuresHere 0 := ⟨RX0, rfl, iX0_figuresHere, kw_c31ffba161, kw_277e59a91c, kw_943f120fa2⟩
def fX1_readFigures (F : Nat) (x0 : Nat) (h : ab_H) : Option (Int32 × ab_H) := ab_bd (ab_fr h x0 1 0) fun v1 => ab_ck (ab_io h v1 0 = true) (ab_bd (fX0_figuresHere F v1 h) fun v2 => ab_jn (κ := Int32 → Option (Int32 × ab_H)) (fun (z3 : Int32) => ab_ck (ab_io h x0 1 = true) (ab_bd (fX10_acceptD x0 z3 h) fun h4 => some (v2, h4))) fun j5 => (if v2 = (-1 : Int32) then j5 (nI 0) else j5 (nI 1)))
set_option maxRecDepth 100000 in
set_option maxHeartbeats 4000000 in
theorem wX1_readFigures {l : Launch} (hl : l.stackTraces = false) (F : Nat) (x0 : Nat) (h : ab_H) : ab_S l mX1_readFigures (fun y : (Int32 × ab_H) => ((.inl (some (.int y.1)), y.2) : ab_R × ab_H)) 0 0 (fX1_readFigures F x0 h) 0 [(0, .ref x0)] [] h := by
  unfold fX1_readFigures
  refine ab_aload_n (pc := 0) (n := 0) (i := 0) (j := 0) (by decide +kernel) rfl rfl ?_
  refine ab_getR (pc := 1) fl_X1_28_1 (by decide +kernel) (fun v1 ev1 => ?_)
  refine ab_callVi (As := []) (st := []) (pc := 4) lk_X1_87_0 rfl rfl rfl (by decide) rfl (Nat.le_of_ble_eq_true rfl) (by decide +kernel) (fun y9 e9 => okX0_figuresHere hl (F := F) e9) (fun v2 ev2 => ?_)
  refine ab_istore_n (pc := 7) (n := 1) (i := 1) (lv' := [(0, .ref x0), (1, .int v2)]) (by decide +kernel) rfl (Nat.le_of_ble_eq_true rfl) rfl rfl ?_
  refine ab_aload_n (pc := 8) (n := 0) (i := 0) (j := 0) (by decide +kernel) rfl rfl ?_
  refine ab_iload_n (pc := 9) (n := 1) (i := 1) (j := 1) (by decide +kernel) rfl rfl ?_
  refine ab_iconst (pc := 10) (n := -1) (v := (-1 : Int32)) (by decide +kernel) rfl ?_
  refine ab_jr (fun k9 : Int32 → Option (Int32 × ab_H) => ∀ (z3 : Int32), ab_S l mX1_readFigures (fun y : (Int32 × ab_H) => ((.inl (some (.int y.1)), y.2) : ab_R × ab_H)) 0 0 (k9 z3) 19 [(1, .int v2)] [.int z3, .ref x0] h) ?_ (fun j5 hj5 => ?_)
  · intro z3
    refine ab_callUw (As := [.int z3]) (st := []) (pc := 19) lk_X1_54_1 rfl rfl rfl (by decide) rfl (Nat.le_of_ble_eq_true rfl) (by decide +kernel) (fun y9 e9 => okX10_acceptD hl e9) (fun h4 eh4 => ?_)
    refine ab_iload_n (pc := 22) (n := 1) (i := 1) (j := 0) (by decide +kernel) rfl rfl ?_
    exact ab_iret (pc := 23) (by decide +kernel) rfl rfl (Nat.le_of_ble_eq_true rfl) (Nat.le_of_ble_eq_true rfl)
  · refine ab_icmp_eq (off := 7) (pc := 11) (tgt := 18) (by decide +kernel) (by decide) (fun g6 => ?_) (fun g6 => ?_)
    · refine ab_iconst (pc := 18) (n := 0) (v := nI 0) (by decide +kernel) rfl ?_
      refine ab_few [1] (lv' := [(1, .int v2)]) rfl ?_
      exact hj5 (nI 0)
    · refine ab_iconst (pc := 14) (n := 1) (v := nI 1) (by decide +kernel) rfl ?_
      refine ab_goto (pc := 15) (off := 4) (tgt := 19) (by decide +kernel) (by decide) ?_
      refine ab_few [1] (lv' := [(1, .int v2)]) rfl ?_
      exact hj5 (nI 1)
set_option maxRecDepth 100000 in
set_option maxHeartbeats 4000000 in
theorem okX1_readFigures {l : Launch} (hl : l.stackTraces = false) {F : Nat} {x0 : Nat} {h : ab_H} {y : (Int32 × ab_H)} (e : fX1_readFigures F x0 h = some y) : ab_Met l mX1_readFigures [.ref x0] h (.inl (some (.int y.1)), y.2) := ab_ofS (io := (fun y : (Int32 × ab_H) => ((.inl (some (.int y.1)), y.2) : ab_R × ab_H))) (x := y) hl (by decide) rfl (Nat.le_of_ble_eq_true rfl) (wX1_readFigures hl F x0 h) e
def mX1_readWed : ab_M := (yX1_readWed, cX1_readWed, 3, none, { frames := 2, cells := 0, slots := 0, locals := 43 })
theorem iX1_readWed : ab_MI mX1_readWed 0 := ⟨kw_fac52efb85, kw_9c5cf83101, by decide +kernel⟩
theorem lk_X1_100_0 : ab_LV RX1 100 0 mX0_goOn 0 := ⟨RX0, rfl, iX0_goOn, kw_d042d3e010, kw_1fb8729816, kw_e22b894205⟩
theorem lk_X1_118_8 : ab_LV RX1 118 8 mX8_canWed 1 := ⟨RX8, rfl, iX8_canWed, kw_0fcf16cbdb, kw_58acdb1b74, kw_f42e340b02⟩
theorem lk_X1_58_1 : ab_LU RX1 58 1 mX10_isRightD 0 := ⟨"HungFaces$DoorReader", "HungFaces$TextReader", ⟨"HungFaces$DoorReader", "isRight", "()Z"⟩, rfl, iX10_isRightD, kw_994849a03c, kw_e77c7a285b, kw_bfebedbedb, kw_d35918f7ae, by decide +kernel, by decide +kernel, by decide +kernel, by decide +kernel⟩
def fX1_readWed (F : Nat) (x0 : Nat) (h : ab_H) : Option ab_H := ab_bd (ab_fr h x0 1 0) fun v1 => ab_ck (ab_io h v1 0 = true) (ab_bd (fX0_goOn v1 h) fun h2 => ab_bd (ab_fr h2 x0 1 0) fun v3 => ab_ck (ab_io h2 v3 0 = true) (ab_bd (fX0_numberHere F v3 h2) fun v4 => ab_bd (ab_fr h2 x0 1 5) fun v5 => ab_ck (ab_io h2 v5 8 = true) (ab_bd (fX8_canWed v5 v4 h2) fun v6 => ab_ck (ab_io h2 x0 1 = true) (ab_bd (fX10_acceptD x0 v6 h2) fun h7 => ab_bd (ab_fr h7 x0 1 0) fun v8 => ab_ck (ab_io h7 v8 0 = true) (ab_bd (fX0_numberHere F v8 h7) fun v9 => ab_bd (ab_fr h7 x0 1 5) fun v10 => ab_ck (ab_io h7 v10 8 = true) (ab_bd (fX8_canWed v10 v9 h7) fun v11 => ab_jn (κ := Int32 → Option ab_H) (fun (z12 : Int32) => ab_ck (ab_io h7 x0 1 = true) (ab_bd (fX10_acceptD x0 z12 h7) fun h13 => ab_ck (ab_io h13 x0 1 = true) (ab_bd (fX10_isRightD x0 h13) fun v14 => (if v14 = 0 then some h13 else ab_bd (ab_fr h13 x0 1 5) fun v16 => ab_bd (ab_fr h13 v16 8 13) fun v17 => ab_bd (ab_iw 0 h13 v17 v4 v9) fun h18 => ab_bd (ab_fr h18 x0 1 5) fun v19 => ab_bd (ab_fr h18 v19 8 13) fun v20 => ab_bd (ab_iw 0 h18 v20 v9 v4) fun h21 => some h21)))) fun j22 => ab_jn (κ := Option ab_H) (j22 (nI 0)) fun j23 => (if v11 = 0 then j23 else (if v9 = v4 then j23 else j22 (nI 1)))))))))
set_option maxRecDepth 100000 in
set_option maxHeartbeats 4000000 in
theorem wX1_readWed {l : Launch} (hl : l.stackTraces = false) (F : Nat) (x0 : Nat) (h : ab_H) : ab_S l mX1_readWed (fun y : ab_H => ((.inl none, y) : ab_R × ab_H)) 0 0 (fX1_readWed F x0 h) 0 [(0, .ref x0)] [] h := by
  unfold fX1_readWed
  refine ab_aload_n (pc := 0) (n := 0) (i := 0) (j := 0) (by decide +kernel) rfl rfl ?_
  refine ab_getR (pc := 1) fl_X1_28_1 (by decide +kernel) (fun v1 ev1 => ?_)
  refine ab_callVw (As := []) (st := []) (pc := 4) lk_X1_100_0 rfl rfl rfl (by decide) rfl (Nat.le_of_ble_eq_true rfl) (by decide +kernel) (fun y9 e9 => okX0_goOn hl e9) (fun h2 eh2 => ?_)
  refine ab_aload_n (pc := 7) (n := 0) (i := 0) (j := 0) (by decide +kernel) rfl rfl ?_
  refine ab_getR (pc := 8) fl_X1_28_1 (by decide +kernel) (fun v3 ev3 => ?_)
  refine ab_callVi (As := []) (st := []) (pc := 11) lk_X1_84_0 rfl rfl rfl (by decide) rfl (Nat.le_of_ble_eq_true rfl) (by decide +kernel) (fun y9 e9 => okX0_numberHere hl (F := F) e9) (fun v4 ev4 => ?_)
  refine ab_istore_n (pc := 14) (n := 1) (i := 1) (lv' := [(0, .ref x0), (1, .int v4)]) (by decide +kernel) rfl (Nat.le_of_ble_eq_true rfl) rfl rfl ?_
  refine ab_aload_n (pc := 15) (n := 0) (i := 0) (j := 0) (by decide +kernel) rfl rfl ?_
  refine ab_aload_n (pc := 16) (n := 0) (i := 0) (j := 0) (by decide +kernel) rfl rfl ?_
  refine ab_getR (pc := 17) fl_X1_19_1 (by decide +kernel) (fun v5 ev5 => ?_)
  refine ab_iload_n (pc := 20) (n := 1) (i := 1) (j := 1) (by decide +kernel) rfl rfl ?_
  refine ab_callVi (As := [.int v4]) (st := [.ref x0]) (pc := 21) lk_X1_118_8 rfl rfl rfl (by decide) rfl (Nat.le_of_ble_eq_true rfl) (by decide +kernel) (fun y9 e9 => okX8_canWed hl e9) (fun v6 ev6 => ?_)
  refine ab_callUw (As := [.int v6]) (st := []) (pc := 24) lk_X1_54_1 rfl rfl rfl (by decide) rfl (Nat.le_of_ble_eq_true rfl) (by decide +kernel) (fun y9 e9 => okX10_acceptD hl e9) (fun h7 eh7 => ?_)
  refine ab_aload_n (pc := 27) (n := 0) (i := 0) (j := 0) (by decide +kernel) rfl rfl ?_
  refine ab_getR (pc := 28) fl_X1_28_1 (by decide +kernel) (fun v8 ev8 => ?_)
  refine ab_callVi (As := []) (st := []) (pc := 31) lk_X1_84_0 rfl rfl rfl (by decide) rfl (Nat.le_of_ble_eq_true rfl) (by decide +kernel) (fun y9 e9 => okX0_numberHere hl (F := F) e9) (fun v9 ev9 => ?_)
  refine ab_istore_n (pc := 34) (n := 2) (i := 2) (lv' := [(0, .ref x0), (1, .int v4), (2, .int v9)]) (by decide +kernel) rfl (Nat.le_of_ble_eq_true rfl) rfl rfl ?_
  refine ab_aload_n (pc := 35) (n := 0) (i := 0) (j := 0) (by decide +kernel) rfl rfl ?_
  refine ab_aload_n (pc := 36) (n := 0) (i := 0) (j := 0) (by decide +kernel) rfl rfl ?_
  refine ab_getR (pc := 37) fl_X1_19_1 (by decide +kernel) (fun v10 ev10 => ?_)
  refine ab_iload_n (pc := 40) (n := 2) (i := 2) (j := 2) (by decide +kernel) rfl rfl ?_
  refine ab_callVi (As := [.int v9]) (st := [.ref x0]) (pc := 41) lk_X1_118_8 rfl rfl rfl (by decide) rfl (Nat.le_of_ble_eq_true rfl) (by decide +kernel) (fun y9 e9 => okX8_canWed hl e9) (fun v11 ev11 => ?_)
  refine ab_jr (fun k9 : Int32 → Option ab_H => ∀ (z12 : Int32), ab_S l mX1_readWed (fun y : ab_H => ((.inl none, y) : ab_R × ab_H)) 0 0 (k9 z12) 57 [(0, .ref x0), (1, .int v4), (2, .int v9)] [.int z12, .ref x0] h7) ?_ (fun j22 hj22 => ?_)
  · intro z12
    refine ab_callUw (As := [.int z12]) (st := []) (pc := 57) lk_X1_54_1 rfl rfl rfl (by decide) rfl (Nat.le_of_ble_eq_true rfl) (by decide +kernel) (fun y9 e9 => okX10_acceptD hl e9) (fun h13 eh13 => ?_)
    refine ab_aload_n (pc := 60) (n := 0) (i := 0) (j := 0) (by decide +kernel) rfl rfl ?_
    refine ab_callUi (As := []) (st := []) (pc := 61) lk_X1_58_1 rfl rfl rfl (by decide) rfl (Nat.le_of_ble_eq_true rfl) (by decide +kernel) (fun y9 e9 => okX10_isRightD hl e9) (fun v14 ev14 => ?_)
    refine ab_if_eq (off := 23) (pc := 64) (tgt := 87) (by decide +kernel) (by decide) (fun g15 => ?_) (fun g15 => ?_)
    · exact ab_vret (pc := 87) (by decide +kernel) rfl rfl (Nat.le_of_ble_eq_true rfl) (Nat.le_of_ble_eq_true rfl)
    · refine ab_aload_n (pc := 67) (n := 0) (i := 0) (j := 0) (by decide +kernel) rfl rfl ?_
      refine ab_getR (pc := 68) fl_X1_19_1 (by decide +kernel) (fun v16 ev16 => ?_)
      refine ab_getR (pc := 71) fl_X1_121_8 (by decide +kernel) (fun v17 ev17 => ?_)
      refine ab_iload_n (pc := 74) (n := 1) (i := 1) (j := 1) (by decide +kernel) rfl rfl ?_
      refine ab_iload_n (pc := 75) (n := 2) (i := 2) (j := 2) (by decide +kernel) rfl rfl ?_
      refine ab_iast (pc := 76) (by decide +kernel) (fun h18 eh18 => ?_)
      refine ab_aload_n (pc := 77) (n := 0) (i := 0) (j := 0) (by decide +kernel) rfl rfl ?_
      refine ab_getR (pc := 78) fl_X1_19_1 (by decide +kernel) (fun v19 ev19 => ?_)
      refine ab_getR (pc := 81) fl_X1_121_8 (by decide +kernel) (fun v20 ev20 => ?_)
      refine ab_iload_n (pc := 84) (n := 2) (i := 2) (j := 2) (by decide +kernel) rfl rfl ?_
      refine ab_iload_n (pc := 85) (n := 1) (i := 1) (j := 1) (by decide +kernel) rfl rfl ?_
      refine ab_iast (pc := 86) (by decide +kernel) (fun h21 eh21 => ?_)
      exact ab_vret (pc := 87) (by decide +kernel) rfl rfl (Nat.le_of_ble_eq_true rfl) (Nat.le_of_ble_eq_true rfl)
  · refine ab_jr (fun k9 : Option ab_H => ab_S l mX1_readWed (fun y : ab_H => ((.inl none, y) : ab_R × ab_H)) 0 0 (k9) 56 [(0, .ref x0), (1, .int v4), (2, .int v9)] [.ref x0] h7) ?_ (fun j23 hj23 => ?_)
    · refine ab_iconst (pc := 56) (n := 0) (v := nI 0) (by decide +kernel) rfl ?_
      exact hj22 (nI 0)
    · refine ab_if_eq (off := 12) (pc := 44) (tgt := 56) (by decide +kernel) (by decide) (fun g24 => ?_) (fun g24 => ?_)
      · exact hj23
      · refine ab_iload_n (pc := 47) (n := 2) (i := 2) (j := 2) (by decide +kernel) rfl rfl ?_
        refine ab_iload_n (pc := 48) (n := 1) (i := 1) (j := 1) (by decide +kernel) rfl rfl ?_
        refine ab_icmp_eq (off := 7) (pc := 49) (tgt := 56) (by decide +kernel) (by decide) (fun g25 => ?_) (fun g25 => ?_)
        · exact hj23
        · refine ab_iconst (pc := 52) (n := 1) (v := nI 1) (by decide +kernel) rfl ?_
          refine ab_goto (pc := 53) (off := 4) (tgt := 57) (by decide +kernel) (by decide) ?_
          exact hj22 (nI 1)
set_option maxRecDepth 100000 in
set_option maxHeartbeats 4000000 in
theorem okX1_readWed {l : Launch} (hl : l.stackTraces = false) {F : Nat} {x0 : Nat} {h : ab_H} {y : ab_H} (e : fX1_readWed F x0 h = some y) : ab_Met l mX1_readWed [.ref x0] h (.inl none, y) := ab_ofS (io := (fun y : ab_H => ((.inl none, y) : ab_R × ab_H))) (x := y) hl (by decide) rfl (Nat.le_of_ble_eq_true rfl) (wX1_readWed hl F x0 h) e
def mX1_readKnows : ab_M := (yX1_readKnows, cX1_readKnows, 5, none, { frames := 3, cells := 0, slots := 0, locals := 66 })
theorem iX1_readKnows : ab_MI mX1_readKnows 0 := ⟨kw_038f604f4a, kw_9c5cf83101, by decide +kernel⟩
theorem lk_X1_103_8 : ab_LV RX1 103 8 mX8_hasPerson 1 := ⟨RX8, rfl, iX8_hasPerson, kw_4c94179ded, kw_1a6b271e78, kw_58b468e312⟩
theorem lk_X1_111_1 : ab_LU RX1 111 1 mX10_isHereD 1 := ⟨"HungFaces$DoorReader", "HungFaces$TextReader", ⟨"HungFaces$DoorReader", "isHere", "(I)Z"⟩, rfl, iX10_isHereD, kw_4c0b5a7454, kw_bf6c965765, kw_9240b532f5, kw_a8b0565896, by decide +kernel, by decide +kernel, by decide +kernel, by decide +kernel⟩
theorem lk_X1_71_1 : ab_LV RX1 71 1 mX1_readNumber 2 := ⟨RX1, rfl, iX1_readNumber, kw_de0aebe4f7, kw_724bba1972, kw_0abd82ceeb⟩
def fX1_readKnows_29 (F : Nat) (x0 : Nat) (x1 : Int32) : Nat → Int32 → Int32 → ab_H → Option ab_H
  | 0, _, _, _ => none
  | n + 1, x2, x3, h => (if x3 < (nI 400) then (if x2 = 0 then some h else ab_bd (ab_fr h x0 1 0) fun v9 => ab_ck (ab_io h v9 0 = true) (ab_bd (fX0_numberHere F v9 h) fun v10 => ab_bd (ab_fr h x0 1 5) fun v11 => ab_ck (ab_io h v11 8 = true) (ab_bd (fX8_hasPerson v11 v10 h) fun v12 => ab_jn (κ := Int32 → Option ab_H) (fun (z13 : Int32) => ab_ck (ab_io h x0 1 = true) (ab_bd (fX10_acceptD x0 z13 h) fun h14 => ab_ck (ab_io h14 x0 1 = true) (ab_bd (fX10_isRightD x0 h14) fun v15 => ab_jn (κ := ab_H → Option ab_H) (fun (h16 : ab_H) => ab_ck (ab_io h16 x0 1 = true) (ab_bd (fX10_isRightD x0 h16) fun v17 => (if v17 = 0 then fX1_readKnows_29 F x0 x1 n (nI 0) (x3 + nI 1) h16 else ab_ck (ab_io h16 x0 1 = true) (ab_bd (fX10_isHereD x0 (nI 256) h16) fun v19 => (if v19 = 0 then fX1_readKnows_29 F x0 x1 n (nI 0) (x3 + nI 1) h16 else fX1_readKnows_29 F x0 x1 n (nI 1) (x3 + nI 1) h16))))) fun j21 => (if v15 = 0 then j21 h14 else ab_bd (ab_fr h14 x0 1 5) fun v23 => ab_bd (ab_fr h14 v23 8 14) fun v24 => ab_bd (ab_ia 0 h14 v24 x1) fun v25 => ab_bd (ab_iw 0 h14 v24 x1 (v25 ||| ((nI 1) <<< (v10 &&& 31)))) fun h26 => j21 h26)))) fun j27 => ab_jn (κ := Option ab_H) (j27 (nI 0)) fun j28 => (if v12 = 0 then j28 else (if v10 = x1 then j28 else j27 (nI 1)))))) else some h)
def fX1_readKnows (F : Nat) (x0 : Nat) (h : ab_H) : Option ab_H := ab_bd (ab_fr h x0 1 0) fun v1 => ab_ck (ab_io h v1 0 = true) (ab_bd (fX0_goOn v1 h) fun h2 => ab_bd (ab_fr h2 x0 1 5) fun v3 => ab_bd (ab_fi h2 v3 8 0) fun v4 => ab_ck (ab_io h2 x0 1 = true) (ab_bd (fX1_readNumber F x0 (nI 0) (v4 - (nI 1)) h2) fun v5 => ab_ck (ab_io v5.2 x0 1 = true) (ab_bd (fX10_isRightD x0 v5.2) fun v6 => fX1_readKnows_29 F x0 v5.1 F v6 (nI 0) v5.2)))
set_option maxRecDepth 100000 in
set_option maxHeartbeats 4000000 in
theorem lX1_readKnows_29 {l : Launch} (hl : l.stackTraces = false) (F : Nat) (x0 : Nat) (x1 : Int32) : ∀ (n : Nat) (x2 : Int32) (x3 : Int32) (h : ab_H), ab_S l mX1_readKnows (fun y : ab_H => ((.inl none, y) : ab_R × ab_H)) 0 0 (fX1_readKnows_29 F x0 x1 n x2 x3 h) 29 [(0, .ref x0), (1, .int x1), (2, .int x2), (3, .int x3)] [] h := by
  intro n
  induction n with
  | zero =>
    intro x2 x3 h
    exact ab_none
  | succ n ih =>
    intro x2 x3 h
    rw [fX1_readKnows_29]
    refine ab_iload_n (pc := 29) (n := 3) (i := 3) (j := 3) (by decide +kernel) rfl rfl ?_
    refine ab_sipush (pc := 30) (n := 400) (v := nI 400) (by decide +kernel) (by decide) ?_
    refine ab_icmp_ge (off := 95) (pc := 33) (tgt := 128) (by decide +kernel) (by decide) (fun g7 => ?_) (fun g7 => ?_)
    · refine ab_iload_n (pc := 36) (n := 2) (i := 2) (j := 2) (by decide +kernel) rfl rfl ?_
      refine ab_if_eq (off := 91) (pc := 37) (tgt := 128) (by decide +kernel) (by decide) (fun g8 => ?_) (fun g8 => ?_)
      · exact ab_vret (pc := 128) (by decide +kernel) rfl rfl (Nat.le_of_ble_eq_true rfl) (Nat.le_of_ble_eq_true rfl)
      · refine ab_aload_n (pc := 40) (n := 0) (i := 0) (j := 0) (by decide +kernel) rfl rfl ?_
        refine ab_getR (pc := 41) fl_X1_28_1 (by decide +kernel) (fun v9 ev9 => ?_)
        refine ab_callVi (As := []) (st := []) (pc := 44) lk_X1_84_0 rfl rfl rfl (by decide) rfl (Nat.le_of_ble_eq_true rfl) (by decide +kernel) (fun y9 e9 => okX0_numberHere hl (F := F) e9) (fun v10 ev10 => ?_)
        refine ab_istore (pc := 47) (i := 4) (lv' := [(0, .ref x0), (1, .int x1), (2, .int x2), (3, .int x3), (4, .int v10)]) (by decide +kernel) (Nat.le_of_ble_eq_true rfl) rfl rfl ?_
        refine ab_aload_n (pc := 49) (n := 0) (i := 0) (j := 0) (by decide +kernel) rfl rfl ?_
        refine ab_aload_n (pc := 50) (n := 0) (i := 0) (j := 0) (by decide +kernel) rfl rfl ?_
        refine ab_getR (pc := 51) fl_X1_19_1 (by decide +kernel) (fun v11 ev11 => ?_)
        refine ab_iload (pc := 54) (i := 4) (j := 4) (by decide +kernel) rfl ?_
        refine ab_callVi (As := [.int v10]) (st := [.ref x0]) (pc := 56) lk_X1_103_8 rfl rfl rfl (by decide) rfl (Nat.le_of_ble_eq_true rfl) (by decide +kernel) (fun y9 e9 => okX8_hasPerson hl e9) (fun v12 ev12 => ?_)
        refine ab_jr (fun k9 : Int32 → Option ab_H => ∀ (z13 : Int32), ab_S l mX1_readKnows (fun y : ab_H => ((.inl none, y) : ab_R × ab_H)) 0 0 (k9 z13) 73 [(0, .ref x0), (1, .int x1), (3, .int x3), (4, .int v10)] [.int z13, .ref x0] h) ?_ (fun j27 hj27 => ?_)
        · intro z13
          refine ab_callUw (As := [.int z13]) (st := []) (pc := 73) lk_X1_54_1 rfl rfl rfl (by decide) rfl (Nat.le_of_ble_eq_true rfl) (by decide +kernel) (fun y9 e9 => okX10_acceptD hl e9) (fun h14 eh14 => ?_)
          refine ab_aload_n (pc := 76) (n := 0) (i := 0) (j := 0) (by decide +kernel) rfl rfl ?_
          refine ab_callUi (As := []) (st := []) (pc := 77) lk_X1_58_1 rfl rfl rfl (by decide) rfl (Nat.le_of_ble_eq_true rfl) (by decide +kernel) (fun y9 e9 => okX10_isRightD hl e9) (fun v15 ev15 => ?_)
          refine ab_jr (fun k9 : ab_H → Option ab_H => ∀ (h16 : ab_H), ab_S l mX1_readKnows (fun y : ab_H => ((.inl none, y) : ab_R × ab_H)) 0 0 (k9 h16) 99 [(0, .ref x0), (1, .int x1), (3, .int x3)] [] h16) ?_ (fun j21 hj21 => ?_)
          · intro h16
            refine ab_aload_n (pc := 99) (n := 0) (i := 0) (j := 0) (by decide +kernel) rfl rfl ?_
            refine ab_callUi (As := []) (st := []) (pc := 100) lk_X1_58_1 rfl rfl rfl (by decide) rfl (Nat.le_of_ble_eq_true rfl) (by decide +kernel) (fun y9 e9 => okX10_isRightD hl e9) (fun v17 ev17 => ?_)
            refine ab_if_eq (off := 17) (pc := 103) (tgt := 120) (by decide +kernel) (by decide) (fun g18 => ?_) (fun g18 => ?_)
            · refine ab_iconst (pc := 120) (n := 0) (v := nI 0) (by decide +kernel) rfl ?_
              refine ab_istore_n (pc := 121) (n := 2) (i := 2) (lv' := [(0, .ref x0), (1, .int x1), (2, .int (nI 0)), (3, .int x3)]) (by decide +kernel) rfl (Nat.le_of_ble_eq_true rfl) rfl rfl ?_
              refine ab_iinc (pc := 122) (i := 3) (n := 1) (j := 3) (d := nI 1) (lv' := [(0, .ref x0), (1, .int x1), (2, .int (nI 0)), (3, .int (x3 + nI 1))]) (by decide +kernel) rfl rfl (Nat.le_of_ble_eq_true rfl) rfl rfl ?_
              refine ab_goto (pc := 125) (off := (-96)) (tgt := 29) (by decide +kernel) (by decide) ?_
              exact ih (nI 0) (x3 + nI 1) h16
            · refine ab_aload_n (pc := 106) (n := 0) (i := 0) (j := 0) (by decide +kernel) rfl rfl ?_
              refine ab_sipush (pc := 107) (n := 256) (v := nI 256) (by decide +kernel) (by decide) ?_
              refine ab_callUi (As := [.int (nI 256)]) (st := []) (pc := 110) lk_X1_111_1 rfl rfl rfl (by decide) rfl (Nat.le_of_ble_eq_true rfl) (by decide +kernel) (fun y9 e9 => okX10_isHereD hl e9) (fun v19 ev19 => ?_)
              refine ab_if_eq (off := 7) (pc := 113) (tgt := 120) (by decide +kernel) (by decide) (fun g20 => ?_) (fun g20 => ?_)
              · refine ab_iconst (pc := 120) (n := 0) (v := nI 0) (by decide +kernel) rfl ?_
                refine ab_istore_n (pc := 121) (n := 2) (i := 2) (lv' := [(0, .ref x0), (1, .int x1), (2, .int (nI 0)), (3, .int x3)]) (by decide +kernel) rfl (Nat.le_of_ble_eq_true rfl) rfl rfl ?_
                refine ab_iinc (pc := 122) (i := 3) (n := 1) (j := 3) (d := nI 1) (lv' := [(0, .ref x0), (1, .int x1), (2, .int (nI 0)), (3, .int (x3 + nI 1))]) (by decide +kernel) rfl rfl (Nat.le_of_ble_eq_true rfl) rfl rfl ?_
                refine ab_goto (pc := 125) (off := (-96)) (tgt := 29) (by decide +kernel) (by decide) ?_
                exact ih (nI 0) (x3 + nI 1) h16
              · refine ab_iconst (pc := 116) (n := 1) (v := nI 1) (by decide +kernel) rfl ?_
                refine ab_goto (pc := 117) (off := 4) (tgt := 121) (by decide +kernel) (by decide) ?_
                refine ab_istore_n (pc := 121) (n := 2) (i := 2) (lv' := [(0, .ref x0), (1, .int x1), (2, .int (nI 1)), (3, .int x3)]) (by decide +kernel) rfl (Nat.le_of_ble_eq_true rfl) rfl rfl ?_
                refine ab_iinc (pc := 122) (i := 3) (n := 1) (j := 3) (d := nI 1) (lv' := [(0, .ref x0), (1, .int x1), (2, .int (nI 1)), (3, .int (x3 + nI 1))]) (by decide +kernel) rfl rfl (Nat.le_of_ble_eq_true rfl) rfl rfl ?_
                refine ab_goto (pc := 125) (off := (-96)) (tgt := 29) (by decide +kernel) (by decide) ?_
                exact ih (nI 1) (x3 + nI 1) h16
          · refine ab_if_eq (off := 19) (pc := 80) (tgt := 99) (by decide +kernel) (by decide) (fun g22 => ?_) (fun g22 => ?_)
            · refine ab_few [0, 1, 2] (lv' := [(0, .ref x0), (1, .int x1), (3, .int x3)]) rfl ?_
              exact hj21 h14
            · refine ab_aload_n (pc := 83) (n := 0) (i := 0) (j := 0) (by decide +kernel) rfl rfl ?_
              refine ab_getR (pc := 84) fl_X1_19_1 (by decide +kernel) (fun v23 ev23 => ?_)
              refine ab_getR (pc := 87) fl_X1_124_8 (by decide +kernel) (fun v24 ev24 => ?_)
              refine ab_iload_n (pc := 90) (n := 1) (i := 1) (j := 1) (by decide +kernel) rfl rfl ?_
              refine ab_dup2 (pc := 91) (by decide +kernel) rfl rfl ?_
              refine ab_iald (pc := 92) (by decide +kernel) (fun v25 ev25 => ?_)
              refine ab_iconst (pc := 93) (n := 1) (v := nI 1) (by decide +kernel) rfl ?_
              refine ab_iload (pc := 94) (i := 4) (j := 3) (by decide +kernel) rfl ?_
              refine ab_ishl (pc := 96) (by decide +kernel) ?_
              refine ab_ior (pc := 97) (by decide +kernel) ?_
              refine ab_iast (pc := 98) (by decide +kernel) (fun h26 eh26 => ?_)
              refine ab_few [0, 1, 2] (lv' := [(0, .ref x0), (1, .int x1), (3, .int x3)]) rfl ?_
              exact hj21 h26
        · refine ab_jr (fun k9 : Option ab_H => ab_S l mX1_readKnows (fun y : ab_H => ((.inl none, y) : ab_R × ab_H)) 0 0 (k9) 72 [(0, .ref x0), (1, .int x1), (3, .int x3), (4, .int v10)] [.ref x0] h) ?_ (fun j28 hj28 => ?_)
          · refine ab_iconst (pc := 72) (n := 0) (v := nI 0) (by decide +kernel) rfl ?_
            exact hj27 (nI 0)
          · refine ab_if_eq (off := 13) (pc := 59) (tgt := 72) (by decide +kernel) (by decide) (fun g29 => ?_) (fun g29 => ?_)
            · refine ab_few [0, 1, 3, 4] (lv' := [(0, .ref x0), (1, .int x1), (3, .int x3), (4, .int v10)]) rfl ?_
              exact hj28
            · refine ab_iload (pc := 62) (i := 4) (j := 4) (by decide +kernel) rfl ?_
              refine ab_iload_n (pc := 64) (n := 1) (i := 1) (j := 1) (by decide +kernel) rfl rfl ?_
              refine ab_icmp_eq (off := 7) (pc := 65) (tgt := 72) (by decide +kernel) (by decide) (fun g30 => ?_) (fun g30 => ?_)
              · refine ab_few [0, 1, 3, 4] (lv' := [(0, .ref x0), (1, .int x1), (3, .int x3), (4, .int v10)]) rfl ?_
                exact hj28
              · refine ab_iconst (pc := 68) (n := 1) (v := nI 1) (by decide +kernel) rfl ?_
                refine ab_goto (pc := 69) (off := 4) (tgt := 73) (by decide +kernel) (by decide) ?_
                refine ab_few [0, 1, 3, 4] (lv' := [(0, .ref x0), (1, .int x1), (3, .int x3), (4, .int v10)]) rfl ?_
                exact hj27 (nI 1)
    · exact ab_vret (pc := 128) (by decide +kernel) rfl rfl (Nat.le_of_ble_eq_true rfl) (Nat.le_of_ble_eq_true rfl)
set_option maxRecDepth 100000 in
set_option maxHeartbeats 4000000 in
theorem wX1_readKnows {l : Launch} (hl : l.stackTraces = false) (F : Nat) (x0 : Nat) (h : ab_H) : ab_S l mX1_readKnows (fun y : ab_H => ((.inl none, y) : ab_R × ab_H)) 0 0 (fX1_readKnows F x0 h) 0 [(0, .ref x0)] [] h := by
  unfold fX1_readKnows
  refine ab_aload_n (pc := 0) (n := 0) (i := 0) (j := 0) (by decide +kernel) rfl rfl ?_
  refine ab_getR (pc := 1) fl_X1_28_1 (by decide +kernel) (fun v1 ev1 => ?_)
  refine ab_callVw (As := []) (st := []) (pc := 4) lk_X1_100_0 rfl rfl rfl (by decide) rfl (Nat.le_of_ble_eq_true rfl) (by decide +kernel) (fun y9 e9 => okX0_goOn hl e9) (fun h2 eh2 => ?_)
  refine ab_aload_n (pc := 7) (n := 0) (i := 0) (j := 0) (by decide +kernel) rfl rfl ?_
  refine ab_iconst (pc := 8) (n := 0) (v := nI 0) (by decide +kernel) rfl ?_
  refine ab_aload_n (pc := 9) (n := 0) (i := 0) (j := 0) (by decide +kernel) rfl rfl ?_
  refine ab_getR (pc := 10) fl_X1_19_1 (by decide +kernel) (fun v3 ev3 => ?_)
  refine ab_getI (pc := 13) fl_X1_90_8 (by decide +kernel) (fun v4 ev4 => ?_)
  refine ab_iconst (pc := 16) (n := 1) (v := nI 1) (by decide +kernel) rfl ?_
  refine ab_isub (pc := 17) (by decide +kernel) ?_
  refine ab_callVj (As := [.int (nI 0), .int (v4 - (nI 1))]) (st := []) (pc := 18) lk_X1_71_1 rfl rfl rfl (by decide) rfl (Nat.le_of_ble_eq_true rfl) (by decide +kernel) (fun y9 e9 => okX1_readNumber hl (F := F) e9) (fun v5 ev5 => ?_)
  refine ab_istore_n (pc := 21) (n := 1) (i := 1) (lv' := [(0, .ref x0), (1, .int v5.1)]) (by decide +kernel) rfl (Nat.le_of_ble_eq_true rfl) rfl rfl ?_
  refine ab_aload_n (pc := 22) (n := 0) (i := 0) (j := 0) (by decide +kernel) rfl rfl ?_
  refine ab_callUi (As := []) (st := []) (pc := 23) lk_X1_58_1 rfl rfl rfl (by decide) rfl (Nat.le_of_ble_eq_true rfl) (by decide +kernel) (fun y9 e9 => okX10_isRightD hl e9) (fun v6 ev6 => ?_)
  refine ab_istore_n (pc := 26) (n := 2) (i := 2) (lv' := [(0, .ref x0), (1, .int v5.1), (2, .int v6)]) (by decide +kernel) rfl (Nat.le_of_ble_eq_true rfl) rfl rfl ?_
  refine ab_iconst (pc := 27) (n := 0) (v := nI 0) (by decide +kernel) rfl ?_
  refine ab_istore_n (pc := 28) (n := 3) (i := 3) (lv' := [(0, .ref x0), (1, .int v5.1), (2, .int v6), (3, .int (nI 0))]) (by decide +kernel) rfl (Nat.le_of_ble_eq_true rfl) rfl rfl ?_
  refine lX1_readKnows_29 hl F x0 v5.1 F v6 (nI 0) v5.2
set_option maxRecDepth 100000 in
set_option maxHeartbeats 4000000 in
theorem okX1_readKnows {l : Launch} (hl : l.stackTraces = false) {F : Nat} {x0 : Nat} {h : ab_H} {y : ab_H} (e : fX1_readKnows F x0 h = some y) : ab_Met l mX1_readKnows [.ref x0] h (.inl none, y) := ab_ofS (io := (fun y : ab_H => ((.inl none, y) : ab_R × ab_H))) (x := y) hl (by decide) rfl (Nat.le_of_ble_eq_true rfl) (wX1_readKnows hl F x0 h) e
def mX3_init : ab_M := (yX3_init, cX3_init, 2, none, { frames := 2, cells := 1, slots := 400, locals := 42 })
theorem iX3_init : ab_MI mX3_init 1 := ⟨kw_82cc971c6b, kw_c1639047af, by decide +kernel⟩
def fX3_init (x0 : Nat) (x1 : Nat) (h : ab_H) : Option ab_H := ab_bd (fX10_initL x0 x1 (nI 12) h) fun h1 => ab_bd (ab_na 0 400 h1 (nI 400)) fun h2 => ab_bd (ab_fw h2 x0 3 4 (.ref h1.1)) fun h3 => some h3
set_option maxRecDepth 100000 in
set_option maxHeartbeats 4000000 in
theorem wX3_init {l : Launch} (hl : l.stackTraces = false) (x0 : Nat) (x1 : Nat) (h : ab_H) : ab_S l mX3_init (fun y : ab_H => ((.inl none, y) : ab_R × ab_H)) 0 0 (fX3_init x0 x1 h) 0 [(0, .ref x0), (1, .ref x1)] [] h := by
  unfold fX3_init
  refine ab_aload_n (pc := 0) (n := 0) (i := 0) (j := 0) (by decide +kernel) rfl rfl ?_
  refine ab_aload_n (pc := 1) (n := 1) (i := 1) (j := 1) (by decide +kernel) rfl rfl ?_
  refine ab_bipush (pc := 2) (n := 12) (v := nI 12) (by decide +kernel) (by decide) ?_
  refine ab_callI (M' := mX10_initL) (As := [.ref x1, .int (nI 12)]) (st := []) (pc := 4) (index := 3) iX10_initL (Or.inl kw_1854f0df33) kw_5cf7b5f4c3 rfl rfl rfl (by decide) rfl (Nat.le_of_ble_eq_true rfl) (by decide +kernel) (fun y9 e9 => okX10_initL hl e9) (fun h1 eh1 => ?_)
  refine ab_aload_n (pc := 7) (n := 0) (i := 0) (j := 0) (by decide +kernel) rfl rfl ?_
  refine ab_sipush (pc := 8) (n := 400) (v := nI 400) (by decide +kernel) (by decide) ?_
  refine ab_naI (pc := 11) (B := 400) kw_b5d2f4680e (by decide) (Nat.le_of_ble_eq_true rfl) (Nat.le_of_ble_eq_true rfl) (by decide +kernel) (fun h2 eh2 => ?_)
  refine ab_putF (pc := 13) fl_X3_9_3 rfl rfl (fun _ => rfl) (fun _ => rfl) (by decide +kernel) (fun h3 eh3 => ?_)
  exact ab_vret (pc := 16) (by decide +kernel) rfl rfl (Nat.le_of_ble_eq_true rfl) (Nat.le_of_ble_eq_true rfl)
set_option maxRecDepth 100000 in
set_option maxHeartbeats 4000000 in
theorem okX3_init {l : Launch} (hl : l.stackTraces = false) {x0 : Nat} {x1 : Nat} {h : ab_H} {y : ab_H} (e : fX3_init x0 x1 h = some y) : ab_Met l mX3_init [.ref x0, .ref x1] h (.inl none, y) := ab_ofS (io := (fun y : ab_H => ((.inl none, y) : ab_R × ab_H))) (x := y) hl (by decide) rfl (Nat.le_of_ble_eq_true rfl) (wX3_init hl x0 x1 h) e
def mX3_readSum : ab_M := (yX3_readSum, cX3_readSum, 5, none, { frames := 2, cells := 0, slots := 0, locals := 43 })
theorem iX3_readSum : ab_MI mX3_readSum 0 := ⟨kw_561617c722, kw_c1639047af, by decide +kernel⟩
theorem lk_X3_23_0 : ab_LV RX3 23 0 mX0_kindHere 0 := ⟨RX0, rfl, iX0_kindHere, kw_68c9891701, kw_8205f23004, kw_455e2d1259⟩
theorem lk_X3_29_3 : ab_LU RX3 29 3 mX10_acceptL 1 := ⟨"HungFaces$LawReader", "HungFaces$TextReader", ⟨"HungFaces$LawReader", "accept", "(Z)V"⟩, rfl, iX10_acceptL, kw_28beaa0564, kw_4873b1cda7, kw_eb4c2f4eb0, kw_3200b46021, by decide +kernel, by decide +kernel, by decide +kernel, by decide +kernel⟩
theorem lk_X3_33_3 : ab_LU RX3 33 3 mX10_isRightL 0 := ⟨"HungFaces$LawReader", "HungFaces$TextReader", ⟨"HungFaces$LawReader", "isRight", "()Z"⟩, rfl, iX10_isRightL, kw_61cf872c46, kw_d47633671a, kw_bfebedbedb, kw_b93c2e3d47, by decide +kernel, by decide +kernel, by decide +kernel, by decide +kernel⟩
theorem lk_X3_37_3 : ab_LU RX3 37 3 mX10_isHereL 1 := ⟨"HungFaces$LawReader", "HungFaces$TextReader", ⟨"HungFaces$LawReader", "isHere", "(I)Z"⟩, rfl, iX10_isHereL, kw_96db8f6ce3, kw_66500deaa5, kw_9240b532f5, kw_c6473eefd5, by decide +kernel, by decide +kernel, by decide +kernel, by decide +kernel⟩
theorem lk_X3_41_0 : ab_LV RX3 41 0 mX0_goOn 0 := ⟨RX0, rfl, iX0_goOn, kw_6b1fe0f78f, kw_1fb8729816, kw_e22b894205⟩
theorem lk_X3_49_3 : ab_LV RX3 49 3 mX3_emit 1 := ⟨RX3, rfl, iX3_emit, kw_ca08972f62, kw_4243a32eb7, kw_4ff21f2d08⟩
theorem lk_X3_70_0 : ab_LV RX3 70 0 mX0_numberHere 0 := ⟨RX0, rfl, iX0_numberHere, kw_637bc9ee0b, kw_467487164e, kw_119fd82199⟩
def fX3_readSum_7 (F : Nat) (x0 : Nat) : Nat → Int32 → Int32 → ab_H → Option ab_H
  | 0, _, _, _ => none
  | n + 1, x1, x2, h => (if x2 < (nI 400) then (if x1 = 0 then some h else ab_bd (ab_fr h x0 3 0) fun v4 => ab_ck (ab_io h v4 0 = true) (ab_bd (fX0_kindHere v4 h) fun v5 => ab_jn (κ := Int32 → Option ab_H) (fun (z6 : Int32) => ab_jn (κ := Int32 → Option ab_H) (fun (z7 : Int32) => ab_ck (ab_io h x0 3 = true) (ab_bd (fX10_acceptL x0 z7 h) fun h8 => ab_ck (ab_io h8 x0 3 = true) (ab_bd (fX3_emit x0 z6 h8) fun h9 => ab_jn (κ := ab_H → Option ab_H) (fun (h10 : ab_H) => ab_ck (ab_io h10 x0 3 = true) (ab_bd (fX10_isRightL x0 h10) fun v11 => ab_jn (κ := Int32 → Option ab_H) (fun (z12 : Int32) => (if z12 = 0 then fX3_readSum_7 F x0 n z12 (x2 + nI 1) h10 else ab_bd (ab_fr h10 x0 3 0) fun v14 => ab_ck (ab_io h10 v14 0 = true) (ab_bd (fX0_goOn v14 h10) fun h15 => fX3_readSum_7 F x0 n z12 (x2 + nI 1) h15))) fun j16 => ab_jn (κ := Option ab_H) (j16 (nI 0)) fun j17 => (if v11 = 0 then j17 else ab_ck (ab_io h10 x0 3 = true) (ab_bd (fX10_isHereL x0 (nI 43) h10) fun v19 => (if v19 = 0 then j17 else j16 (nI 1)))))) fun j21 => (if x2 ≤ 0 then j21 h9 else ab_ck (ab_io h9 x0 3 = true) (ab_bd (fX3_emit x0 (nI 1100) h9) fun h23 => j21 h23))))) fun j24 => (if z6 = (-1 : Int32) then j24 (nI 0) else j24 (nI 1))) fun j26 => ab_jn (κ := Option ab_H) (ab_bd (ab_fr h x0 3 0) fun v27 => ab_ck (ab_io h v27 0 = true) (ab_bd (fX0_numberHere F v27 h) fun v28 => j26 v28)) fun j29 => (if v5 < (nI 1014) then j29 else (if v5 ≤ (nI 1019) then j26 v5 else j29)))) else some h)
def fX3_readSum (F : Nat) (x0 : Nat) (h : ab_H) : Option ab_H := ab_ck (ab_io h x0 3 = true) (ab_bd (fX10_isRightL x0 h) fun v1 => fX3_readSum_7 F x0 F v1 (nI 0) h)
set_option maxRecDepth 100000 in
set_option maxHeartbeats 4000000 in
theorem lX3_readSum_7 {l : Launch} (hl : l.stackTraces = false) (F : Nat) (x0 : Nat) : ∀ (n : Nat) (x1 : Int32) (x2 : Int32) (h : ab_H), ab_S l mX3_readSum (fun y : ab_H => ((.inl none, y) : ab_R × ab_H)) 0 0 (fX3_readSum_7 F x0 n x1 x2 h) 7 [(0, .ref x0), (1, .int x1), (2, .int x2)] [] h := by
  intro n
  induction n with
  | zero =>
    intro x1 x2 h
    exact ab_none
  | succ n ih =>
    intro x1 x2 h
    rw [fX3_readSum_7]
    refine ab_iload_n (pc := 7) (n := 2) (i := 2) (j := 2) (by decide +kernel) rfl rfl ?_
    refine ab_sipush (pc := 8) (n := 400) (v := nI 400) (by decide +kernel) (by decide) ?_
    refine ab_icmp_ge (off := 113) (pc := 11) (tgt := 124) (by decide +kernel) (by decide) (fun g2 => ?_) (fun g2 => ?_)
    · refine ab_iload_n (pc := 14) (n := 1) (i := 1) (j := 1) (by decide +kernel) rfl rfl ?_
      refine ab_if_eq (off := 109) (pc := 15) (tgt := 124) (by decide +kernel) (by decide) (fun g3 => ?_) (fun g3 => ?_)
      · exact ab_vret (pc := 124) (by decide +kernel) rfl rfl (Nat.le_of_ble_eq_true rfl) (Nat.le_of_ble_eq_true rfl)
      · refine ab_aload_n (pc := 18) (n := 0) (i := 0) (j := 0) (by decide +kernel) rfl rfl ?_
        refine ab_getR (pc := 19) fl_X3_19_3 (by decide +kernel) (fun v4 ev4 => ?_)
        refine ab_callVi (As := []) (st := []) (pc := 22) lk_X3_23_0 rfl rfl rfl (by decide) rfl (Nat.le_of_ble_eq_true rfl) (by decide +kernel) (fun y9 e9 => okX0_kindHere hl e9) (fun v5 ev5 => ?_)
        refine ab_istore_n (pc := 25) (n := 3) (i := 3) (lv' := [(0, .ref x0), (1, .int x1), (2, .int x2), (3, .int v5)]) (by decide +kernel) rfl (Nat.le_of_ble_eq_true rfl) rfl rfl ?_
        refine ab_iload_n (pc := 26) (n := 3) (i := 3) (j := 3) (by decide +kernel) rfl rfl ?_
        refine ab_sipush (pc := 27) (n := 1014) (v := nI 1014) (by decide +kernel) (by decide) ?_
        refine ab_jr (fun k9 : Int32 → Option ab_H => ∀ (z6 : Int32), ab_S l mX3_readSum (fun y : ab_H => ((.inl none, y) : ab_R × ab_H)) 0 0 (k9 z6) 51 [(0, .ref x0), (2, .int x2)] [.int z6] h) ?_ (fun j26 hj26 => ?_)
        · intro z6
          refine ab_istore (pc := 51) (i := 4) (lv' := [(0, .ref x0), (2, .int x2), (4, .int z6)]) (by decide +kernel) (Nat.le_of_ble_eq_true rfl) rfl rfl ?_
          refine ab_aload_n (pc := 53) (n := 0) (i := 0) (j := 0) (by decide +kernel) rfl rfl ?_
          refine ab_iload (pc := 54) (i := 4) (j := 2) (by decide +kernel) rfl ?_
          refine ab_iconst (pc := 56) (n := -1) (v := (-1 : Int32)) (by decide +kernel) rfl ?_
          refine ab_jr (fun k9 : Int32 → Option ab_H => ∀ (z7 : Int32), ab_S l mX3_readSum (fun y : ab_H => ((.inl none, y) : ab_R × ab_H)) 0 0 (k9 z7) 65 [(0, .ref x0), (2, .int x2), (4, .int z6)] [.int z7, .ref x0] h) ?_ (fun j24 hj24 => ?_)
          · intro z7
            refine ab_callUw (As := [.int z7]) (st := []) (pc := 65) lk_X3_29_3 rfl rfl rfl (by decide) rfl (Nat.le_of_ble_eq_true rfl) (by decide +kernel) (fun y9 e9 => okX10_acceptL hl e9) (fun h8 eh8 => ?_)
            refine ab_aload_n (pc := 68) (n := 0) (i := 0) (j := 0) (by decide +kernel) rfl rfl ?_
            refine ab_iload (pc := 69) (i := 4) (j := 2) (by decide +kernel) rfl ?_
            refine ab_callVw (As := [.int z6]) (st := []) (pc := 71) lk_X3_49_3 rfl rfl rfl (by decide) rfl (Nat.le_of_ble_eq_true rfl) (by decide +kernel) (fun y9 e9 => okX3_emit hl e9) (fun h9 eh9 => ?_)
            refine ab_iload_n (pc := 74) (n := 2) (i := 2) (j := 1) (by decide +kernel) rfl rfl ?_
            refine ab_jr (fun k9 : ab_H → Option ab_H => ∀ (h10 : ab_H), ab_S l mX3_readSum (fun y : ab_H => ((.inl none, y) : ab_R × ab_H)) 0 0 (k9 h10) 85 [(0, .ref x0), (2, .int x2)] [] h10) ?_ (fun j21 hj21 => ?_)
            · intro h10
              refine ab_aload_n (pc := 85) (n := 0) (i := 0) (j := 0) (by decide +kernel) rfl rfl ?_
              refine ab_callUi (As := []) (st := []) (pc := 86) lk_X3_33_3 rfl rfl rfl (by decide) rfl (Nat.le_of_ble_eq_true rfl) (by decide +kernel) (fun y9 e9 => okX10_isRightL hl e9) (fun v11 ev11 => ?_)
              refine ab_jr (fun k9 : Int32 → Option ab_H => ∀ (z12 : Int32), ab_S l mX3_readSum (fun y : ab_H => ((.inl none, y) : ab_R × ab_H)) 0 0 (k9 z12) 106 [(0, .ref x0), (2, .int x2)] [.int z12] h10) ?_ (fun j16 hj16 => ?_)
              · intro z12
                refine ab_istore_n (pc := 106) (n := 1) (i := 1) (lv' := [(0, .ref x0), (1, .int z12), (2, .int x2)]) (by decide +kernel) rfl (Nat.le_of_ble_eq_true rfl) rfl rfl ?_
                refine ab_iload_n (pc := 107) (n := 1) (i := 1) (j := 1) (by decide +kernel) rfl rfl ?_
                refine ab_if_eq (off := 10) (pc := 108) (tgt := 118) (by decide +kernel) (by decide) (fun g13 => ?_) (fun g13 => ?_)
                · refine ab_iinc (pc := 118) (i := 2) (n := 1) (j := 2) (d := nI 1) (lv' := [(0, .ref x0), (1, .int z12), (2, .int (x2 + nI 1))]) (by decide +kernel) rfl rfl (Nat.le_of_ble_eq_true rfl) rfl rfl ?_
                  refine ab_goto (pc := 121) (off := (-114)) (tgt := 7) (by decide +kernel) (by decide) ?_
                  exact ih z12 (x2 + nI 1) h10
                · refine ab_aload_n (pc := 111) (n := 0) (i := 0) (j := 0) (by decide +kernel) rfl rfl ?_
                  refine ab_getR (pc := 112) fl_X3_19_3 (by decide +kernel) (fun v14 ev14 => ?_)
                  refine ab_callVw (As := []) (st := []) (pc := 115) lk_X3_41_0 rfl rfl rfl (by decide) rfl (Nat.le_of_ble_eq_true rfl) (by decide +kernel) (fun y9 e9 => okX0_goOn hl e9) (fun h15 eh15 => ?_)
                  refine ab_iinc (pc := 118) (i := 2) (n := 1) (j := 2) (d := nI 1) (lv' := [(0, .ref x0), (1, .int z12), (2, .int (x2 + nI 1))]) (by decide +kernel) rfl rfl (Nat.le_of_ble_eq_true rfl) rfl rfl ?_
                  refine ab_goto (pc := 121) (off := (-114)) (tgt := 7) (by decide +kernel) (by decide) ?_
                  exact ih z12 (x2 + nI 1) h15
              · refine ab_jr (fun k9 : Option ab_H => ab_S l mX3_readSum (fun y : ab_H => ((.inl none, y) : ab_R × ab_H)) 0 0 (k9) 105 [(0, .ref x0), (2, .int x2)] [] h10) ?_ (fun j17 hj17 => ?_)
                · refine ab_iconst (pc := 105) (n := 0) (v := nI 0) (by decide +kernel) rfl ?_
                  exact hj16 (nI 0)
                · refine ab_if_eq (off := 16) (pc := 89) (tgt := 105) (by decide +kernel) (by decide) (fun g18 => ?_) (fun g18 => ?_)
                  · exact hj17
                  · refine ab_aload_n (pc := 92) (n := 0) (i := 0) (j := 0) (by decide +kernel) rfl rfl ?_
                    refine ab_bipush (pc := 93) (n := 43) (v := nI 43) (by decide +kernel) (by decide) ?_
                    refine ab_callUi (As := [.int (nI 43)]) (st := []) (pc := 95) lk_X3_37_3 rfl rfl rfl (by decide) rfl (Nat.le_of_ble_eq_true rfl) (by decide +kernel) (fun y9 e9 => okX10_isHereL hl e9) (fun v19 ev19 => ?_)
                    refine ab_if_eq (off := 7) (pc := 98) (tgt := 105) (by decide +kernel) (by decide) (fun g20 => ?_) (fun g20 => ?_)
                    · exact hj17
                    · refine ab_iconst (pc := 101) (n := 1) (v := nI 1) (by decide +kernel) rfl ?_
                      refine ab_goto (pc := 102) (off := 4) (tgt := 106) (by decide +kernel) (by decide) ?_
                      exact hj16 (nI 1)
            · refine ab_if_le (off := 10) (pc := 75) (tgt := 85) (by decide +kernel) (by decide) (fun g22 => ?_) (fun g22 => ?_)
              · refine ab_few [0, 1] (lv' := [(0, .ref x0), (2, .int x2)]) rfl ?_
                exact hj21 h9
              · refine ab_aload_n (pc := 78) (n := 0) (i := 0) (j := 0) (by decide +kernel) rfl rfl ?_
                refine ab_sipush (pc := 79) (n := 1100) (v := nI 1100) (by decide +kernel) (by decide) ?_
                refine ab_callVw (As := [.int (nI 1100)]) (st := []) (pc := 82) lk_X3_49_3 rfl rfl rfl (by decide) rfl (Nat.le_of_ble_eq_true rfl) (by decide +kernel) (fun y9 e9 => okX3_emit hl e9) (fun h23 eh23 => ?_)
                refine ab_few [0, 1] (lv' := [(0, .ref x0), (2, .int x2)]) rfl ?_
                exact hj21 h23
          · refine ab_icmp_eq (off := 7) (pc := 57) (tgt := 64) (by decide +kernel) (by decide) (fun g25 => ?_) (fun g25 => ?_)
            · refine ab_iconst (pc := 64) (n := 0) (v := nI 0) (by decide +kernel) rfl ?_
              exact hj24 (nI 0)
            · refine ab_iconst (pc := 60) (n := 1) (v := nI 1) (by decide +kernel) rfl ?_
              refine ab_goto (pc := 61) (off := 4) (tgt := 65) (by decide +kernel) (by decide) ?_
              exact hj24 (nI 1)
        · refine ab_jr (fun k9 : Option ab_H => ab_S l mX3_readSum (fun y : ab_H => ((.inl none, y) : ab_R × ab_H)) 0 0 (k9) 44 [(0, .ref x0), (2, .int x2)] [] h) ?_ (fun j29 hj29 => ?_)
          · refine ab_aload_n (pc := 44) (n := 0) (i := 0) (j := 0) (by decide +kernel) rfl rfl ?_
            refine ab_getR (pc := 45) fl_X3_19_3 (by decide +kernel) (fun v27 ev27 => ?_)
            refine ab_callVi (As := []) (st := []) (pc := 48) lk_X3_70_0 rfl rfl rfl (by decide) rfl (Nat.le_of_ble_eq_true rfl) (by decide +kernel) (fun y9 e9 => okX0_numberHere hl (F := F) e9) (fun v28 ev28 => ?_)
            exact hj26 v28
          · refine ab_icmp_lt (off := 14) (pc := 30) (tgt := 44) (by decide +kernel) (by decide) (fun g30 => ?_) (fun g30 => ?_)
            · refine ab_few [0, 2] (lv' := [(0, .ref x0), (2, .int x2)]) rfl ?_
              exact hj29
            · refine ab_iload_n (pc := 33) (n := 3) (i := 3) (j := 3) (by decide +kernel) rfl rfl ?_
              refine ab_sipush (pc := 34) (n := 1019) (v := nI 1019) (by decide +kernel) (by decide) ?_
              refine ab_icmp_gt (off := 7) (pc := 37) (tgt := 44) (by decide +kernel) (by decide) (fun g31 => ?_) (fun g31 => ?_)
              · refine ab_iload_n (pc := 40) (n := 3) (i := 3) (j := 3) (by decide +kernel) rfl rfl ?_
                refine ab_goto (pc := 41) (off := 10) (tgt := 51) (by decide +kernel) (by decide) ?_
                refine ab_few [0, 2] (lv' := [(0, .ref x0), (2, .int x2)]) rfl ?_
                exact hj26 v5
              · refine ab_few [0, 2] (lv' := [(0, .ref x0), (2, .int x2)]) rfl ?_
                exact hj29
    · exact ab_vret (pc := 124) (by decide +kernel) rfl rfl (Nat.le_of_ble_eq_true rfl) (Nat.le_of_ble_eq_true rfl)
set_option maxRecDepth 100000 in
set_option maxHeartbeats 4000000 in
theorem wX3_readSum {l : Launch} (hl : l.stackTraces = false) (F : Nat) (x0 : Nat) (h : ab_H) : ab_S l mX3_readSum (fun y : ab_H => ((.inl none, y) : ab_R × ab_H)) 0 0 (fX3_readSum F x0 h) 0 [(0, .ref x0)] [] h := by
  unfold fX3_readSum
  refine ab_aload_n (pc := 0) (n := 0) (i := 0) (j := 0) (by decide +kernel) rfl rfl ?_
  refine ab_callUi (As := []) (st := []) (pc := 1) lk_X3_33_3 rfl rfl rfl (by decide) rfl (Nat.le_of_ble_eq_true rfl) (by decide +kernel) (fun y9 e9 => okX10_isRightL hl e9) (fun v1 ev1 => ?_)
  refine ab_istore_n (pc := 4) (n := 1) (i := 1) (lv' := [(0, .ref x0), (1, .int v1)]) (by decide +kernel) rfl (Nat.le_of_ble_eq_true rfl) rfl rfl ?_
  refine ab_iconst (pc := 5) (n := 0) (v := nI 0) (by decide +kernel) rfl ?_
  refine ab_istore_n (pc := 6) (n := 2) (i := 2) (lv' := [(0, .ref x0), (1, .int v1), (2, .int (nI 0))]) (by decide +kernel) rfl (Nat.le_of_ble_eq_true rfl) rfl rfl ?_
  refine lX3_readSum_7 hl F x0 F v1 (nI 0) h
set_option maxRecDepth 100000 in
set_option maxHeartbeats 4000000 in
theorem okX3_readSum {l : Launch} (hl : l.stackTraces = false) {F : Nat} {x0 : Nat} {h : ab_H} {y : ab_H} (e : fX3_readSum F x0 h = some y) : ab_Met l mX3_readSum [.ref x0] h (.inl none, y) := ab_ofS (io := (fun y : ab_H => ((.inl none, y) : ab_R × ab_H))) (x := y) hl (by decide) rfl (Nat.le_of_ble_eq_true rfl) (wX3_readSum hl F x0 h) e
def mX5_bringerOfDearest : ab_M := (yX5_bringerOfDearest, cX5_bringerOfDearest, 5, (some .int), { frames := 1, cells := 0, slots := 0, locals := 22 })
theorem iX5_bringerOfDearest : ab_MI mX5_bringerOfDearest 3 := ⟨kw_9dffdf74a2, kw_c0673d947a, by decide +kernel⟩
theorem lk_X5_52_8 : ab_LV RX5 52 8 mX8_wearerOf 1 := ⟨RX8, rfl, iX8_wearerOf, kw_dd95f7d7ee, kw_0deb8a4514, kw_de2ddc2a66⟩
def fX5_bringerOfDearest_2 (F : Nat) (x0 : Nat) (x1 : Int32) (x2 : Int32) (h : ab_H) : Nat → Int32 → Option Int32
  | 0, _ => none
  | n + 1, x3 => ab_bd (ab_fi h x0 8 0) fun v1 => (if x3 < v1 then ab_bd (ab_fr h x0 8 16) fun v3 => ab_bd (ab_ia 0 h v3 ((x1 * (nI 10)) + x3)) fun v4 => ab_ck (ab_io h x0 8 = true) (ab_bd (fX8_wearerOf F x0 v4 h) fun v5 => (if v5 = (-1 : Int32) then fX5_bringerOfDearest_2 F x0 x1 x2 h n (x3 + nI 1) else ab_bd (fX11_has x2 v5 h) fun v7 => (if v7 = 0 then fX5_bringerOfDearest_2 F x0 x1 x2 h n (x3 + nI 1) else some v5))) else some x1)
def fX5_bringerOfDearest (F : Nat) (x0 : Nat) (x1 : Int32) (x2 : Int32) (h : ab_H) : Option Int32 := fX5_bringerOfDearest_2 F x0 x1 x2 h F (nI 0)
set_option maxRecDepth 100000 in
set_option maxHeartbeats 4000000 in
theorem lX5_bringerOfDearest_2 {l : Launch} (hl : l.stackTraces = false) (F : Nat) (x0 : Nat) (x1 : Int32) (x2 : Int32) (h : ab_H) : ∀ (n : Nat) (x3 : Int32), ab_S l mX5_bringerOfDearest (fun y : Int32 => ((.inl (some (.int y)), h) : ab_R × ab_H)) 0 0 (fX5_bringerOfDearest_2 F x0 x1 x2 h n x3) 2 [(0, .ref x0), (1, .int x1), (2, .int x2), (3, .int x3)] [] h := by
  intro n
  induction n with
  | zero =>
    intro x3
    exact ab_none
  | succ n ih =>
    intro x3
    rw [fX5_bringerOfDearest_2]
    refine ab_iload_n (pc := 2) (n := 3) (i := 3) (j := 3) (by decide +kernel) rfl rfl ?_
    refine ab_aload_n (pc := 3) (n := 0) (i := 0) (j := 0) (by decide +kernel) rfl rfl ?_
    refine ab_getI (pc := 4) fl_X5_24_8 (by decide +kernel) (fun v1 ev1 => ?_)
    refine ab_icmp_ge (off := 44) (pc := 7) (tgt := 51) (by decide +kernel) (by decide) (fun g2 => ?_) (fun g2 => ?_)
    · refine ab_aload_n (pc := 10) (n := 0) (i := 0) (j := 0) (by decide +kernel) rfl rfl ?_
      refine ab_aload_n (pc := 11) (n := 0) (i := 0) (j := 0) (by decide +kernel) rfl rfl ?_
      refine ab_getR (pc := 12) fl_X5_49_8 (by decide +kernel) (fun v3 ev3 => ?_)
      refine ab_iload_n (pc := 15) (n := 1) (i := 1) (j := 1) (by decide +kernel) rfl rfl ?_
      refine ab_bipush (pc := 16) (n := 10) (v := nI 10) (by decide +kernel) (by decide) ?_
      refine ab_imul (pc := 18) (by decide +kernel) ?_
      refine ab_iload_n (pc := 19) (n := 3) (i := 3) (j := 3) (by decide +kernel) rfl rfl ?_
      refine ab_iadd (pc := 20) (by decide +kernel) ?_
      refine ab_iald (pc := 21) (by decide +kernel) (fun v4 ev4 => ?_)
      refine ab_callVi (As := [.int v4]) (st := []) (pc := 22) lk_X5_52_8 rfl rfl rfl (by decide) rfl (Nat.le_of_ble_eq_true rfl) (by decide +kernel) (fun y9 e9 => okX8_wearerOf hl (F := F) e9) (fun v5 ev5 => ?_)
      refine ab_istore (pc := 25) (i := 4) (lv' := [(0, .ref x0), (1, .int x1), (2, .int x2), (3, .int x3), (4, .int v5)]) (by decide +kernel) (Nat.le_of_ble_eq_true rfl) rfl rfl ?_
      refine ab_iload (pc := 27) (i := 4) (j := 4) (by decide +kernel) rfl ?_
      refine ab_iconst (pc := 29) (n := -1) (v := (-1 : Int32)) (by decide +kernel) rfl ?_
      refine ab_icmp_eq (off := 15) (pc := 30) (tgt := 45) (by decide +kernel) (by decide) (fun g6 => ?_) (fun g6 => ?_)
      · refine ab_iinc (pc := 45) (i := 3) (n := 1) (j := 3) (d := nI 1) (lv' := [(0, .ref x0), (1, .int x1), (2, .int x2), (3, .int (x3 + nI 1)), (4, .int v5)]) (by decide +kernel) rfl rfl (Nat.le_of_ble_eq_true rfl) rfl rfl ?_
        refine ab_goto (pc := 48) (off := (-46)) (tgt := 2) (by decide +kernel) (by decide) ?_
        refine ab_few [0, 1, 2, 3] (lv' := [(0, .ref x0), (1, .int x1), (2, .int x2), (3, .int (x3 + nI 1))]) rfl ?_
        exact ih (x3 + nI 1)
      · refine ab_iload_n (pc := 33) (n := 2) (i := 2) (j := 2) (by decide +kernel) rfl rfl ?_
        refine ab_iload (pc := 34) (i := 4) (j := 4) (by decide +kernel) rfl ?_
        refine ab_callNi (As := [.int x2, .int v5]) (st := []) (pc := 36) (index := 41) (host := "HungFaces") iX11_has (by show (RX5, 41, yX11_has, "HungFaces") ∈ ab_nm; decide +kernel) kw_b5c7c9a43d rfl rfl rfl (by decide) rfl (Nat.le_of_ble_eq_true rfl) (by decide +kernel) (fun y9 e9 => okX11_has hl e9) (fun v7 ev7 => ?_)
        refine ab_if_eq (off := 6) (pc := 39) (tgt := 45) (by decide +kernel) (by decide) (fun g8 => ?_) (fun g8 => ?_)
        · refine ab_iinc (pc := 45) (i := 3) (n := 1) (j := 3) (d := nI 1) (lv' := [(0, .ref x0), (1, .int x1), (2, .int x2), (3, .int (x3 + nI 1)), (4, .int v5)]) (by decide +kernel) rfl rfl (Nat.le_of_ble_eq_true rfl) rfl rfl ?_
          refine ab_goto (pc := 48) (off := (-46)) (tgt := 2) (by decide +kernel) (by decide) ?_
          refine ab_few [0, 1, 2, 3] (lv' := [(0, .ref x0), (1, .int x1), (2, .int x2), (3, .int (x3 + nI 1))]) rfl ?_
          exact ih (x3 + nI 1)
        · refine ab_iload (pc := 42) (i := 4) (j := 4) (by decide +kernel) rfl ?_
          exact ab_iret (pc := 44) (by decide +kernel) rfl rfl (Nat.le_of_ble_eq_true rfl) (Nat.le_of_ble_eq_true rfl)
    · refine ab_iload_n (pc := 51) (n := 1) (i := 1) (j := 1) (by decide +kernel) rfl rfl ?_
      exact ab_iret (pc := 52) (by decide +kernel) rfl rfl (Nat.le_of_ble_eq_true rfl) (Nat.le_of_ble_eq_true rfl)
set_option maxRecDepth 100000 in
set_option maxHeartbeats 4000000 in
theorem wX5_bringerOfDearest {l : Launch} (hl : l.stackTraces = false) (F : Nat) (x0 : Nat) (x1 : Int32) (x2 : Int32) (h : ab_H) : ab_S l mX5_bringerOfDearest (fun y : Int32 => ((.inl (some (.int y)), h) : ab_R × ab_H)) 0 0 (fX5_bringerOfDearest F x0 x1 x2 h) 0 [(0, .ref x0), (1, .int x1), (2, .int x2)] [] h := by
  unfold fX5_bringerOfDearest
  refine ab_iconst (pc := 0) (n := 0) (v := nI 0) (by decide +kernel) rfl ?_
  refine ab_istore_n (pc := 1) (n := 3) (i := 3) (lv' := [(0, .ref x0), (1, .int x1), (2, .int x2), (3, .int (nI 0))]) (by decide +kernel) rfl (Nat.le_of_ble_eq_true rfl) rfl rfl ?_
  refine lX5_bringerOfDearest_2 hl F x0 x1 x2 h F (nI 0)
set_option maxRecDepth 100000 in
set_option maxHeartbeats 4000000 in
theorem okX5_bringerOfDearest {l : Launch} (hl : l.stackTraces = false) {F : Nat} {x0 : Nat} {x1 : Int32} {x2 : Int32} {h : ab_H} {y : Int32} (e : fX5_bringerOfDearest F x0 x1 x2 h = some y) : ab_Met l mX5_bringerOfDearest [.ref x0, .int x1, .int x2] h (.inl (some (.int y)), h) := ab_ofS (io := (fun y : Int32 => ((.inl (some (.int y)), h) : ab_R × ab_H))) (x := y) hl (by decide) rfl (Nat.le_of_ble_eq_true rfl) (wX5_bringerOfDearest hl F x0 x1 x2 h) e
def mX5_giveRing : ab_M := (yX5_giveRing, cX5_giveRing, 6, (some .int), { frames := 1, cells := 0, slots := 0, locals := 21 })
theorem iX5_giveRing : ab_MI mX5_giveRing 2 := ⟨kw_834e583e10, kw_c0673d947a, by decide +kernel⟩
theorem lk_X5_56 : ab_LS RX5 56 mJ6_numberOfTrailingZeros_0f7a4 1 := ⟨iJ6_numberOfTrailingZeros_0f7a4, kw_a7672fc1bd, kw_4bc08f7158⟩
def fX5_giveRing_8 (F : Nat) (x0 : Nat) (x1 : Nat) (h : ab_H) (k28 : Int32 → Option (Int32 × ab_H)) : Nat → Int32 → Int32 → Option (Int32 × ab_H)
  | 0, _, _ => none
  | n + 1, x3, x4 => (if x4 < (nI 10) then ab_bd (ab_fr h x0 5 1) fun v3 => ab_bd (ab_ia 0 h v3 x3) fun v4 => fX5_giveRing_8 F x0 x1 h k28 n v4 (x4 + nI 1) else k28 x3)
def fX5_giveRing_34 (F : Nat) (x0 : Nat) (x1 : Nat) : Nat → Int32 → Int32 → Int32 → ab_H → Option (Int32 × ab_H)
  | 0, _, _, _, _ => none
  | n + 1, x3, x4, x5, h => (if x5 < (nI 10) then ab_bd (fX11_has x4 x3 h) fun v7 => (if v7 = 0 then ab_bd (ab_fr h x0 5 0) fun v9 => ab_bd (ab_fr h x1 8 11) fun v10 => ab_bd (ab_fr h x0 5 1) fun v11 => ab_bd (ab_ia 0 h v11 x3) fun v12 => ab_bd (ab_ia 0 h v10 v12) fun v13 => ab_bd (ab_iw 0 h v9 x3 v13) fun h14 => ab_bd (ab_fr h14 x0 5 1) fun v15 => ab_bd (ab_ia 0 h14 v15 x3) fun v16 => fX5_giveRing_34 F x0 x1 n v16 (x4 ||| ((nI 1) <<< (x3 &&& 31))) (x5 + nI 1) h14 else some (x4, h)) else some (x4, h))
def fX5_giveRing (F : Nat) (x0 : Nat) (x1 : Nat) (x2 : Int32) (h : ab_H) : Option (Int32 × ab_H) := ab_bd (fJ6_numberOfTrailingZeros_0f7a4 x2 h) fun v1 => fX5_giveRing_8 F x0 x1 h (fun (z5 : Int32) => fX5_giveRing_34 F x0 x1 F z5 (nI 0) (nI 0) h) F v1 (nI 0)
set_option maxRecDepth 100000 in
set_option maxHeartbeats 4000000 in
theorem lX5_giveRing_8 {l : Launch} (hl : l.stackTraces = false) (F : Nat) (x0 : Nat) (x1 : Nat) (h : ab_H) {k28 : Int32 → Option (Int32 × ab_H)} (hk28 : ∀ (x3 : Int32), ab_S l mX5_giveRing (fun y : (Int32 × ab_H) => ((.inl (some (.int y.1)), y.2) : ab_R × ab_H)) 0 0 (k28 x3) 28 [(0, .ref x0), (1, .ref x1), (3, .int x3)] [] h) : ∀ (n : Nat) (x3 : Int32) (x4 : Int32), ab_S l mX5_giveRing (fun y : (Int32 × ab_H) => ((.inl (some (.int y.1)), y.2) : ab_R × ab_H)) 0 0 (fX5_giveRing_8 F x0 x1 h k28 n x3 x4) 8 [(0, .ref x0), (1, .ref x1), (3, .int x3), (4, .int x4)] [] h := by
  intro n
  induction n with
  | zero =>
    intro x3 x4
    exact ab_none
  | succ n ih =>
    intro x3 x4
    rw [fX5_giveRing_8]
    refine ab_iload (pc := 8) (i := 4) (j := 3) (by decide +kernel) rfl ?_
    refine ab_bipush (pc := 10) (n := 10) (v := nI 10) (by decide +kernel) (by decide) ?_
    refine ab_icmp_ge (off := 16) (pc := 12) (tgt := 28) (by decide +kernel) (by decide) (fun g2 => ?_) (fun g2 => ?_)
    · refine ab_aload_n (pc := 15) (n := 0) (i := 0) (j := 0) (by decide +kernel) rfl rfl ?_
      refine ab_getR (pc := 16) fl_X5_15_5 (by decide +kernel) (fun v3 ev3 => ?_)
      refine ab_iload_n (pc := 19) (n := 3) (i := 3) (j := 2) (by decide +kernel) rfl rfl ?_
      refine ab_iald (pc := 20) (by decide +kernel) (fun v4 ev4 => ?_)
      refine ab_istore_n (pc := 21) (n := 3) (i := 3) (lv' := [(0, .ref x0), (1, .ref x1), (3, .int v4), (4, .int x4)]) (by decide +kernel) rfl (Nat.le_of_ble_eq_true rfl) rfl rfl ?_
      refine ab_iinc (pc := 22) (i := 4) (n := 1) (j := 3) (d := nI 1) (lv' := [(0, .ref x0), (1, .ref x1), (3, .int v4), (4, .int (x4 + nI 1))]) (by decide +kernel) rfl rfl (Nat.le_of_ble_eq_true rfl) rfl rfl ?_
      refine ab_goto (pc := 25) (off := (-17)) (tgt := 8) (by decide +kernel) (by decide) ?_
      exact ih v4 (x4 + nI 1)
    · refine ab_few [0, 1, 2] (lv' := [(0, .ref x0), (1, .ref x1), (3, .int x3)]) rfl ?_
      exact hk28 x3
set_option maxRecDepth 100000 in
set_option maxHeartbeats 4000000 in
theorem lX5_giveRing_34 {l : Launch} (hl : l.stackTraces = false) (F : Nat) (x0 : Nat) (x1 : Nat) : ∀ (n : Nat) (x3 : Int32) (x4 : Int32) (x5 : Int32) (h : ab_H), ab_S l mX5_giveRing (fun y : (Int32 × ab_H) => ((.inl (some (.int y.1)), y.2) : ab_R × ab_H)) 0 0 (fX5_giveRing_34 F x0 x1 n x3 x4 x5 h) 34 [(0, .ref x0), (1, .ref x1), (3, .int x3), (4, .int x4), (5, .int x5)] [] h := by
  intro n
  induction n with
  | zero =>
    intro x3 x4 x5 h
    exact ab_none
  | succ n ih =>
    intro x3 x4 x5 h
    rw [fX5_giveRing_34]
    refine ab_iload (pc := 34) (i := 5) (j := 4) (by decide +kernel) rfl ?_
    refine ab_bipush (pc := 36) (n := 10) (v := nI 10) (by decide +kernel) (by decide) ?_
    refine ab_icmp_ge (off := 50) (pc := 38) (tgt := 88) (by decide +kernel) (by decide) (fun g6 => ?_) (fun g6 => ?_)
    · refine ab_iload (pc := 41) (i := 4) (j := 3) (by decide +kernel) rfl ?_
      refine ab_iload_n (pc := 43) (n := 3) (i := 3) (j := 2) (by decide +kernel) rfl rfl ?_
      refine ab_callNi (As := [.int x4, .int x3]) (st := []) (pc := 44) (index := 41) (host := "HungFaces") iX11_has (by show (RX5, 41, yX11_has, "HungFaces") ∈ ab_nm; decide +kernel) kw_b5c7c9a43d rfl rfl rfl (by decide) rfl (Nat.le_of_ble_eq_true rfl) (by decide +kernel) (fun y9 e9 => okX11_has hl e9) (fun v7 ev7 => ?_)
      refine ab_if_ne (off := 41) (pc := 47) (tgt := 88) (by decide +kernel) (by decide) (fun g8 => ?_) (fun g8 => ?_)
      · refine ab_iload (pc := 50) (i := 4) (j := 3) (by decide +kernel) rfl ?_
        refine ab_iconst (pc := 52) (n := 1) (v := nI 1) (by decide +kernel) rfl ?_
        refine ab_iload_n (pc := 53) (n := 3) (i := 3) (j := 2) (by decide +kernel) rfl rfl ?_
        refine ab_ishl (pc := 54) (by decide +kernel) ?_
        refine ab_ior (pc := 55) (by decide +kernel) ?_
        refine ab_istore (pc := 56) (i := 4) (lv' := [(0, .ref x0), (1, .ref x1), (3, .int x3), (4, .int (x4 ||| ((nI 1) <<< (x3 &&& 31)))), (5, .int x5)]) (by decide +kernel) (Nat.le_of_ble_eq_true rfl) rfl rfl ?_
        refine ab_aload_n (pc := 58) (n := 0) (i := 0) (j := 0) (by decide +kernel) rfl rfl ?_
        refine ab_getR (pc := 59) fl_X5_9_5 (by decide +kernel) (fun v9 ev9 => ?_)
        refine ab_iload_n (pc := 62) (n := 3) (i := 3) (j := 2) (by decide +kernel) rfl rfl ?_
        refine ab_aload_n (pc := 63) (n := 1) (i := 1) (j := 1) (by decide +kernel) rfl rfl ?_
        refine ab_getR (pc := 64) fl_X5_30_8 (by decide +kernel) (fun v10 ev10 => ?_)
        refine ab_aload_n (pc := 67) (n := 0) (i := 0) (j := 0) (by decide +kernel) rfl rfl ?_
        refine ab_getR (pc := 68) fl_X5_15_5 (by decide +kernel) (fun v11 ev11 => ?_)
        refine ab_iload_n (pc := 71) (n := 3) (i := 3) (j := 2) (by decide +kernel) rfl rfl ?_
        refine ab_iald (pc := 72) (by decide +kernel) (fun v12 ev12 => ?_)
        refine ab_iald (pc := 73) (by decide +kernel) (fun v13 ev13 => ?_)
        refine ab_iast (pc := 74) (by decide +kernel) (fun h14 eh14 => ?_)
        refine ab_aload_n (pc := 75) (n := 0) (i := 0) (j := 0) (by decide +kernel) rfl rfl ?_
        refine ab_getR (pc := 76) fl_X5_15_5 (by decide +kernel) (fun v15 ev15 => ?_)
        refine ab_iload_n (pc := 79) (n := 3) (i := 3) (j := 2) (by decide +kernel) rfl rfl ?_
        refine ab_iald (pc := 80) (by decide +kernel) (fun v16 ev16 => ?_)
        refine ab_istore_n (pc := 81) (n := 3) (i := 3) (lv' := [(0, .ref x0), (1, .ref x1), (3, .int v16), (4, .int (x4 ||| ((nI 1) <<< (x3 &&& 31)))), (5, .int x5)]) (by decide +kernel) rfl (Nat.le_of_ble_eq_true rfl) rfl rfl ?_
        refine ab_iinc (pc := 82) (i := 5) (n := 1) (j := 4) (d := nI 1) (lv' := [(0, .ref x0), (1, .ref x1), (3, .int v16), (4, .int (x4 ||| ((nI 1) <<< (x3 &&& 31)))), (5, .int (x5 + nI 1))]) (by decide +kernel) rfl rfl (Nat.le_of_ble_eq_true rfl) rfl rfl ?_
        refine ab_goto (pc := 85) (off := (-51)) (tgt := 34) (by decide +kernel) (by decide) ?_
        exact ih v16 (x4 ||| ((nI 1) <<< (x3 &&& 31))) (x5 + nI 1) h14
      · refine ab_iload (pc := 88) (i := 4) (j := 3) (by decide +kernel) rfl ?_
        exact ab_iret (pc := 90) (by decide +kernel) rfl rfl (Nat.le_of_ble_eq_true rfl) (Nat.le_of_ble_eq_true rfl)
    · refine ab_iload (pc := 88) (i := 4) (j := 3) (by decide +kernel) rfl ?_
      exact ab_iret (pc := 90) (by decide +kernel) rfl rfl (Nat.le_of_ble_eq_true rfl) (Nat.le_of_ble_eq_true rfl)
set_option maxRecDepth 100000 in
set_option maxHeartbeats 4000000 in
theorem wX5_giveRing {l : Launch} (hl : l.stackTraces = false) (F : Nat) (x0 : Nat) (x1 : Nat) (x2 : Int32) (h : ab_H) : ab_S l mX5_giveRing (fun y : (Int32 × ab_H) => ((.inl (some (.int y.1)), y.2) : ab_R × ab_H)) 0 0 (fX5_giveRing F x0 x1 x2 h) 0 [(0, .ref x0), (1, .ref x1), (2, .int x2)] [] h := by
  unfold fX5_giveRing
  refine ab_iload_n (pc := 0) (n := 2) (i := 2) (j := 2) (by decide +kernel) rfl rfl ?_
  refine ab_callSi (As := [.int x2]) (st := []) (pc := 1) lk_X5_56 rfl rfl rfl (by decide) rfl (Nat.le_of_ble_eq_true rfl) (by decide +kernel) (fun y9 e9 => okJ6_numberOfTrailingZeros_0f7a4 hl e9) (fun v1 ev1 => ?_)
  refine ab_istore_n (pc := 4) (n := 3) (i := 3) (lv' := [(0, .ref x0), (1, .ref x1), (2, .int x2), (3, .int v1)]) (by decide +kernel) rfl (Nat.le_of_ble_eq_true rfl) rfl rfl ?_
  refine ab_iconst (pc := 5) (n := 0) (v := nI 0) (by decide +kernel) rfl ?_
  refine ab_istore (pc := 6) (i := 4) (lv' := [(0, .ref x0), (1, .ref x1), (2, .int x2), (3, .int v1), (4, .int (nI 0))]) (by decide +kernel) (Nat.le_of_ble_eq_true rfl) rfl rfl ?_
  refine ab_few [0, 1, 3, 4] (lv' := [(0, .ref x0), (1, .ref x1), (3, .int v1), (4, .int (nI 0))]) rfl ?_
  refine lX5_giveRing_8 hl F x0 x1 h ?_ F v1 (nI 0)
  intro z5
  refine ab_iconst (pc := 28) (n := 0) (v := nI 0) (by decide +kernel) rfl ?_
  refine ab_istore (pc := 29) (i := 4) (lv' := [(0, .ref x0), (1, .ref x1), (3, .int z5), (4, .int (nI 0))]) (by decide +kernel) (Nat.le_of_ble_eq_true rfl) rfl rfl ?_
  refine ab_iconst (pc := 31) (n := 0) (v := nI 0) (by decide +kernel) rfl ?_
  refine ab_istore (pc := 32) (i := 5) (lv' := [(0, .ref x0), (1, .ref x1), (3, .int z5), (4, .int (nI 0)), (5, .int (nI 0))]) (by decide +kernel) (Nat.le_of_ble_eq_true rfl) rfl rfl ?_
  refine lX5_giveRing_34 hl F x0 x1 F z5 (nI 0) (nI 0) h
set_option maxRecDepth 100000 in
set_option maxHeartbeats 4000000 in
theorem okX5_giveRing {l : Launch} (hl : l.stackTraces = false) {F : Nat} {x0 : Nat} {x1 : Nat} {x2 : Int32} {h : ab_H} {y : (Int32 × ab_H)} (e : fX5_giveRing F x0 x1 x2 h = some y) : ab_Met l mX5_giveRing [.ref x0, .ref x1, .int x2] h (.inl (some (.int y.1)), y.2) := ab_ofS (io := (fun y : (Int32 × ab_H) => ((.inl (some (.int y.1)), y.2) : ab_R × ab_H))) (x := y) hl (by decide) rfl (Nat.le_of_ble_eq_true rfl) (wX5_giveRing hl F x0 x1 x2 h) e
def mX5_wantsAny : ab_M := (yX5_wantsAny, cX5_wantsAny, 6, (some .boolean), { frames := 1, cells := 0, slots := 0, locals := 22 })
theorem iX5_wantsAny : ab_MI mX5_wantsAny 3 := ⟨kw_2d565a4ae4, kw_c0673d947a, by decide +kernel⟩
def fX5_wantsAny_2 (F : Nat) (x0 : Nat) (x1 : Int32) (x2 : Int32) (h : ab_H) : Nat → Int32 → Option Int32
  | 0, _ => none
  | n + 1, x3 => ab_bd (ab_fi h x0 8 0) fun v1 => (if x3 < v1 then ab_bd (ab_fr h x0 8 16) fun v3 => ab_bd (ab_ia 0 h v3 ((x1 * (nI 10)) + x3)) fun v4 => ab_bd (ab_fr h x0 8 11) fun v5 => ab_bd (ab_ia 0 h v5 x1) fun v6 => (if v4 = v6 then some (nI 0) else ab_ck (ab_io h x0 8 = true) (ab_bd (fX8_wearerOf F x0 v4 h) fun v8 => (if v8 = (-1 : Int32) then fX5_wantsAny_2 F x0 x1 x2 h n (x3 + nI 1) else ab_bd (fX11_has x2 v8 h) fun v10 => (if v10 = 0 then fX5_wantsAny_2 F x0 x1 x2 h n (x3 + nI 1) else some (nI 1))))) else some (nI 0))
def fX5_wantsAny (F : Nat) (x0 : Nat) (x1 : Int32) (x2 : Int32) (h : ab_H) : Option Int32 := fX5_wantsAny_2 F x0 x1 x2 h F (nI 0)
set_option maxRecDepth 100000 in
set_option maxHeartbeats 4000000 in
theorem lX5_wantsAny_2 {l : Launch} (hl : l.stackTraces = false) (F : Nat) (x0 : Nat) (x1 : Int32) (x2 : Int32) (h : ab_H) : ∀ (n : Nat) (x3 : Int32), ab_S l mX5_wantsAny (fun y : Int32 => ((.inl (some (.int y)), h) : ab_R × ab_H)) 0 0 (fX5_wantsAny_2 F x0 x1 x2 h n x3) 2 [(0, .ref x0), (1, .int x1), (2, .int x2), (3, .int x3)] [] h := by
  intro n
  induction n with
  | zero =>
    intro x3
    exact ab_none
  | succ n ih =>
    intro x3
    rw [fX5_wantsAny_2]
    refine ab_iload_n (pc := 2) (n := 3) (i := 3) (j := 3) (by decide +kernel) rfl rfl ?_
    refine ab_aload_n (pc := 3) (n := 0) (i := 0) (j := 0) (by decide +kernel) rfl rfl ?_
    refine ab_getI (pc := 4) fl_X5_24_8 (by decide +kernel) (fun v1 ev1 => ?_)
    refine ab_icmp_ge (off := 60) (pc := 7) (tgt := 67) (by decide +kernel) (by decide) (fun g2 => ?_) (fun g2 => ?_)
    · refine ab_aload_n (pc := 10) (n := 0) (i := 0) (j := 0) (by decide +kernel) rfl rfl ?_
      refine ab_getR (pc := 11) fl_X5_49_8 (by decide +kernel) (fun v3 ev3 => ?_)
      refine ab_iload_n (pc := 14) (n := 1) (i := 1) (j := 1) (by decide +kernel) rfl rfl ?_
      refine ab_bipush (pc := 15) (n := 10) (v := nI 10) (by decide +kernel) (by decide) ?_
      refine ab_imul (pc := 17) (by decide +kernel) ?_
      refine ab_iload_n (pc := 18) (n := 3) (i := 3) (j := 3) (by decide +kernel) rfl rfl ?_
      refine ab_iadd (pc := 19) (by decide +kernel) ?_
      refine ab_iald (pc := 20) (by decide +kernel) (fun v4 ev4 => ?_)
      refine ab_istore (pc := 21) (i := 4) (lv' := [(0, .ref x0), (1, .int x1), (2, .int x2), (3, .int x3), (4, .int v4)]) (by decide +kernel) (Nat.le_of_ble_eq_true rfl) rfl rfl ?_
      refine ab_iload (pc := 23) (i := 4) (j := 4) (by decide +kernel) rfl ?_
      refine ab_aload_n (pc := 25) (n := 0) (i := 0) (j := 0) (by decide +kernel) rfl rfl ?_
      refine ab_getR (pc := 26) fl_X5_30_8 (by decide +kernel) (fun v5 ev5 => ?_)
      refine ab_iload_n (pc := 29) (n := 1) (i := 1) (j := 1) (by decide +kernel) rfl rfl ?_
      refine ab_iald (pc := 30) (by decide +kernel) (fun v6 ev6 => ?_)
      refine ab_icmp_ne (off := 5) (pc := 31) (tgt := 36) (by decide +kernel) (by decide) (fun g7 => ?_) (fun g7 => ?_)
      · refine ab_iconst (pc := 34) (n := 0) (v := nI 0) (by decide +kernel) rfl ?_
        exact ab_zret (pc := 35) (by decide +kernel) rfl ab_bl0.1 rfl (Nat.le_of_ble_eq_true rfl) (Nat.le_of_ble_eq_true rfl)
      · refine ab_aload_n (pc := 36) (n := 0) (i := 0) (j := 0) (by decide +kernel) rfl rfl ?_
        refine ab_iload (pc := 37) (i := 4) (j := 4) (by decide +kernel) rfl ?_
        refine ab_callVi (As := [.int v4]) (st := []) (pc := 39) lk_X5_52_8 rfl rfl rfl (by decide) rfl (Nat.le_of_ble_eq_true rfl) (by decide +kernel) (fun y9 e9 => okX8_wearerOf hl (F := F) e9) (fun v8 ev8 => ?_)
        refine ab_istore (pc := 42) (i := 5) (lv' := [(0, .ref x0), (1, .int x1), (2, .int x2), (3, .int x3), (4, .int v4), (5, .int v8)]) (by decide +kernel) (Nat.le_of_ble_eq_true rfl) rfl rfl ?_
        refine ab_iload (pc := 44) (i := 5) (j := 5) (by decide +kernel) rfl ?_
        refine ab_iconst (pc := 46) (n := -1) (v := (-1 : Int32)) (by decide +kernel) rfl ?_
        refine ab_icmp_eq (off := 14) (pc := 47) (tgt := 61) (by decide +kernel) (by decide) (fun g9 => ?_) (fun g9 => ?_)
        · refine ab_iinc (pc := 61) (i := 3) (n := 1) (j := 3) (d := nI 1) (lv' := [(0, .ref x0), (1, .int x1), (2, .int x2), (3, .int (x3 + nI 1)), (4, .int v4), (5, .int v8)]) (by decide +kernel) rfl rfl (Nat.le_of_ble_eq_true rfl) rfl rfl ?_
          refine ab_goto (pc := 64) (off := (-62)) (tgt := 2) (by decide +kernel) (by decide) ?_
          refine ab_few [0, 1, 2, 3] (lv' := [(0, .ref x0), (1, .int x1), (2, .int x2), (3, .int (x3 + nI 1))]) rfl ?_
          exact ih (x3 + nI 1)
        · refine ab_iload_n (pc := 50) (n := 2) (i := 2) (j := 2) (by decide +kernel) rfl rfl ?_
          refine ab_iload (pc := 51) (i := 5) (j := 5) (by decide +kernel) rfl ?_
          refine ab_callNi (As := [.int x2, .int v8]) (st := []) (pc := 53) (index := 41) (host := "HungFaces") iX11_has (by show (RX5, 41, yX11_has, "HungFaces") ∈ ab_nm; decide +kernel) kw_b5c7c9a43d rfl rfl rfl (by decide) rfl (Nat.le_of_ble_eq_true rfl) (by decide +kernel) (fun y9 e9 => okX11_has hl e9) (fun v10 ev10 => ?_)
          refine ab_if_eq (off := 5) (pc := 56) (tgt := 61) (by decide +kernel) (by decide) (fun g11 => ?_) (fun g11 => ?_)
          · refine ab_iinc (pc := 61) (i := 3) (n := 1) (j := 3) (d := nI 1) (lv' := [(0, .ref x0), (1, .int x1), (2, .int x2), (3, .int (x3 + nI 1)), (4, .int v4), (5, .int v8)]) (by decide +kernel) rfl rfl (Nat.le_of_ble_eq_true rfl) rfl rfl ?_
            refine ab_goto (pc := 64) (off := (-62)) (tgt := 2) (by decide +kernel) (by decide) ?_
            refine ab_few [0, 1, 2, 3] (lv' := [(0, .ref x0), (1, .int x1), (2, .int x2), (3, .int (x3 + nI 1))]) rfl ?_
            exact ih (x3 + nI 1)
          · refine ab_iconst (pc := 59) (n := 1) (v := nI 1) (by decide +kernel) rfl ?_
            exact ab_zret (pc := 60) (by decide +kernel) rfl ab_bl1.1 rfl (Nat.le_of_ble_eq_true rfl) (Nat.le_of_ble_eq_true rfl)
    · refine ab_iconst (pc := 67) (n := 0) (v := nI 0) (by decide +kernel) rfl ?_
      exact ab_zret (pc := 68) (by decide +kernel) rfl ab_bl0.1 rfl (Nat.le_of_ble_eq_true rfl) (Nat.le_of_ble_eq_true rfl)
set_option maxRecDepth 100000 in
set_option maxHeartbeats 4000000 in
theorem wX5_wantsAny {l : Launch} (hl : l.stackTraces = false) (F : Nat) (x0 : Nat) (x1 : Int32) (x2 : Int32) (h : ab_H) : ab_S l mX5_wantsAny (fun y : Int32 => ((.inl (some (.int y)), h) : ab_R × ab_H)) 0 0 (fX5_wantsAny F x0 x1 x2 h) 0 [(0, .ref x0), (1, .int x1), (2, .int x2)] [] h := by
  unfold fX5_wantsAny
  refine ab_iconst (pc := 0) (n := 0) (v := nI 0) (by decide +kernel) rfl ?_
  refine ab_istore_n (pc := 1) (n := 3) (i := 3) (lv' := [(0, .ref x0), (1, .int x1), (2, .int x2), (3, .int (nI 0))]) (by decide +kernel) rfl (Nat.le_of_ble_eq_true rfl) rfl rfl ?_
  refine lX5_wantsAny_2 hl F x0 x1 x2 h F (nI 0)
set_option maxRecDepth 100000 in
set_option maxHeartbeats 4000000 in
theorem okX5_wantsAny {l : Launch} (hl : l.stackTraces = false) {F : Nat} {x0 : Nat} {x1 : Int32} {x2 : Int32} {h : ab_H} {y : Int32} (e : fX5_wantsAny F x0 x1 x2 h = some y) : ab_Met l mX5_wantsAny [.ref x0, .int x1, .int x2] h (.inl (some (.int y)), h) := ab_ofS (io := (fun y : Int32 => ((.inl (some (.int y)), h) : ab_R × ab_H))) (x := y) hl (by decide) rfl (Nat.le_of_ble_eq_true rfl) (wX5_wantsAny hl F x0 x1 x2 h) e
def mX6_keep : ab_M := (yX6_keep, cX6_keep, 2, none, { frames := 3, cells := 0, slots := 0, locals := 68 })
theorem iX6_keep : ab_MI mX6_keep 1 := ⟨kw_7c0605a5a3, kw_252be10908, by decide +kernel⟩
theorem lk_X6_27_8 : ab_LV RX6 27 8 mX8_copyFrom 1 := ⟨RX8, rfl, iX8_copyFrom, kw_d07945861a, kw_5db67fc933, kw_ac67004cea⟩
def fX6_keep (x0 : Nat) (x1 : Nat) (h : ab_H) : Option ab_H := ab_bd (ab_fi h x0 6 2) fun v1 => ab_jn (κ := ab_H → Option ab_H) (fun (h2 : ab_H) => ab_bd (ab_fr h2 x0 6 0) fun v3 => ab_bd (ab_fi h2 x0 6 1) fun v4 => ab_bd (ab_fi h2 x0 6 2) fun v5 => ab_ck (¬ (nI 12) = 0) (ab_bd (ab_ra h2 v3 (ab_rm (v4 + v5) (nI 12))) fun v7 => ab_ck (ab_io h2 v7 8 = true) (ab_bd (fX8_copyFrom v7 x1 h2) fun h8 => ab_bd (ab_fi h8 x0 6 2) fun v9 => ab_bd (ab_fw h8 x0 6 2 (.int (v9 + (nI 1)))) fun h10 => some h10))) fun j11 => (if v1 = (nI 12) then ab_bd (ab_fi h x0 6 1) fun v13 => ab_ck (¬ (nI 12) = 0) (ab_bd (ab_fw h x0 6 1 (.int (ab_rm (v13 + (nI 1)) (nI 12)))) fun h15 => ab_bd (ab_fi h15 x0 6 2) fun v16 => ab_bd (ab_fw h15 x0 6 2 (.int (v16 - (nI 1)))) fun h17 => j11 h17) else j11 h)
set_option maxRecDepth 100000 in
set_option maxHeartbeats 4000000 in
theorem wX6_keep {l : Launch} (hl : l.stackTraces = false) (x0 : Nat) (x1 : Nat) (h : ab_H) : ab_S l mX6_keep (fun y : ab_H => ((.inl none, y) : ab_R × ab_H)) 0 0 (fX6_keep x0 x1 h) 0 [(0, .ref x0), (1, .ref x1)] [] h := by
  unfold fX6_keep
  refine ab_aload_n (pc := 0) (n := 0) (i := 0) (j := 0) (by decide +kernel) rfl rfl ?_
  refine ab_getI (pc := 1) fl_X6_20_6 (by decide +kernel) (fun v1 ev1 => ?_)
  refine ab_bipush (pc := 4) (n := 12) (v := nI 12) (by decide +kernel) (by decide) ?_
  refine ab_jr (fun k9 : ab_H → Option ab_H => ∀ (h2 : ab_H), ab_S l mX6_keep (fun y : ab_H => ((.inl none, y) : ab_R × ab_H)) 0 0 (k9 h2) 32 [(0, .ref x0), (1, .ref x1)] [] h2) ?_ (fun j11 hj11 => ?_)
  · intro h2
    refine ab_aload_n (pc := 32) (n := 0) (i := 0) (j := 0) (by decide +kernel) rfl rfl ?_
    refine ab_getR (pc := 33) fl_X6_11_6 (by decide +kernel) (fun v3 ev3 => ?_)
    refine ab_aload_n (pc := 36) (n := 0) (i := 0) (j := 0) (by decide +kernel) rfl rfl ?_
    refine ab_getI (pc := 37) fl_X6_24_6 (by decide +kernel) (fun v4 ev4 => ?_)
    refine ab_aload_n (pc := 40) (n := 0) (i := 0) (j := 0) (by decide +kernel) rfl rfl ?_
    refine ab_getI (pc := 41) fl_X6_20_6 (by decide +kernel) (fun v5 ev5 => ?_)
    refine ab_iadd (pc := 44) (by decide +kernel) ?_
    refine ab_bipush (pc := 45) (n := 12) (v := nI 12) (by decide +kernel) (by decide) ?_
    refine ab_irem (pc := 47) (by decide +kernel) (fun g6 => ?_)
    refine ab_aald (pc := 48) (by decide +kernel) (fun v7 ev7 => ?_)
    refine ab_aload_n (pc := 49) (n := 1) (i := 1) (j := 1) (by decide +kernel) rfl rfl ?_
    refine ab_callVw (As := [.ref x1]) (st := []) (pc := 50) lk_X6_27_8 rfl rfl rfl (by decide) rfl (Nat.le_of_ble_eq_true rfl) (by decide +kernel) (fun y9 e9 => okX8_copyFrom hl e9) (fun h8 eh8 => ?_)
    refine ab_aload_n (pc := 53) (n := 0) (i := 0) (j := 0) (by decide +kernel) rfl rfl ?_
    refine ab_dup (pc := 54) (by decide +kernel) rfl ?_
    refine ab_getI (pc := 55) fl_X6_20_6 (by decide +kernel) (fun v9 ev9 => ?_)
    refine ab_iconst (pc := 58) (n := 1) (v := nI 1) (by decide +kernel) rfl ?_
    refine ab_iadd (pc := 59) (by decide +kernel) ?_
    refine ab_put (pc := 60) fl_X6_20_6 rfl (fun _ => rfl) (fun _ => rfl) (by decide +kernel) (fun h10 eh10 => ?_)
    exact ab_vret (pc := 63) (by decide +kernel) rfl rfl (Nat.le_of_ble_eq_true rfl) (Nat.le_of_ble_eq_true rfl)
  · refine ab_icmp_ne (off := 26) (pc := 6) (tgt := 32) (by decide +kernel) (by decide) (fun g12 => ?_) (fun g12 => ?_)
    · refine ab_aload_n (pc := 9) (n := 0) (i := 0) (j := 0) (by decide +kernel) rfl rfl ?_
      refine ab_aload_n (pc := 10) (n := 0) (i := 0) (j := 0) (by decide +kernel) rfl rfl ?_
      refine ab_getI (pc := 11) fl_X6_24_6 (by decide +kernel) (fun v13 ev13 => ?_)
      refine ab_iconst (pc := 14) (n := 1) (v := nI 1) (by decide +kernel) rfl ?_
      refine ab_iadd (pc := 15) (by decide +kernel) ?_
      refine ab_bipush (pc := 16) (n := 12) (v := nI 12) (by decide +kernel) (by decide) ?_
      refine ab_irem (pc := 18) (by decide +kernel) (fun g14 => ?_)
      refine ab_put (pc := 19) fl_X6_24_6 rfl (fun _ => rfl) (fun _ => rfl) (by decide +kernel) (fun h15 eh15 => ?_)
      refine ab_aload_n (pc := 22) (n := 0) (i := 0) (j := 0) (by decide +kernel) rfl rfl ?_
      refine ab_dup (pc := 23) (by decide +kernel) rfl ?_
      refine ab_getI (pc := 24) fl_X6_20_6 (by decide +kernel) (fun v16 ev16 => ?_)
      refine ab_iconst (pc := 27) (n := 1) (v := nI 1) (by decide +kernel) rfl ?_
      refine ab_isub (pc := 28) (by decide +kernel) ?_
      refine ab_put (pc := 29) fl_X6_20_6 rfl (fun _ => rfl) (fun _ => rfl) (by decide +kernel) (fun h17 eh17 => ?_)
      exact hj11 h17
    · exact hj11 h
set_option maxRecDepth 100000 in
set_option maxHeartbeats 4000000 in
theorem okX6_keep {l : Launch} (hl : l.stackTraces = false) {x0 : Nat} {x1 : Nat} {h : ab_H} {y : ab_H} (e : fX6_keep x0 x1 h = some y) : ab_Met l mX6_keep [.ref x0, .ref x1] h (.inl none, y) := ab_ofS (io := (fun y : ab_H => ((.inl none, y) : ab_R × ab_H))) (x := y) hl (by decide) rfl (Nat.le_of_ble_eq_true rfl) (wX6_keep hl x0 x1 h) e
def mX6_takeBack : ab_M := (yX6_takeBack, cX6_takeBack, 2, (some .boolean), { frames := 3, cells := 0, slots := 0, locals := 68 })
theorem iX6_takeBack : ab_MI mX6_takeBack 1 := ⟨kw_8af719ab7a, kw_252be10908, by decide +kernel⟩
def fX6_takeBack (x0 : Nat) (x1 : Nat) (h : ab_H) : Option (Int32 × ab_H) := ab_bd (ab_fi h x0 6 2) fun v1 => (if v1 = 0 then some (nI 0, h) else ab_bd (ab_fi h x0 6 2) fun v3 => ab_bd (ab_fw h x0 6 2 (.int (v3 - (nI 1)))) fun h4 => ab_bd (ab_fr h4 x0 6 0) fun v5 => ab_bd (ab_fi h4 x0 6 1) fun v6 => ab_bd (ab_fi h4 x0 6 2) fun v7 => ab_ck (¬ (nI 12) = 0) (ab_bd (ab_ra h4 v5 (ab_rm (v6 + v7) (nI 12))) fun v9 => ab_ck (ab_io h4 x1 8 = true) (ab_bd (fX8_copyFrom x1 v9 h4) fun h10 => some (nI 1, h10))))
set_option maxRecDepth 100000 in
set_option maxHeartbeats 4000000 in
theorem wX6_takeBack {l : Launch} (hl : l.stackTraces = false) (x0 : Nat) (x1 : Nat) (h : ab_H) : ab_S l mX6_takeBack (fun y : (Int32 × ab_H) => ((.inl (some (.int y.1)), y.2) : ab_R × ab_H)) 0 0 (fX6_takeBack x0 x1 h) 0 [(0, .ref x0), (1, .ref x1)] [] h := by
  unfold fX6_takeBack
  refine ab_aload_n (pc := 0) (n := 0) (i := 0) (j := 0) (by decide +kernel) rfl rfl ?_
  refine ab_getI (pc := 1) fl_X6_20_6 (by decide +kernel) (fun v1 ev1 => ?_)
  refine ab_if_ne (off := 5) (pc := 4) (tgt := 9) (by decide +kernel) (by decide) (fun g2 => ?_) (fun g2 => ?_)
  · refine ab_iconst (pc := 7) (n := 0) (v := nI 0) (by decide +kernel) rfl ?_
    exact ab_zret (pc := 8) (by decide +kernel) rfl ab_bl0.1 rfl (Nat.le_of_ble_eq_true rfl) (Nat.le_of_ble_eq_true rfl)
  · refine ab_aload_n (pc := 9) (n := 0) (i := 0) (j := 0) (by decide +kernel) rfl rfl ?_
    refine ab_dup (pc := 10) (by decide +kernel) rfl ?_
    refine ab_getI (pc := 11) fl_X6_20_6 (by decide +kernel) (fun v3 ev3 => ?_)
    refine ab_iconst (pc := 14) (n := 1) (v := nI 1) (by decide +kernel) rfl ?_
    refine ab_isub (pc := 15) (by decide +kernel) ?_
    refine ab_put (pc := 16) fl_X6_20_6 rfl (fun _ => rfl) (fun _ => rfl) (by decide +kernel) (fun h4 eh4 => ?_)
    refine ab_aload_n (pc := 19) (n := 1) (i := 1) (j := 1) (by decide +kernel) rfl rfl ?_
    refine ab_aload_n (pc := 20) (n := 0) (i := 0) (j := 0) (by decide +kernel) rfl rfl ?_
    refine ab_getR (pc := 21) fl_X6_11_6 (by decide +kernel) (fun v5 ev5 => ?_)
    refine ab_aload_n (pc := 24) (n := 0) (i := 0) (j := 0) (by decide +kernel) rfl rfl ?_
    refine ab_getI (pc := 25) fl_X6_24_6 (by decide +kernel) (fun v6 ev6 => ?_)
    refine ab_aload_n (pc := 28) (n := 0) (i := 0) (j := 0) (by decide +kernel) rfl rfl ?_
    refine ab_getI (pc := 29) fl_X6_20_6 (by decide +kernel) (fun v7 ev7 => ?_)
    refine ab_iadd (pc := 32) (by decide +kernel) ?_
    refine ab_bipush (pc := 33) (n := 12) (v := nI 12) (by decide +kernel) (by decide) ?_
    refine ab_irem (pc := 35) (by decide +kernel) (fun g8 => ?_)
    refine ab_aald (pc := 36) (by decide +kernel) (fun v9 ev9 => ?_)
    refine ab_callVw (As := [.ref v9]) (st := []) (pc := 37) lk_X6_27_8 rfl rfl rfl (by decide) rfl (Nat.le_of_ble_eq_true rfl) (by decide +kernel) (fun y9 e9 => okX8_copyFrom hl e9) (fun h10 eh10 => ?_)
    refine ab_iconst (pc := 40) (n := 1) (v := nI 1) (by decide +kernel) rfl ?_
    exact ab_zret (pc := 41) (by decide +kernel) rfl ab_bl1.1 rfl (Nat.le_of_ble_eq_true rfl) (Nat.le_of_ble_eq_true rfl)
set_option maxRecDepth 100000 in
set_option maxHeartbeats 4000000 in
theorem okX6_takeBack {l : Launch} (hl : l.stackTraces = false) {x0 : Nat} {x1 : Nat} {h : ab_H} {y : (Int32 × ab_H)} (e : fX6_takeBack x0 x1 h = some y) : ab_Met l mX6_takeBack [.ref x0, .ref x1] h (.inl (some (.int y.1)), y.2) := ab_ofS (io := (fun y : (Int32 × ab_H) => ((.inl (some (.int y.1)), y.2) : ab_R × ab_H))) (x := y) hl (by decide) rfl (Nat.le_of_ble_eq_true rfl) (wX6_takeBack hl x0 x1 h) e
def mX7_readTape : ab_M := (yX7_readTape, cX7_readTape, 5, (some .boolean), { frames := 1, cells := 0, slots := 0, locals := 21 })
theorem iX7_readTape : ab_MI mX7_readTape 2 := ⟨kw_8d5bcfc380, kw_7a4ae534b5, by decide +kernel⟩
theorem lk_X7_43_9 : ab_LV RX7 43 9 mX9_byteAt 1 := ⟨RX9, rfl, iX9_byteAt, kw_87d15de978, kw_6610f83393, kw_f2124ba335⟩
def fX7_readTape_32 (x0 : Nat) (x1 : Nat) : Nat → Int32 → ab_H → Option (Int32 × ab_H)
  | 0, _, _ => none
  | n + 1, x3, h => ab_bd (ab_fi h x1 9 1) fun v8 => (if x3 < v8 then ab_bd (ab_fi h x0 7 7) fun v10 => (if v10 < (nI 12) then ab_ck (ab_io h x1 9 = true) (ab_bd (fX9_byteAt x1 (x3 + (nI 2)) h) fun v12 => ab_ck (ab_io h x1 9 = true) (ab_bd (fX9_byteAt x1 x3 h) fun v13 => ab_bd (ab_fi h x0 7 6) fun v14 => (if v13 < v14 then ab_ck (ab_io h x1 9 = true) (ab_bd (fX9_byteAt x1 (x3 + (nI 1)) h) fun v16 => ab_bd (ab_fi h x0 7 6) fun v17 => (if v16 < v17 then (if v12 ≤ (nI 1) then ab_bd (ab_fr h x0 7 0) fun v20 => ab_bd (ab_fi h x0 7 7) fun v21 => ab_ck (ab_io h x1 9 = true) (ab_bd (fX9_byteAt x1 x3 h) fun v22 => ab_bd (ab_iw 0 h v20 v21 v22) fun h23 => ab_bd (ab_fr h23 x0 7 1) fun v24 => ab_bd (ab_fi h23 x0 7 7) fun v25 => ab_ck (ab_io h23 x1 9 = true) (ab_bd (fX9_byteAt x1 (x3 + (nI 1)) h23) fun v26 => ab_bd (ab_iw 0 h23 v24 v25 v26) fun h27 => ab_bd (ab_fr h27 x0 7 2) fun v28 => ab_bd (ab_fi h27 x0 7 7) fun v29 => ab_jn (κ := Int32 → Option (Int32 × ab_H)) (fun (z30 : Int32) => ab_cb z30 (ab_bd (ab_iw 2 h27 v28 v29 z30) fun h31 => ab_bd (ab_fi h31 x0 7 7) fun v32 => ab_bd (ab_fw h31 x0 7 7 (.int (v32 + (nI 1)))) fun h33 => fX7_readTape_32 x0 x1 n (x3 + nI 3) h33)) fun j35 => (if v12 = (nI 1) then j35 (nI 1) else j35 (nI 0)))) else some (nI 0, h)) else some (nI 0, h))) else some (nI 0, h)))) else some (nI 1, h)) else some (nI 1, h))
def fX7_readTape (F : Nat) (x0 : Nat) (x1 : Nat) (x2 : Int32) (h : ab_H) : Option (Int32 × ab_H) := ab_bd (ab_fw h x0 7 6 (.int x2)) fun h1 => ab_bd (ab_fw h1 x0 7 7 (.int (nI 0))) fun h2 => ab_bd (ab_fi h2 x1 9 1) fun v3 => ab_ck (¬ (nI 3) = 0) ((if (ab_rm v3 (nI 3)) = 0 then ab_bd (ab_fi h2 x1 9 1) fun v6 => (if v6 ≤ (nI 36) then fX7_readTape_32 x0 x1 F (nI 0) h2 else some (nI 0, h2)) else some (nI 0, h2)))
set_option maxRecDepth 100000 in
set_option maxHeartbeats 4000000 in
theorem lX7_readTape_32 {l : Launch} (hl : l.stackTraces = false) (x0 : Nat) (x1 : Nat) : ∀ (n : Nat) (x3 : Int32) (h : ab_H), ab_S l mX7_readTape (fun y : (Int32 × ab_H) => ((.inl (some (.int y.1)), y.2) : ab_R × ab_H)) 0 0 (fX7_readTape_32 x0 x1 n x3 h) 32 [(0, .ref x0), (1, .ref x1), (3, .int x3)] [] h := by
  intro n
  induction n with
  | zero =>
    intro x3 h
    exact ab_none
  | succ n ih =>
    intro x3 h
    rw [fX7_readTape_32]
    refine ab_iload_n (pc := 32) (n := 3) (i := 3) (j := 2) (by decide +kernel) rfl rfl ?_
    refine ab_aload_n (pc := 33) (n := 1) (i := 1) (j := 1) (by decide +kernel) rfl rfl ?_
    refine ab_getI (pc := 34) fl_X7_38_9 (by decide +kernel) (fun v8 ev8 => ?_)
    refine ab_icmp_ge (off := 121) (pc := 37) (tgt := 158) (by decide +kernel) (by decide) (fun g9 => ?_) (fun g9 => ?_)
    · refine ab_aload_n (pc := 40) (n := 0) (i := 0) (j := 0) (by decide +kernel) rfl rfl ?_
      refine ab_getI (pc := 41) fl_X7_35_7 (by decide +kernel) (fun v10 ev10 => ?_)
      refine ab_bipush (pc := 44) (n := 12) (v := nI 12) (by decide +kernel) (by decide) ?_
      refine ab_icmp_ge (off := 112) (pc := 46) (tgt := 158) (by decide +kernel) (by decide) (fun g11 => ?_) (fun g11 => ?_)
      · refine ab_aload_n (pc := 49) (n := 1) (i := 1) (j := 1) (by decide +kernel) rfl rfl ?_
        refine ab_iload_n (pc := 50) (n := 3) (i := 3) (j := 2) (by decide +kernel) rfl rfl ?_
        refine ab_iconst (pc := 51) (n := 2) (v := nI 2) (by decide +kernel) rfl ?_
        refine ab_iadd (pc := 52) (by decide +kernel) ?_
        refine ab_callVi (As := [.int (x3 + (nI 2))]) (st := []) (pc := 53) lk_X7_43_9 rfl rfl rfl (by decide) rfl (Nat.le_of_ble_eq_true rfl) (by decide +kernel) (fun y9 e9 => okX9_byteAt hl e9) (fun v12 ev12 => ?_)
        refine ab_istore (pc := 56) (i := 4) (lv' := [(0, .ref x0), (1, .ref x1), (3, .int x3), (4, .int v12)]) (by decide +kernel) (Nat.le_of_ble_eq_true rfl) rfl rfl ?_
        refine ab_aload_n (pc := 58) (n := 1) (i := 1) (j := 1) (by decide +kernel) rfl rfl ?_
        refine ab_iload_n (pc := 59) (n := 3) (i := 3) (j := 2) (by decide +kernel) rfl rfl ?_
        refine ab_callVi (As := [.int x3]) (st := []) (pc := 60) lk_X7_43_9 rfl rfl rfl (by decide) rfl (Nat.le_of_ble_eq_true rfl) (by decide +kernel) (fun y9 e9 => okX9_byteAt hl e9) (fun v13 ev13 => ?_)
        refine ab_aload_n (pc := 63) (n := 0) (i := 0) (j := 0) (by decide +kernel) rfl rfl ?_
        refine ab_getI (pc := 64) fl_X7_31_7 (by decide +kernel) (fun v14 ev14 => ?_)
        refine ab_icmp_ge (off := 23) (pc := 67) (tgt := 90) (by decide +kernel) (by decide) (fun g15 => ?_) (fun g15 => ?_)
        · refine ab_aload_n (pc := 70) (n := 1) (i := 1) (j := 1) (by decide +kernel) rfl rfl ?_
          refine ab_iload_n (pc := 71) (n := 3) (i := 3) (j := 2) (by decide +kernel) rfl rfl ?_
          refine ab_iconst (pc := 72) (n := 1) (v := nI 1) (by decide +kernel) rfl ?_
          refine ab_iadd (pc := 73) (by decide +kernel) ?_
          refine ab_callVi (As := [.int (x3 + (nI 1))]) (st := []) (pc := 74) lk_X7_43_9 rfl rfl rfl (by decide) rfl (Nat.le_of_ble_eq_true rfl) (by decide +kernel) (fun y9 e9 => okX9_byteAt hl e9) (fun v16 ev16 => ?_)
          refine ab_aload_n (pc := 77) (n := 0) (i := 0) (j := 0) (by decide +kernel) rfl rfl ?_
          refine ab_getI (pc := 78) fl_X7_31_7 (by decide +kernel) (fun v17 ev17 => ?_)
          refine ab_icmp_ge (off := 9) (pc := 81) (tgt := 90) (by decide +kernel) (by decide) (fun g18 => ?_) (fun g18 => ?_)
          · refine ab_iload (pc := 84) (i := 4) (j := 3) (by decide +kernel) rfl ?_
            refine ab_iconst (pc := 86) (n := 1) (v := nI 1) (by decide +kernel) rfl ?_
            refine ab_icmp_le (off := 5) (pc := 87) (tgt := 92) (by decide +kernel) (by decide) (fun g19 => ?_) (fun g19 => ?_)
            · refine ab_aload_n (pc := 92) (n := 0) (i := 0) (j := 0) (by decide +kernel) rfl rfl ?_
              refine ab_getR (pc := 93) fl_X7_9_7 (by decide +kernel) (fun v20 ev20 => ?_)
              refine ab_aload_n (pc := 96) (n := 0) (i := 0) (j := 0) (by decide +kernel) rfl rfl ?_
              refine ab_getI (pc := 97) fl_X7_35_7 (by decide +kernel) (fun v21 ev21 => ?_)
              refine ab_aload_n (pc := 100) (n := 1) (i := 1) (j := 1) (by decide +kernel) rfl rfl ?_
              refine ab_iload_n (pc := 101) (n := 3) (i := 3) (j := 2) (by decide +kernel) rfl rfl ?_
              refine ab_callVi (As := [.int x3]) (st := [.int v21, .ref v20]) (pc := 102) lk_X7_43_9 rfl rfl rfl (by decide) rfl (Nat.le_of_ble_eq_true rfl) (by decide +kernel) (fun y9 e9 => okX9_byteAt hl e9) (fun v22 ev22 => ?_)
              refine ab_iast (pc := 105) (by decide +kernel) (fun h23 eh23 => ?_)
              refine ab_aload_n (pc := 106) (n := 0) (i := 0) (j := 0) (by decide +kernel) rfl rfl ?_
              refine ab_getR (pc := 107) fl_X7_15_7 (by decide +kernel) (fun v24 ev24 => ?_)
              refine ab_aload_n (pc := 110) (n := 0) (i := 0) (j := 0) (by decide +kernel) rfl rfl ?_
              refine ab_getI (pc := 111) fl_X7_35_7 (by decide +kernel) (fun v25 ev25 => ?_)
              refine ab_aload_n (pc := 114) (n := 1) (i := 1) (j := 1) (by decide +kernel) rfl rfl ?_
              refine ab_iload_n (pc := 115) (n := 3) (i := 3) (j := 2) (by decide +kernel) rfl rfl ?_
              refine ab_iconst (pc := 116) (n := 1) (v := nI 1) (by decide +kernel) rfl ?_
              refine ab_iadd (pc := 117) (by decide +kernel) ?_
              refine ab_callVi (As := [.int (x3 + (nI 1))]) (st := [.int v25, .ref v24]) (pc := 118) lk_X7_43_9 rfl rfl rfl (by decide) rfl (Nat.le_of_ble_eq_true rfl) (by decide +kernel) (fun y9 e9 => okX9_byteAt hl e9) (fun v26 ev26 => ?_)
              refine ab_iast (pc := 121) (by decide +kernel) (fun h27 eh27 => ?_)
              refine ab_aload_n (pc := 122) (n := 0) (i := 0) (j := 0) (by decide +kernel) rfl rfl ?_
              refine ab_getR (pc := 123) fl_X7_18_7 (by decide +kernel) (fun v28 ev28 => ?_)
              refine ab_aload_n (pc := 126) (n := 0) (i := 0) (j := 0) (by decide +kernel) rfl rfl ?_
              refine ab_getI (pc := 127) fl_X7_35_7 (by decide +kernel) (fun v29 ev29 => ?_)
              refine ab_iload (pc := 130) (i := 4) (j := 3) (by decide +kernel) rfl ?_
              refine ab_iconst (pc := 132) (n := 1) (v := nI 1) (by decide +kernel) rfl ?_
              refine ab_jr (fun k9 : Int32 → Option (Int32 × ab_H) => ∀ (z30 : Int32), ab_S l mX7_readTape (fun y : (Int32 × ab_H) => ((.inl (some (.int y.1)), y.2) : ab_R × ab_H)) 0 0 (k9 z30) 141 [(0, .ref x0), (1, .ref x1), (3, .int x3)] [.int z30, .int v29, .ref v28] h27) ?_ (fun j35 hj35 => ?_)
              · intro z30
                refine ab_cbr (fun b34 => ?_)
                refine ab_zast (ab_bn b34) (pc := 141) (by decide +kernel) (fun h31 eh31 => ?_)
                refine ab_aload_n (pc := 142) (n := 0) (i := 0) (j := 0) (by decide +kernel) rfl rfl ?_
                refine ab_dup (pc := 143) (by decide +kernel) rfl ?_
                refine ab_getI (pc := 144) fl_X7_35_7 (by decide +kernel) (fun v32 ev32 => ?_)
                refine ab_iconst (pc := 147) (n := 1) (v := nI 1) (by decide +kernel) rfl ?_
                refine ab_iadd (pc := 148) (by decide +kernel) ?_
                refine ab_put (pc := 149) fl_X7_35_7 rfl (fun _ => rfl) (fun _ => rfl) (by decide +kernel) (fun h33 eh33 => ?_)
                refine ab_iinc (pc := 152) (i := 3) (n := 3) (j := 2) (d := nI 3) (lv' := [(0, .ref x0), (1, .ref x1), (3, .int (x3 + nI 3))]) (by decide +kernel) rfl rfl (Nat.le_of_ble_eq_true rfl) rfl rfl ?_
                refine ab_goto (pc := 155) (off := (-123)) (tgt := 32) (by decide +kernel) (by decide) ?_
                exact ih (x3 + nI 3) h33
              · refine ab_icmp_ne (off := 7) (pc := 133) (tgt := 140) (by decide +kernel) (by decide) (fun g36 => ?_) (fun g36 => ?_)
                · refine ab_iconst (pc := 136) (n := 1) (v := nI 1) (by decide +kernel) rfl ?_
                  refine ab_goto (pc := 137) (off := 4) (tgt := 141) (by decide +kernel) (by decide) ?_
                  refine ab_few [0, 1, 2] (lv' := [(0, .ref x0), (1, .ref x1), (3, .int x3)]) rfl ?_
                  exact hj35 (nI 1)
                · refine ab_iconst (pc := 140) (n := 0) (v := nI 0) (by decide +kernel) rfl ?_
                  refine ab_few [0, 1, 2] (lv' := [(0, .ref x0), (1, .ref x1), (3, .int x3)]) rfl ?_
                  exact hj35 (nI 0)
            · refine ab_iconst (pc := 90) (n := 0) (v := nI 0) (by decide +kernel) rfl ?_
              exact ab_zret (pc := 91) (by decide +kernel) rfl ab_bl0.1 rfl (Nat.le_of_ble_eq_true rfl) (Nat.le_of_ble_eq_true rfl)
          · refine ab_iconst (pc := 90) (n := 0) (v := nI 0) (by decide +kernel) rfl ?_
            exact ab_zret (pc := 91) (by decide +kernel) rfl ab_bl0.1 rfl (Nat.le_of_ble_eq_true rfl) (Nat.le_of_ble_eq_true rfl)
        · refine ab_iconst (pc := 90) (n := 0) (v := nI 0) (by decide +kernel) rfl ?_
          exact ab_zret (pc := 91) (by decide +kernel) rfl ab_bl0.1 rfl (Nat.le_of_ble_eq_true rfl) (Nat.le_of_ble_eq_true rfl)
      · refine ab_iconst (pc := 158) (n := 1) (v := nI 1) (by decide +kernel) rfl ?_
        exact ab_zret (pc := 159) (by decide +kernel) rfl ab_bl1.1 rfl (Nat.le_of_ble_eq_true rfl) (Nat.le_of_ble_eq_true rfl)
    · refine ab_iconst (pc := 158) (n := 1) (v := nI 1) (by decide +kernel) rfl ?_
      exact ab_zret (pc := 159) (by decide +kernel) rfl ab_bl1.1 rfl (Nat.le_of_ble_eq_true rfl) (Nat.le_of_ble_eq_true rfl)
set_option maxRecDepth 100000 in
set_option maxHeartbeats 4000000 in
theorem wX7_readTape {l : Launch} (hl : l.stackTraces = false) (F : Nat) (x0 : Nat) (x1 : Nat) (x2 : Int32) (h : ab_H) : ab_S l mX7_readTape (fun y : (Int32 × ab_H) => ((.inl (some (.int y.1)), y.2) : ab_R × ab_H)) 0 0 (fX7_readTape F x0 x1 x2 h) 0 [(0, .ref x0), (1, .ref x1), (2, .int x2)] [] h := by
  unfold fX7_readTape
  refine ab_aload_n (pc := 0) (n := 0) (i := 0) (j := 0) (by decide +kernel) rfl rfl ?_
  refine ab_iload_n (pc := 1) (n := 2) (i := 2) (j := 2) (by decide +kernel) rfl rfl ?_
  refine ab_put (pc := 2) fl_X7_31_7 rfl (fun _ => rfl) (fun _ => rfl) (by decide +kernel) (fun h1 eh1 => ?_)
  refine ab_aload_n (pc := 5) (n := 0) (i := 0) (j := 0) (by decide +kernel) rfl rfl ?_
  refine ab_iconst (pc := 6) (n := 0) (v := nI 0) (by decide +kernel) rfl ?_
  refine ab_put (pc := 7) fl_X7_35_7 rfl (fun _ => rfl) (fun _ => rfl) (by decide +kernel) (fun h2 eh2 => ?_)
  refine ab_aload_n (pc := 10) (n := 1) (i := 1) (j := 1) (by decide +kernel) rfl rfl ?_
  refine ab_getI (pc := 11) fl_X7_38_9 (by decide +kernel) (fun v3 ev3 => ?_)
  refine ab_iconst (pc := 14) (n := 3) (v := nI 3) (by decide +kernel) rfl ?_
  refine ab_irem (pc := 15) (by decide +kernel) (fun g4 => ?_)
  refine ab_if_ne (off := 12) (pc := 16) (tgt := 28) (by decide +kernel) (by decide) (fun g5 => ?_) (fun g5 => ?_)
  · refine ab_aload_n (pc := 19) (n := 1) (i := 1) (j := 1) (by decide +kernel) rfl rfl ?_
    refine ab_getI (pc := 20) fl_X7_38_9 (by decide +kernel) (fun v6 ev6 => ?_)
    refine ab_bipush (pc := 23) (n := 36) (v := nI 36) (by decide +kernel) (by decide) ?_
    refine ab_icmp_le (off := 5) (pc := 25) (tgt := 30) (by decide +kernel) (by decide) (fun g7 => ?_) (fun g7 => ?_)
    · refine ab_iconst (pc := 30) (n := 0) (v := nI 0) (by decide +kernel) rfl ?_
      refine ab_istore_n (pc := 31) (n := 3) (i := 3) (lv' := [(0, .ref x0), (1, .ref x1), (2, .int x2), (3, .int (nI 0))]) (by decide +kernel) rfl (Nat.le_of_ble_eq_true rfl) rfl rfl ?_
      refine ab_few [0, 1, 3] (lv' := [(0, .ref x0), (1, .ref x1), (3, .int (nI 0))]) rfl ?_
      refine lX7_readTape_32 hl x0 x1 F (nI 0) h2
    · refine ab_iconst (pc := 28) (n := 0) (v := nI 0) (by decide +kernel) rfl ?_
      exact ab_zret (pc := 29) (by decide +kernel) rfl ab_bl0.1 rfl (Nat.le_of_ble_eq_true rfl) (Nat.le_of_ble_eq_true rfl)
  · refine ab_iconst (pc := 28) (n := 0) (v := nI 0) (by decide +kernel) rfl ?_
    exact ab_zret (pc := 29) (by decide +kernel) rfl ab_bl0.1 rfl (Nat.le_of_ble_eq_true rfl) (Nat.le_of_ble_eq_true rfl)
set_option maxRecDepth 100000 in
set_option maxHeartbeats 4000000 in
theorem okX7_readTape {l : Launch} (hl : l.stackTraces = false) {F : Nat} {x0 : Nat} {x1 : Nat} {x2 : Int32} {h : ab_H} {y : (Int32 × ab_H)} (e : fX7_readTape F x0 x1 x2 h = some y) : ab_Met l mX7_readTape [.ref x0, .ref x1, .int x2] h (.inl (some (.int y.1)), y.2) := ab_ofS (io := (fun y : (Int32 × ab_H) => ((.inl (some (.int y.1)), y.2) : ab_R × ab_H))) (x := y) hl (by decide) rfl (Nat.le_of_ble_eq_true rfl) (wX7_readTape hl F x0 x1 x2 h) e
def mX7_allowBy : ab_M := (yX7_allowBy, cX7_allowBy, 4, none, { frames := 1, cells := 0, slots := 0, locals := 23 })
theorem iX7_allowBy : ab_MI mX7_allowBy 1 := ⟨kw_49ac383c4b, kw_7a4ae534b5, by decide +kernel⟩
theorem lk_X7_47 : ab_LS RX7 47 mJ7_fill_53178 2 := ⟨iJ7_fill_53178, kw_a07e5b419c, kw_7d558e229b⟩
def fX7_allowBy_17 (F : Nat) (x0 : Nat) (x1 : Int32) : Nat → Int32 → ab_H → Option ab_H
  | 0, _, _ => none
  | n + 1, x2, h => ab_bd (ab_fi h x0 7 7) fun v4 => (if x2 < v4 then ab_bd (fX11_has x1 x2 h) fun v6 => (if v6 = 0 then fX7_allowBy_17 F x0 x1 n (x2 + nI 1) h else ab_bd (ab_fr h x0 7 1) fun v8 => ab_bd (ab_ia 0 h v8 x2) fun v9 => ab_bd (ab_fr h x0 7 3) fun v10 => ab_bd (ab_fr h x0 7 0) fun v11 => ab_bd (ab_ia 0 h v11 x2) fun v12 => ab_bd (ab_ia 0 h v10 v12) fun v13 => ab_bd (ab_fr h x0 7 2) fun v14 => ab_bd (ab_ia 2 h v14 x2) fun v15 => (if v15 = 0 then ab_bd (ab_iw 0 h v10 v12 (v13 &&& (((nI 1) <<< (v9 &&& 31)) ^^^ (-1 : Int32)))) fun h17 => fX7_allowBy_17 F x0 x1 n (x2 + nI 1) h17 else ab_bd (ab_iw 0 h v10 v12 (v13 &&& ((nI 1) <<< (v9 &&& 31)))) fun h18 => fX7_allowBy_17 F x0 x1 n (x2 + nI 1) h18)) else some h)
def fX7_allowBy (F : Nat) (x0 : Nat) (x1 : Int32) (h : ab_H) : Option ab_H := ab_bd (ab_fr h x0 7 3) fun v1 => ab_bd (ab_fi h x0 7 6) fun v2 => ab_bd (fJ7_fill_53178 F v1 (((nI 1) <<< (v2 &&& 31)) - (nI 1)) h) fun h3 => fX7_allowBy_17 F x0 x1 F (nI 0) h3
set_option maxRecDepth 100000 in
set_option maxHeartbeats 4000000 in
theorem lX7_allowBy_17 {l : Launch} (hl : l.stackTraces = false) (F : Nat) (x0 : Nat) (x1 : Int32) : ∀ (n : Nat) (x2 : Int32) (h : ab_H), ab_S l mX7_allowBy (fun y : ab_H => ((.inl none, y) : ab_R × ab_H)) 0 0 (fX7_allowBy_17 F x0 x1 n x2 h) 17 [(0, .ref x0), (1, .int x1), (2, .int x2)] [] h := by
  intro n
  induction n with
  | zero =>
    intro x2 h
    exact ab_none
  | succ n ih =>
    intro x2 h
    rw [fX7_allowBy_17]
    refine ab_iload_n (pc := 17) (n := 2) (i := 2) (j := 2) (by decide +kernel) rfl rfl ?_
    refine ab_aload_n (pc := 18) (n := 0) (i := 0) (j := 0) (by decide +kernel) rfl rfl ?_
    refine ab_getI (pc := 19) fl_X7_35_7 (by decide +kernel) (fun v4 ev4 => ?_)
    refine ab_icmp_ge (off := 56) (pc := 22) (tgt := 78) (by decide +kernel) (by decide) (fun g5 => ?_) (fun g5 => ?_)
    · refine ab_iload_n (pc := 25) (n := 1) (i := 1) (j := 1) (by decide +kernel) rfl rfl ?_
      refine ab_iload_n (pc := 26) (n := 2) (i := 2) (j := 2) (by decide +kernel) rfl rfl ?_
      refine ab_callNi (As := [.int x1, .int x2]) (st := []) (pc := 27) (index := 53) (host := "HungFaces") iX11_has (by show (RX7, 53, yX11_has, "HungFaces") ∈ ab_nm; decide +kernel) kw_b5c7c9a43d rfl rfl rfl (by decide) rfl (Nat.le_of_ble_eq_true rfl) (by decide +kernel) (fun y9 e9 => okX11_has hl e9) (fun v6 ev6 => ?_)
      refine ab_if_eq (off := 42) (pc := 30) (tgt := 72) (by decide +kernel) (by decide) (fun g7 => ?_) (fun g7 => ?_)
      · refine ab_iinc (pc := 72) (i := 2) (n := 1) (j := 2) (d := nI 1) (lv' := [(0, .ref x0), (1, .int x1), (2, .int (x2 + nI 1))]) (by decide +kernel) rfl rfl (Nat.le_of_ble_eq_true rfl) rfl rfl ?_
        refine ab_goto (pc := 75) (off := (-58)) (tgt := 17) (by decide +kernel) (by decide) ?_
        exact ih (x2 + nI 1) h
      · refine ab_iconst (pc := 33) (n := 1) (v := nI 1) (by decide +kernel) rfl ?_
        refine ab_aload_n (pc := 34) (n := 0) (i := 0) (j := 0) (by decide +kernel) rfl rfl ?_
        refine ab_getR (pc := 35) fl_X7_15_7 (by decide +kernel) (fun v8 ev8 => ?_)
        refine ab_iload_n (pc := 38) (n := 2) (i := 2) (j := 2) (by decide +kernel) rfl rfl ?_
        refine ab_iald (pc := 39) (by decide +kernel) (fun v9 ev9 => ?_)
        refine ab_ishl (pc := 40) (by decide +kernel) ?_
        refine ab_istore_n (pc := 41) (n := 3) (i := 3) (lv' := [(0, .ref x0), (1, .int x1), (2, .int x2), (3, .int ((nI 1) <<< (v9 &&& 31)))]) (by decide +kernel) rfl (Nat.le_of_ble_eq_true rfl) rfl rfl ?_
        refine ab_aload_n (pc := 42) (n := 0) (i := 0) (j := 0) (by decide +kernel) rfl rfl ?_
        refine ab_getR (pc := 43) fl_X7_22_7 (by decide +kernel) (fun v10 ev10 => ?_)
        refine ab_aload_n (pc := 46) (n := 0) (i := 0) (j := 0) (by decide +kernel) rfl rfl ?_
        refine ab_getR (pc := 47) fl_X7_9_7 (by decide +kernel) (fun v11 ev11 => ?_)
        refine ab_iload_n (pc := 50) (n := 2) (i := 2) (j := 2) (by decide +kernel) rfl rfl ?_
        refine ab_iald (pc := 51) (by decide +kernel) (fun v12 ev12 => ?_)
        refine ab_dup2 (pc := 52) (by decide +kernel) rfl rfl ?_
        refine ab_iald (pc := 53) (by decide +kernel) (fun v13 ev13 => ?_)
        refine ab_aload_n (pc := 54) (n := 0) (i := 0) (j := 0) (by decide +kernel) rfl rfl ?_
        refine ab_getR (pc := 55) fl_X7_18_7 (by decide +kernel) (fun v14 ev14 => ?_)
        refine ab_iload_n (pc := 58) (n := 2) (i := 2) (j := 2) (by decide +kernel) rfl rfl ?_
        refine ab_zald (pc := 59) (by decide +kernel) (fun v15 ev15 => ?_)
        refine ab_if_eq (off := 7) (pc := 60) (tgt := 67) (by decide +kernel) (by decide) (fun g16 => ?_) (fun g16 => ?_)
        · refine ab_iload_n (pc := 67) (n := 3) (i := 3) (j := 3) (by decide +kernel) rfl rfl ?_
          refine ab_iconst (pc := 68) (n := -1) (v := (-1 : Int32)) (by decide +kernel) rfl ?_
          refine ab_ixor (pc := 69) (by decide +kernel) ?_
          refine ab_iand (pc := 70) (by decide +kernel) ?_
          refine ab_iast (pc := 71) (by decide +kernel) (fun h17 eh17 => ?_)
          refine ab_iinc (pc := 72) (i := 2) (n := 1) (j := 2) (d := nI 1) (lv' := [(0, .ref x0), (1, .int x1), (2, .int (x2 + nI 1)), (3, .int ((nI 1) <<< (v9 &&& 31)))]) (by decide +kernel) rfl rfl (Nat.le_of_ble_eq_true rfl) rfl rfl ?_
          refine ab_goto (pc := 75) (off := (-58)) (tgt := 17) (by decide +kernel) (by decide) ?_
          refine ab_few [0, 1, 2] (lv' := [(0, .ref x0), (1, .int x1), (2, .int (x2 + nI 1))]) rfl ?_
          exact ih (x2 + nI 1) h17
        · refine ab_iload_n (pc := 63) (n := 3) (i := 3) (j := 3) (by decide +kernel) rfl rfl ?_
          refine ab_goto (pc := 64) (off := 6) (tgt := 70) (by decide +kernel) (by decide) ?_
          refine ab_iand (pc := 70) (by decide +kernel) ?_
          refine ab_iast (pc := 71) (by decide +kernel) (fun h18 eh18 => ?_)
          refine ab_iinc (pc := 72) (i := 2) (n := 1) (j := 2) (d := nI 1) (lv' := [(0, .ref x0), (1, .int x1), (2, .int (x2 + nI 1)), (3, .int ((nI 1) <<< (v9 &&& 31)))]) (by decide +kernel) rfl rfl (Nat.le_of_ble_eq_true rfl) rfl rfl ?_
          refine ab_goto (pc := 75) (off := (-58)) (tgt := 17) (by decide +kernel) (by decide) ?_
          refine ab_few [0, 1, 2] (lv' := [(0, .ref x0), (1, .int x1), (2, .int (x2 + nI 1))]) rfl ?_
          exact ih (x2 + nI 1) h18
    · exact ab_vret (pc := 78) (by decide +kernel) rfl rfl (Nat.le_of_ble_eq_true rfl) (Nat.le_of_ble_eq_true rfl)
set_option maxRecDepth 100000 in
set_option maxHeartbeats 4000000 in
theorem wX7_allowBy {l : Launch} (hl : l.stackTraces = false) (F : Nat) (x0 : Nat) (x1 : Int32) (h : ab_H) : ab_S l mX7_allowBy (fun y : ab_H => ((.inl none, y) : ab_R × ab_H)) 0 0 (fX7_allowBy F x0 x1 h) 0 [(0, .ref x0), (1, .int x1)] [] h := by
  unfold fX7_allowBy
  refine ab_aload_n (pc := 0) (n := 0) (i := 0) (j := 0) (by decide +kernel) rfl rfl ?_
  refine ab_getR (pc := 1) fl_X7_22_7 (by decide +kernel) (fun v1 ev1 => ?_)
  refine ab_iconst (pc := 4) (n := 1) (v := nI 1) (by decide +kernel) rfl ?_
  refine ab_aload_n (pc := 5) (n := 0) (i := 0) (j := 0) (by decide +kernel) rfl rfl ?_
  refine ab_getI (pc := 6) fl_X7_31_7 (by decide +kernel) (fun v2 ev2 => ?_)
  refine ab_ishl (pc := 9) (by decide +kernel) ?_
  refine ab_iconst (pc := 10) (n := 1) (v := nI 1) (by decide +kernel) rfl ?_
  refine ab_isub (pc := 11) (by decide +kernel) ?_
  refine ab_callSw (As := [.ref v1, .int (((nI 1) <<< (v2 &&& 31)) - (nI 1))]) (st := []) (pc := 12) lk_X7_47 rfl rfl rfl (by decide) rfl (Nat.le_of_ble_eq_true rfl) (by decide +kernel) (fun y9 e9 => okJ7_fill_53178 hl (F := F) e9) (fun h3 eh3 => ?_)
  refine ab_iconst (pc := 15) (n := 0) (v := nI 0) (by decide +kernel) rfl ?_
  refine ab_istore_n (pc := 16) (n := 2) (i := 2) (lv' := [(0, .ref x0), (1, .int x1), (2, .int (nI 0))]) (by decide +kernel) rfl (Nat.le_of_ble_eq_true rfl) rfl rfl ?_
  refine lX7_allowBy_17 hl F x0 x1 F (nI 0) h3
set_option maxRecDepth 100000 in
set_option maxHeartbeats 4000000 in
theorem okX7_allowBy {l : Launch} (hl : l.stackTraces = false) {F : Nat} {x0 : Nat} {x1 : Int32} {h : ab_H} {y : ab_H} (e : fX7_allowBy F x0 x1 h = some y) : ab_Met l mX7_allowBy [.ref x0, .int x1] h (.inl none, y) := ab_ofS (io := (fun y : ab_H => ((.inl none, y) : ab_R × ab_H))) (x := y) hl (by decide) rfl (Nat.le_of_ble_eq_true rfl) (wX7_allowBy hl F x0 x1 h) e
def mX7_countOwners : ab_M := (yX7_countOwners, cX7_countOwners, 5, (some .int), { frames := 1, cells := 0, slots := 0, locals := 23 })
theorem iX7_countOwners : ab_MI mX7_countOwners 0 := ⟨kw_0cbbc3d115, kw_7a4ae534b5, by decide +kernel⟩
theorem lk_X7_65 : ab_LS RX7 65 mJ6_bitCount_0f7a4 1 := ⟨iJ6_bitCount_0f7a4, kw_c92199e964, kw_8cce87de8d⟩
def fX7_countOwners_39 (F : Nat) (x0 : Nat) (x1 : Int32) (x2 : Int32) (x3 : Int32) (k101 : ab_H → Option (Int32 × ab_H)) : Nat → Int32 → ab_H → Option (Int32 × ab_H)
  | 0, _, _ => none
  | n + 1, x4, h => ab_bd (ab_fi h x0 7 6) fun v8 => (if x4 < v8 then ab_bd (ab_fr h x0 7 5) fun v10 => ab_bd (ab_ia 0 h v10 x2) fun v11 => (if v11 = 0 then k101 h else ab_bd (ab_fr h x0 7 3) fun v13 => ab_bd (ab_ia 0 h v13 x3) fun v14 => ab_bd (fX11_has (v14 &&& (x2 ^^^ (-1 : Int32))) x4 h) fun v15 => (if v15 = 0 then fX7_countOwners_39 F x0 x1 x2 x3 k101 n (x4 + nI 1) h else ab_bd (ab_fr h x0 7 5) fun v17 => ab_bd (ab_ia 0 h v17 (x2 ||| ((nI 1) <<< (x4 &&& 31)))) fun v18 => ab_bd (ab_fr h x0 7 5) fun v19 => ab_bd (ab_ia 0 h v19 x2) fun v20 => ab_bd (ab_iw 0 h v17 (x2 ||| ((nI 1) <<< (x4 &&& 31))) (v18 + v20)) fun h21 => fX7_countOwners_39 F x0 x1 x2 x3 k101 n (x4 + nI 1) h21)) else k101 h)
def fX7_countOwners_26 (F : Nat) (x0 : Nat) (x1 : Int32) : Nat → Int32 → ab_H → Option (Int32 × ab_H)
  | 0, _, _ => none
  | n + 1, x2, h => (if x2 < x1 then ab_bd (fJ6_bitCount_0f7a4 x2 h) fun v7 => fX7_countOwners_39 F x0 x1 x2 v7 (fun (h22 : ab_H) => fX7_countOwners_26 F x0 x1 n (x2 + nI 1) h22) F (nI 0) h else ab_bd (ab_fr h x0 7 5) fun v23 => ab_bd (ab_ia 0 h v23 x1) fun v24 => some (v24, h))
def fX7_countOwners (F : Nat) (x0 : Nat) (h : ab_H) : Option (Int32 × ab_H) := ab_bd (ab_fi h x0 7 6) fun v1 => ab_bd (ab_fr h x0 7 5) fun v2 => ab_bd (fJ7_fill_53178 F v2 (nI 0) h) fun h3 => ab_bd (ab_fr h3 x0 7 5) fun v4 => ab_bd (ab_iw 0 h3 v4 (nI 0) (nI 1)) fun h5 => fX7_countOwners_26 F x0 (((nI 1) <<< (v1 &&& 31)) - (nI 1)) F (nI 0) h5
set_option maxRecDepth 100000 in
set_option maxHeartbeats 4000000 in
theorem lX7_countOwners_39 {l : Launch} (hl : l.stackTraces = false) (F : Nat) (x0 : Nat) (x1 : Int32) (x2 : Int32) (x3 : Int32) {k101 : ab_H → Option (Int32 × ab_H)} (hk101 : ∀ (h : ab_H), ab_S l mX7_countOwners (fun y : (Int32 × ab_H) => ((.inl (some (.int y.1)), y.2) : ab_R × ab_H)) 0 0 (k101 h) 101 [(0, .ref x0), (1, .int x1), (2, .int x2)] [] h) : ∀ (n : Nat) (x4 : Int32) (h : ab_H), ab_S l mX7_countOwners (fun y : (Int32 × ab_H) => ((.inl (some (.int y.1)), y.2) : ab_R × ab_H)) 0 0 (fX7_countOwners_39 F x0 x1 x2 x3 k101 n x4 h) 39 [(0, .ref x0), (1, .int x1), (2, .int x2), (3, .int x3), (4, .int x4)] [] h := by
  intro n
  induction n with
  | zero =>
    intro x4 h
    exact ab_none
  | succ n ih =>
    intro x4 h
    rw [fX7_countOwners_39]
    refine ab_iload (pc := 39) (i := 4) (j := 4) (by decide +kernel) rfl ?_
    refine ab_aload_n (pc := 41) (n := 0) (i := 0) (j := 0) (by decide +kernel) rfl rfl ?_
    refine ab_getI (pc := 42) fl_X7_31_7 (by decide +kernel) (fun v8 ev8 => ?_)
    refine ab_icmp_ge (off := 56) (pc := 45) (tgt := 101) (by decide +kernel) (by decide) (fun g9 => ?_) (fun g9 => ?_)
    · refine ab_aload_n (pc := 48) (n := 0) (i := 0) (j := 0) (by decide +kernel) rfl rfl ?_
      refine ab_getR (pc := 49) fl_X7_28_7 (by decide +kernel) (fun v10 ev10 => ?_)
      refine ab_iload_n (pc := 52) (n := 2) (i := 2) (j := 2) (by decide +kernel) rfl rfl ?_
      refine ab_iald (pc := 53) (by decide +kernel) (fun v11 ev11 => ?_)
      refine ab_if_eq (off := 47) (pc := 54) (tgt := 101) (by decide +kernel) (by decide) (fun g12 => ?_) (fun g12 => ?_)
      · refine ab_few [0, 1, 2] (lv' := [(0, .ref x0), (1, .int x1), (2, .int x2)]) rfl ?_
        exact hk101 h
      · refine ab_aload_n (pc := 57) (n := 0) (i := 0) (j := 0) (by decide +kernel) rfl rfl ?_
        refine ab_getR (pc := 58) fl_X7_22_7 (by decide +kernel) (fun v13 ev13 => ?_)
        refine ab_iload_n (pc := 61) (n := 3) (i := 3) (j := 3) (by decide +kernel) rfl rfl ?_
        refine ab_iald (pc := 62) (by decide +kernel) (fun v14 ev14 => ?_)
        refine ab_iload_n (pc := 63) (n := 2) (i := 2) (j := 2) (by decide +kernel) rfl rfl ?_
        refine ab_iconst (pc := 64) (n := -1) (v := (-1 : Int32)) (by decide +kernel) rfl ?_
        refine ab_ixor (pc := 65) (by decide +kernel) ?_
        refine ab_iand (pc := 66) (by decide +kernel) ?_
        refine ab_iload (pc := 67) (i := 4) (j := 4) (by decide +kernel) rfl ?_
        refine ab_callNi (As := [.int (v14 &&& (x2 ^^^ (-1 : Int32))), .int x4]) (st := []) (pc := 69) (index := 53) (host := "HungFaces") iX11_has (by show (RX7, 53, yX11_has, "HungFaces") ∈ ab_nm; decide +kernel) kw_b5c7c9a43d rfl rfl rfl (by decide) rfl (Nat.le_of_ble_eq_true rfl) (by decide +kernel) (fun y9 e9 => okX11_has hl e9) (fun v15 ev15 => ?_)
        refine ab_if_eq (off := 23) (pc := 72) (tgt := 95) (by decide +kernel) (by decide) (fun g16 => ?_) (fun g16 => ?_)
        · refine ab_iinc (pc := 95) (i := 4) (n := 1) (j := 4) (d := nI 1) (lv' := [(0, .ref x0), (1, .int x1), (2, .int x2), (3, .int x3), (4, .int (x4 + nI 1))]) (by decide +kernel) rfl rfl (Nat.le_of_ble_eq_true rfl) rfl rfl ?_
          refine ab_goto (pc := 98) (off := (-59)) (tgt := 39) (by decide +kernel) (by decide) ?_
          exact ih (x4 + nI 1) h
        · refine ab_aload_n (pc := 75) (n := 0) (i := 0) (j := 0) (by decide +kernel) rfl rfl ?_
          refine ab_getR (pc := 76) fl_X7_28_7 (by decide +kernel) (fun v17 ev17 => ?_)
          refine ab_iload_n (pc := 79) (n := 2) (i := 2) (j := 2) (by decide +kernel) rfl rfl ?_
          refine ab_iconst (pc := 80) (n := 1) (v := nI 1) (by decide +kernel) rfl ?_
          refine ab_iload (pc := 81) (i := 4) (j := 4) (by decide +kernel) rfl ?_
          refine ab_ishl (pc := 83) (by decide +kernel) ?_
          refine ab_ior (pc := 84) (by decide +kernel) ?_
          refine ab_dup2 (pc := 85) (by decide +kernel) rfl rfl ?_
          refine ab_iald (pc := 86) (by decide +kernel) (fun v18 ev18 => ?_)
          refine ab_aload_n (pc := 87) (n := 0) (i := 0) (j := 0) (by decide +kernel) rfl rfl ?_
          refine ab_getR (pc := 88) fl_X7_28_7 (by decide +kernel) (fun v19 ev19 => ?_)
          refine ab_iload_n (pc := 91) (n := 2) (i := 2) (j := 2) (by decide +kernel) rfl rfl ?_
          refine ab_iald (pc := 92) (by decide +kernel) (fun v20 ev20 => ?_)
          refine ab_iadd (pc := 93) (by decide +kernel) ?_
          refine ab_iast (pc := 94) (by decide +kernel) (fun h21 eh21 => ?_)
          refine ab_iinc (pc := 95) (i := 4) (n := 1) (j := 4) (d := nI 1) (lv' := [(0, .ref x0), (1, .int x1), (2, .int x2), (3, .int x3), (4, .int (x4 + nI 1))]) (by decide +kernel) rfl rfl (Nat.le_of_ble_eq_true rfl) rfl rfl ?_
          refine ab_goto (pc := 98) (off := (-59)) (tgt := 39) (by decide +kernel) (by decide) ?_
          exact ih (x4 + nI 1) h21
    · refine ab_few [0, 1, 2] (lv' := [(0, .ref x0), (1, .int x1), (2, .int x2)]) rfl ?_
      exact hk101 h
set_option maxRecDepth 100000 in
set_option maxHeartbeats 4000000 in
theorem lX7_countOwners_26 {l : Launch} (hl : l.stackTraces = false) (F : Nat) (x0 : Nat) (x1 : Int32) : ∀ (n : Nat) (x2 : Int32) (h : ab_H), ab_S l mX7_countOwners (fun y : (Int32 × ab_H) => ((.inl (some (.int y.1)), y.2) : ab_R × ab_H)) 0 0 (fX7_countOwners_26 F x0 x1 n x2 h) 26 [(0, .ref x0), (1, .int x1), (2, .int x2)] [] h := by
  intro n
  induction n with
  | zero =>
    intro x2 h
    exact ab_none
  | succ n ih =>
    intro x2 h
    rw [fX7_countOwners_26]
    refine ab_iload_n (pc := 26) (n := 2) (i := 2) (j := 2) (by decide +kernel) rfl rfl ?_
    refine ab_iload_n (pc := 27) (n := 1) (i := 1) (j := 1) (by decide +kernel) rfl rfl ?_
    refine ab_icmp_ge (off := 79) (pc := 28) (tgt := 107) (by decide +kernel) (by decide) (fun g6 => ?_) (fun g6 => ?_)
    · refine ab_iload_n (pc := 31) (n := 2) (i := 2) (j := 2) (by decide +kernel) rfl rfl ?_
      refine ab_callSi (As := [.int x2]) (st := []) (pc := 32) lk_X7_65 rfl rfl rfl (by decide) rfl (Nat.le_of_ble_eq_true rfl) (by decide +kernel) (fun y9 e9 => okJ6_bitCount_0f7a4 hl e9) (fun v7 ev7 => ?_)
      refine ab_istore_n (pc := 35) (n := 3) (i := 3) (lv' := [(0, .ref x0), (1, .int x1), (2, .int x2), (3, .int v7)]) (by decide +kernel) rfl (Nat.le_of_ble_eq_true rfl) rfl rfl ?_
      refine ab_iconst (pc := 36) (n := 0) (v := nI 0) (by decide +kernel) rfl ?_
      refine ab_istore (pc := 37) (i := 4) (lv' := [(0, .ref x0), (1, .int x1), (2, .int x2), (3, .int v7), (4, .int (nI 0))]) (by decide +kernel) (Nat.le_of_ble_eq_true rfl) rfl rfl ?_
      refine lX7_countOwners_39 hl F x0 x1 x2 v7 ?_ F (nI 0) h
      intro h22
      refine ab_iinc (pc := 101) (i := 2) (n := 1) (j := 2) (d := nI 1) (lv' := [(0, .ref x0), (1, .int x1), (2, .int (x2 + nI 1))]) (by decide +kernel) rfl rfl (Nat.le_of_ble_eq_true rfl) rfl rfl ?_
      refine ab_goto (pc := 104) (off := (-78)) (tgt := 26) (by decide +kernel) (by decide) ?_
      exact ih (x2 + nI 1) h22
    · refine ab_aload_n (pc := 107) (n := 0) (i := 0) (j := 0) (by decide +kernel) rfl rfl ?_
      refine ab_getR (pc := 108) fl_X7_28_7 (by decide +kernel) (fun v23 ev23 => ?_)
      refine ab_iload_n (pc := 111) (n := 1) (i := 1) (j := 1) (by decide +kernel) rfl rfl ?_
      refine ab_iald (pc := 112) (by decide +kernel) (fun v24 ev24 => ?_)
      exact ab_iret (pc := 113) (by decide +kernel) rfl rfl (Nat.le_of_ble_eq_true rfl) (Nat.le_of_ble_eq_true rfl)
set_option maxRecDepth 100000 in
set_option maxHeartbeats 4000000 in
theorem wX7_countOwners {l : Launch} (hl : l.stackTraces = false) (F : Nat) (x0 : Nat) (h : ab_H) : ab_S l mX7_countOwners (fun y : (Int32 × ab_H) => ((.inl (some (.int y.1)), y.2) : ab_R × ab_H)) 0 0 (fX7_countOwners F x0 h) 0 [(0, .ref x0)] [] h := by
  unfold fX7_countOwners
  refine ab_iconst (pc := 0) (n := 1) (v := nI 1) (by decide +kernel) rfl ?_
  refine ab_aload_n (pc := 1) (n := 0) (i := 0) (j := 0) (by decide +kernel) rfl rfl ?_
  refine ab_getI (pc := 2) fl_X7_31_7 (by decide +kernel) (fun v1 ev1 => ?_)
  refine ab_ishl (pc := 5) (by decide +kernel) ?_
  refine ab_iconst (pc := 6) (n := 1) (v := nI 1) (by decide +kernel) rfl ?_
  refine ab_isub (pc := 7) (by decide +kernel) ?_
  refine ab_istore_n (pc := 8) (n := 1) (i := 1) (lv' := [(0, .ref x0), (1, .int (((nI 1) <<< (v1 &&& 31)) - (nI 1)))]) (by decide +kernel) rfl (Nat.le_of_ble_eq_true rfl) rfl rfl ?_
  refine ab_aload_n (pc := 9) (n := 0) (i := 0) (j := 0) (by decide +kernel) rfl rfl ?_
  refine ab_getR (pc := 10) fl_X7_28_7 (by decide +kernel) (fun v2 ev2 => ?_)
  refine ab_iconst (pc := 13) (n := 0) (v := nI 0) (by decide +kernel) rfl ?_
  refine ab_callSw (As := [.ref v2, .int (nI 0)]) (st := []) (pc := 14) lk_X7_47 rfl rfl rfl (by decide) rfl (Nat.le_of_ble_eq_true rfl) (by decide +kernel) (fun y9 e9 => okJ7_fill_53178 hl (F := F) e9) (fun h3 eh3 => ?_)
  refine ab_aload_n (pc := 17) (n := 0) (i := 0) (j := 0) (by decide +kernel) rfl rfl ?_
  refine ab_getR (pc := 18) fl_X7_28_7 (by decide +kernel) (fun v4 ev4 => ?_)
  refine ab_iconst (pc := 21) (n := 0) (v := nI 0) (by decide +kernel) rfl ?_
  refine ab_iconst (pc := 22) (n := 1) (v := nI 1) (by decide +kernel) rfl ?_
  refine ab_iast (pc := 23) (by decide +kernel) (fun h5 eh5 => ?_)
  refine ab_iconst (pc := 24) (n := 0) (v := nI 0) (by decide +kernel) rfl ?_
  refine ab_istore_n (pc := 25) (n := 2) (i := 2) (lv' := [(0, .ref x0), (1, .int (((nI 1) <<< (v1 &&& 31)) - (nI 1))), (2, .int (nI 0))]) (by decide +kernel) rfl (Nat.le_of_ble_eq_true rfl) rfl rfl ?_
  refine lX7_countOwners_26 hl F x0 (((nI 1) <<< (v1 &&& 31)) - (nI 1)) F (nI 0) h5
set_option maxRecDepth 100000 in
set_option maxHeartbeats 4000000 in
theorem okX7_countOwners {l : Launch} (hl : l.stackTraces = false) {F : Nat} {x0 : Nat} {h : ab_H} {y : (Int32 × ab_H)} (e : fX7_countOwners F x0 h = some y) : ab_Met l mX7_countOwners [.ref x0] h (.inl (some (.int y.1)), y.2) := ab_ofS (io := (fun y : (Int32 × ab_H) => ((.inl (some (.int y.1)), y.2) : ab_R × ab_H))) (x := y) hl (by decide) rfl (Nat.le_of_ble_eq_true rfl) (wX7_countOwners hl F x0 h) e
def mX7_canBe : ab_M := (yX7_canBe, cX7_canBe, 3, (some .boolean), { frames := 13, cells := 0, slots := 0, locals := 297 })
theorem iX7_canBe : ab_MI mX7_canBe 1 := ⟨kw_c5b6a2da47, kw_7a4ae534b5, by decide +kernel⟩
theorem lk_X7_57_7 : ab_LV RX7 57 7 mX7_allowBy 1 := ⟨RX7, rfl, iX7_allowBy, kw_65c3a52e43, kw_57aa26b26b, kw_c896f58a87⟩
def fX7_canBe_15 (F : Nat) (x0 : Nat) : Nat → Int32 → ab_H → Option (Int32 × ab_H)
  | 0, _, _ => none
  | n + 1, x2, h => ab_bd (ab_fi h x0 7 6) fun v4 => (if x2 < v4 then ab_bd (ab_fw h x0 7 8 (.int (nI 0))) fun h6 => ab_ck (ab_io h6 x0 7 = true) (ab_bd (fX7_findsFaceT F x0 x2 (nI 0) h6) fun v7 => (if v7.1 = 0 then some (nI 0, v7.2) else fX7_canBe_15 F x0 n (x2 + nI 1) v7.2)) else some (nI 1, h))
def fX7_canBe (F : Nat) (x0 : Nat) (x1 : Int32) (h : ab_H) : Option (Int32 × ab_H) := ab_ck (ab_io h x0 7 = true) (ab_bd (fX7_allowBy F x0 x1 h) fun h1 => ab_bd (ab_fr h1 x0 7 4) fun v2 => ab_bd (fJ7_fill_53178 F v2 (-1 : Int32) h1) fun h3 => fX7_canBe_15 F x0 F (nI 0) h3)
set_option maxRecDepth 100000 in
set_option maxHeartbeats 4000000 in
theorem lX7_canBe_15 {l : Launch} (hl : l.stackTraces = false) (F : Nat) (x0 : Nat) : ∀ (n : Nat) (x2 : Int32) (h : ab_H), ab_S l mX7_canBe (fun y : (Int32 × ab_H) => ((.inl (some (.int y.1)), y.2) : ab_R × ab_H)) 0 0 (fX7_canBe_15 F x0 n x2 h) 15 [(0, .ref x0), (2, .int x2)] [] h := by
  intro n
  induction n with
  | zero =>
    intro x2 h
    exact ab_none
  | succ n ih =>
    intro x2 h
    rw [fX7_canBe_15]
    refine ab_iload_n (pc := 15) (n := 2) (i := 2) (j := 1) (by decide +kernel) rfl rfl ?_
    refine ab_aload_n (pc := 16) (n := 0) (i := 0) (j := 0) (by decide +kernel) rfl rfl ?_
    refine ab_getI (pc := 17) fl_X7_31_7 (by decide +kernel) (fun v4 ev4 => ?_)
    refine ab_icmp_ge (off := 25) (pc := 20) (tgt := 45) (by decide +kernel) (by decide) (fun g5 => ?_) (fun g5 => ?_)
    · refine ab_aload_n (pc := 23) (n := 0) (i := 0) (j := 0) (by decide +kernel) rfl rfl ?_
      refine ab_iconst (pc := 24) (n := 0) (v := nI 0) (by decide +kernel) rfl ?_
      refine ab_put (pc := 25) fl_X7_89_7 rfl (fun _ => rfl) (fun _ => rfl) (by decide +kernel) (fun h6 eh6 => ?_)
      refine ab_aload_n (pc := 28) (n := 0) (i := 0) (j := 0) (by decide +kernel) rfl rfl ?_
      refine ab_iload_n (pc := 29) (n := 2) (i := 2) (j := 1) (by decide +kernel) rfl rfl ?_
      refine ab_iconst (pc := 30) (n := 0) (v := nI 0) (by decide +kernel) rfl ?_
      refine ab_callVj (As := [.int x2, .int (nI 0)]) (st := []) (pc := 31) (lk_X7_92_7 11) rfl rfl rfl (by decide) rfl (Nat.le_of_ble_eq_true rfl) (by decide +kernel) (fun y9 e9 => okX7_findsFaceT hl (F := F) e9) (fun v7 ev7 => ?_)
      refine ab_if_ne (off := 5) (pc := 34) (tgt := 39) (by decide +kernel) (by decide) (fun g8 => ?_) (fun g8 => ?_)
      · refine ab_iconst (pc := 37) (n := 0) (v := nI 0) (by decide +kernel) rfl ?_
        exact ab_zret (pc := 38) (by decide +kernel) rfl ab_bl0.1 rfl (Nat.le_of_ble_eq_true rfl) (Nat.le_of_ble_eq_true rfl)
      · refine ab_iinc (pc := 39) (i := 2) (n := 1) (j := 1) (d := nI 1) (lv' := [(0, .ref x0), (2, .int (x2 + nI 1))]) (by decide +kernel) rfl rfl (Nat.le_of_ble_eq_true rfl) rfl rfl ?_
        refine ab_goto (pc := 42) (off := (-27)) (tgt := 15) (by decide +kernel) (by decide) ?_
        exact ih (x2 + nI 1) v7.2
    · refine ab_iconst (pc := 45) (n := 1) (v := nI 1) (by decide +kernel) rfl ?_
      exact ab_zret (pc := 46) (by decide +kernel) rfl ab_bl1.1 rfl (Nat.le_of_ble_eq_true rfl) (Nat.le_of_ble_eq_true rfl)
set_option maxRecDepth 100000 in
set_option maxHeartbeats 4000000 in
theorem wX7_canBe {l : Launch} (hl : l.stackTraces = false) (F : Nat) (x0 : Nat) (x1 : Int32) (h : ab_H) : ab_S l mX7_canBe (fun y : (Int32 × ab_H) => ((.inl (some (.int y.1)), y.2) : ab_R × ab_H)) 0 0 (fX7_canBe F x0 x1 h) 0 [(0, .ref x0), (1, .int x1)] [] h := by
  unfold fX7_canBe
  refine ab_aload_n (pc := 0) (n := 0) (i := 0) (j := 0) (by decide +kernel) rfl rfl ?_
  refine ab_iload_n (pc := 1) (n := 1) (i := 1) (j := 1) (by decide +kernel) rfl rfl ?_
  refine ab_callVw (As := [.int x1]) (st := []) (pc := 2) lk_X7_57_7 rfl rfl rfl (by decide) rfl (Nat.le_of_ble_eq_true rfl) (by decide +kernel) (fun y9 e9 => okX7_allowBy hl (F := F) e9) (fun h1 eh1 => ?_)
  refine ab_aload_n (pc := 5) (n := 0) (i := 0) (j := 0) (by decide +kernel) rfl rfl ?_
  refine ab_getR (pc := 6) fl_X7_25_7 (by decide +kernel) (fun v2 ev2 => ?_)
  refine ab_iconst (pc := 9) (n := -1) (v := (-1 : Int32)) (by decide +kernel) rfl ?_
  refine ab_callSw (As := [.ref v2, .int (-1 : Int32)]) (st := []) (pc := 10) lk_X7_47 rfl rfl rfl (by decide) rfl (Nat.le_of_ble_eq_true rfl) (by decide +kernel) (fun y9 e9 => okJ7_fill_53178 hl (F := F) e9) (fun h3 eh3 => ?_)
  refine ab_iconst (pc := 13) (n := 0) (v := nI 0) (by decide +kernel) rfl ?_
  refine ab_istore_n (pc := 14) (n := 2) (i := 2) (lv' := [(0, .ref x0), (1, .int x1), (2, .int (nI 0))]) (by decide +kernel) rfl (Nat.le_of_ble_eq_true rfl) rfl rfl ?_
  refine ab_few [0, 2] (lv' := [(0, .ref x0), (2, .int (nI 0))]) rfl ?_
  refine lX7_canBe_15 hl F x0 F (nI 0) h3
set_option maxRecDepth 100000 in
set_option maxHeartbeats 4000000 in
theorem okX7_canBe {l : Launch} (hl : l.stackTraces = false) {F : Nat} {x0 : Nat} {x1 : Int32} {h : ab_H} {y : (Int32 × ab_H)} (e : fX7_canBe F x0 x1 h = some y) : ab_Met l mX7_canBe [.ref x0, .int x1] h (.inl (some (.int y.1)), y.2) := ab_ofS (io := (fun y : (Int32 × ab_H) => ((.inl (some (.int y.1)), y.2) : ab_R × ab_H))) (x := y) hl (by decide) rfl (Nat.le_of_ble_eq_true rfl) (wX7_canBe hl F x0 x1 h) e
def mX8_setWishes : ab_M := (yX8_setWishes, cX8_setWishes, 7, none, { frames := 1, cells := 0, slots := 0, locals := 21 })
theorem iX8_setWishes : ab_MI mX8_setWishes 3 := ⟨kw_a2164676d1, kw_a869362287, by decide +kernel⟩
def fX8_setWishes_12 (F : Nat) (x0 : Nat) (x2 : Nat) (x3 : Int32) (k56 : Int32 → Int32 → ab_H → Option ab_H) : Nat → Int32 → Int32 → Int32 → ab_H → Option ab_H
  | 0, _, _, _, _ => none
  | n + 1, x4, x5, x6, h => (if x6 < x3 then ab_bd (ab_al h x2) fun v2 => (if x6 < v2 then ab_bd (ab_ia 0 h x2 x6) fun v4 => ab_bd (ab_fr h x0 8 16) fun v5 => ab_bd (ab_ia 0 h x2 x6) fun v6 => ab_bd (ab_iw 0 h v5 x5 v6) fun h7 => fX8_setWishes_12 F x0 x2 x3 k56 n (x4 ||| ((nI 1) <<< (v4 &&& 31))) (x5 + nI 1) (x6 + nI 1) h7 else k56 x4 x5 h) else k56 x4 x5 h)
def fX8_setWishes_59 (F : Nat) (x0 : Nat) (x4 : Int32) : Nat → Int32 → Int32 → ab_H → Option ab_H
  | 0, _, _, _ => none
  | n + 1, x5, x6, h => ab_bd (ab_fi h x0 8 0) fun v11 => (if x6 < v11 then ab_bd (fX11_has x4 x6 h) fun v13 => (if v13 = 0 then ab_bd (ab_fr h x0 8 16) fun v15 => ab_bd (ab_iw 0 h v15 x5 x6) fun h16 => fX8_setWishes_59 F x0 x4 n (x5 + nI 1) (x6 + nI 1) h16 else fX8_setWishes_59 F x0 x4 n x5 (x6 + nI 1) h) else some h)
def fX8_setWishes (F : Nat) (x0 : Nat) (x1 : Int32) (x2 : Nat) (x3 : Int32) (h : ab_H) : Option ab_H := fX8_setWishes_12 F x0 x2 x3 (fun (z8 : Int32) (z9 : Int32) (h10 : ab_H) => fX8_setWishes_59 F x0 z8 F z9 (nI 0) h10) F (nI 0) (x1 * (nI 10)) (nI 0) h
set_option maxRecDepth 100000 in
set_option maxHeartbeats 4000000 in
theorem lX8_setWishes_12 {l : Launch} (hl : l.stackTraces = false) (F : Nat) (x0 : Nat) (x2 : Nat) (x3 : Int32) {k56 : Int32 → Int32 → ab_H → Option ab_H} (hk56 : ∀ (x4 : Int32), ∀ (x5 : Int32), ∀ (h : ab_H), ab_S l mX8_setWishes (fun y : ab_H => ((.inl none, y) : ab_R × ab_H)) 0 0 (k56 x4 x5 h) 56 [(0, .ref x0), (4, .int x4), (5, .int x5)] [] h) : ∀ (n : Nat) (x4 : Int32) (x5 : Int32) (x6 : Int32) (h : ab_H), ab_S l mX8_setWishes (fun y : ab_H => ((.inl none, y) : ab_R × ab_H)) 0 0 (fX8_setWishes_12 F x0 x2 x3 k56 n x4 x5 x6 h) 12 [(0, .ref x0), (2, .ref x2), (3, .int x3), (4, .int x4), (5, .int x5), (6, .int x6)] [] h := by
  intro n
  induction n with
  | zero =>
    intro x4 x5 x6 h
    exact ab_none
  | succ n ih =>
    intro x4 x5 x6 h
    rw [fX8_setWishes_12]
    refine ab_iload (pc := 12) (i := 6) (j := 5) (by decide +kernel) rfl ?_
    refine ab_iload_n (pc := 14) (n := 3) (i := 3) (j := 2) (by decide +kernel) rfl rfl ?_
    refine ab_icmp_ge (off := 41) (pc := 15) (tgt := 56) (by decide +kernel) (by decide) (fun g1 => ?_) (fun g1 => ?_)
    · refine ab_iload (pc := 18) (i := 6) (j := 5) (by decide +kernel) rfl ?_
      refine ab_aload_n (pc := 20) (n := 2) (i := 2) (j := 1) (by decide +kernel) rfl rfl ?_
      refine ab_alen2 (pc := 21) (by decide +kernel) (fun v2 ev2 => ?_)
      refine ab_icmp_ge (off := 34) (pc := 22) (tgt := 56) (by decide +kernel) (by decide) (fun g3 => ?_) (fun g3 => ?_)
      · refine ab_iload (pc := 25) (i := 4) (j := 3) (by decide +kernel) rfl ?_
        refine ab_iconst (pc := 27) (n := 1) (v := nI 1) (by decide +kernel) rfl ?_
        refine ab_aload_n (pc := 28) (n := 2) (i := 2) (j := 1) (by decide +kernel) rfl rfl ?_
        refine ab_iload (pc := 29) (i := 6) (j := 5) (by decide +kernel) rfl ?_
        refine ab_iald (pc := 31) (by decide +kernel) (fun v4 ev4 => ?_)
        refine ab_ishl (pc := 32) (by decide +kernel) ?_
        refine ab_ior (pc := 33) (by decide +kernel) ?_
        refine ab_istore (pc := 34) (i := 4) (lv' := [(0, .ref x0), (2, .ref x2), (3, .int x3), (4, .int (x4 ||| ((nI 1) <<< (v4 &&& 31)))), (5, .int x5), (6, .int x6)]) (by decide +kernel) (Nat.le_of_ble_eq_true rfl) rfl rfl ?_
        refine ab_aload_n (pc := 36) (n := 0) (i := 0) (j := 0) (by decide +kernel) rfl rfl ?_
        refine ab_getR (pc := 37) fl_X8_47_8 (by decide +kernel) (fun v5 ev5 => ?_)
        refine ab_iload (pc := 40) (i := 5) (j := 4) (by decide +kernel) rfl ?_
        refine ab_aload_n (pc := 42) (n := 2) (i := 2) (j := 1) (by decide +kernel) rfl rfl ?_
        refine ab_iload (pc := 43) (i := 6) (j := 5) (by decide +kernel) rfl ?_
        refine ab_iald (pc := 45) (by decide +kernel) (fun v6 ev6 => ?_)
        refine ab_iast (pc := 46) (by decide +kernel) (fun h7 eh7 => ?_)
        refine ab_iinc (pc := 47) (i := 5) (n := 1) (j := 4) (d := nI 1) (lv' := [(0, .ref x0), (2, .ref x2), (3, .int x3), (4, .int (x4 ||| ((nI 1) <<< (v4 &&& 31)))), (5, .int (x5 + nI 1)), (6, .int x6)]) (by decide +kernel) rfl rfl (Nat.le_of_ble_eq_true rfl) rfl rfl ?_
        refine ab_iinc (pc := 50) (i := 6) (n := 1) (j := 5) (d := nI 1) (lv' := [(0, .ref x0), (2, .ref x2), (3, .int x3), (4, .int (x4 ||| ((nI 1) <<< (v4 &&& 31)))), (5, .int (x5 + nI 1)), (6, .int (x6 + nI 1))]) (by decide +kernel) rfl rfl (Nat.le_of_ble_eq_true rfl) rfl rfl ?_
        refine ab_goto (pc := 53) (off := (-41)) (tgt := 12) (by decide +kernel) (by decide) ?_
        exact ih (x4 ||| ((nI 1) <<< (v4 &&& 31))) (x5 + nI 1) (x6 + nI 1) h7
      · refine ab_few [0, 3, 4] (lv' := [(0, .ref x0), (4, .int x4), (5, .int x5)]) rfl ?_
        exact hk56 x4 x5 h
    · refine ab_few [0, 3, 4] (lv' := [(0, .ref x0), (4, .int x4), (5, .int x5)]) rfl ?_
      exact hk56 x4 x5 h
set_option maxRecDepth 100000 in
set_option maxHeartbeats 4000000 in
theorem lX8_setWishes_59 {l : Launch} (hl : l.stackTraces = false) (F : Nat) (x0 : Nat) (x4 : Int32) : ∀ (n : Nat) (x5 : Int32) (x6 : Int32) (h : ab_H), ab_S l mX8_setWishes (fun y : ab_H => ((.inl none, y) : ab_R × ab_H)) 0 0 (fX8_setWishes_59 F x0 x4 n x5 x6 h) 59 [(0, .ref x0), (4, .int x4), (5, .int x5), (6, .int x6)] [] h := by
  intro n
  induction n with
  | zero =>
    intro x5 x6 h
    exact ab_none
  | succ n ih =>
    intro x5 x6 h
    rw [fX8_setWishes_59]
    refine ab_iload (pc := 59) (i := 6) (j := 3) (by decide +kernel) rfl ?_
    refine ab_aload_n (pc := 61) (n := 0) (i := 0) (j := 0) (by decide +kernel) rfl rfl ?_
    refine ab_getI (pc := 62) fl_X8_63_8 (by decide +kernel) (fun v11 ev11 => ?_)
    refine ab_icmp_ge (off := 31) (pc := 65) (tgt := 96) (by decide +kernel) (by decide) (fun g12 => ?_) (fun g12 => ?_)
    · refine ab_iload (pc := 68) (i := 4) (j := 1) (by decide +kernel) rfl ?_
      refine ab_iload (pc := 70) (i := 6) (j := 3) (by decide +kernel) rfl ?_
      refine ab_callNi (As := [.int x4, .int x6]) (st := []) (pc := 72) (index := 96) (host := "HungFaces") iX11_has (by show (RX8, 96, yX11_has, "HungFaces") ∈ ab_nm; decide +kernel) kw_b5c7c9a43d rfl rfl rfl (by decide) rfl (Nat.le_of_ble_eq_true rfl) (by decide +kernel) (fun y9 e9 => okX11_has hl e9) (fun v13 ev13 => ?_)
      refine ab_if_ne (off := 15) (pc := 75) (tgt := 90) (by decide +kernel) (by decide) (fun g14 => ?_) (fun g14 => ?_)
      · refine ab_aload_n (pc := 78) (n := 0) (i := 0) (j := 0) (by decide +kernel) rfl rfl ?_
        refine ab_getR (pc := 79) fl_X8_47_8 (by decide +kernel) (fun v15 ev15 => ?_)
        refine ab_iload (pc := 82) (i := 5) (j := 2) (by decide +kernel) rfl ?_
        refine ab_iload (pc := 84) (i := 6) (j := 3) (by decide +kernel) rfl ?_
        refine ab_iast (pc := 86) (by decide +kernel) (fun h16 eh16 => ?_)
        refine ab_iinc (pc := 87) (i := 5) (n := 1) (j := 2) (d := nI 1) (lv' := [(0, .ref x0), (4, .int x4), (5, .int (x5 + nI 1)), (6, .int x6)]) (by decide +kernel) rfl rfl (Nat.le_of_ble_eq_true rfl) rfl rfl ?_
        refine ab_iinc (pc := 90) (i := 6) (n := 1) (j := 3) (d := nI 1) (lv' := [(0, .ref x0), (4, .int x4), (5, .int (x5 + nI 1)), (6, .int (x6 + nI 1))]) (by decide +kernel) rfl rfl (Nat.le_of_ble_eq_true rfl) rfl rfl ?_
        refine ab_goto (pc := 93) (off := (-34)) (tgt := 59) (by decide +kernel) (by decide) ?_
        exact ih (x5 + nI 1) (x6 + nI 1) h16
      · refine ab_iinc (pc := 90) (i := 6) (n := 1) (j := 3) (d := nI 1) (lv' := [(0, .ref x0), (4, .int x4), (5, .int x5), (6, .int (x6 + nI 1))]) (by decide +kernel) rfl rfl (Nat.le_of_ble_eq_true rfl) rfl rfl ?_
        refine ab_goto (pc := 93) (off := (-34)) (tgt := 59) (by decide +kernel) (by decide) ?_
        exact ih x5 (x6 + nI 1) h
    · exact ab_vret (pc := 96) (by decide +kernel) rfl rfl (Nat.le_of_ble_eq_true rfl) (Nat.le_of_ble_eq_true rfl)
set_option maxRecDepth 100000 in
set_option maxHeartbeats 4000000 in
theorem wX8_setWishes {l : Launch} (hl : l.stackTraces = false) (F : Nat) (x0 : Nat) (x1 : Int32) (x2 : Nat) (x3 : Int32) (h : ab_H) : ab_S l mX8_setWishes (fun y : ab_H => ((.inl none, y) : ab_R × ab_H)) 0 0 (fX8_setWishes F x0 x1 x2 x3 h) 0 [(0, .ref x0), (1, .int x1), (2, .ref x2), (3, .int x3)] [] h := by
  unfold fX8_setWishes
  refine ab_iconst (pc := 0) (n := 0) (v := nI 0) (by decide +kernel) rfl ?_
  refine ab_istore (pc := 1) (i := 4) (lv' := [(0, .ref x0), (1, .int x1), (2, .ref x2), (3, .int x3), (4, .int (nI 0))]) (by decide +kernel) (Nat.le_of_ble_eq_true rfl) rfl rfl ?_
  refine ab_iload_n (pc := 3) (n := 1) (i := 1) (j := 1) (by decide +kernel) rfl rfl ?_
  refine ab_bipush (pc := 4) (n := 10) (v := nI 10) (by decide +kernel) (by decide) ?_
  refine ab_imul (pc := 6) (by decide +kernel) ?_
  refine ab_istore (pc := 7) (i := 5) (lv' := [(0, .ref x0), (1, .int x1), (2, .ref x2), (3, .int x3), (4, .int (nI 0)), (5, .int (x1 * (nI 10)))]) (by decide +kernel) (Nat.le_of_ble_eq_true rfl) rfl rfl ?_
  refine ab_iconst (pc := 9) (n := 0) (v := nI 0) (by decide +kernel) rfl ?_
  refine ab_istore (pc := 10) (i := 6) (lv' := [(0, .ref x0), (1, .int x1), (2, .ref x2), (3, .int x3), (4, .int (nI 0)), (5, .int (x1 * (nI 10))), (6, .int (nI 0))]) (by decide +kernel) (Nat.le_of_ble_eq_true rfl) rfl rfl ?_
  refine ab_few [0, 2, 3, 4, 5, 6] (lv' := [(0, .ref x0), (2, .ref x2), (3, .int x3), (4, .int (nI 0)), (5, .int (x1 * (nI 10))), (6, .int (nI 0))]) rfl ?_
  refine lX8_setWishes_12 hl F x0 x2 x3 ?_ F (nI 0) (x1 * (nI 10)) (nI 0) h
  intro z8 z9 h10
  refine ab_iconst (pc := 56) (n := 0) (v := nI 0) (by decide +kernel) rfl ?_
  refine ab_istore (pc := 57) (i := 6) (lv' := [(0, .ref x0), (4, .int z8), (5, .int z9), (6, .int (nI 0))]) (by decide +kernel) (Nat.le_of_ble_eq_true rfl) rfl rfl ?_
  refine lX8_setWishes_59 hl F x0 z8 F z9 (nI 0) h10
set_option maxRecDepth 100000 in
set_option maxHeartbeats 4000000 in
theorem okX8_setWishes {l : Launch} (hl : l.stackTraces = false) {F : Nat} {x0 : Nat} {x1 : Int32} {x2 : Nat} {x3 : Int32} {h : ab_H} {y : ab_H} (e : fX8_setWishes F x0 x1 x2 x3 h = some y) : ab_Met l mX8_setWishes [.ref x0, .int x1, .ref x2, .int x3] h (.inl none, y) := ab_ofS (io := (fun y : ab_H => ((.inl none, y) : ab_R × ab_H))) (x := y) hl (by decide) rfl (Nat.le_of_ble_eq_true rfl) (wX8_setWishes hl F x0 x1 x2 x3 h) e
