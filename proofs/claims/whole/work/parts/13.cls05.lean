/-! ===== class (by program, decomp.py) ===== -/
def mX8_lastTakenHook : ab_M := (yX8_lastTakenHook, cX8_lastTakenHook, 3, (some .int), { frames := 1, cells := 0, slots := 0, locals := 22 })
theorem iX8_lastTakenHook : ab_MI mX8_lastTakenHook 0 := ⟨kw_22636a88b5, kw_a869362287, by decide +kernel⟩
theorem lk_X8_100_8 : ab_LV RX8 100 8 mX8_ticketIsOut 1 := ⟨RX8, rfl, iX8_ticketIsOut, kw_7a22ef7001, kw_efd12e97e5, kw_6ff38e8ada⟩
def fX8_lastTakenHook_4 (F : Nat) (x0 : Nat) (h : ab_H) : Nat → Int32 → Int32 → Option Int32
  | 0, _, _ => none
  | n + 1, x1, x2 => ab_bd (ab_fi h x0 8 1) fun v1 => (if x2 < v1 then ab_bd (ab_fr h x0 8 17) fun v3 => ab_bd (ab_ia 0 h v3 x2) fun v4 => (if v4 = (-1 : Int32) then ab_ck (ab_io h x0 8 = true) (ab_bd (fX8_ticketIsOut F x0 x2 h) fun v6 => (if v6 = 0 then fX8_lastTakenHook_4 F x0 h n x1 (x2 + nI 1) else fX8_lastTakenHook_4 F x0 h n x2 (x2 + nI 1))) else fX8_lastTakenHook_4 F x0 h n x2 (x2 + nI 1)) else some x1)
def fX8_lastTakenHook (F : Nat) (x0 : Nat) (h : ab_H) : Option Int32 := fX8_lastTakenHook_4 F x0 h F (-1 : Int32) (nI 0)
set_option maxRecDepth 100000 in
set_option maxHeartbeats 4000000 in
theorem lX8_lastTakenHook_4 {l : Launch} (hl : l.stackTraces = false) (F : Nat) (x0 : Nat) (h : ab_H) : ∀ (n : Nat) (x1 : Int32) (x2 : Int32), ab_S l mX8_lastTakenHook (fun y : Int32 => ((.inl (some (.int y)), h) : ab_R × ab_H)) 0 0 (fX8_lastTakenHook_4 F x0 h n x1 x2) 4 [(0, .ref x0), (1, .int x1), (2, .int x2)] [] h := by
  intro n
  induction n with
  | zero =>
    intro x1 x2
    exact ab_none
  | succ n ih =>
    intro x1 x2
    rw [fX8_lastTakenHook_4]
    refine ab_iload_n (pc := 4) (n := 2) (i := 2) (j := 2) (by decide +kernel) rfl rfl ?_
    refine ab_aload_n (pc := 5) (n := 0) (i := 0) (j := 0) (by decide +kernel) rfl rfl ?_
    refine ab_getI (pc := 6) fl_X8_9_8 (by decide +kernel) (fun v1 ev1 => ?_)
    refine ab_icmp_ge (off := 29) (pc := 9) (tgt := 38) (by decide +kernel) (by decide) (fun g2 => ?_) (fun g2 => ?_)
    · refine ab_aload_n (pc := 12) (n := 0) (i := 0) (j := 0) (by decide +kernel) rfl rfl ?_
      refine ab_getR (pc := 13) fl_X8_50_8 (by decide +kernel) (fun v3 ev3 => ?_)
      refine ab_iload_n (pc := 16) (n := 2) (i := 2) (j := 2) (by decide +kernel) rfl rfl ?_
      refine ab_iald (pc := 17) (by decide +kernel) (fun v4 ev4 => ?_)
      refine ab_iconst (pc := 18) (n := -1) (v := (-1 : Int32)) (by decide +kernel) rfl ?_
      refine ab_icmp_ne (off := 11) (pc := 19) (tgt := 30) (by decide +kernel) (by decide) (fun g5 => ?_) (fun g5 => ?_)
      · refine ab_aload_n (pc := 22) (n := 0) (i := 0) (j := 0) (by decide +kernel) rfl rfl ?_
        refine ab_iload_n (pc := 23) (n := 2) (i := 2) (j := 2) (by decide +kernel) rfl rfl ?_
        refine ab_callVi (As := [.int x2]) (st := []) (pc := 24) lk_X8_100_8 rfl rfl rfl (by decide) rfl (Nat.le_of_ble_eq_true rfl) (by decide +kernel) (fun y9 e9 => okX8_ticketIsOut hl (F := F) e9) (fun v6 ev6 => ?_)
        refine ab_if_eq (off := 5) (pc := 27) (tgt := 32) (by decide +kernel) (by decide) (fun g7 => ?_) (fun g7 => ?_)
        · refine ab_iinc (pc := 32) (i := 2) (n := 1) (j := 2) (d := nI 1) (lv' := [(0, .ref x0), (1, .int x1), (2, .int (x2 + nI 1))]) (by decide +kernel) rfl rfl (Nat.le_of_ble_eq_true rfl) rfl rfl ?_
          refine ab_goto (pc := 35) (off := (-31)) (tgt := 4) (by decide +kernel) (by decide) ?_
          exact ih x1 (x2 + nI 1)
        · refine ab_iload_n (pc := 30) (n := 2) (i := 2) (j := 2) (by decide +kernel) rfl rfl ?_
          refine ab_istore_n (pc := 31) (n := 1) (i := 1) (lv' := [(0, .ref x0), (1, .int x2), (2, .int x2)]) (by decide +kernel) rfl (Nat.le_of_ble_eq_true rfl) rfl rfl ?_
          refine ab_iinc (pc := 32) (i := 2) (n := 1) (j := 2) (d := nI 1) (lv' := [(0, .ref x0), (1, .int x2), (2, .int (x2 + nI 1))]) (by decide +kernel) rfl rfl (Nat.le_of_ble_eq_true rfl) rfl rfl ?_
          refine ab_goto (pc := 35) (off := (-31)) (tgt := 4) (by decide +kernel) (by decide) ?_
          exact ih x2 (x2 + nI 1)
      · refine ab_iload_n (pc := 30) (n := 2) (i := 2) (j := 2) (by decide +kernel) rfl rfl ?_
        refine ab_istore_n (pc := 31) (n := 1) (i := 1) (lv' := [(0, .ref x0), (1, .int x2), (2, .int x2)]) (by decide +kernel) rfl (Nat.le_of_ble_eq_true rfl) rfl rfl ?_
        refine ab_iinc (pc := 32) (i := 2) (n := 1) (j := 2) (d := nI 1) (lv' := [(0, .ref x0), (1, .int x2), (2, .int (x2 + nI 1))]) (by decide +kernel) rfl rfl (Nat.le_of_ble_eq_true rfl) rfl rfl ?_
        refine ab_goto (pc := 35) (off := (-31)) (tgt := 4) (by decide +kernel) (by decide) ?_
        exact ih x2 (x2 + nI 1)
    · refine ab_iload_n (pc := 38) (n := 1) (i := 1) (j := 1) (by decide +kernel) rfl rfl ?_
      exact ab_iret (pc := 39) (by decide +kernel) rfl rfl (Nat.le_of_ble_eq_true rfl) (Nat.le_of_ble_eq_true rfl)
set_option maxRecDepth 100000 in
set_option maxHeartbeats 4000000 in
theorem wX8_lastTakenHook {l : Launch} (hl : l.stackTraces = false) (F : Nat) (x0 : Nat) (h : ab_H) : ab_S l mX8_lastTakenHook (fun y : Int32 => ((.inl (some (.int y)), h) : ab_R × ab_H)) 0 0 (fX8_lastTakenHook F x0 h) 0 [(0, .ref x0)] [] h := by
  unfold fX8_lastTakenHook
  refine ab_iconst (pc := 0) (n := -1) (v := (-1 : Int32)) (by decide +kernel) rfl ?_
  refine ab_istore_n (pc := 1) (n := 1) (i := 1) (lv' := [(0, .ref x0), (1, .int (-1 : Int32))]) (by decide +kernel) rfl (Nat.le_of_ble_eq_true rfl) rfl rfl ?_
  refine ab_iconst (pc := 2) (n := 0) (v := nI 0) (by decide +kernel) rfl ?_
  refine ab_istore_n (pc := 3) (n := 2) (i := 2) (lv' := [(0, .ref x0), (1, .int (-1 : Int32)), (2, .int (nI 0))]) (by decide +kernel) rfl (Nat.le_of_ble_eq_true rfl) rfl rfl ?_
  refine lX8_lastTakenHook_4 hl F x0 h F (-1 : Int32) (nI 0)
set_option maxRecDepth 100000 in
set_option maxHeartbeats 4000000 in
theorem okX8_lastTakenHook {l : Launch} (hl : l.stackTraces = false) {F : Nat} {x0 : Nat} {h : ab_H} {y : Int32} (e : fX8_lastTakenHook F x0 h = some y) : ab_Met l mX8_lastTakenHook [.ref x0] h (.inl (some (.int y)), h) := ab_ofS (io := (fun y : Int32 => ((.inl (some (.int y)), h) : ab_R × ab_H))) (x := y) hl (by decide) rfl (Nat.le_of_ble_eq_true rfl) (wX8_lastTakenHook hl F x0 h) e
def mX8_fetchBy : ab_M := (yX8_fetchBy, cX8_fetchBy, 4, (some .int), { frames := 2, cells := 0, slots := 0, locals := 46 })
theorem iX8_fetchBy : ab_MI mX8_fetchBy 1 := ⟨kw_6dcc791eb6, kw_a869362287, by decide +kernel⟩
theorem lk_X8_107_8 : ab_LV RX8 107 8 mX8_faceAt 1 := ⟨RX8, rfl, iX8_faceAt, kw_5d818f97d0, kw_d54ff91715, kw_5e6b017aef⟩
def fX8_fetchBy (x0 : Nat) (x1 : Int32) (h : ab_H) : Option (Int32 × ab_H) := ab_bd (ab_fr h x0 8 12) fun v1 => ab_bd (ab_ia 0 h v1 x1) fun v2 => ab_ck (ab_io h x0 8 = true) (ab_bd (fX8_faceAt x0 v2 h) fun v3 => ab_jn (κ := ab_H → Option (Int32 × ab_H)) (fun (h4 : ab_H) => ab_bd (ab_fr h4 x0 8 11) fun v5 => ab_bd (ab_iw 0 h4 v5 x1 v3) fun h6 => ab_bd (ab_fr h6 x0 8 12) fun v7 => ab_bd (ab_iw 0 h6 v7 x1 (-1 : Int32)) fun h8 => ab_bd (ab_fr h8 x0 8 8) fun v9 => ab_bd (ab_fi h8 x0 8 2) fun v10 => ab_ck (ab_io h8 v9 4 = true) (ab_bd (fX4_addRow v9 v10 x1 v2 v3 (nI 1) h8) fun h11 => some (v3, h11))) fun j12 => (if v3 = (-1 : Int32) then j12 h else ab_bd (ab_fr h x0 8 17) fun v14 => ab_bd (ab_iw 0 h v14 v2 (-1 : Int32)) fun h15 => j12 h15))
set_option maxRecDepth 100000 in
set_option maxHeartbeats 4000000 in
theorem wX8_fetchBy {l : Launch} (hl : l.stackTraces = false) (x0 : Nat) (x1 : Int32) (h : ab_H) : ab_S l mX8_fetchBy (fun y : (Int32 × ab_H) => ((.inl (some (.int y.1)), y.2) : ab_R × ab_H)) 0 0 (fX8_fetchBy x0 x1 h) 0 [(0, .ref x0), (1, .int x1)] [] h := by
  unfold fX8_fetchBy
  refine ab_aload_n (pc := 0) (n := 0) (i := 0) (j := 0) (by decide +kernel) rfl rfl ?_
  refine ab_getR (pc := 1) fl_X8_35_8 (by decide +kernel) (fun v1 ev1 => ?_)
  refine ab_iload_n (pc := 4) (n := 1) (i := 1) (j := 1) (by decide +kernel) rfl rfl ?_
  refine ab_iald (pc := 5) (by decide +kernel) (fun v2 ev2 => ?_)
  refine ab_istore_n (pc := 6) (n := 2) (i := 2) (lv' := [(0, .ref x0), (1, .int x1), (2, .int v2)]) (by decide +kernel) rfl (Nat.le_of_ble_eq_true rfl) rfl rfl ?_
  refine ab_aload_n (pc := 7) (n := 0) (i := 0) (j := 0) (by decide +kernel) rfl rfl ?_
  refine ab_iload_n (pc := 8) (n := 2) (i := 2) (j := 2) (by decide +kernel) rfl rfl ?_
  refine ab_callVi (As := [.int v2]) (st := []) (pc := 9) lk_X8_107_8 rfl rfl rfl (by decide) rfl (Nat.le_of_ble_eq_true rfl) (by decide +kernel) (fun y9 e9 => okX8_faceAt hl e9) (fun v3 ev3 => ?_)
  refine ab_istore_n (pc := 12) (n := 3) (i := 3) (lv' := [(0, .ref x0), (1, .int x1), (2, .int v2), (3, .int v3)]) (by decide +kernel) rfl (Nat.le_of_ble_eq_true rfl) rfl rfl ?_
  refine ab_iload_n (pc := 13) (n := 3) (i := 3) (j := 3) (by decide +kernel) rfl rfl ?_
  refine ab_iconst (pc := 14) (n := -1) (v := (-1 : Int32)) (by decide +kernel) rfl ?_
  refine ab_jr (fun k9 : ab_H → Option (Int32 × ab_H) => ∀ (h4 : ab_H), ab_S l mX8_fetchBy (fun y : (Int32 × ab_H) => ((.inl (some (.int y.1)), y.2) : ab_R × ab_H)) 0 0 (k9 h4) 25 [(0, .ref x0), (1, .int x1), (2, .int v2), (3, .int v3)] [] h4) ?_ (fun j12 hj12 => ?_)
  · intro h4
    refine ab_aload_n (pc := 25) (n := 0) (i := 0) (j := 0) (by decide +kernel) rfl rfl ?_
    refine ab_getR (pc := 26) fl_X8_32_8 (by decide +kernel) (fun v5 ev5 => ?_)
    refine ab_iload_n (pc := 29) (n := 1) (i := 1) (j := 1) (by decide +kernel) rfl rfl ?_
    refine ab_iload_n (pc := 30) (n := 3) (i := 3) (j := 3) (by decide +kernel) rfl rfl ?_
    refine ab_iast (pc := 31) (by decide +kernel) (fun h6 eh6 => ?_)
    refine ab_aload_n (pc := 32) (n := 0) (i := 0) (j := 0) (by decide +kernel) rfl rfl ?_
    refine ab_getR (pc := 33) fl_X8_35_8 (by decide +kernel) (fun v7 ev7 => ?_)
    refine ab_iload_n (pc := 36) (n := 1) (i := 1) (j := 1) (by decide +kernel) rfl rfl ?_
    refine ab_iconst (pc := 37) (n := -1) (v := (-1 : Int32)) (by decide +kernel) rfl ?_
    refine ab_iast (pc := 38) (by decide +kernel) (fun h8 eh8 => ?_)
    refine ab_aload_n (pc := 39) (n := 0) (i := 0) (j := 0) (by decide +kernel) rfl rfl ?_
    refine ab_getR (pc := 40) fl_X8_21_8 (by decide +kernel) (fun v9 ev9 => ?_)
    refine ab_aload_n (pc := 43) (n := 0) (i := 0) (j := 0) (by decide +kernel) rfl rfl ?_
    refine ab_getI (pc := 44) fl_X8_66_8 (by decide +kernel) (fun v10 ev10 => ?_)
    refine ab_iload_n (pc := 47) (n := 1) (i := 1) (j := 1) (by decide +kernel) rfl rfl ?_
    refine ab_iload_n (pc := 48) (n := 2) (i := 2) (j := 2) (by decide +kernel) rfl rfl ?_
    refine ab_iload_n (pc := 49) (n := 3) (i := 3) (j := 3) (by decide +kernel) rfl rfl ?_
    refine ab_iconst (pc := 50) (n := 1) (v := nI 1) (by decide +kernel) rfl ?_
    refine ab_callVw (As := [.int v10, .int x1, .int v2, .int v3, .int (nI 1)]) (st := []) (pc := 51) lk_X8_103_4 rfl rfl rfl (by decide) rfl (Nat.le_of_ble_eq_true rfl) (by decide +kernel) (fun y9 e9 => okX4_addRow hl e9) (fun h11 eh11 => ?_)
    refine ab_iload_n (pc := 54) (n := 3) (i := 3) (j := 3) (by decide +kernel) rfl rfl ?_
    exact ab_iret (pc := 55) (by decide +kernel) rfl rfl (Nat.le_of_ble_eq_true rfl) (Nat.le_of_ble_eq_true rfl)
  · refine ab_icmp_eq (off := 10) (pc := 15) (tgt := 25) (by decide +kernel) (by decide) (fun g13 => ?_) (fun g13 => ?_)
    · exact hj12 h
    · refine ab_aload_n (pc := 18) (n := 0) (i := 0) (j := 0) (by decide +kernel) rfl rfl ?_
      refine ab_getR (pc := 19) fl_X8_50_8 (by decide +kernel) (fun v14 ev14 => ?_)
      refine ab_iload_n (pc := 22) (n := 2) (i := 2) (j := 2) (by decide +kernel) rfl rfl ?_
      refine ab_iconst (pc := 23) (n := -1) (v := (-1 : Int32)) (by decide +kernel) rfl ?_
      refine ab_iast (pc := 24) (by decide +kernel) (fun h15 eh15 => ?_)
      exact hj12 h15
set_option maxRecDepth 100000 in
set_option maxHeartbeats 4000000 in
theorem okX8_fetchBy {l : Launch} (hl : l.stackTraces = false) {x0 : Nat} {x1 : Int32} {h : ab_H} {y : (Int32 × ab_H)} (e : fX8_fetchBy x0 x1 h = some y) : ab_Met l mX8_fetchBy [.ref x0, .int x1] h (.inl (some (.int y.1)), y.2) := ab_ofS (io := (fun y : (Int32 × ab_H) => ((.inl (some (.int y.1)), y.2) : ab_R × ab_H))) (x := y) hl (by decide) rfl (Nat.le_of_ble_eq_true rfl) (wX8_fetchBy hl x0 x1 h) e
def mX8_meetAllWhoKnow : ab_M := (yX8_meetAllWhoKnow, cX8_meetAllWhoKnow, 3, none, { frames := 1, cells := 0, slots := 0, locals := 23 })
theorem iX8_meetAllWhoKnow : ab_MI mX8_meetAllWhoKnow 0 := ⟨kw_d9f7fd8f56, kw_a869362287, by decide +kernel⟩
theorem lk_X8_120_8 : ab_LV RX8 120 8 mX8_tellAll 2 := ⟨RX8, rfl, iX8_tellAll, kw_59dcb3d3dd, kw_a85892a7aa, kw_1bd746fe68⟩
def fX8_meetAllWhoKnow_14 (F : Nat) (x0 : Nat) (x1 : Int32) (k61 : ab_H → Option ab_H) : Nat → Int32 → ab_H → Option ab_H
  | 0, _, _ => none
  | n + 1, x2, h => ab_bd (ab_fi h x0 8 0) fun v3 => (if x2 < v3 then ab_bd (ab_fr h x0 8 14) fun v5 => ab_bd (ab_ia 0 h v5 x1) fun v6 => ab_bd (fX11_has v6 x2 h) fun v7 => (if v7 = 0 then fX8_meetAllWhoKnow_14 F x0 x1 k61 n (x2 + nI 1) h else ab_bd (ab_fr h x0 8 14) fun v9 => ab_bd (ab_ia 0 h v9 x2) fun v10 => ab_bd (fX11_has v10 x1 h) fun v11 => (if v11 = 0 then fX8_meetAllWhoKnow_14 F x0 x1 k61 n (x2 + nI 1) h else ab_ck (ab_io h x0 8 = true) (ab_bd (fX8_tellAll x0 x1 x2 h) fun v13 => fX8_meetAllWhoKnow_14 F x0 x1 k61 n (x2 + nI 1) v13.2))) else k61 h)
def fX8_meetAllWhoKnow_2 (F : Nat) (x0 : Nat) : Nat → Int32 → ab_H → Option ab_H
  | 0, _, _ => none
  | n + 1, x1, h => ab_bd (ab_fi h x0 8 0) fun v1 => (if x1 < v1 then fX8_meetAllWhoKnow_14 F x0 x1 (fun (h14 : ab_H) => fX8_meetAllWhoKnow_2 F x0 n (x1 + nI 1) h14) F (x1 + (nI 1)) h else some h)
def fX8_meetAllWhoKnow (F : Nat) (x0 : Nat) (h : ab_H) : Option ab_H := fX8_meetAllWhoKnow_2 F x0 F (nI 0) h
set_option maxRecDepth 100000 in
set_option maxHeartbeats 4000000 in
theorem lX8_meetAllWhoKnow_14 {l : Launch} (hl : l.stackTraces = false) (F : Nat) (x0 : Nat) (x1 : Int32) {k61 : ab_H → Option ab_H} (hk61 : ∀ (h : ab_H), ab_S l mX8_meetAllWhoKnow (fun y : ab_H => ((.inl none, y) : ab_R × ab_H)) 0 0 (k61 h) 61 [(0, .ref x0), (1, .int x1)] [] h) : ∀ (n : Nat) (x2 : Int32) (h : ab_H), ab_S l mX8_meetAllWhoKnow (fun y : ab_H => ((.inl none, y) : ab_R × ab_H)) 0 0 (fX8_meetAllWhoKnow_14 F x0 x1 k61 n x2 h) 14 [(0, .ref x0), (1, .int x1), (2, .int x2)] [] h := by
  intro n
  induction n with
  | zero =>
    intro x2 h
    exact ab_none
  | succ n ih =>
    intro x2 h
    rw [fX8_meetAllWhoKnow_14]
    refine ab_iload_n (pc := 14) (n := 2) (i := 2) (j := 2) (by decide +kernel) rfl rfl ?_
    refine ab_aload_n (pc := 15) (n := 0) (i := 0) (j := 0) (by decide +kernel) rfl rfl ?_
    refine ab_getI (pc := 16) fl_X8_63_8 (by decide +kernel) (fun v3 ev3 => ?_)
    refine ab_icmp_ge (off := 42) (pc := 19) (tgt := 61) (by decide +kernel) (by decide) (fun g4 => ?_) (fun g4 => ?_)
    · refine ab_aload_n (pc := 22) (n := 0) (i := 0) (j := 0) (by decide +kernel) rfl rfl ?_
      refine ab_getR (pc := 23) fl_X8_41_8 (by decide +kernel) (fun v5 ev5 => ?_)
      refine ab_iload_n (pc := 26) (n := 1) (i := 1) (j := 1) (by decide +kernel) rfl rfl ?_
      refine ab_iald (pc := 27) (by decide +kernel) (fun v6 ev6 => ?_)
      refine ab_iload_n (pc := 28) (n := 2) (i := 2) (j := 2) (by decide +kernel) rfl rfl ?_
      refine ab_callNi (As := [.int v6, .int x2]) (st := []) (pc := 29) (index := 96) (host := "HungFaces") iX11_has (by show (RX8, 96, yX11_has, "HungFaces") ∈ ab_nm; decide +kernel) kw_b5c7c9a43d rfl rfl rfl (by decide) rfl (Nat.le_of_ble_eq_true rfl) (by decide +kernel) (fun y9 e9 => okX11_has hl e9) (fun v7 ev7 => ?_)
      refine ab_if_eq (off := 23) (pc := 32) (tgt := 55) (by decide +kernel) (by decide) (fun g8 => ?_) (fun g8 => ?_)
      · refine ab_iinc (pc := 55) (i := 2) (n := 1) (j := 2) (d := nI 1) (lv' := [(0, .ref x0), (1, .int x1), (2, .int (x2 + nI 1))]) (by decide +kernel) rfl rfl (Nat.le_of_ble_eq_true rfl) rfl rfl ?_
        refine ab_goto (pc := 58) (off := (-44)) (tgt := 14) (by decide +kernel) (by decide) ?_
        exact ih (x2 + nI 1) h
      · refine ab_aload_n (pc := 35) (n := 0) (i := 0) (j := 0) (by decide +kernel) rfl rfl ?_
        refine ab_getR (pc := 36) fl_X8_41_8 (by decide +kernel) (fun v9 ev9 => ?_)
        refine ab_iload_n (pc := 39) (n := 2) (i := 2) (j := 2) (by decide +kernel) rfl rfl ?_
        refine ab_iald (pc := 40) (by decide +kernel) (fun v10 ev10 => ?_)
        refine ab_iload_n (pc := 41) (n := 1) (i := 1) (j := 1) (by decide +kernel) rfl rfl ?_
        refine ab_callNi (As := [.int v10, .int x1]) (st := []) (pc := 42) (index := 96) (host := "HungFaces") iX11_has (by show (RX8, 96, yX11_has, "HungFaces") ∈ ab_nm; decide +kernel) kw_b5c7c9a43d rfl rfl rfl (by decide) rfl (Nat.le_of_ble_eq_true rfl) (by decide +kernel) (fun y9 e9 => okX11_has hl e9) (fun v11 ev11 => ?_)
        refine ab_if_eq (off := 10) (pc := 45) (tgt := 55) (by decide +kernel) (by decide) (fun g12 => ?_) (fun g12 => ?_)
        · refine ab_iinc (pc := 55) (i := 2) (n := 1) (j := 2) (d := nI 1) (lv' := [(0, .ref x0), (1, .int x1), (2, .int (x2 + nI 1))]) (by decide +kernel) rfl rfl (Nat.le_of_ble_eq_true rfl) rfl rfl ?_
          refine ab_goto (pc := 58) (off := (-44)) (tgt := 14) (by decide +kernel) (by decide) ?_
          exact ih (x2 + nI 1) h
        · refine ab_aload_n (pc := 48) (n := 0) (i := 0) (j := 0) (by decide +kernel) rfl rfl ?_
          refine ab_iload_n (pc := 49) (n := 1) (i := 1) (j := 1) (by decide +kernel) rfl rfl ?_
          refine ab_iload_n (pc := 50) (n := 2) (i := 2) (j := 2) (by decide +kernel) rfl rfl ?_
          refine ab_callVj (As := [.int x1, .int x2]) (st := []) (pc := 51) lk_X8_120_8 rfl rfl rfl (by decide) rfl (Nat.le_of_ble_eq_true rfl) (by decide +kernel) (fun y9 e9 => okX8_tellAll hl e9) (fun v13 ev13 => ?_)
          refine ab_pop (pc := 54) (by decide +kernel) rfl ?_
          refine ab_iinc (pc := 55) (i := 2) (n := 1) (j := 2) (d := nI 1) (lv' := [(0, .ref x0), (1, .int x1), (2, .int (x2 + nI 1))]) (by decide +kernel) rfl rfl (Nat.le_of_ble_eq_true rfl) rfl rfl ?_
          refine ab_goto (pc := 58) (off := (-44)) (tgt := 14) (by decide +kernel) (by decide) ?_
          exact ih (x2 + nI 1) v13.2
    · refine ab_few [0, 1] (lv' := [(0, .ref x0), (1, .int x1)]) rfl ?_
      exact hk61 h
set_option maxRecDepth 100000 in
set_option maxHeartbeats 4000000 in
theorem lX8_meetAllWhoKnow_2 {l : Launch} (hl : l.stackTraces = false) (F : Nat) (x0 : Nat) : ∀ (n : Nat) (x1 : Int32) (h : ab_H), ab_S l mX8_meetAllWhoKnow (fun y : ab_H => ((.inl none, y) : ab_R × ab_H)) 0 0 (fX8_meetAllWhoKnow_2 F x0 n x1 h) 2 [(0, .ref x0), (1, .int x1)] [] h := by
  intro n
  induction n with
  | zero =>
    intro x1 h
    exact ab_none
  | succ n ih =>
    intro x1 h
    rw [fX8_meetAllWhoKnow_2]
    refine ab_iload_n (pc := 2) (n := 1) (i := 1) (j := 1) (by decide +kernel) rfl rfl ?_
    refine ab_aload_n (pc := 3) (n := 0) (i := 0) (j := 0) (by decide +kernel) rfl rfl ?_
    refine ab_getI (pc := 4) fl_X8_63_8 (by decide +kernel) (fun v1 ev1 => ?_)
    refine ab_icmp_ge (off := 60) (pc := 7) (tgt := 67) (by decide +kernel) (by decide) (fun g2 => ?_) (fun g2 => ?_)
    · refine ab_iload_n (pc := 10) (n := 1) (i := 1) (j := 1) (by decide +kernel) rfl rfl ?_
      refine ab_iconst (pc := 11) (n := 1) (v := nI 1) (by decide +kernel) rfl ?_
      refine ab_iadd (pc := 12) (by decide +kernel) ?_
      refine ab_istore_n (pc := 13) (n := 2) (i := 2) (lv' := [(0, .ref x0), (1, .int x1), (2, .int (x1 + (nI 1)))]) (by decide +kernel) rfl (Nat.le_of_ble_eq_true rfl) rfl rfl ?_
      refine lX8_meetAllWhoKnow_14 hl F x0 x1 ?_ F (x1 + (nI 1)) h
      intro h14
      refine ab_iinc (pc := 61) (i := 1) (n := 1) (j := 1) (d := nI 1) (lv' := [(0, .ref x0), (1, .int (x1 + nI 1))]) (by decide +kernel) rfl rfl (Nat.le_of_ble_eq_true rfl) rfl rfl ?_
      refine ab_goto (pc := 64) (off := (-62)) (tgt := 2) (by decide +kernel) (by decide) ?_
      exact ih (x1 + nI 1) h14
    · exact ab_vret (pc := 67) (by decide +kernel) rfl rfl (Nat.le_of_ble_eq_true rfl) (Nat.le_of_ble_eq_true rfl)
set_option maxRecDepth 100000 in
set_option maxHeartbeats 4000000 in
theorem wX8_meetAllWhoKnow {l : Launch} (hl : l.stackTraces = false) (F : Nat) (x0 : Nat) (h : ab_H) : ab_S l mX8_meetAllWhoKnow (fun y : ab_H => ((.inl none, y) : ab_R × ab_H)) 0 0 (fX8_meetAllWhoKnow F x0 h) 0 [(0, .ref x0)] [] h := by
  unfold fX8_meetAllWhoKnow
  refine ab_iconst (pc := 0) (n := 0) (v := nI 0) (by decide +kernel) rfl ?_
  refine ab_istore_n (pc := 1) (n := 1) (i := 1) (lv' := [(0, .ref x0), (1, .int (nI 0))]) (by decide +kernel) rfl (Nat.le_of_ble_eq_true rfl) rfl rfl ?_
  refine lX8_meetAllWhoKnow_2 hl F x0 F (nI 0) h
set_option maxRecDepth 100000 in
set_option maxHeartbeats 4000000 in
theorem okX8_meetAllWhoKnow {l : Launch} (hl : l.stackTraces = false) {F : Nat} {x0 : Nat} {h : ab_H} {y : ab_H} (e : fX8_meetAllWhoKnow F x0 h = some y) : ab_Met l mX8_meetAllWhoKnow [.ref x0] h (.inl none, y) := ab_ofS (io := (fun y : ab_H => ((.inl none, y) : ab_R × ab_H))) (x := y) hl (by decide) rfl (Nat.le_of_ble_eq_true rfl) (wX8_meetAllWhoKnow hl F x0 h) e
def mX8_mixByDraws : ab_M := (yX8_mixByDraws, cX8_mixByDraws, 5, none, { frames := 3, cells := 0, slots := 0, locals := 71 })
theorem iX8_mixByDraws : ab_MI mX8_mixByDraws 0 := ⟨kw_05dcc08725, kw_a869362287, by decide +kernel⟩
theorem lk_X8_126_8 : ab_LV RX8 126 8 mX8_draw 0 := ⟨RX8, rfl, iX8_draw, kw_9dd6b6a094, kw_073276b0b1, kw_213fe1a084⟩
theorem lk_X8_152_8 : ab_LV RX8 152 8 mX8_ticketHolders 0 := ⟨RX8, rfl, iX8_ticketHolders, kw_bc59df176f, kw_be734bbbad, kw_1b98d06c3b⟩
theorem lk_X8_160 : ab_LS RX8 160 mX8_nthOf 2 := ⟨iX8_nthOf, kw_0cfb296dec, kw_749115ba53⟩
theorem lk_X8_163_8 : ab_LV RX8 163 8 mX8_changeTickets 2 := ⟨RX8, rfl, iX8_changeTickets, kw_8621c4dddb, kw_b0187a6841, kw_4e98c4157d⟩
def fX8_mixByDraws (F : Nat) (x0 : Nat) (h : ab_H) : Option ab_H := ab_ck (ab_io h x0 8 = true) (ab_bd (fX8_ticketHolders F x0 h) fun v1 => ab_bd (fJ6_bitCount_0f7a4 v1 h) fun v2 => (if v2 < (nI 2) then some h else ab_ck (ab_io h x0 8 = true) (ab_bd (fX8_draw x0 h) fun v4 => ab_ck (¬ v2 = 0) (ab_bd (fX8_nthOf F v1 (ab_rm v4.1 v2) v4.2) fun v6 => ab_ck (ab_io v4.2 x0 8 = true) (ab_bd (fX8_draw x0 v4.2) fun v7 => ab_ck (¬ (v2 - (nI 1)) = 0) (ab_bd (fX8_nthOf F (v1 &&& (((nI 1) <<< (v6 &&& 31)) ^^^ (-1 : Int32))) (ab_rm v7.1 (v2 - (nI 1))) v7.2) fun v9 => ab_ck (ab_io v7.2 x0 8 = true) (ab_bd (fX8_changeTickets x0 v6 v9 v7.2) fun h10 => some h10)))))))
set_option maxRecDepth 100000 in
set_option maxHeartbeats 4000000 in
theorem wX8_mixByDraws {l : Launch} (hl : l.stackTraces = false) (F : Nat) (x0 : Nat) (h : ab_H) : ab_S l mX8_mixByDraws (fun y : ab_H => ((.inl none, y) : ab_R × ab_H)) 0 0 (fX8_mixByDraws F x0 h) 0 [(0, .ref x0)] [] h := by
  unfold fX8_mixByDraws
  refine ab_aload_n (pc := 0) (n := 0) (i := 0) (j := 0) (by decide +kernel) rfl rfl ?_
  refine ab_callVi (As := []) (st := []) (pc := 1) lk_X8_152_8 rfl rfl rfl (by decide) rfl (Nat.le_of_ble_eq_true rfl) (by decide +kernel) (fun y9 e9 => okX8_ticketHolders hl (F := F) e9) (fun v1 ev1 => ?_)
  refine ab_istore_n (pc := 4) (n := 1) (i := 1) (lv' := [(0, .ref x0), (1, .int v1)]) (by decide +kernel) rfl (Nat.le_of_ble_eq_true rfl) rfl rfl ?_
  refine ab_iload_n (pc := 5) (n := 1) (i := 1) (j := 1) (by decide +kernel) rfl rfl ?_
  refine ab_callSi (As := [.int v1]) (st := []) (pc := 6) lk_X8_155 rfl rfl rfl (by decide) rfl (Nat.le_of_ble_eq_true rfl) (by decide +kernel) (fun y9 e9 => okJ6_bitCount_0f7a4 hl e9) (fun v2 ev2 => ?_)
  refine ab_istore_n (pc := 9) (n := 2) (i := 2) (lv' := [(0, .ref x0), (1, .int v1), (2, .int v2)]) (by decide +kernel) rfl (Nat.le_of_ble_eq_true rfl) rfl rfl ?_
  refine ab_iload_n (pc := 10) (n := 2) (i := 2) (j := 2) (by decide +kernel) rfl rfl ?_
  refine ab_iconst (pc := 11) (n := 2) (v := nI 2) (by decide +kernel) rfl ?_
  refine ab_icmp_ge (off := 4) (pc := 12) (tgt := 16) (by decide +kernel) (by decide) (fun g3 => ?_) (fun g3 => ?_)
  · exact ab_vret (pc := 15) (by decide +kernel) rfl rfl (Nat.le_of_ble_eq_true rfl) (Nat.le_of_ble_eq_true rfl)
  · refine ab_iload_n (pc := 16) (n := 1) (i := 1) (j := 1) (by decide +kernel) rfl rfl ?_
    refine ab_aload_n (pc := 17) (n := 0) (i := 0) (j := 0) (by decide +kernel) rfl rfl ?_
    refine ab_callVj (As := []) (st := [.int v1]) (pc := 18) lk_X8_126_8 rfl rfl rfl (by decide) rfl (Nat.le_of_ble_eq_true rfl) (by decide +kernel) (fun y9 e9 => okX8_draw hl e9) (fun v4 ev4 => ?_)
    refine ab_iload_n (pc := 21) (n := 2) (i := 2) (j := 2) (by decide +kernel) rfl rfl ?_
    refine ab_irem (pc := 22) (by decide +kernel) (fun g5 => ?_)
    refine ab_callSi (As := [.int v1, .int (ab_rm v4.1 v2)]) (st := []) (pc := 23) lk_X8_160 rfl rfl rfl (by decide) rfl (Nat.le_of_ble_eq_true rfl) (by decide +kernel) (fun y9 e9 => okX8_nthOf hl (F := F) e9) (fun v6 ev6 => ?_)
    refine ab_istore_n (pc := 26) (n := 3) (i := 3) (lv' := [(0, .ref x0), (1, .int v1), (2, .int v2), (3, .int v6)]) (by decide +kernel) rfl (Nat.le_of_ble_eq_true rfl) rfl rfl ?_
    refine ab_iload_n (pc := 27) (n := 1) (i := 1) (j := 1) (by decide +kernel) rfl rfl ?_
    refine ab_iconst (pc := 28) (n := 1) (v := nI 1) (by decide +kernel) rfl ?_
    refine ab_iload_n (pc := 29) (n := 3) (i := 3) (j := 3) (by decide +kernel) rfl rfl ?_
    refine ab_ishl (pc := 30) (by decide +kernel) ?_
    refine ab_iconst (pc := 31) (n := -1) (v := (-1 : Int32)) (by decide +kernel) rfl ?_
    refine ab_ixor (pc := 32) (by decide +kernel) ?_
    refine ab_iand (pc := 33) (by decide +kernel) ?_
    refine ab_istore (pc := 34) (i := 4) (lv' := [(0, .ref x0), (1, .int v1), (2, .int v2), (3, .int v6), (4, .int (v1 &&& (((nI 1) <<< (v6 &&& 31)) ^^^ (-1 : Int32))))]) (by decide +kernel) (Nat.le_of_ble_eq_true rfl) rfl rfl ?_
    refine ab_aload_n (pc := 36) (n := 0) (i := 0) (j := 0) (by decide +kernel) rfl rfl ?_
    refine ab_iload_n (pc := 37) (n := 3) (i := 3) (j := 3) (by decide +kernel) rfl rfl ?_
    refine ab_iload (pc := 38) (i := 4) (j := 4) (by decide +kernel) rfl ?_
    refine ab_aload_n (pc := 40) (n := 0) (i := 0) (j := 0) (by decide +kernel) rfl rfl ?_
    refine ab_callVj (As := []) (st := [.int (v1 &&& (((nI 1) <<< (v6 &&& 31)) ^^^ (-1 : Int32))), .int v6, .ref x0]) (pc := 41) lk_X8_126_8 rfl rfl rfl (by decide) rfl (Nat.le_of_ble_eq_true rfl) (by decide +kernel) (fun y9 e9 => okX8_draw hl e9) (fun v7 ev7 => ?_)
    refine ab_iload_n (pc := 44) (n := 2) (i := 2) (j := 2) (by decide +kernel) rfl rfl ?_
    refine ab_iconst (pc := 45) (n := 1) (v := nI 1) (by decide +kernel) rfl ?_
    refine ab_isub (pc := 46) (by decide +kernel) ?_
    refine ab_irem (pc := 47) (by decide +kernel) (fun g8 => ?_)
    refine ab_callSi (As := [.int (v1 &&& (((nI 1) <<< (v6 &&& 31)) ^^^ (-1 : Int32))), .int (ab_rm v7.1 (v2 - (nI 1)))]) (st := [.int v6, .ref x0]) (pc := 48) lk_X8_160 rfl rfl rfl (by decide) rfl (Nat.le_of_ble_eq_true rfl) (by decide +kernel) (fun y9 e9 => okX8_nthOf hl (F := F) e9) (fun v9 ev9 => ?_)
    refine ab_callVw (As := [.int v6, .int v9]) (st := []) (pc := 51) lk_X8_163_8 rfl rfl rfl (by decide) rfl (Nat.le_of_ble_eq_true rfl) (by decide +kernel) (fun y9 e9 => okX8_changeTickets hl e9) (fun h10 eh10 => ?_)
    exact ab_vret (pc := 54) (by decide +kernel) rfl rfl (Nat.le_of_ble_eq_true rfl) (Nat.le_of_ble_eq_true rfl)
set_option maxRecDepth 100000 in
set_option maxHeartbeats 4000000 in
theorem okX8_mixByDraws {l : Launch} (hl : l.stackTraces = false) {F : Nat} {x0 : Nat} {h : ab_H} {y : ab_H} (e : fX8_mixByDraws F x0 h = some y) : ab_Met l mX8_mixByDraws [.ref x0] h (.inl none, y) := ab_ofS (io := (fun y : ab_H => ((.inl none, y) : ab_R × ab_H))) (x := y) hl (by decide) rfl (Nat.le_of_ble_eq_true rfl) (wX8_mixByDraws hl F x0 h) e
def mX8_robByDraw : ab_M := (yX8_robByDraw, cX8_robByDraw, 4, none, { frames := 1, cells := 0, slots := 0, locals := 22 })
theorem iX8_robByDraw : ab_MI mX8_robByDraw 0 := ⟨kw_e561d5a6ba, kw_a869362287, by decide +kernel⟩
theorem lk_X8_167_8 : ab_LV RX8 167 8 mX8_hungCount 0 := ⟨RX8, rfl, iX8_hungCount, kw_fe25333ea5, kw_ba52473642, kw_168d9b4df9⟩
def fX8_robByDraw_19 (F : Nat) (x0 : Nat) : Nat → Int32 → Int32 → ab_H → Option ab_H
  | 0, _, _, _ => none
  | n + 1, x2, x3, h => ab_bd (ab_fi h x0 8 1) fun v5 => (if x3 < v5 then ab_bd (ab_fr h x0 8 17) fun v7 => ab_bd (ab_ia 0 h v7 x3) fun v8 => (if v8 = (-1 : Int32) then fX8_robByDraw_19 F x0 n x2 (x3 + nI 1) h else (if x2 = 0 then ab_bd (ab_fr h x0 8 9) fun v11 => ab_bd (ab_fr h x0 8 17) fun v12 => ab_bd (ab_ia 0 h v12 x3) fun v13 => ab_bd (ab_ia 0 h v11 v13) fun v14 => ab_bd (ab_fr h x0 8 9) fun v15 => ab_bd (ab_fr h x0 8 17) fun v16 => ab_bd (ab_ia 0 h v16 x3) fun v17 => ab_bd (ab_ia 0 h v15 v17) fun v18 => ab_bd (ab_iw 0 h v11 v13 (v14 &&& (v18 - (nI 1)))) fun h19 => fX8_robByDraw_19 F x0 n (x2 + (-1 : Int32)) (x3 + nI 1) h19 else fX8_robByDraw_19 F x0 n (x2 + (-1 : Int32)) (x3 + nI 1) h)) else some h)
def fX8_robByDraw (F : Nat) (x0 : Nat) (h : ab_H) : Option ab_H := ab_ck (ab_io h x0 8 = true) (ab_bd (fX8_hungCount F x0 h) fun v1 => (if v1 = 0 then some h else ab_ck (ab_io h x0 8 = true) (ab_bd (fX8_draw x0 h) fun v3 => ab_ck (¬ v1 = 0) (fX8_robByDraw_19 F x0 F (ab_rm v3.1 v1) (nI 0) v3.2))))
set_option maxRecDepth 100000 in
set_option maxHeartbeats 4000000 in
theorem lX8_robByDraw_19 {l : Launch} (hl : l.stackTraces = false) (F : Nat) (x0 : Nat) : ∀ (n : Nat) (x2 : Int32) (x3 : Int32) (h : ab_H), ab_S l mX8_robByDraw (fun y : ab_H => ((.inl none, y) : ab_R × ab_H)) 0 0 (fX8_robByDraw_19 F x0 n x2 x3 h) 19 [(0, .ref x0), (2, .int x2), (3, .int x3)] [] h := by
  intro n
  induction n with
  | zero =>
    intro x2 x3 h
    exact ab_none
  | succ n ih =>
    intro x2 x3 h
    rw [fX8_robByDraw_19]
    refine ab_iload_n (pc := 19) (n := 3) (i := 3) (j := 2) (by decide +kernel) rfl rfl ?_
    refine ab_aload_n (pc := 20) (n := 0) (i := 0) (j := 0) (by decide +kernel) rfl rfl ?_
    refine ab_getI (pc := 21) fl_X8_9_8 (by decide +kernel) (fun v5 ev5 => ?_)
    refine ab_icmp_ge (off := 53) (pc := 24) (tgt := 77) (by decide +kernel) (by decide) (fun g6 => ?_) (fun g6 => ?_)
    · refine ab_aload_n (pc := 27) (n := 0) (i := 0) (j := 0) (by decide +kernel) rfl rfl ?_
      refine ab_getR (pc := 28) fl_X8_50_8 (by decide +kernel) (fun v7 ev7 => ?_)
      refine ab_iload_n (pc := 31) (n := 3) (i := 3) (j := 2) (by decide +kernel) rfl rfl ?_
      refine ab_iald (pc := 32) (by decide +kernel) (fun v8 ev8 => ?_)
      refine ab_iconst (pc := 33) (n := -1) (v := (-1 : Int32)) (by decide +kernel) rfl ?_
      refine ab_icmp_eq (off := 37) (pc := 34) (tgt := 71) (by decide +kernel) (by decide) (fun g9 => ?_) (fun g9 => ?_)
      · refine ab_iinc (pc := 71) (i := 3) (n := 1) (j := 2) (d := nI 1) (lv' := [(0, .ref x0), (2, .int x2), (3, .int (x3 + nI 1))]) (by decide +kernel) rfl rfl (Nat.le_of_ble_eq_true rfl) rfl rfl ?_
        refine ab_goto (pc := 74) (off := (-55)) (tgt := 19) (by decide +kernel) (by decide) ?_
        exact ih x2 (x3 + nI 1) h
      · refine ab_iload_n (pc := 37) (n := 2) (i := 2) (j := 1) (by decide +kernel) rfl rfl ?_
        refine ab_if_ne (off := 30) (pc := 38) (tgt := 68) (by decide +kernel) (by decide) (fun g10 => ?_) (fun g10 => ?_)
        · refine ab_aload_n (pc := 41) (n := 0) (i := 0) (j := 0) (by decide +kernel) rfl rfl ?_
          refine ab_getR (pc := 42) fl_X8_25_8 (by decide +kernel) (fun v11 ev11 => ?_)
          refine ab_aload_n (pc := 45) (n := 0) (i := 0) (j := 0) (by decide +kernel) rfl rfl ?_
          refine ab_getR (pc := 46) fl_X8_50_8 (by decide +kernel) (fun v12 ev12 => ?_)
          refine ab_iload_n (pc := 49) (n := 3) (i := 3) (j := 2) (by decide +kernel) rfl rfl ?_
          refine ab_iald (pc := 50) (by decide +kernel) (fun v13 ev13 => ?_)
          refine ab_dup2 (pc := 51) (by decide +kernel) rfl rfl ?_
          refine ab_iald (pc := 52) (by decide +kernel) (fun v14 ev14 => ?_)
          refine ab_aload_n (pc := 53) (n := 0) (i := 0) (j := 0) (by decide +kernel) rfl rfl ?_
          refine ab_getR (pc := 54) fl_X8_25_8 (by decide +kernel) (fun v15 ev15 => ?_)
          refine ab_aload_n (pc := 57) (n := 0) (i := 0) (j := 0) (by decide +kernel) rfl rfl ?_
          refine ab_getR (pc := 58) fl_X8_50_8 (by decide +kernel) (fun v16 ev16 => ?_)
          refine ab_iload_n (pc := 61) (n := 3) (i := 3) (j := 2) (by decide +kernel) rfl rfl ?_
          refine ab_iald (pc := 62) (by decide +kernel) (fun v17 ev17 => ?_)
          refine ab_iald (pc := 63) (by decide +kernel) (fun v18 ev18 => ?_)
          refine ab_iconst (pc := 64) (n := 1) (v := nI 1) (by decide +kernel) rfl ?_
          refine ab_isub (pc := 65) (by decide +kernel) ?_
          refine ab_iand (pc := 66) (by decide +kernel) ?_
          refine ab_iast (pc := 67) (by decide +kernel) (fun h19 eh19 => ?_)
          refine ab_iinc (pc := 68) (i := 2) (n := -1) (j := 1) (d := (-1 : Int32)) (lv' := [(0, .ref x0), (2, .int (x2 + (-1 : Int32))), (3, .int x3)]) (by decide +kernel) rfl rfl (Nat.le_of_ble_eq_true rfl) rfl rfl ?_
          refine ab_iinc (pc := 71) (i := 3) (n := 1) (j := 2) (d := nI 1) (lv' := [(0, .ref x0), (2, .int (x2 + (-1 : Int32))), (3, .int (x3 + nI 1))]) (by decide +kernel) rfl rfl (Nat.le_of_ble_eq_true rfl) rfl rfl ?_
          refine ab_goto (pc := 74) (off := (-55)) (tgt := 19) (by decide +kernel) (by decide) ?_
          exact ih (x2 + (-1 : Int32)) (x3 + nI 1) h19
        · refine ab_iinc (pc := 68) (i := 2) (n := -1) (j := 1) (d := (-1 : Int32)) (lv' := [(0, .ref x0), (2, .int (x2 + (-1 : Int32))), (3, .int x3)]) (by decide +kernel) rfl rfl (Nat.le_of_ble_eq_true rfl) rfl rfl ?_
          refine ab_iinc (pc := 71) (i := 3) (n := 1) (j := 2) (d := nI 1) (lv' := [(0, .ref x0), (2, .int (x2 + (-1 : Int32))), (3, .int (x3 + nI 1))]) (by decide +kernel) rfl rfl (Nat.le_of_ble_eq_true rfl) rfl rfl ?_
          refine ab_goto (pc := 74) (off := (-55)) (tgt := 19) (by decide +kernel) (by decide) ?_
          exact ih (x2 + (-1 : Int32)) (x3 + nI 1) h
    · exact ab_vret (pc := 77) (by decide +kernel) rfl rfl (Nat.le_of_ble_eq_true rfl) (Nat.le_of_ble_eq_true rfl)
set_option maxRecDepth 100000 in
set_option maxHeartbeats 4000000 in
theorem wX8_robByDraw {l : Launch} (hl : l.stackTraces = false) (F : Nat) (x0 : Nat) (h : ab_H) : ab_S l mX8_robByDraw (fun y : ab_H => ((.inl none, y) : ab_R × ab_H)) 0 0 (fX8_robByDraw F x0 h) 0 [(0, .ref x0)] [] h := by
  unfold fX8_robByDraw
  refine ab_aload_n (pc := 0) (n := 0) (i := 0) (j := 0) (by decide +kernel) rfl rfl ?_
  refine ab_callVi (As := []) (st := []) (pc := 1) lk_X8_167_8 rfl rfl rfl (by decide) rfl (Nat.le_of_ble_eq_true rfl) (by decide +kernel) (fun y9 e9 => okX8_hungCount hl (F := F) e9) (fun v1 ev1 => ?_)
  refine ab_istore_n (pc := 4) (n := 1) (i := 1) (lv' := [(0, .ref x0), (1, .int v1)]) (by decide +kernel) rfl (Nat.le_of_ble_eq_true rfl) rfl rfl ?_
  refine ab_iload_n (pc := 5) (n := 1) (i := 1) (j := 1) (by decide +kernel) rfl rfl ?_
  refine ab_if_ne (off := 4) (pc := 6) (tgt := 10) (by decide +kernel) (by decide) (fun g2 => ?_) (fun g2 => ?_)
  · exact ab_vret (pc := 9) (by decide +kernel) rfl rfl (Nat.le_of_ble_eq_true rfl) (Nat.le_of_ble_eq_true rfl)
  · refine ab_aload_n (pc := 10) (n := 0) (i := 0) (j := 0) (by decide +kernel) rfl rfl ?_
    refine ab_callVj (As := []) (st := []) (pc := 11) lk_X8_126_8 rfl rfl rfl (by decide) rfl (Nat.le_of_ble_eq_true rfl) (by decide +kernel) (fun y9 e9 => okX8_draw hl e9) (fun v3 ev3 => ?_)
    refine ab_iload_n (pc := 14) (n := 1) (i := 1) (j := 1) (by decide +kernel) rfl rfl ?_
    refine ab_irem (pc := 15) (by decide +kernel) (fun g4 => ?_)
    refine ab_istore_n (pc := 16) (n := 2) (i := 2) (lv' := [(0, .ref x0), (1, .int v1), (2, .int (ab_rm v3.1 v1))]) (by decide +kernel) rfl (Nat.le_of_ble_eq_true rfl) rfl rfl ?_
    refine ab_iconst (pc := 17) (n := 0) (v := nI 0) (by decide +kernel) rfl ?_
    refine ab_istore_n (pc := 18) (n := 3) (i := 3) (lv' := [(0, .ref x0), (1, .int v1), (2, .int (ab_rm v3.1 v1)), (3, .int (nI 0))]) (by decide +kernel) rfl (Nat.le_of_ble_eq_true rfl) rfl rfl ?_
    refine ab_few [0, 2, 3] (lv' := [(0, .ref x0), (2, .int (ab_rm v3.1 v1)), (3, .int (nI 0))]) rfl ?_
    refine lX8_robByDraw_19 hl F x0 F (ab_rm v3.1 v1) (nI 0) v3.2
set_option maxRecDepth 100000 in
set_option maxHeartbeats 4000000 in
theorem okX8_robByDraw {l : Launch} (hl : l.stackTraces = false) {F : Nat} {x0 : Nat} {h : ab_H} {y : ab_H} (e : fX8_robByDraw F x0 h = some y) : ab_Met l mX8_robByDraw [.ref x0] h (.inl none, y) := ab_ofS (io := (fun y : ab_H => ((.inl none, y) : ab_R × ab_H))) (x := y) hl (by decide) rfl (Nat.le_of_ble_eq_true rfl) (wX8_robByDraw hl F x0 h) e
def mX8_valueOf : ab_M := (yX8_valueOf, cX8_valueOf, 4, (some .int), { frames := 1, cells := 0, slots := 0, locals := 22 })
theorem iX8_valueOf : ab_MI mX8_valueOf 2 := ⟨kw_d9405a1cb2, kw_a869362287, by decide +kernel⟩
def fX8_valueOf (F : Nat) (x0 : Nat) (x1 : Int32) (x2 : Int32) (h : ab_H) : Option Int32 := ab_bd (ab_fr h x0 8 11) fun v1 => ab_bd (ab_ia 0 h v1 x2) fun v2 => ab_jn (κ := Int32 → Option Int32) (fun (z3 : Int32) => (if x1 = nI 1002 then ab_bd (ab_fr h x0 8 13) fun v22 => ab_bd (ab_ia 0 h v22 x2) fun v23 => (if v23 = (-1 : Int32) then some (nI 0) else some (nI 1)) else (if x1 = nI 1003 then some (nI 0) else (if x1 = nI 1004 then some (nI 0) else (if x1 = nI 1005 then some (nI 0) else (if x1 = nI 1006 then some (nI 0) else (if x1 = nI 1007 then some (nI 0) else (if x1 = nI 1008 then some (nI 0) else (if x1 = nI 1009 then some (nI 0) else (if x1 = nI 1010 then some (nI 0) else (if x1 = nI 1011 then some (nI 0) else (if x1 = nI 1012 then some (nI 0) else (if x1 = nI 1013 then (if z3 = x2 then some (nI 1) else some (nI 0)) else (if x1 = nI 1014 then some x2 else (if x1 = nI 1015 then ab_bd (ab_fi h x0 8 2) fun v26 => some v26 else (if x1 = nI 1016 then ab_bd (ab_fr h x0 8 12) fun v27 => ab_bd (ab_ia 0 h v27 x2) fun v28 => (if v28 = (-1 : Int32) then some (nI 99) else ab_bd (ab_fr h x0 8 12) fun v30 => ab_bd (ab_ia 0 h v30 x2) fun v31 => some v31) else (if x1 = nI 1017 then (if z3 = (-1 : Int32) then some (nI 0) else ab_bd (ab_fr h x0 8 9) fun v33 => ab_bd (ab_ia 0 h v33 z3) fun v34 => ab_bd (fJ6_bitCount_0f7a4 v34 h) fun v35 => some v35) else (if x1 = nI 1018 then ab_ck (ab_io h x0 8 = true) (ab_bd (fX8_hungCount F x0 h) fun v36 => some v36) else (if x1 = nI 1019 then ab_bd (ab_fi h x0 8 1) fun v37 => ab_ck (ab_io h x0 8 = true) (ab_bd (fX8_hungCount F x0 h) fun v38 => some (v37 - v38)) else some (nI 0)))))))))))))))))))) fun j39 => (if v2 = (-1 : Int32) then ab_bd (ab_fr h x0 8 12) fun v41 => ab_bd (ab_ia 0 h v41 x2) fun v42 => ab_ck (ab_io h x0 8 = true) (ab_bd (fX8_faceAt x0 v42 h) fun v43 => j39 v43) else ab_bd (ab_fr h x0 8 11) fun v44 => ab_bd (ab_ia 0 h v44 x2) fun v45 => j39 v45)
set_option maxRecDepth 100000 in
set_option maxHeartbeats 4000000 in
theorem wX8_valueOf {l : Launch} (hl : l.stackTraces = false) (F : Nat) (x0 : Nat) (x1 : Int32) (x2 : Int32) (h : ab_H) : ab_S l mX8_valueOf (fun y : Int32 => ((.inl (some (.int y)), h) : ab_R × ab_H)) 0 0 (fX8_valueOf F x0 x1 x2 h) 0 [(0, .ref x0), (1, .int x1), (2, .int x2)] [] h := by
  unfold fX8_valueOf
  refine ab_aload_n (pc := 0) (n := 0) (i := 0) (j := 0) (by decide +kernel) rfl rfl ?_
  refine ab_getR (pc := 1) fl_X8_32_8 (by decide +kernel) (fun v1 ev1 => ?_)
  refine ab_iload_n (pc := 4) (n := 2) (i := 2) (j := 2) (by decide +kernel) rfl rfl ?_
  refine ab_iald (pc := 5) (by decide +kernel) (fun v2 ev2 => ?_)
  refine ab_iconst (pc := 6) (n := -1) (v := (-1 : Int32)) (by decide +kernel) rfl ?_
  refine ab_jr (fun k9 : Int32 → Option Int32 => ∀ (z3 : Int32), ab_S l mX8_valueOf (fun y : Int32 => ((.inl (some (.int y)), h) : ab_R × ab_H)) 0 0 (k9 z3) 29 [(0, .ref x0), (1, .int x1), (2, .int x2)] [.int z3] h) ?_ (fun j39 hj39 => ?_)
  · intro z3
    refine ab_istore_n (pc := 29) (n := 3) (i := 3) (lv' := [(0, .ref x0), (1, .int x1), (2, .int x2), (3, .int z3)]) (by decide +kernel) rfl (Nat.le_of_ble_eq_true rfl) rfl rfl ?_
    refine ab_iload_n (pc := 30) (n := 1) (i := 1) (j := 1) (by decide +kernel) rfl rfl ?_
    refine ab_swC (pc := 31) (c9 := nI 1002) (off := 159) (tgt := 190) (dflt := 175) (lo := 1002) (hi := 1019) (offs := #[159, 175, 175, 175, 175, 175, 175, 175, 175, 175, 175, 148, 85, 87, 92, 114, 133, 138]) (len := 85) (by decide +kernel) (by decide) (by decide) (by decide) (by decide) (fun g4 => ?_) (fun g4 => ?_)
    · refine ab_aload_n (pc := 190) (n := 0) (i := 0) (j := 0) (by decide +kernel) rfl rfl ?_
      refine ab_getR (pc := 191) fl_X8_38_8 (by decide +kernel) (fun v22 ev22 => ?_)
      refine ab_iload_n (pc := 194) (n := 2) (i := 2) (j := 2) (by decide +kernel) rfl rfl ?_
      refine ab_iald (pc := 195) (by decide +kernel) (fun v23 ev23 => ?_)
      refine ab_iconst (pc := 196) (n := -1) (v := (-1 : Int32)) (by decide +kernel) rfl ?_
      refine ab_icmp_ne (off := 7) (pc := 197) (tgt := 204) (by decide +kernel) (by decide) (fun g24 => ?_) (fun g24 => ?_)
      · refine ab_iconst (pc := 200) (n := 0) (v := nI 0) (by decide +kernel) rfl ?_
        refine ab_goto (pc := 201) (off := 4) (tgt := 205) (by decide +kernel) (by decide) ?_
        exact ab_iret (pc := 205) (by decide +kernel) rfl rfl (Nat.le_of_ble_eq_true rfl) (Nat.le_of_ble_eq_true rfl)
      · refine ab_iconst (pc := 204) (n := 1) (v := nI 1) (by decide +kernel) rfl ?_
        exact ab_iret (pc := 205) (by decide +kernel) rfl rfl (Nat.le_of_ble_eq_true rfl) (Nat.le_of_ble_eq_true rfl)
    · refine ab_swC (pc := 31) (c9 := nI 1003) (off := 175) (tgt := 206) (dflt := 175) (lo := 1002) (hi := 1019) (offs := #[159, 175, 175, 175, 175, 175, 175, 175, 175, 175, 175, 148, 85, 87, 92, 114, 133, 138]) (len := 85) (by decide +kernel) (by decide) (by decide) (by decide) (by decide) (fun g5 => ?_) (fun g5 => ?_)
      · refine ab_iconst (pc := 206) (n := 0) (v := nI 0) (by decide +kernel) rfl ?_
        exact ab_iret (pc := 207) (by decide +kernel) rfl rfl (Nat.le_of_ble_eq_true rfl) (Nat.le_of_ble_eq_true rfl)
      · refine ab_swC (pc := 31) (c9 := nI 1004) (off := 175) (tgt := 206) (dflt := 175) (lo := 1002) (hi := 1019) (offs := #[159, 175, 175, 175, 175, 175, 175, 175, 175, 175, 175, 148, 85, 87, 92, 114, 133, 138]) (len := 85) (by decide +kernel) (by decide) (by decide) (by decide) (by decide) (fun g6 => ?_) (fun g6 => ?_)
        · refine ab_iconst (pc := 206) (n := 0) (v := nI 0) (by decide +kernel) rfl ?_
          exact ab_iret (pc := 207) (by decide +kernel) rfl rfl (Nat.le_of_ble_eq_true rfl) (Nat.le_of_ble_eq_true rfl)
        · refine ab_swC (pc := 31) (c9 := nI 1005) (off := 175) (tgt := 206) (dflt := 175) (lo := 1002) (hi := 1019) (offs := #[159, 175, 175, 175, 175, 175, 175, 175, 175, 175, 175, 148, 85, 87, 92, 114, 133, 138]) (len := 85) (by decide +kernel) (by decide) (by decide) (by decide) (by decide) (fun g7 => ?_) (fun g7 => ?_)
          · refine ab_iconst (pc := 206) (n := 0) (v := nI 0) (by decide +kernel) rfl ?_
            exact ab_iret (pc := 207) (by decide +kernel) rfl rfl (Nat.le_of_ble_eq_true rfl) (Nat.le_of_ble_eq_true rfl)
          · refine ab_swC (pc := 31) (c9 := nI 1006) (off := 175) (tgt := 206) (dflt := 175) (lo := 1002) (hi := 1019) (offs := #[159, 175, 175, 175, 175, 175, 175, 175, 175, 175, 175, 148, 85, 87, 92, 114, 133, 138]) (len := 85) (by decide +kernel) (by decide) (by decide) (by decide) (by decide) (fun g8 => ?_) (fun g8 => ?_)
            · refine ab_iconst (pc := 206) (n := 0) (v := nI 0) (by decide +kernel) rfl ?_
              exact ab_iret (pc := 207) (by decide +kernel) rfl rfl (Nat.le_of_ble_eq_true rfl) (Nat.le_of_ble_eq_true rfl)
            · refine ab_swC (pc := 31) (c9 := nI 1007) (off := 175) (tgt := 206) (dflt := 175) (lo := 1002) (hi := 1019) (offs := #[159, 175, 175, 175, 175, 175, 175, 175, 175, 175, 175, 148, 85, 87, 92, 114, 133, 138]) (len := 85) (by decide +kernel) (by decide) (by decide) (by decide) (by decide) (fun g9 => ?_) (fun g9 => ?_)
              · refine ab_iconst (pc := 206) (n := 0) (v := nI 0) (by decide +kernel) rfl ?_
                exact ab_iret (pc := 207) (by decide +kernel) rfl rfl (Nat.le_of_ble_eq_true rfl) (Nat.le_of_ble_eq_true rfl)
              · refine ab_swC (pc := 31) (c9 := nI 1008) (off := 175) (tgt := 206) (dflt := 175) (lo := 1002) (hi := 1019) (offs := #[159, 175, 175, 175, 175, 175, 175, 175, 175, 175, 175, 148, 85, 87, 92, 114, 133, 138]) (len := 85) (by decide +kernel) (by decide) (by decide) (by decide) (by decide) (fun g10 => ?_) (fun g10 => ?_)
                · refine ab_iconst (pc := 206) (n := 0) (v := nI 0) (by decide +kernel) rfl ?_
                  exact ab_iret (pc := 207) (by decide +kernel) rfl rfl (Nat.le_of_ble_eq_true rfl) (Nat.le_of_ble_eq_true rfl)
                · refine ab_swC (pc := 31) (c9 := nI 1009) (off := 175) (tgt := 206) (dflt := 175) (lo := 1002) (hi := 1019) (offs := #[159, 175, 175, 175, 175, 175, 175, 175, 175, 175, 175, 148, 85, 87, 92, 114, 133, 138]) (len := 85) (by decide +kernel) (by decide) (by decide) (by decide) (by decide) (fun g11 => ?_) (fun g11 => ?_)
                  · refine ab_iconst (pc := 206) (n := 0) (v := nI 0) (by decide +kernel) rfl ?_
                    exact ab_iret (pc := 207) (by decide +kernel) rfl rfl (Nat.le_of_ble_eq_true rfl) (Nat.le_of_ble_eq_true rfl)
                  · refine ab_swC (pc := 31) (c9 := nI 1010) (off := 175) (tgt := 206) (dflt := 175) (lo := 1002) (hi := 1019) (offs := #[159, 175, 175, 175, 175, 175, 175, 175, 175, 175, 175, 148, 85, 87, 92, 114, 133, 138]) (len := 85) (by decide +kernel) (by decide) (by decide) (by decide) (by decide) (fun g12 => ?_) (fun g12 => ?_)
                    · refine ab_iconst (pc := 206) (n := 0) (v := nI 0) (by decide +kernel) rfl ?_
                      exact ab_iret (pc := 207) (by decide +kernel) rfl rfl (Nat.le_of_ble_eq_true rfl) (Nat.le_of_ble_eq_true rfl)
                    · refine ab_swC (pc := 31) (c9 := nI 1011) (off := 175) (tgt := 206) (dflt := 175) (lo := 1002) (hi := 1019) (offs := #[159, 175, 175, 175, 175, 175, 175, 175, 175, 175, 175, 148, 85, 87, 92, 114, 133, 138]) (len := 85) (by decide +kernel) (by decide) (by decide) (by decide) (by decide) (fun g13 => ?_) (fun g13 => ?_)
                      · refine ab_iconst (pc := 206) (n := 0) (v := nI 0) (by decide +kernel) rfl ?_
                        exact ab_iret (pc := 207) (by decide +kernel) rfl rfl (Nat.le_of_ble_eq_true rfl) (Nat.le_of_ble_eq_true rfl)
                      · refine ab_swC (pc := 31) (c9 := nI 1012) (off := 175) (tgt := 206) (dflt := 175) (lo := 1002) (hi := 1019) (offs := #[159, 175, 175, 175, 175, 175, 175, 175, 175, 175, 175, 148, 85, 87, 92, 114, 133, 138]) (len := 85) (by decide +kernel) (by decide) (by decide) (by decide) (by decide) (fun g14 => ?_) (fun g14 => ?_)
                        · refine ab_iconst (pc := 206) (n := 0) (v := nI 0) (by decide +kernel) rfl ?_
                          exact ab_iret (pc := 207) (by decide +kernel) rfl rfl (Nat.le_of_ble_eq_true rfl) (Nat.le_of_ble_eq_true rfl)
                        · refine ab_swC (pc := 31) (c9 := nI 1013) (off := 148) (tgt := 179) (dflt := 175) (lo := 1002) (hi := 1019) (offs := #[159, 175, 175, 175, 175, 175, 175, 175, 175, 175, 175, 148, 85, 87, 92, 114, 133, 138]) (len := 85) (by decide +kernel) (by decide) (by decide) (by decide) (by decide) (fun g15 => ?_) (fun g15 => ?_)
                          · refine ab_iload_n (pc := 179) (n := 3) (i := 3) (j := 3) (by decide +kernel) rfl rfl ?_
                            refine ab_iload_n (pc := 180) (n := 2) (i := 2) (j := 2) (by decide +kernel) rfl rfl ?_
                            refine ab_icmp_ne (off := 7) (pc := 181) (tgt := 188) (by decide +kernel) (by decide) (fun g25 => ?_) (fun g25 => ?_)
                            · refine ab_iconst (pc := 184) (n := 1) (v := nI 1) (by decide +kernel) rfl ?_
                              refine ab_goto (pc := 185) (off := 4) (tgt := 189) (by decide +kernel) (by decide) ?_
                              exact ab_iret (pc := 189) (by decide +kernel) rfl rfl (Nat.le_of_ble_eq_true rfl) (Nat.le_of_ble_eq_true rfl)
                            · refine ab_iconst (pc := 188) (n := 0) (v := nI 0) (by decide +kernel) rfl ?_
                              exact ab_iret (pc := 189) (by decide +kernel) rfl rfl (Nat.le_of_ble_eq_true rfl) (Nat.le_of_ble_eq_true rfl)
                          · refine ab_swC (pc := 31) (c9 := nI 1014) (off := 85) (tgt := 116) (dflt := 175) (lo := 1002) (hi := 1019) (offs := #[159, 175, 175, 175, 175, 175, 175, 175, 175, 175, 175, 148, 85, 87, 92, 114, 133, 138]) (len := 85) (by decide +kernel) (by decide) (by decide) (by decide) (by decide) (fun g16 => ?_) (fun g16 => ?_)
                            · refine ab_iload_n (pc := 116) (n := 2) (i := 2) (j := 2) (by decide +kernel) rfl rfl ?_
                              exact ab_iret (pc := 117) (by decide +kernel) rfl rfl (Nat.le_of_ble_eq_true rfl) (Nat.le_of_ble_eq_true rfl)
                            · refine ab_swC (pc := 31) (c9 := nI 1015) (off := 87) (tgt := 118) (dflt := 175) (lo := 1002) (hi := 1019) (offs := #[159, 175, 175, 175, 175, 175, 175, 175, 175, 175, 175, 148, 85, 87, 92, 114, 133, 138]) (len := 85) (by decide +kernel) (by decide) (by decide) (by decide) (by decide) (fun g17 => ?_) (fun g17 => ?_)
                              · refine ab_aload_n (pc := 118) (n := 0) (i := 0) (j := 0) (by decide +kernel) rfl rfl ?_
                                refine ab_getI (pc := 119) fl_X8_66_8 (by decide +kernel) (fun v26 ev26 => ?_)
                                exact ab_iret (pc := 122) (by decide +kernel) rfl rfl (Nat.le_of_ble_eq_true rfl) (Nat.le_of_ble_eq_true rfl)
                              · refine ab_swC (pc := 31) (c9 := nI 1016) (off := 92) (tgt := 123) (dflt := 175) (lo := 1002) (hi := 1019) (offs := #[159, 175, 175, 175, 175, 175, 175, 175, 175, 175, 175, 148, 85, 87, 92, 114, 133, 138]) (len := 85) (by decide +kernel) (by decide) (by decide) (by decide) (by decide) (fun g18 => ?_) (fun g18 => ?_)
                                · refine ab_aload_n (pc := 123) (n := 0) (i := 0) (j := 0) (by decide +kernel) rfl rfl ?_
                                  refine ab_getR (pc := 124) fl_X8_35_8 (by decide +kernel) (fun v27 ev27 => ?_)
                                  refine ab_iload_n (pc := 127) (n := 2) (i := 2) (j := 2) (by decide +kernel) rfl rfl ?_
                                  refine ab_iald (pc := 128) (by decide +kernel) (fun v28 ev28 => ?_)
                                  refine ab_iconst (pc := 129) (n := -1) (v := (-1 : Int32)) (by decide +kernel) rfl ?_
                                  refine ab_icmp_ne (off := 8) (pc := 130) (tgt := 138) (by decide +kernel) (by decide) (fun g29 => ?_) (fun g29 => ?_)
                                  · refine ab_bipush (pc := 133) (n := 99) (v := nI 99) (by decide +kernel) (by decide) ?_
                                    refine ab_goto (pc := 135) (off := 9) (tgt := 144) (by decide +kernel) (by decide) ?_
                                    exact ab_iret (pc := 144) (by decide +kernel) rfl rfl (Nat.le_of_ble_eq_true rfl) (Nat.le_of_ble_eq_true rfl)
                                  · refine ab_aload_n (pc := 138) (n := 0) (i := 0) (j := 0) (by decide +kernel) rfl rfl ?_
                                    refine ab_getR (pc := 139) fl_X8_35_8 (by decide +kernel) (fun v30 ev30 => ?_)
                                    refine ab_iload_n (pc := 142) (n := 2) (i := 2) (j := 2) (by decide +kernel) rfl rfl ?_
                                    refine ab_iald (pc := 143) (by decide +kernel) (fun v31 ev31 => ?_)
                                    exact ab_iret (pc := 144) (by decide +kernel) rfl rfl (Nat.le_of_ble_eq_true rfl) (Nat.le_of_ble_eq_true rfl)
                                · refine ab_swC (pc := 31) (c9 := nI 1017) (off := 114) (tgt := 145) (dflt := 175) (lo := 1002) (hi := 1019) (offs := #[159, 175, 175, 175, 175, 175, 175, 175, 175, 175, 175, 148, 85, 87, 92, 114, 133, 138]) (len := 85) (by decide +kernel) (by decide) (by decide) (by decide) (by decide) (fun g19 => ?_) (fun g19 => ?_)
                                  · refine ab_iload_n (pc := 145) (n := 3) (i := 3) (j := 3) (by decide +kernel) rfl rfl ?_
                                    refine ab_iconst (pc := 146) (n := -1) (v := (-1 : Int32)) (by decide +kernel) rfl ?_
                                    refine ab_icmp_ne (off := 7) (pc := 147) (tgt := 154) (by decide +kernel) (by decide) (fun g32 => ?_) (fun g32 => ?_)
                                    · refine ab_iconst (pc := 150) (n := 0) (v := nI 0) (by decide +kernel) rfl ?_
                                      refine ab_goto (pc := 151) (off := 12) (tgt := 163) (by decide +kernel) (by decide) ?_
                                      exact ab_iret (pc := 163) (by decide +kernel) rfl rfl (Nat.le_of_ble_eq_true rfl) (Nat.le_of_ble_eq_true rfl)
                                    · refine ab_aload_n (pc := 154) (n := 0) (i := 0) (j := 0) (by decide +kernel) rfl rfl ?_
                                      refine ab_getR (pc := 155) fl_X8_25_8 (by decide +kernel) (fun v33 ev33 => ?_)
                                      refine ab_iload_n (pc := 158) (n := 3) (i := 3) (j := 3) (by decide +kernel) rfl rfl ?_
                                      refine ab_iald (pc := 159) (by decide +kernel) (fun v34 ev34 => ?_)
                                      refine ab_callSi (As := [.int v34]) (st := []) (pc := 160) lk_X8_155 rfl rfl rfl (by decide) rfl (Nat.le_of_ble_eq_true rfl) (by decide +kernel) (fun y9 e9 => okJ6_bitCount_0f7a4 hl e9) (fun v35 ev35 => ?_)
                                      exact ab_iret (pc := 163) (by decide +kernel) rfl rfl (Nat.le_of_ble_eq_true rfl) (Nat.le_of_ble_eq_true rfl)
                                  · refine ab_swC (pc := 31) (c9 := nI 1018) (off := 133) (tgt := 164) (dflt := 175) (lo := 1002) (hi := 1019) (offs := #[159, 175, 175, 175, 175, 175, 175, 175, 175, 175, 175, 148, 85, 87, 92, 114, 133, 138]) (len := 85) (by decide +kernel) (by decide) (by decide) (by decide) (by decide) (fun g20 => ?_) (fun g20 => ?_)
                                    · refine ab_aload_n (pc := 164) (n := 0) (i := 0) (j := 0) (by decide +kernel) rfl rfl ?_
                                      refine ab_callVi (As := []) (st := []) (pc := 165) lk_X8_167_8 rfl rfl rfl (by decide) rfl (Nat.le_of_ble_eq_true rfl) (by decide +kernel) (fun y9 e9 => okX8_hungCount hl (F := F) e9) (fun v36 ev36 => ?_)
                                      exact ab_iret (pc := 168) (by decide +kernel) rfl rfl (Nat.le_of_ble_eq_true rfl) (Nat.le_of_ble_eq_true rfl)
                                    · refine ab_swC (pc := 31) (c9 := nI 1019) (off := 138) (tgt := 169) (dflt := 175) (lo := 1002) (hi := 1019) (offs := #[159, 175, 175, 175, 175, 175, 175, 175, 175, 175, 175, 148, 85, 87, 92, 114, 133, 138]) (len := 85) (by decide +kernel) (by decide) (by decide) (by decide) (by decide) (fun g21 => ?_) (fun g21 => ?_)
                                      · refine ab_aload_n (pc := 169) (n := 0) (i := 0) (j := 0) (by decide +kernel) rfl rfl ?_
                                        refine ab_getI (pc := 170) fl_X8_9_8 (by decide +kernel) (fun v37 ev37 => ?_)
                                        refine ab_aload_n (pc := 173) (n := 0) (i := 0) (j := 0) (by decide +kernel) rfl rfl ?_
                                        refine ab_callVi (As := []) (st := [.int v37]) (pc := 174) lk_X8_167_8 rfl rfl rfl (by decide) rfl (Nat.le_of_ble_eq_true rfl) (by decide +kernel) (fun y9 e9 => okX8_hungCount hl (F := F) e9) (fun v38 ev38 => ?_)
                                        refine ab_isub (pc := 177) (by decide +kernel) ?_
                                        exact ab_iret (pc := 178) (by decide +kernel) rfl rfl (Nat.le_of_ble_eq_true rfl) (Nat.le_of_ble_eq_true rfl)
                                      · refine ab_swD (pc := 31) (tgt := 206) (dflt := 175) (lo := 1002) (hi := 1019) (offs := #[159, 175, 175, 175, 175, 175, 175, 175, 175, 175, 175, 148, 85, 87, 92, 114, 133, 138]) (len := 85) (by decide +kernel) (by have qg4 := ab_neN (n := 1002) (by decide) g4; have qg5 := ab_neN (n := 1003) (by decide) g5; have qg6 := ab_neN (n := 1004) (by decide) g6; have qg7 := ab_neN (n := 1005) (by decide) g7; have qg8 := ab_neN (n := 1006) (by decide) g8; have qg9 := ab_neN (n := 1007) (by decide) g9; have qg10 := ab_neN (n := 1008) (by decide) g10; have qg11 := ab_neN (n := 1009) (by decide) g11; have qg12 := ab_neN (n := 1010) (by decide) g12; have qg13 := ab_neN (n := 1011) (by decide) g13; have qg14 := ab_neN (n := 1012) (by decide) g14; have qg15 := ab_neN (n := 1013) (by decide) g15; have qg16 := ab_neN (n := 1014) (by decide) g16; have qg17 := ab_neN (n := 1015) (by decide) g17; have qg18 := ab_neN (n := 1016) (by decide) g18; have qg19 := ab_neN (n := 1017) (by decide) g19; have qg20 := ab_neN (n := 1018) (by decide) g20; have qg21 := ab_neN (n := 1019) (by decide) g21; omega) (by decide) ?_
                                        refine ab_iconst (pc := 206) (n := 0) (v := nI 0) (by decide +kernel) rfl ?_
                                        exact ab_iret (pc := 207) (by decide +kernel) rfl rfl (Nat.le_of_ble_eq_true rfl) (Nat.le_of_ble_eq_true rfl)
  · refine ab_icmp_ne (off := 16) (pc := 7) (tgt := 23) (by decide +kernel) (by decide) (fun g40 => ?_) (fun g40 => ?_)
    · refine ab_aload_n (pc := 10) (n := 0) (i := 0) (j := 0) (by decide +kernel) rfl rfl ?_
      refine ab_aload_n (pc := 11) (n := 0) (i := 0) (j := 0) (by decide +kernel) rfl rfl ?_
      refine ab_getR (pc := 12) fl_X8_35_8 (by decide +kernel) (fun v41 ev41 => ?_)
      refine ab_iload_n (pc := 15) (n := 2) (i := 2) (j := 2) (by decide +kernel) rfl rfl ?_
      refine ab_iald (pc := 16) (by decide +kernel) (fun v42 ev42 => ?_)
      refine ab_callVi (As := [.int v42]) (st := []) (pc := 17) lk_X8_107_8 rfl rfl rfl (by decide) rfl (Nat.le_of_ble_eq_true rfl) (by decide +kernel) (fun y9 e9 => okX8_faceAt hl e9) (fun v43 ev43 => ?_)
      refine ab_goto (pc := 20) (off := 9) (tgt := 29) (by decide +kernel) (by decide) ?_
      exact hj39 v43
    · refine ab_aload_n (pc := 23) (n := 0) (i := 0) (j := 0) (by decide +kernel) rfl rfl ?_
      refine ab_getR (pc := 24) fl_X8_32_8 (by decide +kernel) (fun v44 ev44 => ?_)
      refine ab_iload_n (pc := 27) (n := 2) (i := 2) (j := 2) (by decide +kernel) rfl rfl ?_
      refine ab_iald (pc := 28) (by decide +kernel) (fun v45 ev45 => ?_)
      exact hj39 v45
set_option maxRecDepth 100000 in
set_option maxHeartbeats 4000000 in
theorem okX8_valueOf {l : Launch} (hl : l.stackTraces = false) {F : Nat} {x0 : Nat} {x1 : Int32} {x2 : Int32} {h : ab_H} {y : Int32} (e : fX8_valueOf F x0 x1 x2 h = some y) : ab_Met l mX8_valueOf [.ref x0, .int x1, .int x2] h (.inl (some (.int y)), h) := ab_ofS (io := (fun y : Int32 => ((.inl (some (.int y)), h) : ab_R × ab_H))) (x := y) hl (by decide) rfl (Nat.le_of_ble_eq_true rfl) (wX8_valueOf hl F x0 x1 x2 h) e
def mX8_knownToAny : ab_M := (yX8_knownToAny, cX8_knownToAny, 4, (some .int), { frames := 1, cells := 0, slots := 0, locals := 21 })
theorem iX8_knownToAny : ab_MI mX8_knownToAny 1 := ⟨kw_ddeb8f59c1, kw_a869362287, by decide +kernel⟩
def fX8_knownToAny_4 (x0 : Nat) (x1 : Int32) (h : ab_H) : Nat → Int32 → Int32 → Option Int32
  | 0, _, _ => none
  | n + 1, x2, x3 => ab_bd (ab_fi h x0 8 0) fun v1 => (if x3 < v1 then ab_bd (fX11_has x1 x3 h) fun v3 => (if v3 = 0 then fX8_knownToAny_4 x0 x1 h n x2 (x3 + nI 1) else ab_bd (ab_fr h x0 8 14) fun v5 => ab_bd (ab_ia 0 h v5 x3) fun v6 => fX8_knownToAny_4 x0 x1 h n (x2 ||| v6) (x3 + nI 1)) else some x2)
def fX8_knownToAny (F : Nat) (x0 : Nat) (x1 : Int32) (h : ab_H) : Option Int32 := fX8_knownToAny_4 x0 x1 h F (nI 0) (nI 0)
set_option maxRecDepth 100000 in
set_option maxHeartbeats 4000000 in
theorem lX8_knownToAny_4 {l : Launch} (hl : l.stackTraces = false) (x0 : Nat) (x1 : Int32) (h : ab_H) : ∀ (n : Nat) (x2 : Int32) (x3 : Int32), ab_S l mX8_knownToAny (fun y : Int32 => ((.inl (some (.int y)), h) : ab_R × ab_H)) 0 0 (fX8_knownToAny_4 x0 x1 h n x2 x3) 4 [(0, .ref x0), (1, .int x1), (2, .int x2), (3, .int x3)] [] h := by
  intro n
  induction n with
  | zero =>
    intro x2 x3
    exact ab_none
  | succ n ih =>
    intro x2 x3
    rw [fX8_knownToAny_4]
    refine ab_iload_n (pc := 4) (n := 3) (i := 3) (j := 3) (by decide +kernel) rfl rfl ?_
    refine ab_aload_n (pc := 5) (n := 0) (i := 0) (j := 0) (by decide +kernel) rfl rfl ?_
    refine ab_getI (pc := 6) fl_X8_63_8 (by decide +kernel) (fun v1 ev1 => ?_)
    refine ab_icmp_ge (off := 26) (pc := 9) (tgt := 35) (by decide +kernel) (by decide) (fun g2 => ?_) (fun g2 => ?_)
    · refine ab_iload_n (pc := 12) (n := 1) (i := 1) (j := 1) (by decide +kernel) rfl rfl ?_
      refine ab_iload_n (pc := 13) (n := 3) (i := 3) (j := 3) (by decide +kernel) rfl rfl ?_
      refine ab_callNi (As := [.int x1, .int x3]) (st := []) (pc := 14) (index := 96) (host := "HungFaces") iX11_has (by show (RX8, 96, yX11_has, "HungFaces") ∈ ab_nm; decide +kernel) kw_b5c7c9a43d rfl rfl rfl (by decide) rfl (Nat.le_of_ble_eq_true rfl) (by decide +kernel) (fun y9 e9 => okX11_has hl e9) (fun v3 ev3 => ?_)
      refine ab_if_eq (off := 12) (pc := 17) (tgt := 29) (by decide +kernel) (by decide) (fun g4 => ?_) (fun g4 => ?_)
      · refine ab_iinc (pc := 29) (i := 3) (n := 1) (j := 3) (d := nI 1) (lv' := [(0, .ref x0), (1, .int x1), (2, .int x2), (3, .int (x3 + nI 1))]) (by decide +kernel) rfl rfl (Nat.le_of_ble_eq_true rfl) rfl rfl ?_
        refine ab_goto (pc := 32) (off := (-28)) (tgt := 4) (by decide +kernel) (by decide) ?_
        exact ih x2 (x3 + nI 1)
      · refine ab_iload_n (pc := 20) (n := 2) (i := 2) (j := 2) (by decide +kernel) rfl rfl ?_
        refine ab_aload_n (pc := 21) (n := 0) (i := 0) (j := 0) (by decide +kernel) rfl rfl ?_
        refine ab_getR (pc := 22) fl_X8_41_8 (by decide +kernel) (fun v5 ev5 => ?_)
        refine ab_iload_n (pc := 25) (n := 3) (i := 3) (j := 3) (by decide +kernel) rfl rfl ?_
        refine ab_iald (pc := 26) (by decide +kernel) (fun v6 ev6 => ?_)
        refine ab_ior (pc := 27) (by decide +kernel) ?_
        refine ab_istore_n (pc := 28) (n := 2) (i := 2) (lv' := [(0, .ref x0), (1, .int x1), (2, .int (x2 ||| v6)), (3, .int x3)]) (by decide +kernel) rfl (Nat.le_of_ble_eq_true rfl) rfl rfl ?_
        refine ab_iinc (pc := 29) (i := 3) (n := 1) (j := 3) (d := nI 1) (lv' := [(0, .ref x0), (1, .int x1), (2, .int (x2 ||| v6)), (3, .int (x3 + nI 1))]) (by decide +kernel) rfl rfl (Nat.le_of_ble_eq_true rfl) rfl rfl ?_
        refine ab_goto (pc := 32) (off := (-28)) (tgt := 4) (by decide +kernel) (by decide) ?_
        exact ih (x2 ||| v6) (x3 + nI 1)
    · refine ab_iload_n (pc := 35) (n := 2) (i := 2) (j := 2) (by decide +kernel) rfl rfl ?_
      exact ab_iret (pc := 36) (by decide +kernel) rfl rfl (Nat.le_of_ble_eq_true rfl) (Nat.le_of_ble_eq_true rfl)
set_option maxRecDepth 100000 in
set_option maxHeartbeats 4000000 in
theorem wX8_knownToAny {l : Launch} (hl : l.stackTraces = false) (F : Nat) (x0 : Nat) (x1 : Int32) (h : ab_H) : ab_S l mX8_knownToAny (fun y : Int32 => ((.inl (some (.int y)), h) : ab_R × ab_H)) 0 0 (fX8_knownToAny F x0 x1 h) 0 [(0, .ref x0), (1, .int x1)] [] h := by
  unfold fX8_knownToAny
  refine ab_iconst (pc := 0) (n := 0) (v := nI 0) (by decide +kernel) rfl ?_
  refine ab_istore_n (pc := 1) (n := 2) (i := 2) (lv' := [(0, .ref x0), (1, .int x1), (2, .int (nI 0))]) (by decide +kernel) rfl (Nat.le_of_ble_eq_true rfl) rfl rfl ?_
  refine ab_iconst (pc := 2) (n := 0) (v := nI 0) (by decide +kernel) rfl ?_
  refine ab_istore_n (pc := 3) (n := 3) (i := 3) (lv' := [(0, .ref x0), (1, .int x1), (2, .int (nI 0)), (3, .int (nI 0))]) (by decide +kernel) rfl (Nat.le_of_ble_eq_true rfl) rfl rfl ?_
  refine lX8_knownToAny_4 hl x0 x1 h F (nI 0) (nI 0)
set_option maxRecDepth 100000 in
set_option maxHeartbeats 4000000 in
theorem okX8_knownToAny {l : Launch} (hl : l.stackTraces = false) {F : Nat} {x0 : Nat} {x1 : Int32} {h : ab_H} {y : Int32} (e : fX8_knownToAny F x0 x1 h = some y) : ab_Met l mX8_knownToAny [.ref x0, .int x1] h (.inl (some (.int y)), h) := ab_ofS (io := (fun y : Int32 => ((.inl (some (.int y)), h) : ab_R × ab_H))) (x := y) hl (by decide) rfl (Nat.le_of_ble_eq_true rfl) (wX8_knownToAny hl F x0 x1 h) e
def mX11_hook : ab_M := (yX11_hook, cX11_hook, 2, (some .int), { frames := 7, cells := 1, slots := 6, locals := 111 })
theorem iX11_hook : ab_MI mX11_hook 1 := ⟨kw_56a69246b1, kw_62b61b7ad3, by decide +kernel⟩
theorem lk_X11_174_11 : ab_LV RX11 174 11 mX11_needHook 1 := ⟨RX11, rfl, iX11_needHook, kw_c4d863ffe7, kw_cb8cafecf0, kw_f3cfcef3b9⟩
def fX11_hook (x0 : Nat) (x1 : Int32) (h : ab_H) : Option (Int32 ⊕ String) := ab_ck (ab_io h x0 11 = true) (ab_bx (fX11_needHook x0 x1 h) (fun E => Sum.inr E) (ab_bd (ab_fr h x0 11 1) fun v2 => ab_bd (ab_fr h v2 8 17) fun v3 => ab_bd (ab_ia 0 h v3 x1) fun v4 => some (.inl v4)))
set_option maxRecDepth 100000 in
set_option maxHeartbeats 4000000 in
theorem wX11_hook {l : Launch} (hl : l.stackTraces = false) (x0 : Nat) (x1 : Int32) (h : ab_H) : ab_S l mX11_hook (fun y : (Int32 ⊕ String) => ((y.elim (fun x => .inl (some (.int x))) (fun E => .inr E), h) : ab_R × ab_H)) 0 0 (fX11_hook x0 x1 h) 0 [(0, .ref x0), (1, .int x1)] [] h := by
  unfold fX11_hook
  refine ab_aload_n (pc := 0) (n := 0) (i := 0) (j := 0) (by decide +kernel) rfl rfl ?_
  refine ab_iload_n (pc := 1) (n := 1) (i := 1) (j := 1) (by decide +kernel) rfl rfl ?_
  refine ab_callVt (As := [.int x1]) (st := []) (thr := (fun E => Sum.inr E)) (pc := 2) lk_X11_174_11 (fun _ => rfl) rfl (by decide) rfl (Nat.le_of_ble_eq_true rfl) (by decide +kernel) (fun y9 e9 => okX11_needHook hl e9) ?_
  refine ab_aload_n (pc := 5) (n := 0) (i := 0) (j := 0) (by decide +kernel) rfl rfl ?_
  refine ab_getR (pc := 6) fl_X11_26_11 (by decide +kernel) (fun v2 ev2 => ?_)
  refine ab_getR (pc := 9) fl_X11_177_8 (by decide +kernel) (fun v3 ev3 => ?_)
  refine ab_iload_n (pc := 12) (n := 1) (i := 1) (j := 1) (by decide +kernel) rfl rfl ?_
  refine ab_iald (pc := 13) (by decide +kernel) (fun v4 ev4 => ?_)
  exact ab_iret (pc := 14) (by decide +kernel) rfl rfl (Nat.le_of_ble_eq_true rfl) (Nat.le_of_ble_eq_true rfl)
set_option maxRecDepth 100000 in
set_option maxHeartbeats 4000000 in
theorem okX11_hook {l : Launch} (hl : l.stackTraces = false) {x0 : Nat} {x1 : Int32} {h : ab_H} {y : (Int32 ⊕ String)} (e : fX11_hook x0 x1 h = some y) : ab_Met l mX11_hook [.ref x0, .int x1] h ((fun y : (Int32 ⊕ String) => ((y.elim (fun x => .inl (some (.int x))) (fun E => .inr E), h) : ab_R × ab_H)) y) := ab_ofS (io := (fun y : (Int32 ⊕ String) => ((y.elim (fun x => .inl (some (.int x))) (fun E => .inr E), h) : ab_R × ab_H))) (x := y) hl (by decide) rfl (Nat.le_of_ble_eq_true rfl) (wX11_hook hl x0 x1 h) e
def mX11_wish : ab_M := (yX11_wish, cX11_wish, 3, (some .int), { frames := 7, cells := 1, slots := 6, locals := 111 })
theorem iX11_wish : ab_MI mX11_wish 2 := ⟨kw_a0df284087, kw_62b61b7ad3, by decide +kernel⟩
def fX11_wish (x0 : Nat) (x1 : Int32) (x2 : Int32) (h : ab_H) : Option (Int32 ⊕ String) := ab_ck (ab_io h x0 11 = true) (ab_bx (fX11_needPerson x0 x1 h) (fun E => Sum.inr E) ((if x2 < 0 then some (.inl (-1 : Int32)) else ab_bd (ab_fr h x0 11 1) fun v3 => ab_bd (ab_fi h v3 8 0) fun v4 => (if x2 < v4 then ab_bd (ab_fr h x0 11 1) fun v6 => ab_bd (ab_fr h v6 8 16) fun v7 => ab_bd (ab_ia 0 h v7 ((x1 * (nI 10)) + x2)) fun v8 => some (.inl v8) else some (.inl (-1 : Int32))))))
set_option maxRecDepth 100000 in
set_option maxHeartbeats 4000000 in
theorem wX11_wish {l : Launch} (hl : l.stackTraces = false) (x0 : Nat) (x1 : Int32) (x2 : Int32) (h : ab_H) : ab_S l mX11_wish (fun y : (Int32 ⊕ String) => ((y.elim (fun x => .inl (some (.int x))) (fun E => .inr E), h) : ab_R × ab_H)) 0 0 (fX11_wish x0 x1 x2 h) 0 [(0, .ref x0), (1, .int x1), (2, .int x2)] [] h := by
  unfold fX11_wish
  refine ab_aload_n (pc := 0) (n := 0) (i := 0) (j := 0) (by decide +kernel) rfl rfl ?_
  refine ab_iload_n (pc := 1) (n := 1) (i := 1) (j := 1) (by decide +kernel) rfl rfl ?_
  refine ab_callVt (As := [.int x1]) (st := []) (thr := (fun E => Sum.inr E)) (pc := 2) lk_X11_131_11 (fun _ => rfl) rfl (by decide) rfl (Nat.le_of_ble_eq_true rfl) (by decide +kernel) (fun y9 e9 => okX11_needPerson hl e9) ?_
  refine ab_iload_n (pc := 5) (n := 2) (i := 2) (j := 2) (by decide +kernel) rfl rfl ?_
  refine ab_if_lt (off := 31) (pc := 6) (tgt := 37) (by decide +kernel) (by decide) (fun g2 => ?_) (fun g2 => ?_)
  · refine ab_iconst (pc := 37) (n := -1) (v := (-1 : Int32)) (by decide +kernel) rfl ?_
    exact ab_iret (pc := 38) (by decide +kernel) rfl rfl (Nat.le_of_ble_eq_true rfl) (Nat.le_of_ble_eq_true rfl)
  · refine ab_iload_n (pc := 9) (n := 2) (i := 2) (j := 2) (by decide +kernel) rfl rfl ?_
    refine ab_aload_n (pc := 10) (n := 0) (i := 0) (j := 0) (by decide +kernel) rfl rfl ?_
    refine ab_getR (pc := 11) fl_X11_26_11 (by decide +kernel) (fun v3 ev3 => ?_)
    refine ab_getI (pc := 14) fl_X11_180_8 (by decide +kernel) (fun v4 ev4 => ?_)
    refine ab_icmp_ge (off := 20) (pc := 17) (tgt := 37) (by decide +kernel) (by decide) (fun g5 => ?_) (fun g5 => ?_)
    · refine ab_aload_n (pc := 20) (n := 0) (i := 0) (j := 0) (by decide +kernel) rfl rfl ?_
      refine ab_getR (pc := 21) fl_X11_26_11 (by decide +kernel) (fun v6 ev6 => ?_)
      refine ab_getR (pc := 24) fl_X11_183_8 (by decide +kernel) (fun v7 ev7 => ?_)
      refine ab_iload_n (pc := 27) (n := 1) (i := 1) (j := 1) (by decide +kernel) rfl rfl ?_
      refine ab_bipush (pc := 28) (n := 10) (v := nI 10) (by decide +kernel) (by decide) ?_
      refine ab_imul (pc := 30) (by decide +kernel) ?_
      refine ab_iload_n (pc := 31) (n := 2) (i := 2) (j := 2) (by decide +kernel) rfl rfl ?_
      refine ab_iadd (pc := 32) (by decide +kernel) ?_
      refine ab_iald (pc := 33) (by decide +kernel) (fun v8 ev8 => ?_)
      refine ab_goto (pc := 34) (off := 4) (tgt := 38) (by decide +kernel) (by decide) ?_
      exact ab_iret (pc := 38) (by decide +kernel) rfl rfl (Nat.le_of_ble_eq_true rfl) (Nat.le_of_ble_eq_true rfl)
    · refine ab_iconst (pc := 37) (n := -1) (v := (-1 : Int32)) (by decide +kernel) rfl ?_
      exact ab_iret (pc := 38) (by decide +kernel) rfl rfl (Nat.le_of_ble_eq_true rfl) (Nat.le_of_ble_eq_true rfl)
set_option maxRecDepth 100000 in
set_option maxHeartbeats 4000000 in
theorem okX11_wish {l : Launch} (hl : l.stackTraces = false) {x0 : Nat} {x1 : Int32} {x2 : Int32} {h : ab_H} {y : (Int32 ⊕ String)} (e : fX11_wish x0 x1 x2 h = some y) : ab_Met l mX11_wish [.ref x0, .int x1, .int x2] h ((fun y : (Int32 ⊕ String) => ((y.elim (fun x => .inl (some (.int x))) (fun E => .inr E), h) : ab_R × ab_H)) y) := ab_ofS (io := (fun y : (Int32 ⊕ String) => ((y.elim (fun x => .inl (some (.int x))) (fun E => .inr E), h) : ab_R × ab_H))) (x := y) hl (by decide) rfl (Nat.le_of_ble_eq_true rfl) (wX11_wish hl x0 x1 x2 h) e
def mX11_thinks : ab_M := (yX11_thinks, cX11_thinks, 3, (some .int), { frames := 8, cells := 3, slots := 18, locals := 133 })
theorem iX11_thinks : ab_MI mX11_thinks 2 := ⟨kw_451a06c0e2, kw_62b61b7ad3, by decide +kernel⟩
theorem lk_X11_186_11 : ab_LV RX11 186 11 mX11_needTwo 2 := ⟨RX11, rfl, iX11_needTwo, kw_bb855b7794, kw_2813276f89, kw_fb80f7a220⟩
def fX11_thinks (x0 : Nat) (x1 : Int32) (x2 : Int32) (h : ab_H) : Option (Int32 ⊕ String) := ab_ck (ab_io h x0 11 = true) (ab_bx (fX11_needTwo x0 x1 x2 h) (fun E => Sum.inr E) (ab_bd (ab_fr h x0 11 1) fun v2 => ab_bd (ab_fr h v2 8 15) fun v3 => ab_bd (ab_ia 0 h v3 ((x1 * (nI 10)) + x2)) fun v4 => some (.inl v4)))
set_option maxRecDepth 100000 in
set_option maxHeartbeats 4000000 in
theorem wX11_thinks {l : Launch} (hl : l.stackTraces = false) (x0 : Nat) (x1 : Int32) (x2 : Int32) (h : ab_H) : ab_S l mX11_thinks (fun y : (Int32 ⊕ String) => ((y.elim (fun x => .inl (some (.int x))) (fun E => .inr E), h) : ab_R × ab_H)) 0 0 (fX11_thinks x0 x1 x2 h) 0 [(0, .ref x0), (1, .int x1), (2, .int x2)] [] h := by
  unfold fX11_thinks
  refine ab_aload_n (pc := 0) (n := 0) (i := 0) (j := 0) (by decide +kernel) rfl rfl ?_
  refine ab_iload_n (pc := 1) (n := 1) (i := 1) (j := 1) (by decide +kernel) rfl rfl ?_
  refine ab_iload_n (pc := 2) (n := 2) (i := 2) (j := 2) (by decide +kernel) rfl rfl ?_
  refine ab_callVt (As := [.int x1, .int x2]) (st := []) (thr := (fun E => Sum.inr E)) (pc := 3) lk_X11_186_11 (fun _ => rfl) rfl (by decide) rfl (Nat.le_of_ble_eq_true rfl) (by decide +kernel) (fun y9 e9 => okX11_needTwo hl e9) ?_
  refine ab_aload_n (pc := 6) (n := 0) (i := 0) (j := 0) (by decide +kernel) rfl rfl ?_
  refine ab_getR (pc := 7) fl_X11_26_11 (by decide +kernel) (fun v2 ev2 => ?_)
  refine ab_getR (pc := 10) fl_X11_189_8 (by decide +kernel) (fun v3 ev3 => ?_)
  refine ab_iload_n (pc := 13) (n := 1) (i := 1) (j := 1) (by decide +kernel) rfl rfl ?_
  refine ab_bipush (pc := 14) (n := 10) (v := nI 10) (by decide +kernel) (by decide) ?_
  refine ab_imul (pc := 16) (by decide +kernel) ?_
  refine ab_iload_n (pc := 17) (n := 2) (i := 2) (j := 2) (by decide +kernel) rfl rfl ?_
  refine ab_iadd (pc := 18) (by decide +kernel) ?_
  refine ab_iald (pc := 19) (by decide +kernel) (fun v4 ev4 => ?_)
  exact ab_iret (pc := 20) (by decide +kernel) rfl rfl (Nat.le_of_ble_eq_true rfl) (Nat.le_of_ble_eq_true rfl)
set_option maxRecDepth 100000 in
set_option maxHeartbeats 4000000 in
theorem okX11_thinks {l : Launch} (hl : l.stackTraces = false) {x0 : Nat} {x1 : Int32} {x2 : Int32} {h : ab_H} {y : (Int32 ⊕ String)} (e : fX11_thinks x0 x1 x2 h = some y) : ab_Met l mX11_thinks [.ref x0, .int x1, .int x2] h ((fun y : (Int32 ⊕ String) => ((y.elim (fun x => .inl (some (.int x))) (fun E => .inr E), h) : ab_R × ab_H)) y) := ab_ofS (io := (fun y : (Int32 ⊕ String) => ((y.elim (fun x => .inl (some (.int x))) (fun E => .inr E), h) : ab_R × ab_H))) (x := y) hl (by decide) rfl (Nat.le_of_ble_eq_true rfl) (wX11_thinks hl x0 x1 x2 h) e
def mX11_hand : ab_M := (yX11_hand, cX11_hand, 3, (some .int), { frames := 7, cells := 3, slots := 18, locals := 111 })
theorem iX11_hand : ab_MI mX11_hand 2 := ⟨kw_b86de16856, kw_62b61b7ad3, by decide +kernel⟩
theorem lk_X11_197_6 : ab_LV RX11 197 6 mX6_keep 1 := ⟨RX6, rfl, iX6_keep, kw_0bd601763e, kw_e1b7e1284f, kw_07eff70fb6⟩
theorem lk_X11_200_8 : ab_LV RX11 200 8 mX8_handIn 2 := ⟨RX8, rfl, iX8_handIn, kw_414d7c6555, kw_843df95416, kw_13e1f6c47d⟩
theorem th_X11_192_196 : ab_TH RX11 192 196 "java/lang/IllegalStateException" := ⟨⟨by decide +kernel, by decide +kernel⟩, kw_4f341191ef, kw_609cc98142, by decide +kernel, by decide +kernel, by decide +kernel⟩
def fX11_hand (x0 : Nat) (x1 : Int32) (x2 : Int32) (h : ab_H) : Option ((Int32 ⊕ String) × ab_H) := ab_ck (ab_io h x0 11 = true) (ab_bx (fX11_needPerson x0 x1 h) (fun E => (Sum.inr E, h)) (ab_ck (ab_io h x0 11 = true) (ab_bx (fX11_needHook x0 x2 h) (fun E => (Sum.inr E, h)) (ab_bd (ab_fr h x0 11 1) fun v3 => ab_bd (ab_fr h v3 8 11) fun v4 => ab_bd (ab_ia 0 h v4 x1) fun v5 => ab_jn (κ := Option ((Int32 ⊕ String) × ab_H)) (some (.inr "java/lang/IllegalStateException", h)) fun j6 => (if v5 = (-1 : Int32) then j6 else ab_bd (ab_fr h x0 11 1) fun v8 => ab_bd (ab_fr h v8 8 12) fun v9 => ab_bd (ab_ia 0 h v9 x1) fun v10 => (if v10 = (-1 : Int32) then ab_bd (ab_fr h x0 11 1) fun v12 => ab_bd (ab_fr h v12 8 17) fun v13 => ab_bd (ab_ia 0 h v13 x2) fun v14 => (if v14 = (-1 : Int32) then ab_bd (ab_fr h x0 11 4) fun v16 => ab_bd (ab_fr h x0 11 1) fun v17 => ab_ck (ab_io h v16 6 = true) (ab_bd (fX6_keep v16 v17 h) fun h18 => ab_bd (ab_fr h18 x0 11 1) fun v19 => ab_ck (ab_io h18 v19 8 = true) (ab_bd (fX8_handIn v19 x1 x2 h18) fun v20 => some (.inl v20.1, v20.2))) else j6) else j6))))))
set_option maxRecDepth 100000 in
set_option maxHeartbeats 4000000 in
theorem wX11_hand {l : Launch} (hl : l.stackTraces = false) (x0 : Nat) (x1 : Int32) (x2 : Int32) (h : ab_H) : ab_S l mX11_hand (fun y : ((Int32 ⊕ String) × ab_H) => ((y.1.elim (fun x => .inl (some (.int x))) (fun E => .inr E), y.2) : ab_R × ab_H)) 0 0 (fX11_hand x0 x1 x2 h) 0 [(0, .ref x0), (1, .int x1), (2, .int x2)] [] h := by
  unfold fX11_hand
  refine ab_aload_n (pc := 0) (n := 0) (i := 0) (j := 0) (by decide +kernel) rfl rfl ?_
  refine ab_iload_n (pc := 1) (n := 1) (i := 1) (j := 1) (by decide +kernel) rfl rfl ?_
  refine ab_callVt (As := [.int x1]) (st := []) (thr := (fun E => (Sum.inr E, h))) (pc := 2) lk_X11_131_11 (fun _ => rfl) rfl (by decide) rfl (Nat.le_of_ble_eq_true rfl) (by decide +kernel) (fun y9 e9 => okX11_needPerson hl e9) ?_
  refine ab_aload_n (pc := 5) (n := 0) (i := 0) (j := 0) (by decide +kernel) rfl rfl ?_
  refine ab_iload_n (pc := 6) (n := 2) (i := 2) (j := 2) (by decide +kernel) rfl rfl ?_
  refine ab_callVt (As := [.int x2]) (st := []) (thr := (fun E => (Sum.inr E, h))) (pc := 7) lk_X11_174_11 (fun _ => rfl) rfl (by decide) rfl (Nat.le_of_ble_eq_true rfl) (by decide +kernel) (fun y9 e9 => okX11_needHook hl e9) ?_
  refine ab_aload_n (pc := 10) (n := 0) (i := 0) (j := 0) (by decide +kernel) rfl rfl ?_
  refine ab_getR (pc := 11) fl_X11_26_11 (by decide +kernel) (fun v3 ev3 => ?_)
  refine ab_getR (pc := 14) fl_X11_138_8 (by decide +kernel) (fun v4 ev4 => ?_)
  refine ab_iload_n (pc := 17) (n := 1) (i := 1) (j := 1) (by decide +kernel) rfl rfl ?_
  refine ab_iald (pc := 18) (by decide +kernel) (fun v5 ev5 => ?_)
  refine ab_iconst (pc := 19) (n := -1) (v := (-1 : Int32)) (by decide +kernel) rfl ?_
  refine ab_jr (fun k9 : Option ((Int32 ⊕ String) × ab_H) => ab_S l mX11_hand (fun y : ((Int32 ⊕ String) × ab_H) => ((y.1.elim (fun x => .inl (some (.int x))) (fun E => .inr E), y.2) : ab_R × ab_H)) 2 12 (k9) 49 [] [] h) ?_ (fun j6 hj6 => ?_)
  · exact ab_thr (pc := 49) (ik := 192) (is := 194) (ic := 196) (kk := 9) (text := "it cannot be HANDED in") th_X11_192_196 (by show (RX11, 194, "it cannot be HANDED in", 9) ∈ ab_sr; decide +kernel) rfl (by decide +kernel) (by decide +kernel) (by decide +kernel) (by decide +kernel) (by decide +kernel) (by decide) (Nat.le_of_ble_eq_true rfl) (Nat.le_of_ble_eq_true rfl) (Nat.le_of_ble_eq_true rfl)
  · refine ab_icmp_eq (off := 29) (pc := 20) (tgt := 49) (by decide +kernel) (by decide) (fun g7 => ?_) (fun g7 => ?_)
    · refine ab_few [] (lv' := []) rfl ?_
      exact hj6
    · refine ab_aload_n (pc := 23) (n := 0) (i := 0) (j := 0) (by decide +kernel) rfl rfl ?_
      refine ab_getR (pc := 24) fl_X11_26_11 (by decide +kernel) (fun v8 ev8 => ?_)
      refine ab_getR (pc := 27) fl_X11_141_8 (by decide +kernel) (fun v9 ev9 => ?_)
      refine ab_iload_n (pc := 30) (n := 1) (i := 1) (j := 1) (by decide +kernel) rfl rfl ?_
      refine ab_iald (pc := 31) (by decide +kernel) (fun v10 ev10 => ?_)
      refine ab_iconst (pc := 32) (n := -1) (v := (-1 : Int32)) (by decide +kernel) rfl ?_
      refine ab_icmp_ne (off := 16) (pc := 33) (tgt := 49) (by decide +kernel) (by decide) (fun g11 => ?_) (fun g11 => ?_)
      · refine ab_aload_n (pc := 36) (n := 0) (i := 0) (j := 0) (by decide +kernel) rfl rfl ?_
        refine ab_getR (pc := 37) fl_X11_26_11 (by decide +kernel) (fun v12 ev12 => ?_)
        refine ab_getR (pc := 40) fl_X11_177_8 (by decide +kernel) (fun v13 ev13 => ?_)
        refine ab_iload_n (pc := 43) (n := 2) (i := 2) (j := 2) (by decide +kernel) rfl rfl ?_
        refine ab_iald (pc := 44) (by decide +kernel) (fun v14 ev14 => ?_)
        refine ab_iconst (pc := 45) (n := -1) (v := (-1 : Int32)) (by decide +kernel) rfl ?_
        refine ab_icmp_eq (off := 13) (pc := 46) (tgt := 59) (by decide +kernel) (by decide) (fun g15 => ?_) (fun g15 => ?_)
        · refine ab_aload_n (pc := 59) (n := 0) (i := 0) (j := 0) (by decide +kernel) rfl rfl ?_
          refine ab_getR (pc := 60) fl_X11_39_11 (by decide +kernel) (fun v16 ev16 => ?_)
          refine ab_aload_n (pc := 63) (n := 0) (i := 0) (j := 0) (by decide +kernel) rfl rfl ?_
          refine ab_getR (pc := 64) fl_X11_26_11 (by decide +kernel) (fun v17 ev17 => ?_)
          refine ab_callVw (As := [.ref v17]) (st := []) (pc := 67) lk_X11_197_6 rfl rfl rfl (by decide) rfl (Nat.le_of_ble_eq_true rfl) (by decide +kernel) (fun y9 e9 => okX6_keep hl e9) (fun h18 eh18 => ?_)
          refine ab_aload_n (pc := 70) (n := 0) (i := 0) (j := 0) (by decide +kernel) rfl rfl ?_
          refine ab_getR (pc := 71) fl_X11_26_11 (by decide +kernel) (fun v19 ev19 => ?_)
          refine ab_iload_n (pc := 74) (n := 1) (i := 1) (j := 1) (by decide +kernel) rfl rfl ?_
          refine ab_iload_n (pc := 75) (n := 2) (i := 2) (j := 2) (by decide +kernel) rfl rfl ?_
          refine ab_callVj (As := [.int x1, .int x2]) (st := []) (pc := 76) lk_X11_200_8 rfl rfl rfl (by decide) rfl (Nat.le_of_ble_eq_true rfl) (by decide +kernel) (fun y9 e9 => okX8_handIn hl e9) (fun v20 ev20 => ?_)
          exact ab_iret (pc := 79) (by decide +kernel) rfl rfl (Nat.le_of_ble_eq_true rfl) (Nat.le_of_ble_eq_true rfl)
        · refine ab_few [] (lv' := []) rfl ?_
          exact hj6
      · refine ab_few [] (lv' := []) rfl ?_
        exact hj6
set_option maxRecDepth 100000 in
set_option maxHeartbeats 4000000 in
theorem okX11_hand {l : Launch} (hl : l.stackTraces = false) {x0 : Nat} {x1 : Int32} {x2 : Int32} {h : ab_H} {y : ((Int32 ⊕ String) × ab_H)} (e : fX11_hand x0 x1 x2 h = some y) : ab_Met l mX11_hand [.ref x0, .int x1, .int x2] h ((fun y : ((Int32 ⊕ String) × ab_H) => ((y.1.elim (fun x => .inl (some (.int x))) (fun E => .inr E), y.2) : ab_R × ab_H)) y) := ab_ofS (io := (fun y : ((Int32 ⊕ String) × ab_H) => ((y.1.elim (fun x => .inl (some (.int x))) (fun E => .inr E), y.2) : ab_R × ab_H))) (x := y) hl (by decide) rfl (Nat.le_of_ble_eq_true rfl) (wX11_hand hl x0 x1 x2 h) e
def mX11_fetch : ab_M := (yX11_fetch, cX11_fetch, 2, (some .int), { frames := 7, cells := 2, slots := 12, locals := 111 })
theorem iX11_fetch : ab_MI mX11_fetch 1 := ⟨kw_300708d667, kw_62b61b7ad3, by decide +kernel⟩
theorem lk_X11_206_8 : ab_LV RX11 206 8 mX8_fetchBy 1 := ⟨RX8, rfl, iX8_fetchBy, kw_f3261cde86, kw_766dbb3dff, kw_72a35fa1f0⟩
def fX11_fetch (x0 : Nat) (x1 : Int32) (h : ab_H) : Option ((Int32 ⊕ String) × ab_H) := ab_ck (ab_io h x0 11 = true) (ab_bx (fX11_needPerson x0 x1 h) (fun E => (Sum.inr E, h)) (ab_bd (ab_fr h x0 11 1) fun v2 => ab_bd (ab_fr h v2 8 12) fun v3 => ab_bd (ab_ia 0 h v3 x1) fun v4 => ab_jn (κ := Option ((Int32 ⊕ String) × ab_H)) (some (.inr "java/lang/IllegalStateException", h)) fun j5 => (if v4 = (-1 : Int32) then j5 else ab_bd (ab_fr h x0 11 1) fun v7 => ab_bd (ab_fr h v7 8 11) fun v8 => ab_bd (ab_ia 0 h v8 x1) fun v9 => (if v9 = (-1 : Int32) then ab_bd (ab_fr h x0 11 4) fun v11 => ab_bd (ab_fr h x0 11 1) fun v12 => ab_ck (ab_io h v11 6 = true) (ab_bd (fX6_keep v11 v12 h) fun h13 => ab_bd (ab_fr h13 x0 11 1) fun v14 => ab_ck (ab_io h13 v14 8 = true) (ab_bd (fX8_fetchBy v14 x1 h13) fun v15 => some (.inl v15.1, v15.2))) else j5))))
set_option maxRecDepth 100000 in
set_option maxHeartbeats 4000000 in
theorem wX11_fetch {l : Launch} (hl : l.stackTraces = false) (x0 : Nat) (x1 : Int32) (h : ab_H) : ab_S l mX11_fetch (fun y : ((Int32 ⊕ String) × ab_H) => ((y.1.elim (fun x => .inl (some (.int x))) (fun E => .inr E), y.2) : ab_R × ab_H)) 0 0 (fX11_fetch x0 x1 h) 0 [(0, .ref x0), (1, .int x1)] [] h := by
  unfold fX11_fetch
  refine ab_aload_n (pc := 0) (n := 0) (i := 0) (j := 0) (by decide +kernel) rfl rfl ?_
  refine ab_iload_n (pc := 1) (n := 1) (i := 1) (j := 1) (by decide +kernel) rfl rfl ?_
  refine ab_callVt (As := [.int x1]) (st := []) (thr := (fun E => (Sum.inr E, h))) (pc := 2) lk_X11_131_11 (fun _ => rfl) rfl (by decide) rfl (Nat.le_of_ble_eq_true rfl) (by decide +kernel) (fun y9 e9 => okX11_needPerson hl e9) ?_
  refine ab_aload_n (pc := 5) (n := 0) (i := 0) (j := 0) (by decide +kernel) rfl rfl ?_
  refine ab_getR (pc := 6) fl_X11_26_11 (by decide +kernel) (fun v2 ev2 => ?_)
  refine ab_getR (pc := 9) fl_X11_141_8 (by decide +kernel) (fun v3 ev3 => ?_)
  refine ab_iload_n (pc := 12) (n := 1) (i := 1) (j := 1) (by decide +kernel) rfl rfl ?_
  refine ab_iald (pc := 13) (by decide +kernel) (fun v4 ev4 => ?_)
  refine ab_iconst (pc := 14) (n := -1) (v := (-1 : Int32)) (by decide +kernel) rfl ?_
  refine ab_jr (fun k9 : Option ((Int32 ⊕ String) × ab_H) => ab_S l mX11_fetch (fun y : ((Int32 ⊕ String) × ab_H) => ((y.1.elim (fun x => .inl (some (.int x))) (fun E => .inr E), y.2) : ab_R × ab_H)) 1 6 (k9) 31 [] [] h) ?_ (fun j5 hj5 => ?_)
  · exact ab_thr (pc := 31) (ik := 192) (is := 204) (ic := 196) (kk := 10) (text := "it cannot be FETCHED") th_X11_192_196 (by show (RX11, 204, "it cannot be FETCHED", 10) ∈ ab_sr; decide +kernel) rfl (by decide +kernel) (by decide +kernel) (by decide +kernel) (by decide +kernel) (by decide +kernel) (by decide) (Nat.le_of_ble_eq_true rfl) (Nat.le_of_ble_eq_true rfl) (Nat.le_of_ble_eq_true rfl)
  · refine ab_icmp_eq (off := 16) (pc := 15) (tgt := 31) (by decide +kernel) (by decide) (fun g6 => ?_) (fun g6 => ?_)
    · refine ab_few [] (lv' := []) rfl ?_
      exact hj5
    · refine ab_aload_n (pc := 18) (n := 0) (i := 0) (j := 0) (by decide +kernel) rfl rfl ?_
      refine ab_getR (pc := 19) fl_X11_26_11 (by decide +kernel) (fun v7 ev7 => ?_)
      refine ab_getR (pc := 22) fl_X11_138_8 (by decide +kernel) (fun v8 ev8 => ?_)
      refine ab_iload_n (pc := 25) (n := 1) (i := 1) (j := 1) (by decide +kernel) rfl rfl ?_
      refine ab_iald (pc := 26) (by decide +kernel) (fun v9 ev9 => ?_)
      refine ab_iconst (pc := 27) (n := -1) (v := (-1 : Int32)) (by decide +kernel) rfl ?_
      refine ab_icmp_eq (off := 13) (pc := 28) (tgt := 41) (by decide +kernel) (by decide) (fun g10 => ?_) (fun g10 => ?_)
      · refine ab_aload_n (pc := 41) (n := 0) (i := 0) (j := 0) (by decide +kernel) rfl rfl ?_
        refine ab_getR (pc := 42) fl_X11_39_11 (by decide +kernel) (fun v11 ev11 => ?_)
        refine ab_aload_n (pc := 45) (n := 0) (i := 0) (j := 0) (by decide +kernel) rfl rfl ?_
        refine ab_getR (pc := 46) fl_X11_26_11 (by decide +kernel) (fun v12 ev12 => ?_)
        refine ab_callVw (As := [.ref v12]) (st := []) (pc := 49) lk_X11_197_6 rfl rfl rfl (by decide) rfl (Nat.le_of_ble_eq_true rfl) (by decide +kernel) (fun y9 e9 => okX6_keep hl e9) (fun h13 eh13 => ?_)
        refine ab_aload_n (pc := 52) (n := 0) (i := 0) (j := 0) (by decide +kernel) rfl rfl ?_
        refine ab_getR (pc := 53) fl_X11_26_11 (by decide +kernel) (fun v14 ev14 => ?_)
        refine ab_iload_n (pc := 56) (n := 1) (i := 1) (j := 1) (by decide +kernel) rfl rfl ?_
        refine ab_callVj (As := [.int x1]) (st := []) (pc := 57) lk_X11_206_8 rfl rfl rfl (by decide) rfl (Nat.le_of_ble_eq_true rfl) (by decide +kernel) (fun y9 e9 => okX8_fetchBy hl e9) (fun v15 ev15 => ?_)
        exact ab_iret (pc := 60) (by decide +kernel) rfl rfl (Nat.le_of_ble_eq_true rfl) (Nat.le_of_ble_eq_true rfl)
      · refine ab_few [] (lv' := []) rfl ?_
        exact hj5
set_option maxRecDepth 100000 in
set_option maxHeartbeats 4000000 in
theorem okX11_fetch {l : Launch} (hl : l.stackTraces = false) {x0 : Nat} {x1 : Int32} {h : ab_H} {y : ((Int32 ⊕ String) × ab_H)} (e : fX11_fetch x0 x1 h = some y) : ab_Met l mX11_fetch [.ref x0, .int x1] h ((fun y : ((Int32 ⊕ String) × ab_H) => ((y.1.elim (fun x => .inl (some (.int x))) (fun E => .inr E), y.2) : ab_R × ab_H)) y) := ab_ofS (io := (fun y : ((Int32 ⊕ String) × ab_H) => ((y.1.elim (fun x => .inl (some (.int x))) (fun E => .inr E), y.2) : ab_R × ab_H))) (x := y) hl (by decide) rfl (Nat.le_of_ble_eq_true rfl) (wX11_fetch hl x0 x1 h) e
def mX11_mix : ab_M := (yX11_mix, cX11_mix, 3, (some .int), { frames := 8, cells := 4, slots := 24, locals := 133 })
theorem iX11_mix : ab_MI mX11_mix 2 := ⟨kw_339531dc0a, kw_62b61b7ad3, by decide +kernel⟩
theorem lk_X11_211_8 : ab_LV RX11 211 8 mX8_changeTickets 2 := ⟨RX8, rfl, iX8_changeTickets, kw_c02356f110, kw_b0187a6841, kw_4e98c4157d⟩
def fX11_mix (x0 : Nat) (x1 : Int32) (x2 : Int32) (h : ab_H) : Option ((Int32 ⊕ String) × ab_H) := ab_ck (ab_io h x0 11 = true) (ab_bx (fX11_needTwo x0 x1 x2 h) (fun E => (Sum.inr E, h)) (ab_bd (ab_fr h x0 11 1) fun v2 => ab_bd (ab_fr h v2 8 12) fun v3 => ab_bd (ab_ia 0 h v3 x1) fun v4 => ab_jn (κ := Option ((Int32 ⊕ String) × ab_H)) (some (.inr "java/lang/IllegalStateException", h)) fun j5 => (if v4 = (-1 : Int32) then j5 else ab_bd (ab_fr h x0 11 1) fun v7 => ab_bd (ab_fr h v7 8 12) fun v8 => ab_bd (ab_ia 0 h v8 x2) fun v9 => (if v9 = (-1 : Int32) then j5 else ab_bd (ab_fr h x0 11 4) fun v11 => ab_bd (ab_fr h x0 11 1) fun v12 => ab_ck (ab_io h v11 6 = true) (ab_bd (fX6_keep v11 v12 h) fun h13 => ab_bd (ab_fr h13 x0 11 1) fun v14 => ab_ck (ab_io h13 v14 8 = true) (ab_bd (fX8_changeTickets v14 x1 x2 h13) fun h15 => ab_bd (ab_fr h15 x0 11 1) fun v16 => ab_bd (ab_fr h15 v16 8 12) fun v17 => ab_bd (ab_ia 0 h15 v17 x1) fun v18 => some (.inl v18, h15)))))))
set_option maxRecDepth 100000 in
set_option maxHeartbeats 4000000 in
theorem wX11_mix {l : Launch} (hl : l.stackTraces = false) (x0 : Nat) (x1 : Int32) (x2 : Int32) (h : ab_H) : ab_S l mX11_mix (fun y : ((Int32 ⊕ String) × ab_H) => ((y.1.elim (fun x => .inl (some (.int x))) (fun E => .inr E), y.2) : ab_R × ab_H)) 0 0 (fX11_mix x0 x1 x2 h) 0 [(0, .ref x0), (1, .int x1), (2, .int x2)] [] h := by
  unfold fX11_mix
  refine ab_aload_n (pc := 0) (n := 0) (i := 0) (j := 0) (by decide +kernel) rfl rfl ?_
  refine ab_iload_n (pc := 1) (n := 1) (i := 1) (j := 1) (by decide +kernel) rfl rfl ?_
  refine ab_iload_n (pc := 2) (n := 2) (i := 2) (j := 2) (by decide +kernel) rfl rfl ?_
  refine ab_callVt (As := [.int x1, .int x2]) (st := []) (thr := (fun E => (Sum.inr E, h))) (pc := 3) lk_X11_186_11 (fun _ => rfl) rfl (by decide) rfl (Nat.le_of_ble_eq_true rfl) (by decide +kernel) (fun y9 e9 => okX11_needTwo hl e9) ?_
  refine ab_aload_n (pc := 6) (n := 0) (i := 0) (j := 0) (by decide +kernel) rfl rfl ?_
  refine ab_getR (pc := 7) fl_X11_26_11 (by decide +kernel) (fun v2 ev2 => ?_)
  refine ab_getR (pc := 10) fl_X11_141_8 (by decide +kernel) (fun v3 ev3 => ?_)
  refine ab_iload_n (pc := 13) (n := 1) (i := 1) (j := 1) (by decide +kernel) rfl rfl ?_
  refine ab_iald (pc := 14) (by decide +kernel) (fun v4 ev4 => ?_)
  refine ab_iconst (pc := 15) (n := -1) (v := (-1 : Int32)) (by decide +kernel) rfl ?_
  refine ab_jr (fun k9 : Option ((Int32 ⊕ String) × ab_H) => ab_S l mX11_mix (fun y : ((Int32 ⊕ String) × ab_H) => ((y.1.elim (fun x => .inl (some (.int x))) (fun E => .inr E), y.2) : ab_R × ab_H)) 3 18 (k9) 32 [] [] h) ?_ (fun j5 hj5 => ?_)
  · exact ab_thr (pc := 32) (ik := 192) (is := 209) (ic := 196) (kk := 11) (text := "one has no TICKET") th_X11_192_196 (by show (RX11, 209, "one has no TICKET", 11) ∈ ab_sr; decide +kernel) rfl (by decide +kernel) (by decide +kernel) (by decide +kernel) (by decide +kernel) (by decide +kernel) (by decide) (Nat.le_of_ble_eq_true rfl) (Nat.le_of_ble_eq_true rfl) (Nat.le_of_ble_eq_true rfl)
  · refine ab_icmp_eq (off := 16) (pc := 16) (tgt := 32) (by decide +kernel) (by decide) (fun g6 => ?_) (fun g6 => ?_)
    · refine ab_few [] (lv' := []) rfl ?_
      exact hj5
    · refine ab_aload_n (pc := 19) (n := 0) (i := 0) (j := 0) (by decide +kernel) rfl rfl ?_
      refine ab_getR (pc := 20) fl_X11_26_11 (by decide +kernel) (fun v7 ev7 => ?_)
      refine ab_getR (pc := 23) fl_X11_141_8 (by decide +kernel) (fun v8 ev8 => ?_)
      refine ab_iload_n (pc := 26) (n := 2) (i := 2) (j := 2) (by decide +kernel) rfl rfl ?_
      refine ab_iald (pc := 27) (by decide +kernel) (fun v9 ev9 => ?_)
      refine ab_iconst (pc := 28) (n := -1) (v := (-1 : Int32)) (by decide +kernel) rfl ?_
      refine ab_icmp_ne (off := 13) (pc := 29) (tgt := 42) (by decide +kernel) (by decide) (fun g10 => ?_) (fun g10 => ?_)
      · refine ab_few [] (lv' := []) rfl ?_
        exact hj5
      · refine ab_aload_n (pc := 42) (n := 0) (i := 0) (j := 0) (by decide +kernel) rfl rfl ?_
        refine ab_getR (pc := 43) fl_X11_39_11 (by decide +kernel) (fun v11 ev11 => ?_)
        refine ab_aload_n (pc := 46) (n := 0) (i := 0) (j := 0) (by decide +kernel) rfl rfl ?_
        refine ab_getR (pc := 47) fl_X11_26_11 (by decide +kernel) (fun v12 ev12 => ?_)
        refine ab_callVw (As := [.ref v12]) (st := []) (pc := 50) lk_X11_197_6 rfl rfl rfl (by decide) rfl (Nat.le_of_ble_eq_true rfl) (by decide +kernel) (fun y9 e9 => okX6_keep hl e9) (fun h13 eh13 => ?_)
        refine ab_aload_n (pc := 53) (n := 0) (i := 0) (j := 0) (by decide +kernel) rfl rfl ?_
        refine ab_getR (pc := 54) fl_X11_26_11 (by decide +kernel) (fun v14 ev14 => ?_)
        refine ab_iload_n (pc := 57) (n := 1) (i := 1) (j := 1) (by decide +kernel) rfl rfl ?_
        refine ab_iload_n (pc := 58) (n := 2) (i := 2) (j := 2) (by decide +kernel) rfl rfl ?_
        refine ab_callVw (As := [.int x1, .int x2]) (st := []) (pc := 59) lk_X11_211_8 rfl rfl rfl (by decide) rfl (Nat.le_of_ble_eq_true rfl) (by decide +kernel) (fun y9 e9 => okX8_changeTickets hl e9) (fun h15 eh15 => ?_)
        refine ab_aload_n (pc := 62) (n := 0) (i := 0) (j := 0) (by decide +kernel) rfl rfl ?_
        refine ab_getR (pc := 63) fl_X11_26_11 (by decide +kernel) (fun v16 ev16 => ?_)
        refine ab_getR (pc := 66) fl_X11_141_8 (by decide +kernel) (fun v17 ev17 => ?_)
        refine ab_iload_n (pc := 69) (n := 1) (i := 1) (j := 1) (by decide +kernel) rfl rfl ?_
        refine ab_iald (pc := 70) (by decide +kernel) (fun v18 ev18 => ?_)
        exact ab_iret (pc := 71) (by decide +kernel) rfl rfl (Nat.le_of_ble_eq_true rfl) (Nat.le_of_ble_eq_true rfl)
set_option maxRecDepth 100000 in
set_option maxHeartbeats 4000000 in
theorem okX11_mix {l : Launch} (hl : l.stackTraces = false) {x0 : Nat} {x1 : Int32} {x2 : Int32} {h : ab_H} {y : ((Int32 ⊕ String) × ab_H)} (e : fX11_mix x0 x1 x2 h = some y) : ab_Met l mX11_mix [.ref x0, .int x1, .int x2] h ((fun y : ((Int32 ⊕ String) × ab_H) => ((y.1.elim (fun x => .inl (some (.int x))) (fun E => .inr E), y.2) : ab_R × ab_H)) y) := ab_ofS (io := (fun y : ((Int32 ⊕ String) × ab_H) => ((y.1.elim (fun x => .inl (some (.int x))) (fun E => .inr E), y.2) : ab_R × ab_H))) (x := y) hl (by decide) rfl (Nat.le_of_ble_eq_true rfl) (wX11_mix hl x0 x1 x2 h) e
def mX11_steal : ab_M := (yX11_steal, cX11_steal, 3, (some .int), { frames := 7, cells := 3, slots := 18, locals := 111 })
theorem iX11_steal : ab_MI mX11_steal 2 := ⟨kw_9eb56be18c, kw_62b61b7ad3, by decide +kernel⟩
theorem lk_X11_216_8 : ab_LV RX11 216 8 mX8_stealBy 2 := ⟨RX8, rfl, iX8_stealBy, kw_87457582e9, kw_34fa33513d, kw_0d99c778ba⟩
def fX11_steal (x0 : Nat) (x1 : Int32) (x2 : Int32) (h : ab_H) : Option ((Int32 ⊕ String) × ab_H) := ab_ck (ab_io h x0 11 = true) (ab_bx (fX11_needPerson x0 x1 h) (fun E => (Sum.inr E, h)) (ab_ck (ab_io h x0 11 = true) (ab_bx (fX11_needHook x0 x2 h) (fun E => (Sum.inr E, h)) (ab_bd (ab_fr h x0 11 1) fun v3 => ab_bd (ab_fr h v3 8 11) fun v4 => ab_bd (ab_ia 0 h v4 x1) fun v5 => ab_jn (κ := Option ((Int32 ⊕ String) × ab_H)) (some (.inr "java/lang/IllegalStateException", h)) fun j6 => (if v5 = (-1 : Int32) then ab_bd (ab_fr h x0 11 1) fun v8 => ab_bd (ab_fr h v8 8 17) fun v9 => ab_bd (ab_ia 0 h v9 x2) fun v10 => (if v10 = (-1 : Int32) then j6 else ab_bd (ab_fr h x0 11 4) fun v12 => ab_bd (ab_fr h x0 11 1) fun v13 => ab_ck (ab_io h v12 6 = true) (ab_bd (fX6_keep v12 v13 h) fun h14 => ab_bd (ab_fr h14 x0 11 1) fun v15 => ab_ck (ab_io h14 v15 8 = true) (ab_bd (fX8_stealBy v15 x1 x2 h14) fun v16 => some (.inl v16.1, v16.2)))) else j6)))))
set_option maxRecDepth 100000 in
set_option maxHeartbeats 4000000 in
theorem wX11_steal {l : Launch} (hl : l.stackTraces = false) (x0 : Nat) (x1 : Int32) (x2 : Int32) (h : ab_H) : ab_S l mX11_steal (fun y : ((Int32 ⊕ String) × ab_H) => ((y.1.elim (fun x => .inl (some (.int x))) (fun E => .inr E), y.2) : ab_R × ab_H)) 0 0 (fX11_steal x0 x1 x2 h) 0 [(0, .ref x0), (1, .int x1), (2, .int x2)] [] h := by
  unfold fX11_steal
  refine ab_aload_n (pc := 0) (n := 0) (i := 0) (j := 0) (by decide +kernel) rfl rfl ?_
  refine ab_iload_n (pc := 1) (n := 1) (i := 1) (j := 1) (by decide +kernel) rfl rfl ?_
  refine ab_callVt (As := [.int x1]) (st := []) (thr := (fun E => (Sum.inr E, h))) (pc := 2) lk_X11_131_11 (fun _ => rfl) rfl (by decide) rfl (Nat.le_of_ble_eq_true rfl) (by decide +kernel) (fun y9 e9 => okX11_needPerson hl e9) ?_
  refine ab_aload_n (pc := 5) (n := 0) (i := 0) (j := 0) (by decide +kernel) rfl rfl ?_
  refine ab_iload_n (pc := 6) (n := 2) (i := 2) (j := 2) (by decide +kernel) rfl rfl ?_
  refine ab_callVt (As := [.int x2]) (st := []) (thr := (fun E => (Sum.inr E, h))) (pc := 7) lk_X11_174_11 (fun _ => rfl) rfl (by decide) rfl (Nat.le_of_ble_eq_true rfl) (by decide +kernel) (fun y9 e9 => okX11_needHook hl e9) ?_
  refine ab_aload_n (pc := 10) (n := 0) (i := 0) (j := 0) (by decide +kernel) rfl rfl ?_
  refine ab_getR (pc := 11) fl_X11_26_11 (by decide +kernel) (fun v3 ev3 => ?_)
  refine ab_getR (pc := 14) fl_X11_138_8 (by decide +kernel) (fun v4 ev4 => ?_)
  refine ab_iload_n (pc := 17) (n := 1) (i := 1) (j := 1) (by decide +kernel) rfl rfl ?_
  refine ab_iald (pc := 18) (by decide +kernel) (fun v5 ev5 => ?_)
  refine ab_iconst (pc := 19) (n := -1) (v := (-1 : Int32)) (by decide +kernel) rfl ?_
  refine ab_jr (fun k9 : Option ((Int32 ⊕ String) × ab_H) => ab_S l mX11_steal (fun y : ((Int32 ⊕ String) × ab_H) => ((y.1.elim (fun x => .inl (some (.int x))) (fun E => .inr E), y.2) : ab_R × ab_H)) 2 12 (k9) 36 [] [] h) ?_ (fun j6 hj6 => ?_)
  · exact ab_thr (pc := 36) (ik := 192) (is := 214) (ic := 196) (kk := 12) (text := "it cannot be STOLEN") th_X11_192_196 (by show (RX11, 214, "it cannot be STOLEN", 12) ∈ ab_sr; decide +kernel) rfl (by decide +kernel) (by decide +kernel) (by decide +kernel) (by decide +kernel) (by decide +kernel) (by decide) (Nat.le_of_ble_eq_true rfl) (Nat.le_of_ble_eq_true rfl) (Nat.le_of_ble_eq_true rfl)
  · refine ab_icmp_ne (off := 16) (pc := 20) (tgt := 36) (by decide +kernel) (by decide) (fun g7 => ?_) (fun g7 => ?_)
    · refine ab_aload_n (pc := 23) (n := 0) (i := 0) (j := 0) (by decide +kernel) rfl rfl ?_
      refine ab_getR (pc := 24) fl_X11_26_11 (by decide +kernel) (fun v8 ev8 => ?_)
      refine ab_getR (pc := 27) fl_X11_177_8 (by decide +kernel) (fun v9 ev9 => ?_)
      refine ab_iload_n (pc := 30) (n := 2) (i := 2) (j := 2) (by decide +kernel) rfl rfl ?_
      refine ab_iald (pc := 31) (by decide +kernel) (fun v10 ev10 => ?_)
      refine ab_iconst (pc := 32) (n := -1) (v := (-1 : Int32)) (by decide +kernel) rfl ?_
      refine ab_icmp_ne (off := 13) (pc := 33) (tgt := 46) (by decide +kernel) (by decide) (fun g11 => ?_) (fun g11 => ?_)
      · refine ab_few [] (lv' := []) rfl ?_
        exact hj6
      · refine ab_aload_n (pc := 46) (n := 0) (i := 0) (j := 0) (by decide +kernel) rfl rfl ?_
        refine ab_getR (pc := 47) fl_X11_39_11 (by decide +kernel) (fun v12 ev12 => ?_)
        refine ab_aload_n (pc := 50) (n := 0) (i := 0) (j := 0) (by decide +kernel) rfl rfl ?_
        refine ab_getR (pc := 51) fl_X11_26_11 (by decide +kernel) (fun v13 ev13 => ?_)
        refine ab_callVw (As := [.ref v13]) (st := []) (pc := 54) lk_X11_197_6 rfl rfl rfl (by decide) rfl (Nat.le_of_ble_eq_true rfl) (by decide +kernel) (fun y9 e9 => okX6_keep hl e9) (fun h14 eh14 => ?_)
        refine ab_aload_n (pc := 57) (n := 0) (i := 0) (j := 0) (by decide +kernel) rfl rfl ?_
        refine ab_getR (pc := 58) fl_X11_26_11 (by decide +kernel) (fun v15 ev15 => ?_)
        refine ab_iload_n (pc := 61) (n := 1) (i := 1) (j := 1) (by decide +kernel) rfl rfl ?_
        refine ab_iload_n (pc := 62) (n := 2) (i := 2) (j := 2) (by decide +kernel) rfl rfl ?_
        refine ab_callVj (As := [.int x1, .int x2]) (st := []) (pc := 63) lk_X11_216_8 rfl rfl rfl (by decide) rfl (Nat.le_of_ble_eq_true rfl) (by decide +kernel) (fun y9 e9 => okX8_stealBy hl e9) (fun v16 ev16 => ?_)
        exact ab_iret (pc := 66) (by decide +kernel) rfl rfl (Nat.le_of_ble_eq_true rfl) (Nat.le_of_ble_eq_true rfl)
    · refine ab_few [] (lv' := []) rfl ?_
      exact hj6
set_option maxRecDepth 100000 in
set_option maxHeartbeats 4000000 in
theorem okX11_steal {l : Launch} (hl : l.stackTraces = false) {x0 : Nat} {x1 : Int32} {x2 : Int32} {h : ab_H} {y : ((Int32 ⊕ String) × ab_H)} (e : fX11_steal x0 x1 x2 h = some y) : ab_Met l mX11_steal [.ref x0, .int x1, .int x2] h ((fun y : ((Int32 ⊕ String) × ab_H) => ((y.1.elim (fun x => .inl (some (.int x))) (fun E => .inr E), y.2) : ab_R × ab_H)) y) := ab_ofS (io := (fun y : ((Int32 ⊕ String) × ab_H) => ((y.1.elim (fun x => .inl (some (.int x))) (fun E => .inr E), y.2) : ab_R × ab_H))) (x := y) hl (by decide) rfl (Nat.le_of_ble_eq_true rfl) (wX11_steal hl x0 x1 x2 h) e
def mX11_change : ab_M := (yX11_change, cX11_change, 4, (some .int), { frames := 8, cells := 4, slots := 24, locals := 133 })
theorem iX11_change : ab_MI mX11_change 2 := ⟨kw_9e2db42282, kw_62b61b7ad3, by decide +kernel⟩
def fX11_change (x0 : Nat) (x1 : Int32) (x2 : Int32) (h : ab_H) : Option ((Int32 ⊕ String) × ab_H) := ab_ck (ab_io h x0 11 = true) (ab_bx (fX11_needTwo x0 x1 x2 h) (fun E => (Sum.inr E, h)) (ab_bd (ab_fr h x0 11 1) fun v2 => ab_bd (ab_fr h v2 8 11) fun v3 => ab_bd (ab_ia 0 h v3 x1) fun v4 => ab_jn (κ := Option ((Int32 ⊕ String) × ab_H)) (some (.inr "java/lang/IllegalStateException", h)) fun j5 => (if v4 = (-1 : Int32) then j5 else ab_bd (ab_fr h x0 11 1) fun v7 => ab_bd (ab_fr h v7 8 11) fun v8 => ab_bd (ab_ia 0 h v8 x2) fun v9 => (if v9 = (-1 : Int32) then j5 else ab_bd (ab_fr h x0 11 4) fun v11 => ab_bd (ab_fr h x0 11 1) fun v12 => ab_ck (ab_io h v11 6 = true) (ab_bd (fX6_keep v11 v12 h) fun h13 => ab_bd (ab_fr h13 x0 11 1) fun v14 => ab_bd (ab_fr h13 v14 8 11) fun v15 => ab_bd (ab_ia 0 h13 v15 x1) fun v16 => ab_bd (ab_fr h13 x0 11 1) fun v17 => ab_bd (ab_fr h13 v17 8 11) fun v18 => ab_bd (ab_fr h13 x0 11 1) fun v19 => ab_bd (ab_fr h13 v19 8 11) fun v20 => ab_bd (ab_ia 0 h13 v20 x2) fun v21 => ab_bd (ab_iw 0 h13 v18 x1 v21) fun h22 => ab_bd (ab_fr h22 x0 11 1) fun v23 => ab_bd (ab_fr h22 v23 8 11) fun v24 => ab_bd (ab_iw 0 h22 v24 x2 v16) fun h25 => ab_bd (ab_fr h25 x0 11 1) fun v26 => ab_bd (ab_fr h25 v26 8 11) fun v27 => ab_bd (ab_ia 0 h25 v27 x1) fun v28 => some (.inl v28, h25))))))
set_option maxRecDepth 100000 in
set_option maxHeartbeats 4000000 in
theorem wX11_change {l : Launch} (hl : l.stackTraces = false) (x0 : Nat) (x1 : Int32) (x2 : Int32) (h : ab_H) : ab_S l mX11_change (fun y : ((Int32 ⊕ String) × ab_H) => ((y.1.elim (fun x => .inl (some (.int x))) (fun E => .inr E), y.2) : ab_R × ab_H)) 0 0 (fX11_change x0 x1 x2 h) 0 [(0, .ref x0), (1, .int x1), (2, .int x2)] [] h := by
  unfold fX11_change
  refine ab_aload_n (pc := 0) (n := 0) (i := 0) (j := 0) (by decide +kernel) rfl rfl ?_
  refine ab_iload_n (pc := 1) (n := 1) (i := 1) (j := 1) (by decide +kernel) rfl rfl ?_
  refine ab_iload_n (pc := 2) (n := 2) (i := 2) (j := 2) (by decide +kernel) rfl rfl ?_
  refine ab_callVt (As := [.int x1, .int x2]) (st := []) (thr := (fun E => (Sum.inr E, h))) (pc := 3) lk_X11_186_11 (fun _ => rfl) rfl (by decide) rfl (Nat.le_of_ble_eq_true rfl) (by decide +kernel) (fun y9 e9 => okX11_needTwo hl e9) ?_
  refine ab_aload_n (pc := 6) (n := 0) (i := 0) (j := 0) (by decide +kernel) rfl rfl ?_
  refine ab_getR (pc := 7) fl_X11_26_11 (by decide +kernel) (fun v2 ev2 => ?_)
  refine ab_getR (pc := 10) fl_X11_138_8 (by decide +kernel) (fun v3 ev3 => ?_)
  refine ab_iload_n (pc := 13) (n := 1) (i := 1) (j := 1) (by decide +kernel) rfl rfl ?_
  refine ab_iald (pc := 14) (by decide +kernel) (fun v4 ev4 => ?_)
  refine ab_iconst (pc := 15) (n := -1) (v := (-1 : Int32)) (by decide +kernel) rfl ?_
  refine ab_jr (fun k9 : Option ((Int32 ⊕ String) × ab_H) => ab_S l mX11_change (fun y : ((Int32 ⊕ String) × ab_H) => ((y.1.elim (fun x => .inl (some (.int x))) (fun E => .inr E), y.2) : ab_R × ab_H)) 3 18 (k9) 32 [] [] h) ?_ (fun j5 hj5 => ?_)
  · exact ab_thr (pc := 32) (ik := 192) (is := 219) (ic := 196) (kk := 13) (text := "one WEARS no FACE") th_X11_192_196 (by show (RX11, 219, "one WEARS no FACE", 13) ∈ ab_sr; decide +kernel) rfl (by decide +kernel) (by decide +kernel) (by decide +kernel) (by decide +kernel) (by decide +kernel) (by decide) (Nat.le_of_ble_eq_true rfl) (Nat.le_of_ble_eq_true rfl) (Nat.le_of_ble_eq_true rfl)
  · refine ab_icmp_eq (off := 16) (pc := 16) (tgt := 32) (by decide +kernel) (by decide) (fun g6 => ?_) (fun g6 => ?_)
    · refine ab_few [] (lv' := []) rfl ?_
      exact hj5
    · refine ab_aload_n (pc := 19) (n := 0) (i := 0) (j := 0) (by decide +kernel) rfl rfl ?_
      refine ab_getR (pc := 20) fl_X11_26_11 (by decide +kernel) (fun v7 ev7 => ?_)
      refine ab_getR (pc := 23) fl_X11_138_8 (by decide +kernel) (fun v8 ev8 => ?_)
      refine ab_iload_n (pc := 26) (n := 2) (i := 2) (j := 2) (by decide +kernel) rfl rfl ?_
      refine ab_iald (pc := 27) (by decide +kernel) (fun v9 ev9 => ?_)
      refine ab_iconst (pc := 28) (n := -1) (v := (-1 : Int32)) (by decide +kernel) rfl ?_
      refine ab_icmp_ne (off := 13) (pc := 29) (tgt := 42) (by decide +kernel) (by decide) (fun g10 => ?_) (fun g10 => ?_)
      · refine ab_few [] (lv' := []) rfl ?_
        exact hj5
      · refine ab_aload_n (pc := 42) (n := 0) (i := 0) (j := 0) (by decide +kernel) rfl rfl ?_
        refine ab_getR (pc := 43) fl_X11_39_11 (by decide +kernel) (fun v11 ev11 => ?_)
        refine ab_aload_n (pc := 46) (n := 0) (i := 0) (j := 0) (by decide +kernel) rfl rfl ?_
        refine ab_getR (pc := 47) fl_X11_26_11 (by decide +kernel) (fun v12 ev12 => ?_)
        refine ab_callVw (As := [.ref v12]) (st := []) (pc := 50) lk_X11_197_6 rfl rfl rfl (by decide) rfl (Nat.le_of_ble_eq_true rfl) (by decide +kernel) (fun y9 e9 => okX6_keep hl e9) (fun h13 eh13 => ?_)
        refine ab_aload_n (pc := 53) (n := 0) (i := 0) (j := 0) (by decide +kernel) rfl rfl ?_
        refine ab_getR (pc := 54) fl_X11_26_11 (by decide +kernel) (fun v14 ev14 => ?_)
        refine ab_getR (pc := 57) fl_X11_138_8 (by decide +kernel) (fun v15 ev15 => ?_)
        refine ab_iload_n (pc := 60) (n := 1) (i := 1) (j := 1) (by decide +kernel) rfl rfl ?_
        refine ab_iald (pc := 61) (by decide +kernel) (fun v16 ev16 => ?_)
        refine ab_istore_n (pc := 62) (n := 3) (i := 3) (lv' := [(0, .ref x0), (1, .int x1), (2, .int x2), (3, .int v16)]) (by decide +kernel) rfl (Nat.le_of_ble_eq_true rfl) rfl rfl ?_
        refine ab_aload_n (pc := 63) (n := 0) (i := 0) (j := 0) (by decide +kernel) rfl rfl ?_
        refine ab_getR (pc := 64) fl_X11_26_11 (by decide +kernel) (fun v17 ev17 => ?_)
        refine ab_getR (pc := 67) fl_X11_138_8 (by decide +kernel) (fun v18 ev18 => ?_)
        refine ab_iload_n (pc := 70) (n := 1) (i := 1) (j := 1) (by decide +kernel) rfl rfl ?_
        refine ab_aload_n (pc := 71) (n := 0) (i := 0) (j := 0) (by decide +kernel) rfl rfl ?_
        refine ab_getR (pc := 72) fl_X11_26_11 (by decide +kernel) (fun v19 ev19 => ?_)
        refine ab_getR (pc := 75) fl_X11_138_8 (by decide +kernel) (fun v20 ev20 => ?_)
        refine ab_iload_n (pc := 78) (n := 2) (i := 2) (j := 2) (by decide +kernel) rfl rfl ?_
        refine ab_iald (pc := 79) (by decide +kernel) (fun v21 ev21 => ?_)
        refine ab_iast (pc := 80) (by decide +kernel) (fun h22 eh22 => ?_)
        refine ab_aload_n (pc := 81) (n := 0) (i := 0) (j := 0) (by decide +kernel) rfl rfl ?_
        refine ab_getR (pc := 82) fl_X11_26_11 (by decide +kernel) (fun v23 ev23 => ?_)
        refine ab_getR (pc := 85) fl_X11_138_8 (by decide +kernel) (fun v24 ev24 => ?_)
        refine ab_iload_n (pc := 88) (n := 2) (i := 2) (j := 2) (by decide +kernel) rfl rfl ?_
        refine ab_iload_n (pc := 89) (n := 3) (i := 3) (j := 3) (by decide +kernel) rfl rfl ?_
        refine ab_iast (pc := 90) (by decide +kernel) (fun h25 eh25 => ?_)
        refine ab_aload_n (pc := 91) (n := 0) (i := 0) (j := 0) (by decide +kernel) rfl rfl ?_
        refine ab_getR (pc := 92) fl_X11_26_11 (by decide +kernel) (fun v26 ev26 => ?_)
        refine ab_getR (pc := 95) fl_X11_138_8 (by decide +kernel) (fun v27 ev27 => ?_)
        refine ab_iload_n (pc := 98) (n := 1) (i := 1) (j := 1) (by decide +kernel) rfl rfl ?_
        refine ab_iald (pc := 99) (by decide +kernel) (fun v28 ev28 => ?_)
        exact ab_iret (pc := 100) (by decide +kernel) rfl rfl (Nat.le_of_ble_eq_true rfl) (Nat.le_of_ble_eq_true rfl)
set_option maxRecDepth 100000 in
set_option maxHeartbeats 4000000 in
theorem okX11_change {l : Launch} (hl : l.stackTraces = false) {x0 : Nat} {x1 : Int32} {x2 : Int32} {h : ab_H} {y : ((Int32 ⊕ String) × ab_H)} (e : fX11_change x0 x1 x2 h = some y) : ab_Met l mX11_change [.ref x0, .int x1, .int x2] h ((fun y : ((Int32 ⊕ String) × ab_H) => ((y.1.elim (fun x => .inl (some (.int x))) (fun E => .inr E), y.2) : ab_R × ab_H)) y) := ab_ofS (io := (fun y : ((Int32 ⊕ String) × ab_H) => ((y.1.elim (fun x => .inl (some (.int x))) (fun E => .inr E), y.2) : ab_R × ab_H))) (x := y) hl (by decide) rfl (Nat.le_of_ble_eq_true rfl) (wX11_change hl x0 x1 x2 h) e
def mX11_shave : ab_M := (yX11_shave, cX11_shave, 3, (some .int), { frames := 7, cells := 3, slots := 18, locals := 111 })
theorem iX11_shave : ab_MI mX11_shave 2 := ⟨kw_2d7744f5f9, kw_62b61b7ad3, by decide +kernel⟩
theorem lk_X11_221 : ab_LS RX11 221 mX11_needMark 1 := ⟨iX11_needMark, kw_4735db3dec, kw_81b107be9a⟩
theorem lk_X11_224 : ab_LS RX11 224 mX11_has 2 := ⟨iX11_has, kw_96047adf0f, kw_b5c7c9a43d⟩
def fX11_shave (x0 : Nat) (x1 : Int32) (x2 : Int32) (h : ab_H) : Option ((Int32 ⊕ String) × ab_H) := ab_ck (ab_io h x0 11 = true) (ab_bx (fX11_needPerson x0 x1 h) (fun E => (Sum.inr E, h)) (ab_bx (fX11_needMark x2 h) (fun E => (Sum.inr E, h)) (ab_bd (ab_fr h x0 11 1) fun v3 => ab_bd (ab_fr h v3 8 9) fun v4 => ab_bd (ab_ia 0 h v4 x1) fun v5 => ab_bd (fX11_has v5 x2 h) fun v6 => (if v6 = 0 then some (.inr "java/lang/IllegalStateException", h) else ab_bd (ab_fr h x0 11 4) fun v8 => ab_bd (ab_fr h x0 11 1) fun v9 => ab_ck (ab_io h v8 6 = true) (ab_bd (fX6_keep v8 v9 h) fun h10 => ab_bd (ab_fr h10 x0 11 1) fun v11 => ab_bd (ab_fr h10 v11 8 9) fun v12 => ab_bd (ab_ia 0 h10 v12 x1) fun v13 => ab_bd (ab_iw 0 h10 v12 x1 (v13 &&& (((nI 1) <<< (x2 &&& 31)) ^^^ (-1 : Int32)))) fun h14 => ab_bd (ab_fr h14 x0 11 1) fun v15 => ab_bd (ab_fr h14 v15 8 9) fun v16 => ab_bd (ab_ia 0 h14 v16 x1) fun v17 => ab_bd (fJ6_bitCount_0f7a4 v17 h14) fun v18 => some (.inl v18, h14))))))
set_option maxRecDepth 100000 in
set_option maxHeartbeats 4000000 in
theorem wX11_shave {l : Launch} (hl : l.stackTraces = false) (x0 : Nat) (x1 : Int32) (x2 : Int32) (h : ab_H) : ab_S l mX11_shave (fun y : ((Int32 ⊕ String) × ab_H) => ((y.1.elim (fun x => .inl (some (.int x))) (fun E => .inr E), y.2) : ab_R × ab_H)) 0 0 (fX11_shave x0 x1 x2 h) 0 [(0, .ref x0), (1, .int x1), (2, .int x2)] [] h := by
  unfold fX11_shave
  refine ab_aload_n (pc := 0) (n := 0) (i := 0) (j := 0) (by decide +kernel) rfl rfl ?_
  refine ab_iload_n (pc := 1) (n := 1) (i := 1) (j := 1) (by decide +kernel) rfl rfl ?_
  refine ab_callVt (As := [.int x1]) (st := []) (thr := (fun E => (Sum.inr E, h))) (pc := 2) lk_X11_131_11 (fun _ => rfl) rfl (by decide) rfl (Nat.le_of_ble_eq_true rfl) (by decide +kernel) (fun y9 e9 => okX11_needPerson hl e9) ?_
  refine ab_iload_n (pc := 5) (n := 2) (i := 2) (j := 2) (by decide +kernel) rfl rfl ?_
  refine ab_callSt (As := [.int x2]) (st := []) (thr := (fun E => (Sum.inr E, h))) (pc := 6) lk_X11_221 (fun _ => rfl) rfl (by decide) rfl (Nat.le_of_ble_eq_true rfl) (by decide +kernel) (fun y9 e9 => okX11_needMark hl e9) ?_
  refine ab_aload_n (pc := 9) (n := 0) (i := 0) (j := 0) (by decide +kernel) rfl rfl ?_
  refine ab_getR (pc := 10) fl_X11_26_11 (by decide +kernel) (fun v3 ev3 => ?_)
  refine ab_getR (pc := 13) fl_X11_159_8 (by decide +kernel) (fun v4 ev4 => ?_)
  refine ab_iload_n (pc := 16) (n := 1) (i := 1) (j := 1) (by decide +kernel) rfl rfl ?_
  refine ab_iald (pc := 17) (by decide +kernel) (fun v5 ev5 => ?_)
  refine ab_iload_n (pc := 18) (n := 2) (i := 2) (j := 2) (by decide +kernel) rfl rfl ?_
  refine ab_callSi (As := [.int v5, .int x2]) (st := []) (pc := 19) lk_X11_224 rfl rfl rfl (by decide) rfl (Nat.le_of_ble_eq_true rfl) (by decide +kernel) (fun y9 e9 => okX11_has hl e9) (fun v6 ev6 => ?_)
  refine ab_if_ne (off := 13) (pc := 22) (tgt := 35) (by decide +kernel) (by decide) (fun g7 => ?_) (fun g7 => ?_)
  · exact ab_thr (pc := 25) (ik := 192) (is := 228) (ic := 196) (kk := 15) (text := "the FACE has not that MARK") th_X11_192_196 (by show (RX11, 228, "the FACE has not that MARK", 15) ∈ ab_sr; decide +kernel) rfl (by decide +kernel) (by decide +kernel) (by decide +kernel) (by decide +kernel) (by decide +kernel) (by decide) (Nat.le_of_ble_eq_true rfl) (Nat.le_of_ble_eq_true rfl) (Nat.le_of_ble_eq_true rfl)
  · refine ab_aload_n (pc := 35) (n := 0) (i := 0) (j := 0) (by decide +kernel) rfl rfl ?_
    refine ab_getR (pc := 36) fl_X11_39_11 (by decide +kernel) (fun v8 ev8 => ?_)
    refine ab_aload_n (pc := 39) (n := 0) (i := 0) (j := 0) (by decide +kernel) rfl rfl ?_
    refine ab_getR (pc := 40) fl_X11_26_11 (by decide +kernel) (fun v9 ev9 => ?_)
    refine ab_callVw (As := [.ref v9]) (st := []) (pc := 43) lk_X11_197_6 rfl rfl rfl (by decide) rfl (Nat.le_of_ble_eq_true rfl) (by decide +kernel) (fun y9 e9 => okX6_keep hl e9) (fun h10 eh10 => ?_)
    refine ab_aload_n (pc := 46) (n := 0) (i := 0) (j := 0) (by decide +kernel) rfl rfl ?_
    refine ab_getR (pc := 47) fl_X11_26_11 (by decide +kernel) (fun v11 ev11 => ?_)
    refine ab_getR (pc := 50) fl_X11_159_8 (by decide +kernel) (fun v12 ev12 => ?_)
    refine ab_iload_n (pc := 53) (n := 1) (i := 1) (j := 1) (by decide +kernel) rfl rfl ?_
    refine ab_dup2 (pc := 54) (by decide +kernel) rfl rfl ?_
    refine ab_iald (pc := 55) (by decide +kernel) (fun v13 ev13 => ?_)
    refine ab_iconst (pc := 56) (n := 1) (v := nI 1) (by decide +kernel) rfl ?_
    refine ab_iload_n (pc := 57) (n := 2) (i := 2) (j := 2) (by decide +kernel) rfl rfl ?_
    refine ab_ishl (pc := 58) (by decide +kernel) ?_
    refine ab_iconst (pc := 59) (n := -1) (v := (-1 : Int32)) (by decide +kernel) rfl ?_
    refine ab_ixor (pc := 60) (by decide +kernel) ?_
    refine ab_iand (pc := 61) (by decide +kernel) ?_
    refine ab_iast (pc := 62) (by decide +kernel) (fun h14 eh14 => ?_)
    refine ab_aload_n (pc := 63) (n := 0) (i := 0) (j := 0) (by decide +kernel) rfl rfl ?_
    refine ab_getR (pc := 64) fl_X11_26_11 (by decide +kernel) (fun v15 ev15 => ?_)
    refine ab_getR (pc := 67) fl_X11_159_8 (by decide +kernel) (fun v16 ev16 => ?_)
    refine ab_iload_n (pc := 70) (n := 1) (i := 1) (j := 1) (by decide +kernel) rfl rfl ?_
    refine ab_iald (pc := 71) (by decide +kernel) (fun v17 ev17 => ?_)
    refine ab_callSi (As := [.int v17]) (st := []) (pc := 72) lk_X11_230 rfl rfl rfl (by decide) rfl (Nat.le_of_ble_eq_true rfl) (by decide +kernel) (fun y9 e9 => okJ6_bitCount_0f7a4 hl e9) (fun v18 ev18 => ?_)
    exact ab_iret (pc := 75) (by decide +kernel) rfl rfl (Nat.le_of_ble_eq_true rfl) (Nat.le_of_ble_eq_true rfl)
set_option maxRecDepth 100000 in
set_option maxHeartbeats 4000000 in
theorem okX11_shave {l : Launch} (hl : l.stackTraces = false) {x0 : Nat} {x1 : Int32} {x2 : Int32} {h : ab_H} {y : ((Int32 ⊕ String) × ab_H)} (e : fX11_shave x0 x1 x2 h = some y) : ab_Met l mX11_shave [.ref x0, .int x1, .int x2] h ((fun y : ((Int32 ⊕ String) × ab_H) => ((y.1.elim (fun x => .inl (some (.int x))) (fun E => .inr E), y.2) : ab_R × ab_H)) y) := ab_ofS (io := (fun y : ((Int32 ⊕ String) × ab_H) => ((y.1.elim (fun x => .inl (some (.int x))) (fun E => .inr E), y.2) : ab_R × ab_H))) (x := y) hl (by decide) rfl (Nat.le_of_ble_eq_true rfl) (wX11_shave hl x0 x1 x2 h) e
def mX11_graft : ab_M := (yX11_graft, cX11_graft, 4, (some .int), { frames := 7, cells := 5, slots := 30, locals := 111 })
theorem iX11_graft : ab_MI mX11_graft 3 := ⟨kw_b4a691d2df, kw_62b61b7ad3, by decide +kernel⟩
def fX11_graft (x0 : Nat) (x1 : Int32) (x2 : Int32) (x3 : Int32) (h : ab_H) : Option ((Int32 ⊕ String) × ab_H) := ab_ck (ab_io h x0 11 = true) (ab_bx (fX11_needPerson x0 x1 h) (fun E => (Sum.inr E, h)) (ab_ck (ab_io h x0 11 = true) (ab_bx (fX11_needPerson x0 x2 h) (fun E => (Sum.inr E, h)) (ab_bx (fX11_needMark x3 h) (fun E => (Sum.inr E, h)) (ab_bx (fX11_needUnlike x1 x2 h) (fun E => (Sum.inr E, h)) (ab_bd (ab_fr h x0 11 1) fun v5 => ab_bd (ab_fr h v5 8 9) fun v6 => ab_bd (ab_ia 0 h v6 x1) fun v7 => ab_bd (fX11_has v7 x3 h) fun v8 => ab_jn (κ := Option ((Int32 ⊕ String) × ab_H)) (some (.inr "java/lang/IllegalStateException", h)) fun j9 => (if v8 = 0 then j9 else ab_bd (ab_fr h x0 11 1) fun v11 => ab_bd (ab_fr h v11 8 9) fun v12 => ab_bd (ab_ia 0 h v12 x2) fun v13 => ab_bd (fX11_has v13 x3 h) fun v14 => (if v14 = 0 then ab_bd (ab_fr h x0 11 4) fun v16 => ab_bd (ab_fr h x0 11 1) fun v17 => ab_ck (ab_io h v16 6 = true) (ab_bd (fX6_keep v16 v17 h) fun h18 => ab_bd (ab_fr h18 x0 11 1) fun v19 => ab_bd (ab_fr h18 v19 8 9) fun v20 => ab_bd (ab_ia 0 h18 v20 x1) fun v21 => ab_bd (ab_iw 0 h18 v20 x1 (v21 &&& (((nI 1) <<< (x3 &&& 31)) ^^^ (-1 : Int32)))) fun h22 => ab_bd (ab_fr h22 x0 11 1) fun v23 => ab_bd (ab_fr h22 v23 8 9) fun v24 => ab_bd (ab_ia 0 h22 v24 x2) fun v25 => ab_bd (ab_iw 0 h22 v24 x2 (v25 ||| ((nI 1) <<< (x3 &&& 31)))) fun h26 => ab_bd (ab_fr h26 x0 11 1) fun v27 => ab_bd (ab_fr h26 v27 8 9) fun v28 => ab_bd (ab_ia 0 h26 v28 x2) fun v29 => ab_bd (fJ6_bitCount_0f7a4 v29 h26) fun v30 => some (.inl v30, h26)) else j9))))))))
set_option maxRecDepth 100000 in
set_option maxHeartbeats 4000000 in
theorem wX11_graft {l : Launch} (hl : l.stackTraces = false) (x0 : Nat) (x1 : Int32) (x2 : Int32) (x3 : Int32) (h : ab_H) : ab_S l mX11_graft (fun y : ((Int32 ⊕ String) × ab_H) => ((y.1.elim (fun x => .inl (some (.int x))) (fun E => .inr E), y.2) : ab_R × ab_H)) 0 0 (fX11_graft x0 x1 x2 x3 h) 0 [(0, .ref x0), (1, .int x1), (2, .int x2), (3, .int x3)] [] h := by
  unfold fX11_graft
  refine ab_aload_n (pc := 0) (n := 0) (i := 0) (j := 0) (by decide +kernel) rfl rfl ?_
  refine ab_iload_n (pc := 1) (n := 1) (i := 1) (j := 1) (by decide +kernel) rfl rfl ?_
  refine ab_callVt (As := [.int x1]) (st := []) (thr := (fun E => (Sum.inr E, h))) (pc := 2) lk_X11_131_11 (fun _ => rfl) rfl (by decide) rfl (Nat.le_of_ble_eq_true rfl) (by decide +kernel) (fun y9 e9 => okX11_needPerson hl e9) ?_
  refine ab_aload_n (pc := 5) (n := 0) (i := 0) (j := 0) (by decide +kernel) rfl rfl ?_
  refine ab_iload_n (pc := 6) (n := 2) (i := 2) (j := 2) (by decide +kernel) rfl rfl ?_
  refine ab_callVt (As := [.int x2]) (st := []) (thr := (fun E => (Sum.inr E, h))) (pc := 7) lk_X11_131_11 (fun _ => rfl) rfl (by decide) rfl (Nat.le_of_ble_eq_true rfl) (by decide +kernel) (fun y9 e9 => okX11_needPerson hl e9) ?_
  refine ab_iload_n (pc := 10) (n := 3) (i := 3) (j := 3) (by decide +kernel) rfl rfl ?_
  refine ab_callSt (As := [.int x3]) (st := []) (thr := (fun E => (Sum.inr E, h))) (pc := 11) lk_X11_221 (fun _ => rfl) rfl (by decide) rfl (Nat.le_of_ble_eq_true rfl) (by decide +kernel) (fun y9 e9 => okX11_needMark hl e9) ?_
  refine ab_iload_n (pc := 14) (n := 1) (i := 1) (j := 1) (by decide +kernel) rfl rfl ?_
  refine ab_iload_n (pc := 15) (n := 2) (i := 2) (j := 2) (by decide +kernel) rfl rfl ?_
  refine ab_callSt (As := [.int x1, .int x2]) (st := []) (thr := (fun E => (Sum.inr E, h))) (pc := 16) lk_X11_235 (fun _ => rfl) rfl (by decide) rfl (Nat.le_of_ble_eq_true rfl) (by decide +kernel) (fun y9 e9 => okX11_needUnlike hl e9) ?_
  refine ab_aload_n (pc := 19) (n := 0) (i := 0) (j := 0) (by decide +kernel) rfl rfl ?_
  refine ab_getR (pc := 20) fl_X11_26_11 (by decide +kernel) (fun v5 ev5 => ?_)
  refine ab_getR (pc := 23) fl_X11_159_8 (by decide +kernel) (fun v6 ev6 => ?_)
  refine ab_iload_n (pc := 26) (n := 1) (i := 1) (j := 1) (by decide +kernel) rfl rfl ?_
  refine ab_iald (pc := 27) (by decide +kernel) (fun v7 ev7 => ?_)
  refine ab_iload_n (pc := 28) (n := 3) (i := 3) (j := 3) (by decide +kernel) rfl rfl ?_
  refine ab_callSi (As := [.int v7, .int x3]) (st := []) (pc := 29) lk_X11_224 rfl rfl rfl (by decide) rfl (Nat.le_of_ble_eq_true rfl) (by decide +kernel) (fun y9 e9 => okX11_has hl e9) (fun v8 ev8 => ?_)
  refine ab_jr (fun k9 : Option ((Int32 ⊕ String) × ab_H) => ab_S l mX11_graft (fun y : ((Int32 ⊕ String) × ab_H) => ((y.1.elim (fun x => .inl (some (.int x))) (fun E => .inr E), y.2) : ab_R × ab_H)) 4 24 (k9) 51 [] [] h) ?_ (fun j9 hj9 => ?_)
  · exact ab_thr (pc := 51) (ik := 192) (is := 238) (ic := 196) (kk := 16) (text := "the MARK cannot be GRAFTED") th_X11_192_196 (by show (RX11, 238, "the MARK cannot be GRAFTED", 16) ∈ ab_sr; decide +kernel) rfl (by decide +kernel) (by decide +kernel) (by decide +kernel) (by decide +kernel) (by decide +kernel) (by decide) (Nat.le_of_ble_eq_true rfl) (Nat.le_of_ble_eq_true rfl) (Nat.le_of_ble_eq_true rfl)
  · refine ab_if_eq (off := 19) (pc := 32) (tgt := 51) (by decide +kernel) (by decide) (fun g10 => ?_) (fun g10 => ?_)
    · refine ab_few [] (lv' := []) rfl ?_
      exact hj9
    · refine ab_aload_n (pc := 35) (n := 0) (i := 0) (j := 0) (by decide +kernel) rfl rfl ?_
      refine ab_getR (pc := 36) fl_X11_26_11 (by decide +kernel) (fun v11 ev11 => ?_)
      refine ab_getR (pc := 39) fl_X11_159_8 (by decide +kernel) (fun v12 ev12 => ?_)
      refine ab_iload_n (pc := 42) (n := 2) (i := 2) (j := 2) (by decide +kernel) rfl rfl ?_
      refine ab_iald (pc := 43) (by decide +kernel) (fun v13 ev13 => ?_)
      refine ab_iload_n (pc := 44) (n := 3) (i := 3) (j := 3) (by decide +kernel) rfl rfl ?_
      refine ab_callSi (As := [.int v13, .int x3]) (st := []) (pc := 45) lk_X11_224 rfl rfl rfl (by decide) rfl (Nat.le_of_ble_eq_true rfl) (by decide +kernel) (fun y9 e9 => okX11_has hl e9) (fun v14 ev14 => ?_)
      refine ab_if_eq (off := 13) (pc := 48) (tgt := 61) (by decide +kernel) (by decide) (fun g15 => ?_) (fun g15 => ?_)
      · refine ab_aload_n (pc := 61) (n := 0) (i := 0) (j := 0) (by decide +kernel) rfl rfl ?_
        refine ab_getR (pc := 62) fl_X11_39_11 (by decide +kernel) (fun v16 ev16 => ?_)
        refine ab_aload_n (pc := 65) (n := 0) (i := 0) (j := 0) (by decide +kernel) rfl rfl ?_
        refine ab_getR (pc := 66) fl_X11_26_11 (by decide +kernel) (fun v17 ev17 => ?_)
        refine ab_callVw (As := [.ref v17]) (st := []) (pc := 69) lk_X11_197_6 rfl rfl rfl (by decide) rfl (Nat.le_of_ble_eq_true rfl) (by decide +kernel) (fun y9 e9 => okX6_keep hl e9) (fun h18 eh18 => ?_)
        refine ab_aload_n (pc := 72) (n := 0) (i := 0) (j := 0) (by decide +kernel) rfl rfl ?_
        refine ab_getR (pc := 73) fl_X11_26_11 (by decide +kernel) (fun v19 ev19 => ?_)
        refine ab_getR (pc := 76) fl_X11_159_8 (by decide +kernel) (fun v20 ev20 => ?_)
        refine ab_iload_n (pc := 79) (n := 1) (i := 1) (j := 1) (by decide +kernel) rfl rfl ?_
        refine ab_dup2 (pc := 80) (by decide +kernel) rfl rfl ?_
        refine ab_iald (pc := 81) (by decide +kernel) (fun v21 ev21 => ?_)
        refine ab_iconst (pc := 82) (n := 1) (v := nI 1) (by decide +kernel) rfl ?_
        refine ab_iload_n (pc := 83) (n := 3) (i := 3) (j := 3) (by decide +kernel) rfl rfl ?_
        refine ab_ishl (pc := 84) (by decide +kernel) ?_
        refine ab_iconst (pc := 85) (n := -1) (v := (-1 : Int32)) (by decide +kernel) rfl ?_
        refine ab_ixor (pc := 86) (by decide +kernel) ?_
        refine ab_iand (pc := 87) (by decide +kernel) ?_
        refine ab_iast (pc := 88) (by decide +kernel) (fun h22 eh22 => ?_)
        refine ab_aload_n (pc := 89) (n := 0) (i := 0) (j := 0) (by decide +kernel) rfl rfl ?_
        refine ab_getR (pc := 90) fl_X11_26_11 (by decide +kernel) (fun v23 ev23 => ?_)
        refine ab_getR (pc := 93) fl_X11_159_8 (by decide +kernel) (fun v24 ev24 => ?_)
        refine ab_iload_n (pc := 96) (n := 2) (i := 2) (j := 2) (by decide +kernel) rfl rfl ?_
        refine ab_dup2 (pc := 97) (by decide +kernel) rfl rfl ?_
        refine ab_iald (pc := 98) (by decide +kernel) (fun v25 ev25 => ?_)
        refine ab_iconst (pc := 99) (n := 1) (v := nI 1) (by decide +kernel) rfl ?_
        refine ab_iload_n (pc := 100) (n := 3) (i := 3) (j := 3) (by decide +kernel) rfl rfl ?_
        refine ab_ishl (pc := 101) (by decide +kernel) ?_
        refine ab_ior (pc := 102) (by decide +kernel) ?_
        refine ab_iast (pc := 103) (by decide +kernel) (fun h26 eh26 => ?_)
        refine ab_aload_n (pc := 104) (n := 0) (i := 0) (j := 0) (by decide +kernel) rfl rfl ?_
        refine ab_getR (pc := 105) fl_X11_26_11 (by decide +kernel) (fun v27 ev27 => ?_)
        refine ab_getR (pc := 108) fl_X11_159_8 (by decide +kernel) (fun v28 ev28 => ?_)
        refine ab_iload_n (pc := 111) (n := 2) (i := 2) (j := 2) (by decide +kernel) rfl rfl ?_
        refine ab_iald (pc := 112) (by decide +kernel) (fun v29 ev29 => ?_)
        refine ab_callSi (As := [.int v29]) (st := []) (pc := 113) lk_X11_230 rfl rfl rfl (by decide) rfl (Nat.le_of_ble_eq_true rfl) (by decide +kernel) (fun y9 e9 => okJ6_bitCount_0f7a4 hl e9) (fun v30 ev30 => ?_)
        exact ab_iret (pc := 116) (by decide +kernel) rfl rfl (Nat.le_of_ble_eq_true rfl) (Nat.le_of_ble_eq_true rfl)
      · refine ab_few [] (lv' := []) rfl ?_
        exact hj9
set_option maxRecDepth 100000 in
set_option maxHeartbeats 4000000 in
theorem okX11_graft {l : Launch} (hl : l.stackTraces = false) {x0 : Nat} {x1 : Int32} {x2 : Int32} {x3 : Int32} {h : ab_H} {y : ((Int32 ⊕ String) × ab_H)} (e : fX11_graft x0 x1 x2 x3 h = some y) : ab_Met l mX11_graft [.ref x0, .int x1, .int x2, .int x3] h ((fun y : ((Int32 ⊕ String) × ab_H) => ((y.1.elim (fun x => .inl (some (.int x))) (fun E => .inr E), y.2) : ab_R × ab_H)) y) := ab_ofS (io := (fun y : ((Int32 ⊕ String) × ab_H) => ((y.1.elim (fun x => .inl (some (.int x))) (fun E => .inr E), y.2) : ab_R × ab_H))) (x := y) hl (by decide) rfl (Nat.le_of_ble_eq_true rfl) (wX11_graft hl x0 x1 x2 x3 h) e
def mX11_meet : ab_M := (yX11_meet, cX11_meet, 3, (some .int), { frames := 8, cells := 3, slots := 18, locals := 133 })
theorem iX11_meet : ab_MI mX11_meet 2 := ⟨kw_c2451c6232, kw_62b61b7ad3, by decide +kernel⟩
theorem lk_X11_240_8 : ab_LV RX11 240 8 mX8_tellAll 2 := ⟨RX8, rfl, iX8_tellAll, kw_82c5593b6a, kw_a85892a7aa, kw_1bd746fe68⟩
def fX11_meet (x0 : Nat) (x1 : Int32) (x2 : Int32) (h : ab_H) : Option ((Int32 ⊕ String) × ab_H) := ab_ck (ab_io h x0 11 = true) (ab_bx (fX11_needTwo x0 x1 x2 h) (fun E => (Sum.inr E, h)) (ab_bd (ab_fr h x0 11 4) fun v2 => ab_bd (ab_fr h x0 11 1) fun v3 => ab_ck (ab_io h v2 6 = true) (ab_bd (fX6_keep v2 v3 h) fun h4 => ab_bd (ab_fr h4 x0 11 1) fun v5 => ab_ck (ab_io h4 v5 8 = true) (ab_bd (fX8_tellAll v5 x1 x2 h4) fun v6 => some (.inl v6.1, v6.2)))))
set_option maxRecDepth 100000 in
set_option maxHeartbeats 4000000 in
theorem wX11_meet {l : Launch} (hl : l.stackTraces = false) (x0 : Nat) (x1 : Int32) (x2 : Int32) (h : ab_H) : ab_S l mX11_meet (fun y : ((Int32 ⊕ String) × ab_H) => ((y.1.elim (fun x => .inl (some (.int x))) (fun E => .inr E), y.2) : ab_R × ab_H)) 0 0 (fX11_meet x0 x1 x2 h) 0 [(0, .ref x0), (1, .int x1), (2, .int x2)] [] h := by
  unfold fX11_meet
  refine ab_aload_n (pc := 0) (n := 0) (i := 0) (j := 0) (by decide +kernel) rfl rfl ?_
  refine ab_iload_n (pc := 1) (n := 1) (i := 1) (j := 1) (by decide +kernel) rfl rfl ?_
  refine ab_iload_n (pc := 2) (n := 2) (i := 2) (j := 2) (by decide +kernel) rfl rfl ?_
  refine ab_callVt (As := [.int x1, .int x2]) (st := []) (thr := (fun E => (Sum.inr E, h))) (pc := 3) lk_X11_186_11 (fun _ => rfl) rfl (by decide) rfl (Nat.le_of_ble_eq_true rfl) (by decide +kernel) (fun y9 e9 => okX11_needTwo hl e9) ?_
  refine ab_aload_n (pc := 6) (n := 0) (i := 0) (j := 0) (by decide +kernel) rfl rfl ?_
  refine ab_getR (pc := 7) fl_X11_39_11 (by decide +kernel) (fun v2 ev2 => ?_)
  refine ab_aload_n (pc := 10) (n := 0) (i := 0) (j := 0) (by decide +kernel) rfl rfl ?_
  refine ab_getR (pc := 11) fl_X11_26_11 (by decide +kernel) (fun v3 ev3 => ?_)
  refine ab_callVw (As := [.ref v3]) (st := []) (pc := 14) lk_X11_197_6 rfl rfl rfl (by decide) rfl (Nat.le_of_ble_eq_true rfl) (by decide +kernel) (fun y9 e9 => okX6_keep hl e9) (fun h4 eh4 => ?_)
  refine ab_aload_n (pc := 17) (n := 0) (i := 0) (j := 0) (by decide +kernel) rfl rfl ?_
  refine ab_getR (pc := 18) fl_X11_26_11 (by decide +kernel) (fun v5 ev5 => ?_)
  refine ab_iload_n (pc := 21) (n := 1) (i := 1) (j := 1) (by decide +kernel) rfl rfl ?_
  refine ab_iload_n (pc := 22) (n := 2) (i := 2) (j := 2) (by decide +kernel) rfl rfl ?_
  refine ab_callVj (As := [.int x1, .int x2]) (st := []) (pc := 23) lk_X11_240_8 rfl rfl rfl (by decide) rfl (Nat.le_of_ble_eq_true rfl) (by decide +kernel) (fun y9 e9 => okX8_tellAll hl e9) (fun v6 ev6 => ?_)
  exact ab_iret (pc := 26) (by decide +kernel) rfl rfl (Nat.le_of_ble_eq_true rfl) (Nat.le_of_ble_eq_true rfl)
set_option maxRecDepth 100000 in
set_option maxHeartbeats 4000000 in
theorem okX11_meet {l : Launch} (hl : l.stackTraces = false) {x0 : Nat} {x1 : Int32} {x2 : Int32} {h : ab_H} {y : ((Int32 ⊕ String) × ab_H)} (e : fX11_meet x0 x1 x2 h = some y) : ab_Met l mX11_meet [.ref x0, .int x1, .int x2] h ((fun y : ((Int32 ⊕ String) × ab_H) => ((y.1.elim (fun x => .inl (some (.int x))) (fun E => .inr E), y.2) : ab_R × ab_H)) y) := ab_ofS (io := (fun y : ((Int32 ⊕ String) × ab_H) => ((y.1.elim (fun x => .inl (some (.int x))) (fun E => .inr E), y.2) : ab_R × ab_H))) (x := y) hl (by decide) rfl (Nat.le_of_ble_eq_true rfl) (wX11_meet hl x0 x1 x2 h) e
def mX11_leadsClosedRing : ab_M := (yX11_leadsClosedRing, cX11_leadsClosedRing, 4, (some .boolean), { frames := 2, cells := 0, slots := 0, locals := 46 })
theorem iX11_leadsClosedRing : ab_MI mX11_leadsClosedRing 1 := ⟨kw_7dbdc8c75a, kw_62b61b7ad3, by decide +kernel⟩
theorem lk_X11_150_8 : ab_LV RX11 150 8 mX8_ringOf 1 := ⟨RX8, rfl, iX8_ringOf, kw_a3bf0b26a2, kw_92b0703127, kw_2d871096d2⟩
theorem lk_X11_266 : ab_LS RX11 266 mJ6_numberOfTrailingZeros_0f7a4 1 := ⟨iJ6_numberOfTrailingZeros_0f7a4, kw_25572f7209, kw_4bc08f7158⟩
def fX11_leadsClosedRing (F : Nat) (x0 : Nat) (x1 : Int32) (h : ab_H) : Option Int32 := ab_bd (ab_fr h x0 11 1) fun v1 => ab_bd (ab_fr h v1 8 11) fun v2 => ab_bd (ab_ia 0 h v2 x1) fun v3 => (if v3 = (-1 : Int32) then some (nI 0) else (if v3 = x1 then some (nI 0) else ab_bd (ab_fr h x0 11 1) fun v6 => ab_ck (ab_io h v6 8 = true) (ab_bd (fX8_ringOf F v6 x1 h) fun v7 => ab_bd (fX11_has v7 v3 h) fun v8 => (if v8 = 0 then some (nI 0) else ab_bd (fJ6_numberOfTrailingZeros_0f7a4 v7 h) fun v10 => (if v10 = x1 then some (nI 1) else some (nI 0))))))
set_option maxRecDepth 100000 in
set_option maxHeartbeats 4000000 in
theorem wX11_leadsClosedRing {l : Launch} (hl : l.stackTraces = false) (F : Nat) (x0 : Nat) (x1 : Int32) (h : ab_H) : ab_S l mX11_leadsClosedRing (fun y : Int32 => ((.inl (some (.int y)), h) : ab_R × ab_H)) 0 0 (fX11_leadsClosedRing F x0 x1 h) 0 [(0, .ref x0), (1, .int x1)] [] h := by
  unfold fX11_leadsClosedRing
  refine ab_aload_n (pc := 0) (n := 0) (i := 0) (j := 0) (by decide +kernel) rfl rfl ?_
  refine ab_getR (pc := 1) fl_X11_26_11 (by decide +kernel) (fun v1 ev1 => ?_)
  refine ab_getR (pc := 4) fl_X11_138_8 (by decide +kernel) (fun v2 ev2 => ?_)
  refine ab_iload_n (pc := 7) (n := 1) (i := 1) (j := 1) (by decide +kernel) rfl rfl ?_
  refine ab_iald (pc := 8) (by decide +kernel) (fun v3 ev3 => ?_)
  refine ab_istore_n (pc := 9) (n := 2) (i := 2) (lv' := [(0, .ref x0), (1, .int x1), (2, .int v3)]) (by decide +kernel) rfl (Nat.le_of_ble_eq_true rfl) rfl rfl ?_
  refine ab_iload_n (pc := 10) (n := 2) (i := 2) (j := 2) (by decide +kernel) rfl rfl ?_
  refine ab_iconst (pc := 11) (n := -1) (v := (-1 : Int32)) (by decide +kernel) rfl ?_
  refine ab_icmp_eq (off := 8) (pc := 12) (tgt := 20) (by decide +kernel) (by decide) (fun g4 => ?_) (fun g4 => ?_)
  · refine ab_iconst (pc := 20) (n := 0) (v := nI 0) (by decide +kernel) rfl ?_
    exact ab_zret (pc := 21) (by decide +kernel) rfl ab_bl0.1 rfl (Nat.le_of_ble_eq_true rfl) (Nat.le_of_ble_eq_true rfl)
  · refine ab_iload_n (pc := 15) (n := 2) (i := 2) (j := 2) (by decide +kernel) rfl rfl ?_
    refine ab_iload_n (pc := 16) (n := 1) (i := 1) (j := 1) (by decide +kernel) rfl rfl ?_
    refine ab_icmp_ne (off := 5) (pc := 17) (tgt := 22) (by decide +kernel) (by decide) (fun g5 => ?_) (fun g5 => ?_)
    · refine ab_iconst (pc := 20) (n := 0) (v := nI 0) (by decide +kernel) rfl ?_
      exact ab_zret (pc := 21) (by decide +kernel) rfl ab_bl0.1 rfl (Nat.le_of_ble_eq_true rfl) (Nat.le_of_ble_eq_true rfl)
    · refine ab_aload_n (pc := 22) (n := 0) (i := 0) (j := 0) (by decide +kernel) rfl rfl ?_
      refine ab_getR (pc := 23) fl_X11_26_11 (by decide +kernel) (fun v6 ev6 => ?_)
      refine ab_iload_n (pc := 26) (n := 1) (i := 1) (j := 1) (by decide +kernel) rfl rfl ?_
      refine ab_callVi (As := [.int x1]) (st := []) (pc := 27) lk_X11_150_8 rfl rfl rfl (by decide) rfl (Nat.le_of_ble_eq_true rfl) (by decide +kernel) (fun y9 e9 => okX8_ringOf hl (F := F) e9) (fun v7 ev7 => ?_)
      refine ab_istore_n (pc := 30) (n := 3) (i := 3) (lv' := [(0, .ref x0), (1, .int x1), (2, .int v3), (3, .int v7)]) (by decide +kernel) rfl (Nat.le_of_ble_eq_true rfl) rfl rfl ?_
      refine ab_iload_n (pc := 31) (n := 3) (i := 3) (j := 3) (by decide +kernel) rfl rfl ?_
      refine ab_iload_n (pc := 32) (n := 2) (i := 2) (j := 2) (by decide +kernel) rfl rfl ?_
      refine ab_callSi (As := [.int v7, .int v3]) (st := []) (pc := 33) lk_X11_224 rfl rfl rfl (by decide) rfl (Nat.le_of_ble_eq_true rfl) (by decide +kernel) (fun y9 e9 => okX11_has hl e9) (fun v8 ev8 => ?_)
      refine ab_if_eq (off := 15) (pc := 36) (tgt := 51) (by decide +kernel) (by decide) (fun g9 => ?_) (fun g9 => ?_)
      · refine ab_iconst (pc := 51) (n := 0) (v := nI 0) (by decide +kernel) rfl ?_
        exact ab_zret (pc := 52) (by decide +kernel) rfl ab_bl0.1 rfl (Nat.le_of_ble_eq_true rfl) (Nat.le_of_ble_eq_true rfl)
      · refine ab_iload_n (pc := 39) (n := 3) (i := 3) (j := 3) (by decide +kernel) rfl rfl ?_
        refine ab_callSi (As := [.int v7]) (st := []) (pc := 40) lk_X11_266 rfl rfl rfl (by decide) rfl (Nat.le_of_ble_eq_true rfl) (by decide +kernel) (fun y9 e9 => okJ6_numberOfTrailingZeros_0f7a4 hl e9) (fun v10 ev10 => ?_)
        refine ab_iload_n (pc := 43) (n := 1) (i := 1) (j := 1) (by decide +kernel) rfl rfl ?_
        refine ab_icmp_ne (off := 7) (pc := 44) (tgt := 51) (by decide +kernel) (by decide) (fun g11 => ?_) (fun g11 => ?_)
        · refine ab_iconst (pc := 47) (n := 1) (v := nI 1) (by decide +kernel) rfl ?_
          refine ab_goto (pc := 48) (off := 4) (tgt := 52) (by decide +kernel) (by decide) ?_
          exact ab_zret (pc := 52) (by decide +kernel) rfl ab_bl1.1 rfl (Nat.le_of_ble_eq_true rfl) (Nat.le_of_ble_eq_true rfl)
        · refine ab_iconst (pc := 51) (n := 0) (v := nI 0) (by decide +kernel) rfl ?_
          exact ab_zret (pc := 52) (by decide +kernel) rfl ab_bl0.1 rfl (Nat.le_of_ble_eq_true rfl) (Nat.le_of_ble_eq_true rfl)
set_option maxRecDepth 100000 in
set_option maxHeartbeats 4000000 in
theorem okX11_leadsClosedRing {l : Launch} (hl : l.stackTraces = false) {F : Nat} {x0 : Nat} {x1 : Int32} {h : ab_H} {y : Int32} (e : fX11_leadsClosedRing F x0 x1 h = some y) : ab_Met l mX11_leadsClosedRing [.ref x0, .int x1] h (.inl (some (.int y)), h) := ab_ofS (io := (fun y : Int32 => ((.inl (some (.int y)), h) : ab_R × ab_H))) (x := y) hl (by decide) rfl (Nat.le_of_ble_eq_true rfl) (wX11_leadsClosedRing hl F x0 x1 h) e
def mX11_marks : ab_M := (yX11_marks, cX11_marks, 3, (some .int), { frames := 2, cells := 0, slots := 0, locals := 41 })
theorem iX11_marks : ab_MI mX11_marks 0 := ⟨kw_0f6a0098e3, kw_62b61b7ad3, by decide +kernel⟩
theorem lk_X11_269 : ab_LS RX11 269 mX11_isFewer 2 := ⟨iX11_isFewer, kw_fad36d8330, kw_785778782c⟩
theorem lk_X11_272_11 : ab_LV RX11 272 11 mX11_partsAllFaces 1 := ⟨RX11, rfl, iX11_partsAllFaces, kw_2633286fe3, kw_2adc971f76, kw_59b996c00e⟩
def fX11_marks_4 (F : Nat) (x0 : Nat) (h : ab_H) : Nat → Int32 → Int32 → Option Int32
  | 0, _, _ => none
  | n + 1, x1, x2 => (if x2 ≤ (nI 255) then ab_bd (fX11_isFewer x2 x1 h) fun v2 => (if v2 = 0 then fX11_marks_4 F x0 h n x1 (x2 + nI 1) else ab_ck (ab_io h x0 11 = true) (ab_bd (fX11_partsAllFaces F x0 x2 h) fun v4 => (if v4 = 0 then fX11_marks_4 F x0 h n x1 (x2 + nI 1) else fX11_marks_4 F x0 h n x2 (x2 + nI 1)))) else some x1)
def fX11_marks (F : Nat) (x0 : Nat) (h : ab_H) : Option Int32 := fX11_marks_4 F x0 h F (-1 : Int32) (nI 0)
set_option maxRecDepth 100000 in
set_option maxHeartbeats 4000000 in
theorem lX11_marks_4 {l : Launch} (hl : l.stackTraces = false) (F : Nat) (x0 : Nat) (h : ab_H) : ∀ (n : Nat) (x1 : Int32) (x2 : Int32), ab_S l mX11_marks (fun y : Int32 => ((.inl (some (.int y)), h) : ab_R × ab_H)) 0 0 (fX11_marks_4 F x0 h n x1 x2) 4 [(0, .ref x0), (1, .int x1), (2, .int x2)] [] h := by
  intro n
  induction n with
  | zero =>
    intro x1 x2
    exact ab_none
  | succ n ih =>
    intro x1 x2
    rw [fX11_marks_4]
    refine ab_iload_n (pc := 4) (n := 2) (i := 2) (j := 2) (by decide +kernel) rfl rfl ?_
    refine ab_sipush (pc := 5) (n := 255) (v := nI 255) (by decide +kernel) (by decide) ?_
    refine ab_icmp_gt (off := 27) (pc := 8) (tgt := 35) (by decide +kernel) (by decide) (fun g1 => ?_) (fun g1 => ?_)
    · refine ab_iload_n (pc := 11) (n := 2) (i := 2) (j := 2) (by decide +kernel) rfl rfl ?_
      refine ab_iload_n (pc := 12) (n := 1) (i := 1) (j := 1) (by decide +kernel) rfl rfl ?_
      refine ab_callSi (As := [.int x2, .int x1]) (st := []) (pc := 13) lk_X11_269 rfl rfl rfl (by decide) rfl (Nat.le_of_ble_eq_true rfl) (by decide +kernel) (fun y9 e9 => okX11_isFewer hl e9) (fun v2 ev2 => ?_)
      refine ab_if_eq (off := 13) (pc := 16) (tgt := 29) (by decide +kernel) (by decide) (fun g3 => ?_) (fun g3 => ?_)
      · refine ab_iinc (pc := 29) (i := 2) (n := 1) (j := 2) (d := nI 1) (lv' := [(0, .ref x0), (1, .int x1), (2, .int (x2 + nI 1))]) (by decide +kernel) rfl rfl (Nat.le_of_ble_eq_true rfl) rfl rfl ?_
        refine ab_goto (pc := 32) (off := (-28)) (tgt := 4) (by decide +kernel) (by decide) ?_
        exact ih x1 (x2 + nI 1)
      · refine ab_aload_n (pc := 19) (n := 0) (i := 0) (j := 0) (by decide +kernel) rfl rfl ?_
        refine ab_iload_n (pc := 20) (n := 2) (i := 2) (j := 2) (by decide +kernel) rfl rfl ?_
        refine ab_callVi (As := [.int x2]) (st := []) (pc := 21) lk_X11_272_11 rfl rfl rfl (by decide) rfl (Nat.le_of_ble_eq_true rfl) (by decide +kernel) (fun y9 e9 => okX11_partsAllFaces hl (F := F) e9) (fun v4 ev4 => ?_)
        refine ab_if_eq (off := 5) (pc := 24) (tgt := 29) (by decide +kernel) (by decide) (fun g5 => ?_) (fun g5 => ?_)
        · refine ab_iinc (pc := 29) (i := 2) (n := 1) (j := 2) (d := nI 1) (lv' := [(0, .ref x0), (1, .int x1), (2, .int (x2 + nI 1))]) (by decide +kernel) rfl rfl (Nat.le_of_ble_eq_true rfl) rfl rfl ?_
          refine ab_goto (pc := 32) (off := (-28)) (tgt := 4) (by decide +kernel) (by decide) ?_
          exact ih x1 (x2 + nI 1)
        · refine ab_iload_n (pc := 27) (n := 2) (i := 2) (j := 2) (by decide +kernel) rfl rfl ?_
          refine ab_istore_n (pc := 28) (n := 1) (i := 1) (lv' := [(0, .ref x0), (1, .int x2), (2, .int x2)]) (by decide +kernel) rfl (Nat.le_of_ble_eq_true rfl) rfl rfl ?_
          refine ab_iinc (pc := 29) (i := 2) (n := 1) (j := 2) (d := nI 1) (lv' := [(0, .ref x0), (1, .int x2), (2, .int (x2 + nI 1))]) (by decide +kernel) rfl rfl (Nat.le_of_ble_eq_true rfl) rfl rfl ?_
          refine ab_goto (pc := 32) (off := (-28)) (tgt := 4) (by decide +kernel) (by decide) ?_
          exact ih x2 (x2 + nI 1)
    · refine ab_iload_n (pc := 35) (n := 1) (i := 1) (j := 1) (by decide +kernel) rfl rfl ?_
      exact ab_iret (pc := 36) (by decide +kernel) rfl rfl (Nat.le_of_ble_eq_true rfl) (Nat.le_of_ble_eq_true rfl)
set_option maxRecDepth 100000 in
set_option maxHeartbeats 4000000 in
theorem wX11_marks {l : Launch} (hl : l.stackTraces = false) (F : Nat) (x0 : Nat) (h : ab_H) : ab_S l mX11_marks (fun y : Int32 => ((.inl (some (.int y)), h) : ab_R × ab_H)) 0 0 (fX11_marks F x0 h) 0 [(0, .ref x0)] [] h := by
  unfold fX11_marks
  refine ab_iconst (pc := 0) (n := -1) (v := (-1 : Int32)) (by decide +kernel) rfl ?_
  refine ab_istore_n (pc := 1) (n := 1) (i := 1) (lv' := [(0, .ref x0), (1, .int (-1 : Int32))]) (by decide +kernel) rfl (Nat.le_of_ble_eq_true rfl) rfl rfl ?_
  refine ab_iconst (pc := 2) (n := 0) (v := nI 0) (by decide +kernel) rfl ?_
  refine ab_istore_n (pc := 3) (n := 2) (i := 2) (lv' := [(0, .ref x0), (1, .int (-1 : Int32)), (2, .int (nI 0))]) (by decide +kernel) rfl (Nat.le_of_ble_eq_true rfl) rfl rfl ?_
  refine lX11_marks_4 hl F x0 h F (-1 : Int32) (nI 0)
set_option maxRecDepth 100000 in
set_option maxHeartbeats 4000000 in
theorem okX11_marks {l : Launch} (hl : l.stackTraces = false) {F : Nat} {x0 : Nat} {h : ab_H} {y : Int32} (e : fX11_marks F x0 h = some y) : ab_Met l mX11_marks [.ref x0] h (.inl (some (.int y)), h) := ab_ofS (io := (fun y : Int32 => ((.inl (some (.int y)), h) : ab_R × ab_H))) (x := y) hl (by decide) rfl (Nat.le_of_ble_eq_true rfl) (wX11_marks hl F x0 h) e
def mX11_passes : ab_M := (yX11_passes, cX11_passes, 5, (some .int), { frames := 7, cells := 2, slots := 12, locals := 112 })
theorem iX11_passes : ab_MI mX11_passes 2 := ⟨kw_b0244451d5, kw_62b61b7ad3, by decide +kernel⟩
theorem lk_X11_243 : ab_LS RX11 243 mX11_needNumber 3 := ⟨iX11_needNumber, kw_e8918706b1, kw_82507dedd6⟩
def fX11_passes_20 (x0 : Nat) (x1 : Int32) (x2 : Int32) (h : ab_H) : Nat → Int32 → Int32 → Option (Int32 ⊕ String)
  | 0, _, _ => none
  | n + 1, x3, x4 => ab_bd (ab_fr h x0 11 1) fun v3 => ab_bd (ab_fi h v3 8 0) fun v4 => (if x4 < v4 then ab_bd (ab_fr h x0 11 1) fun v6 => ab_bd (ab_fr h v6 8 9) fun v7 => ab_bd (ab_ia 0 h v7 x4) fun v8 => ab_bd (fJ6_bitCount_0f7a4 (v8 ^^^ x1) h) fun v9 => (if v9 ≤ x2 then fX11_passes_20 x0 x1 x2 h n (x3 ||| ((nI 1) <<< (x4 &&& 31))) (x4 + nI 1) else fX11_passes_20 x0 x1 x2 h n x3 (x4 + nI 1)) else some (.inl x3))
def fX11_passes (F : Nat) (x0 : Nat) (x1 : Int32) (x2 : Int32) (h : ab_H) : Option (Int32 ⊕ String) := ab_bx (fX11_needNumber x1 (nI 0) (nI 255) h) (fun E => Sum.inr E) (ab_bx (fX11_needNumber x2 (nI 0) (nI 8) h) (fun E => Sum.inr E) (fX11_passes_20 x0 x1 x2 h F (nI 0) (nI 0)))
set_option maxRecDepth 100000 in
set_option maxHeartbeats 4000000 in
theorem lX11_passes_20 {l : Launch} (hl : l.stackTraces = false) (x0 : Nat) (x1 : Int32) (x2 : Int32) (h : ab_H) : ∀ (n : Nat) (x3 : Int32) (x4 : Int32), ab_S l mX11_passes (fun y : (Int32 ⊕ String) => ((y.elim (fun x => .inl (some (.int x))) (fun E => .inr E), h) : ab_R × ab_H)) 2 12 (fX11_passes_20 x0 x1 x2 h n x3 x4) 20 [(0, .ref x0), (1, .int x1), (2, .int x2), (3, .int x3), (4, .int x4)] [] h := by
  intro n
  induction n with
  | zero =>
    intro x3 x4
    exact ab_none
  | succ n ih =>
    intro x3 x4
    rw [fX11_passes_20]
    refine ab_iload (pc := 20) (i := 4) (j := 4) (by decide +kernel) rfl ?_
    refine ab_aload_n (pc := 22) (n := 0) (i := 0) (j := 0) (by decide +kernel) rfl rfl ?_
    refine ab_getR (pc := 23) fl_X11_26_11 (by decide +kernel) (fun v3 ev3 => ?_)
    refine ab_getI (pc := 26) fl_X11_180_8 (by decide +kernel) (fun v4 ev4 => ?_)
    refine ab_icmp_ge (off := 35) (pc := 29) (tgt := 64) (by decide +kernel) (by decide) (fun g5 => ?_) (fun g5 => ?_)
    · refine ab_aload_n (pc := 32) (n := 0) (i := 0) (j := 0) (by decide +kernel) rfl rfl ?_
      refine ab_getR (pc := 33) fl_X11_26_11 (by decide +kernel) (fun v6 ev6 => ?_)
      refine ab_getR (pc := 36) fl_X11_159_8 (by decide +kernel) (fun v7 ev7 => ?_)
      refine ab_iload (pc := 39) (i := 4) (j := 4) (by decide +kernel) rfl ?_
      refine ab_iald (pc := 41) (by decide +kernel) (fun v8 ev8 => ?_)
      refine ab_iload_n (pc := 42) (n := 1) (i := 1) (j := 1) (by decide +kernel) rfl rfl ?_
      refine ab_ixor (pc := 43) (by decide +kernel) ?_
      refine ab_callSi (As := [.int (v8 ^^^ x1)]) (st := []) (pc := 44) lk_X11_230 rfl rfl rfl (by decide) rfl (Nat.le_of_ble_eq_true rfl) (by decide +kernel) (fun y9 e9 => okJ6_bitCount_0f7a4 hl e9) (fun v9 ev9 => ?_)
      refine ab_iload_n (pc := 47) (n := 2) (i := 2) (j := 2) (by decide +kernel) rfl rfl ?_
      refine ab_icmp_gt (off := 10) (pc := 48) (tgt := 58) (by decide +kernel) (by decide) (fun g10 => ?_) (fun g10 => ?_)
      · refine ab_iload_n (pc := 51) (n := 3) (i := 3) (j := 3) (by decide +kernel) rfl rfl ?_
        refine ab_iconst (pc := 52) (n := 1) (v := nI 1) (by decide +kernel) rfl ?_
        refine ab_iload (pc := 53) (i := 4) (j := 4) (by decide +kernel) rfl ?_
        refine ab_ishl (pc := 55) (by decide +kernel) ?_
        refine ab_ior (pc := 56) (by decide +kernel) ?_
        refine ab_istore_n (pc := 57) (n := 3) (i := 3) (lv' := [(0, .ref x0), (1, .int x1), (2, .int x2), (3, .int (x3 ||| ((nI 1) <<< (x4 &&& 31)))), (4, .int x4)]) (by decide +kernel) rfl (Nat.le_of_ble_eq_true rfl) rfl rfl ?_
        refine ab_iinc (pc := 58) (i := 4) (n := 1) (j := 4) (d := nI 1) (lv' := [(0, .ref x0), (1, .int x1), (2, .int x2), (3, .int (x3 ||| ((nI 1) <<< (x4 &&& 31)))), (4, .int (x4 + nI 1))]) (by decide +kernel) rfl rfl (Nat.le_of_ble_eq_true rfl) rfl rfl ?_
        refine ab_goto (pc := 61) (off := (-41)) (tgt := 20) (by decide +kernel) (by decide) ?_
        exact ih (x3 ||| ((nI 1) <<< (x4 &&& 31))) (x4 + nI 1)
      · refine ab_iinc (pc := 58) (i := 4) (n := 1) (j := 4) (d := nI 1) (lv' := [(0, .ref x0), (1, .int x1), (2, .int x2), (3, .int x3), (4, .int (x4 + nI 1))]) (by decide +kernel) rfl rfl (Nat.le_of_ble_eq_true rfl) rfl rfl ?_
        refine ab_goto (pc := 61) (off := (-41)) (tgt := 20) (by decide +kernel) (by decide) ?_
        exact ih x3 (x4 + nI 1)
    · refine ab_iload_n (pc := 64) (n := 3) (i := 3) (j := 3) (by decide +kernel) rfl rfl ?_
      exact ab_iret (pc := 65) (by decide +kernel) rfl rfl (Nat.le_of_ble_eq_true rfl) (Nat.le_of_ble_eq_true rfl)
set_option maxRecDepth 100000 in
set_option maxHeartbeats 4000000 in
theorem wX11_passes {l : Launch} (hl : l.stackTraces = false) (F : Nat) (x0 : Nat) (x1 : Int32) (x2 : Int32) (h : ab_H) : ab_S l mX11_passes (fun y : (Int32 ⊕ String) => ((y.elim (fun x => .inl (some (.int x))) (fun E => .inr E), h) : ab_R × ab_H)) 0 0 (fX11_passes F x0 x1 x2 h) 0 [(0, .ref x0), (1, .int x1), (2, .int x2)] [] h := by
  unfold fX11_passes
  refine ab_iload_n (pc := 0) (n := 1) (i := 1) (j := 1) (by decide +kernel) rfl rfl ?_
  refine ab_iconst (pc := 1) (n := 0) (v := nI 0) (by decide +kernel) rfl ?_
  refine ab_sipush (pc := 2) (n := 255) (v := nI 255) (by decide +kernel) (by decide) ?_
  refine ab_callSt (As := [.int x1, .int (nI 0), .int (nI 255)]) (st := []) (thr := (fun E => Sum.inr E)) (pc := 5) lk_X11_243 (fun _ => rfl) rfl (by decide) rfl (Nat.le_of_ble_eq_true rfl) (by decide +kernel) (fun y9 e9 => okX11_needNumber hl e9) ?_
  refine ab_iload_n (pc := 8) (n := 2) (i := 2) (j := 2) (by decide +kernel) rfl rfl ?_
  refine ab_iconst (pc := 9) (n := 0) (v := nI 0) (by decide +kernel) rfl ?_
  refine ab_bipush (pc := 10) (n := 8) (v := nI 8) (by decide +kernel) (by decide) ?_
  refine ab_callSt (As := [.int x2, .int (nI 0), .int (nI 8)]) (st := []) (thr := (fun E => Sum.inr E)) (pc := 12) lk_X11_243 (fun _ => rfl) rfl (by decide) rfl (Nat.le_of_ble_eq_true rfl) (by decide +kernel) (fun y9 e9 => okX11_needNumber hl e9) ?_
  refine ab_iconst (pc := 15) (n := 0) (v := nI 0) (by decide +kernel) rfl ?_
  refine ab_istore_n (pc := 16) (n := 3) (i := 3) (lv' := [(0, .ref x0), (1, .int x1), (2, .int x2), (3, .int (nI 0))]) (by decide +kernel) rfl (Nat.le_of_ble_eq_true rfl) rfl rfl ?_
  refine ab_iconst (pc := 17) (n := 0) (v := nI 0) (by decide +kernel) rfl ?_
  refine ab_istore (pc := 18) (i := 4) (lv' := [(0, .ref x0), (1, .int x1), (2, .int x2), (3, .int (nI 0)), (4, .int (nI 0))]) (by decide +kernel) (Nat.le_of_ble_eq_true rfl) rfl rfl ?_
  refine lX11_passes_20 hl x0 x1 x2 h F (nI 0) (nI 0)
set_option maxRecDepth 100000 in
set_option maxHeartbeats 4000000 in
theorem okX11_passes {l : Launch} (hl : l.stackTraces = false) {F : Nat} {x0 : Nat} {x1 : Int32} {x2 : Int32} {h : ab_H} {y : (Int32 ⊕ String)} (e : fX11_passes F x0 x1 x2 h = some y) : ab_Met l mX11_passes [.ref x0, .int x1, .int x2] h ((fun y : (Int32 ⊕ String) => ((y.elim (fun x => .inl (some (.int x))) (fun E => .inr E), h) : ab_R × ab_H)) y) := ab_ofS (io := (fun y : (Int32 ⊕ String) => ((y.elim (fun x => .inl (some (.int x))) (fun E => .inr E), h) : ab_R × ab_H))) (x := y) hl (by decide) rfl (Nat.le_of_ble_eq_true rfl) (wX11_passes hl F x0 x1 x2 h) e
def mX11_marksTogether : ab_M := (yX11_marksTogether, cX11_marksTogether, 4, (some .int), { frames := 1, cells := 0, slots := 0, locals := 21 })
theorem iX11_marksTogether : ab_MI mX11_marksTogether 1 := ⟨kw_312ec42c34, kw_62b61b7ad3, by decide +kernel⟩
def fX11_marksTogether_4 (x0 : Nat) (x1 : Int32) (h : ab_H) : Nat → Int32 → Int32 → Option Int32
  | 0, _, _ => none
  | n + 1, x2, x3 => ab_bd (ab_fr h x0 11 1) fun v1 => ab_bd (ab_fi h v1 8 0) fun v2 => (if x3 < v2 then ab_bd (fX11_has x1 x3 h) fun v4 => (if v4 = 0 then fX11_marksTogether_4 x0 x1 h n x2 (x3 + nI 1) else ab_bd (ab_fr h x0 11 1) fun v6 => ab_bd (ab_fr h v6 8 9) fun v7 => ab_bd (ab_ia 0 h v7 x3) fun v8 => fX11_marksTogether_4 x0 x1 h n (x2 ||| v8) (x3 + nI 1)) else some x2)
def fX11_marksTogether (F : Nat) (x0 : Nat) (x1 : Int32) (h : ab_H) : Option Int32 := fX11_marksTogether_4 x0 x1 h F (nI 0) (nI 0)
set_option maxRecDepth 100000 in
set_option maxHeartbeats 4000000 in
theorem lX11_marksTogether_4 {l : Launch} (hl : l.stackTraces = false) (x0 : Nat) (x1 : Int32) (h : ab_H) : ∀ (n : Nat) (x2 : Int32) (x3 : Int32), ab_S l mX11_marksTogether (fun y : Int32 => ((.inl (some (.int y)), h) : ab_R × ab_H)) 0 0 (fX11_marksTogether_4 x0 x1 h n x2 x3) 4 [(0, .ref x0), (1, .int x1), (2, .int x2), (3, .int x3)] [] h := by
  intro n
  induction n with
  | zero =>
    intro x2 x3
    exact ab_none
  | succ n ih =>
    intro x2 x3
    rw [fX11_marksTogether_4]
    refine ab_iload_n (pc := 4) (n := 3) (i := 3) (j := 3) (by decide +kernel) rfl rfl ?_
    refine ab_aload_n (pc := 5) (n := 0) (i := 0) (j := 0) (by decide +kernel) rfl rfl ?_
    refine ab_getR (pc := 6) fl_X11_26_11 (by decide +kernel) (fun v1 ev1 => ?_)
    refine ab_getI (pc := 9) fl_X11_180_8 (by decide +kernel) (fun v2 ev2 => ?_)
    refine ab_icmp_ge (off := 29) (pc := 12) (tgt := 41) (by decide +kernel) (by decide) (fun g3 => ?_) (fun g3 => ?_)
    · refine ab_iload_n (pc := 15) (n := 1) (i := 1) (j := 1) (by decide +kernel) rfl rfl ?_
      refine ab_iload_n (pc := 16) (n := 3) (i := 3) (j := 3) (by decide +kernel) rfl rfl ?_
      refine ab_callSi (As := [.int x1, .int x3]) (st := []) (pc := 17) lk_X11_224 rfl rfl rfl (by decide) rfl (Nat.le_of_ble_eq_true rfl) (by decide +kernel) (fun y9 e9 => okX11_has hl e9) (fun v4 ev4 => ?_)
      refine ab_if_eq (off := 15) (pc := 20) (tgt := 35) (by decide +kernel) (by decide) (fun g5 => ?_) (fun g5 => ?_)
      · refine ab_iinc (pc := 35) (i := 3) (n := 1) (j := 3) (d := nI 1) (lv' := [(0, .ref x0), (1, .int x1), (2, .int x2), (3, .int (x3 + nI 1))]) (by decide +kernel) rfl rfl (Nat.le_of_ble_eq_true rfl) rfl rfl ?_
        refine ab_goto (pc := 38) (off := (-34)) (tgt := 4) (by decide +kernel) (by decide) ?_
        exact ih x2 (x3 + nI 1)
      · refine ab_iload_n (pc := 23) (n := 2) (i := 2) (j := 2) (by decide +kernel) rfl rfl ?_
        refine ab_aload_n (pc := 24) (n := 0) (i := 0) (j := 0) (by decide +kernel) rfl rfl ?_
        refine ab_getR (pc := 25) fl_X11_26_11 (by decide +kernel) (fun v6 ev6 => ?_)
        refine ab_getR (pc := 28) fl_X11_159_8 (by decide +kernel) (fun v7 ev7 => ?_)
        refine ab_iload_n (pc := 31) (n := 3) (i := 3) (j := 3) (by decide +kernel) rfl rfl ?_
        refine ab_iald (pc := 32) (by decide +kernel) (fun v8 ev8 => ?_)
        refine ab_ior (pc := 33) (by decide +kernel) ?_
        refine ab_istore_n (pc := 34) (n := 2) (i := 2) (lv' := [(0, .ref x0), (1, .int x1), (2, .int (x2 ||| v8)), (3, .int x3)]) (by decide +kernel) rfl (Nat.le_of_ble_eq_true rfl) rfl rfl ?_
        refine ab_iinc (pc := 35) (i := 3) (n := 1) (j := 3) (d := nI 1) (lv' := [(0, .ref x0), (1, .int x1), (2, .int (x2 ||| v8)), (3, .int (x3 + nI 1))]) (by decide +kernel) rfl rfl (Nat.le_of_ble_eq_true rfl) rfl rfl ?_
        refine ab_goto (pc := 38) (off := (-34)) (tgt := 4) (by decide +kernel) (by decide) ?_
        exact ih (x2 ||| v8) (x3 + nI 1)
    · refine ab_iload_n (pc := 41) (n := 2) (i := 2) (j := 2) (by decide +kernel) rfl rfl ?_
      exact ab_iret (pc := 42) (by decide +kernel) rfl rfl (Nat.le_of_ble_eq_true rfl) (Nat.le_of_ble_eq_true rfl)
set_option maxRecDepth 100000 in
set_option maxHeartbeats 4000000 in
theorem wX11_marksTogether {l : Launch} (hl : l.stackTraces = false) (F : Nat) (x0 : Nat) (x1 : Int32) (h : ab_H) : ab_S l mX11_marksTogether (fun y : Int32 => ((.inl (some (.int y)), h) : ab_R × ab_H)) 0 0 (fX11_marksTogether F x0 x1 h) 0 [(0, .ref x0), (1, .int x1)] [] h := by
  unfold fX11_marksTogether
  refine ab_iconst (pc := 0) (n := 0) (v := nI 0) (by decide +kernel) rfl ?_
  refine ab_istore_n (pc := 1) (n := 2) (i := 2) (lv' := [(0, .ref x0), (1, .int x1), (2, .int (nI 0))]) (by decide +kernel) rfl (Nat.le_of_ble_eq_true rfl) rfl rfl ?_
  refine ab_iconst (pc := 2) (n := 0) (v := nI 0) (by decide +kernel) rfl ?_
  refine ab_istore_n (pc := 3) (n := 3) (i := 3) (lv' := [(0, .ref x0), (1, .int x1), (2, .int (nI 0)), (3, .int (nI 0))]) (by decide +kernel) rfl (Nat.le_of_ble_eq_true rfl) rfl rfl ?_
  refine lX11_marksTogether_4 hl x0 x1 h F (nI 0) (nI 0)
set_option maxRecDepth 100000 in
set_option maxHeartbeats 4000000 in
theorem okX11_marksTogether {l : Launch} (hl : l.stackTraces = false) {F : Nat} {x0 : Nat} {x1 : Int32} {h : ab_H} {y : Int32} (e : fX11_marksTogether F x0 x1 h = some y) : ab_Met l mX11_marksTogether [.ref x0, .int x1] h (.inl (some (.int y)), h) := ab_ofS (io := (fun y : Int32 => ((.inl (some (.int y)), h) : ab_R × ab_H))) (x := y) hl (by decide) rfl (Nat.le_of_ble_eq_true rfl) (wX11_marksTogether hl F x0 x1 h) e
def mX11_queue : ab_M := (yX11_queue, cX11_queue, 3, (some .int), { frames := 1, cells := 0, slots := 0, locals := 24 })
theorem iX11_queue : ab_MI mX11_queue 1 := ⟨kw_04598ded97, kw_62b61b7ad3, by decide +kernel⟩
theorem lk_X11_313_11 : ab_LV RX11 313 11 mX11_minutesAlongTheRow 0 := ⟨RX11, rfl, iX11_minutesAlongTheRow, kw_5cc98e091f, kw_39d8b77805, kw_ffa070594e⟩
theorem lk_X11_316_11 : ab_LV RX11 316 11 mX11_servedAheadOf 1 := ⟨RX11, rfl, iX11_servedAheadOf, kw_e418ba8b5b, kw_18c30ab7dd, kw_969ec9703f⟩
def fX11_queue_12 (F : Nat) (x0 : Nat) (x1 : Int32) (h : ab_H) : Nat → Int32 → Option Int32
  | 0, _ => none
  | n + 1, x2 => ab_bd (ab_fr h x0 11 1) fun v3 => ab_bd (ab_fi h v3 8 0) fun v4 => (if x2 < v4 then ab_bd (ab_fr h x0 11 1) fun v6 => ab_bd (ab_fr h v6 8 12) fun v7 => ab_bd (ab_ia 0 h v7 x2) fun v8 => (if v8 = (-1 : Int32) then fX11_queue_12 F x0 x1 h n (x2 + nI 1) else ab_ck (ab_io h x0 11 = true) (ab_bd (fX11_servedAheadOf F x0 x2 h) fun v10 => (if v10 = x1 then some x2 else fX11_queue_12 F x0 x1 h n (x2 + nI 1)))) else some (-1 : Int32))
def fX11_queue (F : Nat) (x0 : Nat) (x1 : Int32) (h : ab_H) : Option Int32 := (if x1 = (-1 : Int32) then ab_ck (ab_io h x0 11 = true) (ab_bd (fX11_minutesAlongTheRow F x0 h) fun v2 => some v2) else fX11_queue_12 F x0 x1 h F (nI 0))
set_option maxRecDepth 100000 in
set_option maxHeartbeats 4000000 in
theorem lX11_queue_12 {l : Launch} (hl : l.stackTraces = false) (F : Nat) (x0 : Nat) (x1 : Int32) (h : ab_H) : ∀ (n : Nat) (x2 : Int32), ab_S l mX11_queue (fun y : Int32 => ((.inl (some (.int y)), h) : ab_R × ab_H)) 0 0 (fX11_queue_12 F x0 x1 h n x2) 12 [(0, .ref x0), (1, .int x1), (2, .int x2)] [] h := by
  intro n
  induction n with
  | zero =>
    intro x2
    exact ab_none
  | succ n ih =>
    intro x2
    rw [fX11_queue_12]
    refine ab_iload_n (pc := 12) (n := 2) (i := 2) (j := 2) (by decide +kernel) rfl rfl ?_
    refine ab_aload_n (pc := 13) (n := 0) (i := 0) (j := 0) (by decide +kernel) rfl rfl ?_
    refine ab_getR (pc := 14) fl_X11_26_11 (by decide +kernel) (fun v3 ev3 => ?_)
    refine ab_getI (pc := 17) fl_X11_180_8 (by decide +kernel) (fun v4 ev4 => ?_)
    refine ab_icmp_ge (off := 33) (pc := 20) (tgt := 53) (by decide +kernel) (by decide) (fun g5 => ?_) (fun g5 => ?_)
    · refine ab_aload_n (pc := 23) (n := 0) (i := 0) (j := 0) (by decide +kernel) rfl rfl ?_
      refine ab_getR (pc := 24) fl_X11_26_11 (by decide +kernel) (fun v6 ev6 => ?_)
      refine ab_getR (pc := 27) fl_X11_141_8 (by decide +kernel) (fun v7 ev7 => ?_)
      refine ab_iload_n (pc := 30) (n := 2) (i := 2) (j := 2) (by decide +kernel) rfl rfl ?_
      refine ab_iald (pc := 31) (by decide +kernel) (fun v8 ev8 => ?_)
      refine ab_iconst (pc := 32) (n := -1) (v := (-1 : Int32)) (by decide +kernel) rfl ?_
      refine ab_icmp_eq (off := 14) (pc := 33) (tgt := 47) (by decide +kernel) (by decide) (fun g9 => ?_) (fun g9 => ?_)
      · refine ab_iinc (pc := 47) (i := 2) (n := 1) (j := 2) (d := nI 1) (lv' := [(0, .ref x0), (1, .int x1), (2, .int (x2 + nI 1))]) (by decide +kernel) rfl rfl (Nat.le_of_ble_eq_true rfl) rfl rfl ?_
        refine ab_goto (pc := 50) (off := (-38)) (tgt := 12) (by decide +kernel) (by decide) ?_
        exact ih (x2 + nI 1)
      · refine ab_aload_n (pc := 36) (n := 0) (i := 0) (j := 0) (by decide +kernel) rfl rfl ?_
        refine ab_iload_n (pc := 37) (n := 2) (i := 2) (j := 2) (by decide +kernel) rfl rfl ?_
        refine ab_callVi (As := [.int x2]) (st := []) (pc := 38) lk_X11_316_11 rfl rfl rfl (by decide) rfl (Nat.le_of_ble_eq_true rfl) (by decide +kernel) (fun y9 e9 => okX11_servedAheadOf hl (F := F) e9) (fun v10 ev10 => ?_)
        refine ab_iload_n (pc := 41) (n := 1) (i := 1) (j := 1) (by decide +kernel) rfl rfl ?_
        refine ab_icmp_ne (off := 5) (pc := 42) (tgt := 47) (by decide +kernel) (by decide) (fun g11 => ?_) (fun g11 => ?_)
        · refine ab_iload_n (pc := 45) (n := 2) (i := 2) (j := 2) (by decide +kernel) rfl rfl ?_
          exact ab_iret (pc := 46) (by decide +kernel) rfl rfl (Nat.le_of_ble_eq_true rfl) (Nat.le_of_ble_eq_true rfl)
        · refine ab_iinc (pc := 47) (i := 2) (n := 1) (j := 2) (d := nI 1) (lv' := [(0, .ref x0), (1, .int x1), (2, .int (x2 + nI 1))]) (by decide +kernel) rfl rfl (Nat.le_of_ble_eq_true rfl) rfl rfl ?_
          refine ab_goto (pc := 50) (off := (-38)) (tgt := 12) (by decide +kernel) (by decide) ?_
          exact ih (x2 + nI 1)
    · refine ab_iconst (pc := 53) (n := -1) (v := (-1 : Int32)) (by decide +kernel) rfl ?_
      exact ab_iret (pc := 54) (by decide +kernel) rfl rfl (Nat.le_of_ble_eq_true rfl) (Nat.le_of_ble_eq_true rfl)
set_option maxRecDepth 100000 in
set_option maxHeartbeats 4000000 in
theorem wX11_queue {l : Launch} (hl : l.stackTraces = false) (F : Nat) (x0 : Nat) (x1 : Int32) (h : ab_H) : ab_S l mX11_queue (fun y : Int32 => ((.inl (some (.int y)), h) : ab_R × ab_H)) 0 0 (fX11_queue F x0 x1 h) 0 [(0, .ref x0), (1, .int x1)] [] h := by
  unfold fX11_queue
  refine ab_iload_n (pc := 0) (n := 1) (i := 1) (j := 1) (by decide +kernel) rfl rfl ?_
  refine ab_iconst (pc := 1) (n := -1) (v := (-1 : Int32)) (by decide +kernel) rfl ?_
  refine ab_icmp_ne (off := 8) (pc := 2) (tgt := 10) (by decide +kernel) (by decide) (fun g1 => ?_) (fun g1 => ?_)
  · refine ab_aload_n (pc := 5) (n := 0) (i := 0) (j := 0) (by decide +kernel) rfl rfl ?_
    refine ab_callVi (As := []) (st := []) (pc := 6) lk_X11_313_11 rfl rfl rfl (by decide) rfl (Nat.le_of_ble_eq_true rfl) (by decide +kernel) (fun y9 e9 => okX11_minutesAlongTheRow hl (F := F) e9) (fun v2 ev2 => ?_)
    exact ab_iret (pc := 9) (by decide +kernel) rfl rfl (Nat.le_of_ble_eq_true rfl) (Nat.le_of_ble_eq_true rfl)
  · refine ab_iconst (pc := 10) (n := 0) (v := nI 0) (by decide +kernel) rfl ?_
    refine ab_istore_n (pc := 11) (n := 2) (i := 2) (lv' := [(0, .ref x0), (1, .int x1), (2, .int (nI 0))]) (by decide +kernel) rfl (Nat.le_of_ble_eq_true rfl) rfl rfl ?_
    refine lX11_queue_12 hl F x0 x1 h F (nI 0)
set_option maxRecDepth 100000 in
set_option maxHeartbeats 4000000 in
theorem okX11_queue {l : Launch} (hl : l.stackTraces = false) {F : Nat} {x0 : Nat} {x1 : Int32} {h : ab_H} {y : Int32} (e : fX11_queue F x0 x1 h = some y) : ab_Met l mX11_queue [.ref x0, .int x1] h (.inl (some (.int y)), h) := ab_ofS (io := (fun y : Int32 => ((.inl (some (.int y)), h) : ab_R × ab_H))) (x := y) hl (by decide) rfl (Nat.le_of_ble_eq_true rfl) (wX11_queue hl F x0 x1 h) e
def mX11_ways : ab_M := (yX11_ways, cX11_ways, 3, (some .int), { frames := 7, cells := 1, slots := 6, locals := 112 })
theorem iX11_ways : ab_MI mX11_ways 1 := ⟨kw_6401ef1d56, kw_62b61b7ad3, by decide +kernel⟩
theorem lk_X11_322 : ab_LS RX11 322 mX11_chosen 2 := ⟨iX11_chosen, kw_1c4abae796, kw_7d33d659eb⟩
theorem lk_X11_325 : ab_LS RX11 325 mX11_allElsewhere 1 := ⟨iX11_allElsewhere, kw_bf483c2433, kw_5126f29f14⟩
def fX11_ways (F : Nat) (x0 : Nat) (x1 : Int32) (h : ab_H) : Option (Int32 ⊕ String) := ab_bx (fX11_needNumber x1 (nI 0) (nI 10) h) (fun E => Sum.inr E) (ab_bd (ab_fr h x0 11 1) fun v2 => ab_ck (ab_io h v2 8 = true) (ab_bd (fX8_ticketHolders F v2 h) fun v3 => ab_bd (fJ6_bitCount_0f7a4 v3 h) fun v4 => (if x1 ≤ v4 then ab_bd (fX11_chosen F v4 x1 h) fun v6 => ab_bd (fX11_allElsewhere F (v4 - x1) h) fun v7 => some (.inl (v6 * v7)) else some (.inl (nI 0)))))
set_option maxRecDepth 100000 in
set_option maxHeartbeats 4000000 in
theorem wX11_ways {l : Launch} (hl : l.stackTraces = false) (F : Nat) (x0 : Nat) (x1 : Int32) (h : ab_H) : ab_S l mX11_ways (fun y : (Int32 ⊕ String) => ((y.elim (fun x => .inl (some (.int x))) (fun E => .inr E), h) : ab_R × ab_H)) 0 0 (fX11_ways F x0 x1 h) 0 [(0, .ref x0), (1, .int x1)] [] h := by
  unfold fX11_ways
  refine ab_iload_n (pc := 0) (n := 1) (i := 1) (j := 1) (by decide +kernel) rfl rfl ?_
  refine ab_iconst (pc := 1) (n := 0) (v := nI 0) (by decide +kernel) rfl ?_
  refine ab_bipush (pc := 2) (n := 10) (v := nI 10) (by decide +kernel) (by decide) ?_
  refine ab_callSt (As := [.int x1, .int (nI 0), .int (nI 10)]) (st := []) (thr := (fun E => Sum.inr E)) (pc := 4) lk_X11_243 (fun _ => rfl) rfl (by decide) rfl (Nat.le_of_ble_eq_true rfl) (by decide +kernel) (fun y9 e9 => okX11_needNumber hl e9) ?_
  refine ab_aload_n (pc := 7) (n := 0) (i := 0) (j := 0) (by decide +kernel) rfl rfl ?_
  refine ab_getR (pc := 8) fl_X11_26_11 (by decide +kernel) (fun v2 ev2 => ?_)
  refine ab_callVi (As := []) (st := []) (pc := 11) lk_X11_319_8 rfl rfl rfl (by decide) rfl (Nat.le_of_ble_eq_true rfl) (by decide +kernel) (fun y9 e9 => okX8_ticketHolders hl (F := F) e9) (fun v3 ev3 => ?_)
  refine ab_callSi (As := [.int v3]) (st := []) (pc := 14) lk_X11_230 rfl rfl rfl (by decide) rfl (Nat.le_of_ble_eq_true rfl) (by decide +kernel) (fun y9 e9 => okJ6_bitCount_0f7a4 hl e9) (fun v4 ev4 => ?_)
  refine ab_istore_n (pc := 17) (n := 2) (i := 2) (lv' := [(0, .ref x0), (1, .int x1), (2, .int v4)]) (by decide +kernel) rfl (Nat.le_of_ble_eq_true rfl) rfl rfl ?_
  refine ab_iload_n (pc := 18) (n := 1) (i := 1) (j := 1) (by decide +kernel) rfl rfl ?_
  refine ab_iload_n (pc := 19) (n := 2) (i := 2) (j := 2) (by decide +kernel) rfl rfl ?_
  refine ab_icmp_le (off := 7) (pc := 20) (tgt := 27) (by decide +kernel) (by decide) (fun g5 => ?_) (fun g5 => ?_)
  · refine ab_iload_n (pc := 27) (n := 2) (i := 2) (j := 2) (by decide +kernel) rfl rfl ?_
    refine ab_iload_n (pc := 28) (n := 1) (i := 1) (j := 1) (by decide +kernel) rfl rfl ?_
    refine ab_callSi (As := [.int v4, .int x1]) (st := []) (pc := 29) lk_X11_322 rfl rfl rfl (by decide) rfl (Nat.le_of_ble_eq_true rfl) (by decide +kernel) (fun y9 e9 => okX11_chosen hl (F := F) e9) (fun v6 ev6 => ?_)
    refine ab_iload_n (pc := 32) (n := 2) (i := 2) (j := 2) (by decide +kernel) rfl rfl ?_
    refine ab_iload_n (pc := 33) (n := 1) (i := 1) (j := 1) (by decide +kernel) rfl rfl ?_
    refine ab_isub (pc := 34) (by decide +kernel) ?_
    refine ab_callSi (As := [.int (v4 - x1)]) (st := [.int v6]) (pc := 35) lk_X11_325 rfl rfl rfl (by decide) rfl (Nat.le_of_ble_eq_true rfl) (by decide +kernel) (fun y9 e9 => okX11_allElsewhere hl (F := F) e9) (fun v7 ev7 => ?_)
    refine ab_imul (pc := 38) (by decide +kernel) ?_
    exact ab_iret (pc := 39) (by decide +kernel) rfl rfl (Nat.le_of_ble_eq_true rfl) (Nat.le_of_ble_eq_true rfl)
  · refine ab_iconst (pc := 23) (n := 0) (v := nI 0) (by decide +kernel) rfl ?_
    refine ab_goto (pc := 24) (off := 15) (tgt := 39) (by decide +kernel) (by decide) ?_
    exact ab_iret (pc := 39) (by decide +kernel) rfl rfl (Nat.le_of_ble_eq_true rfl) (Nat.le_of_ble_eq_true rfl)
set_option maxRecDepth 100000 in
set_option maxHeartbeats 4000000 in
theorem okX11_ways {l : Launch} (hl : l.stackTraces = false) {F : Nat} {x0 : Nat} {x1 : Int32} {h : ab_H} {y : (Int32 ⊕ String)} (e : fX11_ways F x0 x1 h = some y) : ab_Met l mX11_ways [.ref x0, .int x1] h ((fun y : (Int32 ⊕ String) => ((y.elim (fun x => .inl (some (.int x))) (fun E => .inr E), h) : ab_R × ab_H)) y) := ab_ofS (io := (fun y : (Int32 ⊕ String) => ((y.elim (fun x => .inl (some (.int x))) (fun E => .inr E), h) : ab_R × ab_H))) (x := y) hl (by decide) rfl (Nat.le_of_ble_eq_true rfl) (wX11_ways hl F x0 x1 h) e
def mX11_talk : ab_M := (yX11_talk, cX11_talk, 4, (some .int), { frames := 7, cells := 1, slots := 6, locals := 111 })
theorem iX11_talk : ab_MI mX11_talk 1 := ⟨kw_295c30c4f3, kw_62b61b7ad3, by decide +kernel⟩
def fX11_talk_9 (F : Nat) (x0 : Nat) (x1 : Int32) (h : ab_H) (k46 : Int32 → Option (Int32 ⊕ String)) : Nat → Int32 → Int32 → Option (Int32 ⊕ String)
  | 0, _, _ => none
  | n + 1, x2, x3 => (if x3 < 0 then k46 x2 else ab_bd (ab_fr h x0 11 1) fun v3 => ab_bd (ab_fr h v3 8 17) fun v4 => ab_bd (ab_ia 0 h v4 x3) fun v5 => (if v5 = (-1 : Int32) then k46 x2 else ab_bd (ab_fr h x0 11 1) fun v7 => ab_bd (ab_fr h v7 8 17) fun v8 => ab_bd (ab_ia 0 h v8 x3) fun v9 => fX11_talk_9 F x0 x1 h k46 n (x2 ||| ((nI 1) <<< (v9 &&& 31))) (x3 + (-1 : Int32))))
def fX11_talk_48 (F : Nat) (x0 : Nat) (h : ab_H) : Nat → Int32 → Int32 → Option (Int32 ⊕ String)
  | 0, _, _ => none
  | n + 1, x2, x3 => ab_bd (ab_fr h x0 11 1) fun v11 => ab_bd (ab_fi h v11 8 1) fun v12 => (if x3 < v12 then ab_bd (ab_fr h x0 11 1) fun v14 => ab_bd (ab_fr h v14 8 17) fun v15 => ab_bd (ab_ia 0 h v15 x3) fun v16 => (if v16 = (-1 : Int32) then some (.inl x2) else ab_bd (ab_fr h x0 11 1) fun v18 => ab_bd (ab_fr h v18 8 17) fun v19 => ab_bd (ab_ia 0 h v19 x3) fun v20 => fX11_talk_48 F x0 h n (x2 ||| ((nI 1) <<< (v20 &&& 31))) (x3 + nI 1)) else some (.inl x2))
def fX11_talk (F : Nat) (x0 : Nat) (x1 : Int32) (h : ab_H) : Option (Int32 ⊕ String) := ab_ck (ab_io h x0 11 = true) (ab_bx (fX11_needHook x0 x1 h) (fun E => Sum.inr E) (fX11_talk_9 F x0 x1 h (fun (z10 : Int32) => fX11_talk_48 F x0 h F z10 x1) F (nI 0) x1))
set_option maxRecDepth 100000 in
set_option maxHeartbeats 4000000 in
theorem lX11_talk_9 {l : Launch} (hl : l.stackTraces = false) (F : Nat) (x0 : Nat) (x1 : Int32) (h : ab_H) {k46 : Int32 → Option (Int32 ⊕ String)} (hk46 : ∀ (x2 : Int32), ab_S l mX11_talk (fun y : (Int32 ⊕ String) => ((y.elim (fun x => .inl (some (.int x))) (fun E => .inr E), h) : ab_R × ab_H)) 1 6 (k46 x2) 46 [(0, .ref x0), (1, .int x1), (2, .int x2)] [] h) : ∀ (n : Nat) (x2 : Int32) (x3 : Int32), ab_S l mX11_talk (fun y : (Int32 ⊕ String) => ((y.elim (fun x => .inl (some (.int x))) (fun E => .inr E), h) : ab_R × ab_H)) 1 6 (fX11_talk_9 F x0 x1 h k46 n x2 x3) 9 [(0, .ref x0), (1, .int x1), (2, .int x2), (3, .int x3)] [] h := by
  intro n
  induction n with
  | zero =>
    intro x2 x3
    exact ab_none
  | succ n ih =>
    intro x2 x3
    rw [fX11_talk_9]
    refine ab_iload_n (pc := 9) (n := 3) (i := 3) (j := 3) (by decide +kernel) rfl rfl ?_
    refine ab_if_lt (off := 36) (pc := 10) (tgt := 46) (by decide +kernel) (by decide) (fun g2 => ?_) (fun g2 => ?_)
    · refine ab_few [0, 1, 2] (lv' := [(0, .ref x0), (1, .int x1), (2, .int x2)]) rfl ?_
      exact hk46 x2
    · refine ab_aload_n (pc := 13) (n := 0) (i := 0) (j := 0) (by decide +kernel) rfl rfl ?_
      refine ab_getR (pc := 14) fl_X11_26_11 (by decide +kernel) (fun v3 ev3 => ?_)
      refine ab_getR (pc := 17) fl_X11_177_8 (by decide +kernel) (fun v4 ev4 => ?_)
      refine ab_iload_n (pc := 20) (n := 3) (i := 3) (j := 3) (by decide +kernel) rfl rfl ?_
      refine ab_iald (pc := 21) (by decide +kernel) (fun v5 ev5 => ?_)
      refine ab_iconst (pc := 22) (n := -1) (v := (-1 : Int32)) (by decide +kernel) rfl ?_
      refine ab_icmp_eq (off := 23) (pc := 23) (tgt := 46) (by decide +kernel) (by decide) (fun g6 => ?_) (fun g6 => ?_)
      · refine ab_few [0, 1, 2] (lv' := [(0, .ref x0), (1, .int x1), (2, .int x2)]) rfl ?_
        exact hk46 x2
      · refine ab_iload_n (pc := 26) (n := 2) (i := 2) (j := 2) (by decide +kernel) rfl rfl ?_
        refine ab_iconst (pc := 27) (n := 1) (v := nI 1) (by decide +kernel) rfl ?_
        refine ab_aload_n (pc := 28) (n := 0) (i := 0) (j := 0) (by decide +kernel) rfl rfl ?_
        refine ab_getR (pc := 29) fl_X11_26_11 (by decide +kernel) (fun v7 ev7 => ?_)
        refine ab_getR (pc := 32) fl_X11_177_8 (by decide +kernel) (fun v8 ev8 => ?_)
        refine ab_iload_n (pc := 35) (n := 3) (i := 3) (j := 3) (by decide +kernel) rfl rfl ?_
        refine ab_iald (pc := 36) (by decide +kernel) (fun v9 ev9 => ?_)
        refine ab_ishl (pc := 37) (by decide +kernel) ?_
        refine ab_ior (pc := 38) (by decide +kernel) ?_
        refine ab_istore_n (pc := 39) (n := 2) (i := 2) (lv' := [(0, .ref x0), (1, .int x1), (2, .int (x2 ||| ((nI 1) <<< (v9 &&& 31)))), (3, .int x3)]) (by decide +kernel) rfl (Nat.le_of_ble_eq_true rfl) rfl rfl ?_
        refine ab_iinc (pc := 40) (i := 3) (n := -1) (j := 3) (d := (-1 : Int32)) (lv' := [(0, .ref x0), (1, .int x1), (2, .int (x2 ||| ((nI 1) <<< (v9 &&& 31)))), (3, .int (x3 + (-1 : Int32)))]) (by decide +kernel) rfl rfl (Nat.le_of_ble_eq_true rfl) rfl rfl ?_
        refine ab_goto (pc := 43) (off := (-34)) (tgt := 9) (by decide +kernel) (by decide) ?_
        exact ih (x2 ||| ((nI 1) <<< (v9 &&& 31))) (x3 + (-1 : Int32))
set_option maxRecDepth 100000 in
set_option maxHeartbeats 4000000 in
theorem lX11_talk_48 {l : Launch} (hl : l.stackTraces = false) (F : Nat) (x0 : Nat) (h : ab_H) : ∀ (n : Nat) (x2 : Int32) (x3 : Int32), ab_S l mX11_talk (fun y : (Int32 ⊕ String) => ((y.elim (fun x => .inl (some (.int x))) (fun E => .inr E), h) : ab_R × ab_H)) 1 6 (fX11_talk_48 F x0 h n x2 x3) 48 [(0, .ref x0), (2, .int x2), (3, .int x3)] [] h := by
  intro n
  induction n with
  | zero =>
    intro x2 x3
    exact ab_none
  | succ n ih =>
    intro x2 x3
    rw [fX11_talk_48]
    refine ab_iload_n (pc := 48) (n := 3) (i := 3) (j := 2) (by decide +kernel) rfl rfl ?_
    refine ab_aload_n (pc := 49) (n := 0) (i := 0) (j := 0) (by decide +kernel) rfl rfl ?_
    refine ab_getR (pc := 50) fl_X11_26_11 (by decide +kernel) (fun v11 ev11 => ?_)
    refine ab_getI (pc := 53) fl_X11_257_8 (by decide +kernel) (fun v12 ev12 => ?_)
    refine ab_icmp_ge (off := 36) (pc := 56) (tgt := 92) (by decide +kernel) (by decide) (fun g13 => ?_) (fun g13 => ?_)
    · refine ab_aload_n (pc := 59) (n := 0) (i := 0) (j := 0) (by decide +kernel) rfl rfl ?_
      refine ab_getR (pc := 60) fl_X11_26_11 (by decide +kernel) (fun v14 ev14 => ?_)
      refine ab_getR (pc := 63) fl_X11_177_8 (by decide +kernel) (fun v15 ev15 => ?_)
      refine ab_iload_n (pc := 66) (n := 3) (i := 3) (j := 2) (by decide +kernel) rfl rfl ?_
      refine ab_iald (pc := 67) (by decide +kernel) (fun v16 ev16 => ?_)
      refine ab_iconst (pc := 68) (n := -1) (v := (-1 : Int32)) (by decide +kernel) rfl ?_
      refine ab_icmp_eq (off := 23) (pc := 69) (tgt := 92) (by decide +kernel) (by decide) (fun g17 => ?_) (fun g17 => ?_)
      · refine ab_iload_n (pc := 92) (n := 2) (i := 2) (j := 1) (by decide +kernel) rfl rfl ?_
        exact ab_iret (pc := 93) (by decide +kernel) rfl rfl (Nat.le_of_ble_eq_true rfl) (Nat.le_of_ble_eq_true rfl)
      · refine ab_iload_n (pc := 72) (n := 2) (i := 2) (j := 1) (by decide +kernel) rfl rfl ?_
        refine ab_iconst (pc := 73) (n := 1) (v := nI 1) (by decide +kernel) rfl ?_
        refine ab_aload_n (pc := 74) (n := 0) (i := 0) (j := 0) (by decide +kernel) rfl rfl ?_
        refine ab_getR (pc := 75) fl_X11_26_11 (by decide +kernel) (fun v18 ev18 => ?_)
        refine ab_getR (pc := 78) fl_X11_177_8 (by decide +kernel) (fun v19 ev19 => ?_)
        refine ab_iload_n (pc := 81) (n := 3) (i := 3) (j := 2) (by decide +kernel) rfl rfl ?_
        refine ab_iald (pc := 82) (by decide +kernel) (fun v20 ev20 => ?_)
        refine ab_ishl (pc := 83) (by decide +kernel) ?_
        refine ab_ior (pc := 84) (by decide +kernel) ?_
        refine ab_istore_n (pc := 85) (n := 2) (i := 2) (lv' := [(0, .ref x0), (2, .int (x2 ||| ((nI 1) <<< (v20 &&& 31)))), (3, .int x3)]) (by decide +kernel) rfl (Nat.le_of_ble_eq_true rfl) rfl rfl ?_
        refine ab_iinc (pc := 86) (i := 3) (n := 1) (j := 2) (d := nI 1) (lv' := [(0, .ref x0), (2, .int (x2 ||| ((nI 1) <<< (v20 &&& 31)))), (3, .int (x3 + nI 1))]) (by decide +kernel) rfl rfl (Nat.le_of_ble_eq_true rfl) rfl rfl ?_
        refine ab_goto (pc := 89) (off := (-41)) (tgt := 48) (by decide +kernel) (by decide) ?_
        exact ih (x2 ||| ((nI 1) <<< (v20 &&& 31))) (x3 + nI 1)
    · refine ab_iload_n (pc := 92) (n := 2) (i := 2) (j := 1) (by decide +kernel) rfl rfl ?_
      exact ab_iret (pc := 93) (by decide +kernel) rfl rfl (Nat.le_of_ble_eq_true rfl) (Nat.le_of_ble_eq_true rfl)
set_option maxRecDepth 100000 in
set_option maxHeartbeats 4000000 in
theorem wX11_talk {l : Launch} (hl : l.stackTraces = false) (F : Nat) (x0 : Nat) (x1 : Int32) (h : ab_H) : ab_S l mX11_talk (fun y : (Int32 ⊕ String) => ((y.elim (fun x => .inl (some (.int x))) (fun E => .inr E), h) : ab_R × ab_H)) 0 0 (fX11_talk F x0 x1 h) 0 [(0, .ref x0), (1, .int x1)] [] h := by
  unfold fX11_talk
  refine ab_aload_n (pc := 0) (n := 0) (i := 0) (j := 0) (by decide +kernel) rfl rfl ?_
  refine ab_iload_n (pc := 1) (n := 1) (i := 1) (j := 1) (by decide +kernel) rfl rfl ?_
  refine ab_callVt (As := [.int x1]) (st := []) (thr := (fun E => Sum.inr E)) (pc := 2) lk_X11_174_11 (fun _ => rfl) rfl (by decide) rfl (Nat.le_of_ble_eq_true rfl) (by decide +kernel) (fun y9 e9 => okX11_needHook hl e9) ?_
  refine ab_iconst (pc := 5) (n := 0) (v := nI 0) (by decide +kernel) rfl ?_
  refine ab_istore_n (pc := 6) (n := 2) (i := 2) (lv' := [(0, .ref x0), (1, .int x1), (2, .int (nI 0))]) (by decide +kernel) rfl (Nat.le_of_ble_eq_true rfl) rfl rfl ?_
  refine ab_iload_n (pc := 7) (n := 1) (i := 1) (j := 1) (by decide +kernel) rfl rfl ?_
  refine ab_istore_n (pc := 8) (n := 3) (i := 3) (lv' := [(0, .ref x0), (1, .int x1), (2, .int (nI 0)), (3, .int x1)]) (by decide +kernel) rfl (Nat.le_of_ble_eq_true rfl) rfl rfl ?_
  refine lX11_talk_9 hl F x0 x1 h ?_ F (nI 0) x1
  intro z10
  refine ab_iload_n (pc := 46) (n := 1) (i := 1) (j := 1) (by decide +kernel) rfl rfl ?_
  refine ab_istore_n (pc := 47) (n := 3) (i := 3) (lv' := [(0, .ref x0), (1, .int x1), (2, .int z10), (3, .int x1)]) (by decide +kernel) rfl (Nat.le_of_ble_eq_true rfl) rfl rfl ?_
  refine ab_few [0, 2, 3] (lv' := [(0, .ref x0), (2, .int z10), (3, .int x1)]) rfl ?_
  refine lX11_talk_48 hl F x0 h F z10 x1
set_option maxRecDepth 100000 in
set_option maxHeartbeats 4000000 in
theorem okX11_talk {l : Launch} (hl : l.stackTraces = false) {F : Nat} {x0 : Nat} {x1 : Int32} {h : ab_H} {y : (Int32 ⊕ String)} (e : fX11_talk F x0 x1 h = some y) : ab_Met l mX11_talk [.ref x0, .int x1] h ((fun y : (Int32 ⊕ String) => ((y.elim (fun x => .inl (some (.int x))) (fun E => .inr E), h) : ab_R × ab_H)) y) := ab_ofS (io := (fun y : (Int32 ⊕ String) => ((y.elim (fun x => .inl (some (.int x))) (fun E => .inr E), h) : ab_R × ab_H))) (x := y) hl (by decide) rfl (Nat.le_of_ble_eq_true rfl) (wX11_talk hl F x0 x1 h) e
def mX11_chain : ab_M := (yX11_chain, cX11_chain, 5, (some .int), { frames := 8, cells := 3, slots := 18, locals := 133 })
theorem iX11_chain : ab_MI mX11_chain 2 := ⟨kw_b89adddefa, kw_62b61b7ad3, by decide +kernel⟩
theorem lk_X11_328_8 : ab_LV RX11 328 8 mX8_knownToAny 1 := ⟨RX8, rfl, iX8_knownToAny, kw_ecb3e7c7eb, kw_49cf399bc7, kw_a25cd0b985⟩
def fX11_chain_13 (F : Nat) (x0 : Nat) (x2 : Int32) (h : ab_H) : Nat → Int32 → Int32 → Option (Int32 ⊕ String)
  | 0, _, _ => none
  | n + 1, x3, x4 => ab_bd (ab_fr h x0 11 1) fun v2 => ab_bd (ab_fi h v2 8 0) fun v3 => (if x4 < v3 then ab_bd (ab_fr h x0 11 1) fun v5 => ab_ck (ab_io h v5 8 = true) (ab_bd (fX8_knownToAny F v5 x3 h) fun v6 => ab_bd (fX11_has (x3 ||| v6) x2 h) fun v7 => (if v7 = 0 then fX11_chain_13 F x0 x2 h n (x3 ||| v6) (x4 + nI 1) else some (.inl x4))) else some (.inl (-1 : Int32)))
def fX11_chain (F : Nat) (x0 : Nat) (x1 : Int32) (x2 : Int32) (h : ab_H) : Option (Int32 ⊕ String) := ab_ck (ab_io h x0 11 = true) (ab_bx (fX11_needTwo x0 x1 x2 h) (fun E => Sum.inr E) (fX11_chain_13 F x0 x2 h F ((nI 1) <<< (x1 &&& 31)) (nI 1)))
set_option maxRecDepth 100000 in
set_option maxHeartbeats 4000000 in
theorem lX11_chain_13 {l : Launch} (hl : l.stackTraces = false) (F : Nat) (x0 : Nat) (x2 : Int32) (h : ab_H) : ∀ (n : Nat) (x3 : Int32) (x4 : Int32), ab_S l mX11_chain (fun y : (Int32 ⊕ String) => ((y.elim (fun x => .inl (some (.int x))) (fun E => .inr E), h) : ab_R × ab_H)) 3 18 (fX11_chain_13 F x0 x2 h n x3 x4) 13 [(0, .ref x0), (2, .int x2), (3, .int x3), (4, .int x4)] [] h := by
  intro n
  induction n with
  | zero =>
    intro x3 x4
    exact ab_none
  | succ n ih =>
    intro x3 x4
    rw [fX11_chain_13]
    refine ab_iload (pc := 13) (i := 4) (j := 3) (by decide +kernel) rfl ?_
    refine ab_aload_n (pc := 15) (n := 0) (i := 0) (j := 0) (by decide +kernel) rfl rfl ?_
    refine ab_getR (pc := 16) fl_X11_26_11 (by decide +kernel) (fun v2 ev2 => ?_)
    refine ab_getI (pc := 19) fl_X11_180_8 (by decide +kernel) (fun v3 ev3 => ?_)
    refine ab_icmp_ge (off := 31) (pc := 22) (tgt := 53) (by decide +kernel) (by decide) (fun g4 => ?_) (fun g4 => ?_)
    · refine ab_iload_n (pc := 25) (n := 3) (i := 3) (j := 2) (by decide +kernel) rfl rfl ?_
      refine ab_aload_n (pc := 26) (n := 0) (i := 0) (j := 0) (by decide +kernel) rfl rfl ?_
      refine ab_getR (pc := 27) fl_X11_26_11 (by decide +kernel) (fun v5 ev5 => ?_)
      refine ab_iload_n (pc := 30) (n := 3) (i := 3) (j := 2) (by decide +kernel) rfl rfl ?_
      refine ab_callVi (As := [.int x3]) (st := [.int x3]) (pc := 31) lk_X11_328_8 rfl rfl rfl (by decide) rfl (Nat.le_of_ble_eq_true rfl) (by decide +kernel) (fun y9 e9 => okX8_knownToAny hl (F := F) e9) (fun v6 ev6 => ?_)
      refine ab_ior (pc := 34) (by decide +kernel) ?_
      refine ab_istore_n (pc := 35) (n := 3) (i := 3) (lv' := [(0, .ref x0), (2, .int x2), (3, .int (x3 ||| v6)), (4, .int x4)]) (by decide +kernel) rfl (Nat.le_of_ble_eq_true rfl) rfl rfl ?_
      refine ab_iload_n (pc := 36) (n := 3) (i := 3) (j := 2) (by decide +kernel) rfl rfl ?_
      refine ab_iload_n (pc := 37) (n := 2) (i := 2) (j := 1) (by decide +kernel) rfl rfl ?_
      refine ab_callSi (As := [.int (x3 ||| v6), .int x2]) (st := []) (pc := 38) lk_X11_224 rfl rfl rfl (by decide) rfl (Nat.le_of_ble_eq_true rfl) (by decide +kernel) (fun y9 e9 => okX11_has hl e9) (fun v7 ev7 => ?_)
      refine ab_if_eq (off := 6) (pc := 41) (tgt := 47) (by decide +kernel) (by decide) (fun g8 => ?_) (fun g8 => ?_)
      · refine ab_iinc (pc := 47) (i := 4) (n := 1) (j := 3) (d := nI 1) (lv' := [(0, .ref x0), (2, .int x2), (3, .int (x3 ||| v6)), (4, .int (x4 + nI 1))]) (by decide +kernel) rfl rfl (Nat.le_of_ble_eq_true rfl) rfl rfl ?_
        refine ab_goto (pc := 50) (off := (-37)) (tgt := 13) (by decide +kernel) (by decide) ?_
        exact ih (x3 ||| v6) (x4 + nI 1)
      · refine ab_iload (pc := 44) (i := 4) (j := 3) (by decide +kernel) rfl ?_
        exact ab_iret (pc := 46) (by decide +kernel) rfl rfl (Nat.le_of_ble_eq_true rfl) (Nat.le_of_ble_eq_true rfl)
    · refine ab_iconst (pc := 53) (n := -1) (v := (-1 : Int32)) (by decide +kernel) rfl ?_
      exact ab_iret (pc := 54) (by decide +kernel) rfl rfl (Nat.le_of_ble_eq_true rfl) (Nat.le_of_ble_eq_true rfl)
set_option maxRecDepth 100000 in
set_option maxHeartbeats 4000000 in
theorem wX11_chain {l : Launch} (hl : l.stackTraces = false) (F : Nat) (x0 : Nat) (x1 : Int32) (x2 : Int32) (h : ab_H) : ab_S l mX11_chain (fun y : (Int32 ⊕ String) => ((y.elim (fun x => .inl (some (.int x))) (fun E => .inr E), h) : ab_R × ab_H)) 0 0 (fX11_chain F x0 x1 x2 h) 0 [(0, .ref x0), (1, .int x1), (2, .int x2)] [] h := by
  unfold fX11_chain
  refine ab_aload_n (pc := 0) (n := 0) (i := 0) (j := 0) (by decide +kernel) rfl rfl ?_
  refine ab_iload_n (pc := 1) (n := 1) (i := 1) (j := 1) (by decide +kernel) rfl rfl ?_
  refine ab_iload_n (pc := 2) (n := 2) (i := 2) (j := 2) (by decide +kernel) rfl rfl ?_
  refine ab_callVt (As := [.int x1, .int x2]) (st := []) (thr := (fun E => Sum.inr E)) (pc := 3) lk_X11_186_11 (fun _ => rfl) rfl (by decide) rfl (Nat.le_of_ble_eq_true rfl) (by decide +kernel) (fun y9 e9 => okX11_needTwo hl e9) ?_
  refine ab_iconst (pc := 6) (n := 1) (v := nI 1) (by decide +kernel) rfl ?_
  refine ab_iload_n (pc := 7) (n := 1) (i := 1) (j := 1) (by decide +kernel) rfl rfl ?_
  refine ab_ishl (pc := 8) (by decide +kernel) ?_
  refine ab_istore_n (pc := 9) (n := 3) (i := 3) (lv' := [(0, .ref x0), (1, .int x1), (2, .int x2), (3, .int ((nI 1) <<< (x1 &&& 31)))]) (by decide +kernel) rfl (Nat.le_of_ble_eq_true rfl) rfl rfl ?_
  refine ab_iconst (pc := 10) (n := 1) (v := nI 1) (by decide +kernel) rfl ?_
  refine ab_istore (pc := 11) (i := 4) (lv' := [(0, .ref x0), (1, .int x1), (2, .int x2), (3, .int ((nI 1) <<< (x1 &&& 31))), (4, .int (nI 1))]) (by decide +kernel) (Nat.le_of_ble_eq_true rfl) rfl rfl ?_
  refine ab_few [0, 2, 3, 4] (lv' := [(0, .ref x0), (2, .int x2), (3, .int ((nI 1) <<< (x1 &&& 31))), (4, .int (nI 1))]) rfl ?_
  refine lX11_chain_13 hl F x0 x2 h F ((nI 1) <<< (x1 &&& 31)) (nI 1)
set_option maxRecDepth 100000 in
set_option maxHeartbeats 4000000 in
theorem okX11_chain {l : Launch} (hl : l.stackTraces = false) {F : Nat} {x0 : Nat} {x1 : Int32} {x2 : Int32} {h : ab_H} {y : (Int32 ⊕ String)} (e : fX11_chain F x0 x1 x2 h = some y) : ab_Met l mX11_chain [.ref x0, .int x1, .int x2] h ((fun y : (Int32 ⊕ String) => ((y.elim (fun x => .inl (some (.int x))) (fun E => .inr E), h) : ab_R × ab_H)) y) := ab_ofS (io := (fun y : (Int32 ⊕ String) => ((y.elim (fun x => .inl (some (.int x))) (fun E => .inr E), h) : ab_R × ab_H))) (x := y) hl (by decide) rfl (Nat.le_of_ble_eq_true rfl) (wX11_chain hl F x0 x1 x2 h) e
