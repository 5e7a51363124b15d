/-! ===== class (by program, decomp.py) ===== -/
def mX8_hookOf : ab_M := (yX8_hookOf, cX8_hookOf, 3, (some .int), { frames := 0, cells := 0, slots := 0, locals := 0 })
theorem iX8_hookOf : ab_MI mX8_hookOf 1 := ⟨kw_fd3e4132fd, kw_a869362287, by decide +kernel⟩
def fX8_hookOf_2 (x0 : Nat) (x1 : Int32) (h : ab_H) : Nat → Int32 → Option Int32
  | 0, _ => none
  | n + 1, x2 => ab_bd (ab_fi h x0 8 1) fun v1 => (if x2 < v1 then ab_bd (ab_fr h x0 8 17) fun v3 => ab_bd (ab_ia 0 h v3 x2) fun v4 => (if v4 = x1 then some x2 else fX8_hookOf_2 x0 x1 h n (x2 + nI 1)) else some (-1 : Int32))
def fX8_hookOf (F : Nat) (x0 : Nat) (x1 : Int32) (h : ab_H) : Option Int32 := fX8_hookOf_2 x0 x1 h F (nI 0)
set_option maxRecDepth 100000 in
set_option maxHeartbeats 4000000 in
theorem lX8_hookOf_2 {l : Launch} (hl : l.stackTraces = false) (x0 : Nat) (x1 : Int32) (h : ab_H) : ∀ (n : Nat) (x2 : Int32), ab_S l mX8_hookOf (fun y : Int32 => ((.inl (some (.int y)), h) : ab_R × ab_H)) 0 0 (fX8_hookOf_2 x0 x1 h n x2) 2 [(0, .ref x0), (1, .int x1), (2, .int x2)] [] h := by
  intro n
  induction n with
  | zero =>
    intro x2
    exact ab_none
  | succ n ih =>
    intro x2
    rw [fX8_hookOf_2]
    refine ab_iload_n (pc := 2) (n := 2) (i := 2) (j := 2) (by decide +kernel) rfl rfl ?_
    refine ab_aload_n (pc := 3) (n := 0) (i := 0) (j := 0) (by decide +kernel) rfl rfl ?_
    refine ab_getI (pc := 4) fl_X8_9_8 (by decide +kernel) (fun v1 ev1 => ?_)
    refine ab_icmp_ge (off := 21) (pc := 7) (tgt := 28) (by decide +kernel) (by decide) (fun g2 => ?_) (fun g2 => ?_)
    · refine ab_aload_n (pc := 10) (n := 0) (i := 0) (j := 0) (by decide +kernel) rfl rfl ?_
      refine ab_getR (pc := 11) fl_X8_50_8 (by decide +kernel) (fun v3 ev3 => ?_)
      refine ab_iload_n (pc := 14) (n := 2) (i := 2) (j := 2) (by decide +kernel) rfl rfl ?_
      refine ab_iald (pc := 15) (by decide +kernel) (fun v4 ev4 => ?_)
      refine ab_iload_n (pc := 16) (n := 1) (i := 1) (j := 1) (by decide +kernel) rfl rfl ?_
      refine ab_icmp_ne (off := 5) (pc := 17) (tgt := 22) (by decide +kernel) (by decide) (fun g5 => ?_) (fun g5 => ?_)
      · refine ab_iload_n (pc := 20) (n := 2) (i := 2) (j := 2) (by decide +kernel) rfl rfl ?_
        exact ab_iret (pc := 21) (by decide +kernel) rfl rfl (Nat.le_of_ble_eq_true rfl) (Nat.le_of_ble_eq_true rfl)
      · refine ab_iinc (pc := 22) (i := 2) (n := 1) (j := 2) (d := nI 1) (lv' := [(0, .ref x0), (1, .int x1), (2, .int (x2 + nI 1))]) (by decide +kernel) rfl rfl (Nat.le_of_ble_eq_true rfl) rfl rfl ?_
        refine ab_goto (pc := 25) (off := (-23)) (tgt := 2) (by decide +kernel) (by decide) ?_
        exact ih (x2 + nI 1)
    · refine ab_iconst (pc := 28) (n := -1) (v := (-1 : Int32)) (by decide +kernel) rfl ?_
      exact ab_iret (pc := 29) (by decide +kernel) rfl rfl (Nat.le_of_ble_eq_true rfl) (Nat.le_of_ble_eq_true rfl)
set_option maxRecDepth 100000 in
set_option maxHeartbeats 4000000 in
theorem wX8_hookOf {l : Launch} (hl : l.stackTraces = false) (F : Nat) (x0 : Nat) (x1 : Int32) (h : ab_H) : ab_S l mX8_hookOf (fun y : Int32 => ((.inl (some (.int y)), h) : ab_R × ab_H)) 0 0 (fX8_hookOf F x0 x1 h) 0 [(0, .ref x0), (1, .int x1)] [] h := by
  unfold fX8_hookOf
  refine ab_iconst (pc := 0) (n := 0) (v := nI 0) (by decide +kernel) rfl ?_
  refine ab_istore_n (pc := 1) (n := 2) (i := 2) (lv' := [(0, .ref x0), (1, .int x1), (2, .int (nI 0))]) (by decide +kernel) rfl (Nat.le_of_ble_eq_true rfl) rfl rfl ?_
  refine lX8_hookOf_2 hl x0 x1 h F (nI 0)
set_option maxRecDepth 100000 in
set_option maxHeartbeats 4000000 in
theorem okX8_hookOf {l : Launch} (hl : l.stackTraces = false) {F : Nat} {x0 : Nat} {x1 : Int32} {h : ab_H} {y : Int32} (e : fX8_hookOf F x0 x1 h = some y) : ab_Met l mX8_hookOf [.ref x0, .int x1] h (.inl (some (.int y)), h) := ab_ofS (io := (fun y : Int32 => ((.inl (some (.int y)), h) : ab_R × ab_H))) (x := y) hl (by decide) rfl (Nat.le_of_ble_eq_true rfl) (wX8_hookOf hl F x0 x1 h) e
def mX8_isLost : ab_M := (yX8_isLost, cX8_isLost, 2, (some .boolean), { frames := 1, cells := 0, slots := 0, locals := 22 })
theorem iX8_isLost : ab_MI mX8_isLost 1 := ⟨kw_10dd594e1b, kw_a869362287, by decide +kernel⟩
theorem lk_X8_173_8 : ab_LV RX8 173 8 mX8_wearerOf 1 := ⟨RX8, rfl, iX8_wearerOf, kw_0db52b08f8, kw_0deb8a4514, kw_de2ddc2a66⟩
theorem lk_X8_176_8 : ab_LV RX8 176 8 mX8_hookOf 1 := ⟨RX8, rfl, iX8_hookOf, kw_25a4fc2403, kw_0067924a63, kw_8689d31930⟩
def fX8_isLost (F : Nat) (x0 : Nat) (x1 : Int32) (h : ab_H) : Option Int32 := ab_ck (ab_io h x0 8 = true) (ab_bd (fX8_wearerOf F x0 x1 h) fun v1 => (if v1 = (-1 : Int32) then ab_ck (ab_io h x0 8 = true) (ab_bd (fX8_hookOf F x0 x1 h) fun v3 => (if v3 = (-1 : Int32) then some (nI 1) else some (nI 0))) else some (nI 0)))
set_option maxRecDepth 100000 in
set_option maxHeartbeats 4000000 in
theorem wX8_isLost {l : Launch} (hl : l.stackTraces = false) (F : Nat) (x0 : Nat) (x1 : Int32) (h : ab_H) : ab_S l mX8_isLost (fun y : Int32 => ((.inl (some (.int y)), h) : ab_R × ab_H)) 0 0 (fX8_isLost F x0 x1 h) 0 [(0, .ref x0), (1, .int x1)] [] h := by
  unfold fX8_isLost
  refine ab_aload_n (pc := 0) (n := 0) (i := 0) (j := 0) (by decide +kernel) rfl rfl ?_
  refine ab_iload_n (pc := 1) (n := 1) (i := 1) (j := 1) (by decide +kernel) rfl rfl ?_
  refine ab_callVi (As := [.int x1]) (st := []) (pc := 2) lk_X8_173_8 rfl rfl rfl (by decide) rfl (Nat.le_of_ble_eq_true rfl) (by decide +kernel) (fun y9 e9 => okX8_wearerOf hl (F := F) e9) (fun v1 ev1 => ?_)
  refine ab_iconst (pc := 5) (n := -1) (v := (-1 : Int32)) (by decide +kernel) rfl ?_
  refine ab_icmp_ne (off := 16) (pc := 6) (tgt := 22) (by decide +kernel) (by decide) (fun g2 => ?_) (fun g2 => ?_)
  · refine ab_aload_n (pc := 9) (n := 0) (i := 0) (j := 0) (by decide +kernel) rfl rfl ?_
    refine ab_iload_n (pc := 10) (n := 1) (i := 1) (j := 1) (by decide +kernel) rfl rfl ?_
    refine ab_callVi (As := [.int x1]) (st := []) (pc := 11) lk_X8_176_8 rfl rfl rfl (by decide) rfl (Nat.le_of_ble_eq_true rfl) (by decide +kernel) (fun y9 e9 => okX8_hookOf hl (F := F) e9) (fun v3 ev3 => ?_)
    refine ab_iconst (pc := 14) (n := -1) (v := (-1 : Int32)) (by decide +kernel) rfl ?_
    refine ab_icmp_ne (off := 7) (pc := 15) (tgt := 22) (by decide +kernel) (by decide) (fun g4 => ?_) (fun g4 => ?_)
    · refine ab_iconst (pc := 18) (n := 1) (v := nI 1) (by decide +kernel) rfl ?_
      refine ab_goto (pc := 19) (off := 4) (tgt := 23) (by decide +kernel) (by decide) ?_
      exact ab_zret (pc := 23) (by decide +kernel) rfl ab_bl1.1 rfl (Nat.le_of_ble_eq_true rfl) (Nat.le_of_ble_eq_true rfl)
    · refine ab_iconst (pc := 22) (n := 0) (v := nI 0) (by decide +kernel) rfl ?_
      exact ab_zret (pc := 23) (by decide +kernel) rfl ab_bl0.1 rfl (Nat.le_of_ble_eq_true rfl) (Nat.le_of_ble_eq_true rfl)
  · refine ab_iconst (pc := 22) (n := 0) (v := nI 0) (by decide +kernel) rfl ?_
    exact ab_zret (pc := 23) (by decide +kernel) rfl ab_bl0.1 rfl (Nat.le_of_ble_eq_true rfl) (Nat.le_of_ble_eq_true rfl)
set_option maxRecDepth 100000 in
set_option maxHeartbeats 4000000 in
theorem okX8_isLost {l : Launch} (hl : l.stackTraces = false) {F : Nat} {x0 : Nat} {x1 : Int32} {h : ab_H} {y : Int32} (e : fX8_isLost F x0 x1 h = some y) : ab_Met l mX8_isLost [.ref x0, .int x1] h (.inl (some (.int y)), h) := ab_ofS (io := (fun y : Int32 => ((.inl (some (.int y)), h) : ab_R × ab_H))) (x := y) hl (by decide) rfl (Nat.le_of_ble_eq_true rfl) (wX8_isLost hl F x0 x1 h) e
def mX8_ticketIsOut : ab_M := (yX8_ticketIsOut, cX8_ticketIsOut, 3, (some .boolean), { frames := 0, cells := 0, slots := 0, locals := 0 })
theorem iX8_ticketIsOut : ab_MI mX8_ticketIsOut 1 := ⟨kw_9aa026f0c4, kw_a869362287, by decide +kernel⟩
def fX8_ticketIsOut_2 (x0 : Nat) (x1 : Int32) (h : ab_H) : Nat → Int32 → Option Int32
  | 0, _ => none
  | n + 1, x2 => ab_bd (ab_fi h x0 8 0) fun v1 => (if x2 < v1 then ab_bd (ab_fr h x0 8 12) fun v3 => ab_bd (ab_ia 0 h v3 x2) fun v4 => (if v4 = x1 then some (nI 1) else fX8_ticketIsOut_2 x0 x1 h n (x2 + nI 1)) else some (nI 0))
def fX8_ticketIsOut (F : Nat) (x0 : Nat) (x1 : Int32) (h : ab_H) : Option Int32 := fX8_ticketIsOut_2 x0 x1 h F (nI 0)
set_option maxRecDepth 100000 in
set_option maxHeartbeats 4000000 in
theorem lX8_ticketIsOut_2 {l : Launch} (hl : l.stackTraces = false) (x0 : Nat) (x1 : Int32) (h : ab_H) : ∀ (n : Nat) (x2 : Int32), ab_S l mX8_ticketIsOut (fun y : Int32 => ((.inl (some (.int y)), h) : ab_R × ab_H)) 0 0 (fX8_ticketIsOut_2 x0 x1 h n x2) 2 [(0, .ref x0), (1, .int x1), (2, .int x2)] [] h := by
  intro n
  induction n with
  | zero =>
    intro x2
    exact ab_none
  | succ n ih =>
    intro x2
    rw [fX8_ticketIsOut_2]
    refine ab_iload_n (pc := 2) (n := 2) (i := 2) (j := 2) (by decide +kernel) rfl rfl ?_
    refine ab_aload_n (pc := 3) (n := 0) (i := 0) (j := 0) (by decide +kernel) rfl rfl ?_
    refine ab_getI (pc := 4) fl_X8_63_8 (by decide +kernel) (fun v1 ev1 => ?_)
    refine ab_icmp_ge (off := 21) (pc := 7) (tgt := 28) (by decide +kernel) (by decide) (fun g2 => ?_) (fun g2 => ?_)
    · refine ab_aload_n (pc := 10) (n := 0) (i := 0) (j := 0) (by decide +kernel) rfl rfl ?_
      refine ab_getR (pc := 11) fl_X8_35_8 (by decide +kernel) (fun v3 ev3 => ?_)
      refine ab_iload_n (pc := 14) (n := 2) (i := 2) (j := 2) (by decide +kernel) rfl rfl ?_
      refine ab_iald (pc := 15) (by decide +kernel) (fun v4 ev4 => ?_)
      refine ab_iload_n (pc := 16) (n := 1) (i := 1) (j := 1) (by decide +kernel) rfl rfl ?_
      refine ab_icmp_ne (off := 5) (pc := 17) (tgt := 22) (by decide +kernel) (by decide) (fun g5 => ?_) (fun g5 => ?_)
      · refine ab_iconst (pc := 20) (n := 1) (v := nI 1) (by decide +kernel) rfl ?_
        exact ab_zret (pc := 21) (by decide +kernel) rfl ab_bl1.1 rfl (Nat.le_of_ble_eq_true rfl) (Nat.le_of_ble_eq_true rfl)
      · refine ab_iinc (pc := 22) (i := 2) (n := 1) (j := 2) (d := nI 1) (lv' := [(0, .ref x0), (1, .int x1), (2, .int (x2 + nI 1))]) (by decide +kernel) rfl rfl (Nat.le_of_ble_eq_true rfl) rfl rfl ?_
        refine ab_goto (pc := 25) (off := (-23)) (tgt := 2) (by decide +kernel) (by decide) ?_
        exact ih (x2 + nI 1)
    · refine ab_iconst (pc := 28) (n := 0) (v := nI 0) (by decide +kernel) rfl ?_
      exact ab_zret (pc := 29) (by decide +kernel) rfl ab_bl0.1 rfl (Nat.le_of_ble_eq_true rfl) (Nat.le_of_ble_eq_true rfl)
set_option maxRecDepth 100000 in
set_option maxHeartbeats 4000000 in
theorem wX8_ticketIsOut {l : Launch} (hl : l.stackTraces = false) (F : Nat) (x0 : Nat) (x1 : Int32) (h : ab_H) : ab_S l mX8_ticketIsOut (fun y : Int32 => ((.inl (some (.int y)), h) : ab_R × ab_H)) 0 0 (fX8_ticketIsOut F x0 x1 h) 0 [(0, .ref x0), (1, .int x1)] [] h := by
  unfold fX8_ticketIsOut
  refine ab_iconst (pc := 0) (n := 0) (v := nI 0) (by decide +kernel) rfl ?_
  refine ab_istore_n (pc := 1) (n := 2) (i := 2) (lv' := [(0, .ref x0), (1, .int x1), (2, .int (nI 0))]) (by decide +kernel) rfl (Nat.le_of_ble_eq_true rfl) rfl rfl ?_
  refine lX8_ticketIsOut_2 hl x0 x1 h F (nI 0)
set_option maxRecDepth 100000 in
set_option maxHeartbeats 4000000 in
theorem okX8_ticketIsOut {l : Launch} (hl : l.stackTraces = false) {F : Nat} {x0 : Nat} {x1 : Int32} {h : ab_H} {y : Int32} (e : fX8_ticketIsOut F x0 x1 h = some y) : ab_Met l mX8_ticketIsOut [.ref x0, .int x1] h (.inl (some (.int y)), h) := ab_ofS (io := (fun y : Int32 => ((.inl (some (.int y)), h) : ab_R × ab_H))) (x := y) hl (by decide) rfl (Nat.le_of_ble_eq_true rfl) (wX8_ticketIsOut hl F x0 x1 h) e
def mX8_wrongOnes : ab_M := (yX8_wrongOnes, cX8_wrongOnes, 3, (some .int), { frames := 0, cells := 0, slots := 0, locals := 0 })
theorem iX8_wrongOnes : ab_MI mX8_wrongOnes 0 := ⟨kw_335ea9f5d6, kw_a869362287, by decide +kernel⟩
def fX8_wrongOnes_4 (x0 : Nat) (h : ab_H) : Nat → Int32 → Int32 → Option Int32
  | 0, _, _ => none
  | n + 1, x1, x2 => ab_bd (ab_fi h x0 8 0) fun v1 => (if x2 < v1 then ab_bd (ab_fr h x0 8 11) fun v3 => ab_bd (ab_ia 0 h v3 x2) fun v4 => (if v4 = (-1 : Int32) then fX8_wrongOnes_4 x0 h n x1 (x2 + nI 1) else ab_bd (ab_fr h x0 8 11) fun v6 => ab_bd (ab_ia 0 h v6 x2) fun v7 => (if v7 = x2 then fX8_wrongOnes_4 x0 h n x1 (x2 + nI 1) else fX8_wrongOnes_4 x0 h n (x1 ||| ((nI 1) <<< (x2 &&& 31))) (x2 + nI 1))) else some x1)
def fX8_wrongOnes (F : Nat) (x0 : Nat) (h : ab_H) : Option Int32 := fX8_wrongOnes_4 x0 h F (nI 0) (nI 0)
set_option maxRecDepth 100000 in
set_option maxHeartbeats 4000000 in
theorem lX8_wrongOnes_4 {l : Launch} (hl : l.stackTraces = false) (x0 : Nat) (h : ab_H) : ∀ (n : Nat) (x1 : Int32) (x2 : Int32), ab_S l mX8_wrongOnes (fun y : Int32 => ((.inl (some (.int y)), h) : ab_R × ab_H)) 0 0 (fX8_wrongOnes_4 x0 h n x1 x2) 4 [(0, .ref x0), (1, .int x1), (2, .int x2)] [] h := by
  intro n
  induction n with
  | zero =>
    intro x1 x2
    exact ab_none
  | succ n ih =>
    intro x1 x2
    rw [fX8_wrongOnes_4]
    refine ab_iload_n (pc := 4) (n := 2) (i := 2) (j := 2) (by decide +kernel) rfl rfl ?_
    refine ab_aload_n (pc := 5) (n := 0) (i := 0) (j := 0) (by decide +kernel) rfl rfl ?_
    refine ab_getI (pc := 6) fl_X8_63_8 (by decide +kernel) (fun v1 ev1 => ?_)
    refine ab_icmp_ge (off := 35) (pc := 9) (tgt := 44) (by decide +kernel) (by decide) (fun g2 => ?_) (fun g2 => ?_)
    · refine ab_aload_n (pc := 12) (n := 0) (i := 0) (j := 0) (by decide +kernel) rfl rfl ?_
      refine ab_getR (pc := 13) fl_X8_32_8 (by decide +kernel) (fun v3 ev3 => ?_)
      refine ab_iload_n (pc := 16) (n := 2) (i := 2) (j := 2) (by decide +kernel) rfl rfl ?_
      refine ab_iald (pc := 17) (by decide +kernel) (fun v4 ev4 => ?_)
      refine ab_iconst (pc := 18) (n := -1) (v := (-1 : Int32)) (by decide +kernel) rfl ?_
      refine ab_icmp_eq (off := 19) (pc := 19) (tgt := 38) (by decide +kernel) (by decide) (fun g5 => ?_) (fun g5 => ?_)
      · refine ab_iinc (pc := 38) (i := 2) (n := 1) (j := 2) (d := nI 1) (lv' := [(0, .ref x0), (1, .int x1), (2, .int (x2 + nI 1))]) (by decide +kernel) rfl rfl (Nat.le_of_ble_eq_true rfl) rfl rfl ?_
        refine ab_goto (pc := 41) (off := (-37)) (tgt := 4) (by decide +kernel) (by decide) ?_
        exact ih x1 (x2 + nI 1)
      · refine ab_aload_n (pc := 22) (n := 0) (i := 0) (j := 0) (by decide +kernel) rfl rfl ?_
        refine ab_getR (pc := 23) fl_X8_32_8 (by decide +kernel) (fun v6 ev6 => ?_)
        refine ab_iload_n (pc := 26) (n := 2) (i := 2) (j := 2) (by decide +kernel) rfl rfl ?_
        refine ab_iald (pc := 27) (by decide +kernel) (fun v7 ev7 => ?_)
        refine ab_iload_n (pc := 28) (n := 2) (i := 2) (j := 2) (by decide +kernel) rfl rfl ?_
        refine ab_icmp_eq (off := 9) (pc := 29) (tgt := 38) (by decide +kernel) (by decide) (fun g8 => ?_) (fun g8 => ?_)
        · refine ab_iinc (pc := 38) (i := 2) (n := 1) (j := 2) (d := nI 1) (lv' := [(0, .ref x0), (1, .int x1), (2, .int (x2 + nI 1))]) (by decide +kernel) rfl rfl (Nat.le_of_ble_eq_true rfl) rfl rfl ?_
          refine ab_goto (pc := 41) (off := (-37)) (tgt := 4) (by decide +kernel) (by decide) ?_
          exact ih x1 (x2 + nI 1)
        · refine ab_iload_n (pc := 32) (n := 1) (i := 1) (j := 1) (by decide +kernel) rfl rfl ?_
          refine ab_iconst (pc := 33) (n := 1) (v := nI 1) (by decide +kernel) rfl ?_
          refine ab_iload_n (pc := 34) (n := 2) (i := 2) (j := 2) (by decide +kernel) rfl rfl ?_
          refine ab_ishl (pc := 35) (by decide +kernel) ?_
          refine ab_ior (pc := 36) (by decide +kernel) ?_
          refine ab_istore_n (pc := 37) (n := 1) (i := 1) (lv' := [(0, .ref x0), (1, .int (x1 ||| ((nI 1) <<< (x2 &&& 31)))), (2, .int x2)]) (by decide +kernel) rfl (Nat.le_of_ble_eq_true rfl) rfl rfl ?_
          refine ab_iinc (pc := 38) (i := 2) (n := 1) (j := 2) (d := nI 1) (lv' := [(0, .ref x0), (1, .int (x1 ||| ((nI 1) <<< (x2 &&& 31)))), (2, .int (x2 + nI 1))]) (by decide +kernel) rfl rfl (Nat.le_of_ble_eq_true rfl) rfl rfl ?_
          refine ab_goto (pc := 41) (off := (-37)) (tgt := 4) (by decide +kernel) (by decide) ?_
          exact ih (x1 ||| ((nI 1) <<< (x2 &&& 31))) (x2 + nI 1)
    · refine ab_iload_n (pc := 44) (n := 1) (i := 1) (j := 1) (by decide +kernel) rfl rfl ?_
      exact ab_iret (pc := 45) (by decide +kernel) rfl rfl (Nat.le_of_ble_eq_true rfl) (Nat.le_of_ble_eq_true rfl)
set_option maxRecDepth 100000 in
set_option maxHeartbeats 4000000 in
theorem wX8_wrongOnes {l : Launch} (hl : l.stackTraces = false) (F : Nat) (x0 : Nat) (h : ab_H) : ab_S l mX8_wrongOnes (fun y : Int32 => ((.inl (some (.int y)), h) : ab_R × ab_H)) 0 0 (fX8_wrongOnes F x0 h) 0 [(0, .ref x0)] [] h := by
  unfold fX8_wrongOnes
  refine ab_iconst (pc := 0) (n := 0) (v := nI 0) (by decide +kernel) rfl ?_
  refine ab_istore_n (pc := 1) (n := 1) (i := 1) (lv' := [(0, .ref x0), (1, .int (nI 0))]) (by decide +kernel) rfl (Nat.le_of_ble_eq_true rfl) rfl rfl ?_
  refine ab_iconst (pc := 2) (n := 0) (v := nI 0) (by decide +kernel) rfl ?_
  refine ab_istore_n (pc := 3) (n := 2) (i := 2) (lv' := [(0, .ref x0), (1, .int (nI 0)), (2, .int (nI 0))]) (by decide +kernel) rfl (Nat.le_of_ble_eq_true rfl) rfl rfl ?_
  refine lX8_wrongOnes_4 hl x0 h F (nI 0) (nI 0)
set_option maxRecDepth 100000 in
set_option maxHeartbeats 4000000 in
theorem okX8_wrongOnes {l : Launch} (hl : l.stackTraces = false) {F : Nat} {x0 : Nat} {h : ab_H} {y : Int32} (e : fX8_wrongOnes F x0 h = some y) : ab_Met l mX8_wrongOnes [.ref x0] h (.inl (some (.int y)), h) := ab_ofS (io := (fun y : Int32 => ((.inl (some (.int y)), h) : ab_R × ab_H))) (x := y) hl (by decide) rfl (Nat.le_of_ble_eq_true rfl) (wX8_wrongOnes hl F x0 h) e
def mX8_ringOf : ab_M := (yX8_ringOf, cX8_ringOf, 5, (some .int), { frames := 1, cells := 0, slots := 0, locals := 22 })
theorem iX8_ringOf : ab_MI mX8_ringOf 1 := ⟨kw_da4b413e2b, kw_a869362287, by decide +kernel⟩
def fX8_ringOf_7 (F : Nat) (x0 : Nat) (h : ab_H) : Nat → Int32 → Int32 → Int32 → Option Int32
  | 0, _, _, _ => none
  | n + 1, x2, x3, x4 => ab_bd (ab_fi h x0 8 0) fun v1 => (if x4 < v1 then (if x3 = (-1 : Int32) then some x2 else ab_ck (ab_io h x0 8 = true) (ab_bd (fX8_wearerOf F x0 x3 h) fun v4 => fX8_ringOf_7 F x0 h n (x2 ||| ((nI 1) <<< (x3 &&& 31))) v4 (x4 + nI 1))) else some x2)
def fX8_ringOf (F : Nat) (x0 : Nat) (x1 : Int32) (h : ab_H) : Option Int32 := fX8_ringOf_7 F x0 h F (nI 0) x1 (nI 0)
set_option maxRecDepth 100000 in
set_option maxHeartbeats 4000000 in
theorem lX8_ringOf_7 {l : Launch} (hl : l.stackTraces = false) (F : Nat) (x0 : Nat) (h : ab_H) : ∀ (n : Nat) (x2 : Int32) (x3 : Int32) (x4 : Int32), ab_S l mX8_ringOf (fun y : Int32 => ((.inl (some (.int y)), h) : ab_R × ab_H)) 0 0 (fX8_ringOf_7 F x0 h n x2 x3 x4) 7 [(0, .ref x0), (2, .int x2), (3, .int x3), (4, .int x4)] [] h := by
  intro n
  induction n with
  | zero =>
    intro x2 x3 x4
    exact ab_none
  | succ n ih =>
    intro x2 x3 x4
    rw [fX8_ringOf_7]
    refine ab_iload (pc := 7) (i := 4) (j := 3) (by decide +kernel) rfl ?_
    refine ab_aload_n (pc := 9) (n := 0) (i := 0) (j := 0) (by decide +kernel) rfl rfl ?_
    refine ab_getI (pc := 10) fl_X8_63_8 (by decide +kernel) (fun v1 ev1 => ?_)
    refine ab_icmp_ge (off := 26) (pc := 13) (tgt := 39) (by decide +kernel) (by decide) (fun g2 => ?_) (fun g2 => ?_)
    · refine ab_iload_n (pc := 16) (n := 3) (i := 3) (j := 2) (by decide +kernel) rfl rfl ?_
      refine ab_iconst (pc := 17) (n := -1) (v := (-1 : Int32)) (by decide +kernel) rfl ?_
      refine ab_icmp_eq (off := 21) (pc := 18) (tgt := 39) (by decide +kernel) (by decide) (fun g3 => ?_) (fun g3 => ?_)
      · refine ab_iload_n (pc := 39) (n := 2) (i := 2) (j := 1) (by decide +kernel) rfl rfl ?_
        exact ab_iret (pc := 40) (by decide +kernel) rfl rfl (Nat.le_of_ble_eq_true rfl) (Nat.le_of_ble_eq_true rfl)
      · refine ab_iload_n (pc := 21) (n := 2) (i := 2) (j := 1) (by decide +kernel) rfl rfl ?_
        refine ab_iconst (pc := 22) (n := 1) (v := nI 1) (by decide +kernel) rfl ?_
        refine ab_iload_n (pc := 23) (n := 3) (i := 3) (j := 2) (by decide +kernel) rfl rfl ?_
        refine ab_ishl (pc := 24) (by decide +kernel) ?_
        refine ab_ior (pc := 25) (by decide +kernel) ?_
        refine ab_istore_n (pc := 26) (n := 2) (i := 2) (lv' := [(0, .ref x0), (2, .int (x2 ||| ((nI 1) <<< (x3 &&& 31)))), (3, .int x3), (4, .int x4)]) (by decide +kernel) rfl (Nat.le_of_ble_eq_true rfl) rfl rfl ?_
        refine ab_aload_n (pc := 27) (n := 0) (i := 0) (j := 0) (by decide +kernel) rfl rfl ?_
        refine ab_iload_n (pc := 28) (n := 3) (i := 3) (j := 2) (by decide +kernel) rfl rfl ?_
        refine ab_callVi (As := [.int x3]) (st := []) (pc := 29) lk_X8_173_8 rfl rfl rfl (by decide) rfl (Nat.le_of_ble_eq_true rfl) (by decide +kernel) (fun y9 e9 => okX8_wearerOf hl (F := F) e9) (fun v4 ev4 => ?_)
        refine ab_istore_n (pc := 32) (n := 3) (i := 3) (lv' := [(0, .ref x0), (2, .int (x2 ||| ((nI 1) <<< (x3 &&& 31)))), (3, .int v4), (4, .int x4)]) (by decide +kernel) rfl (Nat.le_of_ble_eq_true rfl) rfl rfl ?_
        refine ab_iinc (pc := 33) (i := 4) (n := 1) (j := 3) (d := nI 1) (lv' := [(0, .ref x0), (2, .int (x2 ||| ((nI 1) <<< (x3 &&& 31)))), (3, .int v4), (4, .int (x4 + nI 1))]) (by decide +kernel) rfl rfl (Nat.le_of_ble_eq_true rfl) rfl rfl ?_
        refine ab_goto (pc := 36) (off := (-29)) (tgt := 7) (by decide +kernel) (by decide) ?_
        exact ih (x2 ||| ((nI 1) <<< (x3 &&& 31))) v4 (x4 + nI 1)
    · refine ab_iload_n (pc := 39) (n := 2) (i := 2) (j := 1) (by decide +kernel) rfl rfl ?_
      exact ab_iret (pc := 40) (by decide +kernel) rfl rfl (Nat.le_of_ble_eq_true rfl) (Nat.le_of_ble_eq_true rfl)
set_option maxRecDepth 100000 in
set_option maxHeartbeats 4000000 in
theorem wX8_ringOf {l : Launch} (hl : l.stackTraces = false) (F : Nat) (x0 : Nat) (x1 : Int32) (h : ab_H) : ab_S l mX8_ringOf (fun y : Int32 => ((.inl (some (.int y)), h) : ab_R × ab_H)) 0 0 (fX8_ringOf F x0 x1 h) 0 [(0, .ref x0), (1, .int x1)] [] h := by
  unfold fX8_ringOf
  refine ab_iconst (pc := 0) (n := 0) (v := nI 0) (by decide +kernel) rfl ?_
  refine ab_istore_n (pc := 1) (n := 2) (i := 2) (lv' := [(0, .ref x0), (1, .int x1), (2, .int (nI 0))]) (by decide +kernel) rfl (Nat.le_of_ble_eq_true rfl) rfl rfl ?_
  refine ab_iload_n (pc := 2) (n := 1) (i := 1) (j := 1) (by decide +kernel) rfl rfl ?_
  refine ab_istore_n (pc := 3) (n := 3) (i := 3) (lv' := [(0, .ref x0), (1, .int x1), (2, .int (nI 0)), (3, .int x1)]) (by decide +kernel) rfl (Nat.le_of_ble_eq_true rfl) rfl rfl ?_
  refine ab_iconst (pc := 4) (n := 0) (v := nI 0) (by decide +kernel) rfl ?_
  refine ab_istore (pc := 5) (i := 4) (lv' := [(0, .ref x0), (1, .int x1), (2, .int (nI 0)), (3, .int x1), (4, .int (nI 0))]) (by decide +kernel) (Nat.le_of_ble_eq_true rfl) rfl rfl ?_
  refine ab_few [0, 2, 3, 4] (lv' := [(0, .ref x0), (2, .int (nI 0)), (3, .int x1), (4, .int (nI 0))]) rfl ?_
  refine lX8_ringOf_7 hl F x0 h F (nI 0) x1 (nI 0)
set_option maxRecDepth 100000 in
set_option maxHeartbeats 4000000 in
theorem okX8_ringOf {l : Launch} (hl : l.stackTraces = false) {F : Nat} {x0 : Nat} {x1 : Int32} {h : ab_H} {y : Int32} (e : fX8_ringOf F x0 x1 h = some y) : ab_Met l mX8_ringOf [.ref x0, .int x1] h (.inl (some (.int y)), h) := ab_ofS (io := (fun y : Int32 => ((.inl (some (.int y)), h) : ab_R × ab_H))) (x := y) hl (by decide) rfl (Nat.le_of_ble_eq_true rfl) (wX8_ringOf hl F x0 x1 h) e
def mX8_sameAs : ab_M := (yX8_sameAs, cX8_sameAs, 5, (some .int), { frames := 0, cells := 0, slots := 0, locals := 0 })
theorem iX8_sameAs : ab_MI mX8_sameAs 2 := ⟨kw_09e1f336cf, kw_a869362287, by decide +kernel⟩
def fX8_sameAs_5 (x0 : Nat) (x1 : Nat) (x2 : Int32) (h : ab_H) : Nat → Int32 → Int32 → Option Int32
  | 0, _, _ => none
  | n + 1, x3, x4 => ab_bd (ab_fi h x0 8 0) fun v1 => (if x4 < v1 then (if x4 = x2 then fX8_sameAs_5 x0 x1 x2 h n x3 (x4 + nI 1) else ab_bd (ab_ia 0 h x1 x4) fun v4 => ab_bd (ab_ia 0 h x1 x2) fun v5 => (if v4 = v5 then fX8_sameAs_5 x0 x1 x2 h n (x3 ||| ((nI 1) <<< (x4 &&& 31))) (x4 + nI 1) else fX8_sameAs_5 x0 x1 x2 h n x3 (x4 + nI 1))) else some x3)
def fX8_sameAs (F : Nat) (x0 : Nat) (x1 : Nat) (x2 : Int32) (h : ab_H) : Option Int32 := fX8_sameAs_5 x0 x1 x2 h F (nI 0) (nI 0)
set_option maxRecDepth 100000 in
set_option maxHeartbeats 4000000 in
theorem lX8_sameAs_5 {l : Launch} (hl : l.stackTraces = false) (x0 : Nat) (x1 : Nat) (x2 : Int32) (h : ab_H) : ∀ (n : Nat) (x3 : Int32) (x4 : Int32), ab_S l mX8_sameAs (fun y : Int32 => ((.inl (some (.int y)), h) : ab_R × ab_H)) 0 0 (fX8_sameAs_5 x0 x1 x2 h n x3 x4) 5 [(0, .ref x0), (1, .ref x1), (2, .int x2), (3, .int x3), (4, .int x4)] [] h := by
  intro n
  induction n with
  | zero =>
    intro x3 x4
    exact ab_none
  | succ n ih =>
    intro x3 x4
    rw [fX8_sameAs_5]
    refine ab_iload (pc := 5) (i := 4) (j := 4) (by decide +kernel) rfl ?_
    refine ab_aload_n (pc := 7) (n := 0) (i := 0) (j := 0) (by decide +kernel) rfl rfl ?_
    refine ab_getI (pc := 8) fl_X8_63_8 (by decide +kernel) (fun v1 ev1 => ?_)
    refine ab_icmp_ge (off := 32) (pc := 11) (tgt := 43) (by decide +kernel) (by decide) (fun g2 => ?_) (fun g2 => ?_)
    · refine ab_iload (pc := 14) (i := 4) (j := 4) (by decide +kernel) rfl ?_
      refine ab_iload_n (pc := 16) (n := 2) (i := 2) (j := 2) (by decide +kernel) rfl rfl ?_
      refine ab_icmp_eq (off := 20) (pc := 17) (tgt := 37) (by decide +kernel) (by decide) (fun g3 => ?_) (fun g3 => ?_)
      · refine ab_iinc (pc := 37) (i := 4) (n := 1) (j := 4) (d := nI 1) (lv' := [(0, .ref x0), (1, .ref x1), (2, .int x2), (3, .int x3), (4, .int (x4 + nI 1))]) (by decide +kernel) rfl rfl (Nat.le_of_ble_eq_true rfl) rfl rfl ?_
        refine ab_goto (pc := 40) (off := (-35)) (tgt := 5) (by decide +kernel) (by decide) ?_
        exact ih x3 (x4 + nI 1)
      · refine ab_aload_n (pc := 20) (n := 1) (i := 1) (j := 1) (by decide +kernel) rfl rfl ?_
        refine ab_iload (pc := 21) (i := 4) (j := 4) (by decide +kernel) rfl ?_
        refine ab_iald (pc := 23) (by decide +kernel) (fun v4 ev4 => ?_)
        refine ab_aload_n (pc := 24) (n := 1) (i := 1) (j := 1) (by decide +kernel) rfl rfl ?_
        refine ab_iload_n (pc := 25) (n := 2) (i := 2) (j := 2) (by decide +kernel) rfl rfl ?_
        refine ab_iald (pc := 26) (by decide +kernel) (fun v5 ev5 => ?_)
        refine ab_icmp_ne (off := 10) (pc := 27) (tgt := 37) (by decide +kernel) (by decide) (fun g6 => ?_) (fun g6 => ?_)
        · refine ab_iload_n (pc := 30) (n := 3) (i := 3) (j := 3) (by decide +kernel) rfl rfl ?_
          refine ab_iconst (pc := 31) (n := 1) (v := nI 1) (by decide +kernel) rfl ?_
          refine ab_iload (pc := 32) (i := 4) (j := 4) (by decide +kernel) rfl ?_
          refine ab_ishl (pc := 34) (by decide +kernel) ?_
          refine ab_ior (pc := 35) (by decide +kernel) ?_
          refine ab_istore_n (pc := 36) (n := 3) (i := 3) (lv' := [(0, .ref x0), (1, .ref x1), (2, .int x2), (3, .int (x3 ||| ((nI 1) <<< (x4 &&& 31)))), (4, .int x4)]) (by decide +kernel) rfl (Nat.le_of_ble_eq_true rfl) rfl rfl ?_
          refine ab_iinc (pc := 37) (i := 4) (n := 1) (j := 4) (d := nI 1) (lv' := [(0, .ref x0), (1, .ref x1), (2, .int x2), (3, .int (x3 ||| ((nI 1) <<< (x4 &&& 31)))), (4, .int (x4 + nI 1))]) (by decide +kernel) rfl rfl (Nat.le_of_ble_eq_true rfl) rfl rfl ?_
          refine ab_goto (pc := 40) (off := (-35)) (tgt := 5) (by decide +kernel) (by decide) ?_
          exact ih (x3 ||| ((nI 1) <<< (x4 &&& 31))) (x4 + nI 1)
        · refine ab_iinc (pc := 37) (i := 4) (n := 1) (j := 4) (d := nI 1) (lv' := [(0, .ref x0), (1, .ref x1), (2, .int x2), (3, .int x3), (4, .int (x4 + nI 1))]) (by decide +kernel) rfl rfl (Nat.le_of_ble_eq_true rfl) rfl rfl ?_
          refine ab_goto (pc := 40) (off := (-35)) (tgt := 5) (by decide +kernel) (by decide) ?_
          exact ih x3 (x4 + nI 1)
    · refine ab_iload_n (pc := 43) (n := 3) (i := 3) (j := 3) (by decide +kernel) rfl rfl ?_
      exact ab_iret (pc := 44) (by decide +kernel) rfl rfl (Nat.le_of_ble_eq_true rfl) (Nat.le_of_ble_eq_true rfl)
set_option maxRecDepth 100000 in
set_option maxHeartbeats 4000000 in
theorem wX8_sameAs {l : Launch} (hl : l.stackTraces = false) (F : Nat) (x0 : Nat) (x1 : Nat) (x2 : Int32) (h : ab_H) : ab_S l mX8_sameAs (fun y : Int32 => ((.inl (some (.int y)), h) : ab_R × ab_H)) 0 0 (fX8_sameAs F x0 x1 x2 h) 0 [(0, .ref x0), (1, .ref x1), (2, .int x2)] [] h := by
  unfold fX8_sameAs
  refine ab_iconst (pc := 0) (n := 0) (v := nI 0) (by decide +kernel) rfl ?_
  refine ab_istore_n (pc := 1) (n := 3) (i := 3) (lv' := [(0, .ref x0), (1, .ref x1), (2, .int x2), (3, .int (nI 0))]) (by decide +kernel) rfl (Nat.le_of_ble_eq_true rfl) rfl rfl ?_
  refine ab_iconst (pc := 2) (n := 0) (v := nI 0) (by decide +kernel) rfl ?_
  refine ab_istore (pc := 3) (i := 4) (lv' := [(0, .ref x0), (1, .ref x1), (2, .int x2), (3, .int (nI 0)), (4, .int (nI 0))]) (by decide +kernel) (Nat.le_of_ble_eq_true rfl) rfl rfl ?_
  refine lX8_sameAs_5 hl x0 x1 x2 h F (nI 0) (nI 0)
set_option maxRecDepth 100000 in
set_option maxHeartbeats 4000000 in
theorem okX8_sameAs {l : Launch} (hl : l.stackTraces = false) {F : Nat} {x0 : Nat} {x1 : Nat} {x2 : Int32} {h : ab_H} {y : Int32} (e : fX8_sameAs F x0 x1 x2 h = some y) : ab_Met l mX8_sameAs [.ref x0, .ref x1, .int x2] h (.inl (some (.int y)), h) := ab_ofS (io := (fun y : Int32 => ((.inl (some (.int y)), h) : ab_R × ab_H))) (x := y) hl (by decide) rfl (Nat.le_of_ble_eq_true rfl) (wX8_sameAs hl F x0 x1 x2 h) e
def mX8_hungCount : ab_M := (yX8_hungCount, cX8_hungCount, 3, (some .int), { frames := 0, cells := 0, slots := 0, locals := 0 })
theorem iX8_hungCount : ab_MI mX8_hungCount 0 := ⟨kw_3438f228a5, kw_a869362287, by decide +kernel⟩
def fX8_hungCount_4 (x0 : Nat) (h : ab_H) : Nat → Int32 → Int32 → Option Int32
  | 0, _, _ => none
  | n + 1, x1, x2 => ab_bd (ab_fi h x0 8 1) fun v1 => (if x2 < v1 then ab_bd (ab_fr h x0 8 17) fun v3 => ab_bd (ab_ia 0 h v3 x2) fun v4 => (if v4 = (-1 : Int32) then fX8_hungCount_4 x0 h n x1 (x2 + nI 1) else fX8_hungCount_4 x0 h n (x1 + nI 1) (x2 + nI 1)) else some x1)
def fX8_hungCount (F : Nat) (x0 : Nat) (h : ab_H) : Option Int32 := fX8_hungCount_4 x0 h F (nI 0) (nI 0)
set_option maxRecDepth 100000 in
set_option maxHeartbeats 4000000 in
theorem lX8_hungCount_4 {l : Launch} (hl : l.stackTraces = false) (x0 : Nat) (h : ab_H) : ∀ (n : Nat) (x1 : Int32) (x2 : Int32), ab_S l mX8_hungCount (fun y : Int32 => ((.inl (some (.int y)), h) : ab_R × ab_H)) 0 0 (fX8_hungCount_4 x0 h n x1 x2) 4 [(0, .ref x0), (1, .int x1), (2, .int x2)] [] h := by
  intro n
  induction n with
  | zero =>
    intro x1 x2
    exact ab_none
  | succ n ih =>
    intro x1 x2
    rw [fX8_hungCount_4]
    refine ab_iload_n (pc := 4) (n := 2) (i := 2) (j := 2) (by decide +kernel) rfl rfl ?_
    refine ab_aload_n (pc := 5) (n := 0) (i := 0) (j := 0) (by decide +kernel) rfl rfl ?_
    refine ab_getI (pc := 6) fl_X8_9_8 (by decide +kernel) (fun v1 ev1 => ?_)
    refine ab_icmp_ge (off := 22) (pc := 9) (tgt := 31) (by decide +kernel) (by decide) (fun g2 => ?_) (fun g2 => ?_)
    · refine ab_aload_n (pc := 12) (n := 0) (i := 0) (j := 0) (by decide +kernel) rfl rfl ?_
      refine ab_getR (pc := 13) fl_X8_50_8 (by decide +kernel) (fun v3 ev3 => ?_)
      refine ab_iload_n (pc := 16) (n := 2) (i := 2) (j := 2) (by decide +kernel) rfl rfl ?_
      refine ab_iald (pc := 17) (by decide +kernel) (fun v4 ev4 => ?_)
      refine ab_iconst (pc := 18) (n := -1) (v := (-1 : Int32)) (by decide +kernel) rfl ?_
      refine ab_icmp_eq (off := 6) (pc := 19) (tgt := 25) (by decide +kernel) (by decide) (fun g5 => ?_) (fun g5 => ?_)
      · refine ab_iinc (pc := 25) (i := 2) (n := 1) (j := 2) (d := nI 1) (lv' := [(0, .ref x0), (1, .int x1), (2, .int (x2 + nI 1))]) (by decide +kernel) rfl rfl (Nat.le_of_ble_eq_true rfl) rfl rfl ?_
        refine ab_goto (pc := 28) (off := (-24)) (tgt := 4) (by decide +kernel) (by decide) ?_
        exact ih x1 (x2 + nI 1)
      · refine ab_iinc (pc := 22) (i := 1) (n := 1) (j := 1) (d := nI 1) (lv' := [(0, .ref x0), (1, .int (x1 + nI 1)), (2, .int x2)]) (by decide +kernel) rfl rfl (Nat.le_of_ble_eq_true rfl) rfl rfl ?_
        refine ab_iinc (pc := 25) (i := 2) (n := 1) (j := 2) (d := nI 1) (lv' := [(0, .ref x0), (1, .int (x1 + nI 1)), (2, .int (x2 + nI 1))]) (by decide +kernel) rfl rfl (Nat.le_of_ble_eq_true rfl) rfl rfl ?_
        refine ab_goto (pc := 28) (off := (-24)) (tgt := 4) (by decide +kernel) (by decide) ?_
        exact ih (x1 + nI 1) (x2 + nI 1)
    · refine ab_iload_n (pc := 31) (n := 1) (i := 1) (j := 1) (by decide +kernel) rfl rfl ?_
      exact ab_iret (pc := 32) (by decide +kernel) rfl rfl (Nat.le_of_ble_eq_true rfl) (Nat.le_of_ble_eq_true rfl)
set_option maxRecDepth 100000 in
set_option maxHeartbeats 4000000 in
theorem wX8_hungCount {l : Launch} (hl : l.stackTraces = false) (F : Nat) (x0 : Nat) (h : ab_H) : ab_S l mX8_hungCount (fun y : Int32 => ((.inl (some (.int y)), h) : ab_R × ab_H)) 0 0 (fX8_hungCount F x0 h) 0 [(0, .ref x0)] [] h := by
  unfold fX8_hungCount
  refine ab_iconst (pc := 0) (n := 0) (v := nI 0) (by decide +kernel) rfl ?_
  refine ab_istore_n (pc := 1) (n := 1) (i := 1) (lv' := [(0, .ref x0), (1, .int (nI 0))]) (by decide +kernel) rfl (Nat.le_of_ble_eq_true rfl) rfl rfl ?_
  refine ab_iconst (pc := 2) (n := 0) (v := nI 0) (by decide +kernel) rfl ?_
  refine ab_istore_n (pc := 3) (n := 2) (i := 2) (lv' := [(0, .ref x0), (1, .int (nI 0)), (2, .int (nI 0))]) (by decide +kernel) rfl (Nat.le_of_ble_eq_true rfl) rfl rfl ?_
  refine lX8_hungCount_4 hl x0 h F (nI 0) (nI 0)
set_option maxRecDepth 100000 in
set_option maxHeartbeats 4000000 in
theorem okX8_hungCount {l : Launch} (hl : l.stackTraces = false) {F : Nat} {x0 : Nat} {h : ab_H} {y : Int32} (e : fX8_hungCount F x0 h = some y) : ab_Met l mX8_hungCount [.ref x0] h (.inl (some (.int y)), h) := ab_ofS (io := (fun y : Int32 => ((.inl (some (.int y)), h) : ab_R × ab_H))) (x := y) hl (by decide) rfl (Nat.le_of_ble_eq_true rfl) (wX8_hungCount hl F x0 h) e
def mX8_hangingFaces : ab_M := (yX8_hangingFaces, cX8_hangingFaces, 3, (some .int), { frames := 0, cells := 0, slots := 0, locals := 0 })
theorem iX8_hangingFaces : ab_MI mX8_hangingFaces 0 := ⟨kw_94d8a7d2d3, kw_a869362287, by decide +kernel⟩
def fX8_hangingFaces_4 (x0 : Nat) (h : ab_H) : Nat → Int32 → Int32 → Option Int32
  | 0, _, _ => none
  | n + 1, x1, x2 => ab_bd (ab_fi h x0 8 1) fun v1 => (if x2 < v1 then ab_bd (ab_fr h x0 8 17) fun v3 => ab_bd (ab_ia 0 h v3 x2) fun v4 => (if v4 = (-1 : Int32) then fX8_hangingFaces_4 x0 h n x1 (x2 + nI 1) else ab_bd (ab_fr h x0 8 17) fun v6 => ab_bd (ab_ia 0 h v6 x2) fun v7 => fX8_hangingFaces_4 x0 h n (x1 ||| ((nI 1) <<< (v7 &&& 31))) (x2 + nI 1)) else some x1)
def fX8_hangingFaces (F : Nat) (x0 : Nat) (h : ab_H) : Option Int32 := fX8_hangingFaces_4 x0 h F (nI 0) (nI 0)
set_option maxRecDepth 100000 in
set_option maxHeartbeats 4000000 in
theorem lX8_hangingFaces_4 {l : Launch} (hl : l.stackTraces = false) (x0 : Nat) (h : ab_H) : ∀ (n : Nat) (x1 : Int32) (x2 : Int32), ab_S l mX8_hangingFaces (fun y : Int32 => ((.inl (some (.int y)), h) : ab_R × ab_H)) 0 0 (fX8_hangingFaces_4 x0 h n x1 x2) 4 [(0, .ref x0), (1, .int x1), (2, .int x2)] [] h := by
  intro n
  induction n with
  | zero =>
    intro x1 x2
    exact ab_none
  | succ n ih =>
    intro x1 x2
    rw [fX8_hangingFaces_4]
    refine ab_iload_n (pc := 4) (n := 2) (i := 2) (j := 2) (by decide +kernel) rfl rfl ?_
    refine ab_aload_n (pc := 5) (n := 0) (i := 0) (j := 0) (by decide +kernel) rfl rfl ?_
    refine ab_getI (pc := 6) fl_X8_9_8 (by decide +kernel) (fun v1 ev1 => ?_)
    refine ab_icmp_ge (off := 30) (pc := 9) (tgt := 39) (by decide +kernel) (by decide) (fun g2 => ?_) (fun g2 => ?_)
    · refine ab_aload_n (pc := 12) (n := 0) (i := 0) (j := 0) (by decide +kernel) rfl rfl ?_
      refine ab_getR (pc := 13) fl_X8_50_8 (by decide +kernel) (fun v3 ev3 => ?_)
      refine ab_iload_n (pc := 16) (n := 2) (i := 2) (j := 2) (by decide +kernel) rfl rfl ?_
      refine ab_iald (pc := 17) (by decide +kernel) (fun v4 ev4 => ?_)
      refine ab_iconst (pc := 18) (n := -1) (v := (-1 : Int32)) (by decide +kernel) rfl ?_
      refine ab_icmp_eq (off := 14) (pc := 19) (tgt := 33) (by decide +kernel) (by decide) (fun g5 => ?_) (fun g5 => ?_)
      · refine ab_iinc (pc := 33) (i := 2) (n := 1) (j := 2) (d := nI 1) (lv' := [(0, .ref x0), (1, .int x1), (2, .int (x2 + nI 1))]) (by decide +kernel) rfl rfl (Nat.le_of_ble_eq_true rfl) rfl rfl ?_
        refine ab_goto (pc := 36) (off := (-32)) (tgt := 4) (by decide +kernel) (by decide) ?_
        exact ih x1 (x2 + nI 1)
      · refine ab_iload_n (pc := 22) (n := 1) (i := 1) (j := 1) (by decide +kernel) rfl rfl ?_
        refine ab_iconst (pc := 23) (n := 1) (v := nI 1) (by decide +kernel) rfl ?_
        refine ab_aload_n (pc := 24) (n := 0) (i := 0) (j := 0) (by decide +kernel) rfl rfl ?_
        refine ab_getR (pc := 25) fl_X8_50_8 (by decide +kernel) (fun v6 ev6 => ?_)
        refine ab_iload_n (pc := 28) (n := 2) (i := 2) (j := 2) (by decide +kernel) rfl rfl ?_
        refine ab_iald (pc := 29) (by decide +kernel) (fun v7 ev7 => ?_)
        refine ab_ishl (pc := 30) (by decide +kernel) ?_
        refine ab_ior (pc := 31) (by decide +kernel) ?_
        refine ab_istore_n (pc := 32) (n := 1) (i := 1) (lv' := [(0, .ref x0), (1, .int (x1 ||| ((nI 1) <<< (v7 &&& 31)))), (2, .int x2)]) (by decide +kernel) rfl (Nat.le_of_ble_eq_true rfl) rfl rfl ?_
        refine ab_iinc (pc := 33) (i := 2) (n := 1) (j := 2) (d := nI 1) (lv' := [(0, .ref x0), (1, .int (x1 ||| ((nI 1) <<< (v7 &&& 31)))), (2, .int (x2 + nI 1))]) (by decide +kernel) rfl rfl (Nat.le_of_ble_eq_true rfl) rfl rfl ?_
        refine ab_goto (pc := 36) (off := (-32)) (tgt := 4) (by decide +kernel) (by decide) ?_
        exact ih (x1 ||| ((nI 1) <<< (v7 &&& 31))) (x2 + nI 1)
    · refine ab_iload_n (pc := 39) (n := 1) (i := 1) (j := 1) (by decide +kernel) rfl rfl ?_
      exact ab_iret (pc := 40) (by decide +kernel) rfl rfl (Nat.le_of_ble_eq_true rfl) (Nat.le_of_ble_eq_true rfl)
set_option maxRecDepth 100000 in
set_option maxHeartbeats 4000000 in
theorem wX8_hangingFaces {l : Launch} (hl : l.stackTraces = false) (F : Nat) (x0 : Nat) (h : ab_H) : ab_S l mX8_hangingFaces (fun y : Int32 => ((.inl (some (.int y)), h) : ab_R × ab_H)) 0 0 (fX8_hangingFaces F x0 h) 0 [(0, .ref x0)] [] h := by
  unfold fX8_hangingFaces
  refine ab_iconst (pc := 0) (n := 0) (v := nI 0) (by decide +kernel) rfl ?_
  refine ab_istore_n (pc := 1) (n := 1) (i := 1) (lv' := [(0, .ref x0), (1, .int (nI 0))]) (by decide +kernel) rfl (Nat.le_of_ble_eq_true rfl) rfl rfl ?_
  refine ab_iconst (pc := 2) (n := 0) (v := nI 0) (by decide +kernel) rfl ?_
  refine ab_istore_n (pc := 3) (n := 2) (i := 2) (lv' := [(0, .ref x0), (1, .int (nI 0)), (2, .int (nI 0))]) (by decide +kernel) rfl (Nat.le_of_ble_eq_true rfl) rfl rfl ?_
  refine lX8_hangingFaces_4 hl x0 h F (nI 0) (nI 0)
set_option maxRecDepth 100000 in
set_option maxHeartbeats 4000000 in
theorem okX8_hangingFaces {l : Launch} (hl : l.stackTraces = false) {F : Nat} {x0 : Nat} {h : ab_H} {y : Int32} (e : fX8_hangingFaces F x0 h = some y) : ab_Met l mX8_hangingFaces [.ref x0] h (.inl (some (.int y)), h) := ab_ofS (io := (fun y : Int32 => ((.inl (some (.int y)), h) : ab_R × ab_H))) (x := y) hl (by decide) rfl (Nat.le_of_ble_eq_true rfl) (wX8_hangingFaces hl F x0 h) e
def mX8_ticketHolders : ab_M := (yX8_ticketHolders, cX8_ticketHolders, 3, (some .int), { frames := 0, cells := 0, slots := 0, locals := 0 })
theorem iX8_ticketHolders : ab_MI mX8_ticketHolders 0 := ⟨kw_7d681695be, kw_a869362287, by decide +kernel⟩
def fX8_ticketHolders_4 (x0 : Nat) (h : ab_H) : Nat → Int32 → Int32 → Option Int32
  | 0, _, _ => none
  | n + 1, x1, x2 => ab_bd (ab_fi h x0 8 0) fun v1 => (if x2 < v1 then ab_bd (ab_fr h x0 8 12) fun v3 => ab_bd (ab_ia 0 h v3 x2) fun v4 => (if v4 = (-1 : Int32) then fX8_ticketHolders_4 x0 h n x1 (x2 + nI 1) else fX8_ticketHolders_4 x0 h n (x1 ||| ((nI 1) <<< (x2 &&& 31))) (x2 + nI 1)) else some x1)
def fX8_ticketHolders (F : Nat) (x0 : Nat) (h : ab_H) : Option Int32 := fX8_ticketHolders_4 x0 h F (nI 0) (nI 0)
set_option maxRecDepth 100000 in
set_option maxHeartbeats 4000000 in
theorem lX8_ticketHolders_4 {l : Launch} (hl : l.stackTraces = false) (x0 : Nat) (h : ab_H) : ∀ (n : Nat) (x1 : Int32) (x2 : Int32), ab_S l mX8_ticketHolders (fun y : Int32 => ((.inl (some (.int y)), h) : ab_R × ab_H)) 0 0 (fX8_ticketHolders_4 x0 h n x1 x2) 4 [(0, .ref x0), (1, .int x1), (2, .int x2)] [] h := by
  intro n
  induction n with
  | zero =>
    intro x1 x2
    exact ab_none
  | succ n ih =>
    intro x1 x2
    rw [fX8_ticketHolders_4]
    refine ab_iload_n (pc := 4) (n := 2) (i := 2) (j := 2) (by decide +kernel) rfl rfl ?_
    refine ab_aload_n (pc := 5) (n := 0) (i := 0) (j := 0) (by decide +kernel) rfl rfl ?_
    refine ab_getI (pc := 6) fl_X8_63_8 (by decide +kernel) (fun v1 ev1 => ?_)
    refine ab_icmp_ge (off := 25) (pc := 9) (tgt := 34) (by decide +kernel) (by decide) (fun g2 => ?_) (fun g2 => ?_)
    · refine ab_aload_n (pc := 12) (n := 0) (i := 0) (j := 0) (by decide +kernel) rfl rfl ?_
      refine ab_getR (pc := 13) fl_X8_35_8 (by decide +kernel) (fun v3 ev3 => ?_)
      refine ab_iload_n (pc := 16) (n := 2) (i := 2) (j := 2) (by decide +kernel) rfl rfl ?_
      refine ab_iald (pc := 17) (by decide +kernel) (fun v4 ev4 => ?_)
      refine ab_iconst (pc := 18) (n := -1) (v := (-1 : Int32)) (by decide +kernel) rfl ?_
      refine ab_icmp_eq (off := 9) (pc := 19) (tgt := 28) (by decide +kernel) (by decide) (fun g5 => ?_) (fun g5 => ?_)
      · refine ab_iinc (pc := 28) (i := 2) (n := 1) (j := 2) (d := nI 1) (lv' := [(0, .ref x0), (1, .int x1), (2, .int (x2 + nI 1))]) (by decide +kernel) rfl rfl (Nat.le_of_ble_eq_true rfl) rfl rfl ?_
        refine ab_goto (pc := 31) (off := (-27)) (tgt := 4) (by decide +kernel) (by decide) ?_
        exact ih x1 (x2 + nI 1)
      · refine ab_iload_n (pc := 22) (n := 1) (i := 1) (j := 1) (by decide +kernel) rfl rfl ?_
        refine ab_iconst (pc := 23) (n := 1) (v := nI 1) (by decide +kernel) rfl ?_
        refine ab_iload_n (pc := 24) (n := 2) (i := 2) (j := 2) (by decide +kernel) rfl rfl ?_
        refine ab_ishl (pc := 25) (by decide +kernel) ?_
        refine ab_ior (pc := 26) (by decide +kernel) ?_
        refine ab_istore_n (pc := 27) (n := 1) (i := 1) (lv' := [(0, .ref x0), (1, .int (x1 ||| ((nI 1) <<< (x2 &&& 31)))), (2, .int x2)]) (by decide +kernel) rfl (Nat.le_of_ble_eq_true rfl) rfl rfl ?_
        refine ab_iinc (pc := 28) (i := 2) (n := 1) (j := 2) (d := nI 1) (lv' := [(0, .ref x0), (1, .int (x1 ||| ((nI 1) <<< (x2 &&& 31)))), (2, .int (x2 + nI 1))]) (by decide +kernel) rfl rfl (Nat.le_of_ble_eq_true rfl) rfl rfl ?_
        refine ab_goto (pc := 31) (off := (-27)) (tgt := 4) (by decide +kernel) (by decide) ?_
        exact ih (x1 ||| ((nI 1) <<< (x2 &&& 31))) (x2 + nI 1)
    · refine ab_iload_n (pc := 34) (n := 1) (i := 1) (j := 1) (by decide +kernel) rfl rfl ?_
      exact ab_iret (pc := 35) (by decide +kernel) rfl rfl (Nat.le_of_ble_eq_true rfl) (Nat.le_of_ble_eq_true rfl)
set_option maxRecDepth 100000 in
set_option maxHeartbeats 4000000 in
theorem wX8_ticketHolders {l : Launch} (hl : l.stackTraces = false) (F : Nat) (x0 : Nat) (h : ab_H) : ab_S l mX8_ticketHolders (fun y : Int32 => ((.inl (some (.int y)), h) : ab_R × ab_H)) 0 0 (fX8_ticketHolders F x0 h) 0 [(0, .ref x0)] [] h := by
  unfold fX8_ticketHolders
  refine ab_iconst (pc := 0) (n := 0) (v := nI 0) (by decide +kernel) rfl ?_
  refine ab_istore_n (pc := 1) (n := 1) (i := 1) (lv' := [(0, .ref x0), (1, .int (nI 0))]) (by decide +kernel) rfl (Nat.le_of_ble_eq_true rfl) rfl rfl ?_
  refine ab_iconst (pc := 2) (n := 0) (v := nI 0) (by decide +kernel) rfl ?_
  refine ab_istore_n (pc := 3) (n := 2) (i := 2) (lv' := [(0, .ref x0), (1, .int (nI 0)), (2, .int (nI 0))]) (by decide +kernel) rfl (Nat.le_of_ble_eq_true rfl) rfl rfl ?_
  refine lX8_ticketHolders_4 hl x0 h F (nI 0) (nI 0)
set_option maxRecDepth 100000 in
set_option maxHeartbeats 4000000 in
theorem okX8_ticketHolders {l : Launch} (hl : l.stackTraces = false) {F : Nat} {x0 : Nat} {h : ab_H} {y : Int32} (e : fX8_ticketHolders F x0 h = some y) : ab_Met l mX8_ticketHolders [.ref x0] h (.inl (some (.int y)), h) := ab_ofS (io := (fun y : Int32 => ((.inl (some (.int y)), h) : ab_R × ab_H))) (x := y) hl (by decide) rfl (Nat.le_of_ble_eq_true rfl) (wX8_ticketHolders hl F x0 h) e
def mX8_allMarksCount : ab_M := (yX8_allMarksCount, cX8_allMarksCount, 3, (some .int), { frames := 1, cells := 0, slots := 0, locals := 20 })
theorem iX8_allMarksCount : ab_MI mX8_allMarksCount 0 := ⟨kw_42cbfede3e, kw_a869362287, by decide +kernel⟩
theorem lk_X8_155 : ab_LS RX8 155 mJ6_bitCount_0f7a4 1 := ⟨iJ6_bitCount_0f7a4, kw_4de251fdec, kw_8cce87de8d⟩
def fX8_allMarksCount_4 (x0 : Nat) (h : ab_H) : Nat → Int32 → Int32 → Option Int32
  | 0, _, _ => none
  | n + 1, x1, x2 => ab_bd (ab_fi h x0 8 0) fun v1 => (if x2 < v1 then ab_bd (ab_fr h x0 8 9) fun v3 => ab_bd (ab_ia 0 h v3 x2) fun v4 => ab_bd (fJ6_bitCount_0f7a4 v4 h) fun v5 => fX8_allMarksCount_4 x0 h n (x1 + v5) (x2 + nI 1) else some x1)
def fX8_allMarksCount (F : Nat) (x0 : Nat) (h : ab_H) : Option Int32 := fX8_allMarksCount_4 x0 h F (nI 0) (nI 0)
set_option maxRecDepth 100000 in
set_option maxHeartbeats 4000000 in
theorem lX8_allMarksCount_4 {l : Launch} (hl : l.stackTraces = false) (x0 : Nat) (h : ab_H) : ∀ (n : Nat) (x1 : Int32) (x2 : Int32), ab_S l mX8_allMarksCount (fun y : Int32 => ((.inl (some (.int y)), h) : ab_R × ab_H)) 0 0 (fX8_allMarksCount_4 x0 h n x1 x2) 4 [(0, .ref x0), (1, .int x1), (2, .int x2)] [] h := by
  intro n
  induction n with
  | zero =>
    intro x1 x2
    exact ab_none
  | succ n ih =>
    intro x1 x2
    rw [fX8_allMarksCount_4]
    refine ab_iload_n (pc := 4) (n := 2) (i := 2) (j := 2) (by decide +kernel) rfl rfl ?_
    refine ab_aload_n (pc := 5) (n := 0) (i := 0) (j := 0) (by decide +kernel) rfl rfl ?_
    refine ab_getI (pc := 6) fl_X8_63_8 (by decide +kernel) (fun v1 ev1 => ?_)
    refine ab_icmp_ge (off := 21) (pc := 9) (tgt := 30) (by decide +kernel) (by decide) (fun g2 => ?_) (fun g2 => ?_)
    · refine ab_iload_n (pc := 12) (n := 1) (i := 1) (j := 1) (by decide +kernel) rfl rfl ?_
      refine ab_aload_n (pc := 13) (n := 0) (i := 0) (j := 0) (by decide +kernel) rfl rfl ?_
      refine ab_getR (pc := 14) fl_X8_25_8 (by decide +kernel) (fun v3 ev3 => ?_)
      refine ab_iload_n (pc := 17) (n := 2) (i := 2) (j := 2) (by decide +kernel) rfl rfl ?_
      refine ab_iald (pc := 18) (by decide +kernel) (fun v4 ev4 => ?_)
      refine ab_callSi (As := [.int v4]) (st := [.int x1]) (pc := 19) lk_X8_155 rfl rfl rfl (by decide) rfl (Nat.le_of_ble_eq_true rfl) (by decide +kernel) (fun y9 e9 => okJ6_bitCount_0f7a4 hl e9) (fun v5 ev5 => ?_)
      refine ab_iadd (pc := 22) (by decide +kernel) ?_
      refine ab_istore_n (pc := 23) (n := 1) (i := 1) (lv' := [(0, .ref x0), (1, .int (x1 + v5)), (2, .int x2)]) (by decide +kernel) rfl (Nat.le_of_ble_eq_true rfl) rfl rfl ?_
      refine ab_iinc (pc := 24) (i := 2) (n := 1) (j := 2) (d := nI 1) (lv' := [(0, .ref x0), (1, .int (x1 + v5)), (2, .int (x2 + nI 1))]) (by decide +kernel) rfl rfl (Nat.le_of_ble_eq_true rfl) rfl rfl ?_
      refine ab_goto (pc := 27) (off := (-23)) (tgt := 4) (by decide +kernel) (by decide) ?_
      exact ih (x1 + v5) (x2 + nI 1)
    · refine ab_iload_n (pc := 30) (n := 1) (i := 1) (j := 1) (by decide +kernel) rfl rfl ?_
      exact ab_iret (pc := 31) (by decide +kernel) rfl rfl (Nat.le_of_ble_eq_true rfl) (Nat.le_of_ble_eq_true rfl)
set_option maxRecDepth 100000 in
set_option maxHeartbeats 4000000 in
theorem wX8_allMarksCount {l : Launch} (hl : l.stackTraces = false) (F : Nat) (x0 : Nat) (h : ab_H) : ab_S l mX8_allMarksCount (fun y : Int32 => ((.inl (some (.int y)), h) : ab_R × ab_H)) 0 0 (fX8_allMarksCount F x0 h) 0 [(0, .ref x0)] [] h := by
  unfold fX8_allMarksCount
  refine ab_iconst (pc := 0) (n := 0) (v := nI 0) (by decide +kernel) rfl ?_
  refine ab_istore_n (pc := 1) (n := 1) (i := 1) (lv' := [(0, .ref x0), (1, .int (nI 0))]) (by decide +kernel) rfl (Nat.le_of_ble_eq_true rfl) rfl rfl ?_
  refine ab_iconst (pc := 2) (n := 0) (v := nI 0) (by decide +kernel) rfl ?_
  refine ab_istore_n (pc := 3) (n := 2) (i := 2) (lv' := [(0, .ref x0), (1, .int (nI 0)), (2, .int (nI 0))]) (by decide +kernel) rfl (Nat.le_of_ble_eq_true rfl) rfl rfl ?_
  refine lX8_allMarksCount_4 hl x0 h F (nI 0) (nI 0)
set_option maxRecDepth 100000 in
set_option maxHeartbeats 4000000 in
theorem okX8_allMarksCount {l : Launch} (hl : l.stackTraces = false) {F : Nat} {x0 : Nat} {h : ab_H} {y : Int32} (e : fX8_allMarksCount F x0 h = some y) : ab_Met l mX8_allMarksCount [.ref x0] h (.inl (some (.int y)), h) := ab_ofS (io := (fun y : Int32 => ((.inl (some (.int y)), h) : ab_R × ab_H))) (x := y) hl (by decide) rfl (Nat.le_of_ble_eq_true rfl) (wX8_allMarksCount hl F x0 h) e
def mX9_init : ab_M := (yX9_init, cX9_init, 1, none, { frames := 1, cells := 1, slots := 400, locals := 20 })
theorem iX9_init : ab_MI mX9_init 0 := ⟨kw_94eef37604, kw_65fe9e2a2b, by decide +kernel⟩
def fX9_init (x0 : Nat) (h : ab_H) : Option ab_H := ab_bd (ab_na 0 400 h (nI 400)) fun h1 => ab_bd (ab_fw h1 x0 9 0 (.ref h.1)) fun h2 => some h2
set_option maxRecDepth 100000 in
set_option maxHeartbeats 4000000 in
theorem wX9_init {l : Launch} (hl : l.stackTraces = false) (x0 : Nat) (h : ab_H) : ab_S l mX9_init (fun y : ab_H => ((.inl none, y) : ab_R × ab_H)) 0 0 (fX9_init x0 h) 0 [(0, .ref x0)] [] h := by
  unfold fX9_init
  refine ab_aload_n (pc := 0) (n := 0) (i := 0) (j := 0) (by decide +kernel) rfl rfl ?_
  refine ab_objInit (pc := 1) (index := 3) kw_c37b3403bb kw_3e5ce616d8 kw_90b5ae3dba (Nat.le_of_ble_eq_true rfl) (Nat.le_of_ble_eq_true rfl) (by decide +kernel) ?_
  refine ab_aload_n (pc := 4) (n := 0) (i := 0) (j := 0) (by decide +kernel) rfl rfl ?_
  refine ab_sipush (pc := 5) (n := 400) (v := nI 400) (by decide +kernel) (by decide) ?_
  refine ab_naI (pc := 8) (B := 400) kw_b5d2f4680e (by decide) (Nat.le_of_ble_eq_true rfl) (Nat.le_of_ble_eq_true rfl) (by decide +kernel) (fun h1 eh1 => ?_)
  refine ab_putF (pc := 10) fl_X9_9_9 rfl rfl (fun _ => rfl) (fun _ => rfl) (by decide +kernel) (fun h2 eh2 => ?_)
  exact ab_vret (pc := 13) (by decide +kernel) rfl rfl (Nat.le_of_ble_eq_true rfl) (Nat.le_of_ble_eq_true rfl)
set_option maxRecDepth 100000 in
set_option maxHeartbeats 4000000 in
theorem okX9_init {l : Launch} (hl : l.stackTraces = false) {x0 : Nat} {h : ab_H} {y : ab_H} (e : fX9_init x0 h = some y) : ab_Met l mX9_init [.ref x0] h (.inl none, y) := ab_ofS (io := (fun y : ab_H => ((.inl none, y) : ab_R × ab_H))) (x := y) hl (by decide) rfl (Nat.le_of_ble_eq_true rfl) (wX9_init hl x0 h) e
def mX9_addFour : ab_M := (yX9_addFour, cX9_addFour, 3, none, { frames := 0, cells := 0, slots := 0, locals := 0 })
theorem iX9_addFour : ab_MI mX9_addFour 1 := ⟨kw_b4001cd4c2, kw_65fe9e2a2b, by decide +kernel⟩
def fX9_addFour_3 (x0 : Nat) (x1 : Int32) : Nat → Int32 → ab_H → Option ab_H
  | 0, _, _ => none
  | n + 1, x2, h => (if x2 < 0 then some h else ab_bd (ab_fi h x0 9 1) fun v2 => (if v2 < (nI 400) then ab_bd (ab_fr h x0 9 0) fun v4 => ab_bd (ab_fi h x0 9 1) fun v5 => ab_bd (ab_iw 0 h v4 v5 ((ab_us x1 x2) &&& (nI 255))) fun h6 => ab_bd (ab_fi h6 x0 9 1) fun v7 => ab_bd (ab_fw h6 x0 9 1 (.int (v7 + (nI 1)))) fun h8 => fX9_addFour_3 x0 x1 n (x2 + (-8 : Int32)) h8 else fX9_addFour_3 x0 x1 n (x2 + (-8 : Int32)) h))
def fX9_addFour (F : Nat) (x0 : Nat) (x1 : Int32) (h : ab_H) : Option ab_H := fX9_addFour_3 x0 x1 F (nI 24) h
set_option maxRecDepth 100000 in
set_option maxHeartbeats 4000000 in
theorem lX9_addFour_3 {l : Launch} (hl : l.stackTraces = false) (x0 : Nat) (x1 : Int32) : ∀ (n : Nat) (x2 : Int32) (h : ab_H), ab_S l mX9_addFour (fun y : ab_H => ((.inl none, y) : ab_R × ab_H)) 0 0 (fX9_addFour_3 x0 x1 n x2 h) 3 [(0, .ref x0), (1, .int x1), (2, .int x2)] [] h := by
  intro n
  induction n with
  | zero =>
    intro x2 h
    exact ab_none
  | succ n ih =>
    intro x2 h
    rw [fX9_addFour_3]
    refine ab_iload_n (pc := 3) (n := 2) (i := 2) (j := 2) (by decide +kernel) rfl rfl ?_
    refine ab_if_lt (off := 45) (pc := 4) (tgt := 49) (by decide +kernel) (by decide) (fun g1 => ?_) (fun g1 => ?_)
    · exact ab_vret (pc := 49) (by decide +kernel) rfl rfl (Nat.le_of_ble_eq_true rfl) (Nat.le_of_ble_eq_true rfl)
    · refine ab_aload_n (pc := 7) (n := 0) (i := 0) (j := 0) (by decide +kernel) rfl rfl ?_
      refine ab_getI (pc := 8) fl_X9_15_9 (by decide +kernel) (fun v2 ev2 => ?_)
      refine ab_sipush (pc := 11) (n := 400) (v := nI 400) (by decide +kernel) (by decide) ?_
      refine ab_icmp_ge (off := 29) (pc := 14) (tgt := 43) (by decide +kernel) (by decide) (fun g3 => ?_) (fun g3 => ?_)
      · refine ab_aload_n (pc := 17) (n := 0) (i := 0) (j := 0) (by decide +kernel) rfl rfl ?_
        refine ab_getR (pc := 18) fl_X9_9_9 (by decide +kernel) (fun v4 ev4 => ?_)
        refine ab_aload_n (pc := 21) (n := 0) (i := 0) (j := 0) (by decide +kernel) rfl rfl ?_
        refine ab_getI (pc := 22) fl_X9_15_9 (by decide +kernel) (fun v5 ev5 => ?_)
        refine ab_iload_n (pc := 25) (n := 1) (i := 1) (j := 1) (by decide +kernel) rfl rfl ?_
        refine ab_iload_n (pc := 26) (n := 2) (i := 2) (j := 2) (by decide +kernel) rfl rfl ?_
        refine ab_iushr (pc := 27) (by decide +kernel) ?_
        refine ab_sipush (pc := 28) (n := 255) (v := nI 255) (by decide +kernel) (by decide) ?_
        refine ab_iand (pc := 31) (by decide +kernel) ?_
        refine ab_iast (pc := 32) (by decide +kernel) (fun h6 eh6 => ?_)
        refine ab_aload_n (pc := 33) (n := 0) (i := 0) (j := 0) (by decide +kernel) rfl rfl ?_
        refine ab_dup (pc := 34) (by decide +kernel) rfl ?_
        refine ab_getI (pc := 35) fl_X9_15_9 (by decide +kernel) (fun v7 ev7 => ?_)
        refine ab_iconst (pc := 38) (n := 1) (v := nI 1) (by decide +kernel) rfl ?_
        refine ab_iadd (pc := 39) (by decide +kernel) ?_
        refine ab_put (pc := 40) fl_X9_15_9 rfl (fun _ => rfl) (fun _ => rfl) (by decide +kernel) (fun h8 eh8 => ?_)
        refine ab_iinc (pc := 43) (i := 2) (n := -8) (j := 2) (d := (-8 : Int32)) (lv' := [(0, .ref x0), (1, .int x1), (2, .int (x2 + (-8 : Int32)))]) (by decide +kernel) rfl rfl (Nat.le_of_ble_eq_true rfl) rfl rfl ?_
        refine ab_goto (pc := 46) (off := (-43)) (tgt := 3) (by decide +kernel) (by decide) ?_
        exact ih (x2 + (-8 : Int32)) h8
      · refine ab_iinc (pc := 43) (i := 2) (n := -8) (j := 2) (d := (-8 : Int32)) (lv' := [(0, .ref x0), (1, .int x1), (2, .int (x2 + (-8 : Int32)))]) (by decide +kernel) rfl rfl (Nat.le_of_ble_eq_true rfl) rfl rfl ?_
        refine ab_goto (pc := 46) (off := (-43)) (tgt := 3) (by decide +kernel) (by decide) ?_
        exact ih (x2 + (-8 : Int32)) h
set_option maxRecDepth 100000 in
set_option maxHeartbeats 4000000 in
theorem wX9_addFour {l : Launch} (hl : l.stackTraces = false) (F : Nat) (x0 : Nat) (x1 : Int32) (h : ab_H) : ab_S l mX9_addFour (fun y : ab_H => ((.inl none, y) : ab_R × ab_H)) 0 0 (fX9_addFour F x0 x1 h) 0 [(0, .ref x0), (1, .int x1)] [] h := by
  unfold fX9_addFour
  refine ab_bipush (pc := 0) (n := 24) (v := nI 24) (by decide +kernel) (by decide) ?_
  refine ab_istore_n (pc := 2) (n := 2) (i := 2) (lv' := [(0, .ref x0), (1, .int x1), (2, .int (nI 24))]) (by decide +kernel) rfl (Nat.le_of_ble_eq_true rfl) rfl rfl ?_
  refine lX9_addFour_3 hl x0 x1 F (nI 24) h
set_option maxRecDepth 100000 in
set_option maxHeartbeats 4000000 in
theorem okX9_addFour {l : Launch} (hl : l.stackTraces = false) {F : Nat} {x0 : Nat} {x1 : Int32} {h : ab_H} {y : ab_H} (e : fX9_addFour F x0 x1 h = some y) : ab_Met l mX9_addFour [.ref x0, .int x1] h (.inl none, y) := ab_ofS (io := (fun y : ab_H => ((.inl none, y) : ab_R × ab_H))) (x := y) hl (by decide) rfl (Nat.le_of_ble_eq_true rfl) (wX9_addFour hl F x0 x1 h) e
def mX9_byteAt : ab_M := (yX9_byteAt, cX9_byteAt, 2, (some .int), { frames := 0, cells := 0, slots := 0, locals := 0 })
theorem iX9_byteAt : ab_MI mX9_byteAt 1 := ⟨kw_f32588fae5, kw_65fe9e2a2b, by decide +kernel⟩
def fX9_byteAt (x0 : Nat) (x1 : Int32) (h : ab_H) : Option Int32 := (if x1 < 0 then some (-1 : Int32) else ab_bd (ab_fi h x0 9 1) fun v2 => (if x1 < v2 then ab_bd (ab_fr h x0 9 0) fun v4 => ab_bd (ab_ia 0 h v4 x1) fun v5 => some v5 else some (-1 : Int32)))
set_option maxRecDepth 100000 in
set_option maxHeartbeats 4000000 in
theorem wX9_byteAt {l : Launch} (hl : l.stackTraces = false) (x0 : Nat) (x1 : Int32) (h : ab_H) : ab_S l mX9_byteAt (fun y : Int32 => ((.inl (some (.int y)), h) : ab_R × ab_H)) 0 0 (fX9_byteAt x0 x1 h) 0 [(0, .ref x0), (1, .int x1)] [] h := by
  unfold fX9_byteAt
  refine ab_iload_n (pc := 0) (n := 1) (i := 1) (j := 1) (by decide +kernel) rfl rfl ?_
  refine ab_if_lt (off := 20) (pc := 1) (tgt := 21) (by decide +kernel) (by decide) (fun g1 => ?_) (fun g1 => ?_)
  · refine ab_iconst (pc := 21) (n := -1) (v := (-1 : Int32)) (by decide +kernel) rfl ?_
    exact ab_iret (pc := 22) (by decide +kernel) rfl rfl (Nat.le_of_ble_eq_true rfl) (Nat.le_of_ble_eq_true rfl)
  · refine ab_iload_n (pc := 4) (n := 1) (i := 1) (j := 1) (by decide +kernel) rfl rfl ?_
    refine ab_aload_n (pc := 5) (n := 0) (i := 0) (j := 0) (by decide +kernel) rfl rfl ?_
    refine ab_getI (pc := 6) fl_X9_15_9 (by decide +kernel) (fun v2 ev2 => ?_)
    refine ab_icmp_ge (off := 12) (pc := 9) (tgt := 21) (by decide +kernel) (by decide) (fun g3 => ?_) (fun g3 => ?_)
    · refine ab_aload_n (pc := 12) (n := 0) (i := 0) (j := 0) (by decide +kernel) rfl rfl ?_
      refine ab_getR (pc := 13) fl_X9_9_9 (by decide +kernel) (fun v4 ev4 => ?_)
      refine ab_iload_n (pc := 16) (n := 1) (i := 1) (j := 1) (by decide +kernel) rfl rfl ?_
      refine ab_iald (pc := 17) (by decide +kernel) (fun v5 ev5 => ?_)
      refine ab_goto (pc := 18) (off := 4) (tgt := 22) (by decide +kernel) (by decide) ?_
      exact ab_iret (pc := 22) (by decide +kernel) rfl rfl (Nat.le_of_ble_eq_true rfl) (Nat.le_of_ble_eq_true rfl)
    · refine ab_iconst (pc := 21) (n := -1) (v := (-1 : Int32)) (by decide +kernel) rfl ?_
      exact ab_iret (pc := 22) (by decide +kernel) rfl rfl (Nat.le_of_ble_eq_true rfl) (Nat.le_of_ble_eq_true rfl)
set_option maxRecDepth 100000 in
set_option maxHeartbeats 4000000 in
theorem okX9_byteAt {l : Launch} (hl : l.stackTraces = false) {x0 : Nat} {x1 : Int32} {h : ab_H} {y : Int32} (e : fX9_byteAt x0 x1 h = some y) : ab_Met l mX9_byteAt [.ref x0, .int x1] h (.inl (some (.int y)), h) := ab_ofS (io := (fun y : Int32 => ((.inl (some (.int y)), h) : ab_R × ab_H))) (x := y) hl (by decide) rfl (Nat.le_of_ble_eq_true rfl) (wX9_byteAt hl x0 x1 h) e
def mX11_feed : ab_M := (yX11_feed, cX11_feed, 6, (some .int), { frames := 1, cells := 0, slots := 0, locals := 22 })
theorem iX11_feed : ab_MI mX11_feed 5 := ⟨kw_6c674df420, kw_62b61b7ad3, by decide +kernel⟩
theorem lk_X11_87_9 : ab_LV RX11 87 9 mX9_addFour 1 := ⟨RX9, rfl, iX9_addFour, kw_e14f8b4d1e, kw_f44cbd55d6, kw_be8e6ed018⟩
def fX11_feed (F : Nat) (x0 : Nat) (x1 : Int32) (x2 : Int32) (x3 : Int32) (x4 : Int32) (x5 : Int32) (h : ab_H) : Option (Int32 × ab_H) := ab_bd (ab_fr h x0 11 0) fun v1 => ab_bd (ab_fi h v1 9 1) fun v2 => (if (v2 + (nI 20)) ≤ (nI 400) then ab_bd (ab_fr h x0 11 0) fun v4 => ab_ck (ab_io h v4 9 = true) (ab_bd (fX9_addFour F v4 x1 h) fun h5 => ab_bd (ab_fr h5 x0 11 0) fun v6 => ab_ck (ab_io h5 v6 9 = true) (ab_bd (fX9_addFour F v6 x2 h5) fun h7 => ab_bd (ab_fr h7 x0 11 0) fun v8 => ab_ck (ab_io h7 v8 9 = true) (ab_bd (fX9_addFour F v8 x3 h7) fun h9 => ab_bd (ab_fr h9 x0 11 0) fun v10 => ab_ck (ab_io h9 v10 9 = true) (ab_bd (fX9_addFour F v10 x4 h9) fun h11 => ab_bd (ab_fr h11 x0 11 0) fun v12 => ab_ck (ab_io h11 v12 9 = true) (ab_bd (fX9_addFour F v12 x5 h11) fun h13 => ab_bd (ab_fr h13 x0 11 0) fun v14 => ab_bd (ab_fi h13 v14 9 1) fun v15 => some (v15, h13)))))) else some ((-1 : Int32), h))
set_option maxRecDepth 100000 in
set_option maxHeartbeats 4000000 in
theorem wX11_feed {l : Launch} (hl : l.stackTraces = false) (F : Nat) (x0 : Nat) (x1 : Int32) (x2 : Int32) (x3 : Int32) (x4 : Int32) (x5 : Int32) (h : ab_H) : ab_S l mX11_feed (fun y : (Int32 × ab_H) => ((.inl (some (.int y.1)), y.2) : ab_R × ab_H)) 0 0 (fX11_feed F x0 x1 x2 x3 x4 x5 h) 0 [(0, .ref x0), (1, .int x1), (2, .int x2), (3, .int x3), (4, .int x4), (5, .int x5)] [] h := by
  unfold fX11_feed
  refine ab_aload_n (pc := 0) (n := 0) (i := 0) (j := 0) (by decide +kernel) rfl rfl ?_
  refine ab_getR (pc := 1) fl_X11_17_11 (by decide +kernel) (fun v1 ev1 => ?_)
  refine ab_getI (pc := 4) fl_X11_84_9 (by decide +kernel) (fun v2 ev2 => ?_)
  refine ab_bipush (pc := 7) (n := 20) (v := nI 20) (by decide +kernel) (by decide) ?_
  refine ab_iadd (pc := 9) (by decide +kernel) ?_
  refine ab_sipush (pc := 10) (n := 400) (v := nI 400) (by decide +kernel) (by decide) ?_
  refine ab_icmp_le (off := 5) (pc := 13) (tgt := 18) (by decide +kernel) (by decide) (fun g3 => ?_) (fun g3 => ?_)
  · refine ab_aload_n (pc := 18) (n := 0) (i := 0) (j := 0) (by decide +kernel) rfl rfl ?_
    refine ab_getR (pc := 19) fl_X11_17_11 (by decide +kernel) (fun v4 ev4 => ?_)
    refine ab_iload_n (pc := 22) (n := 1) (i := 1) (j := 1) (by decide +kernel) rfl rfl ?_
    refine ab_callVw (As := [.int x1]) (st := []) (pc := 23) lk_X11_87_9 rfl rfl rfl (by decide) rfl (Nat.le_of_ble_eq_true rfl) (by decide +kernel) (fun y9 e9 => okX9_addFour hl (F := F) e9) (fun h5 eh5 => ?_)
    refine ab_aload_n (pc := 26) (n := 0) (i := 0) (j := 0) (by decide +kernel) rfl rfl ?_
    refine ab_getR (pc := 27) fl_X11_17_11 (by decide +kernel) (fun v6 ev6 => ?_)
    refine ab_iload_n (pc := 30) (n := 2) (i := 2) (j := 2) (by decide +kernel) rfl rfl ?_
    refine ab_callVw (As := [.int x2]) (st := []) (pc := 31) lk_X11_87_9 rfl rfl rfl (by decide) rfl (Nat.le_of_ble_eq_true rfl) (by decide +kernel) (fun y9 e9 => okX9_addFour hl (F := F) e9) (fun h7 eh7 => ?_)
    refine ab_aload_n (pc := 34) (n := 0) (i := 0) (j := 0) (by decide +kernel) rfl rfl ?_
    refine ab_getR (pc := 35) fl_X11_17_11 (by decide +kernel) (fun v8 ev8 => ?_)
    refine ab_iload_n (pc := 38) (n := 3) (i := 3) (j := 3) (by decide +kernel) rfl rfl ?_
    refine ab_callVw (As := [.int x3]) (st := []) (pc := 39) lk_X11_87_9 rfl rfl rfl (by decide) rfl (Nat.le_of_ble_eq_true rfl) (by decide +kernel) (fun y9 e9 => okX9_addFour hl (F := F) e9) (fun h9 eh9 => ?_)
    refine ab_aload_n (pc := 42) (n := 0) (i := 0) (j := 0) (by decide +kernel) rfl rfl ?_
    refine ab_getR (pc := 43) fl_X11_17_11 (by decide +kernel) (fun v10 ev10 => ?_)
    refine ab_iload (pc := 46) (i := 4) (j := 4) (by decide +kernel) rfl ?_
    refine ab_callVw (As := [.int x4]) (st := []) (pc := 48) lk_X11_87_9 rfl rfl rfl (by decide) rfl (Nat.le_of_ble_eq_true rfl) (by decide +kernel) (fun y9 e9 => okX9_addFour hl (F := F) e9) (fun h11 eh11 => ?_)
    refine ab_aload_n (pc := 51) (n := 0) (i := 0) (j := 0) (by decide +kernel) rfl rfl ?_
    refine ab_getR (pc := 52) fl_X11_17_11 (by decide +kernel) (fun v12 ev12 => ?_)
    refine ab_iload (pc := 55) (i := 5) (j := 5) (by decide +kernel) rfl ?_
    refine ab_callVw (As := [.int x5]) (st := []) (pc := 57) lk_X11_87_9 rfl rfl rfl (by decide) rfl (Nat.le_of_ble_eq_true rfl) (by decide +kernel) (fun y9 e9 => okX9_addFour hl (F := F) e9) (fun h13 eh13 => ?_)
    refine ab_aload_n (pc := 60) (n := 0) (i := 0) (j := 0) (by decide +kernel) rfl rfl ?_
    refine ab_getR (pc := 61) fl_X11_17_11 (by decide +kernel) (fun v14 ev14 => ?_)
    refine ab_getI (pc := 64) fl_X11_84_9 (by decide +kernel) (fun v15 ev15 => ?_)
    exact ab_iret (pc := 67) (by decide +kernel) rfl rfl (Nat.le_of_ble_eq_true rfl) (Nat.le_of_ble_eq_true rfl)
  · refine ab_iconst (pc := 16) (n := -1) (v := (-1 : Int32)) (by decide +kernel) rfl ?_
    exact ab_iret (pc := 17) (by decide +kernel) rfl rfl (Nat.le_of_ble_eq_true rfl) (Nat.le_of_ble_eq_true rfl)
set_option maxRecDepth 100000 in
set_option maxHeartbeats 4000000 in
theorem okX11_feed {l : Launch} (hl : l.stackTraces = false) {F : Nat} {x0 : Nat} {x1 : Int32} {x2 : Int32} {x3 : Int32} {x4 : Int32} {x5 : Int32} {h : ab_H} {y : (Int32 × ab_H)} (e : fX11_feed F x0 x1 x2 x3 x4 x5 h = some y) : ab_Met l mX11_feed [.ref x0, .int x1, .int x2, .int x3, .int x4, .int x5] h (.inl (some (.int y.1)), y.2) := ab_ofS (io := (fun y : (Int32 × ab_H) => ((.inl (some (.int y.1)), y.2) : ab_R × ab_H))) (x := y) hl (by decide) rfl (Nat.le_of_ble_eq_true rfl) (wX11_feed hl F x0 x1 x2 x3 x4 x5 h) e
def mX11_end : ab_M := (yX11_end, cX11_end, 2, (some .boolean), { frames := 0, cells := 0, slots := 0, locals := 0 })
theorem iX11_end : ab_MI mX11_end 1 := ⟨kw_89bdb778af, kw_62b61b7ad3, by decide +kernel⟩
def fX11_end (x0 : Nat) (x1 : Int32) (h : ab_H) : Option (Int32 × ab_H) := (if x1 < 0 then some (nI 0, h) else ab_bd (ab_fr h x0 11 0) fun v2 => ab_bd (ab_fi h v2 9 1) fun v3 => (if x1 ≤ v3 then ab_bd (ab_fr h x0 11 0) fun v5 => ab_bd (ab_fw h v5 9 1 (.int x1)) fun h6 => some (nI 1, h6) else some (nI 0, h)))
set_option maxRecDepth 100000 in
set_option maxHeartbeats 4000000 in
theorem wX11_end {l : Launch} (hl : l.stackTraces = false) (x0 : Nat) (x1 : Int32) (h : ab_H) : ab_S l mX11_end (fun y : (Int32 × ab_H) => ((.inl (some (.int y.1)), y.2) : ab_R × ab_H)) 0 0 (fX11_end x0 x1 h) 0 [(0, .ref x0), (1, .int x1)] [] h := by
  unfold fX11_end
  refine ab_iload_n (pc := 0) (n := 1) (i := 1) (j := 1) (by decide +kernel) rfl rfl ?_
  refine ab_if_lt (off := 14) (pc := 1) (tgt := 15) (by decide +kernel) (by decide) (fun g1 => ?_) (fun g1 => ?_)
  · refine ab_iconst (pc := 15) (n := 0) (v := nI 0) (by decide +kernel) rfl ?_
    exact ab_zret (pc := 16) (by decide +kernel) rfl ab_bl0.1 rfl (Nat.le_of_ble_eq_true rfl) (Nat.le_of_ble_eq_true rfl)
  · refine ab_iload_n (pc := 4) (n := 1) (i := 1) (j := 1) (by decide +kernel) rfl rfl ?_
    refine ab_aload_n (pc := 5) (n := 0) (i := 0) (j := 0) (by decide +kernel) rfl rfl ?_
    refine ab_getR (pc := 6) fl_X11_17_11 (by decide +kernel) (fun v2 ev2 => ?_)
    refine ab_getI (pc := 9) fl_X11_84_9 (by decide +kernel) (fun v3 ev3 => ?_)
    refine ab_icmp_le (off := 5) (pc := 12) (tgt := 17) (by decide +kernel) (by decide) (fun g4 => ?_) (fun g4 => ?_)
    · refine ab_aload_n (pc := 17) (n := 0) (i := 0) (j := 0) (by decide +kernel) rfl rfl ?_
      refine ab_getR (pc := 18) fl_X11_17_11 (by decide +kernel) (fun v5 ev5 => ?_)
      refine ab_iload_n (pc := 21) (n := 1) (i := 1) (j := 1) (by decide +kernel) rfl rfl ?_
      refine ab_put (pc := 22) fl_X11_84_9 rfl (fun _ => rfl) (fun _ => rfl) (by decide +kernel) (fun h6 eh6 => ?_)
      refine ab_iconst (pc := 25) (n := 1) (v := nI 1) (by decide +kernel) rfl ?_
      exact ab_zret (pc := 26) (by decide +kernel) rfl ab_bl1.1 rfl (Nat.le_of_ble_eq_true rfl) (Nat.le_of_ble_eq_true rfl)
    · refine ab_iconst (pc := 15) (n := 0) (v := nI 0) (by decide +kernel) rfl ?_
      exact ab_zret (pc := 16) (by decide +kernel) rfl ab_bl0.1 rfl (Nat.le_of_ble_eq_true rfl) (Nat.le_of_ble_eq_true rfl)
set_option maxRecDepth 100000 in
set_option maxHeartbeats 4000000 in
theorem okX11_end {l : Launch} (hl : l.stackTraces = false) {x0 : Nat} {x1 : Int32} {h : ab_H} {y : (Int32 × ab_H)} (e : fX11_end x0 x1 h = some y) : ab_Met l mX11_end [.ref x0, .int x1] h (.inl (some (.int y.1)), y.2) := ab_ofS (io := (fun y : (Int32 × ab_H) => ((.inl (some (.int y.1)), y.2) : ab_R × ab_H))) (x := y) hl (by decide) rfl (Nat.le_of_ble_eq_true rfl) (wX11_end hl x0 x1 h) e
def mX11_fault : ab_M := (yX11_fault, cX11_fault, 1, (some .int), { frames := 0, cells := 0, slots := 0, locals := 0 })
theorem iX11_fault : ab_MI mX11_fault 0 := ⟨kw_2a5719aca8, kw_62b61b7ad3, by decide +kernel⟩
def fX11_fault (x0 : Nat) (h : ab_H) : Option Int32 := ab_bd (ab_fi h x0 11 10) fun v1 => some v1
set_option maxRecDepth 100000 in
set_option maxHeartbeats 4000000 in
theorem wX11_fault {l : Launch} (hl : l.stackTraces = false) (x0 : Nat) (h : ab_H) : ab_S l mX11_fault (fun y : Int32 => ((.inl (some (.int y)), h) : ab_R × ab_H)) 0 0 (fX11_fault x0 h) 0 [(0, .ref x0)] [] h := by
  unfold fX11_fault
  refine ab_aload_n (pc := 0) (n := 0) (i := 0) (j := 0) (by decide +kernel) rfl rfl ?_
  refine ab_getI (pc := 1) fl_X11_80_11 (by decide +kernel) (fun v1 ev1 => ?_)
  exact ab_iret (pc := 4) (by decide +kernel) rfl rfl (Nat.le_of_ble_eq_true rfl) (Nat.le_of_ble_eq_true rfl)
set_option maxRecDepth 100000 in
set_option maxHeartbeats 4000000 in
theorem okX11_fault {l : Launch} (hl : l.stackTraces = false) {x0 : Nat} {h : ab_H} {y : Int32} (e : fX11_fault x0 h = some y) : ab_Met l mX11_fault [.ref x0] h (.inl (some (.int y)), h) := ab_ofS (io := (fun y : Int32 => ((.inl (some (.int y)), h) : ab_R × ab_H))) (x := y) hl (by decide) rfl (Nat.le_of_ble_eq_true rfl) (wX11_fault hl x0 h) e
def mX11_wrong : ab_M := (yX11_wrong, cX11_wrong, 1, (some .int), { frames := 1, cells := 0, slots := 0, locals := 22 })
theorem iX11_wrong : ab_MI mX11_wrong 0 := ⟨kw_a662eda436, kw_62b61b7ad3, by decide +kernel⟩
theorem lk_X11_250_8 : ab_LV RX11 250 8 mX8_wrongOnes 0 := ⟨RX8, rfl, iX8_wrongOnes, kw_c3a2e195ec, kw_44942dcf8f, kw_c43794c5c8⟩
def fX11_wrong (F : Nat) (x0 : Nat) (h : ab_H) : Option Int32 := ab_bd (ab_fr h x0 11 1) fun v1 => ab_ck (ab_io h v1 8 = true) (ab_bd (fX8_wrongOnes F v1 h) fun v2 => some v2)
set_option maxRecDepth 100000 in
set_option maxHeartbeats 4000000 in
theorem wX11_wrong {l : Launch} (hl : l.stackTraces = false) (F : Nat) (x0 : Nat) (h : ab_H) : ab_S l mX11_wrong (fun y : Int32 => ((.inl (some (.int y)), h) : ab_R × ab_H)) 0 0 (fX11_wrong F x0 h) 0 [(0, .ref x0)] [] h := by
  unfold fX11_wrong
  refine ab_aload_n (pc := 0) (n := 0) (i := 0) (j := 0) (by decide +kernel) rfl rfl ?_
  refine ab_getR (pc := 1) fl_X11_26_11 (by decide +kernel) (fun v1 ev1 => ?_)
  refine ab_callVi (As := []) (st := []) (pc := 4) lk_X11_250_8 rfl rfl rfl (by decide) rfl (Nat.le_of_ble_eq_true rfl) (by decide +kernel) (fun y9 e9 => okX8_wrongOnes hl (F := F) e9) (fun v2 ev2 => ?_)
  exact ab_iret (pc := 7) (by decide +kernel) rfl rfl (Nat.le_of_ble_eq_true rfl) (Nat.le_of_ble_eq_true rfl)
set_option maxRecDepth 100000 in
set_option maxHeartbeats 4000000 in
theorem okX11_wrong {l : Launch} (hl : l.stackTraces = false) {F : Nat} {x0 : Nat} {h : ab_H} {y : Int32} (e : fX11_wrong F x0 h = some y) : ab_Met l mX11_wrong [.ref x0] h (.inl (some (.int y)), h) := ab_ofS (io := (fun y : Int32 => ((.inl (some (.int y)), h) : ab_R × ab_H))) (x := y) hl (by decide) rfl (Nat.le_of_ble_eq_true rfl) (wX11_wrong hl F x0 h) e
def mX11_lost : ab_M := (yX11_lost, cX11_lost, 3, (some .int), { frames := 2, cells := 0, slots := 0, locals := 43 })
theorem iX11_lost : ab_MI mX11_lost 0 := ⟨kw_fee5651b01, kw_62b61b7ad3, by decide +kernel⟩
theorem lk_X11_253_8 : ab_LV RX11 253 8 mX8_isLost 1 := ⟨RX8, rfl, iX8_isLost, kw_d8e7f6c9ca, kw_b505c8cc90, kw_2981689498⟩
def fX11_lost_4 (F : Nat) (x0 : Nat) (h : ab_H) : Nat → Int32 → Int32 → Option Int32
  | 0, _, _ => none
  | n + 1, x1, x2 => ab_bd (ab_fr h x0 11 1) fun v1 => ab_bd (ab_fi h v1 8 0) fun v2 => (if x2 < v2 then ab_bd (ab_fr h x0 11 1) fun v4 => ab_ck (ab_io h v4 8 = true) (ab_bd (fX8_isLost F v4 x2 h) fun v5 => (if v5 = 0 then fX11_lost_4 F x0 h n x1 (x2 + nI 1) else fX11_lost_4 F x0 h n (x1 ||| ((nI 1) <<< (x2 &&& 31))) (x2 + nI 1))) else some x1)
def fX11_lost (F : Nat) (x0 : Nat) (h : ab_H) : Option Int32 := fX11_lost_4 F x0 h F (nI 0) (nI 0)
set_option maxRecDepth 100000 in
set_option maxHeartbeats 4000000 in
theorem lX11_lost_4 {l : Launch} (hl : l.stackTraces = false) (F : Nat) (x0 : Nat) (h : ab_H) : ∀ (n : Nat) (x1 : Int32) (x2 : Int32), ab_S l mX11_lost (fun y : Int32 => ((.inl (some (.int y)), h) : ab_R × ab_H)) 0 0 (fX11_lost_4 F x0 h n x1 x2) 4 [(0, .ref x0), (1, .int x1), (2, .int x2)] [] h := by
  intro n
  induction n with
  | zero =>
    intro x1 x2
    exact ab_none
  | succ n ih =>
    intro x1 x2
    rw [fX11_lost_4]
    refine ab_iload_n (pc := 4) (n := 2) (i := 2) (j := 2) (by decide +kernel) rfl rfl ?_
    refine ab_aload_n (pc := 5) (n := 0) (i := 0) (j := 0) (by decide +kernel) rfl rfl ?_
    refine ab_getR (pc := 6) fl_X11_26_11 (by decide +kernel) (fun v1 ev1 => ?_)
    refine ab_getI (pc := 9) fl_X11_180_8 (by decide +kernel) (fun v2 ev2 => ?_)
    refine ab_icmp_ge (off := 26) (pc := 12) (tgt := 38) (by decide +kernel) (by decide) (fun g3 => ?_) (fun g3 => ?_)
    · refine ab_aload_n (pc := 15) (n := 0) (i := 0) (j := 0) (by decide +kernel) rfl rfl ?_
      refine ab_getR (pc := 16) fl_X11_26_11 (by decide +kernel) (fun v4 ev4 => ?_)
      refine ab_iload_n (pc := 19) (n := 2) (i := 2) (j := 2) (by decide +kernel) rfl rfl ?_
      refine ab_callVi (As := [.int x2]) (st := []) (pc := 20) lk_X11_253_8 rfl rfl rfl (by decide) rfl (Nat.le_of_ble_eq_true rfl) (by decide +kernel) (fun y9 e9 => okX8_isLost hl (F := F) e9) (fun v5 ev5 => ?_)
      refine ab_if_eq (off := 9) (pc := 23) (tgt := 32) (by decide +kernel) (by decide) (fun g6 => ?_) (fun g6 => ?_)
      · refine ab_iinc (pc := 32) (i := 2) (n := 1) (j := 2) (d := nI 1) (lv' := [(0, .ref x0), (1, .int x1), (2, .int (x2 + nI 1))]) (by decide +kernel) rfl rfl (Nat.le_of_ble_eq_true rfl) rfl rfl ?_
        refine ab_goto (pc := 35) (off := (-31)) (tgt := 4) (by decide +kernel) (by decide) ?_
        exact ih x1 (x2 + nI 1)
      · refine ab_iload_n (pc := 26) (n := 1) (i := 1) (j := 1) (by decide +kernel) rfl rfl ?_
        refine ab_iconst (pc := 27) (n := 1) (v := nI 1) (by decide +kernel) rfl ?_
        refine ab_iload_n (pc := 28) (n := 2) (i := 2) (j := 2) (by decide +kernel) rfl rfl ?_
        refine ab_ishl (pc := 29) (by decide +kernel) ?_
        refine ab_ior (pc := 30) (by decide +kernel) ?_
        refine ab_istore_n (pc := 31) (n := 1) (i := 1) (lv' := [(0, .ref x0), (1, .int (x1 ||| ((nI 1) <<< (x2 &&& 31)))), (2, .int x2)]) (by decide +kernel) rfl (Nat.le_of_ble_eq_true rfl) rfl rfl ?_
        refine ab_iinc (pc := 32) (i := 2) (n := 1) (j := 2) (d := nI 1) (lv' := [(0, .ref x0), (1, .int (x1 ||| ((nI 1) <<< (x2 &&& 31)))), (2, .int (x2 + nI 1))]) (by decide +kernel) rfl rfl (Nat.le_of_ble_eq_true rfl) rfl rfl ?_
        refine ab_goto (pc := 35) (off := (-31)) (tgt := 4) (by decide +kernel) (by decide) ?_
        exact ih (x1 ||| ((nI 1) <<< (x2 &&& 31))) (x2 + nI 1)
    · refine ab_iload_n (pc := 38) (n := 1) (i := 1) (j := 1) (by decide +kernel) rfl rfl ?_
      exact ab_iret (pc := 39) (by decide +kernel) rfl rfl (Nat.le_of_ble_eq_true rfl) (Nat.le_of_ble_eq_true rfl)
set_option maxRecDepth 100000 in
set_option maxHeartbeats 4000000 in
theorem wX11_lost {l : Launch} (hl : l.stackTraces = false) (F : Nat) (x0 : Nat) (h : ab_H) : ab_S l mX11_lost (fun y : Int32 => ((.inl (some (.int y)), h) : ab_R × ab_H)) 0 0 (fX11_lost F x0 h) 0 [(0, .ref x0)] [] h := by
  unfold fX11_lost
  refine ab_iconst (pc := 0) (n := 0) (v := nI 0) (by decide +kernel) rfl ?_
  refine ab_istore_n (pc := 1) (n := 1) (i := 1) (lv' := [(0, .ref x0), (1, .int (nI 0))]) (by decide +kernel) rfl (Nat.le_of_ble_eq_true rfl) rfl rfl ?_
  refine ab_iconst (pc := 2) (n := 0) (v := nI 0) (by decide +kernel) rfl ?_
  refine ab_istore_n (pc := 3) (n := 2) (i := 2) (lv' := [(0, .ref x0), (1, .int (nI 0)), (2, .int (nI 0))]) (by decide +kernel) rfl (Nat.le_of_ble_eq_true rfl) rfl rfl ?_
  refine lX11_lost_4 hl F x0 h F (nI 0) (nI 0)
set_option maxRecDepth 100000 in
set_option maxHeartbeats 4000000 in
theorem okX11_lost {l : Launch} (hl : l.stackTraces = false) {F : Nat} {x0 : Nat} {h : ab_H} {y : Int32} (e : fX11_lost F x0 h = some y) : ab_Met l mX11_lost [.ref x0] h (.inl (some (.int y)), h) := ab_ofS (io := (fun y : Int32 => ((.inl (some (.int y)), h) : ab_R × ab_H))) (x := y) hl (by decide) rfl (Nat.le_of_ble_eq_true rfl) (wX11_lost hl F x0 h) e
def mX11_unclaimed : ab_M := (yX11_unclaimed, cX11_unclaimed, 3, (some .int), { frames := 1, cells := 0, slots := 0, locals := 22 })
theorem iX11_unclaimed : ab_MI mX11_unclaimed 0 := ⟨kw_02eea8d4d9, kw_62b61b7ad3, by decide +kernel⟩
theorem lk_X11_260_8 : ab_LV RX11 260 8 mX8_ticketIsOut 1 := ⟨RX8, rfl, iX8_ticketIsOut, kw_776fc7df61, kw_efd12e97e5, kw_6ff38e8ada⟩
def fX11_unclaimed_4 (F : Nat) (x0 : Nat) (h : ab_H) : Nat → Int32 → Int32 → Option Int32
  | 0, _, _ => none
  | n + 1, x1, x2 => ab_bd (ab_fr h x0 11 1) fun v1 => ab_bd (ab_fi h v1 8 1) fun v2 => (if x2 < v2 then ab_bd (ab_fr h x0 11 1) fun v4 => ab_bd (ab_fr h v4 8 17) fun v5 => ab_bd (ab_ia 0 h v5 x2) fun v6 => (if v6 = (-1 : Int32) then fX11_unclaimed_4 F x0 h n x1 (x2 + nI 1) else ab_bd (ab_fr h x0 11 1) fun v8 => ab_ck (ab_io h v8 8 = true) (ab_bd (fX8_ticketIsOut F v8 x2 h) fun v9 => (if v9 = 0 then ab_bd (ab_fr h x0 11 1) fun v11 => ab_bd (ab_fr h v11 8 17) fun v12 => ab_bd (ab_ia 0 h v12 x2) fun v13 => fX11_unclaimed_4 F x0 h n (x1 ||| ((nI 1) <<< (v13 &&& 31))) (x2 + nI 1) else fX11_unclaimed_4 F x0 h n x1 (x2 + nI 1)))) else some x1)
def fX11_unclaimed (F : Nat) (x0 : Nat) (h : ab_H) : Option Int32 := fX11_unclaimed_4 F x0 h F (nI 0) (nI 0)
set_option maxRecDepth 100000 in
set_option maxHeartbeats 4000000 in
theorem lX11_unclaimed_4 {l : Launch} (hl : l.stackTraces = false) (F : Nat) (x0 : Nat) (h : ab_H) : ∀ (n : Nat) (x1 : Int32) (x2 : Int32), ab_S l mX11_unclaimed (fun y : Int32 => ((.inl (some (.int y)), h) : ab_R × ab_H)) 0 0 (fX11_unclaimed_4 F x0 h n x1 x2) 4 [(0, .ref x0), (1, .int x1), (2, .int x2)] [] h := by
  intro n
  induction n with
  | zero =>
    intro x1 x2
    exact ab_none
  | succ n ih =>
    intro x1 x2
    rw [fX11_unclaimed_4]
    refine ab_iload_n (pc := 4) (n := 2) (i := 2) (j := 2) (by decide +kernel) rfl rfl ?_
    refine ab_aload_n (pc := 5) (n := 0) (i := 0) (j := 0) (by decide +kernel) rfl rfl ?_
    refine ab_getR (pc := 6) fl_X11_26_11 (by decide +kernel) (fun v1 ev1 => ?_)
    refine ab_getI (pc := 9) fl_X11_257_8 (by decide +kernel) (fun v2 ev2 => ?_)
    refine ab_icmp_ge (off := 47) (pc := 12) (tgt := 59) (by decide +kernel) (by decide) (fun g3 => ?_) (fun g3 => ?_)
    · refine ab_aload_n (pc := 15) (n := 0) (i := 0) (j := 0) (by decide +kernel) rfl rfl ?_
      refine ab_getR (pc := 16) fl_X11_26_11 (by decide +kernel) (fun v4 ev4 => ?_)
      refine ab_getR (pc := 19) fl_X11_177_8 (by decide +kernel) (fun v5 ev5 => ?_)
      refine ab_iload_n (pc := 22) (n := 2) (i := 2) (j := 2) (by decide +kernel) rfl rfl ?_
      refine ab_iald (pc := 23) (by decide +kernel) (fun v6 ev6 => ?_)
      refine ab_iconst (pc := 24) (n := -1) (v := (-1 : Int32)) (by decide +kernel) rfl ?_
      refine ab_icmp_eq (off := 28) (pc := 25) (tgt := 53) (by decide +kernel) (by decide) (fun g7 => ?_) (fun g7 => ?_)
      · refine ab_iinc (pc := 53) (i := 2) (n := 1) (j := 2) (d := nI 1) (lv' := [(0, .ref x0), (1, .int x1), (2, .int (x2 + nI 1))]) (by decide +kernel) rfl rfl (Nat.le_of_ble_eq_true rfl) rfl rfl ?_
        refine ab_goto (pc := 56) (off := (-52)) (tgt := 4) (by decide +kernel) (by decide) ?_
        exact ih x1 (x2 + nI 1)
      · refine ab_aload_n (pc := 28) (n := 0) (i := 0) (j := 0) (by decide +kernel) rfl rfl ?_
        refine ab_getR (pc := 29) fl_X11_26_11 (by decide +kernel) (fun v8 ev8 => ?_)
        refine ab_iload_n (pc := 32) (n := 2) (i := 2) (j := 2) (by decide +kernel) rfl rfl ?_
        refine ab_callVi (As := [.int x2]) (st := []) (pc := 33) lk_X11_260_8 rfl rfl rfl (by decide) rfl (Nat.le_of_ble_eq_true rfl) (by decide +kernel) (fun y9 e9 => okX8_ticketIsOut hl (F := F) e9) (fun v9 ev9 => ?_)
        refine ab_if_ne (off := 17) (pc := 36) (tgt := 53) (by decide +kernel) (by decide) (fun g10 => ?_) (fun g10 => ?_)
        · refine ab_iload_n (pc := 39) (n := 1) (i := 1) (j := 1) (by decide +kernel) rfl rfl ?_
          refine ab_iconst (pc := 40) (n := 1) (v := nI 1) (by decide +kernel) rfl ?_
          refine ab_aload_n (pc := 41) (n := 0) (i := 0) (j := 0) (by decide +kernel) rfl rfl ?_
          refine ab_getR (pc := 42) fl_X11_26_11 (by decide +kernel) (fun v11 ev11 => ?_)
          refine ab_getR (pc := 45) fl_X11_177_8 (by decide +kernel) (fun v12 ev12 => ?_)
          refine ab_iload_n (pc := 48) (n := 2) (i := 2) (j := 2) (by decide +kernel) rfl rfl ?_
          refine ab_iald (pc := 49) (by decide +kernel) (fun v13 ev13 => ?_)
          refine ab_ishl (pc := 50) (by decide +kernel) ?_
          refine ab_ior (pc := 51) (by decide +kernel) ?_
          refine ab_istore_n (pc := 52) (n := 1) (i := 1) (lv' := [(0, .ref x0), (1, .int (x1 ||| ((nI 1) <<< (v13 &&& 31)))), (2, .int x2)]) (by decide +kernel) rfl (Nat.le_of_ble_eq_true rfl) rfl rfl ?_
          refine ab_iinc (pc := 53) (i := 2) (n := 1) (j := 2) (d := nI 1) (lv' := [(0, .ref x0), (1, .int (x1 ||| ((nI 1) <<< (v13 &&& 31)))), (2, .int (x2 + nI 1))]) (by decide +kernel) rfl rfl (Nat.le_of_ble_eq_true rfl) rfl rfl ?_
          refine ab_goto (pc := 56) (off := (-52)) (tgt := 4) (by decide +kernel) (by decide) ?_
          exact ih (x1 ||| ((nI 1) <<< (v13 &&& 31))) (x2 + nI 1)
        · refine ab_iinc (pc := 53) (i := 2) (n := 1) (j := 2) (d := nI 1) (lv' := [(0, .ref x0), (1, .int x1), (2, .int (x2 + nI 1))]) (by decide +kernel) rfl rfl (Nat.le_of_ble_eq_true rfl) rfl rfl ?_
          refine ab_goto (pc := 56) (off := (-52)) (tgt := 4) (by decide +kernel) (by decide) ?_
          exact ih x1 (x2 + nI 1)
    · refine ab_iload_n (pc := 59) (n := 1) (i := 1) (j := 1) (by decide +kernel) rfl rfl ?_
      exact ab_iret (pc := 60) (by decide +kernel) rfl rfl (Nat.le_of_ble_eq_true rfl) (Nat.le_of_ble_eq_true rfl)
set_option maxRecDepth 100000 in
set_option maxHeartbeats 4000000 in
theorem wX11_unclaimed {l : Launch} (hl : l.stackTraces = false) (F : Nat) (x0 : Nat) (h : ab_H) : ab_S l mX11_unclaimed (fun y : Int32 => ((.inl (some (.int y)), h) : ab_R × ab_H)) 0 0 (fX11_unclaimed F x0 h) 0 [(0, .ref x0)] [] h := by
  unfold fX11_unclaimed
  refine ab_iconst (pc := 0) (n := 0) (v := nI 0) (by decide +kernel) rfl ?_
  refine ab_istore_n (pc := 1) (n := 1) (i := 1) (lv' := [(0, .ref x0), (1, .int (nI 0))]) (by decide +kernel) rfl (Nat.le_of_ble_eq_true rfl) rfl rfl ?_
  refine ab_iconst (pc := 2) (n := 0) (v := nI 0) (by decide +kernel) rfl ?_
  refine ab_istore_n (pc := 3) (n := 2) (i := 2) (lv' := [(0, .ref x0), (1, .int (nI 0)), (2, .int (nI 0))]) (by decide +kernel) rfl (Nat.le_of_ble_eq_true rfl) rfl rfl ?_
  refine lX11_unclaimed_4 hl F x0 h F (nI 0) (nI 0)
set_option maxRecDepth 100000 in
set_option maxHeartbeats 4000000 in
theorem okX11_unclaimed {l : Launch} (hl : l.stackTraces = false) {F : Nat} {x0 : Nat} {h : ab_H} {y : Int32} (e : fX11_unclaimed F x0 h = some y) : ab_Met l mX11_unclaimed [.ref x0] h (.inl (some (.int y)), h) := ab_ofS (io := (fun y : Int32 => ((.inl (some (.int y)), h) : ab_R × ab_H))) (x := y) hl (by decide) rfl (Nat.le_of_ble_eq_true rfl) (wX11_unclaimed hl F x0 h) e
def mX11_saved : ab_M := (yX11_saved, cX11_saved, 4, (some .int), { frames := 0, cells := 0, slots := 0, locals := 0 })
theorem iX11_saved : ab_MI mX11_saved 0 := ⟨kw_2b8a3afe76, kw_62b61b7ad3, by decide +kernel⟩
def fX11_saved_4 (x0 : Nat) (h : ab_H) : Nat → Int32 → Int32 → Option Int32
  | 0, _, _ => none
  | n + 1, x1, x2 => ab_bd (ab_fr h x0 11 1) fun v1 => ab_bd (ab_fi h v1 8 0) fun v2 => (if x2 < v2 then ab_bd (ab_fr h x0 11 1) fun v4 => ab_bd (ab_fr h v4 8 13) fun v5 => ab_bd (ab_ia 0 h v5 x2) fun v6 => (if v6 = (-1 : Int32) then fX11_saved_4 x0 h n x1 (x2 + nI 1) else ab_bd (ab_fr h x0 11 1) fun v8 => ab_bd (ab_fr h v8 8 11) fun v9 => ab_bd (ab_ia 0 h v9 x2) fun v10 => (if v10 = v6 then ab_bd (ab_fr h x0 11 1) fun v12 => ab_bd (ab_fr h v12 8 11) fun v13 => ab_bd (ab_ia 0 h v13 v6) fun v14 => (if v14 = x2 then fX11_saved_4 x0 h n (x1 ||| ((nI 1) <<< (x2 &&& 31))) (x2 + nI 1) else fX11_saved_4 x0 h n x1 (x2 + nI 1)) else fX11_saved_4 x0 h n x1 (x2 + nI 1))) else some x1)
def fX11_saved (F : Nat) (x0 : Nat) (h : ab_H) : Option Int32 := fX11_saved_4 x0 h F (nI 0) (nI 0)
set_option maxRecDepth 100000 in
set_option maxHeartbeats 4000000 in
theorem lX11_saved_4 {l : Launch} (hl : l.stackTraces = false) (x0 : Nat) (h : ab_H) : ∀ (n : Nat) (x1 : Int32) (x2 : Int32), ab_S l mX11_saved (fun y : Int32 => ((.inl (some (.int y)), h) : ab_R × ab_H)) 0 0 (fX11_saved_4 x0 h n x1 x2) 4 [(0, .ref x0), (1, .int x1), (2, .int x2)] [] h := by
  intro n
  induction n with
  | zero =>
    intro x1 x2
    exact ab_none
  | succ n ih =>
    intro x1 x2
    rw [fX11_saved_4]
    refine ab_iload_n (pc := 4) (n := 2) (i := 2) (j := 2) (by decide +kernel) rfl rfl ?_
    refine ab_aload_n (pc := 5) (n := 0) (i := 0) (j := 0) (by decide +kernel) rfl rfl ?_
    refine ab_getR (pc := 6) fl_X11_26_11 (by decide +kernel) (fun v1 ev1 => ?_)
    refine ab_getI (pc := 9) fl_X11_180_8 (by decide +kernel) (fun v2 ev2 => ?_)
    refine ab_icmp_ge (off := 56) (pc := 12) (tgt := 68) (by decide +kernel) (by decide) (fun g3 => ?_) (fun g3 => ?_)
    · refine ab_aload_n (pc := 15) (n := 0) (i := 0) (j := 0) (by decide +kernel) rfl rfl ?_
      refine ab_getR (pc := 16) fl_X11_26_11 (by decide +kernel) (fun v4 ev4 => ?_)
      refine ab_getR (pc := 19) fl_X11_144_8 (by decide +kernel) (fun v5 ev5 => ?_)
      refine ab_iload_n (pc := 22) (n := 2) (i := 2) (j := 2) (by decide +kernel) rfl rfl ?_
      refine ab_iald (pc := 23) (by decide +kernel) (fun v6 ev6 => ?_)
      refine ab_istore_n (pc := 24) (n := 3) (i := 3) (lv' := [(0, .ref x0), (1, .int x1), (2, .int x2), (3, .int v6)]) (by decide +kernel) rfl (Nat.le_of_ble_eq_true rfl) rfl rfl ?_
      refine ab_iload_n (pc := 25) (n := 3) (i := 3) (j := 3) (by decide +kernel) rfl rfl ?_
      refine ab_iconst (pc := 26) (n := -1) (v := (-1 : Int32)) (by decide +kernel) rfl ?_
      refine ab_icmp_eq (off := 35) (pc := 27) (tgt := 62) (by decide +kernel) (by decide) (fun g7 => ?_) (fun g7 => ?_)
      · refine ab_iinc (pc := 62) (i := 2) (n := 1) (j := 2) (d := nI 1) (lv' := [(0, .ref x0), (1, .int x1), (2, .int (x2 + nI 1)), (3, .int v6)]) (by decide +kernel) rfl rfl (Nat.le_of_ble_eq_true rfl) rfl rfl ?_
        refine ab_goto (pc := 65) (off := (-61)) (tgt := 4) (by decide +kernel) (by decide) ?_
        refine ab_few [0, 1, 2] (lv' := [(0, .ref x0), (1, .int x1), (2, .int (x2 + nI 1))]) rfl ?_
        exact ih x1 (x2 + nI 1)
      · refine ab_aload_n (pc := 30) (n := 0) (i := 0) (j := 0) (by decide +kernel) rfl rfl ?_
        refine ab_getR (pc := 31) fl_X11_26_11 (by decide +kernel) (fun v8 ev8 => ?_)
        refine ab_getR (pc := 34) fl_X11_138_8 (by decide +kernel) (fun v9 ev9 => ?_)
        refine ab_iload_n (pc := 37) (n := 2) (i := 2) (j := 2) (by decide +kernel) rfl rfl ?_
        refine ab_iald (pc := 38) (by decide +kernel) (fun v10 ev10 => ?_)
        refine ab_iload_n (pc := 39) (n := 3) (i := 3) (j := 3) (by decide +kernel) rfl rfl ?_
        refine ab_icmp_ne (off := 22) (pc := 40) (tgt := 62) (by decide +kernel) (by decide) (fun g11 => ?_) (fun g11 => ?_)
        · refine ab_aload_n (pc := 43) (n := 0) (i := 0) (j := 0) (by decide +kernel) rfl rfl ?_
          refine ab_getR (pc := 44) fl_X11_26_11 (by decide +kernel) (fun v12 ev12 => ?_)
          refine ab_getR (pc := 47) fl_X11_138_8 (by decide +kernel) (fun v13 ev13 => ?_)
          refine ab_iload_n (pc := 50) (n := 3) (i := 3) (j := 3) (by decide +kernel) rfl rfl ?_
          refine ab_iald (pc := 51) (by decide +kernel) (fun v14 ev14 => ?_)
          refine ab_iload_n (pc := 52) (n := 2) (i := 2) (j := 2) (by decide +kernel) rfl rfl ?_
          refine ab_icmp_ne (off := 9) (pc := 53) (tgt := 62) (by decide +kernel) (by decide) (fun g15 => ?_) (fun g15 => ?_)
          · refine ab_iload_n (pc := 56) (n := 1) (i := 1) (j := 1) (by decide +kernel) rfl rfl ?_
            refine ab_iconst (pc := 57) (n := 1) (v := nI 1) (by decide +kernel) rfl ?_
            refine ab_iload_n (pc := 58) (n := 2) (i := 2) (j := 2) (by decide +kernel) rfl rfl ?_
            refine ab_ishl (pc := 59) (by decide +kernel) ?_
            refine ab_ior (pc := 60) (by decide +kernel) ?_
            refine ab_istore_n (pc := 61) (n := 1) (i := 1) (lv' := [(0, .ref x0), (1, .int (x1 ||| ((nI 1) <<< (x2 &&& 31)))), (2, .int x2), (3, .int v6)]) (by decide +kernel) rfl (Nat.le_of_ble_eq_true rfl) rfl rfl ?_
            refine ab_iinc (pc := 62) (i := 2) (n := 1) (j := 2) (d := nI 1) (lv' := [(0, .ref x0), (1, .int (x1 ||| ((nI 1) <<< (x2 &&& 31)))), (2, .int (x2 + nI 1)), (3, .int v6)]) (by decide +kernel) rfl rfl (Nat.le_of_ble_eq_true rfl) rfl rfl ?_
            refine ab_goto (pc := 65) (off := (-61)) (tgt := 4) (by decide +kernel) (by decide) ?_
            refine ab_few [0, 1, 2] (lv' := [(0, .ref x0), (1, .int (x1 ||| ((nI 1) <<< (x2 &&& 31)))), (2, .int (x2 + nI 1))]) rfl ?_
            exact ih (x1 ||| ((nI 1) <<< (x2 &&& 31))) (x2 + nI 1)
          · refine ab_iinc (pc := 62) (i := 2) (n := 1) (j := 2) (d := nI 1) (lv' := [(0, .ref x0), (1, .int x1), (2, .int (x2 + nI 1)), (3, .int v6)]) (by decide +kernel) rfl rfl (Nat.le_of_ble_eq_true rfl) rfl rfl ?_
            refine ab_goto (pc := 65) (off := (-61)) (tgt := 4) (by decide +kernel) (by decide) ?_
            refine ab_few [0, 1, 2] (lv' := [(0, .ref x0), (1, .int x1), (2, .int (x2 + nI 1))]) rfl ?_
            exact ih x1 (x2 + nI 1)
        · refine ab_iinc (pc := 62) (i := 2) (n := 1) (j := 2) (d := nI 1) (lv' := [(0, .ref x0), (1, .int x1), (2, .int (x2 + nI 1)), (3, .int v6)]) (by decide +kernel) rfl rfl (Nat.le_of_ble_eq_true rfl) rfl rfl ?_
          refine ab_goto (pc := 65) (off := (-61)) (tgt := 4) (by decide +kernel) (by decide) ?_
          refine ab_few [0, 1, 2] (lv' := [(0, .ref x0), (1, .int x1), (2, .int (x2 + nI 1))]) rfl ?_
          exact ih x1 (x2 + nI 1)
    · refine ab_iload_n (pc := 68) (n := 1) (i := 1) (j := 1) (by decide +kernel) rfl rfl ?_
      exact ab_iret (pc := 69) (by decide +kernel) rfl rfl (Nat.le_of_ble_eq_true rfl) (Nat.le_of_ble_eq_true rfl)
set_option maxRecDepth 100000 in
set_option maxHeartbeats 4000000 in
theorem wX11_saved {l : Launch} (hl : l.stackTraces = false) (F : Nat) (x0 : Nat) (h : ab_H) : ab_S l mX11_saved (fun y : Int32 => ((.inl (some (.int y)), h) : ab_R × ab_H)) 0 0 (fX11_saved F x0 h) 0 [(0, .ref x0)] [] h := by
  unfold fX11_saved
  refine ab_iconst (pc := 0) (n := 0) (v := nI 0) (by decide +kernel) rfl ?_
  refine ab_istore_n (pc := 1) (n := 1) (i := 1) (lv' := [(0, .ref x0), (1, .int (nI 0))]) (by decide +kernel) rfl (Nat.le_of_ble_eq_true rfl) rfl rfl ?_
  refine ab_iconst (pc := 2) (n := 0) (v := nI 0) (by decide +kernel) rfl ?_
  refine ab_istore_n (pc := 3) (n := 2) (i := 2) (lv' := [(0, .ref x0), (1, .int (nI 0)), (2, .int (nI 0))]) (by decide +kernel) rfl (Nat.le_of_ble_eq_true rfl) rfl rfl ?_
  refine lX11_saved_4 hl x0 h F (nI 0) (nI 0)
set_option maxRecDepth 100000 in
set_option maxHeartbeats 4000000 in
theorem okX11_saved {l : Launch} (hl : l.stackTraces = false) {F : Nat} {x0 : Nat} {h : ab_H} {y : Int32} (e : fX11_saved F x0 h = some y) : ab_Met l mX11_saved [.ref x0] h (.inl (some (.int y)), h) := ab_ofS (io := (fun y : Int32 => ((.inl (some (.int y)), h) : ab_R × ab_H))) (x := y) hl (by decide) rfl (Nat.le_of_ble_eq_true rfl) (wX11_saved hl F x0 h) e
def mX11_partsAllFaces : ab_M := (yX11_partsAllFaces, cX11_partsAllFaces, 4, (some .boolean), { frames := 0, cells := 0, slots := 0, locals := 0 })
theorem iX11_partsAllFaces : ab_MI mX11_partsAllFaces 1 := ⟨kw_313ddf7b87, kw_62b61b7ad3, by decide +kernel⟩
def fX11_partsAllFaces_15 (F : Nat) (x0 : Nat) (x1 : Int32) (x2 : Int32) (h : ab_H) (k52 : Option Int32) : Nat → Int32 → Option Int32
  | 0, _ => none
  | n + 1, x3 => (if x3 < x2 then ab_bd (ab_fr h x0 11 1) fun v5 => ab_bd (ab_fr h v5 8 9) fun v6 => ab_bd (ab_ia 0 h v6 x2) fun v7 => ab_bd (ab_fr h x0 11 1) fun v8 => ab_bd (ab_fr h v8 8 9) fun v9 => ab_bd (ab_ia 0 h v9 x3) fun v10 => (if ((v7 ^^^ v10) &&& x1) = 0 then some (nI 0) else fX11_partsAllFaces_15 F x0 x1 x2 h k52 n (x3 + nI 1)) else k52)
def fX11_partsAllFaces_2 (F : Nat) (x0 : Nat) (x1 : Int32) (h : ab_H) : Nat → Int32 → Option Int32
  | 0, _ => none
  | n + 1, x2 => ab_bd (ab_fr h x0 11 1) fun v1 => ab_bd (ab_fi h v1 8 0) fun v2 => (if x2 < v2 then fX11_partsAllFaces_15 F x0 x1 x2 h (fX11_partsAllFaces_2 F x0 x1 h n (x2 + nI 1)) F (nI 0) else some (nI 1))
def fX11_partsAllFaces (F : Nat) (x0 : Nat) (x1 : Int32) (h : ab_H) : Option Int32 := fX11_partsAllFaces_2 F x0 x1 h F (nI 0)
set_option maxRecDepth 100000 in
set_option maxHeartbeats 4000000 in
theorem lX11_partsAllFaces_15 {l : Launch} (hl : l.stackTraces = false) (F : Nat) (x0 : Nat) (x1 : Int32) (x2 : Int32) (h : ab_H) {k52 : Option Int32} (hk52 : ab_S l mX11_partsAllFaces (fun y : Int32 => ((.inl (some (.int y)), h) : ab_R × ab_H)) 0 0 (k52) 52 [(0, .ref x0), (1, .int x1), (2, .int x2)] [] h) : ∀ (n : Nat) (x3 : Int32), ab_S l mX11_partsAllFaces (fun y : Int32 => ((.inl (some (.int y)), h) : ab_R × ab_H)) 0 0 (fX11_partsAllFaces_15 F x0 x1 x2 h k52 n x3) 15 [(0, .ref x0), (1, .int x1), (2, .int x2), (3, .int x3)] [] h := by
  intro n
  induction n with
  | zero =>
    intro x3
    exact ab_none
  | succ n ih =>
    intro x3
    rw [fX11_partsAllFaces_15]
    refine ab_iload_n (pc := 15) (n := 3) (i := 3) (j := 3) (by decide +kernel) rfl rfl ?_
    refine ab_iload_n (pc := 16) (n := 2) (i := 2) (j := 2) (by decide +kernel) rfl rfl ?_
    refine ab_icmp_ge (off := 35) (pc := 17) (tgt := 52) (by decide +kernel) (by decide) (fun g4 => ?_) (fun g4 => ?_)
    · refine ab_aload_n (pc := 20) (n := 0) (i := 0) (j := 0) (by decide +kernel) rfl rfl ?_
      refine ab_getR (pc := 21) fl_X11_26_11 (by decide +kernel) (fun v5 ev5 => ?_)
      refine ab_getR (pc := 24) fl_X11_159_8 (by decide +kernel) (fun v6 ev6 => ?_)
      refine ab_iload_n (pc := 27) (n := 2) (i := 2) (j := 2) (by decide +kernel) rfl rfl ?_
      refine ab_iald (pc := 28) (by decide +kernel) (fun v7 ev7 => ?_)
      refine ab_aload_n (pc := 29) (n := 0) (i := 0) (j := 0) (by decide +kernel) rfl rfl ?_
      refine ab_getR (pc := 30) fl_X11_26_11 (by decide +kernel) (fun v8 ev8 => ?_)
      refine ab_getR (pc := 33) fl_X11_159_8 (by decide +kernel) (fun v9 ev9 => ?_)
      refine ab_iload_n (pc := 36) (n := 3) (i := 3) (j := 3) (by decide +kernel) rfl rfl ?_
      refine ab_iald (pc := 37) (by decide +kernel) (fun v10 ev10 => ?_)
      refine ab_ixor (pc := 38) (by decide +kernel) ?_
      refine ab_iload_n (pc := 39) (n := 1) (i := 1) (j := 1) (by decide +kernel) rfl rfl ?_
      refine ab_iand (pc := 40) (by decide +kernel) ?_
      refine ab_if_ne (off := 5) (pc := 41) (tgt := 46) (by decide +kernel) (by decide) (fun g11 => ?_) (fun g11 => ?_)
      · refine ab_iconst (pc := 44) (n := 0) (v := nI 0) (by decide +kernel) rfl ?_
        exact ab_zret (pc := 45) (by decide +kernel) rfl ab_bl0.1 rfl (Nat.le_of_ble_eq_true rfl) (Nat.le_of_ble_eq_true rfl)
      · refine ab_iinc (pc := 46) (i := 3) (n := 1) (j := 3) (d := nI 1) (lv' := [(0, .ref x0), (1, .int x1), (2, .int x2), (3, .int (x3 + nI 1))]) (by decide +kernel) rfl rfl (Nat.le_of_ble_eq_true rfl) rfl rfl ?_
        refine ab_goto (pc := 49) (off := (-34)) (tgt := 15) (by decide +kernel) (by decide) ?_
        exact ih (x3 + nI 1)
    · refine ab_few [0, 1, 2] (lv' := [(0, .ref x0), (1, .int x1), (2, .int x2)]) rfl ?_
      exact hk52
set_option maxRecDepth 100000 in
set_option maxHeartbeats 4000000 in
theorem lX11_partsAllFaces_2 {l : Launch} (hl : l.stackTraces = false) (F : Nat) (x0 : Nat) (x1 : Int32) (h : ab_H) : ∀ (n : Nat) (x2 : Int32), ab_S l mX11_partsAllFaces (fun y : Int32 => ((.inl (some (.int y)), h) : ab_R × ab_H)) 0 0 (fX11_partsAllFaces_2 F x0 x1 h n x2) 2 [(0, .ref x0), (1, .int x1), (2, .int x2)] [] h := by
  intro n
  induction n with
  | zero =>
    intro x2
    exact ab_none
  | succ n ih =>
    intro x2
    rw [fX11_partsAllFaces_2]
    refine ab_iload_n (pc := 2) (n := 2) (i := 2) (j := 2) (by decide +kernel) rfl rfl ?_
    refine ab_aload_n (pc := 3) (n := 0) (i := 0) (j := 0) (by decide +kernel) rfl rfl ?_
    refine ab_getR (pc := 4) fl_X11_26_11 (by decide +kernel) (fun v1 ev1 => ?_)
    refine ab_getI (pc := 7) fl_X11_180_8 (by decide +kernel) (fun v2 ev2 => ?_)
    refine ab_icmp_ge (off := 48) (pc := 10) (tgt := 58) (by decide +kernel) (by decide) (fun g3 => ?_) (fun g3 => ?_)
    · refine ab_iconst (pc := 13) (n := 0) (v := nI 0) (by decide +kernel) rfl ?_
      refine ab_istore_n (pc := 14) (n := 3) (i := 3) (lv' := [(0, .ref x0), (1, .int x1), (2, .int x2), (3, .int (nI 0))]) (by decide +kernel) rfl (Nat.le_of_ble_eq_true rfl) rfl rfl ?_
      refine lX11_partsAllFaces_15 hl F x0 x1 x2 h ?_ F (nI 0)
      refine ab_iinc (pc := 52) (i := 2) (n := 1) (j := 2) (d := nI 1) (lv' := [(0, .ref x0), (1, .int x1), (2, .int (x2 + nI 1))]) (by decide +kernel) rfl rfl (Nat.le_of_ble_eq_true rfl) rfl rfl ?_
      refine ab_goto (pc := 55) (off := (-53)) (tgt := 2) (by decide +kernel) (by decide) ?_
      exact ih (x2 + nI 1)
    · refine ab_iconst (pc := 58) (n := 1) (v := nI 1) (by decide +kernel) rfl ?_
      exact ab_zret (pc := 59) (by decide +kernel) rfl ab_bl1.1 rfl (Nat.le_of_ble_eq_true rfl) (Nat.le_of_ble_eq_true rfl)
set_option maxRecDepth 100000 in
set_option maxHeartbeats 4000000 in
theorem wX11_partsAllFaces {l : Launch} (hl : l.stackTraces = false) (F : Nat) (x0 : Nat) (x1 : Int32) (h : ab_H) : ab_S l mX11_partsAllFaces (fun y : Int32 => ((.inl (some (.int y)), h) : ab_R × ab_H)) 0 0 (fX11_partsAllFaces F x0 x1 h) 0 [(0, .ref x0), (1, .int x1)] [] h := by
  unfold fX11_partsAllFaces
  refine ab_iconst (pc := 0) (n := 0) (v := nI 0) (by decide +kernel) rfl ?_
  refine ab_istore_n (pc := 1) (n := 2) (i := 2) (lv' := [(0, .ref x0), (1, .int x1), (2, .int (nI 0))]) (by decide +kernel) rfl (Nat.le_of_ble_eq_true rfl) rfl rfl ?_
  refine lX11_partsAllFaces_2 hl F x0 x1 h F (nI 0)
set_option maxRecDepth 100000 in
set_option maxHeartbeats 4000000 in
theorem okX11_partsAllFaces {l : Launch} (hl : l.stackTraces = false) {F : Nat} {x0 : Nat} {x1 : Int32} {h : ab_H} {y : Int32} (e : fX11_partsAllFaces F x0 x1 h = some y) : ab_Met l mX11_partsAllFaces [.ref x0, .int x1] h (.inl (some (.int y)), h) := ab_ofS (io := (fun y : Int32 => ((.inl (some (.int y)), h) : ab_R × ab_H))) (x := y) hl (by decide) rfl (Nat.le_of_ble_eq_true rfl) (wX11_partsAllFaces hl F x0 x1 h) e
def mX11_unknown : ab_M := (yX11_unknown, cX11_unknown, 3, (some .int), { frames := 1, cells := 0, slots := 0, locals := 24 })
theorem iX11_unknown : ab_MI mX11_unknown 0 := ⟨kw_5767e5c001, kw_62b61b7ad3, by decide +kernel⟩
theorem lk_X11_168_8 : ab_LV RX11 168 8 mX8_sameAs 2 := ⟨RX8, rfl, iX8_sameAs, kw_ff4b1f9a5e, kw_bf967c452a, kw_092254e7e6⟩
def fX11_unknown_4 (F : Nat) (x0 : Nat) (h : ab_H) : Nat → Int32 → Int32 → Option Int32
  | 0, _, _ => none
  | n + 1, x1, x2 => ab_bd (ab_fr h x0 11 1) fun v1 => ab_bd (ab_fi h v1 8 0) fun v2 => (if x2 < v2 then ab_bd (ab_fr h x0 11 1) fun v4 => ab_bd (ab_fr h x0 11 1) fun v5 => ab_bd (ab_fr h v5 8 10) fun v6 => ab_ck (ab_io h v4 8 = true) (ab_bd (fX8_sameAs F v4 v6 x2 h) fun v7 => (if v7 = 0 then fX11_unknown_4 F x0 h n x1 (x2 + nI 1) else fX11_unknown_4 F x0 h n (x1 ||| ((nI 1) <<< (x2 &&& 31))) (x2 + nI 1))) else some x1)
def fX11_unknown (F : Nat) (x0 : Nat) (h : ab_H) : Option Int32 := fX11_unknown_4 F x0 h F (nI 0) (nI 0)
set_option maxRecDepth 100000 in
set_option maxHeartbeats 4000000 in
theorem lX11_unknown_4 {l : Launch} (hl : l.stackTraces = false) (F : Nat) (x0 : Nat) (h : ab_H) : ∀ (n : Nat) (x1 : Int32) (x2 : Int32), ab_S l mX11_unknown (fun y : Int32 => ((.inl (some (.int y)), h) : ab_R × ab_H)) 0 0 (fX11_unknown_4 F x0 h n x1 x2) 4 [(0, .ref x0), (1, .int x1), (2, .int x2)] [] h := by
  intro n
  induction n with
  | zero =>
    intro x1 x2
    exact ab_none
  | succ n ih =>
    intro x1 x2
    rw [fX11_unknown_4]
    refine ab_iload_n (pc := 4) (n := 2) (i := 2) (j := 2) (by decide +kernel) rfl rfl ?_
    refine ab_aload_n (pc := 5) (n := 0) (i := 0) (j := 0) (by decide +kernel) rfl rfl ?_
    refine ab_getR (pc := 6) fl_X11_26_11 (by decide +kernel) (fun v1 ev1 => ?_)
    refine ab_getI (pc := 9) fl_X11_180_8 (by decide +kernel) (fun v2 ev2 => ?_)
    refine ab_icmp_ge (off := 33) (pc := 12) (tgt := 45) (by decide +kernel) (by decide) (fun g3 => ?_) (fun g3 => ?_)
    · refine ab_aload_n (pc := 15) (n := 0) (i := 0) (j := 0) (by decide +kernel) rfl rfl ?_
      refine ab_getR (pc := 16) fl_X11_26_11 (by decide +kernel) (fun v4 ev4 => ?_)
      refine ab_aload_n (pc := 19) (n := 0) (i := 0) (j := 0) (by decide +kernel) rfl rfl ?_
      refine ab_getR (pc := 20) fl_X11_26_11 (by decide +kernel) (fun v5 ev5 => ?_)
      refine ab_getR (pc := 23) fl_X11_134_8 (by decide +kernel) (fun v6 ev6 => ?_)
      refine ab_iload_n (pc := 26) (n := 2) (i := 2) (j := 2) (by decide +kernel) rfl rfl ?_
      refine ab_callVi (As := [.ref v6, .int x2]) (st := []) (pc := 27) lk_X11_168_8 rfl rfl rfl (by decide) rfl (Nat.le_of_ble_eq_true rfl) (by decide +kernel) (fun y9 e9 => okX8_sameAs hl (F := F) e9) (fun v7 ev7 => ?_)
      refine ab_if_eq (off := 9) (pc := 30) (tgt := 39) (by decide +kernel) (by decide) (fun g8 => ?_) (fun g8 => ?_)
      · refine ab_iinc (pc := 39) (i := 2) (n := 1) (j := 2) (d := nI 1) (lv' := [(0, .ref x0), (1, .int x1), (2, .int (x2 + nI 1))]) (by decide +kernel) rfl rfl (Nat.le_of_ble_eq_true rfl) rfl rfl ?_
        refine ab_goto (pc := 42) (off := (-38)) (tgt := 4) (by decide +kernel) (by decide) ?_
        exact ih x1 (x2 + nI 1)
      · refine ab_iload_n (pc := 33) (n := 1) (i := 1) (j := 1) (by decide +kernel) rfl rfl ?_
        refine ab_iconst (pc := 34) (n := 1) (v := nI 1) (by decide +kernel) rfl ?_
        refine ab_iload_n (pc := 35) (n := 2) (i := 2) (j := 2) (by decide +kernel) rfl rfl ?_
        refine ab_ishl (pc := 36) (by decide +kernel) ?_
        refine ab_ior (pc := 37) (by decide +kernel) ?_
        refine ab_istore_n (pc := 38) (n := 1) (i := 1) (lv' := [(0, .ref x0), (1, .int (x1 ||| ((nI 1) <<< (x2 &&& 31)))), (2, .int x2)]) (by decide +kernel) rfl (Nat.le_of_ble_eq_true rfl) rfl rfl ?_
        refine ab_iinc (pc := 39) (i := 2) (n := 1) (j := 2) (d := nI 1) (lv' := [(0, .ref x0), (1, .int (x1 ||| ((nI 1) <<< (x2 &&& 31)))), (2, .int (x2 + nI 1))]) (by decide +kernel) rfl rfl (Nat.le_of_ble_eq_true rfl) rfl rfl ?_
        refine ab_goto (pc := 42) (off := (-38)) (tgt := 4) (by decide +kernel) (by decide) ?_
        exact ih (x1 ||| ((nI 1) <<< (x2 &&& 31))) (x2 + nI 1)
    · refine ab_iload_n (pc := 45) (n := 1) (i := 1) (j := 1) (by decide +kernel) rfl rfl ?_
      exact ab_iret (pc := 46) (by decide +kernel) rfl rfl (Nat.le_of_ble_eq_true rfl) (Nat.le_of_ble_eq_true rfl)
set_option maxRecDepth 100000 in
set_option maxHeartbeats 4000000 in
theorem wX11_unknown {l : Launch} (hl : l.stackTraces = false) (F : Nat) (x0 : Nat) (h : ab_H) : ab_S l mX11_unknown (fun y : Int32 => ((.inl (some (.int y)), h) : ab_R × ab_H)) 0 0 (fX11_unknown F x0 h) 0 [(0, .ref x0)] [] h := by
  unfold fX11_unknown
  refine ab_iconst (pc := 0) (n := 0) (v := nI 0) (by decide +kernel) rfl ?_
  refine ab_istore_n (pc := 1) (n := 1) (i := 1) (lv' := [(0, .ref x0), (1, .int (nI 0))]) (by decide +kernel) rfl (Nat.le_of_ble_eq_true rfl) rfl rfl ?_
  refine ab_iconst (pc := 2) (n := 0) (v := nI 0) (by decide +kernel) rfl ?_
  refine ab_istore_n (pc := 3) (n := 2) (i := 2) (lv' := [(0, .ref x0), (1, .int (nI 0)), (2, .int (nI 0))]) (by decide +kernel) rfl (Nat.le_of_ble_eq_true rfl) rfl rfl ?_
  refine lX11_unknown_4 hl F x0 h F (nI 0) (nI 0)
set_option maxRecDepth 100000 in
set_option maxHeartbeats 4000000 in
theorem okX11_unknown {l : Launch} (hl : l.stackTraces = false) {F : Nat} {x0 : Nat} {h : ab_H} {y : Int32} (e : fX11_unknown F x0 h = some y) : ab_Met l mX11_unknown [.ref x0] h (.inl (some (.int y)), h) := ab_ofS (io := (fun y : Int32 => ((.inl (some (.int y)), h) : ab_R × ab_H))) (x := y) hl (by decide) rfl (Nat.le_of_ble_eq_true rfl) (wX11_unknown hl F x0 h) e
def mX11_minutesAlongTheRow : ab_M := (yX11_minutesAlongTheRow, cX11_minutesAlongTheRow, 4, (some .int), { frames := 0, cells := 0, slots := 0, locals := 0 })
theorem iX11_minutesAlongTheRow : ab_MI mX11_minutesAlongTheRow 0 := ⟨kw_55f6b4599f, kw_62b61b7ad3, by decide +kernel⟩
def fX11_minutesAlongTheRow_6 (x0 : Nat) (h : ab_H) : Nat → Int32 → Int32 → Int32 → Option Int32
  | 0, _, _, _ => none
  | n + 1, x1, x2, x3 => ab_bd (ab_fr h x0 11 1) fun v1 => ab_bd (ab_fi h v1 8 0) fun v2 => (if x3 < v2 then ab_bd (ab_fr h x0 11 1) fun v4 => ab_bd (ab_fr h v4 8 12) fun v5 => ab_bd (ab_ia 0 h v5 x3) fun v6 => (if v6 = (-1 : Int32) then fX11_minutesAlongTheRow_6 x0 h n x1 x2 (x3 + nI 1) else ab_bd (ab_fr h x0 11 1) fun v8 => ab_bd (ab_fr h v8 8 12) fun v9 => ab_bd (ab_ia 0 h v9 x3) fun v10 => fX11_minutesAlongTheRow_6 x0 h n (x1 + nI 1) (x2 + (v10 + (x1 + nI 1))) (x3 + nI 1)) else some x2)
def fX11_minutesAlongTheRow (F : Nat) (x0 : Nat) (h : ab_H) : Option Int32 := fX11_minutesAlongTheRow_6 x0 h F (nI 0) (nI 0) (nI 0)
set_option maxRecDepth 100000 in
set_option maxHeartbeats 4000000 in
theorem lX11_minutesAlongTheRow_6 {l : Launch} (hl : l.stackTraces = false) (x0 : Nat) (h : ab_H) : ∀ (n : Nat) (x1 : Int32) (x2 : Int32) (x3 : Int32), ab_S l mX11_minutesAlongTheRow (fun y : Int32 => ((.inl (some (.int y)), h) : ab_R × ab_H)) 0 0 (fX11_minutesAlongTheRow_6 x0 h n x1 x2 x3) 6 [(0, .ref x0), (1, .int x1), (2, .int x2), (3, .int x3)] [] h := by
  intro n
  induction n with
  | zero =>
    intro x1 x2 x3
    exact ab_none
  | succ n ih =>
    intro x1 x2 x3
    rw [fX11_minutesAlongTheRow_6]
    refine ab_iload_n (pc := 6) (n := 3) (i := 3) (j := 3) (by decide +kernel) rfl rfl ?_
    refine ab_aload_n (pc := 7) (n := 0) (i := 0) (j := 0) (by decide +kernel) rfl rfl ?_
    refine ab_getR (pc := 8) fl_X11_26_11 (by decide +kernel) (fun v1 ev1 => ?_)
    refine ab_getI (pc := 11) fl_X11_180_8 (by decide +kernel) (fun v2 ev2 => ?_)
    refine ab_icmp_ge (off := 39) (pc := 14) (tgt := 53) (by decide +kernel) (by decide) (fun g3 => ?_) (fun g3 => ?_)
    · refine ab_aload_n (pc := 17) (n := 0) (i := 0) (j := 0) (by decide +kernel) rfl rfl ?_
      refine ab_getR (pc := 18) fl_X11_26_11 (by decide +kernel) (fun v4 ev4 => ?_)
      refine ab_getR (pc := 21) fl_X11_141_8 (by decide +kernel) (fun v5 ev5 => ?_)
      refine ab_iload_n (pc := 24) (n := 3) (i := 3) (j := 3) (by decide +kernel) rfl rfl ?_
      refine ab_iald (pc := 25) (by decide +kernel) (fun v6 ev6 => ?_)
      refine ab_iconst (pc := 26) (n := -1) (v := (-1 : Int32)) (by decide +kernel) rfl ?_
      refine ab_icmp_eq (off := 20) (pc := 27) (tgt := 47) (by decide +kernel) (by decide) (fun g7 => ?_) (fun g7 => ?_)
      · refine ab_iinc (pc := 47) (i := 3) (n := 1) (j := 3) (d := nI 1) (lv' := [(0, .ref x0), (1, .int x1), (2, .int x2), (3, .int (x3 + nI 1))]) (by decide +kernel) rfl rfl (Nat.le_of_ble_eq_true rfl) rfl rfl ?_
        refine ab_goto (pc := 50) (off := (-44)) (tgt := 6) (by decide +kernel) (by decide) ?_
        exact ih x1 x2 (x3 + nI 1)
      · refine ab_iinc (pc := 30) (i := 1) (n := 1) (j := 1) (d := nI 1) (lv' := [(0, .ref x0), (1, .int (x1 + nI 1)), (2, .int x2), (3, .int x3)]) (by decide +kernel) rfl rfl (Nat.le_of_ble_eq_true rfl) rfl rfl ?_
        refine ab_iload_n (pc := 33) (n := 2) (i := 2) (j := 2) (by decide +kernel) rfl rfl ?_
        refine ab_aload_n (pc := 34) (n := 0) (i := 0) (j := 0) (by decide +kernel) rfl rfl ?_
        refine ab_getR (pc := 35) fl_X11_26_11 (by decide +kernel) (fun v8 ev8 => ?_)
        refine ab_getR (pc := 38) fl_X11_141_8 (by decide +kernel) (fun v9 ev9 => ?_)
        refine ab_iload_n (pc := 41) (n := 3) (i := 3) (j := 3) (by decide +kernel) rfl rfl ?_
        refine ab_iald (pc := 42) (by decide +kernel) (fun v10 ev10 => ?_)
        refine ab_iload_n (pc := 43) (n := 1) (i := 1) (j := 1) (by decide +kernel) rfl rfl ?_
        refine ab_iadd (pc := 44) (by decide +kernel) ?_
        refine ab_iadd (pc := 45) (by decide +kernel) ?_
        refine ab_istore_n (pc := 46) (n := 2) (i := 2) (lv' := [(0, .ref x0), (1, .int (x1 + nI 1)), (2, .int (x2 + (v10 + (x1 + nI 1)))), (3, .int x3)]) (by decide +kernel) rfl (Nat.le_of_ble_eq_true rfl) rfl rfl ?_
        refine ab_iinc (pc := 47) (i := 3) (n := 1) (j := 3) (d := nI 1) (lv' := [(0, .ref x0), (1, .int (x1 + nI 1)), (2, .int (x2 + (v10 + (x1 + nI 1)))), (3, .int (x3 + nI 1))]) (by decide +kernel) rfl rfl (Nat.le_of_ble_eq_true rfl) rfl rfl ?_
        refine ab_goto (pc := 50) (off := (-44)) (tgt := 6) (by decide +kernel) (by decide) ?_
        exact ih (x1 + nI 1) (x2 + (v10 + (x1 + nI 1))) (x3 + nI 1)
    · refine ab_iload_n (pc := 53) (n := 2) (i := 2) (j := 2) (by decide +kernel) rfl rfl ?_
      exact ab_iret (pc := 54) (by decide +kernel) rfl rfl (Nat.le_of_ble_eq_true rfl) (Nat.le_of_ble_eq_true rfl)
set_option maxRecDepth 100000 in
set_option maxHeartbeats 4000000 in
theorem wX11_minutesAlongTheRow {l : Launch} (hl : l.stackTraces = false) (F : Nat) (x0 : Nat) (h : ab_H) : ab_S l mX11_minutesAlongTheRow (fun y : Int32 => ((.inl (some (.int y)), h) : ab_R × ab_H)) 0 0 (fX11_minutesAlongTheRow F x0 h) 0 [(0, .ref x0)] [] h := by
  unfold fX11_minutesAlongTheRow
  refine ab_iconst (pc := 0) (n := 0) (v := nI 0) (by decide +kernel) rfl ?_
  refine ab_istore_n (pc := 1) (n := 1) (i := 1) (lv' := [(0, .ref x0), (1, .int (nI 0))]) (by decide +kernel) rfl (Nat.le_of_ble_eq_true rfl) rfl rfl ?_
  refine ab_iconst (pc := 2) (n := 0) (v := nI 0) (by decide +kernel) rfl ?_
  refine ab_istore_n (pc := 3) (n := 2) (i := 2) (lv' := [(0, .ref x0), (1, .int (nI 0)), (2, .int (nI 0))]) (by decide +kernel) rfl (Nat.le_of_ble_eq_true rfl) rfl rfl ?_
  refine ab_iconst (pc := 4) (n := 0) (v := nI 0) (by decide +kernel) rfl ?_
  refine ab_istore_n (pc := 5) (n := 3) (i := 3) (lv' := [(0, .ref x0), (1, .int (nI 0)), (2, .int (nI 0)), (3, .int (nI 0))]) (by decide +kernel) rfl (Nat.le_of_ble_eq_true rfl) rfl rfl ?_
  refine lX11_minutesAlongTheRow_6 hl x0 h F (nI 0) (nI 0) (nI 0)
set_option maxRecDepth 100000 in
set_option maxHeartbeats 4000000 in
theorem okX11_minutesAlongTheRow {l : Launch} (hl : l.stackTraces = false) {F : Nat} {x0 : Nat} {h : ab_H} {y : Int32} (e : fX11_minutesAlongTheRow F x0 h = some y) : ab_Met l mX11_minutesAlongTheRow [.ref x0] h (.inl (some (.int y)), h) := ab_ofS (io := (fun y : Int32 => ((.inl (some (.int y)), h) : ab_R × ab_H))) (x := y) hl (by decide) rfl (Nat.le_of_ble_eq_true rfl) (wX11_minutesAlongTheRow hl F x0 h) e
def mX11_servedAheadOf : ab_M := (yX11_servedAheadOf, cX11_servedAheadOf, 5, (some .int), { frames := 0, cells := 0, slots := 0, locals := 0 })
theorem iX11_servedAheadOf : ab_MI mX11_servedAheadOf 1 := ⟨kw_2ed46a8d10, kw_62b61b7ad3, by decide +kernel⟩
def fX11_servedAheadOf_4 (x0 : Nat) (x1 : Int32) (h : ab_H) : Nat → Int32 → Int32 → Option Int32
  | 0, _, _ => none
  | n + 1, x2, x3 => ab_bd (ab_fr h x0 11 1) fun v1 => ab_bd (ab_fi h v1 8 0) fun v2 => (if x3 < v2 then ab_bd (ab_fr h x0 11 1) fun v4 => ab_bd (ab_fr h v4 8 12) fun v5 => ab_bd (ab_ia 0 h v5 x3) fun v6 => ab_bd (ab_fr h x0 11 1) fun v7 => ab_bd (ab_fr h v7 8 12) fun v8 => ab_bd (ab_ia 0 h v8 x1) fun v9 => ab_bd (ab_fr h x0 11 1) fun v10 => ab_bd (ab_fr h v10 8 12) fun v11 => ab_bd (ab_ia 0 h v11 x3) fun v12 => (if v12 = (-1 : Int32) then fX11_servedAheadOf_4 x0 x1 h n x2 (x3 + nI 1) else (if (v6 - v9) < 0 then fX11_servedAheadOf_4 x0 x1 h n (x2 + nI 1) (x3 + nI 1) else (if (v6 - v9) = 0 then (if x3 < x1 then fX11_servedAheadOf_4 x0 x1 h n (x2 + nI 1) (x3 + nI 1) else fX11_servedAheadOf_4 x0 x1 h n x2 (x3 + nI 1)) else fX11_servedAheadOf_4 x0 x1 h n x2 (x3 + nI 1)))) else some x2)
def fX11_servedAheadOf (F : Nat) (x0 : Nat) (x1 : Int32) (h : ab_H) : Option Int32 := fX11_servedAheadOf_4 x0 x1 h F (nI 0) (nI 0)
set_option maxRecDepth 100000 in
set_option maxHeartbeats 4000000 in
theorem lX11_servedAheadOf_4 {l : Launch} (hl : l.stackTraces = false) (x0 : Nat) (x1 : Int32) (h : ab_H) : ∀ (n : Nat) (x2 : Int32) (x3 : Int32), ab_S l mX11_servedAheadOf (fun y : Int32 => ((.inl (some (.int y)), h) : ab_R × ab_H)) 0 0 (fX11_servedAheadOf_4 x0 x1 h n x2 x3) 4 [(0, .ref x0), (1, .int x1), (2, .int x2), (3, .int x3)] [] h := by
  intro n
  induction n with
  | zero =>
    intro x2 x3
    exact ab_none
  | succ n ih =>
    intro x2 x3
    rw [fX11_servedAheadOf_4]
    refine ab_iload_n (pc := 4) (n := 3) (i := 3) (j := 3) (by decide +kernel) rfl rfl ?_
    refine ab_aload_n (pc := 5) (n := 0) (i := 0) (j := 0) (by decide +kernel) rfl rfl ?_
    refine ab_getR (pc := 6) fl_X11_26_11 (by decide +kernel) (fun v1 ev1 => ?_)
    refine ab_getI (pc := 9) fl_X11_180_8 (by decide +kernel) (fun v2 ev2 => ?_)
    refine ab_icmp_ge (off := 61) (pc := 12) (tgt := 73) (by decide +kernel) (by decide) (fun g3 => ?_) (fun g3 => ?_)
    · refine ab_aload_n (pc := 15) (n := 0) (i := 0) (j := 0) (by decide +kernel) rfl rfl ?_
      refine ab_getR (pc := 16) fl_X11_26_11 (by decide +kernel) (fun v4 ev4 => ?_)
      refine ab_getR (pc := 19) fl_X11_141_8 (by decide +kernel) (fun v5 ev5 => ?_)
      refine ab_iload_n (pc := 22) (n := 3) (i := 3) (j := 3) (by decide +kernel) rfl rfl ?_
      refine ab_iald (pc := 23) (by decide +kernel) (fun v6 ev6 => ?_)
      refine ab_aload_n (pc := 24) (n := 0) (i := 0) (j := 0) (by decide +kernel) rfl rfl ?_
      refine ab_getR (pc := 25) fl_X11_26_11 (by decide +kernel) (fun v7 ev7 => ?_)
      refine ab_getR (pc := 28) fl_X11_141_8 (by decide +kernel) (fun v8 ev8 => ?_)
      refine ab_iload_n (pc := 31) (n := 1) (i := 1) (j := 1) (by decide +kernel) rfl rfl ?_
      refine ab_iald (pc := 32) (by decide +kernel) (fun v9 ev9 => ?_)
      refine ab_isub (pc := 33) (by decide +kernel) ?_
      refine ab_istore (pc := 34) (i := 4) (lv' := [(0, .ref x0), (1, .int x1), (2, .int x2), (3, .int x3), (4, .int (v6 - v9))]) (by decide +kernel) (Nat.le_of_ble_eq_true rfl) rfl rfl ?_
      refine ab_aload_n (pc := 36) (n := 0) (i := 0) (j := 0) (by decide +kernel) rfl rfl ?_
      refine ab_getR (pc := 37) fl_X11_26_11 (by decide +kernel) (fun v10 ev10 => ?_)
      refine ab_getR (pc := 40) fl_X11_141_8 (by decide +kernel) (fun v11 ev11 => ?_)
      refine ab_iload_n (pc := 43) (n := 3) (i := 3) (j := 3) (by decide +kernel) rfl rfl ?_
      refine ab_iald (pc := 44) (by decide +kernel) (fun v12 ev12 => ?_)
      refine ab_iconst (pc := 45) (n := -1) (v := (-1 : Int32)) (by decide +kernel) rfl ?_
      refine ab_icmp_eq (off := 21) (pc := 46) (tgt := 67) (by decide +kernel) (by decide) (fun g13 => ?_) (fun g13 => ?_)
      · refine ab_iinc (pc := 67) (i := 3) (n := 1) (j := 3) (d := nI 1) (lv' := [(0, .ref x0), (1, .int x1), (2, .int x2), (3, .int (x3 + nI 1)), (4, .int (v6 - v9))]) (by decide +kernel) rfl rfl (Nat.le_of_ble_eq_true rfl) rfl rfl ?_
        refine ab_goto (pc := 70) (off := (-66)) (tgt := 4) (by decide +kernel) (by decide) ?_
        refine ab_few [0, 1, 2, 3] (lv' := [(0, .ref x0), (1, .int x1), (2, .int x2), (3, .int (x3 + nI 1))]) rfl ?_
        exact ih x2 (x3 + nI 1)
      · refine ab_iload (pc := 49) (i := 4) (j := 4) (by decide +kernel) rfl ?_
        refine ab_if_lt (off := 13) (pc := 51) (tgt := 64) (by decide +kernel) (by decide) (fun g14 => ?_) (fun g14 => ?_)
        · refine ab_iinc (pc := 64) (i := 2) (n := 1) (j := 2) (d := nI 1) (lv' := [(0, .ref x0), (1, .int x1), (2, .int (x2 + nI 1)), (3, .int x3), (4, .int (v6 - v9))]) (by decide +kernel) rfl rfl (Nat.le_of_ble_eq_true rfl) rfl rfl ?_
          refine ab_iinc (pc := 67) (i := 3) (n := 1) (j := 3) (d := nI 1) (lv' := [(0, .ref x0), (1, .int x1), (2, .int (x2 + nI 1)), (3, .int (x3 + nI 1)), (4, .int (v6 - v9))]) (by decide +kernel) rfl rfl (Nat.le_of_ble_eq_true rfl) rfl rfl ?_
          refine ab_goto (pc := 70) (off := (-66)) (tgt := 4) (by decide +kernel) (by decide) ?_
          refine ab_few [0, 1, 2, 3] (lv' := [(0, .ref x0), (1, .int x1), (2, .int (x2 + nI 1)), (3, .int (x3 + nI 1))]) rfl ?_
          exact ih (x2 + nI 1) (x3 + nI 1)
        · refine ab_iload (pc := 54) (i := 4) (j := 4) (by decide +kernel) rfl ?_
          refine ab_if_ne (off := 11) (pc := 56) (tgt := 67) (by decide +kernel) (by decide) (fun g15 => ?_) (fun g15 => ?_)
          · refine ab_iload_n (pc := 59) (n := 3) (i := 3) (j := 3) (by decide +kernel) rfl rfl ?_
            refine ab_iload_n (pc := 60) (n := 1) (i := 1) (j := 1) (by decide +kernel) rfl rfl ?_
            refine ab_icmp_ge (off := 6) (pc := 61) (tgt := 67) (by decide +kernel) (by decide) (fun g16 => ?_) (fun g16 => ?_)
            · refine ab_iinc (pc := 64) (i := 2) (n := 1) (j := 2) (d := nI 1) (lv' := [(0, .ref x0), (1, .int x1), (2, .int (x2 + nI 1)), (3, .int x3), (4, .int (v6 - v9))]) (by decide +kernel) rfl rfl (Nat.le_of_ble_eq_true rfl) rfl rfl ?_
              refine ab_iinc (pc := 67) (i := 3) (n := 1) (j := 3) (d := nI 1) (lv' := [(0, .ref x0), (1, .int x1), (2, .int (x2 + nI 1)), (3, .int (x3 + nI 1)), (4, .int (v6 - v9))]) (by decide +kernel) rfl rfl (Nat.le_of_ble_eq_true rfl) rfl rfl ?_
              refine ab_goto (pc := 70) (off := (-66)) (tgt := 4) (by decide +kernel) (by decide) ?_
              refine ab_few [0, 1, 2, 3] (lv' := [(0, .ref x0), (1, .int x1), (2, .int (x2 + nI 1)), (3, .int (x3 + nI 1))]) rfl ?_
              exact ih (x2 + nI 1) (x3 + nI 1)
            · refine ab_iinc (pc := 67) (i := 3) (n := 1) (j := 3) (d := nI 1) (lv' := [(0, .ref x0), (1, .int x1), (2, .int x2), (3, .int (x3 + nI 1)), (4, .int (v6 - v9))]) (by decide +kernel) rfl rfl (Nat.le_of_ble_eq_true rfl) rfl rfl ?_
              refine ab_goto (pc := 70) (off := (-66)) (tgt := 4) (by decide +kernel) (by decide) ?_
              refine ab_few [0, 1, 2, 3] (lv' := [(0, .ref x0), (1, .int x1), (2, .int x2), (3, .int (x3 + nI 1))]) rfl ?_
              exact ih x2 (x3 + nI 1)
          · refine ab_iinc (pc := 67) (i := 3) (n := 1) (j := 3) (d := nI 1) (lv' := [(0, .ref x0), (1, .int x1), (2, .int x2), (3, .int (x3 + nI 1)), (4, .int (v6 - v9))]) (by decide +kernel) rfl rfl (Nat.le_of_ble_eq_true rfl) rfl rfl ?_
            refine ab_goto (pc := 70) (off := (-66)) (tgt := 4) (by decide +kernel) (by decide) ?_
            refine ab_few [0, 1, 2, 3] (lv' := [(0, .ref x0), (1, .int x1), (2, .int x2), (3, .int (x3 + nI 1))]) rfl ?_
            exact ih x2 (x3 + nI 1)
    · refine ab_iload_n (pc := 73) (n := 2) (i := 2) (j := 2) (by decide +kernel) rfl rfl ?_
      exact ab_iret (pc := 74) (by decide +kernel) rfl rfl (Nat.le_of_ble_eq_true rfl) (Nat.le_of_ble_eq_true rfl)
set_option maxRecDepth 100000 in
set_option maxHeartbeats 4000000 in
theorem wX11_servedAheadOf {l : Launch} (hl : l.stackTraces = false) (F : Nat) (x0 : Nat) (x1 : Int32) (h : ab_H) : ab_S l mX11_servedAheadOf (fun y : Int32 => ((.inl (some (.int y)), h) : ab_R × ab_H)) 0 0 (fX11_servedAheadOf F x0 x1 h) 0 [(0, .ref x0), (1, .int x1)] [] h := by
  unfold fX11_servedAheadOf
  refine ab_iconst (pc := 0) (n := 0) (v := nI 0) (by decide +kernel) rfl ?_
  refine ab_istore_n (pc := 1) (n := 2) (i := 2) (lv' := [(0, .ref x0), (1, .int x1), (2, .int (nI 0))]) (by decide +kernel) rfl (Nat.le_of_ble_eq_true rfl) rfl rfl ?_
  refine ab_iconst (pc := 2) (n := 0) (v := nI 0) (by decide +kernel) rfl ?_
  refine ab_istore_n (pc := 3) (n := 3) (i := 3) (lv' := [(0, .ref x0), (1, .int x1), (2, .int (nI 0)), (3, .int (nI 0))]) (by decide +kernel) rfl (Nat.le_of_ble_eq_true rfl) rfl rfl ?_
  refine lX11_servedAheadOf_4 hl x0 x1 h F (nI 0) (nI 0)
set_option maxRecDepth 100000 in
set_option maxHeartbeats 4000000 in
theorem okX11_servedAheadOf {l : Launch} (hl : l.stackTraces = false) {F : Nat} {x0 : Nat} {x1 : Int32} {h : ab_H} {y : Int32} (e : fX11_servedAheadOf F x0 x1 h = some y) : ab_Met l mX11_servedAheadOf [.ref x0, .int x1] h (.inl (some (.int y)), h) := ab_ofS (io := (fun y : Int32 => ((.inl (some (.int y)), h) : ab_R × ab_H))) (x := y) hl (by decide) rfl (Nat.le_of_ble_eq_true rfl) (wX11_servedAheadOf hl F x0 x1 h) e
def mX11_chosen : ab_M := (yX11_chosen, cX11_chosen, 4, (some .int), { frames := 0, cells := 0, slots := 0, locals := 0 })
theorem iX11_chosen : ab_MI mX11_chosen 2 := ⟨kw_ef3ae8c531, kw_62b61b7ad3, by decide +kernel⟩
def fX11_chosen_4 (x0 : Int32) (x1 : Int32) (h : ab_H) : Nat → Int32 → Int32 → Option Int32
  | 0, _, _ => none
  | n + 1, x2, x3 => (if x3 < x1 then ab_ck (¬ (x3 + (nI 1)) = 0) (fX11_chosen_4 x0 x1 h n ((x2 * (x0 - x3)) / (x3 + (nI 1))) (x3 + nI 1)) else some x2)
def fX11_chosen (F : Nat) (x0 : Int32) (x1 : Int32) (h : ab_H) : Option Int32 := fX11_chosen_4 x0 x1 h F (nI 1) (nI 0)
set_option maxRecDepth 100000 in
set_option maxHeartbeats 4000000 in
theorem lX11_chosen_4 {l : Launch} (hl : l.stackTraces = false) (x0 : Int32) (x1 : Int32) (h : ab_H) : ∀ (n : Nat) (x2 : Int32) (x3 : Int32), ab_S l mX11_chosen (fun y : Int32 => ((.inl (some (.int y)), h) : ab_R × ab_H)) 0 0 (fX11_chosen_4 x0 x1 h n x2 x3) 4 [(0, .int x0), (1, .int x1), (2, .int x2), (3, .int x3)] [] h := by
  intro n
  induction n with
  | zero =>
    intro x2 x3
    exact ab_none
  | succ n ih =>
    intro x2 x3
    rw [fX11_chosen_4]
    refine ab_iload_n (pc := 4) (n := 3) (i := 3) (j := 3) (by decide +kernel) rfl rfl ?_
    refine ab_iload_n (pc := 5) (n := 1) (i := 1) (j := 1) (by decide +kernel) rfl rfl ?_
    refine ab_icmp_ge (off := 19) (pc := 6) (tgt := 25) (by decide +kernel) (by decide) (fun g1 => ?_) (fun g1 => ?_)
    · refine ab_iload_n (pc := 9) (n := 2) (i := 2) (j := 2) (by decide +kernel) rfl rfl ?_
      refine ab_iload_n (pc := 10) (n := 0) (i := 0) (j := 0) (by decide +kernel) rfl rfl ?_
      refine ab_iload_n (pc := 11) (n := 3) (i := 3) (j := 3) (by decide +kernel) rfl rfl ?_
      refine ab_isub (pc := 12) (by decide +kernel) ?_
      refine ab_imul (pc := 13) (by decide +kernel) ?_
      refine ab_iload_n (pc := 14) (n := 3) (i := 3) (j := 3) (by decide +kernel) rfl rfl ?_
      refine ab_iconst (pc := 15) (n := 1) (v := nI 1) (by decide +kernel) rfl ?_
      refine ab_iadd (pc := 16) (by decide +kernel) ?_
      refine ab_idiv (pc := 17) (by decide +kernel) (fun g2 => ?_)
      refine ab_istore_n (pc := 18) (n := 2) (i := 2) (lv' := [(0, .int x0), (1, .int x1), (2, .int ((x2 * (x0 - x3)) / (x3 + (nI 1)))), (3, .int x3)]) (by decide +kernel) rfl (Nat.le_of_ble_eq_true rfl) rfl rfl ?_
      refine ab_iinc (pc := 19) (i := 3) (n := 1) (j := 3) (d := nI 1) (lv' := [(0, .int x0), (1, .int x1), (2, .int ((x2 * (x0 - x3)) / (x3 + (nI 1)))), (3, .int (x3 + nI 1))]) (by decide +kernel) rfl rfl (Nat.le_of_ble_eq_true rfl) rfl rfl ?_
      refine ab_goto (pc := 22) (off := (-18)) (tgt := 4) (by decide +kernel) (by decide) ?_
      exact ih ((x2 * (x0 - x3)) / (x3 + (nI 1))) (x3 + nI 1)
    · refine ab_iload_n (pc := 25) (n := 2) (i := 2) (j := 2) (by decide +kernel) rfl rfl ?_
      exact ab_iret (pc := 26) (by decide +kernel) rfl rfl (Nat.le_of_ble_eq_true rfl) (Nat.le_of_ble_eq_true rfl)
set_option maxRecDepth 100000 in
set_option maxHeartbeats 4000000 in
theorem wX11_chosen {l : Launch} (hl : l.stackTraces = false) (F : Nat) (x0 : Int32) (x1 : Int32) (h : ab_H) : ab_S l mX11_chosen (fun y : Int32 => ((.inl (some (.int y)), h) : ab_R × ab_H)) 0 0 (fX11_chosen F x0 x1 h) 0 [(0, .int x0), (1, .int x1)] [] h := by
  unfold fX11_chosen
  refine ab_iconst (pc := 0) (n := 1) (v := nI 1) (by decide +kernel) rfl ?_
  refine ab_istore_n (pc := 1) (n := 2) (i := 2) (lv' := [(0, .int x0), (1, .int x1), (2, .int (nI 1))]) (by decide +kernel) rfl (Nat.le_of_ble_eq_true rfl) rfl rfl ?_
  refine ab_iconst (pc := 2) (n := 0) (v := nI 0) (by decide +kernel) rfl ?_
  refine ab_istore_n (pc := 3) (n := 3) (i := 3) (lv' := [(0, .int x0), (1, .int x1), (2, .int (nI 1)), (3, .int (nI 0))]) (by decide +kernel) rfl (Nat.le_of_ble_eq_true rfl) rfl rfl ?_
  refine lX11_chosen_4 hl x0 x1 h F (nI 1) (nI 0)
set_option maxRecDepth 100000 in
set_option maxHeartbeats 4000000 in
theorem okX11_chosen {l : Launch} (hl : l.stackTraces = false) {F : Nat} {x0 : Int32} {x1 : Int32} {h : ab_H} {y : Int32} (e : fX11_chosen F x0 x1 h = some y) : ab_Met l mX11_chosen [.int x0, .int x1] h (.inl (some (.int y)), h) := ab_ofS (io := (fun y : Int32 => ((.inl (some (.int y)), h) : ab_R × ab_H))) (x := y) hl (by decide) rfl (Nat.le_of_ble_eq_true rfl) (wX11_chosen hl F x0 x1 h) e
def mX11_allElsewhere : ab_M := (yX11_allElsewhere, cX11_allElsewhere, 5, (some .int), { frames := 0, cells := 0, slots := 0, locals := 0 })
theorem iX11_allElsewhere : ab_MI mX11_allElsewhere 1 := ⟨kw_325241993e, kw_62b61b7ad3, by decide +kernel⟩
def fX11_allElsewhere_6 (x0 : Int32) (h : ab_H) : Nat → Int32 → Int32 → Int32 → Option Int32
  | 0, _, _, _ => none
  | n + 1, x1, x2, x3 => (if x3 ≤ x0 then fX11_allElsewhere_6 x0 h n x2 ((x3 - (nI 1)) * (x2 + x1)) (x3 + nI 1) else some x2)
def fX11_allElsewhere (F : Nat) (x0 : Int32) (h : ab_H) : Option Int32 := fX11_allElsewhere_6 x0 h F (nI 0) (nI 1) (nI 1)
set_option maxRecDepth 100000 in
set_option maxHeartbeats 4000000 in
theorem lX11_allElsewhere_6 {l : Launch} (hl : l.stackTraces = false) (x0 : Int32) (h : ab_H) : ∀ (n : Nat) (x1 : Int32) (x2 : Int32) (x3 : Int32), ab_S l mX11_allElsewhere (fun y : Int32 => ((.inl (some (.int y)), h) : ab_R × ab_H)) 0 0 (fX11_allElsewhere_6 x0 h n x1 x2 x3) 6 [(0, .int x0), (1, .int x1), (2, .int x2), (3, .int x3)] [] h := by
  intro n
  induction n with
  | zero =>
    intro x1 x2 x3
    exact ab_none
  | succ n ih =>
    intro x1 x2 x3
    rw [fX11_allElsewhere_6]
    refine ab_iload_n (pc := 6) (n := 3) (i := 3) (j := 3) (by decide +kernel) rfl rfl ?_
    refine ab_iload_n (pc := 7) (n := 0) (i := 0) (j := 0) (by decide +kernel) rfl rfl ?_
    refine ab_icmp_gt (off := 23) (pc := 8) (tgt := 31) (by decide +kernel) (by decide) (fun g1 => ?_) (fun g1 => ?_)
    · refine ab_iload_n (pc := 11) (n := 3) (i := 3) (j := 3) (by decide +kernel) rfl rfl ?_
      refine ab_iconst (pc := 12) (n := 1) (v := nI 1) (by decide +kernel) rfl ?_
      refine ab_isub (pc := 13) (by decide +kernel) ?_
      refine ab_iload_n (pc := 14) (n := 2) (i := 2) (j := 2) (by decide +kernel) rfl rfl ?_
      refine ab_iload_n (pc := 15) (n := 1) (i := 1) (j := 1) (by decide +kernel) rfl rfl ?_
      refine ab_iadd (pc := 16) (by decide +kernel) ?_
      refine ab_imul (pc := 17) (by decide +kernel) ?_
      refine ab_istore (pc := 18) (i := 4) (lv' := [(0, .int x0), (1, .int x1), (2, .int x2), (3, .int x3), (4, .int ((x3 - (nI 1)) * (x2 + x1)))]) (by decide +kernel) (Nat.le_of_ble_eq_true rfl) rfl rfl ?_
      refine ab_iload_n (pc := 20) (n := 2) (i := 2) (j := 2) (by decide +kernel) rfl rfl ?_
      refine ab_istore_n (pc := 21) (n := 1) (i := 1) (lv' := [(0, .int x0), (1, .int x2), (2, .int x2), (3, .int x3), (4, .int ((x3 - (nI 1)) * (x2 + x1)))]) (by decide +kernel) rfl (Nat.le_of_ble_eq_true rfl) rfl rfl ?_
      refine ab_iload (pc := 22) (i := 4) (j := 4) (by decide +kernel) rfl ?_
      refine ab_istore_n (pc := 24) (n := 2) (i := 2) (lv' := [(0, .int x0), (1, .int x2), (2, .int ((x3 - (nI 1)) * (x2 + x1))), (3, .int x3), (4, .int ((x3 - (nI 1)) * (x2 + x1)))]) (by decide +kernel) rfl (Nat.le_of_ble_eq_true rfl) rfl rfl ?_
      refine ab_iinc (pc := 25) (i := 3) (n := 1) (j := 3) (d := nI 1) (lv' := [(0, .int x0), (1, .int x2), (2, .int ((x3 - (nI 1)) * (x2 + x1))), (3, .int (x3 + nI 1)), (4, .int ((x3 - (nI 1)) * (x2 + x1)))]) (by decide +kernel) rfl rfl (Nat.le_of_ble_eq_true rfl) rfl rfl ?_
      refine ab_goto (pc := 28) (off := (-22)) (tgt := 6) (by decide +kernel) (by decide) ?_
      refine ab_few [0, 1, 2, 3] (lv' := [(0, .int x0), (1, .int x2), (2, .int ((x3 - (nI 1)) * (x2 + x1))), (3, .int (x3 + nI 1))]) rfl ?_
      exact ih x2 ((x3 - (nI 1)) * (x2 + x1)) (x3 + nI 1)
    · refine ab_iload_n (pc := 31) (n := 2) (i := 2) (j := 2) (by decide +kernel) rfl rfl ?_
      exact ab_iret (pc := 32) (by decide +kernel) rfl rfl (Nat.le_of_ble_eq_true rfl) (Nat.le_of_ble_eq_true rfl)
set_option maxRecDepth 100000 in
set_option maxHeartbeats 4000000 in
theorem wX11_allElsewhere {l : Launch} (hl : l.stackTraces = false) (F : Nat) (x0 : Int32) (h : ab_H) : ab_S l mX11_allElsewhere (fun y : Int32 => ((.inl (some (.int y)), h) : ab_R × ab_H)) 0 0 (fX11_allElsewhere F x0 h) 0 [(0, .int x0)] [] h := by
  unfold fX11_allElsewhere
  refine ab_iconst (pc := 0) (n := 0) (v := nI 0) (by decide +kernel) rfl ?_
  refine ab_istore_n (pc := 1) (n := 1) (i := 1) (lv' := [(0, .int x0), (1, .int (nI 0))]) (by decide +kernel) rfl (Nat.le_of_ble_eq_true rfl) rfl rfl ?_
  refine ab_iconst (pc := 2) (n := 1) (v := nI 1) (by decide +kernel) rfl ?_
  refine ab_istore_n (pc := 3) (n := 2) (i := 2) (lv' := [(0, .int x0), (1, .int (nI 0)), (2, .int (nI 1))]) (by decide +kernel) rfl (Nat.le_of_ble_eq_true rfl) rfl rfl ?_
  refine ab_iconst (pc := 4) (n := 1) (v := nI 1) (by decide +kernel) rfl ?_
  refine ab_istore_n (pc := 5) (n := 3) (i := 3) (lv' := [(0, .int x0), (1, .int (nI 0)), (2, .int (nI 1)), (3, .int (nI 1))]) (by decide +kernel) rfl (Nat.le_of_ble_eq_true rfl) rfl rfl ?_
  refine lX11_allElsewhere_6 hl x0 h F (nI 0) (nI 1) (nI 1)
set_option maxRecDepth 100000 in
set_option maxHeartbeats 4000000 in
theorem okX11_allElsewhere {l : Launch} (hl : l.stackTraces = false) {F : Nat} {x0 : Int32} {h : ab_H} {y : Int32} (e : fX11_allElsewhere F x0 h = some y) : ab_Met l mX11_allElsewhere [.int x0] h (.inl (some (.int y)), h) := ab_ofS (io := (fun y : Int32 => ((.inl (some (.int y)), h) : ab_R × ab_H))) (x := y) hl (by decide) rfl (Nat.le_of_ble_eq_true rfl) (wX11_allElsewhere hl F x0 h) e
def mX11_row : ab_M := (yX11_row, cX11_row, 6, (some .int), { frames := 0, cells := 0, slots := 0, locals := 0 })
theorem iX11_row : ab_MI mX11_row 1 := ⟨kw_8628063e5c, kw_62b61b7ad3, by decide +kernel⟩
def fX11_row_10 (x0 : Nat) (x1 : Int32) (h : ab_H) (k69 : Int32 → Int32 → Option Int32) : Nat → Int32 → Int32 → Int32 → Int32 → Option Int32
  | 0, _, _, _, _ => none
  | n + 1, x2, x3, x4, x5 => ab_bd (ab_fr h x0 11 1) fun v1 => ab_bd (ab_fi h v1 8 1) fun v2 => (if x5 < v2 then ab_bd (ab_fr h x0 11 1) fun v4 => ab_bd (ab_fr h v4 8 17) fun v5 => ab_bd (ab_ia 0 h v5 x5) fun v6 => ab_jn (κ := Int32 → Option Int32) (fun (z7 : Int32) => (if z7 ≤ x3 then fX11_row_10 x0 x1 h k69 n x2 x3 z7 (x5 + nI 1) else fX11_row_10 x0 x1 h k69 n ((x5 - z7) + (nI 1)) z7 z7 (x5 + nI 1))) fun j9 => (if v6 = (-1 : Int32) then j9 (nI 0) else j9 (x4 + (nI 1))) else k69 x2 x3)
def fX11_row (F : Nat) (x0 : Nat) (x1 : Int32) (h : ab_H) : Option Int32 := fX11_row_10 x0 x1 h (fun (z11 : Int32) (z12 : Int32) => (if x1 = 0 then some z12 else some z11)) F (-1 : Int32) (nI 0) (nI 0) (nI 0)
set_option maxRecDepth 100000 in
set_option maxHeartbeats 4000000 in
theorem lX11_row_10 {l : Launch} (hl : l.stackTraces = false) (x0 : Nat) (x1 : Int32) (h : ab_H) {k69 : Int32 → Int32 → Option Int32} (hk69 : ∀ (x2 : Int32), ∀ (x3 : Int32), ab_S l mX11_row (fun y : Int32 => ((.inl (some (.int y)), h) : ab_R × ab_H)) 0 0 (k69 x2 x3) 69 [(1, .int x1), (2, .int x2), (3, .int x3)] [] h) : ∀ (n : Nat) (x2 : Int32) (x3 : Int32) (x4 : Int32) (x5 : Int32), ab_S l mX11_row (fun y : Int32 => ((.inl (some (.int y)), h) : ab_R × ab_H)) 0 0 (fX11_row_10 x0 x1 h k69 n x2 x3 x4 x5) 10 [(0, .ref x0), (1, .int x1), (2, .int x2), (3, .int x3), (4, .int x4), (5, .int x5)] [] h := by
  intro n
  induction n with
  | zero =>
    intro x2 x3 x4 x5
    exact ab_none
  | succ n ih =>
    intro x2 x3 x4 x5
    rw [fX11_row_10]
    refine ab_iload (pc := 10) (i := 5) (j := 5) (by decide +kernel) rfl ?_
    refine ab_aload_n (pc := 12) (n := 0) (i := 0) (j := 0) (by decide +kernel) rfl rfl ?_
    refine ab_getR (pc := 13) fl_X11_26_11 (by decide +kernel) (fun v1 ev1 => ?_)
    refine ab_getI (pc := 16) fl_X11_257_8 (by decide +kernel) (fun v2 ev2 => ?_)
    refine ab_icmp_ge (off := 50) (pc := 19) (tgt := 69) (by decide +kernel) (by decide) (fun g3 => ?_) (fun g3 => ?_)
    · refine ab_aload_n (pc := 22) (n := 0) (i := 0) (j := 0) (by decide +kernel) rfl rfl ?_
      refine ab_getR (pc := 23) fl_X11_26_11 (by decide +kernel) (fun v4 ev4 => ?_)
      refine ab_getR (pc := 26) fl_X11_177_8 (by decide +kernel) (fun v5 ev5 => ?_)
      refine ab_iload (pc := 29) (i := 5) (j := 5) (by decide +kernel) rfl ?_
      refine ab_iald (pc := 31) (by decide +kernel) (fun v6 ev6 => ?_)
      refine ab_iconst (pc := 32) (n := -1) (v := (-1 : Int32)) (by decide +kernel) rfl ?_
      refine ab_jr (fun k9 : Int32 → Option Int32 => ∀ (z7 : Int32), ab_S l mX11_row (fun y : Int32 => ((.inl (some (.int y)), h) : ab_R × ab_H)) 0 0 (k9 z7) 44 [(0, .ref x0), (1, .int x1), (2, .int x2), (3, .int x3), (5, .int x5)] [.int z7] h) ?_ (fun j9 hj9 => ?_)
      · intro z7
        refine ab_istore (pc := 44) (i := 4) (lv' := [(0, .ref x0), (1, .int x1), (2, .int x2), (3, .int x3), (4, .int z7), (5, .int x5)]) (by decide +kernel) (Nat.le_of_ble_eq_true rfl) rfl rfl ?_
        refine ab_iload (pc := 46) (i := 4) (j := 4) (by decide +kernel) rfl ?_
        refine ab_iload_n (pc := 48) (n := 3) (i := 3) (j := 3) (by decide +kernel) rfl rfl ?_
        refine ab_icmp_le (off := 14) (pc := 49) (tgt := 63) (by decide +kernel) (by decide) (fun g8 => ?_) (fun g8 => ?_)
        · refine ab_iinc (pc := 63) (i := 5) (n := 1) (j := 5) (d := nI 1) (lv' := [(0, .ref x0), (1, .int x1), (2, .int x2), (3, .int x3), (4, .int z7), (5, .int (x5 + nI 1))]) (by decide +kernel) rfl rfl (Nat.le_of_ble_eq_true rfl) rfl rfl ?_
          refine ab_goto (pc := 66) (off := (-56)) (tgt := 10) (by decide +kernel) (by decide) ?_
          exact ih x2 x3 z7 (x5 + nI 1)
        · refine ab_iload (pc := 52) (i := 4) (j := 4) (by decide +kernel) rfl ?_
          refine ab_istore_n (pc := 54) (n := 3) (i := 3) (lv' := [(0, .ref x0), (1, .int x1), (2, .int x2), (3, .int z7), (4, .int z7), (5, .int x5)]) (by decide +kernel) rfl (Nat.le_of_ble_eq_true rfl) rfl rfl ?_
          refine ab_iload (pc := 55) (i := 5) (j := 5) (by decide +kernel) rfl ?_
          refine ab_iload (pc := 57) (i := 4) (j := 4) (by decide +kernel) rfl ?_
          refine ab_isub (pc := 59) (by decide +kernel) ?_
          refine ab_iconst (pc := 60) (n := 1) (v := nI 1) (by decide +kernel) rfl ?_
          refine ab_iadd (pc := 61) (by decide +kernel) ?_
          refine ab_istore_n (pc := 62) (n := 2) (i := 2) (lv' := [(0, .ref x0), (1, .int x1), (2, .int ((x5 - z7) + (nI 1))), (3, .int z7), (4, .int z7), (5, .int x5)]) (by decide +kernel) rfl (Nat.le_of_ble_eq_true rfl) rfl rfl ?_
          refine ab_iinc (pc := 63) (i := 5) (n := 1) (j := 5) (d := nI 1) (lv' := [(0, .ref x0), (1, .int x1), (2, .int ((x5 - z7) + (nI 1))), (3, .int z7), (4, .int z7), (5, .int (x5 + nI 1))]) (by decide +kernel) rfl rfl (Nat.le_of_ble_eq_true rfl) rfl rfl ?_
          refine ab_goto (pc := 66) (off := (-56)) (tgt := 10) (by decide +kernel) (by decide) ?_
          exact ih ((x5 - z7) + (nI 1)) z7 z7 (x5 + nI 1)
      · refine ab_icmp_ne (off := 7) (pc := 33) (tgt := 40) (by decide +kernel) (by decide) (fun g10 => ?_) (fun g10 => ?_)
        · refine ab_iconst (pc := 36) (n := 0) (v := nI 0) (by decide +kernel) rfl ?_
          refine ab_goto (pc := 37) (off := 7) (tgt := 44) (by decide +kernel) (by decide) ?_
          refine ab_few [0, 1, 2, 3, 5] (lv' := [(0, .ref x0), (1, .int x1), (2, .int x2), (3, .int x3), (5, .int x5)]) rfl ?_
          exact hj9 (nI 0)
        · refine ab_iload (pc := 40) (i := 4) (j := 4) (by decide +kernel) rfl ?_
          refine ab_iconst (pc := 42) (n := 1) (v := nI 1) (by decide +kernel) rfl ?_
          refine ab_iadd (pc := 43) (by decide +kernel) ?_
          refine ab_few [0, 1, 2, 3, 5] (lv' := [(0, .ref x0), (1, .int x1), (2, .int x2), (3, .int x3), (5, .int x5)]) rfl ?_
          exact hj9 (x4 + (nI 1))
    · refine ab_few [1, 2, 3] (lv' := [(1, .int x1), (2, .int x2), (3, .int x3)]) rfl ?_
      exact hk69 x2 x3
set_option maxRecDepth 100000 in
set_option maxHeartbeats 4000000 in
theorem wX11_row {l : Launch} (hl : l.stackTraces = false) (F : Nat) (x0 : Nat) (x1 : Int32) (h : ab_H) : ab_S l mX11_row (fun y : Int32 => ((.inl (some (.int y)), h) : ab_R × ab_H)) 0 0 (fX11_row F x0 x1 h) 0 [(0, .ref x0), (1, .int x1)] [] h := by
  unfold fX11_row
  refine ab_iconst (pc := 0) (n := -1) (v := (-1 : Int32)) (by decide +kernel) rfl ?_
  refine ab_istore_n (pc := 1) (n := 2) (i := 2) (lv' := [(0, .ref x0), (1, .int x1), (2, .int (-1 : Int32))]) (by decide +kernel) rfl (Nat.le_of_ble_eq_true rfl) rfl rfl ?_
  refine ab_iconst (pc := 2) (n := 0) (v := nI 0) (by decide +kernel) rfl ?_
  refine ab_istore_n (pc := 3) (n := 3) (i := 3) (lv' := [(0, .ref x0), (1, .int x1), (2, .int (-1 : Int32)), (3, .int (nI 0))]) (by decide +kernel) rfl (Nat.le_of_ble_eq_true rfl) rfl rfl ?_
  refine ab_iconst (pc := 4) (n := 0) (v := nI 0) (by decide +kernel) rfl ?_
  refine ab_istore (pc := 5) (i := 4) (lv' := [(0, .ref x0), (1, .int x1), (2, .int (-1 : Int32)), (3, .int (nI 0)), (4, .int (nI 0))]) (by decide +kernel) (Nat.le_of_ble_eq_true rfl) rfl rfl ?_
  refine ab_iconst (pc := 7) (n := 0) (v := nI 0) (by decide +kernel) rfl ?_
  refine ab_istore (pc := 8) (i := 5) (lv' := [(0, .ref x0), (1, .int x1), (2, .int (-1 : Int32)), (3, .int (nI 0)), (4, .int (nI 0)), (5, .int (nI 0))]) (by decide +kernel) (Nat.le_of_ble_eq_true rfl) rfl rfl ?_
  refine lX11_row_10 hl x0 x1 h ?_ F (-1 : Int32) (nI 0) (nI 0) (nI 0)
  intro z11 z12
  refine ab_iload_n (pc := 69) (n := 1) (i := 1) (j := 0) (by decide +kernel) rfl rfl ?_
  refine ab_if_eq (off := 7) (pc := 70) (tgt := 77) (by decide +kernel) (by decide) (fun g13 => ?_) (fun g13 => ?_)
  · refine ab_iload_n (pc := 77) (n := 3) (i := 3) (j := 2) (by decide +kernel) rfl rfl ?_
    exact ab_iret (pc := 78) (by decide +kernel) rfl rfl (Nat.le_of_ble_eq_true rfl) (Nat.le_of_ble_eq_true rfl)
  · refine ab_iload_n (pc := 73) (n := 2) (i := 2) (j := 1) (by decide +kernel) rfl rfl ?_
    refine ab_goto (pc := 74) (off := 4) (tgt := 78) (by decide +kernel) (by decide) ?_
    exact ab_iret (pc := 78) (by decide +kernel) rfl rfl (Nat.le_of_ble_eq_true rfl) (Nat.le_of_ble_eq_true rfl)
set_option maxRecDepth 100000 in
set_option maxHeartbeats 4000000 in
theorem okX11_row {l : Launch} (hl : l.stackTraces = false) {F : Nat} {x0 : Nat} {x1 : Int32} {h : ab_H} {y : Int32} (e : fX11_row F x0 x1 h = some y) : ab_Met l mX11_row [.ref x0, .int x1] h (.inl (some (.int y)), h) := ab_ofS (io := (fun y : Int32 => ((.inl (some (.int y)), h) : ab_R × ab_H))) (x := y) hl (by decide) rfl (Nat.le_of_ble_eq_true rfl) (wX11_row hl F x0 x1 h) e
def mX11_seed : ab_M := (yX11_seed, cX11_seed, 3, (some .int), { frames := 0, cells := 0, slots := 0, locals := 0 })
theorem iX11_seed : ab_MI mX11_seed 1 := ⟨kw_b4452f4692, kw_62b61b7ad3, by decide +kernel⟩
def fX11_seed (x0 : Nat) (x1 : Int32) (h : ab_H) : Option (Int32 × ab_H) := ab_bd (ab_fr h x0 11 1) fun v1 => ab_bd (ab_fi h v1 8 5) fun v2 => ab_bd (ab_fr h x0 11 1) fun v3 => ab_bd (ab_fw h v3 8 5 (.int x1)) fun h4 => some (v2, h4)
set_option maxRecDepth 100000 in
set_option maxHeartbeats 4000000 in
theorem wX11_seed {l : Launch} (hl : l.stackTraces = false) (x0 : Nat) (x1 : Int32) (h : ab_H) : ab_S l mX11_seed (fun y : (Int32 × ab_H) => ((.inl (some (.int y.1)), y.2) : ab_R × ab_H)) 0 0 (fX11_seed x0 x1 h) 0 [(0, .ref x0), (1, .int x1)] [] h := by
  unfold fX11_seed
  refine ab_aload_n (pc := 0) (n := 0) (i := 0) (j := 0) (by decide +kernel) rfl rfl ?_
  refine ab_getR (pc := 1) fl_X11_26_11 (by decide +kernel) (fun v1 ev1 => ?_)
  refine ab_getI (pc := 4) fl_X11_334_8 (by decide +kernel) (fun v2 ev2 => ?_)
  refine ab_istore_n (pc := 7) (n := 2) (i := 2) (lv' := [(0, .ref x0), (1, .int x1), (2, .int v2)]) (by decide +kernel) rfl (Nat.le_of_ble_eq_true rfl) rfl rfl ?_
  refine ab_aload_n (pc := 8) (n := 0) (i := 0) (j := 0) (by decide +kernel) rfl rfl ?_
  refine ab_getR (pc := 9) fl_X11_26_11 (by decide +kernel) (fun v3 ev3 => ?_)
  refine ab_iload_n (pc := 12) (n := 1) (i := 1) (j := 1) (by decide +kernel) rfl rfl ?_
  refine ab_put (pc := 13) fl_X11_334_8 rfl (fun _ => rfl) (fun _ => rfl) (by decide +kernel) (fun h4 eh4 => ?_)
  refine ab_iload_n (pc := 16) (n := 2) (i := 2) (j := 2) (by decide +kernel) rfl rfl ?_
  exact ab_iret (pc := 17) (by decide +kernel) rfl rfl (Nat.le_of_ble_eq_true rfl) (Nat.le_of_ble_eq_true rfl)
set_option maxRecDepth 100000 in
set_option maxHeartbeats 4000000 in
theorem okX11_seed {l : Launch} (hl : l.stackTraces = false) {x0 : Nat} {x1 : Int32} {h : ab_H} {y : (Int32 × ab_H)} (e : fX11_seed x0 x1 h = some y) : ab_Met l mX11_seed [.ref x0, .int x1] h (.inl (some (.int y.1)), y.2) := ab_ofS (io := (fun y : (Int32 × ab_H) => ((.inl (some (.int y.1)), y.2) : ab_R × ab_H))) (x := y) hl (by decide) rfl (Nat.le_of_ble_eq_true rfl) (wX11_seed hl x0 x1 h) e
def mX11_image : ab_M := (yX11_image, cX11_image, 1, none, { frames := 3, cells := 0, slots := 0, locals := 68 })
theorem iX11_image : ab_MI mX11_image 0 := ⟨kw_8824cb4a7c, kw_62b61b7ad3, by decide +kernel⟩
theorem lk_X11_110_8 : ab_LV RX11 110 8 mX8_copyFrom 1 := ⟨RX8, rfl, iX8_copyFrom, kw_1bd88c5252, kw_5db67fc933, kw_ac67004cea⟩
def fX11_image (x0 : Nat) (h : ab_H) : Option ab_H := ab_bd (ab_fr h x0 11 3) fun v1 => ab_bd (ab_fr h x0 11 1) fun v2 => ab_ck (ab_io h v1 8 = true) (ab_bd (fX8_copyFrom v1 v2 h) fun h3 => ab_bd (ab_fw h3 x0 11 9 (.int (nI 1))) fun h4 => some h4)
set_option maxRecDepth 100000 in
set_option maxHeartbeats 4000000 in
theorem wX11_image {l : Launch} (hl : l.stackTraces = false) (x0 : Nat) (h : ab_H) : ab_S l mX11_image (fun y : ab_H => ((.inl none, y) : ab_R × ab_H)) 0 0 (fX11_image x0 h) 0 [(0, .ref x0)] [] h := by
  unfold fX11_image
  refine ab_aload_n (pc := 0) (n := 0) (i := 0) (j := 0) (by decide +kernel) rfl rfl ?_
  refine ab_getR (pc := 1) fl_X11_33_11 (by decide +kernel) (fun v1 ev1 => ?_)
  refine ab_aload_n (pc := 4) (n := 0) (i := 0) (j := 0) (by decide +kernel) rfl rfl ?_
  refine ab_getR (pc := 5) fl_X11_26_11 (by decide +kernel) (fun v2 ev2 => ?_)
  refine ab_callVw (As := [.ref v2]) (st := []) (pc := 8) lk_X11_110_8 rfl rfl rfl (by decide) rfl (Nat.le_of_ble_eq_true rfl) (by decide +kernel) (fun y9 e9 => okX8_copyFrom hl e9) (fun h3 eh3 => ?_)
  refine ab_aload_n (pc := 11) (n := 0) (i := 0) (j := 0) (by decide +kernel) rfl rfl ?_
  refine ab_iconst (pc := 12) (n := 1) (v := nI 1) (by decide +kernel) rfl ?_
  refine ab_put (pc := 13) fl_X11_366_11 rfl (fun _ => ab_bl1.1) (fun _ => ab_bl1.2) (by decide +kernel) (fun h4 eh4 => ?_)
  exact ab_vret (pc := 16) (by decide +kernel) rfl rfl (Nat.le_of_ble_eq_true rfl) (Nat.le_of_ble_eq_true rfl)
set_option maxRecDepth 100000 in
set_option maxHeartbeats 4000000 in
theorem okX11_image {l : Launch} (hl : l.stackTraces = false) {x0 : Nat} {h : ab_H} {y : ab_H} (e : fX11_image x0 h = some y) : ab_Met l mX11_image [.ref x0] h (.inl none, y) := ab_ofS (io := (fun y : ab_H => ((.inl none, y) : ab_R × ab_H))) (x := y) hl (by decide) rfl (Nat.le_of_ble_eq_true rfl) (wX11_image hl x0 h) e
def mX11_back : ab_M := (yX11_back, cX11_back, 1, (some .boolean), { frames := 3, cells := 0, slots := 0, locals := 68 })
theorem iX11_back : ab_MI mX11_back 0 := ⟨kw_04309e1da2, kw_62b61b7ad3, by decide +kernel⟩
theorem lk_X11_114_6 : ab_LV RX11 114 6 mX6_forget 0 := ⟨RX6, rfl, iX6_forget, kw_67d84de063, kw_7db70b2ba7, kw_7ec6027f1a⟩
def fX11_back (x0 : Nat) (h : ab_H) : Option (Int32 × ab_H) := ab_bd (ab_fi h x0 11 9) fun v1 => (if v1 = 0 then some (nI 0, h) else ab_bd (ab_fr h x0 11 1) fun v3 => ab_bd (ab_fr h x0 11 3) fun v4 => ab_ck (ab_io h v3 8 = true) (ab_bd (fX8_copyFrom v3 v4 h) fun h5 => ab_bd (ab_fr h5 x0 11 4) fun v6 => ab_ck (ab_io h5 v6 6 = true) (ab_bd (fX6_forget v6 h5) fun h7 => some (nI 1, h7))))
set_option maxRecDepth 100000 in
set_option maxHeartbeats 4000000 in
theorem wX11_back {l : Launch} (hl : l.stackTraces = false) (x0 : Nat) (h : ab_H) : ab_S l mX11_back (fun y : (Int32 × ab_H) => ((.inl (some (.int y.1)), y.2) : ab_R × ab_H)) 0 0 (fX11_back x0 h) 0 [(0, .ref x0)] [] h := by
  unfold fX11_back
  refine ab_aload_n (pc := 0) (n := 0) (i := 0) (j := 0) (by decide +kernel) rfl rfl ?_
  refine ab_getI (pc := 1) fl_X11_366_11 (by decide +kernel) (fun v1 ev1 => ?_)
  refine ab_if_ne (off := 5) (pc := 4) (tgt := 9) (by decide +kernel) (by decide) (fun g2 => ?_) (fun g2 => ?_)
  · refine ab_iconst (pc := 7) (n := 0) (v := nI 0) (by decide +kernel) rfl ?_
    exact ab_zret (pc := 8) (by decide +kernel) rfl ab_bl0.1 rfl (Nat.le_of_ble_eq_true rfl) (Nat.le_of_ble_eq_true rfl)
  · refine ab_aload_n (pc := 9) (n := 0) (i := 0) (j := 0) (by decide +kernel) rfl rfl ?_
    refine ab_getR (pc := 10) fl_X11_26_11 (by decide +kernel) (fun v3 ev3 => ?_)
    refine ab_aload_n (pc := 13) (n := 0) (i := 0) (j := 0) (by decide +kernel) rfl rfl ?_
    refine ab_getR (pc := 14) fl_X11_33_11 (by decide +kernel) (fun v4 ev4 => ?_)
    refine ab_callVw (As := [.ref v4]) (st := []) (pc := 17) lk_X11_110_8 rfl rfl rfl (by decide) rfl (Nat.le_of_ble_eq_true rfl) (by decide +kernel) (fun y9 e9 => okX8_copyFrom hl e9) (fun h5 eh5 => ?_)
    refine ab_aload_n (pc := 20) (n := 0) (i := 0) (j := 0) (by decide +kernel) rfl rfl ?_
    refine ab_getR (pc := 21) fl_X11_39_11 (by decide +kernel) (fun v6 ev6 => ?_)
    refine ab_callVw (As := []) (st := []) (pc := 24) lk_X11_114_6 rfl rfl rfl (by decide) rfl (Nat.le_of_ble_eq_true rfl) (by decide +kernel) (fun y9 e9 => okX6_forget hl e9) (fun h7 eh7 => ?_)
    refine ab_iconst (pc := 27) (n := 1) (v := nI 1) (by decide +kernel) rfl ?_
    exact ab_zret (pc := 28) (by decide +kernel) rfl ab_bl1.1 rfl (Nat.le_of_ble_eq_true rfl) (Nat.le_of_ble_eq_true rfl)
set_option maxRecDepth 100000 in
set_option maxHeartbeats 4000000 in
theorem okX11_back {l : Launch} (hl : l.stackTraces = false) {x0 : Nat} {h : ab_H} {y : (Int32 × ab_H)} (e : fX11_back x0 h = some y) : ab_Met l mX11_back [.ref x0] h (.inl (some (.int y.1)), y.2) := ab_ofS (io := (fun y : (Int32 × ab_H) => ((.inl (some (.int y.1)), y.2) : ab_R × ab_H))) (x := y) hl (by decide) rfl (Nat.le_of_ble_eq_true rfl) (wX11_back hl x0 h) e
def mX11_count : ab_M := (yX11_count, cX11_count, 2, (some .int), { frames := 2, cells := 0, slots := 0, locals := 42 })
theorem iX11_count : ab_MI mX11_count 1 := ⟨kw_cfc83d982e, kw_62b61b7ad3, by decide +kernel⟩
theorem lk_X11_319_8 : ab_LV RX11 319 8 mX8_ticketHolders 0 := ⟨RX8, rfl, iX8_ticketHolders, kw_0959ff00f0, kw_be734bbbad, kw_1b98d06c3b⟩
theorem lk_X11_370_8 : ab_LV RX11 370 8 mX8_hungCount 0 := ⟨RX8, rfl, iX8_hungCount, kw_b063277f08, kw_ba52473642, kw_168d9b4df9⟩
theorem lk_X11_382_8 : ab_LV RX11 382 8 mX8_allMarksCount 0 := ⟨RX8, rfl, iX8_allMarksCount, kw_7c5bd7e8d6, kw_c4a77471e2, kw_4961201be8⟩
def fX11_count (F : Nat) (x0 : Nat) (x1 : Int32) (h : ab_H) : Option Int32 := (if x1 = nI 0 then ab_bd (ab_fr h x0 11 1) fun v13 => ab_bd (ab_fi h v13 8 0) fun v14 => some v14 else (if x1 = nI 1 then ab_bd (ab_fr h x0 11 1) fun v15 => ab_bd (ab_fi h v15 8 1) fun v16 => some v16 else (if x1 = nI 2 then ab_bd (ab_fr h x0 11 1) fun v17 => ab_ck (ab_io h v17 8 = true) (ab_bd (fX8_hungCount F v17 h) fun v18 => some v18) else (if x1 = nI 3 then ab_bd (ab_fr h x0 11 1) fun v19 => ab_bd (ab_fi h v19 8 6) fun v20 => some v20 else (if x1 = nI 4 then ab_bd (ab_fr h x0 11 1) fun v21 => ab_bd (ab_fr h v21 8 7) fun v22 => ab_bd (ab_fi h v22 2 0) fun v23 => some v23 else (if x1 = nI 5 then ab_bd (ab_fr h x0 11 1) fun v24 => ab_bd (ab_fi h v24 8 2) fun v25 => some v25 else (if x1 = nI 6 then ab_bd (ab_fr h x0 11 1) fun v26 => ab_bd (ab_fi h v26 8 3) fun v27 => some v27 else (if x1 = nI 7 then ab_bd (ab_fr h x0 11 1) fun v28 => ab_bd (ab_fi h v28 8 4) fun v29 => some v29 else (if x1 = nI 8 then ab_bd (ab_fr h x0 11 1) fun v30 => ab_ck (ab_io h v30 8 = true) (ab_bd (fX8_ticketHolders F v30 h) fun v31 => some v31) else (if x1 = nI 9 then ab_bd (ab_fr h x0 11 1) fun v32 => ab_ck (ab_io h v32 8 = true) (ab_bd (fX8_allMarksCount F v32 h) fun v33 => some v33) else (if x1 = nI 10 then ab_bd (ab_fr h x0 11 1) fun v34 => ab_bd (ab_fr h v34 8 8) fun v35 => ab_bd (ab_fi h v35 4 1) fun v36 => some v36 else (if x1 = nI 11 then ab_bd (ab_fr h x0 11 4) fun v37 => ab_bd (ab_fi h v37 6 2) fun v38 => some v38 else some (-1 : Int32)))))))))))))
set_option maxRecDepth 100000 in
set_option maxHeartbeats 4000000 in
theorem wX11_count {l : Launch} (hl : l.stackTraces = false) (F : Nat) (x0 : Nat) (x1 : Int32) (h : ab_H) : ab_S l mX11_count (fun y : Int32 => ((.inl (some (.int y)), h) : ab_R × ab_H)) 0 0 (fX11_count F x0 x1 h) 0 [(0, .ref x0), (1, .int x1)] [] h := by
  unfold fX11_count
  refine ab_iload_n (pc := 0) (n := 1) (i := 1) (j := 1) (by decide +kernel) rfl rfl ?_
  refine ab_swC (pc := 1) (c9 := nI 0) (off := 63) (tgt := 64) (dflt := 165) (lo := 0) (hi := 11) (offs := #[63, 71, 79, 87, 95, 106, 114, 122, 130, 138, 146, 157]) (len := 63) (by decide +kernel) (by decide) (by decide) (by decide) (by decide) (fun g1 => ?_) (fun g1 => ?_)
  · refine ab_aload_n (pc := 64) (n := 0) (i := 0) (j := 0) (by decide +kernel) rfl rfl ?_
    refine ab_getR (pc := 65) fl_X11_26_11 (by decide +kernel) (fun v13 ev13 => ?_)
    refine ab_getI (pc := 68) fl_X11_180_8 (by decide +kernel) (fun v14 ev14 => ?_)
    exact ab_iret (pc := 71) (by decide +kernel) rfl rfl (Nat.le_of_ble_eq_true rfl) (Nat.le_of_ble_eq_true rfl)
  · refine ab_swC (pc := 1) (c9 := nI 1) (off := 71) (tgt := 72) (dflt := 165) (lo := 0) (hi := 11) (offs := #[63, 71, 79, 87, 95, 106, 114, 122, 130, 138, 146, 157]) (len := 63) (by decide +kernel) (by decide) (by decide) (by decide) (by decide) (fun g2 => ?_) (fun g2 => ?_)
    · refine ab_aload_n (pc := 72) (n := 0) (i := 0) (j := 0) (by decide +kernel) rfl rfl ?_
      refine ab_getR (pc := 73) fl_X11_26_11 (by decide +kernel) (fun v15 ev15 => ?_)
      refine ab_getI (pc := 76) fl_X11_257_8 (by decide +kernel) (fun v16 ev16 => ?_)
      exact ab_iret (pc := 79) (by decide +kernel) rfl rfl (Nat.le_of_ble_eq_true rfl) (Nat.le_of_ble_eq_true rfl)
    · refine ab_swC (pc := 1) (c9 := nI 2) (off := 79) (tgt := 80) (dflt := 165) (lo := 0) (hi := 11) (offs := #[63, 71, 79, 87, 95, 106, 114, 122, 130, 138, 146, 157]) (len := 63) (by decide +kernel) (by decide) (by decide) (by decide) (by decide) (fun g3 => ?_) (fun g3 => ?_)
      · refine ab_aload_n (pc := 80) (n := 0) (i := 0) (j := 0) (by decide +kernel) rfl rfl ?_
        refine ab_getR (pc := 81) fl_X11_26_11 (by decide +kernel) (fun v17 ev17 => ?_)
        refine ab_callVi (As := []) (st := []) (pc := 84) lk_X11_370_8 rfl rfl rfl (by decide) rfl (Nat.le_of_ble_eq_true rfl) (by decide +kernel) (fun y9 e9 => okX8_hungCount hl (F := F) e9) (fun v18 ev18 => ?_)
        exact ab_iret (pc := 87) (by decide +kernel) rfl rfl (Nat.le_of_ble_eq_true rfl) (Nat.le_of_ble_eq_true rfl)
      · refine ab_swC (pc := 1) (c9 := nI 3) (off := 87) (tgt := 88) (dflt := 165) (lo := 0) (hi := 11) (offs := #[63, 71, 79, 87, 95, 106, 114, 122, 130, 138, 146, 157]) (len := 63) (by decide +kernel) (by decide) (by decide) (by decide) (by decide) (fun g4 => ?_) (fun g4 => ?_)
        · refine ab_aload_n (pc := 88) (n := 0) (i := 0) (j := 0) (by decide +kernel) rfl rfl ?_
          refine ab_getR (pc := 89) fl_X11_26_11 (by decide +kernel) (fun v19 ev19 => ?_)
          refine ab_getI (pc := 92) fl_X11_102_8 (by decide +kernel) (fun v20 ev20 => ?_)
          exact ab_iret (pc := 95) (by decide +kernel) rfl rfl (Nat.le_of_ble_eq_true rfl) (Nat.le_of_ble_eq_true rfl)
        · refine ab_swC (pc := 1) (c9 := nI 4) (off := 95) (tgt := 96) (dflt := 165) (lo := 0) (hi := 11) (offs := #[63, 71, 79, 87, 95, 106, 114, 122, 130, 138, 146, 157]) (len := 63) (by decide +kernel) (by decide) (by decide) (by decide) (by decide) (fun g5 => ?_) (fun g5 => ?_)
          · refine ab_aload_n (pc := 96) (n := 0) (i := 0) (j := 0) (by decide +kernel) rfl rfl ?_
            refine ab_getR (pc := 97) fl_X11_26_11 (by decide +kernel) (fun v21 ev21 => ?_)
            refine ab_getR (pc := 100) fl_X11_124_8 (by decide +kernel) (fun v22 ev22 => ?_)
            refine ab_getI (pc := 103) fl_X11_128_2 (by decide +kernel) (fun v23 ev23 => ?_)
            exact ab_iret (pc := 106) (by decide +kernel) rfl rfl (Nat.le_of_ble_eq_true rfl) (Nat.le_of_ble_eq_true rfl)
          · refine ab_swC (pc := 1) (c9 := nI 5) (off := 106) (tgt := 107) (dflt := 165) (lo := 0) (hi := 11) (offs := #[63, 71, 79, 87, 95, 106, 114, 122, 130, 138, 146, 157]) (len := 63) (by decide +kernel) (by decide) (by decide) (by decide) (by decide) (fun g6 => ?_) (fun g6 => ?_)
            · refine ab_aload_n (pc := 107) (n := 0) (i := 0) (j := 0) (by decide +kernel) rfl rfl ?_
              refine ab_getR (pc := 108) fl_X11_26_11 (by decide +kernel) (fun v24 ev24 => ?_)
              refine ab_getI (pc := 111) fl_X11_373_8 (by decide +kernel) (fun v25 ev25 => ?_)
              exact ab_iret (pc := 114) (by decide +kernel) rfl rfl (Nat.le_of_ble_eq_true rfl) (Nat.le_of_ble_eq_true rfl)
            · refine ab_swC (pc := 1) (c9 := nI 6) (off := 114) (tgt := 115) (dflt := 165) (lo := 0) (hi := 11) (offs := #[63, 71, 79, 87, 95, 106, 114, 122, 130, 138, 146, 157]) (len := 63) (by decide +kernel) (by decide) (by decide) (by decide) (by decide) (fun g7 => ?_) (fun g7 => ?_)
              · refine ab_aload_n (pc := 115) (n := 0) (i := 0) (j := 0) (by decide +kernel) rfl rfl ?_
                refine ab_getR (pc := 116) fl_X11_26_11 (by decide +kernel) (fun v26 ev26 => ?_)
                refine ab_getI (pc := 119) fl_X11_376_8 (by decide +kernel) (fun v27 ev27 => ?_)
                exact ab_iret (pc := 122) (by decide +kernel) rfl rfl (Nat.le_of_ble_eq_true rfl) (Nat.le_of_ble_eq_true rfl)
              · refine ab_swC (pc := 1) (c9 := nI 7) (off := 122) (tgt := 123) (dflt := 165) (lo := 0) (hi := 11) (offs := #[63, 71, 79, 87, 95, 106, 114, 122, 130, 138, 146, 157]) (len := 63) (by decide +kernel) (by decide) (by decide) (by decide) (by decide) (fun g8 => ?_) (fun g8 => ?_)
                · refine ab_aload_n (pc := 123) (n := 0) (i := 0) (j := 0) (by decide +kernel) rfl rfl ?_
                  refine ab_getR (pc := 124) fl_X11_26_11 (by decide +kernel) (fun v28 ev28 => ?_)
                  refine ab_getI (pc := 127) fl_X11_379_8 (by decide +kernel) (fun v29 ev29 => ?_)
                  exact ab_iret (pc := 130) (by decide +kernel) rfl rfl (Nat.le_of_ble_eq_true rfl) (Nat.le_of_ble_eq_true rfl)
                · refine ab_swC (pc := 1) (c9 := nI 8) (off := 130) (tgt := 131) (dflt := 165) (lo := 0) (hi := 11) (offs := #[63, 71, 79, 87, 95, 106, 114, 122, 130, 138, 146, 157]) (len := 63) (by decide +kernel) (by decide) (by decide) (by decide) (by decide) (fun g9 => ?_) (fun g9 => ?_)
                  · refine ab_aload_n (pc := 131) (n := 0) (i := 0) (j := 0) (by decide +kernel) rfl rfl ?_
                    refine ab_getR (pc := 132) fl_X11_26_11 (by decide +kernel) (fun v30 ev30 => ?_)
                    refine ab_callVi (As := []) (st := []) (pc := 135) lk_X11_319_8 rfl rfl rfl (by decide) rfl (Nat.le_of_ble_eq_true rfl) (by decide +kernel) (fun y9 e9 => okX8_ticketHolders hl (F := F) e9) (fun v31 ev31 => ?_)
                    exact ab_iret (pc := 138) (by decide +kernel) rfl rfl (Nat.le_of_ble_eq_true rfl) (Nat.le_of_ble_eq_true rfl)
                  · refine ab_swC (pc := 1) (c9 := nI 9) (off := 138) (tgt := 139) (dflt := 165) (lo := 0) (hi := 11) (offs := #[63, 71, 79, 87, 95, 106, 114, 122, 130, 138, 146, 157]) (len := 63) (by decide +kernel) (by decide) (by decide) (by decide) (by decide) (fun g10 => ?_) (fun g10 => ?_)
                    · refine ab_aload_n (pc := 139) (n := 0) (i := 0) (j := 0) (by decide +kernel) rfl rfl ?_
                      refine ab_getR (pc := 140) fl_X11_26_11 (by decide +kernel) (fun v32 ev32 => ?_)
                      refine ab_callVi (As := []) (st := []) (pc := 143) lk_X11_382_8 rfl rfl rfl (by decide) rfl (Nat.le_of_ble_eq_true rfl) (by decide +kernel) (fun y9 e9 => okX8_allMarksCount hl (F := F) e9) (fun v33 ev33 => ?_)
                      exact ab_iret (pc := 146) (by decide +kernel) rfl rfl (Nat.le_of_ble_eq_true rfl) (Nat.le_of_ble_eq_true rfl)
                    · refine ab_swC (pc := 1) (c9 := nI 10) (off := 146) (tgt := 147) (dflt := 165) (lo := 0) (hi := 11) (offs := #[63, 71, 79, 87, 95, 106, 114, 122, 130, 138, 146, 157]) (len := 63) (by decide +kernel) (by decide) (by decide) (by decide) (by decide) (fun g11 => ?_) (fun g11 => ?_)
                      · refine ab_aload_n (pc := 147) (n := 0) (i := 0) (j := 0) (by decide +kernel) rfl rfl ?_
                        refine ab_getR (pc := 148) fl_X11_26_11 (by decide +kernel) (fun v34 ev34 => ?_)
                        refine ab_getR (pc := 151) fl_X11_348_8 (by decide +kernel) (fun v35 ev35 => ?_)
                        refine ab_getI (pc := 154) fl_X11_352_4 (by decide +kernel) (fun v36 ev36 => ?_)
                        exact ab_iret (pc := 157) (by decide +kernel) rfl rfl (Nat.le_of_ble_eq_true rfl) (Nat.le_of_ble_eq_true rfl)
                      · refine ab_swC (pc := 1) (c9 := nI 11) (off := 157) (tgt := 158) (dflt := 165) (lo := 0) (hi := 11) (offs := #[63, 71, 79, 87, 95, 106, 114, 122, 130, 138, 146, 157]) (len := 63) (by decide +kernel) (by decide) (by decide) (by decide) (by decide) (fun g12 => ?_) (fun g12 => ?_)
                        · refine ab_aload_n (pc := 158) (n := 0) (i := 0) (j := 0) (by decide +kernel) rfl rfl ?_
                          refine ab_getR (pc := 159) fl_X11_39_11 (by decide +kernel) (fun v37 ev37 => ?_)
                          refine ab_getI (pc := 162) fl_X11_385_6 (by decide +kernel) (fun v38 ev38 => ?_)
                          exact ab_iret (pc := 165) (by decide +kernel) rfl rfl (Nat.le_of_ble_eq_true rfl) (Nat.le_of_ble_eq_true rfl)
                        · refine ab_swD (pc := 1) (tgt := 166) (dflt := 165) (lo := 0) (hi := 11) (offs := #[63, 71, 79, 87, 95, 106, 114, 122, 130, 138, 146, 157]) (len := 63) (by decide +kernel) (by have qg1 := ab_neN (n := 0) (by decide) g1; have qg2 := ab_neN (n := 1) (by decide) g2; have qg3 := ab_neN (n := 2) (by decide) g3; have qg4 := ab_neN (n := 3) (by decide) g4; have qg5 := ab_neN (n := 4) (by decide) g5; have qg6 := ab_neN (n := 5) (by decide) g6; have qg7 := ab_neN (n := 6) (by decide) g7; have qg8 := ab_neN (n := 7) (by decide) g8; have qg9 := ab_neN (n := 8) (by decide) g9; have qg10 := ab_neN (n := 9) (by decide) g10; have qg11 := ab_neN (n := 10) (by decide) g11; have qg12 := ab_neN (n := 11) (by decide) g12; omega) (by decide) ?_
                          refine ab_iconst (pc := 166) (n := -1) (v := (-1 : Int32)) (by decide +kernel) rfl ?_
                          exact ab_iret (pc := 167) (by decide +kernel) rfl rfl (Nat.le_of_ble_eq_true rfl) (Nat.le_of_ble_eq_true rfl)
set_option maxRecDepth 100000 in
set_option maxHeartbeats 4000000 in
theorem okX11_count {l : Launch} (hl : l.stackTraces = false) {F : Nat} {x0 : Nat} {x1 : Int32} {h : ab_H} {y : Int32} (e : fX11_count F x0 x1 h = some y) : ab_Met l mX11_count [.ref x0, .int x1] h (.inl (some (.int y)), h) := ab_ofS (io := (fun y : Int32 => ((.inl (some (.int y)), h) : ab_R × ab_H))) (x := y) hl (by decide) rfl (Nat.le_of_ble_eq_true rfl) (wX11_count hl F x0 x1 h) e
def mX11_needPerson : ab_M := (yX11_needPerson, cX11_needPerson, 2, none, { frames := 6, cells := 1, slots := 6, locals := 90 })
theorem iX11_needPerson : ab_MI mX11_needPerson 1 := ⟨kw_85c1b9bbad, kw_62b61b7ad3, by decide +kernel⟩
theorem lk_X11_388_8 : ab_LV RX11 388 8 mX8_hasPerson 1 := ⟨RX8, rfl, iX8_hasPerson, kw_79a18c124d, kw_1a6b271e78, kw_58b468e312⟩
theorem th_X11_391_395 : ab_TH RX11 391 395 "java/lang/IndexOutOfBoundsException" := ⟨⟨by decide +kernel, by decide +kernel⟩, kw_bbc37775ce, kw_f96c1aa156, by decide +kernel, by decide +kernel, by decide +kernel⟩
def fX11_needPerson (x0 : Nat) (x1 : Int32) (h : ab_H) : Option (Unit ⊕ String) := ab_bd (ab_fr h x0 11 1) fun v1 => ab_ck (ab_io h v1 8 = true) (ab_bd (fX8_hasPerson v1 x1 h) fun v2 => (if v2 = 0 then some (.inr "java/lang/IndexOutOfBoundsException") else some (.inl ())))
set_option maxRecDepth 100000 in
set_option maxHeartbeats 4000000 in
theorem wX11_needPerson {l : Launch} (hl : l.stackTraces = false) (x0 : Nat) (x1 : Int32) (h : ab_H) : ab_S l mX11_needPerson (ab_iot h) 0 0 (fX11_needPerson x0 x1 h) 0 [(0, .ref x0), (1, .int x1)] [] h := by
  unfold fX11_needPerson
  refine ab_aload_n (pc := 0) (n := 0) (i := 0) (j := 0) (by decide +kernel) rfl rfl ?_
  refine ab_getR (pc := 1) fl_X11_26_11 (by decide +kernel) (fun v1 ev1 => ?_)
  refine ab_iload_n (pc := 4) (n := 1) (i := 1) (j := 1) (by decide +kernel) rfl rfl ?_
  refine ab_callVi (As := [.int x1]) (st := []) (pc := 5) lk_X11_388_8 rfl rfl rfl (by decide) rfl (Nat.le_of_ble_eq_true rfl) (by decide +kernel) (fun y9 e9 => okX8_hasPerson hl e9) (fun v2 ev2 => ?_)
  refine ab_if_ne (off := 14) (pc := 8) (tgt := 22) (by decide +kernel) (by decide) (fun g3 => ?_) (fun g3 => ?_)
  · exact ab_thrW (pc := 11) (ik := 391) (is := 393) (ic := 395) (kk := 4) (text := "there is no such PERSON or FACE") th_X11_391_395 (by show (RX11, 393, "there is no such PERSON or FACE", 4) ∈ ab_sr; decide +kernel) rfl (by decide +kernel) (by decide +kernel) (by decide +kernel) (by decide +kernel) (by decide +kernel) (by decide) (Nat.le_of_ble_eq_true rfl) (Nat.le_of_ble_eq_true rfl) (Nat.le_of_ble_eq_true rfl)
  · exact ab_vret (pc := 22) (by decide +kernel) rfl rfl (Nat.le_of_ble_eq_true rfl) (Nat.le_of_ble_eq_true rfl)
set_option maxRecDepth 100000 in
set_option maxHeartbeats 4000000 in
theorem okX11_needPerson {l : Launch} (hl : l.stackTraces = false) {x0 : Nat} {x1 : Int32} {h : ab_H} {y : (Unit ⊕ String)} (e : fX11_needPerson x0 x1 h = some y) : ab_Met l mX11_needPerson [.ref x0, .int x1] h ((ab_iot h) y) := ab_ofS (io := (ab_iot h)) (x := y) hl (by decide) rfl (Nat.le_of_ble_eq_true rfl) (wX11_needPerson hl x0 x1 h) e
def mX11_needHook : ab_M := (yX11_needHook, cX11_needHook, 2, none, { frames := 6, cells := 1, slots := 6, locals := 90 })
theorem iX11_needHook : ab_MI mX11_needHook 1 := ⟨kw_72e4878a2e, kw_62b61b7ad3, by decide +kernel⟩
def fX11_needHook (x0 : Nat) (x1 : Int32) (h : ab_H) : Option (Unit ⊕ String) := ab_jn (κ := Option (Unit ⊕ String)) (some (.inr "java/lang/IndexOutOfBoundsException")) fun j1 => (if x1 < 0 then j1 else ab_bd (ab_fr h x0 11 1) fun v3 => ab_bd (ab_fi h v3 8 1) fun v4 => (if x1 < v4 then some (.inl ()) else j1))
set_option maxRecDepth 100000 in
set_option maxHeartbeats 4000000 in
theorem wX11_needHook {l : Launch} (hl : l.stackTraces = false) (x0 : Nat) (x1 : Int32) (h : ab_H) : ab_S l mX11_needHook (ab_iot h) 0 0 (fX11_needHook x0 x1 h) 0 [(0, .ref x0), (1, .int x1)] [] h := by
  unfold fX11_needHook
  refine ab_iload_n (pc := 0) (n := 1) (i := 1) (j := 1) (by decide +kernel) rfl rfl ?_
  refine ab_jr (fun k9 : Option (Unit ⊕ String) => ab_S l mX11_needHook (ab_iot h) 0 0 (k9) 15 [] [] h) ?_ (fun j1 hj1 => ?_)
  · exact ab_thrW (pc := 15) (ik := 391) (is := 396) (ic := 395) (kk := 7) (text := "there is no such HOOK") th_X11_391_395 (by show (RX11, 396, "there is no such HOOK", 7) ∈ ab_sr; decide +kernel) rfl (by decide +kernel) (by decide +kernel) (by decide +kernel) (by decide +kernel) (by decide +kernel) (by decide) (Nat.le_of_ble_eq_true rfl) (Nat.le_of_ble_eq_true rfl) (Nat.le_of_ble_eq_true rfl)
  · refine ab_if_lt (off := 14) (pc := 1) (tgt := 15) (by decide +kernel) (by decide) (fun g2 => ?_) (fun g2 => ?_)
    · refine ab_few [] (lv' := []) rfl ?_
      exact hj1
    · refine ab_iload_n (pc := 4) (n := 1) (i := 1) (j := 1) (by decide +kernel) rfl rfl ?_
      refine ab_aload_n (pc := 5) (n := 0) (i := 0) (j := 0) (by decide +kernel) rfl rfl ?_
      refine ab_getR (pc := 6) fl_X11_26_11 (by decide +kernel) (fun v3 ev3 => ?_)
      refine ab_getI (pc := 9) fl_X11_257_8 (by decide +kernel) (fun v4 ev4 => ?_)
      refine ab_icmp_lt (off := 14) (pc := 12) (tgt := 26) (by decide +kernel) (by decide) (fun g5 => ?_) (fun g5 => ?_)
      · exact ab_vret (pc := 26) (by decide +kernel) rfl rfl (Nat.le_of_ble_eq_true rfl) (Nat.le_of_ble_eq_true rfl)
      · refine ab_few [] (lv' := []) rfl ?_
        exact hj1
set_option maxRecDepth 100000 in
set_option maxHeartbeats 4000000 in
theorem okX11_needHook {l : Launch} (hl : l.stackTraces = false) {x0 : Nat} {x1 : Int32} {h : ab_H} {y : (Unit ⊕ String)} (e : fX11_needHook x0 x1 h = some y) : ab_Met l mX11_needHook [.ref x0, .int x1] h ((ab_iot h) y) := ab_ofS (io := (ab_iot h)) (x := y) hl (by decide) rfl (Nat.le_of_ble_eq_true rfl) (wX11_needHook hl x0 x1 h) e
def mX11_needMark : ab_M := (yX11_needMark, cX11_needMark, 1, none, { frames := 6, cells := 1, slots := 6, locals := 90 })
theorem iX11_needMark : ab_MI mX11_needMark 1 := ⟨kw_ac26da9ec8, kw_62b61b7ad3, by decide +kernel⟩
def fX11_needMark (x0 : Int32) (h : ab_H) : Option (Unit ⊕ String) := ab_jn (κ := Option (Unit ⊕ String)) (some (.inr "java/lang/IndexOutOfBoundsException")) fun j1 => (if x0 < 0 then j1 else (if x0 < (nI 8) then some (.inl ()) else j1))
set_option maxRecDepth 100000 in
set_option maxHeartbeats 4000000 in
theorem wX11_needMark {l : Launch} (hl : l.stackTraces = false) (x0 : Int32) (h : ab_H) : ab_S l mX11_needMark (ab_iot h) 0 0 (fX11_needMark x0 h) 0 [(0, .int x0)] [] h := by
  unfold fX11_needMark
  refine ab_iload_n (pc := 0) (n := 0) (i := 0) (j := 0) (by decide +kernel) rfl rfl ?_
  refine ab_jr (fun k9 : Option (Unit ⊕ String) => ab_S l mX11_needMark (ab_iot h) 0 0 (k9) 10 [] [] h) ?_ (fun j1 hj1 => ?_)
  · exact ab_thrW (pc := 10) (ik := 391) (is := 398) (ic := 395) (kk := 14) (text := "there is no such MARK") th_X11_391_395 (by show (RX11, 398, "there is no such MARK", 14) ∈ ab_sr; decide +kernel) rfl (by decide +kernel) (by decide +kernel) (by decide +kernel) (by decide +kernel) (by decide +kernel) (by decide) (Nat.le_of_ble_eq_true rfl) (Nat.le_of_ble_eq_true rfl) (Nat.le_of_ble_eq_true rfl)
  · refine ab_if_lt (off := 9) (pc := 1) (tgt := 10) (by decide +kernel) (by decide) (fun g2 => ?_) (fun g2 => ?_)
    · refine ab_few [] (lv' := []) rfl ?_
      exact hj1
    · refine ab_iload_n (pc := 4) (n := 0) (i := 0) (j := 0) (by decide +kernel) rfl rfl ?_
      refine ab_bipush (pc := 5) (n := 8) (v := nI 8) (by decide +kernel) (by decide) ?_
      refine ab_icmp_lt (off := 14) (pc := 7) (tgt := 21) (by decide +kernel) (by decide) (fun g3 => ?_) (fun g3 => ?_)
      · exact ab_vret (pc := 21) (by decide +kernel) rfl rfl (Nat.le_of_ble_eq_true rfl) (Nat.le_of_ble_eq_true rfl)
      · refine ab_few [] (lv' := []) rfl ?_
        exact hj1
set_option maxRecDepth 100000 in
set_option maxHeartbeats 4000000 in
theorem okX11_needMark {l : Launch} (hl : l.stackTraces = false) {x0 : Int32} {h : ab_H} {y : (Unit ⊕ String)} (e : fX11_needMark x0 h = some y) : ab_Met l mX11_needMark [.int x0] h ((ab_iot h) y) := ab_ofS (io := (ab_iot h)) (x := y) hl (by decide) rfl (Nat.le_of_ble_eq_true rfl) (wX11_needMark hl x0 h) e
def mX11_needUnlike : ab_M := (yX11_needUnlike, cX11_needUnlike, 2, none, { frames := 6, cells := 1, slots := 6, locals := 90 })
theorem iX11_needUnlike : ab_MI mX11_needUnlike 2 := ⟨kw_784b9256da, kw_62b61b7ad3, by decide +kernel⟩
theorem th_X11_95_99 : ab_TH RX11 95 99 "java/lang/IllegalArgumentException" := ⟨⟨by decide +kernel, by decide +kernel⟩, kw_3a4ee01bea, kw_aece5bb2b1, by decide +kernel, by decide +kernel, by decide +kernel⟩
def fX11_needUnlike (x0 : Int32) (x1 : Int32) (h : ab_H) : Option (Unit ⊕ String) := (if x0 = x1 then some (.inr "java/lang/IllegalArgumentException") else some (.inl ()))
set_option maxRecDepth 100000 in
set_option maxHeartbeats 4000000 in
theorem wX11_needUnlike {l : Launch} (hl : l.stackTraces = false) (x0 : Int32) (x1 : Int32) (h : ab_H) : ab_S l mX11_needUnlike (ab_iot h) 0 0 (fX11_needUnlike x0 x1 h) 0 [(0, .int x0), (1, .int x1)] [] h := by
  unfold fX11_needUnlike
  refine ab_iload_n (pc := 0) (n := 0) (i := 0) (j := 0) (by decide +kernel) rfl rfl ?_
  refine ab_iload_n (pc := 1) (n := 1) (i := 1) (j := 1) (by decide +kernel) rfl rfl ?_
  refine ab_icmp_ne (off := 14) (pc := 2) (tgt := 16) (by decide +kernel) (by decide) (fun g1 => ?_) (fun g1 => ?_)
  · exact ab_thrW (pc := 5) (ik := 95) (is := 400) (ic := 99) (kk := 8) (text := "both are one") th_X11_95_99 (by show (RX11, 400, "both are one", 8) ∈ ab_sr; decide +kernel) rfl (by decide +kernel) (by decide +kernel) (by decide +kernel) (by decide +kernel) (by decide +kernel) (by decide) (Nat.le_of_ble_eq_true rfl) (Nat.le_of_ble_eq_true rfl) (Nat.le_of_ble_eq_true rfl)
  · exact ab_vret (pc := 16) (by decide +kernel) rfl rfl (Nat.le_of_ble_eq_true rfl) (Nat.le_of_ble_eq_true rfl)
set_option maxRecDepth 100000 in
set_option maxHeartbeats 4000000 in
theorem okX11_needUnlike {l : Launch} (hl : l.stackTraces = false) {x0 : Int32} {x1 : Int32} {h : ab_H} {y : (Unit ⊕ String)} (e : fX11_needUnlike x0 x1 h = some y) : ab_Met l mX11_needUnlike [.int x0, .int x1] h ((ab_iot h) y) := ab_ofS (io := (ab_iot h)) (x := y) hl (by decide) rfl (Nat.le_of_ble_eq_true rfl) (wX11_needUnlike hl x0 x1 h) e
def mX11_needTwo : ab_M := (yX11_needTwo, cX11_needTwo, 3, none, { frames := 7, cells := 3, slots := 18, locals := 111 })
theorem iX11_needTwo : ab_MI mX11_needTwo 2 := ⟨kw_df79217736, kw_62b61b7ad3, by decide +kernel⟩
theorem lk_X11_131_11 : ab_LV RX11 131 11 mX11_needPerson 1 := ⟨RX11, rfl, iX11_needPerson, kw_a072a97f88, kw_4f3fe4aaaa, kw_a95798ba67⟩
theorem lk_X11_235 : ab_LS RX11 235 mX11_needUnlike 2 := ⟨iX11_needUnlike, kw_f606e120d9, kw_0269c8c734⟩
def fX11_needTwo (x0 : Nat) (x1 : Int32) (x2 : Int32) (h : ab_H) : Option (Unit ⊕ String) := ab_ck (ab_io h x0 11 = true) (ab_bx (fX11_needPerson x0 x1 h) (fun E => Sum.inr E) (ab_ck (ab_io h x0 11 = true) (ab_bx (fX11_needPerson x0 x2 h) (fun E => Sum.inr E) (ab_bx (fX11_needUnlike x1 x2 h) (fun E => Sum.inr E) (some (.inl ()))))))
set_option maxRecDepth 100000 in
set_option maxHeartbeats 4000000 in
theorem wX11_needTwo {l : Launch} (hl : l.stackTraces = false) (x0 : Nat) (x1 : Int32) (x2 : Int32) (h : ab_H) : ab_S l mX11_needTwo (ab_iot h) 0 0 (fX11_needTwo x0 x1 x2 h) 0 [(0, .ref x0), (1, .int x1), (2, .int x2)] [] h := by
  unfold fX11_needTwo
  refine ab_aload_n (pc := 0) (n := 0) (i := 0) (j := 0) (by decide +kernel) rfl rfl ?_
  refine ab_iload_n (pc := 1) (n := 1) (i := 1) (j := 1) (by decide +kernel) rfl rfl ?_
  refine ab_callVt (As := [.int x1]) (st := []) (thr := (fun E => Sum.inr E)) (pc := 2) lk_X11_131_11 (fun _ => rfl) rfl (by decide) rfl (Nat.le_of_ble_eq_true rfl) (by decide +kernel) (fun y9 e9 => okX11_needPerson hl e9) ?_
  refine ab_aload_n (pc := 5) (n := 0) (i := 0) (j := 0) (by decide +kernel) rfl rfl ?_
  refine ab_iload_n (pc := 6) (n := 2) (i := 2) (j := 2) (by decide +kernel) rfl rfl ?_
  refine ab_callVt (As := [.int x2]) (st := []) (thr := (fun E => Sum.inr E)) (pc := 7) lk_X11_131_11 (fun _ => rfl) rfl (by decide) rfl (Nat.le_of_ble_eq_true rfl) (by decide +kernel) (fun y9 e9 => okX11_needPerson hl e9) ?_
  refine ab_iload_n (pc := 10) (n := 1) (i := 1) (j := 1) (by decide +kernel) rfl rfl ?_
  refine ab_iload_n (pc := 11) (n := 2) (i := 2) (j := 2) (by decide +kernel) rfl rfl ?_
  refine ab_callSt (As := [.int x1, .int x2]) (st := []) (thr := (fun E => Sum.inr E)) (pc := 12) lk_X11_235 (fun _ => rfl) rfl (by decide) rfl (Nat.le_of_ble_eq_true rfl) (by decide +kernel) (fun y9 e9 => okX11_needUnlike hl e9) ?_
  exact ab_vret (pc := 15) (by decide +kernel) rfl rfl (Nat.le_of_ble_eq_true rfl) (Nat.le_of_ble_eq_true rfl)
set_option maxRecDepth 100000 in
set_option maxHeartbeats 4000000 in
theorem okX11_needTwo {l : Launch} (hl : l.stackTraces = false) {x0 : Nat} {x1 : Int32} {x2 : Int32} {h : ab_H} {y : (Unit ⊕ String)} (e : fX11_needTwo x0 x1 x2 h = some y) : ab_Met l mX11_needTwo [.ref x0, .int x1, .int x2] h ((ab_iot h) y) := ab_ofS (io := (ab_iot h)) (x := y) hl (by decide) rfl (Nat.le_of_ble_eq_true rfl) (wX11_needTwo hl x0 x1 x2 h) e
def mX11_needNumber : ab_M := (yX11_needNumber, cX11_needNumber, 3, none, { frames := 6, cells := 1, slots := 6, locals := 90 })
theorem iX11_needNumber : ab_MI mX11_needNumber 3 := ⟨kw_830d30b985, kw_62b61b7ad3, by decide +kernel⟩
def fX11_needNumber (x0 : Int32) (x1 : Int32) (x2 : Int32) (h : ab_H) : Option (Unit ⊕ String) := ab_jn (κ := Option (Unit ⊕ String)) (some (.inr "java/lang/IllegalArgumentException")) fun j1 => (if x0 < x1 then j1 else (if x0 ≤ x2 then some (.inl ()) else j1))
set_option maxRecDepth 100000 in
set_option maxHeartbeats 4000000 in
theorem wX11_needNumber {l : Launch} (hl : l.stackTraces = false) (x0 : Int32) (x1 : Int32) (x2 : Int32) (h : ab_H) : ab_S l mX11_needNumber (ab_iot h) 0 0 (fX11_needNumber x0 x1 x2 h) 0 [(0, .int x0), (1, .int x1), (2, .int x2)] [] h := by
  unfold fX11_needNumber
  refine ab_iload_n (pc := 0) (n := 0) (i := 0) (j := 0) (by decide +kernel) rfl rfl ?_
  refine ab_iload_n (pc := 1) (n := 1) (i := 1) (j := 1) (by decide +kernel) rfl rfl ?_
  refine ab_jr (fun k9 : Option (Unit ⊕ String) => ab_S l mX11_needNumber (ab_iot h) 0 0 (k9) 10 [] [] h) ?_ (fun j1 hj1 => ?_)
  · exact ab_thrW (pc := 10) (ik := 95) (is := 402) (ic := 99) (kk := 17) (text := "the number is none") th_X11_95_99 (by show (RX11, 402, "the number is none", 17) ∈ ab_sr; decide +kernel) rfl (by decide +kernel) (by decide +kernel) (by decide +kernel) (by decide +kernel) (by decide +kernel) (by decide) (Nat.le_of_ble_eq_true rfl) (Nat.le_of_ble_eq_true rfl) (Nat.le_of_ble_eq_true rfl)
  · refine ab_icmp_lt (off := 8) (pc := 2) (tgt := 10) (by decide +kernel) (by decide) (fun g2 => ?_) (fun g2 => ?_)
    · refine ab_few [] (lv' := []) rfl ?_
      exact hj1
    · refine ab_iload_n (pc := 5) (n := 0) (i := 0) (j := 0) (by decide +kernel) rfl rfl ?_
      refine ab_iload_n (pc := 6) (n := 2) (i := 2) (j := 2) (by decide +kernel) rfl rfl ?_
      refine ab_icmp_le (off := 14) (pc := 7) (tgt := 21) (by decide +kernel) (by decide) (fun g3 => ?_) (fun g3 => ?_)
      · exact ab_vret (pc := 21) (by decide +kernel) rfl rfl (Nat.le_of_ble_eq_true rfl) (Nat.le_of_ble_eq_true rfl)
      · refine ab_few [] (lv' := []) rfl ?_
        exact hj1
set_option maxRecDepth 100000 in
set_option maxHeartbeats 4000000 in
theorem okX11_needNumber {l : Launch} (hl : l.stackTraces = false) {x0 : Int32} {x1 : Int32} {x2 : Int32} {h : ab_H} {y : (Unit ⊕ String)} (e : fX11_needNumber x0 x1 x2 h = some y) : ab_Met l mX11_needNumber [.int x0, .int x1, .int x2] h ((ab_iot h) y) := ab_ofS (io := (ab_iot h)) (x := y) hl (by decide) rfl (Nat.le_of_ble_eq_true rfl) (wX11_needNumber hl x0 x1 x2 h) e
def mX11_needTold : ab_M := (yX11_needTold, cX11_needTold, 1, none, { frames := 6, cells := 1, slots := 6, locals := 90 })
theorem iX11_needTold : ab_MI mX11_needTold 1 := ⟨kw_fe0be2f1bf, kw_62b61b7ad3, by decide +kernel⟩
def fX11_needTold (x0 : Int32) (h : ab_H) : Option (Unit ⊕ String) := (if x0 = 0 then some (.inr "java/lang/IllegalArgumentException") else some (.inl ()))
set_option maxRecDepth 100000 in
set_option maxHeartbeats 4000000 in
theorem wX11_needTold {l : Launch} (hl : l.stackTraces = false) (x0 : Int32) (h : ab_H) : ab_S l mX11_needTold (ab_iot h) 0 0 (fX11_needTold x0 h) 0 [(0, .int x0)] [] h := by
  unfold fX11_needTold
  refine ab_iload_n (pc := 0) (n := 0) (i := 0) (j := 0) (by decide +kernel) rfl rfl ?_
  refine ab_if_ne (off := 14) (pc := 1) (tgt := 15) (by decide +kernel) (by decide) (fun g1 => ?_) (fun g1 => ?_)
  · exact ab_thrW (pc := 4) (ik := 95) (is := 404) (ic := 99) (kk := 19) (text := "the TAPE is not SAID") th_X11_95_99 (by show (RX11, 404, "the TAPE is not SAID", 19) ∈ ab_sr; decide +kernel) rfl (by decide +kernel) (by decide +kernel) (by decide +kernel) (by decide +kernel) (by decide +kernel) (by decide) (Nat.le_of_ble_eq_true rfl) (Nat.le_of_ble_eq_true rfl) (Nat.le_of_ble_eq_true rfl)
  · exact ab_vret (pc := 15) (by decide +kernel) rfl rfl (Nat.le_of_ble_eq_true rfl) (Nat.le_of_ble_eq_true rfl)
set_option maxRecDepth 100000 in
set_option maxHeartbeats 4000000 in
theorem okX11_needTold {l : Launch} (hl : l.stackTraces = false) {x0 : Int32} {h : ab_H} {y : (Unit ⊕ String)} (e : fX11_needTold x0 h = some y) : ab_Met l mX11_needTold [.int x0] h ((ab_iot h) y) := ab_ofS (io := (ab_iot h)) (x := y) hl (by decide) rfl (Nat.le_of_ble_eq_true rfl) (wX11_needTold hl x0 h) e
def mX11_has : ab_M := (yX11_has, cX11_has, 2, (some .boolean), { frames := 0, cells := 0, slots := 0, locals := 0 })
theorem iX11_has : ab_MI mX11_has 2 := ⟨kw_51884ab04c, kw_62b61b7ad3, by decide +kernel⟩
def fX11_has (x0 : Int32) (x1 : Int32) (h : ab_H) : Option Int32 := (if ((ab_us x0 x1) &&& (nI 1)) = 0 then some (nI 0) else some (nI 1))
set_option maxRecDepth 100000 in
set_option maxHeartbeats 4000000 in
theorem wX11_has {l : Launch} (hl : l.stackTraces = false) (x0 : Int32) (x1 : Int32) (h : ab_H) : ab_S l mX11_has (fun y : Int32 => ((.inl (some (.int y)), h) : ab_R × ab_H)) 0 0 (fX11_has x0 x1 h) 0 [(0, .int x0), (1, .int x1)] [] h := by
  unfold fX11_has
  refine ab_iload_n (pc := 0) (n := 0) (i := 0) (j := 0) (by decide +kernel) rfl rfl ?_
  refine ab_iload_n (pc := 1) (n := 1) (i := 1) (j := 1) (by decide +kernel) rfl rfl ?_
  refine ab_iushr (pc := 2) (by decide +kernel) ?_
  refine ab_iconst (pc := 3) (n := 1) (v := nI 1) (by decide +kernel) rfl ?_
  refine ab_iand (pc := 4) (by decide +kernel) ?_
  refine ab_if_eq (off := 7) (pc := 5) (tgt := 12) (by decide +kernel) (by decide) (fun g1 => ?_) (fun g1 => ?_)
  · refine ab_iconst (pc := 12) (n := 0) (v := nI 0) (by decide +kernel) rfl ?_
    exact ab_zret (pc := 13) (by decide +kernel) rfl ab_bl0.1 rfl (Nat.le_of_ble_eq_true rfl) (Nat.le_of_ble_eq_true rfl)
  · refine ab_iconst (pc := 8) (n := 1) (v := nI 1) (by decide +kernel) rfl ?_
    refine ab_goto (pc := 9) (off := 4) (tgt := 13) (by decide +kernel) (by decide) ?_
    exact ab_zret (pc := 13) (by decide +kernel) rfl ab_bl1.1 rfl (Nat.le_of_ble_eq_true rfl) (Nat.le_of_ble_eq_true rfl)
set_option maxRecDepth 100000 in
set_option maxHeartbeats 4000000 in
theorem okX11_has {l : Launch} (hl : l.stackTraces = false) {x0 : Int32} {x1 : Int32} {h : ab_H} {y : Int32} (e : fX11_has x0 x1 h = some y) : ab_Met l mX11_has [.int x0, .int x1] h (.inl (some (.int y)), h) := ab_ofS (io := (fun y : Int32 => ((.inl (some (.int y)), h) : ab_R × ab_H))) (x := y) hl (by decide) rfl (Nat.le_of_ble_eq_true rfl) (wX11_has hl x0 x1 h) e
def mX11_isFewer : ab_M := (yX11_isFewer, cX11_isFewer, 2, (some .boolean), { frames := 1, cells := 0, slots := 0, locals := 20 })
theorem iX11_isFewer : ab_MI mX11_isFewer 2 := ⟨kw_3339c2d09d, kw_62b61b7ad3, by decide +kernel⟩
theorem lk_X11_230 : ab_LS RX11 230 mJ6_bitCount_0f7a4 1 := ⟨iJ6_bitCount_0f7a4, kw_1348376e2c, kw_8cce87de8d⟩
def fX11_isFewer (x0 : Int32) (x1 : Int32) (h : ab_H) : Option Int32 := (if x1 = (-1 : Int32) then some (nI 1) else ab_bd (fJ6_bitCount_0f7a4 x0 h) fun v2 => ab_bd (fJ6_bitCount_0f7a4 x1 h) fun v3 => (if v2 < v3 then some (nI 1) else some (nI 0)))
set_option maxRecDepth 100000 in
set_option maxHeartbeats 4000000 in
theorem wX11_isFewer {l : Launch} (hl : l.stackTraces = false) (x0 : Int32) (x1 : Int32) (h : ab_H) : ab_S l mX11_isFewer (fun y : Int32 => ((.inl (some (.int y)), h) : ab_R × ab_H)) 0 0 (fX11_isFewer x0 x1 h) 0 [(0, .int x0), (1, .int x1)] [] h := by
  unfold fX11_isFewer
  refine ab_iload_n (pc := 0) (n := 1) (i := 1) (j := 1) (by decide +kernel) rfl rfl ?_
  refine ab_iconst (pc := 1) (n := -1) (v := (-1 : Int32)) (by decide +kernel) rfl ?_
  refine ab_icmp_eq (off := 14) (pc := 2) (tgt := 16) (by decide +kernel) (by decide) (fun g1 => ?_) (fun g1 => ?_)
  · refine ab_iconst (pc := 16) (n := 1) (v := nI 1) (by decide +kernel) rfl ?_
    refine ab_goto (pc := 17) (off := 4) (tgt := 21) (by decide +kernel) (by decide) ?_
    exact ab_zret (pc := 21) (by decide +kernel) rfl ab_bl1.1 rfl (Nat.le_of_ble_eq_true rfl) (Nat.le_of_ble_eq_true rfl)
  · refine ab_iload_n (pc := 5) (n := 0) (i := 0) (j := 0) (by decide +kernel) rfl rfl ?_
    refine ab_callSi (As := [.int x0]) (st := []) (pc := 6) lk_X11_230 rfl rfl rfl (by decide) rfl (Nat.le_of_ble_eq_true rfl) (by decide +kernel) (fun y9 e9 => okJ6_bitCount_0f7a4 hl e9) (fun v2 ev2 => ?_)
    refine ab_iload_n (pc := 9) (n := 1) (i := 1) (j := 1) (by decide +kernel) rfl rfl ?_
    refine ab_callSi (As := [.int x1]) (st := [.int v2]) (pc := 10) lk_X11_230 rfl rfl rfl (by decide) rfl (Nat.le_of_ble_eq_true rfl) (by decide +kernel) (fun y9 e9 => okJ6_bitCount_0f7a4 hl e9) (fun v3 ev3 => ?_)
    refine ab_icmp_ge (off := 7) (pc := 13) (tgt := 20) (by decide +kernel) (by decide) (fun g4 => ?_) (fun g4 => ?_)
    · refine ab_iconst (pc := 16) (n := 1) (v := nI 1) (by decide +kernel) rfl ?_
      refine ab_goto (pc := 17) (off := 4) (tgt := 21) (by decide +kernel) (by decide) ?_
      exact ab_zret (pc := 21) (by decide +kernel) rfl ab_bl1.1 rfl (Nat.le_of_ble_eq_true rfl) (Nat.le_of_ble_eq_true rfl)
    · refine ab_iconst (pc := 20) (n := 0) (v := nI 0) (by decide +kernel) rfl ?_
      exact ab_zret (pc := 21) (by decide +kernel) rfl ab_bl0.1 rfl (Nat.le_of_ble_eq_true rfl) (Nat.le_of_ble_eq_true rfl)
set_option maxRecDepth 100000 in
set_option maxHeartbeats 4000000 in
theorem okX11_isFewer {l : Launch} (hl : l.stackTraces = false) {x0 : Int32} {x1 : Int32} {h : ab_H} {y : Int32} (e : fX11_isFewer x0 x1 h = some y) : ab_Met l mX11_isFewer [.int x0, .int x1] h (.inl (some (.int y)), h) := ab_ofS (io := (fun y : Int32 => ((.inl (some (.int y)), h) : ab_R × ab_H))) (x := y) hl (by decide) rfl (Nat.le_of_ble_eq_true rfl) (wX11_isFewer hl x0 x1 h) e
def mX10_initD : ab_M := (yX10_init, cX10_init, 3, none, { frames := 1, cells := 0, slots := 0, locals := 20 })
theorem iX10_initD : ab_MI mX10_initD 2 := ⟨kw_e889e5871b, kw_564260d124, by decide +kernel⟩
def fX10_initD (x0 : Nat) (x1 : Nat) (x2 : Int32) (h : ab_H) : Option ab_H := ab_bd (ab_fw h x0 1 0 (.ref x1)) fun h1 => ab_bd (ab_fw h1 x0 1 1 (.int x2)) fun h2 => some h2
set_option maxRecDepth 100000 in
set_option maxHeartbeats 4000000 in
theorem wX10_initD {l : Launch} (hl : l.stackTraces = false) (x0 : Nat) (x1 : Nat) (x2 : Int32) (h : ab_H) : ab_S l mX10_initD (fun y : ab_H => ((.inl none, y) : ab_R × ab_H)) 0 0 (fX10_initD x0 x1 x2 h) 0 [(0, .ref x0), (1, .ref x1), (2, .int x2)] [] h := by
  unfold fX10_initD
  refine ab_aload_n (pc := 0) (n := 0) (i := 0) (j := 0) (by decide +kernel) rfl rfl ?_
  refine ab_objInit (pc := 1) (index := 3) kw_b90bc2242b kw_3e5ce616d8 kw_90b5ae3dba (Nat.le_of_ble_eq_true rfl) (Nat.le_of_ble_eq_true rfl) (by decide +kernel) ?_
  refine ab_aload_n (pc := 4) (n := 0) (i := 0) (j := 0) (by decide +kernel) rfl rfl ?_
  refine ab_aload_n (pc := 5) (n := 1) (i := 1) (j := 1) (by decide +kernel) rfl rfl ?_
  refine ab_putF (pc := 6) fl_X10_9_1 rfl rfl (fun _ => rfl) (fun _ => rfl) (by decide +kernel) (fun h1 eh1 => ?_)
  refine ab_aload_n (pc := 9) (n := 0) (i := 0) (j := 0) (by decide +kernel) rfl rfl ?_
  refine ab_iload_n (pc := 10) (n := 2) (i := 2) (j := 2) (by decide +kernel) rfl rfl ?_
  refine ab_putF (pc := 11) fl_X10_15_1 rfl rfl (fun _ => rfl) (fun _ => rfl) (by decide +kernel) (fun h2 eh2 => ?_)
  exact ab_vret (pc := 14) (by decide +kernel) rfl rfl (Nat.le_of_ble_eq_true rfl) (Nat.le_of_ble_eq_true rfl)
set_option maxRecDepth 100000 in
set_option maxHeartbeats 4000000 in
theorem okX10_initD {l : Launch} (hl : l.stackTraces = false) {x0 : Nat} {x1 : Nat} {x2 : Int32} {h : ab_H} {y : ab_H} (e : fX10_initD x0 x1 x2 h = some y) : ab_Met l mX10_initD [.ref x0, .ref x1, .int x2] h (.inl none, y) := ab_ofS (io := (fun y : ab_H => ((.inl none, y) : ab_R × ab_H))) (x := y) hl (by decide) rfl (Nat.le_of_ble_eq_true rfl) (wX10_initD hl x0 x1 x2 h) e
def mX10_initL : ab_M := (yX10_init, cX10_init, 3, none, { frames := 1, cells := 0, slots := 0, locals := 20 })
theorem iX10_initL : ab_MI mX10_initL 2 := ⟨kw_e889e5871b, kw_564260d124, by decide +kernel⟩
def fX10_initL (x0 : Nat) (x1 : Nat) (x2 : Int32) (h : ab_H) : Option ab_H := ab_bd (ab_fw h x0 3 0 (.ref x1)) fun h1 => ab_bd (ab_fw h1 x0 3 1 (.int x2)) fun h2 => some h2
set_option maxRecDepth 100000 in
set_option maxHeartbeats 4000000 in
theorem wX10_initL {l : Launch} (hl : l.stackTraces = false) (x0 : Nat) (x1 : Nat) (x2 : Int32) (h : ab_H) : ab_S l mX10_initL (fun y : ab_H => ((.inl none, y) : ab_R × ab_H)) 0 0 (fX10_initL x0 x1 x2 h) 0 [(0, .ref x0), (1, .ref x1), (2, .int x2)] [] h := by
  unfold fX10_initL
  refine ab_aload_n (pc := 0) (n := 0) (i := 0) (j := 0) (by decide +kernel) rfl rfl ?_
  refine ab_objInit (pc := 1) (index := 3) kw_b90bc2242b kw_3e5ce616d8 kw_90b5ae3dba (Nat.le_of_ble_eq_true rfl) (Nat.le_of_ble_eq_true rfl) (by decide +kernel) ?_
  refine ab_aload_n (pc := 4) (n := 0) (i := 0) (j := 0) (by decide +kernel) rfl rfl ?_
  refine ab_aload_n (pc := 5) (n := 1) (i := 1) (j := 1) (by decide +kernel) rfl rfl ?_
  refine ab_putF (pc := 6) fl_X10_9_3 rfl rfl (fun _ => rfl) (fun _ => rfl) (by decide +kernel) (fun h1 eh1 => ?_)
  refine ab_aload_n (pc := 9) (n := 0) (i := 0) (j := 0) (by decide +kernel) rfl rfl ?_
  refine ab_iload_n (pc := 10) (n := 2) (i := 2) (j := 2) (by decide +kernel) rfl rfl ?_
  refine ab_putF (pc := 11) fl_X10_15_3 rfl rfl (fun _ => rfl) (fun _ => rfl) (by decide +kernel) (fun h2 eh2 => ?_)
  exact ab_vret (pc := 14) (by decide +kernel) rfl rfl (Nat.le_of_ble_eq_true rfl) (Nat.le_of_ble_eq_true rfl)
set_option maxRecDepth 100000 in
set_option maxHeartbeats 4000000 in
theorem okX10_initL {l : Launch} (hl : l.stackTraces = false) {x0 : Nat} {x1 : Nat} {x2 : Int32} {h : ab_H} {y : ab_H} (e : fX10_initL x0 x1 x2 h = some y) : ab_Met l mX10_initL [.ref x0, .ref x1, .int x2] h (.inl none, y) := ab_ofS (io := (fun y : ab_H => ((.inl none, y) : ab_R × ab_H))) (x := y) hl (by decide) rfl (Nat.le_of_ble_eq_true rfl) (wX10_initL hl x0 x1 x2 h) e
def mX10_isRightD : ab_M := (yX10_isRight, cX10_isRight, 1, (some .boolean), { frames := 0, cells := 0, slots := 0, locals := 0 })
theorem iX10_isRightD : ab_MI mX10_isRightD 0 := ⟨kw_545b036d1d, kw_564260d124, by decide +kernel⟩
def fX10_isRightD (x0 : Nat) (h : ab_H) : Option Int32 := ab_bd (ab_fi h x0 1 2) fun v1 => (if v1 = (-1 : Int32) then some (nI 1) else some (nI 0))
set_option maxRecDepth 100000 in
set_option maxHeartbeats 4000000 in
theorem wX10_isRightD {l : Launch} (hl : l.stackTraces = false) (x0 : Nat) (h : ab_H) : ab_S l mX10_isRightD (fun y : Int32 => ((.inl (some (.int y)), h) : ab_R × ab_H)) 0 0 (fX10_isRightD x0 h) 0 [(0, .ref x0)] [] h := by
  unfold fX10_isRightD
  refine ab_aload_n (pc := 0) (n := 0) (i := 0) (j := 0) (by decide +kernel) rfl rfl ?_
  refine ab_getI (pc := 1) fl_X10_19_1 (by decide +kernel) (fun v1 ev1 => ?_)
  refine ab_iconst (pc := 4) (n := -1) (v := (-1 : Int32)) (by decide +kernel) rfl ?_
  refine ab_icmp_ne (off := 7) (pc := 5) (tgt := 12) (by decide +kernel) (by decide) (fun g2 => ?_) (fun g2 => ?_)
  · refine ab_iconst (pc := 8) (n := 1) (v := nI 1) (by decide +kernel) rfl ?_
    refine ab_goto (pc := 9) (off := 4) (tgt := 13) (by decide +kernel) (by decide) ?_
    exact ab_zret (pc := 13) (by decide +kernel) rfl ab_bl1.1 rfl (Nat.le_of_ble_eq_true rfl) (Nat.le_of_ble_eq_true rfl)
  · refine ab_iconst (pc := 12) (n := 0) (v := nI 0) (by decide +kernel) rfl ?_
    exact ab_zret (pc := 13) (by decide +kernel) rfl ab_bl0.1 rfl (Nat.le_of_ble_eq_true rfl) (Nat.le_of_ble_eq_true rfl)
set_option maxRecDepth 100000 in
set_option maxHeartbeats 4000000 in
theorem okX10_isRightD {l : Launch} (hl : l.stackTraces = false) {x0 : Nat} {h : ab_H} {y : Int32} (e : fX10_isRightD x0 h = some y) : ab_Met l mX10_isRightD [.ref x0] h (.inl (some (.int y)), h) := ab_ofS (io := (fun y : Int32 => ((.inl (some (.int y)), h) : ab_R × ab_H))) (x := y) hl (by decide) rfl (Nat.le_of_ble_eq_true rfl) (wX10_isRightD hl x0 h) e
def mX10_isRightL : ab_M := (yX10_isRight, cX10_isRight, 1, (some .boolean), { frames := 0, cells := 0, slots := 0, locals := 0 })
theorem iX10_isRightL : ab_MI mX10_isRightL 0 := ⟨kw_545b036d1d, kw_564260d124, by decide +kernel⟩
def fX10_isRightL (x0 : Nat) (h : ab_H) : Option Int32 := ab_bd (ab_fi h x0 3 2) fun v1 => (if v1 = (-1 : Int32) then some (nI 1) else some (nI 0))
set_option maxRecDepth 100000 in
set_option maxHeartbeats 4000000 in
theorem wX10_isRightL {l : Launch} (hl : l.stackTraces = false) (x0 : Nat) (h : ab_H) : ab_S l mX10_isRightL (fun y : Int32 => ((.inl (some (.int y)), h) : ab_R × ab_H)) 0 0 (fX10_isRightL x0 h) 0 [(0, .ref x0)] [] h := by
  unfold fX10_isRightL
  refine ab_aload_n (pc := 0) (n := 0) (i := 0) (j := 0) (by decide +kernel) rfl rfl ?_
  refine ab_getI (pc := 1) fl_X10_19_3 (by decide +kernel) (fun v1 ev1 => ?_)
  refine ab_iconst (pc := 4) (n := -1) (v := (-1 : Int32)) (by decide +kernel) rfl ?_
  refine ab_icmp_ne (off := 7) (pc := 5) (tgt := 12) (by decide +kernel) (by decide) (fun g2 => ?_) (fun g2 => ?_)
  · refine ab_iconst (pc := 8) (n := 1) (v := nI 1) (by decide +kernel) rfl ?_
    refine ab_goto (pc := 9) (off := 4) (tgt := 13) (by decide +kernel) (by decide) ?_
    exact ab_zret (pc := 13) (by decide +kernel) rfl ab_bl1.1 rfl (Nat.le_of_ble_eq_true rfl) (Nat.le_of_ble_eq_true rfl)
  · refine ab_iconst (pc := 12) (n := 0) (v := nI 0) (by decide +kernel) rfl ?_
    exact ab_zret (pc := 13) (by decide +kernel) rfl ab_bl0.1 rfl (Nat.le_of_ble_eq_true rfl) (Nat.le_of_ble_eq_true rfl)
set_option maxRecDepth 100000 in
set_option maxHeartbeats 4000000 in
theorem okX10_isRightL {l : Launch} (hl : l.stackTraces = false) {x0 : Nat} {h : ab_H} {y : Int32} (e : fX10_isRightL x0 h = some y) : ab_Met l mX10_isRightL [.ref x0] h (.inl (some (.int y)), h) := ab_ofS (io := (fun y : Int32 => ((.inl (some (.int y)), h) : ab_R × ab_H))) (x := y) hl (by decide) rfl (Nat.le_of_ble_eq_true rfl) (wX10_isRightL hl x0 h) e
def mX10_isHereD : ab_M := (yX10_isHere, cX10_isHere, 2, (some .boolean), { frames := 1, cells := 0, slots := 0, locals := 20 })
theorem iX10_isHereD : ab_MI mX10_isHereD 1 := ⟨kw_fdc3127235, kw_564260d124, by decide +kernel⟩
theorem lk_X10_51_0 : ab_LV RX10 51 0 mX0_kindHere 0 := ⟨RX0, rfl, iX0_kindHere, kw_2ffa2a8d18, kw_8205f23004, kw_455e2d1259⟩
def fX10_isHereD (x0 : Nat) (x1 : Int32) (h : ab_H) : Option Int32 := ab_bd (ab_fr h x0 1 0) fun v1 => ab_ck (ab_io h v1 0 = true) (ab_bd (fX0_kindHere v1 h) fun v2 => (if v2 = x1 then some (nI 1) else some (nI 0)))
set_option maxRecDepth 100000 in
set_option maxHeartbeats 4000000 in
theorem wX10_isHereD {l : Launch} (hl : l.stackTraces = false) (x0 : Nat) (x1 : Int32) (h : ab_H) : ab_S l mX10_isHereD (fun y : Int32 => ((.inl (some (.int y)), h) : ab_R × ab_H)) 0 0 (fX10_isHereD x0 x1 h) 0 [(0, .ref x0), (1, .int x1)] [] h := by
  unfold fX10_isHereD
  refine ab_aload_n (pc := 0) (n := 0) (i := 0) (j := 0) (by decide +kernel) rfl rfl ?_
  refine ab_getR (pc := 1) fl_X10_9_1 (by decide +kernel) (fun v1 ev1 => ?_)
  refine ab_callVi (As := []) (st := []) (pc := 4) lk_X10_51_0 rfl rfl rfl (by decide) rfl (Nat.le_of_ble_eq_true rfl) (by decide +kernel) (fun y9 e9 => okX0_kindHere hl e9) (fun v2 ev2 => ?_)
  refine ab_iload_n (pc := 7) (n := 1) (i := 1) (j := 1) (by decide +kernel) rfl rfl ?_
  refine ab_icmp_ne (off := 7) (pc := 8) (tgt := 15) (by decide +kernel) (by decide) (fun g3 => ?_) (fun g3 => ?_)
  · refine ab_iconst (pc := 11) (n := 1) (v := nI 1) (by decide +kernel) rfl ?_
    refine ab_goto (pc := 12) (off := 4) (tgt := 16) (by decide +kernel) (by decide) ?_
    exact ab_zret (pc := 16) (by decide +kernel) rfl ab_bl1.1 rfl (Nat.le_of_ble_eq_true rfl) (Nat.le_of_ble_eq_true rfl)
  · refine ab_iconst (pc := 15) (n := 0) (v := nI 0) (by decide +kernel) rfl ?_
    exact ab_zret (pc := 16) (by decide +kernel) rfl ab_bl0.1 rfl (Nat.le_of_ble_eq_true rfl) (Nat.le_of_ble_eq_true rfl)
set_option maxRecDepth 100000 in
set_option maxHeartbeats 4000000 in
theorem okX10_isHereD {l : Launch} (hl : l.stackTraces = false) {x0 : Nat} {x1 : Int32} {h : ab_H} {y : Int32} (e : fX10_isHereD x0 x1 h = some y) : ab_Met l mX10_isHereD [.ref x0, .int x1] h (.inl (some (.int y)), h) := ab_ofS (io := (fun y : Int32 => ((.inl (some (.int y)), h) : ab_R × ab_H))) (x := y) hl (by decide) rfl (Nat.le_of_ble_eq_true rfl) (wX10_isHereD hl x0 x1 h) e
def mX10_isHereL : ab_M := (yX10_isHere, cX10_isHere, 2, (some .boolean), { frames := 1, cells := 0, slots := 0, locals := 20 })
theorem iX10_isHereL : ab_MI mX10_isHereL 1 := ⟨kw_fdc3127235, kw_564260d124, by decide +kernel⟩
def fX10_isHereL (x0 : Nat) (x1 : Int32) (h : ab_H) : Option Int32 := ab_bd (ab_fr h x0 3 0) fun v1 => ab_ck (ab_io h v1 0 = true) (ab_bd (fX0_kindHere v1 h) fun v2 => (if v2 = x1 then some (nI 1) else some (nI 0)))
set_option maxRecDepth 100000 in
set_option maxHeartbeats 4000000 in
theorem wX10_isHereL {l : Launch} (hl : l.stackTraces = false) (x0 : Nat) (x1 : Int32) (h : ab_H) : ab_S l mX10_isHereL (fun y : Int32 => ((.inl (some (.int y)), h) : ab_R × ab_H)) 0 0 (fX10_isHereL x0 x1 h) 0 [(0, .ref x0), (1, .int x1)] [] h := by
  unfold fX10_isHereL
  refine ab_aload_n (pc := 0) (n := 0) (i := 0) (j := 0) (by decide +kernel) rfl rfl ?_
  refine ab_getR (pc := 1) fl_X10_9_3 (by decide +kernel) (fun v1 ev1 => ?_)
  refine ab_callVi (As := []) (st := []) (pc := 4) lk_X10_51_0 rfl rfl rfl (by decide) rfl (Nat.le_of_ble_eq_true rfl) (by decide +kernel) (fun y9 e9 => okX0_kindHere hl e9) (fun v2 ev2 => ?_)
  refine ab_iload_n (pc := 7) (n := 1) (i := 1) (j := 1) (by decide +kernel) rfl rfl ?_
  refine ab_icmp_ne (off := 7) (pc := 8) (tgt := 15) (by decide +kernel) (by decide) (fun g3 => ?_) (fun g3 => ?_)
  · refine ab_iconst (pc := 11) (n := 1) (v := nI 1) (by decide +kernel) rfl ?_
    refine ab_goto (pc := 12) (off := 4) (tgt := 16) (by decide +kernel) (by decide) ?_
    exact ab_zret (pc := 16) (by decide +kernel) rfl ab_bl1.1 rfl (Nat.le_of_ble_eq_true rfl) (Nat.le_of_ble_eq_true rfl)
  · refine ab_iconst (pc := 15) (n := 0) (v := nI 0) (by decide +kernel) rfl ?_
    exact ab_zret (pc := 16) (by decide +kernel) rfl ab_bl0.1 rfl (Nat.le_of_ble_eq_true rfl) (Nat.le_of_ble_eq_true rfl)
set_option maxRecDepth 100000 in
set_option maxHeartbeats 4000000 in
theorem okX10_isHereL {l : Launch} (hl : l.stackTraces = false) {x0 : Nat} {x1 : Int32} {h : ab_H} {y : Int32} (e : fX10_isHereL x0 x1 h = some y) : ab_Met l mX10_isHereL [.ref x0, .int x1] h (.inl (some (.int y)), h) := ab_ofS (io := (fun y : Int32 => ((.inl (some (.int y)), h) : ab_R × ab_H))) (x := y) hl (by decide) rfl (Nat.le_of_ble_eq_true rfl) (wX10_isHereL hl x0 x1 h) e
def mX10_acceptD : ab_M := (yX10_accept, cX10_accept, 2, none, { frames := 1, cells := 0, slots := 0, locals := 20 })
theorem iX10_acceptD : ab_MI mX10_acceptD 1 := ⟨kw_a37be495fd, kw_564260d124, by decide +kernel⟩
theorem lk_X10_40_1 : ab_LU RX10 40 1 mX10_isRightD 0 := ⟨"HungFaces$DoorReader", "HungFaces$TextReader", ⟨"HungFaces$TextReader", "isRight", "()Z"⟩, rfl, iX10_isRightD, kw_8e080cb74d, kw_30a31ea8db, kw_bfebedbedb, kw_e550c08623, by decide +kernel, by decide +kernel, by decide +kernel, by decide +kernel⟩
theorem lk_X10_44_0 : ab_LV RX10 44 0 mX0_goOn 0 := ⟨RX0, rfl, iX0_goOn, kw_61490161a9, kw_1fb8729816, kw_e22b894205⟩
theorem lk_X10_55_0 : ab_LV RX10 55 0 mX0_beginHere 0 := ⟨RX0, rfl, iX0_beginHere, kw_ca5696855e, kw_eae7dbebb8, kw_dacbd4fda9⟩
def fX10_acceptD (x0 : Nat) (x1 : Int32) (h : ab_H) : Option ab_H := ab_ck (ab_io h x0 1 = true) (ab_bd (fX10_isRightD x0 h) fun v1 => (if v1 = 0 then some h else (if x1 = 0 then ab_bd (ab_fr h x0 1 0) fun v4 => ab_ck (ab_io h v4 0 = true) (ab_bd (fX0_beginHere v4 h) fun v5 => ab_bd (ab_fw h x0 1 2 (.int v5)) fun h6 => some h6) else ab_bd (ab_fr h x0 1 0) fun v7 => ab_ck (ab_io h v7 0 = true) (ab_bd (fX0_goOn v7 h) fun h8 => some h8))))
set_option maxRecDepth 100000 in
set_option maxHeartbeats 4000000 in
theorem wX10_acceptD {l : Launch} (hl : l.stackTraces = false) (x0 : Nat) (x1 : Int32) (h : ab_H) : ab_S l mX10_acceptD (fun y : ab_H => ((.inl none, y) : ab_R × ab_H)) 0 0 (fX10_acceptD x0 x1 h) 0 [(0, .ref x0), (1, .int x1)] [] h := by
  unfold fX10_acceptD
  refine ab_aload_n (pc := 0) (n := 0) (i := 0) (j := 0) (by decide +kernel) rfl rfl ?_
  refine ab_callUi (As := []) (st := []) (pc := 1) lk_X10_40_1 rfl rfl rfl (by decide) rfl (Nat.le_of_ble_eq_true rfl) (by decide +kernel) (fun y9 e9 => okX10_isRightD hl e9) (fun v1 ev1 => ?_)
  refine ab_if_ne (off := 4) (pc := 4) (tgt := 8) (by decide +kernel) (by decide) (fun g2 => ?_) (fun g2 => ?_)
  · exact ab_vret (pc := 7) (by decide +kernel) rfl rfl (Nat.le_of_ble_eq_true rfl) (Nat.le_of_ble_eq_true rfl)
  · refine ab_iload_n (pc := 8) (n := 1) (i := 1) (j := 1) (by decide +kernel) rfl rfl ?_
    refine ab_if_eq (off := 13) (pc := 9) (tgt := 22) (by decide +kernel) (by decide) (fun g3 => ?_) (fun g3 => ?_)
    · refine ab_aload_n (pc := 22) (n := 0) (i := 0) (j := 0) (by decide +kernel) rfl rfl ?_
      refine ab_aload_n (pc := 23) (n := 0) (i := 0) (j := 0) (by decide +kernel) rfl rfl ?_
      refine ab_getR (pc := 24) fl_X10_9_1 (by decide +kernel) (fun v4 ev4 => ?_)
      refine ab_callVi (As := []) (st := [.ref x0]) (pc := 27) lk_X10_55_0 rfl rfl rfl (by decide) rfl (Nat.le_of_ble_eq_true rfl) (by decide +kernel) (fun y9 e9 => okX0_beginHere hl e9) (fun v5 ev5 => ?_)
      refine ab_put (pc := 30) fl_X10_19_1 rfl (fun _ => rfl) (fun _ => rfl) (by decide +kernel) (fun h6 eh6 => ?_)
      exact ab_vret (pc := 33) (by decide +kernel) rfl rfl (Nat.le_of_ble_eq_true rfl) (Nat.le_of_ble_eq_true rfl)
    · refine ab_aload_n (pc := 12) (n := 0) (i := 0) (j := 0) (by decide +kernel) rfl rfl ?_
      refine ab_getR (pc := 13) fl_X10_9_1 (by decide +kernel) (fun v7 ev7 => ?_)
      refine ab_callVw (As := []) (st := []) (pc := 16) lk_X10_44_0 rfl rfl rfl (by decide) rfl (Nat.le_of_ble_eq_true rfl) (by decide +kernel) (fun y9 e9 => okX0_goOn hl e9) (fun h8 eh8 => ?_)
      refine ab_goto (pc := 19) (off := 14) (tgt := 33) (by decide +kernel) (by decide) ?_
      exact ab_vret (pc := 33) (by decide +kernel) rfl rfl (Nat.le_of_ble_eq_true rfl) (Nat.le_of_ble_eq_true rfl)
set_option maxRecDepth 100000 in
set_option maxHeartbeats 4000000 in
theorem okX10_acceptD {l : Launch} (hl : l.stackTraces = false) {x0 : Nat} {x1 : Int32} {h : ab_H} {y : ab_H} (e : fX10_acceptD x0 x1 h = some y) : ab_Met l mX10_acceptD [.ref x0, .int x1] h (.inl none, y) := ab_ofS (io := (fun y : ab_H => ((.inl none, y) : ab_R × ab_H))) (x := y) hl (by decide) rfl (Nat.le_of_ble_eq_true rfl) (wX10_acceptD hl x0 x1 h) e
