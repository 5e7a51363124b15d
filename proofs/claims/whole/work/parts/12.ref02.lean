/-! ===== reference (by program, decomp.py) ===== -/
def mX12_holder : ab_M := (yX12_holder, cX12_holder, 5, (some .int), { frames := 1, cells := 0, slots := 0, locals := 22 })
theorem iX12_holder : ab_MI mX12_holder 2 := ⟨kw_4658a0e829, kw_30b3f7d7c6, by decide +kernel⟩
def fX12_holder_5 (x0 : Nat) (x2 : Int32) (h : ab_H) : Nat → Int32 → Int32 → Option Int32
  | 0, _, _ => none
  | n + 1, x3, x4 => ab_bd (ab_fr h x0 12 1) fun v1 => ab_bd (ab_ia 0 h v1 (nI 3)) fun v2 => (if x4 < v2 then ab_ck (ab_io h x0 12 = true) (ab_bd (fX12_of x0 x4 (nI 3) h) fun v4 => (if v4 = (-1 : Int32) then fX12_holder_5 x0 x2 h n x3 (x4 + nI 1) else (if x4 = x2 then fX12_holder_5 x0 x2 h n x3 (x4 + nI 1) else (if x3 = 0 then some x4 else fX12_holder_5 x0 x2 h n (x3 + (-1 : Int32)) (x4 + nI 1))))) else some (-1 : Int32))
def fX12_holder (F : Nat) (x0 : Nat) (x1 : Int32) (x2 : Int32) (h : ab_H) : Option Int32 := fX12_holder_5 x0 x2 h F x1 (nI 0)
set_option maxRecDepth 100000 in
set_option maxHeartbeats 4000000 in
theorem lX12_holder_5 {l : Launch} (hl : l.stackTraces = false) (x0 : Nat) (x2 : Int32) (h : ab_H) : ∀ (n : Nat) (x3 : Int32) (x4 : Int32), ab_S l mX12_holder (fun y : Int32 => ((.inl (some (.int y)), h) : ab_R × ab_H)) 0 0 (fX12_holder_5 x0 x2 h n x3 x4) 5 [(0, .ref x0), (2, .int x2), (3, .int x3), (4, .int x4)] [] h := by
  intro n
  induction n with
  | zero =>
    intro x3 x4
    exact ab_none
  | succ n ih =>
    intro x3 x4
    rw [fX12_holder_5]
    refine ab_iload (pc := 5) (i := 4) (j := 3) (by decide +kernel) rfl ?_
    refine ab_aload_n (pc := 7) (n := 0) (i := 0) (j := 0) (by decide +kernel) rfl rfl ?_
    refine ab_getR (pc := 8) fl_X12_7_12 (by decide +kernel) (fun v1 ev1 => ?_)
    refine ab_iconst (pc := 11) (n := 3) (v := nI 3) (by decide +kernel) rfl ?_
    refine ab_iald (pc := 12) (by decide +kernel) (fun v2 ev2 => ?_)
    refine ab_icmp_ge (off := 39) (pc := 13) (tgt := 52) (by decide +kernel) (by decide) (fun g3 => ?_) (fun g3 => ?_)
    · refine ab_aload_n (pc := 16) (n := 0) (i := 0) (j := 0) (by decide +kernel) rfl rfl ?_
      refine ab_iload (pc := 17) (i := 4) (j := 3) (by decide +kernel) rfl ?_
      refine ab_iconst (pc := 19) (n := 3) (v := nI 3) (by decide +kernel) rfl ?_
      refine ab_callVi (As := [.int x4, .int (nI 3)]) (st := []) (pc := 20) lk_X12_57_12 rfl rfl rfl (by decide) rfl (Nat.le_of_ble_eq_true rfl) (by decide +kernel) (fun y9 e9 => okX12_of hl e9) (fun v4 ev4 => ?_)
      refine ab_iconst (pc := 23) (n := -1) (v := (-1 : Int32)) (by decide +kernel) rfl ?_
      refine ab_icmp_eq (off := 22) (pc := 24) (tgt := 46) (by decide +kernel) (by decide) (fun g5 => ?_) (fun g5 => ?_)
      · refine ab_iinc (pc := 46) (i := 4) (n := 1) (j := 3) (d := nI 1) (lv' := [(0, .ref x0), (2, .int x2), (3, .int x3), (4, .int (x4 + nI 1))]) (by decide +kernel) rfl rfl (Nat.le_of_ble_eq_true rfl) rfl rfl ?_
        refine ab_goto (pc := 49) (off := (-44)) (tgt := 5) (by decide +kernel) (by decide) ?_
        exact ih x3 (x4 + nI 1)
      · refine ab_iload (pc := 27) (i := 4) (j := 3) (by decide +kernel) rfl ?_
        refine ab_iload_n (pc := 29) (n := 2) (i := 2) (j := 1) (by decide +kernel) rfl rfl ?_
        refine ab_icmp_ne (off := 6) (pc := 30) (tgt := 36) (by decide +kernel) (by decide) (fun g6 => ?_) (fun g6 => ?_)
        · refine ab_goto (pc := 33) (off := 13) (tgt := 46) (by decide +kernel) (by decide) ?_
          refine ab_iinc (pc := 46) (i := 4) (n := 1) (j := 3) (d := nI 1) (lv' := [(0, .ref x0), (2, .int x2), (3, .int x3), (4, .int (x4 + nI 1))]) (by decide +kernel) rfl rfl (Nat.le_of_ble_eq_true rfl) rfl rfl ?_
          refine ab_goto (pc := 49) (off := (-44)) (tgt := 5) (by decide +kernel) (by decide) ?_
          exact ih x3 (x4 + nI 1)
        · refine ab_iload_n (pc := 36) (n := 3) (i := 3) (j := 2) (by decide +kernel) rfl rfl ?_
          refine ab_if_ne (off := 6) (pc := 37) (tgt := 43) (by decide +kernel) (by decide) (fun g7 => ?_) (fun g7 => ?_)
          · refine ab_iload (pc := 40) (i := 4) (j := 3) (by decide +kernel) rfl ?_
            exact ab_iret (pc := 42) (by decide +kernel) rfl rfl (Nat.le_of_ble_eq_true rfl) (Nat.le_of_ble_eq_true rfl)
          · refine ab_iinc (pc := 43) (i := 3) (n := -1) (j := 2) (d := (-1 : Int32)) (lv' := [(0, .ref x0), (2, .int x2), (3, .int (x3 + (-1 : Int32))), (4, .int x4)]) (by decide +kernel) rfl rfl (Nat.le_of_ble_eq_true rfl) rfl rfl ?_
            refine ab_iinc (pc := 46) (i := 4) (n := 1) (j := 3) (d := nI 1) (lv' := [(0, .ref x0), (2, .int x2), (3, .int (x3 + (-1 : Int32))), (4, .int (x4 + nI 1))]) (by decide +kernel) rfl rfl (Nat.le_of_ble_eq_true rfl) rfl rfl ?_
            refine ab_goto (pc := 49) (off := (-44)) (tgt := 5) (by decide +kernel) (by decide) ?_
            exact ih (x3 + (-1 : Int32)) (x4 + nI 1)
    · refine ab_iconst (pc := 52) (n := -1) (v := (-1 : Int32)) (by decide +kernel) rfl ?_
      exact ab_iret (pc := 53) (by decide +kernel) rfl rfl (Nat.le_of_ble_eq_true rfl) (Nat.le_of_ble_eq_true rfl)
set_option maxRecDepth 100000 in
set_option maxHeartbeats 4000000 in
theorem wX12_holder {l : Launch} (hl : l.stackTraces = false) (F : Nat) (x0 : Nat) (x1 : Int32) (x2 : Int32) (h : ab_H) : ab_S l mX12_holder (fun y : Int32 => ((.inl (some (.int y)), h) : ab_R × ab_H)) 0 0 (fX12_holder F x0 x1 x2 h) 0 [(0, .ref x0), (1, .int x1), (2, .int x2)] [] h := by
  unfold fX12_holder
  refine ab_iload_n (pc := 0) (n := 1) (i := 1) (j := 1) (by decide +kernel) rfl rfl ?_
  refine ab_istore_n (pc := 1) (n := 3) (i := 3) (lv' := [(0, .ref x0), (1, .int x1), (2, .int x2), (3, .int x1)]) (by decide +kernel) rfl (Nat.le_of_ble_eq_true rfl) rfl rfl ?_
  refine ab_iconst (pc := 2) (n := 0) (v := nI 0) (by decide +kernel) rfl ?_
  refine ab_istore (pc := 3) (i := 4) (lv' := [(0, .ref x0), (1, .int x1), (2, .int x2), (3, .int x1), (4, .int (nI 0))]) (by decide +kernel) (Nat.le_of_ble_eq_true rfl) rfl rfl ?_
  refine ab_few [0, 2, 3, 4] (lv' := [(0, .ref x0), (2, .int x2), (3, .int x1), (4, .int (nI 0))]) rfl ?_
  refine lX12_holder_5 hl x0 x2 h F x1 (nI 0)
set_option maxRecDepth 100000 in
set_option maxHeartbeats 4000000 in
theorem okX12_holder {l : Launch} (hl : l.stackTraces = false) {F : Nat} {x0 : Nat} {x1 : Int32} {x2 : Int32} {h : ab_H} {y : Int32} (e : fX12_holder F x0 x1 x2 h = some y) : ab_Met l mX12_holder [.ref x0, .int x1, .int x2] h (.inl (some (.int y)), h) := ab_ofS (io := (fun y : Int32 => ((.inl (some (.int y)), h) : ab_R × ab_H))) (x := y) hl (by decide) rfl (Nat.le_of_ble_eq_true rfl) (wX12_holder hl F x0 x1 x2 h) e
def mX12_holders : ab_M := (yX12_holders, cX12_holders, 3, (some .int), { frames := 1, cells := 0, slots := 0, locals := 22 })
theorem iX12_holders : ab_MI mX12_holders 0 := ⟨kw_39ce814707, kw_30b3f7d7c6, by decide +kernel⟩
def fX12_holders_4 (x0 : Nat) (h : ab_H) : Nat → Int32 → Int32 → Option Int32
  | 0, _, _ => none
  | n + 1, x1, x2 => ab_bd (ab_fr h x0 12 1) fun v1 => ab_bd (ab_ia 0 h v1 (nI 3)) fun v2 => (if x2 < v2 then ab_ck (ab_io h x0 12 = true) (ab_bd (fX12_of x0 x2 (nI 3) h) fun v4 => (if v4 = (-1 : Int32) then fX12_holders_4 x0 h n (x1 ||| (nI 0)) (x2 + nI 1) else fX12_holders_4 x0 h n (x1 ||| ((nI 1) <<< (x2 &&& 31))) (x2 + nI 1))) else some x1)
def fX12_holders (F : Nat) (x0 : Nat) (h : ab_H) : Option Int32 := fX12_holders_4 x0 h F (nI 0) (nI 0)
set_option maxRecDepth 100000 in
set_option maxHeartbeats 4000000 in
theorem lX12_holders_4 {l : Launch} (hl : l.stackTraces = false) (x0 : Nat) (h : ab_H) : ∀ (n : Nat) (x1 : Int32) (x2 : Int32), ab_S l mX12_holders (fun y : Int32 => ((.inl (some (.int y)), h) : ab_R × ab_H)) 0 0 (fX12_holders_4 x0 h n x1 x2) 4 [(0, .ref x0), (1, .int x1), (2, .int x2)] [] h := by
  intro n
  induction n with
  | zero =>
    intro x1 x2
    exact ab_none
  | succ n ih =>
    intro x1 x2
    rw [fX12_holders_4]
    refine ab_iload_n (pc := 4) (n := 2) (i := 2) (j := 2) (by decide +kernel) rfl rfl ?_
    refine ab_aload_n (pc := 5) (n := 0) (i := 0) (j := 0) (by decide +kernel) rfl rfl ?_
    refine ab_getR (pc := 6) fl_X12_7_12 (by decide +kernel) (fun v1 ev1 => ?_)
    refine ab_iconst (pc := 9) (n := 3) (v := nI 3) (by decide +kernel) rfl ?_
    refine ab_iald (pc := 10) (by decide +kernel) (fun v2 ev2 => ?_)
    refine ab_icmp_ge (off := 29) (pc := 11) (tgt := 40) (by decide +kernel) (by decide) (fun g3 => ?_) (fun g3 => ?_)
    · refine ab_iload_n (pc := 14) (n := 1) (i := 1) (j := 1) (by decide +kernel) rfl rfl ?_
      refine ab_aload_n (pc := 15) (n := 0) (i := 0) (j := 0) (by decide +kernel) rfl rfl ?_
      refine ab_iload_n (pc := 16) (n := 2) (i := 2) (j := 2) (by decide +kernel) rfl rfl ?_
      refine ab_iconst (pc := 17) (n := 3) (v := nI 3) (by decide +kernel) rfl ?_
      refine ab_callVi (As := [.int x2, .int (nI 3)]) (st := [.int x1]) (pc := 18) lk_X12_57_12 rfl rfl rfl (by decide) rfl (Nat.le_of_ble_eq_true rfl) (by decide +kernel) (fun y9 e9 => okX12_of hl e9) (fun v4 ev4 => ?_)
      refine ab_iconst (pc := 21) (n := -1) (v := (-1 : Int32)) (by decide +kernel) rfl ?_
      refine ab_icmp_ne (off := 7) (pc := 22) (tgt := 29) (by decide +kernel) (by decide) (fun g5 => ?_) (fun g5 => ?_)
      · refine ab_iconst (pc := 25) (n := 0) (v := nI 0) (by decide +kernel) rfl ?_
        refine ab_goto (pc := 26) (off := 6) (tgt := 32) (by decide +kernel) (by decide) ?_
        refine ab_ior (pc := 32) (by decide +kernel) ?_
        refine ab_istore_n (pc := 33) (n := 1) (i := 1) (lv' := [(0, .ref x0), (1, .int (x1 ||| (nI 0))), (2, .int x2)]) (by decide +kernel) rfl (Nat.le_of_ble_eq_true rfl) rfl rfl ?_
        refine ab_iinc (pc := 34) (i := 2) (n := 1) (j := 2) (d := nI 1) (lv' := [(0, .ref x0), (1, .int (x1 ||| (nI 0))), (2, .int (x2 + nI 1))]) (by decide +kernel) rfl rfl (Nat.le_of_ble_eq_true rfl) rfl rfl ?_
        refine ab_goto (pc := 37) (off := (-33)) (tgt := 4) (by decide +kernel) (by decide) ?_
        exact ih (x1 ||| (nI 0)) (x2 + nI 1)
      · refine ab_iconst (pc := 29) (n := 1) (v := nI 1) (by decide +kernel) rfl ?_
        refine ab_iload_n (pc := 30) (n := 2) (i := 2) (j := 2) (by decide +kernel) rfl rfl ?_
        refine ab_ishl (pc := 31) (by decide +kernel) ?_
        refine ab_ior (pc := 32) (by decide +kernel) ?_
        refine ab_istore_n (pc := 33) (n := 1) (i := 1) (lv' := [(0, .ref x0), (1, .int (x1 ||| ((nI 1) <<< (x2 &&& 31)))), (2, .int x2)]) (by decide +kernel) rfl (Nat.le_of_ble_eq_true rfl) rfl rfl ?_
        refine ab_iinc (pc := 34) (i := 2) (n := 1) (j := 2) (d := nI 1) (lv' := [(0, .ref x0), (1, .int (x1 ||| ((nI 1) <<< (x2 &&& 31)))), (2, .int (x2 + nI 1))]) (by decide +kernel) rfl rfl (Nat.le_of_ble_eq_true rfl) rfl rfl ?_
        refine ab_goto (pc := 37) (off := (-33)) (tgt := 4) (by decide +kernel) (by decide) ?_
        exact ih (x1 ||| ((nI 1) <<< (x2 &&& 31))) (x2 + nI 1)
    · refine ab_iload_n (pc := 40) (n := 1) (i := 1) (j := 1) (by decide +kernel) rfl rfl ?_
      exact ab_iret (pc := 41) (by decide +kernel) rfl rfl (Nat.le_of_ble_eq_true rfl) (Nat.le_of_ble_eq_true rfl)
set_option maxRecDepth 100000 in
set_option maxHeartbeats 4000000 in
theorem wX12_holders {l : Launch} (hl : l.stackTraces = false) (F : Nat) (x0 : Nat) (h : ab_H) : ab_S l mX12_holders (fun y : Int32 => ((.inl (some (.int y)), h) : ab_R × ab_H)) 0 0 (fX12_holders F x0 h) 0 [(0, .ref x0)] [] h := by
  unfold fX12_holders
  refine ab_iconst (pc := 0) (n := 0) (v := nI 0) (by decide +kernel) rfl ?_
  refine ab_istore_n (pc := 1) (n := 1) (i := 1) (lv' := [(0, .ref x0), (1, .int (nI 0))]) (by decide +kernel) rfl (Nat.le_of_ble_eq_true rfl) rfl rfl ?_
  refine ab_iconst (pc := 2) (n := 0) (v := nI 0) (by decide +kernel) rfl ?_
  refine ab_istore_n (pc := 3) (n := 2) (i := 2) (lv' := [(0, .ref x0), (1, .int (nI 0)), (2, .int (nI 0))]) (by decide +kernel) rfl (Nat.le_of_ble_eq_true rfl) rfl rfl ?_
  refine lX12_holders_4 hl x0 h F (nI 0) (nI 0)
set_option maxRecDepth 100000 in
set_option maxHeartbeats 4000000 in
theorem okX12_holders {l : Launch} (hl : l.stackTraces = false) {F : Nat} {x0 : Nat} {h : ab_H} {y : Int32} (e : fX12_holders F x0 h = some y) : ab_Met l mX12_holders [.ref x0] h (.inl (some (.int y)), h) := ab_ofS (io := (fun y : Int32 => ((.inl (some (.int y)), h) : ab_R × ab_H))) (x := y) hl (by decide) rfl (Nat.le_of_ble_eq_true rfl) (wX12_holders hl F x0 h) e
def mX12_robs : ab_M := (yX12_robs, cX12_robs, 4, none, { frames := 1, cells := 0, slots := 0, locals := 23 })
theorem iX12_robs : ab_MI mX12_robs 0 := ⟨kw_eb73ca5016, kw_30b3f7d7c6, by decide +kernel⟩
theorem lk_X12_245_12 : ab_LV RX12 245 12 mX12_hung 0 := ⟨RX12, rfl, iX12_hung, kw_80fde0dae0, kw_8958dc5d9c, kw_5b93acc087⟩
theorem lk_X12_294_12 : ab_LV RX12 294 12 mX12_draw 1 := ⟨RX12, rfl, iX12_draw, kw_233bcfc443, kw_a3f08503e5, kw_48d147b75f⟩
def fX12_robs_11 (F : Nat) (x0 : Nat) : Nat → Int32 → Int32 → ab_H → Option ab_H
  | 0, _, _, _ => none
  | n + 1, x1, x2, h => ab_bd (ab_fr h x0 12 1) fun v3 => ab_bd (ab_ia 0 h v3 (nI 4)) fun v4 => (if x2 < v4 then ab_bd (ab_fr h x0 12 1) fun v6 => ab_bd (ab_ia 0 h v6 ((nI 272) + x2)) fun v7 => (if v7 = (-1 : Int32) then fX12_robs_11 F x0 n x1 (x2 + nI 1) h else (if x1 = 0 then ab_ck (ab_io h x0 12 = true) (ab_bd (fX12_of x0 v7 (nI 0) h) fun v10 => ab_ck (ab_io h x0 12 = true) (ab_bd (fX12_of x0 v7 (nI 0) h) fun v11 => ab_ck (ab_io h x0 12 = true) (ab_bd (fX12_has x0 v7 (nI 0) (v10 &&& (v11 - (nI 1))) h) fun h12 => fX12_robs_11 F x0 n (x1 + (-1 : Int32)) (x2 + nI 1) h12))) else fX12_robs_11 F x0 n (x1 + (-1 : Int32)) (x2 + nI 1) h)) else some h)
def fX12_robs (F : Nat) (x0 : Nat) (h : ab_H) : Option ab_H := ab_ck (ab_io h x0 12 = true) (ab_bd (fX12_hung F x0 h) fun v1 => ab_ck (ab_io h x0 12 = true) (ab_bd (fX12_draw x0 v1 h) fun v2 => fX12_robs_11 F x0 F v2.1 (nI 0) v2.2))
set_option maxRecDepth 100000 in
set_option maxHeartbeats 4000000 in
theorem lX12_robs_11 {l : Launch} (hl : l.stackTraces = false) (F : Nat) (x0 : Nat) : ∀ (n : Nat) (x1 : Int32) (x2 : Int32) (h : ab_H), ab_S l mX12_robs (fun y : ab_H => ((.inl none, y) : ab_R × ab_H)) 0 0 (fX12_robs_11 F x0 n x1 x2 h) 11 [(0, .ref x0), (1, .int x1), (2, .int x2)] [] h := by
  intro n
  induction n with
  | zero =>
    intro x1 x2 h
    exact ab_none
  | succ n ih =>
    intro x1 x2 h
    rw [fX12_robs_11]
    refine ab_iload_n (pc := 11) (n := 2) (i := 2) (j := 2) (by decide +kernel) rfl rfl ?_
    refine ab_aload_n (pc := 12) (n := 0) (i := 0) (j := 0) (by decide +kernel) rfl rfl ?_
    refine ab_getR (pc := 13) fl_X12_7_12 (by decide +kernel) (fun v3 ev3 => ?_)
    refine ab_iconst (pc := 16) (n := 4) (v := nI 4) (by decide +kernel) rfl ?_
    refine ab_iald (pc := 17) (by decide +kernel) (fun v4 ev4 => ?_)
    refine ab_icmp_ge (off := 56) (pc := 18) (tgt := 74) (by decide +kernel) (by decide) (fun g5 => ?_) (fun g5 => ?_)
    · refine ab_aload_n (pc := 21) (n := 0) (i := 0) (j := 0) (by decide +kernel) rfl rfl ?_
      refine ab_getR (pc := 22) fl_X12_7_12 (by decide +kernel) (fun v6 ev6 => ?_)
      refine ab_sipush (pc := 25) (n := 272) (v := nI 272) (by decide +kernel) (by decide) ?_
      refine ab_iload_n (pc := 28) (n := 2) (i := 2) (j := 2) (by decide +kernel) rfl rfl ?_
      refine ab_iadd (pc := 29) (by decide +kernel) ?_
      refine ab_iald (pc := 30) (by decide +kernel) (fun v7 ev7 => ?_)
      refine ab_istore_n (pc := 31) (n := 3) (i := 3) (lv' := [(0, .ref x0), (1, .int x1), (2, .int x2), (3, .int v7)]) (by decide +kernel) rfl (Nat.le_of_ble_eq_true rfl) rfl rfl ?_
      refine ab_iload_n (pc := 32) (n := 3) (i := 3) (j := 3) (by decide +kernel) rfl rfl ?_
      refine ab_iconst (pc := 33) (n := -1) (v := (-1 : Int32)) (by decide +kernel) rfl ?_
      refine ab_icmp_ne (off := 6) (pc := 34) (tgt := 40) (by decide +kernel) (by decide) (fun g8 => ?_) (fun g8 => ?_)
      · refine ab_goto (pc := 37) (off := 31) (tgt := 68) (by decide +kernel) (by decide) ?_
        refine ab_iinc (pc := 68) (i := 2) (n := 1) (j := 2) (d := nI 1) (lv' := [(0, .ref x0), (1, .int x1), (2, .int (x2 + nI 1)), (3, .int v7)]) (by decide +kernel) rfl rfl (Nat.le_of_ble_eq_true rfl) rfl rfl ?_
        refine ab_goto (pc := 71) (off := (-60)) (tgt := 11) (by decide +kernel) (by decide) ?_
        refine ab_few [0, 1, 2] (lv' := [(0, .ref x0), (1, .int x1), (2, .int (x2 + nI 1))]) rfl ?_
        exact ih x1 (x2 + nI 1) h
      · refine ab_iload_n (pc := 40) (n := 1) (i := 1) (j := 1) (by decide +kernel) rfl rfl ?_
        refine ab_if_ne (off := 24) (pc := 41) (tgt := 65) (by decide +kernel) (by decide) (fun g9 => ?_) (fun g9 => ?_)
        · refine ab_aload_n (pc := 44) (n := 0) (i := 0) (j := 0) (by decide +kernel) rfl rfl ?_
          refine ab_iload_n (pc := 45) (n := 3) (i := 3) (j := 3) (by decide +kernel) rfl rfl ?_
          refine ab_iconst (pc := 46) (n := 0) (v := nI 0) (by decide +kernel) rfl ?_
          refine ab_aload_n (pc := 47) (n := 0) (i := 0) (j := 0) (by decide +kernel) rfl rfl ?_
          refine ab_iload_n (pc := 48) (n := 3) (i := 3) (j := 3) (by decide +kernel) rfl rfl ?_
          refine ab_iconst (pc := 49) (n := 0) (v := nI 0) (by decide +kernel) rfl ?_
          refine ab_callVi (As := [.int v7, .int (nI 0)]) (st := [.int (nI 0), .int v7, .ref x0]) (pc := 50) lk_X12_57_12 rfl rfl rfl (by decide) rfl (Nat.le_of_ble_eq_true rfl) (by decide +kernel) (fun y9 e9 => okX12_of hl e9) (fun v10 ev10 => ?_)
          refine ab_aload_n (pc := 53) (n := 0) (i := 0) (j := 0) (by decide +kernel) rfl rfl ?_
          refine ab_iload_n (pc := 54) (n := 3) (i := 3) (j := 3) (by decide +kernel) rfl rfl ?_
          refine ab_iconst (pc := 55) (n := 0) (v := nI 0) (by decide +kernel) rfl ?_
          refine ab_callVi (As := [.int v7, .int (nI 0)]) (st := [.int v10, .int (nI 0), .int v7, .ref x0]) (pc := 56) lk_X12_57_12 rfl rfl rfl (by decide) rfl (Nat.le_of_ble_eq_true rfl) (by decide +kernel) (fun y9 e9 => okX12_of hl e9) (fun v11 ev11 => ?_)
          refine ab_iconst (pc := 59) (n := 1) (v := nI 1) (by decide +kernel) rfl ?_
          refine ab_isub (pc := 60) (by decide +kernel) ?_
          refine ab_iand (pc := 61) (by decide +kernel) ?_
          refine ab_callVw (As := [.int v7, .int (nI 0), .int (v10 &&& (v11 - (nI 1)))]) (st := []) (pc := 62) lk_X12_100_12 rfl rfl rfl (by decide) rfl (Nat.le_of_ble_eq_true rfl) (by decide +kernel) (fun y9 e9 => okX12_has hl e9) (fun h12 eh12 => ?_)
          refine ab_iinc (pc := 65) (i := 1) (n := -1) (j := 1) (d := (-1 : Int32)) (lv' := [(0, .ref x0), (1, .int (x1 + (-1 : Int32))), (2, .int x2), (3, .int v7)]) (by decide +kernel) rfl rfl (Nat.le_of_ble_eq_true rfl) rfl rfl ?_
          refine ab_iinc (pc := 68) (i := 2) (n := 1) (j := 2) (d := nI 1) (lv' := [(0, .ref x0), (1, .int (x1 + (-1 : Int32))), (2, .int (x2 + nI 1)), (3, .int v7)]) (by decide +kernel) rfl rfl (Nat.le_of_ble_eq_true rfl) rfl rfl ?_
          refine ab_goto (pc := 71) (off := (-60)) (tgt := 11) (by decide +kernel) (by decide) ?_
          refine ab_few [0, 1, 2] (lv' := [(0, .ref x0), (1, .int (x1 + (-1 : Int32))), (2, .int (x2 + nI 1))]) rfl ?_
          exact ih (x1 + (-1 : Int32)) (x2 + nI 1) h12
        · refine ab_iinc (pc := 65) (i := 1) (n := -1) (j := 1) (d := (-1 : Int32)) (lv' := [(0, .ref x0), (1, .int (x1 + (-1 : Int32))), (2, .int x2), (3, .int v7)]) (by decide +kernel) rfl rfl (Nat.le_of_ble_eq_true rfl) rfl rfl ?_
          refine ab_iinc (pc := 68) (i := 2) (n := 1) (j := 2) (d := nI 1) (lv' := [(0, .ref x0), (1, .int (x1 + (-1 : Int32))), (2, .int (x2 + nI 1)), (3, .int v7)]) (by decide +kernel) rfl rfl (Nat.le_of_ble_eq_true rfl) rfl rfl ?_
          refine ab_goto (pc := 71) (off := (-60)) (tgt := 11) (by decide +kernel) (by decide) ?_
          refine ab_few [0, 1, 2] (lv' := [(0, .ref x0), (1, .int (x1 + (-1 : Int32))), (2, .int (x2 + nI 1))]) rfl ?_
          exact ih (x1 + (-1 : Int32)) (x2 + nI 1) h
    · exact ab_vret (pc := 74) (by decide +kernel) rfl rfl (Nat.le_of_ble_eq_true rfl) (Nat.le_of_ble_eq_true rfl)
set_option maxRecDepth 100000 in
set_option maxHeartbeats 4000000 in
theorem wX12_robs {l : Launch} (hl : l.stackTraces = false) (F : Nat) (x0 : Nat) (h : ab_H) : ab_S l mX12_robs (fun y : ab_H => ((.inl none, y) : ab_R × ab_H)) 0 0 (fX12_robs F x0 h) 0 [(0, .ref x0)] [] h := by
  unfold fX12_robs
  refine ab_aload_n (pc := 0) (n := 0) (i := 0) (j := 0) (by decide +kernel) rfl rfl ?_
  refine ab_aload_n (pc := 1) (n := 0) (i := 0) (j := 0) (by decide +kernel) rfl rfl ?_
  refine ab_callVi (As := []) (st := [.ref x0]) (pc := 2) lk_X12_245_12 rfl rfl rfl (by decide) rfl (Nat.le_of_ble_eq_true rfl) (by decide +kernel) (fun y9 e9 => okX12_hung hl (F := F) e9) (fun v1 ev1 => ?_)
  refine ab_callVj (As := [.int v1]) (st := []) (pc := 5) lk_X12_294_12 rfl rfl rfl (by decide) rfl (Nat.le_of_ble_eq_true rfl) (by decide +kernel) (fun y9 e9 => okX12_draw hl e9) (fun v2 ev2 => ?_)
  refine ab_istore_n (pc := 8) (n := 1) (i := 1) (lv' := [(0, .ref x0), (1, .int v2.1)]) (by decide +kernel) rfl (Nat.le_of_ble_eq_true rfl) rfl rfl ?_
  refine ab_iconst (pc := 9) (n := 0) (v := nI 0) (by decide +kernel) rfl ?_
  refine ab_istore_n (pc := 10) (n := 2) (i := 2) (lv' := [(0, .ref x0), (1, .int v2.1), (2, .int (nI 0))]) (by decide +kernel) rfl (Nat.le_of_ble_eq_true rfl) rfl rfl ?_
  refine lX12_robs_11 hl F x0 F v2.1 (nI 0) v2.2
set_option maxRecDepth 100000 in
set_option maxHeartbeats 4000000 in
theorem okX12_robs {l : Launch} (hl : l.stackTraces = false) {F : Nat} {x0 : Nat} {h : ab_H} {y : ab_H} (e : fX12_robs F x0 h = some y) : ab_Met l mX12_robs [.ref x0] h (.inl none, y) := ab_ofS (io := (fun y : ab_H => ((.inl none, y) : ab_R × ab_H))) (x := y) hl (by decide) rfl (Nat.le_of_ble_eq_true rfl) (wX12_robs hl F x0 h) e
def mX12_wrongs : ab_M := (yX12_wrongs, cX12_wrongs, 3, (some .int), { frames := 1, cells := 0, slots := 0, locals := 22 })
theorem iX12_wrongs : ab_MI mX12_wrongs 0 := ⟨kw_13da73d7ef, kw_30b3f7d7c6, by decide +kernel⟩
def fX12_wrongs_4 (x0 : Nat) (h : ab_H) : Nat → Int32 → Int32 → Option Int32
  | 0, _, _ => none
  | n + 1, x1, x2 => ab_bd (ab_fr h x0 12 1) fun v1 => ab_bd (ab_ia 0 h v1 (nI 3)) fun v2 => (if x2 < v2 then ab_ck (ab_io h x0 12 = true) (ab_bd (fX12_of x0 x2 (nI 2) h) fun v4 => (if v4 = (-1 : Int32) then fX12_wrongs_4 x0 h n (x1 ||| (nI 0)) (x2 + nI 1) else ab_ck (ab_io h x0 12 = true) (ab_bd (fX12_of x0 x2 (nI 2) h) fun v6 => (if v6 = x2 then fX12_wrongs_4 x0 h n (x1 ||| (nI 0)) (x2 + nI 1) else fX12_wrongs_4 x0 h n (x1 ||| ((nI 1) <<< (x2 &&& 31))) (x2 + nI 1))))) else some x1)
def fX12_wrongs (F : Nat) (x0 : Nat) (h : ab_H) : Option Int32 := fX12_wrongs_4 x0 h F (nI 0) (nI 0)
set_option maxRecDepth 100000 in
set_option maxHeartbeats 4000000 in
theorem lX12_wrongs_4 {l : Launch} (hl : l.stackTraces = false) (x0 : Nat) (h : ab_H) : ∀ (n : Nat) (x1 : Int32) (x2 : Int32), ab_S l mX12_wrongs (fun y : Int32 => ((.inl (some (.int y)), h) : ab_R × ab_H)) 0 0 (fX12_wrongs_4 x0 h n x1 x2) 4 [(0, .ref x0), (1, .int x1), (2, .int x2)] [] h := by
  intro n
  induction n with
  | zero =>
    intro x1 x2
    exact ab_none
  | succ n ih =>
    intro x1 x2
    rw [fX12_wrongs_4]
    refine ab_iload_n (pc := 4) (n := 2) (i := 2) (j := 2) (by decide +kernel) rfl rfl ?_
    refine ab_aload_n (pc := 5) (n := 0) (i := 0) (j := 0) (by decide +kernel) rfl rfl ?_
    refine ab_getR (pc := 6) fl_X12_7_12 (by decide +kernel) (fun v1 ev1 => ?_)
    refine ab_iconst (pc := 9) (n := 3) (v := nI 3) (by decide +kernel) rfl ?_
    refine ab_iald (pc := 10) (by decide +kernel) (fun v2 ev2 => ?_)
    refine ab_icmp_ge (off := 39) (pc := 11) (tgt := 50) (by decide +kernel) (by decide) (fun g3 => ?_) (fun g3 => ?_)
    · refine ab_iload_n (pc := 14) (n := 1) (i := 1) (j := 1) (by decide +kernel) rfl rfl ?_
      refine ab_aload_n (pc := 15) (n := 0) (i := 0) (j := 0) (by decide +kernel) rfl rfl ?_
      refine ab_iload_n (pc := 16) (n := 2) (i := 2) (j := 2) (by decide +kernel) rfl rfl ?_
      refine ab_iconst (pc := 17) (n := 2) (v := nI 2) (by decide +kernel) rfl ?_
      refine ab_callVi (As := [.int x2, .int (nI 2)]) (st := [.int x1]) (pc := 18) lk_X12_57_12 rfl rfl rfl (by decide) rfl (Nat.le_of_ble_eq_true rfl) (by decide +kernel) (fun y9 e9 => okX12_of hl e9) (fun v4 ev4 => ?_)
      refine ab_iconst (pc := 21) (n := -1) (v := (-1 : Int32)) (by decide +kernel) rfl ?_
      refine ab_icmp_eq (off := 19) (pc := 22) (tgt := 41) (by decide +kernel) (by decide) (fun g5 => ?_) (fun g5 => ?_)
      · refine ab_iconst (pc := 41) (n := 0) (v := nI 0) (by decide +kernel) rfl ?_
        refine ab_ior (pc := 42) (by decide +kernel) ?_
        refine ab_istore_n (pc := 43) (n := 1) (i := 1) (lv' := [(0, .ref x0), (1, .int (x1 ||| (nI 0))), (2, .int x2)]) (by decide +kernel) rfl (Nat.le_of_ble_eq_true rfl) rfl rfl ?_
        refine ab_iinc (pc := 44) (i := 2) (n := 1) (j := 2) (d := nI 1) (lv' := [(0, .ref x0), (1, .int (x1 ||| (nI 0))), (2, .int (x2 + nI 1))]) (by decide +kernel) rfl rfl (Nat.le_of_ble_eq_true rfl) rfl rfl ?_
        refine ab_goto (pc := 47) (off := (-43)) (tgt := 4) (by decide +kernel) (by decide) ?_
        exact ih (x1 ||| (nI 0)) (x2 + nI 1)
      · refine ab_aload_n (pc := 25) (n := 0) (i := 0) (j := 0) (by decide +kernel) rfl rfl ?_
        refine ab_iload_n (pc := 26) (n := 2) (i := 2) (j := 2) (by decide +kernel) rfl rfl ?_
        refine ab_iconst (pc := 27) (n := 2) (v := nI 2) (by decide +kernel) rfl ?_
        refine ab_callVi (As := [.int x2, .int (nI 2)]) (st := [.int x1]) (pc := 28) lk_X12_57_12 rfl rfl rfl (by decide) rfl (Nat.le_of_ble_eq_true rfl) (by decide +kernel) (fun y9 e9 => okX12_of hl e9) (fun v6 ev6 => ?_)
        refine ab_iload_n (pc := 31) (n := 2) (i := 2) (j := 2) (by decide +kernel) rfl rfl ?_
        refine ab_icmp_eq (off := 9) (pc := 32) (tgt := 41) (by decide +kernel) (by decide) (fun g7 => ?_) (fun g7 => ?_)
        · refine ab_iconst (pc := 41) (n := 0) (v := nI 0) (by decide +kernel) rfl ?_
          refine ab_ior (pc := 42) (by decide +kernel) ?_
          refine ab_istore_n (pc := 43) (n := 1) (i := 1) (lv' := [(0, .ref x0), (1, .int (x1 ||| (nI 0))), (2, .int x2)]) (by decide +kernel) rfl (Nat.le_of_ble_eq_true rfl) rfl rfl ?_
          refine ab_iinc (pc := 44) (i := 2) (n := 1) (j := 2) (d := nI 1) (lv' := [(0, .ref x0), (1, .int (x1 ||| (nI 0))), (2, .int (x2 + nI 1))]) (by decide +kernel) rfl rfl (Nat.le_of_ble_eq_true rfl) rfl rfl ?_
          refine ab_goto (pc := 47) (off := (-43)) (tgt := 4) (by decide +kernel) (by decide) ?_
          exact ih (x1 ||| (nI 0)) (x2 + nI 1)
        · refine ab_iconst (pc := 35) (n := 1) (v := nI 1) (by decide +kernel) rfl ?_
          refine ab_iload_n (pc := 36) (n := 2) (i := 2) (j := 2) (by decide +kernel) rfl rfl ?_
          refine ab_ishl (pc := 37) (by decide +kernel) ?_
          refine ab_goto (pc := 38) (off := 4) (tgt := 42) (by decide +kernel) (by decide) ?_
          refine ab_ior (pc := 42) (by decide +kernel) ?_
          refine ab_istore_n (pc := 43) (n := 1) (i := 1) (lv' := [(0, .ref x0), (1, .int (x1 ||| ((nI 1) <<< (x2 &&& 31)))), (2, .int x2)]) (by decide +kernel) rfl (Nat.le_of_ble_eq_true rfl) rfl rfl ?_
          refine ab_iinc (pc := 44) (i := 2) (n := 1) (j := 2) (d := nI 1) (lv' := [(0, .ref x0), (1, .int (x1 ||| ((nI 1) <<< (x2 &&& 31)))), (2, .int (x2 + nI 1))]) (by decide +kernel) rfl rfl (Nat.le_of_ble_eq_true rfl) rfl rfl ?_
          refine ab_goto (pc := 47) (off := (-43)) (tgt := 4) (by decide +kernel) (by decide) ?_
          exact ih (x1 ||| ((nI 1) <<< (x2 &&& 31))) (x2 + nI 1)
    · refine ab_iload_n (pc := 50) (n := 1) (i := 1) (j := 1) (by decide +kernel) rfl rfl ?_
      exact ab_iret (pc := 51) (by decide +kernel) rfl rfl (Nat.le_of_ble_eq_true rfl) (Nat.le_of_ble_eq_true rfl)
set_option maxRecDepth 100000 in
set_option maxHeartbeats 4000000 in
theorem wX12_wrongs {l : Launch} (hl : l.stackTraces = false) (F : Nat) (x0 : Nat) (h : ab_H) : ab_S l mX12_wrongs (fun y : Int32 => ((.inl (some (.int y)), h) : ab_R × ab_H)) 0 0 (fX12_wrongs F x0 h) 0 [(0, .ref x0)] [] h := by
  unfold fX12_wrongs
  refine ab_iconst (pc := 0) (n := 0) (v := nI 0) (by decide +kernel) rfl ?_
  refine ab_istore_n (pc := 1) (n := 1) (i := 1) (lv' := [(0, .ref x0), (1, .int (nI 0))]) (by decide +kernel) rfl (Nat.le_of_ble_eq_true rfl) rfl rfl ?_
  refine ab_iconst (pc := 2) (n := 0) (v := nI 0) (by decide +kernel) rfl ?_
  refine ab_istore_n (pc := 3) (n := 2) (i := 2) (lv' := [(0, .ref x0), (1, .int (nI 0)), (2, .int (nI 0))]) (by decide +kernel) rfl (Nat.le_of_ble_eq_true rfl) rfl rfl ?_
  refine lX12_wrongs_4 hl x0 h F (nI 0) (nI 0)
set_option maxRecDepth 100000 in
set_option maxHeartbeats 4000000 in
theorem okX12_wrongs {l : Launch} (hl : l.stackTraces = false) {F : Nat} {x0 : Nat} {h : ab_H} {y : Int32} (e : fX12_wrongs F x0 h = some y) : ab_Met l mX12_wrongs [.ref x0] h (.inl (some (.int y)), h) := ab_ofS (io := (fun y : Int32 => ((.inl (some (.int y)), h) : ab_R × ab_H))) (x := y) hl (by decide) rfl (Nat.le_of_ble_eq_true rfl) (wX12_wrongs hl F x0 h) e
def mX12_wrong_ : ab_M := (yX12_wrong_, cX12_wrong_, 1, (some .int), { frames := 2, cells := 0, slots := 0, locals := 44 })
theorem iX12_wrong_ : ab_MI mX12_wrong_ 0 := ⟨kw_a4e0b94c96, kw_30b3f7d7c6, by decide +kernel⟩
theorem lk_X12_317_12 : ab_LV RX12 317 12 mX12_wrongs 0 := ⟨RX12, rfl, iX12_wrongs, kw_0b8b24f371, kw_15b5bfc8ed, kw_e3f29b9329⟩
def fX12_wrong_ (F : Nat) (x0 : Nat) (h : ab_H) : Option (Int32 × ab_H) := ab_bd (ab_fw h x0 12 0 (.int (nI 0))) fun h1 => ab_ck (ab_io h1 x0 12 = true) (ab_bd (fX12_wrongs F x0 h1) fun v2 => some (v2, h1))
set_option maxRecDepth 100000 in
set_option maxHeartbeats 4000000 in
theorem wX12_wrong_ {l : Launch} (hl : l.stackTraces = false) (F : Nat) (x0 : Nat) (h : ab_H) : ab_S l mX12_wrong_ (fun y : (Int32 × ab_H) => ((.inl (some (.int y.1)), y.2) : ab_R × ab_H)) 0 0 (fX12_wrong_ F x0 h) 0 [(0, .ref x0)] [] h := by
  unfold fX12_wrong_
  refine ab_aload_n (pc := 0) (n := 0) (i := 0) (j := 0) (by decide +kernel) rfl rfl ?_
  refine ab_iconst (pc := 1) (n := 0) (v := nI 0) (by decide +kernel) rfl ?_
  refine ab_put (pc := 2) fl_X12_50_12 rfl (fun _ => rfl) (fun _ => rfl) (by decide +kernel) (fun h1 eh1 => ?_)
  refine ab_aload_n (pc := 5) (n := 0) (i := 0) (j := 0) (by decide +kernel) rfl rfl ?_
  refine ab_callVi (As := []) (st := []) (pc := 6) lk_X12_317_12 rfl rfl rfl (by decide) rfl (Nat.le_of_ble_eq_true rfl) (by decide +kernel) (fun y9 e9 => okX12_wrongs hl (F := F) e9) (fun v2 ev2 => ?_)
  exact ab_iret (pc := 9) (by decide +kernel) rfl rfl (Nat.le_of_ble_eq_true rfl) (Nat.le_of_ble_eq_true rfl)
set_option maxRecDepth 100000 in
set_option maxHeartbeats 4000000 in
theorem okX12_wrong_ {l : Launch} (hl : l.stackTraces = false) {F : Nat} {x0 : Nat} {h : ab_H} {y : (Int32 × ab_H)} (e : fX12_wrong_ F x0 h = some y) : ab_Met l mX12_wrong_ [.ref x0] h (.inl (some (.int y.1)), y.2) := ab_ofS (io := (fun y : (Int32 × ab_H) => ((.inl (some (.int y.1)), y.2) : ab_R × ab_H))) (x := y) hl (by decide) rfl (Nat.le_of_ble_eq_true rfl) (wX12_wrong_ hl F x0 h) e
def mX12_isLost : ab_M := (yX12_isLost, cX12_isLost, 2, (some .boolean), { frames := 2, cells := 0, slots := 0, locals := 44 })
theorem iX12_isLost : ab_MI mX12_isLost 1 := ⟨kw_0647726703, kw_30b3f7d7c6, by decide +kernel⟩
def fX12_isLost (F : Nat) (x0 : Nat) (x1 : Int32) (h : ab_H) : Option Int32 := ab_ck (ab_io h x0 12 = true) (ab_bd (fX12_wearer F x0 x1 h) fun v1 => (if v1 = (-1 : Int32) then ab_ck (ab_io h x0 12 = true) (ab_bd (fX12_hookOf F x0 x1 h) fun v3 => (if v3 = (-1 : Int32) then some (nI 1) else some (nI 0))) else some (nI 0)))
set_option maxRecDepth 100000 in
set_option maxHeartbeats 4000000 in
theorem wX12_isLost {l : Launch} (hl : l.stackTraces = false) (F : Nat) (x0 : Nat) (x1 : Int32) (h : ab_H) : ab_S l mX12_isLost (fun y : Int32 => ((.inl (some (.int y)), h) : ab_R × ab_H)) 0 0 (fX12_isLost F x0 x1 h) 0 [(0, .ref x0), (1, .int x1)] [] h := by
  unfold fX12_isLost
  refine ab_aload_n (pc := 0) (n := 0) (i := 0) (j := 0) (by decide +kernel) rfl rfl ?_
  refine ab_iload_n (pc := 1) (n := 1) (i := 1) (j := 1) (by decide +kernel) rfl rfl ?_
  refine ab_callVi (As := [.int x1]) (st := []) (pc := 2) lk_X12_247_12 rfl rfl rfl (by decide) rfl (Nat.le_of_ble_eq_true rfl) (by decide +kernel) (fun y9 e9 => okX12_wearer hl (F := F) e9) (fun v1 ev1 => ?_)
  refine ab_iconst (pc := 5) (n := -1) (v := (-1 : Int32)) (by decide +kernel) rfl ?_
  refine ab_icmp_ne (off := 16) (pc := 6) (tgt := 22) (by decide +kernel) (by decide) (fun g2 => ?_) (fun g2 => ?_)
  · refine ab_aload_n (pc := 9) (n := 0) (i := 0) (j := 0) (by decide +kernel) rfl rfl ?_
    refine ab_iload_n (pc := 10) (n := 1) (i := 1) (j := 1) (by decide +kernel) rfl rfl ?_
    refine ab_callVi (As := [.int x1]) (st := []) (pc := 11) lk_X12_256_12 rfl rfl rfl (by decide) rfl (Nat.le_of_ble_eq_true rfl) (by decide +kernel) (fun y9 e9 => okX12_hookOf hl (F := F) e9) (fun v3 ev3 => ?_)
    refine ab_iconst (pc := 14) (n := -1) (v := (-1 : Int32)) (by decide +kernel) rfl ?_
    refine ab_icmp_ne (off := 7) (pc := 15) (tgt := 22) (by decide +kernel) (by decide) (fun g4 => ?_) (fun g4 => ?_)
    · refine ab_iconst (pc := 18) (n := 1) (v := nI 1) (by decide +kernel) rfl ?_
      refine ab_goto (pc := 19) (off := 4) (tgt := 23) (by decide +kernel) (by decide) ?_
      exact ab_zret (pc := 23) (by decide +kernel) rfl ab_bl1.1 rfl (Nat.le_of_ble_eq_true rfl) (Nat.le_of_ble_eq_true rfl)
    · refine ab_iconst (pc := 22) (n := 0) (v := nI 0) (by decide +kernel) rfl ?_
      exact ab_zret (pc := 23) (by decide +kernel) rfl ab_bl0.1 rfl (Nat.le_of_ble_eq_true rfl) (Nat.le_of_ble_eq_true rfl)
  · refine ab_iconst (pc := 22) (n := 0) (v := nI 0) (by decide +kernel) rfl ?_
    exact ab_zret (pc := 23) (by decide +kernel) rfl ab_bl0.1 rfl (Nat.le_of_ble_eq_true rfl) (Nat.le_of_ble_eq_true rfl)
set_option maxRecDepth 100000 in
set_option maxHeartbeats 4000000 in
theorem okX12_isLost {l : Launch} (hl : l.stackTraces = false) {F : Nat} {x0 : Nat} {x1 : Int32} {h : ab_H} {y : Int32} (e : fX12_isLost F x0 x1 h = some y) : ab_Met l mX12_isLost [.ref x0, .int x1] h (.inl (some (.int y)), h) := ab_ofS (io := (fun y : Int32 => ((.inl (some (.int y)), h) : ab_R × ab_H))) (x := y) hl (by decide) rfl (Nat.le_of_ble_eq_true rfl) (wX12_isLost hl F x0 x1 h) e
def mX12_lost : ab_M := (yX12_lost, cX12_lost, 3, (some .int), { frames := 3, cells := 0, slots := 0, locals := 65 })
theorem iX12_lost : ab_MI mX12_lost 0 := ⟨kw_ed8e262061, kw_30b3f7d7c6, by decide +kernel⟩
theorem lk_X12_320_12 : ab_LV RX12 320 12 mX12_isLost 1 := ⟨RX12, rfl, iX12_isLost, kw_b3176e9335, kw_4e3501f9c4, kw_d20e8db5d8⟩
def fX12_lost_9 (F : Nat) (x0 : Nat) (h : ab_H) : Nat → Int32 → Int32 → Option (Int32 × ab_H)
  | 0, _, _ => none
  | n + 1, x1, x2 => ab_bd (ab_fr h x0 12 1) fun v2 => ab_bd (ab_ia 0 h v2 (nI 3)) fun v3 => (if x2 < v3 then ab_ck (ab_io h x0 12 = true) (ab_bd (fX12_isLost F x0 x2 h) fun v5 => (if v5 = 0 then fX12_lost_9 F x0 h n (x1 ||| (nI 0)) (x2 + nI 1) else fX12_lost_9 F x0 h n (x1 ||| ((nI 1) <<< (x2 &&& 31))) (x2 + nI 1))) else some (x1, h))
def fX12_lost (F : Nat) (x0 : Nat) (h : ab_H) : Option (Int32 × ab_H) := ab_bd (ab_fw h x0 12 0 (.int (nI 0))) fun h1 => fX12_lost_9 F x0 h1 F (nI 0) (nI 0)
set_option maxRecDepth 100000 in
set_option maxHeartbeats 4000000 in
theorem lX12_lost_9 {l : Launch} (hl : l.stackTraces = false) (F : Nat) (x0 : Nat) (h : ab_H) : ∀ (n : Nat) (x1 : Int32) (x2 : Int32), ab_S l mX12_lost (fun y : (Int32 × ab_H) => ((.inl (some (.int y.1)), y.2) : ab_R × ab_H)) 0 0 (fX12_lost_9 F x0 h n x1 x2) 9 [(0, .ref x0), (1, .int x1), (2, .int x2)] [] h := by
  intro n
  induction n with
  | zero =>
    intro x1 x2
    exact ab_none
  | succ n ih =>
    intro x1 x2
    rw [fX12_lost_9]
    refine ab_iload_n (pc := 9) (n := 2) (i := 2) (j := 2) (by decide +kernel) rfl rfl ?_
    refine ab_aload_n (pc := 10) (n := 0) (i := 0) (j := 0) (by decide +kernel) rfl rfl ?_
    refine ab_getR (pc := 11) fl_X12_7_12 (by decide +kernel) (fun v2 ev2 => ?_)
    refine ab_iconst (pc := 14) (n := 3) (v := nI 3) (by decide +kernel) rfl ?_
    refine ab_iald (pc := 15) (by decide +kernel) (fun v3 ev3 => ?_)
    refine ab_icmp_ge (off := 27) (pc := 16) (tgt := 43) (by decide +kernel) (by decide) (fun g4 => ?_) (fun g4 => ?_)
    · refine ab_iload_n (pc := 19) (n := 1) (i := 1) (j := 1) (by decide +kernel) rfl rfl ?_
      refine ab_aload_n (pc := 20) (n := 0) (i := 0) (j := 0) (by decide +kernel) rfl rfl ?_
      refine ab_iload_n (pc := 21) (n := 2) (i := 2) (j := 2) (by decide +kernel) rfl rfl ?_
      refine ab_callVi (As := [.int x2]) (st := [.int x1]) (pc := 22) lk_X12_320_12 rfl rfl rfl (by decide) rfl (Nat.le_of_ble_eq_true rfl) (by decide +kernel) (fun y9 e9 => okX12_isLost hl (F := F) e9) (fun v5 ev5 => ?_)
      refine ab_if_eq (off := 9) (pc := 25) (tgt := 34) (by decide +kernel) (by decide) (fun g6 => ?_) (fun g6 => ?_)
      · refine ab_iconst (pc := 34) (n := 0) (v := nI 0) (by decide +kernel) rfl ?_
        refine ab_ior (pc := 35) (by decide +kernel) ?_
        refine ab_istore_n (pc := 36) (n := 1) (i := 1) (lv' := [(0, .ref x0), (1, .int (x1 ||| (nI 0))), (2, .int x2)]) (by decide +kernel) rfl (Nat.le_of_ble_eq_true rfl) rfl rfl ?_
        refine ab_iinc (pc := 37) (i := 2) (n := 1) (j := 2) (d := nI 1) (lv' := [(0, .ref x0), (1, .int (x1 ||| (nI 0))), (2, .int (x2 + nI 1))]) (by decide +kernel) rfl rfl (Nat.le_of_ble_eq_true rfl) rfl rfl ?_
        refine ab_goto (pc := 40) (off := (-31)) (tgt := 9) (by decide +kernel) (by decide) ?_
        exact ih (x1 ||| (nI 0)) (x2 + nI 1)
      · refine ab_iconst (pc := 28) (n := 1) (v := nI 1) (by decide +kernel) rfl ?_
        refine ab_iload_n (pc := 29) (n := 2) (i := 2) (j := 2) (by decide +kernel) rfl rfl ?_
        refine ab_ishl (pc := 30) (by decide +kernel) ?_
        refine ab_goto (pc := 31) (off := 4) (tgt := 35) (by decide +kernel) (by decide) ?_
        refine ab_ior (pc := 35) (by decide +kernel) ?_
        refine ab_istore_n (pc := 36) (n := 1) (i := 1) (lv' := [(0, .ref x0), (1, .int (x1 ||| ((nI 1) <<< (x2 &&& 31)))), (2, .int x2)]) (by decide +kernel) rfl (Nat.le_of_ble_eq_true rfl) rfl rfl ?_
        refine ab_iinc (pc := 37) (i := 2) (n := 1) (j := 2) (d := nI 1) (lv' := [(0, .ref x0), (1, .int (x1 ||| ((nI 1) <<< (x2 &&& 31)))), (2, .int (x2 + nI 1))]) (by decide +kernel) rfl rfl (Nat.le_of_ble_eq_true rfl) rfl rfl ?_
        refine ab_goto (pc := 40) (off := (-31)) (tgt := 9) (by decide +kernel) (by decide) ?_
        exact ih (x1 ||| ((nI 1) <<< (x2 &&& 31))) (x2 + nI 1)
    · refine ab_iload_n (pc := 43) (n := 1) (i := 1) (j := 1) (by decide +kernel) rfl rfl ?_
      exact ab_iret (pc := 44) (by decide +kernel) rfl rfl (Nat.le_of_ble_eq_true rfl) (Nat.le_of_ble_eq_true rfl)
set_option maxRecDepth 100000 in
set_option maxHeartbeats 4000000 in
theorem wX12_lost {l : Launch} (hl : l.stackTraces = false) (F : Nat) (x0 : Nat) (h : ab_H) : ab_S l mX12_lost (fun y : (Int32 × ab_H) => ((.inl (some (.int y.1)), y.2) : ab_R × ab_H)) 0 0 (fX12_lost F x0 h) 0 [(0, .ref x0)] [] h := by
  unfold fX12_lost
  refine ab_aload_n (pc := 0) (n := 0) (i := 0) (j := 0) (by decide +kernel) rfl rfl ?_
  refine ab_iconst (pc := 1) (n := 0) (v := nI 0) (by decide +kernel) rfl ?_
  refine ab_put (pc := 2) fl_X12_50_12 rfl (fun _ => rfl) (fun _ => rfl) (by decide +kernel) (fun h1 eh1 => ?_)
  refine ab_iconst (pc := 5) (n := 0) (v := nI 0) (by decide +kernel) rfl ?_
  refine ab_istore_n (pc := 6) (n := 1) (i := 1) (lv' := [(0, .ref x0), (1, .int (nI 0))]) (by decide +kernel) rfl (Nat.le_of_ble_eq_true rfl) rfl rfl ?_
  refine ab_iconst (pc := 7) (n := 0) (v := nI 0) (by decide +kernel) rfl ?_
  refine ab_istore_n (pc := 8) (n := 2) (i := 2) (lv' := [(0, .ref x0), (1, .int (nI 0)), (2, .int (nI 0))]) (by decide +kernel) rfl (Nat.le_of_ble_eq_true rfl) rfl rfl ?_
  refine lX12_lost_9 hl F x0 h1 F (nI 0) (nI 0)
set_option maxRecDepth 100000 in
set_option maxHeartbeats 4000000 in
theorem okX12_lost {l : Launch} (hl : l.stackTraces = false) {F : Nat} {x0 : Nat} {h : ab_H} {y : (Int32 × ab_H)} (e : fX12_lost F x0 h = some y) : ab_Met l mX12_lost [.ref x0] h (.inl (some (.int y.1)), y.2) := ab_ofS (io := (fun y : (Int32 × ab_H) => ((.inl (some (.int y.1)), y.2) : ab_R × ab_H))) (x := y) hl (by decide) rfl (Nat.le_of_ble_eq_true rfl) (wX12_lost hl F x0 h) e
def mX12_unclaimed : ab_M := (yX12_unclaimed, cX12_unclaimed, 3, (some .int), { frames := 2, cells := 0, slots := 0, locals := 44 })
theorem iX12_unclaimed : ab_MI mX12_unclaimed 0 := ⟨kw_549fb038e1, kw_30b3f7d7c6, by decide +kernel⟩
def fX12_unclaimed_9 (F : Nat) (x0 : Nat) (h : ab_H) : Nat → Int32 → Int32 → Option (Int32 × ab_H)
  | 0, _, _ => none
  | n + 1, x1, x2 => ab_bd (ab_fr h x0 12 1) fun v2 => ab_bd (ab_ia 0 h v2 (nI 4)) fun v3 => (if x2 < v3 then ab_bd (ab_fr h x0 12 1) fun v5 => ab_bd (ab_ia 0 h v5 ((nI 272) + x2)) fun v6 => (if v6 = (-1 : Int32) then fX12_unclaimed_9 F x0 h n (x1 ||| (nI 0)) (x2 + nI 1) else ab_ck (ab_io h x0 12 = true) (ab_bd (fX12_hasTicketOf F x0 x2 h) fun v8 => (if v8 = 0 then ab_bd (ab_fr h x0 12 1) fun v10 => ab_bd (ab_ia 0 h v10 ((nI 272) + x2)) fun v11 => fX12_unclaimed_9 F x0 h n (x1 ||| ((nI 1) <<< (v11 &&& 31))) (x2 + nI 1) else fX12_unclaimed_9 F x0 h n (x1 ||| (nI 0)) (x2 + nI 1)))) else some (x1, h))
def fX12_unclaimed (F : Nat) (x0 : Nat) (h : ab_H) : Option (Int32 × ab_H) := ab_bd (ab_fw h x0 12 0 (.int (nI 0))) fun h1 => fX12_unclaimed_9 F x0 h1 F (nI 0) (nI 0)
set_option maxRecDepth 100000 in
set_option maxHeartbeats 4000000 in
theorem lX12_unclaimed_9 {l : Launch} (hl : l.stackTraces = false) (F : Nat) (x0 : Nat) (h : ab_H) : ∀ (n : Nat) (x1 : Int32) (x2 : Int32), ab_S l mX12_unclaimed (fun y : (Int32 × ab_H) => ((.inl (some (.int y.1)), y.2) : ab_R × ab_H)) 0 0 (fX12_unclaimed_9 F x0 h n x1 x2) 9 [(0, .ref x0), (1, .int x1), (2, .int x2)] [] h := by
  intro n
  induction n with
  | zero =>
    intro x1 x2
    exact ab_none
  | succ n ih =>
    intro x1 x2
    rw [fX12_unclaimed_9]
    refine ab_iload_n (pc := 9) (n := 2) (i := 2) (j := 2) (by decide +kernel) rfl rfl ?_
    refine ab_aload_n (pc := 10) (n := 0) (i := 0) (j := 0) (by decide +kernel) rfl rfl ?_
    refine ab_getR (pc := 11) fl_X12_7_12 (by decide +kernel) (fun v2 ev2 => ?_)
    refine ab_iconst (pc := 14) (n := 4) (v := nI 4) (by decide +kernel) rfl ?_
    refine ab_iald (pc := 15) (by decide +kernel) (fun v3 ev3 => ?_)
    refine ab_icmp_ge (off := 50) (pc := 16) (tgt := 66) (by decide +kernel) (by decide) (fun g4 => ?_) (fun g4 => ?_)
    · refine ab_iload_n (pc := 19) (n := 1) (i := 1) (j := 1) (by decide +kernel) rfl rfl ?_
      refine ab_aload_n (pc := 20) (n := 0) (i := 0) (j := 0) (by decide +kernel) rfl rfl ?_
      refine ab_getR (pc := 21) fl_X12_7_12 (by decide +kernel) (fun v5 ev5 => ?_)
      refine ab_sipush (pc := 24) (n := 272) (v := nI 272) (by decide +kernel) (by decide) ?_
      refine ab_iload_n (pc := 27) (n := 2) (i := 2) (j := 2) (by decide +kernel) rfl rfl ?_
      refine ab_iadd (pc := 28) (by decide +kernel) ?_
      refine ab_iald (pc := 29) (by decide +kernel) (fun v6 ev6 => ?_)
      refine ab_iconst (pc := 30) (n := -1) (v := (-1 : Int32)) (by decide +kernel) rfl ?_
      refine ab_icmp_eq (off := 26) (pc := 31) (tgt := 57) (by decide +kernel) (by decide) (fun g7 => ?_) (fun g7 => ?_)
      · refine ab_iconst (pc := 57) (n := 0) (v := nI 0) (by decide +kernel) rfl ?_
        refine ab_ior (pc := 58) (by decide +kernel) ?_
        refine ab_istore_n (pc := 59) (n := 1) (i := 1) (lv' := [(0, .ref x0), (1, .int (x1 ||| (nI 0))), (2, .int x2)]) (by decide +kernel) rfl (Nat.le_of_ble_eq_true rfl) rfl rfl ?_
        refine ab_iinc (pc := 60) (i := 2) (n := 1) (j := 2) (d := nI 1) (lv' := [(0, .ref x0), (1, .int (x1 ||| (nI 0))), (2, .int (x2 + nI 1))]) (by decide +kernel) rfl rfl (Nat.le_of_ble_eq_true rfl) rfl rfl ?_
        refine ab_goto (pc := 63) (off := (-54)) (tgt := 9) (by decide +kernel) (by decide) ?_
        exact ih (x1 ||| (nI 0)) (x2 + nI 1)
      · refine ab_aload_n (pc := 34) (n := 0) (i := 0) (j := 0) (by decide +kernel) rfl rfl ?_
        refine ab_iload_n (pc := 35) (n := 2) (i := 2) (j := 2) (by decide +kernel) rfl rfl ?_
        refine ab_callVi (As := [.int x2]) (st := [.int x1]) (pc := 36) lk_X12_118_12 rfl rfl rfl (by decide) rfl (Nat.le_of_ble_eq_true rfl) (by decide +kernel) (fun y9 e9 => okX12_hasTicketOf hl (F := F) e9) (fun v8 ev8 => ?_)
        refine ab_if_ne (off := 18) (pc := 39) (tgt := 57) (by decide +kernel) (by decide) (fun g9 => ?_) (fun g9 => ?_)
        · refine ab_iconst (pc := 42) (n := 1) (v := nI 1) (by decide +kernel) rfl ?_
          refine ab_aload_n (pc := 43) (n := 0) (i := 0) (j := 0) (by decide +kernel) rfl rfl ?_
          refine ab_getR (pc := 44) fl_X12_7_12 (by decide +kernel) (fun v10 ev10 => ?_)
          refine ab_sipush (pc := 47) (n := 272) (v := nI 272) (by decide +kernel) (by decide) ?_
          refine ab_iload_n (pc := 50) (n := 2) (i := 2) (j := 2) (by decide +kernel) rfl rfl ?_
          refine ab_iadd (pc := 51) (by decide +kernel) ?_
          refine ab_iald (pc := 52) (by decide +kernel) (fun v11 ev11 => ?_)
          refine ab_ishl (pc := 53) (by decide +kernel) ?_
          refine ab_goto (pc := 54) (off := 4) (tgt := 58) (by decide +kernel) (by decide) ?_
          refine ab_ior (pc := 58) (by decide +kernel) ?_
          refine ab_istore_n (pc := 59) (n := 1) (i := 1) (lv' := [(0, .ref x0), (1, .int (x1 ||| ((nI 1) <<< (v11 &&& 31)))), (2, .int x2)]) (by decide +kernel) rfl (Nat.le_of_ble_eq_true rfl) rfl rfl ?_
          refine ab_iinc (pc := 60) (i := 2) (n := 1) (j := 2) (d := nI 1) (lv' := [(0, .ref x0), (1, .int (x1 ||| ((nI 1) <<< (v11 &&& 31)))), (2, .int (x2 + nI 1))]) (by decide +kernel) rfl rfl (Nat.le_of_ble_eq_true rfl) rfl rfl ?_
          refine ab_goto (pc := 63) (off := (-54)) (tgt := 9) (by decide +kernel) (by decide) ?_
          exact ih (x1 ||| ((nI 1) <<< (v11 &&& 31))) (x2 + nI 1)
        · refine ab_iconst (pc := 57) (n := 0) (v := nI 0) (by decide +kernel) rfl ?_
          refine ab_ior (pc := 58) (by decide +kernel) ?_
          refine ab_istore_n (pc := 59) (n := 1) (i := 1) (lv' := [(0, .ref x0), (1, .int (x1 ||| (nI 0))), (2, .int x2)]) (by decide +kernel) rfl (Nat.le_of_ble_eq_true rfl) rfl rfl ?_
          refine ab_iinc (pc := 60) (i := 2) (n := 1) (j := 2) (d := nI 1) (lv' := [(0, .ref x0), (1, .int (x1 ||| (nI 0))), (2, .int (x2 + nI 1))]) (by decide +kernel) rfl rfl (Nat.le_of_ble_eq_true rfl) rfl rfl ?_
          refine ab_goto (pc := 63) (off := (-54)) (tgt := 9) (by decide +kernel) (by decide) ?_
          exact ih (x1 ||| (nI 0)) (x2 + nI 1)
    · refine ab_iload_n (pc := 66) (n := 1) (i := 1) (j := 1) (by decide +kernel) rfl rfl ?_
      exact ab_iret (pc := 67) (by decide +kernel) rfl rfl (Nat.le_of_ble_eq_true rfl) (Nat.le_of_ble_eq_true rfl)
set_option maxRecDepth 100000 in
set_option maxHeartbeats 4000000 in
theorem wX12_unclaimed {l : Launch} (hl : l.stackTraces = false) (F : Nat) (x0 : Nat) (h : ab_H) : ab_S l mX12_unclaimed (fun y : (Int32 × ab_H) => ((.inl (some (.int y.1)), y.2) : ab_R × ab_H)) 0 0 (fX12_unclaimed F x0 h) 0 [(0, .ref x0)] [] h := by
  unfold fX12_unclaimed
  refine ab_aload_n (pc := 0) (n := 0) (i := 0) (j := 0) (by decide +kernel) rfl rfl ?_
  refine ab_iconst (pc := 1) (n := 0) (v := nI 0) (by decide +kernel) rfl ?_
  refine ab_put (pc := 2) fl_X12_50_12 rfl (fun _ => rfl) (fun _ => rfl) (by decide +kernel) (fun h1 eh1 => ?_)
  refine ab_iconst (pc := 5) (n := 0) (v := nI 0) (by decide +kernel) rfl ?_
  refine ab_istore_n (pc := 6) (n := 1) (i := 1) (lv' := [(0, .ref x0), (1, .int (nI 0))]) (by decide +kernel) rfl (Nat.le_of_ble_eq_true rfl) rfl rfl ?_
  refine ab_iconst (pc := 7) (n := 0) (v := nI 0) (by decide +kernel) rfl ?_
  refine ab_istore_n (pc := 8) (n := 2) (i := 2) (lv' := [(0, .ref x0), (1, .int (nI 0)), (2, .int (nI 0))]) (by decide +kernel) rfl (Nat.le_of_ble_eq_true rfl) rfl rfl ?_
  refine lX12_unclaimed_9 hl F x0 h1 F (nI 0) (nI 0)
set_option maxRecDepth 100000 in
set_option maxHeartbeats 4000000 in
theorem okX12_unclaimed {l : Launch} (hl : l.stackTraces = false) {F : Nat} {x0 : Nat} {h : ab_H} {y : (Int32 × ab_H)} (e : fX12_unclaimed F x0 h = some y) : ab_Met l mX12_unclaimed [.ref x0] h (.inl (some (.int y.1)), y.2) := ab_ofS (io := (fun y : (Int32 × ab_H) => ((.inl (some (.int y.1)), y.2) : ab_R × ab_H))) (x := y) hl (by decide) rfl (Nat.le_of_ble_eq_true rfl) (wX12_unclaimed hl F x0 h) e
def mX12_comesRound : ab_M := (yX12_comesRound, cX12_comesRound, 3, (some .boolean), { frames := 2, cells := 0, slots := 0, locals := 44 })
theorem iX12_comesRound : ab_MI mX12_comesRound 1 := ⟨kw_78c9a15d21, kw_30b3f7d7c6, by decide +kernel⟩
def fX12_comesRound_6 (F : Nat) (x0 : Nat) (x1 : Int32) (h : ab_H) (k25 : Int32 → Option Int32) : Nat → Int32 → Option Int32
  | 0, _ => none
  | n + 1, x2 => (if x2 = (-1 : Int32) then k25 x2 else (if x2 = x1 then k25 x2 else ab_ck (ab_io h x0 12 = true) (ab_bd (fX12_wearer F x0 x2 h) fun v4 => fX12_comesRound_6 F x0 x1 h k25 n v4)))
def fX12_comesRound (F : Nat) (x0 : Nat) (x1 : Int32) (h : ab_H) : Option Int32 := ab_ck (ab_io h x0 12 = true) (ab_bd (fX12_wearer F x0 x1 h) fun v1 => fX12_comesRound_6 F x0 x1 h (fun (z5 : Int32) => (if z5 = x1 then some (nI 1) else some (nI 0))) F v1)
set_option maxRecDepth 100000 in
set_option maxHeartbeats 4000000 in
theorem lX12_comesRound_6 {l : Launch} (hl : l.stackTraces = false) (F : Nat) (x0 : Nat) (x1 : Int32) (h : ab_H) {k25 : Int32 → Option Int32} (hk25 : ∀ (x2 : Int32), ab_S l mX12_comesRound (fun y : Int32 => ((.inl (some (.int y)), h) : ab_R × ab_H)) 0 0 (k25 x2) 25 [(1, .int x1), (2, .int x2)] [] h) : ∀ (n : Nat) (x2 : Int32), ab_S l mX12_comesRound (fun y : Int32 => ((.inl (some (.int y)), h) : ab_R × ab_H)) 0 0 (fX12_comesRound_6 F x0 x1 h k25 n x2) 6 [(0, .ref x0), (1, .int x1), (2, .int x2)] [] h := by
  intro n
  induction n with
  | zero =>
    intro x2
    exact ab_none
  | succ n ih =>
    intro x2
    rw [fX12_comesRound_6]
    refine ab_iload_n (pc := 6) (n := 2) (i := 2) (j := 2) (by decide +kernel) rfl rfl ?_
    refine ab_iconst (pc := 7) (n := -1) (v := (-1 : Int32)) (by decide +kernel) rfl ?_
    refine ab_icmp_eq (off := 17) (pc := 8) (tgt := 25) (by decide +kernel) (by decide) (fun g2 => ?_) (fun g2 => ?_)
    · refine ab_few [1, 2] (lv' := [(1, .int x1), (2, .int x2)]) rfl ?_
      exact hk25 x2
    · refine ab_iload_n (pc := 11) (n := 2) (i := 2) (j := 2) (by decide +kernel) rfl rfl ?_
      refine ab_iload_n (pc := 12) (n := 1) (i := 1) (j := 1) (by decide +kernel) rfl rfl ?_
      refine ab_icmp_eq (off := 12) (pc := 13) (tgt := 25) (by decide +kernel) (by decide) (fun g3 => ?_) (fun g3 => ?_)
      · refine ab_few [1, 2] (lv' := [(1, .int x1), (2, .int x2)]) rfl ?_
        exact hk25 x2
      · refine ab_aload_n (pc := 16) (n := 0) (i := 0) (j := 0) (by decide +kernel) rfl rfl ?_
        refine ab_iload_n (pc := 17) (n := 2) (i := 2) (j := 2) (by decide +kernel) rfl rfl ?_
        refine ab_callVi (As := [.int x2]) (st := []) (pc := 18) lk_X12_247_12 rfl rfl rfl (by decide) rfl (Nat.le_of_ble_eq_true rfl) (by decide +kernel) (fun y9 e9 => okX12_wearer hl (F := F) e9) (fun v4 ev4 => ?_)
        refine ab_istore_n (pc := 21) (n := 2) (i := 2) (lv' := [(0, .ref x0), (1, .int x1), (2, .int v4)]) (by decide +kernel) rfl (Nat.le_of_ble_eq_true rfl) rfl rfl ?_
        refine ab_goto (pc := 22) (off := (-16)) (tgt := 6) (by decide +kernel) (by decide) ?_
        exact ih v4
set_option maxRecDepth 100000 in
set_option maxHeartbeats 4000000 in
theorem wX12_comesRound {l : Launch} (hl : l.stackTraces = false) (F : Nat) (x0 : Nat) (x1 : Int32) (h : ab_H) : ab_S l mX12_comesRound (fun y : Int32 => ((.inl (some (.int y)), h) : ab_R × ab_H)) 0 0 (fX12_comesRound F x0 x1 h) 0 [(0, .ref x0), (1, .int x1)] [] h := by
  unfold fX12_comesRound
  refine ab_aload_n (pc := 0) (n := 0) (i := 0) (j := 0) (by decide +kernel) rfl rfl ?_
  refine ab_iload_n (pc := 1) (n := 1) (i := 1) (j := 1) (by decide +kernel) rfl rfl ?_
  refine ab_callVi (As := [.int x1]) (st := []) (pc := 2) lk_X12_247_12 rfl rfl rfl (by decide) rfl (Nat.le_of_ble_eq_true rfl) (by decide +kernel) (fun y9 e9 => okX12_wearer hl (F := F) e9) (fun v1 ev1 => ?_)
  refine ab_istore_n (pc := 5) (n := 2) (i := 2) (lv' := [(0, .ref x0), (1, .int x1), (2, .int v1)]) (by decide +kernel) rfl (Nat.le_of_ble_eq_true rfl) rfl rfl ?_
  refine lX12_comesRound_6 hl F x0 x1 h ?_ F v1
  intro z5
  refine ab_iload_n (pc := 25) (n := 2) (i := 2) (j := 1) (by decide +kernel) rfl rfl ?_
  refine ab_iload_n (pc := 26) (n := 1) (i := 1) (j := 0) (by decide +kernel) rfl rfl ?_
  refine ab_icmp_ne (off := 7) (pc := 27) (tgt := 34) (by decide +kernel) (by decide) (fun g6 => ?_) (fun g6 => ?_)
  · refine ab_iconst (pc := 30) (n := 1) (v := nI 1) (by decide +kernel) rfl ?_
    refine ab_goto (pc := 31) (off := 4) (tgt := 35) (by decide +kernel) (by decide) ?_
    exact ab_zret (pc := 35) (by decide +kernel) rfl ab_bl1.1 rfl (Nat.le_of_ble_eq_true rfl) (Nat.le_of_ble_eq_true rfl)
  · refine ab_iconst (pc := 34) (n := 0) (v := nI 0) (by decide +kernel) rfl ?_
    exact ab_zret (pc := 35) (by decide +kernel) rfl ab_bl0.1 rfl (Nat.le_of_ble_eq_true rfl) (Nat.le_of_ble_eq_true rfl)
set_option maxRecDepth 100000 in
set_option maxHeartbeats 4000000 in
theorem okX12_comesRound {l : Launch} (hl : l.stackTraces = false) {F : Nat} {x0 : Nat} {x1 : Int32} {h : ab_H} {y : Int32} (e : fX12_comesRound F x0 x1 h = some y) : ab_Met l mX12_comesRound [.ref x0, .int x1] h (.inl (some (.int y)), h) := ab_ofS (io := (fun y : Int32 => ((.inl (some (.int y)), h) : ab_R × ab_H))) (x := y) hl (by decide) rfl (Nat.le_of_ble_eq_true rfl) (wX12_comesRound hl F x0 x1 h) e
def mX12_swaps : ab_M := (yX12_swaps, cX12_swaps, 4, (some .int), { frames := 3, cells := 0, slots := 0, locals := 67 })
theorem iX12_swaps : ab_MI mX12_swaps 0 := ⟨kw_4feaa30f44, kw_30b3f7d7c6, by decide +kernel⟩
theorem lk_X12_323_12 : ab_LV RX12 323 12 mX12_comesRound 1 := ⟨RX12, rfl, iX12_comesRound, kw_c9a26f7260, kw_942783d34e, kw_eb02aba5a6⟩
def fX12_swaps_9 (F : Nat) (x0 : Nat) (h : ab_H) : Nat → Int32 → Int32 → Option (Int32 × ab_H)
  | 0, _, _ => none
  | n + 1, x1, x2 => ab_bd (ab_fr h x0 12 1) fun v2 => ab_bd (ab_ia 0 h v2 (nI 3)) fun v3 => (if x2 < v3 then ab_ck (ab_io h x0 12 = true) (ab_bd (fX12_isLost F x0 x2 h) fun v5 => (if v5 = 0 then ab_ck (ab_io h x0 12 = true) (ab_bd (fX12_wearer F x0 x2 h) fun v7 => (if v7 = x2 then fX12_swaps_9 F x0 h n x1 (x2 + nI 1) else ab_ck (ab_io h x0 12 = true) (ab_bd (fX12_ring F x0 x2 h) fun v9 => ab_ck (ab_io h x0 12 = true) (ab_bd (fX12_comesRound F x0 x2 h) fun v10 => (if v10 = 0 then fX12_swaps_9 F x0 h n (x1 + nI 1) (x2 + nI 1) else (if (v9 &&& (((nI 1) <<< (x2 &&& 31)) - (nI 1))) = 0 then fX12_swaps_9 F x0 h n ((x1 + nI 1) + (-1 : Int32)) (x2 + nI 1) else fX12_swaps_9 F x0 h n (x1 + nI 1) (x2 + nI 1))))))) else fX12_swaps_9 F x0 h n x1 (x2 + nI 1))) else some (x1, h))
def fX12_swaps (F : Nat) (x0 : Nat) (h : ab_H) : Option (Int32 × ab_H) := ab_bd (ab_fw h x0 12 0 (.int (nI 0))) fun h1 => fX12_swaps_9 F x0 h1 F (nI 0) (nI 0)
set_option maxRecDepth 100000 in
set_option maxHeartbeats 4000000 in
theorem lX12_swaps_9 {l : Launch} (hl : l.stackTraces = false) (F : Nat) (x0 : Nat) (h : ab_H) : ∀ (n : Nat) (x1 : Int32) (x2 : Int32), ab_S l mX12_swaps (fun y : (Int32 × ab_H) => ((.inl (some (.int y.1)), y.2) : ab_R × ab_H)) 0 0 (fX12_swaps_9 F x0 h n x1 x2) 9 [(0, .ref x0), (1, .int x1), (2, .int x2)] [] h := by
  intro n
  induction n with
  | zero =>
    intro x1 x2
    exact ab_none
  | succ n ih =>
    intro x1 x2
    rw [fX12_swaps_9]
    refine ab_iload_n (pc := 9) (n := 2) (i := 2) (j := 2) (by decide +kernel) rfl rfl ?_
    refine ab_aload_n (pc := 10) (n := 0) (i := 0) (j := 0) (by decide +kernel) rfl rfl ?_
    refine ab_getR (pc := 11) fl_X12_7_12 (by decide +kernel) (fun v2 ev2 => ?_)
    refine ab_iconst (pc := 14) (n := 3) (v := nI 3) (by decide +kernel) rfl ?_
    refine ab_iald (pc := 15) (by decide +kernel) (fun v3 ev3 => ?_)
    refine ab_icmp_ge (off := 59) (pc := 16) (tgt := 75) (by decide +kernel) (by decide) (fun g4 => ?_) (fun g4 => ?_)
    · refine ab_aload_n (pc := 19) (n := 0) (i := 0) (j := 0) (by decide +kernel) rfl rfl ?_
      refine ab_iload_n (pc := 20) (n := 2) (i := 2) (j := 2) (by decide +kernel) rfl rfl ?_
      refine ab_callVi (As := [.int x2]) (st := []) (pc := 21) lk_X12_320_12 rfl rfl rfl (by decide) rfl (Nat.le_of_ble_eq_true rfl) (by decide +kernel) (fun y9 e9 => okX12_isLost hl (F := F) e9) (fun v5 ev5 => ?_)
      refine ab_if_ne (off := 45) (pc := 24) (tgt := 69) (by decide +kernel) (by decide) (fun g6 => ?_) (fun g6 => ?_)
      · refine ab_aload_n (pc := 27) (n := 0) (i := 0) (j := 0) (by decide +kernel) rfl rfl ?_
        refine ab_iload_n (pc := 28) (n := 2) (i := 2) (j := 2) (by decide +kernel) rfl rfl ?_
        refine ab_callVi (As := [.int x2]) (st := []) (pc := 29) lk_X12_247_12 rfl rfl rfl (by decide) rfl (Nat.le_of_ble_eq_true rfl) (by decide +kernel) (fun y9 e9 => okX12_wearer hl (F := F) e9) (fun v7 ev7 => ?_)
        refine ab_iload_n (pc := 32) (n := 2) (i := 2) (j := 2) (by decide +kernel) rfl rfl ?_
        refine ab_icmp_ne (off := 6) (pc := 33) (tgt := 39) (by decide +kernel) (by decide) (fun g8 => ?_) (fun g8 => ?_)
        · refine ab_goto (pc := 36) (off := 33) (tgt := 69) (by decide +kernel) (by decide) ?_
          refine ab_iinc (pc := 69) (i := 2) (n := 1) (j := 2) (d := nI 1) (lv' := [(0, .ref x0), (1, .int x1), (2, .int (x2 + nI 1))]) (by decide +kernel) rfl rfl (Nat.le_of_ble_eq_true rfl) rfl rfl ?_
          refine ab_goto (pc := 72) (off := (-63)) (tgt := 9) (by decide +kernel) (by decide) ?_
          exact ih x1 (x2 + nI 1)
        · refine ab_iinc (pc := 39) (i := 1) (n := 1) (j := 1) (d := nI 1) (lv' := [(0, .ref x0), (1, .int (x1 + nI 1)), (2, .int x2)]) (by decide +kernel) rfl rfl (Nat.le_of_ble_eq_true rfl) rfl rfl ?_
          refine ab_aload_n (pc := 42) (n := 0) (i := 0) (j := 0) (by decide +kernel) rfl rfl ?_
          refine ab_iload_n (pc := 43) (n := 2) (i := 2) (j := 2) (by decide +kernel) rfl rfl ?_
          refine ab_callVi (As := [.int x2]) (st := []) (pc := 44) lk_X12_253_12 rfl rfl rfl (by decide) rfl (Nat.le_of_ble_eq_true rfl) (by decide +kernel) (fun y9 e9 => okX12_ring hl (F := F) e9) (fun v9 ev9 => ?_)
          refine ab_istore_n (pc := 47) (n := 3) (i := 3) (lv' := [(0, .ref x0), (1, .int (x1 + nI 1)), (2, .int x2), (3, .int v9)]) (by decide +kernel) rfl (Nat.le_of_ble_eq_true rfl) rfl rfl ?_
          refine ab_aload_n (pc := 48) (n := 0) (i := 0) (j := 0) (by decide +kernel) rfl rfl ?_
          refine ab_iload_n (pc := 49) (n := 2) (i := 2) (j := 2) (by decide +kernel) rfl rfl ?_
          refine ab_callVi (As := [.int x2]) (st := []) (pc := 50) lk_X12_323_12 rfl rfl rfl (by decide) rfl (Nat.le_of_ble_eq_true rfl) (by decide +kernel) (fun y9 e9 => okX12_comesRound hl (F := F) e9) (fun v10 ev10 => ?_)
          refine ab_if_eq (off := 16) (pc := 53) (tgt := 69) (by decide +kernel) (by decide) (fun g11 => ?_) (fun g11 => ?_)
          · refine ab_iinc (pc := 69) (i := 2) (n := 1) (j := 2) (d := nI 1) (lv' := [(0, .ref x0), (1, .int (x1 + nI 1)), (2, .int (x2 + nI 1)), (3, .int v9)]) (by decide +kernel) rfl rfl (Nat.le_of_ble_eq_true rfl) rfl rfl ?_
            refine ab_goto (pc := 72) (off := (-63)) (tgt := 9) (by decide +kernel) (by decide) ?_
            refine ab_few [0, 1, 2] (lv' := [(0, .ref x0), (1, .int (x1 + nI 1)), (2, .int (x2 + nI 1))]) rfl ?_
            exact ih (x1 + nI 1) (x2 + nI 1)
          · refine ab_iload_n (pc := 56) (n := 3) (i := 3) (j := 3) (by decide +kernel) rfl rfl ?_
            refine ab_iconst (pc := 57) (n := 1) (v := nI 1) (by decide +kernel) rfl ?_
            refine ab_iload_n (pc := 58) (n := 2) (i := 2) (j := 2) (by decide +kernel) rfl rfl ?_
            refine ab_ishl (pc := 59) (by decide +kernel) ?_
            refine ab_iconst (pc := 60) (n := 1) (v := nI 1) (by decide +kernel) rfl ?_
            refine ab_isub (pc := 61) (by decide +kernel) ?_
            refine ab_iand (pc := 62) (by decide +kernel) ?_
            refine ab_if_ne (off := 6) (pc := 63) (tgt := 69) (by decide +kernel) (by decide) (fun g12 => ?_) (fun g12 => ?_)
            · refine ab_iinc (pc := 66) (i := 1) (n := -1) (j := 1) (d := (-1 : Int32)) (lv' := [(0, .ref x0), (1, .int ((x1 + nI 1) + (-1 : Int32))), (2, .int x2), (3, .int v9)]) (by decide +kernel) rfl rfl (Nat.le_of_ble_eq_true rfl) rfl rfl ?_
              refine ab_iinc (pc := 69) (i := 2) (n := 1) (j := 2) (d := nI 1) (lv' := [(0, .ref x0), (1, .int ((x1 + nI 1) + (-1 : Int32))), (2, .int (x2 + nI 1)), (3, .int v9)]) (by decide +kernel) rfl rfl (Nat.le_of_ble_eq_true rfl) rfl rfl ?_
              refine ab_goto (pc := 72) (off := (-63)) (tgt := 9) (by decide +kernel) (by decide) ?_
              refine ab_few [0, 1, 2] (lv' := [(0, .ref x0), (1, .int ((x1 + nI 1) + (-1 : Int32))), (2, .int (x2 + nI 1))]) rfl ?_
              exact ih ((x1 + nI 1) + (-1 : Int32)) (x2 + nI 1)
            · refine ab_iinc (pc := 69) (i := 2) (n := 1) (j := 2) (d := nI 1) (lv' := [(0, .ref x0), (1, .int (x1 + nI 1)), (2, .int (x2 + nI 1)), (3, .int v9)]) (by decide +kernel) rfl rfl (Nat.le_of_ble_eq_true rfl) rfl rfl ?_
              refine ab_goto (pc := 72) (off := (-63)) (tgt := 9) (by decide +kernel) (by decide) ?_
              refine ab_few [0, 1, 2] (lv' := [(0, .ref x0), (1, .int (x1 + nI 1)), (2, .int (x2 + nI 1))]) rfl ?_
              exact ih (x1 + nI 1) (x2 + nI 1)
      · refine ab_iinc (pc := 69) (i := 2) (n := 1) (j := 2) (d := nI 1) (lv' := [(0, .ref x0), (1, .int x1), (2, .int (x2 + nI 1))]) (by decide +kernel) rfl rfl (Nat.le_of_ble_eq_true rfl) rfl rfl ?_
        refine ab_goto (pc := 72) (off := (-63)) (tgt := 9) (by decide +kernel) (by decide) ?_
        exact ih x1 (x2 + nI 1)
    · refine ab_iload_n (pc := 75) (n := 1) (i := 1) (j := 1) (by decide +kernel) rfl rfl ?_
      exact ab_iret (pc := 76) (by decide +kernel) rfl rfl (Nat.le_of_ble_eq_true rfl) (Nat.le_of_ble_eq_true rfl)
set_option maxRecDepth 100000 in
set_option maxHeartbeats 4000000 in
theorem wX12_swaps {l : Launch} (hl : l.stackTraces = false) (F : Nat) (x0 : Nat) (h : ab_H) : ab_S l mX12_swaps (fun y : (Int32 × ab_H) => ((.inl (some (.int y.1)), y.2) : ab_R × ab_H)) 0 0 (fX12_swaps F x0 h) 0 [(0, .ref x0)] [] h := by
  unfold fX12_swaps
  refine ab_aload_n (pc := 0) (n := 0) (i := 0) (j := 0) (by decide +kernel) rfl rfl ?_
  refine ab_iconst (pc := 1) (n := 0) (v := nI 0) (by decide +kernel) rfl ?_
  refine ab_put (pc := 2) fl_X12_50_12 rfl (fun _ => rfl) (fun _ => rfl) (by decide +kernel) (fun h1 eh1 => ?_)
  refine ab_iconst (pc := 5) (n := 0) (v := nI 0) (by decide +kernel) rfl ?_
  refine ab_istore_n (pc := 6) (n := 1) (i := 1) (lv' := [(0, .ref x0), (1, .int (nI 0))]) (by decide +kernel) rfl (Nat.le_of_ble_eq_true rfl) rfl rfl ?_
  refine ab_iconst (pc := 7) (n := 0) (v := nI 0) (by decide +kernel) rfl ?_
  refine ab_istore_n (pc := 8) (n := 2) (i := 2) (lv' := [(0, .ref x0), (1, .int (nI 0)), (2, .int (nI 0))]) (by decide +kernel) rfl (Nat.le_of_ble_eq_true rfl) rfl rfl ?_
  refine lX12_swaps_9 hl F x0 h1 F (nI 0) (nI 0)
set_option maxRecDepth 100000 in
set_option maxHeartbeats 4000000 in
theorem okX12_swaps {l : Launch} (hl : l.stackTraces = false) {F : Nat} {x0 : Nat} {h : ab_H} {y : (Int32 × ab_H)} (e : fX12_swaps F x0 h = some y) : ab_Met l mX12_swaps [.ref x0] h (.inl (some (.int y.1)), y.2) := ab_ofS (io := (fun y : (Int32 × ab_H) => ((.inl (some (.int y.1)), y.2) : ab_R × ab_H))) (x := y) hl (by decide) rfl (Nat.le_of_ble_eq_true rfl) (wX12_swaps hl F x0 h) e
def mX12_saved : ab_M := (yX12_saved, cX12_saved, 4, (some .int), { frames := 1, cells := 0, slots := 0, locals := 22 })
theorem iX12_saved : ab_MI mX12_saved 0 := ⟨kw_c2cb15c099, kw_30b3f7d7c6, by decide +kernel⟩
def fX12_saved_9 (x0 : Nat) (h : ab_H) : Nat → Int32 → Int32 → Option (Int32 × ab_H)
  | 0, _, _ => none
  | n + 1, x1, x2 => ab_bd (ab_fr h x0 12 1) fun v2 => ab_bd (ab_ia 0 h v2 (nI 3)) fun v3 => (if x2 < v3 then ab_ck (ab_io h x0 12 = true) (ab_bd (fX12_of x0 x2 (nI 4) h) fun v5 => (if v5 = (-1 : Int32) then fX12_saved_9 x0 h n (x1 ||| (nI 0)) (x2 + nI 1) else ab_ck (ab_io h x0 12 = true) (ab_bd (fX12_of x0 x2 (nI 2) h) fun v7 => (if v7 = v5 then ab_ck (ab_io h x0 12 = true) (ab_bd (fX12_of x0 v5 (nI 2) h) fun v9 => (if v9 = x2 then fX12_saved_9 x0 h n (x1 ||| ((nI 1) <<< (x2 &&& 31))) (x2 + nI 1) else fX12_saved_9 x0 h n (x1 ||| (nI 0)) (x2 + nI 1))) else fX12_saved_9 x0 h n (x1 ||| (nI 0)) (x2 + nI 1))))) else some (x1, h))
def fX12_saved (F : Nat) (x0 : Nat) (h : ab_H) : Option (Int32 × ab_H) := ab_bd (ab_fw h x0 12 0 (.int (nI 0))) fun h1 => fX12_saved_9 x0 h1 F (nI 0) (nI 0)
set_option maxRecDepth 100000 in
set_option maxHeartbeats 4000000 in
theorem lX12_saved_9 {l : Launch} (hl : l.stackTraces = false) (x0 : Nat) (h : ab_H) : ∀ (n : Nat) (x1 : Int32) (x2 : Int32), ab_S l mX12_saved (fun y : (Int32 × ab_H) => ((.inl (some (.int y.1)), y.2) : ab_R × ab_H)) 0 0 (fX12_saved_9 x0 h n x1 x2) 9 [(0, .ref x0), (1, .int x1), (2, .int x2)] [] h := by
  intro n
  induction n with
  | zero =>
    intro x1 x2
    exact ab_none
  | succ n ih =>
    intro x1 x2
    rw [fX12_saved_9]
    refine ab_iload_n (pc := 9) (n := 2) (i := 2) (j := 2) (by decide +kernel) rfl rfl ?_
    refine ab_aload_n (pc := 10) (n := 0) (i := 0) (j := 0) (by decide +kernel) rfl rfl ?_
    refine ab_getR (pc := 11) fl_X12_7_12 (by decide +kernel) (fun v2 ev2 => ?_)
    refine ab_iconst (pc := 14) (n := 3) (v := nI 3) (by decide +kernel) rfl ?_
    refine ab_iald (pc := 15) (by decide +kernel) (fun v3 ev3 => ?_)
    refine ab_icmp_ge (off := 51) (pc := 16) (tgt := 67) (by decide +kernel) (by decide) (fun g4 => ?_) (fun g4 => ?_)
    · refine ab_aload_n (pc := 19) (n := 0) (i := 0) (j := 0) (by decide +kernel) rfl rfl ?_
      refine ab_iload_n (pc := 20) (n := 2) (i := 2) (j := 2) (by decide +kernel) rfl rfl ?_
      refine ab_iconst (pc := 21) (n := 4) (v := nI 4) (by decide +kernel) rfl ?_
      refine ab_callVi (As := [.int x2, .int (nI 4)]) (st := []) (pc := 22) lk_X12_57_12 rfl rfl rfl (by decide) rfl (Nat.le_of_ble_eq_true rfl) (by decide +kernel) (fun y9 e9 => okX12_of hl e9) (fun v5 ev5 => ?_)
      refine ab_istore_n (pc := 25) (n := 3) (i := 3) (lv' := [(0, .ref x0), (1, .int x1), (2, .int x2), (3, .int v5)]) (by decide +kernel) rfl (Nat.le_of_ble_eq_true rfl) rfl rfl ?_
      refine ab_iload_n (pc := 26) (n := 1) (i := 1) (j := 1) (by decide +kernel) rfl rfl ?_
      refine ab_iload_n (pc := 27) (n := 3) (i := 3) (j := 3) (by decide +kernel) rfl rfl ?_
      refine ab_iconst (pc := 28) (n := -1) (v := (-1 : Int32)) (by decide +kernel) rfl ?_
      refine ab_icmp_eq (off := 29) (pc := 29) (tgt := 58) (by decide +kernel) (by decide) (fun g6 => ?_) (fun g6 => ?_)
      · refine ab_iconst (pc := 58) (n := 0) (v := nI 0) (by decide +kernel) rfl ?_
        refine ab_ior (pc := 59) (by decide +kernel) ?_
        refine ab_istore_n (pc := 60) (n := 1) (i := 1) (lv' := [(0, .ref x0), (1, .int (x1 ||| (nI 0))), (2, .int x2), (3, .int v5)]) (by decide +kernel) rfl (Nat.le_of_ble_eq_true rfl) rfl rfl ?_
        refine ab_iinc (pc := 61) (i := 2) (n := 1) (j := 2) (d := nI 1) (lv' := [(0, .ref x0), (1, .int (x1 ||| (nI 0))), (2, .int (x2 + nI 1)), (3, .int v5)]) (by decide +kernel) rfl rfl (Nat.le_of_ble_eq_true rfl) rfl rfl ?_
        refine ab_goto (pc := 64) (off := (-55)) (tgt := 9) (by decide +kernel) (by decide) ?_
        refine ab_few [0, 1, 2] (lv' := [(0, .ref x0), (1, .int (x1 ||| (nI 0))), (2, .int (x2 + nI 1))]) rfl ?_
        exact ih (x1 ||| (nI 0)) (x2 + nI 1)
      · refine ab_aload_n (pc := 32) (n := 0) (i := 0) (j := 0) (by decide +kernel) rfl rfl ?_
        refine ab_iload_n (pc := 33) (n := 2) (i := 2) (j := 2) (by decide +kernel) rfl rfl ?_
        refine ab_iconst (pc := 34) (n := 2) (v := nI 2) (by decide +kernel) rfl ?_
        refine ab_callVi (As := [.int x2, .int (nI 2)]) (st := [.int x1]) (pc := 35) lk_X12_57_12 rfl rfl rfl (by decide) rfl (Nat.le_of_ble_eq_true rfl) (by decide +kernel) (fun y9 e9 => okX12_of hl e9) (fun v7 ev7 => ?_)
        refine ab_iload_n (pc := 38) (n := 3) (i := 3) (j := 3) (by decide +kernel) rfl rfl ?_
        refine ab_icmp_ne (off := 19) (pc := 39) (tgt := 58) (by decide +kernel) (by decide) (fun g8 => ?_) (fun g8 => ?_)
        · refine ab_aload_n (pc := 42) (n := 0) (i := 0) (j := 0) (by decide +kernel) rfl rfl ?_
          refine ab_iload_n (pc := 43) (n := 3) (i := 3) (j := 3) (by decide +kernel) rfl rfl ?_
          refine ab_iconst (pc := 44) (n := 2) (v := nI 2) (by decide +kernel) rfl ?_
          refine ab_callVi (As := [.int v5, .int (nI 2)]) (st := [.int x1]) (pc := 45) lk_X12_57_12 rfl rfl rfl (by decide) rfl (Nat.le_of_ble_eq_true rfl) (by decide +kernel) (fun y9 e9 => okX12_of hl e9) (fun v9 ev9 => ?_)
          refine ab_iload_n (pc := 48) (n := 2) (i := 2) (j := 2) (by decide +kernel) rfl rfl ?_
          refine ab_icmp_ne (off := 9) (pc := 49) (tgt := 58) (by decide +kernel) (by decide) (fun g10 => ?_) (fun g10 => ?_)
          · refine ab_iconst (pc := 52) (n := 1) (v := nI 1) (by decide +kernel) rfl ?_
            refine ab_iload_n (pc := 53) (n := 2) (i := 2) (j := 2) (by decide +kernel) rfl rfl ?_
            refine ab_ishl (pc := 54) (by decide +kernel) ?_
            refine ab_goto (pc := 55) (off := 4) (tgt := 59) (by decide +kernel) (by decide) ?_
            refine ab_ior (pc := 59) (by decide +kernel) ?_
            refine ab_istore_n (pc := 60) (n := 1) (i := 1) (lv' := [(0, .ref x0), (1, .int (x1 ||| ((nI 1) <<< (x2 &&& 31)))), (2, .int x2), (3, .int v5)]) (by decide +kernel) rfl (Nat.le_of_ble_eq_true rfl) rfl rfl ?_
            refine ab_iinc (pc := 61) (i := 2) (n := 1) (j := 2) (d := nI 1) (lv' := [(0, .ref x0), (1, .int (x1 ||| ((nI 1) <<< (x2 &&& 31)))), (2, .int (x2 + nI 1)), (3, .int v5)]) (by decide +kernel) rfl rfl (Nat.le_of_ble_eq_true rfl) rfl rfl ?_
            refine ab_goto (pc := 64) (off := (-55)) (tgt := 9) (by decide +kernel) (by decide) ?_
            refine ab_few [0, 1, 2] (lv' := [(0, .ref x0), (1, .int (x1 ||| ((nI 1) <<< (x2 &&& 31)))), (2, .int (x2 + nI 1))]) rfl ?_
            exact ih (x1 ||| ((nI 1) <<< (x2 &&& 31))) (x2 + nI 1)
          · refine ab_iconst (pc := 58) (n := 0) (v := nI 0) (by decide +kernel) rfl ?_
            refine ab_ior (pc := 59) (by decide +kernel) ?_
            refine ab_istore_n (pc := 60) (n := 1) (i := 1) (lv' := [(0, .ref x0), (1, .int (x1 ||| (nI 0))), (2, .int x2), (3, .int v5)]) (by decide +kernel) rfl (Nat.le_of_ble_eq_true rfl) rfl rfl ?_
            refine ab_iinc (pc := 61) (i := 2) (n := 1) (j := 2) (d := nI 1) (lv' := [(0, .ref x0), (1, .int (x1 ||| (nI 0))), (2, .int (x2 + nI 1)), (3, .int v5)]) (by decide +kernel) rfl rfl (Nat.le_of_ble_eq_true rfl) rfl rfl ?_
            refine ab_goto (pc := 64) (off := (-55)) (tgt := 9) (by decide +kernel) (by decide) ?_
            refine ab_few [0, 1, 2] (lv' := [(0, .ref x0), (1, .int (x1 ||| (nI 0))), (2, .int (x2 + nI 1))]) rfl ?_
            exact ih (x1 ||| (nI 0)) (x2 + nI 1)
        · refine ab_iconst (pc := 58) (n := 0) (v := nI 0) (by decide +kernel) rfl ?_
          refine ab_ior (pc := 59) (by decide +kernel) ?_
          refine ab_istore_n (pc := 60) (n := 1) (i := 1) (lv' := [(0, .ref x0), (1, .int (x1 ||| (nI 0))), (2, .int x2), (3, .int v5)]) (by decide +kernel) rfl (Nat.le_of_ble_eq_true rfl) rfl rfl ?_
          refine ab_iinc (pc := 61) (i := 2) (n := 1) (j := 2) (d := nI 1) (lv' := [(0, .ref x0), (1, .int (x1 ||| (nI 0))), (2, .int (x2 + nI 1)), (3, .int v5)]) (by decide +kernel) rfl rfl (Nat.le_of_ble_eq_true rfl) rfl rfl ?_
          refine ab_goto (pc := 64) (off := (-55)) (tgt := 9) (by decide +kernel) (by decide) ?_
          refine ab_few [0, 1, 2] (lv' := [(0, .ref x0), (1, .int (x1 ||| (nI 0))), (2, .int (x2 + nI 1))]) rfl ?_
          exact ih (x1 ||| (nI 0)) (x2 + nI 1)
    · refine ab_iload_n (pc := 67) (n := 1) (i := 1) (j := 1) (by decide +kernel) rfl rfl ?_
      exact ab_iret (pc := 68) (by decide +kernel) rfl rfl (Nat.le_of_ble_eq_true rfl) (Nat.le_of_ble_eq_true rfl)
set_option maxRecDepth 100000 in
set_option maxHeartbeats 4000000 in
theorem wX12_saved {l : Launch} (hl : l.stackTraces = false) (F : Nat) (x0 : Nat) (h : ab_H) : ab_S l mX12_saved (fun y : (Int32 × ab_H) => ((.inl (some (.int y.1)), y.2) : ab_R × ab_H)) 0 0 (fX12_saved F x0 h) 0 [(0, .ref x0)] [] h := by
  unfold fX12_saved
  refine ab_aload_n (pc := 0) (n := 0) (i := 0) (j := 0) (by decide +kernel) rfl rfl ?_
  refine ab_iconst (pc := 1) (n := 0) (v := nI 0) (by decide +kernel) rfl ?_
  refine ab_put (pc := 2) fl_X12_50_12 rfl (fun _ => rfl) (fun _ => rfl) (by decide +kernel) (fun h1 eh1 => ?_)
  refine ab_iconst (pc := 5) (n := 0) (v := nI 0) (by decide +kernel) rfl ?_
  refine ab_istore_n (pc := 6) (n := 1) (i := 1) (lv' := [(0, .ref x0), (1, .int (nI 0))]) (by decide +kernel) rfl (Nat.le_of_ble_eq_true rfl) rfl rfl ?_
  refine ab_iconst (pc := 7) (n := 0) (v := nI 0) (by decide +kernel) rfl ?_
  refine ab_istore_n (pc := 8) (n := 2) (i := 2) (lv' := [(0, .ref x0), (1, .int (nI 0)), (2, .int (nI 0))]) (by decide +kernel) rfl (Nat.le_of_ble_eq_true rfl) rfl rfl ?_
  refine lX12_saved_9 hl x0 h1 F (nI 0) (nI 0)
set_option maxRecDepth 100000 in
set_option maxHeartbeats 4000000 in
theorem okX12_saved {l : Launch} (hl : l.stackTraces = false) {F : Nat} {x0 : Nat} {h : ab_H} {y : (Int32 × ab_H)} (e : fX12_saved F x0 h = some y) : ab_Met l mX12_saved [.ref x0] h (.inl (some (.int y.1)), y.2) := ab_ofS (io := (fun y : (Int32 × ab_H) => ((.inl (some (.int y.1)), y.2) : ab_R × ab_H))) (x := y) hl (by decide) rfl (Nat.le_of_ble_eq_true rfl) (wX12_saved hl F x0 h) e
def mX12_areUnlike : ab_M := (yX12_areUnlike, cX12_areUnlike, 4, (some .boolean), { frames := 1, cells := 0, slots := 0, locals := 22 })
theorem iX12_areUnlike : ab_MI mX12_areUnlike 1 := ⟨kw_f18986c901, kw_30b3f7d7c6, by decide +kernel⟩
def fX12_areUnlike_14 (F : Nat) (x0 : Nat) (x1 : Int32) (x2 : Int32) (h : ab_H) (k46 : Option Int32) : Nat → Int32 → Option Int32
  | 0, _ => none
  | n + 1, x3 => (if x3 < x2 then ab_ck (ab_io h x0 12 = true) (ab_bd (fX12_of x0 x2 (nI 0) h) fun v5 => ab_ck (ab_io h x0 12 = true) (ab_bd (fX12_of x0 x3 (nI 0) h) fun v6 => (if (v5 &&& x1) = (v6 &&& x1) then some (nI 0) else fX12_areUnlike_14 F x0 x1 x2 h k46 n (x3 + nI 1)))) else k46)
def fX12_areUnlike_2 (F : Nat) (x0 : Nat) (x1 : Int32) (h : ab_H) : Nat → Int32 → Option Int32
  | 0, _ => none
  | n + 1, x2 => ab_bd (ab_fr h x0 12 1) fun v1 => ab_bd (ab_ia 0 h v1 (nI 3)) fun v2 => (if x2 < v2 then fX12_areUnlike_14 F x0 x1 x2 h (fX12_areUnlike_2 F x0 x1 h n (x2 + nI 1)) F (nI 0) else some (nI 1))
def fX12_areUnlike (F : Nat) (x0 : Nat) (x1 : Int32) (h : ab_H) : Option Int32 := fX12_areUnlike_2 F x0 x1 h F (nI 0)
set_option maxRecDepth 100000 in
set_option maxHeartbeats 4000000 in
theorem lX12_areUnlike_14 {l : Launch} (hl : l.stackTraces = false) (F : Nat) (x0 : Nat) (x1 : Int32) (x2 : Int32) (h : ab_H) {k46 : Option Int32} (hk46 : ab_S l mX12_areUnlike (fun y : Int32 => ((.inl (some (.int y)), h) : ab_R × ab_H)) 0 0 (k46) 46 [(0, .ref x0), (1, .int x1), (2, .int x2)] [] h) : ∀ (n : Nat) (x3 : Int32), ab_S l mX12_areUnlike (fun y : Int32 => ((.inl (some (.int y)), h) : ab_R × ab_H)) 0 0 (fX12_areUnlike_14 F x0 x1 x2 h k46 n x3) 14 [(0, .ref x0), (1, .int x1), (2, .int x2), (3, .int x3)] [] h := by
  intro n
  induction n with
  | zero =>
    intro x3
    exact ab_none
  | succ n ih =>
    intro x3
    rw [fX12_areUnlike_14]
    refine ab_iload_n (pc := 14) (n := 3) (i := 3) (j := 3) (by decide +kernel) rfl rfl ?_
    refine ab_iload_n (pc := 15) (n := 2) (i := 2) (j := 2) (by decide +kernel) rfl rfl ?_
    refine ab_icmp_ge (off := 30) (pc := 16) (tgt := 46) (by decide +kernel) (by decide) (fun g4 => ?_) (fun g4 => ?_)
    · refine ab_aload_n (pc := 19) (n := 0) (i := 0) (j := 0) (by decide +kernel) rfl rfl ?_
      refine ab_iload_n (pc := 20) (n := 2) (i := 2) (j := 2) (by decide +kernel) rfl rfl ?_
      refine ab_iconst (pc := 21) (n := 0) (v := nI 0) (by decide +kernel) rfl ?_
      refine ab_callVi (As := [.int x2, .int (nI 0)]) (st := []) (pc := 22) lk_X12_57_12 rfl rfl rfl (by decide) rfl (Nat.le_of_ble_eq_true rfl) (by decide +kernel) (fun y9 e9 => okX12_of hl e9) (fun v5 ev5 => ?_)
      refine ab_iload_n (pc := 25) (n := 1) (i := 1) (j := 1) (by decide +kernel) rfl rfl ?_
      refine ab_iand (pc := 26) (by decide +kernel) ?_
      refine ab_aload_n (pc := 27) (n := 0) (i := 0) (j := 0) (by decide +kernel) rfl rfl ?_
      refine ab_iload_n (pc := 28) (n := 3) (i := 3) (j := 3) (by decide +kernel) rfl rfl ?_
      refine ab_iconst (pc := 29) (n := 0) (v := nI 0) (by decide +kernel) rfl ?_
      refine ab_callVi (As := [.int x3, .int (nI 0)]) (st := [.int (v5 &&& x1)]) (pc := 30) lk_X12_57_12 rfl rfl rfl (by decide) rfl (Nat.le_of_ble_eq_true rfl) (by decide +kernel) (fun y9 e9 => okX12_of hl e9) (fun v6 ev6 => ?_)
      refine ab_iload_n (pc := 33) (n := 1) (i := 1) (j := 1) (by decide +kernel) rfl rfl ?_
      refine ab_iand (pc := 34) (by decide +kernel) ?_
      refine ab_icmp_ne (off := 5) (pc := 35) (tgt := 40) (by decide +kernel) (by decide) (fun g7 => ?_) (fun g7 => ?_)
      · refine ab_iconst (pc := 38) (n := 0) (v := nI 0) (by decide +kernel) rfl ?_
        exact ab_zret (pc := 39) (by decide +kernel) rfl ab_bl0.1 rfl (Nat.le_of_ble_eq_true rfl) (Nat.le_of_ble_eq_true rfl)
      · refine ab_iinc (pc := 40) (i := 3) (n := 1) (j := 3) (d := nI 1) (lv' := [(0, .ref x0), (1, .int x1), (2, .int x2), (3, .int (x3 + nI 1))]) (by decide +kernel) rfl rfl (Nat.le_of_ble_eq_true rfl) rfl rfl ?_
        refine ab_goto (pc := 43) (off := (-29)) (tgt := 14) (by decide +kernel) (by decide) ?_
        exact ih (x3 + nI 1)
    · refine ab_few [0, 1, 2] (lv' := [(0, .ref x0), (1, .int x1), (2, .int x2)]) rfl ?_
      exact hk46
set_option maxRecDepth 100000 in
set_option maxHeartbeats 4000000 in
theorem lX12_areUnlike_2 {l : Launch} (hl : l.stackTraces = false) (F : Nat) (x0 : Nat) (x1 : Int32) (h : ab_H) : ∀ (n : Nat) (x2 : Int32), ab_S l mX12_areUnlike (fun y : Int32 => ((.inl (some (.int y)), h) : ab_R × ab_H)) 0 0 (fX12_areUnlike_2 F x0 x1 h n x2) 2 [(0, .ref x0), (1, .int x1), (2, .int x2)] [] h := by
  intro n
  induction n with
  | zero =>
    intro x2
    exact ab_none
  | succ n ih =>
    intro x2
    rw [fX12_areUnlike_2]
    refine ab_iload_n (pc := 2) (n := 2) (i := 2) (j := 2) (by decide +kernel) rfl rfl ?_
    refine ab_aload_n (pc := 3) (n := 0) (i := 0) (j := 0) (by decide +kernel) rfl rfl ?_
    refine ab_getR (pc := 4) fl_X12_7_12 (by decide +kernel) (fun v1 ev1 => ?_)
    refine ab_iconst (pc := 7) (n := 3) (v := nI 3) (by decide +kernel) rfl ?_
    refine ab_iald (pc := 8) (by decide +kernel) (fun v2 ev2 => ?_)
    refine ab_icmp_ge (off := 43) (pc := 9) (tgt := 52) (by decide +kernel) (by decide) (fun g3 => ?_) (fun g3 => ?_)
    · refine ab_iconst (pc := 12) (n := 0) (v := nI 0) (by decide +kernel) rfl ?_
      refine ab_istore_n (pc := 13) (n := 3) (i := 3) (lv' := [(0, .ref x0), (1, .int x1), (2, .int x2), (3, .int (nI 0))]) (by decide +kernel) rfl (Nat.le_of_ble_eq_true rfl) rfl rfl ?_
      refine lX12_areUnlike_14 hl F x0 x1 x2 h ?_ F (nI 0)
      refine ab_iinc (pc := 46) (i := 2) (n := 1) (j := 2) (d := nI 1) (lv' := [(0, .ref x0), (1, .int x1), (2, .int (x2 + nI 1))]) (by decide +kernel) rfl rfl (Nat.le_of_ble_eq_true rfl) rfl rfl ?_
      refine ab_goto (pc := 49) (off := (-47)) (tgt := 2) (by decide +kernel) (by decide) ?_
      exact ih (x2 + nI 1)
    · refine ab_iconst (pc := 52) (n := 1) (v := nI 1) (by decide +kernel) rfl ?_
      exact ab_zret (pc := 53) (by decide +kernel) rfl ab_bl1.1 rfl (Nat.le_of_ble_eq_true rfl) (Nat.le_of_ble_eq_true rfl)
set_option maxRecDepth 100000 in
set_option maxHeartbeats 4000000 in
theorem wX12_areUnlike {l : Launch} (hl : l.stackTraces = false) (F : Nat) (x0 : Nat) (x1 : Int32) (h : ab_H) : ab_S l mX12_areUnlike (fun y : Int32 => ((.inl (some (.int y)), h) : ab_R × ab_H)) 0 0 (fX12_areUnlike F x0 x1 h) 0 [(0, .ref x0), (1, .int x1)] [] h := by
  unfold fX12_areUnlike
  refine ab_iconst (pc := 0) (n := 0) (v := nI 0) (by decide +kernel) rfl ?_
  refine ab_istore_n (pc := 1) (n := 2) (i := 2) (lv' := [(0, .ref x0), (1, .int x1), (2, .int (nI 0))]) (by decide +kernel) rfl (Nat.le_of_ble_eq_true rfl) rfl rfl ?_
  refine lX12_areUnlike_2 hl F x0 x1 h F (nI 0)
set_option maxRecDepth 100000 in
set_option maxHeartbeats 4000000 in
theorem okX12_areUnlike {l : Launch} (hl : l.stackTraces = false) {F : Nat} {x0 : Nat} {x1 : Int32} {h : ab_H} {y : Int32} (e : fX12_areUnlike F x0 x1 h = some y) : ab_Met l mX12_areUnlike [.ref x0, .int x1] h (.inl (some (.int y)), h) := ab_ofS (io := (fun y : Int32 => ((.inl (some (.int y)), h) : ab_R × ab_H))) (x := y) hl (by decide) rfl (Nat.le_of_ble_eq_true rfl) (wX12_areUnlike hl F x0 x1 h) e
def mX12_marks : ab_M := (yX12_marks, cX12_marks, 3, (some .int), { frames := 2, cells := 0, slots := 0, locals := 45 })
theorem iX12_marks : ab_MI mX12_marks 0 := ⟨kw_c6efadbaaf, kw_30b3f7d7c6, by decide +kernel⟩
theorem lk_X12_326_12 : ab_LV RX12 326 12 mX12_areUnlike 1 := ⟨RX12, rfl, iX12_areUnlike, kw_76a52bfc86, kw_0e18af8544, kw_41c37a220c⟩
def fX12_marks_9 (F : Nat) (x0 : Nat) (h : ab_H) : Nat → Int32 → Int32 → Option (Int32 × ab_H)
  | 0, _, _ => none
  | n + 1, x1, x2 => (if x2 < (nI 256) then ab_jn (κ := Option (Int32 × ab_H)) (ab_ck (ab_io h x0 12 = true) (ab_bd (fX12_areUnlike F x0 x2 h) fun v3 => (if v3 = 0 then fX12_marks_9 F x0 h n x1 (x2 + nI 1) else fX12_marks_9 F x0 h n x2 (x2 + nI 1)))) fun j5 => (if x1 = (-1 : Int32) then j5 else ab_bd (fX12_bits F x2 h) fun v7 => ab_bd (fX12_bits F x1 h) fun v8 => (if v7 < v8 then j5 else fX12_marks_9 F x0 h n x1 (x2 + nI 1))) else some (x1, h))
def fX12_marks (F : Nat) (x0 : Nat) (h : ab_H) : Option (Int32 × ab_H) := ab_bd (ab_fw h x0 12 0 (.int (nI 0))) fun h1 => fX12_marks_9 F x0 h1 F (-1 : Int32) (nI 0)
set_option maxRecDepth 100000 in
set_option maxHeartbeats 4000000 in
theorem lX12_marks_9 {l : Launch} (hl : l.stackTraces = false) (F : Nat) (x0 : Nat) (h : ab_H) : ∀ (n : Nat) (x1 : Int32) (x2 : Int32), ab_S l mX12_marks (fun y : (Int32 × ab_H) => ((.inl (some (.int y.1)), y.2) : ab_R × ab_H)) 0 0 (fX12_marks_9 F x0 h n x1 x2) 9 [(0, .ref x0), (1, .int x1), (2, .int x2)] [] h := by
  intro n
  induction n with
  | zero =>
    intro x1 x2
    exact ab_none
  | succ n ih =>
    intro x1 x2
    rw [fX12_marks_9]
    refine ab_iload_n (pc := 9) (n := 2) (i := 2) (j := 2) (by decide +kernel) rfl rfl ?_
    refine ab_sipush (pc := 10) (n := 256) (v := nI 256) (by decide +kernel) (by decide) ?_
    refine ab_icmp_ge (off := 35) (pc := 13) (tgt := 48) (by decide +kernel) (by decide) (fun g2 => ?_) (fun g2 => ?_)
    · refine ab_iload_n (pc := 16) (n := 1) (i := 1) (j := 1) (by decide +kernel) rfl rfl ?_
      refine ab_iconst (pc := 17) (n := -1) (v := (-1 : Int32)) (by decide +kernel) rfl ?_
      refine ab_jr (fun k9 : Option (Int32 × ab_H) => ab_S l mX12_marks (fun y : (Int32 × ab_H) => ((.inl (some (.int y.1)), y.2) : ab_R × ab_H)) 0 0 (k9) 32 [(0, .ref x0), (1, .int x1), (2, .int x2)] [] h) ?_ (fun j5 hj5 => ?_)
      · refine ab_aload_n (pc := 32) (n := 0) (i := 0) (j := 0) (by decide +kernel) rfl rfl ?_
        refine ab_iload_n (pc := 33) (n := 2) (i := 2) (j := 2) (by decide +kernel) rfl rfl ?_
        refine ab_callVi (As := [.int x2]) (st := []) (pc := 34) lk_X12_326_12 rfl rfl rfl (by decide) rfl (Nat.le_of_ble_eq_true rfl) (by decide +kernel) (fun y9 e9 => okX12_areUnlike hl (F := F) e9) (fun v3 ev3 => ?_)
        refine ab_if_eq (off := 5) (pc := 37) (tgt := 42) (by decide +kernel) (by decide) (fun g4 => ?_) (fun g4 => ?_)
        · refine ab_iinc (pc := 42) (i := 2) (n := 1) (j := 2) (d := nI 1) (lv' := [(0, .ref x0), (1, .int x1), (2, .int (x2 + nI 1))]) (by decide +kernel) rfl rfl (Nat.le_of_ble_eq_true rfl) rfl rfl ?_
          refine ab_goto (pc := 45) (off := (-36)) (tgt := 9) (by decide +kernel) (by decide) ?_
          exact ih x1 (x2 + nI 1)
        · refine ab_iload_n (pc := 40) (n := 2) (i := 2) (j := 2) (by decide +kernel) rfl rfl ?_
          refine ab_istore_n (pc := 41) (n := 1) (i := 1) (lv' := [(0, .ref x0), (1, .int x2), (2, .int x2)]) (by decide +kernel) rfl (Nat.le_of_ble_eq_true rfl) rfl rfl ?_
          refine ab_iinc (pc := 42) (i := 2) (n := 1) (j := 2) (d := nI 1) (lv' := [(0, .ref x0), (1, .int x2), (2, .int (x2 + nI 1))]) (by decide +kernel) rfl rfl (Nat.le_of_ble_eq_true rfl) rfl rfl ?_
          refine ab_goto (pc := 45) (off := (-36)) (tgt := 9) (by decide +kernel) (by decide) ?_
          exact ih x2 (x2 + nI 1)
      · refine ab_icmp_eq (off := 14) (pc := 18) (tgt := 32) (by decide +kernel) (by decide) (fun g6 => ?_) (fun g6 => ?_)
        · exact hj5
        · refine ab_iload_n (pc := 21) (n := 2) (i := 2) (j := 2) (by decide +kernel) rfl rfl ?_
          refine ab_callSi (As := [.int x2]) (st := []) (pc := 22) lk_X12_242 rfl rfl rfl (by decide) rfl (Nat.le_of_ble_eq_true rfl) (by decide +kernel) (fun y9 e9 => okX12_bits hl (F := F) e9) (fun v7 ev7 => ?_)
          refine ab_iload_n (pc := 25) (n := 1) (i := 1) (j := 1) (by decide +kernel) rfl rfl ?_
          refine ab_callSi (As := [.int x1]) (st := [.int v7]) (pc := 26) lk_X12_242 rfl rfl rfl (by decide) rfl (Nat.le_of_ble_eq_true rfl) (by decide +kernel) (fun y9 e9 => okX12_bits hl (F := F) e9) (fun v8 ev8 => ?_)
          refine ab_icmp_ge (off := 13) (pc := 29) (tgt := 42) (by decide +kernel) (by decide) (fun g9 => ?_) (fun g9 => ?_)
          · exact hj5
          · refine ab_iinc (pc := 42) (i := 2) (n := 1) (j := 2) (d := nI 1) (lv' := [(0, .ref x0), (1, .int x1), (2, .int (x2 + nI 1))]) (by decide +kernel) rfl rfl (Nat.le_of_ble_eq_true rfl) rfl rfl ?_
            refine ab_goto (pc := 45) (off := (-36)) (tgt := 9) (by decide +kernel) (by decide) ?_
            exact ih x1 (x2 + nI 1)
    · refine ab_iload_n (pc := 48) (n := 1) (i := 1) (j := 1) (by decide +kernel) rfl rfl ?_
      exact ab_iret (pc := 49) (by decide +kernel) rfl rfl (Nat.le_of_ble_eq_true rfl) (Nat.le_of_ble_eq_true rfl)
set_option maxRecDepth 100000 in
set_option maxHeartbeats 4000000 in
theorem wX12_marks {l : Launch} (hl : l.stackTraces = false) (F : Nat) (x0 : Nat) (h : ab_H) : ab_S l mX12_marks (fun y : (Int32 × ab_H) => ((.inl (some (.int y.1)), y.2) : ab_R × ab_H)) 0 0 (fX12_marks F x0 h) 0 [(0, .ref x0)] [] h := by
  unfold fX12_marks
  refine ab_aload_n (pc := 0) (n := 0) (i := 0) (j := 0) (by decide +kernel) rfl rfl ?_
  refine ab_iconst (pc := 1) (n := 0) (v := nI 0) (by decide +kernel) rfl ?_
  refine ab_put (pc := 2) fl_X12_50_12 rfl (fun _ => rfl) (fun _ => rfl) (by decide +kernel) (fun h1 eh1 => ?_)
  refine ab_iconst (pc := 5) (n := -1) (v := (-1 : Int32)) (by decide +kernel) rfl ?_
  refine ab_istore_n (pc := 6) (n := 1) (i := 1) (lv' := [(0, .ref x0), (1, .int (-1 : Int32))]) (by decide +kernel) rfl (Nat.le_of_ble_eq_true rfl) rfl rfl ?_
  refine ab_iconst (pc := 7) (n := 0) (v := nI 0) (by decide +kernel) rfl ?_
  refine ab_istore_n (pc := 8) (n := 2) (i := 2) (lv' := [(0, .ref x0), (1, .int (-1 : Int32)), (2, .int (nI 0))]) (by decide +kernel) rfl (Nat.le_of_ble_eq_true rfl) rfl rfl ?_
  refine lX12_marks_9 hl F x0 h1 F (-1 : Int32) (nI 0)
set_option maxRecDepth 100000 in
set_option maxHeartbeats 4000000 in
theorem okX12_marks {l : Launch} (hl : l.stackTraces = false) {F : Nat} {x0 : Nat} {h : ab_H} {y : (Int32 × ab_H)} (e : fX12_marks F x0 h = some y) : ab_Met l mX12_marks [.ref x0] h (.inl (some (.int y.1)), y.2) := ab_ofS (io := (fun y : (Int32 × ab_H) => ((.inl (some (.int y.1)), y.2) : ab_R × ab_H))) (x := y) hl (by decide) rfl (Nat.le_of_ble_eq_true rfl) (wX12_marks hl F x0 h) e
def mX12_unknown : ab_M := (yX12_unknown, cX12_unknown, 4, (some .int), { frames := 1, cells := 0, slots := 0, locals := 22 })
theorem iX12_unknown : ab_MI mX12_unknown 0 := ⟨kw_02cdb523a9, kw_30b3f7d7c6, by decide +kernel⟩
def fX12_unknown_21 (F : Nat) (x0 : Nat) (x2 : Int32) (h : ab_H) (k67 : Int32 → Option (Int32 × ab_H)) : Nat → Int32 → Int32 → Option (Int32 × ab_H)
  | 0, _, _ => none
  | n + 1, x1, x3 => ab_bd (ab_fr h x0 12 1) fun v5 => ab_bd (ab_ia 0 h v5 (nI 3)) fun v6 => (if x3 < v6 then (if x3 = x2 then fX12_unknown_21 F x0 x2 h k67 n (x1 ||| (nI 0)) (x3 + nI 1) else ab_ck (ab_io h x0 12 = true) (ab_bd (fX12_of x0 x3 (nI 1) h) fun v9 => ab_ck (ab_io h x0 12 = true) (ab_bd (fX12_of x0 x2 (nI 1) h) fun v10 => (if v9 = v10 then fX12_unknown_21 F x0 x2 h k67 n (x1 ||| ((nI 1) <<< (x2 &&& 31))) (x3 + nI 1) else fX12_unknown_21 F x0 x2 h k67 n (x1 ||| (nI 0)) (x3 + nI 1))))) else k67 x1)
def fX12_unknown_9 (F : Nat) (x0 : Nat) (h : ab_H) : Nat → Int32 → Int32 → Option (Int32 × ab_H)
  | 0, _, _ => none
  | n + 1, x1, x2 => ab_bd (ab_fr h x0 12 1) fun v2 => ab_bd (ab_ia 0 h v2 (nI 3)) fun v3 => (if x2 < v3 then fX12_unknown_21 F x0 x2 h (fun (z12 : Int32) => fX12_unknown_9 F x0 h n z12 (x2 + nI 1)) F x1 (nI 0) else some (x1, h))
def fX12_unknown (F : Nat) (x0 : Nat) (h : ab_H) : Option (Int32 × ab_H) := ab_bd (ab_fw h x0 12 0 (.int (nI 0))) fun h1 => fX12_unknown_9 F x0 h1 F (nI 0) (nI 0)
set_option maxRecDepth 100000 in
set_option maxHeartbeats 4000000 in
theorem lX12_unknown_21 {l : Launch} (hl : l.stackTraces = false) (F : Nat) (x0 : Nat) (x2 : Int32) (h : ab_H) {k67 : Int32 → Option (Int32 × ab_H)} (hk67 : ∀ (x1 : Int32), ab_S l mX12_unknown (fun y : (Int32 × ab_H) => ((.inl (some (.int y.1)), y.2) : ab_R × ab_H)) 0 0 (k67 x1) 67 [(0, .ref x0), (1, .int x1), (2, .int x2)] [] h) : ∀ (n : Nat) (x1 : Int32) (x3 : Int32), ab_S l mX12_unknown (fun y : (Int32 × ab_H) => ((.inl (some (.int y.1)), y.2) : ab_R × ab_H)) 0 0 (fX12_unknown_21 F x0 x2 h k67 n x1 x3) 21 [(0, .ref x0), (1, .int x1), (2, .int x2), (3, .int x3)] [] h := by
  intro n
  induction n with
  | zero =>
    intro x1 x3
    exact ab_none
  | succ n ih =>
    intro x1 x3
    rw [fX12_unknown_21]
    refine ab_iload_n (pc := 21) (n := 3) (i := 3) (j := 3) (by decide +kernel) rfl rfl ?_
    refine ab_aload_n (pc := 22) (n := 0) (i := 0) (j := 0) (by decide +kernel) rfl rfl ?_
    refine ab_getR (pc := 23) fl_X12_7_12 (by decide +kernel) (fun v5 ev5 => ?_)
    refine ab_iconst (pc := 26) (n := 3) (v := nI 3) (by decide +kernel) rfl ?_
    refine ab_iald (pc := 27) (by decide +kernel) (fun v6 ev6 => ?_)
    refine ab_icmp_ge (off := 39) (pc := 28) (tgt := 67) (by decide +kernel) (by decide) (fun g7 => ?_) (fun g7 => ?_)
    · refine ab_iload_n (pc := 31) (n := 1) (i := 1) (j := 1) (by decide +kernel) rfl rfl ?_
      refine ab_iload_n (pc := 32) (n := 3) (i := 3) (j := 3) (by decide +kernel) rfl rfl ?_
      refine ab_iload_n (pc := 33) (n := 2) (i := 2) (j := 2) (by decide +kernel) rfl rfl ?_
      refine ab_icmp_eq (off := 24) (pc := 34) (tgt := 58) (by decide +kernel) (by decide) (fun g8 => ?_) (fun g8 => ?_)
      · refine ab_iconst (pc := 58) (n := 0) (v := nI 0) (by decide +kernel) rfl ?_
        refine ab_ior (pc := 59) (by decide +kernel) ?_
        refine ab_istore_n (pc := 60) (n := 1) (i := 1) (lv' := [(0, .ref x0), (1, .int (x1 ||| (nI 0))), (2, .int x2), (3, .int x3)]) (by decide +kernel) rfl (Nat.le_of_ble_eq_true rfl) rfl rfl ?_
        refine ab_iinc (pc := 61) (i := 3) (n := 1) (j := 3) (d := nI 1) (lv' := [(0, .ref x0), (1, .int (x1 ||| (nI 0))), (2, .int x2), (3, .int (x3 + nI 1))]) (by decide +kernel) rfl rfl (Nat.le_of_ble_eq_true rfl) rfl rfl ?_
        refine ab_goto (pc := 64) (off := (-43)) (tgt := 21) (by decide +kernel) (by decide) ?_
        exact ih (x1 ||| (nI 0)) (x3 + nI 1)
      · refine ab_aload_n (pc := 37) (n := 0) (i := 0) (j := 0) (by decide +kernel) rfl rfl ?_
        refine ab_iload_n (pc := 38) (n := 3) (i := 3) (j := 3) (by decide +kernel) rfl rfl ?_
        refine ab_iconst (pc := 39) (n := 1) (v := nI 1) (by decide +kernel) rfl ?_
        refine ab_callVi (As := [.int x3, .int (nI 1)]) (st := [.int x1]) (pc := 40) lk_X12_57_12 rfl rfl rfl (by decide) rfl (Nat.le_of_ble_eq_true rfl) (by decide +kernel) (fun y9 e9 => okX12_of hl e9) (fun v9 ev9 => ?_)
        refine ab_aload_n (pc := 43) (n := 0) (i := 0) (j := 0) (by decide +kernel) rfl rfl ?_
        refine ab_iload_n (pc := 44) (n := 2) (i := 2) (j := 2) (by decide +kernel) rfl rfl ?_
        refine ab_iconst (pc := 45) (n := 1) (v := nI 1) (by decide +kernel) rfl ?_
        refine ab_callVi (As := [.int x2, .int (nI 1)]) (st := [.int v9, .int x1]) (pc := 46) lk_X12_57_12 rfl rfl rfl (by decide) rfl (Nat.le_of_ble_eq_true rfl) (by decide +kernel) (fun y9 e9 => okX12_of hl e9) (fun v10 ev10 => ?_)
        refine ab_icmp_ne (off := 9) (pc := 49) (tgt := 58) (by decide +kernel) (by decide) (fun g11 => ?_) (fun g11 => ?_)
        · refine ab_iconst (pc := 52) (n := 1) (v := nI 1) (by decide +kernel) rfl ?_
          refine ab_iload_n (pc := 53) (n := 2) (i := 2) (j := 2) (by decide +kernel) rfl rfl ?_
          refine ab_ishl (pc := 54) (by decide +kernel) ?_
          refine ab_goto (pc := 55) (off := 4) (tgt := 59) (by decide +kernel) (by decide) ?_
          refine ab_ior (pc := 59) (by decide +kernel) ?_
          refine ab_istore_n (pc := 60) (n := 1) (i := 1) (lv' := [(0, .ref x0), (1, .int (x1 ||| ((nI 1) <<< (x2 &&& 31)))), (2, .int x2), (3, .int x3)]) (by decide +kernel) rfl (Nat.le_of_ble_eq_true rfl) rfl rfl ?_
          refine ab_iinc (pc := 61) (i := 3) (n := 1) (j := 3) (d := nI 1) (lv' := [(0, .ref x0), (1, .int (x1 ||| ((nI 1) <<< (x2 &&& 31)))), (2, .int x2), (3, .int (x3 + nI 1))]) (by decide +kernel) rfl rfl (Nat.le_of_ble_eq_true rfl) rfl rfl ?_
          refine ab_goto (pc := 64) (off := (-43)) (tgt := 21) (by decide +kernel) (by decide) ?_
          exact ih (x1 ||| ((nI 1) <<< (x2 &&& 31))) (x3 + nI 1)
        · refine ab_iconst (pc := 58) (n := 0) (v := nI 0) (by decide +kernel) rfl ?_
          refine ab_ior (pc := 59) (by decide +kernel) ?_
          refine ab_istore_n (pc := 60) (n := 1) (i := 1) (lv' := [(0, .ref x0), (1, .int (x1 ||| (nI 0))), (2, .int x2), (3, .int x3)]) (by decide +kernel) rfl (Nat.le_of_ble_eq_true rfl) rfl rfl ?_
          refine ab_iinc (pc := 61) (i := 3) (n := 1) (j := 3) (d := nI 1) (lv' := [(0, .ref x0), (1, .int (x1 ||| (nI 0))), (2, .int x2), (3, .int (x3 + nI 1))]) (by decide +kernel) rfl rfl (Nat.le_of_ble_eq_true rfl) rfl rfl ?_
          refine ab_goto (pc := 64) (off := (-43)) (tgt := 21) (by decide +kernel) (by decide) ?_
          exact ih (x1 ||| (nI 0)) (x3 + nI 1)
    · refine ab_few [0, 1, 2] (lv' := [(0, .ref x0), (1, .int x1), (2, .int x2)]) rfl ?_
      exact hk67 x1
set_option maxRecDepth 100000 in
set_option maxHeartbeats 4000000 in
theorem lX12_unknown_9 {l : Launch} (hl : l.stackTraces = false) (F : Nat) (x0 : Nat) (h : ab_H) : ∀ (n : Nat) (x1 : Int32) (x2 : Int32), ab_S l mX12_unknown (fun y : (Int32 × ab_H) => ((.inl (some (.int y.1)), y.2) : ab_R × ab_H)) 0 0 (fX12_unknown_9 F x0 h n x1 x2) 9 [(0, .ref x0), (1, .int x1), (2, .int x2)] [] h := by
  intro n
  induction n with
  | zero =>
    intro x1 x2
    exact ab_none
  | succ n ih =>
    intro x1 x2
    rw [fX12_unknown_9]
    refine ab_iload_n (pc := 9) (n := 2) (i := 2) (j := 2) (by decide +kernel) rfl rfl ?_
    refine ab_aload_n (pc := 10) (n := 0) (i := 0) (j := 0) (by decide +kernel) rfl rfl ?_
    refine ab_getR (pc := 11) fl_X12_7_12 (by decide +kernel) (fun v2 ev2 => ?_)
    refine ab_iconst (pc := 14) (n := 3) (v := nI 3) (by decide +kernel) rfl ?_
    refine ab_iald (pc := 15) (by decide +kernel) (fun v3 ev3 => ?_)
    refine ab_icmp_ge (off := 57) (pc := 16) (tgt := 73) (by decide +kernel) (by decide) (fun g4 => ?_) (fun g4 => ?_)
    · refine ab_iconst (pc := 19) (n := 0) (v := nI 0) (by decide +kernel) rfl ?_
      refine ab_istore_n (pc := 20) (n := 3) (i := 3) (lv' := [(0, .ref x0), (1, .int x1), (2, .int x2), (3, .int (nI 0))]) (by decide +kernel) rfl (Nat.le_of_ble_eq_true rfl) rfl rfl ?_
      refine lX12_unknown_21 hl F x0 x2 h ?_ F x1 (nI 0)
      intro z12
      refine ab_iinc (pc := 67) (i := 2) (n := 1) (j := 2) (d := nI 1) (lv' := [(0, .ref x0), (1, .int z12), (2, .int (x2 + nI 1))]) (by decide +kernel) rfl rfl (Nat.le_of_ble_eq_true rfl) rfl rfl ?_
      refine ab_goto (pc := 70) (off := (-61)) (tgt := 9) (by decide +kernel) (by decide) ?_
      exact ih z12 (x2 + nI 1)
    · refine ab_iload_n (pc := 73) (n := 1) (i := 1) (j := 1) (by decide +kernel) rfl rfl ?_
      exact ab_iret (pc := 74) (by decide +kernel) rfl rfl (Nat.le_of_ble_eq_true rfl) (Nat.le_of_ble_eq_true rfl)
set_option maxRecDepth 100000 in
set_option maxHeartbeats 4000000 in
theorem wX12_unknown {l : Launch} (hl : l.stackTraces = false) (F : Nat) (x0 : Nat) (h : ab_H) : ab_S l mX12_unknown (fun y : (Int32 × ab_H) => ((.inl (some (.int y.1)), y.2) : ab_R × ab_H)) 0 0 (fX12_unknown F x0 h) 0 [(0, .ref x0)] [] h := by
  unfold fX12_unknown
  refine ab_aload_n (pc := 0) (n := 0) (i := 0) (j := 0) (by decide +kernel) rfl rfl ?_
  refine ab_iconst (pc := 1) (n := 0) (v := nI 0) (by decide +kernel) rfl ?_
  refine ab_put (pc := 2) fl_X12_50_12 rfl (fun _ => rfl) (fun _ => rfl) (by decide +kernel) (fun h1 eh1 => ?_)
  refine ab_iconst (pc := 5) (n := 0) (v := nI 0) (by decide +kernel) rfl ?_
  refine ab_istore_n (pc := 6) (n := 1) (i := 1) (lv' := [(0, .ref x0), (1, .int (nI 0))]) (by decide +kernel) rfl (Nat.le_of_ble_eq_true rfl) rfl rfl ?_
  refine ab_iconst (pc := 7) (n := 0) (v := nI 0) (by decide +kernel) rfl ?_
  refine ab_istore_n (pc := 8) (n := 2) (i := 2) (lv' := [(0, .ref x0), (1, .int (nI 0)), (2, .int (nI 0))]) (by decide +kernel) rfl (Nat.le_of_ble_eq_true rfl) rfl rfl ?_
  refine lX12_unknown_9 hl F x0 h1 F (nI 0) (nI 0)
set_option maxRecDepth 100000 in
set_option maxHeartbeats 4000000 in
theorem okX12_unknown {l : Launch} (hl : l.stackTraces = false) {F : Nat} {x0 : Nat} {h : ab_H} {y : (Int32 × ab_H)} (e : fX12_unknown F x0 h = some y) : ab_Met l mX12_unknown [.ref x0] h (.inl (some (.int y.1)), y.2) := ab_ofS (io := (fun y : (Int32 × ab_H) => ((.inl (some (.int y.1)), y.2) : ab_R × ab_H))) (x := y) hl (by decide) rfl (Nat.le_of_ble_eq_true rfl) (wX12_unknown hl F x0 h) e
def mX12_passes : ab_M := (yX12_passes, cX12_passes, 5, (some .int), { frames := 1, cells := 0, slots := 0, locals := 22 })
theorem iX12_passes : ab_MI mX12_passes 2 := ⟨kw_f1171cc758, kw_30b3f7d7c6, by decide +kernel⟩
def fX12_passes_44 (F : Nat) (x0 : Nat) (x1 : Int32) (x2 : Int32) (h : ab_H) : Nat → Int32 → Int32 → Option (Int32 × ab_H)
  | 0, _, _ => none
  | n + 1, x3, x4 => ab_bd (ab_fr h x0 12 1) fun v6 => ab_bd (ab_ia 0 h v6 (nI 3)) fun v7 => (if x4 < v7 then ab_ck (ab_io h x0 12 = true) (ab_bd (fX12_of x0 x4 (nI 0) h) fun v9 => ab_bd (fX12_bits F (v9 ^^^ x1) h) fun v10 => (if v10 ≤ x2 then fX12_passes_44 F x0 x1 x2 h n (x3 ||| ((nI 1) <<< (x4 &&& 31))) (x4 + nI 1) else fX12_passes_44 F x0 x1 x2 h n (x3 ||| (nI 0)) (x4 + nI 1))) else some (x3, h))
def fX12_passes (F : Nat) (x0 : Nat) (x1 : Int32) (x2 : Int32) (h : ab_H) : Option (Int32 × ab_H) := ab_bd (fX12_isIn x1 (nI 0) (nI 255) h) fun v1 => ab_jn (κ := Int32 → Option (Int32 × ab_H)) (fun (z2 : Int32) => ab_bd (ab_fw h x0 12 0 (.int z2)) fun h3 => ab_bd (ab_fi h3 x0 12 0) fun v4 => (if v4 ≤ 0 then fX12_passes_44 F x0 x1 x2 h3 F (nI 0) (nI 0) else some (nI 0, h3))) fun j12 => ab_jn (κ := Option (Int32 × ab_H)) (j12 (nI 1)) fun j13 => (if v1 = 0 then j13 else ab_bd (fX12_isIn x2 (nI 0) (nI 8) h) fun v15 => (if v15 = 0 then j13 else j12 (nI 0)))
set_option maxRecDepth 100000 in
set_option maxHeartbeats 4000000 in
theorem lX12_passes_44 {l : Launch} (hl : l.stackTraces = false) (F : Nat) (x0 : Nat) (x1 : Int32) (x2 : Int32) (h : ab_H) : ∀ (n : Nat) (x3 : Int32) (x4 : Int32), ab_S l mX12_passes (fun y : (Int32 × ab_H) => ((.inl (some (.int y.1)), y.2) : ab_R × ab_H)) 0 0 (fX12_passes_44 F x0 x1 x2 h n x3 x4) 44 [(0, .ref x0), (1, .int x1), (2, .int x2), (3, .int x3), (4, .int x4)] [] h := by
  intro n
  induction n with
  | zero =>
    intro x3 x4
    exact ab_none
  | succ n ih =>
    intro x3 x4
    rw [fX12_passes_44]
    refine ab_iload (pc := 44) (i := 4) (j := 4) (by decide +kernel) rfl ?_
    refine ab_aload_n (pc := 46) (n := 0) (i := 0) (j := 0) (by decide +kernel) rfl rfl ?_
    refine ab_getR (pc := 47) fl_X12_7_12 (by decide +kernel) (fun v6 ev6 => ?_)
    refine ab_iconst (pc := 50) (n := 3) (v := nI 3) (by decide +kernel) rfl ?_
    refine ab_iald (pc := 51) (by decide +kernel) (fun v7 ev7 => ?_)
    refine ab_icmp_ge (off := 36) (pc := 52) (tgt := 88) (by decide +kernel) (by decide) (fun g8 => ?_) (fun g8 => ?_)
    · refine ab_iload_n (pc := 55) (n := 3) (i := 3) (j := 3) (by decide +kernel) rfl rfl ?_
      refine ab_aload_n (pc := 56) (n := 0) (i := 0) (j := 0) (by decide +kernel) rfl rfl ?_
      refine ab_iload (pc := 57) (i := 4) (j := 4) (by decide +kernel) rfl ?_
      refine ab_iconst (pc := 59) (n := 0) (v := nI 0) (by decide +kernel) rfl ?_
      refine ab_callVi (As := [.int x4, .int (nI 0)]) (st := [.int x3]) (pc := 60) lk_X12_57_12 rfl rfl rfl (by decide) rfl (Nat.le_of_ble_eq_true rfl) (by decide +kernel) (fun y9 e9 => okX12_of hl e9) (fun v9 ev9 => ?_)
      refine ab_iload_n (pc := 63) (n := 1) (i := 1) (j := 1) (by decide +kernel) rfl rfl ?_
      refine ab_ixor (pc := 64) (by decide +kernel) ?_
      refine ab_callSi (As := [.int (v9 ^^^ x1)]) (st := [.int x3]) (pc := 65) lk_X12_242 rfl rfl rfl (by decide) rfl (Nat.le_of_ble_eq_true rfl) (by decide +kernel) (fun y9 e9 => okX12_bits hl (F := F) e9) (fun v10 ev10 => ?_)
      refine ab_iload_n (pc := 68) (n := 2) (i := 2) (j := 2) (by decide +kernel) rfl rfl ?_
      refine ab_icmp_gt (off := 10) (pc := 69) (tgt := 79) (by decide +kernel) (by decide) (fun g11 => ?_) (fun g11 => ?_)
      · refine ab_iconst (pc := 72) (n := 1) (v := nI 1) (by decide +kernel) rfl ?_
        refine ab_iload (pc := 73) (i := 4) (j := 4) (by decide +kernel) rfl ?_
        refine ab_ishl (pc := 75) (by decide +kernel) ?_
        refine ab_goto (pc := 76) (off := 4) (tgt := 80) (by decide +kernel) (by decide) ?_
        refine ab_ior (pc := 80) (by decide +kernel) ?_
        refine ab_istore_n (pc := 81) (n := 3) (i := 3) (lv' := [(0, .ref x0), (1, .int x1), (2, .int x2), (3, .int (x3 ||| ((nI 1) <<< (x4 &&& 31)))), (4, .int x4)]) (by decide +kernel) rfl (Nat.le_of_ble_eq_true rfl) rfl rfl ?_
        refine ab_iinc (pc := 82) (i := 4) (n := 1) (j := 4) (d := nI 1) (lv' := [(0, .ref x0), (1, .int x1), (2, .int x2), (3, .int (x3 ||| ((nI 1) <<< (x4 &&& 31)))), (4, .int (x4 + nI 1))]) (by decide +kernel) rfl rfl (Nat.le_of_ble_eq_true rfl) rfl rfl ?_
        refine ab_goto (pc := 85) (off := (-41)) (tgt := 44) (by decide +kernel) (by decide) ?_
        exact ih (x3 ||| ((nI 1) <<< (x4 &&& 31))) (x4 + nI 1)
      · refine ab_iconst (pc := 79) (n := 0) (v := nI 0) (by decide +kernel) rfl ?_
        refine ab_ior (pc := 80) (by decide +kernel) ?_
        refine ab_istore_n (pc := 81) (n := 3) (i := 3) (lv' := [(0, .ref x0), (1, .int x1), (2, .int x2), (3, .int (x3 ||| (nI 0))), (4, .int x4)]) (by decide +kernel) rfl (Nat.le_of_ble_eq_true rfl) rfl rfl ?_
        refine ab_iinc (pc := 82) (i := 4) (n := 1) (j := 4) (d := nI 1) (lv' := [(0, .ref x0), (1, .int x1), (2, .int x2), (3, .int (x3 ||| (nI 0))), (4, .int (x4 + nI 1))]) (by decide +kernel) rfl rfl (Nat.le_of_ble_eq_true rfl) rfl rfl ?_
        refine ab_goto (pc := 85) (off := (-41)) (tgt := 44) (by decide +kernel) (by decide) ?_
        exact ih (x3 ||| (nI 0)) (x4 + nI 1)
    · refine ab_iload_n (pc := 88) (n := 3) (i := 3) (j := 3) (by decide +kernel) rfl rfl ?_
      exact ab_iret (pc := 89) (by decide +kernel) rfl rfl (Nat.le_of_ble_eq_true rfl) (Nat.le_of_ble_eq_true rfl)
set_option maxRecDepth 100000 in
set_option maxHeartbeats 4000000 in
theorem wX12_passes {l : Launch} (hl : l.stackTraces = false) (F : Nat) (x0 : Nat) (x1 : Int32) (x2 : Int32) (h : ab_H) : ab_S l mX12_passes (fun y : (Int32 × ab_H) => ((.inl (some (.int y.1)), y.2) : ab_R × ab_H)) 0 0 (fX12_passes F x0 x1 x2 h) 0 [(0, .ref x0), (1, .int x1), (2, .int x2)] [] h := by
  unfold fX12_passes
  refine ab_aload_n (pc := 0) (n := 0) (i := 0) (j := 0) (by decide +kernel) rfl rfl ?_
  refine ab_iload_n (pc := 1) (n := 1) (i := 1) (j := 1) (by decide +kernel) rfl rfl ?_
  refine ab_iconst (pc := 2) (n := 0) (v := nI 0) (by decide +kernel) rfl ?_
  refine ab_sipush (pc := 3) (n := 255) (v := nI 255) (by decide +kernel) (by decide) ?_
  refine ab_callSi (As := [.int x1, .int (nI 0), .int (nI 255)]) (st := [.ref x0]) (pc := 6) lk_X12_53 rfl rfl rfl (by decide) rfl (Nat.le_of_ble_eq_true rfl) (by decide +kernel) (fun y9 e9 => okX12_isIn hl e9) (fun v1 ev1 => ?_)
  refine ab_jr (fun k9 : Int32 → Option (Int32 × ab_H) => ∀ (z2 : Int32), ab_S l mX12_passes (fun y : (Int32 × ab_H) => ((.inl (some (.int y.1)), y.2) : ab_R × ab_H)) 0 0 (k9 z2) 27 [(0, .ref x0), (1, .int x1), (2, .int x2)] [.int z2, .ref x0] h) ?_ (fun j12 hj12 => ?_)
  · intro z2
    refine ab_put (pc := 27) fl_X12_50_12 rfl (fun _ => rfl) (fun _ => rfl) (by decide +kernel) (fun h3 eh3 => ?_)
    refine ab_aload_n (pc := 30) (n := 0) (i := 0) (j := 0) (by decide +kernel) rfl rfl ?_
    refine ab_getI (pc := 31) fl_X12_50_12 (by decide +kernel) (fun v4 ev4 => ?_)
    refine ab_if_le (off := 5) (pc := 34) (tgt := 39) (by decide +kernel) (by decide) (fun g5 => ?_) (fun g5 => ?_)
    · refine ab_iconst (pc := 39) (n := 0) (v := nI 0) (by decide +kernel) rfl ?_
      refine ab_istore_n (pc := 40) (n := 3) (i := 3) (lv' := [(0, .ref x0), (1, .int x1), (2, .int x2), (3, .int (nI 0))]) (by decide +kernel) rfl (Nat.le_of_ble_eq_true rfl) rfl rfl ?_
      refine ab_iconst (pc := 41) (n := 0) (v := nI 0) (by decide +kernel) rfl ?_
      refine ab_istore (pc := 42) (i := 4) (lv' := [(0, .ref x0), (1, .int x1), (2, .int x2), (3, .int (nI 0)), (4, .int (nI 0))]) (by decide +kernel) (Nat.le_of_ble_eq_true rfl) rfl rfl ?_
      refine lX12_passes_44 hl F x0 x1 x2 h3 F (nI 0) (nI 0)
    · refine ab_iconst (pc := 37) (n := 0) (v := nI 0) (by decide +kernel) rfl ?_
      exact ab_iret (pc := 38) (by decide +kernel) rfl rfl (Nat.le_of_ble_eq_true rfl) (Nat.le_of_ble_eq_true rfl)
  · refine ab_jr (fun k9 : Option (Int32 × ab_H) => ab_S l mX12_passes (fun y : (Int32 × ab_H) => ((.inl (some (.int y.1)), y.2) : ab_R × ab_H)) 0 0 (k9) 22 [(0, .ref x0), (1, .int x1), (2, .int x2)] [.ref x0] h) ?_ (fun j13 hj13 => ?_)
    · refine ab_iconst (pc := 22) (n := 1) (v := nI 1) (by decide +kernel) rfl ?_
      refine ab_goto (pc := 23) (off := 4) (tgt := 27) (by decide +kernel) (by decide) ?_
      exact hj12 (nI 1)
    · refine ab_if_eq (off := 13) (pc := 9) (tgt := 22) (by decide +kernel) (by decide) (fun g14 => ?_) (fun g14 => ?_)
      · exact hj13
      · refine ab_iload_n (pc := 12) (n := 2) (i := 2) (j := 2) (by decide +kernel) rfl rfl ?_
        refine ab_iconst (pc := 13) (n := 0) (v := nI 0) (by decide +kernel) rfl ?_
        refine ab_bipush (pc := 14) (n := 8) (v := nI 8) (by decide +kernel) (by decide) ?_
        refine ab_callSi (As := [.int x2, .int (nI 0), .int (nI 8)]) (st := [.ref x0]) (pc := 16) lk_X12_53 rfl rfl rfl (by decide) rfl (Nat.le_of_ble_eq_true rfl) (by decide +kernel) (fun y9 e9 => okX12_isIn hl e9) (fun v15 ev15 => ?_)
        refine ab_if_ne (off := 7) (pc := 19) (tgt := 26) (by decide +kernel) (by decide) (fun g16 => ?_) (fun g16 => ?_)
        · exact hj13
        · refine ab_iconst (pc := 26) (n := 0) (v := nI 0) (by decide +kernel) rfl ?_
          exact hj12 (nI 0)
set_option maxRecDepth 100000 in
set_option maxHeartbeats 4000000 in
theorem okX12_passes {l : Launch} (hl : l.stackTraces = false) {F : Nat} {x0 : Nat} {x1 : Int32} {x2 : Int32} {h : ab_H} {y : (Int32 × ab_H)} (e : fX12_passes F x0 x1 x2 h = some y) : ab_Met l mX12_passes [.ref x0, .int x1, .int x2] h (.inl (some (.int y.1)), y.2) := ab_ofS (io := (fun y : (Int32 × ab_H) => ((.inl (some (.int y.1)), y.2) : ab_R × ab_H))) (x := y) hl (by decide) rfl (Nat.le_of_ble_eq_true rfl) (wX12_passes hl F x0 x1 x2 h) e
def mX12_pointsTo : ab_M := (yX12_pointsTo, cX12_pointsTo, 5, (some .int), { frames := 1, cells := 0, slots := 0, locals := 23 })
theorem iX12_pointsTo : ab_MI mX12_pointsTo 2 := ⟨kw_96c33c6dee, kw_30b3f7d7c6, by decide +kernel⟩
theorem lk_X12_329_12 : ab_LV RX12 329 12 mX12_dear 2 := ⟨RX12, rfl, iX12_dear, kw_c7e2ae02fc, kw_045aea2a15, kw_9047945b66⟩
def fX12_pointsTo_5 (F : Nat) (x0 : Nat) (x1 : Int32) (x2 : Int32) (h : ab_H) : Nat → Int32 → Int32 → Option Int32
  | 0, _, _ => none
  | n + 1, x3, x4 => ab_bd (ab_fr h x0 12 1) fun v1 => ab_bd (ab_ia 0 h v1 (nI 3)) fun v2 => (if x4 < v2 then ab_bd (fX12_isOf x2 x4 h) fun v4 => (if v4 = 0 then fX12_pointsTo_5 F x0 x1 x2 h n x3 (x4 + nI 1) else (if x3 = (-1 : Int32) then fX12_pointsTo_5 F x0 x1 x2 h n x4 (x4 + nI 1) else ab_ck (ab_io h x0 12 = true) (ab_bd (fX12_of x0 x4 (nI 2) h) fun v7 => ab_ck (ab_io h x0 12 = true) (ab_bd (fX12_dear F x0 x1 v7 h) fun v8 => ab_ck (ab_io h x0 12 = true) (ab_bd (fX12_of x0 x3 (nI 2) h) fun v9 => ab_ck (ab_io h x0 12 = true) (ab_bd (fX12_dear F x0 x1 v9 h) fun v10 => (if v8 < v10 then fX12_pointsTo_5 F x0 x1 x2 h n x4 (x4 + nI 1) else fX12_pointsTo_5 F x0 x1 x2 h n x3 (x4 + nI 1)))))))) else some x3)
def fX12_pointsTo (F : Nat) (x0 : Nat) (x1 : Int32) (x2 : Int32) (h : ab_H) : Option Int32 := fX12_pointsTo_5 F x0 x1 x2 h F (-1 : Int32) (nI 0)
set_option maxRecDepth 100000 in
set_option maxHeartbeats 4000000 in
theorem lX12_pointsTo_5 {l : Launch} (hl : l.stackTraces = false) (F : Nat) (x0 : Nat) (x1 : Int32) (x2 : Int32) (h : ab_H) : ∀ (n : Nat) (x3 : Int32) (x4 : Int32), ab_S l mX12_pointsTo (fun y : Int32 => ((.inl (some (.int y)), h) : ab_R × ab_H)) 0 0 (fX12_pointsTo_5 F x0 x1 x2 h n x3 x4) 5 [(0, .ref x0), (1, .int x1), (2, .int x2), (3, .int x3), (4, .int x4)] [] h := by
  intro n
  induction n with
  | zero =>
    intro x3 x4
    exact ab_none
  | succ n ih =>
    intro x3 x4
    rw [fX12_pointsTo_5]
    refine ab_iload (pc := 5) (i := 4) (j := 4) (by decide +kernel) rfl ?_
    refine ab_aload_n (pc := 7) (n := 0) (i := 0) (j := 0) (by decide +kernel) rfl rfl ?_
    refine ab_getR (pc := 8) fl_X12_7_12 (by decide +kernel) (fun v1 ev1 => ?_)
    refine ab_iconst (pc := 11) (n := 3) (v := nI 3) (by decide +kernel) rfl ?_
    refine ab_iald (pc := 12) (by decide +kernel) (fun v2 ev2 => ?_)
    refine ab_icmp_ge (off := 52) (pc := 13) (tgt := 65) (by decide +kernel) (by decide) (fun g3 => ?_) (fun g3 => ?_)
    · refine ab_iload_n (pc := 16) (n := 2) (i := 2) (j := 2) (by decide +kernel) rfl rfl ?_
      refine ab_iload (pc := 17) (i := 4) (j := 4) (by decide +kernel) rfl ?_
      refine ab_callSi (As := [.int x2, .int x4]) (st := []) (pc := 19) lk_X12_107 rfl rfl rfl (by decide) rfl (Nat.le_of_ble_eq_true rfl) (by decide +kernel) (fun y9 e9 => okX12_isOf hl e9) (fun v4 ev4 => ?_)
      refine ab_if_eq (off := 37) (pc := 22) (tgt := 59) (by decide +kernel) (by decide) (fun g5 => ?_) (fun g5 => ?_)
      · refine ab_iinc (pc := 59) (i := 4) (n := 1) (j := 4) (d := nI 1) (lv' := [(0, .ref x0), (1, .int x1), (2, .int x2), (3, .int x3), (4, .int (x4 + nI 1))]) (by decide +kernel) rfl rfl (Nat.le_of_ble_eq_true rfl) rfl rfl ?_
        refine ab_goto (pc := 62) (off := (-57)) (tgt := 5) (by decide +kernel) (by decide) ?_
        exact ih x3 (x4 + nI 1)
      · refine ab_iload_n (pc := 25) (n := 3) (i := 3) (j := 3) (by decide +kernel) rfl rfl ?_
        refine ab_iconst (pc := 26) (n := -1) (v := (-1 : Int32)) (by decide +kernel) rfl ?_
        refine ab_icmp_eq (off := 29) (pc := 27) (tgt := 56) (by decide +kernel) (by decide) (fun g6 => ?_) (fun g6 => ?_)
        · refine ab_iload (pc := 56) (i := 4) (j := 4) (by decide +kernel) rfl ?_
          refine ab_istore_n (pc := 58) (n := 3) (i := 3) (lv' := [(0, .ref x0), (1, .int x1), (2, .int x2), (3, .int x4), (4, .int x4)]) (by decide +kernel) rfl (Nat.le_of_ble_eq_true rfl) rfl rfl ?_
          refine ab_iinc (pc := 59) (i := 4) (n := 1) (j := 4) (d := nI 1) (lv' := [(0, .ref x0), (1, .int x1), (2, .int x2), (3, .int x4), (4, .int (x4 + nI 1))]) (by decide +kernel) rfl rfl (Nat.le_of_ble_eq_true rfl) rfl rfl ?_
          refine ab_goto (pc := 62) (off := (-57)) (tgt := 5) (by decide +kernel) (by decide) ?_
          exact ih x4 (x4 + nI 1)
        · refine ab_aload_n (pc := 30) (n := 0) (i := 0) (j := 0) (by decide +kernel) rfl rfl ?_
          refine ab_iload_n (pc := 31) (n := 1) (i := 1) (j := 1) (by decide +kernel) rfl rfl ?_
          refine ab_aload_n (pc := 32) (n := 0) (i := 0) (j := 0) (by decide +kernel) rfl rfl ?_
          refine ab_iload (pc := 33) (i := 4) (j := 4) (by decide +kernel) rfl ?_
          refine ab_iconst (pc := 35) (n := 2) (v := nI 2) (by decide +kernel) rfl ?_
          refine ab_callVi (As := [.int x4, .int (nI 2)]) (st := [.int x1, .ref x0]) (pc := 36) lk_X12_57_12 rfl rfl rfl (by decide) rfl (Nat.le_of_ble_eq_true rfl) (by decide +kernel) (fun y9 e9 => okX12_of hl e9) (fun v7 ev7 => ?_)
          refine ab_callVi (As := [.int x1, .int v7]) (st := []) (pc := 39) lk_X12_329_12 rfl rfl rfl (by decide) rfl (Nat.le_of_ble_eq_true rfl) (by decide +kernel) (fun y9 e9 => okX12_dear hl (F := F) e9) (fun v8 ev8 => ?_)
          refine ab_aload_n (pc := 42) (n := 0) (i := 0) (j := 0) (by decide +kernel) rfl rfl ?_
          refine ab_iload_n (pc := 43) (n := 1) (i := 1) (j := 1) (by decide +kernel) rfl rfl ?_
          refine ab_aload_n (pc := 44) (n := 0) (i := 0) (j := 0) (by decide +kernel) rfl rfl ?_
          refine ab_iload_n (pc := 45) (n := 3) (i := 3) (j := 3) (by decide +kernel) rfl rfl ?_
          refine ab_iconst (pc := 46) (n := 2) (v := nI 2) (by decide +kernel) rfl ?_
          refine ab_callVi (As := [.int x3, .int (nI 2)]) (st := [.int x1, .ref x0, .int v8]) (pc := 47) lk_X12_57_12 rfl rfl rfl (by decide) rfl (Nat.le_of_ble_eq_true rfl) (by decide +kernel) (fun y9 e9 => okX12_of hl e9) (fun v9 ev9 => ?_)
          refine ab_callVi (As := [.int x1, .int v9]) (st := [.int v8]) (pc := 50) lk_X12_329_12 rfl rfl rfl (by decide) rfl (Nat.le_of_ble_eq_true rfl) (by decide +kernel) (fun y9 e9 => okX12_dear hl (F := F) e9) (fun v10 ev10 => ?_)
          refine ab_icmp_ge (off := 6) (pc := 53) (tgt := 59) (by decide +kernel) (by decide) (fun g11 => ?_) (fun g11 => ?_)
          · refine ab_iload (pc := 56) (i := 4) (j := 4) (by decide +kernel) rfl ?_
            refine ab_istore_n (pc := 58) (n := 3) (i := 3) (lv' := [(0, .ref x0), (1, .int x1), (2, .int x2), (3, .int x4), (4, .int x4)]) (by decide +kernel) rfl (Nat.le_of_ble_eq_true rfl) rfl rfl ?_
            refine ab_iinc (pc := 59) (i := 4) (n := 1) (j := 4) (d := nI 1) (lv' := [(0, .ref x0), (1, .int x1), (2, .int x2), (3, .int x4), (4, .int (x4 + nI 1))]) (by decide +kernel) rfl rfl (Nat.le_of_ble_eq_true rfl) rfl rfl ?_
            refine ab_goto (pc := 62) (off := (-57)) (tgt := 5) (by decide +kernel) (by decide) ?_
            exact ih x4 (x4 + nI 1)
          · refine ab_iinc (pc := 59) (i := 4) (n := 1) (j := 4) (d := nI 1) (lv' := [(0, .ref x0), (1, .int x1), (2, .int x2), (3, .int x3), (4, .int (x4 + nI 1))]) (by decide +kernel) rfl rfl (Nat.le_of_ble_eq_true rfl) rfl rfl ?_
            refine ab_goto (pc := 62) (off := (-57)) (tgt := 5) (by decide +kernel) (by decide) ?_
            exact ih x3 (x4 + nI 1)
    · refine ab_iload_n (pc := 65) (n := 3) (i := 3) (j := 3) (by decide +kernel) rfl rfl ?_
      exact ab_iret (pc := 66) (by decide +kernel) rfl rfl (Nat.le_of_ble_eq_true rfl) (Nat.le_of_ble_eq_true rfl)
set_option maxRecDepth 100000 in
set_option maxHeartbeats 4000000 in
theorem wX12_pointsTo {l : Launch} (hl : l.stackTraces = false) (F : Nat) (x0 : Nat) (x1 : Int32) (x2 : Int32) (h : ab_H) : ab_S l mX12_pointsTo (fun y : Int32 => ((.inl (some (.int y)), h) : ab_R × ab_H)) 0 0 (fX12_pointsTo F x0 x1 x2 h) 0 [(0, .ref x0), (1, .int x1), (2, .int x2)] [] h := by
  unfold fX12_pointsTo
  refine ab_iconst (pc := 0) (n := -1) (v := (-1 : Int32)) (by decide +kernel) rfl ?_
  refine ab_istore_n (pc := 1) (n := 3) (i := 3) (lv' := [(0, .ref x0), (1, .int x1), (2, .int x2), (3, .int (-1 : Int32))]) (by decide +kernel) rfl (Nat.le_of_ble_eq_true rfl) rfl rfl ?_
  refine ab_iconst (pc := 2) (n := 0) (v := nI 0) (by decide +kernel) rfl ?_
  refine ab_istore (pc := 3) (i := 4) (lv' := [(0, .ref x0), (1, .int x1), (2, .int x2), (3, .int (-1 : Int32)), (4, .int (nI 0))]) (by decide +kernel) (Nat.le_of_ble_eq_true rfl) rfl rfl ?_
  refine lX12_pointsTo_5 hl F x0 x1 x2 h F (-1 : Int32) (nI 0)
set_option maxRecDepth 100000 in
set_option maxHeartbeats 4000000 in
theorem okX12_pointsTo {l : Launch} (hl : l.stackTraces = false) {F : Nat} {x0 : Nat} {x1 : Int32} {x2 : Int32} {h : ab_H} {y : Int32} (e : fX12_pointsTo F x0 x1 x2 h = some y) : ab_Met l mX12_pointsTo [.ref x0, .int x1, .int x2] h (.inl (some (.int y)), h) := ab_ofS (io := (fun y : Int32 => ((.inl (some (.int y)), h) : ab_R × ab_H))) (x := y) hl (by decide) rfl (Nat.le_of_ble_eq_true rfl) (wX12_pointsTo hl F x0 x1 x2 h) e
def mX12_trades : ab_M := (yX12_trades, cX12_trades, 5, none, { frames := 2, cells := 0, slots := 0, locals := 47 })
theorem iX12_trades : ab_MI mX12_trades 0 := ⟨kw_7cba3a19c5, kw_30b3f7d7c6, by decide +kernel⟩
theorem lk_X12_332_12 : ab_LV RX12 332 12 mX12_pointsTo 2 := ⟨RX12, rfl, iX12_pointsTo, kw_26b13b1227, kw_3ed6c678c6, kw_f530eb0464⟩
def fX12_trades_4 (F : Nat) (x0 : Nat) (k47 : Int32 → ab_H → Option ab_H) : Nat → Int32 → Int32 → ab_H → Option ab_H
  | 0, _, _, _ => none
  | n + 1, x1, x2, h => ab_bd (ab_fr h x0 12 1) fun v1 => ab_bd (ab_ia 0 h v1 (nI 3)) fun v2 => (if x2 < v2 then ab_bd (ab_fr h x0 12 23) fun v4 => ab_bd (ab_iw 0 h v4 x2 (-1 : Int32)) fun h5 => ab_ck (ab_io h5 x0 12 = true) (ab_bd (fX12_of x0 x2 (nI 2) h5) fun v6 => (if v6 = (-1 : Int32) then fX12_trades_4 F x0 k47 n (x1 ||| (nI 0)) (x2 + nI 1) h5 else fX12_trades_4 F x0 k47 n (x1 ||| ((nI 1) <<< (x2 &&& 31))) (x2 + nI 1) h5)) else k47 x1 h)
def fX12_trades_53 (F : Nat) (x0 : Nat) (x1 : Int32) (h : ab_H) (k67 : Int32 → Option ab_H) : Nat → Int32 → Option ab_H
  | 0, _ => none
  | n + 1, x2 => ab_bd (fX12_isOf x1 x2 h) fun v11 => (if v11 = 0 then fX12_trades_53 F x0 x1 h k67 n (x2 + nI 1) else k67 x2)
def fX12_trades_69 (F : Nat) (x0 : Nat) (x1 : Int32) (h : ab_H) (k88 : Int32 → Option ab_H) : Nat → Int32 → Int32 → Option ab_H
  | 0, _, _ => none
  | n + 1, x2, x3 => (if x3 < (nI 10) then ab_ck (ab_io h x0 12 = true) (ab_bd (fX12_pointsTo F x0 x2 x1 h) fun v15 => fX12_trades_69 F x0 x1 h k88 n v15 (x3 + nI 1)) else k88 x2)
def fX12_trades_93 (F : Nat) (x0 : Nat) (x1 : Int32) (k137 : Int32 → ab_H → Option ab_H) : Nat → Int32 → Int32 → ab_H → Option ab_H
  | 0, _, _, _ => none
  | n + 1, x2, x4, h => ab_bd (fX12_isOf x4 x2 h) fun v17 => (if v17 = 0 then ab_bd (ab_fr h x0 12 23) fun v19 => ab_ck (ab_io h x0 12 = true) (ab_bd (fX12_pointsTo F x0 x2 x1 h) fun v20 => ab_ck (ab_io h x0 12 = true) (ab_bd (fX12_of x0 v20 (nI 2) h) fun v21 => ab_bd (ab_iw 0 h v19 x2 v21) fun h22 => ab_ck (ab_io h22 x0 12 = true) (ab_bd (fX12_pointsTo F x0 x2 x1 h22) fun v23 => fX12_trades_93 F x0 x1 k137 n v23 (x4 ||| ((nI 1) <<< (x2 &&& 31))) h22))) else k137 x4 h)
def fX12_trades_47 (F : Nat) (x0 : Nat) : Nat → Int32 → ab_H → Option ab_H
  | 0, _, _ => none
  | n + 1, x1, h => (if x1 = 0 then some h else fX12_trades_53 F x0 x1 h (fun (z13 : Int32) => fX12_trades_69 F x0 x1 h (fun (z16 : Int32) => fX12_trades_93 F x0 x1 (fun (z24 : Int32) (h25 : ab_H) => fX12_trades_47 F x0 n (x1 &&& (z24 ^^^ (-1 : Int32))) h25) F z16 (nI 0) h) F z13 (nI 0)) F (nI 0))
def fX12_trades (F : Nat) (x0 : Nat) (h : ab_H) : Option ab_H := fX12_trades_4 F x0 (fun (z8 : Int32) (h9 : ab_H) => fX12_trades_47 F x0 F z8 h9) F (nI 0) (nI 0) h
set_option maxRecDepth 100000 in
set_option maxHeartbeats 4000000 in
theorem lX12_trades_4 {l : Launch} (hl : l.stackTraces = false) (F : Nat) (x0 : Nat) {k47 : Int32 → ab_H → Option ab_H} (hk47 : ∀ (x1 : Int32), ∀ (h : ab_H), ab_S l mX12_trades (fun y : ab_H => ((.inl none, y) : ab_R × ab_H)) 0 0 (k47 x1 h) 47 [(0, .ref x0), (1, .int x1)] [] h) : ∀ (n : Nat) (x1 : Int32) (x2 : Int32) (h : ab_H), ab_S l mX12_trades (fun y : ab_H => ((.inl none, y) : ab_R × ab_H)) 0 0 (fX12_trades_4 F x0 k47 n x1 x2 h) 4 [(0, .ref x0), (1, .int x1), (2, .int x2)] [] h := by
  intro n
  induction n with
  | zero =>
    intro x1 x2 h
    exact ab_none
  | succ n ih =>
    intro x1 x2 h
    rw [fX12_trades_4]
    refine ab_iload_n (pc := 4) (n := 2) (i := 2) (j := 2) (by decide +kernel) rfl rfl ?_
    refine ab_aload_n (pc := 5) (n := 0) (i := 0) (j := 0) (by decide +kernel) rfl rfl ?_
    refine ab_getR (pc := 6) fl_X12_7_12 (by decide +kernel) (fun v1 ev1 => ?_)
    refine ab_iconst (pc := 9) (n := 3) (v := nI 3) (by decide +kernel) rfl ?_
    refine ab_iald (pc := 10) (by decide +kernel) (fun v2 ev2 => ?_)
    refine ab_icmp_ge (off := 36) (pc := 11) (tgt := 47) (by decide +kernel) (by decide) (fun g3 => ?_) (fun g3 => ?_)
    · refine ab_aload_n (pc := 14) (n := 0) (i := 0) (j := 0) (by decide +kernel) rfl rfl ?_
      refine ab_getR (pc := 15) fl_X12_41_12 (by decide +kernel) (fun v4 ev4 => ?_)
      refine ab_iload_n (pc := 18) (n := 2) (i := 2) (j := 2) (by decide +kernel) rfl rfl ?_
      refine ab_iconst (pc := 19) (n := -1) (v := (-1 : Int32)) (by decide +kernel) rfl ?_
      refine ab_iast (pc := 20) (by decide +kernel) (fun h5 eh5 => ?_)
      refine ab_iload_n (pc := 21) (n := 1) (i := 1) (j := 1) (by decide +kernel) rfl rfl ?_
      refine ab_aload_n (pc := 22) (n := 0) (i := 0) (j := 0) (by decide +kernel) rfl rfl ?_
      refine ab_iload_n (pc := 23) (n := 2) (i := 2) (j := 2) (by decide +kernel) rfl rfl ?_
      refine ab_iconst (pc := 24) (n := 2) (v := nI 2) (by decide +kernel) rfl ?_
      refine ab_callVi (As := [.int x2, .int (nI 2)]) (st := [.int x1]) (pc := 25) lk_X12_57_12 rfl rfl rfl (by decide) rfl (Nat.le_of_ble_eq_true rfl) (by decide +kernel) (fun y9 e9 => okX12_of hl e9) (fun v6 ev6 => ?_)
      refine ab_iconst (pc := 28) (n := -1) (v := (-1 : Int32)) (by decide +kernel) rfl ?_
      refine ab_icmp_ne (off := 7) (pc := 29) (tgt := 36) (by decide +kernel) (by decide) (fun g7 => ?_) (fun g7 => ?_)
      · refine ab_iconst (pc := 32) (n := 0) (v := nI 0) (by decide +kernel) rfl ?_
        refine ab_goto (pc := 33) (off := 6) (tgt := 39) (by decide +kernel) (by decide) ?_
        refine ab_ior (pc := 39) (by decide +kernel) ?_
        refine ab_istore_n (pc := 40) (n := 1) (i := 1) (lv' := [(0, .ref x0), (1, .int (x1 ||| (nI 0))), (2, .int x2)]) (by decide +kernel) rfl (Nat.le_of_ble_eq_true rfl) rfl rfl ?_
        refine ab_iinc (pc := 41) (i := 2) (n := 1) (j := 2) (d := nI 1) (lv' := [(0, .ref x0), (1, .int (x1 ||| (nI 0))), (2, .int (x2 + nI 1))]) (by decide +kernel) rfl rfl (Nat.le_of_ble_eq_true rfl) rfl rfl ?_
        refine ab_goto (pc := 44) (off := (-40)) (tgt := 4) (by decide +kernel) (by decide) ?_
        exact ih (x1 ||| (nI 0)) (x2 + nI 1) h5
      · refine ab_iconst (pc := 36) (n := 1) (v := nI 1) (by decide +kernel) rfl ?_
        refine ab_iload_n (pc := 37) (n := 2) (i := 2) (j := 2) (by decide +kernel) rfl rfl ?_
        refine ab_ishl (pc := 38) (by decide +kernel) ?_
        refine ab_ior (pc := 39) (by decide +kernel) ?_
        refine ab_istore_n (pc := 40) (n := 1) (i := 1) (lv' := [(0, .ref x0), (1, .int (x1 ||| ((nI 1) <<< (x2 &&& 31)))), (2, .int x2)]) (by decide +kernel) rfl (Nat.le_of_ble_eq_true rfl) rfl rfl ?_
        refine ab_iinc (pc := 41) (i := 2) (n := 1) (j := 2) (d := nI 1) (lv' := [(0, .ref x0), (1, .int (x1 ||| ((nI 1) <<< (x2 &&& 31)))), (2, .int (x2 + nI 1))]) (by decide +kernel) rfl rfl (Nat.le_of_ble_eq_true rfl) rfl rfl ?_
        refine ab_goto (pc := 44) (off := (-40)) (tgt := 4) (by decide +kernel) (by decide) ?_
        exact ih (x1 ||| ((nI 1) <<< (x2 &&& 31))) (x2 + nI 1) h5
    · refine ab_few [0, 1] (lv' := [(0, .ref x0), (1, .int x1)]) rfl ?_
      exact hk47 x1 h
set_option maxRecDepth 100000 in
set_option maxHeartbeats 4000000 in
theorem lX12_trades_53 {l : Launch} (hl : l.stackTraces = false) (F : Nat) (x0 : Nat) (x1 : Int32) (h : ab_H) {k67 : Int32 → Option ab_H} (hk67 : ∀ (x2 : Int32), ab_S l mX12_trades (fun y : ab_H => ((.inl none, y) : ab_R × ab_H)) 0 0 (k67 x2) 67 [(0, .ref x0), (1, .int x1), (2, .int x2)] [] h) : ∀ (n : Nat) (x2 : Int32), ab_S l mX12_trades (fun y : ab_H => ((.inl none, y) : ab_R × ab_H)) 0 0 (fX12_trades_53 F x0 x1 h k67 n x2) 53 [(0, .ref x0), (1, .int x1), (2, .int x2)] [] h := by
  intro n
  induction n with
  | zero =>
    intro x2
    exact ab_none
  | succ n ih =>
    intro x2
    rw [fX12_trades_53]
    refine ab_iload_n (pc := 53) (n := 1) (i := 1) (j := 1) (by decide +kernel) rfl rfl ?_
    refine ab_iload_n (pc := 54) (n := 2) (i := 2) (j := 2) (by decide +kernel) rfl rfl ?_
    refine ab_callSi (As := [.int x1, .int x2]) (st := []) (pc := 55) lk_X12_107 rfl rfl rfl (by decide) rfl (Nat.le_of_ble_eq_true rfl) (by decide +kernel) (fun y9 e9 => okX12_isOf hl e9) (fun v11 ev11 => ?_)
    refine ab_if_ne (off := 9) (pc := 58) (tgt := 67) (by decide +kernel) (by decide) (fun g12 => ?_) (fun g12 => ?_)
    · refine ab_iinc (pc := 61) (i := 2) (n := 1) (j := 2) (d := nI 1) (lv' := [(0, .ref x0), (1, .int x1), (2, .int (x2 + nI 1))]) (by decide +kernel) rfl rfl (Nat.le_of_ble_eq_true rfl) rfl rfl ?_
      refine ab_goto (pc := 64) (off := (-11)) (tgt := 53) (by decide +kernel) (by decide) ?_
      exact ih (x2 + nI 1)
    · exact hk67 x2
set_option maxRecDepth 100000 in
set_option maxHeartbeats 4000000 in
theorem lX12_trades_69 {l : Launch} (hl : l.stackTraces = false) (F : Nat) (x0 : Nat) (x1 : Int32) (h : ab_H) {k88 : Int32 → Option ab_H} (hk88 : ∀ (x2 : Int32), ab_S l mX12_trades (fun y : ab_H => ((.inl none, y) : ab_R × ab_H)) 0 0 (k88 x2) 88 [(0, .ref x0), (1, .int x1), (2, .int x2)] [] h) : ∀ (n : Nat) (x2 : Int32) (x3 : Int32), ab_S l mX12_trades (fun y : ab_H => ((.inl none, y) : ab_R × ab_H)) 0 0 (fX12_trades_69 F x0 x1 h k88 n x2 x3) 69 [(0, .ref x0), (1, .int x1), (2, .int x2), (3, .int x3)] [] h := by
  intro n
  induction n with
  | zero =>
    intro x2 x3
    exact ab_none
  | succ n ih =>
    intro x2 x3
    rw [fX12_trades_69]
    refine ab_iload_n (pc := 69) (n := 3) (i := 3) (j := 3) (by decide +kernel) rfl rfl ?_
    refine ab_bipush (pc := 70) (n := 10) (v := nI 10) (by decide +kernel) (by decide) ?_
    refine ab_icmp_ge (off := 16) (pc := 72) (tgt := 88) (by decide +kernel) (by decide) (fun g14 => ?_) (fun g14 => ?_)
    · refine ab_aload_n (pc := 75) (n := 0) (i := 0) (j := 0) (by decide +kernel) rfl rfl ?_
      refine ab_iload_n (pc := 76) (n := 2) (i := 2) (j := 2) (by decide +kernel) rfl rfl ?_
      refine ab_iload_n (pc := 77) (n := 1) (i := 1) (j := 1) (by decide +kernel) rfl rfl ?_
      refine ab_callVi (As := [.int x2, .int x1]) (st := []) (pc := 78) lk_X12_332_12 rfl rfl rfl (by decide) rfl (Nat.le_of_ble_eq_true rfl) (by decide +kernel) (fun y9 e9 => okX12_pointsTo hl (F := F) e9) (fun v15 ev15 => ?_)
      refine ab_istore_n (pc := 81) (n := 2) (i := 2) (lv' := [(0, .ref x0), (1, .int x1), (2, .int v15), (3, .int x3)]) (by decide +kernel) rfl (Nat.le_of_ble_eq_true rfl) rfl rfl ?_
      refine ab_iinc (pc := 82) (i := 3) (n := 1) (j := 3) (d := nI 1) (lv' := [(0, .ref x0), (1, .int x1), (2, .int v15), (3, .int (x3 + nI 1))]) (by decide +kernel) rfl rfl (Nat.le_of_ble_eq_true rfl) rfl rfl ?_
      refine ab_goto (pc := 85) (off := (-16)) (tgt := 69) (by decide +kernel) (by decide) ?_
      exact ih v15 (x3 + nI 1)
    · refine ab_few [0, 1, 2] (lv' := [(0, .ref x0), (1, .int x1), (2, .int x2)]) rfl ?_
      exact hk88 x2
set_option maxRecDepth 100000 in
set_option maxHeartbeats 4000000 in
theorem lX12_trades_93 {l : Launch} (hl : l.stackTraces = false) (F : Nat) (x0 : Nat) (x1 : Int32) {k137 : Int32 → ab_H → Option ab_H} (hk137 : ∀ (x4 : Int32), ∀ (h : ab_H), ab_S l mX12_trades (fun y : ab_H => ((.inl none, y) : ab_R × ab_H)) 0 0 (k137 x4 h) 137 [(0, .ref x0), (1, .int x1), (4, .int x4)] [] h) : ∀ (n : Nat) (x2 : Int32) (x4 : Int32) (h : ab_H), ab_S l mX12_trades (fun y : ab_H => ((.inl none, y) : ab_R × ab_H)) 0 0 (fX12_trades_93 F x0 x1 k137 n x2 x4 h) 93 [(0, .ref x0), (1, .int x1), (2, .int x2), (4, .int x4)] [] h := by
  intro n
  induction n with
  | zero =>
    intro x2 x4 h
    exact ab_none
  | succ n ih =>
    intro x2 x4 h
    rw [fX12_trades_93]
    refine ab_iload (pc := 93) (i := 4) (j := 3) (by decide +kernel) rfl ?_
    refine ab_iload_n (pc := 95) (n := 2) (i := 2) (j := 2) (by decide +kernel) rfl rfl ?_
    refine ab_callSi (As := [.int x4, .int x2]) (st := []) (pc := 96) lk_X12_107 rfl rfl rfl (by decide) rfl (Nat.le_of_ble_eq_true rfl) (by decide +kernel) (fun y9 e9 => okX12_isOf hl e9) (fun v17 ev17 => ?_)
    refine ab_if_ne (off := 38) (pc := 99) (tgt := 137) (by decide +kernel) (by decide) (fun g18 => ?_) (fun g18 => ?_)
    · refine ab_iload (pc := 102) (i := 4) (j := 3) (by decide +kernel) rfl ?_
      refine ab_iconst (pc := 104) (n := 1) (v := nI 1) (by decide +kernel) rfl ?_
      refine ab_iload_n (pc := 105) (n := 2) (i := 2) (j := 2) (by decide +kernel) rfl rfl ?_
      refine ab_ishl (pc := 106) (by decide +kernel) ?_
      refine ab_ior (pc := 107) (by decide +kernel) ?_
      refine ab_istore (pc := 108) (i := 4) (lv' := [(0, .ref x0), (1, .int x1), (2, .int x2), (4, .int (x4 ||| ((nI 1) <<< (x2 &&& 31))))]) (by decide +kernel) (Nat.le_of_ble_eq_true rfl) rfl rfl ?_
      refine ab_aload_n (pc := 110) (n := 0) (i := 0) (j := 0) (by decide +kernel) rfl rfl ?_
      refine ab_getR (pc := 111) fl_X12_41_12 (by decide +kernel) (fun v19 ev19 => ?_)
      refine ab_iload_n (pc := 114) (n := 2) (i := 2) (j := 2) (by decide +kernel) rfl rfl ?_
      refine ab_aload_n (pc := 115) (n := 0) (i := 0) (j := 0) (by decide +kernel) rfl rfl ?_
      refine ab_aload_n (pc := 116) (n := 0) (i := 0) (j := 0) (by decide +kernel) rfl rfl ?_
      refine ab_iload_n (pc := 117) (n := 2) (i := 2) (j := 2) (by decide +kernel) rfl rfl ?_
      refine ab_iload_n (pc := 118) (n := 1) (i := 1) (j := 1) (by decide +kernel) rfl rfl ?_
      refine ab_callVi (As := [.int x2, .int x1]) (st := [.ref x0, .int x2, .ref v19]) (pc := 119) lk_X12_332_12 rfl rfl rfl (by decide) rfl (Nat.le_of_ble_eq_true rfl) (by decide +kernel) (fun y9 e9 => okX12_pointsTo hl (F := F) e9) (fun v20 ev20 => ?_)
      refine ab_iconst (pc := 122) (n := 2) (v := nI 2) (by decide +kernel) rfl ?_
      refine ab_callVi (As := [.int v20, .int (nI 2)]) (st := [.int x2, .ref v19]) (pc := 123) lk_X12_57_12 rfl rfl rfl (by decide) rfl (Nat.le_of_ble_eq_true rfl) (by decide +kernel) (fun y9 e9 => okX12_of hl e9) (fun v21 ev21 => ?_)
      refine ab_iast (pc := 126) (by decide +kernel) (fun h22 eh22 => ?_)
      refine ab_aload_n (pc := 127) (n := 0) (i := 0) (j := 0) (by decide +kernel) rfl rfl ?_
      refine ab_iload_n (pc := 128) (n := 2) (i := 2) (j := 2) (by decide +kernel) rfl rfl ?_
      refine ab_iload_n (pc := 129) (n := 1) (i := 1) (j := 1) (by decide +kernel) rfl rfl ?_
      refine ab_callVi (As := [.int x2, .int x1]) (st := []) (pc := 130) lk_X12_332_12 rfl rfl rfl (by decide) rfl (Nat.le_of_ble_eq_true rfl) (by decide +kernel) (fun y9 e9 => okX12_pointsTo hl (F := F) e9) (fun v23 ev23 => ?_)
      refine ab_istore_n (pc := 133) (n := 2) (i := 2) (lv' := [(0, .ref x0), (1, .int x1), (2, .int v23), (4, .int (x4 ||| ((nI 1) <<< (x2 &&& 31))))]) (by decide +kernel) rfl (Nat.le_of_ble_eq_true rfl) rfl rfl ?_
      refine ab_goto (pc := 134) (off := (-41)) (tgt := 93) (by decide +kernel) (by decide) ?_
      exact ih v23 (x4 ||| ((nI 1) <<< (x2 &&& 31))) h22
    · refine ab_few [0, 1, 3] (lv' := [(0, .ref x0), (1, .int x1), (4, .int x4)]) rfl ?_
      exact hk137 x4 h
set_option maxRecDepth 100000 in
set_option maxHeartbeats 4000000 in
theorem lX12_trades_47 {l : Launch} (hl : l.stackTraces = false) (F : Nat) (x0 : Nat) : ∀ (n : Nat) (x1 : Int32) (h : ab_H), ab_S l mX12_trades (fun y : ab_H => ((.inl none, y) : ab_R × ab_H)) 0 0 (fX12_trades_47 F x0 n x1 h) 47 [(0, .ref x0), (1, .int x1)] [] h := by
  intro n
  induction n with
  | zero =>
    intro x1 h
    exact ab_none
  | succ n ih =>
    intro x1 h
    rw [fX12_trades_47]
    refine ab_iload_n (pc := 47) (n := 1) (i := 1) (j := 1) (by decide +kernel) rfl rfl ?_
    refine ab_if_eq (off := 99) (pc := 48) (tgt := 147) (by decide +kernel) (by decide) (fun g10 => ?_) (fun g10 => ?_)
    · exact ab_vret (pc := 147) (by decide +kernel) rfl rfl (Nat.le_of_ble_eq_true rfl) (Nat.le_of_ble_eq_true rfl)
    · refine ab_iconst (pc := 51) (n := 0) (v := nI 0) (by decide +kernel) rfl ?_
      refine ab_istore_n (pc := 52) (n := 2) (i := 2) (lv' := [(0, .ref x0), (1, .int x1), (2, .int (nI 0))]) (by decide +kernel) rfl (Nat.le_of_ble_eq_true rfl) rfl rfl ?_
      refine lX12_trades_53 hl F x0 x1 h ?_ F (nI 0)
      intro z13
      refine ab_iconst (pc := 67) (n := 0) (v := nI 0) (by decide +kernel) rfl ?_
      refine ab_istore_n (pc := 68) (n := 3) (i := 3) (lv' := [(0, .ref x0), (1, .int x1), (2, .int z13), (3, .int (nI 0))]) (by decide +kernel) rfl (Nat.le_of_ble_eq_true rfl) rfl rfl ?_
      refine lX12_trades_69 hl F x0 x1 h ?_ F z13 (nI 0)
      intro z16
      refine ab_iload_n (pc := 88) (n := 2) (i := 2) (j := 2) (by decide +kernel) rfl rfl ?_
      refine ab_istore_n (pc := 89) (n := 3) (i := 3) (lv' := [(0, .ref x0), (1, .int x1), (2, .int z16), (3, .int z16)]) (by decide +kernel) rfl (Nat.le_of_ble_eq_true rfl) rfl rfl ?_
      refine ab_iconst (pc := 90) (n := 0) (v := nI 0) (by decide +kernel) rfl ?_
      refine ab_istore (pc := 91) (i := 4) (lv' := [(0, .ref x0), (1, .int x1), (2, .int z16), (3, .int z16), (4, .int (nI 0))]) (by decide +kernel) (Nat.le_of_ble_eq_true rfl) rfl rfl ?_
      refine ab_few [0, 1, 2, 4] (lv' := [(0, .ref x0), (1, .int x1), (2, .int z16), (4, .int (nI 0))]) rfl ?_
      refine lX12_trades_93 hl F x0 x1 ?_ F z16 (nI 0) h
      intro z24 h25
      refine ab_iload_n (pc := 137) (n := 1) (i := 1) (j := 1) (by decide +kernel) rfl rfl ?_
      refine ab_iload (pc := 138) (i := 4) (j := 2) (by decide +kernel) rfl ?_
      refine ab_iconst (pc := 140) (n := -1) (v := (-1 : Int32)) (by decide +kernel) rfl ?_
      refine ab_ixor (pc := 141) (by decide +kernel) ?_
      refine ab_iand (pc := 142) (by decide +kernel) ?_
      refine ab_istore_n (pc := 143) (n := 1) (i := 1) (lv' := [(0, .ref x0), (1, .int (x1 &&& (z24 ^^^ (-1 : Int32)))), (4, .int z24)]) (by decide +kernel) rfl (Nat.le_of_ble_eq_true rfl) rfl rfl ?_
      refine ab_goto (pc := 144) (off := (-97)) (tgt := 47) (by decide +kernel) (by decide) ?_
      refine ab_few [0, 1] (lv' := [(0, .ref x0), (1, .int (x1 &&& (z24 ^^^ (-1 : Int32))))]) rfl ?_
      exact ih (x1 &&& (z24 ^^^ (-1 : Int32))) h25
set_option maxRecDepth 100000 in
set_option maxHeartbeats 4000000 in
theorem wX12_trades {l : Launch} (hl : l.stackTraces = false) (F : Nat) (x0 : Nat) (h : ab_H) : ab_S l mX12_trades (fun y : ab_H => ((.inl none, y) : ab_R × ab_H)) 0 0 (fX12_trades F x0 h) 0 [(0, .ref x0)] [] h := by
  unfold fX12_trades
  refine ab_iconst (pc := 0) (n := 0) (v := nI 0) (by decide +kernel) rfl ?_
  refine ab_istore_n (pc := 1) (n := 1) (i := 1) (lv' := [(0, .ref x0), (1, .int (nI 0))]) (by decide +kernel) rfl (Nat.le_of_ble_eq_true rfl) rfl rfl ?_
  refine ab_iconst (pc := 2) (n := 0) (v := nI 0) (by decide +kernel) rfl ?_
  refine ab_istore_n (pc := 3) (n := 2) (i := 2) (lv' := [(0, .ref x0), (1, .int (nI 0)), (2, .int (nI 0))]) (by decide +kernel) rfl (Nat.le_of_ble_eq_true rfl) rfl rfl ?_
  refine lX12_trades_4 hl F x0 ?_ F (nI 0) (nI 0) h
  intro z8 h9
  refine lX12_trades_47 hl F x0 F z8 h9
set_option maxRecDepth 100000 in
set_option maxHeartbeats 4000000 in
theorem okX12_trades {l : Launch} (hl : l.stackTraces = false) {F : Nat} {x0 : Nat} {h : ab_H} {y : ab_H} (e : fX12_trades F x0 h = some y) : ab_Met l mX12_trades [.ref x0] h (.inl none, y) := ab_ofS (io := (fun y : ab_H => ((.inl none, y) : ab_R × ab_H))) (x := y) hl (by decide) rfl (Nat.le_of_ble_eq_true rfl) (wX12_trades hl F x0 h) e
def mX12_core : ab_M := (yX12_core, cX12_core, 2, (some .int), { frames := 3, cells := 0, slots := 0, locals := 71 })
theorem iX12_core : ab_MI mX12_core 1 := ⟨kw_70ba4f2474, kw_30b3f7d7c6, by decide +kernel⟩
theorem lk_X12_335_12 : ab_LV RX12 335 12 mX12_trades 0 := ⟨RX12, rfl, iX12_trades, kw_ef8314d15b, kw_6265c59347, kw_703c677023⟩
def fX12_core (F : Nat) (x0 : Nat) (x1 : Int32) (h : ab_H) : Option (Int32 × ab_H) := ab_ck (ab_io h x0 12 = true) (ab_bd (fX12_isPerson x0 x1 h) fun v1 => ab_jn (κ := Int32 → Option (Int32 × ab_H)) (fun (z2 : Int32) => ab_bd (ab_fw h x0 12 0 (.int z2)) fun h3 => ab_bd (ab_fi h3 x0 12 0) fun v4 => (if v4 ≤ 0 then ab_ck (ab_io h3 x0 12 = true) (ab_bd (fX12_trades F x0 h3) fun h6 => ab_bd (ab_fr h6 x0 12 23) fun v7 => ab_bd (ab_ia 0 h6 v7 x1) fun v8 => some (v8, h6)) else some (nI 0, h3))) fun j9 => (if v1 = 0 then j9 (nI 1) else j9 (nI 0)))
set_option maxRecDepth 100000 in
set_option maxHeartbeats 4000000 in
theorem wX12_core {l : Launch} (hl : l.stackTraces = false) (F : Nat) (x0 : Nat) (x1 : Int32) (h : ab_H) : ab_S l mX12_core (fun y : (Int32 × ab_H) => ((.inl (some (.int y.1)), y.2) : ab_R × ab_H)) 0 0 (fX12_core F x0 x1 h) 0 [(0, .ref x0), (1, .int x1)] [] h := by
  unfold fX12_core
  refine ab_aload_n (pc := 0) (n := 0) (i := 0) (j := 0) (by decide +kernel) rfl rfl ?_
  refine ab_aload_n (pc := 1) (n := 0) (i := 0) (j := 0) (by decide +kernel) rfl rfl ?_
  refine ab_iload_n (pc := 2) (n := 1) (i := 1) (j := 1) (by decide +kernel) rfl rfl ?_
  refine ab_callVi (As := [.int x1]) (st := [.ref x0]) (pc := 3) lk_X12_250_12 rfl rfl rfl (by decide) rfl (Nat.le_of_ble_eq_true rfl) (by decide +kernel) (fun y9 e9 => okX12_isPerson hl e9) (fun v1 ev1 => ?_)
  refine ab_jr (fun k9 : Int32 → Option (Int32 × ab_H) => ∀ (z2 : Int32), ab_S l mX12_core (fun y : (Int32 × ab_H) => ((.inl (some (.int y.1)), y.2) : ab_R × ab_H)) 0 0 (k9 z2) 14 [(0, .ref x0), (1, .int x1)] [.int z2, .ref x0] h) ?_ (fun j9 hj9 => ?_)
  · intro z2
    refine ab_put (pc := 14) fl_X12_50_12 rfl (fun _ => rfl) (fun _ => rfl) (by decide +kernel) (fun h3 eh3 => ?_)
    refine ab_aload_n (pc := 17) (n := 0) (i := 0) (j := 0) (by decide +kernel) rfl rfl ?_
    refine ab_getI (pc := 18) fl_X12_50_12 (by decide +kernel) (fun v4 ev4 => ?_)
    refine ab_if_le (off := 5) (pc := 21) (tgt := 26) (by decide +kernel) (by decide) (fun g5 => ?_) (fun g5 => ?_)
    · refine ab_aload_n (pc := 26) (n := 0) (i := 0) (j := 0) (by decide +kernel) rfl rfl ?_
      refine ab_callVw (As := []) (st := []) (pc := 27) lk_X12_335_12 rfl rfl rfl (by decide) rfl (Nat.le_of_ble_eq_true rfl) (by decide +kernel) (fun y9 e9 => okX12_trades hl (F := F) e9) (fun h6 eh6 => ?_)
      refine ab_aload_n (pc := 30) (n := 0) (i := 0) (j := 0) (by decide +kernel) rfl rfl ?_
      refine ab_getR (pc := 31) fl_X12_41_12 (by decide +kernel) (fun v7 ev7 => ?_)
      refine ab_iload_n (pc := 34) (n := 1) (i := 1) (j := 1) (by decide +kernel) rfl rfl ?_
      refine ab_iald (pc := 35) (by decide +kernel) (fun v8 ev8 => ?_)
      exact ab_iret (pc := 36) (by decide +kernel) rfl rfl (Nat.le_of_ble_eq_true rfl) (Nat.le_of_ble_eq_true rfl)
    · refine ab_iconst (pc := 24) (n := 0) (v := nI 0) (by decide +kernel) rfl ?_
      exact ab_iret (pc := 25) (by decide +kernel) rfl rfl (Nat.le_of_ble_eq_true rfl) (Nat.le_of_ble_eq_true rfl)
  · refine ab_if_ne (off := 7) (pc := 6) (tgt := 13) (by decide +kernel) (by decide) (fun g10 => ?_) (fun g10 => ?_)
    · refine ab_iconst (pc := 9) (n := 1) (v := nI 1) (by decide +kernel) rfl ?_
      refine ab_goto (pc := 10) (off := 4) (tgt := 14) (by decide +kernel) (by decide) ?_
      exact hj9 (nI 1)
    · refine ab_iconst (pc := 13) (n := 0) (v := nI 0) (by decide +kernel) rfl ?_
      exact hj9 (nI 0)
set_option maxRecDepth 100000 in
set_option maxHeartbeats 4000000 in
theorem okX12_core {l : Launch} (hl : l.stackTraces = false) {F : Nat} {x0 : Nat} {x1 : Int32} {h : ab_H} {y : (Int32 × ab_H)} (e : fX12_core F x0 x1 h = some y) : ab_Met l mX12_core [.ref x0, .int x1] h (.inl (some (.int y.1)), y.2) := ab_ofS (io := (fun y : (Int32 × ab_H) => ((.inl (some (.int y.1)), y.2) : ab_R × ab_H))) (x := y) hl (by decide) rfl (Nat.le_of_ble_eq_true rfl) (wX12_core hl F x0 x1 h) e
def mX12_gains : ab_M := (yX12_gains, cX12_gains, 3, (some .int), { frames := 3, cells := 0, slots := 0, locals := 71 })
theorem iX12_gains : ab_MI mX12_gains 0 := ⟨kw_4a80fbbbcc, kw_30b3f7d7c6, by decide +kernel⟩
def fX12_gains_13 (F : Nat) (x0 : Nat) (h : ab_H) : Nat → Int32 → Int32 → Option (Int32 × ab_H)
  | 0, _, _ => none
  | n + 1, x1, x2 => ab_bd (ab_fr h x0 12 1) fun v3 => ab_bd (ab_ia 0 h v3 (nI 3)) fun v4 => (if x2 < v4 then ab_bd (ab_fr h x0 12 23) fun v6 => ab_bd (ab_ia 0 h v6 x2) fun v7 => ab_ck (ab_io h x0 12 = true) (ab_bd (fX12_of x0 x2 (nI 2) h) fun v8 => (if v7 = v8 then fX12_gains_13 F x0 h n (x1 + (nI 0)) (x2 + nI 1) else fX12_gains_13 F x0 h n (x1 + (nI 1)) (x2 + nI 1))) else some (x1, h))
def fX12_gains (F : Nat) (x0 : Nat) (h : ab_H) : Option (Int32 × ab_H) := ab_bd (ab_fw h x0 12 0 (.int (nI 0))) fun h1 => ab_ck (ab_io h1 x0 12 = true) (ab_bd (fX12_trades F x0 h1) fun h2 => fX12_gains_13 F x0 h2 F (nI 0) (nI 0))
set_option maxRecDepth 100000 in
set_option maxHeartbeats 4000000 in
theorem lX12_gains_13 {l : Launch} (hl : l.stackTraces = false) (F : Nat) (x0 : Nat) (h : ab_H) : ∀ (n : Nat) (x1 : Int32) (x2 : Int32), ab_S l mX12_gains (fun y : (Int32 × ab_H) => ((.inl (some (.int y.1)), y.2) : ab_R × ab_H)) 0 0 (fX12_gains_13 F x0 h n x1 x2) 13 [(0, .ref x0), (1, .int x1), (2, .int x2)] [] h := by
  intro n
  induction n with
  | zero =>
    intro x1 x2
    exact ab_none
  | succ n ih =>
    intro x1 x2
    rw [fX12_gains_13]
    refine ab_iload_n (pc := 13) (n := 2) (i := 2) (j := 2) (by decide +kernel) rfl rfl ?_
    refine ab_aload_n (pc := 14) (n := 0) (i := 0) (j := 0) (by decide +kernel) rfl rfl ?_
    refine ab_getR (pc := 15) fl_X12_7_12 (by decide +kernel) (fun v3 ev3 => ?_)
    refine ab_iconst (pc := 18) (n := 3) (v := nI 3) (by decide +kernel) rfl ?_
    refine ab_iald (pc := 19) (by decide +kernel) (fun v4 ev4 => ?_)
    refine ab_icmp_ge (off := 32) (pc := 20) (tgt := 52) (by decide +kernel) (by decide) (fun g5 => ?_) (fun g5 => ?_)
    · refine ab_iload_n (pc := 23) (n := 1) (i := 1) (j := 1) (by decide +kernel) rfl rfl ?_
      refine ab_aload_n (pc := 24) (n := 0) (i := 0) (j := 0) (by decide +kernel) rfl rfl ?_
      refine ab_getR (pc := 25) fl_X12_41_12 (by decide +kernel) (fun v6 ev6 => ?_)
      refine ab_iload_n (pc := 28) (n := 2) (i := 2) (j := 2) (by decide +kernel) rfl rfl ?_
      refine ab_iald (pc := 29) (by decide +kernel) (fun v7 ev7 => ?_)
      refine ab_aload_n (pc := 30) (n := 0) (i := 0) (j := 0) (by decide +kernel) rfl rfl ?_
      refine ab_iload_n (pc := 31) (n := 2) (i := 2) (j := 2) (by decide +kernel) rfl rfl ?_
      refine ab_iconst (pc := 32) (n := 2) (v := nI 2) (by decide +kernel) rfl ?_
      refine ab_callVi (As := [.int x2, .int (nI 2)]) (st := [.int v7, .int x1]) (pc := 33) lk_X12_57_12 rfl rfl rfl (by decide) rfl (Nat.le_of_ble_eq_true rfl) (by decide +kernel) (fun y9 e9 => okX12_of hl e9) (fun v8 ev8 => ?_)
      refine ab_icmp_eq (off := 7) (pc := 36) (tgt := 43) (by decide +kernel) (by decide) (fun g9 => ?_) (fun g9 => ?_)
      · refine ab_iconst (pc := 43) (n := 0) (v := nI 0) (by decide +kernel) rfl ?_
        refine ab_iadd (pc := 44) (by decide +kernel) ?_
        refine ab_istore_n (pc := 45) (n := 1) (i := 1) (lv' := [(0, .ref x0), (1, .int (x1 + (nI 0))), (2, .int x2)]) (by decide +kernel) rfl (Nat.le_of_ble_eq_true rfl) rfl rfl ?_
        refine ab_iinc (pc := 46) (i := 2) (n := 1) (j := 2) (d := nI 1) (lv' := [(0, .ref x0), (1, .int (x1 + (nI 0))), (2, .int (x2 + nI 1))]) (by decide +kernel) rfl rfl (Nat.le_of_ble_eq_true rfl) rfl rfl ?_
        refine ab_goto (pc := 49) (off := (-36)) (tgt := 13) (by decide +kernel) (by decide) ?_
        exact ih (x1 + (nI 0)) (x2 + nI 1)
      · refine ab_iconst (pc := 39) (n := 1) (v := nI 1) (by decide +kernel) rfl ?_
        refine ab_goto (pc := 40) (off := 4) (tgt := 44) (by decide +kernel) (by decide) ?_
        refine ab_iadd (pc := 44) (by decide +kernel) ?_
        refine ab_istore_n (pc := 45) (n := 1) (i := 1) (lv' := [(0, .ref x0), (1, .int (x1 + (nI 1))), (2, .int x2)]) (by decide +kernel) rfl (Nat.le_of_ble_eq_true rfl) rfl rfl ?_
        refine ab_iinc (pc := 46) (i := 2) (n := 1) (j := 2) (d := nI 1) (lv' := [(0, .ref x0), (1, .int (x1 + (nI 1))), (2, .int (x2 + nI 1))]) (by decide +kernel) rfl rfl (Nat.le_of_ble_eq_true rfl) rfl rfl ?_
        refine ab_goto (pc := 49) (off := (-36)) (tgt := 13) (by decide +kernel) (by decide) ?_
        exact ih (x1 + (nI 1)) (x2 + nI 1)
    · refine ab_iload_n (pc := 52) (n := 1) (i := 1) (j := 1) (by decide +kernel) rfl rfl ?_
      exact ab_iret (pc := 53) (by decide +kernel) rfl rfl (Nat.le_of_ble_eq_true rfl) (Nat.le_of_ble_eq_true rfl)
set_option maxRecDepth 100000 in
set_option maxHeartbeats 4000000 in
theorem wX12_gains {l : Launch} (hl : l.stackTraces = false) (F : Nat) (x0 : Nat) (h : ab_H) : ab_S l mX12_gains (fun y : (Int32 × ab_H) => ((.inl (some (.int y.1)), y.2) : ab_R × ab_H)) 0 0 (fX12_gains F x0 h) 0 [(0, .ref x0)] [] h := by
  unfold fX12_gains
  refine ab_aload_n (pc := 0) (n := 0) (i := 0) (j := 0) (by decide +kernel) rfl rfl ?_
  refine ab_iconst (pc := 1) (n := 0) (v := nI 0) (by decide +kernel) rfl ?_
  refine ab_put (pc := 2) fl_X12_50_12 rfl (fun _ => rfl) (fun _ => rfl) (by decide +kernel) (fun h1 eh1 => ?_)
  refine ab_aload_n (pc := 5) (n := 0) (i := 0) (j := 0) (by decide +kernel) rfl rfl ?_
  refine ab_callVw (As := []) (st := []) (pc := 6) lk_X12_335_12 rfl rfl rfl (by decide) rfl (Nat.le_of_ble_eq_true rfl) (by decide +kernel) (fun y9 e9 => okX12_trades hl (F := F) e9) (fun h2 eh2 => ?_)
  refine ab_iconst (pc := 9) (n := 0) (v := nI 0) (by decide +kernel) rfl ?_
  refine ab_istore_n (pc := 10) (n := 1) (i := 1) (lv' := [(0, .ref x0), (1, .int (nI 0))]) (by decide +kernel) rfl (Nat.le_of_ble_eq_true rfl) rfl rfl ?_
  refine ab_iconst (pc := 11) (n := 0) (v := nI 0) (by decide +kernel) rfl ?_
  refine ab_istore_n (pc := 12) (n := 2) (i := 2) (lv' := [(0, .ref x0), (1, .int (nI 0)), (2, .int (nI 0))]) (by decide +kernel) rfl (Nat.le_of_ble_eq_true rfl) rfl rfl ?_
  refine lX12_gains_13 hl F x0 h2 F (nI 0) (nI 0)
set_option maxRecDepth 100000 in
set_option maxHeartbeats 4000000 in
theorem okX12_gains {l : Launch} (hl : l.stackTraces = false) {F : Nat} {x0 : Nat} {h : ab_H} {y : (Int32 × ab_H)} (e : fX12_gains F x0 h = some y) : ab_Met l mX12_gains [.ref x0] h (.inl (some (.int y.1)), y.2) := ab_ofS (io := (fun y : (Int32 × ab_H) => ((.inl (some (.int y.1)), y.2) : ab_R × ab_H))) (x := y) hl (by decide) rfl (Nat.le_of_ble_eq_true rfl) (wX12_gains hl F x0 h) e
def mX12_hasDearer : ab_M := (yX12_hasDearer, cX12_hasDearer, 4, (some .boolean), { frames := 1, cells := 0, slots := 0, locals := 23 })
theorem iX12_hasDearer : ab_MI mX12_hasDearer 2 := ⟨kw_8f5ff7cd16, kw_30b3f7d7c6, by decide +kernel⟩
def fX12_hasDearer_2 (F : Nat) (x0 : Nat) (x1 : Int32) (x2 : Int32) (h : ab_H) : Nat → Int32 → Option Int32
  | 0, _ => none
  | n + 1, x3 => ab_bd (ab_fr h x0 12 1) fun v1 => ab_bd (ab_ia 0 h v1 (nI 3)) fun v2 => (if x3 < v2 then ab_bd (fX12_isOf x2 x3 h) fun v4 => (if v4 = 0 then fX12_hasDearer_2 F x0 x1 x2 h n (x3 + nI 1) else ab_ck (ab_io h x0 12 = true) (ab_bd (fX12_of x0 x3 (nI 2) h) fun v6 => ab_ck (ab_io h x0 12 = true) (ab_bd (fX12_dear F x0 x1 v6 h) fun v7 => ab_ck (ab_io h x0 12 = true) (ab_bd (fX12_of x0 x1 (nI 2) h) fun v8 => ab_ck (ab_io h x0 12 = true) (ab_bd (fX12_dear F x0 x1 v8 h) fun v9 => (if v7 < v9 then some (nI 1) else fX12_hasDearer_2 F x0 x1 x2 h n (x3 + nI 1))))))) else some (nI 0))
def fX12_hasDearer (F : Nat) (x0 : Nat) (x1 : Int32) (x2 : Int32) (h : ab_H) : Option Int32 := fX12_hasDearer_2 F x0 x1 x2 h F (nI 0)
set_option maxRecDepth 100000 in
set_option maxHeartbeats 4000000 in
theorem lX12_hasDearer_2 {l : Launch} (hl : l.stackTraces = false) (F : Nat) (x0 : Nat) (x1 : Int32) (x2 : Int32) (h : ab_H) : ∀ (n : Nat) (x3 : Int32), ab_S l mX12_hasDearer (fun y : Int32 => ((.inl (some (.int y)), h) : ab_R × ab_H)) 0 0 (fX12_hasDearer_2 F x0 x1 x2 h n x3) 2 [(0, .ref x0), (1, .int x1), (2, .int x2), (3, .int x3)] [] h := by
  intro n
  induction n with
  | zero =>
    intro x3
    exact ab_none
  | succ n ih =>
    intro x3
    rw [fX12_hasDearer_2]
    refine ab_iload_n (pc := 2) (n := 3) (i := 3) (j := 3) (by decide +kernel) rfl rfl ?_
    refine ab_aload_n (pc := 3) (n := 0) (i := 0) (j := 0) (by decide +kernel) rfl rfl ?_
    refine ab_getR (pc := 4) fl_X12_7_12 (by decide +kernel) (fun v1 ev1 => ?_)
    refine ab_iconst (pc := 7) (n := 3) (v := nI 3) (by decide +kernel) rfl ?_
    refine ab_iald (pc := 8) (by decide +kernel) (fun v2 ev2 => ?_)
    refine ab_icmp_ge (off := 44) (pc := 9) (tgt := 53) (by decide +kernel) (by decide) (fun g3 => ?_) (fun g3 => ?_)
    · refine ab_iload_n (pc := 12) (n := 2) (i := 2) (j := 2) (by decide +kernel) rfl rfl ?_
      refine ab_iload_n (pc := 13) (n := 3) (i := 3) (j := 3) (by decide +kernel) rfl rfl ?_
      refine ab_callSi (As := [.int x2, .int x3]) (st := []) (pc := 14) lk_X12_107 rfl rfl rfl (by decide) rfl (Nat.le_of_ble_eq_true rfl) (by decide +kernel) (fun y9 e9 => okX12_isOf hl e9) (fun v4 ev4 => ?_)
      refine ab_if_eq (off := 30) (pc := 17) (tgt := 47) (by decide +kernel) (by decide) (fun g5 => ?_) (fun g5 => ?_)
      · refine ab_iinc (pc := 47) (i := 3) (n := 1) (j := 3) (d := nI 1) (lv' := [(0, .ref x0), (1, .int x1), (2, .int x2), (3, .int (x3 + nI 1))]) (by decide +kernel) rfl rfl (Nat.le_of_ble_eq_true rfl) rfl rfl ?_
        refine ab_goto (pc := 50) (off := (-48)) (tgt := 2) (by decide +kernel) (by decide) ?_
        exact ih (x3 + nI 1)
      · refine ab_aload_n (pc := 20) (n := 0) (i := 0) (j := 0) (by decide +kernel) rfl rfl ?_
        refine ab_iload_n (pc := 21) (n := 1) (i := 1) (j := 1) (by decide +kernel) rfl rfl ?_
        refine ab_aload_n (pc := 22) (n := 0) (i := 0) (j := 0) (by decide +kernel) rfl rfl ?_
        refine ab_iload_n (pc := 23) (n := 3) (i := 3) (j := 3) (by decide +kernel) rfl rfl ?_
        refine ab_iconst (pc := 24) (n := 2) (v := nI 2) (by decide +kernel) rfl ?_
        refine ab_callVi (As := [.int x3, .int (nI 2)]) (st := [.int x1, .ref x0]) (pc := 25) lk_X12_57_12 rfl rfl rfl (by decide) rfl (Nat.le_of_ble_eq_true rfl) (by decide +kernel) (fun y9 e9 => okX12_of hl e9) (fun v6 ev6 => ?_)
        refine ab_callVi (As := [.int x1, .int v6]) (st := []) (pc := 28) lk_X12_329_12 rfl rfl rfl (by decide) rfl (Nat.le_of_ble_eq_true rfl) (by decide +kernel) (fun y9 e9 => okX12_dear hl (F := F) e9) (fun v7 ev7 => ?_)
        refine ab_aload_n (pc := 31) (n := 0) (i := 0) (j := 0) (by decide +kernel) rfl rfl ?_
        refine ab_iload_n (pc := 32) (n := 1) (i := 1) (j := 1) (by decide +kernel) rfl rfl ?_
        refine ab_aload_n (pc := 33) (n := 0) (i := 0) (j := 0) (by decide +kernel) rfl rfl ?_
        refine ab_iload_n (pc := 34) (n := 1) (i := 1) (j := 1) (by decide +kernel) rfl rfl ?_
        refine ab_iconst (pc := 35) (n := 2) (v := nI 2) (by decide +kernel) rfl ?_
        refine ab_callVi (As := [.int x1, .int (nI 2)]) (st := [.int x1, .ref x0, .int v7]) (pc := 36) lk_X12_57_12 rfl rfl rfl (by decide) rfl (Nat.le_of_ble_eq_true rfl) (by decide +kernel) (fun y9 e9 => okX12_of hl e9) (fun v8 ev8 => ?_)
        refine ab_callVi (As := [.int x1, .int v8]) (st := [.int v7]) (pc := 39) lk_X12_329_12 rfl rfl rfl (by decide) rfl (Nat.le_of_ble_eq_true rfl) (by decide +kernel) (fun y9 e9 => okX12_dear hl (F := F) e9) (fun v9 ev9 => ?_)
        refine ab_icmp_ge (off := 5) (pc := 42) (tgt := 47) (by decide +kernel) (by decide) (fun g10 => ?_) (fun g10 => ?_)
        · refine ab_iconst (pc := 45) (n := 1) (v := nI 1) (by decide +kernel) rfl ?_
          exact ab_zret (pc := 46) (by decide +kernel) rfl ab_bl1.1 rfl (Nat.le_of_ble_eq_true rfl) (Nat.le_of_ble_eq_true rfl)
        · refine ab_iinc (pc := 47) (i := 3) (n := 1) (j := 3) (d := nI 1) (lv' := [(0, .ref x0), (1, .int x1), (2, .int x2), (3, .int (x3 + nI 1))]) (by decide +kernel) rfl rfl (Nat.le_of_ble_eq_true rfl) rfl rfl ?_
          refine ab_goto (pc := 50) (off := (-48)) (tgt := 2) (by decide +kernel) (by decide) ?_
          exact ih (x3 + nI 1)
    · refine ab_iconst (pc := 53) (n := 0) (v := nI 0) (by decide +kernel) rfl ?_
      exact ab_zret (pc := 54) (by decide +kernel) rfl ab_bl0.1 rfl (Nat.le_of_ble_eq_true rfl) (Nat.le_of_ble_eq_true rfl)
set_option maxRecDepth 100000 in
set_option maxHeartbeats 4000000 in
theorem wX12_hasDearer {l : Launch} (hl : l.stackTraces = false) (F : Nat) (x0 : Nat) (x1 : Int32) (x2 : Int32) (h : ab_H) : ab_S l mX12_hasDearer (fun y : Int32 => ((.inl (some (.int y)), h) : ab_R × ab_H)) 0 0 (fX12_hasDearer F x0 x1 x2 h) 0 [(0, .ref x0), (1, .int x1), (2, .int x2)] [] h := by
  unfold fX12_hasDearer
  refine ab_iconst (pc := 0) (n := 0) (v := nI 0) (by decide +kernel) rfl ?_
  refine ab_istore_n (pc := 1) (n := 3) (i := 3) (lv' := [(0, .ref x0), (1, .int x1), (2, .int x2), (3, .int (nI 0))]) (by decide +kernel) rfl (Nat.le_of_ble_eq_true rfl) rfl rfl ?_
  refine lX12_hasDearer_2 hl F x0 x1 x2 h F (nI 0)
set_option maxRecDepth 100000 in
set_option maxHeartbeats 4000000 in
theorem okX12_hasDearer {l : Launch} (hl : l.stackTraces = false) {F : Nat} {x0 : Nat} {x1 : Int32} {x2 : Int32} {h : ab_H} {y : Int32} (e : fX12_hasDearer F x0 x1 x2 h = some y) : ab_Met l mX12_hasDearer [.ref x0, .int x1, .int x2] h (.inl (some (.int y)), h) := ab_ofS (io := (fun y : Int32 => ((.inl (some (.int y)), h) : ab_R × ab_H))) (x := y) hl (by decide) rfl (Nat.le_of_ble_eq_true rfl) (wX12_hasDearer hl F x0 x1 x2 h) e
def mX12_hears : ab_M := (yX12_hears, cX12_hears, 4, (some .boolean), { frames := 0, cells := 0, slots := 0, locals := 0 })
theorem iX12_hears : ab_MI mX12_hears 0 := ⟨kw_3a40b267f4, kw_30b3f7d7c6, by decide +kernel⟩
def fX12_hears_30 (F : Nat) (x0 : Nat) (x1 : Int32) (h : ab_H) (k91 : Int32 → Option (Int32 × ab_H)) : Nat → Int32 → Int32 → Option (Int32 × ab_H)
  | 0, _, _ => none
  | n + 1, x2, x3 => (if x3 < x1 then (if x2 = 0 then k91 x2 else ab_ck (¬ (nI 3) = 0) ((if (ab_rm x3 (nI 3)) < (nI 2) then ab_bd (ab_fr h x0 12 7) fun v10 => ab_bd (ab_ia 0 h v10 x3) fun v11 => ab_bd (ab_fr h x0 12 1) fun v12 => ab_bd (ab_ia 0 h v12 (nI 3)) fun v13 => (if v11 < v13 then fX12_hears_30 F x0 x1 h k91 n (nI 1) (x3 + nI 1) else fX12_hears_30 F x0 x1 h k91 n (nI 0) (x3 + nI 1)) else ab_bd (ab_fr h x0 12 7) fun v15 => ab_bd (ab_ia 0 h v15 x3) fun v16 => (if v16 < (nI 2) then fX12_hears_30 F x0 x1 h k91 n (nI 1) (x3 + nI 1) else fX12_hears_30 F x0 x1 h k91 n (nI 0) (x3 + nI 1))))) else k91 x2)
def fX12_hears_93 (F : Nat) (x0 : Nat) (x1 : Int32) (x2 : Int32) : Nat → Int32 → ab_H → Option (Int32 × ab_H)
  | 0, _, _ => none
  | n + 1, x3, h => (if x3 < x1 then (if x2 = 0 then ab_ck (¬ (nI 3) = 0) (ab_bd (ab_fw h x0 12 20 (.int (x1 / (nI 3)))) fun h22 => ab_cb x2 (some (x2, h22))) else ab_bd (ab_fr h x0 12 19) fun v24 => ab_bd (ab_fr h x0 12 7) fun v25 => ab_bd (ab_ia 0 h v25 x3) fun v26 => ab_bd (ab_iw 0 h v24 x3 v26) fun h27 => fX12_hears_93 F x0 x1 x2 n (x3 + nI 1) h27) else ab_ck (¬ (nI 3) = 0) (ab_bd (ab_fw h x0 12 20 (.int (x1 / (nI 3)))) fun h29 => ab_cb x2 (some (x2, h29))))
def fX12_hears (F : Nat) (x0 : Nat) (h : ab_H) : Option (Int32 × ab_H) := ab_bd (ab_fi h x0 12 8) fun v1 => ab_bd (ab_fw h x0 12 8 (.int (nI 0))) fun h2 => ab_ck (¬ (nI 3) = 0) ((if (ab_rm v1 (nI 3)) = 0 then (if v1 ≤ (nI 36) then fX12_hears_30 F x0 v1 h2 (fun (z18 : Int32) => fX12_hears_93 F x0 v1 z18 F (nI 0) h2) F (nI 1) (nI 0) else fX12_hears_30 F x0 v1 h2 (fun (z31 : Int32) => fX12_hears_93 F x0 v1 z31 F (nI 0) h2) F (nI 0) (nI 0)) else fX12_hears_30 F x0 v1 h2 (fun (z32 : Int32) => fX12_hears_93 F x0 v1 z32 F (nI 0) h2) F (nI 0) (nI 0)))
set_option maxRecDepth 100000 in
set_option maxHeartbeats 4000000 in
theorem lX12_hears_30 {l : Launch} (hl : l.stackTraces = false) (F : Nat) (x0 : Nat) (x1 : Int32) (h : ab_H) {k91 : Int32 → Option (Int32 × ab_H)} (hk91 : ∀ (x2 : Int32), ab_S l mX12_hears (fun y : (Int32 × ab_H) => ((.inl (some (.int y.1)), y.2) : ab_R × ab_H)) 0 0 (k91 x2) 91 [(0, .ref x0), (1, .int x1), (2, .int x2)] [] h) : ∀ (n : Nat) (x2 : Int32) (x3 : Int32), ab_S l mX12_hears (fun y : (Int32 × ab_H) => ((.inl (some (.int y.1)), y.2) : ab_R × ab_H)) 0 0 (fX12_hears_30 F x0 x1 h k91 n x2 x3) 30 [(0, .ref x0), (1, .int x1), (2, .int x2), (3, .int x3)] [] h := by
  intro n
  induction n with
  | zero =>
    intro x2 x3
    exact ab_none
  | succ n ih =>
    intro x2 x3
    rw [fX12_hears_30]
    refine ab_iload_n (pc := 30) (n := 3) (i := 3) (j := 3) (by decide +kernel) rfl rfl ?_
    refine ab_iload_n (pc := 31) (n := 1) (i := 1) (j := 1) (by decide +kernel) rfl rfl ?_
    refine ab_icmp_ge (off := 59) (pc := 32) (tgt := 91) (by decide +kernel) (by decide) (fun g6 => ?_) (fun g6 => ?_)
    · refine ab_iload_n (pc := 35) (n := 2) (i := 2) (j := 2) (by decide +kernel) rfl rfl ?_
      refine ab_if_eq (off := 55) (pc := 36) (tgt := 91) (by decide +kernel) (by decide) (fun g7 => ?_) (fun g7 => ?_)
      · refine ab_few [0, 1, 2] (lv' := [(0, .ref x0), (1, .int x1), (2, .int x2)]) rfl ?_
        exact hk91 x2
      · refine ab_iload_n (pc := 39) (n := 3) (i := 3) (j := 3) (by decide +kernel) rfl rfl ?_
        refine ab_iconst (pc := 40) (n := 3) (v := nI 3) (by decide +kernel) rfl ?_
        refine ab_irem (pc := 41) (by decide +kernel) (fun g8 => ?_)
        refine ab_iconst (pc := 42) (n := 2) (v := nI 2) (by decide +kernel) rfl ?_
        refine ab_icmp_ge (off := 26) (pc := 43) (tgt := 69) (by decide +kernel) (by decide) (fun g9 => ?_) (fun g9 => ?_)
        · refine ab_aload_n (pc := 46) (n := 0) (i := 0) (j := 0) (by decide +kernel) rfl rfl ?_
          refine ab_getR (pc := 47) fl_X12_22_12 (by decide +kernel) (fun v10 ev10 => ?_)
          refine ab_iload_n (pc := 50) (n := 3) (i := 3) (j := 3) (by decide +kernel) rfl rfl ?_
          refine ab_iald (pc := 51) (by decide +kernel) (fun v11 ev11 => ?_)
          refine ab_aload_n (pc := 52) (n := 0) (i := 0) (j := 0) (by decide +kernel) rfl rfl ?_
          refine ab_getR (pc := 53) fl_X12_7_12 (by decide +kernel) (fun v12 ev12 => ?_)
          refine ab_iconst (pc := 56) (n := 3) (v := nI 3) (by decide +kernel) rfl ?_
          refine ab_iald (pc := 57) (by decide +kernel) (fun v13 ev13 => ?_)
          refine ab_icmp_ge (off := 7) (pc := 58) (tgt := 65) (by decide +kernel) (by decide) (fun g14 => ?_) (fun g14 => ?_)
          · refine ab_iconst (pc := 61) (n := 1) (v := nI 1) (by decide +kernel) rfl ?_
            refine ab_goto (pc := 62) (off := 22) (tgt := 84) (by decide +kernel) (by decide) ?_
            refine ab_istore_n (pc := 84) (n := 2) (i := 2) (lv' := [(0, .ref x0), (1, .int x1), (2, .int (nI 1)), (3, .int x3)]) (by decide +kernel) rfl (Nat.le_of_ble_eq_true rfl) rfl rfl ?_
            refine ab_iinc (pc := 85) (i := 3) (n := 1) (j := 3) (d := nI 1) (lv' := [(0, .ref x0), (1, .int x1), (2, .int (nI 1)), (3, .int (x3 + nI 1))]) (by decide +kernel) rfl rfl (Nat.le_of_ble_eq_true rfl) rfl rfl ?_
            refine ab_goto (pc := 88) (off := (-58)) (tgt := 30) (by decide +kernel) (by decide) ?_
            exact ih (nI 1) (x3 + nI 1)
          · refine ab_iconst (pc := 65) (n := 0) (v := nI 0) (by decide +kernel) rfl ?_
            refine ab_goto (pc := 66) (off := 18) (tgt := 84) (by decide +kernel) (by decide) ?_
            refine ab_istore_n (pc := 84) (n := 2) (i := 2) (lv' := [(0, .ref x0), (1, .int x1), (2, .int (nI 0)), (3, .int x3)]) (by decide +kernel) rfl (Nat.le_of_ble_eq_true rfl) rfl rfl ?_
            refine ab_iinc (pc := 85) (i := 3) (n := 1) (j := 3) (d := nI 1) (lv' := [(0, .ref x0), (1, .int x1), (2, .int (nI 0)), (3, .int (x3 + nI 1))]) (by decide +kernel) rfl rfl (Nat.le_of_ble_eq_true rfl) rfl rfl ?_
            refine ab_goto (pc := 88) (off := (-58)) (tgt := 30) (by decide +kernel) (by decide) ?_
            exact ih (nI 0) (x3 + nI 1)
        · refine ab_aload_n (pc := 69) (n := 0) (i := 0) (j := 0) (by decide +kernel) rfl rfl ?_
          refine ab_getR (pc := 70) fl_X12_22_12 (by decide +kernel) (fun v15 ev15 => ?_)
          refine ab_iload_n (pc := 73) (n := 3) (i := 3) (j := 3) (by decide +kernel) rfl rfl ?_
          refine ab_iald (pc := 74) (by decide +kernel) (fun v16 ev16 => ?_)
          refine ab_iconst (pc := 75) (n := 2) (v := nI 2) (by decide +kernel) rfl ?_
          refine ab_icmp_ge (off := 7) (pc := 76) (tgt := 83) (by decide +kernel) (by decide) (fun g17 => ?_) (fun g17 => ?_)
          · refine ab_iconst (pc := 79) (n := 1) (v := nI 1) (by decide +kernel) rfl ?_
            refine ab_goto (pc := 80) (off := 4) (tgt := 84) (by decide +kernel) (by decide) ?_
            refine ab_istore_n (pc := 84) (n := 2) (i := 2) (lv' := [(0, .ref x0), (1, .int x1), (2, .int (nI 1)), (3, .int x3)]) (by decide +kernel) rfl (Nat.le_of_ble_eq_true rfl) rfl rfl ?_
            refine ab_iinc (pc := 85) (i := 3) (n := 1) (j := 3) (d := nI 1) (lv' := [(0, .ref x0), (1, .int x1), (2, .int (nI 1)), (3, .int (x3 + nI 1))]) (by decide +kernel) rfl rfl (Nat.le_of_ble_eq_true rfl) rfl rfl ?_
            refine ab_goto (pc := 88) (off := (-58)) (tgt := 30) (by decide +kernel) (by decide) ?_
            exact ih (nI 1) (x3 + nI 1)
          · refine ab_iconst (pc := 83) (n := 0) (v := nI 0) (by decide +kernel) rfl ?_
            refine ab_istore_n (pc := 84) (n := 2) (i := 2) (lv' := [(0, .ref x0), (1, .int x1), (2, .int (nI 0)), (3, .int x3)]) (by decide +kernel) rfl (Nat.le_of_ble_eq_true rfl) rfl rfl ?_
            refine ab_iinc (pc := 85) (i := 3) (n := 1) (j := 3) (d := nI 1) (lv' := [(0, .ref x0), (1, .int x1), (2, .int (nI 0)), (3, .int (x3 + nI 1))]) (by decide +kernel) rfl rfl (Nat.le_of_ble_eq_true rfl) rfl rfl ?_
            refine ab_goto (pc := 88) (off := (-58)) (tgt := 30) (by decide +kernel) (by decide) ?_
            exact ih (nI 0) (x3 + nI 1)
    · refine ab_few [0, 1, 2] (lv' := [(0, .ref x0), (1, .int x1), (2, .int x2)]) rfl ?_
      exact hk91 x2
set_option maxRecDepth 100000 in
set_option maxHeartbeats 4000000 in
theorem lX12_hears_93 {l : Launch} (hl : l.stackTraces = false) (F : Nat) (x0 : Nat) (x1 : Int32) (x2 : Int32) : ∀ (n : Nat) (x3 : Int32) (h : ab_H), ab_S l mX12_hears (fun y : (Int32 × ab_H) => ((.inl (some (.int y.1)), y.2) : ab_R × ab_H)) 0 0 (fX12_hears_93 F x0 x1 x2 n x3 h) 93 [(0, .ref x0), (1, .int x1), (2, .int x2), (3, .int x3)] [] h := by
  intro n
  induction n with
  | zero =>
    intro x3 h
    exact ab_none
  | succ n ih =>
    intro x3 h
    rw [fX12_hears_93]
    refine ab_iload_n (pc := 93) (n := 3) (i := 3) (j := 3) (by decide +kernel) rfl rfl ?_
    refine ab_iload_n (pc := 94) (n := 1) (i := 1) (j := 1) (by decide +kernel) rfl rfl ?_
    refine ab_icmp_ge (off := 25) (pc := 95) (tgt := 120) (by decide +kernel) (by decide) (fun g19 => ?_) (fun g19 => ?_)
    · refine ab_iload_n (pc := 98) (n := 2) (i := 2) (j := 2) (by decide +kernel) rfl rfl ?_
      refine ab_if_eq (off := 21) (pc := 99) (tgt := 120) (by decide +kernel) (by decide) (fun g20 => ?_) (fun g20 => ?_)
      · refine ab_aload_n (pc := 120) (n := 0) (i := 0) (j := 0) (by decide +kernel) rfl rfl ?_
        refine ab_iload_n (pc := 121) (n := 1) (i := 1) (j := 1) (by decide +kernel) rfl rfl ?_
        refine ab_iconst (pc := 122) (n := 3) (v := nI 3) (by decide +kernel) rfl ?_
        refine ab_idiv (pc := 123) (by decide +kernel) (fun g21 => ?_)
        refine ab_put (pc := 124) fl_X12_341_12 rfl (fun _ => rfl) (fun _ => rfl) (by decide +kernel) (fun h22 eh22 => ?_)
        refine ab_iload_n (pc := 127) (n := 2) (i := 2) (j := 2) (by decide +kernel) rfl rfl ?_
        refine ab_cbr (fun b23 => ?_)
        exact ab_zret (pc := 128) (by decide +kernel) rfl b23.1 rfl (Nat.le_of_ble_eq_true rfl) (Nat.le_of_ble_eq_true rfl)
      · refine ab_aload_n (pc := 102) (n := 0) (i := 0) (j := 0) (by decide +kernel) rfl rfl ?_
        refine ab_getR (pc := 103) fl_X12_32_12 (by decide +kernel) (fun v24 ev24 => ?_)
        refine ab_iload_n (pc := 106) (n := 3) (i := 3) (j := 3) (by decide +kernel) rfl rfl ?_
        refine ab_aload_n (pc := 107) (n := 0) (i := 0) (j := 0) (by decide +kernel) rfl rfl ?_
        refine ab_getR (pc := 108) fl_X12_22_12 (by decide +kernel) (fun v25 ev25 => ?_)
        refine ab_iload_n (pc := 111) (n := 3) (i := 3) (j := 3) (by decide +kernel) rfl rfl ?_
        refine ab_iald (pc := 112) (by decide +kernel) (fun v26 ev26 => ?_)
        refine ab_iast (pc := 113) (by decide +kernel) (fun h27 eh27 => ?_)
        refine ab_iinc (pc := 114) (i := 3) (n := 1) (j := 3) (d := nI 1) (lv' := [(0, .ref x0), (1, .int x1), (2, .int x2), (3, .int (x3 + nI 1))]) (by decide +kernel) rfl rfl (Nat.le_of_ble_eq_true rfl) rfl rfl ?_
        refine ab_goto (pc := 117) (off := (-24)) (tgt := 93) (by decide +kernel) (by decide) ?_
        exact ih (x3 + nI 1) h27
    · refine ab_aload_n (pc := 120) (n := 0) (i := 0) (j := 0) (by decide +kernel) rfl rfl ?_
      refine ab_iload_n (pc := 121) (n := 1) (i := 1) (j := 1) (by decide +kernel) rfl rfl ?_
      refine ab_iconst (pc := 122) (n := 3) (v := nI 3) (by decide +kernel) rfl ?_
      refine ab_idiv (pc := 123) (by decide +kernel) (fun g28 => ?_)
      refine ab_put (pc := 124) fl_X12_341_12 rfl (fun _ => rfl) (fun _ => rfl) (by decide +kernel) (fun h29 eh29 => ?_)
      refine ab_iload_n (pc := 127) (n := 2) (i := 2) (j := 2) (by decide +kernel) rfl rfl ?_
      refine ab_cbr (fun b30 => ?_)
      exact ab_zret (pc := 128) (by decide +kernel) rfl b30.1 rfl (Nat.le_of_ble_eq_true rfl) (Nat.le_of_ble_eq_true rfl)
set_option maxRecDepth 100000 in
set_option maxHeartbeats 4000000 in
theorem wX12_hears {l : Launch} (hl : l.stackTraces = false) (F : Nat) (x0 : Nat) (h : ab_H) : ab_S l mX12_hears (fun y : (Int32 × ab_H) => ((.inl (some (.int y.1)), y.2) : ab_R × ab_H)) 0 0 (fX12_hears F x0 h) 0 [(0, .ref x0)] [] h := by
  unfold fX12_hears
  refine ab_aload_n (pc := 0) (n := 0) (i := 0) (j := 0) (by decide +kernel) rfl rfl ?_
  refine ab_getI (pc := 1) fl_X12_61_12 (by decide +kernel) (fun v1 ev1 => ?_)
  refine ab_istore_n (pc := 4) (n := 1) (i := 1) (lv' := [(0, .ref x0), (1, .int v1)]) (by decide +kernel) rfl (Nat.le_of_ble_eq_true rfl) rfl rfl ?_
  refine ab_aload_n (pc := 5) (n := 0) (i := 0) (j := 0) (by decide +kernel) rfl rfl ?_
  refine ab_iconst (pc := 6) (n := 0) (v := nI 0) (by decide +kernel) rfl ?_
  refine ab_put (pc := 7) fl_X12_61_12 rfl (fun _ => rfl) (fun _ => rfl) (by decide +kernel) (fun h2 eh2 => ?_)
  refine ab_iload_n (pc := 10) (n := 1) (i := 1) (j := 1) (by decide +kernel) rfl rfl ?_
  refine ab_iconst (pc := 11) (n := 3) (v := nI 3) (by decide +kernel) rfl ?_
  refine ab_irem (pc := 12) (by decide +kernel) (fun g3 => ?_)
  refine ab_if_ne (off := 13) (pc := 13) (tgt := 26) (by decide +kernel) (by decide) (fun g4 => ?_) (fun g4 => ?_)
  · refine ab_iload_n (pc := 16) (n := 1) (i := 1) (j := 1) (by decide +kernel) rfl rfl ?_
    refine ab_bipush (pc := 17) (n := 36) (v := nI 36) (by decide +kernel) (by decide) ?_
    refine ab_icmp_gt (off := 7) (pc := 19) (tgt := 26) (by decide +kernel) (by decide) (fun g5 => ?_) (fun g5 => ?_)
    · refine ab_iconst (pc := 22) (n := 1) (v := nI 1) (by decide +kernel) rfl ?_
      refine ab_goto (pc := 23) (off := 4) (tgt := 27) (by decide +kernel) (by decide) ?_
      refine ab_istore_n (pc := 27) (n := 2) (i := 2) (lv' := [(0, .ref x0), (1, .int v1), (2, .int (nI 1))]) (by decide +kernel) rfl (Nat.le_of_ble_eq_true rfl) rfl rfl ?_
      refine ab_iconst (pc := 28) (n := 0) (v := nI 0) (by decide +kernel) rfl ?_
      refine ab_istore_n (pc := 29) (n := 3) (i := 3) (lv' := [(0, .ref x0), (1, .int v1), (2, .int (nI 1)), (3, .int (nI 0))]) (by decide +kernel) rfl (Nat.le_of_ble_eq_true rfl) rfl rfl ?_
      refine lX12_hears_30 hl F x0 v1 h2 ?_ F (nI 1) (nI 0)
      intro z18
      refine ab_iconst (pc := 91) (n := 0) (v := nI 0) (by decide +kernel) rfl ?_
      refine ab_istore_n (pc := 92) (n := 3) (i := 3) (lv' := [(0, .ref x0), (1, .int v1), (2, .int z18), (3, .int (nI 0))]) (by decide +kernel) rfl (Nat.le_of_ble_eq_true rfl) rfl rfl ?_
      refine lX12_hears_93 hl F x0 v1 z18 F (nI 0) h2
    · refine ab_iconst (pc := 26) (n := 0) (v := nI 0) (by decide +kernel) rfl ?_
      refine ab_istore_n (pc := 27) (n := 2) (i := 2) (lv' := [(0, .ref x0), (1, .int v1), (2, .int (nI 0))]) (by decide +kernel) rfl (Nat.le_of_ble_eq_true rfl) rfl rfl ?_
      refine ab_iconst (pc := 28) (n := 0) (v := nI 0) (by decide +kernel) rfl ?_
      refine ab_istore_n (pc := 29) (n := 3) (i := 3) (lv' := [(0, .ref x0), (1, .int v1), (2, .int (nI 0)), (3, .int (nI 0))]) (by decide +kernel) rfl (Nat.le_of_ble_eq_true rfl) rfl rfl ?_
      refine lX12_hears_30 hl F x0 v1 h2 ?_ F (nI 0) (nI 0)
      intro z31
      refine ab_iconst (pc := 91) (n := 0) (v := nI 0) (by decide +kernel) rfl ?_
      refine ab_istore_n (pc := 92) (n := 3) (i := 3) (lv' := [(0, .ref x0), (1, .int v1), (2, .int z31), (3, .int (nI 0))]) (by decide +kernel) rfl (Nat.le_of_ble_eq_true rfl) rfl rfl ?_
      refine lX12_hears_93 hl F x0 v1 z31 F (nI 0) h2
  · refine ab_iconst (pc := 26) (n := 0) (v := nI 0) (by decide +kernel) rfl ?_
    refine ab_istore_n (pc := 27) (n := 2) (i := 2) (lv' := [(0, .ref x0), (1, .int v1), (2, .int (nI 0))]) (by decide +kernel) rfl (Nat.le_of_ble_eq_true rfl) rfl rfl ?_
    refine ab_iconst (pc := 28) (n := 0) (v := nI 0) (by decide +kernel) rfl ?_
    refine ab_istore_n (pc := 29) (n := 3) (i := 3) (lv' := [(0, .ref x0), (1, .int v1), (2, .int (nI 0)), (3, .int (nI 0))]) (by decide +kernel) rfl (Nat.le_of_ble_eq_true rfl) rfl rfl ?_
    refine lX12_hears_30 hl F x0 v1 h2 ?_ F (nI 0) (nI 0)
    intro z32
    refine ab_iconst (pc := 91) (n := 0) (v := nI 0) (by decide +kernel) rfl ?_
    refine ab_istore_n (pc := 92) (n := 3) (i := 3) (lv' := [(0, .ref x0), (1, .int v1), (2, .int z32), (3, .int (nI 0))]) (by decide +kernel) rfl (Nat.le_of_ble_eq_true rfl) rfl rfl ?_
    refine lX12_hears_93 hl F x0 v1 z32 F (nI 0) h2
set_option maxRecDepth 100000 in
set_option maxHeartbeats 4000000 in
theorem okX12_hears {l : Launch} (hl : l.stackTraces = false) {F : Nat} {x0 : Nat} {h : ab_H} {y : (Int32 × ab_H)} (e : fX12_hears F x0 h = some y) : ab_Met l mX12_hears [.ref x0] h (.inl (some (.int y.1)), y.2) := ab_ofS (io := (fun y : (Int32 × ab_H) => ((.inl (some (.int y.1)), y.2) : ab_R × ab_H))) (x := y) hl (by decide) rfl (Nat.le_of_ble_eq_true rfl) (wX12_hears hl F x0 h) e
def mX12_counts : ab_M := (yX12_counts, cX12_counts, 6, (some .int), { frames := 1, cells := 0, slots := 0, locals := 22 })
theorem iX12_counts : ab_MI mX12_counts 0 := ⟨kw_377da0fcaf, kw_30b3f7d7c6, by decide +kernel⟩
def fX12_counts_36 (F : Nat) (x0 : Nat) (x1 : Int32) (x2 : Int32) (x3 : Int32) (h : ab_H) (k89 : Int32 → Option (Int32 × ab_H)) : Nat → Int32 → Int32 → Option (Int32 × ab_H)
  | 0, _, _ => none
  | n + 1, x4, x5 => (if x5 < x1 then ab_bd (fX12_isOf x2 x5 h) fun v8 => (if v8 = 0 then fX12_counts_36 F x0 x1 x2 x3 h k89 n x4 (x5 + nI 1) else ab_bd (ab_fr h x0 12 21) fun v10 => ab_bd (ab_ia 0 h v10 x3) fun v11 => ab_bd (fX12_isOf v11 x5 h) fun v12 => (if v12 = 0 then fX12_counts_36 F x0 x1 x2 x3 h k89 n x4 (x5 + nI 1) else ab_bd (ab_fr h x0 12 22) fun v14 => ab_bd (ab_ia 0 h v14 (x2 &&& (((nI 1) <<< (x5 &&& 31)) ^^^ (-1 : Int32)))) fun v15 => fX12_counts_36 F x0 x1 x2 x3 h k89 n (x4 + v15) (x5 + nI 1))) else k89 x4)
def fX12_counts_16 (F : Nat) (x0 : Nat) (x1 : Int32) : Nat → Int32 → ab_H → Option (Int32 × ab_H)
  | 0, _, _ => none
  | n + 1, x2, h => (if x2 < ((nI 1) <<< (x1 &&& 31)) then ab_bd (fX12_bits F x2 h) fun v6 => fX12_counts_36 F x0 x1 x2 (v6 - (nI 1)) h (fun (z16 : Int32) => ab_bd (ab_fr h x0 12 22) fun v17 => ab_bd (ab_iw 0 h v17 x2 z16) fun h18 => fX12_counts_16 F x0 x1 n (x2 + nI 1) h18) F (nI 0) (nI 0) else ab_bd (ab_fr h x0 12 22) fun v19 => ab_bd (ab_ia 0 h v19 (((nI 1) <<< (x1 &&& 31)) - (nI 1))) fun v20 => some (v20, h))
def fX12_counts (F : Nat) (x0 : Nat) (h : ab_H) : Option (Int32 × ab_H) := ab_bd (ab_fr h x0 12 1) fun v1 => ab_bd (ab_ia 0 h v1 (nI 3)) fun v2 => ab_bd (ab_fr h x0 12 22) fun v3 => ab_bd (ab_iw 0 h v3 (nI 0) (nI 1)) fun h4 => fX12_counts_16 F x0 v2 F (nI 1) h4
set_option maxRecDepth 100000 in
set_option maxHeartbeats 4000000 in
theorem lX12_counts_36 {l : Launch} (hl : l.stackTraces = false) (F : Nat) (x0 : Nat) (x1 : Int32) (x2 : Int32) (x3 : Int32) (h : ab_H) {k89 : Int32 → Option (Int32 × ab_H)} (hk89 : ∀ (x4 : Int32), ab_S l mX12_counts (fun y : (Int32 × ab_H) => ((.inl (some (.int y.1)), y.2) : ab_R × ab_H)) 0 0 (k89 x4) 89 [(0, .ref x0), (1, .int x1), (2, .int x2), (4, .int x4)] [] h) : ∀ (n : Nat) (x4 : Int32) (x5 : Int32), ab_S l mX12_counts (fun y : (Int32 × ab_H) => ((.inl (some (.int y.1)), y.2) : ab_R × ab_H)) 0 0 (fX12_counts_36 F x0 x1 x2 x3 h k89 n x4 x5) 36 [(0, .ref x0), (1, .int x1), (2, .int x2), (3, .int x3), (4, .int x4), (5, .int x5)] [] h := by
  intro n
  induction n with
  | zero =>
    intro x4 x5
    exact ab_none
  | succ n ih =>
    intro x4 x5
    rw [fX12_counts_36]
    refine ab_iload (pc := 36) (i := 5) (j := 5) (by decide +kernel) rfl ?_
    refine ab_iload_n (pc := 38) (n := 1) (i := 1) (j := 1) (by decide +kernel) rfl rfl ?_
    refine ab_icmp_ge (off := 50) (pc := 39) (tgt := 89) (by decide +kernel) (by decide) (fun g7 => ?_) (fun g7 => ?_)
    · refine ab_iload_n (pc := 42) (n := 2) (i := 2) (j := 2) (by decide +kernel) rfl rfl ?_
      refine ab_iload (pc := 43) (i := 5) (j := 5) (by decide +kernel) rfl ?_
      refine ab_callSi (As := [.int x2, .int x5]) (st := []) (pc := 45) lk_X12_107 rfl rfl rfl (by decide) rfl (Nat.le_of_ble_eq_true rfl) (by decide +kernel) (fun y9 e9 => okX12_isOf hl e9) (fun v8 ev8 => ?_)
      refine ab_if_eq (off := 35) (pc := 48) (tgt := 83) (by decide +kernel) (by decide) (fun g9 => ?_) (fun g9 => ?_)
      · refine ab_iinc (pc := 83) (i := 5) (n := 1) (j := 5) (d := nI 1) (lv' := [(0, .ref x0), (1, .int x1), (2, .int x2), (3, .int x3), (4, .int x4), (5, .int (x5 + nI 1))]) (by decide +kernel) rfl rfl (Nat.le_of_ble_eq_true rfl) rfl rfl ?_
        refine ab_goto (pc := 86) (off := (-50)) (tgt := 36) (by decide +kernel) (by decide) ?_
        exact ih x4 (x5 + nI 1)
      · refine ab_aload_n (pc := 51) (n := 0) (i := 0) (j := 0) (by decide +kernel) rfl rfl ?_
        refine ab_getR (pc := 52) fl_X12_35_12 (by decide +kernel) (fun v10 ev10 => ?_)
        refine ab_iload_n (pc := 55) (n := 3) (i := 3) (j := 3) (by decide +kernel) rfl rfl ?_
        refine ab_iald (pc := 56) (by decide +kernel) (fun v11 ev11 => ?_)
        refine ab_iload (pc := 57) (i := 5) (j := 5) (by decide +kernel) rfl ?_
        refine ab_callSi (As := [.int v11, .int x5]) (st := []) (pc := 59) lk_X12_107 rfl rfl rfl (by decide) rfl (Nat.le_of_ble_eq_true rfl) (by decide +kernel) (fun y9 e9 => okX12_isOf hl e9) (fun v12 ev12 => ?_)
        refine ab_if_eq (off := 21) (pc := 62) (tgt := 83) (by decide +kernel) (by decide) (fun g13 => ?_) (fun g13 => ?_)
        · refine ab_iinc (pc := 83) (i := 5) (n := 1) (j := 5) (d := nI 1) (lv' := [(0, .ref x0), (1, .int x1), (2, .int x2), (3, .int x3), (4, .int x4), (5, .int (x5 + nI 1))]) (by decide +kernel) rfl rfl (Nat.le_of_ble_eq_true rfl) rfl rfl ?_
          refine ab_goto (pc := 86) (off := (-50)) (tgt := 36) (by decide +kernel) (by decide) ?_
          exact ih x4 (x5 + nI 1)
        · refine ab_iload (pc := 65) (i := 4) (j := 4) (by decide +kernel) rfl ?_
          refine ab_aload_n (pc := 67) (n := 0) (i := 0) (j := 0) (by decide +kernel) rfl rfl ?_
          refine ab_getR (pc := 68) fl_X12_38_12 (by decide +kernel) (fun v14 ev14 => ?_)
          refine ab_iload_n (pc := 71) (n := 2) (i := 2) (j := 2) (by decide +kernel) rfl rfl ?_
          refine ab_iconst (pc := 72) (n := 1) (v := nI 1) (by decide +kernel) rfl ?_
          refine ab_iload (pc := 73) (i := 5) (j := 5) (by decide +kernel) rfl ?_
          refine ab_ishl (pc := 75) (by decide +kernel) ?_
          refine ab_iconst (pc := 76) (n := -1) (v := (-1 : Int32)) (by decide +kernel) rfl ?_
          refine ab_ixor (pc := 77) (by decide +kernel) ?_
          refine ab_iand (pc := 78) (by decide +kernel) ?_
          refine ab_iald (pc := 79) (by decide +kernel) (fun v15 ev15 => ?_)
          refine ab_iadd (pc := 80) (by decide +kernel) ?_
          refine ab_istore (pc := 81) (i := 4) (lv' := [(0, .ref x0), (1, .int x1), (2, .int x2), (3, .int x3), (4, .int (x4 + v15)), (5, .int x5)]) (by decide +kernel) (Nat.le_of_ble_eq_true rfl) rfl rfl ?_
          refine ab_iinc (pc := 83) (i := 5) (n := 1) (j := 5) (d := nI 1) (lv' := [(0, .ref x0), (1, .int x1), (2, .int x2), (3, .int x3), (4, .int (x4 + v15)), (5, .int (x5 + nI 1))]) (by decide +kernel) rfl rfl (Nat.le_of_ble_eq_true rfl) rfl rfl ?_
          refine ab_goto (pc := 86) (off := (-50)) (tgt := 36) (by decide +kernel) (by decide) ?_
          exact ih (x4 + v15) (x5 + nI 1)
    · refine ab_few [0, 1, 2, 4] (lv' := [(0, .ref x0), (1, .int x1), (2, .int x2), (4, .int x4)]) rfl ?_
      exact hk89 x4
set_option maxRecDepth 100000 in
set_option maxHeartbeats 4000000 in
theorem lX12_counts_16 {l : Launch} (hl : l.stackTraces = false) (F : Nat) (x0 : Nat) (x1 : Int32) : ∀ (n : Nat) (x2 : Int32) (h : ab_H), ab_S l mX12_counts (fun y : (Int32 × ab_H) => ((.inl (some (.int y.1)), y.2) : ab_R × ab_H)) 0 0 (fX12_counts_16 F x0 x1 n x2 h) 16 [(0, .ref x0), (1, .int x1), (2, .int x2)] [] h := by
  intro n
  induction n with
  | zero =>
    intro x2 h
    exact ab_none
  | succ n ih =>
    intro x2 h
    rw [fX12_counts_16]
    refine ab_iload_n (pc := 16) (n := 2) (i := 2) (j := 2) (by decide +kernel) rfl rfl ?_
    refine ab_iconst (pc := 17) (n := 1) (v := nI 1) (by decide +kernel) rfl ?_
    refine ab_iload_n (pc := 18) (n := 1) (i := 1) (j := 1) (by decide +kernel) rfl rfl ?_
    refine ab_ishl (pc := 19) (by decide +kernel) ?_
    refine ab_icmp_ge (off := 83) (pc := 20) (tgt := 103) (by decide +kernel) (by decide) (fun g5 => ?_) (fun g5 => ?_)
    · refine ab_iload_n (pc := 23) (n := 2) (i := 2) (j := 2) (by decide +kernel) rfl rfl ?_
      refine ab_callSi (As := [.int x2]) (st := []) (pc := 24) lk_X12_242 rfl rfl rfl (by decide) rfl (Nat.le_of_ble_eq_true rfl) (by decide +kernel) (fun y9 e9 => okX12_bits hl (F := F) e9) (fun v6 ev6 => ?_)
      refine ab_iconst (pc := 27) (n := 1) (v := nI 1) (by decide +kernel) rfl ?_
      refine ab_isub (pc := 28) (by decide +kernel) ?_
      refine ab_istore_n (pc := 29) (n := 3) (i := 3) (lv' := [(0, .ref x0), (1, .int x1), (2, .int x2), (3, .int (v6 - (nI 1)))]) (by decide +kernel) rfl (Nat.le_of_ble_eq_true rfl) rfl rfl ?_
      refine ab_iconst (pc := 30) (n := 0) (v := nI 0) (by decide +kernel) rfl ?_
      refine ab_istore (pc := 31) (i := 4) (lv' := [(0, .ref x0), (1, .int x1), (2, .int x2), (3, .int (v6 - (nI 1))), (4, .int (nI 0))]) (by decide +kernel) (Nat.le_of_ble_eq_true rfl) rfl rfl ?_
      refine ab_iconst (pc := 33) (n := 0) (v := nI 0) (by decide +kernel) rfl ?_
      refine ab_istore (pc := 34) (i := 5) (lv' := [(0, .ref x0), (1, .int x1), (2, .int x2), (3, .int (v6 - (nI 1))), (4, .int (nI 0)), (5, .int (nI 0))]) (by decide +kernel) (Nat.le_of_ble_eq_true rfl) rfl rfl ?_
      refine lX12_counts_36 hl F x0 x1 x2 (v6 - (nI 1)) h ?_ F (nI 0) (nI 0)
      intro z16
      refine ab_aload_n (pc := 89) (n := 0) (i := 0) (j := 0) (by decide +kernel) rfl rfl ?_
      refine ab_getR (pc := 90) fl_X12_38_12 (by decide +kernel) (fun v17 ev17 => ?_)
      refine ab_iload_n (pc := 93) (n := 2) (i := 2) (j := 2) (by decide +kernel) rfl rfl ?_
      refine ab_iload (pc := 94) (i := 4) (j := 3) (by decide +kernel) rfl ?_
      refine ab_iast (pc := 96) (by decide +kernel) (fun h18 eh18 => ?_)
      refine ab_iinc (pc := 97) (i := 2) (n := 1) (j := 2) (d := nI 1) (lv' := [(0, .ref x0), (1, .int x1), (2, .int (x2 + nI 1)), (4, .int z16)]) (by decide +kernel) rfl rfl (Nat.le_of_ble_eq_true rfl) rfl rfl ?_
      refine ab_goto (pc := 100) (off := (-84)) (tgt := 16) (by decide +kernel) (by decide) ?_
      refine ab_few [0, 1, 2] (lv' := [(0, .ref x0), (1, .int x1), (2, .int (x2 + nI 1))]) rfl ?_
      exact ih (x2 + nI 1) h18
    · refine ab_aload_n (pc := 103) (n := 0) (i := 0) (j := 0) (by decide +kernel) rfl rfl ?_
      refine ab_getR (pc := 104) fl_X12_38_12 (by decide +kernel) (fun v19 ev19 => ?_)
      refine ab_iconst (pc := 107) (n := 1) (v := nI 1) (by decide +kernel) rfl ?_
      refine ab_iload_n (pc := 108) (n := 1) (i := 1) (j := 1) (by decide +kernel) rfl rfl ?_
      refine ab_ishl (pc := 109) (by decide +kernel) ?_
      refine ab_iconst (pc := 110) (n := 1) (v := nI 1) (by decide +kernel) rfl ?_
      refine ab_isub (pc := 111) (by decide +kernel) ?_
      refine ab_iald (pc := 112) (by decide +kernel) (fun v20 ev20 => ?_)
      exact ab_iret (pc := 113) (by decide +kernel) rfl rfl (Nat.le_of_ble_eq_true rfl) (Nat.le_of_ble_eq_true rfl)
set_option maxRecDepth 100000 in
set_option maxHeartbeats 4000000 in
theorem wX12_counts {l : Launch} (hl : l.stackTraces = false) (F : Nat) (x0 : Nat) (h : ab_H) : ab_S l mX12_counts (fun y : (Int32 × ab_H) => ((.inl (some (.int y.1)), y.2) : ab_R × ab_H)) 0 0 (fX12_counts F x0 h) 0 [(0, .ref x0)] [] h := by
  unfold fX12_counts
  refine ab_aload_n (pc := 0) (n := 0) (i := 0) (j := 0) (by decide +kernel) rfl rfl ?_
  refine ab_getR (pc := 1) fl_X12_7_12 (by decide +kernel) (fun v1 ev1 => ?_)
  refine ab_iconst (pc := 4) (n := 3) (v := nI 3) (by decide +kernel) rfl ?_
  refine ab_iald (pc := 5) (by decide +kernel) (fun v2 ev2 => ?_)
  refine ab_istore_n (pc := 6) (n := 1) (i := 1) (lv' := [(0, .ref x0), (1, .int v2)]) (by decide +kernel) rfl (Nat.le_of_ble_eq_true rfl) rfl rfl ?_
  refine ab_aload_n (pc := 7) (n := 0) (i := 0) (j := 0) (by decide +kernel) rfl rfl ?_
  refine ab_getR (pc := 8) fl_X12_38_12 (by decide +kernel) (fun v3 ev3 => ?_)
  refine ab_iconst (pc := 11) (n := 0) (v := nI 0) (by decide +kernel) rfl ?_
  refine ab_iconst (pc := 12) (n := 1) (v := nI 1) (by decide +kernel) rfl ?_
  refine ab_iast (pc := 13) (by decide +kernel) (fun h4 eh4 => ?_)
  refine ab_iconst (pc := 14) (n := 1) (v := nI 1) (by decide +kernel) rfl ?_
  refine ab_istore_n (pc := 15) (n := 2) (i := 2) (lv' := [(0, .ref x0), (1, .int v2), (2, .int (nI 1))]) (by decide +kernel) rfl (Nat.le_of_ble_eq_true rfl) rfl rfl ?_
  refine lX12_counts_16 hl F x0 v2 F (nI 1) h4
set_option maxRecDepth 100000 in
set_option maxHeartbeats 4000000 in
theorem okX12_counts {l : Launch} (hl : l.stackTraces = false) {F : Nat} {x0 : Nat} {h : ab_H} {y : (Int32 × ab_H)} (e : fX12_counts F x0 h = some y) : ab_Met l mX12_counts [.ref x0] h (.inl (some (.int y.1)), y.2) := ab_ofS (io := (fun y : (Int32 × ab_H) => ((.inl (some (.int y.1)), y.2) : ab_R × ab_H))) (x := y) hl (by decide) rfl (Nat.le_of_ble_eq_true rfl) (wX12_counts hl F x0 h) e
def mX12_step : ab_M := (yX12_step, cX12_step, 5, (some .int), { frames := 1, cells := 0, slots := 0, locals := 22 })
theorem iX12_step : ab_MI mX12_step 2 := ⟨kw_fcd8407ceb, kw_30b3f7d7c6, by decide +kernel⟩
def fX12_step (x0 : Nat) (x1 : Int32) (x2 : Int32) (h : ab_H) : Option Int32 := ab_jn (κ := Int32 → Option Int32) (fun (z1 : Int32) => ab_ck (ab_io h x0 12 = true) (ab_bd (fX12_of x0 x2 (nI 3) h) fun v2 => (if (v2 - z1) < 0 then some ((-(v2 - z1)) + (nI 1)) else some ((v2 - z1) + (nI 1))))) fun j4 => (if x1 = (-1 : Int32) then j4 (nI 0) else ab_ck (ab_io h x0 12 = true) (ab_bd (fX12_of x0 x1 (nI 3) h) fun v6 => j4 v6))
set_option maxRecDepth 100000 in
set_option maxHeartbeats 4000000 in
theorem wX12_step {l : Launch} (hl : l.stackTraces = false) (x0 : Nat) (x1 : Int32) (x2 : Int32) (h : ab_H) : ab_S l mX12_step (fun y : Int32 => ((.inl (some (.int y)), h) : ab_R × ab_H)) 0 0 (fX12_step x0 x1 x2 h) 0 [(0, .ref x0), (1, .int x1), (2, .int x2)] [] h := by
  unfold fX12_step
  refine ab_iload_n (pc := 0) (n := 1) (i := 1) (j := 1) (by decide +kernel) rfl rfl ?_
  refine ab_iconst (pc := 1) (n := -1) (v := (-1 : Int32)) (by decide +kernel) rfl ?_
  refine ab_jr (fun k9 : Int32 → Option Int32 => ∀ (z1 : Int32), ab_S l mX12_step (fun y : Int32 => ((.inl (some (.int y)), h) : ab_R × ab_H)) 0 0 (k9 z1) 15 [(0, .ref x0), (2, .int x2)] [.int z1] h) ?_ (fun j4 hj4 => ?_)
  · intro z1
    refine ab_istore_n (pc := 15) (n := 3) (i := 3) (lv' := [(0, .ref x0), (2, .int x2), (3, .int z1)]) (by decide +kernel) rfl (Nat.le_of_ble_eq_true rfl) rfl rfl ?_
    refine ab_aload_n (pc := 16) (n := 0) (i := 0) (j := 0) (by decide +kernel) rfl rfl ?_
    refine ab_iload_n (pc := 17) (n := 2) (i := 2) (j := 1) (by decide +kernel) rfl rfl ?_
    refine ab_iconst (pc := 18) (n := 3) (v := nI 3) (by decide +kernel) rfl ?_
    refine ab_callVi (As := [.int x2, .int (nI 3)]) (st := []) (pc := 19) lk_X12_57_12 rfl rfl rfl (by decide) rfl (Nat.le_of_ble_eq_true rfl) (by decide +kernel) (fun y9 e9 => okX12_of hl e9) (fun v2 ev2 => ?_)
    refine ab_iload_n (pc := 22) (n := 3) (i := 3) (j := 2) (by decide +kernel) rfl rfl ?_
    refine ab_isub (pc := 23) (by decide +kernel) ?_
    refine ab_istore (pc := 24) (i := 4) (lv' := [(0, .ref x0), (2, .int x2), (3, .int z1), (4, .int (v2 - z1))]) (by decide +kernel) (Nat.le_of_ble_eq_true rfl) rfl rfl ?_
    refine ab_iload (pc := 26) (i := 4) (j := 3) (by decide +kernel) rfl ?_
    refine ab_if_ge (off := 9) (pc := 28) (tgt := 37) (by decide +kernel) (by decide) (fun g3 => ?_) (fun g3 => ?_)
    · refine ab_iload (pc := 31) (i := 4) (j := 3) (by decide +kernel) rfl ?_
      refine ab_ineg (pc := 33) (by decide +kernel) ?_
      refine ab_goto (pc := 34) (off := 5) (tgt := 39) (by decide +kernel) (by decide) ?_
      refine ab_iconst (pc := 39) (n := 1) (v := nI 1) (by decide +kernel) rfl ?_
      refine ab_iadd (pc := 40) (by decide +kernel) ?_
      exact ab_iret (pc := 41) (by decide +kernel) rfl rfl (Nat.le_of_ble_eq_true rfl) (Nat.le_of_ble_eq_true rfl)
    · refine ab_iload (pc := 37) (i := 4) (j := 3) (by decide +kernel) rfl ?_
      refine ab_iconst (pc := 39) (n := 1) (v := nI 1) (by decide +kernel) rfl ?_
      refine ab_iadd (pc := 40) (by decide +kernel) ?_
      exact ab_iret (pc := 41) (by decide +kernel) rfl rfl (Nat.le_of_ble_eq_true rfl) (Nat.le_of_ble_eq_true rfl)
  · refine ab_icmp_ne (off := 7) (pc := 2) (tgt := 9) (by decide +kernel) (by decide) (fun g5 => ?_) (fun g5 => ?_)
    · refine ab_iconst (pc := 5) (n := 0) (v := nI 0) (by decide +kernel) rfl ?_
      refine ab_goto (pc := 6) (off := 9) (tgt := 15) (by decide +kernel) (by decide) ?_
      refine ab_few [0, 2] (lv' := [(0, .ref x0), (2, .int x2)]) rfl ?_
      exact hj4 (nI 0)
    · refine ab_aload_n (pc := 9) (n := 0) (i := 0) (j := 0) (by decide +kernel) rfl rfl ?_
      refine ab_iload_n (pc := 10) (n := 1) (i := 1) (j := 1) (by decide +kernel) rfl rfl ?_
      refine ab_iconst (pc := 11) (n := 3) (v := nI 3) (by decide +kernel) rfl ?_
      refine ab_callVi (As := [.int x1, .int (nI 3)]) (st := []) (pc := 12) lk_X12_57_12 rfl rfl rfl (by decide) rfl (Nat.le_of_ble_eq_true rfl) (by decide +kernel) (fun y9 e9 => okX12_of hl e9) (fun v6 ev6 => ?_)
      refine ab_few [0, 2] (lv' := [(0, .ref x0), (2, .int x2)]) rfl ?_
      exact hj4 v6
set_option maxRecDepth 100000 in
set_option maxHeartbeats 4000000 in
theorem okX12_step {l : Launch} (hl : l.stackTraces = false) {x0 : Nat} {x1 : Int32} {x2 : Int32} {h : ab_H} {y : Int32} (e : fX12_step x0 x1 x2 h = some y) : ab_Met l mX12_step [.ref x0, .int x1, .int x2] h (.inl (some (.int y)), h) := ab_ofS (io := (fun y : Int32 => ((.inl (some (.int y)), h) : ab_R × ab_H))) (x := y) hl (by decide) rfl (Nat.le_of_ble_eq_true rfl) (wX12_step hl x0 x1 x2 h) e
def mX12_left : ab_M := (yX12_left, cX12_left, 3, (some .int), { frames := 0, cells := 0, slots := 0, locals := 0 })
theorem iX12_left : ab_MI mX12_left 2 := ⟨kw_6b0d46cb54, kw_30b3f7d7c6, by decide +kernel⟩
def fX12_left (x0 : Nat) (x1 : Int32) (x2 : Int32) (h : ab_H) : Option Int32 := ab_bd (ab_fr h x0 12 24) fun v1 => ab_bd (ab_ia 0 h v1 (((nI 10) * x1) + x2)) fun v2 => some v2
set_option maxRecDepth 100000 in
set_option maxHeartbeats 4000000 in
theorem wX12_left {l : Launch} (hl : l.stackTraces = false) (x0 : Nat) (x1 : Int32) (x2 : Int32) (h : ab_H) : ab_S l mX12_left (fun y : Int32 => ((.inl (some (.int y)), h) : ab_R × ab_H)) 0 0 (fX12_left x0 x1 x2 h) 0 [(0, .ref x0), (1, .int x1), (2, .int x2)] [] h := by
  unfold fX12_left
  refine ab_aload_n (pc := 0) (n := 0) (i := 0) (j := 0) (by decide +kernel) rfl rfl ?_
  refine ab_getR (pc := 1) fl_X12_44_12 (by decide +kernel) (fun v1 ev1 => ?_)
  refine ab_bipush (pc := 4) (n := 10) (v := nI 10) (by decide +kernel) (by decide) ?_
  refine ab_iload_n (pc := 6) (n := 1) (i := 1) (j := 1) (by decide +kernel) rfl rfl ?_
  refine ab_imul (pc := 7) (by decide +kernel) ?_
  refine ab_iload_n (pc := 8) (n := 2) (i := 2) (j := 2) (by decide +kernel) rfl rfl ?_
  refine ab_iadd (pc := 9) (by decide +kernel) ?_
  refine ab_iald (pc := 10) (by decide +kernel) (fun v2 ev2 => ?_)
  exact ab_iret (pc := 11) (by decide +kernel) rfl rfl (Nat.le_of_ble_eq_true rfl) (Nat.le_of_ble_eq_true rfl)
set_option maxRecDepth 100000 in
set_option maxHeartbeats 4000000 in
theorem okX12_left {l : Launch} (hl : l.stackTraces = false) {x0 : Nat} {x1 : Int32} {x2 : Int32} {h : ab_H} {y : Int32} (e : fX12_left x0 x1 x2 h = some y) : ab_Met l mX12_left [.ref x0, .int x1, .int x2] h (.inl (some (.int y)), h) := ab_ofS (io := (fun y : Int32 => ((.inl (some (.int y)), h) : ab_R × ab_H))) (x := y) hl (by decide) rfl (Nat.le_of_ble_eq_true rfl) (wX12_left hl x0 x1 x2 h) e
def mX12_serves : ab_M := (yX12_serves, cX12_serves, 6, none, { frames := 2, cells := 0, slots := 0, locals := 46 })
theorem iX12_serves : ab_MI mX12_serves 1 := ⟨kw_3a4b7d2d53, kw_30b3f7d7c6, by decide +kernel⟩
theorem lk_X12_357_12 : ab_LV RX12 357 12 mX12_step 2 := ⟨RX12, rfl, iX12_step, kw_d7e40cf7d7, kw_549b6e458e, kw_a5b6ab5719⟩
theorem lk_X12_360_12 : ab_LV RX12 360 12 mX12_left 2 := ⟨RX12, rfl, iX12_left, kw_a7938b8896, kw_4a4df94fb6, kw_e33c84ad67⟩
def fX12_serves_46 (F : Nat) (x0 : Nat) (x1 : Int32) (x2 : Int32) (x3 : Int32) (h : ab_H) (k112 : Int32 → Option ab_H) : Nat → Int32 → Int32 → Option ab_H
  | 0, _, _ => none
  | n + 1, x4, x5 => ab_bd (ab_fr h x0 12 1) fun v7 => ab_bd (ab_ia 0 h v7 (nI 3)) fun v8 => (if x5 < v8 then ab_bd (fX12_isOf (x1 &&& (x2 ^^^ (-1 : Int32))) x5 h) fun v10 => (if v10 = 0 then fX12_serves_46 F x0 x1 x2 x3 h k112 n x4 (x5 + nI 1) else ab_ck (ab_io h x0 12 = true) (ab_bd (fX12_step x0 x3 x5 h) fun v12 => ab_bd (fX12_bits F (x1 &&& (x2 ^^^ (-1 : Int32))) h) fun v13 => ab_ck (ab_io h x0 12 = true) (ab_bd (fX12_left x0 (x2 ||| ((nI 1) <<< (x5 &&& 31))) x5 h) fun v14 => ab_bd (fX12_lesser x4 ((v12 * v13) + v14) h) fun v15 => fX12_serves_46 F x0 x1 x2 x3 h k112 n v15 (x5 + nI 1)))) else k112 x4)
def fX12_serves_19 (F : Nat) (x0 : Nat) (x1 : Int32) (x2 : Int32) (k131 : ab_H → Option ab_H) : Nat → Int32 → ab_H → Option ab_H
  | 0, _, _ => none
  | n + 1, x3, h => ab_bd (ab_fr h x0 12 1) fun v3 => ab_bd (ab_ia 0 h v3 (nI 3)) fun v4 => (if x3 < v4 then (if x2 = x1 then fX12_serves_46 F x0 x1 x2 x3 h (fun (z16 : Int32) => ab_bd (ab_fr h x0 12 24) fun v17 => ab_bd (ab_iw 0 h v17 (((nI 10) * x2) + x3) z16) fun h18 => fX12_serves_19 F x0 x1 x2 k131 n (x3 + nI 1) h18) F (nI 0) (nI 0) else fX12_serves_46 F x0 x1 x2 x3 h (fun (z19 : Int32) => ab_bd (ab_fr h x0 12 24) fun v20 => ab_bd (ab_iw 0 h v20 (((nI 10) * x2) + x3) z19) fun h21 => fX12_serves_19 F x0 x1 x2 k131 n (x3 + nI 1) h21) F (nI 2000000000) (nI 0)) else k131 h)
def fX12_serves_2 (F : Nat) (x0 : Nat) (x1 : Int32) : Nat → Int32 → ab_H → Option ab_H
  | 0, _, _ => none
  | n + 1, x2, h => (if x2 ≤ 0 then some h else (if (x2 &&& (x1 ^^^ (-1 : Int32))) = 0 then fX12_serves_19 F x0 x1 x2 (fun (h22 : ab_H) => fX12_serves_2 F x0 x1 n (x2 + (-1 : Int32)) h22) F (nI 0) h else fX12_serves_2 F x0 x1 n (x2 + (-1 : Int32)) h))
def fX12_serves (F : Nat) (x0 : Nat) (x1 : Int32) (h : ab_H) : Option ab_H := fX12_serves_2 F x0 x1 F x1 h
set_option maxRecDepth 100000 in
set_option maxHeartbeats 4000000 in
theorem lX12_serves_46 {l : Launch} (hl : l.stackTraces = false) (F : Nat) (x0 : Nat) (x1 : Int32) (x2 : Int32) (x3 : Int32) (h : ab_H) {k112 : Int32 → Option ab_H} (hk112 : ∀ (x4 : Int32), ab_S l mX12_serves (fun y : ab_H => ((.inl none, y) : ab_R × ab_H)) 0 0 (k112 x4) 112 [(0, .ref x0), (1, .int x1), (2, .int x2), (3, .int x3), (4, .int x4)] [] h) : ∀ (n : Nat) (x4 : Int32) (x5 : Int32), ab_S l mX12_serves (fun y : ab_H => ((.inl none, y) : ab_R × ab_H)) 0 0 (fX12_serves_46 F x0 x1 x2 x3 h k112 n x4 x5) 46 [(0, .ref x0), (1, .int x1), (2, .int x2), (3, .int x3), (4, .int x4), (5, .int x5)] [] h := by
  intro n
  induction n with
  | zero =>
    intro x4 x5
    exact ab_none
  | succ n ih =>
    intro x4 x5
    rw [fX12_serves_46]
    refine ab_iload (pc := 46) (i := 5) (j := 5) (by decide +kernel) rfl ?_
    refine ab_aload_n (pc := 48) (n := 0) (i := 0) (j := 0) (by decide +kernel) rfl rfl ?_
    refine ab_getR (pc := 49) fl_X12_7_12 (by decide +kernel) (fun v7 ev7 => ?_)
    refine ab_iconst (pc := 52) (n := 3) (v := nI 3) (by decide +kernel) rfl ?_
    refine ab_iald (pc := 53) (by decide +kernel) (fun v8 ev8 => ?_)
    refine ab_icmp_ge (off := 58) (pc := 54) (tgt := 112) (by decide +kernel) (by decide) (fun g9 => ?_) (fun g9 => ?_)
    · refine ab_iload_n (pc := 57) (n := 1) (i := 1) (j := 1) (by decide +kernel) rfl rfl ?_
      refine ab_iload_n (pc := 58) (n := 2) (i := 2) (j := 2) (by decide +kernel) rfl rfl ?_
      refine ab_iconst (pc := 59) (n := -1) (v := (-1 : Int32)) (by decide +kernel) rfl ?_
      refine ab_ixor (pc := 60) (by decide +kernel) ?_
      refine ab_iand (pc := 61) (by decide +kernel) ?_
      refine ab_iload (pc := 62) (i := 5) (j := 5) (by decide +kernel) rfl ?_
      refine ab_callSi (As := [.int (x1 &&& (x2 ^^^ (-1 : Int32))), .int x5]) (st := []) (pc := 64) lk_X12_107 rfl rfl rfl (by decide) rfl (Nat.le_of_ble_eq_true rfl) (by decide +kernel) (fun y9 e9 => okX12_isOf hl e9) (fun v10 ev10 => ?_)
      refine ab_if_eq (off := 39) (pc := 67) (tgt := 106) (by decide +kernel) (by decide) (fun g11 => ?_) (fun g11 => ?_)
      · refine ab_iinc (pc := 106) (i := 5) (n := 1) (j := 5) (d := nI 1) (lv' := [(0, .ref x0), (1, .int x1), (2, .int x2), (3, .int x3), (4, .int x4), (5, .int (x5 + nI 1))]) (by decide +kernel) rfl rfl (Nat.le_of_ble_eq_true rfl) rfl rfl ?_
        refine ab_goto (pc := 109) (off := (-63)) (tgt := 46) (by decide +kernel) (by decide) ?_
        exact ih x4 (x5 + nI 1)
      · refine ab_iload (pc := 70) (i := 4) (j := 4) (by decide +kernel) rfl ?_
        refine ab_aload_n (pc := 72) (n := 0) (i := 0) (j := 0) (by decide +kernel) rfl rfl ?_
        refine ab_iload_n (pc := 73) (n := 3) (i := 3) (j := 3) (by decide +kernel) rfl rfl ?_
        refine ab_iload (pc := 74) (i := 5) (j := 5) (by decide +kernel) rfl ?_
        refine ab_callVi (As := [.int x3, .int x5]) (st := [.int x4]) (pc := 76) lk_X12_357_12 rfl rfl rfl (by decide) rfl (Nat.le_of_ble_eq_true rfl) (by decide +kernel) (fun y9 e9 => okX12_step hl e9) (fun v12 ev12 => ?_)
        refine ab_iload_n (pc := 79) (n := 1) (i := 1) (j := 1) (by decide +kernel) rfl rfl ?_
        refine ab_iload_n (pc := 80) (n := 2) (i := 2) (j := 2) (by decide +kernel) rfl rfl ?_
        refine ab_iconst (pc := 81) (n := -1) (v := (-1 : Int32)) (by decide +kernel) rfl ?_
        refine ab_ixor (pc := 82) (by decide +kernel) ?_
        refine ab_iand (pc := 83) (by decide +kernel) ?_
        refine ab_callSi (As := [.int (x1 &&& (x2 ^^^ (-1 : Int32)))]) (st := [.int v12, .int x4]) (pc := 84) lk_X12_242 rfl rfl rfl (by decide) rfl (Nat.le_of_ble_eq_true rfl) (by decide +kernel) (fun y9 e9 => okX12_bits hl (F := F) e9) (fun v13 ev13 => ?_)
        refine ab_imul (pc := 87) (by decide +kernel) ?_
        refine ab_aload_n (pc := 88) (n := 0) (i := 0) (j := 0) (by decide +kernel) rfl rfl ?_
        refine ab_iload_n (pc := 89) (n := 2) (i := 2) (j := 2) (by decide +kernel) rfl rfl ?_
        refine ab_iconst (pc := 90) (n := 1) (v := nI 1) (by decide +kernel) rfl ?_
        refine ab_iload (pc := 91) (i := 5) (j := 5) (by decide +kernel) rfl ?_
        refine ab_ishl (pc := 93) (by decide +kernel) ?_
        refine ab_ior (pc := 94) (by decide +kernel) ?_
        refine ab_iload (pc := 95) (i := 5) (j := 5) (by decide +kernel) rfl ?_
        refine ab_callVi (As := [.int (x2 ||| ((nI 1) <<< (x5 &&& 31))), .int x5]) (st := [.int (v12 * v13), .int x4]) (pc := 97) lk_X12_360_12 rfl rfl rfl (by decide) rfl (Nat.le_of_ble_eq_true rfl) (by decide +kernel) (fun y9 e9 => okX12_left hl e9) (fun v14 ev14 => ?_)
        refine ab_iadd (pc := 100) (by decide +kernel) ?_
        refine ab_callSi (As := [.int x4, .int ((v12 * v13) + v14)]) (st := []) (pc := 101) lk_X12_272 rfl rfl rfl (by decide) rfl (Nat.le_of_ble_eq_true rfl) (by decide +kernel) (fun y9 e9 => okX12_lesser hl e9) (fun v15 ev15 => ?_)
        refine ab_istore (pc := 104) (i := 4) (lv' := [(0, .ref x0), (1, .int x1), (2, .int x2), (3, .int x3), (4, .int v15), (5, .int x5)]) (by decide +kernel) (Nat.le_of_ble_eq_true rfl) rfl rfl ?_
        refine ab_iinc (pc := 106) (i := 5) (n := 1) (j := 5) (d := nI 1) (lv' := [(0, .ref x0), (1, .int x1), (2, .int x2), (3, .int x3), (4, .int v15), (5, .int (x5 + nI 1))]) (by decide +kernel) rfl rfl (Nat.le_of_ble_eq_true rfl) rfl rfl ?_
        refine ab_goto (pc := 109) (off := (-63)) (tgt := 46) (by decide +kernel) (by decide) ?_
        exact ih v15 (x5 + nI 1)
    · refine ab_few [0, 1, 2, 3, 4] (lv' := [(0, .ref x0), (1, .int x1), (2, .int x2), (3, .int x3), (4, .int x4)]) rfl ?_
      exact hk112 x4
set_option maxRecDepth 100000 in
set_option maxHeartbeats 4000000 in
theorem lX12_serves_19 {l : Launch} (hl : l.stackTraces = false) (F : Nat) (x0 : Nat) (x1 : Int32) (x2 : Int32) {k131 : ab_H → Option ab_H} (hk131 : ∀ (h : ab_H), ab_S l mX12_serves (fun y : ab_H => ((.inl none, y) : ab_R × ab_H)) 0 0 (k131 h) 131 [(0, .ref x0), (1, .int x1), (2, .int x2)] [] h) : ∀ (n : Nat) (x3 : Int32) (h : ab_H), ab_S l mX12_serves (fun y : ab_H => ((.inl none, y) : ab_R × ab_H)) 0 0 (fX12_serves_19 F x0 x1 x2 k131 n x3 h) 19 [(0, .ref x0), (1, .int x1), (2, .int x2), (3, .int x3)] [] h := by
  intro n
  induction n with
  | zero =>
    intro x3 h
    exact ab_none
  | succ n ih =>
    intro x3 h
    rw [fX12_serves_19]
    refine ab_iload_n (pc := 19) (n := 3) (i := 3) (j := 3) (by decide +kernel) rfl rfl ?_
    refine ab_aload_n (pc := 20) (n := 0) (i := 0) (j := 0) (by decide +kernel) rfl rfl ?_
    refine ab_getR (pc := 21) fl_X12_7_12 (by decide +kernel) (fun v3 ev3 => ?_)
    refine ab_iconst (pc := 24) (n := 3) (v := nI 3) (by decide +kernel) rfl ?_
    refine ab_iald (pc := 25) (by decide +kernel) (fun v4 ev4 => ?_)
    refine ab_icmp_ge (off := 105) (pc := 26) (tgt := 131) (by decide +kernel) (by decide) (fun g5 => ?_) (fun g5 => ?_)
    · refine ab_iload_n (pc := 29) (n := 2) (i := 2) (j := 2) (by decide +kernel) rfl rfl ?_
      refine ab_iload_n (pc := 30) (n := 1) (i := 1) (j := 1) (by decide +kernel) rfl rfl ?_
      refine ab_icmp_ne (off := 7) (pc := 31) (tgt := 38) (by decide +kernel) (by decide) (fun g6 => ?_) (fun g6 => ?_)
      · refine ab_iconst (pc := 34) (n := 0) (v := nI 0) (by decide +kernel) rfl ?_
        refine ab_goto (pc := 35) (off := 6) (tgt := 41) (by decide +kernel) (by decide) ?_
        refine ab_istore (pc := 41) (i := 4) (lv' := [(0, .ref x0), (1, .int x1), (2, .int x2), (3, .int x3), (4, .int (nI 0))]) (by decide +kernel) (Nat.le_of_ble_eq_true rfl) rfl rfl ?_
        refine ab_iconst (pc := 43) (n := 0) (v := nI 0) (by decide +kernel) rfl ?_
        refine ab_istore (pc := 44) (i := 5) (lv' := [(0, .ref x0), (1, .int x1), (2, .int x2), (3, .int x3), (4, .int (nI 0)), (5, .int (nI 0))]) (by decide +kernel) (Nat.le_of_ble_eq_true rfl) rfl rfl ?_
        refine lX12_serves_46 hl F x0 x1 x2 x3 h ?_ F (nI 0) (nI 0)
        intro z16
        refine ab_aload_n (pc := 112) (n := 0) (i := 0) (j := 0) (by decide +kernel) rfl rfl ?_
        refine ab_getR (pc := 113) fl_X12_44_12 (by decide +kernel) (fun v17 ev17 => ?_)
        refine ab_bipush (pc := 116) (n := 10) (v := nI 10) (by decide +kernel) (by decide) ?_
        refine ab_iload_n (pc := 118) (n := 2) (i := 2) (j := 2) (by decide +kernel) rfl rfl ?_
        refine ab_imul (pc := 119) (by decide +kernel) ?_
        refine ab_iload_n (pc := 120) (n := 3) (i := 3) (j := 3) (by decide +kernel) rfl rfl ?_
        refine ab_iadd (pc := 121) (by decide +kernel) ?_
        refine ab_iload (pc := 122) (i := 4) (j := 4) (by decide +kernel) rfl ?_
        refine ab_iast (pc := 124) (by decide +kernel) (fun h18 eh18 => ?_)
        refine ab_iinc (pc := 125) (i := 3) (n := 1) (j := 3) (d := nI 1) (lv' := [(0, .ref x0), (1, .int x1), (2, .int x2), (3, .int (x3 + nI 1)), (4, .int z16)]) (by decide +kernel) rfl rfl (Nat.le_of_ble_eq_true rfl) rfl rfl ?_
        refine ab_goto (pc := 128) (off := (-109)) (tgt := 19) (by decide +kernel) (by decide) ?_
        refine ab_few [0, 1, 2, 3] (lv' := [(0, .ref x0), (1, .int x1), (2, .int x2), (3, .int (x3 + nI 1))]) rfl ?_
        exact ih (x3 + nI 1) h18
      · refine ab_ldcw (pc := 38) (v := nI 2000000000) (by decide +kernel) kw_aec56b78e5 ?_
        refine ab_istore (pc := 41) (i := 4) (lv' := [(0, .ref x0), (1, .int x1), (2, .int x2), (3, .int x3), (4, .int (nI 2000000000))]) (by decide +kernel) (Nat.le_of_ble_eq_true rfl) rfl rfl ?_
        refine ab_iconst (pc := 43) (n := 0) (v := nI 0) (by decide +kernel) rfl ?_
        refine ab_istore (pc := 44) (i := 5) (lv' := [(0, .ref x0), (1, .int x1), (2, .int x2), (3, .int x3), (4, .int (nI 2000000000)), (5, .int (nI 0))]) (by decide +kernel) (Nat.le_of_ble_eq_true rfl) rfl rfl ?_
        refine lX12_serves_46 hl F x0 x1 x2 x3 h ?_ F (nI 2000000000) (nI 0)
        intro z19
        refine ab_aload_n (pc := 112) (n := 0) (i := 0) (j := 0) (by decide +kernel) rfl rfl ?_
        refine ab_getR (pc := 113) fl_X12_44_12 (by decide +kernel) (fun v20 ev20 => ?_)
        refine ab_bipush (pc := 116) (n := 10) (v := nI 10) (by decide +kernel) (by decide) ?_
        refine ab_iload_n (pc := 118) (n := 2) (i := 2) (j := 2) (by decide +kernel) rfl rfl ?_
        refine ab_imul (pc := 119) (by decide +kernel) ?_
        refine ab_iload_n (pc := 120) (n := 3) (i := 3) (j := 3) (by decide +kernel) rfl rfl ?_
        refine ab_iadd (pc := 121) (by decide +kernel) ?_
        refine ab_iload (pc := 122) (i := 4) (j := 4) (by decide +kernel) rfl ?_
        refine ab_iast (pc := 124) (by decide +kernel) (fun h21 eh21 => ?_)
        refine ab_iinc (pc := 125) (i := 3) (n := 1) (j := 3) (d := nI 1) (lv' := [(0, .ref x0), (1, .int x1), (2, .int x2), (3, .int (x3 + nI 1)), (4, .int z19)]) (by decide +kernel) rfl rfl (Nat.le_of_ble_eq_true rfl) rfl rfl ?_
        refine ab_goto (pc := 128) (off := (-109)) (tgt := 19) (by decide +kernel) (by decide) ?_
        refine ab_few [0, 1, 2, 3] (lv' := [(0, .ref x0), (1, .int x1), (2, .int x2), (3, .int (x3 + nI 1))]) rfl ?_
        exact ih (x3 + nI 1) h21
    · refine ab_few [0, 1, 2] (lv' := [(0, .ref x0), (1, .int x1), (2, .int x2)]) rfl ?_
      exact hk131 h
set_option maxRecDepth 100000 in
set_option maxHeartbeats 4000000 in
theorem lX12_serves_2 {l : Launch} (hl : l.stackTraces = false) (F : Nat) (x0 : Nat) (x1 : Int32) : ∀ (n : Nat) (x2 : Int32) (h : ab_H), ab_S l mX12_serves (fun y : ab_H => ((.inl none, y) : ab_R × ab_H)) 0 0 (fX12_serves_2 F x0 x1 n x2 h) 2 [(0, .ref x0), (1, .int x1), (2, .int x2)] [] h := by
  intro n
  induction n with
  | zero =>
    intro x2 h
    exact ab_none
  | succ n ih =>
    intro x2 h
    rw [fX12_serves_2]
    refine ab_iload_n (pc := 2) (n := 2) (i := 2) (j := 2) (by decide +kernel) rfl rfl ?_
    refine ab_if_le (off := 134) (pc := 3) (tgt := 137) (by decide +kernel) (by decide) (fun g1 => ?_) (fun g1 => ?_)
    · exact ab_vret (pc := 137) (by decide +kernel) rfl rfl (Nat.le_of_ble_eq_true rfl) (Nat.le_of_ble_eq_true rfl)
    · refine ab_iload_n (pc := 6) (n := 2) (i := 2) (j := 2) (by decide +kernel) rfl rfl ?_
      refine ab_iload_n (pc := 7) (n := 1) (i := 1) (j := 1) (by decide +kernel) rfl rfl ?_
      refine ab_iconst (pc := 8) (n := -1) (v := (-1 : Int32)) (by decide +kernel) rfl ?_
      refine ab_ixor (pc := 9) (by decide +kernel) ?_
      refine ab_iand (pc := 10) (by decide +kernel) ?_
      refine ab_if_eq (off := 6) (pc := 11) (tgt := 17) (by decide +kernel) (by decide) (fun g2 => ?_) (fun g2 => ?_)
      · refine ab_iconst (pc := 17) (n := 0) (v := nI 0) (by decide +kernel) rfl ?_
        refine ab_istore_n (pc := 18) (n := 3) (i := 3) (lv' := [(0, .ref x0), (1, .int x1), (2, .int x2), (3, .int (nI 0))]) (by decide +kernel) rfl (Nat.le_of_ble_eq_true rfl) rfl rfl ?_
        refine lX12_serves_19 hl F x0 x1 x2 ?_ F (nI 0) h
        intro h22
        refine ab_iinc (pc := 131) (i := 2) (n := -1) (j := 2) (d := (-1 : Int32)) (lv' := [(0, .ref x0), (1, .int x1), (2, .int (x2 + (-1 : Int32)))]) (by decide +kernel) rfl rfl (Nat.le_of_ble_eq_true rfl) rfl rfl ?_
        refine ab_goto (pc := 134) (off := (-132)) (tgt := 2) (by decide +kernel) (by decide) ?_
        exact ih (x2 + (-1 : Int32)) h22
      · refine ab_goto (pc := 14) (off := 117) (tgt := 131) (by decide +kernel) (by decide) ?_
        refine ab_iinc (pc := 131) (i := 2) (n := -1) (j := 2) (d := (-1 : Int32)) (lv' := [(0, .ref x0), (1, .int x1), (2, .int (x2 + (-1 : Int32)))]) (by decide +kernel) rfl rfl (Nat.le_of_ble_eq_true rfl) rfl rfl ?_
        refine ab_goto (pc := 134) (off := (-132)) (tgt := 2) (by decide +kernel) (by decide) ?_
        exact ih (x2 + (-1 : Int32)) h
set_option maxRecDepth 100000 in
set_option maxHeartbeats 4000000 in
theorem wX12_serves {l : Launch} (hl : l.stackTraces = false) (F : Nat) (x0 : Nat) (x1 : Int32) (h : ab_H) : ab_S l mX12_serves (fun y : ab_H => ((.inl none, y) : ab_R × ab_H)) 0 0 (fX12_serves F x0 x1 h) 0 [(0, .ref x0), (1, .int x1)] [] h := by
  unfold fX12_serves
  refine ab_iload_n (pc := 0) (n := 1) (i := 1) (j := 1) (by decide +kernel) rfl rfl ?_
  refine ab_istore_n (pc := 1) (n := 2) (i := 2) (lv' := [(0, .ref x0), (1, .int x1), (2, .int x1)]) (by decide +kernel) rfl (Nat.le_of_ble_eq_true rfl) rfl rfl ?_
  refine lX12_serves_2 hl F x0 x1 F x1 h
set_option maxRecDepth 100000 in
set_option maxHeartbeats 4000000 in
theorem okX12_serves {l : Launch} (hl : l.stackTraces = false) {F : Nat} {x0 : Nat} {x1 : Int32} {h : ab_H} {y : ab_H} (e : fX12_serves F x0 x1 h = some y) : ab_Met l mX12_serves [.ref x0, .int x1] h (.inl none, y) := ab_ofS (io := (fun y : ab_H => ((.inl none, y) : ab_R × ab_H))) (x := y) hl (by decide) rfl (Nat.le_of_ble_eq_true rfl) (wX12_serves hl F x0 x1 h) e
def mX12_queue : ab_M := (yX12_queue, cX12_queue, 11, (some .int), { frames := 3, cells := 0, slots := 0, locals := 71 })
theorem iX12_queue : ab_MI mX12_queue 1 := ⟨kw_e7af56657e, kw_30b3f7d7c6, by decide +kernel⟩
theorem lk_X12_303_12 : ab_LV RX12 303 12 mX12_holders 0 := ⟨RX12, rfl, iX12_holders, kw_06c2d8d631, kw_1cdd3359af, kw_c3e4e51b60⟩
theorem lk_X12_363_12 : ab_LV RX12 363 12 mX12_serves 1 := ⟨RX12, rfl, iX12_serves, kw_16447114f2, kw_1bea150de5, kw_391103f9a6⟩
def fX12_queue_42 (F : Nat) (x0 : Nat) (x1 : Int32) (x2 : Int32) (x3 : Int32) (x4 : Int32) (x5 : Int32) (x6 : Int32) (h : ab_H) (k125 : Int32 → Int32 → Option (Int32 × ab_H)) : Nat → Int32 → Int32 → Int32 → Option (Int32 × ab_H)
  | 0, _, _, _ => none
  | n + 1, x7, x8, x9 => ab_bd (ab_fr h x0 12 1) fun v5 => ab_bd (ab_ia 0 h v5 (nI 3)) fun v6 => (if x9 < v6 then ab_bd (fX12_isOf (x2 &&& (x3 ^^^ (-1 : Int32))) x9 h) fun v8 => (if v8 = 0 then fX12_queue_42 F x0 x1 x2 x3 x4 x5 x6 h k125 n x7 x8 (x9 + nI 1) else ab_ck (ab_io h x0 12 = true) (ab_bd (fX12_step x0 x4 x9 h) fun v10 => ab_bd (fX12_bits F (x2 &&& (x3 ^^^ (-1 : Int32))) h) fun v11 => ab_ck (ab_io h x0 12 = true) (ab_bd (fX12_left x0 (x3 ||| ((nI 1) <<< (x9 &&& 31))) x9 h) fun v12 => (if ((v10 * v11) + v12) < x8 then fX12_queue_42 F x0 x1 x2 x3 x4 x5 x6 h k125 n x9 ((v10 * v11) + v12) (x9 + nI 1) else fX12_queue_42 F x0 x1 x2 x3 x4 x5 x6 h k125 n x7 x8 (x9 + nI 1))))) else k125 x7 x8)
def fX12_queue_26 (F : Nat) (x0 : Nat) (x1 : Int32) (x2 : Int32) (h : ab_H) (k159 : Int32 → Option (Int32 × ab_H)) : Nat → Int32 → Int32 → Int32 → Int32 → Option (Int32 × ab_H)
  | 0, _, _, _, _ => none
  | n + 1, x3, x4, x5, x6 => (if x3 = x2 then k159 x6 else fX12_queue_42 F x0 x1 x2 x3 x4 x5 x6 h (fun (z14 : Int32) (z15 : Int32) => ab_jn (κ := Int32 → Option (Int32 × ab_H)) (fun (z16 : Int32) => (if x5 = x1 then some (z14, h) else fX12_queue_26 F x0 x1 x2 h k159 n (x3 ||| ((nI 1) <<< (z14 &&& 31))) z14 (x5 + nI 1) z16)) fun j18 => (if x3 = 0 then j18 z15 else j18 x6)) F (-1 : Int32) (nI 2000000000) (nI 0))
def fX12_queue (F : Nat) (x0 : Nat) (x1 : Int32) (h : ab_H) : Option (Int32 × ab_H) := ab_bd (ab_fw h x0 12 0 (.int (nI 0))) fun h1 => ab_ck (ab_io h1 x0 12 = true) (ab_bd (fX12_holders F x0 h1) fun v2 => ab_ck (ab_io h1 x0 12 = true) (ab_bd (fX12_serves F x0 v2 h1) fun h3 => fX12_queue_26 F x0 x1 v2 h3 (fun (z20 : Int32) => (if x1 = (-1 : Int32) then some (z20, h3) else some ((-1 : Int32), h3))) F (nI 0) (-1 : Int32) (nI 0) (nI 0)))
set_option maxRecDepth 100000 in
set_option maxHeartbeats 4000000 in
theorem lX12_queue_42 {l : Launch} (hl : l.stackTraces = false) (F : Nat) (x0 : Nat) (x1 : Int32) (x2 : Int32) (x3 : Int32) (x4 : Int32) (x5 : Int32) (x6 : Int32) (h : ab_H) {k125 : Int32 → Int32 → Option (Int32 × ab_H)} (hk125 : ∀ (x7 : Int32), ∀ (x8 : Int32), ab_S l mX12_queue (fun y : (Int32 × ab_H) => ((.inl (some (.int y.1)), y.2) : ab_R × ab_H)) 0 0 (k125 x7 x8) 125 [(0, .ref x0), (1, .int x1), (2, .int x2), (3, .int x3), (5, .int x5), (6, .int x6), (7, .int x7), (8, .int x8)] [] h) : ∀ (n : Nat) (x7 : Int32) (x8 : Int32) (x9 : Int32), ab_S l mX12_queue (fun y : (Int32 × ab_H) => ((.inl (some (.int y.1)), y.2) : ab_R × ab_H)) 0 0 (fX12_queue_42 F x0 x1 x2 x3 x4 x5 x6 h k125 n x7 x8 x9) 42 [(0, .ref x0), (1, .int x1), (2, .int x2), (3, .int x3), (4, .int x4), (5, .int x5), (6, .int x6), (7, .int x7), (8, .int x8), (9, .int x9)] [] h := by
  intro n
  induction n with
  | zero =>
    intro x7 x8 x9
    exact ab_none
  | succ n ih =>
    intro x7 x8 x9
    rw [fX12_queue_42]
    refine ab_iload (pc := 42) (i := 9) (j := 9) (by decide +kernel) rfl ?_
    refine ab_aload_n (pc := 44) (n := 0) (i := 0) (j := 0) (by decide +kernel) rfl rfl ?_
    refine ab_getR (pc := 45) fl_X12_7_12 (by decide +kernel) (fun v5 ev5 => ?_)
    refine ab_iconst (pc := 48) (n := 3) (v := nI 3) (by decide +kernel) rfl ?_
    refine ab_iald (pc := 49) (by decide +kernel) (fun v6 ev6 => ?_)
    refine ab_icmp_ge (off := 75) (pc := 50) (tgt := 125) (by decide +kernel) (by decide) (fun g7 => ?_) (fun g7 => ?_)
    · refine ab_iload_n (pc := 53) (n := 2) (i := 2) (j := 2) (by decide +kernel) rfl rfl ?_
      refine ab_iload_n (pc := 54) (n := 3) (i := 3) (j := 3) (by decide +kernel) rfl rfl ?_
      refine ab_iconst (pc := 55) (n := -1) (v := (-1 : Int32)) (by decide +kernel) rfl ?_
      refine ab_ixor (pc := 56) (by decide +kernel) ?_
      refine ab_iand (pc := 57) (by decide +kernel) ?_
      refine ab_iload (pc := 58) (i := 9) (j := 9) (by decide +kernel) rfl ?_
      refine ab_callSi (As := [.int (x2 &&& (x3 ^^^ (-1 : Int32))), .int x9]) (st := []) (pc := 60) lk_X12_107 rfl rfl rfl (by decide) rfl (Nat.le_of_ble_eq_true rfl) (by decide +kernel) (fun y9 e9 => okX12_isOf hl e9) (fun v8 ev8 => ?_)
      refine ab_if_ne (off := 6) (pc := 63) (tgt := 69) (by decide +kernel) (by decide) (fun g9 => ?_) (fun g9 => ?_)
      · refine ab_goto (pc := 66) (off := 53) (tgt := 119) (by decide +kernel) (by decide) ?_
        refine ab_iinc (pc := 119) (i := 9) (n := 1) (j := 9) (d := nI 1) (lv' := [(0, .ref x0), (1, .int x1), (2, .int x2), (3, .int x3), (4, .int x4), (5, .int x5), (6, .int x6), (7, .int x7), (8, .int x8), (9, .int (x9 + nI 1))]) (by decide +kernel) rfl rfl (Nat.le_of_ble_eq_true rfl) rfl rfl ?_
        refine ab_goto (pc := 122) (off := (-80)) (tgt := 42) (by decide +kernel) (by decide) ?_
        exact ih x7 x8 (x9 + nI 1)
      · refine ab_aload_n (pc := 69) (n := 0) (i := 0) (j := 0) (by decide +kernel) rfl rfl ?_
        refine ab_iload (pc := 70) (i := 4) (j := 4) (by decide +kernel) rfl ?_
        refine ab_iload (pc := 72) (i := 9) (j := 9) (by decide +kernel) rfl ?_
        refine ab_callVi (As := [.int x4, .int x9]) (st := []) (pc := 74) lk_X12_357_12 rfl rfl rfl (by decide) rfl (Nat.le_of_ble_eq_true rfl) (by decide +kernel) (fun y9 e9 => okX12_step hl e9) (fun v10 ev10 => ?_)
        refine ab_iload_n (pc := 77) (n := 2) (i := 2) (j := 2) (by decide +kernel) rfl rfl ?_
        refine ab_iload_n (pc := 78) (n := 3) (i := 3) (j := 3) (by decide +kernel) rfl rfl ?_
        refine ab_iconst (pc := 79) (n := -1) (v := (-1 : Int32)) (by decide +kernel) rfl ?_
        refine ab_ixor (pc := 80) (by decide +kernel) ?_
        refine ab_iand (pc := 81) (by decide +kernel) ?_
        refine ab_callSi (As := [.int (x2 &&& (x3 ^^^ (-1 : Int32)))]) (st := [.int v10]) (pc := 82) lk_X12_242 rfl rfl rfl (by decide) rfl (Nat.le_of_ble_eq_true rfl) (by decide +kernel) (fun y9 e9 => okX12_bits hl (F := F) e9) (fun v11 ev11 => ?_)
        refine ab_imul (pc := 85) (by decide +kernel) ?_
        refine ab_aload_n (pc := 86) (n := 0) (i := 0) (j := 0) (by decide +kernel) rfl rfl ?_
        refine ab_iload_n (pc := 87) (n := 3) (i := 3) (j := 3) (by decide +kernel) rfl rfl ?_
        refine ab_iconst (pc := 88) (n := 1) (v := nI 1) (by decide +kernel) rfl ?_
        refine ab_iload (pc := 89) (i := 9) (j := 9) (by decide +kernel) rfl ?_
        refine ab_ishl (pc := 91) (by decide +kernel) ?_
        refine ab_ior (pc := 92) (by decide +kernel) ?_
        refine ab_iload (pc := 93) (i := 9) (j := 9) (by decide +kernel) rfl ?_
        refine ab_callVi (As := [.int (x3 ||| ((nI 1) <<< (x9 &&& 31))), .int x9]) (st := [.int (v10 * v11)]) (pc := 95) lk_X12_360_12 rfl rfl rfl (by decide) rfl (Nat.le_of_ble_eq_true rfl) (by decide +kernel) (fun y9 e9 => okX12_left hl e9) (fun v12 ev12 => ?_)
        refine ab_iadd (pc := 98) (by decide +kernel) ?_
        refine ab_istore (pc := 99) (i := 10) (lv' := [(0, .ref x0), (1, .int x1), (2, .int x2), (3, .int x3), (4, .int x4), (5, .int x5), (6, .int x6), (7, .int x7), (8, .int x8), (9, .int x9), (10, .int ((v10 * v11) + v12))]) (by decide +kernel) (Nat.le_of_ble_eq_true rfl) rfl rfl ?_
        refine ab_iload (pc := 101) (i := 10) (j := 10) (by decide +kernel) rfl ?_
        refine ab_iload (pc := 103) (i := 8) (j := 8) (by decide +kernel) rfl ?_
        refine ab_icmp_lt (off := 6) (pc := 105) (tgt := 111) (by decide +kernel) (by decide) (fun g13 => ?_) (fun g13 => ?_)
        · refine ab_iload (pc := 111) (i := 10) (j := 10) (by decide +kernel) rfl ?_
          refine ab_istore (pc := 113) (i := 8) (lv' := [(0, .ref x0), (1, .int x1), (2, .int x2), (3, .int x3), (4, .int x4), (5, .int x5), (6, .int x6), (7, .int x7), (8, .int ((v10 * v11) + v12)), (9, .int x9), (10, .int ((v10 * v11) + v12))]) (by decide +kernel) (Nat.le_of_ble_eq_true rfl) rfl rfl ?_
          refine ab_iload (pc := 115) (i := 9) (j := 9) (by decide +kernel) rfl ?_
          refine ab_istore (pc := 117) (i := 7) (lv' := [(0, .ref x0), (1, .int x1), (2, .int x2), (3, .int x3), (4, .int x4), (5, .int x5), (6, .int x6), (7, .int x9), (8, .int ((v10 * v11) + v12)), (9, .int x9), (10, .int ((v10 * v11) + v12))]) (by decide +kernel) (Nat.le_of_ble_eq_true rfl) rfl rfl ?_
          refine ab_iinc (pc := 119) (i := 9) (n := 1) (j := 9) (d := nI 1) (lv' := [(0, .ref x0), (1, .int x1), (2, .int x2), (3, .int x3), (4, .int x4), (5, .int x5), (6, .int x6), (7, .int x9), (8, .int ((v10 * v11) + v12)), (9, .int (x9 + nI 1)), (10, .int ((v10 * v11) + v12))]) (by decide +kernel) rfl rfl (Nat.le_of_ble_eq_true rfl) rfl rfl ?_
          refine ab_goto (pc := 122) (off := (-80)) (tgt := 42) (by decide +kernel) (by decide) ?_
          refine ab_few [0, 1, 2, 3, 4, 5, 6, 7, 8, 9] (lv' := [(0, .ref x0), (1, .int x1), (2, .int x2), (3, .int x3), (4, .int x4), (5, .int x5), (6, .int x6), (7, .int x9), (8, .int ((v10 * v11) + v12)), (9, .int (x9 + nI 1))]) rfl ?_
          exact ih x9 ((v10 * v11) + v12) (x9 + nI 1)
        · refine ab_goto (pc := 108) (off := 11) (tgt := 119) (by decide +kernel) (by decide) ?_
          refine ab_iinc (pc := 119) (i := 9) (n := 1) (j := 9) (d := nI 1) (lv' := [(0, .ref x0), (1, .int x1), (2, .int x2), (3, .int x3), (4, .int x4), (5, .int x5), (6, .int x6), (7, .int x7), (8, .int x8), (9, .int (x9 + nI 1)), (10, .int ((v10 * v11) + v12))]) (by decide +kernel) rfl rfl (Nat.le_of_ble_eq_true rfl) rfl rfl ?_
          refine ab_goto (pc := 122) (off := (-80)) (tgt := 42) (by decide +kernel) (by decide) ?_
          refine ab_few [0, 1, 2, 3, 4, 5, 6, 7, 8, 9] (lv' := [(0, .ref x0), (1, .int x1), (2, .int x2), (3, .int x3), (4, .int x4), (5, .int x5), (6, .int x6), (7, .int x7), (8, .int x8), (9, .int (x9 + nI 1))]) rfl ?_
          exact ih x7 x8 (x9 + nI 1)
    · refine ab_few [0, 1, 2, 3, 5, 6, 7, 8] (lv' := [(0, .ref x0), (1, .int x1), (2, .int x2), (3, .int x3), (5, .int x5), (6, .int x6), (7, .int x7), (8, .int x8)]) rfl ?_
      exact hk125 x7 x8
set_option maxRecDepth 100000 in
set_option maxHeartbeats 4000000 in
theorem lX12_queue_26 {l : Launch} (hl : l.stackTraces = false) (F : Nat) (x0 : Nat) (x1 : Int32) (x2 : Int32) (h : ab_H) {k159 : Int32 → Option (Int32 × ab_H)} (hk159 : ∀ (x6 : Int32), ab_S l mX12_queue (fun y : (Int32 × ab_H) => ((.inl (some (.int y.1)), y.2) : ab_R × ab_H)) 0 0 (k159 x6) 159 [(1, .int x1), (6, .int x6)] [] h) : ∀ (n : Nat) (x3 : Int32) (x4 : Int32) (x5 : Int32) (x6 : Int32), ab_S l mX12_queue (fun y : (Int32 × ab_H) => ((.inl (some (.int y.1)), y.2) : ab_R × ab_H)) 0 0 (fX12_queue_26 F x0 x1 x2 h k159 n x3 x4 x5 x6) 26 [(0, .ref x0), (1, .int x1), (2, .int x2), (3, .int x3), (4, .int x4), (5, .int x5), (6, .int x6)] [] h := by
  intro n
  induction n with
  | zero =>
    intro x3 x4 x5 x6
    exact ab_none
  | succ n ih =>
    intro x3 x4 x5 x6
    rw [fX12_queue_26]
    refine ab_iload_n (pc := 26) (n := 3) (i := 3) (j := 3) (by decide +kernel) rfl rfl ?_
    refine ab_iload_n (pc := 27) (n := 2) (i := 2) (j := 2) (by decide +kernel) rfl rfl ?_
    refine ab_icmp_eq (off := 131) (pc := 28) (tgt := 159) (by decide +kernel) (by decide) (fun g4 => ?_) (fun g4 => ?_)
    · refine ab_few [1, 6] (lv' := [(1, .int x1), (6, .int x6)]) rfl ?_
      exact hk159 x6
    · refine ab_iconst (pc := 31) (n := -1) (v := (-1 : Int32)) (by decide +kernel) rfl ?_
      refine ab_istore (pc := 32) (i := 7) (lv' := [(0, .ref x0), (1, .int x1), (2, .int x2), (3, .int x3), (4, .int x4), (5, .int x5), (6, .int x6), (7, .int (-1 : Int32))]) (by decide +kernel) (Nat.le_of_ble_eq_true rfl) rfl rfl ?_
      refine ab_ldcw (pc := 34) (v := nI 2000000000) (by decide +kernel) kw_aec56b78e5 ?_
      refine ab_istore (pc := 37) (i := 8) (lv' := [(0, .ref x0), (1, .int x1), (2, .int x2), (3, .int x3), (4, .int x4), (5, .int x5), (6, .int x6), (7, .int (-1 : Int32)), (8, .int (nI 2000000000))]) (by decide +kernel) (Nat.le_of_ble_eq_true rfl) rfl rfl ?_
      refine ab_iconst (pc := 39) (n := 0) (v := nI 0) (by decide +kernel) rfl ?_
      refine ab_istore (pc := 40) (i := 9) (lv' := [(0, .ref x0), (1, .int x1), (2, .int x2), (3, .int x3), (4, .int x4), (5, .int x5), (6, .int x6), (7, .int (-1 : Int32)), (8, .int (nI 2000000000)), (9, .int (nI 0))]) (by decide +kernel) (Nat.le_of_ble_eq_true rfl) rfl rfl ?_
      refine lX12_queue_42 hl F x0 x1 x2 x3 x4 x5 x6 h ?_ F (-1 : Int32) (nI 2000000000) (nI 0)
      intro z14 z15
      refine ab_iload_n (pc := 125) (n := 3) (i := 3) (j := 3) (by decide +kernel) rfl rfl ?_
      refine ab_jr (fun k9 : Int32 → Option (Int32 × ab_H) => ∀ (z16 : Int32), ab_S l mX12_queue (fun y : (Int32 × ab_H) => ((.inl (some (.int y.1)), y.2) : ab_R × ab_H)) 0 0 (k9 z16) 133 [(0, .ref x0), (1, .int x1), (2, .int x2), (3, .int x3), (5, .int x5), (6, .int z16), (7, .int z14)] [] h) ?_ (fun j18 hj18 => ?_)
      · intro z16
        refine ab_iload (pc := 133) (i := 5) (j := 4) (by decide +kernel) rfl ?_
        refine ab_iload_n (pc := 135) (n := 1) (i := 1) (j := 1) (by decide +kernel) rfl rfl ?_
        refine ab_icmp_ne (off := 6) (pc := 136) (tgt := 142) (by decide +kernel) (by decide) (fun g17 => ?_) (fun g17 => ?_)
        · refine ab_iload (pc := 139) (i := 7) (j := 6) (by decide +kernel) rfl ?_
          exact ab_iret (pc := 141) (by decide +kernel) rfl rfl (Nat.le_of_ble_eq_true rfl) (Nat.le_of_ble_eq_true rfl)
        · refine ab_iload_n (pc := 142) (n := 3) (i := 3) (j := 3) (by decide +kernel) rfl rfl ?_
          refine ab_iconst (pc := 143) (n := 1) (v := nI 1) (by decide +kernel) rfl ?_
          refine ab_iload (pc := 144) (i := 7) (j := 6) (by decide +kernel) rfl ?_
          refine ab_ishl (pc := 146) (by decide +kernel) ?_
          refine ab_ior (pc := 147) (by decide +kernel) ?_
          refine ab_istore_n (pc := 148) (n := 3) (i := 3) (lv' := [(0, .ref x0), (1, .int x1), (2, .int x2), (3, .int (x3 ||| ((nI 1) <<< (z14 &&& 31)))), (5, .int x5), (6, .int z16), (7, .int z14)]) (by decide +kernel) rfl (Nat.le_of_ble_eq_true rfl) rfl rfl ?_
          refine ab_iload (pc := 149) (i := 7) (j := 6) (by decide +kernel) rfl ?_
          refine ab_istore (pc := 151) (i := 4) (lv' := [(0, .ref x0), (1, .int x1), (2, .int x2), (3, .int (x3 ||| ((nI 1) <<< (z14 &&& 31)))), (4, .int z14), (5, .int x5), (6, .int z16), (7, .int z14)]) (by decide +kernel) (Nat.le_of_ble_eq_true rfl) rfl rfl ?_
          refine ab_iinc (pc := 153) (i := 5) (n := 1) (j := 5) (d := nI 1) (lv' := [(0, .ref x0), (1, .int x1), (2, .int x2), (3, .int (x3 ||| ((nI 1) <<< (z14 &&& 31)))), (4, .int z14), (5, .int (x5 + nI 1)), (6, .int z16), (7, .int z14)]) (by decide +kernel) rfl rfl (Nat.le_of_ble_eq_true rfl) rfl rfl ?_
          refine ab_goto (pc := 156) (off := (-130)) (tgt := 26) (by decide +kernel) (by decide) ?_
          refine ab_few [0, 1, 2, 3, 4, 5, 6] (lv' := [(0, .ref x0), (1, .int x1), (2, .int x2), (3, .int (x3 ||| ((nI 1) <<< (z14 &&& 31)))), (4, .int z14), (5, .int (x5 + nI 1)), (6, .int z16)]) rfl ?_
          exact ih (x3 ||| ((nI 1) <<< (z14 &&& 31))) z14 (x5 + nI 1) z16
      · refine ab_if_ne (off := 7) (pc := 126) (tgt := 133) (by decide +kernel) (by decide) (fun g19 => ?_) (fun g19 => ?_)
        · refine ab_iload (pc := 129) (i := 8) (j := 7) (by decide +kernel) rfl ?_
          refine ab_istore (pc := 131) (i := 6) (lv' := [(0, .ref x0), (1, .int x1), (2, .int x2), (3, .int x3), (5, .int x5), (6, .int z15), (7, .int z14), (8, .int z15)]) (by decide +kernel) (Nat.le_of_ble_eq_true rfl) rfl rfl ?_
          refine ab_few [0, 1, 2, 3, 4, 5, 6] (lv' := [(0, .ref x0), (1, .int x1), (2, .int x2), (3, .int x3), (5, .int x5), (6, .int z15), (7, .int z14)]) rfl ?_
          exact hj18 z15
        · refine ab_few [0, 1, 2, 3, 4, 5, 6] (lv' := [(0, .ref x0), (1, .int x1), (2, .int x2), (3, .int x3), (5, .int x5), (6, .int x6), (7, .int z14)]) rfl ?_
          exact hj18 x6
set_option maxRecDepth 100000 in
set_option maxHeartbeats 4000000 in
theorem wX12_queue {l : Launch} (hl : l.stackTraces = false) (F : Nat) (x0 : Nat) (x1 : Int32) (h : ab_H) : ab_S l mX12_queue (fun y : (Int32 × ab_H) => ((.inl (some (.int y.1)), y.2) : ab_R × ab_H)) 0 0 (fX12_queue F x0 x1 h) 0 [(0, .ref x0), (1, .int x1)] [] h := by
  unfold fX12_queue
  refine ab_aload_n (pc := 0) (n := 0) (i := 0) (j := 0) (by decide +kernel) rfl rfl ?_
  refine ab_iconst (pc := 1) (n := 0) (v := nI 0) (by decide +kernel) rfl ?_
  refine ab_put (pc := 2) fl_X12_50_12 rfl (fun _ => rfl) (fun _ => rfl) (by decide +kernel) (fun h1 eh1 => ?_)
  refine ab_aload_n (pc := 5) (n := 0) (i := 0) (j := 0) (by decide +kernel) rfl rfl ?_
  refine ab_callVi (As := []) (st := []) (pc := 6) lk_X12_303_12 rfl rfl rfl (by decide) rfl (Nat.le_of_ble_eq_true rfl) (by decide +kernel) (fun y9 e9 => okX12_holders hl (F := F) e9) (fun v2 ev2 => ?_)
  refine ab_istore_n (pc := 9) (n := 2) (i := 2) (lv' := [(0, .ref x0), (1, .int x1), (2, .int v2)]) (by decide +kernel) rfl (Nat.le_of_ble_eq_true rfl) rfl rfl ?_
  refine ab_aload_n (pc := 10) (n := 0) (i := 0) (j := 0) (by decide +kernel) rfl rfl ?_
  refine ab_iload_n (pc := 11) (n := 2) (i := 2) (j := 2) (by decide +kernel) rfl rfl ?_
  refine ab_callVw (As := [.int v2]) (st := []) (pc := 12) lk_X12_363_12 rfl rfl rfl (by decide) rfl (Nat.le_of_ble_eq_true rfl) (by decide +kernel) (fun y9 e9 => okX12_serves hl (F := F) e9) (fun h3 eh3 => ?_)
  refine ab_iconst (pc := 15) (n := 0) (v := nI 0) (by decide +kernel) rfl ?_
  refine ab_istore_n (pc := 16) (n := 3) (i := 3) (lv' := [(0, .ref x0), (1, .int x1), (2, .int v2), (3, .int (nI 0))]) (by decide +kernel) rfl (Nat.le_of_ble_eq_true rfl) rfl rfl ?_
  refine ab_iconst (pc := 17) (n := -1) (v := (-1 : Int32)) (by decide +kernel) rfl ?_
  refine ab_istore (pc := 18) (i := 4) (lv' := [(0, .ref x0), (1, .int x1), (2, .int v2), (3, .int (nI 0)), (4, .int (-1 : Int32))]) (by decide +kernel) (Nat.le_of_ble_eq_true rfl) rfl rfl ?_
  refine ab_iconst (pc := 20) (n := 0) (v := nI 0) (by decide +kernel) rfl ?_
  refine ab_istore (pc := 21) (i := 5) (lv' := [(0, .ref x0), (1, .int x1), (2, .int v2), (3, .int (nI 0)), (4, .int (-1 : Int32)), (5, .int (nI 0))]) (by decide +kernel) (Nat.le_of_ble_eq_true rfl) rfl rfl ?_
  refine ab_iconst (pc := 23) (n := 0) (v := nI 0) (by decide +kernel) rfl ?_
  refine ab_istore (pc := 24) (i := 6) (lv' := [(0, .ref x0), (1, .int x1), (2, .int v2), (3, .int (nI 0)), (4, .int (-1 : Int32)), (5, .int (nI 0)), (6, .int (nI 0))]) (by decide +kernel) (Nat.le_of_ble_eq_true rfl) rfl rfl ?_
  refine lX12_queue_26 hl F x0 x1 v2 h3 ?_ F (nI 0) (-1 : Int32) (nI 0) (nI 0)
  intro z20
  refine ab_iload_n (pc := 159) (n := 1) (i := 1) (j := 0) (by decide +kernel) rfl rfl ?_
  refine ab_iconst (pc := 160) (n := -1) (v := (-1 : Int32)) (by decide +kernel) rfl ?_
  refine ab_icmp_ne (off := 8) (pc := 161) (tgt := 169) (by decide +kernel) (by decide) (fun g21 => ?_) (fun g21 => ?_)
  · refine ab_iload (pc := 164) (i := 6) (j := 1) (by decide +kernel) rfl ?_
    refine ab_goto (pc := 166) (off := 4) (tgt := 170) (by decide +kernel) (by decide) ?_
    exact ab_iret (pc := 170) (by decide +kernel) rfl rfl (Nat.le_of_ble_eq_true rfl) (Nat.le_of_ble_eq_true rfl)
  · refine ab_iconst (pc := 169) (n := -1) (v := (-1 : Int32)) (by decide +kernel) rfl ?_
    exact ab_iret (pc := 170) (by decide +kernel) rfl rfl (Nat.le_of_ble_eq_true rfl) (Nat.le_of_ble_eq_true rfl)
set_option maxRecDepth 100000 in
set_option maxHeartbeats 4000000 in
theorem okX12_queue {l : Launch} (hl : l.stackTraces = false) {F : Nat} {x0 : Nat} {x1 : Int32} {h : ab_H} {y : (Int32 × ab_H)} (e : fX12_queue F x0 x1 h = some y) : ab_Met l mX12_queue [.ref x0, .int x1] h (.inl (some (.int y.1)), y.2) := ab_ofS (io := (fun y : (Int32 × ab_H) => ((.inl (some (.int y.1)), y.2) : ab_R × ab_H))) (x := y) hl (by decide) rfl (Nat.le_of_ble_eq_true rfl) (wX12_queue hl F x0 x1 h) e
def mX12_marksOf : ab_M := (yX12_marksOf, cX12_marksOf, 4, (some .int), { frames := 1, cells := 0, slots := 0, locals := 22 })
theorem iX12_marksOf : ab_MI mX12_marksOf 1 := ⟨kw_ebeaee7255, kw_30b3f7d7c6, by decide +kernel⟩
def fX12_marksOf_4 (x0 : Nat) (x1 : Int32) (h : ab_H) : Nat → Int32 → Int32 → Option Int32
  | 0, _, _ => none
  | n + 1, x2, x3 => ab_bd (ab_fr h x0 12 1) fun v1 => ab_bd (ab_ia 0 h v1 (nI 3)) fun v2 => (if x3 < v2 then ab_bd (fX12_isOf x1 x3 h) fun v4 => (if v4 = 0 then fX12_marksOf_4 x0 x1 h n (x2 ||| (nI 0)) (x3 + nI 1) else ab_ck (ab_io h x0 12 = true) (ab_bd (fX12_of x0 x3 (nI 0) h) fun v6 => fX12_marksOf_4 x0 x1 h n (x2 ||| v6) (x3 + nI 1))) else some x2)
def fX12_marksOf (F : Nat) (x0 : Nat) (x1 : Int32) (h : ab_H) : Option Int32 := fX12_marksOf_4 x0 x1 h F (nI 0) (nI 0)
set_option maxRecDepth 100000 in
set_option maxHeartbeats 4000000 in
theorem lX12_marksOf_4 {l : Launch} (hl : l.stackTraces = false) (x0 : Nat) (x1 : Int32) (h : ab_H) : ∀ (n : Nat) (x2 : Int32) (x3 : Int32), ab_S l mX12_marksOf (fun y : Int32 => ((.inl (some (.int y)), h) : ab_R × ab_H)) 0 0 (fX12_marksOf_4 x0 x1 h n x2 x3) 4 [(0, .ref x0), (1, .int x1), (2, .int x2), (3, .int x3)] [] h := by
  intro n
  induction n with
  | zero =>
    intro x2 x3
    exact ab_none
  | succ n ih =>
    intro x2 x3
    rw [fX12_marksOf_4]
    refine ab_iload_n (pc := 4) (n := 3) (i := 3) (j := 3) (by decide +kernel) rfl rfl ?_
    refine ab_aload_n (pc := 5) (n := 0) (i := 0) (j := 0) (by decide +kernel) rfl rfl ?_
    refine ab_getR (pc := 6) fl_X12_7_12 (by decide +kernel) (fun v1 ev1 => ?_)
    refine ab_iconst (pc := 9) (n := 3) (v := nI 3) (by decide +kernel) rfl ?_
    refine ab_iald (pc := 10) (by decide +kernel) (fun v2 ev2 => ?_)
    refine ab_icmp_ge (off := 30) (pc := 11) (tgt := 41) (by decide +kernel) (by decide) (fun g3 => ?_) (fun g3 => ?_)
    · refine ab_iload_n (pc := 14) (n := 2) (i := 2) (j := 2) (by decide +kernel) rfl rfl ?_
      refine ab_iload_n (pc := 15) (n := 1) (i := 1) (j := 1) (by decide +kernel) rfl rfl ?_
      refine ab_iload_n (pc := 16) (n := 3) (i := 3) (j := 3) (by decide +kernel) rfl rfl ?_
      refine ab_callSi (As := [.int x1, .int x3]) (st := [.int x2]) (pc := 17) lk_X12_107 rfl rfl rfl (by decide) rfl (Nat.le_of_ble_eq_true rfl) (by decide +kernel) (fun y9 e9 => okX12_isOf hl e9) (fun v4 ev4 => ?_)
      refine ab_if_eq (off := 12) (pc := 20) (tgt := 32) (by decide +kernel) (by decide) (fun g5 => ?_) (fun g5 => ?_)
      · refine ab_iconst (pc := 32) (n := 0) (v := nI 0) (by decide +kernel) rfl ?_
        refine ab_ior (pc := 33) (by decide +kernel) ?_
        refine ab_istore_n (pc := 34) (n := 2) (i := 2) (lv' := [(0, .ref x0), (1, .int x1), (2, .int (x2 ||| (nI 0))), (3, .int x3)]) (by decide +kernel) rfl (Nat.le_of_ble_eq_true rfl) rfl rfl ?_
        refine ab_iinc (pc := 35) (i := 3) (n := 1) (j := 3) (d := nI 1) (lv' := [(0, .ref x0), (1, .int x1), (2, .int (x2 ||| (nI 0))), (3, .int (x3 + nI 1))]) (by decide +kernel) rfl rfl (Nat.le_of_ble_eq_true rfl) rfl rfl ?_
        refine ab_goto (pc := 38) (off := (-34)) (tgt := 4) (by decide +kernel) (by decide) ?_
        exact ih (x2 ||| (nI 0)) (x3 + nI 1)
      · refine ab_aload_n (pc := 23) (n := 0) (i := 0) (j := 0) (by decide +kernel) rfl rfl ?_
        refine ab_iload_n (pc := 24) (n := 3) (i := 3) (j := 3) (by decide +kernel) rfl rfl ?_
        refine ab_iconst (pc := 25) (n := 0) (v := nI 0) (by decide +kernel) rfl ?_
        refine ab_callVi (As := [.int x3, .int (nI 0)]) (st := [.int x2]) (pc := 26) lk_X12_57_12 rfl rfl rfl (by decide) rfl (Nat.le_of_ble_eq_true rfl) (by decide +kernel) (fun y9 e9 => okX12_of hl e9) (fun v6 ev6 => ?_)
        refine ab_goto (pc := 29) (off := 4) (tgt := 33) (by decide +kernel) (by decide) ?_
        refine ab_ior (pc := 33) (by decide +kernel) ?_
        refine ab_istore_n (pc := 34) (n := 2) (i := 2) (lv' := [(0, .ref x0), (1, .int x1), (2, .int (x2 ||| v6)), (3, .int x3)]) (by decide +kernel) rfl (Nat.le_of_ble_eq_true rfl) rfl rfl ?_
        refine ab_iinc (pc := 35) (i := 3) (n := 1) (j := 3) (d := nI 1) (lv' := [(0, .ref x0), (1, .int x1), (2, .int (x2 ||| v6)), (3, .int (x3 + nI 1))]) (by decide +kernel) rfl rfl (Nat.le_of_ble_eq_true rfl) rfl rfl ?_
        refine ab_goto (pc := 38) (off := (-34)) (tgt := 4) (by decide +kernel) (by decide) ?_
        exact ih (x2 ||| v6) (x3 + nI 1)
    · refine ab_iload_n (pc := 41) (n := 2) (i := 2) (j := 2) (by decide +kernel) rfl rfl ?_
      exact ab_iret (pc := 42) (by decide +kernel) rfl rfl (Nat.le_of_ble_eq_true rfl) (Nat.le_of_ble_eq_true rfl)
set_option maxRecDepth 100000 in
set_option maxHeartbeats 4000000 in
theorem wX12_marksOf {l : Launch} (hl : l.stackTraces = false) (F : Nat) (x0 : Nat) (x1 : Int32) (h : ab_H) : ab_S l mX12_marksOf (fun y : Int32 => ((.inl (some (.int y)), h) : ab_R × ab_H)) 0 0 (fX12_marksOf F x0 x1 h) 0 [(0, .ref x0), (1, .int x1)] [] h := by
  unfold fX12_marksOf
  refine ab_iconst (pc := 0) (n := 0) (v := nI 0) (by decide +kernel) rfl ?_
  refine ab_istore_n (pc := 1) (n := 2) (i := 2) (lv' := [(0, .ref x0), (1, .int x1), (2, .int (nI 0))]) (by decide +kernel) rfl (Nat.le_of_ble_eq_true rfl) rfl rfl ?_
  refine ab_iconst (pc := 2) (n := 0) (v := nI 0) (by decide +kernel) rfl ?_
  refine ab_istore_n (pc := 3) (n := 3) (i := 3) (lv' := [(0, .ref x0), (1, .int x1), (2, .int (nI 0)), (3, .int (nI 0))]) (by decide +kernel) rfl (Nat.le_of_ble_eq_true rfl) rfl rfl ?_
  refine lX12_marksOf_4 hl x0 x1 h F (nI 0) (nI 0)
set_option maxRecDepth 100000 in
set_option maxHeartbeats 4000000 in
theorem okX12_marksOf {l : Launch} (hl : l.stackTraces = false) {F : Nat} {x0 : Nat} {x1 : Int32} {h : ab_H} {y : Int32} (e : fX12_marksOf F x0 x1 h = some y) : ab_Met l mX12_marksOf [.ref x0, .int x1] h (.inl (some (.int y)), h) := ab_ofS (io := (fun y : Int32 => ((.inl (some (.int y)), h) : ab_R × ab_H))) (x := y) hl (by decide) rfl (Nat.le_of_ble_eq_true rfl) (wX12_marksOf hl F x0 x1 h) e
