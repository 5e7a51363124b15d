/-! ===== reference (by program, decomp.py) ===== -/
def mX12_lawLine : ab_M := (yX12_lawLine, cX12_lawLine, 3, none, { frames := 32, cells := 0, slots := 0, locals := 709 })
theorem iX12_lawLine : ab_MI mX12_lawLine 0 := ⟨kw_1f623c14b7, kw_30b3f7d7c6, by decide +kernel⟩
def fX12_lawLine (F : Nat) (x0 : Nat) (h : ab_H) : Option ab_H := ab_ck (ab_io h x0 12 = true) (ab_bd (fX12_has_ F x0 (ab_SB + 21) h) fun v1 => ab_jn (κ := ab_H → Option ab_H) (fun (h2 : ab_H) => ab_ck (ab_io h2 x0 12 = true) (ab_bd (fX12_has_ F x0 (ab_SB + 23) h2) fun v3 => ab_jn (κ := Int32 → ab_H → Option ab_H) (fun (z4 : Int32) (h5 : ab_H) => ab_bd (ab_fi h5 x0 12 12) fun v6 => (if v6 = (-1 : Int32) then (if z4 = 0 then some h5 else (if v1.1 = 0 then ab_bd (ab_fw h5 x0 12 18 (.int (nI 1))) fun h10 => some h10 else ab_bd (ab_fw h5 x0 12 17 (.int (nI 1))) fun h11 => some h11)) else some h5)) fun j12 => ab_jn (κ := ab_H → Option ab_H) (fun (h13 : ab_H) => j12 (nI 1) h13) fun j14 => (if v3.1 = 0 then j14 v3.2 else ab_ck (ab_io v3.2 x0 12 = true) (ab_bd (fX12_someT F x0 v3.2) fun v16 => (if v16.1 = 0 then j12 (nI 0) v16.2 else j14 v16.2))))) fun j18 => (if v1.1 = 0 then ab_ck (ab_io v1.2 x0 12 = true) (ab_bd (fX12_has_ F x0 (ab_SB + 22) v1.2) fun v20 => (if v20.1 = 0 then ab_bd (ab_fi v20.2 x0 12 11) fun v22 => ab_ck (ab_io v20.2 x0 12 = true) (ab_bd (fX12_wrong x0 v22 v20.2) fun h23 => some h23) else j18 v20.2)) else j18 v1.2))
set_option maxRecDepth 100000 in
set_option maxHeartbeats 4000000 in
theorem wX12_lawLine {l : Launch} (hl : l.stackTraces = false) (F : Nat) (x0 : Nat) (h : ab_H) : ab_S l mX12_lawLine (fun y : ab_H => ((.inl none, y) : ab_R × ab_H)) 0 0 (fX12_lawLine F x0 h) 0 [(0, .ref x0)] [] h := by
  unfold fX12_lawLine
  refine ab_aload_n (pc := 0) (n := 0) (i := 0) (j := 0) (by decide +kernel) rfl rfl ?_
  refine ab_ldcS (pc := 1) (index := 230) (kk := 21) (tx := "hand") (by decide +kernel) (by show (RX12, 230, "hand", 21) ∈ ab_sr; decide +kernel) ?_
  refine ab_callVj (As := [.ref (ab_SB + 21)]) (st := []) (pc := 3) lk_X12_124_12 rfl rfl rfl (by decide) rfl (Nat.le_of_ble_eq_true rfl) (by decide +kernel) (fun y9 e9 => okX12_has_ hl (F := F) e9) (fun v1 ev1 => ?_)
  refine ab_istore_n (pc := 6) (n := 1) (i := 1) (lv' := [(0, .ref x0), (1, .int v1.1)]) (by decide +kernel) rfl (Nat.le_of_ble_eq_true rfl) rfl rfl ?_
  refine ab_iload_n (pc := 7) (n := 1) (i := 1) (j := 1) (by decide +kernel) rfl rfl ?_
  refine ab_jr (fun k9 : ab_H → Option ab_H => ∀ (h2 : ab_H), ab_S l mX12_lawLine (fun y : ab_H => ((.inl none, y) : ab_R × ab_H)) 0 0 (k9 h2) 29 [(0, .ref x0), (1, .int v1.1)] [] h2) ?_ (fun j18 hj18 => ?_)
  · intro h2
    refine ab_aload_n (pc := 29) (n := 0) (i := 0) (j := 0) (by decide +kernel) rfl rfl ?_
    refine ab_ldcS (pc := 30) (index := 234) (kk := 23) (tx := "if") (by decide +kernel) (by show (RX12, 234, "if", 23) ∈ ab_sr; decide +kernel) ?_
    refine ab_callVj (As := [.ref (ab_SB + 23)]) (st := []) (pc := 32) lk_X12_124_12 rfl rfl rfl (by decide) rfl (Nat.le_of_ble_eq_true rfl) (by decide +kernel) (fun y9 e9 => okX12_has_ hl (F := F) e9) (fun v3 ev3 => ?_)
    refine ab_jr (fun k9 : Int32 → ab_H → Option ab_H => ∀ (z4 : Int32), ∀ (h5 : ab_H), ab_S l mX12_lawLine (fun y : ab_H => ((.inl none, y) : ab_R × ab_H)) 0 0 (k9 z4 h5) 50 [(0, .ref x0), (1, .int v1.1)] [.int z4] h5) ?_ (fun j12 hj12 => ?_)
    · intro z4 h5
      refine ab_istore_n (pc := 50) (n := 2) (i := 2) (lv' := [(0, .ref x0), (1, .int v1.1), (2, .int z4)]) (by decide +kernel) rfl (Nat.le_of_ble_eq_true rfl) rfl rfl ?_
      refine ab_aload_n (pc := 51) (n := 0) (i := 0) (j := 0) (by decide +kernel) rfl rfl ?_
      refine ab_getI (pc := 52) fl_X12_25_12 (by decide +kernel) (fun v6 ev6 => ?_)
      refine ab_iconst (pc := 55) (n := -1) (v := (-1 : Int32)) (by decide +kernel) rfl ?_
      refine ab_icmp_ne (off := 7) (pc := 56) (tgt := 63) (by decide +kernel) (by decide) (fun g7 => ?_) (fun g7 => ?_)
      · refine ab_iload_n (pc := 59) (n := 2) (i := 2) (j := 2) (by decide +kernel) rfl rfl ?_
        refine ab_if_ne (off := 4) (pc := 60) (tgt := 64) (by decide +kernel) (by decide) (fun g8 => ?_) (fun g8 => ?_)
        · exact ab_vret (pc := 63) (by decide +kernel) rfl rfl (Nat.le_of_ble_eq_true rfl) (Nat.le_of_ble_eq_true rfl)
        · refine ab_iload_n (pc := 64) (n := 1) (i := 1) (j := 1) (by decide +kernel) rfl rfl ?_
          refine ab_if_eq (off := 11) (pc := 65) (tgt := 76) (by decide +kernel) (by decide) (fun g9 => ?_) (fun g9 => ?_)
          · refine ab_aload_n (pc := 76) (n := 0) (i := 0) (j := 0) (by decide +kernel) rfl rfl ?_
            refine ab_iconst (pc := 77) (n := 1) (v := nI 1) (by decide +kernel) rfl ?_
            refine ab_put (pc := 78) fl_X12_239_12 rfl (fun _ => ab_bl1.1) (fun _ => ab_bl1.2) (by decide +kernel) (fun h10 eh10 => ?_)
            exact ab_vret (pc := 81) (by decide +kernel) rfl rfl (Nat.le_of_ble_eq_true rfl) (Nat.le_of_ble_eq_true rfl)
          · refine ab_aload_n (pc := 68) (n := 0) (i := 0) (j := 0) (by decide +kernel) rfl rfl ?_
            refine ab_iconst (pc := 69) (n := 1) (v := nI 1) (by decide +kernel) rfl ?_
            refine ab_put (pc := 70) fl_X12_236_12 rfl (fun _ => ab_bl1.1) (fun _ => ab_bl1.2) (by decide +kernel) (fun h11 eh11 => ?_)
            refine ab_goto (pc := 73) (off := 8) (tgt := 81) (by decide +kernel) (by decide) ?_
            exact ab_vret (pc := 81) (by decide +kernel) rfl rfl (Nat.le_of_ble_eq_true rfl) (Nat.le_of_ble_eq_true rfl)
      · exact ab_vret (pc := 63) (by decide +kernel) rfl rfl (Nat.le_of_ble_eq_true rfl) (Nat.le_of_ble_eq_true rfl)
    · refine ab_jr (fun k9 : ab_H → Option ab_H => ∀ (h13 : ab_H), ab_S l mX12_lawLine (fun y : ab_H => ((.inl none, y) : ab_R × ab_H)) 0 0 (k9 h13) 45 [(0, .ref x0), (1, .int v1.1)] [] h13) ?_ (fun j14 hj14 => ?_)
      · intro h13
        refine ab_iconst (pc := 45) (n := 1) (v := nI 1) (by decide +kernel) rfl ?_
        refine ab_goto (pc := 46) (off := 4) (tgt := 50) (by decide +kernel) (by decide) ?_
        exact hj12 (nI 1) h13
      · refine ab_if_eq (off := 10) (pc := 35) (tgt := 45) (by decide +kernel) (by decide) (fun g15 => ?_) (fun g15 => ?_)
        · exact hj14 v3.2
        · refine ab_aload_n (pc := 38) (n := 0) (i := 0) (j := 0) (by decide +kernel) rfl rfl ?_
          refine ab_callVj (As := []) (st := []) (pc := 39) (lk_X12_220_12 7) rfl rfl rfl (by decide) rfl (Nat.le_of_ble_eq_true rfl) (by decide +kernel) (fun y9 e9 => okX12_someT hl (F := F) e9) (fun v16 ev16 => ?_)
          refine ab_if_eq (off := 7) (pc := 42) (tgt := 49) (by decide +kernel) (by decide) (fun g17 => ?_) (fun g17 => ?_)
          · refine ab_iconst (pc := 49) (n := 0) (v := nI 0) (by decide +kernel) rfl ?_
            exact hj12 (nI 0) v16.2
          · exact hj14 v16.2
  · refine ab_if_ne (off := 21) (pc := 8) (tgt := 29) (by decide +kernel) (by decide) (fun g19 => ?_) (fun g19 => ?_)
    · refine ab_aload_n (pc := 11) (n := 0) (i := 0) (j := 0) (by decide +kernel) rfl rfl ?_
      refine ab_ldcS (pc := 12) (index := 232) (kk := 22) (tx := "fetch") (by decide +kernel) (by show (RX12, 232, "fetch", 22) ∈ ab_sr; decide +kernel) ?_
      refine ab_callVj (As := [.ref (ab_SB + 22)]) (st := []) (pc := 14) lk_X12_124_12 rfl rfl rfl (by decide) rfl (Nat.le_of_ble_eq_true rfl) (by decide +kernel) (fun y9 e9 => okX12_has_ hl (F := F) e9) (fun v20 ev20 => ?_)
      refine ab_if_ne (off := 12) (pc := 17) (tgt := 29) (by decide +kernel) (by decide) (fun g21 => ?_) (fun g21 => ?_)
      · refine ab_aload_n (pc := 20) (n := 0) (i := 0) (j := 0) (by decide +kernel) rfl rfl ?_
        refine ab_aload_n (pc := 21) (n := 0) (i := 0) (j := 0) (by decide +kernel) rfl rfl ?_
        refine ab_getI (pc := 22) fl_X12_67_12 (by decide +kernel) (fun v22 ev22 => ?_)
        refine ab_callVw (As := [.int v22]) (st := []) (pc := 25) lk_X12_93_12 rfl rfl rfl (by decide) rfl (Nat.le_of_ble_eq_true rfl) (by decide +kernel) (fun y9 e9 => okX12_wrong hl e9) (fun h23 eh23 => ?_)
        exact ab_vret (pc := 28) (by decide +kernel) rfl rfl (Nat.le_of_ble_eq_true rfl) (Nat.le_of_ble_eq_true rfl)
      · exact hj18 v20.2
    · exact hj18 v1.2
set_option maxRecDepth 100000 in
set_option maxHeartbeats 4000000 in
theorem okX12_lawLine {l : Launch} (hl : l.stackTraces = false) {F : Nat} {x0 : Nat} {h : ab_H} {y : ab_H} (e : fX12_lawLine F x0 h = some y) : ab_Met l mX12_lawLine [.ref x0] h (.inl none, y) := ab_ofS (io := (fun y : ab_H => ((.inl none, y) : ab_R × ab_H))) (x := y) hl (by decide) rfl (Nat.le_of_ble_eq_true rfl) (wX12_lawLine hl F x0 h) e
def mX12_block : ab_M := (yX12_block, cX12_block, 6, (some .boolean), { frames := 2, cells := 0, slots := 0, locals := 46 })
theorem iX12_block : ab_MI mX12_block 1 := ⟨kw_cb539f4a3e, kw_30b3f7d7c6, by decide +kernel⟩
theorem lk_X12_338_12 : ab_LV RX12 338 12 mX12_hasDearer 2 := ⟨RX12, rfl, iX12_hasDearer, kw_5366d730d3, kw_df92a7c415, kw_30af94adf6⟩
def fX12_block_18 (F : Nat) (x0 : Nat) (x2 : Int32) (h : ab_H) (k65 : Int32 → Option (Int32 × ab_H)) : Nat → Int32 → Int32 → Option (Int32 × ab_H)
  | 0, _, _ => none
  | n + 1, x3, x4 => ab_bd (ab_fr h x0 12 1) fun v3 => ab_bd (ab_ia 0 h v3 (nI 3)) fun v4 => (if x4 < v4 then (if x3 = 0 then fX12_block_18 F x0 x2 h k65 n (nI 0) (x4 + nI 1) else ab_bd (fX12_isOf x2 x4 h) fun v7 => (if v7 = 0 then fX12_block_18 F x0 x2 h k65 n (nI 1) (x4 + nI 1) else ab_ck (ab_io h x0 12 = true) (ab_bd (fX12_of x0 x4 (nI 2) h) fun v9 => (if v9 = (-1 : Int32) then fX12_block_18 F x0 x2 h k65 n (nI 0) (x4 + nI 1) else fX12_block_18 F x0 x2 h k65 n (nI 1) (x4 + nI 1))))) else k65 x3)
def fX12_block_101 (F : Nat) (x0 : Nat) (h : ab_H) (k152 : Int32 → Int32 → Option (Int32 × ab_H)) : Nat → Int32 → Int32 → Int32 → Option (Int32 × ab_H)
  | 0, _, _, _ => none
  | n + 1, x2, x4, x5 => ab_bd (ab_fr h x0 12 1) fun v17 => ab_bd (ab_ia 0 h v17 (nI 3)) fun v18 => (if x5 < v18 then ab_bd (fX12_isOf x2 x5 h) fun v20 => (if v20 = 0 then fX12_block_101 F x0 h k152 n x2 x4 (x5 + nI 1) else ab_ck (ab_io h x0 12 = true) (ab_bd (fX12_hasDearer F x0 x5 x2 h) fun v22 => (if v22 = 0 then fX12_block_101 F x0 h k152 n (x2 &&& (((nI 1) <<< (x5 &&& 31)) ^^^ (-1 : Int32))) (nI 1) (x5 + nI 1) else fX12_block_101 F x0 h k152 n x2 x4 (x5 + nI 1)))) else k152 x2 x4)
def fX12_block_90 (F : Nat) (x0 : Nat) (h : ab_H) (k155 : Int32 → Option (Int32 × ab_H)) : Nat → Int32 → Int32 → Option (Int32 × ab_H)
  | 0, _, _ => none
  | n + 1, x2, x4 => (if x4 = 0 then k155 x2 else fX12_block_101 F x0 h (fun (z24 : Int32) (z25 : Int32) => fX12_block_90 F x0 h k155 n z24 z25) F x2 (nI 0) (nI 0))
def fX12_block (F : Nat) (x0 : Nat) (x1 : Int32) (h : ab_H) : Option (Int32 × ab_H) := ab_bd (ab_fr h x0 12 1) fun v1 => ab_bd (ab_ia 0 h v1 (nI 3)) fun v2 => fX12_block_18 F x0 (x1 &&& (((nI 1) <<< (v2 &&& 31)) - (nI 1))) h (fun (z11 : Int32) => ab_jn (κ := Int32 → Option (Int32 × ab_H)) (fun (z12 : Int32) => ab_bd (ab_fw h x0 12 0 (.int z12)) fun h13 => ab_bd (ab_fi h13 x0 12 0) fun v14 => (if v14 ≤ 0 then fX12_block_90 F x0 h13 (fun (z26 : Int32) => (if z26 = 0 then some (nI 0, h13) else some (nI 1, h13))) F (x1 &&& (((nI 1) <<< (v2 &&& 31)) - (nI 1))) (nI 1) else some (nI 0, h13))) fun j28 => (if z11 = 0 then j28 (nI 1) else j28 (nI 0))) F (nI 1) (nI 0)
set_option maxRecDepth 100000 in
set_option maxHeartbeats 4000000 in
theorem lX12_block_18 {l : Launch} (hl : l.stackTraces = false) (F : Nat) (x0 : Nat) (x2 : Int32) (h : ab_H) {k65 : Int32 → Option (Int32 × ab_H)} (hk65 : ∀ (x3 : Int32), ab_S l mX12_block (fun y : (Int32 × ab_H) => ((.inl (some (.int y.1)), y.2) : ab_R × ab_H)) 0 0 (k65 x3) 65 [(0, .ref x0), (2, .int x2), (3, .int x3)] [] h) : ∀ (n : Nat) (x3 : Int32) (x4 : Int32), ab_S l mX12_block (fun y : (Int32 × ab_H) => ((.inl (some (.int y.1)), y.2) : ab_R × ab_H)) 0 0 (fX12_block_18 F x0 x2 h k65 n x3 x4) 18 [(0, .ref x0), (2, .int x2), (3, .int x3), (4, .int x4)] [] h := by
  intro n
  induction n with
  | zero =>
    intro x3 x4
    exact ab_none
  | succ n ih =>
    intro x3 x4
    rw [fX12_block_18]
    refine ab_iload (pc := 18) (i := 4) (j := 3) (by decide +kernel) rfl ?_
    refine ab_aload_n (pc := 20) (n := 0) (i := 0) (j := 0) (by decide +kernel) rfl rfl ?_
    refine ab_getR (pc := 21) fl_X12_7_12 (by decide +kernel) (fun v3 ev3 => ?_)
    refine ab_iconst (pc := 24) (n := 3) (v := nI 3) (by decide +kernel) rfl ?_
    refine ab_iald (pc := 25) (by decide +kernel) (fun v4 ev4 => ?_)
    refine ab_icmp_ge (off := 39) (pc := 26) (tgt := 65) (by decide +kernel) (by decide) (fun g5 => ?_) (fun g5 => ?_)
    · refine ab_iload_n (pc := 29) (n := 3) (i := 3) (j := 2) (by decide +kernel) rfl rfl ?_
      refine ab_if_eq (off := 27) (pc := 30) (tgt := 57) (by decide +kernel) (by decide) (fun g6 => ?_) (fun g6 => ?_)
      · refine ab_iconst (pc := 57) (n := 0) (v := nI 0) (by decide +kernel) rfl ?_
        refine ab_istore_n (pc := 58) (n := 3) (i := 3) (lv' := [(0, .ref x0), (2, .int x2), (3, .int (nI 0)), (4, .int x4)]) (by decide +kernel) rfl (Nat.le_of_ble_eq_true rfl) rfl rfl ?_
        refine ab_iinc (pc := 59) (i := 4) (n := 1) (j := 3) (d := nI 1) (lv' := [(0, .ref x0), (2, .int x2), (3, .int (nI 0)), (4, .int (x4 + nI 1))]) (by decide +kernel) rfl rfl (Nat.le_of_ble_eq_true rfl) rfl rfl ?_
        refine ab_goto (pc := 62) (off := (-44)) (tgt := 18) (by decide +kernel) (by decide) ?_
        exact ih (nI 0) (x4 + nI 1)
      · refine ab_iload_n (pc := 33) (n := 2) (i := 2) (j := 1) (by decide +kernel) rfl rfl ?_
        refine ab_iload (pc := 34) (i := 4) (j := 3) (by decide +kernel) rfl ?_
        refine ab_callSi (As := [.int x2, .int x4]) (st := []) (pc := 36) lk_X12_107 rfl rfl rfl (by decide) rfl (Nat.le_of_ble_eq_true rfl) (by decide +kernel) (fun y9 e9 => okX12_isOf hl e9) (fun v7 ev7 => ?_)
        refine ab_if_eq (off := 14) (pc := 39) (tgt := 53) (by decide +kernel) (by decide) (fun g8 => ?_) (fun g8 => ?_)
        · refine ab_iconst (pc := 53) (n := 1) (v := nI 1) (by decide +kernel) rfl ?_
          refine ab_goto (pc := 54) (off := 4) (tgt := 58) (by decide +kernel) (by decide) ?_
          refine ab_istore_n (pc := 58) (n := 3) (i := 3) (lv' := [(0, .ref x0), (2, .int x2), (3, .int (nI 1)), (4, .int x4)]) (by decide +kernel) rfl (Nat.le_of_ble_eq_true rfl) rfl rfl ?_
          refine ab_iinc (pc := 59) (i := 4) (n := 1) (j := 3) (d := nI 1) (lv' := [(0, .ref x0), (2, .int x2), (3, .int (nI 1)), (4, .int (x4 + nI 1))]) (by decide +kernel) rfl rfl (Nat.le_of_ble_eq_true rfl) rfl rfl ?_
          refine ab_goto (pc := 62) (off := (-44)) (tgt := 18) (by decide +kernel) (by decide) ?_
          exact ih (nI 1) (x4 + nI 1)
        · refine ab_aload_n (pc := 42) (n := 0) (i := 0) (j := 0) (by decide +kernel) rfl rfl ?_
          refine ab_iload (pc := 43) (i := 4) (j := 3) (by decide +kernel) rfl ?_
          refine ab_iconst (pc := 45) (n := 2) (v := nI 2) (by decide +kernel) rfl ?_
          refine ab_callVi (As := [.int x4, .int (nI 2)]) (st := []) (pc := 46) lk_X12_57_12 rfl rfl rfl (by decide) rfl (Nat.le_of_ble_eq_true rfl) (by decide +kernel) (fun y9 e9 => okX12_of hl e9) (fun v9 ev9 => ?_)
          refine ab_iconst (pc := 49) (n := -1) (v := (-1 : Int32)) (by decide +kernel) rfl ?_
          refine ab_icmp_eq (off := 7) (pc := 50) (tgt := 57) (by decide +kernel) (by decide) (fun g10 => ?_) (fun g10 => ?_)
          · refine ab_iconst (pc := 57) (n := 0) (v := nI 0) (by decide +kernel) rfl ?_
            refine ab_istore_n (pc := 58) (n := 3) (i := 3) (lv' := [(0, .ref x0), (2, .int x2), (3, .int (nI 0)), (4, .int x4)]) (by decide +kernel) rfl (Nat.le_of_ble_eq_true rfl) rfl rfl ?_
            refine ab_iinc (pc := 59) (i := 4) (n := 1) (j := 3) (d := nI 1) (lv' := [(0, .ref x0), (2, .int x2), (3, .int (nI 0)), (4, .int (x4 + nI 1))]) (by decide +kernel) rfl rfl (Nat.le_of_ble_eq_true rfl) rfl rfl ?_
            refine ab_goto (pc := 62) (off := (-44)) (tgt := 18) (by decide +kernel) (by decide) ?_
            exact ih (nI 0) (x4 + nI 1)
          · refine ab_iconst (pc := 53) (n := 1) (v := nI 1) (by decide +kernel) rfl ?_
            refine ab_goto (pc := 54) (off := 4) (tgt := 58) (by decide +kernel) (by decide) ?_
            refine ab_istore_n (pc := 58) (n := 3) (i := 3) (lv' := [(0, .ref x0), (2, .int x2), (3, .int (nI 1)), (4, .int x4)]) (by decide +kernel) rfl (Nat.le_of_ble_eq_true rfl) rfl rfl ?_
            refine ab_iinc (pc := 59) (i := 4) (n := 1) (j := 3) (d := nI 1) (lv' := [(0, .ref x0), (2, .int x2), (3, .int (nI 1)), (4, .int (x4 + nI 1))]) (by decide +kernel) rfl rfl (Nat.le_of_ble_eq_true rfl) rfl rfl ?_
            refine ab_goto (pc := 62) (off := (-44)) (tgt := 18) (by decide +kernel) (by decide) ?_
            exact ih (nI 1) (x4 + nI 1)
    · refine ab_few [0, 1, 2] (lv' := [(0, .ref x0), (2, .int x2), (3, .int x3)]) rfl ?_
      exact hk65 x3
set_option maxRecDepth 100000 in
set_option maxHeartbeats 4000000 in
theorem lX12_block_101 {l : Launch} (hl : l.stackTraces = false) (F : Nat) (x0 : Nat) (h : ab_H) {k152 : Int32 → Int32 → Option (Int32 × ab_H)} (hk152 : ∀ (x2 : Int32), ∀ (x4 : Int32), ab_S l mX12_block (fun y : (Int32 × ab_H) => ((.inl (some (.int y.1)), y.2) : ab_R × ab_H)) 0 0 (k152 x2 x4) 152 [(0, .ref x0), (2, .int x2), (4, .int x4)] [] h) : ∀ (n : Nat) (x2 : Int32) (x4 : Int32) (x5 : Int32), ab_S l mX12_block (fun y : (Int32 × ab_H) => ((.inl (some (.int y.1)), y.2) : ab_R × ab_H)) 0 0 (fX12_block_101 F x0 h k152 n x2 x4 x5) 101 [(0, .ref x0), (2, .int x2), (4, .int x4), (5, .int x5)] [] h := by
  intro n
  induction n with
  | zero =>
    intro x2 x4 x5
    exact ab_none
  | succ n ih =>
    intro x2 x4 x5
    rw [fX12_block_101]
    refine ab_iload (pc := 101) (i := 5) (j := 3) (by decide +kernel) rfl ?_
    refine ab_aload_n (pc := 103) (n := 0) (i := 0) (j := 0) (by decide +kernel) rfl rfl ?_
    refine ab_getR (pc := 104) fl_X12_7_12 (by decide +kernel) (fun v17 ev17 => ?_)
    refine ab_iconst (pc := 107) (n := 3) (v := nI 3) (by decide +kernel) rfl ?_
    refine ab_iald (pc := 108) (by decide +kernel) (fun v18 ev18 => ?_)
    refine ab_icmp_ge (off := 43) (pc := 109) (tgt := 152) (by decide +kernel) (by decide) (fun g19 => ?_) (fun g19 => ?_)
    · refine ab_iload_n (pc := 112) (n := 2) (i := 2) (j := 1) (by decide +kernel) rfl rfl ?_
      refine ab_iload (pc := 113) (i := 5) (j := 3) (by decide +kernel) rfl ?_
      refine ab_callSi (As := [.int x2, .int x5]) (st := []) (pc := 115) lk_X12_107 rfl rfl rfl (by decide) rfl (Nat.le_of_ble_eq_true rfl) (by decide +kernel) (fun y9 e9 => okX12_isOf hl e9) (fun v20 ev20 => ?_)
      refine ab_if_eq (off := 28) (pc := 118) (tgt := 146) (by decide +kernel) (by decide) (fun g21 => ?_) (fun g21 => ?_)
      · refine ab_iinc (pc := 146) (i := 5) (n := 1) (j := 3) (d := nI 1) (lv' := [(0, .ref x0), (2, .int x2), (4, .int x4), (5, .int (x5 + nI 1))]) (by decide +kernel) rfl rfl (Nat.le_of_ble_eq_true rfl) rfl rfl ?_
        refine ab_goto (pc := 149) (off := (-48)) (tgt := 101) (by decide +kernel) (by decide) ?_
        exact ih x2 x4 (x5 + nI 1)
      · refine ab_aload_n (pc := 121) (n := 0) (i := 0) (j := 0) (by decide +kernel) rfl rfl ?_
        refine ab_iload (pc := 122) (i := 5) (j := 3) (by decide +kernel) rfl ?_
        refine ab_iload_n (pc := 124) (n := 2) (i := 2) (j := 1) (by decide +kernel) rfl rfl ?_
        refine ab_callVi (As := [.int x5, .int x2]) (st := []) (pc := 125) lk_X12_338_12 rfl rfl rfl (by decide) rfl (Nat.le_of_ble_eq_true rfl) (by decide +kernel) (fun y9 e9 => okX12_hasDearer hl (F := F) e9) (fun v22 ev22 => ?_)
        refine ab_if_eq (off := 6) (pc := 128) (tgt := 134) (by decide +kernel) (by decide) (fun g23 => ?_) (fun g23 => ?_)
        · refine ab_iload_n (pc := 134) (n := 2) (i := 2) (j := 1) (by decide +kernel) rfl rfl ?_
          refine ab_iconst (pc := 135) (n := 1) (v := nI 1) (by decide +kernel) rfl ?_
          refine ab_iload (pc := 136) (i := 5) (j := 3) (by decide +kernel) rfl ?_
          refine ab_ishl (pc := 138) (by decide +kernel) ?_
          refine ab_iconst (pc := 139) (n := -1) (v := (-1 : Int32)) (by decide +kernel) rfl ?_
          refine ab_ixor (pc := 140) (by decide +kernel) ?_
          refine ab_iand (pc := 141) (by decide +kernel) ?_
          refine ab_istore_n (pc := 142) (n := 2) (i := 2) (lv' := [(0, .ref x0), (2, .int (x2 &&& (((nI 1) <<< (x5 &&& 31)) ^^^ (-1 : Int32)))), (4, .int x4), (5, .int x5)]) (by decide +kernel) rfl (Nat.le_of_ble_eq_true rfl) rfl rfl ?_
          refine ab_iconst (pc := 143) (n := 1) (v := nI 1) (by decide +kernel) rfl ?_
          refine ab_istore (pc := 144) (i := 4) (lv' := [(0, .ref x0), (2, .int (x2 &&& (((nI 1) <<< (x5 &&& 31)) ^^^ (-1 : Int32)))), (4, .int (nI 1)), (5, .int x5)]) (by decide +kernel) (Nat.le_of_ble_eq_true rfl) rfl rfl ?_
          refine ab_iinc (pc := 146) (i := 5) (n := 1) (j := 3) (d := nI 1) (lv' := [(0, .ref x0), (2, .int (x2 &&& (((nI 1) <<< (x5 &&& 31)) ^^^ (-1 : Int32)))), (4, .int (nI 1)), (5, .int (x5 + nI 1))]) (by decide +kernel) rfl rfl (Nat.le_of_ble_eq_true rfl) rfl rfl ?_
          refine ab_goto (pc := 149) (off := (-48)) (tgt := 101) (by decide +kernel) (by decide) ?_
          exact ih (x2 &&& (((nI 1) <<< (x5 &&& 31)) ^^^ (-1 : Int32))) (nI 1) (x5 + nI 1)
        · refine ab_goto (pc := 131) (off := 15) (tgt := 146) (by decide +kernel) (by decide) ?_
          refine ab_iinc (pc := 146) (i := 5) (n := 1) (j := 3) (d := nI 1) (lv' := [(0, .ref x0), (2, .int x2), (4, .int x4), (5, .int (x5 + nI 1))]) (by decide +kernel) rfl rfl (Nat.le_of_ble_eq_true rfl) rfl rfl ?_
          refine ab_goto (pc := 149) (off := (-48)) (tgt := 101) (by decide +kernel) (by decide) ?_
          exact ih x2 x4 (x5 + nI 1)
    · refine ab_few [0, 1, 2] (lv' := [(0, .ref x0), (2, .int x2), (4, .int x4)]) rfl ?_
      exact hk152 x2 x4
set_option maxRecDepth 100000 in
set_option maxHeartbeats 4000000 in
theorem lX12_block_90 {l : Launch} (hl : l.stackTraces = false) (F : Nat) (x0 : Nat) (h : ab_H) {k155 : Int32 → Option (Int32 × ab_H)} (hk155 : ∀ (x2 : Int32), ab_S l mX12_block (fun y : (Int32 × ab_H) => ((.inl (some (.int y.1)), y.2) : ab_R × ab_H)) 0 0 (k155 x2) 155 [(2, .int x2)] [] h) : ∀ (n : Nat) (x2 : Int32) (x4 : Int32), ab_S l mX12_block (fun y : (Int32 × ab_H) => ((.inl (some (.int y.1)), y.2) : ab_R × ab_H)) 0 0 (fX12_block_90 F x0 h k155 n x2 x4) 90 [(0, .ref x0), (2, .int x2), (4, .int x4)] [] h := by
  intro n
  induction n with
  | zero =>
    intro x2 x4
    exact ab_none
  | succ n ih =>
    intro x2 x4
    rw [fX12_block_90]
    refine ab_iload (pc := 90) (i := 4) (j := 2) (by decide +kernel) rfl ?_
    refine ab_if_eq (off := 63) (pc := 92) (tgt := 155) (by decide +kernel) (by decide) (fun g16 => ?_) (fun g16 => ?_)
    · refine ab_few [1] (lv' := [(2, .int x2)]) rfl ?_
      exact hk155 x2
    · refine ab_iconst (pc := 95) (n := 0) (v := nI 0) (by decide +kernel) rfl ?_
      refine ab_istore (pc := 96) (i := 4) (lv' := [(0, .ref x0), (2, .int x2), (4, .int (nI 0))]) (by decide +kernel) (Nat.le_of_ble_eq_true rfl) rfl rfl ?_
      refine ab_iconst (pc := 98) (n := 0) (v := nI 0) (by decide +kernel) rfl ?_
      refine ab_istore (pc := 99) (i := 5) (lv' := [(0, .ref x0), (2, .int x2), (4, .int (nI 0)), (5, .int (nI 0))]) (by decide +kernel) (Nat.le_of_ble_eq_true rfl) rfl rfl ?_
      refine lX12_block_101 hl F x0 h ?_ F x2 (nI 0) (nI 0)
      intro z24 z25
      refine ab_goto (pc := 152) (off := (-62)) (tgt := 90) (by decide +kernel) (by decide) ?_
      exact ih z24 z25
set_option maxRecDepth 100000 in
set_option maxHeartbeats 4000000 in
theorem wX12_block {l : Launch} (hl : l.stackTraces = false) (F : Nat) (x0 : Nat) (x1 : Int32) (h : ab_H) : ab_S l mX12_block (fun y : (Int32 × ab_H) => ((.inl (some (.int y.1)), y.2) : ab_R × ab_H)) 0 0 (fX12_block F x0 x1 h) 0 [(0, .ref x0), (1, .int x1)] [] h := by
  unfold fX12_block
  refine ab_iload_n (pc := 0) (n := 1) (i := 1) (j := 1) (by decide +kernel) rfl rfl ?_
  refine ab_iconst (pc := 1) (n := 1) (v := nI 1) (by decide +kernel) rfl ?_
  refine ab_aload_n (pc := 2) (n := 0) (i := 0) (j := 0) (by decide +kernel) rfl rfl ?_
  refine ab_getR (pc := 3) fl_X12_7_12 (by decide +kernel) (fun v1 ev1 => ?_)
  refine ab_iconst (pc := 6) (n := 3) (v := nI 3) (by decide +kernel) rfl ?_
  refine ab_iald (pc := 7) (by decide +kernel) (fun v2 ev2 => ?_)
  refine ab_ishl (pc := 8) (by decide +kernel) ?_
  refine ab_iconst (pc := 9) (n := 1) (v := nI 1) (by decide +kernel) rfl ?_
  refine ab_isub (pc := 10) (by decide +kernel) ?_
  refine ab_iand (pc := 11) (by decide +kernel) ?_
  refine ab_istore_n (pc := 12) (n := 2) (i := 2) (lv' := [(0, .ref x0), (1, .int x1), (2, .int (x1 &&& (((nI 1) <<< (v2 &&& 31)) - (nI 1))))]) (by decide +kernel) rfl (Nat.le_of_ble_eq_true rfl) rfl rfl ?_
  refine ab_iconst (pc := 13) (n := 1) (v := nI 1) (by decide +kernel) rfl ?_
  refine ab_istore_n (pc := 14) (n := 3) (i := 3) (lv' := [(0, .ref x0), (1, .int x1), (2, .int (x1 &&& (((nI 1) <<< (v2 &&& 31)) - (nI 1)))), (3, .int (nI 1))]) (by decide +kernel) rfl (Nat.le_of_ble_eq_true rfl) rfl rfl ?_
  refine ab_iconst (pc := 15) (n := 0) (v := nI 0) (by decide +kernel) rfl ?_
  refine ab_istore (pc := 16) (i := 4) (lv' := [(0, .ref x0), (1, .int x1), (2, .int (x1 &&& (((nI 1) <<< (v2 &&& 31)) - (nI 1)))), (3, .int (nI 1)), (4, .int (nI 0))]) (by decide +kernel) (Nat.le_of_ble_eq_true rfl) rfl rfl ?_
  refine ab_few [0, 2, 3, 4] (lv' := [(0, .ref x0), (2, .int (x1 &&& (((nI 1) <<< (v2 &&& 31)) - (nI 1)))), (3, .int (nI 1)), (4, .int (nI 0))]) rfl ?_
  refine lX12_block_18 hl F x0 (x1 &&& (((nI 1) <<< (v2 &&& 31)) - (nI 1))) h ?_ F (nI 1) (nI 0)
  intro z11
  refine ab_aload_n (pc := 65) (n := 0) (i := 0) (j := 0) (by decide +kernel) rfl rfl ?_
  refine ab_iload_n (pc := 66) (n := 3) (i := 3) (j := 2) (by decide +kernel) rfl rfl ?_
  refine ab_jr (fun k9 : Int32 → Option (Int32 × ab_H) => ∀ (z12 : Int32), ab_S l mX12_block (fun y : (Int32 × ab_H) => ((.inl (some (.int y.1)), y.2) : ab_R × ab_H)) 0 0 (k9 z12) 75 [(0, .ref x0), (2, .int (x1 &&& (((nI 1) <<< (v2 &&& 31)) - (nI 1))))] [.int z12, .ref x0] h) ?_ (fun j28 hj28 => ?_)
  · intro z12
    refine ab_put (pc := 75) fl_X12_50_12 rfl (fun _ => rfl) (fun _ => rfl) (by decide +kernel) (fun h13 eh13 => ?_)
    refine ab_aload_n (pc := 78) (n := 0) (i := 0) (j := 0) (by decide +kernel) rfl rfl ?_
    refine ab_getI (pc := 79) fl_X12_50_12 (by decide +kernel) (fun v14 ev14 => ?_)
    refine ab_if_le (off := 5) (pc := 82) (tgt := 87) (by decide +kernel) (by decide) (fun g15 => ?_) (fun g15 => ?_)
    · refine ab_iconst (pc := 87) (n := 1) (v := nI 1) (by decide +kernel) rfl ?_
      refine ab_istore (pc := 88) (i := 4) (lv' := [(0, .ref x0), (2, .int (x1 &&& (((nI 1) <<< (v2 &&& 31)) - (nI 1)))), (4, .int (nI 1))]) (by decide +kernel) (Nat.le_of_ble_eq_true rfl) rfl rfl ?_
      refine lX12_block_90 hl F x0 h13 ?_ F (x1 &&& (((nI 1) <<< (v2 &&& 31)) - (nI 1))) (nI 1)
      intro z26
      refine ab_iload_n (pc := 155) (n := 2) (i := 2) (j := 0) (by decide +kernel) rfl rfl ?_
      refine ab_if_eq (off := 7) (pc := 156) (tgt := 163) (by decide +kernel) (by decide) (fun g27 => ?_) (fun g27 => ?_)
      · refine ab_iconst (pc := 163) (n := 0) (v := nI 0) (by decide +kernel) rfl ?_
        exact ab_zret (pc := 164) (by decide +kernel) rfl ab_bl0.1 rfl (Nat.le_of_ble_eq_true rfl) (Nat.le_of_ble_eq_true rfl)
      · refine ab_iconst (pc := 159) (n := 1) (v := nI 1) (by decide +kernel) rfl ?_
        refine ab_goto (pc := 160) (off := 4) (tgt := 164) (by decide +kernel) (by decide) ?_
        exact ab_zret (pc := 164) (by decide +kernel) rfl ab_bl1.1 rfl (Nat.le_of_ble_eq_true rfl) (Nat.le_of_ble_eq_true rfl)
    · refine ab_iconst (pc := 85) (n := 0) (v := nI 0) (by decide +kernel) rfl ?_
      exact ab_zret (pc := 86) (by decide +kernel) rfl ab_bl0.1 rfl (Nat.le_of_ble_eq_true rfl) (Nat.le_of_ble_eq_true rfl)
  · refine ab_if_eq (off := 7) (pc := 67) (tgt := 74) (by decide +kernel) (by decide) (fun g29 => ?_) (fun g29 => ?_)
    · refine ab_iconst (pc := 74) (n := 1) (v := nI 1) (by decide +kernel) rfl ?_
      refine ab_few [0, 1] (lv' := [(0, .ref x0), (2, .int (x1 &&& (((nI 1) <<< (v2 &&& 31)) - (nI 1))))]) rfl ?_
      exact hj28 (nI 1)
    · refine ab_iconst (pc := 70) (n := 0) (v := nI 0) (by decide +kernel) rfl ?_
      refine ab_goto (pc := 71) (off := 4) (tgt := 75) (by decide +kernel) (by decide) ?_
      refine ab_few [0, 1] (lv' := [(0, .ref x0), (2, .int (x1 &&& (((nI 1) <<< (v2 &&& 31)) - (nI 1))))]) rfl ?_
      exact hj28 (nI 0)
set_option maxRecDepth 100000 in
set_option maxHeartbeats 4000000 in
theorem okX12_block {l : Launch} (hl : l.stackTraces = false) {F : Nat} {x0 : Nat} {x1 : Int32} {h : ab_H} {y : (Int32 × ab_H)} (e : fX12_block F x0 x1 h = some y) : ab_Met l mX12_block [.ref x0, .int x1] h (.inl (some (.int y.1)), y.2) := ab_ofS (io := (fun y : (Int32 × ab_H) => ((.inl (some (.int y.1)), y.2) : ab_R × ab_H))) (x := y) hl (by decide) rfl (Nat.le_of_ble_eq_true rfl) (wX12_block hl F x0 x1 h) e
def mX12_owned : ab_M := (yX12_owned, cX12_owned, 5, (some .int), { frames := 2, cells := 0, slots := 0, locals := 47 })
theorem iX12_owned : ab_MI mX12_owned 1 := ⟨kw_724dee189e, kw_30b3f7d7c6, by decide +kernel⟩
theorem lk_X12_344_12 : ab_LV RX12 344 12 mX12_counts 0 := ⟨RX12, rfl, iX12_counts, kw_b51737b0b5, kw_2ca23270eb, kw_f8dba9d1ef⟩
def fX12_owned_9 (F : Nat) (x0 : Nat) (x1 : Int32) (x2 : Int32) (k31 : ab_H → Option (Int32 × ab_H)) : Nat → Int32 → ab_H → Option (Int32 × ab_H)
  | 0, _, _ => none
  | n + 1, x3, h => (if x3 < x2 then ab_bd (ab_fr h x0 12 21) fun v4 => ab_bd (ab_iw 0 h v4 x3 (((nI 1) <<< (x2 &&& 31)) - (nI 1))) fun h5 => fX12_owned_9 F x0 x1 x2 k31 n (x3 + nI 1) h5 else k31 h)
def fX12_owned_33 (F : Nat) (x0 : Nat) (x1 : Int32) (k111 : ab_H → Option (Int32 × ab_H)) : Nat → Int32 → ab_H → Option (Int32 × ab_H)
  | 0, _, _ => none
  | n + 1, x3, h => ab_bd (ab_fi h x0 12 20) fun v7 => (if x3 < v7 then ab_bd (fX12_isOf x1 x3 h) fun v9 => (if v9 = 0 then fX12_owned_33 F x0 x1 k111 n (x3 + nI 1) h else ab_bd (ab_fr h x0 12 19) fun v11 => ab_bd (ab_ia 0 h v11 (((nI 3) * x3) + (nI 1))) fun v12 => ab_bd (ab_fr h x0 12 21) fun v13 => ab_bd (ab_fr h x0 12 19) fun v14 => ab_bd (ab_ia 0 h v14 ((nI 3) * x3)) fun v15 => ab_bd (ab_ia 0 h v13 v15) fun v16 => ab_bd (ab_fr h x0 12 19) fun v17 => ab_bd (ab_ia 0 h v17 (((nI 3) * x3) + (nI 2))) fun v18 => (if v18 = (nI 1) then ab_bd (ab_iw 0 h v13 v15 (v16 &&& ((nI 1) <<< (v12 &&& 31)))) fun h20 => fX12_owned_33 F x0 x1 k111 n (x3 + nI 1) h20 else ab_bd (ab_iw 0 h v13 v15 (v16 &&& (((nI 1) <<< (v12 &&& 31)) ^^^ (-1 : Int32)))) fun h21 => fX12_owned_33 F x0 x1 k111 n (x3 + nI 1) h21)) else k111 h)
def fX12_owned (F : Nat) (x0 : Nat) (x1 : Int32) (h : ab_H) : Option (Int32 × ab_H) := ab_bd (ab_fr h x0 12 1) fun v1 => ab_bd (ab_ia 0 h v1 (nI 3)) fun v2 => fX12_owned_9 F x0 x1 v2 (fun (h6 : ab_H) => fX12_owned_33 F x0 x1 (fun (h22 : ab_H) => ab_ck (ab_io h22 x0 12 = true) (ab_bd (fX12_counts F x0 h22) fun v23 => some (v23.1, v23.2))) F (nI 0) h6) F (nI 0) h
set_option maxRecDepth 100000 in
set_option maxHeartbeats 4000000 in
theorem lX12_owned_9 {l : Launch} (hl : l.stackTraces = false) (F : Nat) (x0 : Nat) (x1 : Int32) (x2 : Int32) {k31 : ab_H → Option (Int32 × ab_H)} (hk31 : ∀ (h : ab_H), ab_S l mX12_owned (fun y : (Int32 × ab_H) => ((.inl (some (.int y.1)), y.2) : ab_R × ab_H)) 0 0 (k31 h) 31 [(0, .ref x0), (1, .int x1)] [] h) : ∀ (n : Nat) (x3 : Int32) (h : ab_H), ab_S l mX12_owned (fun y : (Int32 × ab_H) => ((.inl (some (.int y.1)), y.2) : ab_R × ab_H)) 0 0 (fX12_owned_9 F x0 x1 x2 k31 n x3 h) 9 [(0, .ref x0), (1, .int x1), (2, .int x2), (3, .int x3)] [] h := by
  intro n
  induction n with
  | zero =>
    intro x3 h
    exact ab_none
  | succ n ih =>
    intro x3 h
    rw [fX12_owned_9]
    refine ab_iload_n (pc := 9) (n := 3) (i := 3) (j := 3) (by decide +kernel) rfl rfl ?_
    refine ab_iload_n (pc := 10) (n := 2) (i := 2) (j := 2) (by decide +kernel) rfl rfl ?_
    refine ab_icmp_ge (off := 20) (pc := 11) (tgt := 31) (by decide +kernel) (by decide) (fun g3 => ?_) (fun g3 => ?_)
    · refine ab_aload_n (pc := 14) (n := 0) (i := 0) (j := 0) (by decide +kernel) rfl rfl ?_
      refine ab_getR (pc := 15) fl_X12_35_12 (by decide +kernel) (fun v4 ev4 => ?_)
      refine ab_iload_n (pc := 18) (n := 3) (i := 3) (j := 3) (by decide +kernel) rfl rfl ?_
      refine ab_iconst (pc := 19) (n := 1) (v := nI 1) (by decide +kernel) rfl ?_
      refine ab_iload_n (pc := 20) (n := 2) (i := 2) (j := 2) (by decide +kernel) rfl rfl ?_
      refine ab_ishl (pc := 21) (by decide +kernel) ?_
      refine ab_iconst (pc := 22) (n := 1) (v := nI 1) (by decide +kernel) rfl ?_
      refine ab_isub (pc := 23) (by decide +kernel) ?_
      refine ab_iast (pc := 24) (by decide +kernel) (fun h5 eh5 => ?_)
      refine ab_iinc (pc := 25) (i := 3) (n := 1) (j := 3) (d := nI 1) (lv' := [(0, .ref x0), (1, .int x1), (2, .int x2), (3, .int (x3 + nI 1))]) (by decide +kernel) rfl rfl (Nat.le_of_ble_eq_true rfl) rfl rfl ?_
      refine ab_goto (pc := 28) (off := (-19)) (tgt := 9) (by decide +kernel) (by decide) ?_
      exact ih (x3 + nI 1) h5
    · refine ab_few [0, 1] (lv' := [(0, .ref x0), (1, .int x1)]) rfl ?_
      exact hk31 h
set_option maxRecDepth 100000 in
set_option maxHeartbeats 4000000 in
theorem lX12_owned_33 {l : Launch} (hl : l.stackTraces = false) (F : Nat) (x0 : Nat) (x1 : Int32) {k111 : ab_H → Option (Int32 × ab_H)} (hk111 : ∀ (h : ab_H), ab_S l mX12_owned (fun y : (Int32 × ab_H) => ((.inl (some (.int y.1)), y.2) : ab_R × ab_H)) 0 0 (k111 h) 111 [(0, .ref x0)] [] h) : ∀ (n : Nat) (x3 : Int32) (h : ab_H), ab_S l mX12_owned (fun y : (Int32 × ab_H) => ((.inl (some (.int y.1)), y.2) : ab_R × ab_H)) 0 0 (fX12_owned_33 F x0 x1 k111 n x3 h) 33 [(0, .ref x0), (1, .int x1), (3, .int x3)] [] h := by
  intro n
  induction n with
  | zero =>
    intro x3 h
    exact ab_none
  | succ n ih =>
    intro x3 h
    rw [fX12_owned_33]
    refine ab_iload_n (pc := 33) (n := 3) (i := 3) (j := 2) (by decide +kernel) rfl rfl ?_
    refine ab_aload_n (pc := 34) (n := 0) (i := 0) (j := 0) (by decide +kernel) rfl rfl ?_
    refine ab_getI (pc := 35) fl_X12_341_12 (by decide +kernel) (fun v7 ev7 => ?_)
    refine ab_icmp_ge (off := 73) (pc := 38) (tgt := 111) (by decide +kernel) (by decide) (fun g8 => ?_) (fun g8 => ?_)
    · refine ab_iload_n (pc := 41) (n := 1) (i := 1) (j := 1) (by decide +kernel) rfl rfl ?_
      refine ab_iload_n (pc := 42) (n := 3) (i := 3) (j := 2) (by decide +kernel) rfl rfl ?_
      refine ab_callSi (As := [.int x1, .int x3]) (st := []) (pc := 43) lk_X12_107 rfl rfl rfl (by decide) rfl (Nat.le_of_ble_eq_true rfl) (by decide +kernel) (fun y9 e9 => okX12_isOf hl e9) (fun v9 ev9 => ?_)
      refine ab_if_ne (off := 6) (pc := 46) (tgt := 52) (by decide +kernel) (by decide) (fun g10 => ?_) (fun g10 => ?_)
      · refine ab_goto (pc := 49) (off := 56) (tgt := 105) (by decide +kernel) (by decide) ?_
        refine ab_iinc (pc := 105) (i := 3) (n := 1) (j := 2) (d := nI 1) (lv' := [(0, .ref x0), (1, .int x1), (3, .int (x3 + nI 1))]) (by decide +kernel) rfl rfl (Nat.le_of_ble_eq_true rfl) rfl rfl ?_
        refine ab_goto (pc := 108) (off := (-75)) (tgt := 33) (by decide +kernel) (by decide) ?_
        exact ih (x3 + nI 1) h
      · refine ab_iconst (pc := 52) (n := 1) (v := nI 1) (by decide +kernel) rfl ?_
        refine ab_aload_n (pc := 53) (n := 0) (i := 0) (j := 0) (by decide +kernel) rfl rfl ?_
        refine ab_getR (pc := 54) fl_X12_32_12 (by decide +kernel) (fun v11 ev11 => ?_)
        refine ab_iconst (pc := 57) (n := 3) (v := nI 3) (by decide +kernel) rfl ?_
        refine ab_iload_n (pc := 58) (n := 3) (i := 3) (j := 2) (by decide +kernel) rfl rfl ?_
        refine ab_imul (pc := 59) (by decide +kernel) ?_
        refine ab_iconst (pc := 60) (n := 1) (v := nI 1) (by decide +kernel) rfl ?_
        refine ab_iadd (pc := 61) (by decide +kernel) ?_
        refine ab_iald (pc := 62) (by decide +kernel) (fun v12 ev12 => ?_)
        refine ab_ishl (pc := 63) (by decide +kernel) ?_
        refine ab_istore (pc := 64) (i := 4) (lv' := [(0, .ref x0), (1, .int x1), (3, .int x3), (4, .int ((nI 1) <<< (v12 &&& 31)))]) (by decide +kernel) (Nat.le_of_ble_eq_true rfl) rfl rfl ?_
        refine ab_aload_n (pc := 66) (n := 0) (i := 0) (j := 0) (by decide +kernel) rfl rfl ?_
        refine ab_getR (pc := 67) fl_X12_35_12 (by decide +kernel) (fun v13 ev13 => ?_)
        refine ab_aload_n (pc := 70) (n := 0) (i := 0) (j := 0) (by decide +kernel) rfl rfl ?_
        refine ab_getR (pc := 71) fl_X12_32_12 (by decide +kernel) (fun v14 ev14 => ?_)
        refine ab_iconst (pc := 74) (n := 3) (v := nI 3) (by decide +kernel) rfl ?_
        refine ab_iload_n (pc := 75) (n := 3) (i := 3) (j := 2) (by decide +kernel) rfl rfl ?_
        refine ab_imul (pc := 76) (by decide +kernel) ?_
        refine ab_iald (pc := 77) (by decide +kernel) (fun v15 ev15 => ?_)
        refine ab_dup2 (pc := 78) (by decide +kernel) rfl rfl ?_
        refine ab_iald (pc := 79) (by decide +kernel) (fun v16 ev16 => ?_)
        refine ab_aload_n (pc := 80) (n := 0) (i := 0) (j := 0) (by decide +kernel) rfl rfl ?_
        refine ab_getR (pc := 81) fl_X12_32_12 (by decide +kernel) (fun v17 ev17 => ?_)
        refine ab_iconst (pc := 84) (n := 3) (v := nI 3) (by decide +kernel) rfl ?_
        refine ab_iload_n (pc := 85) (n := 3) (i := 3) (j := 2) (by decide +kernel) rfl rfl ?_
        refine ab_imul (pc := 86) (by decide +kernel) ?_
        refine ab_iconst (pc := 87) (n := 2) (v := nI 2) (by decide +kernel) rfl ?_
        refine ab_iadd (pc := 88) (by decide +kernel) ?_
        refine ab_iald (pc := 89) (by decide +kernel) (fun v18 ev18 => ?_)
        refine ab_iconst (pc := 90) (n := 1) (v := nI 1) (by decide +kernel) rfl ?_
        refine ab_icmp_ne (off := 8) (pc := 91) (tgt := 99) (by decide +kernel) (by decide) (fun g19 => ?_) (fun g19 => ?_)
        · refine ab_iload (pc := 94) (i := 4) (j := 3) (by decide +kernel) rfl ?_
          refine ab_goto (pc := 96) (off := 7) (tgt := 103) (by decide +kernel) (by decide) ?_
          refine ab_iand (pc := 103) (by decide +kernel) ?_
          refine ab_iast (pc := 104) (by decide +kernel) (fun h20 eh20 => ?_)
          refine ab_iinc (pc := 105) (i := 3) (n := 1) (j := 2) (d := nI 1) (lv' := [(0, .ref x0), (1, .int x1), (3, .int (x3 + nI 1)), (4, .int ((nI 1) <<< (v12 &&& 31)))]) (by decide +kernel) rfl rfl (Nat.le_of_ble_eq_true rfl) rfl rfl ?_
          refine ab_goto (pc := 108) (off := (-75)) (tgt := 33) (by decide +kernel) (by decide) ?_
          refine ab_few [0, 1, 2] (lv' := [(0, .ref x0), (1, .int x1), (3, .int (x3 + nI 1))]) rfl ?_
          exact ih (x3 + nI 1) h20
        · refine ab_iload (pc := 99) (i := 4) (j := 3) (by decide +kernel) rfl ?_
          refine ab_iconst (pc := 101) (n := -1) (v := (-1 : Int32)) (by decide +kernel) rfl ?_
          refine ab_ixor (pc := 102) (by decide +kernel) ?_
          refine ab_iand (pc := 103) (by decide +kernel) ?_
          refine ab_iast (pc := 104) (by decide +kernel) (fun h21 eh21 => ?_)
          refine ab_iinc (pc := 105) (i := 3) (n := 1) (j := 2) (d := nI 1) (lv' := [(0, .ref x0), (1, .int x1), (3, .int (x3 + nI 1)), (4, .int ((nI 1) <<< (v12 &&& 31)))]) (by decide +kernel) rfl rfl (Nat.le_of_ble_eq_true rfl) rfl rfl ?_
          refine ab_goto (pc := 108) (off := (-75)) (tgt := 33) (by decide +kernel) (by decide) ?_
          refine ab_few [0, 1, 2] (lv' := [(0, .ref x0), (1, .int x1), (3, .int (x3 + nI 1))]) rfl ?_
          exact ih (x3 + nI 1) h21
    · refine ab_few [0] (lv' := [(0, .ref x0)]) rfl ?_
      exact hk111 h
set_option maxRecDepth 100000 in
set_option maxHeartbeats 4000000 in
theorem wX12_owned {l : Launch} (hl : l.stackTraces = false) (F : Nat) (x0 : Nat) (x1 : Int32) (h : ab_H) : ab_S l mX12_owned (fun y : (Int32 × ab_H) => ((.inl (some (.int y.1)), y.2) : ab_R × ab_H)) 0 0 (fX12_owned F x0 x1 h) 0 [(0, .ref x0), (1, .int x1)] [] h := by
  unfold fX12_owned
  refine ab_aload_n (pc := 0) (n := 0) (i := 0) (j := 0) (by decide +kernel) rfl rfl ?_
  refine ab_getR (pc := 1) fl_X12_7_12 (by decide +kernel) (fun v1 ev1 => ?_)
  refine ab_iconst (pc := 4) (n := 3) (v := nI 3) (by decide +kernel) rfl ?_
  refine ab_iald (pc := 5) (by decide +kernel) (fun v2 ev2 => ?_)
  refine ab_istore_n (pc := 6) (n := 2) (i := 2) (lv' := [(0, .ref x0), (1, .int x1), (2, .int v2)]) (by decide +kernel) rfl (Nat.le_of_ble_eq_true rfl) rfl rfl ?_
  refine ab_iconst (pc := 7) (n := 0) (v := nI 0) (by decide +kernel) rfl ?_
  refine ab_istore_n (pc := 8) (n := 3) (i := 3) (lv' := [(0, .ref x0), (1, .int x1), (2, .int v2), (3, .int (nI 0))]) (by decide +kernel) rfl (Nat.le_of_ble_eq_true rfl) rfl rfl ?_
  refine lX12_owned_9 hl F x0 x1 v2 ?_ F (nI 0) h
  intro h6
  refine ab_iconst (pc := 31) (n := 0) (v := nI 0) (by decide +kernel) rfl ?_
  refine ab_istore_n (pc := 32) (n := 3) (i := 3) (lv' := [(0, .ref x0), (1, .int x1), (3, .int (nI 0))]) (by decide +kernel) rfl (Nat.le_of_ble_eq_true rfl) rfl rfl ?_
  refine lX12_owned_33 hl F x0 x1 ?_ F (nI 0) h6
  intro h22
  refine ab_aload_n (pc := 111) (n := 0) (i := 0) (j := 0) (by decide +kernel) rfl rfl ?_
  refine ab_callVj (As := []) (st := []) (pc := 112) lk_X12_344_12 rfl rfl rfl (by decide) rfl (Nat.le_of_ble_eq_true rfl) (by decide +kernel) (fun y9 e9 => okX12_counts hl (F := F) e9) (fun v23 ev23 => ?_)
  exact ab_iret (pc := 115) (by decide +kernel) rfl rfl (Nat.le_of_ble_eq_true rfl) (Nat.le_of_ble_eq_true rfl)
set_option maxRecDepth 100000 in
set_option maxHeartbeats 4000000 in
theorem okX12_owned {l : Launch} (hl : l.stackTraces = false) {F : Nat} {x0 : Nat} {x1 : Int32} {h : ab_H} {y : (Int32 × ab_H)} (e : fX12_owned F x0 x1 h = some y) : ab_Met l mX12_owned [.ref x0, .int x1] h (.inl (some (.int y.1)), y.2) := ab_ofS (io := (fun y : (Int32 × ab_H) => ((.inl (some (.int y.1)), y.2) : ab_R × ab_H))) (x := y) hl (by decide) rfl (Nat.le_of_ble_eq_true rfl) (wX12_owned hl F x0 x1 h) e
def mX12_waysOf : ab_M := (yX12_waysOf, cX12_waysOf, 4, (some .int), { frames := 3, cells := 0, slots := 0, locals := 71 })
theorem iX12_waysOf : ab_MI mX12_waysOf 2 := ⟨kw_9962739730, kw_30b3f7d7c6, by decide +kernel⟩
theorem lk_X12_347_12 : ab_LV RX12 347 12 mX12_owned 1 := ⟨RX12, rfl, iX12_owned, kw_fdaee16430, kw_c7616b1074, kw_6697b22524⟩
def fX12_waysOf (F : Nat) (x0 : Nat) (x1 : Int32) (x2 : Int32) (h : ab_H) : Option (Int32 × ab_H) := ab_ck (ab_io h x0 12 = true) (ab_bd (fX12_owned F x0 (nI 4095) h) fun v1 => ab_bd (ab_fr v1.2 x0 12 21) fun v2 => ab_bd (ab_ia 0 v1.2 v2 x1) fun v3 => ab_bd (fX12_isOf v3 x2 v1.2) fun v4 => (if v4 = 0 then some (nI 0, v1.2) else ab_bd (ab_fr v1.2 x0 12 21) fun v6 => ab_bd (ab_iw 0 v1.2 v6 x1 ((nI 1) <<< (x2 &&& 31))) fun h7 => ab_ck (ab_io h7 x0 12 = true) (ab_bd (fX12_counts F x0 h7) fun v8 => some (v8.1, v8.2))))
set_option maxRecDepth 100000 in
set_option maxHeartbeats 4000000 in
theorem wX12_waysOf {l : Launch} (hl : l.stackTraces = false) (F : Nat) (x0 : Nat) (x1 : Int32) (x2 : Int32) (h : ab_H) : ab_S l mX12_waysOf (fun y : (Int32 × ab_H) => ((.inl (some (.int y.1)), y.2) : ab_R × ab_H)) 0 0 (fX12_waysOf F x0 x1 x2 h) 0 [(0, .ref x0), (1, .int x1), (2, .int x2)] [] h := by
  unfold fX12_waysOf
  refine ab_aload_n (pc := 0) (n := 0) (i := 0) (j := 0) (by decide +kernel) rfl rfl ?_
  refine ab_sipush (pc := 1) (n := 4095) (v := nI 4095) (by decide +kernel) (by decide) ?_
  refine ab_callVj (As := [.int (nI 4095)]) (st := []) (pc := 4) lk_X12_347_12 rfl rfl rfl (by decide) rfl (Nat.le_of_ble_eq_true rfl) (by decide +kernel) (fun y9 e9 => okX12_owned hl (F := F) e9) (fun v1 ev1 => ?_)
  refine ab_istore_n (pc := 7) (n := 3) (i := 3) (lv' := [(0, .ref x0), (1, .int x1), (2, .int x2), (3, .int v1.1)]) (by decide +kernel) rfl (Nat.le_of_ble_eq_true rfl) rfl rfl ?_
  refine ab_aload_n (pc := 8) (n := 0) (i := 0) (j := 0) (by decide +kernel) rfl rfl ?_
  refine ab_getR (pc := 9) fl_X12_35_12 (by decide +kernel) (fun v2 ev2 => ?_)
  refine ab_iload_n (pc := 12) (n := 1) (i := 1) (j := 1) (by decide +kernel) rfl rfl ?_
  refine ab_iald (pc := 13) (by decide +kernel) (fun v3 ev3 => ?_)
  refine ab_iload_n (pc := 14) (n := 2) (i := 2) (j := 2) (by decide +kernel) rfl rfl ?_
  refine ab_callSi (As := [.int v3, .int x2]) (st := []) (pc := 15) lk_X12_107 rfl rfl rfl (by decide) rfl (Nat.le_of_ble_eq_true rfl) (by decide +kernel) (fun y9 e9 => okX12_isOf hl e9) (fun v4 ev4 => ?_)
  refine ab_if_ne (off := 5) (pc := 18) (tgt := 23) (by decide +kernel) (by decide) (fun g5 => ?_) (fun g5 => ?_)
  · refine ab_iconst (pc := 21) (n := 0) (v := nI 0) (by decide +kernel) rfl ?_
    exact ab_iret (pc := 22) (by decide +kernel) rfl rfl (Nat.le_of_ble_eq_true rfl) (Nat.le_of_ble_eq_true rfl)
  · refine ab_aload_n (pc := 23) (n := 0) (i := 0) (j := 0) (by decide +kernel) rfl rfl ?_
    refine ab_getR (pc := 24) fl_X12_35_12 (by decide +kernel) (fun v6 ev6 => ?_)
    refine ab_iload_n (pc := 27) (n := 1) (i := 1) (j := 1) (by decide +kernel) rfl rfl ?_
    refine ab_iconst (pc := 28) (n := 1) (v := nI 1) (by decide +kernel) rfl ?_
    refine ab_iload_n (pc := 29) (n := 2) (i := 2) (j := 2) (by decide +kernel) rfl rfl ?_
    refine ab_ishl (pc := 30) (by decide +kernel) ?_
    refine ab_iast (pc := 31) (by decide +kernel) (fun h7 eh7 => ?_)
    refine ab_aload_n (pc := 32) (n := 0) (i := 0) (j := 0) (by decide +kernel) rfl rfl ?_
    refine ab_callVj (As := []) (st := []) (pc := 33) lk_X12_344_12 rfl rfl rfl (by decide) rfl (Nat.le_of_ble_eq_true rfl) (by decide +kernel) (fun y9 e9 => okX12_counts hl (F := F) e9) (fun v8 ev8 => ?_)
    exact ab_iret (pc := 36) (by decide +kernel) rfl rfl (Nat.le_of_ble_eq_true rfl) (Nat.le_of_ble_eq_true rfl)
set_option maxRecDepth 100000 in
set_option maxHeartbeats 4000000 in
theorem okX12_waysOf {l : Launch} (hl : l.stackTraces = false) {F : Nat} {x0 : Nat} {x1 : Int32} {x2 : Int32} {h : ab_H} {y : (Int32 × ab_H)} (e : fX12_waysOf F x0 x1 x2 h = some y) : ab_Met l mX12_waysOf [.ref x0, .int x1, .int x2] h (.inl (some (.int y.1)), y.2) := ab_ofS (io := (fun y : (Int32 × ab_H) => ((.inl (some (.int y.1)), y.2) : ab_R × ab_H))) (x := y) hl (by decide) rfl (Nat.le_of_ble_eq_true rfl) (wX12_waysOf hl F x0 x1 x2 h) e
def mX12_fits : ab_M := (yX12_fits, cX12_fits, 5, (some .int), { frames := 4, cells := 0, slots := 0, locals := 94 })
theorem iX12_fits : ab_MI mX12_fits 1 := ⟨kw_3b6242edb4, kw_30b3f7d7c6, by decide +kernel⟩
theorem lk_X12_350_12 : ab_LV RX12 350 12 mX12_hears 0 := ⟨RX12, rfl, iX12_hears, kw_71fdbdf63b, kw_f3c4effcf4, kw_3d7752b25a⟩
theorem lk_X12_353_12 : ab_LV RX12 353 12 mX12_waysOf 2 := ⟨RX12, rfl, iX12_waysOf, kw_bdf65f0ac0, kw_6ad3b7115f, kw_7ebfb5a511⟩
def fX12_fits_62 (F : Nat) (x0 : Nat) (x1 : Int32) (x3 : Int32) : Nat → Int32 → ab_H → Option (Int32 × ab_H)
  | 0, _, _ => none
  | n + 1, x4, h => ab_bd (ab_fr h x0 12 1) fun v8 => ab_bd (ab_ia 0 h v8 (nI 3)) fun v9 => (if x4 < v9 then (if x3 ≤ 0 then some ((-1 : Int32), h) else ab_ck (ab_io h x0 12 = true) (ab_bd (fX12_waysOf F x0 x1 x4 h) fun v12 => (if v12.1 = x3 then some (x4, v12.2) else fX12_fits_62 F x0 x1 x3 n (x4 + nI 1) v12.2))) else some ((-1 : Int32), h))
def fX12_fits (F : Nat) (x0 : Nat) (x1 : Int32) (h : ab_H) : Option (Int32 × ab_H) := ab_ck (ab_io h x0 12 = true) (ab_bd (fX12_hears F x0 h) fun v1 => ab_jn (κ := Int32 → Option (Int32 × ab_H)) (fun (z2 : Int32) => ab_bd (ab_fw v1.2 x0 12 0 (.int z2)) fun h3 => ab_bd (ab_fi h3 x0 12 0) fun v4 => (if v4 ≤ 0 then ab_ck (ab_io h3 x0 12 = true) (ab_bd (fX12_owned F x0 (nI 4095) h3) fun v6 => (if x1 = (-1 : Int32) then some (v6.1, v6.2) else fX12_fits_62 F x0 x1 v6.1 F (nI 0) v6.2)) else some (nI 0, h3))) fun j14 => ab_jn (κ := Option (Int32 × ab_H)) ((if v1.1 = 0 then j14 (nI 2) else j14 (nI 0))) fun j16 => (if x1 = (-1 : Int32) then j16 else ab_ck (ab_io v1.2 x0 12 = true) (ab_bd (fX12_isPerson x0 x1 v1.2) fun v18 => (if v18 = 0 then j14 (nI 1) else j16))))
set_option maxRecDepth 100000 in
set_option maxHeartbeats 4000000 in
theorem lX12_fits_62 {l : Launch} (hl : l.stackTraces = false) (F : Nat) (x0 : Nat) (x1 : Int32) (x3 : Int32) : ∀ (n : Nat) (x4 : Int32) (h : ab_H), ab_S l mX12_fits (fun y : (Int32 × ab_H) => ((.inl (some (.int y.1)), y.2) : ab_R × ab_H)) 0 0 (fX12_fits_62 F x0 x1 x3 n x4 h) 62 [(0, .ref x0), (1, .int x1), (3, .int x3), (4, .int x4)] [] h := by
  intro n
  induction n with
  | zero =>
    intro x4 h
    exact ab_none
  | succ n ih =>
    intro x4 h
    rw [fX12_fits_62]
    refine ab_iload (pc := 62) (i := 4) (j := 3) (by decide +kernel) rfl ?_
    refine ab_aload_n (pc := 64) (n := 0) (i := 0) (j := 0) (by decide +kernel) rfl rfl ?_
    refine ab_getR (pc := 65) fl_X12_7_12 (by decide +kernel) (fun v8 ev8 => ?_)
    refine ab_iconst (pc := 68) (n := 3) (v := nI 3) (by decide +kernel) rfl ?_
    refine ab_iald (pc := 69) (by decide +kernel) (fun v9 ev9 => ?_)
    refine ab_icmp_ge (off := 27) (pc := 70) (tgt := 97) (by decide +kernel) (by decide) (fun g10 => ?_) (fun g10 => ?_)
    · refine ab_iload_n (pc := 73) (n := 3) (i := 3) (j := 2) (by decide +kernel) rfl rfl ?_
      refine ab_if_le (off := 23) (pc := 74) (tgt := 97) (by decide +kernel) (by decide) (fun g11 => ?_) (fun g11 => ?_)
      · refine ab_iconst (pc := 97) (n := -1) (v := (-1 : Int32)) (by decide +kernel) rfl ?_
        exact ab_iret (pc := 98) (by decide +kernel) rfl rfl (Nat.le_of_ble_eq_true rfl) (Nat.le_of_ble_eq_true rfl)
      · refine ab_aload_n (pc := 77) (n := 0) (i := 0) (j := 0) (by decide +kernel) rfl rfl ?_
        refine ab_iload_n (pc := 78) (n := 1) (i := 1) (j := 1) (by decide +kernel) rfl rfl ?_
        refine ab_iload (pc := 79) (i := 4) (j := 3) (by decide +kernel) rfl ?_
        refine ab_callVj (As := [.int x1, .int x4]) (st := []) (pc := 81) lk_X12_353_12 rfl rfl rfl (by decide) rfl (Nat.le_of_ble_eq_true rfl) (by decide +kernel) (fun y9 e9 => okX12_waysOf hl (F := F) e9) (fun v12 ev12 => ?_)
        refine ab_iload_n (pc := 84) (n := 3) (i := 3) (j := 2) (by decide +kernel) rfl rfl ?_
        refine ab_icmp_ne (off := 6) (pc := 85) (tgt := 91) (by decide +kernel) (by decide) (fun g13 => ?_) (fun g13 => ?_)
        · refine ab_iload (pc := 88) (i := 4) (j := 3) (by decide +kernel) rfl ?_
          exact ab_iret (pc := 90) (by decide +kernel) rfl rfl (Nat.le_of_ble_eq_true rfl) (Nat.le_of_ble_eq_true rfl)
        · refine ab_iinc (pc := 91) (i := 4) (n := 1) (j := 3) (d := nI 1) (lv' := [(0, .ref x0), (1, .int x1), (3, .int x3), (4, .int (x4 + nI 1))]) (by decide +kernel) rfl rfl (Nat.le_of_ble_eq_true rfl) rfl rfl ?_
          refine ab_goto (pc := 94) (off := (-32)) (tgt := 62) (by decide +kernel) (by decide) ?_
          exact ih (x4 + nI 1) v12.2
    · refine ab_iconst (pc := 97) (n := -1) (v := (-1 : Int32)) (by decide +kernel) rfl ?_
      exact ab_iret (pc := 98) (by decide +kernel) rfl rfl (Nat.le_of_ble_eq_true rfl) (Nat.le_of_ble_eq_true rfl)
set_option maxRecDepth 100000 in
set_option maxHeartbeats 4000000 in
theorem wX12_fits {l : Launch} (hl : l.stackTraces = false) (F : Nat) (x0 : Nat) (x1 : Int32) (h : ab_H) : ab_S l mX12_fits (fun y : (Int32 × ab_H) => ((.inl (some (.int y.1)), y.2) : ab_R × ab_H)) 0 0 (fX12_fits F x0 x1 h) 0 [(0, .ref x0), (1, .int x1)] [] h := by
  unfold fX12_fits
  refine ab_aload_n (pc := 0) (n := 0) (i := 0) (j := 0) (by decide +kernel) rfl rfl ?_
  refine ab_callVj (As := []) (st := []) (pc := 1) lk_X12_350_12 rfl rfl rfl (by decide) rfl (Nat.le_of_ble_eq_true rfl) (by decide +kernel) (fun y9 e9 => okX12_hears hl (F := F) e9) (fun v1 ev1 => ?_)
  refine ab_istore_n (pc := 4) (n := 2) (i := 2) (lv' := [(0, .ref x0), (1, .int x1), (2, .int v1.1)]) (by decide +kernel) rfl (Nat.le_of_ble_eq_true rfl) rfl rfl ?_
  refine ab_aload_n (pc := 5) (n := 0) (i := 0) (j := 0) (by decide +kernel) rfl rfl ?_
  refine ab_iload_n (pc := 6) (n := 1) (i := 1) (j := 1) (by decide +kernel) rfl rfl ?_
  refine ab_iconst (pc := 7) (n := -1) (v := (-1 : Int32)) (by decide +kernel) rfl ?_
  refine ab_jr (fun k9 : Int32 → Option (Int32 × ab_H) => ∀ (z2 : Int32), ab_S l mX12_fits (fun y : (Int32 × ab_H) => ((.inl (some (.int y.1)), y.2) : ab_R × ab_H)) 0 0 (k9 z2) 32 [(0, .ref x0), (1, .int x1)] [.int z2, .ref x0] v1.2) ?_ (fun j14 hj14 => ?_)
  · intro z2
    refine ab_put (pc := 32) fl_X12_50_12 rfl (fun _ => rfl) (fun _ => rfl) (by decide +kernel) (fun h3 eh3 => ?_)
    refine ab_aload_n (pc := 35) (n := 0) (i := 0) (j := 0) (by decide +kernel) rfl rfl ?_
    refine ab_getI (pc := 36) fl_X12_50_12 (by decide +kernel) (fun v4 ev4 => ?_)
    refine ab_if_le (off := 5) (pc := 39) (tgt := 44) (by decide +kernel) (by decide) (fun g5 => ?_) (fun g5 => ?_)
    · refine ab_aload_n (pc := 44) (n := 0) (i := 0) (j := 0) (by decide +kernel) rfl rfl ?_
      refine ab_sipush (pc := 45) (n := 4095) (v := nI 4095) (by decide +kernel) (by decide) ?_
      refine ab_callVj (As := [.int (nI 4095)]) (st := []) (pc := 48) lk_X12_347_12 rfl rfl rfl (by decide) rfl (Nat.le_of_ble_eq_true rfl) (by decide +kernel) (fun y9 e9 => okX12_owned hl (F := F) e9) (fun v6 ev6 => ?_)
      refine ab_istore_n (pc := 51) (n := 3) (i := 3) (lv' := [(0, .ref x0), (1, .int x1), (3, .int v6.1)]) (by decide +kernel) rfl (Nat.le_of_ble_eq_true rfl) rfl rfl ?_
      refine ab_iload_n (pc := 52) (n := 1) (i := 1) (j := 1) (by decide +kernel) rfl rfl ?_
      refine ab_iconst (pc := 53) (n := -1) (v := (-1 : Int32)) (by decide +kernel) rfl ?_
      refine ab_icmp_ne (off := 5) (pc := 54) (tgt := 59) (by decide +kernel) (by decide) (fun g7 => ?_) (fun g7 => ?_)
      · refine ab_iload_n (pc := 57) (n := 3) (i := 3) (j := 2) (by decide +kernel) rfl rfl ?_
        exact ab_iret (pc := 58) (by decide +kernel) rfl rfl (Nat.le_of_ble_eq_true rfl) (Nat.le_of_ble_eq_true rfl)
      · refine ab_iconst (pc := 59) (n := 0) (v := nI 0) (by decide +kernel) rfl ?_
        refine ab_istore (pc := 60) (i := 4) (lv' := [(0, .ref x0), (1, .int x1), (3, .int v6.1), (4, .int (nI 0))]) (by decide +kernel) (Nat.le_of_ble_eq_true rfl) rfl rfl ?_
        refine lX12_fits_62 hl F x0 x1 v6.1 F (nI 0) v6.2
    · refine ab_iconst (pc := 42) (n := 0) (v := nI 0) (by decide +kernel) rfl ?_
      exact ab_iret (pc := 43) (by decide +kernel) rfl rfl (Nat.le_of_ble_eq_true rfl) (Nat.le_of_ble_eq_true rfl)
  · refine ab_jr (fun k9 : Option (Int32 × ab_H) => ab_S l mX12_fits (fun y : (Int32 × ab_H) => ((.inl (some (.int y.1)), y.2) : ab_R × ab_H)) 0 0 (k9) 23 [(0, .ref x0), (1, .int x1), (2, .int v1.1)] [.ref x0] v1.2) ?_ (fun j16 hj16 => ?_)
    · refine ab_iload_n (pc := 23) (n := 2) (i := 2) (j := 2) (by decide +kernel) rfl rfl ?_
      refine ab_if_ne (off := 7) (pc := 24) (tgt := 31) (by decide +kernel) (by decide) (fun g15 => ?_) (fun g15 => ?_)
      · refine ab_iconst (pc := 27) (n := 2) (v := nI 2) (by decide +kernel) rfl ?_
        refine ab_goto (pc := 28) (off := 4) (tgt := 32) (by decide +kernel) (by decide) ?_
        refine ab_few [0, 1] (lv' := [(0, .ref x0), (1, .int x1)]) rfl ?_
        exact hj14 (nI 2)
      · refine ab_iconst (pc := 31) (n := 0) (v := nI 0) (by decide +kernel) rfl ?_
        refine ab_few [0, 1] (lv' := [(0, .ref x0), (1, .int x1)]) rfl ?_
        exact hj14 (nI 0)
    · refine ab_icmp_eq (off := 15) (pc := 8) (tgt := 23) (by decide +kernel) (by decide) (fun g17 => ?_) (fun g17 => ?_)
      · exact hj16
      · refine ab_aload_n (pc := 11) (n := 0) (i := 0) (j := 0) (by decide +kernel) rfl rfl ?_
        refine ab_iload_n (pc := 12) (n := 1) (i := 1) (j := 1) (by decide +kernel) rfl rfl ?_
        refine ab_callVi (As := [.int x1]) (st := [.ref x0]) (pc := 13) lk_X12_250_12 rfl rfl rfl (by decide) rfl (Nat.le_of_ble_eq_true rfl) (by decide +kernel) (fun y9 e9 => okX12_isPerson hl e9) (fun v18 ev18 => ?_)
        refine ab_if_ne (off := 7) (pc := 16) (tgt := 23) (by decide +kernel) (by decide) (fun g19 => ?_) (fun g19 => ?_)
        · refine ab_iconst (pc := 19) (n := 1) (v := nI 1) (by decide +kernel) rfl ?_
          refine ab_goto (pc := 20) (off := 12) (tgt := 32) (by decide +kernel) (by decide) ?_
          refine ab_few [0, 1] (lv' := [(0, .ref x0), (1, .int x1)]) rfl ?_
          exact hj14 (nI 1)
        · exact hj16
set_option maxRecDepth 100000 in
set_option maxHeartbeats 4000000 in
theorem okX12_fits {l : Launch} (hl : l.stackTraces = false) {F : Nat} {x0 : Nat} {x1 : Int32} {h : ab_H} {y : (Int32 × ab_H)} (e : fX12_fits F x0 x1 h = some y) : ab_Met l mX12_fits [.ref x0, .int x1] h (.inl (some (.int y.1)), y.2) := ab_ofS (io := (fun y : (Int32 × ab_H) => ((.inl (some (.int y.1)), y.2) : ab_R × ab_H))) (x := y) hl (by decide) rfl (Nat.le_of_ble_eq_true rfl) (wX12_fits hl F x0 x1 h) e
def mX12_ask : ab_M := (yX12_ask, cX12_ask, 8, (some .int), { frames := 4, cells := 0, slots := 0, locals := 94 })
theorem iX12_ask : ab_MI mX12_ask 1 := ⟨kw_0c9a468408, kw_30b3f7d7c6, by decide +kernel⟩
def fX12_ask_58 (F : Nat) (x0 : Nat) (x1 : Int32) (x3 : Int32) : Nat → Int32 → Int32 → Int32 → ab_H → Option (Int32 × ab_H)
  | 0, _, _, _, _ => none
  | n + 1, x4, x5, x6, h => ab_bd (ab_fr h x0 12 1) fun v8 => ab_bd (ab_ia 0 h v8 (nI 3)) fun v9 => (if x6 < v9 then (if x3 ≤ (nI 1) then some (x4, h) else ab_ck (ab_io h x0 12 = true) (ab_bd (fX12_waysOf F x0 x1 x6 h) fun v12 => ab_bd (fX12_greater v12.1 (x3 - v12.1) v12.2) fun v13 => (if v13 < x5 then ab_bd (fX12_greater v12.1 (x3 - v12.1) v12.2) fun v15 => fX12_ask_58 F x0 x1 x3 n x6 v15 (x6 + nI 1) v12.2 else fX12_ask_58 F x0 x1 x3 n x4 x5 (x6 + nI 1) v12.2))) else some (x4, h))
def fX12_ask (F : Nat) (x0 : Nat) (x1 : Int32) (h : ab_H) : Option (Int32 × ab_H) := ab_ck (ab_io h x0 12 = true) (ab_bd (fX12_hears F x0 h) fun v1 => ab_ck (ab_io v1.2 x0 12 = true) (ab_bd (fX12_isPerson x0 x1 v1.2) fun v2 => ab_jn (κ := Int32 → Option (Int32 × ab_H)) (fun (z3 : Int32) => ab_bd (ab_fw v1.2 x0 12 0 (.int z3)) fun h4 => ab_bd (ab_fi h4 x0 12 0) fun v5 => (if v5 ≤ 0 then ab_ck (ab_io h4 x0 12 = true) (ab_bd (fX12_owned F x0 (nI 4095) h4) fun v7 => fX12_ask_58 F x0 x1 v7.1 F (-1 : Int32) (nI 2000000000) (nI 0) v7.2) else some (nI 0, h4))) fun j16 => (if v2 = 0 then j16 (nI 1) else (if v1.1 = 0 then j16 (nI 2) else j16 (nI 0)))))
set_option maxRecDepth 100000 in
set_option maxHeartbeats 4000000 in
theorem lX12_ask_58 {l : Launch} (hl : l.stackTraces = false) (F : Nat) (x0 : Nat) (x1 : Int32) (x3 : Int32) : ∀ (n : Nat) (x4 : Int32) (x5 : Int32) (x6 : Int32) (h : ab_H), ab_S l mX12_ask (fun y : (Int32 × ab_H) => ((.inl (some (.int y.1)), y.2) : ab_R × ab_H)) 0 0 (fX12_ask_58 F x0 x1 x3 n x4 x5 x6 h) 58 [(0, .ref x0), (1, .int x1), (3, .int x3), (4, .int x4), (5, .int x5), (6, .int x6)] [] h := by
  intro n
  induction n with
  | zero =>
    intro x4 x5 x6 h
    exact ab_none
  | succ n ih =>
    intro x4 x5 x6 h
    rw [fX12_ask_58]
    refine ab_iload (pc := 58) (i := 6) (j := 5) (by decide +kernel) rfl ?_
    refine ab_aload_n (pc := 60) (n := 0) (i := 0) (j := 0) (by decide +kernel) rfl rfl ?_
    refine ab_getR (pc := 61) fl_X12_7_12 (by decide +kernel) (fun v8 ev8 => ?_)
    refine ab_iconst (pc := 64) (n := 3) (v := nI 3) (by decide +kernel) rfl ?_
    refine ab_iald (pc := 65) (by decide +kernel) (fun v9 ev9 => ?_)
    refine ab_icmp_ge (off := 55) (pc := 66) (tgt := 121) (by decide +kernel) (by decide) (fun g10 => ?_) (fun g10 => ?_)
    · refine ab_iload_n (pc := 69) (n := 3) (i := 3) (j := 2) (by decide +kernel) rfl rfl ?_
      refine ab_iconst (pc := 70) (n := 1) (v := nI 1) (by decide +kernel) rfl ?_
      refine ab_icmp_le (off := 50) (pc := 71) (tgt := 121) (by decide +kernel) (by decide) (fun g11 => ?_) (fun g11 => ?_)
      · refine ab_iload (pc := 121) (i := 4) (j := 3) (by decide +kernel) rfl ?_
        exact ab_iret (pc := 123) (by decide +kernel) rfl rfl (Nat.le_of_ble_eq_true rfl) (Nat.le_of_ble_eq_true rfl)
      · refine ab_aload_n (pc := 74) (n := 0) (i := 0) (j := 0) (by decide +kernel) rfl rfl ?_
        refine ab_iload_n (pc := 75) (n := 1) (i := 1) (j := 1) (by decide +kernel) rfl rfl ?_
        refine ab_iload (pc := 76) (i := 6) (j := 5) (by decide +kernel) rfl ?_
        refine ab_callVj (As := [.int x1, .int x6]) (st := []) (pc := 78) lk_X12_353_12 rfl rfl rfl (by decide) rfl (Nat.le_of_ble_eq_true rfl) (by decide +kernel) (fun y9 e9 => okX12_waysOf hl (F := F) e9) (fun v12 ev12 => ?_)
        refine ab_istore (pc := 81) (i := 7) (lv' := [(0, .ref x0), (1, .int x1), (3, .int x3), (4, .int x4), (5, .int x5), (6, .int x6), (7, .int v12.1)]) (by decide +kernel) (Nat.le_of_ble_eq_true rfl) rfl rfl ?_
        refine ab_iload (pc := 83) (i := 7) (j := 6) (by decide +kernel) rfl ?_
        refine ab_iload_n (pc := 85) (n := 3) (i := 3) (j := 2) (by decide +kernel) rfl rfl ?_
        refine ab_iload (pc := 86) (i := 7) (j := 6) (by decide +kernel) rfl ?_
        refine ab_isub (pc := 88) (by decide +kernel) ?_
        refine ab_callSi (As := [.int v12.1, .int (x3 - v12.1)]) (st := []) (pc := 89) lk_X12_150 rfl rfl rfl (by decide) rfl (Nat.le_of_ble_eq_true rfl) (by decide +kernel) (fun y9 e9 => okX12_greater hl e9) (fun v13 ev13 => ?_)
        refine ab_iload (pc := 92) (i := 5) (j := 4) (by decide +kernel) rfl ?_
        refine ab_icmp_lt (off := 6) (pc := 94) (tgt := 100) (by decide +kernel) (by decide) (fun g14 => ?_) (fun g14 => ?_)
        · refine ab_iload (pc := 100) (i := 7) (j := 6) (by decide +kernel) rfl ?_
          refine ab_iload_n (pc := 102) (n := 3) (i := 3) (j := 2) (by decide +kernel) rfl rfl ?_
          refine ab_iload (pc := 103) (i := 7) (j := 6) (by decide +kernel) rfl ?_
          refine ab_isub (pc := 105) (by decide +kernel) ?_
          refine ab_callSi (As := [.int v12.1, .int (x3 - v12.1)]) (st := []) (pc := 106) lk_X12_150 rfl rfl rfl (by decide) rfl (Nat.le_of_ble_eq_true rfl) (by decide +kernel) (fun y9 e9 => okX12_greater hl e9) (fun v15 ev15 => ?_)
          refine ab_istore (pc := 109) (i := 5) (lv' := [(0, .ref x0), (1, .int x1), (3, .int x3), (4, .int x4), (5, .int v15), (6, .int x6), (7, .int v12.1)]) (by decide +kernel) (Nat.le_of_ble_eq_true rfl) rfl rfl ?_
          refine ab_iload (pc := 111) (i := 6) (j := 5) (by decide +kernel) rfl ?_
          refine ab_istore (pc := 113) (i := 4) (lv' := [(0, .ref x0), (1, .int x1), (3, .int x3), (4, .int x6), (5, .int v15), (6, .int x6), (7, .int v12.1)]) (by decide +kernel) (Nat.le_of_ble_eq_true rfl) rfl rfl ?_
          refine ab_iinc (pc := 115) (i := 6) (n := 1) (j := 5) (d := nI 1) (lv' := [(0, .ref x0), (1, .int x1), (3, .int x3), (4, .int x6), (5, .int v15), (6, .int (x6 + nI 1)), (7, .int v12.1)]) (by decide +kernel) rfl rfl (Nat.le_of_ble_eq_true rfl) rfl rfl ?_
          refine ab_goto (pc := 118) (off := (-60)) (tgt := 58) (by decide +kernel) (by decide) ?_
          refine ab_few [0, 1, 2, 3, 4, 5] (lv' := [(0, .ref x0), (1, .int x1), (3, .int x3), (4, .int x6), (5, .int v15), (6, .int (x6 + nI 1))]) rfl ?_
          exact ih x6 v15 (x6 + nI 1) v12.2
        · refine ab_goto (pc := 97) (off := 18) (tgt := 115) (by decide +kernel) (by decide) ?_
          refine ab_iinc (pc := 115) (i := 6) (n := 1) (j := 5) (d := nI 1) (lv' := [(0, .ref x0), (1, .int x1), (3, .int x3), (4, .int x4), (5, .int x5), (6, .int (x6 + nI 1)), (7, .int v12.1)]) (by decide +kernel) rfl rfl (Nat.le_of_ble_eq_true rfl) rfl rfl ?_
          refine ab_goto (pc := 118) (off := (-60)) (tgt := 58) (by decide +kernel) (by decide) ?_
          refine ab_few [0, 1, 2, 3, 4, 5] (lv' := [(0, .ref x0), (1, .int x1), (3, .int x3), (4, .int x4), (5, .int x5), (6, .int (x6 + nI 1))]) rfl ?_
          exact ih x4 x5 (x6 + nI 1) v12.2
    · refine ab_iload (pc := 121) (i := 4) (j := 3) (by decide +kernel) rfl ?_
      exact ab_iret (pc := 123) (by decide +kernel) rfl rfl (Nat.le_of_ble_eq_true rfl) (Nat.le_of_ble_eq_true rfl)
set_option maxRecDepth 100000 in
set_option maxHeartbeats 4000000 in
theorem wX12_ask {l : Launch} (hl : l.stackTraces = false) (F : Nat) (x0 : Nat) (x1 : Int32) (h : ab_H) : ab_S l mX12_ask (fun y : (Int32 × ab_H) => ((.inl (some (.int y.1)), y.2) : ab_R × ab_H)) 0 0 (fX12_ask F x0 x1 h) 0 [(0, .ref x0), (1, .int x1)] [] h := by
  unfold fX12_ask
  refine ab_aload_n (pc := 0) (n := 0) (i := 0) (j := 0) (by decide +kernel) rfl rfl ?_
  refine ab_callVj (As := []) (st := []) (pc := 1) lk_X12_350_12 rfl rfl rfl (by decide) rfl (Nat.le_of_ble_eq_true rfl) (by decide +kernel) (fun y9 e9 => okX12_hears hl (F := F) e9) (fun v1 ev1 => ?_)
  refine ab_istore_n (pc := 4) (n := 2) (i := 2) (lv' := [(0, .ref x0), (1, .int x1), (2, .int v1.1)]) (by decide +kernel) rfl (Nat.le_of_ble_eq_true rfl) rfl rfl ?_
  refine ab_aload_n (pc := 5) (n := 0) (i := 0) (j := 0) (by decide +kernel) rfl rfl ?_
  refine ab_aload_n (pc := 6) (n := 0) (i := 0) (j := 0) (by decide +kernel) rfl rfl ?_
  refine ab_iload_n (pc := 7) (n := 1) (i := 1) (j := 1) (by decide +kernel) rfl rfl ?_
  refine ab_callVi (As := [.int x1]) (st := [.ref x0]) (pc := 8) lk_X12_250_12 rfl rfl rfl (by decide) rfl (Nat.le_of_ble_eq_true rfl) (by decide +kernel) (fun y9 e9 => okX12_isPerson hl e9) (fun v2 ev2 => ?_)
  refine ab_jr (fun k9 : Int32 → Option (Int32 × ab_H) => ∀ (z3 : Int32), ab_S l mX12_ask (fun y : (Int32 × ab_H) => ((.inl (some (.int y.1)), y.2) : ab_R × ab_H)) 0 0 (k9 z3) 27 [(0, .ref x0), (1, .int x1)] [.int z3, .ref x0] v1.2) ?_ (fun j16 hj16 => ?_)
  · intro z3
    refine ab_put (pc := 27) fl_X12_50_12 rfl (fun _ => rfl) (fun _ => rfl) (by decide +kernel) (fun h4 eh4 => ?_)
    refine ab_aload_n (pc := 30) (n := 0) (i := 0) (j := 0) (by decide +kernel) rfl rfl ?_
    refine ab_getI (pc := 31) fl_X12_50_12 (by decide +kernel) (fun v5 ev5 => ?_)
    refine ab_if_le (off := 5) (pc := 34) (tgt := 39) (by decide +kernel) (by decide) (fun g6 => ?_) (fun g6 => ?_)
    · refine ab_aload_n (pc := 39) (n := 0) (i := 0) (j := 0) (by decide +kernel) rfl rfl ?_
      refine ab_sipush (pc := 40) (n := 4095) (v := nI 4095) (by decide +kernel) (by decide) ?_
      refine ab_callVj (As := [.int (nI 4095)]) (st := []) (pc := 43) lk_X12_347_12 rfl rfl rfl (by decide) rfl (Nat.le_of_ble_eq_true rfl) (by decide +kernel) (fun y9 e9 => okX12_owned hl (F := F) e9) (fun v7 ev7 => ?_)
      refine ab_istore_n (pc := 46) (n := 3) (i := 3) (lv' := [(0, .ref x0), (1, .int x1), (3, .int v7.1)]) (by decide +kernel) rfl (Nat.le_of_ble_eq_true rfl) rfl rfl ?_
      refine ab_iconst (pc := 47) (n := -1) (v := (-1 : Int32)) (by decide +kernel) rfl ?_
      refine ab_istore (pc := 48) (i := 4) (lv' := [(0, .ref x0), (1, .int x1), (3, .int v7.1), (4, .int (-1 : Int32))]) (by decide +kernel) (Nat.le_of_ble_eq_true rfl) rfl rfl ?_
      refine ab_ldcw (pc := 50) (v := nI 2000000000) (by decide +kernel) kw_aec56b78e5 ?_
      refine ab_istore (pc := 53) (i := 5) (lv' := [(0, .ref x0), (1, .int x1), (3, .int v7.1), (4, .int (-1 : Int32)), (5, .int (nI 2000000000))]) (by decide +kernel) (Nat.le_of_ble_eq_true rfl) rfl rfl ?_
      refine ab_iconst (pc := 55) (n := 0) (v := nI 0) (by decide +kernel) rfl ?_
      refine ab_istore (pc := 56) (i := 6) (lv' := [(0, .ref x0), (1, .int x1), (3, .int v7.1), (4, .int (-1 : Int32)), (5, .int (nI 2000000000)), (6, .int (nI 0))]) (by decide +kernel) (Nat.le_of_ble_eq_true rfl) rfl rfl ?_
      refine lX12_ask_58 hl F x0 x1 v7.1 F (-1 : Int32) (nI 2000000000) (nI 0) v7.2
    · refine ab_iconst (pc := 37) (n := 0) (v := nI 0) (by decide +kernel) rfl ?_
      exact ab_iret (pc := 38) (by decide +kernel) rfl rfl (Nat.le_of_ble_eq_true rfl) (Nat.le_of_ble_eq_true rfl)
  · refine ab_if_ne (off := 7) (pc := 11) (tgt := 18) (by decide +kernel) (by decide) (fun g17 => ?_) (fun g17 => ?_)
    · refine ab_iconst (pc := 14) (n := 1) (v := nI 1) (by decide +kernel) rfl ?_
      refine ab_goto (pc := 15) (off := 12) (tgt := 27) (by decide +kernel) (by decide) ?_
      refine ab_few [0, 1] (lv' := [(0, .ref x0), (1, .int x1)]) rfl ?_
      exact hj16 (nI 1)
    · refine ab_iload_n (pc := 18) (n := 2) (i := 2) (j := 2) (by decide +kernel) rfl rfl ?_
      refine ab_if_ne (off := 7) (pc := 19) (tgt := 26) (by decide +kernel) (by decide) (fun g18 => ?_) (fun g18 => ?_)
      · refine ab_iconst (pc := 22) (n := 2) (v := nI 2) (by decide +kernel) rfl ?_
        refine ab_goto (pc := 23) (off := 4) (tgt := 27) (by decide +kernel) (by decide) ?_
        refine ab_few [0, 1] (lv' := [(0, .ref x0), (1, .int x1)]) rfl ?_
        exact hj16 (nI 2)
      · refine ab_iconst (pc := 26) (n := 0) (v := nI 0) (by decide +kernel) rfl ?_
        refine ab_few [0, 1] (lv' := [(0, .ref x0), (1, .int x1)]) rfl ?_
        exact hj16 (nI 0)
set_option maxRecDepth 100000 in
set_option maxHeartbeats 4000000 in
theorem okX12_ask {l : Launch} (hl : l.stackTraces = false) {F : Nat} {x0 : Nat} {x1 : Int32} {h : ab_H} {y : (Int32 × ab_H)} (e : fX12_ask F x0 x1 h = some y) : ab_Met l mX12_ask [.ref x0, .int x1] h (.inl (some (.int y.1)), y.2) := ab_ofS (io := (fun y : (Int32 × ab_H) => ((.inl (some (.int y.1)), y.2) : ab_R × ab_H))) (x := y) hl (by decide) rfl (Nat.le_of_ble_eq_true rfl) (wX12_ask hl F x0 x1 h) e
def mX12_clash : ab_M := (yX12_clash, cX12_clash, 4, (some .int), { frames := 3, cells := 0, slots := 0, locals := 71 })
theorem iX12_clash : ab_MI mX12_clash 0 := ⟨kw_5b175cd1de, kw_30b3f7d7c6, by decide +kernel⟩
def fX12_clash_41 (F : Nat) (x0 : Nat) : Nat → Int32 → Int32 → ab_H → Option (Int32 × ab_H)
  | 0, _, _, _ => none
  | n + 1, x2, x3, h => ab_bd (ab_fi h x0 12 20) fun v8 => (if x3 < ((nI 1) <<< (v8 &&& 31)) then ab_jn (κ := Option (Int32 × ab_H)) (ab_ck (ab_io h x0 12 = true) (ab_bd (fX12_owned F x0 x3 h) fun v10 => (if v10.1 = 0 then fX12_clash_41 F x0 n x3 (x3 + nI 1) v10.2 else fX12_clash_41 F x0 n x2 (x3 + nI 1) v10.2))) fun j12 => (if x2 = (-1 : Int32) then j12 else ab_bd (fX12_bits F x3 h) fun v14 => ab_bd (fX12_bits F x2 h) fun v15 => (if v14 < v15 then j12 else fX12_clash_41 F x0 n x2 (x3 + nI 1) h)) else some (x2, h))
def fX12_clash (F : Nat) (x0 : Nat) (h : ab_H) : Option (Int32 × ab_H) := ab_ck (ab_io h x0 12 = true) (ab_bd (fX12_hears F x0 h) fun v1 => ab_jn (κ := Int32 → Option (Int32 × ab_H)) (fun (z2 : Int32) => ab_bd (ab_fw v1.2 x0 12 0 (.int z2)) fun h3 => ab_bd (ab_fi h3 x0 12 0) fun v4 => (if v4 ≤ 0 then ab_ck (ab_io h3 x0 12 = true) (ab_bd (fX12_owned F x0 (nI 4095) h3) fun v6 => (if v6.1 ≤ 0 then fX12_clash_41 F x0 F (-1 : Int32) (nI 0) v6.2 else some (nI 0, v6.2))) else some (nI 0, h3))) fun j17 => (if v1.1 = 0 then j17 (nI 1) else j17 (nI 0)))
set_option maxRecDepth 100000 in
set_option maxHeartbeats 4000000 in
theorem lX12_clash_41 {l : Launch} (hl : l.stackTraces = false) (F : Nat) (x0 : Nat) : ∀ (n : Nat) (x2 : Int32) (x3 : Int32) (h : ab_H), ab_S l mX12_clash (fun y : (Int32 × ab_H) => ((.inl (some (.int y.1)), y.2) : ab_R × ab_H)) 0 0 (fX12_clash_41 F x0 n x2 x3 h) 41 [(0, .ref x0), (2, .int x2), (3, .int x3)] [] h := by
  intro n
  induction n with
  | zero =>
    intro x2 x3 h
    exact ab_none
  | succ n ih =>
    intro x2 x3 h
    rw [fX12_clash_41]
    refine ab_iload_n (pc := 41) (n := 3) (i := 3) (j := 2) (by decide +kernel) rfl rfl ?_
    refine ab_iconst (pc := 42) (n := 1) (v := nI 1) (by decide +kernel) rfl ?_
    refine ab_aload_n (pc := 43) (n := 0) (i := 0) (j := 0) (by decide +kernel) rfl rfl ?_
    refine ab_getI (pc := 44) fl_X12_341_12 (by decide +kernel) (fun v8 ev8 => ?_)
    refine ab_ishl (pc := 47) (by decide +kernel) ?_
    refine ab_icmp_ge (off := 35) (pc := 48) (tgt := 83) (by decide +kernel) (by decide) (fun g9 => ?_) (fun g9 => ?_)
    · refine ab_iload_n (pc := 51) (n := 2) (i := 2) (j := 1) (by decide +kernel) rfl rfl ?_
      refine ab_iconst (pc := 52) (n := -1) (v := (-1 : Int32)) (by decide +kernel) rfl ?_
      refine ab_jr (fun k9 : Option (Int32 × ab_H) => ab_S l mX12_clash (fun y : (Int32 × ab_H) => ((.inl (some (.int y.1)), y.2) : ab_R × ab_H)) 0 0 (k9) 67 [(0, .ref x0), (2, .int x2), (3, .int x3)] [] h) ?_ (fun j12 hj12 => ?_)
      · refine ab_aload_n (pc := 67) (n := 0) (i := 0) (j := 0) (by decide +kernel) rfl rfl ?_
        refine ab_iload_n (pc := 68) (n := 3) (i := 3) (j := 2) (by decide +kernel) rfl rfl ?_
        refine ab_callVj (As := [.int x3]) (st := []) (pc := 69) lk_X12_347_12 rfl rfl rfl (by decide) rfl (Nat.le_of_ble_eq_true rfl) (by decide +kernel) (fun y9 e9 => okX12_owned hl (F := F) e9) (fun v10 ev10 => ?_)
        refine ab_if_ne (off := 5) (pc := 72) (tgt := 77) (by decide +kernel) (by decide) (fun g11 => ?_) (fun g11 => ?_)
        · refine ab_iload_n (pc := 75) (n := 3) (i := 3) (j := 2) (by decide +kernel) rfl rfl ?_
          refine ab_istore_n (pc := 76) (n := 2) (i := 2) (lv' := [(0, .ref x0), (2, .int x3), (3, .int x3)]) (by decide +kernel) rfl (Nat.le_of_ble_eq_true rfl) rfl rfl ?_
          refine ab_iinc (pc := 77) (i := 3) (n := 1) (j := 2) (d := nI 1) (lv' := [(0, .ref x0), (2, .int x3), (3, .int (x3 + nI 1))]) (by decide +kernel) rfl rfl (Nat.le_of_ble_eq_true rfl) rfl rfl ?_
          refine ab_goto (pc := 80) (off := (-39)) (tgt := 41) (by decide +kernel) (by decide) ?_
          exact ih x3 (x3 + nI 1) v10.2
        · refine ab_iinc (pc := 77) (i := 3) (n := 1) (j := 2) (d := nI 1) (lv' := [(0, .ref x0), (2, .int x2), (3, .int (x3 + nI 1))]) (by decide +kernel) rfl rfl (Nat.le_of_ble_eq_true rfl) rfl rfl ?_
          refine ab_goto (pc := 80) (off := (-39)) (tgt := 41) (by decide +kernel) (by decide) ?_
          exact ih x2 (x3 + nI 1) v10.2
      · refine ab_icmp_eq (off := 14) (pc := 53) (tgt := 67) (by decide +kernel) (by decide) (fun g13 => ?_) (fun g13 => ?_)
        · exact hj12
        · refine ab_iload_n (pc := 56) (n := 3) (i := 3) (j := 2) (by decide +kernel) rfl rfl ?_
          refine ab_callSi (As := [.int x3]) (st := []) (pc := 57) lk_X12_242 rfl rfl rfl (by decide) rfl (Nat.le_of_ble_eq_true rfl) (by decide +kernel) (fun y9 e9 => okX12_bits hl (F := F) e9) (fun v14 ev14 => ?_)
          refine ab_iload_n (pc := 60) (n := 2) (i := 2) (j := 1) (by decide +kernel) rfl rfl ?_
          refine ab_callSi (As := [.int x2]) (st := [.int v14]) (pc := 61) lk_X12_242 rfl rfl rfl (by decide) rfl (Nat.le_of_ble_eq_true rfl) (by decide +kernel) (fun y9 e9 => okX12_bits hl (F := F) e9) (fun v15 ev15 => ?_)
          refine ab_icmp_ge (off := 13) (pc := 64) (tgt := 77) (by decide +kernel) (by decide) (fun g16 => ?_) (fun g16 => ?_)
          · exact hj12
          · refine ab_iinc (pc := 77) (i := 3) (n := 1) (j := 2) (d := nI 1) (lv' := [(0, .ref x0), (2, .int x2), (3, .int (x3 + nI 1))]) (by decide +kernel) rfl rfl (Nat.le_of_ble_eq_true rfl) rfl rfl ?_
            refine ab_goto (pc := 80) (off := (-39)) (tgt := 41) (by decide +kernel) (by decide) ?_
            exact ih x2 (x3 + nI 1) h
    · refine ab_iload_n (pc := 83) (n := 2) (i := 2) (j := 1) (by decide +kernel) rfl rfl ?_
      exact ab_iret (pc := 84) (by decide +kernel) rfl rfl (Nat.le_of_ble_eq_true rfl) (Nat.le_of_ble_eq_true rfl)
set_option maxRecDepth 100000 in
set_option maxHeartbeats 4000000 in
theorem wX12_clash {l : Launch} (hl : l.stackTraces = false) (F : Nat) (x0 : Nat) (h : ab_H) : ab_S l mX12_clash (fun y : (Int32 × ab_H) => ((.inl (some (.int y.1)), y.2) : ab_R × ab_H)) 0 0 (fX12_clash F x0 h) 0 [(0, .ref x0)] [] h := by
  unfold fX12_clash
  refine ab_aload_n (pc := 0) (n := 0) (i := 0) (j := 0) (by decide +kernel) rfl rfl ?_
  refine ab_callVj (As := []) (st := []) (pc := 1) lk_X12_350_12 rfl rfl rfl (by decide) rfl (Nat.le_of_ble_eq_true rfl) (by decide +kernel) (fun y9 e9 => okX12_hears hl (F := F) e9) (fun v1 ev1 => ?_)
  refine ab_istore_n (pc := 4) (n := 1) (i := 1) (lv' := [(0, .ref x0), (1, .int v1.1)]) (by decide +kernel) rfl (Nat.le_of_ble_eq_true rfl) rfl rfl ?_
  refine ab_aload_n (pc := 5) (n := 0) (i := 0) (j := 0) (by decide +kernel) rfl rfl ?_
  refine ab_iload_n (pc := 6) (n := 1) (i := 1) (j := 1) (by decide +kernel) rfl rfl ?_
  refine ab_jr (fun k9 : Int32 → Option (Int32 × ab_H) => ∀ (z2 : Int32), ab_S l mX12_clash (fun y : (Int32 × ab_H) => ((.inl (some (.int y.1)), y.2) : ab_R × ab_H)) 0 0 (k9 z2) 15 [(0, .ref x0)] [.int z2, .ref x0] v1.2) ?_ (fun j17 hj17 => ?_)
  · intro z2
    refine ab_put (pc := 15) fl_X12_50_12 rfl (fun _ => rfl) (fun _ => rfl) (by decide +kernel) (fun h3 eh3 => ?_)
    refine ab_aload_n (pc := 18) (n := 0) (i := 0) (j := 0) (by decide +kernel) rfl rfl ?_
    refine ab_getI (pc := 19) fl_X12_50_12 (by decide +kernel) (fun v4 ev4 => ?_)
    refine ab_if_gt (off := 13) (pc := 22) (tgt := 35) (by decide +kernel) (by decide) (fun g5 => ?_) (fun g5 => ?_)
    · refine ab_aload_n (pc := 25) (n := 0) (i := 0) (j := 0) (by decide +kernel) rfl rfl ?_
      refine ab_sipush (pc := 26) (n := 4095) (v := nI 4095) (by decide +kernel) (by decide) ?_
      refine ab_callVj (As := [.int (nI 4095)]) (st := []) (pc := 29) lk_X12_347_12 rfl rfl rfl (by decide) rfl (Nat.le_of_ble_eq_true rfl) (by decide +kernel) (fun y9 e9 => okX12_owned hl (F := F) e9) (fun v6 ev6 => ?_)
      refine ab_if_le (off := 5) (pc := 32) (tgt := 37) (by decide +kernel) (by decide) (fun g7 => ?_) (fun g7 => ?_)
      · refine ab_iconst (pc := 37) (n := -1) (v := (-1 : Int32)) (by decide +kernel) rfl ?_
        refine ab_istore_n (pc := 38) (n := 2) (i := 2) (lv' := [(0, .ref x0), (2, .int (-1 : Int32))]) (by decide +kernel) rfl (Nat.le_of_ble_eq_true rfl) rfl rfl ?_
        refine ab_iconst (pc := 39) (n := 0) (v := nI 0) (by decide +kernel) rfl ?_
        refine ab_istore_n (pc := 40) (n := 3) (i := 3) (lv' := [(0, .ref x0), (2, .int (-1 : Int32)), (3, .int (nI 0))]) (by decide +kernel) rfl (Nat.le_of_ble_eq_true rfl) rfl rfl ?_
        refine lX12_clash_41 hl F x0 F (-1 : Int32) (nI 0) v6.2
      · refine ab_iconst (pc := 35) (n := 0) (v := nI 0) (by decide +kernel) rfl ?_
        exact ab_iret (pc := 36) (by decide +kernel) rfl rfl (Nat.le_of_ble_eq_true rfl) (Nat.le_of_ble_eq_true rfl)
    · refine ab_iconst (pc := 35) (n := 0) (v := nI 0) (by decide +kernel) rfl ?_
      exact ab_iret (pc := 36) (by decide +kernel) rfl rfl (Nat.le_of_ble_eq_true rfl) (Nat.le_of_ble_eq_true rfl)
  · refine ab_if_eq (off := 7) (pc := 7) (tgt := 14) (by decide +kernel) (by decide) (fun g18 => ?_) (fun g18 => ?_)
    · refine ab_iconst (pc := 14) (n := 1) (v := nI 1) (by decide +kernel) rfl ?_
      refine ab_few [0] (lv' := [(0, .ref x0)]) rfl ?_
      exact hj17 (nI 1)
    · refine ab_iconst (pc := 10) (n := 0) (v := nI 0) (by decide +kernel) rfl ?_
      refine ab_goto (pc := 11) (off := 4) (tgt := 15) (by decide +kernel) (by decide) ?_
      refine ab_few [0] (lv' := [(0, .ref x0)]) rfl ?_
      exact hj17 (nI 0)
set_option maxRecDepth 100000 in
set_option maxHeartbeats 4000000 in
theorem okX12_clash {l : Launch} (hl : l.stackTraces = false) {F : Nat} {x0 : Nat} {h : ab_H} {y : (Int32 × ab_H)} (e : fX12_clash F x0 h = some y) : ab_Met l mX12_clash [.ref x0] h (.inl (some (.int y.1)), y.2) := ab_ofS (io := (fun y : (Int32 × ab_H) => ((.inl (some (.int y.1)), y.2) : ab_R × ab_H))) (x := y) hl (by decide) rfl (Nat.le_of_ble_eq_true rfl) (wX12_clash hl F x0 h) e
def mX12_read : ab_M := (yX12_read, cX12_read, 4, (some .int), { frames := 33, cells := 0, slots := 0, locals := 731 })
theorem iX12_read : ab_MI mX12_read 1 := ⟨kw_230fe9a945, kw_30b3f7d7c6, by decide +kernel⟩
theorem lk_X12_160_12 : ab_LV RX12 160 12 mX12_lawLine 0 := ⟨RX12, rfl, iX12_lawLine, kw_172267c61e, kw_75582998da, kw_17ae66ec85⟩
theorem lk_X12_163_12 : ab_LV RX12 163 12 mX12_doorLine 0 := ⟨RX12, rfl, iX12_doorLine, kw_9effc26ce5, kw_aa6bb93c8e, kw_815f522fff⟩
def fX12_read_23 (F : Nat) (x0 : Nat) (x1 : Int32) : Nat → Int32 → Int32 → ab_H → Option (Int32 × ab_H)
  | 0, _, _, _ => none
  | n + 1, x2, x3, h => (if x2 = 0 then some (x3, h) else ab_bd (ab_fi h x0 12 12) fun v6 => (if v6 = (-1 : Int32) then ab_ck (ab_io h x0 12 = true) (ab_bd (fX12_skip F x0 h) fun h8 => ab_jn (κ := Int32 → Option (Int32 × ab_H)) (fun (z9 : Int32) => ab_jn (κ := ab_H → Option (Int32 × ab_H)) (fun (h10 : ab_H) => ab_ck (ab_io h10 x0 12 = true) (ab_bd (fX12_skip F x0 h10) fun h11 => ab_bd (ab_fi h11 x0 12 12) fun v12 => (if v12 = (-1 : Int32) then ab_bd (ab_fi h11 x0 12 11) fun v14 => ab_bd (ab_fi h11 x0 12 10) fun v15 => (if v14 = v15 then fX12_read_23 F x0 x1 n (nI 0) (x3 + nI 1) h11 else ab_ck (ab_io h11 x0 12 = true) (ab_bd (fX12_isSign F x0 (nI 59) h11) fun v17 => (if v17.1 = 0 then ab_bd (ab_fi v17.2 x0 12 11) fun v19 => ab_ck (ab_io v17.2 x0 12 = true) (ab_bd (fX12_wrong x0 v19 v17.2) fun h20 => fX12_read_23 F x0 x1 n x2 (x3 + nI 1) h20) else ab_bd (ab_fi v17.2 x0 12 11) fun v21 => ab_bd (ab_fw v17.2 x0 12 11 (.int (v21 + (nI 1)))) fun h22 => fX12_read_23 F x0 x1 n x2 (x3 + nI 1) h22))) else fX12_read_23 F x0 x1 n (nI 0) (x3 + nI 1) h11))) fun j23 => (if x3 = z9 then ab_bd (ab_fi h8 x0 12 11) fun v25 => ab_ck (ab_io h8 x0 12 = true) (ab_bd (fX12_wrong x0 v25 h8) fun h26 => j23 h26) else (if x1 = 0 then ab_ck (ab_io h8 x0 12 = true) (ab_bd (fX12_doorLine F x0 h8) fun h28 => j23 h28) else ab_ck (ab_io h8 x0 12 = true) (ab_bd (fX12_lawLine F x0 h8) fun h29 => j23 h29)))) fun j30 => (if x1 = 0 then j30 (nI 14) else j30 (nI 12))) else some (x3, h)))
def fX12_read (F : Nat) (x0 : Nat) (x1 : Int32) (h : ab_H) : Option (Int32 × ab_H) := ab_ck (ab_io h x0 12 = true) (ab_bd (fX12_skip F x0 h) fun h1 => ab_bd (ab_fi h1 x0 12 11) fun v2 => ab_bd (ab_fi h1 x0 12 10) fun v3 => (if v2 < v3 then fX12_read_23 F x0 x1 F (nI 1) (nI 0) h1 else fX12_read_23 F x0 x1 F (nI 0) (nI 0) h1))
set_option maxRecDepth 100000 in
set_option maxHeartbeats 4000000 in
theorem lX12_read_23 {l : Launch} (hl : l.stackTraces = false) (F : Nat) (x0 : Nat) (x1 : Int32) : ∀ (n : Nat) (x2 : Int32) (x3 : Int32) (h : ab_H), ab_S l mX12_read (fun y : (Int32 × ab_H) => ((.inl (some (.int y.1)), y.2) : ab_R × ab_H)) 0 0 (fX12_read_23 F x0 x1 n x2 x3 h) 23 [(0, .ref x0), (1, .int x1), (2, .int x2), (3, .int x3)] [] h := by
  intro n
  induction n with
  | zero =>
    intro x2 x3 h
    exact ab_none
  | succ n ih =>
    intro x2 x3 h
    rw [fX12_read_23]
    refine ab_iload_n (pc := 23) (n := 2) (i := 2) (j := 2) (by decide +kernel) rfl rfl ?_
    refine ab_if_eq (off := 120) (pc := 24) (tgt := 144) (by decide +kernel) (by decide) (fun g5 => ?_) (fun g5 => ?_)
    · refine ab_iload_n (pc := 144) (n := 3) (i := 3) (j := 3) (by decide +kernel) rfl rfl ?_
      exact ab_iret (pc := 145) (by decide +kernel) rfl rfl (Nat.le_of_ble_eq_true rfl) (Nat.le_of_ble_eq_true rfl)
    · refine ab_aload_n (pc := 27) (n := 0) (i := 0) (j := 0) (by decide +kernel) rfl rfl ?_
      refine ab_getI (pc := 28) fl_X12_25_12 (by decide +kernel) (fun v6 ev6 => ?_)
      refine ab_iconst (pc := 31) (n := -1) (v := (-1 : Int32)) (by decide +kernel) rfl ?_
      refine ab_icmp_ne (off := 112) (pc := 32) (tgt := 144) (by decide +kernel) (by decide) (fun g7 => ?_) (fun g7 => ?_)
      · refine ab_aload_n (pc := 35) (n := 0) (i := 0) (j := 0) (by decide +kernel) rfl rfl ?_
        refine ab_callVw (As := []) (st := []) (pc := 36) lk_X12_77_12 rfl rfl rfl (by decide) rfl (Nat.le_of_ble_eq_true rfl) (by decide +kernel) (fun y9 e9 => okX12_skip hl (F := F) e9) (fun h8 eh8 => ?_)
        refine ab_iload_n (pc := 39) (n := 3) (i := 3) (j := 3) (by decide +kernel) rfl rfl ?_
        refine ab_iload_n (pc := 40) (n := 1) (i := 1) (j := 1) (by decide +kernel) rfl rfl ?_
        refine ab_jr (fun k9 : Int32 → Option (Int32 × ab_H) => ∀ (z9 : Int32), ab_S l mX12_read (fun y : (Int32 × ab_H) => ((.inl (some (.int y.1)), y.2) : ab_R × ab_H)) 0 0 (k9 z9) 51 [(0, .ref x0), (1, .int x1), (2, .int x2), (3, .int x3)] [.int z9, .int x3] h8) ?_ (fun j30 hj30 => ?_)
        · intro z9
          refine ab_jr (fun k9 : ab_H → Option (Int32 × ab_H) => ∀ (h10 : ab_H), ab_S l mX12_read (fun y : (Int32 × ab_H) => ((.inl (some (.int y.1)), y.2) : ab_R × ab_H)) 0 0 (k9 h10) 80 [(0, .ref x0), (1, .int x1), (2, .int x2), (3, .int x3)] [] h10) ?_ (fun j23 hj23 => ?_)
          · intro h10
            refine ab_iinc (pc := 80) (i := 3) (n := 1) (j := 3) (d := nI 1) (lv' := [(0, .ref x0), (1, .int x1), (2, .int x2), (3, .int (x3 + nI 1))]) (by decide +kernel) rfl rfl (Nat.le_of_ble_eq_true rfl) rfl rfl ?_
            refine ab_aload_n (pc := 83) (n := 0) (i := 0) (j := 0) (by decide +kernel) rfl rfl ?_
            refine ab_callVw (As := []) (st := []) (pc := 84) lk_X12_77_12 rfl rfl rfl (by decide) rfl (Nat.le_of_ble_eq_true rfl) (by decide +kernel) (fun y9 e9 => okX12_skip hl (F := F) e9) (fun h11 eh11 => ?_)
            refine ab_aload_n (pc := 87) (n := 0) (i := 0) (j := 0) (by decide +kernel) rfl rfl ?_
            refine ab_getI (pc := 88) fl_X12_25_12 (by decide +kernel) (fun v12 ev12 => ?_)
            refine ab_iconst (pc := 91) (n := -1) (v := (-1 : Int32)) (by decide +kernel) rfl ?_
            refine ab_icmp_ne (off := 14) (pc := 92) (tgt := 106) (by decide +kernel) (by decide) (fun g13 => ?_) (fun g13 => ?_)
            · refine ab_aload_n (pc := 95) (n := 0) (i := 0) (j := 0) (by decide +kernel) rfl rfl ?_
              refine ab_getI (pc := 96) fl_X12_67_12 (by decide +kernel) (fun v14 ev14 => ?_)
              refine ab_aload_n (pc := 99) (n := 0) (i := 0) (j := 0) (by decide +kernel) rfl rfl ?_
              refine ab_getI (pc := 100) fl_X12_70_12 (by decide +kernel) (fun v15 ev15 => ?_)
              refine ab_icmp_ne (off := 8) (pc := 103) (tgt := 111) (by decide +kernel) (by decide) (fun g16 => ?_) (fun g16 => ?_)
              · refine ab_iconst (pc := 106) (n := 0) (v := nI 0) (by decide +kernel) rfl ?_
                refine ab_istore_n (pc := 107) (n := 2) (i := 2) (lv' := [(0, .ref x0), (1, .int x1), (2, .int (nI 0)), (3, .int (x3 + nI 1))]) (by decide +kernel) rfl (Nat.le_of_ble_eq_true rfl) rfl rfl ?_
                refine ab_goto (pc := 108) (off := (-85)) (tgt := 23) (by decide +kernel) (by decide) ?_
                exact ih (nI 0) (x3 + nI 1) h11
              · refine ab_aload_n (pc := 111) (n := 0) (i := 0) (j := 0) (by decide +kernel) rfl rfl ?_
                refine ab_bipush (pc := 112) (n := 59) (v := nI 59) (by decide +kernel) (by decide) ?_
                refine ab_callVj (As := [.int (nI 59)]) (st := []) (pc := 114) lk_X12_166_12 rfl rfl rfl (by decide) rfl (Nat.le_of_ble_eq_true rfl) (by decide +kernel) (fun y9 e9 => okX12_isSign hl (F := F) e9) (fun v17 ev17 => ?_)
                refine ab_if_eq (off := 16) (pc := 117) (tgt := 133) (by decide +kernel) (by decide) (fun g18 => ?_) (fun g18 => ?_)
                · refine ab_aload_n (pc := 133) (n := 0) (i := 0) (j := 0) (by decide +kernel) rfl rfl ?_
                  refine ab_aload_n (pc := 134) (n := 0) (i := 0) (j := 0) (by decide +kernel) rfl rfl ?_
                  refine ab_getI (pc := 135) fl_X12_67_12 (by decide +kernel) (fun v19 ev19 => ?_)
                  refine ab_callVw (As := [.int v19]) (st := []) (pc := 138) lk_X12_93_12 rfl rfl rfl (by decide) rfl (Nat.le_of_ble_eq_true rfl) (by decide +kernel) (fun y9 e9 => okX12_wrong hl e9) (fun h20 eh20 => ?_)
                  refine ab_goto (pc := 141) (off := (-118)) (tgt := 23) (by decide +kernel) (by decide) ?_
                  exact ih x2 (x3 + nI 1) h20
                · refine ab_aload_n (pc := 120) (n := 0) (i := 0) (j := 0) (by decide +kernel) rfl rfl ?_
                  refine ab_dup (pc := 121) (by decide +kernel) rfl ?_
                  refine ab_getI (pc := 122) fl_X12_67_12 (by decide +kernel) (fun v21 ev21 => ?_)
                  refine ab_iconst (pc := 125) (n := 1) (v := nI 1) (by decide +kernel) rfl ?_
                  refine ab_iadd (pc := 126) (by decide +kernel) ?_
                  refine ab_put (pc := 127) fl_X12_67_12 rfl (fun _ => rfl) (fun _ => rfl) (by decide +kernel) (fun h22 eh22 => ?_)
                  refine ab_goto (pc := 130) (off := (-107)) (tgt := 23) (by decide +kernel) (by decide) ?_
                  exact ih x2 (x3 + nI 1) h22
            · refine ab_iconst (pc := 106) (n := 0) (v := nI 0) (by decide +kernel) rfl ?_
              refine ab_istore_n (pc := 107) (n := 2) (i := 2) (lv' := [(0, .ref x0), (1, .int x1), (2, .int (nI 0)), (3, .int (x3 + nI 1))]) (by decide +kernel) rfl (Nat.le_of_ble_eq_true rfl) rfl rfl ?_
              refine ab_goto (pc := 108) (off := (-85)) (tgt := 23) (by decide +kernel) (by decide) ?_
              exact ih (nI 0) (x3 + nI 1) h11
          · refine ab_icmp_ne (off := 14) (pc := 51) (tgt := 65) (by decide +kernel) (by decide) (fun g24 => ?_) (fun g24 => ?_)
            · refine ab_aload_n (pc := 54) (n := 0) (i := 0) (j := 0) (by decide +kernel) rfl rfl ?_
              refine ab_aload_n (pc := 55) (n := 0) (i := 0) (j := 0) (by decide +kernel) rfl rfl ?_
              refine ab_getI (pc := 56) fl_X12_67_12 (by decide +kernel) (fun v25 ev25 => ?_)
              refine ab_callVw (As := [.int v25]) (st := []) (pc := 59) lk_X12_93_12 rfl rfl rfl (by decide) rfl (Nat.le_of_ble_eq_true rfl) (by decide +kernel) (fun y9 e9 => okX12_wrong hl e9) (fun h26 eh26 => ?_)
              refine ab_goto (pc := 62) (off := 18) (tgt := 80) (by decide +kernel) (by decide) ?_
              exact hj23 h26
            · refine ab_iload_n (pc := 65) (n := 1) (i := 1) (j := 1) (by decide +kernel) rfl rfl ?_
              refine ab_if_eq (off := 10) (pc := 66) (tgt := 76) (by decide +kernel) (by decide) (fun g27 => ?_) (fun g27 => ?_)
              · refine ab_aload_n (pc := 76) (n := 0) (i := 0) (j := 0) (by decide +kernel) rfl rfl ?_
                refine ab_callVw (As := []) (st := []) (pc := 77) lk_X12_163_12 rfl rfl rfl (by decide) rfl (Nat.le_of_ble_eq_true rfl) (by decide +kernel) (fun y9 e9 => okX12_doorLine hl (F := F) e9) (fun h28 eh28 => ?_)
                exact hj23 h28
              · refine ab_aload_n (pc := 69) (n := 0) (i := 0) (j := 0) (by decide +kernel) rfl rfl ?_
                refine ab_callVw (As := []) (st := []) (pc := 70) lk_X12_160_12 rfl rfl rfl (by decide) rfl (Nat.le_of_ble_eq_true rfl) (by decide +kernel) (fun y9 e9 => okX12_lawLine hl (F := F) e9) (fun h29 eh29 => ?_)
                refine ab_goto (pc := 73) (off := 7) (tgt := 80) (by decide +kernel) (by decide) ?_
                exact hj23 h29
        · refine ab_if_eq (off := 8) (pc := 41) (tgt := 49) (by decide +kernel) (by decide) (fun g31 => ?_) (fun g31 => ?_)
          · refine ab_bipush (pc := 49) (n := 14) (v := nI 14) (by decide +kernel) (by decide) ?_
            exact hj30 (nI 14)
          · refine ab_bipush (pc := 44) (n := 12) (v := nI 12) (by decide +kernel) (by decide) ?_
            refine ab_goto (pc := 46) (off := 5) (tgt := 51) (by decide +kernel) (by decide) ?_
            exact hj30 (nI 12)
      · refine ab_iload_n (pc := 144) (n := 3) (i := 3) (j := 3) (by decide +kernel) rfl rfl ?_
        exact ab_iret (pc := 145) (by decide +kernel) rfl rfl (Nat.le_of_ble_eq_true rfl) (Nat.le_of_ble_eq_true rfl)
set_option maxRecDepth 100000 in
set_option maxHeartbeats 4000000 in
theorem wX12_read {l : Launch} (hl : l.stackTraces = false) (F : Nat) (x0 : Nat) (x1 : Int32) (h : ab_H) : ab_S l mX12_read (fun y : (Int32 × ab_H) => ((.inl (some (.int y.1)), y.2) : ab_R × ab_H)) 0 0 (fX12_read F x0 x1 h) 0 [(0, .ref x0), (1, .int x1)] [] h := by
  unfold fX12_read
  refine ab_aload_n (pc := 0) (n := 0) (i := 0) (j := 0) (by decide +kernel) rfl rfl ?_
  refine ab_callVw (As := []) (st := []) (pc := 1) lk_X12_77_12 rfl rfl rfl (by decide) rfl (Nat.le_of_ble_eq_true rfl) (by decide +kernel) (fun y9 e9 => okX12_skip hl (F := F) e9) (fun h1 eh1 => ?_)
  refine ab_aload_n (pc := 4) (n := 0) (i := 0) (j := 0) (by decide +kernel) rfl rfl ?_
  refine ab_getI (pc := 5) fl_X12_67_12 (by decide +kernel) (fun v2 ev2 => ?_)
  refine ab_aload_n (pc := 8) (n := 0) (i := 0) (j := 0) (by decide +kernel) rfl rfl ?_
  refine ab_getI (pc := 9) fl_X12_70_12 (by decide +kernel) (fun v3 ev3 => ?_)
  refine ab_icmp_ge (off := 7) (pc := 12) (tgt := 19) (by decide +kernel) (by decide) (fun g4 => ?_) (fun g4 => ?_)
  · refine ab_iconst (pc := 15) (n := 1) (v := nI 1) (by decide +kernel) rfl ?_
    refine ab_goto (pc := 16) (off := 4) (tgt := 20) (by decide +kernel) (by decide) ?_
    refine ab_istore_n (pc := 20) (n := 2) (i := 2) (lv' := [(0, .ref x0), (1, .int x1), (2, .int (nI 1))]) (by decide +kernel) rfl (Nat.le_of_ble_eq_true rfl) rfl rfl ?_
    refine ab_iconst (pc := 21) (n := 0) (v := nI 0) (by decide +kernel) rfl ?_
    refine ab_istore_n (pc := 22) (n := 3) (i := 3) (lv' := [(0, .ref x0), (1, .int x1), (2, .int (nI 1)), (3, .int (nI 0))]) (by decide +kernel) rfl (Nat.le_of_ble_eq_true rfl) rfl rfl ?_
    refine lX12_read_23 hl F x0 x1 F (nI 1) (nI 0) h1
  · refine ab_iconst (pc := 19) (n := 0) (v := nI 0) (by decide +kernel) rfl ?_
    refine ab_istore_n (pc := 20) (n := 2) (i := 2) (lv' := [(0, .ref x0), (1, .int x1), (2, .int (nI 0))]) (by decide +kernel) rfl (Nat.le_of_ble_eq_true rfl) rfl rfl ?_
    refine ab_iconst (pc := 21) (n := 0) (v := nI 0) (by decide +kernel) rfl ?_
    refine ab_istore_n (pc := 22) (n := 3) (i := 3) (lv' := [(0, .ref x0), (1, .int x1), (2, .int (nI 0)), (3, .int (nI 0))]) (by decide +kernel) rfl (Nat.le_of_ble_eq_true rfl) rfl rfl ?_
    refine lX12_read_23 hl F x0 x1 F (nI 0) (nI 0) h1
set_option maxRecDepth 100000 in
set_option maxHeartbeats 4000000 in
theorem okX12_read {l : Launch} (hl : l.stackTraces = false) {F : Nat} {x0 : Nat} {x1 : Int32} {h : ab_H} {y : (Int32 × ab_H)} (e : fX12_read F x0 x1 h = some y) : ab_Met l mX12_read [.ref x0, .int x1] h (.inl (some (.int y.1)), y.2) := ab_ofS (io := (fun y : (Int32 × ab_H) => ((.inl (some (.int y.1)), y.2) : ab_R × ab_H))) (x := y) hl (by decide) rfl (Nat.le_of_ble_eq_true rfl) (wX12_read hl F x0 x1 h) e
def mX12_door : ab_M := (yX12_door, cX12_door, 2, (some .int), { frames := 34, cells := 0, slots := 0, locals := 754 })
theorem iX12_door : ab_MI mX12_door 0 := ⟨kw_92d9c1eb75, kw_30b3f7d7c6, by decide +kernel⟩
theorem lk_X12_172_12 : ab_LV RX12 172 12 mX12_begins 0 := ⟨RX12, rfl, iX12_begins, kw_e832613799, kw_fb3af41cac, kw_e37112cb36⟩
theorem lk_X12_175_12 : ab_LV RX12 175 12 mX12_read 1 := ⟨RX12, rfl, iX12_read, kw_33ea2e95f1, kw_61eb0f3e34, kw_9bc19b208f⟩
def fX12_door (F : Nat) (x0 : Nat) (h : ab_H) : Option (Int32 × ab_H) := ab_ck (ab_io h x0 12 = true) (ab_bd (fX12_putsAside F x0 h) fun h1 => ab_ck (ab_io h1 x0 12 = true) (ab_bd (fX12_begins x0 h1) fun h2 => ab_ck (ab_io h2 x0 12 = true) (ab_bd (fX12_read F x0 (nI 0) h2) fun v3 => ab_bd (ab_fi v3.2 x0 12 12) fun v4 => ab_jn (κ := Int32 → Option (Int32 × ab_H)) (fun (z5 : Int32) => ab_bd (ab_fw v3.2 x0 12 0 (.int z5)) fun h6 => ab_bd (ab_fi h6 x0 12 0) fun v7 => (if v7 ≤ 0 then ab_bd (ab_fr h6 x0 12 1) fun v9 => ab_bd (ab_ia 0 h6 v9 (nI 0)) fun v10 => ab_bd (ab_iw 0 h6 v9 (nI 0) (v10 + (nI 1))) fun h11 => ab_bd (ab_fw h11 x0 12 6 (.int (nI 0))) fun h12 => ab_bd (ab_fr h12 x0 12 1) fun v13 => ab_bd (ab_ia 0 h12 v13 (nI 0)) fun v14 => some (v14, h12) else ab_ck (ab_io h6 x0 12 = true) (ab_bd (fX12_comesBack F x0 h6) fun h15 => some (nI 0, h15)))) fun j16 => (if v4 = (-1 : Int32) then ab_bd (ab_fr v3.2 x0 12 1) fun v18 => ab_bd (ab_ia 0 v3.2 v18 (nI 0)) fun v19 => (if v19 = (nI 12) then j16 (nI 2) else j16 (nI 0)) else j16 (nI 1)))))
set_option maxRecDepth 100000 in
set_option maxHeartbeats 4000000 in
theorem wX12_door {l : Launch} (hl : l.stackTraces = false) (F : Nat) (x0 : Nat) (h : ab_H) : ab_S l mX12_door (fun y : (Int32 × ab_H) => ((.inl (some (.int y.1)), y.2) : ab_R × ab_H)) 0 0 (fX12_door F x0 h) 0 [(0, .ref x0)] [] h := by
  unfold fX12_door
  refine ab_aload_n (pc := 0) (n := 0) (i := 0) (j := 0) (by decide +kernel) rfl rfl ?_
  refine ab_callVw (As := []) (st := []) (pc := 1) lk_X12_169_12 rfl rfl rfl (by decide) rfl (Nat.le_of_ble_eq_true rfl) (by decide +kernel) (fun y9 e9 => okX12_putsAside hl (F := F) e9) (fun h1 eh1 => ?_)
  refine ab_aload_n (pc := 4) (n := 0) (i := 0) (j := 0) (by decide +kernel) rfl rfl ?_
  refine ab_callVw (As := []) (st := []) (pc := 5) lk_X12_172_12 rfl rfl rfl (by decide) rfl (Nat.le_of_ble_eq_true rfl) (by decide +kernel) (fun y9 e9 => okX12_begins hl e9) (fun h2 eh2 => ?_)
  refine ab_aload_n (pc := 8) (n := 0) (i := 0) (j := 0) (by decide +kernel) rfl rfl ?_
  refine ab_iconst (pc := 9) (n := 0) (v := nI 0) (by decide +kernel) rfl ?_
  refine ab_callVj (As := [.int (nI 0)]) (st := []) (pc := 10) lk_X12_175_12 rfl rfl rfl (by decide) rfl (Nat.le_of_ble_eq_true rfl) (by decide +kernel) (fun y9 e9 => okX12_read hl (F := F) e9) (fun v3 ev3 => ?_)
  refine ab_istore_n (pc := 13) (n := 1) (i := 1) (lv' := [(0, .ref x0), (1, .int v3.1)]) (by decide +kernel) rfl (Nat.le_of_ble_eq_true rfl) rfl rfl ?_
  refine ab_aload_n (pc := 14) (n := 0) (i := 0) (j := 0) (by decide +kernel) rfl rfl ?_
  refine ab_aload_n (pc := 15) (n := 0) (i := 0) (j := 0) (by decide +kernel) rfl rfl ?_
  refine ab_getI (pc := 16) fl_X12_25_12 (by decide +kernel) (fun v4 ev4 => ?_)
  refine ab_iconst (pc := 19) (n := -1) (v := (-1 : Int32)) (by decide +kernel) rfl ?_
  refine ab_jr (fun k9 : Int32 → Option (Int32 × ab_H) => ∀ (z5 : Int32), ab_S l mX12_door (fun y : (Int32 × ab_H) => ((.inl (some (.int y.1)), y.2) : ab_R × ab_H)) 0 0 (k9 z5) 43 [(0, .ref x0)] [.int z5, .ref x0] v3.2) ?_ (fun j16 hj16 => ?_)
  · intro z5
    refine ab_put (pc := 43) fl_X12_50_12 rfl (fun _ => rfl) (fun _ => rfl) (by decide +kernel) (fun h6 eh6 => ?_)
    refine ab_aload_n (pc := 46) (n := 0) (i := 0) (j := 0) (by decide +kernel) rfl rfl ?_
    refine ab_getI (pc := 47) fl_X12_50_12 (by decide +kernel) (fun v7 ev7 => ?_)
    refine ab_if_le (off := 9) (pc := 50) (tgt := 59) (by decide +kernel) (by decide) (fun g8 => ?_) (fun g8 => ?_)
    · refine ab_aload_n (pc := 59) (n := 0) (i := 0) (j := 0) (by decide +kernel) rfl rfl ?_
      refine ab_getR (pc := 60) fl_X12_7_12 (by decide +kernel) (fun v9 ev9 => ?_)
      refine ab_iconst (pc := 63) (n := 0) (v := nI 0) (by decide +kernel) rfl ?_
      refine ab_dup2 (pc := 64) (by decide +kernel) rfl rfl ?_
      refine ab_iald (pc := 65) (by decide +kernel) (fun v10 ev10 => ?_)
      refine ab_iconst (pc := 66) (n := 1) (v := nI 1) (by decide +kernel) rfl ?_
      refine ab_iadd (pc := 67) (by decide +kernel) ?_
      refine ab_iast (pc := 68) (by decide +kernel) (fun h11 eh11 => ?_)
      refine ab_aload_n (pc := 69) (n := 0) (i := 0) (j := 0) (by decide +kernel) rfl rfl ?_
      refine ab_iconst (pc := 70) (n := 0) (v := nI 0) (by decide +kernel) rfl ?_
      refine ab_put (pc := 71) fl_X12_182_12 rfl (fun _ => rfl) (fun _ => rfl) (by decide +kernel) (fun h12 eh12 => ?_)
      refine ab_aload_n (pc := 74) (n := 0) (i := 0) (j := 0) (by decide +kernel) rfl rfl ?_
      refine ab_getR (pc := 75) fl_X12_7_12 (by decide +kernel) (fun v13 ev13 => ?_)
      refine ab_iconst (pc := 78) (n := 0) (v := nI 0) (by decide +kernel) rfl ?_
      refine ab_iald (pc := 79) (by decide +kernel) (fun v14 ev14 => ?_)
      exact ab_iret (pc := 80) (by decide +kernel) rfl rfl (Nat.le_of_ble_eq_true rfl) (Nat.le_of_ble_eq_true rfl)
    · refine ab_aload_n (pc := 53) (n := 0) (i := 0) (j := 0) (by decide +kernel) rfl rfl ?_
      refine ab_callVw (As := []) (st := []) (pc := 54) lk_X12_179_12 rfl rfl rfl (by decide) rfl (Nat.le_of_ble_eq_true rfl) (by decide +kernel) (fun y9 e9 => okX12_comesBack hl (F := F) e9) (fun h15 eh15 => ?_)
      refine ab_iconst (pc := 57) (n := 0) (v := nI 0) (by decide +kernel) rfl ?_
      exact ab_iret (pc := 58) (by decide +kernel) rfl rfl (Nat.le_of_ble_eq_true rfl) (Nat.le_of_ble_eq_true rfl)
  · refine ab_icmp_eq (off := 7) (pc := 20) (tgt := 27) (by decide +kernel) (by decide) (fun g17 => ?_) (fun g17 => ?_)
    · refine ab_aload_n (pc := 27) (n := 0) (i := 0) (j := 0) (by decide +kernel) rfl rfl ?_
      refine ab_getR (pc := 28) fl_X12_7_12 (by decide +kernel) (fun v18 ev18 => ?_)
      refine ab_iconst (pc := 31) (n := 0) (v := nI 0) (by decide +kernel) rfl ?_
      refine ab_iald (pc := 32) (by decide +kernel) (fun v19 ev19 => ?_)
      refine ab_bipush (pc := 33) (n := 12) (v := nI 12) (by decide +kernel) (by decide) ?_
      refine ab_icmp_ne (off := 7) (pc := 35) (tgt := 42) (by decide +kernel) (by decide) (fun g20 => ?_) (fun g20 => ?_)
      · refine ab_iconst (pc := 38) (n := 2) (v := nI 2) (by decide +kernel) rfl ?_
        refine ab_goto (pc := 39) (off := 4) (tgt := 43) (by decide +kernel) (by decide) ?_
        refine ab_few [0] (lv' := [(0, .ref x0)]) rfl ?_
        exact hj16 (nI 2)
      · refine ab_iconst (pc := 42) (n := 0) (v := nI 0) (by decide +kernel) rfl ?_
        refine ab_few [0] (lv' := [(0, .ref x0)]) rfl ?_
        exact hj16 (nI 0)
    · refine ab_iconst (pc := 23) (n := 1) (v := nI 1) (by decide +kernel) rfl ?_
      refine ab_goto (pc := 24) (off := 19) (tgt := 43) (by decide +kernel) (by decide) ?_
      refine ab_few [0] (lv' := [(0, .ref x0)]) rfl ?_
      exact hj16 (nI 1)
set_option maxRecDepth 100000 in
set_option maxHeartbeats 4000000 in
theorem okX12_door {l : Launch} (hl : l.stackTraces = false) {F : Nat} {x0 : Nat} {h : ab_H} {y : (Int32 × ab_H)} (e : fX12_door F x0 h = some y) : ab_Met l mX12_door [.ref x0] h (.inl (some (.int y.1)), y.2) := ab_ofS (io := (fun y : (Int32 × ab_H) => ((.inl (some (.int y.1)), y.2) : ab_R × ab_H))) (x := y) hl (by decide) rfl (Nat.le_of_ble_eq_true rfl) (wX12_door hl F x0 h) e
def mX12_law : ab_M := (yX12_law, cX12_law, 3, (some .int), { frames := 34, cells := 0, slots := 0, locals := 754 })
theorem iX12_law : ab_MI mX12_law 0 := ⟨kw_af8ceae23e, kw_30b3f7d7c6, by decide +kernel⟩
def fX12_law_55 (F : Nat) (x0 : Nat) (x1 : Int32) : Nat → Int32 → ab_H → Option (Int32 × ab_H)
  | 0, _, _ => none
  | n + 1, x2, h => ab_bd (ab_fi h x0 12 10) fun v13 => (if x2 < v13 then ab_bd (ab_fr h x0 12 1) fun v15 => ab_bd (ab_fr h x0 12 7) fun v16 => ab_bd (ab_ia 0 h v16 x2) fun v17 => ab_bd (ab_iw 0 h v15 ((nI 584) + x2) v17) fun h18 => fX12_law_55 F x0 x1 n (x2 + nI 1) h18 else ab_bd (ab_fw h x0 12 6 (.int (nI 0))) fun h19 => some (x1, h19))
def fX12_law (F : Nat) (x0 : Nat) (h : ab_H) : Option (Int32 × ab_H) := ab_ck (ab_io h x0 12 = true) (ab_bd (fX12_begins x0 h) fun h1 => ab_ck (ab_io h1 x0 12 = true) (ab_bd (fX12_read F x0 (nI 1) h1) fun v2 => ab_bd (ab_fi v2.2 x0 12 12) fun v3 => ab_jn (κ := Int32 → Option (Int32 × ab_H)) (fun (z4 : Int32) => ab_bd (ab_fw v2.2 x0 12 0 (.int z4)) fun h5 => ab_bd (ab_fi h5 x0 12 0) fun v6 => (if v6 ≤ 0 then ab_bd (ab_fr h5 x0 12 1) fun v8 => ab_bd (ab_iw 0 h5 v8 (nI 1) v2.1) fun h9 => ab_bd (ab_fr h9 x0 12 1) fun v10 => ab_bd (ab_fi h9 x0 12 10) fun v11 => ab_bd (ab_iw 0 h9 v10 (nI 2) v11) fun h12 => fX12_law_55 F x0 v2.1 F (nI 0) h12 else some (nI 0, h5))) fun j20 => (if v3 = (-1 : Int32) then j20 (nI 0) else j20 (nI 1))))
set_option maxRecDepth 100000 in
set_option maxHeartbeats 4000000 in
theorem lX12_law_55 {l : Launch} (hl : l.stackTraces = false) (F : Nat) (x0 : Nat) (x1 : Int32) : ∀ (n : Nat) (x2 : Int32) (h : ab_H), ab_S l mX12_law (fun y : (Int32 × ab_H) => ((.inl (some (.int y.1)), y.2) : ab_R × ab_H)) 0 0 (fX12_law_55 F x0 x1 n x2 h) 55 [(0, .ref x0), (1, .int x1), (2, .int x2)] [] h := by
  intro n
  induction n with
  | zero =>
    intro x2 h
    exact ab_none
  | succ n ih =>
    intro x2 h
    rw [fX12_law_55]
    refine ab_iload_n (pc := 55) (n := 2) (i := 2) (j := 2) (by decide +kernel) rfl rfl ?_
    refine ab_aload_n (pc := 56) (n := 0) (i := 0) (j := 0) (by decide +kernel) rfl rfl ?_
    refine ab_getI (pc := 57) fl_X12_70_12 (by decide +kernel) (fun v13 ev13 => ?_)
    refine ab_icmp_ge (off := 25) (pc := 60) (tgt := 85) (by decide +kernel) (by decide) (fun g14 => ?_) (fun g14 => ?_)
    · refine ab_aload_n (pc := 63) (n := 0) (i := 0) (j := 0) (by decide +kernel) rfl rfl ?_
      refine ab_getR (pc := 64) fl_X12_7_12 (by decide +kernel) (fun v15 ev15 => ?_)
      refine ab_sipush (pc := 67) (n := 584) (v := nI 584) (by decide +kernel) (by decide) ?_
      refine ab_iload_n (pc := 70) (n := 2) (i := 2) (j := 2) (by decide +kernel) rfl rfl ?_
      refine ab_iadd (pc := 71) (by decide +kernel) ?_
      refine ab_aload_n (pc := 72) (n := 0) (i := 0) (j := 0) (by decide +kernel) rfl rfl ?_
      refine ab_getR (pc := 73) fl_X12_22_12 (by decide +kernel) (fun v16 ev16 => ?_)
      refine ab_iload_n (pc := 76) (n := 2) (i := 2) (j := 2) (by decide +kernel) rfl rfl ?_
      refine ab_iald (pc := 77) (by decide +kernel) (fun v17 ev17 => ?_)
      refine ab_iast (pc := 78) (by decide +kernel) (fun h18 eh18 => ?_)
      refine ab_iinc (pc := 79) (i := 2) (n := 1) (j := 2) (d := nI 1) (lv' := [(0, .ref x0), (1, .int x1), (2, .int (x2 + nI 1))]) (by decide +kernel) rfl rfl (Nat.le_of_ble_eq_true rfl) rfl rfl ?_
      refine ab_goto (pc := 82) (off := (-27)) (tgt := 55) (by decide +kernel) (by decide) ?_
      exact ih (x2 + nI 1) h18
    · refine ab_aload_n (pc := 85) (n := 0) (i := 0) (j := 0) (by decide +kernel) rfl rfl ?_
      refine ab_iconst (pc := 86) (n := 0) (v := nI 0) (by decide +kernel) rfl ?_
      refine ab_put (pc := 87) fl_X12_182_12 rfl (fun _ => rfl) (fun _ => rfl) (by decide +kernel) (fun h19 eh19 => ?_)
      refine ab_iload_n (pc := 90) (n := 1) (i := 1) (j := 1) (by decide +kernel) rfl rfl ?_
      exact ab_iret (pc := 91) (by decide +kernel) rfl rfl (Nat.le_of_ble_eq_true rfl) (Nat.le_of_ble_eq_true rfl)
set_option maxRecDepth 100000 in
set_option maxHeartbeats 4000000 in
theorem wX12_law {l : Launch} (hl : l.stackTraces = false) (F : Nat) (x0 : Nat) (h : ab_H) : ab_S l mX12_law (fun y : (Int32 × ab_H) => ((.inl (some (.int y.1)), y.2) : ab_R × ab_H)) 0 0 (fX12_law F x0 h) 0 [(0, .ref x0)] [] h := by
  unfold fX12_law
  refine ab_aload_n (pc := 0) (n := 0) (i := 0) (j := 0) (by decide +kernel) rfl rfl ?_
  refine ab_callVw (As := []) (st := []) (pc := 1) lk_X12_172_12 rfl rfl rfl (by decide) rfl (Nat.le_of_ble_eq_true rfl) (by decide +kernel) (fun y9 e9 => okX12_begins hl e9) (fun h1 eh1 => ?_)
  refine ab_aload_n (pc := 4) (n := 0) (i := 0) (j := 0) (by decide +kernel) rfl rfl ?_
  refine ab_iconst (pc := 5) (n := 1) (v := nI 1) (by decide +kernel) rfl ?_
  refine ab_callVj (As := [.int (nI 1)]) (st := []) (pc := 6) lk_X12_175_12 rfl rfl rfl (by decide) rfl (Nat.le_of_ble_eq_true rfl) (by decide +kernel) (fun y9 e9 => okX12_read hl (F := F) e9) (fun v2 ev2 => ?_)
  refine ab_istore_n (pc := 9) (n := 1) (i := 1) (lv' := [(0, .ref x0), (1, .int v2.1)]) (by decide +kernel) rfl (Nat.le_of_ble_eq_true rfl) rfl rfl ?_
  refine ab_aload_n (pc := 10) (n := 0) (i := 0) (j := 0) (by decide +kernel) rfl rfl ?_
  refine ab_aload_n (pc := 11) (n := 0) (i := 0) (j := 0) (by decide +kernel) rfl rfl ?_
  refine ab_getI (pc := 12) fl_X12_25_12 (by decide +kernel) (fun v3 ev3 => ?_)
  refine ab_iconst (pc := 15) (n := -1) (v := (-1 : Int32)) (by decide +kernel) rfl ?_
  refine ab_jr (fun k9 : Int32 → Option (Int32 × ab_H) => ∀ (z4 : Int32), ab_S l mX12_law (fun y : (Int32 × ab_H) => ((.inl (some (.int y.1)), y.2) : ab_R × ab_H)) 0 0 (k9 z4) 24 [(0, .ref x0), (1, .int v2.1)] [.int z4, .ref x0] v2.2) ?_ (fun j20 hj20 => ?_)
  · intro z4
    refine ab_put (pc := 24) fl_X12_50_12 rfl (fun _ => rfl) (fun _ => rfl) (by decide +kernel) (fun h5 eh5 => ?_)
    refine ab_aload_n (pc := 27) (n := 0) (i := 0) (j := 0) (by decide +kernel) rfl rfl ?_
    refine ab_getI (pc := 28) fl_X12_50_12 (by decide +kernel) (fun v6 ev6 => ?_)
    refine ab_if_le (off := 5) (pc := 31) (tgt := 36) (by decide +kernel) (by decide) (fun g7 => ?_) (fun g7 => ?_)
    · refine ab_aload_n (pc := 36) (n := 0) (i := 0) (j := 0) (by decide +kernel) rfl rfl ?_
      refine ab_getR (pc := 37) fl_X12_7_12 (by decide +kernel) (fun v8 ev8 => ?_)
      refine ab_iconst (pc := 40) (n := 1) (v := nI 1) (by decide +kernel) rfl ?_
      refine ab_iload_n (pc := 41) (n := 1) (i := 1) (j := 1) (by decide +kernel) rfl rfl ?_
      refine ab_iast (pc := 42) (by decide +kernel) (fun h9 eh9 => ?_)
      refine ab_aload_n (pc := 43) (n := 0) (i := 0) (j := 0) (by decide +kernel) rfl rfl ?_
      refine ab_getR (pc := 44) fl_X12_7_12 (by decide +kernel) (fun v10 ev10 => ?_)
      refine ab_iconst (pc := 47) (n := 2) (v := nI 2) (by decide +kernel) rfl ?_
      refine ab_aload_n (pc := 48) (n := 0) (i := 0) (j := 0) (by decide +kernel) rfl rfl ?_
      refine ab_getI (pc := 49) fl_X12_70_12 (by decide +kernel) (fun v11 ev11 => ?_)
      refine ab_iast (pc := 52) (by decide +kernel) (fun h12 eh12 => ?_)
      refine ab_iconst (pc := 53) (n := 0) (v := nI 0) (by decide +kernel) rfl ?_
      refine ab_istore_n (pc := 54) (n := 2) (i := 2) (lv' := [(0, .ref x0), (1, .int v2.1), (2, .int (nI 0))]) (by decide +kernel) rfl (Nat.le_of_ble_eq_true rfl) rfl rfl ?_
      refine lX12_law_55 hl F x0 v2.1 F (nI 0) h12
    · refine ab_iconst (pc := 34) (n := 0) (v := nI 0) (by decide +kernel) rfl ?_
      exact ab_iret (pc := 35) (by decide +kernel) rfl rfl (Nat.le_of_ble_eq_true rfl) (Nat.le_of_ble_eq_true rfl)
  · refine ab_icmp_eq (off := 7) (pc := 16) (tgt := 23) (by decide +kernel) (by decide) (fun g21 => ?_) (fun g21 => ?_)
    · refine ab_iconst (pc := 23) (n := 0) (v := nI 0) (by decide +kernel) rfl ?_
      exact hj20 (nI 0)
    · refine ab_iconst (pc := 19) (n := 1) (v := nI 1) (by decide +kernel) rfl ?_
      refine ab_goto (pc := 20) (off := 4) (tgt := 24) (by decide +kernel) (by decide) ?_
      exact hj20 (nI 1)
set_option maxRecDepth 100000 in
set_option maxHeartbeats 4000000 in
theorem okX12_law {l : Launch} (hl : l.stackTraces = false) {F : Nat} {x0 : Nat} {h : ab_H} {y : (Int32 × ab_H)} (e : fX12_law F x0 h = some y) : ab_Met l mX12_law [.ref x0] h (.inl (some (.int y.1)), y.2) := ab_ofS (io := (fun y : (Int32 × ab_H) => ((.inl (some (.int y.1)), y.2) : ab_R × ab_H))) (x := y) hl (by decide) rfl (Nat.le_of_ble_eq_true rfl) (wX12_law hl F x0 h) e
def mX12_asks : ab_M := (yX12_asks, cX12_asks, 6, none, { frames := 34, cells := 0, slots := 0, locals := 754 })
theorem iX12_asks : ab_MI mX12_asks 1 := ⟨kw_252f3ae5a7, kw_30b3f7d7c6, by decide +kernel⟩
def fX12_asks (F : Nat) (x0 : Nat) (x1 : Int32) (h : ab_H) : Option ab_H := ab_bd (ab_fw h x0 12 17 (.int (nI 0))) fun h1 => ab_bd (ab_fw h1 x0 12 18 (.int (nI 0))) fun h2 => ab_bd (ab_fr h2 x0 12 1) fun v3 => ab_bd (ab_ia 0 h2 v3 (nI 1)) fun v4 => (if v4 < (nI 1) then some h2 else ab_ck (ab_io h2 x0 12 = true) (ab_bd (fX12_of x0 x1 (nI 3) h2) fun v6 => ab_ck (ab_io h2 x0 12 = true) (ab_bd (fX12_of x0 x1 (nI 2) h2) fun v7 => ab_jn (κ := Int32 → Option ab_H) (fun (z8 : Int32) => ab_bd (ab_fr h2 x0 12 14) fun v9 => ab_bd (ab_iw 0 h2 v9 (nI 0) x1) fun h10 => ab_bd (ab_fr h10 x0 12 14) fun v11 => ab_bd (ab_fr h10 x0 12 1) fun v12 => ab_bd (ab_ia 0 h10 v12 (nI 5)) fun v13 => ab_bd (ab_iw 0 h10 v11 (nI 1) v13) fun h14 => ab_bd (ab_fr h14 x0 12 14) fun v15 => ab_jn (κ := Int32 → Option ab_H) (fun (z16 : Int32) => ab_bd (ab_iw 0 h14 v15 (nI 2) z16) fun h17 => ab_bd (ab_fr h17 x0 12 14) fun v18 => ab_jn (κ := Int32 → Option ab_H) (fun (z19 : Int32) => ab_bd (ab_iw 0 h17 v18 (nI 3) z19) fun h20 => ab_bd (ab_fr h20 x0 12 14) fun v21 => ab_ck (ab_io h20 x0 12 = true) (ab_bd (fX12_hung F x0 h20) fun v22 => ab_bd (ab_iw 0 h20 v21 (nI 4) v22) fun h23 => ab_bd (ab_fr h23 x0 12 14) fun v24 => ab_bd (ab_fr h23 x0 12 1) fun v25 => ab_bd (ab_ia 0 h23 v25 (nI 4)) fun v26 => ab_ck (ab_io h23 x0 12 = true) (ab_bd (fX12_hung F x0 h23) fun v27 => ab_bd (ab_iw 0 h23 v24 (nI 5) (v26 - v27)) fun h28 => ab_jn (κ := Int32 → Option ab_H) (fun (z29 : Int32) => ab_cb z29 (ab_bd (ab_fw h28 x0 12 15 (.int z29)) fun h30 => ab_ck (ab_io h30 x0 12 = true) (ab_bd (fX12_of x0 x1 (nI 4) h30) fun v31 => ab_jn (κ := Int32 → Option ab_H) (fun (z32 : Int32) => ab_cb z32 (ab_bd (ab_fw h30 x0 12 16 (.int z32)) fun h33 => ab_bd (ab_fi h33 x0 12 12) fun v34 => ab_bd (ab_fw h33 x0 12 12 (.int (-1 : Int32))) fun h35 => ab_bd (ab_fw h35 x0 12 9 (.int (nI 584))) fun h36 => ab_bd (ab_fr h36 x0 12 1) fun v37 => ab_bd (ab_ia 0 h36 v37 (nI 2)) fun v38 => ab_bd (ab_fw h36 x0 12 10 (.int v38)) fun h39 => ab_bd (ab_fw h39 x0 12 11 (.int (nI 0))) fun h40 => ab_bd (ab_fw h40 x0 12 13 (.int (nI 0))) fun h41 => ab_ck (ab_io h41 x0 12 = true) (ab_bd (fX12_read F x0 (nI 1) h41) fun v42 => ab_bd (ab_fw v42.2 x0 12 12 (.int v34)) fun h43 => some h43))) fun j45 => (if v31 = (-1 : Int32) then j45 (nI 0) else j45 (nI 1))))) fun j48 => (if z8 = x1 then j48 (nI 1) else j48 (nI 0))))) fun j50 => (if z8 = (-1 : Int32) then j50 (nI 0) else ab_ck (ab_io h17 x0 12 = true) (ab_bd (fX12_of x0 z8 (nI 0) h17) fun v52 => ab_bd (fX12_bits F v52 h17) fun v53 => j50 v53))) fun j54 => (if v6 = (-1 : Int32) then j54 (nI 99) else j54 v6)) fun j56 => (if v7 = (-1 : Int32) then (if v6 = (-1 : Int32) then j56 (-1 : Int32) else ab_bd (ab_fr h2 x0 12 1) fun v59 => ab_bd (ab_ia 0 h2 v59 ((nI 272) + v6)) fun v60 => j56 v60) else ab_ck (ab_io h2 x0 12 = true) (ab_bd (fX12_of x0 x1 (nI 2) h2) fun v61 => j56 v61)))))
set_option maxRecDepth 100000 in
set_option maxHeartbeats 4000000 in
theorem wX12_asks {l : Launch} (hl : l.stackTraces = false) (F : Nat) (x0 : Nat) (x1 : Int32) (h : ab_H) : ab_S l mX12_asks (fun y : ab_H => ((.inl none, y) : ab_R × ab_H)) 0 0 (fX12_asks F x0 x1 h) 0 [(0, .ref x0), (1, .int x1)] [] h := by
  unfold fX12_asks
  refine ab_aload_n (pc := 0) (n := 0) (i := 0) (j := 0) (by decide +kernel) rfl rfl ?_
  refine ab_iconst (pc := 1) (n := 0) (v := nI 0) (by decide +kernel) rfl ?_
  refine ab_put (pc := 2) fl_X12_236_12 rfl (fun _ => ab_bl0.1) (fun _ => ab_bl0.2) (by decide +kernel) (fun h1 eh1 => ?_)
  refine ab_aload_n (pc := 5) (n := 0) (i := 0) (j := 0) (by decide +kernel) rfl rfl ?_
  refine ab_iconst (pc := 6) (n := 0) (v := nI 0) (by decide +kernel) rfl ?_
  refine ab_put (pc := 7) fl_X12_239_12 rfl (fun _ => ab_bl0.1) (fun _ => ab_bl0.2) (by decide +kernel) (fun h2 eh2 => ?_)
  refine ab_aload_n (pc := 10) (n := 0) (i := 0) (j := 0) (by decide +kernel) rfl rfl ?_
  refine ab_getR (pc := 11) fl_X12_7_12 (by decide +kernel) (fun v3 ev3 => ?_)
  refine ab_iconst (pc := 14) (n := 1) (v := nI 1) (by decide +kernel) rfl ?_
  refine ab_iald (pc := 15) (by decide +kernel) (fun v4 ev4 => ?_)
  refine ab_iconst (pc := 16) (n := 1) (v := nI 1) (by decide +kernel) rfl ?_
  refine ab_icmp_ge (off := 4) (pc := 17) (tgt := 21) (by decide +kernel) (by decide) (fun g5 => ?_) (fun g5 => ?_)
  · exact ab_vret (pc := 20) (by decide +kernel) rfl rfl (Nat.le_of_ble_eq_true rfl) (Nat.le_of_ble_eq_true rfl)
  · refine ab_aload_n (pc := 21) (n := 0) (i := 0) (j := 0) (by decide +kernel) rfl rfl ?_
    refine ab_iload_n (pc := 22) (n := 1) (i := 1) (j := 1) (by decide +kernel) rfl rfl ?_
    refine ab_iconst (pc := 23) (n := 3) (v := nI 3) (by decide +kernel) rfl ?_
    refine ab_callVi (As := [.int x1, .int (nI 3)]) (st := []) (pc := 24) lk_X12_57_12 rfl rfl rfl (by decide) rfl (Nat.le_of_ble_eq_true rfl) (by decide +kernel) (fun y9 e9 => okX12_of hl e9) (fun v6 ev6 => ?_)
    refine ab_istore_n (pc := 27) (n := 2) (i := 2) (lv' := [(0, .ref x0), (1, .int x1), (2, .int v6)]) (by decide +kernel) rfl (Nat.le_of_ble_eq_true rfl) rfl rfl ?_
    refine ab_aload_n (pc := 28) (n := 0) (i := 0) (j := 0) (by decide +kernel) rfl rfl ?_
    refine ab_iload_n (pc := 29) (n := 1) (i := 1) (j := 1) (by decide +kernel) rfl rfl ?_
    refine ab_iconst (pc := 30) (n := 2) (v := nI 2) (by decide +kernel) rfl ?_
    refine ab_callVi (As := [.int x1, .int (nI 2)]) (st := []) (pc := 31) lk_X12_57_12 rfl rfl rfl (by decide) rfl (Nat.le_of_ble_eq_true rfl) (by decide +kernel) (fun y9 e9 => okX12_of hl e9) (fun v7 ev7 => ?_)
    refine ab_iconst (pc := 34) (n := -1) (v := (-1 : Int32)) (by decide +kernel) rfl ?_
    refine ab_jr (fun k9 : Int32 → Option ab_H => ∀ (z8 : Int32), ab_S l mX12_asks (fun y : ab_H => ((.inl none, y) : ab_R × ab_H)) 0 0 (k9 z8) 66 [(0, .ref x0), (1, .int x1), (2, .int v6)] [.int z8] h2) ?_ (fun j56 hj56 => ?_)
    · intro z8
      refine ab_istore_n (pc := 66) (n := 3) (i := 3) (lv' := [(0, .ref x0), (1, .int x1), (2, .int v6), (3, .int z8)]) (by decide +kernel) rfl (Nat.le_of_ble_eq_true rfl) rfl rfl ?_
      refine ab_aload_n (pc := 67) (n := 0) (i := 0) (j := 0) (by decide +kernel) rfl rfl ?_
      refine ab_getR (pc := 68) fl_X12_29_12 (by decide +kernel) (fun v9 ev9 => ?_)
      refine ab_iconst (pc := 71) (n := 0) (v := nI 0) (by decide +kernel) rfl ?_
      refine ab_iload_n (pc := 72) (n := 1) (i := 1) (j := 1) (by decide +kernel) rfl rfl ?_
      refine ab_iast (pc := 73) (by decide +kernel) (fun h10 eh10 => ?_)
      refine ab_aload_n (pc := 74) (n := 0) (i := 0) (j := 0) (by decide +kernel) rfl rfl ?_
      refine ab_getR (pc := 75) fl_X12_29_12 (by decide +kernel) (fun v11 ev11 => ?_)
      refine ab_iconst (pc := 78) (n := 1) (v := nI 1) (by decide +kernel) rfl ?_
      refine ab_aload_n (pc := 79) (n := 0) (i := 0) (j := 0) (by decide +kernel) rfl rfl ?_
      refine ab_getR (pc := 80) fl_X12_7_12 (by decide +kernel) (fun v12 ev12 => ?_)
      refine ab_iconst (pc := 83) (n := 5) (v := nI 5) (by decide +kernel) rfl ?_
      refine ab_iald (pc := 84) (by decide +kernel) (fun v13 ev13 => ?_)
      refine ab_iast (pc := 85) (by decide +kernel) (fun h14 eh14 => ?_)
      refine ab_aload_n (pc := 86) (n := 0) (i := 0) (j := 0) (by decide +kernel) rfl rfl ?_
      refine ab_getR (pc := 87) fl_X12_29_12 (by decide +kernel) (fun v15 ev15 => ?_)
      refine ab_iconst (pc := 90) (n := 2) (v := nI 2) (by decide +kernel) rfl ?_
      refine ab_iload_n (pc := 91) (n := 2) (i := 2) (j := 2) (by decide +kernel) rfl rfl ?_
      refine ab_iconst (pc := 92) (n := -1) (v := (-1 : Int32)) (by decide +kernel) rfl ?_
      refine ab_jr (fun k9 : Int32 → Option ab_H => ∀ (z16 : Int32), ab_S l mX12_asks (fun y : ab_H => ((.inl none, y) : ab_R × ab_H)) 0 0 (k9 z16) 102 [(0, .ref x0), (1, .int x1), (3, .int z8)] [.int z16, .int (nI 2), .ref v15] h14) ?_ (fun j54 hj54 => ?_)
      · intro z16
        refine ab_iast (pc := 102) (by decide +kernel) (fun h17 eh17 => ?_)
        refine ab_aload_n (pc := 103) (n := 0) (i := 0) (j := 0) (by decide +kernel) rfl rfl ?_
        refine ab_getR (pc := 104) fl_X12_29_12 (by decide +kernel) (fun v18 ev18 => ?_)
        refine ab_iconst (pc := 107) (n := 3) (v := nI 3) (by decide +kernel) rfl ?_
        refine ab_iload_n (pc := 108) (n := 3) (i := 3) (j := 2) (by decide +kernel) rfl rfl ?_
        refine ab_iconst (pc := 109) (n := -1) (v := (-1 : Int32)) (by decide +kernel) rfl ?_
        refine ab_jr (fun k9 : Int32 → Option ab_H => ∀ (z19 : Int32), ab_S l mX12_asks (fun y : ab_H => ((.inl none, y) : ab_R × ab_H)) 0 0 (k9 z19) 126 [(0, .ref x0), (1, .int x1), (3, .int z8)] [.int z19, .int (nI 3), .ref v18] h17) ?_ (fun j50 hj50 => ?_)
        · intro z19
          refine ab_iast (pc := 126) (by decide +kernel) (fun h20 eh20 => ?_)
          refine ab_aload_n (pc := 127) (n := 0) (i := 0) (j := 0) (by decide +kernel) rfl rfl ?_
          refine ab_getR (pc := 128) fl_X12_29_12 (by decide +kernel) (fun v21 ev21 => ?_)
          refine ab_iconst (pc := 131) (n := 4) (v := nI 4) (by decide +kernel) rfl ?_
          refine ab_aload_n (pc := 132) (n := 0) (i := 0) (j := 0) (by decide +kernel) rfl rfl ?_
          refine ab_callVi (As := []) (st := [.int (nI 4), .ref v21]) (pc := 133) lk_X12_245_12 rfl rfl rfl (by decide) rfl (Nat.le_of_ble_eq_true rfl) (by decide +kernel) (fun y9 e9 => okX12_hung hl (F := F) e9) (fun v22 ev22 => ?_)
          refine ab_iast (pc := 136) (by decide +kernel) (fun h23 eh23 => ?_)
          refine ab_aload_n (pc := 137) (n := 0) (i := 0) (j := 0) (by decide +kernel) rfl rfl ?_
          refine ab_getR (pc := 138) fl_X12_29_12 (by decide +kernel) (fun v24 ev24 => ?_)
          refine ab_iconst (pc := 141) (n := 5) (v := nI 5) (by decide +kernel) rfl ?_
          refine ab_aload_n (pc := 142) (n := 0) (i := 0) (j := 0) (by decide +kernel) rfl rfl ?_
          refine ab_getR (pc := 143) fl_X12_7_12 (by decide +kernel) (fun v25 ev25 => ?_)
          refine ab_iconst (pc := 146) (n := 4) (v := nI 4) (by decide +kernel) rfl ?_
          refine ab_iald (pc := 147) (by decide +kernel) (fun v26 ev26 => ?_)
          refine ab_aload_n (pc := 148) (n := 0) (i := 0) (j := 0) (by decide +kernel) rfl rfl ?_
          refine ab_callVi (As := []) (st := [.int v26, .int (nI 5), .ref v24]) (pc := 149) lk_X12_245_12 rfl rfl rfl (by decide) rfl (Nat.le_of_ble_eq_true rfl) (by decide +kernel) (fun y9 e9 => okX12_hung hl (F := F) e9) (fun v27 ev27 => ?_)
          refine ab_isub (pc := 152) (by decide +kernel) ?_
          refine ab_iast (pc := 153) (by decide +kernel) (fun h28 eh28 => ?_)
          refine ab_aload_n (pc := 154) (n := 0) (i := 0) (j := 0) (by decide +kernel) rfl rfl ?_
          refine ab_iload_n (pc := 155) (n := 3) (i := 3) (j := 2) (by decide +kernel) rfl rfl ?_
          refine ab_iload_n (pc := 156) (n := 1) (i := 1) (j := 1) (by decide +kernel) rfl rfl ?_
          refine ab_jr (fun k9 : Int32 → Option ab_H => ∀ (z29 : Int32), ab_S l mX12_asks (fun y : ab_H => ((.inl none, y) : ab_R × ab_H)) 0 0 (k9 z29) 165 [(0, .ref x0), (1, .int x1)] [.int z29, .ref x0] h28) ?_ (fun j48 hj48 => ?_)
          · intro z29
            refine ab_cbr (fun b47 => ?_)
            refine ab_put (pc := 165) fl_X12_202_12 rfl (fun _ => b47.1) (fun _ => b47.2) (by decide +kernel) (fun h30 eh30 => ?_)
            refine ab_aload_n (pc := 168) (n := 0) (i := 0) (j := 0) (by decide +kernel) rfl rfl ?_
            refine ab_aload_n (pc := 169) (n := 0) (i := 0) (j := 0) (by decide +kernel) rfl rfl ?_
            refine ab_iload_n (pc := 170) (n := 1) (i := 1) (j := 1) (by decide +kernel) rfl rfl ?_
            refine ab_iconst (pc := 171) (n := 4) (v := nI 4) (by decide +kernel) rfl ?_
            refine ab_callVi (As := [.int x1, .int (nI 4)]) (st := [.ref x0]) (pc := 172) lk_X12_57_12 rfl rfl rfl (by decide) rfl (Nat.le_of_ble_eq_true rfl) (by decide +kernel) (fun y9 e9 => okX12_of hl e9) (fun v31 ev31 => ?_)
            refine ab_iconst (pc := 175) (n := -1) (v := (-1 : Int32)) (by decide +kernel) rfl ?_
            refine ab_jr (fun k9 : Int32 → Option ab_H => ∀ (z32 : Int32), ab_S l mX12_asks (fun y : ab_H => ((.inl none, y) : ab_R × ab_H)) 0 0 (k9 z32) 184 [(0, .ref x0)] [.int z32, .ref x0] h30) ?_ (fun j45 hj45 => ?_)
            · intro z32
              refine ab_cbr (fun b44 => ?_)
              refine ab_put (pc := 184) fl_X12_206_12 rfl (fun _ => b44.1) (fun _ => b44.2) (by decide +kernel) (fun h33 eh33 => ?_)
              refine ab_aload_n (pc := 187) (n := 0) (i := 0) (j := 0) (by decide +kernel) rfl rfl ?_
              refine ab_getI (pc := 188) fl_X12_25_12 (by decide +kernel) (fun v34 ev34 => ?_)
              refine ab_istore (pc := 191) (i := 4) (lv' := [(0, .ref x0), (4, .int v34)]) (by decide +kernel) (Nat.le_of_ble_eq_true rfl) rfl rfl ?_
              refine ab_aload_n (pc := 193) (n := 0) (i := 0) (j := 0) (by decide +kernel) rfl rfl ?_
              refine ab_iconst (pc := 194) (n := -1) (v := (-1 : Int32)) (by decide +kernel) rfl ?_
              refine ab_put (pc := 195) fl_X12_25_12 rfl (fun _ => rfl) (fun _ => rfl) (by decide +kernel) (fun h35 eh35 => ?_)
              refine ab_aload_n (pc := 198) (n := 0) (i := 0) (j := 0) (by decide +kernel) rfl rfl ?_
              refine ab_sipush (pc := 199) (n := 584) (v := nI 584) (by decide +kernel) (by decide) ?_
              refine ab_put (pc := 202) fl_X12_64_12 rfl (fun _ => rfl) (fun _ => rfl) (by decide +kernel) (fun h36 eh36 => ?_)
              refine ab_aload_n (pc := 205) (n := 0) (i := 0) (j := 0) (by decide +kernel) rfl rfl ?_
              refine ab_aload_n (pc := 206) (n := 0) (i := 0) (j := 0) (by decide +kernel) rfl rfl ?_
              refine ab_getR (pc := 207) fl_X12_7_12 (by decide +kernel) (fun v37 ev37 => ?_)
              refine ab_iconst (pc := 210) (n := 2) (v := nI 2) (by decide +kernel) rfl ?_
              refine ab_iald (pc := 211) (by decide +kernel) (fun v38 ev38 => ?_)
              refine ab_put (pc := 212) fl_X12_70_12 rfl (fun _ => rfl) (fun _ => rfl) (by decide +kernel) (fun h39 eh39 => ?_)
              refine ab_aload_n (pc := 215) (n := 0) (i := 0) (j := 0) (by decide +kernel) rfl rfl ?_
              refine ab_iconst (pc := 216) (n := 0) (v := nI 0) (by decide +kernel) rfl ?_
              refine ab_put (pc := 217) fl_X12_67_12 rfl (fun _ => rfl) (fun _ => rfl) (by decide +kernel) (fun h40 eh40 => ?_)
              refine ab_aload_n (pc := 220) (n := 0) (i := 0) (j := 0) (by decide +kernel) rfl rfl ?_
              refine ab_iconst (pc := 221) (n := 0) (v := nI 0) (by decide +kernel) rfl ?_
              refine ab_put (pc := 222) fl_X12_157_12 rfl (fun _ => rfl) (fun _ => rfl) (by decide +kernel) (fun h41 eh41 => ?_)
              refine ab_aload_n (pc := 225) (n := 0) (i := 0) (j := 0) (by decide +kernel) rfl rfl ?_
              refine ab_iconst (pc := 226) (n := 1) (v := nI 1) (by decide +kernel) rfl ?_
              refine ab_callVj (As := [.int (nI 1)]) (st := []) (pc := 227) lk_X12_175_12 rfl rfl rfl (by decide) rfl (Nat.le_of_ble_eq_true rfl) (by decide +kernel) (fun y9 e9 => okX12_read hl (F := F) e9) (fun v42 ev42 => ?_)
              refine ab_istore (pc := 230) (i := 5) (lv' := [(0, .ref x0), (4, .int v34), (5, .int v42.1)]) (by decide +kernel) (Nat.le_of_ble_eq_true rfl) rfl rfl ?_
              refine ab_aload_n (pc := 232) (n := 0) (i := 0) (j := 0) (by decide +kernel) rfl rfl ?_
              refine ab_iload (pc := 233) (i := 4) (j := 1) (by decide +kernel) rfl ?_
              refine ab_put (pc := 235) fl_X12_25_12 rfl (fun _ => rfl) (fun _ => rfl) (by decide +kernel) (fun h43 eh43 => ?_)
              exact ab_vret (pc := 238) (by decide +kernel) rfl rfl (Nat.le_of_ble_eq_true rfl) (Nat.le_of_ble_eq_true rfl)
            · refine ab_icmp_eq (off := 7) (pc := 176) (tgt := 183) (by decide +kernel) (by decide) (fun g46 => ?_) (fun g46 => ?_)
              · refine ab_iconst (pc := 183) (n := 0) (v := nI 0) (by decide +kernel) rfl ?_
                refine ab_few [0] (lv' := [(0, .ref x0)]) rfl ?_
                exact hj45 (nI 0)
              · refine ab_iconst (pc := 179) (n := 1) (v := nI 1) (by decide +kernel) rfl ?_
                refine ab_goto (pc := 180) (off := 4) (tgt := 184) (by decide +kernel) (by decide) ?_
                refine ab_few [0] (lv' := [(0, .ref x0)]) rfl ?_
                exact hj45 (nI 1)
          · refine ab_icmp_ne (off := 7) (pc := 157) (tgt := 164) (by decide +kernel) (by decide) (fun g49 => ?_) (fun g49 => ?_)
            · refine ab_iconst (pc := 160) (n := 1) (v := nI 1) (by decide +kernel) rfl ?_
              refine ab_goto (pc := 161) (off := 4) (tgt := 165) (by decide +kernel) (by decide) ?_
              refine ab_few [0, 1] (lv' := [(0, .ref x0), (1, .int x1)]) rfl ?_
              exact hj48 (nI 1)
            · refine ab_iconst (pc := 164) (n := 0) (v := nI 0) (by decide +kernel) rfl ?_
              refine ab_few [0, 1] (lv' := [(0, .ref x0), (1, .int x1)]) rfl ?_
              exact hj48 (nI 0)
        · refine ab_icmp_ne (off := 7) (pc := 110) (tgt := 117) (by decide +kernel) (by decide) (fun g51 => ?_) (fun g51 => ?_)
          · refine ab_iconst (pc := 113) (n := 0) (v := nI 0) (by decide +kernel) rfl ?_
            refine ab_goto (pc := 114) (off := 12) (tgt := 126) (by decide +kernel) (by decide) ?_
            exact hj50 (nI 0)
          · refine ab_aload_n (pc := 117) (n := 0) (i := 0) (j := 0) (by decide +kernel) rfl rfl ?_
            refine ab_iload_n (pc := 118) (n := 3) (i := 3) (j := 2) (by decide +kernel) rfl rfl ?_
            refine ab_iconst (pc := 119) (n := 0) (v := nI 0) (by decide +kernel) rfl ?_
            refine ab_callVi (As := [.int z8, .int (nI 0)]) (st := [.int (nI 3), .ref v18]) (pc := 120) lk_X12_57_12 rfl rfl rfl (by decide) rfl (Nat.le_of_ble_eq_true rfl) (by decide +kernel) (fun y9 e9 => okX12_of hl e9) (fun v52 ev52 => ?_)
            refine ab_callSi (As := [.int v52]) (st := [.int (nI 3), .ref v18]) (pc := 123) lk_X12_242 rfl rfl rfl (by decide) rfl (Nat.le_of_ble_eq_true rfl) (by decide +kernel) (fun y9 e9 => okX12_bits hl (F := F) e9) (fun v53 ev53 => ?_)
            exact hj50 v53
      · refine ab_icmp_ne (off := 8) (pc := 93) (tgt := 101) (by decide +kernel) (by decide) (fun g55 => ?_) (fun g55 => ?_)
        · refine ab_bipush (pc := 96) (n := 99) (v := nI 99) (by decide +kernel) (by decide) ?_
          refine ab_goto (pc := 98) (off := 4) (tgt := 102) (by decide +kernel) (by decide) ?_
          refine ab_few [0, 1, 3] (lv' := [(0, .ref x0), (1, .int x1), (3, .int z8)]) rfl ?_
          exact hj54 (nI 99)
        · refine ab_iload_n (pc := 101) (n := 2) (i := 2) (j := 2) (by decide +kernel) rfl rfl ?_
          refine ab_few [0, 1, 3] (lv' := [(0, .ref x0), (1, .int x1), (3, .int z8)]) rfl ?_
          exact hj54 v6
    · refine ab_icmp_eq (off := 12) (pc := 35) (tgt := 47) (by decide +kernel) (by decide) (fun g57 => ?_) (fun g57 => ?_)
      · refine ab_iload_n (pc := 47) (n := 2) (i := 2) (j := 2) (by decide +kernel) rfl rfl ?_
        refine ab_iconst (pc := 48) (n := -1) (v := (-1 : Int32)) (by decide +kernel) rfl ?_
        refine ab_icmp_ne (off := 7) (pc := 49) (tgt := 56) (by decide +kernel) (by decide) (fun g58 => ?_) (fun g58 => ?_)
        · refine ab_iconst (pc := 52) (n := -1) (v := (-1 : Int32)) (by decide +kernel) rfl ?_
          refine ab_goto (pc := 53) (off := 13) (tgt := 66) (by decide +kernel) (by decide) ?_
          exact hj56 (-1 : Int32)
        · refine ab_aload_n (pc := 56) (n := 0) (i := 0) (j := 0) (by decide +kernel) rfl rfl ?_
          refine ab_getR (pc := 57) fl_X12_7_12 (by decide +kernel) (fun v59 ev59 => ?_)
          refine ab_sipush (pc := 60) (n := 272) (v := nI 272) (by decide +kernel) (by decide) ?_
          refine ab_iload_n (pc := 63) (n := 2) (i := 2) (j := 2) (by decide +kernel) rfl rfl ?_
          refine ab_iadd (pc := 64) (by decide +kernel) ?_
          refine ab_iald (pc := 65) (by decide +kernel) (fun v60 ev60 => ?_)
          exact hj56 v60
      · refine ab_aload_n (pc := 38) (n := 0) (i := 0) (j := 0) (by decide +kernel) rfl rfl ?_
        refine ab_iload_n (pc := 39) (n := 1) (i := 1) (j := 1) (by decide +kernel) rfl rfl ?_
        refine ab_iconst (pc := 40) (n := 2) (v := nI 2) (by decide +kernel) rfl ?_
        refine ab_callVi (As := [.int x1, .int (nI 2)]) (st := []) (pc := 41) lk_X12_57_12 rfl rfl rfl (by decide) rfl (Nat.le_of_ble_eq_true rfl) (by decide +kernel) (fun y9 e9 => okX12_of hl e9) (fun v61 ev61 => ?_)
        refine ab_goto (pc := 44) (off := 22) (tgt := 66) (by decide +kernel) (by decide) ?_
        exact hj56 v61
set_option maxRecDepth 100000 in
set_option maxHeartbeats 4000000 in
theorem okX12_asks {l : Launch} (hl : l.stackTraces = false) {F : Nat} {x0 : Nat} {x1 : Int32} {h : ab_H} {y : ab_H} (e : fX12_asks F x0 x1 h = some y) : ab_Met l mX12_asks [.ref x0, .int x1] h (.inl none, y) := ab_ofS (io := (fun y : ab_H => ((.inl none, y) : ab_R × ab_H))) (x := y) hl (by decide) rfl (Nat.le_of_ble_eq_true rfl) (wX12_asks hl F x0 x1 h) e
def mX12_hour : ab_M := (yX12_hour, cX12_hour, 6, (some .int), { frames := 35, cells := 0, slots := 0, locals := 779 })
theorem iX12_hour : ab_MI mX12_hour 0 := ⟨kw_47dad5bcef, kw_30b3f7d7c6, by decide +kernel⟩
theorem lk_X12_297_12 : ab_LV RX12 297 12 mX12_asks 1 := ⟨RX12, rfl, iX12_asks, kw_cfb8f9c4e2, kw_8c3643e11f, kw_5777e5c4f1⟩
theorem lk_X12_300_12 : ab_LV RX12 300 12 mX12_freeHook 0 := ⟨RX12, rfl, iX12_freeHook, kw_168821bbb2, kw_11c298297c, kw_0523cccab4⟩
theorem lk_X12_306_12 : ab_LV RX12 306 12 mX12_holder 2 := ⟨RX12, rfl, iX12_holder, kw_ebccb7270c, kw_1762b3d81e, kw_9ed9e4b28a⟩
theorem lk_X12_309_12 : ab_LV RX12 309 12 mX12_robs 0 := ⟨RX12, rfl, iX12_robs, kw_88f7264ecf, kw_c63aa803d7, kw_ccbdc19f37⟩
def fX12_hour_4 (F : Nat) (x0 : Nat) (k124 : Int32 → ab_H → Option (Int32 × ab_H)) : Nat → Int32 → Int32 → ab_H → Option (Int32 × ab_H)
  | 0, _, _, _ => none
  | n + 1, x1, x2, h => ab_bd (ab_fr h x0 12 1) fun v1 => ab_bd (ab_ia 0 h v1 (nI 3)) fun v2 => (if x2 < v2 then ab_ck (ab_io h x0 12 = true) (ab_bd (fX12_of x0 x2 (nI 2) h) fun v4 => ab_jn (κ := Int32 → Option (Int32 × ab_H)) (fun (z5 : Int32) => ab_ck (ab_io h x0 12 = true) (ab_bd (fX12_of x0 x2 (nI 3) h) fun v6 => ab_jn (κ := Int32 → Option (Int32 × ab_H)) (fun (z7 : Int32) => (if z5 = z7 then fX12_hour_4 F x0 k124 n x1 (x2 + nI 1) h else ab_ck (ab_io h x0 12 = true) (ab_bd (fX12_asks F x0 x2 h) fun h9 => ab_jn (κ := Option (Int32 × ab_H)) ((if z5 = 0 then ab_bd (ab_fi h9 x0 12 18) fun v11 => (if v11 = 0 then fX12_hour_4 F x0 k124 n x1 (x2 + nI 1) h9 else ab_ck (ab_io h9 x0 12 = true) (ab_bd (fX12_gets F x0 x2 h9) fun v13 => fX12_hour_4 F x0 k124 n (x1 + nI 1) (x2 + nI 1) v13.2)) else fX12_hour_4 F x0 k124 n x1 (x2 + nI 1) h9)) fun j14 => (if z5 = 0 then j14 else ab_bd (ab_fi h9 x0 12 17) fun v16 => (if v16 = 0 then j14 else ab_ck (ab_io h9 x0 12 = true) (ab_bd (fX12_freeHook F x0 h9) fun v18 => (if v18 = (-1 : Int32) then j14 else ab_ck (ab_io h9 x0 12 = true) (ab_bd (fX12_freeHook F x0 h9) fun v20 => ab_ck (ab_io h9 x0 12 = true) (ab_bd (fX12_handsIn F x0 x2 v20 h9) fun v21 => fX12_hour_4 F x0 k124 n (x1 + nI 1) (x2 + nI 1) v21.2))))))))) fun j22 => (if v6 = (-1 : Int32) then j22 (nI 0) else j22 (nI 1)))) fun j24 => (if v4 = (-1 : Int32) then j24 (nI 0) else j24 (nI 1))) else k124 x1 h)
def fX12_hour (F : Nat) (x0 : Nat) (h : ab_H) : Option (Int32 × ab_H) := fX12_hour_4 F x0 (fun (z26 : Int32) (h27 : ab_H) => ab_ck (ab_io h27 x0 12 = true) (ab_bd (fX12_draw x0 (nI 100) h27) fun v28 => ab_bd (ab_fr v28.2 x0 12 1) fun v29 => ab_bd (ab_ia 0 v28.2 v29 (nI 6)) fun v30 => ab_jn (κ := Int32 → Option (Int32 × ab_H)) (fun (z31 : Int32) => ab_ck (ab_io v28.2 x0 12 = true) (ab_bd (fX12_holders F x0 v28.2) fun v32 => ab_bd (fX12_bits F v32 v28.2) fun v33 => ab_jn (κ := ab_H → Option (Int32 × ab_H)) (fun (h34 : ab_H) => ab_ck (ab_io h34 x0 12 = true) (ab_bd (fX12_draw x0 (nI 100) h34) fun v35 => ab_bd (ab_fr v35.2 x0 12 1) fun v36 => ab_bd (ab_ia 0 v35.2 v36 (nI 7)) fun v37 => ab_jn (κ := ab_H → Option (Int32 × ab_H)) (fun (h38 : ab_H) => ab_bd (ab_fr h38 x0 12 1) fun v39 => ab_bd (ab_ia 0 h38 v39 (nI 5)) fun v40 => ab_bd (ab_iw 0 h38 v39 (nI 5) (v40 + (nI 1))) fun h41 => some (z26, h41)) fun j42 => (if v35.1 < v37 then ab_ck (ab_io v35.2 x0 12 = true) (ab_bd (fX12_hung F x0 v35.2) fun v44 => (if v44 ≤ 0 then j42 v35.2 else ab_ck (ab_io v35.2 x0 12 = true) (ab_bd (fX12_robs F x0 v35.2) fun h46 => j42 h46))) else j42 v35.2))) fun j47 => (if z31 = 0 then j47 v28.2 else (if v33 ≤ (nI 1) then j47 v28.2 else ab_ck (ab_io v28.2 x0 12 = true) (ab_bd (fX12_draw x0 v33 v28.2) fun v50 => ab_ck (ab_io v50.2 x0 12 = true) (ab_bd (fX12_holder F x0 v50.1 (-1 : Int32) v50.2) fun v51 => ab_ck (ab_io v50.2 x0 12 = true) (ab_bd (fX12_draw x0 (v33 - (nI 1)) v50.2) fun v52 => ab_ck (ab_io v52.2 x0 12 = true) (ab_bd (fX12_holder F x0 v52.1 v51 v52.2) fun v53 => ab_ck (ab_io v52.2 x0 12 = true) (ab_bd (fX12_mixes F x0 v51 v53 v52.2) fun h54 => j47 h54))))))))) fun j55 => (if v28.1 < v30 then j55 (nI 1) else j55 (nI 0)))) F (nI 0) (nI 0) h
set_option maxRecDepth 100000 in
set_option maxHeartbeats 4000000 in
theorem lX12_hour_4 {l : Launch} (hl : l.stackTraces = false) (F : Nat) (x0 : Nat) {k124 : Int32 → ab_H → Option (Int32 × ab_H)} (hk124 : ∀ (x1 : Int32), ∀ (h : ab_H), ab_S l mX12_hour (fun y : (Int32 × ab_H) => ((.inl (some (.int y.1)), y.2) : ab_R × ab_H)) 0 0 (k124 x1 h) 124 [(0, .ref x0), (1, .int x1)] [] h) : ∀ (n : Nat) (x1 : Int32) (x2 : Int32) (h : ab_H), ab_S l mX12_hour (fun y : (Int32 × ab_H) => ((.inl (some (.int y.1)), y.2) : ab_R × ab_H)) 0 0 (fX12_hour_4 F x0 k124 n x1 x2 h) 4 [(0, .ref x0), (1, .int x1), (2, .int x2)] [] h := by
  intro n
  induction n with
  | zero =>
    intro x1 x2 h
    exact ab_none
  | succ n ih =>
    intro x1 x2 h
    rw [fX12_hour_4]
    refine ab_iload_n (pc := 4) (n := 2) (i := 2) (j := 2) (by decide +kernel) rfl rfl ?_
    refine ab_aload_n (pc := 5) (n := 0) (i := 0) (j := 0) (by decide +kernel) rfl rfl ?_
    refine ab_getR (pc := 6) fl_X12_7_12 (by decide +kernel) (fun v1 ev1 => ?_)
    refine ab_iconst (pc := 9) (n := 3) (v := nI 3) (by decide +kernel) rfl ?_
    refine ab_iald (pc := 10) (by decide +kernel) (fun v2 ev2 => ?_)
    refine ab_icmp_ge (off := 113) (pc := 11) (tgt := 124) (by decide +kernel) (by decide) (fun g3 => ?_) (fun g3 => ?_)
    · refine ab_aload_n (pc := 14) (n := 0) (i := 0) (j := 0) (by decide +kernel) rfl rfl ?_
      refine ab_iload_n (pc := 15) (n := 2) (i := 2) (j := 2) (by decide +kernel) rfl rfl ?_
      refine ab_iconst (pc := 16) (n := 2) (v := nI 2) (by decide +kernel) rfl ?_
      refine ab_callVi (As := [.int x2, .int (nI 2)]) (st := []) (pc := 17) lk_X12_57_12 rfl rfl rfl (by decide) rfl (Nat.le_of_ble_eq_true rfl) (by decide +kernel) (fun y9 e9 => okX12_of hl e9) (fun v4 ev4 => ?_)
      refine ab_iconst (pc := 20) (n := -1) (v := (-1 : Int32)) (by decide +kernel) rfl ?_
      refine ab_jr (fun k9 : Int32 → Option (Int32 × ab_H) => ∀ (z5 : Int32), ab_S l mX12_hour (fun y : (Int32 × ab_H) => ((.inl (some (.int y.1)), y.2) : ab_R × ab_H)) 0 0 (k9 z5) 29 [(0, .ref x0), (1, .int x1), (2, .int x2)] [.int z5] h) ?_ (fun j24 hj24 => ?_)
      · intro z5
        refine ab_istore_n (pc := 29) (n := 3) (i := 3) (lv' := [(0, .ref x0), (1, .int x1), (2, .int x2), (3, .int z5)]) (by decide +kernel) rfl (Nat.le_of_ble_eq_true rfl) rfl rfl ?_
        refine ab_aload_n (pc := 30) (n := 0) (i := 0) (j := 0) (by decide +kernel) rfl rfl ?_
        refine ab_iload_n (pc := 31) (n := 2) (i := 2) (j := 2) (by decide +kernel) rfl rfl ?_
        refine ab_iconst (pc := 32) (n := 3) (v := nI 3) (by decide +kernel) rfl ?_
        refine ab_callVi (As := [.int x2, .int (nI 3)]) (st := []) (pc := 33) lk_X12_57_12 rfl rfl rfl (by decide) rfl (Nat.le_of_ble_eq_true rfl) (by decide +kernel) (fun y9 e9 => okX12_of hl e9) (fun v6 ev6 => ?_)
        refine ab_iconst (pc := 36) (n := -1) (v := (-1 : Int32)) (by decide +kernel) rfl ?_
        refine ab_jr (fun k9 : Int32 → Option (Int32 × ab_H) => ∀ (z7 : Int32), ab_S l mX12_hour (fun y : (Int32 × ab_H) => ((.inl (some (.int y.1)), y.2) : ab_R × ab_H)) 0 0 (k9 z7) 45 [(0, .ref x0), (1, .int x1), (2, .int x2), (3, .int z5)] [.int z7] h) ?_ (fun j22 hj22 => ?_)
        · intro z7
          refine ab_istore (pc := 45) (i := 4) (lv' := [(0, .ref x0), (1, .int x1), (2, .int x2), (3, .int z5), (4, .int z7)]) (by decide +kernel) (Nat.le_of_ble_eq_true rfl) rfl rfl ?_
          refine ab_iload_n (pc := 47) (n := 3) (i := 3) (j := 3) (by decide +kernel) rfl rfl ?_
          refine ab_iload (pc := 48) (i := 4) (j := 4) (by decide +kernel) rfl ?_
          refine ab_icmp_ne (off := 6) (pc := 50) (tgt := 56) (by decide +kernel) (by decide) (fun g8 => ?_) (fun g8 => ?_)
          · refine ab_goto (pc := 53) (off := 65) (tgt := 118) (by decide +kernel) (by decide) ?_
            refine ab_iinc (pc := 118) (i := 2) (n := 1) (j := 2) (d := nI 1) (lv' := [(0, .ref x0), (1, .int x1), (2, .int (x2 + nI 1)), (3, .int z5), (4, .int z7)]) (by decide +kernel) rfl rfl (Nat.le_of_ble_eq_true rfl) rfl rfl ?_
            refine ab_goto (pc := 121) (off := (-117)) (tgt := 4) (by decide +kernel) (by decide) ?_
            refine ab_few [0, 1, 2] (lv' := [(0, .ref x0), (1, .int x1), (2, .int (x2 + nI 1))]) rfl ?_
            exact ih x1 (x2 + nI 1) h
          · refine ab_aload_n (pc := 56) (n := 0) (i := 0) (j := 0) (by decide +kernel) rfl rfl ?_
            refine ab_iload_n (pc := 57) (n := 2) (i := 2) (j := 2) (by decide +kernel) rfl rfl ?_
            refine ab_callVw (As := [.int x2]) (st := []) (pc := 58) lk_X12_297_12 rfl rfl rfl (by decide) rfl (Nat.le_of_ble_eq_true rfl) (by decide +kernel) (fun y9 e9 => okX12_asks hl (F := F) e9) (fun h9 eh9 => ?_)
            refine ab_iload_n (pc := 61) (n := 3) (i := 3) (j := 3) (by decide +kernel) rfl rfl ?_
            refine ab_jr (fun k9 : Option (Int32 × ab_H) => ab_S l mX12_hour (fun y : (Int32 × ab_H) => ((.inl (some (.int y.1)), y.2) : ab_R × ab_H)) 0 0 (k9) 97 [(0, .ref x0), (1, .int x1), (2, .int x2), (3, .int z5)] [] h9) ?_ (fun j14 hj14 => ?_)
            · refine ab_iload_n (pc := 97) (n := 3) (i := 3) (j := 3) (by decide +kernel) rfl rfl ?_
              refine ab_if_ne (off := 20) (pc := 98) (tgt := 118) (by decide +kernel) (by decide) (fun g10 => ?_) (fun g10 => ?_)
              · refine ab_aload_n (pc := 101) (n := 0) (i := 0) (j := 0) (by decide +kernel) rfl rfl ?_
                refine ab_getI (pc := 102) fl_X12_239_12 (by decide +kernel) (fun v11 ev11 => ?_)
                refine ab_if_eq (off := 13) (pc := 105) (tgt := 118) (by decide +kernel) (by decide) (fun g12 => ?_) (fun g12 => ?_)
                · refine ab_iinc (pc := 118) (i := 2) (n := 1) (j := 2) (d := nI 1) (lv' := [(0, .ref x0), (1, .int x1), (2, .int (x2 + nI 1)), (3, .int z5)]) (by decide +kernel) rfl rfl (Nat.le_of_ble_eq_true rfl) rfl rfl ?_
                  refine ab_goto (pc := 121) (off := (-117)) (tgt := 4) (by decide +kernel) (by decide) ?_
                  refine ab_few [0, 1, 2] (lv' := [(0, .ref x0), (1, .int x1), (2, .int (x2 + nI 1))]) rfl ?_
                  exact ih x1 (x2 + nI 1) h9
                · refine ab_aload_n (pc := 108) (n := 0) (i := 0) (j := 0) (by decide +kernel) rfl rfl ?_
                  refine ab_iload_n (pc := 109) (n := 2) (i := 2) (j := 2) (by decide +kernel) rfl rfl ?_
                  refine ab_callVj (As := [.int x2]) (st := []) (pc := 110) lk_X12_285_12 rfl rfl rfl (by decide) rfl (Nat.le_of_ble_eq_true rfl) (by decide +kernel) (fun y9 e9 => okX12_gets hl (F := F) e9) (fun v13 ev13 => ?_)
                  refine ab_istore (pc := 113) (i := 5) (lv' := [(0, .ref x0), (1, .int x1), (2, .int x2), (3, .int z5), (5, .int v13.1)]) (by decide +kernel) (Nat.le_of_ble_eq_true rfl) rfl rfl ?_
                  refine ab_iinc (pc := 115) (i := 1) (n := 1) (j := 1) (d := nI 1) (lv' := [(0, .ref x0), (1, .int (x1 + nI 1)), (2, .int x2), (3, .int z5), (5, .int v13.1)]) (by decide +kernel) rfl rfl (Nat.le_of_ble_eq_true rfl) rfl rfl ?_
                  refine ab_iinc (pc := 118) (i := 2) (n := 1) (j := 2) (d := nI 1) (lv' := [(0, .ref x0), (1, .int (x1 + nI 1)), (2, .int (x2 + nI 1)), (3, .int z5), (5, .int v13.1)]) (by decide +kernel) rfl rfl (Nat.le_of_ble_eq_true rfl) rfl rfl ?_
                  refine ab_goto (pc := 121) (off := (-117)) (tgt := 4) (by decide +kernel) (by decide) ?_
                  refine ab_few [0, 1, 2] (lv' := [(0, .ref x0), (1, .int (x1 + nI 1)), (2, .int (x2 + nI 1))]) rfl ?_
                  exact ih (x1 + nI 1) (x2 + nI 1) v13.2
              · refine ab_iinc (pc := 118) (i := 2) (n := 1) (j := 2) (d := nI 1) (lv' := [(0, .ref x0), (1, .int x1), (2, .int (x2 + nI 1)), (3, .int z5)]) (by decide +kernel) rfl rfl (Nat.le_of_ble_eq_true rfl) rfl rfl ?_
                refine ab_goto (pc := 121) (off := (-117)) (tgt := 4) (by decide +kernel) (by decide) ?_
                refine ab_few [0, 1, 2] (lv' := [(0, .ref x0), (1, .int x1), (2, .int (x2 + nI 1))]) rfl ?_
                exact ih x1 (x2 + nI 1) h9
            · refine ab_if_eq (off := 35) (pc := 62) (tgt := 97) (by decide +kernel) (by decide) (fun g15 => ?_) (fun g15 => ?_)
              · refine ab_few [0, 1, 2, 3] (lv' := [(0, .ref x0), (1, .int x1), (2, .int x2), (3, .int z5)]) rfl ?_
                exact hj14
              · refine ab_aload_n (pc := 65) (n := 0) (i := 0) (j := 0) (by decide +kernel) rfl rfl ?_
                refine ab_getI (pc := 66) fl_X12_236_12 (by decide +kernel) (fun v16 ev16 => ?_)
                refine ab_if_eq (off := 28) (pc := 69) (tgt := 97) (by decide +kernel) (by decide) (fun g17 => ?_) (fun g17 => ?_)
                · refine ab_few [0, 1, 2, 3] (lv' := [(0, .ref x0), (1, .int x1), (2, .int x2), (3, .int z5)]) rfl ?_
                  exact hj14
                · refine ab_aload_n (pc := 72) (n := 0) (i := 0) (j := 0) (by decide +kernel) rfl rfl ?_
                  refine ab_callVi (As := []) (st := []) (pc := 73) lk_X12_300_12 rfl rfl rfl (by decide) rfl (Nat.le_of_ble_eq_true rfl) (by decide +kernel) (fun y9 e9 => okX12_freeHook hl (F := F) e9) (fun v18 ev18 => ?_)
                  refine ab_iconst (pc := 76) (n := -1) (v := (-1 : Int32)) (by decide +kernel) rfl ?_
                  refine ab_icmp_eq (off := 20) (pc := 77) (tgt := 97) (by decide +kernel) (by decide) (fun g19 => ?_) (fun g19 => ?_)
                  · refine ab_few [0, 1, 2, 3] (lv' := [(0, .ref x0), (1, .int x1), (2, .int x2), (3, .int z5)]) rfl ?_
                    exact hj14
                  · refine ab_aload_n (pc := 80) (n := 0) (i := 0) (j := 0) (by decide +kernel) rfl rfl ?_
                    refine ab_iload_n (pc := 81) (n := 2) (i := 2) (j := 2) (by decide +kernel) rfl rfl ?_
                    refine ab_aload_n (pc := 82) (n := 0) (i := 0) (j := 0) (by decide +kernel) rfl rfl ?_
                    refine ab_callVi (As := []) (st := [.int x2, .ref x0]) (pc := 83) lk_X12_300_12 rfl rfl rfl (by decide) rfl (Nat.le_of_ble_eq_true rfl) (by decide +kernel) (fun y9 e9 => okX12_freeHook hl (F := F) e9) (fun v20 ev20 => ?_)
                    refine ab_callVj (As := [.int x2, .int v20]) (st := []) (pc := 86) lk_X12_282_12 rfl rfl rfl (by decide) rfl (Nat.le_of_ble_eq_true rfl) (by decide +kernel) (fun y9 e9 => okX12_handsIn hl (F := F) e9) (fun v21 ev21 => ?_)
                    refine ab_istore (pc := 89) (i := 5) (lv' := [(0, .ref x0), (1, .int x1), (2, .int x2), (3, .int z5), (4, .int z7), (5, .int v21.1)]) (by decide +kernel) (Nat.le_of_ble_eq_true rfl) rfl rfl ?_
                    refine ab_iinc (pc := 91) (i := 1) (n := 1) (j := 1) (d := nI 1) (lv' := [(0, .ref x0), (1, .int (x1 + nI 1)), (2, .int x2), (3, .int z5), (4, .int z7), (5, .int v21.1)]) (by decide +kernel) rfl rfl (Nat.le_of_ble_eq_true rfl) rfl rfl ?_
                    refine ab_goto (pc := 94) (off := 24) (tgt := 118) (by decide +kernel) (by decide) ?_
                    refine ab_iinc (pc := 118) (i := 2) (n := 1) (j := 2) (d := nI 1) (lv' := [(0, .ref x0), (1, .int (x1 + nI 1)), (2, .int (x2 + nI 1)), (3, .int z5), (4, .int z7), (5, .int v21.1)]) (by decide +kernel) rfl rfl (Nat.le_of_ble_eq_true rfl) rfl rfl ?_
                    refine ab_goto (pc := 121) (off := (-117)) (tgt := 4) (by decide +kernel) (by decide) ?_
                    refine ab_few [0, 1, 2] (lv' := [(0, .ref x0), (1, .int (x1 + nI 1)), (2, .int (x2 + nI 1))]) rfl ?_
                    exact ih (x1 + nI 1) (x2 + nI 1) v21.2
        · refine ab_icmp_eq (off := 7) (pc := 37) (tgt := 44) (by decide +kernel) (by decide) (fun g23 => ?_) (fun g23 => ?_)
          · refine ab_iconst (pc := 44) (n := 0) (v := nI 0) (by decide +kernel) rfl ?_
            exact hj22 (nI 0)
          · refine ab_iconst (pc := 40) (n := 1) (v := nI 1) (by decide +kernel) rfl ?_
            refine ab_goto (pc := 41) (off := 4) (tgt := 45) (by decide +kernel) (by decide) ?_
            exact hj22 (nI 1)
      · refine ab_icmp_eq (off := 7) (pc := 21) (tgt := 28) (by decide +kernel) (by decide) (fun g25 => ?_) (fun g25 => ?_)
        · refine ab_iconst (pc := 28) (n := 0) (v := nI 0) (by decide +kernel) rfl ?_
          exact hj24 (nI 0)
        · refine ab_iconst (pc := 24) (n := 1) (v := nI 1) (by decide +kernel) rfl ?_
          refine ab_goto (pc := 25) (off := 4) (tgt := 29) (by decide +kernel) (by decide) ?_
          exact hj24 (nI 1)
    · refine ab_few [0, 1] (lv' := [(0, .ref x0), (1, .int x1)]) rfl ?_
      exact hk124 x1 h
set_option maxRecDepth 100000 in
set_option maxHeartbeats 4000000 in
theorem wX12_hour {l : Launch} (hl : l.stackTraces = false) (F : Nat) (x0 : Nat) (h : ab_H) : ab_S l mX12_hour (fun y : (Int32 × ab_H) => ((.inl (some (.int y.1)), y.2) : ab_R × ab_H)) 0 0 (fX12_hour F x0 h) 0 [(0, .ref x0)] [] h := by
  unfold fX12_hour
  refine ab_iconst (pc := 0) (n := 0) (v := nI 0) (by decide +kernel) rfl ?_
  refine ab_istore_n (pc := 1) (n := 1) (i := 1) (lv' := [(0, .ref x0), (1, .int (nI 0))]) (by decide +kernel) rfl (Nat.le_of_ble_eq_true rfl) rfl rfl ?_
  refine ab_iconst (pc := 2) (n := 0) (v := nI 0) (by decide +kernel) rfl ?_
  refine ab_istore_n (pc := 3) (n := 2) (i := 2) (lv' := [(0, .ref x0), (1, .int (nI 0)), (2, .int (nI 0))]) (by decide +kernel) rfl (Nat.le_of_ble_eq_true rfl) rfl rfl ?_
  refine lX12_hour_4 hl F x0 ?_ F (nI 0) (nI 0) h
  intro z26 h27
  refine ab_aload_n (pc := 124) (n := 0) (i := 0) (j := 0) (by decide +kernel) rfl rfl ?_
  refine ab_bipush (pc := 125) (n := 100) (v := nI 100) (by decide +kernel) (by decide) ?_
  refine ab_callVj (As := [.int (nI 100)]) (st := []) (pc := 127) lk_X12_294_12 rfl rfl rfl (by decide) rfl (Nat.le_of_ble_eq_true rfl) (by decide +kernel) (fun y9 e9 => okX12_draw hl e9) (fun v28 ev28 => ?_)
  refine ab_aload_n (pc := 130) (n := 0) (i := 0) (j := 0) (by decide +kernel) rfl rfl ?_
  refine ab_getR (pc := 131) fl_X12_7_12 (by decide +kernel) (fun v29 ev29 => ?_)
  refine ab_bipush (pc := 134) (n := 6) (v := nI 6) (by decide +kernel) (by decide) ?_
  refine ab_iald (pc := 136) (by decide +kernel) (fun v30 ev30 => ?_)
  refine ab_jr (fun k9 : Int32 → Option (Int32 × ab_H) => ∀ (z31 : Int32), ab_S l mX12_hour (fun y : (Int32 × ab_H) => ((.inl (some (.int y.1)), y.2) : ab_R × ab_H)) 0 0 (k9 z31) 145 [(0, .ref x0), (1, .int z26)] [.int z31] v28.2) ?_ (fun j55 hj55 => ?_)
  · intro z31
    refine ab_istore_n (pc := 145) (n := 2) (i := 2) (lv' := [(0, .ref x0), (1, .int z26), (2, .int z31)]) (by decide +kernel) rfl (Nat.le_of_ble_eq_true rfl) rfl rfl ?_
    refine ab_aload_n (pc := 146) (n := 0) (i := 0) (j := 0) (by decide +kernel) rfl rfl ?_
    refine ab_callVi (As := []) (st := []) (pc := 147) lk_X12_303_12 rfl rfl rfl (by decide) rfl (Nat.le_of_ble_eq_true rfl) (by decide +kernel) (fun y9 e9 => okX12_holders hl (F := F) e9) (fun v32 ev32 => ?_)
    refine ab_callSi (As := [.int v32]) (st := []) (pc := 150) lk_X12_242 rfl rfl rfl (by decide) rfl (Nat.le_of_ble_eq_true rfl) (by decide +kernel) (fun y9 e9 => okX12_bits hl (F := F) e9) (fun v33 ev33 => ?_)
    refine ab_istore_n (pc := 153) (n := 3) (i := 3) (lv' := [(0, .ref x0), (1, .int z26), (2, .int z31), (3, .int v33)]) (by decide +kernel) rfl (Nat.le_of_ble_eq_true rfl) rfl rfl ?_
    refine ab_iload_n (pc := 154) (n := 2) (i := 2) (j := 2) (by decide +kernel) rfl rfl ?_
    refine ab_jr (fun k9 : ab_H → Option (Int32 × ab_H) => ∀ (h34 : ab_H), ab_S l mX12_hour (fun y : (Int32 × ab_H) => ((.inl (some (.int y.1)), y.2) : ab_R × ab_H)) 0 0 (k9 h34) 194 [(0, .ref x0), (1, .int z26)] [] h34) ?_ (fun j47 hj47 => ?_)
    · intro h34
      refine ab_aload_n (pc := 194) (n := 0) (i := 0) (j := 0) (by decide +kernel) rfl rfl ?_
      refine ab_bipush (pc := 195) (n := 100) (v := nI 100) (by decide +kernel) (by decide) ?_
      refine ab_callVj (As := [.int (nI 100)]) (st := []) (pc := 197) lk_X12_294_12 rfl rfl rfl (by decide) rfl (Nat.le_of_ble_eq_true rfl) (by decide +kernel) (fun y9 e9 => okX12_draw hl e9) (fun v35 ev35 => ?_)
      refine ab_aload_n (pc := 200) (n := 0) (i := 0) (j := 0) (by decide +kernel) rfl rfl ?_
      refine ab_getR (pc := 201) fl_X12_7_12 (by decide +kernel) (fun v36 ev36 => ?_)
      refine ab_bipush (pc := 204) (n := 7) (v := nI 7) (by decide +kernel) (by decide) ?_
      refine ab_iald (pc := 206) (by decide +kernel) (fun v37 ev37 => ?_)
      refine ab_jr (fun k9 : ab_H → Option (Int32 × ab_H) => ∀ (h38 : ab_H), ab_S l mX12_hour (fun y : (Int32 × ab_H) => ((.inl (some (.int y.1)), y.2) : ab_R × ab_H)) 0 0 (k9 h38) 221 [(0, .ref x0), (1, .int z26)] [] h38) ?_ (fun j42 hj42 => ?_)
      · intro h38
        refine ab_aload_n (pc := 221) (n := 0) (i := 0) (j := 0) (by decide +kernel) rfl rfl ?_
        refine ab_getR (pc := 222) fl_X12_7_12 (by decide +kernel) (fun v39 ev39 => ?_)
        refine ab_iconst (pc := 225) (n := 5) (v := nI 5) (by decide +kernel) rfl ?_
        refine ab_dup2 (pc := 226) (by decide +kernel) rfl rfl ?_
        refine ab_iald (pc := 227) (by decide +kernel) (fun v40 ev40 => ?_)
        refine ab_iconst (pc := 228) (n := 1) (v := nI 1) (by decide +kernel) rfl ?_
        refine ab_iadd (pc := 229) (by decide +kernel) ?_
        refine ab_iast (pc := 230) (by decide +kernel) (fun h41 eh41 => ?_)
        refine ab_iload_n (pc := 231) (n := 1) (i := 1) (j := 1) (by decide +kernel) rfl rfl ?_
        exact ab_iret (pc := 232) (by decide +kernel) rfl rfl (Nat.le_of_ble_eq_true rfl) (Nat.le_of_ble_eq_true rfl)
      · refine ab_icmp_ge (off := 14) (pc := 207) (tgt := 221) (by decide +kernel) (by decide) (fun g43 => ?_) (fun g43 => ?_)
        · refine ab_aload_n (pc := 210) (n := 0) (i := 0) (j := 0) (by decide +kernel) rfl rfl ?_
          refine ab_callVi (As := []) (st := []) (pc := 211) lk_X12_245_12 rfl rfl rfl (by decide) rfl (Nat.le_of_ble_eq_true rfl) (by decide +kernel) (fun y9 e9 => okX12_hung hl (F := F) e9) (fun v44 ev44 => ?_)
          refine ab_if_le (off := 7) (pc := 214) (tgt := 221) (by decide +kernel) (by decide) (fun g45 => ?_) (fun g45 => ?_)
          · exact hj42 v35.2
          · refine ab_aload_n (pc := 217) (n := 0) (i := 0) (j := 0) (by decide +kernel) rfl rfl ?_
            refine ab_callVw (As := []) (st := []) (pc := 218) lk_X12_309_12 rfl rfl rfl (by decide) rfl (Nat.le_of_ble_eq_true rfl) (by decide +kernel) (fun y9 e9 => okX12_robs hl (F := F) e9) (fun h46 eh46 => ?_)
            exact hj42 h46
        · exact hj42 v35.2
    · refine ab_if_eq (off := 39) (pc := 155) (tgt := 194) (by decide +kernel) (by decide) (fun g48 => ?_) (fun g48 => ?_)
      · refine ab_few [0, 1] (lv' := [(0, .ref x0), (1, .int z26)]) rfl ?_
        exact hj47 v28.2
      · refine ab_iload_n (pc := 158) (n := 3) (i := 3) (j := 3) (by decide +kernel) rfl rfl ?_
        refine ab_iconst (pc := 159) (n := 1) (v := nI 1) (by decide +kernel) rfl ?_
        refine ab_icmp_le (off := 34) (pc := 160) (tgt := 194) (by decide +kernel) (by decide) (fun g49 => ?_) (fun g49 => ?_)
        · refine ab_few [0, 1] (lv' := [(0, .ref x0), (1, .int z26)]) rfl ?_
          exact hj47 v28.2
        · refine ab_aload_n (pc := 163) (n := 0) (i := 0) (j := 0) (by decide +kernel) rfl rfl ?_
          refine ab_aload_n (pc := 164) (n := 0) (i := 0) (j := 0) (by decide +kernel) rfl rfl ?_
          refine ab_iload_n (pc := 165) (n := 3) (i := 3) (j := 3) (by decide +kernel) rfl rfl ?_
          refine ab_callVj (As := [.int v33]) (st := [.ref x0]) (pc := 166) lk_X12_294_12 rfl rfl rfl (by decide) rfl (Nat.le_of_ble_eq_true rfl) (by decide +kernel) (fun y9 e9 => okX12_draw hl e9) (fun v50 ev50 => ?_)
          refine ab_iconst (pc := 169) (n := -1) (v := (-1 : Int32)) (by decide +kernel) rfl ?_
          refine ab_callVi (As := [.int v50.1, .int (-1 : Int32)]) (st := []) (pc := 170) lk_X12_306_12 rfl rfl rfl (by decide) rfl (Nat.le_of_ble_eq_true rfl) (by decide +kernel) (fun y9 e9 => okX12_holder hl (F := F) e9) (fun v51 ev51 => ?_)
          refine ab_istore (pc := 173) (i := 4) (lv' := [(0, .ref x0), (1, .int z26), (2, .int z31), (3, .int v33), (4, .int v51)]) (by decide +kernel) (Nat.le_of_ble_eq_true rfl) rfl rfl ?_
          refine ab_aload_n (pc := 175) (n := 0) (i := 0) (j := 0) (by decide +kernel) rfl rfl ?_
          refine ab_iload (pc := 176) (i := 4) (j := 4) (by decide +kernel) rfl ?_
          refine ab_aload_n (pc := 178) (n := 0) (i := 0) (j := 0) (by decide +kernel) rfl rfl ?_
          refine ab_aload_n (pc := 179) (n := 0) (i := 0) (j := 0) (by decide +kernel) rfl rfl ?_
          refine ab_iload_n (pc := 180) (n := 3) (i := 3) (j := 3) (by decide +kernel) rfl rfl ?_
          refine ab_iconst (pc := 181) (n := 1) (v := nI 1) (by decide +kernel) rfl ?_
          refine ab_isub (pc := 182) (by decide +kernel) ?_
          refine ab_callVj (As := [.int (v33 - (nI 1))]) (st := [.ref x0, .int v51, .ref x0]) (pc := 183) lk_X12_294_12 rfl rfl rfl (by decide) rfl (Nat.le_of_ble_eq_true rfl) (by decide +kernel) (fun y9 e9 => okX12_draw hl e9) (fun v52 ev52 => ?_)
          refine ab_iload (pc := 186) (i := 4) (j := 4) (by decide +kernel) rfl ?_
          refine ab_callVi (As := [.int v52.1, .int v51]) (st := [.int v51, .ref x0]) (pc := 188) lk_X12_306_12 rfl rfl rfl (by decide) rfl (Nat.le_of_ble_eq_true rfl) (by decide +kernel) (fun y9 e9 => okX12_holder hl (F := F) e9) (fun v53 ev53 => ?_)
          refine ab_callVw (As := [.int v51, .int v53]) (st := []) (pc := 191) lk_X12_287_12 rfl rfl rfl (by decide) rfl (Nat.le_of_ble_eq_true rfl) (by decide +kernel) (fun y9 e9 => okX12_mixes hl (F := F) e9) (fun h54 eh54 => ?_)
          refine ab_few [0, 1] (lv' := [(0, .ref x0), (1, .int z26)]) rfl ?_
          exact hj47 h54
  · refine ab_icmp_ge (off := 7) (pc := 137) (tgt := 144) (by decide +kernel) (by decide) (fun g56 => ?_) (fun g56 => ?_)
    · refine ab_iconst (pc := 140) (n := 1) (v := nI 1) (by decide +kernel) rfl ?_
      refine ab_goto (pc := 141) (off := 4) (tgt := 145) (by decide +kernel) (by decide) ?_
      exact hj55 (nI 1)
    · refine ab_iconst (pc := 144) (n := 0) (v := nI 0) (by decide +kernel) rfl ?_
      exact hj55 (nI 0)
set_option maxRecDepth 100000 in
set_option maxHeartbeats 4000000 in
theorem okX12_hour {l : Launch} (hl : l.stackTraces = false) {F : Nat} {x0 : Nat} {h : ab_H} {y : (Int32 × ab_H)} (e : fX12_hour F x0 h = some y) : ab_Met l mX12_hour [.ref x0] h (.inl (some (.int y.1)), y.2) := ab_ofS (io := (fun y : (Int32 × ab_H) => ((.inl (some (.int y.1)), y.2) : ab_R × ab_H))) (x := y) hl (by decide) rfl (Nat.le_of_ble_eq_true rfl) (wX12_hour hl F x0 h) e
def mX12_goes : ab_M := (yX12_goes, cX12_goes, 4, (some .int), { frames := 36, cells := 0, slots := 0, locals := 804 })
theorem iX12_goes : ab_MI mX12_goes 1 := ⟨kw_552d265ae2, kw_30b3f7d7c6, by decide +kernel⟩
theorem lk_X12_312_12 : ab_LV RX12 312 12 mX12_hour 0 := ⟨RX12, rfl, iX12_hour, kw_b4bf83333c, kw_55b1d4b10d, kw_8efd24ff76⟩
def fX12_goes_4 (F : Nat) (x0 : Nat) (x1 : Int32) : Nat → Int32 → Int32 → ab_H → Option (Int32 × ab_H)
  | 0, _, _, _ => none
  | n + 1, x2, x3, h => (if x3 < x1 then ab_ck (ab_io h x0 12 = true) (ab_bd (fX12_hour F x0 h) fun v2 => fX12_goes_4 F x0 x1 n (x2 + v2.1) (x3 + nI 1) v2.2) else some (x2, h))
def fX12_goes (F : Nat) (x0 : Nat) (x1 : Int32) (h : ab_H) : Option (Int32 × ab_H) := fX12_goes_4 F x0 x1 F (nI 0) (nI 0) h
set_option maxRecDepth 100000 in
set_option maxHeartbeats 4000000 in
theorem lX12_goes_4 {l : Launch} (hl : l.stackTraces = false) (F : Nat) (x0 : Nat) (x1 : Int32) : ∀ (n : Nat) (x2 : Int32) (x3 : Int32) (h : ab_H), ab_S l mX12_goes (fun y : (Int32 × ab_H) => ((.inl (some (.int y.1)), y.2) : ab_R × ab_H)) 0 0 (fX12_goes_4 F x0 x1 n x2 x3 h) 4 [(0, .ref x0), (1, .int x1), (2, .int x2), (3, .int x3)] [] h := by
  intro n
  induction n with
  | zero =>
    intro x2 x3 h
    exact ab_none
  | succ n ih =>
    intro x2 x3 h
    rw [fX12_goes_4]
    refine ab_iload_n (pc := 4) (n := 3) (i := 3) (j := 3) (by decide +kernel) rfl rfl ?_
    refine ab_iload_n (pc := 5) (n := 1) (i := 1) (j := 1) (by decide +kernel) rfl rfl ?_
    refine ab_icmp_ge (off := 16) (pc := 6) (tgt := 22) (by decide +kernel) (by decide) (fun g1 => ?_) (fun g1 => ?_)
    · refine ab_iload_n (pc := 9) (n := 2) (i := 2) (j := 2) (by decide +kernel) rfl rfl ?_
      refine ab_aload_n (pc := 10) (n := 0) (i := 0) (j := 0) (by decide +kernel) rfl rfl ?_
      refine ab_callVj (As := []) (st := [.int x2]) (pc := 11) lk_X12_312_12 rfl rfl rfl (by decide) rfl (Nat.le_of_ble_eq_true rfl) (by decide +kernel) (fun y9 e9 => okX12_hour hl (F := F) e9) (fun v2 ev2 => ?_)
      refine ab_iadd (pc := 14) (by decide +kernel) ?_
      refine ab_istore_n (pc := 15) (n := 2) (i := 2) (lv' := [(0, .ref x0), (1, .int x1), (2, .int (x2 + v2.1)), (3, .int x3)]) (by decide +kernel) rfl (Nat.le_of_ble_eq_true rfl) rfl rfl ?_
      refine ab_iinc (pc := 16) (i := 3) (n := 1) (j := 3) (d := nI 1) (lv' := [(0, .ref x0), (1, .int x1), (2, .int (x2 + v2.1)), (3, .int (x3 + nI 1))]) (by decide +kernel) rfl rfl (Nat.le_of_ble_eq_true rfl) rfl rfl ?_
      refine ab_goto (pc := 19) (off := (-15)) (tgt := 4) (by decide +kernel) (by decide) ?_
      exact ih (x2 + v2.1) (x3 + nI 1) v2.2
    · refine ab_iload_n (pc := 22) (n := 2) (i := 2) (j := 2) (by decide +kernel) rfl rfl ?_
      exact ab_iret (pc := 23) (by decide +kernel) rfl rfl (Nat.le_of_ble_eq_true rfl) (Nat.le_of_ble_eq_true rfl)
set_option maxRecDepth 100000 in
set_option maxHeartbeats 4000000 in
theorem wX12_goes {l : Launch} (hl : l.stackTraces = false) (F : Nat) (x0 : Nat) (x1 : Int32) (h : ab_H) : ab_S l mX12_goes (fun y : (Int32 × ab_H) => ((.inl (some (.int y.1)), y.2) : ab_R × ab_H)) 0 0 (fX12_goes F x0 x1 h) 0 [(0, .ref x0), (1, .int x1)] [] h := by
  unfold fX12_goes
  refine ab_iconst (pc := 0) (n := 0) (v := nI 0) (by decide +kernel) rfl ?_
  refine ab_istore_n (pc := 1) (n := 2) (i := 2) (lv' := [(0, .ref x0), (1, .int x1), (2, .int (nI 0))]) (by decide +kernel) rfl (Nat.le_of_ble_eq_true rfl) rfl rfl ?_
  refine ab_iconst (pc := 2) (n := 0) (v := nI 0) (by decide +kernel) rfl ?_
  refine ab_istore_n (pc := 3) (n := 3) (i := 3) (lv' := [(0, .ref x0), (1, .int x1), (2, .int (nI 0)), (3, .int (nI 0))]) (by decide +kernel) rfl (Nat.le_of_ble_eq_true rfl) rfl rfl ?_
  refine lX12_goes_4 hl F x0 x1 F (nI 0) (nI 0) h
set_option maxRecDepth 100000 in
set_option maxHeartbeats 4000000 in
theorem okX12_goes {l : Launch} (hl : l.stackTraces = false) {F : Nat} {x0 : Nat} {x1 : Int32} {h : ab_H} {y : (Int32 × ab_H)} (e : fX12_goes F x0 x1 h = some y) : ab_Met l mX12_goes [.ref x0, .int x1] h (.inl (some (.int y.1)), y.2) := ab_ofS (io := (fun y : (Int32 × ab_H) => ((.inl (some (.int y.1)), y.2) : ab_R × ab_H))) (x := y) hl (by decide) rfl (Nat.le_of_ble_eq_true rfl) (wX12_goes hl F x0 x1 h) e
def mX12_hours : ab_M := (yX12_hours, cX12_hours, 2, (some .int), { frames := 37, cells := 0, slots := 0, locals := 827 })
theorem iX12_hours : ab_MI mX12_hours 1 := ⟨kw_1ed073525b, kw_30b3f7d7c6, by decide +kernel⟩
theorem lk_X12_314_12 : ab_LV RX12 314 12 mX12_goes 1 := ⟨RX12, rfl, iX12_goes, kw_1243dbca55, kw_50d1af4ff9, kw_41e21fe8a2⟩
def fX12_hours (F : Nat) (x0 : Nat) (x1 : Int32) (h : ab_H) : Option (Int32 × ab_H) := ab_bd (fX12_isIn x1 (nI 1) (nI 50) h) fun v1 => ab_jn (κ := Int32 → Option (Int32 × ab_H)) (fun (z2 : Int32) => ab_bd (ab_fw h x0 12 0 (.int z2)) fun h3 => ab_bd (ab_fi h3 x0 12 0) fun v4 => (if v4 ≤ 0 then ab_ck (ab_io h3 x0 12 = true) (ab_bd (fX12_remembers F x0 h3) fun h6 => ab_ck (ab_io h6 x0 12 = true) (ab_bd (fX12_goes F x0 x1 h6) fun v7 => some (v7.1, v7.2))) else some (nI 0, h3))) fun j8 => (if v1 = 0 then j8 (nI 1) else j8 (nI 0))
set_option maxRecDepth 100000 in
set_option maxHeartbeats 4000000 in
theorem wX12_hours {l : Launch} (hl : l.stackTraces = false) (F : Nat) (x0 : Nat) (x1 : Int32) (h : ab_H) : ab_S l mX12_hours (fun y : (Int32 × ab_H) => ((.inl (some (.int y.1)), y.2) : ab_R × ab_H)) 0 0 (fX12_hours F x0 x1 h) 0 [(0, .ref x0), (1, .int x1)] [] h := by
  unfold fX12_hours
  refine ab_aload_n (pc := 0) (n := 0) (i := 0) (j := 0) (by decide +kernel) rfl rfl ?_
  refine ab_iload_n (pc := 1) (n := 1) (i := 1) (j := 1) (by decide +kernel) rfl rfl ?_
  refine ab_iconst (pc := 2) (n := 1) (v := nI 1) (by decide +kernel) rfl ?_
  refine ab_bipush (pc := 3) (n := 50) (v := nI 50) (by decide +kernel) (by decide) ?_
  refine ab_callSi (As := [.int x1, .int (nI 1), .int (nI 50)]) (st := [.ref x0]) (pc := 5) lk_X12_53 rfl rfl rfl (by decide) rfl (Nat.le_of_ble_eq_true rfl) (by decide +kernel) (fun y9 e9 => okX12_isIn hl e9) (fun v1 ev1 => ?_)
  refine ab_jr (fun k9 : Int32 → Option (Int32 × ab_H) => ∀ (z2 : Int32), ab_S l mX12_hours (fun y : (Int32 × ab_H) => ((.inl (some (.int y.1)), y.2) : ab_R × ab_H)) 0 0 (k9 z2) 16 [(0, .ref x0), (1, .int x1)] [.int z2, .ref x0] h) ?_ (fun j8 hj8 => ?_)
  · intro z2
    refine ab_put (pc := 16) fl_X12_50_12 rfl (fun _ => rfl) (fun _ => rfl) (by decide +kernel) (fun h3 eh3 => ?_)
    refine ab_aload_n (pc := 19) (n := 0) (i := 0) (j := 0) (by decide +kernel) rfl rfl ?_
    refine ab_getI (pc := 20) fl_X12_50_12 (by decide +kernel) (fun v4 ev4 => ?_)
    refine ab_if_le (off := 5) (pc := 23) (tgt := 28) (by decide +kernel) (by decide) (fun g5 => ?_) (fun g5 => ?_)
    · refine ab_aload_n (pc := 28) (n := 0) (i := 0) (j := 0) (by decide +kernel) rfl rfl ?_
      refine ab_callVw (As := []) (st := []) (pc := 29) lk_X12_279_12 rfl rfl rfl (by decide) rfl (Nat.le_of_ble_eq_true rfl) (by decide +kernel) (fun y9 e9 => okX12_remembers hl (F := F) e9) (fun h6 eh6 => ?_)
      refine ab_aload_n (pc := 32) (n := 0) (i := 0) (j := 0) (by decide +kernel) rfl rfl ?_
      refine ab_iload_n (pc := 33) (n := 1) (i := 1) (j := 1) (by decide +kernel) rfl rfl ?_
      refine ab_callVj (As := [.int x1]) (st := []) (pc := 34) lk_X12_314_12 rfl rfl rfl (by decide) rfl (Nat.le_of_ble_eq_true rfl) (by decide +kernel) (fun y9 e9 => okX12_goes hl (F := F) e9) (fun v7 ev7 => ?_)
      exact ab_iret (pc := 37) (by decide +kernel) rfl rfl (Nat.le_of_ble_eq_true rfl) (Nat.le_of_ble_eq_true rfl)
    · refine ab_iconst (pc := 26) (n := 0) (v := nI 0) (by decide +kernel) rfl ?_
      exact ab_iret (pc := 27) (by decide +kernel) rfl rfl (Nat.le_of_ble_eq_true rfl) (Nat.le_of_ble_eq_true rfl)
  · refine ab_if_ne (off := 7) (pc := 8) (tgt := 15) (by decide +kernel) (by decide) (fun g9 => ?_) (fun g9 => ?_)
    · refine ab_iconst (pc := 11) (n := 1) (v := nI 1) (by decide +kernel) rfl ?_
      refine ab_goto (pc := 12) (off := 4) (tgt := 16) (by decide +kernel) (by decide) ?_
      exact hj8 (nI 1)
    · refine ab_iconst (pc := 15) (n := 0) (v := nI 0) (by decide +kernel) rfl ?_
      exact hj8 (nI 0)
set_option maxRecDepth 100000 in
set_option maxHeartbeats 4000000 in
theorem okX12_hours {l : Launch} (hl : l.stackTraces = false) {F : Nat} {x0 : Nat} {x1 : Int32} {h : ab_H} {y : (Int32 × ab_H)} (e : fX12_hours F x0 x1 h = some y) : ab_Met l mX12_hours [.ref x0, .int x1] h (.inl (some (.int y.1)), y.2) := ab_ofS (io := (fun y : (Int32 × ab_H) => ((.inl (some (.int y.1)), y.2) : ab_R × ab_H))) (x := y) hl (by decide) rfl (Nat.le_of_ble_eq_true rfl) (wX12_hours hl F x0 x1 h) e
def mX12_tries : ab_M := (yX12_tries, cX12_tries, 4, (some .int), { frames := 37, cells := 0, slots := 0, locals := 827 })
theorem iX12_tries : ab_MI mX12_tries 1 := ⟨kw_6b31bc054e, kw_30b3f7d7c6, by decide +kernel⟩
def fX12_tries (F : Nat) (x0 : Nat) (x1 : Int32) (h : ab_H) : Option (Int32 × ab_H) := ab_ck (ab_io h x0 12 = true) (ab_bd (fX12_goes F x0 x1 h) fun v1 => ab_ck (ab_io v1.2 x0 12 = true) (ab_bd (fX12_wrongs F x0 v1.2) fun v2 => ab_bd (fX12_bits F v2 v1.2) fun v3 => ab_ck (ab_io v1.2 x0 12 = true) (ab_bd (fX12_comesBack F x0 v1.2) fun h4 => some (v3, h4))))
set_option maxRecDepth 100000 in
set_option maxHeartbeats 4000000 in
theorem wX12_tries {l : Launch} (hl : l.stackTraces = false) (F : Nat) (x0 : Nat) (x1 : Int32) (h : ab_H) : ab_S l mX12_tries (fun y : (Int32 × ab_H) => ((.inl (some (.int y.1)), y.2) : ab_R × ab_H)) 0 0 (fX12_tries F x0 x1 h) 0 [(0, .ref x0), (1, .int x1)] [] h := by
  unfold fX12_tries
  refine ab_aload_n (pc := 0) (n := 0) (i := 0) (j := 0) (by decide +kernel) rfl rfl ?_
  refine ab_iload_n (pc := 1) (n := 1) (i := 1) (j := 1) (by decide +kernel) rfl rfl ?_
  refine ab_callVj (As := [.int x1]) (st := []) (pc := 2) lk_X12_314_12 rfl rfl rfl (by decide) rfl (Nat.le_of_ble_eq_true rfl) (by decide +kernel) (fun y9 e9 => okX12_goes hl (F := F) e9) (fun v1 ev1 => ?_)
  refine ab_istore_n (pc := 5) (n := 2) (i := 2) (lv' := [(0, .ref x0), (1, .int x1), (2, .int v1.1)]) (by decide +kernel) rfl (Nat.le_of_ble_eq_true rfl) rfl rfl ?_
  refine ab_aload_n (pc := 6) (n := 0) (i := 0) (j := 0) (by decide +kernel) rfl rfl ?_
  refine ab_callVi (As := []) (st := []) (pc := 7) lk_X12_317_12 rfl rfl rfl (by decide) rfl (Nat.le_of_ble_eq_true rfl) (by decide +kernel) (fun y9 e9 => okX12_wrongs hl (F := F) e9) (fun v2 ev2 => ?_)
  refine ab_callSi (As := [.int v2]) (st := []) (pc := 10) lk_X12_242 rfl rfl rfl (by decide) rfl (Nat.le_of_ble_eq_true rfl) (by decide +kernel) (fun y9 e9 => okX12_bits hl (F := F) e9) (fun v3 ev3 => ?_)
  refine ab_istore_n (pc := 13) (n := 3) (i := 3) (lv' := [(0, .ref x0), (1, .int x1), (2, .int v1.1), (3, .int v3)]) (by decide +kernel) rfl (Nat.le_of_ble_eq_true rfl) rfl rfl ?_
  refine ab_aload_n (pc := 14) (n := 0) (i := 0) (j := 0) (by decide +kernel) rfl rfl ?_
  refine ab_callVw (As := []) (st := []) (pc := 15) lk_X12_179_12 rfl rfl rfl (by decide) rfl (Nat.le_of_ble_eq_true rfl) (by decide +kernel) (fun y9 e9 => okX12_comesBack hl (F := F) e9) (fun h4 eh4 => ?_)
  refine ab_iload_n (pc := 18) (n := 3) (i := 3) (j := 3) (by decide +kernel) rfl rfl ?_
  exact ab_iret (pc := 19) (by decide +kernel) rfl rfl (Nat.le_of_ble_eq_true rfl) (Nat.le_of_ble_eq_true rfl)
set_option maxRecDepth 100000 in
set_option maxHeartbeats 4000000 in
theorem okX12_tries {l : Launch} (hl : l.stackTraces = false) {F : Nat} {x0 : Nat} {x1 : Int32} {h : ab_H} {y : (Int32 × ab_H)} (e : fX12_tries F x0 x1 h = some y) : ab_Met l mX12_tries [.ref x0, .int x1] h (.inl (some (.int y.1)), y.2) := ab_ofS (io := (fun y : (Int32 × ab_H) => ((.inl (some (.int y.1)), y.2) : ab_R × ab_H))) (x := y) hl (by decide) rfl (Nat.le_of_ble_eq_true rfl) (wX12_tries hl F x0 x1 h) e
def mX12_trial : ab_M := (yX12_trial, cX12_trial, 2, (some .int), { frames := 38, cells := 0, slots := 0, locals := 850 })
theorem iX12_trial : ab_MI mX12_trial 1 := ⟨kw_73699a81e2, kw_30b3f7d7c6, by decide +kernel⟩
theorem lk_X12_375_12 : ab_LV RX12 375 12 mX12_tries 1 := ⟨RX12, rfl, iX12_tries, kw_11e888ff86, kw_a5ea3e1796, kw_7ea26dde3f⟩
def fX12_trial (F : Nat) (x0 : Nat) (x1 : Int32) (h : ab_H) : Option (Int32 × ab_H) := ab_bd (fX12_isIn x1 (nI 0) (nI 30) h) fun v1 => ab_jn (κ := Int32 → Option (Int32 × ab_H)) (fun (z2 : Int32) => ab_bd (ab_fw h x0 12 0 (.int z2)) fun h3 => ab_bd (ab_fi h3 x0 12 0) fun v4 => (if v4 ≤ 0 then ab_ck (ab_io h3 x0 12 = true) (ab_bd (fX12_putsAside F x0 h3) fun h6 => ab_ck (ab_io h6 x0 12 = true) (ab_bd (fX12_tries F x0 x1 h6) fun v7 => some (v7.1, v7.2))) else some (nI 0, h3))) fun j8 => (if v1 = 0 then j8 (nI 1) else j8 (nI 0))
set_option maxRecDepth 100000 in
set_option maxHeartbeats 4000000 in
theorem wX12_trial {l : Launch} (hl : l.stackTraces = false) (F : Nat) (x0 : Nat) (x1 : Int32) (h : ab_H) : ab_S l mX12_trial (fun y : (Int32 × ab_H) => ((.inl (some (.int y.1)), y.2) : ab_R × ab_H)) 0 0 (fX12_trial F x0 x1 h) 0 [(0, .ref x0), (1, .int x1)] [] h := by
  unfold fX12_trial
  refine ab_aload_n (pc := 0) (n := 0) (i := 0) (j := 0) (by decide +kernel) rfl rfl ?_
  refine ab_iload_n (pc := 1) (n := 1) (i := 1) (j := 1) (by decide +kernel) rfl rfl ?_
  refine ab_iconst (pc := 2) (n := 0) (v := nI 0) (by decide +kernel) rfl ?_
  refine ab_bipush (pc := 3) (n := 30) (v := nI 30) (by decide +kernel) (by decide) ?_
  refine ab_callSi (As := [.int x1, .int (nI 0), .int (nI 30)]) (st := [.ref x0]) (pc := 5) lk_X12_53 rfl rfl rfl (by decide) rfl (Nat.le_of_ble_eq_true rfl) (by decide +kernel) (fun y9 e9 => okX12_isIn hl e9) (fun v1 ev1 => ?_)
  refine ab_jr (fun k9 : Int32 → Option (Int32 × ab_H) => ∀ (z2 : Int32), ab_S l mX12_trial (fun y : (Int32 × ab_H) => ((.inl (some (.int y.1)), y.2) : ab_R × ab_H)) 0 0 (k9 z2) 16 [(0, .ref x0), (1, .int x1)] [.int z2, .ref x0] h) ?_ (fun j8 hj8 => ?_)
  · intro z2
    refine ab_put (pc := 16) fl_X12_50_12 rfl (fun _ => rfl) (fun _ => rfl) (by decide +kernel) (fun h3 eh3 => ?_)
    refine ab_aload_n (pc := 19) (n := 0) (i := 0) (j := 0) (by decide +kernel) rfl rfl ?_
    refine ab_getI (pc := 20) fl_X12_50_12 (by decide +kernel) (fun v4 ev4 => ?_)
    refine ab_if_le (off := 5) (pc := 23) (tgt := 28) (by decide +kernel) (by decide) (fun g5 => ?_) (fun g5 => ?_)
    · refine ab_aload_n (pc := 28) (n := 0) (i := 0) (j := 0) (by decide +kernel) rfl rfl ?_
      refine ab_callVw (As := []) (st := []) (pc := 29) lk_X12_169_12 rfl rfl rfl (by decide) rfl (Nat.le_of_ble_eq_true rfl) (by decide +kernel) (fun y9 e9 => okX12_putsAside hl (F := F) e9) (fun h6 eh6 => ?_)
      refine ab_aload_n (pc := 32) (n := 0) (i := 0) (j := 0) (by decide +kernel) rfl rfl ?_
      refine ab_iload_n (pc := 33) (n := 1) (i := 1) (j := 1) (by decide +kernel) rfl rfl ?_
      refine ab_callVj (As := [.int x1]) (st := []) (pc := 34) lk_X12_375_12 rfl rfl rfl (by decide) rfl (Nat.le_of_ble_eq_true rfl) (by decide +kernel) (fun y9 e9 => okX12_tries hl (F := F) e9) (fun v7 ev7 => ?_)
      exact ab_iret (pc := 37) (by decide +kernel) rfl rfl (Nat.le_of_ble_eq_true rfl) (Nat.le_of_ble_eq_true rfl)
    · refine ab_iconst (pc := 26) (n := 0) (v := nI 0) (by decide +kernel) rfl ?_
      exact ab_iret (pc := 27) (by decide +kernel) rfl rfl (Nat.le_of_ble_eq_true rfl) (Nat.le_of_ble_eq_true rfl)
  · refine ab_if_ne (off := 7) (pc := 8) (tgt := 15) (by decide +kernel) (by decide) (fun g9 => ?_) (fun g9 => ?_)
    · refine ab_iconst (pc := 11) (n := 1) (v := nI 1) (by decide +kernel) rfl ?_
      refine ab_goto (pc := 12) (off := 4) (tgt := 16) (by decide +kernel) (by decide) ?_
      exact hj8 (nI 1)
    · refine ab_iconst (pc := 15) (n := 0) (v := nI 0) (by decide +kernel) rfl ?_
      exact hj8 (nI 0)
set_option maxRecDepth 100000 in
set_option maxHeartbeats 4000000 in
theorem okX12_trial {l : Launch} (hl : l.stackTraces = false) {F : Nat} {x0 : Nat} {x1 : Int32} {h : ab_H} {y : (Int32 × ab_H)} (e : fX12_trial F x0 x1 h = some y) : ab_Met l mX12_trial [.ref x0, .int x1] h (.inl (some (.int y.1)), y.2) := ab_ofS (io := (fun y : (Int32 × ab_H) => ((.inl (some (.int y.1)), y.2) : ab_R × ab_H))) (x := y) hl (by decide) rfl (Nat.le_of_ble_eq_true rfl) (wX12_trial hl F x0 x1 h) e
def mX12_span : ab_M := (yX12_span, cX12_span, 6, (some .int), { frames := 38, cells := 0, slots := 0, locals := 850 })
theorem iX12_span : ab_MI mX12_span 2 := ⟨kw_29335a7925, kw_30b3f7d7c6, by decide +kernel⟩
def fX12_span_37 (F : Nat) (x0 : Nat) (x1 : Int32) (x2 : Int32) : Nat → Int32 → Int32 → ab_H → Option (Int32 × ab_H)
  | 0, _, _, _ => none
  | n + 1, x3, x4, h => (if x4 ≤ (nI 6) then ab_bd (ab_fr h x0 12 1) fun v8 => ab_bd (ab_iw 0 h v8 (nI 9) x4) fun h9 => ab_ck (ab_io h9 x0 12 = true) (ab_bd (fX12_tries F x0 x1 h9) fun v10 => (if x3 = (-1 : Int32) then fX12_span_37 F x0 x1 x2 n v10.1 (x4 + nI 1) v10.2 else (if x2 = 0 then ab_bd (fX12_lesser x3 v10.1 v10.2) fun v13 => fX12_span_37 F x0 x1 x2 n v13 (x4 + nI 1) v10.2 else ab_bd (fX12_greater x3 v10.1 v10.2) fun v14 => fX12_span_37 F x0 x1 x2 n v14 (x4 + nI 1) v10.2))) else some (x3, h))
def fX12_span (F : Nat) (x0 : Nat) (x1 : Int32) (x2 : Int32) (h : ab_H) : Option (Int32 × ab_H) := ab_bd (fX12_isIn x1 (nI 0) (nI 30) h) fun v1 => ab_jn (κ := Int32 → Option (Int32 × ab_H)) (fun (z2 : Int32) => ab_bd (ab_fw h x0 12 0 (.int z2)) fun h3 => ab_bd (ab_fi h3 x0 12 0) fun v4 => (if v4 ≤ 0 then ab_ck (ab_io h3 x0 12 = true) (ab_bd (fX12_putsAside F x0 h3) fun h6 => fX12_span_37 F x0 x1 x2 F (-1 : Int32) (nI 1) h6) else some (nI 0, h3))) fun j15 => (if v1 = 0 then j15 (nI 1) else j15 (nI 0))
set_option maxRecDepth 100000 in
set_option maxHeartbeats 4000000 in
theorem lX12_span_37 {l : Launch} (hl : l.stackTraces = false) (F : Nat) (x0 : Nat) (x1 : Int32) (x2 : Int32) : ∀ (n : Nat) (x3 : Int32) (x4 : Int32) (h : ab_H), ab_S l mX12_span (fun y : (Int32 × ab_H) => ((.inl (some (.int y.1)), y.2) : ab_R × ab_H)) 0 0 (fX12_span_37 F x0 x1 x2 n x3 x4 h) 37 [(0, .ref x0), (1, .int x1), (2, .int x2), (3, .int x3), (4, .int x4)] [] h := by
  intro n
  induction n with
  | zero =>
    intro x3 x4 h
    exact ab_none
  | succ n ih =>
    intro x3 x4 h
    rw [fX12_span_37]
    refine ab_iload (pc := 37) (i := 4) (j := 4) (by decide +kernel) rfl ?_
    refine ab_bipush (pc := 39) (n := 6) (v := nI 6) (by decide +kernel) (by decide) ?_
    refine ab_icmp_gt (off := 55) (pc := 41) (tgt := 96) (by decide +kernel) (by decide) (fun g7 => ?_) (fun g7 => ?_)
    · refine ab_aload_n (pc := 44) (n := 0) (i := 0) (j := 0) (by decide +kernel) rfl rfl ?_
      refine ab_getR (pc := 45) fl_X12_7_12 (by decide +kernel) (fun v8 ev8 => ?_)
      refine ab_bipush (pc := 48) (n := 9) (v := nI 9) (by decide +kernel) (by decide) ?_
      refine ab_iload (pc := 50) (i := 4) (j := 4) (by decide +kernel) rfl ?_
      refine ab_iast (pc := 52) (by decide +kernel) (fun h9 eh9 => ?_)
      refine ab_aload_n (pc := 53) (n := 0) (i := 0) (j := 0) (by decide +kernel) rfl rfl ?_
      refine ab_iload_n (pc := 54) (n := 1) (i := 1) (j := 1) (by decide +kernel) rfl rfl ?_
      refine ab_callVj (As := [.int x1]) (st := []) (pc := 55) lk_X12_375_12 rfl rfl rfl (by decide) rfl (Nat.le_of_ble_eq_true rfl) (by decide +kernel) (fun y9 e9 => okX12_tries hl (F := F) e9) (fun v10 ev10 => ?_)
      refine ab_istore (pc := 58) (i := 5) (lv' := [(0, .ref x0), (1, .int x1), (2, .int x2), (3, .int x3), (4, .int x4), (5, .int v10.1)]) (by decide +kernel) (Nat.le_of_ble_eq_true rfl) rfl rfl ?_
      refine ab_iload_n (pc := 60) (n := 3) (i := 3) (j := 3) (by decide +kernel) rfl rfl ?_
      refine ab_iconst (pc := 61) (n := -1) (v := (-1 : Int32)) (by decide +kernel) rfl ?_
      refine ab_icmp_ne (off := 8) (pc := 62) (tgt := 70) (by decide +kernel) (by decide) (fun g11 => ?_) (fun g11 => ?_)
      · refine ab_iload (pc := 65) (i := 5) (j := 5) (by decide +kernel) rfl ?_
        refine ab_goto (pc := 67) (off := 22) (tgt := 89) (by decide +kernel) (by decide) ?_
        refine ab_istore_n (pc := 89) (n := 3) (i := 3) (lv' := [(0, .ref x0), (1, .int x1), (2, .int x2), (3, .int v10.1), (4, .int x4), (5, .int v10.1)]) (by decide +kernel) rfl (Nat.le_of_ble_eq_true rfl) rfl rfl ?_
        refine ab_iinc (pc := 90) (i := 4) (n := 1) (j := 4) (d := nI 1) (lv' := [(0, .ref x0), (1, .int x1), (2, .int x2), (3, .int v10.1), (4, .int (x4 + nI 1)), (5, .int v10.1)]) (by decide +kernel) rfl rfl (Nat.le_of_ble_eq_true rfl) rfl rfl ?_
        refine ab_goto (pc := 93) (off := (-56)) (tgt := 37) (by decide +kernel) (by decide) ?_
        refine ab_few [0, 1, 2, 3, 4] (lv' := [(0, .ref x0), (1, .int x1), (2, .int x2), (3, .int v10.1), (4, .int (x4 + nI 1))]) rfl ?_
        exact ih v10.1 (x4 + nI 1) v10.2
      · refine ab_iload_n (pc := 70) (n := 2) (i := 2) (j := 2) (by decide +kernel) rfl rfl ?_
        refine ab_if_eq (off := 12) (pc := 71) (tgt := 83) (by decide +kernel) (by decide) (fun g12 => ?_) (fun g12 => ?_)
        · refine ab_iload_n (pc := 83) (n := 3) (i := 3) (j := 3) (by decide +kernel) rfl rfl ?_
          refine ab_iload (pc := 84) (i := 5) (j := 5) (by decide +kernel) rfl ?_
          refine ab_callSi (As := [.int x3, .int v10.1]) (st := []) (pc := 86) lk_X12_272 rfl rfl rfl (by decide) rfl (Nat.le_of_ble_eq_true rfl) (by decide +kernel) (fun y9 e9 => okX12_lesser hl e9) (fun v13 ev13 => ?_)
          refine ab_istore_n (pc := 89) (n := 3) (i := 3) (lv' := [(0, .ref x0), (1, .int x1), (2, .int x2), (3, .int v13), (4, .int x4), (5, .int v10.1)]) (by decide +kernel) rfl (Nat.le_of_ble_eq_true rfl) rfl rfl ?_
          refine ab_iinc (pc := 90) (i := 4) (n := 1) (j := 4) (d := nI 1) (lv' := [(0, .ref x0), (1, .int x1), (2, .int x2), (3, .int v13), (4, .int (x4 + nI 1)), (5, .int v10.1)]) (by decide +kernel) rfl rfl (Nat.le_of_ble_eq_true rfl) rfl rfl ?_
          refine ab_goto (pc := 93) (off := (-56)) (tgt := 37) (by decide +kernel) (by decide) ?_
          refine ab_few [0, 1, 2, 3, 4] (lv' := [(0, .ref x0), (1, .int x1), (2, .int x2), (3, .int v13), (4, .int (x4 + nI 1))]) rfl ?_
          exact ih v13 (x4 + nI 1) v10.2
        · refine ab_iload_n (pc := 74) (n := 3) (i := 3) (j := 3) (by decide +kernel) rfl rfl ?_
          refine ab_iload (pc := 75) (i := 5) (j := 5) (by decide +kernel) rfl ?_
          refine ab_callSi (As := [.int x3, .int v10.1]) (st := []) (pc := 77) lk_X12_150 rfl rfl rfl (by decide) rfl (Nat.le_of_ble_eq_true rfl) (by decide +kernel) (fun y9 e9 => okX12_greater hl e9) (fun v14 ev14 => ?_)
          refine ab_goto (pc := 80) (off := 9) (tgt := 89) (by decide +kernel) (by decide) ?_
          refine ab_istore_n (pc := 89) (n := 3) (i := 3) (lv' := [(0, .ref x0), (1, .int x1), (2, .int x2), (3, .int v14), (4, .int x4), (5, .int v10.1)]) (by decide +kernel) rfl (Nat.le_of_ble_eq_true rfl) rfl rfl ?_
          refine ab_iinc (pc := 90) (i := 4) (n := 1) (j := 4) (d := nI 1) (lv' := [(0, .ref x0), (1, .int x1), (2, .int x2), (3, .int v14), (4, .int (x4 + nI 1)), (5, .int v10.1)]) (by decide +kernel) rfl rfl (Nat.le_of_ble_eq_true rfl) rfl rfl ?_
          refine ab_goto (pc := 93) (off := (-56)) (tgt := 37) (by decide +kernel) (by decide) ?_
          refine ab_few [0, 1, 2, 3, 4] (lv' := [(0, .ref x0), (1, .int x1), (2, .int x2), (3, .int v14), (4, .int (x4 + nI 1))]) rfl ?_
          exact ih v14 (x4 + nI 1) v10.2
    · refine ab_iload_n (pc := 96) (n := 3) (i := 3) (j := 3) (by decide +kernel) rfl rfl ?_
      exact ab_iret (pc := 97) (by decide +kernel) rfl rfl (Nat.le_of_ble_eq_true rfl) (Nat.le_of_ble_eq_true rfl)
set_option maxRecDepth 100000 in
set_option maxHeartbeats 4000000 in
theorem wX12_span {l : Launch} (hl : l.stackTraces = false) (F : Nat) (x0 : Nat) (x1 : Int32) (x2 : Int32) (h : ab_H) : ab_S l mX12_span (fun y : (Int32 × ab_H) => ((.inl (some (.int y.1)), y.2) : ab_R × ab_H)) 0 0 (fX12_span F x0 x1 x2 h) 0 [(0, .ref x0), (1, .int x1), (2, .int x2)] [] h := by
  unfold fX12_span
  refine ab_aload_n (pc := 0) (n := 0) (i := 0) (j := 0) (by decide +kernel) rfl rfl ?_
  refine ab_iload_n (pc := 1) (n := 1) (i := 1) (j := 1) (by decide +kernel) rfl rfl ?_
  refine ab_iconst (pc := 2) (n := 0) (v := nI 0) (by decide +kernel) rfl ?_
  refine ab_bipush (pc := 3) (n := 30) (v := nI 30) (by decide +kernel) (by decide) ?_
  refine ab_callSi (As := [.int x1, .int (nI 0), .int (nI 30)]) (st := [.ref x0]) (pc := 5) lk_X12_53 rfl rfl rfl (by decide) rfl (Nat.le_of_ble_eq_true rfl) (by decide +kernel) (fun y9 e9 => okX12_isIn hl e9) (fun v1 ev1 => ?_)
  refine ab_jr (fun k9 : Int32 → Option (Int32 × ab_H) => ∀ (z2 : Int32), ab_S l mX12_span (fun y : (Int32 × ab_H) => ((.inl (some (.int y.1)), y.2) : ab_R × ab_H)) 0 0 (k9 z2) 16 [(0, .ref x0), (1, .int x1), (2, .int x2)] [.int z2, .ref x0] h) ?_ (fun j15 hj15 => ?_)
  · intro z2
    refine ab_put (pc := 16) fl_X12_50_12 rfl (fun _ => rfl) (fun _ => rfl) (by decide +kernel) (fun h3 eh3 => ?_)
    refine ab_aload_n (pc := 19) (n := 0) (i := 0) (j := 0) (by decide +kernel) rfl rfl ?_
    refine ab_getI (pc := 20) fl_X12_50_12 (by decide +kernel) (fun v4 ev4 => ?_)
    refine ab_if_le (off := 5) (pc := 23) (tgt := 28) (by decide +kernel) (by decide) (fun g5 => ?_) (fun g5 => ?_)
    · refine ab_aload_n (pc := 28) (n := 0) (i := 0) (j := 0) (by decide +kernel) rfl rfl ?_
      refine ab_callVw (As := []) (st := []) (pc := 29) lk_X12_169_12 rfl rfl rfl (by decide) rfl (Nat.le_of_ble_eq_true rfl) (by decide +kernel) (fun y9 e9 => okX12_putsAside hl (F := F) e9) (fun h6 eh6 => ?_)
      refine ab_iconst (pc := 32) (n := -1) (v := (-1 : Int32)) (by decide +kernel) rfl ?_
      refine ab_istore_n (pc := 33) (n := 3) (i := 3) (lv' := [(0, .ref x0), (1, .int x1), (2, .int x2), (3, .int (-1 : Int32))]) (by decide +kernel) rfl (Nat.le_of_ble_eq_true rfl) rfl rfl ?_
      refine ab_iconst (pc := 34) (n := 1) (v := nI 1) (by decide +kernel) rfl ?_
      refine ab_istore (pc := 35) (i := 4) (lv' := [(0, .ref x0), (1, .int x1), (2, .int x2), (3, .int (-1 : Int32)), (4, .int (nI 1))]) (by decide +kernel) (Nat.le_of_ble_eq_true rfl) rfl rfl ?_
      refine lX12_span_37 hl F x0 x1 x2 F (-1 : Int32) (nI 1) h6
    · refine ab_iconst (pc := 26) (n := 0) (v := nI 0) (by decide +kernel) rfl ?_
      exact ab_iret (pc := 27) (by decide +kernel) rfl rfl (Nat.le_of_ble_eq_true rfl) (Nat.le_of_ble_eq_true rfl)
  · refine ab_if_ne (off := 7) (pc := 8) (tgt := 15) (by decide +kernel) (by decide) (fun g16 => ?_) (fun g16 => ?_)
    · refine ab_iconst (pc := 11) (n := 1) (v := nI 1) (by decide +kernel) rfl ?_
      refine ab_goto (pc := 12) (off := 4) (tgt := 16) (by decide +kernel) (by decide) ?_
      exact hj15 (nI 1)
    · refine ab_iconst (pc := 15) (n := 0) (v := nI 0) (by decide +kernel) rfl ?_
      exact hj15 (nI 0)
set_option maxRecDepth 100000 in
set_option maxHeartbeats 4000000 in
theorem okX12_span {l : Launch} (hl : l.stackTraces = false) {F : Nat} {x0 : Nat} {x1 : Int32} {x2 : Int32} {h : ab_H} {y : (Int32 × ab_H)} (e : fX12_span F x0 x1 x2 h = some y) : ab_Met l mX12_span [.ref x0, .int x1, .int x2] h (.inl (some (.int y.1)), y.2) := ab_ofS (io := (fun y : (Int32 × ab_H) => ((.inl (some (.int y.1)), y.2) : ab_R × ab_H))) (x := y) hl (by decide) rfl (Nat.le_of_ble_eq_true rfl) (wX12_span hl F x0 x1 x2 h) e
