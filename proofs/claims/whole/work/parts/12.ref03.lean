/-! ===== reference (by program, decomp.py) ===== -/
def mX12_forged : ab_M := (yX12_forged, cX12_forged, 5, (some .int), { frames := 2, cells := 0, slots := 0, locals := 45 })
theorem iX12_forged : ab_MI mX12_forged 1 := ⟨kw_1f27e9aa1e, kw_30b3f7d7c6, by decide +kernel⟩
theorem lk_X12_366_12 : ab_LV RX12 366 12 mX12_marksOf 1 := ⟨RX12, rfl, iX12_marksOf, kw_a54777b555, kw_592c5f06d0, kw_91a25bf4a1⟩
def fX12_forged_33 (F : Nat) (x0 : Nat) (x1 : Int32) (h : ab_H) (k82 : Int32 → Option (Int32 × ab_H)) : Nat → Int32 → Int32 → Option (Int32 × ab_H)
  | 0, _, _ => none
  | n + 1, x2, x3 => ab_bd (ab_fr h x0 12 1) fun v6 => ab_bd (ab_ia 0 h v6 (nI 4)) fun v7 => (if x3 < v7 then ab_bd (ab_fr h x0 12 1) fun v9 => ab_bd (ab_ia 0 h v9 ((nI 272) + x3)) fun v10 => (if v10 = (-1 : Int32) then fX12_forged_33 F x0 x1 h k82 n (x2 ||| (nI 0)) (x3 + nI 1) else ab_bd (ab_fr h x0 12 1) fun v12 => ab_bd (ab_ia 0 h v12 ((nI 272) + x3)) fun v13 => fX12_forged_33 F x0 x1 h k82 n (x2 ||| ((nI 1) <<< (v13 &&& 31))) (x3 + nI 1)) else k82 x2)
def fX12_forged_87 (F : Nat) (x0 : Nat) (x1 : Int32) (x2 : Int32) (h : ab_H) : Nat → Int32 → Int32 → Option (Int32 × ab_H)
  | 0, _, _ => none
  | n + 1, x3, x4 => (if x4 ≤ x2 then (if (x4 &&& (x2 ^^^ (-1 : Int32))) = 0 then ab_jn (κ := Option (Int32 × ab_H)) (ab_ck (ab_io h x0 12 = true) (ab_bd (fX12_marksOf F x0 x4 h) fun v17 => (if (x1 &&& (v17 ^^^ (-1 : Int32))) = 0 then fX12_forged_87 F x0 x1 x2 h n x4 (x4 + nI 1) else fX12_forged_87 F x0 x1 x2 h n x3 (x4 + nI 1)))) fun j19 => (if x3 = (-1 : Int32) then j19 else ab_bd (fX12_bits F x4 h) fun v21 => ab_bd (fX12_bits F x3 h) fun v22 => (if v21 < v22 then j19 else fX12_forged_87 F x0 x1 x2 h n x3 (x4 + nI 1))) else fX12_forged_87 F x0 x1 x2 h n x3 (x4 + nI 1)) else some (x3, h))
def fX12_forged (F : Nat) (x0 : Nat) (x1 : Int32) (h : ab_H) : Option (Int32 × ab_H) := ab_bd (fX12_isIn x1 (nI 0) (nI 255) h) fun v1 => ab_jn (κ := Int32 → Option (Int32 × ab_H)) (fun (z2 : Int32) => ab_bd (ab_fw h x0 12 0 (.int z2)) fun h3 => ab_bd (ab_fi h3 x0 12 0) fun v4 => (if v4 ≤ 0 then fX12_forged_33 F x0 x1 h3 (fun (z14 : Int32) => fX12_forged_87 F x0 x1 z14 h3 F (-1 : Int32) (nI 0)) F (nI 0) (nI 0) else some (nI 0, h3))) fun j24 => (if v1 = 0 then j24 (nI 1) else j24 (nI 0))
set_option maxRecDepth 100000 in
set_option maxHeartbeats 4000000 in
theorem lX12_forged_33 {l : Launch} (hl : l.stackTraces = false) (F : Nat) (x0 : Nat) (x1 : Int32) (h : ab_H) {k82 : Int32 → Option (Int32 × ab_H)} (hk82 : ∀ (x2 : Int32), ab_S l mX12_forged (fun y : (Int32 × ab_H) => ((.inl (some (.int y.1)), y.2) : ab_R × ab_H)) 0 0 (k82 x2) 82 [(0, .ref x0), (1, .int x1), (2, .int x2)] [] h) : ∀ (n : Nat) (x2 : Int32) (x3 : Int32), ab_S l mX12_forged (fun y : (Int32 × ab_H) => ((.inl (some (.int y.1)), y.2) : ab_R × ab_H)) 0 0 (fX12_forged_33 F x0 x1 h k82 n x2 x3) 33 [(0, .ref x0), (1, .int x1), (2, .int x2), (3, .int x3)] [] h := by
  intro n
  induction n with
  | zero =>
    intro x2 x3
    exact ab_none
  | succ n ih =>
    intro x2 x3
    rw [fX12_forged_33]
    refine ab_iload_n (pc := 33) (n := 3) (i := 3) (j := 3) (by decide +kernel) rfl rfl ?_
    refine ab_aload_n (pc := 34) (n := 0) (i := 0) (j := 0) (by decide +kernel) rfl rfl ?_
    refine ab_getR (pc := 35) fl_X12_7_12 (by decide +kernel) (fun v6 ev6 => ?_)
    refine ab_iconst (pc := 38) (n := 4) (v := nI 4) (by decide +kernel) rfl ?_
    refine ab_iald (pc := 39) (by decide +kernel) (fun v7 ev7 => ?_)
    refine ab_icmp_ge (off := 42) (pc := 40) (tgt := 82) (by decide +kernel) (by decide) (fun g8 => ?_) (fun g8 => ?_)
    · refine ab_iload_n (pc := 43) (n := 2) (i := 2) (j := 2) (by decide +kernel) rfl rfl ?_
      refine ab_aload_n (pc := 44) (n := 0) (i := 0) (j := 0) (by decide +kernel) rfl rfl ?_
      refine ab_getR (pc := 45) fl_X12_7_12 (by decide +kernel) (fun v9 ev9 => ?_)
      refine ab_sipush (pc := 48) (n := 272) (v := nI 272) (by decide +kernel) (by decide) ?_
      refine ab_iload_n (pc := 51) (n := 3) (i := 3) (j := 3) (by decide +kernel) rfl rfl ?_
      refine ab_iadd (pc := 52) (by decide +kernel) ?_
      refine ab_iald (pc := 53) (by decide +kernel) (fun v10 ev10 => ?_)
      refine ab_iconst (pc := 54) (n := -1) (v := (-1 : Int32)) (by decide +kernel) rfl ?_
      refine ab_icmp_ne (off := 7) (pc := 55) (tgt := 62) (by decide +kernel) (by decide) (fun g11 => ?_) (fun g11 => ?_)
      · refine ab_iconst (pc := 58) (n := 0) (v := nI 0) (by decide +kernel) rfl ?_
        refine ab_goto (pc := 59) (off := 15) (tgt := 74) (by decide +kernel) (by decide) ?_
        refine ab_ior (pc := 74) (by decide +kernel) ?_
        refine ab_istore_n (pc := 75) (n := 2) (i := 2) (lv' := [(0, .ref x0), (1, .int x1), (2, .int (x2 ||| (nI 0))), (3, .int x3)]) (by decide +kernel) rfl (Nat.le_of_ble_eq_true rfl) rfl rfl ?_
        refine ab_iinc (pc := 76) (i := 3) (n := 1) (j := 3) (d := nI 1) (lv' := [(0, .ref x0), (1, .int x1), (2, .int (x2 ||| (nI 0))), (3, .int (x3 + nI 1))]) (by decide +kernel) rfl rfl (Nat.le_of_ble_eq_true rfl) rfl rfl ?_
        refine ab_goto (pc := 79) (off := (-46)) (tgt := 33) (by decide +kernel) (by decide) ?_
        exact ih (x2 ||| (nI 0)) (x3 + nI 1)
      · refine ab_iconst (pc := 62) (n := 1) (v := nI 1) (by decide +kernel) rfl ?_
        refine ab_aload_n (pc := 63) (n := 0) (i := 0) (j := 0) (by decide +kernel) rfl rfl ?_
        refine ab_getR (pc := 64) fl_X12_7_12 (by decide +kernel) (fun v12 ev12 => ?_)
        refine ab_sipush (pc := 67) (n := 272) (v := nI 272) (by decide +kernel) (by decide) ?_
        refine ab_iload_n (pc := 70) (n := 3) (i := 3) (j := 3) (by decide +kernel) rfl rfl ?_
        refine ab_iadd (pc := 71) (by decide +kernel) ?_
        refine ab_iald (pc := 72) (by decide +kernel) (fun v13 ev13 => ?_)
        refine ab_ishl (pc := 73) (by decide +kernel) ?_
        refine ab_ior (pc := 74) (by decide +kernel) ?_
        refine ab_istore_n (pc := 75) (n := 2) (i := 2) (lv' := [(0, .ref x0), (1, .int x1), (2, .int (x2 ||| ((nI 1) <<< (v13 &&& 31)))), (3, .int x3)]) (by decide +kernel) rfl (Nat.le_of_ble_eq_true rfl) rfl rfl ?_
        refine ab_iinc (pc := 76) (i := 3) (n := 1) (j := 3) (d := nI 1) (lv' := [(0, .ref x0), (1, .int x1), (2, .int (x2 ||| ((nI 1) <<< (v13 &&& 31)))), (3, .int (x3 + nI 1))]) (by decide +kernel) rfl rfl (Nat.le_of_ble_eq_true rfl) rfl rfl ?_
        refine ab_goto (pc := 79) (off := (-46)) (tgt := 33) (by decide +kernel) (by decide) ?_
        exact ih (x2 ||| ((nI 1) <<< (v13 &&& 31))) (x3 + nI 1)
    · refine ab_few [0, 1, 2] (lv' := [(0, .ref x0), (1, .int x1), (2, .int x2)]) rfl ?_
      exact hk82 x2
set_option maxRecDepth 100000 in
set_option maxHeartbeats 4000000 in
theorem lX12_forged_87 {l : Launch} (hl : l.stackTraces = false) (F : Nat) (x0 : Nat) (x1 : Int32) (x2 : Int32) (h : ab_H) : ∀ (n : Nat) (x3 : Int32) (x4 : Int32), ab_S l mX12_forged (fun y : (Int32 × ab_H) => ((.inl (some (.int y.1)), y.2) : ab_R × ab_H)) 0 0 (fX12_forged_87 F x0 x1 x2 h n x3 x4) 87 [(0, .ref x0), (1, .int x1), (2, .int x2), (3, .int x3), (4, .int x4)] [] h := by
  intro n
  induction n with
  | zero =>
    intro x3 x4
    exact ab_none
  | succ n ih =>
    intro x3 x4
    rw [fX12_forged_87]
    refine ab_iload (pc := 87) (i := 4) (j := 4) (by decide +kernel) rfl ?_
    refine ab_iload_n (pc := 89) (n := 2) (i := 2) (j := 2) (by decide +kernel) rfl rfl ?_
    refine ab_icmp_gt (off := 54) (pc := 90) (tgt := 144) (by decide +kernel) (by decide) (fun g15 => ?_) (fun g15 => ?_)
    · refine ab_iload (pc := 93) (i := 4) (j := 4) (by decide +kernel) rfl ?_
      refine ab_iload_n (pc := 95) (n := 2) (i := 2) (j := 2) (by decide +kernel) rfl rfl ?_
      refine ab_iconst (pc := 96) (n := -1) (v := (-1 : Int32)) (by decide +kernel) rfl ?_
      refine ab_ixor (pc := 97) (by decide +kernel) ?_
      refine ab_iand (pc := 98) (by decide +kernel) ?_
      refine ab_if_ne (off := 39) (pc := 99) (tgt := 138) (by decide +kernel) (by decide) (fun g16 => ?_) (fun g16 => ?_)
      · refine ab_iload_n (pc := 102) (n := 3) (i := 3) (j := 3) (by decide +kernel) rfl rfl ?_
        refine ab_iconst (pc := 103) (n := -1) (v := (-1 : Int32)) (by decide +kernel) rfl ?_
        refine ab_jr (fun k9 : Option (Int32 × ab_H) => ab_S l mX12_forged (fun y : (Int32 × ab_H) => ((.inl (some (.int y.1)), y.2) : ab_R × ab_H)) 0 0 (k9) 122 [(0, .ref x0), (1, .int x1), (2, .int x2), (3, .int x3), (4, .int x4)] [] h) ?_ (fun j19 hj19 => ?_)
        · refine ab_iload_n (pc := 122) (n := 1) (i := 1) (j := 1) (by decide +kernel) rfl rfl ?_
          refine ab_aload_n (pc := 123) (n := 0) (i := 0) (j := 0) (by decide +kernel) rfl rfl ?_
          refine ab_iload (pc := 124) (i := 4) (j := 4) (by decide +kernel) rfl ?_
          refine ab_callVi (As := [.int x4]) (st := [.int x1]) (pc := 126) lk_X12_366_12 rfl rfl rfl (by decide) rfl (Nat.le_of_ble_eq_true rfl) (by decide +kernel) (fun y9 e9 => okX12_marksOf hl (F := F) e9) (fun v17 ev17 => ?_)
          refine ab_iconst (pc := 129) (n := -1) (v := (-1 : Int32)) (by decide +kernel) rfl ?_
          refine ab_ixor (pc := 130) (by decide +kernel) ?_
          refine ab_iand (pc := 131) (by decide +kernel) ?_
          refine ab_if_ne (off := 6) (pc := 132) (tgt := 138) (by decide +kernel) (by decide) (fun g18 => ?_) (fun g18 => ?_)
          · refine ab_iload (pc := 135) (i := 4) (j := 4) (by decide +kernel) rfl ?_
            refine ab_istore_n (pc := 137) (n := 3) (i := 3) (lv' := [(0, .ref x0), (1, .int x1), (2, .int x2), (3, .int x4), (4, .int x4)]) (by decide +kernel) rfl (Nat.le_of_ble_eq_true rfl) rfl rfl ?_
            refine ab_iinc (pc := 138) (i := 4) (n := 1) (j := 4) (d := nI 1) (lv' := [(0, .ref x0), (1, .int x1), (2, .int x2), (3, .int x4), (4, .int (x4 + nI 1))]) (by decide +kernel) rfl rfl (Nat.le_of_ble_eq_true rfl) rfl rfl ?_
            refine ab_goto (pc := 141) (off := (-54)) (tgt := 87) (by decide +kernel) (by decide) ?_
            exact ih x4 (x4 + nI 1)
          · refine ab_iinc (pc := 138) (i := 4) (n := 1) (j := 4) (d := nI 1) (lv' := [(0, .ref x0), (1, .int x1), (2, .int x2), (3, .int x3), (4, .int (x4 + nI 1))]) (by decide +kernel) rfl rfl (Nat.le_of_ble_eq_true rfl) rfl rfl ?_
            refine ab_goto (pc := 141) (off := (-54)) (tgt := 87) (by decide +kernel) (by decide) ?_
            exact ih x3 (x4 + nI 1)
        · refine ab_icmp_eq (off := 18) (pc := 104) (tgt := 122) (by decide +kernel) (by decide) (fun g20 => ?_) (fun g20 => ?_)
          · exact hj19
          · refine ab_iload (pc := 107) (i := 4) (j := 4) (by decide +kernel) rfl ?_
            refine ab_callSi (As := [.int x4]) (st := []) (pc := 109) lk_X12_242 rfl rfl rfl (by decide) rfl (Nat.le_of_ble_eq_true rfl) (by decide +kernel) (fun y9 e9 => okX12_bits hl (F := F) e9) (fun v21 ev21 => ?_)
            refine ab_iload_n (pc := 112) (n := 3) (i := 3) (j := 3) (by decide +kernel) rfl rfl ?_
            refine ab_callSi (As := [.int x3]) (st := [.int v21]) (pc := 113) lk_X12_242 rfl rfl rfl (by decide) rfl (Nat.le_of_ble_eq_true rfl) (by decide +kernel) (fun y9 e9 => okX12_bits hl (F := F) e9) (fun v22 ev22 => ?_)
            refine ab_icmp_lt (off := 6) (pc := 116) (tgt := 122) (by decide +kernel) (by decide) (fun g23 => ?_) (fun g23 => ?_)
            · exact hj19
            · refine ab_goto (pc := 119) (off := 19) (tgt := 138) (by decide +kernel) (by decide) ?_
              refine ab_iinc (pc := 138) (i := 4) (n := 1) (j := 4) (d := nI 1) (lv' := [(0, .ref x0), (1, .int x1), (2, .int x2), (3, .int x3), (4, .int (x4 + nI 1))]) (by decide +kernel) rfl rfl (Nat.le_of_ble_eq_true rfl) rfl rfl ?_
              refine ab_goto (pc := 141) (off := (-54)) (tgt := 87) (by decide +kernel) (by decide) ?_
              exact ih x3 (x4 + nI 1)
      · refine ab_iinc (pc := 138) (i := 4) (n := 1) (j := 4) (d := nI 1) (lv' := [(0, .ref x0), (1, .int x1), (2, .int x2), (3, .int x3), (4, .int (x4 + nI 1))]) (by decide +kernel) rfl rfl (Nat.le_of_ble_eq_true rfl) rfl rfl ?_
        refine ab_goto (pc := 141) (off := (-54)) (tgt := 87) (by decide +kernel) (by decide) ?_
        exact ih x3 (x4 + nI 1)
    · refine ab_iload_n (pc := 144) (n := 3) (i := 3) (j := 3) (by decide +kernel) rfl rfl ?_
      exact ab_iret (pc := 145) (by decide +kernel) rfl rfl (Nat.le_of_ble_eq_true rfl) (Nat.le_of_ble_eq_true rfl)
set_option maxRecDepth 100000 in
set_option maxHeartbeats 4000000 in
theorem wX12_forged {l : Launch} (hl : l.stackTraces = false) (F : Nat) (x0 : Nat) (x1 : Int32) (h : ab_H) : ab_S l mX12_forged (fun y : (Int32 × ab_H) => ((.inl (some (.int y.1)), y.2) : ab_R × ab_H)) 0 0 (fX12_forged F x0 x1 h) 0 [(0, .ref x0), (1, .int x1)] [] h := by
  unfold fX12_forged
  refine ab_aload_n (pc := 0) (n := 0) (i := 0) (j := 0) (by decide +kernel) rfl rfl ?_
  refine ab_iload_n (pc := 1) (n := 1) (i := 1) (j := 1) (by decide +kernel) rfl rfl ?_
  refine ab_iconst (pc := 2) (n := 0) (v := nI 0) (by decide +kernel) rfl ?_
  refine ab_sipush (pc := 3) (n := 255) (v := nI 255) (by decide +kernel) (by decide) ?_
  refine ab_callSi (As := [.int x1, .int (nI 0), .int (nI 255)]) (st := [.ref x0]) (pc := 6) lk_X12_53 rfl rfl rfl (by decide) rfl (Nat.le_of_ble_eq_true rfl) (by decide +kernel) (fun y9 e9 => okX12_isIn hl e9) (fun v1 ev1 => ?_)
  refine ab_jr (fun k9 : Int32 → Option (Int32 × ab_H) => ∀ (z2 : Int32), ab_S l mX12_forged (fun y : (Int32 × ab_H) => ((.inl (some (.int y.1)), y.2) : ab_R × ab_H)) 0 0 (k9 z2) 17 [(0, .ref x0), (1, .int x1)] [.int z2, .ref x0] h) ?_ (fun j24 hj24 => ?_)
  · intro z2
    refine ab_put (pc := 17) fl_X12_50_12 rfl (fun _ => rfl) (fun _ => rfl) (by decide +kernel) (fun h3 eh3 => ?_)
    refine ab_aload_n (pc := 20) (n := 0) (i := 0) (j := 0) (by decide +kernel) rfl rfl ?_
    refine ab_getI (pc := 21) fl_X12_50_12 (by decide +kernel) (fun v4 ev4 => ?_)
    refine ab_if_le (off := 5) (pc := 24) (tgt := 29) (by decide +kernel) (by decide) (fun g5 => ?_) (fun g5 => ?_)
    · refine ab_iconst (pc := 29) (n := 0) (v := nI 0) (by decide +kernel) rfl ?_
      refine ab_istore_n (pc := 30) (n := 2) (i := 2) (lv' := [(0, .ref x0), (1, .int x1), (2, .int (nI 0))]) (by decide +kernel) rfl (Nat.le_of_ble_eq_true rfl) rfl rfl ?_
      refine ab_iconst (pc := 31) (n := 0) (v := nI 0) (by decide +kernel) rfl ?_
      refine ab_istore_n (pc := 32) (n := 3) (i := 3) (lv' := [(0, .ref x0), (1, .int x1), (2, .int (nI 0)), (3, .int (nI 0))]) (by decide +kernel) rfl (Nat.le_of_ble_eq_true rfl) rfl rfl ?_
      refine lX12_forged_33 hl F x0 x1 h3 ?_ F (nI 0) (nI 0)
      intro z14
      refine ab_iconst (pc := 82) (n := -1) (v := (-1 : Int32)) (by decide +kernel) rfl ?_
      refine ab_istore_n (pc := 83) (n := 3) (i := 3) (lv' := [(0, .ref x0), (1, .int x1), (2, .int z14), (3, .int (-1 : Int32))]) (by decide +kernel) rfl (Nat.le_of_ble_eq_true rfl) rfl rfl ?_
      refine ab_iconst (pc := 84) (n := 0) (v := nI 0) (by decide +kernel) rfl ?_
      refine ab_istore (pc := 85) (i := 4) (lv' := [(0, .ref x0), (1, .int x1), (2, .int z14), (3, .int (-1 : Int32)), (4, .int (nI 0))]) (by decide +kernel) (Nat.le_of_ble_eq_true rfl) rfl rfl ?_
      refine lX12_forged_87 hl F x0 x1 z14 h3 F (-1 : Int32) (nI 0)
    · refine ab_iconst (pc := 27) (n := 0) (v := nI 0) (by decide +kernel) rfl ?_
      exact ab_iret (pc := 28) (by decide +kernel) rfl rfl (Nat.le_of_ble_eq_true rfl) (Nat.le_of_ble_eq_true rfl)
  · refine ab_if_ne (off := 7) (pc := 9) (tgt := 16) (by decide +kernel) (by decide) (fun g25 => ?_) (fun g25 => ?_)
    · refine ab_iconst (pc := 12) (n := 1) (v := nI 1) (by decide +kernel) rfl ?_
      refine ab_goto (pc := 13) (off := 4) (tgt := 17) (by decide +kernel) (by decide) ?_
      exact hj24 (nI 1)
    · refine ab_iconst (pc := 16) (n := 0) (v := nI 0) (by decide +kernel) rfl ?_
      exact hj24 (nI 0)
set_option maxRecDepth 100000 in
set_option maxHeartbeats 4000000 in
theorem okX12_forged {l : Launch} (hl : l.stackTraces = false) {F : Nat} {x0 : Nat} {x1 : Int32} {h : ab_H} {y : (Int32 × ab_H)} (e : fX12_forged F x0 x1 h = some y) : ab_Met l mX12_forged [.ref x0, .int x1] h (.inl (some (.int y.1)), y.2) := ab_ofS (io := (fun y : (Int32 × ab_H) => ((.inl (some (.int y.1)), y.2) : ab_R × ab_H))) (x := y) hl (by decide) rfl (Nat.le_of_ble_eq_true rfl) (wX12_forged hl F x0 x1 h) e
def mX12_none : ab_M := (yX12_none, cX12_none, 5, (some .int), { frames := 0, cells := 0, slots := 0, locals := 0 })
theorem iX12_none : ab_MI mX12_none 1 := ⟨kw_0cf6493155, kw_30b3f7d7c6, by decide +kernel⟩
def fX12_none_12 (x0 : Int32) (h : ab_H) : Nat → Int32 → Int32 → Int32 → Option Int32
  | 0, _, _, _ => none
  | n + 1, x1, x2, x3 => (if x3 ≤ x0 then fX12_none_12 x0 h n x2 ((x3 - (nI 1)) * (x1 + x2)) (x3 + nI 1) else some x2)
def fX12_none (F : Nat) (x0 : Int32) (h : ab_H) : Option Int32 := (if x0 = 0 then some (nI 1) else fX12_none_12 x0 h F (nI 1) (nI 0) (nI 2))
set_option maxRecDepth 100000 in
set_option maxHeartbeats 4000000 in
theorem lX12_none_12 {l : Launch} (hl : l.stackTraces = false) (x0 : Int32) (h : ab_H) : ∀ (n : Nat) (x1 : Int32) (x2 : Int32) (x3 : Int32), ab_S l mX12_none (fun y : Int32 => ((.inl (some (.int y)), h) : ab_R × ab_H)) 0 0 (fX12_none_12 x0 h n x1 x2 x3) 12 [(0, .int x0), (1, .int x1), (2, .int x2), (3, .int x3)] [] h := by
  intro n
  induction n with
  | zero =>
    intro x1 x2 x3
    exact ab_none
  | succ n ih =>
    intro x1 x2 x3
    rw [fX12_none_12]
    refine ab_iload_n (pc := 12) (n := 3) (i := 3) (j := 3) (by decide +kernel) rfl rfl ?_
    refine ab_iload_n (pc := 13) (n := 0) (i := 0) (j := 0) (by decide +kernel) rfl rfl ?_
    refine ab_icmp_gt (off := 23) (pc := 14) (tgt := 37) (by decide +kernel) (by decide) (fun g2 => ?_) (fun g2 => ?_)
    · refine ab_iload_n (pc := 17) (n := 3) (i := 3) (j := 3) (by decide +kernel) rfl rfl ?_
      refine ab_iconst (pc := 18) (n := 1) (v := nI 1) (by decide +kernel) rfl ?_
      refine ab_isub (pc := 19) (by decide +kernel) ?_
      refine ab_iload_n (pc := 20) (n := 1) (i := 1) (j := 1) (by decide +kernel) rfl rfl ?_
      refine ab_iload_n (pc := 21) (n := 2) (i := 2) (j := 2) (by decide +kernel) rfl rfl ?_
      refine ab_iadd (pc := 22) (by decide +kernel) ?_
      refine ab_imul (pc := 23) (by decide +kernel) ?_
      refine ab_istore (pc := 24) (i := 4) (lv' := [(0, .int x0), (1, .int x1), (2, .int x2), (3, .int x3), (4, .int ((x3 - (nI 1)) * (x1 + x2)))]) (by decide +kernel) (Nat.le_of_ble_eq_true rfl) rfl rfl ?_
      refine ab_iload_n (pc := 26) (n := 2) (i := 2) (j := 2) (by decide +kernel) rfl rfl ?_
      refine ab_istore_n (pc := 27) (n := 1) (i := 1) (lv' := [(0, .int x0), (1, .int x2), (2, .int x2), (3, .int x3), (4, .int ((x3 - (nI 1)) * (x1 + x2)))]) (by decide +kernel) rfl (Nat.le_of_ble_eq_true rfl) rfl rfl ?_
      refine ab_iload (pc := 28) (i := 4) (j := 4) (by decide +kernel) rfl ?_
      refine ab_istore_n (pc := 30) (n := 2) (i := 2) (lv' := [(0, .int x0), (1, .int x2), (2, .int ((x3 - (nI 1)) * (x1 + x2))), (3, .int x3), (4, .int ((x3 - (nI 1)) * (x1 + x2)))]) (by decide +kernel) rfl (Nat.le_of_ble_eq_true rfl) rfl rfl ?_
      refine ab_iinc (pc := 31) (i := 3) (n := 1) (j := 3) (d := nI 1) (lv' := [(0, .int x0), (1, .int x2), (2, .int ((x3 - (nI 1)) * (x1 + x2))), (3, .int (x3 + nI 1)), (4, .int ((x3 - (nI 1)) * (x1 + x2)))]) (by decide +kernel) rfl rfl (Nat.le_of_ble_eq_true rfl) rfl rfl ?_
      refine ab_goto (pc := 34) (off := (-22)) (tgt := 12) (by decide +kernel) (by decide) ?_
      refine ab_few [0, 1, 2, 3] (lv' := [(0, .int x0), (1, .int x2), (2, .int ((x3 - (nI 1)) * (x1 + x2))), (3, .int (x3 + nI 1))]) rfl ?_
      exact ih x2 ((x3 - (nI 1)) * (x1 + x2)) (x3 + nI 1)
    · refine ab_iload_n (pc := 37) (n := 2) (i := 2) (j := 2) (by decide +kernel) rfl rfl ?_
      exact ab_iret (pc := 38) (by decide +kernel) rfl rfl (Nat.le_of_ble_eq_true rfl) (Nat.le_of_ble_eq_true rfl)
set_option maxRecDepth 100000 in
set_option maxHeartbeats 4000000 in
theorem wX12_none {l : Launch} (hl : l.stackTraces = false) (F : Nat) (x0 : Int32) (h : ab_H) : ab_S l mX12_none (fun y : Int32 => ((.inl (some (.int y)), h) : ab_R × ab_H)) 0 0 (fX12_none F x0 h) 0 [(0, .int x0)] [] h := by
  unfold fX12_none
  refine ab_iconst (pc := 0) (n := 1) (v := nI 1) (by decide +kernel) rfl ?_
  refine ab_istore_n (pc := 1) (n := 1) (i := 1) (lv' := [(0, .int x0), (1, .int (nI 1))]) (by decide +kernel) rfl (Nat.le_of_ble_eq_true rfl) rfl rfl ?_
  refine ab_iconst (pc := 2) (n := 0) (v := nI 0) (by decide +kernel) rfl ?_
  refine ab_istore_n (pc := 3) (n := 2) (i := 2) (lv' := [(0, .int x0), (1, .int (nI 1)), (2, .int (nI 0))]) (by decide +kernel) rfl (Nat.le_of_ble_eq_true rfl) rfl rfl ?_
  refine ab_iload_n (pc := 4) (n := 0) (i := 0) (j := 0) (by decide +kernel) rfl rfl ?_
  refine ab_if_ne (off := 5) (pc := 5) (tgt := 10) (by decide +kernel) (by decide) (fun g1 => ?_) (fun g1 => ?_)
  · refine ab_iconst (pc := 8) (n := 1) (v := nI 1) (by decide +kernel) rfl ?_
    exact ab_iret (pc := 9) (by decide +kernel) rfl rfl (Nat.le_of_ble_eq_true rfl) (Nat.le_of_ble_eq_true rfl)
  · refine ab_iconst (pc := 10) (n := 2) (v := nI 2) (by decide +kernel) rfl ?_
    refine ab_istore_n (pc := 11) (n := 3) (i := 3) (lv' := [(0, .int x0), (1, .int (nI 1)), (2, .int (nI 0)), (3, .int (nI 2))]) (by decide +kernel) rfl (Nat.le_of_ble_eq_true rfl) rfl rfl ?_
    refine lX12_none_12 hl x0 h F (nI 1) (nI 0) (nI 2)
set_option maxRecDepth 100000 in
set_option maxHeartbeats 4000000 in
theorem okX12_none {l : Launch} (hl : l.stackTraces = false) {F : Nat} {x0 : Int32} {h : ab_H} {y : Int32} (e : fX12_none F x0 h = some y) : ab_Met l mX12_none [.int x0] h (.inl (some (.int y)), h) := ab_ofS (io := (fun y : Int32 => ((.inl (some (.int y)), h) : ab_R × ab_H))) (x := y) hl (by decide) rfl (Nat.le_of_ble_eq_true rfl) (wX12_none hl F x0 h) e
def mX12_ways : ab_M := (yX12_ways, cX12_ways, 5, (some .int), { frames := 2, cells := 0, slots := 0, locals := 44 })
theorem iX12_ways : ab_MI mX12_ways 1 := ⟨kw_272228bfa3, kw_30b3f7d7c6, by decide +kernel⟩
theorem lk_X12_369 : ab_LS RX12 369 mX12_none 1 := ⟨iX12_none, kw_4bece59216, kw_f6ff5ff335⟩
def fX12_ways_46 (F : Nat) (x1 : Int32) (x2 : Int32) (h : ab_H) (k70 : Int32 → Option (Int32 × ab_H)) : Nat → Int32 → Int32 → Option (Int32 × ab_H)
  | 0, _, _ => none
  | n + 1, x3, x4 => (if x4 < x1 then ab_ck (¬ (x4 + (nI 1)) = 0) (fX12_ways_46 F x1 x2 h k70 n ((x3 * (x2 - x4)) / (x4 + (nI 1))) (x4 + nI 1)) else k70 x3)
def fX12_ways (F : Nat) (x0 : Nat) (x1 : Int32) (h : ab_H) : Option (Int32 × ab_H) := ab_bd (fX12_isIn x1 (nI 0) (nI 10) h) fun v1 => ab_jn (κ := Int32 → Option (Int32 × ab_H)) (fun (z2 : Int32) => ab_bd (ab_fw h x0 12 0 (.int z2)) fun h3 => ab_ck (ab_io h3 x0 12 = true) (ab_bd (fX12_holders F x0 h3) fun v4 => ab_bd (fX12_bits F v4 h3) fun v5 => ab_bd (ab_fi h3 x0 12 0) fun v6 => (if v6 ≤ 0 then (if x1 ≤ v5 then fX12_ways_46 F x1 v5 h3 (fun (z11 : Int32) => ab_bd (fX12_none F (v5 - x1) h3) fun v12 => some (z11 * v12, h3)) F (nI 1) (nI 0) else some (nI 0, h3)) else some (nI 0, h3)))) fun j13 => (if v1 = 0 then j13 (nI 1) else j13 (nI 0))
set_option maxRecDepth 100000 in
set_option maxHeartbeats 4000000 in
theorem lX12_ways_46 {l : Launch} (hl : l.stackTraces = false) (F : Nat) (x1 : Int32) (x2 : Int32) (h : ab_H) {k70 : Int32 → Option (Int32 × ab_H)} (hk70 : ∀ (x3 : Int32), ab_S l mX12_ways (fun y : (Int32 × ab_H) => ((.inl (some (.int y.1)), y.2) : ab_R × ab_H)) 0 0 (k70 x3) 70 [(1, .int x1), (2, .int x2), (3, .int x3)] [] h) : ∀ (n : Nat) (x3 : Int32) (x4 : Int32), ab_S l mX12_ways (fun y : (Int32 × ab_H) => ((.inl (some (.int y.1)), y.2) : ab_R × ab_H)) 0 0 (fX12_ways_46 F x1 x2 h k70 n x3 x4) 46 [(1, .int x1), (2, .int x2), (3, .int x3), (4, .int x4)] [] h := by
  intro n
  induction n with
  | zero =>
    intro x3 x4
    exact ab_none
  | succ n ih =>
    intro x3 x4
    rw [fX12_ways_46]
    refine ab_iload (pc := 46) (i := 4) (j := 3) (by decide +kernel) rfl ?_
    refine ab_iload_n (pc := 48) (n := 1) (i := 1) (j := 0) (by decide +kernel) rfl rfl ?_
    refine ab_icmp_ge (off := 21) (pc := 49) (tgt := 70) (by decide +kernel) (by decide) (fun g9 => ?_) (fun g9 => ?_)
    · refine ab_iload_n (pc := 52) (n := 3) (i := 3) (j := 2) (by decide +kernel) rfl rfl ?_
      refine ab_iload_n (pc := 53) (n := 2) (i := 2) (j := 1) (by decide +kernel) rfl rfl ?_
      refine ab_iload (pc := 54) (i := 4) (j := 3) (by decide +kernel) rfl ?_
      refine ab_isub (pc := 56) (by decide +kernel) ?_
      refine ab_imul (pc := 57) (by decide +kernel) ?_
      refine ab_iload (pc := 58) (i := 4) (j := 3) (by decide +kernel) rfl ?_
      refine ab_iconst (pc := 60) (n := 1) (v := nI 1) (by decide +kernel) rfl ?_
      refine ab_iadd (pc := 61) (by decide +kernel) ?_
      refine ab_idiv (pc := 62) (by decide +kernel) (fun g10 => ?_)
      refine ab_istore_n (pc := 63) (n := 3) (i := 3) (lv' := [(1, .int x1), (2, .int x2), (3, .int ((x3 * (x2 - x4)) / (x4 + (nI 1)))), (4, .int x4)]) (by decide +kernel) rfl (Nat.le_of_ble_eq_true rfl) rfl rfl ?_
      refine ab_iinc (pc := 64) (i := 4) (n := 1) (j := 3) (d := nI 1) (lv' := [(1, .int x1), (2, .int x2), (3, .int ((x3 * (x2 - x4)) / (x4 + (nI 1)))), (4, .int (x4 + nI 1))]) (by decide +kernel) rfl rfl (Nat.le_of_ble_eq_true rfl) rfl rfl ?_
      refine ab_goto (pc := 67) (off := (-21)) (tgt := 46) (by decide +kernel) (by decide) ?_
      exact ih ((x3 * (x2 - x4)) / (x4 + (nI 1))) (x4 + nI 1)
    · refine ab_few [0, 1, 2] (lv' := [(1, .int x1), (2, .int x2), (3, .int x3)]) rfl ?_
      exact hk70 x3
set_option maxRecDepth 100000 in
set_option maxHeartbeats 4000000 in
theorem wX12_ways {l : Launch} (hl : l.stackTraces = false) (F : Nat) (x0 : Nat) (x1 : Int32) (h : ab_H) : ab_S l mX12_ways (fun y : (Int32 × ab_H) => ((.inl (some (.int y.1)), y.2) : ab_R × ab_H)) 0 0 (fX12_ways F x0 x1 h) 0 [(0, .ref x0), (1, .int x1)] [] h := by
  unfold fX12_ways
  refine ab_aload_n (pc := 0) (n := 0) (i := 0) (j := 0) (by decide +kernel) rfl rfl ?_
  refine ab_iload_n (pc := 1) (n := 1) (i := 1) (j := 1) (by decide +kernel) rfl rfl ?_
  refine ab_iconst (pc := 2) (n := 0) (v := nI 0) (by decide +kernel) rfl ?_
  refine ab_bipush (pc := 3) (n := 10) (v := nI 10) (by decide +kernel) (by decide) ?_
  refine ab_callSi (As := [.int x1, .int (nI 0), .int (nI 10)]) (st := [.ref x0]) (pc := 5) lk_X12_53 rfl rfl rfl (by decide) rfl (Nat.le_of_ble_eq_true rfl) (by decide +kernel) (fun y9 e9 => okX12_isIn hl e9) (fun v1 ev1 => ?_)
  refine ab_jr (fun k9 : Int32 → Option (Int32 × ab_H) => ∀ (z2 : Int32), ab_S l mX12_ways (fun y : (Int32 × ab_H) => ((.inl (some (.int y.1)), y.2) : ab_R × ab_H)) 0 0 (k9 z2) 16 [(0, .ref x0), (1, .int x1)] [.int z2, .ref x0] h) ?_ (fun j13 hj13 => ?_)
  · intro z2
    refine ab_put (pc := 16) fl_X12_50_12 rfl (fun _ => rfl) (fun _ => rfl) (by decide +kernel) (fun h3 eh3 => ?_)
    refine ab_aload_n (pc := 19) (n := 0) (i := 0) (j := 0) (by decide +kernel) rfl rfl ?_
    refine ab_callVi (As := []) (st := []) (pc := 20) lk_X12_303_12 rfl rfl rfl (by decide) rfl (Nat.le_of_ble_eq_true rfl) (by decide +kernel) (fun y9 e9 => okX12_holders hl (F := F) e9) (fun v4 ev4 => ?_)
    refine ab_callSi (As := [.int v4]) (st := []) (pc := 23) lk_X12_242 rfl rfl rfl (by decide) rfl (Nat.le_of_ble_eq_true rfl) (by decide +kernel) (fun y9 e9 => okX12_bits hl (F := F) e9) (fun v5 ev5 => ?_)
    refine ab_istore_n (pc := 26) (n := 2) (i := 2) (lv' := [(0, .ref x0), (1, .int x1), (2, .int v5)]) (by decide +kernel) rfl (Nat.le_of_ble_eq_true rfl) rfl rfl ?_
    refine ab_aload_n (pc := 27) (n := 0) (i := 0) (j := 0) (by decide +kernel) rfl rfl ?_
    refine ab_getI (pc := 28) fl_X12_50_12 (by decide +kernel) (fun v6 ev6 => ?_)
    refine ab_if_gt (off := 8) (pc := 31) (tgt := 39) (by decide +kernel) (by decide) (fun g7 => ?_) (fun g7 => ?_)
    · refine ab_iload_n (pc := 34) (n := 1) (i := 1) (j := 1) (by decide +kernel) rfl rfl ?_
      refine ab_iload_n (pc := 35) (n := 2) (i := 2) (j := 2) (by decide +kernel) rfl rfl ?_
      refine ab_icmp_le (off := 5) (pc := 36) (tgt := 41) (by decide +kernel) (by decide) (fun g8 => ?_) (fun g8 => ?_)
      · refine ab_iconst (pc := 41) (n := 1) (v := nI 1) (by decide +kernel) rfl ?_
        refine ab_istore_n (pc := 42) (n := 3) (i := 3) (lv' := [(0, .ref x0), (1, .int x1), (2, .int v5), (3, .int (nI 1))]) (by decide +kernel) rfl (Nat.le_of_ble_eq_true rfl) rfl rfl ?_
        refine ab_iconst (pc := 43) (n := 0) (v := nI 0) (by decide +kernel) rfl ?_
        refine ab_istore (pc := 44) (i := 4) (lv' := [(0, .ref x0), (1, .int x1), (2, .int v5), (3, .int (nI 1)), (4, .int (nI 0))]) (by decide +kernel) (Nat.le_of_ble_eq_true rfl) rfl rfl ?_
        refine ab_few [1, 2, 3, 4] (lv' := [(1, .int x1), (2, .int v5), (3, .int (nI 1)), (4, .int (nI 0))]) rfl ?_
        refine lX12_ways_46 hl F x1 v5 h3 ?_ F (nI 1) (nI 0)
        intro z11
        refine ab_iload_n (pc := 70) (n := 3) (i := 3) (j := 2) (by decide +kernel) rfl rfl ?_
        refine ab_iload_n (pc := 71) (n := 2) (i := 2) (j := 1) (by decide +kernel) rfl rfl ?_
        refine ab_iload_n (pc := 72) (n := 1) (i := 1) (j := 0) (by decide +kernel) rfl rfl ?_
        refine ab_isub (pc := 73) (by decide +kernel) ?_
        refine ab_callSi (As := [.int (v5 - x1)]) (st := [.int z11]) (pc := 74) lk_X12_369 rfl rfl rfl (by decide) rfl (Nat.le_of_ble_eq_true rfl) (by decide +kernel) (fun y9 e9 => okX12_none hl (F := F) e9) (fun v12 ev12 => ?_)
        refine ab_imul (pc := 77) (by decide +kernel) ?_
        exact ab_iret (pc := 78) (by decide +kernel) rfl rfl (Nat.le_of_ble_eq_true rfl) (Nat.le_of_ble_eq_true rfl)
      · refine ab_iconst (pc := 39) (n := 0) (v := nI 0) (by decide +kernel) rfl ?_
        exact ab_iret (pc := 40) (by decide +kernel) rfl rfl (Nat.le_of_ble_eq_true rfl) (Nat.le_of_ble_eq_true rfl)
    · refine ab_iconst (pc := 39) (n := 0) (v := nI 0) (by decide +kernel) rfl ?_
      exact ab_iret (pc := 40) (by decide +kernel) rfl rfl (Nat.le_of_ble_eq_true rfl) (Nat.le_of_ble_eq_true rfl)
  · refine ab_if_ne (off := 7) (pc := 8) (tgt := 15) (by decide +kernel) (by decide) (fun g14 => ?_) (fun g14 => ?_)
    · refine ab_iconst (pc := 11) (n := 1) (v := nI 1) (by decide +kernel) rfl ?_
      refine ab_goto (pc := 12) (off := 4) (tgt := 16) (by decide +kernel) (by decide) ?_
      exact hj13 (nI 1)
    · refine ab_iconst (pc := 15) (n := 0) (v := nI 0) (by decide +kernel) rfl ?_
      exact hj13 (nI 0)
set_option maxRecDepth 100000 in
set_option maxHeartbeats 4000000 in
theorem okX12_ways {l : Launch} (hl : l.stackTraces = false) {F : Nat} {x0 : Nat} {x1 : Int32} {h : ab_H} {y : (Int32 × ab_H)} (e : fX12_ways F x0 x1 h = some y) : ab_Met l mX12_ways [.ref x0, .int x1] h (.inl (some (.int y.1)), y.2) := ab_ofS (io := (fun y : (Int32 × ab_H) => ((.inl (some (.int y.1)), y.2) : ab_R × ab_H))) (x := y) hl (by decide) rfl (Nat.le_of_ble_eq_true rfl) (wX12_ways hl F x0 x1 h) e
def mX12_rowFrom : ab_M := (yX12_rowFrom, cX12_rowFrom, 3, (some .int), { frames := 0, cells := 0, slots := 0, locals := 0 })
theorem iX12_rowFrom : ab_MI mX12_rowFrom 1 := ⟨kw_339dd06f4e, kw_30b3f7d7c6, by decide +kernel⟩
def fX12_rowFrom_2 (x0 : Nat) (x1 : Int32) (h : ab_H) : Nat → Int32 → Option Int32
  | 0, _ => none
  | n + 1, x2 => ab_bd (ab_fr h x0 12 1) fun v1 => ab_bd (ab_ia 0 h v1 (nI 4)) fun v2 => (if (x1 + x2) < v2 then ab_bd (ab_fr h x0 12 1) fun v4 => ab_bd (ab_ia 0 h v4 (((nI 272) + x1) + x2)) fun v5 => (if v5 = (-1 : Int32) then some x2 else fX12_rowFrom_2 x0 x1 h n (x2 + nI 1)) else some x2)
def fX12_rowFrom (F : Nat) (x0 : Nat) (x1 : Int32) (h : ab_H) : Option Int32 := fX12_rowFrom_2 x0 x1 h F (nI 0)
set_option maxRecDepth 100000 in
set_option maxHeartbeats 4000000 in
theorem lX12_rowFrom_2 {l : Launch} (hl : l.stackTraces = false) (x0 : Nat) (x1 : Int32) (h : ab_H) : ∀ (n : Nat) (x2 : Int32), ab_S l mX12_rowFrom (fun y : Int32 => ((.inl (some (.int y)), h) : ab_R × ab_H)) 0 0 (fX12_rowFrom_2 x0 x1 h n x2) 2 [(0, .ref x0), (1, .int x1), (2, .int x2)] [] h := by
  intro n
  induction n with
  | zero =>
    intro x2
    exact ab_none
  | succ n ih =>
    intro x2
    rw [fX12_rowFrom_2]
    refine ab_iload_n (pc := 2) (n := 1) (i := 1) (j := 1) (by decide +kernel) rfl rfl ?_
    refine ab_iload_n (pc := 3) (n := 2) (i := 2) (j := 2) (by decide +kernel) rfl rfl ?_
    refine ab_iadd (pc := 4) (by decide +kernel) ?_
    refine ab_aload_n (pc := 5) (n := 0) (i := 0) (j := 0) (by decide +kernel) rfl rfl ?_
    refine ab_getR (pc := 6) fl_X12_7_12 (by decide +kernel) (fun v1 ev1 => ?_)
    refine ab_iconst (pc := 9) (n := 4) (v := nI 4) (by decide +kernel) rfl ?_
    refine ab_iald (pc := 10) (by decide +kernel) (fun v2 ev2 => ?_)
    refine ab_icmp_ge (off := 25) (pc := 11) (tgt := 36) (by decide +kernel) (by decide) (fun g3 => ?_) (fun g3 => ?_)
    · refine ab_aload_n (pc := 14) (n := 0) (i := 0) (j := 0) (by decide +kernel) rfl rfl ?_
      refine ab_getR (pc := 15) fl_X12_7_12 (by decide +kernel) (fun v4 ev4 => ?_)
      refine ab_sipush (pc := 18) (n := 272) (v := nI 272) (by decide +kernel) (by decide) ?_
      refine ab_iload_n (pc := 21) (n := 1) (i := 1) (j := 1) (by decide +kernel) rfl rfl ?_
      refine ab_iadd (pc := 22) (by decide +kernel) ?_
      refine ab_iload_n (pc := 23) (n := 2) (i := 2) (j := 2) (by decide +kernel) rfl rfl ?_
      refine ab_iadd (pc := 24) (by decide +kernel) ?_
      refine ab_iald (pc := 25) (by decide +kernel) (fun v5 ev5 => ?_)
      refine ab_iconst (pc := 26) (n := -1) (v := (-1 : Int32)) (by decide +kernel) rfl ?_
      refine ab_icmp_eq (off := 9) (pc := 27) (tgt := 36) (by decide +kernel) (by decide) (fun g6 => ?_) (fun g6 => ?_)
      · refine ab_iload_n (pc := 36) (n := 2) (i := 2) (j := 2) (by decide +kernel) rfl rfl ?_
        exact ab_iret (pc := 37) (by decide +kernel) rfl rfl (Nat.le_of_ble_eq_true rfl) (Nat.le_of_ble_eq_true rfl)
      · refine ab_iinc (pc := 30) (i := 2) (n := 1) (j := 2) (d := nI 1) (lv' := [(0, .ref x0), (1, .int x1), (2, .int (x2 + nI 1))]) (by decide +kernel) rfl rfl (Nat.le_of_ble_eq_true rfl) rfl rfl ?_
        refine ab_goto (pc := 33) (off := (-31)) (tgt := 2) (by decide +kernel) (by decide) ?_
        exact ih (x2 + nI 1)
    · refine ab_iload_n (pc := 36) (n := 2) (i := 2) (j := 2) (by decide +kernel) rfl rfl ?_
      exact ab_iret (pc := 37) (by decide +kernel) rfl rfl (Nat.le_of_ble_eq_true rfl) (Nat.le_of_ble_eq_true rfl)
set_option maxRecDepth 100000 in
set_option maxHeartbeats 4000000 in
theorem wX12_rowFrom {l : Launch} (hl : l.stackTraces = false) (F : Nat) (x0 : Nat) (x1 : Int32) (h : ab_H) : ab_S l mX12_rowFrom (fun y : Int32 => ((.inl (some (.int y)), h) : ab_R × ab_H)) 0 0 (fX12_rowFrom F x0 x1 h) 0 [(0, .ref x0), (1, .int x1)] [] h := by
  unfold fX12_rowFrom
  refine ab_iconst (pc := 0) (n := 0) (v := nI 0) (by decide +kernel) rfl ?_
  refine ab_istore_n (pc := 1) (n := 2) (i := 2) (lv' := [(0, .ref x0), (1, .int x1), (2, .int (nI 0))]) (by decide +kernel) rfl (Nat.le_of_ble_eq_true rfl) rfl rfl ?_
  refine lX12_rowFrom_2 hl x0 x1 h F (nI 0)
set_option maxRecDepth 100000 in
set_option maxHeartbeats 4000000 in
theorem okX12_rowFrom {l : Launch} (hl : l.stackTraces = false) {F : Nat} {x0 : Nat} {x1 : Int32} {h : ab_H} {y : Int32} (e : fX12_rowFrom F x0 x1 h = some y) : ab_Met l mX12_rowFrom [.ref x0, .int x1] h (.inl (some (.int y)), h) := ab_ofS (io := (fun y : Int32 => ((.inl (some (.int y)), h) : ab_R × ab_H))) (x := y) hl (by decide) rfl (Nat.le_of_ble_eq_true rfl) (wX12_rowFrom hl F x0 x1 h) e
def mX12_talk : ab_M := (yX12_talk, cX12_talk, 5, (some .int), { frames := 2, cells := 0, slots := 0, locals := 43 })
theorem iX12_talk : ab_MI mX12_talk 1 := ⟨kw_44a741759c, kw_30b3f7d7c6, by decide +kernel⟩
theorem lk_X12_372_12 : ab_LV RX12 372 12 mX12_rowFrom 1 := ⟨RX12, rfl, iX12_rowFrom, kw_5803424014, kw_6cef08ee55, kw_a6604a3225⟩
def fX12_talk_42 (F : Nat) (x0 : Nat) (h : ab_H) (k68 : Int32 → Option (Int32 × ab_H)) : Nat → Int32 → Option (Int32 × ab_H)
  | 0, _ => none
  | n + 1, x2 => (if x2 ≤ 0 then k68 x2 else ab_bd (ab_fr h x0 12 1) fun v10 => ab_bd (ab_ia 0 h v10 (((nI 272) + x2) - (nI 1))) fun v11 => (if v11 = (-1 : Int32) then k68 x2 else fX12_talk_42 F x0 h k68 n (x2 + (-1 : Int32))))
def fX12_talk_73 (F : Nat) (x0 : Nat) (x2 : Int32) (h : ab_H) : Nat → Int32 → Int32 → Option (Int32 × ab_H)
  | 0, _, _ => none
  | n + 1, x3, x4 => ab_ck (ab_io h x0 12 = true) (ab_bd (fX12_rowFrom F x0 x2 h) fun v14 => (if x4 < v14 then ab_bd (ab_fr h x0 12 1) fun v16 => ab_bd (ab_ia 0 h v16 (((nI 272) + x2) + x4)) fun v17 => fX12_talk_73 F x0 x2 h n (x3 ||| ((nI 1) <<< (v17 &&& 31))) (x4 + nI 1) else some (x3, h)))
def fX12_talk (F : Nat) (x0 : Nat) (x1 : Int32) (h : ab_H) : Option (Int32 × ab_H) := ab_ck (ab_io h x0 12 = true) (ab_bd (fX12_isHook x0 x1 h) fun v1 => ab_jn (κ := Int32 → Option (Int32 × ab_H)) (fun (z2 : Int32) => ab_bd (ab_fw h x0 12 0 (.int z2)) fun h3 => ab_bd (ab_fi h3 x0 12 0) fun v4 => (if v4 ≤ 0 then ab_bd (ab_fr h3 x0 12 1) fun v6 => ab_bd (ab_ia 0 h3 v6 ((nI 272) + x1)) fun v7 => (if v7 = (-1 : Int32) then some (nI 0, h3) else fX12_talk_42 F x0 h3 (fun (z13 : Int32) => fX12_talk_73 F x0 z13 h3 F (nI 0) (nI 0)) F x1) else some (nI 0, h3))) fun j18 => (if v1 = 0 then j18 (nI 1) else j18 (nI 0)))
set_option maxRecDepth 100000 in
set_option maxHeartbeats 4000000 in
theorem lX12_talk_42 {l : Launch} (hl : l.stackTraces = false) (F : Nat) (x0 : Nat) (h : ab_H) {k68 : Int32 → Option (Int32 × ab_H)} (hk68 : ∀ (x2 : Int32), ab_S l mX12_talk (fun y : (Int32 × ab_H) => ((.inl (some (.int y.1)), y.2) : ab_R × ab_H)) 0 0 (k68 x2) 68 [(0, .ref x0), (2, .int x2)] [] h) : ∀ (n : Nat) (x2 : Int32), ab_S l mX12_talk (fun y : (Int32 × ab_H) => ((.inl (some (.int y.1)), y.2) : ab_R × ab_H)) 0 0 (fX12_talk_42 F x0 h k68 n x2) 42 [(0, .ref x0), (2, .int x2)] [] h := by
  intro n
  induction n with
  | zero =>
    intro x2
    exact ab_none
  | succ n ih =>
    intro x2
    rw [fX12_talk_42]
    refine ab_iload_n (pc := 42) (n := 2) (i := 2) (j := 1) (by decide +kernel) rfl rfl ?_
    refine ab_if_le (off := 25) (pc := 43) (tgt := 68) (by decide +kernel) (by decide) (fun g9 => ?_) (fun g9 => ?_)
    · exact hk68 x2
    · refine ab_aload_n (pc := 46) (n := 0) (i := 0) (j := 0) (by decide +kernel) rfl rfl ?_
      refine ab_getR (pc := 47) fl_X12_7_12 (by decide +kernel) (fun v10 ev10 => ?_)
      refine ab_sipush (pc := 50) (n := 272) (v := nI 272) (by decide +kernel) (by decide) ?_
      refine ab_iload_n (pc := 53) (n := 2) (i := 2) (j := 1) (by decide +kernel) rfl rfl ?_
      refine ab_iadd (pc := 54) (by decide +kernel) ?_
      refine ab_iconst (pc := 55) (n := 1) (v := nI 1) (by decide +kernel) rfl ?_
      refine ab_isub (pc := 56) (by decide +kernel) ?_
      refine ab_iald (pc := 57) (by decide +kernel) (fun v11 ev11 => ?_)
      refine ab_iconst (pc := 58) (n := -1) (v := (-1 : Int32)) (by decide +kernel) rfl ?_
      refine ab_icmp_eq (off := 9) (pc := 59) (tgt := 68) (by decide +kernel) (by decide) (fun g12 => ?_) (fun g12 => ?_)
      · exact hk68 x2
      · refine ab_iinc (pc := 62) (i := 2) (n := -1) (j := 1) (d := (-1 : Int32)) (lv' := [(0, .ref x0), (2, .int (x2 + (-1 : Int32)))]) (by decide +kernel) rfl rfl (Nat.le_of_ble_eq_true rfl) rfl rfl ?_
        refine ab_goto (pc := 65) (off := (-23)) (tgt := 42) (by decide +kernel) (by decide) ?_
        exact ih (x2 + (-1 : Int32))
set_option maxRecDepth 100000 in
set_option maxHeartbeats 4000000 in
theorem lX12_talk_73 {l : Launch} (hl : l.stackTraces = false) (F : Nat) (x0 : Nat) (x2 : Int32) (h : ab_H) : ∀ (n : Nat) (x3 : Int32) (x4 : Int32), ab_S l mX12_talk (fun y : (Int32 × ab_H) => ((.inl (some (.int y.1)), y.2) : ab_R × ab_H)) 0 0 (fX12_talk_73 F x0 x2 h n x3 x4) 73 [(0, .ref x0), (2, .int x2), (3, .int x3), (4, .int x4)] [] h := by
  intro n
  induction n with
  | zero =>
    intro x3 x4
    exact ab_none
  | succ n ih =>
    intro x3 x4
    rw [fX12_talk_73]
    refine ab_iload (pc := 73) (i := 4) (j := 3) (by decide +kernel) rfl ?_
    refine ab_aload_n (pc := 75) (n := 0) (i := 0) (j := 0) (by decide +kernel) rfl rfl ?_
    refine ab_iload_n (pc := 76) (n := 2) (i := 2) (j := 1) (by decide +kernel) rfl rfl ?_
    refine ab_callVi (As := [.int x2]) (st := [.int x4]) (pc := 77) lk_X12_372_12 rfl rfl rfl (by decide) rfl (Nat.le_of_ble_eq_true rfl) (by decide +kernel) (fun y9 e9 => okX12_rowFrom hl (F := F) e9) (fun v14 ev14 => ?_)
    refine ab_icmp_ge (off := 27) (pc := 80) (tgt := 107) (by decide +kernel) (by decide) (fun g15 => ?_) (fun g15 => ?_)
    · refine ab_iload_n (pc := 83) (n := 3) (i := 3) (j := 2) (by decide +kernel) rfl rfl ?_
      refine ab_iconst (pc := 84) (n := 1) (v := nI 1) (by decide +kernel) rfl ?_
      refine ab_aload_n (pc := 85) (n := 0) (i := 0) (j := 0) (by decide +kernel) rfl rfl ?_
      refine ab_getR (pc := 86) fl_X12_7_12 (by decide +kernel) (fun v16 ev16 => ?_)
      refine ab_sipush (pc := 89) (n := 272) (v := nI 272) (by decide +kernel) (by decide) ?_
      refine ab_iload_n (pc := 92) (n := 2) (i := 2) (j := 1) (by decide +kernel) rfl rfl ?_
      refine ab_iadd (pc := 93) (by decide +kernel) ?_
      refine ab_iload (pc := 94) (i := 4) (j := 3) (by decide +kernel) rfl ?_
      refine ab_iadd (pc := 96) (by decide +kernel) ?_
      refine ab_iald (pc := 97) (by decide +kernel) (fun v17 ev17 => ?_)
      refine ab_ishl (pc := 98) (by decide +kernel) ?_
      refine ab_ior (pc := 99) (by decide +kernel) ?_
      refine ab_istore_n (pc := 100) (n := 3) (i := 3) (lv' := [(0, .ref x0), (2, .int x2), (3, .int (x3 ||| ((nI 1) <<< (v17 &&& 31)))), (4, .int x4)]) (by decide +kernel) rfl (Nat.le_of_ble_eq_true rfl) rfl rfl ?_
      refine ab_iinc (pc := 101) (i := 4) (n := 1) (j := 3) (d := nI 1) (lv' := [(0, .ref x0), (2, .int x2), (3, .int (x3 ||| ((nI 1) <<< (v17 &&& 31)))), (4, .int (x4 + nI 1))]) (by decide +kernel) rfl rfl (Nat.le_of_ble_eq_true rfl) rfl rfl ?_
      refine ab_goto (pc := 104) (off := (-31)) (tgt := 73) (by decide +kernel) (by decide) ?_
      exact ih (x3 ||| ((nI 1) <<< (v17 &&& 31))) (x4 + nI 1)
    · refine ab_iload_n (pc := 107) (n := 3) (i := 3) (j := 2) (by decide +kernel) rfl rfl ?_
      exact ab_iret (pc := 108) (by decide +kernel) rfl rfl (Nat.le_of_ble_eq_true rfl) (Nat.le_of_ble_eq_true rfl)
set_option maxRecDepth 100000 in
set_option maxHeartbeats 4000000 in
theorem wX12_talk {l : Launch} (hl : l.stackTraces = false) (F : Nat) (x0 : Nat) (x1 : Int32) (h : ab_H) : ab_S l mX12_talk (fun y : (Int32 × ab_H) => ((.inl (some (.int y.1)), y.2) : ab_R × ab_H)) 0 0 (fX12_talk F x0 x1 h) 0 [(0, .ref x0), (1, .int x1)] [] h := by
  unfold fX12_talk
  refine ab_aload_n (pc := 0) (n := 0) (i := 0) (j := 0) (by decide +kernel) rfl rfl ?_
  refine ab_aload_n (pc := 1) (n := 0) (i := 0) (j := 0) (by decide +kernel) rfl rfl ?_
  refine ab_iload_n (pc := 2) (n := 1) (i := 1) (j := 1) (by decide +kernel) rfl rfl ?_
  refine ab_callVi (As := [.int x1]) (st := [.ref x0]) (pc := 3) lk_X12_262_12 rfl rfl rfl (by decide) rfl (Nat.le_of_ble_eq_true rfl) (by decide +kernel) (fun y9 e9 => okX12_isHook hl e9) (fun v1 ev1 => ?_)
  refine ab_jr (fun k9 : Int32 → Option (Int32 × ab_H) => ∀ (z2 : Int32), ab_S l mX12_talk (fun y : (Int32 × ab_H) => ((.inl (some (.int y.1)), y.2) : ab_R × ab_H)) 0 0 (k9 z2) 14 [(0, .ref x0), (1, .int x1)] [.int z2, .ref x0] h) ?_ (fun j18 hj18 => ?_)
  · intro z2
    refine ab_put (pc := 14) fl_X12_50_12 rfl (fun _ => rfl) (fun _ => rfl) (by decide +kernel) (fun h3 eh3 => ?_)
    refine ab_aload_n (pc := 17) (n := 0) (i := 0) (j := 0) (by decide +kernel) rfl rfl ?_
    refine ab_getI (pc := 18) fl_X12_50_12 (by decide +kernel) (fun v4 ev4 => ?_)
    refine ab_if_gt (off := 17) (pc := 21) (tgt := 38) (by decide +kernel) (by decide) (fun g5 => ?_) (fun g5 => ?_)
    · refine ab_aload_n (pc := 24) (n := 0) (i := 0) (j := 0) (by decide +kernel) rfl rfl ?_
      refine ab_getR (pc := 25) fl_X12_7_12 (by decide +kernel) (fun v6 ev6 => ?_)
      refine ab_sipush (pc := 28) (n := 272) (v := nI 272) (by decide +kernel) (by decide) ?_
      refine ab_iload_n (pc := 31) (n := 1) (i := 1) (j := 1) (by decide +kernel) rfl rfl ?_
      refine ab_iadd (pc := 32) (by decide +kernel) ?_
      refine ab_iald (pc := 33) (by decide +kernel) (fun v7 ev7 => ?_)
      refine ab_iconst (pc := 34) (n := -1) (v := (-1 : Int32)) (by decide +kernel) rfl ?_
      refine ab_icmp_ne (off := 5) (pc := 35) (tgt := 40) (by decide +kernel) (by decide) (fun g8 => ?_) (fun g8 => ?_)
      · refine ab_iconst (pc := 38) (n := 0) (v := nI 0) (by decide +kernel) rfl ?_
        exact ab_iret (pc := 39) (by decide +kernel) rfl rfl (Nat.le_of_ble_eq_true rfl) (Nat.le_of_ble_eq_true rfl)
      · refine ab_iload_n (pc := 40) (n := 1) (i := 1) (j := 1) (by decide +kernel) rfl rfl ?_
        refine ab_istore_n (pc := 41) (n := 2) (i := 2) (lv' := [(0, .ref x0), (1, .int x1), (2, .int x1)]) (by decide +kernel) rfl (Nat.le_of_ble_eq_true rfl) rfl rfl ?_
        refine ab_few [0, 2] (lv' := [(0, .ref x0), (2, .int x1)]) rfl ?_
        refine lX12_talk_42 hl F x0 h3 ?_ F x1
        intro z13
        refine ab_iconst (pc := 68) (n := 0) (v := nI 0) (by decide +kernel) rfl ?_
        refine ab_istore_n (pc := 69) (n := 3) (i := 3) (lv' := [(0, .ref x0), (2, .int z13), (3, .int (nI 0))]) (by decide +kernel) rfl (Nat.le_of_ble_eq_true rfl) rfl rfl ?_
        refine ab_iconst (pc := 70) (n := 0) (v := nI 0) (by decide +kernel) rfl ?_
        refine ab_istore (pc := 71) (i := 4) (lv' := [(0, .ref x0), (2, .int z13), (3, .int (nI 0)), (4, .int (nI 0))]) (by decide +kernel) (Nat.le_of_ble_eq_true rfl) rfl rfl ?_
        refine lX12_talk_73 hl F x0 z13 h3 F (nI 0) (nI 0)
    · refine ab_iconst (pc := 38) (n := 0) (v := nI 0) (by decide +kernel) rfl ?_
      exact ab_iret (pc := 39) (by decide +kernel) rfl rfl (Nat.le_of_ble_eq_true rfl) (Nat.le_of_ble_eq_true rfl)
  · refine ab_if_ne (off := 7) (pc := 6) (tgt := 13) (by decide +kernel) (by decide) (fun g19 => ?_) (fun g19 => ?_)
    · refine ab_iconst (pc := 9) (n := 1) (v := nI 1) (by decide +kernel) rfl ?_
      refine ab_goto (pc := 10) (off := 4) (tgt := 14) (by decide +kernel) (by decide) ?_
      exact hj18 (nI 1)
    · refine ab_iconst (pc := 13) (n := 0) (v := nI 0) (by decide +kernel) rfl ?_
      exact hj18 (nI 0)
set_option maxRecDepth 100000 in
set_option maxHeartbeats 4000000 in
theorem okX12_talk {l : Launch} (hl : l.stackTraces = false) {F : Nat} {x0 : Nat} {x1 : Int32} {h : ab_H} {y : (Int32 × ab_H)} (e : fX12_talk F x0 x1 h = some y) : ab_Met l mX12_talk [.ref x0, .int x1] h (.inl (some (.int y.1)), y.2) := ab_ofS (io := (fun y : (Int32 × ab_H) => ((.inl (some (.int y.1)), y.2) : ab_R × ab_H))) (x := y) hl (by decide) rfl (Nat.le_of_ble_eq_true rfl) (wX12_talk hl F x0 x1 h) e
def mX12_row : ab_M := (yX12_row, cX12_row, 5, (some .int), { frames := 1, cells := 0, slots := 0, locals := 22 })
theorem iX12_row : ab_MI mX12_row 1 := ⟨kw_230265eebb, kw_30b3f7d7c6, by decide +kernel⟩
def fX12_row_12 (F : Nat) (x0 : Nat) (x1 : Int32) (h : ab_H) (k52 : Int32 → Int32 → Option (Int32 × ab_H)) : Nat → Int32 → Int32 → Int32 → Option (Int32 × ab_H)
  | 0, _, _, _ => none
  | n + 1, x2, x3, x4 => ab_bd (ab_fr h x0 12 1) fun v2 => ab_bd (ab_ia 0 h v2 (nI 4)) fun v3 => (if x4 < v3 then ab_ck (ab_io h x0 12 = true) (ab_bd (fX12_rowFrom F x0 x4 h) fun v5 => (if v5 ≤ x3 then fX12_row_12 F x0 x1 h k52 n x2 x3 (x4 + nI 1) else ab_ck (ab_io h x0 12 = true) (ab_bd (fX12_rowFrom F x0 x4 h) fun v7 => fX12_row_12 F x0 x1 h k52 n x4 v7 (x4 + nI 1)))) else k52 x2 x3)
def fX12_row (F : Nat) (x0 : Nat) (x1 : Int32) (h : ab_H) : Option (Int32 × ab_H) := ab_bd (ab_fw h x0 12 0 (.int (nI 0))) fun h1 => fX12_row_12 F x0 x1 h1 (fun (z8 : Int32) (z9 : Int32) => (if x1 = 0 then some (z9, h1) else some (z8, h1))) F (-1 : Int32) (nI 0) (nI 0)
set_option maxRecDepth 100000 in
set_option maxHeartbeats 4000000 in
theorem lX12_row_12 {l : Launch} (hl : l.stackTraces = false) (F : Nat) (x0 : Nat) (x1 : Int32) (h : ab_H) {k52 : Int32 → Int32 → Option (Int32 × ab_H)} (hk52 : ∀ (x2 : Int32), ∀ (x3 : Int32), ab_S l mX12_row (fun y : (Int32 × ab_H) => ((.inl (some (.int y.1)), y.2) : ab_R × ab_H)) 0 0 (k52 x2 x3) 52 [(1, .int x1), (2, .int x2), (3, .int x3)] [] h) : ∀ (n : Nat) (x2 : Int32) (x3 : Int32) (x4 : Int32), ab_S l mX12_row (fun y : (Int32 × ab_H) => ((.inl (some (.int y.1)), y.2) : ab_R × ab_H)) 0 0 (fX12_row_12 F x0 x1 h k52 n x2 x3 x4) 12 [(0, .ref x0), (1, .int x1), (2, .int x2), (3, .int x3), (4, .int x4)] [] h := by
  intro n
  induction n with
  | zero =>
    intro x2 x3 x4
    exact ab_none
  | succ n ih =>
    intro x2 x3 x4
    rw [fX12_row_12]
    refine ab_iload (pc := 12) (i := 4) (j := 4) (by decide +kernel) rfl ?_
    refine ab_aload_n (pc := 14) (n := 0) (i := 0) (j := 0) (by decide +kernel) rfl rfl ?_
    refine ab_getR (pc := 15) fl_X12_7_12 (by decide +kernel) (fun v2 ev2 => ?_)
    refine ab_iconst (pc := 18) (n := 4) (v := nI 4) (by decide +kernel) rfl ?_
    refine ab_iald (pc := 19) (by decide +kernel) (fun v3 ev3 => ?_)
    refine ab_icmp_ge (off := 32) (pc := 20) (tgt := 52) (by decide +kernel) (by decide) (fun g4 => ?_) (fun g4 => ?_)
    · refine ab_aload_n (pc := 23) (n := 0) (i := 0) (j := 0) (by decide +kernel) rfl rfl ?_
      refine ab_iload (pc := 24) (i := 4) (j := 4) (by decide +kernel) rfl ?_
      refine ab_callVi (As := [.int x4]) (st := []) (pc := 26) lk_X12_372_12 rfl rfl rfl (by decide) rfl (Nat.le_of_ble_eq_true rfl) (by decide +kernel) (fun y9 e9 => okX12_rowFrom hl (F := F) e9) (fun v5 ev5 => ?_)
      refine ab_iload_n (pc := 29) (n := 3) (i := 3) (j := 3) (by decide +kernel) rfl rfl ?_
      refine ab_icmp_gt (off := 6) (pc := 30) (tgt := 36) (by decide +kernel) (by decide) (fun g6 => ?_) (fun g6 => ?_)
      · refine ab_goto (pc := 33) (off := 13) (tgt := 46) (by decide +kernel) (by decide) ?_
        refine ab_iinc (pc := 46) (i := 4) (n := 1) (j := 4) (d := nI 1) (lv' := [(0, .ref x0), (1, .int x1), (2, .int x2), (3, .int x3), (4, .int (x4 + nI 1))]) (by decide +kernel) rfl rfl (Nat.le_of_ble_eq_true rfl) rfl rfl ?_
        refine ab_goto (pc := 49) (off := (-37)) (tgt := 12) (by decide +kernel) (by decide) ?_
        exact ih x2 x3 (x4 + nI 1)
      · refine ab_aload_n (pc := 36) (n := 0) (i := 0) (j := 0) (by decide +kernel) rfl rfl ?_
        refine ab_iload (pc := 37) (i := 4) (j := 4) (by decide +kernel) rfl ?_
        refine ab_callVi (As := [.int x4]) (st := []) (pc := 39) lk_X12_372_12 rfl rfl rfl (by decide) rfl (Nat.le_of_ble_eq_true rfl) (by decide +kernel) (fun y9 e9 => okX12_rowFrom hl (F := F) e9) (fun v7 ev7 => ?_)
        refine ab_istore_n (pc := 42) (n := 3) (i := 3) (lv' := [(0, .ref x0), (1, .int x1), (2, .int x2), (3, .int v7), (4, .int x4)]) (by decide +kernel) rfl (Nat.le_of_ble_eq_true rfl) rfl rfl ?_
        refine ab_iload (pc := 43) (i := 4) (j := 4) (by decide +kernel) rfl ?_
        refine ab_istore_n (pc := 45) (n := 2) (i := 2) (lv' := [(0, .ref x0), (1, .int x1), (2, .int x4), (3, .int v7), (4, .int x4)]) (by decide +kernel) rfl (Nat.le_of_ble_eq_true rfl) rfl rfl ?_
        refine ab_iinc (pc := 46) (i := 4) (n := 1) (j := 4) (d := nI 1) (lv' := [(0, .ref x0), (1, .int x1), (2, .int x4), (3, .int v7), (4, .int (x4 + nI 1))]) (by decide +kernel) rfl rfl (Nat.le_of_ble_eq_true rfl) rfl rfl ?_
        refine ab_goto (pc := 49) (off := (-37)) (tgt := 12) (by decide +kernel) (by decide) ?_
        exact ih x4 v7 (x4 + nI 1)
    · refine ab_few [1, 2, 3] (lv' := [(1, .int x1), (2, .int x2), (3, .int x3)]) rfl ?_
      exact hk52 x2 x3
set_option maxRecDepth 100000 in
set_option maxHeartbeats 4000000 in
theorem wX12_row {l : Launch} (hl : l.stackTraces = false) (F : Nat) (x0 : Nat) (x1 : Int32) (h : ab_H) : ab_S l mX12_row (fun y : (Int32 × ab_H) => ((.inl (some (.int y.1)), y.2) : ab_R × ab_H)) 0 0 (fX12_row F x0 x1 h) 0 [(0, .ref x0), (1, .int x1)] [] h := by
  unfold fX12_row
  refine ab_aload_n (pc := 0) (n := 0) (i := 0) (j := 0) (by decide +kernel) rfl rfl ?_
  refine ab_iconst (pc := 1) (n := 0) (v := nI 0) (by decide +kernel) rfl ?_
  refine ab_put (pc := 2) fl_X12_50_12 rfl (fun _ => rfl) (fun _ => rfl) (by decide +kernel) (fun h1 eh1 => ?_)
  refine ab_iconst (pc := 5) (n := -1) (v := (-1 : Int32)) (by decide +kernel) rfl ?_
  refine ab_istore_n (pc := 6) (n := 2) (i := 2) (lv' := [(0, .ref x0), (1, .int x1), (2, .int (-1 : Int32))]) (by decide +kernel) rfl (Nat.le_of_ble_eq_true rfl) rfl rfl ?_
  refine ab_iconst (pc := 7) (n := 0) (v := nI 0) (by decide +kernel) rfl ?_
  refine ab_istore_n (pc := 8) (n := 3) (i := 3) (lv' := [(0, .ref x0), (1, .int x1), (2, .int (-1 : Int32)), (3, .int (nI 0))]) (by decide +kernel) rfl (Nat.le_of_ble_eq_true rfl) rfl rfl ?_
  refine ab_iconst (pc := 9) (n := 0) (v := nI 0) (by decide +kernel) rfl ?_
  refine ab_istore (pc := 10) (i := 4) (lv' := [(0, .ref x0), (1, .int x1), (2, .int (-1 : Int32)), (3, .int (nI 0)), (4, .int (nI 0))]) (by decide +kernel) (Nat.le_of_ble_eq_true rfl) rfl rfl ?_
  refine lX12_row_12 hl F x0 x1 h1 ?_ F (-1 : Int32) (nI 0) (nI 0)
  intro z8 z9
  refine ab_iload_n (pc := 52) (n := 1) (i := 1) (j := 0) (by decide +kernel) rfl rfl ?_
  refine ab_if_eq (off := 7) (pc := 53) (tgt := 60) (by decide +kernel) (by decide) (fun g10 => ?_) (fun g10 => ?_)
  · refine ab_iload_n (pc := 60) (n := 3) (i := 3) (j := 2) (by decide +kernel) rfl rfl ?_
    exact ab_iret (pc := 61) (by decide +kernel) rfl rfl (Nat.le_of_ble_eq_true rfl) (Nat.le_of_ble_eq_true rfl)
  · refine ab_iload_n (pc := 56) (n := 2) (i := 2) (j := 1) (by decide +kernel) rfl rfl ?_
    refine ab_goto (pc := 57) (off := 4) (tgt := 61) (by decide +kernel) (by decide) ?_
    exact ab_iret (pc := 61) (by decide +kernel) rfl rfl (Nat.le_of_ble_eq_true rfl) (Nat.le_of_ble_eq_true rfl)
set_option maxRecDepth 100000 in
set_option maxHeartbeats 4000000 in
theorem okX12_row {l : Launch} (hl : l.stackTraces = false) {F : Nat} {x0 : Nat} {x1 : Int32} {h : ab_H} {y : (Int32 × ab_H)} (e : fX12_row F x0 x1 h = some y) : ab_Met l mX12_row [.ref x0, .int x1] h (.inl (some (.int y.1)), y.2) := ab_ofS (io := (fun y : (Int32 × ab_H) => ((.inl (some (.int y.1)), y.2) : ab_R × ab_H))) (x := y) hl (by decide) rfl (Nat.le_of_ble_eq_true rfl) (wX12_row hl F x0 x1 h) e
def mX12_chain : ab_M := (yX12_chain, cX12_chain, 6, (some .int), { frames := 3, cells := 0, slots := 0, locals := 65 })
theorem iX12_chain : ab_MI mX12_chain 2 := ⟨kw_23c0046559, kw_30b3f7d7c6, by decide +kernel⟩
def fX12_chain_21 (F : Nat) (x0 : Nat) (x1 : Int32) (x2 : Int32) (k40 : ab_H → Option (Int32 × ab_H)) : Nat → Int32 → ab_H → Option (Int32 × ab_H)
  | 0, _, _ => none
  | n + 1, x3, h => (if x3 < (nI 10) then ab_bd (ab_fr h x0 12 25) fun v6 => ab_bd (ab_iw 0 h v6 x3 (-1 : Int32)) fun h7 => fX12_chain_21 F x0 x1 x2 k40 n (x3 + nI 1) h7 else k40 h)
def fX12_chain_72 (F : Nat) (x0 : Nat) (x2 : Int32) (x3 : Int32) (x4 : Int32) (k136 : ab_H → Option (Int32 × ab_H)) : Nat → Int32 → ab_H → Option (Int32 × ab_H)
  | 0, _, _ => none
  | n + 1, x5, h => ab_bd (ab_fr h x0 12 1) fun v15 => ab_bd (ab_ia 0 h v15 (nI 3)) fun v16 => (if x5 < v16 then ab_bd (ab_fr h x0 12 25) fun v18 => ab_bd (ab_ia 0 h v18 x4) fun v19 => (if v19 = x3 then ab_bd (ab_fr h x0 12 25) fun v21 => ab_bd (ab_ia 0 h v21 x5) fun v22 => (if v22 = (-1 : Int32) then ab_ck (ab_io h x0 12 = true) (ab_bd (fX12_of x0 x4 (nI 5) h) fun v24 => ab_bd (fX12_isOf v24 x5 h) fun v25 => (if v25 = 0 then fX12_chain_72 F x0 x2 x3 x4 k136 n (x5 + nI 1) h else ab_bd (ab_fr h x0 12 25) fun v27 => ab_bd (ab_iw 0 h v27 x5 (x3 + (nI 1))) fun h28 => fX12_chain_72 F x0 x2 x3 x4 k136 n (x5 + nI 1) h28)) else fX12_chain_72 F x0 x2 x3 x4 k136 n (x5 + nI 1) h) else fX12_chain_72 F x0 x2 x3 x4 k136 n (x5 + nI 1) h) else k136 h)
def fX12_chain_58 (F : Nat) (x0 : Nat) (x2 : Int32) (x3 : Int32) (k142 : ab_H → Option (Int32 × ab_H)) : Nat → Int32 → ab_H → Option (Int32 × ab_H)
  | 0, _, _ => none
  | n + 1, x4, h => ab_bd (ab_fr h x0 12 1) fun v12 => ab_bd (ab_ia 0 h v12 (nI 3)) fun v13 => (if x4 < v13 then fX12_chain_72 F x0 x2 x3 x4 (fun (h29 : ab_H) => fX12_chain_58 F x0 x2 x3 k142 n (x4 + nI 1) h29) F (nI 0) h else k142 h)
def fX12_chain_49 (F : Nat) (x0 : Nat) (x2 : Int32) : Nat → Int32 → ab_H → Option (Int32 × ab_H)
  | 0, _, _ => none
  | n + 1, x3, h => (if x3 < (nI 10) then fX12_chain_58 F x0 x2 x3 (fun (h30 : ab_H) => fX12_chain_49 F x0 x2 n (x3 + nI 1) h30) F (nI 0) h else ab_bd (ab_fr h x0 12 25) fun v31 => ab_bd (ab_ia 0 h v31 x2) fun v32 => some (v32, h))
def fX12_chain (F : Nat) (x0 : Nat) (x1 : Int32) (x2 : Int32) (h : ab_H) : Option (Int32 × ab_H) := ab_ck (ab_io h x0 12 = true) (ab_bd (fX12_two x0 x1 x2 h) fun v1 => ab_bd (ab_fw h x0 12 0 (.int v1)) fun h2 => ab_bd (ab_fi h2 x0 12 0) fun v3 => (if v3 ≤ 0 then fX12_chain_21 F x0 x1 x2 (fun (h8 : ab_H) => ab_bd (ab_fr h8 x0 12 25) fun v9 => ab_bd (ab_iw 0 h8 v9 x1 (nI 0)) fun h10 => fX12_chain_49 F x0 x2 F (nI 0) h10) F (nI 0) h2 else some (nI 0, h2)))
set_option maxRecDepth 100000 in
set_option maxHeartbeats 4000000 in
theorem lX12_chain_21 {l : Launch} (hl : l.stackTraces = false) (F : Nat) (x0 : Nat) (x1 : Int32) (x2 : Int32) {k40 : ab_H → Option (Int32 × ab_H)} (hk40 : ∀ (h : ab_H), ab_S l mX12_chain (fun y : (Int32 × ab_H) => ((.inl (some (.int y.1)), y.2) : ab_R × ab_H)) 0 0 (k40 h) 40 [(0, .ref x0), (1, .int x1), (2, .int x2)] [] h) : ∀ (n : Nat) (x3 : Int32) (h : ab_H), ab_S l mX12_chain (fun y : (Int32 × ab_H) => ((.inl (some (.int y.1)), y.2) : ab_R × ab_H)) 0 0 (fX12_chain_21 F x0 x1 x2 k40 n x3 h) 21 [(0, .ref x0), (1, .int x1), (2, .int x2), (3, .int x3)] [] h := by
  intro n
  induction n with
  | zero =>
    intro x3 h
    exact ab_none
  | succ n ih =>
    intro x3 h
    rw [fX12_chain_21]
    refine ab_iload_n (pc := 21) (n := 3) (i := 3) (j := 3) (by decide +kernel) rfl rfl ?_
    refine ab_bipush (pc := 22) (n := 10) (v := nI 10) (by decide +kernel) (by decide) ?_
    refine ab_icmp_ge (off := 16) (pc := 24) (tgt := 40) (by decide +kernel) (by decide) (fun g5 => ?_) (fun g5 => ?_)
    · refine ab_aload_n (pc := 27) (n := 0) (i := 0) (j := 0) (by decide +kernel) rfl rfl ?_
      refine ab_getR (pc := 28) fl_X12_47_12 (by decide +kernel) (fun v6 ev6 => ?_)
      refine ab_iload_n (pc := 31) (n := 3) (i := 3) (j := 3) (by decide +kernel) rfl rfl ?_
      refine ab_iconst (pc := 32) (n := -1) (v := (-1 : Int32)) (by decide +kernel) rfl ?_
      refine ab_iast (pc := 33) (by decide +kernel) (fun h7 eh7 => ?_)
      refine ab_iinc (pc := 34) (i := 3) (n := 1) (j := 3) (d := nI 1) (lv' := [(0, .ref x0), (1, .int x1), (2, .int x2), (3, .int (x3 + nI 1))]) (by decide +kernel) rfl rfl (Nat.le_of_ble_eq_true rfl) rfl rfl ?_
      refine ab_goto (pc := 37) (off := (-16)) (tgt := 21) (by decide +kernel) (by decide) ?_
      exact ih (x3 + nI 1) h7
    · refine ab_few [0, 1, 2] (lv' := [(0, .ref x0), (1, .int x1), (2, .int x2)]) rfl ?_
      exact hk40 h
set_option maxRecDepth 100000 in
set_option maxHeartbeats 4000000 in
theorem lX12_chain_72 {l : Launch} (hl : l.stackTraces = false) (F : Nat) (x0 : Nat) (x2 : Int32) (x3 : Int32) (x4 : Int32) {k136 : ab_H → Option (Int32 × ab_H)} (hk136 : ∀ (h : ab_H), ab_S l mX12_chain (fun y : (Int32 × ab_H) => ((.inl (some (.int y.1)), y.2) : ab_R × ab_H)) 0 0 (k136 h) 136 [(0, .ref x0), (2, .int x2), (3, .int x3), (4, .int x4)] [] h) : ∀ (n : Nat) (x5 : Int32) (h : ab_H), ab_S l mX12_chain (fun y : (Int32 × ab_H) => ((.inl (some (.int y.1)), y.2) : ab_R × ab_H)) 0 0 (fX12_chain_72 F x0 x2 x3 x4 k136 n x5 h) 72 [(0, .ref x0), (2, .int x2), (3, .int x3), (4, .int x4), (5, .int x5)] [] h := by
  intro n
  induction n with
  | zero =>
    intro x5 h
    exact ab_none
  | succ n ih =>
    intro x5 h
    rw [fX12_chain_72]
    refine ab_iload (pc := 72) (i := 5) (j := 4) (by decide +kernel) rfl ?_
    refine ab_aload_n (pc := 74) (n := 0) (i := 0) (j := 0) (by decide +kernel) rfl rfl ?_
    refine ab_getR (pc := 75) fl_X12_7_12 (by decide +kernel) (fun v15 ev15 => ?_)
    refine ab_iconst (pc := 78) (n := 3) (v := nI 3) (by decide +kernel) rfl ?_
    refine ab_iald (pc := 79) (by decide +kernel) (fun v16 ev16 => ?_)
    refine ab_icmp_ge (off := 56) (pc := 80) (tgt := 136) (by decide +kernel) (by decide) (fun g17 => ?_) (fun g17 => ?_)
    · refine ab_aload_n (pc := 83) (n := 0) (i := 0) (j := 0) (by decide +kernel) rfl rfl ?_
      refine ab_getR (pc := 84) fl_X12_47_12 (by decide +kernel) (fun v18 ev18 => ?_)
      refine ab_iload (pc := 87) (i := 4) (j := 3) (by decide +kernel) rfl ?_
      refine ab_iald (pc := 89) (by decide +kernel) (fun v19 ev19 => ?_)
      refine ab_iload_n (pc := 90) (n := 3) (i := 3) (j := 2) (by decide +kernel) rfl rfl ?_
      refine ab_icmp_ne (off := 39) (pc := 91) (tgt := 130) (by decide +kernel) (by decide) (fun g20 => ?_) (fun g20 => ?_)
      · refine ab_aload_n (pc := 94) (n := 0) (i := 0) (j := 0) (by decide +kernel) rfl rfl ?_
        refine ab_getR (pc := 95) fl_X12_47_12 (by decide +kernel) (fun v21 ev21 => ?_)
        refine ab_iload (pc := 98) (i := 5) (j := 4) (by decide +kernel) rfl ?_
        refine ab_iald (pc := 100) (by decide +kernel) (fun v22 ev22 => ?_)
        refine ab_iconst (pc := 101) (n := -1) (v := (-1 : Int32)) (by decide +kernel) rfl ?_
        refine ab_icmp_ne (off := 28) (pc := 102) (tgt := 130) (by decide +kernel) (by decide) (fun g23 => ?_) (fun g23 => ?_)
        · refine ab_aload_n (pc := 105) (n := 0) (i := 0) (j := 0) (by decide +kernel) rfl rfl ?_
          refine ab_iload (pc := 106) (i := 4) (j := 3) (by decide +kernel) rfl ?_
          refine ab_iconst (pc := 108) (n := 5) (v := nI 5) (by decide +kernel) rfl ?_
          refine ab_callVi (As := [.int x4, .int (nI 5)]) (st := []) (pc := 109) lk_X12_57_12 rfl rfl rfl (by decide) rfl (Nat.le_of_ble_eq_true rfl) (by decide +kernel) (fun y9 e9 => okX12_of hl e9) (fun v24 ev24 => ?_)
          refine ab_iload (pc := 112) (i := 5) (j := 4) (by decide +kernel) rfl ?_
          refine ab_callSi (As := [.int v24, .int x5]) (st := []) (pc := 114) lk_X12_107 rfl rfl rfl (by decide) rfl (Nat.le_of_ble_eq_true rfl) (by decide +kernel) (fun y9 e9 => okX12_isOf hl e9) (fun v25 ev25 => ?_)
          refine ab_if_eq (off := 13) (pc := 117) (tgt := 130) (by decide +kernel) (by decide) (fun g26 => ?_) (fun g26 => ?_)
          · refine ab_iinc (pc := 130) (i := 5) (n := 1) (j := 4) (d := nI 1) (lv' := [(0, .ref x0), (2, .int x2), (3, .int x3), (4, .int x4), (5, .int (x5 + nI 1))]) (by decide +kernel) rfl rfl (Nat.le_of_ble_eq_true rfl) rfl rfl ?_
            refine ab_goto (pc := 133) (off := (-61)) (tgt := 72) (by decide +kernel) (by decide) ?_
            exact ih (x5 + nI 1) h
          · refine ab_aload_n (pc := 120) (n := 0) (i := 0) (j := 0) (by decide +kernel) rfl rfl ?_
            refine ab_getR (pc := 121) fl_X12_47_12 (by decide +kernel) (fun v27 ev27 => ?_)
            refine ab_iload (pc := 124) (i := 5) (j := 4) (by decide +kernel) rfl ?_
            refine ab_iload_n (pc := 126) (n := 3) (i := 3) (j := 2) (by decide +kernel) rfl rfl ?_
            refine ab_iconst (pc := 127) (n := 1) (v := nI 1) (by decide +kernel) rfl ?_
            refine ab_iadd (pc := 128) (by decide +kernel) ?_
            refine ab_iast (pc := 129) (by decide +kernel) (fun h28 eh28 => ?_)
            refine ab_iinc (pc := 130) (i := 5) (n := 1) (j := 4) (d := nI 1) (lv' := [(0, .ref x0), (2, .int x2), (3, .int x3), (4, .int x4), (5, .int (x5 + nI 1))]) (by decide +kernel) rfl rfl (Nat.le_of_ble_eq_true rfl) rfl rfl ?_
            refine ab_goto (pc := 133) (off := (-61)) (tgt := 72) (by decide +kernel) (by decide) ?_
            exact ih (x5 + nI 1) h28
        · refine ab_iinc (pc := 130) (i := 5) (n := 1) (j := 4) (d := nI 1) (lv' := [(0, .ref x0), (2, .int x2), (3, .int x3), (4, .int x4), (5, .int (x5 + nI 1))]) (by decide +kernel) rfl rfl (Nat.le_of_ble_eq_true rfl) rfl rfl ?_
          refine ab_goto (pc := 133) (off := (-61)) (tgt := 72) (by decide +kernel) (by decide) ?_
          exact ih (x5 + nI 1) h
      · refine ab_iinc (pc := 130) (i := 5) (n := 1) (j := 4) (d := nI 1) (lv' := [(0, .ref x0), (2, .int x2), (3, .int x3), (4, .int x4), (5, .int (x5 + nI 1))]) (by decide +kernel) rfl rfl (Nat.le_of_ble_eq_true rfl) rfl rfl ?_
        refine ab_goto (pc := 133) (off := (-61)) (tgt := 72) (by decide +kernel) (by decide) ?_
        exact ih (x5 + nI 1) h
    · refine ab_few [0, 1, 2, 3] (lv' := [(0, .ref x0), (2, .int x2), (3, .int x3), (4, .int x4)]) rfl ?_
      exact hk136 h
set_option maxRecDepth 100000 in
set_option maxHeartbeats 4000000 in
theorem lX12_chain_58 {l : Launch} (hl : l.stackTraces = false) (F : Nat) (x0 : Nat) (x2 : Int32) (x3 : Int32) {k142 : ab_H → Option (Int32 × ab_H)} (hk142 : ∀ (h : ab_H), ab_S l mX12_chain (fun y : (Int32 × ab_H) => ((.inl (some (.int y.1)), y.2) : ab_R × ab_H)) 0 0 (k142 h) 142 [(0, .ref x0), (2, .int x2), (3, .int x3)] [] h) : ∀ (n : Nat) (x4 : Int32) (h : ab_H), ab_S l mX12_chain (fun y : (Int32 × ab_H) => ((.inl (some (.int y.1)), y.2) : ab_R × ab_H)) 0 0 (fX12_chain_58 F x0 x2 x3 k142 n x4 h) 58 [(0, .ref x0), (2, .int x2), (3, .int x3), (4, .int x4)] [] h := by
  intro n
  induction n with
  | zero =>
    intro x4 h
    exact ab_none
  | succ n ih =>
    intro x4 h
    rw [fX12_chain_58]
    refine ab_iload (pc := 58) (i := 4) (j := 3) (by decide +kernel) rfl ?_
    refine ab_aload_n (pc := 60) (n := 0) (i := 0) (j := 0) (by decide +kernel) rfl rfl ?_
    refine ab_getR (pc := 61) fl_X12_7_12 (by decide +kernel) (fun v12 ev12 => ?_)
    refine ab_iconst (pc := 64) (n := 3) (v := nI 3) (by decide +kernel) rfl ?_
    refine ab_iald (pc := 65) (by decide +kernel) (fun v13 ev13 => ?_)
    refine ab_icmp_ge (off := 76) (pc := 66) (tgt := 142) (by decide +kernel) (by decide) (fun g14 => ?_) (fun g14 => ?_)
    · refine ab_iconst (pc := 69) (n := 0) (v := nI 0) (by decide +kernel) rfl ?_
      refine ab_istore (pc := 70) (i := 5) (lv' := [(0, .ref x0), (2, .int x2), (3, .int x3), (4, .int x4), (5, .int (nI 0))]) (by decide +kernel) (Nat.le_of_ble_eq_true rfl) rfl rfl ?_
      refine lX12_chain_72 hl F x0 x2 x3 x4 ?_ F (nI 0) h
      intro h29
      refine ab_iinc (pc := 136) (i := 4) (n := 1) (j := 3) (d := nI 1) (lv' := [(0, .ref x0), (2, .int x2), (3, .int x3), (4, .int (x4 + nI 1))]) (by decide +kernel) rfl rfl (Nat.le_of_ble_eq_true rfl) rfl rfl ?_
      refine ab_goto (pc := 139) (off := (-81)) (tgt := 58) (by decide +kernel) (by decide) ?_
      exact ih (x4 + nI 1) h29
    · refine ab_few [0, 1, 2] (lv' := [(0, .ref x0), (2, .int x2), (3, .int x3)]) rfl ?_
      exact hk142 h
set_option maxRecDepth 100000 in
set_option maxHeartbeats 4000000 in
theorem lX12_chain_49 {l : Launch} (hl : l.stackTraces = false) (F : Nat) (x0 : Nat) (x2 : Int32) : ∀ (n : Nat) (x3 : Int32) (h : ab_H), ab_S l mX12_chain (fun y : (Int32 × ab_H) => ((.inl (some (.int y.1)), y.2) : ab_R × ab_H)) 0 0 (fX12_chain_49 F x0 x2 n x3 h) 49 [(0, .ref x0), (2, .int x2), (3, .int x3)] [] h := by
  intro n
  induction n with
  | zero =>
    intro x3 h
    exact ab_none
  | succ n ih =>
    intro x3 h
    rw [fX12_chain_49]
    refine ab_iload_n (pc := 49) (n := 3) (i := 3) (j := 2) (by decide +kernel) rfl rfl ?_
    refine ab_bipush (pc := 50) (n := 10) (v := nI 10) (by decide +kernel) (by decide) ?_
    refine ab_icmp_ge (off := 96) (pc := 52) (tgt := 148) (by decide +kernel) (by decide) (fun g11 => ?_) (fun g11 => ?_)
    · refine ab_iconst (pc := 55) (n := 0) (v := nI 0) (by decide +kernel) rfl ?_
      refine ab_istore (pc := 56) (i := 4) (lv' := [(0, .ref x0), (2, .int x2), (3, .int x3), (4, .int (nI 0))]) (by decide +kernel) (Nat.le_of_ble_eq_true rfl) rfl rfl ?_
      refine lX12_chain_58 hl F x0 x2 x3 ?_ F (nI 0) h
      intro h30
      refine ab_iinc (pc := 142) (i := 3) (n := 1) (j := 2) (d := nI 1) (lv' := [(0, .ref x0), (2, .int x2), (3, .int (x3 + nI 1))]) (by decide +kernel) rfl rfl (Nat.le_of_ble_eq_true rfl) rfl rfl ?_
      refine ab_goto (pc := 145) (off := (-96)) (tgt := 49) (by decide +kernel) (by decide) ?_
      exact ih (x3 + nI 1) h30
    · refine ab_aload_n (pc := 148) (n := 0) (i := 0) (j := 0) (by decide +kernel) rfl rfl ?_
      refine ab_getR (pc := 149) fl_X12_47_12 (by decide +kernel) (fun v31 ev31 => ?_)
      refine ab_iload_n (pc := 152) (n := 2) (i := 2) (j := 1) (by decide +kernel) rfl rfl ?_
      refine ab_iald (pc := 153) (by decide +kernel) (fun v32 ev32 => ?_)
      exact ab_iret (pc := 154) (by decide +kernel) rfl rfl (Nat.le_of_ble_eq_true rfl) (Nat.le_of_ble_eq_true rfl)
set_option maxRecDepth 100000 in
set_option maxHeartbeats 4000000 in
theorem wX12_chain {l : Launch} (hl : l.stackTraces = false) (F : Nat) (x0 : Nat) (x1 : Int32) (x2 : Int32) (h : ab_H) : ab_S l mX12_chain (fun y : (Int32 × ab_H) => ((.inl (some (.int y.1)), y.2) : ab_R × ab_H)) 0 0 (fX12_chain F x0 x1 x2 h) 0 [(0, .ref x0), (1, .int x1), (2, .int x2)] [] h := by
  unfold fX12_chain
  refine ab_aload_n (pc := 0) (n := 0) (i := 0) (j := 0) (by decide +kernel) rfl rfl ?_
  refine ab_aload_n (pc := 1) (n := 0) (i := 0) (j := 0) (by decide +kernel) rfl rfl ?_
  refine ab_iload_n (pc := 2) (n := 1) (i := 1) (j := 1) (by decide +kernel) rfl rfl ?_
  refine ab_iload_n (pc := 3) (n := 2) (i := 2) (j := 2) (by decide +kernel) rfl rfl ?_
  refine ab_callVi (As := [.int x1, .int x2]) (st := [.ref x0]) (pc := 4) lk_X12_265_12 rfl rfl rfl (by decide) rfl (Nat.le_of_ble_eq_true rfl) (by decide +kernel) (fun y9 e9 => okX12_two hl e9) (fun v1 ev1 => ?_)
  refine ab_put (pc := 7) fl_X12_50_12 rfl (fun _ => rfl) (fun _ => rfl) (by decide +kernel) (fun h2 eh2 => ?_)
  refine ab_aload_n (pc := 10) (n := 0) (i := 0) (j := 0) (by decide +kernel) rfl rfl ?_
  refine ab_getI (pc := 11) fl_X12_50_12 (by decide +kernel) (fun v3 ev3 => ?_)
  refine ab_if_le (off := 5) (pc := 14) (tgt := 19) (by decide +kernel) (by decide) (fun g4 => ?_) (fun g4 => ?_)
  · refine ab_iconst (pc := 19) (n := 0) (v := nI 0) (by decide +kernel) rfl ?_
    refine ab_istore_n (pc := 20) (n := 3) (i := 3) (lv' := [(0, .ref x0), (1, .int x1), (2, .int x2), (3, .int (nI 0))]) (by decide +kernel) rfl (Nat.le_of_ble_eq_true rfl) rfl rfl ?_
    refine lX12_chain_21 hl F x0 x1 x2 ?_ F (nI 0) h2
    intro h8
    refine ab_aload_n (pc := 40) (n := 0) (i := 0) (j := 0) (by decide +kernel) rfl rfl ?_
    refine ab_getR (pc := 41) fl_X12_47_12 (by decide +kernel) (fun v9 ev9 => ?_)
    refine ab_iload_n (pc := 44) (n := 1) (i := 1) (j := 1) (by decide +kernel) rfl rfl ?_
    refine ab_iconst (pc := 45) (n := 0) (v := nI 0) (by decide +kernel) rfl ?_
    refine ab_iast (pc := 46) (by decide +kernel) (fun h10 eh10 => ?_)
    refine ab_iconst (pc := 47) (n := 0) (v := nI 0) (by decide +kernel) rfl ?_
    refine ab_istore_n (pc := 48) (n := 3) (i := 3) (lv' := [(0, .ref x0), (1, .int x1), (2, .int x2), (3, .int (nI 0))]) (by decide +kernel) rfl (Nat.le_of_ble_eq_true rfl) rfl rfl ?_
    refine ab_few [0, 2, 3] (lv' := [(0, .ref x0), (2, .int x2), (3, .int (nI 0))]) rfl ?_
    refine lX12_chain_49 hl F x0 x2 F (nI 0) h10
  · refine ab_iconst (pc := 17) (n := 0) (v := nI 0) (by decide +kernel) rfl ?_
    exact ab_iret (pc := 18) (by decide +kernel) rfl rfl (Nat.le_of_ble_eq_true rfl) (Nat.le_of_ble_eq_true rfl)
set_option maxRecDepth 100000 in
set_option maxHeartbeats 4000000 in
theorem okX12_chain {l : Launch} (hl : l.stackTraces = false) {F : Nat} {x0 : Nat} {x1 : Int32} {x2 : Int32} {h : ab_H} {y : (Int32 × ab_H)} (e : fX12_chain F x0 x1 x2 h = some y) : ab_Met l mX12_chain [.ref x0, .int x1, .int x2] h (.inl (some (.int y.1)), y.2) := ab_ofS (io := (fun y : (Int32 × ab_H) => ((.inl (some (.int y.1)), y.2) : ab_R × ab_H))) (x := y) hl (by decide) rfl (Nat.le_of_ble_eq_true rfl) (wX12_chain hl F x0 x1 x2 h) e
def mX12_hears_ : ab_M := (yX12_hears_, cX12_hears_, 7, (some .int), { frames := 2, cells := 0, slots := 0, locals := 46 })
theorem iX12_hears_ : ab_MI mX12_hears_ 2 := ⟨kw_e6f9d75a7b, kw_30b3f7d7c6, by decide +kernel⟩
theorem lk_X12_169_12 : ab_LV RX12 169 12 mX12_putsAside 0 := ⟨RX12, rfl, iX12_putsAside, kw_f935d73389, kw_ce0c877844, kw_c7e26fd2a0⟩
theorem lk_X12_179_12 : ab_LV RX12 179 12 mX12_comesBack 0 := ⟨RX12, rfl, iX12_comesBack, kw_e80e92618c, kw_6cac0fa560, kw_82509c8458⟩
def fX12_hears__71 (F : Nat) (x0 : Nat) (x1 : Int32) (x2 : Int32) (x3 : Int32) (x4 : Int32) (k131 : ab_H → Option (Int32 × ab_H)) : Nat → Int32 → ab_H → Option (Int32 × ab_H)
  | 0, _, _ => none
  | n + 1, x5, h => ab_bd (ab_fr h x0 12 1) fun v11 => ab_bd (ab_ia 0 h v11 (nI 3)) fun v12 => (if x5 < v12 then ab_ck (ab_io h x0 12 = true) (ab_bd (fX12_of x0 x4 (nI 5) h) fun v14 => ab_bd (fX12_isOf v14 x5 h) fun v15 => (if v15 = 0 then fX12_hears__71 F x0 x1 x2 x3 x4 k131 n (x5 + nI 1) h else ab_ck (ab_io h x0 12 = true) (ab_bd (fX12_of x0 x5 (nI 5) h) fun v17 => ab_bd (fX12_isOf v17 x4 h) fun v18 => (if v18 = 0 then fX12_hears__71 F x0 x1 x2 x3 x4 k131 n (x5 + nI 1) h else ab_ck (ab_io h x0 12 = true) (ab_bd (fX12_meets x0 x4 x5 h) fun v20 => fX12_hears__71 F x0 x1 x2 x3 x4 k131 n (x5 + nI 1) v20.2))))) else k131 h)
def fX12_hears__54 (F : Nat) (x0 : Nat) (x1 : Int32) (x2 : Int32) (x3 : Int32) (k137 : ab_H → Option (Int32 × ab_H)) : Nat → Int32 → ab_H → Option (Int32 × ab_H)
  | 0, _, _ => none
  | n + 1, x4, h => ab_bd (ab_fr h x0 12 1) fun v8 => ab_bd (ab_ia 0 h v8 (nI 3)) fun v9 => (if x4 < v9 then fX12_hears__71 F x0 x1 x2 x3 x4 (fun (h21 : ab_H) => fX12_hears__54 F x0 x1 x2 x3 k137 n (x4 + nI 1) h21) F (x4 + (nI 1)) h else k137 h)
def fX12_hears__46 (F : Nat) (x0 : Nat) (x1 : Int32) (x2 : Int32) (k143 : ab_H → Option (Int32 × ab_H)) : Nat → Int32 → ab_H → Option (Int32 × ab_H)
  | 0, _, _ => none
  | n + 1, x3, h => (if x3 < x2 then fX12_hears__54 F x0 x1 x2 x3 (fun (h22 : ab_H) => fX12_hears__46 F x0 x1 x2 k143 n (x3 + nI 1) h22) F (nI 0) h else k143 h)
def fX12_hears_ (F : Nat) (x0 : Nat) (x1 : Int32) (x2 : Int32) (h : ab_H) : Option (Int32 × ab_H) := ab_ck (ab_io h x0 12 = true) (ab_bd (fX12_isPerson x0 x1 h) fun v1 => ab_jn (κ := Int32 → Option (Int32 × ab_H)) (fun (z2 : Int32) => ab_bd (ab_fw h x0 12 0 (.int z2)) fun h3 => ab_bd (ab_fi h3 x0 12 0) fun v4 => (if v4 ≤ 0 then ab_ck (ab_io h3 x0 12 = true) (ab_bd (fX12_putsAside F x0 h3) fun h6 => fX12_hears__46 F x0 x1 x2 (fun (h23 : ab_H) => ab_ck (ab_io h23 x0 12 = true) (ab_bd (fX12_of x0 x1 (nI 5) h23) fun v24 => ab_ck (ab_io h23 x0 12 = true) (ab_bd (fX12_comesBack F x0 h23) fun h25 => some (v24, h25)))) F (nI 0) h6) else some (nI 0, h3))) fun j26 => (if v1 = 0 then j26 (nI 1) else ab_bd (fX12_isIn x2 (nI 0) (nI 20) h) fun v28 => (if v28 = 0 then j26 (nI 2) else j26 (nI 0))))
set_option maxRecDepth 100000 in
set_option maxHeartbeats 4000000 in
theorem lX12_hears__71 {l : Launch} (hl : l.stackTraces = false) (F : Nat) (x0 : Nat) (x1 : Int32) (x2 : Int32) (x3 : Int32) (x4 : Int32) {k131 : ab_H → Option (Int32 × ab_H)} (hk131 : ∀ (h : ab_H), ab_S l mX12_hears_ (fun y : (Int32 × ab_H) => ((.inl (some (.int y.1)), y.2) : ab_R × ab_H)) 0 0 (k131 h) 131 [(0, .ref x0), (1, .int x1), (2, .int x2), (3, .int x3), (4, .int x4)] [] h) : ∀ (n : Nat) (x5 : Int32) (h : ab_H), ab_S l mX12_hears_ (fun y : (Int32 × ab_H) => ((.inl (some (.int y.1)), y.2) : ab_R × ab_H)) 0 0 (fX12_hears__71 F x0 x1 x2 x3 x4 k131 n x5 h) 71 [(0, .ref x0), (1, .int x1), (2, .int x2), (3, .int x3), (4, .int x4), (5, .int x5)] [] h := by
  intro n
  induction n with
  | zero =>
    intro x5 h
    exact ab_none
  | succ n ih =>
    intro x5 h
    rw [fX12_hears__71]
    refine ab_iload (pc := 71) (i := 5) (j := 5) (by decide +kernel) rfl ?_
    refine ab_aload_n (pc := 73) (n := 0) (i := 0) (j := 0) (by decide +kernel) rfl rfl ?_
    refine ab_getR (pc := 74) fl_X12_7_12 (by decide +kernel) (fun v11 ev11 => ?_)
    refine ab_iconst (pc := 77) (n := 3) (v := nI 3) (by decide +kernel) rfl ?_
    refine ab_iald (pc := 78) (by decide +kernel) (fun v12 ev12 => ?_)
    refine ab_icmp_ge (off := 52) (pc := 79) (tgt := 131) (by decide +kernel) (by decide) (fun g13 => ?_) (fun g13 => ?_)
    · refine ab_aload_n (pc := 82) (n := 0) (i := 0) (j := 0) (by decide +kernel) rfl rfl ?_
      refine ab_iload (pc := 83) (i := 4) (j := 4) (by decide +kernel) rfl ?_
      refine ab_iconst (pc := 85) (n := 5) (v := nI 5) (by decide +kernel) rfl ?_
      refine ab_callVi (As := [.int x4, .int (nI 5)]) (st := []) (pc := 86) lk_X12_57_12 rfl rfl rfl (by decide) rfl (Nat.le_of_ble_eq_true rfl) (by decide +kernel) (fun y9 e9 => okX12_of hl e9) (fun v14 ev14 => ?_)
      refine ab_iload (pc := 89) (i := 5) (j := 5) (by decide +kernel) rfl ?_
      refine ab_callSi (As := [.int v14, .int x5]) (st := []) (pc := 91) lk_X12_107 rfl rfl rfl (by decide) rfl (Nat.le_of_ble_eq_true rfl) (by decide +kernel) (fun y9 e9 => okX12_isOf hl e9) (fun v15 ev15 => ?_)
      refine ab_if_eq (off := 31) (pc := 94) (tgt := 125) (by decide +kernel) (by decide) (fun g16 => ?_) (fun g16 => ?_)
      · refine ab_iinc (pc := 125) (i := 5) (n := 1) (j := 5) (d := nI 1) (lv' := [(0, .ref x0), (1, .int x1), (2, .int x2), (3, .int x3), (4, .int x4), (5, .int (x5 + nI 1))]) (by decide +kernel) rfl rfl (Nat.le_of_ble_eq_true rfl) rfl rfl ?_
        refine ab_goto (pc := 128) (off := (-57)) (tgt := 71) (by decide +kernel) (by decide) ?_
        exact ih (x5 + nI 1) h
      · refine ab_aload_n (pc := 97) (n := 0) (i := 0) (j := 0) (by decide +kernel) rfl rfl ?_
        refine ab_iload (pc := 98) (i := 5) (j := 5) (by decide +kernel) rfl ?_
        refine ab_iconst (pc := 100) (n := 5) (v := nI 5) (by decide +kernel) rfl ?_
        refine ab_callVi (As := [.int x5, .int (nI 5)]) (st := []) (pc := 101) lk_X12_57_12 rfl rfl rfl (by decide) rfl (Nat.le_of_ble_eq_true rfl) (by decide +kernel) (fun y9 e9 => okX12_of hl e9) (fun v17 ev17 => ?_)
        refine ab_iload (pc := 104) (i := 4) (j := 4) (by decide +kernel) rfl ?_
        refine ab_callSi (As := [.int v17, .int x4]) (st := []) (pc := 106) lk_X12_107 rfl rfl rfl (by decide) rfl (Nat.le_of_ble_eq_true rfl) (by decide +kernel) (fun y9 e9 => okX12_isOf hl e9) (fun v18 ev18 => ?_)
        refine ab_if_ne (off := 6) (pc := 109) (tgt := 115) (by decide +kernel) (by decide) (fun g19 => ?_) (fun g19 => ?_)
        · refine ab_goto (pc := 112) (off := 13) (tgt := 125) (by decide +kernel) (by decide) ?_
          refine ab_iinc (pc := 125) (i := 5) (n := 1) (j := 5) (d := nI 1) (lv' := [(0, .ref x0), (1, .int x1), (2, .int x2), (3, .int x3), (4, .int x4), (5, .int (x5 + nI 1))]) (by decide +kernel) rfl rfl (Nat.le_of_ble_eq_true rfl) rfl rfl ?_
          refine ab_goto (pc := 128) (off := (-57)) (tgt := 71) (by decide +kernel) (by decide) ?_
          exact ih (x5 + nI 1) h
        · refine ab_aload_n (pc := 115) (n := 0) (i := 0) (j := 0) (by decide +kernel) rfl rfl ?_
          refine ab_iload (pc := 116) (i := 4) (j := 4) (by decide +kernel) rfl ?_
          refine ab_iload (pc := 118) (i := 5) (j := 5) (by decide +kernel) rfl ?_
          refine ab_callVj (As := [.int x4, .int x5]) (st := []) (pc := 120) lk_X12_291_12 rfl rfl rfl (by decide) rfl (Nat.le_of_ble_eq_true rfl) (by decide +kernel) (fun y9 e9 => okX12_meets hl e9) (fun v20 ev20 => ?_)
          refine ab_istore (pc := 123) (i := 6) (lv' := [(0, .ref x0), (1, .int x1), (2, .int x2), (3, .int x3), (4, .int x4), (5, .int x5), (6, .int v20.1)]) (by decide +kernel) (Nat.le_of_ble_eq_true rfl) rfl rfl ?_
          refine ab_iinc (pc := 125) (i := 5) (n := 1) (j := 5) (d := nI 1) (lv' := [(0, .ref x0), (1, .int x1), (2, .int x2), (3, .int x3), (4, .int x4), (5, .int (x5 + nI 1)), (6, .int v20.1)]) (by decide +kernel) rfl rfl (Nat.le_of_ble_eq_true rfl) rfl rfl ?_
          refine ab_goto (pc := 128) (off := (-57)) (tgt := 71) (by decide +kernel) (by decide) ?_
          refine ab_few [0, 1, 2, 3, 4, 5] (lv' := [(0, .ref x0), (1, .int x1), (2, .int x2), (3, .int x3), (4, .int x4), (5, .int (x5 + nI 1))]) rfl ?_
          exact ih (x5 + nI 1) v20.2
    · refine ab_few [0, 1, 2, 3, 4] (lv' := [(0, .ref x0), (1, .int x1), (2, .int x2), (3, .int x3), (4, .int x4)]) rfl ?_
      exact hk131 h
set_option maxRecDepth 100000 in
set_option maxHeartbeats 4000000 in
theorem lX12_hears__54 {l : Launch} (hl : l.stackTraces = false) (F : Nat) (x0 : Nat) (x1 : Int32) (x2 : Int32) (x3 : Int32) {k137 : ab_H → Option (Int32 × ab_H)} (hk137 : ∀ (h : ab_H), ab_S l mX12_hears_ (fun y : (Int32 × ab_H) => ((.inl (some (.int y.1)), y.2) : ab_R × ab_H)) 0 0 (k137 h) 137 [(0, .ref x0), (1, .int x1), (2, .int x2), (3, .int x3)] [] h) : ∀ (n : Nat) (x4 : Int32) (h : ab_H), ab_S l mX12_hears_ (fun y : (Int32 × ab_H) => ((.inl (some (.int y.1)), y.2) : ab_R × ab_H)) 0 0 (fX12_hears__54 F x0 x1 x2 x3 k137 n x4 h) 54 [(0, .ref x0), (1, .int x1), (2, .int x2), (3, .int x3), (4, .int x4)] [] h := by
  intro n
  induction n with
  | zero =>
    intro x4 h
    exact ab_none
  | succ n ih =>
    intro x4 h
    rw [fX12_hears__54]
    refine ab_iload (pc := 54) (i := 4) (j := 4) (by decide +kernel) rfl ?_
    refine ab_aload_n (pc := 56) (n := 0) (i := 0) (j := 0) (by decide +kernel) rfl rfl ?_
    refine ab_getR (pc := 57) fl_X12_7_12 (by decide +kernel) (fun v8 ev8 => ?_)
    refine ab_iconst (pc := 60) (n := 3) (v := nI 3) (by decide +kernel) rfl ?_
    refine ab_iald (pc := 61) (by decide +kernel) (fun v9 ev9 => ?_)
    refine ab_icmp_ge (off := 75) (pc := 62) (tgt := 137) (by decide +kernel) (by decide) (fun g10 => ?_) (fun g10 => ?_)
    · refine ab_iload (pc := 65) (i := 4) (j := 4) (by decide +kernel) rfl ?_
      refine ab_iconst (pc := 67) (n := 1) (v := nI 1) (by decide +kernel) rfl ?_
      refine ab_iadd (pc := 68) (by decide +kernel) ?_
      refine ab_istore (pc := 69) (i := 5) (lv' := [(0, .ref x0), (1, .int x1), (2, .int x2), (3, .int x3), (4, .int x4), (5, .int (x4 + (nI 1)))]) (by decide +kernel) (Nat.le_of_ble_eq_true rfl) rfl rfl ?_
      refine lX12_hears__71 hl F x0 x1 x2 x3 x4 ?_ F (x4 + (nI 1)) h
      intro h21
      refine ab_iinc (pc := 131) (i := 4) (n := 1) (j := 4) (d := nI 1) (lv' := [(0, .ref x0), (1, .int x1), (2, .int x2), (3, .int x3), (4, .int (x4 + nI 1))]) (by decide +kernel) rfl rfl (Nat.le_of_ble_eq_true rfl) rfl rfl ?_
      refine ab_goto (pc := 134) (off := (-80)) (tgt := 54) (by decide +kernel) (by decide) ?_
      exact ih (x4 + nI 1) h21
    · refine ab_few [0, 1, 2, 3] (lv' := [(0, .ref x0), (1, .int x1), (2, .int x2), (3, .int x3)]) rfl ?_
      exact hk137 h
set_option maxRecDepth 100000 in
set_option maxHeartbeats 4000000 in
theorem lX12_hears__46 {l : Launch} (hl : l.stackTraces = false) (F : Nat) (x0 : Nat) (x1 : Int32) (x2 : Int32) {k143 : ab_H → Option (Int32 × ab_H)} (hk143 : ∀ (h : ab_H), ab_S l mX12_hears_ (fun y : (Int32 × ab_H) => ((.inl (some (.int y.1)), y.2) : ab_R × ab_H)) 0 0 (k143 h) 143 [(0, .ref x0), (1, .int x1)] [] h) : ∀ (n : Nat) (x3 : Int32) (h : ab_H), ab_S l mX12_hears_ (fun y : (Int32 × ab_H) => ((.inl (some (.int y.1)), y.2) : ab_R × ab_H)) 0 0 (fX12_hears__46 F x0 x1 x2 k143 n x3 h) 46 [(0, .ref x0), (1, .int x1), (2, .int x2), (3, .int x3)] [] h := by
  intro n
  induction n with
  | zero =>
    intro x3 h
    exact ab_none
  | succ n ih =>
    intro x3 h
    rw [fX12_hears__46]
    refine ab_iload_n (pc := 46) (n := 3) (i := 3) (j := 3) (by decide +kernel) rfl rfl ?_
    refine ab_iload_n (pc := 47) (n := 2) (i := 2) (j := 2) (by decide +kernel) rfl rfl ?_
    refine ab_icmp_ge (off := 95) (pc := 48) (tgt := 143) (by decide +kernel) (by decide) (fun g7 => ?_) (fun g7 => ?_)
    · refine ab_iconst (pc := 51) (n := 0) (v := nI 0) (by decide +kernel) rfl ?_
      refine ab_istore (pc := 52) (i := 4) (lv' := [(0, .ref x0), (1, .int x1), (2, .int x2), (3, .int x3), (4, .int (nI 0))]) (by decide +kernel) (Nat.le_of_ble_eq_true rfl) rfl rfl ?_
      refine lX12_hears__54 hl F x0 x1 x2 x3 ?_ F (nI 0) h
      intro h22
      refine ab_iinc (pc := 137) (i := 3) (n := 1) (j := 3) (d := nI 1) (lv' := [(0, .ref x0), (1, .int x1), (2, .int x2), (3, .int (x3 + nI 1))]) (by decide +kernel) rfl rfl (Nat.le_of_ble_eq_true rfl) rfl rfl ?_
      refine ab_goto (pc := 140) (off := (-94)) (tgt := 46) (by decide +kernel) (by decide) ?_
      exact ih (x3 + nI 1) h22
    · refine ab_few [0, 1] (lv' := [(0, .ref x0), (1, .int x1)]) rfl ?_
      exact hk143 h
set_option maxRecDepth 100000 in
set_option maxHeartbeats 4000000 in
theorem wX12_hears_ {l : Launch} (hl : l.stackTraces = false) (F : Nat) (x0 : Nat) (x1 : Int32) (x2 : Int32) (h : ab_H) : ab_S l mX12_hears_ (fun y : (Int32 × ab_H) => ((.inl (some (.int y.1)), y.2) : ab_R × ab_H)) 0 0 (fX12_hears_ F x0 x1 x2 h) 0 [(0, .ref x0), (1, .int x1), (2, .int x2)] [] h := by
  unfold fX12_hears_
  refine ab_aload_n (pc := 0) (n := 0) (i := 0) (j := 0) (by decide +kernel) rfl rfl ?_
  refine ab_aload_n (pc := 1) (n := 0) (i := 0) (j := 0) (by decide +kernel) rfl rfl ?_
  refine ab_iload_n (pc := 2) (n := 1) (i := 1) (j := 1) (by decide +kernel) rfl rfl ?_
  refine ab_callVi (As := [.int x1]) (st := [.ref x0]) (pc := 3) lk_X12_250_12 rfl rfl rfl (by decide) rfl (Nat.le_of_ble_eq_true rfl) (by decide +kernel) (fun y9 e9 => okX12_isPerson hl e9) (fun v1 ev1 => ?_)
  refine ab_jr (fun k9 : Int32 → Option (Int32 × ab_H) => ∀ (z2 : Int32), ab_S l mX12_hears_ (fun y : (Int32 × ab_H) => ((.inl (some (.int y.1)), y.2) : ab_R × ab_H)) 0 0 (k9 z2) 28 [(0, .ref x0), (1, .int x1), (2, .int x2)] [.int z2, .ref x0] h) ?_ (fun j26 hj26 => ?_)
  · intro z2
    refine ab_put (pc := 28) fl_X12_50_12 rfl (fun _ => rfl) (fun _ => rfl) (by decide +kernel) (fun h3 eh3 => ?_)
    refine ab_aload_n (pc := 31) (n := 0) (i := 0) (j := 0) (by decide +kernel) rfl rfl ?_
    refine ab_getI (pc := 32) fl_X12_50_12 (by decide +kernel) (fun v4 ev4 => ?_)
    refine ab_if_le (off := 5) (pc := 35) (tgt := 40) (by decide +kernel) (by decide) (fun g5 => ?_) (fun g5 => ?_)
    · refine ab_aload_n (pc := 40) (n := 0) (i := 0) (j := 0) (by decide +kernel) rfl rfl ?_
      refine ab_callVw (As := []) (st := []) (pc := 41) lk_X12_169_12 rfl rfl rfl (by decide) rfl (Nat.le_of_ble_eq_true rfl) (by decide +kernel) (fun y9 e9 => okX12_putsAside hl (F := F) e9) (fun h6 eh6 => ?_)
      refine ab_iconst (pc := 44) (n := 0) (v := nI 0) (by decide +kernel) rfl ?_
      refine ab_istore_n (pc := 45) (n := 3) (i := 3) (lv' := [(0, .ref x0), (1, .int x1), (2, .int x2), (3, .int (nI 0))]) (by decide +kernel) rfl (Nat.le_of_ble_eq_true rfl) rfl rfl ?_
      refine lX12_hears__46 hl F x0 x1 x2 ?_ F (nI 0) h6
      intro h23
      refine ab_aload_n (pc := 143) (n := 0) (i := 0) (j := 0) (by decide +kernel) rfl rfl ?_
      refine ab_iload_n (pc := 144) (n := 1) (i := 1) (j := 1) (by decide +kernel) rfl rfl ?_
      refine ab_iconst (pc := 145) (n := 5) (v := nI 5) (by decide +kernel) rfl ?_
      refine ab_callVi (As := [.int x1, .int (nI 5)]) (st := []) (pc := 146) lk_X12_57_12 rfl rfl rfl (by decide) rfl (Nat.le_of_ble_eq_true rfl) (by decide +kernel) (fun y9 e9 => okX12_of hl e9) (fun v24 ev24 => ?_)
      refine ab_istore_n (pc := 149) (n := 3) (i := 3) (lv' := [(0, .ref x0), (1, .int x1), (3, .int v24)]) (by decide +kernel) rfl (Nat.le_of_ble_eq_true rfl) rfl rfl ?_
      refine ab_aload_n (pc := 150) (n := 0) (i := 0) (j := 0) (by decide +kernel) rfl rfl ?_
      refine ab_callVw (As := []) (st := []) (pc := 151) lk_X12_179_12 rfl rfl rfl (by decide) rfl (Nat.le_of_ble_eq_true rfl) (by decide +kernel) (fun y9 e9 => okX12_comesBack hl (F := F) e9) (fun h25 eh25 => ?_)
      refine ab_iload_n (pc := 154) (n := 3) (i := 3) (j := 2) (by decide +kernel) rfl rfl ?_
      exact ab_iret (pc := 155) (by decide +kernel) rfl rfl (Nat.le_of_ble_eq_true rfl) (Nat.le_of_ble_eq_true rfl)
    · refine ab_iconst (pc := 38) (n := 0) (v := nI 0) (by decide +kernel) rfl ?_
      exact ab_iret (pc := 39) (by decide +kernel) rfl rfl (Nat.le_of_ble_eq_true rfl) (Nat.le_of_ble_eq_true rfl)
  · refine ab_if_ne (off := 7) (pc := 6) (tgt := 13) (by decide +kernel) (by decide) (fun g27 => ?_) (fun g27 => ?_)
    · refine ab_iconst (pc := 9) (n := 1) (v := nI 1) (by decide +kernel) rfl ?_
      refine ab_goto (pc := 10) (off := 18) (tgt := 28) (by decide +kernel) (by decide) ?_
      exact hj26 (nI 1)
    · refine ab_iload_n (pc := 13) (n := 2) (i := 2) (j := 2) (by decide +kernel) rfl rfl ?_
      refine ab_iconst (pc := 14) (n := 0) (v := nI 0) (by decide +kernel) rfl ?_
      refine ab_bipush (pc := 15) (n := 20) (v := nI 20) (by decide +kernel) (by decide) ?_
      refine ab_callSi (As := [.int x2, .int (nI 0), .int (nI 20)]) (st := [.ref x0]) (pc := 17) lk_X12_53 rfl rfl rfl (by decide) rfl (Nat.le_of_ble_eq_true rfl) (by decide +kernel) (fun y9 e9 => okX12_isIn hl e9) (fun v28 ev28 => ?_)
      refine ab_if_ne (off := 7) (pc := 20) (tgt := 27) (by decide +kernel) (by decide) (fun g29 => ?_) (fun g29 => ?_)
      · refine ab_iconst (pc := 23) (n := 2) (v := nI 2) (by decide +kernel) rfl ?_
        refine ab_goto (pc := 24) (off := 4) (tgt := 28) (by decide +kernel) (by decide) ?_
        exact hj26 (nI 2)
      · refine ab_iconst (pc := 27) (n := 0) (v := nI 0) (by decide +kernel) rfl ?_
        exact hj26 (nI 0)
set_option maxRecDepth 100000 in
set_option maxHeartbeats 4000000 in
theorem okX12_hears_ {l : Launch} (hl : l.stackTraces = false) {F : Nat} {x0 : Nat} {x1 : Int32} {x2 : Int32} {h : ab_H} {y : (Int32 × ab_H)} (e : fX12_hears_ F x0 x1 x2 h = some y) : ab_Met l mX12_hears_ [.ref x0, .int x1, .int x2] h (.inl (some (.int y.1)), y.2) := ab_ofS (io := (fun y : (Int32 × ab_H) => ((.inl (some (.int y.1)), y.2) : ab_R × ab_H))) (x := y) hl (by decide) rfl (Nat.le_of_ble_eq_true rfl) (wX12_hears_ hl F x0 x1 x2 h) e
def mX12_logged : ab_M := (yX12_logged, cX12_logged, 3, (some .int), { frames := 0, cells := 0, slots := 0, locals := 0 })
theorem iX12_logged : ab_MI mX12_logged 2 := ⟨kw_eeb1f95d3a, kw_30b3f7d7c6, by decide +kernel⟩
def fX12_logged (x0 : Nat) (x1 : Int32) (x2 : Int32) (h : ab_H) : Option Int32 := ab_bd (ab_fr h x0 12 1) fun v1 => ab_bd (ab_ia 0 h v1 (((nI 284) + ((nI 5) * x1)) + x2)) fun v2 => some v2
set_option maxRecDepth 100000 in
set_option maxHeartbeats 4000000 in
theorem wX12_logged {l : Launch} (hl : l.stackTraces = false) (x0 : Nat) (x1 : Int32) (x2 : Int32) (h : ab_H) : ab_S l mX12_logged (fun y : Int32 => ((.inl (some (.int y)), h) : ab_R × ab_H)) 0 0 (fX12_logged x0 x1 x2 h) 0 [(0, .ref x0), (1, .int x1), (2, .int x2)] [] h := by
  unfold fX12_logged
  refine ab_aload_n (pc := 0) (n := 0) (i := 0) (j := 0) (by decide +kernel) rfl rfl ?_
  refine ab_getR (pc := 1) fl_X12_7_12 (by decide +kernel) (fun v1 ev1 => ?_)
  refine ab_sipush (pc := 4) (n := 284) (v := nI 284) (by decide +kernel) (by decide) ?_
  refine ab_iconst (pc := 7) (n := 5) (v := nI 5) (by decide +kernel) rfl ?_
  refine ab_iload_n (pc := 8) (n := 1) (i := 1) (j := 1) (by decide +kernel) rfl rfl ?_
  refine ab_imul (pc := 9) (by decide +kernel) ?_
  refine ab_iadd (pc := 10) (by decide +kernel) ?_
  refine ab_iload_n (pc := 11) (n := 2) (i := 2) (j := 2) (by decide +kernel) rfl rfl ?_
  refine ab_iadd (pc := 12) (by decide +kernel) ?_
  refine ab_iald (pc := 13) (by decide +kernel) (fun v2 ev2 => ?_)
  exact ab_iret (pc := 14) (by decide +kernel) rfl rfl (Nat.le_of_ble_eq_true rfl) (Nat.le_of_ble_eq_true rfl)
set_option maxRecDepth 100000 in
set_option maxHeartbeats 4000000 in
theorem okX12_logged {l : Launch} (hl : l.stackTraces = false) {x0 : Nat} {x1 : Int32} {x2 : Int32} {h : ab_H} {y : Int32} (e : fX12_logged x0 x1 x2 h = some y) : ab_Met l mX12_logged [.ref x0, .int x1, .int x2] h (.inl (some (.int y)), h) := ab_ofS (io := (fun y : Int32 => ((.inl (some (.int y)), h) : ab_R × ab_H))) (x := y) hl (by decide) rfl (Nat.le_of_ble_eq_true rfl) (wX12_logged hl x0 x1 x2 h) e
def mX12_led : ab_M := (yX12_led, cX12_led, 6, (some .int), { frames := 2, cells := 0, slots := 0, locals := 43 })
theorem iX12_led : ab_MI mX12_led 2 := ⟨kw_c17653543f, kw_30b3f7d7c6, by decide +kernel⟩
theorem lk_X12_378_12 : ab_LV RX12 378 12 mX12_logged 2 := ⟨RX12, rfl, iX12_logged, kw_8d8a5ad994, kw_5627d439fb, kw_02f5145f40⟩
def fX12_led_42 (x0 : Nat) (x1 : Int32) (x2 : Int32) (h : ab_H) (k94 : Int32 → Int32 → Option (Int32 × ab_H)) : Nat → Int32 → Int32 → Int32 → Option (Int32 × ab_H)
  | 0, _, _, _ => none
  | n + 1, x3, x4, x5 => (if x5 < 0 then k94 x3 x4 else ab_ck (ab_io h x0 12 = true) (ab_bd (fX12_logged x0 x5 (nI 3) h) fun v9 => (if v9 = x1 then ab_ck (ab_io h x0 12 = true) (ab_bd (fX12_logged x0 x5 (nI 4) h) fun v11 => ab_bd (fX12_isIn v11 (nI 1) (nI 2) h) fun v12 => (if v12 = 0 then fX12_led_42 x0 x1 x2 h k94 n x3 x4 (x5 + (-1 : Int32)) else ab_ck (ab_io h x0 12 = true) (ab_bd (fX12_logged x0 x5 (nI 1) h) fun v14 => fX12_led_42 x0 x1 x2 h k94 n (x3 + nI 1) v14 (x5 + (-1 : Int32))))) else fX12_led_42 x0 x1 x2 h k94 n x3 x4 (x5 + (-1 : Int32)))))
def fX12_led (F : Nat) (x0 : Nat) (x1 : Int32) (x2 : Int32) (h : ab_H) : Option (Int32 × ab_H) := ab_ck (ab_io h x0 12 = true) (ab_bd (fX12_isPerson x0 x1 h) fun v1 => ab_jn (κ := Int32 → Option (Int32 × ab_H)) (fun (z2 : Int32) => ab_bd (ab_fw h x0 12 0 (.int z2)) fun h3 => ab_bd (ab_fi h3 x0 12 0) fun v4 => (if v4 ≤ 0 then ab_bd (ab_fr h3 x0 12 1) fun v6 => ab_bd (ab_ia 0 h3 v6 (nI 8)) fun v7 => fX12_led_42 x0 x1 x2 h3 (fun (z15 : Int32) (z16 : Int32) => (if x2 = 0 then some (z15, h3) else some (z16, h3))) F (nI 0) (-1 : Int32) (v7 - (nI 1)) else some (nI 0, h3))) fun j18 => (if v1 = 0 then j18 (nI 1) else j18 (nI 0)))
set_option maxRecDepth 100000 in
set_option maxHeartbeats 4000000 in
theorem lX12_led_42 {l : Launch} (hl : l.stackTraces = false) (x0 : Nat) (x1 : Int32) (x2 : Int32) (h : ab_H) {k94 : Int32 → Int32 → Option (Int32 × ab_H)} (hk94 : ∀ (x3 : Int32), ∀ (x4 : Int32), ab_S l mX12_led (fun y : (Int32 × ab_H) => ((.inl (some (.int y.1)), y.2) : ab_R × ab_H)) 0 0 (k94 x3 x4) 94 [(2, .int x2), (3, .int x3), (4, .int x4)] [] h) : ∀ (n : Nat) (x3 : Int32) (x4 : Int32) (x5 : Int32), ab_S l mX12_led (fun y : (Int32 × ab_H) => ((.inl (some (.int y.1)), y.2) : ab_R × ab_H)) 0 0 (fX12_led_42 x0 x1 x2 h k94 n x3 x4 x5) 42 [(0, .ref x0), (1, .int x1), (2, .int x2), (3, .int x3), (4, .int x4), (5, .int x5)] [] h := by
  intro n
  induction n with
  | zero =>
    intro x3 x4 x5
    exact ab_none
  | succ n ih =>
    intro x3 x4 x5
    rw [fX12_led_42]
    refine ab_iload (pc := 42) (i := 5) (j := 5) (by decide +kernel) rfl ?_
    refine ab_if_lt (off := 50) (pc := 44) (tgt := 94) (by decide +kernel) (by decide) (fun g8 => ?_) (fun g8 => ?_)
    · refine ab_few [2, 3, 4] (lv' := [(2, .int x2), (3, .int x3), (4, .int x4)]) rfl ?_
      exact hk94 x3 x4
    · refine ab_aload_n (pc := 47) (n := 0) (i := 0) (j := 0) (by decide +kernel) rfl rfl ?_
      refine ab_iload (pc := 48) (i := 5) (j := 5) (by decide +kernel) rfl ?_
      refine ab_iconst (pc := 50) (n := 3) (v := nI 3) (by decide +kernel) rfl ?_
      refine ab_callVi (As := [.int x5, .int (nI 3)]) (st := []) (pc := 51) lk_X12_378_12 rfl rfl rfl (by decide) rfl (Nat.le_of_ble_eq_true rfl) (by decide +kernel) (fun y9 e9 => okX12_logged hl e9) (fun v9 ev9 => ?_)
      refine ab_iload_n (pc := 54) (n := 1) (i := 1) (j := 1) (by decide +kernel) rfl rfl ?_
      refine ab_icmp_ne (off := 33) (pc := 55) (tgt := 88) (by decide +kernel) (by decide) (fun g10 => ?_) (fun g10 => ?_)
      · refine ab_aload_n (pc := 58) (n := 0) (i := 0) (j := 0) (by decide +kernel) rfl rfl ?_
        refine ab_iload (pc := 59) (i := 5) (j := 5) (by decide +kernel) rfl ?_
        refine ab_iconst (pc := 61) (n := 4) (v := nI 4) (by decide +kernel) rfl ?_
        refine ab_callVi (As := [.int x5, .int (nI 4)]) (st := []) (pc := 62) lk_X12_378_12 rfl rfl rfl (by decide) rfl (Nat.le_of_ble_eq_true rfl) (by decide +kernel) (fun y9 e9 => okX12_logged hl e9) (fun v11 ev11 => ?_)
        refine ab_iconst (pc := 65) (n := 1) (v := nI 1) (by decide +kernel) rfl ?_
        refine ab_iconst (pc := 66) (n := 2) (v := nI 2) (by decide +kernel) rfl ?_
        refine ab_callSi (As := [.int v11, .int (nI 1), .int (nI 2)]) (st := []) (pc := 67) lk_X12_53 rfl rfl rfl (by decide) rfl (Nat.le_of_ble_eq_true rfl) (by decide +kernel) (fun y9 e9 => okX12_isIn hl e9) (fun v12 ev12 => ?_)
        refine ab_if_ne (off := 6) (pc := 70) (tgt := 76) (by decide +kernel) (by decide) (fun g13 => ?_) (fun g13 => ?_)
        · refine ab_goto (pc := 73) (off := 15) (tgt := 88) (by decide +kernel) (by decide) ?_
          refine ab_iinc (pc := 88) (i := 5) (n := -1) (j := 5) (d := (-1 : Int32)) (lv' := [(0, .ref x0), (1, .int x1), (2, .int x2), (3, .int x3), (4, .int x4), (5, .int (x5 + (-1 : Int32)))]) (by decide +kernel) rfl rfl (Nat.le_of_ble_eq_true rfl) rfl rfl ?_
          refine ab_goto (pc := 91) (off := (-49)) (tgt := 42) (by decide +kernel) (by decide) ?_
          exact ih x3 x4 (x5 + (-1 : Int32))
        · refine ab_iinc (pc := 76) (i := 3) (n := 1) (j := 3) (d := nI 1) (lv' := [(0, .ref x0), (1, .int x1), (2, .int x2), (3, .int (x3 + nI 1)), (4, .int x4), (5, .int x5)]) (by decide +kernel) rfl rfl (Nat.le_of_ble_eq_true rfl) rfl rfl ?_
          refine ab_aload_n (pc := 79) (n := 0) (i := 0) (j := 0) (by decide +kernel) rfl rfl ?_
          refine ab_iload (pc := 80) (i := 5) (j := 5) (by decide +kernel) rfl ?_
          refine ab_iconst (pc := 82) (n := 1) (v := nI 1) (by decide +kernel) rfl ?_
          refine ab_callVi (As := [.int x5, .int (nI 1)]) (st := []) (pc := 83) lk_X12_378_12 rfl rfl rfl (by decide) rfl (Nat.le_of_ble_eq_true rfl) (by decide +kernel) (fun y9 e9 => okX12_logged hl e9) (fun v14 ev14 => ?_)
          refine ab_istore (pc := 86) (i := 4) (lv' := [(0, .ref x0), (1, .int x1), (2, .int x2), (3, .int (x3 + nI 1)), (4, .int v14), (5, .int x5)]) (by decide +kernel) (Nat.le_of_ble_eq_true rfl) rfl rfl ?_
          refine ab_iinc (pc := 88) (i := 5) (n := -1) (j := 5) (d := (-1 : Int32)) (lv' := [(0, .ref x0), (1, .int x1), (2, .int x2), (3, .int (x3 + nI 1)), (4, .int v14), (5, .int (x5 + (-1 : Int32)))]) (by decide +kernel) rfl rfl (Nat.le_of_ble_eq_true rfl) rfl rfl ?_
          refine ab_goto (pc := 91) (off := (-49)) (tgt := 42) (by decide +kernel) (by decide) ?_
          exact ih (x3 + nI 1) v14 (x5 + (-1 : Int32))
      · refine ab_iinc (pc := 88) (i := 5) (n := -1) (j := 5) (d := (-1 : Int32)) (lv' := [(0, .ref x0), (1, .int x1), (2, .int x2), (3, .int x3), (4, .int x4), (5, .int (x5 + (-1 : Int32)))]) (by decide +kernel) rfl rfl (Nat.le_of_ble_eq_true rfl) rfl rfl ?_
        refine ab_goto (pc := 91) (off := (-49)) (tgt := 42) (by decide +kernel) (by decide) ?_
        exact ih x3 x4 (x5 + (-1 : Int32))
set_option maxRecDepth 100000 in
set_option maxHeartbeats 4000000 in
theorem wX12_led {l : Launch} (hl : l.stackTraces = false) (F : Nat) (x0 : Nat) (x1 : Int32) (x2 : Int32) (h : ab_H) : ab_S l mX12_led (fun y : (Int32 × ab_H) => ((.inl (some (.int y.1)), y.2) : ab_R × ab_H)) 0 0 (fX12_led F x0 x1 x2 h) 0 [(0, .ref x0), (1, .int x1), (2, .int x2)] [] h := by
  unfold fX12_led
  refine ab_aload_n (pc := 0) (n := 0) (i := 0) (j := 0) (by decide +kernel) rfl rfl ?_
  refine ab_aload_n (pc := 1) (n := 0) (i := 0) (j := 0) (by decide +kernel) rfl rfl ?_
  refine ab_iload_n (pc := 2) (n := 1) (i := 1) (j := 1) (by decide +kernel) rfl rfl ?_
  refine ab_callVi (As := [.int x1]) (st := [.ref x0]) (pc := 3) lk_X12_250_12 rfl rfl rfl (by decide) rfl (Nat.le_of_ble_eq_true rfl) (by decide +kernel) (fun y9 e9 => okX12_isPerson hl e9) (fun v1 ev1 => ?_)
  refine ab_jr (fun k9 : Int32 → Option (Int32 × ab_H) => ∀ (z2 : Int32), ab_S l mX12_led (fun y : (Int32 × ab_H) => ((.inl (some (.int y.1)), y.2) : ab_R × ab_H)) 0 0 (k9 z2) 14 [(0, .ref x0), (1, .int x1), (2, .int x2)] [.int z2, .ref x0] h) ?_ (fun j18 hj18 => ?_)
  · intro z2
    refine ab_put (pc := 14) fl_X12_50_12 rfl (fun _ => rfl) (fun _ => rfl) (by decide +kernel) (fun h3 eh3 => ?_)
    refine ab_aload_n (pc := 17) (n := 0) (i := 0) (j := 0) (by decide +kernel) rfl rfl ?_
    refine ab_getI (pc := 18) fl_X12_50_12 (by decide +kernel) (fun v4 ev4 => ?_)
    refine ab_if_le (off := 5) (pc := 21) (tgt := 26) (by decide +kernel) (by decide) (fun g5 => ?_) (fun g5 => ?_)
    · refine ab_iconst (pc := 26) (n := 0) (v := nI 0) (by decide +kernel) rfl ?_
      refine ab_istore_n (pc := 27) (n := 3) (i := 3) (lv' := [(0, .ref x0), (1, .int x1), (2, .int x2), (3, .int (nI 0))]) (by decide +kernel) rfl (Nat.le_of_ble_eq_true rfl) rfl rfl ?_
      refine ab_iconst (pc := 28) (n := -1) (v := (-1 : Int32)) (by decide +kernel) rfl ?_
      refine ab_istore (pc := 29) (i := 4) (lv' := [(0, .ref x0), (1, .int x1), (2, .int x2), (3, .int (nI 0)), (4, .int (-1 : Int32))]) (by decide +kernel) (Nat.le_of_ble_eq_true rfl) rfl rfl ?_
      refine ab_aload_n (pc := 31) (n := 0) (i := 0) (j := 0) (by decide +kernel) rfl rfl ?_
      refine ab_getR (pc := 32) fl_X12_7_12 (by decide +kernel) (fun v6 ev6 => ?_)
      refine ab_bipush (pc := 35) (n := 8) (v := nI 8) (by decide +kernel) (by decide) ?_
      refine ab_iald (pc := 37) (by decide +kernel) (fun v7 ev7 => ?_)
      refine ab_iconst (pc := 38) (n := 1) (v := nI 1) (by decide +kernel) rfl ?_
      refine ab_isub (pc := 39) (by decide +kernel) ?_
      refine ab_istore (pc := 40) (i := 5) (lv' := [(0, .ref x0), (1, .int x1), (2, .int x2), (3, .int (nI 0)), (4, .int (-1 : Int32)), (5, .int (v7 - (nI 1)))]) (by decide +kernel) (Nat.le_of_ble_eq_true rfl) rfl rfl ?_
      refine lX12_led_42 hl x0 x1 x2 h3 ?_ F (nI 0) (-1 : Int32) (v7 - (nI 1))
      intro z15 z16
      refine ab_iload_n (pc := 94) (n := 2) (i := 2) (j := 0) (by decide +kernel) rfl rfl ?_
      refine ab_if_eq (off := 8) (pc := 95) (tgt := 103) (by decide +kernel) (by decide) (fun g17 => ?_) (fun g17 => ?_)
      · refine ab_iload_n (pc := 103) (n := 3) (i := 3) (j := 1) (by decide +kernel) rfl rfl ?_
        exact ab_iret (pc := 104) (by decide +kernel) rfl rfl (Nat.le_of_ble_eq_true rfl) (Nat.le_of_ble_eq_true rfl)
      · refine ab_iload (pc := 98) (i := 4) (j := 2) (by decide +kernel) rfl ?_
        refine ab_goto (pc := 100) (off := 4) (tgt := 104) (by decide +kernel) (by decide) ?_
        exact ab_iret (pc := 104) (by decide +kernel) rfl rfl (Nat.le_of_ble_eq_true rfl) (Nat.le_of_ble_eq_true rfl)
    · refine ab_iconst (pc := 24) (n := 0) (v := nI 0) (by decide +kernel) rfl ?_
      exact ab_iret (pc := 25) (by decide +kernel) rfl rfl (Nat.le_of_ble_eq_true rfl) (Nat.le_of_ble_eq_true rfl)
  · refine ab_if_ne (off := 7) (pc := 6) (tgt := 13) (by decide +kernel) (by decide) (fun g19 => ?_) (fun g19 => ?_)
    · refine ab_iconst (pc := 9) (n := 1) (v := nI 1) (by decide +kernel) rfl ?_
      refine ab_goto (pc := 10) (off := 4) (tgt := 14) (by decide +kernel) (by decide) ?_
      exact hj18 (nI 1)
    · refine ab_iconst (pc := 13) (n := 0) (v := nI 0) (by decide +kernel) rfl ?_
      exact hj18 (nI 0)
set_option maxRecDepth 100000 in
set_option maxHeartbeats 4000000 in
theorem okX12_led {l : Launch} (hl : l.stackTraces = false) {F : Nat} {x0 : Nat} {x1 : Int32} {x2 : Int32} {h : ab_H} {y : (Int32 × ab_H)} (e : fX12_led F x0 x1 x2 h = some y) : ab_Met l mX12_led [.ref x0, .int x1, .int x2] h (.inl (some (.int y.1)), y.2) := ab_ofS (io := (fun y : (Int32 × ab_H) => ((.inl (some (.int y.1)), y.2) : ab_R × ab_H))) (x := y) hl (by decide) rfl (Nat.le_of_ble_eq_true rfl) (wX12_led hl F x0 x1 x2 h) e
def mX12_log : ab_M := (yX12_log, cX12_log, 3, (some .int), { frames := 1, cells := 0, slots := 0, locals := 22 })
theorem iX12_log : ab_MI mX12_log 2 := ⟨kw_1ed4d8b1d8, kw_30b3f7d7c6, by decide +kernel⟩
def fX12_log (x0 : Nat) (x1 : Int32) (x2 : Int32) (h : ab_H) : Option (Int32 × ab_H) := ab_bd (fX12_isIn x2 (nI 0) (nI 4) h) fun v1 => ab_jn (κ := Int32 → Option (Int32 × ab_H)) (fun (z2 : Int32) => ab_bd (ab_fw h x0 12 0 (.int z2)) fun h3 => ab_bd (ab_fi h3 x0 12 0) fun v4 => (if v4 ≤ 0 then ab_bd (ab_fr h3 x0 12 1) fun v6 => ab_bd (ab_ia 0 h3 v6 (nI 8)) fun v7 => ab_bd (fX12_isIn x1 (nI 0) (v7 - (nI 1)) h3) fun v8 => (if v8 = 0 then some ((-99 : Int32), h3) else ab_ck (ab_io h3 x0 12 = true) (ab_bd (fX12_logged x0 x1 x2 h3) fun v10 => some (v10, h3))) else some (nI 0, h3))) fun j11 => (if v1 = 0 then j11 (nI 1) else j11 (nI 0))
set_option maxRecDepth 100000 in
set_option maxHeartbeats 4000000 in
theorem wX12_log {l : Launch} (hl : l.stackTraces = false) (x0 : Nat) (x1 : Int32) (x2 : Int32) (h : ab_H) : ab_S l mX12_log (fun y : (Int32 × ab_H) => ((.inl (some (.int y.1)), y.2) : ab_R × ab_H)) 0 0 (fX12_log x0 x1 x2 h) 0 [(0, .ref x0), (1, .int x1), (2, .int x2)] [] h := by
  unfold fX12_log
  refine ab_aload_n (pc := 0) (n := 0) (i := 0) (j := 0) (by decide +kernel) rfl rfl ?_
  refine ab_iload_n (pc := 1) (n := 2) (i := 2) (j := 2) (by decide +kernel) rfl rfl ?_
  refine ab_iconst (pc := 2) (n := 0) (v := nI 0) (by decide +kernel) rfl ?_
  refine ab_iconst (pc := 3) (n := 4) (v := nI 4) (by decide +kernel) rfl ?_
  refine ab_callSi (As := [.int x2, .int (nI 0), .int (nI 4)]) (st := [.ref x0]) (pc := 4) lk_X12_53 rfl rfl rfl (by decide) rfl (Nat.le_of_ble_eq_true rfl) (by decide +kernel) (fun y9 e9 => okX12_isIn hl e9) (fun v1 ev1 => ?_)
  refine ab_jr (fun k9 : Int32 → Option (Int32 × ab_H) => ∀ (z2 : Int32), ab_S l mX12_log (fun y : (Int32 × ab_H) => ((.inl (some (.int y.1)), y.2) : ab_R × ab_H)) 0 0 (k9 z2) 15 [(0, .ref x0), (1, .int x1), (2, .int x2)] [.int z2, .ref x0] h) ?_ (fun j11 hj11 => ?_)
  · intro z2
    refine ab_put (pc := 15) fl_X12_50_12 rfl (fun _ => rfl) (fun _ => rfl) (by decide +kernel) (fun h3 eh3 => ?_)
    refine ab_aload_n (pc := 18) (n := 0) (i := 0) (j := 0) (by decide +kernel) rfl rfl ?_
    refine ab_getI (pc := 19) fl_X12_50_12 (by decide +kernel) (fun v4 ev4 => ?_)
    refine ab_if_le (off := 5) (pc := 22) (tgt := 27) (by decide +kernel) (by decide) (fun g5 => ?_) (fun g5 => ?_)
    · refine ab_iload_n (pc := 27) (n := 1) (i := 1) (j := 1) (by decide +kernel) rfl rfl ?_
      refine ab_iconst (pc := 28) (n := 0) (v := nI 0) (by decide +kernel) rfl ?_
      refine ab_aload_n (pc := 29) (n := 0) (i := 0) (j := 0) (by decide +kernel) rfl rfl ?_
      refine ab_getR (pc := 30) fl_X12_7_12 (by decide +kernel) (fun v6 ev6 => ?_)
      refine ab_bipush (pc := 33) (n := 8) (v := nI 8) (by decide +kernel) (by decide) ?_
      refine ab_iald (pc := 35) (by decide +kernel) (fun v7 ev7 => ?_)
      refine ab_iconst (pc := 36) (n := 1) (v := nI 1) (by decide +kernel) rfl ?_
      refine ab_isub (pc := 37) (by decide +kernel) ?_
      refine ab_callSi (As := [.int x1, .int (nI 0), .int (v7 - (nI 1))]) (st := []) (pc := 38) lk_X12_53 rfl rfl rfl (by decide) rfl (Nat.le_of_ble_eq_true rfl) (by decide +kernel) (fun y9 e9 => okX12_isIn hl e9) (fun v8 ev8 => ?_)
      refine ab_if_eq (off := 12) (pc := 41) (tgt := 53) (by decide +kernel) (by decide) (fun g9 => ?_) (fun g9 => ?_)
      · refine ab_bipush (pc := 53) (n := -99) (v := (-99 : Int32)) (by decide +kernel) (by decide) ?_
        exact ab_iret (pc := 55) (by decide +kernel) rfl rfl (Nat.le_of_ble_eq_true rfl) (Nat.le_of_ble_eq_true rfl)
      · refine ab_aload_n (pc := 44) (n := 0) (i := 0) (j := 0) (by decide +kernel) rfl rfl ?_
        refine ab_iload_n (pc := 45) (n := 1) (i := 1) (j := 1) (by decide +kernel) rfl rfl ?_
        refine ab_iload_n (pc := 46) (n := 2) (i := 2) (j := 2) (by decide +kernel) rfl rfl ?_
        refine ab_callVi (As := [.int x1, .int x2]) (st := []) (pc := 47) lk_X12_378_12 rfl rfl rfl (by decide) rfl (Nat.le_of_ble_eq_true rfl) (by decide +kernel) (fun y9 e9 => okX12_logged hl e9) (fun v10 ev10 => ?_)
        refine ab_goto (pc := 50) (off := 5) (tgt := 55) (by decide +kernel) (by decide) ?_
        exact ab_iret (pc := 55) (by decide +kernel) rfl rfl (Nat.le_of_ble_eq_true rfl) (Nat.le_of_ble_eq_true rfl)
    · refine ab_iconst (pc := 25) (n := 0) (v := nI 0) (by decide +kernel) rfl ?_
      exact ab_iret (pc := 26) (by decide +kernel) rfl rfl (Nat.le_of_ble_eq_true rfl) (Nat.le_of_ble_eq_true rfl)
  · refine ab_if_ne (off := 7) (pc := 7) (tgt := 14) (by decide +kernel) (by decide) (fun g12 => ?_) (fun g12 => ?_)
    · refine ab_iconst (pc := 10) (n := 1) (v := nI 1) (by decide +kernel) rfl ?_
      refine ab_goto (pc := 11) (off := 4) (tgt := 15) (by decide +kernel) (by decide) ?_
      exact hj11 (nI 1)
    · refine ab_iconst (pc := 14) (n := 0) (v := nI 0) (by decide +kernel) rfl ?_
      exact hj11 (nI 0)
set_option maxRecDepth 100000 in
set_option maxHeartbeats 4000000 in
theorem okX12_log {l : Launch} (hl : l.stackTraces = false) {x0 : Nat} {x1 : Int32} {x2 : Int32} {h : ab_H} {y : (Int32 × ab_H)} (e : fX12_log x0 x1 x2 h = some y) : ab_Met l mX12_log [.ref x0, .int x1, .int x2] h (.inl (some (.int y.1)), y.2) := ab_ofS (io := (fun y : (Int32 × ab_H) => ((.inl (some (.int y.1)), y.2) : ab_R × ab_H))) (x := y) hl (by decide) rfl (Nat.le_of_ble_eq_true rfl) (wX12_log hl x0 x1 x2 h) e
def mX12_seed : ab_M := (yX12_seed, cX12_seed, 3, (some .int), { frames := 0, cells := 0, slots := 0, locals := 0 })
theorem iX12_seed : ab_MI mX12_seed 1 := ⟨kw_f1f1325057, kw_30b3f7d7c6, by decide +kernel⟩
def fX12_seed (x0 : Nat) (x1 : Int32) (h : ab_H) : Option (Int32 × ab_H) := ab_bd (ab_fw h x0 12 0 (.int (nI 0))) fun h1 => ab_bd (ab_fr h1 x0 12 1) fun v2 => ab_bd (ab_ia 0 h1 v2 (nI 9)) fun v3 => ab_bd (ab_fr h1 x0 12 1) fun v4 => ab_bd (ab_iw 0 h1 v4 (nI 9) x1) fun h5 => some (v3, h5)
set_option maxRecDepth 100000 in
set_option maxHeartbeats 4000000 in
theorem wX12_seed {l : Launch} (hl : l.stackTraces = false) (x0 : Nat) (x1 : Int32) (h : ab_H) : ab_S l mX12_seed (fun y : (Int32 × ab_H) => ((.inl (some (.int y.1)), y.2) : ab_R × ab_H)) 0 0 (fX12_seed x0 x1 h) 0 [(0, .ref x0), (1, .int x1)] [] h := by
  unfold fX12_seed
  refine ab_aload_n (pc := 0) (n := 0) (i := 0) (j := 0) (by decide +kernel) rfl rfl ?_
  refine ab_iconst (pc := 1) (n := 0) (v := nI 0) (by decide +kernel) rfl ?_
  refine ab_put (pc := 2) fl_X12_50_12 rfl (fun _ => rfl) (fun _ => rfl) (by decide +kernel) (fun h1 eh1 => ?_)
  refine ab_aload_n (pc := 5) (n := 0) (i := 0) (j := 0) (by decide +kernel) rfl rfl ?_
  refine ab_getR (pc := 6) fl_X12_7_12 (by decide +kernel) (fun v2 ev2 => ?_)
  refine ab_bipush (pc := 9) (n := 9) (v := nI 9) (by decide +kernel) (by decide) ?_
  refine ab_iald (pc := 11) (by decide +kernel) (fun v3 ev3 => ?_)
  refine ab_istore_n (pc := 12) (n := 2) (i := 2) (lv' := [(0, .ref x0), (1, .int x1), (2, .int v3)]) (by decide +kernel) rfl (Nat.le_of_ble_eq_true rfl) rfl rfl ?_
  refine ab_aload_n (pc := 13) (n := 0) (i := 0) (j := 0) (by decide +kernel) rfl rfl ?_
  refine ab_getR (pc := 14) fl_X12_7_12 (by decide +kernel) (fun v4 ev4 => ?_)
  refine ab_bipush (pc := 17) (n := 9) (v := nI 9) (by decide +kernel) (by decide) ?_
  refine ab_iload_n (pc := 19) (n := 1) (i := 1) (j := 1) (by decide +kernel) rfl rfl ?_
  refine ab_iast (pc := 20) (by decide +kernel) (fun h5 eh5 => ?_)
  refine ab_iload_n (pc := 21) (n := 2) (i := 2) (j := 2) (by decide +kernel) rfl rfl ?_
  exact ab_iret (pc := 22) (by decide +kernel) rfl rfl (Nat.le_of_ble_eq_true rfl) (Nat.le_of_ble_eq_true rfl)
set_option maxRecDepth 100000 in
set_option maxHeartbeats 4000000 in
theorem okX12_seed {l : Launch} (hl : l.stackTraces = false) {x0 : Nat} {x1 : Int32} {h : ab_H} {y : (Int32 × ab_H)} (e : fX12_seed x0 x1 h = some y) : ab_Met l mX12_seed [.ref x0, .int x1] h (.inl (some (.int y.1)), y.2) := ab_ofS (io := (fun y : (Int32 × ab_H) => ((.inl (some (.int y.1)), y.2) : ab_R × ab_H))) (x := y) hl (by decide) rfl (Nat.le_of_ble_eq_true rfl) (wX12_seed hl x0 x1 h) e
def mX12_undo : ab_M := (yX12_undo, cX12_undo, 2, (some .boolean), { frames := 0, cells := 0, slots := 0, locals := 0 })
theorem iX12_undo : ab_MI mX12_undo 0 := ⟨kw_4637b5fc72, kw_30b3f7d7c6, by decide +kernel⟩
def fX12_undo_26 (x0 : Nat) : Nat → Int32 → ab_H → Option (Int32 × ab_H)
  | 0, _, _ => none
  | n + 1, x1, h => (if x1 < (nI 584) then ab_bd (ab_fr h x0 12 1) fun v7 => ab_bd (ab_fr h x0 12 5) fun v8 => ab_bd (ab_fi h x0 12 6) fun v9 => ab_bd (ab_ia 0 h v8 (((nI 584) * v9) + x1)) fun v10 => ab_bd (ab_iw 0 h v7 x1 v10) fun h11 => fX12_undo_26 x0 n (x1 + nI 1) h11 else some (nI 1, h))
def fX12_undo (F : Nat) (x0 : Nat) (h : ab_H) : Option (Int32 × ab_H) := ab_bd (ab_fw h x0 12 0 (.int (nI 0))) fun h1 => ab_bd (ab_fi h1 x0 12 6) fun v2 => (if v2 = 0 then some (nI 0, h1) else ab_bd (ab_fi h1 x0 12 6) fun v4 => ab_bd (ab_fw h1 x0 12 6 (.int (v4 - (nI 1)))) fun h5 => fX12_undo_26 x0 F (nI 0) h5)
set_option maxRecDepth 100000 in
set_option maxHeartbeats 4000000 in
theorem lX12_undo_26 {l : Launch} (hl : l.stackTraces = false) (x0 : Nat) : ∀ (n : Nat) (x1 : Int32) (h : ab_H), ab_S l mX12_undo (fun y : (Int32 × ab_H) => ((.inl (some (.int y.1)), y.2) : ab_R × ab_H)) 0 0 (fX12_undo_26 x0 n x1 h) 26 [(0, .ref x0), (1, .int x1)] [] h := by
  intro n
  induction n with
  | zero =>
    intro x1 h
    exact ab_none
  | succ n ih =>
    intro x1 h
    rw [fX12_undo_26]
    refine ab_iload_n (pc := 26) (n := 1) (i := 1) (j := 1) (by decide +kernel) rfl rfl ?_
    refine ab_sipush (pc := 27) (n := 584) (v := nI 584) (by decide +kernel) (by decide) ?_
    refine ab_icmp_ge (off := 30) (pc := 30) (tgt := 60) (by decide +kernel) (by decide) (fun g6 => ?_) (fun g6 => ?_)
    · refine ab_aload_n (pc := 33) (n := 0) (i := 0) (j := 0) (by decide +kernel) rfl rfl ?_
      refine ab_getR (pc := 34) fl_X12_7_12 (by decide +kernel) (fun v7 ev7 => ?_)
      refine ab_iload_n (pc := 37) (n := 1) (i := 1) (j := 1) (by decide +kernel) rfl rfl ?_
      refine ab_aload_n (pc := 38) (n := 0) (i := 0) (j := 0) (by decide +kernel) rfl rfl ?_
      refine ab_getR (pc := 39) fl_X12_19_12 (by decide +kernel) (fun v8 ev8 => ?_)
      refine ab_sipush (pc := 42) (n := 584) (v := nI 584) (by decide +kernel) (by decide) ?_
      refine ab_aload_n (pc := 45) (n := 0) (i := 0) (j := 0) (by decide +kernel) rfl rfl ?_
      refine ab_getI (pc := 46) fl_X12_182_12 (by decide +kernel) (fun v9 ev9 => ?_)
      refine ab_imul (pc := 49) (by decide +kernel) ?_
      refine ab_iload_n (pc := 50) (n := 1) (i := 1) (j := 1) (by decide +kernel) rfl rfl ?_
      refine ab_iadd (pc := 51) (by decide +kernel) ?_
      refine ab_iald (pc := 52) (by decide +kernel) (fun v10 ev10 => ?_)
      refine ab_iast (pc := 53) (by decide +kernel) (fun h11 eh11 => ?_)
      refine ab_iinc (pc := 54) (i := 1) (n := 1) (j := 1) (d := nI 1) (lv' := [(0, .ref x0), (1, .int (x1 + nI 1))]) (by decide +kernel) rfl rfl (Nat.le_of_ble_eq_true rfl) rfl rfl ?_
      refine ab_goto (pc := 57) (off := (-31)) (tgt := 26) (by decide +kernel) (by decide) ?_
      exact ih (x1 + nI 1) h11
    · refine ab_iconst (pc := 60) (n := 1) (v := nI 1) (by decide +kernel) rfl ?_
      exact ab_zret (pc := 61) (by decide +kernel) rfl ab_bl1.1 rfl (Nat.le_of_ble_eq_true rfl) (Nat.le_of_ble_eq_true rfl)
set_option maxRecDepth 100000 in
set_option maxHeartbeats 4000000 in
theorem wX12_undo {l : Launch} (hl : l.stackTraces = false) (F : Nat) (x0 : Nat) (h : ab_H) : ab_S l mX12_undo (fun y : (Int32 × ab_H) => ((.inl (some (.int y.1)), y.2) : ab_R × ab_H)) 0 0 (fX12_undo F x0 h) 0 [(0, .ref x0)] [] h := by
  unfold fX12_undo
  refine ab_aload_n (pc := 0) (n := 0) (i := 0) (j := 0) (by decide +kernel) rfl rfl ?_
  refine ab_iconst (pc := 1) (n := 0) (v := nI 0) (by decide +kernel) rfl ?_
  refine ab_put (pc := 2) fl_X12_50_12 rfl (fun _ => rfl) (fun _ => rfl) (by decide +kernel) (fun h1 eh1 => ?_)
  refine ab_aload_n (pc := 5) (n := 0) (i := 0) (j := 0) (by decide +kernel) rfl rfl ?_
  refine ab_getI (pc := 6) fl_X12_182_12 (by decide +kernel) (fun v2 ev2 => ?_)
  refine ab_if_ne (off := 5) (pc := 9) (tgt := 14) (by decide +kernel) (by decide) (fun g3 => ?_) (fun g3 => ?_)
  · refine ab_iconst (pc := 12) (n := 0) (v := nI 0) (by decide +kernel) rfl ?_
    exact ab_zret (pc := 13) (by decide +kernel) rfl ab_bl0.1 rfl (Nat.le_of_ble_eq_true rfl) (Nat.le_of_ble_eq_true rfl)
  · refine ab_aload_n (pc := 14) (n := 0) (i := 0) (j := 0) (by decide +kernel) rfl rfl ?_
    refine ab_dup (pc := 15) (by decide +kernel) rfl ?_
    refine ab_getI (pc := 16) fl_X12_182_12 (by decide +kernel) (fun v4 ev4 => ?_)
    refine ab_iconst (pc := 19) (n := 1) (v := nI 1) (by decide +kernel) rfl ?_
    refine ab_isub (pc := 20) (by decide +kernel) ?_
    refine ab_put (pc := 21) fl_X12_182_12 rfl (fun _ => rfl) (fun _ => rfl) (by decide +kernel) (fun h5 eh5 => ?_)
    refine ab_iconst (pc := 24) (n := 0) (v := nI 0) (by decide +kernel) rfl ?_
    refine ab_istore_n (pc := 25) (n := 1) (i := 1) (lv' := [(0, .ref x0), (1, .int (nI 0))]) (by decide +kernel) rfl (Nat.le_of_ble_eq_true rfl) rfl rfl ?_
    refine lX12_undo_26 hl x0 F (nI 0) h5
set_option maxRecDepth 100000 in
set_option maxHeartbeats 4000000 in
theorem okX12_undo {l : Launch} (hl : l.stackTraces = false) {F : Nat} {x0 : Nat} {h : ab_H} {y : (Int32 × ab_H)} (e : fX12_undo F x0 h = some y) : ab_Met l mX12_undo [.ref x0] h (.inl (some (.int y.1)), y.2) := ab_ofS (io := (fun y : (Int32 × ab_H) => ((.inl (some (.int y.1)), y.2) : ab_R × ab_H))) (x := y) hl (by decide) rfl (Nat.le_of_ble_eq_true rfl) (wX12_undo hl F x0 h) e
def mX12_image : ab_M := (yX12_image, cX12_image, 2, none, { frames := 0, cells := 0, slots := 0, locals := 0 })
theorem iX12_image : ab_MI mX12_image 0 := ⟨kw_0abdd6b7c9, kw_30b3f7d7c6, by decide +kernel⟩
def fX12_image_7 (x0 : Nat) : Nat → Int32 → ab_H → Option ab_H
  | 0, _, _ => none
  | n + 1, x1, h => (if x1 < (nI 984) then ab_bd (ab_fr h x0 12 2) fun v3 => ab_bd (ab_fr h x0 12 1) fun v4 => ab_bd (ab_ia 0 h v4 x1) fun v5 => ab_bd (ab_iw 0 h v3 x1 v5) fun h6 => fX12_image_7 x0 n (x1 + nI 1) h6 else ab_bd (ab_fw h x0 12 3 (.int (nI 1))) fun h7 => some h7)
def fX12_image (F : Nat) (x0 : Nat) (h : ab_H) : Option ab_H := ab_bd (ab_fw h x0 12 0 (.int (nI 0))) fun h1 => fX12_image_7 x0 F (nI 0) h1
set_option maxRecDepth 100000 in
set_option maxHeartbeats 4000000 in
theorem lX12_image_7 {l : Launch} (hl : l.stackTraces = false) (x0 : Nat) : ∀ (n : Nat) (x1 : Int32) (h : ab_H), ab_S l mX12_image (fun y : ab_H => ((.inl none, y) : ab_R × ab_H)) 0 0 (fX12_image_7 x0 n x1 h) 7 [(0, .ref x0), (1, .int x1)] [] h := by
  intro n
  induction n with
  | zero =>
    intro x1 h
    exact ab_none
  | succ n ih =>
    intro x1 h
    rw [fX12_image_7]
    refine ab_iload_n (pc := 7) (n := 1) (i := 1) (j := 1) (by decide +kernel) rfl rfl ?_
    refine ab_sipush (pc := 8) (n := 984) (v := nI 984) (by decide +kernel) (by decide) ?_
    refine ab_icmp_ge (off := 21) (pc := 11) (tgt := 32) (by decide +kernel) (by decide) (fun g2 => ?_) (fun g2 => ?_)
    · refine ab_aload_n (pc := 14) (n := 0) (i := 0) (j := 0) (by decide +kernel) rfl rfl ?_
      refine ab_getR (pc := 15) fl_X12_13_12 (by decide +kernel) (fun v3 ev3 => ?_)
      refine ab_iload_n (pc := 18) (n := 1) (i := 1) (j := 1) (by decide +kernel) rfl rfl ?_
      refine ab_aload_n (pc := 19) (n := 0) (i := 0) (j := 0) (by decide +kernel) rfl rfl ?_
      refine ab_getR (pc := 20) fl_X12_7_12 (by decide +kernel) (fun v4 ev4 => ?_)
      refine ab_iload_n (pc := 23) (n := 1) (i := 1) (j := 1) (by decide +kernel) rfl rfl ?_
      refine ab_iald (pc := 24) (by decide +kernel) (fun v5 ev5 => ?_)
      refine ab_iast (pc := 25) (by decide +kernel) (fun h6 eh6 => ?_)
      refine ab_iinc (pc := 26) (i := 1) (n := 1) (j := 1) (d := nI 1) (lv' := [(0, .ref x0), (1, .int (x1 + nI 1))]) (by decide +kernel) rfl rfl (Nat.le_of_ble_eq_true rfl) rfl rfl ?_
      refine ab_goto (pc := 29) (off := (-22)) (tgt := 7) (by decide +kernel) (by decide) ?_
      exact ih (x1 + nI 1) h6
    · refine ab_aload_n (pc := 32) (n := 0) (i := 0) (j := 0) (by decide +kernel) rfl rfl ?_
      refine ab_iconst (pc := 33) (n := 1) (v := nI 1) (by decide +kernel) rfl ?_
      refine ab_put (pc := 34) fl_X12_381_12 rfl (fun _ => ab_bl1.1) (fun _ => ab_bl1.2) (by decide +kernel) (fun h7 eh7 => ?_)
      exact ab_vret (pc := 37) (by decide +kernel) rfl rfl (Nat.le_of_ble_eq_true rfl) (Nat.le_of_ble_eq_true rfl)
set_option maxRecDepth 100000 in
set_option maxHeartbeats 4000000 in
theorem wX12_image {l : Launch} (hl : l.stackTraces = false) (F : Nat) (x0 : Nat) (h : ab_H) : ab_S l mX12_image (fun y : ab_H => ((.inl none, y) : ab_R × ab_H)) 0 0 (fX12_image F x0 h) 0 [(0, .ref x0)] [] h := by
  unfold fX12_image
  refine ab_aload_n (pc := 0) (n := 0) (i := 0) (j := 0) (by decide +kernel) rfl rfl ?_
  refine ab_iconst (pc := 1) (n := 0) (v := nI 0) (by decide +kernel) rfl ?_
  refine ab_put (pc := 2) fl_X12_50_12 rfl (fun _ => rfl) (fun _ => rfl) (by decide +kernel) (fun h1 eh1 => ?_)
  refine ab_iconst (pc := 5) (n := 0) (v := nI 0) (by decide +kernel) rfl ?_
  refine ab_istore_n (pc := 6) (n := 1) (i := 1) (lv' := [(0, .ref x0), (1, .int (nI 0))]) (by decide +kernel) rfl (Nat.le_of_ble_eq_true rfl) rfl rfl ?_
  refine lX12_image_7 hl x0 F (nI 0) h1
set_option maxRecDepth 100000 in
set_option maxHeartbeats 4000000 in
theorem okX12_image {l : Launch} (hl : l.stackTraces = false) {F : Nat} {x0 : Nat} {h : ab_H} {y : ab_H} (e : fX12_image F x0 h = some y) : ab_Met l mX12_image [.ref x0] h (.inl none, y) := ab_ofS (io := (fun y : ab_H => ((.inl none, y) : ab_R × ab_H))) (x := y) hl (by decide) rfl (Nat.le_of_ble_eq_true rfl) (wX12_image hl F x0 h) e
def mX12_back : ab_M := (yX12_back, cX12_back, 2, (some .boolean), { frames := 0, cells := 0, slots := 0, locals := 0 })
theorem iX12_back : ab_MI mX12_back 0 := ⟨kw_6e373aca91, kw_30b3f7d7c6, by decide +kernel⟩
def fX12_back_16 (x0 : Nat) : Nat → Int32 → ab_H → Option (Int32 × ab_H)
  | 0, _, _ => none
  | n + 1, x1, h => (if x1 < (nI 984) then ab_bd (ab_fr h x0 12 1) fun v5 => ab_bd (ab_fr h x0 12 2) fun v6 => ab_bd (ab_ia 0 h v6 x1) fun v7 => ab_bd (ab_iw 0 h v5 x1 v7) fun h8 => fX12_back_16 x0 n (x1 + nI 1) h8 else ab_bd (ab_fw h x0 12 6 (.int (nI 0))) fun h9 => some (nI 1, h9))
def fX12_back (F : Nat) (x0 : Nat) (h : ab_H) : Option (Int32 × ab_H) := ab_bd (ab_fw h x0 12 0 (.int (nI 0))) fun h1 => ab_bd (ab_fi h1 x0 12 3) fun v2 => (if v2 = 0 then some (nI 0, h1) else fX12_back_16 x0 F (nI 0) h1)
set_option maxRecDepth 100000 in
set_option maxHeartbeats 4000000 in
theorem lX12_back_16 {l : Launch} (hl : l.stackTraces = false) (x0 : Nat) : ∀ (n : Nat) (x1 : Int32) (h : ab_H), ab_S l mX12_back (fun y : (Int32 × ab_H) => ((.inl (some (.int y.1)), y.2) : ab_R × ab_H)) 0 0 (fX12_back_16 x0 n x1 h) 16 [(0, .ref x0), (1, .int x1)] [] h := by
  intro n
  induction n with
  | zero =>
    intro x1 h
    exact ab_none
  | succ n ih =>
    intro x1 h
    rw [fX12_back_16]
    refine ab_iload_n (pc := 16) (n := 1) (i := 1) (j := 1) (by decide +kernel) rfl rfl ?_
    refine ab_sipush (pc := 17) (n := 984) (v := nI 984) (by decide +kernel) (by decide) ?_
    refine ab_icmp_ge (off := 21) (pc := 20) (tgt := 41) (by decide +kernel) (by decide) (fun g4 => ?_) (fun g4 => ?_)
    · refine ab_aload_n (pc := 23) (n := 0) (i := 0) (j := 0) (by decide +kernel) rfl rfl ?_
      refine ab_getR (pc := 24) fl_X12_7_12 (by decide +kernel) (fun v5 ev5 => ?_)
      refine ab_iload_n (pc := 27) (n := 1) (i := 1) (j := 1) (by decide +kernel) rfl rfl ?_
      refine ab_aload_n (pc := 28) (n := 0) (i := 0) (j := 0) (by decide +kernel) rfl rfl ?_
      refine ab_getR (pc := 29) fl_X12_13_12 (by decide +kernel) (fun v6 ev6 => ?_)
      refine ab_iload_n (pc := 32) (n := 1) (i := 1) (j := 1) (by decide +kernel) rfl rfl ?_
      refine ab_iald (pc := 33) (by decide +kernel) (fun v7 ev7 => ?_)
      refine ab_iast (pc := 34) (by decide +kernel) (fun h8 eh8 => ?_)
      refine ab_iinc (pc := 35) (i := 1) (n := 1) (j := 1) (d := nI 1) (lv' := [(0, .ref x0), (1, .int (x1 + nI 1))]) (by decide +kernel) rfl rfl (Nat.le_of_ble_eq_true rfl) rfl rfl ?_
      refine ab_goto (pc := 38) (off := (-22)) (tgt := 16) (by decide +kernel) (by decide) ?_
      exact ih (x1 + nI 1) h8
    · refine ab_aload_n (pc := 41) (n := 0) (i := 0) (j := 0) (by decide +kernel) rfl rfl ?_
      refine ab_iconst (pc := 42) (n := 0) (v := nI 0) (by decide +kernel) rfl ?_
      refine ab_put (pc := 43) fl_X12_182_12 rfl (fun _ => rfl) (fun _ => rfl) (by decide +kernel) (fun h9 eh9 => ?_)
      refine ab_iconst (pc := 46) (n := 1) (v := nI 1) (by decide +kernel) rfl ?_
      exact ab_zret (pc := 47) (by decide +kernel) rfl ab_bl1.1 rfl (Nat.le_of_ble_eq_true rfl) (Nat.le_of_ble_eq_true rfl)
set_option maxRecDepth 100000 in
set_option maxHeartbeats 4000000 in
theorem wX12_back {l : Launch} (hl : l.stackTraces = false) (F : Nat) (x0 : Nat) (h : ab_H) : ab_S l mX12_back (fun y : (Int32 × ab_H) => ((.inl (some (.int y.1)), y.2) : ab_R × ab_H)) 0 0 (fX12_back F x0 h) 0 [(0, .ref x0)] [] h := by
  unfold fX12_back
  refine ab_aload_n (pc := 0) (n := 0) (i := 0) (j := 0) (by decide +kernel) rfl rfl ?_
  refine ab_iconst (pc := 1) (n := 0) (v := nI 0) (by decide +kernel) rfl ?_
  refine ab_put (pc := 2) fl_X12_50_12 rfl (fun _ => rfl) (fun _ => rfl) (by decide +kernel) (fun h1 eh1 => ?_)
  refine ab_aload_n (pc := 5) (n := 0) (i := 0) (j := 0) (by decide +kernel) rfl rfl ?_
  refine ab_getI (pc := 6) fl_X12_381_12 (by decide +kernel) (fun v2 ev2 => ?_)
  refine ab_if_ne (off := 5) (pc := 9) (tgt := 14) (by decide +kernel) (by decide) (fun g3 => ?_) (fun g3 => ?_)
  · refine ab_iconst (pc := 12) (n := 0) (v := nI 0) (by decide +kernel) rfl ?_
    exact ab_zret (pc := 13) (by decide +kernel) rfl ab_bl0.1 rfl (Nat.le_of_ble_eq_true rfl) (Nat.le_of_ble_eq_true rfl)
  · refine ab_iconst (pc := 14) (n := 0) (v := nI 0) (by decide +kernel) rfl ?_
    refine ab_istore_n (pc := 15) (n := 1) (i := 1) (lv' := [(0, .ref x0), (1, .int (nI 0))]) (by decide +kernel) rfl (Nat.le_of_ble_eq_true rfl) rfl rfl ?_
    refine lX12_back_16 hl x0 F (nI 0) h1
set_option maxRecDepth 100000 in
set_option maxHeartbeats 4000000 in
theorem okX12_back {l : Launch} (hl : l.stackTraces = false) {F : Nat} {x0 : Nat} {h : ab_H} {y : (Int32 × ab_H)} (e : fX12_back F x0 h = some y) : ab_Met l mX12_back [.ref x0] h (.inl (some (.int y.1)), y.2) := ab_ofS (io := (fun y : (Int32 × ab_H) => ((.inl (some (.int y.1)), y.2) : ab_R × ab_H))) (x := y) hl (by decide) rfl (Nat.le_of_ble_eq_true rfl) (wX12_back hl F x0 h) e
def mX12_marksNow : ab_M := (yX12_marksNow, cX12_marksNow, 3, (some .int), { frames := 1, cells := 0, slots := 0, locals := 22 })
theorem iX12_marksNow : ab_MI mX12_marksNow 0 := ⟨kw_5a7c7fc744, kw_30b3f7d7c6, by decide +kernel⟩
def fX12_marksNow_4 (F : Nat) (x0 : Nat) (h : ab_H) : Nat → Int32 → Int32 → Option Int32
  | 0, _, _ => none
  | n + 1, x1, x2 => ab_bd (ab_fr h x0 12 1) fun v1 => ab_bd (ab_ia 0 h v1 (nI 3)) fun v2 => (if x2 < v2 then ab_ck (ab_io h x0 12 = true) (ab_bd (fX12_of x0 x2 (nI 0) h) fun v4 => ab_bd (fX12_bits F v4 h) fun v5 => fX12_marksNow_4 F x0 h n (x1 + v5) (x2 + nI 1)) else some x1)
def fX12_marksNow (F : Nat) (x0 : Nat) (h : ab_H) : Option Int32 := fX12_marksNow_4 F x0 h F (nI 0) (nI 0)
set_option maxRecDepth 100000 in
set_option maxHeartbeats 4000000 in
theorem lX12_marksNow_4 {l : Launch} (hl : l.stackTraces = false) (F : Nat) (x0 : Nat) (h : ab_H) : ∀ (n : Nat) (x1 : Int32) (x2 : Int32), ab_S l mX12_marksNow (fun y : Int32 => ((.inl (some (.int y)), h) : ab_R × ab_H)) 0 0 (fX12_marksNow_4 F x0 h n x1 x2) 4 [(0, .ref x0), (1, .int x1), (2, .int x2)] [] h := by
  intro n
  induction n with
  | zero =>
    intro x1 x2
    exact ab_none
  | succ n ih =>
    intro x1 x2
    rw [fX12_marksNow_4]
    refine ab_iload_n (pc := 4) (n := 2) (i := 2) (j := 2) (by decide +kernel) rfl rfl ?_
    refine ab_aload_n (pc := 5) (n := 0) (i := 0) (j := 0) (by decide +kernel) rfl rfl ?_
    refine ab_getR (pc := 6) fl_X12_7_12 (by decide +kernel) (fun v1 ev1 => ?_)
    refine ab_iconst (pc := 9) (n := 3) (v := nI 3) (by decide +kernel) rfl ?_
    refine ab_iald (pc := 10) (by decide +kernel) (fun v2 ev2 => ?_)
    refine ab_icmp_ge (off := 21) (pc := 11) (tgt := 32) (by decide +kernel) (by decide) (fun g3 => ?_) (fun g3 => ?_)
    · refine ab_iload_n (pc := 14) (n := 1) (i := 1) (j := 1) (by decide +kernel) rfl rfl ?_
      refine ab_aload_n (pc := 15) (n := 0) (i := 0) (j := 0) (by decide +kernel) rfl rfl ?_
      refine ab_iload_n (pc := 16) (n := 2) (i := 2) (j := 2) (by decide +kernel) rfl rfl ?_
      refine ab_iconst (pc := 17) (n := 0) (v := nI 0) (by decide +kernel) rfl ?_
      refine ab_callVi (As := [.int x2, .int (nI 0)]) (st := [.int x1]) (pc := 18) lk_X12_57_12 rfl rfl rfl (by decide) rfl (Nat.le_of_ble_eq_true rfl) (by decide +kernel) (fun y9 e9 => okX12_of hl e9) (fun v4 ev4 => ?_)
      refine ab_callSi (As := [.int v4]) (st := [.int x1]) (pc := 21) lk_X12_242 rfl rfl rfl (by decide) rfl (Nat.le_of_ble_eq_true rfl) (by decide +kernel) (fun y9 e9 => okX12_bits hl (F := F) e9) (fun v5 ev5 => ?_)
      refine ab_iadd (pc := 24) (by decide +kernel) ?_
      refine ab_istore_n (pc := 25) (n := 1) (i := 1) (lv' := [(0, .ref x0), (1, .int (x1 + v5)), (2, .int x2)]) (by decide +kernel) rfl (Nat.le_of_ble_eq_true rfl) rfl rfl ?_
      refine ab_iinc (pc := 26) (i := 2) (n := 1) (j := 2) (d := nI 1) (lv' := [(0, .ref x0), (1, .int (x1 + v5)), (2, .int (x2 + nI 1))]) (by decide +kernel) rfl rfl (Nat.le_of_ble_eq_true rfl) rfl rfl ?_
      refine ab_goto (pc := 29) (off := (-25)) (tgt := 4) (by decide +kernel) (by decide) ?_
      exact ih (x1 + v5) (x2 + nI 1)
    · refine ab_iload_n (pc := 32) (n := 1) (i := 1) (j := 1) (by decide +kernel) rfl rfl ?_
      exact ab_iret (pc := 33) (by decide +kernel) rfl rfl (Nat.le_of_ble_eq_true rfl) (Nat.le_of_ble_eq_true rfl)
set_option maxRecDepth 100000 in
set_option maxHeartbeats 4000000 in
theorem wX12_marksNow {l : Launch} (hl : l.stackTraces = false) (F : Nat) (x0 : Nat) (h : ab_H) : ab_S l mX12_marksNow (fun y : Int32 => ((.inl (some (.int y)), h) : ab_R × ab_H)) 0 0 (fX12_marksNow F x0 h) 0 [(0, .ref x0)] [] h := by
  unfold fX12_marksNow
  refine ab_iconst (pc := 0) (n := 0) (v := nI 0) (by decide +kernel) rfl ?_
  refine ab_istore_n (pc := 1) (n := 1) (i := 1) (lv' := [(0, .ref x0), (1, .int (nI 0))]) (by decide +kernel) rfl (Nat.le_of_ble_eq_true rfl) rfl rfl ?_
  refine ab_iconst (pc := 2) (n := 0) (v := nI 0) (by decide +kernel) rfl ?_
  refine ab_istore_n (pc := 3) (n := 2) (i := 2) (lv' := [(0, .ref x0), (1, .int (nI 0)), (2, .int (nI 0))]) (by decide +kernel) rfl (Nat.le_of_ble_eq_true rfl) rfl rfl ?_
  refine lX12_marksNow_4 hl F x0 h F (nI 0) (nI 0)
set_option maxRecDepth 100000 in
set_option maxHeartbeats 4000000 in
theorem okX12_marksNow {l : Launch} (hl : l.stackTraces = false) {F : Nat} {x0 : Nat} {h : ab_H} {y : Int32} (e : fX12_marksNow F x0 h = some y) : ab_Met l mX12_marksNow [.ref x0] h (.inl (some (.int y)), h) := ab_ofS (io := (fun y : Int32 => ((.inl (some (.int y)), h) : ab_R × ab_H))) (x := y) hl (by decide) rfl (Nat.le_of_ble_eq_true rfl) (wX12_marksNow hl F x0 h) e
def mX12_count : ab_M := (yX12_count, cX12_count, 2, (some .int), { frames := 2, cells := 0, slots := 0, locals := 44 })
theorem iX12_count : ab_MI mX12_count 1 := ⟨kw_8af889ea33, kw_30b3f7d7c6, by decide +kernel⟩
theorem lk_X12_384_12 : ab_LV RX12 384 12 mX12_marksNow 0 := ⟨RX12, rfl, iX12_marksNow, kw_fc6bb041ca, kw_ba08f97812, kw_90f5243a96⟩
def fX12_count (F : Nat) (x0 : Nat) (x1 : Int32) (h : ab_H) : Option (Int32 × ab_H) := ab_bd (ab_fw h x0 12 0 (.int (nI 0))) fun h1 => (if x1 = 0 then ab_bd (ab_fr h1 x0 12 1) fun v3 => ab_bd (ab_ia 0 h1 v3 (nI 3)) fun v4 => some (v4, h1) else (if x1 = (nI 1) then ab_bd (ab_fr h1 x0 12 1) fun v6 => ab_bd (ab_ia 0 h1 v6 (nI 4)) fun v7 => some (v7, h1) else (if x1 = (nI 2) then ab_ck (ab_io h1 x0 12 = true) (ab_bd (fX12_hung F x0 h1) fun v9 => some (v9, h1)) else (if x1 = (nI 3) then ab_bd (ab_fr h1 x0 12 1) fun v11 => ab_bd (ab_ia 0 h1 v11 (nI 0)) fun v12 => some (v12, h1) else (if x1 = (nI 4) then ab_bd (ab_fr h1 x0 12 1) fun v14 => ab_bd (ab_ia 0 h1 v14 (nI 1)) fun v15 => some (v15, h1) else ab_bd (fX12_isIn x1 (nI 5) (nI 7) h1) fun v16 => (if v16 = 0 then (if x1 = (nI 8) then ab_ck (ab_io h1 x0 12 = true) (ab_bd (fX12_holders F x0 h1) fun v19 => some (v19, h1)) else (if x1 = (nI 9) then ab_ck (ab_io h1 x0 12 = true) (ab_bd (fX12_marksNow F x0 h1) fun v21 => some (v21, h1)) else (if x1 = (nI 10) then ab_bd (ab_fr h1 x0 12 1) fun v23 => ab_bd (ab_ia 0 h1 v23 (nI 8)) fun v24 => some (v24, h1) else (if x1 = (nI 11) then ab_bd (ab_fi h1 x0 12 6) fun v26 => some (v26, h1) else some ((-1 : Int32), h1))))) else ab_bd (ab_fr h1 x0 12 1) fun v27 => ab_bd (ab_ia 0 h1 v27 (((nI 5) + x1) - (nI 5))) fun v28 => some (v28, h1)))))))
set_option maxRecDepth 100000 in
set_option maxHeartbeats 4000000 in
theorem wX12_count {l : Launch} (hl : l.stackTraces = false) (F : Nat) (x0 : Nat) (x1 : Int32) (h : ab_H) : ab_S l mX12_count (fun y : (Int32 × ab_H) => ((.inl (some (.int y.1)), y.2) : ab_R × ab_H)) 0 0 (fX12_count F x0 x1 h) 0 [(0, .ref x0), (1, .int x1)] [] h := by
  unfold fX12_count
  refine ab_aload_n (pc := 0) (n := 0) (i := 0) (j := 0) (by decide +kernel) rfl rfl ?_
  refine ab_iconst (pc := 1) (n := 0) (v := nI 0) (by decide +kernel) rfl ?_
  refine ab_put (pc := 2) fl_X12_50_12 rfl (fun _ => rfl) (fun _ => rfl) (by decide +kernel) (fun h1 eh1 => ?_)
  refine ab_iload_n (pc := 5) (n := 1) (i := 1) (j := 1) (by decide +kernel) rfl rfl ?_
  refine ab_if_ne (off := 10) (pc := 6) (tgt := 16) (by decide +kernel) (by decide) (fun g2 => ?_) (fun g2 => ?_)
  · refine ab_aload_n (pc := 9) (n := 0) (i := 0) (j := 0) (by decide +kernel) rfl rfl ?_
    refine ab_getR (pc := 10) fl_X12_7_12 (by decide +kernel) (fun v3 ev3 => ?_)
    refine ab_iconst (pc := 13) (n := 3) (v := nI 3) (by decide +kernel) rfl ?_
    refine ab_iald (pc := 14) (by decide +kernel) (fun v4 ev4 => ?_)
    exact ab_iret (pc := 15) (by decide +kernel) rfl rfl (Nat.le_of_ble_eq_true rfl) (Nat.le_of_ble_eq_true rfl)
  · refine ab_iload_n (pc := 16) (n := 1) (i := 1) (j := 1) (by decide +kernel) rfl rfl ?_
    refine ab_iconst (pc := 17) (n := 1) (v := nI 1) (by decide +kernel) rfl ?_
    refine ab_icmp_ne (off := 10) (pc := 18) (tgt := 28) (by decide +kernel) (by decide) (fun g5 => ?_) (fun g5 => ?_)
    · refine ab_aload_n (pc := 21) (n := 0) (i := 0) (j := 0) (by decide +kernel) rfl rfl ?_
      refine ab_getR (pc := 22) fl_X12_7_12 (by decide +kernel) (fun v6 ev6 => ?_)
      refine ab_iconst (pc := 25) (n := 4) (v := nI 4) (by decide +kernel) rfl ?_
      refine ab_iald (pc := 26) (by decide +kernel) (fun v7 ev7 => ?_)
      exact ab_iret (pc := 27) (by decide +kernel) rfl rfl (Nat.le_of_ble_eq_true rfl) (Nat.le_of_ble_eq_true rfl)
    · refine ab_iload_n (pc := 28) (n := 1) (i := 1) (j := 1) (by decide +kernel) rfl rfl ?_
      refine ab_iconst (pc := 29) (n := 2) (v := nI 2) (by decide +kernel) rfl ?_
      refine ab_icmp_ne (off := 8) (pc := 30) (tgt := 38) (by decide +kernel) (by decide) (fun g8 => ?_) (fun g8 => ?_)
      · refine ab_aload_n (pc := 33) (n := 0) (i := 0) (j := 0) (by decide +kernel) rfl rfl ?_
        refine ab_callVi (As := []) (st := []) (pc := 34) lk_X12_245_12 rfl rfl rfl (by decide) rfl (Nat.le_of_ble_eq_true rfl) (by decide +kernel) (fun y9 e9 => okX12_hung hl (F := F) e9) (fun v9 ev9 => ?_)
        exact ab_iret (pc := 37) (by decide +kernel) rfl rfl (Nat.le_of_ble_eq_true rfl) (Nat.le_of_ble_eq_true rfl)
      · refine ab_iload_n (pc := 38) (n := 1) (i := 1) (j := 1) (by decide +kernel) rfl rfl ?_
        refine ab_iconst (pc := 39) (n := 3) (v := nI 3) (by decide +kernel) rfl ?_
        refine ab_icmp_ne (off := 10) (pc := 40) (tgt := 50) (by decide +kernel) (by decide) (fun g10 => ?_) (fun g10 => ?_)
        · refine ab_aload_n (pc := 43) (n := 0) (i := 0) (j := 0) (by decide +kernel) rfl rfl ?_
          refine ab_getR (pc := 44) fl_X12_7_12 (by decide +kernel) (fun v11 ev11 => ?_)
          refine ab_iconst (pc := 47) (n := 0) (v := nI 0) (by decide +kernel) rfl ?_
          refine ab_iald (pc := 48) (by decide +kernel) (fun v12 ev12 => ?_)
          exact ab_iret (pc := 49) (by decide +kernel) rfl rfl (Nat.le_of_ble_eq_true rfl) (Nat.le_of_ble_eq_true rfl)
        · refine ab_iload_n (pc := 50) (n := 1) (i := 1) (j := 1) (by decide +kernel) rfl rfl ?_
          refine ab_iconst (pc := 51) (n := 4) (v := nI 4) (by decide +kernel) rfl ?_
          refine ab_icmp_ne (off := 10) (pc := 52) (tgt := 62) (by decide +kernel) (by decide) (fun g13 => ?_) (fun g13 => ?_)
          · refine ab_aload_n (pc := 55) (n := 0) (i := 0) (j := 0) (by decide +kernel) rfl rfl ?_
            refine ab_getR (pc := 56) fl_X12_7_12 (by decide +kernel) (fun v14 ev14 => ?_)
            refine ab_iconst (pc := 59) (n := 1) (v := nI 1) (by decide +kernel) rfl ?_
            refine ab_iald (pc := 60) (by decide +kernel) (fun v15 ev15 => ?_)
            exact ab_iret (pc := 61) (by decide +kernel) rfl rfl (Nat.le_of_ble_eq_true rfl) (Nat.le_of_ble_eq_true rfl)
          · refine ab_iload_n (pc := 62) (n := 1) (i := 1) (j := 1) (by decide +kernel) rfl rfl ?_
            refine ab_iconst (pc := 63) (n := 5) (v := nI 5) (by decide +kernel) rfl ?_
            refine ab_bipush (pc := 64) (n := 7) (v := nI 7) (by decide +kernel) (by decide) ?_
            refine ab_callSi (As := [.int x1, .int (nI 5), .int (nI 7)]) (st := []) (pc := 66) lk_X12_53 rfl rfl rfl (by decide) rfl (Nat.le_of_ble_eq_true rfl) (by decide +kernel) (fun y9 e9 => okX12_isIn hl e9) (fun v16 ev16 => ?_)
            refine ab_if_eq (off := 14) (pc := 69) (tgt := 83) (by decide +kernel) (by decide) (fun g17 => ?_) (fun g17 => ?_)
            · refine ab_iload_n (pc := 83) (n := 1) (i := 1) (j := 1) (by decide +kernel) rfl rfl ?_
              refine ab_bipush (pc := 84) (n := 8) (v := nI 8) (by decide +kernel) (by decide) ?_
              refine ab_icmp_ne (off := 8) (pc := 86) (tgt := 94) (by decide +kernel) (by decide) (fun g18 => ?_) (fun g18 => ?_)
              · refine ab_aload_n (pc := 89) (n := 0) (i := 0) (j := 0) (by decide +kernel) rfl rfl ?_
                refine ab_callVi (As := []) (st := []) (pc := 90) lk_X12_303_12 rfl rfl rfl (by decide) rfl (Nat.le_of_ble_eq_true rfl) (by decide +kernel) (fun y9 e9 => okX12_holders hl (F := F) e9) (fun v19 ev19 => ?_)
                exact ab_iret (pc := 93) (by decide +kernel) rfl rfl (Nat.le_of_ble_eq_true rfl) (Nat.le_of_ble_eq_true rfl)
              · refine ab_iload_n (pc := 94) (n := 1) (i := 1) (j := 1) (by decide +kernel) rfl rfl ?_
                refine ab_bipush (pc := 95) (n := 9) (v := nI 9) (by decide +kernel) (by decide) ?_
                refine ab_icmp_ne (off := 8) (pc := 97) (tgt := 105) (by decide +kernel) (by decide) (fun g20 => ?_) (fun g20 => ?_)
                · refine ab_aload_n (pc := 100) (n := 0) (i := 0) (j := 0) (by decide +kernel) rfl rfl ?_
                  refine ab_callVi (As := []) (st := []) (pc := 101) lk_X12_384_12 rfl rfl rfl (by decide) rfl (Nat.le_of_ble_eq_true rfl) (by decide +kernel) (fun y9 e9 => okX12_marksNow hl (F := F) e9) (fun v21 ev21 => ?_)
                  exact ab_iret (pc := 104) (by decide +kernel) rfl rfl (Nat.le_of_ble_eq_true rfl) (Nat.le_of_ble_eq_true rfl)
                · refine ab_iload_n (pc := 105) (n := 1) (i := 1) (j := 1) (by decide +kernel) rfl rfl ?_
                  refine ab_bipush (pc := 106) (n := 10) (v := nI 10) (by decide +kernel) (by decide) ?_
                  refine ab_icmp_ne (off := 11) (pc := 108) (tgt := 119) (by decide +kernel) (by decide) (fun g22 => ?_) (fun g22 => ?_)
                  · refine ab_aload_n (pc := 111) (n := 0) (i := 0) (j := 0) (by decide +kernel) rfl rfl ?_
                    refine ab_getR (pc := 112) fl_X12_7_12 (by decide +kernel) (fun v23 ev23 => ?_)
                    refine ab_bipush (pc := 115) (n := 8) (v := nI 8) (by decide +kernel) (by decide) ?_
                    refine ab_iald (pc := 117) (by decide +kernel) (fun v24 ev24 => ?_)
                    exact ab_iret (pc := 118) (by decide +kernel) rfl rfl (Nat.le_of_ble_eq_true rfl) (Nat.le_of_ble_eq_true rfl)
                  · refine ab_iload_n (pc := 119) (n := 1) (i := 1) (j := 1) (by decide +kernel) rfl rfl ?_
                    refine ab_bipush (pc := 120) (n := 11) (v := nI 11) (by decide +kernel) (by decide) ?_
                    refine ab_icmp_ne (off := 10) (pc := 122) (tgt := 132) (by decide +kernel) (by decide) (fun g25 => ?_) (fun g25 => ?_)
                    · refine ab_aload_n (pc := 125) (n := 0) (i := 0) (j := 0) (by decide +kernel) rfl rfl ?_
                      refine ab_getI (pc := 126) fl_X12_182_12 (by decide +kernel) (fun v26 ev26 => ?_)
                      refine ab_goto (pc := 129) (off := 4) (tgt := 133) (by decide +kernel) (by decide) ?_
                      exact ab_iret (pc := 133) (by decide +kernel) rfl rfl (Nat.le_of_ble_eq_true rfl) (Nat.le_of_ble_eq_true rfl)
                    · refine ab_iconst (pc := 132) (n := -1) (v := (-1 : Int32)) (by decide +kernel) rfl ?_
                      exact ab_iret (pc := 133) (by decide +kernel) rfl rfl (Nat.le_of_ble_eq_true rfl) (Nat.le_of_ble_eq_true rfl)
            · refine ab_aload_n (pc := 72) (n := 0) (i := 0) (j := 0) (by decide +kernel) rfl rfl ?_
              refine ab_getR (pc := 73) fl_X12_7_12 (by decide +kernel) (fun v27 ev27 => ?_)
              refine ab_iconst (pc := 76) (n := 5) (v := nI 5) (by decide +kernel) rfl ?_
              refine ab_iload_n (pc := 77) (n := 1) (i := 1) (j := 1) (by decide +kernel) rfl rfl ?_
              refine ab_iadd (pc := 78) (by decide +kernel) ?_
              refine ab_iconst (pc := 79) (n := 5) (v := nI 5) (by decide +kernel) rfl ?_
              refine ab_isub (pc := 80) (by decide +kernel) ?_
              refine ab_iald (pc := 81) (by decide +kernel) (fun v28 ev28 => ?_)
              exact ab_iret (pc := 82) (by decide +kernel) rfl rfl (Nat.le_of_ble_eq_true rfl) (Nat.le_of_ble_eq_true rfl)
set_option maxRecDepth 100000 in
set_option maxHeartbeats 4000000 in
theorem okX12_count {l : Launch} (hl : l.stackTraces = false) {F : Nat} {x0 : Nat} {x1 : Int32} {h : ab_H} {y : (Int32 × ab_H)} (e : fX12_count F x0 x1 h = some y) : ab_Met l mX12_count [.ref x0, .int x1] h (.inl (some (.int y.1)), y.2) := ab_ofS (io := (fun y : (Int32 × ab_H) => ((.inl (some (.int y.1)), y.2) : ab_R × ab_H))) (x := y) hl (by decide) rfl (Nat.le_of_ble_eq_true rfl) (wX12_count hl F x0 x1 h) e
