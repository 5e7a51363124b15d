/-! ===== reference (by program, decomp.py) ===== -/
def mX12_sum : ab_M := (yX12_sum, cX12_sum, 2, (some .int), { frames := 6, cells := 0, slots := 0, locals := 129 })
theorem iX12_sum : ab_MI mX12_sum 0 := ⟨kw_42d966721b, kw_30b3f7d7c6, by decide +kernel⟩
theorem lk_X12_166_12 : ab_LV RX12 166 12 mX12_isSign 1 := ⟨RX12, rfl, iX12_isSign, kw_43a9ec9924, kw_e136005786, kw_74bab2aaeb⟩
theorem lk_X12_197_12 : ab_LV RX12 197 12 mX12_part 0 := ⟨RX12, rfl, iX12_part, kw_3654749424, kw_1981e51509, kw_4eeef77e90⟩
def fX12_sum_5 (F : Nat) (x0 : Nat) : Nat → Int32 → ab_H → Option (Int32 × ab_H)
  | 0, _, _ => none
  | n + 1, x1, h => ab_bd (ab_fi h x0 12 12) fun v2 => (if v2 = (-1 : Int32) then ab_ck (ab_io h x0 12 = true) (ab_bd (fX12_isSign F x0 (nI 43) h) fun v4 => (if v4.1 = 0 then some (x1, v4.2) else ab_bd (ab_fi v4.2 x0 12 11) fun v6 => ab_bd (ab_fw v4.2 x0 12 11 (.int (v6 + (nI 1)))) fun h7 => ab_ck (ab_io h7 x0 12 = true) (ab_bd (fX12_part F x0 h7) fun v8 => fX12_sum_5 F x0 n (x1 + v8.1) v8.2))) else some (x1, h))
def fX12_sum (F : Nat) (x0 : Nat) (h : ab_H) : Option (Int32 × ab_H) := ab_ck (ab_io h x0 12 = true) (ab_bd (fX12_part F x0 h) fun v1 => fX12_sum_5 F x0 F v1.1 v1.2)
set_option maxRecDepth 100000 in
set_option maxHeartbeats 4000000 in
theorem lX12_sum_5 {l : Launch} (hl : l.stackTraces = false) (F : Nat) (x0 : Nat) : ∀ (n : Nat) (x1 : Int32) (h : ab_H), ab_S l mX12_sum (fun y : (Int32 × ab_H) => ((.inl (some (.int y.1)), y.2) : ab_R × ab_H)) 0 0 (fX12_sum_5 F x0 n x1 h) 5 [(0, .ref x0), (1, .int x1)] [] h := by
  intro n
  induction n with
  | zero =>
    intro x1 h
    exact ab_none
  | succ n ih =>
    intro x1 h
    rw [fX12_sum_5]
    refine ab_aload_n (pc := 5) (n := 0) (i := 0) (j := 0) (by decide +kernel) rfl rfl ?_
    refine ab_getI (pc := 6) fl_X12_25_12 (by decide +kernel) (fun v2 ev2 => ?_)
    refine ab_iconst (pc := 9) (n := -1) (v := (-1 : Int32)) (by decide +kernel) rfl ?_
    refine ab_icmp_ne (off := 32) (pc := 10) (tgt := 42) (by decide +kernel) (by decide) (fun g3 => ?_) (fun g3 => ?_)
    · refine ab_aload_n (pc := 13) (n := 0) (i := 0) (j := 0) (by decide +kernel) rfl rfl ?_
      refine ab_bipush (pc := 14) (n := 43) (v := nI 43) (by decide +kernel) (by decide) ?_
      refine ab_callVj (As := [.int (nI 43)]) (st := []) (pc := 16) lk_X12_166_12 rfl rfl rfl (by decide) rfl (Nat.le_of_ble_eq_true rfl) (by decide +kernel) (fun y9 e9 => okX12_isSign hl (F := F) e9) (fun v4 ev4 => ?_)
      refine ab_if_eq (off := 23) (pc := 19) (tgt := 42) (by decide +kernel) (by decide) (fun g5 => ?_) (fun g5 => ?_)
      · refine ab_iload_n (pc := 42) (n := 1) (i := 1) (j := 1) (by decide +kernel) rfl rfl ?_
        exact ab_iret (pc := 43) (by decide +kernel) rfl rfl (Nat.le_of_ble_eq_true rfl) (Nat.le_of_ble_eq_true rfl)
      · refine ab_aload_n (pc := 22) (n := 0) (i := 0) (j := 0) (by decide +kernel) rfl rfl ?_
        refine ab_dup (pc := 23) (by decide +kernel) rfl ?_
        refine ab_getI (pc := 24) fl_X12_67_12 (by decide +kernel) (fun v6 ev6 => ?_)
        refine ab_iconst (pc := 27) (n := 1) (v := nI 1) (by decide +kernel) rfl ?_
        refine ab_iadd (pc := 28) (by decide +kernel) ?_
        refine ab_put (pc := 29) fl_X12_67_12 rfl (fun _ => rfl) (fun _ => rfl) (by decide +kernel) (fun h7 eh7 => ?_)
        refine ab_iload_n (pc := 32) (n := 1) (i := 1) (j := 1) (by decide +kernel) rfl rfl ?_
        refine ab_aload_n (pc := 33) (n := 0) (i := 0) (j := 0) (by decide +kernel) rfl rfl ?_
        refine ab_callVj (As := []) (st := [.int x1]) (pc := 34) lk_X12_197_12 rfl rfl rfl (by decide) rfl (Nat.le_of_ble_eq_true rfl) (by decide +kernel) (fun y9 e9 => okX12_part hl (F := F) e9) (fun v8 ev8 => ?_)
        refine ab_iadd (pc := 37) (by decide +kernel) ?_
        refine ab_istore_n (pc := 38) (n := 1) (i := 1) (lv' := [(0, .ref x0), (1, .int (x1 + v8.1))]) (by decide +kernel) rfl (Nat.le_of_ble_eq_true rfl) rfl rfl ?_
        refine ab_goto (pc := 39) (off := (-34)) (tgt := 5) (by decide +kernel) (by decide) ?_
        exact ih (x1 + v8.1) v8.2
    · refine ab_iload_n (pc := 42) (n := 1) (i := 1) (j := 1) (by decide +kernel) rfl rfl ?_
      exact ab_iret (pc := 43) (by decide +kernel) rfl rfl (Nat.le_of_ble_eq_true rfl) (Nat.le_of_ble_eq_true rfl)
set_option maxRecDepth 100000 in
set_option maxHeartbeats 4000000 in
theorem wX12_sum {l : Launch} (hl : l.stackTraces = false) (F : Nat) (x0 : Nat) (h : ab_H) : ab_S l mX12_sum (fun y : (Int32 × ab_H) => ((.inl (some (.int y.1)), y.2) : ab_R × ab_H)) 0 0 (fX12_sum F x0 h) 0 [(0, .ref x0)] [] h := by
  unfold fX12_sum
  refine ab_aload_n (pc := 0) (n := 0) (i := 0) (j := 0) (by decide +kernel) rfl rfl ?_
  refine ab_callVj (As := []) (st := []) (pc := 1) lk_X12_197_12 rfl rfl rfl (by decide) rfl (Nat.le_of_ble_eq_true rfl) (by decide +kernel) (fun y9 e9 => okX12_part hl (F := F) e9) (fun v1 ev1 => ?_)
  refine ab_istore_n (pc := 4) (n := 1) (i := 1) (lv' := [(0, .ref x0), (1, .int v1.1)]) (by decide +kernel) rfl (Nat.le_of_ble_eq_true rfl) rfl rfl ?_
  refine lX12_sum_5 hl F x0 F v1.1 v1.2
set_option maxRecDepth 100000 in
set_option maxHeartbeats 4000000 in
theorem okX12_sum {l : Launch} (hl : l.stackTraces = false) {F : Nat} {x0 : Nat} {h : ab_H} {y : (Int32 × ab_H)} (e : fX12_sum F x0 h = some y) : ab_Met l mX12_sum [.ref x0] h (.inl (some (.int y.1)), y.2) := ab_ofS (io := (fun y : (Int32 × ab_H) => ((.inl (some (.int y.1)), y.2) : ab_R × ab_H))) (x := y) hl (by decide) rfl (Nat.le_of_ble_eq_true rfl) (wX12_sum hl F x0 h) e
def mX12_plain : ab_M := (yX12_plain, cX12_plain, 4, (some .boolean), { frames := 7, cells := 0, slots := 0, locals := 150 })
theorem iX12_plain : ab_MI mX12_plain 0 := ⟨kw_a371a0358a, kw_30b3f7d7c6, by decide +kernel⟩
theorem lk_X12_209_12 : ab_LV RX12 209 12 mX12_sum 0 := ⟨RX12, rfl, iX12_sum, kw_9427cdf033, kw_5ca12c8e86, kw_465f8a9778⟩
def fX12_plain (F : Nat) (x0 : Nat) (h : ab_H) : Option (Int32 × ab_H) := ab_ck (ab_io h x0 12 = true) (ab_bd (fX12_has_ F x0 (ab_SB + 25) h) fun v1 => (if v1.1 = 0 then ab_ck (ab_io v1.2 x0 12 = true) (ab_bd (fX12_has_ F x0 (ab_SB + 26) v1.2) fun v3 => (if v3.1 = 0 then ab_ck (ab_io v3.2 x0 12 = true) (ab_bd (fX12_sum F x0 v3.2) fun v5 => ab_bd (ab_fi v5.2 x0 12 12) fun v6 => (if v6 = (-1 : Int32) then ab_ck (ab_io v5.2 x0 12 = true) (ab_bd (fX12_isSign F x0 (nI 60) v5.2) fun v8 => ab_jn (κ := ab_H → Option (Int32 × ab_H)) (fun (h9 : ab_H) => ab_bd (ab_fi h9 x0 12 11) fun v10 => ab_bd (ab_fw h9 x0 12 11 (.int (v10 + (nI 1)))) fun h11 => ab_ck (ab_io h11 x0 12 = true) (ab_bd (fX12_sum F x0 h11) fun v12 => (if v8.1 = 0 then (if v5.1 ≤ v12.1 then some (nI 0, v12.2) else some (nI 1, v12.2)) else (if v5.1 < v12.1 then some (nI 1, v12.2) else some (nI 0, v12.2))))) fun j16 => (if v8.1 = 0 then ab_ck (ab_io v8.2 x0 12 = true) (ab_bd (fX12_isSign F x0 (nI 62) v8.2) fun v18 => (if v18.1 = 0 then ab_bd (ab_fi v18.2 x0 12 11) fun v20 => ab_ck (ab_io v18.2 x0 12 = true) (ab_bd (fX12_wrong x0 v20 v18.2) fun h21 => some (nI 0, h21)) else j16 v18.2)) else j16 v8.2)) else some (nI 0, v5.2))) else ab_bd (ab_fi v3.2 x0 12 16) fun v22 => ab_cb v22 (some (v22, v3.2)))) else ab_bd (ab_fi v1.2 x0 12 15) fun v24 => ab_cb v24 (some (v24, v1.2))))
set_option maxRecDepth 100000 in
set_option maxHeartbeats 4000000 in
theorem wX12_plain {l : Launch} (hl : l.stackTraces = false) (F : Nat) (x0 : Nat) (h : ab_H) : ab_S l mX12_plain (fun y : (Int32 × ab_H) => ((.inl (some (.int y.1)), y.2) : ab_R × ab_H)) 0 0 (fX12_plain F x0 h) 0 [(0, .ref x0)] [] h := by
  unfold fX12_plain
  refine ab_aload_n (pc := 0) (n := 0) (i := 0) (j := 0) (by decide +kernel) rfl rfl ?_
  refine ab_ldcS (pc := 1) (index := 200) (kk := 25) (tx := "own") (by decide +kernel) (by show (RX12, 200, "own", 25) ∈ ab_sr; decide +kernel) ?_
  refine ab_callVj (As := [.ref (ab_SB + 25)]) (st := []) (pc := 3) lk_X12_124_12 rfl rfl rfl (by decide) rfl (Nat.le_of_ble_eq_true rfl) (by decide +kernel) (fun y9 e9 => okX12_has_ hl (F := F) e9) (fun v1 ev1 => ?_)
  refine ab_if_eq (off := 8) (pc := 6) (tgt := 14) (by decide +kernel) (by decide) (fun g2 => ?_) (fun g2 => ?_)
  · refine ab_aload_n (pc := 14) (n := 0) (i := 0) (j := 0) (by decide +kernel) rfl rfl ?_
    refine ab_ldcS (pc := 15) (index := 135) (kk := 26) (tx := "wed") (by decide +kernel) (by show (RX12, 135, "wed", 26) ∈ ab_sr; decide +kernel) ?_
    refine ab_callVj (As := [.ref (ab_SB + 26)]) (st := []) (pc := 17) lk_X12_124_12 rfl rfl rfl (by decide) rfl (Nat.le_of_ble_eq_true rfl) (by decide +kernel) (fun y9 e9 => okX12_has_ hl (F := F) e9) (fun v3 ev3 => ?_)
    refine ab_if_eq (off := 8) (pc := 20) (tgt := 28) (by decide +kernel) (by decide) (fun g4 => ?_) (fun g4 => ?_)
    · refine ab_aload_n (pc := 28) (n := 0) (i := 0) (j := 0) (by decide +kernel) rfl rfl ?_
      refine ab_callVj (As := []) (st := []) (pc := 29) lk_X12_209_12 rfl rfl rfl (by decide) rfl (Nat.le_of_ble_eq_true rfl) (by decide +kernel) (fun y9 e9 => okX12_sum hl (F := F) e9) (fun v5 ev5 => ?_)
      refine ab_istore_n (pc := 32) (n := 1) (i := 1) (lv' := [(0, .ref x0), (1, .int v5.1)]) (by decide +kernel) rfl (Nat.le_of_ble_eq_true rfl) rfl rfl ?_
      refine ab_aload_n (pc := 33) (n := 0) (i := 0) (j := 0) (by decide +kernel) rfl rfl ?_
      refine ab_getI (pc := 34) fl_X12_25_12 (by decide +kernel) (fun v6 ev6 => ?_)
      refine ab_iconst (pc := 37) (n := -1) (v := (-1 : Int32)) (by decide +kernel) rfl ?_
      refine ab_icmp_eq (off := 5) (pc := 38) (tgt := 43) (by decide +kernel) (by decide) (fun g7 => ?_) (fun g7 => ?_)
      · refine ab_aload_n (pc := 43) (n := 0) (i := 0) (j := 0) (by decide +kernel) rfl rfl ?_
        refine ab_bipush (pc := 44) (n := 60) (v := nI 60) (by decide +kernel) (by decide) ?_
        refine ab_callVj (As := [.int (nI 60)]) (st := []) (pc := 46) lk_X12_166_12 rfl rfl rfl (by decide) rfl (Nat.le_of_ble_eq_true rfl) (by decide +kernel) (fun y9 e9 => okX12_isSign hl (F := F) e9) (fun v8 ev8 => ?_)
        refine ab_istore_n (pc := 49) (n := 2) (i := 2) (lv' := [(0, .ref x0), (1, .int v5.1), (2, .int v8.1)]) (by decide +kernel) rfl (Nat.le_of_ble_eq_true rfl) rfl rfl ?_
        refine ab_iload_n (pc := 50) (n := 2) (i := 2) (j := 2) (by decide +kernel) rfl rfl ?_
        refine ab_jr (fun k9 : ab_H → Option (Int32 × ab_H) => ∀ (h9 : ab_H), ab_S l mX12_plain (fun y : (Int32 × ab_H) => ((.inl (some (.int y.1)), y.2) : ab_R × ab_H)) 0 0 (k9 h9) 73 [(0, .ref x0), (1, .int v5.1), (2, .int v8.1)] [] h9) ?_ (fun j16 hj16 => ?_)
        · intro h9
          refine ab_aload_n (pc := 73) (n := 0) (i := 0) (j := 0) (by decide +kernel) rfl rfl ?_
          refine ab_dup (pc := 74) (by decide +kernel) rfl ?_
          refine ab_getI (pc := 75) fl_X12_67_12 (by decide +kernel) (fun v10 ev10 => ?_)
          refine ab_iconst (pc := 78) (n := 1) (v := nI 1) (by decide +kernel) rfl ?_
          refine ab_iadd (pc := 79) (by decide +kernel) ?_
          refine ab_put (pc := 80) fl_X12_67_12 rfl (fun _ => rfl) (fun _ => rfl) (by decide +kernel) (fun h11 eh11 => ?_)
          refine ab_aload_n (pc := 83) (n := 0) (i := 0) (j := 0) (by decide +kernel) rfl rfl ?_
          refine ab_callVj (As := []) (st := []) (pc := 84) lk_X12_209_12 rfl rfl rfl (by decide) rfl (Nat.le_of_ble_eq_true rfl) (by decide +kernel) (fun y9 e9 => okX12_sum hl (F := F) e9) (fun v12 ev12 => ?_)
          refine ab_istore_n (pc := 87) (n := 3) (i := 3) (lv' := [(0, .ref x0), (1, .int v5.1), (2, .int v8.1), (3, .int v12.1)]) (by decide +kernel) rfl (Nat.le_of_ble_eq_true rfl) rfl rfl ?_
          refine ab_iload_n (pc := 88) (n := 2) (i := 2) (j := 2) (by decide +kernel) rfl rfl ?_
          refine ab_if_eq (off := 16) (pc := 89) (tgt := 105) (by decide +kernel) (by decide) (fun g13 => ?_) (fun g13 => ?_)
          · refine ab_iload_n (pc := 105) (n := 1) (i := 1) (j := 1) (by decide +kernel) rfl rfl ?_
            refine ab_iload_n (pc := 106) (n := 3) (i := 3) (j := 3) (by decide +kernel) rfl rfl ?_
            refine ab_icmp_le (off := 7) (pc := 107) (tgt := 114) (by decide +kernel) (by decide) (fun g14 => ?_) (fun g14 => ?_)
            · refine ab_iconst (pc := 114) (n := 0) (v := nI 0) (by decide +kernel) rfl ?_
              exact ab_zret (pc := 115) (by decide +kernel) rfl ab_bl0.1 rfl (Nat.le_of_ble_eq_true rfl) (Nat.le_of_ble_eq_true rfl)
            · refine ab_iconst (pc := 110) (n := 1) (v := nI 1) (by decide +kernel) rfl ?_
              refine ab_goto (pc := 111) (off := 4) (tgt := 115) (by decide +kernel) (by decide) ?_
              exact ab_zret (pc := 115) (by decide +kernel) rfl ab_bl1.1 rfl (Nat.le_of_ble_eq_true rfl) (Nat.le_of_ble_eq_true rfl)
          · refine ab_iload_n (pc := 92) (n := 1) (i := 1) (j := 1) (by decide +kernel) rfl rfl ?_
            refine ab_iload_n (pc := 93) (n := 3) (i := 3) (j := 3) (by decide +kernel) rfl rfl ?_
            refine ab_icmp_ge (off := 7) (pc := 94) (tgt := 101) (by decide +kernel) (by decide) (fun g15 => ?_) (fun g15 => ?_)
            · refine ab_iconst (pc := 97) (n := 1) (v := nI 1) (by decide +kernel) rfl ?_
              refine ab_goto (pc := 98) (off := 17) (tgt := 115) (by decide +kernel) (by decide) ?_
              exact ab_zret (pc := 115) (by decide +kernel) rfl ab_bl1.1 rfl (Nat.le_of_ble_eq_true rfl) (Nat.le_of_ble_eq_true rfl)
            · refine ab_iconst (pc := 101) (n := 0) (v := nI 0) (by decide +kernel) rfl ?_
              refine ab_goto (pc := 102) (off := 13) (tgt := 115) (by decide +kernel) (by decide) ?_
              exact ab_zret (pc := 115) (by decide +kernel) rfl ab_bl0.1 rfl (Nat.le_of_ble_eq_true rfl) (Nat.le_of_ble_eq_true rfl)
        · refine ab_if_ne (off := 22) (pc := 51) (tgt := 73) (by decide +kernel) (by decide) (fun g17 => ?_) (fun g17 => ?_)
          · refine ab_aload_n (pc := 54) (n := 0) (i := 0) (j := 0) (by decide +kernel) rfl rfl ?_
            refine ab_bipush (pc := 55) (n := 62) (v := nI 62) (by decide +kernel) (by decide) ?_
            refine ab_callVj (As := [.int (nI 62)]) (st := []) (pc := 57) lk_X12_166_12 rfl rfl rfl (by decide) rfl (Nat.le_of_ble_eq_true rfl) (by decide +kernel) (fun y9 e9 => okX12_isSign hl (F := F) e9) (fun v18 ev18 => ?_)
            refine ab_if_ne (off := 13) (pc := 60) (tgt := 73) (by decide +kernel) (by decide) (fun g19 => ?_) (fun g19 => ?_)
            · refine ab_aload_n (pc := 63) (n := 0) (i := 0) (j := 0) (by decide +kernel) rfl rfl ?_
              refine ab_aload_n (pc := 64) (n := 0) (i := 0) (j := 0) (by decide +kernel) rfl rfl ?_
              refine ab_getI (pc := 65) fl_X12_67_12 (by decide +kernel) (fun v20 ev20 => ?_)
              refine ab_callVw (As := [.int v20]) (st := []) (pc := 68) lk_X12_93_12 rfl rfl rfl (by decide) rfl (Nat.le_of_ble_eq_true rfl) (by decide +kernel) (fun y9 e9 => okX12_wrong hl e9) (fun h21 eh21 => ?_)
              refine ab_iconst (pc := 71) (n := 0) (v := nI 0) (by decide +kernel) rfl ?_
              exact ab_zret (pc := 72) (by decide +kernel) rfl ab_bl0.1 rfl (Nat.le_of_ble_eq_true rfl) (Nat.le_of_ble_eq_true rfl)
            · exact hj16 v18.2
          · exact hj16 v8.2
      · refine ab_iconst (pc := 41) (n := 0) (v := nI 0) (by decide +kernel) rfl ?_
        exact ab_zret (pc := 42) (by decide +kernel) rfl ab_bl0.1 rfl (Nat.le_of_ble_eq_true rfl) (Nat.le_of_ble_eq_true rfl)
    · refine ab_aload_n (pc := 23) (n := 0) (i := 0) (j := 0) (by decide +kernel) rfl rfl ?_
      refine ab_getI (pc := 24) fl_X12_206_12 (by decide +kernel) (fun v22 ev22 => ?_)
      refine ab_cbr (fun b23 => ?_)
      exact ab_zret (pc := 27) (by decide +kernel) rfl b23.1 rfl (Nat.le_of_ble_eq_true rfl) (Nat.le_of_ble_eq_true rfl)
  · refine ab_aload_n (pc := 9) (n := 0) (i := 0) (j := 0) (by decide +kernel) rfl rfl ?_
    refine ab_getI (pc := 10) fl_X12_202_12 (by decide +kernel) (fun v24 ev24 => ?_)
    refine ab_cbr (fun b25 => ?_)
    exact ab_zret (pc := 13) (by decide +kernel) rfl b25.1 rfl (Nat.le_of_ble_eq_true rfl) (Nat.le_of_ble_eq_true rfl)
set_option maxRecDepth 100000 in
set_option maxHeartbeats 4000000 in
theorem okX12_plain {l : Launch} (hl : l.stackTraces = false) {F : Nat} {x0 : Nat} {h : ab_H} {y : (Int32 × ab_H)} (e : fX12_plain F x0 h = some y) : ab_Met l mX12_plain [.ref x0] h (.inl (some (.int y.1)), y.2) := ab_ofS (io := (fun y : (Int32 × ab_H) => ((.inl (some (.int y.1)), y.2) : ab_R × ab_H))) (x := y) hl (by decide) rfl (Nat.le_of_ble_eq_true rfl) (wX12_plain hl F x0 h) e
def mX12_fault : ab_M := (yX12_fault, cX12_fault, 1, (some .int), { frames := 0, cells := 0, slots := 0, locals := 0 })
theorem iX12_fault : ab_MI mX12_fault 0 := ⟨kw_4c0fe8cfb4, kw_30b3f7d7c6, by decide +kernel⟩
def fX12_fault (x0 : Nat) (h : ab_H) : Option (Int32 × ab_H) := ab_bd (ab_fw h x0 12 0 (.int (nI 0))) fun h1 => ab_bd (ab_fi h1 x0 12 12) fun v2 => some (v2, h1)
set_option maxRecDepth 100000 in
set_option maxHeartbeats 4000000 in
theorem wX12_fault {l : Launch} (hl : l.stackTraces = false) (x0 : Nat) (h : ab_H) : ab_S l mX12_fault (fun y : (Int32 × ab_H) => ((.inl (some (.int y.1)), y.2) : ab_R × ab_H)) 0 0 (fX12_fault x0 h) 0 [(0, .ref x0)] [] h := by
  unfold fX12_fault
  refine ab_aload_n (pc := 0) (n := 0) (i := 0) (j := 0) (by decide +kernel) rfl rfl ?_
  refine ab_iconst (pc := 1) (n := 0) (v := nI 0) (by decide +kernel) rfl ?_
  refine ab_put (pc := 2) fl_X12_50_12 rfl (fun _ => rfl) (fun _ => rfl) (by decide +kernel) (fun h1 eh1 => ?_)
  refine ab_aload_n (pc := 5) (n := 0) (i := 0) (j := 0) (by decide +kernel) rfl rfl ?_
  refine ab_getI (pc := 6) fl_X12_25_12 (by decide +kernel) (fun v2 ev2 => ?_)
  exact ab_iret (pc := 9) (by decide +kernel) rfl rfl (Nat.le_of_ble_eq_true rfl) (Nat.le_of_ble_eq_true rfl)
set_option maxRecDepth 100000 in
set_option maxHeartbeats 4000000 in
theorem okX12_fault {l : Launch} (hl : l.stackTraces = false) {x0 : Nat} {h : ab_H} {y : (Int32 × ab_H)} (e : fX12_fault x0 h = some y) : ab_Met l mX12_fault [.ref x0] h (.inl (some (.int y.1)), y.2) := ab_ofS (io := (fun y : (Int32 × ab_H) => ((.inl (some (.int y.1)), y.2) : ab_R × ab_H))) (x := y) hl (by decide) rfl (Nat.le_of_ble_eq_true rfl) (wX12_fault hl x0 h) e
def mX12_ring : ab_M := (yX12_ring, cX12_ring, 4, (some .int), { frames := 2, cells := 0, slots := 0, locals := 44 })
theorem iX12_ring : ab_MI mX12_ring 1 := ⟨kw_1fd16a4c50, kw_30b3f7d7c6, by decide +kernel⟩
theorem lk_X12_247_12 : ab_LV RX12 247 12 mX12_wearer 1 := ⟨RX12, rfl, iX12_wearer, kw_344f3453c8, kw_ec700c763b, kw_abaa3c82b5⟩
def fX12_ring_4 (F : Nat) (x0 : Nat) (h : ab_H) : Nat → Int32 → Int32 → Option Int32
  | 0, _, _ => none
  | n + 1, x2, x3 => (if x3 = (-1 : Int32) then some x2 else ab_bd (fX12_isOf x2 x3 h) fun v2 => (if v2 = 0 then ab_ck (ab_io h x0 12 = true) (ab_bd (fX12_wearer F x0 x3 h) fun v4 => fX12_ring_4 F x0 h n (x2 ||| ((nI 1) <<< (x3 &&& 31))) v4) else some x2))
def fX12_ring (F : Nat) (x0 : Nat) (x1 : Int32) (h : ab_H) : Option Int32 := fX12_ring_4 F x0 h F (nI 0) x1
set_option maxRecDepth 100000 in
set_option maxHeartbeats 4000000 in
theorem lX12_ring_4 {l : Launch} (hl : l.stackTraces = false) (F : Nat) (x0 : Nat) (h : ab_H) : ∀ (n : Nat) (x2 : Int32) (x3 : Int32), ab_S l mX12_ring (fun y : Int32 => ((.inl (some (.int y)), h) : ab_R × ab_H)) 0 0 (fX12_ring_4 F x0 h n x2 x3) 4 [(0, .ref x0), (2, .int x2), (3, .int x3)] [] h := by
  intro n
  induction n with
  | zero =>
    intro x2 x3
    exact ab_none
  | succ n ih =>
    intro x2 x3
    rw [fX12_ring_4]
    refine ab_iload_n (pc := 4) (n := 3) (i := 3) (j := 2) (by decide +kernel) rfl rfl ?_
    refine ab_iconst (pc := 5) (n := -1) (v := (-1 : Int32)) (by decide +kernel) rfl ?_
    refine ab_icmp_eq (off := 26) (pc := 6) (tgt := 32) (by decide +kernel) (by decide) (fun g1 => ?_) (fun g1 => ?_)
    · refine ab_iload_n (pc := 32) (n := 2) (i := 2) (j := 1) (by decide +kernel) rfl rfl ?_
      exact ab_iret (pc := 33) (by decide +kernel) rfl rfl (Nat.le_of_ble_eq_true rfl) (Nat.le_of_ble_eq_true rfl)
    · refine ab_iload_n (pc := 9) (n := 2) (i := 2) (j := 1) (by decide +kernel) rfl rfl ?_
      refine ab_iload_n (pc := 10) (n := 3) (i := 3) (j := 2) (by decide +kernel) rfl rfl ?_
      refine ab_callSi (As := [.int x2, .int x3]) (st := []) (pc := 11) lk_X12_107 rfl rfl rfl (by decide) rfl (Nat.le_of_ble_eq_true rfl) (by decide +kernel) (fun y9 e9 => okX12_isOf hl e9) (fun v2 ev2 => ?_)
      refine ab_if_ne (off := 18) (pc := 14) (tgt := 32) (by decide +kernel) (by decide) (fun g3 => ?_) (fun g3 => ?_)
      · refine ab_iload_n (pc := 17) (n := 2) (i := 2) (j := 1) (by decide +kernel) rfl rfl ?_
        refine ab_iconst (pc := 18) (n := 1) (v := nI 1) (by decide +kernel) rfl ?_
        refine ab_iload_n (pc := 19) (n := 3) (i := 3) (j := 2) (by decide +kernel) rfl rfl ?_
        refine ab_ishl (pc := 20) (by decide +kernel) ?_
        refine ab_ior (pc := 21) (by decide +kernel) ?_
        refine ab_istore_n (pc := 22) (n := 2) (i := 2) (lv' := [(0, .ref x0), (2, .int (x2 ||| ((nI 1) <<< (x3 &&& 31)))), (3, .int x3)]) (by decide +kernel) rfl (Nat.le_of_ble_eq_true rfl) rfl rfl ?_
        refine ab_aload_n (pc := 23) (n := 0) (i := 0) (j := 0) (by decide +kernel) rfl rfl ?_
        refine ab_iload_n (pc := 24) (n := 3) (i := 3) (j := 2) (by decide +kernel) rfl rfl ?_
        refine ab_callVi (As := [.int x3]) (st := []) (pc := 25) lk_X12_247_12 rfl rfl rfl (by decide) rfl (Nat.le_of_ble_eq_true rfl) (by decide +kernel) (fun y9 e9 => okX12_wearer hl (F := F) e9) (fun v4 ev4 => ?_)
        refine ab_istore_n (pc := 28) (n := 3) (i := 3) (lv' := [(0, .ref x0), (2, .int (x2 ||| ((nI 1) <<< (x3 &&& 31)))), (3, .int v4)]) (by decide +kernel) rfl (Nat.le_of_ble_eq_true rfl) rfl rfl ?_
        refine ab_goto (pc := 29) (off := (-25)) (tgt := 4) (by decide +kernel) (by decide) ?_
        exact ih (x2 ||| ((nI 1) <<< (x3 &&& 31))) v4
      · refine ab_iload_n (pc := 32) (n := 2) (i := 2) (j := 1) (by decide +kernel) rfl rfl ?_
        exact ab_iret (pc := 33) (by decide +kernel) rfl rfl (Nat.le_of_ble_eq_true rfl) (Nat.le_of_ble_eq_true rfl)
set_option maxRecDepth 100000 in
set_option maxHeartbeats 4000000 in
theorem wX12_ring {l : Launch} (hl : l.stackTraces = false) (F : Nat) (x0 : Nat) (x1 : Int32) (h : ab_H) : ab_S l mX12_ring (fun y : Int32 => ((.inl (some (.int y)), h) : ab_R × ab_H)) 0 0 (fX12_ring F x0 x1 h) 0 [(0, .ref x0), (1, .int x1)] [] h := by
  unfold fX12_ring
  refine ab_iconst (pc := 0) (n := 0) (v := nI 0) (by decide +kernel) rfl ?_
  refine ab_istore_n (pc := 1) (n := 2) (i := 2) (lv' := [(0, .ref x0), (1, .int x1), (2, .int (nI 0))]) (by decide +kernel) rfl (Nat.le_of_ble_eq_true rfl) rfl rfl ?_
  refine ab_iload_n (pc := 2) (n := 1) (i := 1) (j := 1) (by decide +kernel) rfl rfl ?_
  refine ab_istore_n (pc := 3) (n := 3) (i := 3) (lv' := [(0, .ref x0), (1, .int x1), (2, .int (nI 0)), (3, .int x1)]) (by decide +kernel) rfl (Nat.le_of_ble_eq_true rfl) rfl rfl ?_
  refine ab_few [0, 2, 3] (lv' := [(0, .ref x0), (2, .int (nI 0)), (3, .int x1)]) rfl ?_
  refine lX12_ring_4 hl F x0 h F (nI 0) x1
set_option maxRecDepth 100000 in
set_option maxHeartbeats 4000000 in
theorem okX12_ring {l : Launch} (hl : l.stackTraces = false) {F : Nat} {x0 : Nat} {x1 : Int32} {h : ab_H} {y : Int32} (e : fX12_ring F x0 x1 h = some y) : ab_Met l mX12_ring [.ref x0, .int x1] h (.inl (some (.int y)), h) := ab_ofS (io := (fun y : Int32 => ((.inl (some (.int y)), h) : ab_R × ab_H))) (x := y) hl (by decide) rfl (Nat.le_of_ble_eq_true rfl) (wX12_ring hl F x0 x1 h) e
def mX12_person : ab_M := (yX12_person, cX12_person, 3, (some .int), { frames := 3, cells := 0, slots := 0, locals := 67 })
theorem iX12_person : ab_MI mX12_person 2 := ⟨kw_3a3cad029a, kw_30b3f7d7c6, by decide +kernel⟩
theorem lk_X12_250_12 : ab_LV RX12 250 12 mX12_isPerson 1 := ⟨RX12, rfl, iX12_isPerson, kw_62391ec76f, kw_ee4a17dd17, kw_52d462f113⟩
theorem lk_X12_253_12 : ab_LV RX12 253 12 mX12_ring 1 := ⟨RX12, rfl, iX12_ring, kw_a80f2da9c6, kw_b985f2f9d2, kw_0d52396c27⟩
def fX12_person (F : Nat) (x0 : Nat) (x1 : Int32) (x2 : Int32) (h : ab_H) : Option (Int32 × ab_H) := ab_ck (ab_io h x0 12 = true) (ab_bd (fX12_isPerson x0 x1 h) fun v1 => ab_jn (κ := Int32 → Option (Int32 × ab_H)) (fun (z2 : Int32) => ab_bd (ab_fw h x0 12 0 (.int z2)) fun h3 => ab_bd (ab_fi h3 x0 12 0) fun v4 => (if v4 ≤ 0 then (if x2 < (nI 5) then ab_ck (ab_io h3 x0 12 = true) (ab_bd (fX12_of x0 x1 (x2 + (nI 1)) h3) fun v7 => some (v7, h3)) else ab_ck (ab_io h3 x0 12 = true) (ab_bd (fX12_ring F x0 x1 h3) fun v8 => some (v8, h3))) else some (nI 0, h3))) fun j9 => (if v1 = 0 then j9 (nI 1) else ab_bd (fX12_isIn x2 (nI 0) (nI 5) h) fun v11 => (if v11 = 0 then j9 (nI 2) else j9 (nI 0))))
set_option maxRecDepth 100000 in
set_option maxHeartbeats 4000000 in
theorem wX12_person {l : Launch} (hl : l.stackTraces = false) (F : Nat) (x0 : Nat) (x1 : Int32) (x2 : Int32) (h : ab_H) : ab_S l mX12_person (fun y : (Int32 × ab_H) => ((.inl (some (.int y.1)), y.2) : ab_R × ab_H)) 0 0 (fX12_person F x0 x1 x2 h) 0 [(0, .ref x0), (1, .int x1), (2, .int x2)] [] h := by
  unfold fX12_person
  refine ab_aload_n (pc := 0) (n := 0) (i := 0) (j := 0) (by decide +kernel) rfl rfl ?_
  refine ab_aload_n (pc := 1) (n := 0) (i := 0) (j := 0) (by decide +kernel) rfl rfl ?_
  refine ab_iload_n (pc := 2) (n := 1) (i := 1) (j := 1) (by decide +kernel) rfl rfl ?_
  refine ab_callVi (As := [.int x1]) (st := [.ref x0]) (pc := 3) lk_X12_250_12 rfl rfl rfl (by decide) rfl (Nat.le_of_ble_eq_true rfl) (by decide +kernel) (fun y9 e9 => okX12_isPerson hl e9) (fun v1 ev1 => ?_)
  refine ab_jr (fun k9 : Int32 → Option (Int32 × ab_H) => ∀ (z2 : Int32), ab_S l mX12_person (fun y : (Int32 × ab_H) => ((.inl (some (.int y.1)), y.2) : ab_R × ab_H)) 0 0 (k9 z2) 27 [(0, .ref x0), (1, .int x1), (2, .int x2)] [.int z2, .ref x0] h) ?_ (fun j9 hj9 => ?_)
  · intro z2
    refine ab_put (pc := 27) fl_X12_50_12 rfl (fun _ => rfl) (fun _ => rfl) (by decide +kernel) (fun h3 eh3 => ?_)
    refine ab_aload_n (pc := 30) (n := 0) (i := 0) (j := 0) (by decide +kernel) rfl rfl ?_
    refine ab_getI (pc := 31) fl_X12_50_12 (by decide +kernel) (fun v4 ev4 => ?_)
    refine ab_if_le (off := 5) (pc := 34) (tgt := 39) (by decide +kernel) (by decide) (fun g5 => ?_) (fun g5 => ?_)
    · refine ab_iload_n (pc := 39) (n := 2) (i := 2) (j := 2) (by decide +kernel) rfl rfl ?_
      refine ab_iconst (pc := 40) (n := 5) (v := nI 5) (by decide +kernel) rfl ?_
      refine ab_icmp_ge (off := 14) (pc := 41) (tgt := 55) (by decide +kernel) (by decide) (fun g6 => ?_) (fun g6 => ?_)
      · refine ab_aload_n (pc := 44) (n := 0) (i := 0) (j := 0) (by decide +kernel) rfl rfl ?_
        refine ab_iload_n (pc := 45) (n := 1) (i := 1) (j := 1) (by decide +kernel) rfl rfl ?_
        refine ab_iload_n (pc := 46) (n := 2) (i := 2) (j := 2) (by decide +kernel) rfl rfl ?_
        refine ab_iconst (pc := 47) (n := 1) (v := nI 1) (by decide +kernel) rfl ?_
        refine ab_iadd (pc := 48) (by decide +kernel) ?_
        refine ab_callVi (As := [.int x1, .int (x2 + (nI 1))]) (st := []) (pc := 49) lk_X12_57_12 rfl rfl rfl (by decide) rfl (Nat.le_of_ble_eq_true rfl) (by decide +kernel) (fun y9 e9 => okX12_of hl e9) (fun v7 ev7 => ?_)
        refine ab_goto (pc := 52) (off := 8) (tgt := 60) (by decide +kernel) (by decide) ?_
        exact ab_iret (pc := 60) (by decide +kernel) rfl rfl (Nat.le_of_ble_eq_true rfl) (Nat.le_of_ble_eq_true rfl)
      · refine ab_aload_n (pc := 55) (n := 0) (i := 0) (j := 0) (by decide +kernel) rfl rfl ?_
        refine ab_iload_n (pc := 56) (n := 1) (i := 1) (j := 1) (by decide +kernel) rfl rfl ?_
        refine ab_callVi (As := [.int x1]) (st := []) (pc := 57) lk_X12_253_12 rfl rfl rfl (by decide) rfl (Nat.le_of_ble_eq_true rfl) (by decide +kernel) (fun y9 e9 => okX12_ring hl (F := F) e9) (fun v8 ev8 => ?_)
        exact ab_iret (pc := 60) (by decide +kernel) rfl rfl (Nat.le_of_ble_eq_true rfl) (Nat.le_of_ble_eq_true rfl)
    · refine ab_iconst (pc := 37) (n := 0) (v := nI 0) (by decide +kernel) rfl ?_
      exact ab_iret (pc := 38) (by decide +kernel) rfl rfl (Nat.le_of_ble_eq_true rfl) (Nat.le_of_ble_eq_true rfl)
  · refine ab_if_ne (off := 7) (pc := 6) (tgt := 13) (by decide +kernel) (by decide) (fun g10 => ?_) (fun g10 => ?_)
    · refine ab_iconst (pc := 9) (n := 1) (v := nI 1) (by decide +kernel) rfl ?_
      refine ab_goto (pc := 10) (off := 17) (tgt := 27) (by decide +kernel) (by decide) ?_
      exact hj9 (nI 1)
    · refine ab_iload_n (pc := 13) (n := 2) (i := 2) (j := 2) (by decide +kernel) rfl rfl ?_
      refine ab_iconst (pc := 14) (n := 0) (v := nI 0) (by decide +kernel) rfl ?_
      refine ab_iconst (pc := 15) (n := 5) (v := nI 5) (by decide +kernel) rfl ?_
      refine ab_callSi (As := [.int x2, .int (nI 0), .int (nI 5)]) (st := [.ref x0]) (pc := 16) lk_X12_53 rfl rfl rfl (by decide) rfl (Nat.le_of_ble_eq_true rfl) (by decide +kernel) (fun y9 e9 => okX12_isIn hl e9) (fun v11 ev11 => ?_)
      refine ab_if_ne (off := 7) (pc := 19) (tgt := 26) (by decide +kernel) (by decide) (fun g12 => ?_) (fun g12 => ?_)
      · refine ab_iconst (pc := 22) (n := 2) (v := nI 2) (by decide +kernel) rfl ?_
        refine ab_goto (pc := 23) (off := 4) (tgt := 27) (by decide +kernel) (by decide) ?_
        exact hj9 (nI 2)
      · refine ab_iconst (pc := 26) (n := 0) (v := nI 0) (by decide +kernel) rfl ?_
        exact hj9 (nI 0)
set_option maxRecDepth 100000 in
set_option maxHeartbeats 4000000 in
theorem okX12_person {l : Launch} (hl : l.stackTraces = false) {F : Nat} {x0 : Nat} {x1 : Int32} {x2 : Int32} {h : ab_H} {y : (Int32 × ab_H)} (e : fX12_person F x0 x1 x2 h = some y) : ab_Met l mX12_person [.ref x0, .int x1, .int x2] h (.inl (some (.int y.1)), y.2) := ab_ofS (io := (fun y : (Int32 × ab_H) => ((.inl (some (.int y.1)), y.2) : ab_R × ab_H))) (x := y) hl (by decide) rfl (Nat.le_of_ble_eq_true rfl) (wX12_person hl F x0 x1 x2 h) e
def mX12_alike : ab_M := (yX12_alike, cX12_alike, 4, (some .int), { frames := 1, cells := 0, slots := 0, locals := 22 })
theorem iX12_alike : ab_MI mX12_alike 1 := ⟨kw_cd4da646a8, kw_30b3f7d7c6, by decide +kernel⟩
def fX12_alike_4 (x0 : Nat) (x1 : Int32) (h : ab_H) : Nat → Int32 → Int32 → Option Int32
  | 0, _, _ => none
  | n + 1, x2, x3 => ab_bd (ab_fr h x0 12 1) fun v1 => ab_bd (ab_ia 0 h v1 (nI 3)) fun v2 => (if x3 < v2 then (if x3 = x1 then fX12_alike_4 x0 x1 h n (x2 ||| (nI 0)) (x3 + nI 1) else ab_ck (ab_io h x0 12 = true) (ab_bd (fX12_of x0 x3 (nI 0) h) fun v5 => ab_ck (ab_io h x0 12 = true) (ab_bd (fX12_of x0 x1 (nI 0) h) fun v6 => (if v5 = v6 then fX12_alike_4 x0 x1 h n (x2 ||| ((nI 1) <<< (x3 &&& 31))) (x3 + nI 1) else fX12_alike_4 x0 x1 h n (x2 ||| (nI 0)) (x3 + nI 1))))) else some x2)
def fX12_alike (F : Nat) (x0 : Nat) (x1 : Int32) (h : ab_H) : Option Int32 := fX12_alike_4 x0 x1 h F (nI 0) (nI 0)
set_option maxRecDepth 100000 in
set_option maxHeartbeats 4000000 in
theorem lX12_alike_4 {l : Launch} (hl : l.stackTraces = false) (x0 : Nat) (x1 : Int32) (h : ab_H) : ∀ (n : Nat) (x2 : Int32) (x3 : Int32), ab_S l mX12_alike (fun y : Int32 => ((.inl (some (.int y)), h) : ab_R × ab_H)) 0 0 (fX12_alike_4 x0 x1 h n x2 x3) 4 [(0, .ref x0), (1, .int x1), (2, .int x2), (3, .int x3)] [] h := by
  intro n
  induction n with
  | zero =>
    intro x2 x3
    exact ab_none
  | succ n ih =>
    intro x2 x3
    rw [fX12_alike_4]
    refine ab_iload_n (pc := 4) (n := 3) (i := 3) (j := 3) (by decide +kernel) rfl rfl ?_
    refine ab_aload_n (pc := 5) (n := 0) (i := 0) (j := 0) (by decide +kernel) rfl rfl ?_
    refine ab_getR (pc := 6) fl_X12_7_12 (by decide +kernel) (fun v1 ev1 => ?_)
    refine ab_iconst (pc := 9) (n := 3) (v := nI 3) (by decide +kernel) rfl ?_
    refine ab_iald (pc := 10) (by decide +kernel) (fun v2 ev2 => ?_)
    refine ab_icmp_ge (off := 39) (pc := 11) (tgt := 50) (by decide +kernel) (by decide) (fun g3 => ?_) (fun g3 => ?_)
    · refine ab_iload_n (pc := 14) (n := 2) (i := 2) (j := 2) (by decide +kernel) rfl rfl ?_
      refine ab_iload_n (pc := 15) (n := 3) (i := 3) (j := 3) (by decide +kernel) rfl rfl ?_
      refine ab_iload_n (pc := 16) (n := 1) (i := 1) (j := 1) (by decide +kernel) rfl rfl ?_
      refine ab_icmp_eq (off := 24) (pc := 17) (tgt := 41) (by decide +kernel) (by decide) (fun g4 => ?_) (fun g4 => ?_)
      · refine ab_iconst (pc := 41) (n := 0) (v := nI 0) (by decide +kernel) rfl ?_
        refine ab_ior (pc := 42) (by decide +kernel) ?_
        refine ab_istore_n (pc := 43) (n := 2) (i := 2) (lv' := [(0, .ref x0), (1, .int x1), (2, .int (x2 ||| (nI 0))), (3, .int x3)]) (by decide +kernel) rfl (Nat.le_of_ble_eq_true rfl) rfl rfl ?_
        refine ab_iinc (pc := 44) (i := 3) (n := 1) (j := 3) (d := nI 1) (lv' := [(0, .ref x0), (1, .int x1), (2, .int (x2 ||| (nI 0))), (3, .int (x3 + nI 1))]) (by decide +kernel) rfl rfl (Nat.le_of_ble_eq_true rfl) rfl rfl ?_
        refine ab_goto (pc := 47) (off := (-43)) (tgt := 4) (by decide +kernel) (by decide) ?_
        exact ih (x2 ||| (nI 0)) (x3 + nI 1)
      · refine ab_aload_n (pc := 20) (n := 0) (i := 0) (j := 0) (by decide +kernel) rfl rfl ?_
        refine ab_iload_n (pc := 21) (n := 3) (i := 3) (j := 3) (by decide +kernel) rfl rfl ?_
        refine ab_iconst (pc := 22) (n := 0) (v := nI 0) (by decide +kernel) rfl ?_
        refine ab_callVi (As := [.int x3, .int (nI 0)]) (st := [.int x2]) (pc := 23) lk_X12_57_12 rfl rfl rfl (by decide) rfl (Nat.le_of_ble_eq_true rfl) (by decide +kernel) (fun y9 e9 => okX12_of hl e9) (fun v5 ev5 => ?_)
        refine ab_aload_n (pc := 26) (n := 0) (i := 0) (j := 0) (by decide +kernel) rfl rfl ?_
        refine ab_iload_n (pc := 27) (n := 1) (i := 1) (j := 1) (by decide +kernel) rfl rfl ?_
        refine ab_iconst (pc := 28) (n := 0) (v := nI 0) (by decide +kernel) rfl ?_
        refine ab_callVi (As := [.int x1, .int (nI 0)]) (st := [.int v5, .int x2]) (pc := 29) lk_X12_57_12 rfl rfl rfl (by decide) rfl (Nat.le_of_ble_eq_true rfl) (by decide +kernel) (fun y9 e9 => okX12_of hl e9) (fun v6 ev6 => ?_)
        refine ab_icmp_ne (off := 9) (pc := 32) (tgt := 41) (by decide +kernel) (by decide) (fun g7 => ?_) (fun g7 => ?_)
        · refine ab_iconst (pc := 35) (n := 1) (v := nI 1) (by decide +kernel) rfl ?_
          refine ab_iload_n (pc := 36) (n := 3) (i := 3) (j := 3) (by decide +kernel) rfl rfl ?_
          refine ab_ishl (pc := 37) (by decide +kernel) ?_
          refine ab_goto (pc := 38) (off := 4) (tgt := 42) (by decide +kernel) (by decide) ?_
          refine ab_ior (pc := 42) (by decide +kernel) ?_
          refine ab_istore_n (pc := 43) (n := 2) (i := 2) (lv' := [(0, .ref x0), (1, .int x1), (2, .int (x2 ||| ((nI 1) <<< (x3 &&& 31)))), (3, .int x3)]) (by decide +kernel) rfl (Nat.le_of_ble_eq_true rfl) rfl rfl ?_
          refine ab_iinc (pc := 44) (i := 3) (n := 1) (j := 3) (d := nI 1) (lv' := [(0, .ref x0), (1, .int x1), (2, .int (x2 ||| ((nI 1) <<< (x3 &&& 31)))), (3, .int (x3 + nI 1))]) (by decide +kernel) rfl rfl (Nat.le_of_ble_eq_true rfl) rfl rfl ?_
          refine ab_goto (pc := 47) (off := (-43)) (tgt := 4) (by decide +kernel) (by decide) ?_
          exact ih (x2 ||| ((nI 1) <<< (x3 &&& 31))) (x3 + nI 1)
        · refine ab_iconst (pc := 41) (n := 0) (v := nI 0) (by decide +kernel) rfl ?_
          refine ab_ior (pc := 42) (by decide +kernel) ?_
          refine ab_istore_n (pc := 43) (n := 2) (i := 2) (lv' := [(0, .ref x0), (1, .int x1), (2, .int (x2 ||| (nI 0))), (3, .int x3)]) (by decide +kernel) rfl (Nat.le_of_ble_eq_true rfl) rfl rfl ?_
          refine ab_iinc (pc := 44) (i := 3) (n := 1) (j := 3) (d := nI 1) (lv' := [(0, .ref x0), (1, .int x1), (2, .int (x2 ||| (nI 0))), (3, .int (x3 + nI 1))]) (by decide +kernel) rfl rfl (Nat.le_of_ble_eq_true rfl) rfl rfl ?_
          refine ab_goto (pc := 47) (off := (-43)) (tgt := 4) (by decide +kernel) (by decide) ?_
          exact ih (x2 ||| (nI 0)) (x3 + nI 1)
    · refine ab_iload_n (pc := 50) (n := 2) (i := 2) (j := 2) (by decide +kernel) rfl rfl ?_
      exact ab_iret (pc := 51) (by decide +kernel) rfl rfl (Nat.le_of_ble_eq_true rfl) (Nat.le_of_ble_eq_true rfl)
set_option maxRecDepth 100000 in
set_option maxHeartbeats 4000000 in
theorem wX12_alike {l : Launch} (hl : l.stackTraces = false) (F : Nat) (x0 : Nat) (x1 : Int32) (h : ab_H) : ab_S l mX12_alike (fun y : Int32 => ((.inl (some (.int y)), h) : ab_R × ab_H)) 0 0 (fX12_alike F x0 x1 h) 0 [(0, .ref x0), (1, .int x1)] [] h := by
  unfold fX12_alike
  refine ab_iconst (pc := 0) (n := 0) (v := nI 0) (by decide +kernel) rfl ?_
  refine ab_istore_n (pc := 1) (n := 2) (i := 2) (lv' := [(0, .ref x0), (1, .int x1), (2, .int (nI 0))]) (by decide +kernel) rfl (Nat.le_of_ble_eq_true rfl) rfl rfl ?_
  refine ab_iconst (pc := 2) (n := 0) (v := nI 0) (by decide +kernel) rfl ?_
  refine ab_istore_n (pc := 3) (n := 3) (i := 3) (lv' := [(0, .ref x0), (1, .int x1), (2, .int (nI 0)), (3, .int (nI 0))]) (by decide +kernel) rfl (Nat.le_of_ble_eq_true rfl) rfl rfl ?_
  refine lX12_alike_4 hl x0 x1 h F (nI 0) (nI 0)
set_option maxRecDepth 100000 in
set_option maxHeartbeats 4000000 in
theorem okX12_alike {l : Launch} (hl : l.stackTraces = false) {F : Nat} {x0 : Nat} {x1 : Int32} {h : ab_H} {y : Int32} (e : fX12_alike F x0 x1 h = some y) : ab_Met l mX12_alike [.ref x0, .int x1] h (.inl (some (.int y)), h) := ab_ofS (io := (fun y : Int32 => ((.inl (some (.int y)), h) : ab_R × ab_H))) (x := y) hl (by decide) rfl (Nat.le_of_ble_eq_true rfl) (wX12_alike hl F x0 x1 h) e
def mX12_face : ab_M := (yX12_face, cX12_face, 3, (some .int), { frames := 2, cells := 0, slots := 0, locals := 45 })
theorem iX12_face : ab_MI mX12_face 2 := ⟨kw_0d1d2035c9, kw_30b3f7d7c6, by decide +kernel⟩
theorem lk_X12_256_12 : ab_LV RX12 256 12 mX12_hookOf 1 := ⟨RX12, rfl, iX12_hookOf, kw_4f509058fd, kw_f32432b618, kw_b5c4fef769⟩
theorem lk_X12_259_12 : ab_LV RX12 259 12 mX12_alike 1 := ⟨RX12, rfl, iX12_alike, kw_9e915c447a, kw_acb5ebd508, kw_0852e85837⟩
def fX12_face (F : Nat) (x0 : Nat) (x1 : Int32) (x2 : Int32) (h : ab_H) : Option (Int32 × ab_H) := ab_ck (ab_io h x0 12 = true) (ab_bd (fX12_isPerson x0 x1 h) fun v1 => ab_jn (κ := Int32 → Option (Int32 × ab_H)) (fun (z2 : Int32) => ab_bd (ab_fw h x0 12 0 (.int z2)) fun h3 => ab_bd (ab_fi h3 x0 12 0) fun v4 => (if v4 ≤ 0 then (if x2 = 0 then ab_ck (ab_io h3 x0 12 = true) (ab_bd (fX12_of x0 x1 (nI 0) h3) fun v7 => some (v7, h3)) else (if x2 = (nI 1) then ab_ck (ab_io h3 x0 12 = true) (ab_bd (fX12_wearer F x0 x1 h3) fun v9 => some (v9, h3)) else (if x2 = (nI 2) then ab_ck (ab_io h3 x0 12 = true) (ab_bd (fX12_hookOf F x0 x1 h3) fun v11 => some (v11, h3)) else ab_ck (ab_io h3 x0 12 = true) (ab_bd (fX12_alike F x0 x1 h3) fun v12 => some (v12, h3))))) else some (nI 0, h3))) fun j13 => (if v1 = 0 then j13 (nI 1) else ab_bd (fX12_isIn x2 (nI 0) (nI 3) h) fun v15 => (if v15 = 0 then j13 (nI 2) else j13 (nI 0))))
set_option maxRecDepth 100000 in
set_option maxHeartbeats 4000000 in
theorem wX12_face {l : Launch} (hl : l.stackTraces = false) (F : Nat) (x0 : Nat) (x1 : Int32) (x2 : Int32) (h : ab_H) : ab_S l mX12_face (fun y : (Int32 × ab_H) => ((.inl (some (.int y.1)), y.2) : ab_R × ab_H)) 0 0 (fX12_face F x0 x1 x2 h) 0 [(0, .ref x0), (1, .int x1), (2, .int x2)] [] h := by
  unfold fX12_face
  refine ab_aload_n (pc := 0) (n := 0) (i := 0) (j := 0) (by decide +kernel) rfl rfl ?_
  refine ab_aload_n (pc := 1) (n := 0) (i := 0) (j := 0) (by decide +kernel) rfl rfl ?_
  refine ab_iload_n (pc := 2) (n := 1) (i := 1) (j := 1) (by decide +kernel) rfl rfl ?_
  refine ab_callVi (As := [.int x1]) (st := [.ref x0]) (pc := 3) lk_X12_250_12 rfl rfl rfl (by decide) rfl (Nat.le_of_ble_eq_true rfl) (by decide +kernel) (fun y9 e9 => okX12_isPerson hl e9) (fun v1 ev1 => ?_)
  refine ab_jr (fun k9 : Int32 → Option (Int32 × ab_H) => ∀ (z2 : Int32), ab_S l mX12_face (fun y : (Int32 × ab_H) => ((.inl (some (.int y.1)), y.2) : ab_R × ab_H)) 0 0 (k9 z2) 27 [(0, .ref x0), (1, .int x1), (2, .int x2)] [.int z2, .ref x0] h) ?_ (fun j13 hj13 => ?_)
  · intro z2
    refine ab_put (pc := 27) fl_X12_50_12 rfl (fun _ => rfl) (fun _ => rfl) (by decide +kernel) (fun h3 eh3 => ?_)
    refine ab_aload_n (pc := 30) (n := 0) (i := 0) (j := 0) (by decide +kernel) rfl rfl ?_
    refine ab_getI (pc := 31) fl_X12_50_12 (by decide +kernel) (fun v4 ev4 => ?_)
    refine ab_if_le (off := 5) (pc := 34) (tgt := 39) (by decide +kernel) (by decide) (fun g5 => ?_) (fun g5 => ?_)
    · refine ab_iload_n (pc := 39) (n := 2) (i := 2) (j := 2) (by decide +kernel) rfl rfl ?_
      refine ab_if_ne (off := 12) (pc := 40) (tgt := 52) (by decide +kernel) (by decide) (fun g6 => ?_) (fun g6 => ?_)
      · refine ab_aload_n (pc := 43) (n := 0) (i := 0) (j := 0) (by decide +kernel) rfl rfl ?_
        refine ab_iload_n (pc := 44) (n := 1) (i := 1) (j := 1) (by decide +kernel) rfl rfl ?_
        refine ab_iconst (pc := 45) (n := 0) (v := nI 0) (by decide +kernel) rfl ?_
        refine ab_callVi (As := [.int x1, .int (nI 0)]) (st := []) (pc := 46) lk_X12_57_12 rfl rfl rfl (by decide) rfl (Nat.le_of_ble_eq_true rfl) (by decide +kernel) (fun y9 e9 => okX12_of hl e9) (fun v7 ev7 => ?_)
        refine ab_goto (pc := 49) (off := 34) (tgt := 83) (by decide +kernel) (by decide) ?_
        exact ab_iret (pc := 83) (by decide +kernel) rfl rfl (Nat.le_of_ble_eq_true rfl) (Nat.le_of_ble_eq_true rfl)
      · refine ab_iload_n (pc := 52) (n := 2) (i := 2) (j := 2) (by decide +kernel) rfl rfl ?_
        refine ab_iconst (pc := 53) (n := 1) (v := nI 1) (by decide +kernel) rfl ?_
        refine ab_icmp_ne (off := 11) (pc := 54) (tgt := 65) (by decide +kernel) (by decide) (fun g8 => ?_) (fun g8 => ?_)
        · refine ab_aload_n (pc := 57) (n := 0) (i := 0) (j := 0) (by decide +kernel) rfl rfl ?_
          refine ab_iload_n (pc := 58) (n := 1) (i := 1) (j := 1) (by decide +kernel) rfl rfl ?_
          refine ab_callVi (As := [.int x1]) (st := []) (pc := 59) lk_X12_247_12 rfl rfl rfl (by decide) rfl (Nat.le_of_ble_eq_true rfl) (by decide +kernel) (fun y9 e9 => okX12_wearer hl (F := F) e9) (fun v9 ev9 => ?_)
          refine ab_goto (pc := 62) (off := 21) (tgt := 83) (by decide +kernel) (by decide) ?_
          exact ab_iret (pc := 83) (by decide +kernel) rfl rfl (Nat.le_of_ble_eq_true rfl) (Nat.le_of_ble_eq_true rfl)
        · refine ab_iload_n (pc := 65) (n := 2) (i := 2) (j := 2) (by decide +kernel) rfl rfl ?_
          refine ab_iconst (pc := 66) (n := 2) (v := nI 2) (by decide +kernel) rfl ?_
          refine ab_icmp_ne (off := 11) (pc := 67) (tgt := 78) (by decide +kernel) (by decide) (fun g10 => ?_) (fun g10 => ?_)
          · refine ab_aload_n (pc := 70) (n := 0) (i := 0) (j := 0) (by decide +kernel) rfl rfl ?_
            refine ab_iload_n (pc := 71) (n := 1) (i := 1) (j := 1) (by decide +kernel) rfl rfl ?_
            refine ab_callVi (As := [.int x1]) (st := []) (pc := 72) lk_X12_256_12 rfl rfl rfl (by decide) rfl (Nat.le_of_ble_eq_true rfl) (by decide +kernel) (fun y9 e9 => okX12_hookOf hl (F := F) e9) (fun v11 ev11 => ?_)
            refine ab_goto (pc := 75) (off := 8) (tgt := 83) (by decide +kernel) (by decide) ?_
            exact ab_iret (pc := 83) (by decide +kernel) rfl rfl (Nat.le_of_ble_eq_true rfl) (Nat.le_of_ble_eq_true rfl)
          · refine ab_aload_n (pc := 78) (n := 0) (i := 0) (j := 0) (by decide +kernel) rfl rfl ?_
            refine ab_iload_n (pc := 79) (n := 1) (i := 1) (j := 1) (by decide +kernel) rfl rfl ?_
            refine ab_callVi (As := [.int x1]) (st := []) (pc := 80) lk_X12_259_12 rfl rfl rfl (by decide) rfl (Nat.le_of_ble_eq_true rfl) (by decide +kernel) (fun y9 e9 => okX12_alike hl (F := F) e9) (fun v12 ev12 => ?_)
            exact ab_iret (pc := 83) (by decide +kernel) rfl rfl (Nat.le_of_ble_eq_true rfl) (Nat.le_of_ble_eq_true rfl)
    · refine ab_iconst (pc := 37) (n := 0) (v := nI 0) (by decide +kernel) rfl ?_
      exact ab_iret (pc := 38) (by decide +kernel) rfl rfl (Nat.le_of_ble_eq_true rfl) (Nat.le_of_ble_eq_true rfl)
  · refine ab_if_ne (off := 7) (pc := 6) (tgt := 13) (by decide +kernel) (by decide) (fun g14 => ?_) (fun g14 => ?_)
    · refine ab_iconst (pc := 9) (n := 1) (v := nI 1) (by decide +kernel) rfl ?_
      refine ab_goto (pc := 10) (off := 17) (tgt := 27) (by decide +kernel) (by decide) ?_
      exact hj13 (nI 1)
    · refine ab_iload_n (pc := 13) (n := 2) (i := 2) (j := 2) (by decide +kernel) rfl rfl ?_
      refine ab_iconst (pc := 14) (n := 0) (v := nI 0) (by decide +kernel) rfl ?_
      refine ab_iconst (pc := 15) (n := 3) (v := nI 3) (by decide +kernel) rfl ?_
      refine ab_callSi (As := [.int x2, .int (nI 0), .int (nI 3)]) (st := [.ref x0]) (pc := 16) lk_X12_53 rfl rfl rfl (by decide) rfl (Nat.le_of_ble_eq_true rfl) (by decide +kernel) (fun y9 e9 => okX12_isIn hl e9) (fun v15 ev15 => ?_)
      refine ab_if_ne (off := 7) (pc := 19) (tgt := 26) (by decide +kernel) (by decide) (fun g16 => ?_) (fun g16 => ?_)
      · refine ab_iconst (pc := 22) (n := 2) (v := nI 2) (by decide +kernel) rfl ?_
        refine ab_goto (pc := 23) (off := 4) (tgt := 27) (by decide +kernel) (by decide) ?_
        exact hj13 (nI 2)
      · refine ab_iconst (pc := 26) (n := 0) (v := nI 0) (by decide +kernel) rfl ?_
        exact hj13 (nI 0)
set_option maxRecDepth 100000 in
set_option maxHeartbeats 4000000 in
theorem okX12_face {l : Launch} (hl : l.stackTraces = false) {F : Nat} {x0 : Nat} {x1 : Int32} {x2 : Int32} {h : ab_H} {y : (Int32 × ab_H)} (e : fX12_face F x0 x1 x2 h = some y) : ab_Met l mX12_face [.ref x0, .int x1, .int x2] h (.inl (some (.int y.1)), y.2) := ab_ofS (io := (fun y : (Int32 × ab_H) => ((.inl (some (.int y.1)), y.2) : ab_R × ab_H))) (x := y) hl (by decide) rfl (Nat.le_of_ble_eq_true rfl) (wX12_face hl F x0 x1 x2 h) e
def mX12_hook : ab_M := (yX12_hook, cX12_hook, 2, (some .int), { frames := 2, cells := 0, slots := 0, locals := 43 })
theorem iX12_hook : ab_MI mX12_hook 1 := ⟨kw_76d5bc2010, kw_30b3f7d7c6, by decide +kernel⟩
theorem lk_X12_262_12 : ab_LV RX12 262 12 mX12_isHook 1 := ⟨RX12, rfl, iX12_isHook, kw_a2518c1123, kw_83d3c4b1f2, kw_a6f7a54d83⟩
def fX12_hook (x0 : Nat) (x1 : Int32) (h : ab_H) : Option (Int32 × ab_H) := ab_ck (ab_io h x0 12 = true) (ab_bd (fX12_isHook x0 x1 h) fun v1 => ab_jn (κ := Int32 → Option (Int32 × ab_H)) (fun (z2 : Int32) => ab_bd (ab_fw h x0 12 0 (.int z2)) fun h3 => ab_bd (ab_fi h3 x0 12 0) fun v4 => (if v4 ≤ 0 then ab_bd (ab_fr h3 x0 12 1) fun v6 => ab_bd (ab_ia 0 h3 v6 ((nI 272) + x1)) fun v7 => some (v7, h3) else some (nI 0, h3))) fun j8 => (if v1 = 0 then j8 (nI 1) else j8 (nI 0)))
set_option maxRecDepth 100000 in
set_option maxHeartbeats 4000000 in
theorem wX12_hook {l : Launch} (hl : l.stackTraces = false) (x0 : Nat) (x1 : Int32) (h : ab_H) : ab_S l mX12_hook (fun y : (Int32 × ab_H) => ((.inl (some (.int y.1)), y.2) : ab_R × ab_H)) 0 0 (fX12_hook x0 x1 h) 0 [(0, .ref x0), (1, .int x1)] [] h := by
  unfold fX12_hook
  refine ab_aload_n (pc := 0) (n := 0) (i := 0) (j := 0) (by decide +kernel) rfl rfl ?_
  refine ab_aload_n (pc := 1) (n := 0) (i := 0) (j := 0) (by decide +kernel) rfl rfl ?_
  refine ab_iload_n (pc := 2) (n := 1) (i := 1) (j := 1) (by decide +kernel) rfl rfl ?_
  refine ab_callVi (As := [.int x1]) (st := [.ref x0]) (pc := 3) lk_X12_262_12 rfl rfl rfl (by decide) rfl (Nat.le_of_ble_eq_true rfl) (by decide +kernel) (fun y9 e9 => okX12_isHook hl e9) (fun v1 ev1 => ?_)
  refine ab_jr (fun k9 : Int32 → Option (Int32 × ab_H) => ∀ (z2 : Int32), ab_S l mX12_hook (fun y : (Int32 × ab_H) => ((.inl (some (.int y.1)), y.2) : ab_R × ab_H)) 0 0 (k9 z2) 14 [(0, .ref x0), (1, .int x1)] [.int z2, .ref x0] h) ?_ (fun j8 hj8 => ?_)
  · intro z2
    refine ab_put (pc := 14) fl_X12_50_12 rfl (fun _ => rfl) (fun _ => rfl) (by decide +kernel) (fun h3 eh3 => ?_)
    refine ab_aload_n (pc := 17) (n := 0) (i := 0) (j := 0) (by decide +kernel) rfl rfl ?_
    refine ab_getI (pc := 18) fl_X12_50_12 (by decide +kernel) (fun v4 ev4 => ?_)
    refine ab_if_le (off := 7) (pc := 21) (tgt := 28) (by decide +kernel) (by decide) (fun g5 => ?_) (fun g5 => ?_)
    · refine ab_aload_n (pc := 28) (n := 0) (i := 0) (j := 0) (by decide +kernel) rfl rfl ?_
      refine ab_getR (pc := 29) fl_X12_7_12 (by decide +kernel) (fun v6 ev6 => ?_)
      refine ab_sipush (pc := 32) (n := 272) (v := nI 272) (by decide +kernel) (by decide) ?_
      refine ab_iload_n (pc := 35) (n := 1) (i := 1) (j := 1) (by decide +kernel) rfl rfl ?_
      refine ab_iadd (pc := 36) (by decide +kernel) ?_
      refine ab_iald (pc := 37) (by decide +kernel) (fun v7 ev7 => ?_)
      exact ab_iret (pc := 38) (by decide +kernel) rfl rfl (Nat.le_of_ble_eq_true rfl) (Nat.le_of_ble_eq_true rfl)
    · refine ab_iconst (pc := 24) (n := 0) (v := nI 0) (by decide +kernel) rfl ?_
      refine ab_goto (pc := 25) (off := 13) (tgt := 38) (by decide +kernel) (by decide) ?_
      exact ab_iret (pc := 38) (by decide +kernel) rfl rfl (Nat.le_of_ble_eq_true rfl) (Nat.le_of_ble_eq_true rfl)
  · refine ab_if_ne (off := 7) (pc := 6) (tgt := 13) (by decide +kernel) (by decide) (fun g9 => ?_) (fun g9 => ?_)
    · refine ab_iconst (pc := 9) (n := 1) (v := nI 1) (by decide +kernel) rfl ?_
      refine ab_goto (pc := 10) (off := 4) (tgt := 14) (by decide +kernel) (by decide) ?_
      exact hj8 (nI 1)
    · refine ab_iconst (pc := 13) (n := 0) (v := nI 0) (by decide +kernel) rfl ?_
      exact hj8 (nI 0)
set_option maxRecDepth 100000 in
set_option maxHeartbeats 4000000 in
theorem okX12_hook {l : Launch} (hl : l.stackTraces = false) {x0 : Nat} {x1 : Int32} {h : ab_H} {y : (Int32 × ab_H)} (e : fX12_hook x0 x1 h = some y) : ab_Met l mX12_hook [.ref x0, .int x1] h (.inl (some (.int y.1)), y.2) := ab_ofS (io := (fun y : (Int32 × ab_H) => ((.inl (some (.int y.1)), y.2) : ab_R × ab_H))) (x := y) hl (by decide) rfl (Nat.le_of_ble_eq_true rfl) (wX12_hook hl x0 x1 h) e
def mX12_dear : ab_M := (yX12_dear, cX12_dear, 4, (some .int), { frames := 0, cells := 0, slots := 0, locals := 0 })
theorem iX12_dear : ab_MI mX12_dear 2 := ⟨kw_74bc19f0e8, kw_30b3f7d7c6, by decide +kernel⟩
def fX12_dear_2 (x0 : Nat) (x1 : Int32) (x2 : Int32) (h : ab_H) : Nat → Int32 → Option Int32
  | 0, _ => none
  | n + 1, x3 => ab_bd (ab_fr h x0 12 1) fun v1 => ab_bd (ab_ia 0 h v1 (((nI 72) + ((nI 10) * x1)) + x3)) fun v2 => (if v2 = x2 then some x3 else fX12_dear_2 x0 x1 x2 h n (x3 + nI 1))
def fX12_dear (F : Nat) (x0 : Nat) (x1 : Int32) (x2 : Int32) (h : ab_H) : Option Int32 := fX12_dear_2 x0 x1 x2 h F (nI 0)
set_option maxRecDepth 100000 in
set_option maxHeartbeats 4000000 in
theorem lX12_dear_2 {l : Launch} (hl : l.stackTraces = false) (x0 : Nat) (x1 : Int32) (x2 : Int32) (h : ab_H) : ∀ (n : Nat) (x3 : Int32), ab_S l mX12_dear (fun y : Int32 => ((.inl (some (.int y)), h) : ab_R × ab_H)) 0 0 (fX12_dear_2 x0 x1 x2 h n x3) 2 [(0, .ref x0), (1, .int x1), (2, .int x2), (3, .int x3)] [] h := by
  intro n
  induction n with
  | zero =>
    intro x3
    exact ab_none
  | succ n ih =>
    intro x3
    rw [fX12_dear_2]
    refine ab_aload_n (pc := 2) (n := 0) (i := 0) (j := 0) (by decide +kernel) rfl rfl ?_
    refine ab_getR (pc := 3) fl_X12_7_12 (by decide +kernel) (fun v1 ev1 => ?_)
    refine ab_bipush (pc := 6) (n := 72) (v := nI 72) (by decide +kernel) (by decide) ?_
    refine ab_bipush (pc := 8) (n := 10) (v := nI 10) (by decide +kernel) (by decide) ?_
    refine ab_iload_n (pc := 10) (n := 1) (i := 1) (j := 1) (by decide +kernel) rfl rfl ?_
    refine ab_imul (pc := 11) (by decide +kernel) ?_
    refine ab_iadd (pc := 12) (by decide +kernel) ?_
    refine ab_iload_n (pc := 13) (n := 3) (i := 3) (j := 3) (by decide +kernel) rfl rfl ?_
    refine ab_iadd (pc := 14) (by decide +kernel) ?_
    refine ab_iald (pc := 15) (by decide +kernel) (fun v2 ev2 => ?_)
    refine ab_iload_n (pc := 16) (n := 2) (i := 2) (j := 2) (by decide +kernel) rfl rfl ?_
    refine ab_icmp_eq (off := 9) (pc := 17) (tgt := 26) (by decide +kernel) (by decide) (fun g3 => ?_) (fun g3 => ?_)
    · refine ab_iload_n (pc := 26) (n := 3) (i := 3) (j := 3) (by decide +kernel) rfl rfl ?_
      exact ab_iret (pc := 27) (by decide +kernel) rfl rfl (Nat.le_of_ble_eq_true rfl) (Nat.le_of_ble_eq_true rfl)
    · refine ab_iinc (pc := 20) (i := 3) (n := 1) (j := 3) (d := nI 1) (lv' := [(0, .ref x0), (1, .int x1), (2, .int x2), (3, .int (x3 + nI 1))]) (by decide +kernel) rfl rfl (Nat.le_of_ble_eq_true rfl) rfl rfl ?_
      refine ab_goto (pc := 23) (off := (-21)) (tgt := 2) (by decide +kernel) (by decide) ?_
      exact ih (x3 + nI 1)
set_option maxRecDepth 100000 in
set_option maxHeartbeats 4000000 in
theorem wX12_dear {l : Launch} (hl : l.stackTraces = false) (F : Nat) (x0 : Nat) (x1 : Int32) (x2 : Int32) (h : ab_H) : ab_S l mX12_dear (fun y : Int32 => ((.inl (some (.int y)), h) : ab_R × ab_H)) 0 0 (fX12_dear F x0 x1 x2 h) 0 [(0, .ref x0), (1, .int x1), (2, .int x2)] [] h := by
  unfold fX12_dear
  refine ab_iconst (pc := 0) (n := 0) (v := nI 0) (by decide +kernel) rfl ?_
  refine ab_istore_n (pc := 1) (n := 3) (i := 3) (lv' := [(0, .ref x0), (1, .int x1), (2, .int x2), (3, .int (nI 0))]) (by decide +kernel) rfl (Nat.le_of_ble_eq_true rfl) rfl rfl ?_
  refine lX12_dear_2 hl x0 x1 x2 h F (nI 0)
set_option maxRecDepth 100000 in
set_option maxHeartbeats 4000000 in
theorem okX12_dear {l : Launch} (hl : l.stackTraces = false) {F : Nat} {x0 : Nat} {x1 : Int32} {x2 : Int32} {h : ab_H} {y : Int32} (e : fX12_dear F x0 x1 x2 h = some y) : ab_Met l mX12_dear [.ref x0, .int x1, .int x2] h (.inl (some (.int y)), h) := ab_ofS (io := (fun y : Int32 => ((.inl (some (.int y)), h) : ab_R × ab_H))) (x := y) hl (by decide) rfl (Nat.le_of_ble_eq_true rfl) (wX12_dear hl F x0 x1 x2 h) e
def mX12_wish : ab_M := (yX12_wish, cX12_wish, 5, (some .int), { frames := 2, cells := 0, slots := 0, locals := 43 })
theorem iX12_wish : ab_MI mX12_wish 2 := ⟨kw_7d136c3240, kw_30b3f7d7c6, by decide +kernel⟩
def fX12_wish_58 (x0 : Nat) (x1 : Int32) (h : ab_H) (k119 : Int32 → Option (Int32 × ab_H)) : Nat → Int32 → Int32 → Option (Int32 × ab_H)
  | 0, _, _ => none
  | n + 1, x3, x4 => ab_jn (κ := Option (Int32 × ab_H)) (ab_bd (ab_fr h x0 12 1) fun v13 => ab_bd (ab_ia 0 h v13 (((nI 72) + ((nI 10) * x1)) + x4)) fun v14 => ab_bd (ab_fr h x0 12 1) fun v15 => ab_bd (ab_ia 0 h v15 (nI 3)) fun v16 => (if v14 < v16 then fX12_wish_58 x0 x1 h k119 n (x3 + (-1 : Int32)) (x4 + nI 1) else fX12_wish_58 x0 x1 h k119 n x3 (x4 + nI 1))) fun j18 => (if x3 ≤ 0 then ab_bd (ab_fr h x0 12 1) fun v20 => ab_bd (ab_ia 0 h v20 (((nI 72) + ((nI 10) * x1)) + x4)) fun v21 => ab_bd (ab_fr h x0 12 1) fun v22 => ab_bd (ab_ia 0 h v22 (nI 3)) fun v23 => (if v21 < v23 then k119 x4 else j18) else j18)
def fX12_wish (F : Nat) (x0 : Nat) (x1 : Int32) (x2 : Int32) (h : ab_H) : Option (Int32 × ab_H) := ab_ck (ab_io h x0 12 = true) (ab_bd (fX12_isPerson x0 x1 h) fun v1 => ab_jn (κ := Int32 → Option (Int32 × ab_H)) (fun (z2 : Int32) => ab_bd (ab_fw h x0 12 0 (.int z2)) fun h3 => ab_bd (ab_fi h3 x0 12 0) fun v4 => ab_jn (κ := Option (Int32 × ab_H)) (ab_bd (ab_fi h3 x0 12 0) fun v5 => (if v5 ≤ 0 then some ((-1 : Int32), h3) else some (nI 0, h3))) fun j7 => (if v4 ≤ 0 then ab_bd (ab_fr h3 x0 12 1) fun v9 => ab_bd (ab_ia 0 h3 v9 (nI 3)) fun v10 => ab_bd (fX12_isIn x2 (nI 0) (v10 - (nI 1)) h3) fun v11 => (if v11 = 0 then j7 else fX12_wish_58 x0 x1 h3 (fun (z25 : Int32) => ab_bd (ab_fr h3 x0 12 1) fun v26 => ab_bd (ab_ia 0 h3 v26 (((nI 72) + ((nI 10) * x1)) + z25)) fun v27 => some (v27, h3)) F x2 (nI 0)) else j7)) fun j28 => (if v1 = 0 then j28 (nI 1) else j28 (nI 0)))
set_option maxRecDepth 100000 in
set_option maxHeartbeats 4000000 in
theorem lX12_wish_58 {l : Launch} (hl : l.stackTraces = false) (x0 : Nat) (x1 : Int32) (h : ab_H) {k119 : Int32 → Option (Int32 × ab_H)} (hk119 : ∀ (x4 : Int32), ab_S l mX12_wish (fun y : (Int32 × ab_H) => ((.inl (some (.int y.1)), y.2) : ab_R × ab_H)) 0 0 (k119 x4) 119 [(0, .ref x0), (1, .int x1), (4, .int x4)] [] h) : ∀ (n : Nat) (x3 : Int32) (x4 : Int32), ab_S l mX12_wish (fun y : (Int32 × ab_H) => ((.inl (some (.int y.1)), y.2) : ab_R × ab_H)) 0 0 (fX12_wish_58 x0 x1 h k119 n x3 x4) 58 [(0, .ref x0), (1, .int x1), (3, .int x3), (4, .int x4)] [] h := by
  intro n
  induction n with
  | zero =>
    intro x3 x4
    exact ab_none
  | succ n ih =>
    intro x3 x4
    rw [fX12_wish_58]
    refine ab_iload_n (pc := 58) (n := 3) (i := 3) (j := 2) (by decide +kernel) rfl rfl ?_
    refine ab_jr (fun k9 : Option (Int32 × ab_H) => ab_S l mX12_wish (fun y : (Int32 × ab_H) => ((.inl (some (.int y.1)), y.2) : ab_R × ab_H)) 0 0 (k9) 86 [(0, .ref x0), (1, .int x1), (3, .int x3), (4, .int x4)] [] h) ?_ (fun j18 hj18 => ?_)
    · refine ab_aload_n (pc := 86) (n := 0) (i := 0) (j := 0) (by decide +kernel) rfl rfl ?_
      refine ab_getR (pc := 87) fl_X12_7_12 (by decide +kernel) (fun v13 ev13 => ?_)
      refine ab_bipush (pc := 90) (n := 72) (v := nI 72) (by decide +kernel) (by decide) ?_
      refine ab_bipush (pc := 92) (n := 10) (v := nI 10) (by decide +kernel) (by decide) ?_
      refine ab_iload_n (pc := 94) (n := 1) (i := 1) (j := 1) (by decide +kernel) rfl rfl ?_
      refine ab_imul (pc := 95) (by decide +kernel) ?_
      refine ab_iadd (pc := 96) (by decide +kernel) ?_
      refine ab_iload (pc := 97) (i := 4) (j := 3) (by decide +kernel) rfl ?_
      refine ab_iadd (pc := 99) (by decide +kernel) ?_
      refine ab_iald (pc := 100) (by decide +kernel) (fun v14 ev14 => ?_)
      refine ab_aload_n (pc := 101) (n := 0) (i := 0) (j := 0) (by decide +kernel) rfl rfl ?_
      refine ab_getR (pc := 102) fl_X12_7_12 (by decide +kernel) (fun v15 ev15 => ?_)
      refine ab_iconst (pc := 105) (n := 3) (v := nI 3) (by decide +kernel) rfl ?_
      refine ab_iald (pc := 106) (by decide +kernel) (fun v16 ev16 => ?_)
      refine ab_icmp_ge (off := 6) (pc := 107) (tgt := 113) (by decide +kernel) (by decide) (fun g17 => ?_) (fun g17 => ?_)
      · refine ab_iinc (pc := 110) (i := 3) (n := -1) (j := 2) (d := (-1 : Int32)) (lv' := [(0, .ref x0), (1, .int x1), (3, .int (x3 + (-1 : Int32))), (4, .int x4)]) (by decide +kernel) rfl rfl (Nat.le_of_ble_eq_true rfl) rfl rfl ?_
        refine ab_iinc (pc := 113) (i := 4) (n := 1) (j := 3) (d := nI 1) (lv' := [(0, .ref x0), (1, .int x1), (3, .int (x3 + (-1 : Int32))), (4, .int (x4 + nI 1))]) (by decide +kernel) rfl rfl (Nat.le_of_ble_eq_true rfl) rfl rfl ?_
        refine ab_goto (pc := 116) (off := (-58)) (tgt := 58) (by decide +kernel) (by decide) ?_
        exact ih (x3 + (-1 : Int32)) (x4 + nI 1)
      · refine ab_iinc (pc := 113) (i := 4) (n := 1) (j := 3) (d := nI 1) (lv' := [(0, .ref x0), (1, .int x1), (3, .int x3), (4, .int (x4 + nI 1))]) (by decide +kernel) rfl rfl (Nat.le_of_ble_eq_true rfl) rfl rfl ?_
        refine ab_goto (pc := 116) (off := (-58)) (tgt := 58) (by decide +kernel) (by decide) ?_
        exact ih x3 (x4 + nI 1)
    · refine ab_if_gt (off := 27) (pc := 59) (tgt := 86) (by decide +kernel) (by decide) (fun g19 => ?_) (fun g19 => ?_)
      · refine ab_aload_n (pc := 62) (n := 0) (i := 0) (j := 0) (by decide +kernel) rfl rfl ?_
        refine ab_getR (pc := 63) fl_X12_7_12 (by decide +kernel) (fun v20 ev20 => ?_)
        refine ab_bipush (pc := 66) (n := 72) (v := nI 72) (by decide +kernel) (by decide) ?_
        refine ab_bipush (pc := 68) (n := 10) (v := nI 10) (by decide +kernel) (by decide) ?_
        refine ab_iload_n (pc := 70) (n := 1) (i := 1) (j := 1) (by decide +kernel) rfl rfl ?_
        refine ab_imul (pc := 71) (by decide +kernel) ?_
        refine ab_iadd (pc := 72) (by decide +kernel) ?_
        refine ab_iload (pc := 73) (i := 4) (j := 3) (by decide +kernel) rfl ?_
        refine ab_iadd (pc := 75) (by decide +kernel) ?_
        refine ab_iald (pc := 76) (by decide +kernel) (fun v21 ev21 => ?_)
        refine ab_aload_n (pc := 77) (n := 0) (i := 0) (j := 0) (by decide +kernel) rfl rfl ?_
        refine ab_getR (pc := 78) fl_X12_7_12 (by decide +kernel) (fun v22 ev22 => ?_)
        refine ab_iconst (pc := 81) (n := 3) (v := nI 3) (by decide +kernel) rfl ?_
        refine ab_iald (pc := 82) (by decide +kernel) (fun v23 ev23 => ?_)
        refine ab_icmp_lt (off := 36) (pc := 83) (tgt := 119) (by decide +kernel) (by decide) (fun g24 => ?_) (fun g24 => ?_)
        · refine ab_few [0, 1, 3] (lv' := [(0, .ref x0), (1, .int x1), (4, .int x4)]) rfl ?_
          exact hk119 x4
        · exact hj18
      · exact hj18
set_option maxRecDepth 100000 in
set_option maxHeartbeats 4000000 in
theorem wX12_wish {l : Launch} (hl : l.stackTraces = false) (F : Nat) (x0 : Nat) (x1 : Int32) (x2 : Int32) (h : ab_H) : ab_S l mX12_wish (fun y : (Int32 × ab_H) => ((.inl (some (.int y.1)), y.2) : ab_R × ab_H)) 0 0 (fX12_wish F x0 x1 x2 h) 0 [(0, .ref x0), (1, .int x1), (2, .int x2)] [] h := by
  unfold fX12_wish
  refine ab_aload_n (pc := 0) (n := 0) (i := 0) (j := 0) (by decide +kernel) rfl rfl ?_
  refine ab_aload_n (pc := 1) (n := 0) (i := 0) (j := 0) (by decide +kernel) rfl rfl ?_
  refine ab_iload_n (pc := 2) (n := 1) (i := 1) (j := 1) (by decide +kernel) rfl rfl ?_
  refine ab_callVi (As := [.int x1]) (st := [.ref x0]) (pc := 3) lk_X12_250_12 rfl rfl rfl (by decide) rfl (Nat.le_of_ble_eq_true rfl) (by decide +kernel) (fun y9 e9 => okX12_isPerson hl e9) (fun v1 ev1 => ?_)
  refine ab_jr (fun k9 : Int32 → Option (Int32 × ab_H) => ∀ (z2 : Int32), ab_S l mX12_wish (fun y : (Int32 × ab_H) => ((.inl (some (.int y.1)), y.2) : ab_R × ab_H)) 0 0 (k9 z2) 14 [(0, .ref x0), (1, .int x1), (2, .int x2)] [.int z2, .ref x0] h) ?_ (fun j28 hj28 => ?_)
  · intro z2
    refine ab_put (pc := 14) fl_X12_50_12 rfl (fun _ => rfl) (fun _ => rfl) (by decide +kernel) (fun h3 eh3 => ?_)
    refine ab_aload_n (pc := 17) (n := 0) (i := 0) (j := 0) (by decide +kernel) rfl rfl ?_
    refine ab_getI (pc := 18) fl_X12_50_12 (by decide +kernel) (fun v4 ev4 => ?_)
    refine ab_jr (fun k9 : Option (Int32 × ab_H) => ab_S l mX12_wish (fun y : (Int32 × ab_H) => ((.inl (some (.int y.1)), y.2) : ab_R × ab_H)) 0 0 (k9) 40 [(0, .ref x0)] [] h3) ?_ (fun j7 hj7 => ?_)
    · refine ab_aload_n (pc := 40) (n := 0) (i := 0) (j := 0) (by decide +kernel) rfl rfl ?_
      refine ab_getI (pc := 41) fl_X12_50_12 (by decide +kernel) (fun v5 ev5 => ?_)
      refine ab_if_le (off := 7) (pc := 44) (tgt := 51) (by decide +kernel) (by decide) (fun g6 => ?_) (fun g6 => ?_)
      · refine ab_iconst (pc := 51) (n := -1) (v := (-1 : Int32)) (by decide +kernel) rfl ?_
        exact ab_iret (pc := 52) (by decide +kernel) rfl rfl (Nat.le_of_ble_eq_true rfl) (Nat.le_of_ble_eq_true rfl)
      · refine ab_iconst (pc := 47) (n := 0) (v := nI 0) (by decide +kernel) rfl ?_
        refine ab_goto (pc := 48) (off := 4) (tgt := 52) (by decide +kernel) (by decide) ?_
        exact ab_iret (pc := 52) (by decide +kernel) rfl rfl (Nat.le_of_ble_eq_true rfl) (Nat.le_of_ble_eq_true rfl)
    · refine ab_if_gt (off := 19) (pc := 21) (tgt := 40) (by decide +kernel) (by decide) (fun g8 => ?_) (fun g8 => ?_)
      · refine ab_iload_n (pc := 24) (n := 2) (i := 2) (j := 2) (by decide +kernel) rfl rfl ?_
        refine ab_iconst (pc := 25) (n := 0) (v := nI 0) (by decide +kernel) rfl ?_
        refine ab_aload_n (pc := 26) (n := 0) (i := 0) (j := 0) (by decide +kernel) rfl rfl ?_
        refine ab_getR (pc := 27) fl_X12_7_12 (by decide +kernel) (fun v9 ev9 => ?_)
        refine ab_iconst (pc := 30) (n := 3) (v := nI 3) (by decide +kernel) rfl ?_
        refine ab_iald (pc := 31) (by decide +kernel) (fun v10 ev10 => ?_)
        refine ab_iconst (pc := 32) (n := 1) (v := nI 1) (by decide +kernel) rfl ?_
        refine ab_isub (pc := 33) (by decide +kernel) ?_
        refine ab_callSi (As := [.int x2, .int (nI 0), .int (v10 - (nI 1))]) (st := []) (pc := 34) lk_X12_53 rfl rfl rfl (by decide) rfl (Nat.le_of_ble_eq_true rfl) (by decide +kernel) (fun y9 e9 => okX12_isIn hl e9) (fun v11 ev11 => ?_)
        refine ab_if_ne (off := 16) (pc := 37) (tgt := 53) (by decide +kernel) (by decide) (fun g12 => ?_) (fun g12 => ?_)
        · refine ab_few [0] (lv' := [(0, .ref x0)]) rfl ?_
          exact hj7
        · refine ab_iload_n (pc := 53) (n := 2) (i := 2) (j := 2) (by decide +kernel) rfl rfl ?_
          refine ab_istore_n (pc := 54) (n := 3) (i := 3) (lv' := [(0, .ref x0), (1, .int x1), (2, .int x2), (3, .int x2)]) (by decide +kernel) rfl (Nat.le_of_ble_eq_true rfl) rfl rfl ?_
          refine ab_iconst (pc := 55) (n := 0) (v := nI 0) (by decide +kernel) rfl ?_
          refine ab_istore (pc := 56) (i := 4) (lv' := [(0, .ref x0), (1, .int x1), (2, .int x2), (3, .int x2), (4, .int (nI 0))]) (by decide +kernel) (Nat.le_of_ble_eq_true rfl) rfl rfl ?_
          refine ab_few [0, 1, 3, 4] (lv' := [(0, .ref x0), (1, .int x1), (3, .int x2), (4, .int (nI 0))]) rfl ?_
          refine lX12_wish_58 hl x0 x1 h3 ?_ F x2 (nI 0)
          intro z25
          refine ab_aload_n (pc := 119) (n := 0) (i := 0) (j := 0) (by decide +kernel) rfl rfl ?_
          refine ab_getR (pc := 120) fl_X12_7_12 (by decide +kernel) (fun v26 ev26 => ?_)
          refine ab_bipush (pc := 123) (n := 72) (v := nI 72) (by decide +kernel) (by decide) ?_
          refine ab_bipush (pc := 125) (n := 10) (v := nI 10) (by decide +kernel) (by decide) ?_
          refine ab_iload_n (pc := 127) (n := 1) (i := 1) (j := 1) (by decide +kernel) rfl rfl ?_
          refine ab_imul (pc := 128) (by decide +kernel) ?_
          refine ab_iadd (pc := 129) (by decide +kernel) ?_
          refine ab_iload (pc := 130) (i := 4) (j := 2) (by decide +kernel) rfl ?_
          refine ab_iadd (pc := 132) (by decide +kernel) ?_
          refine ab_iald (pc := 133) (by decide +kernel) (fun v27 ev27 => ?_)
          exact ab_iret (pc := 134) (by decide +kernel) rfl rfl (Nat.le_of_ble_eq_true rfl) (Nat.le_of_ble_eq_true rfl)
      · refine ab_few [0] (lv' := [(0, .ref x0)]) rfl ?_
        exact hj7
  · refine ab_if_ne (off := 7) (pc := 6) (tgt := 13) (by decide +kernel) (by decide) (fun g29 => ?_) (fun g29 => ?_)
    · refine ab_iconst (pc := 9) (n := 1) (v := nI 1) (by decide +kernel) rfl ?_
      refine ab_goto (pc := 10) (off := 4) (tgt := 14) (by decide +kernel) (by decide) ?_
      exact hj28 (nI 1)
    · refine ab_iconst (pc := 13) (n := 0) (v := nI 0) (by decide +kernel) rfl ?_
      exact hj28 (nI 0)
set_option maxRecDepth 100000 in
set_option maxHeartbeats 4000000 in
theorem okX12_wish {l : Launch} (hl : l.stackTraces = false) {F : Nat} {x0 : Nat} {x1 : Int32} {x2 : Int32} {h : ab_H} {y : (Int32 × ab_H)} (e : fX12_wish F x0 x1 x2 h = some y) : ab_Met l mX12_wish [.ref x0, .int x1, .int x2] h (.inl (some (.int y.1)), y.2) := ab_ofS (io := (fun y : (Int32 × ab_H) => ((.inl (some (.int y.1)), y.2) : ab_R × ab_H))) (x := y) hl (by decide) rfl (Nat.le_of_ble_eq_true rfl) (wX12_wish hl F x0 x1 x2 h) e
def mX12_two : ab_M := (yX12_two, cX12_two, 3, (some .int), { frames := 2, cells := 0, slots := 0, locals := 43 })
theorem iX12_two : ab_MI mX12_two 2 := ⟨kw_ebba7dcbac, kw_30b3f7d7c6, by decide +kernel⟩
def fX12_two (x0 : Nat) (x1 : Int32) (x2 : Int32) (h : ab_H) : Option Int32 := ab_ck (ab_io h x0 12 = true) (ab_bd (fX12_isPerson x0 x1 h) fun v1 => (if v1 = 0 then some (nI 1) else ab_ck (ab_io h x0 12 = true) (ab_bd (fX12_isPerson x0 x2 h) fun v3 => (if v3 = 0 then some (nI 1) else (if x1 = x2 then some (nI 2) else some (nI 0))))))
set_option maxRecDepth 100000 in
set_option maxHeartbeats 4000000 in
theorem wX12_two {l : Launch} (hl : l.stackTraces = false) (x0 : Nat) (x1 : Int32) (x2 : Int32) (h : ab_H) : ab_S l mX12_two (fun y : Int32 => ((.inl (some (.int y)), h) : ab_R × ab_H)) 0 0 (fX12_two x0 x1 x2 h) 0 [(0, .ref x0), (1, .int x1), (2, .int x2)] [] h := by
  unfold fX12_two
  refine ab_aload_n (pc := 0) (n := 0) (i := 0) (j := 0) (by decide +kernel) rfl rfl ?_
  refine ab_iload_n (pc := 1) (n := 1) (i := 1) (j := 1) (by decide +kernel) rfl rfl ?_
  refine ab_callVi (As := [.int x1]) (st := []) (pc := 2) lk_X12_250_12 rfl rfl rfl (by decide) rfl (Nat.le_of_ble_eq_true rfl) (by decide +kernel) (fun y9 e9 => okX12_isPerson hl e9) (fun v1 ev1 => ?_)
  refine ab_if_eq (off := 11) (pc := 5) (tgt := 16) (by decide +kernel) (by decide) (fun g2 => ?_) (fun g2 => ?_)
  · refine ab_iconst (pc := 16) (n := 1) (v := nI 1) (by decide +kernel) rfl ?_
    refine ab_goto (pc := 17) (off := 13) (tgt := 30) (by decide +kernel) (by decide) ?_
    exact ab_iret (pc := 30) (by decide +kernel) rfl rfl (Nat.le_of_ble_eq_true rfl) (Nat.le_of_ble_eq_true rfl)
  · refine ab_aload_n (pc := 8) (n := 0) (i := 0) (j := 0) (by decide +kernel) rfl rfl ?_
    refine ab_iload_n (pc := 9) (n := 2) (i := 2) (j := 2) (by decide +kernel) rfl rfl ?_
    refine ab_callVi (As := [.int x2]) (st := []) (pc := 10) lk_X12_250_12 rfl rfl rfl (by decide) rfl (Nat.le_of_ble_eq_true rfl) (by decide +kernel) (fun y9 e9 => okX12_isPerson hl e9) (fun v3 ev3 => ?_)
    refine ab_if_ne (off := 7) (pc := 13) (tgt := 20) (by decide +kernel) (by decide) (fun g4 => ?_) (fun g4 => ?_)
    · refine ab_iconst (pc := 16) (n := 1) (v := nI 1) (by decide +kernel) rfl ?_
      refine ab_goto (pc := 17) (off := 13) (tgt := 30) (by decide +kernel) (by decide) ?_
      exact ab_iret (pc := 30) (by decide +kernel) rfl rfl (Nat.le_of_ble_eq_true rfl) (Nat.le_of_ble_eq_true rfl)
    · refine ab_iload_n (pc := 20) (n := 1) (i := 1) (j := 1) (by decide +kernel) rfl rfl ?_
      refine ab_iload_n (pc := 21) (n := 2) (i := 2) (j := 2) (by decide +kernel) rfl rfl ?_
      refine ab_icmp_ne (off := 7) (pc := 22) (tgt := 29) (by decide +kernel) (by decide) (fun g5 => ?_) (fun g5 => ?_)
      · refine ab_iconst (pc := 25) (n := 2) (v := nI 2) (by decide +kernel) rfl ?_
        refine ab_goto (pc := 26) (off := 4) (tgt := 30) (by decide +kernel) (by decide) ?_
        exact ab_iret (pc := 30) (by decide +kernel) rfl rfl (Nat.le_of_ble_eq_true rfl) (Nat.le_of_ble_eq_true rfl)
      · refine ab_iconst (pc := 29) (n := 0) (v := nI 0) (by decide +kernel) rfl ?_
        exact ab_iret (pc := 30) (by decide +kernel) rfl rfl (Nat.le_of_ble_eq_true rfl) (Nat.le_of_ble_eq_true rfl)
set_option maxRecDepth 100000 in
set_option maxHeartbeats 4000000 in
theorem okX12_two {l : Launch} (hl : l.stackTraces = false) {x0 : Nat} {x1 : Int32} {x2 : Int32} {h : ab_H} {y : Int32} (e : fX12_two x0 x1 x2 h = some y) : ab_Met l mX12_two [.ref x0, .int x1, .int x2] h (.inl (some (.int y)), h) := ab_ofS (io := (fun y : Int32 => ((.inl (some (.int y)), h) : ab_R × ab_H))) (x := y) hl (by decide) rfl (Nat.le_of_ble_eq_true rfl) (wX12_two hl x0 x1 x2 h) e
def mX12_thinks : ab_M := (yX12_thinks, cX12_thinks, 3, (some .int), { frames := 3, cells := 0, slots := 0, locals := 65 })
theorem iX12_thinks : ab_MI mX12_thinks 2 := ⟨kw_85c4937652, kw_30b3f7d7c6, by decide +kernel⟩
theorem lk_X12_265_12 : ab_LV RX12 265 12 mX12_two 2 := ⟨RX12, rfl, iX12_two, kw_e526f929ec, kw_175f2c8ff3, kw_dda2f6f22a⟩
theorem lk_X12_268_12 : ab_LV RX12 268 12 mX12_thought 2 := ⟨RX12, rfl, iX12_thought, kw_f9c694e219, kw_7adf59bd04, kw_8a08c65417⟩
def fX12_thinks (x0 : Nat) (x1 : Int32) (x2 : Int32) (h : ab_H) : Option (Int32 × ab_H) := ab_ck (ab_io h x0 12 = true) (ab_bd (fX12_two x0 x1 x2 h) fun v1 => ab_bd (ab_fw h x0 12 0 (.int v1)) fun h2 => ab_bd (ab_fi h2 x0 12 0) fun v3 => (if v3 ≤ 0 then ab_ck (ab_io h2 x0 12 = true) (ab_bd (fX12_thought x0 x1 x2 h2) fun v5 => some (v5, h2)) else some (nI 0, h2)))
set_option maxRecDepth 100000 in
set_option maxHeartbeats 4000000 in
theorem wX12_thinks {l : Launch} (hl : l.stackTraces = false) (x0 : Nat) (x1 : Int32) (x2 : Int32) (h : ab_H) : ab_S l mX12_thinks (fun y : (Int32 × ab_H) => ((.inl (some (.int y.1)), y.2) : ab_R × ab_H)) 0 0 (fX12_thinks x0 x1 x2 h) 0 [(0, .ref x0), (1, .int x1), (2, .int x2)] [] h := by
  unfold fX12_thinks
  refine ab_aload_n (pc := 0) (n := 0) (i := 0) (j := 0) (by decide +kernel) rfl rfl ?_
  refine ab_aload_n (pc := 1) (n := 0) (i := 0) (j := 0) (by decide +kernel) rfl rfl ?_
  refine ab_iload_n (pc := 2) (n := 1) (i := 1) (j := 1) (by decide +kernel) rfl rfl ?_
  refine ab_iload_n (pc := 3) (n := 2) (i := 2) (j := 2) (by decide +kernel) rfl rfl ?_
  refine ab_callVi (As := [.int x1, .int x2]) (st := [.ref x0]) (pc := 4) lk_X12_265_12 rfl rfl rfl (by decide) rfl (Nat.le_of_ble_eq_true rfl) (by decide +kernel) (fun y9 e9 => okX12_two hl e9) (fun v1 ev1 => ?_)
  refine ab_put (pc := 7) fl_X12_50_12 rfl (fun _ => rfl) (fun _ => rfl) (by decide +kernel) (fun h2 eh2 => ?_)
  refine ab_aload_n (pc := 10) (n := 0) (i := 0) (j := 0) (by decide +kernel) rfl rfl ?_
  refine ab_getI (pc := 11) fl_X12_50_12 (by decide +kernel) (fun v3 ev3 => ?_)
  refine ab_if_le (off := 7) (pc := 14) (tgt := 21) (by decide +kernel) (by decide) (fun g4 => ?_) (fun g4 => ?_)
  · refine ab_aload_n (pc := 21) (n := 0) (i := 0) (j := 0) (by decide +kernel) rfl rfl ?_
    refine ab_iload_n (pc := 22) (n := 1) (i := 1) (j := 1) (by decide +kernel) rfl rfl ?_
    refine ab_iload_n (pc := 23) (n := 2) (i := 2) (j := 2) (by decide +kernel) rfl rfl ?_
    refine ab_callVi (As := [.int x1, .int x2]) (st := []) (pc := 24) lk_X12_268_12 rfl rfl rfl (by decide) rfl (Nat.le_of_ble_eq_true rfl) (by decide +kernel) (fun y9 e9 => okX12_thought hl e9) (fun v5 ev5 => ?_)
    exact ab_iret (pc := 27) (by decide +kernel) rfl rfl (Nat.le_of_ble_eq_true rfl) (Nat.le_of_ble_eq_true rfl)
  · refine ab_iconst (pc := 17) (n := 0) (v := nI 0) (by decide +kernel) rfl ?_
    refine ab_goto (pc := 18) (off := 9) (tgt := 27) (by decide +kernel) (by decide) ?_
    exact ab_iret (pc := 27) (by decide +kernel) rfl rfl (Nat.le_of_ble_eq_true rfl) (Nat.le_of_ble_eq_true rfl)
set_option maxRecDepth 100000 in
set_option maxHeartbeats 4000000 in
theorem okX12_thinks {l : Launch} (hl : l.stackTraces = false) {x0 : Nat} {x1 : Int32} {x2 : Int32} {h : ab_H} {y : (Int32 × ab_H)} (e : fX12_thinks x0 x1 x2 h = some y) : ab_Met l mX12_thinks [.ref x0, .int x1, .int x2] h (.inl (some (.int y.1)), y.2) := ab_ofS (io := (fun y : (Int32 × ab_H) => ((.inl (some (.int y.1)), y.2) : ab_R × ab_H))) (x := y) hl (by decide) rfl (Nat.le_of_ble_eq_true rfl) (wX12_thinks hl x0 x1 x2 h) e
def mX12_remembers : ab_M := (yX12_remembers, cX12_remembers, 2, none, { frames := 0, cells := 0, slots := 0, locals := 0 })
theorem iX12_remembers : ab_MI mX12_remembers 0 := ⟨kw_329fdc5faa, kw_30b3f7d7c6, by decide +kernel⟩
def fX12_remembers_11 (F : Nat) (x0 : Nat) (k40 : ab_H → Option ab_H) : Nat → Int32 → ab_H → Option ab_H
  | 0, _, _ => none
  | n + 1, x1, h => (if x1 < (nI 6424) then ab_bd (ab_fr h x0 12 5) fun v4 => ab_bd (ab_fr h x0 12 5) fun v5 => ab_bd (ab_ia 0 h v5 (x1 + (nI 584))) fun v6 => ab_bd (ab_iw 0 h v4 x1 v6) fun h7 => fX12_remembers_11 F x0 k40 n (x1 + nI 1) h7 else k40 h)
def fX12_remembers_52 (F : Nat) (x0 : Nat) : Nat → Int32 → ab_H → Option ab_H
  | 0, _, _ => none
  | n + 1, x1, h => (if x1 < (nI 584) then ab_bd (ab_fr h x0 12 5) fun v12 => ab_bd (ab_fi h x0 12 6) fun v13 => ab_bd (ab_fr h x0 12 1) fun v14 => ab_bd (ab_ia 0 h v14 x1) fun v15 => ab_bd (ab_iw 0 h v12 (((nI 584) * v13) + x1) v15) fun h16 => fX12_remembers_52 F x0 n (x1 + nI 1) h16 else ab_bd (ab_fi h x0 12 6) fun v17 => ab_bd (ab_fw h x0 12 6 (.int (v17 + (nI 1)))) fun h18 => some h18)
def fX12_remembers (F : Nat) (x0 : Nat) (h : ab_H) : Option ab_H := ab_bd (ab_fi h x0 12 6) fun v1 => (if v1 = (nI 12) then fX12_remembers_11 F x0 (fun (h8 : ab_H) => ab_bd (ab_fi h8 x0 12 6) fun v9 => ab_bd (ab_fw h8 x0 12 6 (.int (v9 - (nI 1)))) fun h10 => fX12_remembers_52 F x0 F (nI 0) h10) F (nI 0) h else fX12_remembers_52 F x0 F (nI 0) h)
set_option maxRecDepth 100000 in
set_option maxHeartbeats 4000000 in
theorem lX12_remembers_11 {l : Launch} (hl : l.stackTraces = false) (F : Nat) (x0 : Nat) {k40 : ab_H → Option ab_H} (hk40 : ∀ (h : ab_H), ab_S l mX12_remembers (fun y : ab_H => ((.inl none, y) : ab_R × ab_H)) 0 0 (k40 h) 40 [(0, .ref x0)] [] h) : ∀ (n : Nat) (x1 : Int32) (h : ab_H), ab_S l mX12_remembers (fun y : ab_H => ((.inl none, y) : ab_R × ab_H)) 0 0 (fX12_remembers_11 F x0 k40 n x1 h) 11 [(0, .ref x0), (1, .int x1)] [] h := by
  intro n
  induction n with
  | zero =>
    intro x1 h
    exact ab_none
  | succ n ih =>
    intro x1 h
    rw [fX12_remembers_11]
    refine ab_iload_n (pc := 11) (n := 1) (i := 1) (j := 1) (by decide +kernel) rfl rfl ?_
    refine ab_sipush (pc := 12) (n := 6424) (v := nI 6424) (by decide +kernel) (by decide) ?_
    refine ab_icmp_ge (off := 25) (pc := 15) (tgt := 40) (by decide +kernel) (by decide) (fun g3 => ?_) (fun g3 => ?_)
    · refine ab_aload_n (pc := 18) (n := 0) (i := 0) (j := 0) (by decide +kernel) rfl rfl ?_
      refine ab_getR (pc := 19) fl_X12_19_12 (by decide +kernel) (fun v4 ev4 => ?_)
      refine ab_iload_n (pc := 22) (n := 1) (i := 1) (j := 1) (by decide +kernel) rfl rfl ?_
      refine ab_aload_n (pc := 23) (n := 0) (i := 0) (j := 0) (by decide +kernel) rfl rfl ?_
      refine ab_getR (pc := 24) fl_X12_19_12 (by decide +kernel) (fun v5 ev5 => ?_)
      refine ab_iload_n (pc := 27) (n := 1) (i := 1) (j := 1) (by decide +kernel) rfl rfl ?_
      refine ab_sipush (pc := 28) (n := 584) (v := nI 584) (by decide +kernel) (by decide) ?_
      refine ab_iadd (pc := 31) (by decide +kernel) ?_
      refine ab_iald (pc := 32) (by decide +kernel) (fun v6 ev6 => ?_)
      refine ab_iast (pc := 33) (by decide +kernel) (fun h7 eh7 => ?_)
      refine ab_iinc (pc := 34) (i := 1) (n := 1) (j := 1) (d := nI 1) (lv' := [(0, .ref x0), (1, .int (x1 + nI 1))]) (by decide +kernel) rfl rfl (Nat.le_of_ble_eq_true rfl) rfl rfl ?_
      refine ab_goto (pc := 37) (off := (-26)) (tgt := 11) (by decide +kernel) (by decide) ?_
      exact ih (x1 + nI 1) h7
    · refine ab_few [0] (lv' := [(0, .ref x0)]) rfl ?_
      exact hk40 h
set_option maxRecDepth 100000 in
set_option maxHeartbeats 4000000 in
theorem lX12_remembers_52 {l : Launch} (hl : l.stackTraces = false) (F : Nat) (x0 : Nat) : ∀ (n : Nat) (x1 : Int32) (h : ab_H), ab_S l mX12_remembers (fun y : ab_H => ((.inl none, y) : ab_R × ab_H)) 0 0 (fX12_remembers_52 F x0 n x1 h) 52 [(0, .ref x0), (1, .int x1)] [] h := by
  intro n
  induction n with
  | zero =>
    intro x1 h
    exact ab_none
  | succ n ih =>
    intro x1 h
    rw [fX12_remembers_52]
    refine ab_iload_n (pc := 52) (n := 1) (i := 1) (j := 1) (by decide +kernel) rfl rfl ?_
    refine ab_sipush (pc := 53) (n := 584) (v := nI 584) (by decide +kernel) (by decide) ?_
    refine ab_icmp_ge (off := 30) (pc := 56) (tgt := 86) (by decide +kernel) (by decide) (fun g11 => ?_) (fun g11 => ?_)
    · refine ab_aload_n (pc := 59) (n := 0) (i := 0) (j := 0) (by decide +kernel) rfl rfl ?_
      refine ab_getR (pc := 60) fl_X12_19_12 (by decide +kernel) (fun v12 ev12 => ?_)
      refine ab_sipush (pc := 63) (n := 584) (v := nI 584) (by decide +kernel) (by decide) ?_
      refine ab_aload_n (pc := 66) (n := 0) (i := 0) (j := 0) (by decide +kernel) rfl rfl ?_
      refine ab_getI (pc := 67) fl_X12_182_12 (by decide +kernel) (fun v13 ev13 => ?_)
      refine ab_imul (pc := 70) (by decide +kernel) ?_
      refine ab_iload_n (pc := 71) (n := 1) (i := 1) (j := 1) (by decide +kernel) rfl rfl ?_
      refine ab_iadd (pc := 72) (by decide +kernel) ?_
      refine ab_aload_n (pc := 73) (n := 0) (i := 0) (j := 0) (by decide +kernel) rfl rfl ?_
      refine ab_getR (pc := 74) fl_X12_7_12 (by decide +kernel) (fun v14 ev14 => ?_)
      refine ab_iload_n (pc := 77) (n := 1) (i := 1) (j := 1) (by decide +kernel) rfl rfl ?_
      refine ab_iald (pc := 78) (by decide +kernel) (fun v15 ev15 => ?_)
      refine ab_iast (pc := 79) (by decide +kernel) (fun h16 eh16 => ?_)
      refine ab_iinc (pc := 80) (i := 1) (n := 1) (j := 1) (d := nI 1) (lv' := [(0, .ref x0), (1, .int (x1 + nI 1))]) (by decide +kernel) rfl rfl (Nat.le_of_ble_eq_true rfl) rfl rfl ?_
      refine ab_goto (pc := 83) (off := (-31)) (tgt := 52) (by decide +kernel) (by decide) ?_
      exact ih (x1 + nI 1) h16
    · refine ab_aload_n (pc := 86) (n := 0) (i := 0) (j := 0) (by decide +kernel) rfl rfl ?_
      refine ab_dup (pc := 87) (by decide +kernel) rfl ?_
      refine ab_getI (pc := 88) fl_X12_182_12 (by decide +kernel) (fun v17 ev17 => ?_)
      refine ab_iconst (pc := 91) (n := 1) (v := nI 1) (by decide +kernel) rfl ?_
      refine ab_iadd (pc := 92) (by decide +kernel) ?_
      refine ab_put (pc := 93) fl_X12_182_12 rfl (fun _ => rfl) (fun _ => rfl) (by decide +kernel) (fun h18 eh18 => ?_)
      exact ab_vret (pc := 96) (by decide +kernel) rfl rfl (Nat.le_of_ble_eq_true rfl) (Nat.le_of_ble_eq_true rfl)
set_option maxRecDepth 100000 in
set_option maxHeartbeats 4000000 in
theorem wX12_remembers {l : Launch} (hl : l.stackTraces = false) (F : Nat) (x0 : Nat) (h : ab_H) : ab_S l mX12_remembers (fun y : ab_H => ((.inl none, y) : ab_R × ab_H)) 0 0 (fX12_remembers F x0 h) 0 [(0, .ref x0)] [] h := by
  unfold fX12_remembers
  refine ab_aload_n (pc := 0) (n := 0) (i := 0) (j := 0) (by decide +kernel) rfl rfl ?_
  refine ab_getI (pc := 1) fl_X12_182_12 (by decide +kernel) (fun v1 ev1 => ?_)
  refine ab_bipush (pc := 4) (n := 12) (v := nI 12) (by decide +kernel) (by decide) ?_
  refine ab_icmp_ne (off := 44) (pc := 6) (tgt := 50) (by decide +kernel) (by decide) (fun g2 => ?_) (fun g2 => ?_)
  · refine ab_iconst (pc := 9) (n := 0) (v := nI 0) (by decide +kernel) rfl ?_
    refine ab_istore_n (pc := 10) (n := 1) (i := 1) (lv' := [(0, .ref x0), (1, .int (nI 0))]) (by decide +kernel) rfl (Nat.le_of_ble_eq_true rfl) rfl rfl ?_
    refine lX12_remembers_11 hl F x0 ?_ F (nI 0) h
    intro h8
    refine ab_aload_n (pc := 40) (n := 0) (i := 0) (j := 0) (by decide +kernel) rfl rfl ?_
    refine ab_dup (pc := 41) (by decide +kernel) rfl ?_
    refine ab_getI (pc := 42) fl_X12_182_12 (by decide +kernel) (fun v9 ev9 => ?_)
    refine ab_iconst (pc := 45) (n := 1) (v := nI 1) (by decide +kernel) rfl ?_
    refine ab_isub (pc := 46) (by decide +kernel) ?_
    refine ab_put (pc := 47) fl_X12_182_12 rfl (fun _ => rfl) (fun _ => rfl) (by decide +kernel) (fun h10 eh10 => ?_)
    refine ab_iconst (pc := 50) (n := 0) (v := nI 0) (by decide +kernel) rfl ?_
    refine ab_istore_n (pc := 51) (n := 1) (i := 1) (lv' := [(0, .ref x0), (1, .int (nI 0))]) (by decide +kernel) rfl (Nat.le_of_ble_eq_true rfl) rfl rfl ?_
    refine lX12_remembers_52 hl F x0 F (nI 0) h10
  · refine ab_iconst (pc := 50) (n := 0) (v := nI 0) (by decide +kernel) rfl ?_
    refine ab_istore_n (pc := 51) (n := 1) (i := 1) (lv' := [(0, .ref x0), (1, .int (nI 0))]) (by decide +kernel) rfl (Nat.le_of_ble_eq_true rfl) rfl rfl ?_
    refine lX12_remembers_52 hl F x0 F (nI 0) h
set_option maxRecDepth 100000 in
set_option maxHeartbeats 4000000 in
theorem okX12_remembers {l : Launch} (hl : l.stackTraces = false) {F : Nat} {x0 : Nat} {h : ab_H} {y : ab_H} (e : fX12_remembers F x0 h = some y) : ab_Met l mX12_remembers [.ref x0] h (.inl none, y) := ab_ofS (io := (fun y : ab_H => ((.inl none, y) : ab_R × ab_H))) (x := y) hl (by decide) rfl (Nat.le_of_ble_eq_true rfl) (wX12_remembers hl F x0 h) e
def mX12_draw : ab_M := (yX12_draw, cX12_draw, 2, (some .int), { frames := 0, cells := 0, slots := 0, locals := 0 })
theorem iX12_draw : ab_MI mX12_draw 1 := ⟨kw_566098c68d, kw_30b3f7d7c6, by decide +kernel⟩
def fX12_draw (x0 : Nat) (x1 : Int32) (h : ab_H) : Option (Int32 × ab_H) := ab_bd (ab_fr h x0 12 1) fun v1 => ab_bd (ab_fr h x0 12 1) fun v2 => ab_bd (ab_ia 0 h v2 (nI 9)) fun v3 => ab_bd (ab_iw 0 h v1 (nI 9) (((nI 1103515245) * v3) + (nI 12345))) fun h4 => ab_bd (ab_fr h4 x0 12 1) fun v5 => ab_bd (ab_ia 0 h4 v5 (nI 9)) fun v6 => ab_ck (¬ x1 = 0) (some (ab_rm ((ab_us v6 (nI 16)) &&& (nI 32767)) x1, h4))
set_option maxRecDepth 100000 in
set_option maxHeartbeats 4000000 in
theorem wX12_draw {l : Launch} (hl : l.stackTraces = false) (x0 : Nat) (x1 : Int32) (h : ab_H) : ab_S l mX12_draw (fun y : (Int32 × ab_H) => ((.inl (some (.int y.1)), y.2) : ab_R × ab_H)) 0 0 (fX12_draw x0 x1 h) 0 [(0, .ref x0), (1, .int x1)] [] h := by
  unfold fX12_draw
  refine ab_aload_n (pc := 0) (n := 0) (i := 0) (j := 0) (by decide +kernel) rfl rfl ?_
  refine ab_getR (pc := 1) fl_X12_7_12 (by decide +kernel) (fun v1 ev1 => ?_)
  refine ab_bipush (pc := 4) (n := 9) (v := nI 9) (by decide +kernel) (by decide) ?_
  refine ab_ldcw (pc := 6) (v := nI 1103515245) (by decide +kernel) kw_795a21753c ?_
  refine ab_aload_n (pc := 9) (n := 0) (i := 0) (j := 0) (by decide +kernel) rfl rfl ?_
  refine ab_getR (pc := 10) fl_X12_7_12 (by decide +kernel) (fun v2 ev2 => ?_)
  refine ab_bipush (pc := 13) (n := 9) (v := nI 9) (by decide +kernel) (by decide) ?_
  refine ab_iald (pc := 15) (by decide +kernel) (fun v3 ev3 => ?_)
  refine ab_imul (pc := 16) (by decide +kernel) ?_
  refine ab_sipush (pc := 17) (n := 12345) (v := nI 12345) (by decide +kernel) (by decide) ?_
  refine ab_iadd (pc := 20) (by decide +kernel) ?_
  refine ab_iast (pc := 21) (by decide +kernel) (fun h4 eh4 => ?_)
  refine ab_aload_n (pc := 22) (n := 0) (i := 0) (j := 0) (by decide +kernel) rfl rfl ?_
  refine ab_getR (pc := 23) fl_X12_7_12 (by decide +kernel) (fun v5 ev5 => ?_)
  refine ab_bipush (pc := 26) (n := 9) (v := nI 9) (by decide +kernel) (by decide) ?_
  refine ab_iald (pc := 28) (by decide +kernel) (fun v6 ev6 => ?_)
  refine ab_bipush (pc := 29) (n := 16) (v := nI 16) (by decide +kernel) (by decide) ?_
  refine ab_iushr (pc := 31) (by decide +kernel) ?_
  refine ab_sipush (pc := 32) (n := 32767) (v := nI 32767) (by decide +kernel) (by decide) ?_
  refine ab_iand (pc := 35) (by decide +kernel) ?_
  refine ab_iload_n (pc := 36) (n := 1) (i := 1) (j := 1) (by decide +kernel) rfl rfl ?_
  refine ab_irem (pc := 37) (by decide +kernel) (fun g7 => ?_)
  exact ab_iret (pc := 38) (by decide +kernel) rfl rfl (Nat.le_of_ble_eq_true rfl) (Nat.le_of_ble_eq_true rfl)
set_option maxRecDepth 100000 in
set_option maxHeartbeats 4000000 in
theorem okX12_draw {l : Launch} (hl : l.stackTraces = false) {x0 : Nat} {x1 : Int32} {h : ab_H} {y : (Int32 × ab_H)} (e : fX12_draw x0 x1 h = some y) : ab_Met l mX12_draw [.ref x0, .int x1] h (.inl (some (.int y.1)), y.2) := ab_ofS (io := (fun y : (Int32 × ab_H) => ((.inl (some (.int y.1)), y.2) : ab_R × ab_H))) (x := y) hl (by decide) rfl (Nat.le_of_ble_eq_true rfl) (wX12_draw hl x0 x1 h) e
def mX12_writes : ab_M := (yX12_writes, cX12_writes, 6, none, { frames := 1, cells := 0, slots := 0, locals := 21 })
theorem iX12_writes : ab_MI mX12_writes 4 := ⟨kw_a937d4e968, kw_30b3f7d7c6, by decide +kernel⟩
theorem lk_X12_272 : ab_LS RX12 272 mX12_lesser 2 := ⟨iX12_lesser, kw_49b0aad20e, kw_eb9835ca42⟩
def fX12_writes_5 (x0 : Nat) (x1 : Int32) (x2 : Int32) (x3 : Int32) (x4 : Int32) (k41 : ab_H → Option ab_H) : Nat → Int32 → ab_H → Option ab_H
  | 0, _, _ => none
  | n + 1, x5, h => (if x5 < (nI 5) then k41 h else ab_bd (ab_fr h x0 12 1) fun v2 => ab_bd (ab_fr h x0 12 1) fun v3 => ab_bd (ab_ia 0 h v3 (((nI 284) + x5) - (nI 5))) fun v4 => ab_bd (ab_iw 0 h v2 ((nI 284) + x5) v4) fun h5 => fX12_writes_5 x0 x1 x2 x3 x4 k41 n (x5 + (-1 : Int32)) h5)
def fX12_writes (F : Nat) (x0 : Nat) (x1 : Int32) (x2 : Int32) (x3 : Int32) (x4 : Int32) (h : ab_H) : Option ab_H := fX12_writes_5 x0 x1 x2 x3 x4 (fun (h6 : ab_H) => ab_bd (ab_fr h6 x0 12 1) fun v7 => ab_bd (ab_fr h6 x0 12 1) fun v8 => ab_bd (ab_ia 0 h6 v8 (nI 5)) fun v9 => ab_bd (ab_iw 0 h6 v7 (nI 284) v9) fun h10 => ab_bd (ab_fr h10 x0 12 1) fun v11 => ab_bd (ab_iw 0 h10 v11 (nI 285) x1) fun h12 => ab_bd (ab_fr h12 x0 12 1) fun v13 => ab_bd (ab_iw 0 h12 v13 (nI 286) x2) fun h14 => ab_bd (ab_fr h14 x0 12 1) fun v15 => ab_bd (ab_iw 0 h14 v15 (nI 287) x3) fun h16 => ab_bd (ab_fr h16 x0 12 1) fun v17 => ab_bd (ab_iw 0 h16 v17 (nI 288) x4) fun h18 => ab_bd (ab_fr h18 x0 12 1) fun v19 => ab_bd (ab_fr h18 x0 12 1) fun v20 => ab_bd (ab_ia 0 h18 v20 (nI 8)) fun v21 => ab_bd (fX12_lesser (nI 60) (v21 + (nI 1)) h18) fun v22 => ab_bd (ab_iw 0 h18 v19 (nI 8) v22) fun h23 => some h23) F (nI 299) h
set_option maxRecDepth 100000 in
set_option maxHeartbeats 4000000 in
theorem lX12_writes_5 {l : Launch} (hl : l.stackTraces = false) (x0 : Nat) (x1 : Int32) (x2 : Int32) (x3 : Int32) (x4 : Int32) {k41 : ab_H → Option ab_H} (hk41 : ∀ (h : ab_H), ab_S l mX12_writes (fun y : ab_H => ((.inl none, y) : ab_R × ab_H)) 0 0 (k41 h) 41 [(0, .ref x0), (1, .int x1), (2, .int x2), (3, .int x3), (4, .int x4)] [] h) : ∀ (n : Nat) (x5 : Int32) (h : ab_H), ab_S l mX12_writes (fun y : ab_H => ((.inl none, y) : ab_R × ab_H)) 0 0 (fX12_writes_5 x0 x1 x2 x3 x4 k41 n x5 h) 5 [(0, .ref x0), (1, .int x1), (2, .int x2), (3, .int x3), (4, .int x4), (5, .int x5)] [] h := by
  intro n
  induction n with
  | zero =>
    intro x5 h
    exact ab_none
  | succ n ih =>
    intro x5 h
    rw [fX12_writes_5]
    refine ab_iload (pc := 5) (i := 5) (j := 5) (by decide +kernel) rfl ?_
    refine ab_iconst (pc := 7) (n := 5) (v := nI 5) (by decide +kernel) rfl ?_
    refine ab_icmp_lt (off := 33) (pc := 8) (tgt := 41) (by decide +kernel) (by decide) (fun g1 => ?_) (fun g1 => ?_)
    · refine ab_few [0, 1, 2, 3, 4] (lv' := [(0, .ref x0), (1, .int x1), (2, .int x2), (3, .int x3), (4, .int x4)]) rfl ?_
      exact hk41 h
    · refine ab_aload_n (pc := 11) (n := 0) (i := 0) (j := 0) (by decide +kernel) rfl rfl ?_
      refine ab_getR (pc := 12) fl_X12_7_12 (by decide +kernel) (fun v2 ev2 => ?_)
      refine ab_sipush (pc := 15) (n := 284) (v := nI 284) (by decide +kernel) (by decide) ?_
      refine ab_iload (pc := 18) (i := 5) (j := 5) (by decide +kernel) rfl ?_
      refine ab_iadd (pc := 20) (by decide +kernel) ?_
      refine ab_aload_n (pc := 21) (n := 0) (i := 0) (j := 0) (by decide +kernel) rfl rfl ?_
      refine ab_getR (pc := 22) fl_X12_7_12 (by decide +kernel) (fun v3 ev3 => ?_)
      refine ab_sipush (pc := 25) (n := 284) (v := nI 284) (by decide +kernel) (by decide) ?_
      refine ab_iload (pc := 28) (i := 5) (j := 5) (by decide +kernel) rfl ?_
      refine ab_iadd (pc := 30) (by decide +kernel) ?_
      refine ab_iconst (pc := 31) (n := 5) (v := nI 5) (by decide +kernel) rfl ?_
      refine ab_isub (pc := 32) (by decide +kernel) ?_
      refine ab_iald (pc := 33) (by decide +kernel) (fun v4 ev4 => ?_)
      refine ab_iast (pc := 34) (by decide +kernel) (fun h5 eh5 => ?_)
      refine ab_iinc (pc := 35) (i := 5) (n := -1) (j := 5) (d := (-1 : Int32)) (lv' := [(0, .ref x0), (1, .int x1), (2, .int x2), (3, .int x3), (4, .int x4), (5, .int (x5 + (-1 : Int32)))]) (by decide +kernel) rfl rfl (Nat.le_of_ble_eq_true rfl) rfl rfl ?_
      refine ab_goto (pc := 38) (off := (-33)) (tgt := 5) (by decide +kernel) (by decide) ?_
      exact ih (x5 + (-1 : Int32)) h5
set_option maxRecDepth 100000 in
set_option maxHeartbeats 4000000 in
theorem wX12_writes {l : Launch} (hl : l.stackTraces = false) (F : Nat) (x0 : Nat) (x1 : Int32) (x2 : Int32) (x3 : Int32) (x4 : Int32) (h : ab_H) : ab_S l mX12_writes (fun y : ab_H => ((.inl none, y) : ab_R × ab_H)) 0 0 (fX12_writes F x0 x1 x2 x3 x4 h) 0 [(0, .ref x0), (1, .int x1), (2, .int x2), (3, .int x3), (4, .int x4)] [] h := by
  unfold fX12_writes
  refine ab_sipush (pc := 0) (n := 299) (v := nI 299) (by decide +kernel) (by decide) ?_
  refine ab_istore (pc := 3) (i := 5) (lv' := [(0, .ref x0), (1, .int x1), (2, .int x2), (3, .int x3), (4, .int x4), (5, .int (nI 299))]) (by decide +kernel) (Nat.le_of_ble_eq_true rfl) rfl rfl ?_
  refine lX12_writes_5 hl x0 x1 x2 x3 x4 ?_ F (nI 299) h
  intro h6
  refine ab_aload_n (pc := 41) (n := 0) (i := 0) (j := 0) (by decide +kernel) rfl rfl ?_
  refine ab_getR (pc := 42) fl_X12_7_12 (by decide +kernel) (fun v7 ev7 => ?_)
  refine ab_sipush (pc := 45) (n := 284) (v := nI 284) (by decide +kernel) (by decide) ?_
  refine ab_aload_n (pc := 48) (n := 0) (i := 0) (j := 0) (by decide +kernel) rfl rfl ?_
  refine ab_getR (pc := 49) fl_X12_7_12 (by decide +kernel) (fun v8 ev8 => ?_)
  refine ab_iconst (pc := 52) (n := 5) (v := nI 5) (by decide +kernel) rfl ?_
  refine ab_iald (pc := 53) (by decide +kernel) (fun v9 ev9 => ?_)
  refine ab_iast (pc := 54) (by decide +kernel) (fun h10 eh10 => ?_)
  refine ab_aload_n (pc := 55) (n := 0) (i := 0) (j := 0) (by decide +kernel) rfl rfl ?_
  refine ab_getR (pc := 56) fl_X12_7_12 (by decide +kernel) (fun v11 ev11 => ?_)
  refine ab_sipush (pc := 59) (n := 285) (v := nI 285) (by decide +kernel) (by decide) ?_
  refine ab_iload_n (pc := 62) (n := 1) (i := 1) (j := 1) (by decide +kernel) rfl rfl ?_
  refine ab_iast (pc := 63) (by decide +kernel) (fun h12 eh12 => ?_)
  refine ab_aload_n (pc := 64) (n := 0) (i := 0) (j := 0) (by decide +kernel) rfl rfl ?_
  refine ab_getR (pc := 65) fl_X12_7_12 (by decide +kernel) (fun v13 ev13 => ?_)
  refine ab_sipush (pc := 68) (n := 286) (v := nI 286) (by decide +kernel) (by decide) ?_
  refine ab_iload_n (pc := 71) (n := 2) (i := 2) (j := 2) (by decide +kernel) rfl rfl ?_
  refine ab_iast (pc := 72) (by decide +kernel) (fun h14 eh14 => ?_)
  refine ab_aload_n (pc := 73) (n := 0) (i := 0) (j := 0) (by decide +kernel) rfl rfl ?_
  refine ab_getR (pc := 74) fl_X12_7_12 (by decide +kernel) (fun v15 ev15 => ?_)
  refine ab_sipush (pc := 77) (n := 287) (v := nI 287) (by decide +kernel) (by decide) ?_
  refine ab_iload_n (pc := 80) (n := 3) (i := 3) (j := 3) (by decide +kernel) rfl rfl ?_
  refine ab_iast (pc := 81) (by decide +kernel) (fun h16 eh16 => ?_)
  refine ab_aload_n (pc := 82) (n := 0) (i := 0) (j := 0) (by decide +kernel) rfl rfl ?_
  refine ab_getR (pc := 83) fl_X12_7_12 (by decide +kernel) (fun v17 ev17 => ?_)
  refine ab_sipush (pc := 86) (n := 288) (v := nI 288) (by decide +kernel) (by decide) ?_
  refine ab_iload (pc := 89) (i := 4) (j := 4) (by decide +kernel) rfl ?_
  refine ab_iast (pc := 91) (by decide +kernel) (fun h18 eh18 => ?_)
  refine ab_aload_n (pc := 92) (n := 0) (i := 0) (j := 0) (by decide +kernel) rfl rfl ?_
  refine ab_getR (pc := 93) fl_X12_7_12 (by decide +kernel) (fun v19 ev19 => ?_)
  refine ab_bipush (pc := 96) (n := 8) (v := nI 8) (by decide +kernel) (by decide) ?_
  refine ab_bipush (pc := 98) (n := 60) (v := nI 60) (by decide +kernel) (by decide) ?_
  refine ab_aload_n (pc := 100) (n := 0) (i := 0) (j := 0) (by decide +kernel) rfl rfl ?_
  refine ab_getR (pc := 101) fl_X12_7_12 (by decide +kernel) (fun v20 ev20 => ?_)
  refine ab_bipush (pc := 104) (n := 8) (v := nI 8) (by decide +kernel) (by decide) ?_
  refine ab_iald (pc := 106) (by decide +kernel) (fun v21 ev21 => ?_)
  refine ab_iconst (pc := 107) (n := 1) (v := nI 1) (by decide +kernel) rfl ?_
  refine ab_iadd (pc := 108) (by decide +kernel) ?_
  refine ab_callSi (As := [.int (nI 60), .int (v21 + (nI 1))]) (st := [.int (nI 8), .ref v19]) (pc := 109) lk_X12_272 rfl rfl rfl (by decide) rfl (Nat.le_of_ble_eq_true rfl) (by decide +kernel) (fun y9 e9 => okX12_lesser hl e9) (fun v22 ev22 => ?_)
  refine ab_iast (pc := 112) (by decide +kernel) (fun h23 eh23 => ?_)
  exact ab_vret (pc := 113) (by decide +kernel) rfl rfl (Nat.le_of_ble_eq_true rfl) (Nat.le_of_ble_eq_true rfl)
set_option maxRecDepth 100000 in
set_option maxHeartbeats 4000000 in
theorem okX12_writes {l : Launch} (hl : l.stackTraces = false) {F : Nat} {x0 : Nat} {x1 : Int32} {x2 : Int32} {x3 : Int32} {x4 : Int32} {h : ab_H} {y : ab_H} (e : fX12_writes F x0 x1 x2 x3 x4 h = some y) : ab_Met l mX12_writes [.ref x0, .int x1, .int x2, .int x3, .int x4] h (.inl none, y) := ab_ofS (io := (fun y : ab_H => ((.inl none, y) : ab_R × ab_H))) (x := y) hl (by decide) rfl (Nat.le_of_ble_eq_true rfl) (wX12_writes hl F x0 x1 x2 x3 x4 h) e
def mX12_handsIn : ab_M := (yX12_handsIn, cX12_handsIn, 4, (some .int), { frames := 2, cells := 0, slots := 0, locals := 46 })
theorem iX12_handsIn : ab_MI mX12_handsIn 2 := ⟨kw_359480fed8, kw_30b3f7d7c6, by decide +kernel⟩
theorem lk_X12_275_12 : ab_LV RX12 275 12 mX12_writes 4 := ⟨RX12, rfl, iX12_writes, kw_2e48b58cfc, kw_d5f9c9686e, kw_d64ba3eb8d⟩
def fX12_handsIn (F : Nat) (x0 : Nat) (x1 : Int32) (x2 : Int32) (h : ab_H) : Option (Int32 × ab_H) := ab_ck (ab_io h x0 12 = true) (ab_bd (fX12_of x0 x1 (nI 2) h) fun v1 => ab_bd (ab_fr h x0 12 1) fun v2 => ab_bd (ab_iw 0 h v2 ((nI 272) + x2) v1) fun h3 => ab_ck (ab_io h3 x0 12 = true) (ab_bd (fX12_has x0 x1 (nI 2) (-1 : Int32) h3) fun h4 => ab_ck (ab_io h4 x0 12 = true) (ab_bd (fX12_has x0 x1 (nI 3) x2 h4) fun h5 => ab_ck (ab_io h5 x0 12 = true) (ab_bd (fX12_writes F x0 x1 x2 v1 (nI 0) h5) fun h6 => some (v1, h6)))))
set_option maxRecDepth 100000 in
set_option maxHeartbeats 4000000 in
theorem wX12_handsIn {l : Launch} (hl : l.stackTraces = false) (F : Nat) (x0 : Nat) (x1 : Int32) (x2 : Int32) (h : ab_H) : ab_S l mX12_handsIn (fun y : (Int32 × ab_H) => ((.inl (some (.int y.1)), y.2) : ab_R × ab_H)) 0 0 (fX12_handsIn F x0 x1 x2 h) 0 [(0, .ref x0), (1, .int x1), (2, .int x2)] [] h := by
  unfold fX12_handsIn
  refine ab_aload_n (pc := 0) (n := 0) (i := 0) (j := 0) (by decide +kernel) rfl rfl ?_
  refine ab_iload_n (pc := 1) (n := 1) (i := 1) (j := 1) (by decide +kernel) rfl rfl ?_
  refine ab_iconst (pc := 2) (n := 2) (v := nI 2) (by decide +kernel) rfl ?_
  refine ab_callVi (As := [.int x1, .int (nI 2)]) (st := []) (pc := 3) lk_X12_57_12 rfl rfl rfl (by decide) rfl (Nat.le_of_ble_eq_true rfl) (by decide +kernel) (fun y9 e9 => okX12_of hl e9) (fun v1 ev1 => ?_)
  refine ab_istore_n (pc := 6) (n := 3) (i := 3) (lv' := [(0, .ref x0), (1, .int x1), (2, .int x2), (3, .int v1)]) (by decide +kernel) rfl (Nat.le_of_ble_eq_true rfl) rfl rfl ?_
  refine ab_aload_n (pc := 7) (n := 0) (i := 0) (j := 0) (by decide +kernel) rfl rfl ?_
  refine ab_getR (pc := 8) fl_X12_7_12 (by decide +kernel) (fun v2 ev2 => ?_)
  refine ab_sipush (pc := 11) (n := 272) (v := nI 272) (by decide +kernel) (by decide) ?_
  refine ab_iload_n (pc := 14) (n := 2) (i := 2) (j := 2) (by decide +kernel) rfl rfl ?_
  refine ab_iadd (pc := 15) (by decide +kernel) ?_
  refine ab_iload_n (pc := 16) (n := 3) (i := 3) (j := 3) (by decide +kernel) rfl rfl ?_
  refine ab_iast (pc := 17) (by decide +kernel) (fun h3 eh3 => ?_)
  refine ab_aload_n (pc := 18) (n := 0) (i := 0) (j := 0) (by decide +kernel) rfl rfl ?_
  refine ab_iload_n (pc := 19) (n := 1) (i := 1) (j := 1) (by decide +kernel) rfl rfl ?_
  refine ab_iconst (pc := 20) (n := 2) (v := nI 2) (by decide +kernel) rfl ?_
  refine ab_iconst (pc := 21) (n := -1) (v := (-1 : Int32)) (by decide +kernel) rfl ?_
  refine ab_callVw (As := [.int x1, .int (nI 2), .int (-1 : Int32)]) (st := []) (pc := 22) lk_X12_100_12 rfl rfl rfl (by decide) rfl (Nat.le_of_ble_eq_true rfl) (by decide +kernel) (fun y9 e9 => okX12_has hl e9) (fun h4 eh4 => ?_)
  refine ab_aload_n (pc := 25) (n := 0) (i := 0) (j := 0) (by decide +kernel) rfl rfl ?_
  refine ab_iload_n (pc := 26) (n := 1) (i := 1) (j := 1) (by decide +kernel) rfl rfl ?_
  refine ab_iconst (pc := 27) (n := 3) (v := nI 3) (by decide +kernel) rfl ?_
  refine ab_iload_n (pc := 28) (n := 2) (i := 2) (j := 2) (by decide +kernel) rfl rfl ?_
  refine ab_callVw (As := [.int x1, .int (nI 3), .int x2]) (st := []) (pc := 29) lk_X12_100_12 rfl rfl rfl (by decide) rfl (Nat.le_of_ble_eq_true rfl) (by decide +kernel) (fun y9 e9 => okX12_has hl e9) (fun h5 eh5 => ?_)
  refine ab_aload_n (pc := 32) (n := 0) (i := 0) (j := 0) (by decide +kernel) rfl rfl ?_
  refine ab_iload_n (pc := 33) (n := 1) (i := 1) (j := 1) (by decide +kernel) rfl rfl ?_
  refine ab_iload_n (pc := 34) (n := 2) (i := 2) (j := 2) (by decide +kernel) rfl rfl ?_
  refine ab_iload_n (pc := 35) (n := 3) (i := 3) (j := 3) (by decide +kernel) rfl rfl ?_
  refine ab_iconst (pc := 36) (n := 0) (v := nI 0) (by decide +kernel) rfl ?_
  refine ab_callVw (As := [.int x1, .int x2, .int v1, .int (nI 0)]) (st := []) (pc := 37) lk_X12_275_12 rfl rfl rfl (by decide) rfl (Nat.le_of_ble_eq_true rfl) (by decide +kernel) (fun y9 e9 => okX12_writes hl (F := F) e9) (fun h6 eh6 => ?_)
  refine ab_iload_n (pc := 40) (n := 3) (i := 3) (j := 3) (by decide +kernel) rfl rfl ?_
  exact ab_iret (pc := 41) (by decide +kernel) rfl rfl (Nat.le_of_ble_eq_true rfl) (Nat.le_of_ble_eq_true rfl)
set_option maxRecDepth 100000 in
set_option maxHeartbeats 4000000 in
theorem okX12_handsIn {l : Launch} (hl : l.stackTraces = false) {F : Nat} {x0 : Nat} {x1 : Int32} {x2 : Int32} {h : ab_H} {y : (Int32 × ab_H)} (e : fX12_handsIn F x0 x1 x2 h = some y) : ab_Met l mX12_handsIn [.ref x0, .int x1, .int x2] h (.inl (some (.int y.1)), y.2) := ab_ofS (io := (fun y : (Int32 × ab_H) => ((.inl (some (.int y.1)), y.2) : ab_R × ab_H))) (x := y) hl (by decide) rfl (Nat.le_of_ble_eq_true rfl) (wX12_handsIn hl F x0 x1 x2 h) e
def mX12_gets : ab_M := (yX12_gets, cX12_gets, 4, (some .int), { frames := 2, cells := 0, slots := 0, locals := 46 })
theorem iX12_gets : ab_MI mX12_gets 1 := ⟨kw_0097abf862, kw_30b3f7d7c6, by decide +kernel⟩
def fX12_gets (F : Nat) (x0 : Nat) (x1 : Int32) (h : ab_H) : Option (Int32 × ab_H) := ab_ck (ab_io h x0 12 = true) (ab_bd (fX12_of x0 x1 (nI 3) h) fun v1 => ab_bd (ab_fr h x0 12 1) fun v2 => ab_bd (ab_ia 0 h v2 ((nI 272) + v1)) fun v3 => ab_bd (ab_fr h x0 12 1) fun v4 => ab_bd (ab_iw 0 h v4 ((nI 272) + v1) (-1 : Int32)) fun h5 => ab_ck (ab_io h5 x0 12 = true) (ab_bd (fX12_has x0 x1 (nI 2) v3 h5) fun h6 => ab_ck (ab_io h6 x0 12 = true) (ab_bd (fX12_has x0 x1 (nI 3) (-1 : Int32) h6) fun h7 => ab_ck (ab_io h7 x0 12 = true) (ab_bd (fX12_writes F x0 x1 v1 v3 (nI 1) h7) fun h8 => some (v3, h8)))))
set_option maxRecDepth 100000 in
set_option maxHeartbeats 4000000 in
theorem wX12_gets {l : Launch} (hl : l.stackTraces = false) (F : Nat) (x0 : Nat) (x1 : Int32) (h : ab_H) : ab_S l mX12_gets (fun y : (Int32 × ab_H) => ((.inl (some (.int y.1)), y.2) : ab_R × ab_H)) 0 0 (fX12_gets F x0 x1 h) 0 [(0, .ref x0), (1, .int x1)] [] h := by
  unfold fX12_gets
  refine ab_aload_n (pc := 0) (n := 0) (i := 0) (j := 0) (by decide +kernel) rfl rfl ?_
  refine ab_iload_n (pc := 1) (n := 1) (i := 1) (j := 1) (by decide +kernel) rfl rfl ?_
  refine ab_iconst (pc := 2) (n := 3) (v := nI 3) (by decide +kernel) rfl ?_
  refine ab_callVi (As := [.int x1, .int (nI 3)]) (st := []) (pc := 3) lk_X12_57_12 rfl rfl rfl (by decide) rfl (Nat.le_of_ble_eq_true rfl) (by decide +kernel) (fun y9 e9 => okX12_of hl e9) (fun v1 ev1 => ?_)
  refine ab_istore_n (pc := 6) (n := 2) (i := 2) (lv' := [(0, .ref x0), (1, .int x1), (2, .int v1)]) (by decide +kernel) rfl (Nat.le_of_ble_eq_true rfl) rfl rfl ?_
  refine ab_aload_n (pc := 7) (n := 0) (i := 0) (j := 0) (by decide +kernel) rfl rfl ?_
  refine ab_getR (pc := 8) fl_X12_7_12 (by decide +kernel) (fun v2 ev2 => ?_)
  refine ab_sipush (pc := 11) (n := 272) (v := nI 272) (by decide +kernel) (by decide) ?_
  refine ab_iload_n (pc := 14) (n := 2) (i := 2) (j := 2) (by decide +kernel) rfl rfl ?_
  refine ab_iadd (pc := 15) (by decide +kernel) ?_
  refine ab_iald (pc := 16) (by decide +kernel) (fun v3 ev3 => ?_)
  refine ab_istore_n (pc := 17) (n := 3) (i := 3) (lv' := [(0, .ref x0), (1, .int x1), (2, .int v1), (3, .int v3)]) (by decide +kernel) rfl (Nat.le_of_ble_eq_true rfl) rfl rfl ?_
  refine ab_aload_n (pc := 18) (n := 0) (i := 0) (j := 0) (by decide +kernel) rfl rfl ?_
  refine ab_getR (pc := 19) fl_X12_7_12 (by decide +kernel) (fun v4 ev4 => ?_)
  refine ab_sipush (pc := 22) (n := 272) (v := nI 272) (by decide +kernel) (by decide) ?_
  refine ab_iload_n (pc := 25) (n := 2) (i := 2) (j := 2) (by decide +kernel) rfl rfl ?_
  refine ab_iadd (pc := 26) (by decide +kernel) ?_
  refine ab_iconst (pc := 27) (n := -1) (v := (-1 : Int32)) (by decide +kernel) rfl ?_
  refine ab_iast (pc := 28) (by decide +kernel) (fun h5 eh5 => ?_)
  refine ab_aload_n (pc := 29) (n := 0) (i := 0) (j := 0) (by decide +kernel) rfl rfl ?_
  refine ab_iload_n (pc := 30) (n := 1) (i := 1) (j := 1) (by decide +kernel) rfl rfl ?_
  refine ab_iconst (pc := 31) (n := 2) (v := nI 2) (by decide +kernel) rfl ?_
  refine ab_iload_n (pc := 32) (n := 3) (i := 3) (j := 3) (by decide +kernel) rfl rfl ?_
  refine ab_callVw (As := [.int x1, .int (nI 2), .int v3]) (st := []) (pc := 33) lk_X12_100_12 rfl rfl rfl (by decide) rfl (Nat.le_of_ble_eq_true rfl) (by decide +kernel) (fun y9 e9 => okX12_has hl e9) (fun h6 eh6 => ?_)
  refine ab_aload_n (pc := 36) (n := 0) (i := 0) (j := 0) (by decide +kernel) rfl rfl ?_
  refine ab_iload_n (pc := 37) (n := 1) (i := 1) (j := 1) (by decide +kernel) rfl rfl ?_
  refine ab_iconst (pc := 38) (n := 3) (v := nI 3) (by decide +kernel) rfl ?_
  refine ab_iconst (pc := 39) (n := -1) (v := (-1 : Int32)) (by decide +kernel) rfl ?_
  refine ab_callVw (As := [.int x1, .int (nI 3), .int (-1 : Int32)]) (st := []) (pc := 40) lk_X12_100_12 rfl rfl rfl (by decide) rfl (Nat.le_of_ble_eq_true rfl) (by decide +kernel) (fun y9 e9 => okX12_has hl e9) (fun h7 eh7 => ?_)
  refine ab_aload_n (pc := 43) (n := 0) (i := 0) (j := 0) (by decide +kernel) rfl rfl ?_
  refine ab_iload_n (pc := 44) (n := 1) (i := 1) (j := 1) (by decide +kernel) rfl rfl ?_
  refine ab_iload_n (pc := 45) (n := 2) (i := 2) (j := 2) (by decide +kernel) rfl rfl ?_
  refine ab_iload_n (pc := 46) (n := 3) (i := 3) (j := 3) (by decide +kernel) rfl rfl ?_
  refine ab_iconst (pc := 47) (n := 1) (v := nI 1) (by decide +kernel) rfl ?_
  refine ab_callVw (As := [.int x1, .int v1, .int v3, .int (nI 1)]) (st := []) (pc := 48) lk_X12_275_12 rfl rfl rfl (by decide) rfl (Nat.le_of_ble_eq_true rfl) (by decide +kernel) (fun y9 e9 => okX12_writes hl (F := F) e9) (fun h8 eh8 => ?_)
  refine ab_iload_n (pc := 51) (n := 3) (i := 3) (j := 3) (by decide +kernel) rfl rfl ?_
  exact ab_iret (pc := 52) (by decide +kernel) rfl rfl (Nat.le_of_ble_eq_true rfl) (Nat.le_of_ble_eq_true rfl)
set_option maxRecDepth 100000 in
set_option maxHeartbeats 4000000 in
theorem okX12_gets {l : Launch} (hl : l.stackTraces = false) {F : Nat} {x0 : Nat} {x1 : Int32} {h : ab_H} {y : (Int32 × ab_H)} (e : fX12_gets F x0 x1 h = some y) : ab_Met l mX12_gets [.ref x0, .int x1] h (.inl (some (.int y.1)), y.2) := ab_ofS (io := (fun y : (Int32 × ab_H) => ((.inl (some (.int y.1)), y.2) : ab_R × ab_H))) (x := y) hl (by decide) rfl (Nat.le_of_ble_eq_true rfl) (wX12_gets hl F x0 x1 h) e
def mX12_mixes : ab_M := (yX12_mixes, cX12_mixes, 6, none, { frames := 2, cells := 0, slots := 0, locals := 46 })
theorem iX12_mixes : ab_MI mX12_mixes 2 := ⟨kw_3218aa3178, kw_30b3f7d7c6, by decide +kernel⟩
def fX12_mixes (F : Nat) (x0 : Nat) (x1 : Int32) (x2 : Int32) (h : ab_H) : Option ab_H := ab_ck (ab_io h x0 12 = true) (ab_bd (fX12_of x0 x1 (nI 3) h) fun v1 => ab_ck (ab_io h x0 12 = true) (ab_bd (fX12_of x0 x2 (nI 3) h) fun v2 => ab_ck (ab_io h x0 12 = true) (ab_bd (fX12_has x0 x1 (nI 3) v2 h) fun h3 => ab_ck (ab_io h3 x0 12 = true) (ab_bd (fX12_has x0 x2 (nI 3) v1 h3) fun h4 => ab_bd (fX12_lesser x1 x2 h4) fun v5 => ab_bd (fX12_greater x1 x2 h4) fun v6 => ab_ck (ab_io h4 x0 12 = true) (ab_bd (fX12_of x0 v5 (nI 3) h4) fun v7 => ab_ck (ab_io h4 x0 12 = true) (ab_bd (fX12_writes F x0 v5 v7 (-1 : Int32) (nI 3) h4) fun h8 => ab_ck (ab_io h8 x0 12 = true) (ab_bd (fX12_of x0 v6 (nI 3) h8) fun v9 => ab_ck (ab_io h8 x0 12 = true) (ab_bd (fX12_writes F x0 v6 v9 (-1 : Int32) (nI 3) h8) fun h10 => some h10))))))))
set_option maxRecDepth 100000 in
set_option maxHeartbeats 4000000 in
theorem wX12_mixes {l : Launch} (hl : l.stackTraces = false) (F : Nat) (x0 : Nat) (x1 : Int32) (x2 : Int32) (h : ab_H) : ab_S l mX12_mixes (fun y : ab_H => ((.inl none, y) : ab_R × ab_H)) 0 0 (fX12_mixes F x0 x1 x2 h) 0 [(0, .ref x0), (1, .int x1), (2, .int x2)] [] h := by
  unfold fX12_mixes
  refine ab_aload_n (pc := 0) (n := 0) (i := 0) (j := 0) (by decide +kernel) rfl rfl ?_
  refine ab_iload_n (pc := 1) (n := 1) (i := 1) (j := 1) (by decide +kernel) rfl rfl ?_
  refine ab_iconst (pc := 2) (n := 3) (v := nI 3) (by decide +kernel) rfl ?_
  refine ab_callVi (As := [.int x1, .int (nI 3)]) (st := []) (pc := 3) lk_X12_57_12 rfl rfl rfl (by decide) rfl (Nat.le_of_ble_eq_true rfl) (by decide +kernel) (fun y9 e9 => okX12_of hl e9) (fun v1 ev1 => ?_)
  refine ab_istore_n (pc := 6) (n := 3) (i := 3) (lv' := [(0, .ref x0), (1, .int x1), (2, .int x2), (3, .int v1)]) (by decide +kernel) rfl (Nat.le_of_ble_eq_true rfl) rfl rfl ?_
  refine ab_aload_n (pc := 7) (n := 0) (i := 0) (j := 0) (by decide +kernel) rfl rfl ?_
  refine ab_iload_n (pc := 8) (n := 1) (i := 1) (j := 1) (by decide +kernel) rfl rfl ?_
  refine ab_iconst (pc := 9) (n := 3) (v := nI 3) (by decide +kernel) rfl ?_
  refine ab_aload_n (pc := 10) (n := 0) (i := 0) (j := 0) (by decide +kernel) rfl rfl ?_
  refine ab_iload_n (pc := 11) (n := 2) (i := 2) (j := 2) (by decide +kernel) rfl rfl ?_
  refine ab_iconst (pc := 12) (n := 3) (v := nI 3) (by decide +kernel) rfl ?_
  refine ab_callVi (As := [.int x2, .int (nI 3)]) (st := [.int (nI 3), .int x1, .ref x0]) (pc := 13) lk_X12_57_12 rfl rfl rfl (by decide) rfl (Nat.le_of_ble_eq_true rfl) (by decide +kernel) (fun y9 e9 => okX12_of hl e9) (fun v2 ev2 => ?_)
  refine ab_callVw (As := [.int x1, .int (nI 3), .int v2]) (st := []) (pc := 16) lk_X12_100_12 rfl rfl rfl (by decide) rfl (Nat.le_of_ble_eq_true rfl) (by decide +kernel) (fun y9 e9 => okX12_has hl e9) (fun h3 eh3 => ?_)
  refine ab_aload_n (pc := 19) (n := 0) (i := 0) (j := 0) (by decide +kernel) rfl rfl ?_
  refine ab_iload_n (pc := 20) (n := 2) (i := 2) (j := 2) (by decide +kernel) rfl rfl ?_
  refine ab_iconst (pc := 21) (n := 3) (v := nI 3) (by decide +kernel) rfl ?_
  refine ab_iload_n (pc := 22) (n := 3) (i := 3) (j := 3) (by decide +kernel) rfl rfl ?_
  refine ab_callVw (As := [.int x2, .int (nI 3), .int v1]) (st := []) (pc := 23) lk_X12_100_12 rfl rfl rfl (by decide) rfl (Nat.le_of_ble_eq_true rfl) (by decide +kernel) (fun y9 e9 => okX12_has hl e9) (fun h4 eh4 => ?_)
  refine ab_iload_n (pc := 26) (n := 1) (i := 1) (j := 1) (by decide +kernel) rfl rfl ?_
  refine ab_iload_n (pc := 27) (n := 2) (i := 2) (j := 2) (by decide +kernel) rfl rfl ?_
  refine ab_callSi (As := [.int x1, .int x2]) (st := []) (pc := 28) lk_X12_272 rfl rfl rfl (by decide) rfl (Nat.le_of_ble_eq_true rfl) (by decide +kernel) (fun y9 e9 => okX12_lesser hl e9) (fun v5 ev5 => ?_)
  refine ab_istore (pc := 31) (i := 4) (lv' := [(0, .ref x0), (1, .int x1), (2, .int x2), (3, .int v1), (4, .int v5)]) (by decide +kernel) (Nat.le_of_ble_eq_true rfl) rfl rfl ?_
  refine ab_iload_n (pc := 33) (n := 1) (i := 1) (j := 1) (by decide +kernel) rfl rfl ?_
  refine ab_iload_n (pc := 34) (n := 2) (i := 2) (j := 2) (by decide +kernel) rfl rfl ?_
  refine ab_callSi (As := [.int x1, .int x2]) (st := []) (pc := 35) lk_X12_150 rfl rfl rfl (by decide) rfl (Nat.le_of_ble_eq_true rfl) (by decide +kernel) (fun y9 e9 => okX12_greater hl e9) (fun v6 ev6 => ?_)
  refine ab_istore (pc := 38) (i := 5) (lv' := [(0, .ref x0), (1, .int x1), (2, .int x2), (3, .int v1), (4, .int v5), (5, .int v6)]) (by decide +kernel) (Nat.le_of_ble_eq_true rfl) rfl rfl ?_
  refine ab_aload_n (pc := 40) (n := 0) (i := 0) (j := 0) (by decide +kernel) rfl rfl ?_
  refine ab_iload (pc := 41) (i := 4) (j := 4) (by decide +kernel) rfl ?_
  refine ab_aload_n (pc := 43) (n := 0) (i := 0) (j := 0) (by decide +kernel) rfl rfl ?_
  refine ab_iload (pc := 44) (i := 4) (j := 4) (by decide +kernel) rfl ?_
  refine ab_iconst (pc := 46) (n := 3) (v := nI 3) (by decide +kernel) rfl ?_
  refine ab_callVi (As := [.int v5, .int (nI 3)]) (st := [.int v5, .ref x0]) (pc := 47) lk_X12_57_12 rfl rfl rfl (by decide) rfl (Nat.le_of_ble_eq_true rfl) (by decide +kernel) (fun y9 e9 => okX12_of hl e9) (fun v7 ev7 => ?_)
  refine ab_iconst (pc := 50) (n := -1) (v := (-1 : Int32)) (by decide +kernel) rfl ?_
  refine ab_iconst (pc := 51) (n := 3) (v := nI 3) (by decide +kernel) rfl ?_
  refine ab_callVw (As := [.int v5, .int v7, .int (-1 : Int32), .int (nI 3)]) (st := []) (pc := 52) lk_X12_275_12 rfl rfl rfl (by decide) rfl (Nat.le_of_ble_eq_true rfl) (by decide +kernel) (fun y9 e9 => okX12_writes hl (F := F) e9) (fun h8 eh8 => ?_)
  refine ab_aload_n (pc := 55) (n := 0) (i := 0) (j := 0) (by decide +kernel) rfl rfl ?_
  refine ab_iload (pc := 56) (i := 5) (j := 5) (by decide +kernel) rfl ?_
  refine ab_aload_n (pc := 58) (n := 0) (i := 0) (j := 0) (by decide +kernel) rfl rfl ?_
  refine ab_iload (pc := 59) (i := 5) (j := 5) (by decide +kernel) rfl ?_
  refine ab_iconst (pc := 61) (n := 3) (v := nI 3) (by decide +kernel) rfl ?_
  refine ab_callVi (As := [.int v6, .int (nI 3)]) (st := [.int v6, .ref x0]) (pc := 62) lk_X12_57_12 rfl rfl rfl (by decide) rfl (Nat.le_of_ble_eq_true rfl) (by decide +kernel) (fun y9 e9 => okX12_of hl e9) (fun v9 ev9 => ?_)
  refine ab_iconst (pc := 65) (n := -1) (v := (-1 : Int32)) (by decide +kernel) rfl ?_
  refine ab_iconst (pc := 66) (n := 3) (v := nI 3) (by decide +kernel) rfl ?_
  refine ab_callVw (As := [.int v6, .int v9, .int (-1 : Int32), .int (nI 3)]) (st := []) (pc := 67) lk_X12_275_12 rfl rfl rfl (by decide) rfl (Nat.le_of_ble_eq_true rfl) (by decide +kernel) (fun y9 e9 => okX12_writes hl (F := F) e9) (fun h10 eh10 => ?_)
  exact ab_vret (pc := 70) (by decide +kernel) rfl rfl (Nat.le_of_ble_eq_true rfl) (Nat.le_of_ble_eq_true rfl)
set_option maxRecDepth 100000 in
set_option maxHeartbeats 4000000 in
theorem okX12_mixes {l : Launch} (hl : l.stackTraces = false) {F : Nat} {x0 : Nat} {x1 : Int32} {x2 : Int32} {h : ab_H} {y : ab_H} (e : fX12_mixes F x0 x1 x2 h = some y) : ab_Met l mX12_mixes [.ref x0, .int x1, .int x2] h (.inl none, y) := ab_ofS (io := (fun y : ab_H => ((.inl none, y) : ab_R × ab_H))) (x := y) hl (by decide) rfl (Nat.le_of_ble_eq_true rfl) (wX12_mixes hl F x0 x1 x2 h) e
def mX12_hand : ab_M := (yX12_hand, cX12_hand, 3, (some .int), { frames := 3, cells := 0, slots := 0, locals := 69 })
theorem iX12_hand : ab_MI mX12_hand 2 := ⟨kw_54147e1aba, kw_30b3f7d7c6, by decide +kernel⟩
theorem lk_X12_279_12 : ab_LV RX12 279 12 mX12_remembers 0 := ⟨RX12, rfl, iX12_remembers, kw_b09372d5a1, kw_c3df27dd03, kw_1e7cd25983⟩
theorem lk_X12_282_12 : ab_LV RX12 282 12 mX12_handsIn 2 := ⟨RX12, rfl, iX12_handsIn, kw_0964c3baa0, kw_356b06350d, kw_7f20fa65d7⟩
def fX12_hand (F : Nat) (x0 : Nat) (x1 : Int32) (x2 : Int32) (h : ab_H) : Option (Int32 × ab_H) := ab_ck (ab_io h x0 12 = true) (ab_bd (fX12_isPerson x0 x1 h) fun v1 => ab_jn (κ := Int32 → Option (Int32 × ab_H)) (fun (z2 : Int32) => ab_bd (ab_fw h x0 12 0 (.int z2)) fun h3 => ab_bd (ab_fi h3 x0 12 0) fun v4 => (if v4 ≤ 0 then ab_ck (ab_io h3 x0 12 = true) (ab_bd (fX12_remembers F x0 h3) fun h6 => ab_ck (ab_io h6 x0 12 = true) (ab_bd (fX12_handsIn F x0 x1 x2 h6) fun v7 => some (v7.1, v7.2))) else some (nI 0, h3))) fun j8 => ab_jn (κ := Option (Int32 × ab_H)) (j8 (nI 1)) fun j9 => (if v1 = 0 then j9 else ab_ck (ab_io h x0 12 = true) (ab_bd (fX12_isHook x0 x2 h) fun v11 => (if v11 = 0 then j9 else ab_ck (ab_io h x0 12 = true) (ab_bd (fX12_of x0 x1 (nI 2) h) fun v13 => (if v13 = (-1 : Int32) then j8 (nI 2) else ab_ck (ab_io h x0 12 = true) (ab_bd (fX12_of x0 x1 (nI 3) h) fun v15 => (if v15 = (-1 : Int32) then ab_bd (ab_fr h x0 12 1) fun v17 => ab_bd (ab_ia 0 h v17 ((nI 272) + x2)) fun v18 => (if v18 = (-1 : Int32) then j8 (nI 0) else j8 (nI 2)) else j8 (nI 2)))))))))
set_option maxRecDepth 100000 in
set_option maxHeartbeats 4000000 in
theorem wX12_hand {l : Launch} (hl : l.stackTraces = false) (F : Nat) (x0 : Nat) (x1 : Int32) (x2 : Int32) (h : ab_H) : ab_S l mX12_hand (fun y : (Int32 × ab_H) => ((.inl (some (.int y.1)), y.2) : ab_R × ab_H)) 0 0 (fX12_hand F x0 x1 x2 h) 0 [(0, .ref x0), (1, .int x1), (2, .int x2)] [] h := by
  unfold fX12_hand
  refine ab_aload_n (pc := 0) (n := 0) (i := 0) (j := 0) (by decide +kernel) rfl rfl ?_
  refine ab_aload_n (pc := 1) (n := 0) (i := 0) (j := 0) (by decide +kernel) rfl rfl ?_
  refine ab_iload_n (pc := 2) (n := 1) (i := 1) (j := 1) (by decide +kernel) rfl rfl ?_
  refine ab_callVi (As := [.int x1]) (st := [.ref x0]) (pc := 3) lk_X12_250_12 rfl rfl rfl (by decide) rfl (Nat.le_of_ble_eq_true rfl) (by decide +kernel) (fun y9 e9 => okX12_isPerson hl e9) (fun v1 ev1 => ?_)
  refine ab_jr (fun k9 : Int32 → Option (Int32 × ab_H) => ∀ (z2 : Int32), ab_S l mX12_hand (fun y : (Int32 × ab_H) => ((.inl (some (.int y.1)), y.2) : ab_R × ab_H)) 0 0 (k9 z2) 60 [(0, .ref x0), (1, .int x1), (2, .int x2)] [.int z2, .ref x0] h) ?_ (fun j8 hj8 => ?_)
  · intro z2
    refine ab_put (pc := 60) fl_X12_50_12 rfl (fun _ => rfl) (fun _ => rfl) (by decide +kernel) (fun h3 eh3 => ?_)
    refine ab_aload_n (pc := 63) (n := 0) (i := 0) (j := 0) (by decide +kernel) rfl rfl ?_
    refine ab_getI (pc := 64) fl_X12_50_12 (by decide +kernel) (fun v4 ev4 => ?_)
    refine ab_if_le (off := 5) (pc := 67) (tgt := 72) (by decide +kernel) (by decide) (fun g5 => ?_) (fun g5 => ?_)
    · refine ab_aload_n (pc := 72) (n := 0) (i := 0) (j := 0) (by decide +kernel) rfl rfl ?_
      refine ab_callVw (As := []) (st := []) (pc := 73) lk_X12_279_12 rfl rfl rfl (by decide) rfl (Nat.le_of_ble_eq_true rfl) (by decide +kernel) (fun y9 e9 => okX12_remembers hl (F := F) e9) (fun h6 eh6 => ?_)
      refine ab_aload_n (pc := 76) (n := 0) (i := 0) (j := 0) (by decide +kernel) rfl rfl ?_
      refine ab_iload_n (pc := 77) (n := 1) (i := 1) (j := 1) (by decide +kernel) rfl rfl ?_
      refine ab_iload_n (pc := 78) (n := 2) (i := 2) (j := 2) (by decide +kernel) rfl rfl ?_
      refine ab_callVj (As := [.int x1, .int x2]) (st := []) (pc := 79) lk_X12_282_12 rfl rfl rfl (by decide) rfl (Nat.le_of_ble_eq_true rfl) (by decide +kernel) (fun y9 e9 => okX12_handsIn hl (F := F) e9) (fun v7 ev7 => ?_)
      exact ab_iret (pc := 82) (by decide +kernel) rfl rfl (Nat.le_of_ble_eq_true rfl) (Nat.le_of_ble_eq_true rfl)
    · refine ab_iconst (pc := 70) (n := 0) (v := nI 0) (by decide +kernel) rfl ?_
      exact ab_iret (pc := 71) (by decide +kernel) rfl rfl (Nat.le_of_ble_eq_true rfl) (Nat.le_of_ble_eq_true rfl)
  · refine ab_jr (fun k9 : Option (Int32 × ab_H) => ab_S l mX12_hand (fun y : (Int32 × ab_H) => ((.inl (some (.int y.1)), y.2) : ab_R × ab_H)) 0 0 (k9) 17 [(0, .ref x0), (1, .int x1), (2, .int x2)] [.ref x0] h) ?_ (fun j9 hj9 => ?_)
    · refine ab_iconst (pc := 17) (n := 1) (v := nI 1) (by decide +kernel) rfl ?_
      refine ab_goto (pc := 18) (off := 42) (tgt := 60) (by decide +kernel) (by decide) ?_
      exact hj8 (nI 1)
    · refine ab_if_eq (off := 11) (pc := 6) (tgt := 17) (by decide +kernel) (by decide) (fun g10 => ?_) (fun g10 => ?_)
      · exact hj9
      · refine ab_aload_n (pc := 9) (n := 0) (i := 0) (j := 0) (by decide +kernel) rfl rfl ?_
        refine ab_iload_n (pc := 10) (n := 2) (i := 2) (j := 2) (by decide +kernel) rfl rfl ?_
        refine ab_callVi (As := [.int x2]) (st := [.ref x0]) (pc := 11) lk_X12_262_12 rfl rfl rfl (by decide) rfl (Nat.le_of_ble_eq_true rfl) (by decide +kernel) (fun y9 e9 => okX12_isHook hl e9) (fun v11 ev11 => ?_)
        refine ab_if_ne (off := 7) (pc := 14) (tgt := 21) (by decide +kernel) (by decide) (fun g12 => ?_) (fun g12 => ?_)
        · exact hj9
        · refine ab_aload_n (pc := 21) (n := 0) (i := 0) (j := 0) (by decide +kernel) rfl rfl ?_
          refine ab_iload_n (pc := 22) (n := 1) (i := 1) (j := 1) (by decide +kernel) rfl rfl ?_
          refine ab_iconst (pc := 23) (n := 2) (v := nI 2) (by decide +kernel) rfl ?_
          refine ab_callVi (As := [.int x1, .int (nI 2)]) (st := [.ref x0]) (pc := 24) lk_X12_57_12 rfl rfl rfl (by decide) rfl (Nat.le_of_ble_eq_true rfl) (by decide +kernel) (fun y9 e9 => okX12_of hl e9) (fun v13 ev13 => ?_)
          refine ab_iconst (pc := 27) (n := -1) (v := (-1 : Int32)) (by decide +kernel) rfl ?_
          refine ab_icmp_eq (off := 27) (pc := 28) (tgt := 55) (by decide +kernel) (by decide) (fun g14 => ?_) (fun g14 => ?_)
          · refine ab_iconst (pc := 55) (n := 2) (v := nI 2) (by decide +kernel) rfl ?_
            refine ab_goto (pc := 56) (off := 4) (tgt := 60) (by decide +kernel) (by decide) ?_
            exact hj8 (nI 2)
          · refine ab_aload_n (pc := 31) (n := 0) (i := 0) (j := 0) (by decide +kernel) rfl rfl ?_
            refine ab_iload_n (pc := 32) (n := 1) (i := 1) (j := 1) (by decide +kernel) rfl rfl ?_
            refine ab_iconst (pc := 33) (n := 3) (v := nI 3) (by decide +kernel) rfl ?_
            refine ab_callVi (As := [.int x1, .int (nI 3)]) (st := [.ref x0]) (pc := 34) lk_X12_57_12 rfl rfl rfl (by decide) rfl (Nat.le_of_ble_eq_true rfl) (by decide +kernel) (fun y9 e9 => okX12_of hl e9) (fun v15 ev15 => ?_)
            refine ab_iconst (pc := 37) (n := -1) (v := (-1 : Int32)) (by decide +kernel) rfl ?_
            refine ab_icmp_ne (off := 17) (pc := 38) (tgt := 55) (by decide +kernel) (by decide) (fun g16 => ?_) (fun g16 => ?_)
            · refine ab_aload_n (pc := 41) (n := 0) (i := 0) (j := 0) (by decide +kernel) rfl rfl ?_
              refine ab_getR (pc := 42) fl_X12_7_12 (by decide +kernel) (fun v17 ev17 => ?_)
              refine ab_sipush (pc := 45) (n := 272) (v := nI 272) (by decide +kernel) (by decide) ?_
              refine ab_iload_n (pc := 48) (n := 2) (i := 2) (j := 2) (by decide +kernel) rfl rfl ?_
              refine ab_iadd (pc := 49) (by decide +kernel) ?_
              refine ab_iald (pc := 50) (by decide +kernel) (fun v18 ev18 => ?_)
              refine ab_iconst (pc := 51) (n := -1) (v := (-1 : Int32)) (by decide +kernel) rfl ?_
              refine ab_icmp_eq (off := 7) (pc := 52) (tgt := 59) (by decide +kernel) (by decide) (fun g19 => ?_) (fun g19 => ?_)
              · refine ab_iconst (pc := 59) (n := 0) (v := nI 0) (by decide +kernel) rfl ?_
                exact hj8 (nI 0)
              · refine ab_iconst (pc := 55) (n := 2) (v := nI 2) (by decide +kernel) rfl ?_
                refine ab_goto (pc := 56) (off := 4) (tgt := 60) (by decide +kernel) (by decide) ?_
                exact hj8 (nI 2)
            · refine ab_iconst (pc := 55) (n := 2) (v := nI 2) (by decide +kernel) rfl ?_
              refine ab_goto (pc := 56) (off := 4) (tgt := 60) (by decide +kernel) (by decide) ?_
              exact hj8 (nI 2)
set_option maxRecDepth 100000 in
set_option maxHeartbeats 4000000 in
theorem okX12_hand {l : Launch} (hl : l.stackTraces = false) {F : Nat} {x0 : Nat} {x1 : Int32} {x2 : Int32} {h : ab_H} {y : (Int32 × ab_H)} (e : fX12_hand F x0 x1 x2 h = some y) : ab_Met l mX12_hand [.ref x0, .int x1, .int x2] h (.inl (some (.int y.1)), y.2) := ab_ofS (io := (fun y : (Int32 × ab_H) => ((.inl (some (.int y.1)), y.2) : ab_R × ab_H))) (x := y) hl (by decide) rfl (Nat.le_of_ble_eq_true rfl) (wX12_hand hl F x0 x1 x2 h) e
def mX12_fetch : ab_M := (yX12_fetch, cX12_fetch, 2, (some .int), { frames := 3, cells := 0, slots := 0, locals := 69 })
theorem iX12_fetch : ab_MI mX12_fetch 1 := ⟨kw_2ddc9e2ed2, kw_30b3f7d7c6, by decide +kernel⟩
theorem lk_X12_285_12 : ab_LV RX12 285 12 mX12_gets 1 := ⟨RX12, rfl, iX12_gets, kw_d47cdc35f7, kw_3fd0bfd2fd, kw_61c176a075⟩
def fX12_fetch (F : Nat) (x0 : Nat) (x1 : Int32) (h : ab_H) : Option (Int32 × ab_H) := ab_ck (ab_io h x0 12 = true) (ab_bd (fX12_isPerson x0 x1 h) fun v1 => ab_jn (κ := Int32 → Option (Int32 × ab_H)) (fun (z2 : Int32) => ab_bd (ab_fw h x0 12 0 (.int z2)) fun h3 => ab_bd (ab_fi h3 x0 12 0) fun v4 => (if v4 ≤ 0 then ab_ck (ab_io h3 x0 12 = true) (ab_bd (fX12_remembers F x0 h3) fun h6 => ab_ck (ab_io h6 x0 12 = true) (ab_bd (fX12_gets F x0 x1 h6) fun v7 => some (v7.1, v7.2))) else some (nI 0, h3))) fun j8 => (if v1 = 0 then j8 (nI 1) else ab_ck (ab_io h x0 12 = true) (ab_bd (fX12_of x0 x1 (nI 3) h) fun v10 => (if v10 = (-1 : Int32) then j8 (nI 2) else ab_ck (ab_io h x0 12 = true) (ab_bd (fX12_of x0 x1 (nI 2) h) fun v12 => (if v12 = (-1 : Int32) then j8 (nI 0) else j8 (nI 2)))))))
set_option maxRecDepth 100000 in
set_option maxHeartbeats 4000000 in
theorem wX12_fetch {l : Launch} (hl : l.stackTraces = false) (F : Nat) (x0 : Nat) (x1 : Int32) (h : ab_H) : ab_S l mX12_fetch (fun y : (Int32 × ab_H) => ((.inl (some (.int y.1)), y.2) : ab_R × ab_H)) 0 0 (fX12_fetch F x0 x1 h) 0 [(0, .ref x0), (1, .int x1)] [] h := by
  unfold fX12_fetch
  refine ab_aload_n (pc := 0) (n := 0) (i := 0) (j := 0) (by decide +kernel) rfl rfl ?_
  refine ab_aload_n (pc := 1) (n := 0) (i := 0) (j := 0) (by decide +kernel) rfl rfl ?_
  refine ab_iload_n (pc := 2) (n := 1) (i := 1) (j := 1) (by decide +kernel) rfl rfl ?_
  refine ab_callVi (As := [.int x1]) (st := [.ref x0]) (pc := 3) lk_X12_250_12 rfl rfl rfl (by decide) rfl (Nat.le_of_ble_eq_true rfl) (by decide +kernel) (fun y9 e9 => okX12_isPerson hl e9) (fun v1 ev1 => ?_)
  refine ab_jr (fun k9 : Int32 → Option (Int32 × ab_H) => ∀ (z2 : Int32), ab_S l mX12_fetch (fun y : (Int32 × ab_H) => ((.inl (some (.int y.1)), y.2) : ab_R × ab_H)) 0 0 (k9 z2) 38 [(0, .ref x0), (1, .int x1)] [.int z2, .ref x0] h) ?_ (fun j8 hj8 => ?_)
  · intro z2
    refine ab_put (pc := 38) fl_X12_50_12 rfl (fun _ => rfl) (fun _ => rfl) (by decide +kernel) (fun h3 eh3 => ?_)
    refine ab_aload_n (pc := 41) (n := 0) (i := 0) (j := 0) (by decide +kernel) rfl rfl ?_
    refine ab_getI (pc := 42) fl_X12_50_12 (by decide +kernel) (fun v4 ev4 => ?_)
    refine ab_if_le (off := 5) (pc := 45) (tgt := 50) (by decide +kernel) (by decide) (fun g5 => ?_) (fun g5 => ?_)
    · refine ab_aload_n (pc := 50) (n := 0) (i := 0) (j := 0) (by decide +kernel) rfl rfl ?_
      refine ab_callVw (As := []) (st := []) (pc := 51) lk_X12_279_12 rfl rfl rfl (by decide) rfl (Nat.le_of_ble_eq_true rfl) (by decide +kernel) (fun y9 e9 => okX12_remembers hl (F := F) e9) (fun h6 eh6 => ?_)
      refine ab_aload_n (pc := 54) (n := 0) (i := 0) (j := 0) (by decide +kernel) rfl rfl ?_
      refine ab_iload_n (pc := 55) (n := 1) (i := 1) (j := 1) (by decide +kernel) rfl rfl ?_
      refine ab_callVj (As := [.int x1]) (st := []) (pc := 56) lk_X12_285_12 rfl rfl rfl (by decide) rfl (Nat.le_of_ble_eq_true rfl) (by decide +kernel) (fun y9 e9 => okX12_gets hl (F := F) e9) (fun v7 ev7 => ?_)
      exact ab_iret (pc := 59) (by decide +kernel) rfl rfl (Nat.le_of_ble_eq_true rfl) (Nat.le_of_ble_eq_true rfl)
    · refine ab_iconst (pc := 48) (n := 0) (v := nI 0) (by decide +kernel) rfl ?_
      exact ab_iret (pc := 49) (by decide +kernel) rfl rfl (Nat.le_of_ble_eq_true rfl) (Nat.le_of_ble_eq_true rfl)
  · refine ab_if_ne (off := 7) (pc := 6) (tgt := 13) (by decide +kernel) (by decide) (fun g9 => ?_) (fun g9 => ?_)
    · refine ab_iconst (pc := 9) (n := 1) (v := nI 1) (by decide +kernel) rfl ?_
      refine ab_goto (pc := 10) (off := 28) (tgt := 38) (by decide +kernel) (by decide) ?_
      exact hj8 (nI 1)
    · refine ab_aload_n (pc := 13) (n := 0) (i := 0) (j := 0) (by decide +kernel) rfl rfl ?_
      refine ab_iload_n (pc := 14) (n := 1) (i := 1) (j := 1) (by decide +kernel) rfl rfl ?_
      refine ab_iconst (pc := 15) (n := 3) (v := nI 3) (by decide +kernel) rfl ?_
      refine ab_callVi (As := [.int x1, .int (nI 3)]) (st := [.ref x0]) (pc := 16) lk_X12_57_12 rfl rfl rfl (by decide) rfl (Nat.le_of_ble_eq_true rfl) (by decide +kernel) (fun y9 e9 => okX12_of hl e9) (fun v10 ev10 => ?_)
      refine ab_iconst (pc := 19) (n := -1) (v := (-1 : Int32)) (by decide +kernel) rfl ?_
      refine ab_icmp_eq (off := 13) (pc := 20) (tgt := 33) (by decide +kernel) (by decide) (fun g11 => ?_) (fun g11 => ?_)
      · refine ab_iconst (pc := 33) (n := 2) (v := nI 2) (by decide +kernel) rfl ?_
        refine ab_goto (pc := 34) (off := 4) (tgt := 38) (by decide +kernel) (by decide) ?_
        exact hj8 (nI 2)
      · refine ab_aload_n (pc := 23) (n := 0) (i := 0) (j := 0) (by decide +kernel) rfl rfl ?_
        refine ab_iload_n (pc := 24) (n := 1) (i := 1) (j := 1) (by decide +kernel) rfl rfl ?_
        refine ab_iconst (pc := 25) (n := 2) (v := nI 2) (by decide +kernel) rfl ?_
        refine ab_callVi (As := [.int x1, .int (nI 2)]) (st := [.ref x0]) (pc := 26) lk_X12_57_12 rfl rfl rfl (by decide) rfl (Nat.le_of_ble_eq_true rfl) (by decide +kernel) (fun y9 e9 => okX12_of hl e9) (fun v12 ev12 => ?_)
        refine ab_iconst (pc := 29) (n := -1) (v := (-1 : Int32)) (by decide +kernel) rfl ?_
        refine ab_icmp_eq (off := 7) (pc := 30) (tgt := 37) (by decide +kernel) (by decide) (fun g13 => ?_) (fun g13 => ?_)
        · refine ab_iconst (pc := 37) (n := 0) (v := nI 0) (by decide +kernel) rfl ?_
          exact hj8 (nI 0)
        · refine ab_iconst (pc := 33) (n := 2) (v := nI 2) (by decide +kernel) rfl ?_
          refine ab_goto (pc := 34) (off := 4) (tgt := 38) (by decide +kernel) (by decide) ?_
          exact hj8 (nI 2)
set_option maxRecDepth 100000 in
set_option maxHeartbeats 4000000 in
theorem okX12_fetch {l : Launch} (hl : l.stackTraces = false) {F : Nat} {x0 : Nat} {x1 : Int32} {h : ab_H} {y : (Int32 × ab_H)} (e : fX12_fetch F x0 x1 h = some y) : ab_Met l mX12_fetch [.ref x0, .int x1] h (.inl (some (.int y.1)), y.2) := ab_ofS (io := (fun y : (Int32 × ab_H) => ((.inl (some (.int y.1)), y.2) : ab_R × ab_H))) (x := y) hl (by decide) rfl (Nat.le_of_ble_eq_true rfl) (wX12_fetch hl F x0 x1 h) e
def mX12_mix : ab_M := (yX12_mix, cX12_mix, 3, (some .int), { frames := 3, cells := 0, slots := 0, locals := 71 })
theorem iX12_mix : ab_MI mX12_mix 2 := ⟨kw_3c4a8aa63d, kw_30b3f7d7c6, by decide +kernel⟩
theorem lk_X12_287_12 : ab_LV RX12 287 12 mX12_mixes 2 := ⟨RX12, rfl, iX12_mixes, kw_a8913a47d2, kw_028eb26732, kw_8d08bfd576⟩
def fX12_mix (F : Nat) (x0 : Nat) (x1 : Int32) (x2 : Int32) (h : ab_H) : Option (Int32 × ab_H) := ab_ck (ab_io h x0 12 = true) (ab_bd (fX12_two x0 x1 x2 h) fun v1 => ab_jn (κ := Int32 → Option (Int32 × ab_H)) (fun (z2 : Int32) => ab_bd (ab_fw h x0 12 0 (.int z2)) fun h3 => ab_bd (ab_fi h3 x0 12 0) fun v4 => (if v4 ≤ 0 then ab_ck (ab_io h3 x0 12 = true) (ab_bd (fX12_remembers F x0 h3) fun h6 => ab_ck (ab_io h6 x0 12 = true) (ab_bd (fX12_mixes F x0 x1 x2 h6) fun h7 => ab_ck (ab_io h7 x0 12 = true) (ab_bd (fX12_of x0 x1 (nI 3) h7) fun v8 => some (v8, h7)))) else some (nI 0, h3))) fun j9 => (if v1 ≤ 0 then ab_ck (ab_io h x0 12 = true) (ab_bd (fX12_of x0 x1 (nI 3) h) fun v11 => (if v11 = (-1 : Int32) then j9 (nI 3) else ab_ck (ab_io h x0 12 = true) (ab_bd (fX12_of x0 x2 (nI 3) h) fun v13 => (if v13 = (-1 : Int32) then j9 (nI 3) else j9 (nI 0))))) else ab_ck (ab_io h x0 12 = true) (ab_bd (fX12_two x0 x1 x2 h) fun v15 => j9 v15)))
set_option maxRecDepth 100000 in
set_option maxHeartbeats 4000000 in
theorem wX12_mix {l : Launch} (hl : l.stackTraces = false) (F : Nat) (x0 : Nat) (x1 : Int32) (x2 : Int32) (h : ab_H) : ab_S l mX12_mix (fun y : (Int32 × ab_H) => ((.inl (some (.int y.1)), y.2) : ab_R × ab_H)) 0 0 (fX12_mix F x0 x1 x2 h) 0 [(0, .ref x0), (1, .int x1), (2, .int x2)] [] h := by
  unfold fX12_mix
  refine ab_aload_n (pc := 0) (n := 0) (i := 0) (j := 0) (by decide +kernel) rfl rfl ?_
  refine ab_aload_n (pc := 1) (n := 0) (i := 0) (j := 0) (by decide +kernel) rfl rfl ?_
  refine ab_iload_n (pc := 2) (n := 1) (i := 1) (j := 1) (by decide +kernel) rfl rfl ?_
  refine ab_iload_n (pc := 3) (n := 2) (i := 2) (j := 2) (by decide +kernel) rfl rfl ?_
  refine ab_callVi (As := [.int x1, .int x2]) (st := [.ref x0]) (pc := 4) lk_X12_265_12 rfl rfl rfl (by decide) rfl (Nat.le_of_ble_eq_true rfl) (by decide +kernel) (fun y9 e9 => okX12_two hl e9) (fun v1 ev1 => ?_)
  refine ab_jr (fun k9 : Int32 → Option (Int32 × ab_H) => ∀ (z2 : Int32), ab_S l mX12_mix (fun y : (Int32 × ab_H) => ((.inl (some (.int y.1)), y.2) : ab_R × ab_H)) 0 0 (k9 z2) 44 [(0, .ref x0), (1, .int x1), (2, .int x2)] [.int z2, .ref x0] h) ?_ (fun j9 hj9 => ?_)
  · intro z2
    refine ab_put (pc := 44) fl_X12_50_12 rfl (fun _ => rfl) (fun _ => rfl) (by decide +kernel) (fun h3 eh3 => ?_)
    refine ab_aload_n (pc := 47) (n := 0) (i := 0) (j := 0) (by decide +kernel) rfl rfl ?_
    refine ab_getI (pc := 48) fl_X12_50_12 (by decide +kernel) (fun v4 ev4 => ?_)
    refine ab_if_le (off := 5) (pc := 51) (tgt := 56) (by decide +kernel) (by decide) (fun g5 => ?_) (fun g5 => ?_)
    · refine ab_aload_n (pc := 56) (n := 0) (i := 0) (j := 0) (by decide +kernel) rfl rfl ?_
      refine ab_callVw (As := []) (st := []) (pc := 57) lk_X12_279_12 rfl rfl rfl (by decide) rfl (Nat.le_of_ble_eq_true rfl) (by decide +kernel) (fun y9 e9 => okX12_remembers hl (F := F) e9) (fun h6 eh6 => ?_)
      refine ab_aload_n (pc := 60) (n := 0) (i := 0) (j := 0) (by decide +kernel) rfl rfl ?_
      refine ab_iload_n (pc := 61) (n := 1) (i := 1) (j := 1) (by decide +kernel) rfl rfl ?_
      refine ab_iload_n (pc := 62) (n := 2) (i := 2) (j := 2) (by decide +kernel) rfl rfl ?_
      refine ab_callVw (As := [.int x1, .int x2]) (st := []) (pc := 63) lk_X12_287_12 rfl rfl rfl (by decide) rfl (Nat.le_of_ble_eq_true rfl) (by decide +kernel) (fun y9 e9 => okX12_mixes hl (F := F) e9) (fun h7 eh7 => ?_)
      refine ab_aload_n (pc := 66) (n := 0) (i := 0) (j := 0) (by decide +kernel) rfl rfl ?_
      refine ab_iload_n (pc := 67) (n := 1) (i := 1) (j := 1) (by decide +kernel) rfl rfl ?_
      refine ab_iconst (pc := 68) (n := 3) (v := nI 3) (by decide +kernel) rfl ?_
      refine ab_callVi (As := [.int x1, .int (nI 3)]) (st := []) (pc := 69) lk_X12_57_12 rfl rfl rfl (by decide) rfl (Nat.le_of_ble_eq_true rfl) (by decide +kernel) (fun y9 e9 => okX12_of hl e9) (fun v8 ev8 => ?_)
      exact ab_iret (pc := 72) (by decide +kernel) rfl rfl (Nat.le_of_ble_eq_true rfl) (Nat.le_of_ble_eq_true rfl)
    · refine ab_iconst (pc := 54) (n := 0) (v := nI 0) (by decide +kernel) rfl ?_
      exact ab_iret (pc := 55) (by decide +kernel) rfl rfl (Nat.le_of_ble_eq_true rfl) (Nat.le_of_ble_eq_true rfl)
  · refine ab_if_le (off := 12) (pc := 7) (tgt := 19) (by decide +kernel) (by decide) (fun g10 => ?_) (fun g10 => ?_)
    · refine ab_aload_n (pc := 19) (n := 0) (i := 0) (j := 0) (by decide +kernel) rfl rfl ?_
      refine ab_iload_n (pc := 20) (n := 1) (i := 1) (j := 1) (by decide +kernel) rfl rfl ?_
      refine ab_iconst (pc := 21) (n := 3) (v := nI 3) (by decide +kernel) rfl ?_
      refine ab_callVi (As := [.int x1, .int (nI 3)]) (st := [.ref x0]) (pc := 22) lk_X12_57_12 rfl rfl rfl (by decide) rfl (Nat.le_of_ble_eq_true rfl) (by decide +kernel) (fun y9 e9 => okX12_of hl e9) (fun v11 ev11 => ?_)
      refine ab_iconst (pc := 25) (n := -1) (v := (-1 : Int32)) (by decide +kernel) rfl ?_
      refine ab_icmp_eq (off := 13) (pc := 26) (tgt := 39) (by decide +kernel) (by decide) (fun g12 => ?_) (fun g12 => ?_)
      · refine ab_iconst (pc := 39) (n := 3) (v := nI 3) (by decide +kernel) rfl ?_
        refine ab_goto (pc := 40) (off := 4) (tgt := 44) (by decide +kernel) (by decide) ?_
        exact hj9 (nI 3)
      · refine ab_aload_n (pc := 29) (n := 0) (i := 0) (j := 0) (by decide +kernel) rfl rfl ?_
        refine ab_iload_n (pc := 30) (n := 2) (i := 2) (j := 2) (by decide +kernel) rfl rfl ?_
        refine ab_iconst (pc := 31) (n := 3) (v := nI 3) (by decide +kernel) rfl ?_
        refine ab_callVi (As := [.int x2, .int (nI 3)]) (st := [.ref x0]) (pc := 32) lk_X12_57_12 rfl rfl rfl (by decide) rfl (Nat.le_of_ble_eq_true rfl) (by decide +kernel) (fun y9 e9 => okX12_of hl e9) (fun v13 ev13 => ?_)
        refine ab_iconst (pc := 35) (n := -1) (v := (-1 : Int32)) (by decide +kernel) rfl ?_
        refine ab_icmp_ne (off := 7) (pc := 36) (tgt := 43) (by decide +kernel) (by decide) (fun g14 => ?_) (fun g14 => ?_)
        · refine ab_iconst (pc := 39) (n := 3) (v := nI 3) (by decide +kernel) rfl ?_
          refine ab_goto (pc := 40) (off := 4) (tgt := 44) (by decide +kernel) (by decide) ?_
          exact hj9 (nI 3)
        · refine ab_iconst (pc := 43) (n := 0) (v := nI 0) (by decide +kernel) rfl ?_
          exact hj9 (nI 0)
    · refine ab_aload_n (pc := 10) (n := 0) (i := 0) (j := 0) (by decide +kernel) rfl rfl ?_
      refine ab_iload_n (pc := 11) (n := 1) (i := 1) (j := 1) (by decide +kernel) rfl rfl ?_
      refine ab_iload_n (pc := 12) (n := 2) (i := 2) (j := 2) (by decide +kernel) rfl rfl ?_
      refine ab_callVi (As := [.int x1, .int x2]) (st := [.ref x0]) (pc := 13) lk_X12_265_12 rfl rfl rfl (by decide) rfl (Nat.le_of_ble_eq_true rfl) (by decide +kernel) (fun y9 e9 => okX12_two hl e9) (fun v15 ev15 => ?_)
      refine ab_goto (pc := 16) (off := 28) (tgt := 44) (by decide +kernel) (by decide) ?_
      exact hj9 v15
set_option maxRecDepth 100000 in
set_option maxHeartbeats 4000000 in
theorem okX12_mix {l : Launch} (hl : l.stackTraces = false) {F : Nat} {x0 : Nat} {x1 : Int32} {x2 : Int32} {h : ab_H} {y : (Int32 × ab_H)} (e : fX12_mix F x0 x1 x2 h = some y) : ab_Met l mX12_mix [.ref x0, .int x1, .int x2] h (.inl (some (.int y.1)), y.2) := ab_ofS (io := (fun y : (Int32 × ab_H) => ((.inl (some (.int y.1)), y.2) : ab_R × ab_H))) (x := y) hl (by decide) rfl (Nat.le_of_ble_eq_true rfl) (wX12_mix hl F x0 x1 x2 h) e
def mX12_steal : ab_M := (yX12_steal, cX12_steal, 4, (some .int), { frames := 2, cells := 0, slots := 0, locals := 46 })
theorem iX12_steal : ab_MI mX12_steal 2 := ⟨kw_a47596697d, kw_30b3f7d7c6, by decide +kernel⟩
def fX12_steal (F : Nat) (x0 : Nat) (x1 : Int32) (x2 : Int32) (h : ab_H) : Option (Int32 × ab_H) := ab_ck (ab_io h x0 12 = true) (ab_bd (fX12_isPerson x0 x1 h) fun v1 => ab_jn (κ := Int32 → Option (Int32 × ab_H)) (fun (z2 : Int32) => ab_bd (ab_fw h x0 12 0 (.int z2)) fun h3 => ab_bd (ab_fi h3 x0 12 0) fun v4 => (if v4 ≤ 0 then ab_ck (ab_io h3 x0 12 = true) (ab_bd (fX12_remembers F x0 h3) fun h6 => ab_bd (ab_fr h6 x0 12 1) fun v7 => ab_bd (ab_ia 0 h6 v7 ((nI 272) + x2)) fun v8 => ab_bd (ab_fr h6 x0 12 1) fun v9 => ab_bd (ab_iw 0 h6 v9 ((nI 272) + x2) (-1 : Int32)) fun h10 => ab_ck (ab_io h10 x0 12 = true) (ab_bd (fX12_has x0 x1 (nI 2) v8 h10) fun h11 => ab_ck (ab_io h11 x0 12 = true) (ab_bd (fX12_writes F x0 x1 x2 v8 (nI 2) h11) fun h12 => some (v8, h12)))) else some (nI 0, h3))) fun j13 => ab_jn (κ := Option (Int32 × ab_H)) (j13 (nI 1)) fun j14 => (if v1 = 0 then j14 else ab_ck (ab_io h x0 12 = true) (ab_bd (fX12_isHook x0 x2 h) fun v16 => (if v16 = 0 then j14 else ab_ck (ab_io h x0 12 = true) (ab_bd (fX12_of x0 x1 (nI 2) h) fun v18 => (if v18 = (-1 : Int32) then ab_bd (ab_fr h x0 12 1) fun v20 => ab_bd (ab_ia 0 h v20 ((nI 272) + x2)) fun v21 => (if v21 = (-1 : Int32) then j13 (nI 2) else j13 (nI 0)) else j13 (nI 2)))))))
set_option maxRecDepth 100000 in
set_option maxHeartbeats 4000000 in
theorem wX12_steal {l : Launch} (hl : l.stackTraces = false) (F : Nat) (x0 : Nat) (x1 : Int32) (x2 : Int32) (h : ab_H) : ab_S l mX12_steal (fun y : (Int32 × ab_H) => ((.inl (some (.int y.1)), y.2) : ab_R × ab_H)) 0 0 (fX12_steal F x0 x1 x2 h) 0 [(0, .ref x0), (1, .int x1), (2, .int x2)] [] h := by
  unfold fX12_steal
  refine ab_aload_n (pc := 0) (n := 0) (i := 0) (j := 0) (by decide +kernel) rfl rfl ?_
  refine ab_aload_n (pc := 1) (n := 0) (i := 0) (j := 0) (by decide +kernel) rfl rfl ?_
  refine ab_iload_n (pc := 2) (n := 1) (i := 1) (j := 1) (by decide +kernel) rfl rfl ?_
  refine ab_callVi (As := [.int x1]) (st := [.ref x0]) (pc := 3) lk_X12_250_12 rfl rfl rfl (by decide) rfl (Nat.le_of_ble_eq_true rfl) (by decide +kernel) (fun y9 e9 => okX12_isPerson hl e9) (fun v1 ev1 => ?_)
  refine ab_jr (fun k9 : Int32 → Option (Int32 × ab_H) => ∀ (z2 : Int32), ab_S l mX12_steal (fun y : (Int32 × ab_H) => ((.inl (some (.int y.1)), y.2) : ab_R × ab_H)) 0 0 (k9 z2) 50 [(0, .ref x0), (1, .int x1), (2, .int x2)] [.int z2, .ref x0] h) ?_ (fun j13 hj13 => ?_)
  · intro z2
    refine ab_put (pc := 50) fl_X12_50_12 rfl (fun _ => rfl) (fun _ => rfl) (by decide +kernel) (fun h3 eh3 => ?_)
    refine ab_aload_n (pc := 53) (n := 0) (i := 0) (j := 0) (by decide +kernel) rfl rfl ?_
    refine ab_getI (pc := 54) fl_X12_50_12 (by decide +kernel) (fun v4 ev4 => ?_)
    refine ab_if_le (off := 5) (pc := 57) (tgt := 62) (by decide +kernel) (by decide) (fun g5 => ?_) (fun g5 => ?_)
    · refine ab_aload_n (pc := 62) (n := 0) (i := 0) (j := 0) (by decide +kernel) rfl rfl ?_
      refine ab_callVw (As := []) (st := []) (pc := 63) lk_X12_279_12 rfl rfl rfl (by decide) rfl (Nat.le_of_ble_eq_true rfl) (by decide +kernel) (fun y9 e9 => okX12_remembers hl (F := F) e9) (fun h6 eh6 => ?_)
      refine ab_aload_n (pc := 66) (n := 0) (i := 0) (j := 0) (by decide +kernel) rfl rfl ?_
      refine ab_getR (pc := 67) fl_X12_7_12 (by decide +kernel) (fun v7 ev7 => ?_)
      refine ab_sipush (pc := 70) (n := 272) (v := nI 272) (by decide +kernel) (by decide) ?_
      refine ab_iload_n (pc := 73) (n := 2) (i := 2) (j := 2) (by decide +kernel) rfl rfl ?_
      refine ab_iadd (pc := 74) (by decide +kernel) ?_
      refine ab_iald (pc := 75) (by decide +kernel) (fun v8 ev8 => ?_)
      refine ab_istore_n (pc := 76) (n := 3) (i := 3) (lv' := [(0, .ref x0), (1, .int x1), (2, .int x2), (3, .int v8)]) (by decide +kernel) rfl (Nat.le_of_ble_eq_true rfl) rfl rfl ?_
      refine ab_aload_n (pc := 77) (n := 0) (i := 0) (j := 0) (by decide +kernel) rfl rfl ?_
      refine ab_getR (pc := 78) fl_X12_7_12 (by decide +kernel) (fun v9 ev9 => ?_)
      refine ab_sipush (pc := 81) (n := 272) (v := nI 272) (by decide +kernel) (by decide) ?_
      refine ab_iload_n (pc := 84) (n := 2) (i := 2) (j := 2) (by decide +kernel) rfl rfl ?_
      refine ab_iadd (pc := 85) (by decide +kernel) ?_
      refine ab_iconst (pc := 86) (n := -1) (v := (-1 : Int32)) (by decide +kernel) rfl ?_
      refine ab_iast (pc := 87) (by decide +kernel) (fun h10 eh10 => ?_)
      refine ab_aload_n (pc := 88) (n := 0) (i := 0) (j := 0) (by decide +kernel) rfl rfl ?_
      refine ab_iload_n (pc := 89) (n := 1) (i := 1) (j := 1) (by decide +kernel) rfl rfl ?_
      refine ab_iconst (pc := 90) (n := 2) (v := nI 2) (by decide +kernel) rfl ?_
      refine ab_iload_n (pc := 91) (n := 3) (i := 3) (j := 3) (by decide +kernel) rfl rfl ?_
      refine ab_callVw (As := [.int x1, .int (nI 2), .int v8]) (st := []) (pc := 92) lk_X12_100_12 rfl rfl rfl (by decide) rfl (Nat.le_of_ble_eq_true rfl) (by decide +kernel) (fun y9 e9 => okX12_has hl e9) (fun h11 eh11 => ?_)
      refine ab_aload_n (pc := 95) (n := 0) (i := 0) (j := 0) (by decide +kernel) rfl rfl ?_
      refine ab_iload_n (pc := 96) (n := 1) (i := 1) (j := 1) (by decide +kernel) rfl rfl ?_
      refine ab_iload_n (pc := 97) (n := 2) (i := 2) (j := 2) (by decide +kernel) rfl rfl ?_
      refine ab_iload_n (pc := 98) (n := 3) (i := 3) (j := 3) (by decide +kernel) rfl rfl ?_
      refine ab_iconst (pc := 99) (n := 2) (v := nI 2) (by decide +kernel) rfl ?_
      refine ab_callVw (As := [.int x1, .int x2, .int v8, .int (nI 2)]) (st := []) (pc := 100) lk_X12_275_12 rfl rfl rfl (by decide) rfl (Nat.le_of_ble_eq_true rfl) (by decide +kernel) (fun y9 e9 => okX12_writes hl (F := F) e9) (fun h12 eh12 => ?_)
      refine ab_iload_n (pc := 103) (n := 3) (i := 3) (j := 3) (by decide +kernel) rfl rfl ?_
      exact ab_iret (pc := 104) (by decide +kernel) rfl rfl (Nat.le_of_ble_eq_true rfl) (Nat.le_of_ble_eq_true rfl)
    · refine ab_iconst (pc := 60) (n := 0) (v := nI 0) (by decide +kernel) rfl ?_
      exact ab_iret (pc := 61) (by decide +kernel) rfl rfl (Nat.le_of_ble_eq_true rfl) (Nat.le_of_ble_eq_true rfl)
  · refine ab_jr (fun k9 : Option (Int32 × ab_H) => ab_S l mX12_steal (fun y : (Int32 × ab_H) => ((.inl (some (.int y.1)), y.2) : ab_R × ab_H)) 0 0 (k9) 17 [(0, .ref x0), (1, .int x1), (2, .int x2)] [.ref x0] h) ?_ (fun j14 hj14 => ?_)
    · refine ab_iconst (pc := 17) (n := 1) (v := nI 1) (by decide +kernel) rfl ?_
      refine ab_goto (pc := 18) (off := 32) (tgt := 50) (by decide +kernel) (by decide) ?_
      exact hj13 (nI 1)
    · refine ab_if_eq (off := 11) (pc := 6) (tgt := 17) (by decide +kernel) (by decide) (fun g15 => ?_) (fun g15 => ?_)
      · exact hj14
      · refine ab_aload_n (pc := 9) (n := 0) (i := 0) (j := 0) (by decide +kernel) rfl rfl ?_
        refine ab_iload_n (pc := 10) (n := 2) (i := 2) (j := 2) (by decide +kernel) rfl rfl ?_
        refine ab_callVi (As := [.int x2]) (st := [.ref x0]) (pc := 11) lk_X12_262_12 rfl rfl rfl (by decide) rfl (Nat.le_of_ble_eq_true rfl) (by decide +kernel) (fun y9 e9 => okX12_isHook hl e9) (fun v16 ev16 => ?_)
        refine ab_if_ne (off := 7) (pc := 14) (tgt := 21) (by decide +kernel) (by decide) (fun g17 => ?_) (fun g17 => ?_)
        · exact hj14
        · refine ab_aload_n (pc := 21) (n := 0) (i := 0) (j := 0) (by decide +kernel) rfl rfl ?_
          refine ab_iload_n (pc := 22) (n := 1) (i := 1) (j := 1) (by decide +kernel) rfl rfl ?_
          refine ab_iconst (pc := 23) (n := 2) (v := nI 2) (by decide +kernel) rfl ?_
          refine ab_callVi (As := [.int x1, .int (nI 2)]) (st := [.ref x0]) (pc := 24) lk_X12_57_12 rfl rfl rfl (by decide) rfl (Nat.le_of_ble_eq_true rfl) (by decide +kernel) (fun y9 e9 => okX12_of hl e9) (fun v18 ev18 => ?_)
          refine ab_iconst (pc := 27) (n := -1) (v := (-1 : Int32)) (by decide +kernel) rfl ?_
          refine ab_icmp_ne (off := 17) (pc := 28) (tgt := 45) (by decide +kernel) (by decide) (fun g19 => ?_) (fun g19 => ?_)
          · refine ab_aload_n (pc := 31) (n := 0) (i := 0) (j := 0) (by decide +kernel) rfl rfl ?_
            refine ab_getR (pc := 32) fl_X12_7_12 (by decide +kernel) (fun v20 ev20 => ?_)
            refine ab_sipush (pc := 35) (n := 272) (v := nI 272) (by decide +kernel) (by decide) ?_
            refine ab_iload_n (pc := 38) (n := 2) (i := 2) (j := 2) (by decide +kernel) rfl rfl ?_
            refine ab_iadd (pc := 39) (by decide +kernel) ?_
            refine ab_iald (pc := 40) (by decide +kernel) (fun v21 ev21 => ?_)
            refine ab_iconst (pc := 41) (n := -1) (v := (-1 : Int32)) (by decide +kernel) rfl ?_
            refine ab_icmp_ne (off := 7) (pc := 42) (tgt := 49) (by decide +kernel) (by decide) (fun g22 => ?_) (fun g22 => ?_)
            · refine ab_iconst (pc := 45) (n := 2) (v := nI 2) (by decide +kernel) rfl ?_
              refine ab_goto (pc := 46) (off := 4) (tgt := 50) (by decide +kernel) (by decide) ?_
              exact hj13 (nI 2)
            · refine ab_iconst (pc := 49) (n := 0) (v := nI 0) (by decide +kernel) rfl ?_
              exact hj13 (nI 0)
          · refine ab_iconst (pc := 45) (n := 2) (v := nI 2) (by decide +kernel) rfl ?_
            refine ab_goto (pc := 46) (off := 4) (tgt := 50) (by decide +kernel) (by decide) ?_
            exact hj13 (nI 2)
set_option maxRecDepth 100000 in
set_option maxHeartbeats 4000000 in
theorem okX12_steal {l : Launch} (hl : l.stackTraces = false) {F : Nat} {x0 : Nat} {x1 : Int32} {x2 : Int32} {h : ab_H} {y : (Int32 × ab_H)} (e : fX12_steal F x0 x1 x2 h = some y) : ab_Met l mX12_steal [.ref x0, .int x1, .int x2] h (.inl (some (.int y.1)), y.2) := ab_ofS (io := (fun y : (Int32 × ab_H) => ((.inl (some (.int y.1)), y.2) : ab_R × ab_H))) (x := y) hl (by decide) rfl (Nat.le_of_ble_eq_true rfl) (wX12_steal hl F x0 x1 x2 h) e
def mX12_change : ab_M := (yX12_change, cX12_change, 4, (some .int), { frames := 3, cells := 0, slots := 0, locals := 65 })
theorem iX12_change : ab_MI mX12_change 2 := ⟨kw_d3eaf643c9, kw_30b3f7d7c6, by decide +kernel⟩
def fX12_change (F : Nat) (x0 : Nat) (x1 : Int32) (x2 : Int32) (h : ab_H) : Option (Int32 × ab_H) := ab_ck (ab_io h x0 12 = true) (ab_bd (fX12_two x0 x1 x2 h) fun v1 => ab_jn (κ := Int32 → Option (Int32 × ab_H)) (fun (z2 : Int32) => ab_bd (ab_fw h x0 12 0 (.int z2)) fun h3 => ab_bd (ab_fi h3 x0 12 0) fun v4 => (if v4 ≤ 0 then ab_ck (ab_io h3 x0 12 = true) (ab_bd (fX12_remembers F x0 h3) fun h6 => ab_ck (ab_io h6 x0 12 = true) (ab_bd (fX12_of x0 x1 (nI 2) h6) fun v7 => ab_ck (ab_io h6 x0 12 = true) (ab_bd (fX12_of x0 x2 (nI 2) h6) fun v8 => ab_ck (ab_io h6 x0 12 = true) (ab_bd (fX12_has x0 x1 (nI 2) v8 h6) fun h9 => ab_ck (ab_io h9 x0 12 = true) (ab_bd (fX12_has x0 x2 (nI 2) v7 h9) fun h10 => ab_ck (ab_io h10 x0 12 = true) (ab_bd (fX12_of x0 x1 (nI 2) h10) fun v11 => some (v11, h10))))))) else some (nI 0, h3))) fun j12 => (if v1 ≤ 0 then ab_ck (ab_io h x0 12 = true) (ab_bd (fX12_of x0 x1 (nI 2) h) fun v14 => (if v14 = (-1 : Int32) then j12 (nI 3) else ab_ck (ab_io h x0 12 = true) (ab_bd (fX12_of x0 x2 (nI 2) h) fun v16 => (if v16 = (-1 : Int32) then j12 (nI 3) else j12 (nI 0))))) else ab_ck (ab_io h x0 12 = true) (ab_bd (fX12_two x0 x1 x2 h) fun v18 => j12 v18)))
set_option maxRecDepth 100000 in
set_option maxHeartbeats 4000000 in
theorem wX12_change {l : Launch} (hl : l.stackTraces = false) (F : Nat) (x0 : Nat) (x1 : Int32) (x2 : Int32) (h : ab_H) : ab_S l mX12_change (fun y : (Int32 × ab_H) => ((.inl (some (.int y.1)), y.2) : ab_R × ab_H)) 0 0 (fX12_change F x0 x1 x2 h) 0 [(0, .ref x0), (1, .int x1), (2, .int x2)] [] h := by
  unfold fX12_change
  refine ab_aload_n (pc := 0) (n := 0) (i := 0) (j := 0) (by decide +kernel) rfl rfl ?_
  refine ab_aload_n (pc := 1) (n := 0) (i := 0) (j := 0) (by decide +kernel) rfl rfl ?_
  refine ab_iload_n (pc := 2) (n := 1) (i := 1) (j := 1) (by decide +kernel) rfl rfl ?_
  refine ab_iload_n (pc := 3) (n := 2) (i := 2) (j := 2) (by decide +kernel) rfl rfl ?_
  refine ab_callVi (As := [.int x1, .int x2]) (st := [.ref x0]) (pc := 4) lk_X12_265_12 rfl rfl rfl (by decide) rfl (Nat.le_of_ble_eq_true rfl) (by decide +kernel) (fun y9 e9 => okX12_two hl e9) (fun v1 ev1 => ?_)
  refine ab_jr (fun k9 : Int32 → Option (Int32 × ab_H) => ∀ (z2 : Int32), ab_S l mX12_change (fun y : (Int32 × ab_H) => ((.inl (some (.int y.1)), y.2) : ab_R × ab_H)) 0 0 (k9 z2) 44 [(0, .ref x0), (1, .int x1), (2, .int x2)] [.int z2, .ref x0] h) ?_ (fun j12 hj12 => ?_)
  · intro z2
    refine ab_put (pc := 44) fl_X12_50_12 rfl (fun _ => rfl) (fun _ => rfl) (by decide +kernel) (fun h3 eh3 => ?_)
    refine ab_aload_n (pc := 47) (n := 0) (i := 0) (j := 0) (by decide +kernel) rfl rfl ?_
    refine ab_getI (pc := 48) fl_X12_50_12 (by decide +kernel) (fun v4 ev4 => ?_)
    refine ab_if_le (off := 5) (pc := 51) (tgt := 56) (by decide +kernel) (by decide) (fun g5 => ?_) (fun g5 => ?_)
    · refine ab_aload_n (pc := 56) (n := 0) (i := 0) (j := 0) (by decide +kernel) rfl rfl ?_
      refine ab_callVw (As := []) (st := []) (pc := 57) lk_X12_279_12 rfl rfl rfl (by decide) rfl (Nat.le_of_ble_eq_true rfl) (by decide +kernel) (fun y9 e9 => okX12_remembers hl (F := F) e9) (fun h6 eh6 => ?_)
      refine ab_aload_n (pc := 60) (n := 0) (i := 0) (j := 0) (by decide +kernel) rfl rfl ?_
      refine ab_iload_n (pc := 61) (n := 1) (i := 1) (j := 1) (by decide +kernel) rfl rfl ?_
      refine ab_iconst (pc := 62) (n := 2) (v := nI 2) (by decide +kernel) rfl ?_
      refine ab_callVi (As := [.int x1, .int (nI 2)]) (st := []) (pc := 63) lk_X12_57_12 rfl rfl rfl (by decide) rfl (Nat.le_of_ble_eq_true rfl) (by decide +kernel) (fun y9 e9 => okX12_of hl e9) (fun v7 ev7 => ?_)
      refine ab_istore_n (pc := 66) (n := 3) (i := 3) (lv' := [(0, .ref x0), (1, .int x1), (2, .int x2), (3, .int v7)]) (by decide +kernel) rfl (Nat.le_of_ble_eq_true rfl) rfl rfl ?_
      refine ab_aload_n (pc := 67) (n := 0) (i := 0) (j := 0) (by decide +kernel) rfl rfl ?_
      refine ab_iload_n (pc := 68) (n := 1) (i := 1) (j := 1) (by decide +kernel) rfl rfl ?_
      refine ab_iconst (pc := 69) (n := 2) (v := nI 2) (by decide +kernel) rfl ?_
      refine ab_aload_n (pc := 70) (n := 0) (i := 0) (j := 0) (by decide +kernel) rfl rfl ?_
      refine ab_iload_n (pc := 71) (n := 2) (i := 2) (j := 2) (by decide +kernel) rfl rfl ?_
      refine ab_iconst (pc := 72) (n := 2) (v := nI 2) (by decide +kernel) rfl ?_
      refine ab_callVi (As := [.int x2, .int (nI 2)]) (st := [.int (nI 2), .int x1, .ref x0]) (pc := 73) lk_X12_57_12 rfl rfl rfl (by decide) rfl (Nat.le_of_ble_eq_true rfl) (by decide +kernel) (fun y9 e9 => okX12_of hl e9) (fun v8 ev8 => ?_)
      refine ab_callVw (As := [.int x1, .int (nI 2), .int v8]) (st := []) (pc := 76) lk_X12_100_12 rfl rfl rfl (by decide) rfl (Nat.le_of_ble_eq_true rfl) (by decide +kernel) (fun y9 e9 => okX12_has hl e9) (fun h9 eh9 => ?_)
      refine ab_aload_n (pc := 79) (n := 0) (i := 0) (j := 0) (by decide +kernel) rfl rfl ?_
      refine ab_iload_n (pc := 80) (n := 2) (i := 2) (j := 2) (by decide +kernel) rfl rfl ?_
      refine ab_iconst (pc := 81) (n := 2) (v := nI 2) (by decide +kernel) rfl ?_
      refine ab_iload_n (pc := 82) (n := 3) (i := 3) (j := 3) (by decide +kernel) rfl rfl ?_
      refine ab_callVw (As := [.int x2, .int (nI 2), .int v7]) (st := []) (pc := 83) lk_X12_100_12 rfl rfl rfl (by decide) rfl (Nat.le_of_ble_eq_true rfl) (by decide +kernel) (fun y9 e9 => okX12_has hl e9) (fun h10 eh10 => ?_)
      refine ab_aload_n (pc := 86) (n := 0) (i := 0) (j := 0) (by decide +kernel) rfl rfl ?_
      refine ab_iload_n (pc := 87) (n := 1) (i := 1) (j := 1) (by decide +kernel) rfl rfl ?_
      refine ab_iconst (pc := 88) (n := 2) (v := nI 2) (by decide +kernel) rfl ?_
      refine ab_callVi (As := [.int x1, .int (nI 2)]) (st := []) (pc := 89) lk_X12_57_12 rfl rfl rfl (by decide) rfl (Nat.le_of_ble_eq_true rfl) (by decide +kernel) (fun y9 e9 => okX12_of hl e9) (fun v11 ev11 => ?_)
      exact ab_iret (pc := 92) (by decide +kernel) rfl rfl (Nat.le_of_ble_eq_true rfl) (Nat.le_of_ble_eq_true rfl)
    · refine ab_iconst (pc := 54) (n := 0) (v := nI 0) (by decide +kernel) rfl ?_
      exact ab_iret (pc := 55) (by decide +kernel) rfl rfl (Nat.le_of_ble_eq_true rfl) (Nat.le_of_ble_eq_true rfl)
  · refine ab_if_le (off := 12) (pc := 7) (tgt := 19) (by decide +kernel) (by decide) (fun g13 => ?_) (fun g13 => ?_)
    · refine ab_aload_n (pc := 19) (n := 0) (i := 0) (j := 0) (by decide +kernel) rfl rfl ?_
      refine ab_iload_n (pc := 20) (n := 1) (i := 1) (j := 1) (by decide +kernel) rfl rfl ?_
      refine ab_iconst (pc := 21) (n := 2) (v := nI 2) (by decide +kernel) rfl ?_
      refine ab_callVi (As := [.int x1, .int (nI 2)]) (st := [.ref x0]) (pc := 22) lk_X12_57_12 rfl rfl rfl (by decide) rfl (Nat.le_of_ble_eq_true rfl) (by decide +kernel) (fun y9 e9 => okX12_of hl e9) (fun v14 ev14 => ?_)
      refine ab_iconst (pc := 25) (n := -1) (v := (-1 : Int32)) (by decide +kernel) rfl ?_
      refine ab_icmp_eq (off := 13) (pc := 26) (tgt := 39) (by decide +kernel) (by decide) (fun g15 => ?_) (fun g15 => ?_)
      · refine ab_iconst (pc := 39) (n := 3) (v := nI 3) (by decide +kernel) rfl ?_
        refine ab_goto (pc := 40) (off := 4) (tgt := 44) (by decide +kernel) (by decide) ?_
        exact hj12 (nI 3)
      · refine ab_aload_n (pc := 29) (n := 0) (i := 0) (j := 0) (by decide +kernel) rfl rfl ?_
        refine ab_iload_n (pc := 30) (n := 2) (i := 2) (j := 2) (by decide +kernel) rfl rfl ?_
        refine ab_iconst (pc := 31) (n := 2) (v := nI 2) (by decide +kernel) rfl ?_
        refine ab_callVi (As := [.int x2, .int (nI 2)]) (st := [.ref x0]) (pc := 32) lk_X12_57_12 rfl rfl rfl (by decide) rfl (Nat.le_of_ble_eq_true rfl) (by decide +kernel) (fun y9 e9 => okX12_of hl e9) (fun v16 ev16 => ?_)
        refine ab_iconst (pc := 35) (n := -1) (v := (-1 : Int32)) (by decide +kernel) rfl ?_
        refine ab_icmp_ne (off := 7) (pc := 36) (tgt := 43) (by decide +kernel) (by decide) (fun g17 => ?_) (fun g17 => ?_)
        · refine ab_iconst (pc := 39) (n := 3) (v := nI 3) (by decide +kernel) rfl ?_
          refine ab_goto (pc := 40) (off := 4) (tgt := 44) (by decide +kernel) (by decide) ?_
          exact hj12 (nI 3)
        · refine ab_iconst (pc := 43) (n := 0) (v := nI 0) (by decide +kernel) rfl ?_
          exact hj12 (nI 0)
    · refine ab_aload_n (pc := 10) (n := 0) (i := 0) (j := 0) (by decide +kernel) rfl rfl ?_
      refine ab_iload_n (pc := 11) (n := 1) (i := 1) (j := 1) (by decide +kernel) rfl rfl ?_
      refine ab_iload_n (pc := 12) (n := 2) (i := 2) (j := 2) (by decide +kernel) rfl rfl ?_
      refine ab_callVi (As := [.int x1, .int x2]) (st := [.ref x0]) (pc := 13) lk_X12_265_12 rfl rfl rfl (by decide) rfl (Nat.le_of_ble_eq_true rfl) (by decide +kernel) (fun y9 e9 => okX12_two hl e9) (fun v18 ev18 => ?_)
      refine ab_goto (pc := 16) (off := 28) (tgt := 44) (by decide +kernel) (by decide) ?_
      exact hj12 v18
set_option maxRecDepth 100000 in
set_option maxHeartbeats 4000000 in
theorem okX12_change {l : Launch} (hl : l.stackTraces = false) {F : Nat} {x0 : Nat} {x1 : Int32} {x2 : Int32} {h : ab_H} {y : (Int32 × ab_H)} (e : fX12_change F x0 x1 x2 h = some y) : ab_Met l mX12_change [.ref x0, .int x1, .int x2] h (.inl (some (.int y.1)), y.2) := ab_ofS (io := (fun y : (Int32 × ab_H) => ((.inl (some (.int y.1)), y.2) : ab_R × ab_H))) (x := y) hl (by decide) rfl (Nat.le_of_ble_eq_true rfl) (wX12_change hl F x0 x1 x2 h) e
def mX12_shave : ab_M := (yX12_shave, cX12_shave, 3, (some .int), { frames := 2, cells := 0, slots := 0, locals := 43 })
theorem iX12_shave : ab_MI mX12_shave 2 := ⟨kw_faf3befc78, kw_30b3f7d7c6, by decide +kernel⟩
theorem lk_X12_242 : ab_LS RX12 242 mX12_bits 1 := ⟨iX12_bits, kw_d58bd56479, kw_352f77ef36⟩
def fX12_shave (F : Nat) (x0 : Nat) (x1 : Int32) (x2 : Int32) (h : ab_H) : Option (Int32 × ab_H) := ab_ck (ab_io h x0 12 = true) (ab_bd (fX12_isPerson x0 x1 h) fun v1 => ab_jn (κ := Int32 → Option (Int32 × ab_H)) (fun (z2 : Int32) => ab_bd (ab_fw h x0 12 0 (.int z2)) fun h3 => ab_bd (ab_fi h3 x0 12 0) fun v4 => (if v4 ≤ 0 then ab_ck (ab_io h3 x0 12 = true) (ab_bd (fX12_remembers F x0 h3) fun h6 => ab_ck (ab_io h6 x0 12 = true) (ab_bd (fX12_of x0 x1 (nI 0) h6) fun v7 => ab_ck (ab_io h6 x0 12 = true) (ab_bd (fX12_has x0 x1 (nI 0) (v7 &&& (((nI 1) <<< (x2 &&& 31)) ^^^ (-1 : Int32))) h6) fun h8 => ab_ck (ab_io h8 x0 12 = true) (ab_bd (fX12_of x0 x1 (nI 0) h8) fun v9 => ab_bd (fX12_bits F v9 h8) fun v10 => some (v10, h8))))) else some (nI 0, h3))) fun j11 => ab_jn (κ := Option (Int32 × ab_H)) (j11 (nI 1)) fun j12 => (if v1 = 0 then j12 else ab_bd (fX12_isIn x2 (nI 0) (nI 7) h) fun v14 => (if v14 = 0 then j12 else ab_ck (ab_io h x0 12 = true) (ab_bd (fX12_of x0 x1 (nI 0) h) fun v16 => ab_bd (fX12_isOf v16 x2 h) fun v17 => (if v17 = 0 then j11 (nI 2) else j11 (nI 0))))))
set_option maxRecDepth 100000 in
set_option maxHeartbeats 4000000 in
theorem wX12_shave {l : Launch} (hl : l.stackTraces = false) (F : Nat) (x0 : Nat) (x1 : Int32) (x2 : Int32) (h : ab_H) : ab_S l mX12_shave (fun y : (Int32 × ab_H) => ((.inl (some (.int y.1)), y.2) : ab_R × ab_H)) 0 0 (fX12_shave F x0 x1 x2 h) 0 [(0, .ref x0), (1, .int x1), (2, .int x2)] [] h := by
  unfold fX12_shave
  refine ab_aload_n (pc := 0) (n := 0) (i := 0) (j := 0) (by decide +kernel) rfl rfl ?_
  refine ab_aload_n (pc := 1) (n := 0) (i := 0) (j := 0) (by decide +kernel) rfl rfl ?_
  refine ab_iload_n (pc := 2) (n := 1) (i := 1) (j := 1) (by decide +kernel) rfl rfl ?_
  refine ab_callVi (As := [.int x1]) (st := [.ref x0]) (pc := 3) lk_X12_250_12 rfl rfl rfl (by decide) rfl (Nat.le_of_ble_eq_true rfl) (by decide +kernel) (fun y9 e9 => okX12_isPerson hl e9) (fun v1 ev1 => ?_)
  refine ab_jr (fun k9 : Int32 → Option (Int32 × ab_H) => ∀ (z2 : Int32), ab_S l mX12_shave (fun y : (Int32 × ab_H) => ((.inl (some (.int y.1)), y.2) : ab_R × ab_H)) 0 0 (k9 z2) 41 [(0, .ref x0), (1, .int x1), (2, .int x2)] [.int z2, .ref x0] h) ?_ (fun j11 hj11 => ?_)
  · intro z2
    refine ab_put (pc := 41) fl_X12_50_12 rfl (fun _ => rfl) (fun _ => rfl) (by decide +kernel) (fun h3 eh3 => ?_)
    refine ab_aload_n (pc := 44) (n := 0) (i := 0) (j := 0) (by decide +kernel) rfl rfl ?_
    refine ab_getI (pc := 45) fl_X12_50_12 (by decide +kernel) (fun v4 ev4 => ?_)
    refine ab_if_le (off := 5) (pc := 48) (tgt := 53) (by decide +kernel) (by decide) (fun g5 => ?_) (fun g5 => ?_)
    · refine ab_aload_n (pc := 53) (n := 0) (i := 0) (j := 0) (by decide +kernel) rfl rfl ?_
      refine ab_callVw (As := []) (st := []) (pc := 54) lk_X12_279_12 rfl rfl rfl (by decide) rfl (Nat.le_of_ble_eq_true rfl) (by decide +kernel) (fun y9 e9 => okX12_remembers hl (F := F) e9) (fun h6 eh6 => ?_)
      refine ab_aload_n (pc := 57) (n := 0) (i := 0) (j := 0) (by decide +kernel) rfl rfl ?_
      refine ab_iload_n (pc := 58) (n := 1) (i := 1) (j := 1) (by decide +kernel) rfl rfl ?_
      refine ab_iconst (pc := 59) (n := 0) (v := nI 0) (by decide +kernel) rfl ?_
      refine ab_aload_n (pc := 60) (n := 0) (i := 0) (j := 0) (by decide +kernel) rfl rfl ?_
      refine ab_iload_n (pc := 61) (n := 1) (i := 1) (j := 1) (by decide +kernel) rfl rfl ?_
      refine ab_iconst (pc := 62) (n := 0) (v := nI 0) (by decide +kernel) rfl ?_
      refine ab_callVi (As := [.int x1, .int (nI 0)]) (st := [.int (nI 0), .int x1, .ref x0]) (pc := 63) lk_X12_57_12 rfl rfl rfl (by decide) rfl (Nat.le_of_ble_eq_true rfl) (by decide +kernel) (fun y9 e9 => okX12_of hl e9) (fun v7 ev7 => ?_)
      refine ab_iconst (pc := 66) (n := 1) (v := nI 1) (by decide +kernel) rfl ?_
      refine ab_iload_n (pc := 67) (n := 2) (i := 2) (j := 2) (by decide +kernel) rfl rfl ?_
      refine ab_ishl (pc := 68) (by decide +kernel) ?_
      refine ab_iconst (pc := 69) (n := -1) (v := (-1 : Int32)) (by decide +kernel) rfl ?_
      refine ab_ixor (pc := 70) (by decide +kernel) ?_
      refine ab_iand (pc := 71) (by decide +kernel) ?_
      refine ab_callVw (As := [.int x1, .int (nI 0), .int (v7 &&& (((nI 1) <<< (x2 &&& 31)) ^^^ (-1 : Int32)))]) (st := []) (pc := 72) lk_X12_100_12 rfl rfl rfl (by decide) rfl (Nat.le_of_ble_eq_true rfl) (by decide +kernel) (fun y9 e9 => okX12_has hl e9) (fun h8 eh8 => ?_)
      refine ab_aload_n (pc := 75) (n := 0) (i := 0) (j := 0) (by decide +kernel) rfl rfl ?_
      refine ab_iload_n (pc := 76) (n := 1) (i := 1) (j := 1) (by decide +kernel) rfl rfl ?_
      refine ab_iconst (pc := 77) (n := 0) (v := nI 0) (by decide +kernel) rfl ?_
      refine ab_callVi (As := [.int x1, .int (nI 0)]) (st := []) (pc := 78) lk_X12_57_12 rfl rfl rfl (by decide) rfl (Nat.le_of_ble_eq_true rfl) (by decide +kernel) (fun y9 e9 => okX12_of hl e9) (fun v9 ev9 => ?_)
      refine ab_callSi (As := [.int v9]) (st := []) (pc := 81) lk_X12_242 rfl rfl rfl (by decide) rfl (Nat.le_of_ble_eq_true rfl) (by decide +kernel) (fun y9 e9 => okX12_bits hl (F := F) e9) (fun v10 ev10 => ?_)
      exact ab_iret (pc := 84) (by decide +kernel) rfl rfl (Nat.le_of_ble_eq_true rfl) (Nat.le_of_ble_eq_true rfl)
    · refine ab_iconst (pc := 51) (n := 0) (v := nI 0) (by decide +kernel) rfl ?_
      exact ab_iret (pc := 52) (by decide +kernel) rfl rfl (Nat.le_of_ble_eq_true rfl) (Nat.le_of_ble_eq_true rfl)
  · refine ab_jr (fun k9 : Option (Int32 × ab_H) => ab_S l mX12_shave (fun y : (Int32 × ab_H) => ((.inl (some (.int y.1)), y.2) : ab_R × ab_H)) 0 0 (k9) 19 [(0, .ref x0), (1, .int x1), (2, .int x2)] [.ref x0] h) ?_ (fun j12 hj12 => ?_)
    · refine ab_iconst (pc := 19) (n := 1) (v := nI 1) (by decide +kernel) rfl ?_
      refine ab_goto (pc := 20) (off := 21) (tgt := 41) (by decide +kernel) (by decide) ?_
      exact hj11 (nI 1)
    · refine ab_if_eq (off := 13) (pc := 6) (tgt := 19) (by decide +kernel) (by decide) (fun g13 => ?_) (fun g13 => ?_)
      · exact hj12
      · refine ab_iload_n (pc := 9) (n := 2) (i := 2) (j := 2) (by decide +kernel) rfl rfl ?_
        refine ab_iconst (pc := 10) (n := 0) (v := nI 0) (by decide +kernel) rfl ?_
        refine ab_bipush (pc := 11) (n := 7) (v := nI 7) (by decide +kernel) (by decide) ?_
        refine ab_callSi (As := [.int x2, .int (nI 0), .int (nI 7)]) (st := [.ref x0]) (pc := 13) lk_X12_53 rfl rfl rfl (by decide) rfl (Nat.le_of_ble_eq_true rfl) (by decide +kernel) (fun y9 e9 => okX12_isIn hl e9) (fun v14 ev14 => ?_)
        refine ab_if_ne (off := 7) (pc := 16) (tgt := 23) (by decide +kernel) (by decide) (fun g15 => ?_) (fun g15 => ?_)
        · exact hj12
        · refine ab_aload_n (pc := 23) (n := 0) (i := 0) (j := 0) (by decide +kernel) rfl rfl ?_
          refine ab_iload_n (pc := 24) (n := 1) (i := 1) (j := 1) (by decide +kernel) rfl rfl ?_
          refine ab_iconst (pc := 25) (n := 0) (v := nI 0) (by decide +kernel) rfl ?_
          refine ab_callVi (As := [.int x1, .int (nI 0)]) (st := [.ref x0]) (pc := 26) lk_X12_57_12 rfl rfl rfl (by decide) rfl (Nat.le_of_ble_eq_true rfl) (by decide +kernel) (fun y9 e9 => okX12_of hl e9) (fun v16 ev16 => ?_)
          refine ab_iload_n (pc := 29) (n := 2) (i := 2) (j := 2) (by decide +kernel) rfl rfl ?_
          refine ab_callSi (As := [.int v16, .int x2]) (st := [.ref x0]) (pc := 30) lk_X12_107 rfl rfl rfl (by decide) rfl (Nat.le_of_ble_eq_true rfl) (by decide +kernel) (fun y9 e9 => okX12_isOf hl e9) (fun v17 ev17 => ?_)
          refine ab_if_ne (off := 7) (pc := 33) (tgt := 40) (by decide +kernel) (by decide) (fun g18 => ?_) (fun g18 => ?_)
          · refine ab_iconst (pc := 36) (n := 2) (v := nI 2) (by decide +kernel) rfl ?_
            refine ab_goto (pc := 37) (off := 4) (tgt := 41) (by decide +kernel) (by decide) ?_
            exact hj11 (nI 2)
          · refine ab_iconst (pc := 40) (n := 0) (v := nI 0) (by decide +kernel) rfl ?_
            exact hj11 (nI 0)
set_option maxRecDepth 100000 in
set_option maxHeartbeats 4000000 in
theorem okX12_shave {l : Launch} (hl : l.stackTraces = false) {F : Nat} {x0 : Nat} {x1 : Int32} {x2 : Int32} {h : ab_H} {y : (Int32 × ab_H)} (e : fX12_shave F x0 x1 x2 h = some y) : ab_Met l mX12_shave [.ref x0, .int x1, .int x2] h (.inl (some (.int y.1)), y.2) := ab_ofS (io := (fun y : (Int32 × ab_H) => ((.inl (some (.int y.1)), y.2) : ab_R × ab_H))) (x := y) hl (by decide) rfl (Nat.le_of_ble_eq_true rfl) (wX12_shave hl F x0 x1 x2 h) e
def mX12_graft : ab_M := (yX12_graft, cX12_graft, 4, (some .int), { frames := 2, cells := 0, slots := 0, locals := 43 })
theorem iX12_graft : ab_MI mX12_graft 3 := ⟨kw_92faaea9a9, kw_30b3f7d7c6, by decide +kernel⟩
def fX12_graft (F : Nat) (x0 : Nat) (x1 : Int32) (x2 : Int32) (x3 : Int32) (h : ab_H) : Option (Int32 × ab_H) := ab_ck (ab_io h x0 12 = true) (ab_bd (fX12_isPerson x0 x1 h) fun v1 => ab_jn (κ := Int32 → Option (Int32 × ab_H)) (fun (z2 : Int32) => ab_bd (ab_fw h x0 12 0 (.int z2)) fun h3 => ab_bd (ab_fi h3 x0 12 0) fun v4 => (if v4 ≤ 0 then ab_ck (ab_io h3 x0 12 = true) (ab_bd (fX12_remembers F x0 h3) fun h6 => ab_ck (ab_io h6 x0 12 = true) (ab_bd (fX12_of x0 x1 (nI 0) h6) fun v7 => ab_ck (ab_io h6 x0 12 = true) (ab_bd (fX12_has x0 x1 (nI 0) (v7 &&& (((nI 1) <<< (x3 &&& 31)) ^^^ (-1 : Int32))) h6) fun h8 => ab_ck (ab_io h8 x0 12 = true) (ab_bd (fX12_of x0 x2 (nI 0) h8) fun v9 => ab_ck (ab_io h8 x0 12 = true) (ab_bd (fX12_has x0 x2 (nI 0) (v9 ||| ((nI 1) <<< (x3 &&& 31))) h8) fun h10 => ab_ck (ab_io h10 x0 12 = true) (ab_bd (fX12_of x0 x2 (nI 0) h10) fun v11 => ab_bd (fX12_bits F v11 h10) fun v12 => some (v12, h10))))))) else some (nI 0, h3))) fun j13 => ab_jn (κ := Option (Int32 × ab_H)) (j13 (nI 1)) fun j14 => (if v1 = 0 then j14 else ab_ck (ab_io h x0 12 = true) (ab_bd (fX12_isPerson x0 x2 h) fun v16 => (if v16 = 0 then j14 else ab_bd (fX12_isIn x3 (nI 0) (nI 7) h) fun v18 => (if v18 = 0 then j14 else (if x1 = x2 then j13 (nI 2) else ab_ck (ab_io h x0 12 = true) (ab_bd (fX12_of x0 x1 (nI 0) h) fun v21 => ab_bd (fX12_isOf v21 x3 h) fun v22 => (if v22 = 0 then j13 (nI 3) else ab_ck (ab_io h x0 12 = true) (ab_bd (fX12_of x0 x2 (nI 0) h) fun v24 => ab_bd (fX12_isOf v24 x3 h) fun v25 => (if v25 = 0 then j13 (nI 0) else j13 (nI 3)))))))))))
set_option maxRecDepth 100000 in
set_option maxHeartbeats 4000000 in
theorem wX12_graft {l : Launch} (hl : l.stackTraces = false) (F : Nat) (x0 : Nat) (x1 : Int32) (x2 : Int32) (x3 : Int32) (h : ab_H) : ab_S l mX12_graft (fun y : (Int32 × ab_H) => ((.inl (some (.int y.1)), y.2) : ab_R × ab_H)) 0 0 (fX12_graft F x0 x1 x2 x3 h) 0 [(0, .ref x0), (1, .int x1), (2, .int x2), (3, .int x3)] [] h := by
  unfold fX12_graft
  refine ab_aload_n (pc := 0) (n := 0) (i := 0) (j := 0) (by decide +kernel) rfl rfl ?_
  refine ab_aload_n (pc := 1) (n := 0) (i := 0) (j := 0) (by decide +kernel) rfl rfl ?_
  refine ab_iload_n (pc := 2) (n := 1) (i := 1) (j := 1) (by decide +kernel) rfl rfl ?_
  refine ab_callVi (As := [.int x1]) (st := [.ref x0]) (pc := 3) lk_X12_250_12 rfl rfl rfl (by decide) rfl (Nat.le_of_ble_eq_true rfl) (by decide +kernel) (fun y9 e9 => okX12_isPerson hl e9) (fun v1 ev1 => ?_)
  refine ab_jr (fun k9 : Int32 → Option (Int32 × ab_H) => ∀ (z2 : Int32), ab_S l mX12_graft (fun y : (Int32 × ab_H) => ((.inl (some (.int y.1)), y.2) : ab_R × ab_H)) 0 0 (k9 z2) 71 [(0, .ref x0), (1, .int x1), (2, .int x2), (3, .int x3)] [.int z2, .ref x0] h) ?_ (fun j13 hj13 => ?_)
  · intro z2
    refine ab_put (pc := 71) fl_X12_50_12 rfl (fun _ => rfl) (fun _ => rfl) (by decide +kernel) (fun h3 eh3 => ?_)
    refine ab_aload_n (pc := 74) (n := 0) (i := 0) (j := 0) (by decide +kernel) rfl rfl ?_
    refine ab_getI (pc := 75) fl_X12_50_12 (by decide +kernel) (fun v4 ev4 => ?_)
    refine ab_if_le (off := 5) (pc := 78) (tgt := 83) (by decide +kernel) (by decide) (fun g5 => ?_) (fun g5 => ?_)
    · refine ab_aload_n (pc := 83) (n := 0) (i := 0) (j := 0) (by decide +kernel) rfl rfl ?_
      refine ab_callVw (As := []) (st := []) (pc := 84) lk_X12_279_12 rfl rfl rfl (by decide) rfl (Nat.le_of_ble_eq_true rfl) (by decide +kernel) (fun y9 e9 => okX12_remembers hl (F := F) e9) (fun h6 eh6 => ?_)
      refine ab_aload_n (pc := 87) (n := 0) (i := 0) (j := 0) (by decide +kernel) rfl rfl ?_
      refine ab_iload_n (pc := 88) (n := 1) (i := 1) (j := 1) (by decide +kernel) rfl rfl ?_
      refine ab_iconst (pc := 89) (n := 0) (v := nI 0) (by decide +kernel) rfl ?_
      refine ab_aload_n (pc := 90) (n := 0) (i := 0) (j := 0) (by decide +kernel) rfl rfl ?_
      refine ab_iload_n (pc := 91) (n := 1) (i := 1) (j := 1) (by decide +kernel) rfl rfl ?_
      refine ab_iconst (pc := 92) (n := 0) (v := nI 0) (by decide +kernel) rfl ?_
      refine ab_callVi (As := [.int x1, .int (nI 0)]) (st := [.int (nI 0), .int x1, .ref x0]) (pc := 93) lk_X12_57_12 rfl rfl rfl (by decide) rfl (Nat.le_of_ble_eq_true rfl) (by decide +kernel) (fun y9 e9 => okX12_of hl e9) (fun v7 ev7 => ?_)
      refine ab_iconst (pc := 96) (n := 1) (v := nI 1) (by decide +kernel) rfl ?_
      refine ab_iload_n (pc := 97) (n := 3) (i := 3) (j := 3) (by decide +kernel) rfl rfl ?_
      refine ab_ishl (pc := 98) (by decide +kernel) ?_
      refine ab_iconst (pc := 99) (n := -1) (v := (-1 : Int32)) (by decide +kernel) rfl ?_
      refine ab_ixor (pc := 100) (by decide +kernel) ?_
      refine ab_iand (pc := 101) (by decide +kernel) ?_
      refine ab_callVw (As := [.int x1, .int (nI 0), .int (v7 &&& (((nI 1) <<< (x3 &&& 31)) ^^^ (-1 : Int32)))]) (st := []) (pc := 102) lk_X12_100_12 rfl rfl rfl (by decide) rfl (Nat.le_of_ble_eq_true rfl) (by decide +kernel) (fun y9 e9 => okX12_has hl e9) (fun h8 eh8 => ?_)
      refine ab_aload_n (pc := 105) (n := 0) (i := 0) (j := 0) (by decide +kernel) rfl rfl ?_
      refine ab_iload_n (pc := 106) (n := 2) (i := 2) (j := 2) (by decide +kernel) rfl rfl ?_
      refine ab_iconst (pc := 107) (n := 0) (v := nI 0) (by decide +kernel) rfl ?_
      refine ab_aload_n (pc := 108) (n := 0) (i := 0) (j := 0) (by decide +kernel) rfl rfl ?_
      refine ab_iload_n (pc := 109) (n := 2) (i := 2) (j := 2) (by decide +kernel) rfl rfl ?_
      refine ab_iconst (pc := 110) (n := 0) (v := nI 0) (by decide +kernel) rfl ?_
      refine ab_callVi (As := [.int x2, .int (nI 0)]) (st := [.int (nI 0), .int x2, .ref x0]) (pc := 111) lk_X12_57_12 rfl rfl rfl (by decide) rfl (Nat.le_of_ble_eq_true rfl) (by decide +kernel) (fun y9 e9 => okX12_of hl e9) (fun v9 ev9 => ?_)
      refine ab_iconst (pc := 114) (n := 1) (v := nI 1) (by decide +kernel) rfl ?_
      refine ab_iload_n (pc := 115) (n := 3) (i := 3) (j := 3) (by decide +kernel) rfl rfl ?_
      refine ab_ishl (pc := 116) (by decide +kernel) ?_
      refine ab_ior (pc := 117) (by decide +kernel) ?_
      refine ab_callVw (As := [.int x2, .int (nI 0), .int (v9 ||| ((nI 1) <<< (x3 &&& 31)))]) (st := []) (pc := 118) lk_X12_100_12 rfl rfl rfl (by decide) rfl (Nat.le_of_ble_eq_true rfl) (by decide +kernel) (fun y9 e9 => okX12_has hl e9) (fun h10 eh10 => ?_)
      refine ab_aload_n (pc := 121) (n := 0) (i := 0) (j := 0) (by decide +kernel) rfl rfl ?_
      refine ab_iload_n (pc := 122) (n := 2) (i := 2) (j := 2) (by decide +kernel) rfl rfl ?_
      refine ab_iconst (pc := 123) (n := 0) (v := nI 0) (by decide +kernel) rfl ?_
      refine ab_callVi (As := [.int x2, .int (nI 0)]) (st := []) (pc := 124) lk_X12_57_12 rfl rfl rfl (by decide) rfl (Nat.le_of_ble_eq_true rfl) (by decide +kernel) (fun y9 e9 => okX12_of hl e9) (fun v11 ev11 => ?_)
      refine ab_callSi (As := [.int v11]) (st := []) (pc := 127) lk_X12_242 rfl rfl rfl (by decide) rfl (Nat.le_of_ble_eq_true rfl) (by decide +kernel) (fun y9 e9 => okX12_bits hl (F := F) e9) (fun v12 ev12 => ?_)
      exact ab_iret (pc := 130) (by decide +kernel) rfl rfl (Nat.le_of_ble_eq_true rfl) (Nat.le_of_ble_eq_true rfl)
    · refine ab_iconst (pc := 81) (n := 0) (v := nI 0) (by decide +kernel) rfl ?_
      exact ab_iret (pc := 82) (by decide +kernel) rfl rfl (Nat.le_of_ble_eq_true rfl) (Nat.le_of_ble_eq_true rfl)
  · refine ab_jr (fun k9 : Option (Int32 × ab_H) => ab_S l mX12_graft (fun y : (Int32 × ab_H) => ((.inl (some (.int y.1)), y.2) : ab_R × ab_H)) 0 0 (k9) 27 [(0, .ref x0), (1, .int x1), (2, .int x2), (3, .int x3)] [.ref x0] h) ?_ (fun j14 hj14 => ?_)
    · refine ab_iconst (pc := 27) (n := 1) (v := nI 1) (by decide +kernel) rfl ?_
      refine ab_goto (pc := 28) (off := 43) (tgt := 71) (by decide +kernel) (by decide) ?_
      exact hj13 (nI 1)
    · refine ab_if_eq (off := 21) (pc := 6) (tgt := 27) (by decide +kernel) (by decide) (fun g15 => ?_) (fun g15 => ?_)
      · exact hj14
      · refine ab_aload_n (pc := 9) (n := 0) (i := 0) (j := 0) (by decide +kernel) rfl rfl ?_
        refine ab_iload_n (pc := 10) (n := 2) (i := 2) (j := 2) (by decide +kernel) rfl rfl ?_
        refine ab_callVi (As := [.int x2]) (st := [.ref x0]) (pc := 11) lk_X12_250_12 rfl rfl rfl (by decide) rfl (Nat.le_of_ble_eq_true rfl) (by decide +kernel) (fun y9 e9 => okX12_isPerson hl e9) (fun v16 ev16 => ?_)
        refine ab_if_eq (off := 13) (pc := 14) (tgt := 27) (by decide +kernel) (by decide) (fun g17 => ?_) (fun g17 => ?_)
        · exact hj14
        · refine ab_iload_n (pc := 17) (n := 3) (i := 3) (j := 3) (by decide +kernel) rfl rfl ?_
          refine ab_iconst (pc := 18) (n := 0) (v := nI 0) (by decide +kernel) rfl ?_
          refine ab_bipush (pc := 19) (n := 7) (v := nI 7) (by decide +kernel) (by decide) ?_
          refine ab_callSi (As := [.int x3, .int (nI 0), .int (nI 7)]) (st := [.ref x0]) (pc := 21) lk_X12_53 rfl rfl rfl (by decide) rfl (Nat.le_of_ble_eq_true rfl) (by decide +kernel) (fun y9 e9 => okX12_isIn hl e9) (fun v18 ev18 => ?_)
          refine ab_if_ne (off := 7) (pc := 24) (tgt := 31) (by decide +kernel) (by decide) (fun g19 => ?_) (fun g19 => ?_)
          · exact hj14
          · refine ab_iload_n (pc := 31) (n := 1) (i := 1) (j := 1) (by decide +kernel) rfl rfl ?_
            refine ab_iload_n (pc := 32) (n := 2) (i := 2) (j := 2) (by decide +kernel) rfl rfl ?_
            refine ab_icmp_ne (off := 7) (pc := 33) (tgt := 40) (by decide +kernel) (by decide) (fun g20 => ?_) (fun g20 => ?_)
            · refine ab_iconst (pc := 36) (n := 2) (v := nI 2) (by decide +kernel) rfl ?_
              refine ab_goto (pc := 37) (off := 34) (tgt := 71) (by decide +kernel) (by decide) ?_
              exact hj13 (nI 2)
            · refine ab_aload_n (pc := 40) (n := 0) (i := 0) (j := 0) (by decide +kernel) rfl rfl ?_
              refine ab_iload_n (pc := 41) (n := 1) (i := 1) (j := 1) (by decide +kernel) rfl rfl ?_
              refine ab_iconst (pc := 42) (n := 0) (v := nI 0) (by decide +kernel) rfl ?_
              refine ab_callVi (As := [.int x1, .int (nI 0)]) (st := [.ref x0]) (pc := 43) lk_X12_57_12 rfl rfl rfl (by decide) rfl (Nat.le_of_ble_eq_true rfl) (by decide +kernel) (fun y9 e9 => okX12_of hl e9) (fun v21 ev21 => ?_)
              refine ab_iload_n (pc := 46) (n := 3) (i := 3) (j := 3) (by decide +kernel) rfl rfl ?_
              refine ab_callSi (As := [.int v21, .int x3]) (st := [.ref x0]) (pc := 47) lk_X12_107 rfl rfl rfl (by decide) rfl (Nat.le_of_ble_eq_true rfl) (by decide +kernel) (fun y9 e9 => okX12_isOf hl e9) (fun v22 ev22 => ?_)
              refine ab_if_eq (off := 16) (pc := 50) (tgt := 66) (by decide +kernel) (by decide) (fun g23 => ?_) (fun g23 => ?_)
              · refine ab_iconst (pc := 66) (n := 3) (v := nI 3) (by decide +kernel) rfl ?_
                refine ab_goto (pc := 67) (off := 4) (tgt := 71) (by decide +kernel) (by decide) ?_
                exact hj13 (nI 3)
              · refine ab_aload_n (pc := 53) (n := 0) (i := 0) (j := 0) (by decide +kernel) rfl rfl ?_
                refine ab_iload_n (pc := 54) (n := 2) (i := 2) (j := 2) (by decide +kernel) rfl rfl ?_
                refine ab_iconst (pc := 55) (n := 0) (v := nI 0) (by decide +kernel) rfl ?_
                refine ab_callVi (As := [.int x2, .int (nI 0)]) (st := [.ref x0]) (pc := 56) lk_X12_57_12 rfl rfl rfl (by decide) rfl (Nat.le_of_ble_eq_true rfl) (by decide +kernel) (fun y9 e9 => okX12_of hl e9) (fun v24 ev24 => ?_)
                refine ab_iload_n (pc := 59) (n := 3) (i := 3) (j := 3) (by decide +kernel) rfl rfl ?_
                refine ab_callSi (As := [.int v24, .int x3]) (st := [.ref x0]) (pc := 60) lk_X12_107 rfl rfl rfl (by decide) rfl (Nat.le_of_ble_eq_true rfl) (by decide +kernel) (fun y9 e9 => okX12_isOf hl e9) (fun v25 ev25 => ?_)
                refine ab_if_eq (off := 7) (pc := 63) (tgt := 70) (by decide +kernel) (by decide) (fun g26 => ?_) (fun g26 => ?_)
                · refine ab_iconst (pc := 70) (n := 0) (v := nI 0) (by decide +kernel) rfl ?_
                  exact hj13 (nI 0)
                · refine ab_iconst (pc := 66) (n := 3) (v := nI 3) (by decide +kernel) rfl ?_
                  refine ab_goto (pc := 67) (off := 4) (tgt := 71) (by decide +kernel) (by decide) ?_
                  exact hj13 (nI 3)
set_option maxRecDepth 100000 in
set_option maxHeartbeats 4000000 in
theorem okX12_graft {l : Launch} (hl : l.stackTraces = false) {F : Nat} {x0 : Nat} {x1 : Int32} {x2 : Int32} {x3 : Int32} {h : ab_H} {y : (Int32 × ab_H)} (e : fX12_graft F x0 x1 x2 x3 h = some y) : ab_Met l mX12_graft [.ref x0, .int x1, .int x2, .int x3] h (.inl (some (.int y.1)), y.2) := ab_ofS (io := (fun y : (Int32 × ab_H) => ((.inl (some (.int y.1)), y.2) : ab_R × ab_H))) (x := y) hl (by decide) rfl (Nat.le_of_ble_eq_true rfl) (wX12_graft hl F x0 x1 x2 x3 h) e
def mX12_meets : ab_M := (yX12_meets, cX12_meets, 4, (some .int), { frames := 1, cells := 0, slots := 0, locals := 23 })
theorem iX12_meets : ab_MI mX12_meets 2 := ⟨kw_4c7682a2d0, kw_30b3f7d7c6, by decide +kernel⟩
def fX12_meets (x0 : Nat) (x1 : Int32) (x2 : Int32) (h : ab_H) : Option (Int32 × ab_H) := ab_ck (ab_io h x0 12 = true) (ab_bd (fX12_of x0 x1 (nI 5) h) fun v1 => ab_ck (ab_io h x0 12 = true) (ab_bd (fX12_of x0 x2 (nI 5) h) fun v2 => ab_ck (ab_io h x0 12 = true) (ab_bd (fX12_has x0 x1 (nI 5) ((((v1 ||| v2) ||| ((nI 1) <<< (x1 &&& 31))) ||| ((nI 1) <<< (x2 &&& 31))) &&& (((nI 1) <<< (x1 &&& 31)) ^^^ (-1 : Int32))) h) fun h3 => ab_ck (ab_io h3 x0 12 = true) (ab_bd (fX12_has x0 x2 (nI 5) ((((v1 ||| v2) ||| ((nI 1) <<< (x1 &&& 31))) ||| ((nI 1) <<< (x2 &&& 31))) &&& (((nI 1) <<< (x2 &&& 31)) ^^^ (-1 : Int32))) h3) fun h4 => ab_bd (ab_fr h4 x0 12 1) fun v5 => ab_ck (ab_io h4 x0 12 = true) (ab_bd (fX12_of x0 x2 (nI 5) h4) fun v6 => ab_bd (ab_iw 0 h4 v5 (((nI 172) + ((nI 10) * x1)) + x2) v6) fun h7 => ab_bd (ab_fr h7 x0 12 1) fun v8 => ab_ck (ab_io h7 x0 12 = true) (ab_bd (fX12_of x0 x1 (nI 5) h7) fun v9 => ab_bd (ab_iw 0 h7 v8 (((nI 172) + ((nI 10) * x2)) + x1) v9) fun h10 => some (((v1 ||| v2) ||| ((nI 1) <<< (x1 &&& 31))) ||| ((nI 1) <<< (x2 &&& 31)), h10)))))))
set_option maxRecDepth 100000 in
set_option maxHeartbeats 4000000 in
theorem wX12_meets {l : Launch} (hl : l.stackTraces = false) (x0 : Nat) (x1 : Int32) (x2 : Int32) (h : ab_H) : ab_S l mX12_meets (fun y : (Int32 × ab_H) => ((.inl (some (.int y.1)), y.2) : ab_R × ab_H)) 0 0 (fX12_meets x0 x1 x2 h) 0 [(0, .ref x0), (1, .int x1), (2, .int x2)] [] h := by
  unfold fX12_meets
  refine ab_aload_n (pc := 0) (n := 0) (i := 0) (j := 0) (by decide +kernel) rfl rfl ?_
  refine ab_iload_n (pc := 1) (n := 1) (i := 1) (j := 1) (by decide +kernel) rfl rfl ?_
  refine ab_iconst (pc := 2) (n := 5) (v := nI 5) (by decide +kernel) rfl ?_
  refine ab_callVi (As := [.int x1, .int (nI 5)]) (st := []) (pc := 3) lk_X12_57_12 rfl rfl rfl (by decide) rfl (Nat.le_of_ble_eq_true rfl) (by decide +kernel) (fun y9 e9 => okX12_of hl e9) (fun v1 ev1 => ?_)
  refine ab_aload_n (pc := 6) (n := 0) (i := 0) (j := 0) (by decide +kernel) rfl rfl ?_
  refine ab_iload_n (pc := 7) (n := 2) (i := 2) (j := 2) (by decide +kernel) rfl rfl ?_
  refine ab_iconst (pc := 8) (n := 5) (v := nI 5) (by decide +kernel) rfl ?_
  refine ab_callVi (As := [.int x2, .int (nI 5)]) (st := [.int v1]) (pc := 9) lk_X12_57_12 rfl rfl rfl (by decide) rfl (Nat.le_of_ble_eq_true rfl) (by decide +kernel) (fun y9 e9 => okX12_of hl e9) (fun v2 ev2 => ?_)
  refine ab_ior (pc := 12) (by decide +kernel) ?_
  refine ab_iconst (pc := 13) (n := 1) (v := nI 1) (by decide +kernel) rfl ?_
  refine ab_iload_n (pc := 14) (n := 1) (i := 1) (j := 1) (by decide +kernel) rfl rfl ?_
  refine ab_ishl (pc := 15) (by decide +kernel) ?_
  refine ab_ior (pc := 16) (by decide +kernel) ?_
  refine ab_iconst (pc := 17) (n := 1) (v := nI 1) (by decide +kernel) rfl ?_
  refine ab_iload_n (pc := 18) (n := 2) (i := 2) (j := 2) (by decide +kernel) rfl rfl ?_
  refine ab_ishl (pc := 19) (by decide +kernel) ?_
  refine ab_ior (pc := 20) (by decide +kernel) ?_
  refine ab_istore_n (pc := 21) (n := 3) (i := 3) (lv' := [(0, .ref x0), (1, .int x1), (2, .int x2), (3, .int (((v1 ||| v2) ||| ((nI 1) <<< (x1 &&& 31))) ||| ((nI 1) <<< (x2 &&& 31))))]) (by decide +kernel) rfl (Nat.le_of_ble_eq_true rfl) rfl rfl ?_
  refine ab_aload_n (pc := 22) (n := 0) (i := 0) (j := 0) (by decide +kernel) rfl rfl ?_
  refine ab_iload_n (pc := 23) (n := 1) (i := 1) (j := 1) (by decide +kernel) rfl rfl ?_
  refine ab_iconst (pc := 24) (n := 5) (v := nI 5) (by decide +kernel) rfl ?_
  refine ab_iload_n (pc := 25) (n := 3) (i := 3) (j := 3) (by decide +kernel) rfl rfl ?_
  refine ab_iconst (pc := 26) (n := 1) (v := nI 1) (by decide +kernel) rfl ?_
  refine ab_iload_n (pc := 27) (n := 1) (i := 1) (j := 1) (by decide +kernel) rfl rfl ?_
  refine ab_ishl (pc := 28) (by decide +kernel) ?_
  refine ab_iconst (pc := 29) (n := -1) (v := (-1 : Int32)) (by decide +kernel) rfl ?_
  refine ab_ixor (pc := 30) (by decide +kernel) ?_
  refine ab_iand (pc := 31) (by decide +kernel) ?_
  refine ab_callVw (As := [.int x1, .int (nI 5), .int ((((v1 ||| v2) ||| ((nI 1) <<< (x1 &&& 31))) ||| ((nI 1) <<< (x2 &&& 31))) &&& (((nI 1) <<< (x1 &&& 31)) ^^^ (-1 : Int32)))]) (st := []) (pc := 32) lk_X12_100_12 rfl rfl rfl (by decide) rfl (Nat.le_of_ble_eq_true rfl) (by decide +kernel) (fun y9 e9 => okX12_has hl e9) (fun h3 eh3 => ?_)
  refine ab_aload_n (pc := 35) (n := 0) (i := 0) (j := 0) (by decide +kernel) rfl rfl ?_
  refine ab_iload_n (pc := 36) (n := 2) (i := 2) (j := 2) (by decide +kernel) rfl rfl ?_
  refine ab_iconst (pc := 37) (n := 5) (v := nI 5) (by decide +kernel) rfl ?_
  refine ab_iload_n (pc := 38) (n := 3) (i := 3) (j := 3) (by decide +kernel) rfl rfl ?_
  refine ab_iconst (pc := 39) (n := 1) (v := nI 1) (by decide +kernel) rfl ?_
  refine ab_iload_n (pc := 40) (n := 2) (i := 2) (j := 2) (by decide +kernel) rfl rfl ?_
  refine ab_ishl (pc := 41) (by decide +kernel) ?_
  refine ab_iconst (pc := 42) (n := -1) (v := (-1 : Int32)) (by decide +kernel) rfl ?_
  refine ab_ixor (pc := 43) (by decide +kernel) ?_
  refine ab_iand (pc := 44) (by decide +kernel) ?_
  refine ab_callVw (As := [.int x2, .int (nI 5), .int ((((v1 ||| v2) ||| ((nI 1) <<< (x1 &&& 31))) ||| ((nI 1) <<< (x2 &&& 31))) &&& (((nI 1) <<< (x2 &&& 31)) ^^^ (-1 : Int32)))]) (st := []) (pc := 45) lk_X12_100_12 rfl rfl rfl (by decide) rfl (Nat.le_of_ble_eq_true rfl) (by decide +kernel) (fun y9 e9 => okX12_has hl e9) (fun h4 eh4 => ?_)
  refine ab_aload_n (pc := 48) (n := 0) (i := 0) (j := 0) (by decide +kernel) rfl rfl ?_
  refine ab_getR (pc := 49) fl_X12_7_12 (by decide +kernel) (fun v5 ev5 => ?_)
  refine ab_sipush (pc := 52) (n := 172) (v := nI 172) (by decide +kernel) (by decide) ?_
  refine ab_bipush (pc := 55) (n := 10) (v := nI 10) (by decide +kernel) (by decide) ?_
  refine ab_iload_n (pc := 57) (n := 1) (i := 1) (j := 1) (by decide +kernel) rfl rfl ?_
  refine ab_imul (pc := 58) (by decide +kernel) ?_
  refine ab_iadd (pc := 59) (by decide +kernel) ?_
  refine ab_iload_n (pc := 60) (n := 2) (i := 2) (j := 2) (by decide +kernel) rfl rfl ?_
  refine ab_iadd (pc := 61) (by decide +kernel) ?_
  refine ab_aload_n (pc := 62) (n := 0) (i := 0) (j := 0) (by decide +kernel) rfl rfl ?_
  refine ab_iload_n (pc := 63) (n := 2) (i := 2) (j := 2) (by decide +kernel) rfl rfl ?_
  refine ab_iconst (pc := 64) (n := 5) (v := nI 5) (by decide +kernel) rfl ?_
  refine ab_callVi (As := [.int x2, .int (nI 5)]) (st := [.int (((nI 172) + ((nI 10) * x1)) + x2), .ref v5]) (pc := 65) lk_X12_57_12 rfl rfl rfl (by decide) rfl (Nat.le_of_ble_eq_true rfl) (by decide +kernel) (fun y9 e9 => okX12_of hl e9) (fun v6 ev6 => ?_)
  refine ab_iast (pc := 68) (by decide +kernel) (fun h7 eh7 => ?_)
  refine ab_aload_n (pc := 69) (n := 0) (i := 0) (j := 0) (by decide +kernel) rfl rfl ?_
  refine ab_getR (pc := 70) fl_X12_7_12 (by decide +kernel) (fun v8 ev8 => ?_)
  refine ab_sipush (pc := 73) (n := 172) (v := nI 172) (by decide +kernel) (by decide) ?_
  refine ab_bipush (pc := 76) (n := 10) (v := nI 10) (by decide +kernel) (by decide) ?_
  refine ab_iload_n (pc := 78) (n := 2) (i := 2) (j := 2) (by decide +kernel) rfl rfl ?_
  refine ab_imul (pc := 79) (by decide +kernel) ?_
  refine ab_iadd (pc := 80) (by decide +kernel) ?_
  refine ab_iload_n (pc := 81) (n := 1) (i := 1) (j := 1) (by decide +kernel) rfl rfl ?_
  refine ab_iadd (pc := 82) (by decide +kernel) ?_
  refine ab_aload_n (pc := 83) (n := 0) (i := 0) (j := 0) (by decide +kernel) rfl rfl ?_
  refine ab_iload_n (pc := 84) (n := 1) (i := 1) (j := 1) (by decide +kernel) rfl rfl ?_
  refine ab_iconst (pc := 85) (n := 5) (v := nI 5) (by decide +kernel) rfl ?_
  refine ab_callVi (As := [.int x1, .int (nI 5)]) (st := [.int (((nI 172) + ((nI 10) * x2)) + x1), .ref v8]) (pc := 86) lk_X12_57_12 rfl rfl rfl (by decide) rfl (Nat.le_of_ble_eq_true rfl) (by decide +kernel) (fun y9 e9 => okX12_of hl e9) (fun v9 ev9 => ?_)
  refine ab_iast (pc := 89) (by decide +kernel) (fun h10 eh10 => ?_)
  refine ab_iload_n (pc := 90) (n := 3) (i := 3) (j := 3) (by decide +kernel) rfl rfl ?_
  exact ab_iret (pc := 91) (by decide +kernel) rfl rfl (Nat.le_of_ble_eq_true rfl) (Nat.le_of_ble_eq_true rfl)
set_option maxRecDepth 100000 in
set_option maxHeartbeats 4000000 in
theorem okX12_meets {l : Launch} (hl : l.stackTraces = false) {x0 : Nat} {x1 : Int32} {x2 : Int32} {h : ab_H} {y : (Int32 × ab_H)} (e : fX12_meets x0 x1 x2 h = some y) : ab_Met l mX12_meets [.ref x0, .int x1, .int x2] h (.inl (some (.int y.1)), y.2) := ab_ofS (io := (fun y : (Int32 × ab_H) => ((.inl (some (.int y.1)), y.2) : ab_R × ab_H))) (x := y) hl (by decide) rfl (Nat.le_of_ble_eq_true rfl) (wX12_meets hl x0 x1 x2 h) e
def mX12_meet : ab_M := (yX12_meet, cX12_meet, 3, (some .int), { frames := 3, cells := 0, slots := 0, locals := 65 })
theorem iX12_meet : ab_MI mX12_meet 2 := ⟨kw_cf709f48ab, kw_30b3f7d7c6, by decide +kernel⟩
theorem lk_X12_291_12 : ab_LV RX12 291 12 mX12_meets 2 := ⟨RX12, rfl, iX12_meets, kw_e30f85ffab, kw_ed08052cd4, kw_6202b64648⟩
def fX12_meet (F : Nat) (x0 : Nat) (x1 : Int32) (x2 : Int32) (h : ab_H) : Option (Int32 × ab_H) := ab_ck (ab_io h x0 12 = true) (ab_bd (fX12_two x0 x1 x2 h) fun v1 => ab_bd (ab_fw h x0 12 0 (.int v1)) fun h2 => ab_bd (ab_fi h2 x0 12 0) fun v3 => (if v3 ≤ 0 then ab_ck (ab_io h2 x0 12 = true) (ab_bd (fX12_remembers F x0 h2) fun h5 => ab_ck (ab_io h5 x0 12 = true) (ab_bd (fX12_meets x0 x1 x2 h5) fun v6 => some (v6.1, v6.2))) else some (nI 0, h2)))
set_option maxRecDepth 100000 in
set_option maxHeartbeats 4000000 in
theorem wX12_meet {l : Launch} (hl : l.stackTraces = false) (F : Nat) (x0 : Nat) (x1 : Int32) (x2 : Int32) (h : ab_H) : ab_S l mX12_meet (fun y : (Int32 × ab_H) => ((.inl (some (.int y.1)), y.2) : ab_R × ab_H)) 0 0 (fX12_meet F x0 x1 x2 h) 0 [(0, .ref x0), (1, .int x1), (2, .int x2)] [] h := by
  unfold fX12_meet
  refine ab_aload_n (pc := 0) (n := 0) (i := 0) (j := 0) (by decide +kernel) rfl rfl ?_
  refine ab_aload_n (pc := 1) (n := 0) (i := 0) (j := 0) (by decide +kernel) rfl rfl ?_
  refine ab_iload_n (pc := 2) (n := 1) (i := 1) (j := 1) (by decide +kernel) rfl rfl ?_
  refine ab_iload_n (pc := 3) (n := 2) (i := 2) (j := 2) (by decide +kernel) rfl rfl ?_
  refine ab_callVi (As := [.int x1, .int x2]) (st := [.ref x0]) (pc := 4) lk_X12_265_12 rfl rfl rfl (by decide) rfl (Nat.le_of_ble_eq_true rfl) (by decide +kernel) (fun y9 e9 => okX12_two hl e9) (fun v1 ev1 => ?_)
  refine ab_put (pc := 7) fl_X12_50_12 rfl (fun _ => rfl) (fun _ => rfl) (by decide +kernel) (fun h2 eh2 => ?_)
  refine ab_aload_n (pc := 10) (n := 0) (i := 0) (j := 0) (by decide +kernel) rfl rfl ?_
  refine ab_getI (pc := 11) fl_X12_50_12 (by decide +kernel) (fun v3 ev3 => ?_)
  refine ab_if_le (off := 5) (pc := 14) (tgt := 19) (by decide +kernel) (by decide) (fun g4 => ?_) (fun g4 => ?_)
  · refine ab_aload_n (pc := 19) (n := 0) (i := 0) (j := 0) (by decide +kernel) rfl rfl ?_
    refine ab_callVw (As := []) (st := []) (pc := 20) lk_X12_279_12 rfl rfl rfl (by decide) rfl (Nat.le_of_ble_eq_true rfl) (by decide +kernel) (fun y9 e9 => okX12_remembers hl (F := F) e9) (fun h5 eh5 => ?_)
    refine ab_aload_n (pc := 23) (n := 0) (i := 0) (j := 0) (by decide +kernel) rfl rfl ?_
    refine ab_iload_n (pc := 24) (n := 1) (i := 1) (j := 1) (by decide +kernel) rfl rfl ?_
    refine ab_iload_n (pc := 25) (n := 2) (i := 2) (j := 2) (by decide +kernel) rfl rfl ?_
    refine ab_callVj (As := [.int x1, .int x2]) (st := []) (pc := 26) lk_X12_291_12 rfl rfl rfl (by decide) rfl (Nat.le_of_ble_eq_true rfl) (by decide +kernel) (fun y9 e9 => okX12_meets hl e9) (fun v6 ev6 => ?_)
    exact ab_iret (pc := 29) (by decide +kernel) rfl rfl (Nat.le_of_ble_eq_true rfl) (Nat.le_of_ble_eq_true rfl)
  · refine ab_iconst (pc := 17) (n := 0) (v := nI 0) (by decide +kernel) rfl ?_
    exact ab_iret (pc := 18) (by decide +kernel) rfl rfl (Nat.le_of_ble_eq_true rfl) (Nat.le_of_ble_eq_true rfl)
set_option maxRecDepth 100000 in
set_option maxHeartbeats 4000000 in
theorem okX12_meet {l : Launch} (hl : l.stackTraces = false) {F : Nat} {x0 : Nat} {x1 : Int32} {x2 : Int32} {h : ab_H} {y : (Int32 × ab_H)} (e : fX12_meet F x0 x1 x2 h = some y) : ab_Met l mX12_meet [.ref x0, .int x1, .int x2] h (.inl (some (.int y.1)), y.2) := ab_ofS (io := (fun y : (Int32 × ab_H) => ((.inl (some (.int y.1)), y.2) : ab_R × ab_H))) (x := y) hl (by decide) rfl (Nat.le_of_ble_eq_true rfl) (wX12_meet hl F x0 x1 x2 h) e
def mX12_freeHook : ab_M := (yX12_freeHook, cX12_freeHook, 2, (some .int), { frames := 0, cells := 0, slots := 0, locals := 0 })
theorem iX12_freeHook : ab_MI mX12_freeHook 0 := ⟨kw_48360f345a, kw_30b3f7d7c6, by decide +kernel⟩
def fX12_freeHook_2 (x0 : Nat) (h : ab_H) : Nat → Int32 → Option Int32
  | 0, _ => none
  | n + 1, x1 => ab_bd (ab_fr h x0 12 1) fun v1 => ab_bd (ab_ia 0 h v1 (nI 4)) fun v2 => (if x1 < v2 then ab_bd (ab_fr h x0 12 1) fun v4 => ab_bd (ab_ia 0 h v4 ((nI 272) + x1)) fun v5 => (if v5 = (-1 : Int32) then some x1 else fX12_freeHook_2 x0 h n (x1 + nI 1)) else some (-1 : Int32))
def fX12_freeHook (F : Nat) (x0 : Nat) (h : ab_H) : Option Int32 := fX12_freeHook_2 x0 h F (nI 0)
set_option maxRecDepth 100000 in
set_option maxHeartbeats 4000000 in
theorem lX12_freeHook_2 {l : Launch} (hl : l.stackTraces = false) (x0 : Nat) (h : ab_H) : ∀ (n : Nat) (x1 : Int32), ab_S l mX12_freeHook (fun y : Int32 => ((.inl (some (.int y)), h) : ab_R × ab_H)) 0 0 (fX12_freeHook_2 x0 h n x1) 2 [(0, .ref x0), (1, .int x1)] [] h := by
  intro n
  induction n with
  | zero =>
    intro x1
    exact ab_none
  | succ n ih =>
    intro x1
    rw [fX12_freeHook_2]
    refine ab_iload_n (pc := 2) (n := 1) (i := 1) (j := 1) (by decide +kernel) rfl rfl ?_
    refine ab_aload_n (pc := 3) (n := 0) (i := 0) (j := 0) (by decide +kernel) rfl rfl ?_
    refine ab_getR (pc := 4) fl_X12_7_12 (by decide +kernel) (fun v1 ev1 => ?_)
    refine ab_iconst (pc := 7) (n := 4) (v := nI 4) (by decide +kernel) rfl ?_
    refine ab_iald (pc := 8) (by decide +kernel) (fun v2 ev2 => ?_)
    refine ab_icmp_ge (off := 25) (pc := 9) (tgt := 34) (by decide +kernel) (by decide) (fun g3 => ?_) (fun g3 => ?_)
    · refine ab_aload_n (pc := 12) (n := 0) (i := 0) (j := 0) (by decide +kernel) rfl rfl ?_
      refine ab_getR (pc := 13) fl_X12_7_12 (by decide +kernel) (fun v4 ev4 => ?_)
      refine ab_sipush (pc := 16) (n := 272) (v := nI 272) (by decide +kernel) (by decide) ?_
      refine ab_iload_n (pc := 19) (n := 1) (i := 1) (j := 1) (by decide +kernel) rfl rfl ?_
      refine ab_iadd (pc := 20) (by decide +kernel) ?_
      refine ab_iald (pc := 21) (by decide +kernel) (fun v5 ev5 => ?_)
      refine ab_iconst (pc := 22) (n := -1) (v := (-1 : Int32)) (by decide +kernel) rfl ?_
      refine ab_icmp_ne (off := 5) (pc := 23) (tgt := 28) (by decide +kernel) (by decide) (fun g6 => ?_) (fun g6 => ?_)
      · refine ab_iload_n (pc := 26) (n := 1) (i := 1) (j := 1) (by decide +kernel) rfl rfl ?_
        exact ab_iret (pc := 27) (by decide +kernel) rfl rfl (Nat.le_of_ble_eq_true rfl) (Nat.le_of_ble_eq_true rfl)
      · refine ab_iinc (pc := 28) (i := 1) (n := 1) (j := 1) (d := nI 1) (lv' := [(0, .ref x0), (1, .int (x1 + nI 1))]) (by decide +kernel) rfl rfl (Nat.le_of_ble_eq_true rfl) rfl rfl ?_
        refine ab_goto (pc := 31) (off := (-29)) (tgt := 2) (by decide +kernel) (by decide) ?_
        exact ih (x1 + nI 1)
    · refine ab_iconst (pc := 34) (n := -1) (v := (-1 : Int32)) (by decide +kernel) rfl ?_
      exact ab_iret (pc := 35) (by decide +kernel) rfl rfl (Nat.le_of_ble_eq_true rfl) (Nat.le_of_ble_eq_true rfl)
set_option maxRecDepth 100000 in
set_option maxHeartbeats 4000000 in
theorem wX12_freeHook {l : Launch} (hl : l.stackTraces = false) (F : Nat) (x0 : Nat) (h : ab_H) : ab_S l mX12_freeHook (fun y : Int32 => ((.inl (some (.int y)), h) : ab_R × ab_H)) 0 0 (fX12_freeHook F x0 h) 0 [(0, .ref x0)] [] h := by
  unfold fX12_freeHook
  refine ab_iconst (pc := 0) (n := 0) (v := nI 0) (by decide +kernel) rfl ?_
  refine ab_istore_n (pc := 1) (n := 1) (i := 1) (lv' := [(0, .ref x0), (1, .int (nI 0))]) (by decide +kernel) rfl (Nat.le_of_ble_eq_true rfl) rfl rfl ?_
  refine lX12_freeHook_2 hl x0 h F (nI 0)
set_option maxRecDepth 100000 in
set_option maxHeartbeats 4000000 in
theorem okX12_freeHook {l : Launch} (hl : l.stackTraces = false) {F : Nat} {x0 : Nat} {h : ab_H} {y : Int32} (e : fX12_freeHook F x0 h = some y) : ab_Met l mX12_freeHook [.ref x0] h (.inl (some (.int y)), h) := ab_ofS (io := (fun y : Int32 => ((.inl (some (.int y)), h) : ab_R × ab_H))) (x := y) hl (by decide) rfl (Nat.le_of_ble_eq_true rfl) (wX12_freeHook hl F x0 h) e
