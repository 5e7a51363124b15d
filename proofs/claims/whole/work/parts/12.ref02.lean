/-! ===== reference (by program, decomp.py) ===== -/
def mX12_hand : ab_M := (yX12_hand, cX12_hand, 3, (some .int), { frames := 3, cells := 0, slots := 0, locals := 69 })
theorem iX12_hand : ab_MI mX12_hand 2 := ⟨kw_54147e1aba, kw_30b3f7d7c6, by decide +kernel⟩
theorem lk_X12_279_12 : ab_LV RX12 279 12 mX12_remembers 0 := ⟨RX12, rfl, iX12_remembers, kw_b09372d5a1, kw_c3df27dd03, kw_1e7cd25983⟩
theorem lk_X12_282_12 : ab_LV RX12 282 12 mX12_handsIn 2 := ⟨RX12, rfl, iX12_handsIn, kw_0964c3baa0, kw_356b06350d, kw_7f20fa65d7⟩
def fX12_hand (F : Nat) (x0 : Nat) (x1 : Int32) (x2 : Int32) (h : ab_H) : Option (Int32 × ab_H) := ab_ck (ab_io h x0 12 = true) (ab_bd (fX12_isPerson x0 x1 h) fun v1 => ab_jn (κ := Int32 → Option (Int32 × ab_H)) (fun (z2 : Int32) => ab_bd (ab_fw h x0 12 0 (.int z2)) fun h3 => ab_bd (ab_fi h3 x0 12 0) fun v4 => (if v4 ≤ 0 then ab_ck (ab_io h3 x0 12 = true) (ab_bd (fX12_remembers F x0 h3) fun h6 => ab_ck (ab_io h6 x0 12 = true) (ab_bd (fX12_handsIn F x0 x1 x2 h6) fun v7 => some (v7.1, v7.2))) else some (nI 0, h3))) fun j8 => ab_jn (κ := Option (Int32 × ab_H)) (j8 (nI 1)) fun j9 => (if v1 = 0 then j9 else ab_ck (ab_io h x0 12 = true) (ab_bd (fX12_isHook x0 x2 h) fun v11 => (if v11 = 0 then j9 else ab_ck (ab_io h x0 12 = true) (ab_bd (fX12_of x0 x1 (nI 2) h) fun v13 => (if v13 = (-1 : Int32) then j8 (nI 2) else ab_ck (ab_io h x0 12 = true) (ab_bd (fX12_of x0 x1 (nI 3) h) fun v15 => (if v15 = (-1 : Int32) then ab_bd (ab_fr h x0 12 1) fun v17 => ab_bd (ab_ia 0 h v17 ((nI 272) + x2)) fun v18 => (if v18 = (-1 : Int32) then j8 (nI 0) else j8 (nI 2)) else j8 (nI 2)))))))))
set_option maxRecDepth 100000 in
set_option maxHeartbeats 4000000 in
theorem wX12_hand {l : Launch} (hl : l.stackTraces = false) (F : Nat) (x0 : Nat) (x1 : Int32) (x2 : Int32) (h : ab_H) : ab_S l mX12_hand (fun y : (Int32 × ab_H) => ((.inl (some (.int y.1)), y.2) : ab_R × ab_H)) 0 0 (fX12_hand F x0 x1 x2 h) 0 [(0, .ref x0), (1, .int x1), (2, .int x2)] [] h := by
  unfold fX12_hand
  refine ab_aload_n (pc := 0) (n := 0) (i := 0) (j := 0) (by decide +kernel) rfl rfl ?_
  refine ab_aload_n (pc := 1) (n := 0) (i := 0) (j := 0) (by decide +kernel) rfl rfl ?_
  refine ab_iload_n (pc := 2) (n := 1) (i := 1) (j := 1) (by decide +kernel) rfl rfl ?_
  refine ab_callVi (As := [.int x1]) (st := [.ref x0]) (pc := 3) lk_X12_250_12 rfl rfl rfl (by decide) (by decide) (Nat.le_of_ble_eq_true rfl) (by decide +kernel) (fun y9 e9 => okX12_isPerson hl e9) (fun v1 ev1 => ?_)
  refine ab_jr (fun k9 : Int32 → Option (Int32 × ab_H) => ∀ (z2 : Int32), ab_S l mX12_hand (fun y : (Int32 × ab_H) => ((.inl (some (.int y.1)), y.2) : ab_R × ab_H)) 0 0 (k9 z2) 60 [(0, .ref x0), (1, .int x1), (2, .int x2)] [.int z2, .ref x0] h) ?_ (fun j8 hj8 => ?_)
  · intro z2
    refine ab_put (pc := 60) fl_X12_50_12 rfl (fun _ => rfl) (fun _ => rfl) (by decide +kernel) (fun h3 eh3 => ?_)
    refine ab_aload_n (pc := 63) (n := 0) (i := 0) (j := 0) (by decide +kernel) rfl rfl ?_
    refine ab_getI (pc := 64) fl_X12_50_12 (by decide +kernel) (fun v4 ev4 => ?_)
    refine ab_if_le (off := 5) (pc := 67) (tgt := 72) (by decide +kernel) (by decide) (fun g5 => ?_) (fun g5 => ?_)
    · refine ab_aload_n (pc := 72) (n := 0) (i := 0) (j := 0) (by decide +kernel) rfl rfl ?_
      refine ab_callVw (As := []) (st := []) (pc := 73) lk_X12_279_12 rfl rfl rfl (by decide) (by decide) (Nat.le_of_ble_eq_true rfl) (by decide +kernel) (fun y9 e9 => okX12_remembers hl (F := F) e9) (fun h6 eh6 => ?_)
      refine ab_aload_n (pc := 76) (n := 0) (i := 0) (j := 0) (by decide +kernel) rfl rfl ?_
      refine ab_iload_n (pc := 77) (n := 1) (i := 1) (j := 1) (by decide +kernel) rfl rfl ?_
      refine ab_iload_n (pc := 78) (n := 2) (i := 2) (j := 2) (by decide +kernel) rfl rfl ?_
      refine ab_callVj (As := [.int x1, .int x2]) (st := []) (pc := 79) lk_X12_282_12 rfl rfl rfl (by decide) (by decide) (Nat.le_of_ble_eq_true rfl) (by decide +kernel) (fun y9 e9 => okX12_handsIn hl (F := F) e9) (fun v7 ev7 => ?_)
      exact ab_iret (pc := 82) (by decide +kernel) rfl rfl (Nat.zero_le _) (Nat.zero_le _)
    · refine ab_iconst (pc := 70) (n := 0) (v := nI 0) (by decide +kernel) rfl ?_
      exact ab_iret (pc := 71) (by decide +kernel) rfl rfl (Nat.zero_le _) (Nat.zero_le _)
  · refine ab_jr (fun k9 : Option (Int32 × ab_H) => ab_S l mX12_hand (fun y : (Int32 × ab_H) => ((.inl (some (.int y.1)), y.2) : ab_R × ab_H)) 0 0 (k9) 17 [(0, .ref x0), (1, .int x1), (2, .int x2)] [.ref x0] h) ?_ (fun j9 hj9 => ?_)
    · refine ab_iconst (pc := 17) (n := 1) (v := nI 1) (by decide +kernel) rfl ?_
      refine ab_goto (pc := 18) (off := 42) (tgt := 60) (by decide +kernel) (by decide) ?_
      exact hj8 (nI 1)
    · refine ab_if_eq (off := 11) (pc := 6) (tgt := 17) (by decide +kernel) (by decide) (fun g10 => ?_) (fun g10 => ?_)
      · exact hj9
      · refine ab_aload_n (pc := 9) (n := 0) (i := 0) (j := 0) (by decide +kernel) rfl rfl ?_
        refine ab_iload_n (pc := 10) (n := 2) (i := 2) (j := 2) (by decide +kernel) rfl rfl ?_
        refine ab_callVi (As := [.int x2]) (st := [.ref x0]) (pc := 11) lk_X12_262_12 rfl rfl rfl (by decide) (by decide) (Nat.le_of_ble_eq_true rfl) (by decide +kernel) (fun y9 e9 => okX12_isHook hl e9) (fun v11 ev11 => ?_)
        refine ab_if_ne (off := 7) (pc := 14) (tgt := 21) (by decide +kernel) (by decide) (fun g12 => ?_) (fun g12 => ?_)
        · exact hj9
        · refine ab_aload_n (pc := 21) (n := 0) (i := 0) (j := 0) (by decide +kernel) rfl rfl ?_
          refine ab_iload_n (pc := 22) (n := 1) (i := 1) (j := 1) (by decide +kernel) rfl rfl ?_
          refine ab_iconst (pc := 23) (n := 2) (v := nI 2) (by decide +kernel) rfl ?_
          refine ab_callVi (As := [.int x1, .int (nI 2)]) (st := [.ref x0]) (pc := 24) lk_X12_57_12 rfl rfl rfl (by decide) (by decide) (Nat.le_of_ble_eq_true rfl) (by decide +kernel) (fun y9 e9 => okX12_of hl e9) (fun v13 ev13 => ?_)
          refine ab_iconst (pc := 27) (n := -1) (v := (-1 : Int32)) (by decide +kernel) rfl ?_
          refine ab_icmp_eq (off := 27) (pc := 28) (tgt := 55) (by decide +kernel) (by decide) (fun g14 => ?_) (fun g14 => ?_)
          · refine ab_iconst (pc := 55) (n := 2) (v := nI 2) (by decide +kernel) rfl ?_
            refine ab_goto (pc := 56) (off := 4) (tgt := 60) (by decide +kernel) (by decide) ?_
            exact hj8 (nI 2)
          · refine ab_aload_n (pc := 31) (n := 0) (i := 0) (j := 0) (by decide +kernel) rfl rfl ?_
            refine ab_iload_n (pc := 32) (n := 1) (i := 1) (j := 1) (by decide +kernel) rfl rfl ?_
            refine ab_iconst (pc := 33) (n := 3) (v := nI 3) (by decide +kernel) rfl ?_
            refine ab_callVi (As := [.int x1, .int (nI 3)]) (st := [.ref x0]) (pc := 34) lk_X12_57_12 rfl rfl rfl (by decide) (by decide) (Nat.le_of_ble_eq_true rfl) (by decide +kernel) (fun y9 e9 => okX12_of hl e9) (fun v15 ev15 => ?_)
            refine ab_iconst (pc := 37) (n := -1) (v := (-1 : Int32)) (by decide +kernel) rfl ?_
            refine ab_icmp_ne (off := 17) (pc := 38) (tgt := 55) (by decide +kernel) (by decide) (fun g16 => ?_) (fun g16 => ?_)
            · refine ab_aload_n (pc := 41) (n := 0) (i := 0) (j := 0) (by decide +kernel) rfl rfl ?_
              refine ab_getR (pc := 42) fl_X12_7_12 (by decide +kernel) (fun v17 ev17 => ?_)
              refine ab_sipush (pc := 45) (n := 272) (v := nI 272) (by decide +kernel) (by decide) ?_
              refine ab_iload_n (pc := 48) (n := 2) (i := 2) (j := 2) (by decide +kernel) rfl rfl ?_
              refine ab_iadd (pc := 49) (by decide +kernel) ?_
              refine ab_iald (pc := 50) (by decide +kernel) (fun v18 ev18 => ?_)
              refine ab_iconst (pc := 51) (n := -1) (v := (-1 : Int32)) (by decide +kernel) rfl ?_
              refine ab_icmp_eq (off := 7) (pc := 52) (tgt := 59) (by decide +kernel) (by decide) (fun g19 => ?_) (fun g19 => ?_)
              · refine ab_iconst (pc := 59) (n := 0) (v := nI 0) (by decide +kernel) rfl ?_
                exact hj8 (nI 0)
              · refine ab_iconst (pc := 55) (n := 2) (v := nI 2) (by decide +kernel) rfl ?_
                refine ab_goto (pc := 56) (off := 4) (tgt := 60) (by decide +kernel) (by decide) ?_
                exact hj8 (nI 2)
            · refine ab_iconst (pc := 55) (n := 2) (v := nI 2) (by decide +kernel) rfl ?_
              refine ab_goto (pc := 56) (off := 4) (tgt := 60) (by decide +kernel) (by decide) ?_
              exact hj8 (nI 2)
set_option maxRecDepth 100000 in
set_option maxHeartbeats 4000000 in
theorem okX12_hand {l : Launch} (hl : l.stackTraces = false) {F : Nat} {x0 : Nat} {x1 : Int32} {x2 : Int32} {h : ab_H} {y : (Int32 × ab_H)} (e : fX12_hand F x0 x1 x2 h = some y) : ab_Met l mX12_hand [.ref x0, .int x1, .int x2] h (.inl (some (.int y.1)), y.2) := ab_ofS (io := (fun y : (Int32 × ab_H) => ((.inl (some (.int y.1)), y.2) : ab_R × ab_H))) (x := y) hl (by decide) rfl (Nat.le_of_ble_eq_true rfl) (wX12_hand hl F x0 x1 x2 h) e
def mX12_fetch : ab_M := (yX12_fetch, cX12_fetch, 2, (some .int), { frames := 3, cells := 0, slots := 0, locals := 69 })
theorem iX12_fetch : ab_MI mX12_fetch 1 := ⟨kw_2ddc9e2ed2, kw_30b3f7d7c6, by decide +kernel⟩
theorem lk_X12_285_12 : ab_LV RX12 285 12 mX12_gets 1 := ⟨RX12, rfl, iX12_gets, kw_d47cdc35f7, kw_3fd0bfd2fd, kw_61c176a075⟩
def fX12_fetch (F : Nat) (x0 : Nat) (x1 : Int32) (h : ab_H) : Option (Int32 × ab_H) := ab_ck (ab_io h x0 12 = true) (ab_bd (fX12_isPerson x0 x1 h) fun v1 => ab_jn (κ := Int32 → Option (Int32 × ab_H)) (fun (z2 : Int32) => ab_bd (ab_fw h x0 12 0 (.int z2)) fun h3 => ab_bd (ab_fi h3 x0 12 0) fun v4 => (if v4 ≤ 0 then ab_ck (ab_io h3 x0 12 = true) (ab_bd (fX12_remembers F x0 h3) fun h6 => ab_ck (ab_io h6 x0 12 = true) (ab_bd (fX12_gets F x0 x1 h6) fun v7 => some (v7.1, v7.2))) else some (nI 0, h3))) fun j8 => (if v1 = 0 then j8 (nI 1) else ab_ck (ab_io h x0 12 = true) (ab_bd (fX12_of x0 x1 (nI 3) h) fun v10 => (if v10 = (-1 : Int32) then j8 (nI 2) else ab_ck (ab_io h x0 12 = true) (ab_bd (fX12_of x0 x1 (nI 2) h) fun v12 => (if v12 = (-1 : Int32) then j8 (nI 0) else j8 (nI 2)))))))
set_option maxRecDepth 100000 in
set_option maxHeartbeats 4000000 in
theorem wX12_fetch {l : Launch} (hl : l.stackTraces = false) (F : Nat) (x0 : Nat) (x1 : Int32) (h : ab_H) : ab_S l mX12_fetch (fun y : (Int32 × ab_H) => ((.inl (some (.int y.1)), y.2) : ab_R × ab_H)) 0 0 (fX12_fetch F x0 x1 h) 0 [(0, .ref x0), (1, .int x1)] [] h := by
  unfold fX12_fetch
  refine ab_aload_n (pc := 0) (n := 0) (i := 0) (j := 0) (by decide +kernel) rfl rfl ?_
  refine ab_aload_n (pc := 1) (n := 0) (i := 0) (j := 0) (by decide +kernel) rfl rfl ?_
  refine ab_iload_n (pc := 2) (n := 1) (i := 1) (j := 1) (by decide +kernel) rfl rfl ?_
  refine ab_callVi (As := [.int x1]) (st := [.ref x0]) (pc := 3) lk_X12_250_12 rfl rfl rfl (by decide) (by decide) (Nat.le_of_ble_eq_true rfl) (by decide +kernel) (fun y9 e9 => okX12_isPerson hl e9) (fun v1 ev1 => ?_)
  refine ab_jr (fun k9 : Int32 → Option (Int32 × ab_H) => ∀ (z2 : Int32), ab_S l mX12_fetch (fun y : (Int32 × ab_H) => ((.inl (some (.int y.1)), y.2) : ab_R × ab_H)) 0 0 (k9 z2) 38 [(0, .ref x0), (1, .int x1)] [.int z2, .ref x0] h) ?_ (fun j8 hj8 => ?_)
  · intro z2
    refine ab_put (pc := 38) fl_X12_50_12 rfl (fun _ => rfl) (fun _ => rfl) (by decide +kernel) (fun h3 eh3 => ?_)
    refine ab_aload_n (pc := 41) (n := 0) (i := 0) (j := 0) (by decide +kernel) rfl rfl ?_
    refine ab_getI (pc := 42) fl_X12_50_12 (by decide +kernel) (fun v4 ev4 => ?_)
    refine ab_if_le (off := 5) (pc := 45) (tgt := 50) (by decide +kernel) (by decide) (fun g5 => ?_) (fun g5 => ?_)
    · refine ab_aload_n (pc := 50) (n := 0) (i := 0) (j := 0) (by decide +kernel) rfl rfl ?_
      refine ab_callVw (As := []) (st := []) (pc := 51) lk_X12_279_12 rfl rfl rfl (by decide) (by decide) (Nat.le_of_ble_eq_true rfl) (by decide +kernel) (fun y9 e9 => okX12_remembers hl (F := F) e9) (fun h6 eh6 => ?_)
      refine ab_aload_n (pc := 54) (n := 0) (i := 0) (j := 0) (by decide +kernel) rfl rfl ?_
      refine ab_iload_n (pc := 55) (n := 1) (i := 1) (j := 1) (by decide +kernel) rfl rfl ?_
      refine ab_callVj (As := [.int x1]) (st := []) (pc := 56) lk_X12_285_12 rfl rfl rfl (by decide) (by decide) (Nat.le_of_ble_eq_true rfl) (by decide +kernel) (fun y9 e9 => okX12_gets hl (F := F) e9) (fun v7 ev7 => ?_)
      exact ab_iret (pc := 59) (by decide +kernel) rfl rfl (Nat.zero_le _) (Nat.zero_le _)
    · refine ab_iconst (pc := 48) (n := 0) (v := nI 0) (by decide +kernel) rfl ?_
      exact ab_iret (pc := 49) (by decide +kernel) rfl rfl (Nat.zero_le _) (Nat.zero_le _)
  · refine ab_if_ne (off := 7) (pc := 6) (tgt := 13) (by decide +kernel) (by decide) (fun g9 => ?_) (fun g9 => ?_)
    · refine ab_iconst (pc := 9) (n := 1) (v := nI 1) (by decide +kernel) rfl ?_
      refine ab_goto (pc := 10) (off := 28) (tgt := 38) (by decide +kernel) (by decide) ?_
      exact hj8 (nI 1)
    · refine ab_aload_n (pc := 13) (n := 0) (i := 0) (j := 0) (by decide +kernel) rfl rfl ?_
      refine ab_iload_n (pc := 14) (n := 1) (i := 1) (j := 1) (by decide +kernel) rfl rfl ?_
      refine ab_iconst (pc := 15) (n := 3) (v := nI 3) (by decide +kernel) rfl ?_
      refine ab_callVi (As := [.int x1, .int (nI 3)]) (st := [.ref x0]) (pc := 16) lk_X12_57_12 rfl rfl rfl (by decide) (by decide) (Nat.le_of_ble_eq_true rfl) (by decide +kernel) (fun y9 e9 => okX12_of hl e9) (fun v10 ev10 => ?_)
      refine ab_iconst (pc := 19) (n := -1) (v := (-1 : Int32)) (by decide +kernel) rfl ?_
      refine ab_icmp_eq (off := 13) (pc := 20) (tgt := 33) (by decide +kernel) (by decide) (fun g11 => ?_) (fun g11 => ?_)
      · refine ab_iconst (pc := 33) (n := 2) (v := nI 2) (by decide +kernel) rfl ?_
        refine ab_goto (pc := 34) (off := 4) (tgt := 38) (by decide +kernel) (by decide) ?_
        exact hj8 (nI 2)
      · refine ab_aload_n (pc := 23) (n := 0) (i := 0) (j := 0) (by decide +kernel) rfl rfl ?_
        refine ab_iload_n (pc := 24) (n := 1) (i := 1) (j := 1) (by decide +kernel) rfl rfl ?_
        refine ab_iconst (pc := 25) (n := 2) (v := nI 2) (by decide +kernel) rfl ?_
        refine ab_callVi (As := [.int x1, .int (nI 2)]) (st := [.ref x0]) (pc := 26) lk_X12_57_12 rfl rfl rfl (by decide) (by decide) (Nat.le_of_ble_eq_true rfl) (by decide +kernel) (fun y9 e9 => okX12_of hl e9) (fun v12 ev12 => ?_)
        refine ab_iconst (pc := 29) (n := -1) (v := (-1 : Int32)) (by decide +kernel) rfl ?_
        refine ab_icmp_eq (off := 7) (pc := 30) (tgt := 37) (by decide +kernel) (by decide) (fun g13 => ?_) (fun g13 => ?_)
        · refine ab_iconst (pc := 37) (n := 0) (v := nI 0) (by decide +kernel) rfl ?_
          exact hj8 (nI 0)
        · refine ab_iconst (pc := 33) (n := 2) (v := nI 2) (by decide +kernel) rfl ?_
          refine ab_goto (pc := 34) (off := 4) (tgt := 38) (by decide +kernel) (by decide) ?_
          exact hj8 (nI 2)
set_option maxRecDepth 100000 in
set_option maxHeartbeats 4000000 in
theorem okX12_fetch {l : Launch} (hl : l.stackTraces = false) {F : Nat} {x0 : Nat} {x1 : Int32} {h : ab_H} {y : (Int32 × ab_H)} (e : fX12_fetch F x0 x1 h = some y) : ab_Met l mX12_fetch [.ref x0, .int x1] h (.inl (some (.int y.1)), y.2) := ab_ofS (io := (fun y : (Int32 × ab_H) => ((.inl (some (.int y.1)), y.2) : ab_R × ab_H))) (x := y) hl (by decide) rfl (Nat.le_of_ble_eq_true rfl) (wX12_fetch hl F x0 x1 h) e
def mX12_mix : ab_M := (yX12_mix, cX12_mix, 3, (some .int), { frames := 3, cells := 0, slots := 0, locals := 71 })
theorem iX12_mix : ab_MI mX12_mix 2 := ⟨kw_3c4a8aa63d, kw_30b3f7d7c6, by decide +kernel⟩
theorem lk_X12_287_12 : ab_LV RX12 287 12 mX12_mixes 2 := ⟨RX12, rfl, iX12_mixes, kw_a8913a47d2, kw_028eb26732, kw_8d08bfd576⟩
def fX12_mix (F : Nat) (x0 : Nat) (x1 : Int32) (x2 : Int32) (h : ab_H) : Option (Int32 × ab_H) := ab_ck (ab_io h x0 12 = true) (ab_bd (fX12_two x0 x1 x2 h) fun v1 => ab_jn (κ := Int32 → Option (Int32 × ab_H)) (fun (z2 : Int32) => ab_bd (ab_fw h x0 12 0 (.int z2)) fun h3 => ab_bd (ab_fi h3 x0 12 0) fun v4 => (if v4 ≤ 0 then ab_ck (ab_io h3 x0 12 = true) (ab_bd (fX12_remembers F x0 h3) fun h6 => ab_ck (ab_io h6 x0 12 = true) (ab_bd (fX12_mixes F x0 x1 x2 h6) fun h7 => ab_ck (ab_io h7 x0 12 = true) (ab_bd (fX12_of x0 x1 (nI 3) h7) fun v8 => some (v8, h7)))) else some (nI 0, h3))) fun j9 => (if v1 ≤ 0 then ab_ck (ab_io h x0 12 = true) (ab_bd (fX12_of x0 x1 (nI 3) h) fun v11 => (if v11 = (-1 : Int32) then j9 (nI 3) else ab_ck (ab_io h x0 12 = true) (ab_bd (fX12_of x0 x2 (nI 3) h) fun v13 => (if v13 = (-1 : Int32) then j9 (nI 3) else j9 (nI 0))))) else ab_ck (ab_io h x0 12 = true) (ab_bd (fX12_two x0 x1 x2 h) fun v15 => j9 v15)))
set_option maxRecDepth 100000 in
set_option maxHeartbeats 4000000 in
theorem wX12_mix {l : Launch} (hl : l.stackTraces = false) (F : Nat) (x0 : Nat) (x1 : Int32) (x2 : Int32) (h : ab_H) : ab_S l mX12_mix (fun y : (Int32 × ab_H) => ((.inl (some (.int y.1)), y.2) : ab_R × ab_H)) 0 0 (fX12_mix F x0 x1 x2 h) 0 [(0, .ref x0), (1, .int x1), (2, .int x2)] [] h := by
  unfold fX12_mix
  refine ab_aload_n (pc := 0) (n := 0) (i := 0) (j := 0) (by decide +kernel) rfl rfl ?_
  refine ab_aload_n (pc := 1) (n := 0) (i := 0) (j := 0) (by decide +kernel) rfl rfl ?_
  refine ab_iload_n (pc := 2) (n := 1) (i := 1) (j := 1) (by decide +kernel) rfl rfl ?_
  refine ab_iload_n (pc := 3) (n := 2) (i := 2) (j := 2) (by decide +kernel) rfl rfl ?_
  refine ab_callVi (As := [.int x1, .int x2]) (st := [.ref x0]) (pc := 4) lk_X12_265_12 rfl rfl rfl (by decide) (by decide) (Nat.le_of_ble_eq_true rfl) (by decide +kernel) (fun y9 e9 => okX12_two hl e9) (fun v1 ev1 => ?_)
  refine ab_jr (fun k9 : Int32 → Option (Int32 × ab_H) => ∀ (z2 : Int32), ab_S l mX12_mix (fun y : (Int32 × ab_H) => ((.inl (some (.int y.1)), y.2) : ab_R × ab_H)) 0 0 (k9 z2) 44 [(0, .ref x0), (1, .int x1), (2, .int x2)] [.int z2, .ref x0] h) ?_ (fun j9 hj9 => ?_)
  · intro z2
    refine ab_put (pc := 44) fl_X12_50_12 rfl (fun _ => rfl) (fun _ => rfl) (by decide +kernel) (fun h3 eh3 => ?_)
    refine ab_aload_n (pc := 47) (n := 0) (i := 0) (j := 0) (by decide +kernel) rfl rfl ?_
    refine ab_getI (pc := 48) fl_X12_50_12 (by decide +kernel) (fun v4 ev4 => ?_)
    refine ab_if_le (off := 5) (pc := 51) (tgt := 56) (by decide +kernel) (by decide) (fun g5 => ?_) (fun g5 => ?_)
    · refine ab_aload_n (pc := 56) (n := 0) (i := 0) (j := 0) (by decide +kernel) rfl rfl ?_
      refine ab_callVw (As := []) (st := []) (pc := 57) lk_X12_279_12 rfl rfl rfl (by decide) (by decide) (Nat.le_of_ble_eq_true rfl) (by decide +kernel) (fun y9 e9 => okX12_remembers hl (F := F) e9) (fun h6 eh6 => ?_)
      refine ab_aload_n (pc := 60) (n := 0) (i := 0) (j := 0) (by decide +kernel) rfl rfl ?_
      refine ab_iload_n (pc := 61) (n := 1) (i := 1) (j := 1) (by decide +kernel) rfl rfl ?_
      refine ab_iload_n (pc := 62) (n := 2) (i := 2) (j := 2) (by decide +kernel) rfl rfl ?_
      refine ab_callVw (As := [.int x1, .int x2]) (st := []) (pc := 63) lk_X12_287_12 rfl rfl rfl (by decide) (by decide) (Nat.le_of_ble_eq_true rfl) (by decide +kernel) (fun y9 e9 => okX12_mixes hl (F := F) e9) (fun h7 eh7 => ?_)
      refine ab_aload_n (pc := 66) (n := 0) (i := 0) (j := 0) (by decide +kernel) rfl rfl ?_
      refine ab_iload_n (pc := 67) (n := 1) (i := 1) (j := 1) (by decide +kernel) rfl rfl ?_
      refine ab_iconst (pc := 68) (n := 3) (v := nI 3) (by decide +kernel) rfl ?_
      refine ab_callVi (As := [.int x1, .int (nI 3)]) (st := []) (pc := 69) lk_X12_57_12 rfl rfl rfl (by decide) (by decide) (Nat.le_of_ble_eq_true rfl) (by decide +kernel) (fun y9 e9 => okX12_of hl e9) (fun v8 ev8 => ?_)
      exact ab_iret (pc := 72) (by decide +kernel) rfl rfl (Nat.zero_le _) (Nat.zero_le _)
    · refine ab_iconst (pc := 54) (n := 0) (v := nI 0) (by decide +kernel) rfl ?_
      exact ab_iret (pc := 55) (by decide +kernel) rfl rfl (Nat.zero_le _) (Nat.zero_le _)
  · refine ab_if_le (off := 12) (pc := 7) (tgt := 19) (by decide +kernel) (by decide) (fun g10 => ?_) (fun g10 => ?_)
    · refine ab_aload_n (pc := 19) (n := 0) (i := 0) (j := 0) (by decide +kernel) rfl rfl ?_
      refine ab_iload_n (pc := 20) (n := 1) (i := 1) (j := 1) (by decide +kernel) rfl rfl ?_
      refine ab_iconst (pc := 21) (n := 3) (v := nI 3) (by decide +kernel) rfl ?_
      refine ab_callVi (As := [.int x1, .int (nI 3)]) (st := [.ref x0]) (pc := 22) lk_X12_57_12 rfl rfl rfl (by decide) (by decide) (Nat.le_of_ble_eq_true rfl) (by decide +kernel) (fun y9 e9 => okX12_of hl e9) (fun v11 ev11 => ?_)
      refine ab_iconst (pc := 25) (n := -1) (v := (-1 : Int32)) (by decide +kernel) rfl ?_
      refine ab_icmp_eq (off := 13) (pc := 26) (tgt := 39) (by decide +kernel) (by decide) (fun g12 => ?_) (fun g12 => ?_)
      · refine ab_iconst (pc := 39) (n := 3) (v := nI 3) (by decide +kernel) rfl ?_
        refine ab_goto (pc := 40) (off := 4) (tgt := 44) (by decide +kernel) (by decide) ?_
        exact hj9 (nI 3)
      · refine ab_aload_n (pc := 29) (n := 0) (i := 0) (j := 0) (by decide +kernel) rfl rfl ?_
        refine ab_iload_n (pc := 30) (n := 2) (i := 2) (j := 2) (by decide +kernel) rfl rfl ?_
        refine ab_iconst (pc := 31) (n := 3) (v := nI 3) (by decide +kernel) rfl ?_
        refine ab_callVi (As := [.int x2, .int (nI 3)]) (st := [.ref x0]) (pc := 32) lk_X12_57_12 rfl rfl rfl (by decide) (by decide) (Nat.le_of_ble_eq_true rfl) (by decide +kernel) (fun y9 e9 => okX12_of hl e9) (fun v13 ev13 => ?_)
        refine ab_iconst (pc := 35) (n := -1) (v := (-1 : Int32)) (by decide +kernel) rfl ?_
        refine ab_icmp_ne (off := 7) (pc := 36) (tgt := 43) (by decide +kernel) (by decide) (fun g14 => ?_) (fun g14 => ?_)
        · refine ab_iconst (pc := 39) (n := 3) (v := nI 3) (by decide +kernel) rfl ?_
          refine ab_goto (pc := 40) (off := 4) (tgt := 44) (by decide +kernel) (by decide) ?_
          exact hj9 (nI 3)
        · refine ab_iconst (pc := 43) (n := 0) (v := nI 0) (by decide +kernel) rfl ?_
          exact hj9 (nI 0)
    · refine ab_aload_n (pc := 10) (n := 0) (i := 0) (j := 0) (by decide +kernel) rfl rfl ?_
      refine ab_iload_n (pc := 11) (n := 1) (i := 1) (j := 1) (by decide +kernel) rfl rfl ?_
      refine ab_iload_n (pc := 12) (n := 2) (i := 2) (j := 2) (by decide +kernel) rfl rfl ?_
      refine ab_callVi (As := [.int x1, .int x2]) (st := [.ref x0]) (pc := 13) lk_X12_265_12 rfl rfl rfl (by decide) (by decide) (Nat.le_of_ble_eq_true rfl) (by decide +kernel) (fun y9 e9 => okX12_two hl e9) (fun v15 ev15 => ?_)
      refine ab_goto (pc := 16) (off := 28) (tgt := 44) (by decide +kernel) (by decide) ?_
      exact hj9 v15
set_option maxRecDepth 100000 in
set_option maxHeartbeats 4000000 in
theorem okX12_mix {l : Launch} (hl : l.stackTraces = false) {F : Nat} {x0 : Nat} {x1 : Int32} {x2 : Int32} {h : ab_H} {y : (Int32 × ab_H)} (e : fX12_mix F x0 x1 x2 h = some y) : ab_Met l mX12_mix [.ref x0, .int x1, .int x2] h (.inl (some (.int y.1)), y.2) := ab_ofS (io := (fun y : (Int32 × ab_H) => ((.inl (some (.int y.1)), y.2) : ab_R × ab_H))) (x := y) hl (by decide) rfl (Nat.le_of_ble_eq_true rfl) (wX12_mix hl F x0 x1 x2 h) e
def mX12_steal : ab_M := (yX12_steal, cX12_steal, 4, (some .int), { frames := 2, cells := 0, slots := 0, locals := 46 })
theorem iX12_steal : ab_MI mX12_steal 2 := ⟨kw_a47596697d, kw_30b3f7d7c6, by decide +kernel⟩
def fX12_steal (F : Nat) (x0 : Nat) (x1 : Int32) (x2 : Int32) (h : ab_H) : Option (Int32 × ab_H) := ab_ck (ab_io h x0 12 = true) (ab_bd (fX12_isPerson x0 x1 h) fun v1 => ab_jn (κ := Int32 → Option (Int32 × ab_H)) (fun (z2 : Int32) => ab_bd (ab_fw h x0 12 0 (.int z2)) fun h3 => ab_bd (ab_fi h3 x0 12 0) fun v4 => (if v4 ≤ 0 then ab_ck (ab_io h3 x0 12 = true) (ab_bd (fX12_remembers F x0 h3) fun h6 => ab_bd (ab_fr h6 x0 12 1) fun v7 => ab_bd (ab_ia 0 h6 v7 ((nI 272) + x2)) fun v8 => ab_bd (ab_fr h6 x0 12 1) fun v9 => ab_bd (ab_iw 0 h6 v9 ((nI 272) + x2) (-1 : Int32)) fun h10 => ab_ck (ab_io h10 x0 12 = true) (ab_bd (fX12_has x0 x1 (nI 2) v8 h10) fun h11 => ab_ck (ab_io h11 x0 12 = true) (ab_bd (fX12_writes F x0 x1 x2 v8 (nI 2) h11) fun h12 => some (v8, h12)))) else some (nI 0, h3))) fun j13 => ab_jn (κ := Option (Int32 × ab_H)) (j13 (nI 1)) fun j14 => (if v1 = 0 then j14 else ab_ck (ab_io h x0 12 = true) (ab_bd (fX12_isHook x0 x2 h) fun v16 => (if v16 = 0 then j14 else ab_ck (ab_io h x0 12 = true) (ab_bd (fX12_of x0 x1 (nI 2) h) fun v18 => (if v18 = (-1 : Int32) then ab_bd (ab_fr h x0 12 1) fun v20 => ab_bd (ab_ia 0 h v20 ((nI 272) + x2)) fun v21 => (if v21 = (-1 : Int32) then j13 (nI 2) else j13 (nI 0)) else j13 (nI 2)))))))
set_option maxRecDepth 100000 in
set_option maxHeartbeats 4000000 in
theorem wX12_steal {l : Launch} (hl : l.stackTraces = false) (F : Nat) (x0 : Nat) (x1 : Int32) (x2 : Int32) (h : ab_H) : ab_S l mX12_steal (fun y : (Int32 × ab_H) => ((.inl (some (.int y.1)), y.2) : ab_R × ab_H)) 0 0 (fX12_steal F x0 x1 x2 h) 0 [(0, .ref x0), (1, .int x1), (2, .int x2)] [] h := by
  unfold fX12_steal
  refine ab_aload_n (pc := 0) (n := 0) (i := 0) (j := 0) (by decide +kernel) rfl rfl ?_
  refine ab_aload_n (pc := 1) (n := 0) (i := 0) (j := 0) (by decide +kernel) rfl rfl ?_
  refine ab_iload_n (pc := 2) (n := 1) (i := 1) (j := 1) (by decide +kernel) rfl rfl ?_
  refine ab_callVi (As := [.int x1]) (st := [.ref x0]) (pc := 3) lk_X12_250_12 rfl rfl rfl (by decide) (by decide) (Nat.le_of_ble_eq_true rfl) (by decide +kernel) (fun y9 e9 => okX12_isPerson hl e9) (fun v1 ev1 => ?_)
  refine ab_jr (fun k9 : Int32 → Option (Int32 × ab_H) => ∀ (z2 : Int32), ab_S l mX12_steal (fun y : (Int32 × ab_H) => ((.inl (some (.int y.1)), y.2) : ab_R × ab_H)) 0 0 (k9 z2) 50 [(0, .ref x0), (1, .int x1), (2, .int x2)] [.int z2, .ref x0] h) ?_ (fun j13 hj13 => ?_)
  · intro z2
    refine ab_put (pc := 50) fl_X12_50_12 rfl (fun _ => rfl) (fun _ => rfl) (by decide +kernel) (fun h3 eh3 => ?_)
    refine ab_aload_n (pc := 53) (n := 0) (i := 0) (j := 0) (by decide +kernel) rfl rfl ?_
    refine ab_getI (pc := 54) fl_X12_50_12 (by decide +kernel) (fun v4 ev4 => ?_)
    refine ab_if_le (off := 5) (pc := 57) (tgt := 62) (by decide +kernel) (by decide) (fun g5 => ?_) (fun g5 => ?_)
    · refine ab_aload_n (pc := 62) (n := 0) (i := 0) (j := 0) (by decide +kernel) rfl rfl ?_
      refine ab_callVw (As := []) (st := []) (pc := 63) lk_X12_279_12 rfl rfl rfl (by decide) (by decide) (Nat.le_of_ble_eq_true rfl) (by decide +kernel) (fun y9 e9 => okX12_remembers hl (F := F) e9) (fun h6 eh6 => ?_)
      refine ab_aload_n (pc := 66) (n := 0) (i := 0) (j := 0) (by decide +kernel) rfl rfl ?_
      refine ab_getR (pc := 67) fl_X12_7_12 (by decide +kernel) (fun v7 ev7 => ?_)
      refine ab_sipush (pc := 70) (n := 272) (v := nI 272) (by decide +kernel) (by decide) ?_
      refine ab_iload_n (pc := 73) (n := 2) (i := 2) (j := 2) (by decide +kernel) rfl rfl ?_
      refine ab_iadd (pc := 74) (by decide +kernel) ?_
      refine ab_iald (pc := 75) (by decide +kernel) (fun v8 ev8 => ?_)
      refine ab_istore_n (pc := 76) (n := 3) (i := 3) (lv' := [(0, .ref x0), (1, .int x1), (2, .int x2), (3, .int v8)]) (by decide +kernel) rfl (by decide) rfl rfl ?_
      refine ab_aload_n (pc := 77) (n := 0) (i := 0) (j := 0) (by decide +kernel) rfl rfl ?_
      refine ab_getR (pc := 78) fl_X12_7_12 (by decide +kernel) (fun v9 ev9 => ?_)
      refine ab_sipush (pc := 81) (n := 272) (v := nI 272) (by decide +kernel) (by decide) ?_
      refine ab_iload_n (pc := 84) (n := 2) (i := 2) (j := 2) (by decide +kernel) rfl rfl ?_
      refine ab_iadd (pc := 85) (by decide +kernel) ?_
      refine ab_iconst (pc := 86) (n := -1) (v := (-1 : Int32)) (by decide +kernel) rfl ?_
      refine ab_iast (pc := 87) (by decide +kernel) (fun h10 eh10 => ?_)
      refine ab_aload_n (pc := 88) (n := 0) (i := 0) (j := 0) (by decide +kernel) rfl rfl ?_
      refine ab_iload_n (pc := 89) (n := 1) (i := 1) (j := 1) (by decide +kernel) rfl rfl ?_
      refine ab_iconst (pc := 90) (n := 2) (v := nI 2) (by decide +kernel) rfl ?_
      refine ab_iload_n (pc := 91) (n := 3) (i := 3) (j := 3) (by decide +kernel) rfl rfl ?_
      refine ab_callVw (As := [.int x1, .int (nI 2), .int v8]) (st := []) (pc := 92) lk_X12_100_12 rfl rfl rfl (by decide) (by decide) (Nat.le_of_ble_eq_true rfl) (by decide +kernel) (fun y9 e9 => okX12_has hl e9) (fun h11 eh11 => ?_)
      refine ab_aload_n (pc := 95) (n := 0) (i := 0) (j := 0) (by decide +kernel) rfl rfl ?_
      refine ab_iload_n (pc := 96) (n := 1) (i := 1) (j := 1) (by decide +kernel) rfl rfl ?_
      refine ab_iload_n (pc := 97) (n := 2) (i := 2) (j := 2) (by decide +kernel) rfl rfl ?_
      refine ab_iload_n (pc := 98) (n := 3) (i := 3) (j := 3) (by decide +kernel) rfl rfl ?_
      refine ab_iconst (pc := 99) (n := 2) (v := nI 2) (by decide +kernel) rfl ?_
      refine ab_callVw (As := [.int x1, .int x2, .int v8, .int (nI 2)]) (st := []) (pc := 100) lk_X12_275_12 rfl rfl rfl (by decide) (by decide) (Nat.le_of_ble_eq_true rfl) (by decide +kernel) (fun y9 e9 => okX12_writes hl (F := F) e9) (fun h12 eh12 => ?_)
      refine ab_iload_n (pc := 103) (n := 3) (i := 3) (j := 3) (by decide +kernel) rfl rfl ?_
      exact ab_iret (pc := 104) (by decide +kernel) rfl rfl (Nat.zero_le _) (Nat.zero_le _)
    · refine ab_iconst (pc := 60) (n := 0) (v := nI 0) (by decide +kernel) rfl ?_
      exact ab_iret (pc := 61) (by decide +kernel) rfl rfl (Nat.zero_le _) (Nat.zero_le _)
  · refine ab_jr (fun k9 : Option (Int32 × ab_H) => ab_S l mX12_steal (fun y : (Int32 × ab_H) => ((.inl (some (.int y.1)), y.2) : ab_R × ab_H)) 0 0 (k9) 17 [(0, .ref x0), (1, .int x1), (2, .int x2)] [.ref x0] h) ?_ (fun j14 hj14 => ?_)
    · refine ab_iconst (pc := 17) (n := 1) (v := nI 1) (by decide +kernel) rfl ?_
      refine ab_goto (pc := 18) (off := 32) (tgt := 50) (by decide +kernel) (by decide) ?_
      exact hj13 (nI 1)
    · refine ab_if_eq (off := 11) (pc := 6) (tgt := 17) (by decide +kernel) (by decide) (fun g15 => ?_) (fun g15 => ?_)
      · exact hj14
      · refine ab_aload_n (pc := 9) (n := 0) (i := 0) (j := 0) (by decide +kernel) rfl rfl ?_
        refine ab_iload_n (pc := 10) (n := 2) (i := 2) (j := 2) (by decide +kernel) rfl rfl ?_
        refine ab_callVi (As := [.int x2]) (st := [.ref x0]) (pc := 11) lk_X12_262_12 rfl rfl rfl (by decide) (by decide) (Nat.le_of_ble_eq_true rfl) (by decide +kernel) (fun y9 e9 => okX12_isHook hl e9) (fun v16 ev16 => ?_)
        refine ab_if_ne (off := 7) (pc := 14) (tgt := 21) (by decide +kernel) (by decide) (fun g17 => ?_) (fun g17 => ?_)
        · exact hj14
        · refine ab_aload_n (pc := 21) (n := 0) (i := 0) (j := 0) (by decide +kernel) rfl rfl ?_
          refine ab_iload_n (pc := 22) (n := 1) (i := 1) (j := 1) (by decide +kernel) rfl rfl ?_
          refine ab_iconst (pc := 23) (n := 2) (v := nI 2) (by decide +kernel) rfl ?_
          refine ab_callVi (As := [.int x1, .int (nI 2)]) (st := [.ref x0]) (pc := 24) lk_X12_57_12 rfl rfl rfl (by decide) (by decide) (Nat.le_of_ble_eq_true rfl) (by decide +kernel) (fun y9 e9 => okX12_of hl e9) (fun v18 ev18 => ?_)
          refine ab_iconst (pc := 27) (n := -1) (v := (-1 : Int32)) (by decide +kernel) rfl ?_
          refine ab_icmp_ne (off := 17) (pc := 28) (tgt := 45) (by decide +kernel) (by decide) (fun g19 => ?_) (fun g19 => ?_)
          · refine ab_aload_n (pc := 31) (n := 0) (i := 0) (j := 0) (by decide +kernel) rfl rfl ?_
            refine ab_getR (pc := 32) fl_X12_7_12 (by decide +kernel) (fun v20 ev20 => ?_)
            refine ab_sipush (pc := 35) (n := 272) (v := nI 272) (by decide +kernel) (by decide) ?_
            refine ab_iload_n (pc := 38) (n := 2) (i := 2) (j := 2) (by decide +kernel) rfl rfl ?_
            refine ab_iadd (pc := 39) (by decide +kernel) ?_
            refine ab_iald (pc := 40) (by decide +kernel) (fun v21 ev21 => ?_)
            refine ab_iconst (pc := 41) (n := -1) (v := (-1 : Int32)) (by decide +kernel) rfl ?_
            refine ab_icmp_ne (off := 7) (pc := 42) (tgt := 49) (by decide +kernel) (by decide) (fun g22 => ?_) (fun g22 => ?_)
            · refine ab_iconst (pc := 45) (n := 2) (v := nI 2) (by decide +kernel) rfl ?_
              refine ab_goto (pc := 46) (off := 4) (tgt := 50) (by decide +kernel) (by decide) ?_
              exact hj13 (nI 2)
            · refine ab_iconst (pc := 49) (n := 0) (v := nI 0) (by decide +kernel) rfl ?_
              exact hj13 (nI 0)
          · refine ab_iconst (pc := 45) (n := 2) (v := nI 2) (by decide +kernel) rfl ?_
            refine ab_goto (pc := 46) (off := 4) (tgt := 50) (by decide +kernel) (by decide) ?_
            exact hj13 (nI 2)
set_option maxRecDepth 100000 in
set_option maxHeartbeats 4000000 in
theorem okX12_steal {l : Launch} (hl : l.stackTraces = false) {F : Nat} {x0 : Nat} {x1 : Int32} {x2 : Int32} {h : ab_H} {y : (Int32 × ab_H)} (e : fX12_steal F x0 x1 x2 h = some y) : ab_Met l mX12_steal [.ref x0, .int x1, .int x2] h (.inl (some (.int y.1)), y.2) := ab_ofS (io := (fun y : (Int32 × ab_H) => ((.inl (some (.int y.1)), y.2) : ab_R × ab_H))) (x := y) hl (by decide) rfl (Nat.le_of_ble_eq_true rfl) (wX12_steal hl F x0 x1 x2 h) e
def mX12_change : ab_M := (yX12_change, cX12_change, 4, (some .int), { frames := 3, cells := 0, slots := 0, locals := 65 })
theorem iX12_change : ab_MI mX12_change 2 := ⟨kw_d3eaf643c9, kw_30b3f7d7c6, by decide +kernel⟩
def fX12_change (F : Nat) (x0 : Nat) (x1 : Int32) (x2 : Int32) (h : ab_H) : Option (Int32 × ab_H) := ab_ck (ab_io h x0 12 = true) (ab_bd (fX12_two x0 x1 x2 h) fun v1 => ab_jn (κ := Int32 → Option (Int32 × ab_H)) (fun (z2 : Int32) => ab_bd (ab_fw h x0 12 0 (.int z2)) fun h3 => ab_bd (ab_fi h3 x0 12 0) fun v4 => (if v4 ≤ 0 then ab_ck (ab_io h3 x0 12 = true) (ab_bd (fX12_remembers F x0 h3) fun h6 => ab_ck (ab_io h6 x0 12 = true) (ab_bd (fX12_of x0 x1 (nI 2) h6) fun v7 => ab_ck (ab_io h6 x0 12 = true) (ab_bd (fX12_of x0 x2 (nI 2) h6) fun v8 => ab_ck (ab_io h6 x0 12 = true) (ab_bd (fX12_has x0 x1 (nI 2) v8 h6) fun h9 => ab_ck (ab_io h9 x0 12 = true) (ab_bd (fX12_has x0 x2 (nI 2) v7 h9) fun h10 => ab_ck (ab_io h10 x0 12 = true) (ab_bd (fX12_of x0 x1 (nI 2) h10) fun v11 => some (v11, h10))))))) else some (nI 0, h3))) fun j12 => (if v1 ≤ 0 then ab_ck (ab_io h x0 12 = true) (ab_bd (fX12_of x0 x1 (nI 2) h) fun v14 => (if v14 = (-1 : Int32) then j12 (nI 3) else ab_ck (ab_io h x0 12 = true) (ab_bd (fX12_of x0 x2 (nI 2) h) fun v16 => (if v16 = (-1 : Int32) then j12 (nI 3) else j12 (nI 0))))) else ab_ck (ab_io h x0 12 = true) (ab_bd (fX12_two x0 x1 x2 h) fun v18 => j12 v18)))
set_option maxRecDepth 100000 in
set_option maxHeartbeats 4000000 in
theorem wX12_change {l : Launch} (hl : l.stackTraces = false) (F : Nat) (x0 : Nat) (x1 : Int32) (x2 : Int32) (h : ab_H) : ab_S l mX12_change (fun y : (Int32 × ab_H) => ((.inl (some (.int y.1)), y.2) : ab_R × ab_H)) 0 0 (fX12_change F x0 x1 x2 h) 0 [(0, .ref x0), (1, .int x1), (2, .int x2)] [] h := by
  unfold fX12_change
  refine ab_aload_n (pc := 0) (n := 0) (i := 0) (j := 0) (by decide +kernel) rfl rfl ?_
  refine ab_aload_n (pc := 1) (n := 0) (i := 0) (j := 0) (by decide +kernel) rfl rfl ?_
  refine ab_iload_n (pc := 2) (n := 1) (i := 1) (j := 1) (by decide +kernel) rfl rfl ?_
  refine ab_iload_n (pc := 3) (n := 2) (i := 2) (j := 2) (by decide +kernel) rfl rfl ?_
  refine ab_callVi (As := [.int x1, .int x2]) (st := [.ref x0]) (pc := 4) lk_X12_265_12 rfl rfl rfl (by decide) (by decide) (Nat.le_of_ble_eq_true rfl) (by decide +kernel) (fun y9 e9 => okX12_two hl e9) (fun v1 ev1 => ?_)
  refine ab_jr (fun k9 : Int32 → Option (Int32 × ab_H) => ∀ (z2 : Int32), ab_S l mX12_change (fun y : (Int32 × ab_H) => ((.inl (some (.int y.1)), y.2) : ab_R × ab_H)) 0 0 (k9 z2) 44 [(0, .ref x0), (1, .int x1), (2, .int x2)] [.int z2, .ref x0] h) ?_ (fun j12 hj12 => ?_)
  · intro z2
    refine ab_put (pc := 44) fl_X12_50_12 rfl (fun _ => rfl) (fun _ => rfl) (by decide +kernel) (fun h3 eh3 => ?_)
    refine ab_aload_n (pc := 47) (n := 0) (i := 0) (j := 0) (by decide +kernel) rfl rfl ?_
    refine ab_getI (pc := 48) fl_X12_50_12 (by decide +kernel) (fun v4 ev4 => ?_)
    refine ab_if_le (off := 5) (pc := 51) (tgt := 56) (by decide +kernel) (by decide) (fun g5 => ?_) (fun g5 => ?_)
    · refine ab_aload_n (pc := 56) (n := 0) (i := 0) (j := 0) (by decide +kernel) rfl rfl ?_
      refine ab_callVw (As := []) (st := []) (pc := 57) lk_X12_279_12 rfl rfl rfl (by decide) (by decide) (Nat.le_of_ble_eq_true rfl) (by decide +kernel) (fun y9 e9 => okX12_remembers hl (F := F) e9) (fun h6 eh6 => ?_)
      refine ab_aload_n (pc := 60) (n := 0) (i := 0) (j := 0) (by decide +kernel) rfl rfl ?_
      refine ab_iload_n (pc := 61) (n := 1) (i := 1) (j := 1) (by decide +kernel) rfl rfl ?_
      refine ab_iconst (pc := 62) (n := 2) (v := nI 2) (by decide +kernel) rfl ?_
      refine ab_callVi (As := [.int x1, .int (nI 2)]) (st := []) (pc := 63) lk_X12_57_12 rfl rfl rfl (by decide) (by decide) (Nat.le_of_ble_eq_true rfl) (by decide +kernel) (fun y9 e9 => okX12_of hl e9) (fun v7 ev7 => ?_)
      refine ab_istore_n (pc := 66) (n := 3) (i := 3) (lv' := [(0, .ref x0), (1, .int x1), (2, .int x2), (3, .int v7)]) (by decide +kernel) rfl (by decide) rfl rfl ?_
      refine ab_aload_n (pc := 67) (n := 0) (i := 0) (j := 0) (by decide +kernel) rfl rfl ?_
      refine ab_iload_n (pc := 68) (n := 1) (i := 1) (j := 1) (by decide +kernel) rfl rfl ?_
      refine ab_iconst (pc := 69) (n := 2) (v := nI 2) (by decide +kernel) rfl ?_
      refine ab_aload_n (pc := 70) (n := 0) (i := 0) (j := 0) (by decide +kernel) rfl rfl ?_
      refine ab_iload_n (pc := 71) (n := 2) (i := 2) (j := 2) (by decide +kernel) rfl rfl ?_
      refine ab_iconst (pc := 72) (n := 2) (v := nI 2) (by decide +kernel) rfl ?_
      refine ab_callVi (As := [.int x2, .int (nI 2)]) (st := [.int (nI 2), .int x1, .ref x0]) (pc := 73) lk_X12_57_12 rfl rfl rfl (by decide) (by decide) (Nat.le_of_ble_eq_true rfl) (by decide +kernel) (fun y9 e9 => okX12_of hl e9) (fun v8 ev8 => ?_)
      refine ab_callVw (As := [.int x1, .int (nI 2), .int v8]) (st := []) (pc := 76) lk_X12_100_12 rfl rfl rfl (by decide) (by decide) (Nat.le_of_ble_eq_true rfl) (by decide +kernel) (fun y9 e9 => okX12_has hl e9) (fun h9 eh9 => ?_)
      refine ab_aload_n (pc := 79) (n := 0) (i := 0) (j := 0) (by decide +kernel) rfl rfl ?_
      refine ab_iload_n (pc := 80) (n := 2) (i := 2) (j := 2) (by decide +kernel) rfl rfl ?_
      refine ab_iconst (pc := 81) (n := 2) (v := nI 2) (by decide +kernel) rfl ?_
      refine ab_iload_n (pc := 82) (n := 3) (i := 3) (j := 3) (by decide +kernel) rfl rfl ?_
      refine ab_callVw (As := [.int x2, .int (nI 2), .int v7]) (st := []) (pc := 83) lk_X12_100_12 rfl rfl rfl (by decide) (by decide) (Nat.le_of_ble_eq_true rfl) (by decide +kernel) (fun y9 e9 => okX12_has hl e9) (fun h10 eh10 => ?_)
      refine ab_aload_n (pc := 86) (n := 0) (i := 0) (j := 0) (by decide +kernel) rfl rfl ?_
      refine ab_iload_n (pc := 87) (n := 1) (i := 1) (j := 1) (by decide +kernel) rfl rfl ?_
      refine ab_iconst (pc := 88) (n := 2) (v := nI 2) (by decide +kernel) rfl ?_
      refine ab_callVi (As := [.int x1, .int (nI 2)]) (st := []) (pc := 89) lk_X12_57_12 rfl rfl rfl (by decide) (by decide) (Nat.le_of_ble_eq_true rfl) (by decide +kernel) (fun y9 e9 => okX12_of hl e9) (fun v11 ev11 => ?_)
      exact ab_iret (pc := 92) (by decide +kernel) rfl rfl (Nat.zero_le _) (Nat.zero_le _)
    · refine ab_iconst (pc := 54) (n := 0) (v := nI 0) (by decide +kernel) rfl ?_
      exact ab_iret (pc := 55) (by decide +kernel) rfl rfl (Nat.zero_le _) (Nat.zero_le _)
  · refine ab_if_le (off := 12) (pc := 7) (tgt := 19) (by decide +kernel) (by decide) (fun g13 => ?_) (fun g13 => ?_)
    · refine ab_aload_n (pc := 19) (n := 0) (i := 0) (j := 0) (by decide +kernel) rfl rfl ?_
      refine ab_iload_n (pc := 20) (n := 1) (i := 1) (j := 1) (by decide +kernel) rfl rfl ?_
      refine ab_iconst (pc := 21) (n := 2) (v := nI 2) (by decide +kernel) rfl ?_
      refine ab_callVi (As := [.int x1, .int (nI 2)]) (st := [.ref x0]) (pc := 22) lk_X12_57_12 rfl rfl rfl (by decide) (by decide) (Nat.le_of_ble_eq_true rfl) (by decide +kernel) (fun y9 e9 => okX12_of hl e9) (fun v14 ev14 => ?_)
      refine ab_iconst (pc := 25) (n := -1) (v := (-1 : Int32)) (by decide +kernel) rfl ?_
      refine ab_icmp_eq (off := 13) (pc := 26) (tgt := 39) (by decide +kernel) (by decide) (fun g15 => ?_) (fun g15 => ?_)
      · refine ab_iconst (pc := 39) (n := 3) (v := nI 3) (by decide +kernel) rfl ?_
        refine ab_goto (pc := 40) (off := 4) (tgt := 44) (by decide +kernel) (by decide) ?_
        exact hj12 (nI 3)
      · refine ab_aload_n (pc := 29) (n := 0) (i := 0) (j := 0) (by decide +kernel) rfl rfl ?_
        refine ab_iload_n (pc := 30) (n := 2) (i := 2) (j := 2) (by decide +kernel) rfl rfl ?_
        refine ab_iconst (pc := 31) (n := 2) (v := nI 2) (by decide +kernel) rfl ?_
        refine ab_callVi (As := [.int x2, .int (nI 2)]) (st := [.ref x0]) (pc := 32) lk_X12_57_12 rfl rfl rfl (by decide) (by decide) (Nat.le_of_ble_eq_true rfl) (by decide +kernel) (fun y9 e9 => okX12_of hl e9) (fun v16 ev16 => ?_)
        refine ab_iconst (pc := 35) (n := -1) (v := (-1 : Int32)) (by decide +kernel) rfl ?_
        refine ab_icmp_ne (off := 7) (pc := 36) (tgt := 43) (by decide +kernel) (by decide) (fun g17 => ?_) (fun g17 => ?_)
        · refine ab_iconst (pc := 39) (n := 3) (v := nI 3) (by decide +kernel) rfl ?_
          refine ab_goto (pc := 40) (off := 4) (tgt := 44) (by decide +kernel) (by decide) ?_
          exact hj12 (nI 3)
        · refine ab_iconst (pc := 43) (n := 0) (v := nI 0) (by decide +kernel) rfl ?_
          exact hj12 (nI 0)
    · refine ab_aload_n (pc := 10) (n := 0) (i := 0) (j := 0) (by decide +kernel) rfl rfl ?_
      refine ab_iload_n (pc := 11) (n := 1) (i := 1) (j := 1) (by decide +kernel) rfl rfl ?_
      refine ab_iload_n (pc := 12) (n := 2) (i := 2) (j := 2) (by decide +kernel) rfl rfl ?_
      refine ab_callVi (As := [.int x1, .int x2]) (st := [.ref x0]) (pc := 13) lk_X12_265_12 rfl rfl rfl (by decide) (by decide) (Nat.le_of_ble_eq_true rfl) (by decide +kernel) (fun y9 e9 => okX12_two hl e9) (fun v18 ev18 => ?_)
      refine ab_goto (pc := 16) (off := 28) (tgt := 44) (by decide +kernel) (by decide) ?_
      exact hj12 v18
set_option maxRecDepth 100000 in
set_option maxHeartbeats 4000000 in
theorem okX12_change {l : Launch} (hl : l.stackTraces = false) {F : Nat} {x0 : Nat} {x1 : Int32} {x2 : Int32} {h : ab_H} {y : (Int32 × ab_H)} (e : fX12_change F x0 x1 x2 h = some y) : ab_Met l mX12_change [.ref x0, .int x1, .int x2] h (.inl (some (.int y.1)), y.2) := ab_ofS (io := (fun y : (Int32 × ab_H) => ((.inl (some (.int y.1)), y.2) : ab_R × ab_H))) (x := y) hl (by decide) rfl (Nat.le_of_ble_eq_true rfl) (wX12_change hl F x0 x1 x2 h) e
def mX12_shave : ab_M := (yX12_shave, cX12_shave, 3, (some .int), { frames := 2, cells := 0, slots := 0, locals := 43 })
theorem iX12_shave : ab_MI mX12_shave 2 := ⟨kw_faf3befc78, kw_30b3f7d7c6, by decide +kernel⟩
theorem lk_X12_242 : ab_LS RX12 242 mX12_bits 1 := ⟨iX12_bits, kw_d58bd56479, kw_352f77ef36⟩
def fX12_shave (F : Nat) (x0 : Nat) (x1 : Int32) (x2 : Int32) (h : ab_H) : Option (Int32 × ab_H) := ab_ck (ab_io h x0 12 = true) (ab_bd (fX12_isPerson x0 x1 h) fun v1 => ab_jn (κ := Int32 → Option (Int32 × ab_H)) (fun (z2 : Int32) => ab_bd (ab_fw h x0 12 0 (.int z2)) fun h3 => ab_bd (ab_fi h3 x0 12 0) fun v4 => (if v4 ≤ 0 then ab_ck (ab_io h3 x0 12 = true) (ab_bd (fX12_remembers F x0 h3) fun h6 => ab_ck (ab_io h6 x0 12 = true) (ab_bd (fX12_of x0 x1 (nI 0) h6) fun v7 => ab_ck (ab_io h6 x0 12 = true) (ab_bd (fX12_has x0 x1 (nI 0) (v7 &&& (((nI 1) <<< (x2 &&& 31)) ^^^ (-1 : Int32))) h6) fun h8 => ab_ck (ab_io h8 x0 12 = true) (ab_bd (fX12_of x0 x1 (nI 0) h8) fun v9 => ab_bd (fX12_bits F v9 h8) fun v10 => some (v10, h8))))) else some (nI 0, h3))) fun j11 => ab_jn (κ := Option (Int32 × ab_H)) (j11 (nI 1)) fun j12 => (if v1 = 0 then j12 else ab_bd (fX12_isIn x2 (nI 0) (nI 7) h) fun v14 => (if v14 = 0 then j12 else ab_ck (ab_io h x0 12 = true) (ab_bd (fX12_of x0 x1 (nI 0) h) fun v16 => ab_bd (fX12_isOf v16 x2 h) fun v17 => (if v17 = 0 then j11 (nI 2) else j11 (nI 0))))))
set_option maxRecDepth 100000 in
set_option maxHeartbeats 4000000 in
theorem wX12_shave {l : Launch} (hl : l.stackTraces = false) (F : Nat) (x0 : Nat) (x1 : Int32) (x2 : Int32) (h : ab_H) : ab_S l mX12_shave (fun y : (Int32 × ab_H) => ((.inl (some (.int y.1)), y.2) : ab_R × ab_H)) 0 0 (fX12_shave F x0 x1 x2 h) 0 [(0, .ref x0), (1, .int x1), (2, .int x2)] [] h := by
  unfold fX12_shave
  refine ab_aload_n (pc := 0) (n := 0) (i := 0) (j := 0) (by decide +kernel) rfl rfl ?_
  refine ab_aload_n (pc := 1) (n := 0) (i := 0) (j := 0) (by decide +kernel) rfl rfl ?_
  refine ab_iload_n (pc := 2) (n := 1) (i := 1) (j := 1) (by decide +kernel) rfl rfl ?_
  refine ab_callVi (As := [.int x1]) (st := [.ref x0]) (pc := 3) lk_X12_250_12 rfl rfl rfl (by decide) (by decide) (Nat.le_of_ble_eq_true rfl) (by decide +kernel) (fun y9 e9 => okX12_isPerson hl e9) (fun v1 ev1 => ?_)
  refine ab_jr (fun k9 : Int32 → Option (Int32 × ab_H) => ∀ (z2 : Int32), ab_S l mX12_shave (fun y : (Int32 × ab_H) => ((.inl (some (.int y.1)), y.2) : ab_R × ab_H)) 0 0 (k9 z2) 41 [(0, .ref x0), (1, .int x1), (2, .int x2)] [.int z2, .ref x0] h) ?_ (fun j11 hj11 => ?_)
  · intro z2
    refine ab_put (pc := 41) fl_X12_50_12 rfl (fun _ => rfl) (fun _ => rfl) (by decide +kernel) (fun h3 eh3 => ?_)
    refine ab_aload_n (pc := 44) (n := 0) (i := 0) (j := 0) (by decide +kernel) rfl rfl ?_
    refine ab_getI (pc := 45) fl_X12_50_12 (by decide +kernel) (fun v4 ev4 => ?_)
    refine ab_if_le (off := 5) (pc := 48) (tgt := 53) (by decide +kernel) (by decide) (fun g5 => ?_) (fun g5 => ?_)
    · refine ab_aload_n (pc := 53) (n := 0) (i := 0) (j := 0) (by decide +kernel) rfl rfl ?_
      refine ab_callVw (As := []) (st := []) (pc := 54) lk_X12_279_12 rfl rfl rfl (by decide) (by decide) (Nat.le_of_ble_eq_true rfl) (by decide +kernel) (fun y9 e9 => okX12_remembers hl (F := F) e9) (fun h6 eh6 => ?_)
      refine ab_aload_n (pc := 57) (n := 0) (i := 0) (j := 0) (by decide +kernel) rfl rfl ?_
      refine ab_iload_n (pc := 58) (n := 1) (i := 1) (j := 1) (by decide +kernel) rfl rfl ?_
      refine ab_iconst (pc := 59) (n := 0) (v := nI 0) (by decide +kernel) rfl ?_
      refine ab_aload_n (pc := 60) (n := 0) (i := 0) (j := 0) (by decide +kernel) rfl rfl ?_
      refine ab_iload_n (pc := 61) (n := 1) (i := 1) (j := 1) (by decide +kernel) rfl rfl ?_
      refine ab_iconst (pc := 62) (n := 0) (v := nI 0) (by decide +kernel) rfl ?_
      refine ab_callVi (As := [.int x1, .int (nI 0)]) (st := [.int (nI 0), .int x1, .ref x0]) (pc := 63) lk_X12_57_12 rfl rfl rfl (by decide) (by decide) (Nat.le_of_ble_eq_true rfl) (by decide +kernel) (fun y9 e9 => okX12_of hl e9) (fun v7 ev7 => ?_)
      refine ab_iconst (pc := 66) (n := 1) (v := nI 1) (by decide +kernel) rfl ?_
      refine ab_iload_n (pc := 67) (n := 2) (i := 2) (j := 2) (by decide +kernel) rfl rfl ?_
      refine ab_ishl (pc := 68) (by decide +kernel) ?_
      refine ab_iconst (pc := 69) (n := -1) (v := (-1 : Int32)) (by decide +kernel) rfl ?_
      refine ab_ixor (pc := 70) (by decide +kernel) ?_
      refine ab_iand (pc := 71) (by decide +kernel) ?_
      refine ab_callVw (As := [.int x1, .int (nI 0), .int (v7 &&& (((nI 1) <<< (x2 &&& 31)) ^^^ (-1 : Int32)))]) (st := []) (pc := 72) lk_X12_100_12 rfl rfl rfl (by decide) (by decide) (Nat.le_of_ble_eq_true rfl) (by decide +kernel) (fun y9 e9 => okX12_has hl e9) (fun h8 eh8 => ?_)
      refine ab_aload_n (pc := 75) (n := 0) (i := 0) (j := 0) (by decide +kernel) rfl rfl ?_
      refine ab_iload_n (pc := 76) (n := 1) (i := 1) (j := 1) (by decide +kernel) rfl rfl ?_
      refine ab_iconst (pc := 77) (n := 0) (v := nI 0) (by decide +kernel) rfl ?_
      refine ab_callVi (As := [.int x1, .int (nI 0)]) (st := []) (pc := 78) lk_X12_57_12 rfl rfl rfl (by decide) (by decide) (Nat.le_of_ble_eq_true rfl) (by decide +kernel) (fun y9 e9 => okX12_of hl e9) (fun v9 ev9 => ?_)
      refine ab_callSi (As := [.int v9]) (st := []) (pc := 81) lk_X12_242 rfl rfl rfl (by decide) (by decide) (Nat.le_of_ble_eq_true rfl) (by decide +kernel) (fun y9 e9 => okX12_bits hl (F := F) e9) (fun v10 ev10 => ?_)
      exact ab_iret (pc := 84) (by decide +kernel) rfl rfl (Nat.zero_le _) (Nat.zero_le _)
    · refine ab_iconst (pc := 51) (n := 0) (v := nI 0) (by decide +kernel) rfl ?_
      exact ab_iret (pc := 52) (by decide +kernel) rfl rfl (Nat.zero_le _) (Nat.zero_le _)
  · refine ab_jr (fun k9 : Option (Int32 × ab_H) => ab_S l mX12_shave (fun y : (Int32 × ab_H) => ((.inl (some (.int y.1)), y.2) : ab_R × ab_H)) 0 0 (k9) 19 [(0, .ref x0), (1, .int x1), (2, .int x2)] [.ref x0] h) ?_ (fun j12 hj12 => ?_)
    · refine ab_iconst (pc := 19) (n := 1) (v := nI 1) (by decide +kernel) rfl ?_
      refine ab_goto (pc := 20) (off := 21) (tgt := 41) (by decide +kernel) (by decide) ?_
      exact hj11 (nI 1)
    · refine ab_if_eq (off := 13) (pc := 6) (tgt := 19) (by decide +kernel) (by decide) (fun g13 => ?_) (fun g13 => ?_)
      · exact hj12
      · refine ab_iload_n (pc := 9) (n := 2) (i := 2) (j := 2) (by decide +kernel) rfl rfl ?_
        refine ab_iconst (pc := 10) (n := 0) (v := nI 0) (by decide +kernel) rfl ?_
        refine ab_bipush (pc := 11) (n := 7) (v := nI 7) (by decide +kernel) (by decide) ?_
        refine ab_callSi (As := [.int x2, .int (nI 0), .int (nI 7)]) (st := [.ref x0]) (pc := 13) lk_X12_53 rfl rfl rfl (by decide) (by decide) (Nat.le_of_ble_eq_true rfl) (by decide +kernel) (fun y9 e9 => okX12_isIn hl e9) (fun v14 ev14 => ?_)
        refine ab_if_ne (off := 7) (pc := 16) (tgt := 23) (by decide +kernel) (by decide) (fun g15 => ?_) (fun g15 => ?_)
        · exact hj12
        · refine ab_aload_n (pc := 23) (n := 0) (i := 0) (j := 0) (by decide +kernel) rfl rfl ?_
          refine ab_iload_n (pc := 24) (n := 1) (i := 1) (j := 1) (by decide +kernel) rfl rfl ?_
          refine ab_iconst (pc := 25) (n := 0) (v := nI 0) (by decide +kernel) rfl ?_
          refine ab_callVi (As := [.int x1, .int (nI 0)]) (st := [.ref x0]) (pc := 26) lk_X12_57_12 rfl rfl rfl (by decide) (by decide) (Nat.le_of_ble_eq_true rfl) (by decide +kernel) (fun y9 e9 => okX12_of hl e9) (fun v16 ev16 => ?_)
          refine ab_iload_n (pc := 29) (n := 2) (i := 2) (j := 2) (by decide +kernel) rfl rfl ?_
          refine ab_callSi (As := [.int v16, .int x2]) (st := [.ref x0]) (pc := 30) lk_X12_107 rfl rfl rfl (by decide) (by decide) (Nat.le_of_ble_eq_true rfl) (by decide +kernel) (fun y9 e9 => okX12_isOf hl e9) (fun v17 ev17 => ?_)
          refine ab_if_ne (off := 7) (pc := 33) (tgt := 40) (by decide +kernel) (by decide) (fun g18 => ?_) (fun g18 => ?_)
          · refine ab_iconst (pc := 36) (n := 2) (v := nI 2) (by decide +kernel) rfl ?_
            refine ab_goto (pc := 37) (off := 4) (tgt := 41) (by decide +kernel) (by decide) ?_
            exact hj11 (nI 2)
          · refine ab_iconst (pc := 40) (n := 0) (v := nI 0) (by decide +kernel) rfl ?_
            exact hj11 (nI 0)
set_option maxRecDepth 100000 in
set_option maxHeartbeats 4000000 in
theorem okX12_shave {l : Launch} (hl : l.stackTraces = false) {F : Nat} {x0 : Nat} {x1 : Int32} {x2 : Int32} {h : ab_H} {y : (Int32 × ab_H)} (e : fX12_shave F x0 x1 x2 h = some y) : ab_Met l mX12_shave [.ref x0, .int x1, .int x2] h (.inl (some (.int y.1)), y.2) := ab_ofS (io := (fun y : (Int32 × ab_H) => ((.inl (some (.int y.1)), y.2) : ab_R × ab_H))) (x := y) hl (by decide) rfl (Nat.le_of_ble_eq_true rfl) (wX12_shave hl F x0 x1 x2 h) e
def mX12_graft : ab_M := (yX12_graft, cX12_graft, 4, (some .int), { frames := 2, cells := 0, slots := 0, locals := 43 })
theorem iX12_graft : ab_MI mX12_graft 3 := ⟨kw_92faaea9a9, kw_30b3f7d7c6, by decide +kernel⟩
def fX12_graft (F : Nat) (x0 : Nat) (x1 : Int32) (x2 : Int32) (x3 : Int32) (h : ab_H) : Option (Int32 × ab_H) := ab_ck (ab_io h x0 12 = true) (ab_bd (fX12_isPerson x0 x1 h) fun v1 => ab_jn (κ := Int32 → Option (Int32 × ab_H)) (fun (z2 : Int32) => ab_bd (ab_fw h x0 12 0 (.int z2)) fun h3 => ab_bd (ab_fi h3 x0 12 0) fun v4 => (if v4 ≤ 0 then ab_ck (ab_io h3 x0 12 = true) (ab_bd (fX12_remembers F x0 h3) fun h6 => ab_ck (ab_io h6 x0 12 = true) (ab_bd (fX12_of x0 x1 (nI 0) h6) fun v7 => ab_ck (ab_io h6 x0 12 = true) (ab_bd (fX12_has x0 x1 (nI 0) (v7 &&& (((nI 1) <<< (x3 &&& 31)) ^^^ (-1 : Int32))) h6) fun h8 => ab_ck (ab_io h8 x0 12 = true) (ab_bd (fX12_of x0 x2 (nI 0) h8) fun v9 => ab_ck (ab_io h8 x0 12 = true) (ab_bd (fX12_has x0 x2 (nI 0) (v9 ||| ((nI 1) <<< (x3 &&& 31))) h8) fun h10 => ab_ck (ab_io h10 x0 12 = true) (ab_bd (fX12_of x0 x2 (nI 0) h10) fun v11 => ab_bd (fX12_bits F v11 h10) fun v12 => some (v12, h10))))))) else some (nI 0, h3))) fun j13 => ab_jn (κ := Option (Int32 × ab_H)) (j13 (nI 1)) fun j14 => (if v1 = 0 then j14 else ab_ck (ab_io h x0 12 = true) (ab_bd (fX12_isPerson x0 x2 h) fun v16 => (if v16 = 0 then j14 else ab_bd (fX12_isIn x3 (nI 0) (nI 7) h) fun v18 => (if v18 = 0 then j14 else (if x1 = x2 then j13 (nI 2) else ab_ck (ab_io h x0 12 = true) (ab_bd (fX12_of x0 x1 (nI 0) h) fun v21 => ab_bd (fX12_isOf v21 x3 h) fun v22 => (if v22 = 0 then j13 (nI 3) else ab_ck (ab_io h x0 12 = true) (ab_bd (fX12_of x0 x2 (nI 0) h) fun v24 => ab_bd (fX12_isOf v24 x3 h) fun v25 => (if v25 = 0 then j13 (nI 0) else j13 (nI 3)))))))))))
set_option maxRecDepth 100000 in
set_option maxHeartbeats 4000000 in
theorem wX12_graft {l : Launch} (hl : l.stackTraces = false) (F : Nat) (x0 : Nat) (x1 : Int32) (x2 : Int32) (x3 : Int32) (h : ab_H) : ab_S l mX12_graft (fun y : (Int32 × ab_H) => ((.inl (some (.int y.1)), y.2) : ab_R × ab_H)) 0 0 (fX12_graft F x0 x1 x2 x3 h) 0 [(0, .ref x0), (1, .int x1), (2, .int x2), (3, .int x3)] [] h := by
  unfold fX12_graft
  refine ab_aload_n (pc := 0) (n := 0) (i := 0) (j := 0) (by decide +kernel) rfl rfl ?_
  refine ab_aload_n (pc := 1) (n := 0) (i := 0) (j := 0) (by decide +kernel) rfl rfl ?_
  refine ab_iload_n (pc := 2) (n := 1) (i := 1) (j := 1) (by decide +kernel) rfl rfl ?_
  refine ab_callVi (As := [.int x1]) (st := [.ref x0]) (pc := 3) lk_X12_250_12 rfl rfl rfl (by decide) (by decide) (Nat.le_of_ble_eq_true rfl) (by decide +kernel) (fun y9 e9 => okX12_isPerson hl e9) (fun v1 ev1 => ?_)
  refine ab_jr (fun k9 : Int32 → Option (Int32 × ab_H) => ∀ (z2 : Int32), ab_S l mX12_graft (fun y : (Int32 × ab_H) => ((.inl (some (.int y.1)), y.2) : ab_R × ab_H)) 0 0 (k9 z2) 71 [(0, .ref x0), (1, .int x1), (2, .int x2), (3, .int x3)] [.int z2, .ref x0] h) ?_ (fun j13 hj13 => ?_)
  · intro z2
    refine ab_put (pc := 71) fl_X12_50_12 rfl (fun _ => rfl) (fun _ => rfl) (by decide +kernel) (fun h3 eh3 => ?_)
    refine ab_aload_n (pc := 74) (n := 0) (i := 0) (j := 0) (by decide +kernel) rfl rfl ?_
    refine ab_getI (pc := 75) fl_X12_50_12 (by decide +kernel) (fun v4 ev4 => ?_)
    refine ab_if_le (off := 5) (pc := 78) (tgt := 83) (by decide +kernel) (by decide) (fun g5 => ?_) (fun g5 => ?_)
    · refine ab_aload_n (pc := 83) (n := 0) (i := 0) (j := 0) (by decide +kernel) rfl rfl ?_
      refine ab_callVw (As := []) (st := []) (pc := 84) lk_X12_279_12 rfl rfl rfl (by decide) (by decide) (Nat.le_of_ble_eq_true rfl) (by decide +kernel) (fun y9 e9 => okX12_remembers hl (F := F) e9) (fun h6 eh6 => ?_)
      refine ab_aload_n (pc := 87) (n := 0) (i := 0) (j := 0) (by decide +kernel) rfl rfl ?_
      refine ab_iload_n (pc := 88) (n := 1) (i := 1) (j := 1) (by decide +kernel) rfl rfl ?_
      refine ab_iconst (pc := 89) (n := 0) (v := nI 0) (by decide +kernel) rfl ?_
      refine ab_aload_n (pc := 90) (n := 0) (i := 0) (j := 0) (by decide +kernel) rfl rfl ?_
      refine ab_iload_n (pc := 91) (n := 1) (i := 1) (j := 1) (by decide +kernel) rfl rfl ?_
      refine ab_iconst (pc := 92) (n := 0) (v := nI 0) (by decide +kernel) rfl ?_
      refine ab_callVi (As := [.int x1, .int (nI 0)]) (st := [.int (nI 0), .int x1, .ref x0]) (pc := 93) lk_X12_57_12 rfl rfl rfl (by decide) (by decide) (Nat.le_of_ble_eq_true rfl) (by decide +kernel) (fun y9 e9 => okX12_of hl e9) (fun v7 ev7 => ?_)
      refine ab_iconst (pc := 96) (n := 1) (v := nI 1) (by decide +kernel) rfl ?_
      refine ab_iload_n (pc := 97) (n := 3) (i := 3) (j := 3) (by decide +kernel) rfl rfl ?_
      refine ab_ishl (pc := 98) (by decide +kernel) ?_
      refine ab_iconst (pc := 99) (n := -1) (v := (-1 : Int32)) (by decide +kernel) rfl ?_
      refine ab_ixor (pc := 100) (by decide +kernel) ?_
      refine ab_iand (pc := 101) (by decide +kernel) ?_
      refine ab_callVw (As := [.int x1, .int (nI 0), .int (v7 &&& (((nI 1) <<< (x3 &&& 31)) ^^^ (-1 : Int32)))]) (st := []) (pc := 102) lk_X12_100_12 rfl rfl rfl (by decide) (by decide) (Nat.le_of_ble_eq_true rfl) (by decide +kernel) (fun y9 e9 => okX12_has hl e9) (fun h8 eh8 => ?_)
      refine ab_aload_n (pc := 105) (n := 0) (i := 0) (j := 0) (by decide +kernel) rfl rfl ?_
      refine ab_iload_n (pc := 106) (n := 2) (i := 2) (j := 2) (by decide +kernel) rfl rfl ?_
      refine ab_iconst (pc := 107) (n := 0) (v := nI 0) (by decide +kernel) rfl ?_
      refine ab_aload_n (pc := 108) (n := 0) (i := 0) (j := 0) (by decide +kernel) rfl rfl ?_
      refine ab_iload_n (pc := 109) (n := 2) (i := 2) (j := 2) (by decide +kernel) rfl rfl ?_
      refine ab_iconst (pc := 110) (n := 0) (v := nI 0) (by decide +kernel) rfl ?_
      refine ab_callVi (As := [.int x2, .int (nI 0)]) (st := [.int (nI 0), .int x2, .ref x0]) (pc := 111) lk_X12_57_12 rfl rfl rfl (by decide) (by decide) (Nat.le_of_ble_eq_true rfl) (by decide +kernel) (fun y9 e9 => okX12_of hl e9) (fun v9 ev9 => ?_)
      refine ab_iconst (pc := 114) (n := 1) (v := nI 1) (by decide +kernel) rfl ?_
      refine ab_iload_n (pc := 115) (n := 3) (i := 3) (j := 3) (by decide +kernel) rfl rfl ?_
      refine ab_ishl (pc := 116) (by decide +kernel) ?_
      refine ab_ior (pc := 117) (by decide +kernel) ?_
      refine ab_callVw (As := [.int x2, .int (nI 0), .int (v9 ||| ((nI 1) <<< (x3 &&& 31)))]) (st := []) (pc := 118) lk_X12_100_12 rfl rfl rfl (by decide) (by decide) (Nat.le_of_ble_eq_true rfl) (by decide +kernel) (fun y9 e9 => okX12_has hl e9) (fun h10 eh10 => ?_)
      refine ab_aload_n (pc := 121) (n := 0) (i := 0) (j := 0) (by decide +kernel) rfl rfl ?_
      refine ab_iload_n (pc := 122) (n := 2) (i := 2) (j := 2) (by decide +kernel) rfl rfl ?_
      refine ab_iconst (pc := 123) (n := 0) (v := nI 0) (by decide +kernel) rfl ?_
      refine ab_callVi (As := [.int x2, .int (nI 0)]) (st := []) (pc := 124) lk_X12_57_12 rfl rfl rfl (by decide) (by decide) (Nat.le_of_ble_eq_true rfl) (by decide +kernel) (fun y9 e9 => okX12_of hl e9) (fun v11 ev11 => ?_)
      refine ab_callSi (As := [.int v11]) (st := []) (pc := 127) lk_X12_242 rfl rfl rfl (by decide) (by decide) (Nat.le_of_ble_eq_true rfl) (by decide +kernel) (fun y9 e9 => okX12_bits hl (F := F) e9) (fun v12 ev12 => ?_)
      exact ab_iret (pc := 130) (by decide +kernel) rfl rfl (Nat.zero_le _) (Nat.zero_le _)
    · refine ab_iconst (pc := 81) (n := 0) (v := nI 0) (by decide +kernel) rfl ?_
      exact ab_iret (pc := 82) (by decide +kernel) rfl rfl (Nat.zero_le _) (Nat.zero_le _)
  · refine ab_jr (fun k9 : Option (Int32 × ab_H) => ab_S l mX12_graft (fun y : (Int32 × ab_H) => ((.inl (some (.int y.1)), y.2) : ab_R × ab_H)) 0 0 (k9) 27 [(0, .ref x0), (1, .int x1), (2, .int x2), (3, .int x3)] [.ref x0] h) ?_ (fun j14 hj14 => ?_)
    · refine ab_iconst (pc := 27) (n := 1) (v := nI 1) (by decide +kernel) rfl ?_
      refine ab_goto (pc := 28) (off := 43) (tgt := 71) (by decide +kernel) (by decide) ?_
      exact hj13 (nI 1)
    · refine ab_if_eq (off := 21) (pc := 6) (tgt := 27) (by decide +kernel) (by decide) (fun g15 => ?_) (fun g15 => ?_)
      · exact hj14
      · refine ab_aload_n (pc := 9) (n := 0) (i := 0) (j := 0) (by decide +kernel) rfl rfl ?_
        refine ab_iload_n (pc := 10) (n := 2) (i := 2) (j := 2) (by decide +kernel) rfl rfl ?_
        refine ab_callVi (As := [.int x2]) (st := [.ref x0]) (pc := 11) lk_X12_250_12 rfl rfl rfl (by decide) (by decide) (Nat.le_of_ble_eq_true rfl) (by decide +kernel) (fun y9 e9 => okX12_isPerson hl e9) (fun v16 ev16 => ?_)
        refine ab_if_eq (off := 13) (pc := 14) (tgt := 27) (by decide +kernel) (by decide) (fun g17 => ?_) (fun g17 => ?_)
        · exact hj14
        · refine ab_iload_n (pc := 17) (n := 3) (i := 3) (j := 3) (by decide +kernel) rfl rfl ?_
          refine ab_iconst (pc := 18) (n := 0) (v := nI 0) (by decide +kernel) rfl ?_
          refine ab_bipush (pc := 19) (n := 7) (v := nI 7) (by decide +kernel) (by decide) ?_
          refine ab_callSi (As := [.int x3, .int (nI 0), .int (nI 7)]) (st := [.ref x0]) (pc := 21) lk_X12_53 rfl rfl rfl (by decide) (by decide) (Nat.le_of_ble_eq_true rfl) (by decide +kernel) (fun y9 e9 => okX12_isIn hl e9) (fun v18 ev18 => ?_)
          refine ab_if_ne (off := 7) (pc := 24) (tgt := 31) (by decide +kernel) (by decide) (fun g19 => ?_) (fun g19 => ?_)
          · exact hj14
          · refine ab_iload_n (pc := 31) (n := 1) (i := 1) (j := 1) (by decide +kernel) rfl rfl ?_
            refine ab_iload_n (pc := 32) (n := 2) (i := 2) (j := 2) (by decide +kernel) rfl rfl ?_
            refine ab_icmp_ne (off := 7) (pc := 33) (tgt := 40) (by decide +kernel) (by decide) (fun g20 => ?_) (fun g20 => ?_)
            · refine ab_iconst (pc := 36) (n := 2) (v := nI 2) (by decide +kernel) rfl ?_
              refine ab_goto (pc := 37) (off := 34) (tgt := 71) (by decide +kernel) (by decide) ?_
              exact hj13 (nI 2)
            · refine ab_aload_n (pc := 40) (n := 0) (i := 0) (j := 0) (by decide +kernel) rfl rfl ?_
              refine ab_iload_n (pc := 41) (n := 1) (i := 1) (j := 1) (by decide +kernel) rfl rfl ?_
              refine ab_iconst (pc := 42) (n := 0) (v := nI 0) (by decide +kernel) rfl ?_
              refine ab_callVi (As := [.int x1, .int (nI 0)]) (st := [.ref x0]) (pc := 43) lk_X12_57_12 rfl rfl rfl (by decide) (by decide) (Nat.le_of_ble_eq_true rfl) (by decide +kernel) (fun y9 e9 => okX12_of hl e9) (fun v21 ev21 => ?_)
              refine ab_iload_n (pc := 46) (n := 3) (i := 3) (j := 3) (by decide +kernel) rfl rfl ?_
              refine ab_callSi (As := [.int v21, .int x3]) (st := [.ref x0]) (pc := 47) lk_X12_107 rfl rfl rfl (by decide) (by decide) (Nat.le_of_ble_eq_true rfl) (by decide +kernel) (fun y9 e9 => okX12_isOf hl e9) (fun v22 ev22 => ?_)
              refine ab_if_eq (off := 16) (pc := 50) (tgt := 66) (by decide +kernel) (by decide) (fun g23 => ?_) (fun g23 => ?_)
              · refine ab_iconst (pc := 66) (n := 3) (v := nI 3) (by decide +kernel) rfl ?_
                refine ab_goto (pc := 67) (off := 4) (tgt := 71) (by decide +kernel) (by decide) ?_
                exact hj13 (nI 3)
              · refine ab_aload_n (pc := 53) (n := 0) (i := 0) (j := 0) (by decide +kernel) rfl rfl ?_
                refine ab_iload_n (pc := 54) (n := 2) (i := 2) (j := 2) (by decide +kernel) rfl rfl ?_
                refine ab_iconst (pc := 55) (n := 0) (v := nI 0) (by decide +kernel) rfl ?_
                refine ab_callVi (As := [.int x2, .int (nI 0)]) (st := [.ref x0]) (pc := 56) lk_X12_57_12 rfl rfl rfl (by decide) (by decide) (Nat.le_of_ble_eq_true rfl) (by decide +kernel) (fun y9 e9 => okX12_of hl e9) (fun v24 ev24 => ?_)
                refine ab_iload_n (pc := 59) (n := 3) (i := 3) (j := 3) (by decide +kernel) rfl rfl ?_
                refine ab_callSi (As := [.int v24, .int x3]) (st := [.ref x0]) (pc := 60) lk_X12_107 rfl rfl rfl (by decide) (by decide) (Nat.le_of_ble_eq_true rfl) (by decide +kernel) (fun y9 e9 => okX12_isOf hl e9) (fun v25 ev25 => ?_)
                refine ab_if_eq (off := 7) (pc := 63) (tgt := 70) (by decide +kernel) (by decide) (fun g26 => ?_) (fun g26 => ?_)
                · refine ab_iconst (pc := 70) (n := 0) (v := nI 0) (by decide +kernel) rfl ?_
                  exact hj13 (nI 0)
                · refine ab_iconst (pc := 66) (n := 3) (v := nI 3) (by decide +kernel) rfl ?_
                  refine ab_goto (pc := 67) (off := 4) (tgt := 71) (by decide +kernel) (by decide) ?_
                  exact hj13 (nI 3)
set_option maxRecDepth 100000 in
set_option maxHeartbeats 4000000 in
theorem okX12_graft {l : Launch} (hl : l.stackTraces = false) {F : Nat} {x0 : Nat} {x1 : Int32} {x2 : Int32} {x3 : Int32} {h : ab_H} {y : (Int32 × ab_H)} (e : fX12_graft F x0 x1 x2 x3 h = some y) : ab_Met l mX12_graft [.ref x0, .int x1, .int x2, .int x3] h (.inl (some (.int y.1)), y.2) := ab_ofS (io := (fun y : (Int32 × ab_H) => ((.inl (some (.int y.1)), y.2) : ab_R × ab_H))) (x := y) hl (by decide) rfl (Nat.le_of_ble_eq_true rfl) (wX12_graft hl F x0 x1 x2 x3 h) e
def mX12_meets : ab_M := (yX12_meets, cX12_meets, 4, (some .int), { frames := 1, cells := 0, slots := 0, locals := 23 })
theorem iX12_meets : ab_MI mX12_meets 2 := ⟨kw_4c7682a2d0, kw_30b3f7d7c6, by decide +kernel⟩
def fX12_meets (x0 : Nat) (x1 : Int32) (x2 : Int32) (h : ab_H) : Option (Int32 × ab_H) := ab_ck (ab_io h x0 12 = true) (ab_bd (fX12_of x0 x1 (nI 5) h) fun v1 => ab_ck (ab_io h x0 12 = true) (ab_bd (fX12_of x0 x2 (nI 5) h) fun v2 => ab_ck (ab_io h x0 12 = true) (ab_bd (fX12_has x0 x1 (nI 5) ((((v1 ||| v2) ||| ((nI 1) <<< (x1 &&& 31))) ||| ((nI 1) <<< (x2 &&& 31))) &&& (((nI 1) <<< (x1 &&& 31)) ^^^ (-1 : Int32))) h) fun h3 => ab_ck (ab_io h3 x0 12 = true) (ab_bd (fX12_has x0 x2 (nI 5) ((((v1 ||| v2) ||| ((nI 1) <<< (x1 &&& 31))) ||| ((nI 1) <<< (x2 &&& 31))) &&& (((nI 1) <<< (x2 &&& 31)) ^^^ (-1 : Int32))) h3) fun h4 => ab_bd (ab_fr h4 x0 12 1) fun v5 => ab_ck (ab_io h4 x0 12 = true) (ab_bd (fX12_of x0 x2 (nI 5) h4) fun v6 => ab_bd (ab_iw 0 h4 v5 (((nI 172) + ((nI 10) * x1)) + x2) v6) fun h7 => ab_bd (ab_fr h7 x0 12 1) fun v8 => ab_ck (ab_io h7 x0 12 = true) (ab_bd (fX12_of x0 x1 (nI 5) h7) fun v9 => ab_bd (ab_iw 0 h7 v8 (((nI 172) + ((nI 10) * x2)) + x1) v9) fun h10 => some (((v1 ||| v2) ||| ((nI 1) <<< (x1 &&& 31))) ||| ((nI 1) <<< (x2 &&& 31)), h10)))))))
set_option maxRecDepth 100000 in
set_option maxHeartbeats 4000000 in
theorem wX12_meets {l : Launch} (hl : l.stackTraces = false) (x0 : Nat) (x1 : Int32) (x2 : Int32) (h : ab_H) : ab_S l mX12_meets (fun y : (Int32 × ab_H) => ((.inl (some (.int y.1)), y.2) : ab_R × ab_H)) 0 0 (fX12_meets x0 x1 x2 h) 0 [(0, .ref x0), (1, .int x1), (2, .int x2)] [] h := by
  unfold fX12_meets
  refine ab_aload_n (pc := 0) (n := 0) (i := 0) (j := 0) (by decide +kernel) rfl rfl ?_
  refine ab_iload_n (pc := 1) (n := 1) (i := 1) (j := 1) (by decide +kernel) rfl rfl ?_
  refine ab_iconst (pc := 2) (n := 5) (v := nI 5) (by decide +kernel) rfl ?_
  refine ab_callVi (As := [.int x1, .int (nI 5)]) (st := []) (pc := 3) lk_X12_57_12 rfl rfl rfl (by decide) (by decide) (Nat.le_of_ble_eq_true rfl) (by decide +kernel) (fun y9 e9 => okX12_of hl e9) (fun v1 ev1 => ?_)
  refine ab_aload_n (pc := 6) (n := 0) (i := 0) (j := 0) (by decide +kernel) rfl rfl ?_
  refine ab_iload_n (pc := 7) (n := 2) (i := 2) (j := 2) (by decide +kernel) rfl rfl ?_
  refine ab_iconst (pc := 8) (n := 5) (v := nI 5) (by decide +kernel) rfl ?_
  refine ab_callVi (As := [.int x2, .int (nI 5)]) (st := [.int v1]) (pc := 9) lk_X12_57_12 rfl rfl rfl (by decide) (by decide) (Nat.le_of_ble_eq_true rfl) (by decide +kernel) (fun y9 e9 => okX12_of hl e9) (fun v2 ev2 => ?_)
  refine ab_ior (pc := 12) (by decide +kernel) ?_
  refine ab_iconst (pc := 13) (n := 1) (v := nI 1) (by decide +kernel) rfl ?_
  refine ab_iload_n (pc := 14) (n := 1) (i := 1) (j := 1) (by decide +kernel) rfl rfl ?_
  refine ab_ishl (pc := 15) (by decide +kernel) ?_
  refine ab_ior (pc := 16) (by decide +kernel) ?_
  refine ab_iconst (pc := 17) (n := 1) (v := nI 1) (by decide +kernel) rfl ?_
  refine ab_iload_n (pc := 18) (n := 2) (i := 2) (j := 2) (by decide +kernel) rfl rfl ?_
  refine ab_ishl (pc := 19) (by decide +kernel) ?_
  refine ab_ior (pc := 20) (by decide +kernel) ?_
  refine ab_istore_n (pc := 21) (n := 3) (i := 3) (lv' := [(0, .ref x0), (1, .int x1), (2, .int x2), (3, .int (((v1 ||| v2) ||| ((nI 1) <<< (x1 &&& 31))) ||| ((nI 1) <<< (x2 &&& 31))))]) (by decide +kernel) rfl (by decide) rfl rfl ?_
  refine ab_aload_n (pc := 22) (n := 0) (i := 0) (j := 0) (by decide +kernel) rfl rfl ?_
  refine ab_iload_n (pc := 23) (n := 1) (i := 1) (j := 1) (by decide +kernel) rfl rfl ?_
  refine ab_iconst (pc := 24) (n := 5) (v := nI 5) (by decide +kernel) rfl ?_
  refine ab_iload_n (pc := 25) (n := 3) (i := 3) (j := 3) (by decide +kernel) rfl rfl ?_
  refine ab_iconst (pc := 26) (n := 1) (v := nI 1) (by decide +kernel) rfl ?_
  refine ab_iload_n (pc := 27) (n := 1) (i := 1) (j := 1) (by decide +kernel) rfl rfl ?_
  refine ab_ishl (pc := 28) (by decide +kernel) ?_
  refine ab_iconst (pc := 29) (n := -1) (v := (-1 : Int32)) (by decide +kernel) rfl ?_
  refine ab_ixor (pc := 30) (by decide +kernel) ?_
  refine ab_iand (pc := 31) (by decide +kernel) ?_
  refine ab_callVw (As := [.int x1, .int (nI 5), .int ((((v1 ||| v2) ||| ((nI 1) <<< (x1 &&& 31))) ||| ((nI 1) <<< (x2 &&& 31))) &&& (((nI 1) <<< (x1 &&& 31)) ^^^ (-1 : Int32)))]) (st := []) (pc := 32) lk_X12_100_12 rfl rfl rfl (by decide) (by decide) (Nat.le_of_ble_eq_true rfl) (by decide +kernel) (fun y9 e9 => okX12_has hl e9) (fun h3 eh3 => ?_)
  refine ab_aload_n (pc := 35) (n := 0) (i := 0) (j := 0) (by decide +kernel) rfl rfl ?_
  refine ab_iload_n (pc := 36) (n := 2) (i := 2) (j := 2) (by decide +kernel) rfl rfl ?_
  refine ab_iconst (pc := 37) (n := 5) (v := nI 5) (by decide +kernel) rfl ?_
  refine ab_iload_n (pc := 38) (n := 3) (i := 3) (j := 3) (by decide +kernel) rfl rfl ?_
  refine ab_iconst (pc := 39) (n := 1) (v := nI 1) (by decide +kernel) rfl ?_
  refine ab_iload_n (pc := 40) (n := 2) (i := 2) (j := 2) (by decide +kernel) rfl rfl ?_
  refine ab_ishl (pc := 41) (by decide +kernel) ?_
  refine ab_iconst (pc := 42) (n := -1) (v := (-1 : Int32)) (by decide +kernel) rfl ?_
  refine ab_ixor (pc := 43) (by decide +kernel) ?_
  refine ab_iand (pc := 44) (by decide +kernel) ?_
  refine ab_callVw (As := [.int x2, .int (nI 5), .int ((((v1 ||| v2) ||| ((nI 1) <<< (x1 &&& 31))) ||| ((nI 1) <<< (x2 &&& 31))) &&& (((nI 1) <<< (x2 &&& 31)) ^^^ (-1 : Int32)))]) (st := []) (pc := 45) lk_X12_100_12 rfl rfl rfl (by decide) (by decide) (Nat.le_of_ble_eq_true rfl) (by decide +kernel) (fun y9 e9 => okX12_has hl e9) (fun h4 eh4 => ?_)
  refine ab_aload_n (pc := 48) (n := 0) (i := 0) (j := 0) (by decide +kernel) rfl rfl ?_
  refine ab_getR (pc := 49) fl_X12_7_12 (by decide +kernel) (fun v5 ev5 => ?_)
  refine ab_sipush (pc := 52) (n := 172) (v := nI 172) (by decide +kernel) (by decide) ?_
  refine ab_bipush (pc := 55) (n := 10) (v := nI 10) (by decide +kernel) (by decide) ?_
  refine ab_iload_n (pc := 57) (n := 1) (i := 1) (j := 1) (by decide +kernel) rfl rfl ?_
  refine ab_imul (pc := 58) (by decide +kernel) ?_
  refine ab_iadd (pc := 59) (by decide +kernel) ?_
  refine ab_iload_n (pc := 60) (n := 2) (i := 2) (j := 2) (by decide +kernel) rfl rfl ?_
  refine ab_iadd (pc := 61) (by decide +kernel) ?_
  refine ab_aload_n (pc := 62) (n := 0) (i := 0) (j := 0) (by decide +kernel) rfl rfl ?_
  refine ab_iload_n (pc := 63) (n := 2) (i := 2) (j := 2) (by decide +kernel) rfl rfl ?_
  refine ab_iconst (pc := 64) (n := 5) (v := nI 5) (by decide +kernel) rfl ?_
  refine ab_callVi (As := [.int x2, .int (nI 5)]) (st := [.int (((nI 172) + ((nI 10) * x1)) + x2), .ref v5]) (pc := 65) lk_X12_57_12 rfl rfl rfl (by decide) (by decide) (Nat.le_of_ble_eq_true rfl) (by decide +kernel) (fun y9 e9 => okX12_of hl e9) (fun v6 ev6 => ?_)
  refine ab_iast (pc := 68) (by decide +kernel) (fun h7 eh7 => ?_)
  refine ab_aload_n (pc := 69) (n := 0) (i := 0) (j := 0) (by decide +kernel) rfl rfl ?_
  refine ab_getR (pc := 70) fl_X12_7_12 (by decide +kernel) (fun v8 ev8 => ?_)
  refine ab_sipush (pc := 73) (n := 172) (v := nI 172) (by decide +kernel) (by decide) ?_
  refine ab_bipush (pc := 76) (n := 10) (v := nI 10) (by decide +kernel) (by decide) ?_
  refine ab_iload_n (pc := 78) (n := 2) (i := 2) (j := 2) (by decide +kernel) rfl rfl ?_
  refine ab_imul (pc := 79) (by decide +kernel) ?_
  refine ab_iadd (pc := 80) (by decide +kernel) ?_
  refine ab_iload_n (pc := 81) (n := 1) (i := 1) (j := 1) (by decide +kernel) rfl rfl ?_
  refine ab_iadd (pc := 82) (by decide +kernel) ?_
  refine ab_aload_n (pc := 83) (n := 0) (i := 0) (j := 0) (by decide +kernel) rfl rfl ?_
  refine ab_iload_n (pc := 84) (n := 1) (i := 1) (j := 1) (by decide +kernel) rfl rfl ?_
  refine ab_iconst (pc := 85) (n := 5) (v := nI 5) (by decide +kernel) rfl ?_
  refine ab_callVi (As := [.int x1, .int (nI 5)]) (st := [.int (((nI 172) + ((nI 10) * x2)) + x1), .ref v8]) (pc := 86) lk_X12_57_12 rfl rfl rfl (by decide) (by decide) (Nat.le_of_ble_eq_true rfl) (by decide +kernel) (fun y9 e9 => okX12_of hl e9) (fun v9 ev9 => ?_)
  refine ab_iast (pc := 89) (by decide +kernel) (fun h10 eh10 => ?_)
  refine ab_iload_n (pc := 90) (n := 3) (i := 3) (j := 3) (by decide +kernel) rfl rfl ?_
  exact ab_iret (pc := 91) (by decide +kernel) rfl rfl (Nat.zero_le _) (Nat.zero_le _)
set_option maxRecDepth 100000 in
set_option maxHeartbeats 4000000 in
theorem okX12_meets {l : Launch} (hl : l.stackTraces = false) {x0 : Nat} {x1 : Int32} {x2 : Int32} {h : ab_H} {y : (Int32 × ab_H)} (e : fX12_meets x0 x1 x2 h = some y) : ab_Met l mX12_meets [.ref x0, .int x1, .int x2] h (.inl (some (.int y.1)), y.2) := ab_ofS (io := (fun y : (Int32 × ab_H) => ((.inl (some (.int y.1)), y.2) : ab_R × ab_H))) (x := y) hl (by decide) rfl (Nat.le_of_ble_eq_true rfl) (wX12_meets hl x0 x1 x2 h) e
def mX12_meet : ab_M := (yX12_meet, cX12_meet, 3, (some .int), { frames := 3, cells := 0, slots := 0, locals := 65 })
theorem iX12_meet : ab_MI mX12_meet 2 := ⟨kw_cf709f48ab, kw_30b3f7d7c6, by decide +kernel⟩
theorem lk_X12_291_12 : ab_LV RX12 291 12 mX12_meets 2 := ⟨RX12, rfl, iX12_meets, kw_e30f85ffab, kw_ed08052cd4, kw_6202b64648⟩
def fX12_meet (F : Nat) (x0 : Nat) (x1 : Int32) (x2 : Int32) (h : ab_H) : Option (Int32 × ab_H) := ab_ck (ab_io h x0 12 = true) (ab_bd (fX12_two x0 x1 x2 h) fun v1 => ab_bd (ab_fw h x0 12 0 (.int v1)) fun h2 => ab_bd (ab_fi h2 x0 12 0) fun v3 => (if v3 ≤ 0 then ab_ck (ab_io h2 x0 12 = true) (ab_bd (fX12_remembers F x0 h2) fun h5 => ab_ck (ab_io h5 x0 12 = true) (ab_bd (fX12_meets x0 x1 x2 h5) fun v6 => some (v6.1, v6.2))) else some (nI 0, h2)))
set_option maxRecDepth 100000 in
set_option maxHeartbeats 4000000 in
theorem wX12_meet {l : Launch} (hl : l.stackTraces = false) (F : Nat) (x0 : Nat) (x1 : Int32) (x2 : Int32) (h : ab_H) : ab_S l mX12_meet (fun y : (Int32 × ab_H) => ((.inl (some (.int y.1)), y.2) : ab_R × ab_H)) 0 0 (fX12_meet F x0 x1 x2 h) 0 [(0, .ref x0), (1, .int x1), (2, .int x2)] [] h := by
  unfold fX12_meet
  refine ab_aload_n (pc := 0) (n := 0) (i := 0) (j := 0) (by decide +kernel) rfl rfl ?_
  refine ab_aload_n (pc := 1) (n := 0) (i := 0) (j := 0) (by decide +kernel) rfl rfl ?_
  refine ab_iload_n (pc := 2) (n := 1) (i := 1) (j := 1) (by decide +kernel) rfl rfl ?_
  refine ab_iload_n (pc := 3) (n := 2) (i := 2) (j := 2) (by decide +kernel) rfl rfl ?_
  refine ab_callVi (As := [.int x1, .int x2]) (st := [.ref x0]) (pc := 4) lk_X12_265_12 rfl rfl rfl (by decide) (by decide) (Nat.le_of_ble_eq_true rfl) (by decide +kernel) (fun y9 e9 => okX12_two hl e9) (fun v1 ev1 => ?_)
  refine ab_put (pc := 7) fl_X12_50_12 rfl (fun _ => rfl) (fun _ => rfl) (by decide +kernel) (fun h2 eh2 => ?_)
  refine ab_aload_n (pc := 10) (n := 0) (i := 0) (j := 0) (by decide +kernel) rfl rfl ?_
  refine ab_getI (pc := 11) fl_X12_50_12 (by decide +kernel) (fun v3 ev3 => ?_)
  refine ab_if_le (off := 5) (pc := 14) (tgt := 19) (by decide +kernel) (by decide) (fun g4 => ?_) (fun g4 => ?_)
  · refine ab_aload_n (pc := 19) (n := 0) (i := 0) (j := 0) (by decide +kernel) rfl rfl ?_
    refine ab_callVw (As := []) (st := []) (pc := 20) lk_X12_279_12 rfl rfl rfl (by decide) (by decide) (Nat.le_of_ble_eq_true rfl) (by decide +kernel) (fun y9 e9 => okX12_remembers hl (F := F) e9) (fun h5 eh5 => ?_)
    refine ab_aload_n (pc := 23) (n := 0) (i := 0) (j := 0) (by decide +kernel) rfl rfl ?_
    refine ab_iload_n (pc := 24) (n := 1) (i := 1) (j := 1) (by decide +kernel) rfl rfl ?_
    refine ab_iload_n (pc := 25) (n := 2) (i := 2) (j := 2) (by decide +kernel) rfl rfl ?_
    refine ab_callVj (As := [.int x1, .int x2]) (st := []) (pc := 26) lk_X12_291_12 rfl rfl rfl (by decide) (by decide) (Nat.le_of_ble_eq_true rfl) (by decide +kernel) (fun y9 e9 => okX12_meets hl e9) (fun v6 ev6 => ?_)
    exact ab_iret (pc := 29) (by decide +kernel) rfl rfl (Nat.zero_le _) (Nat.zero_le _)
  · refine ab_iconst (pc := 17) (n := 0) (v := nI 0) (by decide +kernel) rfl ?_
    exact ab_iret (pc := 18) (by decide +kernel) rfl rfl (Nat.zero_le _) (Nat.zero_le _)
set_option maxRecDepth 100000 in
set_option maxHeartbeats 4000000 in
theorem okX12_meet {l : Launch} (hl : l.stackTraces = false) {F : Nat} {x0 : Nat} {x1 : Int32} {x2 : Int32} {h : ab_H} {y : (Int32 × ab_H)} (e : fX12_meet F x0 x1 x2 h = some y) : ab_Met l mX12_meet [.ref x0, .int x1, .int x2] h (.inl (some (.int y.1)), y.2) := ab_ofS (io := (fun y : (Int32 × ab_H) => ((.inl (some (.int y.1)), y.2) : ab_R × ab_H))) (x := y) hl (by decide) rfl (Nat.le_of_ble_eq_true rfl) (wX12_meet hl F x0 x1 x2 h) e
def mX12_freeHook : ab_M := (yX12_freeHook, cX12_freeHook, 2, (some .int), { frames := 0, cells := 0, slots := 0, locals := 0 })
theorem iX12_freeHook : ab_MI mX12_freeHook 0 := ⟨kw_48360f345a, kw_30b3f7d7c6, by decide +kernel⟩
def fX12_freeHook_2 (x0 : Nat) (h : ab_H) : Nat → Int32 → Option Int32
  | 0, _ => none
  | n + 1, x1 => ab_bd (ab_fr h x0 12 1) fun v1 => ab_bd (ab_ia 0 h v1 (nI 4)) fun v2 => (if x1 < v2 then ab_bd (ab_fr h x0 12 1) fun v4 => ab_bd (ab_ia 0 h v4 ((nI 272) + x1)) fun v5 => (if v5 = (-1 : Int32) then some x1 else fX12_freeHook_2 x0 h n (x1 + nI 1)) else some (-1 : Int32))
def fX12_freeHook (F : Nat) (x0 : Nat) (h : ab_H) : Option Int32 := fX12_freeHook_2 x0 h F (nI 0)
set_option maxRecDepth 100000 in
set_option maxHeartbeats 4000000 in
theorem lX12_freeHook_2 {l : Launch} (hl : l.stackTraces = false) (x0 : Nat) (h : ab_H) : ∀ (n : Nat) (x1 : Int32), ab_S l mX12_freeHook (fun y : Int32 => ((.inl (some (.int y)), h) : ab_R × ab_H)) 0 0 (fX12_freeHook_2 x0 h n x1) 2 [(0, .ref x0), (1, .int x1)] [] h := by
  intro n
  induction n with
  | zero =>
    intro x1
    exact ab_none
  | succ n ih =>
    intro x1
    rw [fX12_freeHook_2]
    refine ab_iload_n (pc := 2) (n := 1) (i := 1) (j := 1) (by decide +kernel) rfl rfl ?_
    refine ab_aload_n (pc := 3) (n := 0) (i := 0) (j := 0) (by decide +kernel) rfl rfl ?_
    refine ab_getR (pc := 4) fl_X12_7_12 (by decide +kernel) (fun v1 ev1 => ?_)
    refine ab_iconst (pc := 7) (n := 4) (v := nI 4) (by decide +kernel) rfl ?_
    refine ab_iald (pc := 8) (by decide +kernel) (fun v2 ev2 => ?_)
    refine ab_icmp_ge (off := 25) (pc := 9) (tgt := 34) (by decide +kernel) (by decide) (fun g3 => ?_) (fun g3 => ?_)
    · refine ab_aload_n (pc := 12) (n := 0) (i := 0) (j := 0) (by decide +kernel) rfl rfl ?_
      refine ab_getR (pc := 13) fl_X12_7_12 (by decide +kernel) (fun v4 ev4 => ?_)
      refine ab_sipush (pc := 16) (n := 272) (v := nI 272) (by decide +kernel) (by decide) ?_
      refine ab_iload_n (pc := 19) (n := 1) (i := 1) (j := 1) (by decide +kernel) rfl rfl ?_
      refine ab_iadd (pc := 20) (by decide +kernel) ?_
      refine ab_iald (pc := 21) (by decide +kernel) (fun v5 ev5 => ?_)
      refine ab_iconst (pc := 22) (n := -1) (v := (-1 : Int32)) (by decide +kernel) rfl ?_
      refine ab_icmp_ne (off := 5) (pc := 23) (tgt := 28) (by decide +kernel) (by decide) (fun g6 => ?_) (fun g6 => ?_)
      · refine ab_iload_n (pc := 26) (n := 1) (i := 1) (j := 1) (by decide +kernel) rfl rfl ?_
        exact ab_iret (pc := 27) (by decide +kernel) rfl rfl (Nat.zero_le _) (Nat.zero_le _)
      · refine ab_iinc (pc := 28) (i := 1) (n := 1) (j := 1) (d := nI 1) (lv' := [(0, .ref x0), (1, .int (x1 + nI 1))]) (by decide +kernel) rfl rfl (by decide) rfl rfl ?_
        refine ab_goto (pc := 31) (off := (-29)) (tgt := 2) (by decide +kernel) (by decide) ?_
        exact ih (x1 + nI 1)
    · refine ab_iconst (pc := 34) (n := -1) (v := (-1 : Int32)) (by decide +kernel) rfl ?_
      exact ab_iret (pc := 35) (by decide +kernel) rfl rfl (Nat.zero_le _) (Nat.zero_le _)
set_option maxRecDepth 100000 in
set_option maxHeartbeats 4000000 in
theorem wX12_freeHook {l : Launch} (hl : l.stackTraces = false) (F : Nat) (x0 : Nat) (h : ab_H) : ab_S l mX12_freeHook (fun y : Int32 => ((.inl (some (.int y)), h) : ab_R × ab_H)) 0 0 (fX12_freeHook F x0 h) 0 [(0, .ref x0)] [] h := by
  unfold fX12_freeHook
  refine ab_iconst (pc := 0) (n := 0) (v := nI 0) (by decide +kernel) rfl ?_
  refine ab_istore_n (pc := 1) (n := 1) (i := 1) (lv' := [(0, .ref x0), (1, .int (nI 0))]) (by decide +kernel) rfl (by decide) rfl rfl ?_
  refine lX12_freeHook_2 hl x0 h F (nI 0)
set_option maxRecDepth 100000 in
set_option maxHeartbeats 4000000 in
theorem okX12_freeHook {l : Launch} (hl : l.stackTraces = false) {F : Nat} {x0 : Nat} {h : ab_H} {y : Int32} (e : fX12_freeHook F x0 h = some y) : ab_Met l mX12_freeHook [.ref x0] h (.inl (some (.int y)), h) := ab_ofS (io := (fun y : Int32 => ((.inl (some (.int y)), h) : ab_R × ab_H))) (x := y) hl (by decide) rfl (Nat.le_of_ble_eq_true rfl) (wX12_freeHook hl F x0 h) e
def mX12_holder : ab_M := (yX12_holder, cX12_holder, 5, (some .int), { frames := 1, cells := 0, slots := 0, locals := 22 })
theorem iX12_holder : ab_MI mX12_holder 2 := ⟨kw_4658a0e829, kw_30b3f7d7c6, by decide +kernel⟩
def fX12_holder_5 (x0 : Nat) (x2 : Int32) (h : ab_H) : Nat → Int32 → Int32 → Option Int32
  | 0, _, _ => none
  | n + 1, x3, x4 => ab_bd (ab_fr h x0 12 1) fun v1 => ab_bd (ab_ia 0 h v1 (nI 3)) fun v2 => (if x4 < v2 then ab_ck (ab_io h x0 12 = true) (ab_bd (fX12_of x0 x4 (nI 3) h) fun v4 => (if v4 = (-1 : Int32) then fX12_holder_5 x0 x2 h n x3 (x4 + nI 1) else (if x4 = x2 then fX12_holder_5 x0 x2 h n x3 (x4 + nI 1) else (if x3 = 0 then some x4 else fX12_holder_5 x0 x2 h n (x3 + (-1 : Int32)) (x4 + nI 1))))) else some (-1 : Int32))
def fX12_holder (F : Nat) (x0 : Nat) (x1 : Int32) (x2 : Int32) (h : ab_H) : Option Int32 := fX12_holder_5 x0 x2 h F x1 (nI 0)
set_option maxRecDepth 100000 in
set_option maxHeartbeats 4000000 in
theorem lX12_holder_5 {l : Launch} (hl : l.stackTraces = false) (x0 : Nat) (x2 : Int32) (h : ab_H) : ∀ (n : Nat) (x3 : Int32) (x4 : Int32), ab_S l mX12_holder (fun y : Int32 => ((.inl (some (.int y)), h) : ab_R × ab_H)) 0 0 (fX12_holder_5 x0 x2 h n x3 x4) 5 [(0, .ref x0), (2, .int x2), (3, .int x3), (4, .int x4)] [] h := by
  intro n
  induction n with
  | zero =>
    intro x3 x4
    exact ab_none
  | succ n ih =>
    intro x3 x4
    rw [fX12_holder_5]
    refine ab_iload (pc := 5) (i := 4) (j := 3) (by decide +kernel) rfl ?_
    refine ab_aload_n (pc := 7) (n := 0) (i := 0) (j := 0) (by decide +kernel) rfl rfl ?_
    refine ab_getR (pc := 8) fl_X12_7_12 (by decide +kernel) (fun v1 ev1 => ?_)
    refine ab_iconst (pc := 11) (n := 3) (v := nI 3) (by decide +kernel) rfl ?_
    refine ab_iald (pc := 12) (by decide +kernel) (fun v2 ev2 => ?_)
    refine ab_icmp_ge (off := 39) (pc := 13) (tgt := 52) (by decide +kernel) (by decide) (fun g3 => ?_) (fun g3 => ?_)
    · refine ab_aload_n (pc := 16) (n := 0) (i := 0) (j := 0) (by decide +kernel) rfl rfl ?_
      refine ab_iload (pc := 17) (i := 4) (j := 3) (by decide +kernel) rfl ?_
      refine ab_iconst (pc := 19) (n := 3) (v := nI 3) (by decide +kernel) rfl ?_
      refine ab_callVi (As := [.int x4, .int (nI 3)]) (st := []) (pc := 20) lk_X12_57_12 rfl rfl rfl (by decide) (by decide) (Nat.le_of_ble_eq_true rfl) (by decide +kernel) (fun y9 e9 => okX12_of hl e9) (fun v4 ev4 => ?_)
      refine ab_iconst (pc := 23) (n := -1) (v := (-1 : Int32)) (by decide +kernel) rfl ?_
      refine ab_icmp_eq (off := 22) (pc := 24) (tgt := 46) (by decide +kernel) (by decide) (fun g5 => ?_) (fun g5 => ?_)
      · refine ab_iinc (pc := 46) (i := 4) (n := 1) (j := 3) (d := nI 1) (lv' := [(0, .ref x0), (2, .int x2), (3, .int x3), (4, .int (x4 + nI 1))]) (by decide +kernel) rfl rfl (by decide) rfl rfl ?_
        refine ab_goto (pc := 49) (off := (-44)) (tgt := 5) (by decide +kernel) (by decide) ?_
        exact ih x3 (x4 + nI 1)
      · refine ab_iload (pc := 27) (i := 4) (j := 3) (by decide +kernel) rfl ?_
        refine ab_iload_n (pc := 29) (n := 2) (i := 2) (j := 1) (by decide +kernel) rfl rfl ?_
        refine ab_icmp_ne (off := 6) (pc := 30) (tgt := 36) (by decide +kernel) (by decide) (fun g6 => ?_) (fun g6 => ?_)
        · refine ab_goto (pc := 33) (off := 13) (tgt := 46) (by decide +kernel) (by decide) ?_
          refine ab_iinc (pc := 46) (i := 4) (n := 1) (j := 3) (d := nI 1) (lv' := [(0, .ref x0), (2, .int x2), (3, .int x3), (4, .int (x4 + nI 1))]) (by decide +kernel) rfl rfl (by decide) rfl rfl ?_
          refine ab_goto (pc := 49) (off := (-44)) (tgt := 5) (by decide +kernel) (by decide) ?_
          exact ih x3 (x4 + nI 1)
        · refine ab_iload_n (pc := 36) (n := 3) (i := 3) (j := 2) (by decide +kernel) rfl rfl ?_
          refine ab_if_ne (off := 6) (pc := 37) (tgt := 43) (by decide +kernel) (by decide) (fun g7 => ?_) (fun g7 => ?_)
          · refine ab_iload (pc := 40) (i := 4) (j := 3) (by decide +kernel) rfl ?_
            exact ab_iret (pc := 42) (by decide +kernel) rfl rfl (Nat.zero_le _) (Nat.zero_le _)
          · refine ab_iinc (pc := 43) (i := 3) (n := -1) (j := 2) (d := (-1 : Int32)) (lv' := [(0, .ref x0), (2, .int x2), (3, .int (x3 + (-1 : Int32))), (4, .int x4)]) (by decide +kernel) rfl rfl (by decide) rfl rfl ?_
            refine ab_iinc (pc := 46) (i := 4) (n := 1) (j := 3) (d := nI 1) (lv' := [(0, .ref x0), (2, .int x2), (3, .int (x3 + (-1 : Int32))), (4, .int (x4 + nI 1))]) (by decide +kernel) rfl rfl (by decide) rfl rfl ?_
            refine ab_goto (pc := 49) (off := (-44)) (tgt := 5) (by decide +kernel) (by decide) ?_
            exact ih (x3 + (-1 : Int32)) (x4 + nI 1)
    · refine ab_iconst (pc := 52) (n := -1) (v := (-1 : Int32)) (by decide +kernel) rfl ?_
      exact ab_iret (pc := 53) (by decide +kernel) rfl rfl (Nat.zero_le _) (Nat.zero_le _)
set_option maxRecDepth 100000 in
set_option maxHeartbeats 4000000 in
theorem wX12_holder {l : Launch} (hl : l.stackTraces = false) (F : Nat) (x0 : Nat) (x1 : Int32) (x2 : Int32) (h : ab_H) : ab_S l mX12_holder (fun y : Int32 => ((.inl (some (.int y)), h) : ab_R × ab_H)) 0 0 (fX12_holder F x0 x1 x2 h) 0 [(0, .ref x0), (1, .int x1), (2, .int x2)] [] h := by
  unfold fX12_holder
  refine ab_iload_n (pc := 0) (n := 1) (i := 1) (j := 1) (by decide +kernel) rfl rfl ?_
  refine ab_istore_n (pc := 1) (n := 3) (i := 3) (lv' := [(0, .ref x0), (1, .int x1), (2, .int x2), (3, .int x1)]) (by decide +kernel) rfl (by decide) rfl rfl ?_
  refine ab_iconst (pc := 2) (n := 0) (v := nI 0) (by decide +kernel) rfl ?_
  refine ab_istore (pc := 3) (i := 4) (lv' := [(0, .ref x0), (1, .int x1), (2, .int x2), (3, .int x1), (4, .int (nI 0))]) (by decide +kernel) (by decide) rfl rfl ?_
  refine ab_few [0, 2, 3, 4] (lv' := [(0, .ref x0), (2, .int x2), (3, .int x1), (4, .int (nI 0))]) rfl ?_
  refine lX12_holder_5 hl x0 x2 h F x1 (nI 0)
set_option maxRecDepth 100000 in
set_option maxHeartbeats 4000000 in
theorem okX12_holder {l : Launch} (hl : l.stackTraces = false) {F : Nat} {x0 : Nat} {x1 : Int32} {x2 : Int32} {h : ab_H} {y : Int32} (e : fX12_holder F x0 x1 x2 h = some y) : ab_Met l mX12_holder [.ref x0, .int x1, .int x2] h (.inl (some (.int y)), h) := ab_ofS (io := (fun y : Int32 => ((.inl (some (.int y)), h) : ab_R × ab_H))) (x := y) hl (by decide) rfl (Nat.le_of_ble_eq_true rfl) (wX12_holder hl F x0 x1 x2 h) e
def mX12_holders : ab_M := (yX12_holders, cX12_holders, 3, (some .int), { frames := 1, cells := 0, slots := 0, locals := 22 })
theorem iX12_holders : ab_MI mX12_holders 0 := ⟨kw_39ce814707, kw_30b3f7d7c6, by decide +kernel⟩
def fX12_holders_4 (x0 : Nat) (h : ab_H) : Nat → Int32 → Int32 → Option Int32
  | 0, _, _ => none
  | n + 1, x1, x2 => ab_bd (ab_fr h x0 12 1) fun v1 => ab_bd (ab_ia 0 h v1 (nI 3)) fun v2 => (if x2 < v2 then ab_ck (ab_io h x0 12 = true) (ab_bd (fX12_of x0 x2 (nI 3) h) fun v4 => (if v4 = (-1 : Int32) then fX12_holders_4 x0 h n (x1 ||| (nI 0)) (x2 + nI 1) else fX12_holders_4 x0 h n (x1 ||| ((nI 1) <<< (x2 &&& 31))) (x2 + nI 1))) else some x1)
def fX12_holders (F : Nat) (x0 : Nat) (h : ab_H) : Option Int32 := fX12_holders_4 x0 h F (nI 0) (nI 0)
set_option maxRecDepth 100000 in
set_option maxHeartbeats 4000000 in
theorem lX12_holders_4 {l : Launch} (hl : l.stackTraces = false) (x0 : Nat) (h : ab_H) : ∀ (n : Nat) (x1 : Int32) (x2 : Int32), ab_S l mX12_holders (fun y : Int32 => ((.inl (some (.int y)), h) : ab_R × ab_H)) 0 0 (fX12_holders_4 x0 h n x1 x2) 4 [(0, .ref x0), (1, .int x1), (2, .int x2)] [] h := by
  intro n
  induction n with
  | zero =>
    intro x1 x2
    exact ab_none
  | succ n ih =>
    intro x1 x2
    rw [fX12_holders_4]
    refine ab_iload_n (pc := 4) (n := 2) (i := 2) (j := 2) (by decide +kernel) rfl rfl ?_
    refine ab_aload_n (pc := 5) (n := 0) (i := 0) (j := 0) (by decide +kernel) rfl rfl ?_
    refine ab_getR (pc := 6) fl_X12_7_12 (by decide +kernel) (fun v1 ev1 => ?_)
    refine ab_iconst (pc := 9) (n := 3) (v := nI 3) (by decide +kernel) rfl ?_
    refine ab_iald (pc := 10) (by decide +kernel) (fun v2 ev2 => ?_)
    refine ab_icmp_ge (off := 29) (pc := 11) (tgt := 40) (by decide +kernel) (by decide) (fun g3 => ?_) (fun g3 => ?_)
    · refine ab_iload_n (pc := 14) (n := 1) (i := 1) (j := 1) (by decide +kernel) rfl rfl ?_
      refine ab_aload_n (pc := 15) (n := 0) (i := 0) (j := 0) (by decide +kernel) rfl rfl ?_
      refine ab_iload_n (pc := 16) (n := 2) (i := 2) (j := 2) (by decide +kernel) rfl rfl ?_
      refine ab_iconst (pc := 17) (n := 3) (v := nI 3) (by decide +kernel) rfl ?_
      refine ab_callVi (As := [.int x2, .int (nI 3)]) (st := [.int x1]) (pc := 18) lk_X12_57_12 rfl rfl rfl (by decide) (by decide) (Nat.le_of_ble_eq_true rfl) (by decide +kernel) (fun y9 e9 => okX12_of hl e9) (fun v4 ev4 => ?_)
      refine ab_iconst (pc := 21) (n := -1) (v := (-1 : Int32)) (by decide +kernel) rfl ?_
      refine ab_icmp_ne (off := 7) (pc := 22) (tgt := 29) (by decide +kernel) (by decide) (fun g5 => ?_) (fun g5 => ?_)
      · refine ab_iconst (pc := 25) (n := 0) (v := nI 0) (by decide +kernel) rfl ?_
        refine ab_goto (pc := 26) (off := 6) (tgt := 32) (by decide +kernel) (by decide) ?_
        refine ab_ior (pc := 32) (by decide +kernel) ?_
        refine ab_istore_n (pc := 33) (n := 1) (i := 1) (lv' := [(0, .ref x0), (1, .int (x1 ||| (nI 0))), (2, .int x2)]) (by decide +kernel) rfl (by decide) rfl rfl ?_
        refine ab_iinc (pc := 34) (i := 2) (n := 1) (j := 2) (d := nI 1) (lv' := [(0, .ref x0), (1, .int (x1 ||| (nI 0))), (2, .int (x2 + nI 1))]) (by decide +kernel) rfl rfl (by decide) rfl rfl ?_
        refine ab_goto (pc := 37) (off := (-33)) (tgt := 4) (by decide +kernel) (by decide) ?_
        exact ih (x1 ||| (nI 0)) (x2 + nI 1)
      · refine ab_iconst (pc := 29) (n := 1) (v := nI 1) (by decide +kernel) rfl ?_
        refine ab_iload_n (pc := 30) (n := 2) (i := 2) (j := 2) (by decide +kernel) rfl rfl ?_
        refine ab_ishl (pc := 31) (by decide +kernel) ?_
        refine ab_ior (pc := 32) (by decide +kernel) ?_
        refine ab_istore_n (pc := 33) (n := 1) (i := 1) (lv' := [(0, .ref x0), (1, .int (x1 ||| ((nI 1) <<< (x2 &&& 31)))), (2, .int x2)]) (by decide +kernel) rfl (by decide) rfl rfl ?_
        refine ab_iinc (pc := 34) (i := 2) (n := 1) (j := 2) (d := nI 1) (lv' := [(0, .ref x0), (1, .int (x1 ||| ((nI 1) <<< (x2 &&& 31)))), (2, .int (x2 + nI 1))]) (by decide +kernel) rfl rfl (by decide) rfl rfl ?_
        refine ab_goto (pc := 37) (off := (-33)) (tgt := 4) (by decide +kernel) (by decide) ?_
        exact ih (x1 ||| ((nI 1) <<< (x2 &&& 31))) (x2 + nI 1)
    · refine ab_iload_n (pc := 40) (n := 1) (i := 1) (j := 1) (by decide +kernel) rfl rfl ?_
      exact ab_iret (pc := 41) (by decide +kernel) rfl rfl (Nat.zero_le _) (Nat.zero_le _)
set_option maxRecDepth 100000 in
set_option maxHeartbeats 4000000 in
theorem wX12_holders {l : Launch} (hl : l.stackTraces = false) (F : Nat) (x0 : Nat) (h : ab_H) : ab_S l mX12_holders (fun y : Int32 => ((.inl (some (.int y)), h) : ab_R × ab_H)) 0 0 (fX12_holders F x0 h) 0 [(0, .ref x0)] [] h := by
  unfold fX12_holders
  refine ab_iconst (pc := 0) (n := 0) (v := nI 0) (by decide +kernel) rfl ?_
  refine ab_istore_n (pc := 1) (n := 1) (i := 1) (lv' := [(0, .ref x0), (1, .int (nI 0))]) (by decide +kernel) rfl (by decide) rfl rfl ?_
  refine ab_iconst (pc := 2) (n := 0) (v := nI 0) (by decide +kernel) rfl ?_
  refine ab_istore_n (pc := 3) (n := 2) (i := 2) (lv' := [(0, .ref x0), (1, .int (nI 0)), (2, .int (nI 0))]) (by decide +kernel) rfl (by decide) rfl rfl ?_
  refine lX12_holders_4 hl x0 h F (nI 0) (nI 0)
set_option maxRecDepth 100000 in
set_option maxHeartbeats 4000000 in
theorem okX12_holders {l : Launch} (hl : l.stackTraces = false) {F : Nat} {x0 : Nat} {h : ab_H} {y : Int32} (e : fX12_holders F x0 h = some y) : ab_Met l mX12_holders [.ref x0] h (.inl (some (.int y)), h) := ab_ofS (io := (fun y : Int32 => ((.inl (some (.int y)), h) : ab_R × ab_H))) (x := y) hl (by decide) rfl (Nat.le_of_ble_eq_true rfl) (wX12_holders hl F x0 h) e
def mX12_robs : ab_M := (yX12_robs, cX12_robs, 4, none, { frames := 1, cells := 0, slots := 0, locals := 23 })
theorem iX12_robs : ab_MI mX12_robs 0 := ⟨kw_eb73ca5016, kw_30b3f7d7c6, by decide +kernel⟩
theorem lk_X12_245_12 : ab_LV RX12 245 12 mX12_hung 0 := ⟨RX12, rfl, iX12_hung, kw_80fde0dae0, kw_8958dc5d9c, kw_5b93acc087⟩
theorem lk_X12_294_12 : ab_LV RX12 294 12 mX12_draw 1 := ⟨RX12, rfl, iX12_draw, kw_233bcfc443, kw_a3f08503e5, kw_48d147b75f⟩
def fX12_robs_11 (F : Nat) (x0 : Nat) : Nat → Int32 → Int32 → ab_H → Option ab_H
  | 0, _, _, _ => none
  | n + 1, x1, x2, h => ab_bd (ab_fr h x0 12 1) fun v3 => ab_bd (ab_ia 0 h v3 (nI 4)) fun v4 => (if x2 < v4 then ab_bd (ab_fr h x0 12 1) fun v6 => ab_bd (ab_ia 0 h v6 ((nI 272) + x2)) fun v7 => (if v7 = (-1 : Int32) then fX12_robs_11 F x0 n x1 (x2 + nI 1) h else (if x1 = 0 then ab_ck (ab_io h x0 12 = true) (ab_bd (fX12_of x0 v7 (nI 0) h) fun v10 => ab_ck (ab_io h x0 12 = true) (ab_bd (fX12_of x0 v7 (nI 0) h) fun v11 => ab_ck (ab_io h x0 12 = true) (ab_bd (fX12_has x0 v7 (nI 0) (v10 &&& (v11 - (nI 1))) h) fun h12 => fX12_robs_11 F x0 n (x1 + (-1 : Int32)) (x2 + nI 1) h12))) else fX12_robs_11 F x0 n (x1 + (-1 : Int32)) (x2 + nI 1) h)) else some h)
def fX12_robs (F : Nat) (x0 : Nat) (h : ab_H) : Option ab_H := ab_ck (ab_io h x0 12 = true) (ab_bd (fX12_hung F x0 h) fun v1 => ab_ck (ab_io h x0 12 = true) (ab_bd (fX12_draw x0 v1 h) fun v2 => fX12_robs_11 F x0 F v2.1 (nI 0) v2.2))
set_option maxRecDepth 100000 in
set_option maxHeartbeats 4000000 in
theorem lX12_robs_11 {l : Launch} (hl : l.stackTraces = false) (F : Nat) (x0 : Nat) : ∀ (n : Nat) (x1 : Int32) (x2 : Int32) (h : ab_H), ab_S l mX12_robs (fun y : ab_H => ((.inl none, y) : ab_R × ab_H)) 0 0 (fX12_robs_11 F x0 n x1 x2 h) 11 [(0, .ref x0), (1, .int x1), (2, .int x2)] [] h := by
  intro n
  induction n with
  | zero =>
    intro x1 x2 h
    exact ab_none
  | succ n ih =>
    intro x1 x2 h
    rw [fX12_robs_11]
    refine ab_iload_n (pc := 11) (n := 2) (i := 2) (j := 2) (by decide +kernel) rfl rfl ?_
    refine ab_aload_n (pc := 12) (n := 0) (i := 0) (j := 0) (by decide +kernel) rfl rfl ?_
    refine ab_getR (pc := 13) fl_X12_7_12 (by decide +kernel) (fun v3 ev3 => ?_)
    refine ab_iconst (pc := 16) (n := 4) (v := nI 4) (by decide +kernel) rfl ?_
    refine ab_iald (pc := 17) (by decide +kernel) (fun v4 ev4 => ?_)
    refine ab_icmp_ge (off := 56) (pc := 18) (tgt := 74) (by decide +kernel) (by decide) (fun g5 => ?_) (fun g5 => ?_)
    · refine ab_aload_n (pc := 21) (n := 0) (i := 0) (j := 0) (by decide +kernel) rfl rfl ?_
      refine ab_getR (pc := 22) fl_X12_7_12 (by decide +kernel) (fun v6 ev6 => ?_)
      refine ab_sipush (pc := 25) (n := 272) (v := nI 272) (by decide +kernel) (by decide) ?_
      refine ab_iload_n (pc := 28) (n := 2) (i := 2) (j := 2) (by decide +kernel) rfl rfl ?_
      refine ab_iadd (pc := 29) (by decide +kernel) ?_
      refine ab_iald (pc := 30) (by decide +kernel) (fun v7 ev7 => ?_)
      refine ab_istore_n (pc := 31) (n := 3) (i := 3) (lv' := [(0, .ref x0), (1, .int x1), (2, .int x2), (3, .int v7)]) (by decide +kernel) rfl (by decide) rfl rfl ?_
      refine ab_iload_n (pc := 32) (n := 3) (i := 3) (j := 3) (by decide +kernel) rfl rfl ?_
      refine ab_iconst (pc := 33) (n := -1) (v := (-1 : Int32)) (by decide +kernel) rfl ?_
      refine ab_icmp_ne (off := 6) (pc := 34) (tgt := 40) (by decide +kernel) (by decide) (fun g8 => ?_) (fun g8 => ?_)
      · refine ab_goto (pc := 37) (off := 31) (tgt := 68) (by decide +kernel) (by decide) ?_
        refine ab_iinc (pc := 68) (i := 2) (n := 1) (j := 2) (d := nI 1) (lv' := [(0, .ref x0), (1, .int x1), (2, .int (x2 + nI 1)), (3, .int v7)]) (by decide +kernel) rfl rfl (by decide) rfl rfl ?_
        refine ab_goto (pc := 71) (off := (-60)) (tgt := 11) (by decide +kernel) (by decide) ?_
        refine ab_few [0, 1, 2] (lv' := [(0, .ref x0), (1, .int x1), (2, .int (x2 + nI 1))]) rfl ?_
        exact ih x1 (x2 + nI 1) h
      · refine ab_iload_n (pc := 40) (n := 1) (i := 1) (j := 1) (by decide +kernel) rfl rfl ?_
        refine ab_if_ne (off := 24) (pc := 41) (tgt := 65) (by decide +kernel) (by decide) (fun g9 => ?_) (fun g9 => ?_)
        · refine ab_aload_n (pc := 44) (n := 0) (i := 0) (j := 0) (by decide +kernel) rfl rfl ?_
          refine ab_iload_n (pc := 45) (n := 3) (i := 3) (j := 3) (by decide +kernel) rfl rfl ?_
          refine ab_iconst (pc := 46) (n := 0) (v := nI 0) (by decide +kernel) rfl ?_
          refine ab_aload_n (pc := 47) (n := 0) (i := 0) (j := 0) (by decide +kernel) rfl rfl ?_
          refine ab_iload_n (pc := 48) (n := 3) (i := 3) (j := 3) (by decide +kernel) rfl rfl ?_
          refine ab_iconst (pc := 49) (n := 0) (v := nI 0) (by decide +kernel) rfl ?_
          refine ab_callVi (As := [.int v7, .int (nI 0)]) (st := [.int (nI 0), .int v7, .ref x0]) (pc := 50) lk_X12_57_12 rfl rfl rfl (by decide) (by decide) (Nat.le_of_ble_eq_true rfl) (by decide +kernel) (fun y9 e9 => okX12_of hl e9) (fun v10 ev10 => ?_)
          refine ab_aload_n (pc := 53) (n := 0) (i := 0) (j := 0) (by decide +kernel) rfl rfl ?_
          refine ab_iload_n (pc := 54) (n := 3) (i := 3) (j := 3) (by decide +kernel) rfl rfl ?_
          refine ab_iconst (pc := 55) (n := 0) (v := nI 0) (by decide +kernel) rfl ?_
          refine ab_callVi (As := [.int v7, .int (nI 0)]) (st := [.int v10, .int (nI 0), .int v7, .ref x0]) (pc := 56) lk_X12_57_12 rfl rfl rfl (by decide) (by decide) (Nat.le_of_ble_eq_true rfl) (by decide +kernel) (fun y9 e9 => okX12_of hl e9) (fun v11 ev11 => ?_)
          refine ab_iconst (pc := 59) (n := 1) (v := nI 1) (by decide +kernel) rfl ?_
          refine ab_isub (pc := 60) (by decide +kernel) ?_
          refine ab_iand (pc := 61) (by decide +kernel) ?_
          refine ab_callVw (As := [.int v7, .int (nI 0), .int (v10 &&& (v11 - (nI 1)))]) (st := []) (pc := 62) lk_X12_100_12 rfl rfl rfl (by decide) (by decide) (Nat.le_of_ble_eq_true rfl) (by decide +kernel) (fun y9 e9 => okX12_has hl e9) (fun h12 eh12 => ?_)
          refine ab_iinc (pc := 65) (i := 1) (n := -1) (j := 1) (d := (-1 : Int32)) (lv' := [(0, .ref x0), (1, .int (x1 + (-1 : Int32))), (2, .int x2), (3, .int v7)]) (by decide +kernel) rfl rfl (by decide) rfl rfl ?_
          refine ab_iinc (pc := 68) (i := 2) (n := 1) (j := 2) (d := nI 1) (lv' := [(0, .ref x0), (1, .int (x1 + (-1 : Int32))), (2, .int (x2 + nI 1)), (3, .int v7)]) (by decide +kernel) rfl rfl (by decide) rfl rfl ?_
          refine ab_goto (pc := 71) (off := (-60)) (tgt := 11) (by decide +kernel) (by decide) ?_
          refine ab_few [0, 1, 2] (lv' := [(0, .ref x0), (1, .int (x1 + (-1 : Int32))), (2, .int (x2 + nI 1))]) rfl ?_
          exact ih (x1 + (-1 : Int32)) (x2 + nI 1) h12
        · refine ab_iinc (pc := 65) (i := 1) (n := -1) (j := 1) (d := (-1 : Int32)) (lv' := [(0, .ref x0), (1, .int (x1 + (-1 : Int32))), (2, .int x2), (3, .int v7)]) (by decide +kernel) rfl rfl (by decide) rfl rfl ?_
          refine ab_iinc (pc := 68) (i := 2) (n := 1) (j := 2) (d := nI 1) (lv' := [(0, .ref x0), (1, .int (x1 + (-1 : Int32))), (2, .int (x2 + nI 1)), (3, .int v7)]) (by decide +kernel) rfl rfl (by decide) rfl rfl ?_
          refine ab_goto (pc := 71) (off := (-60)) (tgt := 11) (by decide +kernel) (by decide) ?_
          refine ab_few [0, 1, 2] (lv' := [(0, .ref x0), (1, .int (x1 + (-1 : Int32))), (2, .int (x2 + nI 1))]) rfl ?_
          exact ih (x1 + (-1 : Int32)) (x2 + nI 1) h
    · exact ab_vret (pc := 74) (by decide +kernel) rfl rfl (Nat.zero_le _) (Nat.zero_le _)
set_option maxRecDepth 100000 in
set_option maxHeartbeats 4000000 in
theorem wX12_robs {l : Launch} (hl : l.stackTraces = false) (F : Nat) (x0 : Nat) (h : ab_H) : ab_S l mX12_robs (fun y : ab_H => ((.inl none, y) : ab_R × ab_H)) 0 0 (fX12_robs F x0 h) 0 [(0, .ref x0)] [] h := by
  unfold fX12_robs
  refine ab_aload_n (pc := 0) (n := 0) (i := 0) (j := 0) (by decide +kernel) rfl rfl ?_
  refine ab_aload_n (pc := 1) (n := 0) (i := 0) (j := 0) (by decide +kernel) rfl rfl ?_
  refine ab_callVi (As := []) (st := [.ref x0]) (pc := 2) lk_X12_245_12 rfl rfl rfl (by decide) (by decide) (Nat.le_of_ble_eq_true rfl) (by decide +kernel) (fun y9 e9 => okX12_hung hl (F := F) e9) (fun v1 ev1 => ?_)
  refine ab_callVj (As := [.int v1]) (st := []) (pc := 5) lk_X12_294_12 rfl rfl rfl (by decide) (by decide) (Nat.le_of_ble_eq_true rfl) (by decide +kernel) (fun y9 e9 => okX12_draw hl e9) (fun v2 ev2 => ?_)
  refine ab_istore_n (pc := 8) (n := 1) (i := 1) (lv' := [(0, .ref x0), (1, .int v2.1)]) (by decide +kernel) rfl (by decide) rfl rfl ?_
  refine ab_iconst (pc := 9) (n := 0) (v := nI 0) (by decide +kernel) rfl ?_
  refine ab_istore_n (pc := 10) (n := 2) (i := 2) (lv' := [(0, .ref x0), (1, .int v2.1), (2, .int (nI 0))]) (by decide +kernel) rfl (by decide) rfl rfl ?_
  refine lX12_robs_11 hl F x0 F v2.1 (nI 0) v2.2
set_option maxRecDepth 100000 in
set_option maxHeartbeats 4000000 in
theorem okX12_robs {l : Launch} (hl : l.stackTraces = false) {F : Nat} {x0 : Nat} {h : ab_H} {y : ab_H} (e : fX12_robs F x0 h = some y) : ab_Met l mX12_robs [.ref x0] h (.inl none, y) := ab_ofS (io := (fun y : ab_H => ((.inl none, y) : ab_R × ab_H))) (x := y) hl (by decide) rfl (Nat.le_of_ble_eq_true rfl) (wX12_robs hl F x0 h) e
def mX12_wrongs : ab_M := (yX12_wrongs, cX12_wrongs, 3, (some .int), { frames := 1, cells := 0, slots := 0, locals := 22 })
theorem iX12_wrongs : ab_MI mX12_wrongs 0 := ⟨kw_13da73d7ef, kw_30b3f7d7c6, by decide +kernel⟩
def fX12_wrongs_4 (x0 : Nat) (h : ab_H) : Nat → Int32 → Int32 → Option Int32
  | 0, _, _ => none
  | n + 1, x1, x2 => ab_bd (ab_fr h x0 12 1) fun v1 => ab_bd (ab_ia 0 h v1 (nI 3)) fun v2 => (if x2 < v2 then ab_ck (ab_io h x0 12 = true) (ab_bd (fX12_of x0 x2 (nI 2) h) fun v4 => (if v4 = (-1 : Int32) then fX12_wrongs_4 x0 h n (x1 ||| (nI 0)) (x2 + nI 1) else ab_ck (ab_io h x0 12 = true) (ab_bd (fX12_of x0 x2 (nI 2) h) fun v6 => (if v6 = x2 then fX12_wrongs_4 x0 h n (x1 ||| (nI 0)) (x2 + nI 1) else fX12_wrongs_4 x0 h n (x1 ||| ((nI 1) <<< (x2 &&& 31))) (x2 + nI 1))))) else some x1)
def fX12_wrongs (F : Nat) (x0 : Nat) (h : ab_H) : Option Int32 := fX12_wrongs_4 x0 h F (nI 0) (nI 0)
set_option maxRecDepth 100000 in
set_option maxHeartbeats 4000000 in
theorem lX12_wrongs_4 {l : Launch} (hl : l.stackTraces = false) (x0 : Nat) (h : ab_H) : ∀ (n : Nat) (x1 : Int32) (x2 : Int32), ab_S l mX12_wrongs (fun y : Int32 => ((.inl (some (.int y)), h) : ab_R × ab_H)) 0 0 (fX12_wrongs_4 x0 h n x1 x2) 4 [(0, .ref x0), (1, .int x1), (2, .int x2)] [] h := by
  intro n
  induction n with
  | zero =>
    intro x1 x2
    exact ab_none
  | succ n ih =>
    intro x1 x2
    rw [fX12_wrongs_4]
    refine ab_iload_n (pc := 4) (n := 2) (i := 2) (j := 2) (by decide +kernel) rfl rfl ?_
    refine ab_aload_n (pc := 5) (n := 0) (i := 0) (j := 0) (by decide +kernel) rfl rfl ?_
    refine ab_getR (pc := 6) fl_X12_7_12 (by decide +kernel) (fun v1 ev1 => ?_)
    refine ab_iconst (pc := 9) (n := 3) (v := nI 3) (by decide +kernel) rfl ?_
    refine ab_iald (pc := 10) (by decide +kernel) (fun v2 ev2 => ?_)
    refine ab_icmp_ge (off := 39) (pc := 11) (tgt := 50) (by decide +kernel) (by decide) (fun g3 => ?_) (fun g3 => ?_)
    · refine ab_iload_n (pc := 14) (n := 1) (i := 1) (j := 1) (by decide +kernel) rfl rfl ?_
      refine ab_aload_n (pc := 15) (n := 0) (i := 0) (j := 0) (by decide +kernel) rfl rfl ?_
      refine ab_iload_n (pc := 16) (n := 2) (i := 2) (j := 2) (by decide +kernel) rfl rfl ?_
      refine ab_iconst (pc := 17) (n := 2) (v := nI 2) (by decide +kernel) rfl ?_
      refine ab_callVi (As := [.int x2, .int (nI 2)]) (st := [.int x1]) (pc := 18) lk_X12_57_12 rfl rfl rfl (by decide) (by decide) (Nat.le_of_ble_eq_true rfl) (by decide +kernel) (fun y9 e9 => okX12_of hl e9) (fun v4 ev4 => ?_)
      refine ab_iconst (pc := 21) (n := -1) (v := (-1 : Int32)) (by decide +kernel) rfl ?_
      refine ab_icmp_eq (off := 19) (pc := 22) (tgt := 41) (by decide +kernel) (by decide) (fun g5 => ?_) (fun g5 => ?_)
      · refine ab_iconst (pc := 41) (n := 0) (v := nI 0) (by decide +kernel) rfl ?_
        refine ab_ior (pc := 42) (by decide +kernel) ?_
        refine ab_istore_n (pc := 43) (n := 1) (i := 1) (lv' := [(0, .ref x0), (1, .int (x1 ||| (nI 0))), (2, .int x2)]) (by decide +kernel) rfl (by decide) rfl rfl ?_
        refine ab_iinc (pc := 44) (i := 2) (n := 1) (j := 2) (d := nI 1) (lv' := [(0, .ref x0), (1, .int (x1 ||| (nI 0))), (2, .int (x2 + nI 1))]) (by decide +kernel) rfl rfl (by decide) rfl rfl ?_
        refine ab_goto (pc := 47) (off := (-43)) (tgt := 4) (by decide +kernel) (by decide) ?_
        exact ih (x1 ||| (nI 0)) (x2 + nI 1)
      · refine ab_aload_n (pc := 25) (n := 0) (i := 0) (j := 0) (by decide +kernel) rfl rfl ?_
        refine ab_iload_n (pc := 26) (n := 2) (i := 2) (j := 2) (by decide +kernel) rfl rfl ?_
        refine ab_iconst (pc := 27) (n := 2) (v := nI 2) (by decide +kernel) rfl ?_
        refine ab_callVi (As := [.int x2, .int (nI 2)]) (st := [.int x1]) (pc := 28) lk_X12_57_12 rfl rfl rfl (by decide) (by decide) (Nat.le_of_ble_eq_true rfl) (by decide +kernel) (fun y9 e9 => okX12_of hl e9) (fun v6 ev6 => ?_)
        refine ab_iload_n (pc := 31) (n := 2) (i := 2) (j := 2) (by decide +kernel) rfl rfl ?_
        refine ab_icmp_eq (off := 9) (pc := 32) (tgt := 41) (by decide +kernel) (by decide) (fun g7 => ?_) (fun g7 => ?_)
        · refine ab_iconst (pc := 41) (n := 0) (v := nI 0) (by decide +kernel) rfl ?_
          refine ab_ior (pc := 42) (by decide +kernel) ?_
          refine ab_istore_n (pc := 43) (n := 1) (i := 1) (lv' := [(0, .ref x0), (1, .int (x1 ||| (nI 0))), (2, .int x2)]) (by decide +kernel) rfl (by decide) rfl rfl ?_
          refine ab_iinc (pc := 44) (i := 2) (n := 1) (j := 2) (d := nI 1) (lv' := [(0, .ref x0), (1, .int (x1 ||| (nI 0))), (2, .int (x2 + nI 1))]) (by decide +kernel) rfl rfl (by decide) rfl rfl ?_
          refine ab_goto (pc := 47) (off := (-43)) (tgt := 4) (by decide +kernel) (by decide) ?_
          exact ih (x1 ||| (nI 0)) (x2 + nI 1)
        · refine ab_iconst (pc := 35) (n := 1) (v := nI 1) (by decide +kernel) rfl ?_
          refine ab_iload_n (pc := 36) (n := 2) (i := 2) (j := 2) (by decide +kernel) rfl rfl ?_
          refine ab_ishl (pc := 37) (by decide +kernel) ?_
          refine ab_goto (pc := 38) (off := 4) (tgt := 42) (by decide +kernel) (by decide) ?_
          refine ab_ior (pc := 42) (by decide +kernel) ?_
          refine ab_istore_n (pc := 43) (n := 1) (i := 1) (lv' := [(0, .ref x0), (1, .int (x1 ||| ((nI 1) <<< (x2 &&& 31)))), (2, .int x2)]) (by decide +kernel) rfl (by decide) rfl rfl ?_
          refine ab_iinc (pc := 44) (i := 2) (n := 1) (j := 2) (d := nI 1) (lv' := [(0, .ref x0), (1, .int (x1 ||| ((nI 1) <<< (x2 &&& 31)))), (2, .int (x2 + nI 1))]) (by decide +kernel) rfl rfl (by decide) rfl rfl ?_
          refine ab_goto (pc := 47) (off := (-43)) (tgt := 4) (by decide +kernel) (by decide) ?_
          exact ih (x1 ||| ((nI 1) <<< (x2 &&& 31))) (x2 + nI 1)
    · refine ab_iload_n (pc := 50) (n := 1) (i := 1) (j := 1) (by decide +kernel) rfl rfl ?_
      exact ab_iret (pc := 51) (by decide +kernel) rfl rfl (Nat.zero_le _) (Nat.zero_le _)
set_option maxRecDepth 100000 in
set_option maxHeartbeats 4000000 in
theorem wX12_wrongs {l : Launch} (hl : l.stackTraces = false) (F : Nat) (x0 : Nat) (h : ab_H) : ab_S l mX12_wrongs (fun y : Int32 => ((.inl (some (.int y)), h) : ab_R × ab_H)) 0 0 (fX12_wrongs F x0 h) 0 [(0, .ref x0)] [] h := by
  unfold fX12_wrongs
  refine ab_iconst (pc := 0) (n := 0) (v := nI 0) (by decide +kernel) rfl ?_
  refine ab_istore_n (pc := 1) (n := 1) (i := 1) (lv' := [(0, .ref x0), (1, .int (nI 0))]) (by decide +kernel) rfl (by decide) rfl rfl ?_
  refine ab_iconst (pc := 2) (n := 0) (v := nI 0) (by decide +kernel) rfl ?_
  refine ab_istore_n (pc := 3) (n := 2) (i := 2) (lv' := [(0, .ref x0), (1, .int (nI 0)), (2, .int (nI 0))]) (by decide +kernel) rfl (by decide) rfl rfl ?_
  refine lX12_wrongs_4 hl x0 h F (nI 0) (nI 0)
set_option maxRecDepth 100000 in
set_option maxHeartbeats 4000000 in
theorem okX12_wrongs {l : Launch} (hl : l.stackTraces = false) {F : Nat} {x0 : Nat} {h : ab_H} {y : Int32} (e : fX12_wrongs F x0 h = some y) : ab_Met l mX12_wrongs [.ref x0] h (.inl (some (.int y)), h) := ab_ofS (io := (fun y : Int32 => ((.inl (some (.int y)), h) : ab_R × ab_H))) (x := y) hl (by decide) rfl (Nat.le_of_ble_eq_true rfl) (wX12_wrongs hl F x0 h) e
def mX12_wrong_ : ab_M := (yX12_wrong_, cX12_wrong_, 1, (some .int), { frames := 2, cells := 0, slots := 0, locals := 44 })
theorem iX12_wrong_ : ab_MI mX12_wrong_ 0 := ⟨kw_a4e0b94c96, kw_30b3f7d7c6, by decide +kernel⟩
theorem lk_X12_317_12 : ab_LV RX12 317 12 mX12_wrongs 0 := ⟨RX12, rfl, iX12_wrongs, kw_0b8b24f371, kw_15b5bfc8ed, kw_e3f29b9329⟩
def fX12_wrong_ (F : Nat) (x0 : Nat) (h : ab_H) : Option (Int32 × ab_H) := ab_bd (ab_fw h x0 12 0 (.int (nI 0))) fun h1 => ab_ck (ab_io h1 x0 12 = true) (ab_bd (fX12_wrongs F x0 h1) fun v2 => some (v2, h1))
set_option maxRecDepth 100000 in
set_option maxHeartbeats 4000000 in
theorem wX12_wrong_ {l : Launch} (hl : l.stackTraces = false) (F : Nat) (x0 : Nat) (h : ab_H) : ab_S l mX12_wrong_ (fun y : (Int32 × ab_H) => ((.inl (some (.int y.1)), y.2) : ab_R × ab_H)) 0 0 (fX12_wrong_ F x0 h) 0 [(0, .ref x0)] [] h := by
  unfold fX12_wrong_
  refine ab_aload_n (pc := 0) (n := 0) (i := 0) (j := 0) (by decide +kernel) rfl rfl ?_
  refine ab_iconst (pc := 1) (n := 0) (v := nI 0) (by decide +kernel) rfl ?_
  refine ab_put (pc := 2) fl_X12_50_12 rfl (fun _ => rfl) (fun _ => rfl) (by decide +kernel) (fun h1 eh1 => ?_)
  refine ab_aload_n (pc := 5) (n := 0) (i := 0) (j := 0) (by decide +kernel) rfl rfl ?_
  refine ab_callVi (As := []) (st := []) (pc := 6) lk_X12_317_12 rfl rfl rfl (by decide) (by decide) (Nat.le_of_ble_eq_true rfl) (by decide +kernel) (fun y9 e9 => okX12_wrongs hl (F := F) e9) (fun v2 ev2 => ?_)
  exact ab_iret (pc := 9) (by decide +kernel) rfl rfl (Nat.zero_le _) (Nat.zero_le _)
set_option maxRecDepth 100000 in
set_option maxHeartbeats 4000000 in
theorem okX12_wrong_ {l : Launch} (hl : l.stackTraces = false) {F : Nat} {x0 : Nat} {h : ab_H} {y : (Int32 × ab_H)} (e : fX12_wrong_ F x0 h = some y) : ab_Met l mX12_wrong_ [.ref x0] h (.inl (some (.int y.1)), y.2) := ab_ofS (io := (fun y : (Int32 × ab_H) => ((.inl (some (.int y.1)), y.2) : ab_R × ab_H))) (x := y) hl (by decide) rfl (Nat.le_of_ble_eq_true rfl) (wX12_wrong_ hl F x0 h) e
def mX12_isLost : ab_M := (yX12_isLost, cX12_isLost, 2, (some .boolean), { frames := 2, cells := 0, slots := 0, locals := 44 })
theorem iX12_isLost : ab_MI mX12_isLost 1 := ⟨kw_0647726703, kw_30b3f7d7c6, by decide +kernel⟩
def fX12_isLost (F : Nat) (x0 : Nat) (x1 : Int32) (h : ab_H) : Option Int32 := ab_ck (ab_io h x0 12 = true) (ab_bd (fX12_wearer F x0 x1 h) fun v1 => (if v1 = (-1 : Int32) then ab_ck (ab_io h x0 12 = true) (ab_bd (fX12_hookOf F x0 x1 h) fun v3 => (if v3 = (-1 : Int32) then some (nI 1) else some (nI 0))) else some (nI 0)))
set_option maxRecDepth 100000 in
set_option maxHeartbeats 4000000 in
theorem wX12_isLost {l : Launch} (hl : l.stackTraces = false) (F : Nat) (x0 : Nat) (x1 : Int32) (h : ab_H) : ab_S l mX12_isLost (fun y : Int32 => ((.inl (some (.int y)), h) : ab_R × ab_H)) 0 0 (fX12_isLost F x0 x1 h) 0 [(0, .ref x0), (1, .int x1)] [] h := by
  unfold fX12_isLost
  refine ab_aload_n (pc := 0) (n := 0) (i := 0) (j := 0) (by decide +kernel) rfl rfl ?_
  refine ab_iload_n (pc := 1) (n := 1) (i := 1) (j := 1) (by decide +kernel) rfl rfl ?_
  refine ab_callVi (As := [.int x1]) (st := []) (pc := 2) lk_X12_247_12 rfl rfl rfl (by decide) (by decide) (Nat.le_of_ble_eq_true rfl) (by decide +kernel) (fun y9 e9 => okX12_wearer hl (F := F) e9) (fun v1 ev1 => ?_)
  refine ab_iconst (pc := 5) (n := -1) (v := (-1 : Int32)) (by decide +kernel) rfl ?_
  refine ab_icmp_ne (off := 16) (pc := 6) (tgt := 22) (by decide +kernel) (by decide) (fun g2 => ?_) (fun g2 => ?_)
  · refine ab_aload_n (pc := 9) (n := 0) (i := 0) (j := 0) (by decide +kernel) rfl rfl ?_
    refine ab_iload_n (pc := 10) (n := 1) (i := 1) (j := 1) (by decide +kernel) rfl rfl ?_
    refine ab_callVi (As := [.int x1]) (st := []) (pc := 11) lk_X12_256_12 rfl rfl rfl (by decide) (by decide) (Nat.le_of_ble_eq_true rfl) (by decide +kernel) (fun y9 e9 => okX12_hookOf hl (F := F) e9) (fun v3 ev3 => ?_)
    refine ab_iconst (pc := 14) (n := -1) (v := (-1 : Int32)) (by decide +kernel) rfl ?_
    refine ab_icmp_ne (off := 7) (pc := 15) (tgt := 22) (by decide +kernel) (by decide) (fun g4 => ?_) (fun g4 => ?_)
    · refine ab_iconst (pc := 18) (n := 1) (v := nI 1) (by decide +kernel) rfl ?_
      refine ab_goto (pc := 19) (off := 4) (tgt := 23) (by decide +kernel) (by decide) ?_
      exact ab_zret (pc := 23) (by decide +kernel) rfl ab_bl1 rfl (Nat.zero_le _) (Nat.zero_le _)
    · refine ab_iconst (pc := 22) (n := 0) (v := nI 0) (by decide +kernel) rfl ?_
      exact ab_zret (pc := 23) (by decide +kernel) rfl ab_bl0 rfl (Nat.zero_le _) (Nat.zero_le _)
  · refine ab_iconst (pc := 22) (n := 0) (v := nI 0) (by decide +kernel) rfl ?_
    exact ab_zret (pc := 23) (by decide +kernel) rfl ab_bl0 rfl (Nat.zero_le _) (Nat.zero_le _)
set_option maxRecDepth 100000 in
set_option maxHeartbeats 4000000 in
theorem okX12_isLost {l : Launch} (hl : l.stackTraces = false) {F : Nat} {x0 : Nat} {x1 : Int32} {h : ab_H} {y : Int32} (e : fX12_isLost F x0 x1 h = some y) : ab_Met l mX12_isLost [.ref x0, .int x1] h (.inl (some (.int y)), h) := ab_ofS (io := (fun y : Int32 => ((.inl (some (.int y)), h) : ab_R × ab_H))) (x := y) hl (by decide) rfl (Nat.le_of_ble_eq_true rfl) (wX12_isLost hl F x0 x1 h) e
def mX12_lost : ab_M := (yX12_lost, cX12_lost, 3, (some .int), { frames := 3, cells := 0, slots := 0, locals := 65 })
theorem iX12_lost : ab_MI mX12_lost 0 := ⟨kw_ed8e262061, kw_30b3f7d7c6, by decide +kernel⟩
theorem lk_X12_320_12 : ab_LV RX12 320 12 mX12_isLost 1 := ⟨RX12, rfl, iX12_isLost, kw_b3176e9335, kw_4e3501f9c4, kw_d20e8db5d8⟩
def fX12_lost_9 (F : Nat) (x0 : Nat) (h : ab_H) : Nat → Int32 → Int32 → Option (Int32 × ab_H)
  | 0, _, _ => none
  | n + 1, x1, x2 => ab_bd (ab_fr h x0 12 1) fun v2 => ab_bd (ab_ia 0 h v2 (nI 3)) fun v3 => (if x2 < v3 then ab_ck (ab_io h x0 12 = true) (ab_bd (fX12_isLost F x0 x2 h) fun v5 => (if v5 = 0 then fX12_lost_9 F x0 h n (x1 ||| (nI 0)) (x2 + nI 1) else fX12_lost_9 F x0 h n (x1 ||| ((nI 1) <<< (x2 &&& 31))) (x2 + nI 1))) else some (x1, h))
def fX12_lost (F : Nat) (x0 : Nat) (h : ab_H) : Option (Int32 × ab_H) := ab_bd (ab_fw h x0 12 0 (.int (nI 0))) fun h1 => fX12_lost_9 F x0 h1 F (nI 0) (nI 0)
set_option maxRecDepth 100000 in
set_option maxHeartbeats 4000000 in
theorem lX12_lost_9 {l : Launch} (hl : l.stackTraces = false) (F : Nat) (x0 : Nat) (h : ab_H) : ∀ (n : Nat) (x1 : Int32) (x2 : Int32), ab_S l mX12_lost (fun y : (Int32 × ab_H) => ((.inl (some (.int y.1)), y.2) : ab_R × ab_H)) 0 0 (fX12_lost_9 F x0 h n x1 x2) 9 [(0, .ref x0), (1, .int x1), (2, .int x2)] [] h := by
  intro n
  induction n with
  | zero =>
    intro x1 x2
    exact ab_none
  | succ n ih =>
    intro x1 x2
    rw [fX12_lost_9]
    refine ab_iload_n (pc := 9) (n := 2) (i := 2) (j := 2) (by decide +kernel) rfl rfl ?_
    refine ab_aload_n (pc := 10) (n := 0) (i := 0) (j := 0) (by decide +kernel) rfl rfl ?_
    refine ab_getR (pc := 11) fl_X12_7_12 (by decide +kernel) (fun v2 ev2 => ?_)
    refine ab_iconst (pc := 14) (n := 3) (v := nI 3) (by decide +kernel) rfl ?_
    refine ab_iald (pc := 15) (by decide +kernel) (fun v3 ev3 => ?_)
    refine ab_icmp_ge (off := 27) (pc := 16) (tgt := 43) (by decide +kernel) (by decide) (fun g4 => ?_) (fun g4 => ?_)
    · refine ab_iload_n (pc := 19) (n := 1) (i := 1) (j := 1) (by decide +kernel) rfl rfl ?_
      refine ab_aload_n (pc := 20) (n := 0) (i := 0) (j := 0) (by decide +kernel) rfl rfl ?_
      refine ab_iload_n (pc := 21) (n := 2) (i := 2) (j := 2) (by decide +kernel) rfl rfl ?_
      refine ab_callVi (As := [.int x2]) (st := [.int x1]) (pc := 22) lk_X12_320_12 rfl rfl rfl (by decide) (by decide) (Nat.le_of_ble_eq_true rfl) (by decide +kernel) (fun y9 e9 => okX12_isLost hl (F := F) e9) (fun v5 ev5 => ?_)
      refine ab_if_eq (off := 9) (pc := 25) (tgt := 34) (by decide +kernel) (by decide) (fun g6 => ?_) (fun g6 => ?_)
      · refine ab_iconst (pc := 34) (n := 0) (v := nI 0) (by decide +kernel) rfl ?_
        refine ab_ior (pc := 35) (by decide +kernel) ?_
        refine ab_istore_n (pc := 36) (n := 1) (i := 1) (lv' := [(0, .ref x0), (1, .int (x1 ||| (nI 0))), (2, .int x2)]) (by decide +kernel) rfl (by decide) rfl rfl ?_
        refine ab_iinc (pc := 37) (i := 2) (n := 1) (j := 2) (d := nI 1) (lv' := [(0, .ref x0), (1, .int (x1 ||| (nI 0))), (2, .int (x2 + nI 1))]) (by decide +kernel) rfl rfl (by decide) rfl rfl ?_
        refine ab_goto (pc := 40) (off := (-31)) (tgt := 9) (by decide +kernel) (by decide) ?_
        exact ih (x1 ||| (nI 0)) (x2 + nI 1)
      · refine ab_iconst (pc := 28) (n := 1) (v := nI 1) (by decide +kernel) rfl ?_
        refine ab_iload_n (pc := 29) (n := 2) (i := 2) (j := 2) (by decide +kernel) rfl rfl ?_
        refine ab_ishl (pc := 30) (by decide +kernel) ?_
        refine ab_goto (pc := 31) (off := 4) (tgt := 35) (by decide +kernel) (by decide) ?_
        refine ab_ior (pc := 35) (by decide +kernel) ?_
        refine ab_istore_n (pc := 36) (n := 1) (i := 1) (lv' := [(0, .ref x0), (1, .int (x1 ||| ((nI 1) <<< (x2 &&& 31)))), (2, .int x2)]) (by decide +kernel) rfl (by decide) rfl rfl ?_
        refine ab_iinc (pc := 37) (i := 2) (n := 1) (j := 2) (d := nI 1) (lv' := [(0, .ref x0), (1, .int (x1 ||| ((nI 1) <<< (x2 &&& 31)))), (2, .int (x2 + nI 1))]) (by decide +kernel) rfl rfl (by decide) rfl rfl ?_
        refine ab_goto (pc := 40) (off := (-31)) (tgt := 9) (by decide +kernel) (by decide) ?_
        exact ih (x1 ||| ((nI 1) <<< (x2 &&& 31))) (x2 + nI 1)
    · refine ab_iload_n (pc := 43) (n := 1) (i := 1) (j := 1) (by decide +kernel) rfl rfl ?_
      exact ab_iret (pc := 44) (by decide +kernel) rfl rfl (Nat.zero_le _) (Nat.zero_le _)
set_option maxRecDepth 100000 in
set_option maxHeartbeats 4000000 in
theorem wX12_lost {l : Launch} (hl : l.stackTraces = false) (F : Nat) (x0 : Nat) (h : ab_H) : ab_S l mX12_lost (fun y : (Int32 × ab_H) => ((.inl (some (.int y.1)), y.2) : ab_R × ab_H)) 0 0 (fX12_lost F x0 h) 0 [(0, .ref x0)] [] h := by
  unfold fX12_lost
  refine ab_aload_n (pc := 0) (n := 0) (i := 0) (j := 0) (by decide +kernel) rfl rfl ?_
  refine ab_iconst (pc := 1) (n := 0) (v := nI 0) (by decide +kernel) rfl ?_
  refine ab_put (pc := 2) fl_X12_50_12 rfl (fun _ => rfl) (fun _ => rfl) (by decide +kernel) (fun h1 eh1 => ?_)
  refine ab_iconst (pc := 5) (n := 0) (v := nI 0) (by decide +kernel) rfl ?_
  refine ab_istore_n (pc := 6) (n := 1) (i := 1) (lv' := [(0, .ref x0), (1, .int (nI 0))]) (by decide +kernel) rfl (by decide) rfl rfl ?_
  refine ab_iconst (pc := 7) (n := 0) (v := nI 0) (by decide +kernel) rfl ?_
  refine ab_istore_n (pc := 8) (n := 2) (i := 2) (lv' := [(0, .ref x0), (1, .int (nI 0)), (2, .int (nI 0))]) (by decide +kernel) rfl (by decide) rfl rfl ?_
  refine lX12_lost_9 hl F x0 h1 F (nI 0) (nI 0)
set_option maxRecDepth 100000 in
set_option maxHeartbeats 4000000 in
theorem okX12_lost {l : Launch} (hl : l.stackTraces = false) {F : Nat} {x0 : Nat} {h : ab_H} {y : (Int32 × ab_H)} (e : fX12_lost F x0 h = some y) : ab_Met l mX12_lost [.ref x0] h (.inl (some (.int y.1)), y.2) := ab_ofS (io := (fun y : (Int32 × ab_H) => ((.inl (some (.int y.1)), y.2) : ab_R × ab_H))) (x := y) hl (by decide) rfl (Nat.le_of_ble_eq_true rfl) (wX12_lost hl F x0 h) e
def mX12_unclaimed : ab_M := (yX12_unclaimed, cX12_unclaimed, 3, (some .int), { frames := 2, cells := 0, slots := 0, locals := 44 })
theorem iX12_unclaimed : ab_MI mX12_unclaimed 0 := ⟨kw_549fb038e1, kw_30b3f7d7c6, by decide +kernel⟩
def fX12_unclaimed_9 (F : Nat) (x0 : Nat) (h : ab_H) : Nat → Int32 → Int32 → Option (Int32 × ab_H)
  | 0, _, _ => none
  | n + 1, x1, x2 => ab_bd (ab_fr h x0 12 1) fun v2 => ab_bd (ab_ia 0 h v2 (nI 4)) fun v3 => (if x2 < v3 then ab_bd (ab_fr h x0 12 1) fun v5 => ab_bd (ab_ia 0 h v5 ((nI 272) + x2)) fun v6 => (if v6 = (-1 : Int32) then fX12_unclaimed_9 F x0 h n (x1 ||| (nI 0)) (x2 + nI 1) else ab_ck (ab_io h x0 12 = true) (ab_bd (fX12_hasTicketOf F x0 x2 h) fun v8 => (if v8 = 0 then ab_bd (ab_fr h x0 12 1) fun v10 => ab_bd (ab_ia 0 h v10 ((nI 272) + x2)) fun v11 => fX12_unclaimed_9 F x0 h n (x1 ||| ((nI 1) <<< (v11 &&& 31))) (x2 + nI 1) else fX12_unclaimed_9 F x0 h n (x1 ||| (nI 0)) (x2 + nI 1)))) else some (x1, h))
def fX12_unclaimed (F : Nat) (x0 : Nat) (h : ab_H) : Option (Int32 × ab_H) := ab_bd (ab_fw h x0 12 0 (.int (nI 0))) fun h1 => fX12_unclaimed_9 F x0 h1 F (nI 0) (nI 0)
set_option maxRecDepth 100000 in
set_option maxHeartbeats 4000000 in
theorem lX12_unclaimed_9 {l : Launch} (hl : l.stackTraces = false) (F : Nat) (x0 : Nat) (h : ab_H) : ∀ (n : Nat) (x1 : Int32) (x2 : Int32), ab_S l mX12_unclaimed (fun y : (Int32 × ab_H) => ((.inl (some (.int y.1)), y.2) : ab_R × ab_H)) 0 0 (fX12_unclaimed_9 F x0 h n x1 x2) 9 [(0, .ref x0), (1, .int x1), (2, .int x2)] [] h := by
  intro n
  induction n with
  | zero =>
    intro x1 x2
    exact ab_none
  | succ n ih =>
    intro x1 x2
    rw [fX12_unclaimed_9]
    refine ab_iload_n (pc := 9) (n := 2) (i := 2) (j := 2) (by decide +kernel) rfl rfl ?_
    refine ab_aload_n (pc := 10) (n := 0) (i := 0) (j := 0) (by decide +kernel) rfl rfl ?_
    refine ab_getR (pc := 11) fl_X12_7_12 (by decide +kernel) (fun v2 ev2 => ?_)
    refine ab_iconst (pc := 14) (n := 4) (v := nI 4) (by decide +kernel) rfl ?_
    refine ab_iald (pc := 15) (by decide +kernel) (fun v3 ev3 => ?_)
    refine ab_icmp_ge (off := 50) (pc := 16) (tgt := 66) (by decide +kernel) (by decide) (fun g4 => ?_) (fun g4 => ?_)
    · refine ab_iload_n (pc := 19) (n := 1) (i := 1) (j := 1) (by decide +kernel) rfl rfl ?_
      refine ab_aload_n (pc := 20) (n := 0) (i := 0) (j := 0) (by decide +kernel) rfl rfl ?_
      refine ab_getR (pc := 21) fl_X12_7_12 (by decide +kernel) (fun v5 ev5 => ?_)
      refine ab_sipush (pc := 24) (n := 272) (v := nI 272) (by decide +kernel) (by decide) ?_
      refine ab_iload_n (pc := 27) (n := 2) (i := 2) (j := 2) (by decide +kernel) rfl rfl ?_
      refine ab_iadd (pc := 28) (by decide +kernel) ?_
      refine ab_iald (pc := 29) (by decide +kernel) (fun v6 ev6 => ?_)
      refine ab_iconst (pc := 30) (n := -1) (v := (-1 : Int32)) (by decide +kernel) rfl ?_
      refine ab_icmp_eq (off := 26) (pc := 31) (tgt := 57) (by decide +kernel) (by decide) (fun g7 => ?_) (fun g7 => ?_)
      · refine ab_iconst (pc := 57) (n := 0) (v := nI 0) (by decide +kernel) rfl ?_
        refine ab_ior (pc := 58) (by decide +kernel) ?_
        refine ab_istore_n (pc := 59) (n := 1) (i := 1) (lv' := [(0, .ref x0), (1, .int (x1 ||| (nI 0))), (2, .int x2)]) (by decide +kernel) rfl (by decide) rfl rfl ?_
        refine ab_iinc (pc := 60) (i := 2) (n := 1) (j := 2) (d := nI 1) (lv' := [(0, .ref x0), (1, .int (x1 ||| (nI 0))), (2, .int (x2 + nI 1))]) (by decide +kernel) rfl rfl (by decide) rfl rfl ?_
        refine ab_goto (pc := 63) (off := (-54)) (tgt := 9) (by decide +kernel) (by decide) ?_
        exact ih (x1 ||| (nI 0)) (x2 + nI 1)
      · refine ab_aload_n (pc := 34) (n := 0) (i := 0) (j := 0) (by decide +kernel) rfl rfl ?_
        refine ab_iload_n (pc := 35) (n := 2) (i := 2) (j := 2) (by decide +kernel) rfl rfl ?_
        refine ab_callVi (As := [.int x2]) (st := [.int x1]) (pc := 36) lk_X12_118_12 rfl rfl rfl (by decide) (by decide) (Nat.le_of_ble_eq_true rfl) (by decide +kernel) (fun y9 e9 => okX12_hasTicketOf hl (F := F) e9) (fun v8 ev8 => ?_)
        refine ab_if_ne (off := 18) (pc := 39) (tgt := 57) (by decide +kernel) (by decide) (fun g9 => ?_) (fun g9 => ?_)
        · refine ab_iconst (pc := 42) (n := 1) (v := nI 1) (by decide +kernel) rfl ?_
          refine ab_aload_n (pc := 43) (n := 0) (i := 0) (j := 0) (by decide +kernel) rfl rfl ?_
          refine ab_getR (pc := 44) fl_X12_7_12 (by decide +kernel) (fun v10 ev10 => ?_)
          refine ab_sipush (pc := 47) (n := 272) (v := nI 272) (by decide +kernel) (by decide) ?_
          refine ab_iload_n (pc := 50) (n := 2) (i := 2) (j := 2) (by decide +kernel) rfl rfl ?_
          refine ab_iadd (pc := 51) (by decide +kernel) ?_
          refine ab_iald (pc := 52) (by decide +kernel) (fun v11 ev11 => ?_)
          refine ab_ishl (pc := 53) (by decide +kernel) ?_
          refine ab_goto (pc := 54) (off := 4) (tgt := 58) (by decide +kernel) (by decide) ?_
          refine ab_ior (pc := 58) (by decide +kernel) ?_
          refine ab_istore_n (pc := 59) (n := 1) (i := 1) (lv' := [(0, .ref x0), (1, .int (x1 ||| ((nI 1) <<< (v11 &&& 31)))), (2, .int x2)]) (by decide +kernel) rfl (by decide) rfl rfl ?_
          refine ab_iinc (pc := 60) (i := 2) (n := 1) (j := 2) (d := nI 1) (lv' := [(0, .ref x0), (1, .int (x1 ||| ((nI 1) <<< (v11 &&& 31)))), (2, .int (x2 + nI 1))]) (by decide +kernel) rfl rfl (by decide) rfl rfl ?_
          refine ab_goto (pc := 63) (off := (-54)) (tgt := 9) (by decide +kernel) (by decide) ?_
          exact ih (x1 ||| ((nI 1) <<< (v11 &&& 31))) (x2 + nI 1)
        · refine ab_iconst (pc := 57) (n := 0) (v := nI 0) (by decide +kernel) rfl ?_
          refine ab_ior (pc := 58) (by decide +kernel) ?_
          refine ab_istore_n (pc := 59) (n := 1) (i := 1) (lv' := [(0, .ref x0), (1, .int (x1 ||| (nI 0))), (2, .int x2)]) (by decide +kernel) rfl (by decide) rfl rfl ?_
          refine ab_iinc (pc := 60) (i := 2) (n := 1) (j := 2) (d := nI 1) (lv' := [(0, .ref x0), (1, .int (x1 ||| (nI 0))), (2, .int (x2 + nI 1))]) (by decide +kernel) rfl rfl (by decide) rfl rfl ?_
          refine ab_goto (pc := 63) (off := (-54)) (tgt := 9) (by decide +kernel) (by decide) ?_
          exact ih (x1 ||| (nI 0)) (x2 + nI 1)
    · refine ab_iload_n (pc := 66) (n := 1) (i := 1) (j := 1) (by decide +kernel) rfl rfl ?_
      exact ab_iret (pc := 67) (by decide +kernel) rfl rfl (Nat.zero_le _) (Nat.zero_le _)
set_option maxRecDepth 100000 in
set_option maxHeartbeats 4000000 in
theorem wX12_unclaimed {l : Launch} (hl : l.stackTraces = false) (F : Nat) (x0 : Nat) (h : ab_H) : ab_S l mX12_unclaimed (fun y : (Int32 × ab_H) => ((.inl (some (.int y.1)), y.2) : ab_R × ab_H)) 0 0 (fX12_unclaimed F x0 h) 0 [(0, .ref x0)] [] h := by
  unfold fX12_unclaimed
  refine ab_aload_n (pc := 0) (n := 0) (i := 0) (j := 0) (by decide +kernel) rfl rfl ?_
  refine ab_iconst (pc := 1) (n := 0) (v := nI 0) (by decide +kernel) rfl ?_
  refine ab_put (pc := 2) fl_X12_50_12 rfl (fun _ => rfl) (fun _ => rfl) (by decide +kernel) (fun h1 eh1 => ?_)
  refine ab_iconst (pc := 5) (n := 0) (v := nI 0) (by decide +kernel) rfl ?_
  refine ab_istore_n (pc := 6) (n := 1) (i := 1) (lv' := [(0, .ref x0), (1, .int (nI 0))]) (by decide +kernel) rfl (by decide) rfl rfl ?_
  refine ab_iconst (pc := 7) (n := 0) (v := nI 0) (by decide +kernel) rfl ?_
  refine ab_istore_n (pc := 8) (n := 2) (i := 2) (lv' := [(0, .ref x0), (1, .int (nI 0)), (2, .int (nI 0))]) (by decide +kernel) rfl (by decide) rfl rfl ?_
  refine lX12_unclaimed_9 hl F x0 h1 F (nI 0) (nI 0)
set_option maxRecDepth 100000 in
set_option maxHeartbeats 4000000 in
theorem okX12_unclaimed {l : Launch} (hl : l.stackTraces = false) {F : Nat} {x0 : Nat} {h : ab_H} {y : (Int32 × ab_H)} (e : fX12_unclaimed F x0 h = some y) : ab_Met l mX12_unclaimed [.ref x0] h (.inl (some (.int y.1)), y.2) := ab_ofS (io := (fun y : (Int32 × ab_H) => ((.inl (some (.int y.1)), y.2) : ab_R × ab_H))) (x := y) hl (by decide) rfl (Nat.le_of_ble_eq_true rfl) (wX12_unclaimed hl F x0 h) e
def mX12_comesRound : ab_M := (yX12_comesRound, cX12_comesRound, 3, (some .boolean), { frames := 2, cells := 0, slots := 0, locals := 44 })
theorem iX12_comesRound : ab_MI mX12_comesRound 1 := ⟨kw_78c9a15d21, kw_30b3f7d7c6, by decide +kernel⟩
def fX12_comesRound_6 (F : Nat) (x0 : Nat) (x1 : Int32) (h : ab_H) (k25 : Int32 → Option Int32) : Nat → Int32 → Option Int32
  | 0, _ => none
  | n + 1, x2 => (if x2 = (-1 : Int32) then k25 x2 else (if x2 = x1 then k25 x2 else ab_ck (ab_io h x0 12 = true) (ab_bd (fX12_wearer F x0 x2 h) fun v4 => fX12_comesRound_6 F x0 x1 h k25 n v4)))
def fX12_comesRound (F : Nat) (x0 : Nat) (x1 : Int32) (h : ab_H) : Option Int32 := ab_ck (ab_io h x0 12 = true) (ab_bd (fX12_wearer F x0 x1 h) fun v1 => fX12_comesRound_6 F x0 x1 h (fun (z5 : Int32) => (if z5 = x1 then some (nI 1) else some (nI 0))) F v1)
set_option maxRecDepth 100000 in
set_option maxHeartbeats 4000000 in
theorem lX12_comesRound_6 {l : Launch} (hl : l.stackTraces = false) (F : Nat) (x0 : Nat) (x1 : Int32) (h : ab_H) {k25 : Int32 → Option Int32} (hk25 : ∀ (x2 : Int32), ab_S l mX12_comesRound (fun y : Int32 => ((.inl (some (.int y)), h) : ab_R × ab_H)) 0 0 (k25 x2) 25 [(1, .int x1), (2, .int x2)] [] h) : ∀ (n : Nat) (x2 : Int32), ab_S l mX12_comesRound (fun y : Int32 => ((.inl (some (.int y)), h) : ab_R × ab_H)) 0 0 (fX12_comesRound_6 F x0 x1 h k25 n x2) 6 [(0, .ref x0), (1, .int x1), (2, .int x2)] [] h := by
  intro n
  induction n with
  | zero =>
    intro x2
    exact ab_none
  | succ n ih =>
    intro x2
    rw [fX12_comesRound_6]
    refine ab_iload_n (pc := 6) (n := 2) (i := 2) (j := 2) (by decide +kernel) rfl rfl ?_
    refine ab_iconst (pc := 7) (n := -1) (v := (-1 : Int32)) (by decide +kernel) rfl ?_
    refine ab_icmp_eq (off := 17) (pc := 8) (tgt := 25) (by decide +kernel) (by decide) (fun g2 => ?_) (fun g2 => ?_)
    · refine ab_few [1, 2] (lv' := [(1, .int x1), (2, .int x2)]) rfl ?_
      exact hk25 x2
    · refine ab_iload_n (pc := 11) (n := 2) (i := 2) (j := 2) (by decide +kernel) rfl rfl ?_
      refine ab_iload_n (pc := 12) (n := 1) (i := 1) (j := 1) (by decide +kernel) rfl rfl ?_
      refine ab_icmp_eq (off := 12) (pc := 13) (tgt := 25) (by decide +kernel) (by decide) (fun g3 => ?_) (fun g3 => ?_)
      · refine ab_few [1, 2] (lv' := [(1, .int x1), (2, .int x2)]) rfl ?_
        exact hk25 x2
      · refine ab_aload_n (pc := 16) (n := 0) (i := 0) (j := 0) (by decide +kernel) rfl rfl ?_
        refine ab_iload_n (pc := 17) (n := 2) (i := 2) (j := 2) (by decide +kernel) rfl rfl ?_
        refine ab_callVi (As := [.int x2]) (st := []) (pc := 18) lk_X12_247_12 rfl rfl rfl (by decide) (by decide) (Nat.le_of_ble_eq_true rfl) (by decide +kernel) (fun y9 e9 => okX12_wearer hl (F := F) e9) (fun v4 ev4 => ?_)
        refine ab_istore_n (pc := 21) (n := 2) (i := 2) (lv' := [(0, .ref x0), (1, .int x1), (2, .int v4)]) (by decide +kernel) rfl (by decide) rfl rfl ?_
        refine ab_goto (pc := 22) (off := (-16)) (tgt := 6) (by decide +kernel) (by decide) ?_
        exact ih v4
set_option maxRecDepth 100000 in
set_option maxHeartbeats 4000000 in
theorem wX12_comesRound {l : Launch} (hl : l.stackTraces = false) (F : Nat) (x0 : Nat) (x1 : Int32) (h : ab_H) : ab_S l mX12_comesRound (fun y : Int32 => ((.inl (some (.int y)), h) : ab_R × ab_H)) 0 0 (fX12_comesRound F x0 x1 h) 0 [(0, .ref x0), (1, .int x1)] [] h := by
  unfold fX12_comesRound
  refine ab_aload_n (pc := 0) (n := 0) (i := 0) (j := 0) (by decide +kernel) rfl rfl ?_
  refine ab_iload_n (pc := 1) (n := 1) (i := 1) (j := 1) (by decide +kernel) rfl rfl ?_
  refine ab_callVi (As := [.int x1]) (st := []) (pc := 2) lk_X12_247_12 rfl rfl rfl (by decide) (by decide) (Nat.le_of_ble_eq_true rfl) (by decide +kernel) (fun y9 e9 => okX12_wearer hl (F := F) e9) (fun v1 ev1 => ?_)
  refine ab_istore_n (pc := 5) (n := 2) (i := 2) (lv' := [(0, .ref x0), (1, .int x1), (2, .int v1)]) (by decide +kernel) rfl (by decide) rfl rfl ?_
  refine lX12_comesRound_6 hl F x0 x1 h ?_ F v1
  intro z5
  refine ab_iload_n (pc := 25) (n := 2) (i := 2) (j := 1) (by decide +kernel) rfl rfl ?_
  refine ab_iload_n (pc := 26) (n := 1) (i := 1) (j := 0) (by decide +kernel) rfl rfl ?_
  refine ab_icmp_ne (off := 7) (pc := 27) (tgt := 34) (by decide +kernel) (by decide) (fun g6 => ?_) (fun g6 => ?_)
  · refine ab_iconst (pc := 30) (n := 1) (v := nI 1) (by decide +kernel) rfl ?_
    refine ab_goto (pc := 31) (off := 4) (tgt := 35) (by decide +kernel) (by decide) ?_
    exact ab_zret (pc := 35) (by decide +kernel) rfl ab_bl1 rfl (Nat.zero_le _) (Nat.zero_le _)
  · refine ab_iconst (pc := 34) (n := 0) (v := nI 0) (by decide +kernel) rfl ?_
    exact ab_zret (pc := 35) (by decide +kernel) rfl ab_bl0 rfl (Nat.zero_le _) (Nat.zero_le _)
set_option maxRecDepth 100000 in
set_option maxHeartbeats 4000000 in
theorem okX12_comesRound {l : Launch} (hl : l.stackTraces = false) {F : Nat} {x0 : Nat} {x1 : Int32} {h : ab_H} {y : Int32} (e : fX12_comesRound F x0 x1 h = some y) : ab_Met l mX12_comesRound [.ref x0, .int x1] h (.inl (some (.int y)), h) := ab_ofS (io := (fun y : Int32 => ((.inl (some (.int y)), h) : ab_R × ab_H))) (x := y) hl (by decide) rfl (Nat.le_of_ble_eq_true rfl) (wX12_comesRound hl F x0 x1 h) e
def mX12_swaps : ab_M := (yX12_swaps, cX12_swaps, 4, (some .int), { frames := 3, cells := 0, slots := 0, locals := 67 })
theorem iX12_swaps : ab_MI mX12_swaps 0 := ⟨kw_4feaa30f44, kw_30b3f7d7c6, by decide +kernel⟩
theorem lk_X12_323_12 : ab_LV RX12 323 12 mX12_comesRound 1 := ⟨RX12, rfl, iX12_comesRound, kw_c9a26f7260, kw_942783d34e, kw_eb02aba5a6⟩
def fX12_swaps_9 (F : Nat) (x0 : Nat) (h : ab_H) : Nat → Int32 → Int32 → Option (Int32 × ab_H)
  | 0, _, _ => none
  | n + 1, x1, x2 => ab_bd (ab_fr h x0 12 1) fun v2 => ab_bd (ab_ia 0 h v2 (nI 3)) fun v3 => (if x2 < v3 then ab_ck (ab_io h x0 12 = true) (ab_bd (fX12_isLost F x0 x2 h) fun v5 => (if v5 = 0 then ab_ck (ab_io h x0 12 = true) (ab_bd (fX12_wearer F x0 x2 h) fun v7 => (if v7 = x2 then fX12_swaps_9 F x0 h n x1 (x2 + nI 1) else ab_ck (ab_io h x0 12 = true) (ab_bd (fX12_ring F x0 x2 h) fun v9 => ab_ck (ab_io h x0 12 = true) (ab_bd (fX12_comesRound F x0 x2 h) fun v10 => (if v10 = 0 then fX12_swaps_9 F x0 h n (x1 + nI 1) (x2 + nI 1) else (if (v9 &&& (((nI 1) <<< (x2 &&& 31)) - (nI 1))) = 0 then fX12_swaps_9 F x0 h n ((x1 + nI 1) + (-1 : Int32)) (x2 + nI 1) else fX12_swaps_9 F x0 h n (x1 + nI 1) (x2 + nI 1))))))) else fX12_swaps_9 F x0 h n x1 (x2 + nI 1))) else some (x1, h))
def fX12_swaps (F : Nat) (x0 : Nat) (h : ab_H) : Option (Int32 × ab_H) := ab_bd (ab_fw h x0 12 0 (.int (nI 0))) fun h1 => fX12_swaps_9 F x0 h1 F (nI 0) (nI 0)
set_option maxRecDepth 100000 in
set_option maxHeartbeats 4000000 in
theorem lX12_swaps_9 {l : Launch} (hl : l.stackTraces = false) (F : Nat) (x0 : Nat) (h : ab_H) : ∀ (n : Nat) (x1 : Int32) (x2 : Int32), ab_S l mX12_swaps (fun y : (Int32 × ab_H) => ((.inl (some (.int y.1)), y.2) : ab_R × ab_H)) 0 0 (fX12_swaps_9 F x0 h n x1 x2) 9 [(0, .ref x0), (1, .int x1), (2, .int x2)] [] h := by
  intro n
  induction n with
  | zero =>
    intro x1 x2
    exact ab_none
  | succ n ih =>
    intro x1 x2
    rw [fX12_swaps_9]
    refine ab_iload_n (pc := 9) (n := 2) (i := 2) (j := 2) (by decide +kernel) rfl rfl ?_
    refine ab_aload_n (pc := 10) (n := 0) (i := 0) (j := 0) (by decide +kernel) rfl rfl ?_
    refine ab_getR (pc := 11) fl_X12_7_12 (by decide +kernel) (fun v2 ev2 => ?_)
    refine ab_iconst (pc := 14) (n := 3) (v := nI 3) (by decide +kernel) rfl ?_
    refine ab_iald (pc := 15) (by decide +kernel) (fun v3 ev3 => ?_)
    refine ab_icmp_ge (off := 59) (pc := 16) (tgt := 75) (by decide +kernel) (by decide) (fun g4 => ?_) (fun g4 => ?_)
    · refine ab_aload_n (pc := 19) (n := 0) (i := 0) (j := 0) (by decide +kernel) rfl rfl ?_
      refine ab_iload_n (pc := 20) (n := 2) (i := 2) (j := 2) (by decide +kernel) rfl rfl ?_
      refine ab_callVi (As := [.int x2]) (st := []) (pc := 21) lk_X12_320_12 rfl rfl rfl (by decide) (by decide) (Nat.le_of_ble_eq_true rfl) (by decide +kernel) (fun y9 e9 => okX12_isLost hl (F := F) e9) (fun v5 ev5 => ?_)
      refine ab_if_ne (off := 45) (pc := 24) (tgt := 69) (by decide +kernel) (by decide) (fun g6 => ?_) (fun g6 => ?_)
      · refine ab_aload_n (pc := 27) (n := 0) (i := 0) (j := 0) (by decide +kernel) rfl rfl ?_
        refine ab_iload_n (pc := 28) (n := 2) (i := 2) (j := 2) (by decide +kernel) rfl rfl ?_
        refine ab_callVi (As := [.int x2]) (st := []) (pc := 29) lk_X12_247_12 rfl rfl rfl (by decide) (by decide) (Nat.le_of_ble_eq_true rfl) (by decide +kernel) (fun y9 e9 => okX12_wearer hl (F := F) e9) (fun v7 ev7 => ?_)
        refine ab_iload_n (pc := 32) (n := 2) (i := 2) (j := 2) (by decide +kernel) rfl rfl ?_
        refine ab_icmp_ne (off := 6) (pc := 33) (tgt := 39) (by decide +kernel) (by decide) (fun g8 => ?_) (fun g8 => ?_)
        · refine ab_goto (pc := 36) (off := 33) (tgt := 69) (by decide +kernel) (by decide) ?_
          refine ab_iinc (pc := 69) (i := 2) (n := 1) (j := 2) (d := nI 1) (lv' := [(0, .ref x0), (1, .int x1), (2, .int (x2 + nI 1))]) (by decide +kernel) rfl rfl (by decide) rfl rfl ?_
          refine ab_goto (pc := 72) (off := (-63)) (tgt := 9) (by decide +kernel) (by decide) ?_
          exact ih x1 (x2 + nI 1)
        · refine ab_iinc (pc := 39) (i := 1) (n := 1) (j := 1) (d := nI 1) (lv' := [(0, .ref x0), (1, .int (x1 + nI 1)), (2, .int x2)]) (by decide +kernel) rfl rfl (by decide) rfl rfl ?_
          refine ab_aload_n (pc := 42) (n := 0) (i := 0) (j := 0) (by decide +kernel) rfl rfl ?_
          refine ab_iload_n (pc := 43) (n := 2) (i := 2) (j := 2) (by decide +kernel) rfl rfl ?_
          refine ab_callVi (As := [.int x2]) (st := []) (pc := 44) lk_X12_253_12 rfl rfl rfl (by decide) (by decide) (Nat.le_of_ble_eq_true rfl) (by decide +kernel) (fun y9 e9 => okX12_ring hl (F := F) e9) (fun v9 ev9 => ?_)
          refine ab_istore_n (pc := 47) (n := 3) (i := 3) (lv' := [(0, .ref x0), (1, .int (x1 + nI 1)), (2, .int x2), (3, .int v9)]) (by decide +kernel) rfl (by decide) rfl rfl ?_
          refine ab_aload_n (pc := 48) (n := 0) (i := 0) (j := 0) (by decide +kernel) rfl rfl ?_
          refine ab_iload_n (pc := 49) (n := 2) (i := 2) (j := 2) (by decide +kernel) rfl rfl ?_
          refine ab_callVi (As := [.int x2]) (st := []) (pc := 50) lk_X12_323_12 rfl rfl rfl (by decide) (by decide) (Nat.le_of_ble_eq_true rfl) (by decide +kernel) (fun y9 e9 => okX12_comesRound hl (F := F) e9) (fun v10 ev10 => ?_)
          refine ab_if_eq (off := 16) (pc := 53) (tgt := 69) (by decide +kernel) (by decide) (fun g11 => ?_) (fun g11 => ?_)
          · refine ab_iinc (pc := 69) (i := 2) (n := 1) (j := 2) (d := nI 1) (lv' := [(0, .ref x0), (1, .int (x1 + nI 1)), (2, .int (x2 + nI 1)), (3, .int v9)]) (by decide +kernel) rfl rfl (by decide) rfl rfl ?_
            refine ab_goto (pc := 72) (off := (-63)) (tgt := 9) (by decide +kernel) (by decide) ?_
            refine ab_few [0, 1, 2] (lv' := [(0, .ref x0), (1, .int (x1 + nI 1)), (2, .int (x2 + nI 1))]) rfl ?_
            exact ih (x1 + nI 1) (x2 + nI 1)
          · refine ab_iload_n (pc := 56) (n := 3) (i := 3) (j := 3) (by decide +kernel) rfl rfl ?_
            refine ab_iconst (pc := 57) (n := 1) (v := nI 1) (by decide +kernel) rfl ?_
            refine ab_iload_n (pc := 58) (n := 2) (i := 2) (j := 2) (by decide +kernel) rfl rfl ?_
            refine ab_ishl (pc := 59) (by decide +kernel) ?_
            refine ab_iconst (pc := 60) (n := 1) (v := nI 1) (by decide +kernel) rfl ?_
            refine ab_isub (pc := 61) (by decide +kernel) ?_
            refine ab_iand (pc := 62) (by decide +kernel) ?_
            refine ab_if_ne (off := 6) (pc := 63) (tgt := 69) (by decide +kernel) (by decide) (fun g12 => ?_) (fun g12 => ?_)
            · refine ab_iinc (pc := 66) (i := 1) (n := -1) (j := 1) (d := (-1 : Int32)) (lv' := [(0, .ref x0), (1, .int ((x1 + nI 1) + (-1 : Int32))), (2, .int x2), (3, .int v9)]) (by decide +kernel) rfl rfl (by decide) rfl rfl ?_
              refine ab_iinc (pc := 69) (i := 2) (n := 1) (j := 2) (d := nI 1) (lv' := [(0, .ref x0), (1, .int ((x1 + nI 1) + (-1 : Int32))), (2, .int (x2 + nI 1)), (3, .int v9)]) (by decide +kernel) rfl rfl (by decide) rfl rfl ?_
              refine ab_goto (pc := 72) (off := (-63)) (tgt := 9) (by decide +kernel) (by decide) ?_
              refine ab_few [0, 1, 2] (lv' := [(0, .ref x0), (1, .int ((x1 + nI 1) + (-1 : Int32))), (2, .int (x2 + nI 1))]) rfl ?_
              exact ih ((x1 + nI 1) + (-1 : Int32)) (x2 + nI 1)
            · refine ab_iinc (pc := 69) (i := 2) (n := 1) (j := 2) (d := nI 1) (lv' := [(0, .ref x0), (1, .int (x1 + nI 1)), (2, .int (x2 + nI 1)), (3, .int v9)]) (by decide +kernel) rfl rfl (by decide) rfl rfl ?_
              refine ab_goto (pc := 72) (off := (-63)) (tgt := 9) (by decide +kernel) (by decide) ?_
              refine ab_few [0, 1, 2] (lv' := [(0, .ref x0), (1, .int (x1 + nI 1)), (2, .int (x2 + nI 1))]) rfl ?_
              exact ih (x1 + nI 1) (x2 + nI 1)
      · refine ab_iinc (pc := 69) (i := 2) (n := 1) (j := 2) (d := nI 1) (lv' := [(0, .ref x0), (1, .int x1), (2, .int (x2 + nI 1))]) (by decide +kernel) rfl rfl (by decide) rfl rfl ?_
        refine ab_goto (pc := 72) (off := (-63)) (tgt := 9) (by decide +kernel) (by decide) ?_
        exact ih x1 (x2 + nI 1)
    · refine ab_iload_n (pc := 75) (n := 1) (i := 1) (j := 1) (by decide +kernel) rfl rfl ?_
      exact ab_iret (pc := 76) (by decide +kernel) rfl rfl (Nat.zero_le _) (Nat.zero_le _)
set_option maxRecDepth 100000 in
set_option maxHeartbeats 4000000 in
theorem wX12_swaps {l : Launch} (hl : l.stackTraces = false) (F : Nat) (x0 : Nat) (h : ab_H) : ab_S l mX12_swaps (fun y : (Int32 × ab_H) => ((.inl (some (.int y.1)), y.2) : ab_R × ab_H)) 0 0 (fX12_swaps F x0 h) 0 [(0, .ref x0)] [] h := by
  unfold fX12_swaps
  refine ab_aload_n (pc := 0) (n := 0) (i := 0) (j := 0) (by decide +kernel) rfl rfl ?_
  refine ab_iconst (pc := 1) (n := 0) (v := nI 0) (by decide +kernel) rfl ?_
  refine ab_put (pc := 2) fl_X12_50_12 rfl (fun _ => rfl) (fun _ => rfl) (by decide +kernel) (fun h1 eh1 => ?_)
  refine ab_iconst (pc := 5) (n := 0) (v := nI 0) (by decide +kernel) rfl ?_
  refine ab_istore_n (pc := 6) (n := 1) (i := 1) (lv' := [(0, .ref x0), (1, .int (nI 0))]) (by decide +kernel) rfl (by decide) rfl rfl ?_
  refine ab_iconst (pc := 7) (n := 0) (v := nI 0) (by decide +kernel) rfl ?_
  refine ab_istore_n (pc := 8) (n := 2) (i := 2) (lv' := [(0, .ref x0), (1, .int (nI 0)), (2, .int (nI 0))]) (by decide +kernel) rfl (by decide) rfl rfl ?_
  refine lX12_swaps_9 hl F x0 h1 F (nI 0) (nI 0)
set_option maxRecDepth 100000 in
set_option maxHeartbeats 4000000 in
theorem okX12_swaps {l : Launch} (hl : l.stackTraces = false) {F : Nat} {x0 : Nat} {h : ab_H} {y : (Int32 × ab_H)} (e : fX12_swaps F x0 h = some y) : ab_Met l mX12_swaps [.ref x0] h (.inl (some (.int y.1)), y.2) := ab_ofS (io := (fun y : (Int32 × ab_H) => ((.inl (some (.int y.1)), y.2) : ab_R × ab_H))) (x := y) hl (by decide) rfl (Nat.le_of_ble_eq_true rfl) (wX12_swaps hl F x0 h) e
def mX12_saved : ab_M := (yX12_saved, cX12_saved, 4, (some .int), { frames := 1, cells := 0, slots := 0, locals := 22 })
theorem iX12_saved : ab_MI mX12_saved 0 := ⟨kw_c2cb15c099, kw_30b3f7d7c6, by decide +kernel⟩
def fX12_saved_9 (x0 : Nat) (h : ab_H) : Nat → Int32 → Int32 → Option (Int32 × ab_H)
  | 0, _, _ => none
  | n + 1, x1, x2 => ab_bd (ab_fr h x0 12 1) fun v2 => ab_bd (ab_ia 0 h v2 (nI 3)) fun v3 => (if x2 < v3 then ab_ck (ab_io h x0 12 = true) (ab_bd (fX12_of x0 x2 (nI 4) h) fun v5 => (if v5 = (-1 : Int32) then fX12_saved_9 x0 h n (x1 ||| (nI 0)) (x2 + nI 1) else ab_ck (ab_io h x0 12 = true) (ab_bd (fX12_of x0 x2 (nI 2) h) fun v7 => (if v7 = v5 then ab_ck (ab_io h x0 12 = true) (ab_bd (fX12_of x0 v5 (nI 2) h) fun v9 => (if v9 = x2 then fX12_saved_9 x0 h n (x1 ||| ((nI 1) <<< (x2 &&& 31))) (x2 + nI 1) else fX12_saved_9 x0 h n (x1 ||| (nI 0)) (x2 + nI 1))) else fX12_saved_9 x0 h n (x1 ||| (nI 0)) (x2 + nI 1))))) else some (x1, h))
def fX12_saved (F : Nat) (x0 : Nat) (h : ab_H) : Option (Int32 × ab_H) := ab_bd (ab_fw h x0 12 0 (.int (nI 0))) fun h1 => fX12_saved_9 x0 h1 F (nI 0) (nI 0)
set_option maxRecDepth 100000 in
set_option maxHeartbeats 4000000 in
theorem lX12_saved_9 {l : Launch} (hl : l.stackTraces = false) (x0 : Nat) (h : ab_H) : ∀ (n : Nat) (x1 : Int32) (x2 : Int32), ab_S l mX12_saved (fun y : (Int32 × ab_H) => ((.inl (some (.int y.1)), y.2) : ab_R × ab_H)) 0 0 (fX12_saved_9 x0 h n x1 x2) 9 [(0, .ref x0), (1, .int x1), (2, .int x2)] [] h := by
  intro n
  induction n with
  | zero =>
    intro x1 x2
    exact ab_none
  | succ n ih =>
    intro x1 x2
    rw [fX12_saved_9]
    refine ab_iload_n (pc := 9) (n := 2) (i := 2) (j := 2) (by decide +kernel) rfl rfl ?_
    refine ab_aload_n (pc := 10) (n := 0) (i := 0) (j := 0) (by decide +kernel) rfl rfl ?_
    refine ab_getR (pc := 11) fl_X12_7_12 (by decide +kernel) (fun v2 ev2 => ?_)
    refine ab_iconst (pc := 14) (n := 3) (v := nI 3) (by decide +kernel) rfl ?_
    refine ab_iald (pc := 15) (by decide +kernel) (fun v3 ev3 => ?_)
    refine ab_icmp_ge (off := 51) (pc := 16) (tgt := 67) (by decide +kernel) (by decide) (fun g4 => ?_) (fun g4 => ?_)
    · refine ab_aload_n (pc := 19) (n := 0) (i := 0) (j := 0) (by decide +kernel) rfl rfl ?_
      refine ab_iload_n (pc := 20) (n := 2) (i := 2) (j := 2) (by decide +kernel) rfl rfl ?_
      refine ab_iconst (pc := 21) (n := 4) (v := nI 4) (by decide +kernel) rfl ?_
      refine ab_callVi (As := [.int x2, .int (nI 4)]) (st := []) (pc := 22) lk_X12_57_12 rfl rfl rfl (by decide) (by decide) (Nat.le_of_ble_eq_true rfl) (by decide +kernel) (fun y9 e9 => okX12_of hl e9) (fun v5 ev5 => ?_)
      refine ab_istore_n (pc := 25) (n := 3) (i := 3) (lv' := [(0, .ref x0), (1, .int x1), (2, .int x2), (3, .int v5)]) (by decide +kernel) rfl (by decide) rfl rfl ?_
      refine ab_iload_n (pc := 26) (n := 1) (i := 1) (j := 1) (by decide +kernel) rfl rfl ?_
      refine ab_iload_n (pc := 27) (n := 3) (i := 3) (j := 3) (by decide +kernel) rfl rfl ?_
      refine ab_iconst (pc := 28) (n := -1) (v := (-1 : Int32)) (by decide +kernel) rfl ?_
      refine ab_icmp_eq (off := 29) (pc := 29) (tgt := 58) (by decide +kernel) (by decide) (fun g6 => ?_) (fun g6 => ?_)
      · refine ab_iconst (pc := 58) (n := 0) (v := nI 0) (by decide +kernel) rfl ?_
        refine ab_ior (pc := 59) (by decide +kernel) ?_
        refine ab_istore_n (pc := 60) (n := 1) (i := 1) (lv' := [(0, .ref x0), (1, .int (x1 ||| (nI 0))), (2, .int x2), (3, .int v5)]) (by decide +kernel) rfl (by decide) rfl rfl ?_
        refine ab_iinc (pc := 61) (i := 2) (n := 1) (j := 2) (d := nI 1) (lv' := [(0, .ref x0), (1, .int (x1 ||| (nI 0))), (2, .int (x2 + nI 1)), (3, .int v5)]) (by decide +kernel) rfl rfl (by decide) rfl rfl ?_
        refine ab_goto (pc := 64) (off := (-55)) (tgt := 9) (by decide +kernel) (by decide) ?_
        refine ab_few [0, 1, 2] (lv' := [(0, .ref x0), (1, .int (x1 ||| (nI 0))), (2, .int (x2 + nI 1))]) rfl ?_
        exact ih (x1 ||| (nI 0)) (x2 + nI 1)
      · refine ab_aload_n (pc := 32) (n := 0) (i := 0) (j := 0) (by decide +kernel) rfl rfl ?_
        refine ab_iload_n (pc := 33) (n := 2) (i := 2) (j := 2) (by decide +kernel) rfl rfl ?_
        refine ab_iconst (pc := 34) (n := 2) (v := nI 2) (by decide +kernel) rfl ?_
        refine ab_callVi (As := [.int x2, .int (nI 2)]) (st := [.int x1]) (pc := 35) lk_X12_57_12 rfl rfl rfl (by decide) (by decide) (Nat.le_of_ble_eq_true rfl) (by decide +kernel) (fun y9 e9 => okX12_of hl e9) (fun v7 ev7 => ?_)
        refine ab_iload_n (pc := 38) (n := 3) (i := 3) (j := 3) (by decide +kernel) rfl rfl ?_
        refine ab_icmp_ne (off := 19) (pc := 39) (tgt := 58) (by decide +kernel) (by decide) (fun g8 => ?_) (fun g8 => ?_)
        · refine ab_aload_n (pc := 42) (n := 0) (i := 0) (j := 0) (by decide +kernel) rfl rfl ?_
          refine ab_iload_n (pc := 43) (n := 3) (i := 3) (j := 3) (by decide +kernel) rfl rfl ?_
          refine ab_iconst (pc := 44) (n := 2) (v := nI 2) (by decide +kernel) rfl ?_
          refine ab_callVi (As := [.int v5, .int (nI 2)]) (st := [.int x1]) (pc := 45) lk_X12_57_12 rfl rfl rfl (by decide) (by decide) (Nat.le_of_ble_eq_true rfl) (by decide +kernel) (fun y9 e9 => okX12_of hl e9) (fun v9 ev9 => ?_)
          refine ab_iload_n (pc := 48) (n := 2) (i := 2) (j := 2) (by decide +kernel) rfl rfl ?_
          refine ab_icmp_ne (off := 9) (pc := 49) (tgt := 58) (by decide +kernel) (by decide) (fun g10 => ?_) (fun g10 => ?_)
          · refine ab_iconst (pc := 52) (n := 1) (v := nI 1) (by decide +kernel) rfl ?_
            refine ab_iload_n (pc := 53) (n := 2) (i := 2) (j := 2) (by decide +kernel) rfl rfl ?_
            refine ab_ishl (pc := 54) (by decide +kernel) ?_
            refine ab_goto (pc := 55) (off := 4) (tgt := 59) (by decide +kernel) (by decide) ?_
            refine ab_ior (pc := 59) (by decide +kernel) ?_
            refine ab_istore_n (pc := 60) (n := 1) (i := 1) (lv' := [(0, .ref x0), (1, .int (x1 ||| ((nI 1) <<< (x2 &&& 31)))), (2, .int x2), (3, .int v5)]) (by decide +kernel) rfl (by decide) rfl rfl ?_
            refine ab_iinc (pc := 61) (i := 2) (n := 1) (j := 2) (d := nI 1) (lv' := [(0, .ref x0), (1, .int (x1 ||| ((nI 1) <<< (x2 &&& 31)))), (2, .int (x2 + nI 1)), (3, .int v5)]) (by decide +kernel) rfl rfl (by decide) rfl rfl ?_
            refine ab_goto (pc := 64) (off := (-55)) (tgt := 9) (by decide +kernel) (by decide) ?_
            refine ab_few [0, 1, 2] (lv' := [(0, .ref x0), (1, .int (x1 ||| ((nI 1) <<< (x2 &&& 31)))), (2, .int (x2 + nI 1))]) rfl ?_
            exact ih (x1 ||| ((nI 1) <<< (x2 &&& 31))) (x2 + nI 1)
          · refine ab_iconst (pc := 58) (n := 0) (v := nI 0) (by decide +kernel) rfl ?_
            refine ab_ior (pc := 59) (by decide +kernel) ?_
            refine ab_istore_n (pc := 60) (n := 1) (i := 1) (lv' := [(0, .ref x0), (1, .int (x1 ||| (nI 0))), (2, .int x2), (3, .int v5)]) (by decide +kernel) rfl (by decide) rfl rfl ?_
            refine ab_iinc (pc := 61) (i := 2) (n := 1) (j := 2) (d := nI 1) (lv' := [(0, .ref x0), (1, .int (x1 ||| (nI 0))), (2, .int (x2 + nI 1)), (3, .int v5)]) (by decide +kernel) rfl rfl (by decide) rfl rfl ?_
            refine ab_goto (pc := 64) (off := (-55)) (tgt := 9) (by decide +kernel) (by decide) ?_
            refine ab_few [0, 1, 2] (lv' := [(0, .ref x0), (1, .int (x1 ||| (nI 0))), (2, .int (x2 + nI 1))]) rfl ?_
            exact ih (x1 ||| (nI 0)) (x2 + nI 1)
        · refine ab_iconst (pc := 58) (n := 0) (v := nI 0) (by decide +kernel) rfl ?_
          refine ab_ior (pc := 59) (by decide +kernel) ?_
          refine ab_istore_n (pc := 60) (n := 1) (i := 1) (lv' := [(0, .ref x0), (1, .int (x1 ||| (nI 0))), (2, .int x2), (3, .int v5)]) (by decide +kernel) rfl (by decide) rfl rfl ?_
          refine ab_iinc (pc := 61) (i := 2) (n := 1) (j := 2) (d := nI 1) (lv' := [(0, .ref x0), (1, .int (x1 ||| (nI 0))), (2, .int (x2 + nI 1)), (3, .int v5)]) (by decide +kernel) rfl rfl (by decide) rfl rfl ?_
          refine ab_goto (pc := 64) (off := (-55)) (tgt := 9) (by decide +kernel) (by decide) ?_
          refine ab_few [0, 1, 2] (lv' := [(0, .ref x0), (1, .int (x1 ||| (nI 0))), (2, .int (x2 + nI 1))]) rfl ?_
          exact ih (x1 ||| (nI 0)) (x2 + nI 1)
    · refine ab_iload_n (pc := 67) (n := 1) (i := 1) (j := 1) (by decide +kernel) rfl rfl ?_
      exact ab_iret (pc := 68) (by decide +kernel) rfl rfl (Nat.zero_le _) (Nat.zero_le _)
set_option maxRecDepth 100000 in
set_option maxHeartbeats 4000000 in
theorem wX12_saved {l : Launch} (hl : l.stackTraces = false) (F : Nat) (x0 : Nat) (h : ab_H) : ab_S l mX12_saved (fun y : (Int32 × ab_H) => ((.inl (some (.int y.1)), y.2) : ab_R × ab_H)) 0 0 (fX12_saved F x0 h) 0 [(0, .ref x0)] [] h := by
  unfold fX12_saved
  refine ab_aload_n (pc := 0) (n := 0) (i := 0) (j := 0) (by decide +kernel) rfl rfl ?_
  refine ab_iconst (pc := 1) (n := 0) (v := nI 0) (by decide +kernel) rfl ?_
  refine ab_put (pc := 2) fl_X12_50_12 rfl (fun _ => rfl) (fun _ => rfl) (by decide +kernel) (fun h1 eh1 => ?_)
  refine ab_iconst (pc := 5) (n := 0) (v := nI 0) (by decide +kernel) rfl ?_
  refine ab_istore_n (pc := 6) (n := 1) (i := 1) (lv' := [(0, .ref x0), (1, .int (nI 0))]) (by decide +kernel) rfl (by decide) rfl rfl ?_
  refine ab_iconst (pc := 7) (n := 0) (v := nI 0) (by decide +kernel) rfl ?_
  refine ab_istore_n (pc := 8) (n := 2) (i := 2) (lv' := [(0, .ref x0), (1, .int (nI 0)), (2, .int (nI 0))]) (by decide +kernel) rfl (by decide) rfl rfl ?_
  refine lX12_saved_9 hl x0 h1 F (nI 0) (nI 0)
set_option maxRecDepth 100000 in
set_option maxHeartbeats 4000000 in
theorem okX12_saved {l : Launch} (hl : l.stackTraces = false) {F : Nat} {x0 : Nat} {h : ab_H} {y : (Int32 × ab_H)} (e : fX12_saved F x0 h = some y) : ab_Met l mX12_saved [.ref x0] h (.inl (some (.int y.1)), y.2) := ab_ofS (io := (fun y : (Int32 × ab_H) => ((.inl (some (.int y.1)), y.2) : ab_R × ab_H))) (x := y) hl (by decide) rfl (Nat.le_of_ble_eq_true rfl) (wX12_saved hl F x0 h) e
def mX12_areUnlike : ab_M := (yX12_areUnlike, cX12_areUnlike, 4, (some .boolean), { frames := 1, cells := 0, slots := 0, locals := 22 })
theorem iX12_areUnlike : ab_MI mX12_areUnlike 1 := ⟨kw_f18986c901, kw_30b3f7d7c6, by decide +kernel⟩
def fX12_areUnlike_14 (F : Nat) (x0 : Nat) (x1 : Int32) (x2 : Int32) (h : ab_H) (k46 : Option Int32) : Nat → Int32 → Option Int32
  | 0, _ => none
  | n + 1, x3 => (if x3 < x2 then ab_ck (ab_io h x0 12 = true) (ab_bd (fX12_of x0 x2 (nI 0) h) fun v5 => ab_ck (ab_io h x0 12 = true) (ab_bd (fX12_of x0 x3 (nI 0) h) fun v6 => (if (v5 &&& x1) = (v6 &&& x1) then some (nI 0) else fX12_areUnlike_14 F x0 x1 x2 h k46 n (x3 + nI 1)))) else k46)
def fX12_areUnlike_2 (F : Nat) (x0 : Nat) (x1 : Int32) (h : ab_H) : Nat → Int32 → Option Int32
  | 0, _ => none
  | n + 1, x2 => ab_bd (ab_fr h x0 12 1) fun v1 => ab_bd (ab_ia 0 h v1 (nI 3)) fun v2 => (if x2 < v2 then fX12_areUnlike_14 F x0 x1 x2 h (fX12_areUnlike_2 F x0 x1 h n (x2 + nI 1)) F (nI 0) else some (nI 1))
def fX12_areUnlike (F : Nat) (x0 : Nat) (x1 : Int32) (h : ab_H) : Option Int32 := fX12_areUnlike_2 F x0 x1 h F (nI 0)
set_option maxRecDepth 100000 in
set_option maxHeartbeats 4000000 in
theorem lX12_areUnlike_14 {l : Launch} (hl : l.stackTraces = false) (F : Nat) (x0 : Nat) (x1 : Int32) (x2 : Int32) (h : ab_H) {k46 : Option Int32} (hk46 : ab_S l mX12_areUnlike (fun y : Int32 => ((.inl (some (.int y)), h) : ab_R × ab_H)) 0 0 (k46) 46 [(0, .ref x0), (1, .int x1), (2, .int x2)] [] h) : ∀ (n : Nat) (x3 : Int32), ab_S l mX12_areUnlike (fun y : Int32 => ((.inl (some (.int y)), h) : ab_R × ab_H)) 0 0 (fX12_areUnlike_14 F x0 x1 x2 h k46 n x3) 14 [(0, .ref x0), (1, .int x1), (2, .int x2), (3, .int x3)] [] h := by
  intro n
  induction n with
  | zero =>
    intro x3
    exact ab_none
  | succ n ih =>
    intro x3
    rw [fX12_areUnlike_14]
    refine ab_iload_n (pc := 14) (n := 3) (i := 3) (j := 3) (by decide +kernel) rfl rfl ?_
    refine ab_iload_n (pc := 15) (n := 2) (i := 2) (j := 2) (by decide +kernel) rfl rfl ?_
    refine ab_icmp_ge (off := 30) (pc := 16) (tgt := 46) (by decide +kernel) (by decide) (fun g4 => ?_) (fun g4 => ?_)
    · refine ab_aload_n (pc := 19) (n := 0) (i := 0) (j := 0) (by decide +kernel) rfl rfl ?_
      refine ab_iload_n (pc := 20) (n := 2) (i := 2) (j := 2) (by decide +kernel) rfl rfl ?_
      refine ab_iconst (pc := 21) (n := 0) (v := nI 0) (by decide +kernel) rfl ?_
      refine ab_callVi (As := [.int x2, .int (nI 0)]) (st := []) (pc := 22) lk_X12_57_12 rfl rfl rfl (by decide) (by decide) (Nat.le_of_ble_eq_true rfl) (by decide +kernel) (fun y9 e9 => okX12_of hl e9) (fun v5 ev5 => ?_)
      refine ab_iload_n (pc := 25) (n := 1) (i := 1) (j := 1) (by decide +kernel) rfl rfl ?_
      refine ab_iand (pc := 26) (by decide +kernel) ?_
      refine ab_aload_n (pc := 27) (n := 0) (i := 0) (j := 0) (by decide +kernel) rfl rfl ?_
      refine ab_iload_n (pc := 28) (n := 3) (i := 3) (j := 3) (by decide +kernel) rfl rfl ?_
      refine ab_iconst (pc := 29) (n := 0) (v := nI 0) (by decide +kernel) rfl ?_
      refine ab_callVi (As := [.int x3, .int (nI 0)]) (st := [.int (v5 &&& x1)]) (pc := 30) lk_X12_57_12 rfl rfl rfl (by decide) (by decide) (Nat.le_of_ble_eq_true rfl) (by decide +kernel) (fun y9 e9 => okX12_of hl e9) (fun v6 ev6 => ?_)
      refine ab_iload_n (pc := 33) (n := 1) (i := 1) (j := 1) (by decide +kernel) rfl rfl ?_
      refine ab_iand (pc := 34) (by decide +kernel) ?_
      refine ab_icmp_ne (off := 5) (pc := 35) (tgt := 40) (by decide +kernel) (by decide) (fun g7 => ?_) (fun g7 => ?_)
      · refine ab_iconst (pc := 38) (n := 0) (v := nI 0) (by decide +kernel) rfl ?_
        exact ab_zret (pc := 39) (by decide +kernel) rfl ab_bl0 rfl (Nat.zero_le _) (Nat.zero_le _)
      · refine ab_iinc (pc := 40) (i := 3) (n := 1) (j := 3) (d := nI 1) (lv' := [(0, .ref x0), (1, .int x1), (2, .int x2), (3, .int (x3 + nI 1))]) (by decide +kernel) rfl rfl (by decide) rfl rfl ?_
        refine ab_goto (pc := 43) (off := (-29)) (tgt := 14) (by decide +kernel) (by decide) ?_
        exact ih (x3 + nI 1)
    · refine ab_few [0, 1, 2] (lv' := [(0, .ref x0), (1, .int x1), (2, .int x2)]) rfl ?_
      exact hk46
set_option maxRecDepth 100000 in
set_option maxHeartbeats 4000000 in
theorem lX12_areUnlike_2 {l : Launch} (hl : l.stackTraces = false) (F : Nat) (x0 : Nat) (x1 : Int32) (h : ab_H) : ∀ (n : Nat) (x2 : Int32), ab_S l mX12_areUnlike (fun y : Int32 => ((.inl (some (.int y)), h) : ab_R × ab_H)) 0 0 (fX12_areUnlike_2 F x0 x1 h n x2) 2 [(0, .ref x0), (1, .int x1), (2, .int x2)] [] h := by
  intro n
  induction n with
  | zero =>
    intro x2
    exact ab_none
  | succ n ih =>
    intro x2
    rw [fX12_areUnlike_2]
    refine ab_iload_n (pc := 2) (n := 2) (i := 2) (j := 2) (by decide +kernel) rfl rfl ?_
    refine ab_aload_n (pc := 3) (n := 0) (i := 0) (j := 0) (by decide +kernel) rfl rfl ?_
    refine ab_getR (pc := 4) fl_X12_7_12 (by decide +kernel) (fun v1 ev1 => ?_)
    refine ab_iconst (pc := 7) (n := 3) (v := nI 3) (by decide +kernel) rfl ?_
    refine ab_iald (pc := 8) (by decide +kernel) (fun v2 ev2 => ?_)
    refine ab_icmp_ge (off := 43) (pc := 9) (tgt := 52) (by decide +kernel) (by decide) (fun g3 => ?_) (fun g3 => ?_)
    · refine ab_iconst (pc := 12) (n := 0) (v := nI 0) (by decide +kernel) rfl ?_
      refine ab_istore_n (pc := 13) (n := 3) (i := 3) (lv' := [(0, .ref x0), (1, .int x1), (2, .int x2), (3, .int (nI 0))]) (by decide +kernel) rfl (by decide) rfl rfl ?_
      refine lX12_areUnlike_14 hl F x0 x1 x2 h ?_ F (nI 0)
      refine ab_iinc (pc := 46) (i := 2) (n := 1) (j := 2) (d := nI 1) (lv' := [(0, .ref x0), (1, .int x1), (2, .int (x2 + nI 1))]) (by decide +kernel) rfl rfl (by decide) rfl rfl ?_
      refine ab_goto (pc := 49) (off := (-47)) (tgt := 2) (by decide +kernel) (by decide) ?_
      exact ih (x2 + nI 1)
    · refine ab_iconst (pc := 52) (n := 1) (v := nI 1) (by decide +kernel) rfl ?_
      exact ab_zret (pc := 53) (by decide +kernel) rfl ab_bl1 rfl (Nat.zero_le _) (Nat.zero_le _)
set_option maxRecDepth 100000 in
set_option maxHeartbeats 4000000 in
theorem wX12_areUnlike {l : Launch} (hl : l.stackTraces = false) (F : Nat) (x0 : Nat) (x1 : Int32) (h : ab_H) : ab_S l mX12_areUnlike (fun y : Int32 => ((.inl (some (.int y)), h) : ab_R × ab_H)) 0 0 (fX12_areUnlike F x0 x1 h) 0 [(0, .ref x0), (1, .int x1)] [] h := by
  unfold fX12_areUnlike
  refine ab_iconst (pc := 0) (n := 0) (v := nI 0) (by decide +kernel) rfl ?_
  refine ab_istore_n (pc := 1) (n := 2) (i := 2) (lv' := [(0, .ref x0), (1, .int x1), (2, .int (nI 0))]) (by decide +kernel) rfl (by decide) rfl rfl ?_
  refine lX12_areUnlike_2 hl F x0 x1 h F (nI 0)
set_option maxRecDepth 100000 in
set_option maxHeartbeats 4000000 in
theorem okX12_areUnlike {l : Launch} (hl : l.stackTraces = false) {F : Nat} {x0 : Nat} {x1 : Int32} {h : ab_H} {y : Int32} (e : fX12_areUnlike F x0 x1 h = some y) : ab_Met l mX12_areUnlike [.ref x0, .int x1] h (.inl (some (.int y)), h) := ab_ofS (io := (fun y : Int32 => ((.inl (some (.int y)), h) : ab_R × ab_H))) (x := y) hl (by decide) rfl (Nat.le_of_ble_eq_true rfl) (wX12_areUnlike hl F x0 x1 h) e
def mX12_marks : ab_M := (yX12_marks, cX12_marks, 3, (some .int), { frames := 2, cells := 0, slots := 0, locals := 45 })
theorem iX12_marks : ab_MI mX12_marks 0 := ⟨kw_c6efadbaaf, kw_30b3f7d7c6, by decide +kernel⟩
theorem lk_X12_326_12 : ab_LV RX12 326 12 mX12_areUnlike 1 := ⟨RX12, rfl, iX12_areUnlike, kw_76a52bfc86, kw_0e18af8544, kw_41c37a220c⟩
def fX12_marks_9 (F : Nat) (x0 : Nat) (h : ab_H) : Nat → Int32 → Int32 → Option (Int32 × ab_H)
  | 0, _, _ => none
  | n + 1, x1, x2 => (if x2 < (nI 256) then ab_jn (κ := Option (Int32 × ab_H)) (ab_ck (ab_io h x0 12 = true) (ab_bd (fX12_areUnlike F x0 x2 h) fun v3 => (if v3 = 0 then fX12_marks_9 F x0 h n x1 (x2 + nI 1) else fX12_marks_9 F x0 h n x2 (x2 + nI 1)))) fun j5 => (if x1 = (-1 : Int32) then j5 else ab_bd (fX12_bits F x2 h) fun v7 => ab_bd (fX12_bits F x1 h) fun v8 => (if v7 < v8 then j5 else fX12_marks_9 F x0 h n x1 (x2 + nI 1))) else some (x1, h))
def fX12_marks (F : Nat) (x0 : Nat) (h : ab_H) : Option (Int32 × ab_H) := ab_bd (ab_fw h x0 12 0 (.int (nI 0))) fun h1 => fX12_marks_9 F x0 h1 F (-1 : Int32) (nI 0)
set_option maxRecDepth 100000 in
set_option maxHeartbeats 4000000 in
theorem lX12_marks_9 {l : Launch} (hl : l.stackTraces = false) (F : Nat) (x0 : Nat) (h : ab_H) : ∀ (n : Nat) (x1 : Int32) (x2 : Int32), ab_S l mX12_marks (fun y : (Int32 × ab_H) => ((.inl (some (.int y.1)), y.2) : ab_R × ab_H)) 0 0 (fX12_marks_9 F x0 h n x1 x2) 9 [(0, .ref x0), (1, .int x1), (2, .int x2)] [] h := by
  intro n
  induction n with
  | zero =>
    intro x1 x2
    exact ab_none
  | succ n ih =>
    intro x1 x2
    rw [fX12_marks_9]
    refine ab_iload_n (pc := 9) (n := 2) (i := 2) (j := 2) (by decide +kernel) rfl rfl ?_
    refine ab_sipush (pc := 10) (n := 256) (v := nI 256) (by decide +kernel) (by decide) ?_
    refine ab_icmp_ge (off := 35) (pc := 13) (tgt := 48) (by decide +kernel) (by decide) (fun g2 => ?_) (fun g2 => ?_)
    · refine ab_iload_n (pc := 16) (n := 1) (i := 1) (j := 1) (by decide +kernel) rfl rfl ?_
      refine ab_iconst (pc := 17) (n := -1) (v := (-1 : Int32)) (by decide +kernel) rfl ?_
      refine ab_jr (fun k9 : Option (Int32 × ab_H) => ab_S l mX12_marks (fun y : (Int32 × ab_H) => ((.inl (some (.int y.1)), y.2) : ab_R × ab_H)) 0 0 (k9) 32 [(0, .ref x0), (1, .int x1), (2, .int x2)] [] h) ?_ (fun j5 hj5 => ?_)
      · refine ab_aload_n (pc := 32) (n := 0) (i := 0) (j := 0) (by decide +kernel) rfl rfl ?_
        refine ab_iload_n (pc := 33) (n := 2) (i := 2) (j := 2) (by decide +kernel) rfl rfl ?_
        refine ab_callVi (As := [.int x2]) (st := []) (pc := 34) lk_X12_326_12 rfl rfl rfl (by decide) (by decide) (Nat.le_of_ble_eq_true rfl) (by decide +kernel) (fun y9 e9 => okX12_areUnlike hl (F := F) e9) (fun v3 ev3 => ?_)
        refine ab_if_eq (off := 5) (pc := 37) (tgt := 42) (by decide +kernel) (by decide) (fun g4 => ?_) (fun g4 => ?_)
        · refine ab_iinc (pc := 42) (i := 2) (n := 1) (j := 2) (d := nI 1) (lv' := [(0, .ref x0), (1, .int x1), (2, .int (x2 + nI 1))]) (by decide +kernel) rfl rfl (by decide) rfl rfl ?_
          refine ab_goto (pc := 45) (off := (-36)) (tgt := 9) (by decide +kernel) (by decide) ?_
          exact ih x1 (x2 + nI 1)
        · refine ab_iload_n (pc := 40) (n := 2) (i := 2) (j := 2) (by decide +kernel) rfl rfl ?_
          refine ab_istore_n (pc := 41) (n := 1) (i := 1) (lv' := [(0, .ref x0), (1, .int x2), (2, .int x2)]) (by decide +kernel) rfl (by decide) rfl rfl ?_
          refine ab_iinc (pc := 42) (i := 2) (n := 1) (j := 2) (d := nI 1) (lv' := [(0, .ref x0), (1, .int x2), (2, .int (x2 + nI 1))]) (by decide +kernel) rfl rfl (by decide) rfl rfl ?_
          refine ab_goto (pc := 45) (off := (-36)) (tgt := 9) (by decide +kernel) (by decide) ?_
          exact ih x2 (x2 + nI 1)
      · refine ab_icmp_eq (off := 14) (pc := 18) (tgt := 32) (by decide +kernel) (by decide) (fun g6 => ?_) (fun g6 => ?_)
        · exact hj5
        · refine ab_iload_n (pc := 21) (n := 2) (i := 2) (j := 2) (by decide +kernel) rfl rfl ?_
          refine ab_callSi (As := [.int x2]) (st := []) (pc := 22) lk_X12_242 rfl rfl rfl (by decide) (by decide) (Nat.le_of_ble_eq_true rfl) (by decide +kernel) (fun y9 e9 => okX12_bits hl (F := F) e9) (fun v7 ev7 => ?_)
          refine ab_iload_n (pc := 25) (n := 1) (i := 1) (j := 1) (by decide +kernel) rfl rfl ?_
          refine ab_callSi (As := [.int x1]) (st := [.int v7]) (pc := 26) lk_X12_242 rfl rfl rfl (by decide) (by decide) (Nat.le_of_ble_eq_true rfl) (by decide +kernel) (fun y9 e9 => okX12_bits hl (F := F) e9) (fun v8 ev8 => ?_)
          refine ab_icmp_ge (off := 13) (pc := 29) (tgt := 42) (by decide +kernel) (by decide) (fun g9 => ?_) (fun g9 => ?_)
          · exact hj5
          · refine ab_iinc (pc := 42) (i := 2) (n := 1) (j := 2) (d := nI 1) (lv' := [(0, .ref x0), (1, .int x1), (2, .int (x2 + nI 1))]) (by decide +kernel) rfl rfl (by decide) rfl rfl ?_
            refine ab_goto (pc := 45) (off := (-36)) (tgt := 9) (by decide +kernel) (by decide) ?_
            exact ih x1 (x2 + nI 1)
    · refine ab_iload_n (pc := 48) (n := 1) (i := 1) (j := 1) (by decide +kernel) rfl rfl ?_
      exact ab_iret (pc := 49) (by decide +kernel) rfl rfl (Nat.zero_le _) (Nat.zero_le _)
set_option maxRecDepth 100000 in
set_option maxHeartbeats 4000000 in
theorem wX12_marks {l : Launch} (hl : l.stackTraces = false) (F : Nat) (x0 : Nat) (h : ab_H) : ab_S l mX12_marks (fun y : (Int32 × ab_H) => ((.inl (some (.int y.1)), y.2) : ab_R × ab_H)) 0 0 (fX12_marks F x0 h) 0 [(0, .ref x0)] [] h := by
  unfold fX12_marks
  refine ab_aload_n (pc := 0) (n := 0) (i := 0) (j := 0) (by decide +kernel) rfl rfl ?_
  refine ab_iconst (pc := 1) (n := 0) (v := nI 0) (by decide +kernel) rfl ?_
  refine ab_put (pc := 2) fl_X12_50_12 rfl (fun _ => rfl) (fun _ => rfl) (by decide +kernel) (fun h1 eh1 => ?_)
  refine ab_iconst (pc := 5) (n := -1) (v := (-1 : Int32)) (by decide +kernel) rfl ?_
  refine ab_istore_n (pc := 6) (n := 1) (i := 1) (lv' := [(0, .ref x0), (1, .int (-1 : Int32))]) (by decide +kernel) rfl (by decide) rfl rfl ?_
  refine ab_iconst (pc := 7) (n := 0) (v := nI 0) (by decide +kernel) rfl ?_
  refine ab_istore_n (pc := 8) (n := 2) (i := 2) (lv' := [(0, .ref x0), (1, .int (-1 : Int32)), (2, .int (nI 0))]) (by decide +kernel) rfl (by decide) rfl rfl ?_
  refine lX12_marks_9 hl F x0 h1 F (-1 : Int32) (nI 0)
set_option maxRecDepth 100000 in
set_option maxHeartbeats 4000000 in
theorem okX12_marks {l : Launch} (hl : l.stackTraces = false) {F : Nat} {x0 : Nat} {h : ab_H} {y : (Int32 × ab_H)} (e : fX12_marks F x0 h = some y) : ab_Met l mX12_marks [.ref x0] h (.inl (some (.int y.1)), y.2) := ab_ofS (io := (fun y : (Int32 × ab_H) => ((.inl (some (.int y.1)), y.2) : ab_R × ab_H))) (x := y) hl (by decide) rfl (Nat.le_of_ble_eq_true rfl) (wX12_marks hl F x0 h) e
def mX12_unknown : ab_M := (yX12_unknown, cX12_unknown, 4, (some .int), { frames := 1, cells := 0, slots := 0, locals := 22 })
theorem iX12_unknown : ab_MI mX12_unknown 0 := ⟨kw_02cdb523a9, kw_30b3f7d7c6, by decide +kernel⟩
def fX12_unknown_21 (F : Nat) (x0 : Nat) (x2 : Int32) (h : ab_H) (k67 : Int32 → Option (Int32 × ab_H)) : Nat → Int32 → Int32 → Option (Int32 × ab_H)
  | 0, _, _ => none
  | n + 1, x1, x3 => ab_bd (ab_fr h x0 12 1) fun v5 => ab_bd (ab_ia 0 h v5 (nI 3)) fun v6 => (if x3 < v6 then (if x3 = x2 then fX12_unknown_21 F x0 x2 h k67 n (x1 ||| (nI 0)) (x3 + nI 1) else ab_ck (ab_io h x0 12 = true) (ab_bd (fX12_of x0 x3 (nI 1) h) fun v9 => ab_ck (ab_io h x0 12 = true) (ab_bd (fX12_of x0 x2 (nI 1) h) fun v10 => (if v9 = v10 then fX12_unknown_21 F x0 x2 h k67 n (x1 ||| ((nI 1) <<< (x2 &&& 31))) (x3 + nI 1) else fX12_unknown_21 F x0 x2 h k67 n (x1 ||| (nI 0)) (x3 + nI 1))))) else k67 x1)
def fX12_unknown_9 (F : Nat) (x0 : Nat) (h : ab_H) : Nat → Int32 → Int32 → Option (Int32 × ab_H)
  | 0, _, _ => none
  | n + 1, x1, x2 => ab_bd (ab_fr h x0 12 1) fun v2 => ab_bd (ab_ia 0 h v2 (nI 3)) fun v3 => (if x2 < v3 then fX12_unknown_21 F x0 x2 h (fun (z12 : Int32) => fX12_unknown_9 F x0 h n z12 (x2 + nI 1)) F x1 (nI 0) else some (x1, h))
def fX12_unknown (F : Nat) (x0 : Nat) (h : ab_H) : Option (Int32 × ab_H) := ab_bd (ab_fw h x0 12 0 (.int (nI 0))) fun h1 => fX12_unknown_9 F x0 h1 F (nI 0) (nI 0)
set_option maxRecDepth 100000 in
set_option maxHeartbeats 4000000 in
theorem lX12_unknown_21 {l : Launch} (hl : l.stackTraces = false) (F : Nat) (x0 : Nat) (x2 : Int32) (h : ab_H) {k67 : Int32 → Option (Int32 × ab_H)} (hk67 : ∀ (x1 : Int32), ab_S l mX12_unknown (fun y : (Int32 × ab_H) => ((.inl (some (.int y.1)), y.2) : ab_R × ab_H)) 0 0 (k67 x1) 67 [(0, .ref x0), (1, .int x1), (2, .int x2)] [] h) : ∀ (n : Nat) (x1 : Int32) (x3 : Int32), ab_S l mX12_unknown (fun y : (Int32 × ab_H) => ((.inl (some (.int y.1)), y.2) : ab_R × ab_H)) 0 0 (fX12_unknown_21 F x0 x2 h k67 n x1 x3) 21 [(0, .ref x0), (1, .int x1), (2, .int x2), (3, .int x3)] [] h := by
  intro n
  induction n with
  | zero =>
    intro x1 x3
    exact ab_none
  | succ n ih =>
    intro x1 x3
    rw [fX12_unknown_21]
    refine ab_iload_n (pc := 21) (n := 3) (i := 3) (j := 3) (by decide +kernel) rfl rfl ?_
    refine ab_aload_n (pc := 22) (n := 0) (i := 0) (j := 0) (by decide +kernel) rfl rfl ?_
    refine ab_getR (pc := 23) fl_X12_7_12 (by decide +kernel) (fun v5 ev5 => ?_)
    refine ab_iconst (pc := 26) (n := 3) (v := nI 3) (by decide +kernel) rfl ?_
    refine ab_iald (pc := 27) (by decide +kernel) (fun v6 ev6 => ?_)
    refine ab_icmp_ge (off := 39) (pc := 28) (tgt := 67) (by decide +kernel) (by decide) (fun g7 => ?_) (fun g7 => ?_)
    · refine ab_iload_n (pc := 31) (n := 1) (i := 1) (j := 1) (by decide +kernel) rfl rfl ?_
      refine ab_iload_n (pc := 32) (n := 3) (i := 3) (j := 3) (by decide +kernel) rfl rfl ?_
      refine ab_iload_n (pc := 33) (n := 2) (i := 2) (j := 2) (by decide +kernel) rfl rfl ?_
      refine ab_icmp_eq (off := 24) (pc := 34) (tgt := 58) (by decide +kernel) (by decide) (fun g8 => ?_) (fun g8 => ?_)
      · refine ab_iconst (pc := 58) (n := 0) (v := nI 0) (by decide +kernel) rfl ?_
        refine ab_ior (pc := 59) (by decide +kernel) ?_
        refine ab_istore_n (pc := 60) (n := 1) (i := 1) (lv' := [(0, .ref x0), (1, .int (x1 ||| (nI 0))), (2, .int x2), (3, .int x3)]) (by decide +kernel) rfl (by decide) rfl rfl ?_
        refine ab_iinc (pc := 61) (i := 3) (n := 1) (j := 3) (d := nI 1) (lv' := [(0, .ref x0), (1, .int (x1 ||| (nI 0))), (2, .int x2), (3, .int (x3 + nI 1))]) (by decide +kernel) rfl rfl (by decide) rfl rfl ?_
        refine ab_goto (pc := 64) (off := (-43)) (tgt := 21) (by decide +kernel) (by decide) ?_
        exact ih (x1 ||| (nI 0)) (x3 + nI 1)
      · refine ab_aload_n (pc := 37) (n := 0) (i := 0) (j := 0) (by decide +kernel) rfl rfl ?_
        refine ab_iload_n (pc := 38) (n := 3) (i := 3) (j := 3) (by decide +kernel) rfl rfl ?_
        refine ab_iconst (pc := 39) (n := 1) (v := nI 1) (by decide +kernel) rfl ?_
        refine ab_callVi (As := [.int x3, .int (nI 1)]) (st := [.int x1]) (pc := 40) lk_X12_57_12 rfl rfl rfl (by decide) (by decide) (Nat.le_of_ble_eq_true rfl) (by decide +kernel) (fun y9 e9 => okX12_of hl e9) (fun v9 ev9 => ?_)
        refine ab_aload_n (pc := 43) (n := 0) (i := 0) (j := 0) (by decide +kernel) rfl rfl ?_
        refine ab_iload_n (pc := 44) (n := 2) (i := 2) (j := 2) (by decide +kernel) rfl rfl ?_
        refine ab_iconst (pc := 45) (n := 1) (v := nI 1) (by decide +kernel) rfl ?_
        refine ab_callVi (As := [.int x2, .int (nI 1)]) (st := [.int v9, .int x1]) (pc := 46) lk_X12_57_12 rfl rfl rfl (by decide) (by decide) (Nat.le_of_ble_eq_true rfl) (by decide +kernel) (fun y9 e9 => okX12_of hl e9) (fun v10 ev10 => ?_)
        refine ab_icmp_ne (off := 9) (pc := 49) (tgt := 58) (by decide +kernel) (by decide) (fun g11 => ?_) (fun g11 => ?_)
        · refine ab_iconst (pc := 52) (n := 1) (v := nI 1) (by decide +kernel) rfl ?_
          refine ab_iload_n (pc := 53) (n := 2) (i := 2) (j := 2) (by decide +kernel) rfl rfl ?_
          refine ab_ishl (pc := 54) (by decide +kernel) ?_
          refine ab_goto (pc := 55) (off := 4) (tgt := 59) (by decide +kernel) (by decide) ?_
          refine ab_ior (pc := 59) (by decide +kernel) ?_
          refine ab_istore_n (pc := 60) (n := 1) (i := 1) (lv' := [(0, .ref x0), (1, .int (x1 ||| ((nI 1) <<< (x2 &&& 31)))), (2, .int x2), (3, .int x3)]) (by decide +kernel) rfl (by decide) rfl rfl ?_
          refine ab_iinc (pc := 61) (i := 3) (n := 1) (j := 3) (d := nI 1) (lv' := [(0, .ref x0), (1, .int (x1 ||| ((nI 1) <<< (x2 &&& 31)))), (2, .int x2), (3, .int (x3 + nI 1))]) (by decide +kernel) rfl rfl (by decide) rfl rfl ?_
          refine ab_goto (pc := 64) (off := (-43)) (tgt := 21) (by decide +kernel) (by decide) ?_
          exact ih (x1 ||| ((nI 1) <<< (x2 &&& 31))) (x3 + nI 1)
        · refine ab_iconst (pc := 58) (n := 0) (v := nI 0) (by decide +kernel) rfl ?_
          refine ab_ior (pc := 59) (by decide +kernel) ?_
          refine ab_istore_n (pc := 60) (n := 1) (i := 1) (lv' := [(0, .ref x0), (1, .int (x1 ||| (nI 0))), (2, .int x2), (3, .int x3)]) (by decide +kernel) rfl (by decide) rfl rfl ?_
          refine ab_iinc (pc := 61) (i := 3) (n := 1) (j := 3) (d := nI 1) (lv' := [(0, .ref x0), (1, .int (x1 ||| (nI 0))), (2, .int x2), (3, .int (x3 + nI 1))]) (by decide +kernel) rfl rfl (by decide) rfl rfl ?_
          refine ab_goto (pc := 64) (off := (-43)) (tgt := 21) (by decide +kernel) (by decide) ?_
          exact ih (x1 ||| (nI 0)) (x3 + nI 1)
    · refine ab_few [0, 1, 2] (lv' := [(0, .ref x0), (1, .int x1), (2, .int x2)]) rfl ?_
      exact hk67 x1
set_option maxRecDepth 100000 in
set_option maxHeartbeats 4000000 in
theorem lX12_unknown_9 {l : Launch} (hl : l.stackTraces = false) (F : Nat) (x0 : Nat) (h : ab_H) : ∀ (n : Nat) (x1 : Int32) (x2 : Int32), ab_S l mX12_unknown (fun y : (Int32 × ab_H) => ((.inl (some (.int y.1)), y.2) : ab_R × ab_H)) 0 0 (fX12_unknown_9 F x0 h n x1 x2) 9 [(0, .ref x0), (1, .int x1), (2, .int x2)] [] h := by
  intro n
  induction n with
  | zero =>
    intro x1 x2
    exact ab_none
  | succ n ih =>
    intro x1 x2
    rw [fX12_unknown_9]
    refine ab_iload_n (pc := 9) (n := 2) (i := 2) (j := 2) (by decide +kernel) rfl rfl ?_
    refine ab_aload_n (pc := 10) (n := 0) (i := 0) (j := 0) (by decide +kernel) rfl rfl ?_
    refine ab_getR (pc := 11) fl_X12_7_12 (by decide +kernel) (fun v2 ev2 => ?_)
    refine ab_iconst (pc := 14) (n := 3) (v := nI 3) (by decide +kernel) rfl ?_
    refine ab_iald (pc := 15) (by decide +kernel) (fun v3 ev3 => ?_)
    refine ab_icmp_ge (off := 57) (pc := 16) (tgt := 73) (by decide +kernel) (by decide) (fun g4 => ?_) (fun g4 => ?_)
    · refine ab_iconst (pc := 19) (n := 0) (v := nI 0) (by decide +kernel) rfl ?_
      refine ab_istore_n (pc := 20) (n := 3) (i := 3) (lv' := [(0, .ref x0), (1, .int x1), (2, .int x2), (3, .int (nI 0))]) (by decide +kernel) rfl (by decide) rfl rfl ?_
      refine lX12_unknown_21 hl F x0 x2 h ?_ F x1 (nI 0)
      intro z12
      refine ab_iinc (pc := 67) (i := 2) (n := 1) (j := 2) (d := nI 1) (lv' := [(0, .ref x0), (1, .int z12), (2, .int (x2 + nI 1))]) (by decide +kernel) rfl rfl (by decide) rfl rfl ?_
      refine ab_goto (pc := 70) (off := (-61)) (tgt := 9) (by decide +kernel) (by decide) ?_
      exact ih z12 (x2 + nI 1)
    · refine ab_iload_n (pc := 73) (n := 1) (i := 1) (j := 1) (by decide +kernel) rfl rfl ?_
      exact ab_iret (pc := 74) (by decide +kernel) rfl rfl (Nat.zero_le _) (Nat.zero_le _)
set_option maxRecDepth 100000 in
set_option maxHeartbeats 4000000 in
theorem wX12_unknown {l : Launch} (hl : l.stackTraces = false) (F : Nat) (x0 : Nat) (h : ab_H) : ab_S l mX12_unknown (fun y : (Int32 × ab_H) => ((.inl (some (.int y.1)), y.2) : ab_R × ab_H)) 0 0 (fX12_unknown F x0 h) 0 [(0, .ref x0)] [] h := by
  unfold fX12_unknown
  refine ab_aload_n (pc := 0) (n := 0) (i := 0) (j := 0) (by decide +kernel) rfl rfl ?_
  refine ab_iconst (pc := 1) (n := 0) (v := nI 0) (by decide +kernel) rfl ?_
  refine ab_put (pc := 2) fl_X12_50_12 rfl (fun _ => rfl) (fun _ => rfl) (by decide +kernel) (fun h1 eh1 => ?_)
  refine ab_iconst (pc := 5) (n := 0) (v := nI 0) (by decide +kernel) rfl ?_
  refine ab_istore_n (pc := 6) (n := 1) (i := 1) (lv' := [(0, .ref x0), (1, .int (nI 0))]) (by decide +kernel) rfl (by decide) rfl rfl ?_
  refine ab_iconst (pc := 7) (n := 0) (v := nI 0) (by decide +kernel) rfl ?_
  refine ab_istore_n (pc := 8) (n := 2) (i := 2) (lv' := [(0, .ref x0), (1, .int (nI 0)), (2, .int (nI 0))]) (by decide +kernel) rfl (by decide) rfl rfl ?_
  refine lX12_unknown_9 hl F x0 h1 F (nI 0) (nI 0)
set_option maxRecDepth 100000 in
set_option maxHeartbeats 4000000 in
theorem okX12_unknown {l : Launch} (hl : l.stackTraces = false) {F : Nat} {x0 : Nat} {h : ab_H} {y : (Int32 × ab_H)} (e : fX12_unknown F x0 h = some y) : ab_Met l mX12_unknown [.ref x0] h (.inl (some (.int y.1)), y.2) := ab_ofS (io := (fun y : (Int32 × ab_H) => ((.inl (some (.int y.1)), y.2) : ab_R × ab_H))) (x := y) hl (by decide) rfl (Nat.le_of_ble_eq_true rfl) (wX12_unknown hl F x0 h) e
def mX12_passes : ab_M := (yX12_passes, cX12_passes, 5, (some .int), { frames := 1, cells := 0, slots := 0, locals := 22 })
theorem iX12_passes : ab_MI mX12_passes 2 := ⟨kw_f1171cc758, kw_30b3f7d7c6, by decide +kernel⟩
def fX12_passes_44 (F : Nat) (x0 : Nat) (x1 : Int32) (x2 : Int32) (h : ab_H) : Nat → Int32 → Int32 → Option (Int32 × ab_H)
  | 0, _, _ => none
  | n + 1, x3, x4 => ab_bd (ab_fr h x0 12 1) fun v6 => ab_bd (ab_ia 0 h v6 (nI 3)) fun v7 => (if x4 < v7 then ab_ck (ab_io h x0 12 = true) (ab_bd (fX12_of x0 x4 (nI 0) h) fun v9 => ab_bd (fX12_bits F (v9 ^^^ x1) h) fun v10 => (if v10 ≤ x2 then fX12_passes_44 F x0 x1 x2 h n (x3 ||| ((nI 1) <<< (x4 &&& 31))) (x4 + nI 1) else fX12_passes_44 F x0 x1 x2 h n (x3 ||| (nI 0)) (x4 + nI 1))) else some (x3, h))
def fX12_passes (F : Nat) (x0 : Nat) (x1 : Int32) (x2 : Int32) (h : ab_H) : Option (Int32 × ab_H) := ab_bd (fX12_isIn x1 (nI 0) (nI 255) h) fun v1 => ab_jn (κ := Int32 → Option (Int32 × ab_H)) (fun (z2 : Int32) => ab_bd (ab_fw h x0 12 0 (.int z2)) fun h3 => ab_bd (ab_fi h3 x0 12 0) fun v4 => (if v4 ≤ 0 then fX12_passes_44 F x0 x1 x2 h3 F (nI 0) (nI 0) else some (nI 0, h3))) fun j12 => ab_jn (κ := Option (Int32 × ab_H)) (j12 (nI 1)) fun j13 => (if v1 = 0 then j13 else ab_bd (fX12_isIn x2 (nI 0) (nI 8) h) fun v15 => (if v15 = 0 then j13 else j12 (nI 0)))
set_option maxRecDepth 100000 in
set_option maxHeartbeats 4000000 in
theorem lX12_passes_44 {l : Launch} (hl : l.stackTraces = false) (F : Nat) (x0 : Nat) (x1 : Int32) (x2 : Int32) (h : ab_H) : ∀ (n : Nat) (x3 : Int32) (x4 : Int32), ab_S l mX12_passes (fun y : (Int32 × ab_H) => ((.inl (some (.int y.1)), y.2) : ab_R × ab_H)) 0 0 (fX12_passes_44 F x0 x1 x2 h n x3 x4) 44 [(0, .ref x0), (1, .int x1), (2, .int x2), (3, .int x3), (4, .int x4)] [] h := by
  intro n
  induction n with
  | zero =>
    intro x3 x4
    exact ab_none
  | succ n ih =>
    intro x3 x4
    rw [fX12_passes_44]
    refine ab_iload (pc := 44) (i := 4) (j := 4) (by decide +kernel) rfl ?_
    refine ab_aload_n (pc := 46) (n := 0) (i := 0) (j := 0) (by decide +kernel) rfl rfl ?_
    refine ab_getR (pc := 47) fl_X12_7_12 (by decide +kernel) (fun v6 ev6 => ?_)
    refine ab_iconst (pc := 50) (n := 3) (v := nI 3) (by decide +kernel) rfl ?_
    refine ab_iald (pc := 51) (by decide +kernel) (fun v7 ev7 => ?_)
    refine ab_icmp_ge (off := 36) (pc := 52) (tgt := 88) (by decide +kernel) (by decide) (fun g8 => ?_) (fun g8 => ?_)
    · refine ab_iload_n (pc := 55) (n := 3) (i := 3) (j := 3) (by decide +kernel) rfl rfl ?_
      refine ab_aload_n (pc := 56) (n := 0) (i := 0) (j := 0) (by decide +kernel) rfl rfl ?_
      refine ab_iload (pc := 57) (i := 4) (j := 4) (by decide +kernel) rfl ?_
      refine ab_iconst (pc := 59) (n := 0) (v := nI 0) (by decide +kernel) rfl ?_
      refine ab_callVi (As := [.int x4, .int (nI 0)]) (st := [.int x3]) (pc := 60) lk_X12_57_12 rfl rfl rfl (by decide) (by decide) (Nat.le_of_ble_eq_true rfl) (by decide +kernel) (fun y9 e9 => okX12_of hl e9) (fun v9 ev9 => ?_)
      refine ab_iload_n (pc := 63) (n := 1) (i := 1) (j := 1) (by decide +kernel) rfl rfl ?_
      refine ab_ixor (pc := 64) (by decide +kernel) ?_
      refine ab_callSi (As := [.int (v9 ^^^ x1)]) (st := [.int x3]) (pc := 65) lk_X12_242 rfl rfl rfl (by decide) (by decide) (Nat.le_of_ble_eq_true rfl) (by decide +kernel) (fun y9 e9 => okX12_bits hl (F := F) e9) (fun v10 ev10 => ?_)
      refine ab_iload_n (pc := 68) (n := 2) (i := 2) (j := 2) (by decide +kernel) rfl rfl ?_
      refine ab_icmp_gt (off := 10) (pc := 69) (tgt := 79) (by decide +kernel) (by decide) (fun g11 => ?_) (fun g11 => ?_)
      · refine ab_iconst (pc := 72) (n := 1) (v := nI 1) (by decide +kernel) rfl ?_
        refine ab_iload (pc := 73) (i := 4) (j := 4) (by decide +kernel) rfl ?_
        refine ab_ishl (pc := 75) (by decide +kernel) ?_
        refine ab_goto (pc := 76) (off := 4) (tgt := 80) (by decide +kernel) (by decide) ?_
        refine ab_ior (pc := 80) (by decide +kernel) ?_
        refine ab_istore_n (pc := 81) (n := 3) (i := 3) (lv' := [(0, .ref x0), (1, .int x1), (2, .int x2), (3, .int (x3 ||| ((nI 1) <<< (x4 &&& 31)))), (4, .int x4)]) (by decide +kernel) rfl (by decide) rfl rfl ?_
        refine ab_iinc (pc := 82) (i := 4) (n := 1) (j := 4) (d := nI 1) (lv' := [(0, .ref x0), (1, .int x1), (2, .int x2), (3, .int (x3 ||| ((nI 1) <<< (x4 &&& 31)))), (4, .int (x4 + nI 1))]) (by decide +kernel) rfl rfl (by decide) rfl rfl ?_
        refine ab_goto (pc := 85) (off := (-41)) (tgt := 44) (by decide +kernel) (by decide) ?_
        exact ih (x3 ||| ((nI 1) <<< (x4 &&& 31))) (x4 + nI 1)
      · refine ab_iconst (pc := 79) (n := 0) (v := nI 0) (by decide +kernel) rfl ?_
        refine ab_ior (pc := 80) (by decide +kernel) ?_
        refine ab_istore_n (pc := 81) (n := 3) (i := 3) (lv' := [(0, .ref x0), (1, .int x1), (2, .int x2), (3, .int (x3 ||| (nI 0))), (4, .int x4)]) (by decide +kernel) rfl (by decide) rfl rfl ?_
        refine ab_iinc (pc := 82) (i := 4) (n := 1) (j := 4) (d := nI 1) (lv' := [(0, .ref x0), (1, .int x1), (2, .int x2), (3, .int (x3 ||| (nI 0))), (4, .int (x4 + nI 1))]) (by decide +kernel) rfl rfl (by decide) rfl rfl ?_
        refine ab_goto (pc := 85) (off := (-41)) (tgt := 44) (by decide +kernel) (by decide) ?_
        exact ih (x3 ||| (nI 0)) (x4 + nI 1)
    · refine ab_iload_n (pc := 88) (n := 3) (i := 3) (j := 3) (by decide +kernel) rfl rfl ?_
      exact ab_iret (pc := 89) (by decide +kernel) rfl rfl (Nat.zero_le _) (Nat.zero_le _)
set_option maxRecDepth 100000 in
set_option maxHeartbeats 4000000 in
theorem wX12_passes {l : Launch} (hl : l.stackTraces = false) (F : Nat) (x0 : Nat) (x1 : Int32) (x2 : Int32) (h : ab_H) : ab_S l mX12_passes (fun y : (Int32 × ab_H) => ((.inl (some (.int y.1)), y.2) : ab_R × ab_H)) 0 0 (fX12_passes F x0 x1 x2 h) 0 [(0, .ref x0), (1, .int x1), (2, .int x2)] [] h := by
  unfold fX12_passes
  refine ab_aload_n (pc := 0) (n := 0) (i := 0) (j := 0) (by decide +kernel) rfl rfl ?_
  refine ab_iload_n (pc := 1) (n := 1) (i := 1) (j := 1) (by decide +kernel) rfl rfl ?_
  refine ab_iconst (pc := 2) (n := 0) (v := nI 0) (by decide +kernel) rfl ?_
  refine ab_sipush (pc := 3) (n := 255) (v := nI 255) (by decide +kernel) (by decide) ?_
  refine ab_callSi (As := [.int x1, .int (nI 0), .int (nI 255)]) (st := [.ref x0]) (pc := 6) lk_X12_53 rfl rfl rfl (by decide) (by decide) (Nat.le_of_ble_eq_true rfl) (by decide +kernel) (fun y9 e9 => okX12_isIn hl e9) (fun v1 ev1 => ?_)
  refine ab_jr (fun k9 : Int32 → Option (Int32 × ab_H) => ∀ (z2 : Int32), ab_S l mX12_passes (fun y : (Int32 × ab_H) => ((.inl (some (.int y.1)), y.2) : ab_R × ab_H)) 0 0 (k9 z2) 27 [(0, .ref x0), (1, .int x1), (2, .int x2)] [.int z2, .ref x0] h) ?_ (fun j12 hj12 => ?_)
  · intro z2
    refine ab_put (pc := 27) fl_X12_50_12 rfl (fun _ => rfl) (fun _ => rfl) (by decide +kernel) (fun h3 eh3 => ?_)
    refine ab_aload_n (pc := 30) (n := 0) (i := 0) (j := 0) (by decide +kernel) rfl rfl ?_
    refine ab_getI (pc := 31) fl_X12_50_12 (by decide +kernel) (fun v4 ev4 => ?_)
    refine ab_if_le (off := 5) (pc := 34) (tgt := 39) (by decide +kernel) (by decide) (fun g5 => ?_) (fun g5 => ?_)
    · refine ab_iconst (pc := 39) (n := 0) (v := nI 0) (by decide +kernel) rfl ?_
      refine ab_istore_n (pc := 40) (n := 3) (i := 3) (lv' := [(0, .ref x0), (1, .int x1), (2, .int x2), (3, .int (nI 0))]) (by decide +kernel) rfl (by decide) rfl rfl ?_
      refine ab_iconst (pc := 41) (n := 0) (v := nI 0) (by decide +kernel) rfl ?_
      refine ab_istore (pc := 42) (i := 4) (lv' := [(0, .ref x0), (1, .int x1), (2, .int x2), (3, .int (nI 0)), (4, .int (nI 0))]) (by decide +kernel) (by decide) rfl rfl ?_
      refine lX12_passes_44 hl F x0 x1 x2 h3 F (nI 0) (nI 0)
    · refine ab_iconst (pc := 37) (n := 0) (v := nI 0) (by decide +kernel) rfl ?_
      exact ab_iret (pc := 38) (by decide +kernel) rfl rfl (Nat.zero_le _) (Nat.zero_le _)
  · refine ab_jr (fun k9 : Option (Int32 × ab_H) => ab_S l mX12_passes (fun y : (Int32 × ab_H) => ((.inl (some (.int y.1)), y.2) : ab_R × ab_H)) 0 0 (k9) 22 [(0, .ref x0), (1, .int x1), (2, .int x2)] [.ref x0] h) ?_ (fun j13 hj13 => ?_)
    · refine ab_iconst (pc := 22) (n := 1) (v := nI 1) (by decide +kernel) rfl ?_
      refine ab_goto (pc := 23) (off := 4) (tgt := 27) (by decide +kernel) (by decide) ?_
      exact hj12 (nI 1)
    · refine ab_if_eq (off := 13) (pc := 9) (tgt := 22) (by decide +kernel) (by decide) (fun g14 => ?_) (fun g14 => ?_)
      · exact hj13
      · refine ab_iload_n (pc := 12) (n := 2) (i := 2) (j := 2) (by decide +kernel) rfl rfl ?_
        refine ab_iconst (pc := 13) (n := 0) (v := nI 0) (by decide +kernel) rfl ?_
        refine ab_bipush (pc := 14) (n := 8) (v := nI 8) (by decide +kernel) (by decide) ?_
        refine ab_callSi (As := [.int x2, .int (nI 0), .int (nI 8)]) (st := [.ref x0]) (pc := 16) lk_X12_53 rfl rfl rfl (by decide) (by decide) (Nat.le_of_ble_eq_true rfl) (by decide +kernel) (fun y9 e9 => okX12_isIn hl e9) (fun v15 ev15 => ?_)
        refine ab_if_ne (off := 7) (pc := 19) (tgt := 26) (by decide +kernel) (by decide) (fun g16 => ?_) (fun g16 => ?_)
        · exact hj13
        · refine ab_iconst (pc := 26) (n := 0) (v := nI 0) (by decide +kernel) rfl ?_
          exact hj12 (nI 0)
set_option maxRecDepth 100000 in
set_option maxHeartbeats 4000000 in
theorem okX12_passes {l : Launch} (hl : l.stackTraces = false) {F : Nat} {x0 : Nat} {x1 : Int32} {x2 : Int32} {h : ab_H} {y : (Int32 × ab_H)} (e : fX12_passes F x0 x1 x2 h = some y) : ab_Met l mX12_passes [.ref x0, .int x1, .int x2] h (.inl (some (.int y.1)), y.2) := ab_ofS (io := (fun y : (Int32 × ab_H) => ((.inl (some (.int y.1)), y.2) : ab_R × ab_H))) (x := y) hl (by decide) rfl (Nat.le_of_ble_eq_true rfl) (wX12_passes hl F x0 x1 x2 h) e
