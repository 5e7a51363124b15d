/-! ===== class (by program, decomp.py) ===== -/
def mJ6_bitCount_0f7a4 : ab_M := (yJ6_bitCount_0f7a4, cJ6_bitCount_0f7a4, 1, (some .int), { frames := 0, cells := 0, slots := 0, locals := 0 })
theorem iJ6_bitCount_0f7a4 : ab_MI mJ6_bitCount_0f7a4 1 := ⟨kw_b600e86590, kw_8b11e55748, by decide +kernel⟩
def fJ6_bitCount_0f7a4 (x0 : Int32) (h : ab_H) : Option Int32 := some ((((((((x0 - ((ab_us x0 (nI 1)) &&& (nI 1431655765))) &&& (nI 858993459)) + ((ab_us (x0 - ((ab_us x0 (nI 1)) &&& (nI 1431655765))) (nI 2)) &&& (nI 858993459))) + (ab_us (((x0 - ((ab_us x0 (nI 1)) &&& (nI 1431655765))) &&& (nI 858993459)) + ((ab_us (x0 - ((ab_us x0 (nI 1)) &&& (nI 1431655765))) (nI 2)) &&& (nI 858993459))) (nI 4))) &&& (nI 252645135)) + (ab_us (((((x0 - ((ab_us x0 (nI 1)) &&& (nI 1431655765))) &&& (nI 858993459)) + ((ab_us (x0 - ((ab_us x0 (nI 1)) &&& (nI 1431655765))) (nI 2)) &&& (nI 858993459))) + (ab_us (((x0 - ((ab_us x0 (nI 1)) &&& (nI 1431655765))) &&& (nI 858993459)) + ((ab_us (x0 - ((ab_us x0 (nI 1)) &&& (nI 1431655765))) (nI 2)) &&& (nI 858993459))) (nI 4))) &&& (nI 252645135)) (nI 8))) + (ab_us ((((((x0 - ((ab_us x0 (nI 1)) &&& (nI 1431655765))) &&& (nI 858993459)) + ((ab_us (x0 - ((ab_us x0 (nI 1)) &&& (nI 1431655765))) (nI 2)) &&& (nI 858993459))) + (ab_us (((x0 - ((ab_us x0 (nI 1)) &&& (nI 1431655765))) &&& (nI 858993459)) + ((ab_us (x0 - ((ab_us x0 (nI 1)) &&& (nI 1431655765))) (nI 2)) &&& (nI 858993459))) (nI 4))) &&& (nI 252645135)) + (ab_us (((((x0 - ((ab_us x0 (nI 1)) &&& (nI 1431655765))) &&& (nI 858993459)) + ((ab_us (x0 - ((ab_us x0 (nI 1)) &&& (nI 1431655765))) (nI 2)) &&& (nI 858993459))) + (ab_us (((x0 - ((ab_us x0 (nI 1)) &&& (nI 1431655765))) &&& (nI 858993459)) + ((ab_us (x0 - ((ab_us x0 (nI 1)) &&& (nI 1431655765))) (nI 2)) &&& (nI 858993459))) (nI 4))) &&& (nI 252645135)) (nI 8))) (nI 16))) &&& (nI 63))
set_option maxRecDepth 100000 in
set_option maxHeartbeats 4000000 in
theorem wJ6_bitCount_0f7a4 {l : Launch} (hl : l.stackTraces = false) (x0 : Int32) (h : ab_H) : ab_S l mJ6_bitCount_0f7a4 (fun y : Int32 => ((.inl (some (.int y)), h) : ab_R × ab_H)) 0 0 (fJ6_bitCount_0f7a4 x0 h) 0 [(0, .int x0)] [] h := by
  unfold fJ6_bitCount_0f7a4
  refine ab_iload_n (pc := 0) (n := 0) (i := 0) (j := 0) (by decide +kernel) rfl rfl ?_
  refine ab_iload_n (pc := 1) (n := 0) (i := 0) (j := 0) (by decide +kernel) rfl rfl ?_
  refine ab_iconst (pc := 2) (n := 1) (v := nI 1) (by decide +kernel) rfl ?_
  refine ab_iushr (pc := 3) (by decide +kernel) ?_
  refine ab_ldcw (pc := 4) (v := nI 1431655765) (by decide +kernel) kw_ec7718c27a ?_
  refine ab_iand (pc := 7) (by decide +kernel) ?_
  refine ab_isub (pc := 8) (by decide +kernel) ?_
  refine ab_istore_n (pc := 9) (n := 0) (i := 0) (lv' := [(0, .int (x0 - ((ab_us x0 (nI 1)) &&& (nI 1431655765))))]) (by decide +kernel) rfl (Nat.le_of_ble_eq_true rfl) rfl rfl ?_
  refine ab_iload_n (pc := 10) (n := 0) (i := 0) (j := 0) (by decide +kernel) rfl rfl ?_
  refine ab_ldcw (pc := 11) (v := nI 858993459) (by decide +kernel) kw_c724338b0f ?_
  refine ab_iand (pc := 14) (by decide +kernel) ?_
  refine ab_iload_n (pc := 15) (n := 0) (i := 0) (j := 0) (by decide +kernel) rfl rfl ?_
  refine ab_iconst (pc := 16) (n := 2) (v := nI 2) (by decide +kernel) rfl ?_
  refine ab_iushr (pc := 17) (by decide +kernel) ?_
  refine ab_ldcw (pc := 18) (v := nI 858993459) (by decide +kernel) kw_c724338b0f ?_
  refine ab_iand (pc := 21) (by decide +kernel) ?_
  refine ab_iadd (pc := 22) (by decide +kernel) ?_
  refine ab_istore_n (pc := 23) (n := 0) (i := 0) (lv' := [(0, .int (((x0 - ((ab_us x0 (nI 1)) &&& (nI 1431655765))) &&& (nI 858993459)) + ((ab_us (x0 - ((ab_us x0 (nI 1)) &&& (nI 1431655765))) (nI 2)) &&& (nI 858993459))))]) (by decide +kernel) rfl (Nat.le_of_ble_eq_true rfl) rfl rfl ?_
  refine ab_iload_n (pc := 24) (n := 0) (i := 0) (j := 0) (by decide +kernel) rfl rfl ?_
  refine ab_iload_n (pc := 25) (n := 0) (i := 0) (j := 0) (by decide +kernel) rfl rfl ?_
  refine ab_iconst (pc := 26) (n := 4) (v := nI 4) (by decide +kernel) rfl ?_
  refine ab_iushr (pc := 27) (by decide +kernel) ?_
  refine ab_iadd (pc := 28) (by decide +kernel) ?_
  refine ab_ldcw (pc := 29) (v := nI 252645135) (by decide +kernel) kw_44a5bdf80b ?_
  refine ab_iand (pc := 32) (by decide +kernel) ?_
  refine ab_istore_n (pc := 33) (n := 0) (i := 0) (lv' := [(0, .int (((((x0 - ((ab_us x0 (nI 1)) &&& (nI 1431655765))) &&& (nI 858993459)) + ((ab_us (x0 - ((ab_us x0 (nI 1)) &&& (nI 1431655765))) (nI 2)) &&& (nI 858993459))) + (ab_us (((x0 - ((ab_us x0 (nI 1)) &&& (nI 1431655765))) &&& (nI 858993459)) + ((ab_us (x0 - ((ab_us x0 (nI 1)) &&& (nI 1431655765))) (nI 2)) &&& (nI 858993459))) (nI 4))) &&& (nI 252645135)))]) (by decide +kernel) rfl (Nat.le_of_ble_eq_true rfl) rfl rfl ?_
  refine ab_iload_n (pc := 34) (n := 0) (i := 0) (j := 0) (by decide +kernel) rfl rfl ?_
  refine ab_iload_n (pc := 35) (n := 0) (i := 0) (j := 0) (by decide +kernel) rfl rfl ?_
  refine ab_bipush (pc := 36) (n := 8) (v := nI 8) (by decide +kernel) (by decide) ?_
  refine ab_iushr (pc := 38) (by decide +kernel) ?_
  refine ab_iadd (pc := 39) (by decide +kernel) ?_
  refine ab_istore_n (pc := 40) (n := 0) (i := 0) (lv' := [(0, .int ((((((x0 - ((ab_us x0 (nI 1)) &&& (nI 1431655765))) &&& (nI 858993459)) + ((ab_us (x0 - ((ab_us x0 (nI 1)) &&& (nI 1431655765))) (nI 2)) &&& (nI 858993459))) + (ab_us (((x0 - ((ab_us x0 (nI 1)) &&& (nI 1431655765))) &&& (nI 858993459)) + ((ab_us (x0 - ((ab_us x0 (nI 1)) &&& (nI 1431655765))) (nI 2)) &&& (nI 858993459))) (nI 4))) &&& (nI 252645135)) + (ab_us (((((x0 - ((ab_us x0 (nI 1)) &&& (nI 1431655765))) &&& (nI 858993459)) + ((ab_us (x0 - ((ab_us x0 (nI 1)) &&& (nI 1431655765))) (nI 2)) &&& (nI 858993459))) + (ab_us (((x0 - ((ab_us x0 (nI 1)) &&& (nI 1431655765))) &&& (nI 858993459)) + ((ab_us (x0 - ((ab_us x0 (nI 1)) &&& (nI 1431655765))) (nI 2)) &&& (nI 858993459))) (nI 4))) &&& (nI 252645135)) (nI 8))))]) (by decide +kernel) rfl (Nat.le_of_ble_eq_true rfl) rfl rfl ?_
  refine ab_iload_n (pc := 41) (n := 0) (i := 0) (j := 0) (by decide +kernel) rfl rfl ?_
  refine ab_iload_n (pc := 42) (n := 0) (i := 0) (j := 0) (by decide +kernel) rfl rfl ?_
  refine ab_bipush (pc := 43) (n := 16) (v := nI 16) (by decide +kernel) (by decide) ?_
  refine ab_iushr (pc := 45) (by decide +kernel) ?_
  refine ab_iadd (pc := 46) (by decide +kernel) ?_
  refine ab_istore_n (pc := 47) (n := 0) (i := 0) (lv' := [(0, .int (((((((x0 - ((ab_us x0 (nI 1)) &&& (nI 1431655765))) &&& (nI 858993459)) + ((ab_us (x0 - ((ab_us x0 (nI 1)) &&& (nI 1431655765))) (nI 2)) &&& (nI 858993459))) + (ab_us (((x0 - ((ab_us x0 (nI 1)) &&& (nI 1431655765))) &&& (nI 858993459)) + ((ab_us (x0 - ((ab_us x0 (nI 1)) &&& (nI 1431655765))) (nI 2)) &&& (nI 858993459))) (nI 4))) &&& (nI 252645135)) + (ab_us (((((x0 - ((ab_us x0 (nI 1)) &&& (nI 1431655765))) &&& (nI 858993459)) + ((ab_us (x0 - ((ab_us x0 (nI 1)) &&& (nI 1431655765))) (nI 2)) &&& (nI 858993459))) + (ab_us (((x0 - ((ab_us x0 (nI 1)) &&& (nI 1431655765))) &&& (nI 858993459)) + ((ab_us (x0 - ((ab_us x0 (nI 1)) &&& (nI 1431655765))) (nI 2)) &&& (nI 858993459))) (nI 4))) &&& (nI 252645135)) (nI 8))) + (ab_us ((((((x0 - ((ab_us x0 (nI 1)) &&& (nI 1431655765))) &&& (nI 858993459)) + ((ab_us (x0 - ((ab_us x0 (nI 1)) &&& (nI 1431655765))) (nI 2)) &&& (nI 858993459))) + (ab_us (((x0 - ((ab_us x0 (nI 1)) &&& (nI 1431655765))) &&& (nI 858993459)) + ((ab_us (x0 - ((ab_us x0 (nI 1)) &&& (nI 1431655765))) (nI 2)) &&& (nI 858993459))) (nI 4))) &&& (nI 252645135)) + (ab_us (((((x0 - ((ab_us x0 (nI 1)) &&& (nI 1431655765))) &&& (nI 858993459)) + ((ab_us (x0 - ((ab_us x0 (nI 1)) &&& (nI 1431655765))) (nI 2)) &&& (nI 858993459))) + (ab_us (((x0 - ((ab_us x0 (nI 1)) &&& (nI 1431655765))) &&& (nI 858993459)) + ((ab_us (x0 - ((ab_us x0 (nI 1)) &&& (nI 1431655765))) (nI 2)) &&& (nI 858993459))) (nI 4))) &&& (nI 252645135)) (nI 8))) (nI 16))))]) (by decide +kernel) rfl (Nat.le_of_ble_eq_true rfl) rfl rfl ?_
  refine ab_iload_n (pc := 48) (n := 0) (i := 0) (j := 0) (by decide +kernel) rfl rfl ?_
  refine ab_bipush (pc := 49) (n := 63) (v := nI 63) (by decide +kernel) (by decide) ?_
  refine ab_iand (pc := 51) (by decide +kernel) ?_
  exact ab_iret (pc := 52) (by decide +kernel) rfl rfl (Nat.le_of_ble_eq_true rfl) (Nat.le_of_ble_eq_true rfl)
set_option maxRecDepth 100000 in
set_option maxHeartbeats 4000000 in
theorem okJ6_bitCount_0f7a4 {l : Launch} (hl : l.stackTraces = false) {x0 : Int32} {h : ab_H} {y : Int32} (e : fJ6_bitCount_0f7a4 x0 h = some y) : ab_Met l mJ6_bitCount_0f7a4 [.int x0] h (.inl (some (.int y)), h) := ab_ofS (io := (fun y : Int32 => ((.inl (some (.int y)), h) : ab_R × ab_H))) (x := y) hl (by decide) rfl (Nat.le_of_ble_eq_true rfl) (wJ6_bitCount_0f7a4 hl x0 h) e
def mJ6_numberOfTrailingZeros_0f7a4 : ab_M := (yJ6_numberOfTrailingZeros_0f7a4, cJ6_numberOfTrailingZeros_0f7a4, 2, (some .int), { frames := 0, cells := 0, slots := 0, locals := 0 })
theorem iJ6_numberOfTrailingZeros_0f7a4 : ab_MI mJ6_numberOfTrailingZeros_0f7a4 1 := ⟨kw_2553d9b814, kw_8b11e55748, by decide +kernel⟩
def fJ6_numberOfTrailingZeros_0f7a4 (x0 : Int32) (h : ab_H) : Option Int32 := (if ((x0 ^^^ (-1 : Int32)) &&& (x0 - (nI 1))) ≤ 0 then some (((x0 ^^^ (-1 : Int32)) &&& (x0 - (nI 1))) &&& (nI 32)) else ab_jn (κ := Int32 → Int32 → Option Int32) (fun (z2 : Int32) (z3 : Int32) => ab_jn (κ := Int32 → Int32 → Option Int32) (fun (z4 : Int32) (z5 : Int32) => ab_jn (κ := Int32 → Int32 → Option Int32) (fun (z6 : Int32) (z7 : Int32) => (if z6 ≤ (nI 4) then some (z7 + (ab_us z6 (nI 1))) else some ((z7 + nI 2) + (ab_us (ab_us z6 (nI 2)) (nI 1))))) fun j9 => (if z4 ≤ (nI 16) then j9 z4 z5 else j9 (ab_us z4 (nI 4)) (z5 + nI 4))) fun j11 => (if z2 ≤ (nI 256) then j11 z2 z3 else j11 (ab_us z2 (nI 8)) (z3 + nI 8))) fun j13 => (if ((x0 ^^^ (-1 : Int32)) &&& (x0 - (nI 1))) ≤ (nI 65536) then j13 ((x0 ^^^ (-1 : Int32)) &&& (x0 - (nI 1))) (nI 1) else j13 (ab_us ((x0 ^^^ (-1 : Int32)) &&& (x0 - (nI 1))) (nI 16)) ((nI 1) + nI 16)))
set_option maxRecDepth 100000 in
set_option maxHeartbeats 4000000 in
theorem wJ6_numberOfTrailingZeros_0f7a4 {l : Launch} (hl : l.stackTraces = false) (x0 : Int32) (h : ab_H) : ab_S l mJ6_numberOfTrailingZeros_0f7a4 (fun y : Int32 => ((.inl (some (.int y)), h) : ab_R × ab_H)) 0 0 (fJ6_numberOfTrailingZeros_0f7a4 x0 h) 0 [(0, .int x0)] [] h := by
  unfold fJ6_numberOfTrailingZeros_0f7a4
  refine ab_iload_n (pc := 0) (n := 0) (i := 0) (j := 0) (by decide +kernel) rfl rfl ?_
  refine ab_iconst (pc := 1) (n := -1) (v := (-1 : Int32)) (by decide +kernel) rfl ?_
  refine ab_ixor (pc := 2) (by decide +kernel) ?_
  refine ab_iload_n (pc := 3) (n := 0) (i := 0) (j := 0) (by decide +kernel) rfl rfl ?_
  refine ab_iconst (pc := 4) (n := 1) (v := nI 1) (by decide +kernel) rfl ?_
  refine ab_isub (pc := 5) (by decide +kernel) ?_
  refine ab_iand (pc := 6) (by decide +kernel) ?_
  refine ab_istore_n (pc := 7) (n := 0) (i := 0) (lv' := [(0, .int ((x0 ^^^ (-1 : Int32)) &&& (x0 - (nI 1))))]) (by decide +kernel) rfl (Nat.le_of_ble_eq_true rfl) rfl rfl ?_
  refine ab_iload_n (pc := 8) (n := 0) (i := 0) (j := 0) (by decide +kernel) rfl rfl ?_
  refine ab_if_gt (off := 8) (pc := 9) (tgt := 17) (by decide +kernel) (by decide) (fun g1 => ?_) (fun g1 => ?_)
  · refine ab_iload_n (pc := 12) (n := 0) (i := 0) (j := 0) (by decide +kernel) rfl rfl ?_
    refine ab_bipush (pc := 13) (n := 32) (v := nI 32) (by decide +kernel) (by decide) ?_
    refine ab_iand (pc := 15) (by decide +kernel) ?_
    exact ab_iret (pc := 16) (by decide +kernel) rfl rfl (Nat.le_of_ble_eq_true rfl) (Nat.le_of_ble_eq_true rfl)
  · refine ab_iconst (pc := 17) (n := 1) (v := nI 1) (by decide +kernel) rfl ?_
    refine ab_istore_n (pc := 18) (n := 1) (i := 1) (lv' := [(0, .int ((x0 ^^^ (-1 : Int32)) &&& (x0 - (nI 1)))), (1, .int (nI 1))]) (by decide +kernel) rfl (Nat.le_of_ble_eq_true rfl) rfl rfl ?_
    refine ab_iload_n (pc := 19) (n := 0) (i := 0) (j := 0) (by decide +kernel) rfl rfl ?_
    refine ab_ldcw (pc := 20) (v := nI 65536) (by decide +kernel) kw_e219bae37d ?_
    refine ab_jr (fun k9 : Int32 → Int32 → Option Int32 => ∀ (z2 : Int32), ∀ (z3 : Int32), ab_S l mJ6_numberOfTrailingZeros_0f7a4 (fun y : Int32 => ((.inl (some (.int y)), h) : ab_R × ab_H)) 0 0 (k9 z2 z3) 34 [(0, .int z2), (1, .int z3)] [] h) ?_ (fun j13 hj13 => ?_)
    · intro z2 z3
      refine ab_iload_n (pc := 34) (n := 0) (i := 0) (j := 0) (by decide +kernel) rfl rfl ?_
      refine ab_sipush (pc := 35) (n := 256) (v := nI 256) (by decide +kernel) (by decide) ?_
      refine ab_jr (fun k9 : Int32 → Int32 → Option Int32 => ∀ (z4 : Int32), ∀ (z5 : Int32), ab_S l mJ6_numberOfTrailingZeros_0f7a4 (fun y : Int32 => ((.inl (some (.int y)), h) : ab_R × ab_H)) 0 0 (k9 z4 z5) 49 [(0, .int z4), (1, .int z5)] [] h) ?_ (fun j11 hj11 => ?_)
      · intro z4 z5
        refine ab_iload_n (pc := 49) (n := 0) (i := 0) (j := 0) (by decide +kernel) rfl rfl ?_
        refine ab_bipush (pc := 50) (n := 16) (v := nI 16) (by decide +kernel) (by decide) ?_
        refine ab_jr (fun k9 : Int32 → Int32 → Option Int32 => ∀ (z6 : Int32), ∀ (z7 : Int32), ab_S l mJ6_numberOfTrailingZeros_0f7a4 (fun y : Int32 => ((.inl (some (.int y)), h) : ab_R × ab_H)) 0 0 (k9 z6 z7) 62 [(0, .int z6), (1, .int z7)] [] h) ?_ (fun j9 hj9 => ?_)
        · intro z6 z7
          refine ab_iload_n (pc := 62) (n := 0) (i := 0) (j := 0) (by decide +kernel) rfl rfl ?_
          refine ab_iconst (pc := 63) (n := 4) (v := nI 4) (by decide +kernel) rfl ?_
          refine ab_icmp_le (off := 10) (pc := 64) (tgt := 74) (by decide +kernel) (by decide) (fun g8 => ?_) (fun g8 => ?_)
          · refine ab_iload_n (pc := 74) (n := 1) (i := 1) (j := 1) (by decide +kernel) rfl rfl ?_
            refine ab_iload_n (pc := 75) (n := 0) (i := 0) (j := 0) (by decide +kernel) rfl rfl ?_
            refine ab_iconst (pc := 76) (n := 1) (v := nI 1) (by decide +kernel) rfl ?_
            refine ab_iushr (pc := 77) (by decide +kernel) ?_
            refine ab_iadd (pc := 78) (by decide +kernel) ?_
            exact ab_iret (pc := 79) (by decide +kernel) rfl rfl (Nat.le_of_ble_eq_true rfl) (Nat.le_of_ble_eq_true rfl)
          · refine ab_iinc (pc := 67) (i := 1) (n := 2) (j := 1) (d := nI 2) (lv' := [(0, .int z6), (1, .int (z7 + nI 2))]) (by decide +kernel) rfl rfl (Nat.le_of_ble_eq_true rfl) rfl rfl ?_
            refine ab_iload_n (pc := 70) (n := 0) (i := 0) (j := 0) (by decide +kernel) rfl rfl ?_
            refine ab_iconst (pc := 71) (n := 2) (v := nI 2) (by decide +kernel) rfl ?_
            refine ab_iushr (pc := 72) (by decide +kernel) ?_
            refine ab_istore_n (pc := 73) (n := 0) (i := 0) (lv' := [(0, .int (ab_us z6 (nI 2))), (1, .int (z7 + nI 2))]) (by decide +kernel) rfl (Nat.le_of_ble_eq_true rfl) rfl rfl ?_
            refine ab_iload_n (pc := 74) (n := 1) (i := 1) (j := 1) (by decide +kernel) rfl rfl ?_
            refine ab_iload_n (pc := 75) (n := 0) (i := 0) (j := 0) (by decide +kernel) rfl rfl ?_
            refine ab_iconst (pc := 76) (n := 1) (v := nI 1) (by decide +kernel) rfl ?_
            refine ab_iushr (pc := 77) (by decide +kernel) ?_
            refine ab_iadd (pc := 78) (by decide +kernel) ?_
            exact ab_iret (pc := 79) (by decide +kernel) rfl rfl (Nat.le_of_ble_eq_true rfl) (Nat.le_of_ble_eq_true rfl)
        · refine ab_icmp_le (off := 10) (pc := 52) (tgt := 62) (by decide +kernel) (by decide) (fun g10 => ?_) (fun g10 => ?_)
          · exact hj9 z4 z5
          · refine ab_iinc (pc := 55) (i := 1) (n := 4) (j := 1) (d := nI 4) (lv' := [(0, .int z4), (1, .int (z5 + nI 4))]) (by decide +kernel) rfl rfl (Nat.le_of_ble_eq_true rfl) rfl rfl ?_
            refine ab_iload_n (pc := 58) (n := 0) (i := 0) (j := 0) (by decide +kernel) rfl rfl ?_
            refine ab_iconst (pc := 59) (n := 4) (v := nI 4) (by decide +kernel) rfl ?_
            refine ab_iushr (pc := 60) (by decide +kernel) ?_
            refine ab_istore_n (pc := 61) (n := 0) (i := 0) (lv' := [(0, .int (ab_us z4 (nI 4))), (1, .int (z5 + nI 4))]) (by decide +kernel) rfl (Nat.le_of_ble_eq_true rfl) rfl rfl ?_
            exact hj9 (ab_us z4 (nI 4)) (z5 + nI 4)
      · refine ab_icmp_le (off := 11) (pc := 38) (tgt := 49) (by decide +kernel) (by decide) (fun g12 => ?_) (fun g12 => ?_)
        · exact hj11 z2 z3
        · refine ab_iinc (pc := 41) (i := 1) (n := 8) (j := 1) (d := nI 8) (lv' := [(0, .int z2), (1, .int (z3 + nI 8))]) (by decide +kernel) rfl rfl (Nat.le_of_ble_eq_true rfl) rfl rfl ?_
          refine ab_iload_n (pc := 44) (n := 0) (i := 0) (j := 0) (by decide +kernel) rfl rfl ?_
          refine ab_bipush (pc := 45) (n := 8) (v := nI 8) (by decide +kernel) (by decide) ?_
          refine ab_iushr (pc := 47) (by decide +kernel) ?_
          refine ab_istore_n (pc := 48) (n := 0) (i := 0) (lv' := [(0, .int (ab_us z2 (nI 8))), (1, .int (z3 + nI 8))]) (by decide +kernel) rfl (Nat.le_of_ble_eq_true rfl) rfl rfl ?_
          exact hj11 (ab_us z2 (nI 8)) (z3 + nI 8)
    · refine ab_icmp_le (off := 11) (pc := 23) (tgt := 34) (by decide +kernel) (by decide) (fun g14 => ?_) (fun g14 => ?_)
      · exact hj13 ((x0 ^^^ (-1 : Int32)) &&& (x0 - (nI 1))) (nI 1)
      · refine ab_iinc (pc := 26) (i := 1) (n := 16) (j := 1) (d := nI 16) (lv' := [(0, .int ((x0 ^^^ (-1 : Int32)) &&& (x0 - (nI 1)))), (1, .int ((nI 1) + nI 16))]) (by decide +kernel) rfl rfl (Nat.le_of_ble_eq_true rfl) rfl rfl ?_
        refine ab_iload_n (pc := 29) (n := 0) (i := 0) (j := 0) (by decide +kernel) rfl rfl ?_
        refine ab_bipush (pc := 30) (n := 16) (v := nI 16) (by decide +kernel) (by decide) ?_
        refine ab_iushr (pc := 32) (by decide +kernel) ?_
        refine ab_istore_n (pc := 33) (n := 0) (i := 0) (lv' := [(0, .int (ab_us ((x0 ^^^ (-1 : Int32)) &&& (x0 - (nI 1))) (nI 16))), (1, .int ((nI 1) + nI 16))]) (by decide +kernel) rfl (Nat.le_of_ble_eq_true rfl) rfl rfl ?_
        exact hj13 (ab_us ((x0 ^^^ (-1 : Int32)) &&& (x0 - (nI 1))) (nI 16)) ((nI 1) + nI 16)
set_option maxRecDepth 100000 in
set_option maxHeartbeats 4000000 in
theorem okJ6_numberOfTrailingZeros_0f7a4 {l : Launch} (hl : l.stackTraces = false) {x0 : Int32} {h : ab_H} {y : Int32} (e : fJ6_numberOfTrailingZeros_0f7a4 x0 h = some y) : ab_Met l mJ6_numberOfTrailingZeros_0f7a4 [.int x0] h (.inl (some (.int y)), h) := ab_ofS (io := (fun y : Int32 => ((.inl (some (.int y)), h) : ab_R × ab_H))) (x := y) hl (by decide) rfl (Nat.le_of_ble_eq_true rfl) (wJ6_numberOfTrailingZeros_0f7a4 hl x0 h) e
def mJ9_max_7cf53 : ab_M := (yJ9_max_7cf53, cJ9_max_7cf53, 2, (some .int), { frames := 0, cells := 0, slots := 0, locals := 0 })
theorem iJ9_max_7cf53 : ab_MI mJ9_max_7cf53 2 := ⟨kw_6646532787, kw_c3645950e5, by decide +kernel⟩
def fJ9_max_7cf53 (x0 : Int32) (x1 : Int32) (h : ab_H) : Option Int32 := (if x0 < x1 then some x1 else some x0)
set_option maxRecDepth 100000 in
set_option maxHeartbeats 4000000 in
theorem wJ9_max_7cf53 {l : Launch} (hl : l.stackTraces = false) (x0 : Int32) (x1 : Int32) (h : ab_H) : ab_S l mJ9_max_7cf53 (fun y : Int32 => ((.inl (some (.int y)), h) : ab_R × ab_H)) 0 0 (fJ9_max_7cf53 x0 x1 h) 0 [(0, .int x0), (1, .int x1)] [] h := by
  unfold fJ9_max_7cf53
  refine ab_iload_n (pc := 0) (n := 0) (i := 0) (j := 0) (by decide +kernel) rfl rfl ?_
  refine ab_iload_n (pc := 1) (n := 1) (i := 1) (j := 1) (by decide +kernel) rfl rfl ?_
  refine ab_icmp_lt (off := 7) (pc := 2) (tgt := 9) (by decide +kernel) (by decide) (fun g1 => ?_) (fun g1 => ?_)
  · refine ab_iload_n (pc := 9) (n := 1) (i := 1) (j := 1) (by decide +kernel) rfl rfl ?_
    exact ab_iret (pc := 10) (by decide +kernel) rfl rfl (Nat.le_of_ble_eq_true rfl) (Nat.le_of_ble_eq_true rfl)
  · refine ab_iload_n (pc := 5) (n := 0) (i := 0) (j := 0) (by decide +kernel) rfl rfl ?_
    refine ab_goto (pc := 6) (off := 4) (tgt := 10) (by decide +kernel) (by decide) ?_
    exact ab_iret (pc := 10) (by decide +kernel) rfl rfl (Nat.le_of_ble_eq_true rfl) (Nat.le_of_ble_eq_true rfl)
set_option maxRecDepth 100000 in
set_option maxHeartbeats 4000000 in
theorem okJ9_max_7cf53 {l : Launch} (hl : l.stackTraces = false) {x0 : Int32} {x1 : Int32} {h : ab_H} {y : Int32} (e : fJ9_max_7cf53 x0 x1 h = some y) : ab_Met l mJ9_max_7cf53 [.int x0, .int x1] h (.inl (some (.int y)), h) := ab_ofSF (io := (fun y : Int32 => ((.inl (some (.int y)), h) : ab_R × ab_H))) (x := y) hl (by decide +kernel) rfl (Nat.le_of_ble_eq_true rfl) (wJ9_max_7cf53 hl x0 x1 h) e
def mJ9_min_7cf53 : ab_M := (yJ9_min_7cf53, cJ9_min_7cf53, 2, (some .int), { frames := 0, cells := 0, slots := 0, locals := 0 })
theorem iJ9_min_7cf53 : ab_MI mJ9_min_7cf53 2 := ⟨kw_1b87f90f54, kw_c3645950e5, by decide +kernel⟩
def fJ9_min_7cf53 (x0 : Int32) (x1 : Int32) (h : ab_H) : Option Int32 := (if x0 ≤ x1 then some x0 else some x1)
set_option maxRecDepth 100000 in
set_option maxHeartbeats 4000000 in
theorem wJ9_min_7cf53 {l : Launch} (hl : l.stackTraces = false) (x0 : Int32) (x1 : Int32) (h : ab_H) : ab_S l mJ9_min_7cf53 (fun y : Int32 => ((.inl (some (.int y)), h) : ab_R × ab_H)) 0 0 (fJ9_min_7cf53 x0 x1 h) 0 [(0, .int x0), (1, .int x1)] [] h := by
  unfold fJ9_min_7cf53
  refine ab_iload_n (pc := 0) (n := 0) (i := 0) (j := 0) (by decide +kernel) rfl rfl ?_
  refine ab_iload_n (pc := 1) (n := 1) (i := 1) (j := 1) (by decide +kernel) rfl rfl ?_
  refine ab_icmp_gt (off := 7) (pc := 2) (tgt := 9) (by decide +kernel) (by decide) (fun g1 => ?_) (fun g1 => ?_)
  · refine ab_iload_n (pc := 5) (n := 0) (i := 0) (j := 0) (by decide +kernel) rfl rfl ?_
    refine ab_goto (pc := 6) (off := 4) (tgt := 10) (by decide +kernel) (by decide) ?_
    exact ab_iret (pc := 10) (by decide +kernel) rfl rfl (Nat.le_of_ble_eq_true rfl) (Nat.le_of_ble_eq_true rfl)
  · refine ab_iload_n (pc := 9) (n := 1) (i := 1) (j := 1) (by decide +kernel) rfl rfl ?_
    exact ab_iret (pc := 10) (by decide +kernel) rfl rfl (Nat.le_of_ble_eq_true rfl) (Nat.le_of_ble_eq_true rfl)
set_option maxRecDepth 100000 in
set_option maxHeartbeats 4000000 in
theorem okJ9_min_7cf53 {l : Launch} (hl : l.stackTraces = false) {x0 : Int32} {x1 : Int32} {h : ab_H} {y : Int32} (e : fJ9_min_7cf53 x0 x1 h = some y) : ab_Met l mJ9_min_7cf53 [.int x0, .int x1] h (.inl (some (.int y)), h) := ab_ofSF (io := (fun y : Int32 => ((.inl (some (.int y)), h) : ab_R × ab_H))) (x := y) hl (by decide +kernel) rfl (Nat.le_of_ble_eq_true rfl) (wJ9_min_7cf53 hl x0 x1 h) e
def mJ9_floorMod_7cf53 : ab_M := (yJ9_floorMod_7cf53, cJ9_floorMod_7cf53, 3, (some .int), { frames := 0, cells := 0, slots := 0, locals := 0 })
theorem iJ9_floorMod_7cf53 : ab_MI mJ9_floorMod_7cf53 2 := ⟨kw_bd9f94cd9a, kw_c3645950e5, by decide +kernel⟩
def fJ9_floorMod_7cf53 (x0 : Int32) (x1 : Int32) (h : ab_H) : Option Int32 := ab_ck (¬ x1 = 0) ((if (x0 ^^^ x1) < 0 then (if (ab_rm x0 x1) = 0 then some (ab_rm x0 x1) else some ((ab_rm x0 x1) + x1)) else some (ab_rm x0 x1)))
set_option maxRecDepth 100000 in
set_option maxHeartbeats 4000000 in
theorem wJ9_floorMod_7cf53 {l : Launch} (hl : l.stackTraces = false) (x0 : Int32) (x1 : Int32) (h : ab_H) : ab_S l mJ9_floorMod_7cf53 (fun y : Int32 => ((.inl (some (.int y)), h) : ab_R × ab_H)) 0 0 (fJ9_floorMod_7cf53 x0 x1 h) 0 [(0, .int x0), (1, .int x1)] [] h := by
  unfold fJ9_floorMod_7cf53
  refine ab_iload_n (pc := 0) (n := 0) (i := 0) (j := 0) (by decide +kernel) rfl rfl ?_
  refine ab_iload_n (pc := 1) (n := 1) (i := 1) (j := 1) (by decide +kernel) rfl rfl ?_
  refine ab_irem (pc := 2) (by decide +kernel) (fun g1 => ?_)
  refine ab_istore_n (pc := 3) (n := 2) (i := 2) (lv' := [(0, .int x0), (1, .int x1), (2, .int (ab_rm x0 x1))]) (by decide +kernel) rfl (Nat.le_of_ble_eq_true rfl) rfl rfl ?_
  refine ab_iload_n (pc := 4) (n := 0) (i := 0) (j := 0) (by decide +kernel) rfl rfl ?_
  refine ab_iload_n (pc := 5) (n := 1) (i := 1) (j := 1) (by decide +kernel) rfl rfl ?_
  refine ab_ixor (pc := 6) (by decide +kernel) ?_
  refine ab_if_ge (off := 11) (pc := 7) (tgt := 18) (by decide +kernel) (by decide) (fun g2 => ?_) (fun g2 => ?_)
  · refine ab_iload_n (pc := 10) (n := 2) (i := 2) (j := 2) (by decide +kernel) rfl rfl ?_
    refine ab_if_eq (off := 7) (pc := 11) (tgt := 18) (by decide +kernel) (by decide) (fun g3 => ?_) (fun g3 => ?_)
    · refine ab_iload_n (pc := 18) (n := 2) (i := 2) (j := 2) (by decide +kernel) rfl rfl ?_
      exact ab_iret (pc := 19) (by decide +kernel) rfl rfl (Nat.le_of_ble_eq_true rfl) (Nat.le_of_ble_eq_true rfl)
    · refine ab_iload_n (pc := 14) (n := 2) (i := 2) (j := 2) (by decide +kernel) rfl rfl ?_
      refine ab_iload_n (pc := 15) (n := 1) (i := 1) (j := 1) (by decide +kernel) rfl rfl ?_
      refine ab_iadd (pc := 16) (by decide +kernel) ?_
      exact ab_iret (pc := 17) (by decide +kernel) rfl rfl (Nat.le_of_ble_eq_true rfl) (Nat.le_of_ble_eq_true rfl)
  · refine ab_iload_n (pc := 18) (n := 2) (i := 2) (j := 2) (by decide +kernel) rfl rfl ?_
    exact ab_iret (pc := 19) (by decide +kernel) rfl rfl (Nat.le_of_ble_eq_true rfl) (Nat.le_of_ble_eq_true rfl)
set_option maxRecDepth 100000 in
set_option maxHeartbeats 4000000 in
theorem okJ9_floorMod_7cf53 {l : Launch} (hl : l.stackTraces = false) {x0 : Int32} {x1 : Int32} {h : ab_H} {y : Int32} (e : fJ9_floorMod_7cf53 x0 x1 h = some y) : ab_Met l mJ9_floorMod_7cf53 [.int x0, .int x1] h (.inl (some (.int y)), h) := ab_ofSF (io := (fun y : Int32 => ((.inl (some (.int y)), h) : ab_R × ab_H))) (x := y) hl (by decide +kernel) rfl (Nat.le_of_ble_eq_true rfl) (wJ9_floorMod_7cf53 hl x0 x1 h) e
def mJ7_fill_53178 : ab_M := (yJ7_fill_53178, cJ7_fill_53178, 4, none, { frames := 0, cells := 0, slots := 0, locals := 0 })
theorem iJ7_fill_53178 : ab_MI mJ7_fill_53178 2 := ⟨kw_dcb52b59ce, kw_3ce11cf026, by decide +kernel⟩
def fJ7_fill_53178_5 (x0 : Nat) (x1 : Int32) (x3 : Int32) : Nat → Int32 → ab_H → Option ab_H
  | 0, _, _ => none
  | n + 1, x2, h => (if x2 < x3 then ab_bd (ab_iw 0 h x0 x2 x1) fun h3 => fJ7_fill_53178_5 x0 x1 x3 n (x2 + nI 1) h3 else some h)
def fJ7_fill_53178 (F : Nat) (x0 : Nat) (x1 : Int32) (h : ab_H) : Option ab_H := ab_bd (ab_al h x0) fun v1 => fJ7_fill_53178_5 x0 x1 v1 F (nI 0) h
set_option maxRecDepth 100000 in
set_option maxHeartbeats 4000000 in
theorem lJ7_fill_53178_5 {l : Launch} (hl : l.stackTraces = false) (x0 : Nat) (x1 : Int32) (x3 : Int32) : ∀ (n : Nat) (x2 : Int32) (h : ab_H), ab_S l mJ7_fill_53178 (fun y : ab_H => ((.inl none, y) : ab_R × ab_H)) 0 0 (fJ7_fill_53178_5 x0 x1 x3 n x2 h) 5 [(0, .ref x0), (1, .int x1), (2, .int x2), (3, .int x3)] [] h := by
  intro n
  induction n with
  | zero =>
    intro x2 h
    exact ab_none
  | succ n ih =>
    intro x2 h
    rw [fJ7_fill_53178_5]
    refine ab_iload_n (pc := 5) (n := 2) (i := 2) (j := 2) (by decide +kernel) rfl rfl ?_
    refine ab_iload_n (pc := 6) (n := 3) (i := 3) (j := 3) (by decide +kernel) rfl rfl ?_
    refine ab_icmp_ge (off := 13) (pc := 7) (tgt := 20) (by decide +kernel) (by decide) (fun g2 => ?_) (fun g2 => ?_)
    · refine ab_aload_n (pc := 10) (n := 0) (i := 0) (j := 0) (by decide +kernel) rfl rfl ?_
      refine ab_iload_n (pc := 11) (n := 2) (i := 2) (j := 2) (by decide +kernel) rfl rfl ?_
      refine ab_iload_n (pc := 12) (n := 1) (i := 1) (j := 1) (by decide +kernel) rfl rfl ?_
      refine ab_iast (pc := 13) (by decide +kernel) (fun h3 eh3 => ?_)
      refine ab_iinc (pc := 14) (i := 2) (n := 1) (j := 2) (d := nI 1) (lv' := [(0, .ref x0), (1, .int x1), (2, .int (x2 + nI 1)), (3, .int x3)]) (by decide +kernel) rfl rfl (Nat.le_of_ble_eq_true rfl) rfl rfl ?_
      refine ab_goto (pc := 17) (off := (-12)) (tgt := 5) (by decide +kernel) (by decide) ?_
      exact ih (x2 + nI 1) h3
    · exact ab_vret (pc := 20) (by decide +kernel) rfl rfl (Nat.le_of_ble_eq_true rfl) (Nat.le_of_ble_eq_true rfl)
set_option maxRecDepth 100000 in
set_option maxHeartbeats 4000000 in
theorem wJ7_fill_53178 {l : Launch} (hl : l.stackTraces = false) (F : Nat) (x0 : Nat) (x1 : Int32) (h : ab_H) : ab_S l mJ7_fill_53178 (fun y : ab_H => ((.inl none, y) : ab_R × ab_H)) 0 0 (fJ7_fill_53178 F x0 x1 h) 0 [(0, .ref x0), (1, .int x1)] [] h := by
  unfold fJ7_fill_53178
  refine ab_iconst (pc := 0) (n := 0) (v := nI 0) (by decide +kernel) rfl ?_
  refine ab_istore_n (pc := 1) (n := 2) (i := 2) (lv' := [(0, .ref x0), (1, .int x1), (2, .int (nI 0))]) (by decide +kernel) rfl (Nat.le_of_ble_eq_true rfl) rfl rfl ?_
  refine ab_aload_n (pc := 2) (n := 0) (i := 0) (j := 0) (by decide +kernel) rfl rfl ?_
  refine ab_alen2 (pc := 3) (by decide +kernel) (fun v1 ev1 => ?_)
  refine ab_istore_n (pc := 4) (n := 3) (i := 3) (lv' := [(0, .ref x0), (1, .int x1), (2, .int (nI 0)), (3, .int v1)]) (by decide +kernel) rfl (Nat.le_of_ble_eq_true rfl) rfl rfl ?_
  refine lJ7_fill_53178_5 hl x0 x1 v1 F (nI 0) h
set_option maxRecDepth 100000 in
set_option maxHeartbeats 4000000 in
theorem okJ7_fill_53178 {l : Launch} (hl : l.stackTraces = false) {F : Nat} {x0 : Nat} {x1 : Int32} {h : ab_H} {y : ab_H} (e : fJ7_fill_53178 F x0 x1 h = some y) : ab_Met l mJ7_fill_53178 [.ref x0, .int x1] h (.inl none, y) := ab_ofS (io := (fun y : ab_H => ((.inl none, y) : ab_R × ab_H))) (x := y) hl (by decide) rfl (Nat.le_of_ble_eq_true rfl) (wJ7_fill_53178 hl F x0 x1 h) e
def mX0_init : ab_M := (yX0_init, cX0_init, 2, none, { frames := 1, cells := 3, slots := 1203, locals := 20 })
theorem iX0_init : ab_MI mX0_init 1 := ⟨kw_60548edafd, kw_284a064ce4, by decide +kernel⟩
def fX0_init (x0 : Nat) (x1 : Nat) (h : ab_H) : Option ab_H := ab_bd (ab_na 0 401 h (nI 401)) fun h1 => ab_bd (ab_fw h1 x0 0 1 (.ref h.1)) fun h2 => ab_bd (ab_na 0 401 h2 (nI 401)) fun h3 => ab_bd (ab_fw h3 x0 0 2 (.ref h2.1)) fun h4 => ab_bd (ab_na 0 401 h4 (nI 401)) fun h5 => ab_bd (ab_fw h5 x0 0 3 (.ref h4.1)) fun h6 => ab_bd (ab_fw h6 x0 0 0 (.ref x1)) fun h7 => some h7
set_option maxRecDepth 100000 in
set_option maxHeartbeats 4000000 in
theorem wX0_init {l : Launch} (hl : l.stackTraces = false) (x0 : Nat) (x1 : Nat) (h : ab_H) : ab_S l mX0_init (fun y : ab_H => ((.inl none, y) : ab_R × ab_H)) 0 0 (fX0_init x0 x1 h) 0 [(0, .ref x0), (1, .ref x1)] [] h := by
  unfold fX0_init
  refine ab_aload_n (pc := 0) (n := 0) (i := 0) (j := 0) (by decide +kernel) rfl rfl ?_
  refine ab_objInit (pc := 1) (index := 3) kw_ef5a62e6b9 kw_3e5ce616d8 kw_90b5ae3dba (Nat.le_of_ble_eq_true rfl) (Nat.le_of_ble_eq_true rfl) (by decide +kernel) ?_
  refine ab_aload_n (pc := 4) (n := 0) (i := 0) (j := 0) (by decide +kernel) rfl rfl ?_
  refine ab_sipush (pc := 5) (n := 401) (v := nI 401) (by decide +kernel) (by decide) ?_
  refine ab_naI (pc := 8) (B := 401) kw_b5d2f4680e (by decide) (Nat.le_of_ble_eq_true rfl) (Nat.le_of_ble_eq_true rfl) (by decide +kernel) (fun h1 eh1 => ?_)
  refine ab_putF (pc := 10) fl_X0_9_0 rfl rfl (fun _ => rfl) (fun _ => rfl) (by decide +kernel) (fun h2 eh2 => ?_)
  refine ab_aload_n (pc := 13) (n := 0) (i := 0) (j := 0) (by decide +kernel) rfl rfl ?_
  refine ab_sipush (pc := 14) (n := 401) (v := nI 401) (by decide +kernel) (by decide) ?_
  refine ab_naI (pc := 17) (B := 401) kw_b5d2f4680e (by decide) (Nat.le_of_ble_eq_true rfl) (Nat.le_of_ble_eq_true rfl) (by decide +kernel) (fun h3 eh3 => ?_)
  refine ab_putF (pc := 19) fl_X0_15_0 rfl rfl (fun _ => rfl) (fun _ => rfl) (by decide +kernel) (fun h4 eh4 => ?_)
  refine ab_aload_n (pc := 22) (n := 0) (i := 0) (j := 0) (by decide +kernel) rfl rfl ?_
  refine ab_sipush (pc := 23) (n := 401) (v := nI 401) (by decide +kernel) (by decide) ?_
  refine ab_naI (pc := 26) (B := 401) kw_b5d2f4680e (by decide) (Nat.le_of_ble_eq_true rfl) (Nat.le_of_ble_eq_true rfl) (by decide +kernel) (fun h5 eh5 => ?_)
  refine ab_putF (pc := 28) fl_X0_18_0 rfl rfl (fun _ => rfl) (fun _ => rfl) (by decide +kernel) (fun h6 eh6 => ?_)
  refine ab_aload_n (pc := 31) (n := 0) (i := 0) (j := 0) (by decide +kernel) rfl rfl ?_
  refine ab_aload_n (pc := 32) (n := 1) (i := 1) (j := 1) (by decide +kernel) rfl rfl ?_
  refine ab_putF (pc := 33) fl_X0_21_0 rfl rfl (fun _ => rfl) (fun _ => rfl) (by decide +kernel) (fun h7 eh7 => ?_)
  exact ab_vret (pc := 36) (by decide +kernel) rfl rfl (Nat.le_of_ble_eq_true rfl) (Nat.le_of_ble_eq_true rfl)
set_option maxRecDepth 100000 in
set_option maxHeartbeats 4000000 in
theorem okX0_init {l : Launch} (hl : l.stackTraces = false) {x0 : Nat} {x1 : Nat} {h : ab_H} {y : ab_H} (e : fX0_init x0 x1 h = some y) : ab_Met l mX0_init [.ref x0, .ref x1] h (.inl none, y) := ab_ofS (io := (fun y : ab_H => ((.inl none, y) : ab_R × ab_H))) (x := y) hl (by decide) rfl (Nat.le_of_ble_eq_true rfl) (wX0_init hl x0 x1 h) e
def mX0_kindHere : ab_M := (yX0_kindHere, cX0_kindHere, 1, (some .int), { frames := 0, cells := 0, slots := 0, locals := 0 })
theorem iX0_kindHere : ab_MI mX0_kindHere 0 := ⟨kw_94450343dd, kw_284a064ce4, by decide +kernel⟩
def fX0_kindHere (x0 : Nat) (h : ab_H) : Option Int32 := ab_bd (ab_fr h x0 0 1) fun v1 => ab_bd (ab_fi h x0 0 4) fun v2 => ab_bd (ab_ia 0 h v1 v2) fun v3 => some v3
set_option maxRecDepth 100000 in
set_option maxHeartbeats 4000000 in
theorem wX0_kindHere {l : Launch} (hl : l.stackTraces = false) (x0 : Nat) (h : ab_H) : ab_S l mX0_kindHere (fun y : Int32 => ((.inl (some (.int y)), h) : ab_R × ab_H)) 0 0 (fX0_kindHere x0 h) 0 [(0, .ref x0)] [] h := by
  unfold fX0_kindHere
  refine ab_aload_n (pc := 0) (n := 0) (i := 0) (j := 0) (by decide +kernel) rfl rfl ?_
  refine ab_getR (pc := 1) fl_X0_9_0 (by decide +kernel) (fun v1 ev1 => ?_)
  refine ab_aload_n (pc := 4) (n := 0) (i := 0) (j := 0) (by decide +kernel) rfl rfl ?_
  refine ab_getI (pc := 5) fl_X0_45_0 (by decide +kernel) (fun v2 ev2 => ?_)
  refine ab_iald (pc := 8) (by decide +kernel) (fun v3 ev3 => ?_)
  exact ab_iret (pc := 9) (by decide +kernel) rfl rfl (Nat.le_of_ble_eq_true rfl) (Nat.le_of_ble_eq_true rfl)
set_option maxRecDepth 100000 in
set_option maxHeartbeats 4000000 in
theorem okX0_kindHere {l : Launch} (hl : l.stackTraces = false) {x0 : Nat} {h : ab_H} {y : Int32} (e : fX0_kindHere x0 h = some y) : ab_Met l mX0_kindHere [.ref x0] h (.inl (some (.int y)), h) := ab_ofS (io := (fun y : Int32 => ((.inl (some (.int y)), h) : ab_R × ab_H))) (x := y) hl (by decide) rfl (Nat.le_of_ble_eq_true rfl) (wX0_kindHere hl x0 h) e
def mX0_beginHere : ab_M := (yX0_beginHere, cX0_beginHere, 1, (some .int), { frames := 0, cells := 0, slots := 0, locals := 0 })
theorem iX0_beginHere : ab_MI mX0_beginHere 0 := ⟨kw_4317fc3e08, kw_284a064ce4, by decide +kernel⟩
def fX0_beginHere (x0 : Nat) (h : ab_H) : Option Int32 := ab_bd (ab_fr h x0 0 2) fun v1 => ab_bd (ab_fi h x0 0 4) fun v2 => ab_bd (ab_ia 0 h v1 v2) fun v3 => some v3
set_option maxRecDepth 100000 in
set_option maxHeartbeats 4000000 in
theorem wX0_beginHere {l : Launch} (hl : l.stackTraces = false) (x0 : Nat) (h : ab_H) : ab_S l mX0_beginHere (fun y : Int32 => ((.inl (some (.int y)), h) : ab_R × ab_H)) 0 0 (fX0_beginHere x0 h) 0 [(0, .ref x0)] [] h := by
  unfold fX0_beginHere
  refine ab_aload_n (pc := 0) (n := 0) (i := 0) (j := 0) (by decide +kernel) rfl rfl ?_
  refine ab_getR (pc := 1) fl_X0_15_0 (by decide +kernel) (fun v1 ev1 => ?_)
  refine ab_aload_n (pc := 4) (n := 0) (i := 0) (j := 0) (by decide +kernel) rfl rfl ?_
  refine ab_getI (pc := 5) fl_X0_45_0 (by decide +kernel) (fun v2 ev2 => ?_)
  refine ab_iald (pc := 8) (by decide +kernel) (fun v3 ev3 => ?_)
  exact ab_iret (pc := 9) (by decide +kernel) rfl rfl (Nat.le_of_ble_eq_true rfl) (Nat.le_of_ble_eq_true rfl)
set_option maxRecDepth 100000 in
set_option maxHeartbeats 4000000 in
theorem okX0_beginHere {l : Launch} (hl : l.stackTraces = false) {x0 : Nat} {h : ab_H} {y : Int32} (e : fX0_beginHere x0 h = some y) : ab_Met l mX0_beginHere [.ref x0] h (.inl (some (.int y)), h) := ab_ofS (io := (fun y : Int32 => ((.inl (some (.int y)), h) : ab_R × ab_H))) (x := y) hl (by decide) rfl (Nat.le_of_ble_eq_true rfl) (wX0_beginHere hl x0 h) e
def mX0_goOn : ab_M := (yX0_goOn, cX0_goOn, 1, none, { frames := 0, cells := 0, slots := 0, locals := 0 })
theorem iX0_goOn : ab_MI mX0_goOn 0 := ⟨kw_7d2a32a1c0, kw_284a064ce4, by decide +kernel⟩
def fX0_goOn (x0 : Nat) (h : ab_H) : Option ab_H := ab_bd (ab_fr h x0 0 1) fun v1 => ab_bd (ab_fi h x0 0 4) fun v2 => ab_bd (ab_ia 0 h v1 v2) fun v3 => (if v3 = (-1 : Int32) then some h else ab_bd (ab_fi h x0 0 4) fun v5 => (if v5 < (nI 400) then ab_bd (ab_fi h x0 0 4) fun v7 => ab_bd (ab_fw h x0 0 4 (.int (v7 + (nI 1)))) fun h8 => some h8 else some h))
set_option maxRecDepth 100000 in
set_option maxHeartbeats 4000000 in
theorem wX0_goOn {l : Launch} (hl : l.stackTraces = false) (x0 : Nat) (h : ab_H) : ab_S l mX0_goOn (fun y : ab_H => ((.inl none, y) : ab_R × ab_H)) 0 0 (fX0_goOn x0 h) 0 [(0, .ref x0)] [] h := by
  unfold fX0_goOn
  refine ab_aload_n (pc := 0) (n := 0) (i := 0) (j := 0) (by decide +kernel) rfl rfl ?_
  refine ab_getR (pc := 1) fl_X0_9_0 (by decide +kernel) (fun v1 ev1 => ?_)
  refine ab_aload_n (pc := 4) (n := 0) (i := 0) (j := 0) (by decide +kernel) rfl rfl ?_
  refine ab_getI (pc := 5) fl_X0_45_0 (by decide +kernel) (fun v2 ev2 => ?_)
  refine ab_iald (pc := 8) (by decide +kernel) (fun v3 ev3 => ?_)
  refine ab_iconst (pc := 9) (n := -1) (v := (-1 : Int32)) (by decide +kernel) rfl ?_
  refine ab_icmp_eq (off := 23) (pc := 10) (tgt := 33) (by decide +kernel) (by decide) (fun g4 => ?_) (fun g4 => ?_)
  · exact ab_vret (pc := 33) (by decide +kernel) rfl rfl (Nat.le_of_ble_eq_true rfl) (Nat.le_of_ble_eq_true rfl)
  · refine ab_aload_n (pc := 13) (n := 0) (i := 0) (j := 0) (by decide +kernel) rfl rfl ?_
    refine ab_getI (pc := 14) fl_X0_45_0 (by decide +kernel) (fun v5 ev5 => ?_)
    refine ab_sipush (pc := 17) (n := 400) (v := nI 400) (by decide +kernel) (by decide) ?_
    refine ab_icmp_ge (off := 13) (pc := 20) (tgt := 33) (by decide +kernel) (by decide) (fun g6 => ?_) (fun g6 => ?_)
    · refine ab_aload_n (pc := 23) (n := 0) (i := 0) (j := 0) (by decide +kernel) rfl rfl ?_
      refine ab_dup (pc := 24) (by decide +kernel) rfl ?_
      refine ab_getI (pc := 25) fl_X0_45_0 (by decide +kernel) (fun v7 ev7 => ?_)
      refine ab_iconst (pc := 28) (n := 1) (v := nI 1) (by decide +kernel) rfl ?_
      refine ab_iadd (pc := 29) (by decide +kernel) ?_
      refine ab_put (pc := 30) fl_X0_45_0 rfl (fun _ => rfl) (fun _ => rfl) (by decide +kernel) (fun h8 eh8 => ?_)
      exact ab_vret (pc := 33) (by decide +kernel) rfl rfl (Nat.le_of_ble_eq_true rfl) (Nat.le_of_ble_eq_true rfl)
    · exact ab_vret (pc := 33) (by decide +kernel) rfl rfl (Nat.le_of_ble_eq_true rfl) (Nat.le_of_ble_eq_true rfl)
set_option maxRecDepth 100000 in
set_option maxHeartbeats 4000000 in
theorem okX0_goOn {l : Launch} (hl : l.stackTraces = false) {x0 : Nat} {h : ab_H} {y : ab_H} (e : fX0_goOn x0 h = some y) : ab_Met l mX0_goOn [.ref x0] h (.inl none, y) := ab_ofS (io := (fun y : ab_H => ((.inl none, y) : ab_R × ab_H))) (x := y) hl (by decide) rfl (Nat.le_of_ble_eq_true rfl) (wX0_goOn hl x0 h) e
def mX2_init : ab_M := (yX2_init, cX2_init, 3, none, { frames := 1, cells := 2, slots := 424, locals := 21 })
theorem iX2_init : ab_MI mX2_init 2 := ⟨kw_06d7f937b8, kw_0069db34e3, by decide +kernel⟩
theorem lk_X2_19 : ab_LS RX2 19 mJ9_max_7cf53 2 := ⟨iJ9_max_7cf53, kw_881f9b9da5, kw_cd9e564d81⟩
def fX2_init (x0 : Nat) (x1 : Int32) (x2 : Int32) (h : ab_H) : Option ab_H := ab_bd (ab_na 0 24 h (nI 24)) fun h1 => ab_bd (ab_fw h1 x0 2 2 (.ref h.1)) fun h2 => ab_bd (ab_fw h2 x0 2 0 (.int x1)) fun h3 => ab_bd (fJ9_max_7cf53 (nI 0) x2 h3) fun v4 => ab_bd (ab_na 0 400 h3 v4) fun h5 => ab_bd (ab_fw h5 x0 2 1 (.ref h3.1)) fun h6 => some h6
set_option maxRecDepth 100000 in
set_option maxHeartbeats 4000000 in
theorem wX2_init {l : Launch} (hl : l.stackTraces = false) (x0 : Nat) (x1 : Int32) (x2 : Int32) (h : ab_H) : ab_S l mX2_init (fun y : ab_H => ((.inl none, y) : ab_R × ab_H)) 0 0 (fX2_init x0 x1 x2 h) 0 [(0, .ref x0), (1, .int x1), (2, .int x2)] [] h := by
  unfold fX2_init
  refine ab_aload_n (pc := 0) (n := 0) (i := 0) (j := 0) (by decide +kernel) rfl rfl ?_
  refine ab_objInit (pc := 1) (index := 3) kw_85734ee1d3 kw_3e5ce616d8 kw_90b5ae3dba (Nat.le_of_ble_eq_true rfl) (Nat.le_of_ble_eq_true rfl) (by decide +kernel) ?_
  refine ab_aload_n (pc := 4) (n := 0) (i := 0) (j := 0) (by decide +kernel) rfl rfl ?_
  refine ab_bipush (pc := 5) (n := 24) (v := nI 24) (by decide +kernel) (by decide) ?_
  refine ab_naI (pc := 7) (B := 24) kw_b5d2f4680e (by decide) (Nat.le_of_ble_eq_true rfl) (Nat.le_of_ble_eq_true rfl) (by decide +kernel) (fun h1 eh1 => ?_)
  refine ab_putF (pc := 9) fl_X2_9_2 rfl rfl (fun _ => rfl) (fun _ => rfl) (by decide +kernel) (fun h2 eh2 => ?_)
  refine ab_aload_n (pc := 12) (n := 0) (i := 0) (j := 0) (by decide +kernel) rfl rfl ?_
  refine ab_iload_n (pc := 13) (n := 1) (i := 1) (j := 1) (by decide +kernel) rfl rfl ?_
  refine ab_putF (pc := 14) fl_X2_15_2 rfl rfl (fun _ => rfl) (fun _ => rfl) (by decide +kernel) (fun h3 eh3 => ?_)
  refine ab_aload_n (pc := 17) (n := 0) (i := 0) (j := 0) (by decide +kernel) rfl rfl ?_
  refine ab_iconst (pc := 18) (n := 0) (v := nI 0) (by decide +kernel) rfl ?_
  refine ab_iload_n (pc := 19) (n := 2) (i := 2) (j := 2) (by decide +kernel) rfl rfl ?_
  refine ab_callSi (As := [.int (nI 0), .int x2]) (st := [.ref x0]) (pc := 20) lk_X2_19 rfl rfl rfl (by decide) rfl (Nat.le_of_ble_eq_true rfl) (by decide +kernel) (fun y9 e9 => okJ9_max_7cf53 hl e9) (fun v4 ev4 => ?_)
  refine ab_naI (pc := 23) (B := 400) kw_b5d2f4680e (by decide) (Nat.le_of_ble_eq_true rfl) (Nat.le_of_ble_eq_true rfl) (by decide +kernel) (fun h5 eh5 => ?_)
  refine ab_putF (pc := 25) fl_X2_25_2 rfl rfl (fun _ => rfl) (fun _ => rfl) (by decide +kernel) (fun h6 eh6 => ?_)
  exact ab_vret (pc := 28) (by decide +kernel) rfl rfl (Nat.le_of_ble_eq_true rfl) (Nat.le_of_ble_eq_true rfl)
set_option maxRecDepth 100000 in
set_option maxHeartbeats 4000000 in
theorem okX2_init {l : Launch} (hl : l.stackTraces = false) {x0 : Nat} {x1 : Int32} {x2 : Int32} {h : ab_H} {y : ab_H} (e : fX2_init x0 x1 x2 h = some y) : ab_Met l mX2_init [.ref x0, .int x1, .int x2] h (.inl none, y) := ab_ofS (io := (fun y : ab_H => ((.inl none, y) : ab_R × ab_H))) (x := y) hl (by decide) rfl (Nat.le_of_ble_eq_true rfl) (wX2_init hl x0 x1 x2 h) e
def mX2_takeCode : ab_M := (yX2_takeCode, cX2_takeCode, 3, none, { frames := 0, cells := 0, slots := 0, locals := 0 })
theorem iX2_takeCode : ab_MI mX2_takeCode 1 := ⟨kw_805ae04129, kw_0069db34e3, by decide +kernel⟩
def fX2_takeCode_2 (x0 : Nat) (x1 : Nat) : Nat → Int32 → ab_H → Option ab_H
  | 0, _, _ => none
  | n + 1, x2, h => ab_bd (ab_fr h x0 2 1) fun v1 => ab_bd (ab_al h v1) fun v2 => (if x2 < v2 then ab_bd (ab_al h x1) fun v4 => (if x2 < v4 then ab_bd (ab_fr h x0 2 1) fun v6 => ab_bd (ab_ia 0 h x1 x2) fun v7 => ab_bd (ab_iw 0 h v6 x2 v7) fun h8 => fX2_takeCode_2 x0 x1 n (x2 + nI 1) h8 else some h) else some h)
def fX2_takeCode (F : Nat) (x0 : Nat) (x1 : Nat) (h : ab_H) : Option ab_H := fX2_takeCode_2 x0 x1 F (nI 0) h
set_option maxRecDepth 100000 in
set_option maxHeartbeats 4000000 in
theorem lX2_takeCode_2 {l : Launch} (hl : l.stackTraces = false) (x0 : Nat) (x1 : Nat) : ∀ (n : Nat) (x2 : Int32) (h : ab_H), ab_S l mX2_takeCode (fun y : ab_H => ((.inl none, y) : ab_R × ab_H)) 0 0 (fX2_takeCode_2 x0 x1 n x2 h) 2 [(0, .ref x0), (1, .ref x1), (2, .int x2)] [] h := by
  intro n
  induction n with
  | zero =>
    intro x2 h
    exact ab_none
  | succ n ih =>
    intro x2 h
    rw [fX2_takeCode_2]
    refine ab_iload_n (pc := 2) (n := 2) (i := 2) (j := 2) (by decide +kernel) rfl rfl ?_
    refine ab_aload_n (pc := 3) (n := 0) (i := 0) (j := 0) (by decide +kernel) rfl rfl ?_
    refine ab_getR (pc := 4) fl_X2_25_2 (by decide +kernel) (fun v1 ev1 => ?_)
    refine ab_alen2 (pc := 7) (by decide +kernel) (fun v2 ev2 => ?_)
    refine ab_icmp_ge (off := 24) (pc := 8) (tgt := 32) (by decide +kernel) (by decide) (fun g3 => ?_) (fun g3 => ?_)
    · refine ab_iload_n (pc := 11) (n := 2) (i := 2) (j := 2) (by decide +kernel) rfl rfl ?_
      refine ab_aload_n (pc := 12) (n := 1) (i := 1) (j := 1) (by decide +kernel) rfl rfl ?_
      refine ab_alen2 (pc := 13) (by decide +kernel) (fun v4 ev4 => ?_)
      refine ab_icmp_ge (off := 18) (pc := 14) (tgt := 32) (by decide +kernel) (by decide) (fun g5 => ?_) (fun g5 => ?_)
      · refine ab_aload_n (pc := 17) (n := 0) (i := 0) (j := 0) (by decide +kernel) rfl rfl ?_
        refine ab_getR (pc := 18) fl_X2_25_2 (by decide +kernel) (fun v6 ev6 => ?_)
        refine ab_iload_n (pc := 21) (n := 2) (i := 2) (j := 2) (by decide +kernel) rfl rfl ?_
        refine ab_aload_n (pc := 22) (n := 1) (i := 1) (j := 1) (by decide +kernel) rfl rfl ?_
        refine ab_iload_n (pc := 23) (n := 2) (i := 2) (j := 2) (by decide +kernel) rfl rfl ?_
        refine ab_iald (pc := 24) (by decide +kernel) (fun v7 ev7 => ?_)
        refine ab_iast (pc := 25) (by decide +kernel) (fun h8 eh8 => ?_)
        refine ab_iinc (pc := 26) (i := 2) (n := 1) (j := 2) (d := nI 1) (lv' := [(0, .ref x0), (1, .ref x1), (2, .int (x2 + nI 1))]) (by decide +kernel) rfl rfl (Nat.le_of_ble_eq_true rfl) rfl rfl ?_
        refine ab_goto (pc := 29) (off := (-27)) (tgt := 2) (by decide +kernel) (by decide) ?_
        exact ih (x2 + nI 1) h8
      · exact ab_vret (pc := 32) (by decide +kernel) rfl rfl (Nat.le_of_ble_eq_true rfl) (Nat.le_of_ble_eq_true rfl)
    · exact ab_vret (pc := 32) (by decide +kernel) rfl rfl (Nat.le_of_ble_eq_true rfl) (Nat.le_of_ble_eq_true rfl)
set_option maxRecDepth 100000 in
set_option maxHeartbeats 4000000 in
theorem wX2_takeCode {l : Launch} (hl : l.stackTraces = false) (F : Nat) (x0 : Nat) (x1 : Nat) (h : ab_H) : ab_S l mX2_takeCode (fun y : ab_H => ((.inl none, y) : ab_R × ab_H)) 0 0 (fX2_takeCode F x0 x1 h) 0 [(0, .ref x0), (1, .ref x1)] [] h := by
  unfold fX2_takeCode
  refine ab_iconst (pc := 0) (n := 0) (v := nI 0) (by decide +kernel) rfl ?_
  refine ab_istore_n (pc := 1) (n := 2) (i := 2) (lv' := [(0, .ref x0), (1, .ref x1), (2, .int (nI 0))]) (by decide +kernel) rfl (Nat.le_of_ble_eq_true rfl) rfl rfl ?_
  refine lX2_takeCode_2 hl x0 x1 F (nI 0) h
set_option maxRecDepth 100000 in
set_option maxHeartbeats 4000000 in
theorem okX2_takeCode {l : Launch} (hl : l.stackTraces = false) {F : Nat} {x0 : Nat} {x1 : Nat} {h : ab_H} {y : ab_H} (e : fX2_takeCode F x0 x1 h = some y) : ab_Met l mX2_takeCode [.ref x0, .ref x1] h (.inl none, y) := ab_ofS (io := (fun y : ab_H => ((.inl none, y) : ab_R × ab_H))) (x := y) hl (by decide) rfl (Nat.le_of_ble_eq_true rfl) (wX2_takeCode hl F x0 x1 h) e
def mX2_joined : ab_M := (yX2_joined, cX2_joined, 3, (some .int), { frames := 0, cells := 0, slots := 0, locals := 0 })
theorem iX2_joined : ab_MI mX2_joined 3 := ⟨kw_cc2ccf2aca, kw_0069db34e3, by decide +kernel⟩
def fX2_joined (x0 : Int32) (x1 : Int32) (x2 : Int32) (h : ab_H) : Option Int32 := (if x0 = nI 1100 then some (x1 + x2) else (if x0 = nI 1101 then (if x1 < x2 then some (nI 1) else some (nI 0)) else (if x0 = nI 1102 then (if x1 ≤ x2 then some (nI 0) else some (nI 1)) else (if x0 = nI 1103 then some (x1 &&& x2) else some (x1 ||| x2)))))
set_option maxRecDepth 100000 in
set_option maxHeartbeats 4000000 in
theorem wX2_joined {l : Launch} (hl : l.stackTraces = false) (x0 : Int32) (x1 : Int32) (x2 : Int32) (h : ab_H) : ab_S l mX2_joined (fun y : Int32 => ((.inl (some (.int y)), h) : ab_R × ab_H)) 0 0 (fX2_joined x0 x1 x2 h) 0 [(0, .int x0), (1, .int x1), (2, .int x2)] [] h := by
  unfold fX2_joined
  refine ab_iload_n (pc := 0) (n := 0) (i := 0) (j := 0) (by decide +kernel) rfl rfl ?_
  refine ab_swC (pc := 1) (c9 := nI 1100) (off := 31) (tgt := 32) (dflt := 61) (lo := 1100) (hi := 1103) (offs := #[31, 35, 46, 57]) (len := 31) (by decide +kernel) (by decide) (by decide) (by decide) (by decide) (fun g1 => ?_) (fun g1 => ?_)
  · refine ab_iload_n (pc := 32) (n := 1) (i := 1) (j := 1) (by decide +kernel) rfl rfl ?_
    refine ab_iload_n (pc := 33) (n := 2) (i := 2) (j := 2) (by decide +kernel) rfl rfl ?_
    refine ab_iadd (pc := 34) (by decide +kernel) ?_
    exact ab_iret (pc := 35) (by decide +kernel) rfl rfl (Nat.le_of_ble_eq_true rfl) (Nat.le_of_ble_eq_true rfl)
  · refine ab_swC (pc := 1) (c9 := nI 1101) (off := 35) (tgt := 36) (dflt := 61) (lo := 1100) (hi := 1103) (offs := #[31, 35, 46, 57]) (len := 31) (by decide +kernel) (by decide) (by decide) (by decide) (by decide) (fun g2 => ?_) (fun g2 => ?_)
    · refine ab_iload_n (pc := 36) (n := 1) (i := 1) (j := 1) (by decide +kernel) rfl rfl ?_
      refine ab_iload_n (pc := 37) (n := 2) (i := 2) (j := 2) (by decide +kernel) rfl rfl ?_
      refine ab_icmp_ge (off := 7) (pc := 38) (tgt := 45) (by decide +kernel) (by decide) (fun g5 => ?_) (fun g5 => ?_)
      · refine ab_iconst (pc := 41) (n := 1) (v := nI 1) (by decide +kernel) rfl ?_
        refine ab_goto (pc := 42) (off := 4) (tgt := 46) (by decide +kernel) (by decide) ?_
        exact ab_iret (pc := 46) (by decide +kernel) rfl rfl (Nat.le_of_ble_eq_true rfl) (Nat.le_of_ble_eq_true rfl)
      · refine ab_iconst (pc := 45) (n := 0) (v := nI 0) (by decide +kernel) rfl ?_
        exact ab_iret (pc := 46) (by decide +kernel) rfl rfl (Nat.le_of_ble_eq_true rfl) (Nat.le_of_ble_eq_true rfl)
    · refine ab_swC (pc := 1) (c9 := nI 1102) (off := 46) (tgt := 47) (dflt := 61) (lo := 1100) (hi := 1103) (offs := #[31, 35, 46, 57]) (len := 31) (by decide +kernel) (by decide) (by decide) (by decide) (by decide) (fun g3 => ?_) (fun g3 => ?_)
      · refine ab_iload_n (pc := 47) (n := 1) (i := 1) (j := 1) (by decide +kernel) rfl rfl ?_
        refine ab_iload_n (pc := 48) (n := 2) (i := 2) (j := 2) (by decide +kernel) rfl rfl ?_
        refine ab_icmp_le (off := 7) (pc := 49) (tgt := 56) (by decide +kernel) (by decide) (fun g6 => ?_) (fun g6 => ?_)
        · refine ab_iconst (pc := 56) (n := 0) (v := nI 0) (by decide +kernel) rfl ?_
          exact ab_iret (pc := 57) (by decide +kernel) rfl rfl (Nat.le_of_ble_eq_true rfl) (Nat.le_of_ble_eq_true rfl)
        · refine ab_iconst (pc := 52) (n := 1) (v := nI 1) (by decide +kernel) rfl ?_
          refine ab_goto (pc := 53) (off := 4) (tgt := 57) (by decide +kernel) (by decide) ?_
          exact ab_iret (pc := 57) (by decide +kernel) rfl rfl (Nat.le_of_ble_eq_true rfl) (Nat.le_of_ble_eq_true rfl)
      · refine ab_swC (pc := 1) (c9 := nI 1103) (off := 57) (tgt := 58) (dflt := 61) (lo := 1100) (hi := 1103) (offs := #[31, 35, 46, 57]) (len := 31) (by decide +kernel) (by decide) (by decide) (by decide) (by decide) (fun g4 => ?_) (fun g4 => ?_)
        · refine ab_iload_n (pc := 58) (n := 1) (i := 1) (j := 1) (by decide +kernel) rfl rfl ?_
          refine ab_iload_n (pc := 59) (n := 2) (i := 2) (j := 2) (by decide +kernel) rfl rfl ?_
          refine ab_iand (pc := 60) (by decide +kernel) ?_
          exact ab_iret (pc := 61) (by decide +kernel) rfl rfl (Nat.le_of_ble_eq_true rfl) (Nat.le_of_ble_eq_true rfl)
        · refine ab_swD (pc := 1) (tgt := 62) (dflt := 61) (lo := 1100) (hi := 1103) (offs := #[31, 35, 46, 57]) (len := 31) (by decide +kernel) (by have qg1 := ab_neN (n := 1100) (by decide) g1; have qg2 := ab_neN (n := 1101) (by decide) g2; have qg3 := ab_neN (n := 1102) (by decide) g3; have qg4 := ab_neN (n := 1103) (by decide) g4; omega) (by decide) ?_
          refine ab_iload_n (pc := 62) (n := 1) (i := 1) (j := 1) (by decide +kernel) rfl rfl ?_
          refine ab_iload_n (pc := 63) (n := 2) (i := 2) (j := 2) (by decide +kernel) rfl rfl ?_
          refine ab_ior (pc := 64) (by decide +kernel) ?_
          exact ab_iret (pc := 65) (by decide +kernel) rfl rfl (Nat.le_of_ble_eq_true rfl) (Nat.le_of_ble_eq_true rfl)
set_option maxRecDepth 100000 in
set_option maxHeartbeats 4000000 in
theorem okX2_joined {l : Launch} (hl : l.stackTraces = false) {x0 : Int32} {x1 : Int32} {x2 : Int32} {h : ab_H} {y : Int32} (e : fX2_joined x0 x1 x2 h = some y) : ab_Met l mX2_joined [.int x0, .int x1, .int x2] h (.inl (some (.int y)), h) := ab_ofS (io := (fun y : Int32 => ((.inl (some (.int y)), h) : ab_R × ab_H))) (x := y) hl (by decide) rfl (Nat.le_of_ble_eq_true rfl) (wX2_joined hl x0 x1 x2 h) e
def mX3_startText : ab_M := (yX3_startText, cX3_startText, 1, none, { frames := 0, cells := 0, slots := 0, locals := 0 })
theorem iX3_startText : ab_MI mX3_startText 0 := ⟨kw_559bbccb85, kw_c1639047af, by decide +kernel⟩
def fX3_startText (x0 : Nat) (h : ab_H) : Option ab_H := ab_bd (ab_fw h x0 3 5 (.int (nI 0))) fun h1 => some h1
set_option maxRecDepth 100000 in
set_option maxHeartbeats 4000000 in
theorem wX3_startText {l : Launch} (hl : l.stackTraces = false) (x0 : Nat) (h : ab_H) : ab_S l mX3_startText (fun y : ab_H => ((.inl none, y) : ab_R × ab_H)) 0 0 (fX3_startText x0 h) 0 [(0, .ref x0)] [] h := by
  unfold fX3_startText
  refine ab_aload_n (pc := 0) (n := 0) (i := 0) (j := 0) (by decide +kernel) rfl rfl ?_
  refine ab_iconst (pc := 1) (n := 0) (v := nI 0) (by decide +kernel) rfl ?_
  refine ab_put (pc := 2) fl_X3_15_3 rfl (fun _ => rfl) (fun _ => rfl) (by decide +kernel) (fun h1 eh1 => ?_)
  exact ab_vret (pc := 5) (by decide +kernel) rfl rfl (Nat.le_of_ble_eq_true rfl) (Nat.le_of_ble_eq_true rfl)
set_option maxRecDepth 100000 in
set_option maxHeartbeats 4000000 in
theorem okX3_startText {l : Launch} (hl : l.stackTraces = false) {x0 : Nat} {h : ab_H} {y : ab_H} (e : fX3_startText x0 h = some y) : ab_Met l mX3_startText [.ref x0] h (.inl none, y) := ab_ofS (io := (fun y : ab_H => ((.inl none, y) : ab_R × ab_H))) (x := y) hl (by decide) rfl (Nat.le_of_ble_eq_true rfl) (wX3_startText hl x0 h) e
def mX3_madeLaw : ab_M := (yX3_madeLaw, cX3_madeLaw, 2, (some (.object "HungFaces$Law")), { frames := 2, cells := 3, slots := 427, locals := 43 })
theorem iX3_madeLaw : ab_MI mX3_madeLaw 0 := ⟨kw_105bf793c6, kw_c1639047af, by decide +kernel⟩
theorem lk_X3_60_2 : ab_LV RX3 60 2 mX2_takeCode 1 := ⟨RX2, rfl, iX2_takeCode, kw_54bab627f1, kw_30f1e5be2f, kw_8623b807e0⟩
theorem nw_X3_52 : ab_NW RX3 52 2 3 [.int 0, .null, .null] := ⟨(RX2, TX2, 3), tyX2, rfl, rfl, uwX2, tyX2_ok, kw_3e600746c4, kw_94bfbe3342, kw_0069db34e3, by decide +kernel⟩
def fX3_madeLaw (F : Nat) (x0 : Nat) (h : ab_H) : Option (Nat × ab_H) := ab_bd (ab_nw h 2 [.int 0, .null, .null]) fun h1 => ab_bd (ab_fi h1 x0 3 3) fun v2 => ab_bd (ab_fi h1 x0 3 5) fun v3 => ab_bd (fX2_init h.1 v2 v3 h1) fun h4 => ab_bd (ab_fr h4 x0 3 4) fun v5 => ab_ck (ab_io h4 h.1 2 = true) (ab_bd (fX2_takeCode F h.1 v5 h4) fun h6 => some (h.1, h6))
set_option maxRecDepth 100000 in
set_option maxHeartbeats 4000000 in
theorem wX3_madeLaw {l : Launch} (hl : l.stackTraces = false) (F : Nat) (x0 : Nat) (h : ab_H) : ab_S l mX3_madeLaw (fun y : (Nat × ab_H) => ((.inl (some (.ref y.1)), y.2) : ab_R × ab_H)) 0 0 (fX3_madeLaw F x0 h) 0 [(0, .ref x0)] [] h := by
  unfold fX3_madeLaw
  refine ab_newB (pc := 0) nw_X3_52 rfl (Nat.le_of_ble_eq_true rfl) (Nat.le_of_ble_eq_true rfl) (by decide +kernel) (fun h1 eh1 => ?_)
  refine ab_dup (pc := 3) (by decide +kernel) rfl ?_
  refine ab_aload_n (pc := 4) (n := 0) (i := 0) (j := 0) (by decide +kernel) rfl rfl ?_
  refine ab_getI (pc := 5) fl_X3_54_3 (by decide +kernel) (fun v2 ev2 => ?_)
  refine ab_aload_n (pc := 8) (n := 0) (i := 0) (j := 0) (by decide +kernel) rfl rfl ?_
  refine ab_getI (pc := 9) fl_X3_15_3 (by decide +kernel) (fun v3 ev3 => ?_)
  refine ab_callI (M' := mX2_init) (As := [.int v2, .int v3]) (st := [.ref h.1]) (pc := 12) (index := 57) iX2_init (Or.inl kw_14bcf9e0cd) kw_89b138e392 rfl rfl rfl (by decide) rfl (Nat.le_of_ble_eq_true rfl) (by decide +kernel) (fun y9 e9 => okX2_init hl e9) (fun h4 eh4 => ?_)
  refine ab_astore_n (pc := 15) (n := 1) (i := 1) (lv' := [(0, .ref x0), (1, .ref h.1)]) (by decide +kernel) rfl (Nat.le_of_ble_eq_true rfl) rfl rfl ?_
  refine ab_aload_n (pc := 16) (n := 1) (i := 1) (j := 1) (by decide +kernel) rfl rfl ?_
  refine ab_aload_n (pc := 17) (n := 0) (i := 0) (j := 0) (by decide +kernel) rfl rfl ?_
  refine ab_getR (pc := 18) fl_X3_9_3 (by decide +kernel) (fun v5 ev5 => ?_)
  refine ab_callVw (As := [.ref v5]) (st := []) (pc := 21) lk_X3_60_2 rfl rfl rfl (by decide) rfl (Nat.le_of_ble_eq_true rfl) (by decide +kernel) (fun y9 e9 => okX2_takeCode hl (F := F) e9) (fun h6 eh6 => ?_)
  refine ab_aload_n (pc := 24) (n := 1) (i := 1) (j := 1) (by decide +kernel) rfl rfl ?_
  exact ab_aret (pc := 25) (by decide +kernel) rfl rfl (Nat.le_of_ble_eq_true rfl) (Nat.le_of_ble_eq_true rfl)
set_option maxRecDepth 100000 in
set_option maxHeartbeats 4000000 in
theorem okX3_madeLaw {l : Launch} (hl : l.stackTraces = false) {F : Nat} {x0 : Nat} {h : ab_H} {y : (Nat × ab_H)} (e : fX3_madeLaw F x0 h = some y) : ab_Met l mX3_madeLaw [.ref x0] h (.inl (some (.ref y.1)), y.2) := ab_ofS (io := (fun y : (Nat × ab_H) => ((.inl (some (.ref y.1)), y.2) : ab_R × ab_H))) (x := y) hl (by decide) rfl (Nat.le_of_ble_eq_true rfl) (wX3_madeLaw hl F x0 h) e
def mX3_emit : ab_M := (yX3_emit, cX3_emit, 2, none, { frames := 0, cells := 0, slots := 0, locals := 0 })
theorem iX3_emit : ab_MI mX3_emit 1 := ⟨kw_cc23d8af96, kw_c1639047af, by decide +kernel⟩
def fX3_emit (x0 : Nat) (x1 : Int32) (h : ab_H) : Option ab_H := ab_bd (ab_fi h x0 3 5) fun v1 => (if v1 < (nI 400) then ab_bd (ab_fr h x0 3 4) fun v3 => ab_bd (ab_fi h x0 3 5) fun v4 => ab_bd (ab_iw 0 h v3 v4 x1) fun h5 => ab_bd (ab_fi h5 x0 3 5) fun v6 => ab_bd (ab_fw h5 x0 3 5 (.int (v6 + (nI 1)))) fun h7 => some h7 else some h)
set_option maxRecDepth 100000 in
set_option maxHeartbeats 4000000 in
theorem wX3_emit {l : Launch} (hl : l.stackTraces = false) (x0 : Nat) (x1 : Int32) (h : ab_H) : ab_S l mX3_emit (fun y : ab_H => ((.inl none, y) : ab_R × ab_H)) 0 0 (fX3_emit x0 x1 h) 0 [(0, .ref x0), (1, .int x1)] [] h := by
  unfold fX3_emit
  refine ab_aload_n (pc := 0) (n := 0) (i := 0) (j := 0) (by decide +kernel) rfl rfl ?_
  refine ab_getI (pc := 1) fl_X3_15_3 (by decide +kernel) (fun v1 ev1 => ?_)
  refine ab_sipush (pc := 4) (n := 400) (v := nI 400) (by decide +kernel) (by decide) ?_
  refine ab_icmp_ge (off := 23) (pc := 7) (tgt := 30) (by decide +kernel) (by decide) (fun g2 => ?_) (fun g2 => ?_)
  · refine ab_aload_n (pc := 10) (n := 0) (i := 0) (j := 0) (by decide +kernel) rfl rfl ?_
    refine ab_getR (pc := 11) fl_X3_9_3 (by decide +kernel) (fun v3 ev3 => ?_)
    refine ab_aload_n (pc := 14) (n := 0) (i := 0) (j := 0) (by decide +kernel) rfl rfl ?_
    refine ab_getI (pc := 15) fl_X3_15_3 (by decide +kernel) (fun v4 ev4 => ?_)
    refine ab_iload_n (pc := 18) (n := 1) (i := 1) (j := 1) (by decide +kernel) rfl rfl ?_
    refine ab_iast (pc := 19) (by decide +kernel) (fun h5 eh5 => ?_)
    refine ab_aload_n (pc := 20) (n := 0) (i := 0) (j := 0) (by decide +kernel) rfl rfl ?_
    refine ab_dup (pc := 21) (by decide +kernel) rfl ?_
    refine ab_getI (pc := 22) fl_X3_15_3 (by decide +kernel) (fun v6 ev6 => ?_)
    refine ab_iconst (pc := 25) (n := 1) (v := nI 1) (by decide +kernel) rfl ?_
    refine ab_iadd (pc := 26) (by decide +kernel) ?_
    refine ab_put (pc := 27) fl_X3_15_3 rfl (fun _ => rfl) (fun _ => rfl) (by decide +kernel) (fun h7 eh7 => ?_)
    exact ab_vret (pc := 30) (by decide +kernel) rfl rfl (Nat.le_of_ble_eq_true rfl) (Nat.le_of_ble_eq_true rfl)
  · exact ab_vret (pc := 30) (by decide +kernel) rfl rfl (Nat.le_of_ble_eq_true rfl) (Nat.le_of_ble_eq_true rfl)
set_option maxRecDepth 100000 in
set_option maxHeartbeats 4000000 in
theorem okX3_emit {l : Launch} (hl : l.stackTraces = false) {x0 : Nat} {x1 : Int32} {h : ab_H} {y : ab_H} (e : fX3_emit x0 x1 h = some y) : ab_Met l mX3_emit [.ref x0, .int x1] h (.inl none, y) := ab_ofS (io := (fun y : ab_H => ((.inl none, y) : ab_R × ab_H))) (x := y) hl (by decide) rfl (Nat.le_of_ble_eq_true rfl) (wX3_emit hl x0 x1 h) e
def mX4_init : ab_M := (yX4_init, cX4_init, 1, none, { frames := 1, cells := 1, slots := 60, locals := 20 })
theorem iX4_init : ab_MI mX4_init 0 := ⟨kw_197f2085db, kw_06778cebd2, by decide +kernel⟩
def fX4_init (x0 : Nat) (h : ab_H) : Option ab_H := ab_bd (ab_na 1 60 h (nI 60)) fun h1 => ab_bd (ab_fw h1 x0 4 0 (.ref h.1)) fun h2 => some h2
set_option maxRecDepth 100000 in
set_option maxHeartbeats 4000000 in
theorem wX4_init {l : Launch} (hl : l.stackTraces = false) (x0 : Nat) (h : ab_H) : ab_S l mX4_init (fun y : ab_H => ((.inl none, y) : ab_R × ab_H)) 0 0 (fX4_init x0 h) 0 [(0, .ref x0)] [] h := by
  unfold fX4_init
  refine ab_aload_n (pc := 0) (n := 0) (i := 0) (j := 0) (by decide +kernel) rfl rfl ?_
  refine ab_objInit (pc := 1) (index := 3) kw_d4f68bb669 kw_3e5ce616d8 kw_90b5ae3dba (Nat.le_of_ble_eq_true rfl) (Nat.le_of_ble_eq_true rfl) (by decide +kernel) ?_
  refine ab_aload_n (pc := 4) (n := 0) (i := 0) (j := 0) (by decide +kernel) rfl rfl ?_
  refine ab_bipush (pc := 5) (n := 60) (v := nI 60) (by decide +kernel) (by decide) ?_
  refine ab_naL (pc := 7) (B := 60) kw_c205ee8a62 (by decide) (Nat.le_of_ble_eq_true rfl) (Nat.le_of_ble_eq_true rfl) (by decide +kernel) (fun h1 eh1 => ?_)
  refine ab_putF (pc := 9) fl_X4_9_4 rfl rfl (fun _ => rfl) (fun _ => rfl) (by decide +kernel) (fun h2 eh2 => ?_)
  exact ab_vret (pc := 12) (by decide +kernel) rfl rfl (Nat.le_of_ble_eq_true rfl) (Nat.le_of_ble_eq_true rfl)
set_option maxRecDepth 100000 in
set_option maxHeartbeats 4000000 in
theorem okX4_init {l : Launch} (hl : l.stackTraces = false) {x0 : Nat} {h : ab_H} {y : ab_H} (e : fX4_init x0 h = some y) : ab_Met l mX4_init [.ref x0] h (.inl none, y) := ab_ofS (io := (fun y : ab_H => ((.inl none, y) : ab_R × ab_H))) (x := y) hl (by decide) rfl (Nat.le_of_ble_eq_true rfl) (wX4_init hl x0 h) e
def mX4_copyFrom : ab_M := (yX4_copyFrom, cX4_copyFrom, 2, none, { frames := 1, cells := 0, slots := 0, locals := 26 })
theorem iX4_copyFrom : ab_MI mX4_copyFrom 1 := ⟨kw_9bed101ad5, kw_06778cebd2, by decide +kernel⟩
def fX4_copyFrom (x0 : Nat) (x1 : Nat) (h : ab_H) : Option ab_H := ab_bd (ab_fr h x1 4 0) fun v1 => ab_bd (ab_fr h x0 4 0) fun v2 => ab_bd (ab_cpL h v1 (nI 0) v2 (nI 0) (nI 60)) fun h3 => ab_bd (ab_fi h3 x1 4 1) fun v4 => ab_bd (ab_fw h3 x0 4 1 (.int v4)) fun h5 => ab_bd (ab_fi h5 x1 4 2) fun v6 => ab_bd (ab_fw h5 x0 4 2 (.int v6)) fun h7 => some h7
set_option maxRecDepth 100000 in
set_option maxHeartbeats 4000000 in
theorem wX4_copyFrom {l : Launch} (hl : l.stackTraces = false) (x0 : Nat) (x1 : Nat) (h : ab_H) : ab_S l mX4_copyFrom (fun y : ab_H => ((.inl none, y) : ab_R × ab_H)) 0 0 (fX4_copyFrom x0 x1 h) 0 [(0, .ref x0), (1, .ref x1)] [] h := by
  unfold fX4_copyFrom
  refine ab_aload_n (pc := 0) (n := 1) (i := 1) (j := 1) (by decide +kernel) rfl rfl ?_
  refine ab_getR (pc := 1) fl_X4_9_4 (by decide +kernel) (fun v1 ev1 => ?_)
  refine ab_iconst (pc := 4) (n := 0) (v := nI 0) (by decide +kernel) rfl ?_
  refine ab_aload_n (pc := 5) (n := 0) (i := 0) (j := 0) (by decide +kernel) rfl rfl ?_
  refine ab_getR (pc := 6) fl_X4_9_4 (by decide +kernel) (fun v2 ev2 => ?_)
  refine ab_iconst (pc := 9) (n := 0) (v := nI 0) (by decide +kernel) rfl ?_
  refine ab_bipush (pc := 10) (n := 60) (v := nI 60) (by decide +kernel) (by decide) ?_
  refine ab_copyL (pc := 12) kw_16fd81cbdd kw_0e4095fa1c kw_e17af2abaf kw_eddd547dac (Nat.le_of_ble_eq_true rfl) (Nat.le_of_ble_eq_true rfl) (by decide +kernel) (fun h3 eh3 => ?_)
  refine ab_aload_n (pc := 15) (n := 0) (i := 0) (j := 0) (by decide +kernel) rfl rfl ?_
  refine ab_aload_n (pc := 16) (n := 1) (i := 1) (j := 1) (by decide +kernel) rfl rfl ?_
  refine ab_getI (pc := 17) fl_X4_21_4 (by decide +kernel) (fun v4 ev4 => ?_)
  refine ab_put (pc := 20) fl_X4_21_4 rfl (fun _ => rfl) (fun _ => rfl) (by decide +kernel) (fun h5 eh5 => ?_)
  refine ab_aload_n (pc := 23) (n := 0) (i := 0) (j := 0) (by decide +kernel) rfl rfl ?_
  refine ab_aload_n (pc := 24) (n := 1) (i := 1) (j := 1) (by decide +kernel) rfl rfl ?_
  refine ab_getI (pc := 25) fl_X4_25_4 (by decide +kernel) (fun v6 ev6 => ?_)
  refine ab_put (pc := 28) fl_X4_25_4 rfl (fun _ => rfl) (fun _ => rfl) (by decide +kernel) (fun h7 eh7 => ?_)
  exact ab_vret (pc := 31) (by decide +kernel) rfl rfl (Nat.le_of_ble_eq_true rfl) (Nat.le_of_ble_eq_true rfl)
set_option maxRecDepth 100000 in
set_option maxHeartbeats 4000000 in
theorem okX4_copyFrom {l : Launch} (hl : l.stackTraces = false) {x0 : Nat} {x1 : Nat} {h : ab_H} {y : ab_H} (e : fX4_copyFrom x0 x1 h = some y) : ab_Met l mX4_copyFrom [.ref x0, .ref x1] h (.inl none, y) := ab_ofS (io := (fun y : ab_H => ((.inl none, y) : ab_R × ab_H))) (x := y) hl (by decide) rfl (Nat.le_of_ble_eq_true rfl) (wX4_copyFrom hl x0 x1 h) e
def mX4_addRow : ab_M := (yX4_addRow, cX4_addRow, 6, none, { frames := 1, cells := 0, slots := 0, locals := 21 })
theorem iX4_addRow : ab_MI mX4_addRow 5 := ⟨kw_48c0d5ad67, kw_06778cebd2, by decide +kernel⟩
theorem lk_X4_28 : ab_LS RX4 28 mJ9_min_7cf53 2 := ⟨iJ9_min_7cf53, kw_51cb630d57, kw_c73d724a51⟩
def fX4_addRow (x0 : Nat) (x1 : Int32) (x2 : Int32) (x3 : Int32) (x4 : Int32) (x5 : Int32) (h : ab_H) : Option ab_H := ab_bd (ab_fr h x0 4 0) fun v1 => ab_bd (ab_fi h x0 4 2) fun v2 => ab_bd (ab_lw h v1 v2 (((((x1.toInt64 <<< ((nI 16).toInt64 &&& 63)) ||| ((x2 <<< ((nI 12) &&& 31)).toInt64)) ||| ((x3 <<< ((nI 8) &&& 31)).toInt64)) ||| (((x4 - (-1 : Int32)) <<< ((nI 4) &&& 31)).toInt64)) ||| x5.toInt64)) fun h3 => ab_bd (ab_fi h3 x0 4 2) fun v4 => ab_ck (¬ (nI 60) = 0) (ab_bd (ab_fw h3 x0 4 2 (.int (ab_rm (v4 + (nI 1)) (nI 60)))) fun h6 => ab_bd (ab_fi h6 x0 4 1) fun v7 => ab_bd (fJ9_min_7cf53 (v7 + (nI 1)) (nI 60) h6) fun v8 => ab_bd (ab_fw h6 x0 4 1 (.int v8)) fun h9 => some h9)
set_option maxRecDepth 100000 in
set_option maxHeartbeats 4000000 in
theorem wX4_addRow {l : Launch} (hl : l.stackTraces = false) (x0 : Nat) (x1 : Int32) (x2 : Int32) (x3 : Int32) (x4 : Int32) (x5 : Int32) (h : ab_H) : ab_S l mX4_addRow (fun y : ab_H => ((.inl none, y) : ab_R × ab_H)) 0 0 (fX4_addRow x0 x1 x2 x3 x4 x5 h) 0 [(0, .ref x0), (1, .int x1), (2, .int x2), (3, .int x3), (4, .int x4), (5, .int x5)] [] h := by
  unfold fX4_addRow
  refine ab_aload_n (pc := 0) (n := 0) (i := 0) (j := 0) (by decide +kernel) rfl rfl ?_
  refine ab_getR (pc := 1) fl_X4_9_4 (by decide +kernel) (fun v1 ev1 => ?_)
  refine ab_aload_n (pc := 4) (n := 0) (i := 0) (j := 0) (by decide +kernel) rfl rfl ?_
  refine ab_getI (pc := 5) fl_X4_25_4 (by decide +kernel) (fun v2 ev2 => ?_)
  refine ab_iload_n (pc := 8) (n := 1) (i := 1) (j := 1) (by decide +kernel) rfl rfl ?_
  refine ab_i2l (pc := 9) (by decide +kernel) ?_
  refine ab_bipush (pc := 10) (n := 16) (v := nI 16) (by decide +kernel) (by decide) ?_
  refine ab_lshl (pc := 12) (by decide +kernel) ?_
  refine ab_iload_n (pc := 13) (n := 2) (i := 2) (j := 2) (by decide +kernel) rfl rfl ?_
  refine ab_bipush (pc := 14) (n := 12) (v := nI 12) (by decide +kernel) (by decide) ?_
  refine ab_ishl (pc := 16) (by decide +kernel) ?_
  refine ab_i2l (pc := 17) (by decide +kernel) ?_
  refine ab_lor (pc := 18) (by decide +kernel) ?_
  refine ab_iload_n (pc := 19) (n := 3) (i := 3) (j := 3) (by decide +kernel) rfl rfl ?_
  refine ab_bipush (pc := 20) (n := 8) (v := nI 8) (by decide +kernel) (by decide) ?_
  refine ab_ishl (pc := 22) (by decide +kernel) ?_
  refine ab_i2l (pc := 23) (by decide +kernel) ?_
  refine ab_lor (pc := 24) (by decide +kernel) ?_
  refine ab_iload (pc := 25) (i := 4) (j := 4) (by decide +kernel) rfl ?_
  refine ab_iconst (pc := 27) (n := -1) (v := (-1 : Int32)) (by decide +kernel) rfl ?_
  refine ab_isub (pc := 28) (by decide +kernel) ?_
  refine ab_iconst (pc := 29) (n := 4) (v := nI 4) (by decide +kernel) rfl ?_
  refine ab_ishl (pc := 30) (by decide +kernel) ?_
  refine ab_i2l (pc := 31) (by decide +kernel) ?_
  refine ab_lor (pc := 32) (by decide +kernel) ?_
  refine ab_iload (pc := 33) (i := 5) (j := 5) (by decide +kernel) rfl ?_
  refine ab_i2l (pc := 35) (by decide +kernel) ?_
  refine ab_lor (pc := 36) (by decide +kernel) ?_
  refine ab_last (pc := 37) (by decide +kernel) (fun h3 eh3 => ?_)
  refine ab_aload_n (pc := 38) (n := 0) (i := 0) (j := 0) (by decide +kernel) rfl rfl ?_
  refine ab_aload_n (pc := 39) (n := 0) (i := 0) (j := 0) (by decide +kernel) rfl rfl ?_
  refine ab_getI (pc := 40) fl_X4_25_4 (by decide +kernel) (fun v4 ev4 => ?_)
  refine ab_iconst (pc := 43) (n := 1) (v := nI 1) (by decide +kernel) rfl ?_
  refine ab_iadd (pc := 44) (by decide +kernel) ?_
  refine ab_bipush (pc := 45) (n := 60) (v := nI 60) (by decide +kernel) (by decide) ?_
  refine ab_irem (pc := 47) (by decide +kernel) (fun g5 => ?_)
  refine ab_put (pc := 48) fl_X4_25_4 rfl (fun _ => rfl) (fun _ => rfl) (by decide +kernel) (fun h6 eh6 => ?_)
  refine ab_aload_n (pc := 51) (n := 0) (i := 0) (j := 0) (by decide +kernel) rfl rfl ?_
  refine ab_aload_n (pc := 52) (n := 0) (i := 0) (j := 0) (by decide +kernel) rfl rfl ?_
  refine ab_getI (pc := 53) fl_X4_21_4 (by decide +kernel) (fun v7 ev7 => ?_)
  refine ab_iconst (pc := 56) (n := 1) (v := nI 1) (by decide +kernel) rfl ?_
  refine ab_iadd (pc := 57) (by decide +kernel) ?_
  refine ab_bipush (pc := 58) (n := 60) (v := nI 60) (by decide +kernel) (by decide) ?_
  refine ab_callSi (As := [.int (v7 + (nI 1)), .int (nI 60)]) (st := [.ref x0]) (pc := 60) lk_X4_28 rfl rfl rfl (by decide) rfl (Nat.le_of_ble_eq_true rfl) (by decide +kernel) (fun y9 e9 => okJ9_min_7cf53 hl e9) (fun v8 ev8 => ?_)
  refine ab_put (pc := 63) fl_X4_21_4 rfl (fun _ => rfl) (fun _ => rfl) (by decide +kernel) (fun h9 eh9 => ?_)
  exact ab_vret (pc := 66) (by decide +kernel) rfl rfl (Nat.le_of_ble_eq_true rfl) (Nat.le_of_ble_eq_true rfl)
set_option maxRecDepth 100000 in
set_option maxHeartbeats 4000000 in
theorem okX4_addRow {l : Launch} (hl : l.stackTraces = false) {x0 : Nat} {x1 : Int32} {x2 : Int32} {x3 : Int32} {x4 : Int32} {x5 : Int32} {h : ab_H} {y : ab_H} (e : fX4_addRow x0 x1 x2 x3 x4 x5 h = some y) : ab_Met l mX4_addRow [.ref x0, .int x1, .int x2, .int x3, .int x4, .int x5] h (.inl none, y) := ab_ofS (io := (fun y : ab_H => ((.inl none, y) : ab_R × ab_H))) (x := y) hl (by decide) rfl (Nat.le_of_ble_eq_true rfl) (wX4_addRow hl x0 x1 x2 x3 x4 x5 h) e
def mX4_cell : ab_M := (yX4_cell, cX4_cell, 5, (some .int), { frames := 1, cells := 0, slots := 0, locals := 22 })
theorem iX4_cell : ab_MI mX4_cell 2 := ⟨kw_ee616f0f26, kw_06778cebd2, by decide +kernel⟩
theorem lk_X4_34 : ab_LS RX4 34 mJ9_floorMod_7cf53 2 := ⟨iJ9_floorMod_7cf53, kw_52cddeaf54, kw_757bf6934d⟩
def fX4_cell (x0 : Nat) (x1 : Int32) (x2 : Int32) (h : ab_H) : Option Int32 := (if x1 < 0 then some (-99 : Int32) else ab_bd (ab_fi h x0 4 1) fun v2 => (if x1 < v2 then ab_bd (ab_fr h x0 4 0) fun v4 => ab_bd (ab_fi h x0 4 2) fun v5 => ab_bd (fJ9_floorMod_7cf53 ((v5 - (nI 1)) - x1) (nI 60) h) fun v6 => ab_bd (ab_la h v4 v6) fun v7 => (if x2 = nI 0 then some ((v7 >>> ((nI 16).toInt64 &&& 63)).toInt32) else (if x2 = nI 1 then some (((v7 >>> ((nI 12).toInt64 &&& 63)).toInt32) &&& (nI 15)) else (if x2 = nI 2 then some (((v7 >>> ((nI 8).toInt64 &&& 63)).toInt32) &&& (nI 15)) else (if x2 = nI 3 then some ((((v7 >>> ((nI 4).toInt64 &&& 63)).toInt32) &&& (nI 15)) + (-1 : Int32)) else (if x2 = nI 4 then some (v7.toInt32 &&& (nI 15)) else some (-99 : Int32)))))) else some (-99 : Int32)))
set_option maxRecDepth 100000 in
set_option maxHeartbeats 4000000 in
theorem wX4_cell {l : Launch} (hl : l.stackTraces = false) (x0 : Nat) (x1 : Int32) (x2 : Int32) (h : ab_H) : ab_S l mX4_cell (fun y : Int32 => ((.inl (some (.int y)), h) : ab_R × ab_H)) 0 0 (fX4_cell x0 x1 x2 h) 0 [(0, .ref x0), (1, .int x1), (2, .int x2)] [] h := by
  unfold fX4_cell
  refine ab_iload_n (pc := 0) (n := 1) (i := 1) (j := 1) (by decide +kernel) rfl rfl ?_
  refine ab_if_lt (off := 11) (pc := 1) (tgt := 12) (by decide +kernel) (by decide) (fun g1 => ?_) (fun g1 => ?_)
  · refine ab_bipush (pc := 12) (n := -99) (v := (-99 : Int32)) (by decide +kernel) (by decide) ?_
    exact ab_iret (pc := 14) (by decide +kernel) rfl rfl (Nat.le_of_ble_eq_true rfl) (Nat.le_of_ble_eq_true rfl)
  · refine ab_iload_n (pc := 4) (n := 1) (i := 1) (j := 1) (by decide +kernel) rfl rfl ?_
    refine ab_aload_n (pc := 5) (n := 0) (i := 0) (j := 0) (by decide +kernel) rfl rfl ?_
    refine ab_getI (pc := 6) fl_X4_21_4 (by decide +kernel) (fun v2 ev2 => ?_)
    refine ab_icmp_lt (off := 6) (pc := 9) (tgt := 15) (by decide +kernel) (by decide) (fun g3 => ?_) (fun g3 => ?_)
    · refine ab_aload_n (pc := 15) (n := 0) (i := 0) (j := 0) (by decide +kernel) rfl rfl ?_
      refine ab_getR (pc := 16) fl_X4_9_4 (by decide +kernel) (fun v4 ev4 => ?_)
      refine ab_aload_n (pc := 19) (n := 0) (i := 0) (j := 0) (by decide +kernel) rfl rfl ?_
      refine ab_getI (pc := 20) fl_X4_25_4 (by decide +kernel) (fun v5 ev5 => ?_)
      refine ab_iconst (pc := 23) (n := 1) (v := nI 1) (by decide +kernel) rfl ?_
      refine ab_isub (pc := 24) (by decide +kernel) ?_
      refine ab_iload_n (pc := 25) (n := 1) (i := 1) (j := 1) (by decide +kernel) rfl rfl ?_
      refine ab_isub (pc := 26) (by decide +kernel) ?_
      refine ab_bipush (pc := 27) (n := 60) (v := nI 60) (by decide +kernel) (by decide) ?_
      refine ab_callSi (As := [.int ((v5 - (nI 1)) - x1), .int (nI 60)]) (st := [.ref v4]) (pc := 29) lk_X4_34 rfl rfl rfl (by decide) rfl (Nat.le_of_ble_eq_true rfl) (by decide +kernel) (fun y9 e9 => okJ9_floorMod_7cf53 hl e9) (fun v6 ev6 => ?_)
      refine ab_lald (pc := 32) (by decide +kernel) (fun v7 ev7 => ?_)
      refine ab_lstore_n (pc := 33) (n := 3) (i := 3) (by decide +kernel) rfl (Nat.le_of_ble_eq_true rfl) rfl ?_
      refine ab_iload_n (pc := 34) (n := 2) (i := 2) (j := 2) (by decide +kernel) rfl rfl ?_
      refine ab_swC (pc := 35) (c9 := nI 0) (off := 33) (tgt := 68) (dflt := 73) (lo := 0) (hi := 4) (offs := #[33, 39, 48, 57, 67]) (len := 33) (by decide +kernel) (by decide) (by decide) (by decide) (by decide) (fun g8 => ?_) (fun g8 => ?_)
      · refine ab_lload_n (pc := 68) (n := 3) (i := 3) (j := 3) (by decide +kernel) rfl rfl ?_
        refine ab_bipush (pc := 69) (n := 16) (v := nI 16) (by decide +kernel) (by decide) ?_
        refine ab_lshr (pc := 71) (by decide +kernel) ?_
        refine ab_l2i (pc := 72) (by decide +kernel) ?_
        exact ab_iret (pc := 73) (by decide +kernel) rfl rfl (Nat.le_of_ble_eq_true rfl) (Nat.le_of_ble_eq_true rfl)
      · refine ab_swC (pc := 35) (c9 := nI 1) (off := 39) (tgt := 74) (dflt := 73) (lo := 0) (hi := 4) (offs := #[33, 39, 48, 57, 67]) (len := 33) (by decide +kernel) (by decide) (by decide) (by decide) (by decide) (fun g9 => ?_) (fun g9 => ?_)
        · refine ab_lload_n (pc := 74) (n := 3) (i := 3) (j := 3) (by decide +kernel) rfl rfl ?_
          refine ab_bipush (pc := 75) (n := 12) (v := nI 12) (by decide +kernel) (by decide) ?_
          refine ab_lshr (pc := 77) (by decide +kernel) ?_
          refine ab_l2i (pc := 78) (by decide +kernel) ?_
          refine ab_bipush (pc := 79) (n := 15) (v := nI 15) (by decide +kernel) (by decide) ?_
          refine ab_iand (pc := 81) (by decide +kernel) ?_
          exact ab_iret (pc := 82) (by decide +kernel) rfl rfl (Nat.le_of_ble_eq_true rfl) (Nat.le_of_ble_eq_true rfl)
        · refine ab_swC (pc := 35) (c9 := nI 2) (off := 48) (tgt := 83) (dflt := 73) (lo := 0) (hi := 4) (offs := #[33, 39, 48, 57, 67]) (len := 33) (by decide +kernel) (by decide) (by decide) (by decide) (by decide) (fun g10 => ?_) (fun g10 => ?_)
          · refine ab_lload_n (pc := 83) (n := 3) (i := 3) (j := 3) (by decide +kernel) rfl rfl ?_
            refine ab_bipush (pc := 84) (n := 8) (v := nI 8) (by decide +kernel) (by decide) ?_
            refine ab_lshr (pc := 86) (by decide +kernel) ?_
            refine ab_l2i (pc := 87) (by decide +kernel) ?_
            refine ab_bipush (pc := 88) (n := 15) (v := nI 15) (by decide +kernel) (by decide) ?_
            refine ab_iand (pc := 90) (by decide +kernel) ?_
            exact ab_iret (pc := 91) (by decide +kernel) rfl rfl (Nat.le_of_ble_eq_true rfl) (Nat.le_of_ble_eq_true rfl)
          · refine ab_swC (pc := 35) (c9 := nI 3) (off := 57) (tgt := 92) (dflt := 73) (lo := 0) (hi := 4) (offs := #[33, 39, 48, 57, 67]) (len := 33) (by decide +kernel) (by decide) (by decide) (by decide) (by decide) (fun g11 => ?_) (fun g11 => ?_)
            · refine ab_lload_n (pc := 92) (n := 3) (i := 3) (j := 3) (by decide +kernel) rfl rfl ?_
              refine ab_iconst (pc := 93) (n := 4) (v := nI 4) (by decide +kernel) rfl ?_
              refine ab_lshr (pc := 94) (by decide +kernel) ?_
              refine ab_l2i (pc := 95) (by decide +kernel) ?_
              refine ab_bipush (pc := 96) (n := 15) (v := nI 15) (by decide +kernel) (by decide) ?_
              refine ab_iand (pc := 98) (by decide +kernel) ?_
              refine ab_iconst (pc := 99) (n := -1) (v := (-1 : Int32)) (by decide +kernel) rfl ?_
              refine ab_iadd (pc := 100) (by decide +kernel) ?_
              exact ab_iret (pc := 101) (by decide +kernel) rfl rfl (Nat.le_of_ble_eq_true rfl) (Nat.le_of_ble_eq_true rfl)
            · refine ab_swC (pc := 35) (c9 := nI 4) (off := 67) (tgt := 102) (dflt := 73) (lo := 0) (hi := 4) (offs := #[33, 39, 48, 57, 67]) (len := 33) (by decide +kernel) (by decide) (by decide) (by decide) (by decide) (fun g12 => ?_) (fun g12 => ?_)
              · refine ab_lload_n (pc := 102) (n := 3) (i := 3) (j := 3) (by decide +kernel) rfl rfl ?_
                refine ab_l2i (pc := 103) (by decide +kernel) ?_
                refine ab_bipush (pc := 104) (n := 15) (v := nI 15) (by decide +kernel) (by decide) ?_
                refine ab_iand (pc := 106) (by decide +kernel) ?_
                exact ab_iret (pc := 107) (by decide +kernel) rfl rfl (Nat.le_of_ble_eq_true rfl) (Nat.le_of_ble_eq_true rfl)
              · refine ab_swD (pc := 35) (tgt := 108) (dflt := 73) (lo := 0) (hi := 4) (offs := #[33, 39, 48, 57, 67]) (len := 33) (by decide +kernel) (by have qg8 := ab_neN (n := 0) (by decide) g8; have qg9 := ab_neN (n := 1) (by decide) g9; have qg10 := ab_neN (n := 2) (by decide) g10; have qg11 := ab_neN (n := 3) (by decide) g11; have qg12 := ab_neN (n := 4) (by decide) g12; omega) (by decide) ?_
                refine ab_bipush (pc := 108) (n := -99) (v := (-99 : Int32)) (by decide +kernel) (by decide) ?_
                exact ab_iret (pc := 110) (by decide +kernel) rfl rfl (Nat.le_of_ble_eq_true rfl) (Nat.le_of_ble_eq_true rfl)
    · refine ab_bipush (pc := 12) (n := -99) (v := (-99 : Int32)) (by decide +kernel) (by decide) ?_
      exact ab_iret (pc := 14) (by decide +kernel) rfl rfl (Nat.le_of_ble_eq_true rfl) (Nat.le_of_ble_eq_true rfl)
set_option maxRecDepth 100000 in
set_option maxHeartbeats 4000000 in
theorem okX4_cell {l : Launch} (hl : l.stackTraces = false) {x0 : Nat} {x1 : Int32} {x2 : Int32} {h : ab_H} {y : Int32} (e : fX4_cell x0 x1 x2 h = some y) : ab_Met l mX4_cell [.ref x0, .int x1, .int x2] h (.inl (some (.int y)), h) := ab_ofS (io := (fun y : Int32 => ((.inl (some (.int y)), h) : ab_R × ab_H))) (x := y) hl (by decide) rfl (Nat.le_of_ble_eq_true rfl) (wX4_cell hl x0 x1 x2 h) e
def mX5_init : ab_M := (yX5_init, cX5_init, 1, none, { frames := 1, cells := 2, slots := 20, locals := 20 })
theorem iX5_init : ab_MI mX5_init 0 := ⟨kw_a68027d742, kw_c0673d947a, by decide +kernel⟩
def fX5_init (x0 : Nat) (h : ab_H) : Option ab_H := ab_bd (ab_na 0 10 h (nI 10)) fun h1 => ab_bd (ab_fw h1 x0 5 0 (.ref h.1)) fun h2 => ab_bd (ab_na 0 10 h2 (nI 10)) fun h3 => ab_bd (ab_fw h3 x0 5 1 (.ref h2.1)) fun h4 => some h4
set_option maxRecDepth 100000 in
set_option maxHeartbeats 4000000 in
theorem wX5_init {l : Launch} (hl : l.stackTraces = false) (x0 : Nat) (h : ab_H) : ab_S l mX5_init (fun y : ab_H => ((.inl none, y) : ab_R × ab_H)) 0 0 (fX5_init x0 h) 0 [(0, .ref x0)] [] h := by
  unfold fX5_init
  refine ab_aload_n (pc := 0) (n := 0) (i := 0) (j := 0) (by decide +kernel) rfl rfl ?_
  refine ab_objInit (pc := 1) (index := 3) kw_75f01edb0e kw_3e5ce616d8 kw_90b5ae3dba (Nat.le_of_ble_eq_true rfl) (Nat.le_of_ble_eq_true rfl) (by decide +kernel) ?_
  refine ab_aload_n (pc := 4) (n := 0) (i := 0) (j := 0) (by decide +kernel) rfl rfl ?_
  refine ab_bipush (pc := 5) (n := 10) (v := nI 10) (by decide +kernel) (by decide) ?_
  refine ab_naI (pc := 7) (B := 10) kw_b5d2f4680e (by decide) (Nat.le_of_ble_eq_true rfl) (Nat.le_of_ble_eq_true rfl) (by decide +kernel) (fun h1 eh1 => ?_)
  refine ab_putF (pc := 9) fl_X5_9_5 rfl rfl (fun _ => rfl) (fun _ => rfl) (by decide +kernel) (fun h2 eh2 => ?_)
  refine ab_aload_n (pc := 12) (n := 0) (i := 0) (j := 0) (by decide +kernel) rfl rfl ?_
  refine ab_bipush (pc := 13) (n := 10) (v := nI 10) (by decide +kernel) (by decide) ?_
  refine ab_naI (pc := 15) (B := 10) kw_b5d2f4680e (by decide) (Nat.le_of_ble_eq_true rfl) (Nat.le_of_ble_eq_true rfl) (by decide +kernel) (fun h3 eh3 => ?_)
  refine ab_putF (pc := 17) fl_X5_15_5 rfl rfl (fun _ => rfl) (fun _ => rfl) (by decide +kernel) (fun h4 eh4 => ?_)
  exact ab_vret (pc := 20) (by decide +kernel) rfl rfl (Nat.le_of_ble_eq_true rfl) (Nat.le_of_ble_eq_true rfl)
set_option maxRecDepth 100000 in
set_option maxHeartbeats 4000000 in
theorem okX5_init {l : Launch} (hl : l.stackTraces = false) {x0 : Nat} {h : ab_H} {y : ab_H} (e : fX5_init x0 h = some y) : ab_Met l mX5_init [.ref x0] h (.inl none, y) := ab_ofS (io := (fun y : ab_H => ((.inl none, y) : ab_R × ab_H))) (x := y) hl (by decide) rfl (Nat.le_of_ble_eq_true rfl) (wX5_init hl x0 h) e
def mX6_forget : ab_M := (yX6_forget, cX6_forget, 1, none, { frames := 0, cells := 0, slots := 0, locals := 0 })
theorem iX6_forget : ab_MI mX6_forget 0 := ⟨kw_0ae69df129, kw_252be10908, by decide +kernel⟩
def fX6_forget (x0 : Nat) (h : ab_H) : Option ab_H := ab_bd (ab_fw h x0 6 2 (.int (nI 0))) fun h1 => some h1
set_option maxRecDepth 100000 in
set_option maxHeartbeats 4000000 in
theorem wX6_forget {l : Launch} (hl : l.stackTraces = false) (x0 : Nat) (h : ab_H) : ab_S l mX6_forget (fun y : ab_H => ((.inl none, y) : ab_R × ab_H)) 0 0 (fX6_forget x0 h) 0 [(0, .ref x0)] [] h := by
  unfold fX6_forget
  refine ab_aload_n (pc := 0) (n := 0) (i := 0) (j := 0) (by decide +kernel) rfl rfl ?_
  refine ab_iconst (pc := 1) (n := 0) (v := nI 0) (by decide +kernel) rfl ?_
  refine ab_put (pc := 2) fl_X6_20_6 rfl (fun _ => rfl) (fun _ => rfl) (by decide +kernel) (fun h1 eh1 => ?_)
  exact ab_vret (pc := 5) (by decide +kernel) rfl rfl (Nat.le_of_ble_eq_true rfl) (Nat.le_of_ble_eq_true rfl)
set_option maxRecDepth 100000 in
set_option maxHeartbeats 4000000 in
theorem okX6_forget {l : Launch} (hl : l.stackTraces = false) {x0 : Nat} {h : ab_H} {y : ab_H} (e : fX6_forget x0 h = some y) : ab_Met l mX6_forget [.ref x0] h (.inl none, y) := ab_ofS (io := (fun y : ab_H => ((.inl none, y) : ab_R × ab_H))) (x := y) hl (by decide) rfl (Nat.le_of_ble_eq_true rfl) (wX6_forget hl x0 h) e
def mX7_init : ab_M := (yX7_init, cX7_init, 1, none, { frames := 1, cells := 6, slots := 1080, locals := 20 })
theorem iX7_init : ab_MI mX7_init 0 := ⟨kw_b5690207f4, kw_7a4ae534b5, by decide +kernel⟩
def fX7_init (x0 : Nat) (h : ab_H) : Option ab_H := ab_bd (ab_na 0 12 h (nI 12)) fun h1 => ab_bd (ab_fw h1 x0 7 0 (.ref h.1)) fun h2 => ab_bd (ab_na 0 12 h2 (nI 12)) fun h3 => ab_bd (ab_fw h3 x0 7 1 (.ref h2.1)) fun h4 => ab_bd (ab_na 2 12 h4 (nI 12)) fun h5 => ab_bd (ab_fw h5 x0 7 2 (.ref h4.1)) fun h6 => ab_bd (ab_na 0 10 h6 (nI 10)) fun h7 => ab_bd (ab_fw h7 x0 7 3 (.ref h6.1)) fun h8 => ab_bd (ab_na 0 10 h8 (nI 10)) fun h9 => ab_bd (ab_fw h9 x0 7 4 (.ref h8.1)) fun h10 => ab_bd (ab_na 0 1024 h10 (nI 1024)) fun h11 => ab_bd (ab_fw h11 x0 7 5 (.ref h10.1)) fun h12 => some h12
set_option maxRecDepth 100000 in
set_option maxHeartbeats 4000000 in
theorem wX7_init {l : Launch} (hl : l.stackTraces = false) (x0 : Nat) (h : ab_H) : ab_S l mX7_init (fun y : ab_H => ((.inl none, y) : ab_R × ab_H)) 0 0 (fX7_init x0 h) 0 [(0, .ref x0)] [] h := by
  unfold fX7_init
  refine ab_aload_n (pc := 0) (n := 0) (i := 0) (j := 0) (by decide +kernel) rfl rfl ?_
  refine ab_objInit (pc := 1) (index := 3) kw_8825f2d268 kw_3e5ce616d8 kw_90b5ae3dba (Nat.le_of_ble_eq_true rfl) (Nat.le_of_ble_eq_true rfl) (by decide +kernel) ?_
  refine ab_aload_n (pc := 4) (n := 0) (i := 0) (j := 0) (by decide +kernel) rfl rfl ?_
  refine ab_bipush (pc := 5) (n := 12) (v := nI 12) (by decide +kernel) (by decide) ?_
  refine ab_naI (pc := 7) (B := 12) kw_b5d2f4680e (by decide) (Nat.le_of_ble_eq_true rfl) (Nat.le_of_ble_eq_true rfl) (by decide +kernel) (fun h1 eh1 => ?_)
  refine ab_putF (pc := 9) fl_X7_9_7 rfl rfl (fun _ => rfl) (fun _ => rfl) (by decide +kernel) (fun h2 eh2 => ?_)
  refine ab_aload_n (pc := 12) (n := 0) (i := 0) (j := 0) (by decide +kernel) rfl rfl ?_
  refine ab_bipush (pc := 13) (n := 12) (v := nI 12) (by decide +kernel) (by decide) ?_
  refine ab_naI (pc := 15) (B := 12) kw_b5d2f4680e (by decide) (Nat.le_of_ble_eq_true rfl) (Nat.le_of_ble_eq_true rfl) (by decide +kernel) (fun h3 eh3 => ?_)
  refine ab_putF (pc := 17) fl_X7_15_7 rfl rfl (fun _ => rfl) (fun _ => rfl) (by decide +kernel) (fun h4 eh4 => ?_)
  refine ab_aload_n (pc := 20) (n := 0) (i := 0) (j := 0) (by decide +kernel) rfl rfl ?_
  refine ab_bipush (pc := 21) (n := 12) (v := nI 12) (by decide +kernel) (by decide) ?_
  refine ab_naZ (pc := 23) (B := 12) kw_93b502cba4 (by decide) (Nat.le_of_ble_eq_true rfl) (Nat.le_of_ble_eq_true rfl) (by decide +kernel) (fun h5 eh5 => ?_)
  refine ab_putF (pc := 25) fl_X7_18_7 rfl rfl (fun _ => rfl) (fun _ => rfl) (by decide +kernel) (fun h6 eh6 => ?_)
  refine ab_aload_n (pc := 28) (n := 0) (i := 0) (j := 0) (by decide +kernel) rfl rfl ?_
  refine ab_bipush (pc := 29) (n := 10) (v := nI 10) (by decide +kernel) (by decide) ?_
  refine ab_naI (pc := 31) (B := 10) kw_b5d2f4680e (by decide) (Nat.le_of_ble_eq_true rfl) (Nat.le_of_ble_eq_true rfl) (by decide +kernel) (fun h7 eh7 => ?_)
  refine ab_putF (pc := 33) fl_X7_22_7 rfl rfl (fun _ => rfl) (fun _ => rfl) (by decide +kernel) (fun h8 eh8 => ?_)
  refine ab_aload_n (pc := 36) (n := 0) (i := 0) (j := 0) (by decide +kernel) rfl rfl ?_
  refine ab_bipush (pc := 37) (n := 10) (v := nI 10) (by decide +kernel) (by decide) ?_
  refine ab_naI (pc := 39) (B := 10) kw_b5d2f4680e (by decide) (Nat.le_of_ble_eq_true rfl) (Nat.le_of_ble_eq_true rfl) (by decide +kernel) (fun h9 eh9 => ?_)
  refine ab_putF (pc := 41) fl_X7_25_7 rfl rfl (fun _ => rfl) (fun _ => rfl) (by decide +kernel) (fun h10 eh10 => ?_)
  refine ab_aload_n (pc := 44) (n := 0) (i := 0) (j := 0) (by decide +kernel) rfl rfl ?_
  refine ab_sipush (pc := 45) (n := 1024) (v := nI 1024) (by decide +kernel) (by decide) ?_
  refine ab_naI (pc := 48) (B := 1024) kw_b5d2f4680e (by decide) (Nat.le_of_ble_eq_true rfl) (Nat.le_of_ble_eq_true rfl) (by decide +kernel) (fun h11 eh11 => ?_)
  refine ab_putF (pc := 50) fl_X7_28_7 rfl rfl (fun _ => rfl) (fun _ => rfl) (by decide +kernel) (fun h12 eh12 => ?_)
  exact ab_vret (pc := 53) (by decide +kernel) rfl rfl (Nat.le_of_ble_eq_true rfl) (Nat.le_of_ble_eq_true rfl)
set_option maxRecDepth 100000 in
set_option maxHeartbeats 4000000 in
theorem okX7_init {l : Launch} (hl : l.stackTraces = false) {x0 : Nat} {h : ab_H} {y : ab_H} (e : fX7_init x0 h = some y) : ab_Met l mX7_init [.ref x0] h (.inl none, y) := ab_ofS (io := (fun y : ab_H => ((.inl none, y) : ab_R × ab_H))) (x := y) hl (by decide) rfl (Nat.le_of_ble_eq_true rfl) (wX7_init hl x0 h) e
def mX8_init : ab_M := (yX8_init, cX8_init, 2, none, { frames := 2, cells := 11, slots := 335, locals := 40 })
theorem iX8_init : ab_MI mX8_init 1 := ⟨kw_9635c25e63, kw_a869362287, by decide +kernel⟩
theorem lk_X8_57 : ab_LS RX8 57 mJ7_fill_53178 2 := ⟨iJ7_fill_53178, kw_52fa57294b, kw_7d558e229b⟩
theorem nw_X8_18 : ab_NW RX8 18 4 3 [.null, .int 0, .int 0] := ⟨(RX4, TX4, 3), tyX4, rfl, rfl, uwX4, tyX4_ok, kw_47985f4953, kw_30b1a15709, kw_06778cebd2, by decide +kernel⟩
def fX8_init (F : Nat) (x0 : Nat) (x1 : Nat) (h : ab_H) : Option ab_H := ab_bd (ab_fw h x0 8 1 (.int (nI 6))) fun h1 => ab_bd (ab_fw h1 x0 8 5 (.int (nI 1))) fun h2 => ab_bd (ab_nw h2 4 [.null, .int 0, .int 0]) fun h3 => ab_bd (fX4_init h2.1 h3) fun h4 => ab_bd (ab_fw h4 x0 8 8 (.ref h2.1)) fun h5 => ab_bd (ab_na 0 10 h5 (nI 10)) fun h6 => ab_bd (ab_fw h6 x0 8 9 (.ref h5.1)) fun h7 => ab_bd (ab_na 0 10 h7 (nI 10)) fun h8 => ab_bd (ab_fw h8 x0 8 10 (.ref h7.1)) fun h9 => ab_bd (ab_na 0 10 h9 (nI 10)) fun h10 => ab_bd (ab_fw h10 x0 8 11 (.ref h9.1)) fun h11 => ab_bd (ab_na 0 10 h11 (nI 10)) fun h12 => ab_bd (ab_fw h12 x0 8 12 (.ref h11.1)) fun h13 => ab_bd (ab_na 0 10 h13 (nI 10)) fun h14 => ab_bd (ab_fw h14 x0 8 13 (.ref h13.1)) fun h15 => ab_bd (ab_na 0 10 h15 (nI 10)) fun h16 => ab_bd (ab_fw h16 x0 8 14 (.ref h15.1)) fun h17 => ab_bd (ab_na 0 100 h17 (nI 100)) fun h18 => ab_bd (ab_fw h18 x0 8 15 (.ref h17.1)) fun h19 => ab_bd (ab_na 0 100 h19 (nI 100)) fun h20 => ab_bd (ab_fw h20 x0 8 16 (.ref h19.1)) fun h21 => ab_bd (ab_na 0 12 h21 (nI 12)) fun h22 => ab_bd (ab_fw h22 x0 8 17 (.ref h21.1)) fun h23 => ab_bd (ab_fw h23 x0 8 7 (.ref x1)) fun h24 => ab_bd (ab_fr h24 x0 8 11) fun v25 => ab_bd (fJ7_fill_53178 F v25 (-1 : Int32) h24) fun h26 => ab_bd (ab_fr h26 x0 8 12) fun v27 => ab_bd (fJ7_fill_53178 F v27 (-1 : Int32) h26) fun h28 => ab_bd (ab_fr h28 x0 8 13) fun v29 => ab_bd (fJ7_fill_53178 F v29 (-1 : Int32) h28) fun h30 => ab_bd (ab_fr h30 x0 8 17) fun v31 => ab_bd (fJ7_fill_53178 F v31 (-1 : Int32) h30) fun h32 => some h32
set_option maxRecDepth 100000 in
set_option maxHeartbeats 4000000 in
theorem wX8_init {l : Launch} (hl : l.stackTraces = false) (F : Nat) (x0 : Nat) (x1 : Nat) (h : ab_H) : ab_S l mX8_init (fun y : ab_H => ((.inl none, y) : ab_R × ab_H)) 0 0 (fX8_init F x0 x1 h) 0 [(0, .ref x0), (1, .ref x1)] [] h := by
  unfold fX8_init
  refine ab_aload_n (pc := 0) (n := 0) (i := 0) (j := 0) (by decide +kernel) rfl rfl ?_
  refine ab_objInit (pc := 1) (index := 3) kw_16838330eb kw_3e5ce616d8 kw_90b5ae3dba (Nat.le_of_ble_eq_true rfl) (Nat.le_of_ble_eq_true rfl) (by decide +kernel) ?_
  refine ab_aload_n (pc := 4) (n := 0) (i := 0) (j := 0) (by decide +kernel) rfl rfl ?_
  refine ab_bipush (pc := 5) (n := 6) (v := nI 6) (by decide +kernel) (by decide) ?_
  refine ab_put (pc := 7) fl_X8_9_8 rfl (fun _ => rfl) (fun _ => rfl) (by decide +kernel) (fun h1 eh1 => ?_)
  refine ab_aload_n (pc := 10) (n := 0) (i := 0) (j := 0) (by decide +kernel) rfl rfl ?_
  refine ab_iconst (pc := 11) (n := 1) (v := nI 1) (by decide +kernel) rfl ?_
  refine ab_put (pc := 12) fl_X8_15_8 rfl (fun _ => rfl) (fun _ => rfl) (by decide +kernel) (fun h2 eh2 => ?_)
  refine ab_aload_n (pc := 15) (n := 0) (i := 0) (j := 0) (by decide +kernel) rfl rfl ?_
  refine ab_newB (pc := 16) nw_X8_18 rfl (Nat.le_of_ble_eq_true rfl) (Nat.le_of_ble_eq_true rfl) (by decide +kernel) (fun h3 eh3 => ?_)
  refine ab_dup (pc := 19) (by decide +kernel) rfl ?_
  refine ab_callI (M' := mX4_init) (As := []) (st := [.ref h2.1, .ref x0]) (pc := 20) (index := 20) iX4_init (Or.inr ⟨"HungFaces", (by show (RX8, 20, yX4_init, "HungFaces") ∈ ab_nm; decide +kernel)⟩) kw_891ce07921 rfl rfl rfl (by decide) rfl (Nat.le_of_ble_eq_true rfl) (by decide +kernel) (fun y9 e9 => okX4_init hl e9) (fun h4 eh4 => ?_)
  refine ab_putF (pc := 23) fl_X8_21_8 rfl rfl (fun _ => rfl) (fun _ => rfl) (by decide +kernel) (fun h5 eh5 => ?_)
  refine ab_aload_n (pc := 26) (n := 0) (i := 0) (j := 0) (by decide +kernel) rfl rfl ?_
  refine ab_bipush (pc := 27) (n := 10) (v := nI 10) (by decide +kernel) (by decide) ?_
  refine ab_naI (pc := 29) (B := 10) kw_b5d2f4680e (by decide) (Nat.le_of_ble_eq_true rfl) (Nat.le_of_ble_eq_true rfl) (by decide +kernel) (fun h6 eh6 => ?_)
  refine ab_putF (pc := 31) fl_X8_25_8 rfl rfl (fun _ => rfl) (fun _ => rfl) (by decide +kernel) (fun h7 eh7 => ?_)
  refine ab_aload_n (pc := 34) (n := 0) (i := 0) (j := 0) (by decide +kernel) rfl rfl ?_
  refine ab_bipush (pc := 35) (n := 10) (v := nI 10) (by decide +kernel) (by decide) ?_
  refine ab_naI (pc := 37) (B := 10) kw_b5d2f4680e (by decide) (Nat.le_of_ble_eq_true rfl) (Nat.le_of_ble_eq_true rfl) (by decide +kernel) (fun h8 eh8 => ?_)
  refine ab_putF (pc := 39) fl_X8_29_8 rfl rfl (fun _ => rfl) (fun _ => rfl) (by decide +kernel) (fun h9 eh9 => ?_)
  refine ab_aload_n (pc := 42) (n := 0) (i := 0) (j := 0) (by decide +kernel) rfl rfl ?_
  refine ab_bipush (pc := 43) (n := 10) (v := nI 10) (by decide +kernel) (by decide) ?_
  refine ab_naI (pc := 45) (B := 10) kw_b5d2f4680e (by decide) (Nat.le_of_ble_eq_true rfl) (Nat.le_of_ble_eq_true rfl) (by decide +kernel) (fun h10 eh10 => ?_)
  refine ab_putF (pc := 47) fl_X8_32_8 rfl rfl (fun _ => rfl) (fun _ => rfl) (by decide +kernel) (fun h11 eh11 => ?_)
  refine ab_aload_n (pc := 50) (n := 0) (i := 0) (j := 0) (by decide +kernel) rfl rfl ?_
  refine ab_bipush (pc := 51) (n := 10) (v := nI 10) (by decide +kernel) (by decide) ?_
  refine ab_naI (pc := 53) (B := 10) kw_b5d2f4680e (by decide) (Nat.le_of_ble_eq_true rfl) (Nat.le_of_ble_eq_true rfl) (by decide +kernel) (fun h12 eh12 => ?_)
  refine ab_putF (pc := 55) fl_X8_35_8 rfl rfl (fun _ => rfl) (fun _ => rfl) (by decide +kernel) (fun h13 eh13 => ?_)
  refine ab_aload_n (pc := 58) (n := 0) (i := 0) (j := 0) (by decide +kernel) rfl rfl ?_
  refine ab_bipush (pc := 59) (n := 10) (v := nI 10) (by decide +kernel) (by decide) ?_
  refine ab_naI (pc := 61) (B := 10) kw_b5d2f4680e (by decide) (Nat.le_of_ble_eq_true rfl) (Nat.le_of_ble_eq_true rfl) (by decide +kernel) (fun h14 eh14 => ?_)
  refine ab_putF (pc := 63) fl_X8_38_8 rfl rfl (fun _ => rfl) (fun _ => rfl) (by decide +kernel) (fun h15 eh15 => ?_)
  refine ab_aload_n (pc := 66) (n := 0) (i := 0) (j := 0) (by decide +kernel) rfl rfl ?_
  refine ab_bipush (pc := 67) (n := 10) (v := nI 10) (by decide +kernel) (by decide) ?_
  refine ab_naI (pc := 69) (B := 10) kw_b5d2f4680e (by decide) (Nat.le_of_ble_eq_true rfl) (Nat.le_of_ble_eq_true rfl) (by decide +kernel) (fun h16 eh16 => ?_)
  refine ab_putF (pc := 71) fl_X8_41_8 rfl rfl (fun _ => rfl) (fun _ => rfl) (by decide +kernel) (fun h17 eh17 => ?_)
  refine ab_aload_n (pc := 74) (n := 0) (i := 0) (j := 0) (by decide +kernel) rfl rfl ?_
  refine ab_bipush (pc := 75) (n := 100) (v := nI 100) (by decide +kernel) (by decide) ?_
  refine ab_naI (pc := 77) (B := 100) kw_b5d2f4680e (by decide) (Nat.le_of_ble_eq_true rfl) (Nat.le_of_ble_eq_true rfl) (by decide +kernel) (fun h18 eh18 => ?_)
  refine ab_putF (pc := 79) fl_X8_44_8 rfl rfl (fun _ => rfl) (fun _ => rfl) (by decide +kernel) (fun h19 eh19 => ?_)
  refine ab_aload_n (pc := 82) (n := 0) (i := 0) (j := 0) (by decide +kernel) rfl rfl ?_
  refine ab_bipush (pc := 83) (n := 100) (v := nI 100) (by decide +kernel) (by decide) ?_
  refine ab_naI (pc := 85) (B := 100) kw_b5d2f4680e (by decide) (Nat.le_of_ble_eq_true rfl) (Nat.le_of_ble_eq_true rfl) (by decide +kernel) (fun h20 eh20 => ?_)
  refine ab_putF (pc := 87) fl_X8_47_8 rfl rfl (fun _ => rfl) (fun _ => rfl) (by decide +kernel) (fun h21 eh21 => ?_)
  refine ab_aload_n (pc := 90) (n := 0) (i := 0) (j := 0) (by decide +kernel) rfl rfl ?_
  refine ab_bipush (pc := 91) (n := 12) (v := nI 12) (by decide +kernel) (by decide) ?_
  refine ab_naI (pc := 93) (B := 12) kw_b5d2f4680e (by decide) (Nat.le_of_ble_eq_true rfl) (Nat.le_of_ble_eq_true rfl) (by decide +kernel) (fun h22 eh22 => ?_)
  refine ab_putF (pc := 95) fl_X8_50_8 rfl rfl (fun _ => rfl) (fun _ => rfl) (by decide +kernel) (fun h23 eh23 => ?_)
  refine ab_aload_n (pc := 98) (n := 0) (i := 0) (j := 0) (by decide +kernel) rfl rfl ?_
  refine ab_aload_n (pc := 99) (n := 1) (i := 1) (j := 1) (by decide +kernel) rfl rfl ?_
  refine ab_put (pc := 100) fl_X8_53_8 rfl (fun _ => rfl) (fun _ => rfl) (by decide +kernel) (fun h24 eh24 => ?_)
  refine ab_aload_n (pc := 103) (n := 0) (i := 0) (j := 0) (by decide +kernel) rfl rfl ?_
  refine ab_getR (pc := 104) fl_X8_32_8 (by decide +kernel) (fun v25 ev25 => ?_)
  refine ab_iconst (pc := 107) (n := -1) (v := (-1 : Int32)) (by decide +kernel) rfl ?_
  refine ab_callSw (As := [.ref v25, .int (-1 : Int32)]) (st := []) (pc := 108) lk_X8_57 rfl rfl rfl (by decide) rfl (Nat.le_of_ble_eq_true rfl) (by decide +kernel) (fun y9 e9 => okJ7_fill_53178 hl (F := F) e9) (fun h26 eh26 => ?_)
  refine ab_aload_n (pc := 111) (n := 0) (i := 0) (j := 0) (by decide +kernel) rfl rfl ?_
  refine ab_getR (pc := 112) fl_X8_35_8 (by decide +kernel) (fun v27 ev27 => ?_)
  refine ab_iconst (pc := 115) (n := -1) (v := (-1 : Int32)) (by decide +kernel) rfl ?_
  refine ab_callSw (As := [.ref v27, .int (-1 : Int32)]) (st := []) (pc := 116) lk_X8_57 rfl rfl rfl (by decide) rfl (Nat.le_of_ble_eq_true rfl) (by decide +kernel) (fun y9 e9 => okJ7_fill_53178 hl (F := F) e9) (fun h28 eh28 => ?_)
  refine ab_aload_n (pc := 119) (n := 0) (i := 0) (j := 0) (by decide +kernel) rfl rfl ?_
  refine ab_getR (pc := 120) fl_X8_38_8 (by decide +kernel) (fun v29 ev29 => ?_)
  refine ab_iconst (pc := 123) (n := -1) (v := (-1 : Int32)) (by decide +kernel) rfl ?_
  refine ab_callSw (As := [.ref v29, .int (-1 : Int32)]) (st := []) (pc := 124) lk_X8_57 rfl rfl rfl (by decide) rfl (Nat.le_of_ble_eq_true rfl) (by decide +kernel) (fun y9 e9 => okJ7_fill_53178 hl (F := F) e9) (fun h30 eh30 => ?_)
  refine ab_aload_n (pc := 127) (n := 0) (i := 0) (j := 0) (by decide +kernel) rfl rfl ?_
  refine ab_getR (pc := 128) fl_X8_50_8 (by decide +kernel) (fun v31 ev31 => ?_)
  refine ab_iconst (pc := 131) (n := -1) (v := (-1 : Int32)) (by decide +kernel) rfl ?_
  refine ab_callSw (As := [.ref v31, .int (-1 : Int32)]) (st := []) (pc := 132) lk_X8_57 rfl rfl rfl (by decide) rfl (Nat.le_of_ble_eq_true rfl) (by decide +kernel) (fun y9 e9 => okJ7_fill_53178 hl (F := F) e9) (fun h32 eh32 => ?_)
  exact ab_vret (pc := 135) (by decide +kernel) rfl rfl (Nat.le_of_ble_eq_true rfl) (Nat.le_of_ble_eq_true rfl)
set_option maxRecDepth 100000 in
set_option maxHeartbeats 4000000 in
theorem okX8_init {l : Launch} (hl : l.stackTraces = false) {F : Nat} {x0 : Nat} {x1 : Nat} {h : ab_H} {y : ab_H} (e : fX8_init F x0 x1 h = some y) : ab_Met l mX8_init [.ref x0, .ref x1] h (.inl none, y) := ab_ofS (io := (fun y : ab_H => ((.inl none, y) : ab_R × ab_H))) (x := y) hl (by decide) rfl (Nat.le_of_ble_eq_true rfl) (wX8_init hl F x0 x1 h) e
def mX8_copyFrom : ab_M := (yX8_copyFrom, cX8_copyFrom, 2, none, { frames := 2, cells := 0, slots := 0, locals := 47 })
theorem iX8_copyFrom : ab_MI mX8_copyFrom 1 := ⟨kw_b310338095, kw_a869362287, by decide +kernel⟩
theorem lk_X8_78_4 : ab_LV RX8 78 4 mX4_copyFrom 1 := ⟨RX4, rfl, iX4_copyFrom, kw_cdf1095238, kw_a2bd75486f, kw_80c695ed8f⟩
def fX8_copyFrom (x0 : Nat) (x1 : Nat) (h : ab_H) : Option ab_H := ab_bd (ab_fi h x1 8 0) fun v1 => ab_bd (ab_fw h x0 8 0 (.int v1)) fun h2 => ab_bd (ab_fi h2 x1 8 1) fun v3 => ab_bd (ab_fw h2 x0 8 1 (.int v3)) fun h4 => ab_bd (ab_fi h4 x1 8 2) fun v5 => ab_bd (ab_fw h4 x0 8 2 (.int v5)) fun h6 => ab_bd (ab_fi h6 x1 8 3) fun v7 => ab_bd (ab_fw h6 x0 8 3 (.int v7)) fun h8 => ab_bd (ab_fi h8 x1 8 4) fun v9 => ab_bd (ab_fw h8 x0 8 4 (.int v9)) fun h10 => ab_bd (ab_fi h10 x1 8 5) fun v11 => ab_bd (ab_fw h10 x0 8 5 (.int v11)) fun h12 => ab_bd (ab_fi h12 x1 8 6) fun v13 => ab_bd (ab_fw h12 x0 8 6 (.int v13)) fun h14 => ab_bd (ab_fr h14 x1 8 7) fun v15 => ab_bd (ab_fw h14 x0 8 7 (.ref v15)) fun h16 => ab_bd (ab_fr h16 x0 8 8) fun v17 => ab_bd (ab_fr h16 x1 8 8) fun v18 => ab_ck (ab_io h16 v17 4 = true) (ab_bd (fX4_copyFrom v17 v18 h16) fun h19 => ab_bd (ab_fr h19 x1 8 9) fun v20 => ab_bd (ab_fr h19 x0 8 9) fun v21 => ab_bd (ab_cpI h19 v20 (nI 0) v21 (nI 0) (nI 10)) fun h22 => ab_bd (ab_fr h22 x1 8 10) fun v23 => ab_bd (ab_fr h22 x0 8 10) fun v24 => ab_bd (ab_cpI h22 v23 (nI 0) v24 (nI 0) (nI 10)) fun h25 => ab_bd (ab_fr h25 x1 8 11) fun v26 => ab_bd (ab_fr h25 x0 8 11) fun v27 => ab_bd (ab_cpI h25 v26 (nI 0) v27 (nI 0) (nI 10)) fun h28 => ab_bd (ab_fr h28 x1 8 12) fun v29 => ab_bd (ab_fr h28 x0 8 12) fun v30 => ab_bd (ab_cpI h28 v29 (nI 0) v30 (nI 0) (nI 10)) fun h31 => ab_bd (ab_fr h31 x1 8 13) fun v32 => ab_bd (ab_fr h31 x0 8 13) fun v33 => ab_bd (ab_cpI h31 v32 (nI 0) v33 (nI 0) (nI 10)) fun h34 => ab_bd (ab_fr h34 x1 8 14) fun v35 => ab_bd (ab_fr h34 x0 8 14) fun v36 => ab_bd (ab_cpI h34 v35 (nI 0) v36 (nI 0) (nI 10)) fun h37 => ab_bd (ab_fr h37 x1 8 15) fun v38 => ab_bd (ab_fr h37 x0 8 15) fun v39 => ab_bd (ab_cpI h37 v38 (nI 0) v39 (nI 0) (nI 100)) fun h40 => ab_bd (ab_fr h40 x1 8 16) fun v41 => ab_bd (ab_fr h40 x0 8 16) fun v42 => ab_bd (ab_cpI h40 v41 (nI 0) v42 (nI 0) (nI 100)) fun h43 => ab_bd (ab_fr h43 x1 8 17) fun v44 => ab_bd (ab_fr h43 x0 8 17) fun v45 => ab_bd (ab_cpI h43 v44 (nI 0) v45 (nI 0) (nI 12)) fun h46 => some h46)
set_option maxRecDepth 100000 in
set_option maxHeartbeats 4000000 in
theorem wX8_copyFrom {l : Launch} (hl : l.stackTraces = false) (x0 : Nat) (x1 : Nat) (h : ab_H) : ab_S l mX8_copyFrom (fun y : ab_H => ((.inl none, y) : ab_R × ab_H)) 0 0 (fX8_copyFrom x0 x1 h) 0 [(0, .ref x0), (1, .ref x1)] [] h := by
  unfold fX8_copyFrom
  refine ab_aload_n (pc := 0) (n := 0) (i := 0) (j := 0) (by decide +kernel) rfl rfl ?_
  refine ab_aload_n (pc := 1) (n := 1) (i := 1) (j := 1) (by decide +kernel) rfl rfl ?_
  refine ab_getI (pc := 2) fl_X8_63_8 (by decide +kernel) (fun v1 ev1 => ?_)
  refine ab_put (pc := 5) fl_X8_63_8 rfl (fun _ => rfl) (fun _ => rfl) (by decide +kernel) (fun h2 eh2 => ?_)
  refine ab_aload_n (pc := 8) (n := 0) (i := 0) (j := 0) (by decide +kernel) rfl rfl ?_
  refine ab_aload_n (pc := 9) (n := 1) (i := 1) (j := 1) (by decide +kernel) rfl rfl ?_
  refine ab_getI (pc := 10) fl_X8_9_8 (by decide +kernel) (fun v3 ev3 => ?_)
  refine ab_put (pc := 13) fl_X8_9_8 rfl (fun _ => rfl) (fun _ => rfl) (by decide +kernel) (fun h4 eh4 => ?_)
  refine ab_aload_n (pc := 16) (n := 0) (i := 0) (j := 0) (by decide +kernel) rfl rfl ?_
  refine ab_aload_n (pc := 17) (n := 1) (i := 1) (j := 1) (by decide +kernel) rfl rfl ?_
  refine ab_getI (pc := 18) fl_X8_66_8 (by decide +kernel) (fun v5 ev5 => ?_)
  refine ab_put (pc := 21) fl_X8_66_8 rfl (fun _ => rfl) (fun _ => rfl) (by decide +kernel) (fun h6 eh6 => ?_)
  refine ab_aload_n (pc := 24) (n := 0) (i := 0) (j := 0) (by decide +kernel) rfl rfl ?_
  refine ab_aload_n (pc := 25) (n := 1) (i := 1) (j := 1) (by decide +kernel) rfl rfl ?_
  refine ab_getI (pc := 26) fl_X8_69_8 (by decide +kernel) (fun v7 ev7 => ?_)
  refine ab_put (pc := 29) fl_X8_69_8 rfl (fun _ => rfl) (fun _ => rfl) (by decide +kernel) (fun h8 eh8 => ?_)
  refine ab_aload_n (pc := 32) (n := 0) (i := 0) (j := 0) (by decide +kernel) rfl rfl ?_
  refine ab_aload_n (pc := 33) (n := 1) (i := 1) (j := 1) (by decide +kernel) rfl rfl ?_
  refine ab_getI (pc := 34) fl_X8_72_8 (by decide +kernel) (fun v9 ev9 => ?_)
  refine ab_put (pc := 37) fl_X8_72_8 rfl (fun _ => rfl) (fun _ => rfl) (by decide +kernel) (fun h10 eh10 => ?_)
  refine ab_aload_n (pc := 40) (n := 0) (i := 0) (j := 0) (by decide +kernel) rfl rfl ?_
  refine ab_aload_n (pc := 41) (n := 1) (i := 1) (j := 1) (by decide +kernel) rfl rfl ?_
  refine ab_getI (pc := 42) fl_X8_15_8 (by decide +kernel) (fun v11 ev11 => ?_)
  refine ab_put (pc := 45) fl_X8_15_8 rfl (fun _ => rfl) (fun _ => rfl) (by decide +kernel) (fun h12 eh12 => ?_)
  refine ab_aload_n (pc := 48) (n := 0) (i := 0) (j := 0) (by decide +kernel) rfl rfl ?_
  refine ab_aload_n (pc := 49) (n := 1) (i := 1) (j := 1) (by decide +kernel) rfl rfl ?_
  refine ab_getI (pc := 50) fl_X8_75_8 (by decide +kernel) (fun v13 ev13 => ?_)
  refine ab_put (pc := 53) fl_X8_75_8 rfl (fun _ => rfl) (fun _ => rfl) (by decide +kernel) (fun h14 eh14 => ?_)
  refine ab_aload_n (pc := 56) (n := 0) (i := 0) (j := 0) (by decide +kernel) rfl rfl ?_
  refine ab_aload_n (pc := 57) (n := 1) (i := 1) (j := 1) (by decide +kernel) rfl rfl ?_
  refine ab_getR (pc := 58) fl_X8_53_8 (by decide +kernel) (fun v15 ev15 => ?_)
  refine ab_put (pc := 61) fl_X8_53_8 rfl (fun _ => rfl) (fun _ => rfl) (by decide +kernel) (fun h16 eh16 => ?_)
  refine ab_aload_n (pc := 64) (n := 0) (i := 0) (j := 0) (by decide +kernel) rfl rfl ?_
  refine ab_getR (pc := 65) fl_X8_21_8 (by decide +kernel) (fun v17 ev17 => ?_)
  refine ab_aload_n (pc := 68) (n := 1) (i := 1) (j := 1) (by decide +kernel) rfl rfl ?_
  refine ab_getR (pc := 69) fl_X8_21_8 (by decide +kernel) (fun v18 ev18 => ?_)
  refine ab_callVw (As := [.ref v18]) (st := []) (pc := 72) lk_X8_78_4 rfl rfl rfl (by decide) rfl (Nat.le_of_ble_eq_true rfl) (by decide +kernel) (fun y9 e9 => okX4_copyFrom hl e9) (fun h19 eh19 => ?_)
  refine ab_aload_n (pc := 75) (n := 1) (i := 1) (j := 1) (by decide +kernel) rfl rfl ?_
  refine ab_getR (pc := 76) fl_X8_25_8 (by decide +kernel) (fun v20 ev20 => ?_)
  refine ab_iconst (pc := 79) (n := 0) (v := nI 0) (by decide +kernel) rfl ?_
  refine ab_aload_n (pc := 80) (n := 0) (i := 0) (j := 0) (by decide +kernel) rfl rfl ?_
  refine ab_getR (pc := 81) fl_X8_25_8 (by decide +kernel) (fun v21 ev21 => ?_)
  refine ab_iconst (pc := 84) (n := 0) (v := nI 0) (by decide +kernel) rfl ?_
  refine ab_bipush (pc := 85) (n := 10) (v := nI 10) (by decide +kernel) (by decide) ?_
  refine ab_copyI (pc := 87) kw_dfe8a52311 kw_0e4095fa1c kw_e17af2abaf kw_eddd547dac (Nat.le_of_ble_eq_true rfl) (Nat.le_of_ble_eq_true rfl) (by decide +kernel) (fun h22 eh22 => ?_)
  refine ab_aload_n (pc := 90) (n := 1) (i := 1) (j := 1) (by decide +kernel) rfl rfl ?_
  refine ab_getR (pc := 91) fl_X8_29_8 (by decide +kernel) (fun v23 ev23 => ?_)
  refine ab_iconst (pc := 94) (n := 0) (v := nI 0) (by decide +kernel) rfl ?_
  refine ab_aload_n (pc := 95) (n := 0) (i := 0) (j := 0) (by decide +kernel) rfl rfl ?_
  refine ab_getR (pc := 96) fl_X8_29_8 (by decide +kernel) (fun v24 ev24 => ?_)
  refine ab_iconst (pc := 99) (n := 0) (v := nI 0) (by decide +kernel) rfl ?_
  refine ab_bipush (pc := 100) (n := 10) (v := nI 10) (by decide +kernel) (by decide) ?_
  refine ab_copyI (pc := 102) kw_dfe8a52311 kw_0e4095fa1c kw_e17af2abaf kw_eddd547dac (Nat.le_of_ble_eq_true rfl) (Nat.le_of_ble_eq_true rfl) (by decide +kernel) (fun h25 eh25 => ?_)
  refine ab_aload_n (pc := 105) (n := 1) (i := 1) (j := 1) (by decide +kernel) rfl rfl ?_
  refine ab_getR (pc := 106) fl_X8_32_8 (by decide +kernel) (fun v26 ev26 => ?_)
  refine ab_iconst (pc := 109) (n := 0) (v := nI 0) (by decide +kernel) rfl ?_
  refine ab_aload_n (pc := 110) (n := 0) (i := 0) (j := 0) (by decide +kernel) rfl rfl ?_
  refine ab_getR (pc := 111) fl_X8_32_8 (by decide +kernel) (fun v27 ev27 => ?_)
  refine ab_iconst (pc := 114) (n := 0) (v := nI 0) (by decide +kernel) rfl ?_
  refine ab_bipush (pc := 115) (n := 10) (v := nI 10) (by decide +kernel) (by decide) ?_
  refine ab_copyI (pc := 117) kw_dfe8a52311 kw_0e4095fa1c kw_e17af2abaf kw_eddd547dac (Nat.le_of_ble_eq_true rfl) (Nat.le_of_ble_eq_true rfl) (by decide +kernel) (fun h28 eh28 => ?_)
  refine ab_aload_n (pc := 120) (n := 1) (i := 1) (j := 1) (by decide +kernel) rfl rfl ?_
  refine ab_getR (pc := 121) fl_X8_35_8 (by decide +kernel) (fun v29 ev29 => ?_)
  refine ab_iconst (pc := 124) (n := 0) (v := nI 0) (by decide +kernel) rfl ?_
  refine ab_aload_n (pc := 125) (n := 0) (i := 0) (j := 0) (by decide +kernel) rfl rfl ?_
  refine ab_getR (pc := 126) fl_X8_35_8 (by decide +kernel) (fun v30 ev30 => ?_)
  refine ab_iconst (pc := 129) (n := 0) (v := nI 0) (by decide +kernel) rfl ?_
  refine ab_bipush (pc := 130) (n := 10) (v := nI 10) (by decide +kernel) (by decide) ?_
  refine ab_copyI (pc := 132) kw_dfe8a52311 kw_0e4095fa1c kw_e17af2abaf kw_eddd547dac (Nat.le_of_ble_eq_true rfl) (Nat.le_of_ble_eq_true rfl) (by decide +kernel) (fun h31 eh31 => ?_)
  refine ab_aload_n (pc := 135) (n := 1) (i := 1) (j := 1) (by decide +kernel) rfl rfl ?_
  refine ab_getR (pc := 136) fl_X8_38_8 (by decide +kernel) (fun v32 ev32 => ?_)
  refine ab_iconst (pc := 139) (n := 0) (v := nI 0) (by decide +kernel) rfl ?_
  refine ab_aload_n (pc := 140) (n := 0) (i := 0) (j := 0) (by decide +kernel) rfl rfl ?_
  refine ab_getR (pc := 141) fl_X8_38_8 (by decide +kernel) (fun v33 ev33 => ?_)
  refine ab_iconst (pc := 144) (n := 0) (v := nI 0) (by decide +kernel) rfl ?_
  refine ab_bipush (pc := 145) (n := 10) (v := nI 10) (by decide +kernel) (by decide) ?_
  refine ab_copyI (pc := 147) kw_dfe8a52311 kw_0e4095fa1c kw_e17af2abaf kw_eddd547dac (Nat.le_of_ble_eq_true rfl) (Nat.le_of_ble_eq_true rfl) (by decide +kernel) (fun h34 eh34 => ?_)
  refine ab_aload_n (pc := 150) (n := 1) (i := 1) (j := 1) (by decide +kernel) rfl rfl ?_
  refine ab_getR (pc := 151) fl_X8_41_8 (by decide +kernel) (fun v35 ev35 => ?_)
  refine ab_iconst (pc := 154) (n := 0) (v := nI 0) (by decide +kernel) rfl ?_
  refine ab_aload_n (pc := 155) (n := 0) (i := 0) (j := 0) (by decide +kernel) rfl rfl ?_
  refine ab_getR (pc := 156) fl_X8_41_8 (by decide +kernel) (fun v36 ev36 => ?_)
  refine ab_iconst (pc := 159) (n := 0) (v := nI 0) (by decide +kernel) rfl ?_
  refine ab_bipush (pc := 160) (n := 10) (v := nI 10) (by decide +kernel) (by decide) ?_
  refine ab_copyI (pc := 162) kw_dfe8a52311 kw_0e4095fa1c kw_e17af2abaf kw_eddd547dac (Nat.le_of_ble_eq_true rfl) (Nat.le_of_ble_eq_true rfl) (by decide +kernel) (fun h37 eh37 => ?_)
  refine ab_aload_n (pc := 165) (n := 1) (i := 1) (j := 1) (by decide +kernel) rfl rfl ?_
  refine ab_getR (pc := 166) fl_X8_44_8 (by decide +kernel) (fun v38 ev38 => ?_)
  refine ab_iconst (pc := 169) (n := 0) (v := nI 0) (by decide +kernel) rfl ?_
  refine ab_aload_n (pc := 170) (n := 0) (i := 0) (j := 0) (by decide +kernel) rfl rfl ?_
  refine ab_getR (pc := 171) fl_X8_44_8 (by decide +kernel) (fun v39 ev39 => ?_)
  refine ab_iconst (pc := 174) (n := 0) (v := nI 0) (by decide +kernel) rfl ?_
  refine ab_bipush (pc := 175) (n := 100) (v := nI 100) (by decide +kernel) (by decide) ?_
  refine ab_copyI (pc := 177) kw_dfe8a52311 kw_0e4095fa1c kw_e17af2abaf kw_eddd547dac (Nat.le_of_ble_eq_true rfl) (Nat.le_of_ble_eq_true rfl) (by decide +kernel) (fun h40 eh40 => ?_)
  refine ab_aload_n (pc := 180) (n := 1) (i := 1) (j := 1) (by decide +kernel) rfl rfl ?_
  refine ab_getR (pc := 181) fl_X8_47_8 (by decide +kernel) (fun v41 ev41 => ?_)
  refine ab_iconst (pc := 184) (n := 0) (v := nI 0) (by decide +kernel) rfl ?_
  refine ab_aload_n (pc := 185) (n := 0) (i := 0) (j := 0) (by decide +kernel) rfl rfl ?_
  refine ab_getR (pc := 186) fl_X8_47_8 (by decide +kernel) (fun v42 ev42 => ?_)
  refine ab_iconst (pc := 189) (n := 0) (v := nI 0) (by decide +kernel) rfl ?_
  refine ab_bipush (pc := 190) (n := 100) (v := nI 100) (by decide +kernel) (by decide) ?_
  refine ab_copyI (pc := 192) kw_dfe8a52311 kw_0e4095fa1c kw_e17af2abaf kw_eddd547dac (Nat.le_of_ble_eq_true rfl) (Nat.le_of_ble_eq_true rfl) (by decide +kernel) (fun h43 eh43 => ?_)
  refine ab_aload_n (pc := 195) (n := 1) (i := 1) (j := 1) (by decide +kernel) rfl rfl ?_
  refine ab_getR (pc := 196) fl_X8_50_8 (by decide +kernel) (fun v44 ev44 => ?_)
  refine ab_iconst (pc := 199) (n := 0) (v := nI 0) (by decide +kernel) rfl ?_
  refine ab_aload_n (pc := 200) (n := 0) (i := 0) (j := 0) (by decide +kernel) rfl rfl ?_
  refine ab_getR (pc := 201) fl_X8_50_8 (by decide +kernel) (fun v45 ev45 => ?_)
  refine ab_iconst (pc := 204) (n := 0) (v := nI 0) (by decide +kernel) rfl ?_
  refine ab_bipush (pc := 205) (n := 12) (v := nI 12) (by decide +kernel) (by decide) ?_
  refine ab_copyI (pc := 207) kw_dfe8a52311 kw_0e4095fa1c kw_e17af2abaf kw_eddd547dac (Nat.le_of_ble_eq_true rfl) (Nat.le_of_ble_eq_true rfl) (by decide +kernel) (fun h46 eh46 => ?_)
  exact ab_vret (pc := 210) (by decide +kernel) rfl rfl (Nat.le_of_ble_eq_true rfl) (Nat.le_of_ble_eq_true rfl)
set_option maxRecDepth 100000 in
set_option maxHeartbeats 4000000 in
theorem okX8_copyFrom {l : Launch} (hl : l.stackTraces = false) {x0 : Nat} {x1 : Nat} {h : ab_H} {y : ab_H} (e : fX8_copyFrom x0 x1 h = some y) : ab_Met l mX8_copyFrom [.ref x0, .ref x1] h (.inl none, y) := ab_ofS (io := (fun y : ab_H => ((.inl none, y) : ab_R × ab_H))) (x := y) hl (by decide) rfl (Nat.le_of_ble_eq_true rfl) (wX8_copyFrom hl x0 x1 h) e
def mX8_hasPerson : ab_M := (yX8_hasPerson, cX8_hasPerson, 2, (some .boolean), { frames := 0, cells := 0, slots := 0, locals := 0 })
theorem iX8_hasPerson : ab_MI mX8_hasPerson 1 := ⟨kw_7a79123178, kw_a869362287, by decide +kernel⟩
def fX8_hasPerson (x0 : Nat) (x1 : Int32) (h : ab_H) : Option Int32 := (if x1 < 0 then some (nI 0) else ab_bd (ab_fi h x0 8 0) fun v2 => (if x1 < v2 then some (nI 1) else some (nI 0)))
set_option maxRecDepth 100000 in
set_option maxHeartbeats 4000000 in
theorem wX8_hasPerson {l : Launch} (hl : l.stackTraces = false) (x0 : Nat) (x1 : Int32) (h : ab_H) : ab_S l mX8_hasPerson (fun y : Int32 => ((.inl (some (.int y)), h) : ab_R × ab_H)) 0 0 (fX8_hasPerson x0 x1 h) 0 [(0, .ref x0), (1, .int x1)] [] h := by
  unfold fX8_hasPerson
  refine ab_iload_n (pc := 0) (n := 1) (i := 1) (j := 1) (by decide +kernel) rfl rfl ?_
  refine ab_if_lt (off := 15) (pc := 1) (tgt := 16) (by decide +kernel) (by decide) (fun g1 => ?_) (fun g1 => ?_)
  · refine ab_iconst (pc := 16) (n := 0) (v := nI 0) (by decide +kernel) rfl ?_
    exact ab_zret (pc := 17) (by decide +kernel) rfl ab_bl0.1 rfl (Nat.le_of_ble_eq_true rfl) (Nat.le_of_ble_eq_true rfl)
  · refine ab_iload_n (pc := 4) (n := 1) (i := 1) (j := 1) (by decide +kernel) rfl rfl ?_
    refine ab_aload_n (pc := 5) (n := 0) (i := 0) (j := 0) (by decide +kernel) rfl rfl ?_
    refine ab_getI (pc := 6) fl_X8_63_8 (by decide +kernel) (fun v2 ev2 => ?_)
    refine ab_icmp_ge (off := 7) (pc := 9) (tgt := 16) (by decide +kernel) (by decide) (fun g3 => ?_) (fun g3 => ?_)
    · refine ab_iconst (pc := 12) (n := 1) (v := nI 1) (by decide +kernel) rfl ?_
      refine ab_goto (pc := 13) (off := 4) (tgt := 17) (by decide +kernel) (by decide) ?_
      exact ab_zret (pc := 17) (by decide +kernel) rfl ab_bl1.1 rfl (Nat.le_of_ble_eq_true rfl) (Nat.le_of_ble_eq_true rfl)
    · refine ab_iconst (pc := 16) (n := 0) (v := nI 0) (by decide +kernel) rfl ?_
      exact ab_zret (pc := 17) (by decide +kernel) rfl ab_bl0.1 rfl (Nat.le_of_ble_eq_true rfl) (Nat.le_of_ble_eq_true rfl)
set_option maxRecDepth 100000 in
set_option maxHeartbeats 4000000 in
theorem okX8_hasPerson {l : Launch} (hl : l.stackTraces = false) {x0 : Nat} {x1 : Int32} {h : ab_H} {y : Int32} (e : fX8_hasPerson x0 x1 h = some y) : ab_Met l mX8_hasPerson [.ref x0, .int x1] h (.inl (some (.int y)), h) := ab_ofS (io := (fun y : Int32 => ((.inl (some (.int y)), h) : ab_R × ab_H))) (x := y) hl (by decide) rfl (Nat.le_of_ble_eq_true rfl) (wX8_hasPerson hl x0 x1 h) e
def mX8_canWed : ab_M := (yX8_canWed, cX8_canWed, 2, (some .boolean), { frames := 1, cells := 0, slots := 0, locals := 21 })
theorem iX8_canWed : ab_MI mX8_canWed 1 := ⟨kw_c5c6e00074, kw_a869362287, by decide +kernel⟩
theorem lk_X8_88_8 : ab_LV RX8 88 8 mX8_hasPerson 1 := ⟨RX8, rfl, iX8_hasPerson, kw_8d3801c66a, kw_1a6b271e78, kw_58b468e312⟩
def fX8_canWed (x0 : Nat) (x1 : Int32) (h : ab_H) : Option Int32 := ab_ck (ab_io h x0 8 = true) (ab_bd (fX8_hasPerson x0 x1 h) fun v1 => (if v1 = 0 then some (nI 0) else ab_bd (ab_fr h x0 8 13) fun v3 => ab_bd (ab_ia 0 h v3 x1) fun v4 => (if v4 = (-1 : Int32) then some (nI 1) else some (nI 0))))
set_option maxRecDepth 100000 in
set_option maxHeartbeats 4000000 in
theorem wX8_canWed {l : Launch} (hl : l.stackTraces = false) (x0 : Nat) (x1 : Int32) (h : ab_H) : ab_S l mX8_canWed (fun y : Int32 => ((.inl (some (.int y)), h) : ab_R × ab_H)) 0 0 (fX8_canWed x0 x1 h) 0 [(0, .ref x0), (1, .int x1)] [] h := by
  unfold fX8_canWed
  refine ab_aload_n (pc := 0) (n := 0) (i := 0) (j := 0) (by decide +kernel) rfl rfl ?_
  refine ab_iload_n (pc := 1) (n := 1) (i := 1) (j := 1) (by decide +kernel) rfl rfl ?_
  refine ab_callVi (As := [.int x1]) (st := []) (pc := 2) lk_X8_88_8 rfl rfl rfl (by decide) rfl (Nat.le_of_ble_eq_true rfl) (by decide +kernel) (fun y9 e9 => okX8_hasPerson hl e9) (fun v1 ev1 => ?_)
  refine ab_if_eq (off := 17) (pc := 5) (tgt := 22) (by decide +kernel) (by decide) (fun g2 => ?_) (fun g2 => ?_)
  · refine ab_iconst (pc := 22) (n := 0) (v := nI 0) (by decide +kernel) rfl ?_
    exact ab_zret (pc := 23) (by decide +kernel) rfl ab_bl0.1 rfl (Nat.le_of_ble_eq_true rfl) (Nat.le_of_ble_eq_true rfl)
  · refine ab_aload_n (pc := 8) (n := 0) (i := 0) (j := 0) (by decide +kernel) rfl rfl ?_
    refine ab_getR (pc := 9) fl_X8_38_8 (by decide +kernel) (fun v3 ev3 => ?_)
    refine ab_iload_n (pc := 12) (n := 1) (i := 1) (j := 1) (by decide +kernel) rfl rfl ?_
    refine ab_iald (pc := 13) (by decide +kernel) (fun v4 ev4 => ?_)
    refine ab_iconst (pc := 14) (n := -1) (v := (-1 : Int32)) (by decide +kernel) rfl ?_
    refine ab_icmp_ne (off := 7) (pc := 15) (tgt := 22) (by decide +kernel) (by decide) (fun g5 => ?_) (fun g5 => ?_)
    · refine ab_iconst (pc := 18) (n := 1) (v := nI 1) (by decide +kernel) rfl ?_
      refine ab_goto (pc := 19) (off := 4) (tgt := 23) (by decide +kernel) (by decide) ?_
      exact ab_zret (pc := 23) (by decide +kernel) rfl ab_bl1.1 rfl (Nat.le_of_ble_eq_true rfl) (Nat.le_of_ble_eq_true rfl)
    · refine ab_iconst (pc := 22) (n := 0) (v := nI 0) (by decide +kernel) rfl ?_
      exact ab_zret (pc := 23) (by decide +kernel) rfl ab_bl0.1 rfl (Nat.le_of_ble_eq_true rfl) (Nat.le_of_ble_eq_true rfl)
set_option maxRecDepth 100000 in
set_option maxHeartbeats 4000000 in
theorem okX8_canWed {l : Launch} (hl : l.stackTraces = false) {x0 : Nat} {x1 : Int32} {h : ab_H} {y : Int32} (e : fX8_canWed x0 x1 h = some y) : ab_Met l mX8_canWed [.ref x0, .int x1] h (.inl (some (.int y)), h) := ab_ofS (io := (fun y : Int32 => ((.inl (some (.int y)), h) : ab_R × ab_H))) (x := y) hl (by decide) rfl (Nat.le_of_ble_eq_true rfl) (wX8_canWed hl x0 x1 h) e
def mX8_handIn : ab_M := (yX8_handIn, cX8_handIn, 4, (some .int), { frames := 2, cells := 0, slots := 0, locals := 46 })
theorem iX8_handIn : ab_MI mX8_handIn 2 := ⟨kw_4c008cb362, kw_a869362287, by decide +kernel⟩
theorem lk_X8_103_4 : ab_LV RX8 103 4 mX4_addRow 5 := ⟨RX4, rfl, iX4_addRow, kw_675530c1c0, kw_8e95c3d963, kw_7f0a72833f⟩
def fX8_handIn (x0 : Nat) (x1 : Int32) (x2 : Int32) (h : ab_H) : Option (Int32 × ab_H) := ab_bd (ab_fr h x0 8 11) fun v1 => ab_bd (ab_ia 0 h v1 x1) fun v2 => ab_bd (ab_fr h x0 8 17) fun v3 => ab_bd (ab_iw 0 h v3 x2 v2) fun h4 => ab_bd (ab_fr h4 x0 8 11) fun v5 => ab_bd (ab_iw 0 h4 v5 x1 (-1 : Int32)) fun h6 => ab_bd (ab_fr h6 x0 8 12) fun v7 => ab_bd (ab_iw 0 h6 v7 x1 x2) fun h8 => ab_bd (ab_fr h8 x0 8 8) fun v9 => ab_bd (ab_fi h8 x0 8 2) fun v10 => ab_ck (ab_io h8 v9 4 = true) (ab_bd (fX4_addRow v9 v10 x1 x2 v2 (nI 0) h8) fun h11 => some (v2, h11))
set_option maxRecDepth 100000 in
set_option maxHeartbeats 4000000 in
theorem wX8_handIn {l : Launch} (hl : l.stackTraces = false) (x0 : Nat) (x1 : Int32) (x2 : Int32) (h : ab_H) : ab_S l mX8_handIn (fun y : (Int32 × ab_H) => ((.inl (some (.int y.1)), y.2) : ab_R × ab_H)) 0 0 (fX8_handIn x0 x1 x2 h) 0 [(0, .ref x0), (1, .int x1), (2, .int x2)] [] h := by
  unfold fX8_handIn
  refine ab_aload_n (pc := 0) (n := 0) (i := 0) (j := 0) (by decide +kernel) rfl rfl ?_
  refine ab_getR (pc := 1) fl_X8_32_8 (by decide +kernel) (fun v1 ev1 => ?_)
  refine ab_iload_n (pc := 4) (n := 1) (i := 1) (j := 1) (by decide +kernel) rfl rfl ?_
  refine ab_iald (pc := 5) (by decide +kernel) (fun v2 ev2 => ?_)
  refine ab_istore_n (pc := 6) (n := 3) (i := 3) (lv' := [(0, .ref x0), (1, .int x1), (2, .int x2), (3, .int v2)]) (by decide +kernel) rfl (Nat.le_of_ble_eq_true rfl) rfl rfl ?_
  refine ab_aload_n (pc := 7) (n := 0) (i := 0) (j := 0) (by decide +kernel) rfl rfl ?_
  refine ab_getR (pc := 8) fl_X8_50_8 (by decide +kernel) (fun v3 ev3 => ?_)
  refine ab_iload_n (pc := 11) (n := 2) (i := 2) (j := 2) (by decide +kernel) rfl rfl ?_
  refine ab_iload_n (pc := 12) (n := 3) (i := 3) (j := 3) (by decide +kernel) rfl rfl ?_
  refine ab_iast (pc := 13) (by decide +kernel) (fun h4 eh4 => ?_)
  refine ab_aload_n (pc := 14) (n := 0) (i := 0) (j := 0) (by decide +kernel) rfl rfl ?_
  refine ab_getR (pc := 15) fl_X8_32_8 (by decide +kernel) (fun v5 ev5 => ?_)
  refine ab_iload_n (pc := 18) (n := 1) (i := 1) (j := 1) (by decide +kernel) rfl rfl ?_
  refine ab_iconst (pc := 19) (n := -1) (v := (-1 : Int32)) (by decide +kernel) rfl ?_
  refine ab_iast (pc := 20) (by decide +kernel) (fun h6 eh6 => ?_)
  refine ab_aload_n (pc := 21) (n := 0) (i := 0) (j := 0) (by decide +kernel) rfl rfl ?_
  refine ab_getR (pc := 22) fl_X8_35_8 (by decide +kernel) (fun v7 ev7 => ?_)
  refine ab_iload_n (pc := 25) (n := 1) (i := 1) (j := 1) (by decide +kernel) rfl rfl ?_
  refine ab_iload_n (pc := 26) (n := 2) (i := 2) (j := 2) (by decide +kernel) rfl rfl ?_
  refine ab_iast (pc := 27) (by decide +kernel) (fun h8 eh8 => ?_)
  refine ab_aload_n (pc := 28) (n := 0) (i := 0) (j := 0) (by decide +kernel) rfl rfl ?_
  refine ab_getR (pc := 29) fl_X8_21_8 (by decide +kernel) (fun v9 ev9 => ?_)
  refine ab_aload_n (pc := 32) (n := 0) (i := 0) (j := 0) (by decide +kernel) rfl rfl ?_
  refine ab_getI (pc := 33) fl_X8_66_8 (by decide +kernel) (fun v10 ev10 => ?_)
  refine ab_iload_n (pc := 36) (n := 1) (i := 1) (j := 1) (by decide +kernel) rfl rfl ?_
  refine ab_iload_n (pc := 37) (n := 2) (i := 2) (j := 2) (by decide +kernel) rfl rfl ?_
  refine ab_iload_n (pc := 38) (n := 3) (i := 3) (j := 3) (by decide +kernel) rfl rfl ?_
  refine ab_iconst (pc := 39) (n := 0) (v := nI 0) (by decide +kernel) rfl ?_
  refine ab_callVw (As := [.int v10, .int x1, .int x2, .int v2, .int (nI 0)]) (st := []) (pc := 40) lk_X8_103_4 rfl rfl rfl (by decide) rfl (Nat.le_of_ble_eq_true rfl) (by decide +kernel) (fun y9 e9 => okX4_addRow hl e9) (fun h11 eh11 => ?_)
  refine ab_iload_n (pc := 43) (n := 3) (i := 3) (j := 3) (by decide +kernel) rfl rfl ?_
  exact ab_iret (pc := 44) (by decide +kernel) rfl rfl (Nat.le_of_ble_eq_true rfl) (Nat.le_of_ble_eq_true rfl)
set_option maxRecDepth 100000 in
set_option maxHeartbeats 4000000 in
theorem okX8_handIn {l : Launch} (hl : l.stackTraces = false) {x0 : Nat} {x1 : Int32} {x2 : Int32} {h : ab_H} {y : (Int32 × ab_H)} (e : fX8_handIn x0 x1 x2 h = some y) : ab_Met l mX8_handIn [.ref x0, .int x1, .int x2] h (.inl (some (.int y.1)), y.2) := ab_ofS (io := (fun y : (Int32 × ab_H) => ((.inl (some (.int y.1)), y.2) : ab_R × ab_H))) (x := y) hl (by decide) rfl (Nat.le_of_ble_eq_true rfl) (wX8_handIn hl x0 x1 x2 h) e
def mX8_stealBy : ab_M := (yX8_stealBy, cX8_stealBy, 4, (some .int), { frames := 2, cells := 0, slots := 0, locals := 46 })
theorem iX8_stealBy : ab_MI mX8_stealBy 2 := ⟨kw_ac263cff7d, kw_a869362287, by decide +kernel⟩
def fX8_stealBy (x0 : Nat) (x1 : Int32) (x2 : Int32) (h : ab_H) : Option (Int32 × ab_H) := ab_bd (ab_fr h x0 8 17) fun v1 => ab_bd (ab_ia 0 h v1 x2) fun v2 => ab_bd (ab_fr h x0 8 17) fun v3 => ab_bd (ab_iw 0 h v3 x2 (-1 : Int32)) fun h4 => ab_bd (ab_fr h4 x0 8 11) fun v5 => ab_bd (ab_iw 0 h4 v5 x1 v2) fun h6 => ab_bd (ab_fr h6 x0 8 8) fun v7 => ab_bd (ab_fi h6 x0 8 2) fun v8 => ab_ck (ab_io h6 v7 4 = true) (ab_bd (fX4_addRow v7 v8 x1 x2 v2 (nI 2) h6) fun h9 => some (v2, h9))
set_option maxRecDepth 100000 in
set_option maxHeartbeats 4000000 in
theorem wX8_stealBy {l : Launch} (hl : l.stackTraces = false) (x0 : Nat) (x1 : Int32) (x2 : Int32) (h : ab_H) : ab_S l mX8_stealBy (fun y : (Int32 × ab_H) => ((.inl (some (.int y.1)), y.2) : ab_R × ab_H)) 0 0 (fX8_stealBy x0 x1 x2 h) 0 [(0, .ref x0), (1, .int x1), (2, .int x2)] [] h := by
  unfold fX8_stealBy
  refine ab_aload_n (pc := 0) (n := 0) (i := 0) (j := 0) (by decide +kernel) rfl rfl ?_
  refine ab_getR (pc := 1) fl_X8_50_8 (by decide +kernel) (fun v1 ev1 => ?_)
  refine ab_iload_n (pc := 4) (n := 2) (i := 2) (j := 2) (by decide +kernel) rfl rfl ?_
  refine ab_iald (pc := 5) (by decide +kernel) (fun v2 ev2 => ?_)
  refine ab_istore_n (pc := 6) (n := 3) (i := 3) (lv' := [(0, .ref x0), (1, .int x1), (2, .int x2), (3, .int v2)]) (by decide +kernel) rfl (Nat.le_of_ble_eq_true rfl) rfl rfl ?_
  refine ab_aload_n (pc := 7) (n := 0) (i := 0) (j := 0) (by decide +kernel) rfl rfl ?_
  refine ab_getR (pc := 8) fl_X8_50_8 (by decide +kernel) (fun v3 ev3 => ?_)
  refine ab_iload_n (pc := 11) (n := 2) (i := 2) (j := 2) (by decide +kernel) rfl rfl ?_
  refine ab_iconst (pc := 12) (n := -1) (v := (-1 : Int32)) (by decide +kernel) rfl ?_
  refine ab_iast (pc := 13) (by decide +kernel) (fun h4 eh4 => ?_)
  refine ab_aload_n (pc := 14) (n := 0) (i := 0) (j := 0) (by decide +kernel) rfl rfl ?_
  refine ab_getR (pc := 15) fl_X8_32_8 (by decide +kernel) (fun v5 ev5 => ?_)
  refine ab_iload_n (pc := 18) (n := 1) (i := 1) (j := 1) (by decide +kernel) rfl rfl ?_
  refine ab_iload_n (pc := 19) (n := 3) (i := 3) (j := 3) (by decide +kernel) rfl rfl ?_
  refine ab_iast (pc := 20) (by decide +kernel) (fun h6 eh6 => ?_)
  refine ab_aload_n (pc := 21) (n := 0) (i := 0) (j := 0) (by decide +kernel) rfl rfl ?_
  refine ab_getR (pc := 22) fl_X8_21_8 (by decide +kernel) (fun v7 ev7 => ?_)
  refine ab_aload_n (pc := 25) (n := 0) (i := 0) (j := 0) (by decide +kernel) rfl rfl ?_
  refine ab_getI (pc := 26) fl_X8_66_8 (by decide +kernel) (fun v8 ev8 => ?_)
  refine ab_iload_n (pc := 29) (n := 1) (i := 1) (j := 1) (by decide +kernel) rfl rfl ?_
  refine ab_iload_n (pc := 30) (n := 2) (i := 2) (j := 2) (by decide +kernel) rfl rfl ?_
  refine ab_iload_n (pc := 31) (n := 3) (i := 3) (j := 3) (by decide +kernel) rfl rfl ?_
  refine ab_iconst (pc := 32) (n := 2) (v := nI 2) (by decide +kernel) rfl ?_
  refine ab_callVw (As := [.int v8, .int x1, .int x2, .int v2, .int (nI 2)]) (st := []) (pc := 33) lk_X8_103_4 rfl rfl rfl (by decide) rfl (Nat.le_of_ble_eq_true rfl) (by decide +kernel) (fun y9 e9 => okX4_addRow hl e9) (fun h9 eh9 => ?_)
  refine ab_iload_n (pc := 36) (n := 3) (i := 3) (j := 3) (by decide +kernel) rfl rfl ?_
  exact ab_iret (pc := 37) (by decide +kernel) rfl rfl (Nat.le_of_ble_eq_true rfl) (Nat.le_of_ble_eq_true rfl)
set_option maxRecDepth 100000 in
set_option maxHeartbeats 4000000 in
theorem okX8_stealBy {l : Launch} (hl : l.stackTraces = false) {x0 : Nat} {x1 : Int32} {x2 : Int32} {h : ab_H} {y : (Int32 × ab_H)} (e : fX8_stealBy x0 x1 x2 h = some y) : ab_Met l mX8_stealBy [.ref x0, .int x1, .int x2] h (.inl (some (.int y.1)), y.2) := ab_ofS (io := (fun y : (Int32 × ab_H) => ((.inl (some (.int y.1)), y.2) : ab_R × ab_H))) (x := y) hl (by decide) rfl (Nat.le_of_ble_eq_true rfl) (wX8_stealBy hl x0 x1 x2 h) e
def mX8_changeTickets : ab_M := (yX8_changeTickets, cX8_changeTickets, 6, none, { frames := 2, cells := 0, slots := 0, locals := 46 })
theorem iX8_changeTickets : ab_MI mX8_changeTickets 2 := ⟨kw_ed040e90a1, kw_a869362287, by decide +kernel⟩
theorem lk_X8_111 : ab_LS RX8 111 mJ9_min_7cf53 2 := ⟨iJ9_min_7cf53, kw_b0221e9e66, kw_c73d724a51⟩
theorem lk_X8_117 : ab_LS RX8 117 mJ9_max_7cf53 2 := ⟨iJ9_max_7cf53, kw_6aabad306d, kw_cd9e564d81⟩
def fX8_changeTickets (x0 : Nat) (x1 : Int32) (x2 : Int32) (h : ab_H) : Option ab_H := ab_bd (ab_fr h x0 8 12) fun v1 => ab_bd (ab_ia 0 h v1 x1) fun v2 => ab_bd (ab_fr h x0 8 12) fun v3 => ab_bd (ab_fr h x0 8 12) fun v4 => ab_bd (ab_ia 0 h v4 x2) fun v5 => ab_bd (ab_iw 0 h v3 x1 v5) fun h6 => ab_bd (ab_fr h6 x0 8 12) fun v7 => ab_bd (ab_iw 0 h6 v7 x2 v2) fun h8 => ab_bd (fJ9_min_7cf53 x1 x2 h8) fun v9 => ab_bd (fJ9_max_7cf53 x1 x2 h8) fun v10 => ab_bd (ab_fr h8 x0 8 8) fun v11 => ab_bd (ab_fi h8 x0 8 2) fun v12 => ab_bd (ab_fr h8 x0 8 12) fun v13 => ab_bd (ab_ia 0 h8 v13 v9) fun v14 => ab_ck (ab_io h8 v11 4 = true) (ab_bd (fX4_addRow v11 v12 v9 v14 (-1 : Int32) (nI 3) h8) fun h15 => ab_bd (ab_fr h15 x0 8 8) fun v16 => ab_bd (ab_fi h15 x0 8 2) fun v17 => ab_bd (ab_fr h15 x0 8 12) fun v18 => ab_bd (ab_ia 0 h15 v18 v10) fun v19 => ab_ck (ab_io h15 v16 4 = true) (ab_bd (fX4_addRow v16 v17 v10 v19 (-1 : Int32) (nI 3) h15) fun h20 => some h20))
set_option maxRecDepth 100000 in
set_option maxHeartbeats 4000000 in
theorem wX8_changeTickets {l : Launch} (hl : l.stackTraces = false) (x0 : Nat) (x1 : Int32) (x2 : Int32) (h : ab_H) : ab_S l mX8_changeTickets (fun y : ab_H => ((.inl none, y) : ab_R × ab_H)) 0 0 (fX8_changeTickets x0 x1 x2 h) 0 [(0, .ref x0), (1, .int x1), (2, .int x2)] [] h := by
  unfold fX8_changeTickets
  refine ab_aload_n (pc := 0) (n := 0) (i := 0) (j := 0) (by decide +kernel) rfl rfl ?_
  refine ab_getR (pc := 1) fl_X8_35_8 (by decide +kernel) (fun v1 ev1 => ?_)
  refine ab_iload_n (pc := 4) (n := 1) (i := 1) (j := 1) (by decide +kernel) rfl rfl ?_
  refine ab_iald (pc := 5) (by decide +kernel) (fun v2 ev2 => ?_)
  refine ab_istore_n (pc := 6) (n := 3) (i := 3) (lv' := [(0, .ref x0), (1, .int x1), (2, .int x2), (3, .int v2)]) (by decide +kernel) rfl (Nat.le_of_ble_eq_true rfl) rfl rfl ?_
  refine ab_aload_n (pc := 7) (n := 0) (i := 0) (j := 0) (by decide +kernel) rfl rfl ?_
  refine ab_getR (pc := 8) fl_X8_35_8 (by decide +kernel) (fun v3 ev3 => ?_)
  refine ab_iload_n (pc := 11) (n := 1) (i := 1) (j := 1) (by decide +kernel) rfl rfl ?_
  refine ab_aload_n (pc := 12) (n := 0) (i := 0) (j := 0) (by decide +kernel) rfl rfl ?_
  refine ab_getR (pc := 13) fl_X8_35_8 (by decide +kernel) (fun v4 ev4 => ?_)
  refine ab_iload_n (pc := 16) (n := 2) (i := 2) (j := 2) (by decide +kernel) rfl rfl ?_
  refine ab_iald (pc := 17) (by decide +kernel) (fun v5 ev5 => ?_)
  refine ab_iast (pc := 18) (by decide +kernel) (fun h6 eh6 => ?_)
  refine ab_aload_n (pc := 19) (n := 0) (i := 0) (j := 0) (by decide +kernel) rfl rfl ?_
  refine ab_getR (pc := 20) fl_X8_35_8 (by decide +kernel) (fun v7 ev7 => ?_)
  refine ab_iload_n (pc := 23) (n := 2) (i := 2) (j := 2) (by decide +kernel) rfl rfl ?_
  refine ab_iload_n (pc := 24) (n := 3) (i := 3) (j := 3) (by decide +kernel) rfl rfl ?_
  refine ab_iast (pc := 25) (by decide +kernel) (fun h8 eh8 => ?_)
  refine ab_iload_n (pc := 26) (n := 1) (i := 1) (j := 1) (by decide +kernel) rfl rfl ?_
  refine ab_iload_n (pc := 27) (n := 2) (i := 2) (j := 2) (by decide +kernel) rfl rfl ?_
  refine ab_callSi (As := [.int x1, .int x2]) (st := []) (pc := 28) lk_X8_111 rfl rfl rfl (by decide) rfl (Nat.le_of_ble_eq_true rfl) (by decide +kernel) (fun y9 e9 => okJ9_min_7cf53 hl e9) (fun v9 ev9 => ?_)
  refine ab_istore (pc := 31) (i := 4) (lv' := [(0, .ref x0), (1, .int x1), (2, .int x2), (3, .int v2), (4, .int v9)]) (by decide +kernel) (Nat.le_of_ble_eq_true rfl) rfl rfl ?_
  refine ab_iload_n (pc := 33) (n := 1) (i := 1) (j := 1) (by decide +kernel) rfl rfl ?_
  refine ab_iload_n (pc := 34) (n := 2) (i := 2) (j := 2) (by decide +kernel) rfl rfl ?_
  refine ab_callSi (As := [.int x1, .int x2]) (st := []) (pc := 35) lk_X8_117 rfl rfl rfl (by decide) rfl (Nat.le_of_ble_eq_true rfl) (by decide +kernel) (fun y9 e9 => okJ9_max_7cf53 hl e9) (fun v10 ev10 => ?_)
  refine ab_istore (pc := 38) (i := 5) (lv' := [(0, .ref x0), (1, .int x1), (2, .int x2), (3, .int v2), (4, .int v9), (5, .int v10)]) (by decide +kernel) (Nat.le_of_ble_eq_true rfl) rfl rfl ?_
  refine ab_aload_n (pc := 40) (n := 0) (i := 0) (j := 0) (by decide +kernel) rfl rfl ?_
  refine ab_getR (pc := 41) fl_X8_21_8 (by decide +kernel) (fun v11 ev11 => ?_)
  refine ab_aload_n (pc := 44) (n := 0) (i := 0) (j := 0) (by decide +kernel) rfl rfl ?_
  refine ab_getI (pc := 45) fl_X8_66_8 (by decide +kernel) (fun v12 ev12 => ?_)
  refine ab_iload (pc := 48) (i := 4) (j := 4) (by decide +kernel) rfl ?_
  refine ab_aload_n (pc := 50) (n := 0) (i := 0) (j := 0) (by decide +kernel) rfl rfl ?_
  refine ab_getR (pc := 51) fl_X8_35_8 (by decide +kernel) (fun v13 ev13 => ?_)
  refine ab_iload (pc := 54) (i := 4) (j := 4) (by decide +kernel) rfl ?_
  refine ab_iald (pc := 56) (by decide +kernel) (fun v14 ev14 => ?_)
  refine ab_iconst (pc := 57) (n := -1) (v := (-1 : Int32)) (by decide +kernel) rfl ?_
  refine ab_iconst (pc := 58) (n := 3) (v := nI 3) (by decide +kernel) rfl ?_
  refine ab_callVw (As := [.int v12, .int v9, .int v14, .int (-1 : Int32), .int (nI 3)]) (st := []) (pc := 59) lk_X8_103_4 rfl rfl rfl (by decide) rfl (Nat.le_of_ble_eq_true rfl) (by decide +kernel) (fun y9 e9 => okX4_addRow hl e9) (fun h15 eh15 => ?_)
  refine ab_aload_n (pc := 62) (n := 0) (i := 0) (j := 0) (by decide +kernel) rfl rfl ?_
  refine ab_getR (pc := 63) fl_X8_21_8 (by decide +kernel) (fun v16 ev16 => ?_)
  refine ab_aload_n (pc := 66) (n := 0) (i := 0) (j := 0) (by decide +kernel) rfl rfl ?_
  refine ab_getI (pc := 67) fl_X8_66_8 (by decide +kernel) (fun v17 ev17 => ?_)
  refine ab_iload (pc := 70) (i := 5) (j := 5) (by decide +kernel) rfl ?_
  refine ab_aload_n (pc := 72) (n := 0) (i := 0) (j := 0) (by decide +kernel) rfl rfl ?_
  refine ab_getR (pc := 73) fl_X8_35_8 (by decide +kernel) (fun v18 ev18 => ?_)
  refine ab_iload (pc := 76) (i := 5) (j := 5) (by decide +kernel) rfl ?_
  refine ab_iald (pc := 78) (by decide +kernel) (fun v19 ev19 => ?_)
  refine ab_iconst (pc := 79) (n := -1) (v := (-1 : Int32)) (by decide +kernel) rfl ?_
  refine ab_iconst (pc := 80) (n := 3) (v := nI 3) (by decide +kernel) rfl ?_
  refine ab_callVw (As := [.int v17, .int v10, .int v19, .int (-1 : Int32), .int (nI 3)]) (st := []) (pc := 81) lk_X8_103_4 rfl rfl rfl (by decide) rfl (Nat.le_of_ble_eq_true rfl) (by decide +kernel) (fun y9 e9 => okX4_addRow hl e9) (fun h20 eh20 => ?_)
  exact ab_vret (pc := 84) (by decide +kernel) rfl rfl (Nat.le_of_ble_eq_true rfl) (Nat.le_of_ble_eq_true rfl)
set_option maxRecDepth 100000 in
set_option maxHeartbeats 4000000 in
theorem okX8_changeTickets {l : Launch} (hl : l.stackTraces = false) {x0 : Nat} {x1 : Int32} {x2 : Int32} {h : ab_H} {y : ab_H} (e : fX8_changeTickets x0 x1 x2 h = some y) : ab_Met l mX8_changeTickets [.ref x0, .int x1, .int x2] h (.inl none, y) := ab_ofS (io := (fun y : ab_H => ((.inl none, y) : ab_R × ab_H))) (x := y) hl (by decide) rfl (Nat.le_of_ble_eq_true rfl) (wX8_changeTickets hl x0 x1 x2 h) e
def mX8_tellAll : ab_M := (yX8_tellAll, cX8_tellAll, 4, (some .int), { frames := 0, cells := 0, slots := 0, locals := 0 })
theorem iX8_tellAll : ab_MI mX8_tellAll 2 := ⟨kw_8eab48fe65, kw_a869362287, by decide +kernel⟩
def fX8_tellAll (x0 : Nat) (x1 : Int32) (x2 : Int32) (h : ab_H) : Option (Int32 × ab_H) := ab_bd (ab_fr h x0 8 14) fun v1 => ab_bd (ab_ia 0 h v1 x1) fun v2 => ab_bd (ab_fr h x0 8 14) fun v3 => ab_bd (ab_ia 0 h v3 x2) fun v4 => ab_bd (ab_fr h x0 8 14) fun v5 => ab_bd (ab_iw 0 h v5 x1 ((((v2 ||| v4) ||| ((nI 1) <<< (x1 &&& 31))) ||| ((nI 1) <<< (x2 &&& 31))) &&& (((nI 1) <<< (x1 &&& 31)) ^^^ (-1 : Int32)))) fun h6 => ab_bd (ab_fr h6 x0 8 14) fun v7 => ab_bd (ab_iw 0 h6 v7 x2 ((((v2 ||| v4) ||| ((nI 1) <<< (x1 &&& 31))) ||| ((nI 1) <<< (x2 &&& 31))) &&& (((nI 1) <<< (x2 &&& 31)) ^^^ (-1 : Int32)))) fun h8 => ab_bd (ab_fr h8 x0 8 15) fun v9 => ab_bd (ab_fr h8 x0 8 14) fun v10 => ab_bd (ab_ia 0 h8 v10 x2) fun v11 => ab_bd (ab_iw 0 h8 v9 ((x1 * (nI 10)) + x2) v11) fun h12 => ab_bd (ab_fr h12 x0 8 15) fun v13 => ab_bd (ab_fr h12 x0 8 14) fun v14 => ab_bd (ab_ia 0 h12 v14 x1) fun v15 => ab_bd (ab_iw 0 h12 v13 ((x2 * (nI 10)) + x1) v15) fun h16 => some (((v2 ||| v4) ||| ((nI 1) <<< (x1 &&& 31))) ||| ((nI 1) <<< (x2 &&& 31)), h16)
set_option maxRecDepth 100000 in
set_option maxHeartbeats 4000000 in
theorem wX8_tellAll {l : Launch} (hl : l.stackTraces = false) (x0 : Nat) (x1 : Int32) (x2 : Int32) (h : ab_H) : ab_S l mX8_tellAll (fun y : (Int32 × ab_H) => ((.inl (some (.int y.1)), y.2) : ab_R × ab_H)) 0 0 (fX8_tellAll x0 x1 x2 h) 0 [(0, .ref x0), (1, .int x1), (2, .int x2)] [] h := by
  unfold fX8_tellAll
  refine ab_aload_n (pc := 0) (n := 0) (i := 0) (j := 0) (by decide +kernel) rfl rfl ?_
  refine ab_getR (pc := 1) fl_X8_41_8 (by decide +kernel) (fun v1 ev1 => ?_)
  refine ab_iload_n (pc := 4) (n := 1) (i := 1) (j := 1) (by decide +kernel) rfl rfl ?_
  refine ab_iald (pc := 5) (by decide +kernel) (fun v2 ev2 => ?_)
  refine ab_aload_n (pc := 6) (n := 0) (i := 0) (j := 0) (by decide +kernel) rfl rfl ?_
  refine ab_getR (pc := 7) fl_X8_41_8 (by decide +kernel) (fun v3 ev3 => ?_)
  refine ab_iload_n (pc := 10) (n := 2) (i := 2) (j := 2) (by decide +kernel) rfl rfl ?_
  refine ab_iald (pc := 11) (by decide +kernel) (fun v4 ev4 => ?_)
  refine ab_ior (pc := 12) (by decide +kernel) ?_
  refine ab_iconst (pc := 13) (n := 1) (v := nI 1) (by decide +kernel) rfl ?_
  refine ab_iload_n (pc := 14) (n := 1) (i := 1) (j := 1) (by decide +kernel) rfl rfl ?_
  refine ab_ishl (pc := 15) (by decide +kernel) ?_
  refine ab_ior (pc := 16) (by decide +kernel) ?_
  refine ab_iconst (pc := 17) (n := 1) (v := nI 1) (by decide +kernel) rfl ?_
  refine ab_iload_n (pc := 18) (n := 2) (i := 2) (j := 2) (by decide +kernel) rfl rfl ?_
  refine ab_ishl (pc := 19) (by decide +kernel) ?_
  refine ab_ior (pc := 20) (by decide +kernel) ?_
  refine ab_istore_n (pc := 21) (n := 3) (i := 3) (lv' := [(0, .ref x0), (1, .int x1), (2, .int x2), (3, .int (((v2 ||| v4) ||| ((nI 1) <<< (x1 &&& 31))) ||| ((nI 1) <<< (x2 &&& 31))))]) (by decide +kernel) rfl (Nat.le_of_ble_eq_true rfl) rfl rfl ?_
  refine ab_aload_n (pc := 22) (n := 0) (i := 0) (j := 0) (by decide +kernel) rfl rfl ?_
  refine ab_getR (pc := 23) fl_X8_41_8 (by decide +kernel) (fun v5 ev5 => ?_)
  refine ab_iload_n (pc := 26) (n := 1) (i := 1) (j := 1) (by decide +kernel) rfl rfl ?_
  refine ab_iload_n (pc := 27) (n := 3) (i := 3) (j := 3) (by decide +kernel) rfl rfl ?_
  refine ab_iconst (pc := 28) (n := 1) (v := nI 1) (by decide +kernel) rfl ?_
  refine ab_iload_n (pc := 29) (n := 1) (i := 1) (j := 1) (by decide +kernel) rfl rfl ?_
  refine ab_ishl (pc := 30) (by decide +kernel) ?_
  refine ab_iconst (pc := 31) (n := -1) (v := (-1 : Int32)) (by decide +kernel) rfl ?_
  refine ab_ixor (pc := 32) (by decide +kernel) ?_
  refine ab_iand (pc := 33) (by decide +kernel) ?_
  refine ab_iast (pc := 34) (by decide +kernel) (fun h6 eh6 => ?_)
  refine ab_aload_n (pc := 35) (n := 0) (i := 0) (j := 0) (by decide +kernel) rfl rfl ?_
  refine ab_getR (pc := 36) fl_X8_41_8 (by decide +kernel) (fun v7 ev7 => ?_)
  refine ab_iload_n (pc := 39) (n := 2) (i := 2) (j := 2) (by decide +kernel) rfl rfl ?_
  refine ab_iload_n (pc := 40) (n := 3) (i := 3) (j := 3) (by decide +kernel) rfl rfl ?_
  refine ab_iconst (pc := 41) (n := 1) (v := nI 1) (by decide +kernel) rfl ?_
  refine ab_iload_n (pc := 42) (n := 2) (i := 2) (j := 2) (by decide +kernel) rfl rfl ?_
  refine ab_ishl (pc := 43) (by decide +kernel) ?_
  refine ab_iconst (pc := 44) (n := -1) (v := (-1 : Int32)) (by decide +kernel) rfl ?_
  refine ab_ixor (pc := 45) (by decide +kernel) ?_
  refine ab_iand (pc := 46) (by decide +kernel) ?_
  refine ab_iast (pc := 47) (by decide +kernel) (fun h8 eh8 => ?_)
  refine ab_aload_n (pc := 48) (n := 0) (i := 0) (j := 0) (by decide +kernel) rfl rfl ?_
  refine ab_getR (pc := 49) fl_X8_44_8 (by decide +kernel) (fun v9 ev9 => ?_)
  refine ab_iload_n (pc := 52) (n := 1) (i := 1) (j := 1) (by decide +kernel) rfl rfl ?_
  refine ab_bipush (pc := 53) (n := 10) (v := nI 10) (by decide +kernel) (by decide) ?_
  refine ab_imul (pc := 55) (by decide +kernel) ?_
  refine ab_iload_n (pc := 56) (n := 2) (i := 2) (j := 2) (by decide +kernel) rfl rfl ?_
  refine ab_iadd (pc := 57) (by decide +kernel) ?_
  refine ab_aload_n (pc := 58) (n := 0) (i := 0) (j := 0) (by decide +kernel) rfl rfl ?_
  refine ab_getR (pc := 59) fl_X8_41_8 (by decide +kernel) (fun v10 ev10 => ?_)
  refine ab_iload_n (pc := 62) (n := 2) (i := 2) (j := 2) (by decide +kernel) rfl rfl ?_
  refine ab_iald (pc := 63) (by decide +kernel) (fun v11 ev11 => ?_)
  refine ab_iast (pc := 64) (by decide +kernel) (fun h12 eh12 => ?_)
  refine ab_aload_n (pc := 65) (n := 0) (i := 0) (j := 0) (by decide +kernel) rfl rfl ?_
  refine ab_getR (pc := 66) fl_X8_44_8 (by decide +kernel) (fun v13 ev13 => ?_)
  refine ab_iload_n (pc := 69) (n := 2) (i := 2) (j := 2) (by decide +kernel) rfl rfl ?_
  refine ab_bipush (pc := 70) (n := 10) (v := nI 10) (by decide +kernel) (by decide) ?_
  refine ab_imul (pc := 72) (by decide +kernel) ?_
  refine ab_iload_n (pc := 73) (n := 1) (i := 1) (j := 1) (by decide +kernel) rfl rfl ?_
  refine ab_iadd (pc := 74) (by decide +kernel) ?_
  refine ab_aload_n (pc := 75) (n := 0) (i := 0) (j := 0) (by decide +kernel) rfl rfl ?_
  refine ab_getR (pc := 76) fl_X8_41_8 (by decide +kernel) (fun v14 ev14 => ?_)
  refine ab_iload_n (pc := 79) (n := 1) (i := 1) (j := 1) (by decide +kernel) rfl rfl ?_
  refine ab_iald (pc := 80) (by decide +kernel) (fun v15 ev15 => ?_)
  refine ab_iast (pc := 81) (by decide +kernel) (fun h16 eh16 => ?_)
  refine ab_iload_n (pc := 82) (n := 3) (i := 3) (j := 3) (by decide +kernel) rfl rfl ?_
  exact ab_iret (pc := 83) (by decide +kernel) rfl rfl (Nat.le_of_ble_eq_true rfl) (Nat.le_of_ble_eq_true rfl)
set_option maxRecDepth 100000 in
set_option maxHeartbeats 4000000 in
theorem okX8_tellAll {l : Launch} (hl : l.stackTraces = false) {x0 : Nat} {x1 : Int32} {x2 : Int32} {h : ab_H} {y : (Int32 × ab_H)} (e : fX8_tellAll x0 x1 x2 h = some y) : ab_Met l mX8_tellAll [.ref x0, .int x1, .int x2] h (.inl (some (.int y.1)), y.2) := ab_ofS (io := (fun y : (Int32 × ab_H) => ((.inl (some (.int y.1)), y.2) : ab_R × ab_H))) (x := y) hl (by decide) rfl (Nat.le_of_ble_eq_true rfl) (wX8_tellAll hl x0 x1 x2 h) e
def mX8_draw : ab_M := (yX8_draw, cX8_draw, 1, (some .int), { frames := 0, cells := 0, slots := 0, locals := 0 })
theorem iX8_draw : ab_MI mX8_draw 0 := ⟨kw_4e1a156db6, kw_a869362287, by decide +kernel⟩
def fX8_draw (x0 : Nat) (h : ab_H) : Option (Int32 × ab_H) := ab_bd (ab_fi h x0 8 5) fun v1 => ab_bd (ab_fw h x0 8 5 (.int (((nI 1103515245) * v1) + (nI 12345)))) fun h2 => ab_bd (ab_fi h2 x0 8 5) fun v3 => some ((ab_us v3 (nI 16)) &&& (nI 32767), h2)
set_option maxRecDepth 100000 in
set_option maxHeartbeats 4000000 in
theorem wX8_draw {l : Launch} (hl : l.stackTraces = false) (x0 : Nat) (h : ab_H) : ab_S l mX8_draw (fun y : (Int32 × ab_H) => ((.inl (some (.int y.1)), y.2) : ab_R × ab_H)) 0 0 (fX8_draw x0 h) 0 [(0, .ref x0)] [] h := by
  unfold fX8_draw
  refine ab_aload_n (pc := 0) (n := 0) (i := 0) (j := 0) (by decide +kernel) rfl rfl ?_
  refine ab_ldc (pc := 1) (v := nI 1103515245) (by decide +kernel) kw_f38cebfdf5 ?_
  refine ab_aload_n (pc := 3) (n := 0) (i := 0) (j := 0) (by decide +kernel) rfl rfl ?_
  refine ab_getI (pc := 4) fl_X8_15_8 (by decide +kernel) (fun v1 ev1 => ?_)
  refine ab_imul (pc := 7) (by decide +kernel) ?_
  refine ab_sipush (pc := 8) (n := 12345) (v := nI 12345) (by decide +kernel) (by decide) ?_
  refine ab_iadd (pc := 11) (by decide +kernel) ?_
  refine ab_put (pc := 12) fl_X8_15_8 rfl (fun _ => rfl) (fun _ => rfl) (by decide +kernel) (fun h2 eh2 => ?_)
  refine ab_aload_n (pc := 15) (n := 0) (i := 0) (j := 0) (by decide +kernel) rfl rfl ?_
  refine ab_getI (pc := 16) fl_X8_15_8 (by decide +kernel) (fun v3 ev3 => ?_)
  refine ab_bipush (pc := 19) (n := 16) (v := nI 16) (by decide +kernel) (by decide) ?_
  refine ab_iushr (pc := 21) (by decide +kernel) ?_
  refine ab_sipush (pc := 22) (n := 32767) (v := nI 32767) (by decide +kernel) (by decide) ?_
  refine ab_iand (pc := 25) (by decide +kernel) ?_
  exact ab_iret (pc := 26) (by decide +kernel) rfl rfl (Nat.le_of_ble_eq_true rfl) (Nat.le_of_ble_eq_true rfl)
set_option maxRecDepth 100000 in
set_option maxHeartbeats 4000000 in
theorem okX8_draw {l : Launch} (hl : l.stackTraces = false) {x0 : Nat} {h : ab_H} {y : (Int32 × ab_H)} (e : fX8_draw x0 h = some y) : ab_Met l mX8_draw [.ref x0] h (.inl (some (.int y.1)), y.2) := ab_ofS (io := (fun y : (Int32 × ab_H) => ((.inl (some (.int y.1)), y.2) : ab_R × ab_H))) (x := y) hl (by decide) rfl (Nat.le_of_ble_eq_true rfl) (wX8_draw hl x0 h) e
def mX8_nthOf : ab_M := (yX8_nthOf, cX8_nthOf, 4, (some .int), { frames := 1, cells := 0, slots := 0, locals := 21 })
theorem iX8_nthOf : ab_MI mX8_nthOf 2 := ⟨kw_2de1d034c0, kw_a869362287, by decide +kernel⟩
theorem lk_X8_170 : ab_LS RX8 170 mJ6_numberOfTrailingZeros_0f7a4 1 := ⟨iJ6_numberOfTrailingZeros_0f7a4, kw_42172dd726, kw_4bc08f7158⟩
def fX8_nthOf_4 (x1 : Int32) (h : ab_H) (k21 : Int32 → Option Int32) : Nat → Int32 → Int32 → Option Int32
  | 0, _, _ => none
  | n + 1, x2, x3 => (if x3 < x1 then fX8_nthOf_4 x1 h k21 n (x2 &&& (x2 - (nI 1))) (x3 + nI 1) else k21 x2)
def fX8_nthOf (F : Nat) (x0 : Int32) (x1 : Int32) (h : ab_H) : Option Int32 := fX8_nthOf_4 x1 h (fun (z2 : Int32) => ab_bd (fJ6_numberOfTrailingZeros_0f7a4 z2 h) fun v3 => some v3) F x0 (nI 0)
set_option maxRecDepth 100000 in
set_option maxHeartbeats 4000000 in
theorem lX8_nthOf_4 {l : Launch} (hl : l.stackTraces = false) (x1 : Int32) (h : ab_H) {k21 : Int32 → Option Int32} (hk21 : ∀ (x2 : Int32), ab_S l mX8_nthOf (fun y : Int32 => ((.inl (some (.int y)), h) : ab_R × ab_H)) 0 0 (k21 x2) 21 [(2, .int x2)] [] h) : ∀ (n : Nat) (x2 : Int32) (x3 : Int32), ab_S l mX8_nthOf (fun y : Int32 => ((.inl (some (.int y)), h) : ab_R × ab_H)) 0 0 (fX8_nthOf_4 x1 h k21 n x2 x3) 4 [(1, .int x1), (2, .int x2), (3, .int x3)] [] h := by
  intro n
  induction n with
  | zero =>
    intro x2 x3
    exact ab_none
  | succ n ih =>
    intro x2 x3
    rw [fX8_nthOf_4]
    refine ab_iload_n (pc := 4) (n := 3) (i := 3) (j := 2) (by decide +kernel) rfl rfl ?_
    refine ab_iload_n (pc := 5) (n := 1) (i := 1) (j := 0) (by decide +kernel) rfl rfl ?_
    refine ab_icmp_ge (off := 15) (pc := 6) (tgt := 21) (by decide +kernel) (by decide) (fun g1 => ?_) (fun g1 => ?_)
    · refine ab_iload_n (pc := 9) (n := 2) (i := 2) (j := 1) (by decide +kernel) rfl rfl ?_
      refine ab_iload_n (pc := 10) (n := 2) (i := 2) (j := 1) (by decide +kernel) rfl rfl ?_
      refine ab_iconst (pc := 11) (n := 1) (v := nI 1) (by decide +kernel) rfl ?_
      refine ab_isub (pc := 12) (by decide +kernel) ?_
      refine ab_iand (pc := 13) (by decide +kernel) ?_
      refine ab_istore_n (pc := 14) (n := 2) (i := 2) (lv' := [(1, .int x1), (2, .int (x2 &&& (x2 - (nI 1)))), (3, .int x3)]) (by decide +kernel) rfl (Nat.le_of_ble_eq_true rfl) rfl rfl ?_
      refine ab_iinc (pc := 15) (i := 3) (n := 1) (j := 2) (d := nI 1) (lv' := [(1, .int x1), (2, .int (x2 &&& (x2 - (nI 1)))), (3, .int (x3 + nI 1))]) (by decide +kernel) rfl rfl (Nat.le_of_ble_eq_true rfl) rfl rfl ?_
      refine ab_goto (pc := 18) (off := (-14)) (tgt := 4) (by decide +kernel) (by decide) ?_
      exact ih (x2 &&& (x2 - (nI 1))) (x3 + nI 1)
    · refine ab_few [1] (lv' := [(2, .int x2)]) rfl ?_
      exact hk21 x2
set_option maxRecDepth 100000 in
set_option maxHeartbeats 4000000 in
theorem wX8_nthOf {l : Launch} (hl : l.stackTraces = false) (F : Nat) (x0 : Int32) (x1 : Int32) (h : ab_H) : ab_S l mX8_nthOf (fun y : Int32 => ((.inl (some (.int y)), h) : ab_R × ab_H)) 0 0 (fX8_nthOf F x0 x1 h) 0 [(0, .int x0), (1, .int x1)] [] h := by
  unfold fX8_nthOf
  refine ab_iload_n (pc := 0) (n := 0) (i := 0) (j := 0) (by decide +kernel) rfl rfl ?_
  refine ab_istore_n (pc := 1) (n := 2) (i := 2) (lv' := [(0, .int x0), (1, .int x1), (2, .int x0)]) (by decide +kernel) rfl (Nat.le_of_ble_eq_true rfl) rfl rfl ?_
  refine ab_iconst (pc := 2) (n := 0) (v := nI 0) (by decide +kernel) rfl ?_
  refine ab_istore_n (pc := 3) (n := 3) (i := 3) (lv' := [(0, .int x0), (1, .int x1), (2, .int x0), (3, .int (nI 0))]) (by decide +kernel) rfl (Nat.le_of_ble_eq_true rfl) rfl rfl ?_
  refine ab_few [1, 2, 3] (lv' := [(1, .int x1), (2, .int x0), (3, .int (nI 0))]) rfl ?_
  refine lX8_nthOf_4 hl x1 h ?_ F x0 (nI 0)
  intro z2
  refine ab_iload_n (pc := 21) (n := 2) (i := 2) (j := 0) (by decide +kernel) rfl rfl ?_
  refine ab_callSi (As := [.int z2]) (st := []) (pc := 22) lk_X8_170 rfl rfl rfl (by decide) rfl (Nat.le_of_ble_eq_true rfl) (by decide +kernel) (fun y9 e9 => okJ6_numberOfTrailingZeros_0f7a4 hl e9) (fun v3 ev3 => ?_)
  exact ab_iret (pc := 25) (by decide +kernel) rfl rfl (Nat.le_of_ble_eq_true rfl) (Nat.le_of_ble_eq_true rfl)
set_option maxRecDepth 100000 in
set_option maxHeartbeats 4000000 in
theorem okX8_nthOf {l : Launch} (hl : l.stackTraces = false) {F : Nat} {x0 : Int32} {x1 : Int32} {h : ab_H} {y : Int32} (e : fX8_nthOf F x0 x1 h = some y) : ab_Met l mX8_nthOf [.int x0, .int x1] h (.inl (some (.int y)), h) := ab_ofS (io := (fun y : Int32 => ((.inl (some (.int y)), h) : ab_R × ab_H))) (x := y) hl (by decide) rfl (Nat.le_of_ble_eq_true rfl) (wX8_nthOf hl F x0 x1 h) e
def mX8_leastFreeHook : ab_M := (yX8_leastFreeHook, cX8_leastFreeHook, 2, (some .int), { frames := 0, cells := 0, slots := 0, locals := 0 })
theorem iX8_leastFreeHook : ab_MI mX8_leastFreeHook 0 := ⟨kw_90796326ba, kw_a869362287, by decide +kernel⟩
def fX8_leastFreeHook_2 (x0 : Nat) (h : ab_H) : Nat → Int32 → Option Int32
  | 0, _ => none
  | n + 1, x1 => ab_bd (ab_fi h x0 8 1) fun v1 => (if x1 < v1 then ab_bd (ab_fr h x0 8 17) fun v3 => ab_bd (ab_ia 0 h v3 x1) fun v4 => (if v4 = (-1 : Int32) then some x1 else fX8_leastFreeHook_2 x0 h n (x1 + nI 1)) else some (-1 : Int32))
def fX8_leastFreeHook (F : Nat) (x0 : Nat) (h : ab_H) : Option Int32 := fX8_leastFreeHook_2 x0 h F (nI 0)
set_option maxRecDepth 100000 in
set_option maxHeartbeats 4000000 in
theorem lX8_leastFreeHook_2 {l : Launch} (hl : l.stackTraces = false) (x0 : Nat) (h : ab_H) : ∀ (n : Nat) (x1 : Int32), ab_S l mX8_leastFreeHook (fun y : Int32 => ((.inl (some (.int y)), h) : ab_R × ab_H)) 0 0 (fX8_leastFreeHook_2 x0 h n x1) 2 [(0, .ref x0), (1, .int x1)] [] h := by
  intro n
  induction n with
  | zero =>
    intro x1
    exact ab_none
  | succ n ih =>
    intro x1
    rw [fX8_leastFreeHook_2]
    refine ab_iload_n (pc := 2) (n := 1) (i := 1) (j := 1) (by decide +kernel) rfl rfl ?_
    refine ab_aload_n (pc := 3) (n := 0) (i := 0) (j := 0) (by decide +kernel) rfl rfl ?_
    refine ab_getI (pc := 4) fl_X8_9_8 (by decide +kernel) (fun v1 ev1 => ?_)
    refine ab_icmp_ge (off := 21) (pc := 7) (tgt := 28) (by decide +kernel) (by decide) (fun g2 => ?_) (fun g2 => ?_)
    · refine ab_aload_n (pc := 10) (n := 0) (i := 0) (j := 0) (by decide +kernel) rfl rfl ?_
      refine ab_getR (pc := 11) fl_X8_50_8 (by decide +kernel) (fun v3 ev3 => ?_)
      refine ab_iload_n (pc := 14) (n := 1) (i := 1) (j := 1) (by decide +kernel) rfl rfl ?_
      refine ab_iald (pc := 15) (by decide +kernel) (fun v4 ev4 => ?_)
      refine ab_iconst (pc := 16) (n := -1) (v := (-1 : Int32)) (by decide +kernel) rfl ?_
      refine ab_icmp_ne (off := 5) (pc := 17) (tgt := 22) (by decide +kernel) (by decide) (fun g5 => ?_) (fun g5 => ?_)
      · refine ab_iload_n (pc := 20) (n := 1) (i := 1) (j := 1) (by decide +kernel) rfl rfl ?_
        exact ab_iret (pc := 21) (by decide +kernel) rfl rfl (Nat.le_of_ble_eq_true rfl) (Nat.le_of_ble_eq_true rfl)
      · refine ab_iinc (pc := 22) (i := 1) (n := 1) (j := 1) (d := nI 1) (lv' := [(0, .ref x0), (1, .int (x1 + nI 1))]) (by decide +kernel) rfl rfl (Nat.le_of_ble_eq_true rfl) rfl rfl ?_
        refine ab_goto (pc := 25) (off := (-23)) (tgt := 2) (by decide +kernel) (by decide) ?_
        exact ih (x1 + nI 1)
    · refine ab_iconst (pc := 28) (n := -1) (v := (-1 : Int32)) (by decide +kernel) rfl ?_
      exact ab_iret (pc := 29) (by decide +kernel) rfl rfl (Nat.le_of_ble_eq_true rfl) (Nat.le_of_ble_eq_true rfl)
set_option maxRecDepth 100000 in
set_option maxHeartbeats 4000000 in
theorem wX8_leastFreeHook {l : Launch} (hl : l.stackTraces = false) (F : Nat) (x0 : Nat) (h : ab_H) : ab_S l mX8_leastFreeHook (fun y : Int32 => ((.inl (some (.int y)), h) : ab_R × ab_H)) 0 0 (fX8_leastFreeHook F x0 h) 0 [(0, .ref x0)] [] h := by
  unfold fX8_leastFreeHook
  refine ab_iconst (pc := 0) (n := 0) (v := nI 0) (by decide +kernel) rfl ?_
  refine ab_istore_n (pc := 1) (n := 1) (i := 1) (lv' := [(0, .ref x0), (1, .int (nI 0))]) (by decide +kernel) rfl (Nat.le_of_ble_eq_true rfl) rfl rfl ?_
  refine lX8_leastFreeHook_2 hl x0 h F (nI 0)
set_option maxRecDepth 100000 in
set_option maxHeartbeats 4000000 in
theorem okX8_leastFreeHook {l : Launch} (hl : l.stackTraces = false) {F : Nat} {x0 : Nat} {h : ab_H} {y : Int32} (e : fX8_leastFreeHook F x0 h = some y) : ab_Met l mX8_leastFreeHook [.ref x0] h (.inl (some (.int y)), h) := ab_ofS (io := (fun y : Int32 => ((.inl (some (.int y)), h) : ab_R × ab_H))) (x := y) hl (by decide) rfl (Nat.le_of_ble_eq_true rfl) (wX8_leastFreeHook hl F x0 h) e
def mX8_faceAt : ab_M := (yX8_faceAt, cX8_faceAt, 2, (some .int), { frames := 0, cells := 0, slots := 0, locals := 0 })
theorem iX8_faceAt : ab_MI mX8_faceAt 1 := ⟨kw_b0dcc2f304, kw_a869362287, by decide +kernel⟩
def fX8_faceAt (x0 : Nat) (x1 : Int32) (h : ab_H) : Option Int32 := (if x1 < 0 then some (-1 : Int32) else (if x1 < (nI 12) then ab_bd (ab_fr h x0 8 17) fun v3 => ab_bd (ab_ia 0 h v3 x1) fun v4 => some v4 else some (-1 : Int32)))
set_option maxRecDepth 100000 in
set_option maxHeartbeats 4000000 in
theorem wX8_faceAt {l : Launch} (hl : l.stackTraces = false) (x0 : Nat) (x1 : Int32) (h : ab_H) : ab_S l mX8_faceAt (fun y : Int32 => ((.inl (some (.int y)), h) : ab_R × ab_H)) 0 0 (fX8_faceAt x0 x1 h) 0 [(0, .ref x0), (1, .int x1)] [] h := by
  unfold fX8_faceAt
  refine ab_iload_n (pc := 0) (n := 1) (i := 1) (j := 1) (by decide +kernel) rfl rfl ?_
  refine ab_if_lt (off := 18) (pc := 1) (tgt := 19) (by decide +kernel) (by decide) (fun g1 => ?_) (fun g1 => ?_)
  · refine ab_iconst (pc := 19) (n := -1) (v := (-1 : Int32)) (by decide +kernel) rfl ?_
    exact ab_iret (pc := 20) (by decide +kernel) rfl rfl (Nat.le_of_ble_eq_true rfl) (Nat.le_of_ble_eq_true rfl)
  · refine ab_iload_n (pc := 4) (n := 1) (i := 1) (j := 1) (by decide +kernel) rfl rfl ?_
    refine ab_bipush (pc := 5) (n := 12) (v := nI 12) (by decide +kernel) (by decide) ?_
    refine ab_icmp_ge (off := 12) (pc := 7) (tgt := 19) (by decide +kernel) (by decide) (fun g2 => ?_) (fun g2 => ?_)
    · refine ab_aload_n (pc := 10) (n := 0) (i := 0) (j := 0) (by decide +kernel) rfl rfl ?_
      refine ab_getR (pc := 11) fl_X8_50_8 (by decide +kernel) (fun v3 ev3 => ?_)
      refine ab_iload_n (pc := 14) (n := 1) (i := 1) (j := 1) (by decide +kernel) rfl rfl ?_
      refine ab_iald (pc := 15) (by decide +kernel) (fun v4 ev4 => ?_)
      refine ab_goto (pc := 16) (off := 4) (tgt := 20) (by decide +kernel) (by decide) ?_
      exact ab_iret (pc := 20) (by decide +kernel) rfl rfl (Nat.le_of_ble_eq_true rfl) (Nat.le_of_ble_eq_true rfl)
    · refine ab_iconst (pc := 19) (n := -1) (v := (-1 : Int32)) (by decide +kernel) rfl ?_
      exact ab_iret (pc := 20) (by decide +kernel) rfl rfl (Nat.le_of_ble_eq_true rfl) (Nat.le_of_ble_eq_true rfl)
set_option maxRecDepth 100000 in
set_option maxHeartbeats 4000000 in
theorem okX8_faceAt {l : Launch} (hl : l.stackTraces = false) {x0 : Nat} {x1 : Int32} {h : ab_H} {y : Int32} (e : fX8_faceAt x0 x1 h = some y) : ab_Met l mX8_faceAt [.ref x0, .int x1] h (.inl (some (.int y)), h) := ab_ofS (io := (fun y : Int32 => ((.inl (some (.int y)), h) : ab_R × ab_H))) (x := y) hl (by decide) rfl (Nat.le_of_ble_eq_true rfl) (wX8_faceAt hl x0 x1 h) e
def mX8_wearerOf : ab_M := (yX8_wearerOf, cX8_wearerOf, 3, (some .int), { frames := 0, cells := 0, slots := 0, locals := 0 })
theorem iX8_wearerOf : ab_MI mX8_wearerOf 1 := ⟨kw_b842addda7, kw_a869362287, by decide +kernel⟩
def fX8_wearerOf_2 (x0 : Nat) (x1 : Int32) (h : ab_H) : Nat → Int32 → Option Int32
  | 0, _ => none
  | n + 1, x2 => ab_bd (ab_fi h x0 8 0) fun v1 => (if x2 < v1 then ab_bd (ab_fr h x0 8 11) fun v3 => ab_bd (ab_ia 0 h v3 x2) fun v4 => (if v4 = x1 then some x2 else fX8_wearerOf_2 x0 x1 h n (x2 + nI 1)) else some (-1 : Int32))
def fX8_wearerOf (F : Nat) (x0 : Nat) (x1 : Int32) (h : ab_H) : Option Int32 := fX8_wearerOf_2 x0 x1 h F (nI 0)
set_option maxRecDepth 100000 in
set_option maxHeartbeats 4000000 in
theorem lX8_wearerOf_2 {l : Launch} (hl : l.stackTraces = false) (x0 : Nat) (x1 : Int32) (h : ab_H) : ∀ (n : Nat) (x2 : Int32), ab_S l mX8_wearerOf (fun y : Int32 => ((.inl (some (.int y)), h) : ab_R × ab_H)) 0 0 (fX8_wearerOf_2 x0 x1 h n x2) 2 [(0, .ref x0), (1, .int x1), (2, .int x2)] [] h := by
  intro n
  induction n with
  | zero =>
    intro x2
    exact ab_none
  | succ n ih =>
    intro x2
    rw [fX8_wearerOf_2]
    refine ab_iload_n (pc := 2) (n := 2) (i := 2) (j := 2) (by decide +kernel) rfl rfl ?_
    refine ab_aload_n (pc := 3) (n := 0) (i := 0) (j := 0) (by decide +kernel) rfl rfl ?_
    refine ab_getI (pc := 4) fl_X8_63_8 (by decide +kernel) (fun v1 ev1 => ?_)
    refine ab_icmp_ge (off := 21) (pc := 7) (tgt := 28) (by decide +kernel) (by decide) (fun g2 => ?_) (fun g2 => ?_)
    · refine ab_aload_n (pc := 10) (n := 0) (i := 0) (j := 0) (by decide +kernel) rfl rfl ?_
      refine ab_getR (pc := 11) fl_X8_32_8 (by decide +kernel) (fun v3 ev3 => ?_)
      refine ab_iload_n (pc := 14) (n := 2) (i := 2) (j := 2) (by decide +kernel) rfl rfl ?_
      refine ab_iald (pc := 15) (by decide +kernel) (fun v4 ev4 => ?_)
      refine ab_iload_n (pc := 16) (n := 1) (i := 1) (j := 1) (by decide +kernel) rfl rfl ?_
      refine ab_icmp_ne (off := 5) (pc := 17) (tgt := 22) (by decide +kernel) (by decide) (fun g5 => ?_) (fun g5 => ?_)
      · refine ab_iload_n (pc := 20) (n := 2) (i := 2) (j := 2) (by decide +kernel) rfl rfl ?_
        exact ab_iret (pc := 21) (by decide +kernel) rfl rfl (Nat.le_of_ble_eq_true rfl) (Nat.le_of_ble_eq_true rfl)
      · refine ab_iinc (pc := 22) (i := 2) (n := 1) (j := 2) (d := nI 1) (lv' := [(0, .ref x0), (1, .int x1), (2, .int (x2 + nI 1))]) (by decide +kernel) rfl rfl (Nat.le_of_ble_eq_true rfl) rfl rfl ?_
        refine ab_goto (pc := 25) (off := (-23)) (tgt := 2) (by decide +kernel) (by decide) ?_
        exact ih (x2 + nI 1)
    · refine ab_iconst (pc := 28) (n := -1) (v := (-1 : Int32)) (by decide +kernel) rfl ?_
      exact ab_iret (pc := 29) (by decide +kernel) rfl rfl (Nat.le_of_ble_eq_true rfl) (Nat.le_of_ble_eq_true rfl)
set_option maxRecDepth 100000 in
set_option maxHeartbeats 4000000 in
theorem wX8_wearerOf {l : Launch} (hl : l.stackTraces = false) (F : Nat) (x0 : Nat) (x1 : Int32) (h : ab_H) : ab_S l mX8_wearerOf (fun y : Int32 => ((.inl (some (.int y)), h) : ab_R × ab_H)) 0 0 (fX8_wearerOf F x0 x1 h) 0 [(0, .ref x0), (1, .int x1)] [] h := by
  unfold fX8_wearerOf
  refine ab_iconst (pc := 0) (n := 0) (v := nI 0) (by decide +kernel) rfl ?_
  refine ab_istore_n (pc := 1) (n := 2) (i := 2) (lv' := [(0, .ref x0), (1, .int x1), (2, .int (nI 0))]) (by decide +kernel) rfl (Nat.le_of_ble_eq_true rfl) rfl rfl ?_
  refine lX8_wearerOf_2 hl x0 x1 h F (nI 0)
set_option maxRecDepth 100000 in
set_option maxHeartbeats 4000000 in
theorem okX8_wearerOf {l : Launch} (hl : l.stackTraces = false) {F : Nat} {x0 : Nat} {x1 : Int32} {h : ab_H} {y : Int32} (e : fX8_wearerOf F x0 x1 h = some y) : ab_Met l mX8_wearerOf [.ref x0, .int x1] h (.inl (some (.int y)), h) := ab_ofS (io := (fun y : Int32 => ((.inl (some (.int y)), h) : ab_R × ab_H))) (x := y) hl (by decide) rfl (Nat.le_of_ble_eq_true rfl) (wX8_wearerOf hl F x0 x1 h) e
