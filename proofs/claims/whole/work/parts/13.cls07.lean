/-! ===== class (by program, decomp.py) ===== -/
def mX3_readCondition (d : Nat) : ab_M := (yX3_readCondition, cX3_readCondition, 6, none, { frames := 4 + 2 * d, cells := 0, slots := 0, locals := 89 + 47 * d })
theorem iX3_readCondition (d : Nat) : ab_MI (mX3_readCondition d) 1 := ⟨kw_afcc1c1f84, kw_c1639047af, (by decide +kernel : yX3_readCondition.cls ≠ "java/lang/invoke/MethodHandle" ∧ yX3_readCondition.cls ≠ "java/lang/invoke/VarHandle" ∧ (parseMethodDescriptor yX3_readCondition.desc).map (fun d => d.parameters.length) = some 1)⟩
def mX3_readAtom (d : Nat) : ab_M := (yX3_readAtom, cX3_readAtom, 3, none, { frames := 3 + 2 * d, cells := 0, slots := 0, locals := 67 + 47 * d })
theorem iX3_readAtom (d : Nat) : ab_MI (mX3_readAtom d) 1 := ⟨kw_a7b5596400, kw_c1639047af, (by decide +kernel : yX3_readAtom.cls ≠ "java/lang/invoke/MethodHandle" ∧ yX3_readAtom.cls ≠ "java/lang/invoke/VarHandle" ∧ (parseMethodDescriptor yX3_readAtom.desc).map (fun d => d.parameters.length) = some 1)⟩
theorem lk_X3_64_3 (d : Nat) : ab_LV RX3 64 3 (mX3_readAtom d) 1 := ⟨RX3, rfl, (iX3_readAtom d), kw_69652ce14f, kw_fab71a6510, kw_2778d4d5ee⟩
def fX3_readCondition_10 (F : Nat) (A : Nat → Int32 → ab_H → Option ab_H) (x0 : Nat) (x1 : Int32) : Nat → Int32 → Int32 → Int32 → Int32 → ab_H → Option ab_H
  | 0, _, _, _, _, _ => none
  | n + 1, x2, x3, x4, x5, h => (if x5 < (nI 400) then (if x4 = 0 then some h else ab_ck (ab_io h x0 3 = true) (ab_bd (A x0 x1 h) fun h3 => ab_jn (κ := ab_H → Option ab_H) (fun (h4 : ab_H) => ab_ck (ab_io h4 x0 3 = true) (ab_bd (fX10_isHereL x0 (nI 1011) h4) fun v5 => ab_jn (κ := ab_H → Option ab_H) (fun (h6 : ab_H) => ab_jn (κ := Int32 → Option ab_H) (fun (z7 : Int32) => ab_ck (ab_io h6 x0 3 = true) (ab_bd (fX10_isRightL x0 h6) fun v8 => ab_jn (κ := Int32 → Option ab_H) (fun (z9 : Int32) => (if z9 = 0 then fX3_readCondition_10 F A x0 x1 n v5 z7 z9 (x5 + nI 1) h6 else ab_bd (ab_fr h6 x0 3 0) fun v11 => ab_ck (ab_io h6 v11 0 = true) (ab_bd (fX0_goOn v11 h6) fun h12 => fX3_readCondition_10 F A x0 x1 n v5 z7 z9 (x5 + nI 1) h12))) fun j13 => ab_jn (κ := Option ab_H) (j13 (nI 0)) fun j14 => (if v8 = 0 then j14 else (if v5 = 0 then (if z7 = 0 then j14 else j13 (nI 1)) else j13 (nI 1))))) fun j18 => (if v5 = 0 then ab_ck (ab_io h6 x0 3 = true) (ab_bd (fX10_isHereL x0 (nI 1010) h6) fun v20 => j18 v20) else j18 x3)) fun j21 => (if v5 = 0 then (if x3 = 0 then j21 h4 else ab_ck (ab_io h4 x0 3 = true) (ab_bd (fX3_emit x0 (nI 1104) h4) fun h24 => j21 h24)) else j21 h4))) fun j25 => (if x2 = 0 then j25 h3 else ab_ck (ab_io h3 x0 3 = true) (ab_bd (fX3_emit x0 (nI 1103) h3) fun h27 => j25 h27)))) else some h)
def fX3_readCondition (F : Nat) (A : Nat → Int32 → ab_H → Option ab_H) (x0 : Nat) (x1 : Int32) (h : ab_H) : Option ab_H := fX3_readCondition_10 F A x0 x1 F (nI 0) (nI 0) (nI 1) (nI 0) h
set_option maxRecDepth 100000 in
set_option maxHeartbeats 4000000 in
theorem lX3_readCondition_10 {l : Launch} (hl : l.stackTraces = false) (F : Nat) (d : Nat) {A : Nat → Int32 → ab_H → Option ab_H} (hA : ∀ (z : Nat) (z0 : Int32) (h : ab_H) (y : ab_H), A z z0 h = some y → ab_Met l (mX3_readAtom d) [.ref z, .int z0] h (.inl none, y)) (x0 : Nat) (x1 : Int32) : ∀ (n : Nat) (x2 : Int32) (x3 : Int32) (x4 : Int32) (x5 : Int32) (h : ab_H), ab_S l (mX3_readCondition d) (fun y : ab_H => ((.inl none, y) : ab_R × ab_H)) 0 0 (fX3_readCondition_10 F A x0 x1 n x2 x3 x4 x5 h) 10 [(0, .ref x0), (1, .int x1), (2, .int x2), (3, .int x3), (4, .int x4), (5, .int x5)] [] h := by
  intro n
  induction n with
  | zero =>
    intro x2 x3 x4 x5 h
    exact ab_none
  | succ n ih =>
    intro x2 x3 x4 x5 h
    rw [fX3_readCondition_10]
    refine ab_iload (pc := 10) (i := 5) (j := 5) (by show decode cX3_readCondition 10 = _; decide +kernel) rfl ?_
    refine ab_sipush (pc := 12) (n := 400) (v := nI 400) (by show decode cX3_readCondition 12 = _; decide +kernel) (by decide) ?_
    refine ab_icmp_ge (off := 99) (pc := 15) (tgt := 114) (by show decode cX3_readCondition 15 = _; decide +kernel) (by decide) (fun g1 => ?_) (fun g1 => ?_)
    · refine ab_iload (pc := 18) (i := 4) (j := 4) (by show decode cX3_readCondition 18 = _; decide +kernel) rfl ?_
      refine ab_if_eq (off := 94) (pc := 20) (tgt := 114) (by show decode cX3_readCondition 20 = _; decide +kernel) (by decide) (fun g2 => ?_) (fun g2 => ?_)
      · exact ab_vret (pc := 114) (by show decode cX3_readCondition 114 = _; decide +kernel) rfl rfl (Nat.le_of_ble_eq_true rfl) (Nat.le_of_ble_eq_true rfl)
      · refine ab_aload_n (pc := 23) (n := 0) (i := 0) (j := 0) (by show decode cX3_readCondition 23 = _; decide +kernel) rfl rfl ?_
        refine ab_iload_n (pc := 24) (n := 1) (i := 1) (j := 1) (by show decode cX3_readCondition 24 = _; decide +kernel) rfl rfl ?_
        refine ab_callVw (As := [.int x1]) (st := []) (pc := 25) (lk_X3_64_3 d) rfl rfl rfl (ab_rmB_of (by simp only [mX3_readCondition, mX3_readAtom]; omega) (by simp only [mX3_readCondition, mX3_readAtom]; omega)) rfl (Nat.le_of_ble_eq_true rfl) (by show decode cX3_readCondition 25 = _; decide +kernel) (fun y9 e9 => hA _ _ _ _ e9) (fun h3 eh3 => ?_)
        refine ab_iload_n (pc := 28) (n := 2) (i := 2) (j := 2) (by show decode cX3_readCondition 28 = _; decide +kernel) rfl rfl ?_
        refine ab_jr (fun k9 : ab_H → Option ab_H => ∀ (h4 : ab_H), ab_S l (mX3_readCondition d) (fun y : ab_H => ((.inl none, y) : ab_R × ab_H)) 0 0 (k9 h4) 39 [(0, .ref x0), (1, .int x1), (3, .int x3), (5, .int x5)] [] h4) ?_ (fun j25 hj25 => ?_)
        · intro h4
          refine ab_aload_n (pc := 39) (n := 0) (i := 0) (j := 0) (by show decode cX3_readCondition 39 = _; decide +kernel) rfl rfl ?_
          refine ab_sipush (pc := 40) (n := 1011) (v := nI 1011) (by show decode cX3_readCondition 40 = _; decide +kernel) (by decide) ?_
          refine ab_callUi (As := [.int (nI 1011)]) (st := []) (pc := 43) lk_X3_37_3 rfl rfl rfl (ab_rmB_of (by simp only [mX3_readCondition, mX10_isHereL]; omega) (by simp only [mX3_readCondition, mX10_isHereL]; omega)) rfl (Nat.le_of_ble_eq_true rfl) (by show decode cX3_readCondition 43 = _; decide +kernel) (fun y9 e9 => okX10_isHereL hl e9) (fun v5 ev5 => ?_)
          refine ab_istore_n (pc := 46) (n := 2) (i := 2) (lv' := [(0, .ref x0), (1, .int x1), (2, .int v5), (3, .int x3), (5, .int x5)]) (by show decode cX3_readCondition 46 = _; decide +kernel) rfl (Nat.le_of_ble_eq_true rfl) rfl rfl ?_
          refine ab_iload_n (pc := 47) (n := 2) (i := 2) (j := 2) (by show decode cX3_readCondition 47 = _; decide +kernel) rfl rfl ?_
          refine ab_jr (fun k9 : ab_H → Option ab_H => ∀ (h6 : ab_H), ab_S l (mX3_readCondition d) (fun y : ab_H => ((.inl none, y) : ab_R × ab_H)) 0 0 (k9 h6) 62 [(0, .ref x0), (1, .int x1), (2, .int v5), (3, .int x3), (5, .int x5)] [] h6) ?_ (fun j21 hj21 => ?_)
          · intro h6
            refine ab_iload_n (pc := 62) (n := 2) (i := 2) (j := 2) (by show decode cX3_readCondition 62 = _; decide +kernel) rfl rfl ?_
            refine ab_jr (fun k9 : Int32 → Option ab_H => ∀ (z7 : Int32), ab_S l (mX3_readCondition d) (fun y : ab_H => ((.inl none, y) : ab_R × ab_H)) 0 0 (k9 z7) 74 [(0, .ref x0), (1, .int x1), (2, .int v5), (3, .int z7), (5, .int x5)] [] h6) ?_ (fun j18 hj18 => ?_)
            · intro z7
              refine ab_aload_n (pc := 74) (n := 0) (i := 0) (j := 0) (by show decode cX3_readCondition 74 = _; decide +kernel) rfl rfl ?_
              refine ab_callUi (As := []) (st := []) (pc := 75) lk_X3_33_3 rfl rfl rfl (ab_rmB_of (by simp only [mX3_readCondition, mX10_isRightL]; omega) (by simp only [mX3_readCondition, mX10_isRightL]; omega)) rfl (Nat.le_of_ble_eq_true rfl) (by show decode cX3_readCondition 75 = _; decide +kernel) (fun y9 e9 => okX10_isRightL hl e9) (fun v8 ev8 => ?_)
              refine ab_jr (fun k9 : Int32 → Option ab_H => ∀ (z9 : Int32), ab_S l (mX3_readCondition d) (fun y : ab_H => ((.inl none, y) : ab_R × ab_H)) 0 0 (k9 z9) 94 [(0, .ref x0), (1, .int x1), (2, .int v5), (3, .int z7), (5, .int x5)] [.int z9] h6) ?_ (fun j13 hj13 => ?_)
              · intro z9
                refine ab_istore (pc := 94) (i := 4) (lv' := [(0, .ref x0), (1, .int x1), (2, .int v5), (3, .int z7), (4, .int z9), (5, .int x5)]) (by show decode cX3_readCondition 94 = _; decide +kernel) (Nat.le_of_ble_eq_true rfl) rfl rfl ?_
                refine ab_iload (pc := 96) (i := 4) (j := 4) (by show decode cX3_readCondition 96 = _; decide +kernel) rfl ?_
                refine ab_if_eq (off := 10) (pc := 98) (tgt := 108) (by show decode cX3_readCondition 98 = _; decide +kernel) (by decide) (fun g10 => ?_) (fun g10 => ?_)
                · refine ab_iinc (pc := 108) (i := 5) (n := 1) (j := 5) (d := nI 1) (lv' := [(0, .ref x0), (1, .int x1), (2, .int v5), (3, .int z7), (4, .int z9), (5, .int (x5 + nI 1))]) (by show decode cX3_readCondition 108 = _; decide +kernel) rfl rfl (Nat.le_of_ble_eq_true rfl) rfl rfl ?_
                  refine ab_goto (pc := 111) (off := (-101)) (tgt := 10) (by show decode cX3_readCondition 111 = _; decide +kernel) (by decide) ?_
                  exact ih v5 z7 z9 (x5 + nI 1) h6
                · refine ab_aload_n (pc := 101) (n := 0) (i := 0) (j := 0) (by show decode cX3_readCondition 101 = _; decide +kernel) rfl rfl ?_
                  refine ab_getR (pc := 102) fl_X3_19_3 (by show decode cX3_readCondition 102 = _; decide +kernel) (fun v11 ev11 => ?_)
                  refine ab_callVw (As := []) (st := []) (pc := 105) lk_X3_41_0 rfl rfl rfl (ab_rmB_of (by simp only [mX3_readCondition, mX0_goOn]; omega) (by simp only [mX3_readCondition, mX0_goOn]; omega)) rfl (Nat.le_of_ble_eq_true rfl) (by show decode cX3_readCondition 105 = _; decide +kernel) (fun y9 e9 => okX0_goOn hl e9) (fun h12 eh12 => ?_)
                  refine ab_iinc (pc := 108) (i := 5) (n := 1) (j := 5) (d := nI 1) (lv' := [(0, .ref x0), (1, .int x1), (2, .int v5), (3, .int z7), (4, .int z9), (5, .int (x5 + nI 1))]) (by show decode cX3_readCondition 108 = _; decide +kernel) rfl rfl (Nat.le_of_ble_eq_true rfl) rfl rfl ?_
                  refine ab_goto (pc := 111) (off := (-101)) (tgt := 10) (by show decode cX3_readCondition 111 = _; decide +kernel) (by decide) ?_
                  exact ih v5 z7 z9 (x5 + nI 1) h12
              · refine ab_jr (fun k9 : Option ab_H => ab_S l (mX3_readCondition d) (fun y : ab_H => ((.inl none, y) : ab_R × ab_H)) 0 0 (k9) 93 [(0, .ref x0), (1, .int x1), (2, .int v5), (3, .int z7), (5, .int x5)] [] h6) ?_ (fun j14 hj14 => ?_)
                · refine ab_iconst (pc := 93) (n := 0) (v := nI 0) (by show decode cX3_readCondition 93 = _; decide +kernel) rfl ?_
                  exact hj13 (nI 0)
                · refine ab_if_eq (off := 15) (pc := 78) (tgt := 93) (by show decode cX3_readCondition 78 = _; decide +kernel) (by decide) (fun g15 => ?_) (fun g15 => ?_)
                  · exact hj14
                  · refine ab_iload_n (pc := 81) (n := 2) (i := 2) (j := 2) (by show decode cX3_readCondition 81 = _; decide +kernel) rfl rfl ?_
                    refine ab_if_ne (off := 7) (pc := 82) (tgt := 89) (by show decode cX3_readCondition 82 = _; decide +kernel) (by decide) (fun g16 => ?_) (fun g16 => ?_)
                    · refine ab_iload_n (pc := 85) (n := 3) (i := 3) (j := 3) (by show decode cX3_readCondition 85 = _; decide +kernel) rfl rfl ?_
                      refine ab_if_eq (off := 7) (pc := 86) (tgt := 93) (by show decode cX3_readCondition 86 = _; decide +kernel) (by decide) (fun g17 => ?_) (fun g17 => ?_)
                      · exact hj14
                      · refine ab_iconst (pc := 89) (n := 1) (v := nI 1) (by show decode cX3_readCondition 89 = _; decide +kernel) rfl ?_
                        refine ab_goto (pc := 90) (off := 4) (tgt := 94) (by show decode cX3_readCondition 90 = _; decide +kernel) (by decide) ?_
                        exact hj13 (nI 1)
                    · refine ab_iconst (pc := 89) (n := 1) (v := nI 1) (by show decode cX3_readCondition 89 = _; decide +kernel) rfl ?_
                      refine ab_goto (pc := 90) (off := 4) (tgt := 94) (by show decode cX3_readCondition 90 = _; decide +kernel) (by decide) ?_
                      exact hj13 (nI 1)
            · refine ab_if_ne (off := 11) (pc := 63) (tgt := 74) (by show decode cX3_readCondition 63 = _; decide +kernel) (by decide) (fun g19 => ?_) (fun g19 => ?_)
              · refine ab_aload_n (pc := 66) (n := 0) (i := 0) (j := 0) (by show decode cX3_readCondition 66 = _; decide +kernel) rfl rfl ?_
                refine ab_sipush (pc := 67) (n := 1010) (v := nI 1010) (by show decode cX3_readCondition 67 = _; decide +kernel) (by decide) ?_
                refine ab_callUi (As := [.int (nI 1010)]) (st := []) (pc := 70) lk_X3_37_3 rfl rfl rfl (ab_rmB_of (by simp only [mX3_readCondition, mX10_isHereL]; omega) (by simp only [mX3_readCondition, mX10_isHereL]; omega)) rfl (Nat.le_of_ble_eq_true rfl) (by show decode cX3_readCondition 70 = _; decide +kernel) (fun y9 e9 => okX10_isHereL hl e9) (fun v20 ev20 => ?_)
                refine ab_istore_n (pc := 73) (n := 3) (i := 3) (lv' := [(0, .ref x0), (1, .int x1), (2, .int v5), (3, .int v20), (5, .int x5)]) (by show decode cX3_readCondition 73 = _; decide +kernel) rfl (Nat.le_of_ble_eq_true rfl) rfl rfl ?_
                exact hj18 v20
              · exact hj18 x3
          · refine ab_if_ne (off := 14) (pc := 48) (tgt := 62) (by show decode cX3_readCondition 48 = _; decide +kernel) (by decide) (fun g22 => ?_) (fun g22 => ?_)
            · refine ab_iload_n (pc := 51) (n := 3) (i := 3) (j := 3) (by show decode cX3_readCondition 51 = _; decide +kernel) rfl rfl ?_
              refine ab_if_eq (off := 10) (pc := 52) (tgt := 62) (by show decode cX3_readCondition 52 = _; decide +kernel) (by decide) (fun g23 => ?_) (fun g23 => ?_)
              · exact hj21 h4
              · refine ab_aload_n (pc := 55) (n := 0) (i := 0) (j := 0) (by show decode cX3_readCondition 55 = _; decide +kernel) rfl rfl ?_
                refine ab_sipush (pc := 56) (n := 1104) (v := nI 1104) (by show decode cX3_readCondition 56 = _; decide +kernel) (by decide) ?_
                refine ab_callVw (As := [.int (nI 1104)]) (st := []) (pc := 59) lk_X3_49_3 rfl rfl rfl (ab_rmB_of (by simp only [mX3_readCondition, mX3_emit]; omega) (by simp only [mX3_readCondition, mX3_emit]; omega)) rfl (Nat.le_of_ble_eq_true rfl) (by show decode cX3_readCondition 59 = _; decide +kernel) (fun y9 e9 => okX3_emit hl e9) (fun h24 eh24 => ?_)
                exact hj21 h24
            · exact hj21 h4
        · refine ab_if_eq (off := 10) (pc := 29) (tgt := 39) (by show decode cX3_readCondition 29 = _; decide +kernel) (by decide) (fun g26 => ?_) (fun g26 => ?_)
          · refine ab_few [0, 1, 3, 5] (lv' := [(0, .ref x0), (1, .int x1), (3, .int x3), (5, .int x5)]) rfl ?_
            exact hj25 h3
          · refine ab_aload_n (pc := 32) (n := 0) (i := 0) (j := 0) (by show decode cX3_readCondition 32 = _; decide +kernel) rfl rfl ?_
            refine ab_sipush (pc := 33) (n := 1103) (v := nI 1103) (by show decode cX3_readCondition 33 = _; decide +kernel) (by decide) ?_
            refine ab_callVw (As := [.int (nI 1103)]) (st := []) (pc := 36) lk_X3_49_3 rfl rfl rfl (ab_rmB_of (by simp only [mX3_readCondition, mX3_emit]; omega) (by simp only [mX3_readCondition, mX3_emit]; omega)) rfl (Nat.le_of_ble_eq_true rfl) (by show decode cX3_readCondition 36 = _; decide +kernel) (fun y9 e9 => okX3_emit hl e9) (fun h27 eh27 => ?_)
            refine ab_few [0, 1, 3, 5] (lv' := [(0, .ref x0), (1, .int x1), (3, .int x3), (5, .int x5)]) rfl ?_
            exact hj25 h27
    · exact ab_vret (pc := 114) (by show decode cX3_readCondition 114 = _; decide +kernel) rfl rfl (Nat.le_of_ble_eq_true rfl) (Nat.le_of_ble_eq_true rfl)
set_option maxRecDepth 100000 in
set_option maxHeartbeats 4000000 in
theorem wX3_readCondition {l : Launch} (hl : l.stackTraces = false) (F : Nat) (d : Nat) {A : Nat → Int32 → ab_H → Option ab_H} (hA : ∀ (z : Nat) (z0 : Int32) (h : ab_H) (y : ab_H), A z z0 h = some y → ab_Met l (mX3_readAtom d) [.ref z, .int z0] h (.inl none, y)) (x0 : Nat) (x1 : Int32) (h : ab_H) : ab_S l (mX3_readCondition d) (fun y : ab_H => ((.inl none, y) : ab_R × ab_H)) 0 0 (fX3_readCondition F A x0 x1 h) 0 [(0, .ref x0), (1, .int x1)] [] h := by
  unfold fX3_readCondition
  refine ab_iconst (pc := 0) (n := 0) (v := nI 0) (by show decode cX3_readCondition 0 = _; decide +kernel) rfl ?_
  refine ab_istore_n (pc := 1) (n := 2) (i := 2) (lv' := [(0, .ref x0), (1, .int x1), (2, .int (nI 0))]) (by show decode cX3_readCondition 1 = _; decide +kernel) rfl (Nat.le_of_ble_eq_true rfl) rfl rfl ?_
  refine ab_iconst (pc := 2) (n := 0) (v := nI 0) (by show decode cX3_readCondition 2 = _; decide +kernel) rfl ?_
  refine ab_istore_n (pc := 3) (n := 3) (i := 3) (lv' := [(0, .ref x0), (1, .int x1), (2, .int (nI 0)), (3, .int (nI 0))]) (by show decode cX3_readCondition 3 = _; decide +kernel) rfl (Nat.le_of_ble_eq_true rfl) rfl rfl ?_
  refine ab_iconst (pc := 4) (n := 1) (v := nI 1) (by show decode cX3_readCondition 4 = _; decide +kernel) rfl ?_
  refine ab_istore (pc := 5) (i := 4) (lv' := [(0, .ref x0), (1, .int x1), (2, .int (nI 0)), (3, .int (nI 0)), (4, .int (nI 1))]) (by show decode cX3_readCondition 5 = _; decide +kernel) (Nat.le_of_ble_eq_true rfl) rfl rfl ?_
  refine ab_iconst (pc := 7) (n := 0) (v := nI 0) (by show decode cX3_readCondition 7 = _; decide +kernel) rfl ?_
  refine ab_istore (pc := 8) (i := 5) (lv' := [(0, .ref x0), (1, .int x1), (2, .int (nI 0)), (3, .int (nI 0)), (4, .int (nI 1)), (5, .int (nI 0))]) (by show decode cX3_readCondition 8 = _; decide +kernel) (Nat.le_of_ble_eq_true rfl) rfl rfl ?_
  refine lX3_readCondition_10 hl F d hA x0 x1 F (nI 0) (nI 0) (nI 1) (nI 0) h
set_option maxRecDepth 100000 in
set_option maxHeartbeats 4000000 in
theorem okX3_readCondition {l : Launch} (hl : l.stackTraces = false) {F : Nat} (d : Nat) {A : Nat → Int32 → ab_H → Option ab_H} (hA : ∀ (z : Nat) (z0 : Int32) (h : ab_H) (y : ab_H), A z z0 h = some y → ab_Met l (mX3_readAtom d) [.ref z, .int z0] h (.inl none, y)) {x0 : Nat} {x1 : Int32} {h : ab_H} {y : ab_H} (e : fX3_readCondition F A x0 x1 h = some y) : ab_Met l (mX3_readCondition d) [.ref x0, .int x1] h (.inl none, y) := ab_ofS (io := (fun y : ab_H => ((.inl none, y) : ab_R × ab_H))) (x := y) hl rfl rfl (Nat.le_of_ble_eq_true rfl) (wX3_readCondition hl F d hA x0 x1 h) e
theorem lk_X3_45_3 (d : Nat) : ab_LV RX3 45 3 (mX3_readCondition d) 1 := ⟨RX3, rfl, (iX3_readCondition d), kw_903067feec, kw_f2842eb1ce, kw_d50bea8440⟩
theorem lk_X3_67_3 : ab_LV RX3 67 3 mX3_readSum 0 := ⟨RX3, rfl, iX3_readSum, kw_86f644d7b0, kw_ac1c36fa29, kw_504e8a4980⟩
def fX3_readAtomB (F : Nat) (A : Nat → Int32 → ab_H → Option ab_H) (x0 : Nat) (x1 : Int32) (h : ab_H) : Option ab_H := ab_ck (ab_io h x0 3 = true) (ab_bd (fX10_isHereL x0 (nI 1012) h) fun v1 => (if v1 = 0 then ab_ck (ab_io h x0 3 = true) (ab_bd (fX10_isHereL x0 (nI 40) h) fun v3 => (if v3 = 0 then ab_ck (ab_io h x0 3 = true) (ab_bd (fX10_isHereL x0 (nI 1013) h) fun v5 => ab_jn (κ := Option ab_H) (ab_bd (ab_fr h x0 3 0) fun v6 => ab_ck (ab_io h v6 0 = true) (ab_bd (fX0_kindHere v6 h) fun v7 => ab_ck (ab_io h x0 3 = true) (ab_bd (fX3_emit x0 v7 h) fun h8 => ab_bd (ab_fr h8 x0 3 0) fun v9 => ab_ck (ab_io h8 v9 0 = true) (ab_bd (fX0_goOn v9 h8) fun h10 => some h10)))) fun j11 => (if v5 = 0 then ab_ck (ab_io h x0 3 = true) (ab_bd (fX10_isHereL x0 (nI 1002) h) fun v13 => (if v13 = 0 then ab_ck (ab_io h x0 3 = true) (ab_bd (fX3_readSum F x0 h) fun h15 => ab_ck (ab_io h15 x0 3 = true) (ab_bd (fX10_isHereL x0 (nI 60) h15) fun v16 => ab_jn (κ := Int32 → Option ab_H) (fun (z17 : Int32) => ab_ck (ab_io h15 x0 3 = true) (ab_bd (fX10_isHereL x0 (nI 60) h15) fun v18 => ab_jn (κ := Int32 → Option ab_H) (fun (z19 : Int32) => ab_ck (ab_io h15 x0 3 = true) (ab_bd (fX10_acceptL x0 z19 h15) fun h20 => ab_ck (ab_io h20 x0 3 = true) (ab_bd (fX3_readSum F x0 h20) fun h21 => ab_ck (ab_io h21 x0 3 = true) (ab_bd (fX3_emit x0 z17 h21) fun h22 => some h22)))) fun j23 => ab_jn (κ := Option ab_H) (j23 (nI 1)) fun j24 => (if v18 = 0 then ab_ck (ab_io h15 x0 3 = true) (ab_bd (fX10_isHereL x0 (nI 62) h15) fun v26 => (if v26 = 0 then j23 (nI 0) else j24)) else j24))) fun j28 => (if v16 = 0 then j28 (nI 1102) else j28 (nI 1101)))) else j11)) else j11)) else ab_jn (κ := Int32 → Option ab_H) (fun (z30 : Int32) => ab_ck (ab_io h x0 3 = true) (ab_bd (fX10_acceptL x0 z30 h) fun h31 => ab_ck (ab_io h31 x0 3 = true) (ab_bd (fX10_isRightL x0 h31) fun v32 => (if v32 = 0 then some h31 else ab_ck (ab_io h31 x0 3 = true) (ab_bd (fX3_readCondition F A x0 (x1 + (nI 1)) h31) fun h34 => ab_ck (ab_io h34 x0 3 = true) (ab_bd (fX10_isHereL x0 (nI 41) h34) fun v35 => ab_ck (ab_io h34 x0 3 = true) (ab_bd (fX10_acceptL x0 v35 h34) fun h36 => some h36))))))) fun j37 => (if x1 < (nI 6) then j37 (nI 1) else j37 (nI 0)))) else ab_jn (κ := Int32 → Option ab_H) (fun (z39 : Int32) => ab_ck (ab_io h x0 3 = true) (ab_bd (fX10_acceptL x0 z39 h) fun h40 => ab_ck (ab_io h40 x0 3 = true) (ab_bd (fX10_isRightL x0 h40) fun v41 => (if v41 = 0 then some h40 else ab_ck (ab_io h40 x0 3 = true) (ab_bd (A x0 (x1 + (nI 1)) h40) fun h43 => ab_ck (ab_io h43 x0 3 = true) (ab_bd (fX3_emit x0 (nI 1012) h43) fun h44 => some h44)))))) fun j45 => (if x1 < (nI 6) then j45 (nI 1) else j45 (nI 0))))
set_option maxRecDepth 100000 in
set_option maxHeartbeats 4000000 in
theorem wX3_readAtom {l : Launch} (hl : l.stackTraces = false) (F : Nat) (d : Nat) {A : Nat → Int32 → ab_H → Option ab_H} (hA : ∀ (z : Nat) (z0 : Int32) (h : ab_H) (y : ab_H), A z z0 h = some y → ab_Met l (mX3_readAtom d) [.ref z, .int z0] h (.inl none, y)) (x0 : Nat) (x1 : Int32) (h : ab_H) : ab_S l (mX3_readAtom (d + 1)) (fun y : ab_H => ((.inl none, y) : ab_R × ab_H)) 0 0 (fX3_readAtomB F A x0 x1 h) 0 [(0, .ref x0), (1, .int x1)] [] h := by
  unfold fX3_readAtomB
  refine ab_aload_n (pc := 0) (n := 0) (i := 0) (j := 0) (by show decode cX3_readAtom 0 = _; decide +kernel) rfl rfl ?_
  refine ab_sipush (pc := 1) (n := 1012) (v := nI 1012) (by show decode cX3_readAtom 1 = _; decide +kernel) (by decide) ?_
  refine ab_callUi (As := [.int (nI 1012)]) (st := []) (pc := 4) lk_X3_37_3 rfl rfl rfl (ab_rmB_of (by simp only [mX3_readAtom, mX10_isHereL]; omega) (by simp only [mX3_readAtom, mX10_isHereL]; omega)) rfl (Nat.le_of_ble_eq_true rfl) (by show decode cX3_readAtom 4 = _; decide +kernel) (fun y9 e9 => okX10_isHereL hl e9) (fun v1 ev1 => ?_)
  refine ab_if_eq (off := 42) (pc := 7) (tgt := 49) (by show decode cX3_readAtom 7 = _; decide +kernel) (by decide) (fun g2 => ?_) (fun g2 => ?_)
  · refine ab_aload_n (pc := 49) (n := 0) (i := 0) (j := 0) (by show decode cX3_readAtom 49 = _; decide +kernel) rfl rfl ?_
    refine ab_bipush (pc := 50) (n := 40) (v := nI 40) (by show decode cX3_readAtom 50 = _; decide +kernel) (by decide) ?_
    refine ab_callUi (As := [.int (nI 40)]) (st := []) (pc := 52) lk_X3_37_3 rfl rfl rfl (ab_rmB_of (by simp only [mX3_readAtom, mX10_isHereL]; omega) (by simp only [mX3_readAtom, mX10_isHereL]; omega)) rfl (Nat.le_of_ble_eq_true rfl) (by show decode cX3_readAtom 52 = _; decide +kernel) (fun y9 e9 => okX10_isHereL hl e9) (fun v3 ev3 => ?_)
    refine ab_if_eq (off := 45) (pc := 55) (tgt := 100) (by show decode cX3_readAtom 55 = _; decide +kernel) (by decide) (fun g4 => ?_) (fun g4 => ?_)
    · refine ab_aload_n (pc := 100) (n := 0) (i := 0) (j := 0) (by show decode cX3_readAtom 100 = _; decide +kernel) rfl rfl ?_
      refine ab_sipush (pc := 101) (n := 1013) (v := nI 1013) (by show decode cX3_readAtom 101 = _; decide +kernel) (by decide) ?_
      refine ab_callUi (As := [.int (nI 1013)]) (st := []) (pc := 104) lk_X3_37_3 rfl rfl rfl (ab_rmB_of (by simp only [mX3_readAtom, mX10_isHereL]; omega) (by simp only [mX3_readAtom, mX10_isHereL]; omega)) rfl (Nat.le_of_ble_eq_true rfl) (by show decode cX3_readAtom 104 = _; decide +kernel) (fun y9 e9 => okX10_isHereL hl e9) (fun v5 ev5 => ?_)
      refine ab_jr (fun k9 : Option ab_H => ab_S l (mX3_readAtom (d + 1)) (fun y : ab_H => ((.inl none, y) : ab_R × ab_H)) 0 0 (k9) 120 [(0, .ref x0)] [] h) ?_ (fun j11 hj11 => ?_)
      · refine ab_aload_n (pc := 120) (n := 0) (i := 0) (j := 0) (by show decode cX3_readAtom 120 = _; decide +kernel) rfl rfl ?_
        refine ab_aload_n (pc := 121) (n := 0) (i := 0) (j := 0) (by show decode cX3_readAtom 121 = _; decide +kernel) rfl rfl ?_
        refine ab_getR (pc := 122) fl_X3_19_3 (by show decode cX3_readAtom 122 = _; decide +kernel) (fun v6 ev6 => ?_)
        refine ab_callVi (As := []) (st := [.ref x0]) (pc := 125) lk_X3_23_0 rfl rfl rfl (ab_rmB_of (by simp only [mX3_readAtom, mX0_kindHere]; omega) (by simp only [mX3_readAtom, mX0_kindHere]; omega)) rfl (Nat.le_of_ble_eq_true rfl) (by show decode cX3_readAtom 125 = _; decide +kernel) (fun y9 e9 => okX0_kindHere hl e9) (fun v7 ev7 => ?_)
        refine ab_callVw (As := [.int v7]) (st := []) (pc := 128) lk_X3_49_3 rfl rfl rfl (ab_rmB_of (by simp only [mX3_readAtom, mX3_emit]; omega) (by simp only [mX3_readAtom, mX3_emit]; omega)) rfl (Nat.le_of_ble_eq_true rfl) (by show decode cX3_readAtom 128 = _; decide +kernel) (fun y9 e9 => okX3_emit hl e9) (fun h8 eh8 => ?_)
        refine ab_aload_n (pc := 131) (n := 0) (i := 0) (j := 0) (by show decode cX3_readAtom 131 = _; decide +kernel) rfl rfl ?_
        refine ab_getR (pc := 132) fl_X3_19_3 (by show decode cX3_readAtom 132 = _; decide +kernel) (fun v9 ev9 => ?_)
        refine ab_callVw (As := []) (st := []) (pc := 135) lk_X3_41_0 rfl rfl rfl (ab_rmB_of (by simp only [mX3_readAtom, mX0_goOn]; omega) (by simp only [mX3_readAtom, mX0_goOn]; omega)) rfl (Nat.le_of_ble_eq_true rfl) (by show decode cX3_readAtom 135 = _; decide +kernel) (fun y9 e9 => okX0_goOn hl e9) (fun h10 eh10 => ?_)
        refine ab_goto (pc := 138) (off := 62) (tgt := 200) (by show decode cX3_readAtom 138 = _; decide +kernel) (by decide) ?_
        exact ab_vret (pc := 200) (by show decode cX3_readAtom 200 = _; decide +kernel) rfl rfl (Nat.le_of_ble_eq_true rfl) (Nat.le_of_ble_eq_true rfl)
      · refine ab_if_ne (off := 13) (pc := 107) (tgt := 120) (by show decode cX3_readAtom 107 = _; decide +kernel) (by decide) (fun g12 => ?_) (fun g12 => ?_)
        · refine ab_aload_n (pc := 110) (n := 0) (i := 0) (j := 0) (by show decode cX3_readAtom 110 = _; decide +kernel) rfl rfl ?_
          refine ab_sipush (pc := 111) (n := 1002) (v := nI 1002) (by show decode cX3_readAtom 111 = _; decide +kernel) (by decide) ?_
          refine ab_callUi (As := [.int (nI 1002)]) (st := []) (pc := 114) lk_X3_37_3 rfl rfl rfl (ab_rmB_of (by simp only [mX3_readAtom, mX10_isHereL]; omega) (by simp only [mX3_readAtom, mX10_isHereL]; omega)) rfl (Nat.le_of_ble_eq_true rfl) (by show decode cX3_readAtom 114 = _; decide +kernel) (fun y9 e9 => okX10_isHereL hl e9) (fun v13 ev13 => ?_)
          refine ab_if_eq (off := 24) (pc := 117) (tgt := 141) (by show decode cX3_readAtom 117 = _; decide +kernel) (by decide) (fun g14 => ?_) (fun g14 => ?_)
          · refine ab_aload_n (pc := 141) (n := 0) (i := 0) (j := 0) (by show decode cX3_readAtom 141 = _; decide +kernel) rfl rfl ?_
            refine ab_callVw (As := []) (st := []) (pc := 142) lk_X3_67_3 rfl rfl rfl (ab_rmB_of (by simp only [mX3_readAtom, mX3_readSum]; omega) (by simp only [mX3_readAtom, mX3_readSum]; omega)) rfl (Nat.le_of_ble_eq_true rfl) (by show decode cX3_readAtom 142 = _; decide +kernel) (fun y9 e9 => okX3_readSum hl (F := F) e9) (fun h15 eh15 => ?_)
            refine ab_aload_n (pc := 145) (n := 0) (i := 0) (j := 0) (by show decode cX3_readAtom 145 = _; decide +kernel) rfl rfl ?_
            refine ab_bipush (pc := 146) (n := 60) (v := nI 60) (by show decode cX3_readAtom 146 = _; decide +kernel) (by decide) ?_
            refine ab_callUi (As := [.int (nI 60)]) (st := []) (pc := 148) lk_X3_37_3 rfl rfl rfl (ab_rmB_of (by simp only [mX3_readAtom, mX10_isHereL]; omega) (by simp only [mX3_readAtom, mX10_isHereL]; omega)) rfl (Nat.le_of_ble_eq_true rfl) (by show decode cX3_readAtom 148 = _; decide +kernel) (fun y9 e9 => okX10_isHereL hl e9) (fun v16 ev16 => ?_)
            refine ab_jr (fun k9 : Int32 → Option ab_H => ∀ (z17 : Int32), ab_S l (mX3_readAtom (d + 1)) (fun y : ab_H => ((.inl none, y) : ab_R × ab_H)) 0 0 (k9 z17) 163 [(0, .ref x0)] [.int z17] h15) ?_ (fun j28 hj28 => ?_)
            · intro z17
              refine ab_istore_n (pc := 163) (n := 2) (i := 2) (lv' := [(0, .ref x0), (2, .int z17)]) (by show decode cX3_readAtom 163 = _; decide +kernel) rfl (Nat.le_of_ble_eq_true rfl) rfl rfl ?_
              refine ab_aload_n (pc := 164) (n := 0) (i := 0) (j := 0) (by show decode cX3_readAtom 164 = _; decide +kernel) rfl rfl ?_
              refine ab_aload_n (pc := 165) (n := 0) (i := 0) (j := 0) (by show decode cX3_readAtom 165 = _; decide +kernel) rfl rfl ?_
              refine ab_bipush (pc := 166) (n := 60) (v := nI 60) (by show decode cX3_readAtom 166 = _; decide +kernel) (by decide) ?_
              refine ab_callUi (As := [.int (nI 60)]) (st := [.ref x0]) (pc := 168) lk_X3_37_3 rfl rfl rfl (ab_rmB_of (by simp only [mX3_readAtom, mX10_isHereL]; omega) (by simp only [mX3_readAtom, mX10_isHereL]; omega)) rfl (Nat.le_of_ble_eq_true rfl) (by show decode cX3_readAtom 168 = _; decide +kernel) (fun y9 e9 => okX10_isHereL hl e9) (fun v18 ev18 => ?_)
              refine ab_jr (fun k9 : Int32 → Option ab_H => ∀ (z19 : Int32), ab_S l (mX3_readAtom (d + 1)) (fun y : ab_H => ((.inl none, y) : ab_R × ab_H)) 0 0 (k9 z19) 188 [(0, .ref x0), (2, .int z17)] [.int z19, .ref x0] h15) ?_ (fun j23 hj23 => ?_)
              · intro z19
                refine ab_callUw (As := [.int z19]) (st := []) (pc := 188) lk_X3_29_3 rfl rfl rfl (ab_rmB_of (by simp only [mX3_readAtom, mX10_acceptL]; omega) (by simp only [mX3_readAtom, mX10_acceptL]; omega)) rfl (Nat.le_of_ble_eq_true rfl) (by show decode cX3_readAtom 188 = _; decide +kernel) (fun y9 e9 => okX10_acceptL hl e9) (fun h20 eh20 => ?_)
                refine ab_aload_n (pc := 191) (n := 0) (i := 0) (j := 0) (by show decode cX3_readAtom 191 = _; decide +kernel) rfl rfl ?_
                refine ab_callVw (As := []) (st := []) (pc := 192) lk_X3_67_3 rfl rfl rfl (ab_rmB_of (by simp only [mX3_readAtom, mX3_readSum]; omega) (by simp only [mX3_readAtom, mX3_readSum]; omega)) rfl (Nat.le_of_ble_eq_true rfl) (by show decode cX3_readAtom 192 = _; decide +kernel) (fun y9 e9 => okX3_readSum hl (F := F) e9) (fun h21 eh21 => ?_)
                refine ab_aload_n (pc := 195) (n := 0) (i := 0) (j := 0) (by show decode cX3_readAtom 195 = _; decide +kernel) rfl rfl ?_
                refine ab_iload_n (pc := 196) (n := 2) (i := 2) (j := 1) (by show decode cX3_readAtom 196 = _; decide +kernel) rfl rfl ?_
                refine ab_callVw (As := [.int z17]) (st := []) (pc := 197) lk_X3_49_3 rfl rfl rfl (ab_rmB_of (by simp only [mX3_readAtom, mX3_emit]; omega) (by simp only [mX3_readAtom, mX3_emit]; omega)) rfl (Nat.le_of_ble_eq_true rfl) (by show decode cX3_readAtom 197 = _; decide +kernel) (fun y9 e9 => okX3_emit hl e9) (fun h22 eh22 => ?_)
                exact ab_vret (pc := 200) (by show decode cX3_readAtom 200 = _; decide +kernel) rfl rfl (Nat.le_of_ble_eq_true rfl) (Nat.le_of_ble_eq_true rfl)
              · refine ab_jr (fun k9 : Option ab_H => ab_S l (mX3_readAtom (d + 1)) (fun y : ab_H => ((.inl none, y) : ab_R × ab_H)) 0 0 (k9) 183 [(0, .ref x0), (2, .int z17)] [.ref x0] h15) ?_ (fun j24 hj24 => ?_)
                · refine ab_iconst (pc := 183) (n := 1) (v := nI 1) (by show decode cX3_readAtom 183 = _; decide +kernel) rfl ?_
                  refine ab_goto (pc := 184) (off := 4) (tgt := 188) (by show decode cX3_readAtom 184 = _; decide +kernel) (by decide) ?_
                  exact hj23 (nI 1)
                · refine ab_if_ne (off := 12) (pc := 171) (tgt := 183) (by show decode cX3_readAtom 171 = _; decide +kernel) (by decide) (fun g25 => ?_) (fun g25 => ?_)
                  · refine ab_aload_n (pc := 174) (n := 0) (i := 0) (j := 0) (by show decode cX3_readAtom 174 = _; decide +kernel) rfl rfl ?_
                    refine ab_bipush (pc := 175) (n := 62) (v := nI 62) (by show decode cX3_readAtom 175 = _; decide +kernel) (by decide) ?_
                    refine ab_callUi (As := [.int (nI 62)]) (st := [.ref x0]) (pc := 177) lk_X3_37_3 rfl rfl rfl (ab_rmB_of (by simp only [mX3_readAtom, mX10_isHereL]; omega) (by simp only [mX3_readAtom, mX10_isHereL]; omega)) rfl (Nat.le_of_ble_eq_true rfl) (by show decode cX3_readAtom 177 = _; decide +kernel) (fun y9 e9 => okX10_isHereL hl e9) (fun v26 ev26 => ?_)
                    refine ab_if_eq (off := 7) (pc := 180) (tgt := 187) (by show decode cX3_readAtom 180 = _; decide +kernel) (by decide) (fun g27 => ?_) (fun g27 => ?_)
                    · refine ab_iconst (pc := 187) (n := 0) (v := nI 0) (by show decode cX3_readAtom 187 = _; decide +kernel) rfl ?_
                      exact hj23 (nI 0)
                    · exact hj24
                  · exact hj24
            · refine ab_if_eq (off := 9) (pc := 151) (tgt := 160) (by show decode cX3_readAtom 151 = _; decide +kernel) (by decide) (fun g29 => ?_) (fun g29 => ?_)
              · refine ab_sipush (pc := 160) (n := 1102) (v := nI 1102) (by show decode cX3_readAtom 160 = _; decide +kernel) (by decide) ?_
                refine ab_few [0] (lv' := [(0, .ref x0)]) rfl ?_
                exact hj28 (nI 1102)
              · refine ab_sipush (pc := 154) (n := 1101) (v := nI 1101) (by show decode cX3_readAtom 154 = _; decide +kernel) (by decide) ?_
                refine ab_goto (pc := 157) (off := 6) (tgt := 163) (by show decode cX3_readAtom 157 = _; decide +kernel) (by decide) ?_
                refine ab_few [0] (lv' := [(0, .ref x0)]) rfl ?_
                exact hj28 (nI 1101)
          · refine ab_few [0] (lv' := [(0, .ref x0)]) rfl ?_
            exact hj11
        · refine ab_few [0] (lv' := [(0, .ref x0)]) rfl ?_
          exact hj11
    · refine ab_aload_n (pc := 58) (n := 0) (i := 0) (j := 0) (by show decode cX3_readAtom 58 = _; decide +kernel) rfl rfl ?_
      refine ab_iload_n (pc := 59) (n := 1) (i := 1) (j := 1) (by show decode cX3_readAtom 59 = _; decide +kernel) rfl rfl ?_
      refine ab_bipush (pc := 60) (n := 6) (v := nI 6) (by show decode cX3_readAtom 60 = _; decide +kernel) (by decide) ?_
      refine ab_jr (fun k9 : Int32 → Option ab_H => ∀ (z30 : Int32), ab_S l (mX3_readAtom (d + 1)) (fun y : ab_H => ((.inl none, y) : ab_R × ab_H)) 0 0 (k9 z30) 70 [(0, .ref x0), (1, .int x1)] [.int z30, .ref x0] h) ?_ (fun j37 hj37 => ?_)
      · intro z30
        refine ab_callUw (As := [.int z30]) (st := []) (pc := 70) lk_X3_29_3 rfl rfl rfl (ab_rmB_of (by simp only [mX3_readAtom, mX10_acceptL]; omega) (by simp only [mX3_readAtom, mX10_acceptL]; omega)) rfl (Nat.le_of_ble_eq_true rfl) (by show decode cX3_readAtom 70 = _; decide +kernel) (fun y9 e9 => okX10_acceptL hl e9) (fun h31 eh31 => ?_)
        refine ab_aload_n (pc := 73) (n := 0) (i := 0) (j := 0) (by show decode cX3_readAtom 73 = _; decide +kernel) rfl rfl ?_
        refine ab_callUi (As := []) (st := []) (pc := 74) lk_X3_33_3 rfl rfl rfl (ab_rmB_of (by simp only [mX3_readAtom, mX10_isRightL]; omega) (by simp only [mX3_readAtom, mX10_isRightL]; omega)) rfl (Nat.le_of_ble_eq_true rfl) (by show decode cX3_readAtom 74 = _; decide +kernel) (fun y9 e9 => okX10_isRightL hl e9) (fun v32 ev32 => ?_)
        refine ab_if_eq (off := 123) (pc := 77) (tgt := 200) (by show decode cX3_readAtom 77 = _; decide +kernel) (by decide) (fun g33 => ?_) (fun g33 => ?_)
        · exact ab_vret (pc := 200) (by show decode cX3_readAtom 200 = _; decide +kernel) rfl rfl (Nat.le_of_ble_eq_true rfl) (Nat.le_of_ble_eq_true rfl)
        · refine ab_aload_n (pc := 80) (n := 0) (i := 0) (j := 0) (by show decode cX3_readAtom 80 = _; decide +kernel) rfl rfl ?_
          refine ab_iload_n (pc := 81) (n := 1) (i := 1) (j := 1) (by show decode cX3_readAtom 81 = _; decide +kernel) rfl rfl ?_
          refine ab_iconst (pc := 82) (n := 1) (v := nI 1) (by show decode cX3_readAtom 82 = _; decide +kernel) rfl ?_
          refine ab_iadd (pc := 83) (by show decode cX3_readAtom 83 = _; decide +kernel) ?_
          refine ab_callVw (As := [.int (x1 + (nI 1))]) (st := []) (pc := 84) (lk_X3_45_3 d) rfl rfl rfl (ab_rmB_of (by simp only [mX3_readAtom, mX3_readCondition]; omega) (by simp only [mX3_readAtom, mX3_readCondition]; omega)) rfl (Nat.le_of_ble_eq_true rfl) (by show decode cX3_readAtom 84 = _; decide +kernel) (fun y9 e9 => okX3_readCondition hl (F := F) d hA e9) (fun h34 eh34 => ?_)
          refine ab_aload_n (pc := 87) (n := 0) (i := 0) (j := 0) (by show decode cX3_readAtom 87 = _; decide +kernel) rfl rfl ?_
          refine ab_aload_n (pc := 88) (n := 0) (i := 0) (j := 0) (by show decode cX3_readAtom 88 = _; decide +kernel) rfl rfl ?_
          refine ab_bipush (pc := 89) (n := 41) (v := nI 41) (by show decode cX3_readAtom 89 = _; decide +kernel) (by decide) ?_
          refine ab_callUi (As := [.int (nI 41)]) (st := [.ref x0]) (pc := 91) lk_X3_37_3 rfl rfl rfl (ab_rmB_of (by simp only [mX3_readAtom, mX10_isHereL]; omega) (by simp only [mX3_readAtom, mX10_isHereL]; omega)) rfl (Nat.le_of_ble_eq_true rfl) (by show decode cX3_readAtom 91 = _; decide +kernel) (fun y9 e9 => okX10_isHereL hl e9) (fun v35 ev35 => ?_)
          refine ab_callUw (As := [.int v35]) (st := []) (pc := 94) lk_X3_29_3 rfl rfl rfl (ab_rmB_of (by simp only [mX3_readAtom, mX10_acceptL]; omega) (by simp only [mX3_readAtom, mX10_acceptL]; omega)) rfl (Nat.le_of_ble_eq_true rfl) (by show decode cX3_readAtom 94 = _; decide +kernel) (fun y9 e9 => okX10_acceptL hl e9) (fun h36 eh36 => ?_)
          refine ab_goto (pc := 97) (off := 103) (tgt := 200) (by show decode cX3_readAtom 97 = _; decide +kernel) (by decide) ?_
          exact ab_vret (pc := 200) (by show decode cX3_readAtom 200 = _; decide +kernel) rfl rfl (Nat.le_of_ble_eq_true rfl) (Nat.le_of_ble_eq_true rfl)
      · refine ab_icmp_ge (off := 7) (pc := 62) (tgt := 69) (by show decode cX3_readAtom 62 = _; decide +kernel) (by decide) (fun g38 => ?_) (fun g38 => ?_)
        · refine ab_iconst (pc := 65) (n := 1) (v := nI 1) (by show decode cX3_readAtom 65 = _; decide +kernel) rfl ?_
          refine ab_goto (pc := 66) (off := 4) (tgt := 70) (by show decode cX3_readAtom 66 = _; decide +kernel) (by decide) ?_
          exact hj37 (nI 1)
        · refine ab_iconst (pc := 69) (n := 0) (v := nI 0) (by show decode cX3_readAtom 69 = _; decide +kernel) rfl ?_
          exact hj37 (nI 0)
  · refine ab_aload_n (pc := 10) (n := 0) (i := 0) (j := 0) (by show decode cX3_readAtom 10 = _; decide +kernel) rfl rfl ?_
    refine ab_iload_n (pc := 11) (n := 1) (i := 1) (j := 1) (by show decode cX3_readAtom 11 = _; decide +kernel) rfl rfl ?_
    refine ab_bipush (pc := 12) (n := 6) (v := nI 6) (by show decode cX3_readAtom 12 = _; decide +kernel) (by decide) ?_
    refine ab_jr (fun k9 : Int32 → Option ab_H => ∀ (z39 : Int32), ab_S l (mX3_readAtom (d + 1)) (fun y : ab_H => ((.inl none, y) : ab_R × ab_H)) 0 0 (k9 z39) 22 [(0, .ref x0), (1, .int x1)] [.int z39, .ref x0] h) ?_ (fun j45 hj45 => ?_)
    · intro z39
      refine ab_callUw (As := [.int z39]) (st := []) (pc := 22) lk_X3_29_3 rfl rfl rfl (ab_rmB_of (by simp only [mX3_readAtom, mX10_acceptL]; omega) (by simp only [mX3_readAtom, mX10_acceptL]; omega)) rfl (Nat.le_of_ble_eq_true rfl) (by show decode cX3_readAtom 22 = _; decide +kernel) (fun y9 e9 => okX10_acceptL hl e9) (fun h40 eh40 => ?_)
      refine ab_aload_n (pc := 25) (n := 0) (i := 0) (j := 0) (by show decode cX3_readAtom 25 = _; decide +kernel) rfl rfl ?_
      refine ab_callUi (As := []) (st := []) (pc := 26) lk_X3_33_3 rfl rfl rfl (ab_rmB_of (by simp only [mX3_readAtom, mX10_isRightL]; omega) (by simp only [mX3_readAtom, mX10_isRightL]; omega)) rfl (Nat.le_of_ble_eq_true rfl) (by show decode cX3_readAtom 26 = _; decide +kernel) (fun y9 e9 => okX10_isRightL hl e9) (fun v41 ev41 => ?_)
      refine ab_if_eq (off := 171) (pc := 29) (tgt := 200) (by show decode cX3_readAtom 29 = _; decide +kernel) (by decide) (fun g42 => ?_) (fun g42 => ?_)
      · exact ab_vret (pc := 200) (by show decode cX3_readAtom 200 = _; decide +kernel) rfl rfl (Nat.le_of_ble_eq_true rfl) (Nat.le_of_ble_eq_true rfl)
      · refine ab_aload_n (pc := 32) (n := 0) (i := 0) (j := 0) (by show decode cX3_readAtom 32 = _; decide +kernel) rfl rfl ?_
        refine ab_iload_n (pc := 33) (n := 1) (i := 1) (j := 1) (by show decode cX3_readAtom 33 = _; decide +kernel) rfl rfl ?_
        refine ab_iconst (pc := 34) (n := 1) (v := nI 1) (by show decode cX3_readAtom 34 = _; decide +kernel) rfl ?_
        refine ab_iadd (pc := 35) (by show decode cX3_readAtom 35 = _; decide +kernel) ?_
        refine ab_callVw (As := [.int (x1 + (nI 1))]) (st := []) (pc := 36) (lk_X3_64_3 d) rfl rfl rfl (ab_rmB_of (by simp only [mX3_readAtom, mX3_readAtom]; omega) (by simp only [mX3_readAtom, mX3_readAtom]; omega)) rfl (Nat.le_of_ble_eq_true rfl) (by show decode cX3_readAtom 36 = _; decide +kernel) (fun y9 e9 => hA _ _ _ _ e9) (fun h43 eh43 => ?_)
        refine ab_aload_n (pc := 39) (n := 0) (i := 0) (j := 0) (by show decode cX3_readAtom 39 = _; decide +kernel) rfl rfl ?_
        refine ab_sipush (pc := 40) (n := 1012) (v := nI 1012) (by show decode cX3_readAtom 40 = _; decide +kernel) (by decide) ?_
        refine ab_callVw (As := [.int (nI 1012)]) (st := []) (pc := 43) lk_X3_49_3 rfl rfl rfl (ab_rmB_of (by simp only [mX3_readAtom, mX3_emit]; omega) (by simp only [mX3_readAtom, mX3_emit]; omega)) rfl (Nat.le_of_ble_eq_true rfl) (by show decode cX3_readAtom 43 = _; decide +kernel) (fun y9 e9 => okX3_emit hl e9) (fun h44 eh44 => ?_)
        refine ab_goto (pc := 46) (off := 154) (tgt := 200) (by show decode cX3_readAtom 46 = _; decide +kernel) (by decide) ?_
        exact ab_vret (pc := 200) (by show decode cX3_readAtom 200 = _; decide +kernel) rfl rfl (Nat.le_of_ble_eq_true rfl) (Nat.le_of_ble_eq_true rfl)
    · refine ab_icmp_ge (off := 7) (pc := 14) (tgt := 21) (by show decode cX3_readAtom 14 = _; decide +kernel) (by decide) (fun g46 => ?_) (fun g46 => ?_)
      · refine ab_iconst (pc := 17) (n := 1) (v := nI 1) (by show decode cX3_readAtom 17 = _; decide +kernel) rfl ?_
        refine ab_goto (pc := 18) (off := 4) (tgt := 22) (by show decode cX3_readAtom 18 = _; decide +kernel) (by decide) ?_
        exact hj45 (nI 1)
      · refine ab_iconst (pc := 21) (n := 0) (v := nI 0) (by show decode cX3_readAtom 21 = _; decide +kernel) rfl ?_
        exact hj45 (nI 0)
set_option maxRecDepth 100000 in
set_option maxHeartbeats 4000000 in
theorem okX3_readAtomB {l : Launch} (hl : l.stackTraces = false) {F : Nat} (d : Nat) {A : Nat → Int32 → ab_H → Option ab_H} (hA : ∀ (z : Nat) (z0 : Int32) (h : ab_H) (y : ab_H), A z z0 h = some y → ab_Met l (mX3_readAtom d) [.ref z, .int z0] h (.inl none, y)) {x0 : Nat} {x1 : Int32} {h : ab_H} {y : ab_H} (e : fX3_readAtomB F A x0 x1 h = some y) : ab_Met l (mX3_readAtom (d + 1)) [.ref x0, .int x1] h (.inl none, y) := ab_ofS (io := (fun y : ab_H => ((.inl none, y) : ab_R × ab_H))) (x := y) hl rfl rfl (Nat.le_of_ble_eq_true rfl) (wX3_readAtom hl F d hA x0 x1 h) e
def fX3_readAtom (F : Nat) : Nat → Nat → Int32 → ab_H → Option ab_H
  | 0, _, _, _ => none
  | d + 1, x0, x1, h => fX3_readAtomB F (fX3_readAtom F d) x0 x1 h
set_option maxRecDepth 100000 in
set_option maxHeartbeats 4000000 in
theorem okX3_readAtom {l : Launch} (hl : l.stackTraces = false) {F : Nat} : ∀ (d : Nat) (x0 : Nat) (x1 : Int32) (h : ab_H) (y : ab_H), fX3_readAtom F d x0 x1 h = some y → ab_Met l (mX3_readAtom d) [.ref x0, .int x1] h (.inl none, y) := by
  intro d
  induction d with
  | zero => intro  x0 x1 h y e; cases e
  | succ d ih => intro  x0 x1 h y e; exact okX3_readAtomB hl (F := F) d ih e
def mX3_readConditionT : ab_M := mX3_readCondition 7
theorem iX3_readConditionT : ab_MI mX3_readConditionT 1 := iX3_readCondition 7
def fX3_readConditionT (F : Nat) (x0 : Nat) (x1 : Int32) (h : ab_H) : Option ab_H := fX3_readCondition F (fX3_readAtom F 7) x0 x1 h
theorem okX3_readConditionT {l : Launch} (hl : l.stackTraces = false) {F : Nat} {x0 : Nat} {x1 : Int32} {h : ab_H} {y : ab_H} (e : fX3_readConditionT F x0 x1 h = some y) : ab_Met l mX3_readConditionT [.ref x0, .int x1] h (.inl none, y) := okX3_readCondition hl (F := F) 7 (okX3_readAtom hl 7) e
