/-! ===== reference (by program, decomp.py) ===== -/
def mX12_every (d : Nat) : ab_M := (yX12_every, cX12_every, 3, (some .boolean), { frames := 9 + 3 * d, cells := 0, slots := 0, locals := 196 + 67 * d })
theorem iX12_every (d : Nat) : ab_MI (mX12_every d) 0 := ⟨kw_c41873c832, kw_30b3f7d7c6, (by decide +kernel : yX12_every.cls ≠ "java/lang/invoke/MethodHandle" ∧ yX12_every.cls ≠ "java/lang/invoke/VarHandle" ∧ (parseMethodDescriptor yX12_every.desc).map (fun d => d.parameters.length) = some 0)⟩
def mX12_some (d : Nat) : ab_M := (yX12_some, cX12_some, 3, (some .boolean), { frames := 10 + 3 * d, cells := 0, slots := 0, locals := 218 + 67 * d })
theorem iX12_some (d : Nat) : ab_MI (mX12_some d) 0 := ⟨kw_16266debe5, kw_30b3f7d7c6, (by decide +kernel : yX12_some.cls ≠ "java/lang/invoke/MethodHandle" ∧ yX12_some.cls ≠ "java/lang/invoke/VarHandle" ∧ (parseMethodDescriptor yX12_some.desc).map (fun d => d.parameters.length) = some 0)⟩
def mX12_atom (d : Nat) : ab_M := (yX12_atom, cX12_atom, 4, (some .boolean), { frames := 8 + 3 * d, cells := 0, slots := 0, locals := 173 + 67 * d })
theorem iX12_atom (d : Nat) : ab_MI (mX12_atom d) 0 := ⟨kw_1449184af0, kw_30b3f7d7c6, (by decide +kernel : yX12_atom.cls ≠ "java/lang/invoke/MethodHandle" ∧ yX12_atom.cls ≠ "java/lang/invoke/VarHandle" ∧ (parseMethodDescriptor yX12_atom.desc).map (fun d => d.parameters.length) = some 0)⟩
theorem lk_X12_217_12 (d : Nat) : ab_LV RX12 217 12 (mX12_atom d) 0 := ⟨RX12, rfl, (iX12_atom d), kw_6992593c63, kw_9f3989e237, kw_4db50fc199⟩
def fX12_every_5 (F : Nat) (A : Nat → ab_H → Option (Int32 × ab_H)) (x0 : Nat) : Nat → Int32 → ab_H → Option (Int32 × ab_H)
  | 0, _, _ => none
  | n + 1, x1, h => ab_bd (ab_fi h x0 12 12) fun v2 => (if v2 = (-1 : Int32) then ab_ck (ab_io h x0 12 = true) (ab_bd (fX12_has_ F x0 (ab_SB + 33) h) fun v4 => (if v4.1 = 0 then ab_cb x1 (some (x1, v4.2)) else ab_ck (ab_io v4.2 x0 12 = true) (ab_bd (A x0 v4.2) fun v7 => (if x1 = 0 then fX12_every_5 F A x0 n (nI 0) v7.2 else (if v7.1 = 0 then fX12_every_5 F A x0 n (nI 0) v7.2 else fX12_every_5 F A x0 n (nI 1) v7.2))))) else ab_cb x1 (some (x1, h)))
def fX12_every (F : Nat) (A : Nat → ab_H → Option (Int32 × ab_H)) (x0 : Nat) (h : ab_H) : Option (Int32 × ab_H) := ab_ck (ab_io h x0 12 = true) (ab_bd (A x0 h) fun v1 => fX12_every_5 F A x0 F v1.1 v1.2)
set_option maxRecDepth 100000 in
set_option maxHeartbeats 4000000 in
theorem lX12_every_5 {l : Launch} (hl : l.stackTraces = false) (F : Nat) (d : Nat) {A : Nat → ab_H → Option (Int32 × ab_H)} (hA : ∀ (z : Nat) (h : ab_H) (y : (Int32 × ab_H)), A z h = some y → ab_Met l (mX12_atom d) [.ref z] h (.inl (some (.int y.1)), y.2)) (x0 : Nat) : ∀ (n : Nat) (x1 : Int32) (h : ab_H), ab_S l (mX12_every d) (fun y : (Int32 × ab_H) => ((.inl (some (.int y.1)), y.2) : ab_R × ab_H)) 0 0 (fX12_every_5 F A x0 n x1 h) 5 [(0, .ref x0), (1, .int x1)] [] h := by
  intro n
  induction n with
  | zero =>
    intro x1 h
    exact ab_none
  | succ n ih =>
    intro x1 h
    rw [fX12_every_5]
    refine ab_aload_n (pc := 5) (n := 0) (i := 0) (j := 0) (by show decode cX12_every 5 = _; decide +kernel) rfl rfl ?_
    refine ab_getI (pc := 6) fl_X12_25_12 (by show decode cX12_every 6 = _; decide +kernel) (fun v2 ev2 => ?_)
    refine ab_iconst (pc := 9) (n := -1) (v := (-1 : Int32)) (by show decode cX12_every 9 = _; decide +kernel) rfl ?_
    refine ab_icmp_ne (off := 34) (pc := 10) (tgt := 44) (by show decode cX12_every 10 = _; decide +kernel) (by decide) (fun g3 => ?_) (fun g3 => ?_)
    · refine ab_aload_n (pc := 13) (n := 0) (i := 0) (j := 0) (by show decode cX12_every 13 = _; decide +kernel) rfl rfl ?_
      refine ab_ldcS (pc := 14) (index := 223) (kk := 33) (tx := "and") (by show decode cX12_every 14 = _; decide +kernel) (by show (RX12, 223, "and", 33) ∈ ab_sr; decide +kernel) ?_
      refine ab_callVj (As := [.ref (ab_SB + 33)]) (st := []) (pc := 16) lk_X12_124_12 rfl rfl rfl (ab_rmB_of (by simp only [mX12_every, mX12_has_]; omega) (by simp only [mX12_every, mX12_has_]; omega)) rfl (Nat.le_of_ble_eq_true rfl) (by show decode cX12_every 16 = _; decide +kernel) (fun y9 e9 => okX12_has_ hl (F := F) e9) (fun v4 ev4 => ?_)
      refine ab_if_eq (off := 25) (pc := 19) (tgt := 44) (by show decode cX12_every 19 = _; decide +kernel) (by decide) (fun g5 => ?_) (fun g5 => ?_)
      · refine ab_iload_n (pc := 44) (n := 1) (i := 1) (j := 1) (by show decode cX12_every 44 = _; decide +kernel) rfl rfl ?_
        refine ab_cbr (fun b6 => ?_)
        exact ab_zret (pc := 45) (by show decode cX12_every 45 = _; decide +kernel) rfl b6.1 rfl (Nat.le_of_ble_eq_true rfl) (Nat.le_of_ble_eq_true rfl)
      · refine ab_aload_n (pc := 22) (n := 0) (i := 0) (j := 0) (by show decode cX12_every 22 = _; decide +kernel) rfl rfl ?_
        refine ab_callVj (As := []) (st := []) (pc := 23) (lk_X12_217_12 d) rfl rfl rfl (ab_rmB_of (by simp only [mX12_every, mX12_atom]; omega) (by simp only [mX12_every, mX12_atom]; omega)) rfl (Nat.le_of_ble_eq_true rfl) (by show decode cX12_every 23 = _; decide +kernel) (fun y9 e9 => hA _ _ _ e9) (fun v7 ev7 => ?_)
        refine ab_istore_n (pc := 26) (n := 2) (i := 2) (lv' := [(0, .ref x0), (1, .int x1), (2, .int v7.1)]) (by show decode cX12_every 26 = _; decide +kernel) rfl (Nat.le_of_ble_eq_true rfl) rfl rfl ?_
        refine ab_iload_n (pc := 27) (n := 1) (i := 1) (j := 1) (by show decode cX12_every 27 = _; decide +kernel) rfl rfl ?_
        refine ab_if_eq (off := 11) (pc := 28) (tgt := 39) (by show decode cX12_every 28 = _; decide +kernel) (by decide) (fun g8 => ?_) (fun g8 => ?_)
        · refine ab_iconst (pc := 39) (n := 0) (v := nI 0) (by show decode cX12_every 39 = _; decide +kernel) rfl ?_
          refine ab_istore_n (pc := 40) (n := 1) (i := 1) (lv' := [(0, .ref x0), (1, .int (nI 0)), (2, .int v7.1)]) (by show decode cX12_every 40 = _; decide +kernel) rfl (Nat.le_of_ble_eq_true rfl) rfl rfl ?_
          refine ab_goto (pc := 41) (off := (-36)) (tgt := 5) (by show decode cX12_every 41 = _; decide +kernel) (by decide) ?_
          refine ab_few [0, 1] (lv' := [(0, .ref x0), (1, .int (nI 0))]) rfl ?_
          exact ih (nI 0) v7.2
        · refine ab_iload_n (pc := 31) (n := 2) (i := 2) (j := 2) (by show decode cX12_every 31 = _; decide +kernel) rfl rfl ?_
          refine ab_if_eq (off := 7) (pc := 32) (tgt := 39) (by show decode cX12_every 32 = _; decide +kernel) (by decide) (fun g9 => ?_) (fun g9 => ?_)
          · refine ab_iconst (pc := 39) (n := 0) (v := nI 0) (by show decode cX12_every 39 = _; decide +kernel) rfl ?_
            refine ab_istore_n (pc := 40) (n := 1) (i := 1) (lv' := [(0, .ref x0), (1, .int (nI 0)), (2, .int v7.1)]) (by show decode cX12_every 40 = _; decide +kernel) rfl (Nat.le_of_ble_eq_true rfl) rfl rfl ?_
            refine ab_goto (pc := 41) (off := (-36)) (tgt := 5) (by show decode cX12_every 41 = _; decide +kernel) (by decide) ?_
            refine ab_few [0, 1] (lv' := [(0, .ref x0), (1, .int (nI 0))]) rfl ?_
            exact ih (nI 0) v7.2
          · refine ab_iconst (pc := 35) (n := 1) (v := nI 1) (by show decode cX12_every 35 = _; decide +kernel) rfl ?_
            refine ab_goto (pc := 36) (off := 4) (tgt := 40) (by show decode cX12_every 36 = _; decide +kernel) (by decide) ?_
            refine ab_istore_n (pc := 40) (n := 1) (i := 1) (lv' := [(0, .ref x0), (1, .int (nI 1)), (2, .int v7.1)]) (by show decode cX12_every 40 = _; decide +kernel) rfl (Nat.le_of_ble_eq_true rfl) rfl rfl ?_
            refine ab_goto (pc := 41) (off := (-36)) (tgt := 5) (by show decode cX12_every 41 = _; decide +kernel) (by decide) ?_
            refine ab_few [0, 1] (lv' := [(0, .ref x0), (1, .int (nI 1))]) rfl ?_
            exact ih (nI 1) v7.2
    · refine ab_iload_n (pc := 44) (n := 1) (i := 1) (j := 1) (by show decode cX12_every 44 = _; decide +kernel) rfl rfl ?_
      refine ab_cbr (fun b10 => ?_)
      exact ab_zret (pc := 45) (by show decode cX12_every 45 = _; decide +kernel) rfl b10.1 rfl (Nat.le_of_ble_eq_true rfl) (Nat.le_of_ble_eq_true rfl)
set_option maxRecDepth 100000 in
set_option maxHeartbeats 4000000 in
theorem wX12_every {l : Launch} (hl : l.stackTraces = false) (F : Nat) (d : Nat) {A : Nat → ab_H → Option (Int32 × ab_H)} (hA : ∀ (z : Nat) (h : ab_H) (y : (Int32 × ab_H)), A z h = some y → ab_Met l (mX12_atom d) [.ref z] h (.inl (some (.int y.1)), y.2)) (x0 : Nat) (h : ab_H) : ab_S l (mX12_every d) (fun y : (Int32 × ab_H) => ((.inl (some (.int y.1)), y.2) : ab_R × ab_H)) 0 0 (fX12_every F A x0 h) 0 [(0, .ref x0)] [] h := by
  unfold fX12_every
  refine ab_aload_n (pc := 0) (n := 0) (i := 0) (j := 0) (by show decode cX12_every 0 = _; decide +kernel) rfl rfl ?_
  refine ab_callVj (As := []) (st := []) (pc := 1) (lk_X12_217_12 d) rfl rfl rfl (ab_rmB_of (by simp only [mX12_every, mX12_atom]; omega) (by simp only [mX12_every, mX12_atom]; omega)) rfl (Nat.le_of_ble_eq_true rfl) (by show decode cX12_every 1 = _; decide +kernel) (fun y9 e9 => hA _ _ _ e9) (fun v1 ev1 => ?_)
  refine ab_istore_n (pc := 4) (n := 1) (i := 1) (lv' := [(0, .ref x0), (1, .int v1.1)]) (by show decode cX12_every 4 = _; decide +kernel) rfl (Nat.le_of_ble_eq_true rfl) rfl rfl ?_
  refine lX12_every_5 hl F d hA x0 F v1.1 v1.2
set_option maxRecDepth 100000 in
set_option maxHeartbeats 4000000 in
theorem okX12_every {l : Launch} (hl : l.stackTraces = false) {F : Nat} (d : Nat) {A : Nat → ab_H → Option (Int32 × ab_H)} (hA : ∀ (z : Nat) (h : ab_H) (y : (Int32 × ab_H)), A z h = some y → ab_Met l (mX12_atom d) [.ref z] h (.inl (some (.int y.1)), y.2)) {x0 : Nat} {h : ab_H} {y : (Int32 × ab_H)} (e : fX12_every F A x0 h = some y) : ab_Met l (mX12_every d) [.ref x0] h (.inl (some (.int y.1)), y.2) := ab_ofS (io := (fun y : (Int32 × ab_H) => ((.inl (some (.int y.1)), y.2) : ab_R × ab_H))) (x := y) hl rfl rfl (Nat.le_of_ble_eq_true rfl) (wX12_every hl F d hA x0 h) e
theorem lk_X12_225_12 (d : Nat) : ab_LV RX12 225 12 (mX12_every d) 0 := ⟨RX12, rfl, (iX12_every d), kw_6af6e4997d, kw_3de8e7115f, kw_52a26f5028⟩
def fX12_some_5 (F : Nat) (A : Nat → ab_H → Option (Int32 × ab_H)) (x0 : Nat) : Nat → Int32 → ab_H → Option (Int32 × ab_H)
  | 0, _, _ => none
  | n + 1, x1, h => ab_bd (ab_fi h x0 12 12) fun v2 => (if v2 = (-1 : Int32) then ab_ck (ab_io h x0 12 = true) (ab_bd (fX12_has_ F x0 (ab_SB + 34) h) fun v4 => (if v4.1 = 0 then ab_cb x1 (some (x1, v4.2)) else ab_ck (ab_io v4.2 x0 12 = true) (ab_bd (fX12_every F A x0 v4.2) fun v7 => (if x1 = 0 then (if v7.1 = 0 then fX12_some_5 F A x0 n (nI 0) v7.2 else fX12_some_5 F A x0 n (nI 1) v7.2) else fX12_some_5 F A x0 n (nI 1) v7.2)))) else ab_cb x1 (some (x1, h)))
def fX12_some (F : Nat) (A : Nat → ab_H → Option (Int32 × ab_H)) (x0 : Nat) (h : ab_H) : Option (Int32 × ab_H) := ab_ck (ab_io h x0 12 = true) (ab_bd (fX12_every F A x0 h) fun v1 => fX12_some_5 F A x0 F v1.1 v1.2)
set_option maxRecDepth 100000 in
set_option maxHeartbeats 4000000 in
theorem lX12_some_5 {l : Launch} (hl : l.stackTraces = false) (F : Nat) (d : Nat) {A : Nat → ab_H → Option (Int32 × ab_H)} (hA : ∀ (z : Nat) (h : ab_H) (y : (Int32 × ab_H)), A z h = some y → ab_Met l (mX12_atom d) [.ref z] h (.inl (some (.int y.1)), y.2)) (x0 : Nat) : ∀ (n : Nat) (x1 : Int32) (h : ab_H), ab_S l (mX12_some d) (fun y : (Int32 × ab_H) => ((.inl (some (.int y.1)), y.2) : ab_R × ab_H)) 0 0 (fX12_some_5 F A x0 n x1 h) 5 [(0, .ref x0), (1, .int x1)] [] h := by
  intro n
  induction n with
  | zero =>
    intro x1 h
    exact ab_none
  | succ n ih =>
    intro x1 h
    rw [fX12_some_5]
    refine ab_aload_n (pc := 5) (n := 0) (i := 0) (j := 0) (by show decode cX12_some 5 = _; decide +kernel) rfl rfl ?_
    refine ab_getI (pc := 6) fl_X12_25_12 (by show decode cX12_some 6 = _; decide +kernel) (fun v2 ev2 => ?_)
    refine ab_iconst (pc := 9) (n := -1) (v := (-1 : Int32)) (by show decode cX12_some 9 = _; decide +kernel) rfl ?_
    refine ab_icmp_ne (off := 34) (pc := 10) (tgt := 44) (by show decode cX12_some 10 = _; decide +kernel) (by decide) (fun g3 => ?_) (fun g3 => ?_)
    · refine ab_aload_n (pc := 13) (n := 0) (i := 0) (j := 0) (by show decode cX12_some 13 = _; decide +kernel) rfl rfl ?_
      refine ab_ldcS (pc := 14) (index := 228) (kk := 34) (tx := "or") (by show decode cX12_some 14 = _; decide +kernel) (by show (RX12, 228, "or", 34) ∈ ab_sr; decide +kernel) ?_
      refine ab_callVj (As := [.ref (ab_SB + 34)]) (st := []) (pc := 16) lk_X12_124_12 rfl rfl rfl (ab_rmB_of (by simp only [mX12_some, mX12_has_]; omega) (by simp only [mX12_some, mX12_has_]; omega)) rfl (Nat.le_of_ble_eq_true rfl) (by show decode cX12_some 16 = _; decide +kernel) (fun y9 e9 => okX12_has_ hl (F := F) e9) (fun v4 ev4 => ?_)
      refine ab_if_eq (off := 25) (pc := 19) (tgt := 44) (by show decode cX12_some 19 = _; decide +kernel) (by decide) (fun g5 => ?_) (fun g5 => ?_)
      · refine ab_iload_n (pc := 44) (n := 1) (i := 1) (j := 1) (by show decode cX12_some 44 = _; decide +kernel) rfl rfl ?_
        refine ab_cbr (fun b6 => ?_)
        exact ab_zret (pc := 45) (by show decode cX12_some 45 = _; decide +kernel) rfl b6.1 rfl (Nat.le_of_ble_eq_true rfl) (Nat.le_of_ble_eq_true rfl)
      · refine ab_aload_n (pc := 22) (n := 0) (i := 0) (j := 0) (by show decode cX12_some 22 = _; decide +kernel) rfl rfl ?_
        refine ab_callVj (As := []) (st := []) (pc := 23) (lk_X12_225_12 d) rfl rfl rfl (ab_rmB_of (by simp only [mX12_some, mX12_every]; omega) (by simp only [mX12_some, mX12_every]; omega)) rfl (Nat.le_of_ble_eq_true rfl) (by show decode cX12_some 23 = _; decide +kernel) (fun y9 e9 => okX12_every hl (F := F) d hA e9) (fun v7 ev7 => ?_)
        refine ab_istore_n (pc := 26) (n := 2) (i := 2) (lv' := [(0, .ref x0), (1, .int x1), (2, .int v7.1)]) (by show decode cX12_some 26 = _; decide +kernel) rfl (Nat.le_of_ble_eq_true rfl) rfl rfl ?_
        refine ab_iload_n (pc := 27) (n := 1) (i := 1) (j := 1) (by show decode cX12_some 27 = _; decide +kernel) rfl rfl ?_
        refine ab_if_ne (off := 7) (pc := 28) (tgt := 35) (by show decode cX12_some 28 = _; decide +kernel) (by decide) (fun g8 => ?_) (fun g8 => ?_)
        · refine ab_iload_n (pc := 31) (n := 2) (i := 2) (j := 2) (by show decode cX12_some 31 = _; decide +kernel) rfl rfl ?_
          refine ab_if_eq (off := 7) (pc := 32) (tgt := 39) (by show decode cX12_some 32 = _; decide +kernel) (by decide) (fun g9 => ?_) (fun g9 => ?_)
          · refine ab_iconst (pc := 39) (n := 0) (v := nI 0) (by show decode cX12_some 39 = _; decide +kernel) rfl ?_
            refine ab_istore_n (pc := 40) (n := 1) (i := 1) (lv' := [(0, .ref x0), (1, .int (nI 0)), (2, .int v7.1)]) (by show decode cX12_some 40 = _; decide +kernel) rfl (Nat.le_of_ble_eq_true rfl) rfl rfl ?_
            refine ab_goto (pc := 41) (off := (-36)) (tgt := 5) (by show decode cX12_some 41 = _; decide +kernel) (by decide) ?_
            refine ab_few [0, 1] (lv' := [(0, .ref x0), (1, .int (nI 0))]) rfl ?_
            exact ih (nI 0) v7.2
          · refine ab_iconst (pc := 35) (n := 1) (v := nI 1) (by show decode cX12_some 35 = _; decide +kernel) rfl ?_
            refine ab_goto (pc := 36) (off := 4) (tgt := 40) (by show decode cX12_some 36 = _; decide +kernel) (by decide) ?_
            refine ab_istore_n (pc := 40) (n := 1) (i := 1) (lv' := [(0, .ref x0), (1, .int (nI 1)), (2, .int v7.1)]) (by show decode cX12_some 40 = _; decide +kernel) rfl (Nat.le_of_ble_eq_true rfl) rfl rfl ?_
            refine ab_goto (pc := 41) (off := (-36)) (tgt := 5) (by show decode cX12_some 41 = _; decide +kernel) (by decide) ?_
            refine ab_few [0, 1] (lv' := [(0, .ref x0), (1, .int (nI 1))]) rfl ?_
            exact ih (nI 1) v7.2
        · refine ab_iconst (pc := 35) (n := 1) (v := nI 1) (by show decode cX12_some 35 = _; decide +kernel) rfl ?_
          refine ab_goto (pc := 36) (off := 4) (tgt := 40) (by show decode cX12_some 36 = _; decide +kernel) (by decide) ?_
          refine ab_istore_n (pc := 40) (n := 1) (i := 1) (lv' := [(0, .ref x0), (1, .int (nI 1)), (2, .int v7.1)]) (by show decode cX12_some 40 = _; decide +kernel) rfl (Nat.le_of_ble_eq_true rfl) rfl rfl ?_
          refine ab_goto (pc := 41) (off := (-36)) (tgt := 5) (by show decode cX12_some 41 = _; decide +kernel) (by decide) ?_
          refine ab_few [0, 1] (lv' := [(0, .ref x0), (1, .int (nI 1))]) rfl ?_
          exact ih (nI 1) v7.2
    · refine ab_iload_n (pc := 44) (n := 1) (i := 1) (j := 1) (by show decode cX12_some 44 = _; decide +kernel) rfl rfl ?_
      refine ab_cbr (fun b10 => ?_)
      exact ab_zret (pc := 45) (by show decode cX12_some 45 = _; decide +kernel) rfl b10.1 rfl (Nat.le_of_ble_eq_true rfl) (Nat.le_of_ble_eq_true rfl)
set_option maxRecDepth 100000 in
set_option maxHeartbeats 4000000 in
theorem wX12_some {l : Launch} (hl : l.stackTraces = false) (F : Nat) (d : Nat) {A : Nat → ab_H → Option (Int32 × ab_H)} (hA : ∀ (z : Nat) (h : ab_H) (y : (Int32 × ab_H)), A z h = some y → ab_Met l (mX12_atom d) [.ref z] h (.inl (some (.int y.1)), y.2)) (x0 : Nat) (h : ab_H) : ab_S l (mX12_some d) (fun y : (Int32 × ab_H) => ((.inl (some (.int y.1)), y.2) : ab_R × ab_H)) 0 0 (fX12_some F A x0 h) 0 [(0, .ref x0)] [] h := by
  unfold fX12_some
  refine ab_aload_n (pc := 0) (n := 0) (i := 0) (j := 0) (by show decode cX12_some 0 = _; decide +kernel) rfl rfl ?_
  refine ab_callVj (As := []) (st := []) (pc := 1) (lk_X12_225_12 d) rfl rfl rfl (ab_rmB_of (by simp only [mX12_some, mX12_every]; omega) (by simp only [mX12_some, mX12_every]; omega)) rfl (Nat.le_of_ble_eq_true rfl) (by show decode cX12_some 1 = _; decide +kernel) (fun y9 e9 => okX12_every hl (F := F) d hA e9) (fun v1 ev1 => ?_)
  refine ab_istore_n (pc := 4) (n := 1) (i := 1) (lv' := [(0, .ref x0), (1, .int v1.1)]) (by show decode cX12_some 4 = _; decide +kernel) rfl (Nat.le_of_ble_eq_true rfl) rfl rfl ?_
  refine lX12_some_5 hl F d hA x0 F v1.1 v1.2
set_option maxRecDepth 100000 in
set_option maxHeartbeats 4000000 in
theorem okX12_some {l : Launch} (hl : l.stackTraces = false) {F : Nat} (d : Nat) {A : Nat → ab_H → Option (Int32 × ab_H)} (hA : ∀ (z : Nat) (h : ab_H) (y : (Int32 × ab_H)), A z h = some y → ab_Met l (mX12_atom d) [.ref z] h (.inl (some (.int y.1)), y.2)) {x0 : Nat} {h : ab_H} {y : (Int32 × ab_H)} (e : fX12_some F A x0 h = some y) : ab_Met l (mX12_some d) [.ref x0] h (.inl (some (.int y.1)), y.2) := ab_ofS (io := (fun y : (Int32 × ab_H) => ((.inl (some (.int y.1)), y.2) : ab_R × ab_H))) (x := y) hl rfl rfl (Nat.le_of_ble_eq_true rfl) (wX12_some hl F d hA x0 h) e
theorem lk_X12_214_12 : ab_LV RX12 214 12 mX12_plain 0 := ⟨RX12, rfl, iX12_plain, kw_16a6bd5141, kw_ff87f62c8d, kw_32293cbc54⟩
theorem lk_X12_220_12 (d : Nat) : ab_LV RX12 220 12 (mX12_some d) 0 := ⟨RX12, rfl, (iX12_some d), kw_d6a3e27115, kw_25357b7df3, kw_884808be4f⟩
def fX12_atomB (F : Nat) (A : Nat → ab_H → Option (Int32 × ab_H)) (x0 : Nat) (h : ab_H) : Option (Int32 × ab_H) := ab_bd (ab_fi h x0 12 12) fun v1 => (if v1 = (-1 : Int32) then ab_ck (ab_io h x0 12 = true) (ab_bd (fX12_place F x0 h) fun v3 => ab_ck (ab_io v3.2 x0 12 = true) (ab_bd (fX12_has_ F x0 (ab_SB + 24) v3.2) fun v4 => ab_jn (κ := ab_H → Option (Int32 × ab_H)) (fun (h5 : ab_H) => ab_bd (ab_fi h5 x0 12 13) fun v6 => (if v6 = (nI 6) then ab_ck (ab_io h5 x0 12 = true) (ab_bd (fX12_wrong x0 v3.1 h5) fun h8 => some (nI 0, h8)) else ab_bd (ab_fi h5 x0 12 13) fun v9 => ab_bd (ab_fw h5 x0 12 13 (.int (v9 + (nI 1)))) fun h10 => (if v4.1 = 0 then ab_bd (ab_fi h10 x0 12 11) fun v12 => ab_bd (ab_fw h10 x0 12 11 (.int (v12 + (nI 1)))) fun h13 => ab_ck (ab_io h13 x0 12 = true) (ab_bd (fX12_some F A x0 h13) fun v14 => ab_bd (ab_fi v14.2 x0 12 12) fun v15 => ab_jn (κ := ab_H → Option (Int32 × ab_H)) (fun (h16 : ab_H) => ab_bd (ab_fi h16 x0 12 11) fun v17 => ab_bd (ab_fw h16 x0 12 11 (.int (v17 + (nI 1)))) fun h18 => ab_bd (ab_fi h18 x0 12 13) fun v19 => ab_bd (ab_fw h18 x0 12 13 (.int (v19 - (nI 1)))) fun h20 => ab_cb v14.1 (some (v14.1, h20))) fun j22 => (if v15 = (-1 : Int32) then ab_ck (ab_io v14.2 x0 12 = true) (ab_bd (fX12_isSign F x0 (nI 41) v14.2) fun v24 => (if v24.1 = 0 then ab_bd (ab_fi v24.2 x0 12 11) fun v26 => ab_ck (ab_io v24.2 x0 12 = true) (ab_bd (fX12_wrong x0 v26 v24.2) fun h27 => j22 h27) else j22 v24.2)) else j22 v14.2)) else ab_ck (ab_io h10 x0 12 = true) (ab_bd (A x0 h10) fun v28 => ab_jn (κ := Int32 → Option (Int32 × ab_H)) (fun (z29 : Int32) => ab_bd (ab_fi v28.2 x0 12 13) fun v30 => ab_bd (ab_fw v28.2 x0 12 13 (.int (v30 - (nI 1)))) fun h31 => ab_cb z29 (some (z29, h31))) fun j33 => (if v28.1 = 0 then j33 (nI 1) else j33 (nI 0)))))) fun j35 => (if v4.1 = 0 then ab_ck (ab_io v4.2 x0 12 = true) (ab_bd (fX12_isSign F x0 (nI 40) v4.2) fun v37 => (if v37.1 = 0 then ab_ck (ab_io v37.2 x0 12 = true) (ab_bd (fX12_plain F x0 v37.2) fun v39 => ab_cb v39.1 (some (v39.1, v39.2))) else j35 v37.2)) else j35 v4.2))) else some (nI 0, h))
set_option maxRecDepth 100000 in
set_option maxHeartbeats 4000000 in
theorem wX12_atom {l : Launch} (hl : l.stackTraces = false) (F : Nat) (d : Nat) {A : Nat → ab_H → Option (Int32 × ab_H)} (hA : ∀ (z : Nat) (h : ab_H) (y : (Int32 × ab_H)), A z h = some y → ab_Met l (mX12_atom d) [.ref z] h (.inl (some (.int y.1)), y.2)) (x0 : Nat) (h : ab_H) : ab_S l (mX12_atom (d + 1)) (fun y : (Int32 × ab_H) => ((.inl (some (.int y.1)), y.2) : ab_R × ab_H)) 0 0 (fX12_atomB F A x0 h) 0 [(0, .ref x0)] [] h := by
  unfold fX12_atomB
  refine ab_aload_n (pc := 0) (n := 0) (i := 0) (j := 0) (by show decode cX12_atom 0 = _; decide +kernel) rfl rfl ?_
  refine ab_getI (pc := 1) fl_X12_25_12 (by show decode cX12_atom 1 = _; decide +kernel) (fun v1 ev1 => ?_)
  refine ab_iconst (pc := 4) (n := -1) (v := (-1 : Int32)) (by show decode cX12_atom 4 = _; decide +kernel) rfl ?_
  refine ab_icmp_eq (off := 5) (pc := 5) (tgt := 10) (by show decode cX12_atom 5 = _; decide +kernel) (by decide) (fun g2 => ?_) (fun g2 => ?_)
  · refine ab_aload_n (pc := 10) (n := 0) (i := 0) (j := 0) (by show decode cX12_atom 10 = _; decide +kernel) rfl rfl ?_
    refine ab_callVj (As := []) (st := []) (pc := 11) lk_X12_90_12 rfl rfl rfl (ab_rmB_of (by simp only [mX12_atom, mX12_place]; omega) (by simp only [mX12_atom, mX12_place]; omega)) rfl (Nat.le_of_ble_eq_true rfl) (by show decode cX12_atom 11 = _; decide +kernel) (fun y9 e9 => okX12_place hl (F := F) e9) (fun v3 ev3 => ?_)
    refine ab_istore_n (pc := 14) (n := 1) (i := 1) (lv' := [(0, .ref x0), (1, .int v3.1)]) (by show decode cX12_atom 14 = _; decide +kernel) rfl (Nat.le_of_ble_eq_true rfl) rfl rfl ?_
    refine ab_aload_n (pc := 15) (n := 0) (i := 0) (j := 0) (by show decode cX12_atom 15 = _; decide +kernel) rfl rfl ?_
    refine ab_ldcS (pc := 16) (index := 212) (kk := 24) (tx := "not") (by show decode cX12_atom 16 = _; decide +kernel) (by show (RX12, 212, "not", 24) ∈ ab_sr; decide +kernel) ?_
    refine ab_callVj (As := [.ref (ab_SB + 24)]) (st := []) (pc := 18) lk_X12_124_12 rfl rfl rfl (ab_rmB_of (by simp only [mX12_atom, mX12_has_]; omega) (by simp only [mX12_atom, mX12_has_]; omega)) rfl (Nat.le_of_ble_eq_true rfl) (by show decode cX12_atom 18 = _; decide +kernel) (fun y9 e9 => okX12_has_ hl (F := F) e9) (fun v4 ev4 => ?_)
    refine ab_istore_n (pc := 21) (n := 2) (i := 2) (lv' := [(0, .ref x0), (1, .int v3.1), (2, .int v4.1)]) (by show decode cX12_atom 21 = _; decide +kernel) rfl (Nat.le_of_ble_eq_true rfl) rfl rfl ?_
    refine ab_iload_n (pc := 22) (n := 2) (i := 2) (j := 2) (by show decode cX12_atom 22 = _; decide +kernel) rfl rfl ?_
    refine ab_jr (fun k9 : ab_H → Option (Int32 × ab_H) => ∀ (h5 : ab_H), ab_S l (mX12_atom (d + 1)) (fun y : (Int32 × ab_H) => ((.inl (some (.int y.1)), y.2) : ab_R × ab_H)) 0 0 (k9 h5) 40 [(0, .ref x0), (1, .int v3.1), (2, .int v4.1)] [] h5) ?_ (fun j35 hj35 => ?_)
    · intro h5
      refine ab_aload_n (pc := 40) (n := 0) (i := 0) (j := 0) (by show decode cX12_atom 40 = _; decide +kernel) rfl rfl ?_
      refine ab_getI (pc := 41) fl_X12_157_12 (by show decode cX12_atom 41 = _; decide +kernel) (fun v6 ev6 => ?_)
      refine ab_bipush (pc := 44) (n := 6) (v := nI 6) (by show decode cX12_atom 44 = _; decide +kernel) (by decide) ?_
      refine ab_icmp_ne (off := 10) (pc := 46) (tgt := 56) (by show decode cX12_atom 46 = _; decide +kernel) (by decide) (fun g7 => ?_) (fun g7 => ?_)
      · refine ab_aload_n (pc := 49) (n := 0) (i := 0) (j := 0) (by show decode cX12_atom 49 = _; decide +kernel) rfl rfl ?_
        refine ab_iload_n (pc := 50) (n := 1) (i := 1) (j := 1) (by show decode cX12_atom 50 = _; decide +kernel) rfl rfl ?_
        refine ab_callVw (As := [.int v3.1]) (st := []) (pc := 51) lk_X12_93_12 rfl rfl rfl (ab_rmB_of (by simp only [mX12_atom, mX12_wrong]; omega) (by simp only [mX12_atom, mX12_wrong]; omega)) rfl (Nat.le_of_ble_eq_true rfl) (by show decode cX12_atom 51 = _; decide +kernel) (fun y9 e9 => okX12_wrong hl e9) (fun h8 eh8 => ?_)
        refine ab_iconst (pc := 54) (n := 0) (v := nI 0) (by show decode cX12_atom 54 = _; decide +kernel) rfl ?_
        exact ab_zret (pc := 55) (by show decode cX12_atom 55 = _; decide +kernel) rfl ab_bl0.1 rfl (Nat.le_of_ble_eq_true rfl) (Nat.le_of_ble_eq_true rfl)
      · refine ab_aload_n (pc := 56) (n := 0) (i := 0) (j := 0) (by show decode cX12_atom 56 = _; decide +kernel) rfl rfl ?_
        refine ab_dup (pc := 57) (by show decode cX12_atom 57 = _; decide +kernel) rfl ?_
        refine ab_getI (pc := 58) fl_X12_157_12 (by show decode cX12_atom 58 = _; decide +kernel) (fun v9 ev9 => ?_)
        refine ab_iconst (pc := 61) (n := 1) (v := nI 1) (by show decode cX12_atom 61 = _; decide +kernel) rfl ?_
        refine ab_iadd (pc := 62) (by show decode cX12_atom 62 = _; decide +kernel) ?_
        refine ab_put (pc := 63) fl_X12_157_12 rfl (fun _ => rfl) (fun _ => rfl) (by show decode cX12_atom 63 = _; decide +kernel) (fun h10 eh10 => ?_)
        refine ab_iconst (pc := 66) (n := 0) (v := nI 0) (by show decode cX12_atom 66 = _; decide +kernel) rfl ?_
        refine ab_istore_n (pc := 67) (n := 3) (i := 3) (lv' := [(0, .ref x0), (1, .int v3.1), (2, .int v4.1), (3, .int (nI 0))]) (by show decode cX12_atom 67 = _; decide +kernel) rfl (Nat.le_of_ble_eq_true rfl) rfl rfl ?_
        refine ab_iload_n (pc := 68) (n := 2) (i := 2) (j := 2) (by show decode cX12_atom 68 = _; decide +kernel) rfl rfl ?_
        refine ab_if_eq (off := 19) (pc := 69) (tgt := 88) (by show decode cX12_atom 69 = _; decide +kernel) (by decide) (fun g11 => ?_) (fun g11 => ?_)
        · refine ab_aload_n (pc := 88) (n := 0) (i := 0) (j := 0) (by show decode cX12_atom 88 = _; decide +kernel) rfl rfl ?_
          refine ab_dup (pc := 89) (by show decode cX12_atom 89 = _; decide +kernel) rfl ?_
          refine ab_getI (pc := 90) fl_X12_67_12 (by show decode cX12_atom 90 = _; decide +kernel) (fun v12 ev12 => ?_)
          refine ab_iconst (pc := 93) (n := 1) (v := nI 1) (by show decode cX12_atom 93 = _; decide +kernel) rfl ?_
          refine ab_iadd (pc := 94) (by show decode cX12_atom 94 = _; decide +kernel) ?_
          refine ab_put (pc := 95) fl_X12_67_12 rfl (fun _ => rfl) (fun _ => rfl) (by show decode cX12_atom 95 = _; decide +kernel) (fun h13 eh13 => ?_)
          refine ab_aload_n (pc := 98) (n := 0) (i := 0) (j := 0) (by show decode cX12_atom 98 = _; decide +kernel) rfl rfl ?_
          refine ab_callVj (As := []) (st := []) (pc := 99) (lk_X12_220_12 d) rfl rfl rfl (ab_rmB_of (by simp only [mX12_atom, mX12_some]; omega) (by simp only [mX12_atom, mX12_some]; omega)) rfl (Nat.le_of_ble_eq_true rfl) (by show decode cX12_atom 99 = _; decide +kernel) (fun y9 e9 => okX12_some hl (F := F) d hA e9) (fun v14 ev14 => ?_)
          refine ab_istore_n (pc := 102) (n := 3) (i := 3) (lv' := [(0, .ref x0), (1, .int v3.1), (2, .int v4.1), (3, .int v14.1)]) (by show decode cX12_atom 102 = _; decide +kernel) rfl (Nat.le_of_ble_eq_true rfl) rfl rfl ?_
          refine ab_aload_n (pc := 103) (n := 0) (i := 0) (j := 0) (by show decode cX12_atom 103 = _; decide +kernel) rfl rfl ?_
          refine ab_getI (pc := 104) fl_X12_25_12 (by show decode cX12_atom 104 = _; decide +kernel) (fun v15 ev15 => ?_)
          refine ab_iconst (pc := 107) (n := -1) (v := (-1 : Int32)) (by show decode cX12_atom 107 = _; decide +kernel) rfl ?_
          refine ab_jr (fun k9 : ab_H → Option (Int32 × ab_H) => ∀ (h16 : ab_H), ab_S l (mX12_atom (d + 1)) (fun y : (Int32 × ab_H) => ((.inl (some (.int y.1)), y.2) : ab_R × ab_H)) 0 0 (k9 h16) 128 [(0, .ref x0), (3, .int v14.1)] [] h16) ?_ (fun j22 hj22 => ?_)
          · intro h16
            refine ab_aload_n (pc := 128) (n := 0) (i := 0) (j := 0) (by show decode cX12_atom 128 = _; decide +kernel) rfl rfl ?_
            refine ab_dup (pc := 129) (by show decode cX12_atom 129 = _; decide +kernel) rfl ?_
            refine ab_getI (pc := 130) fl_X12_67_12 (by show decode cX12_atom 130 = _; decide +kernel) (fun v17 ev17 => ?_)
            refine ab_iconst (pc := 133) (n := 1) (v := nI 1) (by show decode cX12_atom 133 = _; decide +kernel) rfl ?_
            refine ab_iadd (pc := 134) (by show decode cX12_atom 134 = _; decide +kernel) ?_
            refine ab_put (pc := 135) fl_X12_67_12 rfl (fun _ => rfl) (fun _ => rfl) (by show decode cX12_atom 135 = _; decide +kernel) (fun h18 eh18 => ?_)
            refine ab_aload_n (pc := 138) (n := 0) (i := 0) (j := 0) (by show decode cX12_atom 138 = _; decide +kernel) rfl rfl ?_
            refine ab_dup (pc := 139) (by show decode cX12_atom 139 = _; decide +kernel) rfl ?_
            refine ab_getI (pc := 140) fl_X12_157_12 (by show decode cX12_atom 140 = _; decide +kernel) (fun v19 ev19 => ?_)
            refine ab_iconst (pc := 143) (n := 1) (v := nI 1) (by show decode cX12_atom 143 = _; decide +kernel) rfl ?_
            refine ab_isub (pc := 144) (by show decode cX12_atom 144 = _; decide +kernel) ?_
            refine ab_put (pc := 145) fl_X12_157_12 rfl (fun _ => rfl) (fun _ => rfl) (by show decode cX12_atom 145 = _; decide +kernel) (fun h20 eh20 => ?_)
            refine ab_iload_n (pc := 148) (n := 3) (i := 3) (j := 1) (by show decode cX12_atom 148 = _; decide +kernel) rfl rfl ?_
            refine ab_cbr (fun b21 => ?_)
            exact ab_zret (pc := 149) (by show decode cX12_atom 149 = _; decide +kernel) rfl b21.1 rfl (Nat.le_of_ble_eq_true rfl) (Nat.le_of_ble_eq_true rfl)
          · refine ab_icmp_ne (off := 20) (pc := 108) (tgt := 128) (by show decode cX12_atom 108 = _; decide +kernel) (by decide) (fun g23 => ?_) (fun g23 => ?_)
            · refine ab_aload_n (pc := 111) (n := 0) (i := 0) (j := 0) (by show decode cX12_atom 111 = _; decide +kernel) rfl rfl ?_
              refine ab_bipush (pc := 112) (n := 41) (v := nI 41) (by show decode cX12_atom 112 = _; decide +kernel) (by decide) ?_
              refine ab_callVj (As := [.int (nI 41)]) (st := []) (pc := 114) lk_X12_166_12 rfl rfl rfl (ab_rmB_of (by simp only [mX12_atom, mX12_isSign]; omega) (by simp only [mX12_atom, mX12_isSign]; omega)) rfl (Nat.le_of_ble_eq_true rfl) (by show decode cX12_atom 114 = _; decide +kernel) (fun y9 e9 => okX12_isSign hl (F := F) e9) (fun v24 ev24 => ?_)
              refine ab_if_ne (off := 11) (pc := 117) (tgt := 128) (by show decode cX12_atom 117 = _; decide +kernel) (by decide) (fun g25 => ?_) (fun g25 => ?_)
              · refine ab_aload_n (pc := 120) (n := 0) (i := 0) (j := 0) (by show decode cX12_atom 120 = _; decide +kernel) rfl rfl ?_
                refine ab_aload_n (pc := 121) (n := 0) (i := 0) (j := 0) (by show decode cX12_atom 121 = _; decide +kernel) rfl rfl ?_
                refine ab_getI (pc := 122) fl_X12_67_12 (by show decode cX12_atom 122 = _; decide +kernel) (fun v26 ev26 => ?_)
                refine ab_callVw (As := [.int v26]) (st := []) (pc := 125) lk_X12_93_12 rfl rfl rfl (ab_rmB_of (by simp only [mX12_atom, mX12_wrong]; omega) (by simp only [mX12_atom, mX12_wrong]; omega)) rfl (Nat.le_of_ble_eq_true rfl) (by show decode cX12_atom 125 = _; decide +kernel) (fun y9 e9 => okX12_wrong hl e9) (fun h27 eh27 => ?_)
                refine ab_few [0, 3] (lv' := [(0, .ref x0), (3, .int v14.1)]) rfl ?_
                exact hj22 h27
              · refine ab_few [0, 3] (lv' := [(0, .ref x0), (3, .int v14.1)]) rfl ?_
                exact hj22 v24.2
            · refine ab_few [0, 3] (lv' := [(0, .ref x0), (3, .int v14.1)]) rfl ?_
              exact hj22 v14.2
        · refine ab_aload_n (pc := 72) (n := 0) (i := 0) (j := 0) (by show decode cX12_atom 72 = _; decide +kernel) rfl rfl ?_
          refine ab_callVj (As := []) (st := []) (pc := 73) (lk_X12_217_12 d) rfl rfl rfl (ab_rmB_of (by simp only [mX12_atom, mX12_atom]; omega) (by simp only [mX12_atom, mX12_atom]; omega)) rfl (Nat.le_of_ble_eq_true rfl) (by show decode cX12_atom 73 = _; decide +kernel) (fun y9 e9 => hA _ _ _ e9) (fun v28 ev28 => ?_)
          refine ab_jr (fun k9 : Int32 → Option (Int32 × ab_H) => ∀ (z29 : Int32), ab_S l (mX12_atom (d + 1)) (fun y : (Int32 × ab_H) => ((.inl (some (.int y.1)), y.2) : ab_R × ab_H)) 0 0 (k9 z29) 84 [(0, .ref x0)] [.int z29] v28.2) ?_ (fun j33 hj33 => ?_)
          · intro z29
            refine ab_istore_n (pc := 84) (n := 3) (i := 3) (lv' := [(0, .ref x0), (3, .int z29)]) (by show decode cX12_atom 84 = _; decide +kernel) rfl (Nat.le_of_ble_eq_true rfl) rfl rfl ?_
            refine ab_goto (pc := 85) (off := 53) (tgt := 138) (by show decode cX12_atom 85 = _; decide +kernel) (by decide) ?_
            refine ab_aload_n (pc := 138) (n := 0) (i := 0) (j := 0) (by show decode cX12_atom 138 = _; decide +kernel) rfl rfl ?_
            refine ab_dup (pc := 139) (by show decode cX12_atom 139 = _; decide +kernel) rfl ?_
            refine ab_getI (pc := 140) fl_X12_157_12 (by show decode cX12_atom 140 = _; decide +kernel) (fun v30 ev30 => ?_)
            refine ab_iconst (pc := 143) (n := 1) (v := nI 1) (by show decode cX12_atom 143 = _; decide +kernel) rfl ?_
            refine ab_isub (pc := 144) (by show decode cX12_atom 144 = _; decide +kernel) ?_
            refine ab_put (pc := 145) fl_X12_157_12 rfl (fun _ => rfl) (fun _ => rfl) (by show decode cX12_atom 145 = _; decide +kernel) (fun h31 eh31 => ?_)
            refine ab_iload_n (pc := 148) (n := 3) (i := 3) (j := 1) (by show decode cX12_atom 148 = _; decide +kernel) rfl rfl ?_
            refine ab_cbr (fun b32 => ?_)
            exact ab_zret (pc := 149) (by show decode cX12_atom 149 = _; decide +kernel) rfl b32.1 rfl (Nat.le_of_ble_eq_true rfl) (Nat.le_of_ble_eq_true rfl)
          · refine ab_if_ne (off := 7) (pc := 76) (tgt := 83) (by show decode cX12_atom 76 = _; decide +kernel) (by decide) (fun g34 => ?_) (fun g34 => ?_)
            · refine ab_iconst (pc := 79) (n := 1) (v := nI 1) (by show decode cX12_atom 79 = _; decide +kernel) rfl ?_
              refine ab_goto (pc := 80) (off := 4) (tgt := 84) (by show decode cX12_atom 80 = _; decide +kernel) (by decide) ?_
              refine ab_few [0] (lv' := [(0, .ref x0)]) rfl ?_
              exact hj33 (nI 1)
            · refine ab_iconst (pc := 83) (n := 0) (v := nI 0) (by show decode cX12_atom 83 = _; decide +kernel) rfl ?_
              refine ab_few [0] (lv' := [(0, .ref x0)]) rfl ?_
              exact hj33 (nI 0)
    · refine ab_if_ne (off := 17) (pc := 23) (tgt := 40) (by show decode cX12_atom 23 = _; decide +kernel) (by decide) (fun g36 => ?_) (fun g36 => ?_)
      · refine ab_aload_n (pc := 26) (n := 0) (i := 0) (j := 0) (by show decode cX12_atom 26 = _; decide +kernel) rfl rfl ?_
        refine ab_bipush (pc := 27) (n := 40) (v := nI 40) (by show decode cX12_atom 27 = _; decide +kernel) (by decide) ?_
        refine ab_callVj (As := [.int (nI 40)]) (st := []) (pc := 29) lk_X12_166_12 rfl rfl rfl (ab_rmB_of (by simp only [mX12_atom, mX12_isSign]; omega) (by simp only [mX12_atom, mX12_isSign]; omega)) rfl (Nat.le_of_ble_eq_true rfl) (by show decode cX12_atom 29 = _; decide +kernel) (fun y9 e9 => okX12_isSign hl (F := F) e9) (fun v37 ev37 => ?_)
        refine ab_if_ne (off := 8) (pc := 32) (tgt := 40) (by show decode cX12_atom 32 = _; decide +kernel) (by decide) (fun g38 => ?_) (fun g38 => ?_)
        · refine ab_aload_n (pc := 35) (n := 0) (i := 0) (j := 0) (by show decode cX12_atom 35 = _; decide +kernel) rfl rfl ?_
          refine ab_callVj (As := []) (st := []) (pc := 36) lk_X12_214_12 rfl rfl rfl (ab_rmB_of (by simp only [mX12_atom, mX12_plain]; omega) (by simp only [mX12_atom, mX12_plain]; omega)) rfl (Nat.le_of_ble_eq_true rfl) (by show decode cX12_atom 36 = _; decide +kernel) (fun y9 e9 => okX12_plain hl (F := F) e9) (fun v39 ev39 => ?_)
          refine ab_cbr (fun b40 => ?_)
          exact ab_zret (pc := 39) (by show decode cX12_atom 39 = _; decide +kernel) rfl b40.1 rfl (Nat.le_of_ble_eq_true rfl) (Nat.le_of_ble_eq_true rfl)
        · exact hj35 v37.2
      · exact hj35 v4.2
  · refine ab_iconst (pc := 8) (n := 0) (v := nI 0) (by show decode cX12_atom 8 = _; decide +kernel) rfl ?_
    exact ab_zret (pc := 9) (by show decode cX12_atom 9 = _; decide +kernel) rfl ab_bl0.1 rfl (Nat.le_of_ble_eq_true rfl) (Nat.le_of_ble_eq_true rfl)
set_option maxRecDepth 100000 in
set_option maxHeartbeats 4000000 in
theorem okX12_atomB {l : Launch} (hl : l.stackTraces = false) {F : Nat} (d : Nat) {A : Nat → ab_H → Option (Int32 × ab_H)} (hA : ∀ (z : Nat) (h : ab_H) (y : (Int32 × ab_H)), A z h = some y → ab_Met l (mX12_atom d) [.ref z] h (.inl (some (.int y.1)), y.2)) {x0 : Nat} {h : ab_H} {y : (Int32 × ab_H)} (e : fX12_atomB F A x0 h = some y) : ab_Met l (mX12_atom (d + 1)) [.ref x0] h (.inl (some (.int y.1)), y.2) := ab_ofS (io := (fun y : (Int32 × ab_H) => ((.inl (some (.int y.1)), y.2) : ab_R × ab_H))) (x := y) hl rfl rfl (Nat.le_of_ble_eq_true rfl) (wX12_atom hl F d hA x0 h) e
def fX12_atom (F : Nat) : Nat → Nat → ab_H → Option (Int32 × ab_H)
  | 0, _, _ => none
  | d + 1, x0, h => fX12_atomB F (fX12_atom F d) x0 h
set_option maxRecDepth 100000 in
set_option maxHeartbeats 4000000 in
theorem okX12_atom {l : Launch} (hl : l.stackTraces = false) {F : Nat} : ∀ (d : Nat) (x0 : Nat) (h : ab_H) (y : (Int32 × ab_H)), fX12_atom F d x0 h = some y → ab_Met l (mX12_atom d) [.ref x0] h (.inl (some (.int y.1)), y.2) := by
  intro d
  induction d with
  | zero => intro  x0 h y e; cases e
  | succ d ih => intro  x0 h y e; exact okX12_atomB hl (F := F) d ih e
def mX12_someT : ab_M := mX12_some 7
theorem iX12_someT : ab_MI mX12_someT 0 := iX12_some 7
def fX12_someT (F : Nat) (x0 : Nat) (h : ab_H) : Option (Int32 × ab_H) := fX12_some F (fX12_atom F 7) x0 h
theorem okX12_someT {l : Launch} (hl : l.stackTraces = false) {F : Nat} {x0 : Nat} {h : ab_H} {y : (Int32 × ab_H)} (e : fX12_someT F x0 h = some y) : ab_Met l mX12_someT [.ref x0] h (.inl (some (.int y.1)), y.2) := okX12_some hl (F := F) 7 (okX12_atom hl 7) e
