/-! ===== class (by program, decomp.py) ===== -/
def mX7_findsFace (d : Nat) : ab_M := (yX7_findsFace, cX7_findsFace, 4, (some .boolean), { frames := 1 + 1 * d, cells := 0, slots := 0, locals := 21 + 23 * d })
theorem iX7_findsFace (d : Nat) : ab_MI (mX7_findsFace d) 2 := ⟨kw_b1cc792ebe, kw_7a4ae534b5, (by decide +kernel : yX7_findsFace.cls ≠ "java/lang/invoke/MethodHandle" ∧ yX7_findsFace.cls ≠ "java/lang/invoke/VarHandle" ∧ (parseMethodDescriptor yX7_findsFace.desc).map (fun d => d.parameters.length) = some 2)⟩
theorem lk_X7_92_7 (d : Nat) : ab_LV RX7 92 7 (mX7_findsFace d) 2 := ⟨RX7, rfl, (iX7_findsFace d), kw_c4e869cef9, kw_aff2469dc3, kw_b3ab92eb1b⟩
def fX7_findsFace_2 (F : Nat) (A : Nat → Int32 → Int32 → ab_H → Option (Int32 × ab_H)) (x0 : Nat) (x1 : Int32) (x2 : Int32) : Nat → Int32 → ab_H → Option (Int32 × ab_H)
  | 0, _, _ => none
  | n + 1, x3, h => ab_bd (ab_fi h x0 7 6) fun v1 => (if x3 < v1 then (if x2 < (nI 10) then ab_bd (ab_fr h x0 7 3) fun v4 => ab_bd (ab_ia 0 h v4 x1) fun v5 => ab_bd (ab_fi h x0 7 8) fun v6 => ab_bd (fX11_has (v5 &&& (v6 ^^^ (-1 : Int32))) x3 h) fun v7 => (if v7 = 0 then fX7_findsFace_2 F A x0 x1 x2 n (x3 + nI 1) h else ab_bd (ab_fi h x0 7 8) fun v9 => ab_bd (ab_fw h x0 7 8 (.int (v9 ||| ((nI 1) <<< (x3 &&& 31))))) fun h10 => ab_bd (ab_fr h10 x0 7 4) fun v11 => ab_bd (ab_ia 0 h10 v11 x3) fun v12 => (if v12 = (-1 : Int32) then ab_bd (ab_fr h10 x0 7 4) fun v14 => ab_bd (ab_iw 0 h10 v14 x3 x1) fun h15 => some (nI 1, h15) else ab_bd (ab_fr h10 x0 7 4) fun v16 => ab_bd (ab_ia 0 h10 v16 x3) fun v17 => ab_ck (ab_io h10 x0 7 = true) (ab_bd (A x0 v17 (x2 + (nI 1)) h10) fun v18 => (if v18.1 = 0 then fX7_findsFace_2 F A x0 x1 x2 n (x3 + nI 1) v18.2 else ab_bd (ab_fr v18.2 x0 7 4) fun v20 => ab_bd (ab_iw 0 v18.2 v20 x3 x1) fun h21 => some (nI 1, h21))))) else some (nI 0, h)) else some (nI 0, h))
def fX7_findsFaceB (F : Nat) (A : Nat → Int32 → Int32 → ab_H → Option (Int32 × ab_H)) (x0 : Nat) (x1 : Int32) (x2 : Int32) (h : ab_H) : Option (Int32 × ab_H) := fX7_findsFace_2 F A x0 x1 x2 F (nI 0) h
set_option maxRecDepth 100000 in
set_option maxHeartbeats 4000000 in
theorem lX7_findsFace_2 {l : Launch} (hl : l.stackTraces = false) (F : Nat) (d : Nat) {A : Nat → Int32 → Int32 → ab_H → Option (Int32 × ab_H)} (hA : ∀ (z : Nat) (z0 : Int32) (z1 : Int32) (h : ab_H) (y : (Int32 × ab_H)), A z z0 z1 h = some y → ab_Met l (mX7_findsFace d) [.ref z, .int z0, .int z1] h (.inl (some (.int y.1)), y.2)) (x0 : Nat) (x1 : Int32) (x2 : Int32) : ∀ (n : Nat) (x3 : Int32) (h : ab_H), ab_S l (mX7_findsFace (d + 1)) (fun y : (Int32 × ab_H) => ((.inl (some (.int y.1)), y.2) : ab_R × ab_H)) 0 0 (fX7_findsFace_2 F A x0 x1 x2 n x3 h) 2 [(0, .ref x0), (1, .int x1), (2, .int x2), (3, .int x3)] [] h := by
  intro n
  induction n with
  | zero =>
    intro x3 h
    exact ab_none
  | succ n ih =>
    intro x3 h
    rw [fX7_findsFace_2]
    refine ab_iload_n (pc := 2) (n := 3) (i := 3) (j := 3) (by show decode cX7_findsFace 2 = _; decide +kernel) rfl rfl ?_
    refine ab_aload_n (pc := 3) (n := 0) (i := 0) (j := 0) (by show decode cX7_findsFace 3 = _; decide +kernel) rfl rfl ?_
    refine ab_getI (pc := 4) fl_X7_31_7 (by show decode cX7_findsFace 4 = _; decide +kernel) (fun v1 ev1 => ?_)
    refine ab_icmp_ge (off := 82) (pc := 7) (tgt := 89) (by show decode cX7_findsFace 7 = _; decide +kernel) (by decide) (fun g2 => ?_) (fun g2 => ?_)
    · refine ab_iload_n (pc := 10) (n := 2) (i := 2) (j := 2) (by show decode cX7_findsFace 10 = _; decide +kernel) rfl rfl ?_
      refine ab_bipush (pc := 11) (n := 10) (v := nI 10) (by show decode cX7_findsFace 11 = _; decide +kernel) (by decide) ?_
      refine ab_icmp_ge (off := 76) (pc := 13) (tgt := 89) (by show decode cX7_findsFace 13 = _; decide +kernel) (by decide) (fun g3 => ?_) (fun g3 => ?_)
      · refine ab_aload_n (pc := 16) (n := 0) (i := 0) (j := 0) (by show decode cX7_findsFace 16 = _; decide +kernel) rfl rfl ?_
        refine ab_getR (pc := 17) fl_X7_22_7 (by show decode cX7_findsFace 17 = _; decide +kernel) (fun v4 ev4 => ?_)
        refine ab_iload_n (pc := 20) (n := 1) (i := 1) (j := 1) (by show decode cX7_findsFace 20 = _; decide +kernel) rfl rfl ?_
        refine ab_iald (pc := 21) (by show decode cX7_findsFace 21 = _; decide +kernel) (fun v5 ev5 => ?_)
        refine ab_aload_n (pc := 22) (n := 0) (i := 0) (j := 0) (by show decode cX7_findsFace 22 = _; decide +kernel) rfl rfl ?_
        refine ab_getI (pc := 23) fl_X7_89_7 (by show decode cX7_findsFace 23 = _; decide +kernel) (fun v6 ev6 => ?_)
        refine ab_iconst (pc := 26) (n := -1) (v := (-1 : Int32)) (by show decode cX7_findsFace 26 = _; decide +kernel) rfl ?_
        refine ab_ixor (pc := 27) (by show decode cX7_findsFace 27 = _; decide +kernel) ?_
        refine ab_iand (pc := 28) (by show decode cX7_findsFace 28 = _; decide +kernel) ?_
        refine ab_iload_n (pc := 29) (n := 3) (i := 3) (j := 3) (by show decode cX7_findsFace 29 = _; decide +kernel) rfl rfl ?_
        refine ab_callNi (As := [.int (v5 &&& (v6 ^^^ (-1 : Int32))), .int x3]) (st := []) (pc := 30) (index := 53) (host := "HungFaces") iX11_has (by show (RX7, 53, yX11_has, "HungFaces") ∈ ab_nm; decide +kernel) kw_b5c7c9a43d rfl rfl rfl (ab_rmB_of (by simp only [mX7_findsFace, mX11_has]; omega) (by simp only [mX7_findsFace, mX11_has]; omega)) rfl (Nat.le_of_ble_eq_true rfl) (by show decode cX7_findsFace 30 = _; decide +kernel) (fun y9 e9 => okX11_has hl e9) (fun v7 ev7 => ?_)
        refine ab_if_eq (off := 50) (pc := 33) (tgt := 83) (by show decode cX7_findsFace 33 = _; decide +kernel) (by decide) (fun g8 => ?_) (fun g8 => ?_)
        · refine ab_iinc (pc := 83) (i := 3) (n := 1) (j := 3) (d := nI 1) (lv' := [(0, .ref x0), (1, .int x1), (2, .int x2), (3, .int (x3 + nI 1))]) (by show decode cX7_findsFace 83 = _; decide +kernel) rfl rfl (Nat.le_of_ble_eq_true rfl) rfl rfl ?_
          refine ab_goto (pc := 86) (off := (-84)) (tgt := 2) (by show decode cX7_findsFace 86 = _; decide +kernel) (by decide) ?_
          exact ih (x3 + nI 1) h
        · refine ab_aload_n (pc := 36) (n := 0) (i := 0) (j := 0) (by show decode cX7_findsFace 36 = _; decide +kernel) rfl rfl ?_
          refine ab_dup (pc := 37) (by show decode cX7_findsFace 37 = _; decide +kernel) rfl ?_
          refine ab_getI (pc := 38) fl_X7_89_7 (by show decode cX7_findsFace 38 = _; decide +kernel) (fun v9 ev9 => ?_)
          refine ab_iconst (pc := 41) (n := 1) (v := nI 1) (by show decode cX7_findsFace 41 = _; decide +kernel) rfl ?_
          refine ab_iload_n (pc := 42) (n := 3) (i := 3) (j := 3) (by show decode cX7_findsFace 42 = _; decide +kernel) rfl rfl ?_
          refine ab_ishl (pc := 43) (by show decode cX7_findsFace 43 = _; decide +kernel) ?_
          refine ab_ior (pc := 44) (by show decode cX7_findsFace 44 = _; decide +kernel) ?_
          refine ab_put (pc := 45) fl_X7_89_7 rfl (fun _ => rfl) (fun _ => rfl) (by show decode cX7_findsFace 45 = _; decide +kernel) (fun h10 eh10 => ?_)
          refine ab_aload_n (pc := 48) (n := 0) (i := 0) (j := 0) (by show decode cX7_findsFace 48 = _; decide +kernel) rfl rfl ?_
          refine ab_getR (pc := 49) fl_X7_25_7 (by show decode cX7_findsFace 49 = _; decide +kernel) (fun v11 ev11 => ?_)
          refine ab_iload_n (pc := 52) (n := 3) (i := 3) (j := 3) (by show decode cX7_findsFace 52 = _; decide +kernel) rfl rfl ?_
          refine ab_iald (pc := 53) (by show decode cX7_findsFace 53 = _; decide +kernel) (fun v12 ev12 => ?_)
          refine ab_iconst (pc := 54) (n := -1) (v := (-1 : Int32)) (by show decode cX7_findsFace 54 = _; decide +kernel) rfl ?_
          refine ab_icmp_eq (off := 19) (pc := 55) (tgt := 74) (by show decode cX7_findsFace 55 = _; decide +kernel) (by decide) (fun g13 => ?_) (fun g13 => ?_)
          · refine ab_aload_n (pc := 74) (n := 0) (i := 0) (j := 0) (by show decode cX7_findsFace 74 = _; decide +kernel) rfl rfl ?_
            refine ab_getR (pc := 75) fl_X7_25_7 (by show decode cX7_findsFace 75 = _; decide +kernel) (fun v14 ev14 => ?_)
            refine ab_iload_n (pc := 78) (n := 3) (i := 3) (j := 3) (by show decode cX7_findsFace 78 = _; decide +kernel) rfl rfl ?_
            refine ab_iload_n (pc := 79) (n := 1) (i := 1) (j := 1) (by show decode cX7_findsFace 79 = _; decide +kernel) rfl rfl ?_
            refine ab_iast (pc := 80) (by show decode cX7_findsFace 80 = _; decide +kernel) (fun h15 eh15 => ?_)
            refine ab_iconst (pc := 81) (n := 1) (v := nI 1) (by show decode cX7_findsFace 81 = _; decide +kernel) rfl ?_
            exact ab_zret (pc := 82) (by show decode cX7_findsFace 82 = _; decide +kernel) rfl ab_bl1.1 rfl (Nat.le_of_ble_eq_true rfl) (Nat.le_of_ble_eq_true rfl)
          · refine ab_aload_n (pc := 58) (n := 0) (i := 0) (j := 0) (by show decode cX7_findsFace 58 = _; decide +kernel) rfl rfl ?_
            refine ab_aload_n (pc := 59) (n := 0) (i := 0) (j := 0) (by show decode cX7_findsFace 59 = _; decide +kernel) rfl rfl ?_
            refine ab_getR (pc := 60) fl_X7_25_7 (by show decode cX7_findsFace 60 = _; decide +kernel) (fun v16 ev16 => ?_)
            refine ab_iload_n (pc := 63) (n := 3) (i := 3) (j := 3) (by show decode cX7_findsFace 63 = _; decide +kernel) rfl rfl ?_
            refine ab_iald (pc := 64) (by show decode cX7_findsFace 64 = _; decide +kernel) (fun v17 ev17 => ?_)
            refine ab_iload_n (pc := 65) (n := 2) (i := 2) (j := 2) (by show decode cX7_findsFace 65 = _; decide +kernel) rfl rfl ?_
            refine ab_iconst (pc := 66) (n := 1) (v := nI 1) (by show decode cX7_findsFace 66 = _; decide +kernel) rfl ?_
            refine ab_iadd (pc := 67) (by show decode cX7_findsFace 67 = _; decide +kernel) ?_
            refine ab_callVj (As := [.int v17, .int (x2 + (nI 1))]) (st := []) (pc := 68) (lk_X7_92_7 d) rfl rfl rfl (ab_rmB_of (by simp only [mX7_findsFace, mX7_findsFace]; omega) (by simp only [mX7_findsFace, mX7_findsFace]; omega)) rfl (Nat.le_of_ble_eq_true rfl) (by show decode cX7_findsFace 68 = _; decide +kernel) (fun y9 e9 => hA _ _ _ _ _ e9) (fun v18 ev18 => ?_)
            refine ab_if_eq (off := 12) (pc := 71) (tgt := 83) (by show decode cX7_findsFace 71 = _; decide +kernel) (by decide) (fun g19 => ?_) (fun g19 => ?_)
            · refine ab_iinc (pc := 83) (i := 3) (n := 1) (j := 3) (d := nI 1) (lv' := [(0, .ref x0), (1, .int x1), (2, .int x2), (3, .int (x3 + nI 1))]) (by show decode cX7_findsFace 83 = _; decide +kernel) rfl rfl (Nat.le_of_ble_eq_true rfl) rfl rfl ?_
              refine ab_goto (pc := 86) (off := (-84)) (tgt := 2) (by show decode cX7_findsFace 86 = _; decide +kernel) (by decide) ?_
              exact ih (x3 + nI 1) v18.2
            · refine ab_aload_n (pc := 74) (n := 0) (i := 0) (j := 0) (by show decode cX7_findsFace 74 = _; decide +kernel) rfl rfl ?_
              refine ab_getR (pc := 75) fl_X7_25_7 (by show decode cX7_findsFace 75 = _; decide +kernel) (fun v20 ev20 => ?_)
              refine ab_iload_n (pc := 78) (n := 3) (i := 3) (j := 3) (by show decode cX7_findsFace 78 = _; decide +kernel) rfl rfl ?_
              refine ab_iload_n (pc := 79) (n := 1) (i := 1) (j := 1) (by show decode cX7_findsFace 79 = _; decide +kernel) rfl rfl ?_
              refine ab_iast (pc := 80) (by show decode cX7_findsFace 80 = _; decide +kernel) (fun h21 eh21 => ?_)
              refine ab_iconst (pc := 81) (n := 1) (v := nI 1) (by show decode cX7_findsFace 81 = _; decide +kernel) rfl ?_
              exact ab_zret (pc := 82) (by show decode cX7_findsFace 82 = _; decide +kernel) rfl ab_bl1.1 rfl (Nat.le_of_ble_eq_true rfl) (Nat.le_of_ble_eq_true rfl)
      · refine ab_iconst (pc := 89) (n := 0) (v := nI 0) (by show decode cX7_findsFace 89 = _; decide +kernel) rfl ?_
        exact ab_zret (pc := 90) (by show decode cX7_findsFace 90 = _; decide +kernel) rfl ab_bl0.1 rfl (Nat.le_of_ble_eq_true rfl) (Nat.le_of_ble_eq_true rfl)
    · refine ab_iconst (pc := 89) (n := 0) (v := nI 0) (by show decode cX7_findsFace 89 = _; decide +kernel) rfl ?_
      exact ab_zret (pc := 90) (by show decode cX7_findsFace 90 = _; decide +kernel) rfl ab_bl0.1 rfl (Nat.le_of_ble_eq_true rfl) (Nat.le_of_ble_eq_true rfl)
set_option maxRecDepth 100000 in
set_option maxHeartbeats 4000000 in
theorem wX7_findsFace {l : Launch} (hl : l.stackTraces = false) (F : Nat) (d : Nat) {A : Nat → Int32 → Int32 → ab_H → Option (Int32 × ab_H)} (hA : ∀ (z : Nat) (z0 : Int32) (z1 : Int32) (h : ab_H) (y : (Int32 × ab_H)), A z z0 z1 h = some y → ab_Met l (mX7_findsFace d) [.ref z, .int z0, .int z1] h (.inl (some (.int y.1)), y.2)) (x0 : Nat) (x1 : Int32) (x2 : Int32) (h : ab_H) : ab_S l (mX7_findsFace (d + 1)) (fun y : (Int32 × ab_H) => ((.inl (some (.int y.1)), y.2) : ab_R × ab_H)) 0 0 (fX7_findsFaceB F A x0 x1 x2 h) 0 [(0, .ref x0), (1, .int x1), (2, .int x2)] [] h := by
  unfold fX7_findsFaceB
  refine ab_iconst (pc := 0) (n := 0) (v := nI 0) (by show decode cX7_findsFace 0 = _; decide +kernel) rfl ?_
  refine ab_istore_n (pc := 1) (n := 3) (i := 3) (lv' := [(0, .ref x0), (1, .int x1), (2, .int x2), (3, .int (nI 0))]) (by show decode cX7_findsFace 1 = _; decide +kernel) rfl (Nat.le_of_ble_eq_true rfl) rfl rfl ?_
  refine lX7_findsFace_2 hl F d hA x0 x1 x2 F (nI 0) h
set_option maxRecDepth 100000 in
set_option maxHeartbeats 4000000 in
theorem okX7_findsFaceB {l : Launch} (hl : l.stackTraces = false) {F : Nat} (d : Nat) {A : Nat → Int32 → Int32 → ab_H → Option (Int32 × ab_H)} (hA : ∀ (z : Nat) (z0 : Int32) (z1 : Int32) (h : ab_H) (y : (Int32 × ab_H)), A z z0 z1 h = some y → ab_Met l (mX7_findsFace d) [.ref z, .int z0, .int z1] h (.inl (some (.int y.1)), y.2)) {x0 : Nat} {x1 : Int32} {x2 : Int32} {h : ab_H} {y : (Int32 × ab_H)} (e : fX7_findsFaceB F A x0 x1 x2 h = some y) : ab_Met l (mX7_findsFace (d + 1)) [.ref x0, .int x1, .int x2] h (.inl (some (.int y.1)), y.2) := ab_ofS (io := (fun y : (Int32 × ab_H) => ((.inl (some (.int y.1)), y.2) : ab_R × ab_H))) (x := y) hl rfl rfl (Nat.le_of_ble_eq_true rfl) (wX7_findsFace hl F d hA x0 x1 x2 h) e
def fX7_findsFace (F : Nat) : Nat → Nat → Int32 → Int32 → ab_H → Option (Int32 × ab_H)
  | 0, _, _, _, _ => none
  | d + 1, x0, x1, x2, h => fX7_findsFaceB F (fX7_findsFace F d) x0 x1 x2 h
set_option maxRecDepth 100000 in
set_option maxHeartbeats 4000000 in
theorem okX7_findsFace {l : Launch} (hl : l.stackTraces = false) {F : Nat} : ∀ (d : Nat) (x0 : Nat) (x1 : Int32) (x2 : Int32) (h : ab_H) (y : (Int32 × ab_H)), fX7_findsFace F d x0 x1 x2 h = some y → ab_Met l (mX7_findsFace d) [.ref x0, .int x1, .int x2] h (.inl (some (.int y.1)), y.2) := by
  intro d
  induction d with
  | zero => intro  x0 x1 x2 h y e; cases e
  | succ d ih => intro  x0 x1 x2 h y e; exact okX7_findsFaceB hl (F := F) d ih e
def mX7_findsFaceT : ab_M := mX7_findsFace 11
theorem iX7_findsFaceT : ab_MI mX7_findsFaceT 2 := iX7_findsFace 11
def fX7_findsFaceT (F : Nat) (x0 : Nat) (x1 : Int32) (x2 : Int32) (h : ab_H) : Option (Int32 × ab_H) := fX7_findsFace F 11 x0 x1 x2 h
theorem okX7_findsFaceT {l : Launch} (hl : l.stackTraces = false) {F : Nat} {x0 : Nat} {x1 : Int32} {x2 : Int32} {h : ab_H} {y : (Int32 × ab_H)} (e : fX7_findsFaceT F x0 x1 x2 h = some y) : ab_Met l mX7_findsFaceT [.ref x0, .int x1, .int x2] h (.inl (some (.int y.1)), y.2) := okX7_findsFace hl 11 _ _ _ h y e
