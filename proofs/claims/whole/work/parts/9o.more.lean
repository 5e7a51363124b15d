/-! ===== class: person, face, log (by program, decomp.py) ===== -/
theorem thn_X11_154_158 : ab_THN RX11 154 158 "java/util/NoSuchElementException" := ⟨by decide +kernel, kw_2a5a1ca848, kw_07ed4d2a7f, by decide +kernel, by decide +kernel, by decide +kernel⟩
def mX11_person : ab_M := (yX11_person, cX11_person, 3, (some .int), { frames := 7, cells := 2, slots := 12, locals := 111 })
theorem iX11_person : ab_MI mX11_person 2 := ⟨kw_4748449d69, kw_62b61b7ad3, by decide +kernel⟩
def fX11_person (F : Nat) (x0 : Nat) (x1 : Int32) (x2 : Int32) (h : ab_H) : Option (Int32 ⊕ String) := ab_ck (ab_io h x0 11 = true) (ab_bx (fX11_needPerson x0 x1 h) (fun E => Sum.inr E) ((if x2 = nI 0 then ab_bd (ab_fr h x0 11 1) fun v8 => ab_bd (ab_fr h v8 8 10) fun v9 => ab_bd (ab_ia 0 h v9 x1) fun v10 => some (.inl v10) else (if x2 = nI 1 then ab_bd (ab_fr h x0 11 1) fun v11 => ab_bd (ab_fr h v11 8 11) fun v12 => ab_bd (ab_ia 0 h v12 x1) fun v13 => some (.inl v13) else (if x2 = nI 2 then ab_bd (ab_fr h x0 11 1) fun v14 => ab_bd (ab_fr h v14 8 12) fun v15 => ab_bd (ab_ia 0 h v15 x1) fun v16 => some (.inl v16) else (if x2 = nI 3 then ab_bd (ab_fr h x0 11 1) fun v17 => ab_bd (ab_fr h v17 8 13) fun v18 => ab_bd (ab_ia 0 h v18 x1) fun v19 => some (.inl v19) else (if x2 = nI 4 then ab_bd (ab_fr h x0 11 1) fun v20 => ab_bd (ab_fr h v20 8 14) fun v21 => ab_bd (ab_ia 0 h v21 x1) fun v22 => some (.inl v22) else (if x2 = nI 5 then ab_bd (ab_fr h x0 11 1) fun v23 => ab_ck (ab_io h v23 8 = true) (ab_bd (fX8_ringOf F v23 x1 h) fun v24 => some (.inl v24)) else some (.inr "java/util/NoSuchElementException")))))))))
set_option maxRecDepth 100000 in
set_option maxHeartbeats 4000000 in
theorem wX11_person {l : Launch} (hl : l.stackTraces = false) (F : Nat) (x0 : Nat) (x1 : Int32) (x2 : Int32) (h : ab_H) : ab_S l mX11_person (fun y : (Int32 ⊕ String) => ((y.elim (fun x => .inl (some (.int x))) (fun E => .inr E), h) : ab_R × ab_H)) 0 0 (fX11_person F x0 x1 x2 h) 0 [(0, .ref x0), (1, .int x1), (2, .int x2)] [] h := by
  unfold fX11_person
  refine ab_aload_n (pc := 0) (n := 0) (i := 0) (j := 0) (by decide +kernel) rfl rfl ?_
  refine ab_iload_n (pc := 1) (n := 1) (i := 1) (j := 1) (by decide +kernel) rfl rfl ?_
  refine ab_callVt (As := [.int x1]) (st := []) (thr := (fun E => Sum.inr E)) (pc := 2) lk_X11_131_11 (fun _ => rfl) rfl (by decide) rfl (Nat.le_of_ble_eq_true rfl) (by decide +kernel) (fun y9 e9 => okX11_needPerson hl e9) ?_
  refine ab_iload_n (pc := 5) (n := 2) (i := 2) (j := 2) (by decide +kernel) rfl rfl ?_
  refine ab_swC (pc := 6) (c9 := nI 0) (off := 38) (tgt := 44) (dflt := 97) (lo := 0) (hi := 5) (offs := #[38, 48, 58, 68, 78, 88]) (len := 38) (by decide +kernel) (by decide) (by decide) (by decide) (by decide) (fun g2 => ?_) (fun g2 => ?_)
  · refine ab_aload_n (pc := 44) (n := 0) (i := 0) (j := 0) (by decide +kernel) rfl rfl ?_
    refine ab_getR (pc := 45) fl_X11_26_11 (by decide +kernel) (fun v8 ev8 => ?_)
    refine ab_getR (pc := 48) fl_X11_134_8 (by decide +kernel) (fun v9 ev9 => ?_)
    refine ab_iload_n (pc := 51) (n := 1) (i := 1) (j := 1) (by decide +kernel) rfl rfl ?_
    refine ab_iald (pc := 52) (by decide +kernel) (fun v10 ev10 => ?_)
    exact ab_iret (pc := 53) (by decide +kernel) rfl rfl (Nat.le_of_ble_eq_true rfl) (Nat.le_of_ble_eq_true rfl)
  · refine ab_swC (pc := 6) (c9 := nI 1) (off := 48) (tgt := 54) (dflt := 97) (lo := 0) (hi := 5) (offs := #[38, 48, 58, 68, 78, 88]) (len := 38) (by decide +kernel) (by decide) (by decide) (by decide) (by decide) (fun g3 => ?_) (fun g3 => ?_)
    · refine ab_aload_n (pc := 54) (n := 0) (i := 0) (j := 0) (by decide +kernel) rfl rfl ?_
      refine ab_getR (pc := 55) fl_X11_26_11 (by decide +kernel) (fun v11 ev11 => ?_)
      refine ab_getR (pc := 58) fl_X11_138_8 (by decide +kernel) (fun v12 ev12 => ?_)
      refine ab_iload_n (pc := 61) (n := 1) (i := 1) (j := 1) (by decide +kernel) rfl rfl ?_
      refine ab_iald (pc := 62) (by decide +kernel) (fun v13 ev13 => ?_)
      exact ab_iret (pc := 63) (by decide +kernel) rfl rfl (Nat.le_of_ble_eq_true rfl) (Nat.le_of_ble_eq_true rfl)
    · refine ab_swC (pc := 6) (c9 := nI 2) (off := 58) (tgt := 64) (dflt := 97) (lo := 0) (hi := 5) (offs := #[38, 48, 58, 68, 78, 88]) (len := 38) (by decide +kernel) (by decide) (by decide) (by decide) (by decide) (fun g4 => ?_) (fun g4 => ?_)
      · refine ab_aload_n (pc := 64) (n := 0) (i := 0) (j := 0) (by decide +kernel) rfl rfl ?_
        refine ab_getR (pc := 65) fl_X11_26_11 (by decide +kernel) (fun v14 ev14 => ?_)
        refine ab_getR (pc := 68) fl_X11_141_8 (by decide +kernel) (fun v15 ev15 => ?_)
        refine ab_iload_n (pc := 71) (n := 1) (i := 1) (j := 1) (by decide +kernel) rfl rfl ?_
        refine ab_iald (pc := 72) (by decide +kernel) (fun v16 ev16 => ?_)
        exact ab_iret (pc := 73) (by decide +kernel) rfl rfl (Nat.le_of_ble_eq_true rfl) (Nat.le_of_ble_eq_true rfl)
      · refine ab_swC (pc := 6) (c9 := nI 3) (off := 68) (tgt := 74) (dflt := 97) (lo := 0) (hi := 5) (offs := #[38, 48, 58, 68, 78, 88]) (len := 38) (by decide +kernel) (by decide) (by decide) (by decide) (by decide) (fun g5 => ?_) (fun g5 => ?_)
        · refine ab_aload_n (pc := 74) (n := 0) (i := 0) (j := 0) (by decide +kernel) rfl rfl ?_
          refine ab_getR (pc := 75) fl_X11_26_11 (by decide +kernel) (fun v17 ev17 => ?_)
          refine ab_getR (pc := 78) fl_X11_144_8 (by decide +kernel) (fun v18 ev18 => ?_)
          refine ab_iload_n (pc := 81) (n := 1) (i := 1) (j := 1) (by decide +kernel) rfl rfl ?_
          refine ab_iald (pc := 82) (by decide +kernel) (fun v19 ev19 => ?_)
          exact ab_iret (pc := 83) (by decide +kernel) rfl rfl (Nat.le_of_ble_eq_true rfl) (Nat.le_of_ble_eq_true rfl)
        · refine ab_swC (pc := 6) (c9 := nI 4) (off := 78) (tgt := 84) (dflt := 97) (lo := 0) (hi := 5) (offs := #[38, 48, 58, 68, 78, 88]) (len := 38) (by decide +kernel) (by decide) (by decide) (by decide) (by decide) (fun g6 => ?_) (fun g6 => ?_)
          · refine ab_aload_n (pc := 84) (n := 0) (i := 0) (j := 0) (by decide +kernel) rfl rfl ?_
            refine ab_getR (pc := 85) fl_X11_26_11 (by decide +kernel) (fun v20 ev20 => ?_)
            refine ab_getR (pc := 88) fl_X11_147_8 (by decide +kernel) (fun v21 ev21 => ?_)
            refine ab_iload_n (pc := 91) (n := 1) (i := 1) (j := 1) (by decide +kernel) rfl rfl ?_
            refine ab_iald (pc := 92) (by decide +kernel) (fun v22 ev22 => ?_)
            exact ab_iret (pc := 93) (by decide +kernel) rfl rfl (Nat.le_of_ble_eq_true rfl) (Nat.le_of_ble_eq_true rfl)
          · refine ab_swC (pc := 6) (c9 := nI 5) (off := 88) (tgt := 94) (dflt := 97) (lo := 0) (hi := 5) (offs := #[38, 48, 58, 68, 78, 88]) (len := 38) (by decide +kernel) (by decide) (by decide) (by decide) (by decide) (fun g7 => ?_) (fun g7 => ?_)
            · refine ab_aload_n (pc := 94) (n := 0) (i := 0) (j := 0) (by decide +kernel) rfl rfl ?_
              refine ab_getR (pc := 95) fl_X11_26_11 (by decide +kernel) (fun v23 ev23 => ?_)
              refine ab_iload_n (pc := 98) (n := 1) (i := 1) (j := 1) (by decide +kernel) rfl rfl ?_
              refine ab_callVi (As := [.int x1]) (st := []) (pc := 99) lk_X11_150_8 rfl rfl rfl (by decide) rfl (Nat.le_of_ble_eq_true rfl) (by decide +kernel) (fun y9 e9 => okX8_ringOf hl (F := F) e9) (fun v24 ev24 => ?_)
              exact ab_iret (pc := 102) (by decide +kernel) rfl rfl (Nat.le_of_ble_eq_true rfl) (Nat.le_of_ble_eq_true rfl)
            · refine ab_swD (pc := 6) (tgt := 103) (dflt := 97) (lo := 0) (hi := 5) (offs := #[38, 48, 58, 68, 78, 88]) (len := 38) (by decide +kernel) (by have qg2 := ab_neN (n := 0) (by decide) g2; have qg3 := ab_neN (n := 1) (by decide) g3; have qg4 := ab_neN (n := 2) (by decide) g4; have qg5 := ab_neN (n := 3) (by decide) g5; have qg6 := ab_neN (n := 4) (by decide) g6; have qg7 := ab_neN (n := 5) (by decide) g7; omega) (by decide) ?_
              exact ab_thrN (pc := 103) (ik := 154) (is := 156) (ic := 158) (kk := 5) (text := "a PERSON has no such thing") thn_X11_154_158 (by show (RX11, 156, "a PERSON has no such thing", 5) ∈ ab_sr; decide +kernel) rfl (by decide +kernel) (by decide +kernel) (by decide +kernel) (by decide +kernel) (by decide +kernel) (by decide) (Nat.le_of_ble_eq_true rfl) (Nat.le_of_ble_eq_true rfl) (Nat.le_of_ble_eq_true rfl)
set_option maxRecDepth 100000 in
set_option maxHeartbeats 4000000 in
theorem okX11_person {l : Launch} (hl : l.stackTraces = false) {F : Nat} {x0 : Nat} {x1 : Int32} {x2 : Int32} {h : ab_H} {y : (Int32 ⊕ String)} (e : fX11_person F x0 x1 x2 h = some y) : ab_Met l mX11_person [.ref x0, .int x1, .int x2] h ((fun y : (Int32 ⊕ String) => ((y.elim (fun x => .inl (some (.int x))) (fun E => .inr E), h) : ab_R × ab_H)) y) := ab_ofS (io := (fun y : (Int32 ⊕ String) => ((y.elim (fun x => .inl (some (.int x))) (fun E => .inr E), h) : ab_R × ab_H))) (x := y) hl (by decide) rfl (Nat.le_of_ble_eq_true rfl) (wX11_person hl F x0 x1 x2 h) e
def mX11_face : ab_M := (yX11_face, cX11_face, 3, (some .int), { frames := 7, cells := 2, slots := 12, locals := 111 })
theorem iX11_face : ab_MI mX11_face 2 := ⟨kw_f773c66988, kw_62b61b7ad3, by decide +kernel⟩
theorem lk_X11_162_8 : ab_LV RX11 162 8 mX8_wearerOf 1 := ⟨RX8, rfl, iX8_wearerOf, kw_6f9fdd56c9, kw_0deb8a4514, kw_de2ddc2a66⟩
theorem lk_X11_165_8 : ab_LV RX11 165 8 mX8_hookOf 1 := ⟨RX8, rfl, iX8_hookOf, kw_e455790fbd, kw_0067924a63, kw_8689d31930⟩
def fX11_face (F : Nat) (x0 : Nat) (x1 : Int32) (x2 : Int32) (h : ab_H) : Option (Int32 ⊕ String) := ab_ck (ab_io h x0 11 = true) (ab_bx (fX11_needPerson x0 x1 h) (fun E => Sum.inr E) ((if x2 = nI 0 then ab_bd (ab_fr h x0 11 1) fun v6 => ab_bd (ab_fr h v6 8 9) fun v7 => ab_bd (ab_ia 0 h v7 x1) fun v8 => some (.inl v8) else (if x2 = nI 1 then ab_bd (ab_fr h x0 11 1) fun v9 => ab_ck (ab_io h v9 8 = true) (ab_bd (fX8_wearerOf F v9 x1 h) fun v10 => some (.inl v10)) else (if x2 = nI 2 then ab_bd (ab_fr h x0 11 1) fun v11 => ab_ck (ab_io h v11 8 = true) (ab_bd (fX8_hookOf F v11 x1 h) fun v12 => some (.inl v12)) else (if x2 = nI 3 then ab_bd (ab_fr h x0 11 1) fun v13 => ab_bd (ab_fr h x0 11 1) fun v14 => ab_bd (ab_fr h v14 8 9) fun v15 => ab_ck (ab_io h v13 8 = true) (ab_bd (fX8_sameAs F v13 v15 x1 h) fun v16 => some (.inl v16)) else some (.inr "java/util/NoSuchElementException")))))))
set_option maxRecDepth 100000 in
set_option maxHeartbeats 4000000 in
theorem wX11_face {l : Launch} (hl : l.stackTraces = false) (F : Nat) (x0 : Nat) (x1 : Int32) (x2 : Int32) (h : ab_H) : ab_S l mX11_face (fun y : (Int32 ⊕ String) => ((y.elim (fun x => .inl (some (.int x))) (fun E => .inr E), h) : ab_R × ab_H)) 0 0 (fX11_face F x0 x1 x2 h) 0 [(0, .ref x0), (1, .int x1), (2, .int x2)] [] h := by
  unfold fX11_face
  refine ab_aload_n (pc := 0) (n := 0) (i := 0) (j := 0) (by decide +kernel) rfl rfl ?_
  refine ab_iload_n (pc := 1) (n := 1) (i := 1) (j := 1) (by decide +kernel) rfl rfl ?_
  refine ab_callVt (As := [.int x1]) (st := []) (thr := (fun E => Sum.inr E)) (pc := 2) lk_X11_131_11 (fun _ => rfl) rfl (by decide) rfl (Nat.le_of_ble_eq_true rfl) (by decide +kernel) (fun y9 e9 => okX11_needPerson hl e9) ?_
  refine ab_iload_n (pc := 5) (n := 2) (i := 2) (j := 2) (by decide +kernel) rfl rfl ?_
  refine ab_swC (pc := 6) (c9 := nI 0) (off := 30) (tgt := 36) (dflt := 74) (lo := 0) (hi := 3) (offs := #[30, 40, 49, 58]) (len := 30) (by decide +kernel) (by decide) (by decide) (by decide) (by decide) (fun g2 => ?_) (fun g2 => ?_)
  · refine ab_aload_n (pc := 36) (n := 0) (i := 0) (j := 0) (by decide +kernel) rfl rfl ?_
    refine ab_getR (pc := 37) fl_X11_26_11 (by decide +kernel) (fun v6 ev6 => ?_)
    refine ab_getR (pc := 40) fl_X11_159_8 (by decide +kernel) (fun v7 ev7 => ?_)
    refine ab_iload_n (pc := 43) (n := 1) (i := 1) (j := 1) (by decide +kernel) rfl rfl ?_
    refine ab_iald (pc := 44) (by decide +kernel) (fun v8 ev8 => ?_)
    exact ab_iret (pc := 45) (by decide +kernel) rfl rfl (Nat.le_of_ble_eq_true rfl) (Nat.le_of_ble_eq_true rfl)
  · refine ab_swC (pc := 6) (c9 := nI 1) (off := 40) (tgt := 46) (dflt := 74) (lo := 0) (hi := 3) (offs := #[30, 40, 49, 58]) (len := 30) (by decide +kernel) (by decide) (by decide) (by decide) (by decide) (fun g3 => ?_) (fun g3 => ?_)
    · refine ab_aload_n (pc := 46) (n := 0) (i := 0) (j := 0) (by decide +kernel) rfl rfl ?_
      refine ab_getR (pc := 47) fl_X11_26_11 (by decide +kernel) (fun v9 ev9 => ?_)
      refine ab_iload_n (pc := 50) (n := 1) (i := 1) (j := 1) (by decide +kernel) rfl rfl ?_
      refine ab_callVi (As := [.int x1]) (st := []) (pc := 51) lk_X11_162_8 rfl rfl rfl (by decide) rfl (Nat.le_of_ble_eq_true rfl) (by decide +kernel) (fun y9 e9 => okX8_wearerOf hl (F := F) e9) (fun v10 ev10 => ?_)
      exact ab_iret (pc := 54) (by decide +kernel) rfl rfl (Nat.le_of_ble_eq_true rfl) (Nat.le_of_ble_eq_true rfl)
    · refine ab_swC (pc := 6) (c9 := nI 2) (off := 49) (tgt := 55) (dflt := 74) (lo := 0) (hi := 3) (offs := #[30, 40, 49, 58]) (len := 30) (by decide +kernel) (by decide) (by decide) (by decide) (by decide) (fun g4 => ?_) (fun g4 => ?_)
      · refine ab_aload_n (pc := 55) (n := 0) (i := 0) (j := 0) (by decide +kernel) rfl rfl ?_
        refine ab_getR (pc := 56) fl_X11_26_11 (by decide +kernel) (fun v11 ev11 => ?_)
        refine ab_iload_n (pc := 59) (n := 1) (i := 1) (j := 1) (by decide +kernel) rfl rfl ?_
        refine ab_callVi (As := [.int x1]) (st := []) (pc := 60) lk_X11_165_8 rfl rfl rfl (by decide) rfl (Nat.le_of_ble_eq_true rfl) (by decide +kernel) (fun y9 e9 => okX8_hookOf hl (F := F) e9) (fun v12 ev12 => ?_)
        exact ab_iret (pc := 63) (by decide +kernel) rfl rfl (Nat.le_of_ble_eq_true rfl) (Nat.le_of_ble_eq_true rfl)
      · refine ab_swC (pc := 6) (c9 := nI 3) (off := 58) (tgt := 64) (dflt := 74) (lo := 0) (hi := 3) (offs := #[30, 40, 49, 58]) (len := 30) (by decide +kernel) (by decide) (by decide) (by decide) (by decide) (fun g5 => ?_) (fun g5 => ?_)
        · refine ab_aload_n (pc := 64) (n := 0) (i := 0) (j := 0) (by decide +kernel) rfl rfl ?_
          refine ab_getR (pc := 65) fl_X11_26_11 (by decide +kernel) (fun v13 ev13 => ?_)
          refine ab_aload_n (pc := 68) (n := 0) (i := 0) (j := 0) (by decide +kernel) rfl rfl ?_
          refine ab_getR (pc := 69) fl_X11_26_11 (by decide +kernel) (fun v14 ev14 => ?_)
          refine ab_getR (pc := 72) fl_X11_159_8 (by decide +kernel) (fun v15 ev15 => ?_)
          refine ab_iload_n (pc := 75) (n := 1) (i := 1) (j := 1) (by decide +kernel) rfl rfl ?_
          refine ab_callVi (As := [.ref v15, .int x1]) (st := []) (pc := 76) lk_X11_168_8 rfl rfl rfl (by decide) rfl (Nat.le_of_ble_eq_true rfl) (by decide +kernel) (fun y9 e9 => okX8_sameAs hl (F := F) e9) (fun v16 ev16 => ?_)
          exact ab_iret (pc := 79) (by decide +kernel) rfl rfl (Nat.le_of_ble_eq_true rfl) (Nat.le_of_ble_eq_true rfl)
        · refine ab_swD (pc := 6) (tgt := 80) (dflt := 74) (lo := 0) (hi := 3) (offs := #[30, 40, 49, 58]) (len := 30) (by decide +kernel) (by have qg2 := ab_neN (n := 0) (by decide) g2; have qg3 := ab_neN (n := 1) (by decide) g3; have qg4 := ab_neN (n := 2) (by decide) g4; have qg5 := ab_neN (n := 3) (by decide) g5; omega) (by decide) ?_
          exact ab_thrN (pc := 80) (ik := 154) (is := 172) (ic := 158) (kk := 6) (text := "a FACE has no such thing") thn_X11_154_158 (by show (RX11, 172, "a FACE has no such thing", 6) ∈ ab_sr; decide +kernel) rfl (by decide +kernel) (by decide +kernel) (by decide +kernel) (by decide +kernel) (by decide +kernel) (by decide) (Nat.le_of_ble_eq_true rfl) (Nat.le_of_ble_eq_true rfl) (Nat.le_of_ble_eq_true rfl)
set_option maxRecDepth 100000 in
set_option maxHeartbeats 4000000 in
theorem okX11_face {l : Launch} (hl : l.stackTraces = false) {F : Nat} {x0 : Nat} {x1 : Int32} {x2 : Int32} {h : ab_H} {y : (Int32 ⊕ String)} (e : fX11_face F x0 x1 x2 h = some y) : ab_Met l mX11_face [.ref x0, .int x1, .int x2] h ((fun y : (Int32 ⊕ String) => ((y.elim (fun x => .inl (some (.int x))) (fun E => .inr E), h) : ab_R × ab_H)) y) := ab_ofS (io := (fun y : (Int32 ⊕ String) => ((y.elim (fun x => .inl (some (.int x))) (fun E => .inr E), h) : ab_R × ab_H))) (x := y) hl (by decide) rfl (Nat.le_of_ble_eq_true rfl) (wX11_face hl F x0 x1 x2 h) e
def mX11_log : ab_M := (yX11_log, cX11_log, 3, (some .int), { frames := 6, cells := 1, slots := 6, locals := 90 })
theorem iX11_log : ab_MI mX11_log 2 := ⟨kw_acf01c2bc8, kw_62b61b7ad3, by decide +kernel⟩
def fX11_log (x0 : Nat) (x1 : Int32) (x2 : Int32) (h : ab_H) : Option (Int32 ⊕ String) := ab_jn (κ := Option (Int32 ⊕ String)) (some (.inr "java/util/NoSuchElementException")) fun j1 => (if x2 < 0 then j1 else (if x2 ≤ (nI 4) then ab_bd (ab_fr h x0 11 1) fun v4 => ab_bd (ab_fr h v4 8 8) fun v5 => ab_ck (ab_io h v5 4 = true) (ab_bd (fX4_cell v5 x1 x2 h) fun v6 => some (.inl v6)) else j1))
set_option maxRecDepth 100000 in
set_option maxHeartbeats 4000000 in
theorem wX11_log {l : Launch} (hl : l.stackTraces = false) (x0 : Nat) (x1 : Int32) (x2 : Int32) (h : ab_H) : ab_S l mX11_log (fun y : (Int32 ⊕ String) => ((y.elim (fun x => .inl (some (.int x))) (fun E => .inr E), h) : ab_R × ab_H)) 0 0 (fX11_log x0 x1 x2 h) 0 [(0, .ref x0), (1, .int x1), (2, .int x2)] [] h := by
  unfold fX11_log
  refine ab_iload_n (pc := 0) (n := 2) (i := 2) (j := 2) (by decide +kernel) rfl rfl ?_
  refine ab_jr (fun k9 : Option (Int32 ⊕ String) => ab_S l mX11_log (fun y : (Int32 ⊕ String) => ((y.elim (fun x => .inl (some (.int x))) (fun E => .inr E), h) : ab_R × ab_H)) 0 0 (k9) 9 [] [] h) ?_ (fun j1 hj1 => ?_)
  · exact ab_thrNW (pc := 9) (ik := 154) (is := 360) (ic := 158) (kk := 20) (text := "THE LOG has no such thing") thn_X11_154_158 (by show (RX11, 360, "THE LOG has no such thing", 20) ∈ ab_sr; decide +kernel) rfl (by decide +kernel) (by decide +kernel) (by decide +kernel) (by decide +kernel) (by decide +kernel) (by decide) (Nat.le_of_ble_eq_true rfl) (Nat.le_of_ble_eq_true rfl) (Nat.le_of_ble_eq_true rfl)
  · refine ab_if_lt (off := 8) (pc := 1) (tgt := 9) (by decide +kernel) (by decide) (fun g2 => ?_) (fun g2 => ?_)
    · refine ab_few [] (lv' := []) rfl ?_
      exact hj1
    · refine ab_iload_n (pc := 4) (n := 2) (i := 2) (j := 2) (by decide +kernel) rfl rfl ?_
      refine ab_iconst (pc := 5) (n := 4) (v := nI 4) (by decide +kernel) rfl ?_
      refine ab_icmp_le (off := 14) (pc := 6) (tgt := 20) (by decide +kernel) (by decide) (fun g3 => ?_) (fun g3 => ?_)
      · refine ab_aload_n (pc := 20) (n := 0) (i := 0) (j := 0) (by decide +kernel) rfl rfl ?_
        refine ab_getR (pc := 21) fl_X11_26_11 (by decide +kernel) (fun v4 ev4 => ?_)
        refine ab_getR (pc := 24) fl_X11_348_8 (by decide +kernel) (fun v5 ev5 => ?_)
        refine ab_iload_n (pc := 27) (n := 1) (i := 1) (j := 1) (by decide +kernel) rfl rfl ?_
        refine ab_iload_n (pc := 28) (n := 2) (i := 2) (j := 2) (by decide +kernel) rfl rfl ?_
        refine ab_callVi (As := [.int x1, .int x2]) (st := []) (pc := 29) lk_X11_357_4 rfl rfl rfl (by decide) rfl (Nat.le_of_ble_eq_true rfl) (by decide +kernel) (fun y9 e9 => okX4_cell hl e9) (fun v6 ev6 => ?_)
        exact ab_iret (pc := 32) (by decide +kernel) rfl rfl (Nat.le_of_ble_eq_true rfl) (Nat.le_of_ble_eq_true rfl)
      · refine ab_few [] (lv' := []) rfl ?_
        exact hj1
set_option maxRecDepth 100000 in
set_option maxHeartbeats 4000000 in
theorem okX11_log {l : Launch} (hl : l.stackTraces = false) {x0 : Nat} {x1 : Int32} {x2 : Int32} {h : ab_H} {y : (Int32 ⊕ String)} (e : fX11_log x0 x1 x2 h = some y) : ab_Met l mX11_log [.ref x0, .int x1, .int x2] h ((fun y : (Int32 ⊕ String) => ((y.elim (fun x => .inl (some (.int x))) (fun E => .inr E), h) : ab_R × ab_H)) y) := ab_ofS (io := (fun y : (Int32 ⊕ String) => ((y.elim (fun x => .inl (some (.int x))) (fun E => .inr E), h) : ab_R × ab_H))) (x := y) hl (by decide) rfl (Nat.le_of_ble_eq_true rfl) (wX11_log hl x0 x1 x2 h) e
