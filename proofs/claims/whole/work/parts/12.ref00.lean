/-! ===== reference (by program, decomp.py) ===== -/
def mX12_thrown : ab_M := (yX12_thrown, cX12_thrown, 1, (some .int), { frames := 0, cells := 0, slots := 0, locals := 0 })
theorem iX12_thrown : ab_MI mX12_thrown 0 := ⟨kw_11af59c785, kw_30b3f7d7c6, by decide +kernel⟩
def fX12_thrown (x0 : Nat) (h : ab_H) : Option Int32 := ab_bd (ab_fi h x0 12 0) fun v1 => some v1
set_option maxRecDepth 100000 in
set_option maxHeartbeats 4000000 in
theorem wX12_thrown {l : Launch} (hl : l.stackTraces = false) (x0 : Nat) (h : ab_H) : ab_S l mX12_thrown (fun y : Int32 => ((.inl (some (.int y)), h) : ab_R × ab_H)) 0 0 (fX12_thrown x0 h) 0 [(0, .ref x0)] [] h := by
  unfold fX12_thrown
  refine ab_aload_n (pc := 0) (n := 0) (i := 0) (j := 0) (by decide +kernel) rfl rfl ?_
  refine ab_getI (pc := 1) fl_X12_50_12 (by decide +kernel) (fun v1 ev1 => ?_)
  exact ab_iret (pc := 4) (by decide +kernel) rfl rfl (Nat.le_of_ble_eq_true rfl) (Nat.le_of_ble_eq_true rfl)
set_option maxRecDepth 100000 in
set_option maxHeartbeats 4000000 in
theorem okX12_thrown {l : Launch} (hl : l.stackTraces = false) {x0 : Nat} {h : ab_H} {y : Int32} (e : fX12_thrown x0 h = some y) : ab_Met l mX12_thrown [.ref x0] h (.inl (some (.int y)), h) := ab_ofS (io := (fun y : Int32 => ((.inl (some (.int y)), h) : ab_R × ab_H))) (x := y) hl (by decide) rfl (Nat.le_of_ble_eq_true rfl) (wX12_thrown hl x0 h) e
def mX12_isIn : ab_M := (yX12_isIn, cX12_isIn, 3, (some .boolean), { frames := 0, cells := 0, slots := 0, locals := 0 })
theorem iX12_isIn : ab_MI mX12_isIn 3 := ⟨kw_4d871a4fc2, kw_30b3f7d7c6, by decide +kernel⟩
def fX12_isIn (x0 : Int32) (x1 : Int32) (x2 : Int32) (h : ab_H) : Option Int32 := (if x0 < x1 then some (nI 0) else (if x0 ≤ x2 then some (nI 1) else some (nI 0)))
set_option maxRecDepth 100000 in
set_option maxHeartbeats 4000000 in
theorem wX12_isIn {l : Launch} (hl : l.stackTraces = false) (x0 : Int32) (x1 : Int32) (x2 : Int32) (h : ab_H) : ab_S l mX12_isIn (fun y : Int32 => ((.inl (some (.int y)), h) : ab_R × ab_H)) 0 0 (fX12_isIn x0 x1 x2 h) 0 [(0, .int x0), (1, .int x1), (2, .int x2)] [] h := by
  unfold fX12_isIn
  refine ab_iload_n (pc := 0) (n := 0) (i := 0) (j := 0) (by decide +kernel) rfl rfl ?_
  refine ab_iload_n (pc := 1) (n := 1) (i := 1) (j := 1) (by decide +kernel) rfl rfl ?_
  refine ab_icmp_lt (off := 12) (pc := 2) (tgt := 14) (by decide +kernel) (by decide) (fun g1 => ?_) (fun g1 => ?_)
  · refine ab_iconst (pc := 14) (n := 0) (v := nI 0) (by decide +kernel) rfl ?_
    exact ab_zret (pc := 15) (by decide +kernel) rfl ab_bl0.1 rfl (Nat.le_of_ble_eq_true rfl) (Nat.le_of_ble_eq_true rfl)
  · refine ab_iload_n (pc := 5) (n := 0) (i := 0) (j := 0) (by decide +kernel) rfl rfl ?_
    refine ab_iload_n (pc := 6) (n := 2) (i := 2) (j := 2) (by decide +kernel) rfl rfl ?_
    refine ab_icmp_gt (off := 7) (pc := 7) (tgt := 14) (by decide +kernel) (by decide) (fun g2 => ?_) (fun g2 => ?_)
    · refine ab_iconst (pc := 10) (n := 1) (v := nI 1) (by decide +kernel) rfl ?_
      refine ab_goto (pc := 11) (off := 4) (tgt := 15) (by decide +kernel) (by decide) ?_
      exact ab_zret (pc := 15) (by decide +kernel) rfl ab_bl1.1 rfl (Nat.le_of_ble_eq_true rfl) (Nat.le_of_ble_eq_true rfl)
    · refine ab_iconst (pc := 14) (n := 0) (v := nI 0) (by decide +kernel) rfl ?_
      exact ab_zret (pc := 15) (by decide +kernel) rfl ab_bl0.1 rfl (Nat.le_of_ble_eq_true rfl) (Nat.le_of_ble_eq_true rfl)
set_option maxRecDepth 100000 in
set_option maxHeartbeats 4000000 in
theorem okX12_isIn {l : Launch} (hl : l.stackTraces = false) {x0 : Int32} {x1 : Int32} {x2 : Int32} {h : ab_H} {y : Int32} (e : fX12_isIn x0 x1 x2 h = some y) : ab_Met l mX12_isIn [.int x0, .int x1, .int x2] h (.inl (some (.int y)), h) := ab_ofS (io := (fun y : Int32 => ((.inl (some (.int y)), h) : ab_R × ab_H))) (x := y) hl (by decide) rfl (Nat.le_of_ble_eq_true rfl) (wX12_isIn hl x0 x1 x2 h) e
def mX12_lesser : ab_M := (yX12_lesser, cX12_lesser, 2, (some .int), { frames := 0, cells := 0, slots := 0, locals := 0 })
theorem iX12_lesser : ab_MI mX12_lesser 2 := ⟨kw_755de892af, kw_30b3f7d7c6, by decide +kernel⟩
def fX12_lesser (x0 : Int32) (x1 : Int32) (h : ab_H) : Option Int32 := (if x0 < x1 then some x0 else some x1)
set_option maxRecDepth 100000 in
set_option maxHeartbeats 4000000 in
theorem wX12_lesser {l : Launch} (hl : l.stackTraces = false) (x0 : Int32) (x1 : Int32) (h : ab_H) : ab_S l mX12_lesser (fun y : Int32 => ((.inl (some (.int y)), h) : ab_R × ab_H)) 0 0 (fX12_lesser x0 x1 h) 0 [(0, .int x0), (1, .int x1)] [] h := by
  unfold fX12_lesser
  refine ab_iload_n (pc := 0) (n := 0) (i := 0) (j := 0) (by decide +kernel) rfl rfl ?_
  refine ab_iload_n (pc := 1) (n := 1) (i := 1) (j := 1) (by decide +kernel) rfl rfl ?_
  refine ab_icmp_ge (off := 7) (pc := 2) (tgt := 9) (by decide +kernel) (by decide) (fun g1 => ?_) (fun g1 => ?_)
  · refine ab_iload_n (pc := 5) (n := 0) (i := 0) (j := 0) (by decide +kernel) rfl rfl ?_
    refine ab_goto (pc := 6) (off := 4) (tgt := 10) (by decide +kernel) (by decide) ?_
    exact ab_iret (pc := 10) (by decide +kernel) rfl rfl (Nat.le_of_ble_eq_true rfl) (Nat.le_of_ble_eq_true rfl)
  · refine ab_iload_n (pc := 9) (n := 1) (i := 1) (j := 1) (by decide +kernel) rfl rfl ?_
    exact ab_iret (pc := 10) (by decide +kernel) rfl rfl (Nat.le_of_ble_eq_true rfl) (Nat.le_of_ble_eq_true rfl)
set_option maxRecDepth 100000 in
set_option maxHeartbeats 4000000 in
theorem okX12_lesser {l : Launch} (hl : l.stackTraces = false) {x0 : Int32} {x1 : Int32} {h : ab_H} {y : Int32} (e : fX12_lesser x0 x1 h = some y) : ab_Met l mX12_lesser [.int x0, .int x1] h (.inl (some (.int y)), h) := ab_ofS (io := (fun y : Int32 => ((.inl (some (.int y)), h) : ab_R × ab_H))) (x := y) hl (by decide) rfl (Nat.le_of_ble_eq_true rfl) (wX12_lesser hl x0 x1 h) e
def mX12_greater : ab_M := (yX12_greater, cX12_greater, 2, (some .int), { frames := 0, cells := 0, slots := 0, locals := 0 })
theorem iX12_greater : ab_MI mX12_greater 2 := ⟨kw_412be09eff, kw_30b3f7d7c6, by decide +kernel⟩
def fX12_greater (x0 : Int32) (x1 : Int32) (h : ab_H) : Option Int32 := (if x0 ≤ x1 then some x1 else some x0)
set_option maxRecDepth 100000 in
set_option maxHeartbeats 4000000 in
theorem wX12_greater {l : Launch} (hl : l.stackTraces = false) (x0 : Int32) (x1 : Int32) (h : ab_H) : ab_S l mX12_greater (fun y : Int32 => ((.inl (some (.int y)), h) : ab_R × ab_H)) 0 0 (fX12_greater x0 x1 h) 0 [(0, .int x0), (1, .int x1)] [] h := by
  unfold fX12_greater
  refine ab_iload_n (pc := 0) (n := 0) (i := 0) (j := 0) (by decide +kernel) rfl rfl ?_
  refine ab_iload_n (pc := 1) (n := 1) (i := 1) (j := 1) (by decide +kernel) rfl rfl ?_
  refine ab_icmp_le (off := 7) (pc := 2) (tgt := 9) (by decide +kernel) (by decide) (fun g1 => ?_) (fun g1 => ?_)
  · refine ab_iload_n (pc := 9) (n := 1) (i := 1) (j := 1) (by decide +kernel) rfl rfl ?_
    exact ab_iret (pc := 10) (by decide +kernel) rfl rfl (Nat.le_of_ble_eq_true rfl) (Nat.le_of_ble_eq_true rfl)
  · refine ab_iload_n (pc := 5) (n := 0) (i := 0) (j := 0) (by decide +kernel) rfl rfl ?_
    refine ab_goto (pc := 6) (off := 4) (tgt := 10) (by decide +kernel) (by decide) ?_
    exact ab_iret (pc := 10) (by decide +kernel) rfl rfl (Nat.le_of_ble_eq_true rfl) (Nat.le_of_ble_eq_true rfl)
set_option maxRecDepth 100000 in
set_option maxHeartbeats 4000000 in
theorem okX12_greater {l : Launch} (hl : l.stackTraces = false) {x0 : Int32} {x1 : Int32} {h : ab_H} {y : Int32} (e : fX12_greater x0 x1 h = some y) : ab_Met l mX12_greater [.int x0, .int x1] h (.inl (some (.int y)), h) := ab_ofS (io := (fun y : Int32 => ((.inl (some (.int y)), h) : ab_R × ab_H))) (x := y) hl (by decide) rfl (Nat.le_of_ble_eq_true rfl) (wX12_greater hl x0 x1 h) e
def mX12_isOf : ab_M := (yX12_isOf, cX12_isOf, 2, (some .boolean), { frames := 0, cells := 0, slots := 0, locals := 0 })
theorem iX12_isOf : ab_MI mX12_isOf 2 := ⟨kw_64073513b1, kw_30b3f7d7c6, by decide +kernel⟩
def fX12_isOf (x0 : Int32) (x1 : Int32) (h : ab_H) : Option Int32 := (if ((x0 >>> (x1 &&& 31)) &&& (nI 1)) = (nI 1) then some (nI 1) else some (nI 0))
set_option maxRecDepth 100000 in
set_option maxHeartbeats 4000000 in
theorem wX12_isOf {l : Launch} (hl : l.stackTraces = false) (x0 : Int32) (x1 : Int32) (h : ab_H) : ab_S l mX12_isOf (fun y : Int32 => ((.inl (some (.int y)), h) : ab_R × ab_H)) 0 0 (fX12_isOf x0 x1 h) 0 [(0, .int x0), (1, .int x1)] [] h := by
  unfold fX12_isOf
  refine ab_iload_n (pc := 0) (n := 0) (i := 0) (j := 0) (by decide +kernel) rfl rfl ?_
  refine ab_iload_n (pc := 1) (n := 1) (i := 1) (j := 1) (by decide +kernel) rfl rfl ?_
  refine ab_ishr (pc := 2) (by decide +kernel) ?_
  refine ab_iconst (pc := 3) (n := 1) (v := nI 1) (by decide +kernel) rfl ?_
  refine ab_iand (pc := 4) (by decide +kernel) ?_
  refine ab_iconst (pc := 5) (n := 1) (v := nI 1) (by decide +kernel) rfl ?_
  refine ab_icmp_ne (off := 7) (pc := 6) (tgt := 13) (by decide +kernel) (by decide) (fun g1 => ?_) (fun g1 => ?_)
  · refine ab_iconst (pc := 9) (n := 1) (v := nI 1) (by decide +kernel) rfl ?_
    refine ab_goto (pc := 10) (off := 4) (tgt := 14) (by decide +kernel) (by decide) ?_
    exact ab_zret (pc := 14) (by decide +kernel) rfl ab_bl1.1 rfl (Nat.le_of_ble_eq_true rfl) (Nat.le_of_ble_eq_true rfl)
  · refine ab_iconst (pc := 13) (n := 0) (v := nI 0) (by decide +kernel) rfl ?_
    exact ab_zret (pc := 14) (by decide +kernel) rfl ab_bl0.1 rfl (Nat.le_of_ble_eq_true rfl) (Nat.le_of_ble_eq_true rfl)
set_option maxRecDepth 100000 in
set_option maxHeartbeats 4000000 in
theorem okX12_isOf {l : Launch} (hl : l.stackTraces = false) {x0 : Int32} {x1 : Int32} {h : ab_H} {y : Int32} (e : fX12_isOf x0 x1 h = some y) : ab_Met l mX12_isOf [.int x0, .int x1] h (.inl (some (.int y)), h) := ab_ofS (io := (fun y : Int32 => ((.inl (some (.int y)), h) : ab_R × ab_H))) (x := y) hl (by decide) rfl (Nat.le_of_ble_eq_true rfl) (wX12_isOf hl x0 x1 h) e
def mX12_bits : ab_M := (yX12_bits, cX12_bits, 3, (some .int), { frames := 0, cells := 0, slots := 0, locals := 0 })
theorem iX12_bits : ab_MI mX12_bits 1 := ⟨kw_05134ea3ae, kw_30b3f7d7c6, by decide +kernel⟩
def fX12_bits_4 (x0 : Int32) (h : ab_H) : Nat → Int32 → Int32 → Option Int32
  | 0, _, _ => none
  | n + 1, x1, x2 => (if x2 < (nI 31) then fX12_bits_4 x0 h n (x1 + ((x0 >>> (x2 &&& 31)) &&& (nI 1))) (x2 + nI 1) else some x1)
def fX12_bits (F : Nat) (x0 : Int32) (h : ab_H) : Option Int32 := fX12_bits_4 x0 h F (nI 0) (nI 0)
set_option maxRecDepth 100000 in
set_option maxHeartbeats 4000000 in
theorem lX12_bits_4 {l : Launch} (hl : l.stackTraces = false) (x0 : Int32) (h : ab_H) : ∀ (n : Nat) (x1 : Int32) (x2 : Int32), ab_S l mX12_bits (fun y : Int32 => ((.inl (some (.int y)), h) : ab_R × ab_H)) 0 0 (fX12_bits_4 x0 h n x1 x2) 4 [(0, .int x0), (1, .int x1), (2, .int x2)] [] h := by
  intro n
  induction n with
  | zero =>
    intro x1 x2
    exact ab_none
  | succ n ih =>
    intro x1 x2
    rw [fX12_bits_4]
    refine ab_iload_n (pc := 4) (n := 2) (i := 2) (j := 2) (by decide +kernel) rfl rfl ?_
    refine ab_bipush (pc := 5) (n := 31) (v := nI 31) (by decide +kernel) (by decide) ?_
    refine ab_icmp_ge (off := 17) (pc := 7) (tgt := 24) (by decide +kernel) (by decide) (fun g1 => ?_) (fun g1 => ?_)
    · refine ab_iload_n (pc := 10) (n := 1) (i := 1) (j := 1) (by decide +kernel) rfl rfl ?_
      refine ab_iload_n (pc := 11) (n := 0) (i := 0) (j := 0) (by decide +kernel) rfl rfl ?_
      refine ab_iload_n (pc := 12) (n := 2) (i := 2) (j := 2) (by decide +kernel) rfl rfl ?_
      refine ab_ishr (pc := 13) (by decide +kernel) ?_
      refine ab_iconst (pc := 14) (n := 1) (v := nI 1) (by decide +kernel) rfl ?_
      refine ab_iand (pc := 15) (by decide +kernel) ?_
      refine ab_iadd (pc := 16) (by decide +kernel) ?_
      refine ab_istore_n (pc := 17) (n := 1) (i := 1) (lv' := [(0, .int x0), (1, .int (x1 + ((x0 >>> (x2 &&& 31)) &&& (nI 1)))), (2, .int x2)]) (by decide +kernel) rfl (Nat.le_of_ble_eq_true rfl) rfl rfl ?_
      refine ab_iinc (pc := 18) (i := 2) (n := 1) (j := 2) (d := nI 1) (lv' := [(0, .int x0), (1, .int (x1 + ((x0 >>> (x2 &&& 31)) &&& (nI 1)))), (2, .int (x2 + nI 1))]) (by decide +kernel) rfl rfl (Nat.le_of_ble_eq_true rfl) rfl rfl ?_
      refine ab_goto (pc := 21) (off := (-17)) (tgt := 4) (by decide +kernel) (by decide) ?_
      exact ih (x1 + ((x0 >>> (x2 &&& 31)) &&& (nI 1))) (x2 + nI 1)
    · refine ab_iload_n (pc := 24) (n := 1) (i := 1) (j := 1) (by decide +kernel) rfl rfl ?_
      exact ab_iret (pc := 25) (by decide +kernel) rfl rfl (Nat.le_of_ble_eq_true rfl) (Nat.le_of_ble_eq_true rfl)
set_option maxRecDepth 100000 in
set_option maxHeartbeats 4000000 in
theorem wX12_bits {l : Launch} (hl : l.stackTraces = false) (F : Nat) (x0 : Int32) (h : ab_H) : ab_S l mX12_bits (fun y : Int32 => ((.inl (some (.int y)), h) : ab_R × ab_H)) 0 0 (fX12_bits F x0 h) 0 [(0, .int x0)] [] h := by
  unfold fX12_bits
  refine ab_iconst (pc := 0) (n := 0) (v := nI 0) (by decide +kernel) rfl ?_
  refine ab_istore_n (pc := 1) (n := 1) (i := 1) (lv' := [(0, .int x0), (1, .int (nI 0))]) (by decide +kernel) rfl (Nat.le_of_ble_eq_true rfl) rfl rfl ?_
  refine ab_iconst (pc := 2) (n := 0) (v := nI 0) (by decide +kernel) rfl ?_
  refine ab_istore_n (pc := 3) (n := 2) (i := 2) (lv' := [(0, .int x0), (1, .int (nI 0)), (2, .int (nI 0))]) (by decide +kernel) rfl (Nat.le_of_ble_eq_true rfl) rfl rfl ?_
  refine lX12_bits_4 hl x0 h F (nI 0) (nI 0)
set_option maxRecDepth 100000 in
set_option maxHeartbeats 4000000 in
theorem okX12_bits {l : Launch} (hl : l.stackTraces = false) {F : Nat} {x0 : Int32} {h : ab_H} {y : Int32} (e : fX12_bits F x0 h = some y) : ab_Met l mX12_bits [.int x0] h (.inl (some (.int y)), h) := ab_ofS (io := (fun y : Int32 => ((.inl (some (.int y)), h) : ab_R × ab_H))) (x := y) hl (by decide) rfl (Nat.le_of_ble_eq_true rfl) (wX12_bits hl F x0 h) e
def mX12_of : ab_M := (yX12_of, cX12_of, 3, (some .int), { frames := 0, cells := 0, slots := 0, locals := 0 })
theorem iX12_of : ab_MI mX12_of 2 := ⟨kw_23da93a77e, kw_30b3f7d7c6, by decide +kernel⟩
def fX12_of (x0 : Nat) (x1 : Int32) (x2 : Int32) (h : ab_H) : Option Int32 := ab_bd (ab_fr h x0 12 1) fun v1 => ab_bd (ab_ia 0 h v1 (((nI 12) + ((nI 6) * x1)) + x2)) fun v2 => some v2
set_option maxRecDepth 100000 in
set_option maxHeartbeats 4000000 in
theorem wX12_of {l : Launch} (hl : l.stackTraces = false) (x0 : Nat) (x1 : Int32) (x2 : Int32) (h : ab_H) : ab_S l mX12_of (fun y : Int32 => ((.inl (some (.int y)), h) : ab_R × ab_H)) 0 0 (fX12_of x0 x1 x2 h) 0 [(0, .ref x0), (1, .int x1), (2, .int x2)] [] h := by
  unfold fX12_of
  refine ab_aload_n (pc := 0) (n := 0) (i := 0) (j := 0) (by decide +kernel) rfl rfl ?_
  refine ab_getR (pc := 1) fl_X12_7_12 (by decide +kernel) (fun v1 ev1 => ?_)
  refine ab_bipush (pc := 4) (n := 12) (v := nI 12) (by decide +kernel) (by decide) ?_
  refine ab_bipush (pc := 6) (n := 6) (v := nI 6) (by decide +kernel) (by decide) ?_
  refine ab_iload_n (pc := 8) (n := 1) (i := 1) (j := 1) (by decide +kernel) rfl rfl ?_
  refine ab_imul (pc := 9) (by decide +kernel) ?_
  refine ab_iadd (pc := 10) (by decide +kernel) ?_
  refine ab_iload_n (pc := 11) (n := 2) (i := 2) (j := 2) (by decide +kernel) rfl rfl ?_
  refine ab_iadd (pc := 12) (by decide +kernel) ?_
  refine ab_iald (pc := 13) (by decide +kernel) (fun v2 ev2 => ?_)
  exact ab_iret (pc := 14) (by decide +kernel) rfl rfl (Nat.le_of_ble_eq_true rfl) (Nat.le_of_ble_eq_true rfl)
set_option maxRecDepth 100000 in
set_option maxHeartbeats 4000000 in
theorem okX12_of {l : Launch} (hl : l.stackTraces = false) {x0 : Nat} {x1 : Int32} {x2 : Int32} {h : ab_H} {y : Int32} (e : fX12_of x0 x1 x2 h = some y) : ab_Met l mX12_of [.ref x0, .int x1, .int x2] h (.inl (some (.int y)), h) := ab_ofS (io := (fun y : Int32 => ((.inl (some (.int y)), h) : ab_R × ab_H))) (x := y) hl (by decide) rfl (Nat.le_of_ble_eq_true rfl) (wX12_of hl x0 x1 x2 h) e
def mX12_has : ab_M := (yX12_has, cX12_has, 4, none, { frames := 0, cells := 0, slots := 0, locals := 0 })
theorem iX12_has : ab_MI mX12_has 3 := ⟨kw_a21108d11c, kw_30b3f7d7c6, by decide +kernel⟩
def fX12_has (x0 : Nat) (x1 : Int32) (x2 : Int32) (x3 : Int32) (h : ab_H) : Option ab_H := ab_bd (ab_fr h x0 12 1) fun v1 => ab_bd (ab_iw 0 h v1 (((nI 12) + ((nI 6) * x1)) + x2) x3) fun h2 => some h2
set_option maxRecDepth 100000 in
set_option maxHeartbeats 4000000 in
theorem wX12_has {l : Launch} (hl : l.stackTraces = false) (x0 : Nat) (x1 : Int32) (x2 : Int32) (x3 : Int32) (h : ab_H) : ab_S l mX12_has (fun y : ab_H => ((.inl none, y) : ab_R × ab_H)) 0 0 (fX12_has x0 x1 x2 x3 h) 0 [(0, .ref x0), (1, .int x1), (2, .int x2), (3, .int x3)] [] h := by
  unfold fX12_has
  refine ab_aload_n (pc := 0) (n := 0) (i := 0) (j := 0) (by decide +kernel) rfl rfl ?_
  refine ab_getR (pc := 1) fl_X12_7_12 (by decide +kernel) (fun v1 ev1 => ?_)
  refine ab_bipush (pc := 4) (n := 12) (v := nI 12) (by decide +kernel) (by decide) ?_
  refine ab_bipush (pc := 6) (n := 6) (v := nI 6) (by decide +kernel) (by decide) ?_
  refine ab_iload_n (pc := 8) (n := 1) (i := 1) (j := 1) (by decide +kernel) rfl rfl ?_
  refine ab_imul (pc := 9) (by decide +kernel) ?_
  refine ab_iadd (pc := 10) (by decide +kernel) ?_
  refine ab_iload_n (pc := 11) (n := 2) (i := 2) (j := 2) (by decide +kernel) rfl rfl ?_
  refine ab_iadd (pc := 12) (by decide +kernel) ?_
  refine ab_iload_n (pc := 13) (n := 3) (i := 3) (j := 3) (by decide +kernel) rfl rfl ?_
  refine ab_iast (pc := 14) (by decide +kernel) (fun h2 eh2 => ?_)
  exact ab_vret (pc := 15) (by decide +kernel) rfl rfl (Nat.le_of_ble_eq_true rfl) (Nat.le_of_ble_eq_true rfl)
set_option maxRecDepth 100000 in
set_option maxHeartbeats 4000000 in
theorem okX12_has {l : Launch} (hl : l.stackTraces = false) {x0 : Nat} {x1 : Int32} {x2 : Int32} {x3 : Int32} {h : ab_H} {y : ab_H} (e : fX12_has x0 x1 x2 x3 h = some y) : ab_Met l mX12_has [.ref x0, .int x1, .int x2, .int x3] h (.inl none, y) := ab_ofS (io := (fun y : ab_H => ((.inl none, y) : ab_R × ab_H))) (x := y) hl (by decide) rfl (Nat.le_of_ble_eq_true rfl) (wX12_has hl x0 x1 x2 x3 h) e
def mX12_isPerson : ab_M := (yX12_isPerson, cX12_isPerson, 2, (some .boolean), { frames := 1, cells := 0, slots := 0, locals := 22 })
theorem iX12_isPerson : ab_MI mX12_isPerson 1 := ⟨kw_a1855671f5, kw_30b3f7d7c6, by decide +kernel⟩
theorem lk_X12_53 : ab_LS RX12 53 mX12_isIn 3 := ⟨iX12_isIn, kw_9e0dc1c65a, kw_ca4392cf3b⟩
def fX12_isPerson (x0 : Nat) (x1 : Int32) (h : ab_H) : Option Int32 := ab_bd (ab_fr h x0 12 1) fun v1 => ab_bd (ab_ia 0 h v1 (nI 3)) fun v2 => ab_bd (fX12_isIn x1 (nI 0) (v2 - (nI 1)) h) fun v3 => ab_cb v3 (some v3)
set_option maxRecDepth 100000 in
set_option maxHeartbeats 4000000 in
theorem wX12_isPerson {l : Launch} (hl : l.stackTraces = false) (x0 : Nat) (x1 : Int32) (h : ab_H) : ab_S l mX12_isPerson (fun y : Int32 => ((.inl (some (.int y)), h) : ab_R × ab_H)) 0 0 (fX12_isPerson x0 x1 h) 0 [(0, .ref x0), (1, .int x1)] [] h := by
  unfold fX12_isPerson
  refine ab_iload_n (pc := 0) (n := 1) (i := 1) (j := 1) (by decide +kernel) rfl rfl ?_
  refine ab_iconst (pc := 1) (n := 0) (v := nI 0) (by decide +kernel) rfl ?_
  refine ab_aload_n (pc := 2) (n := 0) (i := 0) (j := 0) (by decide +kernel) rfl rfl ?_
  refine ab_getR (pc := 3) fl_X12_7_12 (by decide +kernel) (fun v1 ev1 => ?_)
  refine ab_iconst (pc := 6) (n := 3) (v := nI 3) (by decide +kernel) rfl ?_
  refine ab_iald (pc := 7) (by decide +kernel) (fun v2 ev2 => ?_)
  refine ab_iconst (pc := 8) (n := 1) (v := nI 1) (by decide +kernel) rfl ?_
  refine ab_isub (pc := 9) (by decide +kernel) ?_
  refine ab_callSi (As := [.int x1, .int (nI 0), .int (v2 - (nI 1))]) (st := []) (pc := 10) lk_X12_53 rfl rfl rfl (by decide) rfl (Nat.le_of_ble_eq_true rfl) (by decide +kernel) (fun y9 e9 => okX12_isIn hl e9) (fun v3 ev3 => ?_)
  refine ab_cbr (fun b4 => ?_)
  exact ab_zret (pc := 13) (by decide +kernel) rfl b4.1 rfl (Nat.le_of_ble_eq_true rfl) (Nat.le_of_ble_eq_true rfl)
set_option maxRecDepth 100000 in
set_option maxHeartbeats 4000000 in
theorem okX12_isPerson {l : Launch} (hl : l.stackTraces = false) {x0 : Nat} {x1 : Int32} {h : ab_H} {y : Int32} (e : fX12_isPerson x0 x1 h = some y) : ab_Met l mX12_isPerson [.ref x0, .int x1] h (.inl (some (.int y)), h) := ab_ofS (io := (fun y : Int32 => ((.inl (some (.int y)), h) : ab_R × ab_H))) (x := y) hl (by decide) rfl (Nat.le_of_ble_eq_true rfl) (wX12_isPerson hl x0 x1 h) e
def mX12_isHook : ab_M := (yX12_isHook, cX12_isHook, 2, (some .boolean), { frames := 1, cells := 0, slots := 0, locals := 22 })
theorem iX12_isHook : ab_MI mX12_isHook 1 := ⟨kw_b25671662c, kw_30b3f7d7c6, by decide +kernel⟩
def fX12_isHook (x0 : Nat) (x1 : Int32) (h : ab_H) : Option Int32 := ab_bd (ab_fr h x0 12 1) fun v1 => ab_bd (ab_ia 0 h v1 (nI 4)) fun v2 => ab_bd (fX12_isIn x1 (nI 0) (v2 - (nI 1)) h) fun v3 => ab_cb v3 (some v3)
set_option maxRecDepth 100000 in
set_option maxHeartbeats 4000000 in
theorem wX12_isHook {l : Launch} (hl : l.stackTraces = false) (x0 : Nat) (x1 : Int32) (h : ab_H) : ab_S l mX12_isHook (fun y : Int32 => ((.inl (some (.int y)), h) : ab_R × ab_H)) 0 0 (fX12_isHook x0 x1 h) 0 [(0, .ref x0), (1, .int x1)] [] h := by
  unfold fX12_isHook
  refine ab_iload_n (pc := 0) (n := 1) (i := 1) (j := 1) (by decide +kernel) rfl rfl ?_
  refine ab_iconst (pc := 1) (n := 0) (v := nI 0) (by decide +kernel) rfl ?_
  refine ab_aload_n (pc := 2) (n := 0) (i := 0) (j := 0) (by decide +kernel) rfl rfl ?_
  refine ab_getR (pc := 3) fl_X12_7_12 (by decide +kernel) (fun v1 ev1 => ?_)
  refine ab_iconst (pc := 6) (n := 4) (v := nI 4) (by decide +kernel) rfl ?_
  refine ab_iald (pc := 7) (by decide +kernel) (fun v2 ev2 => ?_)
  refine ab_iconst (pc := 8) (n := 1) (v := nI 1) (by decide +kernel) rfl ?_
  refine ab_isub (pc := 9) (by decide +kernel) ?_
  refine ab_callSi (As := [.int x1, .int (nI 0), .int (v2 - (nI 1))]) (st := []) (pc := 10) lk_X12_53 rfl rfl rfl (by decide) rfl (Nat.le_of_ble_eq_true rfl) (by decide +kernel) (fun y9 e9 => okX12_isIn hl e9) (fun v3 ev3 => ?_)
  refine ab_cbr (fun b4 => ?_)
  exact ab_zret (pc := 13) (by decide +kernel) rfl b4.1 rfl (Nat.le_of_ble_eq_true rfl) (Nat.le_of_ble_eq_true rfl)
set_option maxRecDepth 100000 in
set_option maxHeartbeats 4000000 in
theorem okX12_isHook {l : Launch} (hl : l.stackTraces = false) {x0 : Nat} {x1 : Int32} {h : ab_H} {y : Int32} (e : fX12_isHook x0 x1 h = some y) : ab_Met l mX12_isHook [.ref x0, .int x1] h (.inl (some (.int y)), h) := ab_ofS (io := (fun y : Int32 => ((.inl (some (.int y)), h) : ab_R × ab_H))) (x := y) hl (by decide) rfl (Nat.le_of_ble_eq_true rfl) (wX12_isHook hl x0 x1 h) e
def mX12_thought : ab_M := (yX12_thought, cX12_thought, 3, (some .int), { frames := 0, cells := 0, slots := 0, locals := 0 })
theorem iX12_thought : ab_MI mX12_thought 2 := ⟨kw_907a859c94, kw_30b3f7d7c6, by decide +kernel⟩
def fX12_thought (x0 : Nat) (x1 : Int32) (x2 : Int32) (h : ab_H) : Option Int32 := ab_bd (ab_fr h x0 12 1) fun v1 => ab_bd (ab_ia 0 h v1 (((nI 172) + ((nI 10) * x1)) + x2)) fun v2 => some v2
set_option maxRecDepth 100000 in
set_option maxHeartbeats 4000000 in
theorem wX12_thought {l : Launch} (hl : l.stackTraces = false) (x0 : Nat) (x1 : Int32) (x2 : Int32) (h : ab_H) : ab_S l mX12_thought (fun y : Int32 => ((.inl (some (.int y)), h) : ab_R × ab_H)) 0 0 (fX12_thought x0 x1 x2 h) 0 [(0, .ref x0), (1, .int x1), (2, .int x2)] [] h := by
  unfold fX12_thought
  refine ab_aload_n (pc := 0) (n := 0) (i := 0) (j := 0) (by decide +kernel) rfl rfl ?_
  refine ab_getR (pc := 1) fl_X12_7_12 (by decide +kernel) (fun v1 ev1 => ?_)
  refine ab_sipush (pc := 4) (n := 172) (v := nI 172) (by decide +kernel) (by decide) ?_
  refine ab_bipush (pc := 7) (n := 10) (v := nI 10) (by decide +kernel) (by decide) ?_
  refine ab_iload_n (pc := 9) (n := 1) (i := 1) (j := 1) (by decide +kernel) rfl rfl ?_
  refine ab_imul (pc := 10) (by decide +kernel) ?_
  refine ab_iadd (pc := 11) (by decide +kernel) ?_
  refine ab_iload_n (pc := 12) (n := 2) (i := 2) (j := 2) (by decide +kernel) rfl rfl ?_
  refine ab_iadd (pc := 13) (by decide +kernel) ?_
  refine ab_iald (pc := 14) (by decide +kernel) (fun v2 ev2 => ?_)
  exact ab_iret (pc := 15) (by decide +kernel) rfl rfl (Nat.le_of_ble_eq_true rfl) (Nat.le_of_ble_eq_true rfl)
set_option maxRecDepth 100000 in
set_option maxHeartbeats 4000000 in
theorem okX12_thought {l : Launch} (hl : l.stackTraces = false) {x0 : Nat} {x1 : Int32} {x2 : Int32} {h : ab_H} {y : Int32} (e : fX12_thought x0 x1 x2 h = some y) : ab_Met l mX12_thought [.ref x0, .int x1, .int x2] h (.inl (some (.int y)), h) := ab_ofS (io := (fun y : Int32 => ((.inl (some (.int y)), h) : ab_R × ab_H))) (x := y) hl (by decide) rfl (Nat.le_of_ble_eq_true rfl) (wX12_thought hl x0 x1 x2 h) e
def mX12_wearer : ab_M := (yX12_wearer, cX12_wearer, 3, (some .int), { frames := 1, cells := 0, slots := 0, locals := 22 })
theorem iX12_wearer : ab_MI mX12_wearer 1 := ⟨kw_2d361791a2, kw_30b3f7d7c6, by decide +kernel⟩
theorem lk_X12_57_12 : ab_LV RX12 57 12 mX12_of 2 := ⟨RX12, rfl, iX12_of, kw_2aabdf5f88, kw_248e6211e5, kw_7e06e93d77⟩
def fX12_wearer_2 (x0 : Nat) (x1 : Int32) (h : ab_H) : Nat → Int32 → Option Int32
  | 0, _ => none
  | n + 1, x2 => ab_bd (ab_fr h x0 12 1) fun v1 => ab_bd (ab_ia 0 h v1 (nI 3)) fun v2 => (if x2 < v2 then ab_ck (ab_io h x0 12 = true) (ab_bd (fX12_of x0 x2 (nI 2) h) fun v4 => (if v4 = x1 then some x2 else fX12_wearer_2 x0 x1 h n (x2 + nI 1))) else some (-1 : Int32))
def fX12_wearer (F : Nat) (x0 : Nat) (x1 : Int32) (h : ab_H) : Option Int32 := fX12_wearer_2 x0 x1 h F (nI 0)
set_option maxRecDepth 100000 in
set_option maxHeartbeats 4000000 in
theorem lX12_wearer_2 {l : Launch} (hl : l.stackTraces = false) (x0 : Nat) (x1 : Int32) (h : ab_H) : ∀ (n : Nat) (x2 : Int32), ab_S l mX12_wearer (fun y : Int32 => ((.inl (some (.int y)), h) : ab_R × ab_H)) 0 0 (fX12_wearer_2 x0 x1 h n x2) 2 [(0, .ref x0), (1, .int x1), (2, .int x2)] [] h := by
  intro n
  induction n with
  | zero =>
    intro x2
    exact ab_none
  | succ n ih =>
    intro x2
    rw [fX12_wearer_2]
    refine ab_iload_n (pc := 2) (n := 2) (i := 2) (j := 2) (by decide +kernel) rfl rfl ?_
    refine ab_aload_n (pc := 3) (n := 0) (i := 0) (j := 0) (by decide +kernel) rfl rfl ?_
    refine ab_getR (pc := 4) fl_X12_7_12 (by decide +kernel) (fun v1 ev1 => ?_)
    refine ab_iconst (pc := 7) (n := 3) (v := nI 3) (by decide +kernel) rfl ?_
    refine ab_iald (pc := 8) (by decide +kernel) (fun v2 ev2 => ?_)
    refine ab_icmp_ge (off := 21) (pc := 9) (tgt := 30) (by decide +kernel) (by decide) (fun g3 => ?_) (fun g3 => ?_)
    · refine ab_aload_n (pc := 12) (n := 0) (i := 0) (j := 0) (by decide +kernel) rfl rfl ?_
      refine ab_iload_n (pc := 13) (n := 2) (i := 2) (j := 2) (by decide +kernel) rfl rfl ?_
      refine ab_iconst (pc := 14) (n := 2) (v := nI 2) (by decide +kernel) rfl ?_
      refine ab_callVi (As := [.int x2, .int (nI 2)]) (st := []) (pc := 15) lk_X12_57_12 rfl rfl rfl (by decide) rfl (Nat.le_of_ble_eq_true rfl) (by decide +kernel) (fun y9 e9 => okX12_of hl e9) (fun v4 ev4 => ?_)
      refine ab_iload_n (pc := 18) (n := 1) (i := 1) (j := 1) (by decide +kernel) rfl rfl ?_
      refine ab_icmp_ne (off := 5) (pc := 19) (tgt := 24) (by decide +kernel) (by decide) (fun g5 => ?_) (fun g5 => ?_)
      · refine ab_iload_n (pc := 22) (n := 2) (i := 2) (j := 2) (by decide +kernel) rfl rfl ?_
        exact ab_iret (pc := 23) (by decide +kernel) rfl rfl (Nat.le_of_ble_eq_true rfl) (Nat.le_of_ble_eq_true rfl)
      · refine ab_iinc (pc := 24) (i := 2) (n := 1) (j := 2) (d := nI 1) (lv' := [(0, .ref x0), (1, .int x1), (2, .int (x2 + nI 1))]) (by decide +kernel) rfl rfl (Nat.le_of_ble_eq_true rfl) rfl rfl ?_
        refine ab_goto (pc := 27) (off := (-25)) (tgt := 2) (by decide +kernel) (by decide) ?_
        exact ih (x2 + nI 1)
    · refine ab_iconst (pc := 30) (n := -1) (v := (-1 : Int32)) (by decide +kernel) rfl ?_
      exact ab_iret (pc := 31) (by decide +kernel) rfl rfl (Nat.le_of_ble_eq_true rfl) (Nat.le_of_ble_eq_true rfl)
set_option maxRecDepth 100000 in
set_option maxHeartbeats 4000000 in
theorem wX12_wearer {l : Launch} (hl : l.stackTraces = false) (F : Nat) (x0 : Nat) (x1 : Int32) (h : ab_H) : ab_S l mX12_wearer (fun y : Int32 => ((.inl (some (.int y)), h) : ab_R × ab_H)) 0 0 (fX12_wearer F x0 x1 h) 0 [(0, .ref x0), (1, .int x1)] [] h := by
  unfold fX12_wearer
  refine ab_iconst (pc := 0) (n := 0) (v := nI 0) (by decide +kernel) rfl ?_
  refine ab_istore_n (pc := 1) (n := 2) (i := 2) (lv' := [(0, .ref x0), (1, .int x1), (2, .int (nI 0))]) (by decide +kernel) rfl (Nat.le_of_ble_eq_true rfl) rfl rfl ?_
  refine lX12_wearer_2 hl x0 x1 h F (nI 0)
set_option maxRecDepth 100000 in
set_option maxHeartbeats 4000000 in
theorem okX12_wearer {l : Launch} (hl : l.stackTraces = false) {F : Nat} {x0 : Nat} {x1 : Int32} {h : ab_H} {y : Int32} (e : fX12_wearer F x0 x1 h = some y) : ab_Met l mX12_wearer [.ref x0, .int x1] h (.inl (some (.int y)), h) := ab_ofS (io := (fun y : Int32 => ((.inl (some (.int y)), h) : ab_R × ab_H))) (x := y) hl (by decide) rfl (Nat.le_of_ble_eq_true rfl) (wX12_wearer hl F x0 x1 h) e
def mX12_hookOf : ab_M := (yX12_hookOf, cX12_hookOf, 3, (some .int), { frames := 0, cells := 0, slots := 0, locals := 0 })
theorem iX12_hookOf : ab_MI mX12_hookOf 1 := ⟨kw_26133e7747, kw_30b3f7d7c6, by decide +kernel⟩
def fX12_hookOf_2 (x0 : Nat) (x1 : Int32) (h : ab_H) : Nat → Int32 → Option Int32
  | 0, _ => none
  | n + 1, x2 => ab_bd (ab_fr h x0 12 1) fun v1 => ab_bd (ab_ia 0 h v1 (nI 4)) fun v2 => (if x2 < v2 then ab_bd (ab_fr h x0 12 1) fun v4 => ab_bd (ab_ia 0 h v4 ((nI 272) + x2)) fun v5 => (if v5 = x1 then some x2 else fX12_hookOf_2 x0 x1 h n (x2 + nI 1)) else some (-1 : Int32))
def fX12_hookOf (F : Nat) (x0 : Nat) (x1 : Int32) (h : ab_H) : Option Int32 := fX12_hookOf_2 x0 x1 h F (nI 0)
set_option maxRecDepth 100000 in
set_option maxHeartbeats 4000000 in
theorem lX12_hookOf_2 {l : Launch} (hl : l.stackTraces = false) (x0 : Nat) (x1 : Int32) (h : ab_H) : ∀ (n : Nat) (x2 : Int32), ab_S l mX12_hookOf (fun y : Int32 => ((.inl (some (.int y)), h) : ab_R × ab_H)) 0 0 (fX12_hookOf_2 x0 x1 h n x2) 2 [(0, .ref x0), (1, .int x1), (2, .int x2)] [] h := by
  intro n
  induction n with
  | zero =>
    intro x2
    exact ab_none
  | succ n ih =>
    intro x2
    rw [fX12_hookOf_2]
    refine ab_iload_n (pc := 2) (n := 2) (i := 2) (j := 2) (by decide +kernel) rfl rfl ?_
    refine ab_aload_n (pc := 3) (n := 0) (i := 0) (j := 0) (by decide +kernel) rfl rfl ?_
    refine ab_getR (pc := 4) fl_X12_7_12 (by decide +kernel) (fun v1 ev1 => ?_)
    refine ab_iconst (pc := 7) (n := 4) (v := nI 4) (by decide +kernel) rfl ?_
    refine ab_iald (pc := 8) (by decide +kernel) (fun v2 ev2 => ?_)
    refine ab_icmp_ge (off := 25) (pc := 9) (tgt := 34) (by decide +kernel) (by decide) (fun g3 => ?_) (fun g3 => ?_)
    · refine ab_aload_n (pc := 12) (n := 0) (i := 0) (j := 0) (by decide +kernel) rfl rfl ?_
      refine ab_getR (pc := 13) fl_X12_7_12 (by decide +kernel) (fun v4 ev4 => ?_)
      refine ab_sipush (pc := 16) (n := 272) (v := nI 272) (by decide +kernel) (by decide) ?_
      refine ab_iload_n (pc := 19) (n := 2) (i := 2) (j := 2) (by decide +kernel) rfl rfl ?_
      refine ab_iadd (pc := 20) (by decide +kernel) ?_
      refine ab_iald (pc := 21) (by decide +kernel) (fun v5 ev5 => ?_)
      refine ab_iload_n (pc := 22) (n := 1) (i := 1) (j := 1) (by decide +kernel) rfl rfl ?_
      refine ab_icmp_ne (off := 5) (pc := 23) (tgt := 28) (by decide +kernel) (by decide) (fun g6 => ?_) (fun g6 => ?_)
      · refine ab_iload_n (pc := 26) (n := 2) (i := 2) (j := 2) (by decide +kernel) rfl rfl ?_
        exact ab_iret (pc := 27) (by decide +kernel) rfl rfl (Nat.le_of_ble_eq_true rfl) (Nat.le_of_ble_eq_true rfl)
      · refine ab_iinc (pc := 28) (i := 2) (n := 1) (j := 2) (d := nI 1) (lv' := [(0, .ref x0), (1, .int x1), (2, .int (x2 + nI 1))]) (by decide +kernel) rfl rfl (Nat.le_of_ble_eq_true rfl) rfl rfl ?_
        refine ab_goto (pc := 31) (off := (-29)) (tgt := 2) (by decide +kernel) (by decide) ?_
        exact ih (x2 + nI 1)
    · refine ab_iconst (pc := 34) (n := -1) (v := (-1 : Int32)) (by decide +kernel) rfl ?_
      exact ab_iret (pc := 35) (by decide +kernel) rfl rfl (Nat.le_of_ble_eq_true rfl) (Nat.le_of_ble_eq_true rfl)
set_option maxRecDepth 100000 in
set_option maxHeartbeats 4000000 in
theorem wX12_hookOf {l : Launch} (hl : l.stackTraces = false) (F : Nat) (x0 : Nat) (x1 : Int32) (h : ab_H) : ab_S l mX12_hookOf (fun y : Int32 => ((.inl (some (.int y)), h) : ab_R × ab_H)) 0 0 (fX12_hookOf F x0 x1 h) 0 [(0, .ref x0), (1, .int x1)] [] h := by
  unfold fX12_hookOf
  refine ab_iconst (pc := 0) (n := 0) (v := nI 0) (by decide +kernel) rfl ?_
  refine ab_istore_n (pc := 1) (n := 2) (i := 2) (lv' := [(0, .ref x0), (1, .int x1), (2, .int (nI 0))]) (by decide +kernel) rfl (Nat.le_of_ble_eq_true rfl) rfl rfl ?_
  refine lX12_hookOf_2 hl x0 x1 h F (nI 0)
set_option maxRecDepth 100000 in
set_option maxHeartbeats 4000000 in
theorem okX12_hookOf {l : Launch} (hl : l.stackTraces = false) {F : Nat} {x0 : Nat} {x1 : Int32} {h : ab_H} {y : Int32} (e : fX12_hookOf F x0 x1 h = some y) : ab_Met l mX12_hookOf [.ref x0, .int x1] h (.inl (some (.int y)), h) := ab_ofS (io := (fun y : Int32 => ((.inl (some (.int y)), h) : ab_R × ab_H))) (x := y) hl (by decide) rfl (Nat.le_of_ble_eq_true rfl) (wX12_hookOf hl F x0 x1 h) e
def mX12_hung : ab_M := (yX12_hung, cX12_hung, 3, (some .int), { frames := 0, cells := 0, slots := 0, locals := 0 })
theorem iX12_hung : ab_MI mX12_hung 0 := ⟨kw_11e45ae5c4, kw_30b3f7d7c6, by decide +kernel⟩
def fX12_hung_4 (x0 : Nat) (h : ab_H) : Nat → Int32 → Int32 → Option Int32
  | 0, _, _ => none
  | n + 1, x1, x2 => ab_bd (ab_fr h x0 12 1) fun v1 => ab_bd (ab_ia 0 h v1 (nI 4)) fun v2 => (if x2 < v2 then ab_bd (ab_fr h x0 12 1) fun v4 => ab_bd (ab_ia 0 h v4 ((nI 272) + x2)) fun v5 => (if v5 = (-1 : Int32) then fX12_hung_4 x0 h n (x1 + (nI 0)) (x2 + nI 1) else fX12_hung_4 x0 h n (x1 + (nI 1)) (x2 + nI 1)) else some x1)
def fX12_hung (F : Nat) (x0 : Nat) (h : ab_H) : Option Int32 := fX12_hung_4 x0 h F (nI 0) (nI 0)
set_option maxRecDepth 100000 in
set_option maxHeartbeats 4000000 in
theorem lX12_hung_4 {l : Launch} (hl : l.stackTraces = false) (x0 : Nat) (h : ab_H) : ∀ (n : Nat) (x1 : Int32) (x2 : Int32), ab_S l mX12_hung (fun y : Int32 => ((.inl (some (.int y)), h) : ab_R × ab_H)) 0 0 (fX12_hung_4 x0 h n x1 x2) 4 [(0, .ref x0), (1, .int x1), (2, .int x2)] [] h := by
  intro n
  induction n with
  | zero =>
    intro x1 x2
    exact ab_none
  | succ n ih =>
    intro x1 x2
    rw [fX12_hung_4]
    refine ab_iload_n (pc := 4) (n := 2) (i := 2) (j := 2) (by decide +kernel) rfl rfl ?_
    refine ab_aload_n (pc := 5) (n := 0) (i := 0) (j := 0) (by decide +kernel) rfl rfl ?_
    refine ab_getR (pc := 6) fl_X12_7_12 (by decide +kernel) (fun v1 ev1 => ?_)
    refine ab_iconst (pc := 9) (n := 4) (v := nI 4) (by decide +kernel) rfl ?_
    refine ab_iald (pc := 10) (by decide +kernel) (fun v2 ev2 => ?_)
    refine ab_icmp_ge (off := 31) (pc := 11) (tgt := 42) (by decide +kernel) (by decide) (fun g3 => ?_) (fun g3 => ?_)
    · refine ab_iload_n (pc := 14) (n := 1) (i := 1) (j := 1) (by decide +kernel) rfl rfl ?_
      refine ab_aload_n (pc := 15) (n := 0) (i := 0) (j := 0) (by decide +kernel) rfl rfl ?_
      refine ab_getR (pc := 16) fl_X12_7_12 (by decide +kernel) (fun v4 ev4 => ?_)
      refine ab_sipush (pc := 19) (n := 272) (v := nI 272) (by decide +kernel) (by decide) ?_
      refine ab_iload_n (pc := 22) (n := 2) (i := 2) (j := 2) (by decide +kernel) rfl rfl ?_
      refine ab_iadd (pc := 23) (by decide +kernel) ?_
      refine ab_iald (pc := 24) (by decide +kernel) (fun v5 ev5 => ?_)
      refine ab_iconst (pc := 25) (n := -1) (v := (-1 : Int32)) (by decide +kernel) rfl ?_
      refine ab_icmp_ne (off := 7) (pc := 26) (tgt := 33) (by decide +kernel) (by decide) (fun g6 => ?_) (fun g6 => ?_)
      · refine ab_iconst (pc := 29) (n := 0) (v := nI 0) (by decide +kernel) rfl ?_
        refine ab_goto (pc := 30) (off := 4) (tgt := 34) (by decide +kernel) (by decide) ?_
        refine ab_iadd (pc := 34) (by decide +kernel) ?_
        refine ab_istore_n (pc := 35) (n := 1) (i := 1) (lv' := [(0, .ref x0), (1, .int (x1 + (nI 0))), (2, .int x2)]) (by decide +kernel) rfl (Nat.le_of_ble_eq_true rfl) rfl rfl ?_
        refine ab_iinc (pc := 36) (i := 2) (n := 1) (j := 2) (d := nI 1) (lv' := [(0, .ref x0), (1, .int (x1 + (nI 0))), (2, .int (x2 + nI 1))]) (by decide +kernel) rfl rfl (Nat.le_of_ble_eq_true rfl) rfl rfl ?_
        refine ab_goto (pc := 39) (off := (-35)) (tgt := 4) (by decide +kernel) (by decide) ?_
        exact ih (x1 + (nI 0)) (x2 + nI 1)
      · refine ab_iconst (pc := 33) (n := 1) (v := nI 1) (by decide +kernel) rfl ?_
        refine ab_iadd (pc := 34) (by decide +kernel) ?_
        refine ab_istore_n (pc := 35) (n := 1) (i := 1) (lv' := [(0, .ref x0), (1, .int (x1 + (nI 1))), (2, .int x2)]) (by decide +kernel) rfl (Nat.le_of_ble_eq_true rfl) rfl rfl ?_
        refine ab_iinc (pc := 36) (i := 2) (n := 1) (j := 2) (d := nI 1) (lv' := [(0, .ref x0), (1, .int (x1 + (nI 1))), (2, .int (x2 + nI 1))]) (by decide +kernel) rfl rfl (Nat.le_of_ble_eq_true rfl) rfl rfl ?_
        refine ab_goto (pc := 39) (off := (-35)) (tgt := 4) (by decide +kernel) (by decide) ?_
        exact ih (x1 + (nI 1)) (x2 + nI 1)
    · refine ab_iload_n (pc := 42) (n := 1) (i := 1) (j := 1) (by decide +kernel) rfl rfl ?_
      exact ab_iret (pc := 43) (by decide +kernel) rfl rfl (Nat.le_of_ble_eq_true rfl) (Nat.le_of_ble_eq_true rfl)
set_option maxRecDepth 100000 in
set_option maxHeartbeats 4000000 in
theorem wX12_hung {l : Launch} (hl : l.stackTraces = false) (F : Nat) (x0 : Nat) (h : ab_H) : ab_S l mX12_hung (fun y : Int32 => ((.inl (some (.int y)), h) : ab_R × ab_H)) 0 0 (fX12_hung F x0 h) 0 [(0, .ref x0)] [] h := by
  unfold fX12_hung
  refine ab_iconst (pc := 0) (n := 0) (v := nI 0) (by decide +kernel) rfl ?_
  refine ab_istore_n (pc := 1) (n := 1) (i := 1) (lv' := [(0, .ref x0), (1, .int (nI 0))]) (by decide +kernel) rfl (Nat.le_of_ble_eq_true rfl) rfl rfl ?_
  refine ab_iconst (pc := 2) (n := 0) (v := nI 0) (by decide +kernel) rfl ?_
  refine ab_istore_n (pc := 3) (n := 2) (i := 2) (lv' := [(0, .ref x0), (1, .int (nI 0)), (2, .int (nI 0))]) (by decide +kernel) rfl (Nat.le_of_ble_eq_true rfl) rfl rfl ?_
  refine lX12_hung_4 hl x0 h F (nI 0) (nI 0)
set_option maxRecDepth 100000 in
set_option maxHeartbeats 4000000 in
theorem okX12_hung {l : Launch} (hl : l.stackTraces = false) {F : Nat} {x0 : Nat} {h : ab_H} {y : Int32} (e : fX12_hung F x0 h = some y) : ab_Met l mX12_hung [.ref x0] h (.inl (some (.int y)), h) := ab_ofS (io := (fun y : Int32 => ((.inl (some (.int y)), h) : ab_R × ab_H))) (x := y) hl (by decide) rfl (Nat.le_of_ble_eq_true rfl) (wX12_hung hl F x0 h) e
def mX12_hasTicketOf : ab_M := (yX12_hasTicketOf, cX12_hasTicketOf, 3, (some .boolean), { frames := 1, cells := 0, slots := 0, locals := 22 })
theorem iX12_hasTicketOf : ab_MI mX12_hasTicketOf 1 := ⟨kw_1e492149bb, kw_30b3f7d7c6, by decide +kernel⟩
def fX12_hasTicketOf_2 (x0 : Nat) (x1 : Int32) (h : ab_H) : Nat → Int32 → Option Int32
  | 0, _ => none
  | n + 1, x2 => ab_bd (ab_fr h x0 12 1) fun v1 => ab_bd (ab_ia 0 h v1 (nI 3)) fun v2 => (if x2 < v2 then ab_ck (ab_io h x0 12 = true) (ab_bd (fX12_of x0 x2 (nI 3) h) fun v4 => (if v4 = x1 then some (nI 1) else fX12_hasTicketOf_2 x0 x1 h n (x2 + nI 1))) else some (nI 0))
def fX12_hasTicketOf (F : Nat) (x0 : Nat) (x1 : Int32) (h : ab_H) : Option Int32 := fX12_hasTicketOf_2 x0 x1 h F (nI 0)
set_option maxRecDepth 100000 in
set_option maxHeartbeats 4000000 in
theorem lX12_hasTicketOf_2 {l : Launch} (hl : l.stackTraces = false) (x0 : Nat) (x1 : Int32) (h : ab_H) : ∀ (n : Nat) (x2 : Int32), ab_S l mX12_hasTicketOf (fun y : Int32 => ((.inl (some (.int y)), h) : ab_R × ab_H)) 0 0 (fX12_hasTicketOf_2 x0 x1 h n x2) 2 [(0, .ref x0), (1, .int x1), (2, .int x2)] [] h := by
  intro n
  induction n with
  | zero =>
    intro x2
    exact ab_none
  | succ n ih =>
    intro x2
    rw [fX12_hasTicketOf_2]
    refine ab_iload_n (pc := 2) (n := 2) (i := 2) (j := 2) (by decide +kernel) rfl rfl ?_
    refine ab_aload_n (pc := 3) (n := 0) (i := 0) (j := 0) (by decide +kernel) rfl rfl ?_
    refine ab_getR (pc := 4) fl_X12_7_12 (by decide +kernel) (fun v1 ev1 => ?_)
    refine ab_iconst (pc := 7) (n := 3) (v := nI 3) (by decide +kernel) rfl ?_
    refine ab_iald (pc := 8) (by decide +kernel) (fun v2 ev2 => ?_)
    refine ab_icmp_ge (off := 21) (pc := 9) (tgt := 30) (by decide +kernel) (by decide) (fun g3 => ?_) (fun g3 => ?_)
    · refine ab_aload_n (pc := 12) (n := 0) (i := 0) (j := 0) (by decide +kernel) rfl rfl ?_
      refine ab_iload_n (pc := 13) (n := 2) (i := 2) (j := 2) (by decide +kernel) rfl rfl ?_
      refine ab_iconst (pc := 14) (n := 3) (v := nI 3) (by decide +kernel) rfl ?_
      refine ab_callVi (As := [.int x2, .int (nI 3)]) (st := []) (pc := 15) lk_X12_57_12 rfl rfl rfl (by decide) rfl (Nat.le_of_ble_eq_true rfl) (by decide +kernel) (fun y9 e9 => okX12_of hl e9) (fun v4 ev4 => ?_)
      refine ab_iload_n (pc := 18) (n := 1) (i := 1) (j := 1) (by decide +kernel) rfl rfl ?_
      refine ab_icmp_ne (off := 5) (pc := 19) (tgt := 24) (by decide +kernel) (by decide) (fun g5 => ?_) (fun g5 => ?_)
      · refine ab_iconst (pc := 22) (n := 1) (v := nI 1) (by decide +kernel) rfl ?_
        exact ab_zret (pc := 23) (by decide +kernel) rfl ab_bl1.1 rfl (Nat.le_of_ble_eq_true rfl) (Nat.le_of_ble_eq_true rfl)
      · refine ab_iinc (pc := 24) (i := 2) (n := 1) (j := 2) (d := nI 1) (lv' := [(0, .ref x0), (1, .int x1), (2, .int (x2 + nI 1))]) (by decide +kernel) rfl rfl (Nat.le_of_ble_eq_true rfl) rfl rfl ?_
        refine ab_goto (pc := 27) (off := (-25)) (tgt := 2) (by decide +kernel) (by decide) ?_
        exact ih (x2 + nI 1)
    · refine ab_iconst (pc := 30) (n := 0) (v := nI 0) (by decide +kernel) rfl ?_
      exact ab_zret (pc := 31) (by decide +kernel) rfl ab_bl0.1 rfl (Nat.le_of_ble_eq_true rfl) (Nat.le_of_ble_eq_true rfl)
set_option maxRecDepth 100000 in
set_option maxHeartbeats 4000000 in
theorem wX12_hasTicketOf {l : Launch} (hl : l.stackTraces = false) (F : Nat) (x0 : Nat) (x1 : Int32) (h : ab_H) : ab_S l mX12_hasTicketOf (fun y : Int32 => ((.inl (some (.int y)), h) : ab_R × ab_H)) 0 0 (fX12_hasTicketOf F x0 x1 h) 0 [(0, .ref x0), (1, .int x1)] [] h := by
  unfold fX12_hasTicketOf
  refine ab_iconst (pc := 0) (n := 0) (v := nI 0) (by decide +kernel) rfl ?_
  refine ab_istore_n (pc := 1) (n := 2) (i := 2) (lv' := [(0, .ref x0), (1, .int x1), (2, .int (nI 0))]) (by decide +kernel) rfl (Nat.le_of_ble_eq_true rfl) rfl rfl ?_
  refine lX12_hasTicketOf_2 hl x0 x1 h F (nI 0)
set_option maxRecDepth 100000 in
set_option maxHeartbeats 4000000 in
theorem okX12_hasTicketOf {l : Launch} (hl : l.stackTraces = false) {F : Nat} {x0 : Nat} {x1 : Int32} {h : ab_H} {y : Int32} (e : fX12_hasTicketOf F x0 x1 h = some y) : ab_Met l mX12_hasTicketOf [.ref x0, .int x1] h (.inl (some (.int y)), h) := ab_ofS (io := (fun y : Int32 => ((.inl (some (.int y)), h) : ab_R × ab_H))) (x := y) hl (by decide) rfl (Nat.le_of_ble_eq_true rfl) (wX12_hasTicketOf hl F x0 x1 h) e
def mX12_feed : ab_M := (yX12_feed, cX12_feed, 8, (some .int), { frames := 0, cells := 0, slots := 0, locals := 0 })
theorem iX12_feed : ab_MI mX12_feed 5 := ⟨kw_5d511be48c, kw_30b3f7d7c6, by decide +kernel⟩
def fX12_feed_23 (x0 : Nat) (x1 : Int32) (x2 : Int32) (x3 : Int32) (x4 : Int32) (x5 : Int32) : Nat → Int32 → ab_H → Option (Int32 × ab_H)
  | 0, _, _ => none
  | n + 1, x6, h => (if x6 < (nI 20) then ab_jn (κ := Int32 → Option (Int32 × ab_H)) (fun (z5 : Int32) => ab_bd (ab_fr h x0 12 7) fun v6 => ab_bd (ab_fi h x0 12 8) fun v7 => ab_ck (¬ (nI 4) = 0) (ab_bd (ab_iw 0 h v6 v7 ((ab_us z5 ((nI 24) - ((nI 8) * (ab_rm x6 (nI 4))))) &&& (nI 255))) fun h9 => ab_bd (ab_fi h9 x0 12 8) fun v10 => ab_bd (ab_fw h9 x0 12 8 (.int (v10 + (nI 1)))) fun h11 => fX12_feed_23 x0 x1 x2 x3 x4 x5 n (x6 + nI 1) h11)) fun j12 => (if x6 < (nI 4) then j12 x1 else (if x6 < (nI 8) then j12 x2 else (if x6 < (nI 12) then j12 x3 else (if x6 < (nI 16) then j12 x4 else j12 x5)))) else ab_bd (ab_fi h x0 12 8) fun v17 => some (v17, h))
def fX12_feed (F : Nat) (x0 : Nat) (x1 : Int32) (x2 : Int32) (x3 : Int32) (x4 : Int32) (x5 : Int32) (h : ab_H) : Option (Int32 × ab_H) := ab_bd (ab_fw h x0 12 0 (.int (nI 0))) fun h1 => ab_bd (ab_fi h1 x0 12 8) fun v2 => (if (v2 + (nI 20)) ≤ (nI 400) then fX12_feed_23 x0 x1 x2 x3 x4 x5 F (nI 0) h1 else some ((-1 : Int32), h1))
set_option maxRecDepth 100000 in
set_option maxHeartbeats 4000000 in
theorem lX12_feed_23 {l : Launch} (hl : l.stackTraces = false) (x0 : Nat) (x1 : Int32) (x2 : Int32) (x3 : Int32) (x4 : Int32) (x5 : Int32) : ∀ (n : Nat) (x6 : Int32) (h : ab_H), ab_S l mX12_feed (fun y : (Int32 × ab_H) => ((.inl (some (.int y.1)), y.2) : ab_R × ab_H)) 0 0 (fX12_feed_23 x0 x1 x2 x3 x4 x5 n x6 h) 23 [(0, .ref x0), (1, .int x1), (2, .int x2), (3, .int x3), (4, .int x4), (5, .int x5), (6, .int x6)] [] h := by
  intro n
  induction n with
  | zero =>
    intro x6 h
    exact ab_none
  | succ n ih =>
    intro x6 h
    rw [fX12_feed_23]
    refine ab_iload (pc := 23) (i := 6) (j := 6) (by decide +kernel) rfl ?_
    refine ab_bipush (pc := 25) (n := 20) (v := nI 20) (by decide +kernel) (by decide) ?_
    refine ab_icmp_ge (off := 93) (pc := 27) (tgt := 120) (by decide +kernel) (by decide) (fun g4 => ?_) (fun g4 => ?_)
    · refine ab_iload (pc := 30) (i := 6) (j := 6) (by decide +kernel) rfl ?_
      refine ab_iconst (pc := 32) (n := 4) (v := nI 4) (by decide +kernel) rfl ?_
      refine ab_jr (fun k9 : Int32 → Option (Int32 × ab_H) => ∀ (z5 : Int32), ab_S l mX12_feed (fun y : (Int32 × ab_H) => ((.inl (some (.int y.1)), y.2) : ab_R × ab_H)) 0 0 (k9 z5) 76 [(0, .ref x0), (1, .int x1), (2, .int x2), (3, .int x3), (4, .int x4), (5, .int x5), (6, .int x6)] [.int z5] h) ?_ (fun j12 hj12 => ?_)
      · intro z5
        refine ab_istore (pc := 76) (i := 7) (lv' := [(0, .ref x0), (1, .int x1), (2, .int x2), (3, .int x3), (4, .int x4), (5, .int x5), (6, .int x6), (7, .int z5)]) (by decide +kernel) (Nat.le_of_ble_eq_true rfl) rfl rfl ?_
        refine ab_aload_n (pc := 78) (n := 0) (i := 0) (j := 0) (by decide +kernel) rfl rfl ?_
        refine ab_getR (pc := 79) fl_X12_22_12 (by decide +kernel) (fun v6 ev6 => ?_)
        refine ab_aload_n (pc := 82) (n := 0) (i := 0) (j := 0) (by decide +kernel) rfl rfl ?_
        refine ab_getI (pc := 83) fl_X12_61_12 (by decide +kernel) (fun v7 ev7 => ?_)
        refine ab_iload (pc := 86) (i := 7) (j := 7) (by decide +kernel) rfl ?_
        refine ab_bipush (pc := 88) (n := 24) (v := nI 24) (by decide +kernel) (by decide) ?_
        refine ab_bipush (pc := 90) (n := 8) (v := nI 8) (by decide +kernel) (by decide) ?_
        refine ab_iload (pc := 92) (i := 6) (j := 6) (by decide +kernel) rfl ?_
        refine ab_iconst (pc := 94) (n := 4) (v := nI 4) (by decide +kernel) rfl ?_
        refine ab_irem (pc := 95) (by decide +kernel) (fun g8 => ?_)
        refine ab_imul (pc := 96) (by decide +kernel) ?_
        refine ab_isub (pc := 97) (by decide +kernel) ?_
        refine ab_iushr (pc := 98) (by decide +kernel) ?_
        refine ab_sipush (pc := 99) (n := 255) (v := nI 255) (by decide +kernel) (by decide) ?_
        refine ab_iand (pc := 102) (by decide +kernel) ?_
        refine ab_iast (pc := 103) (by decide +kernel) (fun h9 eh9 => ?_)
        refine ab_aload_n (pc := 104) (n := 0) (i := 0) (j := 0) (by decide +kernel) rfl rfl ?_
        refine ab_dup (pc := 105) (by decide +kernel) rfl ?_
        refine ab_getI (pc := 106) fl_X12_61_12 (by decide +kernel) (fun v10 ev10 => ?_)
        refine ab_iconst (pc := 109) (n := 1) (v := nI 1) (by decide +kernel) rfl ?_
        refine ab_iadd (pc := 110) (by decide +kernel) ?_
        refine ab_put (pc := 111) fl_X12_61_12 rfl (fun _ => rfl) (fun _ => rfl) (by decide +kernel) (fun h11 eh11 => ?_)
        refine ab_iinc (pc := 114) (i := 6) (n := 1) (j := 6) (d := nI 1) (lv' := [(0, .ref x0), (1, .int x1), (2, .int x2), (3, .int x3), (4, .int x4), (5, .int x5), (6, .int (x6 + nI 1)), (7, .int z5)]) (by decide +kernel) rfl rfl (Nat.le_of_ble_eq_true rfl) rfl rfl ?_
        refine ab_goto (pc := 117) (off := (-94)) (tgt := 23) (by decide +kernel) (by decide) ?_
        refine ab_few [0, 1, 2, 3, 4, 5, 6] (lv' := [(0, .ref x0), (1, .int x1), (2, .int x2), (3, .int x3), (4, .int x4), (5, .int x5), (6, .int (x6 + nI 1))]) rfl ?_
        exact ih (x6 + nI 1) h11
      · refine ab_icmp_ge (off := 7) (pc := 33) (tgt := 40) (by decide +kernel) (by decide) (fun g13 => ?_) (fun g13 => ?_)
        · refine ab_iload_n (pc := 36) (n := 1) (i := 1) (j := 1) (by decide +kernel) rfl rfl ?_
          refine ab_goto (pc := 37) (off := 39) (tgt := 76) (by decide +kernel) (by decide) ?_
          exact hj12 x1
        · refine ab_iload (pc := 40) (i := 6) (j := 6) (by decide +kernel) rfl ?_
          refine ab_bipush (pc := 42) (n := 8) (v := nI 8) (by decide +kernel) (by decide) ?_
          refine ab_icmp_ge (off := 7) (pc := 44) (tgt := 51) (by decide +kernel) (by decide) (fun g14 => ?_) (fun g14 => ?_)
          · refine ab_iload_n (pc := 47) (n := 2) (i := 2) (j := 2) (by decide +kernel) rfl rfl ?_
            refine ab_goto (pc := 48) (off := 28) (tgt := 76) (by decide +kernel) (by decide) ?_
            exact hj12 x2
          · refine ab_iload (pc := 51) (i := 6) (j := 6) (by decide +kernel) rfl ?_
            refine ab_bipush (pc := 53) (n := 12) (v := nI 12) (by decide +kernel) (by decide) ?_
            refine ab_icmp_ge (off := 7) (pc := 55) (tgt := 62) (by decide +kernel) (by decide) (fun g15 => ?_) (fun g15 => ?_)
            · refine ab_iload_n (pc := 58) (n := 3) (i := 3) (j := 3) (by decide +kernel) rfl rfl ?_
              refine ab_goto (pc := 59) (off := 17) (tgt := 76) (by decide +kernel) (by decide) ?_
              exact hj12 x3
            · refine ab_iload (pc := 62) (i := 6) (j := 6) (by decide +kernel) rfl ?_
              refine ab_bipush (pc := 64) (n := 16) (v := nI 16) (by decide +kernel) (by decide) ?_
              refine ab_icmp_ge (off := 8) (pc := 66) (tgt := 74) (by decide +kernel) (by decide) (fun g16 => ?_) (fun g16 => ?_)
              · refine ab_iload (pc := 69) (i := 4) (j := 4) (by decide +kernel) rfl ?_
                refine ab_goto (pc := 71) (off := 5) (tgt := 76) (by decide +kernel) (by decide) ?_
                exact hj12 x4
              · refine ab_iload (pc := 74) (i := 5) (j := 5) (by decide +kernel) rfl ?_
                exact hj12 x5
    · refine ab_aload_n (pc := 120) (n := 0) (i := 0) (j := 0) (by decide +kernel) rfl rfl ?_
      refine ab_getI (pc := 121) fl_X12_61_12 (by decide +kernel) (fun v17 ev17 => ?_)
      exact ab_iret (pc := 124) (by decide +kernel) rfl rfl (Nat.le_of_ble_eq_true rfl) (Nat.le_of_ble_eq_true rfl)
set_option maxRecDepth 100000 in
set_option maxHeartbeats 4000000 in
theorem wX12_feed {l : Launch} (hl : l.stackTraces = false) (F : Nat) (x0 : Nat) (x1 : Int32) (x2 : Int32) (x3 : Int32) (x4 : Int32) (x5 : Int32) (h : ab_H) : ab_S l mX12_feed (fun y : (Int32 × ab_H) => ((.inl (some (.int y.1)), y.2) : ab_R × ab_H)) 0 0 (fX12_feed F x0 x1 x2 x3 x4 x5 h) 0 [(0, .ref x0), (1, .int x1), (2, .int x2), (3, .int x3), (4, .int x4), (5, .int x5)] [] h := by
  unfold fX12_feed
  refine ab_aload_n (pc := 0) (n := 0) (i := 0) (j := 0) (by decide +kernel) rfl rfl ?_
  refine ab_iconst (pc := 1) (n := 0) (v := nI 0) (by decide +kernel) rfl ?_
  refine ab_put (pc := 2) fl_X12_50_12 rfl (fun _ => rfl) (fun _ => rfl) (by decide +kernel) (fun h1 eh1 => ?_)
  refine ab_aload_n (pc := 5) (n := 0) (i := 0) (j := 0) (by decide +kernel) rfl rfl ?_
  refine ab_getI (pc := 6) fl_X12_61_12 (by decide +kernel) (fun v2 ev2 => ?_)
  refine ab_bipush (pc := 9) (n := 20) (v := nI 20) (by decide +kernel) (by decide) ?_
  refine ab_iadd (pc := 11) (by decide +kernel) ?_
  refine ab_sipush (pc := 12) (n := 400) (v := nI 400) (by decide +kernel) (by decide) ?_
  refine ab_icmp_le (off := 5) (pc := 15) (tgt := 20) (by decide +kernel) (by decide) (fun g3 => ?_) (fun g3 => ?_)
  · refine ab_iconst (pc := 20) (n := 0) (v := nI 0) (by decide +kernel) rfl ?_
    refine ab_istore (pc := 21) (i := 6) (lv' := [(0, .ref x0), (1, .int x1), (2, .int x2), (3, .int x3), (4, .int x4), (5, .int x5), (6, .int (nI 0))]) (by decide +kernel) (Nat.le_of_ble_eq_true rfl) rfl rfl ?_
    refine lX12_feed_23 hl x0 x1 x2 x3 x4 x5 F (nI 0) h1
  · refine ab_iconst (pc := 18) (n := -1) (v := (-1 : Int32)) (by decide +kernel) rfl ?_
    exact ab_iret (pc := 19) (by decide +kernel) rfl rfl (Nat.le_of_ble_eq_true rfl) (Nat.le_of_ble_eq_true rfl)
set_option maxRecDepth 100000 in
set_option maxHeartbeats 4000000 in
theorem okX12_feed {l : Launch} (hl : l.stackTraces = false) {F : Nat} {x0 : Nat} {x1 : Int32} {x2 : Int32} {x3 : Int32} {x4 : Int32} {x5 : Int32} {h : ab_H} {y : (Int32 × ab_H)} (e : fX12_feed F x0 x1 x2 x3 x4 x5 h = some y) : ab_Met l mX12_feed [.ref x0, .int x1, .int x2, .int x3, .int x4, .int x5] h (.inl (some (.int y.1)), y.2) := ab_ofS (io := (fun y : (Int32 × ab_H) => ((.inl (some (.int y.1)), y.2) : ab_R × ab_H))) (x := y) hl (by decide) rfl (Nat.le_of_ble_eq_true rfl) (wX12_feed hl F x0 x1 x2 x3 x4 x5 h) e
def mX12_end : ab_M := (yX12_end, cX12_end, 2, (some .boolean), { frames := 1, cells := 0, slots := 0, locals := 22 })
theorem iX12_end : ab_MI mX12_end 1 := ⟨kw_3ce965e95a, kw_30b3f7d7c6, by decide +kernel⟩
def fX12_end (x0 : Nat) (x1 : Int32) (h : ab_H) : Option (Int32 × ab_H) := ab_bd (ab_fw h x0 12 0 (.int (nI 0))) fun h1 => ab_bd (ab_fi h1 x0 12 8) fun v2 => ab_bd (fX12_isIn x1 (nI 0) v2 h1) fun v3 => (if v3 = 0 then some (nI 0, h1) else ab_bd (ab_fw h1 x0 12 8 (.int x1)) fun h5 => some (nI 1, h5))
set_option maxRecDepth 100000 in
set_option maxHeartbeats 4000000 in
theorem wX12_end {l : Launch} (hl : l.stackTraces = false) (x0 : Nat) (x1 : Int32) (h : ab_H) : ab_S l mX12_end (fun y : (Int32 × ab_H) => ((.inl (some (.int y.1)), y.2) : ab_R × ab_H)) 0 0 (fX12_end x0 x1 h) 0 [(0, .ref x0), (1, .int x1)] [] h := by
  unfold fX12_end
  refine ab_aload_n (pc := 0) (n := 0) (i := 0) (j := 0) (by decide +kernel) rfl rfl ?_
  refine ab_iconst (pc := 1) (n := 0) (v := nI 0) (by decide +kernel) rfl ?_
  refine ab_put (pc := 2) fl_X12_50_12 rfl (fun _ => rfl) (fun _ => rfl) (by decide +kernel) (fun h1 eh1 => ?_)
  refine ab_iload_n (pc := 5) (n := 1) (i := 1) (j := 1) (by decide +kernel) rfl rfl ?_
  refine ab_iconst (pc := 6) (n := 0) (v := nI 0) (by decide +kernel) rfl ?_
  refine ab_aload_n (pc := 7) (n := 0) (i := 0) (j := 0) (by decide +kernel) rfl rfl ?_
  refine ab_getI (pc := 8) fl_X12_61_12 (by decide +kernel) (fun v2 ev2 => ?_)
  refine ab_callSi (As := [.int x1, .int (nI 0), .int v2]) (st := []) (pc := 11) lk_X12_53 rfl rfl rfl (by decide) rfl (Nat.le_of_ble_eq_true rfl) (by decide +kernel) (fun y9 e9 => okX12_isIn hl e9) (fun v3 ev3 => ?_)
  refine ab_if_ne (off := 5) (pc := 14) (tgt := 19) (by decide +kernel) (by decide) (fun g4 => ?_) (fun g4 => ?_)
  · refine ab_iconst (pc := 17) (n := 0) (v := nI 0) (by decide +kernel) rfl ?_
    exact ab_zret (pc := 18) (by decide +kernel) rfl ab_bl0.1 rfl (Nat.le_of_ble_eq_true rfl) (Nat.le_of_ble_eq_true rfl)
  · refine ab_aload_n (pc := 19) (n := 0) (i := 0) (j := 0) (by decide +kernel) rfl rfl ?_
    refine ab_iload_n (pc := 20) (n := 1) (i := 1) (j := 1) (by decide +kernel) rfl rfl ?_
    refine ab_put (pc := 21) fl_X12_61_12 rfl (fun _ => rfl) (fun _ => rfl) (by decide +kernel) (fun h5 eh5 => ?_)
    refine ab_iconst (pc := 24) (n := 1) (v := nI 1) (by decide +kernel) rfl ?_
    exact ab_zret (pc := 25) (by decide +kernel) rfl ab_bl1.1 rfl (Nat.le_of_ble_eq_true rfl) (Nat.le_of_ble_eq_true rfl)
set_option maxRecDepth 100000 in
set_option maxHeartbeats 4000000 in
theorem okX12_end {l : Launch} (hl : l.stackTraces = false) {x0 : Nat} {x1 : Int32} {h : ab_H} {y : (Int32 × ab_H)} (e : fX12_end x0 x1 h = some y) : ab_Met l mX12_end [.ref x0, .int x1] h (.inl (some (.int y.1)), y.2) := ab_ofS (io := (fun y : (Int32 × ab_H) => ((.inl (some (.int y.1)), y.2) : ab_R × ab_H))) (x := y) hl (by decide) rfl (Nat.le_of_ble_eq_true rfl) (wX12_end hl x0 x1 h) e
def mX12_letter : ab_M := (yX12_letter, cX12_letter, 2, (some .int), { frames := 0, cells := 0, slots := 0, locals := 0 })
theorem iX12_letter : ab_MI mX12_letter 1 := ⟨kw_1b5cc514bc, kw_30b3f7d7c6, by decide +kernel⟩
def fX12_letter (x0 : Nat) (x1 : Int32) (h : ab_H) : Option Int32 := ab_bd (ab_fi h x0 12 9) fun v1 => (if v1 = (-1 : Int32) then ab_bd (ab_fr h x0 12 7) fun v3 => ab_bd (ab_ia 0 h v3 x1) fun v4 => some v4 else ab_bd (ab_fr h x0 12 1) fun v5 => ab_bd (ab_fi h x0 12 9) fun v6 => ab_bd (ab_ia 0 h v5 (v6 + x1)) fun v7 => some v7)
set_option maxRecDepth 100000 in
set_option maxHeartbeats 4000000 in
theorem wX12_letter {l : Launch} (hl : l.stackTraces = false) (x0 : Nat) (x1 : Int32) (h : ab_H) : ab_S l mX12_letter (fun y : Int32 => ((.inl (some (.int y)), h) : ab_R × ab_H)) 0 0 (fX12_letter x0 x1 h) 0 [(0, .ref x0), (1, .int x1)] [] h := by
  unfold fX12_letter
  refine ab_aload_n (pc := 0) (n := 0) (i := 0) (j := 0) (by decide +kernel) rfl rfl ?_
  refine ab_getI (pc := 1) fl_X12_64_12 (by decide +kernel) (fun v1 ev1 => ?_)
  refine ab_iconst (pc := 4) (n := -1) (v := (-1 : Int32)) (by decide +kernel) rfl ?_
  refine ab_icmp_ne (off := 12) (pc := 5) (tgt := 17) (by decide +kernel) (by decide) (fun g2 => ?_) (fun g2 => ?_)
  · refine ab_aload_n (pc := 8) (n := 0) (i := 0) (j := 0) (by decide +kernel) rfl rfl ?_
    refine ab_getR (pc := 9) fl_X12_22_12 (by decide +kernel) (fun v3 ev3 => ?_)
    refine ab_iload_n (pc := 12) (n := 1) (i := 1) (j := 1) (by decide +kernel) rfl rfl ?_
    refine ab_iald (pc := 13) (by decide +kernel) (fun v4 ev4 => ?_)
    refine ab_goto (pc := 14) (off := 14) (tgt := 28) (by decide +kernel) (by decide) ?_
    exact ab_iret (pc := 28) (by decide +kernel) rfl rfl (Nat.le_of_ble_eq_true rfl) (Nat.le_of_ble_eq_true rfl)
  · refine ab_aload_n (pc := 17) (n := 0) (i := 0) (j := 0) (by decide +kernel) rfl rfl ?_
    refine ab_getR (pc := 18) fl_X12_7_12 (by decide +kernel) (fun v5 ev5 => ?_)
    refine ab_aload_n (pc := 21) (n := 0) (i := 0) (j := 0) (by decide +kernel) rfl rfl ?_
    refine ab_getI (pc := 22) fl_X12_64_12 (by decide +kernel) (fun v6 ev6 => ?_)
    refine ab_iload_n (pc := 25) (n := 1) (i := 1) (j := 1) (by decide +kernel) rfl rfl ?_
    refine ab_iadd (pc := 26) (by decide +kernel) ?_
    refine ab_iald (pc := 27) (by decide +kernel) (fun v7 ev7 => ?_)
    exact ab_iret (pc := 28) (by decide +kernel) rfl rfl (Nat.le_of_ble_eq_true rfl) (Nat.le_of_ble_eq_true rfl)
set_option maxRecDepth 100000 in
set_option maxHeartbeats 4000000 in
theorem okX12_letter {l : Launch} (hl : l.stackTraces = false) {x0 : Nat} {x1 : Int32} {h : ab_H} {y : Int32} (e : fX12_letter x0 x1 h = some y) : ab_Met l mX12_letter [.ref x0, .int x1] h (.inl (some (.int y)), h) := ab_ofS (io := (fun y : Int32 => ((.inl (some (.int y)), h) : ab_R × ab_H))) (x := y) hl (by decide) rfl (Nat.le_of_ble_eq_true rfl) (wX12_letter hl x0 x1 h) e
def mX12_skip : ab_M := (yX12_skip, cX12_skip, 1, none, { frames := 1, cells := 0, slots := 0, locals := 21 })
theorem iX12_skip : ab_MI mX12_skip 0 := ⟨kw_7ba47adbe6, kw_30b3f7d7c6, by decide +kernel⟩
theorem lk_X12_73_12 : ab_LV RX12 73 12 mX12_letter 1 := ⟨RX12, rfl, iX12_letter, kw_730712e755, kw_4c0f2ff20d, kw_481e552cd2⟩
def fX12_skip_0 (x0 : Nat) : Nat → ab_H → Option ab_H
  | 0, _ => none
  | n + 1, h => ab_bd (ab_fi h x0 12 11) fun v1 => ab_bd (ab_fi h x0 12 10) fun v2 => (if v1 < v2 then ab_bd (ab_fi h x0 12 11) fun v4 => ab_ck (ab_io h x0 12 = true) (ab_bd (fX12_letter x0 v4 h) fun v5 => (if v5 = (nI 32) then ab_bd (ab_fi h x0 12 11) fun v7 => ab_bd (ab_fw h x0 12 11 (.int (v7 + (nI 1)))) fun h8 => fX12_skip_0 x0 n h8 else some h)) else some h)
def fX12_skip (F : Nat) (x0 : Nat) (h : ab_H) : Option ab_H := fX12_skip_0 x0 F h
set_option maxRecDepth 100000 in
set_option maxHeartbeats 4000000 in
theorem lX12_skip_0 {l : Launch} (hl : l.stackTraces = false) (x0 : Nat) : ∀ (n : Nat) (h : ab_H), ab_S l mX12_skip (fun y : ab_H => ((.inl none, y) : ab_R × ab_H)) 0 0 (fX12_skip_0 x0 n h) 0 [(0, .ref x0)] [] h := by
  intro n
  induction n with
  | zero =>
    intro h
    exact ab_none
  | succ n ih =>
    intro h
    rw [fX12_skip_0]
    refine ab_aload_n (pc := 0) (n := 0) (i := 0) (j := 0) (by decide +kernel) rfl rfl ?_
    refine ab_getI (pc := 1) fl_X12_67_12 (by decide +kernel) (fun v1 ev1 => ?_)
    refine ab_aload_n (pc := 4) (n := 0) (i := 0) (j := 0) (by decide +kernel) rfl rfl ?_
    refine ab_getI (pc := 5) fl_X12_70_12 (by decide +kernel) (fun v2 ev2 => ?_)
    refine ab_icmp_ge (off := 29) (pc := 8) (tgt := 37) (by decide +kernel) (by decide) (fun g3 => ?_) (fun g3 => ?_)
    · refine ab_aload_n (pc := 11) (n := 0) (i := 0) (j := 0) (by decide +kernel) rfl rfl ?_
      refine ab_aload_n (pc := 12) (n := 0) (i := 0) (j := 0) (by decide +kernel) rfl rfl ?_
      refine ab_getI (pc := 13) fl_X12_67_12 (by decide +kernel) (fun v4 ev4 => ?_)
      refine ab_callVi (As := [.int v4]) (st := []) (pc := 16) lk_X12_73_12 rfl rfl rfl (by decide) rfl (Nat.le_of_ble_eq_true rfl) (by decide +kernel) (fun y9 e9 => okX12_letter hl e9) (fun v5 ev5 => ?_)
      refine ab_bipush (pc := 19) (n := 32) (v := nI 32) (by decide +kernel) (by decide) ?_
      refine ab_icmp_ne (off := 16) (pc := 21) (tgt := 37) (by decide +kernel) (by decide) (fun g6 => ?_) (fun g6 => ?_)
      · refine ab_aload_n (pc := 24) (n := 0) (i := 0) (j := 0) (by decide +kernel) rfl rfl ?_
        refine ab_dup (pc := 25) (by decide +kernel) rfl ?_
        refine ab_getI (pc := 26) fl_X12_67_12 (by decide +kernel) (fun v7 ev7 => ?_)
        refine ab_iconst (pc := 29) (n := 1) (v := nI 1) (by decide +kernel) rfl ?_
        refine ab_iadd (pc := 30) (by decide +kernel) ?_
        refine ab_put (pc := 31) fl_X12_67_12 rfl (fun _ => rfl) (fun _ => rfl) (by decide +kernel) (fun h8 eh8 => ?_)
        refine ab_goto (pc := 34) (off := (-34)) (tgt := 0) (by decide +kernel) (by decide) ?_
        exact ih h8
      · exact ab_vret (pc := 37) (by decide +kernel) rfl rfl (Nat.le_of_ble_eq_true rfl) (Nat.le_of_ble_eq_true rfl)
    · exact ab_vret (pc := 37) (by decide +kernel) rfl rfl (Nat.le_of_ble_eq_true rfl) (Nat.le_of_ble_eq_true rfl)
set_option maxRecDepth 100000 in
set_option maxHeartbeats 4000000 in
theorem wX12_skip {l : Launch} (hl : l.stackTraces = false) (F : Nat) (x0 : Nat) (h : ab_H) : ab_S l mX12_skip (fun y : ab_H => ((.inl none, y) : ab_R × ab_H)) 0 0 (fX12_skip F x0 h) 0 [(0, .ref x0)] [] h := by
  unfold fX12_skip
  refine lX12_skip_0 hl x0 F h
set_option maxRecDepth 100000 in
set_option maxHeartbeats 4000000 in
theorem okX12_skip {l : Launch} (hl : l.stackTraces = false) {F : Nat} {x0 : Nat} {h : ab_H} {y : ab_H} (e : fX12_skip F x0 h = some y) : ab_Met l mX12_skip [.ref x0] h (.inl none, y) := ab_ofS (io := (fun y : ab_H => ((.inl none, y) : ab_R × ab_H))) (x := y) hl (by decide) rfl (Nat.le_of_ble_eq_true rfl) (wX12_skip hl F x0 h) e
def mX12_isSign : ab_M := (yX12_isSign, cX12_isSign, 2, (some .boolean), { frames := 2, cells := 0, slots := 0, locals := 41 })
theorem iX12_isSign : ab_MI mX12_isSign 1 := ⟨kw_8774b7bf8f, kw_30b3f7d7c6, by decide +kernel⟩
theorem lk_X12_77_12 : ab_LV RX12 77 12 mX12_skip 0 := ⟨RX12, rfl, iX12_skip, kw_043c433e15, kw_70c2eb0005, kw_e50515c236⟩
def fX12_isSign (F : Nat) (x0 : Nat) (x1 : Int32) (h : ab_H) : Option (Int32 × ab_H) := ab_ck (ab_io h x0 12 = true) (ab_bd (fX12_skip F x0 h) fun h1 => ab_bd (ab_fi h1 x0 12 11) fun v2 => ab_bd (ab_fi h1 x0 12 10) fun v3 => (if v2 < v3 then ab_bd (ab_fi h1 x0 12 11) fun v5 => ab_ck (ab_io h1 x0 12 = true) (ab_bd (fX12_letter x0 v5 h1) fun v6 => (if v6 = x1 then some (nI 1, h1) else some (nI 0, h1))) else some (nI 0, h1)))
set_option maxRecDepth 100000 in
set_option maxHeartbeats 4000000 in
theorem wX12_isSign {l : Launch} (hl : l.stackTraces = false) (F : Nat) (x0 : Nat) (x1 : Int32) (h : ab_H) : ab_S l mX12_isSign (fun y : (Int32 × ab_H) => ((.inl (some (.int y.1)), y.2) : ab_R × ab_H)) 0 0 (fX12_isSign F x0 x1 h) 0 [(0, .ref x0), (1, .int x1)] [] h := by
  unfold fX12_isSign
  refine ab_aload_n (pc := 0) (n := 0) (i := 0) (j := 0) (by decide +kernel) rfl rfl ?_
  refine ab_callVw (As := []) (st := []) (pc := 1) lk_X12_77_12 rfl rfl rfl (by decide) rfl (Nat.le_of_ble_eq_true rfl) (by decide +kernel) (fun y9 e9 => okX12_skip hl (F := F) e9) (fun h1 eh1 => ?_)
  refine ab_aload_n (pc := 4) (n := 0) (i := 0) (j := 0) (by decide +kernel) rfl rfl ?_
  refine ab_getI (pc := 5) fl_X12_67_12 (by decide +kernel) (fun v2 ev2 => ?_)
  refine ab_aload_n (pc := 8) (n := 0) (i := 0) (j := 0) (by decide +kernel) rfl rfl ?_
  refine ab_getI (pc := 9) fl_X12_70_12 (by decide +kernel) (fun v3 ev3 => ?_)
  refine ab_icmp_ge (off := 19) (pc := 12) (tgt := 31) (by decide +kernel) (by decide) (fun g4 => ?_) (fun g4 => ?_)
  · refine ab_aload_n (pc := 15) (n := 0) (i := 0) (j := 0) (by decide +kernel) rfl rfl ?_
    refine ab_aload_n (pc := 16) (n := 0) (i := 0) (j := 0) (by decide +kernel) rfl rfl ?_
    refine ab_getI (pc := 17) fl_X12_67_12 (by decide +kernel) (fun v5 ev5 => ?_)
    refine ab_callVi (As := [.int v5]) (st := []) (pc := 20) lk_X12_73_12 rfl rfl rfl (by decide) rfl (Nat.le_of_ble_eq_true rfl) (by decide +kernel) (fun y9 e9 => okX12_letter hl e9) (fun v6 ev6 => ?_)
    refine ab_iload_n (pc := 23) (n := 1) (i := 1) (j := 1) (by decide +kernel) rfl rfl ?_
    refine ab_icmp_ne (off := 7) (pc := 24) (tgt := 31) (by decide +kernel) (by decide) (fun g7 => ?_) (fun g7 => ?_)
    · refine ab_iconst (pc := 27) (n := 1) (v := nI 1) (by decide +kernel) rfl ?_
      refine ab_goto (pc := 28) (off := 4) (tgt := 32) (by decide +kernel) (by decide) ?_
      exact ab_zret (pc := 32) (by decide +kernel) rfl ab_bl1.1 rfl (Nat.le_of_ble_eq_true rfl) (Nat.le_of_ble_eq_true rfl)
    · refine ab_iconst (pc := 31) (n := 0) (v := nI 0) (by decide +kernel) rfl ?_
      exact ab_zret (pc := 32) (by decide +kernel) rfl ab_bl0.1 rfl (Nat.le_of_ble_eq_true rfl) (Nat.le_of_ble_eq_true rfl)
  · refine ab_iconst (pc := 31) (n := 0) (v := nI 0) (by decide +kernel) rfl ?_
    exact ab_zret (pc := 32) (by decide +kernel) rfl ab_bl0.1 rfl (Nat.le_of_ble_eq_true rfl) (Nat.le_of_ble_eq_true rfl)
set_option maxRecDepth 100000 in
set_option maxHeartbeats 4000000 in
theorem okX12_isSign {l : Launch} (hl : l.stackTraces = false) {F : Nat} {x0 : Nat} {x1 : Int32} {h : ab_H} {y : (Int32 × ab_H)} (e : fX12_isSign F x0 x1 h = some y) : ab_Met l mX12_isSign [.ref x0, .int x1] h (.inl (some (.int y.1)), y.2) := ab_ofS (io := (fun y : (Int32 × ab_H) => ((.inl (some (.int y.1)), y.2) : ab_R × ab_H))) (x := y) hl (by decide) rfl (Nat.le_of_ble_eq_true rfl) (wX12_isSign hl F x0 x1 h) e
def mX12_isFigure : ab_M := (yX12_isFigure, cX12_isFigure, 1, (some .boolean), { frames := 2, cells := 0, slots := 0, locals := 41 })
theorem iX12_isFigure : ab_MI mX12_isFigure 0 := ⟨kw_1ec463fcd5, kw_30b3f7d7c6, by decide +kernel⟩
def fX12_isFigure (F : Nat) (x0 : Nat) (h : ab_H) : Option (Int32 × ab_H) := ab_ck (ab_io h x0 12 = true) (ab_bd (fX12_skip F x0 h) fun h1 => ab_bd (ab_fi h1 x0 12 11) fun v2 => ab_bd (ab_fi h1 x0 12 10) fun v3 => (if v2 < v3 then ab_bd (ab_fi h1 x0 12 11) fun v5 => ab_ck (ab_io h1 x0 12 = true) (ab_bd (fX12_letter x0 v5 h1) fun v6 => ab_bd (fX12_isIn v6 (nI 48) (nI 57) h1) fun v7 => (if v7 = 0 then some (nI 0, h1) else some (nI 1, h1))) else some (nI 0, h1)))
set_option maxRecDepth 100000 in
set_option maxHeartbeats 4000000 in
theorem wX12_isFigure {l : Launch} (hl : l.stackTraces = false) (F : Nat) (x0 : Nat) (h : ab_H) : ab_S l mX12_isFigure (fun y : (Int32 × ab_H) => ((.inl (some (.int y.1)), y.2) : ab_R × ab_H)) 0 0 (fX12_isFigure F x0 h) 0 [(0, .ref x0)] [] h := by
  unfold fX12_isFigure
  refine ab_aload_n (pc := 0) (n := 0) (i := 0) (j := 0) (by decide +kernel) rfl rfl ?_
  refine ab_callVw (As := []) (st := []) (pc := 1) lk_X12_77_12 rfl rfl rfl (by decide) rfl (Nat.le_of_ble_eq_true rfl) (by decide +kernel) (fun y9 e9 => okX12_skip hl (F := F) e9) (fun h1 eh1 => ?_)
  refine ab_aload_n (pc := 4) (n := 0) (i := 0) (j := 0) (by decide +kernel) rfl rfl ?_
  refine ab_getI (pc := 5) fl_X12_67_12 (by decide +kernel) (fun v2 ev2 => ?_)
  refine ab_aload_n (pc := 8) (n := 0) (i := 0) (j := 0) (by decide +kernel) rfl rfl ?_
  refine ab_getI (pc := 9) fl_X12_70_12 (by decide +kernel) (fun v3 ev3 => ?_)
  refine ab_icmp_ge (off := 25) (pc := 12) (tgt := 37) (by decide +kernel) (by decide) (fun g4 => ?_) (fun g4 => ?_)
  · refine ab_aload_n (pc := 15) (n := 0) (i := 0) (j := 0) (by decide +kernel) rfl rfl ?_
    refine ab_aload_n (pc := 16) (n := 0) (i := 0) (j := 0) (by decide +kernel) rfl rfl ?_
    refine ab_getI (pc := 17) fl_X12_67_12 (by decide +kernel) (fun v5 ev5 => ?_)
    refine ab_callVi (As := [.int v5]) (st := []) (pc := 20) lk_X12_73_12 rfl rfl rfl (by decide) rfl (Nat.le_of_ble_eq_true rfl) (by decide +kernel) (fun y9 e9 => okX12_letter hl e9) (fun v6 ev6 => ?_)
    refine ab_bipush (pc := 23) (n := 48) (v := nI 48) (by decide +kernel) (by decide) ?_
    refine ab_bipush (pc := 25) (n := 57) (v := nI 57) (by decide +kernel) (by decide) ?_
    refine ab_callSi (As := [.int v6, .int (nI 48), .int (nI 57)]) (st := []) (pc := 27) lk_X12_53 rfl rfl rfl (by decide) rfl (Nat.le_of_ble_eq_true rfl) (by decide +kernel) (fun y9 e9 => okX12_isIn hl e9) (fun v7 ev7 => ?_)
    refine ab_if_eq (off := 7) (pc := 30) (tgt := 37) (by decide +kernel) (by decide) (fun g8 => ?_) (fun g8 => ?_)
    · refine ab_iconst (pc := 37) (n := 0) (v := nI 0) (by decide +kernel) rfl ?_
      exact ab_zret (pc := 38) (by decide +kernel) rfl ab_bl0.1 rfl (Nat.le_of_ble_eq_true rfl) (Nat.le_of_ble_eq_true rfl)
    · refine ab_iconst (pc := 33) (n := 1) (v := nI 1) (by decide +kernel) rfl ?_
      refine ab_goto (pc := 34) (off := 4) (tgt := 38) (by decide +kernel) (by decide) ?_
      exact ab_zret (pc := 38) (by decide +kernel) rfl ab_bl1.1 rfl (Nat.le_of_ble_eq_true rfl) (Nat.le_of_ble_eq_true rfl)
  · refine ab_iconst (pc := 37) (n := 0) (v := nI 0) (by decide +kernel) rfl ?_
    exact ab_zret (pc := 38) (by decide +kernel) rfl ab_bl0.1 rfl (Nat.le_of_ble_eq_true rfl) (Nat.le_of_ble_eq_true rfl)
set_option maxRecDepth 100000 in
set_option maxHeartbeats 4000000 in
theorem okX12_isFigure {l : Launch} (hl : l.stackTraces = false) {F : Nat} {x0 : Nat} {h : ab_H} {y : (Int32 × ab_H)} (e : fX12_isFigure F x0 h = some y) : ab_Met l mX12_isFigure [.ref x0] h (.inl (some (.int y.1)), y.2) := ab_ofS (io := (fun y : (Int32 × ab_H) => ((.inl (some (.int y.1)), y.2) : ab_R × ab_H))) (x := y) hl (by decide) rfl (Nat.le_of_ble_eq_true rfl) (wX12_isFigure hl F x0 h) e
def mX12_has_ : ab_M := (yX12_has_, cX12_has_, 4, (some .boolean), { frames := 4, cells := 0, slots := 0, locals := 85 })
theorem iX12_has_ : ab_MI mX12_has_ 1 := ⟨kw_f7ef36c1dc, kw_30b3f7d7c6, by decide +kernel⟩
def fX12_has__9 (F : Nat) (x0 : Nat) (x1 : Nat) (h : ab_H) (k38 : Int32 → Option (Int32 × ab_H)) : Nat → Int32 → Option (Int32 × ab_H)
  | 0, _ => none
  | n + 1, x2 => ab_bd (ab_fi h x0 12 10) fun v3 => (if x2 < v3 then ab_ck (ab_io h x0 12 = true) (ab_bd (fX12_letter x0 x2 h) fun v5 => ab_bd (fX12_isIn v5 (nI 97) (nI 122) h) fun v6 => (if v6 = 0 then k38 x2 else fX12_has__9 F x0 x1 h k38 n (x2 + nI 1))) else k38 x2)
def fX12_has__55 (F : Nat) (x0 : Nat) (x1 : Nat) (x2 : Int32) (h : ab_H) : Nat → Int32 → Option (Int32 × ab_H)
  | 0, _ => none
  | n + 1, x3 => ab_bd (ab_sL x1) fun v12 => (if x3 < v12 then ab_bd (ab_fi h x0 12 11) fun v14 => ab_ck (ab_io h x0 12 = true) (ab_bd (fX12_letter x0 (v14 + x3) h) fun v15 => ab_bd (ab_sC x1 x3) fun v16 => (if v15 = v16 then fX12_has__55 F x0 x1 x2 h n (x3 + nI 1) else some (nI 0, h))) else ab_bd (ab_fw h x0 12 11 (.int x2)) fun h18 => some (nI 1, h18))
def fX12_has_ (F : Nat) (x0 : Nat) (x1 : Nat) (h : ab_H) : Option (Int32 × ab_H) := ab_ck (ab_io h x0 12 = true) (ab_bd (fX12_skip F x0 h) fun h1 => ab_bd (ab_fi h1 x0 12 11) fun v2 => fX12_has__9 F x0 x1 h1 (fun (z8 : Int32) => ab_bd (ab_fi h1 x0 12 11) fun v9 => ab_bd (ab_sL x1) fun v10 => (if (z8 - v9) = v10 then fX12_has__55 F x0 x1 z8 h1 F (nI 0) else some (nI 0, h1))) F v2)
set_option maxRecDepth 100000 in
set_option maxHeartbeats 4000000 in
theorem lX12_has__9 {l : Launch} (hl : l.stackTraces = false) (F : Nat) (x0 : Nat) (x1 : Nat) (h : ab_H) {k38 : Int32 → Option (Int32 × ab_H)} (hk38 : ∀ (x2 : Int32), ab_S l mX12_has_ (fun y : (Int32 × ab_H) => ((.inl (some (.int y.1)), y.2) : ab_R × ab_H)) 0 0 (k38 x2) 38 [(0, .ref x0), (1, .ref x1), (2, .int x2)] [] h) : ∀ (n : Nat) (x2 : Int32), ab_S l mX12_has_ (fun y : (Int32 × ab_H) => ((.inl (some (.int y.1)), y.2) : ab_R × ab_H)) 0 0 (fX12_has__9 F x0 x1 h k38 n x2) 9 [(0, .ref x0), (1, .ref x1), (2, .int x2)] [] h := by
  intro n
  induction n with
  | zero =>
    intro x2
    exact ab_none
  | succ n ih =>
    intro x2
    rw [fX12_has__9]
    refine ab_iload_n (pc := 9) (n := 2) (i := 2) (j := 2) (by decide +kernel) rfl rfl ?_
    refine ab_aload_n (pc := 10) (n := 0) (i := 0) (j := 0) (by decide +kernel) rfl rfl ?_
    refine ab_getI (pc := 11) fl_X12_70_12 (by decide +kernel) (fun v3 ev3 => ?_)
    refine ab_icmp_ge (off := 24) (pc := 14) (tgt := 38) (by decide +kernel) (by decide) (fun g4 => ?_) (fun g4 => ?_)
    · refine ab_aload_n (pc := 17) (n := 0) (i := 0) (j := 0) (by decide +kernel) rfl rfl ?_
      refine ab_iload_n (pc := 18) (n := 2) (i := 2) (j := 2) (by decide +kernel) rfl rfl ?_
      refine ab_callVi (As := [.int x2]) (st := []) (pc := 19) lk_X12_73_12 rfl rfl rfl (by decide) rfl (Nat.le_of_ble_eq_true rfl) (by decide +kernel) (fun y9 e9 => okX12_letter hl e9) (fun v5 ev5 => ?_)
      refine ab_bipush (pc := 22) (n := 97) (v := nI 97) (by decide +kernel) (by decide) ?_
      refine ab_bipush (pc := 24) (n := 122) (v := nI 122) (by decide +kernel) (by decide) ?_
      refine ab_callSi (As := [.int v5, .int (nI 97), .int (nI 122)]) (st := []) (pc := 26) lk_X12_53 rfl rfl rfl (by decide) rfl (Nat.le_of_ble_eq_true rfl) (by decide +kernel) (fun y9 e9 => okX12_isIn hl e9) (fun v6 ev6 => ?_)
      refine ab_if_eq (off := 9) (pc := 29) (tgt := 38) (by decide +kernel) (by decide) (fun g7 => ?_) (fun g7 => ?_)
      · exact hk38 x2
      · refine ab_iinc (pc := 32) (i := 2) (n := 1) (j := 2) (d := nI 1) (lv' := [(0, .ref x0), (1, .ref x1), (2, .int (x2 + nI 1))]) (by decide +kernel) rfl rfl (Nat.le_of_ble_eq_true rfl) rfl rfl ?_
        refine ab_goto (pc := 35) (off := (-26)) (tgt := 9) (by decide +kernel) (by decide) ?_
        exact ih (x2 + nI 1)
    · exact hk38 x2
set_option maxRecDepth 100000 in
set_option maxHeartbeats 4000000 in
theorem lX12_has__55 {l : Launch} (hl : l.stackTraces = false) (F : Nat) (x0 : Nat) (x1 : Nat) (x2 : Int32) (h : ab_H) : ∀ (n : Nat) (x3 : Int32), ab_S l mX12_has_ (fun y : (Int32 × ab_H) => ((.inl (some (.int y.1)), y.2) : ab_R × ab_H)) 0 0 (fX12_has__55 F x0 x1 x2 h n x3) 55 [(0, .ref x0), (1, .ref x1), (2, .int x2), (3, .int x3)] [] h := by
  intro n
  induction n with
  | zero =>
    intro x3
    exact ab_none
  | succ n ih =>
    intro x3
    rw [fX12_has__55]
    refine ab_iload_n (pc := 55) (n := 3) (i := 3) (j := 3) (by decide +kernel) rfl rfl ?_
    refine ab_aload_n (pc := 56) (n := 1) (i := 1) (j := 1) (by decide +kernel) rfl rfl ?_
    refine ab_callVs (As := []) (st := [.int x3]) (pc := 57) (index := 80) iJ0_length_8abf5 kw_131db231b3 kw_a4669d76c9 kw_6241048d1d rfl rfl rfl (by decide) rfl (Nat.le_of_ble_eq_true rfl) (by decide +kernel) (fun y9 e9 => ab_sL_in e9) (fun y9 e9 => okJ0_length_8abf5 hl e9) (fun v12 ev12 => ?_)
    refine ab_icmp_ge (off := 29) (pc := 60) (tgt := 89) (by decide +kernel) (by decide) (fun g13 => ?_) (fun g13 => ?_)
    · refine ab_aload_n (pc := 63) (n := 0) (i := 0) (j := 0) (by decide +kernel) rfl rfl ?_
      refine ab_aload_n (pc := 64) (n := 0) (i := 0) (j := 0) (by decide +kernel) rfl rfl ?_
      refine ab_getI (pc := 65) fl_X12_67_12 (by decide +kernel) (fun v14 ev14 => ?_)
      refine ab_iload_n (pc := 68) (n := 3) (i := 3) (j := 3) (by decide +kernel) rfl rfl ?_
      refine ab_iadd (pc := 69) (by decide +kernel) ?_
      refine ab_callVi (As := [.int (v14 + x3)]) (st := []) (pc := 70) lk_X12_73_12 rfl rfl rfl (by decide) rfl (Nat.le_of_ble_eq_true rfl) (by decide +kernel) (fun y9 e9 => okX12_letter hl e9) (fun v15 ev15 => ?_)
      refine ab_aload_n (pc := 73) (n := 1) (i := 1) (j := 1) (by decide +kernel) rfl rfl ?_
      refine ab_iload_n (pc := 74) (n := 3) (i := 3) (j := 3) (by decide +kernel) rfl rfl ?_
      refine ab_callVs (As := [.int x3]) (st := [.int v15]) (pc := 75) (index := 86) iJ0_charAt_5068e kw_e9488f81cd kw_4aa780f2d5 kw_36ffa5c8dc rfl rfl rfl (by decide) rfl (Nat.le_of_ble_eq_true rfl) (by decide +kernel) (fun y9 e9 => ab_sC_in e9) (fun y9 e9 => okJ0_charAt_5068e hl e9) (fun v16 ev16 => ?_)
      refine ab_icmp_eq (off := 5) (pc := 78) (tgt := 83) (by decide +kernel) (by decide) (fun g17 => ?_) (fun g17 => ?_)
      · refine ab_iinc (pc := 83) (i := 3) (n := 1) (j := 3) (d := nI 1) (lv' := [(0, .ref x0), (1, .ref x1), (2, .int x2), (3, .int (x3 + nI 1))]) (by decide +kernel) rfl rfl (Nat.le_of_ble_eq_true rfl) rfl rfl ?_
        refine ab_goto (pc := 86) (off := (-31)) (tgt := 55) (by decide +kernel) (by decide) ?_
        exact ih (x3 + nI 1)
      · refine ab_iconst (pc := 81) (n := 0) (v := nI 0) (by decide +kernel) rfl ?_
        exact ab_zret (pc := 82) (by decide +kernel) rfl ab_bl0.1 rfl (Nat.le_of_ble_eq_true rfl) (Nat.le_of_ble_eq_true rfl)
    · refine ab_aload_n (pc := 89) (n := 0) (i := 0) (j := 0) (by decide +kernel) rfl rfl ?_
      refine ab_iload_n (pc := 90) (n := 2) (i := 2) (j := 2) (by decide +kernel) rfl rfl ?_
      refine ab_put (pc := 91) fl_X12_67_12 rfl (fun _ => rfl) (fun _ => rfl) (by decide +kernel) (fun h18 eh18 => ?_)
      refine ab_iconst (pc := 94) (n := 1) (v := nI 1) (by decide +kernel) rfl ?_
      exact ab_zret (pc := 95) (by decide +kernel) rfl ab_bl1.1 rfl (Nat.le_of_ble_eq_true rfl) (Nat.le_of_ble_eq_true rfl)
set_option maxRecDepth 100000 in
set_option maxHeartbeats 4000000 in
theorem wX12_has_ {l : Launch} (hl : l.stackTraces = false) (F : Nat) (x0 : Nat) (x1 : Nat) (h : ab_H) : ab_S l mX12_has_ (fun y : (Int32 × ab_H) => ((.inl (some (.int y.1)), y.2) : ab_R × ab_H)) 0 0 (fX12_has_ F x0 x1 h) 0 [(0, .ref x0), (1, .ref x1)] [] h := by
  unfold fX12_has_
  refine ab_aload_n (pc := 0) (n := 0) (i := 0) (j := 0) (by decide +kernel) rfl rfl ?_
  refine ab_callVw (As := []) (st := []) (pc := 1) lk_X12_77_12 rfl rfl rfl (by decide) rfl (Nat.le_of_ble_eq_true rfl) (by decide +kernel) (fun y9 e9 => okX12_skip hl (F := F) e9) (fun h1 eh1 => ?_)
  refine ab_aload_n (pc := 4) (n := 0) (i := 0) (j := 0) (by decide +kernel) rfl rfl ?_
  refine ab_getI (pc := 5) fl_X12_67_12 (by decide +kernel) (fun v2 ev2 => ?_)
  refine ab_istore_n (pc := 8) (n := 2) (i := 2) (lv' := [(0, .ref x0), (1, .ref x1), (2, .int v2)]) (by decide +kernel) rfl (Nat.le_of_ble_eq_true rfl) rfl rfl ?_
  refine lX12_has__9 hl F x0 x1 h1 ?_ F v2
  intro z8
  refine ab_iload_n (pc := 38) (n := 2) (i := 2) (j := 2) (by decide +kernel) rfl rfl ?_
  refine ab_aload_n (pc := 39) (n := 0) (i := 0) (j := 0) (by decide +kernel) rfl rfl ?_
  refine ab_getI (pc := 40) fl_X12_67_12 (by decide +kernel) (fun v9 ev9 => ?_)
  refine ab_isub (pc := 43) (by decide +kernel) ?_
  refine ab_aload_n (pc := 44) (n := 1) (i := 1) (j := 1) (by decide +kernel) rfl rfl ?_
  refine ab_callVs (As := []) (st := [.int (z8 - v9)]) (pc := 45) (index := 80) iJ0_length_8abf5 kw_131db231b3 kw_a4669d76c9 kw_6241048d1d rfl rfl rfl (by decide) rfl (Nat.le_of_ble_eq_true rfl) (by decide +kernel) (fun y9 e9 => ab_sL_in e9) (fun y9 e9 => okJ0_length_8abf5 hl e9) (fun v10 ev10 => ?_)
  refine ab_icmp_eq (off := 5) (pc := 48) (tgt := 53) (by decide +kernel) (by decide) (fun g11 => ?_) (fun g11 => ?_)
  · refine ab_iconst (pc := 53) (n := 0) (v := nI 0) (by decide +kernel) rfl ?_
    refine ab_istore_n (pc := 54) (n := 3) (i := 3) (lv' := [(0, .ref x0), (1, .ref x1), (2, .int z8), (3, .int (nI 0))]) (by decide +kernel) rfl (Nat.le_of_ble_eq_true rfl) rfl rfl ?_
    refine lX12_has__55 hl F x0 x1 z8 h1 F (nI 0)
  · refine ab_iconst (pc := 51) (n := 0) (v := nI 0) (by decide +kernel) rfl ?_
    exact ab_zret (pc := 52) (by decide +kernel) rfl ab_bl0.1 rfl (Nat.le_of_ble_eq_true rfl) (Nat.le_of_ble_eq_true rfl)
set_option maxRecDepth 100000 in
set_option maxHeartbeats 4000000 in
theorem okX12_has_ {l : Launch} (hl : l.stackTraces = false) {F : Nat} {x0 : Nat} {x1 : Nat} {h : ab_H} {y : (Int32 × ab_H)} (e : fX12_has_ F x0 x1 h = some y) : ab_Met l mX12_has_ [.ref x0, .ref x1] h (.inl (some (.int y.1)), y.2) := ab_ofS (io := (fun y : (Int32 × ab_H) => ((.inl (some (.int y.1)), y.2) : ab_R × ab_H))) (x := y) hl (by decide) rfl (Nat.le_of_ble_eq_true rfl) (wX12_has_ hl F x0 x1 h) e
def mX12_wrong : ab_M := (yX12_wrong, cX12_wrong, 2, none, { frames := 0, cells := 0, slots := 0, locals := 0 })
theorem iX12_wrong : ab_MI mX12_wrong 1 := ⟨kw_2b35e14d73, kw_30b3f7d7c6, by decide +kernel⟩
def fX12_wrong (x0 : Nat) (x1 : Int32) (h : ab_H) : Option ab_H := ab_bd (ab_fi h x0 12 12) fun v1 => (if v1 = (-1 : Int32) then ab_bd (ab_fw h x0 12 12 (.int x1)) fun h3 => some h3 else some h)
set_option maxRecDepth 100000 in
set_option maxHeartbeats 4000000 in
theorem wX12_wrong {l : Launch} (hl : l.stackTraces = false) (x0 : Nat) (x1 : Int32) (h : ab_H) : ab_S l mX12_wrong (fun y : ab_H => ((.inl none, y) : ab_R × ab_H)) 0 0 (fX12_wrong x0 x1 h) 0 [(0, .ref x0), (1, .int x1)] [] h := by
  unfold fX12_wrong
  refine ab_aload_n (pc := 0) (n := 0) (i := 0) (j := 0) (by decide +kernel) rfl rfl ?_
  refine ab_getI (pc := 1) fl_X12_25_12 (by decide +kernel) (fun v1 ev1 => ?_)
  refine ab_iconst (pc := 4) (n := -1) (v := (-1 : Int32)) (by decide +kernel) rfl ?_
  refine ab_icmp_ne (off := 8) (pc := 5) (tgt := 13) (by decide +kernel) (by decide) (fun g2 => ?_) (fun g2 => ?_)
  · refine ab_aload_n (pc := 8) (n := 0) (i := 0) (j := 0) (by decide +kernel) rfl rfl ?_
    refine ab_iload_n (pc := 9) (n := 1) (i := 1) (j := 1) (by decide +kernel) rfl rfl ?_
    refine ab_put (pc := 10) fl_X12_25_12 rfl (fun _ => rfl) (fun _ => rfl) (by decide +kernel) (fun h3 eh3 => ?_)
    exact ab_vret (pc := 13) (by decide +kernel) rfl rfl (Nat.le_of_ble_eq_true rfl) (Nat.le_of_ble_eq_true rfl)
  · exact ab_vret (pc := 13) (by decide +kernel) rfl rfl (Nat.le_of_ble_eq_true rfl) (Nat.le_of_ble_eq_true rfl)
set_option maxRecDepth 100000 in
set_option maxHeartbeats 4000000 in
theorem okX12_wrong {l : Launch} (hl : l.stackTraces = false) {x0 : Nat} {x1 : Int32} {h : ab_H} {y : ab_H} (e : fX12_wrong x0 x1 h = some y) : ab_Met l mX12_wrong [.ref x0, .int x1] h (.inl none, y) := ab_ofS (io := (fun y : ab_H => ((.inl none, y) : ab_R × ab_H))) (x := y) hl (by decide) rfl (Nat.le_of_ble_eq_true rfl) (wX12_wrong hl x0 x1 h) e
def mX12_place : ab_M := (yX12_place, cX12_place, 1, (some .int), { frames := 2, cells := 0, slots := 0, locals := 41 })
theorem iX12_place : ab_MI mX12_place 0 := ⟨kw_039d341fa6, kw_30b3f7d7c6, by decide +kernel⟩
def fX12_place (F : Nat) (x0 : Nat) (h : ab_H) : Option (Int32 × ab_H) := ab_ck (ab_io h x0 12 = true) (ab_bd (fX12_skip F x0 h) fun h1 => ab_bd (ab_fi h1 x0 12 11) fun v2 => some (v2, h1))
set_option maxRecDepth 100000 in
set_option maxHeartbeats 4000000 in
theorem wX12_place {l : Launch} (hl : l.stackTraces = false) (F : Nat) (x0 : Nat) (h : ab_H) : ab_S l mX12_place (fun y : (Int32 × ab_H) => ((.inl (some (.int y.1)), y.2) : ab_R × ab_H)) 0 0 (fX12_place F x0 h) 0 [(0, .ref x0)] [] h := by
  unfold fX12_place
  refine ab_aload_n (pc := 0) (n := 0) (i := 0) (j := 0) (by decide +kernel) rfl rfl ?_
  refine ab_callVw (As := []) (st := []) (pc := 1) lk_X12_77_12 rfl rfl rfl (by decide) rfl (Nat.le_of_ble_eq_true rfl) (by decide +kernel) (fun y9 e9 => okX12_skip hl (F := F) e9) (fun h1 eh1 => ?_)
  refine ab_aload_n (pc := 4) (n := 0) (i := 0) (j := 0) (by decide +kernel) rfl rfl ?_
  refine ab_getI (pc := 5) fl_X12_67_12 (by decide +kernel) (fun v2 ev2 => ?_)
  exact ab_iret (pc := 8) (by decide +kernel) rfl rfl (Nat.le_of_ble_eq_true rfl) (Nat.le_of_ble_eq_true rfl)
set_option maxRecDepth 100000 in
set_option maxHeartbeats 4000000 in
theorem okX12_place {l : Launch} (hl : l.stackTraces = false) {F : Nat} {x0 : Nat} {h : ab_H} {y : (Int32 × ab_H)} (e : fX12_place F x0 h = some y) : ab_Met l mX12_place [.ref x0] h (.inl (some (.int y.1)), y.2) := ab_ofS (io := (fun y : (Int32 × ab_H) => ((.inl (some (.int y.1)), y.2) : ab_R × ab_H))) (x := y) hl (by decide) rfl (Nat.le_of_ble_eq_true rfl) (wX12_place hl F x0 h) e
def mX12_figures : ab_M := (yX12_figures, cX12_figures, 5, (some .int), { frames := 3, cells := 0, slots := 0, locals := 61 })
theorem iX12_figures : ab_MI mX12_figures 2 := ⟨kw_750ee8150b, kw_30b3f7d7c6, by decide +kernel⟩
theorem lk_X12_90_12 : ab_LV RX12 90 12 mX12_place 0 := ⟨RX12, rfl, iX12_place, kw_c6207ff7ee, kw_ab2d5b979e, kw_1139187b65⟩
theorem lk_X12_93_12 : ab_LV RX12 93 12 mX12_wrong 1 := ⟨RX12, rfl, iX12_wrong, kw_e2cd1ea8ed, kw_44b151cf55, kw_4c04c20346⟩
def fX12_figures_18 (F : Nat) (x0 : Nat) (x1 : Int32) (x2 : Int32) (x3 : Int32) (k89 : Int32 → ab_H → Option (Int32 × ab_H)) : Nat → Int32 → ab_H → Option (Int32 × ab_H)
  | 0, _, _ => none
  | n + 1, x4, h => ab_bd (ab_fi h x0 12 11) fun v4 => ab_bd (ab_fi h x0 12 10) fun v5 => (if v4 < v5 then ab_bd (ab_fi h x0 12 11) fun v7 => ab_ck (ab_io h x0 12 = true) (ab_bd (fX12_letter x0 v7 h) fun v8 => ab_bd (fX12_isIn v8 (nI 48) (nI 57) h) fun v9 => (if v9 = 0 then k89 x4 h else ab_bd (ab_fi h x0 12 11) fun v11 => (if (v11 - x3) ≤ (nI 3) then ab_bd (ab_fi h x0 12 11) fun v13 => ab_ck (ab_io h x0 12 = true) (ab_bd (fX12_letter x0 v13 h) fun v14 => ab_bd (ab_fi h x0 12 11) fun v15 => ab_bd (ab_fw h x0 12 11 (.int (v15 + (nI 1)))) fun h16 => fX12_figures_18 F x0 x1 x2 x3 k89 n ((((nI 10) * x4) + v14) - (nI 48)) h16) else k89 x4 h))) else k89 x4 h)
def fX12_figures (F : Nat) (x0 : Nat) (x1 : Int32) (x2 : Int32) (h : ab_H) : Option (Int32 × ab_H) := ab_bd (ab_fi h x0 12 12) fun v1 => (if v1 = (-1 : Int32) then ab_ck (ab_io h x0 12 = true) (ab_bd (fX12_place F x0 h) fun v3 => fX12_figures_18 F x0 x1 x2 v3.1 (fun (z17 : Int32) (h18 : ab_H) => ab_bd (ab_fi h18 x0 12 11) fun v19 => ab_jn (κ := Option (Int32 × ab_H)) (ab_ck (ab_io h18 x0 12 = true) (ab_bd (fX12_wrong x0 v3.1 h18) fun h20 => some (z17, h20))) fun j21 => (if v19 = v3.1 then j21 else ab_bd (ab_fi h18 x0 12 11) fun v23 => (if (v23 - v3.1) ≤ (nI 3) then (if z17 < x1 then j21 else (if z17 ≤ x2 then some (z17, h18) else j21)) else j21))) F (nI 0) v3.2) else some (nI 0, h))
set_option maxRecDepth 100000 in
set_option maxHeartbeats 4000000 in
theorem lX12_figures_18 {l : Launch} (hl : l.stackTraces = false) (F : Nat) (x0 : Nat) (x1 : Int32) (x2 : Int32) (x3 : Int32) {k89 : Int32 → ab_H → Option (Int32 × ab_H)} (hk89 : ∀ (x4 : Int32), ∀ (h : ab_H), ab_S l mX12_figures (fun y : (Int32 × ab_H) => ((.inl (some (.int y.1)), y.2) : ab_R × ab_H)) 0 0 (k89 x4 h) 89 [(0, .ref x0), (1, .int x1), (2, .int x2), (3, .int x3), (4, .int x4)] [] h) : ∀ (n : Nat) (x4 : Int32) (h : ab_H), ab_S l mX12_figures (fun y : (Int32 × ab_H) => ((.inl (some (.int y.1)), y.2) : ab_R × ab_H)) 0 0 (fX12_figures_18 F x0 x1 x2 x3 k89 n x4 h) 18 [(0, .ref x0), (1, .int x1), (2, .int x2), (3, .int x3), (4, .int x4)] [] h := by
  intro n
  induction n with
  | zero =>
    intro x4 h
    exact ab_none
  | succ n ih =>
    intro x4 h
    rw [fX12_figures_18]
    refine ab_aload_n (pc := 18) (n := 0) (i := 0) (j := 0) (by decide +kernel) rfl rfl ?_
    refine ab_getI (pc := 19) fl_X12_67_12 (by decide +kernel) (fun v4 ev4 => ?_)
    refine ab_aload_n (pc := 22) (n := 0) (i := 0) (j := 0) (by decide +kernel) rfl rfl ?_
    refine ab_getI (pc := 23) fl_X12_70_12 (by decide +kernel) (fun v5 ev5 => ?_)
    refine ab_icmp_ge (off := 63) (pc := 26) (tgt := 89) (by decide +kernel) (by decide) (fun g6 => ?_) (fun g6 => ?_)
    · refine ab_aload_n (pc := 29) (n := 0) (i := 0) (j := 0) (by decide +kernel) rfl rfl ?_
      refine ab_aload_n (pc := 30) (n := 0) (i := 0) (j := 0) (by decide +kernel) rfl rfl ?_
      refine ab_getI (pc := 31) fl_X12_67_12 (by decide +kernel) (fun v7 ev7 => ?_)
      refine ab_callVi (As := [.int v7]) (st := []) (pc := 34) lk_X12_73_12 rfl rfl rfl (by decide) rfl (Nat.le_of_ble_eq_true rfl) (by decide +kernel) (fun y9 e9 => okX12_letter hl e9) (fun v8 ev8 => ?_)
      refine ab_bipush (pc := 37) (n := 48) (v := nI 48) (by decide +kernel) (by decide) ?_
      refine ab_bipush (pc := 39) (n := 57) (v := nI 57) (by decide +kernel) (by decide) ?_
      refine ab_callSi (As := [.int v8, .int (nI 48), .int (nI 57)]) (st := []) (pc := 41) lk_X12_53 rfl rfl rfl (by decide) rfl (Nat.le_of_ble_eq_true rfl) (by decide +kernel) (fun y9 e9 => okX12_isIn hl e9) (fun v9 ev9 => ?_)
      refine ab_if_eq (off := 45) (pc := 44) (tgt := 89) (by decide +kernel) (by decide) (fun g10 => ?_) (fun g10 => ?_)
      · exact hk89 x4 h
      · refine ab_aload_n (pc := 47) (n := 0) (i := 0) (j := 0) (by decide +kernel) rfl rfl ?_
        refine ab_getI (pc := 48) fl_X12_67_12 (by decide +kernel) (fun v11 ev11 => ?_)
        refine ab_iload_n (pc := 51) (n := 3) (i := 3) (j := 3) (by decide +kernel) rfl rfl ?_
        refine ab_isub (pc := 52) (by decide +kernel) ?_
        refine ab_iconst (pc := 53) (n := 3) (v := nI 3) (by decide +kernel) rfl ?_
        refine ab_icmp_gt (off := 35) (pc := 54) (tgt := 89) (by decide +kernel) (by decide) (fun g12 => ?_) (fun g12 => ?_)
        · refine ab_bipush (pc := 57) (n := 10) (v := nI 10) (by decide +kernel) (by decide) ?_
          refine ab_iload (pc := 59) (i := 4) (j := 4) (by decide +kernel) rfl ?_
          refine ab_imul (pc := 61) (by decide +kernel) ?_
          refine ab_aload_n (pc := 62) (n := 0) (i := 0) (j := 0) (by decide +kernel) rfl rfl ?_
          refine ab_aload_n (pc := 63) (n := 0) (i := 0) (j := 0) (by decide +kernel) rfl rfl ?_
          refine ab_getI (pc := 64) fl_X12_67_12 (by decide +kernel) (fun v13 ev13 => ?_)
          refine ab_callVi (As := [.int v13]) (st := [.int ((nI 10) * x4)]) (pc := 67) lk_X12_73_12 rfl rfl rfl (by decide) rfl (Nat.le_of_ble_eq_true rfl) (by decide +kernel) (fun y9 e9 => okX12_letter hl e9) (fun v14 ev14 => ?_)
          refine ab_iadd (pc := 70) (by decide +kernel) ?_
          refine ab_bipush (pc := 71) (n := 48) (v := nI 48) (by decide +kernel) (by decide) ?_
          refine ab_isub (pc := 73) (by decide +kernel) ?_
          refine ab_istore (pc := 74) (i := 4) (lv' := [(0, .ref x0), (1, .int x1), (2, .int x2), (3, .int x3), (4, .int ((((nI 10) * x4) + v14) - (nI 48)))]) (by decide +kernel) (Nat.le_of_ble_eq_true rfl) rfl rfl ?_
          refine ab_aload_n (pc := 76) (n := 0) (i := 0) (j := 0) (by decide +kernel) rfl rfl ?_
          refine ab_dup (pc := 77) (by decide +kernel) rfl ?_
          refine ab_getI (pc := 78) fl_X12_67_12 (by decide +kernel) (fun v15 ev15 => ?_)
          refine ab_iconst (pc := 81) (n := 1) (v := nI 1) (by decide +kernel) rfl ?_
          refine ab_iadd (pc := 82) (by decide +kernel) ?_
          refine ab_put (pc := 83) fl_X12_67_12 rfl (fun _ => rfl) (fun _ => rfl) (by decide +kernel) (fun h16 eh16 => ?_)
          refine ab_goto (pc := 86) (off := (-68)) (tgt := 18) (by decide +kernel) (by decide) ?_
          exact ih ((((nI 10) * x4) + v14) - (nI 48)) h16
        · exact hk89 x4 h
    · exact hk89 x4 h
set_option maxRecDepth 100000 in
set_option maxHeartbeats 4000000 in
theorem wX12_figures {l : Launch} (hl : l.stackTraces = false) (F : Nat) (x0 : Nat) (x1 : Int32) (x2 : Int32) (h : ab_H) : ab_S l mX12_figures (fun y : (Int32 × ab_H) => ((.inl (some (.int y.1)), y.2) : ab_R × ab_H)) 0 0 (fX12_figures F x0 x1 x2 h) 0 [(0, .ref x0), (1, .int x1), (2, .int x2)] [] h := by
  unfold fX12_figures
  refine ab_aload_n (pc := 0) (n := 0) (i := 0) (j := 0) (by decide +kernel) rfl rfl ?_
  refine ab_getI (pc := 1) fl_X12_25_12 (by decide +kernel) (fun v1 ev1 => ?_)
  refine ab_iconst (pc := 4) (n := -1) (v := (-1 : Int32)) (by decide +kernel) rfl ?_
  refine ab_icmp_eq (off := 5) (pc := 5) (tgt := 10) (by decide +kernel) (by decide) (fun g2 => ?_) (fun g2 => ?_)
  · refine ab_aload_n (pc := 10) (n := 0) (i := 0) (j := 0) (by decide +kernel) rfl rfl ?_
    refine ab_callVj (As := []) (st := []) (pc := 11) lk_X12_90_12 rfl rfl rfl (by decide) rfl (Nat.le_of_ble_eq_true rfl) (by decide +kernel) (fun y9 e9 => okX12_place hl (F := F) e9) (fun v3 ev3 => ?_)
    refine ab_istore_n (pc := 14) (n := 3) (i := 3) (lv' := [(0, .ref x0), (1, .int x1), (2, .int x2), (3, .int v3.1)]) (by decide +kernel) rfl (Nat.le_of_ble_eq_true rfl) rfl rfl ?_
    refine ab_iconst (pc := 15) (n := 0) (v := nI 0) (by decide +kernel) rfl ?_
    refine ab_istore (pc := 16) (i := 4) (lv' := [(0, .ref x0), (1, .int x1), (2, .int x2), (3, .int v3.1), (4, .int (nI 0))]) (by decide +kernel) (Nat.le_of_ble_eq_true rfl) rfl rfl ?_
    refine lX12_figures_18 hl F x0 x1 x2 v3.1 ?_ F (nI 0) v3.2
    intro z17 h18
    refine ab_aload_n (pc := 89) (n := 0) (i := 0) (j := 0) (by decide +kernel) rfl rfl ?_
    refine ab_getI (pc := 90) fl_X12_67_12 (by decide +kernel) (fun v19 ev19 => ?_)
    refine ab_iload_n (pc := 93) (n := 3) (i := 3) (j := 3) (by decide +kernel) rfl rfl ?_
    refine ab_jr (fun k9 : Option (Int32 × ab_H) => ab_S l mX12_figures (fun y : (Int32 × ab_H) => ((.inl (some (.int y.1)), y.2) : ab_R × ab_H)) 0 0 (k9) 119 [(0, .ref x0), (3, .int v3.1), (4, .int z17)] [] h18) ?_ (fun j21 hj21 => ?_)
    · refine ab_aload_n (pc := 119) (n := 0) (i := 0) (j := 0) (by decide +kernel) rfl rfl ?_
      refine ab_iload_n (pc := 120) (n := 3) (i := 3) (j := 1) (by decide +kernel) rfl rfl ?_
      refine ab_callVw (As := [.int v3.1]) (st := []) (pc := 121) lk_X12_93_12 rfl rfl rfl (by decide) rfl (Nat.le_of_ble_eq_true rfl) (by decide +kernel) (fun y9 e9 => okX12_wrong hl e9) (fun h20 eh20 => ?_)
      refine ab_iload (pc := 124) (i := 4) (j := 2) (by decide +kernel) rfl ?_
      exact ab_iret (pc := 126) (by decide +kernel) rfl rfl (Nat.le_of_ble_eq_true rfl) (Nat.le_of_ble_eq_true rfl)
    · refine ab_icmp_eq (off := 25) (pc := 94) (tgt := 119) (by decide +kernel) (by decide) (fun g22 => ?_) (fun g22 => ?_)
      · refine ab_few [0, 3, 4] (lv' := [(0, .ref x0), (3, .int v3.1), (4, .int z17)]) rfl ?_
        exact hj21
      · refine ab_aload_n (pc := 97) (n := 0) (i := 0) (j := 0) (by decide +kernel) rfl rfl ?_
        refine ab_getI (pc := 98) fl_X12_67_12 (by decide +kernel) (fun v23 ev23 => ?_)
        refine ab_iload_n (pc := 101) (n := 3) (i := 3) (j := 3) (by decide +kernel) rfl rfl ?_
        refine ab_isub (pc := 102) (by decide +kernel) ?_
        refine ab_iconst (pc := 103) (n := 3) (v := nI 3) (by decide +kernel) rfl ?_
        refine ab_icmp_gt (off := 15) (pc := 104) (tgt := 119) (by decide +kernel) (by decide) (fun g24 => ?_) (fun g24 => ?_)
        · refine ab_iload (pc := 107) (i := 4) (j := 4) (by decide +kernel) rfl ?_
          refine ab_iload_n (pc := 109) (n := 1) (i := 1) (j := 1) (by decide +kernel) rfl rfl ?_
          refine ab_icmp_lt (off := 9) (pc := 110) (tgt := 119) (by decide +kernel) (by decide) (fun g25 => ?_) (fun g25 => ?_)
          · refine ab_few [0, 3, 4] (lv' := [(0, .ref x0), (3, .int v3.1), (4, .int z17)]) rfl ?_
            exact hj21
          · refine ab_iload (pc := 113) (i := 4) (j := 4) (by decide +kernel) rfl ?_
            refine ab_iload_n (pc := 115) (n := 2) (i := 2) (j := 2) (by decide +kernel) rfl rfl ?_
            refine ab_icmp_le (off := 8) (pc := 116) (tgt := 124) (by decide +kernel) (by decide) (fun g26 => ?_) (fun g26 => ?_)
            · refine ab_iload (pc := 124) (i := 4) (j := 4) (by decide +kernel) rfl ?_
              exact ab_iret (pc := 126) (by decide +kernel) rfl rfl (Nat.le_of_ble_eq_true rfl) (Nat.le_of_ble_eq_true rfl)
            · refine ab_few [0, 3, 4] (lv' := [(0, .ref x0), (3, .int v3.1), (4, .int z17)]) rfl ?_
              exact hj21
        · refine ab_few [0, 3, 4] (lv' := [(0, .ref x0), (3, .int v3.1), (4, .int z17)]) rfl ?_
          exact hj21
  · refine ab_iconst (pc := 8) (n := 0) (v := nI 0) (by decide +kernel) rfl ?_
    exact ab_iret (pc := 9) (by decide +kernel) rfl rfl (Nat.le_of_ble_eq_true rfl) (Nat.le_of_ble_eq_true rfl)
set_option maxRecDepth 100000 in
set_option maxHeartbeats 4000000 in
theorem okX12_figures {l : Launch} (hl : l.stackTraces = false) {F : Nat} {x0 : Nat} {x1 : Int32} {x2 : Int32} {h : ab_H} {y : (Int32 × ab_H)} (e : fX12_figures F x0 x1 x2 h = some y) : ab_Met l mX12_figures [.ref x0, .int x1, .int x2] h (.inl (some (.int y.1)), y.2) := ab_ofS (io := (fun y : (Int32 × ab_H) => ((.inl (some (.int y.1)), y.2) : ab_R × ab_H))) (x := y) hl (by decide) rfl (Nat.le_of_ble_eq_true rfl) (wX12_figures hl F x0 x1 x2 h) e
def mX12_eight : ab_M := (yX12_eight, cX12_eight, 5, (some .int), { frames := 3, cells := 0, slots := 0, locals := 61 })
theorem iX12_eight : ab_MI mX12_eight 0 := ⟨kw_1a0c62aaf6, kw_30b3f7d7c6, by decide +kernel⟩
def fX12_eight_22 (F : Nat) (x0 : Nat) (x1 : Int32) (k122 : Int32 → Int32 → Int32 → ab_H → Option (Int32 × ab_H)) : Nat → Int32 → Int32 → Int32 → ab_H → Option (Int32 × ab_H)
  | 0, _, _, _, _ => none
  | n + 1, x2, x3, x4, h => ab_bd (ab_fi h x0 12 11) fun v4 => ab_bd (ab_fi h x0 12 10) fun v5 => (if v4 < v5 then ab_bd (ab_fi h x0 12 11) fun v7 => ab_ck (ab_io h x0 12 = true) (ab_bd (fX12_letter x0 v7 h) fun v8 => ab_bd (fX12_isIn v8 (nI 48) (nI 57) h) fun v9 => (if v9 = 0 then k122 x2 x3 x4 h else ab_jn (κ := Int32 → Option (Int32 × ab_H)) (fun (z11 : Int32) => ab_jn (κ := Int32 → Option (Int32 × ab_H)) (fun (z12 : Int32) => ab_bd (ab_fi h x0 12 11) fun v13 => ab_bd (ab_fw h x0 12 11 (.int (v13 + (nI 1)))) fun h14 => fX12_eight_22 F x0 x1 k122 n z12 (x3 + nI 1) z11 h14) fun j15 => (if z11 = 0 then j15 x2 else ab_bd (ab_fi h x0 12 11) fun v17 => ab_ck (ab_io h x0 12 = true) (ab_bd (fX12_letter x0 v17 h) fun v18 => (if v18 = (nI 49) then j15 (x2 ||| ((nI 1) <<< (x3 &&& 31))) else j15 x2)))) fun j20 => ab_jn (κ := Option (Int32 × ab_H)) (j20 (nI 0)) fun j21 => (if x4 = 0 then j21 else ab_bd (ab_fi h x0 12 11) fun v23 => ab_ck (ab_io h x0 12 = true) (ab_bd (fX12_letter x0 v23 h) fun v24 => (if v24 ≤ (nI 49) then (if x3 < (nI 8) then j20 (nI 1) else j21) else j21))))) else k122 x2 x3 x4 h)
def fX12_eight (F : Nat) (x0 : Nat) (h : ab_H) : Option (Int32 × ab_H) := ab_bd (ab_fi h x0 12 12) fun v1 => (if v1 = (-1 : Int32) then ab_ck (ab_io h x0 12 = true) (ab_bd (fX12_place F x0 h) fun v3 => fX12_eight_22 F x0 v3.1 (fun (z27 : Int32) (z28 : Int32) (z29 : Int32) (h30 : ab_H) => ab_jn (κ := Option (Int32 × ab_H)) (ab_ck (ab_io h30 x0 12 = true) (ab_bd (fX12_wrong x0 v3.1 h30) fun h31 => some (z27, h31))) fun j32 => (if z29 = 0 then j32 else (if z28 = (nI 8) then some (z27, h30) else j32))) F (nI 0) (nI 0) (nI 1) v3.2) else some (nI 0, h))
set_option maxRecDepth 100000 in
set_option maxHeartbeats 4000000 in
theorem lX12_eight_22 {l : Launch} (hl : l.stackTraces = false) (F : Nat) (x0 : Nat) (x1 : Int32) {k122 : Int32 → Int32 → Int32 → ab_H → Option (Int32 × ab_H)} (hk122 : ∀ (x2 : Int32), ∀ (x3 : Int32), ∀ (x4 : Int32), ∀ (h : ab_H), ab_S l mX12_eight (fun y : (Int32 × ab_H) => ((.inl (some (.int y.1)), y.2) : ab_R × ab_H)) 0 0 (k122 x2 x3 x4 h) 122 [(0, .ref x0), (1, .int x1), (2, .int x2), (3, .int x3), (4, .int x4)] [] h) : ∀ (n : Nat) (x2 : Int32) (x3 : Int32) (x4 : Int32) (h : ab_H), ab_S l mX12_eight (fun y : (Int32 × ab_H) => ((.inl (some (.int y.1)), y.2) : ab_R × ab_H)) 0 0 (fX12_eight_22 F x0 x1 k122 n x2 x3 x4 h) 22 [(0, .ref x0), (1, .int x1), (2, .int x2), (3, .int x3), (4, .int x4)] [] h := by
  intro n
  induction n with
  | zero =>
    intro x2 x3 x4 h
    exact ab_none
  | succ n ih =>
    intro x2 x3 x4 h
    rw [fX12_eight_22]
    refine ab_aload_n (pc := 22) (n := 0) (i := 0) (j := 0) (by decide +kernel) rfl rfl ?_
    refine ab_getI (pc := 23) fl_X12_67_12 (by decide +kernel) (fun v4 ev4 => ?_)
    refine ab_aload_n (pc := 26) (n := 0) (i := 0) (j := 0) (by decide +kernel) rfl rfl ?_
    refine ab_getI (pc := 27) fl_X12_70_12 (by decide +kernel) (fun v5 ev5 => ?_)
    refine ab_icmp_ge (off := 92) (pc := 30) (tgt := 122) (by decide +kernel) (by decide) (fun g6 => ?_) (fun g6 => ?_)
    · refine ab_aload_n (pc := 33) (n := 0) (i := 0) (j := 0) (by decide +kernel) rfl rfl ?_
      refine ab_aload_n (pc := 34) (n := 0) (i := 0) (j := 0) (by decide +kernel) rfl rfl ?_
      refine ab_getI (pc := 35) fl_X12_67_12 (by decide +kernel) (fun v7 ev7 => ?_)
      refine ab_callVi (As := [.int v7]) (st := []) (pc := 38) lk_X12_73_12 rfl rfl rfl (by decide) rfl (Nat.le_of_ble_eq_true rfl) (by decide +kernel) (fun y9 e9 => okX12_letter hl e9) (fun v8 ev8 => ?_)
      refine ab_bipush (pc := 41) (n := 48) (v := nI 48) (by decide +kernel) (by decide) ?_
      refine ab_bipush (pc := 43) (n := 57) (v := nI 57) (by decide +kernel) (by decide) ?_
      refine ab_callSi (As := [.int v8, .int (nI 48), .int (nI 57)]) (st := []) (pc := 45) lk_X12_53 rfl rfl rfl (by decide) rfl (Nat.le_of_ble_eq_true rfl) (by decide +kernel) (fun y9 e9 => okX12_isIn hl e9) (fun v9 ev9 => ?_)
      refine ab_if_eq (off := 74) (pc := 48) (tgt := 122) (by decide +kernel) (by decide) (fun g10 => ?_) (fun g10 => ?_)
      · exact hk122 x2 x3 x4 h
      · refine ab_iload (pc := 51) (i := 4) (j := 4) (by decide +kernel) rfl ?_
        refine ab_jr (fun k9 : Int32 → Option (Int32 × ab_H) => ∀ (z11 : Int32), ab_S l mX12_eight (fun y : (Int32 × ab_H) => ((.inl (some (.int y.1)), y.2) : ab_R × ab_H)) 0 0 (k9 z11) 80 [(0, .ref x0), (1, .int x1), (2, .int x2), (3, .int x3)] [.int z11] h) ?_ (fun j20 hj20 => ?_)
        · intro z11
          refine ab_istore (pc := 80) (i := 4) (lv' := [(0, .ref x0), (1, .int x1), (2, .int x2), (3, .int x3), (4, .int z11)]) (by decide +kernel) (Nat.le_of_ble_eq_true rfl) rfl rfl ?_
          refine ab_iload (pc := 82) (i := 4) (j := 4) (by decide +kernel) rfl ?_
          refine ab_jr (fun k9 : Int32 → Option (Int32 × ab_H) => ∀ (z12 : Int32), ab_S l mX12_eight (fun y : (Int32 × ab_H) => ((.inl (some (.int y.1)), y.2) : ab_R × ab_H)) 0 0 (k9 z12) 106 [(0, .ref x0), (1, .int x1), (2, .int z12), (3, .int x3), (4, .int z11)] [] h) ?_ (fun j15 hj15 => ?_)
          · intro z12
            refine ab_iinc (pc := 106) (i := 3) (n := 1) (j := 3) (d := nI 1) (lv' := [(0, .ref x0), (1, .int x1), (2, .int z12), (3, .int (x3 + nI 1)), (4, .int z11)]) (by decide +kernel) rfl rfl (Nat.le_of_ble_eq_true rfl) rfl rfl ?_
            refine ab_aload_n (pc := 109) (n := 0) (i := 0) (j := 0) (by decide +kernel) rfl rfl ?_
            refine ab_dup (pc := 110) (by decide +kernel) rfl ?_
            refine ab_getI (pc := 111) fl_X12_67_12 (by decide +kernel) (fun v13 ev13 => ?_)
            refine ab_iconst (pc := 114) (n := 1) (v := nI 1) (by decide +kernel) rfl ?_
            refine ab_iadd (pc := 115) (by decide +kernel) ?_
            refine ab_put (pc := 116) fl_X12_67_12 rfl (fun _ => rfl) (fun _ => rfl) (by decide +kernel) (fun h14 eh14 => ?_)
            refine ab_goto (pc := 119) (off := (-97)) (tgt := 22) (by decide +kernel) (by decide) ?_
            exact ih z12 (x3 + nI 1) z11 h14
          · refine ab_if_eq (off := 22) (pc := 84) (tgt := 106) (by decide +kernel) (by decide) (fun g16 => ?_) (fun g16 => ?_)
            · exact hj15 x2
            · refine ab_aload_n (pc := 87) (n := 0) (i := 0) (j := 0) (by decide +kernel) rfl rfl ?_
              refine ab_aload_n (pc := 88) (n := 0) (i := 0) (j := 0) (by decide +kernel) rfl rfl ?_
              refine ab_getI (pc := 89) fl_X12_67_12 (by decide +kernel) (fun v17 ev17 => ?_)
              refine ab_callVi (As := [.int v17]) (st := []) (pc := 92) lk_X12_73_12 rfl rfl rfl (by decide) rfl (Nat.le_of_ble_eq_true rfl) (by decide +kernel) (fun y9 e9 => okX12_letter hl e9) (fun v18 ev18 => ?_)
              refine ab_bipush (pc := 95) (n := 49) (v := nI 49) (by decide +kernel) (by decide) ?_
              refine ab_icmp_ne (off := 9) (pc := 97) (tgt := 106) (by decide +kernel) (by decide) (fun g19 => ?_) (fun g19 => ?_)
              · refine ab_iload_n (pc := 100) (n := 2) (i := 2) (j := 2) (by decide +kernel) rfl rfl ?_
                refine ab_iconst (pc := 101) (n := 1) (v := nI 1) (by decide +kernel) rfl ?_
                refine ab_iload_n (pc := 102) (n := 3) (i := 3) (j := 3) (by decide +kernel) rfl rfl ?_
                refine ab_ishl (pc := 103) (by decide +kernel) ?_
                refine ab_ior (pc := 104) (by decide +kernel) ?_
                refine ab_istore_n (pc := 105) (n := 2) (i := 2) (lv' := [(0, .ref x0), (1, .int x1), (2, .int (x2 ||| ((nI 1) <<< (x3 &&& 31)))), (3, .int x3), (4, .int z11)]) (by decide +kernel) rfl (Nat.le_of_ble_eq_true rfl) rfl rfl ?_
                exact hj15 (x2 ||| ((nI 1) <<< (x3 &&& 31)))
              · exact hj15 x2
        · refine ab_jr (fun k9 : Option (Int32 × ab_H) => ab_S l mX12_eight (fun y : (Int32 × ab_H) => ((.inl (some (.int y.1)), y.2) : ab_R × ab_H)) 0 0 (k9) 79 [(0, .ref x0), (1, .int x1), (2, .int x2), (3, .int x3)] [] h) ?_ (fun j21 hj21 => ?_)
          · refine ab_iconst (pc := 79) (n := 0) (v := nI 0) (by decide +kernel) rfl ?_
            exact hj20 (nI 0)
          · refine ab_if_eq (off := 26) (pc := 53) (tgt := 79) (by decide +kernel) (by decide) (fun g22 => ?_) (fun g22 => ?_)
            · refine ab_few [0, 1, 2, 3] (lv' := [(0, .ref x0), (1, .int x1), (2, .int x2), (3, .int x3)]) rfl ?_
              exact hj21
            · refine ab_aload_n (pc := 56) (n := 0) (i := 0) (j := 0) (by decide +kernel) rfl rfl ?_
              refine ab_aload_n (pc := 57) (n := 0) (i := 0) (j := 0) (by decide +kernel) rfl rfl ?_
              refine ab_getI (pc := 58) fl_X12_67_12 (by decide +kernel) (fun v23 ev23 => ?_)
              refine ab_callVi (As := [.int v23]) (st := []) (pc := 61) lk_X12_73_12 rfl rfl rfl (by decide) rfl (Nat.le_of_ble_eq_true rfl) (by decide +kernel) (fun y9 e9 => okX12_letter hl e9) (fun v24 ev24 => ?_)
              refine ab_bipush (pc := 64) (n := 49) (v := nI 49) (by decide +kernel) (by decide) ?_
              refine ab_icmp_gt (off := 13) (pc := 66) (tgt := 79) (by decide +kernel) (by decide) (fun g25 => ?_) (fun g25 => ?_)
              · refine ab_iload_n (pc := 69) (n := 3) (i := 3) (j := 3) (by decide +kernel) rfl rfl ?_
                refine ab_bipush (pc := 70) (n := 8) (v := nI 8) (by decide +kernel) (by decide) ?_
                refine ab_icmp_ge (off := 7) (pc := 72) (tgt := 79) (by decide +kernel) (by decide) (fun g26 => ?_) (fun g26 => ?_)
                · refine ab_iconst (pc := 75) (n := 1) (v := nI 1) (by decide +kernel) rfl ?_
                  refine ab_goto (pc := 76) (off := 4) (tgt := 80) (by decide +kernel) (by decide) ?_
                  refine ab_few [0, 1, 2, 3] (lv' := [(0, .ref x0), (1, .int x1), (2, .int x2), (3, .int x3)]) rfl ?_
                  exact hj20 (nI 1)
                · refine ab_few [0, 1, 2, 3] (lv' := [(0, .ref x0), (1, .int x1), (2, .int x2), (3, .int x3)]) rfl ?_
                  exact hj21
              · refine ab_few [0, 1, 2, 3] (lv' := [(0, .ref x0), (1, .int x1), (2, .int x2), (3, .int x3)]) rfl ?_
                exact hj21
    · exact hk122 x2 x3 x4 h
set_option maxRecDepth 100000 in
set_option maxHeartbeats 4000000 in
theorem wX12_eight {l : Launch} (hl : l.stackTraces = false) (F : Nat) (x0 : Nat) (h : ab_H) : ab_S l mX12_eight (fun y : (Int32 × ab_H) => ((.inl (some (.int y.1)), y.2) : ab_R × ab_H)) 0 0 (fX12_eight F x0 h) 0 [(0, .ref x0)] [] h := by
  unfold fX12_eight
  refine ab_aload_n (pc := 0) (n := 0) (i := 0) (j := 0) (by decide +kernel) rfl rfl ?_
  refine ab_getI (pc := 1) fl_X12_25_12 (by decide +kernel) (fun v1 ev1 => ?_)
  refine ab_iconst (pc := 4) (n := -1) (v := (-1 : Int32)) (by decide +kernel) rfl ?_
  refine ab_icmp_eq (off := 5) (pc := 5) (tgt := 10) (by decide +kernel) (by decide) (fun g2 => ?_) (fun g2 => ?_)
  · refine ab_aload_n (pc := 10) (n := 0) (i := 0) (j := 0) (by decide +kernel) rfl rfl ?_
    refine ab_callVj (As := []) (st := []) (pc := 11) lk_X12_90_12 rfl rfl rfl (by decide) rfl (Nat.le_of_ble_eq_true rfl) (by decide +kernel) (fun y9 e9 => okX12_place hl (F := F) e9) (fun v3 ev3 => ?_)
    refine ab_istore_n (pc := 14) (n := 1) (i := 1) (lv' := [(0, .ref x0), (1, .int v3.1)]) (by decide +kernel) rfl (Nat.le_of_ble_eq_true rfl) rfl rfl ?_
    refine ab_iconst (pc := 15) (n := 0) (v := nI 0) (by decide +kernel) rfl ?_
    refine ab_istore_n (pc := 16) (n := 2) (i := 2) (lv' := [(0, .ref x0), (1, .int v3.1), (2, .int (nI 0))]) (by decide +kernel) rfl (Nat.le_of_ble_eq_true rfl) rfl rfl ?_
    refine ab_iconst (pc := 17) (n := 0) (v := nI 0) (by decide +kernel) rfl ?_
    refine ab_istore_n (pc := 18) (n := 3) (i := 3) (lv' := [(0, .ref x0), (1, .int v3.1), (2, .int (nI 0)), (3, .int (nI 0))]) (by decide +kernel) rfl (Nat.le_of_ble_eq_true rfl) rfl rfl ?_
    refine ab_iconst (pc := 19) (n := 1) (v := nI 1) (by decide +kernel) rfl ?_
    refine ab_istore (pc := 20) (i := 4) (lv' := [(0, .ref x0), (1, .int v3.1), (2, .int (nI 0)), (3, .int (nI 0)), (4, .int (nI 1))]) (by decide +kernel) (Nat.le_of_ble_eq_true rfl) rfl rfl ?_
    refine lX12_eight_22 hl F x0 v3.1 ?_ F (nI 0) (nI 0) (nI 1) v3.2
    intro z27 z28 z29 h30
    refine ab_iload (pc := 122) (i := 4) (j := 4) (by decide +kernel) rfl ?_
    refine ab_jr (fun k9 : Option (Int32 × ab_H) => ab_S l mX12_eight (fun y : (Int32 × ab_H) => ((.inl (some (.int y.1)), y.2) : ab_R × ab_H)) 0 0 (k9) 133 [(0, .ref x0), (1, .int v3.1), (2, .int z27)] [] h30) ?_ (fun j32 hj32 => ?_)
    · refine ab_aload_n (pc := 133) (n := 0) (i := 0) (j := 0) (by decide +kernel) rfl rfl ?_
      refine ab_iload_n (pc := 134) (n := 1) (i := 1) (j := 1) (by decide +kernel) rfl rfl ?_
      refine ab_callVw (As := [.int v3.1]) (st := []) (pc := 135) lk_X12_93_12 rfl rfl rfl (by decide) rfl (Nat.le_of_ble_eq_true rfl) (by decide +kernel) (fun y9 e9 => okX12_wrong hl e9) (fun h31 eh31 => ?_)
      refine ab_iload_n (pc := 138) (n := 2) (i := 2) (j := 2) (by decide +kernel) rfl rfl ?_
      exact ab_iret (pc := 139) (by decide +kernel) rfl rfl (Nat.le_of_ble_eq_true rfl) (Nat.le_of_ble_eq_true rfl)
    · refine ab_if_eq (off := 9) (pc := 124) (tgt := 133) (by decide +kernel) (by decide) (fun g33 => ?_) (fun g33 => ?_)
      · refine ab_few [0, 1, 2] (lv' := [(0, .ref x0), (1, .int v3.1), (2, .int z27)]) rfl ?_
        exact hj32
      · refine ab_iload_n (pc := 127) (n := 3) (i := 3) (j := 3) (by decide +kernel) rfl rfl ?_
        refine ab_bipush (pc := 128) (n := 8) (v := nI 8) (by decide +kernel) (by decide) ?_
        refine ab_icmp_eq (off := 8) (pc := 130) (tgt := 138) (by decide +kernel) (by decide) (fun g34 => ?_) (fun g34 => ?_)
        · refine ab_iload_n (pc := 138) (n := 2) (i := 2) (j := 2) (by decide +kernel) rfl rfl ?_
          exact ab_iret (pc := 139) (by decide +kernel) rfl rfl (Nat.le_of_ble_eq_true rfl) (Nat.le_of_ble_eq_true rfl)
        · refine ab_few [0, 1, 2] (lv' := [(0, .ref x0), (1, .int v3.1), (2, .int z27)]) rfl ?_
          exact hj32
  · refine ab_iconst (pc := 8) (n := 0) (v := nI 0) (by decide +kernel) rfl ?_
    exact ab_iret (pc := 9) (by decide +kernel) rfl rfl (Nat.le_of_ble_eq_true rfl) (Nat.le_of_ble_eq_true rfl)
set_option maxRecDepth 100000 in
set_option maxHeartbeats 4000000 in
theorem okX12_eight {l : Launch} (hl : l.stackTraces = false) {F : Nat} {x0 : Nat} {h : ab_H} {y : (Int32 × ab_H)} (e : fX12_eight F x0 h = some y) : ab_Met l mX12_eight [.ref x0] h (.inl (some (.int y.1)), y.2) := ab_ofS (io := (fun y : (Int32 × ab_H) => ((.inl (some (.int y.1)), y.2) : ab_R × ab_H))) (x := y) hl (by decide) rfl (Nat.le_of_ble_eq_true rfl) (wX12_eight hl F x0 h) e
def mX12_personLine : ab_M := (yX12_personLine, cX12_personLine, 6, none, { frames := 4, cells := 0, slots := 0, locals := 85 })
theorem iX12_personLine : ab_MI mX12_personLine 1 := ⟨kw_1d5d0e0a44, kw_30b3f7d7c6, by decide +kernel⟩
theorem lk_X12_100_12 : ab_LV RX12 100 12 mX12_has 3 := ⟨RX12, rfl, iX12_has, kw_54cf38ce2e, kw_df0a97be28, kw_13dc32b385⟩
theorem lk_X12_97_12 : ab_LV RX12 97 12 mX12_eight 0 := ⟨RX12, rfl, iX12_eight, kw_0bd1e7d829, kw_9a506d17bc, kw_0fd2c52651⟩
def fX12_personLine_95 (F : Nat) (x0 : Nat) (x4 : Int32) : Nat → Int32 → ab_H → Option ab_H
  | 0, _, _ => none
  | n + 1, x5, h => (if x5 < (nI 10) then ab_bd (ab_fr h x0 12 1) fun v17 => ab_bd (ab_iw 0 h v17 (((nI 72) + ((nI 10) * x4)) + x5) x5) fun h18 => ab_bd (ab_fr h18 x0 12 1) fun v19 => ab_bd (ab_iw 0 h18 v19 (((nI 172) + ((nI 10) * x4)) + x5) (nI 0)) fun h20 => ab_bd (ab_fr h20 x0 12 1) fun v21 => ab_bd (ab_iw 0 h20 v21 (((nI 172) + ((nI 10) * x5)) + x4) (nI 0)) fun h22 => fX12_personLine_95 F x0 x4 n (x5 + nI 1) h22 else ab_bd (ab_fr h x0 12 1) fun v23 => ab_bd (ab_ia 0 h v23 (nI 3)) fun v24 => ab_bd (ab_iw 0 h v23 (nI 3) (v24 + (nI 1))) fun h25 => some h25)
def fX12_personLine (F : Nat) (x0 : Nat) (x1 : Int32) (h : ab_H) : Option ab_H := ab_bd (ab_fr h x0 12 1) fun v1 => ab_bd (ab_ia 0 h v1 (nI 3)) fun v2 => ab_jn (κ := ab_H → Option ab_H) (fun (h3 : ab_H) => ab_ck (ab_io h3 x0 12 = true) (ab_bd (fX12_eight F x0 h3) fun v4 => ab_ck (ab_io v4.2 x0 12 = true) (ab_bd (fX12_eight F x0 v4.2) fun v5 => ab_bd (ab_fi v5.2 x0 12 12) fun v6 => (if v6 = (-1 : Int32) then ab_bd (ab_fr v5.2 x0 12 1) fun v8 => ab_bd (ab_ia 0 v5.2 v8 (nI 3)) fun v9 => ab_ck (ab_io v5.2 x0 12 = true) (ab_bd (fX12_has x0 v9 (nI 0) v4.1 v5.2) fun h10 => ab_ck (ab_io h10 x0 12 = true) (ab_bd (fX12_has x0 v9 (nI 1) v5.1 h10) fun h11 => ab_ck (ab_io h11 x0 12 = true) (ab_bd (fX12_has x0 v9 (nI 2) v9 h11) fun h12 => ab_ck (ab_io h12 x0 12 = true) (ab_bd (fX12_has x0 v9 (nI 3) (-1 : Int32) h12) fun h13 => ab_ck (ab_io h13 x0 12 = true) (ab_bd (fX12_has x0 v9 (nI 4) (-1 : Int32) h13) fun h14 => ab_ck (ab_io h14 x0 12 = true) (ab_bd (fX12_has x0 v9 (nI 5) (nI 0) h14) fun h15 => fX12_personLine_95 F x0 v9 F (nI 0) h15)))))) else some v5.2)))) fun j26 => (if v2 = (nI 10) then ab_ck (ab_io h x0 12 = true) (ab_bd (fX12_wrong x0 x1 h) fun h28 => j26 h28) else j26 h)
set_option maxRecDepth 100000 in
set_option maxHeartbeats 4000000 in
theorem lX12_personLine_95 {l : Launch} (hl : l.stackTraces = false) (F : Nat) (x0 : Nat) (x4 : Int32) : ∀ (n : Nat) (x5 : Int32) (h : ab_H), ab_S l mX12_personLine (fun y : ab_H => ((.inl none, y) : ab_R × ab_H)) 0 0 (fX12_personLine_95 F x0 x4 n x5 h) 95 [(0, .ref x0), (4, .int x4), (5, .int x5)] [] h := by
  intro n
  induction n with
  | zero =>
    intro x5 h
    exact ab_none
  | succ n ih =>
    intro x5 h
    rw [fX12_personLine_95]
    refine ab_iload (pc := 95) (i := 5) (j := 2) (by decide +kernel) rfl ?_
    refine ab_bipush (pc := 97) (n := 10) (v := nI 10) (by decide +kernel) (by decide) ?_
    refine ab_icmp_ge (off := 63) (pc := 99) (tgt := 162) (by decide +kernel) (by decide) (fun g16 => ?_) (fun g16 => ?_)
    · refine ab_aload_n (pc := 102) (n := 0) (i := 0) (j := 0) (by decide +kernel) rfl rfl ?_
      refine ab_getR (pc := 103) fl_X12_7_12 (by decide +kernel) (fun v17 ev17 => ?_)
      refine ab_bipush (pc := 106) (n := 72) (v := nI 72) (by decide +kernel) (by decide) ?_
      refine ab_bipush (pc := 108) (n := 10) (v := nI 10) (by decide +kernel) (by decide) ?_
      refine ab_iload (pc := 110) (i := 4) (j := 1) (by decide +kernel) rfl ?_
      refine ab_imul (pc := 112) (by decide +kernel) ?_
      refine ab_iadd (pc := 113) (by decide +kernel) ?_
      refine ab_iload (pc := 114) (i := 5) (j := 2) (by decide +kernel) rfl ?_
      refine ab_iadd (pc := 116) (by decide +kernel) ?_
      refine ab_iload (pc := 117) (i := 5) (j := 2) (by decide +kernel) rfl ?_
      refine ab_iast (pc := 119) (by decide +kernel) (fun h18 eh18 => ?_)
      refine ab_aload_n (pc := 120) (n := 0) (i := 0) (j := 0) (by decide +kernel) rfl rfl ?_
      refine ab_getR (pc := 121) fl_X12_7_12 (by decide +kernel) (fun v19 ev19 => ?_)
      refine ab_sipush (pc := 124) (n := 172) (v := nI 172) (by decide +kernel) (by decide) ?_
      refine ab_bipush (pc := 127) (n := 10) (v := nI 10) (by decide +kernel) (by decide) ?_
      refine ab_iload (pc := 129) (i := 4) (j := 1) (by decide +kernel) rfl ?_
      refine ab_imul (pc := 131) (by decide +kernel) ?_
      refine ab_iadd (pc := 132) (by decide +kernel) ?_
      refine ab_iload (pc := 133) (i := 5) (j := 2) (by decide +kernel) rfl ?_
      refine ab_iadd (pc := 135) (by decide +kernel) ?_
      refine ab_iconst (pc := 136) (n := 0) (v := nI 0) (by decide +kernel) rfl ?_
      refine ab_iast (pc := 137) (by decide +kernel) (fun h20 eh20 => ?_)
      refine ab_aload_n (pc := 138) (n := 0) (i := 0) (j := 0) (by decide +kernel) rfl rfl ?_
      refine ab_getR (pc := 139) fl_X12_7_12 (by decide +kernel) (fun v21 ev21 => ?_)
      refine ab_sipush (pc := 142) (n := 172) (v := nI 172) (by decide +kernel) (by decide) ?_
      refine ab_bipush (pc := 145) (n := 10) (v := nI 10) (by decide +kernel) (by decide) ?_
      refine ab_iload (pc := 147) (i := 5) (j := 2) (by decide +kernel) rfl ?_
      refine ab_imul (pc := 149) (by decide +kernel) ?_
      refine ab_iadd (pc := 150) (by decide +kernel) ?_
      refine ab_iload (pc := 151) (i := 4) (j := 1) (by decide +kernel) rfl ?_
      refine ab_iadd (pc := 153) (by decide +kernel) ?_
      refine ab_iconst (pc := 154) (n := 0) (v := nI 0) (by decide +kernel) rfl ?_
      refine ab_iast (pc := 155) (by decide +kernel) (fun h22 eh22 => ?_)
      refine ab_iinc (pc := 156) (i := 5) (n := 1) (j := 2) (d := nI 1) (lv' := [(0, .ref x0), (4, .int x4), (5, .int (x5 + nI 1))]) (by decide +kernel) rfl rfl (Nat.le_of_ble_eq_true rfl) rfl rfl ?_
      refine ab_goto (pc := 159) (off := (-64)) (tgt := 95) (by decide +kernel) (by decide) ?_
      exact ih (x5 + nI 1) h22
    · refine ab_aload_n (pc := 162) (n := 0) (i := 0) (j := 0) (by decide +kernel) rfl rfl ?_
      refine ab_getR (pc := 163) fl_X12_7_12 (by decide +kernel) (fun v23 ev23 => ?_)
      refine ab_iconst (pc := 166) (n := 3) (v := nI 3) (by decide +kernel) rfl ?_
      refine ab_dup2 (pc := 167) (by decide +kernel) rfl rfl ?_
      refine ab_iald (pc := 168) (by decide +kernel) (fun v24 ev24 => ?_)
      refine ab_iconst (pc := 169) (n := 1) (v := nI 1) (by decide +kernel) rfl ?_
      refine ab_iadd (pc := 170) (by decide +kernel) ?_
      refine ab_iast (pc := 171) (by decide +kernel) (fun h25 eh25 => ?_)
      exact ab_vret (pc := 172) (by decide +kernel) rfl rfl (Nat.le_of_ble_eq_true rfl) (Nat.le_of_ble_eq_true rfl)
set_option maxRecDepth 100000 in
set_option maxHeartbeats 4000000 in
theorem wX12_personLine {l : Launch} (hl : l.stackTraces = false) (F : Nat) (x0 : Nat) (x1 : Int32) (h : ab_H) : ab_S l mX12_personLine (fun y : ab_H => ((.inl none, y) : ab_R × ab_H)) 0 0 (fX12_personLine F x0 x1 h) 0 [(0, .ref x0), (1, .int x1)] [] h := by
  unfold fX12_personLine
  refine ab_aload_n (pc := 0) (n := 0) (i := 0) (j := 0) (by decide +kernel) rfl rfl ?_
  refine ab_getR (pc := 1) fl_X12_7_12 (by decide +kernel) (fun v1 ev1 => ?_)
  refine ab_iconst (pc := 4) (n := 3) (v := nI 3) (by decide +kernel) rfl ?_
  refine ab_iald (pc := 5) (by decide +kernel) (fun v2 ev2 => ?_)
  refine ab_bipush (pc := 6) (n := 10) (v := nI 10) (by decide +kernel) (by decide) ?_
  refine ab_jr (fun k9 : ab_H → Option ab_H => ∀ (h3 : ab_H), ab_S l mX12_personLine (fun y : ab_H => ((.inl none, y) : ab_R × ab_H)) 0 0 (k9 h3) 16 [(0, .ref x0)] [] h3) ?_ (fun j26 hj26 => ?_)
  · intro h3
    refine ab_aload_n (pc := 16) (n := 0) (i := 0) (j := 0) (by decide +kernel) rfl rfl ?_
    refine ab_callVj (As := []) (st := []) (pc := 17) lk_X12_97_12 rfl rfl rfl (by decide) rfl (Nat.le_of_ble_eq_true rfl) (by decide +kernel) (fun y9 e9 => okX12_eight hl (F := F) e9) (fun v4 ev4 => ?_)
    refine ab_istore_n (pc := 20) (n := 2) (i := 2) (lv' := [(0, .ref x0), (2, .int v4.1)]) (by decide +kernel) rfl (Nat.le_of_ble_eq_true rfl) rfl rfl ?_
    refine ab_aload_n (pc := 21) (n := 0) (i := 0) (j := 0) (by decide +kernel) rfl rfl ?_
    refine ab_callVj (As := []) (st := []) (pc := 22) lk_X12_97_12 rfl rfl rfl (by decide) rfl (Nat.le_of_ble_eq_true rfl) (by decide +kernel) (fun y9 e9 => okX12_eight hl (F := F) e9) (fun v5 ev5 => ?_)
    refine ab_istore_n (pc := 25) (n := 3) (i := 3) (lv' := [(0, .ref x0), (2, .int v4.1), (3, .int v5.1)]) (by decide +kernel) rfl (Nat.le_of_ble_eq_true rfl) rfl rfl ?_
    refine ab_aload_n (pc := 26) (n := 0) (i := 0) (j := 0) (by decide +kernel) rfl rfl ?_
    refine ab_getI (pc := 27) fl_X12_25_12 (by decide +kernel) (fun v6 ev6 => ?_)
    refine ab_iconst (pc := 30) (n := -1) (v := (-1 : Int32)) (by decide +kernel) rfl ?_
    refine ab_icmp_eq (off := 4) (pc := 31) (tgt := 35) (by decide +kernel) (by decide) (fun g7 => ?_) (fun g7 => ?_)
    · refine ab_aload_n (pc := 35) (n := 0) (i := 0) (j := 0) (by decide +kernel) rfl rfl ?_
      refine ab_getR (pc := 36) fl_X12_7_12 (by decide +kernel) (fun v8 ev8 => ?_)
      refine ab_iconst (pc := 39) (n := 3) (v := nI 3) (by decide +kernel) rfl ?_
      refine ab_iald (pc := 40) (by decide +kernel) (fun v9 ev9 => ?_)
      refine ab_istore (pc := 41) (i := 4) (lv' := [(0, .ref x0), (2, .int v4.1), (3, .int v5.1), (4, .int v9)]) (by decide +kernel) (Nat.le_of_ble_eq_true rfl) rfl rfl ?_
      refine ab_aload_n (pc := 43) (n := 0) (i := 0) (j := 0) (by decide +kernel) rfl rfl ?_
      refine ab_iload (pc := 44) (i := 4) (j := 3) (by decide +kernel) rfl ?_
      refine ab_iconst (pc := 46) (n := 0) (v := nI 0) (by decide +kernel) rfl ?_
      refine ab_iload_n (pc := 47) (n := 2) (i := 2) (j := 1) (by decide +kernel) rfl rfl ?_
      refine ab_callVw (As := [.int v9, .int (nI 0), .int v4.1]) (st := []) (pc := 48) lk_X12_100_12 rfl rfl rfl (by decide) rfl (Nat.le_of_ble_eq_true rfl) (by decide +kernel) (fun y9 e9 => okX12_has hl e9) (fun h10 eh10 => ?_)
      refine ab_aload_n (pc := 51) (n := 0) (i := 0) (j := 0) (by decide +kernel) rfl rfl ?_
      refine ab_iload (pc := 52) (i := 4) (j := 3) (by decide +kernel) rfl ?_
      refine ab_iconst (pc := 54) (n := 1) (v := nI 1) (by decide +kernel) rfl ?_
      refine ab_iload_n (pc := 55) (n := 3) (i := 3) (j := 2) (by decide +kernel) rfl rfl ?_
      refine ab_callVw (As := [.int v9, .int (nI 1), .int v5.1]) (st := []) (pc := 56) lk_X12_100_12 rfl rfl rfl (by decide) rfl (Nat.le_of_ble_eq_true rfl) (by decide +kernel) (fun y9 e9 => okX12_has hl e9) (fun h11 eh11 => ?_)
      refine ab_aload_n (pc := 59) (n := 0) (i := 0) (j := 0) (by decide +kernel) rfl rfl ?_
      refine ab_iload (pc := 60) (i := 4) (j := 3) (by decide +kernel) rfl ?_
      refine ab_iconst (pc := 62) (n := 2) (v := nI 2) (by decide +kernel) rfl ?_
      refine ab_iload (pc := 63) (i := 4) (j := 3) (by decide +kernel) rfl ?_
      refine ab_callVw (As := [.int v9, .int (nI 2), .int v9]) (st := []) (pc := 65) lk_X12_100_12 rfl rfl rfl (by decide) rfl (Nat.le_of_ble_eq_true rfl) (by decide +kernel) (fun y9 e9 => okX12_has hl e9) (fun h12 eh12 => ?_)
      refine ab_aload_n (pc := 68) (n := 0) (i := 0) (j := 0) (by decide +kernel) rfl rfl ?_
      refine ab_iload (pc := 69) (i := 4) (j := 3) (by decide +kernel) rfl ?_
      refine ab_iconst (pc := 71) (n := 3) (v := nI 3) (by decide +kernel) rfl ?_
      refine ab_iconst (pc := 72) (n := -1) (v := (-1 : Int32)) (by decide +kernel) rfl ?_
      refine ab_callVw (As := [.int v9, .int (nI 3), .int (-1 : Int32)]) (st := []) (pc := 73) lk_X12_100_12 rfl rfl rfl (by decide) rfl (Nat.le_of_ble_eq_true rfl) (by decide +kernel) (fun y9 e9 => okX12_has hl e9) (fun h13 eh13 => ?_)
      refine ab_aload_n (pc := 76) (n := 0) (i := 0) (j := 0) (by decide +kernel) rfl rfl ?_
      refine ab_iload (pc := 77) (i := 4) (j := 3) (by decide +kernel) rfl ?_
      refine ab_iconst (pc := 79) (n := 4) (v := nI 4) (by decide +kernel) rfl ?_
      refine ab_iconst (pc := 80) (n := -1) (v := (-1 : Int32)) (by decide +kernel) rfl ?_
      refine ab_callVw (As := [.int v9, .int (nI 4), .int (-1 : Int32)]) (st := []) (pc := 81) lk_X12_100_12 rfl rfl rfl (by decide) rfl (Nat.le_of_ble_eq_true rfl) (by decide +kernel) (fun y9 e9 => okX12_has hl e9) (fun h14 eh14 => ?_)
      refine ab_aload_n (pc := 84) (n := 0) (i := 0) (j := 0) (by decide +kernel) rfl rfl ?_
      refine ab_iload (pc := 85) (i := 4) (j := 3) (by decide +kernel) rfl ?_
      refine ab_iconst (pc := 87) (n := 5) (v := nI 5) (by decide +kernel) rfl ?_
      refine ab_iconst (pc := 88) (n := 0) (v := nI 0) (by decide +kernel) rfl ?_
      refine ab_callVw (As := [.int v9, .int (nI 5), .int (nI 0)]) (st := []) (pc := 89) lk_X12_100_12 rfl rfl rfl (by decide) rfl (Nat.le_of_ble_eq_true rfl) (by decide +kernel) (fun y9 e9 => okX12_has hl e9) (fun h15 eh15 => ?_)
      refine ab_iconst (pc := 92) (n := 0) (v := nI 0) (by decide +kernel) rfl ?_
      refine ab_istore (pc := 93) (i := 5) (lv' := [(0, .ref x0), (2, .int v4.1), (3, .int v5.1), (4, .int v9), (5, .int (nI 0))]) (by decide +kernel) (Nat.le_of_ble_eq_true rfl) rfl rfl ?_
      refine ab_few [0, 3, 4] (lv' := [(0, .ref x0), (4, .int v9), (5, .int (nI 0))]) rfl ?_
      refine lX12_personLine_95 hl F x0 v9 F (nI 0) h15
    · exact ab_vret (pc := 34) (by decide +kernel) rfl rfl (Nat.le_of_ble_eq_true rfl) (Nat.le_of_ble_eq_true rfl)
  · refine ab_icmp_ne (off := 8) (pc := 8) (tgt := 16) (by decide +kernel) (by decide) (fun g27 => ?_) (fun g27 => ?_)
    · refine ab_aload_n (pc := 11) (n := 0) (i := 0) (j := 0) (by decide +kernel) rfl rfl ?_
      refine ab_iload_n (pc := 12) (n := 1) (i := 1) (j := 1) (by decide +kernel) rfl rfl ?_
      refine ab_callVw (As := [.int x1]) (st := []) (pc := 13) lk_X12_93_12 rfl rfl rfl (by decide) rfl (Nat.le_of_ble_eq_true rfl) (by decide +kernel) (fun y9 e9 => okX12_wrong hl e9) (fun h28 eh28 => ?_)
      refine ab_few [0] (lv' := [(0, .ref x0)]) rfl ?_
      exact hj26 h28
    · refine ab_few [0] (lv' := [(0, .ref x0)]) rfl ?_
      exact hj26 h
set_option maxRecDepth 100000 in
set_option maxHeartbeats 4000000 in
theorem okX12_personLine {l : Launch} (hl : l.stackTraces = false) {F : Nat} {x0 : Nat} {x1 : Int32} {h : ab_H} {y : ab_H} (e : fX12_personLine F x0 x1 h = some y) : ab_Met l mX12_personLine [.ref x0, .int x1] h (.inl none, y) := ab_ofS (io := (fun y : ab_H => ((.inl none, y) : ab_R × ab_H))) (x := y) hl (by decide) rfl (Nat.le_of_ble_eq_true rfl) (wX12_personLine hl F x0 x1 h) e
def mX12_wishLine : ab_M := (yX12_wishLine, cX12_wishLine, 8, none, { frames := 4, cells := 0, slots := 0, locals := 85 })
theorem iX12_wishLine : ab_MI mX12_wishLine 0 := ⟨kw_60f30f8193, kw_30b3f7d7c6, by decide +kernel⟩
theorem lk_X12_104_12 : ab_LV RX12 104 12 mX12_figures 2 := ⟨RX12, rfl, iX12_figures, kw_9125871b6c, kw_bd09a27232, kw_ce1d23828d⟩
theorem lk_X12_107 : ab_LS RX12 107 mX12_isOf 2 := ⟨iX12_isOf, kw_cc2604b9c2, kw_ff615fe2fa⟩
theorem lk_X12_111_12 : ab_LV RX12 111 12 mX12_isFigure 0 := ⟨RX12, rfl, iX12_isFigure, kw_1ee35cd06e, kw_8bab8cbbb8, kw_29967af9e1⟩
def fX12_wishLine_42 (F : Nat) (x0 : Nat) (x5 : Int32) (k130 : Int32 → Int32 → ab_H → Option ab_H) : Nat → Int32 → Int32 → Int32 → ab_H → Option ab_H
  | 0, _, _, _, _ => none
  | n + 1, x2, x3, x4, h => (if x4 = 0 then k130 x2 x3 h else ab_ck (ab_io h x0 12 = true) (ab_bd (fX12_place F x0 h) fun v7 => ab_bd (ab_fr v7.2 x0 12 1) fun v8 => ab_bd (ab_ia 0 v7.2 v8 (nI 3)) fun v9 => ab_ck (ab_io v7.2 x0 12 = true) (ab_bd (fX12_figures F x0 (nI 0) (v9 - (nI 1)) v7.2) fun v10 => ab_bd (ab_fi v10.2 x0 12 12) fun v11 => ab_jn (κ := ab_H → Option ab_H) (fun (h12 : ab_H) => ab_bd (ab_fi h12 x0 12 12) fun v13 => (if v13 = (-1 : Int32) then ab_bd (ab_fr h12 x0 12 1) fun v15 => ab_bd (ab_iw 0 h12 v15 (x5 + x3) v10.1) fun h16 => ab_ck (ab_io h16 x0 12 = true) (ab_bd (fX12_isFigure F x0 h16) fun v17 => fX12_wishLine_42 F x0 x5 k130 n (x2 ||| ((nI 1) <<< (v10.1 &&& 31))) (x3 + nI 1) v17.1 v17.2) else some h12)) fun j18 => (if v11 = (-1 : Int32) then ab_bd (fX12_isOf x2 v10.1 v10.2) fun v20 => (if v20 = 0 then j18 v10.2 else ab_ck (ab_io v10.2 x0 12 = true) (ab_bd (fX12_wrong x0 v7.1 v10.2) fun h22 => j18 h22)) else j18 v10.2))))
def fX12_wishLine_142 (F : Nat) (x0 : Nat) (x2 : Int32) (x5 : Int32) : Nat → Int32 → Int32 → ab_H → Option ab_H
  | 0, _, _, _ => none
  | n + 1, x3, x6, h => (if x6 < (nI 10) then ab_bd (fX12_isOf x2 x6 h) fun v29 => (if v29 = 0 then ab_bd (ab_fr h x0 12 1) fun v31 => ab_bd (ab_iw 0 h v31 (x5 + x3) x6) fun h32 => fX12_wishLine_142 F x0 x2 x5 n (x3 + nI 1) (x6 + nI 1) h32 else fX12_wishLine_142 F x0 x2 x5 n x3 (x6 + nI 1) h) else some h)
def fX12_wishLine (F : Nat) (x0 : Nat) (h : ab_H) : Option ab_H := ab_bd (ab_fr h x0 12 1) fun v1 => ab_bd (ab_ia 0 h v1 (nI 3)) fun v2 => ab_ck (ab_io h x0 12 = true) (ab_bd (fX12_figures F x0 (nI 0) (v2 - (nI 1)) h) fun v3 => ab_bd (ab_fi v3.2 x0 12 12) fun v4 => (if v4 = (-1 : Int32) then fX12_wishLine_42 F x0 ((nI 72) + ((nI 10) * v3.1)) (fun (z23 : Int32) (z24 : Int32) (h25 : ab_H) => ab_bd (ab_fi h25 x0 12 12) fun v26 => (if v26 = (-1 : Int32) then fX12_wishLine_142 F x0 z23 ((nI 72) + ((nI 10) * v3.1)) F z24 (nI 0) h25 else some h25)) F (nI 0) (nI 0) (nI 1) v3.2 else fX12_wishLine_42 F x0 ((nI 72) + ((nI 10) * v3.1)) (fun (z33 : Int32) (z34 : Int32) (h35 : ab_H) => ab_bd (ab_fi h35 x0 12 12) fun v36 => (if v36 = (-1 : Int32) then fX12_wishLine_142 F x0 z33 ((nI 72) + ((nI 10) * v3.1)) F z34 (nI 0) h35 else some h35)) F (nI 0) (nI 0) (nI 0) v3.2))
set_option maxRecDepth 100000 in
set_option maxHeartbeats 4000000 in
theorem lX12_wishLine_42 {l : Launch} (hl : l.stackTraces = false) (F : Nat) (x0 : Nat) (x5 : Int32) {k130 : Int32 → Int32 → ab_H → Option ab_H} (hk130 : ∀ (x2 : Int32), ∀ (x3 : Int32), ∀ (h : ab_H), ab_S l mX12_wishLine (fun y : ab_H => ((.inl none, y) : ab_R × ab_H)) 0 0 (k130 x2 x3 h) 130 [(0, .ref x0), (2, .int x2), (3, .int x3), (5, .int x5)] [] h) : ∀ (n : Nat) (x2 : Int32) (x3 : Int32) (x4 : Int32) (h : ab_H), ab_S l mX12_wishLine (fun y : ab_H => ((.inl none, y) : ab_R × ab_H)) 0 0 (fX12_wishLine_42 F x0 x5 k130 n x2 x3 x4 h) 42 [(0, .ref x0), (2, .int x2), (3, .int x3), (4, .int x4), (5, .int x5)] [] h := by
  intro n
  induction n with
  | zero =>
    intro x2 x3 x4 h
    exact ab_none
  | succ n ih =>
    intro x2 x3 x4 h
    rw [fX12_wishLine_42]
    refine ab_iload (pc := 42) (i := 4) (j := 3) (by decide +kernel) rfl ?_
    refine ab_if_eq (off := 86) (pc := 44) (tgt := 130) (by decide +kernel) (by decide) (fun g6 => ?_) (fun g6 => ?_)
    · refine ab_few [0, 1, 2, 4] (lv' := [(0, .ref x0), (2, .int x2), (3, .int x3), (5, .int x5)]) rfl ?_
      exact hk130 x2 x3 h
    · refine ab_aload_n (pc := 47) (n := 0) (i := 0) (j := 0) (by decide +kernel) rfl rfl ?_
      refine ab_callVj (As := []) (st := []) (pc := 48) lk_X12_90_12 rfl rfl rfl (by decide) rfl (Nat.le_of_ble_eq_true rfl) (by decide +kernel) (fun y9 e9 => okX12_place hl (F := F) e9) (fun v7 ev7 => ?_)
      refine ab_istore (pc := 51) (i := 6) (lv' := [(0, .ref x0), (2, .int x2), (3, .int x3), (4, .int x4), (5, .int x5), (6, .int v7.1)]) (by decide +kernel) (Nat.le_of_ble_eq_true rfl) rfl rfl ?_
      refine ab_aload_n (pc := 53) (n := 0) (i := 0) (j := 0) (by decide +kernel) rfl rfl ?_
      refine ab_iconst (pc := 54) (n := 0) (v := nI 0) (by decide +kernel) rfl ?_
      refine ab_aload_n (pc := 55) (n := 0) (i := 0) (j := 0) (by decide +kernel) rfl rfl ?_
      refine ab_getR (pc := 56) fl_X12_7_12 (by decide +kernel) (fun v8 ev8 => ?_)
      refine ab_iconst (pc := 59) (n := 3) (v := nI 3) (by decide +kernel) rfl ?_
      refine ab_iald (pc := 60) (by decide +kernel) (fun v9 ev9 => ?_)
      refine ab_iconst (pc := 61) (n := 1) (v := nI 1) (by decide +kernel) rfl ?_
      refine ab_isub (pc := 62) (by decide +kernel) ?_
      refine ab_callVj (As := [.int (nI 0), .int (v9 - (nI 1))]) (st := []) (pc := 63) lk_X12_104_12 rfl rfl rfl (by decide) rfl (Nat.le_of_ble_eq_true rfl) (by decide +kernel) (fun y9 e9 => okX12_figures hl (F := F) e9) (fun v10 ev10 => ?_)
      refine ab_istore (pc := 66) (i := 7) (lv' := [(0, .ref x0), (2, .int x2), (3, .int x3), (4, .int x4), (5, .int x5), (6, .int v7.1), (7, .int v10.1)]) (by decide +kernel) (Nat.le_of_ble_eq_true rfl) rfl rfl ?_
      refine ab_aload_n (pc := 68) (n := 0) (i := 0) (j := 0) (by decide +kernel) rfl rfl ?_
      refine ab_getI (pc := 69) fl_X12_25_12 (by decide +kernel) (fun v11 ev11 => ?_)
      refine ab_iconst (pc := 72) (n := -1) (v := (-1 : Int32)) (by decide +kernel) rfl ?_
      refine ab_jr (fun k9 : ab_H → Option ab_H => ∀ (h12 : ab_H), ab_S l mX12_wishLine (fun y : ab_H => ((.inl none, y) : ab_R × ab_H)) 0 0 (k9 h12) 91 [(0, .ref x0), (2, .int x2), (3, .int x3), (5, .int x5), (7, .int v10.1)] [] h12) ?_ (fun j18 hj18 => ?_)
      · intro h12
        refine ab_aload_n (pc := 91) (n := 0) (i := 0) (j := 0) (by decide +kernel) rfl rfl ?_
        refine ab_getI (pc := 92) fl_X12_25_12 (by decide +kernel) (fun v13 ev13 => ?_)
        refine ab_iconst (pc := 95) (n := -1) (v := (-1 : Int32)) (by decide +kernel) rfl ?_
        refine ab_icmp_eq (off := 4) (pc := 96) (tgt := 100) (by decide +kernel) (by decide) (fun g14 => ?_) (fun g14 => ?_)
        · refine ab_iload_n (pc := 100) (n := 2) (i := 2) (j := 1) (by decide +kernel) rfl rfl ?_
          refine ab_iconst (pc := 101) (n := 1) (v := nI 1) (by decide +kernel) rfl ?_
          refine ab_iload (pc := 102) (i := 7) (j := 4) (by decide +kernel) rfl ?_
          refine ab_ishl (pc := 104) (by decide +kernel) ?_
          refine ab_ior (pc := 105) (by decide +kernel) ?_
          refine ab_istore_n (pc := 106) (n := 2) (i := 2) (lv' := [(0, .ref x0), (2, .int (x2 ||| ((nI 1) <<< (v10.1 &&& 31)))), (3, .int x3), (5, .int x5), (7, .int v10.1)]) (by decide +kernel) rfl (Nat.le_of_ble_eq_true rfl) rfl rfl ?_
          refine ab_aload_n (pc := 107) (n := 0) (i := 0) (j := 0) (by decide +kernel) rfl rfl ?_
          refine ab_getR (pc := 108) fl_X12_7_12 (by decide +kernel) (fun v15 ev15 => ?_)
          refine ab_iload (pc := 111) (i := 5) (j := 3) (by decide +kernel) rfl ?_
          refine ab_iload_n (pc := 113) (n := 3) (i := 3) (j := 2) (by decide +kernel) rfl rfl ?_
          refine ab_iadd (pc := 114) (by decide +kernel) ?_
          refine ab_iload (pc := 115) (i := 7) (j := 4) (by decide +kernel) rfl ?_
          refine ab_iast (pc := 117) (by decide +kernel) (fun h16 eh16 => ?_)
          refine ab_iinc (pc := 118) (i := 3) (n := 1) (j := 2) (d := nI 1) (lv' := [(0, .ref x0), (2, .int (x2 ||| ((nI 1) <<< (v10.1 &&& 31)))), (3, .int (x3 + nI 1)), (5, .int x5), (7, .int v10.1)]) (by decide +kernel) rfl rfl (Nat.le_of_ble_eq_true rfl) rfl rfl ?_
          refine ab_aload_n (pc := 121) (n := 0) (i := 0) (j := 0) (by decide +kernel) rfl rfl ?_
          refine ab_callVj (As := []) (st := []) (pc := 122) lk_X12_111_12 rfl rfl rfl (by decide) rfl (Nat.le_of_ble_eq_true rfl) (by decide +kernel) (fun y9 e9 => okX12_isFigure hl (F := F) e9) (fun v17 ev17 => ?_)
          refine ab_istore (pc := 125) (i := 4) (lv' := [(0, .ref x0), (2, .int (x2 ||| ((nI 1) <<< (v10.1 &&& 31)))), (3, .int (x3 + nI 1)), (4, .int v17.1), (5, .int x5), (7, .int v10.1)]) (by decide +kernel) (Nat.le_of_ble_eq_true rfl) rfl rfl ?_
          refine ab_goto (pc := 127) (off := (-85)) (tgt := 42) (by decide +kernel) (by decide) ?_
          refine ab_few [0, 1, 2, 3, 4] (lv' := [(0, .ref x0), (2, .int (x2 ||| ((nI 1) <<< (v10.1 &&& 31)))), (3, .int (x3 + nI 1)), (4, .int v17.1), (5, .int x5)]) rfl ?_
          exact ih (x2 ||| ((nI 1) <<< (v10.1 &&& 31))) (x3 + nI 1) v17.1 v17.2
        · exact ab_vret (pc := 99) (by decide +kernel) rfl rfl (Nat.le_of_ble_eq_true rfl) (Nat.le_of_ble_eq_true rfl)
      · refine ab_icmp_ne (off := 18) (pc := 73) (tgt := 91) (by decide +kernel) (by decide) (fun g19 => ?_) (fun g19 => ?_)
        · refine ab_iload_n (pc := 76) (n := 2) (i := 2) (j := 1) (by decide +kernel) rfl rfl ?_
          refine ab_iload (pc := 77) (i := 7) (j := 6) (by decide +kernel) rfl ?_
          refine ab_callSi (As := [.int x2, .int v10.1]) (st := []) (pc := 79) lk_X12_107 rfl rfl rfl (by decide) rfl (Nat.le_of_ble_eq_true rfl) (by decide +kernel) (fun y9 e9 => okX12_isOf hl e9) (fun v20 ev20 => ?_)
          refine ab_if_eq (off := 9) (pc := 82) (tgt := 91) (by decide +kernel) (by decide) (fun g21 => ?_) (fun g21 => ?_)
          · refine ab_few [0, 1, 2, 4, 6] (lv' := [(0, .ref x0), (2, .int x2), (3, .int x3), (5, .int x5), (7, .int v10.1)]) rfl ?_
            exact hj18 v10.2
          · refine ab_aload_n (pc := 85) (n := 0) (i := 0) (j := 0) (by decide +kernel) rfl rfl ?_
            refine ab_iload (pc := 86) (i := 6) (j := 5) (by decide +kernel) rfl ?_
            refine ab_callVw (As := [.int v7.1]) (st := []) (pc := 88) lk_X12_93_12 rfl rfl rfl (by decide) rfl (Nat.le_of_ble_eq_true rfl) (by decide +kernel) (fun y9 e9 => okX12_wrong hl e9) (fun h22 eh22 => ?_)
            refine ab_few [0, 1, 2, 4, 6] (lv' := [(0, .ref x0), (2, .int x2), (3, .int x3), (5, .int x5), (7, .int v10.1)]) rfl ?_
            exact hj18 h22
        · refine ab_few [0, 1, 2, 4, 6] (lv' := [(0, .ref x0), (2, .int x2), (3, .int x3), (5, .int x5), (7, .int v10.1)]) rfl ?_
          exact hj18 v10.2
set_option maxRecDepth 100000 in
set_option maxHeartbeats 4000000 in
theorem lX12_wishLine_142 {l : Launch} (hl : l.stackTraces = false) (F : Nat) (x0 : Nat) (x2 : Int32) (x5 : Int32) : ∀ (n : Nat) (x3 : Int32) (x6 : Int32) (h : ab_H), ab_S l mX12_wishLine (fun y : ab_H => ((.inl none, y) : ab_R × ab_H)) 0 0 (fX12_wishLine_142 F x0 x2 x5 n x3 x6 h) 142 [(0, .ref x0), (2, .int x2), (3, .int x3), (5, .int x5), (6, .int x6)] [] h := by
  intro n
  induction n with
  | zero =>
    intro x3 x6 h
    exact ab_none
  | succ n ih =>
    intro x3 x6 h
    rw [fX12_wishLine_142]
    refine ab_iload (pc := 142) (i := 6) (j := 4) (by decide +kernel) rfl ?_
    refine ab_bipush (pc := 144) (n := 10) (v := nI 10) (by decide +kernel) (by decide) ?_
    refine ab_icmp_ge (off := 35) (pc := 146) (tgt := 181) (by decide +kernel) (by decide) (fun g28 => ?_) (fun g28 => ?_)
    · refine ab_iload_n (pc := 149) (n := 2) (i := 2) (j := 1) (by decide +kernel) rfl rfl ?_
      refine ab_iload (pc := 150) (i := 6) (j := 4) (by decide +kernel) rfl ?_
      refine ab_callSi (As := [.int x2, .int x6]) (st := []) (pc := 152) lk_X12_107 rfl rfl rfl (by decide) rfl (Nat.le_of_ble_eq_true rfl) (by decide +kernel) (fun y9 e9 => okX12_isOf hl e9) (fun v29 ev29 => ?_)
      refine ab_if_eq (off := 6) (pc := 155) (tgt := 161) (by decide +kernel) (by decide) (fun g30 => ?_) (fun g30 => ?_)
      · refine ab_aload_n (pc := 161) (n := 0) (i := 0) (j := 0) (by decide +kernel) rfl rfl ?_
        refine ab_getR (pc := 162) fl_X12_7_12 (by decide +kernel) (fun v31 ev31 => ?_)
        refine ab_iload (pc := 165) (i := 5) (j := 3) (by decide +kernel) rfl ?_
        refine ab_iload_n (pc := 167) (n := 3) (i := 3) (j := 2) (by decide +kernel) rfl rfl ?_
        refine ab_iadd (pc := 168) (by decide +kernel) ?_
        refine ab_iload (pc := 169) (i := 6) (j := 4) (by decide +kernel) rfl ?_
        refine ab_iast (pc := 171) (by decide +kernel) (fun h32 eh32 => ?_)
        refine ab_iinc (pc := 172) (i := 3) (n := 1) (j := 2) (d := nI 1) (lv' := [(0, .ref x0), (2, .int x2), (3, .int (x3 + nI 1)), (5, .int x5), (6, .int x6)]) (by decide +kernel) rfl rfl (Nat.le_of_ble_eq_true rfl) rfl rfl ?_
        refine ab_iinc (pc := 175) (i := 6) (n := 1) (j := 4) (d := nI 1) (lv' := [(0, .ref x0), (2, .int x2), (3, .int (x3 + nI 1)), (5, .int x5), (6, .int (x6 + nI 1))]) (by decide +kernel) rfl rfl (Nat.le_of_ble_eq_true rfl) rfl rfl ?_
        refine ab_goto (pc := 178) (off := (-36)) (tgt := 142) (by decide +kernel) (by decide) ?_
        exact ih (x3 + nI 1) (x6 + nI 1) h32
      · refine ab_goto (pc := 158) (off := 17) (tgt := 175) (by decide +kernel) (by decide) ?_
        refine ab_iinc (pc := 175) (i := 6) (n := 1) (j := 4) (d := nI 1) (lv' := [(0, .ref x0), (2, .int x2), (3, .int x3), (5, .int x5), (6, .int (x6 + nI 1))]) (by decide +kernel) rfl rfl (Nat.le_of_ble_eq_true rfl) rfl rfl ?_
        refine ab_goto (pc := 178) (off := (-36)) (tgt := 142) (by decide +kernel) (by decide) ?_
        exact ih x3 (x6 + nI 1) h
    · exact ab_vret (pc := 181) (by decide +kernel) rfl rfl (Nat.le_of_ble_eq_true rfl) (Nat.le_of_ble_eq_true rfl)
set_option maxRecDepth 100000 in
set_option maxHeartbeats 4000000 in
theorem wX12_wishLine {l : Launch} (hl : l.stackTraces = false) (F : Nat) (x0 : Nat) (h : ab_H) : ab_S l mX12_wishLine (fun y : ab_H => ((.inl none, y) : ab_R × ab_H)) 0 0 (fX12_wishLine F x0 h) 0 [(0, .ref x0)] [] h := by
  unfold fX12_wishLine
  refine ab_aload_n (pc := 0) (n := 0) (i := 0) (j := 0) (by decide +kernel) rfl rfl ?_
  refine ab_iconst (pc := 1) (n := 0) (v := nI 0) (by decide +kernel) rfl ?_
  refine ab_aload_n (pc := 2) (n := 0) (i := 0) (j := 0) (by decide +kernel) rfl rfl ?_
  refine ab_getR (pc := 3) fl_X12_7_12 (by decide +kernel) (fun v1 ev1 => ?_)
  refine ab_iconst (pc := 6) (n := 3) (v := nI 3) (by decide +kernel) rfl ?_
  refine ab_iald (pc := 7) (by decide +kernel) (fun v2 ev2 => ?_)
  refine ab_iconst (pc := 8) (n := 1) (v := nI 1) (by decide +kernel) rfl ?_
  refine ab_isub (pc := 9) (by decide +kernel) ?_
  refine ab_callVj (As := [.int (nI 0), .int (v2 - (nI 1))]) (st := []) (pc := 10) lk_X12_104_12 rfl rfl rfl (by decide) rfl (Nat.le_of_ble_eq_true rfl) (by decide +kernel) (fun y9 e9 => okX12_figures hl (F := F) e9) (fun v3 ev3 => ?_)
  refine ab_istore_n (pc := 13) (n := 1) (i := 1) (lv' := [(0, .ref x0), (1, .int v3.1)]) (by decide +kernel) rfl (Nat.le_of_ble_eq_true rfl) rfl rfl ?_
  refine ab_iconst (pc := 14) (n := 0) (v := nI 0) (by decide +kernel) rfl ?_
  refine ab_istore_n (pc := 15) (n := 2) (i := 2) (lv' := [(0, .ref x0), (1, .int v3.1), (2, .int (nI 0))]) (by decide +kernel) rfl (Nat.le_of_ble_eq_true rfl) rfl rfl ?_
  refine ab_iconst (pc := 16) (n := 0) (v := nI 0) (by decide +kernel) rfl ?_
  refine ab_istore_n (pc := 17) (n := 3) (i := 3) (lv' := [(0, .ref x0), (1, .int v3.1), (2, .int (nI 0)), (3, .int (nI 0))]) (by decide +kernel) rfl (Nat.le_of_ble_eq_true rfl) rfl rfl ?_
  refine ab_aload_n (pc := 18) (n := 0) (i := 0) (j := 0) (by decide +kernel) rfl rfl ?_
  refine ab_getI (pc := 19) fl_X12_25_12 (by decide +kernel) (fun v4 ev4 => ?_)
  refine ab_iconst (pc := 22) (n := -1) (v := (-1 : Int32)) (by decide +kernel) rfl ?_
  refine ab_icmp_ne (off := 7) (pc := 23) (tgt := 30) (by decide +kernel) (by decide) (fun g5 => ?_) (fun g5 => ?_)
  · refine ab_iconst (pc := 26) (n := 1) (v := nI 1) (by decide +kernel) rfl ?_
    refine ab_goto (pc := 27) (off := 4) (tgt := 31) (by decide +kernel) (by decide) ?_
    refine ab_istore (pc := 31) (i := 4) (lv' := [(0, .ref x0), (1, .int v3.1), (2, .int (nI 0)), (3, .int (nI 0)), (4, .int (nI 1))]) (by decide +kernel) (Nat.le_of_ble_eq_true rfl) rfl rfl ?_
    refine ab_bipush (pc := 33) (n := 72) (v := nI 72) (by decide +kernel) (by decide) ?_
    refine ab_bipush (pc := 35) (n := 10) (v := nI 10) (by decide +kernel) (by decide) ?_
    refine ab_iload_n (pc := 37) (n := 1) (i := 1) (j := 1) (by decide +kernel) rfl rfl ?_
    refine ab_imul (pc := 38) (by decide +kernel) ?_
    refine ab_iadd (pc := 39) (by decide +kernel) ?_
    refine ab_istore (pc := 40) (i := 5) (lv' := [(0, .ref x0), (1, .int v3.1), (2, .int (nI 0)), (3, .int (nI 0)), (4, .int (nI 1)), (5, .int ((nI 72) + ((nI 10) * v3.1)))]) (by decide +kernel) (Nat.le_of_ble_eq_true rfl) rfl rfl ?_
    refine ab_few [0, 2, 3, 4, 5] (lv' := [(0, .ref x0), (2, .int (nI 0)), (3, .int (nI 0)), (4, .int (nI 1)), (5, .int ((nI 72) + ((nI 10) * v3.1)))]) rfl ?_
    refine lX12_wishLine_42 hl F x0 ((nI 72) + ((nI 10) * v3.1)) ?_ F (nI 0) (nI 0) (nI 1) v3.2
    intro z23 z24 h25
    refine ab_aload_n (pc := 130) (n := 0) (i := 0) (j := 0) (by decide +kernel) rfl rfl ?_
    refine ab_getI (pc := 131) fl_X12_25_12 (by decide +kernel) (fun v26 ev26 => ?_)
    refine ab_iconst (pc := 134) (n := -1) (v := (-1 : Int32)) (by decide +kernel) rfl ?_
    refine ab_icmp_eq (off := 4) (pc := 135) (tgt := 139) (by decide +kernel) (by decide) (fun g27 => ?_) (fun g27 => ?_)
    · refine ab_iconst (pc := 139) (n := 0) (v := nI 0) (by decide +kernel) rfl ?_
      refine ab_istore (pc := 140) (i := 6) (lv' := [(0, .ref x0), (2, .int z23), (3, .int z24), (5, .int ((nI 72) + ((nI 10) * v3.1))), (6, .int (nI 0))]) (by decide +kernel) (Nat.le_of_ble_eq_true rfl) rfl rfl ?_
      refine lX12_wishLine_142 hl F x0 z23 ((nI 72) + ((nI 10) * v3.1)) F z24 (nI 0) h25
    · exact ab_vret (pc := 138) (by decide +kernel) rfl rfl (Nat.le_of_ble_eq_true rfl) (Nat.le_of_ble_eq_true rfl)
  · refine ab_iconst (pc := 30) (n := 0) (v := nI 0) (by decide +kernel) rfl ?_
    refine ab_istore (pc := 31) (i := 4) (lv' := [(0, .ref x0), (1, .int v3.1), (2, .int (nI 0)), (3, .int (nI 0)), (4, .int (nI 0))]) (by decide +kernel) (Nat.le_of_ble_eq_true rfl) rfl rfl ?_
    refine ab_bipush (pc := 33) (n := 72) (v := nI 72) (by decide +kernel) (by decide) ?_
    refine ab_bipush (pc := 35) (n := 10) (v := nI 10) (by decide +kernel) (by decide) ?_
    refine ab_iload_n (pc := 37) (n := 1) (i := 1) (j := 1) (by decide +kernel) rfl rfl ?_
    refine ab_imul (pc := 38) (by decide +kernel) ?_
    refine ab_iadd (pc := 39) (by decide +kernel) ?_
    refine ab_istore (pc := 40) (i := 5) (lv' := [(0, .ref x0), (1, .int v3.1), (2, .int (nI 0)), (3, .int (nI 0)), (4, .int (nI 0)), (5, .int ((nI 72) + ((nI 10) * v3.1)))]) (by decide +kernel) (Nat.le_of_ble_eq_true rfl) rfl rfl ?_
    refine ab_few [0, 2, 3, 4, 5] (lv' := [(0, .ref x0), (2, .int (nI 0)), (3, .int (nI 0)), (4, .int (nI 0)), (5, .int ((nI 72) + ((nI 10) * v3.1)))]) rfl ?_
    refine lX12_wishLine_42 hl F x0 ((nI 72) + ((nI 10) * v3.1)) ?_ F (nI 0) (nI 0) (nI 0) v3.2
    intro z33 z34 h35
    refine ab_aload_n (pc := 130) (n := 0) (i := 0) (j := 0) (by decide +kernel) rfl rfl ?_
    refine ab_getI (pc := 131) fl_X12_25_12 (by decide +kernel) (fun v36 ev36 => ?_)
    refine ab_iconst (pc := 134) (n := -1) (v := (-1 : Int32)) (by decide +kernel) rfl ?_
    refine ab_icmp_eq (off := 4) (pc := 135) (tgt := 139) (by decide +kernel) (by decide) (fun g37 => ?_) (fun g37 => ?_)
    · refine ab_iconst (pc := 139) (n := 0) (v := nI 0) (by decide +kernel) rfl ?_
      refine ab_istore (pc := 140) (i := 6) (lv' := [(0, .ref x0), (2, .int z33), (3, .int z34), (5, .int ((nI 72) + ((nI 10) * v3.1))), (6, .int (nI 0))]) (by decide +kernel) (Nat.le_of_ble_eq_true rfl) rfl rfl ?_
      refine lX12_wishLine_142 hl F x0 z33 ((nI 72) + ((nI 10) * v3.1)) F z34 (nI 0) h35
    · exact ab_vret (pc := 138) (by decide +kernel) rfl rfl (Nat.le_of_ble_eq_true rfl) (Nat.le_of_ble_eq_true rfl)
set_option maxRecDepth 100000 in
set_option maxHeartbeats 4000000 in
theorem okX12_wishLine {l : Launch} (hl : l.stackTraces = false) {F : Nat} {x0 : Nat} {h : ab_H} {y : ab_H} (e : fX12_wishLine F x0 h = some y) : ab_Met l mX12_wishLine [.ref x0] h (.inl none, y) := ab_ofS (io := (fun y : ab_H => ((.inl none, y) : ab_R × ab_H))) (x := y) hl (by decide) rfl (Nat.le_of_ble_eq_true rfl) (wX12_wishLine hl F x0 h) e
def mX12_single : ab_M := (yX12_single, cX12_single, 4, (some .int), { frames := 4, cells := 0, slots := 0, locals := 85 })
theorem iX12_single : ab_MI mX12_single 1 := ⟨kw_f46fcff4b9, kw_30b3f7d7c6, by decide +kernel⟩
def fX12_single (F : Nat) (x0 : Nat) (x1 : Int32) (h : ab_H) : Option (Int32 × ab_H) := ab_ck (ab_io h x0 12 = true) (ab_bd (fX12_place F x0 h) fun v1 => ab_bd (ab_fr v1.2 x0 12 1) fun v2 => ab_bd (ab_ia 0 v1.2 v2 (nI 3)) fun v3 => ab_ck (ab_io v1.2 x0 12 = true) (ab_bd (fX12_figures F x0 (nI 0) (v3 - (nI 1)) v1.2) fun v4 => ab_bd (ab_fi v4.2 x0 12 12) fun v5 => (if v5 = (-1 : Int32) then ab_jn (κ := Option (Int32 × ab_H)) (ab_ck (ab_io v4.2 x0 12 = true) (ab_bd (fX12_wrong x0 v1.1 v4.2) fun h7 => some (v4.1, h7))) fun j8 => (if v4.1 = x1 then j8 else ab_ck (ab_io v4.2 x0 12 = true) (ab_bd (fX12_of x0 v4.1 (nI 4) v4.2) fun v10 => (if v10 = (-1 : Int32) then some (v4.1, v4.2) else j8))) else some (v4.1, v4.2))))
set_option maxRecDepth 100000 in
set_option maxHeartbeats 4000000 in
theorem wX12_single {l : Launch} (hl : l.stackTraces = false) (F : Nat) (x0 : Nat) (x1 : Int32) (h : ab_H) : ab_S l mX12_single (fun y : (Int32 × ab_H) => ((.inl (some (.int y.1)), y.2) : ab_R × ab_H)) 0 0 (fX12_single F x0 x1 h) 0 [(0, .ref x0), (1, .int x1)] [] h := by
  unfold fX12_single
  refine ab_aload_n (pc := 0) (n := 0) (i := 0) (j := 0) (by decide +kernel) rfl rfl ?_
  refine ab_callVj (As := []) (st := []) (pc := 1) lk_X12_90_12 rfl rfl rfl (by decide) rfl (Nat.le_of_ble_eq_true rfl) (by decide +kernel) (fun y9 e9 => okX12_place hl (F := F) e9) (fun v1 ev1 => ?_)
  refine ab_istore_n (pc := 4) (n := 2) (i := 2) (lv' := [(0, .ref x0), (1, .int x1), (2, .int v1.1)]) (by decide +kernel) rfl (Nat.le_of_ble_eq_true rfl) rfl rfl ?_
  refine ab_aload_n (pc := 5) (n := 0) (i := 0) (j := 0) (by decide +kernel) rfl rfl ?_
  refine ab_iconst (pc := 6) (n := 0) (v := nI 0) (by decide +kernel) rfl ?_
  refine ab_aload_n (pc := 7) (n := 0) (i := 0) (j := 0) (by decide +kernel) rfl rfl ?_
  refine ab_getR (pc := 8) fl_X12_7_12 (by decide +kernel) (fun v2 ev2 => ?_)
  refine ab_iconst (pc := 11) (n := 3) (v := nI 3) (by decide +kernel) rfl ?_
  refine ab_iald (pc := 12) (by decide +kernel) (fun v3 ev3 => ?_)
  refine ab_iconst (pc := 13) (n := 1) (v := nI 1) (by decide +kernel) rfl ?_
  refine ab_isub (pc := 14) (by decide +kernel) ?_
  refine ab_callVj (As := [.int (nI 0), .int (v3 - (nI 1))]) (st := []) (pc := 15) lk_X12_104_12 rfl rfl rfl (by decide) rfl (Nat.le_of_ble_eq_true rfl) (by decide +kernel) (fun y9 e9 => okX12_figures hl (F := F) e9) (fun v4 ev4 => ?_)
  refine ab_istore_n (pc := 18) (n := 3) (i := 3) (lv' := [(0, .ref x0), (1, .int x1), (2, .int v1.1), (3, .int v4.1)]) (by decide +kernel) rfl (Nat.le_of_ble_eq_true rfl) rfl rfl ?_
  refine ab_aload_n (pc := 19) (n := 0) (i := 0) (j := 0) (by decide +kernel) rfl rfl ?_
  refine ab_getI (pc := 20) fl_X12_25_12 (by decide +kernel) (fun v5 ev5 => ?_)
  refine ab_iconst (pc := 23) (n := -1) (v := (-1 : Int32)) (by decide +kernel) rfl ?_
  refine ab_icmp_ne (off := 23) (pc := 24) (tgt := 47) (by decide +kernel) (by decide) (fun g6 => ?_) (fun g6 => ?_)
  · refine ab_iload_n (pc := 27) (n := 3) (i := 3) (j := 3) (by decide +kernel) rfl rfl ?_
    refine ab_iload_n (pc := 28) (n := 1) (i := 1) (j := 1) (by decide +kernel) rfl rfl ?_
    refine ab_jr (fun k9 : Option (Int32 × ab_H) => ab_S l mX12_single (fun y : (Int32 × ab_H) => ((.inl (some (.int y.1)), y.2) : ab_R × ab_H)) 0 0 (k9) 42 [(0, .ref x0), (2, .int v1.1), (3, .int v4.1)] [] v4.2) ?_ (fun j8 hj8 => ?_)
    · refine ab_aload_n (pc := 42) (n := 0) (i := 0) (j := 0) (by decide +kernel) rfl rfl ?_
      refine ab_iload_n (pc := 43) (n := 2) (i := 2) (j := 1) (by decide +kernel) rfl rfl ?_
      refine ab_callVw (As := [.int v1.1]) (st := []) (pc := 44) lk_X12_93_12 rfl rfl rfl (by decide) rfl (Nat.le_of_ble_eq_true rfl) (by decide +kernel) (fun y9 e9 => okX12_wrong hl e9) (fun h7 eh7 => ?_)
      refine ab_iload_n (pc := 47) (n := 3) (i := 3) (j := 2) (by decide +kernel) rfl rfl ?_
      exact ab_iret (pc := 48) (by decide +kernel) rfl rfl (Nat.le_of_ble_eq_true rfl) (Nat.le_of_ble_eq_true rfl)
    · refine ab_icmp_eq (off := 13) (pc := 29) (tgt := 42) (by decide +kernel) (by decide) (fun g9 => ?_) (fun g9 => ?_)
      · refine ab_few [0, 2, 3] (lv' := [(0, .ref x0), (2, .int v1.1), (3, .int v4.1)]) rfl ?_
        exact hj8
      · refine ab_aload_n (pc := 32) (n := 0) (i := 0) (j := 0) (by decide +kernel) rfl rfl ?_
        refine ab_iload_n (pc := 33) (n := 3) (i := 3) (j := 3) (by decide +kernel) rfl rfl ?_
        refine ab_iconst (pc := 34) (n := 4) (v := nI 4) (by decide +kernel) rfl ?_
        refine ab_callVi (As := [.int v4.1, .int (nI 4)]) (st := []) (pc := 35) lk_X12_57_12 rfl rfl rfl (by decide) rfl (Nat.le_of_ble_eq_true rfl) (by decide +kernel) (fun y9 e9 => okX12_of hl e9) (fun v10 ev10 => ?_)
        refine ab_iconst (pc := 38) (n := -1) (v := (-1 : Int32)) (by decide +kernel) rfl ?_
        refine ab_icmp_eq (off := 8) (pc := 39) (tgt := 47) (by decide +kernel) (by decide) (fun g11 => ?_) (fun g11 => ?_)
        · refine ab_iload_n (pc := 47) (n := 3) (i := 3) (j := 3) (by decide +kernel) rfl rfl ?_
          exact ab_iret (pc := 48) (by decide +kernel) rfl rfl (Nat.le_of_ble_eq_true rfl) (Nat.le_of_ble_eq_true rfl)
        · refine ab_few [0, 2, 3] (lv' := [(0, .ref x0), (2, .int v1.1), (3, .int v4.1)]) rfl ?_
          exact hj8
  · refine ab_iload_n (pc := 47) (n := 3) (i := 3) (j := 3) (by decide +kernel) rfl rfl ?_
    exact ab_iret (pc := 48) (by decide +kernel) rfl rfl (Nat.le_of_ble_eq_true rfl) (Nat.le_of_ble_eq_true rfl)
set_option maxRecDepth 100000 in
set_option maxHeartbeats 4000000 in
theorem okX12_single {l : Launch} (hl : l.stackTraces = false) {F : Nat} {x0 : Nat} {x1 : Int32} {h : ab_H} {y : (Int32 × ab_H)} (e : fX12_single F x0 x1 h = some y) : ab_Met l mX12_single [.ref x0, .int x1] h (.inl (some (.int y.1)), y.2) := ab_ofS (io := (fun y : (Int32 × ab_H) => ((.inl (some (.int y.1)), y.2) : ab_R × ab_H))) (x := y) hl (by decide) rfl (Nat.le_of_ble_eq_true rfl) (wX12_single hl F x0 x1 h) e
def mX12_wedLine : ab_M := (yX12_wedLine, cX12_wedLine, 3, none, { frames := 5, cells := 0, slots := 0, locals := 108 })
theorem iX12_wedLine : ab_MI mX12_wedLine 0 := ⟨kw_ad52778d8c, kw_30b3f7d7c6, by decide +kernel⟩
theorem lk_X12_115_12 : ab_LV RX12 115 12 mX12_single 1 := ⟨RX12, rfl, iX12_single, kw_7ecda438f2, kw_5586911afc, kw_1402bef122⟩
def fX12_wedLine (F : Nat) (x0 : Nat) (h : ab_H) : Option ab_H := ab_ck (ab_io h x0 12 = true) (ab_bd (fX12_single F x0 (-1 : Int32) h) fun v1 => ab_ck (ab_io v1.2 x0 12 = true) (ab_bd (fX12_single F x0 v1.1 v1.2) fun v2 => ab_bd (ab_fi v2.2 x0 12 12) fun v3 => (if v3 = (-1 : Int32) then ab_ck (ab_io v2.2 x0 12 = true) (ab_bd (fX12_has x0 v1.1 (nI 4) v2.1 v2.2) fun h5 => ab_ck (ab_io h5 x0 12 = true) (ab_bd (fX12_has x0 v2.1 (nI 4) v1.1 h5) fun h6 => some h6)) else some v2.2)))
set_option maxRecDepth 100000 in
set_option maxHeartbeats 4000000 in
theorem wX12_wedLine {l : Launch} (hl : l.stackTraces = false) (F : Nat) (x0 : Nat) (h : ab_H) : ab_S l mX12_wedLine (fun y : ab_H => ((.inl none, y) : ab_R × ab_H)) 0 0 (fX12_wedLine F x0 h) 0 [(0, .ref x0)] [] h := by
  unfold fX12_wedLine
  refine ab_aload_n (pc := 0) (n := 0) (i := 0) (j := 0) (by decide +kernel) rfl rfl ?_
  refine ab_iconst (pc := 1) (n := -1) (v := (-1 : Int32)) (by decide +kernel) rfl ?_
  refine ab_callVj (As := [.int (-1 : Int32)]) (st := []) (pc := 2) lk_X12_115_12 rfl rfl rfl (by decide) rfl (Nat.le_of_ble_eq_true rfl) (by decide +kernel) (fun y9 e9 => okX12_single hl (F := F) e9) (fun v1 ev1 => ?_)
  refine ab_istore_n (pc := 5) (n := 1) (i := 1) (lv' := [(0, .ref x0), (1, .int v1.1)]) (by decide +kernel) rfl (Nat.le_of_ble_eq_true rfl) rfl rfl ?_
  refine ab_aload_n (pc := 6) (n := 0) (i := 0) (j := 0) (by decide +kernel) rfl rfl ?_
  refine ab_iload_n (pc := 7) (n := 1) (i := 1) (j := 1) (by decide +kernel) rfl rfl ?_
  refine ab_callVj (As := [.int v1.1]) (st := []) (pc := 8) lk_X12_115_12 rfl rfl rfl (by decide) rfl (Nat.le_of_ble_eq_true rfl) (by decide +kernel) (fun y9 e9 => okX12_single hl (F := F) e9) (fun v2 ev2 => ?_)
  refine ab_istore_n (pc := 11) (n := 2) (i := 2) (lv' := [(0, .ref x0), (1, .int v1.1), (2, .int v2.1)]) (by decide +kernel) rfl (Nat.le_of_ble_eq_true rfl) rfl rfl ?_
  refine ab_aload_n (pc := 12) (n := 0) (i := 0) (j := 0) (by decide +kernel) rfl rfl ?_
  refine ab_getI (pc := 13) fl_X12_25_12 (by decide +kernel) (fun v3 ev3 => ?_)
  refine ab_iconst (pc := 16) (n := -1) (v := (-1 : Int32)) (by decide +kernel) rfl ?_
  refine ab_icmp_eq (off := 4) (pc := 17) (tgt := 21) (by decide +kernel) (by decide) (fun g4 => ?_) (fun g4 => ?_)
  · refine ab_aload_n (pc := 21) (n := 0) (i := 0) (j := 0) (by decide +kernel) rfl rfl ?_
    refine ab_iload_n (pc := 22) (n := 1) (i := 1) (j := 1) (by decide +kernel) rfl rfl ?_
    refine ab_iconst (pc := 23) (n := 4) (v := nI 4) (by decide +kernel) rfl ?_
    refine ab_iload_n (pc := 24) (n := 2) (i := 2) (j := 2) (by decide +kernel) rfl rfl ?_
    refine ab_callVw (As := [.int v1.1, .int (nI 4), .int v2.1]) (st := []) (pc := 25) lk_X12_100_12 rfl rfl rfl (by decide) rfl (Nat.le_of_ble_eq_true rfl) (by decide +kernel) (fun y9 e9 => okX12_has hl e9) (fun h5 eh5 => ?_)
    refine ab_aload_n (pc := 28) (n := 0) (i := 0) (j := 0) (by decide +kernel) rfl rfl ?_
    refine ab_iload_n (pc := 29) (n := 2) (i := 2) (j := 2) (by decide +kernel) rfl rfl ?_
    refine ab_iconst (pc := 30) (n := 4) (v := nI 4) (by decide +kernel) rfl ?_
    refine ab_iload_n (pc := 31) (n := 1) (i := 1) (j := 1) (by decide +kernel) rfl rfl ?_
    refine ab_callVw (As := [.int v2.1, .int (nI 4), .int v1.1]) (st := []) (pc := 32) lk_X12_100_12 rfl rfl rfl (by decide) rfl (Nat.le_of_ble_eq_true rfl) (by decide +kernel) (fun y9 e9 => okX12_has hl e9) (fun h6 eh6 => ?_)
    exact ab_vret (pc := 35) (by decide +kernel) rfl rfl (Nat.le_of_ble_eq_true rfl) (Nat.le_of_ble_eq_true rfl)
  · exact ab_vret (pc := 20) (by decide +kernel) rfl rfl (Nat.le_of_ble_eq_true rfl) (Nat.le_of_ble_eq_true rfl)
set_option maxRecDepth 100000 in
set_option maxHeartbeats 4000000 in
theorem okX12_wedLine {l : Launch} (hl : l.stackTraces = false) {F : Nat} {x0 : Nat} {h : ab_H} {y : ab_H} (e : fX12_wedLine F x0 h = some y) : ab_Met l mX12_wedLine [.ref x0] h (.inl none, y) := ab_ofS (io := (fun y : ab_H => ((.inl none, y) : ab_R × ab_H))) (x := y) hl (by decide) rfl (Nat.le_of_ble_eq_true rfl) (wX12_wedLine hl F x0 h) e
def mX12_knowsLine : ab_M := (yX12_knowsLine, cX12_knowsLine, 5, none, { frames := 4, cells := 0, slots := 0, locals := 85 })
theorem iX12_knowsLine : ab_MI mX12_knowsLine 0 := ⟨kw_f6da3fec15, kw_30b3f7d7c6, by decide +kernel⟩
def fX12_knowsLine_28 (F : Nat) (x0 : Nat) (x1 : Int32) : Nat → Int32 → ab_H → Option ab_H
  | 0, _, _ => none
  | n + 1, x2, h => (if x2 = 0 then some h else ab_ck (ab_io h x0 12 = true) (ab_bd (fX12_place F x0 h) fun v7 => ab_bd (ab_fr v7.2 x0 12 1) fun v8 => ab_bd (ab_ia 0 v7.2 v8 (nI 3)) fun v9 => ab_ck (ab_io v7.2 x0 12 = true) (ab_bd (fX12_figures F x0 (nI 0) (v9 - (nI 1)) v7.2) fun v10 => ab_bd (ab_fi v10.2 x0 12 12) fun v11 => ab_jn (κ := ab_H → Option ab_H) (fun (h12 : ab_H) => ab_bd (ab_fi h12 x0 12 12) fun v13 => ab_jn (κ := ab_H → Option ab_H) (fun (h14 : ab_H) => ab_bd (ab_fi h14 x0 12 12) fun v15 => (if v15 = (-1 : Int32) then ab_ck (ab_io h14 x0 12 = true) (ab_bd (fX12_isFigure F x0 h14) fun v17 => (if v17.1 = 0 then fX12_knowsLine_28 F x0 x1 n (nI 0) v17.2 else fX12_knowsLine_28 F x0 x1 n (nI 1) v17.2)) else fX12_knowsLine_28 F x0 x1 n (nI 0) h14)) fun j19 => (if v13 = (-1 : Int32) then ab_ck (ab_io h12 x0 12 = true) (ab_bd (fX12_of x0 x1 (nI 5) h12) fun v21 => ab_ck (ab_io h12 x0 12 = true) (ab_bd (fX12_has x0 x1 (nI 5) (v21 ||| ((nI 1) <<< (v10.1 &&& 31))) h12) fun h22 => j19 h22)) else j19 h12)) fun j23 => (if v11 = (-1 : Int32) then (if v10.1 = x1 then ab_ck (ab_io v10.2 x0 12 = true) (ab_bd (fX12_wrong x0 v7.1 v10.2) fun h26 => j23 h26) else j23 v10.2) else j23 v10.2))))
def fX12_knowsLine (F : Nat) (x0 : Nat) (h : ab_H) : Option ab_H := ab_bd (ab_fr h x0 12 1) fun v1 => ab_bd (ab_ia 0 h v1 (nI 3)) fun v2 => ab_ck (ab_io h x0 12 = true) (ab_bd (fX12_figures F x0 (nI 0) (v2 - (nI 1)) h) fun v3 => ab_bd (ab_fi v3.2 x0 12 12) fun v4 => (if v4 = (-1 : Int32) then fX12_knowsLine_28 F x0 v3.1 F (nI 1) v3.2 else fX12_knowsLine_28 F x0 v3.1 F (nI 0) v3.2))
set_option maxRecDepth 100000 in
set_option maxHeartbeats 4000000 in
theorem lX12_knowsLine_28 {l : Launch} (hl : l.stackTraces = false) (F : Nat) (x0 : Nat) (x1 : Int32) : ∀ (n : Nat) (x2 : Int32) (h : ab_H), ab_S l mX12_knowsLine (fun y : ab_H => ((.inl none, y) : ab_R × ab_H)) 0 0 (fX12_knowsLine_28 F x0 x1 n x2 h) 28 [(0, .ref x0), (1, .int x1), (2, .int x2)] [] h := by
  intro n
  induction n with
  | zero =>
    intro x2 h
    exact ab_none
  | succ n ih =>
    intro x2 h
    rw [fX12_knowsLine_28]
    refine ab_iload_n (pc := 28) (n := 2) (i := 2) (j := 2) (by decide +kernel) rfl rfl ?_
    refine ab_if_eq (off := 91) (pc := 29) (tgt := 120) (by decide +kernel) (by decide) (fun g6 => ?_) (fun g6 => ?_)
    · exact ab_vret (pc := 120) (by decide +kernel) rfl rfl (Nat.le_of_ble_eq_true rfl) (Nat.le_of_ble_eq_true rfl)
    · refine ab_aload_n (pc := 32) (n := 0) (i := 0) (j := 0) (by decide +kernel) rfl rfl ?_
      refine ab_callVj (As := []) (st := []) (pc := 33) lk_X12_90_12 rfl rfl rfl (by decide) rfl (Nat.le_of_ble_eq_true rfl) (by decide +kernel) (fun y9 e9 => okX12_place hl (F := F) e9) (fun v7 ev7 => ?_)
      refine ab_istore_n (pc := 36) (n := 3) (i := 3) (lv' := [(0, .ref x0), (1, .int x1), (2, .int x2), (3, .int v7.1)]) (by decide +kernel) rfl (Nat.le_of_ble_eq_true rfl) rfl rfl ?_
      refine ab_aload_n (pc := 37) (n := 0) (i := 0) (j := 0) (by decide +kernel) rfl rfl ?_
      refine ab_iconst (pc := 38) (n := 0) (v := nI 0) (by decide +kernel) rfl ?_
      refine ab_aload_n (pc := 39) (n := 0) (i := 0) (j := 0) (by decide +kernel) rfl rfl ?_
      refine ab_getR (pc := 40) fl_X12_7_12 (by decide +kernel) (fun v8 ev8 => ?_)
      refine ab_iconst (pc := 43) (n := 3) (v := nI 3) (by decide +kernel) rfl ?_
      refine ab_iald (pc := 44) (by decide +kernel) (fun v9 ev9 => ?_)
      refine ab_iconst (pc := 45) (n := 1) (v := nI 1) (by decide +kernel) rfl ?_
      refine ab_isub (pc := 46) (by decide +kernel) ?_
      refine ab_callVj (As := [.int (nI 0), .int (v9 - (nI 1))]) (st := []) (pc := 47) lk_X12_104_12 rfl rfl rfl (by decide) rfl (Nat.le_of_ble_eq_true rfl) (by decide +kernel) (fun y9 e9 => okX12_figures hl (F := F) e9) (fun v10 ev10 => ?_)
      refine ab_istore (pc := 50) (i := 4) (lv' := [(0, .ref x0), (1, .int x1), (2, .int x2), (3, .int v7.1), (4, .int v10.1)]) (by decide +kernel) (Nat.le_of_ble_eq_true rfl) rfl rfl ?_
      refine ab_aload_n (pc := 52) (n := 0) (i := 0) (j := 0) (by decide +kernel) rfl rfl ?_
      refine ab_getI (pc := 53) fl_X12_25_12 (by decide +kernel) (fun v11 ev11 => ?_)
      refine ab_iconst (pc := 56) (n := -1) (v := (-1 : Int32)) (by decide +kernel) rfl ?_
      refine ab_jr (fun k9 : ab_H → Option ab_H => ∀ (h12 : ab_H), ab_S l mX12_knowsLine (fun y : ab_H => ((.inl none, y) : ab_R × ab_H)) 0 0 (k9 h12) 71 [(0, .ref x0), (1, .int x1), (4, .int v10.1)] [] h12) ?_ (fun j23 hj23 => ?_)
      · intro h12
        refine ab_aload_n (pc := 71) (n := 0) (i := 0) (j := 0) (by decide +kernel) rfl rfl ?_
        refine ab_getI (pc := 72) fl_X12_25_12 (by decide +kernel) (fun v13 ev13 => ?_)
        refine ab_iconst (pc := 75) (n := -1) (v := (-1 : Int32)) (by decide +kernel) rfl ?_
        refine ab_jr (fun k9 : ab_H → Option ab_H => ∀ (h14 : ab_H), ab_S l mX12_knowsLine (fun y : ab_H => ((.inl none, y) : ab_R × ab_H)) 0 0 (k9 h14) 96 [(0, .ref x0), (1, .int x1)] [] h14) ?_ (fun j19 hj19 => ?_)
        · intro h14
          refine ab_aload_n (pc := 96) (n := 0) (i := 0) (j := 0) (by decide +kernel) rfl rfl ?_
          refine ab_getI (pc := 97) fl_X12_25_12 (by decide +kernel) (fun v15 ev15 => ?_)
          refine ab_iconst (pc := 100) (n := -1) (v := (-1 : Int32)) (by decide +kernel) rfl ?_
          refine ab_icmp_ne (off := 14) (pc := 101) (tgt := 115) (by decide +kernel) (by decide) (fun g16 => ?_) (fun g16 => ?_)
          · refine ab_aload_n (pc := 104) (n := 0) (i := 0) (j := 0) (by decide +kernel) rfl rfl ?_
            refine ab_callVj (As := []) (st := []) (pc := 105) lk_X12_111_12 rfl rfl rfl (by decide) rfl (Nat.le_of_ble_eq_true rfl) (by decide +kernel) (fun y9 e9 => okX12_isFigure hl (F := F) e9) (fun v17 ev17 => ?_)
            refine ab_if_eq (off := 7) (pc := 108) (tgt := 115) (by decide +kernel) (by decide) (fun g18 => ?_) (fun g18 => ?_)
            · refine ab_iconst (pc := 115) (n := 0) (v := nI 0) (by decide +kernel) rfl ?_
              refine ab_istore_n (pc := 116) (n := 2) (i := 2) (lv' := [(0, .ref x0), (1, .int x1), (2, .int (nI 0))]) (by decide +kernel) rfl (Nat.le_of_ble_eq_true rfl) rfl rfl ?_
              refine ab_goto (pc := 117) (off := (-89)) (tgt := 28) (by decide +kernel) (by decide) ?_
              exact ih (nI 0) v17.2
            · refine ab_iconst (pc := 111) (n := 1) (v := nI 1) (by decide +kernel) rfl ?_
              refine ab_goto (pc := 112) (off := 4) (tgt := 116) (by decide +kernel) (by decide) ?_
              refine ab_istore_n (pc := 116) (n := 2) (i := 2) (lv' := [(0, .ref x0), (1, .int x1), (2, .int (nI 1))]) (by decide +kernel) rfl (Nat.le_of_ble_eq_true rfl) rfl rfl ?_
              refine ab_goto (pc := 117) (off := (-89)) (tgt := 28) (by decide +kernel) (by decide) ?_
              exact ih (nI 1) v17.2
          · refine ab_iconst (pc := 115) (n := 0) (v := nI 0) (by decide +kernel) rfl ?_
            refine ab_istore_n (pc := 116) (n := 2) (i := 2) (lv' := [(0, .ref x0), (1, .int x1), (2, .int (nI 0))]) (by decide +kernel) rfl (Nat.le_of_ble_eq_true rfl) rfl rfl ?_
            refine ab_goto (pc := 117) (off := (-89)) (tgt := 28) (by decide +kernel) (by decide) ?_
            exact ih (nI 0) h14
        · refine ab_icmp_ne (off := 20) (pc := 76) (tgt := 96) (by decide +kernel) (by decide) (fun g20 => ?_) (fun g20 => ?_)
          · refine ab_aload_n (pc := 79) (n := 0) (i := 0) (j := 0) (by decide +kernel) rfl rfl ?_
            refine ab_iload_n (pc := 80) (n := 1) (i := 1) (j := 1) (by decide +kernel) rfl rfl ?_
            refine ab_iconst (pc := 81) (n := 5) (v := nI 5) (by decide +kernel) rfl ?_
            refine ab_aload_n (pc := 82) (n := 0) (i := 0) (j := 0) (by decide +kernel) rfl rfl ?_
            refine ab_iload_n (pc := 83) (n := 1) (i := 1) (j := 1) (by decide +kernel) rfl rfl ?_
            refine ab_iconst (pc := 84) (n := 5) (v := nI 5) (by decide +kernel) rfl ?_
            refine ab_callVi (As := [.int x1, .int (nI 5)]) (st := [.int (nI 5), .int x1, .ref x0]) (pc := 85) lk_X12_57_12 rfl rfl rfl (by decide) rfl (Nat.le_of_ble_eq_true rfl) (by decide +kernel) (fun y9 e9 => okX12_of hl e9) (fun v21 ev21 => ?_)
            refine ab_iconst (pc := 88) (n := 1) (v := nI 1) (by decide +kernel) rfl ?_
            refine ab_iload (pc := 89) (i := 4) (j := 2) (by decide +kernel) rfl ?_
            refine ab_ishl (pc := 91) (by decide +kernel) ?_
            refine ab_ior (pc := 92) (by decide +kernel) ?_
            refine ab_callVw (As := [.int x1, .int (nI 5), .int (v21 ||| ((nI 1) <<< (v10.1 &&& 31)))]) (st := []) (pc := 93) lk_X12_100_12 rfl rfl rfl (by decide) rfl (Nat.le_of_ble_eq_true rfl) (by decide +kernel) (fun y9 e9 => okX12_has hl e9) (fun h22 eh22 => ?_)
            refine ab_few [0, 1] (lv' := [(0, .ref x0), (1, .int x1)]) rfl ?_
            exact hj19 h22
          · refine ab_few [0, 1] (lv' := [(0, .ref x0), (1, .int x1)]) rfl ?_
            exact hj19 h12
      · refine ab_icmp_ne (off := 14) (pc := 57) (tgt := 71) (by decide +kernel) (by decide) (fun g24 => ?_) (fun g24 => ?_)
        · refine ab_iload (pc := 60) (i := 4) (j := 4) (by decide +kernel) rfl ?_
          refine ab_iload_n (pc := 62) (n := 1) (i := 1) (j := 1) (by decide +kernel) rfl rfl ?_
          refine ab_icmp_ne (off := 8) (pc := 63) (tgt := 71) (by decide +kernel) (by decide) (fun g25 => ?_) (fun g25 => ?_)
          · refine ab_aload_n (pc := 66) (n := 0) (i := 0) (j := 0) (by decide +kernel) rfl rfl ?_
            refine ab_iload_n (pc := 67) (n := 3) (i := 3) (j := 3) (by decide +kernel) rfl rfl ?_
            refine ab_callVw (As := [.int v7.1]) (st := []) (pc := 68) lk_X12_93_12 rfl rfl rfl (by decide) rfl (Nat.le_of_ble_eq_true rfl) (by decide +kernel) (fun y9 e9 => okX12_wrong hl e9) (fun h26 eh26 => ?_)
            refine ab_few [0, 1, 4] (lv' := [(0, .ref x0), (1, .int x1), (4, .int v10.1)]) rfl ?_
            exact hj23 h26
          · refine ab_few [0, 1, 4] (lv' := [(0, .ref x0), (1, .int x1), (4, .int v10.1)]) rfl ?_
            exact hj23 v10.2
        · refine ab_few [0, 1, 4] (lv' := [(0, .ref x0), (1, .int x1), (4, .int v10.1)]) rfl ?_
          exact hj23 v10.2
set_option maxRecDepth 100000 in
set_option maxHeartbeats 4000000 in
theorem wX12_knowsLine {l : Launch} (hl : l.stackTraces = false) (F : Nat) (x0 : Nat) (h : ab_H) : ab_S l mX12_knowsLine (fun y : ab_H => ((.inl none, y) : ab_R × ab_H)) 0 0 (fX12_knowsLine F x0 h) 0 [(0, .ref x0)] [] h := by
  unfold fX12_knowsLine
  refine ab_aload_n (pc := 0) (n := 0) (i := 0) (j := 0) (by decide +kernel) rfl rfl ?_
  refine ab_iconst (pc := 1) (n := 0) (v := nI 0) (by decide +kernel) rfl ?_
  refine ab_aload_n (pc := 2) (n := 0) (i := 0) (j := 0) (by decide +kernel) rfl rfl ?_
  refine ab_getR (pc := 3) fl_X12_7_12 (by decide +kernel) (fun v1 ev1 => ?_)
  refine ab_iconst (pc := 6) (n := 3) (v := nI 3) (by decide +kernel) rfl ?_
  refine ab_iald (pc := 7) (by decide +kernel) (fun v2 ev2 => ?_)
  refine ab_iconst (pc := 8) (n := 1) (v := nI 1) (by decide +kernel) rfl ?_
  refine ab_isub (pc := 9) (by decide +kernel) ?_
  refine ab_callVj (As := [.int (nI 0), .int (v2 - (nI 1))]) (st := []) (pc := 10) lk_X12_104_12 rfl rfl rfl (by decide) rfl (Nat.le_of_ble_eq_true rfl) (by decide +kernel) (fun y9 e9 => okX12_figures hl (F := F) e9) (fun v3 ev3 => ?_)
  refine ab_istore_n (pc := 13) (n := 1) (i := 1) (lv' := [(0, .ref x0), (1, .int v3.1)]) (by decide +kernel) rfl (Nat.le_of_ble_eq_true rfl) rfl rfl ?_
  refine ab_aload_n (pc := 14) (n := 0) (i := 0) (j := 0) (by decide +kernel) rfl rfl ?_
  refine ab_getI (pc := 15) fl_X12_25_12 (by decide +kernel) (fun v4 ev4 => ?_)
  refine ab_iconst (pc := 18) (n := -1) (v := (-1 : Int32)) (by decide +kernel) rfl ?_
  refine ab_icmp_ne (off := 7) (pc := 19) (tgt := 26) (by decide +kernel) (by decide) (fun g5 => ?_) (fun g5 => ?_)
  · refine ab_iconst (pc := 22) (n := 1) (v := nI 1) (by decide +kernel) rfl ?_
    refine ab_goto (pc := 23) (off := 4) (tgt := 27) (by decide +kernel) (by decide) ?_
    refine ab_istore_n (pc := 27) (n := 2) (i := 2) (lv' := [(0, .ref x0), (1, .int v3.1), (2, .int (nI 1))]) (by decide +kernel) rfl (Nat.le_of_ble_eq_true rfl) rfl rfl ?_
    refine lX12_knowsLine_28 hl F x0 v3.1 F (nI 1) v3.2
  · refine ab_iconst (pc := 26) (n := 0) (v := nI 0) (by decide +kernel) rfl ?_
    refine ab_istore_n (pc := 27) (n := 2) (i := 2) (lv' := [(0, .ref x0), (1, .int v3.1), (2, .int (nI 0))]) (by decide +kernel) rfl (Nat.le_of_ble_eq_true rfl) rfl rfl ?_
    refine lX12_knowsLine_28 hl F x0 v3.1 F (nI 0) v3.2
set_option maxRecDepth 100000 in
set_option maxHeartbeats 4000000 in
theorem okX12_knowsLine {l : Launch} (hl : l.stackTraces = false) {F : Nat} {x0 : Nat} {h : ab_H} {y : ab_H} (e : fX12_knowsLine F x0 h = some y) : ab_Met l mX12_knowsLine [.ref x0] h (.inl none, y) := ab_ofS (io := (fun y : ab_H => ((.inl none, y) : ab_R × ab_H))) (x := y) hl (by decide) rfl (Nat.le_of_ble_eq_true rfl) (wX12_knowsLine hl F x0 h) e
def mX12_lastTaken : ab_M := (yX12_lastTaken, cX12_lastTaken, 3, (some .int), { frames := 2, cells := 0, slots := 0, locals := 44 })
theorem iX12_lastTaken : ab_MI mX12_lastTaken 0 := ⟨kw_ef9038eaee, kw_30b3f7d7c6, by decide +kernel⟩
theorem lk_X12_118_12 : ab_LV RX12 118 12 mX12_hasTicketOf 1 := ⟨RX12, rfl, iX12_hasTicketOf, kw_da21116af0, kw_99416bea91, kw_cb10f25681⟩
def fX12_lastTaken_4 (F : Nat) (x0 : Nat) (h : ab_H) : Nat → Int32 → Int32 → Option Int32
  | 0, _, _ => none
  | n + 1, x1, x2 => ab_bd (ab_fr h x0 12 1) fun v1 => ab_bd (ab_ia 0 h v1 (nI 4)) fun v2 => (if x2 < v2 then ab_bd (ab_fr h x0 12 1) fun v4 => ab_bd (ab_ia 0 h v4 ((nI 272) + x2)) fun v5 => (if v5 = (-1 : Int32) then ab_ck (ab_io h x0 12 = true) (ab_bd (fX12_hasTicketOf F x0 x2 h) fun v7 => (if v7 = 0 then fX12_lastTaken_4 F x0 h n x1 (x2 + nI 1) else fX12_lastTaken_4 F x0 h n x2 (x2 + nI 1))) else fX12_lastTaken_4 F x0 h n x2 (x2 + nI 1)) else some x1)
def fX12_lastTaken (F : Nat) (x0 : Nat) (h : ab_H) : Option Int32 := fX12_lastTaken_4 F x0 h F (-1 : Int32) (nI 0)
set_option maxRecDepth 100000 in
set_option maxHeartbeats 4000000 in
theorem lX12_lastTaken_4 {l : Launch} (hl : l.stackTraces = false) (F : Nat) (x0 : Nat) (h : ab_H) : ∀ (n : Nat) (x1 : Int32) (x2 : Int32), ab_S l mX12_lastTaken (fun y : Int32 => ((.inl (some (.int y)), h) : ab_R × ab_H)) 0 0 (fX12_lastTaken_4 F x0 h n x1 x2) 4 [(0, .ref x0), (1, .int x1), (2, .int x2)] [] h := by
  intro n
  induction n with
  | zero =>
    intro x1 x2
    exact ab_none
  | succ n ih =>
    intro x1 x2
    rw [fX12_lastTaken_4]
    refine ab_iload_n (pc := 4) (n := 2) (i := 2) (j := 2) (by decide +kernel) rfl rfl ?_
    refine ab_aload_n (pc := 5) (n := 0) (i := 0) (j := 0) (by decide +kernel) rfl rfl ?_
    refine ab_getR (pc := 6) fl_X12_7_12 (by decide +kernel) (fun v1 ev1 => ?_)
    refine ab_iconst (pc := 9) (n := 4) (v := nI 4) (by decide +kernel) rfl ?_
    refine ab_iald (pc := 10) (by decide +kernel) (fun v2 ev2 => ?_)
    refine ab_icmp_ge (off := 33) (pc := 11) (tgt := 44) (by decide +kernel) (by decide) (fun g3 => ?_) (fun g3 => ?_)
    · refine ab_aload_n (pc := 14) (n := 0) (i := 0) (j := 0) (by decide +kernel) rfl rfl ?_
      refine ab_getR (pc := 15) fl_X12_7_12 (by decide +kernel) (fun v4 ev4 => ?_)
      refine ab_sipush (pc := 18) (n := 272) (v := nI 272) (by decide +kernel) (by decide) ?_
      refine ab_iload_n (pc := 21) (n := 2) (i := 2) (j := 2) (by decide +kernel) rfl rfl ?_
      refine ab_iadd (pc := 22) (by decide +kernel) ?_
      refine ab_iald (pc := 23) (by decide +kernel) (fun v5 ev5 => ?_)
      refine ab_iconst (pc := 24) (n := -1) (v := (-1 : Int32)) (by decide +kernel) rfl ?_
      refine ab_icmp_ne (off := 11) (pc := 25) (tgt := 36) (by decide +kernel) (by decide) (fun g6 => ?_) (fun g6 => ?_)
      · refine ab_aload_n (pc := 28) (n := 0) (i := 0) (j := 0) (by decide +kernel) rfl rfl ?_
        refine ab_iload_n (pc := 29) (n := 2) (i := 2) (j := 2) (by decide +kernel) rfl rfl ?_
        refine ab_callVi (As := [.int x2]) (st := []) (pc := 30) lk_X12_118_12 rfl rfl rfl (by decide) rfl (Nat.le_of_ble_eq_true rfl) (by decide +kernel) (fun y9 e9 => okX12_hasTicketOf hl (F := F) e9) (fun v7 ev7 => ?_)
        refine ab_if_eq (off := 5) (pc := 33) (tgt := 38) (by decide +kernel) (by decide) (fun g8 => ?_) (fun g8 => ?_)
        · refine ab_iinc (pc := 38) (i := 2) (n := 1) (j := 2) (d := nI 1) (lv' := [(0, .ref x0), (1, .int x1), (2, .int (x2 + nI 1))]) (by decide +kernel) rfl rfl (Nat.le_of_ble_eq_true rfl) rfl rfl ?_
          refine ab_goto (pc := 41) (off := (-37)) (tgt := 4) (by decide +kernel) (by decide) ?_
          exact ih x1 (x2 + nI 1)
        · refine ab_iload_n (pc := 36) (n := 2) (i := 2) (j := 2) (by decide +kernel) rfl rfl ?_
          refine ab_istore_n (pc := 37) (n := 1) (i := 1) (lv' := [(0, .ref x0), (1, .int x2), (2, .int x2)]) (by decide +kernel) rfl (Nat.le_of_ble_eq_true rfl) rfl rfl ?_
          refine ab_iinc (pc := 38) (i := 2) (n := 1) (j := 2) (d := nI 1) (lv' := [(0, .ref x0), (1, .int x2), (2, .int (x2 + nI 1))]) (by decide +kernel) rfl rfl (Nat.le_of_ble_eq_true rfl) rfl rfl ?_
          refine ab_goto (pc := 41) (off := (-37)) (tgt := 4) (by decide +kernel) (by decide) ?_
          exact ih x2 (x2 + nI 1)
      · refine ab_iload_n (pc := 36) (n := 2) (i := 2) (j := 2) (by decide +kernel) rfl rfl ?_
        refine ab_istore_n (pc := 37) (n := 1) (i := 1) (lv' := [(0, .ref x0), (1, .int x2), (2, .int x2)]) (by decide +kernel) rfl (Nat.le_of_ble_eq_true rfl) rfl rfl ?_
        refine ab_iinc (pc := 38) (i := 2) (n := 1) (j := 2) (d := nI 1) (lv' := [(0, .ref x0), (1, .int x2), (2, .int (x2 + nI 1))]) (by decide +kernel) rfl rfl (Nat.le_of_ble_eq_true rfl) rfl rfl ?_
        refine ab_goto (pc := 41) (off := (-37)) (tgt := 4) (by decide +kernel) (by decide) ?_
        exact ih x2 (x2 + nI 1)
    · refine ab_iload_n (pc := 44) (n := 1) (i := 1) (j := 1) (by decide +kernel) rfl rfl ?_
      exact ab_iret (pc := 45) (by decide +kernel) rfl rfl (Nat.le_of_ble_eq_true rfl) (Nat.le_of_ble_eq_true rfl)
set_option maxRecDepth 100000 in
set_option maxHeartbeats 4000000 in
theorem wX12_lastTaken {l : Launch} (hl : l.stackTraces = false) (F : Nat) (x0 : Nat) (h : ab_H) : ab_S l mX12_lastTaken (fun y : Int32 => ((.inl (some (.int y)), h) : ab_R × ab_H)) 0 0 (fX12_lastTaken F x0 h) 0 [(0, .ref x0)] [] h := by
  unfold fX12_lastTaken
  refine ab_iconst (pc := 0) (n := -1) (v := (-1 : Int32)) (by decide +kernel) rfl ?_
  refine ab_istore_n (pc := 1) (n := 1) (i := 1) (lv' := [(0, .ref x0), (1, .int (-1 : Int32))]) (by decide +kernel) rfl (Nat.le_of_ble_eq_true rfl) rfl rfl ?_
  refine ab_iconst (pc := 2) (n := 0) (v := nI 0) (by decide +kernel) rfl ?_
  refine ab_istore_n (pc := 3) (n := 2) (i := 2) (lv' := [(0, .ref x0), (1, .int (-1 : Int32)), (2, .int (nI 0))]) (by decide +kernel) rfl (Nat.le_of_ble_eq_true rfl) rfl rfl ?_
  refine lX12_lastTaken_4 hl F x0 h F (-1 : Int32) (nI 0)
set_option maxRecDepth 100000 in
set_option maxHeartbeats 4000000 in
theorem okX12_lastTaken {l : Launch} (hl : l.stackTraces = false) {F : Nat} {x0 : Nat} {h : ab_H} {y : Int32} (e : fX12_lastTaken F x0 h = some y) : ab_Met l mX12_lastTaken [.ref x0] h (.inl (some (.int y)), h) := ab_ofS (io := (fun y : Int32 => ((.inl (some (.int y)), h) : ab_R × ab_H))) (x := y) hl (by decide) rfl (Nat.le_of_ble_eq_true rfl) (wX12_lastTaken hl F x0 h) e
def mX12_doorLine : ab_M := (yX12_doorLine, cX12_doorLine, 3, none, { frames := 6, cells := 0, slots := 0, locals := 130 })
theorem iX12_doorLine : ab_MI mX12_doorLine 0 := ⟨kw_449615578f, kw_30b3f7d7c6, by decide +kernel⟩
theorem lk_X12_124_12 : ab_LV RX12 124 12 mX12_has_ 1 := ⟨RX12, rfl, iX12_has_, kw_7724aa6c9b, kw_433804e720, kw_035d50949e⟩
theorem lk_X12_127_12 : ab_LV RX12 127 12 mX12_personLine 1 := ⟨RX12, rfl, iX12_personLine, kw_22d3c8552e, kw_ba13613759, kw_d81c6b4366⟩
theorem lk_X12_132_12 : ab_LV RX12 132 12 mX12_wishLine 0 := ⟨RX12, rfl, iX12_wishLine, kw_d01d26ffdb, kw_ced5d6446c, kw_1c692b8264⟩
theorem lk_X12_137_12 : ab_LV RX12 137 12 mX12_wedLine 0 := ⟨RX12, rfl, iX12_wedLine, kw_9e1087c54e, kw_99f7f71336, kw_34606ac613⟩
theorem lk_X12_142_12 : ab_LV RX12 142 12 mX12_knowsLine 0 := ⟨RX12, rfl, iX12_knowsLine, kw_6480a54891, kw_fd9aaac8da, kw_89e7bdbcee⟩
theorem lk_X12_147_12 : ab_LV RX12 147 12 mX12_lastTaken 0 := ⟨RX12, rfl, iX12_lastTaken, kw_5c013ebef4, kw_bd07cdef94, kw_1f72e17a58⟩
theorem lk_X12_150 : ab_LS RX12 150 mX12_greater 2 := ⟨iX12_greater, kw_9adc154ca0, kw_8502913d98⟩
def fX12_doorLine (F : Nat) (x0 : Nat) (h : ab_H) : Option ab_H := ab_ck (ab_io h x0 12 = true) (ab_bd (fX12_place F x0 h) fun v1 => ab_ck (ab_io v1.2 x0 12 = true) (ab_bd (fX12_has_ F x0 (ab_SB + 35) v1.2) fun v2 => (if v2.1 = 0 then ab_ck (ab_io v2.2 x0 12 = true) (ab_bd (fX12_has_ F x0 (ab_SB + 36) v2.2) fun v4 => (if v4.1 = 0 then ab_ck (ab_io v4.2 x0 12 = true) (ab_bd (fX12_has_ F x0 (ab_SB + 26) v4.2) fun v6 => (if v6.1 = 0 then ab_ck (ab_io v6.2 x0 12 = true) (ab_bd (fX12_has_ F x0 (ab_SB + 37) v6.2) fun v8 => (if v8.1 = 0 then ab_ck (ab_io v8.2 x0 12 = true) (ab_bd (fX12_has_ F x0 (ab_SB + 38) v8.2) fun v10 => (if v10.1 = 0 then ab_ck (ab_io v10.2 x0 12 = true) (ab_bd (fX12_has_ F x0 (ab_SB + 39) v10.2) fun v12 => (if v12.1 = 0 then ab_ck (ab_io v12.2 x0 12 = true) (ab_bd (fX12_has_ F x0 (ab_SB + 40) v12.2) fun v14 => (if v14.1 = 0 then ab_bd (ab_fi v14.2 x0 12 11) fun v16 => ab_ck (ab_io v14.2 x0 12 = true) (ab_bd (fX12_wrong x0 v16 v14.2) fun h17 => some h17) else ab_ck (ab_io v14.2 x0 12 = true) (ab_bd (fX12_figures F x0 (nI 0) (nI 100) v14.2) fun v18 => ab_bd (ab_fi v18.2 x0 12 12) fun v19 => (if v19 = (-1 : Int32) then ab_bd (ab_fr v18.2 x0 12 1) fun v21 => ab_bd (ab_iw 0 v18.2 v21 (nI 7) v18.1) fun h22 => some h22 else some v18.2)))) else ab_ck (ab_io v12.2 x0 12 = true) (ab_bd (fX12_figures F x0 (nI 0) (nI 100) v12.2) fun v23 => ab_bd (ab_fi v23.2 x0 12 12) fun v24 => (if v24 = (-1 : Int32) then ab_bd (ab_fr v23.2 x0 12 1) fun v26 => ab_bd (ab_iw 0 v23.2 v26 (nI 6) v23.1) fun h27 => some h27 else some v23.2)))) else ab_ck (ab_io v10.2 x0 12 = true) (ab_bd (fX12_lastTaken F x0 v10.2) fun v28 => ab_bd (fX12_greater (nI 1) (v28 + (nI 1)) v10.2) fun v29 => ab_ck (ab_io v10.2 x0 12 = true) (ab_bd (fX12_figures F x0 v29 (nI 12) v10.2) fun v30 => ab_bd (ab_fi v30.2 x0 12 12) fun v31 => (if v31 = (-1 : Int32) then ab_bd (ab_fr v30.2 x0 12 1) fun v33 => ab_bd (ab_iw 0 v30.2 v33 (nI 4) v30.1) fun h34 => some h34 else some v30.2))))) else ab_ck (ab_io v8.2 x0 12 = true) (ab_bd (fX12_knowsLine F x0 v8.2) fun h35 => some h35))) else ab_ck (ab_io v6.2 x0 12 = true) (ab_bd (fX12_wedLine F x0 v6.2) fun h36 => some h36))) else ab_ck (ab_io v4.2 x0 12 = true) (ab_bd (fX12_wishLine F x0 v4.2) fun h37 => some h37))) else ab_ck (ab_io v2.2 x0 12 = true) (ab_bd (fX12_personLine F x0 v1.1 v2.2) fun h38 => some h38))))
set_option maxRecDepth 100000 in
set_option maxHeartbeats 4000000 in
theorem wX12_doorLine {l : Launch} (hl : l.stackTraces = false) (F : Nat) (x0 : Nat) (h : ab_H) : ab_S l mX12_doorLine (fun y : ab_H => ((.inl none, y) : ab_R × ab_H)) 0 0 (fX12_doorLine F x0 h) 0 [(0, .ref x0)] [] h := by
  unfold fX12_doorLine
  refine ab_aload_n (pc := 0) (n := 0) (i := 0) (j := 0) (by decide +kernel) rfl rfl ?_
  refine ab_callVj (As := []) (st := []) (pc := 1) lk_X12_90_12 rfl rfl rfl (by decide) rfl (Nat.le_of_ble_eq_true rfl) (by decide +kernel) (fun y9 e9 => okX12_place hl (F := F) e9) (fun v1 ev1 => ?_)
  refine ab_istore_n (pc := 4) (n := 1) (i := 1) (lv' := [(0, .ref x0), (1, .int v1.1)]) (by decide +kernel) rfl (Nat.le_of_ble_eq_true rfl) rfl rfl ?_
  refine ab_aload_n (pc := 5) (n := 0) (i := 0) (j := 0) (by decide +kernel) rfl rfl ?_
  refine ab_ldcS (pc := 6) (index := 122) (kk := 35) (tx := "person") (by decide +kernel) (by show (RX12, 122, "person", 35) ∈ ab_sr; decide +kernel) ?_
  refine ab_callVj (As := [.ref (ab_SB + 35)]) (st := []) (pc := 8) lk_X12_124_12 rfl rfl rfl (by decide) rfl (Nat.le_of_ble_eq_true rfl) (by decide +kernel) (fun y9 e9 => okX12_has_ hl (F := F) e9) (fun v2 ev2 => ?_)
  refine ab_if_eq (off := 11) (pc := 11) (tgt := 22) (by decide +kernel) (by decide) (fun g3 => ?_) (fun g3 => ?_)
  · refine ab_aload_n (pc := 22) (n := 0) (i := 0) (j := 0) (by decide +kernel) rfl rfl ?_
    refine ab_ldcS (pc := 23) (index := 130) (kk := 36) (tx := "wish") (by decide +kernel) (by show (RX12, 130, "wish", 36) ∈ ab_sr; decide +kernel) ?_
    refine ab_callVj (As := [.ref (ab_SB + 36)]) (st := []) (pc := 25) lk_X12_124_12 rfl rfl rfl (by decide) rfl (Nat.le_of_ble_eq_true rfl) (by decide +kernel) (fun y9 e9 => okX12_has_ hl (F := F) e9) (fun v4 ev4 => ?_)
    refine ab_if_eq (off := 10) (pc := 28) (tgt := 38) (by decide +kernel) (by decide) (fun g5 => ?_) (fun g5 => ?_)
    · refine ab_aload_n (pc := 38) (n := 0) (i := 0) (j := 0) (by decide +kernel) rfl rfl ?_
      refine ab_ldcS (pc := 39) (index := 135) (kk := 26) (tx := "wed") (by decide +kernel) (by show (RX12, 135, "wed", 26) ∈ ab_sr; decide +kernel) ?_
      refine ab_callVj (As := [.ref (ab_SB + 26)]) (st := []) (pc := 41) lk_X12_124_12 rfl rfl rfl (by decide) rfl (Nat.le_of_ble_eq_true rfl) (by decide +kernel) (fun y9 e9 => okX12_has_ hl (F := F) e9) (fun v6 ev6 => ?_)
      refine ab_if_eq (off := 10) (pc := 44) (tgt := 54) (by decide +kernel) (by decide) (fun g7 => ?_) (fun g7 => ?_)
      · refine ab_aload_n (pc := 54) (n := 0) (i := 0) (j := 0) (by decide +kernel) rfl rfl ?_
        refine ab_ldcS (pc := 55) (index := 140) (kk := 37) (tx := "knows") (by decide +kernel) (by show (RX12, 140, "knows", 37) ∈ ab_sr; decide +kernel) ?_
        refine ab_callVj (As := [.ref (ab_SB + 37)]) (st := []) (pc := 57) lk_X12_124_12 rfl rfl rfl (by decide) rfl (Nat.le_of_ble_eq_true rfl) (by decide +kernel) (fun y9 e9 => okX12_has_ hl (F := F) e9) (fun v8 ev8 => ?_)
        refine ab_if_eq (off := 10) (pc := 60) (tgt := 70) (by decide +kernel) (by decide) (fun g9 => ?_) (fun g9 => ?_)
        · refine ab_aload_n (pc := 70) (n := 0) (i := 0) (j := 0) (by decide +kernel) rfl rfl ?_
          refine ab_ldcS (pc := 71) (index := 145) (kk := 38) (tx := "hooks") (by decide +kernel) (by show (RX12, 145, "hooks", 38) ∈ ab_sr; decide +kernel) ?_
          refine ab_callVj (As := [.ref (ab_SB + 38)]) (st := []) (pc := 73) lk_X12_124_12 rfl rfl rfl (by decide) rfl (Nat.le_of_ble_eq_true rfl) (by decide +kernel) (fun y9 e9 => okX12_has_ hl (F := F) e9) (fun v10 ev10 => ?_)
          refine ab_if_eq (off := 38) (pc := 76) (tgt := 114) (by decide +kernel) (by decide) (fun g11 => ?_) (fun g11 => ?_)
          · refine ab_aload_n (pc := 114) (n := 0) (i := 0) (j := 0) (by decide +kernel) rfl rfl ?_
            refine ab_ldcS (pc := 115) (index := 153) (kk := 39) (tx := "mix") (by decide +kernel) (by show (RX12, 153, "mix", 39) ∈ ab_sr; decide +kernel) ?_
            refine ab_callVj (As := [.ref (ab_SB + 39)]) (st := []) (pc := 117) lk_X12_124_12 rfl rfl rfl (by decide) rfl (Nat.le_of_ble_eq_true rfl) (by decide +kernel) (fun y9 e9 => okX12_has_ hl (F := F) e9) (fun v12 ev12 => ?_)
            refine ab_if_eq (off := 30) (pc := 120) (tgt := 150) (by decide +kernel) (by decide) (fun g13 => ?_) (fun g13 => ?_)
            · refine ab_aload_n (pc := 150) (n := 0) (i := 0) (j := 0) (by decide +kernel) rfl rfl ?_
              refine ab_ldcS (pc := 151) (index := 155) (kk := 40) (tx := "thief") (by decide +kernel) (by show (RX12, 155, "thief", 40) ∈ ab_sr; decide +kernel) ?_
              refine ab_callVj (As := [.ref (ab_SB + 40)]) (st := []) (pc := 153) lk_X12_124_12 rfl rfl rfl (by decide) rfl (Nat.le_of_ble_eq_true rfl) (by decide +kernel) (fun y9 e9 => okX12_has_ hl (F := F) e9) (fun v14 ev14 => ?_)
              refine ab_if_eq (off := 30) (pc := 156) (tgt := 186) (by decide +kernel) (by decide) (fun g15 => ?_) (fun g15 => ?_)
              · refine ab_aload_n (pc := 186) (n := 0) (i := 0) (j := 0) (by decide +kernel) rfl rfl ?_
                refine ab_aload_n (pc := 187) (n := 0) (i := 0) (j := 0) (by decide +kernel) rfl rfl ?_
                refine ab_getI (pc := 188) fl_X12_67_12 (by decide +kernel) (fun v16 ev16 => ?_)
                refine ab_callVw (As := [.int v16]) (st := []) (pc := 191) lk_X12_93_12 rfl rfl rfl (by decide) rfl (Nat.le_of_ble_eq_true rfl) (by decide +kernel) (fun y9 e9 => okX12_wrong hl e9) (fun h17 eh17 => ?_)
                exact ab_vret (pc := 194) (by decide +kernel) rfl rfl (Nat.le_of_ble_eq_true rfl) (Nat.le_of_ble_eq_true rfl)
              · refine ab_aload_n (pc := 159) (n := 0) (i := 0) (j := 0) (by decide +kernel) rfl rfl ?_
                refine ab_iconst (pc := 160) (n := 0) (v := nI 0) (by decide +kernel) rfl ?_
                refine ab_bipush (pc := 161) (n := 100) (v := nI 100) (by decide +kernel) (by decide) ?_
                refine ab_callVj (As := [.int (nI 0), .int (nI 100)]) (st := []) (pc := 163) lk_X12_104_12 rfl rfl rfl (by decide) rfl (Nat.le_of_ble_eq_true rfl) (by decide +kernel) (fun y9 e9 => okX12_figures hl (F := F) e9) (fun v18 ev18 => ?_)
                refine ab_istore_n (pc := 166) (n := 2) (i := 2) (lv' := [(0, .ref x0), (1, .int v1.1), (2, .int v18.1)]) (by decide +kernel) rfl (Nat.le_of_ble_eq_true rfl) rfl rfl ?_
                refine ab_aload_n (pc := 167) (n := 0) (i := 0) (j := 0) (by decide +kernel) rfl rfl ?_
                refine ab_getI (pc := 168) fl_X12_25_12 (by decide +kernel) (fun v19 ev19 => ?_)
                refine ab_iconst (pc := 171) (n := -1) (v := (-1 : Int32)) (by decide +kernel) rfl ?_
                refine ab_icmp_ne (off := 11) (pc := 172) (tgt := 183) (by decide +kernel) (by decide) (fun g20 => ?_) (fun g20 => ?_)
                · refine ab_aload_n (pc := 175) (n := 0) (i := 0) (j := 0) (by decide +kernel) rfl rfl ?_
                  refine ab_getR (pc := 176) fl_X12_7_12 (by decide +kernel) (fun v21 ev21 => ?_)
                  refine ab_bipush (pc := 179) (n := 7) (v := nI 7) (by decide +kernel) (by decide) ?_
                  refine ab_iload_n (pc := 181) (n := 2) (i := 2) (j := 2) (by decide +kernel) rfl rfl ?_
                  refine ab_iast (pc := 182) (by decide +kernel) (fun h22 eh22 => ?_)
                  refine ab_goto (pc := 183) (off := 11) (tgt := 194) (by decide +kernel) (by decide) ?_
                  exact ab_vret (pc := 194) (by decide +kernel) rfl rfl (Nat.le_of_ble_eq_true rfl) (Nat.le_of_ble_eq_true rfl)
                · refine ab_goto (pc := 183) (off := 11) (tgt := 194) (by decide +kernel) (by decide) ?_
                  exact ab_vret (pc := 194) (by decide +kernel) rfl rfl (Nat.le_of_ble_eq_true rfl) (Nat.le_of_ble_eq_true rfl)
            · refine ab_aload_n (pc := 123) (n := 0) (i := 0) (j := 0) (by decide +kernel) rfl rfl ?_
              refine ab_iconst (pc := 124) (n := 0) (v := nI 0) (by decide +kernel) rfl ?_
              refine ab_bipush (pc := 125) (n := 100) (v := nI 100) (by decide +kernel) (by decide) ?_
              refine ab_callVj (As := [.int (nI 0), .int (nI 100)]) (st := []) (pc := 127) lk_X12_104_12 rfl rfl rfl (by decide) rfl (Nat.le_of_ble_eq_true rfl) (by decide +kernel) (fun y9 e9 => okX12_figures hl (F := F) e9) (fun v23 ev23 => ?_)
              refine ab_istore_n (pc := 130) (n := 2) (i := 2) (lv' := [(0, .ref x0), (1, .int v1.1), (2, .int v23.1)]) (by decide +kernel) rfl (Nat.le_of_ble_eq_true rfl) rfl rfl ?_
              refine ab_aload_n (pc := 131) (n := 0) (i := 0) (j := 0) (by decide +kernel) rfl rfl ?_
              refine ab_getI (pc := 132) fl_X12_25_12 (by decide +kernel) (fun v24 ev24 => ?_)
              refine ab_iconst (pc := 135) (n := -1) (v := (-1 : Int32)) (by decide +kernel) rfl ?_
              refine ab_icmp_ne (off := 11) (pc := 136) (tgt := 147) (by decide +kernel) (by decide) (fun g25 => ?_) (fun g25 => ?_)
              · refine ab_aload_n (pc := 139) (n := 0) (i := 0) (j := 0) (by decide +kernel) rfl rfl ?_
                refine ab_getR (pc := 140) fl_X12_7_12 (by decide +kernel) (fun v26 ev26 => ?_)
                refine ab_bipush (pc := 143) (n := 6) (v := nI 6) (by decide +kernel) (by decide) ?_
                refine ab_iload_n (pc := 145) (n := 2) (i := 2) (j := 2) (by decide +kernel) rfl rfl ?_
                refine ab_iast (pc := 146) (by decide +kernel) (fun h27 eh27 => ?_)
                refine ab_goto (pc := 147) (off := 47) (tgt := 194) (by decide +kernel) (by decide) ?_
                exact ab_vret (pc := 194) (by decide +kernel) rfl rfl (Nat.le_of_ble_eq_true rfl) (Nat.le_of_ble_eq_true rfl)
              · refine ab_goto (pc := 147) (off := 47) (tgt := 194) (by decide +kernel) (by decide) ?_
                exact ab_vret (pc := 194) (by decide +kernel) rfl rfl (Nat.le_of_ble_eq_true rfl) (Nat.le_of_ble_eq_true rfl)
          · refine ab_aload_n (pc := 79) (n := 0) (i := 0) (j := 0) (by decide +kernel) rfl rfl ?_
            refine ab_iconst (pc := 80) (n := 1) (v := nI 1) (by decide +kernel) rfl ?_
            refine ab_aload_n (pc := 81) (n := 0) (i := 0) (j := 0) (by decide +kernel) rfl rfl ?_
            refine ab_callVi (As := []) (st := [.int (nI 1), .ref x0]) (pc := 82) lk_X12_147_12 rfl rfl rfl (by decide) rfl (Nat.le_of_ble_eq_true rfl) (by decide +kernel) (fun y9 e9 => okX12_lastTaken hl (F := F) e9) (fun v28 ev28 => ?_)
            refine ab_iconst (pc := 85) (n := 1) (v := nI 1) (by decide +kernel) rfl ?_
            refine ab_iadd (pc := 86) (by decide +kernel) ?_
            refine ab_callSi (As := [.int (nI 1), .int (v28 + (nI 1))]) (st := [.ref x0]) (pc := 87) lk_X12_150 rfl rfl rfl (by decide) rfl (Nat.le_of_ble_eq_true rfl) (by decide +kernel) (fun y9 e9 => okX12_greater hl e9) (fun v29 ev29 => ?_)
            refine ab_bipush (pc := 90) (n := 12) (v := nI 12) (by decide +kernel) (by decide) ?_
            refine ab_callVj (As := [.int v29, .int (nI 12)]) (st := []) (pc := 92) lk_X12_104_12 rfl rfl rfl (by decide) rfl (Nat.le_of_ble_eq_true rfl) (by decide +kernel) (fun y9 e9 => okX12_figures hl (F := F) e9) (fun v30 ev30 => ?_)
            refine ab_istore_n (pc := 95) (n := 2) (i := 2) (lv' := [(0, .ref x0), (1, .int v1.1), (2, .int v30.1)]) (by decide +kernel) rfl (Nat.le_of_ble_eq_true rfl) rfl rfl ?_
            refine ab_aload_n (pc := 96) (n := 0) (i := 0) (j := 0) (by decide +kernel) rfl rfl ?_
            refine ab_getI (pc := 97) fl_X12_25_12 (by decide +kernel) (fun v31 ev31 => ?_)
            refine ab_iconst (pc := 100) (n := -1) (v := (-1 : Int32)) (by decide +kernel) rfl ?_
            refine ab_icmp_ne (off := 10) (pc := 101) (tgt := 111) (by decide +kernel) (by decide) (fun g32 => ?_) (fun g32 => ?_)
            · refine ab_aload_n (pc := 104) (n := 0) (i := 0) (j := 0) (by decide +kernel) rfl rfl ?_
              refine ab_getR (pc := 105) fl_X12_7_12 (by decide +kernel) (fun v33 ev33 => ?_)
              refine ab_iconst (pc := 108) (n := 4) (v := nI 4) (by decide +kernel) rfl ?_
              refine ab_iload_n (pc := 109) (n := 2) (i := 2) (j := 2) (by decide +kernel) rfl rfl ?_
              refine ab_iast (pc := 110) (by decide +kernel) (fun h34 eh34 => ?_)
              refine ab_goto (pc := 111) (off := 83) (tgt := 194) (by decide +kernel) (by decide) ?_
              exact ab_vret (pc := 194) (by decide +kernel) rfl rfl (Nat.le_of_ble_eq_true rfl) (Nat.le_of_ble_eq_true rfl)
            · refine ab_goto (pc := 111) (off := 83) (tgt := 194) (by decide +kernel) (by decide) ?_
              exact ab_vret (pc := 194) (by decide +kernel) rfl rfl (Nat.le_of_ble_eq_true rfl) (Nat.le_of_ble_eq_true rfl)
        · refine ab_aload_n (pc := 63) (n := 0) (i := 0) (j := 0) (by decide +kernel) rfl rfl ?_
          refine ab_callVw (As := []) (st := []) (pc := 64) lk_X12_142_12 rfl rfl rfl (by decide) rfl (Nat.le_of_ble_eq_true rfl) (by decide +kernel) (fun y9 e9 => okX12_knowsLine hl (F := F) e9) (fun h35 eh35 => ?_)
          refine ab_goto (pc := 67) (off := 127) (tgt := 194) (by decide +kernel) (by decide) ?_
          exact ab_vret (pc := 194) (by decide +kernel) rfl rfl (Nat.le_of_ble_eq_true rfl) (Nat.le_of_ble_eq_true rfl)
      · refine ab_aload_n (pc := 47) (n := 0) (i := 0) (j := 0) (by decide +kernel) rfl rfl ?_
        refine ab_callVw (As := []) (st := []) (pc := 48) lk_X12_137_12 rfl rfl rfl (by decide) rfl (Nat.le_of_ble_eq_true rfl) (by decide +kernel) (fun y9 e9 => okX12_wedLine hl (F := F) e9) (fun h36 eh36 => ?_)
        refine ab_goto (pc := 51) (off := 143) (tgt := 194) (by decide +kernel) (by decide) ?_
        exact ab_vret (pc := 194) (by decide +kernel) rfl rfl (Nat.le_of_ble_eq_true rfl) (Nat.le_of_ble_eq_true rfl)
    · refine ab_aload_n (pc := 31) (n := 0) (i := 0) (j := 0) (by decide +kernel) rfl rfl ?_
      refine ab_callVw (As := []) (st := []) (pc := 32) lk_X12_132_12 rfl rfl rfl (by decide) rfl (Nat.le_of_ble_eq_true rfl) (by decide +kernel) (fun y9 e9 => okX12_wishLine hl (F := F) e9) (fun h37 eh37 => ?_)
      refine ab_goto (pc := 35) (off := 159) (tgt := 194) (by decide +kernel) (by decide) ?_
      exact ab_vret (pc := 194) (by decide +kernel) rfl rfl (Nat.le_of_ble_eq_true rfl) (Nat.le_of_ble_eq_true rfl)
  · refine ab_aload_n (pc := 14) (n := 0) (i := 0) (j := 0) (by decide +kernel) rfl rfl ?_
    refine ab_iload_n (pc := 15) (n := 1) (i := 1) (j := 1) (by decide +kernel) rfl rfl ?_
    refine ab_callVw (As := [.int v1.1]) (st := []) (pc := 16) lk_X12_127_12 rfl rfl rfl (by decide) rfl (Nat.le_of_ble_eq_true rfl) (by decide +kernel) (fun y9 e9 => okX12_personLine hl (F := F) e9) (fun h38 eh38 => ?_)
    refine ab_goto (pc := 19) (off := 175) (tgt := 194) (by decide +kernel) (by decide) ?_
    exact ab_vret (pc := 194) (by decide +kernel) rfl rfl (Nat.le_of_ble_eq_true rfl) (Nat.le_of_ble_eq_true rfl)
set_option maxRecDepth 100000 in
set_option maxHeartbeats 4000000 in
theorem okX12_doorLine {l : Launch} (hl : l.stackTraces = false) {F : Nat} {x0 : Nat} {h : ab_H} {y : ab_H} (e : fX12_doorLine F x0 h = some y) : ab_Met l mX12_doorLine [.ref x0] h (.inl none, y) := ab_ofS (io := (fun y : ab_H => ((.inl none, y) : ab_R × ab_H))) (x := y) hl (by decide) rfl (Nat.le_of_ble_eq_true rfl) (wX12_doorLine hl F x0 h) e
def mX12_begins : ab_M := (yX12_begins, cX12_begins, 1, none, { frames := 0, cells := 0, slots := 0, locals := 0 })
theorem iX12_begins : ab_MI mX12_begins 0 := ⟨kw_b617f22485, kw_30b3f7d7c6, by decide +kernel⟩
def fX12_begins (x0 : Nat) (h : ab_H) : Option ab_H := ab_bd (ab_fw h x0 12 12 (.int (-1 : Int32))) fun h1 => ab_bd (ab_fw h1 x0 12 9 (.int (-1 : Int32))) fun h2 => ab_bd (ab_fi h2 x0 12 8) fun v3 => ab_bd (ab_fw h2 x0 12 10 (.int v3)) fun h4 => ab_bd (ab_fw h4 x0 12 8 (.int (nI 0))) fun h5 => ab_bd (ab_fw h5 x0 12 11 (.int (nI 0))) fun h6 => ab_bd (ab_fw h6 x0 12 13 (.int (nI 0))) fun h7 => some h7
set_option maxRecDepth 100000 in
set_option maxHeartbeats 4000000 in
theorem wX12_begins {l : Launch} (hl : l.stackTraces = false) (x0 : Nat) (h : ab_H) : ab_S l mX12_begins (fun y : ab_H => ((.inl none, y) : ab_R × ab_H)) 0 0 (fX12_begins x0 h) 0 [(0, .ref x0)] [] h := by
  unfold fX12_begins
  refine ab_aload_n (pc := 0) (n := 0) (i := 0) (j := 0) (by decide +kernel) rfl rfl ?_
  refine ab_iconst (pc := 1) (n := -1) (v := (-1 : Int32)) (by decide +kernel) rfl ?_
  refine ab_put (pc := 2) fl_X12_25_12 rfl (fun _ => rfl) (fun _ => rfl) (by decide +kernel) (fun h1 eh1 => ?_)
  refine ab_aload_n (pc := 5) (n := 0) (i := 0) (j := 0) (by decide +kernel) rfl rfl ?_
  refine ab_iconst (pc := 6) (n := -1) (v := (-1 : Int32)) (by decide +kernel) rfl ?_
  refine ab_put (pc := 7) fl_X12_64_12 rfl (fun _ => rfl) (fun _ => rfl) (by decide +kernel) (fun h2 eh2 => ?_)
  refine ab_aload_n (pc := 10) (n := 0) (i := 0) (j := 0) (by decide +kernel) rfl rfl ?_
  refine ab_aload_n (pc := 11) (n := 0) (i := 0) (j := 0) (by decide +kernel) rfl rfl ?_
  refine ab_getI (pc := 12) fl_X12_61_12 (by decide +kernel) (fun v3 ev3 => ?_)
  refine ab_put (pc := 15) fl_X12_70_12 rfl (fun _ => rfl) (fun _ => rfl) (by decide +kernel) (fun h4 eh4 => ?_)
  refine ab_aload_n (pc := 18) (n := 0) (i := 0) (j := 0) (by decide +kernel) rfl rfl ?_
  refine ab_iconst (pc := 19) (n := 0) (v := nI 0) (by decide +kernel) rfl ?_
  refine ab_put (pc := 20) fl_X12_61_12 rfl (fun _ => rfl) (fun _ => rfl) (by decide +kernel) (fun h5 eh5 => ?_)
  refine ab_aload_n (pc := 23) (n := 0) (i := 0) (j := 0) (by decide +kernel) rfl rfl ?_
  refine ab_iconst (pc := 24) (n := 0) (v := nI 0) (by decide +kernel) rfl ?_
  refine ab_put (pc := 25) fl_X12_67_12 rfl (fun _ => rfl) (fun _ => rfl) (by decide +kernel) (fun h6 eh6 => ?_)
  refine ab_aload_n (pc := 28) (n := 0) (i := 0) (j := 0) (by decide +kernel) rfl rfl ?_
  refine ab_iconst (pc := 29) (n := 0) (v := nI 0) (by decide +kernel) rfl ?_
  refine ab_put (pc := 30) fl_X12_157_12 rfl (fun _ => rfl) (fun _ => rfl) (by decide +kernel) (fun h7 eh7 => ?_)
  exact ab_vret (pc := 33) (by decide +kernel) rfl rfl (Nat.le_of_ble_eq_true rfl) (Nat.le_of_ble_eq_true rfl)
set_option maxRecDepth 100000 in
set_option maxHeartbeats 4000000 in
theorem okX12_begins {l : Launch} (hl : l.stackTraces = false) {x0 : Nat} {h : ab_H} {y : ab_H} (e : fX12_begins x0 h = some y) : ab_Met l mX12_begins [.ref x0] h (.inl none, y) := ab_ofS (io := (fun y : ab_H => ((.inl none, y) : ab_R × ab_H))) (x := y) hl (by decide) rfl (Nat.le_of_ble_eq_true rfl) (wX12_begins hl x0 h) e
def mX12_putsAside : ab_M := (yX12_putsAside, cX12_putsAside, 2, none, { frames := 0, cells := 0, slots := 0, locals := 0 })
theorem iX12_putsAside : ab_MI mX12_putsAside 0 := ⟨kw_aa2fcf4a69, kw_30b3f7d7c6, by decide +kernel⟩
def fX12_putsAside_2 (x0 : Nat) : Nat → Int32 → ab_H → Option ab_H
  | 0, _, _ => none
  | n + 1, x1, h => (if x1 < (nI 584) then ab_bd (ab_fr h x0 12 4) fun v2 => ab_bd (ab_fr h x0 12 1) fun v3 => ab_bd (ab_ia 0 h v3 x1) fun v4 => ab_bd (ab_iw 0 h v2 x1 v4) fun h5 => fX12_putsAside_2 x0 n (x1 + nI 1) h5 else some h)
def fX12_putsAside (F : Nat) (x0 : Nat) (h : ab_H) : Option ab_H := fX12_putsAside_2 x0 F (nI 0) h
set_option maxRecDepth 100000 in
set_option maxHeartbeats 4000000 in
theorem lX12_putsAside_2 {l : Launch} (hl : l.stackTraces = false) (x0 : Nat) : ∀ (n : Nat) (x1 : Int32) (h : ab_H), ab_S l mX12_putsAside (fun y : ab_H => ((.inl none, y) : ab_R × ab_H)) 0 0 (fX12_putsAside_2 x0 n x1 h) 2 [(0, .ref x0), (1, .int x1)] [] h := by
  intro n
  induction n with
  | zero =>
    intro x1 h
    exact ab_none
  | succ n ih =>
    intro x1 h
    rw [fX12_putsAside_2]
    refine ab_iload_n (pc := 2) (n := 1) (i := 1) (j := 1) (by decide +kernel) rfl rfl ?_
    refine ab_sipush (pc := 3) (n := 584) (v := nI 584) (by decide +kernel) (by decide) ?_
    refine ab_icmp_ge (off := 21) (pc := 6) (tgt := 27) (by decide +kernel) (by decide) (fun g1 => ?_) (fun g1 => ?_)
    · refine ab_aload_n (pc := 9) (n := 0) (i := 0) (j := 0) (by decide +kernel) rfl rfl ?_
      refine ab_getR (pc := 10) fl_X12_16_12 (by decide +kernel) (fun v2 ev2 => ?_)
      refine ab_iload_n (pc := 13) (n := 1) (i := 1) (j := 1) (by decide +kernel) rfl rfl ?_
      refine ab_aload_n (pc := 14) (n := 0) (i := 0) (j := 0) (by decide +kernel) rfl rfl ?_
      refine ab_getR (pc := 15) fl_X12_7_12 (by decide +kernel) (fun v3 ev3 => ?_)
      refine ab_iload_n (pc := 18) (n := 1) (i := 1) (j := 1) (by decide +kernel) rfl rfl ?_
      refine ab_iald (pc := 19) (by decide +kernel) (fun v4 ev4 => ?_)
      refine ab_iast (pc := 20) (by decide +kernel) (fun h5 eh5 => ?_)
      refine ab_iinc (pc := 21) (i := 1) (n := 1) (j := 1) (d := nI 1) (lv' := [(0, .ref x0), (1, .int (x1 + nI 1))]) (by decide +kernel) rfl rfl (Nat.le_of_ble_eq_true rfl) rfl rfl ?_
      refine ab_goto (pc := 24) (off := (-22)) (tgt := 2) (by decide +kernel) (by decide) ?_
      exact ih (x1 + nI 1) h5
    · exact ab_vret (pc := 27) (by decide +kernel) rfl rfl (Nat.le_of_ble_eq_true rfl) (Nat.le_of_ble_eq_true rfl)
set_option maxRecDepth 100000 in
set_option maxHeartbeats 4000000 in
theorem wX12_putsAside {l : Launch} (hl : l.stackTraces = false) (F : Nat) (x0 : Nat) (h : ab_H) : ab_S l mX12_putsAside (fun y : ab_H => ((.inl none, y) : ab_R × ab_H)) 0 0 (fX12_putsAside F x0 h) 0 [(0, .ref x0)] [] h := by
  unfold fX12_putsAside
  refine ab_iconst (pc := 0) (n := 0) (v := nI 0) (by decide +kernel) rfl ?_
  refine ab_istore_n (pc := 1) (n := 1) (i := 1) (lv' := [(0, .ref x0), (1, .int (nI 0))]) (by decide +kernel) rfl (Nat.le_of_ble_eq_true rfl) rfl rfl ?_
  refine lX12_putsAside_2 hl x0 F (nI 0) h
set_option maxRecDepth 100000 in
set_option maxHeartbeats 4000000 in
theorem okX12_putsAside {l : Launch} (hl : l.stackTraces = false) {F : Nat} {x0 : Nat} {h : ab_H} {y : ab_H} (e : fX12_putsAside F x0 h = some y) : ab_Met l mX12_putsAside [.ref x0] h (.inl none, y) := ab_ofS (io := (fun y : ab_H => ((.inl none, y) : ab_R × ab_H))) (x := y) hl (by decide) rfl (Nat.le_of_ble_eq_true rfl) (wX12_putsAside hl F x0 h) e
def mX12_comesBack : ab_M := (yX12_comesBack, cX12_comesBack, 2, none, { frames := 0, cells := 0, slots := 0, locals := 0 })
theorem iX12_comesBack : ab_MI mX12_comesBack 0 := ⟨kw_e9702c811d, kw_30b3f7d7c6, by decide +kernel⟩
def fX12_comesBack_2 (x0 : Nat) : Nat → Int32 → ab_H → Option ab_H
  | 0, _, _ => none
  | n + 1, x1, h => (if x1 < (nI 584) then ab_bd (ab_fr h x0 12 1) fun v2 => ab_bd (ab_fr h x0 12 4) fun v3 => ab_bd (ab_ia 0 h v3 x1) fun v4 => ab_bd (ab_iw 0 h v2 x1 v4) fun h5 => fX12_comesBack_2 x0 n (x1 + nI 1) h5 else some h)
def fX12_comesBack (F : Nat) (x0 : Nat) (h : ab_H) : Option ab_H := fX12_comesBack_2 x0 F (nI 0) h
set_option maxRecDepth 100000 in
set_option maxHeartbeats 4000000 in
theorem lX12_comesBack_2 {l : Launch} (hl : l.stackTraces = false) (x0 : Nat) : ∀ (n : Nat) (x1 : Int32) (h : ab_H), ab_S l mX12_comesBack (fun y : ab_H => ((.inl none, y) : ab_R × ab_H)) 0 0 (fX12_comesBack_2 x0 n x1 h) 2 [(0, .ref x0), (1, .int x1)] [] h := by
  intro n
  induction n with
  | zero =>
    intro x1 h
    exact ab_none
  | succ n ih =>
    intro x1 h
    rw [fX12_comesBack_2]
    refine ab_iload_n (pc := 2) (n := 1) (i := 1) (j := 1) (by decide +kernel) rfl rfl ?_
    refine ab_sipush (pc := 3) (n := 584) (v := nI 584) (by decide +kernel) (by decide) ?_
    refine ab_icmp_ge (off := 21) (pc := 6) (tgt := 27) (by decide +kernel) (by decide) (fun g1 => ?_) (fun g1 => ?_)
    · refine ab_aload_n (pc := 9) (n := 0) (i := 0) (j := 0) (by decide +kernel) rfl rfl ?_
      refine ab_getR (pc := 10) fl_X12_7_12 (by decide +kernel) (fun v2 ev2 => ?_)
      refine ab_iload_n (pc := 13) (n := 1) (i := 1) (j := 1) (by decide +kernel) rfl rfl ?_
      refine ab_aload_n (pc := 14) (n := 0) (i := 0) (j := 0) (by decide +kernel) rfl rfl ?_
      refine ab_getR (pc := 15) fl_X12_16_12 (by decide +kernel) (fun v3 ev3 => ?_)
      refine ab_iload_n (pc := 18) (n := 1) (i := 1) (j := 1) (by decide +kernel) rfl rfl ?_
      refine ab_iald (pc := 19) (by decide +kernel) (fun v4 ev4 => ?_)
      refine ab_iast (pc := 20) (by decide +kernel) (fun h5 eh5 => ?_)
      refine ab_iinc (pc := 21) (i := 1) (n := 1) (j := 1) (d := nI 1) (lv' := [(0, .ref x0), (1, .int (x1 + nI 1))]) (by decide +kernel) rfl rfl (Nat.le_of_ble_eq_true rfl) rfl rfl ?_
      refine ab_goto (pc := 24) (off := (-22)) (tgt := 2) (by decide +kernel) (by decide) ?_
      exact ih (x1 + nI 1) h5
    · exact ab_vret (pc := 27) (by decide +kernel) rfl rfl (Nat.le_of_ble_eq_true rfl) (Nat.le_of_ble_eq_true rfl)
set_option maxRecDepth 100000 in
set_option maxHeartbeats 4000000 in
theorem wX12_comesBack {l : Launch} (hl : l.stackTraces = false) (F : Nat) (x0 : Nat) (h : ab_H) : ab_S l mX12_comesBack (fun y : ab_H => ((.inl none, y) : ab_R × ab_H)) 0 0 (fX12_comesBack F x0 h) 0 [(0, .ref x0)] [] h := by
  unfold fX12_comesBack
  refine ab_iconst (pc := 0) (n := 0) (v := nI 0) (by decide +kernel) rfl ?_
  refine ab_istore_n (pc := 1) (n := 1) (i := 1) (lv' := [(0, .ref x0), (1, .int (nI 0))]) (by decide +kernel) rfl (Nat.le_of_ble_eq_true rfl) rfl rfl ?_
  refine lX12_comesBack_2 hl x0 F (nI 0) h
set_option maxRecDepth 100000 in
set_option maxHeartbeats 4000000 in
theorem okX12_comesBack {l : Launch} (hl : l.stackTraces = false) {F : Nat} {x0 : Nat} {h : ab_H} {y : ab_H} (e : fX12_comesBack F x0 h = some y) : ab_Met l mX12_comesBack [.ref x0] h (.inl none, y) := ab_ofS (io := (fun y : ab_H => ((.inl none, y) : ab_R × ab_H))) (x := y) hl (by decide) rfl (Nat.le_of_ble_eq_true rfl) (wX12_comesBack hl F x0 h) e
def mX12_part : ab_M := (yX12_part, cX12_part, 2, (some .int), { frames := 5, cells := 0, slots := 0, locals := 108 })
theorem iX12_part : ab_MI mX12_part 0 := ⟨kw_a49f04a5d5, kw_30b3f7d7c6, by decide +kernel⟩
def fX12_part (F : Nat) (x0 : Nat) (h : ab_H) : Option (Int32 × ab_H) := ab_bd (ab_fi h x0 12 12) fun v1 => (if v1 = (-1 : Int32) then ab_ck (ab_io h x0 12 = true) (ab_bd (fX12_skip F x0 h) fun h3 => ab_bd (ab_fi h3 x0 12 11) fun v4 => ab_bd (ab_fi h3 x0 12 10) fun v5 => ab_jn (κ := Option (Int32 × ab_H)) (ab_ck (ab_io h3 x0 12 = true) (ab_bd (fX12_has_ F x0 (ab_SB + 27) h3) fun v6 => ab_jn (κ := Int32 → ab_H → Option (Int32 × ab_H)) (fun (z7 : Int32) (h8 : ab_H) => (if z7 = (-1 : Int32) then ab_bd (ab_fi h8 x0 12 11) fun v10 => ab_ck (ab_io h8 x0 12 = true) (ab_bd (fX12_wrong x0 v10 h8) fun h11 => some (nI 0, h11)) else ab_bd (ab_fr h8 x0 12 14) fun v12 => ab_bd (ab_ia 0 h8 v12 z7) fun v13 => some (v13, h8))) fun j14 => (if v6.1 = 0 then ab_ck (ab_io v6.2 x0 12 = true) (ab_bd (fX12_has_ F x0 (ab_SB + 28) v6.2) fun v16 => (if v16.1 = 0 then ab_ck (ab_io v16.2 x0 12 = true) (ab_bd (fX12_has_ F x0 (ab_SB + 29) v16.2) fun v18 => (if v18.1 = 0 then ab_ck (ab_io v18.2 x0 12 = true) (ab_bd (fX12_has_ F x0 (ab_SB + 30) v18.2) fun v20 => (if v20.1 = 0 then ab_ck (ab_io v20.2 x0 12 = true) (ab_bd (fX12_has_ F x0 (ab_SB + 31) v20.2) fun v22 => (if v22.1 = 0 then ab_ck (ab_io v22.2 x0 12 = true) (ab_bd (fX12_has_ F x0 (ab_SB + 32) v22.2) fun v24 => (if v24.1 = 0 then j14 (-1 : Int32) v24.2 else j14 (nI 5) v24.2)) else j14 (nI 4) v22.2)) else j14 (nI 3) v20.2)) else j14 (nI 2) v18.2)) else j14 (nI 1) v16.2)) else j14 (nI 0) v6.2))) fun j26 => (if v4 < v5 then ab_bd (ab_fi h3 x0 12 11) fun v28 => ab_ck (ab_io h3 x0 12 = true) (ab_bd (fX12_letter x0 v28 h3) fun v29 => ab_bd (fX12_isIn v29 (nI 48) (nI 57) h3) fun v30 => (if v30 = 0 then j26 else ab_ck (ab_io h3 x0 12 = true) (ab_bd (fX12_figures F x0 (nI 0) (nI 999) h3) fun v32 => some (v32.1, v32.2)))) else j26)) else some (nI 0, h))
set_option maxRecDepth 100000 in
set_option maxHeartbeats 4000000 in
theorem wX12_part {l : Launch} (hl : l.stackTraces = false) (F : Nat) (x0 : Nat) (h : ab_H) : ab_S l mX12_part (fun y : (Int32 × ab_H) => ((.inl (some (.int y.1)), y.2) : ab_R × ab_H)) 0 0 (fX12_part F x0 h) 0 [(0, .ref x0)] [] h := by
  unfold fX12_part
  refine ab_aload_n (pc := 0) (n := 0) (i := 0) (j := 0) (by decide +kernel) rfl rfl ?_
  refine ab_getI (pc := 1) fl_X12_25_12 (by decide +kernel) (fun v1 ev1 => ?_)
  refine ab_iconst (pc := 4) (n := -1) (v := (-1 : Int32)) (by decide +kernel) rfl ?_
  refine ab_icmp_eq (off := 5) (pc := 5) (tgt := 10) (by decide +kernel) (by decide) (fun g2 => ?_) (fun g2 => ?_)
  · refine ab_aload_n (pc := 10) (n := 0) (i := 0) (j := 0) (by decide +kernel) rfl rfl ?_
    refine ab_callVw (As := []) (st := []) (pc := 11) lk_X12_77_12 rfl rfl rfl (by decide) rfl (Nat.le_of_ble_eq_true rfl) (by decide +kernel) (fun y9 e9 => okX12_skip hl (F := F) e9) (fun h3 eh3 => ?_)
    refine ab_aload_n (pc := 14) (n := 0) (i := 0) (j := 0) (by decide +kernel) rfl rfl ?_
    refine ab_getI (pc := 15) fl_X12_67_12 (by decide +kernel) (fun v4 ev4 => ?_)
    refine ab_aload_n (pc := 18) (n := 0) (i := 0) (j := 0) (by decide +kernel) rfl rfl ?_
    refine ab_getI (pc := 19) fl_X12_70_12 (by decide +kernel) (fun v5 ev5 => ?_)
    refine ab_jr (fun k9 : Option (Int32 × ab_H) => ab_S l mX12_part (fun y : (Int32 × ab_H) => ((.inl (some (.int y.1)), y.2) : ab_R × ab_H)) 0 0 (k9) 52 [(0, .ref x0)] [] h3) ?_ (fun j26 hj26 => ?_)
    · refine ab_aload_n (pc := 52) (n := 0) (i := 0) (j := 0) (by decide +kernel) rfl rfl ?_
      refine ab_ldcS (pc := 53) (index := 185) (kk := 27) (tx := "who") (by decide +kernel) (by show (RX12, 185, "who", 27) ∈ ab_sr; decide +kernel) ?_
      refine ab_callVj (As := [.ref (ab_SB + 27)]) (st := []) (pc := 55) lk_X12_124_12 rfl rfl rfl (by decide) rfl (Nat.le_of_ble_eq_true rfl) (by decide +kernel) (fun y9 e9 => okX12_has_ hl (F := F) e9) (fun v6 ev6 => ?_)
      refine ab_jr (fun k9 : Int32 → ab_H → Option (Int32 × ab_H) => ∀ (z7 : Int32), ∀ (h8 : ab_H), ab_S l mX12_part (fun y : (Int32 × ab_H) => ((.inl (some (.int y.1)), y.2) : ab_R × ab_H)) 0 0 (k9 z7 h8) 131 [(0, .ref x0)] [.int z7] h8) ?_ (fun j14 hj14 => ?_)
      · intro z7 h8
        refine ab_istore_n (pc := 131) (n := 1) (i := 1) (lv' := [(0, .ref x0), (1, .int z7)]) (by decide +kernel) rfl (Nat.le_of_ble_eq_true rfl) rfl rfl ?_
        refine ab_iload_n (pc := 132) (n := 1) (i := 1) (j := 1) (by decide +kernel) rfl rfl ?_
        refine ab_iconst (pc := 133) (n := -1) (v := (-1 : Int32)) (by decide +kernel) rfl ?_
        refine ab_icmp_ne (off := 13) (pc := 134) (tgt := 147) (by decide +kernel) (by decide) (fun g9 => ?_) (fun g9 => ?_)
        · refine ab_aload_n (pc := 137) (n := 0) (i := 0) (j := 0) (by decide +kernel) rfl rfl ?_
          refine ab_aload_n (pc := 138) (n := 0) (i := 0) (j := 0) (by decide +kernel) rfl rfl ?_
          refine ab_getI (pc := 139) fl_X12_67_12 (by decide +kernel) (fun v10 ev10 => ?_)
          refine ab_callVw (As := [.int v10]) (st := []) (pc := 142) lk_X12_93_12 rfl rfl rfl (by decide) rfl (Nat.le_of_ble_eq_true rfl) (by decide +kernel) (fun y9 e9 => okX12_wrong hl e9) (fun h11 eh11 => ?_)
          refine ab_iconst (pc := 145) (n := 0) (v := nI 0) (by decide +kernel) rfl ?_
          exact ab_iret (pc := 146) (by decide +kernel) rfl rfl (Nat.le_of_ble_eq_true rfl) (Nat.le_of_ble_eq_true rfl)
        · refine ab_aload_n (pc := 147) (n := 0) (i := 0) (j := 0) (by decide +kernel) rfl rfl ?_
          refine ab_getR (pc := 148) fl_X12_29_12 (by decide +kernel) (fun v12 ev12 => ?_)
          refine ab_iload_n (pc := 151) (n := 1) (i := 1) (j := 1) (by decide +kernel) rfl rfl ?_
          refine ab_iald (pc := 152) (by decide +kernel) (fun v13 ev13 => ?_)
          exact ab_iret (pc := 153) (by decide +kernel) rfl rfl (Nat.le_of_ble_eq_true rfl) (Nat.le_of_ble_eq_true rfl)
      · refine ab_if_eq (off := 7) (pc := 58) (tgt := 65) (by decide +kernel) (by decide) (fun g15 => ?_) (fun g15 => ?_)
        · refine ab_aload_n (pc := 65) (n := 0) (i := 0) (j := 0) (by decide +kernel) rfl rfl ?_
          refine ab_ldcS (pc := 66) (index := 187) (kk := 28) (tx := "hour") (by decide +kernel) (by show (RX12, 187, "hour", 28) ∈ ab_sr; decide +kernel) ?_
          refine ab_callVj (As := [.ref (ab_SB + 28)]) (st := []) (pc := 68) lk_X12_124_12 rfl rfl rfl (by decide) rfl (Nat.le_of_ble_eq_true rfl) (by decide +kernel) (fun y9 e9 => okX12_has_ hl (F := F) e9) (fun v16 ev16 => ?_)
          refine ab_if_eq (off := 7) (pc := 71) (tgt := 78) (by decide +kernel) (by decide) (fun g17 => ?_) (fun g17 => ?_)
          · refine ab_aload_n (pc := 78) (n := 0) (i := 0) (j := 0) (by decide +kernel) rfl rfl ?_
            refine ab_ldcS (pc := 79) (index := 189) (kk := 29) (tx := "hook") (by decide +kernel) (by show (RX12, 189, "hook", 29) ∈ ab_sr; decide +kernel) ?_
            refine ab_callVj (As := [.ref (ab_SB + 29)]) (st := []) (pc := 81) lk_X12_124_12 rfl rfl rfl (by decide) rfl (Nat.le_of_ble_eq_true rfl) (by decide +kernel) (fun y9 e9 => okX12_has_ hl (F := F) e9) (fun v18 ev18 => ?_)
            refine ab_if_eq (off := 7) (pc := 84) (tgt := 91) (by decide +kernel) (by decide) (fun g19 => ?_) (fun g19 => ?_)
            · refine ab_aload_n (pc := 91) (n := 0) (i := 0) (j := 0) (by decide +kernel) rfl rfl ?_
              refine ab_ldcS (pc := 92) (index := 191) (kk := 30) (tx := "marks") (by decide +kernel) (by show (RX12, 191, "marks", 30) ∈ ab_sr; decide +kernel) ?_
              refine ab_callVj (As := [.ref (ab_SB + 30)]) (st := []) (pc := 94) lk_X12_124_12 rfl rfl rfl (by decide) rfl (Nat.le_of_ble_eq_true rfl) (by decide +kernel) (fun y9 e9 => okX12_has_ hl (F := F) e9) (fun v20 ev20 => ?_)
              refine ab_if_eq (off := 7) (pc := 97) (tgt := 104) (by decide +kernel) (by decide) (fun g21 => ?_) (fun g21 => ?_)
              · refine ab_aload_n (pc := 104) (n := 0) (i := 0) (j := 0) (by decide +kernel) rfl rfl ?_
                refine ab_ldcS (pc := 105) (index := 193) (kk := 31) (tx := "hung") (by decide +kernel) (by show (RX12, 193, "hung", 31) ∈ ab_sr; decide +kernel) ?_
                refine ab_callVj (As := [.ref (ab_SB + 31)]) (st := []) (pc := 107) lk_X12_124_12 rfl rfl rfl (by decide) rfl (Nat.le_of_ble_eq_true rfl) (by decide +kernel) (fun y9 e9 => okX12_has_ hl (F := F) e9) (fun v22 ev22 => ?_)
                refine ab_if_eq (off := 7) (pc := 110) (tgt := 117) (by decide +kernel) (by decide) (fun g23 => ?_) (fun g23 => ?_)
                · refine ab_aload_n (pc := 117) (n := 0) (i := 0) (j := 0) (by decide +kernel) rfl rfl ?_
                  refine ab_ldcS (pc := 118) (index := 195) (kk := 32) (tx := "free") (by decide +kernel) (by show (RX12, 195, "free", 32) ∈ ab_sr; decide +kernel) ?_
                  refine ab_callVj (As := [.ref (ab_SB + 32)]) (st := []) (pc := 120) lk_X12_124_12 rfl rfl rfl (by decide) rfl (Nat.le_of_ble_eq_true rfl) (by decide +kernel) (fun y9 e9 => okX12_has_ hl (F := F) e9) (fun v24 ev24 => ?_)
                  refine ab_if_eq (off := 7) (pc := 123) (tgt := 130) (by decide +kernel) (by decide) (fun g25 => ?_) (fun g25 => ?_)
                  · refine ab_iconst (pc := 130) (n := -1) (v := (-1 : Int32)) (by decide +kernel) rfl ?_
                    exact hj14 (-1 : Int32) v24.2
                  · refine ab_iconst (pc := 126) (n := 5) (v := nI 5) (by decide +kernel) rfl ?_
                    refine ab_goto (pc := 127) (off := 4) (tgt := 131) (by decide +kernel) (by decide) ?_
                    exact hj14 (nI 5) v24.2
                · refine ab_iconst (pc := 113) (n := 4) (v := nI 4) (by decide +kernel) rfl ?_
                  refine ab_goto (pc := 114) (off := 17) (tgt := 131) (by decide +kernel) (by decide) ?_
                  exact hj14 (nI 4) v22.2
              · refine ab_iconst (pc := 100) (n := 3) (v := nI 3) (by decide +kernel) rfl ?_
                refine ab_goto (pc := 101) (off := 30) (tgt := 131) (by decide +kernel) (by decide) ?_
                exact hj14 (nI 3) v20.2
            · refine ab_iconst (pc := 87) (n := 2) (v := nI 2) (by decide +kernel) rfl ?_
              refine ab_goto (pc := 88) (off := 43) (tgt := 131) (by decide +kernel) (by decide) ?_
              exact hj14 (nI 2) v18.2
          · refine ab_iconst (pc := 74) (n := 1) (v := nI 1) (by decide +kernel) rfl ?_
            refine ab_goto (pc := 75) (off := 56) (tgt := 131) (by decide +kernel) (by decide) ?_
            exact hj14 (nI 1) v16.2
        · refine ab_iconst (pc := 61) (n := 0) (v := nI 0) (by decide +kernel) rfl ?_
          refine ab_goto (pc := 62) (off := 69) (tgt := 131) (by decide +kernel) (by decide) ?_
          exact hj14 (nI 0) v6.2
    · refine ab_icmp_ge (off := 30) (pc := 22) (tgt := 52) (by decide +kernel) (by decide) (fun g27 => ?_) (fun g27 => ?_)
      · refine ab_aload_n (pc := 25) (n := 0) (i := 0) (j := 0) (by decide +kernel) rfl rfl ?_
        refine ab_aload_n (pc := 26) (n := 0) (i := 0) (j := 0) (by decide +kernel) rfl rfl ?_
        refine ab_getI (pc := 27) fl_X12_67_12 (by decide +kernel) (fun v28 ev28 => ?_)
        refine ab_callVi (As := [.int v28]) (st := []) (pc := 30) lk_X12_73_12 rfl rfl rfl (by decide) rfl (Nat.le_of_ble_eq_true rfl) (by decide +kernel) (fun y9 e9 => okX12_letter hl e9) (fun v29 ev29 => ?_)
        refine ab_bipush (pc := 33) (n := 48) (v := nI 48) (by decide +kernel) (by decide) ?_
        refine ab_bipush (pc := 35) (n := 57) (v := nI 57) (by decide +kernel) (by decide) ?_
        refine ab_callSi (As := [.int v29, .int (nI 48), .int (nI 57)]) (st := []) (pc := 37) lk_X12_53 rfl rfl rfl (by decide) rfl (Nat.le_of_ble_eq_true rfl) (by decide +kernel) (fun y9 e9 => okX12_isIn hl e9) (fun v30 ev30 => ?_)
        refine ab_if_eq (off := 12) (pc := 40) (tgt := 52) (by decide +kernel) (by decide) (fun g31 => ?_) (fun g31 => ?_)
        · exact hj26
        · refine ab_aload_n (pc := 43) (n := 0) (i := 0) (j := 0) (by decide +kernel) rfl rfl ?_
          refine ab_iconst (pc := 44) (n := 0) (v := nI 0) (by decide +kernel) rfl ?_
          refine ab_sipush (pc := 45) (n := 999) (v := nI 999) (by decide +kernel) (by decide) ?_
          refine ab_callVj (As := [.int (nI 0), .int (nI 999)]) (st := []) (pc := 48) lk_X12_104_12 rfl rfl rfl (by decide) rfl (Nat.le_of_ble_eq_true rfl) (by decide +kernel) (fun y9 e9 => okX12_figures hl (F := F) e9) (fun v32 ev32 => ?_)
          exact ab_iret (pc := 51) (by decide +kernel) rfl rfl (Nat.le_of_ble_eq_true rfl) (Nat.le_of_ble_eq_true rfl)
      · exact hj26
  · refine ab_iconst (pc := 8) (n := 0) (v := nI 0) (by decide +kernel) rfl ?_
    exact ab_iret (pc := 9) (by decide +kernel) rfl rfl (Nat.le_of_ble_eq_true rfl) (Nat.le_of_ble_eq_true rfl)
set_option maxRecDepth 100000 in
set_option maxHeartbeats 4000000 in
theorem okX12_part {l : Launch} (hl : l.stackTraces = false) {F : Nat} {x0 : Nat} {h : ab_H} {y : (Int32 × ab_H)} (e : fX12_part F x0 h = some y) : ab_Met l mX12_part [.ref x0] h (.inl (some (.int y.1)), y.2) := ab_ofS (io := (fun y : (Int32 × ab_H) => ((.inl (some (.int y.1)), y.2) : ab_R × ab_H))) (x := y) hl (by decide) rfl (Nat.le_of_ble_eq_true rfl) (wX12_part hl F x0 h) e
