/-! ===== reference (by program, decomp.py) ===== -/
def mX12_thrown : ab_M := (yX12_thrown, cX12_thrown, 1, (some .int), { frames := 0, cells := 0, slots := 0, locals := 0 })
theorem iX12_thrown : ab_MI mX12_thrown 0 := ⟨kw_11af59c785, kw_30b3f7d7c6, by decide +kernel⟩
def fX12_thrown (x0 : Nat) (h : ab_H) : Option Int32 := ab_bd (ab_fi h x0 12 0) fun v1 => some v1
set_option maxRecDepth 100000 in
set_option maxHeartbeats 4000000 in
theorem wX12_thrown {l : Launch} (hl : l.stackTraces = false) (x0 : Nat) (h : ab_H) : ab_S l mX12_thrown (fun y : Int32 => ((.inl (some (.int y)), h) : ab_R × ab_H)) 0 0 (fX12_thrown x0 h) 0 [(0, .ref x0)] [] h := by
  unfold fX12_thrown
  refine ab_aload_n (pc := 0) (n := 0) (i := 0) (j := 0) (by decide +kernel) rfl rfl ?_
  refine ab_getI (pc := 1) fl_X12_50_12 (by decide +kernel) (fun v1 ev1 => ?_)
  exact ab_iret (pc := 4) (by decide +kernel) rfl rfl (Nat.zero_le _) (Nat.zero_le _)
set_option maxRecDepth 100000 in
set_option maxHeartbeats 4000000 in
theorem okX12_thrown {l : Launch} (hl : l.stackTraces = false) {x0 : Nat} {h : ab_H} {y : Int32} (e : fX12_thrown x0 h = some y) : ab_Met l mX12_thrown [.ref x0] h (.inl (some (.int y)), h) := ab_ofS (io := (fun y : Int32 => ((.inl (some (.int y)), h) : ab_R × ab_H))) (x := y) hl (by decide) rfl (Nat.le_of_ble_eq_true rfl) (wX12_thrown hl x0 h) e
def mX12_isIn : ab_M := (yX12_isIn, cX12_isIn, 3, (some .boolean), { frames := 0, cells := 0, slots := 0, locals := 0 })
theorem iX12_isIn : ab_MI mX12_isIn 3 := ⟨kw_4d871a4fc2, kw_30b3f7d7c6, by decide +kernel⟩
def fX12_isIn (x0 : Int32) (x1 : Int32) (x2 : Int32) (h : ab_H) : Option Int32 := (if x0 < x1 then some (nI 0) else (if x0 ≤ x2 then some (nI 1) else some (nI 0)))
set_option maxRecDepth 100000 in
set_option maxHeartbeats 4000000 in
theorem wX12_isIn {l : Launch} (hl : l.stackTraces = false) (x0 : Int32) (x1 : Int32) (x2 : Int32) (h : ab_H) : ab_S l mX12_isIn (fun y : Int32 => ((.inl (some (.int y)), h) : ab_R × ab_H)) 0 0 (fX12_isIn x0 x1 x2 h) 0 [(0, .int x0), (1, .int x1), (2, .int x2)] [] h := by
  unfold fX12_isIn
  refine ab_iload_n (pc := 0) (n := 0) (i := 0) (j := 0) (by decide +kernel) rfl rfl ?_
  refine ab_iload_n (pc := 1) (n := 1) (i := 1) (j := 1) (by decide +kernel) rfl rfl ?_
  refine ab_icmp_lt (off := 12) (pc := 2) (tgt := 14) (by decide +kernel) (by decide) (fun g1 => ?_) (fun g1 => ?_)
  · refine ab_iconst (pc := 14) (n := 0) (v := nI 0) (by decide +kernel) rfl ?_
    exact ab_zret (pc := 15) (by decide +kernel) rfl ab_bl0 rfl (Nat.zero_le _) (Nat.zero_le _)
  · refine ab_iload_n (pc := 5) (n := 0) (i := 0) (j := 0) (by decide +kernel) rfl rfl ?_
    refine ab_iload_n (pc := 6) (n := 2) (i := 2) (j := 2) (by decide +kernel) rfl rfl ?_
    refine ab_icmp_gt (off := 7) (pc := 7) (tgt := 14) (by decide +kernel) (by decide) (fun g2 => ?_) (fun g2 => ?_)
    · refine ab_iconst (pc := 10) (n := 1) (v := nI 1) (by decide +kernel) rfl ?_
      refine ab_goto (pc := 11) (off := 4) (tgt := 15) (by decide +kernel) (by decide) ?_
      exact ab_zret (pc := 15) (by decide +kernel) rfl ab_bl1 rfl (Nat.zero_le _) (Nat.zero_le _)
    · refine ab_iconst (pc := 14) (n := 0) (v := nI 0) (by decide +kernel) rfl ?_
      exact ab_zret (pc := 15) (by decide +kernel) rfl ab_bl0 rfl (Nat.zero_le _) (Nat.zero_le _)
set_option maxRecDepth 100000 in
set_option maxHeartbeats 4000000 in
theorem okX12_isIn {l : Launch} (hl : l.stackTraces = false) {x0 : Int32} {x1 : Int32} {x2 : Int32} {h : ab_H} {y : Int32} (e : fX12_isIn x0 x1 x2 h = some y) : ab_Met l mX12_isIn [.int x0, .int x1, .int x2] h (.inl (some (.int y)), h) := ab_ofS (io := (fun y : Int32 => ((.inl (some (.int y)), h) : ab_R × ab_H))) (x := y) hl (by decide) rfl (Nat.le_of_ble_eq_true rfl) (wX12_isIn hl x0 x1 x2 h) e
def mX12_lesser : ab_M := (yX12_lesser, cX12_lesser, 2, (some .int), { frames := 0, cells := 0, slots := 0, locals := 0 })
theorem iX12_lesser : ab_MI mX12_lesser 2 := ⟨kw_755de892af, kw_30b3f7d7c6, by decide +kernel⟩
def fX12_lesser (x0 : Int32) (x1 : Int32) (h : ab_H) : Option Int32 := (if x0 < x1 then some x0 else some x1)
set_option maxRecDepth 100000 in
set_option maxHeartbeats 4000000 in
theorem wX12_lesser {l : Launch} (hl : l.stackTraces = false) (x0 : Int32) (x1 : Int32) (h : ab_H) : ab_S l mX12_lesser (fun y : Int32 => ((.inl (some (.int y)), h) : ab_R × ab_H)) 0 0 (fX12_lesser x0 x1 h) 0 [(0, .int x0), (1, .int x1)] [] h := by
  unfold fX12_lesser
  refine ab_iload_n (pc := 0) (n := 0) (i := 0) (j := 0) (by decide +kernel) rfl rfl ?_
  refine ab_iload_n (pc := 1) (n := 1) (i := 1) (j := 1) (by decide +kernel) rfl rfl ?_
  refine ab_icmp_ge (off := 7) (pc := 2) (tgt := 9) (by decide +kernel) (by decide) (fun g1 => ?_) (fun g1 => ?_)
  · refine ab_iload_n (pc := 5) (n := 0) (i := 0) (j := 0) (by decide +kernel) rfl rfl ?_
    refine ab_goto (pc := 6) (off := 4) (tgt := 10) (by decide +kernel) (by decide) ?_
    exact ab_iret (pc := 10) (by decide +kernel) rfl rfl (Nat.zero_le _) (Nat.zero_le _)
  · refine ab_iload_n (pc := 9) (n := 1) (i := 1) (j := 1) (by decide +kernel) rfl rfl ?_
    exact ab_iret (pc := 10) (by decide +kernel) rfl rfl (Nat.zero_le _) (Nat.zero_le _)
set_option maxRecDepth 100000 in
set_option maxHeartbeats 4000000 in
theorem okX12_lesser {l : Launch} (hl : l.stackTraces = false) {x0 : Int32} {x1 : Int32} {h : ab_H} {y : Int32} (e : fX12_lesser x0 x1 h = some y) : ab_Met l mX12_lesser [.int x0, .int x1] h (.inl (some (.int y)), h) := ab_ofS (io := (fun y : Int32 => ((.inl (some (.int y)), h) : ab_R × ab_H))) (x := y) hl (by decide) rfl (Nat.le_of_ble_eq_true rfl) (wX12_lesser hl x0 x1 h) e
def mX12_greater : ab_M := (yX12_greater, cX12_greater, 2, (some .int), { frames := 0, cells := 0, slots := 0, locals := 0 })
theorem iX12_greater : ab_MI mX12_greater 2 := ⟨kw_412be09eff, kw_30b3f7d7c6, by decide +kernel⟩
def fX12_greater (x0 : Int32) (x1 : Int32) (h : ab_H) : Option Int32 := (if x0 ≤ x1 then some x1 else some x0)
set_option maxRecDepth 100000 in
set_option maxHeartbeats 4000000 in
theorem wX12_greater {l : Launch} (hl : l.stackTraces = false) (x0 : Int32) (x1 : Int32) (h : ab_H) : ab_S l mX12_greater (fun y : Int32 => ((.inl (some (.int y)), h) : ab_R × ab_H)) 0 0 (fX12_greater x0 x1 h) 0 [(0, .int x0), (1, .int x1)] [] h := by
  unfold fX12_greater
  refine ab_iload_n (pc := 0) (n := 0) (i := 0) (j := 0) (by decide +kernel) rfl rfl ?_
  refine ab_iload_n (pc := 1) (n := 1) (i := 1) (j := 1) (by decide +kernel) rfl rfl ?_
  refine ab_icmp_le (off := 7) (pc := 2) (tgt := 9) (by decide +kernel) (by decide) (fun g1 => ?_) (fun g1 => ?_)
  · refine ab_iload_n (pc := 9) (n := 1) (i := 1) (j := 1) (by decide +kernel) rfl rfl ?_
    exact ab_iret (pc := 10) (by decide +kernel) rfl rfl (Nat.zero_le _) (Nat.zero_le _)
  · refine ab_iload_n (pc := 5) (n := 0) (i := 0) (j := 0) (by decide +kernel) rfl rfl ?_
    refine ab_goto (pc := 6) (off := 4) (tgt := 10) (by decide +kernel) (by decide) ?_
    exact ab_iret (pc := 10) (by decide +kernel) rfl rfl (Nat.zero_le _) (Nat.zero_le _)
set_option maxRecDepth 100000 in
set_option maxHeartbeats 4000000 in
theorem okX12_greater {l : Launch} (hl : l.stackTraces = false) {x0 : Int32} {x1 : Int32} {h : ab_H} {y : Int32} (e : fX12_greater x0 x1 h = some y) : ab_Met l mX12_greater [.int x0, .int x1] h (.inl (some (.int y)), h) := ab_ofS (io := (fun y : Int32 => ((.inl (some (.int y)), h) : ab_R × ab_H))) (x := y) hl (by decide) rfl (Nat.le_of_ble_eq_true rfl) (wX12_greater hl x0 x1 h) e
def mX12_isOf : ab_M := (yX12_isOf, cX12_isOf, 2, (some .boolean), { frames := 0, cells := 0, slots := 0, locals := 0 })
theorem iX12_isOf : ab_MI mX12_isOf 2 := ⟨kw_64073513b1, kw_30b3f7d7c6, by decide +kernel⟩
def fX12_isOf (x0 : Int32) (x1 : Int32) (h : ab_H) : Option Int32 := (if ((x0 >>> (x1 &&& 31)) &&& (nI 1)) = (nI 1) then some (nI 1) else some (nI 0))
set_option maxRecDepth 100000 in
set_option maxHeartbeats 4000000 in
theorem wX12_isOf {l : Launch} (hl : l.stackTraces = false) (x0 : Int32) (x1 : Int32) (h : ab_H) : ab_S l mX12_isOf (fun y : Int32 => ((.inl (some (.int y)), h) : ab_R × ab_H)) 0 0 (fX12_isOf x0 x1 h) 0 [(0, .int x0), (1, .int x1)] [] h := by
  unfold fX12_isOf
  refine ab_iload_n (pc := 0) (n := 0) (i := 0) (j := 0) (by decide +kernel) rfl rfl ?_
  refine ab_iload_n (pc := 1) (n := 1) (i := 1) (j := 1) (by decide +kernel) rfl rfl ?_
  refine ab_ishr (pc := 2) (by decide +kernel) ?_
  refine ab_iconst (pc := 3) (n := 1) (v := nI 1) (by decide +kernel) rfl ?_
  refine ab_iand (pc := 4) (by decide +kernel) ?_
  refine ab_iconst (pc := 5) (n := 1) (v := nI 1) (by decide +kernel) rfl ?_
  refine ab_icmp_ne (off := 7) (pc := 6) (tgt := 13) (by decide +kernel) (by decide) (fun g1 => ?_) (fun g1 => ?_)
  · refine ab_iconst (pc := 9) (n := 1) (v := nI 1) (by decide +kernel) rfl ?_
    refine ab_goto (pc := 10) (off := 4) (tgt := 14) (by decide +kernel) (by decide) ?_
    exact ab_zret (pc := 14) (by decide +kernel) rfl ab_bl1 rfl (Nat.zero_le _) (Nat.zero_le _)
  · refine ab_iconst (pc := 13) (n := 0) (v := nI 0) (by decide +kernel) rfl ?_
    exact ab_zret (pc := 14) (by decide +kernel) rfl ab_bl0 rfl (Nat.zero_le _) (Nat.zero_le _)
set_option maxRecDepth 100000 in
set_option maxHeartbeats 4000000 in
theorem okX12_isOf {l : Launch} (hl : l.stackTraces = false) {x0 : Int32} {x1 : Int32} {h : ab_H} {y : Int32} (e : fX12_isOf x0 x1 h = some y) : ab_Met l mX12_isOf [.int x0, .int x1] h (.inl (some (.int y)), h) := ab_ofS (io := (fun y : Int32 => ((.inl (some (.int y)), h) : ab_R × ab_H))) (x := y) hl (by decide) rfl (Nat.le_of_ble_eq_true rfl) (wX12_isOf hl x0 x1 h) e
def mX12_bits : ab_M := (yX12_bits, cX12_bits, 3, (some .int), { frames := 0, cells := 0, slots := 0, locals := 0 })
theorem iX12_bits : ab_MI mX12_bits 1 := ⟨kw_05134ea3ae, kw_30b3f7d7c6, by decide +kernel⟩
def fX12_bits_4 (x0 : Int32) (h : ab_H) : Nat → Int32 → Int32 → Option Int32
  | 0, _, _ => none
  | n + 1, x1, x2 => (if x2 < (nI 31) then fX12_bits_4 x0 h n (x1 + ((x0 >>> (x2 &&& 31)) &&& (nI 1))) (x2 + nI 1) else some x1)
def fX12_bits (F : Nat) (x0 : Int32) (h : ab_H) : Option Int32 := fX12_bits_4 x0 h F (nI 0) (nI 0)
set_option maxRecDepth 100000 in
set_option maxHeartbeats 4000000 in
theorem lX12_bits_4 {l : Launch} (hl : l.stackTraces = false) (x0 : Int32) (h : ab_H) : ∀ (n : Nat) (x1 : Int32) (x2 : Int32), ab_S l mX12_bits (fun y : Int32 => ((.inl (some (.int y)), h) : ab_R × ab_H)) 0 0 (fX12_bits_4 x0 h n x1 x2) 4 [(0, .int x0), (1, .int x1), (2, .int x2)] [] h := by
  intro n
  induction n with
  | zero =>
    intro x1 x2
    exact ab_none
  | succ n ih =>
    intro x1 x2
    rw [fX12_bits_4]
    refine ab_iload_n (pc := 4) (n := 2) (i := 2) (j := 2) (by decide +kernel) rfl rfl ?_
    refine ab_bipush (pc := 5) (n := 31) (v := nI 31) (by decide +kernel) (by decide) ?_
    refine ab_icmp_ge (off := 17) (pc := 7) (tgt := 24) (by decide +kernel) (by decide) (fun g1 => ?_) (fun g1 => ?_)
    · refine ab_iload_n (pc := 10) (n := 1) (i := 1) (j := 1) (by decide +kernel) rfl rfl ?_
      refine ab_iload_n (pc := 11) (n := 0) (i := 0) (j := 0) (by decide +kernel) rfl rfl ?_
      refine ab_iload_n (pc := 12) (n := 2) (i := 2) (j := 2) (by decide +kernel) rfl rfl ?_
      refine ab_ishr (pc := 13) (by decide +kernel) ?_
      refine ab_iconst (pc := 14) (n := 1) (v := nI 1) (by decide +kernel) rfl ?_
      refine ab_iand (pc := 15) (by decide +kernel) ?_
      refine ab_iadd (pc := 16) (by decide +kernel) ?_
      refine ab_istore_n (pc := 17) (n := 1) (i := 1) (lv' := [(0, .int x0), (1, .int (x1 + ((x0 >>> (x2 &&& 31)) &&& (nI 1)))), (2, .int x2)]) (by decide +kernel) rfl (by decide) rfl rfl ?_
      refine ab_iinc (pc := 18) (i := 2) (n := 1) (j := 2) (d := nI 1) (lv' := [(0, .int x0), (1, .int (x1 + ((x0 >>> (x2 &&& 31)) &&& (nI 1)))), (2, .int (x2 + nI 1))]) (by decide +kernel) rfl rfl (by decide) rfl rfl ?_
      refine ab_goto (pc := 21) (off := (-17)) (tgt := 4) (by decide +kernel) (by decide) ?_
      exact ih (x1 + ((x0 >>> (x2 &&& 31)) &&& (nI 1))) (x2 + nI 1)
    · refine ab_iload_n (pc := 24) (n := 1) (i := 1) (j := 1) (by decide +kernel) rfl rfl ?_
      exact ab_iret (pc := 25) (by decide +kernel) rfl rfl (Nat.zero_le _) (Nat.zero_le _)
set_option maxRecDepth 100000 in
set_option maxHeartbeats 4000000 in
theorem wX12_bits {l : Launch} (hl : l.stackTraces = false) (F : Nat) (x0 : Int32) (h : ab_H) : ab_S l mX12_bits (fun y : Int32 => ((.inl (some (.int y)), h) : ab_R × ab_H)) 0 0 (fX12_bits F x0 h) 0 [(0, .int x0)] [] h := by
  unfold fX12_bits
  refine ab_iconst (pc := 0) (n := 0) (v := nI 0) (by decide +kernel) rfl ?_
  refine ab_istore_n (pc := 1) (n := 1) (i := 1) (lv' := [(0, .int x0), (1, .int (nI 0))]) (by decide +kernel) rfl (by decide) rfl rfl ?_
  refine ab_iconst (pc := 2) (n := 0) (v := nI 0) (by decide +kernel) rfl ?_
  refine ab_istore_n (pc := 3) (n := 2) (i := 2) (lv' := [(0, .int x0), (1, .int (nI 0)), (2, .int (nI 0))]) (by decide +kernel) rfl (by decide) rfl rfl ?_
  refine lX12_bits_4 hl x0 h F (nI 0) (nI 0)
set_option maxRecDepth 100000 in
set_option maxHeartbeats 4000000 in
theorem okX12_bits {l : Launch} (hl : l.stackTraces = false) {F : Nat} {x0 : Int32} {h : ab_H} {y : Int32} (e : fX12_bits F x0 h = some y) : ab_Met l mX12_bits [.int x0] h (.inl (some (.int y)), h) := ab_ofS (io := (fun y : Int32 => ((.inl (some (.int y)), h) : ab_R × ab_H))) (x := y) hl (by decide) rfl (Nat.le_of_ble_eq_true rfl) (wX12_bits hl F x0 h) e
def mX12_of : ab_M := (yX12_of, cX12_of, 3, (some .int), { frames := 0, cells := 0, slots := 0, locals := 0 })
theorem iX12_of : ab_MI mX12_of 2 := ⟨kw_23da93a77e, kw_30b3f7d7c6, by decide +kernel⟩
def fX12_of (x0 : Nat) (x1 : Int32) (x2 : Int32) (h : ab_H) : Option Int32 := ab_bd (ab_fr h x0 12 1) fun v1 => ab_bd (ab_ia 0 h v1 (((nI 12) + ((nI 6) * x1)) + x2)) fun v2 => some v2
set_option maxRecDepth 100000 in
set_option maxHeartbeats 4000000 in
theorem wX12_of {l : Launch} (hl : l.stackTraces = false) (x0 : Nat) (x1 : Int32) (x2 : Int32) (h : ab_H) : ab_S l mX12_of (fun y : Int32 => ((.inl (some (.int y)), h) : ab_R × ab_H)) 0 0 (fX12_of x0 x1 x2 h) 0 [(0, .ref x0), (1, .int x1), (2, .int x2)] [] h := by
  unfold fX12_of
  refine ab_aload_n (pc := 0) (n := 0) (i := 0) (j := 0) (by decide +kernel) rfl rfl ?_
  refine ab_getR (pc := 1) fl_X12_7_12 (by decide +kernel) (fun v1 ev1 => ?_)
  refine ab_bipush (pc := 4) (n := 12) (v := nI 12) (by decide +kernel) (by decide) ?_
  refine ab_bipush (pc := 6) (n := 6) (v := nI 6) (by decide +kernel) (by decide) ?_
  refine ab_iload_n (pc := 8) (n := 1) (i := 1) (j := 1) (by decide +kernel) rfl rfl ?_
  refine ab_imul (pc := 9) (by decide +kernel) ?_
  refine ab_iadd (pc := 10) (by decide +kernel) ?_
  refine ab_iload_n (pc := 11) (n := 2) (i := 2) (j := 2) (by decide +kernel) rfl rfl ?_
  refine ab_iadd (pc := 12) (by decide +kernel) ?_
  refine ab_iald (pc := 13) (by decide +kernel) (fun v2 ev2 => ?_)
  exact ab_iret (pc := 14) (by decide +kernel) rfl rfl (Nat.zero_le _) (Nat.zero_le _)
set_option maxRecDepth 100000 in
set_option maxHeartbeats 4000000 in
theorem okX12_of {l : Launch} (hl : l.stackTraces = false) {x0 : Nat} {x1 : Int32} {x2 : Int32} {h : ab_H} {y : Int32} (e : fX12_of x0 x1 x2 h = some y) : ab_Met l mX12_of [.ref x0, .int x1, .int x2] h (.inl (some (.int y)), h) := ab_ofS (io := (fun y : Int32 => ((.inl (some (.int y)), h) : ab_R × ab_H))) (x := y) hl (by decide) rfl (Nat.le_of_ble_eq_true rfl) (wX12_of hl x0 x1 x2 h) e
def mX12_has : ab_M := (yX12_has, cX12_has, 4, none, { frames := 0, cells := 0, slots := 0, locals := 0 })
theorem iX12_has : ab_MI mX12_has 3 := ⟨kw_a21108d11c, kw_30b3f7d7c6, by decide +kernel⟩
def fX12_has (x0 : Nat) (x1 : Int32) (x2 : Int32) (x3 : Int32) (h : ab_H) : Option ab_H := ab_bd (ab_fr h x0 12 1) fun v1 => ab_bd (ab_iw 0 h v1 (((nI 12) + ((nI 6) * x1)) + x2) x3) fun h2 => some h2
set_option maxRecDepth 100000 in
set_option maxHeartbeats 4000000 in
theorem wX12_has {l : Launch} (hl : l.stackTraces = false) (x0 : Nat) (x1 : Int32) (x2 : Int32) (x3 : Int32) (h : ab_H) : ab_S l mX12_has (fun y : ab_H => ((.inl none, y) : ab_R × ab_H)) 0 0 (fX12_has x0 x1 x2 x3 h) 0 [(0, .ref x0), (1, .int x1), (2, .int x2), (3, .int x3)] [] h := by
  unfold fX12_has
  refine ab_aload_n (pc := 0) (n := 0) (i := 0) (j := 0) (by decide +kernel) rfl rfl ?_
  refine ab_getR (pc := 1) fl_X12_7_12 (by decide +kernel) (fun v1 ev1 => ?_)
  refine ab_bipush (pc := 4) (n := 12) (v := nI 12) (by decide +kernel) (by decide) ?_
  refine ab_bipush (pc := 6) (n := 6) (v := nI 6) (by decide +kernel) (by decide) ?_
  refine ab_iload_n (pc := 8) (n := 1) (i := 1) (j := 1) (by decide +kernel) rfl rfl ?_
  refine ab_imul (pc := 9) (by decide +kernel) ?_
  refine ab_iadd (pc := 10) (by decide +kernel) ?_
  refine ab_iload_n (pc := 11) (n := 2) (i := 2) (j := 2) (by decide +kernel) rfl rfl ?_
  refine ab_iadd (pc := 12) (by decide +kernel) ?_
  refine ab_iload_n (pc := 13) (n := 3) (i := 3) (j := 3) (by decide +kernel) rfl rfl ?_
  refine ab_iast (pc := 14) (by decide +kernel) (fun h2 eh2 => ?_)
  exact ab_vret (pc := 15) (by decide +kernel) rfl rfl (Nat.zero_le _) (Nat.zero_le _)
set_option maxRecDepth 100000 in
set_option maxHeartbeats 4000000 in
theorem okX12_has {l : Launch} (hl : l.stackTraces = false) {x0 : Nat} {x1 : Int32} {x2 : Int32} {x3 : Int32} {h : ab_H} {y : ab_H} (e : fX12_has x0 x1 x2 x3 h = some y) : ab_Met l mX12_has [.ref x0, .int x1, .int x2, .int x3] h (.inl none, y) := ab_ofS (io := (fun y : ab_H => ((.inl none, y) : ab_R × ab_H))) (x := y) hl (by decide) rfl (Nat.le_of_ble_eq_true rfl) (wX12_has hl x0 x1 x2 x3 h) e
def mX12_isPerson : ab_M := (yX12_isPerson, cX12_isPerson, 2, (some .boolean), { frames := 1, cells := 0, slots := 0, locals := 22 })
theorem iX12_isPerson : ab_MI mX12_isPerson 1 := ⟨kw_a1855671f5, kw_30b3f7d7c6, by decide +kernel⟩
theorem lk_X12_53 : ab_LS RX12 53 mX12_isIn 3 := ⟨iX12_isIn, kw_9e0dc1c65a, kw_ca4392cf3b⟩
def fX12_isPerson (x0 : Nat) (x1 : Int32) (h : ab_H) : Option Int32 := ab_bd (ab_fr h x0 12 1) fun v1 => ab_bd (ab_ia 0 h v1 (nI 3)) fun v2 => ab_bd (fX12_isIn x1 (nI 0) (v2 - (nI 1)) h) fun v3 => ab_cb v3 (some v3)
set_option maxRecDepth 100000 in
set_option maxHeartbeats 4000000 in
theorem wX12_isPerson {l : Launch} (hl : l.stackTraces = false) (x0 : Nat) (x1 : Int32) (h : ab_H) : ab_S l mX12_isPerson (fun y : Int32 => ((.inl (some (.int y)), h) : ab_R × ab_H)) 0 0 (fX12_isPerson x0 x1 h) 0 [(0, .ref x0), (1, .int x1)] [] h := by
  unfold fX12_isPerson
  refine ab_iload_n (pc := 0) (n := 1) (i := 1) (j := 1) (by decide +kernel) rfl rfl ?_
  refine ab_iconst (pc := 1) (n := 0) (v := nI 0) (by decide +kernel) rfl ?_
  refine ab_aload_n (pc := 2) (n := 0) (i := 0) (j := 0) (by decide +kernel) rfl rfl ?_
  refine ab_getR (pc := 3) fl_X12_7_12 (by decide +kernel) (fun v1 ev1 => ?_)
  refine ab_iconst (pc := 6) (n := 3) (v := nI 3) (by decide +kernel) rfl ?_
  refine ab_iald (pc := 7) (by decide +kernel) (fun v2 ev2 => ?_)
  refine ab_iconst (pc := 8) (n := 1) (v := nI 1) (by decide +kernel) rfl ?_
  refine ab_isub (pc := 9) (by decide +kernel) ?_
  refine ab_callSi (As := [.int x1, .int (nI 0), .int (v2 - (nI 1))]) (st := []) (pc := 10) lk_X12_53 rfl rfl rfl (by decide) (by decide) (Nat.le_of_ble_eq_true rfl) (by decide +kernel) (fun y9 e9 => okX12_isIn hl e9) (fun v3 ev3 => ?_)
  refine ab_cbr (fun b4 => ?_)
  exact ab_zret (pc := 13) (by decide +kernel) rfl b4 rfl (Nat.zero_le _) (Nat.zero_le _)
set_option maxRecDepth 100000 in
set_option maxHeartbeats 4000000 in
theorem okX12_isPerson {l : Launch} (hl : l.stackTraces = false) {x0 : Nat} {x1 : Int32} {h : ab_H} {y : Int32} (e : fX12_isPerson x0 x1 h = some y) : ab_Met l mX12_isPerson [.ref x0, .int x1] h (.inl (some (.int y)), h) := ab_ofS (io := (fun y : Int32 => ((.inl (some (.int y)), h) : ab_R × ab_H))) (x := y) hl (by decide) rfl (Nat.le_of_ble_eq_true rfl) (wX12_isPerson hl x0 x1 h) e
def mX12_isHook : ab_M := (yX12_isHook, cX12_isHook, 2, (some .boolean), { frames := 1, cells := 0, slots := 0, locals := 22 })
theorem iX12_isHook : ab_MI mX12_isHook 1 := ⟨kw_b25671662c, kw_30b3f7d7c6, by decide +kernel⟩
def fX12_isHook (x0 : Nat) (x1 : Int32) (h : ab_H) : Option Int32 := ab_bd (ab_fr h x0 12 1) fun v1 => ab_bd (ab_ia 0 h v1 (nI 4)) fun v2 => ab_bd (fX12_isIn x1 (nI 0) (v2 - (nI 1)) h) fun v3 => ab_cb v3 (some v3)
set_option maxRecDepth 100000 in
set_option maxHeartbeats 4000000 in
theorem wX12_isHook {l : Launch} (hl : l.stackTraces = false) (x0 : Nat) (x1 : Int32) (h : ab_H) : ab_S l mX12_isHook (fun y : Int32 => ((.inl (some (.int y)), h) : ab_R × ab_H)) 0 0 (fX12_isHook x0 x1 h) 0 [(0, .ref x0), (1, .int x1)] [] h := by
  unfold fX12_isHook
  refine ab_iload_n (pc := 0) (n := 1) (i := 1) (j := 1) (by decide +kernel) rfl rfl ?_
  refine ab_iconst (pc := 1) (n := 0) (v := nI 0) (by decide +kernel) rfl ?_
  refine ab_aload_n (pc := 2) (n := 0) (i := 0) (j := 0) (by decide +kernel) rfl rfl ?_
  refine ab_getR (pc := 3) fl_X12_7_12 (by decide +kernel) (fun v1 ev1 => ?_)
  refine ab_iconst (pc := 6) (n := 4) (v := nI 4) (by decide +kernel) rfl ?_
  refine ab_iald (pc := 7) (by decide +kernel) (fun v2 ev2 => ?_)
  refine ab_iconst (pc := 8) (n := 1) (v := nI 1) (by decide +kernel) rfl ?_
  refine ab_isub (pc := 9) (by decide +kernel) ?_
  refine ab_callSi (As := [.int x1, .int (nI 0), .int (v2 - (nI 1))]) (st := []) (pc := 10) lk_X12_53 rfl rfl rfl (by decide) (by decide) (Nat.le_of_ble_eq_true rfl) (by decide +kernel) (fun y9 e9 => okX12_isIn hl e9) (fun v3 ev3 => ?_)
  refine ab_cbr (fun b4 => ?_)
  exact ab_zret (pc := 13) (by decide +kernel) rfl b4 rfl (Nat.zero_le _) (Nat.zero_le _)
set_option maxRecDepth 100000 in
set_option maxHeartbeats 4000000 in
theorem okX12_isHook {l : Launch} (hl : l.stackTraces = false) {x0 : Nat} {x1 : Int32} {h : ab_H} {y : Int32} (e : fX12_isHook x0 x1 h = some y) : ab_Met l mX12_isHook [.ref x0, .int x1] h (.inl (some (.int y)), h) := ab_ofS (io := (fun y : Int32 => ((.inl (some (.int y)), h) : ab_R × ab_H))) (x := y) hl (by decide) rfl (Nat.le_of_ble_eq_true rfl) (wX12_isHook hl x0 x1 h) e
def mX12_thought : ab_M := (yX12_thought, cX12_thought, 3, (some .int), { frames := 0, cells := 0, slots := 0, locals := 0 })
theorem iX12_thought : ab_MI mX12_thought 2 := ⟨kw_907a859c94, kw_30b3f7d7c6, by decide +kernel⟩
def fX12_thought (x0 : Nat) (x1 : Int32) (x2 : Int32) (h : ab_H) : Option Int32 := ab_bd (ab_fr h x0 12 1) fun v1 => ab_bd (ab_ia 0 h v1 (((nI 172) + ((nI 10) * x1)) + x2)) fun v2 => some v2
set_option maxRecDepth 100000 in
set_option maxHeartbeats 4000000 in
theorem wX12_thought {l : Launch} (hl : l.stackTraces = false) (x0 : Nat) (x1 : Int32) (x2 : Int32) (h : ab_H) : ab_S l mX12_thought (fun y : Int32 => ((.inl (some (.int y)), h) : ab_R × ab_H)) 0 0 (fX12_thought x0 x1 x2 h) 0 [(0, .ref x0), (1, .int x1), (2, .int x2)] [] h := by
  unfold fX12_thought
  refine ab_aload_n (pc := 0) (n := 0) (i := 0) (j := 0) (by decide +kernel) rfl rfl ?_
  refine ab_getR (pc := 1) fl_X12_7_12 (by decide +kernel) (fun v1 ev1 => ?_)
  refine ab_sipush (pc := 4) (n := 172) (v := nI 172) (by decide +kernel) (by decide) ?_
  refine ab_bipush (pc := 7) (n := 10) (v := nI 10) (by decide +kernel) (by decide) ?_
  refine ab_iload_n (pc := 9) (n := 1) (i := 1) (j := 1) (by decide +kernel) rfl rfl ?_
  refine ab_imul (pc := 10) (by decide +kernel) ?_
  refine ab_iadd (pc := 11) (by decide +kernel) ?_
  refine ab_iload_n (pc := 12) (n := 2) (i := 2) (j := 2) (by decide +kernel) rfl rfl ?_
  refine ab_iadd (pc := 13) (by decide +kernel) ?_
  refine ab_iald (pc := 14) (by decide +kernel) (fun v2 ev2 => ?_)
  exact ab_iret (pc := 15) (by decide +kernel) rfl rfl (Nat.zero_le _) (Nat.zero_le _)
set_option maxRecDepth 100000 in
set_option maxHeartbeats 4000000 in
theorem okX12_thought {l : Launch} (hl : l.stackTraces = false) {x0 : Nat} {x1 : Int32} {x2 : Int32} {h : ab_H} {y : Int32} (e : fX12_thought x0 x1 x2 h = some y) : ab_Met l mX12_thought [.ref x0, .int x1, .int x2] h (.inl (some (.int y)), h) := ab_ofS (io := (fun y : Int32 => ((.inl (some (.int y)), h) : ab_R × ab_H))) (x := y) hl (by decide) rfl (Nat.le_of_ble_eq_true rfl) (wX12_thought hl x0 x1 x2 h) e
def mX12_wearer : ab_M := (yX12_wearer, cX12_wearer, 3, (some .int), { frames := 1, cells := 0, slots := 0, locals := 22 })
theorem iX12_wearer : ab_MI mX12_wearer 1 := ⟨kw_2d361791a2, kw_30b3f7d7c6, by decide +kernel⟩
theorem lk_X12_57_12 : ab_LV RX12 57 12 mX12_of 2 := ⟨RX12, rfl, iX12_of, kw_2aabdf5f88, kw_248e6211e5, kw_7e06e93d77⟩
def fX12_wearer_2 (x0 : Nat) (x1 : Int32) (h : ab_H) : Nat → Int32 → Option Int32
  | 0, _ => none
  | n + 1, x2 => ab_bd (ab_fr h x0 12 1) fun v1 => ab_bd (ab_ia 0 h v1 (nI 3)) fun v2 => (if x2 < v2 then ab_ck (ab_io h x0 12 = true) (ab_bd (fX12_of x0 x2 (nI 2) h) fun v4 => (if v4 = x1 then some x2 else fX12_wearer_2 x0 x1 h n (x2 + nI 1))) else some (-1 : Int32))
def fX12_wearer (F : Nat) (x0 : Nat) (x1 : Int32) (h : ab_H) : Option Int32 := fX12_wearer_2 x0 x1 h F (nI 0)
set_option maxRecDepth 100000 in
set_option maxHeartbeats 4000000 in
theorem lX12_wearer_2 {l : Launch} (hl : l.stackTraces = false) (x0 : Nat) (x1 : Int32) (h : ab_H) : ∀ (n : Nat) (x2 : Int32), ab_S l mX12_wearer (fun y : Int32 => ((.inl (some (.int y)), h) : ab_R × ab_H)) 0 0 (fX12_wearer_2 x0 x1 h n x2) 2 [(0, .ref x0), (1, .int x1), (2, .int x2)] [] h := by
  intro n
  induction n with
  | zero =>
    intro x2
    exact ab_none
  | succ n ih =>
    intro x2
    rw [fX12_wearer_2]
    refine ab_iload_n (pc := 2) (n := 2) (i := 2) (j := 2) (by decide +kernel) rfl rfl ?_
    refine ab_aload_n (pc := 3) (n := 0) (i := 0) (j := 0) (by decide +kernel) rfl rfl ?_
    refine ab_getR (pc := 4) fl_X12_7_12 (by decide +kernel) (fun v1 ev1 => ?_)
    refine ab_iconst (pc := 7) (n := 3) (v := nI 3) (by decide +kernel) rfl ?_
    refine ab_iald (pc := 8) (by decide +kernel) (fun v2 ev2 => ?_)
    refine ab_icmp_ge (off := 21) (pc := 9) (tgt := 30) (by decide +kernel) (by decide) (fun g3 => ?_) (fun g3 => ?_)
    · refine ab_aload_n (pc := 12) (n := 0) (i := 0) (j := 0) (by decide +kernel) rfl rfl ?_
      refine ab_iload_n (pc := 13) (n := 2) (i := 2) (j := 2) (by decide +kernel) rfl rfl ?_
      refine ab_iconst (pc := 14) (n := 2) (v := nI 2) (by decide +kernel) rfl ?_
      refine ab_callVi (As := [.int x2, .int (nI 2)]) (st := []) (pc := 15) lk_X12_57_12 rfl rfl rfl (by decide) (by decide) (Nat.le_of_ble_eq_true rfl) (by decide +kernel) (fun y9 e9 => okX12_of hl e9) (fun v4 ev4 => ?_)
      refine ab_iload_n (pc := 18) (n := 1) (i := 1) (j := 1) (by decide +kernel) rfl rfl ?_
      refine ab_icmp_ne (off := 5) (pc := 19) (tgt := 24) (by decide +kernel) (by decide) (fun g5 => ?_) (fun g5 => ?_)
      · refine ab_iload_n (pc := 22) (n := 2) (i := 2) (j := 2) (by decide +kernel) rfl rfl ?_
        exact ab_iret (pc := 23) (by decide +kernel) rfl rfl (Nat.zero_le _) (Nat.zero_le _)
      · refine ab_iinc (pc := 24) (i := 2) (n := 1) (j := 2) (d := nI 1) (lv' := [(0, .ref x0), (1, .int x1), (2, .int (x2 + nI 1))]) (by decide +kernel) rfl rfl (by decide) rfl rfl ?_
        refine ab_goto (pc := 27) (off := (-25)) (tgt := 2) (by decide +kernel) (by decide) ?_
        exact ih (x2 + nI 1)
    · refine ab_iconst (pc := 30) (n := -1) (v := (-1 : Int32)) (by decide +kernel) rfl ?_
      exact ab_iret (pc := 31) (by decide +kernel) rfl rfl (Nat.zero_le _) (Nat.zero_le _)
set_option maxRecDepth 100000 in
set_option maxHeartbeats 4000000 in
theorem wX12_wearer {l : Launch} (hl : l.stackTraces = false) (F : Nat) (x0 : Nat) (x1 : Int32) (h : ab_H) : ab_S l mX12_wearer (fun y : Int32 => ((.inl (some (.int y)), h) : ab_R × ab_H)) 0 0 (fX12_wearer F x0 x1 h) 0 [(0, .ref x0), (1, .int x1)] [] h := by
  unfold fX12_wearer
  refine ab_iconst (pc := 0) (n := 0) (v := nI 0) (by decide +kernel) rfl ?_
  refine ab_istore_n (pc := 1) (n := 2) (i := 2) (lv' := [(0, .ref x0), (1, .int x1), (2, .int (nI 0))]) (by decide +kernel) rfl (by decide) rfl rfl ?_
  refine lX12_wearer_2 hl x0 x1 h F (nI 0)
set_option maxRecDepth 100000 in
set_option maxHeartbeats 4000000 in
theorem okX12_wearer {l : Launch} (hl : l.stackTraces = false) {F : Nat} {x0 : Nat} {x1 : Int32} {h : ab_H} {y : Int32} (e : fX12_wearer F x0 x1 h = some y) : ab_Met l mX12_wearer [.ref x0, .int x1] h (.inl (some (.int y)), h) := ab_ofS (io := (fun y : Int32 => ((.inl (some (.int y)), h) : ab_R × ab_H))) (x := y) hl (by decide) rfl (Nat.le_of_ble_eq_true rfl) (wX12_wearer hl F x0 x1 h) e
def mX12_hookOf : ab_M := (yX12_hookOf, cX12_hookOf, 3, (some .int), { frames := 0, cells := 0, slots := 0, locals := 0 })
theorem iX12_hookOf : ab_MI mX12_hookOf 1 := ⟨kw_26133e7747, kw_30b3f7d7c6, by decide +kernel⟩
def fX12_hookOf_2 (x0 : Nat) (x1 : Int32) (h : ab_H) : Nat → Int32 → Option Int32
  | 0, _ => none
  | n + 1, x2 => ab_bd (ab_fr h x0 12 1) fun v1 => ab_bd (ab_ia 0 h v1 (nI 4)) fun v2 => (if x2 < v2 then ab_bd (ab_fr h x0 12 1) fun v4 => ab_bd (ab_ia 0 h v4 ((nI 272) + x2)) fun v5 => (if v5 = x1 then some x2 else fX12_hookOf_2 x0 x1 h n (x2 + nI 1)) else some (-1 : Int32))
def fX12_hookOf (F : Nat) (x0 : Nat) (x1 : Int32) (h : ab_H) : Option Int32 := fX12_hookOf_2 x0 x1 h F (nI 0)
set_option maxRecDepth 100000 in
set_option maxHeartbeats 4000000 in
theorem lX12_hookOf_2 {l : Launch} (hl : l.stackTraces = false) (x0 : Nat) (x1 : Int32) (h : ab_H) : ∀ (n : Nat) (x2 : Int32), ab_S l mX12_hookOf (fun y : Int32 => ((.inl (some (.int y)), h) : ab_R × ab_H)) 0 0 (fX12_hookOf_2 x0 x1 h n x2) 2 [(0, .ref x0), (1, .int x1), (2, .int x2)] [] h := by
  intro n
  induction n with
  | zero =>
    intro x2
    exact ab_none
  | succ n ih =>
    intro x2
    rw [fX12_hookOf_2]
    refine ab_iload_n (pc := 2) (n := 2) (i := 2) (j := 2) (by decide +kernel) rfl rfl ?_
    refine ab_aload_n (pc := 3) (n := 0) (i := 0) (j := 0) (by decide +kernel) rfl rfl ?_
    refine ab_getR (pc := 4) fl_X12_7_12 (by decide +kernel) (fun v1 ev1 => ?_)
    refine ab_iconst (pc := 7) (n := 4) (v := nI 4) (by decide +kernel) rfl ?_
    refine ab_iald (pc := 8) (by decide +kernel) (fun v2 ev2 => ?_)
    refine ab_icmp_ge (off := 25) (pc := 9) (tgt := 34) (by decide +kernel) (by decide) (fun g3 => ?_) (fun g3 => ?_)
    · refine ab_aload_n (pc := 12) (n := 0) (i := 0) (j := 0) (by decide +kernel) rfl rfl ?_
      refine ab_getR (pc := 13) fl_X12_7_12 (by decide +kernel) (fun v4 ev4 => ?_)
      refine ab_sipush (pc := 16) (n := 272) (v := nI 272) (by decide +kernel) (by decide) ?_
      refine ab_iload_n (pc := 19) (n := 2) (i := 2) (j := 2) (by decide +kernel) rfl rfl ?_
      refine ab_iadd (pc := 20) (by decide +kernel) ?_
      refine ab_iald (pc := 21) (by decide +kernel) (fun v5 ev5 => ?_)
      refine ab_iload_n (pc := 22) (n := 1) (i := 1) (j := 1) (by decide +kernel) rfl rfl ?_
      refine ab_icmp_ne (off := 5) (pc := 23) (tgt := 28) (by decide +kernel) (by decide) (fun g6 => ?_) (fun g6 => ?_)
      · refine ab_iload_n (pc := 26) (n := 2) (i := 2) (j := 2) (by decide +kernel) rfl rfl ?_
        exact ab_iret (pc := 27) (by decide +kernel) rfl rfl (Nat.zero_le _) (Nat.zero_le _)
      · refine ab_iinc (pc := 28) (i := 2) (n := 1) (j := 2) (d := nI 1) (lv' := [(0, .ref x0), (1, .int x1), (2, .int (x2 + nI 1))]) (by decide +kernel) rfl rfl (by decide) rfl rfl ?_
        refine ab_goto (pc := 31) (off := (-29)) (tgt := 2) (by decide +kernel) (by decide) ?_
        exact ih (x2 + nI 1)
    · refine ab_iconst (pc := 34) (n := -1) (v := (-1 : Int32)) (by decide +kernel) rfl ?_
      exact ab_iret (pc := 35) (by decide +kernel) rfl rfl (Nat.zero_le _) (Nat.zero_le _)
set_option maxRecDepth 100000 in
set_option maxHeartbeats 4000000 in
theorem wX12_hookOf {l : Launch} (hl : l.stackTraces = false) (F : Nat) (x0 : Nat) (x1 : Int32) (h : ab_H) : ab_S l mX12_hookOf (fun y : Int32 => ((.inl (some (.int y)), h) : ab_R × ab_H)) 0 0 (fX12_hookOf F x0 x1 h) 0 [(0, .ref x0), (1, .int x1)] [] h := by
  unfold fX12_hookOf
  refine ab_iconst (pc := 0) (n := 0) (v := nI 0) (by decide +kernel) rfl ?_
  refine ab_istore_n (pc := 1) (n := 2) (i := 2) (lv' := [(0, .ref x0), (1, .int x1), (2, .int (nI 0))]) (by decide +kernel) rfl (by decide) rfl rfl ?_
  refine lX12_hookOf_2 hl x0 x1 h F (nI 0)
set_option maxRecDepth 100000 in
set_option maxHeartbeats 4000000 in
theorem okX12_hookOf {l : Launch} (hl : l.stackTraces = false) {F : Nat} {x0 : Nat} {x1 : Int32} {h : ab_H} {y : Int32} (e : fX12_hookOf F x0 x1 h = some y) : ab_Met l mX12_hookOf [.ref x0, .int x1] h (.inl (some (.int y)), h) := ab_ofS (io := (fun y : Int32 => ((.inl (some (.int y)), h) : ab_R × ab_H))) (x := y) hl (by decide) rfl (Nat.le_of_ble_eq_true rfl) (wX12_hookOf hl F x0 x1 h) e
def mX12_hung : ab_M := (yX12_hung, cX12_hung, 3, (some .int), { frames := 0, cells := 0, slots := 0, locals := 0 })
theorem iX12_hung : ab_MI mX12_hung 0 := ⟨kw_11e45ae5c4, kw_30b3f7d7c6, by decide +kernel⟩
def fX12_hung_4 (x0 : Nat) (h : ab_H) : Nat → Int32 → Int32 → Option Int32
  | 0, _, _ => none
  | n + 1, x1, x2 => ab_bd (ab_fr h x0 12 1) fun v1 => ab_bd (ab_ia 0 h v1 (nI 4)) fun v2 => (if x2 < v2 then ab_bd (ab_fr h x0 12 1) fun v4 => ab_bd (ab_ia 0 h v4 ((nI 272) + x2)) fun v5 => (if v5 = (-1 : Int32) then fX12_hung_4 x0 h n (x1 + (nI 0)) (x2 + nI 1) else fX12_hung_4 x0 h n (x1 + (nI 1)) (x2 + nI 1)) else some x1)
def fX12_hung (F : Nat) (x0 : Nat) (h : ab_H) : Option Int32 := fX12_hung_4 x0 h F (nI 0) (nI 0)
set_option maxRecDepth 100000 in
set_option maxHeartbeats 4000000 in
theorem lX12_hung_4 {l : Launch} (hl : l.stackTraces = false) (x0 : Nat) (h : ab_H) : ∀ (n : Nat) (x1 : Int32) (x2 : Int32), ab_S l mX12_hung (fun y : Int32 => ((.inl (some (.int y)), h) : ab_R × ab_H)) 0 0 (fX12_hung_4 x0 h n x1 x2) 4 [(0, .ref x0), (1, .int x1), (2, .int x2)] [] h := by
  intro n
  induction n with
  | zero =>
    intro x1 x2
    exact ab_none
  | succ n ih =>
    intro x1 x2
    rw [fX12_hung_4]
    refine ab_iload_n (pc := 4) (n := 2) (i := 2) (j := 2) (by decide +kernel) rfl rfl ?_
    refine ab_aload_n (pc := 5) (n := 0) (i := 0) (j := 0) (by decide +kernel) rfl rfl ?_
    refine ab_getR (pc := 6) fl_X12_7_12 (by decide +kernel) (fun v1 ev1 => ?_)
    refine ab_iconst (pc := 9) (n := 4) (v := nI 4) (by decide +kernel) rfl ?_
    refine ab_iald (pc := 10) (by decide +kernel) (fun v2 ev2 => ?_)
    refine ab_icmp_ge (off := 31) (pc := 11) (tgt := 42) (by decide +kernel) (by decide) (fun g3 => ?_) (fun g3 => ?_)
    · refine ab_iload_n (pc := 14) (n := 1) (i := 1) (j := 1) (by decide +kernel) rfl rfl ?_
      refine ab_aload_n (pc := 15) (n := 0) (i := 0) (j := 0) (by decide +kernel) rfl rfl ?_
      refine ab_getR (pc := 16) fl_X12_7_12 (by decide +kernel) (fun v4 ev4 => ?_)
      refine ab_sipush (pc := 19) (n := 272) (v := nI 272) (by decide +kernel) (by decide) ?_
      refine ab_iload_n (pc := 22) (n := 2) (i := 2) (j := 2) (by decide +kernel) rfl rfl ?_
      refine ab_iadd (pc := 23) (by decide +kernel) ?_
      refine ab_iald (pc := 24) (by decide +kernel) (fun v5 ev5 => ?_)
      refine ab_iconst (pc := 25) (n := -1) (v := (-1 : Int32)) (by decide +kernel) rfl ?_
      refine ab_icmp_ne (off := 7) (pc := 26) (tgt := 33) (by decide +kernel) (by decide) (fun g6 => ?_) (fun g6 => ?_)
      · refine ab_iconst (pc := 29) (n := 0) (v := nI 0) (by decide +kernel) rfl ?_
        refine ab_goto (pc := 30) (off := 4) (tgt := 34) (by decide +kernel) (by decide) ?_
        refine ab_iadd (pc := 34) (by decide +kernel) ?_
        refine ab_istore_n (pc := 35) (n := 1) (i := 1) (lv' := [(0, .ref x0), (1, .int (x1 + (nI 0))), (2, .int x2)]) (by decide +kernel) rfl (by decide) rfl rfl ?_
        refine ab_iinc (pc := 36) (i := 2) (n := 1) (j := 2) (d := nI 1) (lv' := [(0, .ref x0), (1, .int (x1 + (nI 0))), (2, .int (x2 + nI 1))]) (by decide +kernel) rfl rfl (by decide) rfl rfl ?_
        refine ab_goto (pc := 39) (off := (-35)) (tgt := 4) (by decide +kernel) (by decide) ?_
        exact ih (x1 + (nI 0)) (x2 + nI 1)
      · refine ab_iconst (pc := 33) (n := 1) (v := nI 1) (by decide +kernel) rfl ?_
        refine ab_iadd (pc := 34) (by decide +kernel) ?_
        refine ab_istore_n (pc := 35) (n := 1) (i := 1) (lv' := [(0, .ref x0), (1, .int (x1 + (nI 1))), (2, .int x2)]) (by decide +kernel) rfl (by decide) rfl rfl ?_
        refine ab_iinc (pc := 36) (i := 2) (n := 1) (j := 2) (d := nI 1) (lv' := [(0, .ref x0), (1, .int (x1 + (nI 1))), (2, .int (x2 + nI 1))]) (by decide +kernel) rfl rfl (by decide) rfl rfl ?_
        refine ab_goto (pc := 39) (off := (-35)) (tgt := 4) (by decide +kernel) (by decide) ?_
        exact ih (x1 + (nI 1)) (x2 + nI 1)
    · refine ab_iload_n (pc := 42) (n := 1) (i := 1) (j := 1) (by decide +kernel) rfl rfl ?_
      exact ab_iret (pc := 43) (by decide +kernel) rfl rfl (Nat.zero_le _) (Nat.zero_le _)
set_option maxRecDepth 100000 in
set_option maxHeartbeats 4000000 in
theorem wX12_hung {l : Launch} (hl : l.stackTraces = false) (F : Nat) (x0 : Nat) (h : ab_H) : ab_S l mX12_hung (fun y : Int32 => ((.inl (some (.int y)), h) : ab_R × ab_H)) 0 0 (fX12_hung F x0 h) 0 [(0, .ref x0)] [] h := by
  unfold fX12_hung
  refine ab_iconst (pc := 0) (n := 0) (v := nI 0) (by decide +kernel) rfl ?_
  refine ab_istore_n (pc := 1) (n := 1) (i := 1) (lv' := [(0, .ref x0), (1, .int (nI 0))]) (by decide +kernel) rfl (by decide) rfl rfl ?_
  refine ab_iconst (pc := 2) (n := 0) (v := nI 0) (by decide +kernel) rfl ?_
  refine ab_istore_n (pc := 3) (n := 2) (i := 2) (lv' := [(0, .ref x0), (1, .int (nI 0)), (2, .int (nI 0))]) (by decide +kernel) rfl (by decide) rfl rfl ?_
  refine lX12_hung_4 hl x0 h F (nI 0) (nI 0)
set_option maxRecDepth 100000 in
set_option maxHeartbeats 4000000 in
theorem okX12_hung {l : Launch} (hl : l.stackTraces = false) {F : Nat} {x0 : Nat} {h : ab_H} {y : Int32} (e : fX12_hung F x0 h = some y) : ab_Met l mX12_hung [.ref x0] h (.inl (some (.int y)), h) := ab_ofS (io := (fun y : Int32 => ((.inl (some (.int y)), h) : ab_R × ab_H))) (x := y) hl (by decide) rfl (Nat.le_of_ble_eq_true rfl) (wX12_hung hl F x0 h) e
def mX12_hasTicketOf : ab_M := (yX12_hasTicketOf, cX12_hasTicketOf, 3, (some .boolean), { frames := 1, cells := 0, slots := 0, locals := 22 })
theorem iX12_hasTicketOf : ab_MI mX12_hasTicketOf 1 := ⟨kw_1e492149bb, kw_30b3f7d7c6, by decide +kernel⟩
def fX12_hasTicketOf_2 (x0 : Nat) (x1 : Int32) (h : ab_H) : Nat → Int32 → Option Int32
  | 0, _ => none
  | n + 1, x2 => ab_bd (ab_fr h x0 12 1) fun v1 => ab_bd (ab_ia 0 h v1 (nI 3)) fun v2 => (if x2 < v2 then ab_ck (ab_io h x0 12 = true) (ab_bd (fX12_of x0 x2 (nI 3) h) fun v4 => (if v4 = x1 then some (nI 1) else fX12_hasTicketOf_2 x0 x1 h n (x2 + nI 1))) else some (nI 0))
def fX12_hasTicketOf (F : Nat) (x0 : Nat) (x1 : Int32) (h : ab_H) : Option Int32 := fX12_hasTicketOf_2 x0 x1 h F (nI 0)
set_option maxRecDepth 100000 in
set_option maxHeartbeats 4000000 in
theorem lX12_hasTicketOf_2 {l : Launch} (hl : l.stackTraces = false) (x0 : Nat) (x1 : Int32) (h : ab_H) : ∀ (n : Nat) (x2 : Int32), ab_S l mX12_hasTicketOf (fun y : Int32 => ((.inl (some (.int y)), h) : ab_R × ab_H)) 0 0 (fX12_hasTicketOf_2 x0 x1 h n x2) 2 [(0, .ref x0), (1, .int x1), (2, .int x2)] [] h := by
  intro n
  induction n with
  | zero =>
    intro x2
    exact ab_none
  | succ n ih =>
    intro x2
    rw [fX12_hasTicketOf_2]
    refine ab_iload_n (pc := 2) (n := 2) (i := 2) (j := 2) (by decide +kernel) rfl rfl ?_
    refine ab_aload_n (pc := 3) (n := 0) (i := 0) (j := 0) (by decide +kernel) rfl rfl ?_
    refine ab_getR (pc := 4) fl_X12_7_12 (by decide +kernel) (fun v1 ev1 => ?_)
    refine ab_iconst (pc := 7) (n := 3) (v := nI 3) (by decide +kernel) rfl ?_
    refine ab_iald (pc := 8) (by decide +kernel) (fun v2 ev2 => ?_)
    refine ab_icmp_ge (off := 21) (pc := 9) (tgt := 30) (by decide +kernel) (by decide) (fun g3 => ?_) (fun g3 => ?_)
    · refine ab_aload_n (pc := 12) (n := 0) (i := 0) (j := 0) (by decide +kernel) rfl rfl ?_
      refine ab_iload_n (pc := 13) (n := 2) (i := 2) (j := 2) (by decide +kernel) rfl rfl ?_
      refine ab_iconst (pc := 14) (n := 3) (v := nI 3) (by decide +kernel) rfl ?_
      refine ab_callVi (As := [.int x2, .int (nI 3)]) (st := []) (pc := 15) lk_X12_57_12 rfl rfl rfl (by decide) (by decide) (Nat.le_of_ble_eq_true rfl) (by decide +kernel) (fun y9 e9 => okX12_of hl e9) (fun v4 ev4 => ?_)
      refine ab_iload_n (pc := 18) (n := 1) (i := 1) (j := 1) (by decide +kernel) rfl rfl ?_
      refine ab_icmp_ne (off := 5) (pc := 19) (tgt := 24) (by decide +kernel) (by decide) (fun g5 => ?_) (fun g5 => ?_)
      · refine ab_iconst (pc := 22) (n := 1) (v := nI 1) (by decide +kernel) rfl ?_
        exact ab_zret (pc := 23) (by decide +kernel) rfl ab_bl1 rfl (Nat.zero_le _) (Nat.zero_le _)
      · refine ab_iinc (pc := 24) (i := 2) (n := 1) (j := 2) (d := nI 1) (lv' := [(0, .ref x0), (1, .int x1), (2, .int (x2 + nI 1))]) (by decide +kernel) rfl rfl (by decide) rfl rfl ?_
        refine ab_goto (pc := 27) (off := (-25)) (tgt := 2) (by decide +kernel) (by decide) ?_
        exact ih (x2 + nI 1)
    · refine ab_iconst (pc := 30) (n := 0) (v := nI 0) (by decide +kernel) rfl ?_
      exact ab_zret (pc := 31) (by decide +kernel) rfl ab_bl0 rfl (Nat.zero_le _) (Nat.zero_le _)
set_option maxRecDepth 100000 in
set_option maxHeartbeats 4000000 in
theorem wX12_hasTicketOf {l : Launch} (hl : l.stackTraces = false) (F : Nat) (x0 : Nat) (x1 : Int32) (h : ab_H) : ab_S l mX12_hasTicketOf (fun y : Int32 => ((.inl (some (.int y)), h) : ab_R × ab_H)) 0 0 (fX12_hasTicketOf F x0 x1 h) 0 [(0, .ref x0), (1, .int x1)] [] h := by
  unfold fX12_hasTicketOf
  refine ab_iconst (pc := 0) (n := 0) (v := nI 0) (by decide +kernel) rfl ?_
  refine ab_istore_n (pc := 1) (n := 2) (i := 2) (lv' := [(0, .ref x0), (1, .int x1), (2, .int (nI 0))]) (by decide +kernel) rfl (by decide) rfl rfl ?_
  refine lX12_hasTicketOf_2 hl x0 x1 h F (nI 0)
set_option maxRecDepth 100000 in
set_option maxHeartbeats 4000000 in
theorem okX12_hasTicketOf {l : Launch} (hl : l.stackTraces = false) {F : Nat} {x0 : Nat} {x1 : Int32} {h : ab_H} {y : Int32} (e : fX12_hasTicketOf F x0 x1 h = some y) : ab_Met l mX12_hasTicketOf [.ref x0, .int x1] h (.inl (some (.int y)), h) := ab_ofS (io := (fun y : Int32 => ((.inl (some (.int y)), h) : ab_R × ab_H))) (x := y) hl (by decide) rfl (Nat.le_of_ble_eq_true rfl) (wX12_hasTicketOf hl F x0 x1 h) e
def mX12_feed : ab_M := (yX12_feed, cX12_feed, 8, (some .int), { frames := 0, cells := 0, slots := 0, locals := 0 })
theorem iX12_feed : ab_MI mX12_feed 5 := ⟨kw_5d511be48c, kw_30b3f7d7c6, by decide +kernel⟩
def fX12_feed_23 (x0 : Nat) (x1 : Int32) (x2 : Int32) (x3 : Int32) (x4 : Int32) (x5 : Int32) : Nat → Int32 → ab_H → Option (Int32 × ab_H)
  | 0, _, _ => none
  | n + 1, x6, h => (if x6 < (nI 20) then ab_jn (κ := Int32 → Option (Int32 × ab_H)) (fun (z5 : Int32) => ab_bd (ab_fr h x0 12 7) fun v6 => ab_bd (ab_fi h x0 12 8) fun v7 => ab_ck (¬ (nI 4) = 0) (ab_bd (ab_iw 0 h v6 v7 ((ab_us z5 ((nI 24) - ((nI 8) * (ab_rm x6 (nI 4))))) &&& (nI 255))) fun h9 => ab_bd (ab_fi h9 x0 12 8) fun v10 => ab_bd (ab_fw h9 x0 12 8 (.int (v10 + (nI 1)))) fun h11 => fX12_feed_23 x0 x1 x2 x3 x4 x5 n (x6 + nI 1) h11)) fun j12 => (if x6 < (nI 4) then j12 x1 else (if x6 < (nI 8) then j12 x2 else (if x6 < (nI 12) then j12 x3 else (if x6 < (nI 16) then j12 x4 else j12 x5)))) else ab_bd (ab_fi h x0 12 8) fun v17 => some (v17, h))
def fX12_feed (F : Nat) (x0 : Nat) (x1 : Int32) (x2 : Int32) (x3 : Int32) (x4 : Int32) (x5 : Int32) (h : ab_H) : Option (Int32 × ab_H) := ab_bd (ab_fw h x0 12 0 (.int (nI 0))) fun h1 => ab_bd (ab_fi h1 x0 12 8) fun v2 => (if (v2 + (nI 20)) ≤ (nI 400) then fX12_feed_23 x0 x1 x2 x3 x4 x5 F (nI 0) h1 else some ((-1 : Int32), h1))
set_option maxRecDepth 100000 in
set_option maxHeartbeats 4000000 in
theorem lX12_feed_23 {l : Launch} (hl : l.stackTraces = false) (x0 : Nat) (x1 : Int32) (x2 : Int32) (x3 : Int32) (x4 : Int32) (x5 : Int32) : ∀ (n : Nat) (x6 : Int32) (h : ab_H), ab_S l mX12_feed (fun y : (Int32 × ab_H) => ((.inl (some (.int y.1)), y.2) : ab_R × ab_H)) 0 0 (fX12_feed_23 x0 x1 x2 x3 x4 x5 n x6 h) 23 [(0, .ref x0), (1, .int x1), (2, .int x2), (3, .int x3), (4, .int x4), (5, .int x5), (6, .int x6)] [] h := by
  intro n
  induction n with
  | zero =>
    intro x6 h
    exact ab_none
  | succ n ih =>
    intro x6 h
    rw [fX12_feed_23]
    refine ab_iload (pc := 23) (i := 6) (j := 6) (by decide +kernel) rfl ?_
    refine ab_bipush (pc := 25) (n := 20) (v := nI 20) (by decide +kernel) (by decide) ?_
    refine ab_icmp_ge (off := 93) (pc := 27) (tgt := 120) (by decide +kernel) (by decide) (fun g4 => ?_) (fun g4 => ?_)
    · refine ab_iload (pc := 30) (i := 6) (j := 6) (by decide +kernel) rfl ?_
      refine ab_iconst (pc := 32) (n := 4) (v := nI 4) (by decide +kernel) rfl ?_
      refine ab_jr (fun k9 : Int32 → Option (Int32 × ab_H) => ∀ (z5 : Int32), ab_S l mX12_feed (fun y : (Int32 × ab_H) => ((.inl (some (.int y.1)), y.2) : ab_R × ab_H)) 0 0 (k9 z5) 76 [(0, .ref x0), (1, .int x1), (2, .int x2), (3, .int x3), (4, .int x4), (5, .int x5), (6, .int x6)] [.int z5] h) ?_ (fun j12 hj12 => ?_)
      · intro z5
        refine ab_istore (pc := 76) (i := 7) (lv' := [(0, .ref x0), (1, .int x1), (2, .int x2), (3, .int x3), (4, .int x4), (5, .int x5), (6, .int x6), (7, .int z5)]) (by decide +kernel) (by decide) rfl rfl ?_
        refine ab_aload_n (pc := 78) (n := 0) (i := 0) (j := 0) (by decide +kernel) rfl rfl ?_
        refine ab_getR (pc := 79) fl_X12_22_12 (by decide +kernel) (fun v6 ev6 => ?_)
        refine ab_aload_n (pc := 82) (n := 0) (i := 0) (j := 0) (by decide +kernel) rfl rfl ?_
        refine ab_getI (pc := 83) fl_X12_61_12 (by decide +kernel) (fun v7 ev7 => ?_)
        refine ab_iload (pc := 86) (i := 7) (j := 7) (by decide +kernel) rfl ?_
        refine ab_bipush (pc := 88) (n := 24) (v := nI 24) (by decide +kernel) (by decide) ?_
        refine ab_bipush (pc := 90) (n := 8) (v := nI 8) (by decide +kernel) (by decide) ?_
        refine ab_iload (pc := 92) (i := 6) (j := 6) (by decide +kernel) rfl ?_
        refine ab_iconst (pc := 94) (n := 4) (v := nI 4) (by decide +kernel) rfl ?_
        refine ab_irem (pc := 95) (by decide +kernel) (fun g8 => ?_)
        refine ab_imul (pc := 96) (by decide +kernel) ?_
        refine ab_isub (pc := 97) (by decide +kernel) ?_
        refine ab_iushr (pc := 98) (by decide +kernel) ?_
        refine ab_sipush (pc := 99) (n := 255) (v := nI 255) (by decide +kernel) (by decide) ?_
        refine ab_iand (pc := 102) (by decide +kernel) ?_
        refine ab_iast (pc := 103) (by decide +kernel) (fun h9 eh9 => ?_)
        refine ab_aload_n (pc := 104) (n := 0) (i := 0) (j := 0) (by decide +kernel) rfl rfl ?_
        refine ab_dup (pc := 105) (by decide +kernel) rfl ?_
        refine ab_getI (pc := 106) fl_X12_61_12 (by decide +kernel) (fun v10 ev10 => ?_)
        refine ab_iconst (pc := 109) (n := 1) (v := nI 1) (by decide +kernel) rfl ?_
        refine ab_iadd (pc := 110) (by decide +kernel) ?_
        refine ab_put (pc := 111) fl_X12_61_12 rfl (fun _ => rfl) (fun _ => rfl) (by decide +kernel) (fun h11 eh11 => ?_)
        refine ab_iinc (pc := 114) (i := 6) (n := 1) (j := 6) (d := nI 1) (lv' := [(0, .ref x0), (1, .int x1), (2, .int x2), (3, .int x3), (4, .int x4), (5, .int x5), (6, .int (x6 + nI 1)), (7, .int z5)]) (by decide +kernel) rfl rfl (by decide) rfl rfl ?_
        refine ab_goto (pc := 117) (off := (-94)) (tgt := 23) (by decide +kernel) (by decide) ?_
        refine ab_few [0, 1, 2, 3, 4, 5, 6] (lv' := [(0, .ref x0), (1, .int x1), (2, .int x2), (3, .int x3), (4, .int x4), (5, .int x5), (6, .int (x6 + nI 1))]) rfl ?_
        exact ih (x6 + nI 1) h11
      · refine ab_icmp_ge (off := 7) (pc := 33) (tgt := 40) (by decide +kernel) (by decide) (fun g13 => ?_) (fun g13 => ?_)
        · refine ab_iload_n (pc := 36) (n := 1) (i := 1) (j := 1) (by decide +kernel) rfl rfl ?_
          refine ab_goto (pc := 37) (off := 39) (tgt := 76) (by decide +kernel) (by decide) ?_
          exact hj12 x1
        · refine ab_iload (pc := 40) (i := 6) (j := 6) (by decide +kernel) rfl ?_
          refine ab_bipush (pc := 42) (n := 8) (v := nI 8) (by decide +kernel) (by decide) ?_
          refine ab_icmp_ge (off := 7) (pc := 44) (tgt := 51) (by decide +kernel) (by decide) (fun g14 => ?_) (fun g14 => ?_)
          · refine ab_iload_n (pc := 47) (n := 2) (i := 2) (j := 2) (by decide +kernel) rfl rfl ?_
            refine ab_goto (pc := 48) (off := 28) (tgt := 76) (by decide +kernel) (by decide) ?_
            exact hj12 x2
          · refine ab_iload (pc := 51) (i := 6) (j := 6) (by decide +kernel) rfl ?_
            refine ab_bipush (pc := 53) (n := 12) (v := nI 12) (by decide +kernel) (by decide) ?_
            refine ab_icmp_ge (off := 7) (pc := 55) (tgt := 62) (by decide +kernel) (by decide) (fun g15 => ?_) (fun g15 => ?_)
            · refine ab_iload_n (pc := 58) (n := 3) (i := 3) (j := 3) (by decide +kernel) rfl rfl ?_
              refine ab_goto (pc := 59) (off := 17) (tgt := 76) (by decide +kernel) (by decide) ?_
              exact hj12 x3
            · refine ab_iload (pc := 62) (i := 6) (j := 6) (by decide +kernel) rfl ?_
              refine ab_bipush (pc := 64) (n := 16) (v := nI 16) (by decide +kernel) (by decide) ?_
              refine ab_icmp_ge (off := 8) (pc := 66) (tgt := 74) (by decide +kernel) (by decide) (fun g16 => ?_) (fun g16 => ?_)
              · refine ab_iload (pc := 69) (i := 4) (j := 4) (by decide +kernel) rfl ?_
                refine ab_goto (pc := 71) (off := 5) (tgt := 76) (by decide +kernel) (by decide) ?_
                exact hj12 x4
              · refine ab_iload (pc := 74) (i := 5) (j := 5) (by decide +kernel) rfl ?_
                exact hj12 x5
    · refine ab_aload_n (pc := 120) (n := 0) (i := 0) (j := 0) (by decide +kernel) rfl rfl ?_
      refine ab_getI (pc := 121) fl_X12_61_12 (by decide +kernel) (fun v17 ev17 => ?_)
      exact ab_iret (pc := 124) (by decide +kernel) rfl rfl (Nat.zero_le _) (Nat.zero_le _)
set_option maxRecDepth 100000 in
set_option maxHeartbeats 4000000 in
theorem wX12_feed {l : Launch} (hl : l.stackTraces = false) (F : Nat) (x0 : Nat) (x1 : Int32) (x2 : Int32) (x3 : Int32) (x4 : Int32) (x5 : Int32) (h : ab_H) : ab_S l mX12_feed (fun y : (Int32 × ab_H) => ((.inl (some (.int y.1)), y.2) : ab_R × ab_H)) 0 0 (fX12_feed F x0 x1 x2 x3 x4 x5 h) 0 [(0, .ref x0), (1, .int x1), (2, .int x2), (3, .int x3), (4, .int x4), (5, .int x5)] [] h := by
  unfold fX12_feed
  refine ab_aload_n (pc := 0) (n := 0) (i := 0) (j := 0) (by decide +kernel) rfl rfl ?_
  refine ab_iconst (pc := 1) (n := 0) (v := nI 0) (by decide +kernel) rfl ?_
  refine ab_put (pc := 2) fl_X12_50_12 rfl (fun _ => rfl) (fun _ => rfl) (by decide +kernel) (fun h1 eh1 => ?_)
  refine ab_aload_n (pc := 5) (n := 0) (i := 0) (j := 0) (by decide +kernel) rfl rfl ?_
  refine ab_getI (pc := 6) fl_X12_61_12 (by decide +kernel) (fun v2 ev2 => ?_)
  refine ab_bipush (pc := 9) (n := 20) (v := nI 20) (by decide +kernel) (by decide) ?_
  refine ab_iadd (pc := 11) (by decide +kernel) ?_
  refine ab_sipush (pc := 12) (n := 400) (v := nI 400) (by decide +kernel) (by decide) ?_
  refine ab_icmp_le (off := 5) (pc := 15) (tgt := 20) (by decide +kernel) (by decide) (fun g3 => ?_) (fun g3 => ?_)
  · refine ab_iconst (pc := 20) (n := 0) (v := nI 0) (by decide +kernel) rfl ?_
    refine ab_istore (pc := 21) (i := 6) (lv' := [(0, .ref x0), (1, .int x1), (2, .int x2), (3, .int x3), (4, .int x4), (5, .int x5), (6, .int (nI 0))]) (by decide +kernel) (by decide) rfl rfl ?_
    refine lX12_feed_23 hl x0 x1 x2 x3 x4 x5 F (nI 0) h1
  · refine ab_iconst (pc := 18) (n := -1) (v := (-1 : Int32)) (by decide +kernel) rfl ?_
    exact ab_iret (pc := 19) (by decide +kernel) rfl rfl (Nat.zero_le _) (Nat.zero_le _)
set_option maxRecDepth 100000 in
set_option maxHeartbeats 4000000 in
theorem okX12_feed {l : Launch} (hl : l.stackTraces = false) {F : Nat} {x0 : Nat} {x1 : Int32} {x2 : Int32} {x3 : Int32} {x4 : Int32} {x5 : Int32} {h : ab_H} {y : (Int32 × ab_H)} (e : fX12_feed F x0 x1 x2 x3 x4 x5 h = some y) : ab_Met l mX12_feed [.ref x0, .int x1, .int x2, .int x3, .int x4, .int x5] h (.inl (some (.int y.1)), y.2) := ab_ofS (io := (fun y : (Int32 × ab_H) => ((.inl (some (.int y.1)), y.2) : ab_R × ab_H))) (x := y) hl (by decide) rfl (Nat.le_of_ble_eq_true rfl) (wX12_feed hl F x0 x1 x2 x3 x4 x5 h) e
def mX12_end : ab_M := (yX12_end, cX12_end, 2, (some .boolean), { frames := 1, cells := 0, slots := 0, locals := 22 })
theorem iX12_end : ab_MI mX12_end 1 := ⟨kw_3ce965e95a, kw_30b3f7d7c6, by decide +kernel⟩
def fX12_end (x0 : Nat) (x1 : Int32) (h : ab_H) : Option (Int32 × ab_H) := ab_bd (ab_fw h x0 12 0 (.int (nI 0))) fun h1 => ab_bd (ab_fi h1 x0 12 8) fun v2 => ab_bd (fX12_isIn x1 (nI 0) v2 h1) fun v3 => (if v3 = 0 then some (nI 0, h1) else ab_bd (ab_fw h1 x0 12 8 (.int x1)) fun h5 => some (nI 1, h5))
set_option maxRecDepth 100000 in
set_option maxHeartbeats 4000000 in
theorem wX12_end {l : Launch} (hl : l.stackTraces = false) (x0 : Nat) (x1 : Int32) (h : ab_H) : ab_S l mX12_end (fun y : (Int32 × ab_H) => ((.inl (some (.int y.1)), y.2) : ab_R × ab_H)) 0 0 (fX12_end x0 x1 h) 0 [(0, .ref x0), (1, .int x1)] [] h := by
  unfold fX12_end
  refine ab_aload_n (pc := 0) (n := 0) (i := 0) (j := 0) (by decide +kernel) rfl rfl ?_
  refine ab_iconst (pc := 1) (n := 0) (v := nI 0) (by decide +kernel) rfl ?_
  refine ab_put (pc := 2) fl_X12_50_12 rfl (fun _ => rfl) (fun _ => rfl) (by decide +kernel) (fun h1 eh1 => ?_)
  refine ab_iload_n (pc := 5) (n := 1) (i := 1) (j := 1) (by decide +kernel) rfl rfl ?_
  refine ab_iconst (pc := 6) (n := 0) (v := nI 0) (by decide +kernel) rfl ?_
  refine ab_aload_n (pc := 7) (n := 0) (i := 0) (j := 0) (by decide +kernel) rfl rfl ?_
  refine ab_getI (pc := 8) fl_X12_61_12 (by decide +kernel) (fun v2 ev2 => ?_)
  refine ab_callSi (As := [.int x1, .int (nI 0), .int v2]) (st := []) (pc := 11) lk_X12_53 rfl rfl rfl (by decide) (by decide) (Nat.le_of_ble_eq_true rfl) (by decide +kernel) (fun y9 e9 => okX12_isIn hl e9) (fun v3 ev3 => ?_)
  refine ab_if_ne (off := 5) (pc := 14) (tgt := 19) (by decide +kernel) (by decide) (fun g4 => ?_) (fun g4 => ?_)
  · refine ab_iconst (pc := 17) (n := 0) (v := nI 0) (by decide +kernel) rfl ?_
    exact ab_zret (pc := 18) (by decide +kernel) rfl ab_bl0 rfl (Nat.zero_le _) (Nat.zero_le _)
  · refine ab_aload_n (pc := 19) (n := 0) (i := 0) (j := 0) (by decide +kernel) rfl rfl ?_
    refine ab_iload_n (pc := 20) (n := 1) (i := 1) (j := 1) (by decide +kernel) rfl rfl ?_
    refine ab_put (pc := 21) fl_X12_61_12 rfl (fun _ => rfl) (fun _ => rfl) (by decide +kernel) (fun h5 eh5 => ?_)
    refine ab_iconst (pc := 24) (n := 1) (v := nI 1) (by decide +kernel) rfl ?_
    exact ab_zret (pc := 25) (by decide +kernel) rfl ab_bl1 rfl (Nat.zero_le _) (Nat.zero_le _)
set_option maxRecDepth 100000 in
set_option maxHeartbeats 4000000 in
theorem okX12_end {l : Launch} (hl : l.stackTraces = false) {x0 : Nat} {x1 : Int32} {h : ab_H} {y : (Int32 × ab_H)} (e : fX12_end x0 x1 h = some y) : ab_Met l mX12_end [.ref x0, .int x1] h (.inl (some (.int y.1)), y.2) := ab_ofS (io := (fun y : (Int32 × ab_H) => ((.inl (some (.int y.1)), y.2) : ab_R × ab_H))) (x := y) hl (by decide) rfl (Nat.le_of_ble_eq_true rfl) (wX12_end hl x0 x1 h) e
def mX12_letter : ab_M := (yX12_letter, cX12_letter, 2, (some .int), { frames := 0, cells := 0, slots := 0, locals := 0 })
theorem iX12_letter : ab_MI mX12_letter 1 := ⟨kw_1b5cc514bc, kw_30b3f7d7c6, by decide +kernel⟩
def fX12_letter (x0 : Nat) (x1 : Int32) (h : ab_H) : Option Int32 := ab_bd (ab_fi h x0 12 9) fun v1 => (if v1 = (-1 : Int32) then ab_bd (ab_fr h x0 12 7) fun v3 => ab_bd (ab_ia 0 h v3 x1) fun v4 => some v4 else ab_bd (ab_fr h x0 12 1) fun v5 => ab_bd (ab_fi h x0 12 9) fun v6 => ab_bd (ab_ia 0 h v5 (v6 + x1)) fun v7 => some v7)
set_option maxRecDepth 100000 in
set_option maxHeartbeats 4000000 in
theorem wX12_letter {l : Launch} (hl : l.stackTraces = false) (x0 : Nat) (x1 : Int32) (h : ab_H) : ab_S l mX12_letter (fun y : Int32 => ((.inl (some (.int y)), h) : ab_R × ab_H)) 0 0 (fX12_letter x0 x1 h) 0 [(0, .ref x0), (1, .int x1)] [] h := by
  unfold fX12_letter
  refine ab_aload_n (pc := 0) (n := 0) (i := 0) (j := 0) (by decide +kernel) rfl rfl ?_
  refine ab_getI (pc := 1) fl_X12_64_12 (by decide +kernel) (fun v1 ev1 => ?_)
  refine ab_iconst (pc := 4) (n := -1) (v := (-1 : Int32)) (by decide +kernel) rfl ?_
  refine ab_icmp_ne (off := 12) (pc := 5) (tgt := 17) (by decide +kernel) (by decide) (fun g2 => ?_) (fun g2 => ?_)
  · refine ab_aload_n (pc := 8) (n := 0) (i := 0) (j := 0) (by decide +kernel) rfl rfl ?_
    refine ab_getR (pc := 9) fl_X12_22_12 (by decide +kernel) (fun v3 ev3 => ?_)
    refine ab_iload_n (pc := 12) (n := 1) (i := 1) (j := 1) (by decide +kernel) rfl rfl ?_
    refine ab_iald (pc := 13) (by decide +kernel) (fun v4 ev4 => ?_)
    refine ab_goto (pc := 14) (off := 14) (tgt := 28) (by decide +kernel) (by decide) ?_
    exact ab_iret (pc := 28) (by decide +kernel) rfl rfl (Nat.zero_le _) (Nat.zero_le _)
  · refine ab_aload_n (pc := 17) (n := 0) (i := 0) (j := 0) (by decide +kernel) rfl rfl ?_
    refine ab_getR (pc := 18) fl_X12_7_12 (by decide +kernel) (fun v5 ev5 => ?_)
    refine ab_aload_n (pc := 21) (n := 0) (i := 0) (j := 0) (by decide +kernel) rfl rfl ?_
    refine ab_getI (pc := 22) fl_X12_64_12 (by decide +kernel) (fun v6 ev6 => ?_)
    refine ab_iload_n (pc := 25) (n := 1) (i := 1) (j := 1) (by decide +kernel) rfl rfl ?_
    refine ab_iadd (pc := 26) (by decide +kernel) ?_
    refine ab_iald (pc := 27) (by decide +kernel) (fun v7 ev7 => ?_)
    exact ab_iret (pc := 28) (by decide +kernel) rfl rfl (Nat.zero_le _) (Nat.zero_le _)
set_option maxRecDepth 100000 in
set_option maxHeartbeats 4000000 in
theorem okX12_letter {l : Launch} (hl : l.stackTraces = false) {x0 : Nat} {x1 : Int32} {h : ab_H} {y : Int32} (e : fX12_letter x0 x1 h = some y) : ab_Met l mX12_letter [.ref x0, .int x1] h (.inl (some (.int y)), h) := ab_ofS (io := (fun y : Int32 => ((.inl (some (.int y)), h) : ab_R × ab_H))) (x := y) hl (by decide) rfl (Nat.le_of_ble_eq_true rfl) (wX12_letter hl x0 x1 h) e
def mX12_skip : ab_M := (yX12_skip, cX12_skip, 1, none, { frames := 1, cells := 0, slots := 0, locals := 21 })
theorem iX12_skip : ab_MI mX12_skip 0 := ⟨kw_7ba47adbe6, kw_30b3f7d7c6, by decide +kernel⟩
theorem lk_X12_73_12 : ab_LV RX12 73 12 mX12_letter 1 := ⟨RX12, rfl, iX12_letter, kw_730712e755, kw_4c0f2ff20d, kw_481e552cd2⟩
def fX12_skip_0 (x0 : Nat) : Nat → ab_H → Option ab_H
  | 0, _ => none
  | n + 1, h => ab_bd (ab_fi h x0 12 11) fun v1 => ab_bd (ab_fi h x0 12 10) fun v2 => (if v1 < v2 then ab_bd (ab_fi h x0 12 11) fun v4 => ab_ck (ab_io h x0 12 = true) (ab_bd (fX12_letter x0 v4 h) fun v5 => (if v5 = (nI 32) then ab_bd (ab_fi h x0 12 11) fun v7 => ab_bd (ab_fw h x0 12 11 (.int (v7 + (nI 1)))) fun h8 => fX12_skip_0 x0 n h8 else some h)) else some h)
def fX12_skip (F : Nat) (x0 : Nat) (h : ab_H) : Option ab_H := fX12_skip_0 x0 F h
set_option maxRecDepth 100000 in
set_option maxHeartbeats 4000000 in
theorem lX12_skip_0 {l : Launch} (hl : l.stackTraces = false) (x0 : Nat) : ∀ (n : Nat) (h : ab_H), ab_S l mX12_skip (fun y : ab_H => ((.inl none, y) : ab_R × ab_H)) 0 0 (fX12_skip_0 x0 n h) 0 [(0, .ref x0)] [] h := by
  intro n
  induction n with
  | zero =>
    intro h
    exact ab_none
  | succ n ih =>
    intro h
    rw [fX12_skip_0]
    refine ab_aload_n (pc := 0) (n := 0) (i := 0) (j := 0) (by decide +kernel) rfl rfl ?_
    refine ab_getI (pc := 1) fl_X12_67_12 (by decide +kernel) (fun v1 ev1 => ?_)
    refine ab_aload_n (pc := 4) (n := 0) (i := 0) (j := 0) (by decide +kernel) rfl rfl ?_
    refine ab_getI (pc := 5) fl_X12_70_12 (by decide +kernel) (fun v2 ev2 => ?_)
    refine ab_icmp_ge (off := 29) (pc := 8) (tgt := 37) (by decide +kernel) (by decide) (fun g3 => ?_) (fun g3 => ?_)
    · refine ab_aload_n (pc := 11) (n := 0) (i := 0) (j := 0) (by decide +kernel) rfl rfl ?_
      refine ab_aload_n (pc := 12) (n := 0) (i := 0) (j := 0) (by decide +kernel) rfl rfl ?_
      refine ab_getI (pc := 13) fl_X12_67_12 (by decide +kernel) (fun v4 ev4 => ?_)
      refine ab_callVi (As := [.int v4]) (st := []) (pc := 16) lk_X12_73_12 rfl rfl rfl (by decide) (by decide) (Nat.le_of_ble_eq_true rfl) (by decide +kernel) (fun y9 e9 => okX12_letter hl e9) (fun v5 ev5 => ?_)
      refine ab_bipush (pc := 19) (n := 32) (v := nI 32) (by decide +kernel) (by decide) ?_
      refine ab_icmp_ne (off := 16) (pc := 21) (tgt := 37) (by decide +kernel) (by decide) (fun g6 => ?_) (fun g6 => ?_)
      · refine ab_aload_n (pc := 24) (n := 0) (i := 0) (j := 0) (by decide +kernel) rfl rfl ?_
        refine ab_dup (pc := 25) (by decide +kernel) rfl ?_
        refine ab_getI (pc := 26) fl_X12_67_12 (by decide +kernel) (fun v7 ev7 => ?_)
        refine ab_iconst (pc := 29) (n := 1) (v := nI 1) (by decide +kernel) rfl ?_
        refine ab_iadd (pc := 30) (by decide +kernel) ?_
        refine ab_put (pc := 31) fl_X12_67_12 rfl (fun _ => rfl) (fun _ => rfl) (by decide +kernel) (fun h8 eh8 => ?_)
        refine ab_goto (pc := 34) (off := (-34)) (tgt := 0) (by decide +kernel) (by decide) ?_
        exact ih h8
      · exact ab_vret (pc := 37) (by decide +kernel) rfl rfl (Nat.zero_le _) (Nat.zero_le _)
    · exact ab_vret (pc := 37) (by decide +kernel) rfl rfl (Nat.zero_le _) (Nat.zero_le _)
set_option maxRecDepth 100000 in
set_option maxHeartbeats 4000000 in
theorem wX12_skip {l : Launch} (hl : l.stackTraces = false) (F : Nat) (x0 : Nat) (h : ab_H) : ab_S l mX12_skip (fun y : ab_H => ((.inl none, y) : ab_R × ab_H)) 0 0 (fX12_skip F x0 h) 0 [(0, .ref x0)] [] h := by
  unfold fX12_skip
  refine lX12_skip_0 hl x0 F h
set_option maxRecDepth 100000 in
set_option maxHeartbeats 4000000 in
theorem okX12_skip {l : Launch} (hl : l.stackTraces = false) {F : Nat} {x0 : Nat} {h : ab_H} {y : ab_H} (e : fX12_skip F x0 h = some y) : ab_Met l mX12_skip [.ref x0] h (.inl none, y) := ab_ofS (io := (fun y : ab_H => ((.inl none, y) : ab_R × ab_H))) (x := y) hl (by decide) rfl (Nat.le_of_ble_eq_true rfl) (wX12_skip hl F x0 h) e
def mX12_isSign : ab_M := (yX12_isSign, cX12_isSign, 2, (some .boolean), { frames := 2, cells := 0, slots := 0, locals := 41 })
theorem iX12_isSign : ab_MI mX12_isSign 1 := ⟨kw_8774b7bf8f, kw_30b3f7d7c6, by decide +kernel⟩
theorem lk_X12_77_12 : ab_LV RX12 77 12 mX12_skip 0 := ⟨RX12, rfl, iX12_skip, kw_043c433e15, kw_70c2eb0005, kw_e50515c236⟩
def fX12_isSign (F : Nat) (x0 : Nat) (x1 : Int32) (h : ab_H) : Option (Int32 × ab_H) := ab_ck (ab_io h x0 12 = true) (ab_bd (fX12_skip F x0 h) fun h1 => ab_bd (ab_fi h1 x0 12 11) fun v2 => ab_bd (ab_fi h1 x0 12 10) fun v3 => (if v2 < v3 then ab_bd (ab_fi h1 x0 12 11) fun v5 => ab_ck (ab_io h1 x0 12 = true) (ab_bd (fX12_letter x0 v5 h1) fun v6 => (if v6 = x1 then some (nI 1, h1) else some (nI 0, h1))) else some (nI 0, h1)))
set_option maxRecDepth 100000 in
set_option maxHeartbeats 4000000 in
theorem wX12_isSign {l : Launch} (hl : l.stackTraces = false) (F : Nat) (x0 : Nat) (x1 : Int32) (h : ab_H) : ab_S l mX12_isSign (fun y : (Int32 × ab_H) => ((.inl (some (.int y.1)), y.2) : ab_R × ab_H)) 0 0 (fX12_isSign F x0 x1 h) 0 [(0, .ref x0), (1, .int x1)] [] h := by
  unfold fX12_isSign
  refine ab_aload_n (pc := 0) (n := 0) (i := 0) (j := 0) (by decide +kernel) rfl rfl ?_
  refine ab_callVw (As := []) (st := []) (pc := 1) lk_X12_77_12 rfl rfl rfl (by decide) (by decide) (Nat.le_of_ble_eq_true rfl) (by decide +kernel) (fun y9 e9 => okX12_skip hl (F := F) e9) (fun h1 eh1 => ?_)
  refine ab_aload_n (pc := 4) (n := 0) (i := 0) (j := 0) (by decide +kernel) rfl rfl ?_
  refine ab_getI (pc := 5) fl_X12_67_12 (by decide +kernel) (fun v2 ev2 => ?_)
  refine ab_aload_n (pc := 8) (n := 0) (i := 0) (j := 0) (by decide +kernel) rfl rfl ?_
  refine ab_getI (pc := 9) fl_X12_70_12 (by decide +kernel) (fun v3 ev3 => ?_)
  refine ab_icmp_ge (off := 19) (pc := 12) (tgt := 31) (by decide +kernel) (by decide) (fun g4 => ?_) (fun g4 => ?_)
  · refine ab_aload_n (pc := 15) (n := 0) (i := 0) (j := 0) (by decide +kernel) rfl rfl ?_
    refine ab_aload_n (pc := 16) (n := 0) (i := 0) (j := 0) (by decide +kernel) rfl rfl ?_
    refine ab_getI (pc := 17) fl_X12_67_12 (by decide +kernel) (fun v5 ev5 => ?_)
    refine ab_callVi (As := [.int v5]) (st := []) (pc := 20) lk_X12_73_12 rfl rfl rfl (by decide) (by decide) (Nat.le_of_ble_eq_true rfl) (by decide +kernel) (fun y9 e9 => okX12_letter hl e9) (fun v6 ev6 => ?_)
    refine ab_iload_n (pc := 23) (n := 1) (i := 1) (j := 1) (by decide +kernel) rfl rfl ?_
    refine ab_icmp_ne (off := 7) (pc := 24) (tgt := 31) (by decide +kernel) (by decide) (fun g7 => ?_) (fun g7 => ?_)
    · refine ab_iconst (pc := 27) (n := 1) (v := nI 1) (by decide +kernel) rfl ?_
      refine ab_goto (pc := 28) (off := 4) (tgt := 32) (by decide +kernel) (by decide) ?_
      exact ab_zret (pc := 32) (by decide +kernel) rfl ab_bl1 rfl (Nat.zero_le _) (Nat.zero_le _)
    · refine ab_iconst (pc := 31) (n := 0) (v := nI 0) (by decide +kernel) rfl ?_
      exact ab_zret (pc := 32) (by decide +kernel) rfl ab_bl0 rfl (Nat.zero_le _) (Nat.zero_le _)
  · refine ab_iconst (pc := 31) (n := 0) (v := nI 0) (by decide +kernel) rfl ?_
    exact ab_zret (pc := 32) (by decide +kernel) rfl ab_bl0 rfl (Nat.zero_le _) (Nat.zero_le _)
set_option maxRecDepth 100000 in
set_option maxHeartbeats 4000000 in
theorem okX12_isSign {l : Launch} (hl : l.stackTraces = false) {F : Nat} {x0 : Nat} {x1 : Int32} {h : ab_H} {y : (Int32 × ab_H)} (e : fX12_isSign F x0 x1 h = some y) : ab_Met l mX12_isSign [.ref x0, .int x1] h (.inl (some (.int y.1)), y.2) := ab_ofS (io := (fun y : (Int32 × ab_H) => ((.inl (some (.int y.1)), y.2) : ab_R × ab_H))) (x := y) hl (by decide) rfl (Nat.le_of_ble_eq_true rfl) (wX12_isSign hl F x0 x1 h) e
def mX12_isFigure : ab_M := (yX12_isFigure, cX12_isFigure, 1, (some .boolean), { frames := 2, cells := 0, slots := 0, locals := 41 })
theorem iX12_isFigure : ab_MI mX12_isFigure 0 := ⟨kw_1ec463fcd5, kw_30b3f7d7c6, by decide +kernel⟩
def fX12_isFigure (F : Nat) (x0 : Nat) (h : ab_H) : Option (Int32 × ab_H) := ab_ck (ab_io h x0 12 = true) (ab_bd (fX12_skip F x0 h) fun h1 => ab_bd (ab_fi h1 x0 12 11) fun v2 => ab_bd (ab_fi h1 x0 12 10) fun v3 => (if v2 < v3 then ab_bd (ab_fi h1 x0 12 11) fun v5 => ab_ck (ab_io h1 x0 12 = true) (ab_bd (fX12_letter x0 v5 h1) fun v6 => ab_bd (fX12_isIn v6 (nI 48) (nI 57) h1) fun v7 => (if v7 = 0 then some (nI 0, h1) else some (nI 1, h1))) else some (nI 0, h1)))
set_option maxRecDepth 100000 in
set_option maxHeartbeats 4000000 in
theorem wX12_isFigure {l : Launch} (hl : l.stackTraces = false) (F : Nat) (x0 : Nat) (h : ab_H) : ab_S l mX12_isFigure (fun y : (Int32 × ab_H) => ((.inl (some (.int y.1)), y.2) : ab_R × ab_H)) 0 0 (fX12_isFigure F x0 h) 0 [(0, .ref x0)] [] h := by
  unfold fX12_isFigure
  refine ab_aload_n (pc := 0) (n := 0) (i := 0) (j := 0) (by decide +kernel) rfl rfl ?_
  refine ab_callVw (As := []) (st := []) (pc := 1) lk_X12_77_12 rfl rfl rfl (by decide) (by decide) (Nat.le_of_ble_eq_true rfl) (by decide +kernel) (fun y9 e9 => okX12_skip hl (F := F) e9) (fun h1 eh1 => ?_)
  refine ab_aload_n (pc := 4) (n := 0) (i := 0) (j := 0) (by decide +kernel) rfl rfl ?_
  refine ab_getI (pc := 5) fl_X12_67_12 (by decide +kernel) (fun v2 ev2 => ?_)
  refine ab_aload_n (pc := 8) (n := 0) (i := 0) (j := 0) (by decide +kernel) rfl rfl ?_
  refine ab_getI (pc := 9) fl_X12_70_12 (by decide +kernel) (fun v3 ev3 => ?_)
  refine ab_icmp_ge (off := 25) (pc := 12) (tgt := 37) (by decide +kernel) (by decide) (fun g4 => ?_) (fun g4 => ?_)
  · refine ab_aload_n (pc := 15) (n := 0) (i := 0) (j := 0) (by decide +kernel) rfl rfl ?_
    refine ab_aload_n (pc := 16) (n := 0) (i := 0) (j := 0) (by decide +kernel) rfl rfl ?_
    refine ab_getI (pc := 17) fl_X12_67_12 (by decide +kernel) (fun v5 ev5 => ?_)
    refine ab_callVi (As := [.int v5]) (st := []) (pc := 20) lk_X12_73_12 rfl rfl rfl (by decide) (by decide) (Nat.le_of_ble_eq_true rfl) (by decide +kernel) (fun y9 e9 => okX12_letter hl e9) (fun v6 ev6 => ?_)
    refine ab_bipush (pc := 23) (n := 48) (v := nI 48) (by decide +kernel) (by decide) ?_
    refine ab_bipush (pc := 25) (n := 57) (v := nI 57) (by decide +kernel) (by decide) ?_
    refine ab_callSi (As := [.int v6, .int (nI 48), .int (nI 57)]) (st := []) (pc := 27) lk_X12_53 rfl rfl rfl (by decide) (by decide) (Nat.le_of_ble_eq_true rfl) (by decide +kernel) (fun y9 e9 => okX12_isIn hl e9) (fun v7 ev7 => ?_)
    refine ab_if_eq (off := 7) (pc := 30) (tgt := 37) (by decide +kernel) (by decide) (fun g8 => ?_) (fun g8 => ?_)
    · refine ab_iconst (pc := 37) (n := 0) (v := nI 0) (by decide +kernel) rfl ?_
      exact ab_zret (pc := 38) (by decide +kernel) rfl ab_bl0 rfl (Nat.zero_le _) (Nat.zero_le _)
    · refine ab_iconst (pc := 33) (n := 1) (v := nI 1) (by decide +kernel) rfl ?_
      refine ab_goto (pc := 34) (off := 4) (tgt := 38) (by decide +kernel) (by decide) ?_
      exact ab_zret (pc := 38) (by decide +kernel) rfl ab_bl1 rfl (Nat.zero_le _) (Nat.zero_le _)
  · refine ab_iconst (pc := 37) (n := 0) (v := nI 0) (by decide +kernel) rfl ?_
    exact ab_zret (pc := 38) (by decide +kernel) rfl ab_bl0 rfl (Nat.zero_le _) (Nat.zero_le _)
set_option maxRecDepth 100000 in
set_option maxHeartbeats 4000000 in
theorem okX12_isFigure {l : Launch} (hl : l.stackTraces = false) {F : Nat} {x0 : Nat} {h : ab_H} {y : (Int32 × ab_H)} (e : fX12_isFigure F x0 h = some y) : ab_Met l mX12_isFigure [.ref x0] h (.inl (some (.int y.1)), y.2) := ab_ofS (io := (fun y : (Int32 × ab_H) => ((.inl (some (.int y.1)), y.2) : ab_R × ab_H))) (x := y) hl (by decide) rfl (Nat.le_of_ble_eq_true rfl) (wX12_isFigure hl F x0 h) e
def mX12_wrong : ab_M := (yX12_wrong, cX12_wrong, 2, none, { frames := 0, cells := 0, slots := 0, locals := 0 })
theorem iX12_wrong : ab_MI mX12_wrong 1 := ⟨kw_2b35e14d73, kw_30b3f7d7c6, by decide +kernel⟩
def fX12_wrong (x0 : Nat) (x1 : Int32) (h : ab_H) : Option ab_H := ab_bd (ab_fi h x0 12 12) fun v1 => (if v1 = (-1 : Int32) then ab_bd (ab_fw h x0 12 12 (.int x1)) fun h3 => some h3 else some h)
set_option maxRecDepth 100000 in
set_option maxHeartbeats 4000000 in
theorem wX12_wrong {l : Launch} (hl : l.stackTraces = false) (x0 : Nat) (x1 : Int32) (h : ab_H) : ab_S l mX12_wrong (fun y : ab_H => ((.inl none, y) : ab_R × ab_H)) 0 0 (fX12_wrong x0 x1 h) 0 [(0, .ref x0), (1, .int x1)] [] h := by
  unfold fX12_wrong
  refine ab_aload_n (pc := 0) (n := 0) (i := 0) (j := 0) (by decide +kernel) rfl rfl ?_
  refine ab_getI (pc := 1) fl_X12_25_12 (by decide +kernel) (fun v1 ev1 => ?_)
  refine ab_iconst (pc := 4) (n := -1) (v := (-1 : Int32)) (by decide +kernel) rfl ?_
  refine ab_icmp_ne (off := 8) (pc := 5) (tgt := 13) (by decide +kernel) (by decide) (fun g2 => ?_) (fun g2 => ?_)
  · refine ab_aload_n (pc := 8) (n := 0) (i := 0) (j := 0) (by decide +kernel) rfl rfl ?_
    refine ab_iload_n (pc := 9) (n := 1) (i := 1) (j := 1) (by decide +kernel) rfl rfl ?_
    refine ab_put (pc := 10) fl_X12_25_12 rfl (fun _ => rfl) (fun _ => rfl) (by decide +kernel) (fun h3 eh3 => ?_)
    exact ab_vret (pc := 13) (by decide +kernel) rfl rfl (Nat.zero_le _) (Nat.zero_le _)
  · exact ab_vret (pc := 13) (by decide +kernel) rfl rfl (Nat.zero_le _) (Nat.zero_le _)
set_option maxRecDepth 100000 in
set_option maxHeartbeats 4000000 in
theorem okX12_wrong {l : Launch} (hl : l.stackTraces = false) {x0 : Nat} {x1 : Int32} {h : ab_H} {y : ab_H} (e : fX12_wrong x0 x1 h = some y) : ab_Met l mX12_wrong [.ref x0, .int x1] h (.inl none, y) := ab_ofS (io := (fun y : ab_H => ((.inl none, y) : ab_R × ab_H))) (x := y) hl (by decide) rfl (Nat.le_of_ble_eq_true rfl) (wX12_wrong hl x0 x1 h) e
def mX12_place : ab_M := (yX12_place, cX12_place, 1, (some .int), { frames := 2, cells := 0, slots := 0, locals := 41 })
theorem iX12_place : ab_MI mX12_place 0 := ⟨kw_039d341fa6, kw_30b3f7d7c6, by decide +kernel⟩
def fX12_place (F : Nat) (x0 : Nat) (h : ab_H) : Option (Int32 × ab_H) := ab_ck (ab_io h x0 12 = true) (ab_bd (fX12_skip F x0 h) fun h1 => ab_bd (ab_fi h1 x0 12 11) fun v2 => some (v2, h1))
set_option maxRecDepth 100000 in
set_option maxHeartbeats 4000000 in
theorem wX12_place {l : Launch} (hl : l.stackTraces = false) (F : Nat) (x0 : Nat) (h : ab_H) : ab_S l mX12_place (fun y : (Int32 × ab_H) => ((.inl (some (.int y.1)), y.2) : ab_R × ab_H)) 0 0 (fX12_place F x0 h) 0 [(0, .ref x0)] [] h := by
  unfold fX12_place
  refine ab_aload_n (pc := 0) (n := 0) (i := 0) (j := 0) (by decide +kernel) rfl rfl ?_
  refine ab_callVw (As := []) (st := []) (pc := 1) lk_X12_77_12 rfl rfl rfl (by decide) (by decide) (Nat.le_of_ble_eq_true rfl) (by decide +kernel) (fun y9 e9 => okX12_skip hl (F := F) e9) (fun h1 eh1 => ?_)
  refine ab_aload_n (pc := 4) (n := 0) (i := 0) (j := 0) (by decide +kernel) rfl rfl ?_
  refine ab_getI (pc := 5) fl_X12_67_12 (by decide +kernel) (fun v2 ev2 => ?_)
  exact ab_iret (pc := 8) (by decide +kernel) rfl rfl (Nat.zero_le _) (Nat.zero_le _)
set_option maxRecDepth 100000 in
set_option maxHeartbeats 4000000 in
theorem okX12_place {l : Launch} (hl : l.stackTraces = false) {F : Nat} {x0 : Nat} {h : ab_H} {y : (Int32 × ab_H)} (e : fX12_place F x0 h = some y) : ab_Met l mX12_place [.ref x0] h (.inl (some (.int y.1)), y.2) := ab_ofS (io := (fun y : (Int32 × ab_H) => ((.inl (some (.int y.1)), y.2) : ab_R × ab_H))) (x := y) hl (by decide) rfl (Nat.le_of_ble_eq_true rfl) (wX12_place hl F x0 h) e
def mX12_figures : ab_M := (yX12_figures, cX12_figures, 5, (some .int), { frames := 3, cells := 0, slots := 0, locals := 61 })
theorem iX12_figures : ab_MI mX12_figures 2 := ⟨kw_750ee8150b, kw_30b3f7d7c6, by decide +kernel⟩
theorem lk_X12_90_12 : ab_LV RX12 90 12 mX12_place 0 := ⟨RX12, rfl, iX12_place, kw_c6207ff7ee, kw_ab2d5b979e, kw_1139187b65⟩
theorem lk_X12_93_12 : ab_LV RX12 93 12 mX12_wrong 1 := ⟨RX12, rfl, iX12_wrong, kw_e2cd1ea8ed, kw_44b151cf55, kw_4c04c20346⟩
def fX12_figures_18 (F : Nat) (x0 : Nat) (x1 : Int32) (x2 : Int32) (x3 : Int32) (k89 : Int32 → ab_H → Option (Int32 × ab_H)) : Nat → Int32 → ab_H → Option (Int32 × ab_H)
  | 0, _, _ => none
  | n + 1, x4, h => ab_bd (ab_fi h x0 12 11) fun v4 => ab_bd (ab_fi h x0 12 10) fun v5 => (if v4 < v5 then ab_bd (ab_fi h x0 12 11) fun v7 => ab_ck (ab_io h x0 12 = true) (ab_bd (fX12_letter x0 v7 h) fun v8 => ab_bd (fX12_isIn v8 (nI 48) (nI 57) h) fun v9 => (if v9 = 0 then k89 x4 h else ab_bd (ab_fi h x0 12 11) fun v11 => (if (v11 - x3) ≤ (nI 3) then ab_bd (ab_fi h x0 12 11) fun v13 => ab_ck (ab_io h x0 12 = true) (ab_bd (fX12_letter x0 v13 h) fun v14 => ab_bd (ab_fi h x0 12 11) fun v15 => ab_bd (ab_fw h x0 12 11 (.int (v15 + (nI 1)))) fun h16 => fX12_figures_18 F x0 x1 x2 x3 k89 n ((((nI 10) * x4) + v14) - (nI 48)) h16) else k89 x4 h))) else k89 x4 h)
def fX12_figures (F : Nat) (x0 : Nat) (x1 : Int32) (x2 : Int32) (h : ab_H) : Option (Int32 × ab_H) := ab_bd (ab_fi h x0 12 12) fun v1 => (if v1 = (-1 : Int32) then ab_ck (ab_io h x0 12 = true) (ab_bd (fX12_place F x0 h) fun v3 => fX12_figures_18 F x0 x1 x2 v3.1 (fun (z17 : Int32) (h18 : ab_H) => ab_bd (ab_fi h18 x0 12 11) fun v19 => ab_jn (κ := Option (Int32 × ab_H)) (ab_ck (ab_io h18 x0 12 = true) (ab_bd (fX12_wrong x0 v3.1 h18) fun h20 => some (z17, h20))) fun j21 => (if v19 = v3.1 then j21 else ab_bd (ab_fi h18 x0 12 11) fun v23 => (if (v23 - v3.1) ≤ (nI 3) then (if z17 < x1 then j21 else (if z17 ≤ x2 then some (z17, h18) else j21)) else j21))) F (nI 0) v3.2) else some (nI 0, h))
set_option maxRecDepth 100000 in
set_option maxHeartbeats 4000000 in
theorem lX12_figures_18 {l : Launch} (hl : l.stackTraces = false) (F : Nat) (x0 : Nat) (x1 : Int32) (x2 : Int32) (x3 : Int32) {k89 : Int32 → ab_H → Option (Int32 × ab_H)} (hk89 : ∀ (x4 : Int32), ∀ (h : ab_H), ab_S l mX12_figures (fun y : (Int32 × ab_H) => ((.inl (some (.int y.1)), y.2) : ab_R × ab_H)) 0 0 (k89 x4 h) 89 [(0, .ref x0), (1, .int x1), (2, .int x2), (3, .int x3), (4, .int x4)] [] h) : ∀ (n : Nat) (x4 : Int32) (h : ab_H), ab_S l mX12_figures (fun y : (Int32 × ab_H) => ((.inl (some (.int y.1)), y.2) : ab_R × ab_H)) 0 0 (fX12_figures_18 F x0 x1 x2 x3 k89 n x4 h) 18 [(0, .ref x0), (1, .int x1), (2, .int x2), (3, .int x3), (4, .int x4)] [] h := by
  intro n
  induction n with
  | zero =>
    intro x4 h
    exact ab_none
  | succ n ih =>
    intro x4 h
    rw [fX12_figures_18]
    refine ab_aload_n (pc := 18) (n := 0) (i := 0) (j := 0) (by decide +kernel) rfl rfl ?_
    refine ab_getI (pc := 19) fl_X12_67_12 (by decide +kernel) (fun v4 ev4 => ?_)
    refine ab_aload_n (pc := 22) (n := 0) (i := 0) (j := 0) (by decide +kernel) rfl rfl ?_
    refine ab_getI (pc := 23) fl_X12_70_12 (by decide +kernel) (fun v5 ev5 => ?_)
    refine ab_icmp_ge (off := 63) (pc := 26) (tgt := 89) (by decide +kernel) (by decide) (fun g6 => ?_) (fun g6 => ?_)
    · refine ab_aload_n (pc := 29) (n := 0) (i := 0) (j := 0) (by decide +kernel) rfl rfl ?_
      refine ab_aload_n (pc := 30) (n := 0) (i := 0) (j := 0) (by decide +kernel) rfl rfl ?_
      refine ab_getI (pc := 31) fl_X12_67_12 (by decide +kernel) (fun v7 ev7 => ?_)
      refine ab_callVi (As := [.int v7]) (st := []) (pc := 34) lk_X12_73_12 rfl rfl rfl (by decide) (by decide) (Nat.le_of_ble_eq_true rfl) (by decide +kernel) (fun y9 e9 => okX12_letter hl e9) (fun v8 ev8 => ?_)
      refine ab_bipush (pc := 37) (n := 48) (v := nI 48) (by decide +kernel) (by decide) ?_
      refine ab_bipush (pc := 39) (n := 57) (v := nI 57) (by decide +kernel) (by decide) ?_
      refine ab_callSi (As := [.int v8, .int (nI 48), .int (nI 57)]) (st := []) (pc := 41) lk_X12_53 rfl rfl rfl (by decide) (by decide) (Nat.le_of_ble_eq_true rfl) (by decide +kernel) (fun y9 e9 => okX12_isIn hl e9) (fun v9 ev9 => ?_)
      refine ab_if_eq (off := 45) (pc := 44) (tgt := 89) (by decide +kernel) (by decide) (fun g10 => ?_) (fun g10 => ?_)
      · exact hk89 x4 h
      · refine ab_aload_n (pc := 47) (n := 0) (i := 0) (j := 0) (by decide +kernel) rfl rfl ?_
        refine ab_getI (pc := 48) fl_X12_67_12 (by decide +kernel) (fun v11 ev11 => ?_)
        refine ab_iload_n (pc := 51) (n := 3) (i := 3) (j := 3) (by decide +kernel) rfl rfl ?_
        refine ab_isub (pc := 52) (by decide +kernel) ?_
        refine ab_iconst (pc := 53) (n := 3) (v := nI 3) (by decide +kernel) rfl ?_
        refine ab_icmp_gt (off := 35) (pc := 54) (tgt := 89) (by decide +kernel) (by decide) (fun g12 => ?_) (fun g12 => ?_)
        · refine ab_bipush (pc := 57) (n := 10) (v := nI 10) (by decide +kernel) (by decide) ?_
          refine ab_iload (pc := 59) (i := 4) (j := 4) (by decide +kernel) rfl ?_
          refine ab_imul (pc := 61) (by decide +kernel) ?_
          refine ab_aload_n (pc := 62) (n := 0) (i := 0) (j := 0) (by decide +kernel) rfl rfl ?_
          refine ab_aload_n (pc := 63) (n := 0) (i := 0) (j := 0) (by decide +kernel) rfl rfl ?_
          refine ab_getI (pc := 64) fl_X12_67_12 (by decide +kernel) (fun v13 ev13 => ?_)
          refine ab_callVi (As := [.int v13]) (st := [.int ((nI 10) * x4)]) (pc := 67) lk_X12_73_12 rfl rfl rfl (by decide) (by decide) (Nat.le_of_ble_eq_true rfl) (by decide +kernel) (fun y9 e9 => okX12_letter hl e9) (fun v14 ev14 => ?_)
          refine ab_iadd (pc := 70) (by decide +kernel) ?_
          refine ab_bipush (pc := 71) (n := 48) (v := nI 48) (by decide +kernel) (by decide) ?_
          refine ab_isub (pc := 73) (by decide +kernel) ?_
          refine ab_istore (pc := 74) (i := 4) (lv' := [(0, .ref x0), (1, .int x1), (2, .int x2), (3, .int x3), (4, .int ((((nI 10) * x4) + v14) - (nI 48)))]) (by decide +kernel) (by decide) rfl rfl ?_
          refine ab_aload_n (pc := 76) (n := 0) (i := 0) (j := 0) (by decide +kernel) rfl rfl ?_
          refine ab_dup (pc := 77) (by decide +kernel) rfl ?_
          refine ab_getI (pc := 78) fl_X12_67_12 (by decide +kernel) (fun v15 ev15 => ?_)
          refine ab_iconst (pc := 81) (n := 1) (v := nI 1) (by decide +kernel) rfl ?_
          refine ab_iadd (pc := 82) (by decide +kernel) ?_
          refine ab_put (pc := 83) fl_X12_67_12 rfl (fun _ => rfl) (fun _ => rfl) (by decide +kernel) (fun h16 eh16 => ?_)
          refine ab_goto (pc := 86) (off := (-68)) (tgt := 18) (by decide +kernel) (by decide) ?_
          exact ih ((((nI 10) * x4) + v14) - (nI 48)) h16
        · exact hk89 x4 h
    · exact hk89 x4 h
set_option maxRecDepth 100000 in
set_option maxHeartbeats 4000000 in
theorem wX12_figures {l : Launch} (hl : l.stackTraces = false) (F : Nat) (x0 : Nat) (x1 : Int32) (x2 : Int32) (h : ab_H) : ab_S l mX12_figures (fun y : (Int32 × ab_H) => ((.inl (some (.int y.1)), y.2) : ab_R × ab_H)) 0 0 (fX12_figures F x0 x1 x2 h) 0 [(0, .ref x0), (1, .int x1), (2, .int x2)] [] h := by
  unfold fX12_figures
  refine ab_aload_n (pc := 0) (n := 0) (i := 0) (j := 0) (by decide +kernel) rfl rfl ?_
  refine ab_getI (pc := 1) fl_X12_25_12 (by decide +kernel) (fun v1 ev1 => ?_)
  refine ab_iconst (pc := 4) (n := -1) (v := (-1 : Int32)) (by decide +kernel) rfl ?_
  refine ab_icmp_eq (off := 5) (pc := 5) (tgt := 10) (by decide +kernel) (by decide) (fun g2 => ?_) (fun g2 => ?_)
  · refine ab_aload_n (pc := 10) (n := 0) (i := 0) (j := 0) (by decide +kernel) rfl rfl ?_
    refine ab_callVj (As := []) (st := []) (pc := 11) lk_X12_90_12 rfl rfl rfl (by decide) (by decide) (Nat.le_of_ble_eq_true rfl) (by decide +kernel) (fun y9 e9 => okX12_place hl (F := F) e9) (fun v3 ev3 => ?_)
    refine ab_istore_n (pc := 14) (n := 3) (i := 3) (lv' := [(0, .ref x0), (1, .int x1), (2, .int x2), (3, .int v3.1)]) (by decide +kernel) rfl (by decide) rfl rfl ?_
    refine ab_iconst (pc := 15) (n := 0) (v := nI 0) (by decide +kernel) rfl ?_
    refine ab_istore (pc := 16) (i := 4) (lv' := [(0, .ref x0), (1, .int x1), (2, .int x2), (3, .int v3.1), (4, .int (nI 0))]) (by decide +kernel) (by decide) rfl rfl ?_
    refine lX12_figures_18 hl F x0 x1 x2 v3.1 ?_ F (nI 0) v3.2
    intro z17 h18
    refine ab_aload_n (pc := 89) (n := 0) (i := 0) (j := 0) (by decide +kernel) rfl rfl ?_
    refine ab_getI (pc := 90) fl_X12_67_12 (by decide +kernel) (fun v19 ev19 => ?_)
    refine ab_iload_n (pc := 93) (n := 3) (i := 3) (j := 3) (by decide +kernel) rfl rfl ?_
    refine ab_jr (fun k9 : Option (Int32 × ab_H) => ab_S l mX12_figures (fun y : (Int32 × ab_H) => ((.inl (some (.int y.1)), y.2) : ab_R × ab_H)) 0 0 (k9) 119 [(0, .ref x0), (3, .int v3.1), (4, .int z17)] [] h18) ?_ (fun j21 hj21 => ?_)
    · refine ab_aload_n (pc := 119) (n := 0) (i := 0) (j := 0) (by decide +kernel) rfl rfl ?_
      refine ab_iload_n (pc := 120) (n := 3) (i := 3) (j := 1) (by decide +kernel) rfl rfl ?_
      refine ab_callVw (As := [.int v3.1]) (st := []) (pc := 121) lk_X12_93_12 rfl rfl rfl (by decide) (by decide) (Nat.le_of_ble_eq_true rfl) (by decide +kernel) (fun y9 e9 => okX12_wrong hl e9) (fun h20 eh20 => ?_)
      refine ab_iload (pc := 124) (i := 4) (j := 2) (by decide +kernel) rfl ?_
      exact ab_iret (pc := 126) (by decide +kernel) rfl rfl (Nat.zero_le _) (Nat.zero_le _)
    · refine ab_icmp_eq (off := 25) (pc := 94) (tgt := 119) (by decide +kernel) (by decide) (fun g22 => ?_) (fun g22 => ?_)
      · refine ab_few [0, 3, 4] (lv' := [(0, .ref x0), (3, .int v3.1), (4, .int z17)]) rfl ?_
        exact hj21
      · refine ab_aload_n (pc := 97) (n := 0) (i := 0) (j := 0) (by decide +kernel) rfl rfl ?_
        refine ab_getI (pc := 98) fl_X12_67_12 (by decide +kernel) (fun v23 ev23 => ?_)
        refine ab_iload_n (pc := 101) (n := 3) (i := 3) (j := 3) (by decide +kernel) rfl rfl ?_
        refine ab_isub (pc := 102) (by decide +kernel) ?_
        refine ab_iconst (pc := 103) (n := 3) (v := nI 3) (by decide +kernel) rfl ?_
        refine ab_icmp_gt (off := 15) (pc := 104) (tgt := 119) (by decide +kernel) (by decide) (fun g24 => ?_) (fun g24 => ?_)
        · refine ab_iload (pc := 107) (i := 4) (j := 4) (by decide +kernel) rfl ?_
          refine ab_iload_n (pc := 109) (n := 1) (i := 1) (j := 1) (by decide +kernel) rfl rfl ?_
          refine ab_icmp_lt (off := 9) (pc := 110) (tgt := 119) (by decide +kernel) (by decide) (fun g25 => ?_) (fun g25 => ?_)
          · refine ab_few [0, 3, 4] (lv' := [(0, .ref x0), (3, .int v3.1), (4, .int z17)]) rfl ?_
            exact hj21
          · refine ab_iload (pc := 113) (i := 4) (j := 4) (by decide +kernel) rfl ?_
            refine ab_iload_n (pc := 115) (n := 2) (i := 2) (j := 2) (by decide +kernel) rfl rfl ?_
            refine ab_icmp_le (off := 8) (pc := 116) (tgt := 124) (by decide +kernel) (by decide) (fun g26 => ?_) (fun g26 => ?_)
            · refine ab_iload (pc := 124) (i := 4) (j := 4) (by decide +kernel) rfl ?_
              exact ab_iret (pc := 126) (by decide +kernel) rfl rfl (Nat.zero_le _) (Nat.zero_le _)
            · refine ab_few [0, 3, 4] (lv' := [(0, .ref x0), (3, .int v3.1), (4, .int z17)]) rfl ?_
              exact hj21
        · refine ab_few [0, 3, 4] (lv' := [(0, .ref x0), (3, .int v3.1), (4, .int z17)]) rfl ?_
          exact hj21
  · refine ab_iconst (pc := 8) (n := 0) (v := nI 0) (by decide +kernel) rfl ?_
    exact ab_iret (pc := 9) (by decide +kernel) rfl rfl (Nat.zero_le _) (Nat.zero_le _)
set_option maxRecDepth 100000 in
set_option maxHeartbeats 4000000 in
theorem okX12_figures {l : Launch} (hl : l.stackTraces = false) {F : Nat} {x0 : Nat} {x1 : Int32} {x2 : Int32} {h : ab_H} {y : (Int32 × ab_H)} (e : fX12_figures F x0 x1 x2 h = some y) : ab_Met l mX12_figures [.ref x0, .int x1, .int x2] h (.inl (some (.int y.1)), y.2) := ab_ofS (io := (fun y : (Int32 × ab_H) => ((.inl (some (.int y.1)), y.2) : ab_R × ab_H))) (x := y) hl (by decide) rfl (Nat.le_of_ble_eq_true rfl) (wX12_figures hl F x0 x1 x2 h) e
def mX12_eight : ab_M := (yX12_eight, cX12_eight, 5, (some .int), { frames := 3, cells := 0, slots := 0, locals := 61 })
theorem iX12_eight : ab_MI mX12_eight 0 := ⟨kw_1a0c62aaf6, kw_30b3f7d7c6, by decide +kernel⟩
def fX12_eight_22 (F : Nat) (x0 : Nat) (x1 : Int32) (k122 : Int32 → Int32 → Int32 → ab_H → Option (Int32 × ab_H)) : Nat → Int32 → Int32 → Int32 → ab_H → Option (Int32 × ab_H)
  | 0, _, _, _, _ => none
  | n + 1, x2, x3, x4, h => ab_bd (ab_fi h x0 12 11) fun v4 => ab_bd (ab_fi h x0 12 10) fun v5 => (if v4 < v5 then ab_bd (ab_fi h x0 12 11) fun v7 => ab_ck (ab_io h x0 12 = true) (ab_bd (fX12_letter x0 v7 h) fun v8 => ab_bd (fX12_isIn v8 (nI 48) (nI 57) h) fun v9 => (if v9 = 0 then k122 x2 x3 x4 h else ab_jn (κ := Int32 → Option (Int32 × ab_H)) (fun (z11 : Int32) => ab_jn (κ := Int32 → Option (Int32 × ab_H)) (fun (z12 : Int32) => ab_bd (ab_fi h x0 12 11) fun v13 => ab_bd (ab_fw h x0 12 11 (.int (v13 + (nI 1)))) fun h14 => fX12_eight_22 F x0 x1 k122 n z12 (x3 + nI 1) z11 h14) fun j15 => (if z11 = 0 then j15 x2 else ab_bd (ab_fi h x0 12 11) fun v17 => ab_ck (ab_io h x0 12 = true) (ab_bd (fX12_letter x0 v17 h) fun v18 => (if v18 = (nI 49) then j15 (x2 ||| ((nI 1) <<< (x3 &&& 31))) else j15 x2)))) fun j20 => ab_jn (κ := Option (Int32 × ab_H)) (j20 (nI 0)) fun j21 => (if x4 = 0 then j21 else ab_bd (ab_fi h x0 12 11) fun v23 => ab_ck (ab_io h x0 12 = true) (ab_bd (fX12_letter x0 v23 h) fun v24 => (if v24 ≤ (nI 49) then (if x3 < (nI 8) then j20 (nI 1) else j21) else j21))))) else k122 x2 x3 x4 h)
def fX12_eight (F : Nat) (x0 : Nat) (h : ab_H) : Option (Int32 × ab_H) := ab_bd (ab_fi h x0 12 12) fun v1 => (if v1 = (-1 : Int32) then ab_ck (ab_io h x0 12 = true) (ab_bd (fX12_place F x0 h) fun v3 => fX12_eight_22 F x0 v3.1 (fun (z27 : Int32) (z28 : Int32) (z29 : Int32) (h30 : ab_H) => ab_jn (κ := Option (Int32 × ab_H)) (ab_ck (ab_io h30 x0 12 = true) (ab_bd (fX12_wrong x0 v3.1 h30) fun h31 => some (z27, h31))) fun j32 => (if z29 = 0 then j32 else (if z28 = (nI 8) then some (z27, h30) else j32))) F (nI 0) (nI 0) (nI 1) v3.2) else some (nI 0, h))
set_option maxRecDepth 100000 in
set_option maxHeartbeats 4000000 in
theorem lX12_eight_22 {l : Launch} (hl : l.stackTraces = false) (F : Nat) (x0 : Nat) (x1 : Int32) {k122 : Int32 → Int32 → Int32 → ab_H → Option (Int32 × ab_H)} (hk122 : ∀ (x2 : Int32), ∀ (x3 : Int32), ∀ (x4 : Int32), ∀ (h : ab_H), ab_S l mX12_eight (fun y : (Int32 × ab_H) => ((.inl (some (.int y.1)), y.2) : ab_R × ab_H)) 0 0 (k122 x2 x3 x4 h) 122 [(0, .ref x0), (1, .int x1), (2, .int x2), (3, .int x3), (4, .int x4)] [] h) : ∀ (n : Nat) (x2 : Int32) (x3 : Int32) (x4 : Int32) (h : ab_H), ab_S l mX12_eight (fun y : (Int32 × ab_H) => ((.inl (some (.int y.1)), y.2) : ab_R × ab_H)) 0 0 (fX12_eight_22 F x0 x1 k122 n x2 x3 x4 h) 22 [(0, .ref x0), (1, .int x1), (2, .int x2), (3, .int x3), (4, .int x4)] [] h := by
  intro n
  induction n with
  | zero =>
    intro x2 x3 x4 h
    exact ab_none
  | succ n ih =>
    intro x2 x3 x4 h
    rw [fX12_eight_22]
    refine ab_aload_n (pc := 22) (n := 0) (i := 0) (j := 0) (by decide +kernel) rfl rfl ?_
    refine ab_getI (pc := 23) fl_X12_67_12 (by decide +kernel) (fun v4 ev4 => ?_)
    refine ab_aload_n (pc := 26) (n := 0) (i := 0) (j := 0) (by decide +kernel) rfl rfl ?_
    refine ab_getI (pc := 27) fl_X12_70_12 (by decide +kernel) (fun v5 ev5 => ?_)
    refine ab_icmp_ge (off := 92) (pc := 30) (tgt := 122) (by decide +kernel) (by decide) (fun g6 => ?_) (fun g6 => ?_)
    · refine ab_aload_n (pc := 33) (n := 0) (i := 0) (j := 0) (by decide +kernel) rfl rfl ?_
      refine ab_aload_n (pc := 34) (n := 0) (i := 0) (j := 0) (by decide +kernel) rfl rfl ?_
      refine ab_getI (pc := 35) fl_X12_67_12 (by decide +kernel) (fun v7 ev7 => ?_)
      refine ab_callVi (As := [.int v7]) (st := []) (pc := 38) lk_X12_73_12 rfl rfl rfl (by decide) (by decide) (Nat.le_of_ble_eq_true rfl) (by decide +kernel) (fun y9 e9 => okX12_letter hl e9) (fun v8 ev8 => ?_)
      refine ab_bipush (pc := 41) (n := 48) (v := nI 48) (by decide +kernel) (by decide) ?_
      refine ab_bipush (pc := 43) (n := 57) (v := nI 57) (by decide +kernel) (by decide) ?_
      refine ab_callSi (As := [.int v8, .int (nI 48), .int (nI 57)]) (st := []) (pc := 45) lk_X12_53 rfl rfl rfl (by decide) (by decide) (Nat.le_of_ble_eq_true rfl) (by decide +kernel) (fun y9 e9 => okX12_isIn hl e9) (fun v9 ev9 => ?_)
      refine ab_if_eq (off := 74) (pc := 48) (tgt := 122) (by decide +kernel) (by decide) (fun g10 => ?_) (fun g10 => ?_)
      · exact hk122 x2 x3 x4 h
      · refine ab_iload (pc := 51) (i := 4) (j := 4) (by decide +kernel) rfl ?_
        refine ab_jr (fun k9 : Int32 → Option (Int32 × ab_H) => ∀ (z11 : Int32), ab_S l mX12_eight (fun y : (Int32 × ab_H) => ((.inl (some (.int y.1)), y.2) : ab_R × ab_H)) 0 0 (k9 z11) 80 [(0, .ref x0), (1, .int x1), (2, .int x2), (3, .int x3)] [.int z11] h) ?_ (fun j20 hj20 => ?_)
        · intro z11
          refine ab_istore (pc := 80) (i := 4) (lv' := [(0, .ref x0), (1, .int x1), (2, .int x2), (3, .int x3), (4, .int z11)]) (by decide +kernel) (by decide) rfl rfl ?_
          refine ab_iload (pc := 82) (i := 4) (j := 4) (by decide +kernel) rfl ?_
          refine ab_jr (fun k9 : Int32 → Option (Int32 × ab_H) => ∀ (z12 : Int32), ab_S l mX12_eight (fun y : (Int32 × ab_H) => ((.inl (some (.int y.1)), y.2) : ab_R × ab_H)) 0 0 (k9 z12) 106 [(0, .ref x0), (1, .int x1), (2, .int z12), (3, .int x3), (4, .int z11)] [] h) ?_ (fun j15 hj15 => ?_)
          · intro z12
            refine ab_iinc (pc := 106) (i := 3) (n := 1) (j := 3) (d := nI 1) (lv' := [(0, .ref x0), (1, .int x1), (2, .int z12), (3, .int (x3 + nI 1)), (4, .int z11)]) (by decide +kernel) rfl rfl (by decide) rfl rfl ?_
            refine ab_aload_n (pc := 109) (n := 0) (i := 0) (j := 0) (by decide +kernel) rfl rfl ?_
            refine ab_dup (pc := 110) (by decide +kernel) rfl ?_
            refine ab_getI (pc := 111) fl_X12_67_12 (by decide +kernel) (fun v13 ev13 => ?_)
            refine ab_iconst (pc := 114) (n := 1) (v := nI 1) (by decide +kernel) rfl ?_
            refine ab_iadd (pc := 115) (by decide +kernel) ?_
            refine ab_put (pc := 116) fl_X12_67_12 rfl (fun _ => rfl) (fun _ => rfl) (by decide +kernel) (fun h14 eh14 => ?_)
            refine ab_goto (pc := 119) (off := (-97)) (tgt := 22) (by decide +kernel) (by decide) ?_
            exact ih z12 (x3 + nI 1) z11 h14
          · refine ab_if_eq (off := 22) (pc := 84) (tgt := 106) (by decide +kernel) (by decide) (fun g16 => ?_) (fun g16 => ?_)
            · exact hj15 x2
            · refine ab_aload_n (pc := 87) (n := 0) (i := 0) (j := 0) (by decide +kernel) rfl rfl ?_
              refine ab_aload_n (pc := 88) (n := 0) (i := 0) (j := 0) (by decide +kernel) rfl rfl ?_
              refine ab_getI (pc := 89) fl_X12_67_12 (by decide +kernel) (fun v17 ev17 => ?_)
              refine ab_callVi (As := [.int v17]) (st := []) (pc := 92) lk_X12_73_12 rfl rfl rfl (by decide) (by decide) (Nat.le_of_ble_eq_true rfl) (by decide +kernel) (fun y9 e9 => okX12_letter hl e9) (fun v18 ev18 => ?_)
              refine ab_bipush (pc := 95) (n := 49) (v := nI 49) (by decide +kernel) (by decide) ?_
              refine ab_icmp_ne (off := 9) (pc := 97) (tgt := 106) (by decide +kernel) (by decide) (fun g19 => ?_) (fun g19 => ?_)
              · refine ab_iload_n (pc := 100) (n := 2) (i := 2) (j := 2) (by decide +kernel) rfl rfl ?_
                refine ab_iconst (pc := 101) (n := 1) (v := nI 1) (by decide +kernel) rfl ?_
                refine ab_iload_n (pc := 102) (n := 3) (i := 3) (j := 3) (by decide +kernel) rfl rfl ?_
                refine ab_ishl (pc := 103) (by decide +kernel) ?_
                refine ab_ior (pc := 104) (by decide +kernel) ?_
                refine ab_istore_n (pc := 105) (n := 2) (i := 2) (lv' := [(0, .ref x0), (1, .int x1), (2, .int (x2 ||| ((nI 1) <<< (x3 &&& 31)))), (3, .int x3), (4, .int z11)]) (by decide +kernel) rfl (by decide) rfl rfl ?_
                exact hj15 (x2 ||| ((nI 1) <<< (x3 &&& 31)))
              · exact hj15 x2
        · refine ab_jr (fun k9 : Option (Int32 × ab_H) => ab_S l mX12_eight (fun y : (Int32 × ab_H) => ((.inl (some (.int y.1)), y.2) : ab_R × ab_H)) 0 0 (k9) 79 [(0, .ref x0), (1, .int x1), (2, .int x2), (3, .int x3)] [] h) ?_ (fun j21 hj21 => ?_)
          · refine ab_iconst (pc := 79) (n := 0) (v := nI 0) (by decide +kernel) rfl ?_
            exact hj20 (nI 0)
          · refine ab_if_eq (off := 26) (pc := 53) (tgt := 79) (by decide +kernel) (by decide) (fun g22 => ?_) (fun g22 => ?_)
            · refine ab_few [0, 1, 2, 3] (lv' := [(0, .ref x0), (1, .int x1), (2, .int x2), (3, .int x3)]) rfl ?_
              exact hj21
            · refine ab_aload_n (pc := 56) (n := 0) (i := 0) (j := 0) (by decide +kernel) rfl rfl ?_
              refine ab_aload_n (pc := 57) (n := 0) (i := 0) (j := 0) (by decide +kernel) rfl rfl ?_
              refine ab_getI (pc := 58) fl_X12_67_12 (by decide +kernel) (fun v23 ev23 => ?_)
              refine ab_callVi (As := [.int v23]) (st := []) (pc := 61) lk_X12_73_12 rfl rfl rfl (by decide) (by decide) (Nat.le_of_ble_eq_true rfl) (by decide +kernel) (fun y9 e9 => okX12_letter hl e9) (fun v24 ev24 => ?_)
              refine ab_bipush (pc := 64) (n := 49) (v := nI 49) (by decide +kernel) (by decide) ?_
              refine ab_icmp_gt (off := 13) (pc := 66) (tgt := 79) (by decide +kernel) (by decide) (fun g25 => ?_) (fun g25 => ?_)
              · refine ab_iload_n (pc := 69) (n := 3) (i := 3) (j := 3) (by decide +kernel) rfl rfl ?_
                refine ab_bipush (pc := 70) (n := 8) (v := nI 8) (by decide +kernel) (by decide) ?_
                refine ab_icmp_ge (off := 7) (pc := 72) (tgt := 79) (by decide +kernel) (by decide) (fun g26 => ?_) (fun g26 => ?_)
                · refine ab_iconst (pc := 75) (n := 1) (v := nI 1) (by decide +kernel) rfl ?_
                  refine ab_goto (pc := 76) (off := 4) (tgt := 80) (by decide +kernel) (by decide) ?_
                  refine ab_few [0, 1, 2, 3] (lv' := [(0, .ref x0), (1, .int x1), (2, .int x2), (3, .int x3)]) rfl ?_
                  exact hj20 (nI 1)
                · refine ab_few [0, 1, 2, 3] (lv' := [(0, .ref x0), (1, .int x1), (2, .int x2), (3, .int x3)]) rfl ?_
                  exact hj21
              · refine ab_few [0, 1, 2, 3] (lv' := [(0, .ref x0), (1, .int x1), (2, .int x2), (3, .int x3)]) rfl ?_
                exact hj21
    · exact hk122 x2 x3 x4 h
set_option maxRecDepth 100000 in
set_option maxHeartbeats 4000000 in
theorem wX12_eight {l : Launch} (hl : l.stackTraces = false) (F : Nat) (x0 : Nat) (h : ab_H) : ab_S l mX12_eight (fun y : (Int32 × ab_H) => ((.inl (some (.int y.1)), y.2) : ab_R × ab_H)) 0 0 (fX12_eight F x0 h) 0 [(0, .ref x0)] [] h := by
  unfold fX12_eight
  refine ab_aload_n (pc := 0) (n := 0) (i := 0) (j := 0) (by decide +kernel) rfl rfl ?_
  refine ab_getI (pc := 1) fl_X12_25_12 (by decide +kernel) (fun v1 ev1 => ?_)
  refine ab_iconst (pc := 4) (n := -1) (v := (-1 : Int32)) (by decide +kernel) rfl ?_
  refine ab_icmp_eq (off := 5) (pc := 5) (tgt := 10) (by decide +kernel) (by decide) (fun g2 => ?_) (fun g2 => ?_)
  · refine ab_aload_n (pc := 10) (n := 0) (i := 0) (j := 0) (by decide +kernel) rfl rfl ?_
    refine ab_callVj (As := []) (st := []) (pc := 11) lk_X12_90_12 rfl rfl rfl (by decide) (by decide) (Nat.le_of_ble_eq_true rfl) (by decide +kernel) (fun y9 e9 => okX12_place hl (F := F) e9) (fun v3 ev3 => ?_)
    refine ab_istore_n (pc := 14) (n := 1) (i := 1) (lv' := [(0, .ref x0), (1, .int v3.1)]) (by decide +kernel) rfl (by decide) rfl rfl ?_
    refine ab_iconst (pc := 15) (n := 0) (v := nI 0) (by decide +kernel) rfl ?_
    refine ab_istore_n (pc := 16) (n := 2) (i := 2) (lv' := [(0, .ref x0), (1, .int v3.1), (2, .int (nI 0))]) (by decide +kernel) rfl (by decide) rfl rfl ?_
    refine ab_iconst (pc := 17) (n := 0) (v := nI 0) (by decide +kernel) rfl ?_
    refine ab_istore_n (pc := 18) (n := 3) (i := 3) (lv' := [(0, .ref x0), (1, .int v3.1), (2, .int (nI 0)), (3, .int (nI 0))]) (by decide +kernel) rfl (by decide) rfl rfl ?_
    refine ab_iconst (pc := 19) (n := 1) (v := nI 1) (by decide +kernel) rfl ?_
    refine ab_istore (pc := 20) (i := 4) (lv' := [(0, .ref x0), (1, .int v3.1), (2, .int (nI 0)), (3, .int (nI 0)), (4, .int (nI 1))]) (by decide +kernel) (by decide) rfl rfl ?_
    refine lX12_eight_22 hl F x0 v3.1 ?_ F (nI 0) (nI 0) (nI 1) v3.2
    intro z27 z28 z29 h30
    refine ab_iload (pc := 122) (i := 4) (j := 4) (by decide +kernel) rfl ?_
    refine ab_jr (fun k9 : Option (Int32 × ab_H) => ab_S l mX12_eight (fun y : (Int32 × ab_H) => ((.inl (some (.int y.1)), y.2) : ab_R × ab_H)) 0 0 (k9) 133 [(0, .ref x0), (1, .int v3.1), (2, .int z27)] [] h30) ?_ (fun j32 hj32 => ?_)
    · refine ab_aload_n (pc := 133) (n := 0) (i := 0) (j := 0) (by decide +kernel) rfl rfl ?_
      refine ab_iload_n (pc := 134) (n := 1) (i := 1) (j := 1) (by decide +kernel) rfl rfl ?_
      refine ab_callVw (As := [.int v3.1]) (st := []) (pc := 135) lk_X12_93_12 rfl rfl rfl (by decide) (by decide) (Nat.le_of_ble_eq_true rfl) (by decide +kernel) (fun y9 e9 => okX12_wrong hl e9) (fun h31 eh31 => ?_)
      refine ab_iload_n (pc := 138) (n := 2) (i := 2) (j := 2) (by decide +kernel) rfl rfl ?_
      exact ab_iret (pc := 139) (by decide +kernel) rfl rfl (Nat.zero_le _) (Nat.zero_le _)
    · refine ab_if_eq (off := 9) (pc := 124) (tgt := 133) (by decide +kernel) (by decide) (fun g33 => ?_) (fun g33 => ?_)
      · refine ab_few [0, 1, 2] (lv' := [(0, .ref x0), (1, .int v3.1), (2, .int z27)]) rfl ?_
        exact hj32
      · refine ab_iload_n (pc := 127) (n := 3) (i := 3) (j := 3) (by decide +kernel) rfl rfl ?_
        refine ab_bipush (pc := 128) (n := 8) (v := nI 8) (by decide +kernel) (by decide) ?_
        refine ab_icmp_eq (off := 8) (pc := 130) (tgt := 138) (by decide +kernel) (by decide) (fun g34 => ?_) (fun g34 => ?_)
        · refine ab_iload_n (pc := 138) (n := 2) (i := 2) (j := 2) (by decide +kernel) rfl rfl ?_
          exact ab_iret (pc := 139) (by decide +kernel) rfl rfl (Nat.zero_le _) (Nat.zero_le _)
        · refine ab_few [0, 1, 2] (lv' := [(0, .ref x0), (1, .int v3.1), (2, .int z27)]) rfl ?_
          exact hj32
  · refine ab_iconst (pc := 8) (n := 0) (v := nI 0) (by decide +kernel) rfl ?_
    exact ab_iret (pc := 9) (by decide +kernel) rfl rfl (Nat.zero_le _) (Nat.zero_le _)
set_option maxRecDepth 100000 in
set_option maxHeartbeats 4000000 in
theorem okX12_eight {l : Launch} (hl : l.stackTraces = false) {F : Nat} {x0 : Nat} {h : ab_H} {y : (Int32 × ab_H)} (e : fX12_eight F x0 h = some y) : ab_Met l mX12_eight [.ref x0] h (.inl (some (.int y.1)), y.2) := ab_ofS (io := (fun y : (Int32 × ab_H) => ((.inl (some (.int y.1)), y.2) : ab_R × ab_H))) (x := y) hl (by decide) rfl (Nat.le_of_ble_eq_true rfl) (wX12_eight hl F x0 h) e
