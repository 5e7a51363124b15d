variable {Nq : Nat}
/-! ===== the law's methods that catch (by program, gen_wrap.py) ===== -/
/-- the number that a catch answers -/
def cC (E : String) : List String → Nat → Option Int32
  | [], _ => none
  | c :: cs, i => if E = c then some (nI (i + 1)) else cC E cs (i + 1)
theorem clk_13 : Cond.classLink "HungFacesLaw" 13 "java/lang/IllegalArgumentException" ∈ ab_tb := kw_4b4fa47a39
theorem clk_15 : Cond.classLink "HungFacesLaw" 15 "java/lang/UnsupportedOperationException" ∈ ab_tb := kw_7f6b02b40d
theorem clk_24 : Cond.classLink "HungFacesLaw" 24 "java/lang/IndexOutOfBoundsException" ∈ ab_tb := kw_3b86422439
theorem clk_26 : Cond.classLink "HungFacesLaw" 26 "java/util/NoSuchElementException" ∈ ab_tb := kw_3ea7abf6d9
theorem clk_44 : Cond.classLink "HungFacesLaw" 44 "java/lang/IllegalStateException" ∈ ab_tb := kw_f315dddca6
def hL_door : List (Nat × Nat × Nat × Nat) := [(0, 8, 11, 13), (0, 8, 14, 15)]
def mL_door : ab_M := (yL_door, cL_door, 3, (some .int), { frames := 9, cells := 1, slots := 6, locals := 198 })
theorem cwL_door : Cond.codeWith yL_door cL_door 3 (some .int) hL_door ∈ ab_tb := ab_in3 _ (List.mem_of_getElem? (i := 74) rfl) rfl
def fL_door (F : Nat) (x0 : Nat) (xo : Nat) (h : ab_H) : Option (Int32 × ab_H) := ab_ck (ab_io h x0 11 = true) (ab_bd (fX11_door F x0 h) fun y => y.1.elim (fun v => (ab_bd (ab_lw y.2 xo (nI 0) v.toInt64) fun h1 => some (nI 0, h1))) (fun E => (cC E ["java/lang/IllegalArgumentException", "java/lang/UnsupportedOperationException"] 0).map (fun c => (c, y.2))))
theorem wL_door {l : Launch} (hl : l.stackTraces = false) (F : Nat) (x0 : Nat) (xo : Nat) (h : ab_H) : ab_T l mL_door hL_door (fun r : Int32 × ab_H => ((.inl (some (.int r.1)), r.2) : ab_R × ab_H)) 0 0 (fL_door F x0 xo h) 0 [(0, .ref x0), (1, .ref xo)] [] h := by
  unfold fL_door
  refine at_aload_n (pc := 0) (n := 1) (i := 1) (j := 1) (by decide +kernel) rfl rfl ?_
  refine at_iconst (pc := 1) (n := 0) (v := nI 0) (by decide +kernel) rfl ?_
  refine at_aload_n (pc := 2) (n := 0) (i := 0) (j := 0) (by decide +kernel) rfl rfl ?_
  refine at_callV (M' := mX11_door) (As := []) (st := [.int (nI 0), .ref xo]) (a := x0) (ci := 11) (index := 7) (n := 0) (CN := "HungFaces") (pc := 3) rfl iX11_door kw_c415dd85eb kw_b1b1210ae5 kw_1c71821ce0 rfl rfl rfl (Nat.le_of_ble_eq_true rfl) (by decide +kernel) (fun y e => okX11_door hl (F := F) e) (fun y v h' hu he => ?_) rfl (fun y E h' r hu he hf => ?_)
  · obtain ⟨y, h2⟩ := y
    cases y with
    | inr E => cases he
    | inl v =>
      cases he
      refine at_i2l (pc := 6) (by decide +kernel) ?_
      refine at_last (pc := 7) (by decide +kernel) (fun h1 e1 => ?_)
      refine at_goto (pc := 8) (off := 9) (tgt := 17) (by decide +kernel) (by decide) ?_
      refine at_iconst (pc := 17) (n := 0) (v := nI 0) (by decide +kernel) rfl ?_
      exact at_iret (x := (nI 0, h1)) (pc := 18) (by decide +kernel) rfl rfl (Nat.le_of_ble_eq_true rfl) (Nat.le_of_ble_eq_true rfl)
  · obtain ⟨y, h2⟩ := y
    cases y with
    | inl v => cases he
    | inr E2 =>
      cases he
      change (cC E ["java/lang/IllegalArgumentException", "java/lang/UnsupportedOperationException"] 0).map _ = some r at hf
      by_cases c0 : E = "java/lang/IllegalArgumentException"
      · subst c0
        cases hf
        refine ⟨1, [], ⟨0, 8, 11, 13⟩, [⟨0, 8, 14, 15⟩], "java/lang/IllegalArgumentException", rfl, rfl, (fun w hw => by cases hw), by decide, by decide, clk_13, by decide +kernel, ⟨2, 1, by decide, Or.inl ⟨rfl, 2, rfl, by decide +kernel⟩, by decide +kernel, by decide +kernel⟩⟩
      · rw [cC, if_neg c0] at hf
        by_cases c1 : E = "java/lang/UnsupportedOperationException"
        · subst c1
          cases hf
          refine ⟨2, [⟨0, 8, 11, 13⟩], ⟨0, 8, 14, 15⟩, [], "java/lang/UnsupportedOperationException", rfl, rfl, (fun w hw => ?_), by decide, by decide, clk_15, by decide +kernel, ⟨2, 1, by decide, Or.inl ⟨rfl, 2, rfl, by decide +kernel⟩, by decide +kernel, by decide +kernel⟩⟩
          simp only [List.mem_cons, List.not_mem_nil, or_false] at hw
          subst hw
          exact ⟨by decide, by decide, "java/lang/IllegalArgumentException", clk_13, by decide +kernel⟩
        · rw [cC, if_neg c1] at hf
          cases hf
theorem okL_door {l : Launch} (hl : l.stackTraces = false) {F : Nat} {x0 : Nat} {xo : Nat} {h : ab_H} {y : Int32 × ab_H} (e : fL_door F x0 xo h = some y) : ab_MetX l mL_door hL_door [.ref x0, .ref xo] h ((fun r : Int32 × ab_H => ((.inl (some (.int r.1)), r.2) : ab_R × ab_H)) y) := ab_ofT (io := (fun r : Int32 × ab_H => ((.inl (some (.int r.1)), r.2) : ab_R × ab_H))) (x := y) hl (by decide) rfl (Nat.le_of_ble_eq_true rfl) (wL_door hl F x0 xo h) e
def hL_law : List (Nat × Nat × Nat × Nat) := [(0, 8, 11, 13)]
def mL_law : ab_M := (yL_law, cL_law, 3, (some .int), { frames := 22, cells := 3, slots := 427, locals := 505 })
theorem cwL_law : Cond.codeWith yL_law cL_law 3 (some .int) hL_law ∈ ab_tb := ab_in4 _ (List.mem_of_getElem? (i := 162) rfl) rfl
def fL_law (F : Nat) (x0 : Nat) (xo : Nat) (h : ab_H) : Option (Int32 × ab_H) := ab_ck (ab_io h x0 11 = true) (ab_bd (fX11_law F x0 h) fun y => y.1.elim (fun v => (ab_bd (ab_lw y.2 xo (nI 0) v.toInt64) fun h1 => some (nI 0, h1))) (fun E => (cC E ["java/lang/IllegalArgumentException"] 0).map (fun c => (c, y.2))))
theorem wL_law {l : Launch} (hl : l.stackTraces = false) (F : Nat) (x0 : Nat) (xo : Nat) (h : ab_H) : ab_T l mL_law hL_law (fun r : Int32 × ab_H => ((.inl (some (.int r.1)), r.2) : ab_R × ab_H)) 0 0 (fL_law F x0 xo h) 0 [(0, .ref x0), (1, .ref xo)] [] h := by
  unfold fL_law
  refine at_aload_n (pc := 0) (n := 1) (i := 1) (j := 1) (by decide +kernel) rfl rfl ?_
  refine at_iconst (pc := 1) (n := 0) (v := nI 0) (by decide +kernel) rfl ?_
  refine at_aload_n (pc := 2) (n := 0) (i := 0) (j := 0) (by decide +kernel) rfl rfl ?_
  refine at_callV (M' := mX11_law) (As := []) (st := [.int (nI 0), .ref xo]) (a := x0) (ci := 11) (index := 17) (n := 0) (CN := "HungFaces") (pc := 3) rfl iX11_law kw_ec86d91324 kw_0e01751995 kw_7aa515d58b rfl rfl rfl (Nat.le_of_ble_eq_true rfl) (by decide +kernel) (fun y e => okX11_law hl (F := F) e) (fun y v h' hu he => ?_) rfl (fun y E h' r hu he hf => ?_)
  · obtain ⟨y, h2⟩ := y
    cases y with
    | inr E => cases he
    | inl v =>
      cases he
      refine at_i2l (pc := 6) (by decide +kernel) ?_
      refine at_last (pc := 7) (by decide +kernel) (fun h1 e1 => ?_)
      refine at_goto (pc := 8) (off := 6) (tgt := 14) (by decide +kernel) (by decide) ?_
      refine at_iconst (pc := 14) (n := 0) (v := nI 0) (by decide +kernel) rfl ?_
      exact at_iret (x := (nI 0, h1)) (pc := 15) (by decide +kernel) rfl rfl (Nat.le_of_ble_eq_true rfl) (Nat.le_of_ble_eq_true rfl)
  · obtain ⟨y, h2⟩ := y
    cases y with
    | inl v => cases he
    | inr E2 =>
      cases he
      change (cC E ["java/lang/IllegalArgumentException"] 0).map _ = some r at hf
      by_cases c0 : E = "java/lang/IllegalArgumentException"
      · subst c0
        cases hf
        refine ⟨1, [], ⟨0, 8, 11, 13⟩, [], "java/lang/IllegalArgumentException", rfl, rfl, (fun w hw => by cases hw), by decide, by decide, clk_13, by decide +kernel, ⟨2, 1, by decide, Or.inl ⟨rfl, 2, rfl, by decide +kernel⟩, by decide +kernel, by decide +kernel⟩⟩
      · rw [cC, if_neg c0] at hf
        cases hf
theorem okL_law {l : Launch} (hl : l.stackTraces = false) {F : Nat} {x0 : Nat} {xo : Nat} {h : ab_H} {y : Int32 × ab_H} (e : fL_law F x0 xo h = some y) : ab_MetX l mL_law hL_law [.ref x0, .ref xo] h ((fun r : Int32 × ab_H => ((.inl (some (.int r.1)), r.2) : ab_R × ab_H)) y) := ab_ofT (io := (fun r : Int32 × ab_H => ((.inl (some (.int r.1)), r.2) : ab_R × ab_H))) (x := y) hl (by decide) rfl (Nat.le_of_ble_eq_true rfl) (wL_law hl F x0 xo h) e
def hL_person : List (Nat × Nat × Nat × Nat) := [(0, 10, 13, 24), (0, 10, 17, 26)]
def mL_person : ab_M := (yL_person, cL_person, 5, (some .int), { frames := 8, cells := 2, slots := 12, locals := 133 })
theorem cwL_person : Cond.codeWith yL_person cL_person 5 (some .int) hL_person ∈ ab_tb := ab_in4 _ (List.mem_of_getElem? (i := 183) rfl) rfl
def fL_person (F : Nat) (x0 : Nat) (x1 : Int32) (x2 : Int32) (xo : Nat) (h : ab_H) : Option (Int32 × ab_H) := ab_ck (ab_io h x0 11 = true) (ab_bd (fX11_person F x0 x1 x2 h) fun y => y.elim (fun v => (ab_bd (ab_lw h xo (nI 0) v.toInt64) fun h1 => some (nI 0, h1))) (fun E => (cC E ["java/lang/IndexOutOfBoundsException", "java/util/NoSuchElementException"] 0).map (fun c => (c, h))))
theorem wL_person {l : Launch} (hl : l.stackTraces = false) (F : Nat) (x0 : Nat) (x1 : Int32) (x2 : Int32) (xo : Nat) (h : ab_H) : ab_T l mL_person hL_person (fun r : Int32 × ab_H => ((.inl (some (.int r.1)), r.2) : ab_R × ab_H)) 0 0 (fL_person F x0 x1 x2 xo h) 0 [(0, .ref x0), (1, .int x1), (2, .int x2), (3, .ref xo)] [] h := by
  unfold fL_person
  refine at_aload_n (pc := 0) (n := 3) (i := 3) (j := 3) (by decide +kernel) rfl rfl ?_
  refine at_iconst (pc := 1) (n := 0) (v := nI 0) (by decide +kernel) rfl ?_
  refine at_aload_n (pc := 2) (n := 0) (i := 0) (j := 0) (by decide +kernel) rfl rfl ?_
  refine at_iload_n (pc := 3) (n := 1) (i := 1) (j := 1) (by decide +kernel) rfl rfl ?_
  refine at_iload_n (pc := 4) (n := 2) (i := 2) (j := 2) (by decide +kernel) rfl rfl ?_
  refine at_callV (M' := mX11_person) (As := [.int x1, .int x2]) (st := [.int (nI 0), .ref xo]) (a := x0) (ci := 11) (index := 20) (n := 2) (CN := "HungFaces") (pc := 5) rfl iX11_person kw_10acb615e9 kw_f916f64ed4 kw_995890be89 rfl rfl rfl (Nat.le_of_ble_eq_true rfl) (by decide +kernel) (fun y e => okX11_person hl (F := F) e) (fun y v h' hu he => ?_) rfl (fun y E h' r hu he hf => ?_)
  · cases y with
    | inr E => cases he
    | inl v =>
      cases he
      refine at_i2l (pc := 8) (by decide +kernel) ?_
      refine at_last (pc := 9) (by decide +kernel) (fun h1 e1 => ?_)
      refine at_goto (pc := 10) (off := 11) (tgt := 21) (by decide +kernel) (by decide) ?_
      refine at_iconst (pc := 21) (n := 0) (v := nI 0) (by decide +kernel) rfl ?_
      exact at_iret (x := (nI 0, h1)) (pc := 22) (by decide +kernel) rfl rfl (Nat.le_of_ble_eq_true rfl) (Nat.le_of_ble_eq_true rfl)
  · cases y with
    | inl v => cases he
    | inr E2 =>
      cases he
      change (cC E ["java/lang/IndexOutOfBoundsException", "java/util/NoSuchElementException"] 0).map _ = some r at hf
      by_cases c0 : E = "java/lang/IndexOutOfBoundsException"
      · subst c0
        cases hf
        refine ⟨1, [], ⟨0, 10, 13, 24⟩, [⟨0, 10, 17, 26⟩], "java/lang/IndexOutOfBoundsException", rfl, rfl, (fun w hw => by cases hw), by decide, by decide, clk_24, by decide +kernel, ⟨4, 2, by decide, Or.inr ⟨rfl, by decide +kernel⟩, by decide +kernel, by decide +kernel⟩⟩
      · rw [cC, if_neg c0] at hf
        by_cases c1 : E = "java/util/NoSuchElementException"
        · subst c1
          cases hf
          refine ⟨2, [⟨0, 10, 13, 24⟩], ⟨0, 10, 17, 26⟩, [], "java/util/NoSuchElementException", rfl, rfl, (fun w hw => ?_), by decide, by decide, clk_26, by decide +kernel, ⟨4, 2, by decide, Or.inr ⟨rfl, by decide +kernel⟩, by decide +kernel, by decide +kernel⟩⟩
          simp only [List.mem_cons, List.not_mem_nil, or_false] at hw
          subst hw
          exact ⟨by decide, by decide, "java/lang/IndexOutOfBoundsException", clk_24, by decide +kernel⟩
        · rw [cC, if_neg c1] at hf
          cases hf
theorem okL_person {l : Launch} (hl : l.stackTraces = false) {F : Nat} {x0 : Nat} {x1 : Int32} {x2 : Int32} {xo : Nat} {h : ab_H} {y : Int32 × ab_H} (e : fL_person F x0 x1 x2 xo h = some y) : ab_MetX l mL_person hL_person [.ref x0, .int x1, .int x2, .ref xo] h ((fun r : Int32 × ab_H => ((.inl (some (.int r.1)), r.2) : ab_R × ab_H)) y) := ab_ofT (io := (fun r : Int32 × ab_H => ((.inl (some (.int r.1)), r.2) : ab_R × ab_H))) (x := y) hl (by decide) rfl (Nat.le_of_ble_eq_true rfl) (wL_person hl F x0 x1 x2 xo h) e
def hL_face : List (Nat × Nat × Nat × Nat) := [(0, 10, 13, 24), (0, 10, 17, 26)]
def mL_face : ab_M := (yL_face, cL_face, 5, (some .int), { frames := 8, cells := 2, slots := 12, locals := 133 })
theorem cwL_face : Cond.codeWith yL_face cL_face 5 (some .int) hL_face ∈ ab_tb := ab_in4 _ (List.mem_of_getElem? (i := 229) rfl) rfl
def fL_face (F : Nat) (x0 : Nat) (x1 : Int32) (x2 : Int32) (xo : Nat) (h : ab_H) : Option (Int32 × ab_H) := ab_ck (ab_io h x0 11 = true) (ab_bd (fX11_face F x0 x1 x2 h) fun y => y.elim (fun v => (ab_bd (ab_lw h xo (nI 0) v.toInt64) fun h1 => some (nI 0, h1))) (fun E => (cC E ["java/lang/IndexOutOfBoundsException", "java/util/NoSuchElementException"] 0).map (fun c => (c, h))))
theorem wL_face {l : Launch} (hl : l.stackTraces = false) (F : Nat) (x0 : Nat) (x1 : Int32) (x2 : Int32) (xo : Nat) (h : ab_H) : ab_T l mL_face hL_face (fun r : Int32 × ab_H => ((.inl (some (.int r.1)), r.2) : ab_R × ab_H)) 0 0 (fL_face F x0 x1 x2 xo h) 0 [(0, .ref x0), (1, .int x1), (2, .int x2), (3, .ref xo)] [] h := by
  unfold fL_face
  refine at_aload_n (pc := 0) (n := 3) (i := 3) (j := 3) (by decide +kernel) rfl rfl ?_
  refine at_iconst (pc := 1) (n := 0) (v := nI 0) (by decide +kernel) rfl ?_
  refine at_aload_n (pc := 2) (n := 0) (i := 0) (j := 0) (by decide +kernel) rfl rfl ?_
  refine at_iload_n (pc := 3) (n := 1) (i := 1) (j := 1) (by decide +kernel) rfl rfl ?_
  refine at_iload_n (pc := 4) (n := 2) (i := 2) (j := 2) (by decide +kernel) rfl rfl ?_
  refine at_callV (M' := mX11_face) (As := [.int x1, .int x2]) (st := [.int (nI 0), .ref xo]) (a := x0) (ci := 11) (index := 28) (n := 2) (CN := "HungFaces") (pc := 5) rfl iX11_face kw_b68d3765f5 kw_c6931383b4 kw_23a1020da0 rfl rfl rfl (Nat.le_of_ble_eq_true rfl) (by decide +kernel) (fun y e => okX11_face hl (F := F) e) (fun y v h' hu he => ?_) rfl (fun y E h' r hu he hf => ?_)
  · cases y with
    | inr E => cases he
    | inl v =>
      cases he
      refine at_i2l (pc := 8) (by decide +kernel) ?_
      refine at_last (pc := 9) (by decide +kernel) (fun h1 e1 => ?_)
      refine at_goto (pc := 10) (off := 11) (tgt := 21) (by decide +kernel) (by decide) ?_
      refine at_iconst (pc := 21) (n := 0) (v := nI 0) (by decide +kernel) rfl ?_
      exact at_iret (x := (nI 0, h1)) (pc := 22) (by decide +kernel) rfl rfl (Nat.le_of_ble_eq_true rfl) (Nat.le_of_ble_eq_true rfl)
  · cases y with
    | inl v => cases he
    | inr E2 =>
      cases he
      change (cC E ["java/lang/IndexOutOfBoundsException", "java/util/NoSuchElementException"] 0).map _ = some r at hf
      by_cases c0 : E = "java/lang/IndexOutOfBoundsException"
      · subst c0
        cases hf
        refine ⟨1, [], ⟨0, 10, 13, 24⟩, [⟨0, 10, 17, 26⟩], "java/lang/IndexOutOfBoundsException", rfl, rfl, (fun w hw => by cases hw), by decide, by decide, clk_24, by decide +kernel, ⟨4, 2, by decide, Or.inr ⟨rfl, by decide +kernel⟩, by decide +kernel, by decide +kernel⟩⟩
      · rw [cC, if_neg c0] at hf
        by_cases c1 : E = "java/util/NoSuchElementException"
        · subst c1
          cases hf
          refine ⟨2, [⟨0, 10, 13, 24⟩], ⟨0, 10, 17, 26⟩, [], "java/util/NoSuchElementException", rfl, rfl, (fun w hw => ?_), by decide, by decide, clk_26, by decide +kernel, ⟨4, 2, by decide, Or.inr ⟨rfl, by decide +kernel⟩, by decide +kernel, by decide +kernel⟩⟩
          simp only [List.mem_cons, List.not_mem_nil, or_false] at hw
          subst hw
          exact ⟨by decide, by decide, "java/lang/IndexOutOfBoundsException", clk_24, by decide +kernel⟩
        · rw [cC, if_neg c1] at hf
          cases hf
theorem okL_face {l : Launch} (hl : l.stackTraces = false) {F : Nat} {x0 : Nat} {x1 : Int32} {x2 : Int32} {xo : Nat} {h : ab_H} {y : Int32 × ab_H} (e : fL_face F x0 x1 x2 xo h = some y) : ab_MetX l mL_face hL_face [.ref x0, .int x1, .int x2, .ref xo] h ((fun r : Int32 × ab_H => ((.inl (some (.int r.1)), r.2) : ab_R × ab_H)) y) := ab_ofT (io := (fun r : Int32 × ab_H => ((.inl (some (.int r.1)), r.2) : ab_R × ab_H))) (x := y) hl (by decide) rfl (Nat.le_of_ble_eq_true rfl) (wL_face hl F x0 x1 x2 xo h) e
def hL_hook : List (Nat × Nat × Nat × Nat) := [(0, 9, 12, 24)]
def mL_hook : ab_M := (yL_hook, cL_hook, 4, (some .int), { frames := 8, cells := 1, slots := 6, locals := 132 })
theorem cwL_hook : Cond.codeWith yL_hook cL_hook 4 (some .int) hL_hook ∈ ab_tb := ab_in4 _ (List.mem_of_getElem? (i := 239) rfl) rfl
def fL_hook (x0 : Nat) (x1 : Int32) (xo : Nat) (h : ab_H) : Option (Int32 × ab_H) := ab_ck (ab_io h x0 11 = true) (ab_bd (fX11_hook x0 x1 h) fun y => y.elim (fun v => (ab_bd (ab_lw h xo (nI 0) v.toInt64) fun h1 => some (nI 0, h1))) (fun E => (cC E ["java/lang/IndexOutOfBoundsException"] 0).map (fun c => (c, h))))
theorem wL_hook {l : Launch} (hl : l.stackTraces = false) (x0 : Nat) (x1 : Int32) (xo : Nat) (h : ab_H) : ab_T l mL_hook hL_hook (fun r : Int32 × ab_H => ((.inl (some (.int r.1)), r.2) : ab_R × ab_H)) 0 0 (fL_hook x0 x1 xo h) 0 [(0, .ref x0), (1, .int x1), (2, .ref xo)] [] h := by
  unfold fL_hook
  refine at_aload_n (pc := 0) (n := 2) (i := 2) (j := 2) (by decide +kernel) rfl rfl ?_
  refine at_iconst (pc := 1) (n := 0) (v := nI 0) (by decide +kernel) rfl ?_
  refine at_aload_n (pc := 2) (n := 0) (i := 0) (j := 0) (by decide +kernel) rfl rfl ?_
  refine at_iload_n (pc := 3) (n := 1) (i := 1) (j := 1) (by decide +kernel) rfl rfl ?_
  refine at_callV (M' := mX11_hook) (As := [.int x1]) (st := [.int (nI 0), .ref xo]) (a := x0) (ci := 11) (index := 31) (n := 1) (CN := "HungFaces") (pc := 4) rfl iX11_hook kw_7fefd193b1 kw_9aef4e1d25 kw_d0295b5ca9 rfl rfl rfl (Nat.le_of_ble_eq_true rfl) (by decide +kernel) (fun y e => okX11_hook hl e) (fun y v h' hu he => ?_) rfl (fun y E h' r hu he hf => ?_)
  · cases y with
    | inr E => cases he
    | inl v =>
      cases he
      refine at_i2l (pc := 7) (by decide +kernel) ?_
      refine at_last (pc := 8) (by decide +kernel) (fun h1 e1 => ?_)
      refine at_goto (pc := 9) (off := 6) (tgt := 15) (by decide +kernel) (by decide) ?_
      refine at_iconst (pc := 15) (n := 0) (v := nI 0) (by decide +kernel) rfl ?_
      exact at_iret (x := (nI 0, h1)) (pc := 16) (by decide +kernel) rfl rfl (Nat.le_of_ble_eq_true rfl) (Nat.le_of_ble_eq_true rfl)
  · cases y with
    | inl v => cases he
    | inr E2 =>
      cases he
      change (cC E ["java/lang/IndexOutOfBoundsException"] 0).map _ = some r at hf
      by_cases c0 : E = "java/lang/IndexOutOfBoundsException"
      · subst c0
        cases hf
        refine ⟨1, [], ⟨0, 9, 12, 24⟩, [], "java/lang/IndexOutOfBoundsException", rfl, rfl, (fun w hw => by cases hw), by decide, by decide, clk_24, by decide +kernel, ⟨3, 1, by decide, Or.inl ⟨rfl, 3, rfl, by decide +kernel⟩, by decide +kernel, by decide +kernel⟩⟩
      · rw [cC, if_neg c0] at hf
        cases hf
theorem okL_hook {l : Launch} (hl : l.stackTraces = false) {x0 : Nat} {x1 : Int32} {xo : Nat} {h : ab_H} {y : Int32 × ab_H} (e : fL_hook x0 x1 xo h = some y) : ab_MetX l mL_hook hL_hook [.ref x0, .int x1, .ref xo] h ((fun r : Int32 × ab_H => ((.inl (some (.int r.1)), r.2) : ab_R × ab_H)) y) := ab_ofT (io := (fun r : Int32 × ab_H => ((.inl (some (.int r.1)), r.2) : ab_R × ab_H))) (x := y) hl (by decide) rfl (Nat.le_of_ble_eq_true rfl) (wL_hook hl x0 x1 xo h) e
def hL_wish : List (Nat × Nat × Nat × Nat) := [(0, 10, 13, 24)]
def mL_wish : ab_M := (yL_wish, cL_wish, 5, (some .int), { frames := 8, cells := 1, slots := 6, locals := 133 })
theorem cwL_wish : Cond.codeWith yL_wish cL_wish 5 (some .int) hL_wish ∈ ab_tb := ab_in5 _ (List.mem_of_getElem? (i := 11) rfl) rfl
def fL_wish (x0 : Nat) (x1 : Int32) (x2 : Int32) (xo : Nat) (h : ab_H) : Option (Int32 × ab_H) := ab_ck (ab_io h x0 11 = true) (ab_bd (fX11_wish x0 x1 x2 h) fun y => y.elim (fun v => (ab_bd (ab_lw h xo (nI 0) v.toInt64) fun h1 => some (nI 0, h1))) (fun E => (cC E ["java/lang/IndexOutOfBoundsException"] 0).map (fun c => (c, h))))
theorem wL_wish {l : Launch} (hl : l.stackTraces = false) (x0 : Nat) (x1 : Int32) (x2 : Int32) (xo : Nat) (h : ab_H) : ab_T l mL_wish hL_wish (fun r : Int32 × ab_H => ((.inl (some (.int r.1)), r.2) : ab_R × ab_H)) 0 0 (fL_wish x0 x1 x2 xo h) 0 [(0, .ref x0), (1, .int x1), (2, .int x2), (3, .ref xo)] [] h := by
  unfold fL_wish
  refine at_aload_n (pc := 0) (n := 3) (i := 3) (j := 3) (by decide +kernel) rfl rfl ?_
  refine at_iconst (pc := 1) (n := 0) (v := nI 0) (by decide +kernel) rfl ?_
  refine at_aload_n (pc := 2) (n := 0) (i := 0) (j := 0) (by decide +kernel) rfl rfl ?_
  refine at_iload_n (pc := 3) (n := 1) (i := 1) (j := 1) (by decide +kernel) rfl rfl ?_
  refine at_iload_n (pc := 4) (n := 2) (i := 2) (j := 2) (by decide +kernel) rfl rfl ?_
  refine at_callV (M' := mX11_wish) (As := [.int x1, .int x2]) (st := [.int (nI 0), .ref xo]) (a := x0) (ci := 11) (index := 35) (n := 2) (CN := "HungFaces") (pc := 5) rfl iX11_wish kw_c075fb9a45 kw_0d57d9995f kw_148859bacb rfl rfl rfl (Nat.le_of_ble_eq_true rfl) (by decide +kernel) (fun y e => okX11_wish hl e) (fun y v h' hu he => ?_) rfl (fun y E h' r hu he hf => ?_)
  · cases y with
    | inr E => cases he
    | inl v =>
      cases he
      refine at_i2l (pc := 8) (by decide +kernel) ?_
      refine at_last (pc := 9) (by decide +kernel) (fun h1 e1 => ?_)
      refine at_goto (pc := 10) (off := 7) (tgt := 17) (by decide +kernel) (by decide) ?_
      refine at_iconst (pc := 17) (n := 0) (v := nI 0) (by decide +kernel) rfl ?_
      exact at_iret (x := (nI 0, h1)) (pc := 18) (by decide +kernel) rfl rfl (Nat.le_of_ble_eq_true rfl) (Nat.le_of_ble_eq_true rfl)
  · cases y with
    | inl v => cases he
    | inr E2 =>
      cases he
      change (cC E ["java/lang/IndexOutOfBoundsException"] 0).map _ = some r at hf
      by_cases c0 : E = "java/lang/IndexOutOfBoundsException"
      · subst c0
        cases hf
        refine ⟨1, [], ⟨0, 10, 13, 24⟩, [], "java/lang/IndexOutOfBoundsException", rfl, rfl, (fun w hw => by cases hw), by decide, by decide, clk_24, by decide +kernel, ⟨4, 2, by decide, Or.inr ⟨rfl, by decide +kernel⟩, by decide +kernel, by decide +kernel⟩⟩
      · rw [cC, if_neg c0] at hf
        cases hf
theorem okL_wish {l : Launch} (hl : l.stackTraces = false) {x0 : Nat} {x1 : Int32} {x2 : Int32} {xo : Nat} {h : ab_H} {y : Int32 × ab_H} (e : fL_wish x0 x1 x2 xo h = some y) : ab_MetX l mL_wish hL_wish [.ref x0, .int x1, .int x2, .ref xo] h ((fun r : Int32 × ab_H => ((.inl (some (.int r.1)), r.2) : ab_R × ab_H)) y) := ab_ofT (io := (fun r : Int32 × ab_H => ((.inl (some (.int r.1)), r.2) : ab_R × ab_H))) (x := y) hl (by decide) rfl (Nat.le_of_ble_eq_true rfl) (wL_wish hl x0 x1 x2 xo h) e
def hL_thinks : List (Nat × Nat × Nat × Nat) := [(0, 10, 13, 24), (0, 10, 17, 13)]
def mL_thinks : ab_M := (yL_thinks, cL_thinks, 5, (some .int), { frames := 9, cells := 3, slots := 18, locals := 155 })
theorem cwL_thinks : Cond.codeWith yL_thinks cL_thinks 5 (some .int) hL_thinks ∈ ab_tb := ab_in5 _ (List.mem_of_getElem? (i := 18) rfl) rfl
def fL_thinks (x0 : Nat) (x1 : Int32) (x2 : Int32) (xo : Nat) (h : ab_H) : Option (Int32 × ab_H) := ab_ck (ab_io h x0 11 = true) (ab_bd (fX11_thinks x0 x1 x2 h) fun y => y.elim (fun v => (ab_bd (ab_lw h xo (nI 0) v.toInt64) fun h1 => some (nI 0, h1))) (fun E => (cC E ["java/lang/IndexOutOfBoundsException", "java/lang/IllegalArgumentException"] 0).map (fun c => (c, h))))
theorem wL_thinks {l : Launch} (hl : l.stackTraces = false) (x0 : Nat) (x1 : Int32) (x2 : Int32) (xo : Nat) (h : ab_H) : ab_T l mL_thinks hL_thinks (fun r : Int32 × ab_H => ((.inl (some (.int r.1)), r.2) : ab_R × ab_H)) 0 0 (fL_thinks x0 x1 x2 xo h) 0 [(0, .ref x0), (1, .int x1), (2, .int x2), (3, .ref xo)] [] h := by
  unfold fL_thinks
  refine at_aload_n (pc := 0) (n := 3) (i := 3) (j := 3) (by decide +kernel) rfl rfl ?_
  refine at_iconst (pc := 1) (n := 0) (v := nI 0) (by decide +kernel) rfl ?_
  refine at_aload_n (pc := 2) (n := 0) (i := 0) (j := 0) (by decide +kernel) rfl rfl ?_
  refine at_iload_n (pc := 3) (n := 1) (i := 1) (j := 1) (by decide +kernel) rfl rfl ?_
  refine at_iload_n (pc := 4) (n := 2) (i := 2) (j := 2) (by decide +kernel) rfl rfl ?_
  refine at_callV (M' := mX11_thinks) (As := [.int x1, .int x2]) (st := [.int (nI 0), .ref xo]) (a := x0) (ci := 11) (index := 38) (n := 2) (CN := "HungFaces") (pc := 5) rfl iX11_thinks kw_8cf3197e1b kw_c0436d0437 kw_909f0bbcbf rfl rfl rfl (Nat.le_of_ble_eq_true rfl) (by decide +kernel) (fun y e => okX11_thinks hl e) (fun y v h' hu he => ?_) rfl (fun y E h' r hu he hf => ?_)
  · cases y with
    | inr E => cases he
    | inl v =>
      cases he
      refine at_i2l (pc := 8) (by decide +kernel) ?_
      refine at_last (pc := 9) (by decide +kernel) (fun h1 e1 => ?_)
      refine at_goto (pc := 10) (off := 11) (tgt := 21) (by decide +kernel) (by decide) ?_
      refine at_iconst (pc := 21) (n := 0) (v := nI 0) (by decide +kernel) rfl ?_
      exact at_iret (x := (nI 0, h1)) (pc := 22) (by decide +kernel) rfl rfl (Nat.le_of_ble_eq_true rfl) (Nat.le_of_ble_eq_true rfl)
  · cases y with
    | inl v => cases he
    | inr E2 =>
      cases he
      change (cC E ["java/lang/IndexOutOfBoundsException", "java/lang/IllegalArgumentException"] 0).map _ = some r at hf
      by_cases c0 : E = "java/lang/IndexOutOfBoundsException"
      · subst c0
        cases hf
        refine ⟨1, [], ⟨0, 10, 13, 24⟩, [⟨0, 10, 17, 13⟩], "java/lang/IndexOutOfBoundsException", rfl, rfl, (fun w hw => by cases hw), by decide, by decide, clk_24, by decide +kernel, ⟨4, 2, by decide, Or.inr ⟨rfl, by decide +kernel⟩, by decide +kernel, by decide +kernel⟩⟩
      · rw [cC, if_neg c0] at hf
        by_cases c1 : E = "java/lang/IllegalArgumentException"
        · subst c1
          cases hf
          refine ⟨2, [⟨0, 10, 13, 24⟩], ⟨0, 10, 17, 13⟩, [], "java/lang/IllegalArgumentException", rfl, rfl, (fun w hw => ?_), by decide, by decide, clk_13, by decide +kernel, ⟨4, 2, by decide, Or.inr ⟨rfl, by decide +kernel⟩, by decide +kernel, by decide +kernel⟩⟩
          simp only [List.mem_cons, List.not_mem_nil, or_false] at hw
          subst hw
          exact ⟨by decide, by decide, "java/lang/IndexOutOfBoundsException", clk_24, by decide +kernel⟩
        · rw [cC, if_neg c1] at hf
          cases hf
theorem okL_thinks {l : Launch} (hl : l.stackTraces = false) {x0 : Nat} {x1 : Int32} {x2 : Int32} {xo : Nat} {h : ab_H} {y : Int32 × ab_H} (e : fL_thinks x0 x1 x2 xo h = some y) : ab_MetX l mL_thinks hL_thinks [.ref x0, .int x1, .int x2, .ref xo] h ((fun r : Int32 × ab_H => ((.inl (some (.int r.1)), r.2) : ab_R × ab_H)) y) := ab_ofT (io := (fun r : Int32 × ab_H => ((.inl (some (.int r.1)), r.2) : ab_R × ab_H))) (x := y) hl (by decide) rfl (Nat.le_of_ble_eq_true rfl) (wL_thinks hl x0 x1 x2 xo h) e
def hL_hand : List (Nat × Nat × Nat × Nat) := [(0, 10, 13, 24), (0, 10, 17, 44)]
def mL_hand : ab_M := (yL_hand, cL_hand, 5, (some .int), { frames := 8, cells := 3, slots := 18, locals := 133 })
theorem cwL_hand : Cond.codeWith yL_hand cL_hand 5 (some .int) hL_hand ∈ ab_tb := ab_in5 _ (List.mem_of_getElem? (i := 33) rfl) rfl
def fL_hand (x0 : Nat) (x1 : Int32) (x2 : Int32) (xo : Nat) (h : ab_H) : Option (Int32 × ab_H) := ab_ck (ab_io h x0 11 = true) (ab_bd (fX11_hand x0 x1 x2 h) fun y => y.1.elim (fun v => (ab_bd (ab_lw y.2 xo (nI 0) v.toInt64) fun h1 => some (nI 0, h1))) (fun E => (cC E ["java/lang/IndexOutOfBoundsException", "java/lang/IllegalStateException"] 0).map (fun c => (c, y.2))))
theorem wL_hand {l : Launch} (hl : l.stackTraces = false) (x0 : Nat) (x1 : Int32) (x2 : Int32) (xo : Nat) (h : ab_H) : ab_T l mL_hand hL_hand (fun r : Int32 × ab_H => ((.inl (some (.int r.1)), r.2) : ab_R × ab_H)) 0 0 (fL_hand x0 x1 x2 xo h) 0 [(0, .ref x0), (1, .int x1), (2, .int x2), (3, .ref xo)] [] h := by
  unfold fL_hand
  refine at_aload_n (pc := 0) (n := 3) (i := 3) (j := 3) (by decide +kernel) rfl rfl ?_
  refine at_iconst (pc := 1) (n := 0) (v := nI 0) (by decide +kernel) rfl ?_
  refine at_aload_n (pc := 2) (n := 0) (i := 0) (j := 0) (by decide +kernel) rfl rfl ?_
  refine at_iload_n (pc := 3) (n := 1) (i := 1) (j := 1) (by decide +kernel) rfl rfl ?_
  refine at_iload_n (pc := 4) (n := 2) (i := 2) (j := 2) (by decide +kernel) rfl rfl ?_
  refine at_callV (M' := mX11_hand) (As := [.int x1, .int x2]) (st := [.int (nI 0), .ref xo]) (a := x0) (ci := 11) (index := 41) (n := 2) (CN := "HungFaces") (pc := 5) rfl iX11_hand kw_462c9634a1 kw_908895c6db kw_853f060e90 rfl rfl rfl (Nat.le_of_ble_eq_true rfl) (by decide +kernel) (fun y e => okX11_hand hl e) (fun y v h' hu he => ?_) rfl (fun y E h' r hu he hf => ?_)
  · obtain ⟨y, h2⟩ := y
    cases y with
    | inr E => cases he
    | inl v =>
      cases he
      refine at_i2l (pc := 8) (by decide +kernel) ?_
      refine at_last (pc := 9) (by decide +kernel) (fun h1 e1 => ?_)
      refine at_goto (pc := 10) (off := 11) (tgt := 21) (by decide +kernel) (by decide) ?_
      refine at_iconst (pc := 21) (n := 0) (v := nI 0) (by decide +kernel) rfl ?_
      exact at_iret (x := (nI 0, h1)) (pc := 22) (by decide +kernel) rfl rfl (Nat.le_of_ble_eq_true rfl) (Nat.le_of_ble_eq_true rfl)
  · obtain ⟨y, h2⟩ := y
    cases y with
    | inl v => cases he
    | inr E2 =>
      cases he
      change (cC E ["java/lang/IndexOutOfBoundsException", "java/lang/IllegalStateException"] 0).map _ = some r at hf
      by_cases c0 : E = "java/lang/IndexOutOfBoundsException"
      · subst c0
        cases hf
        refine ⟨1, [], ⟨0, 10, 13, 24⟩, [⟨0, 10, 17, 44⟩], "java/lang/IndexOutOfBoundsException", rfl, rfl, (fun w hw => by cases hw), by decide, by decide, clk_24, by decide +kernel, ⟨4, 2, by decide, Or.inr ⟨rfl, by decide +kernel⟩, by decide +kernel, by decide +kernel⟩⟩
      · rw [cC, if_neg c0] at hf
        by_cases c1 : E = "java/lang/IllegalStateException"
        · subst c1
          cases hf
          refine ⟨2, [⟨0, 10, 13, 24⟩], ⟨0, 10, 17, 44⟩, [], "java/lang/IllegalStateException", rfl, rfl, (fun w hw => ?_), by decide, by decide, clk_44, by decide +kernel, ⟨4, 2, by decide, Or.inr ⟨rfl, by decide +kernel⟩, by decide +kernel, by decide +kernel⟩⟩
          simp only [List.mem_cons, List.not_mem_nil, or_false] at hw
          subst hw
          exact ⟨by decide, by decide, "java/lang/IndexOutOfBoundsException", clk_24, by decide +kernel⟩
        · rw [cC, if_neg c1] at hf
          cases hf
theorem okL_hand {l : Launch} (hl : l.stackTraces = false) {x0 : Nat} {x1 : Int32} {x2 : Int32} {xo : Nat} {h : ab_H} {y : Int32 × ab_H} (e : fL_hand x0 x1 x2 xo h = some y) : ab_MetX l mL_hand hL_hand [.ref x0, .int x1, .int x2, .ref xo] h ((fun r : Int32 × ab_H => ((.inl (some (.int r.1)), r.2) : ab_R × ab_H)) y) := ab_ofT (io := (fun r : Int32 × ab_H => ((.inl (some (.int r.1)), r.2) : ab_R × ab_H))) (x := y) hl (by decide) rfl (Nat.le_of_ble_eq_true rfl) (wL_hand hl x0 x1 x2 xo h) e
def hL_fetch : List (Nat × Nat × Nat × Nat) := [(0, 9, 12, 24), (0, 9, 15, 44)]
def mL_fetch : ab_M := (yL_fetch, cL_fetch, 4, (some .int), { frames := 8, cells := 2, slots := 12, locals := 132 })
theorem cwL_fetch : Cond.codeWith yL_fetch cL_fetch 4 (some .int) hL_fetch ∈ ab_tb := ab_in5 _ (List.mem_of_getElem? (i := 72) rfl) rfl
def fL_fetch (x0 : Nat) (x1 : Int32) (xo : Nat) (h : ab_H) : Option (Int32 × ab_H) := ab_ck (ab_io h x0 11 = true) (ab_bd (fX11_fetch x0 x1 h) fun y => y.1.elim (fun v => (ab_bd (ab_lw y.2 xo (nI 0) v.toInt64) fun h1 => some (nI 0, h1))) (fun E => (cC E ["java/lang/IndexOutOfBoundsException", "java/lang/IllegalStateException"] 0).map (fun c => (c, y.2))))
theorem wL_fetch {l : Launch} (hl : l.stackTraces = false) (x0 : Nat) (x1 : Int32) (xo : Nat) (h : ab_H) : ab_T l mL_fetch hL_fetch (fun r : Int32 × ab_H => ((.inl (some (.int r.1)), r.2) : ab_R × ab_H)) 0 0 (fL_fetch x0 x1 xo h) 0 [(0, .ref x0), (1, .int x1), (2, .ref xo)] [] h := by
  unfold fL_fetch
  refine at_aload_n (pc := 0) (n := 2) (i := 2) (j := 2) (by decide +kernel) rfl rfl ?_
  refine at_iconst (pc := 1) (n := 0) (v := nI 0) (by decide +kernel) rfl ?_
  refine at_aload_n (pc := 2) (n := 0) (i := 0) (j := 0) (by decide +kernel) rfl rfl ?_
  refine at_iload_n (pc := 3) (n := 1) (i := 1) (j := 1) (by decide +kernel) rfl rfl ?_
  refine at_callV (M' := mX11_fetch) (As := [.int x1]) (st := [.int (nI 0), .ref xo]) (a := x0) (ci := 11) (index := 46) (n := 1) (CN := "HungFaces") (pc := 4) rfl iX11_fetch kw_a42ed21a26 kw_83dfa9ee5f kw_20014428ab rfl rfl rfl (Nat.le_of_ble_eq_true rfl) (by decide +kernel) (fun y e => okX11_fetch hl e) (fun y v h' hu he => ?_) rfl (fun y E h' r hu he hf => ?_)
  · obtain ⟨y, h2⟩ := y
    cases y with
    | inr E => cases he
    | inl v =>
      cases he
      refine at_i2l (pc := 7) (by decide +kernel) ?_
      refine at_last (pc := 8) (by decide +kernel) (fun h1 e1 => ?_)
      refine at_goto (pc := 9) (off := 9) (tgt := 18) (by decide +kernel) (by decide) ?_
      refine at_iconst (pc := 18) (n := 0) (v := nI 0) (by decide +kernel) rfl ?_
      exact at_iret (x := (nI 0, h1)) (pc := 19) (by decide +kernel) rfl rfl (Nat.le_of_ble_eq_true rfl) (Nat.le_of_ble_eq_true rfl)
  · obtain ⟨y, h2⟩ := y
    cases y with
    | inl v => cases he
    | inr E2 =>
      cases he
      change (cC E ["java/lang/IndexOutOfBoundsException", "java/lang/IllegalStateException"] 0).map _ = some r at hf
      by_cases c0 : E = "java/lang/IndexOutOfBoundsException"
      · subst c0
        cases hf
        refine ⟨1, [], ⟨0, 9, 12, 24⟩, [⟨0, 9, 15, 44⟩], "java/lang/IndexOutOfBoundsException", rfl, rfl, (fun w hw => by cases hw), by decide, by decide, clk_24, by decide +kernel, ⟨3, 1, by decide, Or.inl ⟨rfl, 3, rfl, by decide +kernel⟩, by decide +kernel, by decide +kernel⟩⟩
      · rw [cC, if_neg c0] at hf
        by_cases c1 : E = "java/lang/IllegalStateException"
        · subst c1
          cases hf
          refine ⟨2, [⟨0, 9, 12, 24⟩], ⟨0, 9, 15, 44⟩, [], "java/lang/IllegalStateException", rfl, rfl, (fun w hw => ?_), by decide, by decide, clk_44, by decide +kernel, ⟨3, 1, by decide, Or.inl ⟨rfl, 3, rfl, by decide +kernel⟩, by decide +kernel, by decide +kernel⟩⟩
          simp only [List.mem_cons, List.not_mem_nil, or_false] at hw
          subst hw
          exact ⟨by decide, by decide, "java/lang/IndexOutOfBoundsException", clk_24, by decide +kernel⟩
        · rw [cC, if_neg c1] at hf
          cases hf
theorem okL_fetch {l : Launch} (hl : l.stackTraces = false) {x0 : Nat} {x1 : Int32} {xo : Nat} {h : ab_H} {y : Int32 × ab_H} (e : fL_fetch x0 x1 xo h = some y) : ab_MetX l mL_fetch hL_fetch [.ref x0, .int x1, .ref xo] h ((fun r : Int32 × ab_H => ((.inl (some (.int r.1)), r.2) : ab_R × ab_H)) y) := ab_ofT (io := (fun r : Int32 × ab_H => ((.inl (some (.int r.1)), r.2) : ab_R × ab_H))) (x := y) hl (by decide) rfl (Nat.le_of_ble_eq_true rfl) (wL_fetch hl x0 x1 xo h) e
def hL_mix : List (Nat × Nat × Nat × Nat) := [(0, 10, 13, 24), (0, 10, 17, 13), (0, 10, 21, 44)]
def mL_mix : ab_M := (yL_mix, cL_mix, 5, (some .int), { frames := 9, cells := 4, slots := 24, locals := 155 })
theorem cwL_mix : Cond.codeWith yL_mix cL_mix 5 (some .int) hL_mix ∈ ab_tb := ab_in5 _ (List.mem_of_getElem? (i := 88) rfl) rfl
def fL_mix (x0 : Nat) (x1 : Int32) (x2 : Int32) (xo : Nat) (h : ab_H) : Option (Int32 × ab_H) := ab_ck (ab_io h x0 11 = true) (ab_bd (fX11_mix x0 x1 x2 h) fun y => y.1.elim (fun v => (ab_bd (ab_lw y.2 xo (nI 0) v.toInt64) fun h1 => some (nI 0, h1))) (fun E => (cC E ["java/lang/IndexOutOfBoundsException", "java/lang/IllegalArgumentException", "java/lang/IllegalStateException"] 0).map (fun c => (c, y.2))))
theorem wL_mix {l : Launch} (hl : l.stackTraces = false) (x0 : Nat) (x1 : Int32) (x2 : Int32) (xo : Nat) (h : ab_H) : ab_T l mL_mix hL_mix (fun r : Int32 × ab_H => ((.inl (some (.int r.1)), r.2) : ab_R × ab_H)) 0 0 (fL_mix x0 x1 x2 xo h) 0 [(0, .ref x0), (1, .int x1), (2, .int x2), (3, .ref xo)] [] h := by
  unfold fL_mix
  refine at_aload_n (pc := 0) (n := 3) (i := 3) (j := 3) (by decide +kernel) rfl rfl ?_
  refine at_iconst (pc := 1) (n := 0) (v := nI 0) (by decide +kernel) rfl ?_
  refine at_aload_n (pc := 2) (n := 0) (i := 0) (j := 0) (by decide +kernel) rfl rfl ?_
  refine at_iload_n (pc := 3) (n := 1) (i := 1) (j := 1) (by decide +kernel) rfl rfl ?_
  refine at_iload_n (pc := 4) (n := 2) (i := 2) (j := 2) (by decide +kernel) rfl rfl ?_
  refine at_callV (M' := mX11_mix) (As := [.int x1, .int x2]) (st := [.int (nI 0), .ref xo]) (a := x0) (ci := 11) (index := 49) (n := 2) (CN := "HungFaces") (pc := 5) rfl iX11_mix kw_bca3848f42 kw_da9246f853 kw_de44712d1e rfl rfl rfl (Nat.le_of_ble_eq_true rfl) (by decide +kernel) (fun y e => okX11_mix hl e) (fun y v h' hu he => ?_) rfl (fun y E h' r hu he hf => ?_)
  · obtain ⟨y, h2⟩ := y
    cases y with
    | inr E => cases he
    | inl v =>
      cases he
      refine at_i2l (pc := 8) (by decide +kernel) ?_
      refine at_last (pc := 9) (by decide +kernel) (fun h1 e1 => ?_)
      refine at_goto (pc := 10) (off := 15) (tgt := 25) (by decide +kernel) (by decide) ?_
      refine at_iconst (pc := 25) (n := 0) (v := nI 0) (by decide +kernel) rfl ?_
      exact at_iret (x := (nI 0, h1)) (pc := 26) (by decide +kernel) rfl rfl (Nat.le_of_ble_eq_true rfl) (Nat.le_of_ble_eq_true rfl)
  · obtain ⟨y, h2⟩ := y
    cases y with
    | inl v => cases he
    | inr E2 =>
      cases he
      change (cC E ["java/lang/IndexOutOfBoundsException", "java/lang/IllegalArgumentException", "java/lang/IllegalStateException"] 0).map _ = some r at hf
      by_cases c0 : E = "java/lang/IndexOutOfBoundsException"
      · subst c0
        cases hf
        refine ⟨1, [], ⟨0, 10, 13, 24⟩, [⟨0, 10, 17, 13⟩, ⟨0, 10, 21, 44⟩], "java/lang/IndexOutOfBoundsException", rfl, rfl, (fun w hw => by cases hw), by decide, by decide, clk_24, by decide +kernel, ⟨4, 2, by decide, Or.inr ⟨rfl, by decide +kernel⟩, by decide +kernel, by decide +kernel⟩⟩
      · rw [cC, if_neg c0] at hf
        by_cases c1 : E = "java/lang/IllegalArgumentException"
        · subst c1
          cases hf
          refine ⟨2, [⟨0, 10, 13, 24⟩], ⟨0, 10, 17, 13⟩, [⟨0, 10, 21, 44⟩], "java/lang/IllegalArgumentException", rfl, rfl, (fun w hw => ?_), by decide, by decide, clk_13, by decide +kernel, ⟨4, 2, by decide, Or.inr ⟨rfl, by decide +kernel⟩, by decide +kernel, by decide +kernel⟩⟩
          simp only [List.mem_cons, List.not_mem_nil, or_false] at hw
          subst hw
          exact ⟨by decide, by decide, "java/lang/IndexOutOfBoundsException", clk_24, by decide +kernel⟩
        · rw [cC, if_neg c1] at hf
          by_cases c2 : E = "java/lang/IllegalStateException"
          · subst c2
            cases hf
            refine ⟨3, [⟨0, 10, 13, 24⟩, ⟨0, 10, 17, 13⟩], ⟨0, 10, 21, 44⟩, [], "java/lang/IllegalStateException", rfl, rfl, (fun w hw => ?_), by decide, by decide, clk_44, by decide +kernel, ⟨4, 2, by decide, Or.inr ⟨rfl, by decide +kernel⟩, by decide +kernel, by decide +kernel⟩⟩
            simp only [List.mem_cons, List.not_mem_nil, or_false] at hw
            rcases hw with rfl | rfl
            · exact ⟨by decide, by decide, "java/lang/IndexOutOfBoundsException", clk_24, by decide +kernel⟩
            · exact ⟨by decide, by decide, "java/lang/IllegalArgumentException", clk_13, by decide +kernel⟩
          · rw [cC, if_neg c2] at hf
            cases hf
theorem okL_mix {l : Launch} (hl : l.stackTraces = false) {x0 : Nat} {x1 : Int32} {x2 : Int32} {xo : Nat} {h : ab_H} {y : Int32 × ab_H} (e : fL_mix x0 x1 x2 xo h = some y) : ab_MetX l mL_mix hL_mix [.ref x0, .int x1, .int x2, .ref xo] h ((fun r : Int32 × ab_H => ((.inl (some (.int r.1)), r.2) : ab_R × ab_H)) y) := ab_ofT (io := (fun r : Int32 × ab_H => ((.inl (some (.int r.1)), r.2) : ab_R × ab_H))) (x := y) hl (by decide) rfl (Nat.le_of_ble_eq_true rfl) (wL_mix hl x0 x1 x2 xo h) e
def hL_steal : List (Nat × Nat × Nat × Nat) := [(0, 10, 13, 24), (0, 10, 17, 44)]
def mL_steal : ab_M := (yL_steal, cL_steal, 5, (some .int), { frames := 8, cells := 3, slots := 18, locals := 133 })
theorem cwL_steal : Cond.codeWith yL_steal cL_steal 5 (some .int) hL_steal ∈ ab_tb := ab_in5 _ (List.mem_of_getElem? (i := 102) rfl) rfl
def fL_steal (x0 : Nat) (x1 : Int32) (x2 : Int32) (xo : Nat) (h : ab_H) : Option (Int32 × ab_H) := ab_ck (ab_io h x0 11 = true) (ab_bd (fX11_steal x0 x1 x2 h) fun y => y.1.elim (fun v => (ab_bd (ab_lw y.2 xo (nI 0) v.toInt64) fun h1 => some (nI 0, h1))) (fun E => (cC E ["java/lang/IndexOutOfBoundsException", "java/lang/IllegalStateException"] 0).map (fun c => (c, y.2))))
theorem wL_steal {l : Launch} (hl : l.stackTraces = false) (x0 : Nat) (x1 : Int32) (x2 : Int32) (xo : Nat) (h : ab_H) : ab_T l mL_steal hL_steal (fun r : Int32 × ab_H => ((.inl (some (.int r.1)), r.2) : ab_R × ab_H)) 0 0 (fL_steal x0 x1 x2 xo h) 0 [(0, .ref x0), (1, .int x1), (2, .int x2), (3, .ref xo)] [] h := by
  unfold fL_steal
  refine at_aload_n (pc := 0) (n := 3) (i := 3) (j := 3) (by decide +kernel) rfl rfl ?_
  refine at_iconst (pc := 1) (n := 0) (v := nI 0) (by decide +kernel) rfl ?_
  refine at_aload_n (pc := 2) (n := 0) (i := 0) (j := 0) (by decide +kernel) rfl rfl ?_
  refine at_iload_n (pc := 3) (n := 1) (i := 1) (j := 1) (by decide +kernel) rfl rfl ?_
  refine at_iload_n (pc := 4) (n := 2) (i := 2) (j := 2) (by decide +kernel) rfl rfl ?_
  refine at_callV (M' := mX11_steal) (As := [.int x1, .int x2]) (st := [.int (nI 0), .ref xo]) (a := x0) (ci := 11) (index := 52) (n := 2) (CN := "HungFaces") (pc := 5) rfl iX11_steal kw_92aefca298 kw_bc07218ebb kw_4117738f0a rfl rfl rfl (Nat.le_of_ble_eq_true rfl) (by decide +kernel) (fun y e => okX11_steal hl e) (fun y v h' hu he => ?_) rfl (fun y E h' r hu he hf => ?_)
  · obtain ⟨y, h2⟩ := y
    cases y with
    | inr E => cases he
    | inl v =>
      cases he
      refine at_i2l (pc := 8) (by decide +kernel) ?_
      refine at_last (pc := 9) (by decide +kernel) (fun h1 e1 => ?_)
      refine at_goto (pc := 10) (off := 11) (tgt := 21) (by decide +kernel) (by decide) ?_
      refine at_iconst (pc := 21) (n := 0) (v := nI 0) (by decide +kernel) rfl ?_
      exact at_iret (x := (nI 0, h1)) (pc := 22) (by decide +kernel) rfl rfl (Nat.le_of_ble_eq_true rfl) (Nat.le_of_ble_eq_true rfl)
  · obtain ⟨y, h2⟩ := y
    cases y with
    | inl v => cases he
    | inr E2 =>
      cases he
      change (cC E ["java/lang/IndexOutOfBoundsException", "java/lang/IllegalStateException"] 0).map _ = some r at hf
      by_cases c0 : E = "java/lang/IndexOutOfBoundsException"
      · subst c0
        cases hf
        refine ⟨1, [], ⟨0, 10, 13, 24⟩, [⟨0, 10, 17, 44⟩], "java/lang/IndexOutOfBoundsException", rfl, rfl, (fun w hw => by cases hw), by decide, by decide, clk_24, by decide +kernel, ⟨4, 2, by decide, Or.inr ⟨rfl, by decide +kernel⟩, by decide +kernel, by decide +kernel⟩⟩
      · rw [cC, if_neg c0] at hf
        by_cases c1 : E = "java/lang/IllegalStateException"
        · subst c1
          cases hf
          refine ⟨2, [⟨0, 10, 13, 24⟩], ⟨0, 10, 17, 44⟩, [], "java/lang/IllegalStateException", rfl, rfl, (fun w hw => ?_), by decide, by decide, clk_44, by decide +kernel, ⟨4, 2, by decide, Or.inr ⟨rfl, by decide +kernel⟩, by decide +kernel, by decide +kernel⟩⟩
          simp only [List.mem_cons, List.not_mem_nil, or_false] at hw
          subst hw
          exact ⟨by decide, by decide, "java/lang/IndexOutOfBoundsException", clk_24, by decide +kernel⟩
        · rw [cC, if_neg c1] at hf
          cases hf
theorem okL_steal {l : Launch} (hl : l.stackTraces = false) {x0 : Nat} {x1 : Int32} {x2 : Int32} {xo : Nat} {h : ab_H} {y : Int32 × ab_H} (e : fL_steal x0 x1 x2 xo h = some y) : ab_MetX l mL_steal hL_steal [.ref x0, .int x1, .int x2, .ref xo] h ((fun r : Int32 × ab_H => ((.inl (some (.int r.1)), r.2) : ab_R × ab_H)) y) := ab_ofT (io := (fun r : Int32 × ab_H => ((.inl (some (.int r.1)), r.2) : ab_R × ab_H))) (x := y) hl (by decide) rfl (Nat.le_of_ble_eq_true rfl) (wL_steal hl x0 x1 x2 xo h) e
def hL_change : List (Nat × Nat × Nat × Nat) := [(0, 10, 13, 24), (0, 10, 17, 13), (0, 10, 21, 44)]
def mL_change : ab_M := (yL_change, cL_change, 5, (some .int), { frames := 9, cells := 4, slots := 24, locals := 156 })
theorem cwL_change : Cond.codeWith yL_change cL_change 5 (some .int) hL_change ∈ ab_tb := ab_in5 _ (List.mem_of_getElem? (i := 114) rfl) rfl
def fL_change (x0 : Nat) (x1 : Int32) (x2 : Int32) (xo : Nat) (h : ab_H) : Option (Int32 × ab_H) := ab_ck (ab_io h x0 11 = true) (ab_bd (fX11_change x0 x1 x2 h) fun y => y.1.elim (fun v => (ab_bd (ab_lw y.2 xo (nI 0) v.toInt64) fun h1 => some (nI 0, h1))) (fun E => (cC E ["java/lang/IndexOutOfBoundsException", "java/lang/IllegalArgumentException", "java/lang/IllegalStateException"] 0).map (fun c => (c, y.2))))
theorem wL_change {l : Launch} (hl : l.stackTraces = false) (x0 : Nat) (x1 : Int32) (x2 : Int32) (xo : Nat) (h : ab_H) : ab_T l mL_change hL_change (fun r : Int32 × ab_H => ((.inl (some (.int r.1)), r.2) : ab_R × ab_H)) 0 0 (fL_change x0 x1 x2 xo h) 0 [(0, .ref x0), (1, .int x1), (2, .int x2), (3, .ref xo)] [] h := by
  unfold fL_change
  refine at_aload_n (pc := 0) (n := 3) (i := 3) (j := 3) (by decide +kernel) rfl rfl ?_
  refine at_iconst (pc := 1) (n := 0) (v := nI 0) (by decide +kernel) rfl ?_
  refine at_aload_n (pc := 2) (n := 0) (i := 0) (j := 0) (by decide +kernel) rfl rfl ?_
  refine at_iload_n (pc := 3) (n := 1) (i := 1) (j := 1) (by decide +kernel) rfl rfl ?_
  refine at_iload_n (pc := 4) (n := 2) (i := 2) (j := 2) (by decide +kernel) rfl rfl ?_
  refine at_callV (M' := mX11_change) (As := [.int x1, .int x2]) (st := [.int (nI 0), .ref xo]) (a := x0) (ci := 11) (index := 55) (n := 2) (CN := "HungFaces") (pc := 5) rfl iX11_change kw_c9998ddb1f kw_64a07c9e4c kw_cec4dbfb21 rfl rfl rfl (Nat.le_of_ble_eq_true rfl) (by decide +kernel) (fun y e => okX11_change hl e) (fun y v h' hu he => ?_) rfl (fun y E h' r hu he hf => ?_)
  · obtain ⟨y, h2⟩ := y
    cases y with
    | inr E => cases he
    | inl v =>
      cases he
      refine at_i2l (pc := 8) (by decide +kernel) ?_
      refine at_last (pc := 9) (by decide +kernel) (fun h1 e1 => ?_)
      refine at_goto (pc := 10) (off := 15) (tgt := 25) (by decide +kernel) (by decide) ?_
      refine at_iconst (pc := 25) (n := 0) (v := nI 0) (by decide +kernel) rfl ?_
      exact at_iret (x := (nI 0, h1)) (pc := 26) (by decide +kernel) rfl rfl (Nat.le_of_ble_eq_true rfl) (Nat.le_of_ble_eq_true rfl)
  · obtain ⟨y, h2⟩ := y
    cases y with
    | inl v => cases he
    | inr E2 =>
      cases he
      change (cC E ["java/lang/IndexOutOfBoundsException", "java/lang/IllegalArgumentException", "java/lang/IllegalStateException"] 0).map _ = some r at hf
      by_cases c0 : E = "java/lang/IndexOutOfBoundsException"
      · subst c0
        cases hf
        refine ⟨1, [], ⟨0, 10, 13, 24⟩, [⟨0, 10, 17, 13⟩, ⟨0, 10, 21, 44⟩], "java/lang/IndexOutOfBoundsException", rfl, rfl, (fun w hw => by cases hw), by decide, by decide, clk_24, by decide +kernel, ⟨4, 2, by decide, Or.inr ⟨rfl, by decide +kernel⟩, by decide +kernel, by decide +kernel⟩⟩
      · rw [cC, if_neg c0] at hf
        by_cases c1 : E = "java/lang/IllegalArgumentException"
        · subst c1
          cases hf
          refine ⟨2, [⟨0, 10, 13, 24⟩], ⟨0, 10, 17, 13⟩, [⟨0, 10, 21, 44⟩], "java/lang/IllegalArgumentException", rfl, rfl, (fun w hw => ?_), by decide, by decide, clk_13, by decide +kernel, ⟨4, 2, by decide, Or.inr ⟨rfl, by decide +kernel⟩, by decide +kernel, by decide +kernel⟩⟩
          simp only [List.mem_cons, List.not_mem_nil, or_false] at hw
          subst hw
          exact ⟨by decide, by decide, "java/lang/IndexOutOfBoundsException", clk_24, by decide +kernel⟩
        · rw [cC, if_neg c1] at hf
          by_cases c2 : E = "java/lang/IllegalStateException"
          · subst c2
            cases hf
            refine ⟨3, [⟨0, 10, 13, 24⟩, ⟨0, 10, 17, 13⟩], ⟨0, 10, 21, 44⟩, [], "java/lang/IllegalStateException", rfl, rfl, (fun w hw => ?_), by decide, by decide, clk_44, by decide +kernel, ⟨4, 2, by decide, Or.inr ⟨rfl, by decide +kernel⟩, by decide +kernel, by decide +kernel⟩⟩
            simp only [List.mem_cons, List.not_mem_nil, or_false] at hw
            rcases hw with rfl | rfl
            · exact ⟨by decide, by decide, "java/lang/IndexOutOfBoundsException", clk_24, by decide +kernel⟩
            · exact ⟨by decide, by decide, "java/lang/IllegalArgumentException", clk_13, by decide +kernel⟩
          · rw [cC, if_neg c2] at hf
            cases hf
theorem okL_change {l : Launch} (hl : l.stackTraces = false) {x0 : Nat} {x1 : Int32} {x2 : Int32} {xo : Nat} {h : ab_H} {y : Int32 × ab_H} (e : fL_change x0 x1 x2 xo h = some y) : ab_MetX l mL_change hL_change [.ref x0, .int x1, .int x2, .ref xo] h ((fun r : Int32 × ab_H => ((.inl (some (.int r.1)), r.2) : ab_R × ab_H)) y) := ab_ofT (io := (fun r : Int32 × ab_H => ((.inl (some (.int r.1)), r.2) : ab_R × ab_H))) (x := y) hl (by decide) rfl (Nat.le_of_ble_eq_true rfl) (wL_change hl x0 x1 x2 xo h) e
def hL_shave : List (Nat × Nat × Nat × Nat) := [(0, 10, 13, 24), (0, 10, 17, 44)]
def mL_shave : ab_M := (yL_shave, cL_shave, 5, (some .int), { frames := 8, cells := 3, slots := 18, locals := 133 })
theorem cwL_shave : Cond.codeWith yL_shave cL_shave 5 (some .int) hL_shave ∈ ab_tb := ab_in5 _ (List.mem_of_getElem? (i := 122) rfl) rfl
def fL_shave (x0 : Nat) (x1 : Int32) (x2 : Int32) (xo : Nat) (h : ab_H) : Option (Int32 × ab_H) := ab_ck (ab_io h x0 11 = true) (ab_bd (fX11_shave x0 x1 x2 h) fun y => y.1.elim (fun v => (ab_bd (ab_lw y.2 xo (nI 0) v.toInt64) fun h1 => some (nI 0, h1))) (fun E => (cC E ["java/lang/IndexOutOfBoundsException", "java/lang/IllegalStateException"] 0).map (fun c => (c, y.2))))
theorem wL_shave {l : Launch} (hl : l.stackTraces = false) (x0 : Nat) (x1 : Int32) (x2 : Int32) (xo : Nat) (h : ab_H) : ab_T l mL_shave hL_shave (fun r : Int32 × ab_H => ((.inl (some (.int r.1)), r.2) : ab_R × ab_H)) 0 0 (fL_shave x0 x1 x2 xo h) 0 [(0, .ref x0), (1, .int x1), (2, .int x2), (3, .ref xo)] [] h := by
  unfold fL_shave
  refine at_aload_n (pc := 0) (n := 3) (i := 3) (j := 3) (by decide +kernel) rfl rfl ?_
  refine at_iconst (pc := 1) (n := 0) (v := nI 0) (by decide +kernel) rfl ?_
  refine at_aload_n (pc := 2) (n := 0) (i := 0) (j := 0) (by decide +kernel) rfl rfl ?_
  refine at_iload_n (pc := 3) (n := 1) (i := 1) (j := 1) (by decide +kernel) rfl rfl ?_
  refine at_iload_n (pc := 4) (n := 2) (i := 2) (j := 2) (by decide +kernel) rfl rfl ?_
  refine at_callV (M' := mX11_shave) (As := [.int x1, .int x2]) (st := [.int (nI 0), .ref xo]) (a := x0) (ci := 11) (index := 58) (n := 2) (CN := "HungFaces") (pc := 5) rfl iX11_shave kw_894186f74a kw_2e1df418e0 kw_acce640f68 rfl rfl rfl (Nat.le_of_ble_eq_true rfl) (by decide +kernel) (fun y e => okX11_shave hl e) (fun y v h' hu he => ?_) rfl (fun y E h' r hu he hf => ?_)
  · obtain ⟨y, h2⟩ := y
    cases y with
    | inr E => cases he
    | inl v =>
      cases he
      refine at_i2l (pc := 8) (by decide +kernel) ?_
      refine at_last (pc := 9) (by decide +kernel) (fun h1 e1 => ?_)
      refine at_goto (pc := 10) (off := 11) (tgt := 21) (by decide +kernel) (by decide) ?_
      refine at_iconst (pc := 21) (n := 0) (v := nI 0) (by decide +kernel) rfl ?_
      exact at_iret (x := (nI 0, h1)) (pc := 22) (by decide +kernel) rfl rfl (Nat.le_of_ble_eq_true rfl) (Nat.le_of_ble_eq_true rfl)
  · obtain ⟨y, h2⟩ := y
    cases y with
    | inl v => cases he
    | inr E2 =>
      cases he
      change (cC E ["java/lang/IndexOutOfBoundsException", "java/lang/IllegalStateException"] 0).map _ = some r at hf
      by_cases c0 : E = "java/lang/IndexOutOfBoundsException"
      · subst c0
        cases hf
        refine ⟨1, [], ⟨0, 10, 13, 24⟩, [⟨0, 10, 17, 44⟩], "java/lang/IndexOutOfBoundsException", rfl, rfl, (fun w hw => by cases hw), by decide, by decide, clk_24, by decide +kernel, ⟨4, 2, by decide, Or.inr ⟨rfl, by decide +kernel⟩, by decide +kernel, by decide +kernel⟩⟩
      · rw [cC, if_neg c0] at hf
        by_cases c1 : E = "java/lang/IllegalStateException"
        · subst c1
          cases hf
          refine ⟨2, [⟨0, 10, 13, 24⟩], ⟨0, 10, 17, 44⟩, [], "java/lang/IllegalStateException", rfl, rfl, (fun w hw => ?_), by decide, by decide, clk_44, by decide +kernel, ⟨4, 2, by decide, Or.inr ⟨rfl, by decide +kernel⟩, by decide +kernel, by decide +kernel⟩⟩
          simp only [List.mem_cons, List.not_mem_nil, or_false] at hw
          subst hw
          exact ⟨by decide, by decide, "java/lang/IndexOutOfBoundsException", clk_24, by decide +kernel⟩
        · rw [cC, if_neg c1] at hf
          cases hf
theorem okL_shave {l : Launch} (hl : l.stackTraces = false) {x0 : Nat} {x1 : Int32} {x2 : Int32} {xo : Nat} {h : ab_H} {y : Int32 × ab_H} (e : fL_shave x0 x1 x2 xo h = some y) : ab_MetX l mL_shave hL_shave [.ref x0, .int x1, .int x2, .ref xo] h ((fun r : Int32 × ab_H => ((.inl (some (.int r.1)), r.2) : ab_R × ab_H)) y) := ab_ofT (io := (fun r : Int32 × ab_H => ((.inl (some (.int r.1)), r.2) : ab_R × ab_H))) (x := y) hl (by decide) rfl (Nat.le_of_ble_eq_true rfl) (wL_shave hl x0 x1 x2 xo h) e
def hL_graft : List (Nat × Nat × Nat × Nat) := [(0, 12, 15, 24), (0, 12, 19, 13), (0, 12, 23, 44)]
def mL_graft : ab_M := (yL_graft, cL_graft, 6, (some .int), { frames := 8, cells := 5, slots := 30, locals := 134 })
theorem cwL_graft : Cond.codeWith yL_graft cL_graft 6 (some .int) hL_graft ∈ ab_tb := ab_in5 _ (List.mem_of_getElem? (i := 134) rfl) rfl
def fL_graft (x0 : Nat) (x1 : Int32) (x2 : Int32) (x3 : Int32) (xo : Nat) (h : ab_H) : Option (Int32 × ab_H) := ab_ck (ab_io h x0 11 = true) (ab_bd (fX11_graft x0 x1 x2 x3 h) fun y => y.1.elim (fun v => (ab_bd (ab_lw y.2 xo (nI 0) v.toInt64) fun h1 => some (nI 0, h1))) (fun E => (cC E ["java/lang/IndexOutOfBoundsException", "java/lang/IllegalArgumentException", "java/lang/IllegalStateException"] 0).map (fun c => (c, y.2))))
theorem wL_graft {l : Launch} (hl : l.stackTraces = false) (x0 : Nat) (x1 : Int32) (x2 : Int32) (x3 : Int32) (xo : Nat) (h : ab_H) : ab_T l mL_graft hL_graft (fun r : Int32 × ab_H => ((.inl (some (.int r.1)), r.2) : ab_R × ab_H)) 0 0 (fL_graft x0 x1 x2 x3 xo h) 0 [(0, .ref x0), (1, .int x1), (2, .int x2), (3, .int x3), (4, .ref xo)] [] h := by
  unfold fL_graft
  refine at_aload (pc := 0) (i := 4) (j := 4) (by decide +kernel) rfl ?_
  refine at_iconst (pc := 2) (n := 0) (v := nI 0) (by decide +kernel) rfl ?_
  refine at_aload_n (pc := 3) (n := 0) (i := 0) (j := 0) (by decide +kernel) rfl rfl ?_
  refine at_iload_n (pc := 4) (n := 1) (i := 1) (j := 1) (by decide +kernel) rfl rfl ?_
  refine at_iload_n (pc := 5) (n := 2) (i := 2) (j := 2) (by decide +kernel) rfl rfl ?_
  refine at_iload_n (pc := 6) (n := 3) (i := 3) (j := 3) (by decide +kernel) rfl rfl ?_
  refine at_callV (M' := mX11_graft) (As := [.int x1, .int x2, .int x3]) (st := [.int (nI 0), .ref xo]) (a := x0) (ci := 11) (index := 61) (n := 3) (CN := "HungFaces") (pc := 7) rfl iX11_graft kw_42885a6d80 kw_c458ad33fa kw_0ad59d2833 rfl rfl rfl (Nat.le_of_ble_eq_true rfl) (by decide +kernel) (fun y e => okX11_graft hl e) (fun y v h' hu he => ?_) rfl (fun y E h' r hu he hf => ?_)
  · obtain ⟨y, h2⟩ := y
    cases y with
    | inr E => cases he
    | inl v =>
      cases he
      refine at_i2l (pc := 10) (by decide +kernel) ?_
      refine at_last (pc := 11) (by decide +kernel) (fun h1 e1 => ?_)
      refine at_goto (pc := 12) (off := 15) (tgt := 27) (by decide +kernel) (by decide) ?_
      refine at_iconst (pc := 27) (n := 0) (v := nI 0) (by decide +kernel) rfl ?_
      exact at_iret (x := (nI 0, h1)) (pc := 28) (by decide +kernel) rfl rfl (Nat.le_of_ble_eq_true rfl) (Nat.le_of_ble_eq_true rfl)
  · obtain ⟨y, h2⟩ := y
    cases y with
    | inl v => cases he
    | inr E2 =>
      cases he
      change (cC E ["java/lang/IndexOutOfBoundsException", "java/lang/IllegalArgumentException", "java/lang/IllegalStateException"] 0).map _ = some r at hf
      by_cases c0 : E = "java/lang/IndexOutOfBoundsException"
      · subst c0
        cases hf
        refine ⟨1, [], ⟨0, 12, 15, 24⟩, [⟨0, 12, 19, 13⟩, ⟨0, 12, 23, 44⟩], "java/lang/IndexOutOfBoundsException", rfl, rfl, (fun w hw => by cases hw), by decide, by decide, clk_24, by decide +kernel, ⟨5, 2, by decide, Or.inr ⟨rfl, by decide +kernel⟩, by decide +kernel, by decide +kernel⟩⟩
      · rw [cC, if_neg c0] at hf
        by_cases c1 : E = "java/lang/IllegalArgumentException"
        · subst c1
          cases hf
          refine ⟨2, [⟨0, 12, 15, 24⟩], ⟨0, 12, 19, 13⟩, [⟨0, 12, 23, 44⟩], "java/lang/IllegalArgumentException", rfl, rfl, (fun w hw => ?_), by decide, by decide, clk_13, by decide +kernel, ⟨5, 2, by decide, Or.inr ⟨rfl, by decide +kernel⟩, by decide +kernel, by decide +kernel⟩⟩
          simp only [List.mem_cons, List.not_mem_nil, or_false] at hw
          subst hw
          exact ⟨by decide, by decide, "java/lang/IndexOutOfBoundsException", clk_24, by decide +kernel⟩
        · rw [cC, if_neg c1] at hf
          by_cases c2 : E = "java/lang/IllegalStateException"
          · subst c2
            cases hf
            refine ⟨3, [⟨0, 12, 15, 24⟩, ⟨0, 12, 19, 13⟩], ⟨0, 12, 23, 44⟩, [], "java/lang/IllegalStateException", rfl, rfl, (fun w hw => ?_), by decide, by decide, clk_44, by decide +kernel, ⟨5, 2, by decide, Or.inr ⟨rfl, by decide +kernel⟩, by decide +kernel, by decide +kernel⟩⟩
            simp only [List.mem_cons, List.not_mem_nil, or_false] at hw
            rcases hw with rfl | rfl
            · exact ⟨by decide, by decide, "java/lang/IndexOutOfBoundsException", clk_24, by decide +kernel⟩
            · exact ⟨by decide, by decide, "java/lang/IllegalArgumentException", clk_13, by decide +kernel⟩
          · rw [cC, if_neg c2] at hf
            cases hf
theorem okL_graft {l : Launch} (hl : l.stackTraces = false) {x0 : Nat} {x1 : Int32} {x2 : Int32} {x3 : Int32} {xo : Nat} {h : ab_H} {y : Int32 × ab_H} (e : fL_graft x0 x1 x2 x3 xo h = some y) : ab_MetX l mL_graft hL_graft [.ref x0, .int x1, .int x2, .int x3, .ref xo] h ((fun r : Int32 × ab_H => ((.inl (some (.int r.1)), r.2) : ab_R × ab_H)) y) := ab_ofT (io := (fun r : Int32 × ab_H => ((.inl (some (.int r.1)), r.2) : ab_R × ab_H))) (x := y) hl (by decide) rfl (Nat.le_of_ble_eq_true rfl) (wL_graft hl x0 x1 x2 x3 xo h) e
def hL_meet : List (Nat × Nat × Nat × Nat) := [(0, 10, 13, 24), (0, 10, 17, 13)]
def mL_meet : ab_M := (yL_meet, cL_meet, 5, (some .int), { frames := 9, cells := 3, slots := 18, locals := 155 })
theorem cwL_meet : Cond.codeWith yL_meet cL_meet 5 (some .int) hL_meet ∈ ab_tb := ab_in5 _ (List.mem_of_getElem? (i := 142) rfl) rfl
def fL_meet (x0 : Nat) (x1 : Int32) (x2 : Int32) (xo : Nat) (h : ab_H) : Option (Int32 × ab_H) := ab_ck (ab_io h x0 11 = true) (ab_bd (fX11_meet x0 x1 x2 h) fun y => y.1.elim (fun v => (ab_bd (ab_lw y.2 xo (nI 0) v.toInt64) fun h1 => some (nI 0, h1))) (fun E => (cC E ["java/lang/IndexOutOfBoundsException", "java/lang/IllegalArgumentException"] 0).map (fun c => (c, y.2))))
theorem wL_meet {l : Launch} (hl : l.stackTraces = false) (x0 : Nat) (x1 : Int32) (x2 : Int32) (xo : Nat) (h : ab_H) : ab_T l mL_meet hL_meet (fun r : Int32 × ab_H => ((.inl (some (.int r.1)), r.2) : ab_R × ab_H)) 0 0 (fL_meet x0 x1 x2 xo h) 0 [(0, .ref x0), (1, .int x1), (2, .int x2), (3, .ref xo)] [] h := by
  unfold fL_meet
  refine at_aload_n (pc := 0) (n := 3) (i := 3) (j := 3) (by decide +kernel) rfl rfl ?_
  refine at_iconst (pc := 1) (n := 0) (v := nI 0) (by decide +kernel) rfl ?_
  refine at_aload_n (pc := 2) (n := 0) (i := 0) (j := 0) (by decide +kernel) rfl rfl ?_
  refine at_iload_n (pc := 3) (n := 1) (i := 1) (j := 1) (by decide +kernel) rfl rfl ?_
  refine at_iload_n (pc := 4) (n := 2) (i := 2) (j := 2) (by decide +kernel) rfl rfl ?_
  refine at_callV (M' := mX11_meet) (As := [.int x1, .int x2]) (st := [.int (nI 0), .ref xo]) (a := x0) (ci := 11) (index := 65) (n := 2) (CN := "HungFaces") (pc := 5) rfl iX11_meet kw_6d6e51a8f9 kw_20d2cffecc kw_c953183235 rfl rfl rfl (Nat.le_of_ble_eq_true rfl) (by decide +kernel) (fun y e => okX11_meet hl e) (fun y v h' hu he => ?_) rfl (fun y E h' r hu he hf => ?_)
  · obtain ⟨y, h2⟩ := y
    cases y with
    | inr E => cases he
    | inl v =>
      cases he
      refine at_i2l (pc := 8) (by decide +kernel) ?_
      refine at_last (pc := 9) (by decide +kernel) (fun h1 e1 => ?_)
      refine at_goto (pc := 10) (off := 11) (tgt := 21) (by decide +kernel) (by decide) ?_
      refine at_iconst (pc := 21) (n := 0) (v := nI 0) (by decide +kernel) rfl ?_
      exact at_iret (x := (nI 0, h1)) (pc := 22) (by decide +kernel) rfl rfl (Nat.le_of_ble_eq_true rfl) (Nat.le_of_ble_eq_true rfl)
  · obtain ⟨y, h2⟩ := y
    cases y with
    | inl v => cases he
    | inr E2 =>
      cases he
      change (cC E ["java/lang/IndexOutOfBoundsException", "java/lang/IllegalArgumentException"] 0).map _ = some r at hf
      by_cases c0 : E = "java/lang/IndexOutOfBoundsException"
      · subst c0
        cases hf
        refine ⟨1, [], ⟨0, 10, 13, 24⟩, [⟨0, 10, 17, 13⟩], "java/lang/IndexOutOfBoundsException", rfl, rfl, (fun w hw => by cases hw), by decide, by decide, clk_24, by decide +kernel, ⟨4, 2, by decide, Or.inr ⟨rfl, by decide +kernel⟩, by decide +kernel, by decide +kernel⟩⟩
      · rw [cC, if_neg c0] at hf
        by_cases c1 : E = "java/lang/IllegalArgumentException"
        · subst c1
          cases hf
          refine ⟨2, [⟨0, 10, 13, 24⟩], ⟨0, 10, 17, 13⟩, [], "java/lang/IllegalArgumentException", rfl, rfl, (fun w hw => ?_), by decide, by decide, clk_13, by decide +kernel, ⟨4, 2, by decide, Or.inr ⟨rfl, by decide +kernel⟩, by decide +kernel, by decide +kernel⟩⟩
          simp only [List.mem_cons, List.not_mem_nil, or_false] at hw
          subst hw
          exact ⟨by decide, by decide, "java/lang/IndexOutOfBoundsException", clk_24, by decide +kernel⟩
        · rw [cC, if_neg c1] at hf
          cases hf
theorem okL_meet {l : Launch} (hl : l.stackTraces = false) {x0 : Nat} {x1 : Int32} {x2 : Int32} {xo : Nat} {h : ab_H} {y : Int32 × ab_H} (e : fL_meet x0 x1 x2 xo h = some y) : ab_MetX l mL_meet hL_meet [.ref x0, .int x1, .int x2, .ref xo] h ((fun r : Int32 × ab_H => ((.inl (some (.int r.1)), r.2) : ab_R × ab_H)) y) := ab_ofT (io := (fun r : Int32 × ab_H => ((.inl (some (.int r.1)), r.2) : ab_R × ab_H))) (x := y) hl (by decide) rfl (Nat.le_of_ble_eq_true rfl) (wL_meet hl x0 x1 x2 xo h) e
def hL_hours : List (Nat × Nat × Nat × Nat) := [(0, 9, 12, 13)]
def mL_hours : ab_M := (yL_hours, cL_hours, 4, (some .int), { frames := 8, cells := 1, slots := 6, locals := 140 })
theorem cwL_hours : Cond.codeWith yL_hours cL_hours 4 (some .int) hL_hours ∈ ab_tb := ab_in5 _ (List.mem_of_getElem? (i := 153) rfl) rfl
def fL_hours (F : Nat) (x0 : Nat) (x1 : Int32) (xo : Nat) (h : ab_H) : Option (Int32 × ab_H) := ab_ck (ab_io h x0 11 = true) (ab_bd (fX11_hours F x0 x1 h) fun y => y.1.elim (fun v => (ab_bd (ab_lw y.2 xo (nI 0) v.toInt64) fun h1 => some (nI 0, h1))) (fun E => (cC E ["java/lang/IllegalArgumentException"] 0).map (fun c => (c, y.2))))
theorem wL_hours {l : Launch} (hl : l.stackTraces = false) (F : Nat) (x0 : Nat) (x1 : Int32) (xo : Nat) (h : ab_H) : ab_T l mL_hours hL_hours (fun r : Int32 × ab_H => ((.inl (some (.int r.1)), r.2) : ab_R × ab_H)) 0 0 (fL_hours F x0 x1 xo h) 0 [(0, .ref x0), (1, .int x1), (2, .ref xo)] [] h := by
  unfold fL_hours
  refine at_aload_n (pc := 0) (n := 2) (i := 2) (j := 2) (by decide +kernel) rfl rfl ?_
  refine at_iconst (pc := 1) (n := 0) (v := nI 0) (by decide +kernel) rfl ?_
  refine at_aload_n (pc := 2) (n := 0) (i := 0) (j := 0) (by decide +kernel) rfl rfl ?_
  refine at_iload_n (pc := 3) (n := 1) (i := 1) (j := 1) (by decide +kernel) rfl rfl ?_
  refine at_callV (M' := mX11_hours) (As := [.int x1]) (st := [.int (nI 0), .ref xo]) (a := x0) (ci := 11) (index := 68) (n := 1) (CN := "HungFaces") (pc := 4) rfl iX11_hours kw_797ed38989 kw_0adc4725be kw_133cfc6a90 rfl rfl rfl (Nat.le_of_ble_eq_true rfl) (by decide +kernel) (fun y e => okX11_hours hl (F := F) e) (fun y v h' hu he => ?_) rfl (fun y E h' r hu he hf => ?_)
  · obtain ⟨y, h2⟩ := y
    cases y with
    | inr E => cases he
    | inl v =>
      cases he
      refine at_i2l (pc := 7) (by decide +kernel) ?_
      refine at_last (pc := 8) (by decide +kernel) (fun h1 e1 => ?_)
      refine at_goto (pc := 9) (off := 6) (tgt := 15) (by decide +kernel) (by decide) ?_
      refine at_iconst (pc := 15) (n := 0) (v := nI 0) (by decide +kernel) rfl ?_
      exact at_iret (x := (nI 0, h1)) (pc := 16) (by decide +kernel) rfl rfl (Nat.le_of_ble_eq_true rfl) (Nat.le_of_ble_eq_true rfl)
  · obtain ⟨y, h2⟩ := y
    cases y with
    | inl v => cases he
    | inr E2 =>
      cases he
      change (cC E ["java/lang/IllegalArgumentException"] 0).map _ = some r at hf
      by_cases c0 : E = "java/lang/IllegalArgumentException"
      · subst c0
        cases hf
        refine ⟨1, [], ⟨0, 9, 12, 13⟩, [], "java/lang/IllegalArgumentException", rfl, rfl, (fun w hw => by cases hw), by decide, by decide, clk_13, by decide +kernel, ⟨3, 1, by decide, Or.inl ⟨rfl, 3, rfl, by decide +kernel⟩, by decide +kernel, by decide +kernel⟩⟩
      · rw [cC, if_neg c0] at hf
        cases hf
theorem okL_hours {l : Launch} (hl : l.stackTraces = false) {F : Nat} {x0 : Nat} {x1 : Int32} {xo : Nat} {h : ab_H} {y : Int32 × ab_H} (e : fL_hours F x0 x1 xo h = some y) : ab_MetX l mL_hours hL_hours [.ref x0, .int x1, .ref xo] h ((fun r : Int32 × ab_H => ((.inl (some (.int r.1)), r.2) : ab_R × ab_H)) y) := ab_ofT (io := (fun r : Int32 × ab_H => ((.inl (some (.int r.1)), r.2) : ab_R × ab_H))) (x := y) hl (by decide) rfl (Nat.le_of_ble_eq_true rfl) (wL_hours hl F x0 x1 xo h) e
def hL_passes : List (Nat × Nat × Nat × Nat) := [(0, 10, 13, 13)]
def mL_passes : ab_M := (yL_passes, cL_passes, 5, (some .int), { frames := 8, cells := 2, slots := 12, locals := 136 })
theorem cwL_passes : Cond.codeWith yL_passes cL_passes 5 (some .int) hL_passes ∈ ab_tb := ab_in5 _ (List.mem_of_getElem? (i := 209) rfl) rfl
def fL_passes (F : Nat) (x0 : Nat) (x1 : Int32) (x2 : Int32) (xo : Nat) (h : ab_H) : Option (Int32 × ab_H) := ab_ck (ab_io h x0 11 = true) (ab_bd (fX11_passes F x0 x1 x2 h) fun y => y.elim (fun v => (ab_bd (ab_lw h xo (nI 0) v.toInt64) fun h1 => some (nI 0, h1))) (fun E => (cC E ["java/lang/IllegalArgumentException"] 0).map (fun c => (c, h))))
theorem wL_passes {l : Launch} (hl : l.stackTraces = false) (F : Nat) (x0 : Nat) (x1 : Int32) (x2 : Int32) (xo : Nat) (h : ab_H) : ab_T l mL_passes hL_passes (fun r : Int32 × ab_H => ((.inl (some (.int r.1)), r.2) : ab_R × ab_H)) 0 0 (fL_passes F x0 x1 x2 xo h) 0 [(0, .ref x0), (1, .int x1), (2, .int x2), (3, .ref xo)] [] h := by
  unfold fL_passes
  refine at_aload_n (pc := 0) (n := 3) (i := 3) (j := 3) (by decide +kernel) rfl rfl ?_
  refine at_iconst (pc := 1) (n := 0) (v := nI 0) (by decide +kernel) rfl ?_
  refine at_aload_n (pc := 2) (n := 0) (i := 0) (j := 0) (by decide +kernel) rfl rfl ?_
  refine at_iload_n (pc := 3) (n := 1) (i := 1) (j := 1) (by decide +kernel) rfl rfl ?_
  refine at_iload_n (pc := 4) (n := 2) (i := 2) (j := 2) (by decide +kernel) rfl rfl ?_
  refine at_callV (M' := mX11_passes) (As := [.int x1, .int x2]) (st := [.int (nI 0), .ref xo]) (a := x0) (ci := 11) (index := 71) (n := 2) (CN := "HungFaces") (pc := 5) rfl iX11_passes kw_85f03187d3 kw_6820b4bfdb kw_98b319a85f rfl rfl rfl (Nat.le_of_ble_eq_true rfl) (by decide +kernel) (fun y e => okX11_passes hl (F := F) e) (fun y v h' hu he => ?_) rfl (fun y E h' r hu he hf => ?_)
  · cases y with
    | inr E => cases he
    | inl v =>
      cases he
      refine at_i2l (pc := 8) (by decide +kernel) ?_
      refine at_last (pc := 9) (by decide +kernel) (fun h1 e1 => ?_)
      refine at_goto (pc := 10) (off := 7) (tgt := 17) (by decide +kernel) (by decide) ?_
      refine at_iconst (pc := 17) (n := 0) (v := nI 0) (by decide +kernel) rfl ?_
      exact at_iret (x := (nI 0, h1)) (pc := 18) (by decide +kernel) rfl rfl (Nat.le_of_ble_eq_true rfl) (Nat.le_of_ble_eq_true rfl)
  · cases y with
    | inl v => cases he
    | inr E2 =>
      cases he
      change (cC E ["java/lang/IllegalArgumentException"] 0).map _ = some r at hf
      by_cases c0 : E = "java/lang/IllegalArgumentException"
      · subst c0
        cases hf
        refine ⟨1, [], ⟨0, 10, 13, 13⟩, [], "java/lang/IllegalArgumentException", rfl, rfl, (fun w hw => by cases hw), by decide, by decide, clk_13, by decide +kernel, ⟨4, 2, by decide, Or.inr ⟨rfl, by decide +kernel⟩, by decide +kernel, by decide +kernel⟩⟩
      · rw [cC, if_neg c0] at hf
        cases hf
theorem okL_passes {l : Launch} (hl : l.stackTraces = false) {F : Nat} {x0 : Nat} {x1 : Int32} {x2 : Int32} {xo : Nat} {h : ab_H} {y : Int32 × ab_H} (e : fL_passes F x0 x1 x2 xo h = some y) : ab_MetX l mL_passes hL_passes [.ref x0, .int x1, .int x2, .ref xo] h ((fun r : Int32 × ab_H => ((.inl (some (.int r.1)), r.2) : ab_R × ab_H)) y) := ab_ofT (io := (fun r : Int32 × ab_H => ((.inl (some (.int r.1)), r.2) : ab_R × ab_H))) (x := y) hl (by decide) rfl (Nat.le_of_ble_eq_true rfl) (wL_passes hl F x0 x1 x2 xo h) e
def hL_core : List (Nat × Nat × Nat × Nat) := [(0, 9, 12, 24)]
def mL_core : ab_M := (yL_core, cL_core, 4, (some .int), { frames := 8, cells := 1, slots := 6, locals := 132 })
theorem cwL_core : Cond.codeWith yL_core cL_core 4 (some .int) hL_core ∈ ab_tb := ab_in5 _ (List.mem_of_getElem? (i := 216) rfl) rfl
def fL_core (F : Nat) (x0 : Nat) (x1 : Int32) (xo : Nat) (h : ab_H) : Option (Int32 × ab_H) := ab_ck (ab_io h x0 11 = true) (ab_bd (fX11_core F x0 x1 h) fun y => y.1.elim (fun v => (ab_bd (ab_lw y.2 xo (nI 0) v.toInt64) fun h1 => some (nI 0, h1))) (fun E => (cC E ["java/lang/IndexOutOfBoundsException"] 0).map (fun c => (c, y.2))))
theorem wL_core {l : Launch} (hl : l.stackTraces = false) (F : Nat) (x0 : Nat) (x1 : Int32) (xo : Nat) (h : ab_H) : ab_T l mL_core hL_core (fun r : Int32 × ab_H => ((.inl (some (.int r.1)), r.2) : ab_R × ab_H)) 0 0 (fL_core F x0 x1 xo h) 0 [(0, .ref x0), (1, .int x1), (2, .ref xo)] [] h := by
  unfold fL_core
  refine at_aload_n (pc := 0) (n := 2) (i := 2) (j := 2) (by decide +kernel) rfl rfl ?_
  refine at_iconst (pc := 1) (n := 0) (v := nI 0) (by decide +kernel) rfl ?_
  refine at_aload_n (pc := 2) (n := 0) (i := 0) (j := 0) (by decide +kernel) rfl rfl ?_
  refine at_iload_n (pc := 3) (n := 1) (i := 1) (j := 1) (by decide +kernel) rfl rfl ?_
  refine at_callV (M' := mX11_core) (As := [.int x1]) (st := [.int (nI 0), .ref xo]) (a := x0) (ci := 11) (index := 74) (n := 1) (CN := "HungFaces") (pc := 4) rfl iX11_core kw_eca451aafa kw_c00ff496f2 kw_b0fe5c4b00 rfl rfl rfl (Nat.le_of_ble_eq_true rfl) (by decide +kernel) (fun y e => okX11_core hl (F := F) e) (fun y v h' hu he => ?_) rfl (fun y E h' r hu he hf => ?_)
  · obtain ⟨y, h2⟩ := y
    cases y with
    | inr E => cases he
    | inl v =>
      cases he
      refine at_i2l (pc := 7) (by decide +kernel) ?_
      refine at_last (pc := 8) (by decide +kernel) (fun h1 e1 => ?_)
      refine at_goto (pc := 9) (off := 6) (tgt := 15) (by decide +kernel) (by decide) ?_
      refine at_iconst (pc := 15) (n := 0) (v := nI 0) (by decide +kernel) rfl ?_
      exact at_iret (x := (nI 0, h1)) (pc := 16) (by decide +kernel) rfl rfl (Nat.le_of_ble_eq_true rfl) (Nat.le_of_ble_eq_true rfl)
  · obtain ⟨y, h2⟩ := y
    cases y with
    | inl v => cases he
    | inr E2 =>
      cases he
      change (cC E ["java/lang/IndexOutOfBoundsException"] 0).map _ = some r at hf
      by_cases c0 : E = "java/lang/IndexOutOfBoundsException"
      · subst c0
        cases hf
        refine ⟨1, [], ⟨0, 9, 12, 24⟩, [], "java/lang/IndexOutOfBoundsException", rfl, rfl, (fun w hw => by cases hw), by decide, by decide, clk_24, by decide +kernel, ⟨3, 1, by decide, Or.inl ⟨rfl, 3, rfl, by decide +kernel⟩, by decide +kernel, by decide +kernel⟩⟩
      · rw [cC, if_neg c0] at hf
        cases hf
theorem okL_core {l : Launch} (hl : l.stackTraces = false) {F : Nat} {x0 : Nat} {x1 : Int32} {xo : Nat} {h : ab_H} {y : Int32 × ab_H} (e : fL_core F x0 x1 xo h = some y) : ab_MetX l mL_core hL_core [.ref x0, .int x1, .ref xo] h ((fun r : Int32 × ab_H => ((.inl (some (.int r.1)), r.2) : ab_R × ab_H)) y) := ab_ofT (io := (fun r : Int32 × ab_H => ((.inl (some (.int r.1)), r.2) : ab_R × ab_H))) (x := y) hl (by decide) rfl (Nat.le_of_ble_eq_true rfl) (wL_core hl F x0 x1 xo h) e
def hL_block : List (Nat × Nat × Nat × Nat) := [(0, 16, 19, 44)]
def mL_block : ab_M := (yL_block, cL_block, 4, (some .int), { frames := 7, cells := 1, slots := 6, locals := 113 })
theorem cwL_block : Cond.codeWith yL_block cL_block 4 (some .int) hL_block ∈ ab_tb := ab_in5 _ (List.mem_of_getElem? (i := 223) rfl) rfl
def fL_block (F : Nat) (x0 : Nat) (x1 : Int32) (xo : Nat) (h : ab_H) : Option (Int32 × ab_H) := ab_ck (ab_io h x0 11 = true) (ab_bd (fX11_block F x0 x1 h) fun y => y.elim (fun v => (if v = 0 then ab_bd (ab_lw h xo (nI 0) 0) fun h1 => some (nI 0, h1) else ab_bd (ab_lw h xo (nI 0) 1) fun h1 => some (nI 0, h1))) (fun E => (cC E ["java/lang/IllegalStateException"] 0).map (fun c => (c, h))))
theorem wL_block {l : Launch} (hl : l.stackTraces = false) (F : Nat) (x0 : Nat) (x1 : Int32) (xo : Nat) (h : ab_H) : ab_T l mL_block hL_block (fun r : Int32 × ab_H => ((.inl (some (.int r.1)), r.2) : ab_R × ab_H)) 0 0 (fL_block F x0 x1 xo h) 0 [(0, .ref x0), (1, .int x1), (2, .ref xo)] [] h := by
  unfold fL_block
  refine at_aload_n (pc := 0) (n := 2) (i := 2) (j := 2) (by decide +kernel) rfl rfl ?_
  refine at_iconst (pc := 1) (n := 0) (v := nI 0) (by decide +kernel) rfl ?_
  refine at_aload_n (pc := 2) (n := 0) (i := 0) (j := 0) (by decide +kernel) rfl rfl ?_
  refine at_iload_n (pc := 3) (n := 1) (i := 1) (j := 1) (by decide +kernel) rfl rfl ?_
  refine at_callV (M' := mX11_block) (As := [.int x1]) (st := [.int (nI 0), .ref xo]) (a := x0) (ci := 11) (index := 77) (n := 1) (CN := "HungFaces") (pc := 4) rfl iX11_block kw_0ab905bced kw_84805cb4cc kw_8cc66ef9d1 rfl rfl rfl (Nat.le_of_ble_eq_true rfl) (by decide +kernel) (fun y e => okX11_block hl (F := F) e) (fun y v h' hu he => ?_) rfl (fun y E h' r hu he hf => ?_)
  · cases y with
    | inr E => cases he
    | inl v =>
      cases he
      refine at_if_eq (off := 7) (pc := 7) (tgt := 14) (by decide +kernel) (by decide) (fun g7 => ?_) (fun g7 => ?_)
      · refine at_lconst (pc := 14) (n := 0) (v := 0) (by decide +kernel) rfl ?_
        refine at_last (pc := 15) (by decide +kernel) (fun h1 e1 => ?_)
        refine at_goto (pc := 16) (off := 6) (tgt := 22) (by decide +kernel) (by decide) ?_
        refine at_iconst (pc := 22) (n := 0) (v := nI 0) (by decide +kernel) rfl ?_
        exact at_iret (x := (nI 0, h1)) (pc := 23) (by decide +kernel) rfl rfl (Nat.le_of_ble_eq_true rfl) (Nat.le_of_ble_eq_true rfl)
      · refine at_lconst (pc := 10) (n := 1) (v := 1) (by decide +kernel) rfl ?_
        refine at_goto (pc := 11) (off := 4) (tgt := 15) (by decide +kernel) (by decide) ?_
        refine at_last (pc := 15) (by decide +kernel) (fun h1 e1 => ?_)
        refine at_goto (pc := 16) (off := 6) (tgt := 22) (by decide +kernel) (by decide) ?_
        refine at_iconst (pc := 22) (n := 0) (v := nI 0) (by decide +kernel) rfl ?_
        exact at_iret (x := (nI 0, h1)) (pc := 23) (by decide +kernel) rfl rfl (Nat.le_of_ble_eq_true rfl) (Nat.le_of_ble_eq_true rfl)
  · cases y with
    | inl v => cases he
    | inr E2 =>
      cases he
      change (cC E ["java/lang/IllegalStateException"] 0).map _ = some r at hf
      by_cases c0 : E = "java/lang/IllegalStateException"
      · subst c0
        cases hf
        refine ⟨1, [], ⟨0, 16, 19, 44⟩, [], "java/lang/IllegalStateException", rfl, rfl, (fun w hw => by cases hw), by decide, by decide, clk_44, by decide +kernel, ⟨3, 1, by decide, Or.inl ⟨rfl, 3, rfl, by decide +kernel⟩, by decide +kernel, by decide +kernel⟩⟩
      · rw [cC, if_neg c0] at hf
        cases hf
theorem okL_block {l : Launch} (hl : l.stackTraces = false) {F : Nat} {x0 : Nat} {x1 : Int32} {xo : Nat} {h : ab_H} {y : Int32 × ab_H} (e : fL_block F x0 x1 xo h = some y) : ab_MetX l mL_block hL_block [.ref x0, .int x1, .ref xo] h ((fun r : Int32 × ab_H => ((.inl (some (.int r.1)), r.2) : ab_R × ab_H)) y) := ab_ofT (io := (fun r : Int32 × ab_H => ((.inl (some (.int r.1)), r.2) : ab_R × ab_H))) (x := y) hl (by decide) rfl (Nat.le_of_ble_eq_true rfl) (wL_block hl F x0 x1 xo h) e
def hL_fits : List (Nat × Nat × Nat × Nat) := [(0, 9, 12, 24), (0, 9, 15, 13)]
def mL_fits : ab_M := (yL_fits, cL_fits, 4, (some .int), { frames := 8, cells := 2, slots := 12, locals := 133 })
theorem cwL_fits : Cond.codeWith yL_fits cL_fits 4 (some .int) hL_fits ∈ ab_tb := ab_in5 _ (List.mem_of_getElem? (i := 238) rfl) rfl
def fL_fits (F : Nat) (x0 : Nat) (x1 : Int32) (xo : Nat) (h : ab_H) : Option (Int32 × ab_H) := ab_ck (ab_io h x0 11 = true) (ab_bd (fX11_fits F x0 x1 h) fun y => y.1.elim (fun v => (ab_bd (ab_lw y.2 xo (nI 0) v.toInt64) fun h1 => some (nI 0, h1))) (fun E => (cC E ["java/lang/IndexOutOfBoundsException", "java/lang/IllegalArgumentException"] 0).map (fun c => (c, y.2))))
theorem wL_fits {l : Launch} (hl : l.stackTraces = false) (F : Nat) (x0 : Nat) (x1 : Int32) (xo : Nat) (h : ab_H) : ab_T l mL_fits hL_fits (fun r : Int32 × ab_H => ((.inl (some (.int r.1)), r.2) : ab_R × ab_H)) 0 0 (fL_fits F x0 x1 xo h) 0 [(0, .ref x0), (1, .int x1), (2, .ref xo)] [] h := by
  unfold fL_fits
  refine at_aload_n (pc := 0) (n := 2) (i := 2) (j := 2) (by decide +kernel) rfl rfl ?_
  refine at_iconst (pc := 1) (n := 0) (v := nI 0) (by decide +kernel) rfl ?_
  refine at_aload_n (pc := 2) (n := 0) (i := 0) (j := 0) (by decide +kernel) rfl rfl ?_
  refine at_iload_n (pc := 3) (n := 1) (i := 1) (j := 1) (by decide +kernel) rfl rfl ?_
  refine at_callV (M' := mX11_fits) (As := [.int x1]) (st := [.int (nI 0), .ref xo]) (a := x0) (ci := 11) (index := 81) (n := 1) (CN := "HungFaces") (pc := 4) rfl iX11_fits kw_5196e0ca0b kw_af41bfbd76 kw_71034ec7f6 rfl rfl rfl (Nat.le_of_ble_eq_true rfl) (by decide +kernel) (fun y e => okX11_fits hl (F := F) e) (fun y v h' hu he => ?_) rfl (fun y E h' r hu he hf => ?_)
  · obtain ⟨y, h2⟩ := y
    cases y with
    | inr E => cases he
    | inl v =>
      cases he
      refine at_i2l (pc := 7) (by decide +kernel) ?_
      refine at_last (pc := 8) (by decide +kernel) (fun h1 e1 => ?_)
      refine at_goto (pc := 9) (off := 9) (tgt := 18) (by decide +kernel) (by decide) ?_
      refine at_iconst (pc := 18) (n := 0) (v := nI 0) (by decide +kernel) rfl ?_
      exact at_iret (x := (nI 0, h1)) (pc := 19) (by decide +kernel) rfl rfl (Nat.le_of_ble_eq_true rfl) (Nat.le_of_ble_eq_true rfl)
  · obtain ⟨y, h2⟩ := y
    cases y with
    | inl v => cases he
    | inr E2 =>
      cases he
      change (cC E ["java/lang/IndexOutOfBoundsException", "java/lang/IllegalArgumentException"] 0).map _ = some r at hf
      by_cases c0 : E = "java/lang/IndexOutOfBoundsException"
      · subst c0
        cases hf
        refine ⟨1, [], ⟨0, 9, 12, 24⟩, [⟨0, 9, 15, 13⟩], "java/lang/IndexOutOfBoundsException", rfl, rfl, (fun w hw => by cases hw), by decide, by decide, clk_24, by decide +kernel, ⟨3, 1, by decide, Or.inl ⟨rfl, 3, rfl, by decide +kernel⟩, by decide +kernel, by decide +kernel⟩⟩
      · rw [cC, if_neg c0] at hf
        by_cases c1 : E = "java/lang/IllegalArgumentException"
        · subst c1
          cases hf
          refine ⟨2, [⟨0, 9, 12, 24⟩], ⟨0, 9, 15, 13⟩, [], "java/lang/IllegalArgumentException", rfl, rfl, (fun w hw => ?_), by decide, by decide, clk_13, by decide +kernel, ⟨3, 1, by decide, Or.inl ⟨rfl, 3, rfl, by decide +kernel⟩, by decide +kernel, by decide +kernel⟩⟩
          simp only [List.mem_cons, List.not_mem_nil, or_false] at hw
          subst hw
          exact ⟨by decide, by decide, "java/lang/IndexOutOfBoundsException", clk_24, by decide +kernel⟩
        · rw [cC, if_neg c1] at hf
          cases hf
theorem okL_fits {l : Launch} (hl : l.stackTraces = false) {F : Nat} {x0 : Nat} {x1 : Int32} {xo : Nat} {h : ab_H} {y : Int32 × ab_H} (e : fL_fits F x0 x1 xo h = some y) : ab_MetX l mL_fits hL_fits [.ref x0, .int x1, .ref xo] h ((fun r : Int32 × ab_H => ((.inl (some (.int r.1)), r.2) : ab_R × ab_H)) y) := ab_ofT (io := (fun r : Int32 × ab_H => ((.inl (some (.int r.1)), r.2) : ab_R × ab_H))) (x := y) hl (by decide) rfl (Nat.le_of_ble_eq_true rfl) (wL_fits hl F x0 x1 xo h) e
def hL_ask : List (Nat × Nat × Nat × Nat) := [(0, 9, 12, 24), (0, 9, 15, 13)]
def mL_ask : ab_M := (yL_ask, cL_ask, 4, (some .int), { frames := 8, cells := 2, slots := 12, locals := 133 })
theorem cwL_ask : Cond.codeWith yL_ask cL_ask 4 (some .int) hL_ask ∈ ab_tb := ab_in6 _ (List.mem_of_getElem? (i := 38) rfl) rfl
def fL_ask (F : Nat) (x0 : Nat) (x1 : Int32) (xo : Nat) (h : ab_H) : Option (Int32 × ab_H) := ab_ck (ab_io h x0 11 = true) (ab_bd (fX11_ask F x0 x1 h) fun y => y.1.elim (fun v => (ab_bd (ab_lw y.2 xo (nI 0) v.toInt64) fun h1 => some (nI 0, h1))) (fun E => (cC E ["java/lang/IndexOutOfBoundsException", "java/lang/IllegalArgumentException"] 0).map (fun c => (c, y.2))))
theorem wL_ask {l : Launch} (hl : l.stackTraces = false) (F : Nat) (x0 : Nat) (x1 : Int32) (xo : Nat) (h : ab_H) : ab_T l mL_ask hL_ask (fun r : Int32 × ab_H => ((.inl (some (.int r.1)), r.2) : ab_R × ab_H)) 0 0 (fL_ask F x0 x1 xo h) 0 [(0, .ref x0), (1, .int x1), (2, .ref xo)] [] h := by
  unfold fL_ask
  refine at_aload_n (pc := 0) (n := 2) (i := 2) (j := 2) (by decide +kernel) rfl rfl ?_
  refine at_iconst (pc := 1) (n := 0) (v := nI 0) (by decide +kernel) rfl ?_
  refine at_aload_n (pc := 2) (n := 0) (i := 0) (j := 0) (by decide +kernel) rfl rfl ?_
  refine at_iload_n (pc := 3) (n := 1) (i := 1) (j := 1) (by decide +kernel) rfl rfl ?_
  refine at_callV (M' := mX11_ask) (As := [.int x1]) (st := [.int (nI 0), .ref xo]) (a := x0) (ci := 11) (index := 84) (n := 1) (CN := "HungFaces") (pc := 4) rfl iX11_ask kw_265be02879 kw_5b2b086690 kw_6f63b06790 rfl rfl rfl (Nat.le_of_ble_eq_true rfl) (by decide +kernel) (fun y e => okX11_ask hl (F := F) e) (fun y v h' hu he => ?_) rfl (fun y E h' r hu he hf => ?_)
  · obtain ⟨y, h2⟩ := y
    cases y with
    | inr E => cases he
    | inl v =>
      cases he
      refine at_i2l (pc := 7) (by decide +kernel) ?_
      refine at_last (pc := 8) (by decide +kernel) (fun h1 e1 => ?_)
      refine at_goto (pc := 9) (off := 9) (tgt := 18) (by decide +kernel) (by decide) ?_
      refine at_iconst (pc := 18) (n := 0) (v := nI 0) (by decide +kernel) rfl ?_
      exact at_iret (x := (nI 0, h1)) (pc := 19) (by decide +kernel) rfl rfl (Nat.le_of_ble_eq_true rfl) (Nat.le_of_ble_eq_true rfl)
  · obtain ⟨y, h2⟩ := y
    cases y with
    | inl v => cases he
    | inr E2 =>
      cases he
      change (cC E ["java/lang/IndexOutOfBoundsException", "java/lang/IllegalArgumentException"] 0).map _ = some r at hf
      by_cases c0 : E = "java/lang/IndexOutOfBoundsException"
      · subst c0
        cases hf
        refine ⟨1, [], ⟨0, 9, 12, 24⟩, [⟨0, 9, 15, 13⟩], "java/lang/IndexOutOfBoundsException", rfl, rfl, (fun w hw => by cases hw), by decide, by decide, clk_24, by decide +kernel, ⟨3, 1, by decide, Or.inl ⟨rfl, 3, rfl, by decide +kernel⟩, by decide +kernel, by decide +kernel⟩⟩
      · rw [cC, if_neg c0] at hf
        by_cases c1 : E = "java/lang/IllegalArgumentException"
        · subst c1
          cases hf
          refine ⟨2, [⟨0, 9, 12, 24⟩], ⟨0, 9, 15, 13⟩, [], "java/lang/IllegalArgumentException", rfl, rfl, (fun w hw => ?_), by decide, by decide, clk_13, by decide +kernel, ⟨3, 1, by decide, Or.inl ⟨rfl, 3, rfl, by decide +kernel⟩, by decide +kernel, by decide +kernel⟩⟩
          simp only [List.mem_cons, List.not_mem_nil, or_false] at hw
          subst hw
          exact ⟨by decide, by decide, "java/lang/IndexOutOfBoundsException", clk_24, by decide +kernel⟩
        · rw [cC, if_neg c1] at hf
          cases hf
theorem okL_ask {l : Launch} (hl : l.stackTraces = false) {F : Nat} {x0 : Nat} {x1 : Int32} {xo : Nat} {h : ab_H} {y : Int32 × ab_H} (e : fL_ask F x0 x1 xo h = some y) : ab_MetX l mL_ask hL_ask [.ref x0, .int x1, .ref xo] h ((fun r : Int32 × ab_H => ((.inl (some (.int r.1)), r.2) : ab_R × ab_H)) y) := ab_ofT (io := (fun r : Int32 × ab_H => ((.inl (some (.int r.1)), r.2) : ab_R × ab_H))) (x := y) hl (by decide) rfl (Nat.le_of_ble_eq_true rfl) (wL_ask hl F x0 x1 xo h) e
def hL_clash : List (Nat × Nat × Nat × Nat) := [(0, 8, 11, 13)]
def mL_clash : ab_M := (yL_clash, cL_clash, 3, (some .int), { frames := 16, cells := 1, slots := 6, locals := 363 })
theorem cwL_clash : Cond.codeWith yL_clash cL_clash 3 (some .int) hL_clash ∈ ab_tb := ab_in6 _ (List.mem_of_getElem? (i := 50) rfl) rfl
def fL_clash (F : Nat) (x0 : Nat) (xo : Nat) (h : ab_H) : Option (Int32 × ab_H) := ab_ck (ab_io h x0 11 = true) (ab_bd (fX11_clash F x0 h) fun y => y.1.elim (fun v => (ab_bd (ab_lw y.2 xo (nI 0) v.toInt64) fun h1 => some (nI 0, h1))) (fun E => (cC E ["java/lang/IllegalArgumentException"] 0).map (fun c => (c, y.2))))
theorem wL_clash {l : Launch} (hl : l.stackTraces = false) (F : Nat) (x0 : Nat) (xo : Nat) (h : ab_H) : ab_T l mL_clash hL_clash (fun r : Int32 × ab_H => ((.inl (some (.int r.1)), r.2) : ab_R × ab_H)) 0 0 (fL_clash F x0 xo h) 0 [(0, .ref x0), (1, .ref xo)] [] h := by
  unfold fL_clash
  refine at_aload_n (pc := 0) (n := 1) (i := 1) (j := 1) (by decide +kernel) rfl rfl ?_
  refine at_iconst (pc := 1) (n := 0) (v := nI 0) (by decide +kernel) rfl ?_
  refine at_aload_n (pc := 2) (n := 0) (i := 0) (j := 0) (by decide +kernel) rfl rfl ?_
  refine at_callV (M' := mX11_clash) (As := []) (st := [.int (nI 0), .ref xo]) (a := x0) (ci := 11) (index := 87) (n := 0) (CN := "HungFaces") (pc := 3) rfl iX11_clash kw_6df8b59552 kw_2202969ecb kw_3da41b4d27 rfl rfl rfl (Nat.le_of_ble_eq_true rfl) (by decide +kernel) (fun y e => okX11_clash hl (F := F) e) (fun y v h' hu he => ?_) rfl (fun y E h' r hu he hf => ?_)
  · obtain ⟨y, h2⟩ := y
    cases y with
    | inr E => cases he
    | inl v =>
      cases he
      refine at_i2l (pc := 6) (by decide +kernel) ?_
      refine at_last (pc := 7) (by decide +kernel) (fun h1 e1 => ?_)
      refine at_goto (pc := 8) (off := 6) (tgt := 14) (by decide +kernel) (by decide) ?_
      refine at_iconst (pc := 14) (n := 0) (v := nI 0) (by decide +kernel) rfl ?_
      exact at_iret (x := (nI 0, h1)) (pc := 15) (by decide +kernel) rfl rfl (Nat.le_of_ble_eq_true rfl) (Nat.le_of_ble_eq_true rfl)
  · obtain ⟨y, h2⟩ := y
    cases y with
    | inl v => cases he
    | inr E2 =>
      cases he
      change (cC E ["java/lang/IllegalArgumentException"] 0).map _ = some r at hf
      by_cases c0 : E = "java/lang/IllegalArgumentException"
      · subst c0
        cases hf
        refine ⟨1, [], ⟨0, 8, 11, 13⟩, [], "java/lang/IllegalArgumentException", rfl, rfl, (fun w hw => by cases hw), by decide, by decide, clk_13, by decide +kernel, ⟨2, 1, by decide, Or.inl ⟨rfl, 2, rfl, by decide +kernel⟩, by decide +kernel, by decide +kernel⟩⟩
      · rw [cC, if_neg c0] at hf
        cases hf
theorem okL_clash {l : Launch} (hl : l.stackTraces = false) {F : Nat} {x0 : Nat} {xo : Nat} {h : ab_H} {y : Int32 × ab_H} (e : fL_clash F x0 xo h = some y) : ab_MetX l mL_clash hL_clash [.ref x0, .ref xo] h ((fun r : Int32 × ab_H => ((.inl (some (.int r.1)), r.2) : ab_R × ab_H)) y) := ab_ofT (io := (fun r : Int32 × ab_H => ((.inl (some (.int r.1)), r.2) : ab_R × ab_H))) (x := y) hl (by decide) rfl (Nat.le_of_ble_eq_true rfl) (wL_clash hl F x0 xo h) e
def hL_forged : List (Nat × Nat × Nat × Nat) := [(0, 9, 12, 13)]
def mL_forged : ab_M := (yL_forged, cL_forged, 4, (some .int), { frames := 8, cells := 1, slots := 6, locals := 136 })
theorem cwL_forged : Cond.codeWith yL_forged cL_forged 4 (some .int) hL_forged ∈ ab_tb := ab_in6 _ (List.mem_of_getElem? (i := 70) rfl) rfl
def fL_forged (F : Nat) (x0 : Nat) (x1 : Int32) (xo : Nat) (h : ab_H) : Option (Int32 × ab_H) := ab_ck (ab_io h x0 11 = true) (ab_bd (fX11_forged F x0 x1 h) fun y => y.elim (fun v => (ab_bd (ab_lw h xo (nI 0) v.toInt64) fun h1 => some (nI 0, h1))) (fun E => (cC E ["java/lang/IllegalArgumentException"] 0).map (fun c => (c, h))))
theorem wL_forged {l : Launch} (hl : l.stackTraces = false) (F : Nat) (x0 : Nat) (x1 : Int32) (xo : Nat) (h : ab_H) : ab_T l mL_forged hL_forged (fun r : Int32 × ab_H => ((.inl (some (.int r.1)), r.2) : ab_R × ab_H)) 0 0 (fL_forged F x0 x1 xo h) 0 [(0, .ref x0), (1, .int x1), (2, .ref xo)] [] h := by
  unfold fL_forged
  refine at_aload_n (pc := 0) (n := 2) (i := 2) (j := 2) (by decide +kernel) rfl rfl ?_
  refine at_iconst (pc := 1) (n := 0) (v := nI 0) (by decide +kernel) rfl ?_
  refine at_aload_n (pc := 2) (n := 0) (i := 0) (j := 0) (by decide +kernel) rfl rfl ?_
  refine at_iload_n (pc := 3) (n := 1) (i := 1) (j := 1) (by decide +kernel) rfl rfl ?_
  refine at_callV (M' := mX11_forged) (As := [.int x1]) (st := [.int (nI 0), .ref xo]) (a := x0) (ci := 11) (index := 90) (n := 1) (CN := "HungFaces") (pc := 4) rfl iX11_forged kw_de4d722dee kw_dd1a30bc71 kw_c1db86a226 rfl rfl rfl (Nat.le_of_ble_eq_true rfl) (by decide +kernel) (fun y e => okX11_forged hl (F := F) e) (fun y v h' hu he => ?_) rfl (fun y E h' r hu he hf => ?_)
  · cases y with
    | inr E => cases he
    | inl v =>
      cases he
      refine at_i2l (pc := 7) (by decide +kernel) ?_
      refine at_last (pc := 8) (by decide +kernel) (fun h1 e1 => ?_)
      refine at_goto (pc := 9) (off := 6) (tgt := 15) (by decide +kernel) (by decide) ?_
      refine at_iconst (pc := 15) (n := 0) (v := nI 0) (by decide +kernel) rfl ?_
      exact at_iret (x := (nI 0, h1)) (pc := 16) (by decide +kernel) rfl rfl (Nat.le_of_ble_eq_true rfl) (Nat.le_of_ble_eq_true rfl)
  · cases y with
    | inl v => cases he
    | inr E2 =>
      cases he
      change (cC E ["java/lang/IllegalArgumentException"] 0).map _ = some r at hf
      by_cases c0 : E = "java/lang/IllegalArgumentException"
      · subst c0
        cases hf
        refine ⟨1, [], ⟨0, 9, 12, 13⟩, [], "java/lang/IllegalArgumentException", rfl, rfl, (fun w hw => by cases hw), by decide, by decide, clk_13, by decide +kernel, ⟨3, 1, by decide, Or.inl ⟨rfl, 3, rfl, by decide +kernel⟩, by decide +kernel, by decide +kernel⟩⟩
      · rw [cC, if_neg c0] at hf
        cases hf
theorem okL_forged {l : Launch} (hl : l.stackTraces = false) {F : Nat} {x0 : Nat} {x1 : Int32} {xo : Nat} {h : ab_H} {y : Int32 × ab_H} (e : fL_forged F x0 x1 xo h = some y) : ab_MetX l mL_forged hL_forged [.ref x0, .int x1, .ref xo] h ((fun r : Int32 × ab_H => ((.inl (some (.int r.1)), r.2) : ab_R × ab_H)) y) := ab_ofT (io := (fun r : Int32 × ab_H => ((.inl (some (.int r.1)), r.2) : ab_R × ab_H))) (x := y) hl (by decide) rfl (Nat.le_of_ble_eq_true rfl) (wL_forged hl F x0 x1 xo h) e
def hL_ways : List (Nat × Nat × Nat × Nat) := [(0, 9, 12, 13)]
def mL_ways : ab_M := (yL_ways, cL_ways, 4, (some .int), { frames := 8, cells := 1, slots := 6, locals := 134 })
theorem cwL_ways : Cond.codeWith yL_ways cL_ways 4 (some .int) hL_ways ∈ ab_tb := ab_in6 _ (List.mem_of_getElem? (i := 85) rfl) rfl
def fL_ways (F : Nat) (x0 : Nat) (x1 : Int32) (xo : Nat) (h : ab_H) : Option (Int32 × ab_H) := ab_ck (ab_io h x0 11 = true) (ab_bd (fX11_ways F x0 x1 h) fun y => y.elim (fun v => (ab_bd (ab_lw h xo (nI 0) v.toInt64) fun h1 => some (nI 0, h1))) (fun E => (cC E ["java/lang/IllegalArgumentException"] 0).map (fun c => (c, h))))
theorem wL_ways {l : Launch} (hl : l.stackTraces = false) (F : Nat) (x0 : Nat) (x1 : Int32) (xo : Nat) (h : ab_H) : ab_T l mL_ways hL_ways (fun r : Int32 × ab_H => ((.inl (some (.int r.1)), r.2) : ab_R × ab_H)) 0 0 (fL_ways F x0 x1 xo h) 0 [(0, .ref x0), (1, .int x1), (2, .ref xo)] [] h := by
  unfold fL_ways
  refine at_aload_n (pc := 0) (n := 2) (i := 2) (j := 2) (by decide +kernel) rfl rfl ?_
  refine at_iconst (pc := 1) (n := 0) (v := nI 0) (by decide +kernel) rfl ?_
  refine at_aload_n (pc := 2) (n := 0) (i := 0) (j := 0) (by decide +kernel) rfl rfl ?_
  refine at_iload_n (pc := 3) (n := 1) (i := 1) (j := 1) (by decide +kernel) rfl rfl ?_
  refine at_callV (M' := mX11_ways) (As := [.int x1]) (st := [.int (nI 0), .ref xo]) (a := x0) (ci := 11) (index := 93) (n := 1) (CN := "HungFaces") (pc := 4) rfl iX11_ways kw_65c47ab0a2 kw_8f3d904980 kw_5e384e4fc1 rfl rfl rfl (Nat.le_of_ble_eq_true rfl) (by decide +kernel) (fun y e => okX11_ways hl (F := F) e) (fun y v h' hu he => ?_) rfl (fun y E h' r hu he hf => ?_)
  · cases y with
    | inr E => cases he
    | inl v =>
      cases he
      refine at_i2l (pc := 7) (by decide +kernel) ?_
      refine at_last (pc := 8) (by decide +kernel) (fun h1 e1 => ?_)
      refine at_goto (pc := 9) (off := 6) (tgt := 15) (by decide +kernel) (by decide) ?_
      refine at_iconst (pc := 15) (n := 0) (v := nI 0) (by decide +kernel) rfl ?_
      exact at_iret (x := (nI 0, h1)) (pc := 16) (by decide +kernel) rfl rfl (Nat.le_of_ble_eq_true rfl) (Nat.le_of_ble_eq_true rfl)
  · cases y with
    | inl v => cases he
    | inr E2 =>
      cases he
      change (cC E ["java/lang/IllegalArgumentException"] 0).map _ = some r at hf
      by_cases c0 : E = "java/lang/IllegalArgumentException"
      · subst c0
        cases hf
        refine ⟨1, [], ⟨0, 9, 12, 13⟩, [], "java/lang/IllegalArgumentException", rfl, rfl, (fun w hw => by cases hw), by decide, by decide, clk_13, by decide +kernel, ⟨3, 1, by decide, Or.inl ⟨rfl, 3, rfl, by decide +kernel⟩, by decide +kernel, by decide +kernel⟩⟩
      · rw [cC, if_neg c0] at hf
        cases hf
theorem okL_ways {l : Launch} (hl : l.stackTraces = false) {F : Nat} {x0 : Nat} {x1 : Int32} {xo : Nat} {h : ab_H} {y : Int32 × ab_H} (e : fL_ways F x0 x1 xo h = some y) : ab_MetX l mL_ways hL_ways [.ref x0, .int x1, .ref xo] h ((fun r : Int32 × ab_H => ((.inl (some (.int r.1)), r.2) : ab_R × ab_H)) y) := ab_ofT (io := (fun r : Int32 × ab_H => ((.inl (some (.int r.1)), r.2) : ab_R × ab_H))) (x := y) hl (by decide) rfl (Nat.le_of_ble_eq_true rfl) (wL_ways hl F x0 x1 xo h) e
def hL_talk : List (Nat × Nat × Nat × Nat) := [(0, 9, 12, 24)]
def mL_talk : ab_M := (yL_talk, cL_talk, 4, (some .int), { frames := 8, cells := 1, slots := 6, locals := 134 })
theorem cwL_talk : Cond.codeWith yL_talk cL_talk 4 (some .int) hL_talk ∈ ab_tb := ab_in6 _ (List.mem_of_getElem? (i := 98) rfl) rfl
def fL_talk (F : Nat) (x0 : Nat) (x1 : Int32) (xo : Nat) (h : ab_H) : Option (Int32 × ab_H) := ab_ck (ab_io h x0 11 = true) (ab_bd (fX11_talk F x0 x1 h) fun y => y.elim (fun v => (ab_bd (ab_lw h xo (nI 0) v.toInt64) fun h1 => some (nI 0, h1))) (fun E => (cC E ["java/lang/IndexOutOfBoundsException"] 0).map (fun c => (c, h))))
theorem wL_talk {l : Launch} (hl : l.stackTraces = false) (F : Nat) (x0 : Nat) (x1 : Int32) (xo : Nat) (h : ab_H) : ab_T l mL_talk hL_talk (fun r : Int32 × ab_H => ((.inl (some (.int r.1)), r.2) : ab_R × ab_H)) 0 0 (fL_talk F x0 x1 xo h) 0 [(0, .ref x0), (1, .int x1), (2, .ref xo)] [] h := by
  unfold fL_talk
  refine at_aload_n (pc := 0) (n := 2) (i := 2) (j := 2) (by decide +kernel) rfl rfl ?_
  refine at_iconst (pc := 1) (n := 0) (v := nI 0) (by decide +kernel) rfl ?_
  refine at_aload_n (pc := 2) (n := 0) (i := 0) (j := 0) (by decide +kernel) rfl rfl ?_
  refine at_iload_n (pc := 3) (n := 1) (i := 1) (j := 1) (by decide +kernel) rfl rfl ?_
  refine at_callV (M' := mX11_talk) (As := [.int x1]) (st := [.int (nI 0), .ref xo]) (a := x0) (ci := 11) (index := 96) (n := 1) (CN := "HungFaces") (pc := 4) rfl iX11_talk kw_7a2d812899 kw_5e93a51259 kw_8ab7a7057a rfl rfl rfl (Nat.le_of_ble_eq_true rfl) (by decide +kernel) (fun y e => okX11_talk hl (F := F) e) (fun y v h' hu he => ?_) rfl (fun y E h' r hu he hf => ?_)
  · cases y with
    | inr E => cases he
    | inl v =>
      cases he
      refine at_i2l (pc := 7) (by decide +kernel) ?_
      refine at_last (pc := 8) (by decide +kernel) (fun h1 e1 => ?_)
      refine at_goto (pc := 9) (off := 6) (tgt := 15) (by decide +kernel) (by decide) ?_
      refine at_iconst (pc := 15) (n := 0) (v := nI 0) (by decide +kernel) rfl ?_
      exact at_iret (x := (nI 0, h1)) (pc := 16) (by decide +kernel) rfl rfl (Nat.le_of_ble_eq_true rfl) (Nat.le_of_ble_eq_true rfl)
  · cases y with
    | inl v => cases he
    | inr E2 =>
      cases he
      change (cC E ["java/lang/IndexOutOfBoundsException"] 0).map _ = some r at hf
      by_cases c0 : E = "java/lang/IndexOutOfBoundsException"
      · subst c0
        cases hf
        refine ⟨1, [], ⟨0, 9, 12, 24⟩, [], "java/lang/IndexOutOfBoundsException", rfl, rfl, (fun w hw => by cases hw), by decide, by decide, clk_24, by decide +kernel, ⟨3, 1, by decide, Or.inl ⟨rfl, 3, rfl, by decide +kernel⟩, by decide +kernel, by decide +kernel⟩⟩
      · rw [cC, if_neg c0] at hf
        cases hf
theorem okL_talk {l : Launch} (hl : l.stackTraces = false) {F : Nat} {x0 : Nat} {x1 : Int32} {xo : Nat} {h : ab_H} {y : Int32 × ab_H} (e : fL_talk F x0 x1 xo h = some y) : ab_MetX l mL_talk hL_talk [.ref x0, .int x1, .ref xo] h ((fun r : Int32 × ab_H => ((.inl (some (.int r.1)), r.2) : ab_R × ab_H)) y) := ab_ofT (io := (fun r : Int32 × ab_H => ((.inl (some (.int r.1)), r.2) : ab_R × ab_H))) (x := y) hl (by decide) rfl (Nat.le_of_ble_eq_true rfl) (wL_talk hl F x0 x1 xo h) e
def hL_chain : List (Nat × Nat × Nat × Nat) := [(0, 10, 13, 24), (0, 10, 17, 13)]
def mL_chain : ab_M := (yL_chain, cL_chain, 5, (some .int), { frames := 9, cells := 3, slots := 18, locals := 157 })
theorem cwL_chain : Cond.codeWith yL_chain cL_chain 5 (some .int) hL_chain ∈ ab_tb := ab_in6 _ (List.mem_of_getElem? (i := 105) rfl) rfl
def fL_chain (F : Nat) (x0 : Nat) (x1 : Int32) (x2 : Int32) (xo : Nat) (h : ab_H) : Option (Int32 × ab_H) := ab_ck (ab_io h x0 11 = true) (ab_bd (fX11_chain F x0 x1 x2 h) fun y => y.elim (fun v => (ab_bd (ab_lw h xo (nI 0) v.toInt64) fun h1 => some (nI 0, h1))) (fun E => (cC E ["java/lang/IndexOutOfBoundsException", "java/lang/IllegalArgumentException"] 0).map (fun c => (c, h))))
theorem wL_chain {l : Launch} (hl : l.stackTraces = false) (F : Nat) (x0 : Nat) (x1 : Int32) (x2 : Int32) (xo : Nat) (h : ab_H) : ab_T l mL_chain hL_chain (fun r : Int32 × ab_H => ((.inl (some (.int r.1)), r.2) : ab_R × ab_H)) 0 0 (fL_chain F x0 x1 x2 xo h) 0 [(0, .ref x0), (1, .int x1), (2, .int x2), (3, .ref xo)] [] h := by
  unfold fL_chain
  refine at_aload_n (pc := 0) (n := 3) (i := 3) (j := 3) (by decide +kernel) rfl rfl ?_
  refine at_iconst (pc := 1) (n := 0) (v := nI 0) (by decide +kernel) rfl ?_
  refine at_aload_n (pc := 2) (n := 0) (i := 0) (j := 0) (by decide +kernel) rfl rfl ?_
  refine at_iload_n (pc := 3) (n := 1) (i := 1) (j := 1) (by decide +kernel) rfl rfl ?_
  refine at_iload_n (pc := 4) (n := 2) (i := 2) (j := 2) (by decide +kernel) rfl rfl ?_
  refine at_callV (M' := mX11_chain) (As := [.int x1, .int x2]) (st := [.int (nI 0), .ref xo]) (a := x0) (ci := 11) (index := 99) (n := 2) (CN := "HungFaces") (pc := 5) rfl iX11_chain kw_cb090274e9 kw_ab03ebce6d kw_4ea6c830e8 rfl rfl rfl (Nat.le_of_ble_eq_true rfl) (by decide +kernel) (fun y e => okX11_chain hl (F := F) e) (fun y v h' hu he => ?_) rfl (fun y E h' r hu he hf => ?_)
  · cases y with
    | inr E => cases he
    | inl v =>
      cases he
      refine at_i2l (pc := 8) (by decide +kernel) ?_
      refine at_last (pc := 9) (by decide +kernel) (fun h1 e1 => ?_)
      refine at_goto (pc := 10) (off := 11) (tgt := 21) (by decide +kernel) (by decide) ?_
      refine at_iconst (pc := 21) (n := 0) (v := nI 0) (by decide +kernel) rfl ?_
      exact at_iret (x := (nI 0, h1)) (pc := 22) (by decide +kernel) rfl rfl (Nat.le_of_ble_eq_true rfl) (Nat.le_of_ble_eq_true rfl)
  · cases y with
    | inl v => cases he
    | inr E2 =>
      cases he
      change (cC E ["java/lang/IndexOutOfBoundsException", "java/lang/IllegalArgumentException"] 0).map _ = some r at hf
      by_cases c0 : E = "java/lang/IndexOutOfBoundsException"
      · subst c0
        cases hf
        refine ⟨1, [], ⟨0, 10, 13, 24⟩, [⟨0, 10, 17, 13⟩], "java/lang/IndexOutOfBoundsException", rfl, rfl, (fun w hw => by cases hw), by decide, by decide, clk_24, by decide +kernel, ⟨4, 2, by decide, Or.inr ⟨rfl, by decide +kernel⟩, by decide +kernel, by decide +kernel⟩⟩
      · rw [cC, if_neg c0] at hf
        by_cases c1 : E = "java/lang/IllegalArgumentException"
        · subst c1
          cases hf
          refine ⟨2, [⟨0, 10, 13, 24⟩], ⟨0, 10, 17, 13⟩, [], "java/lang/IllegalArgumentException", rfl, rfl, (fun w hw => ?_), by decide, by decide, clk_13, by decide +kernel, ⟨4, 2, by decide, Or.inr ⟨rfl, by decide +kernel⟩, by decide +kernel, by decide +kernel⟩⟩
          simp only [List.mem_cons, List.not_mem_nil, or_false] at hw
          subst hw
          exact ⟨by decide, by decide, "java/lang/IndexOutOfBoundsException", clk_24, by decide +kernel⟩
        · rw [cC, if_neg c1] at hf
          cases hf
theorem okL_chain {l : Launch} (hl : l.stackTraces = false) {F : Nat} {x0 : Nat} {x1 : Int32} {x2 : Int32} {xo : Nat} {h : ab_H} {y : Int32 × ab_H} (e : fL_chain F x0 x1 x2 xo h = some y) : ab_MetX l mL_chain hL_chain [.ref x0, .int x1, .int x2, .ref xo] h ((fun r : Int32 × ab_H => ((.inl (some (.int r.1)), r.2) : ab_R × ab_H)) y) := ab_ofT (io := (fun r : Int32 × ab_H => ((.inl (some (.int r.1)), r.2) : ab_R × ab_H))) (x := y) hl (by decide) rfl (Nat.le_of_ble_eq_true rfl) (wL_chain hl F x0 x1 x2 xo h) e
def hL_hears : List (Nat × Nat × Nat × Nat) := [(0, 10, 13, 24), (0, 10, 17, 13)]
def mL_hears : ab_M := (yL_hears, cL_hears, 5, (some .int), { frames := 8, cells := 2, slots := 12, locals := 135 })
theorem cwL_hears : Cond.codeWith yL_hears cL_hears 5 (some .int) hL_hears ∈ ab_tb := ab_in6 _ (List.mem_of_getElem? (i := 116) rfl) rfl
def fL_hears (F : Nat) (x0 : Nat) (x1 : Int32) (x2 : Int32) (xo : Nat) (h : ab_H) : Option (Int32 × ab_H) := ab_ck (ab_io h x0 11 = true) (ab_bd (fX11_hears F x0 x1 x2 h) fun y => y.1.elim (fun v => (ab_bd (ab_lw y.2 xo (nI 0) v.toInt64) fun h1 => some (nI 0, h1))) (fun E => (cC E ["java/lang/IndexOutOfBoundsException", "java/lang/IllegalArgumentException"] 0).map (fun c => (c, y.2))))
theorem wL_hears {l : Launch} (hl : l.stackTraces = false) (F : Nat) (x0 : Nat) (x1 : Int32) (x2 : Int32) (xo : Nat) (h : ab_H) : ab_T l mL_hears hL_hears (fun r : Int32 × ab_H => ((.inl (some (.int r.1)), r.2) : ab_R × ab_H)) 0 0 (fL_hears F x0 x1 x2 xo h) 0 [(0, .ref x0), (1, .int x1), (2, .int x2), (3, .ref xo)] [] h := by
  unfold fL_hears
  refine at_aload_n (pc := 0) (n := 3) (i := 3) (j := 3) (by decide +kernel) rfl rfl ?_
  refine at_iconst (pc := 1) (n := 0) (v := nI 0) (by decide +kernel) rfl ?_
  refine at_aload_n (pc := 2) (n := 0) (i := 0) (j := 0) (by decide +kernel) rfl rfl ?_
  refine at_iload_n (pc := 3) (n := 1) (i := 1) (j := 1) (by decide +kernel) rfl rfl ?_
  refine at_iload_n (pc := 4) (n := 2) (i := 2) (j := 2) (by decide +kernel) rfl rfl ?_
  refine at_callV (M' := mX11_hears) (As := [.int x1, .int x2]) (st := [.int (nI 0), .ref xo]) (a := x0) (ci := 11) (index := 102) (n := 2) (CN := "HungFaces") (pc := 5) rfl iX11_hears kw_b555e7e388 kw_563d43d52f kw_6054fdee34 rfl rfl rfl (Nat.le_of_ble_eq_true rfl) (by decide +kernel) (fun y e => okX11_hears hl (F := F) e) (fun y v h' hu he => ?_) rfl (fun y E h' r hu he hf => ?_)
  · obtain ⟨y, h2⟩ := y
    cases y with
    | inr E => cases he
    | inl v =>
      cases he
      refine at_i2l (pc := 8) (by decide +kernel) ?_
      refine at_last (pc := 9) (by decide +kernel) (fun h1 e1 => ?_)
      refine at_goto (pc := 10) (off := 11) (tgt := 21) (by decide +kernel) (by decide) ?_
      refine at_iconst (pc := 21) (n := 0) (v := nI 0) (by decide +kernel) rfl ?_
      exact at_iret (x := (nI 0, h1)) (pc := 22) (by decide +kernel) rfl rfl (Nat.le_of_ble_eq_true rfl) (Nat.le_of_ble_eq_true rfl)
  · obtain ⟨y, h2⟩ := y
    cases y with
    | inl v => cases he
    | inr E2 =>
      cases he
      change (cC E ["java/lang/IndexOutOfBoundsException", "java/lang/IllegalArgumentException"] 0).map _ = some r at hf
      by_cases c0 : E = "java/lang/IndexOutOfBoundsException"
      · subst c0
        cases hf
        refine ⟨1, [], ⟨0, 10, 13, 24⟩, [⟨0, 10, 17, 13⟩], "java/lang/IndexOutOfBoundsException", rfl, rfl, (fun w hw => by cases hw), by decide, by decide, clk_24, by decide +kernel, ⟨4, 2, by decide, Or.inr ⟨rfl, by decide +kernel⟩, by decide +kernel, by decide +kernel⟩⟩
      · rw [cC, if_neg c0] at hf
        by_cases c1 : E = "java/lang/IllegalArgumentException"
        · subst c1
          cases hf
          refine ⟨2, [⟨0, 10, 13, 24⟩], ⟨0, 10, 17, 13⟩, [], "java/lang/IllegalArgumentException", rfl, rfl, (fun w hw => ?_), by decide, by decide, clk_13, by decide +kernel, ⟨4, 2, by decide, Or.inr ⟨rfl, by decide +kernel⟩, by decide +kernel, by decide +kernel⟩⟩
          simp only [List.mem_cons, List.not_mem_nil, or_false] at hw
          subst hw
          exact ⟨by decide, by decide, "java/lang/IndexOutOfBoundsException", clk_24, by decide +kernel⟩
        · rw [cC, if_neg c1] at hf
          cases hf
theorem okL_hears {l : Launch} (hl : l.stackTraces = false) {F : Nat} {x0 : Nat} {x1 : Int32} {x2 : Int32} {xo : Nat} {h : ab_H} {y : Int32 × ab_H} (e : fL_hears F x0 x1 x2 xo h = some y) : ab_MetX l mL_hears hL_hears [.ref x0, .int x1, .int x2, .ref xo] h ((fun r : Int32 × ab_H => ((.inl (some (.int r.1)), r.2) : ab_R × ab_H)) y) := ab_ofT (io := (fun r : Int32 × ab_H => ((.inl (some (.int r.1)), r.2) : ab_R × ab_H))) (x := y) hl (by decide) rfl (Nat.le_of_ble_eq_true rfl) (wL_hears hl F x0 x1 x2 xo h) e
def hL_trial : List (Nat × Nat × Nat × Nat) := [(0, 9, 12, 13)]
def mL_trial : ab_M := (yL_trial, cL_trial, 4, (some .int), { frames := 8, cells := 1, slots := 6, locals := 161 })
theorem cwL_trial : Cond.codeWith yL_trial cL_trial 4 (some .int) hL_trial ∈ ab_tb := ab_in6 _ (List.mem_of_getElem? (i := 128) rfl) rfl
def fL_trial (F : Nat) (x0 : Nat) (x1 : Int32) (xo : Nat) (h : ab_H) : Option (Int32 × ab_H) := ab_ck (ab_io h x0 11 = true) (ab_bd (fX11_trial F x0 x1 h) fun y => y.1.elim (fun v => (ab_bd (ab_lw y.2 xo (nI 0) v.toInt64) fun h1 => some (nI 0, h1))) (fun E => (cC E ["java/lang/IllegalArgumentException"] 0).map (fun c => (c, y.2))))
theorem wL_trial {l : Launch} (hl : l.stackTraces = false) (F : Nat) (x0 : Nat) (x1 : Int32) (xo : Nat) (h : ab_H) : ab_T l mL_trial hL_trial (fun r : Int32 × ab_H => ((.inl (some (.int r.1)), r.2) : ab_R × ab_H)) 0 0 (fL_trial F x0 x1 xo h) 0 [(0, .ref x0), (1, .int x1), (2, .ref xo)] [] h := by
  unfold fL_trial
  refine at_aload_n (pc := 0) (n := 2) (i := 2) (j := 2) (by decide +kernel) rfl rfl ?_
  refine at_iconst (pc := 1) (n := 0) (v := nI 0) (by decide +kernel) rfl ?_
  refine at_aload_n (pc := 2) (n := 0) (i := 0) (j := 0) (by decide +kernel) rfl rfl ?_
  refine at_iload_n (pc := 3) (n := 1) (i := 1) (j := 1) (by decide +kernel) rfl rfl ?_
  refine at_callV (M' := mX11_trial) (As := [.int x1]) (st := [.int (nI 0), .ref xo]) (a := x0) (ci := 11) (index := 105) (n := 1) (CN := "HungFaces") (pc := 4) rfl iX11_trial kw_f85ccfe5dc kw_c47c854cfc kw_1283126c1c rfl rfl rfl (Nat.le_of_ble_eq_true rfl) (by decide +kernel) (fun y e => okX11_trial hl (F := F) e) (fun y v h' hu he => ?_) rfl (fun y E h' r hu he hf => ?_)
  · obtain ⟨y, h2⟩ := y
    cases y with
    | inr E => cases he
    | inl v =>
      cases he
      refine at_i2l (pc := 7) (by decide +kernel) ?_
      refine at_last (pc := 8) (by decide +kernel) (fun h1 e1 => ?_)
      refine at_goto (pc := 9) (off := 6) (tgt := 15) (by decide +kernel) (by decide) ?_
      refine at_iconst (pc := 15) (n := 0) (v := nI 0) (by decide +kernel) rfl ?_
      exact at_iret (x := (nI 0, h1)) (pc := 16) (by decide +kernel) rfl rfl (Nat.le_of_ble_eq_true rfl) (Nat.le_of_ble_eq_true rfl)
  · obtain ⟨y, h2⟩ := y
    cases y with
    | inl v => cases he
    | inr E2 =>
      cases he
      change (cC E ["java/lang/IllegalArgumentException"] 0).map _ = some r at hf
      by_cases c0 : E = "java/lang/IllegalArgumentException"
      · subst c0
        cases hf
        refine ⟨1, [], ⟨0, 9, 12, 13⟩, [], "java/lang/IllegalArgumentException", rfl, rfl, (fun w hw => by cases hw), by decide, by decide, clk_13, by decide +kernel, ⟨3, 1, by decide, Or.inl ⟨rfl, 3, rfl, by decide +kernel⟩, by decide +kernel, by decide +kernel⟩⟩
      · rw [cC, if_neg c0] at hf
        cases hf
theorem okL_trial {l : Launch} (hl : l.stackTraces = false) {F : Nat} {x0 : Nat} {x1 : Int32} {xo : Nat} {h : ab_H} {y : Int32 × ab_H} (e : fL_trial F x0 x1 xo h = some y) : ab_MetX l mL_trial hL_trial [.ref x0, .int x1, .ref xo] h ((fun r : Int32 × ab_H => ((.inl (some (.int r.1)), r.2) : ab_R × ab_H)) y) := ab_ofT (io := (fun r : Int32 × ab_H => ((.inl (some (.int r.1)), r.2) : ab_R × ab_H))) (x := y) hl (by decide) rfl (Nat.le_of_ble_eq_true rfl) (wL_trial hl F x0 x1 xo h) e
def hL_span : List (Nat × Nat × Nat × Nat) := [(0, 10, 13, 13)]
def mL_span : ab_M := (yL_span, cL_span, 5, (some .int), { frames := 8, cells := 1, slots := 6, locals := 165 })
theorem cwL_span : Cond.codeWith yL_span cL_span 5 (some .int) hL_span ∈ ab_tb := ab_in6 _ (List.mem_of_getElem? (i := 139) rfl) rfl
def fL_span (F : Nat) (x0 : Nat) (x1 : Int32) (x2 : Int32) (xo : Nat) (h : ab_H) : Option (Int32 × ab_H) := ab_ck (ab_io h x0 11 = true) (ab_bd (fX11_span F x0 x1 x2 h) fun y => y.1.elim (fun v => (ab_bd (ab_lw y.2 xo (nI 0) v.toInt64) fun h1 => some (nI 0, h1))) (fun E => (cC E ["java/lang/IllegalArgumentException"] 0).map (fun c => (c, y.2))))
theorem wL_span {l : Launch} (hl : l.stackTraces = false) (F : Nat) (x0 : Nat) (x1 : Int32) (x2 : Int32) (xo : Nat) (h : ab_H) : ab_T l mL_span hL_span (fun r : Int32 × ab_H => ((.inl (some (.int r.1)), r.2) : ab_R × ab_H)) 0 0 (fL_span F x0 x1 x2 xo h) 0 [(0, .ref x0), (1, .int x1), (2, .int x2), (3, .ref xo)] [] h := by
  unfold fL_span
  refine at_aload_n (pc := 0) (n := 3) (i := 3) (j := 3) (by decide +kernel) rfl rfl ?_
  refine at_iconst (pc := 1) (n := 0) (v := nI 0) (by decide +kernel) rfl ?_
  refine at_aload_n (pc := 2) (n := 0) (i := 0) (j := 0) (by decide +kernel) rfl rfl ?_
  refine at_iload_n (pc := 3) (n := 1) (i := 1) (j := 1) (by decide +kernel) rfl rfl ?_
  refine at_iload_n (pc := 4) (n := 2) (i := 2) (j := 2) (by decide +kernel) rfl rfl ?_
  refine at_callV (M' := mX11_span) (As := [.int x1, .int x2]) (st := [.int (nI 0), .ref xo]) (a := x0) (ci := 11) (index := 108) (n := 2) (CN := "HungFaces") (pc := 5) rfl iX11_span kw_caa3ae0642 kw_1ddc414e75 kw_6348a497f0 rfl rfl rfl (Nat.le_of_ble_eq_true rfl) (by decide +kernel) (fun y e => okX11_span hl (F := F) e) (fun y v h' hu he => ?_) rfl (fun y E h' r hu he hf => ?_)
  · obtain ⟨y, h2⟩ := y
    cases y with
    | inr E => cases he
    | inl v =>
      cases he
      refine at_i2l (pc := 8) (by decide +kernel) ?_
      refine at_last (pc := 9) (by decide +kernel) (fun h1 e1 => ?_)
      refine at_goto (pc := 10) (off := 7) (tgt := 17) (by decide +kernel) (by decide) ?_
      refine at_iconst (pc := 17) (n := 0) (v := nI 0) (by decide +kernel) rfl ?_
      exact at_iret (x := (nI 0, h1)) (pc := 18) (by decide +kernel) rfl rfl (Nat.le_of_ble_eq_true rfl) (Nat.le_of_ble_eq_true rfl)
  · obtain ⟨y, h2⟩ := y
    cases y with
    | inl v => cases he
    | inr E2 =>
      cases he
      change (cC E ["java/lang/IllegalArgumentException"] 0).map _ = some r at hf
      by_cases c0 : E = "java/lang/IllegalArgumentException"
      · subst c0
        cases hf
        refine ⟨1, [], ⟨0, 10, 13, 13⟩, [], "java/lang/IllegalArgumentException", rfl, rfl, (fun w hw => by cases hw), by decide, by decide, clk_13, by decide +kernel, ⟨4, 2, by decide, Or.inr ⟨rfl, by decide +kernel⟩, by decide +kernel, by decide +kernel⟩⟩
      · rw [cC, if_neg c0] at hf
        cases hf
theorem okL_span {l : Launch} (hl : l.stackTraces = false) {F : Nat} {x0 : Nat} {x1 : Int32} {x2 : Int32} {xo : Nat} {h : ab_H} {y : Int32 × ab_H} (e : fL_span F x0 x1 x2 xo h = some y) : ab_MetX l mL_span hL_span [.ref x0, .int x1, .int x2, .ref xo] h ((fun r : Int32 × ab_H => ((.inl (some (.int r.1)), r.2) : ab_R × ab_H)) y) := ab_ofT (io := (fun r : Int32 × ab_H => ((.inl (some (.int r.1)), r.2) : ab_R × ab_H))) (x := y) hl (by decide) rfl (Nat.le_of_ble_eq_true rfl) (wL_span hl F x0 x1 x2 xo h) e
def hL_led : List (Nat × Nat × Nat × Nat) := [(0, 10, 13, 24)]
def mL_led : ab_M := (yL_led, cL_led, 5, (some .int), { frames := 8, cells := 1, slots := 6, locals := 137 })
theorem cwL_led : Cond.codeWith yL_led cL_led 5 (some .int) hL_led ∈ ab_tb := ab_in6 _ (List.mem_of_getElem? (i := 148) rfl) rfl
def fL_led (F : Nat) (x0 : Nat) (x1 : Int32) (x2 : Int32) (xo : Nat) (h : ab_H) : Option (Int32 × ab_H) := ab_ck (ab_io h x0 11 = true) (ab_bd (fX11_led F x0 x1 x2 h) fun y => y.elim (fun v => (ab_bd (ab_lw h xo (nI 0) v.toInt64) fun h1 => some (nI 0, h1))) (fun E => (cC E ["java/lang/IndexOutOfBoundsException"] 0).map (fun c => (c, h))))
theorem wL_led {l : Launch} (hl : l.stackTraces = false) (F : Nat) (x0 : Nat) (x1 : Int32) (x2 : Int32) (xo : Nat) (h : ab_H) : ab_T l mL_led hL_led (fun r : Int32 × ab_H => ((.inl (some (.int r.1)), r.2) : ab_R × ab_H)) 0 0 (fL_led F x0 x1 x2 xo h) 0 [(0, .ref x0), (1, .int x1), (2, .int x2), (3, .ref xo)] [] h := by
  unfold fL_led
  refine at_aload_n (pc := 0) (n := 3) (i := 3) (j := 3) (by decide +kernel) rfl rfl ?_
  refine at_iconst (pc := 1) (n := 0) (v := nI 0) (by decide +kernel) rfl ?_
  refine at_aload_n (pc := 2) (n := 0) (i := 0) (j := 0) (by decide +kernel) rfl rfl ?_
  refine at_iload_n (pc := 3) (n := 1) (i := 1) (j := 1) (by decide +kernel) rfl rfl ?_
  refine at_iload_n (pc := 4) (n := 2) (i := 2) (j := 2) (by decide +kernel) rfl rfl ?_
  refine at_callV (M' := mX11_led) (As := [.int x1, .int x2]) (st := [.int (nI 0), .ref xo]) (a := x0) (ci := 11) (index := 112) (n := 2) (CN := "HungFaces") (pc := 5) rfl iX11_led kw_8c126f64b8 kw_36aedd4809 kw_48332e8704 rfl rfl rfl (Nat.le_of_ble_eq_true rfl) (by decide +kernel) (fun y e => okX11_led hl (F := F) e) (fun y v h' hu he => ?_) rfl (fun y E h' r hu he hf => ?_)
  · cases y with
    | inr E => cases he
    | inl v =>
      cases he
      refine at_i2l (pc := 8) (by decide +kernel) ?_
      refine at_last (pc := 9) (by decide +kernel) (fun h1 e1 => ?_)
      refine at_goto (pc := 10) (off := 7) (tgt := 17) (by decide +kernel) (by decide) ?_
      refine at_iconst (pc := 17) (n := 0) (v := nI 0) (by decide +kernel) rfl ?_
      exact at_iret (x := (nI 0, h1)) (pc := 18) (by decide +kernel) rfl rfl (Nat.le_of_ble_eq_true rfl) (Nat.le_of_ble_eq_true rfl)
  · cases y with
    | inl v => cases he
    | inr E2 =>
      cases he
      change (cC E ["java/lang/IndexOutOfBoundsException"] 0).map _ = some r at hf
      by_cases c0 : E = "java/lang/IndexOutOfBoundsException"
      · subst c0
        cases hf
        refine ⟨1, [], ⟨0, 10, 13, 24⟩, [], "java/lang/IndexOutOfBoundsException", rfl, rfl, (fun w hw => by cases hw), by decide, by decide, clk_24, by decide +kernel, ⟨4, 2, by decide, Or.inr ⟨rfl, by decide +kernel⟩, by decide +kernel, by decide +kernel⟩⟩
      · rw [cC, if_neg c0] at hf
        cases hf
theorem okL_led {l : Launch} (hl : l.stackTraces = false) {F : Nat} {x0 : Nat} {x1 : Int32} {x2 : Int32} {xo : Nat} {h : ab_H} {y : Int32 × ab_H} (e : fL_led F x0 x1 x2 xo h = some y) : ab_MetX l mL_led hL_led [.ref x0, .int x1, .int x2, .ref xo] h ((fun r : Int32 × ab_H => ((.inl (some (.int r.1)), r.2) : ab_R × ab_H)) y) := ab_ofT (io := (fun r : Int32 × ab_H => ((.inl (some (.int r.1)), r.2) : ab_R × ab_H))) (x := y) hl (by decide) rfl (Nat.le_of_ble_eq_true rfl) (wL_led hl F x0 x1 x2 xo h) e
def hL_log : List (Nat × Nat × Nat × Nat) := [(0, 10, 13, 26)]
def mL_log : ab_M := (yL_log, cL_log, 5, (some .int), { frames := 7, cells := 1, slots := 6, locals := 112 })
theorem cwL_log : Cond.codeWith yL_log cL_log 5 (some .int) hL_log ∈ ab_tb := ab_in6 _ (List.mem_of_getElem? (i := 162) rfl) rfl
def fL_log (x0 : Nat) (x1 : Int32) (x2 : Int32) (xo : Nat) (h : ab_H) : Option (Int32 × ab_H) := ab_ck (ab_io h x0 11 = true) (ab_bd (fX11_log x0 x1 x2 h) fun y => y.elim (fun v => (ab_bd (ab_lw h xo (nI 0) v.toInt64) fun h1 => some (nI 0, h1))) (fun E => (cC E ["java/util/NoSuchElementException"] 0).map (fun c => (c, h))))
theorem wL_log {l : Launch} (hl : l.stackTraces = false) (x0 : Nat) (x1 : Int32) (x2 : Int32) (xo : Nat) (h : ab_H) : ab_T l mL_log hL_log (fun r : Int32 × ab_H => ((.inl (some (.int r.1)), r.2) : ab_R × ab_H)) 0 0 (fL_log x0 x1 x2 xo h) 0 [(0, .ref x0), (1, .int x1), (2, .int x2), (3, .ref xo)] [] h := by
  unfold fL_log
  refine at_aload_n (pc := 0) (n := 3) (i := 3) (j := 3) (by decide +kernel) rfl rfl ?_
  refine at_iconst (pc := 1) (n := 0) (v := nI 0) (by decide +kernel) rfl ?_
  refine at_aload_n (pc := 2) (n := 0) (i := 0) (j := 0) (by decide +kernel) rfl rfl ?_
  refine at_iload_n (pc := 3) (n := 1) (i := 1) (j := 1) (by decide +kernel) rfl rfl ?_
  refine at_iload_n (pc := 4) (n := 2) (i := 2) (j := 2) (by decide +kernel) rfl rfl ?_
  refine at_callV (M' := mX11_log) (As := [.int x1, .int x2]) (st := [.int (nI 0), .ref xo]) (a := x0) (ci := 11) (index := 115) (n := 2) (CN := "HungFaces") (pc := 5) rfl iX11_log kw_7030a8d521 kw_8f298ba697 kw_b2f4652565 rfl rfl rfl (Nat.le_of_ble_eq_true rfl) (by decide +kernel) (fun y e => okX11_log hl e) (fun y v h' hu he => ?_) rfl (fun y E h' r hu he hf => ?_)
  · cases y with
    | inr E => cases he
    | inl v =>
      cases he
      refine at_i2l (pc := 8) (by decide +kernel) ?_
      refine at_last (pc := 9) (by decide +kernel) (fun h1 e1 => ?_)
      refine at_goto (pc := 10) (off := 7) (tgt := 17) (by decide +kernel) (by decide) ?_
      refine at_iconst (pc := 17) (n := 0) (v := nI 0) (by decide +kernel) rfl ?_
      exact at_iret (x := (nI 0, h1)) (pc := 18) (by decide +kernel) rfl rfl (Nat.le_of_ble_eq_true rfl) (Nat.le_of_ble_eq_true rfl)
  · cases y with
    | inl v => cases he
    | inr E2 =>
      cases he
      change (cC E ["java/util/NoSuchElementException"] 0).map _ = some r at hf
      by_cases c0 : E = "java/util/NoSuchElementException"
      · subst c0
        cases hf
        refine ⟨1, [], ⟨0, 10, 13, 26⟩, [], "java/util/NoSuchElementException", rfl, rfl, (fun w hw => by cases hw), by decide, by decide, clk_26, by decide +kernel, ⟨4, 2, by decide, Or.inr ⟨rfl, by decide +kernel⟩, by decide +kernel, by decide +kernel⟩⟩
      · rw [cC, if_neg c0] at hf
        cases hf
theorem okL_log {l : Launch} (hl : l.stackTraces = false) {x0 : Nat} {x1 : Int32} {x2 : Int32} {xo : Nat} {h : ab_H} {y : Int32 × ab_H} (e : fL_log x0 x1 x2 xo h = some y) : ab_MetX l mL_log hL_log [.ref x0, .int x1, .int x2, .ref xo] h ((fun r : Int32 × ab_H => ((.inl (some (.int r.1)), r.2) : ab_R × ab_H)) y) := ab_ofT (io := (fun r : Int32 × ab_H => ((.inl (some (.int r.1)), r.2) : ab_R × ab_H))) (x := y) hl (by decide) rfl (Nat.le_of_ble_eq_true rfl) (wL_log hl x0 x1 x2 xo h) e
