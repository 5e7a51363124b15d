/-! ===== calls, by what they answer; joins ===== -/
def ab_LV (own : String) (index ci : Nat) (M' : ab_M) (n : Nat) : Prop := ∃ CN, (ab_cl[ci]?).map (fun q => q.1) = some CN ∧ ab_MI M' n ∧ Cond.methodLink own index M'.1 ∈ ab_tb ∧ Cond.instanceMethod M'.1 ∈ ab_tb ∧ Cond.selects CN M'.1 M'.1 ∈ ab_tb
def ab_LS (own : String) (index : Nat) (M' : ab_M) (n : Nat) : Prop := ab_MI M' n ∧ Cond.methodLink own index M'.1 ∈ ab_tb ∧ Cond.static M'.1 ∈ ab_tb
def ab_jn {κ ρ : Type} (k : κ) (b : κ → Option ρ) : Option ρ := b k
/-- a number that a boolean may be -/
def ab_bl (x : Int32) : Prop := narrow .boolean (.int x) = .int x ∧ fits .boolean (.int x) = true
theorem ab_bl0 : ab_bl (nI 0) := ⟨by decide, by decide⟩
theorem ab_bl1 : ab_bl (nI 1) := ⟨by decide, by decide⟩
def ab_cb {ρ : Type} (x : Int32) (t : Option ρ) : Option ρ := if x = nI 0 ∨ x = nI 1 then t else none
theorem ab_rmB_of {R R' : Room} {nL : Nat} (h1 : R'.frames + 1 ≤ R.frames) (h2 : 8 + (nL + 11) + R'.locals ≤ R.locals) : ab_rmB R R' nL = true := by
  unfold ab_rmB
  rw [decide_eq_true h1, decide_eq_true h2]
  rfl
section SpecRules
variable {ρ : Type} {l : Launch} {M : ab_M} {io : ρ → ab_R × ab_H} {kc ks : Nat} {t : Option ρ} {pc : Nat} {lv lv' : List (Nat × Value)} {st : List Value} {h : ab_H}
theorem ab_cbr {x : Int32} (k : ab_bl x → ab_S l M io kc ks t pc lv st h) : ab_S l M io kc ks (ab_cb x t) pc lv st h := by
  by_cases hc : x = nI 0 ∨ x = nI 1
  · rw [ab_cb, if_pos hc]
    exact k (hc.elim (fun e => e ▸ ab_bl0) (fun e => e ▸ ab_bl1))
  · rw [ab_cb, if_neg hc]
    exact ab_none
theorem ab_jr {κ : Type} {k : κ} {b : κ → Option ρ} (P : κ → Prop) (hk : P k) (hb : ∀ j, P j → ab_S l M io kc ks (b j) pc lv st h) : ab_S l M io kc ks (ab_jn k b) pc lv st h := hb k hk
theorem ab_callVi {M' : ab_M} {As : List Value} {a ci index n : Nat} {u : Option Int32} {f : Int32 → Option ρ} (hL : ab_LV M.1.cls index ci M' n) (h0 : M'.2.2.2.2.cells = 0) (h1 : M'.2.2.2.2.slots = 0) (hn : As.length = n) (hrm : ab_rmB M.2.2.2.2 M'.2.2.2.2 M'.2.2.1 = true) (hrc : ab_rmC M.2.2.2.2 M'.2.2.2.2 kc ks = true) (hW : (st.map fun v => v.category).sum ≤ 8) (hd : decode M.2.1 pc = .ok (.invokevirtual index, 3))
    (hm : ∀ y, u = some y → ab_Met l M' (.ref a :: As) h (.inl (some (.int y)), h)) (k : ∀ y, u = some y → ab_S l M io kc ks (f y) (pc + 3) lv (.int y :: st) h) :
    ab_S l M io kc ks (ab_ck (ab_io h a ci = true) (ab_bd u f)) pc lv (As.reverse ++ .ref a :: st) h := by
  obtain ⟨CN, a1, a2, a3, a4, a5⟩ := hL
  refine ab_callV (M' := M') (io' := fun y => (.inl (some (.int y)), h)) a1 a2 a3 a4 a5 hn hrm hrc hW hd hm (fun y v h' hu he => ?_) (fun y E h' hu he => by cases he)
  cases he
  rw [h0, h1]
  exact k y hu
theorem ab_callVj {M' : ab_M} {As : List Value} {a ci index n : Nat} {u : Option (Int32 × ab_H)} {f : Int32 × ab_H → Option ρ} (hL : ab_LV M.1.cls index ci M' n) (h0 : M'.2.2.2.2.cells = 0) (h1 : M'.2.2.2.2.slots = 0) (hn : As.length = n) (hrm : ab_rmB M.2.2.2.2 M'.2.2.2.2 M'.2.2.1 = true) (hrc : ab_rmC M.2.2.2.2 M'.2.2.2.2 kc ks = true) (hW : (st.map fun v => v.category).sum ≤ 8) (hd : decode M.2.1 pc = .ok (.invokevirtual index, 3))
    (hm : ∀ y, u = some y → ab_Met l M' (.ref a :: As) h (.inl (some (.int y.1)), y.2)) (k : ∀ y, u = some y → ab_S l M io kc ks (f y) (pc + 3) lv (.int y.1 :: st) y.2) :
    ab_S l M io kc ks (ab_ck (ab_io h a ci = true) (ab_bd u f)) pc lv (As.reverse ++ .ref a :: st) h := by
  obtain ⟨CN, a1, a2, a3, a4, a5⟩ := hL
  refine ab_callV (M' := M') (io' := fun y => (.inl (some (.int y.1)), y.2)) a1 a2 a3 a4 a5 hn hrm hrc hW hd hm (fun y v h' hu he => ?_) (fun y E h' hu he => by cases he)
  cases he
  rw [h0, h1]
  exact k y hu
theorem ab_callVw {M' : ab_M} {As : List Value} {a ci index n : Nat} {u : Option ab_H} {f : ab_H → Option ρ} (hL : ab_LV M.1.cls index ci M' n) (h0 : M'.2.2.2.2.cells = 0) (h1 : M'.2.2.2.2.slots = 0) (hn : As.length = n) (hrm : ab_rmB M.2.2.2.2 M'.2.2.2.2 M'.2.2.1 = true) (hrc : ab_rmC M.2.2.2.2 M'.2.2.2.2 kc ks = true) (hW : (st.map fun v => v.category).sum ≤ 8) (hd : decode M.2.1 pc = .ok (.invokevirtual index, 3))
    (hm : ∀ y, u = some y → ab_Met l M' (.ref a :: As) h (.inl none, y)) (k : ∀ y, u = some y → ab_S l M io kc ks (f y) (pc + 3) lv st y) :
    ab_S l M io kc ks (ab_ck (ab_io h a ci = true) (ab_bd u f)) pc lv (As.reverse ++ .ref a :: st) h := by
  obtain ⟨CN, a1, a2, a3, a4, a5⟩ := hL
  refine ab_callV (M' := M') (io' := fun y => (.inl none, y)) a1 a2 a3 a4 a5 hn hrm hrc hW hd hm (fun y v h' hu he => ?_) (fun y E h' hu he => by cases he)
  cases he
  rw [h0, h1]
  exact k y hu
theorem ab_callSi {M' : ab_M} {As : List Value} {index n : Nat} {u : Option Int32} {f : Int32 → Option ρ} (hL : ab_LS M.1.cls index M' n) (h0 : M'.2.2.2.2.cells = 0) (h1 : M'.2.2.2.2.slots = 0) (hn : As.length = n) (hrm : ab_rmB M.2.2.2.2 M'.2.2.2.2 M'.2.2.1 = true) (hrc : ab_rmC M.2.2.2.2 M'.2.2.2.2 kc ks = true) (hW : (st.map fun v => v.category).sum ≤ 8) (hd : decode M.2.1 pc = .ok (.invokestatic index, 3))
    (hm : ∀ y, u = some y → ab_Met l M' As h (.inl (some (.int y)), h)) (k : ∀ y, u = some y → ab_S l M io kc ks (f y) (pc + 3) lv (.int y :: st) h) :
    ab_S l M io kc ks (ab_bd u f) pc lv (As.reverse ++ st) h := by
  obtain ⟨a2, a3, a4⟩ := hL
  refine ab_callS (M' := M') (io' := fun y => (.inl (some (.int y)), h)) a2 a3 a4 hn hrm hrc hW hd hm (fun y v h' hu he => ?_) (fun y E h' hu he => by cases he)
  cases he
  rw [h0, h1]
  exact k y hu
theorem ab_callSw {M' : ab_M} {As : List Value} {index n : Nat} {u : Option ab_H} {f : ab_H → Option ρ} (hL : ab_LS M.1.cls index M' n) (h0 : M'.2.2.2.2.cells = 0) (h1 : M'.2.2.2.2.slots = 0) (hn : As.length = n) (hrm : ab_rmB M.2.2.2.2 M'.2.2.2.2 M'.2.2.1 = true) (hrc : ab_rmC M.2.2.2.2 M'.2.2.2.2 kc ks = true) (hW : (st.map fun v => v.category).sum ≤ 8) (hd : decode M.2.1 pc = .ok (.invokestatic index, 3))
    (hm : ∀ y, u = some y → ab_Met l M' As h (.inl none, y)) (k : ∀ y, u = some y → ab_S l M io kc ks (f y) (pc + 3) lv st y) :
    ab_S l M io kc ks (ab_bd u f) pc lv (As.reverse ++ st) h := by
  obtain ⟨a2, a3, a4⟩ := hL
  refine ab_callS (M' := M') (io' := fun y => (.inl none, y)) a2 a3 a4 hn hrm hrc hW hd hm (fun y v h' hu he => ?_) (fun y E h' hu he => by cases he)
  cases he
  rw [h0, h1]
  exact k y hu
end SpecRules
