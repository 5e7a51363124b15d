variable {Nq : Nat}
/-! ===== invokestatic of a method with an exception table ===== -/
def ab_MIX (M' : ab_M) (hh : List (Nat × Nat × Nat × Nat)) (n : Nat) : Prop := Cond.codeWith M'.1 M'.2.1 M'.2.2.1 M'.2.2.2.1 hh ∈ ab_tb ∧ Cond.initialized M'.1.cls ∈ ab_tb ∧ (M'.1.cls ≠ "java/lang/invoke/MethodHandle" ∧ M'.1.cls ≠ "java/lang/invoke/VarHandle" ∧ (parseMethodDescriptor M'.1.desc).map (fun d => d.parameters.length) = some n)
theorem ab_goodX {M' : ab_M} {hh : List (Nat × Nat × Nat × Nat)} (hc : Cond.codeWith M'.1 M'.2.1 M'.2.2.1 M'.2.2.2.1 hh ∈ ab_tb) : GoodIn ab_tb (ab_wsX M' hh) := by
  have hg : ∀ w ∈ ab_tb, w ∈ ab_tb ∧ ((w.onTables && w.keeps) = true ∨ ∃ ty, w = .arrayClass ty) := fun w hw => ⟨hw, good_of_word (List.mem_filter.mp hw).2⟩
  intro w hw
  rcases List.mem_cons.mp hw with hw | hw
  · subst hw; exact hg _ hc
  · exact hg w hw
section CallX
variable {ρ : Type} {l : Launch} {M : ab_M} {io : ρ → ab_R × ab_H} {kc ks : Nat} {pc : Nat} {lv : List (Nat × Value)} {st : List Value} {h : ab_H}
theorem ab_callSX {M' : ab_M} {hh : List (Nat × Nat × Nat × Nat)} {As : List Value} {index n : Nat} {τ : Type} {io' : τ → ab_R × ab_H} {u : Option τ} {f : τ → Option ρ} (hI : ab_MIX M' hh n) (hlk : Cond.methodLink M.1.cls index M'.1 ∈ ab_tb) (hin : Cond.static M'.1 ∈ ab_tb) (hn : As.length = n) (hrm : ab_rmB M.2.2.2.2 M'.2.2.2.2 M'.2.2.1 = true) (hrc : ab_rmC M.2.2.2.2 M'.2.2.2.2 kc ks = true) (hW : (st.map fun v => v.category).sum ≤ 8) (hd : decode M.2.1 pc = .ok (.invokestatic index, 3))
    (hm : ∀ y, u = some y → ab_MetX l M' hh As h (io' y)) (k : ∀ y v h', u = some y → io' y = (.inl v, h') → ab_S l M io (kc + M'.2.2.2.2.cells) (ks + M'.2.2.2.2.slots) (f y) (pc + 3) lv (v.toList ++ st) h') (kx : ∀ y E h', u = some y → io' y = (.inr E, h') → ∃ r, f y = some r ∧ io r = (.inr E, h')) :
    ab_S l M io kc ks (ab_bd u f) pc lv (As.reverse ++ st) h := by
  intro z hz p e s m args below meth c dC dI dA ad0 n0 A ad H locs ls C D hl hlo hst
  cases hu : u with
  | none => rw [hu] at hz; cases hz
  | some y =>
    rw [hu, ab_bd_some] at hz
    have hrs := ab_rmB_spec hrm
    have hcs := ab_rmC_spec hrc
    have hst1 : ∀ v ∈ st, ab_ok h.1 v := fun v hv => hst v (List.mem_append_right _ hv)
    have hst2 : ∀ v ∈ As, ab_ok h.1 v := fun v hv => hst v (List.mem_append_left _ (List.mem_reverse.mpr hv))
    have hpre := ab_pre (M' := M') C D hst2
    have hG := ab_goodX hI.1
    have hts := C.2.2.2.2.2.2.1
    have hr := vx_runSX (hh := hh) (Ts := ab_tb) (As := As.map (ab_v ad)) (rest := st.map (ab_v ad)) (n := n) (cells := kc) (slots := ks) (locs := locs) (e := e) (below := below) (meth := meth) (g := F0 m pc ls ((As.reverse ++ st).map (ab_v ad))) ⟨C.2.1, C.2.2.1, C.2.2.2.1, C.2.2.2.2.2.1, hts⟩ (hm y hu dC dI dA ad H.size)
      ⟨⟨rfl, rfl, hrs.1, hrs.2, pay_in hts hG, List.mem_cons_self⟩, hts _ hI.1, hts _ hI.2.1, ⟨hI.2.2.1, hI.2.2.2.1⟩, fun sig h9 => by have h8 := hI.2.2.2.2; rw [h9] at h8; exact (Option.some.inj h8).symm, hts _ hlk, hts _ hin⟩
      hpre rfl (by rw [List.length_map]; exact hn) hl.1 (by show (As.reverse ++ st).map (ab_v ad) = _; rw [List.map_append, List.map_reverse]) (lv_room (by rw [ab_cats]; exact hW)) hd hcs
    exact ab_fin hz C D hl hlo hst1 hrc hr (fun v h' he => k y v h' hu he) (fun E h' he => kx y E h' hu he)
end CallX
