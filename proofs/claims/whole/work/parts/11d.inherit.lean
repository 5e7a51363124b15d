/-! ===== inherited and overriding methods; throws ===== -/
def ab_LU (own : String) (index ci : Nat) (M' : ab_M) (n : Nat) : Prop := ∃ (CN owner : String) (x : MethodName), (ab_cl[ci]?).map (fun q => q.1) = some CN ∧ ab_MI M' n ∧ Cond.methodLink own index x ∈ ab_tb ∧ Cond.sameMethod x.cls owner x.name x.desc ∈ ab_tb ∧ Cond.instanceMethod M'.1 ∈ ab_tb ∧ Cond.selects CN x M'.1 ∈ ab_tb ∧ (⟨owner, x.name, x.desc⟩ : MethodName) ∈ ab_dc ∧ owner ≠ "java/lang/invoke/MethodHandle" ∧ owner ≠ "java/lang/invoke/VarHandle" ∧ (parseMethodDescriptor x.desc).map (fun d => d.parameters.length) = some n
section InhRules
variable {ρ : Type} {l : Launch} {M : ab_M} {io : ρ → ab_R × ab_H} {kc ks : Nat} {t : Option ρ} {pc : Nat} {lv lv' : List (Nat × Value)} {st : List Value} {h : ab_H}
theorem ab_callU {M' : ab_M} {As : List Value} {a ci index n : Nat} {τ : Type} {io' : τ → ab_R × ab_H} {u : Option τ} {f : τ → Option ρ} (hL : ab_LU M.1.cls index ci M' n) (hnt : ∀ y, ∃ v, (io' y).1 = .inl v) (hn : As.length = n) (hrm : ab_rmB M.2.2.2.2 M'.2.2.2.2 M'.2.2.1 = true) (hrc : ab_rmC M.2.2.2.2 M'.2.2.2.2 kc ks = true) (hW : (st.map fun v => v.category).sum ≤ 8) (hd : decode M.2.1 pc = .ok (.invokevirtual index, 3))
    (hm : ∀ y, u = some y → ab_Met l M' (.ref a :: As) h (io' y)) (k : ∀ y v h', u = some y → io' y = (.inl v, h') → ab_S l M io (kc + M'.2.2.2.2.cells) (ks + M'.2.2.2.2.slots) (f y) (pc + 3) lv (v.toList ++ st) h') :
    ab_S l M io kc ks (ab_ck (ab_io h a ci = true) (ab_bd u f)) pc lv (As.reverse ++ .ref a :: st) h := by
  intro z hz p e s m args below meth c dC dI dA ad0 n0 A ad H locs ls C D hl hlo hst
  by_cases hio : ab_io h a ci = true
  · rw [ab_ck_pos hio] at hz
    cases hu : u with
    | none => rw [hu] at hz; cases hz
    | some y =>
      rw [hu, ab_bd_some] at hz
      obtain ⟨CN, owner, x, hc, hI, hlk, hsm, hin, hse, hdc, hy1, hy2, hpn⟩ := hL
      obtain ⟨ha, fs, hfs⟩ := ab_io_spec hio
      have hrs := ab_rmB_spec hrm
      have hcs := ab_rmC_spec hrc
      have hst1 : ∀ v ∈ st, ab_ok h.1 v := fun v hv => hst v (List.mem_append_right _ (List.mem_cons_of_mem _ hv))
      have hst2 : ∀ v ∈ Value.ref a :: As, ab_ok h.1 v := fun v hv => by
        rcases List.mem_cons.mp hv with hv | hv
        · exact hst v (List.mem_append_right _ (by rw [hv]; exact List.mem_cons_self))
        · exact hst v (List.mem_append_left _ (List.mem_reverse.mpr hv))
      have hpre := ab_pre (M' := M') C D hst2
      have hG := ab_good (M := M) hI.1
      have hts := C.2.2.2.2.2.2.1
      obtain ⟨q, hq⟩ : ∃ q, ab_cl[ci]? = some q := by
        cases hq : ab_cl[ci]? with
        | none => rw [hq] at hc; cases hc
        | some q => exact ⟨q, rfl⟩
      have hCN : q.1 = CN := by rw [hq] at hc; exact Option.some.inj hc
      have hrv := va_recv C.2.2.2.2.2.2.2.2.2.2.1 D.1 (q0 := a) (a := ad a) (ci := ci) (fs := fs.map (ab_v ad)) hq (by rw [ab_w_get ha, hfs]; rfl)
      rw [hCN] at hrv
      obtain ⟨v9, hv9⟩ := hnt y
      have hM := ab_toMet hv9 (hm y hu) dC dI dA ad H.size
      have hr := va_runU (Ts := ab_tb) (x := x) (owner := owner) (As := As.map (ab_v ad)) (b := ad a) (rest := st.map (ab_v ad)) (C := CN) (n := n) (cells := kc) (slots := ks) (locs := locs) (e := e) (below := below) (meth := meth) (g := F0 m pc ls ((As.reverse ++ Value.ref a :: st).map (ab_v ad))) ⟨C.2.1, C.2.2.1, C.2.2.2.1, C.2.2.2.2.2.1, hts⟩ hM
        ⟨⟨rfl, rfl, hrs.1, hrs.2, pay_in hts hG, List.mem_cons_self⟩, hts _ hI.1, hts _ hI.2.1, ⟨hy1, hy2⟩, fun sig h9 => (by rw [h9] at hpn; exact (Option.some.inj hpn).symm), hts _ hlk, hts _ hsm, va_Decl.abs (C.2.2.2.2.2.2.2.2.2.2.2.2.2.2.2.2.2.2.2.1 _ hdc), hts _ hse, hts _ hin⟩
        ⟨hpre.1, hrv, hpre.2⟩ rfl (by rw [List.length_map]; exact hn) hl.1 (by show (As.reverse ++ Value.ref a :: st).map (ab_v ad) = _; rw [List.map_append, List.map_reverse]; rfl) (lv_room (by rw [ab_cats]; exact hW)) hd hcs
      exact ab_fin hz C D hl hlo hst1 hrc (ab_upRun hr) (fun v h' he => k y v h' hu he) (fun E h' he => by rw [he] at hv9; cases hv9)
  · rw [ab_ck, if_neg hio] at hz; cases hz
theorem ab_callUi {M' : ab_M} {As : List Value} {a ci index n : Nat} {u : Option Int32} {f : Int32 → Option ρ} (hL : ab_LU M.1.cls index ci M' n) (h0 : M'.2.2.2.2.cells = 0) (h1 : M'.2.2.2.2.slots = 0) (hn : As.length = n) (hrm : ab_rmB M.2.2.2.2 M'.2.2.2.2 M'.2.2.1 = true) (hrc : ab_rmC M.2.2.2.2 M'.2.2.2.2 kc ks = true) (hW : (st.map fun v => v.category).sum ≤ 8) (hd : decode M.2.1 pc = .ok (.invokevirtual index, 3))
    (hm : ∀ y, u = some y → ab_Met l M' (.ref a :: As) h (.inl (some (.int y)), h)) (k : ∀ y, u = some y → ab_S l M io kc ks (f y) (pc + 3) lv (.int y :: st) h) :
    ab_S l M io kc ks (ab_ck (ab_io h a ci = true) (ab_bd u f)) pc lv (As.reverse ++ .ref a :: st) h := by
  refine ab_callU (M' := M') (io' := fun y => (.inl (some (.int y)), h)) hL (fun y => ⟨_, rfl⟩) hn hrm hrc hW hd hm (fun y v h' hu he => ?_)
  cases he
  rw [h0, h1]
  exact k y hu
theorem ab_callUj {M' : ab_M} {As : List Value} {a ci index n : Nat} {u : Option (Int32 × ab_H)} {f : Int32 × ab_H → Option ρ} (hL : ab_LU M.1.cls index ci M' n) (h0 : M'.2.2.2.2.cells = 0) (h1 : M'.2.2.2.2.slots = 0) (hn : As.length = n) (hrm : ab_rmB M.2.2.2.2 M'.2.2.2.2 M'.2.2.1 = true) (hrc : ab_rmC M.2.2.2.2 M'.2.2.2.2 kc ks = true) (hW : (st.map fun v => v.category).sum ≤ 8) (hd : decode M.2.1 pc = .ok (.invokevirtual index, 3))
    (hm : ∀ y, u = some y → ab_Met l M' (.ref a :: As) h (.inl (some (.int y.1)), y.2)) (k : ∀ y, u = some y → ab_S l M io kc ks (f y) (pc + 3) lv (.int y.1 :: st) y.2) :
    ab_S l M io kc ks (ab_ck (ab_io h a ci = true) (ab_bd u f)) pc lv (As.reverse ++ .ref a :: st) h := by
  refine ab_callU (M' := M') (io' := fun y => (.inl (some (.int y.1)), y.2)) hL (fun y => ⟨_, rfl⟩) hn hrm hrc hW hd hm (fun y v h' hu he => ?_)
  cases he
  rw [h0, h1]
  exact k y hu
theorem ab_callUw {M' : ab_M} {As : List Value} {a ci index n : Nat} {u : Option ab_H} {f : ab_H → Option ρ} (hL : ab_LU M.1.cls index ci M' n) (h0 : M'.2.2.2.2.cells = 0) (h1 : M'.2.2.2.2.slots = 0) (hn : As.length = n) (hrm : ab_rmB M.2.2.2.2 M'.2.2.2.2 M'.2.2.1 = true) (hrc : ab_rmC M.2.2.2.2 M'.2.2.2.2 kc ks = true) (hW : (st.map fun v => v.category).sum ≤ 8) (hd : decode M.2.1 pc = .ok (.invokevirtual index, 3))
    (hm : ∀ y, u = some y → ab_Met l M' (.ref a :: As) h (.inl none, y)) (k : ∀ y, u = some y → ab_S l M io kc ks (f y) (pc + 3) lv st y) :
    ab_S l M io kc ks (ab_ck (ab_io h a ci = true) (ab_bd u f)) pc lv (As.reverse ++ .ref a :: st) h := by
  refine ab_callU (M' := M') (io' := fun y => (.inl none, y)) hL (fun y => ⟨_, rfl⟩) hn hrm hrc hW hd hm (fun y v h' hu he => ?_)
  cases he
  rw [h0, h1]
  exact k y hu
end InhRules
