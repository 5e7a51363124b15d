/-! ===== constructors' rows, answers that are references, throws ===== -/
def ab_al (h : ab_H) (a : Nat) : Option Int32 := match ab_il h a with
  | some n => some (nI n)
  | none => none
/-- go on behind a check that may throw -/
def ab_bx {ρ : Type} (u : Option (Unit ⊕ String)) (thr : String → ρ) (t : Option ρ) : Option ρ := match u with
  | some (.inl _) => t
  | some (.inr E) => some (thr E)
  | none => none
def ab_iot (h : ab_H) (y : Unit ⊕ String) : ab_R × ab_H := (y.elim (fun _ => .inl none) (fun E => .inr E), h)
/-- the words of a throw: good ones of the tables, the others castables -/
def ab_TH (own : String) (ik ic : Nat) (cls : String) : Prop := (Bundle.fit cls = true ∧ ∀ n ∈ (["java/lang/RuntimeException", "java/lang/Exception"] : List String), Bundle.fit n = true) ∧ Cond.classLink own ik cls ∈ ab_tb ∧ Cond.initialized cls ∈ ab_tb ∧ (∀ w ∈ (vx_atS own ic cls ["java/lang/RuntimeException", "java/lang/Exception"]).filter goodWord, w ∈ ab_tb) ∧ (∀ w ∈ (vx_atS own ic cls ["java/lang/RuntimeException", "java/lang/Exception"]).filter (fun w => !goodWord w), w ∈ ab_ca.map (fun q => Cond.castable q.1 q.2) ++ ab_dc.map (fun q => Cond.declares q)) ∧ (∀ w ∈ Cond.classLink own ik cls :: Cond.initialized cls :: vx_atS own ic cls ["java/lang/RuntimeException", "java/lang/Exception"], vx_ot w = true)
section ThrowRules
variable {ρ : Type} {l : Launch} {M : ab_M} {io : ρ → ab_R × ab_H} {kc ks : Nat} {t : Option ρ} {pc : Nat} {lv lv' : List (Nat × Value)} {st : List Value} {h : ab_H}
theorem ab_alen2 {a : Nat} {u : Int32 → Option ρ} (hd : decode M.2.1 pc = .ok (.arraylength, 1)) (k : ∀ x, ab_al h a = some x → ab_S l M io kc ks (u x) (pc + 1) lv (.int x :: st) h) : ab_S l M io kc ks (ab_bd (ab_al h a) u) pc lv (.ref a :: st) h := by
  cases hx : ab_il h a with
  | none =>
    have e1 : ab_al h a = none := by unfold ab_al; rw [hx]
    rw [e1]
    exact ab_none
  | some n =>
    have e1 : ab_al h a = some (nI n) := by unfold ab_al; rw [hx]
    have g := ab_alen (l := l) (M := M) (io := io) (kc := kc) (ks := ks) (pc := pc) (lv := lv) (st := st) (h := h) (a := a) (u := u) hd (fun n' e' => k (nI n') (by unfold ab_al; rw [e']))
    rw [hx] at g
    rw [e1]
    exact g
theorem ab_lstore_n {n : Fin 4} {i : Nat} {x : Int64} (hd : decode M.2.1 pc = .ok (.lstore_n n, 1)) (hi : (n : Nat) = i) (hn : i + 1 < M.2.2.1) (hs : lv.all (fun q => decide (q.1 < i) && decide (q.2.category = 1)) = true) (k : ab_S l M io kc ks t (pc + 1) (lv ++ [(i, .long x)]) st h) : ab_S l M io kc ks t pc lv (.long x :: st) h := by
  intro z hz p e s m args below meth c dC dI dA ad0 n0 A ad H locs ls C D hl hlo hst
  have hall := List.all_eq_true.mp hs
  refine lv_lstore_n C.2.1 C.2.2.1 hd hi hl hn rfl (fun ls' hl' => ?_)
  refine k z hz p e s m args below meth c dC dI dA ad0 n0 A ad H locs ls' C D ⟨hl'.1, hl'.2.1, fun q hq => hl'.2.2 q ?_⟩ (fun q hq => ?_) (ab_ot hst)
  · rw [List.map_append] at hq
    rcases List.mem_append.mp hq with hq | hq
    · obtain ⟨q0, h0, rfl⟩ := List.mem_map.mp hq
      have h9 := hall q0 h0
      simp only [Bool.and_eq_true, decide_eq_true_eq] at h9
      refine List.mem_cons_of_mem _ (List.mem_filter.mpr ⟨List.mem_map_of_mem h0, ?_⟩)
      have e1 : (ab_lv ad q0).1 = q0.1 := rfl
      have e2 : (ab_lv ad q0).2.category = q0.2.category := ab_cat ad q0.2
      rw [e1, e2, h9.2]
      simp only [Bool.and_eq_true, Bool.not_eq_true', beq_eq_false_iff_ne, ne_eq, Bool.and_eq_false_iff]
      exact ⟨by omega, by omega, Or.inr (by decide)⟩
    · rw [List.map_cons, List.map_nil] at hq
      rw [List.mem_singleton.mp hq]
      exact List.mem_cons_self
  · rcases List.mem_append.mp hq with hq | hq
    · exact hlo q hq
    · rw [List.mem_singleton.mp hq]; trivial
theorem ab_objInit {a index : Nat} (hlk : Cond.methodLink M.1.cls index objectInit ∈ ab_tb) (hin : Cond.instanceMethod objectInit ∈ ab_tb) (hco : Cond.code objectInit ⟨#[0xb1]⟩ 1 none ∈ ab_tb) (hfr : 1 ≤ M.2.2.2.2.frames) (hlo9 : (st.map fun v => v.category).sum + 12 ≤ M.2.2.2.2.locals) (hd : decode M.2.1 pc = .ok (.invokespecial index, 3)) (k : ab_S l M io kc ks t (pc + 3) lv st h) : ab_S l M io kc ks t pc lv (.ref a :: st) h := by
  intro z hz p e s m args below meth c dC dI dA ad0 n0 A ad H locs ls C D hl hlo hst
  refine W.objInit C.2.1 C.2.2.1 C.2.2.2.2.2.1 (C.2.2.2.2.2.2.1 _ hlk) (C.2.2.2.2.2.2.1 _ hin) (C.2.2.2.2.2.2.1 _ hco) (g := F0 m pc ls ((Value.ref a :: st).map (ab_v ad))) (a := ad a) (rest := st.map (ab_v ad)) rfl (hl.1.trans C.2.2.2.1.symm) rfl hd hfr (by show 2 * 0 + _ + 12 ≤ _; rw [ab_cats]; omega) ?_
  exact k z hz p e s m args below meth c dC dI dA ad0 n0 A ad H locs ls C D hl hlo (ab_ot hst)
/-- a final field, in its class's own constructor -/
theorem ab_putF {a ci fk index : Nat} {ty : FieldType} {v : Value} {u : ab_H → Option ρ} (hf : ab_FL M.1.cls index ci fk ty) (hfin : (ab_cl[ci]?).map (fun q => ((q.2.1 fk).2.2.2, (q.2.1 fk).1)) = some (true, M.1.cls)) (hnm : M.1.name = "<init>") (hn : ∀ ad, narrow ty (ab_v ad v) = ab_v ad v) (hfit : ∀ ad, fits ty (ab_v ad v) = true) (hd : decode M.2.1 pc = .ok (.putfield index, 3)) (k : ∀ h', ab_fw h a ci fk v = some h' → ab_S l M io kc ks (u h') (pc + 3) lv st h') : ab_S l M io kc ks (ab_bd (ab_fw h a ci fk v) u) pc lv (v :: .ref a :: st) h := by
  intro z hz p e s m args below meth c dC dI dA ad0 n0 A ad H locs ls C D hl hlo hst
  cases hx : ab_fw h a ci fk v with
  | none => rw [hx] at hz; cases hz
  | some h' =>
    rw [hx, ab_bd_some] at hz
    have k := k h' hx
    obtain ⟨ha, fs, hfs, hfk, rfl⟩ := ab_fw_spec hx
    obtain ⟨⟨q1, q2, q3⟩, ref, ty0, h1, h2, h3, h4, h5, h6, h7, h8⟩ := hf
    rw [h1] at hfin
    have hfin : ((q2 fk).2.2.2, (q2 fk).1) = (true, M.1.cls) := Option.some.inj hfin
    have hoke : ab_oke h.1 (.inr (ci, fs.set fk v)) := by
      have h9 := D.2.2.2.1.2 a ha
      rw [hfs] at h9
      intro w hw
      rcases List.mem_or_eq_of_mem_set hw with h10 | h10
      · exact h9 w h10
      · rw [h10]; exact ab_oh hst
    refine va_putF (D := (dC, dI)) (ci := ci) (fs := fs.map (ab_v ad)) (ty := ty) C.2.1 C.2.2.1 C.2.2.2.2.2.2.1 h2 ty0 h6 h7 C.2.2.2.2.2.1 C.2.2.2.2.2.2.2.2.2.2.1 D.1 D.2.1 D.2.2.1 a (by rw [ab_w_get ha, hfs]; rfl) h1 fk h3 (C.2.2.2.2.2.2.1 _ h4) (h5 args s C.2.2.2.2.2.2.1) (congrArg Prod.fst hfin) (C.2.2.2.2.2.2.2.2.1.trans hnm) (congrArg Prod.snd hfin) h8 (hn ad) (hfit ad) (by rw [List.length_map]; exact hfk) hd (fun H1 locs1 hP1 hD1 hS1 => ?_)
    have e1 : (Sum.inr (ci, (fs.map (ab_v ad)).set fk (ab_v ad v)) : va_E) = ab_e ad dA (.inr (ci, fs.set fk v)) := by
      show _ = Sum.inr (ci, (fs.set fk v).map (ab_v ad))
      rw [List.map_set]
    rw [e1] at hP1 hD1
    exact k z hz p e s m args below meth c dC dI dA ad0 n0 A ad H1 locs1 ls C (ab_Wd_set D hoke hP1 hD1 hS1) hl hlo (ab_ot (ab_ot hst))
/-- a call whose answer is a reference; it may make cells -/
theorem ab_callVr {M' : ab_M} {As : List Value} {a ci index n : Nat} {u : Option (Nat × ab_H)} {f : Nat × ab_H → Option ρ} (hL : ab_LV M.1.cls index ci M' n) (hn : As.length = n) (hrm : ab_rmB M.2.2.2.2 M'.2.2.2.2 M'.2.2.1 = true) (hrc : ab_rmC M.2.2.2.2 M'.2.2.2.2 kc ks = true) (hW : (st.map fun v => v.category).sum ≤ 8) (hd : decode M.2.1 pc = .ok (.invokevirtual index, 3))
    (hm : ∀ y, u = some y → ab_Met l M' (.ref a :: As) h (.inl (some (.ref y.1)), y.2)) (k : ∀ y, u = some y → ab_S l M io (kc + M'.2.2.2.2.cells) (ks + M'.2.2.2.2.slots) (f y) (pc + 3) lv (.ref y.1 :: st) y.2) :
    ab_S l M io kc ks (ab_ck (ab_io h a ci = true) (ab_bd u f)) pc lv (As.reverse ++ .ref a :: st) h := by
  obtain ⟨CN, a1, a2, a3, a4, a5⟩ := hL
  refine ab_callV (M' := M') (io' := fun y => (.inl (some (.ref y.1)), y.2)) a1 a2 a3 a4 a5 hn hrm hrc hW hd hm (fun y v h' hu he => ?_) (fun y E h' hu he => by cases he)
  cases he
  exact k y hu
theorem ab_bx_bd {u : Option (Unit ⊕ String)} {thr : String → ρ} : ab_bx u thr t = ab_bd u (fun y => y.elim (fun _ => t) (fun E => some (thr E))) := by
  rcases u with _ | (_ | _) <;> rfl
/-- a check that throws or says nothing -/
theorem ab_callVt {M' : ab_M} {As : List Value} {a ci index n : Nat} {u : Option (Unit ⊕ String)} {thr : String → ρ} (hL : ab_LV M.1.cls index ci M' n) (hthr : ∀ E, io (thr E) = (.inr E, h)) (hn : As.length = n) (hrm : ab_rmB M.2.2.2.2 M'.2.2.2.2 M'.2.2.1 = true) (hrc : ab_rmC M.2.2.2.2 M'.2.2.2.2 kc ks = true) (hW : (st.map fun v => v.category).sum ≤ 8) (hd : decode M.2.1 pc = .ok (.invokevirtual index, 3))
    (hm : ∀ y, u = some y → ab_Met l M' (.ref a :: As) h (ab_iot h y)) (k : ab_S l M io (kc + M'.2.2.2.2.cells) (ks + M'.2.2.2.2.slots) t (pc + 3) lv st h) :
    ab_S l M io kc ks (ab_ck (ab_io h a ci = true) (ab_bx u thr t)) pc lv (As.reverse ++ .ref a :: st) h := by
  obtain ⟨CN, a1, a2, a3, a4, a5⟩ := hL
  rw [ab_bx_bd]
  refine ab_callV (M' := M') (io' := ab_iot h) a1 a2 a3 a4 a5 hn hrm hrc hW hd hm (fun y v h' hu he => ?_) (fun y E h' hu he => ?_)
  · rcases y with y | y
    · cases he
      exact k
    · cases he
  · rcases y with y | y
    · cases he
    · cases he
      exact ⟨_, rfl, hthr _⟩
theorem ab_callSt {M' : ab_M} {As : List Value} {index n : Nat} {u : Option (Unit ⊕ String)} {thr : String → ρ} (hL : ab_LS M.1.cls index M' n) (hthr : ∀ E, io (thr E) = (.inr E, h)) (hn : As.length = n) (hrm : ab_rmB M.2.2.2.2 M'.2.2.2.2 M'.2.2.1 = true) (hrc : ab_rmC M.2.2.2.2 M'.2.2.2.2 kc ks = true) (hW : (st.map fun v => v.category).sum ≤ 8) (hd : decode M.2.1 pc = .ok (.invokestatic index, 3))
    (hm : ∀ y, u = some y → ab_Met l M' As h (ab_iot h y)) (k : ab_S l M io (kc + M'.2.2.2.2.cells) (ks + M'.2.2.2.2.slots) t (pc + 3) lv st h) :
    ab_S l M io kc ks (ab_bx u thr t) pc lv (As.reverse ++ st) h := by
  obtain ⟨a2, a3, a4⟩ := hL
  rw [ab_bx_bd]
  refine ab_callS (M' := M') (io' := ab_iot h) a2 a3 a4 hn hrm hrc hW hd hm (fun y v h' hu he => ?_) (fun y E h' hu he => ?_)
  · rcases y with y | y
    · cases he
      exact k
    · cases he
  · rcases y with y | y
    · cases he
    · cases he
      exact ⟨_, rfl, hthr _⟩
theorem ab_hat {own cls : String} {ik ic : Nat} {args : Array Value} {s : State} (hT : ab_TH own ik ic cls) (hts : ∀ w ∈ ab_tb, w.before args s = true) (hca : ∀ q ∈ ab_ca, va_Nw (.castable q.1 q.2) s) (hdc : ∀ q ∈ ab_dc, va_Nw (.declares q) s) : ∀ w ∈ vx_atS own ic cls ["java/lang/RuntimeException", "java/lang/Exception"], w.before args s = true := by
  intro w hw
  by_cases hg : goodWord w = true
  · exact hts w (hT.2.2.2.1 w (List.mem_filter.mpr ⟨hw, hg⟩))
  · rcases List.mem_append.mp (hT.2.2.2.2.1 w (List.mem_filter.mpr ⟨hw, by simp [hg]⟩)) with h1 | h1
    · obtain ⟨q, hq, rfl⟩ := List.mem_map.mp h1
      exact va_Nw.use rfl (hca q hq)
    · obtain ⟨q, hq, rfl⟩ := List.mem_map.mp h1
      exact va_Nw.use rfl (hdc q hq)
theorem ab_thX {p : Program} {s : State} {m : MethodId} {args : Array Value} {meth : Method} {c : Code} {dC : Nat → ClassId} {dI : Nat → Nat → Nat} {dA : Nat → ClassId} {ad0 : Nat → Nat} {n0 : Nat} {A : Nat → Prop} {ad : Nat → Nat} {H : Heap} {locs : List Loc} {cls : String} {x : ρ} (hio : io x = (.inr cls, h)) (D : ab_Wd dC dI dA ad0 n0 A ad h s.heap H locs) : ∀ t : State, s.vm.Alike t.vm → H.size ≤ t.heap.size → (∀ q : Nat, q < H.size → t.heap[q]? = H[q]?) → ab_Xc dC dI dA ad0 n0 A (io x) cls s t := by
  intro t ha hz hq
  rw [hio]
  refine ⟨rfl, ⟨ad, D.1.kept (fun k q hk => hq q.1 (D.1 k q hk).lt), D.2.1, D.2.2.2⟩, Nat.le_trans D.2.2.1.1 hz, fun q h1 h2 => ?_⟩
  rw [hq q (Nat.lt_of_lt_of_le h1 D.2.2.1.1)]
  exact D.2.2.1.2.1 q h1 h2
theorem ab_thr {x : ρ} {cls text : String} {ik is ic kk : Nat} (hT : ab_TH M.1.cls ik ic cls) (hm : (M.1.cls, is, text, kk) ∈ ab_sr) (hio : io x = (.inr cls, h)) (d0 : decode M.2.1 pc = .ok (.new ik, 3)) (d3 : decode M.2.1 (pc + 3) = .ok (.dup, 1)) (d4 : decode M.2.1 (pc + 4) = .ok (.ldc is, 2)) (d6 : decode M.2.1 (pc + 6) = .ok (.invokespecial ic, 3)) (d9 : decode M.2.1 (pc + 9) = .ok (.athrow, 1)) (hfr : 5 < M.2.2.2.2.frames) (hlo9 : (st.map fun v => v.category).sum + 82 ≤ M.2.2.2.2.locals) (hc : kc + 1 ≤ M.2.2.2.2.cells) (hs : ks + 6 ≤ M.2.2.2.2.slots) : ab_S l M io kc ks (some x) pc lv st h := by
  intro z hz p e s m args below meth c dC dI dA ad0 n0 A ad H locs ls C D hl hlo hst
  cases hz
  have hE := C.2.2.2.2.2.2.2.2.2.2.2.2.2.1 _ hm
  have hG := C.2.2.2.2.2.2.2.2.2.2.2.2
  exact vx_throwS (names := ["java/lang/RuntimeException", "java/lang/Exception"]) C.2.1 C.2.2.1 C.1 C.2.2.2.2.2.1 hT.1.1 hT.1.2 (C.2.2.2.2.2.2.1 _ hT.2.1) (C.2.2.2.2.2.2.1 _ hT.2.2.1) hE (ab_hat hT C.2.2.2.2.2.2.1 hG.2.2.2.2.2.2.2.2.1 hG.2.2.2.2.2.2.2.1) hT.2.2.2.2.2 hG.2.2.2.1 hG.2.2.2.2.1 D.2.2.1 (hl.1.trans C.2.2.2.1.symm) d0 d3 d4 d6 d9 (fun x hx => (C.2.2.2.2.2.2.2.2.2.1 x hx).elim) hfr (by rw [ab_cats]; exact hlo9) hc hs C.2.2.2.2.2.2.2.1 (ab_thX (meth := meth) (c := c) (p := p) (m := m) (args := args) hio D) D.2.2.1.2.2 hc hs
theorem ab_thrW {x : ρ} {cls text : String} {ik is ic kk : Nat} (hT : ab_TH M.1.cls ik ic cls) (hm : (M.1.cls, is, text, kk) ∈ ab_sr) (hio : io x = (.inr cls, h)) (d0 : decode M.2.1 pc = .ok (.new ik, 3)) (d3 : decode M.2.1 (pc + 3) = .ok (.dup, 1)) (d4 : decode M.2.1 (pc + 4) = .ok (.ldc_w is, 3)) (d7 : decode M.2.1 (pc + 7) = .ok (.invokespecial ic, 3)) (d10 : decode M.2.1 (pc + 10) = .ok (.athrow, 1)) (hfr : 5 < M.2.2.2.2.frames) (hlo9 : (st.map fun v => v.category).sum + 82 ≤ M.2.2.2.2.locals) (hc : kc + 1 ≤ M.2.2.2.2.cells) (hs : ks + 6 ≤ M.2.2.2.2.slots) : ab_S l M io kc ks (some x) pc lv st h := by
  intro z hz p e s m args below meth c dC dI dA ad0 n0 A ad H locs ls C D hl hlo hst
  cases hz
  have hE := C.2.2.2.2.2.2.2.2.2.2.2.2.2.1 _ hm
  have hG := C.2.2.2.2.2.2.2.2.2.2.2.2
  exact vx_throwSW (names := ["java/lang/RuntimeException", "java/lang/Exception"]) C.2.1 C.2.2.1 C.1 C.2.2.2.2.2.1 hT.1.1 hT.1.2 (C.2.2.2.2.2.2.1 _ hT.2.1) (C.2.2.2.2.2.2.1 _ hT.2.2.1) hE (ab_hat hT C.2.2.2.2.2.2.1 hG.2.2.2.2.2.2.2.2.1 hG.2.2.2.2.2.2.2.1) hT.2.2.2.2.2 hG.2.2.2.1 hG.2.2.2.2.1 D.2.2.1 (hl.1.trans C.2.2.2.1.symm) d0 d3 d4 d7 d10 (fun x hx => (C.2.2.2.2.2.2.2.2.2.1 x hx).elim) hfr (by rw [ab_cats]; exact hlo9) hc hs C.2.2.2.2.2.2.2.1 (ab_thX (meth := meth) (c := c) (p := p) (m := m) (args := args) hio D) D.2.2.1.2.2 hc hs
end ThrowRules
