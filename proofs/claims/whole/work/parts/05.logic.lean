/-! ===== the judgement: a frame, over a heap by numbers, does what a term says ===== -/
def ab_tb : List Cond := lw_tbl.filter goodWord
def ab_ws (M : ab_M) : List Cond := Cond.code M.1 M.2.1 M.2.2.1 M.2.2.2.1 :: ab_tb
def ab_ty (dA : Nat → ClassId) : List (ClassId × FieldType) := [(dA 0, .int), (dA 1, .long), (dA 2, .boolean), (dA 3, .object "HungFaces$State")]
def ab_Cx (l : Launch) (M : ab_M) (dC : Nat → ClassId) (dI : Nat → Nat → Nat) (dA : Nat → ClassId) (ad0 : Nat → Nat) (A : Nat → Prop) (p : Program) (s : State) (m : MethodId) (args : Array Value) (meth : Method) (c : Code) : Prop :=
  l.stackTraces = false ∧ p.tables.exec = Jvm.exec ∧ c.code = M.2.1 ∧ c.maxLocals = M.2.2.1 ∧ meth.sig.returnType = M.2.2.2.1 ∧ s.vm.findClass M.1.cls = some m.cls ∧ (∀ w ∈ ab_tb, w.before args s = true) ∧ meth.locks = false ∧ meth.name = M.1.name ∧ (∀ x ∈ c.exceptionTable.toList, False) ∧ va_K (dC, dI) ab_cl (ab_ty dA) s ∧ (∀ q, s.heap.size ≤ q → A q) ∧ ab_GW ad0 A s s.heap
def ab_Wd (dC : Nat → ClassId) (dI : Nat → Nat → Nat) (dA : Nat → ClassId) (ad0 : Nat → Nat) (n0 : Nat) (A : Nat → Prop) (ad : Nat → Nat) (h : ab_H) (H0 H : Heap) (locs : List Loc) : Prop :=
  va_P (dC, dI) ab_cl (ab_w ad dA h) H ∧ va_D A (ab_w ad dA h) ∧ va_S A H0 H locs ∧ ab_okh h ∧ n0 ≤ h.1 ∧ ∀ i, i < n0 ∨ ab_SB ≤ i → ad i = ad0 i
def ab_B (dC : Nat → ClassId) (dI : Nat → Nat → Nat) (dA : Nat → ClassId) (ad0 : Nat → Nat) (n0 : Nat) (A : Nat → Prop) (ad : Nat → Nat) (h : ab_H) (H : Heap) : Prop :=
  va_P (dC, dI) ab_cl (ab_w ad dA h) H ∧ va_D A (ab_w ad dA h) ∧ ab_okh h ∧ n0 ≤ h.1 ∧ ∀ i, i < n0 ∨ ab_SB ≤ i → ad i = ad0 i
def ab_Qc (dC : Nat → ClassId) (dI : Nat → Nat → Nat) (dA : Nat → ClassId) (ad0 : Nat → Nat) (n0 : Nat) (A : Nat → Prop) (r : ab_R × ab_H) : Array Value → State → Outcome → State → Prop := fun _ st oc t =>
  (∃ (v : Option Value) (ad : Nat → Nat), r.1 = .inl v ∧ oc = .returned (v.map (ab_v ad)) ∧ (∀ w, v = some w → ab_ok r.2.1 w) ∧ ab_B dC dI dA ad0 n0 A ad r.2 t.heap) ∧ va_F A st t
def ab_Xc (dC : Nat → ClassId) (dI : Nat → Nat → Nat) (dA : Nat → ClassId) (ad0 : Nat → Nat) (n0 : Nat) (A : Nat → Prop) (r : ab_R × ab_H) : String → State → State → Prop := fun E st t =>
  r.1 = .inr E ∧ (∃ ad : Nat → Nat, ab_B dC dI dA ad0 n0 A ad r.2 t.heap) ∧ va_F A st t
def ab_lv (ad : Nat → Nat) (q : Nat × Value) : Nat × Value := (q.1, ab_v ad q.2)
def ab_S {ρ : Type} (l : Launch) (M : ab_M) (io : ρ → ab_R × ab_H) (kc ks : Nat) (t : Option ρ) (pc : Nat) (lv : List (Nat × Value)) (st : List Value) (h : ab_H) : Prop :=
  ∀ x : ρ, t = some x → ∀ (p : Program) (e : Env) (s : State) (m : MethodId) (args : Array Value) (below : List Frame) (meth : Method) (c : Code) (dC : Nat → ClassId) (dI : Nat → Nat → Nat) (dA : Nat → ClassId) (ad0 : Nat → Nat) (n0 : Nat) (A : Nat → Prop) (ad : Nat → Nat) (H : Heap) (locs : List Loc) (ls : Array Slot),
    ab_Cx l M dC dI dA ad0 A p s m args meth c → ab_Wd dC dI dA ad0 n0 A ad h s.heap H locs → lv_has ls M.2.2.1 (lv.map (ab_lv ad)) → (∀ q ∈ lv, ab_ok h.1 q.2) → (∀ v ∈ st, ab_ok h.1 v) →
    W p l e M.2.2.2.2 s m args below meth c H locs kc ks (vx_MQ below (ab_Qc dC dI dA ad0 n0 A (io x)) (ab_Xc dC dI dA ad0 n0 A (io x)) args s M.2.2.2.2.cells M.2.2.2.2.slots A) (F0 m pc ls (st.map (ab_v ad)))
/-- a method's contract: from the heap h with the arguments a it comes to r -/
def ab_Met (l : Launch) (M : ab_M) (a : List Value) (h : ab_H) (r : ab_R × ab_H) : Prop :=
  ∀ (dC : Nat → ClassId) (dI : Nat → Nat → Nat) (dA : Nat → ClassId) (ad0 : Nat → Nat) (sz : Nat), vx_Met l M.1 (ab_ws M) M.2.2.2.2
    (va_Pc (a.map (ab_v ad0)) (fun U => U.heap.size = sz ∧ (∀ v ∈ a, ab_ok h.1 v) ∧ ab_okh h ∧ va_P (dC, dI) ab_cl (ab_w ad0 dA h) U.heap ∧ va_D (fun _ => True) (ab_w ad0 dA h) ∧ va_K (dC, dI) ab_cl (ab_ty dA) U ∧ ab_GW ad0 (va_A (ab_w ad0 dA h) sz) U U.heap))
    (ab_Qc dC dI dA ad0 h.1 (va_A (ab_w ad0 dA h) sz) r) (ab_Xc dC dI dA ad0 h.1 (va_A (ab_w ad0 dA h) sz) r) M.2.2.2.2.cells M.2.2.2.2.slots (va_A (ab_w ad0 dA h) sz)
theorem ab_args (ad : Nat → Nat) : ∀ (vs : List Value) (i : Nat), lv_args i (vs.map (ab_v ad)) = (lv_args i vs).map (ab_lv ad)
  | [], _ => rfl
  | v :: vs, i => by
    simp only [List.map, lv_args, ab_cat]
    rw [ab_args ad vs]
    rfl
theorem ab_args_mem : ∀ (vs : List Value) (i : Nat) (q : Nat × Value), q ∈ lv_args i vs → q.2 ∈ vs
  | [], _, q, h => by cases h
  | v :: vs, i, q, h => by
    simp only [lv_args, List.mem_cons] at h
    rcases h with h | h
    · rw [h]; exact List.mem_cons_self
    · exact List.mem_cons_of_mem _ (ab_args_mem vs _ q h)
theorem ab_sl (ad : Nat → Nat) (vs : List Value) : (lg_sl (vs.map (ab_v ad))).length = (lg_sl vs).length := by
  induction vs with
  | nil => rfl
  | cons v vs ih =>
    simp only [lg_sl, List.map, List.flatMap_cons, List.length_append, ab_cat] at ih ⊢
    rw [ih]
    split <;> rfl
/-- the contract out of the walk -/
theorem ab_ofS {ρ : Type} {l : Launch} {M : ab_M} {io : ρ → ab_R × ab_H} {t : Option ρ} {a : List Value} {h : ab_H} {lv : List (Nat × Value)} (hl : l.stackTraces = false) (hy : plainName M.1.cls = true) (hlv : lv_args 0 a = lv) (hnl : (lg_sl a).length ≤ M.2.2.1) (hS : ab_S l M io 0 0 t 0 lv [] h) {x : ρ} (hx : t = some x) : ab_Met l M a h (io x) := by
  intro dC dI dA ad0 sz
  refine vx_ofW (cc := M.2.1) (maxL := M.2.2.1) (ret := M.2.2.2.1) hy rfl ?_
  intro p e s m args below meth c s₁ B hml htab hv
  obtain ⟨rfl, hsz, hoa, hoh, hP, hD0, hK, hG⟩ := hv
  subst hsz
  have hts := atoms_spec (ws := ab_ws M) B.pre
  have hE := lv_entry (a.map (ab_v ad0)) (n := M.2.2.1) (by rw [ab_sl]; exact hnl)
  rw [lg_entry_eq]
  generalize (lg_sl (a.map (ab_v ad0)) ++ List.replicate (M.2.2.1 - (lg_sl (a.map (ab_v ad0))).length) Slot.unset).toArray = ls at hE ⊢
  rw [ab_args, hlv] at hE
  refine hS x hx p e s m _ below meth c dC dI dA ad0 h.1 (va_A (ab_w ad0 dA h) s.heap.size) ad0 s.heap [] ls ⟨hl, B.exec, B.bytes, hml, B.returns, findClass_of_methodNamed B.named, fun w hw => hts w (List.mem_cons_of_mem _ hw), B.notSynchronized, (name_of_methodNamed B.named B.method).1, htab, hK, fun q h => Or.inr h, hG⟩ ⟨hP, hD0.self, va_S.rf, hoh, Nat.le_refl _, fun _ _ => rfl⟩ hE (fun q hq => hoa _ (ab_args_mem a 0 q (by rw [hlv]; exact hq))) (fun _ h => by cases h)
