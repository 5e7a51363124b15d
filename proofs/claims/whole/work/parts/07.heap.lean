/-! ===== the rules of the judgement over the heap: fields, arrays, ends ===== -/
/-- an int field (a boolean one too) -/
def ab_fi (h : ab_H) (a ci k : Nat) : Option Int32 := match h.2 a with
  | .inr (c, fs) => if a < h.1 ∧ c = ci then (match fs[k]? with
    | some (.int x) => some x
    | _ => none) else none
  | _ => none
def ab_fr (h : ab_H) (a ci k : Nat) : Option Nat := match h.2 a with
  | .inr (c, fs) => if a < h.1 ∧ c = ci then (match fs[k]? with
    | some (.ref x) => some x
    | _ => none) else none
  | _ => none
def ab_fw (h : ab_H) (a ci k : Nat) (v : Value) : Option ab_H := match h.2 a with
  | .inr (c, fs) => if a < h.1 ∧ c = ci ∧ k < fs.length then some (ab_up h a (.inr (ci, fs.set k v))) else none
  | _ => none
/-- int arrays (kind 0), boolean arrays (kind 2) -/
def ab_ia (kd : Nat) (h : ab_H) (a : Nat) (i : Int32) : Option Int32 := match h.2 a with
  | .inl (k, n, .inl f) => if a < h.1 ∧ k = kd ∧ ¬ (i < 0 ∨ n ≤ i.toNatClampNeg) then some (f i.toNatClampNeg) else none
  | _ => none
def ab_iw (kd : Nat) (h : ab_H) (a : Nat) (i x : Int32) : Option ab_H := match h.2 a with
  | .inl (k, n, .inl f) => if a < h.1 ∧ k = kd ∧ ¬ (i < 0 ∨ n ≤ i.toNatClampNeg) then some (ab_up h a (.inl (kd, n, .inl (upd f i.toNatClampNeg x)))) else none
  | _ => none
def ab_la (h : ab_H) (a : Nat) (i : Int32) : Option Int64 := match h.2 a with
  | .inl (k, n, .inr (.inl f)) => if a < h.1 ∧ k = 1 ∧ ¬ (i < 0 ∨ n ≤ i.toNatClampNeg) then some (f i.toNatClampNeg) else none
  | _ => none
def ab_lw (h : ab_H) (a : Nat) (i : Int32) (x : Int64) : Option ab_H := match h.2 a with
  | .inl (k, n, .inr (.inl f)) => if a < h.1 ∧ k = 1 ∧ ¬ (i < 0 ∨ n ≤ i.toNatClampNeg) then some (ab_up h a (.inl (1, n, .inr (.inl (vp_updL f i.toNatClampNeg x))))) else none
  | _ => none
/-- the length of an int array -/
def ab_il (h : ab_H) (a : Nat) : Option Nat := match h.2 a with
  | .inl (k, n, .inl _) => if a < h.1 ∧ k = 0 then some n else none
  | _ => none
/-- an object of a class -/
def ab_io (h : ab_H) (a ci : Nat) : Bool := match h.2 a with
  | .inr (c, _) => decide (a < h.1) && decide (c = ci)
  | _ => false
theorem ab_fi_spec {h : ab_H} {a ci k : Nat} {x : Int32} (e : ab_fi h a ci k = some x) : a < h.1 ∧ ∃ fs, h.2 a = .inr (ci, fs) ∧ fs[k]? = some (.int x) := by
  unfold ab_fi at e
  split at e
  · rename_i c fs hc
    split at e
    · rename_i h1
      obtain ⟨h1, rfl⟩ := h1
      refine ⟨h1, fs, hc, ?_⟩
      split at e
      · rename_i y hy; cases e; exact hy
      · cases e
    · cases e
  · cases e
theorem ab_fr_spec {h : ab_H} {a ci k : Nat} {x : Nat} (e : ab_fr h a ci k = some x) : a < h.1 ∧ ∃ fs, h.2 a = .inr (ci, fs) ∧ fs[k]? = some (.ref x) := by
  unfold ab_fr at e
  split at e
  · rename_i c fs hc
    split at e
    · rename_i h1
      obtain ⟨h1, rfl⟩ := h1
      refine ⟨h1, fs, hc, ?_⟩
      split at e
      · rename_i y hy; cases e; exact hy
      · cases e
    · cases e
  · cases e
theorem ab_fw_spec {h h' : ab_H} {a ci k : Nat} {v : Value} (e : ab_fw h a ci k v = some h') : a < h.1 ∧ ∃ fs, h.2 a = .inr (ci, fs) ∧ k < fs.length ∧ h' = ab_up h a (.inr (ci, fs.set k v)) := by
  unfold ab_fw at e
  split at e
  · rename_i c fs hc
    split at e
    · rename_i h1
      obtain ⟨h1, rfl, h2⟩ := h1
      cases e
      exact ⟨h1, fs, hc, h2, rfl⟩
    · cases e
  · cases e
theorem ab_ia_spec {kd : Nat} {h : ab_H} {a : Nat} {i x : Int32} (e : ab_ia kd h a i = some x) : a < h.1 ∧ ∃ n f, h.2 a = .inl (kd, n, .inl f) ∧ vp_in i n ∧ x = f i.toNatClampNeg := by
  unfold ab_ia at e
  split at e
  · rename_i k n f hc
    split at e
    · rename_i h1
      obtain ⟨h1, rfl, h2⟩ := h1
      cases e
      exact ⟨h1, n, f, hc, h2, rfl⟩
    · cases e
  · cases e
theorem ab_iw_spec {kd : Nat} {h h' : ab_H} {a : Nat} {i x : Int32} (e : ab_iw kd h a i x = some h') : a < h.1 ∧ ∃ n f, h.2 a = .inl (kd, n, .inl f) ∧ vp_in i n ∧ h' = ab_up h a (.inl (kd, n, .inl (upd f i.toNatClampNeg x))) := by
  unfold ab_iw at e
  split at e
  · rename_i k n f hc
    split at e
    · rename_i h1
      obtain ⟨h1, rfl, h2⟩ := h1
      cases e
      exact ⟨h1, n, f, hc, h2, rfl⟩
    · cases e
  · cases e
theorem ab_la_spec {h : ab_H} {a : Nat} {i : Int32} {x : Int64} (e : ab_la h a i = some x) : a < h.1 ∧ ∃ n f, h.2 a = .inl (1, n, .inr (.inl f)) ∧ vp_in i n ∧ x = f i.toNatClampNeg := by
  unfold ab_la at e
  split at e
  · rename_i k n f hc
    split at e
    · rename_i h1
      obtain ⟨h1, rfl, h2⟩ := h1
      cases e
      exact ⟨h1, n, f, hc, h2, rfl⟩
    · cases e
  · cases e
theorem ab_lw_spec {h h' : ab_H} {a : Nat} {i : Int32} {x : Int64} (e : ab_lw h a i x = some h') : a < h.1 ∧ ∃ n f, h.2 a = .inl (1, n, .inr (.inl f)) ∧ vp_in i n ∧ h' = ab_up h a (.inl (1, n, .inr (.inl (vp_updL f i.toNatClampNeg x)))) := by
  unfold ab_lw at e
  split at e
  · rename_i k n f hc
    split at e
    · rename_i h1
      obtain ⟨h1, rfl, h2⟩ := h1
      cases e
      exact ⟨h1, n, f, hc, h2, rfl⟩
    · cases e
  · cases e
theorem ab_il_spec {h : ab_H} {a n : Nat} (e : ab_il h a = some n) : a < h.1 ∧ ∃ f, h.2 a = .inl (0, n, .inl f) := by
  unfold ab_il at e
  split at e
  · rename_i k n f hc
    split at e
    · rename_i h1
      obtain ⟨h1, rfl⟩ := h1
      cases e
      exact ⟨h1, f, hc⟩
    · cases e
  · cases e
theorem ab_io_spec {h : ab_H} {a ci : Nat} (e : ab_io h a ci = true) : a < h.1 ∧ ∃ fs, h.2 a = .inr (ci, fs) := by
  unfold ab_io at e
  split at e
  · rename_i c fs hc
    simp only [Bool.and_eq_true, decide_eq_true_eq] at e
    obtain ⟨h1, rfl⟩ := e
    exact ⟨h1, fs, hc⟩
  · cases e
/-- a field's link, by what the tables say: read by code of own at the entry index, of an object of class number ci the slot k, of type ty -/
def ab_FL (own : String) (index ci k : Nat) (ty : FieldType) : Prop :=
  ∃ (q : vw_C) (ref : String) (ty0 : Nat → FieldType), ab_cl[ci]? = some q ∧ (∀ w ∈ u_ws q.1 q.2.1 q.2.2, w ∈ ab_tb) ∧ k < q.2.2 ∧ Cond.fieldLink own index ref (q.2.1 k).2.1 (q.2.1 k).2.2.1 ∈ ab_tb ∧ (∀ (args : Array Value) (s : State), (∀ w ∈ ab_tb, w.before args s = true) → ∀ x, s.fieldFound? (q.2.1 k).1 (q.2.1 k).2.1 (q.2.1 k).2.2.1 = some x → s.fieldFound? ref (q.2.1 k).2.1 (q.2.1 k).2.2.1 = some x) ∧
    (∀ j, j < q.2.2 → parseFieldDescriptor (q.2.1 j).2.2.1 = some (ty0 j)) ∧ (∀ a, a < q.2.2 → ∀ b, b < q.2.2 → a ≠ b → (q.2.1 a).2.1 ≠ (q.2.1 b).2.1) ∧ parseFieldDescriptor (q.2.1 k).2.2.1 = some ty
theorem ab_same (q : vw_C) (k : Nat) : ∀ (args : Array Value) (s : State), (∀ w ∈ ab_tb, w.before args s = true) → ∀ x, s.fieldFound? (q.2.1 k).1 (q.2.1 k).2.1 (q.2.1 k).2.2.1 = some x → s.fieldFound? (q.2.1 k).1 (q.2.1 k).2.1 (q.2.1 k).2.2.1 = some x := fun _ _ _ _ h => h
theorem ab_ety {dA : Nat → ClassId} {kd : Nat} {ty : FieldType} (h : (ab_ty dA)[kd]? = some (dA kd, ty)) : (ab_ty dA)[kd]? = some (dA kd, ty) := h
section HeapRules
variable {ρ : Type} {l : Launch} {M : ab_M} {io : ρ → ab_R × ab_H} {kc ks : Nat} {t : Option ρ} {pc : Nat} {lv lv' : List (Nat × Value)} {st : List Value} {h : ab_H}
theorem ab_getI {a ci fk index : Nat} {ty : FieldType} {u : Int32 → Option ρ} (hf : ab_FL M.1.cls index ci fk ty) (hd : decode M.2.1 pc = .ok (.getfield index, 3)) (k : ∀ x, ab_fi h a ci fk = some x → ab_S l M io kc ks (u x) (pc + 3) lv (.int x :: st) h) : ab_S l M io kc ks (ab_bd (ab_fi h a ci fk) u) pc lv (.ref a :: st) h := by
  intro z hz p e s m args below meth c dC dI dA ad0 n0 A ad H locs ls C D hl hlo hst
  cases hx : ab_fi h a ci fk with
  | none => rw [hx] at hz; cases hz
  | some x =>
    rw [hx, ab_bd_some] at hz
    obtain ⟨ha, fs, hfs, hfk⟩ := ab_fi_spec hx
    obtain ⟨⟨q1, q2, q3⟩, ref, ty0, h1, h2, h3, h4, h5, h6, h7, h8⟩ := hf
    exact va_get (D := (dC, dI)) (ci := ci) (fs := fs.map (ab_v ad)) C.2.1 C.2.2.1 C.2.2.2.2.2.2.1 h2 C.2.2.2.2.2.1 C.2.2.2.2.2.2.2.2.2.2.1 D.1 a (by rw [ab_w_get ha, hfs]; rfl) h1 fk h3 (C.2.2.2.2.2.2.1 _ h4) (h5 args s C.2.2.2.2.2.2.1) (v := .int x) (by rw [List.getElem?_map, hfk]; rfl) hd (k x hx z hz p e s m args below meth c dC dI dA ad0 n0 A ad H locs ls C D hl hlo (ab_oc trivial (ab_ot hst)))
theorem ab_getR {a ci fk index : Nat} {ty : FieldType} {u : Nat → Option ρ} (hf : ab_FL M.1.cls index ci fk ty) (hd : decode M.2.1 pc = .ok (.getfield index, 3)) (k : ∀ x, ab_fr h a ci fk = some x → ab_S l M io kc ks (u x) (pc + 3) lv (.ref x :: st) h) : ab_S l M io kc ks (ab_bd (ab_fr h a ci fk) u) pc lv (.ref a :: st) h := by
  intro z hz p e s m args below meth c dC dI dA ad0 n0 A ad H locs ls C D hl hlo hst
  cases hx : ab_fr h a ci fk with
  | none => rw [hx] at hz; cases hz
  | some x =>
    rw [hx, ab_bd_some] at hz
    obtain ⟨ha, fs, hfs, hfk⟩ := ab_fr_spec hx
    obtain ⟨⟨q1, q2, q3⟩, ref, ty0, h1, h2, h3, h4, h5, h6, h7, h8⟩ := hf
    have hok : ab_ok h.1 (.ref x) := by
      have := D.2.2.2.1.2 a ha
      rw [hfs] at this
      exact this _ (List.mem_of_getElem? hfk)
    exact va_get (D := (dC, dI)) (ci := ci) (fs := fs.map (ab_v ad)) C.2.1 C.2.2.1 C.2.2.2.2.2.2.1 h2 C.2.2.2.2.2.1 C.2.2.2.2.2.2.2.2.2.2.1 D.1 a (by rw [ab_w_get ha, hfs]; rfl) h1 fk h3 (C.2.2.2.2.2.2.1 _ h4) (h5 args s C.2.2.2.2.2.2.1) (v := .ref (ad x)) (by rw [List.getElem?_map, hfk]; rfl) hd (k x hx z hz p e s m args below meth c dC dI dA ad0 n0 A ad H locs ls C D hl hlo (ab_oc hok (ab_ot hst)))
theorem ab_Wd_set {dC : Nat → ClassId} {dI : Nat → Nat → Nat} {dA : Nat → ClassId} {ad0 : Nat → Nat} {n0 : Nat} {A : Nat → Prop} {ad : Nat → Nat} {h : ab_H} {H0 H H1 : Heap} {locs locs1 : List Loc} {a : Nat} {e : va_E} (D : ab_Wd dC dI dA ad0 n0 A ad h H0 H locs) (he : ab_oke h.1 e) (hP : va_P (dC, dI) ab_cl ((ab_w ad dA h).set a (ad a, ab_e ad dA e)) H1) (hD : va_D A ((ab_w ad dA h).set a (ad a, ab_e ad dA e))) (hS : va_S A H0 H1 locs1) : ab_Wd dC dI dA ad0 n0 A ad (ab_up h a e) H0 H1 locs1 := by
  rw [ab_w_set] at hP hD
  exact ⟨hP, hD, hS, ab_okh_up D.2.2.2.1 he, D.2.2.2.2.1, D.2.2.2.2.2⟩
theorem ab_put {a ci fk index : Nat} {ty : FieldType} {v : Value} {u : ab_H → Option ρ} (hf : ab_FL M.1.cls index ci fk ty) (hfin : (ab_cl[ci]?).map (fun q => (q.2.1 fk).2.2.2) = some false) (hn : ∀ ad, narrow ty (ab_v ad v) = ab_v ad v) (hfit : ∀ ad, fits ty (ab_v ad v) = true) (hd : decode M.2.1 pc = .ok (.putfield index, 3)) (k : ∀ h', ab_fw h a ci fk v = some h' → ab_S l M io kc ks (u h') (pc + 3) lv st h') : ab_S l M io kc ks (ab_bd (ab_fw h a ci fk v) u) pc lv (v :: .ref a :: st) h := by
  intro z hz p e s m args below meth c dC dI dA ad0 n0 A ad H locs ls C D hl hlo hst
  cases hx : ab_fw h a ci fk v with
  | none => rw [hx] at hz; cases hz
  | some h' =>
    rw [hx, ab_bd_some] at hz
    have k := k h' hx
    obtain ⟨ha, fs, hfs, hfk, rfl⟩ := ab_fw_spec hx
    obtain ⟨⟨q1, q2, q3⟩, ref, ty0, h1, h2, h3, h4, h5, h6, h7, h8⟩ := hf
    rw [h1] at hfin
    have hfin : (q2 fk).2.2.2 = false := Option.some.inj hfin
    have hoke : ab_oke h.1 (.inr (ci, fs.set fk v)) := by
      have h9 := D.2.2.2.1.2 a ha
      rw [hfs] at h9
      intro w hw
      rcases List.mem_or_eq_of_mem_set hw with h10 | h10
      · exact h9 w h10
      · rw [h10]; exact ab_oh hst
    refine va_put (D := (dC, dI)) (ci := ci) (fs := fs.map (ab_v ad)) (ty := ty) C.2.1 C.2.2.1 C.2.2.2.2.2.2.1 h2 ty0 h6 h7 C.2.2.2.2.2.1 C.2.2.2.2.2.2.2.2.2.2.1 D.1 D.2.1 D.2.2.1 a (by rw [ab_w_get ha, hfs]; rfl) h1 fk h3 (C.2.2.2.2.2.2.1 _ h4) (h5 args s C.2.2.2.2.2.2.1) hfin h8 (hn ad) (hfit ad) (by rw [List.length_map]; exact hfk) hd (fun H1 locs1 hP1 hD1 hS1 => ?_)
    have e1 : (Sum.inr (ci, (fs.map (ab_v ad)).set fk (ab_v ad v)) : va_E) = ab_e ad dA (.inr (ci, fs.set fk v)) := by
      show _ = Sum.inr (ci, (fs.set fk v).map (ab_v ad))
      rw [List.map_set]
    rw [e1] at hP1 hD1
    exact k z hz p e s m args below meth c dC dI dA ad0 n0 A ad H1 locs1 ls C (ab_Wd_set D hoke hP1 hD1 hS1) hl hlo (ab_ot (ab_ot hst))
theorem ab_iald {a : Nat} {i : Int32} {u : Int32 → Option ρ} (hd : decode M.2.1 pc = .ok (.iaload, 1)) (k : ∀ x, ab_ia 0 h a i = some x → ab_S l M io kc ks (u x) (pc + 1) lv (.int x :: st) h) : ab_S l M io kc ks (ab_bd (ab_ia 0 h a i) u) pc lv (.int i :: .ref a :: st) h := by
  intro z hz p e s m args below meth c dC dI dA ad0 n0 A ad H locs ls C D hl hlo hst
  cases hx : ab_ia 0 h a i with
  | none => rw [hx] at hz; cases hz
  | some x =>
    rw [hx, ab_bd_some] at hz
    have k := k x hx
    obtain ⟨ha, n, f, hfs, hin, rfl⟩ := ab_ia_spec hx
    exact va_iald (D := (dC, dI)) (f := f) C.2.1 C.2.2.1 C.2.2.2.2.2.2.2.2.2.2.1 D.1 a 0 (by rw [ab_w_get ha, hfs]; rfl) rfl hin hd (k z hz p e s m args below meth c dC dI dA ad0 n0 A ad H locs ls C D hl hlo (ab_oc trivial (ab_ot (ab_ot hst))))
theorem ab_zald {a : Nat} {i : Int32} {u : Int32 → Option ρ} (hd : decode M.2.1 pc = .ok (.baload, 1)) (k : ∀ x, ab_ia 2 h a i = some x → ab_S l M io kc ks (u x) (pc + 1) lv (.int x :: st) h) : ab_S l M io kc ks (ab_bd (ab_ia 2 h a i) u) pc lv (.int i :: .ref a :: st) h := by
  intro z hz p e s m args below meth c dC dI dA ad0 n0 A ad H locs ls C D hl hlo hst
  cases hx : ab_ia 2 h a i with
  | none => rw [hx] at hz; cases hz
  | some x =>
    rw [hx, ab_bd_some] at hz
    have k := k x hx
    obtain ⟨ha, n, f, hfs, hin, rfl⟩ := ab_ia_spec hx
    exact va_zald (D := (dC, dI)) (f := f) C.2.1 C.2.2.1 C.2.2.2.2.2.2.2.2.2.2.1 D.1 a 2 (by rw [ab_w_get ha, hfs]; rfl) rfl hin hd (k z hz p e s m args below meth c dC dI dA ad0 n0 A ad H locs ls C D hl hlo (ab_oc trivial (ab_ot (ab_ot hst))))
theorem ab_lald {a : Nat} {i : Int32} {u : Int64 → Option ρ} (hd : decode M.2.1 pc = .ok (.laload, 1)) (k : ∀ x, ab_la h a i = some x → ab_S l M io kc ks (u x) (pc + 1) lv (.long x :: st) h) : ab_S l M io kc ks (ab_bd (ab_la h a i) u) pc lv (.int i :: .ref a :: st) h := by
  intro z hz p e s m args below meth c dC dI dA ad0 n0 A ad H locs ls C D hl hlo hst
  cases hx : ab_la h a i with
  | none => rw [hx] at hz; cases hz
  | some x =>
    rw [hx, ab_bd_some] at hz
    have k := k x hx
    obtain ⟨ha, n, f, hfs, hin, rfl⟩ := ab_la_spec hx
    exact va_lald (D := (dC, dI)) (f := f) C.2.1 C.2.2.1 C.2.2.2.2.2.2.2.2.2.2.1 D.1 a 1 (by rw [ab_w_get ha, hfs]; rfl) rfl hin hd (k z hz p e s m args below meth c dC dI dA ad0 n0 A ad H locs ls C D hl hlo (ab_oc trivial (ab_ot (ab_ot hst))))
theorem ab_iast {a : Nat} {i x : Int32} {u : ab_H → Option ρ} (hd : decode M.2.1 pc = .ok (.iastore, 1)) (k : ∀ h', ab_iw 0 h a i x = some h' → ab_S l M io kc ks (u h') (pc + 1) lv st h') : ab_S l M io kc ks (ab_bd (ab_iw 0 h a i x) u) pc lv (.int x :: .int i :: .ref a :: st) h := by
  intro z hz p e s m args below meth c dC dI dA ad0 n0 A ad H locs ls C D hl hlo hst
  cases hx : ab_iw 0 h a i x with
  | none => rw [hx] at hz; cases hz
  | some h' =>
    rw [hx, ab_bd_some] at hz
    have k := k h' hx
    obtain ⟨ha, n, f, hfs, hin, rfl⟩ := ab_iw_spec hx
    exact va_iast (D := (dC, dI)) (f := f) (cA := dA 0) (n := n) C.2.1 C.2.2.1 C.2.2.2.2.2.2.2.2.2.2.1 D.1 D.2.1 D.2.2.1 a 0 (by rw [ab_w_get ha, hfs]; rfl) rfl hin hd (fun H1 locs1 hP1 hD1 hS1 => k z hz p e s m args below meth c dC dI dA ad0 n0 A ad H1 locs1 ls C (ab_Wd_set D trivial hP1 hD1 hS1) hl hlo (ab_ot (ab_ot (ab_ot hst))))
theorem ab_zast {a : Nat} {i x : Int32} {u : ab_H → Option ρ} (hb : vp_nar .boolean x = x) (hd : decode M.2.1 pc = .ok (.bastore, 1)) (k : ∀ h', ab_iw 2 h a i x = some h' → ab_S l M io kc ks (u h') (pc + 1) lv st h') : ab_S l M io kc ks (ab_bd (ab_iw 2 h a i x) u) pc lv (.int x :: .int i :: .ref a :: st) h := by
  intro z hz p e s m args below meth c dC dI dA ad0 n0 A ad H locs ls C D hl hlo hst
  cases hx : ab_iw 2 h a i x with
  | none => rw [hx] at hz; cases hz
  | some h' =>
    rw [hx, ab_bd_some] at hz
    have k := k h' hx
    obtain ⟨ha, n, f, hfs, hin, rfl⟩ := ab_iw_spec hx
    refine va_zast (D := (dC, dI)) (f := f) (cA := dA 2) (n := n) C.2.1 C.2.2.1 C.2.2.2.2.2.2.2.2.2.2.1 D.1 D.2.1 D.2.2.1 a 2 (by rw [ab_w_get ha, hfs]; rfl) rfl hin hd (fun H1 locs1 hP1 hD1 hS1 => ?_)
    rw [hb] at hP1 hD1
    exact k z hz p e s m args below meth c dC dI dA ad0 n0 A ad H1 locs1 ls C (ab_Wd_set D trivial hP1 hD1 hS1) hl hlo (ab_ot (ab_ot (ab_ot hst)))
theorem ab_last {a : Nat} {i : Int32} {x : Int64} {u : ab_H → Option ρ} (hd : decode M.2.1 pc = .ok (.lastore, 1)) (k : ∀ h', ab_lw h a i x = some h' → ab_S l M io kc ks (u h') (pc + 1) lv st h') : ab_S l M io kc ks (ab_bd (ab_lw h a i x) u) pc lv (.long x :: .int i :: .ref a :: st) h := by
  intro z hz p e s m args below meth c dC dI dA ad0 n0 A ad H locs ls C D hl hlo hst
  cases hx : ab_lw h a i x with
  | none => rw [hx] at hz; cases hz
  | some h' =>
    rw [hx, ab_bd_some] at hz
    have k := k h' hx
    obtain ⟨ha, n, f, hfs, hin, rfl⟩ := ab_lw_spec hx
    exact va_last (D := (dC, dI)) (f := f) (cA := dA 1) (n := n) C.2.1 C.2.2.1 C.2.2.2.2.2.2.2.2.2.2.1 D.1 D.2.1 D.2.2.1 a 1 (by rw [ab_w_get ha, hfs]; rfl) rfl hin hd (fun H1 locs1 hP1 hD1 hS1 => k z hz p e s m args below meth c dC dI dA ad0 n0 A ad H1 locs1 ls C (ab_Wd_set D trivial hP1 hD1 hS1) hl hlo (ab_ot (ab_ot (ab_ot hst))))
theorem ab_alen {a : Nat} {u : Int32 → Option ρ} (hd : decode M.2.1 pc = .ok (.arraylength, 1)) (k : ∀ n, ab_il h a = some n → ab_S l M io kc ks (u (nI n)) (pc + 1) lv (.int (nI n) :: st) h) : ab_S l M io kc ks (ab_bd (ab_il h a) (fun n => u (nI n))) pc lv (.ref a :: st) h := by
  intro z hz p e s m args below meth c dC dI dA ad0 n0 A ad H locs ls C D hl hlo hst
  cases hx : ab_il h a with
  | none => rw [hx] at hz; cases hz
  | some n =>
    rw [hx, ab_bd_some] at hz
    have k := k n hx
    obtain ⟨ha, f, hfs⟩ := ab_il_spec hx
    exact va_alen (D := (dC, dI)) (cA := dA 0) (x := (n, .inl f)) (v := nI n) C.2.1 C.2.2.1 C.2.2.2.2.2.2.2.2.2.2.1 D.1 a 0 (by rw [ab_w_get ha, hfs]; rfl) rfl rfl hd (k z hz p e s m args below meth c dC dI dA ad0 n0 A ad H locs ls C D hl hlo (ab_oc trivial (ab_ot hst)))
theorem ab_iret {x : ρ} {v : Int32} (hd : decode M.2.1 pc = .ok (.ireturn, 1)) (hr : M.2.2.2.1 = some .int) (hio : io x = (.inl (some (.int v)), h)) (hc : kc ≤ M.2.2.2.2.cells) (hs : ks ≤ M.2.2.2.2.slots) : ab_S l M io kc ks (some x) pc lv [.int v] h := by
  intro z hz p e s m args below meth c dC dI dA ad0 n0 A ad H locs ls C D hl hlo hst
  cases hz
  refine W.widen hc hs (vx_ret (W.iret C.2.1 C.2.2.1 (C.2.2.2.2.1.trans hr) (fun t ht hW => ⟨⟨some (.int v), ad, by rw [hio], rfl, fun w hw => by cases hw; trivial, ?_⟩, D.2.2.1.F ht⟩) D.2.2.1.2.2 hd C.2.2.2.2.2.2.2.1))
  rw [hio, ht]
  exact ⟨D.1, D.2.1, D.2.2.2⟩
theorem ab_zret {x : ρ} {v : Int32} (hd : decode M.2.1 pc = .ok (.ireturn, 1)) (hr : M.2.2.2.1 = some .boolean) (hb : narrow .boolean (.int v) = .int v) (hio : io x = (.inl (some (.int v)), h)) (hc : kc ≤ M.2.2.2.2.cells) (hs : ks ≤ M.2.2.2.2.slots) : ab_S l M io kc ks (some x) pc lv [.int v] h := by
  intro z hz p e s m args below meth c dC dI dA ad0 n0 A ad H locs ls C D hl hlo hst
  cases hz
  refine W.widen hc hs (vx_ret (W.zret C.2.1 C.2.2.1 (C.2.2.2.2.1.trans hr) hb (fun t ht hW => ⟨⟨some (.int v), ad, by rw [hio], rfl, fun w hw => by cases hw; trivial, ?_⟩, D.2.2.1.F ht⟩) D.2.2.1.2.2 hd C.2.2.2.2.2.2.2.1))
  rw [hio, ht]
  exact ⟨D.1, D.2.1, D.2.2.2⟩
theorem ab_nret {x : ρ} {v : Int32} {ty : FieldType} (hd : decode M.2.1 pc = .ok (.ireturn, 1)) (hr : M.2.2.2.1 = some ty) (hb : narrow ty (.int v) = .int v) (hio : io x = (.inl (some (.int v)), h)) (hc : kc ≤ M.2.2.2.2.cells) (hs : ks ≤ M.2.2.2.2.slots) : ab_S l M io kc ks (some x) pc lv [.int v] h := by
  intro z hz p e s m args below meth c dC dI dA ad0 n0 A ad H locs ls C D hl hlo hst
  cases hz
  refine W.widen hc hs (vx_ret (W.zret C.2.1 C.2.2.1 (C.2.2.2.2.1.trans hr) hb (fun t ht hW => ⟨⟨some (.int v), ad, by rw [hio], rfl, fun w hw => by cases hw; trivial, ?_⟩, D.2.2.1.F ht⟩) D.2.2.1.2.2 hd C.2.2.2.2.2.2.2.1))
  rw [hio, ht]
  exact ⟨D.1, D.2.1, D.2.2.2⟩
theorem ab_vret {x : ρ} (hd : decode M.2.1 pc = .ok (.return_, 1)) (hr : M.2.2.2.1 = none) (hio : io x = (.inl none, h)) (hc : kc ≤ M.2.2.2.2.cells) (hs : ks ≤ M.2.2.2.2.slots) : ab_S l M io kc ks (some x) pc lv [] h := by
  intro z hz p e s m args below meth c dC dI dA ad0 n0 A ad H locs ls C D hl hlo hst
  cases hz
  refine W.widen hc hs (vx_ret (W.vret C.2.1 C.2.2.1 (C.2.2.2.2.1.trans hr) (fun t ht hW => ⟨⟨none, ad, by rw [hio], rfl, fun w hw => (by cases hw), ?_⟩, D.2.2.1.F ht⟩) D.2.2.1.2.2 hd C.2.2.2.2.2.2.2.1))
  rw [hio, ht]
  exact ⟨D.1, D.2.1, D.2.2.2⟩
theorem ab_aret {x : ρ} {a : Nat} {cn : String} (hd : decode M.2.1 pc = .ok (.areturn, 1)) (hr : M.2.2.2.1 = some (.object cn)) (hio : io x = (.inl (some (.ref a)), h)) (hc : kc ≤ M.2.2.2.2.cells) (hs : ks ≤ M.2.2.2.2.slots) : ab_S l M io kc ks (some x) pc lv [.ref a] h := by
  intro z hz p e s m args below meth c dC dI dA ad0 n0 A ad H locs ls C D hl hlo hst
  cases hz
  refine W.widen hc hs (vx_ret (W.aret C.2.1 C.2.2.1 (C.2.2.2.2.1.trans hr) (Or.inl ⟨_, rfl⟩) (Or.inr ⟨_, rfl⟩) (fun t ht hW => ⟨⟨some (.ref a), ad, by rw [hio], rfl, fun w hw => by cases hw; rw [hio]; exact ab_oh hst, ?_⟩, D.2.2.1.F ht⟩) D.2.2.1.2.2 hd C.2.2.2.2.2.2.2.1))
  rw [hio, ht]
  exact ⟨D.1, D.2.1, D.2.2.2⟩
end HeapRules
