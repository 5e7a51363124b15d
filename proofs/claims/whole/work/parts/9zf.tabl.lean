variable {Nq : Nat}
/-! ===== methods with an exception table (by program, gen_tabl.py) ===== -/
def ab_Ux (l : Launch) (M : ab_M) (hh : List (Nat × Nat × Nat × Nat)) (dC : Nat → ClassId) (dI : Nat → Nat → Nat) (dA : Nat → ClassId) (ad0 : Nat → Nat) (A : Nat → Prop) (p : Program) (s : State) (m : MethodId) (args : Array Value) (meth : Method) (c : Code) : Prop :=
  l.stackTraces = false ∧ p.tables.exec = Jvm.exec ∧ c.code = M.2.1 ∧ c.maxLocals = M.2.2.1 ∧ meth.sig.returnType = M.2.2.2.1 ∧ s.vm.findClass M.1.cls = some m.cls ∧ (∀ w ∈ ab_tb, w.before args s = true) ∧ meth.locks = false ∧ meth.name = M.1.name ∧ c.exceptionTable.toList = tableOf hh ∧ va_K (dC, dI) ab_cl (ab_ty dA) s ∧ (∀ q, s.heap.size ≤ q → A q) ∧ ab_GW ad0 A s s.heap
def ab_T {ρ : Type} (l : Launch) (M : ab_M) (hh : List (Nat × Nat × Nat × Nat)) (io : ρ → ab_R × ab_H) (kc ks : Nat) (t : Option ρ) (pc : Nat) (lv : List (Nat × Value)) (st : List Value) (h : ab_H) : Prop :=
  ∀ x : ρ, t = some x → ∀ (p : Program) (e : Env) (s : State) (m : MethodId) (args : Array Value) (below : List Frame) (meth : Method) (c : Code) (dC : Nat → ClassId) (dI : Nat → Nat → Nat) (dA : Nat → ClassId) (ad0 : Nat → Nat) (n0 : Nat) (A : Nat → Prop) (ad : Nat → Nat) (H : Heap) (locs : List Loc) (ls : Array Slot),
    ab_Ux l M hh dC dI dA ad0 A p s m args meth c → ab_Wd dC dI dA ad0 n0 A ad h s.heap H locs → lv_has ls M.2.2.1 (lv.map (ab_lv ad)) → (∀ q ∈ lv, ab_ok h.1 q.2) → (∀ v ∈ st, ab_ok h.1 v) →
    W p l e M.2.2.2.2 s m args below meth c H locs kc ks (vx_MQ below (ab_Qc dC dI dA ad0 n0 A (io x)) (ab_Xc dC dI dA ad0 n0 A (io x)) args s M.2.2.2.2.cells M.2.2.2.2.slots A) (F0 m pc ls (st.map (ab_v ad)))
def ab_wsX (M : ab_M) (hh : List (Nat × Nat × Nat × Nat)) : List Cond := Cond.codeWith M.1 M.2.1 M.2.2.1 M.2.2.2.1 hh :: ab_tb
def ab_MetX (l : Launch) (M : ab_M) (hh : List (Nat × Nat × Nat × Nat)) (a : List Value) (h : ab_H) (r : ab_R × ab_H) : Prop :=
  ∀ (dC : Nat → ClassId) (dI : Nat → Nat → Nat) (dA : Nat → ClassId) (ad0 : Nat → Nat) (sz : Nat), vx_Met l M.1 (ab_wsX M hh) M.2.2.2.2
    (va_Pc (a.map (ab_v ad0)) (fun U => U.heap.size = sz ∧ (∀ v ∈ a, ab_ok h.1 v) ∧ ab_okh h ∧ va_P (dC, dI) ab_cl (ab_w ad0 dA h) U.heap ∧ va_D (fun _ => True) (ab_w ad0 dA h) ∧ va_K (dC, dI) ab_cl (ab_ty dA) U ∧ ab_GW ad0 (va_A (ab_w ad0 dA h) sz) U U.heap))
    (ab_Qc dC dI dA ad0 h.1 (va_A (ab_w ad0 dA h) sz) r) (ab_Xc dC dI dA ad0 h.1 (va_A (ab_w ad0 dA h) sz) r) M.2.2.2.2.cells M.2.2.2.2.slots (va_A (ab_w ad0 dA h) sz)
theorem ab_ofT {ρ : Type} {l : Launch} {M : ab_M} {hh : List (Nat × Nat × Nat × Nat)} {io : ρ → ab_R × ab_H} {t : Option ρ} {a : List Value} {h : ab_H} {lv : List (Nat × Value)} (hl : l.stackTraces = false) (hy : plainName M.1.cls = true) (hlv : lv_args 0 a = lv) (hnl : (lg_sl a).length ≤ M.2.2.1) (hS : ab_T l M hh io 0 0 t 0 lv [] h) {x : ρ} (hx : t = some x) : ab_MetX l M hh a h (io x) := by
  intro dC dI dA ad0 sz
  refine vx_ofWH (hh := hh) (cc := M.2.1) (maxL := M.2.2.1) (ret := M.2.2.2.1) hy rfl ?_
  intro p e s m args below meth c s₁ B hml hv
  obtain ⟨rfl, hsz, hoa, hoh, hP, hD0, hK, hG⟩ := hv
  subst hsz
  have hts := atoms_spec (ws := ab_wsX M hh) B.pre
  have hE := lv_entry (a.map (ab_v ad0)) (n := M.2.2.1) (by rw [ab_sl]; exact hnl)
  rw [lg_entry_eq]
  generalize (lg_sl (a.map (ab_v ad0)) ++ List.replicate (M.2.2.1 - (lg_sl (a.map (ab_v ad0))).length) Slot.unset).toArray = ls at hE ⊢
  rw [ab_args, hlv] at hE
  refine hS x hx p e s m _ below meth c dC dI dA ad0 h.1 (va_A (ab_w ad0 dA h) s.heap.size) ad0 s.heap [] ls ⟨hl, B.exec, B.bytes, hml, B.returns, findClass_of_methodNamed B.named, fun w hw => hts w (List.mem_cons_of_mem _ hw), B.notSynchronized, (name_of_methodNamed B.named B.method).1, vx_table (x := M.1) B (hts _ List.mem_cons_self), hK, fun q h => Or.inr h, hG⟩ ⟨hP, hD0.self, va_S.rf, hoh, Nat.le_refl _, fun _ _ => rfl⟩ hE (fun q hq => hoa _ (ab_args_mem a 0 q (by rw [hlv]; exact hq))) (fun _ h => by cases h)
section TRules
variable {ρ : Type} {l : Launch} {M : ab_M} {hh : List (Nat × Nat × Nat × Nat)} {io : ρ → ab_R × ab_H} {kc ks : Nat} {t : Option ρ} {pc : Nat} {lv lv' : List (Nat × Value)} {st : List Value} {h : ab_H}
theorem at_none : ab_T l M hh io kc ks (none : Option ρ) pc lv st h := fun _ hz => by cases hz

theorem at_iconst {n : Int} {v : Int32} (hd : decode M.2.1 pc = .ok (.iconst n, 1)) (hv : Int32.ofInt n = v) (k : ab_T l M hh io kc ks t (pc + 1) lv (.int v :: st) h) : ab_T l M hh io kc ks t pc lv st h := by
  intro z hz p e s m args below meth c dC dI dA ad0 n0 A ad H locs ls C D hl hlo hst
  exact lv_iconst C.2.1 C.2.2.1 hd hv (k z hz p e s m args below meth c dC dI dA ad0 n0 A ad H locs ls C D hl hlo (ab_oc trivial hst))
theorem at_iload_n {n : Fin 4} {i j : Nat} {x : Int32} (hd : decode M.2.1 pc = .ok (.iload_n n, 1)) (hi : (n : Nat) = i) (hk : lv[j]? = some (i, .int x)) (k : ab_T l M hh io kc ks t (pc + 1) lv (.int x :: st) h) : ab_T l M hh io kc ks t pc lv st h := by
  intro z hz p e s m args below meth c dC dI dA ad0 n0 A ad H locs ls C D hl hlo hst
  exact lv_iload_n C.2.1 C.2.2.1 hd hi (ab_lat hl hk) (k z hz p e s m args below meth c dC dI dA ad0 n0 A ad H locs ls C D hl hlo (ab_oc (hlo _ (List.mem_of_getElem? hk)) hst))
theorem at_iload {i j : Nat} {x : Int32} (hd : decode M.2.1 pc = .ok (.iload i, 2)) (hk : lv[j]? = some (i, .int x)) (k : ab_T l M hh io kc ks t (pc + 2) lv (.int x :: st) h) : ab_T l M hh io kc ks t pc lv st h := by
  intro z hz p e s m args below meth c dC dI dA ad0 n0 A ad H locs ls C D hl hlo hst
  exact lv_iload C.2.1 C.2.2.1 hd (ab_lat hl hk) (k z hz p e s m args below meth c dC dI dA ad0 n0 A ad H locs ls C D hl hlo (ab_oc (hlo _ (List.mem_of_getElem? hk)) hst))
theorem at_aload_n {n : Fin 4} {i j : Nat} {x : Nat} (hd : decode M.2.1 pc = .ok (.aload_n n, 1)) (hi : (n : Nat) = i) (hk : lv[j]? = some (i, .ref x)) (k : ab_T l M hh io kc ks t (pc + 1) lv (.ref x :: st) h) : ab_T l M hh io kc ks t pc lv st h := by
  intro z hz p e s m args below meth c dC dI dA ad0 n0 A ad H locs ls C D hl hlo hst
  exact lv_aload_n C.2.1 C.2.2.1 hd hi (ab_lat hl hk) (k z hz p e s m args below meth c dC dI dA ad0 n0 A ad H locs ls C D hl hlo (ab_oc (hlo _ (List.mem_of_getElem? hk)) hst))
theorem at_aload {i j : Nat} {x : Nat} (hd : decode M.2.1 pc = .ok (.aload i, 2)) (hk : lv[j]? = some (i, .ref x)) (k : ab_T l M hh io kc ks t (pc + 2) lv (.ref x :: st) h) : ab_T l M hh io kc ks t pc lv st h := by
  intro z hz p e s m args below meth c dC dI dA ad0 n0 A ad H locs ls C D hl hlo hst
  exact lv_aload C.2.1 C.2.2.1 hd (ab_lat hl hk) (k z hz p e s m args below meth c dC dI dA ad0 n0 A ad H locs ls C D hl hlo (ab_oc (hlo _ (List.mem_of_getElem? hk)) hst))
theorem at_i2l {x : Int32} (hd : decode M.2.1 pc = .ok (.i2l, 1)) (k : ab_T l M hh io kc ks t (pc + 1) lv (.long (x.toInt64) :: st) h) : ab_T l M hh io kc ks t pc lv (.int x :: st) h := by
  intro z hz p e s m args below meth c dC dI dA ad0 n0 A ad H locs ls C D hl hlo hst
  exact lv_i2l C.2.1 C.2.2.1 hd rfl (k z hz p e s m args below meth c dC dI dA ad0 n0 A ad H locs ls C D hl hlo (ab_oc trivial (ab_ot hst)))
theorem at_lconst {n : Fin 2} {v : Int64} (hd : decode M.2.1 pc = .ok (.lconst n, 1)) (hv : Int64.ofNat (n : Nat) = v) (k : ab_T l M hh io kc ks t (pc + 1) lv (.long v :: st) h) : ab_T l M hh io kc ks t pc lv st h := by
  intro z hz p e s m args below meth c dC dI dA ad0 n0 A ad H locs ls C D hl hlo hst
  exact lv_lconst C.2.1 C.2.2.1 hd hv (k z hz p e s m args below meth c dC dI dA ad0 n0 A ad H locs ls C D hl hlo (ab_oc trivial hst))
theorem at_goto {off : Int} {tgt : Nat} (hd : decode M.2.1 pc = .ok (.goto off, 3)) (ht : (pc : Int) + off = (tgt : Int)) (k : ab_T l M hh io kc ks t (tgt) lv st h) : ab_T l M hh io kc ks t pc lv st h := by
  intro z hz p e s m args below meth c dC dI dA ad0 n0 A ad H locs ls C D hl hlo hst
  exact lv_goto C.2.1 C.2.2.1 hd ht (k z hz p e s m args below meth c dC dI dA ad0 n0 A ad H locs ls C D hl hlo hst)
theorem at_if_eq {x : Int32} {off : Int} {tgt : Nat} {t1 t2 : Option ρ} [dc : Decidable (x = 0)] (hd : decode M.2.1 pc = .ok (.ifCond .eq off, 3)) (ht : (pc : Int) + off = (tgt : Int)) (k1 : x = 0 → ab_T l M hh io kc ks t1 (tgt) lv st h) (k2 : ¬ x = 0 → ab_T l M hh io kc ks t2 (pc + 3) lv st h) : ab_T l M hh io kc ks (if x = 0 then t1 else t2) pc lv (.int x :: st) h := by
  intro z hz p e s m args below meth c dC dI dA ad0 n0 A ad H locs ls C D hl hlo hst
  exact lv_if_eq C.2.1 C.2.2.1 hd ht (fun g => (k1 g z (by rw [if_pos g] at hz; exact hz) p e s m args below meth c dC dI dA ad0 n0 A ad H locs ls C D hl hlo (ab_ot hst))) (fun g => (k2 g z (by rw [if_neg g] at hz; exact hz) p e s m args below meth c dC dI dA ad0 n0 A ad H locs ls C D hl hlo (ab_ot hst)))
theorem at_last {a : Nat} {i : Int32} {x : Int64} {u : ab_H → Option ρ} (hd : decode M.2.1 pc = .ok (.lastore, 1)) (k : ∀ h', ab_lw h a i x = some h' → ab_T l M hh io kc ks (u h') (pc + 1) lv st h') : ab_T l M hh io kc ks (ab_bd (ab_lw h a i x) u) pc lv (.long x :: .int i :: .ref a :: st) h := by
  intro z hz p e s m args below meth c dC dI dA ad0 n0 A ad H locs ls C D hl hlo hst
  cases hx : ab_lw h a i x with
  | none => rw [hx] at hz; cases hz
  | some h' =>
    rw [hx, ab_bd_some] at hz
    have k := k h' hx
    obtain ⟨ha, n, f, hfs, hin, rfl⟩ := ab_lw_spec hx
    exact va_last (D := (dC, dI)) (f := f) (cA := dA 1) (n := n) C.2.1 C.2.2.1 C.2.2.2.2.2.2.2.2.2.2.1 D.1 D.2.1 D.2.2.1 a 1 (by rw [ab_w_get ha, hfs]; rfl) rfl hin hd (fun H1 locs1 hP1 hD1 hS1 => k z hz p e s m args below meth c dC dI dA ad0 n0 A ad H1 locs1 ls C (ab_Wd_set D trivial hP1 hD1 hS1) hl hlo (ab_ot (ab_ot (ab_ot hst))))
theorem at_iret {x : ρ} {v : Int32} (hd : decode M.2.1 pc = .ok (.ireturn, 1)) (hr : M.2.2.2.1 = some .int) (hio : io x = (.inl (some (.int v)), h)) (hc : kc ≤ M.2.2.2.2.cells) (hs : ks ≤ M.2.2.2.2.slots) : ab_T l M hh io kc ks (some x) pc lv [.int v] h := by
  intro z hz p e s m args below meth c dC dI dA ad0 n0 A ad H locs ls C D hl hlo hst
  cases hz
  refine W.widen hc hs (vx_ret (W.iret C.2.1 C.2.2.1 (C.2.2.2.2.1.trans hr) (fun t ht hW => ⟨⟨some (.int v), ad, by rw [hio], rfl, fun w hw => by cases hw; trivial, ?_⟩, D.2.2.1.F ht⟩) D.2.2.1.2.2 hd C.2.2.2.2.2.2.2.1))
  rw [hio, ht]
  exact ⟨D.1, D.2.1, D.2.2.2⟩
/-- a handler that answers n -/
def at_H (M : ab_M) (hpc : Nat) (n : Int) : Prop := ∃ (i w : Nat), i < M.2.2.1 ∧ ((w = 1 ∧ ∃ k : Fin 4, (k : Nat) = i ∧ decode M.2.1 hpc = .ok (.astore_n k, 1)) ∨ (w = 2 ∧ decode M.2.1 hpc = .ok (.astore i, 2))) ∧ decode M.2.1 (hpc + w) = .ok (.iconst n, 1) ∧ decode M.2.1 (hpc + w + 1) = .ok (.ireturn, 1)
theorem at_fin {M' : ab_M} {τ : Type} {io' : τ → ab_R × ab_H} {f : τ → Option ρ} {y : τ} {z : ρ} (hz : f y = some z) {p : Program} {e : Env} {s : State} {m : MethodId} {args : Array Value} {below : List Frame} {meth : Method} {c : Code} {H : Heap} {locs : List Loc} {ls : Array Slot} {dC : Nat → ClassId} {dI : Nat → Nat → Nat} {dA : Nat → ClassId} {ad0 : Nat → Nat} {n0 : Nat} {A : Nat → Prop} {ad : Nat → Nat} {st0 : List Value} {a' : Array Value} (C : ab_Ux l M hh dC dI dA ad0 A p s m args meth c) (D : ab_Wd dC dI dA ad0 n0 A ad h s.heap H locs) (hl : lv_has ls M.2.2.1 (lv.map (ab_lv ad))) (hlo : ∀ q ∈ lv, ab_ok h.1 q.2) (hst : ∀ v ∈ st, ab_ok h.1 v) (hrc : ab_rmC M.2.2.2.2 M'.2.2.2.2 kc ks = true)
    (hr : vx_Run p l e M.2.2.2.2 s m args below meth c H locs kc ks M'.2.2.2.2.cells M'.2.2.2.2.slots (F0 m pc ls st0) (st.map (ab_v ad)) (ab_Qc dC dI dA ad h.1 (va_A (ab_w ad dA h) H.size) (io' y) a') (ab_Xc dC dI dA ad h.1 (va_A (ab_w ad dA h) H.size) (io' y)) (va_A (ab_w ad dA h) H.size))
    (hty : M.2.2.2.1 = some .int)
    (k : ∀ v h', io' y = (.inl v, h') → ab_T l M hh io (kc + M'.2.2.2.2.cells) (ks + M'.2.2.2.2.slots) (f y) (pc + 3) lv (v.toList ++ st) h')
    (kx : ∀ E h' r, io' y = (.inr E, h') → f y = some r → ∃ n pre x suf nm, io r = (.inl (some (.int (Int32.ofInt n))), h') ∧ tableOf hh = pre ++ x :: suf ∧ (∀ w ∈ pre, covers w pc = true ∧ w.catchType ≠ 0 ∧ ∃ nm : String, Cond.classLink M.1.cls w.catchType nm ∈ ab_tb ∧ (E, nm) ∈ ab_nc) ∧ covers x pc = true ∧ x.catchType ≠ 0 ∧ Cond.classLink M.1.cls x.catchType nm ∈ ab_tb ∧ (E, nm) ∈ ab_ca ∧ at_H M x.handlerPc n) :
    W p l e M.2.2.2.2 s m args below meth c H locs kc ks (vx_MQ below (ab_Qc dC dI dA ad0 n0 A (io z)) (ab_Xc dC dI dA ad0 n0 A (io z)) args s M.2.2.2.2.cells M.2.2.2.2.slots A) (F0 m pc ls st0) := by
  refine ab_run hr D C.2.2.2.2.2.2.2.2.2.2.2.1 (fun v ad1 H1 locs1 hr1 hok D1 hag hle => ?_) (fun E ce q9 ad1 H1 locs1 hrE D1 hce hcv hcl => ?_)
  · have e0 : io' y = (.inl v, (io' y).2) := Prod.ext hr1 rfl
    have e1 : (v.map (ab_v ad1)).toList ++ st.map (ab_v ad) = (v.toList ++ st).map (ab_v ad1) := by
      rw [← ab_st_agree hag hst]
      cases v <;> rfl
    rw [e1]
    refine k v (io' y).2 e0 z hz p e s m args below meth c dC dI dA ad0 n0 A ad1 H1 locs1 ls C D1 (by rw [ab_lv_agree hag hlo]; exact hl) (fun q hq => ab_ok_mono hle (hlo q hq)) (fun w hw => ?_)
    rcases List.mem_append.mp hw with hw | hw
    · exact hok w (Option.mem_toList.mp hw)
    · exact ab_ok_mono hle (hst w hw)
  · have e0 : io' y = (.inr E, (io' y).2) := Prod.ext hrE rfl
    obtain ⟨n, pre, x, suf, nm, h2, h3, h4, h5, h6, h7, h8, h9⟩ := kx E _ z e0 hz
    have hcs := ab_rmC_spec hrc
    have hts := C.2.2.2.2.2.2.1
    have hGW := C.2.2.2.2.2.2.2.2.2.2.2.2
    have hE : s.vm.findClass E = some ce.cls := hcl
    refine vy_catch (own := M.1.cls) (name := nm) (E := E) (ce := ce) C.2.2.2.2.2.1 pre x suf (C.2.2.2.2.2.2.2.2.2.1.trans h3) (fun w hw => ?_) h5 h6 (hts _ h7) (va_Nw.use rfl (hGW.2.2.2.2.2.2.2.2.1 _ h8)) hce hcv hcl ?_
    · obtain ⟨a1, a2, nm', a3, a4⟩ := h4 w hw
      exact ⟨a1, a2, nm', hts _ a3, hGW.2.2.2.2.2.2.2.2.2.1 _ a4⟩
    · obtain ⟨i, w, hi, ha, hb, hd⟩ := h9
      have fin : ∀ ls' : Array Slot, ls'.size = M.2.2.1 → lv_wf ls' → W p l e M.2.2.2.2 s m args below meth c H1 locs1 (kc + M'.2.2.2.2.cells) (ks + M'.2.2.2.2.slots) (vx_MQ below (ab_Qc dC dI dA ad0 n0 A (io z)) (ab_Xc dC dI dA ad0 n0 A (io z)) args s M.2.2.2.2.cells M.2.2.2.2.slots A) (F0 m (x.handlerPc + w) ls' []) := fun ls' hsz hwf => by
        refine lv_iconst C.2.1 C.2.2.1 hb rfl ?_
        exact (at_iret (l := l) (M := M) (hh := hh) (io := io) (lv := []) (x := z) (v := Int32.ofInt n) (h := (io' y).2) (kc := kc + M'.2.2.2.2.cells) (ks := ks + M'.2.2.2.2.slots) hd hty h2 hcs.1 hcs.2) z rfl p e s m args below meth c dC dI dA ad0 n0 A ad1 H1 locs1 ls' C D1 ⟨hsz, hwf, fun q hq => by cases hq⟩ (fun q hq => by cases hq) (fun v hv => by rw [List.mem_singleton.mp hv]; trivial)
      rcases ha with ⟨rfl, k, hk, hd1⟩ | ⟨rfl, hd1⟩
      · exact lv_astore_n C.2.1 C.2.2.1 hd1 hk hl hi rfl (fun ls' hl' => fin ls' hl'.1 hl'.2.1)
      · exact lv_astore C.2.1 C.2.2.1 hd1 hl hi rfl (fun ls' hl' => fin ls' hl'.1 hl'.2.1)
theorem at_pre {M' : ab_M} {As : List Value} {p : Program} {s : State} {m : MethodId} {args : Array Value} {meth : Method} {c : Code} {H : Heap} {locs : List Loc} {dC : Nat → ClassId} {dI : Nat → Nat → Nat} {dA : Nat → ClassId} {ad0 : Nat → Nat} {n0 : Nat} {A : Nat → Prop} {ad : Nat → Nat} (C : ab_Ux l M hh dC dI dA ad0 A p s m args meth c) (D : ab_Wd dC dI dA ad0 n0 A ad h s.heap H locs) (hAs : ∀ v ∈ As, ab_ok h.1 v) :
    PreS s H (va_Pc (As.map (ab_v ad)) (fun U => U.heap.size = H.size ∧ (∀ v ∈ As, ab_ok h.1 v) ∧ ab_okh h ∧ va_P (dC, dI) ab_cl (ab_w ad dA h) U.heap ∧ va_D (fun _ => True) (ab_w ad dA h) ∧ va_K (dC, dI) ab_cl (ab_ty dA) U ∧ ab_GW ad (va_A (ab_w ad dA h) H.size) U U.heap)) (As.map (ab_v ad)) := by
  refine ⟨fun a U g mk q => ?_, fun U hU hW => ?_⟩
  · obtain ⟨q0, q1, q2, q3, q4, q5, q6, q7⟩ := q
    exact ⟨q0, q1, q2, q3, q4, q5, va_K.moved (u := U) (U := U.calling g mk a) (Vm.Alike.refl U.vm) q6, q7.same rfl⟩
  · refine ⟨rfl, by rw [hU], hAs, D.2.2.2.1, by rw [hU]; exact D.1, D.2.1.weaken (fun _ _ _ _ => trivial), va_K.moved hW.alike C.2.2.2.2.2.2.2.2.2.2.1, ?_⟩
    rw [hU]
    exact C.2.2.2.2.2.2.2.2.2.2.2.2.next hW D.2.2.1.2.1 (ab_free D C.2.2.2.2.2.2.2.2.2.2.2.1) (fun i hi => D.2.2.2.2.2 i (Or.inr hi))
theorem at_callV {M' : ab_M} {As : List Value} {a ci index n : Nat} {CN : String} {τ : Type} {io' : τ → ab_R × ab_H} {u : Option τ} {f : τ → Option ρ} (hc : (ab_cl[ci]?).map (fun q => q.1) = some CN) (hI : ab_MI M' n) (hlk : Cond.methodLink M.1.cls index M'.1 ∈ ab_tb) (hin : Cond.instanceMethod M'.1 ∈ ab_tb) (hse : Cond.selects CN M'.1 M'.1 ∈ ab_tb) (hn : As.length = n) (hrm : ab_rmB M.2.2.2.2 M'.2.2.2.2 M'.2.2.1 = true) (hrc : ab_rmC M.2.2.2.2 M'.2.2.2.2 kc ks = true) (hW : (st.map fun v => v.category).sum ≤ 8) (hd : decode M.2.1 pc = .ok (.invokevirtual index, 3))
    (hm : ∀ y, u = some y → ab_Met l M' (.ref a :: As) h (io' y)) (k : ∀ y v h', u = some y → io' y = (.inl v, h') → ab_T l M hh io (kc + M'.2.2.2.2.cells) (ks + M'.2.2.2.2.slots) (f y) (pc + 3) lv (v.toList ++ st) h') (hty : M.2.2.2.1 = some .int) (kx : ∀ y E h' r, u = some y → io' y = (.inr E, h') → f y = some r → ∃ n pre x suf nm, io r = (.inl (some (.int (Int32.ofInt n))), h') ∧ tableOf hh = pre ++ x :: suf ∧ (∀ w ∈ pre, covers w pc = true ∧ w.catchType ≠ 0 ∧ ∃ nm : String, Cond.classLink M.1.cls w.catchType nm ∈ ab_tb ∧ (E, nm) ∈ ab_nc) ∧ covers x pc = true ∧ x.catchType ≠ 0 ∧ Cond.classLink M.1.cls x.catchType nm ∈ ab_tb ∧ (E, nm) ∈ ab_ca ∧ at_H M x.handlerPc n) :
    ab_T l M hh io kc ks (ab_ck (ab_io h a ci = true) (ab_bd u f)) pc lv (As.reverse ++ .ref a :: st) h := by
  intro z hz p e s m args below meth c dC dI dA ad0 n0 A ad H locs ls C D hl hlo hst
  by_cases hio : ab_io h a ci = true
  · rw [ab_ck_pos hio] at hz
    cases hu : u with
    | none => rw [hu] at hz; cases hz
    | some y =>
      rw [hu, ab_bd_some] at hz
      obtain ⟨ha, fs, hfs⟩ := ab_io_spec hio
      have hrs := ab_rmB_spec hrm
      have hcs := ab_rmC_spec hrc
      have hst1 : ∀ v ∈ st, ab_ok h.1 v := fun v hv => hst v (List.mem_append_right _ (List.mem_cons_of_mem _ hv))
      have hst2 : ∀ v ∈ Value.ref a :: As, ab_ok h.1 v := fun v hv => by
        rcases List.mem_cons.mp hv with hv | hv
        · exact hst v (List.mem_append_right _ (by rw [hv]; exact List.mem_cons_self))
        · exact hst v (List.mem_append_left _ (List.mem_reverse.mpr hv))
      have hpre := at_pre (M' := M') C D hst2
      have hG := ab_good (M := M) hI.1
      have hts := C.2.2.2.2.2.2.1
      obtain ⟨q, hq⟩ : ∃ q, ab_cl[ci]? = some q := by
        cases hq : ab_cl[ci]? with
        | none => rw [hq] at hc; cases hc
        | some q => exact ⟨q, rfl⟩
      have hCN : q.1 = CN := by rw [hq] at hc; exact Option.some.inj hc
      have hrv := va_recv C.2.2.2.2.2.2.2.2.2.2.1 D.1 (q0 := a) (a := ad a) (ci := ci) (fs := fs.map (ab_v ad)) hq (by rw [ab_w_get ha, hfs]; rfl)
      rw [hCN] at hrv
      have hr := vx_runV (Ts := ab_tb) (As := As.map (ab_v ad)) (b := ad a) (rest := st.map (ab_v ad)) (C := CN) (n := n) (cells := kc) (slots := ks) (locs := locs) (e := e) (below := below) (meth := meth) (g := F0 m pc ls ((As.reverse ++ Value.ref a :: st).map (ab_v ad))) ⟨C.2.1, C.2.2.1, C.2.2.2.1, C.2.2.2.2.2.1, hts⟩ (hm y hu dC dI dA ad H.size)
        ⟨⟨rfl, rfl, hrs.1, hrs.2, pay_in hts hG, List.mem_cons_self, hts _ hI.1, hts _ hI.2.1, ⟨hI.2.2.1, hI.2.2.2.1⟩, fun sig h9 => by have h8 := hI.2.2.2.2; rw [h9] at h8; exact (Option.some.inj h8).symm, hts _ hlk⟩, hts _ hin, hts _ hse⟩
        ⟨hpre.1, hrv, hpre.2⟩ rfl (by rw [List.length_map]; exact hn) hl.1 (by show (As.reverse ++ Value.ref a :: st).map (ab_v ad) = _; rw [List.map_append, List.map_reverse]; rfl) (lv_room (by rw [ab_cats]; exact hW)) hd hcs
      exact at_fin hz C D hl hlo hst1 hrc hr hty (fun v h' he => k y v h' hu he) (fun E h' r he hf => kx y E h' r hu he hf)
  · rw [ab_ck, if_neg hio] at hz; cases hz
end TRules
