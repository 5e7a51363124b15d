/-! ===== calls ===== -/
theorem ab_v_agree {n : Nat} {ad ad1 : Nat → Nat} (hag : ∀ i, i < n ∨ ab_SB ≤ i → ad1 i = ad i) {v : Value} (h : ab_ok n v) : ab_v ad1 v = ab_v ad v := by
  cases v <;> first | rfl | skip
  rename_i i
  show Value.ref (ad1 i) = Value.ref (ad i)
  rw [hag i h]
theorem ab_lv_agree {n : Nat} {ad ad1 : Nat → Nat} (hag : ∀ i, i < n ∨ ab_SB ≤ i → ad1 i = ad i) {lv : List (Nat × Value)} (h : ∀ q ∈ lv, ab_ok n q.2) : lv.map (ab_lv ad1) = lv.map (ab_lv ad) :=
  List.map_congr_left (fun q hq => by show (q.1, ab_v ad1 q.2) = (q.1, ab_v ad q.2); rw [ab_v_agree hag (h q hq)])
theorem ab_st_agree {n : Nat} {ad ad1 : Nat → Nat} (hag : ∀ i, i < n ∨ ab_SB ≤ i → ad1 i = ad i) {st : List Value} (h : ∀ v ∈ st, ab_ok n v) : st.map (ab_v ad1) = st.map (ab_v ad) :=
  List.map_congr_left (fun v hv => ab_v_agree hag (h v hv))
theorem ab_free {dC : Nat → ClassId} {dI : Nat → Nat → Nat} {dA : Nat → ClassId} {ad0 : Nat → Nat} {n0 : Nat} {A : Nat → Prop} {ad : Nat → Nat} {h : ab_H} {H0 H : Heap} {locs : List Loc} (D : ab_Wd dC dI dA ad0 n0 A ad h H0 H locs) (hA : ∀ q, H0.size ≤ q → A q) : ∀ q, va_A (ab_w ad dA h) H.size q → A q := by
  intro q hq
  rcases hq with ⟨k, e, hk⟩ | hq
  · exact D.2.1.2 k _ hk
  · exact hA q (Nat.le_trans D.2.2.1.1 hq)
section CallRules
variable {ρ : Type} {l : Launch} {M : ab_M} {io : ρ → ab_R × ab_H} {kc ks : Nat} {t : Option ρ} {pc : Nat} {lv lv' : List (Nat × Value)} {st : List Value} {h : ab_H}
theorem ab_run {p : Program} {e : Env} {R : Room} {s : State} {m : MethodId} {args : Array Value} {below : List Frame} {meth : Method} {c : Code} {H : Heap} {locs : List Loc} {mc ms : Nat} {Q : State → Prop} {ls : Array Slot} {rest st0 : List Value} {dC : Nat → ClassId} {dI : Nat → Nat → Nat} {dA : Nat → ClassId} {ad0 : Nat → Nat} {n0 : Nat} {A : Nat → Prop} {ad : Nat → Nat} {r : ab_R × ab_H} {a' : Array Value}
    (hr : vx_Run p l e R s m args below meth c H locs kc ks mc ms (F0 m pc ls st0) rest (ab_Qc dC dI dA ad h.1 (va_A (ab_w ad dA h) H.size) r a') (ab_Xc dC dI dA ad h.1 (va_A (ab_w ad dA h) H.size) r) (va_A (ab_w ad dA h) H.size)) (D : ab_Wd dC dI dA ad0 n0 A ad h s.heap H locs) (hA : ∀ q, s.heap.size ≤ q → A q)
    (kk : ∀ (v : Option Value) (ad1 : Nat → Nat) (H1 : Heap) (locs1 : List Loc), r.1 = .inl v → (∀ w, v = some w → ab_ok r.2.1 w) → ab_Wd dC dI dA ad0 n0 A ad1 r.2 s.heap H1 locs1 → (∀ i, i < h.1 ∨ ab_SB ≤ i → ad1 i = ad i) → h.1 ≤ r.2.1 → W p l e R s m args below meth c H1 locs1 (kc + mc) (ks + ms) Q (F0 m (pc + 3) ls ((v.map (ab_v ad1)).toList ++ rest)))
    (kx : ∀ (E : String) (ce : Cell) (q9 : Addr) (ad1 : Nat → Nat) (H1 : Heap) (locs1 : List Loc), r.1 = .inr E → ab_Wd dC dI dA ad0 n0 A ad1 r.2 s.heap H1 locs1 → H1[q9]? = some ce → ce.vm = .none → s.vm.findClass E = some ce.cls → vx_W p l e R s m args below meth c H1 locs1 (kc + mc) (ks + ms) Q (F0 m pc ls rest) q9) :
    W p l e R s m args below meth c H locs kc ks Q (F0 m pc ls st0) := by
  intro T hT X
  have hF := ab_free D hA
  have fin : ∀ {ad1 : Nat → Nat} {t T' : State} {locs1 : List Loc}, T'.heap = t.heap → va_S A s.heap T'.heap locs1 → ab_B dC dI dA ad h.1 (va_A (ab_w ad dA h) H.size) ad1 r.2 t.heap → ab_Wd dC dI dA ad0 n0 A ad1 r.2 s.heap T'.heap locs1 := by
    intro ad1 t T' locs1 e1 hS hB
    rw [← e1] at hB
    exact ⟨hB.1, hB.2.1.weaken (fun _ q _ hq => hF q.1 hq), hS, hB.2.2.1, Nat.le_trans D.2.2.2.2.1 hB.2.2.2.1, fun i hi => (hB.2.2.2.2 i (hi.elim (fun h1 => Or.inl (Nat.lt_of_lt_of_le h1 D.2.2.2.2.1)) Or.inr)).trans (D.2.2.2.2.2 i hi)⟩
  rcases hr T hT X with ⟨v, st₀, t, T', L, h0, X', hL, e1, e2, ⟨⟨v', ad1, hr1, hv, hok, hB⟩, hFr⟩, stp⟩ | ⟨q, st₀, t, T', L, E, ce, h0, X', hL, e1, e2, ⟨hrE, ⟨ad1, hB⟩, hFr⟩, hce, hcv, hcl, stp⟩
  · cases hv
    obtain ⟨k1, k2, k3⟩ := vx_keep h0 e1 D.2.2.1 (fun q _ hq => hF q hq) hF hL hFr
    obtain ⟨t2, a1, b1⟩ := kk v' ad1 T'.heap (locs ++ L) hr1 hok (fin e1 k3 hB) hB.2.2.2.2 hB.2.2.2.1 T' rfl X'
    exact ⟨t2, stp t2 a1, b1⟩
  · obtain ⟨k1, k2, k3⟩ := vx_keep h0 e1 D.2.2.1 (fun q _ hq => hF q hq) hF hL hFr
    obtain ⟨t2, a1, b1⟩ := kx E ce q ad1 T'.heap (locs ++ L) hrE (fin e1 k3 hB) (by rw [e1]; exact hce) hcv hcl T' rfl X'
    exact ⟨t2, stp.trans a1, b1⟩
/-- what a callee asks at its start -/
theorem ab_pre {M' : ab_M} {As : List Value} {p : Program} {s : State} {m : MethodId} {args : Array Value} {meth : Method} {c : Code} {H : Heap} {locs : List Loc} {dC : Nat → ClassId} {dI : Nat → Nat → Nat} {dA : Nat → ClassId} {ad0 : Nat → Nat} {n0 : Nat} {A : Nat → Prop} {ad : Nat → Nat} (C : ab_Cx l M dC dI dA ad0 A p s m args meth c) (D : ab_Wd dC dI dA ad0 n0 A ad h s.heap H locs) (hAs : ∀ v ∈ As, ab_ok h.1 v) :
    PreS s H (va_Pc (As.map (ab_v ad)) (fun U => U.heap.size = H.size ∧ (∀ v ∈ As, ab_ok h.1 v) ∧ ab_okh h ∧ va_P (dC, dI) ab_cl (ab_w ad dA h) U.heap ∧ va_D (fun _ => True) (ab_w ad dA h) ∧ va_K (dC, dI) ab_cl (ab_ty dA) U ∧ ab_GW ad (va_A (ab_w ad dA h) H.size) U U.heap)) (As.map (ab_v ad)) := by
  refine ⟨fun a U g mk q => ?_, fun U hU hW => ?_⟩
  · obtain ⟨q0, q1, q2, q3, q4, q5, q6, q7⟩ := q
    exact ⟨q0, q1, q2, q3, q4, q5, va_K.moved (u := U) (U := U.calling g mk a) (Vm.Alike.refl U.vm) q6, q7.same rfl⟩
  · refine ⟨rfl, by rw [hU], hAs, D.2.2.2.1, by rw [hU]; exact D.1, D.2.1.weaken (fun _ _ _ _ => trivial), va_K.moved hW.alike C.2.2.2.2.2.2.2.2.2.2.1, ?_⟩
    rw [hU]
    exact C.2.2.2.2.2.2.2.2.2.2.2.2.next hW D.2.2.1.2.1 (ab_free D C.2.2.2.2.2.2.2.2.2.2.2.1) (fun i hi => D.2.2.2.2.2 i (Or.inr hi))
theorem ab_good {M M' : ab_M} (hc : Cond.code M'.1 M'.2.1 M'.2.2.1 M'.2.2.2.1 ∈ ab_tb) : GoodIn ab_tb (ab_ws M') := by
  have hg : ∀ w ∈ ab_tb, w ∈ ab_tb ∧ ((w.onTables && w.keeps) = true ∨ ∃ ty, w = .arrayClass ty) := fun w hw => ⟨hw, good_of_word (List.mem_filter.mp hw).2⟩
  intro w hw
  rcases List.mem_cons.mp hw with hw | hw
  · subst hw; exact hg _ hc
  · exact hg w hw
/-- a method as the tables have it: its code, its class made ready, n parameters -/
def ab_MI (M' : ab_M) (n : Nat) : Prop := Cond.code M'.1 M'.2.1 M'.2.2.1 M'.2.2.2.1 ∈ ab_tb ∧ Cond.initialized M'.1.cls ∈ ab_tb ∧ (M'.1.cls ≠ "java/lang/invoke/MethodHandle" ∧ M'.1.cls ≠ "java/lang/invoke/VarHandle" ∧ (parseMethodDescriptor M'.1.desc).map (fun d => d.parameters.length) = some n)
def ab_rmB (R R' : Room) (nL : Nat) : Bool := decide (R'.frames + 1 ≤ R.frames) && decide (8 + (nL + 11) + R'.locals ≤ R.locals)
def ab_rmC (R R' : Room) (kc ks : Nat) : Bool := decide (kc + R'.cells ≤ R.cells) && decide (ks + R'.slots ≤ R.slots)
theorem ab_rmB_spec {R R' : Room} {nL : Nat} (h : ab_rmB R R' nL = true) : R'.frames + 1 ≤ R.frames ∧ 8 + (nL + 11) + R'.locals ≤ R.locals := by
  simp only [ab_rmB, Bool.and_eq_true, decide_eq_true_eq] at h; exact h
theorem ab_rmC_spec {R R' : Room} {kc ks : Nat} (h : ab_rmC R R' kc ks = true) : kc + R'.cells ≤ R.cells ∧ ks + R'.slots ≤ R.slots := by
  simp only [ab_rmC, Bool.and_eq_true, decide_eq_true_eq] at h; exact h
/-- the end of a call: both ways -/
theorem ab_fin {M' : ab_M} {τ : Type} {io' : τ → ab_R × ab_H} {f : τ → Option ρ} {y : τ} {z : ρ} (hz : f y = some z) {p : Program} {e : Env} {s : State} {m : MethodId} {args : Array Value} {below : List Frame} {meth : Method} {c : Code} {H : Heap} {locs : List Loc} {ls : Array Slot} {dC : Nat → ClassId} {dI : Nat → Nat → Nat} {dA : Nat → ClassId} {ad0 : Nat → Nat} {n0 : Nat} {A : Nat → Prop} {ad : Nat → Nat} {st0 : List Value} {a' : Array Value} (C : ab_Cx l M dC dI dA ad0 A p s m args meth c) (D : ab_Wd dC dI dA ad0 n0 A ad h s.heap H locs) (hl : lv_has ls M.2.2.1 (lv.map (ab_lv ad))) (hlo : ∀ q ∈ lv, ab_ok h.1 q.2) (hst : ∀ v ∈ st, ab_ok h.1 v) (hrc : ab_rmC M.2.2.2.2 M'.2.2.2.2 kc ks = true)
    (hr : vx_Run p l e M.2.2.2.2 s m args below meth c H locs kc ks M'.2.2.2.2.cells M'.2.2.2.2.slots (F0 m pc ls st0) (st.map (ab_v ad)) (ab_Qc dC dI dA ad h.1 (va_A (ab_w ad dA h) H.size) (io' y) a') (ab_Xc dC dI dA ad h.1 (va_A (ab_w ad dA h) H.size) (io' y)) (va_A (ab_w ad dA h) H.size))
    (k : ∀ v h', io' y = (.inl v, h') → ab_S l M io (kc + M'.2.2.2.2.cells) (ks + M'.2.2.2.2.slots) (f y) (pc + 3) lv (v.toList ++ st) h') (kx : ∀ E h', io' y = (.inr E, h') → ∃ r, f y = some r ∧ io r = (.inr E, h')) :
    W p l e M.2.2.2.2 s m args below meth c H locs kc ks (vx_MQ below (ab_Qc dC dI dA ad0 n0 A (io z)) (ab_Xc dC dI dA ad0 n0 A (io z)) args s M.2.2.2.2.cells M.2.2.2.2.slots A) (F0 m pc ls st0) := by
  refine ab_run hr D C.2.2.2.2.2.2.2.2.2.2.2.1 (fun v ad1 H1 locs1 hr1 hok D1 hag hle => ?_) (fun E ce q9 ad1 H1 locs1 hrE D1 hce hcv hcl => ?_)
  · have e0 : io' y = (.inl v, (io' y).2) := Prod.ext hr1 rfl
    have e1 : (v.map (ab_v ad1)).toList ++ st.map (ab_v ad) = (v.toList ++ st).map (ab_v ad1) := by
      rw [← ab_st_agree hag hst]
      cases v <;> rfl
    rw [e1]
    refine k v (io' y).2 e0 z hz p e s m args below meth c dC dI dA ad0 n0 A ad1 H1 locs1 ls C D1 (by rw [ab_lv_agree hag hlo]; exact hl) (fun q hq => ab_ok_mono hle (hlo q hq)) (fun w hw => ?_)
    rcases List.mem_append.mp hw with hw | hw
    · exact hok w (Option.mem_toList.mp hw)
    · exact ab_ok_mono hle (hst w hw)
  · have e0 : io' y = (.inr E, (io' y).2) := Prod.ext hrE rfl
    obtain ⟨r, h1, h2⟩ := kx E _ e0
    cases h1.symm.trans hz
    have hcs := ab_rmC_spec hrc
    refine vx_out (fun x hx => (C.2.2.2.2.2.2.2.2.2.1 x hx).elim) C.2.2.2.2.2.2.2.1 hce hcv hcl (fun t ht ha => ⟨by rw [h2], ⟨ad1, ?_⟩, D1.2.2.1.F ht⟩) D1.2.2.1.2.2 hcs.1 hcs.2
    rw [h2, ht]
    exact ⟨D1.1, D1.2.1, D1.2.2.2⟩
/-- invokevirtual of a method of the receiver's own class -/
theorem ab_callV {M' : ab_M} {As : List Value} {a ci index n : Nat} {CN : String} {τ : Type} {io' : τ → ab_R × ab_H} {u : Option τ} {f : τ → Option ρ} (hc : (ab_cl[ci]?).map (fun q => q.1) = some CN) (hI : ab_MI M' n) (hlk : Cond.methodLink M.1.cls index M'.1 ∈ ab_tb) (hin : Cond.instanceMethod M'.1 ∈ ab_tb) (hse : Cond.selects CN M'.1 M'.1 ∈ ab_tb) (hn : As.length = n) (hrm : ab_rmB M.2.2.2.2 M'.2.2.2.2 M'.2.2.1 = true) (hrc : ab_rmC M.2.2.2.2 M'.2.2.2.2 kc ks = true) (hW : (st.map fun v => v.category).sum ≤ 8) (hd : decode M.2.1 pc = .ok (.invokevirtual index, 3))
    (hm : ∀ y, u = some y → ab_Met l M' (.ref a :: As) h (io' y)) (k : ∀ y v h', u = some y → io' y = (.inl v, h') → ab_S l M io (kc + M'.2.2.2.2.cells) (ks + M'.2.2.2.2.slots) (f y) (pc + 3) lv (v.toList ++ st) h') (kx : ∀ y E h', u = some y → io' y = (.inr E, h') → ∃ r, f y = some r ∧ io r = (.inr E, h')) :
    ab_S l M io kc ks (ab_ck (ab_io h a ci = true) (ab_bd u f)) pc lv (As.reverse ++ .ref a :: st) h := by
  intro z hz p e s m args below meth c dC dI dA ad0 n0 A ad H locs ls C D hl hlo hst
  by_cases hio : ab_io h a ci = true
  · rw [ab_ck_pos hio] at hz
    cases hu : u with
    | none => rw [hu] at hz; cases hz
    | some y =>
      rw [hu, ab_bd_some] at hz
      obtain ⟨ha, fs, hfs⟩ := ab_io_spec hio
      have hrs := ab_rmB_spec hrm
      have hcs := ab_rmC_spec hrc
      have hst1 : ∀ v ∈ st, ab_ok h.1 v := fun v hv => hst v (List.mem_append_right _ (List.mem_cons_of_mem _ hv))
      have hst2 : ∀ v ∈ Value.ref a :: As, ab_ok h.1 v := fun v hv => by
        rcases List.mem_cons.mp hv with hv | hv
        · exact hst v (List.mem_append_right _ (by rw [hv]; exact List.mem_cons_self))
        · exact hst v (List.mem_append_left _ (List.mem_reverse.mpr hv))
      have hpre := ab_pre (M' := M') C D hst2
      have hG := ab_good (M := M) hI.1
      have hts := C.2.2.2.2.2.2.1
      obtain ⟨q, hq⟩ : ∃ q, ab_cl[ci]? = some q := by
        cases hq : ab_cl[ci]? with
        | none => rw [hq] at hc; cases hc
        | some q => exact ⟨q, rfl⟩
      have hCN : q.1 = CN := by rw [hq] at hc; exact Option.some.inj hc
      have hrv := va_recv C.2.2.2.2.2.2.2.2.2.2.1 D.1 (q0 := a) (a := ad a) (ci := ci) (fs := fs.map (ab_v ad)) hq (by rw [ab_w_get ha, hfs]; rfl)
      rw [hCN] at hrv
      have hr := vx_runV (Ts := ab_tb) (As := As.map (ab_v ad)) (b := ad a) (rest := st.map (ab_v ad)) (C := CN) (n := n) (cells := kc) (slots := ks) (locs := locs) (e := e) (below := below) (meth := meth) (g := F0 m pc ls ((As.reverse ++ Value.ref a :: st).map (ab_v ad))) ⟨C.2.1, C.2.2.1, C.2.2.2.1, C.2.2.2.2.2.1, hts⟩ (hm y hu dC dI dA ad H.size)
        ⟨⟨rfl, rfl, hrs.1, hrs.2, pay_in hts hG, List.mem_cons_self, hts _ hI.1, hts _ hI.2.1, ⟨hI.2.2.1, hI.2.2.2.1⟩, fun sig h9 => by have h8 := hI.2.2.2.2; rw [h9] at h8; exact (Option.some.inj h8).symm, hts _ hlk⟩, hts _ hin, hts _ hse⟩
        ⟨hpre.1, hrv, hpre.2⟩ rfl (by rw [List.length_map]; exact hn) hl.1 (by show (As.reverse ++ Value.ref a :: st).map (ab_v ad) = _; rw [List.map_append, List.map_reverse]; rfl) (lv_room (by rw [ab_cats]; exact hW)) hd hcs
      exact ab_fin hz C D hl hlo hst1 hrc hr (fun v h' he => k y v h' hu he) (fun E h' he => kx y E h' hu he)
  · rw [ab_ck, if_neg hio] at hz; cases hz
/-- invokestatic, a method of the class itself or of another one -/
theorem ab_callS {M' : ab_M} {As : List Value} {index n : Nat} {τ : Type} {io' : τ → ab_R × ab_H} {u : Option τ} {f : τ → Option ρ} (hI : ab_MI M' n) (hlk : Cond.methodLink M.1.cls index M'.1 ∈ ab_tb) (hin : Cond.static M'.1 ∈ ab_tb) (hn : As.length = n) (hrm : ab_rmB M.2.2.2.2 M'.2.2.2.2 M'.2.2.1 = true) (hrc : ab_rmC M.2.2.2.2 M'.2.2.2.2 kc ks = true) (hW : (st.map fun v => v.category).sum ≤ 8) (hd : decode M.2.1 pc = .ok (.invokestatic index, 3))
    (hm : ∀ y, u = some y → ab_Met l M' As h (io' y)) (k : ∀ y v h', u = some y → io' y = (.inl v, h') → ab_S l M io (kc + M'.2.2.2.2.cells) (ks + M'.2.2.2.2.slots) (f y) (pc + 3) lv (v.toList ++ st) h') (kx : ∀ y E h', u = some y → io' y = (.inr E, h') → ∃ r, f y = some r ∧ io r = (.inr E, h')) :
    ab_S l M io kc ks (ab_bd u f) pc lv (As.reverse ++ st) h := by
  intro z hz p e s m args below meth c dC dI dA ad0 n0 A ad H locs ls C D hl hlo hst
  cases hu : u with
  | none => rw [hu] at hz; cases hz
  | some y =>
    rw [hu, ab_bd_some] at hz
    have hrs := ab_rmB_spec hrm
    have hcs := ab_rmC_spec hrc
    have hst1 : ∀ v ∈ st, ab_ok h.1 v := fun v hv => hst v (List.mem_append_right _ hv)
    have hst2 : ∀ v ∈ As, ab_ok h.1 v := fun v hv => hst v (List.mem_append_left _ (List.mem_reverse.mpr hv))
    have hpre := ab_pre (M' := M') C D hst2
    have hG := ab_good (M := M) hI.1
    have hts := C.2.2.2.2.2.2.1
    have hr := vx_runS (Ts := ab_tb) (As := As.map (ab_v ad)) (rest := st.map (ab_v ad)) (n := n) (cells := kc) (slots := ks) (locs := locs) (e := e) (below := below) (meth := meth) (g := F0 m pc ls ((As.reverse ++ st).map (ab_v ad))) ⟨C.2.1, C.2.2.1, C.2.2.2.1, C.2.2.2.2.2.1, hts⟩ (hm y hu dC dI dA ad H.size)
      ⟨⟨rfl, rfl, hrs.1, hrs.2, pay_in hts hG, List.mem_cons_self, hts _ hI.1, hts _ hI.2.1, ⟨hI.2.2.1, hI.2.2.2.1⟩, fun sig h9 => by have h8 := hI.2.2.2.2; rw [h9] at h8; exact (Option.some.inj h8).symm, hts _ hlk⟩, hts _ hin⟩
      hpre rfl (by rw [List.length_map]; exact hn) hl.1 (by show (As.reverse ++ st).map (ab_v ad) = _; rw [List.map_append, List.map_reverse]) (lv_room (by rw [ab_cats]; exact hW)) hd hcs
    exact ab_fin hz C D hl hlo hst1 hrc hr (fun v h' he => k y v h' hu he) (fun E h' he => kx y E h' hu he)
end CallRules
