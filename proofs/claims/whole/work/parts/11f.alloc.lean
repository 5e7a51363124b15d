/-! ===== new cells as answers ===== -/
def ab_nw (h : ab_H) (ci : Nat) (fs : List Value) : Option ab_H := if h.1 < ab_SB then some (ab_ps h (.inr (ci, fs))) else none
def ab_na (kd B : Nat) (h : ab_H) (n : Int32) : Option ab_H := if h.1 < ab_SB ∧ ¬ n < 0 ∧ n.toNatClampNeg ≤ B then some (ab_ps h (.inl (kd, n.toNatClampNeg, if kd = 1 then .inr (.inl (fun _ => 0)) else .inl (fun _ => 0)))) else none
theorem ab_bn {x : Int32} (b : ab_bl x) : vp_nar .boolean x = x := by
  unfold vp_nar
  rw [b.1]
section AllocRules
variable {ρ : Type} {l : Launch} {M : ab_M} {io : ρ → ab_R × ab_H} {kc ks : Nat} {t : Option ρ} {pc : Nat} {lv lv' : List (Nat × Value)} {st : List Value} {h : ab_H}
theorem ab_newB {ci index N : Nat} {fs : List Value} {u : ab_H → Option ρ} (hN : ab_NW M.1.cls index ci N fs) (hok : fs.all ab_nr = true) (hrc : kc + 1 ≤ M.2.2.2.2.cells) (hrs : ks + N ≤ M.2.2.2.2.slots) (hd : decode M.2.1 pc = .ok (.new index, 3)) (k : ∀ h', ab_nw h ci fs = some h' → ab_S l M io (kc + 1) (ks + N) (u h') (pc + 3) lv (.ref h.1 :: st) h') : ab_S l M io kc ks (ab_bd (ab_nw h ci fs) u) pc lv st h := by
  have e : ab_bd (ab_nw h ci fs) u = ab_ck (h.1 < ab_SB) (u (ab_ps h (.inr (ci, fs)))) := by
    unfold ab_nw ab_ck
    split <;> rfl
  rw [e]
  exact ab_new hN hok hrc hrs hd (fun hn => k _ (by unfold ab_nw; rw [if_pos hn]))
theorem ab_naI {B : Nat} {n : Int32} {u : ab_H → Option ρ} (harr : Cond.arrayClass .int ∈ ab_tb) (hB : B ≤ 10000000) (hrc : kc + 1 ≤ M.2.2.2.2.cells) (hrs : ks + B ≤ M.2.2.2.2.slots) (hd : decode M.2.1 pc = .ok (.newarray .int, 2)) (k : ∀ h', ab_na 0 B h n = some h' → ab_S l M io (kc + 1) (ks + B) (u h') (pc + 2) lv (.ref h.1 :: st) h') : ab_S l M io kc ks (ab_bd (ab_na 0 B h n) u) pc lv (.int n :: st) h := by
  have e : ab_bd (ab_na 0 B h n) u = ab_ck (h.1 < ab_SB ∧ ¬ n < 0 ∧ n.toNatClampNeg ≤ B) (u (ab_ps h (.inl (0, n.toNatClampNeg, .inl (fun _ => 0))))) := by
    unfold ab_na ab_ck
    split <;> rfl
  rw [e]
  exact ab_newa (x := .inl (fun _ => 0)) (ty := .int) rfl (fun _ => rfl) (fun U c1 c2 h1 h2 => Option.some.inj (h1.symm.trans h2)) (fun _ _ => rfl) (by decide) hB harr hrc hrs hd (fun a b c => k _ (by unfold ab_na; rw [if_pos ⟨a, b, c⟩]; rfl))
theorem ab_naZ {B : Nat} {n : Int32} {u : ab_H → Option ρ} (harr : Cond.arrayClass .boolean ∈ ab_tb) (hB : B ≤ 10000000) (hrc : kc + 1 ≤ M.2.2.2.2.cells) (hrs : ks + B ≤ M.2.2.2.2.slots) (hd : decode M.2.1 pc = .ok (.newarray .boolean, 2)) (k : ∀ h', ab_na 2 B h n = some h' → ab_S l M io (kc + 1) (ks + B) (u h') (pc + 2) lv (.ref h.1 :: st) h') : ab_S l M io kc ks (ab_bd (ab_na 2 B h n) u) pc lv (.int n :: st) h := by
  have e : ab_bd (ab_na 2 B h n) u = ab_ck (h.1 < ab_SB ∧ ¬ n < 0 ∧ n.toNatClampNeg ≤ B) (u (ab_ps h (.inl (2, n.toNatClampNeg, .inl (fun _ => 0))))) := by
    unfold ab_na ab_ck
    split <;> rfl
  rw [e]
  exact ab_newa (x := .inl (fun _ => 0)) (ty := .boolean) rfl (fun _ => rfl) (fun U c1 c2 h1 h2 => Option.some.inj (h1.symm.trans h2)) (fun _ _ => rfl) (by decide) hB harr hrc hrs hd (fun a b c => k _ (by unfold ab_na; rw [if_pos ⟨a, b, c⟩]; rfl))
theorem ab_naL {B : Nat} {n : Int32} {u : ab_H → Option ρ} (harr : Cond.arrayClass .long ∈ ab_tb) (hB : B ≤ 10000000) (hrc : kc + 1 ≤ M.2.2.2.2.cells) (hrs : ks + B ≤ M.2.2.2.2.slots) (hd : decode M.2.1 pc = .ok (.newarray .long, 2)) (k : ∀ h', ab_na 1 B h n = some h' → ab_S l M io (kc + 1) (ks + B) (u h') (pc + 2) lv (.ref h.1 :: st) h') : ab_S l M io kc ks (ab_bd (ab_na 1 B h n) u) pc lv (.int n :: st) h := by
  have e : ab_bd (ab_na 1 B h n) u = ab_ck (h.1 < ab_SB ∧ ¬ n < 0 ∧ n.toNatClampNeg ≤ B) (u (ab_ps h (.inl (1, n.toNatClampNeg, .inr (.inl (fun _ => 0)))))) := by
    unfold ab_na ab_ck
    split <;> rfl
  rw [e]
  exact ab_newa (x := .inr (fun _ => 0)) (ty := .long) rfl (fun _ => rfl) (fun U c1 c2 h1 h2 => Option.some.inj (h1.symm.trans h2)) (fun _ _ => rfl) (by decide) hB harr hrc hrs hd (fun a b c => k _ (by unfold ab_na; rw [if_pos ⟨a, b, c⟩]; rfl))
end AllocRules
theorem ab_vxF {l : Launch} {y : MethodName} {ws ws' : List Cond} {rm : Room} {Pc : Array Value → State → Prop} {Qc : Array Value → State → Outcome → State → Prop} {XC : String → State → State → Prop} {mc ms : Nat} {free : Addr → Prop} {cc : ByteArray} {maxL : Nat} {ret : Option FieldType}
    (hy : plainFor y = true) (hw : ws = Cond.code y cc maxL ret :: ws')
    (body : ∀ p e s m args below meth c s₁, BodyLoose p l y (headSpec ws rm) cc maxL ret e s m args below meth c s₁ → c.maxLocals = maxL → (∀ x ∈ c.exceptionTable.toList, False) → Pc args s →
      W p l e (headSpec ws rm).room s m args below meth c s.heap [] 0 0 (vx_MQ below Qc XC args s mc ms free) (entryFrame m args maxL)) : vx_Met l y ws rm Pc Qc XC mc ms free := by
  refine MetFree.of_bodySF (code := cc) (maxLocals := maxL) (ret := ret) hy ?_ ?_
  · intro args s m h hn
    obtain ⟨meth, c, h1, h2, h3, h4, h5, h6, -, -⟩ := Cond.code_spec hn (atoms_spec (ws := ws) h _ (by rw [hw]; exact List.mem_cons_self))
    exact ⟨meth, c, h1, h2, h3, h4, h5, h6⟩
  · intro p e s m args below meth c s₁ B hml hP _
    have hh0 : s₁.heap = s.heap := by rw [B.state]; rfl
    have ht : ∀ x ∈ c.exceptionTable.toList, False := by
      obtain ⟨meth9, c9, h1, h2, -, -, -, -, h7, -⟩ := Cond.code_spec B.named (atoms_spec (ws := ws) B.pre _ (by rw [hw]; exact List.mem_cons_self))
      cases Option.some.inj (h1.symm.trans B.method)
      cases Option.some.inj (h2.symm.trans (Stand.of_body B).code)
      intro x hx
      rw [Array.isEmpty_iff.mp h7] at hx
      cases hx
    obtain ⟨t, a1, o, b1, b2, b3⟩ := body p e s m args below meth c s₁ B hml ht hP s₁ hh0 (Stand.of_body B)
    exact ⟨t, o, a1, b1, b2, b3⟩
/-- the contract out of the walk, where the class has methods that the machine runs by itself, and this is none of them -/
theorem ab_ofSF {ρ : Type} {l : Launch} {M : ab_M} {io : ρ → ab_R × ab_H} {t : Option ρ} {a : List Value} {h : ab_H} {lv : List (Nat × Value)} (hl : l.stackTraces = false) (hy : plainFor M.1 = true) (hlv : lv_args 0 a = lv) (hnl : (lg_sl a).length ≤ M.2.2.1) (hS : ab_S l M io 0 0 t 0 lv [] h) {x : ρ} (hx : t = some x) : ab_Met l M a h (io x) := by
  intro dC dI dA ad0 sz
  refine ab_vxF (cc := M.2.1) (maxL := M.2.2.1) (ret := M.2.2.2.1) hy rfl ?_
  intro p e s m args below meth c s₁ B hml htab hv
  obtain ⟨rfl, hsz, hoa, hoh, hP, hD0, hK, hG⟩ := hv
  subst hsz
  have hts := atoms_spec (ws := ab_ws M) B.pre
  have hE := lv_entry (a.map (ab_v ad0)) (n := M.2.2.1) (by rw [ab_sl]; exact hnl)
  rw [lg_entry_eq]
  generalize (lg_sl (a.map (ab_v ad0)) ++ List.replicate (M.2.2.1 - (lg_sl (a.map (ab_v ad0))).length) Slot.unset).toArray = ls at hE ⊢
  rw [ab_args, hlv] at hE
  refine hS x hx p e s m _ below meth c dC dI dA ad0 h.1 (va_A (ab_w ad0 dA h) s.heap.size) ad0 s.heap [] ls ⟨hl, B.exec, B.bytes, hml, B.returns, findClass_of_methodNamed B.named, fun w hw => hts w (List.mem_cons_of_mem _ hw), B.notSynchronized, (name_of_methodNamed B.named B.method).1, htab, hK, fun q h => Or.inr h, hG⟩ ⟨hP, hD0.self, va_S.rf, hoh, Nat.le_refl _, fun _ _ => rfl⟩ hE (fun q hq => hoa _ (ab_args_mem a 0 q (by rw [hlv]; exact hq))) (fun _ h => by cases h)
/-- more may have been made -/
theorem ab_wid {ρ : Type} {l : Launch} {M : ab_M} {io : ρ → ab_R × ab_H} {kc ks kc' ks' : Nat} {t : Option ρ} {pc : Nat} {lv : List (Nat × Value)} {st : List Value} {h : ab_H} (h1 : kc ≤ kc') (h2 : ks ≤ ks') (k : ab_S l M io kc' ks' t pc lv st h) : ab_S l M io kc ks t pc lv st h := by
  intro z hz p e s m args below meth c dC dI dA ad0 n0 A ad H locs ls C D hl hlo hst
  exact W.widen h1 h2 (k z hz p e s m args below meth c dC dI dA ad0 n0 A ad H locs ls C D hl hlo hst)
