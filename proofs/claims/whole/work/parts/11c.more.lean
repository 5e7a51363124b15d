/-! ===== more calls: constructors, nest mates; new cells; copies; switches; longs ===== -/
theorem ab_toMet {l : Launch} {M : ab_M} {a : List Value} {h : ab_H} {r : ab_R × ab_H} {v : Option Value} (hr : r.1 = .inl v) (hM : ab_Met l M a h r) (dC : Nat → ClassId) (dI : Nat → Nat → Nat) (dA : Nat → ClassId) (ad0 : Nat → Nat) (sz : Nat) : Met l M.1 (ab_ws M) M.2.2.2.2
    (va_Pc (a.map (ab_v ad0)) (fun U => U.heap.size = sz ∧ (∀ v ∈ a, ab_ok h.1 v) ∧ ab_okh h ∧ va_P (dC, dI) ab_cl (ab_w ad0 dA h) U.heap ∧ va_D (fun _ => True) (ab_w ad0 dA h) ∧ va_K (dC, dI) ab_cl (ab_ty dA) U ∧ ab_GW ad0 (va_A (ab_w ad0 dA h) sz) U U.heap))
    (ab_Qc dC dI dA ad0 h.1 (va_A (ab_w ad0 dA h) sz) r) M.2.2.2.2.cells M.2.2.2.2.slots (va_A (ab_w ad0 dA h) sz) := by
  refine MetFree.mono (hM dC dI dA ad0 sz) (fun _ _ h => h) (fun _ _ _ _ _ h => h) (fun a s o t _ hq => ?_)
  rcases hq with hq | ⟨q, ho, E, ce, L, hx, -⟩
  · exact hq
  · have h9 := hx.1.symm.trans hr
    cases h9
theorem ab_upRun {p : Program} {l : Launch} {e : Env} {R : Room} {s : State} {m : MethodId} {args : Array Value} {below : List Frame} {meth : Method} {c : Code} {H : Heap} {locs : List Loc} {cells slots mc ms : Nat} {g : JFrame} {rest : List Value} {Qa : State → Outcome → State → Prop} {XC : String → State → State → Prop} {free : Addr → Prop} (h : va_Run p l e R s m args below meth c H locs cells slots mc ms g rest Qa free) : vx_Run p l e R s m args below meth c H locs cells slots mc ms g rest Qa XC free := fun T hT X => Or.inl (h T hT X)
theorem ab_Wd_ps {dC : Nat → ClassId} {dI : Nat → Nat → Nat} {dA : Nat → ClassId} {ad0 : Nat → Nat} {n0 : Nat} {A : Nat → Prop} {ad : Nat → Nat} {h : ab_H} {H0 H H1 : Heap} {locs : List Loc} {q : Nat} {e : va_E} (D : ab_Wd dC dI dA ad0 n0 A ad h H0 H locs) (hn : h.1 < ab_SB) (he : ab_oke (h.1 + 1) e) (hP : va_P (dC, dI) ab_cl (ab_w ad dA h ++ [(q, ab_e (va_up ad h.1 q) dA e)]) H1) (hD : va_D A (ab_w ad dA h ++ [(q, ab_e (va_up ad h.1 q) dA e)])) (hS : va_S A H0 H1 locs) : ab_Wd dC dI dA ad0 n0 A (va_up ad h.1 q) (ab_ps h e) H0 H1 locs := by
  rw [← ab_w_push hn D.2.2.2.1] at hP hD
  refine ⟨hP, hD, hS, ab_okh_ps hn D.2.2.2.1 he, Nat.le_trans D.2.2.2.2.1 (Nat.le_succ _), fun i hi => ?_⟩
  have h1 : ¬ i = h.1 := by
    have := D.2.2.2.2.1
    omega
  rw [show va_up ad h.1 q i = ad i from if_neg h1]
  exact D.2.2.2.2.2 i hi
theorem ab_ag_ps {ad : Nat → Nat} {h : ab_H} {q : Nat} (hn : h.1 < ab_SB) : ∀ i, i < h.1 ∨ ab_SB ≤ i → va_up ad h.1 q i = ad i := fun i hi => if_neg (by omega)
def ab_NW (own : String) (index ci N : Nat) (fs : List Value) : Prop := ∃ (q : vw_C) (ty0 : Nat → FieldType), ab_cl[ci]? = some q ∧ q.2.2 = N ∧ (∀ w ∈ u_ws q.1 q.2.1 q.2.2, w ∈ ab_tb) ∧ (∀ j, j < q.2.2 → parseFieldDescriptor (q.2.1 j).2.2.1 = some (ty0 j)) ∧ Cond.classLink own index q.1 ∈ ab_tb ∧ Cond.instantiable q.1 q.2.2 ∈ ab_tb ∧ Cond.initialized q.1 ∈ ab_tb ∧ (∀ j, j < q.2.2 → defaultValue (ty0 j) = vp_V fs j)
def ab_nr (v : Value) : Bool := match v with
  | .ref _ => false
  | _ => true
theorem ab_nr_ok {n : Nat} {v : Value} (h : ab_nr v = true) : ab_ok n v := by cases v <;> first | trivial | cases h
theorem ab_nr_v {ad : Nat → Nat} {v : Value} (h : ab_nr v = true) : ab_v ad v = v := by cases v <;> first | rfl | cases h
/-- copies: System.arraycopy over int arrays, over long arrays -/
def ab_cpI (h : ab_H) (a0 : Nat) (sp : Int32) (a1 : Nat) (dp n : Int32) : Option ab_H := match h.2 a0, h.2 a1 with
  | .inl (k0, n0, .inl f), .inl (k1, n1, .inl g) => if a0 < h.1 ∧ a1 < h.1 ∧ k0 = 0 ∧ k1 = 0 ∧ ¬ sp < 0 ∧ ¬ dp < 0 ∧ ¬ n < 0 ∧ sp.toNatClampNeg + n.toNatClampNeg ≤ n0 ∧ dp.toNatClampNeg + n.toNatClampNeg ≤ n1 then some (ab_up h a1 (.inl (0, n1, .inl (va_cpy f g sp.toNatClampNeg dp.toNatClampNeg n.toNatClampNeg)))) else none
  | _, _ => none
def ab_cpL (h : ab_H) (a0 : Nat) (sp : Int32) (a1 : Nat) (dp n : Int32) : Option ab_H := match h.2 a0, h.2 a1 with
  | .inl (k0, n0, .inr (.inl f)), .inl (k1, n1, .inr (.inl g)) => if a0 < h.1 ∧ a1 < h.1 ∧ k0 = 1 ∧ k1 = 1 ∧ ¬ sp < 0 ∧ ¬ dp < 0 ∧ ¬ n < 0 ∧ sp.toNatClampNeg + n.toNatClampNeg ≤ n0 ∧ dp.toNatClampNeg + n.toNatClampNeg ≤ n1 then some (ab_up h a1 (.inl (1, n1, .inr (.inl (va_cpy f g sp.toNatClampNeg dp.toNatClampNeg n.toNatClampNeg))))) else none
  | _, _ => none
theorem ab_cpI_spec {h h' : ab_H} {a0 a1 : Nat} {sp dp n : Int32} (e : ab_cpI h a0 sp a1 dp n = some h') : a0 < h.1 ∧ a1 < h.1 ∧ ¬ sp < 0 ∧ ¬ dp < 0 ∧ ¬ n < 0 ∧ ∃ n0 n1 f g, h.2 a0 = .inl (0, n0, .inl f) ∧ h.2 a1 = .inl (0, n1, .inl g) ∧ sp.toNatClampNeg + n.toNatClampNeg ≤ n0 ∧ dp.toNatClampNeg + n.toNatClampNeg ≤ n1 ∧ h' = ab_up h a1 (.inl (0, n1, .inl (va_cpy f g sp.toNatClampNeg dp.toNatClampNeg n.toNatClampNeg))) := by
  unfold ab_cpI at e
  split at e
  · rename_i k0 n0 f k1 n1 g e0 e1
    split at e
    · rename_i c
      obtain ⟨c1, c2, rfl, rfl, c5, c6, c7, c8, c9⟩ := c
      cases e
      exact ⟨c1, c2, c5, c6, c7, n0, n1, f, g, e0, e1, c8, c9, rfl⟩
    · cases e
  · cases e
theorem ab_cpL_spec {h h' : ab_H} {a0 a1 : Nat} {sp dp n : Int32} (e : ab_cpL h a0 sp a1 dp n = some h') : a0 < h.1 ∧ a1 < h.1 ∧ ¬ sp < 0 ∧ ¬ dp < 0 ∧ ¬ n < 0 ∧ ∃ n0 n1 f g, h.2 a0 = .inl (1, n0, .inr (.inl f)) ∧ h.2 a1 = .inl (1, n1, .inr (.inl g)) ∧ sp.toNatClampNeg + n.toNatClampNeg ≤ n0 ∧ dp.toNatClampNeg + n.toNatClampNeg ≤ n1 ∧ h' = ab_up h a1 (.inl (1, n1, .inr (.inl (va_cpy f g sp.toNatClampNeg dp.toNatClampNeg n.toNatClampNeg)))) := by
  unfold ab_cpL at e
  split at e
  · rename_i k0 n0 f k1 n1 g e0 e1
    split at e
    · rename_i c
      obtain ⟨c1, c2, rfl, rfl, c5, c6, c7, c8, c9⟩ := c
      cases e
      exact ⟨c1, c2, c5, c6, c7, n0, n1, f, g, e0, e1, c8, c9, rfl⟩
    · cases e
  · cases e
/-- arrays of references -/
def ab_ra (h : ab_H) (a : Nat) (i : Int32) : Option Nat := match h.2 a with
  | .inl (k, n, .inr (.inr (.inr (.inr f)))) => if a < h.1 ∧ k = 3 ∧ ¬ (i < 0 ∨ n ≤ i.toNatClampNeg) then f i.toNatClampNeg else none
  | _ => none
def ab_rw (h : ab_H) (a : Nat) (i : Int32) (v : Nat) : Option ab_H := match h.2 a with
  | .inl (k, n, .inr (.inr (.inr (.inr f)))) => if a < h.1 ∧ k = 3 ∧ ¬ (i < 0 ∨ n ≤ i.toNatClampNeg) ∧ v < h.1 then some (ab_up h a (.inl (3, n, .inr (.inr (.inr (.inr (va_up f i.toNatClampNeg (some v)))))))) else none
  | _ => none
theorem ab_ra_spec {h : ab_H} {a : Nat} {i : Int32} {x : Nat} (e : ab_ra h a i = some x) : a < h.1 ∧ ∃ n f, h.2 a = .inl (3, n, .inr (.inr (.inr (.inr f)))) ∧ vp_in i n ∧ f i.toNatClampNeg = some x := by
  unfold ab_ra at e
  split at e
  · rename_i k n f hc
    split at e
    · rename_i h1
      obtain ⟨h1, rfl, h2⟩ := h1
      exact ⟨h1, n, f, hc, h2, e⟩
    · cases e
  · cases e
theorem ab_rw_spec {h h' : ab_H} {a v : Nat} {i : Int32} (e : ab_rw h a i v = some h') : a < h.1 ∧ v < h.1 ∧ ∃ n f, h.2 a = .inl (3, n, .inr (.inr (.inr (.inr f)))) ∧ vp_in i n ∧ h' = ab_up h a (.inl (3, n, .inr (.inr (.inr (.inr (va_up f i.toNatClampNeg (some v))))))) := by
  unfold ab_rw at e
  split at e
  · rename_i k n f hc
    split at e
    · rename_i h1
      obtain ⟨h1, rfl, h2, h3⟩ := h1
      cases e
      exact ⟨h1, h3, n, f, hc, h2, rfl⟩
    · cases e
  · cases e
theorem ab_neN {x : Int32} {n : Nat} (hn : n < 2 ^ 31) (g : ¬ x = nI n) : x.toInt ≠ (n : Int) := fun h => g (Int32.toInt_inj.mp (h.trans (nI_toInt hn).symm))
section MoreRules
variable {ρ : Type} {l : Launch} {M : ab_M} {io : ρ → ab_R × ab_H} {kc ks : Nat} {t : Option ρ} {pc : Nat} {lv lv' : List (Nat × Value)} {st : List Value} {h : ab_H}
theorem ab_new {ci index N : Nat} {fs : List Value} {u : ab_H → Option ρ} (hN : ab_NW M.1.cls index ci N fs) (hok : fs.all ab_nr = true) (hrc : kc + 1 ≤ M.2.2.2.2.cells) (hrs : ks + N ≤ M.2.2.2.2.slots) (hd : decode M.2.1 pc = .ok (.new index, 3)) (k : h.1 < ab_SB → ab_S l M io (kc + 1) (ks + N) (u (ab_ps h (.inr (ci, fs)))) (pc + 3) lv (.ref h.1 :: st) (ab_ps h (.inr (ci, fs)))) : ab_S l M io kc ks (ab_ck (h.1 < ab_SB) (u (ab_ps h (.inr (ci, fs))))) pc lv st h := by
  intro z hz p e s m args below meth c dC dI dA ad0 n0 A ad H locs ls C D hl hlo hst
  by_cases hn : h.1 < ab_SB
  · rw [ab_ck_pos hn] at hz
    obtain ⟨⟨q1, q2, q3⟩, ty0, b1, rfl, b3, b4, b5, b6, b7, b8⟩ := hN
    have hall : ∀ v ∈ fs, ab_nr v = true := List.all_eq_true.mp hok
    refine va_new (ci := ci) (fs := fs) C.2.1 C.2.2.1 C.2.2.2.2.2.2.1 b3 ty0 b4 C.2.2.2.2.2.1 (C.2.2.2.2.2.2.1 _ b5) (C.2.2.2.2.2.2.1 _ b6) (C.2.2.2.2.2.2.1 _ b7) C.2.2.2.2.2.2.2.2.2.2.1 D.1 D.2.1 D.2.2.1 C.2.2.2.2.2.2.2.2.2.2.2.1 b1 b8 hrc hrs hd (fun q H1 hP1 hD1 hS1 => ?_)
    have e1 : (Sum.inr (ci, fs) : va_E) = ab_e (va_up ad h.1 q) dA (.inr (ci, fs)) := by
      show _ = Sum.inr (ci, fs.map _)
      congr 2
      exact (List.map_id' fs).symm.trans (List.map_congr_left (fun v hv => (ab_nr_v (hall v hv)).symm))
    rw [e1] at hP1 hD1
    have hag := ab_ag_ps (ad := ad) (q := q) hn
    have D1 := ab_Wd_ps D hn (e := .inr (ci, fs)) (fun v hv => ab_nr_ok (hall v hv)) hP1 hD1 hS1
    have g := k hn z hz p e s m args below meth c dC dI dA ad0 n0 A (va_up ad h.1 q) H1 locs ls C D1 (by rw [ab_lv_agree hag hlo]; exact hl) (fun q hq => ab_ok_mono (Nat.le_succ _) (hlo q hq)) (ab_oc (Or.inl (Nat.lt_succ_self _)) (fun v hv => ab_ok_mono (Nat.le_succ _) (hst v hv)))
    have e2 : (Value.ref h.1 :: st).map (ab_v (va_up ad h.1 q)) = .ref q :: st.map (ab_v ad) := by
      rw [List.map_cons, ab_st_agree hag hst]
      simp [ab_v, va_up]
    rw [e2] at g
    exact g
  · rw [ab_ck, if_neg hn] at hz; cases hz
/-- a new array of numbers: kind kd (0 int, 1 long, 2 boolean), at most B places -/
theorem ab_newa {kd B : Nat} {at9 : ArrayType} {ty : FieldType} {x : (Nat → Int32) ⊕ (Nat → Int64)} {n : Int32} {u : ab_H → Option ρ} (hty : newarray.typeOf at9 = ty) (hkd : ∀ dA : Nat → ClassId, (ab_ty dA)[kd]? = some (dA kd, ty)) (hnm : ∀ (U : State) (c1 c2 : ClassId), va_RA U c1 ty → va_RA U c2 ty → c1 = c2) (hcell : ∀ (N' : Nat) (cA : ClassId), vp_cell cA (N', x.elim (fun f => .inl f) (fun f => .inr (.inl f))) = arrV cA N' (fun _ => defaultValue ty)) (hcb : componentBytes ty ≤ 8) (hB : B ≤ 10000000) (harr : Cond.arrayClass ty ∈ ab_tb) (hrc : kc + 1 ≤ M.2.2.2.2.cells) (hrs : ks + B ≤ M.2.2.2.2.slots) (hd : decode M.2.1 pc = .ok (.newarray at9, 2))
    (k : h.1 < ab_SB → ¬ n < 0 → n.toNatClampNeg ≤ B → ab_S l M io (kc + 1) (ks + B) (u (ab_ps h (.inl (kd, n.toNatClampNeg, x.elim (fun f => .inl f) (fun f => .inr (.inl f)))))) (pc + 2) lv (.ref h.1 :: st) (ab_ps h (.inl (kd, n.toNatClampNeg, x.elim (fun f => .inl f) (fun f => .inr (.inl f)))))) :
    ab_S l M io kc ks (ab_ck (h.1 < ab_SB ∧ ¬ n < 0 ∧ n.toNatClampNeg ≤ B) (u (ab_ps h (.inl (kd, n.toNatClampNeg, x.elim (fun f => .inl f) (fun f => .inr (.inl f))))))) pc lv (.int n :: st) h := by
  intro z hz p e s m args below meth c dC dI dA ad0 n0 A ad H locs ls C D hl hlo hst
  by_cases hc : h.1 < ab_SB ∧ ¬ n < 0 ∧ n.toNatClampNeg ≤ B
  · rw [ab_ck_pos hc] at hz
    obtain ⟨hn, hn0, hnB⟩ := hc
    subst hty
    have hb9 : n.toNatClampNeg * componentBytes (newarray.typeOf at9) ≤ 536870912 := by
      have := Nat.mul_le_mul hnB hcb
      omega
    refine va_newa (a0 := (n.toNatClampNeg, x.elim (fun f => .inl f) (fun f => .inr (.inl f)))) C.2.1 C.2.2.1 (C.2.2.2.2.2.2.1 _ harr) rfl C.2.2.2.2.2.2.2.2.2.2.1 D.1 D.2.1 D.2.2.1 C.2.2.2.2.2.2.2.2.2.2.2.1 (hcell _) hn0 rfl hb9 hrc (by omega) hd (fun q cA H1 hK1 hP1 hD1 hS1 => ?_)
    have hcA : cA = dA kd := by
      have k1 := (hK1.2 (ab_ty dA).length (cA, newarray.typeOf at9) (by rw [List.getElem?_append_right (Nat.le_refl _)]; simp)).2
      have k2 := (C.2.2.2.2.2.2.2.2.2.2.1.2 kd _ (hkd dA)).2
      exact hnm s _ _ k1 k2
    have e1 : (Sum.inl (cA, n.toNatClampNeg, x.elim (fun f => .inl f) (fun f => .inr (.inl f))) : va_E) = ab_e (va_up ad h.1 q) dA (.inl (kd, n.toNatClampNeg, x.elim (fun f => .inl f) (fun f => .inr (.inl f)))) := by
      rw [hcA]
      rcases x with f | f <;> rfl
    rw [e1] at hP1 hD1
    have hag := ab_ag_ps (ad := ad) (q := q) hn
    have D1 := ab_Wd_ps D hn (e := .inl (kd, n.toNatClampNeg, x.elim (fun f => .inl f) (fun f => .inr (.inl f)))) (by rcases x with f | f <;> trivial) hP1 hD1 hS1
    refine W.widen (k := kc + 1) (n := ks + B) (Nat.le_refl _) (by omega) ?_
    have hst := ab_ot hst
    have g := k hn hn0 hnB z hz p e s m args below meth c dC dI dA ad0 n0 A (va_up ad h.1 q) H1 locs ls C D1 (by rw [ab_lv_agree hag hlo]; exact hl) (fun q hq => ab_ok_mono (Nat.le_succ _) (hlo q hq)) (ab_oc (Or.inl (Nat.lt_succ_self _)) (fun v hv => ab_ok_mono (Nat.le_succ _) (hst v hv)))
    have e2 : (Value.ref h.1 :: st).map (ab_v (va_up ad h.1 q)) = .ref q :: st.map (ab_v ad) := by
      rw [List.map_cons, ab_st_agree hag hst]
      simp [ab_v, va_up]
    rw [e2] at g
    exact g
  · rw [ab_ck, if_neg hc] at hz; cases hz
theorem ab_copyI {a0 a1 index : Nat} {sp dp n : Int32} {u : ab_H → Option ρ} (hlk : Cond.methodLink M.1.cls index arraycopyName ∈ ab_tb) (hnat : Cond.native arraycopyName ∈ ab_tb) (hsta : Cond.static arraycopyName ∈ ab_tb) (hini : Cond.initialized "java/lang/System" ∈ ab_tb) (hfr : 1 ≤ M.2.2.2.2.frames) (hlo9 : (st.map fun v => v.category).sum + 18 ≤ M.2.2.2.2.locals) (hd : decode M.2.1 pc = .ok (.invokestatic index, 3)) (k : ∀ h', ab_cpI h a0 sp a1 dp n = some h' → ab_S l M io kc ks (u h') (pc + 3) lv st h') : ab_S l M io kc ks (ab_bd (ab_cpI h a0 sp a1 dp n) u) pc lv (.int n :: .int dp :: .ref a1 :: .int sp :: .ref a0 :: st) h := by
  intro z hz p e s m args below meth c dC dI dA ad0 n0 A ad H locs ls C D hl hlo hst
  cases hx : ab_cpI h a0 sp a1 dp n with
  | none => rw [hx] at hz; cases hz
  | some h' =>
    rw [hx, ab_bd_some] at hz
    have k := k h' hx
    obtain ⟨c1, c2, c3, c4, c5, m0, m1, f, g, e0, e1, c6, c7, rfl⟩ := ab_cpI_spec hx
    exact va_copyi (D := (dC, dI)) (f := f) (g := g) (c0 := dA 0) (c1 := dA 0) (n0 := m0) (n1 := m1) (ty := .int) C.2.1 C.2.2.1 (C.2.2.2.1.trans hl.1.symm) C.2.2.2.2.2.1 (C.2.2.2.2.2.2.1 _ hlk) (C.2.2.2.2.2.2.1 _ hnat) (C.2.2.2.2.2.2.1 _ hsta) (C.2.2.2.2.2.2.1 _ hini) C.2.2.2.2.2.2.2.2.2.2.1 D.1 D.2.1 D.2.2.1 a0 a1 0 0 (by rw [ab_w_get c1, e0]; rfl) (by rw [ab_w_get c2, e1]; rfl) rfl rfl rfl c3 c4 c5 c6 c7 (fun _ _ => rfl) hfr (by rw [ab_cats]; exact hlo9) hd (fun H1 locs1 hP1 hD1 hS1 => k z hz p e s m args below meth c dC dI dA ad0 n0 A ad H1 locs1 ls C (ab_Wd_set D trivial hP1 hD1 hS1) hl hlo (ab_ot (ab_ot (ab_ot (ab_ot (ab_ot hst))))))
theorem ab_copyL {a0 a1 index : Nat} {sp dp n : Int32} {u : ab_H → Option ρ} (hlk : Cond.methodLink M.1.cls index arraycopyName ∈ ab_tb) (hnat : Cond.native arraycopyName ∈ ab_tb) (hsta : Cond.static arraycopyName ∈ ab_tb) (hini : Cond.initialized "java/lang/System" ∈ ab_tb) (hfr : 1 ≤ M.2.2.2.2.frames) (hlo9 : (st.map fun v => v.category).sum + 18 ≤ M.2.2.2.2.locals) (hd : decode M.2.1 pc = .ok (.invokestatic index, 3)) (k : ∀ h', ab_cpL h a0 sp a1 dp n = some h' → ab_S l M io kc ks (u h') (pc + 3) lv st h') : ab_S l M io kc ks (ab_bd (ab_cpL h a0 sp a1 dp n) u) pc lv (.int n :: .int dp :: .ref a1 :: .int sp :: .ref a0 :: st) h := by
  intro z hz p e s m args below meth c dC dI dA ad0 n0 A ad H locs ls C D hl hlo hst
  cases hx : ab_cpL h a0 sp a1 dp n with
  | none => rw [hx] at hz; cases hz
  | some h' =>
    rw [hx, ab_bd_some] at hz
    have k := k h' hx
    obtain ⟨c1, c2, c3, c4, c5, m0, m1, f, g, e0, e1, c6, c7, rfl⟩ := ab_cpL_spec hx
    exact va_copyl (D := (dC, dI)) (f := f) (g := g) (c0 := dA 1) (c1 := dA 1) (n0 := m0) (n1 := m1) (ty := .long) C.2.1 C.2.2.1 (C.2.2.2.1.trans hl.1.symm) C.2.2.2.2.2.1 (C.2.2.2.2.2.2.1 _ hlk) (C.2.2.2.2.2.2.1 _ hnat) (C.2.2.2.2.2.2.1 _ hsta) (C.2.2.2.2.2.2.1 _ hini) C.2.2.2.2.2.2.2.2.2.2.1 D.1 D.2.1 D.2.2.1 a0 a1 1 1 (by rw [ab_w_get c1, e0]; rfl) (by rw [ab_w_get c2, e1]; rfl) rfl rfl rfl c3 c4 c5 c6 c7 (fun _ _ => rfl) hfr (by rw [ab_cats]; exact hlo9) hd (fun H1 locs1 hP1 hD1 hS1 => k z hz p e s m args below meth c dC dI dA ad0 n0 A ad H1 locs1 ls C (ab_Wd_set D trivial hP1 hD1 hS1) hl hlo (ab_ot (ab_ot (ab_ot (ab_ot (ab_ot hst))))))
theorem ab_aald {a : Nat} {i : Int32} {u : Nat → Option ρ} (hd : decode M.2.1 pc = .ok (.aaload, 1)) (k : ∀ x, ab_ra h a i = some x → ab_S l M io kc ks (u x) (pc + 1) lv (.ref x :: st) h) : ab_S l M io kc ks (ab_bd (ab_ra h a i) u) pc lv (.int i :: .ref a :: st) h := by
  intro z hz p e s m args below meth c dC dI dA ad0 n0 A ad H locs ls C D hl hlo hst
  cases hx : ab_ra h a i with
  | none => rw [hx] at hz; cases hz
  | some x =>
    rw [hx, ab_bd_some] at hz
    have k := k x hx
    obtain ⟨ha, n, f, hfs, hin, hfx⟩ := ab_ra_spec hx
    have hok : ab_ok h.1 (.ref x) := by
      have h9 := D.2.2.2.1.2 a ha
      rw [hfs] at h9
      exact Or.inl (h9 _ _ hfx)
    refine va_aldq (D := (dC, dI)) (f := fun j => (f j).map ad) (cA := dA 3) (n := n) (C := "HungFaces$State") C.2.1 C.2.2.1 C.2.2.2.2.2.2.2.2.2.2.1 D.1 a 3 (by rw [ab_w_get ha, hfs]; rfl) rfl hin hd ?_
    rw [hfx]
    exact k z hz p e s m args below meth c dC dI dA ad0 n0 A ad H locs ls C D hl hlo (ab_oc hok (ab_ot (ab_ot hst)))
theorem ab_aast {a v : Nat} {i : Int32} {ci : Nat} {u : ab_H → Option ρ} (hc : (ab_cl[ci]?).map (fun q => q.1) = some "HungFaces$State") (hd : decode M.2.1 pc = .ok (.aastore, 1)) (k : ∀ h', ab_rw h a i v = some h' → ab_S l M io kc ks (u h') (pc + 1) lv st h') : ab_S l M io kc ks (ab_ck (ab_io h v ci = true) (ab_bd (ab_rw h a i v) u)) pc lv (.ref v :: .int i :: .ref a :: st) h := by
  intro z hz p e s m args below meth c dC dI dA ad0 n0 A ad H locs ls C D hl hlo hst
  by_cases hio : ab_io h v ci = true
  · rw [ab_ck_pos hio] at hz
    obtain ⟨hv, vs, hvs⟩ := ab_io_spec hio
    cases hx : ab_rw h a i v with
    | none => rw [hx] at hz; cases hz
    | some h' =>
      rw [hx, ab_bd_some] at hz
      have k := k h' hx
      obtain ⟨ha, hv2, n, f, hfs, hin, rfl⟩ := ab_rw_spec hx
      obtain ⟨q, hq⟩ : ∃ q, ab_cl[ci]? = some q := by
        cases hq : ab_cl[ci]? with
        | none => rw [hq] at hc; cases hc
        | some q => exact ⟨q, rfl⟩
      have hCN : q.1 = "HungFaces$State" := by rw [hq] at hc; exact Option.some.inj hc
      have hoke : ab_oke h.1 (.inl (3, n, .inr (.inr (.inr (.inr (va_up f i.toNatClampNeg (some v))))))) := by
        intro j x hj
        unfold va_up at hj
        split at hj
        · cases hj; exact hv
        · have h9 := D.2.2.2.1.2 a ha
          rw [hfs] at h9
          exact h9 j x hj
      refine va_astq (D := (dC, dI)) (f := fun j => (f j).map ad) (cA := dA 3) (n := n) (r := q) (vs := vs.map (ab_v ad)) C.2.1 C.2.2.1 C.2.2.2.2.2.2.2.2.2.2.1 D.1 D.2.1 D.2.2.1 a 3 v ci (by rw [ab_w_get ha, hfs]; rfl) (by rw [hCN]; rfl) (by rw [ab_w_get hv, hvs]; rfl) hq hin hd (fun H1 locs1 hP1 hD1 hS1 => ?_)
      have e1 : (Sum.inl (dA 3, n, .inr (.inr (.inr (.inr (va_up (fun j => (f j).map ad) i.toNatClampNeg (some (ad v))))))) : va_E) = ab_e ad dA (.inl (3, n, .inr (.inr (.inr (.inr (va_up f i.toNatClampNeg (some v))))))) := by
        show _ = (Sum.inl (dA 3, n, .inr (.inr (.inr (.inr (fun j => (va_up f i.toNatClampNeg (some v) j).map ad))))) : va_E)
        have e2 : va_up (fun j => (f j).map ad) i.toNatClampNeg (some (ad v)) = fun j => (va_up f i.toNatClampNeg (some v) j).map ad := by
          funext j
          unfold va_up
          split <;> rfl
        rw [e2]
      rw [e1] at hP1 hD1
      exact k z hz p e s m args below meth c dC dI dA ad0 n0 A ad H1 locs1 ls C (ab_Wd_set D hoke hP1 hD1 hS1) hl hlo (ab_ot (ab_ot (ab_ot hst)))
  · rw [ab_ck, if_neg hio] at hz; cases hz
/-- a switch: a case, and what none takes -/
theorem ab_swC {x c9 : Int32} {dflt lo hi : Int} {offs : Array Int} {len : Nat} {off : Int} {tgt : Nat} {t1 t2 : Option ρ} [dc : Decidable (x = c9)] (hd : decode M.2.1 pc = .ok (.tableswitch dflt lo hi offs, len)) (h1 : ¬ c9.toInt < lo) (h2 : ¬ hi < c9.toInt) (ho : offs[(c9.toInt - lo).toNat]? = some off) (ht : (pc : Int) + off = (tgt : Int)) (k1 : x = c9 → ab_S l M io kc ks t1 tgt lv st h) (k2 : ¬ x = c9 → ab_S l M io kc ks t2 pc lv (.int x :: st) h) : ab_S l M io kc ks (if x = c9 then t1 else t2) pc lv (.int x :: st) h := by
  intro z hz p e s m args below meth c dC dI dA ad0 n0 A ad H locs ls C D hl hlo hst
  by_cases hx : x = c9
  · rw [if_pos hx] at hz
    have g1 := k1 hx
    subst hx
    exact lv_tableIn C.2.1 C.2.2.1 hd h1 h2 ho ht (g1 z hz p e s m args below meth c dC dI dA ad0 n0 A ad H locs ls C D hl hlo (ab_ot hst))
  · rw [if_neg hx] at hz
    exact k2 hx z hz p e s m args below meth c dC dI dA ad0 n0 A ad H locs ls C D hl hlo hst
theorem ab_swD {x : Int32} {dflt lo hi : Int} {offs : Array Int} {len tgt : Nat} (hd : decode M.2.1 pc = .ok (.tableswitch dflt lo hi offs, len)) (hx : x.toInt < lo ∨ hi < x.toInt) (ht : (pc : Int) + dflt = (tgt : Int)) (k : ab_S l M io kc ks t tgt lv st h) : ab_S l M io kc ks t pc lv (.int x :: st) h := by
  intro z hz p e s m args below meth c dC dI dA ad0 n0 A ad H locs ls C D hl hlo hst
  exact lv_tableOut C.2.1 C.2.2.1 hd hx ht (k z hz p e s m args below meth c dC dI dA ad0 n0 A ad H locs ls C D hl hlo (ab_ot hst))
/-- the constructor of another class, or of the class above; of a nest mate, where its link is one among nest mates -/
theorem ab_callI {M' : ab_M} {As : List Value} {a index n : Nat} {u : Option ab_H} {f : ab_H → Option ρ} (hI : ab_MI M' n) (hlk : Cond.methodLink M.1.cls index M'.1 ∈ ab_tb ∨ ∃ host, (M.1.cls, index, M'.1, host) ∈ ab_nm) (hin : Cond.instanceMethod M'.1 ∈ ab_tb) (hnm : M'.1.name = "<init>") (hrt : M'.2.2.2.1 = none) (hn : As.length = n) (hrm : ab_rmB M.2.2.2.2 M'.2.2.2.2 M'.2.2.1 = true) (hrc : ab_rmC M.2.2.2.2 M'.2.2.2.2 kc ks = true) (hW : (st.map fun v => v.category).sum ≤ 8) (hd : decode M.2.1 pc = .ok (.invokespecial index, 3))
    (hm : ∀ y, u = some y → ab_Met l M' (.ref a :: As) h (.inl none, y)) (k : ∀ y, u = some y → ab_S l M io (kc + M'.2.2.2.2.cells) (ks + M'.2.2.2.2.slots) (f y) (pc + 3) lv st y) :
    ab_S l M io kc ks (ab_bd u f) pc lv (As.reverse ++ .ref a :: st) h := by
  intro z hz p e s m args below meth c dC dI dA ad0 n0 A ad H locs ls C D hl hlo hst
  cases hu : u with
  | none => rw [hu] at hz; cases hz
  | some y =>
    rw [hu, ab_bd_some] at hz
    have hrs := ab_rmB_spec hrm
    have hcs := ab_rmC_spec hrc
    have hst1 : ∀ v ∈ st, ab_ok h.1 v := fun v hv => hst v (List.mem_append_right _ (List.mem_cons_of_mem _ hv))
    have hst2 : ∀ v ∈ Value.ref a :: As, ab_ok h.1 v := fun v hv => by
      rcases List.mem_cons.mp hv with hv | hv
      · exact hst v (List.mem_append_right _ (by rw [hv]; exact List.mem_cons_self))
      · exact hst v (List.mem_append_left _ (List.mem_reverse.mpr hv))
    have hpre := ab_pre (M' := M') C D hst2
    have hG := ab_good (M := M) hI.1
    have hts := C.2.2.2.2.2.2.1
    have hM := ab_toMet (v := none) rfl (hm y hu) dC dI dA ad H.size
    obtain ⟨y9, cc9, nL9, rt9, rm9⟩ := M'
    have hrt : rt9 = none := hrt
    subst hrt
    have hsig : ∀ sig, parseMethodDescriptor y9.desc = some sig → n = sig.parameters.length := fun sig h9 => by have h8 := hI.2.2.2.2; rw [h9] at h8; exact (Option.some.inj h8).symm
    rcases hlk with hlk | ⟨host, hlk⟩
    · have hr := va_runI (Ts := ab_tb) (As := As.map (ab_v ad)) (b := ad a) (rest := st.map (ab_v ad)) (n := n) (cells := kc) (slots := ks) (locs := locs) (e := e) (below := below) (meth := meth) (bytes := cc9) (maxL := nL9) (g := F0 m pc ls ((As.reverse ++ Value.ref a :: st).map (ab_v ad))) ⟨C.2.1, C.2.2.1, C.2.2.2.1, C.2.2.2.2.2.1, hts⟩ hM
        ⟨⟨rfl, rfl, hrs.1, hrs.2, pay_in hts hG, List.mem_cons_self, hts _ hI.1, hts _ hI.2.1, ⟨hI.2.2.1, hI.2.2.2.1⟩, hsig, hts _ hlk⟩, hnm, hts _ hin⟩
        hpre rfl (by rw [List.length_map]; exact hn) hl.1 (by show (As.reverse ++ Value.ref a :: st).map (ab_v ad) = _; rw [List.map_append, List.map_reverse]; rfl) (lv_room (by rw [ab_cats]; exact hW)) hd hcs
      refine ab_fin (M' := (y9, cc9, nL9, none, rm9)) (io' := fun y => (.inl none, y)) hz C D hl hlo hst1 hrc (ab_upRun hr) (fun v h' he => ?_) (fun E h' he => by cases he)
      cases he
      exact k y hu
    · have hr := va_runIN (Ts := ab_tb) (As := As.map (ab_v ad)) (b := ad a) (rest := st.map (ab_v ad)) (n := n) (cells := kc) (slots := ks) (locs := locs) (e := e) (below := below) (meth := meth) (bytes := cc9) (maxL := nL9) (host := host) (g := F0 m pc ls ((As.reverse ++ Value.ref a :: st).map (ab_v ad))) ⟨C.2.1, C.2.2.1, C.2.2.2.1, C.2.2.2.2.2.1, hts⟩ hM
        ⟨⟨⟨rfl, rfl, hrs.1, hrs.2, pay_in hts hG, List.mem_cons_self⟩, hts _ hI.1, hts _ hI.2.1, ⟨hI.2.2.1, hI.2.2.2.1⟩, hsig, va_Nw.use rfl (C.2.2.2.2.2.2.2.2.2.2.2.2.1 _ hlk)⟩, hnm, hts _ hin⟩
        hpre rfl (by rw [List.length_map]; exact hn) hl.1 (by show (As.reverse ++ Value.ref a :: st).map (ab_v ad) = _; rw [List.map_append, List.map_reverse]; rfl) (lv_room (by rw [ab_cats]; exact hW)) hd hcs
      refine ab_fin (M' := (y9, cc9, nL9, none, rm9)) (io' := fun y => (.inl none, y)) hz C D hl hlo hst1 hrc (ab_upRun hr) (fun v h' he => ?_) (fun E h' he => by cases he)
      cases he
      exact k y hu
/-- a static method of a nest mate -/
theorem ab_callNi {M' : ab_M} {As : List Value} {index n : Nat} {host : String} {u : Option Int32} {f : Int32 → Option ρ} (hI : ab_MI M' n) (hlk : (M.1.cls, index, M'.1, host) ∈ ab_nm) (hin : Cond.static M'.1 ∈ ab_tb) (h0 : M'.2.2.2.2.cells = 0) (h1 : M'.2.2.2.2.slots = 0) (hn : As.length = n) (hrm : ab_rmB M.2.2.2.2 M'.2.2.2.2 M'.2.2.1 = true) (hrc : ab_rmC M.2.2.2.2 M'.2.2.2.2 kc ks = true) (hW : (st.map fun v => v.category).sum ≤ 8) (hd : decode M.2.1 pc = .ok (.invokestatic index, 3))
    (hm : ∀ y, u = some y → ab_Met l M' As h (.inl (some (.int y)), h)) (k : ∀ y, u = some y → ab_S l M io kc ks (f y) (pc + 3) lv (.int y :: st) h) :
    ab_S l M io kc ks (ab_bd u f) pc lv (As.reverse ++ st) h := by
  intro z hz p e s m args below meth c dC dI dA ad0 n0 A ad H locs ls C D hl hlo hst
  cases hu : u with
  | none => rw [hu] at hz; cases hz
  | some y =>
    rw [hu, ab_bd_some] at hz
    have hrs := ab_rmB_spec hrm
    have hcs := ab_rmC_spec hrc
    have hst1 : ∀ v ∈ st, ab_ok h.1 v := fun v hv => hst v (List.mem_append_right _ hv)
    have hst2 : ∀ v ∈ As, ab_ok h.1 v := fun v hv => hst v (List.mem_append_left _ (List.mem_reverse.mpr hv))
    have hpre := ab_pre (M' := M') C D hst2
    have hG := ab_good (M := M) hI.1
    have hts := C.2.2.2.2.2.2.1
    have hM := ab_toMet (v := some (.int y)) rfl (hm y hu) dC dI dA ad H.size
    have hr := va_runSN (Ts := ab_tb) (As := As.map (ab_v ad)) (rest := st.map (ab_v ad)) (n := n) (cells := kc) (slots := ks) (locs := locs) (e := e) (below := below) (meth := meth) (host := host) (g := F0 m pc ls ((As.reverse ++ st).map (ab_v ad))) ⟨C.2.1, C.2.2.1, C.2.2.2.1, C.2.2.2.2.2.1, hts⟩ hM
      ⟨⟨⟨rfl, rfl, hrs.1, hrs.2, pay_in hts hG, List.mem_cons_self⟩, hts _ hI.1, hts _ hI.2.1, ⟨hI.2.2.1, hI.2.2.2.1⟩, fun sig h9 => (by have h8 := hI.2.2.2.2; rw [h9] at h8; exact (Option.some.inj h8).symm), va_Nw.use rfl (C.2.2.2.2.2.2.2.2.2.2.2.2.1 _ hlk)⟩, hts _ hin, trivial⟩
      hpre rfl (by rw [List.length_map]; exact hn) hl.1 (by show (As.reverse ++ st).map (ab_v ad) = _; rw [List.map_append, List.map_reverse]) (lv_room (by rw [ab_cats]; exact hW)) hd hcs
    refine ab_fin (M' := M') (io' := fun y => (.inl (some (.int y)), h)) hz C D hl hlo hst1 hrc (ab_upRun hr) (fun v h' he => ?_) (fun E h' he => by cases he)
    cases he
    rw [h0, h1]
    exact k y hu
end MoreRules
