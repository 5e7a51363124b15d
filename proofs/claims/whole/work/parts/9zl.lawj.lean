variable {Nq : Nat}
/-! ===== the judgement of the law's own frame (by program, gen_lawj.py) ===== -/
/-- the script: an outside cell, number ab_SB + 5000 -/
def al_X (L : Nat) (xs : Nat → Int32) (ad0 : Nat → Nat) (A : Nat → Prop) (args : Array Value) (s : State) : Prop := args = #[Value.ref (ad0 (ab_SB + 5000))] ∧ va_X (ad0 (ab_SB + 5000)) L xs s s.heap ∧ ad0 (ab_SB + 5000) < s.heap.size ∧ ¬ A (ad0 (ab_SB + 5000)) ∧ ∀ q, A q → s.heap.size ≤ q
def al_S (l : Launch) (M : ab_M) (L : Nat) (xs : Nat → Int32) (kc ks : Nat) (pc : Nat) (lv : List (Nat × Value)) (st : List Value) (h : ab_H) : Prop :=
  ∀ (p : Program) (e : Env) (s : State) (m : MethodId) (args : Array Value) (below : List Frame) (meth : Method) (c : Code) (dC : Nat → ClassId) (dI : Nat → Nat → Nat) (dA : Nat → ClassId) (ad0 : Nat → Nat) (n0 : Nat) (A : Nat → Prop) (ad : Nat → Nat) (H : Heap) (locs : List Loc) (ls : Array Slot),
    ab_Cx l M dC dI dA ad0 A p s m args meth c → al_X L xs ad0 A args s → ab_Wd dC dI dA ad0 n0 A ad h s.heap H locs → lv_has ls M.2.2.1 (lv.map (ab_lv ad)) → (∀ q ∈ lv, ab_ok h.1 q.2) → (∀ v ∈ st, ab_ok h.1 v) →
    W p l e M.2.2.2.2 s m args below meth c H locs kc ks (lw_Z below args s) (F0 m pc ls (st.map (ab_v ad)))
section LRules
variable {l : Launch} {M : ab_M} {L : Nat} {xs : Nat → Int32} {kc ks : Nat} {pc : Nat} {lv lv' : List (Nat × Value)} {st : List Value} {h : ab_H}
theorem al_iconst {n : Int} {v : Int32} (hd : decode M.2.1 pc = .ok (.iconst n, 1)) (hv : Int32.ofInt n = v) (k : al_S l M L xs kc ks (pc + 1) lv (.int v :: st) h) : al_S l M L xs kc ks pc lv st h := by
  intro p e s m args below meth c dC dI dA ad0 n0 A ad H locs ls C hX D hl hlo hst
  exact lv_iconst C.2.1 C.2.2.1 hd hv (k p e s m args below meth c dC dI dA ad0 n0 A ad H locs ls C hX D hl hlo (ab_oc trivial hst))
theorem al_bipush {n : Int} {v : Int32} (hd : decode M.2.1 pc = .ok (.bipush n, 2)) (hv : (Int8.ofInt n).toInt32 = v) (k : al_S l M L xs kc ks (pc + 2) lv (.int v :: st) h) : al_S l M L xs kc ks pc lv st h := by
  intro p e s m args below meth c dC dI dA ad0 n0 A ad H locs ls C hX D hl hlo hst
  exact lv_bipush C.2.1 C.2.2.1 hd hv (k p e s m args below meth c dC dI dA ad0 n0 A ad H locs ls C hX D hl hlo (ab_oc trivial hst))
theorem al_lconst {n : Fin 2} {v : Int64} (hd : decode M.2.1 pc = .ok (.lconst n, 1)) (hv : Int64.ofNat (n : Nat) = v) (k : al_S l M L xs kc ks (pc + 1) lv (.long v :: st) h) : al_S l M L xs kc ks pc lv st h := by
  intro p e s m args below meth c dC dI dA ad0 n0 A ad H locs ls C hX D hl hlo hst
  exact lv_lconst C.2.1 C.2.2.1 hd hv (k p e s m args below meth c dC dI dA ad0 n0 A ad H locs ls C hX D hl hlo (ab_oc trivial hst))
theorem al_iload {i j : Nat} {x : Int32} (hd : decode M.2.1 pc = .ok (.iload i, 2)) (hk : lv[j]? = some (i, .int x)) (k : al_S l M L xs kc ks (pc + 2) lv (.int x :: st) h) : al_S l M L xs kc ks pc lv st h := by
  intro p e s m args below meth c dC dI dA ad0 n0 A ad H locs ls C hX D hl hlo hst
  exact lv_iload C.2.1 C.2.2.1 hd (ab_lat hl hk) (k p e s m args below meth c dC dI dA ad0 n0 A ad H locs ls C hX D hl hlo (ab_oc (hlo _ (List.mem_of_getElem? hk)) hst))
theorem al_aload_n {n : Fin 4} {i j : Nat} {x : Nat} (hd : decode M.2.1 pc = .ok (.aload_n n, 1)) (hi : (n : Nat) = i) (hk : lv[j]? = some (i, .ref x)) (k : al_S l M L xs kc ks (pc + 1) lv (.ref x :: st) h) : al_S l M L xs kc ks pc lv st h := by
  intro p e s m args below meth c dC dI dA ad0 n0 A ad H locs ls C hX D hl hlo hst
  exact lv_aload_n C.2.1 C.2.2.1 hd hi (ab_lat hl hk) (k p e s m args below meth c dC dI dA ad0 n0 A ad H locs ls C hX D hl hlo (ab_oc (hlo _ (List.mem_of_getElem? hk)) hst))
theorem al_istore {i : Nat} {x : Int32} (hd : decode M.2.1 pc = .ok (.istore i, 2)) (hn : i < M.2.2.1) (hs : ab_srt lv = true) (hv : ab_stl i (.int x) lv = lv') (k : al_S l M L xs kc ks (pc + 2) lv' st h) : al_S l M L xs kc ks pc lv (.int x :: st) h := by
  intro p e s m args below meth c dC dI dA ad0 n0 A ad H locs ls C hX D hl hlo hst
  exact lv_istore C.2.1 C.2.2.1 hd hl hn rfl (fun ls' hl' => k p e s m args below meth c dC dI dA ad0 n0 A ad H locs ls' C hX D (ab_lhas (v := .int x) hs hv hl') (ab_lok hs hv (ab_oh hst) hlo) (ab_ot hst))
theorem al_astore_n {n : Fin 4} {i : Nat} {x : Nat} (hd : decode M.2.1 pc = .ok (.astore_n n, 1)) (hi : (n : Nat) = i) (hn : i < M.2.2.1) (hs : ab_srt lv = true) (hv : ab_stl i (.ref x) lv = lv') (k : al_S l M L xs kc ks (pc + 1) lv' st h) : al_S l M L xs kc ks pc lv (.ref x :: st) h := by
  intro p e s m args below meth c dC dI dA ad0 n0 A ad H locs ls C hX D hl hlo hst
  exact lv_astore_n C.2.1 C.2.2.1 hd hi hl hn rfl (fun ls' hl' => k p e s m args below meth c dC dI dA ad0 n0 A ad H locs ls' C hX D (ab_lhas (v := .ref x) hs hv hl') (ab_lok hs hv (ab_oh hst) hlo) (ab_ot hst))
theorem al_iinc {i j : Nat} {n : Int} {x d : Int32} (hd : decode M.2.1 pc = .ok (.iinc i n, 3)) (hj : lv[j]? = some (i, .int x)) (hdv : Int32.ofInt n = d) (hn : i < M.2.2.1) (hs : ab_srt lv = true) (hv : ab_stl i (.int (x + d)) lv = lv') (k : al_S l M L xs kc ks (pc + 3) lv' st h) : al_S l M L xs kc ks pc lv st h := by
  intro p e s m args below meth c dC dI dA ad0 n0 A ad H locs ls C hX D hl hlo hst
  exact lv_iinc C.2.1 C.2.2.1 hd hl (k := j) (by rw [List.getElem?_map, hj]; rfl) (by rw [hdv]) hn rfl (fun ls' hl' => k p e s m args below meth c dC dI dA ad0 n0 A ad H locs ls' C hX D (ab_lhas (v := .int (x + d)) hs hv hl') (ab_lok hs hv trivial hlo) hst)
theorem al_few (ks' : List Nat) (hv : ks'.filterMap (fun k => lv[k]?) = lv') (k : al_S l M L xs kc ks (pc) lv' st h) : al_S l M L xs kc ks pc lv st h := by
  intro p e s m args below meth c dC dI dA ad0 n0 A ad H locs ls C hX D hl hlo hst
  have hm : ∀ q ∈ lv', q ∈ lv := fun q hq => by
    rw [← hv] at hq
    obtain ⟨i, -, hi⟩ := List.mem_filterMap.mp hq
    exact List.mem_of_getElem? hi
  exact k p e s m args below meth c dC dI dA ad0 n0 A ad H locs ls C hX D ⟨hl.1, hl.2.1, fun q hq => hl.2.2 q (by obtain ⟨q0, h0, rfl⟩ := List.mem_map.mp hq; exact List.mem_map_of_mem (hm q0 h0))⟩ (fun q hq => hlo q (hm q hq)) hst
theorem al_iadd {x y : Int32} (hd : decode M.2.1 pc = .ok (.iadd, 1)) (k : al_S l M L xs kc ks (pc + 1) lv (.int (x + y) :: st) h) : al_S l M L xs kc ks pc lv (.int y :: .int x :: st) h := by
  intro p e s m args below meth c dC dI dA ad0 n0 A ad H locs ls C hX D hl hlo hst
  exact lv_iadd C.2.1 C.2.2.1 hd (k p e s m args below meth c dC dI dA ad0 n0 A ad H locs ls C hX D hl hlo (ab_oc trivial (ab_ot (ab_ot hst))))
theorem al_isub {x y : Int32} (hd : decode M.2.1 pc = .ok (.isub, 1)) (k : al_S l M L xs kc ks (pc + 1) lv (.int (x - y) :: st) h) : al_S l M L xs kc ks pc lv (.int y :: .int x :: st) h := by
  intro p e s m args below meth c dC dI dA ad0 n0 A ad H locs ls C hX D hl hlo hst
  exact lv_isub C.2.1 C.2.2.1 hd (k p e s m args below meth c dC dI dA ad0 n0 A ad H locs ls C hX D hl hlo (ab_oc trivial (ab_ot (ab_ot hst))))
theorem al_iand {x y : Int32} (hd : decode M.2.1 pc = .ok (.iand, 1)) (k : al_S l M L xs kc ks (pc + 1) lv (.int (x &&& y) :: st) h) : al_S l M L xs kc ks pc lv (.int y :: .int x :: st) h := by
  intro p e s m args below meth c dC dI dA ad0 n0 A ad H locs ls C hX D hl hlo hst
  exact lv_iand C.2.1 C.2.2.1 hd (k p e s m args below meth c dC dI dA ad0 n0 A ad H locs ls C hX D hl hlo (ab_oc trivial (ab_ot (ab_ot hst))))
theorem al_i2l {x : Int32} (hd : decode M.2.1 pc = .ok (.i2l, 1)) (k : al_S l M L xs kc ks (pc + 1) lv (.long (x.toInt64) :: st) h) : al_S l M L xs kc ks pc lv (.int x :: st) h := by
  intro p e s m args below meth c dC dI dA ad0 n0 A ad H locs ls C hX D hl hlo hst
  exact lv_i2l C.2.1 C.2.2.1 hd rfl (k p e s m args below meth c dC dI dA ad0 n0 A ad H locs ls C hX D hl hlo (ab_oc trivial (ab_ot hst)))
theorem al_dup {v : Value} (hd : decode M.2.1 pc = .ok (.dup, 1)) (hc : v.category = 1) (k : al_S l M L xs kc ks (pc + 1) lv (v :: v :: st) h) : al_S l M L xs kc ks pc lv (v :: st) h := by
  intro p e s m args below meth c dC dI dA ad0 n0 A ad H locs ls C hX D hl hlo hst
  exact lv_dup C.2.1 C.2.2.1 hd (by rw [ab_cat]; exact hc) (k p e s m args below meth c dC dI dA ad0 n0 A ad H locs ls C hX D hl hlo (ab_oc (ab_oh hst) hst))
theorem al_goto {off : Int} {tgt : Nat} (hd : decode M.2.1 pc = .ok (.goto off, 3)) (ht : (pc : Int) + off = (tgt : Int)) (k : al_S l M L xs kc ks (tgt) lv st h) : al_S l M L xs kc ks pc lv st h := by
  intro p e s m args below meth c dC dI dA ad0 n0 A ad H locs ls C hX D hl hlo hst
  exact lv_goto C.2.1 C.2.2.1 hd ht (k p e s m args below meth c dC dI dA ad0 n0 A ad H locs ls C hX D hl hlo hst)
theorem al_icmp_gt {x y : Int32} {off : Int} {tgt : Nat} (hd : decode M.2.1 pc = .ok (.if_icmp .gt off, 3)) (ht : (pc : Int) + off = (tgt : Int)) (k1 : x ≤ y → al_S l M L xs kc ks (pc + 3) lv st h) (k2 : ¬ x ≤ y → al_S l M L xs kc ks (tgt) lv st h) : al_S l M L xs kc ks pc lv (.int y :: .int x :: st) h := by
  intro p e s m args below meth c dC dI dA ad0 n0 A ad H locs ls C hX D hl hlo hst
  exact lv_icmp_gt C.2.1 C.2.2.1 hd ht (fun g => (k2 (Int32.not_le.mpr g) p e s m args below meth c dC dI dA ad0 n0 A ad H locs ls C hX D hl hlo (ab_ot (ab_ot hst)))) (fun g => (k1 (Int32.not_lt.mp g) p e s m args below meth c dC dI dA ad0 n0 A ad H locs ls C hX D hl hlo (ab_ot (ab_ot hst))))
theorem al_icmp_eq {x y : Int32} {off : Int} {tgt : Nat} (hd : decode M.2.1 pc = .ok (.if_icmp .eq off, 3)) (ht : (pc : Int) + off = (tgt : Int)) (k1 : x = y → al_S l M L xs kc ks (tgt) lv st h) (k2 : ¬ x = y → al_S l M L xs kc ks (pc + 3) lv st h) : al_S l M L xs kc ks pc lv (.int y :: .int x :: st) h := by
  intro p e s m args below meth c dC dI dA ad0 n0 A ad H locs ls C hX D hl hlo hst
  exact lv_icmp_eq C.2.1 C.2.2.1 hd ht (fun g => (k1 g p e s m args below meth c dC dI dA ad0 n0 A ad H locs ls C hX D hl hlo (ab_ot (ab_ot hst)))) (fun g => (k2 g p e s m args below meth c dC dI dA ad0 n0 A ad H locs ls C hX D hl hlo (ab_ot (ab_ot hst))))
theorem al_if_ne {x : Int32} {off : Int} {tgt : Nat} (hd : decode M.2.1 pc = .ok (.ifCond .ne off, 3)) (ht : (pc : Int) + off = (tgt : Int)) (k1 : x = 0 → al_S l M L xs kc ks (pc + 3) lv st h) (k2 : ¬ x = 0 → al_S l M L xs kc ks (tgt) lv st h) : al_S l M L xs kc ks pc lv (.int x :: st) h := by
  intro p e s m args below meth c dC dI dA ad0 n0 A ad H locs ls C hX D hl hlo hst
  exact lv_if_ne C.2.1 C.2.2.1 hd ht (fun g => (k2 g p e s m args below meth c dC dI dA ad0 n0 A ad H locs ls C hX D hl hlo (ab_ot hst))) (fun g => (k1 g p e s m args below meth c dC dI dA ad0 n0 A ad H locs ls C hX D hl hlo (ab_ot hst)))
theorem al_if_eq {x : Int32} {off : Int} {tgt : Nat} (hd : decode M.2.1 pc = .ok (.ifCond .eq off, 3)) (ht : (pc : Int) + off = (tgt : Int)) (k1 : x = 0 → al_S l M L xs kc ks (tgt) lv st h) (k2 : ¬ x = 0 → al_S l M L xs kc ks (pc + 3) lv st h) : al_S l M L xs kc ks pc lv (.int x :: st) h := by
  intro p e s m args below meth c dC dI dA ad0 n0 A ad H locs ls C hX D hl hlo hst
  exact lv_if_eq C.2.1 C.2.2.1 hd ht (fun g => (k1 g p e s m args below meth c dC dI dA ad0 n0 A ad H locs ls C hX D hl hlo (ab_ot hst))) (fun g => (k2 g p e s m args below meth c dC dI dA ad0 n0 A ad H locs ls C hX D hl hlo (ab_ot hst)))
theorem al_swC {x c9 : Int32} {dflt lo hi : Int} {offs : Array Int} {len : Nat} {off : Int} {tgt : Nat} (hd : decode M.2.1 pc = .ok (.tableswitch dflt lo hi offs, len)) (h1 : ¬ c9.toInt < lo) (h2 : ¬ hi < c9.toInt) (ho : offs[(c9.toInt - lo).toNat]? = some off) (ht : (pc : Int) + off = (tgt : Int)) (k1 : x = c9 → al_S l M L xs kc ks tgt lv st h) (k2 : ¬ x = c9 → al_S l M L xs kc ks pc lv (.int x :: st) h) : al_S l M L xs kc ks pc lv (.int x :: st) h := by
  intro p e s m args below meth c dC dI dA ad0 n0 A ad H locs ls C hX D hl hlo hst
  by_cases hx : x = c9
  · have g1 := k1 hx
    subst hx
    exact lv_tableIn C.2.1 C.2.2.1 hd h1 h2 ho ht (g1 p e s m args below meth c dC dI dA ad0 n0 A ad H locs ls C hX D hl hlo (ab_ot hst))
  · exact k2 hx p e s m args below meth c dC dI dA ad0 n0 A ad H locs ls C hX D hl hlo hst
theorem al_swD {x : Int32} {dflt lo hi : Int} {offs : Array Int} {len tgt : Nat} (hd : decode M.2.1 pc = .ok (.tableswitch dflt lo hi offs, len)) (hx : x.toInt < lo ∨ hi < x.toInt) (ht : (pc : Int) + dflt = (tgt : Int)) (k : al_S l M L xs kc ks tgt lv st h) : al_S l M L xs kc ks pc lv (.int x :: st) h := by
  intro p e s m args below meth c dC dI dA ad0 n0 A ad H locs ls C hX D hl hlo hst
  exact lv_tableOut C.2.1 C.2.2.1 hd hx ht (k p e s m args below meth c dC dI dA ad0 n0 A ad H locs ls C hX D hl hlo (ab_ot hst))
theorem al_wid {kc' ks' : Nat} (h1 : kc ≤ kc') (h2 : ks ≤ ks') (k : al_S l M L xs kc' ks' pc lv st h) : al_S l M L xs kc ks pc lv st h := by
  intro p e s m args below meth c dC dI dA ad0 n0 A ad H locs ls C hX D hl hlo hst
  exact W.widen h1 h2 (k p e s m args below meth c dC dI dA ad0 n0 A ad H locs ls C hX D hl hlo hst)
theorem al_ad {dC : Nat → ClassId} {dI : Nat → Nat → Nat} {dA : Nat → ClassId} {ad0 : Nat → Nat} {n0 : Nat} {A : Nat → Prop} {ad : Nat → Nat} {H0 H : Heap} {locs : List Loc} (D : ab_Wd dC dI dA ad0 n0 A ad h H0 H locs) : ad (ab_SB + 5000) = ad0 (ab_SB + 5000) := D.2.2.2.2.2 _ (Or.inr (Nat.le_add_right _ _))
theorem al_slen (hd : decode M.2.1 pc = .ok (.arraylength, 1)) (k : al_S l M L xs kc ks (pc + 1) lv (.int (Int32.ofNat L) :: st) h) : al_S l M L xs kc ks pc lv (.ref (ab_SB + 5000) :: st) h := by
  intro p e s m args below meth c dC dI dA ad0 n0 A ad H locs ls C hX D hl hlo hst
  have g := k p e s m args below meth c dC dI dA ad0 n0 A ad H locs ls C hX D hl hlo (ab_oc trivial (ab_ot hst))
  rw [show (Value.ref (ab_SB + 5000) :: st).map (ab_v ad) = .ref (ad0 (ab_SB + 5000)) :: st.map (ab_v ad) from congrArg (fun x => Value.ref x :: st.map (ab_v ad)) (al_ad D)]
  exact va_slen C.2.1 C.2.2.1 hX.2.1 hX.2.2.1 hX.2.2.2.1 D.2.2.1 hd g
theorem al_sld {i : Int32} (hin : vp_in i L) (hd : decode M.2.1 pc = .ok (.iaload, 1)) (k : al_S l M L xs kc ks (pc + 1) lv (.int (xs i.toNatClampNeg) :: st) h) : al_S l M L xs kc ks pc lv (.int i :: .ref (ab_SB + 5000) :: st) h := by
  intro p e s m args below meth c dC dI dA ad0 n0 A ad H locs ls C hX D hl hlo hst
  have g := k p e s m args below meth c dC dI dA ad0 n0 A ad H locs ls C hX D hl hlo (ab_oc trivial (ab_ot (ab_ot hst)))
  rw [show (Value.int i :: Value.ref (ab_SB + 5000) :: st).map (ab_v ad) = .int i :: .ref (ad0 (ab_SB + 5000)) :: st.map (ab_v ad) from congrArg (fun x => Value.int i :: Value.ref x :: st.map (ab_v ad)) (al_ad D)]
  exact va_sld C.2.1 C.2.2.1 hX.2.1 hX.2.2.1 hX.2.2.2.1 D.2.2.1 hin hd g
theorem al_lald {a : Nat} {i : Int32} {x : Int64} (hx : ab_la h a i = some x) (hd : decode M.2.1 pc = .ok (.laload, 1)) (k : al_S l M L xs kc ks (pc + 1) lv (.long x :: st) h) : al_S l M L xs kc ks pc lv (.int i :: .ref a :: st) h := by
  intro p e s m args below meth c dC dI dA ad0 n0 A ad H locs ls C hX D hl hlo hst
  obtain ⟨ha, n, f, hfs, hin, rfl⟩ := ab_la_spec hx
  exact va_lald (D := (dC, dI)) (f := f) C.2.1 C.2.2.1 C.2.2.2.2.2.2.2.2.2.2.1 D.1 a 1 (by rw [ab_w_get ha, hfs]; rfl) rfl hin hd (k p e s m args below meth c dC dI dA ad0 n0 A ad H locs ls C hX D hl hlo (ab_oc trivial (ab_ot (ab_ot hst))))
theorem al_new {ci index N : Nat} {fs : List Value} (hn : h.1 < ab_SB) (hN : ab_NW M.1.cls index ci N fs) (hok : fs.all ab_nr = true) (hrc : kc + 1 ≤ M.2.2.2.2.cells) (hrs : ks + N ≤ M.2.2.2.2.slots) (hd : decode M.2.1 pc = .ok (.new index, 3)) (k : al_S l M L xs (kc + 1) (ks + N) (pc + 3) lv (.ref h.1 :: st) (ab_ps h (.inr (ci, fs)))) : al_S l M L xs kc ks pc lv st h := by
  intro p e s m args below meth c dC dI dA ad0 n0 A ad H locs ls C hX D hl hlo hst
  obtain ⟨⟨q1, q2, q3⟩, ty0, b1, rfl, b3, b4, b5, b6, b7, b8⟩ := hN
  have hall : ∀ v ∈ fs, ab_nr v = true := List.all_eq_true.mp hok
  refine va_new (ci := ci) (fs := fs) C.2.1 C.2.2.1 C.2.2.2.2.2.2.1 b3 ty0 b4 C.2.2.2.2.2.1 (C.2.2.2.2.2.2.1 _ b5) (C.2.2.2.2.2.2.1 _ b6) (C.2.2.2.2.2.2.1 _ b7) C.2.2.2.2.2.2.2.2.2.2.1 D.1 D.2.1 D.2.2.1 C.2.2.2.2.2.2.2.2.2.2.2.1 b1 b8 hrc hrs hd (fun q H1 hP1 hD1 hS1 => ?_)
  have e1 : (Sum.inr (ci, fs) : va_E) = ab_e (va_up ad h.1 q) dA (.inr (ci, fs)) := by
    show _ = Sum.inr (ci, fs.map _)
    congr 2
    exact (List.map_id' fs).symm.trans (List.map_congr_left (fun v hv => (ab_nr_v (hall v hv)).symm))
  rw [e1] at hP1 hD1
  have hag := ab_ag_ps (ad := ad) (q := q) hn
  have D1 := ab_Wd_ps D hn (e := .inr (ci, fs)) (fun v hv => ab_nr_ok (hall v hv)) hP1 hD1 hS1
  have g := k p e s m args below meth c dC dI dA ad0 n0 A (va_up ad h.1 q) H1 locs ls C hX D1 (by rw [ab_lv_agree hag hlo]; exact hl) (fun q hq => ab_ok_mono (Nat.le_succ _) (hlo q hq)) (ab_oc (Or.inl (Nat.lt_succ_self _)) (fun v hv => ab_ok_mono (Nat.le_succ _) (hst v hv)))
  have e2 : (Value.ref h.1 :: st).map (ab_v (va_up ad h.1 q)) = .ref q :: st.map (ab_v ad) := by
    rw [List.map_cons, ab_st_agree hag hst]
    simp [ab_v, va_up]
  rw [e2] at g
  exact g
theorem al_newa {kd B : Nat} {at9 : ArrayType} {ty : FieldType} {x : (Nat → Int32) ⊕ (Nat → Int64)} {n : Int32} (hn : h.1 < ab_SB) (hn0 : ¬ n < 0) (hnB : n.toNatClampNeg ≤ B) (hty : newarray.typeOf at9 = ty) (hkd : ∀ dA : Nat → ClassId, (ab_ty dA)[kd]? = some (dA kd, ty)) (hnm : ∀ (U : State) (c1 c2 : ClassId), va_RA U c1 ty → va_RA U c2 ty → c1 = c2) (hcell : ∀ (N' : Nat) (cA : ClassId), vp_cell cA (N', x.elim (fun f => .inl f) (fun f => .inr (.inl f))) = arrV cA N' (fun _ => defaultValue ty)) (hcb : componentBytes ty ≤ 8) (hB : B ≤ 10000000) (harr : Cond.arrayClass ty ∈ ab_tb) (hrc : kc + 1 ≤ M.2.2.2.2.cells) (hrs : ks + B ≤ M.2.2.2.2.slots) (hd : decode M.2.1 pc = .ok (.newarray at9, 2))
    (k : al_S l M L xs (kc + 1) (ks + B) (pc + 2) lv (.ref h.1 :: st) (ab_ps h (.inl (kd, n.toNatClampNeg, x.elim (fun f => .inl f) (fun f => .inr (.inl f)))))) : al_S l M L xs kc ks pc lv (.int n :: st) h := by
  intro p e s m args below meth c dC dI dA ad0 n0 A ad H locs ls C hX D hl hlo hst
  subst hty
  have hb9 : n.toNatClampNeg * componentBytes (newarray.typeOf at9) ≤ 536870912 := by
    have := Nat.mul_le_mul hnB hcb
    omega
  refine va_newa (a0 := (n.toNatClampNeg, x.elim (fun f => .inl f) (fun f => .inr (.inl f)))) C.2.1 C.2.2.1 (C.2.2.2.2.2.2.1 _ harr) rfl C.2.2.2.2.2.2.2.2.2.2.1 D.1 D.2.1 D.2.2.1 C.2.2.2.2.2.2.2.2.2.2.2.1 (hcell _) hn0 rfl hb9 hrc (by omega) hd (fun q cA H1 hK1 hP1 hD1 hS1 => ?_)
  have hcA : cA = dA kd := by
    have k1 := (hK1.2 (ab_ty dA).length (cA, newarray.typeOf at9) (by rw [List.getElem?_append_right (Nat.le_refl _)]; simp)).2
    have k2 := (C.2.2.2.2.2.2.2.2.2.2.1.2 kd _ (hkd dA)).2
    exact hnm s _ _ k1 k2
  have e1 : (Sum.inl (cA, n.toNatClampNeg, x.elim (fun f => .inl f) (fun f => .inr (.inl f))) : va_E) = ab_e (va_up ad h.1 q) dA (.inl (kd, n.toNatClampNeg, x.elim (fun f => .inl f) (fun f => .inr (.inl f)))) := by
    rw [hcA]
    rcases x with f | f <;> rfl
  rw [e1] at hP1 hD1
  have hag := ab_ag_ps (ad := ad) (q := q) hn
  have D1 := ab_Wd_ps D hn (e := .inl (kd, n.toNatClampNeg, x.elim (fun f => .inl f) (fun f => .inr (.inl f)))) (by rcases x with f | f <;> trivial) hP1 hD1 hS1
  refine W.widen (k := kc + 1) (n := ks + B) (Nat.le_refl _) (by omega) ?_
  have hst := ab_ot hst
  have g := k p e s m args below meth c dC dI dA ad0 n0 A (va_up ad h.1 q) H1 locs ls C hX D1 (by rw [ab_lv_agree hag hlo]; exact hl) (fun q hq => ab_ok_mono (Nat.le_succ _) (hlo q hq)) (ab_oc (Or.inl (Nat.lt_succ_self _)) (fun v hv => ab_ok_mono (Nat.le_succ _) (hst v hv)))
  have e2 : (Value.ref h.1 :: st).map (ab_v (va_up ad h.1 q)) = .ref q :: st.map (ab_v ad) := by
    rw [List.map_cons, ab_st_agree hag hst]
    simp [ab_v, va_up]
  rw [e2] at g
  exact g
theorem al_fin {M' : ab_M} {v : Option Value} {h' : ab_H} {p : Program} {e : Env} {s : State} {m : MethodId} {args : Array Value} {below : List Frame} {meth : Method} {c : Code} {H : Heap} {locs : List Loc} {ls : Array Slot} {dC : Nat → ClassId} {dI : Nat → Nat → Nat} {dA : Nat → ClassId} {ad0 : Nat → Nat} {n0 : Nat} {A : Nat → Prop} {ad : Nat → Nat} {st0 : List Value} {a' : Array Value} (C : ab_Cx l M dC dI dA ad0 A p s m args meth c) (hX : al_X L xs ad0 A args s) (D : ab_Wd dC dI dA ad0 n0 A ad h s.heap H locs) (hl : lv_has ls M.2.2.1 (lv.map (ab_lv ad))) (hlo : ∀ q ∈ lv, ab_ok h.1 q.2) (hst : ∀ v ∈ st, ab_ok h.1 v)
    (hr : vx_Run p l e M.2.2.2.2 s m args below meth c H locs kc ks M'.2.2.2.2.cells M'.2.2.2.2.slots (F0 m pc ls st0) (st.map (ab_v ad)) (ab_Qc dC dI dA ad h.1 (va_A (ab_w ad dA h) H.size) (.inl v, h') a') (ab_Xc dC dI dA ad h.1 (va_A (ab_w ad dA h) H.size) (.inl v, h')) (va_A (ab_w ad dA h) H.size))
    (k : al_S l M L xs (kc + M'.2.2.2.2.cells) (ks + M'.2.2.2.2.slots) (pc + 3) lv (v.toList ++ st) h') :
    W p l e M.2.2.2.2 s m args below meth c H locs kc ks (lw_Z below args s) (F0 m pc ls st0) := by
  refine ab_run hr D C.2.2.2.2.2.2.2.2.2.2.2.1 (fun v1 ad1 H1 locs1 hr1 hok D1 hag hle => ?_) (fun E ce q9 ad1 H1 locs1 hrE D1 hce hcv hcl => by cases hrE)
  cases hr1
  have e1 : (v.map (ab_v ad1)).toList ++ st.map (ab_v ad) = (v.toList ++ st).map (ab_v ad1) := by
    rw [← ab_st_agree hag hst]
    cases v <;> rfl
  rw [e1]
  refine k p e s m args below meth c dC dI dA ad0 n0 A ad1 H1 locs1 ls C hX D1 (by rw [ab_lv_agree hag hlo]; exact hl) (fun q hq => ab_ok_mono hle (hlo q hq)) (fun w hw => ?_)
  rcases List.mem_append.mp hw with hw | hw
  · exact hok w (Option.mem_toList.mp hw)
  · exact ab_ok_mono hle (hst w hw)
theorem al_callV {M' : ab_M} {As : List Value} {a ci index n : Nat} {CN : String} {v : Option Value} {h' : ab_H} (hio : ab_io h a ci = true) (hc : (ab_cl[ci]?).map (fun q => q.1) = some CN) (hI : ab_MI M' n) (hlk : Cond.methodLink M.1.cls index M'.1 ∈ ab_tb) (hin : Cond.instanceMethod M'.1 ∈ ab_tb) (hse : Cond.selects CN M'.1 M'.1 ∈ ab_tb) (hn : As.length = n) (hrm : ab_rmB M.2.2.2.2 M'.2.2.2.2 M'.2.2.1 = true) (hrc : ab_rmC M.2.2.2.2 M'.2.2.2.2 kc ks = true) (hW : (st.map fun v => v.category).sum ≤ 8) (hd : decode M.2.1 pc = .ok (.invokevirtual index, 3))
    (hm : ab_Met l M' (.ref a :: As) h (.inl v, h')) (k : al_S l M L xs (kc + M'.2.2.2.2.cells) (ks + M'.2.2.2.2.slots) (pc + 3) lv (v.toList ++ st) h') : al_S l M L xs kc ks pc lv (As.reverse ++ .ref a :: st) h := by
  intro p e s m args below meth c dC dI dA ad0 n0 A ad H locs ls C hX D hl hlo hst
  obtain ⟨ha, fs, hfs⟩ := ab_io_spec hio
  have hrs := ab_rmB_spec hrm
  have hcs := ab_rmC_spec hrc
  have hst1 : ∀ v ∈ st, ab_ok h.1 v := fun v hv => hst v (List.mem_append_right _ (List.mem_cons_of_mem _ hv))
  have hst2 : ∀ v ∈ Value.ref a :: As, ab_ok h.1 v := fun v hv => by
    rcases List.mem_cons.mp hv with hv | hv
    · exact hst v (List.mem_append_right _ (by rw [hv]; exact List.mem_cons_self))
    · exact hst v (List.mem_append_left _ (List.mem_reverse.mpr hv))
  have hpre := ab_pre (M' := M') C D hst2
  have hG := ab_good (M := M) hI.1
  have hts := C.2.2.2.2.2.2.1
  obtain ⟨q, hq⟩ : ∃ q, ab_cl[ci]? = some q := by
    cases hq : ab_cl[ci]? with
    | none => rw [hq] at hc; cases hc
    | some q => exact ⟨q, rfl⟩
  have hCN : q.1 = CN := by rw [hq] at hc; exact Option.some.inj hc
  have hrv := va_recv C.2.2.2.2.2.2.2.2.2.2.1 D.1 (q0 := a) (a := ad a) (ci := ci) (fs := fs.map (ab_v ad)) hq (by rw [ab_w_get ha, hfs]; rfl)
  rw [hCN] at hrv
  have hr := vx_runV (Ts := ab_tb) (As := As.map (ab_v ad)) (b := ad a) (rest := st.map (ab_v ad)) (C := CN) (n := n) (cells := kc) (slots := ks) (locs := locs) (e := e) (below := below) (meth := meth) (g := F0 m pc ls ((As.reverse ++ Value.ref a :: st).map (ab_v ad))) ⟨C.2.1, C.2.2.1, C.2.2.2.1, C.2.2.2.2.2.1, hts⟩ (hm dC dI dA ad H.size)
    ⟨⟨rfl, rfl, hrs.1, hrs.2, pay_in hts hG, List.mem_cons_self, hts _ hI.1, hts _ hI.2.1, ⟨hI.2.2.1, hI.2.2.2.1⟩, fun sig h9 => by have h8 := hI.2.2.2.2; rw [h9] at h8; exact (Option.some.inj h8).symm, hts _ hlk⟩, hts _ hin, hts _ hse⟩
    ⟨hpre.1, hrv, hpre.2⟩ rfl (by rw [List.length_map]; exact hn) hl.1 (by show (As.reverse ++ Value.ref a :: st).map (ab_v ad) = _; rw [List.map_append, List.map_reverse]; rfl) (lv_room (by rw [ab_cats]; exact hW)) hd hcs
  exact al_fin C hX D hl hlo hst1 hr k
theorem al_callI {M' : ab_M} {As : List Value} {a index n : Nat} {y : ab_H} (hI : ab_MI M' n) (hlk : Cond.methodLink M.1.cls index M'.1 ∈ ab_tb) (hin : Cond.instanceMethod M'.1 ∈ ab_tb) (hnm : M'.1.name = "<init>") (hrt : M'.2.2.2.1 = none) (hn : As.length = n) (hrm : ab_rmB M.2.2.2.2 M'.2.2.2.2 M'.2.2.1 = true) (hrc : ab_rmC M.2.2.2.2 M'.2.2.2.2 kc ks = true) (hW : (st.map fun v => v.category).sum ≤ 8) (hd : decode M.2.1 pc = .ok (.invokespecial index, 3))
    (hm : ab_Met l M' (.ref a :: As) h (.inl none, y)) (k : al_S l M L xs (kc + M'.2.2.2.2.cells) (ks + M'.2.2.2.2.slots) (pc + 3) lv st y) : al_S l M L xs kc ks pc lv (As.reverse ++ .ref a :: st) h := by
  intro p e s m args below meth c dC dI dA ad0 n0 A ad H locs ls C hX D hl hlo hst
  have hrs := ab_rmB_spec hrm
  have hcs := ab_rmC_spec hrc
  have hst1 : ∀ v ∈ st, ab_ok h.1 v := fun v hv => hst v (List.mem_append_right _ (List.mem_cons_of_mem _ hv))
  have hst2 : ∀ v ∈ Value.ref a :: As, ab_ok h.1 v := fun v hv => by
    rcases List.mem_cons.mp hv with hv | hv
    · exact hst v (List.mem_append_right _ (by rw [hv]; exact List.mem_cons_self))
    · exact hst v (List.mem_append_left _ (List.mem_reverse.mpr hv))
  have hpre := ab_pre (M' := M') C D hst2
  have hG := ab_good (M := M) hI.1
  have hts := C.2.2.2.2.2.2.1
  have hM := ab_toMet (v := none) rfl hm dC dI dA ad H.size
  obtain ⟨y9, cc9, nL9, rt9, rm9⟩ := M'
  have hrt : rt9 = none := hrt
  subst hrt
  have hsig : ∀ sig, parseMethodDescriptor y9.desc = some sig → n = sig.parameters.length := fun sig h9 => by have h8 := hI.2.2.2.2; rw [h9] at h8; exact (Option.some.inj h8).symm
  have hr := va_runI (Ts := ab_tb) (As := As.map (ab_v ad)) (b := ad a) (rest := st.map (ab_v ad)) (n := n) (cells := kc) (slots := ks) (locs := locs) (e := e) (below := below) (meth := meth) (bytes := cc9) (maxL := nL9) (g := F0 m pc ls ((As.reverse ++ Value.ref a :: st).map (ab_v ad))) ⟨C.2.1, C.2.2.1, C.2.2.2.1, C.2.2.2.2.2.1, hts⟩ hM
    ⟨⟨rfl, rfl, hrs.1, hrs.2, pay_in hts hG, List.mem_cons_self, hts _ hI.1, hts _ hI.2.1, ⟨hI.2.2.1, hI.2.2.2.1⟩, hsig, hts _ hlk⟩, hnm, hts _ hin⟩
    hpre rfl (by rw [List.length_map]; exact hn) hl.1 (by show (As.reverse ++ Value.ref a :: st).map (ab_v ad) = _; rw [List.map_append, List.map_reverse]; rfl) (lv_room (by rw [ab_cats]; exact hW)) hd hcs
  exact al_fin (M' := (y9, cc9, nL9, none, rm9)) C hX D hl hlo hst1 (ab_upRun hr) k
theorem al_callSX {M' : ab_M} {hh : List (Nat × Nat × Nat × Nat)} {As : List Value} {index n : Nat} {v : Option Value} {h' : ab_H} (hI : ab_MIX M' hh n) (hlk : Cond.methodLink M.1.cls index M'.1 ∈ ab_tb) (hin : Cond.static M'.1 ∈ ab_tb) (hn : As.length = n) (hrm : ab_rmB M.2.2.2.2 M'.2.2.2.2 M'.2.2.1 = true) (hrc : ab_rmC M.2.2.2.2 M'.2.2.2.2 kc ks = true) (hW : (st.map fun v => v.category).sum ≤ 8) (hd : decode M.2.1 pc = .ok (.invokestatic index, 3))
    (hm : ab_MetX l M' hh As h (.inl v, h')) (k : al_S l M L xs (kc + M'.2.2.2.2.cells) (ks + M'.2.2.2.2.slots) (pc + 3) lv (v.toList ++ st) h') : al_S l M L xs kc ks pc lv (As.reverse ++ st) h := by
  intro p e s m args below meth c dC dI dA ad0 n0 A ad H locs ls C hX D hl hlo hst
  have hrs := ab_rmB_spec hrm
  have hcs := ab_rmC_spec hrc
  have hst1 : ∀ v ∈ st, ab_ok h.1 v := fun v hv => hst v (List.mem_append_right _ hv)
  have hst2 : ∀ v ∈ As, ab_ok h.1 v := fun v hv => hst v (List.mem_append_left _ (List.mem_reverse.mpr hv))
  have hpre := ab_pre (M' := M') C D hst2
  have hG := ab_goodX hI.1
  have hts := C.2.2.2.2.2.2.1
  have hr := vx_runSX (hh := hh) (Ts := ab_tb) (As := As.map (ab_v ad)) (rest := st.map (ab_v ad)) (n := n) (cells := kc) (slots := ks) (locs := locs) (e := e) (below := below) (meth := meth) (g := F0 m pc ls ((As.reverse ++ st).map (ab_v ad))) ⟨C.2.1, C.2.2.1, C.2.2.2.1, C.2.2.2.2.2.1, hts⟩ (hm dC dI dA ad H.size)
    ⟨⟨rfl, rfl, hrs.1, hrs.2, pay_in hts hG, List.mem_cons_self⟩, hts _ hI.1, hts _ hI.2.1, ⟨hI.2.2.1, hI.2.2.2.1⟩, fun sig h9 => by have h8 := hI.2.2.2.2; rw [h9] at h8; exact (Option.some.inj h8).symm, hts _ hlk, hts _ hin⟩
    hpre rfl (by rw [List.length_map]; exact hn) hl.1 (by show (As.reverse ++ st).map (ab_v ad) = _; rw [List.map_append, List.map_reverse]) (lv_room (by rw [ab_cats]; exact hW)) hd hcs
  exact al_fin C hX D hl hlo hst1 hr k
end LRules
