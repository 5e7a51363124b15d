/-! ===== the rules of the judgement, one an instruction (by program, gen_rules.py) ===== -/
theorem ab_oc {n : Nat} {v : Value} {st : List Value} (h : ab_ok n v) (hs : ∀ w ∈ st, ab_ok n w) : ∀ w ∈ v :: st, ab_ok n w := fun w hw => (List.mem_cons.mp hw).elim (fun e => e ▸ h) (hs w)
theorem ab_ot {n : Nat} {v : Value} {st : List Value} (hs : ∀ w ∈ v :: st, ab_ok n w) : ∀ w ∈ st, ab_ok n w := fun w hw => hs w (List.mem_cons_of_mem _ hw)
theorem ab_oh {n : Nat} {v : Value} {st : List Value} (hs : ∀ w ∈ v :: st, ab_ok n w) : ab_ok n v := hs v List.mem_cons_self
/-- go on with what an operation answers, if it answers -/
def ab_bd {α ρ : Type} (o : Option α) (f : α → Option ρ) : Option ρ := match o with
  | some x => f x
  | none => none
theorem ab_bd_some {α ρ : Type} {x : α} {f : α → Option ρ} : ab_bd (some x) f = f x := rfl
/-- go on if it is so -/
def ab_ck {ρ : Type} (c : Prop) [Decidable c] (t : Option ρ) : Option ρ := if c then t else none
theorem ab_ck_pos {ρ : Type} {c : Prop} [Decidable c] {t : Option ρ} (h : c) : ab_ck c t = t := if_pos h
def ab_stl (i : Nat) (v : Value) : List (Nat × Value) → List (Nat × Value)
  | [] => [(i, v)]
  | (j, w) :: r => if j < i then (if j + 1 = i ∧ w.category = 2 then ab_stl i v r else (j, w) :: ab_stl i v r) else if j = i then (i, v) :: r else (i, v) :: (j, w) :: r
theorem ab_stl_mem {i : Nat} {v : Value} : ∀ {lv : List (Nat × Value)} {q : Nat × Value}, List.Pairwise (fun a b => a.1 < b.1) lv → q ∈ ab_stl i v lv → q = (i, v) ∨ (q ∈ lv ∧ ¬ q.1 = i ∧ ¬ (q.1 + 1 = i ∧ q.2.category = 2))
  | [], q, _, h => Or.inl (List.mem_singleton.mp h)
  | (j, w) :: r, q, hp, h => by
    obtain ⟨hp1, hp2⟩ := List.pairwise_cons.mp hp
    unfold ab_stl at h
    by_cases h1 : j < i
    · rw [if_pos h1] at h
      by_cases h2 : j + 1 = i ∧ w.category = 2
      · rw [if_pos h2] at h
        rcases ab_stl_mem hp2 h with h | ⟨h3, h4⟩
        · exact Or.inl h
        · exact Or.inr ⟨List.mem_cons_of_mem _ h3, h4⟩
      · rw [if_neg h2] at h
        rcases List.mem_cons.mp h with h | h
        · subst h
          exact Or.inr ⟨List.mem_cons_self, Nat.ne_of_lt h1, h2⟩
        · rcases ab_stl_mem hp2 h with h | ⟨h3, h4⟩
          · exact Or.inl h
          · exact Or.inr ⟨List.mem_cons_of_mem _ h3, h4⟩
    · rw [if_neg h1] at h
      by_cases h2 : j = i
      · rw [if_pos h2] at h
        rcases List.mem_cons.mp h with h | h
        · exact Or.inl h
        · have h3 := hp1 q h
          have h3 : j < q.1 := h3
          exact Or.inr ⟨List.mem_cons_of_mem _ h, by omega, fun h4 => by omega⟩
      · rw [if_neg h2] at h
        rcases List.mem_cons.mp h with h | h
        · exact Or.inl h
        · have h3 : i < q.1 := by
            rcases List.mem_cons.mp h with h | h
            · subst h; show i < j; omega
            · have h3 : j < q.1 := hp1 q h
              omega
          exact Or.inr ⟨h, by omega, fun h4 => by omega⟩
def ab_srt : List (Nat × Value) → Bool
  | [] => true
  | (j, _) :: r => (match r with
    | [] => true
    | (i, _) :: _ => decide (j < i)) && ab_srt r
theorem ab_srt_pw : ∀ {lv : List (Nat × Value)}, ab_srt lv = true → List.Pairwise (fun a b => a.1 < b.1) lv
  | [], _ => List.Pairwise.nil
  | [(j, w)], _ => List.pairwise_cons.mpr ⟨(fun _ h => nomatch h), List.Pairwise.nil⟩
  | (j, w) :: (i, x) :: r, h => by
    unfold ab_srt at h
    simp only [Bool.and_eq_true, decide_eq_true_eq] at h
    have h2 := ab_srt_pw h.2
    refine List.pairwise_cons.mpr ⟨fun q hq => ?_, h2⟩
    rcases List.mem_cons.mp hq with hq | hq
    · subst hq; exact h.1
    · have h3 : i < q.1 := (List.pairwise_cons.mp h2).1 q hq
      show j < q.1
      omega
theorem ab_lhas {ls : Array Slot} {nL i : Nat} {v : Value} {ad : Nat → Nat} {lv lv' : List (Nat × Value)} (hs : ab_srt lv = true) (hl : ab_stl i v lv = lv') (h : lv_has ls nL ((i, ab_v ad v) :: (lv.map (ab_lv ad)).filter (fun q => !(q.1 == i) && !(q.1 + 1 == i && q.2.category == 2)))) : lv_has ls nL (lv'.map (ab_lv ad)) := by
  refine ⟨h.1, h.2.1, fun q hq => h.2.2 q ?_⟩
  obtain ⟨q0, h0, rfl⟩ := List.mem_map.mp hq
  rw [← hl] at h0
  rcases ab_stl_mem (ab_srt_pw hs) h0 with h1 | ⟨h1, h2, h3⟩
  · subst h1; exact List.mem_cons_self
  · refine List.mem_cons_of_mem _ (List.mem_filter.mpr ⟨List.mem_map_of_mem h1, ?_⟩)
    have e1 : (ab_lv ad q0).1 = q0.1 := rfl
    have e2 : (ab_lv ad q0).2.category = q0.2.category := ab_cat ad q0.2
    rw [e1, e2]
    simp only [Bool.and_eq_true, Bool.not_eq_true', beq_eq_false_iff_ne, ne_eq, Bool.and_eq_false_iff, beq_iff_eq]
    refine ⟨h2, ?_⟩
    by_cases h4 : q0.1 + 1 = i
    · right; intro h5; exact h3 ⟨h4, h5⟩
    · left; exact h4
theorem ab_lok {n i : Nat} {v : Value} {lv lv' : List (Nat × Value)} (hs : ab_srt lv = true) (hl : ab_stl i v lv = lv') (hv : ab_ok n v) (h : ∀ q ∈ lv, ab_ok n q.2) : ∀ q ∈ lv', ab_ok n q.2 := by
  intro q hq
  rw [← hl] at hq
  rcases ab_stl_mem (ab_srt_pw hs) hq with h1 | ⟨h1, -⟩
  · subst h1; exact hv
  · exact h q h1
theorem ab_lat {ls : Array Slot} {nL k i : Nat} {v : Value} {ad : Nat → Nat} {lv : List (Nat × Value)} (h : lv_has ls nL (lv.map (ab_lv ad))) (hk : lv[k]? = some (i, v)) : ls[i]? = some (.val (ab_v ad v)) := lv_at h k (by rw [List.getElem?_map, hk]; rfl)
/-- a shift to the right, by zeros; the rest of a division -/
def ab_us (x y : Int32) : Int32 := (x.toUInt32 >>> (y.toUInt32 &&& Int32.toUInt32 31)).toInt32
def ab_rm (x y : Int32) : Int32 := x - x / y * y
section Rules
variable {ρ : Type} {l : Launch} {M : ab_M} {io : ρ → ab_R × ab_H} {kc ks : Nat} {t : Option ρ} {pc : Nat} {lv lv' : List (Nat × Value)} {st : List Value} {h : ab_H}
theorem ab_none : ab_S l M io kc ks (none : Option ρ) pc lv st h := fun _ hz => by cases hz

theorem ab_iconst {n : Int} {v : Int32} (hd : decode M.2.1 pc = .ok (.iconst n, 1)) (hv : Int32.ofInt n = v) (k : ab_S l M io kc ks t (pc + 1) lv (.int v :: st) h) : ab_S l M io kc ks t pc lv st h := by
  intro z hz p e s m args below meth c dC dI dA ad0 n0 A ad H locs ls C D hl hlo hst
  exact lv_iconst C.2.1 C.2.2.1 hd hv (k z hz p e s m args below meth c dC dI dA ad0 n0 A ad H locs ls C D hl hlo (ab_oc trivial hst))
theorem ab_bipush {n : Int} {v : Int32} (hd : decode M.2.1 pc = .ok (.bipush n, 2)) (hv : (Int8.ofInt n).toInt32 = v) (k : ab_S l M io kc ks t (pc + 2) lv (.int v :: st) h) : ab_S l M io kc ks t pc lv st h := by
  intro z hz p e s m args below meth c dC dI dA ad0 n0 A ad H locs ls C D hl hlo hst
  exact lv_bipush C.2.1 C.2.2.1 hd hv (k z hz p e s m args below meth c dC dI dA ad0 n0 A ad H locs ls C D hl hlo (ab_oc trivial hst))
theorem ab_sipush {n : Int} {v : Int32} (hd : decode M.2.1 pc = .ok (.sipush n, 3)) (hv : (Int16.ofInt n).toInt32 = v) (k : ab_S l M io kc ks t (pc + 3) lv (.int v :: st) h) : ab_S l M io kc ks t pc lv st h := by
  intro z hz p e s m args below meth c dC dI dA ad0 n0 A ad H locs ls C D hl hlo hst
  exact lv_sipush C.2.1 C.2.2.1 hd hv (k z hz p e s m args below meth c dC dI dA ad0 n0 A ad H locs ls C D hl hlo (ab_oc trivial hst))
theorem ab_ldc {index : Nat} {v : Int32} (hd : decode M.2.1 pc = .ok (.ldc index, 2)) (hc : Cond.constant M.1.cls index v ∈ ab_tb) (k : ab_S l M io kc ks t (pc + 2) lv (.int v :: st) h) : ab_S l M io kc ks t pc lv st h := by
  intro z hz p e s m args below meth c dC dI dA ad0 n0 A ad H locs ls C D hl hlo hst
  exact lv_ldc C.2.1 C.2.2.1 C.2.2.2.2.2.1 (C.2.2.2.2.2.2.1 _ hc) hd (k z hz p e s m args below meth c dC dI dA ad0 n0 A ad H locs ls C D hl hlo (ab_oc trivial hst))
theorem ab_ldcw {index : Nat} {v : Int32} (hd : decode M.2.1 pc = .ok (.ldc_w index, 3)) (hc : Cond.constant M.1.cls index v ∈ ab_tb) (k : ab_S l M io kc ks t (pc + 3) lv (.int v :: st) h) : ab_S l M io kc ks t pc lv st h := by
  intro z hz p e s m args below meth c dC dI dA ad0 n0 A ad H locs ls C D hl hlo hst
  exact lv_ldcw C.2.1 C.2.2.1 C.2.2.2.2.2.1 (C.2.2.2.2.2.2.1 _ hc) hd (k z hz p e s m args below meth c dC dI dA ad0 n0 A ad H locs ls C D hl hlo (ab_oc trivial hst))
theorem ab_lconst {n : Fin 2} {v : Int64} (hd : decode M.2.1 pc = .ok (.lconst n, 1)) (hv : Int64.ofNat (n : Nat) = v) (k : ab_S l M io kc ks t (pc + 1) lv (.long v :: st) h) : ab_S l M io kc ks t pc lv st h := by
  intro z hz p e s m args below meth c dC dI dA ad0 n0 A ad H locs ls C D hl hlo hst
  exact lv_lconst C.2.1 C.2.2.1 hd hv (k z hz p e s m args below meth c dC dI dA ad0 n0 A ad H locs ls C D hl hlo (ab_oc trivial hst))
theorem ab_iload_n {n : Fin 4} {i j : Nat} {x : Int32} (hd : decode M.2.1 pc = .ok (.iload_n n, 1)) (hi : (n : Nat) = i) (hk : lv[j]? = some (i, .int x)) (k : ab_S l M io kc ks t (pc + 1) lv (.int x :: st) h) : ab_S l M io kc ks t pc lv st h := by
  intro z hz p e s m args below meth c dC dI dA ad0 n0 A ad H locs ls C D hl hlo hst
  exact lv_iload_n C.2.1 C.2.2.1 hd hi (ab_lat hl hk) (k z hz p e s m args below meth c dC dI dA ad0 n0 A ad H locs ls C D hl hlo (ab_oc (hlo _ (List.mem_of_getElem? hk)) hst))
theorem ab_iload {i j : Nat} {x : Int32} (hd : decode M.2.1 pc = .ok (.iload i, 2)) (hk : lv[j]? = some (i, .int x)) (k : ab_S l M io kc ks t (pc + 2) lv (.int x :: st) h) : ab_S l M io kc ks t pc lv st h := by
  intro z hz p e s m args below meth c dC dI dA ad0 n0 A ad H locs ls C D hl hlo hst
  exact lv_iload C.2.1 C.2.2.1 hd (ab_lat hl hk) (k z hz p e s m args below meth c dC dI dA ad0 n0 A ad H locs ls C D hl hlo (ab_oc (hlo _ (List.mem_of_getElem? hk)) hst))
theorem ab_aload_n {n : Fin 4} {i j : Nat} {x : Nat} (hd : decode M.2.1 pc = .ok (.aload_n n, 1)) (hi : (n : Nat) = i) (hk : lv[j]? = some (i, .ref x)) (k : ab_S l M io kc ks t (pc + 1) lv (.ref x :: st) h) : ab_S l M io kc ks t pc lv st h := by
  intro z hz p e s m args below meth c dC dI dA ad0 n0 A ad H locs ls C D hl hlo hst
  exact lv_aload_n C.2.1 C.2.2.1 hd hi (ab_lat hl hk) (k z hz p e s m args below meth c dC dI dA ad0 n0 A ad H locs ls C D hl hlo (ab_oc (hlo _ (List.mem_of_getElem? hk)) hst))
theorem ab_aload {i j : Nat} {x : Nat} (hd : decode M.2.1 pc = .ok (.aload i, 2)) (hk : lv[j]? = some (i, .ref x)) (k : ab_S l M io kc ks t (pc + 2) lv (.ref x :: st) h) : ab_S l M io kc ks t pc lv st h := by
  intro z hz p e s m args below meth c dC dI dA ad0 n0 A ad H locs ls C D hl hlo hst
  exact lv_aload C.2.1 C.2.2.1 hd (ab_lat hl hk) (k z hz p e s m args below meth c dC dI dA ad0 n0 A ad H locs ls C D hl hlo (ab_oc (hlo _ (List.mem_of_getElem? hk)) hst))
theorem ab_lload_n {n : Fin 4} {i j : Nat} {x : Int64} (hd : decode M.2.1 pc = .ok (.lload_n n, 1)) (hi : (n : Nat) = i) (hk : lv[j]? = some (i, .long x)) (k : ab_S l M io kc ks t (pc + 1) lv (.long x :: st) h) : ab_S l M io kc ks t pc lv st h := by
  intro z hz p e s m args below meth c dC dI dA ad0 n0 A ad H locs ls C D hl hlo hst
  exact lv_lload_n C.2.1 C.2.2.1 hd hi (ab_lat hl hk) (k z hz p e s m args below meth c dC dI dA ad0 n0 A ad H locs ls C D hl hlo (ab_oc (hlo _ (List.mem_of_getElem? hk)) hst))
theorem ab_istore_n {n : Fin 4} {i : Nat} {x : Int32} (hd : decode M.2.1 pc = .ok (.istore_n n, 1)) (hi : (n : Nat) = i) (hn : i < M.2.2.1) (hs : ab_srt lv = true) (hv : ab_stl i (.int x) lv = lv') (k : ab_S l M io kc ks t (pc + 1) lv' st h) : ab_S l M io kc ks t pc lv (.int x :: st) h := by
  intro z hz p e s m args below meth c dC dI dA ad0 n0 A ad H locs ls C D hl hlo hst
  exact lv_istore_n C.2.1 C.2.2.1 hd hi hl hn rfl (fun ls' hl' => k z hz p e s m args below meth c dC dI dA ad0 n0 A ad H locs ls' C D (ab_lhas (v := .int x) hs hv hl') (ab_lok hs hv (ab_oh hst) hlo) (ab_ot hst))
theorem ab_istore {i : Nat} {x : Int32} (hd : decode M.2.1 pc = .ok (.istore i, 2)) (hn : i < M.2.2.1) (hs : ab_srt lv = true) (hv : ab_stl i (.int x) lv = lv') (k : ab_S l M io kc ks t (pc + 2) lv' st h) : ab_S l M io kc ks t pc lv (.int x :: st) h := by
  intro z hz p e s m args below meth c dC dI dA ad0 n0 A ad H locs ls C D hl hlo hst
  exact lv_istore C.2.1 C.2.2.1 hd hl hn rfl (fun ls' hl' => k z hz p e s m args below meth c dC dI dA ad0 n0 A ad H locs ls' C D (ab_lhas (v := .int x) hs hv hl') (ab_lok hs hv (ab_oh hst) hlo) (ab_ot hst))
theorem ab_astore_n {n : Fin 4} {i : Nat} {x : Nat} (hd : decode M.2.1 pc = .ok (.astore_n n, 1)) (hi : (n : Nat) = i) (hn : i < M.2.2.1) (hs : ab_srt lv = true) (hv : ab_stl i (.ref x) lv = lv') (k : ab_S l M io kc ks t (pc + 1) lv' st h) : ab_S l M io kc ks t pc lv (.ref x :: st) h := by
  intro z hz p e s m args below meth c dC dI dA ad0 n0 A ad H locs ls C D hl hlo hst
  exact lv_astore_n C.2.1 C.2.2.1 hd hi hl hn rfl (fun ls' hl' => k z hz p e s m args below meth c dC dI dA ad0 n0 A ad H locs ls' C D (ab_lhas (v := .ref x) hs hv hl') (ab_lok hs hv (ab_oh hst) hlo) (ab_ot hst))
theorem ab_astore {i : Nat} {x : Nat} (hd : decode M.2.1 pc = .ok (.astore i, 2)) (hn : i < M.2.2.1) (hs : ab_srt lv = true) (hv : ab_stl i (.ref x) lv = lv') (k : ab_S l M io kc ks t (pc + 2) lv' st h) : ab_S l M io kc ks t pc lv (.ref x :: st) h := by
  intro z hz p e s m args below meth c dC dI dA ad0 n0 A ad H locs ls C D hl hlo hst
  exact lv_astore C.2.1 C.2.2.1 hd hl hn rfl (fun ls' hl' => k z hz p e s m args below meth c dC dI dA ad0 n0 A ad H locs ls' C D (ab_lhas (v := .ref x) hs hv hl') (ab_lok hs hv (ab_oh hst) hlo) (ab_ot hst))
theorem ab_iinc {i j : Nat} {n : Int} {x d : Int32} (hd : decode M.2.1 pc = .ok (.iinc i n, 3)) (hj : lv[j]? = some (i, .int x)) (hdv : Int32.ofInt n = d) (hn : i < M.2.2.1) (hs : ab_srt lv = true) (hv : ab_stl i (.int (x + d)) lv = lv') (k : ab_S l M io kc ks t (pc + 3) lv' st h) : ab_S l M io kc ks t pc lv st h := by
  intro z hz p e s m args below meth c dC dI dA ad0 n0 A ad H locs ls C D hl hlo hst
  exact lv_iinc C.2.1 C.2.2.1 hd hl (k := j) (by rw [List.getElem?_map, hj]; rfl) (by rw [hdv]) hn rfl (fun ls' hl' => k z hz p e s m args below meth c dC dI dA ad0 n0 A ad H locs ls' C D (ab_lhas (v := .int (x + d)) hs hv hl') (ab_lok hs hv trivial hlo) hst)
theorem ab_few (ks' : List Nat) (hv : ks'.filterMap (fun k => lv[k]?) = lv') (k : ab_S l M io kc ks t (pc) lv' st h) : ab_S l M io kc ks t pc lv st h := by
  intro z hz p e s m args below meth c dC dI dA ad0 n0 A ad H locs ls C D hl hlo hst
  have hm : ∀ q ∈ lv', q ∈ lv := fun q hq => by
    rw [← hv] at hq
    obtain ⟨i, -, hi⟩ := List.mem_filterMap.mp hq
    exact List.mem_of_getElem? hi
  exact k z hz p e s m args below meth c dC dI dA ad0 n0 A ad H locs ls C D ⟨hl.1, hl.2.1, fun q hq => hl.2.2 q (by obtain ⟨q0, h0, rfl⟩ := List.mem_map.mp hq; exact List.mem_map_of_mem (hm q0 h0))⟩ (fun q hq => hlo q (hm q hq)) hst
theorem ab_iadd {x y : Int32} (hd : decode M.2.1 pc = .ok (.iadd, 1)) (k : ab_S l M io kc ks t (pc + 1) lv (.int (x + y) :: st) h) : ab_S l M io kc ks t pc lv (.int y :: .int x :: st) h := by
  intro z hz p e s m args below meth c dC dI dA ad0 n0 A ad H locs ls C D hl hlo hst
  exact lv_iadd C.2.1 C.2.2.1 hd (k z hz p e s m args below meth c dC dI dA ad0 n0 A ad H locs ls C D hl hlo (ab_oc trivial (ab_ot (ab_ot hst))))
theorem ab_isub {x y : Int32} (hd : decode M.2.1 pc = .ok (.isub, 1)) (k : ab_S l M io kc ks t (pc + 1) lv (.int (x - y) :: st) h) : ab_S l M io kc ks t pc lv (.int y :: .int x :: st) h := by
  intro z hz p e s m args below meth c dC dI dA ad0 n0 A ad H locs ls C D hl hlo hst
  exact lv_isub C.2.1 C.2.2.1 hd (k z hz p e s m args below meth c dC dI dA ad0 n0 A ad H locs ls C D hl hlo (ab_oc trivial (ab_ot (ab_ot hst))))
theorem ab_imul {x y : Int32} (hd : decode M.2.1 pc = .ok (.imul, 1)) (k : ab_S l M io kc ks t (pc + 1) lv (.int (x * y) :: st) h) : ab_S l M io kc ks t pc lv (.int y :: .int x :: st) h := by
  intro z hz p e s m args below meth c dC dI dA ad0 n0 A ad H locs ls C D hl hlo hst
  exact lv_imul C.2.1 C.2.2.1 hd (k z hz p e s m args below meth c dC dI dA ad0 n0 A ad H locs ls C D hl hlo (ab_oc trivial (ab_ot (ab_ot hst))))
theorem ab_iand {x y : Int32} (hd : decode M.2.1 pc = .ok (.iand, 1)) (k : ab_S l M io kc ks t (pc + 1) lv (.int (x &&& y) :: st) h) : ab_S l M io kc ks t pc lv (.int y :: .int x :: st) h := by
  intro z hz p e s m args below meth c dC dI dA ad0 n0 A ad H locs ls C D hl hlo hst
  exact lv_iand C.2.1 C.2.2.1 hd (k z hz p e s m args below meth c dC dI dA ad0 n0 A ad H locs ls C D hl hlo (ab_oc trivial (ab_ot (ab_ot hst))))
theorem ab_ior {x y : Int32} (hd : decode M.2.1 pc = .ok (.ior, 1)) (k : ab_S l M io kc ks t (pc + 1) lv (.int (x ||| y) :: st) h) : ab_S l M io kc ks t pc lv (.int y :: .int x :: st) h := by
  intro z hz p e s m args below meth c dC dI dA ad0 n0 A ad H locs ls C D hl hlo hst
  exact lv_ior C.2.1 C.2.2.1 hd (k z hz p e s m args below meth c dC dI dA ad0 n0 A ad H locs ls C D hl hlo (ab_oc trivial (ab_ot (ab_ot hst))))
theorem ab_ixor {x y : Int32} (hd : decode M.2.1 pc = .ok (.ixor, 1)) (k : ab_S l M io kc ks t (pc + 1) lv (.int (x ^^^ y) :: st) h) : ab_S l M io kc ks t pc lv (.int y :: .int x :: st) h := by
  intro z hz p e s m args below meth c dC dI dA ad0 n0 A ad H locs ls C D hl hlo hst
  exact lv_ixor C.2.1 C.2.2.1 hd (k z hz p e s m args below meth c dC dI dA ad0 n0 A ad H locs ls C D hl hlo (ab_oc trivial (ab_ot (ab_ot hst))))
theorem ab_ishl {x y : Int32} (hd : decode M.2.1 pc = .ok (.ishl, 1)) (k : ab_S l M io kc ks t (pc + 1) lv (.int (x <<< (y &&& 31)) :: st) h) : ab_S l M io kc ks t pc lv (.int y :: .int x :: st) h := by
  intro z hz p e s m args below meth c dC dI dA ad0 n0 A ad H locs ls C D hl hlo hst
  exact lv_ishl C.2.1 C.2.2.1 hd (k z hz p e s m args below meth c dC dI dA ad0 n0 A ad H locs ls C D hl hlo (ab_oc trivial (ab_ot (ab_ot hst))))
theorem ab_ishr {x y : Int32} (hd : decode M.2.1 pc = .ok (.ishr, 1)) (k : ab_S l M io kc ks t (pc + 1) lv (.int (x >>> (y &&& 31)) :: st) h) : ab_S l M io kc ks t pc lv (.int y :: .int x :: st) h := by
  intro z hz p e s m args below meth c dC dI dA ad0 n0 A ad H locs ls C D hl hlo hst
  exact lv_ishr C.2.1 C.2.2.1 hd (k z hz p e s m args below meth c dC dI dA ad0 n0 A ad H locs ls C D hl hlo (ab_oc trivial (ab_ot (ab_ot hst))))
theorem ab_iushr {x y : Int32} (hd : decode M.2.1 pc = .ok (.iushr, 1)) (k : ab_S l M io kc ks t (pc + 1) lv (.int (ab_us x y) :: st) h) : ab_S l M io kc ks t pc lv (.int y :: .int x :: st) h := by
  intro z hz p e s m args below meth c dC dI dA ad0 n0 A ad H locs ls C D hl hlo hst
  exact lv_iushr C.2.1 C.2.2.1 hd rfl (k z hz p e s m args below meth c dC dI dA ad0 n0 A ad H locs ls C D hl hlo (ab_oc trivial (ab_ot (ab_ot hst))))
theorem ab_idiv {x y : Int32} (hd : decode M.2.1 pc = .ok (.idiv, 1)) (k : ¬ y = 0 → ab_S l M io kc ks t (pc + 1) lv (.int (x / y) :: st) h) : ab_S l M io kc ks (ab_ck (¬ y = 0) t) pc lv (.int y :: .int x :: st) h := by
  intro z hz p e s m args below meth c dC dI dA ad0 n0 A ad H locs ls C D hl hlo hst
  by_cases h0 : y = 0
  · rw [ab_ck, if_neg (fun g => g h0)] at hz; cases hz
  · rw [ab_ck_pos h0] at hz
    exact lv_idiv C.2.1 C.2.2.1 hd h0 (k h0 z hz p e s m args below meth c dC dI dA ad0 n0 A ad H locs ls C D hl hlo (ab_oc trivial (ab_ot (ab_ot hst))))
theorem ab_irem {x y : Int32} (hd : decode M.2.1 pc = .ok (.irem, 1)) (k : ¬ y = 0 → ab_S l M io kc ks t (pc + 1) lv (.int (ab_rm x y) :: st) h) : ab_S l M io kc ks (ab_ck (¬ y = 0) t) pc lv (.int y :: .int x :: st) h := by
  intro z hz p e s m args below meth c dC dI dA ad0 n0 A ad H locs ls C D hl hlo hst
  by_cases h0 : y = 0
  · rw [ab_ck, if_neg (fun g => g h0)] at hz; cases hz
  · rw [ab_ck_pos h0] at hz
    exact lv_irem C.2.1 C.2.2.1 hd h0 (k h0 z hz p e s m args below meth c dC dI dA ad0 n0 A ad H locs ls C D hl hlo (ab_oc trivial (ab_ot (ab_ot hst))))
theorem ab_ineg {x : Int32} (hd : decode M.2.1 pc = .ok (.ineg, 1)) (k : ab_S l M io kc ks t (pc + 1) lv (.int (-x) :: st) h) : ab_S l M io kc ks t pc lv (.int x :: st) h := by
  intro z hz p e s m args below meth c dC dI dA ad0 n0 A ad H locs ls C D hl hlo hst
  exact lv_ineg C.2.1 C.2.2.1 hd (k z hz p e s m args below meth c dC dI dA ad0 n0 A ad H locs ls C D hl hlo (ab_oc trivial (ab_ot hst)))
theorem ab_i2l {x : Int32} (hd : decode M.2.1 pc = .ok (.i2l, 1)) (k : ab_S l M io kc ks t (pc + 1) lv (.long (x.toInt64) :: st) h) : ab_S l M io kc ks t pc lv (.int x :: st) h := by
  intro z hz p e s m args below meth c dC dI dA ad0 n0 A ad H locs ls C D hl hlo hst
  exact lv_i2l C.2.1 C.2.2.1 hd rfl (k z hz p e s m args below meth c dC dI dA ad0 n0 A ad H locs ls C D hl hlo (ab_oc trivial (ab_ot hst)))
theorem ab_l2i {x : Int64} (hd : decode M.2.1 pc = .ok (.l2i, 1)) (k : ab_S l M io kc ks t (pc + 1) lv (.int (x.toInt32) :: st) h) : ab_S l M io kc ks t pc lv (.long x :: st) h := by
  intro z hz p e s m args below meth c dC dI dA ad0 n0 A ad H locs ls C D hl hlo hst
  exact lv_l2i C.2.1 C.2.2.1 hd rfl (k z hz p e s m args below meth c dC dI dA ad0 n0 A ad H locs ls C D hl hlo (ab_oc trivial (ab_ot hst)))
theorem ab_i2c {x : Int32} (hd : decode M.2.1 pc = .ok (.i2c, 1)) (k : ab_S l M io kc ks t (pc + 1) lv (.int ((x.toUInt32 % 65536).toInt32) :: st) h) : ab_S l M io kc ks t pc lv (.int x :: st) h := by
  intro z hz p e s m args below meth c dC dI dA ad0 n0 A ad H locs ls C D hl hlo hst
  exact lv_i2c C.2.1 C.2.2.1 hd rfl (k z hz p e s m args below meth c dC dI dA ad0 n0 A ad H locs ls C D hl hlo (ab_oc trivial (ab_ot hst)))
theorem ab_lor {x y : Int64} (hd : decode M.2.1 pc = .ok (.lor, 1)) (k : ab_S l M io kc ks t (pc + 1) lv (.long (x ||| y) :: st) h) : ab_S l M io kc ks t pc lv (.long y :: .long x :: st) h := by
  intro z hz p e s m args below meth c dC dI dA ad0 n0 A ad H locs ls C D hl hlo hst
  exact lv_lor C.2.1 C.2.2.1 hd (k z hz p e s m args below meth c dC dI dA ad0 n0 A ad H locs ls C D hl hlo (ab_oc trivial (ab_ot (ab_ot hst))))
theorem ab_lshl {x : Int64} {y : Int32} (hd : decode M.2.1 pc = .ok (.lshl, 1)) (k : ab_S l M io kc ks t (pc + 1) lv (.long (x <<< (y.toInt64 &&& 63)) :: st) h) : ab_S l M io kc ks t pc lv (.int y :: .long x :: st) h := by
  intro z hz p e s m args below meth c dC dI dA ad0 n0 A ad H locs ls C D hl hlo hst
  exact lv_lshl C.2.1 C.2.2.1 hd rfl (k z hz p e s m args below meth c dC dI dA ad0 n0 A ad H locs ls C D hl hlo (ab_oc trivial (ab_ot (ab_ot hst))))
theorem ab_lshr {x : Int64} {y : Int32} (hd : decode M.2.1 pc = .ok (.lshr, 1)) (k : ab_S l M io kc ks t (pc + 1) lv (.long (x >>> (y.toInt64 &&& 63)) :: st) h) : ab_S l M io kc ks t pc lv (.int y :: .long x :: st) h := by
  intro z hz p e s m args below meth c dC dI dA ad0 n0 A ad H locs ls C D hl hlo hst
  exact lv_lshr C.2.1 C.2.2.1 hd rfl (k z hz p e s m args below meth c dC dI dA ad0 n0 A ad H locs ls C D hl hlo (ab_oc trivial (ab_ot (ab_ot hst))))
theorem ab_dup {v : Value} (hd : decode M.2.1 pc = .ok (.dup, 1)) (hc : v.category = 1) (k : ab_S l M io kc ks t (pc + 1) lv (v :: v :: st) h) : ab_S l M io kc ks t pc lv (v :: st) h := by
  intro z hz p e s m args below meth c dC dI dA ad0 n0 A ad H locs ls C D hl hlo hst
  exact lv_dup C.2.1 C.2.2.1 hd (by rw [ab_cat]; exact hc) (k z hz p e s m args below meth c dC dI dA ad0 n0 A ad H locs ls C D hl hlo (ab_oc (ab_oh hst) hst))
theorem ab_pop {v : Value} (hd : decode M.2.1 pc = .ok (.pop, 1)) (hc : v.category = 1) (k : ab_S l M io kc ks t (pc + 1) lv st h) : ab_S l M io kc ks t pc lv (v :: st) h := by
  intro z hz p e s m args below meth c dC dI dA ad0 n0 A ad H locs ls C D hl hlo hst
  exact lv_pop C.2.1 C.2.2.1 hd (by rw [ab_cat]; exact hc) (k z hz p e s m args below meth c dC dI dA ad0 n0 A ad H locs ls C D hl hlo (ab_ot hst))
theorem ab_dup2 {v w : Value} (hd : decode M.2.1 pc = .ok (.dup2, 1)) (hc : v.category = 1) (hc2 : w.category = 1) (k : ab_S l M io kc ks t (pc + 1) lv (v :: w :: v :: w :: st) h) : ab_S l M io kc ks t pc lv (v :: w :: st) h := by
  intro z hz p e s m args below meth c dC dI dA ad0 n0 A ad H locs ls C D hl hlo hst
  exact lv_dup2_11 C.2.1 C.2.2.1 hd (by rw [ab_cat]; exact hc) (by rw [ab_cat]; exact hc2) (k z hz p e s m args below meth c dC dI dA ad0 n0 A ad H locs ls C D hl hlo (ab_oc (ab_oh hst) (ab_oc (ab_oh (ab_ot hst)) hst)))
theorem ab_goto {off : Int} {tgt : Nat} (hd : decode M.2.1 pc = .ok (.goto off, 3)) (ht : (pc : Int) + off = (tgt : Int)) (k : ab_S l M io kc ks t (tgt) lv st h) : ab_S l M io kc ks t pc lv st h := by
  intro z hz p e s m args below meth c dC dI dA ad0 n0 A ad H locs ls C D hl hlo hst
  exact lv_goto C.2.1 C.2.2.1 hd ht (k z hz p e s m args below meth c dC dI dA ad0 n0 A ad H locs ls C D hl hlo hst)
theorem ab_icmp_lt {x y : Int32} {off : Int} {tgt : Nat} {t1 t2 : Option ρ} [dc : Decidable (x < y)] (hd : decode M.2.1 pc = .ok (.if_icmp .lt off, 3)) (ht : (pc : Int) + off = (tgt : Int)) (k1 : x < y → ab_S l M io kc ks t1 (tgt) lv st h) (k2 : ¬ x < y → ab_S l M io kc ks t2 (pc + 3) lv st h) : ab_S l M io kc ks (if x < y then t1 else t2) pc lv (.int y :: .int x :: st) h := by
  intro z hz p e s m args below meth c dC dI dA ad0 n0 A ad H locs ls C D hl hlo hst
  exact lv_icmp_lt C.2.1 C.2.2.1 hd ht (fun g => (k1 g z (by rw [if_pos g] at hz; exact hz) p e s m args below meth c dC dI dA ad0 n0 A ad H locs ls C D hl hlo (ab_ot (ab_ot hst)))) (fun g => (k2 g z (by rw [if_neg g] at hz; exact hz) p e s m args below meth c dC dI dA ad0 n0 A ad H locs ls C D hl hlo (ab_ot (ab_ot hst))))
theorem ab_icmp_le {x y : Int32} {off : Int} {tgt : Nat} {t1 t2 : Option ρ} [dc : Decidable (x ≤ y)] (hd : decode M.2.1 pc = .ok (.if_icmp .le off, 3)) (ht : (pc : Int) + off = (tgt : Int)) (k1 : x ≤ y → ab_S l M io kc ks t1 (tgt) lv st h) (k2 : ¬ x ≤ y → ab_S l M io kc ks t2 (pc + 3) lv st h) : ab_S l M io kc ks (if x ≤ y then t1 else t2) pc lv (.int y :: .int x :: st) h := by
  intro z hz p e s m args below meth c dC dI dA ad0 n0 A ad H locs ls C D hl hlo hst
  exact lv_icmp_le C.2.1 C.2.2.1 hd ht (fun g => (k1 g z (by rw [if_pos g] at hz; exact hz) p e s m args below meth c dC dI dA ad0 n0 A ad H locs ls C D hl hlo (ab_ot (ab_ot hst)))) (fun g => (k2 g z (by rw [if_neg g] at hz; exact hz) p e s m args below meth c dC dI dA ad0 n0 A ad H locs ls C D hl hlo (ab_ot (ab_ot hst))))
theorem ab_icmp_eq {x y : Int32} {off : Int} {tgt : Nat} {t1 t2 : Option ρ} [dc : Decidable (x = y)] (hd : decode M.2.1 pc = .ok (.if_icmp .eq off, 3)) (ht : (pc : Int) + off = (tgt : Int)) (k1 : x = y → ab_S l M io kc ks t1 (tgt) lv st h) (k2 : ¬ x = y → ab_S l M io kc ks t2 (pc + 3) lv st h) : ab_S l M io kc ks (if x = y then t1 else t2) pc lv (.int y :: .int x :: st) h := by
  intro z hz p e s m args below meth c dC dI dA ad0 n0 A ad H locs ls C D hl hlo hst
  exact lv_icmp_eq C.2.1 C.2.2.1 hd ht (fun g => (k1 g z (by rw [if_pos g] at hz; exact hz) p e s m args below meth c dC dI dA ad0 n0 A ad H locs ls C D hl hlo (ab_ot (ab_ot hst)))) (fun g => (k2 g z (by rw [if_neg g] at hz; exact hz) p e s m args below meth c dC dI dA ad0 n0 A ad H locs ls C D hl hlo (ab_ot (ab_ot hst))))
theorem ab_icmp_ne {x y : Int32} {off : Int} {tgt : Nat} {t1 t2 : Option ρ} [dc : Decidable (x = y)] (hd : decode M.2.1 pc = .ok (.if_icmp .ne off, 3)) (ht : (pc : Int) + off = (tgt : Int)) (k1 : x = y → ab_S l M io kc ks t1 (pc + 3) lv st h) (k2 : ¬ x = y → ab_S l M io kc ks t2 (tgt) lv st h) : ab_S l M io kc ks (if x = y then t1 else t2) pc lv (.int y :: .int x :: st) h := by
  intro z hz p e s m args below meth c dC dI dA ad0 n0 A ad H locs ls C D hl hlo hst
  exact lv_icmp_ne C.2.1 C.2.2.1 hd ht (fun g => (k2 g z (by rw [if_neg g] at hz; exact hz) p e s m args below meth c dC dI dA ad0 n0 A ad H locs ls C D hl hlo (ab_ot (ab_ot hst)))) (fun g => (k1 g z (by rw [if_pos g] at hz; exact hz) p e s m args below meth c dC dI dA ad0 n0 A ad H locs ls C D hl hlo (ab_ot (ab_ot hst))))
theorem ab_if_lt {x : Int32} {off : Int} {tgt : Nat} {t1 t2 : Option ρ} [dc : Decidable (x < 0)] (hd : decode M.2.1 pc = .ok (.ifCond .lt off, 3)) (ht : (pc : Int) + off = (tgt : Int)) (k1 : x < 0 → ab_S l M io kc ks t1 (tgt) lv st h) (k2 : ¬ x < 0 → ab_S l M io kc ks t2 (pc + 3) lv st h) : ab_S l M io kc ks (if x < 0 then t1 else t2) pc lv (.int x :: st) h := by
  intro z hz p e s m args below meth c dC dI dA ad0 n0 A ad H locs ls C D hl hlo hst
  exact lv_if_lt C.2.1 C.2.2.1 hd ht (fun g => (k1 g z (by rw [if_pos g] at hz; exact hz) p e s m args below meth c dC dI dA ad0 n0 A ad H locs ls C D hl hlo (ab_ot hst))) (fun g => (k2 g z (by rw [if_neg g] at hz; exact hz) p e s m args below meth c dC dI dA ad0 n0 A ad H locs ls C D hl hlo (ab_ot hst)))
theorem ab_if_le {x : Int32} {off : Int} {tgt : Nat} {t1 t2 : Option ρ} [dc : Decidable (x ≤ 0)] (hd : decode M.2.1 pc = .ok (.ifCond .le off, 3)) (ht : (pc : Int) + off = (tgt : Int)) (k1 : x ≤ 0 → ab_S l M io kc ks t1 (tgt) lv st h) (k2 : ¬ x ≤ 0 → ab_S l M io kc ks t2 (pc + 3) lv st h) : ab_S l M io kc ks (if x ≤ 0 then t1 else t2) pc lv (.int x :: st) h := by
  intro z hz p e s m args below meth c dC dI dA ad0 n0 A ad H locs ls C D hl hlo hst
  exact lv_if_le C.2.1 C.2.2.1 hd ht (fun g => (k1 g z (by rw [if_pos g] at hz; exact hz) p e s m args below meth c dC dI dA ad0 n0 A ad H locs ls C D hl hlo (ab_ot hst))) (fun g => (k2 g z (by rw [if_neg g] at hz; exact hz) p e s m args below meth c dC dI dA ad0 n0 A ad H locs ls C D hl hlo (ab_ot hst)))
theorem ab_if_eq {x : Int32} {off : Int} {tgt : Nat} {t1 t2 : Option ρ} [dc : Decidable (x = 0)] (hd : decode M.2.1 pc = .ok (.ifCond .eq off, 3)) (ht : (pc : Int) + off = (tgt : Int)) (k1 : x = 0 → ab_S l M io kc ks t1 (tgt) lv st h) (k2 : ¬ x = 0 → ab_S l M io kc ks t2 (pc + 3) lv st h) : ab_S l M io kc ks (if x = 0 then t1 else t2) pc lv (.int x :: st) h := by
  intro z hz p e s m args below meth c dC dI dA ad0 n0 A ad H locs ls C D hl hlo hst
  exact lv_if_eq C.2.1 C.2.2.1 hd ht (fun g => (k1 g z (by rw [if_pos g] at hz; exact hz) p e s m args below meth c dC dI dA ad0 n0 A ad H locs ls C D hl hlo (ab_ot hst))) (fun g => (k2 g z (by rw [if_neg g] at hz; exact hz) p e s m args below meth c dC dI dA ad0 n0 A ad H locs ls C D hl hlo (ab_ot hst)))
theorem ab_if_ne {x : Int32} {off : Int} {tgt : Nat} {t1 t2 : Option ρ} [dc : Decidable (x = 0)] (hd : decode M.2.1 pc = .ok (.ifCond .ne off, 3)) (ht : (pc : Int) + off = (tgt : Int)) (k1 : x = 0 → ab_S l M io kc ks t1 (pc + 3) lv st h) (k2 : ¬ x = 0 → ab_S l M io kc ks t2 (tgt) lv st h) : ab_S l M io kc ks (if x = 0 then t1 else t2) pc lv (.int x :: st) h := by
  intro z hz p e s m args below meth c dC dI dA ad0 n0 A ad H locs ls C D hl hlo hst
  exact lv_if_ne C.2.1 C.2.2.1 hd ht (fun g => (k2 g z (by rw [if_neg g] at hz; exact hz) p e s m args below meth c dC dI dA ad0 n0 A ad H locs ls C D hl hlo (ab_ot hst))) (fun g => (k1 g z (by rw [if_pos g] at hz; exact hz) p e s m args below meth c dC dI dA ad0 n0 A ad H locs ls C D hl hlo (ab_ot hst)))
theorem ab_icmp_ge {x y : Int32} {off : Int} {tgt : Nat} {t1 t2 : Option ρ} [dc : Decidable (x < y)] (hd : decode M.2.1 pc = .ok (.if_icmp .ge off, 3)) (ht : (pc : Int) + off = (tgt : Int)) (k1 : x < y → ab_S l M io kc ks t1 (pc + 3) lv st h) (k2 : ¬ x < y → ab_S l M io kc ks t2 (tgt) lv st h) : ab_S l M io kc ks (if x < y then t1 else t2) pc lv (.int y :: .int x :: st) h := by
  intro z hz p e s m args below meth c dC dI dA ad0 n0 A ad H locs ls C D hl hlo hst
  exact lv_icmp_ge C.2.1 C.2.2.1 hd ht (fun g => (k2 (Int32.not_lt.mpr g) z (by rw [if_neg (Int32.not_lt.mpr g)] at hz; exact hz) p e s m args below meth c dC dI dA ad0 n0 A ad H locs ls C D hl hlo (ab_ot (ab_ot hst)))) (fun g => (k1 (Int32.not_le.mp g) z (by rw [if_pos (Int32.not_le.mp g)] at hz; exact hz) p e s m args below meth c dC dI dA ad0 n0 A ad H locs ls C D hl hlo (ab_ot (ab_ot hst))))
theorem ab_icmp_gt {x y : Int32} {off : Int} {tgt : Nat} {t1 t2 : Option ρ} [dc : Decidable (x ≤ y)] (hd : decode M.2.1 pc = .ok (.if_icmp .gt off, 3)) (ht : (pc : Int) + off = (tgt : Int)) (k1 : x ≤ y → ab_S l M io kc ks t1 (pc + 3) lv st h) (k2 : ¬ x ≤ y → ab_S l M io kc ks t2 (tgt) lv st h) : ab_S l M io kc ks (if x ≤ y then t1 else t2) pc lv (.int y :: .int x :: st) h := by
  intro z hz p e s m args below meth c dC dI dA ad0 n0 A ad H locs ls C D hl hlo hst
  exact lv_icmp_gt C.2.1 C.2.2.1 hd ht (fun g => (k2 (Int32.not_le.mpr g) z (by rw [if_neg (Int32.not_le.mpr g)] at hz; exact hz) p e s m args below meth c dC dI dA ad0 n0 A ad H locs ls C D hl hlo (ab_ot (ab_ot hst)))) (fun g => (k1 (Int32.not_lt.mp g) z (by rw [if_pos (Int32.not_lt.mp g)] at hz; exact hz) p e s m args below meth c dC dI dA ad0 n0 A ad H locs ls C D hl hlo (ab_ot (ab_ot hst))))
theorem ab_if_ge {x : Int32} {off : Int} {tgt : Nat} {t1 t2 : Option ρ} [dc : Decidable (x < 0)] (hd : decode M.2.1 pc = .ok (.ifCond .ge off, 3)) (ht : (pc : Int) + off = (tgt : Int)) (k1 : x < 0 → ab_S l M io kc ks t1 (pc + 3) lv st h) (k2 : ¬ x < 0 → ab_S l M io kc ks t2 (tgt) lv st h) : ab_S l M io kc ks (if x < 0 then t1 else t2) pc lv (.int x :: st) h := by
  intro z hz p e s m args below meth c dC dI dA ad0 n0 A ad H locs ls C D hl hlo hst
  exact lv_if_ge C.2.1 C.2.2.1 hd ht (fun g => (k2 (Int32.not_lt.mpr g) z (by rw [if_neg (Int32.not_lt.mpr g)] at hz; exact hz) p e s m args below meth c dC dI dA ad0 n0 A ad H locs ls C D hl hlo (ab_ot hst))) (fun g => (k1 (Int32.not_le.mp g) z (by rw [if_pos (Int32.not_le.mp g)] at hz; exact hz) p e s m args below meth c dC dI dA ad0 n0 A ad H locs ls C D hl hlo (ab_ot hst)))
theorem ab_if_gt {x : Int32} {off : Int} {tgt : Nat} {t1 t2 : Option ρ} [dc : Decidable (x ≤ 0)] (hd : decode M.2.1 pc = .ok (.ifCond .gt off, 3)) (ht : (pc : Int) + off = (tgt : Int)) (k1 : x ≤ 0 → ab_S l M io kc ks t1 (pc + 3) lv st h) (k2 : ¬ x ≤ 0 → ab_S l M io kc ks t2 (tgt) lv st h) : ab_S l M io kc ks (if x ≤ 0 then t1 else t2) pc lv (.int x :: st) h := by
  intro z hz p e s m args below meth c dC dI dA ad0 n0 A ad H locs ls C D hl hlo hst
  exact lv_if_gt C.2.1 C.2.2.1 hd ht (fun g => (k2 (Int32.not_le.mpr g) z (by rw [if_neg (Int32.not_le.mpr g)] at hz; exact hz) p e s m args below meth c dC dI dA ad0 n0 A ad H locs ls C D hl hlo (ab_ot hst))) (fun g => (k1 (Int32.not_lt.mp g) z (by rw [if_pos (Int32.not_lt.mp g)] at hz; exact hz) p e s m args below meth c dC dI dA ad0 n0 A ad H locs ls C D hl hlo (ab_ot hst)))
end Rules
