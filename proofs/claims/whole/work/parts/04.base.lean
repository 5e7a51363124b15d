/-! ===== a heap by numbers: cells 0, 1, .. at the addresses ad 0, ad 1, ..; references are numbers ===== -/
abbrev ab_H : Type := Nat × (Nat → va_E)
abbrev ab_R : Type := Option Value ⊕ String
/-- a method: its name, its bytes, its locals, what it returns, its room (cells and slots: what it may make) -/
abbrev ab_M : Type := MethodName × ByteArray × Nat × Option FieldType × Room
def ab_SB : Nat := 1000000
def ab_v (ad : Nat → Nat) (v : Value) : Value := match v with
  | .ref i => .ref (ad i)
  | w => w
def ab_a (ad : Nat → Nat) (a : vp_A) : vp_A := match a with
  | (n, .inr (.inr (.inr (.inr f)))) => (n, .inr (.inr (.inr (.inr (fun j => (f j).map ad)))))
  | x => x
def ab_e (ad : Nat → Nat) (dA : Nat → ClassId) (e : va_E) : va_E := match e with
  | .inl (k, a) => .inl (dA k, ab_a ad a)
  | .inr (ci, fs) => .inr (ci, fs.map (ab_v ad))
def ab_w (ad : Nat → Nat) (dA : Nat → ClassId) (h : ab_H) : va_W := (List.range h.1).map (fun i => (ad i, ab_e ad dA (h.2 i)))
def ab_ok (n : Nat) (v : Value) : Prop := match v with
  | .ref i => i < n ∨ ab_SB ≤ i
  | _ => True
def ab_oke (n : Nat) (e : va_E) : Prop := match e with
  | .inr (_, fs) => ∀ v ∈ fs, ab_ok n v
  | .inl (_, _, .inr (.inr (.inr (.inr f)))) => ∀ j i, f j = some i → i < n
  | .inl _ => True
def ab_okh (h : ab_H) : Prop := h.1 ≤ ab_SB ∧ ∀ i, i < h.1 → ab_oke h.1 (h.2 i)
def ab_up (h : ab_H) (i : Nat) (e : va_E) : ab_H := (h.1, va_up h.2 i e)
def ab_ps (h : ab_H) (e : va_E) : ab_H := (h.1 + 1, va_up h.2 h.1 e)
theorem ab_w_get {ad : Nat → Nat} {dA : Nat → ClassId} {h : ab_H} {i : Nat} (hi : i < h.1) : (ab_w ad dA h)[i]? = some (ad i, ab_e ad dA (h.2 i)) := by
  simp [ab_w, List.getElem?_map, List.getElem?_range hi]
theorem ab_w_set {ad : Nat → Nat} {dA : Nat → ClassId} {h : ab_H} {i : Nat} (e : va_E) : (ab_w ad dA h).set i (ad i, ab_e ad dA e) = ab_w ad dA (ab_up h i e) := by
  apply List.ext_getElem?
  intro j
  by_cases hj : j < h.1
  · by_cases hij : i = j
    · subst hij
      rw [List.getElem?_set_self (by simp [ab_w]; exact hj), ab_w_get (show i < (ab_up h i e).1 from hj)]
      simp [ab_up, va_up]
    · rw [List.getElem?_set_ne hij, ab_w_get hj, ab_w_get (show j < (ab_up h i e).1 from hj)]
      simp [ab_up, va_up, Ne.symm hij]
  · rw [List.getElem?_eq_none (by simp [ab_w]; omega), List.getElem?_eq_none (by simp [ab_w, ab_up]; omega)]
theorem ab_v_up {ad : Nat → Nat} {n q : Nat} (hn : n < ab_SB) {v : Value} (h : ab_ok n v) : ab_v (va_up ad n q) v = ab_v ad v := by
  cases v <;> first | rfl | skip
  rename_i i
  have h2 : ¬ i = n := fun he => by
    rcases (show i < n ∨ ab_SB ≤ i from h) with h | h
    · exact absurd (he ▸ h) (Nat.lt_irrefl _)
    · exact absurd hn (Nat.not_lt.mpr (he ▸ h))
  simp only [ab_v, va_up]
  rw [if_neg h2]
theorem ab_e_up {ad : Nat → Nat} {dA : Nat → ClassId} {n q : Nat} (hn : n < ab_SB) {e : va_E} (h : ab_oke n e) : ab_e (va_up ad n q) dA e = ab_e ad dA e := by
  cases e with
  | inl x =>
    obtain ⟨k, m, a⟩ := x
    rcases a with f | f | f | f | f
    · rfl
    · rfl
    · rfl
    · rfl
    · have h : ∀ j i, f j = some i → i < n := h
      have e : (fun j => (f j).map (va_up ad n q)) = fun j => (f j).map ad := by
       funext j
       cases hj : f j with
       | none => rfl
       | some i =>
        have := h j i hj
        simp only [Option.map, va_up]
        rw [if_neg (by omega)]
      simp only [ab_e, ab_a, e]
  | inr x =>
    obtain ⟨ci, fs⟩ := x
    have h : ∀ v ∈ fs, ab_ok n v := h
    simp only [ab_e]
    congr 2
    exact List.map_congr_left (fun v hv => ab_v_up hn (h v hv))
theorem ab_w_up {ad : Nat → Nat} {dA : Nat → ClassId} {h : ab_H} {q : Nat} (hn : h.1 < ab_SB) (hk : ab_okh h) : ab_w (va_up ad h.1 q) dA h = ab_w ad dA h := by
  unfold ab_w
  apply List.map_congr_left
  intro i hi
  have hi : i < h.1 := List.mem_range.mp hi
  rw [ab_e_up hn (hk.2 i hi)]
  simp only [va_up]
  rw [if_neg (by omega)]
theorem ab_w_push {ad : Nat → Nat} {dA : Nat → ClassId} {h : ab_H} {q : Nat} (hn : h.1 < ab_SB) (hk : ab_okh h) {e : va_E} : ab_w (va_up ad h.1 q) dA (ab_ps h e) = ab_w ad dA h ++ [(q, ab_e (va_up ad h.1 q) dA e)] := by
  unfold ab_w ab_ps
  show (List.range (h.1 + 1)).map _ = _
  rw [List.range_succ, List.map_append]
  congr 1
  · have e1 := ab_w_up (ad := ad) (dA := dA) (q := q) hn hk
    unfold ab_w at e1
    rw [← e1]
    apply List.map_congr_left
    intro i hi
    have hi : i < h.1 := List.mem_range.mp hi
    show (_, ab_e _ _ (va_up h.2 h.1 e i)) = _
    rw [show va_up h.2 h.1 e i = h.2 i from if_neg (show ¬ i = h.1 by omega)]
  · simp [va_up]
theorem ab_ok_mono {n n' : Nat} (hn : n ≤ n') {v : Value} (h : ab_ok n v) : ab_ok n' v := by
  cases v <;> first | trivial | skip
  rename_i i
  exact (show i < n ∨ ab_SB ≤ i from h).elim (fun h => Or.inl (Nat.lt_of_lt_of_le h hn)) Or.inr
theorem ab_oke_mono {n n' : Nat} (hn : n ≤ n') {e : va_E} (h : ab_oke n e) : ab_oke n' e := by
  cases e with
  | inl x =>
    obtain ⟨k, m, a⟩ := x
    rcases a with f | f | f | f | f
    · trivial
    · trivial
    · trivial
    · trivial
    · exact fun j i hj => Nat.lt_of_lt_of_le (h j i hj) hn
  | inr x => exact fun v hv => ab_ok_mono hn (h v hv)
theorem ab_okh_up {h : ab_H} {i : Nat} {e : va_E} (hk : ab_okh h) (he : ab_oke h.1 e) : ab_okh (ab_up h i e) := by
  refine ⟨hk.1, fun j hj => ?_⟩
  show ab_oke h.1 (va_up h.2 i e j)
  unfold va_up
  split
  · exact he
  · exact hk.2 j hj
theorem ab_okh_ps {h : ab_H} {e : va_E} (hn : h.1 < ab_SB) (hk : ab_okh h) (he : ab_oke (h.1 + 1) e) : ab_okh (ab_ps h e) := by
  refine ⟨hn, fun j hj => ?_⟩
  have hj : j < h.1 + 1 := hj
  show ab_oke (h.1 + 1) (va_up h.2 h.1 e j)
  unfold va_up
  split
  · exact he
  · exact ab_oke_mono (Nat.le_succ _) (hk.2 j (by omega))
theorem ab_cat (ad : Nat → Nat) (v : Value) : (ab_v ad v).category = v.category := by cases v <;> rfl
theorem ab_cats (ad : Nat → Nat) (st : List Value) : ((st.map (ab_v ad)).map fun v => v.category) = st.map fun v => v.category := by
  simp [List.map_map, Function.comp_def, ab_cat]
/-! ===== the facts that hold at every method's entry: links among nest mates, texts, what a throw reads ===== -/
def ab_GW (ad0 : Nat → Nat) (A : Nat → Prop) (U : State) (H : Heap) : Prop :=
  (∀ q ∈ ab_nm, va_Nw (.methodLinkNest q.1 q.2.1 q.2.2.1 q.2.2.2) U) ∧
  (∀ q ∈ ab_sr, vk_R q.1 q.2.1 q.2.2.1 (ad0 (ab_SB + q.2.2.2)) U) ∧
  (∀ k, k < ab_N → vk_S 1 [ab_len.getD k 0] [ab_byt.getD k []] (fun _ => ad0 (ab_SB + k)) (fun _ => ad0 (ab_SB + 1000 + k)) A U H) ∧
  vx_Zq Bundle.tN "UNASSIGNED_STACK" Bundle.steD A U H ∧ vx_Zq Bundle.tN "SUPPRESSED_SENTINEL" Bundle.listD A U H ∧
  va_Z "java/lang/String" "COMPACT_STRINGS" "Z" (.int 1) A U H ∧
  (va_Z "jdk/internal/util/Preconditions" "SIOOBE_FORMATTER" "Ljava/util/function/BiFunction;" .null A U H ∨ va_Z "jdk/internal/util/Preconditions" "SIOOBE_FORMATTER" "Ljava/util/function/BiFunction;" (.ref (ad0 (ab_SB + 3000))) A U H) ∧
  (∀ q ∈ ab_dc, va_Nw (.declares q) U) ∧ (∀ q ∈ ab_ca, va_Nw (.castable q.1 q.2) U) ∧ (∀ q ∈ ab_nc, va_Nc q.1 q.2 U) ∧ va_AO "HungFaces$State" U
theorem ab_GW.next {ad0 ad1 : Nat → Nat} {A B : Nat → Prop} {s U : State} {H0 H : Heap} (h : ab_GW ad0 A s H0) (hW : s.WarmedH U.vm) (hq : ∀ a : Nat, a < H0.size → ¬ A a → H[a]? = H0[a]?) (hAB : ∀ q, B q → A q) (had : ∀ i, ab_SB ≤ i → ad1 i = ad0 i) : ab_GW ad1 B U H := by
  obtain ⟨h1, h2, h3, h4, h5, h6, h7, h8, h9, h10, h11⟩ := h
  refine ⟨fun q hm => (h1 q hm).warmM hW, fun q hm => ?_, fun k hk => ?_, ((h4.kept hq).narrow hAB).moved hW.alike, ((h5.kept hq).narrow hAB).moved hW.alike, ((h6.kept hq).narrow hAB).moved hW.alike, h7.elim (fun h7 => Or.inl (((h7.kept hq).narrow hAB).moved hW.alike)) (fun h7 => Or.inr (by rw [had _ (Nat.le_add_right _ _)]; exact ((h7.kept hq).narrow hAB).moved hW.alike)), fun q hm => (h8 q hm).warmD hW, fun q hm => (h9 q hm).warmC hW, fun q hm => (h10 q hm).moved hW.alike, h11.moved hW.alike⟩
  · rw [had _ (Nat.le_add_right _ _)]; exact (h2 q hm).warm hW
  · have e1 : (fun _ : Nat => ad1 (ab_SB + k)) = fun _ => ad0 (ab_SB + k) := by funext _; exact had _ (Nat.le_add_right _ _)
    have e2 : (fun _ : Nat => ad1 (ab_SB + 1000 + k)) = fun _ => ad0 (ab_SB + 1000 + k) := by funext _; exact had _ (by omega)
    rw [e1, e2]
    exact (((h3 k hk).kept hq).narrow hAB).moved hW.alike
theorem ab_GW.same {ad0 : Nat → Nat} {A : Nat → Prop} {u U : State} {H : Heap} (h : ab_GW ad0 A u H) (hv : U.vm = u.vm) : ab_GW ad0 A U H := by
  obtain ⟨h1, h2, h3, h4, h5, h6, h7, h8, h9, h10, h11⟩ := h
  have ha : u.vm.Alike U.vm := by rw [hv]; exact Vm.Alike.refl _
  exact ⟨fun q hm => (h1 q hm).same rfl hv.symm, fun q hm => (h2 q hm).same hv, fun k hk => (h3 k hk).moved ha, h4.moved ha, h5.moved ha, h6.moved ha, h7.elim (fun h7 => Or.inl (h7.moved ha)) (fun h7 => Or.inr (h7.moved ha)), fun q hm => (h8 q hm).same rfl hv.symm, fun q hm => (h9 q hm).same rfl hv.symm, fun q hm => (h10 q hm).moved ha, h11.moved ha⟩
