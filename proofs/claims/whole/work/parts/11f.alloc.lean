/-! ===== new cells as answers ===== -/
def ab_nw (h : ab_H) (ci : Nat) (fs : List Value) : Option ab_H := if h.1 < ab_SB then some (ab_ps h (.inr (ci, fs))) else none
def ab_na (kd B : Nat) (h : ab_H) (n : Int32) : Option ab_H := if h.1 < ab_SB ∧ ¬ n < 0 ∧ n.toNatClampNeg ≤ B then some (ab_ps h (.inl (kd, n.toNatClampNeg, if kd = 1 then .inr (.inl (fun _ => 0)) else .inl (fun _ => 0)))) else none
theorem ab_bn {x : Int32} (b : ab_bl x) : vp_nar .boolean x = x := by
  unfold vp_nar
  rw [b.1]
section AllocRules
variable {ρ : Type} {l : Launch} {M : ab_M} {io : ρ → ab_R × ab_H} {kc ks : Nat} {t : Option ρ} {pc : Nat} {lv lv' : List (Nat × Value)} {st : List Value} {h : ab_H}
theorem ab_newB {ci index N : Nat} {fs : List Value} {u : ab_H → Option ρ} (hN : ab_NW M.1.cls index ci N fs) (hok : fs.all ab_nr = true) (hrc : kc + 1 ≤ M.2.2.2.2.cells) (hrs : ks + N ≤ M.2.2.2.2.slots) (hd : decode M.2.1 pc = .ok (.new index, 3)) (k : ∀ h', ab_nw h ci fs = some h' → ab_S l M io (kc + 1) (ks + N) (u h') (pc + 3) lv (.ref h.1 :: st) h') : ab_S l M io kc ks (ab_bd (ab_nw h ci fs) u) pc lv st h := by
  have e : ab_bd (ab_nw h ci fs) u = ab_ck (h.1 < ab_SB) (u (ab_ps h (.inr (ci, fs)))) := by
    unfold ab_nw ab_ck
    split <;> rfl
  rw [e]
  exact ab_new hN hok hrc hrs hd (fun hn => k _ (by unfold ab_nw; rw [if_pos hn]))
theorem ab_naI {B : Nat} {n : Int32} {u : ab_H → Option ρ} (harr : Cond.arrayClass .int ∈ ab_tb) (hB : B ≤ 10000000) (hrc : kc + 1 ≤ M.2.2.2.2.cells) (hrs : ks + B ≤ M.2.2.2.2.slots) (hd : decode M.2.1 pc = .ok (.newarray .int, 2)) (k : ∀ h', ab_na 0 B h n = some h' → ab_S l M io (kc + 1) (ks + B) (u h') (pc + 2) lv (.ref h.1 :: st) h') : ab_S l M io kc ks (ab_bd (ab_na 0 B h n) u) pc lv (.int n :: st) h := by
  have e : ab_bd (ab_na 0 B h n) u = ab_ck (h.1 < ab_SB ∧ ¬ n < 0 ∧ n.toNatClampNeg ≤ B) (u (ab_ps h (.inl (0, n.toNatClampNeg, .inl (fun _ => 0))))) := by
    unfold ab_na ab_ck
    split <;> rfl
  rw [e]
  exact ab_newa (x := .inl (fun _ => 0)) (ty := .int) rfl (fun _ => rfl) (fun U c1 c2 h1 h2 => Option.some.inj (h1.symm.trans h2)) (fun _ _ => rfl) (by decide) hB harr hrc hrs hd (fun a b c => k _ (by unfold ab_na; rw [if_pos ⟨a, b, c⟩]; rfl))
theorem ab_naZ {B : Nat} {n : Int32} {u : ab_H → Option ρ} (harr : Cond.arrayClass .boolean ∈ ab_tb) (hB : B ≤ 10000000) (hrc : kc + 1 ≤ M.2.2.2.2.cells) (hrs : ks + B ≤ M.2.2.2.2.slots) (hd : decode M.2.1 pc = .ok (.newarray .boolean, 2)) (k : ∀ h', ab_na 2 B h n = some h' → ab_S l M io (kc + 1) (ks + B) (u h') (pc + 2) lv (.ref h.1 :: st) h') : ab_S l M io kc ks (ab_bd (ab_na 2 B h n) u) pc lv (.int n :: st) h := by
  have e : ab_bd (ab_na 2 B h n) u = ab_ck (h.1 < ab_SB ∧ ¬ n < 0 ∧ n.toNatClampNeg ≤ B) (u (ab_ps h (.inl (2, n.toNatClampNeg, .inl (fun _ => 0))))) := by
    unfold ab_na ab_ck
    split <;> rfl
  rw [e]
  exact ab_newa (x := .inl (fun _ => 0)) (ty := .boolean) rfl (fun _ => rfl) (fun U c1 c2 h1 h2 => Option.some.inj (h1.symm.trans h2)) (fun _ _ => rfl) (by decide) hB harr hrc hrs hd (fun a b c => k _ (by unfold ab_na; rw [if_pos ⟨a, b, c⟩]; rfl))
theorem ab_naL {B : Nat} {n : Int32} {u : ab_H → Option ρ} (harr : Cond.arrayClass .long ∈ ab_tb) (hB : B ≤ 10000000) (hrc : kc + 1 ≤ M.2.2.2.2.cells) (hrs : ks + B ≤ M.2.2.2.2.slots) (hd : decode M.2.1 pc = .ok (.newarray .long, 2)) (k : ∀ h', ab_na 1 B h n = some h' → ab_S l M io (kc + 1) (ks + B) (u h') (pc + 2) lv (.ref h.1 :: st) h') : ab_S l M io kc ks (ab_bd (ab_na 1 B h n) u) pc lv (.int n :: st) h := by
  have e : ab_bd (ab_na 1 B h n) u = ab_ck (h.1 < ab_SB ∧ ¬ n < 0 ∧ n.toNatClampNeg ≤ B) (u (ab_ps h (.inl (1, n.toNatClampNeg, .inr (.inl (fun _ => 0)))))) := by
    unfold ab_na ab_ck
    split <;> rfl
  rw [e]
  exact ab_newa (x := .inr (fun _ => 0)) (ty := .long) rfl (fun _ => rfl) (fun U c1 c2 h1 h2 => Option.some.inj (h1.symm.trans h2)) (fun _ _ => rfl) (by decide) hB harr hrc hrs hd (fun a b c => k _ (by unfold ab_na; rw [if_pos ⟨a, b, c⟩]; rfl))
end AllocRules
