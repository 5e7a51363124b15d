variable {Nq : Nat}
/-! ===== a new array of STATES ===== -/
section ANew
variable {ρ : Type} {l : Launch} {M : ab_M} {io : ρ → ab_R × ab_H} {kc ks : Nat} {pc : Nat} {lv : List (Nat × Value)} {st : List Value} {h : ab_H}
def ab_nq (B : Nat) (h : ab_H) (n : Int32) : Option ab_H := if h.1 < ab_SB ∧ ¬ n < 0 ∧ n.toNatClampNeg ≤ B then some (ab_ps h (.inl (3, n.toNatClampNeg, .inr (.inr (.inr (.inr (fun _ => none))))))) else none
theorem ab_naQ {B index : Nat} {n : Int32} {u : ab_H → Option ρ} (hlk : Cond.classLink M.1.cls index "HungFaces$State" ∈ ab_tb) (hB : B ≤ 10000000) (hrc : kc + 1 ≤ M.2.2.2.2.cells) (hrs : ks + B ≤ M.2.2.2.2.slots) (hd : decode M.2.1 pc = .ok (.anewarray index, 3))
    (k : ∀ h', ab_nq B h n = some h' → ab_S l M io (kc + 1) (ks + B) (u h') (pc + 3) lv (.ref h.1 :: st) h') : ab_S l M io kc ks (ab_bd (ab_nq B h n) u) pc lv (.int n :: st) h := by
  intro z hz p e s m args below meth c dC dI dA ad0 n0 A ad H locs ls C D hl hlo hst
  by_cases hc : h.1 < ab_SB ∧ ¬ n < 0 ∧ n.toNatClampNeg ≤ B
  · have e9 : ab_nq B h n = some (ab_ps h (.inl (3, n.toNatClampNeg, .inr (.inr (.inr (.inr (fun _ => none))))))) := if_pos hc
    rw [e9, ab_bd_some] at hz
    have k := k _ e9
    obtain ⟨hn, hn0, hnB⟩ := hc
    refine va_newq C.2.1 C.2.2.1 C.2.2.2.2.2.1 (C.2.2.2.2.2.2.1 _ hlk) C.2.2.2.2.2.2.2.2.2.2.2.2.2.2.2.2.2.2.2.2.2.2 C.2.2.2.2.2.2.2.2.2.2.1 D.1 D.2.1 D.2.2.1 C.2.2.2.2.2.2.2.2.2.2.2.1 hn0 rfl (by omega) hrc (by omega) hd (fun q cA H1 hK1 hP1 hD1 hS1 => ?_)
    have hcA : cA = dA 3 := by
      have k1 := (hK1.2 (ab_ty dA).length (cA, .object "HungFaces$State") (by rw [List.getElem?_append_right (Nat.le_refl _)]; simp)).2
      have k2 := (C.2.2.2.2.2.2.2.2.2.2.1.2 3 (dA 3, .object "HungFaces$State") rfl).2
      obtain ⟨_, _, _, _, _, k3⟩ := k1
      obtain ⟨_, _, _, _, _, k4⟩ := k2
      exact Option.some.inj (k3.symm.trans k4)
    have e1 : (Sum.inl (cA, n.toNatClampNeg, .inr (.inr (.inr (.inr (fun _ => none))))) : va_E) = ab_e (va_up ad h.1 q) dA (.inl (3, n.toNatClampNeg, .inr (.inr (.inr (.inr (fun _ => none)))))) := by
      rw [hcA]; rfl
    rw [e1] at hP1 hD1
    have hag := ab_ag_ps (ad := ad) (q := q) hn
    have D1 := ab_Wd_ps D hn (e := .inl (3, n.toNatClampNeg, .inr (.inr (.inr (.inr (fun _ => none)))))) (fun _ _ h => by cases h) hP1 hD1 hS1
    refine W.widen (k := kc + 1) (n := ks + B) (Nat.le_refl _) (by omega) ?_
    have hst := ab_ot hst
    have g := k z hz p e s m args below meth c dC dI dA ad0 n0 A (va_up ad h.1 q) H1 locs ls C D1 (by rw [ab_lv_agree hag hlo]; exact hl) (fun q hq => ab_ok_mono (Nat.le_succ _) (hlo q hq)) (ab_oc (Or.inl (Nat.lt_succ_self _)) (fun v hv => ab_ok_mono (Nat.le_succ _) (hst v hv)))
    have e2 : (Value.ref h.1 :: st).map (ab_v (va_up ad h.1 q)) = .ref q :: st.map (ab_v ad) := by
      rw [List.map_cons, ab_st_agree hag hst]
      simp [ab_v, va_up]
    rw [e2] at g
    exact g
  · rw [show ab_nq B h n = none from if_neg hc] at hz; cases hz
end ANew
