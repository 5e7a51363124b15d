/-! ===== the law's frame: its end, calls without new cells, what a wrapper and the reference do together ===== -/
def mlaw : ab_M := (x, code, 7, ret, room_1)
section LR2
variable {l : Launch} {M : ab_M} {L : Nat} {xs : Nat → Int32} {kc ks : Nat} {pc : Nat} {lv lv' : List (Nat × Value)} {st : List Value} {h : ab_H}
theorem al_lcmp {a b : Int64} (hd : decode M.2.1 pc = .ok (.lcmp, 1)) (k : al_S l M L xs kc ks (pc + 1) lv (.int (lg_cmp a b) :: st) h) : al_S l M L xs kc ks pc lv (.long b :: .long a :: st) h := by
  intro p e s m args below meth c dC dI dA ad0 n0 A ad H locs ls C hX D hl hlo hst
  exact W.lcmp C.2.1 C.2.2.1 hd (k p e s m args below meth c dC dI dA ad0 n0 A ad H locs ls C hX D hl hlo (ab_oc trivial (ab_ot (ab_ot hst))))
theorem al_ret (hc : kc ≤ 601024) (hs : ks ≤ 7293034) (hd : decode code pc = .ok (.ireturn, 1)) : al_S l mlaw L xs kc ks pc lv [.int 1] h := by
  intro p e s m args below meth c dC dI dA ad0 n0 A ad H locs ls C hX D hl hlo hst
  obtain ⟨ha, hX1, hX2, hX3, hA⟩ := hX
  subst ha
  refine va_forget (fun q hq => hA _ (D.2.2.1.2.2 q hq)) ?_
  refine W.widen hc hs ?_
  exact lw_ret C.2.1 C.2.2.1 C.2.2.2.2.1 C.2.2.2.2.2.2.2.1 hd
theorem lw_rc {R' : Room} {a b : Nat} (h1 : R'.cells ≤ a) (h2 : R'.slots ≤ b) (hc : kc + a ≤ 601024) (hs : ks + b ≤ 7293034) : ab_rmC mlaw.2.2.2.2 R' kc ks = true := by
  unfold ab_rmC
  have e1 : mlaw.2.2.2.2.cells = 601024 := rfl
  have e2 : mlaw.2.2.2.2.slots = 7293034 := rfl
  rw [e1, e2]
  simp only [Bool.and_eq_true, decide_eq_true_eq]
  omega
/-- a call that makes nothing -/
theorem al_ref {M' : ab_M} {As : List Value} {a ci index n : Nat} {CN : String} {v : Option Value} {h' : ab_H} (h0 : M'.2.2.2.2.cells = 0) (h1 : M'.2.2.2.2.slots = 0) (hkc : kc ≤ 601024) (hks : ks ≤ 7293034) (hio : ab_io h a ci = true) (hc : (ab_cl[ci]?).map (fun q => q.1) = some CN) (hI : ab_MI M' n) (hlk : Cond.methodLink mlaw.1.cls index M'.1 ∈ ab_tb) (hin : Cond.instanceMethod M'.1 ∈ ab_tb) (hse : Cond.selects CN M'.1 M'.1 ∈ ab_tb) (hn : As.length = n) (hrm : ab_rmB mlaw.2.2.2.2 M'.2.2.2.2 M'.2.2.1 = true) (hW : (st.map fun v => v.category).sum ≤ 8) (hd : decode mlaw.2.1 pc = .ok (.invokevirtual index, 3))
    (hm : ab_Met l M' (.ref a :: As) h (.inl v, h')) (k : al_S l mlaw L xs kc ks (pc + 3) lv (v.toList ++ st) h') : al_S l mlaw L xs kc ks pc lv (As.reverse ++ .ref a :: st) h :=
  al_callV hio hc hI hlk hin hse hn hrm (lw_rc (a := 0) (b := 0) (Nat.le_of_eq h0) (Nat.le_of_eq h1) hkc hks) hW hd hm (by rw [h0, h1]; exact k)
/-- a call that makes few cells -/
theorem al_cls {M' : ab_M} {As : List Value} {a ci index n : Nat} {CN : String} {v : Option Value} {h' : ab_H} (h0 : M'.2.2.2.2.cells ≤ 5) (h1 : M'.2.2.2.2.slots ≤ 427) (hkc : kc + 5 ≤ 601024) (hks : ks + 427 ≤ 7293034) (hio : ab_io h a ci = true) (hc : (ab_cl[ci]?).map (fun q => q.1) = some CN) (hI : ab_MI M' n) (hlk : Cond.methodLink mlaw.1.cls index M'.1 ∈ ab_tb) (hin : Cond.instanceMethod M'.1 ∈ ab_tb) (hse : Cond.selects CN M'.1 M'.1 ∈ ab_tb) (hn : As.length = n) (hrm : ab_rmB mlaw.2.2.2.2 M'.2.2.2.2 M'.2.2.1 = true) (hW : (st.map fun v => v.category).sum ≤ 8) (hd : decode mlaw.2.1 pc = .ok (.invokevirtual index, 3))
    (hm : ab_Met l M' (.ref a :: As) h (.inl v, h')) (k : al_S l mlaw L xs (kc + 5) (ks + 427) (pc + 3) lv (v.toList ++ st) h') : al_S l mlaw L xs kc ks pc lv (As.reverse ++ .ref a :: st) h :=
  al_callV hio hc hI hlk hin hse hn hrm (lw_rc h0 h1 hkc hks) hW hd hm (al_wid (Nat.add_le_add_left h0 _) (Nat.add_le_add_left h1 _) k)
theorem al_wrap {M' : ab_M} {hh : List (Nat × Nat × Nat × Nat)} {As : List Value} {index n : Nat} {v : Option Value} {h' : ab_H} (h0 : M'.2.2.2.2.cells ≤ 5) (h1 : M'.2.2.2.2.slots ≤ 427) (hkc : kc + 5 ≤ 601024) (hks : ks + 427 ≤ 7293034) (hI : ab_MIX M' hh n) (hlk : Cond.methodLink mlaw.1.cls index M'.1 ∈ ab_tb) (hin : Cond.static M'.1 ∈ ab_tb) (hn : As.length = n) (hrm : ab_rmB mlaw.2.2.2.2 M'.2.2.2.2 M'.2.2.1 = true) (hW : (st.map fun v => v.category).sum ≤ 8) (hd : decode mlaw.2.1 pc = .ok (.invokestatic index, 3))
    (hm : ab_MetX l M' hh As h (.inl v, h')) (k : al_S l mlaw L xs (kc + 5) (ks + 427) (pc + 3) lv (v.toList ++ st) h') : al_S l mlaw L xs kc ks pc lv (As.reverse ++ st) h :=
  al_callSX hI hlk hin hn hrm (lw_rc h0 h1 hkc hks) hW hd hm (al_wid (Nat.add_le_add_left h0 _) (Nat.add_le_add_left h1 _) k)
end LR2
/-- out may hold what it will -/
theorem gH_Uo (g : gG) (φ : Nat → Int64) : Uo φ (gH g) = gH (sL g 219 φ) := by
  refine Prod.ext rfl (funext fun b => ?_)
  show (if b = 219 then uoe φ (gc g 219) else gc g b) = gc (sL g 219 φ) b
  by_cases hb : b = 219
  · subst hb; rw [if_pos rfl]; rfl
  · rw [if_neg hb]
    unfold gc
    rw [gL_sL2 g φ hb]
    rfl
theorem RE_out {N : Nat} {g : gG} (R : RE N g) (φ : Nat → Int64) : RE N (sL g 219 φ) := by
  obtain ⟨n, k, s, f, R⟩ := R
  refine ⟨n, k, s, f, R.kp ⟨⟨rfl, fun _ => rfl, fun _ _ => rfl, rfl, fun _ _ _ => rfl⟩, fun b _ h2 => ⟨rfl, rfl, gL_sL2 g φ (by omega), rfl⟩, fun b _ h2 => ⟨rfl, rfl, gL_sL2 g φ (by omega), rfl⟩, rfl, rfl, rfl, fun _ _ => rfl, rfl, rfl⟩ R.2.2.2.1⟩
theorem cC_at {E : String} : ∀ {cs : List String} {i a : Nat}, cs.Nodup → cs[i]? = some E → cC E cs a = some (nI (a + i + 1))
  | [], i, _, _, h => by simp at h
  | c :: cs, 0, a, _, h => by
    have h : c = E := by simpa using h
    rw [cC, if_pos h.symm]
  | c :: cs, i + 1, a, hn, h => by
    have h : cs[i]? = some E := by simpa using h
    have hne : ¬ E = c := fun e => (List.nodup_cons.mp hn).1 (e ▸ List.mem_of_getElem? h)
    rw [cC, if_neg hne, cC_at (List.nodup_cons.mp hn).2 h]
    congr 2; omega
/-- a wrapper's answer, the reference's, and out -/
def Cw (N : Nat) (o : Int32 → Int64) (X : Option (Int32 × ab_H)) (Y : ab_H → Option (Int32 × ab_H)) : Prop := ∃ k g1 v g2, X = some (k, gH g1) ∧ Y (gH g1) = some (v, gH g2) ∧ gF g2 206 0 = k ∧ (k = nI 0 → gL g2 219 0 = o v) ∧ RE N g2
theorem nI_s0 {i : Nat} (hi : i < 4) : ¬ nI (i + 1) = nI 0 := by
  rcases (show i = 0 ∨ i = 1 ∨ i = 2 ∨ i = 3 by omega) with rfl | rfl | rfl | rfl <;> decide
theorem Cw_a {N : Nat} {o : Int32 → Int64} {X : Option ((Int32 ⊕ String) × ab_H)} {Y : ab_H → Option (Int32 × ab_H)} {cs : List String} {w : ab_H → Int32 → Option (Int32 × ab_H)} (hY : ∀ φ h, Y (Uo φ h) = (Y h).map (fun y => (y.1, Uo φ y.2))) (hw : ∀ g v, w (gH g) v = some (nI 0, gH (sL g 219 (vp_updL (gL g 219) 0 (o v))))) (hn : cs.Nodup) (H : Ca N X (fun g => Y (gH g)) cs) :
    Cw N o (ab_bd X fun y => y.1.elim (fun v => w y.2 v) (fun E => (cC E cs 0).map (fun c => (c, y.2)))) Y := by
  obtain ⟨r, g1, v, g2, hX, hYg, hA, R⟩ := H
  subst hX
  cases r with
  | inl u =>
    obtain ⟨h0, hv⟩ := hA
    subst hv
    refine ⟨nI 0, _, u, sL g2 219 (vp_updL (gL g1 219) 0 (o u)), hw g1 u, ?_, h0, fun _ => ?_, RE_out R _⟩
    · rw [← gH_Uo, hY, show Y (gH g1) = _ from hYg]
      exact congrArg (fun z => some (u, z)) (gH_Uo g2 _)
    · rw [gL_sL1]; exact if_pos rfl
  | inr E =>
    obtain ⟨i, hi, hE, ht⟩ := hA
    refine ⟨nI (i + 1), g1, v, g2, ?_, hYg, ht, fun h => absurd h (nI_s0 hi), R⟩
    show (cC E cs 0).map (fun c => (c, gH g1)) = _
    rw [cC_at hn hE, Nat.zero_add]; rfl
theorem Cw_q {N : Nat} {o : Int32 → Int64} {g : gG} {X : Option (Int32 ⊕ String)} {Y : ab_H → Option (Int32 × ab_H)} {cs : List String} {w : ab_H → Int32 → Option (Int32 × ab_H)} (hY : ∀ φ h, Y (Uo φ h) = (Y h).map (fun y => (y.1, Uo φ y.2))) (hw : ∀ g v, w (gH g) v = some (nI 0, gH (sL g 219 (vp_updL (gL g 219) 0 (o v))))) (hn : cs.Nodup) (H : Cq N g X (fun g => Y (gH g)) cs) :
    Cw N o (ab_bd X fun y => y.elim (fun v => w (gH g) v) (fun E => (cC E cs 0).map (fun c => (c, gH g)))) Y := by
  obtain ⟨r, v, g2, hX, hYg, hA, R⟩ := H
  have := Cw_a (X := some (r, gH g)) hY hw hn ⟨r, g, v, g2, rfl, hYg, hA, R⟩
  subst hX
  exact this
theorem w_out (g : gG) (v : Int32) : (ab_bd (ab_lw (gH g) 219 (nI 0) v.toInt64) fun h1 => some (nI 0, h1)) = some (nI 0, gH (sL g 219 (vp_updL (gL g 219) 0 v.toInt64))) := by rw [lw_219 g _ (Nat.lt_succ_self 0)]; rfl
def oB (v : Int32) : Int64 := if v = 0 then 0 else 1
theorem w_outB (g : gG) (v : Int32) : (if v = 0 then ab_bd (ab_lw (gH g) 219 (nI 0) 0) fun h1 => some (nI 0, h1) else ab_bd (ab_lw (gH g) 219 (nI 0) 1) fun h1 => some (nI 0, h1)) = some (nI 0, gH (sL g 219 (vp_updL (gL g 219) 0 (oB v)))) := by
  unfold oB
  by_cases h : v = 0
  · rw [if_pos h, if_pos h, lw_219 g _ (Nat.lt_succ_self 0)]; rfl
  · rw [if_neg h, if_neg h, lw_219 g _ (Nat.lt_succ_self 0)]; rfl
theorem lg_cmp_self (a : Int64) : lg_cmp a a = 0 := by
  have h : ¬ a < a := Int64.lt_irrefl
  simp [lg_cmp, h]
theorem sc_in {i j L : Nat} (h : i + 6 ≤ L) (hL : L ≤ 3072) (hj : j < 6) : vp_in (nI i + nI j) L := by
  rw [nI_add]; exact nI_in (by omega) (by omega)
theorem sc_in0 {i L : Nat} (h : i + 6 ≤ L) (hL : L ≤ 3072) : vp_in (nI i) L := nI_in (by omega) (by omega)
theorem f_thrown (g : gG) : fX12_thrown 206 (gH g) = some (gF g 206 0) := by unfold fX12_thrown; rw [fi_206_0]; rfl
def Fu : Nat := 12000
