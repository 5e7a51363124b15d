/-! ===== Past's constructor, HungFaces' constructor (by program, gen_hf.py) ===== -/
def rp (n : Nat) : List va_E := List.replicate n d0
theorem rp_len (n : Nat) : (rp n).length = n := List.length_replicate
theorem bTape_n {c : List va_E} {n : Nat} (h : c.length = n) : bTape c = bTape (rp n) := by unfold bTape; rw [h, rp_len]
theorem bLaw_n {c : List va_E} {n : Nat} (h : c.length = n) : bLaw c = bLaw (rp n) := by unfold bLaw; rw [h, rp_len]
theorem bSt_n (w : Nat) {c : List va_E} {n : Nat} (h : c.length = n) : bSt w c = bSt w (rp n) := by unfold bSt; rw [h, rp_len]
theorem bCut_n (w : Nat) {c : List va_E} {n : Nat} (h : c.length = n) : bCut w c = bCut w (rp n) := by unfold bCut; rw [h, rp_len]
theorem bDoor_n (w : Nat) (y : Nat) (z : Nat) {c : List va_E} {n : Nat} (h : c.length = n) : bDoor w y z c = bDoor w y z (rp n) := by unfold bDoor; rw [h, rp_len]
theorem bLR_n (w : Nat) {c : List va_E} {n : Nat} (h : c.length = n) : bLR w c = bLR w (rp n) := by unfold bLR; rw [h, rp_len]
theorem bSaid_n {c : List va_E} {n : Nat} (h : c.length = n) : bSaid c = bSaid (rp n) := by unfold bSaid; rw [h, rp_len]
theorem bMar_n {c : List va_E} {n : Nat} (h : c.length = n) : bMar c = bMar (rp n) := by unfold bMar; rw [h, rp_len]
theorem bMod_n {c : List va_E} {n : Nat} (h : c.length = n) : bMod c = bMod (rp n) := by unfold bMod; rw [h, rp_len]
theorem of_nw {l : List va_E} {ci : Nat} {fs : List Value} (hn : l.length < ab_SB) : ab_nw (ofL l) ci fs = some (ofL (l ++ [.inr (ci, fs)])) := by
  have h := lq_nw (c := l) (ts := []) (ci := ci) (fs := fs) hn
  rw [lq_of, lq_of, List.append_nil] at h
  exact h
theorem of_fw {R : List va_E} {ci k : Nat} {fs : List Value} {v : Value} (hk : k < fs.length) : ab_fw (ofL (.inr (ci, fs) :: R)) 0 ci k v = some (ofL (.inr (ci, fs.set k v) :: R)) := by
  have h := lq_fw (c := []) (ts := .inr (ci, fs) :: R) (i := 0) (ci := ci) (k := k) (fs := fs) (v := v) rfl hk
  rw [lq_of, lq_of] at h
  exact h
theorem of_fr {R : List va_E} {ci k y : Nat} {fs : List Value} (hk : fs[k]? = some (.ref y)) : ab_fr (ofL (.inr (ci, fs) :: R)) 0 ci k = some y := by
  have h := lq_fr (c := []) (ts := .inr (ci, fs) :: R) (i := 0) (ci := ci) (k := k) (fs := fs) (y := y) rfl hk
  rw [lq_of] at h
  exact h
/-! Past -/
def pObj (c : List va_E) : va_E := .inr (6, [.ref (c.length + 1), .int 0, .int 0])
def pArr (c : List va_E) (i : Nat) : va_E := .inl (3, 12, .inr (.inr (.inr (.inr (fun j => if j < i then some (c.length + 2 + 12 * j) else none)))))
def pSS (w : Nat) (c : List va_E) : Nat → List va_E
  | 0 => []
  | i + 1 => pSS w c i ++ bSt w (rp (c.length + 2 + 12 * i))
theorem pSS_len (w : Nat) (c : List va_E) : ∀ i, (pSS w c i).length = 12 * i
  | 0 => rfl
  | i + 1 => by rw [pSS, List.length_append, pSS_len w c i]; show 12 * i + 12 = _; omega
def pT (w : Nat) (c : List va_E) (i : Nat) : List va_E := pObj c :: pArr c i :: pSS w c i
theorem pT_len (w : Nat) (c : List va_E) (i : Nat) : (pT w c i).length = 2 + 12 * i := by
  show (pSS w c i).length + 1 + 1 = _
  rw [pSS_len]; omega
set_option maxRecDepth 100000 in
set_option maxHeartbeats 4000000 in
theorem past_step {F : Nat} (hF : 20 < F) (c : List va_E) (w : Nat) {i : Nat} (hi : i < 12) (hc : c.length + 200 < ab_SB) {idx : Int32} (hx : idx = nI i) {K : ab_H → Option ab_H} :
    (ab_bd (ab_fr (lq c (pT w c i)) c.length 6 0) fun v => ab_bd (ab_nw (lq c (pT w c i)) 8 [.int 0, .int 0, .int 0, .int 0, .int 0, .int 0, .int 0, .null, .null, .null, .null, .null, .null, .null, .null, .null, .null, .null]) fun h5 => ab_bd (fX8_init F (lq c (pT w c i)).1 w h5) fun h6 => ab_ck (ab_io h6 (lq c (pT w c i)).1 8 = true) (ab_bd (ab_rw h6 v idx (lq c (pT w c i)).1) K)) = K (lq c (pT w c (i + 1))) := by
  subst hx
  have hl := pT_len w c i
  have e1 : (lq c (pT w c i)).1 = (c ++ pT w c i).length := (List.length_append).symm
  have e2 : (c ++ pT w c i).length = c.length + 2 + 12 * i := by rw [List.length_append, hl]; omega
  refine (bd_e (lq_fr (c := c) (ts := pT w c i) (i := 0) (ci := 6) (k := 0) (y := c.length + 1) rfl rfl)).trans ?_
  refine (bd_e (lq_nw (c := c) (ts := pT w c i) (by rw [hl]; omega))).trans ?_
  rw [e1, lq_of, ← List.append_assoc]
  refine (bd_e (bSt_e w hF (c ++ pT w c i) (by rw [e2]; omega))).trans ?_
  rw [bSt_n w e2, List.append_assoc, ← lq_of]
  have h0 : (pT w c i ++ bSt w (rp (c.length + 2 + 12 * i)))[(pT w c i).length]? = (bSt w (rp (c.length + 2 + 12 * i)))[0]? := by
    rw [List.getElem?_append_right (Nat.le_refl _), Nat.sub_self]
  have h1 : ab_io (lq c (pT w c i ++ bSt w (rp (c.length + 2 + 12 * i)))) (c.length + (pT w c i).length) 8 = true := lq_io (h0.trans rfl)
  rw [List.length_append]
  refine (ck_e h1).trans ?_
  refine (bd_e (lq_rw (c := c) (ts := pT w c i ++ bSt w (rp (c.length + 2 + 12 * i))) (i := 1) (n := 12) (j := i) rfl hi (by decide) (by rw [List.length_append, hl]; show _ < _ + (_ + 12); omega))).trans ?_
  congr 2
  show pObj c :: _ :: (pSS w c i ++ bSt w (rp (c.length + 2 + 12 * i))) = pObj c :: pArr c (i + 1) :: pSS w c (i + 1)
  congr 2
  unfold pArr
  congr 7
  funext j
  unfold va_up
  rw [hl]
  by_cases hj : j = i
  · rw [if_pos hj, if_pos (by omega), hj]; congr 1; omega
  · rw [if_neg hj]
    by_cases h2 : j < i
    · show (if j < i then some (c.length + 2 + 12 * j) else none) = _
      rw [if_pos h2, if_pos (by omega)]
    · show (if j < i then some (c.length + 2 + 12 * j) else none) = _
      rw [if_neg h2, if_neg (by omega)]
def bPast (w : Nat) (c : List va_E) : List va_E := pT w c 12
theorem bPast_n (w : Nat) {c : List va_E} {n : Nat} (h : c.length = n) : bPast w c = bPast w (rp n) := by
  have : ∀ i, pSS w c i = pSS w (rp n) i := by
    intro i
    induction i with
    | zero => rfl
    | succ i ih => rw [pSS, pSS, ih, h, rp_len]
  unfold bPast pT pObj pArr
  rw [this, h, rp_len]
set_option maxRecDepth 100000 in
set_option maxHeartbeats 4000000 in
theorem bPast_e (w : Nat) {F : Nat} (hF : 20 < F) (c : List va_E) (hc : c.length + 200 < ab_SB) : fX6_init F c.length w (ofL (c ++ [.inr (6, [.null, .int 0, .int 0])])) = some (ofL (c ++ bPast w c)) := by
  rw [← lq_of, ← lq_of]
  unfold fX6_init
  refine (bd_e (lq_nq (c := c) (ts := [.inr (6, [.null, .int 0, .int 0])]) (B := 12) (n := 12) (by simp only [List.length_cons, List.length_nil]; omega) (by decide) (by decide))).trans ?_
  refine (bd_e (lq_fw (c := c) (ts := [.inr (6, [.null, .int 0, .int 0]), .inl (3, 12, .inr (.inr (.inr (.inr (fun _ => none)))))]) (i := 0) (ci := 6) (k := 0) (fs := [.null, .int 0, .int 0]) (v := .ref (c.length + 1)) rfl (Nat.le_of_ble_eq_true rfl))).trans ?_
  have e0 : (fun j => if j < 0 then some (c.length + 2 + 12 * j) else none : Nat → Option Nat) = fun _ => none := by funext j; exact if_neg (Nat.not_lt_zero j)
  have e1 : [pObj c, (.inl (3, 12, .inr (.inr (.inr (.inr (fun _ => none))))) : va_E)] = pT w c 0 := by unfold pT pArr; rw [e0]; rfl
  show _ = some (lq c (pT w c 12))
  have e2 : lq c (([(.inr (6, [.null, .int 0, .int 0]) : va_E), .inl (3, 12, .inr (.inr (.inr (.inr (fun _ => none)))))]).set 0 (.inr (6, ([.null, .int 0, .int 0] : List Value).set 0 (.ref (c.length + 1))))) = lq c (pT w c 0) := by rw [← e1]; rfl
  rw [e2]
  refine (if_pos (by decide)).trans ?_
  refine (past_step hF c w (i := 0) (by decide) hc (by decide)).trans ?_
  refine (if_pos (by decide)).trans ?_
  refine (past_step hF c w (i := 1) (by decide) hc (by decide)).trans ?_
  refine (if_pos (by decide)).trans ?_
  refine (past_step hF c w (i := 2) (by decide) hc (by decide)).trans ?_
  refine (if_pos (by decide)).trans ?_
  refine (past_step hF c w (i := 3) (by decide) hc (by decide)).trans ?_
  refine (if_pos (by decide)).trans ?_
  refine (past_step hF c w (i := 4) (by decide) hc (by decide)).trans ?_
  refine (if_pos (by decide)).trans ?_
  refine (past_step hF c w (i := 5) (by decide) hc (by decide)).trans ?_
  refine (if_pos (by decide)).trans ?_
  refine (past_step hF c w (i := 6) (by decide) hc (by decide)).trans ?_
  refine (if_pos (by decide)).trans ?_
  refine (past_step hF c w (i := 7) (by decide) hc (by decide)).trans ?_
  refine (if_pos (by decide)).trans ?_
  refine (past_step hF c w (i := 8) (by decide) hc (by decide)).trans ?_
  refine (if_pos (by decide)).trans ?_
  refine (past_step hF c w (i := 9) (by decide) hc (by decide)).trans ?_
  refine (if_pos (by decide)).trans ?_
  refine (past_step hF c w (i := 10) (by decide) hc (by decide)).trans ?_
  refine (if_pos (by decide)).trans ?_
  refine (past_step hF c w (i := 11) (by decide) hc (by decide)).trans ?_
  exact if_neg (by decide)
def hR0 : List va_E := []
def hR1 : List va_E := hR0 ++ bLaw (rp 1)
def hR2 : List va_E := hR1 ++ bTape (rp 4)
def hR3 : List va_E := hR2 ++ bSt 1 (rp 6)
def hR4 : List va_E := hR3 ++ bSt 1 (rp 18)
def hR5 : List va_E := hR4 ++ bSt 1 (rp 30)
def hR6 : List va_E := hR5 ++ bPast 1 (rp 42)
def hR7 : List va_E := hR6 ++ bCut 4 (rp 188)
def hR8 : List va_E := hR7 ++ bDoor 188 6 18 (rp 192)
def hR9 : List va_E := hR8 ++ bLR 188 (rp 194)
def hR10 : List va_E := hR9 ++ bSaid (rp 196)
def hR11 : List va_E := hR10 ++ bMar (rp 203)
theorem hR1_l : hR1.length = 3 := by unfold hR1; rw [List.length_append, show hR0.length = 0 from rfl]; rfl
theorem hR2_l : hR2.length = 5 := by unfold hR2; rw [List.length_append, hR1_l]; rfl
theorem hR3_l : hR3.length = 17 := by unfold hR3; rw [List.length_append, hR2_l]; rfl
theorem hR4_l : hR4.length = 29 := by unfold hR4; rw [List.length_append, hR3_l]; rfl
theorem hR5_l : hR5.length = 41 := by unfold hR5; rw [List.length_append, hR4_l]; rfl
theorem hR6_l : hR6.length = 187 := by unfold hR6; rw [List.length_append, hR5_l]; rw [show (bPast 1 (rp 42)).length = 146 from pT_len _ _ _]
theorem hR7_l : hR7.length = 191 := by unfold hR7; rw [List.length_append, hR6_l]; rfl
theorem hR8_l : hR8.length = 193 := by unfold hR8; rw [List.length_append, hR7_l]; rfl
theorem hR9_l : hR9.length = 195 := by unfold hR9; rw [List.length_append, hR8_l]; rfl
theorem hR10_l : hR10.length = 202 := by unfold hR10; rw [List.length_append, hR9_l]; rfl
theorem hR11_l : hR11.length = 205 := by unfold hR11; rw [List.length_append, hR10_l]; rfl
set_option maxRecDepth 100000 in
set_option maxHeartbeats 4000000 in
theorem hf_e {F : Nat} (hF : 20 < F) : fX11_init F 0 (ofL [.inr (11, [.null, .null, .null, .null, .null, .null, .null, .null, .null, .int 0, .int 0])]) = some (ofL (.inr (11, [.ref 4, .ref 6, .ref 18, .ref 30, .ref 42, .ref 192, .ref 194, .ref 196, .ref 203, .int 0, .int (-1 : Int32)]) :: hR11)) := by
  unfold fX11_init
  show _ = some (ofL (.inr (11, [.ref 4, .ref 6, .ref 18, .ref 30, .ref 42, .ref 192, .ref 194, .ref 196, .ref 203, .int 0, .int (-1 : Int32)]) :: hR11))
  have l0 : ([.inr (11, [.null, .null, .null, .null, .null, .null, .null, .null, .null, .int 0, .int 0])] : List va_E).length = 1 := rfl
  have m0 : (ofL ([.inr (11, [.null, .null, .null, .null, .null, .null, .null, .null, .null, .int 0, .int 0])] : List va_E)).1 = 1 := l0
  show ab_bd (ab_nw (ofL ([.inr (11, [.null, .null, .null, .null, .null, .null, .null, .null, .null, .int 0, .int 0])] : List va_E)) 2 [.int 0, .null, .null]) _ = _
  refine (bd_e (of_nw (l := ([.inr (11, [.null, .null, .null, .null, .null, .null, .null, .null, .null, .int 0, .int 0])] : List va_E)) (ci := 2) (fs := [.int 0, .null, .null]) (by rw [l0]; decide))).trans ?_
  rw [m0]
  have q0 := bLaw_e ([.inr (11, [.null, .null, .null, .null, .null, .null, .null, .null, .null, .int 0, .int 0])] : List va_E) (by rw [l0]; decide)
  rw [bLaw_n l0, l0] at q0
  refine (bd_e (show _ = some (ofL (.inr (11, [.null, .null, .null, .null, .null, .null, .null, .null, .null, .int 0, .int 0]) :: hR1)) from q0)).trans ?_
  have l1 : (.inr (11, [.null, .null, .null, .null, .null, .null, .null, .null, .null, .int 0, .int 0]) :: hR1).length = 4 := congrArg (· + 1) hR1_l
  have m1 : (ofL (.inr (11, [.null, .null, .null, .null, .null, .null, .null, .null, .null, .int 0, .int 0]) :: hR1)).1 = 4 := l1
  refine (bd_e (of_nw (l := (.inr (11, [.null, .null, .null, .null, .null, .null, .null, .null, .null, .int 0, .int 0]) :: hR1)) (ci := 9) (fs := [.null, .int 0]) (by rw [l1]; decide))).trans ?_
  rw [m1]
  have q1 := bTape_e (.inr (11, [.null, .null, .null, .null, .null, .null, .null, .null, .null, .int 0, .int 0]) :: hR1) (by rw [l1]; decide)
  rw [bTape_n l1, l1] at q1
  refine (bd_e (show _ = some (ofL (.inr (11, [.null, .null, .null, .null, .null, .null, .null, .null, .null, .int 0, .int 0]) :: hR2)) from q1)).trans ?_
  refine (bd_e (show ab_fw (ofL (.inr (11, [.null, .null, .null, .null, .null, .null, .null, .null, .null, .int 0, .int 0]) :: hR2)) 0 11 0 (.ref 4) = some (ofL (.inr (11, [.ref 4, .null, .null, .null, .null, .null, .null, .null, .null, .int 0, .int 0]) :: hR2)) from of_fw (Nat.le_of_ble_eq_true rfl))).trans ?_
  have l2 : (.inr (11, [.ref 4, .null, .null, .null, .null, .null, .null, .null, .null, .int 0, .int 0]) :: hR2).length = 6 := congrArg (· + 1) hR2_l
  have m2 : (ofL (.inr (11, [.ref 4, .null, .null, .null, .null, .null, .null, .null, .null, .int 0, .int 0]) :: hR2)).1 = 6 := l2
  refine (bd_e (of_nw (l := (.inr (11, [.ref 4, .null, .null, .null, .null, .null, .null, .null, .null, .int 0, .int 0]) :: hR2)) (ci := 8) (fs := [.int 0, .int 0, .int 0, .int 0, .int 0, .int 0, .int 0, .null, .null, .null, .null, .null, .null, .null, .null, .null, .null, .null]) (by rw [l2]; decide))).trans ?_
  rw [m2]
  have q2 := bSt_e 1 hF (.inr (11, [.ref 4, .null, .null, .null, .null, .null, .null, .null, .null, .int 0, .int 0]) :: hR2) (by rw [l2]; decide)
  rw [bSt_n 1 l2, l2] at q2
  refine (bd_e (show _ = some (ofL (.inr (11, [.ref 4, .null, .null, .null, .null, .null, .null, .null, .null, .int 0, .int 0]) :: hR3)) from q2)).trans ?_
  refine (bd_e (show ab_fw (ofL (.inr (11, [.ref 4, .null, .null, .null, .null, .null, .null, .null, .null, .int 0, .int 0]) :: hR3)) 0 11 1 (.ref 6) = some (ofL (.inr (11, [.ref 4, .ref 6, .null, .null, .null, .null, .null, .null, .null, .int 0, .int 0]) :: hR3)) from of_fw (Nat.le_of_ble_eq_true rfl))).trans ?_
  have l3 : (.inr (11, [.ref 4, .ref 6, .null, .null, .null, .null, .null, .null, .null, .int 0, .int 0]) :: hR3).length = 18 := congrArg (· + 1) hR3_l
  have m3 : (ofL (.inr (11, [.ref 4, .ref 6, .null, .null, .null, .null, .null, .null, .null, .int 0, .int 0]) :: hR3)).1 = 18 := l3
  refine (bd_e (of_nw (l := (.inr (11, [.ref 4, .ref 6, .null, .null, .null, .null, .null, .null, .null, .int 0, .int 0]) :: hR3)) (ci := 8) (fs := [.int 0, .int 0, .int 0, .int 0, .int 0, .int 0, .int 0, .null, .null, .null, .null, .null, .null, .null, .null, .null, .null, .null]) (by rw [l3]; decide))).trans ?_
  rw [m3]
  have q3 := bSt_e 1 hF (.inr (11, [.ref 4, .ref 6, .null, .null, .null, .null, .null, .null, .null, .int 0, .int 0]) :: hR3) (by rw [l3]; decide)
  rw [bSt_n 1 l3, l3] at q3
  refine (bd_e (show _ = some (ofL (.inr (11, [.ref 4, .ref 6, .null, .null, .null, .null, .null, .null, .null, .int 0, .int 0]) :: hR4)) from q3)).trans ?_
  refine (bd_e (show ab_fw (ofL (.inr (11, [.ref 4, .ref 6, .null, .null, .null, .null, .null, .null, .null, .int 0, .int 0]) :: hR4)) 0 11 2 (.ref 18) = some (ofL (.inr (11, [.ref 4, .ref 6, .ref 18, .null, .null, .null, .null, .null, .null, .int 0, .int 0]) :: hR4)) from of_fw (Nat.le_of_ble_eq_true rfl))).trans ?_
  have l4 : (.inr (11, [.ref 4, .ref 6, .ref 18, .null, .null, .null, .null, .null, .null, .int 0, .int 0]) :: hR4).length = 30 := congrArg (· + 1) hR4_l
  have m4 : (ofL (.inr (11, [.ref 4, .ref 6, .ref 18, .null, .null, .null, .null, .null, .null, .int 0, .int 0]) :: hR4)).1 = 30 := l4
  refine (bd_e (of_nw (l := (.inr (11, [.ref 4, .ref 6, .ref 18, .null, .null, .null, .null, .null, .null, .int 0, .int 0]) :: hR4)) (ci := 8) (fs := [.int 0, .int 0, .int 0, .int 0, .int 0, .int 0, .int 0, .null, .null, .null, .null, .null, .null, .null, .null, .null, .null, .null]) (by rw [l4]; decide))).trans ?_
  rw [m4]
  have q4 := bSt_e 1 hF (.inr (11, [.ref 4, .ref 6, .ref 18, .null, .null, .null, .null, .null, .null, .int 0, .int 0]) :: hR4) (by rw [l4]; decide)
  rw [bSt_n 1 l4, l4] at q4
  refine (bd_e (show _ = some (ofL (.inr (11, [.ref 4, .ref 6, .ref 18, .null, .null, .null, .null, .null, .null, .int 0, .int 0]) :: hR5)) from q4)).trans ?_
  refine (bd_e (show ab_fw (ofL (.inr (11, [.ref 4, .ref 6, .ref 18, .null, .null, .null, .null, .null, .null, .int 0, .int 0]) :: hR5)) 0 11 3 (.ref 30) = some (ofL (.inr (11, [.ref 4, .ref 6, .ref 18, .ref 30, .null, .null, .null, .null, .null, .int 0, .int 0]) :: hR5)) from of_fw (Nat.le_of_ble_eq_true rfl))).trans ?_
  have l5 : (.inr (11, [.ref 4, .ref 6, .ref 18, .ref 30, .null, .null, .null, .null, .null, .int 0, .int 0]) :: hR5).length = 42 := congrArg (· + 1) hR5_l
  have m5 : (ofL (.inr (11, [.ref 4, .ref 6, .ref 18, .ref 30, .null, .null, .null, .null, .null, .int 0, .int 0]) :: hR5)).1 = 42 := l5
  refine (bd_e (of_nw (l := (.inr (11, [.ref 4, .ref 6, .ref 18, .ref 30, .null, .null, .null, .null, .null, .int 0, .int 0]) :: hR5)) (ci := 6) (fs := [.null, .int 0, .int 0]) (by rw [l5]; decide))).trans ?_
  rw [m5]
  have q5 := bPast_e 1 hF (.inr (11, [.ref 4, .ref 6, .ref 18, .ref 30, .null, .null, .null, .null, .null, .int 0, .int 0]) :: hR5) (by rw [l5]; decide)
  rw [bPast_n 1 l5, l5] at q5
  refine (bd_e (show _ = some (ofL (.inr (11, [.ref 4, .ref 6, .ref 18, .ref 30, .null, .null, .null, .null, .null, .int 0, .int 0]) :: hR6)) from q5)).trans ?_
  refine (bd_e (show ab_fw (ofL (.inr (11, [.ref 4, .ref 6, .ref 18, .ref 30, .null, .null, .null, .null, .null, .int 0, .int 0]) :: hR6)) 0 11 4 (.ref 42) = some (ofL (.inr (11, [.ref 4, .ref 6, .ref 18, .ref 30, .ref 42, .null, .null, .null, .null, .int 0, .int 0]) :: hR6)) from of_fw (Nat.le_of_ble_eq_true rfl))).trans ?_
  have l6 : (.inr (11, [.ref 4, .ref 6, .ref 18, .ref 30, .ref 42, .null, .null, .null, .null, .int 0, .int 0]) :: hR6).length = 188 := congrArg (· + 1) hR6_l
  have m6 : (ofL (.inr (11, [.ref 4, .ref 6, .ref 18, .ref 30, .ref 42, .null, .null, .null, .null, .int 0, .int 0]) :: hR6)).1 = 188 := l6
  refine (bd_e (of_nw (l := (.inr (11, [.ref 4, .ref 6, .ref 18, .ref 30, .ref 42, .null, .null, .null, .null, .int 0, .int 0]) :: hR6)) (ci := 0) (fs := [.null, .null, .null, .null, .int 0]) (by rw [l6]; decide))).trans ?_
  rw [m6]
  refine (bd_e (show ab_fr (ofL ((.inr (11, [.ref 4, .ref 6, .ref 18, .ref 30, .ref 42, .null, .null, .null, .null, .int 0, .int 0]) :: hR6) ++ [.inr (0, [.null, .null, .null, .null, .int 0])])) 0 11 0 = some 4 from of_fr rfl)).trans ?_
  have q6 := bCut_e 4 (.inr (11, [.ref 4, .ref 6, .ref 18, .ref 30, .ref 42, .null, .null, .null, .null, .int 0, .int 0]) :: hR6) (by rw [l6]; decide)
  rw [bCut_n 4 l6, l6] at q6
  refine (bd_e (show _ = some (ofL (.inr (11, [.ref 4, .ref 6, .ref 18, .ref 30, .ref 42, .null, .null, .null, .null, .int 0, .int 0]) :: hR7)) from q6)).trans ?_
  have l7 : (.inr (11, [.ref 4, .ref 6, .ref 18, .ref 30, .ref 42, .null, .null, .null, .null, .int 0, .int 0]) :: hR7).length = 192 := congrArg (· + 1) hR7_l
  have m7 : (ofL (.inr (11, [.ref 4, .ref 6, .ref 18, .ref 30, .ref 42, .null, .null, .null, .null, .int 0, .int 0]) :: hR7)).1 = 192 := l7
  refine (bd_e (of_nw (l := (.inr (11, [.ref 4, .ref 6, .ref 18, .ref 30, .ref 42, .null, .null, .null, .null, .int 0, .int 0]) :: hR7)) (ci := 1) (fs := [.null, .int 0, .int 0, .int 0, .null, .null, .null]) (by rw [l7]; decide))).trans ?_
  rw [m7]
  refine (bd_e (show ab_fr (ofL ((.inr (11, [.ref 4, .ref 6, .ref 18, .ref 30, .ref 42, .null, .null, .null, .null, .int 0, .int 0]) :: hR7) ++ [.inr (1, [.null, .int 0, .int 0, .int 0, .null, .null, .null])])) 0 11 1 = some 6 from of_fr rfl)).trans ?_
  refine (bd_e (show ab_fr (ofL ((.inr (11, [.ref 4, .ref 6, .ref 18, .ref 30, .ref 42, .null, .null, .null, .null, .int 0, .int 0]) :: hR7) ++ [.inr (1, [.null, .int 0, .int 0, .int 0, .null, .null, .null])])) 0 11 2 = some 18 from of_fr rfl)).trans ?_
  have q7 := bDoor_e 188 6 18 (.inr (11, [.ref 4, .ref 6, .ref 18, .ref 30, .ref 42, .null, .null, .null, .null, .int 0, .int 0]) :: hR7) (by rw [l7]; decide)
  rw [bDoor_n 188 6 18 l7, l7] at q7
  refine (bd_e (show _ = some (ofL (.inr (11, [.ref 4, .ref 6, .ref 18, .ref 30, .ref 42, .null, .null, .null, .null, .int 0, .int 0]) :: hR8)) from q7)).trans ?_
  refine (bd_e (show ab_fw (ofL (.inr (11, [.ref 4, .ref 6, .ref 18, .ref 30, .ref 42, .null, .null, .null, .null, .int 0, .int 0]) :: hR8)) 0 11 5 (.ref 192) = some (ofL (.inr (11, [.ref 4, .ref 6, .ref 18, .ref 30, .ref 42, .ref 192, .null, .null, .null, .int 0, .int 0]) :: hR8)) from of_fw (Nat.le_of_ble_eq_true rfl))).trans ?_
  have l8 : (.inr (11, [.ref 4, .ref 6, .ref 18, .ref 30, .ref 42, .ref 192, .null, .null, .null, .int 0, .int 0]) :: hR8).length = 194 := congrArg (· + 1) hR8_l
  have m8 : (ofL (.inr (11, [.ref 4, .ref 6, .ref 18, .ref 30, .ref 42, .ref 192, .null, .null, .null, .int 0, .int 0]) :: hR8)).1 = 194 := l8
  refine (bd_e (of_nw (l := (.inr (11, [.ref 4, .ref 6, .ref 18, .ref 30, .ref 42, .ref 192, .null, .null, .null, .int 0, .int 0]) :: hR8)) (ci := 3) (fs := [.null, .int 0, .int 0, .int 0, .null, .int 0]) (by rw [l8]; decide))).trans ?_
  rw [m8]
  have q8 := bLR_e 188 (.inr (11, [.ref 4, .ref 6, .ref 18, .ref 30, .ref 42, .ref 192, .null, .null, .null, .int 0, .int 0]) :: hR8) (by rw [l8]; decide)
  rw [bLR_n 188 l8, l8] at q8
  refine (bd_e (show _ = some (ofL (.inr (11, [.ref 4, .ref 6, .ref 18, .ref 30, .ref 42, .ref 192, .null, .null, .null, .int 0, .int 0]) :: hR9)) from q8)).trans ?_
  refine (bd_e (show ab_fw (ofL (.inr (11, [.ref 4, .ref 6, .ref 18, .ref 30, .ref 42, .ref 192, .null, .null, .null, .int 0, .int 0]) :: hR9)) 0 11 6 (.ref 194) = some (ofL (.inr (11, [.ref 4, .ref 6, .ref 18, .ref 30, .ref 42, .ref 192, .ref 194, .null, .null, .int 0, .int 0]) :: hR9)) from of_fw (Nat.le_of_ble_eq_true rfl))).trans ?_
  have l9 : (.inr (11, [.ref 4, .ref 6, .ref 18, .ref 30, .ref 42, .ref 192, .ref 194, .null, .null, .int 0, .int 0]) :: hR9).length = 196 := congrArg (· + 1) hR9_l
  have m9 : (ofL (.inr (11, [.ref 4, .ref 6, .ref 18, .ref 30, .ref 42, .ref 192, .ref 194, .null, .null, .int 0, .int 0]) :: hR9)).1 = 196 := l9
  refine (bd_e (of_nw (l := (.inr (11, [.ref 4, .ref 6, .ref 18, .ref 30, .ref 42, .ref 192, .ref 194, .null, .null, .int 0, .int 0]) :: hR9)) (ci := 7) (fs := [.null, .null, .null, .null, .null, .null, .int 0, .int 0, .int 0]) (by rw [l9]; decide))).trans ?_
  rw [m9]
  have q9 := bSaid_e (.inr (11, [.ref 4, .ref 6, .ref 18, .ref 30, .ref 42, .ref 192, .ref 194, .null, .null, .int 0, .int 0]) :: hR9) (by rw [l9]; decide)
  rw [bSaid_n l9, l9] at q9
  refine (bd_e (show _ = some (ofL (.inr (11, [.ref 4, .ref 6, .ref 18, .ref 30, .ref 42, .ref 192, .ref 194, .null, .null, .int 0, .int 0]) :: hR10)) from q9)).trans ?_
  refine (bd_e (show ab_fw (ofL (.inr (11, [.ref 4, .ref 6, .ref 18, .ref 30, .ref 42, .ref 192, .ref 194, .null, .null, .int 0, .int 0]) :: hR10)) 0 11 7 (.ref 196) = some (ofL (.inr (11, [.ref 4, .ref 6, .ref 18, .ref 30, .ref 42, .ref 192, .ref 194, .ref 196, .null, .int 0, .int 0]) :: hR10)) from of_fw (Nat.le_of_ble_eq_true rfl))).trans ?_
  have l10 : (.inr (11, [.ref 4, .ref 6, .ref 18, .ref 30, .ref 42, .ref 192, .ref 194, .ref 196, .null, .int 0, .int 0]) :: hR10).length = 203 := congrArg (· + 1) hR10_l
  have m10 : (ofL (.inr (11, [.ref 4, .ref 6, .ref 18, .ref 30, .ref 42, .ref 192, .ref 194, .ref 196, .null, .int 0, .int 0]) :: hR10)).1 = 203 := l10
  refine (bd_e (of_nw (l := (.inr (11, [.ref 4, .ref 6, .ref 18, .ref 30, .ref 42, .ref 192, .ref 194, .ref 196, .null, .int 0, .int 0]) :: hR10)) (ci := 5) (fs := [.null, .null]) (by rw [l10]; decide))).trans ?_
  rw [m10]
  have q10 := bMar_e (.inr (11, [.ref 4, .ref 6, .ref 18, .ref 30, .ref 42, .ref 192, .ref 194, .ref 196, .null, .int 0, .int 0]) :: hR10) (by rw [l10]; decide)
  rw [bMar_n l10, l10] at q10
  refine (bd_e (show _ = some (ofL (.inr (11, [.ref 4, .ref 6, .ref 18, .ref 30, .ref 42, .ref 192, .ref 194, .ref 196, .null, .int 0, .int 0]) :: hR11)) from q10)).trans ?_
  refine (bd_e (show ab_fw (ofL (.inr (11, [.ref 4, .ref 6, .ref 18, .ref 30, .ref 42, .ref 192, .ref 194, .ref 196, .null, .int 0, .int 0]) :: hR11)) 0 11 8 (.ref 203) = some (ofL (.inr (11, [.ref 4, .ref 6, .ref 18, .ref 30, .ref 42, .ref 192, .ref 194, .ref 196, .ref 203, .int 0, .int 0]) :: hR11)) from of_fw (Nat.le_of_ble_eq_true rfl))).trans ?_
  refine (bd_e (show ab_fw (ofL (.inr (11, [.ref 4, .ref 6, .ref 18, .ref 30, .ref 42, .ref 192, .ref 194, .ref 196, .ref 203, .int 0, .int 0]) :: hR11)) 0 11 10 (.int (-1 : Int32)) = some (ofL (.inr (11, [.ref 4, .ref 6, .ref 18, .ref 30, .ref 42, .ref 192, .ref 194, .ref 196, .ref 203, .int 0, .int (-1 : Int32)]) :: hR11)) from of_fw (Nat.le_of_ble_eq_true rfl))).trans ?_
  rfl
