variable {Nq : Nat}
/-! ===== the reference goes alike, whatever the array out (cell 219) holds (by program, gen_frame.py) ===== -/
def uoe (φ : Nat → Int64) (e : va_E) : va_E := match e with
  | .inl (1, 1, .inr (.inl _)) => .inl (1, 1, .inr (.inl φ))
  | e => e
def Uo (φ : Nat → Int64) (h : ab_H) : ab_H := (h.1, fun a => if a = 219 then uoe φ (h.2 219) else h.2 a)
theorem oid {α : Type} {o : Option α} : o.map (fun y => y) = o := by cases o <;> rfl
theorem uo_ne (φ : Nat → Int64) (h : ab_H) {a : Nat} (ha : ¬ a = 219) : (Uo φ h).2 a = h.2 a := if_neg ha
theorem uo_at (φ : Nat → Int64) (h : ab_H) : (Uo φ h).2 219 = uoe φ (h.2 219) := rfl
theorem uoe_cases (φ : Nat → Int64) (e : va_E) : (∃ f, e = .inl (1, 1, .inr (.inl f)) ∧ uoe φ e = .inl (1, 1, .inr (.inl φ))) ∨ uoe φ e = e := by
  unfold uoe
  split
  · exact Or.inl ⟨_, rfl, rfl⟩
  · exact Or.inr rfl
theorem uoe_i (φ : Nat → Int64) (kd n : Nat) (f : Nat → Int32) : uoe φ (.inl (kd, n, .inl f)) = .inl (kd, n, .inl f) := by
  rcases uoe_cases φ (.inl (kd, n, .inl f)) with ⟨f', h1, _⟩ | h1
  · cases h1
  · exact h1
theorem uo_cases (φ : Nat → Int64) (h : ab_H) (a : Nat) : (Uo φ h).2 a = h.2 a ∨ (a = 219 ∧ ∃ f, h.2 a = .inl (1, 1, .inr (.inl f)) ∧ (Uo φ h).2 a = .inl (1, 1, .inr (.inl φ))) := by
  by_cases ha : a = 219
  · subst ha
    rcases uoe_cases φ (h.2 219) with ⟨f, h1, h2⟩ | h1
    · exact Or.inr ⟨rfl, f, h1, (uo_at φ h).trans h2⟩
    · exact Or.inl ((uo_at φ h).trans h1)
  · exact Or.inl (uo_ne φ h ha)
theorem uo_fi (φ : Nat → Int64) (h : ab_H) (a ci k : Nat) : ab_fi (Uo φ h) a ci k = ab_fi h a ci k := by
  unfold ab_fi
  rcases uo_cases φ h a with e | ⟨-, f, e1, e2⟩
  · rw [e]; rfl
  · rw [e1, e2]
theorem uo_fr (φ : Nat → Int64) (h : ab_H) (a ci k : Nat) : ab_fr (Uo φ h) a ci k = ab_fr h a ci k := by
  unfold ab_fr
  rcases uo_cases φ h a with e | ⟨-, f, e1, e2⟩
  · rw [e]; rfl
  · rw [e1, e2]
theorem uo_io (φ : Nat → Int64) (h : ab_H) (a ci : Nat) : ab_io (Uo φ h) a ci = ab_io h a ci := by
  unfold ab_io
  rcases uo_cases φ h a with e | ⟨-, f, e1, e2⟩
  · rw [e]; rfl
  · rw [e1, e2]
theorem uo_ia (φ : Nat → Int64) (kd : Nat) (h : ab_H) (a : Nat) (i : Int32) : ab_ia kd (Uo φ h) a i = ab_ia kd h a i := by
  unfold ab_ia
  rcases uo_cases φ h a with e | ⟨-, f, e1, e2⟩
  · rw [e]; rfl
  · rw [e1, e2]
theorem uo_up (φ : Nat → Int64) (h : ab_H) (a : Nat) (e : va_E) (he : uoe φ e = e) : ab_up (Uo φ h) a e = Uo φ (ab_up h a e) := by
  unfold ab_up Uo
  refine Prod.ext rfl (funext fun b => ?_)
  show va_up _ a e b = _
  unfold va_up
  by_cases hb : b = 219
  · subst hb
    by_cases ha : 219 = a
    · subst ha; simp only [if_true]; exact he.symm
    · simp only [if_neg ha, if_true]
  · by_cases ha : b = a
    · subst ha; simp only [if_true, if_neg hb]
    · simp only [if_neg ha, if_neg hb]
theorem uo_fw (φ : Nat → Int64) (h : ab_H) (a ci k : Nat) (v : Value) : ab_fw (Uo φ h) a ci k v = (ab_fw h a ci k v).map (Uo φ) := by
  unfold ab_fw
  rcases uo_cases φ h a with e | ⟨-, f, e1, e2⟩
  · rw [e]
    split
    · rename_i c fs he
      by_cases hc : a < h.1 ∧ c = ci ∧ k < fs.length
      · rw [if_pos (show a < (Uo φ h).1 ∧ c = ci ∧ k < fs.length from hc), if_pos hc]
        exact congrArg some (uo_up φ h a _ rfl)
      · rw [if_neg (show ¬ (a < (Uo φ h).1 ∧ c = ci ∧ k < fs.length) from hc), if_neg hc]; rfl
    · rfl
  · rw [e1, e2]; rfl
theorem uo_iw (φ : Nat → Int64) (kd : Nat) (h : ab_H) (a : Nat) (i x : Int32) : ab_iw kd (Uo φ h) a i x = (ab_iw kd h a i x).map (Uo φ) := by
  unfold ab_iw
  rcases uo_cases φ h a with e | ⟨-, f, e1, e2⟩
  · rw [e]
    split
    · rename_i k n f he
      by_cases hc : a < h.1 ∧ k = kd ∧ ¬ (i < 0 ∨ n ≤ i.toNatClampNeg)
      · rw [if_pos (show a < (Uo φ h).1 ∧ k = kd ∧ ¬ (i < 0 ∨ n ≤ i.toNatClampNeg) from hc), if_pos hc]
        exact congrArg some (uo_up φ h a _ (uoe_i φ _ _ _))
      · rw [if_neg (show ¬ (a < (Uo φ h).1 ∧ k = kd ∧ ¬ (i < 0 ∨ n ≤ i.toNatClampNeg)) from hc), if_neg hc]; rfl
    · rfl
  · rw [e1, e2]; rfl
section PR
variable {φ : Nat → Int64} {α β ρ ρ' : Type} {S : ρ' → ρ}
theorem pr_rd {x x' : Option α} {u : α → Option ρ} {u' : α → Option ρ'} (e : x = x') (k : ∀ v, u v = (u' v).map S) : ab_bd x u = (ab_bd x' u').map S := by
  subst e; cases x with
  | none => rfl
  | some v => exact k v
theorem pr_wr {x x' : Option ab_H} {u : ab_H → Option ρ} {u' : ab_H → Option ρ'} (e : x = x'.map (Uo φ)) (k : ∀ h, u (Uo φ h) = (u' h).map S) : ab_bd x u = (ab_bd x' u').map S := by
  subst e; cases x' with
  | none => rfl
  | some v => exact k v
theorem pr_pr {x x' : Option (Int32 × ab_H)} {u : Int32 × ab_H → Option ρ} {u' : Int32 × ab_H → Option ρ'} (e : x = x'.map (fun y => (y.1, Uo φ y.2))) (k : ∀ y, u (y.1, Uo φ y.2) = (u' y).map S) : ab_bd x u = (ab_bd x' u').map S := by
  subst e; cases x' with
  | none => rfl
  | some v => exact k v
theorem pr_ck {b b' : Bool} {t : Option ρ} {t' : Option ρ'} (e : b = b') (k : t = t'.map S) : ab_ck (b = true) t = (ab_ck (b' = true) t').map S := by
  subst e; subst k; unfold ab_ck; split <;> rfl
theorem pr_cn {c : Prop} [Decidable c] {t : Option ρ} {t' : Option ρ'} (k : t = t'.map S) : ab_ck c t = (ab_ck c t').map S := by
  subst k; unfold ab_ck; split <;> rfl
theorem pr_cb {x : Int32} {t : Option ρ} {t' : Option ρ'} (k : t = t'.map S) : ab_cb x t = (ab_cb x t').map S := by
  subst k; unfold ab_cb; split <;> rfl
theorem pr_if {c : Prop} [Decidable c] {a b : Option ρ} {a' b' : Option ρ'} (k1 : a = a'.map S) (k2 : b = b'.map S) : (if c then a else b) = (if c then a' else b').map S := by
  subst k1; subst k2; split <;> rfl
theorem pr_jn {κ : Type} (P : κ → κ → Prop) {lam lam' : κ} {b : κ → Option ρ} {b' : κ → Option ρ'} (k1 : P lam lam') (k2 : ∀ j j', P j j' → b j = (b' j').map S) : ab_jn lam b = (ab_jn lam' b').map S := k2 _ _ k1
end PR
set_option maxRecDepth 100000 in
set_option maxHeartbeats 4000000 in
theorem pf_X12_thrown (φ : Nat → Int64) (x0 : Nat) (h : ab_H) : fX12_thrown x0 (Uo φ h) = (fX12_thrown x0 h).map (fun y => y) := by
  unfold fX12_thrown
  refine pr_rd (uo_fi φ _ _ _ _) (fun v1 => ?_)
  rfl
set_option maxRecDepth 100000 in
set_option maxHeartbeats 4000000 in
theorem pf_X12_isIn (φ : Nat → Int64) (x0 : Int32) (x1 : Int32) (x2 : Int32) (h : ab_H) : fX12_isIn x0 x1 x2 (Uo φ h) = (fX12_isIn x0 x1 x2 h).map (fun y => y) := by
  unfold fX12_isIn
  refine pr_if ?_ ?_
  · rfl
  · refine pr_if ?_ ?_
    · rfl
    · rfl
set_option maxRecDepth 100000 in
set_option maxHeartbeats 4000000 in
theorem pf_X12_lesser (φ : Nat → Int64) (x0 : Int32) (x1 : Int32) (h : ab_H) : fX12_lesser x0 x1 (Uo φ h) = (fX12_lesser x0 x1 h).map (fun y => y) := by
  unfold fX12_lesser
  refine pr_if ?_ ?_
  · rfl
  · rfl
set_option maxRecDepth 100000 in
set_option maxHeartbeats 4000000 in
theorem pf_X12_greater (φ : Nat → Int64) (x0 : Int32) (x1 : Int32) (h : ab_H) : fX12_greater x0 x1 (Uo φ h) = (fX12_greater x0 x1 h).map (fun y => y) := by
  unfold fX12_greater
  refine pr_if ?_ ?_
  · rfl
  · rfl
set_option maxRecDepth 100000 in
set_option maxHeartbeats 4000000 in
theorem pf_X12_isOf (φ : Nat → Int64) (x0 : Int32) (x1 : Int32) (h : ab_H) : fX12_isOf x0 x1 (Uo φ h) = (fX12_isOf x0 x1 h).map (fun y => y) := by
  unfold fX12_isOf
  refine pr_if ?_ ?_
  · rfl
  · rfl
set_option maxRecDepth 100000 in
set_option maxHeartbeats 4000000 in
theorem pf_X12_bits_4 (φ : Nat → Int64) (x0 : Int32) (h : ab_H) : ∀ (n : Nat) (x1 : Int32) (x2 : Int32), fX12_bits_4 x0 (Uo φ h) n x1 x2 = (fX12_bits_4 x0 h n x1 x2).map (fun y => y) := by
  intro n
  induction n with
  | zero => intro x1 x2; rfl
  | succ n ih =>
    intro x1 x2
    rw [fX12_bits_4, fX12_bits_4]
    refine pr_if ?_ ?_
    · exact ih (x1 + ((x0 >>> (x2 &&& 31)) &&& (nI 1))) (x2 + nI 1)
    · rfl
set_option maxRecDepth 100000 in
set_option maxHeartbeats 4000000 in
theorem pf_X12_bits (φ : Nat → Int64) (F : Nat) (x0 : Int32) (h : ab_H) : fX12_bits F x0 (Uo φ h) = (fX12_bits F x0 h).map (fun y => y) := by
  unfold fX12_bits
  exact pf_X12_bits_4 φ x0 h F (nI 0) (nI 0)
set_option maxRecDepth 100000 in
set_option maxHeartbeats 4000000 in
theorem pf_X12_of (φ : Nat → Int64) (x0 : Nat) (x1 : Int32) (x2 : Int32) (h : ab_H) : fX12_of x0 x1 x2 (Uo φ h) = (fX12_of x0 x1 x2 h).map (fun y => y) := by
  unfold fX12_of
  refine pr_rd (uo_fr φ _ _ _ _) (fun v1 => ?_)
  refine pr_rd (uo_ia φ _ _ _ _) (fun v2 => ?_)
  rfl
set_option maxRecDepth 100000 in
set_option maxHeartbeats 4000000 in
theorem pf_X12_has (φ : Nat → Int64) (x0 : Nat) (x1 : Int32) (x2 : Int32) (x3 : Int32) (h : ab_H) : fX12_has x0 x1 x2 x3 (Uo φ h) = (fX12_has x0 x1 x2 x3 h).map (Uo φ) := by
  unfold fX12_has
  refine pr_rd (uo_fr φ _ _ _ _) (fun v1 => ?_)
  refine pr_wr (uo_iw φ _ _ _ _ _) (fun h2 => ?_)
  rfl
set_option maxRecDepth 100000 in
set_option maxHeartbeats 4000000 in
theorem pf_X12_isPerson (φ : Nat → Int64) (x0 : Nat) (x1 : Int32) (h : ab_H) : fX12_isPerson x0 x1 (Uo φ h) = (fX12_isPerson x0 x1 h).map (fun y => y) := by
  unfold fX12_isPerson
  refine pr_rd (uo_fr φ _ _ _ _) (fun v1 => ?_)
  refine pr_rd (uo_ia φ _ _ _ _) (fun v2 => ?_)
  refine pr_rd ((pf_X12_isIn φ _ _ _ _).trans oid) (fun v3 => ?_)
  refine pr_cb ?_
  rfl
set_option maxRecDepth 100000 in
set_option maxHeartbeats 4000000 in
theorem pf_X12_isHook (φ : Nat → Int64) (x0 : Nat) (x1 : Int32) (h : ab_H) : fX12_isHook x0 x1 (Uo φ h) = (fX12_isHook x0 x1 h).map (fun y => y) := by
  unfold fX12_isHook
  refine pr_rd (uo_fr φ _ _ _ _) (fun v1 => ?_)
  refine pr_rd (uo_ia φ _ _ _ _) (fun v2 => ?_)
  refine pr_rd ((pf_X12_isIn φ _ _ _ _).trans oid) (fun v3 => ?_)
  refine pr_cb ?_
  rfl
set_option maxRecDepth 100000 in
set_option maxHeartbeats 4000000 in
theorem pf_X12_thought (φ : Nat → Int64) (x0 : Nat) (x1 : Int32) (x2 : Int32) (h : ab_H) : fX12_thought x0 x1 x2 (Uo φ h) = (fX12_thought x0 x1 x2 h).map (fun y => y) := by
  unfold fX12_thought
  refine pr_rd (uo_fr φ _ _ _ _) (fun v1 => ?_)
  refine pr_rd (uo_ia φ _ _ _ _) (fun v2 => ?_)
  rfl
set_option maxRecDepth 100000 in
set_option maxHeartbeats 4000000 in
theorem pf_X12_wearer_2 (φ : Nat → Int64) (x0 : Nat) (x1 : Int32) (h : ab_H) : ∀ (n : Nat) (x2 : Int32), fX12_wearer_2 x0 x1 (Uo φ h) n x2 = (fX12_wearer_2 x0 x1 h n x2).map (fun y => y) := by
  intro n
  induction n with
  | zero => intro x2; rfl
  | succ n ih =>
    intro x2
    rw [fX12_wearer_2, fX12_wearer_2]
    refine pr_rd (uo_fr φ _ _ _ _) (fun v1 => ?_)
    refine pr_rd (uo_ia φ _ _ _ _) (fun v2 => ?_)
    refine pr_if ?_ ?_
    · refine pr_ck (uo_io φ _ _ _) ?_
      refine pr_rd ((pf_X12_of φ _ _ _ _).trans oid) (fun v4 => ?_)
      refine pr_if ?_ ?_
      · rfl
      · exact ih (x2 + nI 1)
    · rfl
set_option maxRecDepth 100000 in
set_option maxHeartbeats 4000000 in
theorem pf_X12_wearer (φ : Nat → Int64) (F : Nat) (x0 : Nat) (x1 : Int32) (h : ab_H) : fX12_wearer F x0 x1 (Uo φ h) = (fX12_wearer F x0 x1 h).map (fun y => y) := by
  unfold fX12_wearer
  exact pf_X12_wearer_2 φ x0 x1 h F (nI 0)
set_option maxRecDepth 100000 in
set_option maxHeartbeats 4000000 in
theorem pf_X12_hookOf_2 (φ : Nat → Int64) (x0 : Nat) (x1 : Int32) (h : ab_H) : ∀ (n : Nat) (x2 : Int32), fX12_hookOf_2 x0 x1 (Uo φ h) n x2 = (fX12_hookOf_2 x0 x1 h n x2).map (fun y => y) := by
  intro n
  induction n with
  | zero => intro x2; rfl
  | succ n ih =>
    intro x2
    rw [fX12_hookOf_2, fX12_hookOf_2]
    refine pr_rd (uo_fr φ _ _ _ _) (fun v1 => ?_)
    refine pr_rd (uo_ia φ _ _ _ _) (fun v2 => ?_)
    refine pr_if ?_ ?_
    · refine pr_rd (uo_fr φ _ _ _ _) (fun v4 => ?_)
      refine pr_rd (uo_ia φ _ _ _ _) (fun v5 => ?_)
      refine pr_if ?_ ?_
      · rfl
      · exact ih (x2 + nI 1)
    · rfl
set_option maxRecDepth 100000 in
set_option maxHeartbeats 4000000 in
theorem pf_X12_hookOf (φ : Nat → Int64) (F : Nat) (x0 : Nat) (x1 : Int32) (h : ab_H) : fX12_hookOf F x0 x1 (Uo φ h) = (fX12_hookOf F x0 x1 h).map (fun y => y) := by
  unfold fX12_hookOf
  exact pf_X12_hookOf_2 φ x0 x1 h F (nI 0)
set_option maxRecDepth 100000 in
set_option maxHeartbeats 4000000 in
theorem pf_X12_hung_4 (φ : Nat → Int64) (x0 : Nat) (h : ab_H) : ∀ (n : Nat) (x1 : Int32) (x2 : Int32), fX12_hung_4 x0 (Uo φ h) n x1 x2 = (fX12_hung_4 x0 h n x1 x2).map (fun y => y) := by
  intro n
  induction n with
  | zero => intro x1 x2; rfl
  | succ n ih =>
    intro x1 x2
    rw [fX12_hung_4, fX12_hung_4]
    refine pr_rd (uo_fr φ _ _ _ _) (fun v1 => ?_)
    refine pr_rd (uo_ia φ _ _ _ _) (fun v2 => ?_)
    refine pr_if ?_ ?_
    · refine pr_rd (uo_fr φ _ _ _ _) (fun v4 => ?_)
      refine pr_rd (uo_ia φ _ _ _ _) (fun v5 => ?_)
      refine pr_if ?_ ?_
      · exact ih (x1 + (nI 0)) (x2 + nI 1)
      · exact ih (x1 + (nI 1)) (x2 + nI 1)
    · rfl
set_option maxRecDepth 100000 in
set_option maxHeartbeats 4000000 in
theorem pf_X12_hung (φ : Nat → Int64) (F : Nat) (x0 : Nat) (h : ab_H) : fX12_hung F x0 (Uo φ h) = (fX12_hung F x0 h).map (fun y => y) := by
  unfold fX12_hung
  exact pf_X12_hung_4 φ x0 h F (nI 0) (nI 0)
set_option maxRecDepth 100000 in
set_option maxHeartbeats 4000000 in
theorem pf_X12_hasTicketOf_2 (φ : Nat → Int64) (x0 : Nat) (x1 : Int32) (h : ab_H) : ∀ (n : Nat) (x2 : Int32), fX12_hasTicketOf_2 x0 x1 (Uo φ h) n x2 = (fX12_hasTicketOf_2 x0 x1 h n x2).map (fun y => y) := by
  intro n
  induction n with
  | zero => intro x2; rfl
  | succ n ih =>
    intro x2
    rw [fX12_hasTicketOf_2, fX12_hasTicketOf_2]
    refine pr_rd (uo_fr φ _ _ _ _) (fun v1 => ?_)
    refine pr_rd (uo_ia φ _ _ _ _) (fun v2 => ?_)
    refine pr_if ?_ ?_
    · refine pr_ck (uo_io φ _ _ _) ?_
      refine pr_rd ((pf_X12_of φ _ _ _ _).trans oid) (fun v4 => ?_)
      refine pr_if ?_ ?_
      · rfl
      · exact ih (x2 + nI 1)
    · rfl
set_option maxRecDepth 100000 in
set_option maxHeartbeats 4000000 in
theorem pf_X12_hasTicketOf (φ : Nat → Int64) (F : Nat) (x0 : Nat) (x1 : Int32) (h : ab_H) : fX12_hasTicketOf F x0 x1 (Uo φ h) = (fX12_hasTicketOf F x0 x1 h).map (fun y => y) := by
  unfold fX12_hasTicketOf
  exact pf_X12_hasTicketOf_2 φ x0 x1 h F (nI 0)
set_option maxRecDepth 100000 in
set_option maxHeartbeats 4000000 in
theorem pf_X12_feed_23 (φ : Nat → Int64) (x0 : Nat) (x1 : Int32) (x2 : Int32) (x3 : Int32) (x4 : Int32) (x5 : Int32) : ∀ (n : Nat) (x6 : Int32) (h : ab_H), fX12_feed_23 x0 x1 x2 x3 x4 x5 n x6 (Uo φ h) = (fX12_feed_23 x0 x1 x2 x3 x4 x5 n x6 h).map (fun y => (y.1, Uo φ y.2)) := by
  intro n
  induction n with
  | zero => intro x6 h; rfl
  | succ n ih =>
    intro x6 h
    rw [fX12_feed_23, fX12_feed_23]
    refine pr_if ?_ ?_
    · refine pr_jn (fun j j' : Int32 → Option (Int32 × ab_H) => ∀ (z0_ : Int32), j z0_ = (j' z0_).map (fun y => (y.1, Uo φ y.2))) ?_ (fun j12 j12' hj12 => ?_)
      · intro z5
        refine pr_rd (uo_fr φ _ _ _ _) (fun v6 => ?_)
        refine pr_rd (uo_fi φ _ _ _ _) (fun v7 => ?_)
        refine pr_cn ?_
        refine pr_wr (uo_iw φ _ _ _ _ _) (fun h9 => ?_)
        refine pr_rd (uo_fi φ _ _ _ _) (fun v10 => ?_)
        refine pr_wr (uo_fw φ _ _ _ _ _) (fun h11 => ?_)
        exact ih (x6 + nI 1) h11
      · refine pr_if ?_ ?_
        · exact hj12 x1
        · refine pr_if ?_ ?_
          · exact hj12 x2
          · refine pr_if ?_ ?_
            · exact hj12 x3
            · refine pr_if ?_ ?_
              · exact hj12 x4
              · exact hj12 x5
    · refine pr_rd (uo_fi φ _ _ _ _) (fun v17 => ?_)
      rfl
set_option maxRecDepth 100000 in
set_option maxHeartbeats 4000000 in
theorem pf_X12_feed (φ : Nat → Int64) (F : Nat) (x0 : Nat) (x1 : Int32) (x2 : Int32) (x3 : Int32) (x4 : Int32) (x5 : Int32) (h : ab_H) : fX12_feed F x0 x1 x2 x3 x4 x5 (Uo φ h) = (fX12_feed F x0 x1 x2 x3 x4 x5 h).map (fun y => (y.1, Uo φ y.2)) := by
  unfold fX12_feed
  refine pr_wr (uo_fw φ _ _ _ _ _) (fun h1 => ?_)
  refine pr_rd (uo_fi φ _ _ _ _) (fun v2 => ?_)
  refine pr_if ?_ ?_
  · exact pf_X12_feed_23 φ x0 x1 x2 x3 x4 x5 F (nI 0) h1
  · rfl
set_option maxRecDepth 100000 in
set_option maxHeartbeats 4000000 in
theorem pf_X12_end (φ : Nat → Int64) (x0 : Nat) (x1 : Int32) (h : ab_H) : fX12_end x0 x1 (Uo φ h) = (fX12_end x0 x1 h).map (fun y => (y.1, Uo φ y.2)) := by
  unfold fX12_end
  refine pr_wr (uo_fw φ _ _ _ _ _) (fun h1 => ?_)
  refine pr_rd (uo_fi φ _ _ _ _) (fun v2 => ?_)
  refine pr_rd ((pf_X12_isIn φ _ _ _ _).trans oid) (fun v3 => ?_)
  refine pr_if ?_ ?_
  · rfl
  · refine pr_wr (uo_fw φ _ _ _ _ _) (fun h5 => ?_)
    rfl
set_option maxRecDepth 100000 in
set_option maxHeartbeats 4000000 in
theorem pf_X12_letter (φ : Nat → Int64) (x0 : Nat) (x1 : Int32) (h : ab_H) : fX12_letter x0 x1 (Uo φ h) = (fX12_letter x0 x1 h).map (fun y => y) := by
  unfold fX12_letter
  refine pr_rd (uo_fi φ _ _ _ _) (fun v1 => ?_)
  refine pr_if ?_ ?_
  · refine pr_rd (uo_fr φ _ _ _ _) (fun v3 => ?_)
    refine pr_rd (uo_ia φ _ _ _ _) (fun v4 => ?_)
    rfl
  · refine pr_rd (uo_fr φ _ _ _ _) (fun v5 => ?_)
    refine pr_rd (uo_fi φ _ _ _ _) (fun v6 => ?_)
    refine pr_rd (uo_ia φ _ _ _ _) (fun v7 => ?_)
    rfl
set_option maxRecDepth 100000 in
set_option maxHeartbeats 4000000 in
theorem pf_X12_skip_0 (φ : Nat → Int64) (x0 : Nat) : ∀ (n : Nat) (h : ab_H), fX12_skip_0 x0 n (Uo φ h) = (fX12_skip_0 x0 n h).map (Uo φ) := by
  intro n
  induction n with
  | zero => intro h; rfl
  | succ n ih =>
    intro h
    rw [fX12_skip_0, fX12_skip_0]
    refine pr_rd (uo_fi φ _ _ _ _) (fun v1 => ?_)
    refine pr_rd (uo_fi φ _ _ _ _) (fun v2 => ?_)
    refine pr_if ?_ ?_
    · refine pr_rd (uo_fi φ _ _ _ _) (fun v4 => ?_)
      refine pr_ck (uo_io φ _ _ _) ?_
      refine pr_rd ((pf_X12_letter φ _ _ _).trans oid) (fun v5 => ?_)
      refine pr_if ?_ ?_
      · refine pr_rd (uo_fi φ _ _ _ _) (fun v7 => ?_)
        refine pr_wr (uo_fw φ _ _ _ _ _) (fun h8 => ?_)
        exact ih h8
      · rfl
    · rfl
set_option maxRecDepth 100000 in
set_option maxHeartbeats 4000000 in
theorem pf_X12_skip (φ : Nat → Int64) (F : Nat) (x0 : Nat) (h : ab_H) : fX12_skip F x0 (Uo φ h) = (fX12_skip F x0 h).map (Uo φ) := by
  unfold fX12_skip
  exact pf_X12_skip_0 φ x0 F h
set_option maxRecDepth 100000 in
set_option maxHeartbeats 4000000 in
theorem pf_X12_isSign (φ : Nat → Int64) (F : Nat) (x0 : Nat) (x1 : Int32) (h : ab_H) : fX12_isSign F x0 x1 (Uo φ h) = (fX12_isSign F x0 x1 h).map (fun y => (y.1, Uo φ y.2)) := by
  unfold fX12_isSign
  refine pr_ck (uo_io φ _ _ _) ?_
  refine pr_wr (pf_X12_skip φ _ _ _) (fun h1 => ?_)
  refine pr_rd (uo_fi φ _ _ _ _) (fun v2 => ?_)
  refine pr_rd (uo_fi φ _ _ _ _) (fun v3 => ?_)
  refine pr_if ?_ ?_
  · refine pr_rd (uo_fi φ _ _ _ _) (fun v5 => ?_)
    refine pr_ck (uo_io φ _ _ _) ?_
    refine pr_rd ((pf_X12_letter φ _ _ _).trans oid) (fun v6 => ?_)
    refine pr_if ?_ ?_
    · rfl
    · rfl
  · rfl
set_option maxRecDepth 100000 in
set_option maxHeartbeats 4000000 in
theorem pf_X12_isFigure (φ : Nat → Int64) (F : Nat) (x0 : Nat) (h : ab_H) : fX12_isFigure F x0 (Uo φ h) = (fX12_isFigure F x0 h).map (fun y => (y.1, Uo φ y.2)) := by
  unfold fX12_isFigure
  refine pr_ck (uo_io φ _ _ _) ?_
  refine pr_wr (pf_X12_skip φ _ _ _) (fun h1 => ?_)
  refine pr_rd (uo_fi φ _ _ _ _) (fun v2 => ?_)
  refine pr_rd (uo_fi φ _ _ _ _) (fun v3 => ?_)
  refine pr_if ?_ ?_
  · refine pr_rd (uo_fi φ _ _ _ _) (fun v5 => ?_)
    refine pr_ck (uo_io φ _ _ _) ?_
    refine pr_rd ((pf_X12_letter φ _ _ _).trans oid) (fun v6 => ?_)
    refine pr_rd ((pf_X12_isIn φ _ _ _ _).trans oid) (fun v7 => ?_)
    refine pr_if ?_ ?_
    · rfl
    · rfl
  · rfl
set_option maxRecDepth 100000 in
set_option maxHeartbeats 4000000 in
theorem pf_X12_has__9 (φ : Nat → Int64) (F : Nat) (x0 : Nat) (x1 : Nat) (h : ab_H) {k38 k38' : Int32 → Option (Int32 × ab_H)} (hk38 : ∀ (z0_ : Int32), k38 z0_ = (k38' z0_).map (fun y => (y.1, Uo φ y.2))) : ∀ (n : Nat) (x2 : Int32), fX12_has__9 F x0 x1 (Uo φ h) k38 n x2 = (fX12_has__9 F x0 x1 h k38' n x2).map (fun y => (y.1, Uo φ y.2)) := by
  intro n
  induction n with
  | zero => intro x2; rfl
  | succ n ih =>
    intro x2
    rw [fX12_has__9, fX12_has__9]
    refine pr_rd (uo_fi φ _ _ _ _) (fun v3 => ?_)
    refine pr_if ?_ ?_
    · refine pr_ck (uo_io φ _ _ _) ?_
      refine pr_rd ((pf_X12_letter φ _ _ _).trans oid) (fun v5 => ?_)
      refine pr_rd ((pf_X12_isIn φ _ _ _ _).trans oid) (fun v6 => ?_)
      refine pr_if ?_ ?_
      · exact hk38 x2
      · exact ih (x2 + nI 1)
    · exact hk38 x2
set_option maxRecDepth 100000 in
set_option maxHeartbeats 4000000 in
theorem pf_X12_has__55 (φ : Nat → Int64) (F : Nat) (x0 : Nat) (x1 : Nat) (x2 : Int32) (h : ab_H) : ∀ (n : Nat) (x3 : Int32), fX12_has__55 F x0 x1 x2 (Uo φ h) n x3 = (fX12_has__55 F x0 x1 x2 h n x3).map (fun y => (y.1, Uo φ y.2)) := by
  intro n
  induction n with
  | zero => intro x3; rfl
  | succ n ih =>
    intro x3
    rw [fX12_has__55, fX12_has__55]
    refine pr_rd rfl (fun v12 => ?_)
    refine pr_if ?_ ?_
    · refine pr_rd (uo_fi φ _ _ _ _) (fun v14 => ?_)
      refine pr_ck (uo_io φ _ _ _) ?_
      refine pr_rd ((pf_X12_letter φ _ _ _).trans oid) (fun v15 => ?_)
      refine pr_rd rfl (fun v16 => ?_)
      refine pr_if ?_ ?_
      · exact ih (x3 + nI 1)
      · rfl
    · refine pr_wr (uo_fw φ _ _ _ _ _) (fun h18 => ?_)
      rfl
set_option maxRecDepth 100000 in
set_option maxHeartbeats 4000000 in
theorem pf_X12_has_ (φ : Nat → Int64) (F : Nat) (x0 : Nat) (x1 : Nat) (h : ab_H) : fX12_has_ F x0 x1 (Uo φ h) = (fX12_has_ F x0 x1 h).map (fun y => (y.1, Uo φ y.2)) := by
  unfold fX12_has_
  refine pr_ck (uo_io φ _ _ _) ?_
  refine pr_wr (pf_X12_skip φ _ _ _) (fun h1 => ?_)
  refine pr_rd (uo_fi φ _ _ _ _) (fun v2 => ?_)
  refine pf_X12_has__9 φ F x0 x1 h1 (fun z8 => ?_) F v2
  · refine pr_rd (uo_fi φ _ _ _ _) (fun v9 => ?_)
    refine pr_rd rfl (fun v10 => ?_)
    refine pr_if ?_ ?_
    · exact pf_X12_has__55 φ F x0 x1 z8 h1 F (nI 0)
    · rfl
set_option maxRecDepth 100000 in
set_option maxHeartbeats 4000000 in
theorem pf_X12_wrong (φ : Nat → Int64) (x0 : Nat) (x1 : Int32) (h : ab_H) : fX12_wrong x0 x1 (Uo φ h) = (fX12_wrong x0 x1 h).map (Uo φ) := by
  unfold fX12_wrong
  refine pr_rd (uo_fi φ _ _ _ _) (fun v1 => ?_)
  refine pr_if ?_ ?_
  · refine pr_wr (uo_fw φ _ _ _ _ _) (fun h3 => ?_)
    rfl
  · rfl
set_option maxRecDepth 100000 in
set_option maxHeartbeats 4000000 in
theorem pf_X12_place (φ : Nat → Int64) (F : Nat) (x0 : Nat) (h : ab_H) : fX12_place F x0 (Uo φ h) = (fX12_place F x0 h).map (fun y => (y.1, Uo φ y.2)) := by
  unfold fX12_place
  refine pr_ck (uo_io φ _ _ _) ?_
  refine pr_wr (pf_X12_skip φ _ _ _) (fun h1 => ?_)
  refine pr_rd (uo_fi φ _ _ _ _) (fun v2 => ?_)
  rfl
set_option maxRecDepth 100000 in
set_option maxHeartbeats 4000000 in
theorem pf_X12_figures_18 (φ : Nat → Int64) (F : Nat) (x0 : Nat) (x1 : Int32) (x2 : Int32) (x3 : Int32) {k89 k89' : Int32 → ab_H → Option (Int32 × ab_H)} (hk89 : ∀ (z0_ : Int32) (z1_ : ab_H), k89 z0_ (Uo φ z1_) = (k89' z0_ z1_).map (fun y => (y.1, Uo φ y.2))) : ∀ (n : Nat) (x4 : Int32) (h : ab_H), fX12_figures_18 F x0 x1 x2 x3 k89 n x4 (Uo φ h) = (fX12_figures_18 F x0 x1 x2 x3 k89' n x4 h).map (fun y => (y.1, Uo φ y.2)) := by
  intro n
  induction n with
  | zero => intro x4 h; rfl
  | succ n ih =>
    intro x4 h
    rw [fX12_figures_18, fX12_figures_18]
    refine pr_rd (uo_fi φ _ _ _ _) (fun v4 => ?_)
    refine pr_rd (uo_fi φ _ _ _ _) (fun v5 => ?_)
    refine pr_if ?_ ?_
    · refine pr_rd (uo_fi φ _ _ _ _) (fun v7 => ?_)
      refine pr_ck (uo_io φ _ _ _) ?_
      refine pr_rd ((pf_X12_letter φ _ _ _).trans oid) (fun v8 => ?_)
      refine pr_rd ((pf_X12_isIn φ _ _ _ _).trans oid) (fun v9 => ?_)
      refine pr_if ?_ ?_
      · exact hk89 x4 h
      · refine pr_rd (uo_fi φ _ _ _ _) (fun v11 => ?_)
        refine pr_if ?_ ?_
        · refine pr_rd (uo_fi φ _ _ _ _) (fun v13 => ?_)
          refine pr_ck (uo_io φ _ _ _) ?_
          refine pr_rd ((pf_X12_letter φ _ _ _).trans oid) (fun v14 => ?_)
          refine pr_rd (uo_fi φ _ _ _ _) (fun v15 => ?_)
          refine pr_wr (uo_fw φ _ _ _ _ _) (fun h16 => ?_)
          exact ih ((((nI 10) * x4) + v14) - (nI 48)) h16
        · exact hk89 x4 h
    · exact hk89 x4 h
set_option maxRecDepth 100000 in
set_option maxHeartbeats 4000000 in
theorem pf_X12_figures (φ : Nat → Int64) (F : Nat) (x0 : Nat) (x1 : Int32) (x2 : Int32) (h : ab_H) : fX12_figures F x0 x1 x2 (Uo φ h) = (fX12_figures F x0 x1 x2 h).map (fun y => (y.1, Uo φ y.2)) := by
  unfold fX12_figures
  refine pr_rd (uo_fi φ _ _ _ _) (fun v1 => ?_)
  refine pr_if ?_ ?_
  · refine pr_ck (uo_io φ _ _ _) ?_
    refine pr_pr (pf_X12_place φ _ _ _) (fun v3 => ?_)
    refine pf_X12_figures_18 φ F x0 x1 x2 v3.1 (fun z17 h18 => ?_) F (nI 0) v3.2
    · refine pr_rd (uo_fi φ _ _ _ _) (fun v19 => ?_)
      refine pr_jn (fun j j' : Option (Int32 × ab_H) => j = (j').map (fun y => (y.1, Uo φ y.2))) ?_ (fun j21 j21' hj21 => ?_)
      · refine pr_ck (uo_io φ _ _ _) ?_
        refine pr_wr (pf_X12_wrong φ _ _ _) (fun h20 => ?_)
        rfl
      · refine pr_if ?_ ?_
        · exact hj21
        · refine pr_rd (uo_fi φ _ _ _ _) (fun v23 => ?_)
          refine pr_if ?_ ?_
          · refine pr_if ?_ ?_
            · exact hj21
            · refine pr_if ?_ ?_
              · rfl
              · exact hj21
          · exact hj21
  · rfl
set_option maxRecDepth 100000 in
set_option maxHeartbeats 4000000 in
theorem pf_X12_eight_22 (φ : Nat → Int64) (F : Nat) (x0 : Nat) (x1 : Int32) {k122 k122' : Int32 → Int32 → Int32 → ab_H → Option (Int32 × ab_H)} (hk122 : ∀ (z0_ : Int32) (z1_ : Int32) (z2_ : Int32) (z3_ : ab_H), k122 z0_ z1_ z2_ (Uo φ z3_) = (k122' z0_ z1_ z2_ z3_).map (fun y => (y.1, Uo φ y.2))) : ∀ (n : Nat) (x2 : Int32) (x3 : Int32) (x4 : Int32) (h : ab_H), fX12_eight_22 F x0 x1 k122 n x2 x3 x4 (Uo φ h) = (fX12_eight_22 F x0 x1 k122' n x2 x3 x4 h).map (fun y => (y.1, Uo φ y.2)) := by
  intro n
  induction n with
  | zero => intro x2 x3 x4 h; rfl
  | succ n ih =>
    intro x2 x3 x4 h
    rw [fX12_eight_22, fX12_eight_22]
    refine pr_rd (uo_fi φ _ _ _ _) (fun v4 => ?_)
    refine pr_rd (uo_fi φ _ _ _ _) (fun v5 => ?_)
    refine pr_if ?_ ?_
    · refine pr_rd (uo_fi φ _ _ _ _) (fun v7 => ?_)
      refine pr_ck (uo_io φ _ _ _) ?_
      refine pr_rd ((pf_X12_letter φ _ _ _).trans oid) (fun v8 => ?_)
      refine pr_rd ((pf_X12_isIn φ _ _ _ _).trans oid) (fun v9 => ?_)
      refine pr_if ?_ ?_
      · exact hk122 x2 x3 x4 h
      · refine pr_jn (fun j j' : Int32 → Option (Int32 × ab_H) => ∀ (z0_ : Int32), j z0_ = (j' z0_).map (fun y => (y.1, Uo φ y.2))) ?_ (fun j20 j20' hj20 => ?_)
        · intro z11
          refine pr_jn (fun j j' : Int32 → Option (Int32 × ab_H) => ∀ (z0_ : Int32), j z0_ = (j' z0_).map (fun y => (y.1, Uo φ y.2))) ?_ (fun j15 j15' hj15 => ?_)
          · intro z12
            refine pr_rd (uo_fi φ _ _ _ _) (fun v13 => ?_)
            refine pr_wr (uo_fw φ _ _ _ _ _) (fun h14 => ?_)
            exact ih z12 (x3 + nI 1) z11 h14
          · refine pr_if ?_ ?_
            · exact hj15 x2
            · refine pr_rd (uo_fi φ _ _ _ _) (fun v17 => ?_)
              refine pr_ck (uo_io φ _ _ _) ?_
              refine pr_rd ((pf_X12_letter φ _ _ _).trans oid) (fun v18 => ?_)
              refine pr_if ?_ ?_
              · exact hj15 (x2 ||| ((nI 1) <<< (x3 &&& 31)))
              · exact hj15 x2
        · refine pr_jn (fun j j' : Option (Int32 × ab_H) => j = (j').map (fun y => (y.1, Uo φ y.2))) ?_ (fun j21 j21' hj21 => ?_)
          · exact hj20 (nI 0)
          · refine pr_if ?_ ?_
            · exact hj21
            · refine pr_rd (uo_fi φ _ _ _ _) (fun v23 => ?_)
              refine pr_ck (uo_io φ _ _ _) ?_
              refine pr_rd ((pf_X12_letter φ _ _ _).trans oid) (fun v24 => ?_)
              refine pr_if ?_ ?_
              · refine pr_if ?_ ?_
                · exact hj20 (nI 1)
                · exact hj21
              · exact hj21
    · exact hk122 x2 x3 x4 h
set_option maxRecDepth 100000 in
set_option maxHeartbeats 4000000 in
theorem pf_X12_eight (φ : Nat → Int64) (F : Nat) (x0 : Nat) (h : ab_H) : fX12_eight F x0 (Uo φ h) = (fX12_eight F x0 h).map (fun y => (y.1, Uo φ y.2)) := by
  unfold fX12_eight
  refine pr_rd (uo_fi φ _ _ _ _) (fun v1 => ?_)
  refine pr_if ?_ ?_
  · refine pr_ck (uo_io φ _ _ _) ?_
    refine pr_pr (pf_X12_place φ _ _ _) (fun v3 => ?_)
    refine pf_X12_eight_22 φ F x0 v3.1 (fun z27 z28 z29 h30 => ?_) F (nI 0) (nI 0) (nI 1) v3.2
    · refine pr_jn (fun j j' : Option (Int32 × ab_H) => j = (j').map (fun y => (y.1, Uo φ y.2))) ?_ (fun j32 j32' hj32 => ?_)
      · refine pr_ck (uo_io φ _ _ _) ?_
        refine pr_wr (pf_X12_wrong φ _ _ _) (fun h31 => ?_)
        rfl
      · refine pr_if ?_ ?_
        · exact hj32
        · refine pr_if ?_ ?_
          · rfl
          · exact hj32
  · rfl
set_option maxRecDepth 100000 in
set_option maxHeartbeats 4000000 in
theorem pf_X12_personLine_95 (φ : Nat → Int64) (F : Nat) (x0 : Nat) (x4 : Int32) : ∀ (n : Nat) (x5 : Int32) (h : ab_H), fX12_personLine_95 F x0 x4 n x5 (Uo φ h) = (fX12_personLine_95 F x0 x4 n x5 h).map (Uo φ) := by
  intro n
  induction n with
  | zero => intro x5 h; rfl
  | succ n ih =>
    intro x5 h
    rw [fX12_personLine_95, fX12_personLine_95]
    refine pr_if ?_ ?_
    · refine pr_rd (uo_fr φ _ _ _ _) (fun v17 => ?_)
      refine pr_wr (uo_iw φ _ _ _ _ _) (fun h18 => ?_)
      refine pr_rd (uo_fr φ _ _ _ _) (fun v19 => ?_)
      refine pr_wr (uo_iw φ _ _ _ _ _) (fun h20 => ?_)
      refine pr_rd (uo_fr φ _ _ _ _) (fun v21 => ?_)
      refine pr_wr (uo_iw φ _ _ _ _ _) (fun h22 => ?_)
      exact ih (x5 + nI 1) h22
    · refine pr_rd (uo_fr φ _ _ _ _) (fun v23 => ?_)
      refine pr_rd (uo_ia φ _ _ _ _) (fun v24 => ?_)
      refine pr_wr (uo_iw φ _ _ _ _ _) (fun h25 => ?_)
      rfl
set_option maxRecDepth 100000 in
set_option maxHeartbeats 4000000 in
theorem pf_X12_personLine (φ : Nat → Int64) (F : Nat) (x0 : Nat) (x1 : Int32) (h : ab_H) : fX12_personLine F x0 x1 (Uo φ h) = (fX12_personLine F x0 x1 h).map (Uo φ) := by
  unfold fX12_personLine
  refine pr_rd (uo_fr φ _ _ _ _) (fun v1 => ?_)
  refine pr_rd (uo_ia φ _ _ _ _) (fun v2 => ?_)
  refine pr_jn (fun j j' : ab_H → Option ab_H => ∀ (z0_ : ab_H), j (Uo φ z0_) = (j' z0_).map (Uo φ)) ?_ (fun j26 j26' hj26 => ?_)
  · intro h3
    refine pr_ck (uo_io φ _ _ _) ?_
    refine pr_pr (pf_X12_eight φ _ _ _) (fun v4 => ?_)
    refine pr_ck (uo_io φ _ _ _) ?_
    refine pr_pr (pf_X12_eight φ _ _ _) (fun v5 => ?_)
    refine pr_rd (uo_fi φ _ _ _ _) (fun v6 => ?_)
    refine pr_if ?_ ?_
    · refine pr_rd (uo_fr φ _ _ _ _) (fun v8 => ?_)
      refine pr_rd (uo_ia φ _ _ _ _) (fun v9 => ?_)
      refine pr_ck (uo_io φ _ _ _) ?_
      refine pr_wr (pf_X12_has φ _ _ _ _ _) (fun h10 => ?_)
      refine pr_ck (uo_io φ _ _ _) ?_
      refine pr_wr (pf_X12_has φ _ _ _ _ _) (fun h11 => ?_)
      refine pr_ck (uo_io φ _ _ _) ?_
      refine pr_wr (pf_X12_has φ _ _ _ _ _) (fun h12 => ?_)
      refine pr_ck (uo_io φ _ _ _) ?_
      refine pr_wr (pf_X12_has φ _ _ _ _ _) (fun h13 => ?_)
      refine pr_ck (uo_io φ _ _ _) ?_
      refine pr_wr (pf_X12_has φ _ _ _ _ _) (fun h14 => ?_)
      refine pr_ck (uo_io φ _ _ _) ?_
      refine pr_wr (pf_X12_has φ _ _ _ _ _) (fun h15 => ?_)
      exact pf_X12_personLine_95 φ F x0 v9 F (nI 0) h15
    · rfl
  · refine pr_if ?_ ?_
    · refine pr_ck (uo_io φ _ _ _) ?_
      refine pr_wr (pf_X12_wrong φ _ _ _) (fun h28 => ?_)
      exact hj26 h28
    · exact hj26 h
set_option maxRecDepth 100000 in
set_option maxHeartbeats 4000000 in
theorem pf_X12_wishLine_42 (φ : Nat → Int64) (F : Nat) (x0 : Nat) (x5 : Int32) {k130 k130' : Int32 → Int32 → ab_H → Option ab_H} (hk130 : ∀ (z0_ : Int32) (z1_ : Int32) (z2_ : ab_H), k130 z0_ z1_ (Uo φ z2_) = (k130' z0_ z1_ z2_).map (Uo φ)) : ∀ (n : Nat) (x2 : Int32) (x3 : Int32) (x4 : Int32) (h : ab_H), fX12_wishLine_42 F x0 x5 k130 n x2 x3 x4 (Uo φ h) = (fX12_wishLine_42 F x0 x5 k130' n x2 x3 x4 h).map (Uo φ) := by
  intro n
  induction n with
  | zero => intro x2 x3 x4 h; rfl
  | succ n ih =>
    intro x2 x3 x4 h
    rw [fX12_wishLine_42, fX12_wishLine_42]
    refine pr_if ?_ ?_
    · exact hk130 x2 x3 h
    · refine pr_ck (uo_io φ _ _ _) ?_
      refine pr_pr (pf_X12_place φ _ _ _) (fun v7 => ?_)
      refine pr_rd (uo_fr φ _ _ _ _) (fun v8 => ?_)
      refine pr_rd (uo_ia φ _ _ _ _) (fun v9 => ?_)
      refine pr_ck (uo_io φ _ _ _) ?_
      refine pr_pr (pf_X12_figures φ _ _ _ _ _) (fun v10 => ?_)
      refine pr_rd (uo_fi φ _ _ _ _) (fun v11 => ?_)
      refine pr_jn (fun j j' : ab_H → Option ab_H => ∀ (z0_ : ab_H), j (Uo φ z0_) = (j' z0_).map (Uo φ)) ?_ (fun j18 j18' hj18 => ?_)
      · intro h12
        refine pr_rd (uo_fi φ _ _ _ _) (fun v13 => ?_)
        refine pr_if ?_ ?_
        · refine pr_rd (uo_fr φ _ _ _ _) (fun v15 => ?_)
          refine pr_wr (uo_iw φ _ _ _ _ _) (fun h16 => ?_)
          refine pr_ck (uo_io φ _ _ _) ?_
          refine pr_pr (pf_X12_isFigure φ _ _ _) (fun v17 => ?_)
          exact ih (x2 ||| ((nI 1) <<< (v10.1 &&& 31))) (x3 + nI 1) v17.1 v17.2
        · rfl
      · refine pr_if ?_ ?_
        · refine pr_rd ((pf_X12_isOf φ _ _ _).trans oid) (fun v20 => ?_)
          refine pr_if ?_ ?_
          · exact hj18 v10.2
          · refine pr_ck (uo_io φ _ _ _) ?_
            refine pr_wr (pf_X12_wrong φ _ _ _) (fun h22 => ?_)
            exact hj18 h22
        · exact hj18 v10.2
set_option maxRecDepth 100000 in
set_option maxHeartbeats 4000000 in
theorem pf_X12_wishLine_142 (φ : Nat → Int64) (F : Nat) (x0 : Nat) (x2 : Int32) (x5 : Int32) : ∀ (n : Nat) (x3 : Int32) (x6 : Int32) (h : ab_H), fX12_wishLine_142 F x0 x2 x5 n x3 x6 (Uo φ h) = (fX12_wishLine_142 F x0 x2 x5 n x3 x6 h).map (Uo φ) := by
  intro n
  induction n with
  | zero => intro x3 x6 h; rfl
  | succ n ih =>
    intro x3 x6 h
    rw [fX12_wishLine_142, fX12_wishLine_142]
    refine pr_if ?_ ?_
    · refine pr_rd ((pf_X12_isOf φ _ _ _).trans oid) (fun v29 => ?_)
      refine pr_if ?_ ?_
      · refine pr_rd (uo_fr φ _ _ _ _) (fun v31 => ?_)
        refine pr_wr (uo_iw φ _ _ _ _ _) (fun h32 => ?_)
        exact ih (x3 + nI 1) (x6 + nI 1) h32
      · exact ih x3 (x6 + nI 1) h
    · rfl
set_option maxRecDepth 100000 in
set_option maxHeartbeats 4000000 in
theorem pf_X12_wishLine (φ : Nat → Int64) (F : Nat) (x0 : Nat) (h : ab_H) : fX12_wishLine F x0 (Uo φ h) = (fX12_wishLine F x0 h).map (Uo φ) := by
  unfold fX12_wishLine
  refine pr_rd (uo_fr φ _ _ _ _) (fun v1 => ?_)
  refine pr_rd (uo_ia φ _ _ _ _) (fun v2 => ?_)
  refine pr_ck (uo_io φ _ _ _) ?_
  refine pr_pr (pf_X12_figures φ _ _ _ _ _) (fun v3 => ?_)
  refine pr_rd (uo_fi φ _ _ _ _) (fun v4 => ?_)
  refine pr_if ?_ ?_
  · refine pf_X12_wishLine_42 φ F x0 ((nI 72) + ((nI 10) * v3.1)) (fun z23 z24 h25 => ?_) F (nI 0) (nI 0) (nI 1) v3.2
    · refine pr_rd (uo_fi φ _ _ _ _) (fun v26 => ?_)
      refine pr_if ?_ ?_
      · exact pf_X12_wishLine_142 φ F x0 z23 ((nI 72) + ((nI 10) * v3.1)) F z24 (nI 0) h25
      · rfl
  · refine pf_X12_wishLine_42 φ F x0 ((nI 72) + ((nI 10) * v3.1)) (fun z33 z34 h35 => ?_) F (nI 0) (nI 0) (nI 0) v3.2
    · refine pr_rd (uo_fi φ _ _ _ _) (fun v36 => ?_)
      refine pr_if ?_ ?_
      · exact pf_X12_wishLine_142 φ F x0 z33 ((nI 72) + ((nI 10) * v3.1)) F z34 (nI 0) h35
      · rfl
set_option maxRecDepth 100000 in
set_option maxHeartbeats 4000000 in
theorem pf_X12_single (φ : Nat → Int64) (F : Nat) (x0 : Nat) (x1 : Int32) (h : ab_H) : fX12_single F x0 x1 (Uo φ h) = (fX12_single F x0 x1 h).map (fun y => (y.1, Uo φ y.2)) := by
  unfold fX12_single
  refine pr_ck (uo_io φ _ _ _) ?_
  refine pr_pr (pf_X12_place φ _ _ _) (fun v1 => ?_)
  refine pr_rd (uo_fr φ _ _ _ _) (fun v2 => ?_)
  refine pr_rd (uo_ia φ _ _ _ _) (fun v3 => ?_)
  refine pr_ck (uo_io φ _ _ _) ?_
  refine pr_pr (pf_X12_figures φ _ _ _ _ _) (fun v4 => ?_)
  refine pr_rd (uo_fi φ _ _ _ _) (fun v5 => ?_)
  refine pr_if ?_ ?_
  · refine pr_jn (fun j j' : Option (Int32 × ab_H) => j = (j').map (fun y => (y.1, Uo φ y.2))) ?_ (fun j8 j8' hj8 => ?_)
    · refine pr_ck (uo_io φ _ _ _) ?_
      refine pr_wr (pf_X12_wrong φ _ _ _) (fun h7 => ?_)
      rfl
    · refine pr_if ?_ ?_
      · exact hj8
      · refine pr_ck (uo_io φ _ _ _) ?_
        refine pr_rd ((pf_X12_of φ _ _ _ _).trans oid) (fun v10 => ?_)
        refine pr_if ?_ ?_
        · rfl
        · exact hj8
  · rfl
set_option maxRecDepth 100000 in
set_option maxHeartbeats 4000000 in
theorem pf_X12_wedLine (φ : Nat → Int64) (F : Nat) (x0 : Nat) (h : ab_H) : fX12_wedLine F x0 (Uo φ h) = (fX12_wedLine F x0 h).map (Uo φ) := by
  unfold fX12_wedLine
  refine pr_ck (uo_io φ _ _ _) ?_
  refine pr_pr (pf_X12_single φ _ _ _ _) (fun v1 => ?_)
  refine pr_ck (uo_io φ _ _ _) ?_
  refine pr_pr (pf_X12_single φ _ _ _ _) (fun v2 => ?_)
  refine pr_rd (uo_fi φ _ _ _ _) (fun v3 => ?_)
  refine pr_if ?_ ?_
  · refine pr_ck (uo_io φ _ _ _) ?_
    refine pr_wr (pf_X12_has φ _ _ _ _ _) (fun h5 => ?_)
    refine pr_ck (uo_io φ _ _ _) ?_
    refine pr_wr (pf_X12_has φ _ _ _ _ _) (fun h6 => ?_)
    rfl
  · rfl
set_option maxRecDepth 100000 in
set_option maxHeartbeats 4000000 in
theorem pf_X12_knowsLine_28 (φ : Nat → Int64) (F : Nat) (x0 : Nat) (x1 : Int32) : ∀ (n : Nat) (x2 : Int32) (h : ab_H), fX12_knowsLine_28 F x0 x1 n x2 (Uo φ h) = (fX12_knowsLine_28 F x0 x1 n x2 h).map (Uo φ) := by
  intro n
  induction n with
  | zero => intro x2 h; rfl
  | succ n ih =>
    intro x2 h
    rw [fX12_knowsLine_28, fX12_knowsLine_28]
    refine pr_if ?_ ?_
    · rfl
    · refine pr_ck (uo_io φ _ _ _) ?_
      refine pr_pr (pf_X12_place φ _ _ _) (fun v7 => ?_)
      refine pr_rd (uo_fr φ _ _ _ _) (fun v8 => ?_)
      refine pr_rd (uo_ia φ _ _ _ _) (fun v9 => ?_)
      refine pr_ck (uo_io φ _ _ _) ?_
      refine pr_pr (pf_X12_figures φ _ _ _ _ _) (fun v10 => ?_)
      refine pr_rd (uo_fi φ _ _ _ _) (fun v11 => ?_)
      refine pr_jn (fun j j' : ab_H → Option ab_H => ∀ (z0_ : ab_H), j (Uo φ z0_) = (j' z0_).map (Uo φ)) ?_ (fun j23 j23' hj23 => ?_)
      · intro h12
        refine pr_rd (uo_fi φ _ _ _ _) (fun v13 => ?_)
        refine pr_jn (fun j j' : ab_H → Option ab_H => ∀ (z0_ : ab_H), j (Uo φ z0_) = (j' z0_).map (Uo φ)) ?_ (fun j19 j19' hj19 => ?_)
        · intro h14
          refine pr_rd (uo_fi φ _ _ _ _) (fun v15 => ?_)
          refine pr_if ?_ ?_
          · refine pr_ck (uo_io φ _ _ _) ?_
            refine pr_pr (pf_X12_isFigure φ _ _ _) (fun v17 => ?_)
            refine pr_if ?_ ?_
            · exact ih (nI 0) v17.2
            · exact ih (nI 1) v17.2
          · exact ih (nI 0) h14
        · refine pr_if ?_ ?_
          · refine pr_ck (uo_io φ _ _ _) ?_
            refine pr_rd ((pf_X12_of φ _ _ _ _).trans oid) (fun v21 => ?_)
            refine pr_ck (uo_io φ _ _ _) ?_
            refine pr_wr (pf_X12_has φ _ _ _ _ _) (fun h22 => ?_)
            exact hj19 h22
          · exact hj19 h12
      · refine pr_if ?_ ?_
        · refine pr_if ?_ ?_
          · refine pr_ck (uo_io φ _ _ _) ?_
            refine pr_wr (pf_X12_wrong φ _ _ _) (fun h26 => ?_)
            exact hj23 h26
          · exact hj23 v10.2
        · exact hj23 v10.2
set_option maxRecDepth 100000 in
set_option maxHeartbeats 4000000 in
theorem pf_X12_knowsLine (φ : Nat → Int64) (F : Nat) (x0 : Nat) (h : ab_H) : fX12_knowsLine F x0 (Uo φ h) = (fX12_knowsLine F x0 h).map (Uo φ) := by
  unfold fX12_knowsLine
  refine pr_rd (uo_fr φ _ _ _ _) (fun v1 => ?_)
  refine pr_rd (uo_ia φ _ _ _ _) (fun v2 => ?_)
  refine pr_ck (uo_io φ _ _ _) ?_
  refine pr_pr (pf_X12_figures φ _ _ _ _ _) (fun v3 => ?_)
  refine pr_rd (uo_fi φ _ _ _ _) (fun v4 => ?_)
  refine pr_if ?_ ?_
  · exact pf_X12_knowsLine_28 φ F x0 v3.1 F (nI 1) v3.2
  · exact pf_X12_knowsLine_28 φ F x0 v3.1 F (nI 0) v3.2
set_option maxRecDepth 100000 in
set_option maxHeartbeats 4000000 in
theorem pf_X12_lastTaken_4 (φ : Nat → Int64) (F : Nat) (x0 : Nat) (h : ab_H) : ∀ (n : Nat) (x1 : Int32) (x2 : Int32), fX12_lastTaken_4 F x0 (Uo φ h) n x1 x2 = (fX12_lastTaken_4 F x0 h n x1 x2).map (fun y => y) := by
  intro n
  induction n with
  | zero => intro x1 x2; rfl
  | succ n ih =>
    intro x1 x2
    rw [fX12_lastTaken_4, fX12_lastTaken_4]
    refine pr_rd (uo_fr φ _ _ _ _) (fun v1 => ?_)
    refine pr_rd (uo_ia φ _ _ _ _) (fun v2 => ?_)
    refine pr_if ?_ ?_
    · refine pr_rd (uo_fr φ _ _ _ _) (fun v4 => ?_)
      refine pr_rd (uo_ia φ _ _ _ _) (fun v5 => ?_)
      refine pr_if ?_ ?_
      · refine pr_ck (uo_io φ _ _ _) ?_
        refine pr_rd ((pf_X12_hasTicketOf φ _ _ _ _).trans oid) (fun v7 => ?_)
        refine pr_if ?_ ?_
        · exact ih x1 (x2 + nI 1)
        · exact ih x2 (x2 + nI 1)
      · exact ih x2 (x2 + nI 1)
    · rfl
set_option maxRecDepth 100000 in
set_option maxHeartbeats 4000000 in
theorem pf_X12_lastTaken (φ : Nat → Int64) (F : Nat) (x0 : Nat) (h : ab_H) : fX12_lastTaken F x0 (Uo φ h) = (fX12_lastTaken F x0 h).map (fun y => y) := by
  unfold fX12_lastTaken
  exact pf_X12_lastTaken_4 φ F x0 h F (-1 : Int32) (nI 0)
set_option maxRecDepth 100000 in
set_option maxHeartbeats 4000000 in
theorem pf_X12_doorLine (φ : Nat → Int64) (F : Nat) (x0 : Nat) (h : ab_H) : fX12_doorLine F x0 (Uo φ h) = (fX12_doorLine F x0 h).map (Uo φ) := by
  unfold fX12_doorLine
  refine pr_ck (uo_io φ _ _ _) ?_
  refine pr_pr (pf_X12_place φ _ _ _) (fun v1 => ?_)
  refine pr_ck (uo_io φ _ _ _) ?_
  refine pr_pr (pf_X12_has_ φ _ _ _ _) (fun v2 => ?_)
  refine pr_if ?_ ?_
  · refine pr_ck (uo_io φ _ _ _) ?_
    refine pr_pr (pf_X12_has_ φ _ _ _ _) (fun v4 => ?_)
    refine pr_if ?_ ?_
    · refine pr_ck (uo_io φ _ _ _) ?_
      refine pr_pr (pf_X12_has_ φ _ _ _ _) (fun v6 => ?_)
      refine pr_if ?_ ?_
      · refine pr_ck (uo_io φ _ _ _) ?_
        refine pr_pr (pf_X12_has_ φ _ _ _ _) (fun v8 => ?_)
        refine pr_if ?_ ?_
        · refine pr_ck (uo_io φ _ _ _) ?_
          refine pr_pr (pf_X12_has_ φ _ _ _ _) (fun v10 => ?_)
          refine pr_if ?_ ?_
          · refine pr_ck (uo_io φ _ _ _) ?_
            refine pr_pr (pf_X12_has_ φ _ _ _ _) (fun v12 => ?_)
            refine pr_if ?_ ?_
            · refine pr_ck (uo_io φ _ _ _) ?_
              refine pr_pr (pf_X12_has_ φ _ _ _ _) (fun v14 => ?_)
              refine pr_if ?_ ?_
              · refine pr_rd (uo_fi φ _ _ _ _) (fun v16 => ?_)
                refine pr_ck (uo_io φ _ _ _) ?_
                refine pr_wr (pf_X12_wrong φ _ _ _) (fun h17 => ?_)
                rfl
              · refine pr_ck (uo_io φ _ _ _) ?_
                refine pr_pr (pf_X12_figures φ _ _ _ _ _) (fun v18 => ?_)
                refine pr_rd (uo_fi φ _ _ _ _) (fun v19 => ?_)
                refine pr_if ?_ ?_
                · refine pr_rd (uo_fr φ _ _ _ _) (fun v21 => ?_)
                  refine pr_wr (uo_iw φ _ _ _ _ _) (fun h22 => ?_)
                  rfl
                · rfl
            · refine pr_ck (uo_io φ _ _ _) ?_
              refine pr_pr (pf_X12_figures φ _ _ _ _ _) (fun v23 => ?_)
              refine pr_rd (uo_fi φ _ _ _ _) (fun v24 => ?_)
              refine pr_if ?_ ?_
              · refine pr_rd (uo_fr φ _ _ _ _) (fun v26 => ?_)
                refine pr_wr (uo_iw φ _ _ _ _ _) (fun h27 => ?_)
                rfl
              · rfl
          · refine pr_ck (uo_io φ _ _ _) ?_
            refine pr_rd ((pf_X12_lastTaken φ _ _ _).trans oid) (fun v28 => ?_)
            refine pr_rd ((pf_X12_greater φ _ _ _).trans oid) (fun v29 => ?_)
            refine pr_ck (uo_io φ _ _ _) ?_
            refine pr_pr (pf_X12_figures φ _ _ _ _ _) (fun v30 => ?_)
            refine pr_rd (uo_fi φ _ _ _ _) (fun v31 => ?_)
            refine pr_if ?_ ?_
            · refine pr_rd (uo_fr φ _ _ _ _) (fun v33 => ?_)
              refine pr_wr (uo_iw φ _ _ _ _ _) (fun h34 => ?_)
              rfl
            · rfl
        · refine pr_ck (uo_io φ _ _ _) ?_
          refine pr_wr (pf_X12_knowsLine φ _ _ _) (fun h35 => ?_)
          rfl
      · refine pr_ck (uo_io φ _ _ _) ?_
        refine pr_wr (pf_X12_wedLine φ _ _ _) (fun h36 => ?_)
        rfl
    · refine pr_ck (uo_io φ _ _ _) ?_
      refine pr_wr (pf_X12_wishLine φ _ _ _) (fun h37 => ?_)
      rfl
  · refine pr_ck (uo_io φ _ _ _) ?_
    refine pr_wr (pf_X12_personLine φ _ _ _ _) (fun h38 => ?_)
    rfl
set_option maxRecDepth 100000 in
set_option maxHeartbeats 4000000 in
theorem pf_X12_begins (φ : Nat → Int64) (x0 : Nat) (h : ab_H) : fX12_begins x0 (Uo φ h) = (fX12_begins x0 h).map (Uo φ) := by
  unfold fX12_begins
  refine pr_wr (uo_fw φ _ _ _ _ _) (fun h1 => ?_)
  refine pr_wr (uo_fw φ _ _ _ _ _) (fun h2 => ?_)
  refine pr_rd (uo_fi φ _ _ _ _) (fun v3 => ?_)
  refine pr_wr (uo_fw φ _ _ _ _ _) (fun h4 => ?_)
  refine pr_wr (uo_fw φ _ _ _ _ _) (fun h5 => ?_)
  refine pr_wr (uo_fw φ _ _ _ _ _) (fun h6 => ?_)
  refine pr_wr (uo_fw φ _ _ _ _ _) (fun h7 => ?_)
  rfl
set_option maxRecDepth 100000 in
set_option maxHeartbeats 4000000 in
theorem pf_X12_putsAside_2 (φ : Nat → Int64) (x0 : Nat) : ∀ (n : Nat) (x1 : Int32) (h : ab_H), fX12_putsAside_2 x0 n x1 (Uo φ h) = (fX12_putsAside_2 x0 n x1 h).map (Uo φ) := by
  intro n
  induction n with
  | zero => intro x1 h; rfl
  | succ n ih =>
    intro x1 h
    rw [fX12_putsAside_2, fX12_putsAside_2]
    refine pr_if ?_ ?_
    · refine pr_rd (uo_fr φ _ _ _ _) (fun v2 => ?_)
      refine pr_rd (uo_fr φ _ _ _ _) (fun v3 => ?_)
      refine pr_rd (uo_ia φ _ _ _ _) (fun v4 => ?_)
      refine pr_wr (uo_iw φ _ _ _ _ _) (fun h5 => ?_)
      exact ih (x1 + nI 1) h5
    · rfl
set_option maxRecDepth 100000 in
set_option maxHeartbeats 4000000 in
theorem pf_X12_putsAside (φ : Nat → Int64) (F : Nat) (x0 : Nat) (h : ab_H) : fX12_putsAside F x0 (Uo φ h) = (fX12_putsAside F x0 h).map (Uo φ) := by
  unfold fX12_putsAside
  exact pf_X12_putsAside_2 φ x0 F (nI 0) h
set_option maxRecDepth 100000 in
set_option maxHeartbeats 4000000 in
theorem pf_X12_comesBack_2 (φ : Nat → Int64) (x0 : Nat) : ∀ (n : Nat) (x1 : Int32) (h : ab_H), fX12_comesBack_2 x0 n x1 (Uo φ h) = (fX12_comesBack_2 x0 n x1 h).map (Uo φ) := by
  intro n
  induction n with
  | zero => intro x1 h; rfl
  | succ n ih =>
    intro x1 h
    rw [fX12_comesBack_2, fX12_comesBack_2]
    refine pr_if ?_ ?_
    · refine pr_rd (uo_fr φ _ _ _ _) (fun v2 => ?_)
      refine pr_rd (uo_fr φ _ _ _ _) (fun v3 => ?_)
      refine pr_rd (uo_ia φ _ _ _ _) (fun v4 => ?_)
      refine pr_wr (uo_iw φ _ _ _ _ _) (fun h5 => ?_)
      exact ih (x1 + nI 1) h5
    · rfl
set_option maxRecDepth 100000 in
set_option maxHeartbeats 4000000 in
theorem pf_X12_comesBack (φ : Nat → Int64) (F : Nat) (x0 : Nat) (h : ab_H) : fX12_comesBack F x0 (Uo φ h) = (fX12_comesBack F x0 h).map (Uo φ) := by
  unfold fX12_comesBack
  exact pf_X12_comesBack_2 φ x0 F (nI 0) h
set_option maxRecDepth 100000 in
set_option maxHeartbeats 4000000 in
theorem pf_X12_part (φ : Nat → Int64) (F : Nat) (x0 : Nat) (h : ab_H) : fX12_part F x0 (Uo φ h) = (fX12_part F x0 h).map (fun y => (y.1, Uo φ y.2)) := by
  unfold fX12_part
  refine pr_rd (uo_fi φ _ _ _ _) (fun v1 => ?_)
  refine pr_if ?_ ?_
  · refine pr_ck (uo_io φ _ _ _) ?_
    refine pr_wr (pf_X12_skip φ _ _ _) (fun h3 => ?_)
    refine pr_rd (uo_fi φ _ _ _ _) (fun v4 => ?_)
    refine pr_rd (uo_fi φ _ _ _ _) (fun v5 => ?_)
    refine pr_jn (fun j j' : Option (Int32 × ab_H) => j = (j').map (fun y => (y.1, Uo φ y.2))) ?_ (fun j26 j26' hj26 => ?_)
    · refine pr_ck (uo_io φ _ _ _) ?_
      refine pr_pr (pf_X12_has_ φ _ _ _ _) (fun v6 => ?_)
      refine pr_jn (fun j j' : Int32 → ab_H → Option (Int32 × ab_H) => ∀ (z0_ : Int32) (z1_ : ab_H), j z0_ (Uo φ z1_) = (j' z0_ z1_).map (fun y => (y.1, Uo φ y.2))) ?_ (fun j14 j14' hj14 => ?_)
      · intro z7 h8
        refine pr_if ?_ ?_
        · refine pr_rd (uo_fi φ _ _ _ _) (fun v10 => ?_)
          refine pr_ck (uo_io φ _ _ _) ?_
          refine pr_wr (pf_X12_wrong φ _ _ _) (fun h11 => ?_)
          rfl
        · refine pr_rd (uo_fr φ _ _ _ _) (fun v12 => ?_)
          refine pr_rd (uo_ia φ _ _ _ _) (fun v13 => ?_)
          rfl
      · refine pr_if ?_ ?_
        · refine pr_ck (uo_io φ _ _ _) ?_
          refine pr_pr (pf_X12_has_ φ _ _ _ _) (fun v16 => ?_)
          refine pr_if ?_ ?_
          · refine pr_ck (uo_io φ _ _ _) ?_
            refine pr_pr (pf_X12_has_ φ _ _ _ _) (fun v18 => ?_)
            refine pr_if ?_ ?_
            · refine pr_ck (uo_io φ _ _ _) ?_
              refine pr_pr (pf_X12_has_ φ _ _ _ _) (fun v20 => ?_)
              refine pr_if ?_ ?_
              · refine pr_ck (uo_io φ _ _ _) ?_
                refine pr_pr (pf_X12_has_ φ _ _ _ _) (fun v22 => ?_)
                refine pr_if ?_ ?_
                · refine pr_ck (uo_io φ _ _ _) ?_
                  refine pr_pr (pf_X12_has_ φ _ _ _ _) (fun v24 => ?_)
                  refine pr_if ?_ ?_
                  · exact hj14 (-1 : Int32) v24.2
                  · exact hj14 (nI 5) v24.2
                · exact hj14 (nI 4) v22.2
              · exact hj14 (nI 3) v20.2
            · exact hj14 (nI 2) v18.2
          · exact hj14 (nI 1) v16.2
        · exact hj14 (nI 0) v6.2
    · refine pr_if ?_ ?_
      · refine pr_rd (uo_fi φ _ _ _ _) (fun v28 => ?_)
        refine pr_ck (uo_io φ _ _ _) ?_
        refine pr_rd ((pf_X12_letter φ _ _ _).trans oid) (fun v29 => ?_)
        refine pr_rd ((pf_X12_isIn φ _ _ _ _).trans oid) (fun v30 => ?_)
        refine pr_if ?_ ?_
        · exact hj26
        · refine pr_ck (uo_io φ _ _ _) ?_
          refine pr_pr (pf_X12_figures φ _ _ _ _ _) (fun v32 => ?_)
          rfl
      · exact hj26
  · rfl
set_option maxRecDepth 100000 in
set_option maxHeartbeats 4000000 in
theorem pf_X12_sum_5 (φ : Nat → Int64) (F : Nat) (x0 : Nat) : ∀ (n : Nat) (x1 : Int32) (h : ab_H), fX12_sum_5 F x0 n x1 (Uo φ h) = (fX12_sum_5 F x0 n x1 h).map (fun y => (y.1, Uo φ y.2)) := by
  intro n
  induction n with
  | zero => intro x1 h; rfl
  | succ n ih =>
    intro x1 h
    rw [fX12_sum_5, fX12_sum_5]
    refine pr_rd (uo_fi φ _ _ _ _) (fun v2 => ?_)
    refine pr_if ?_ ?_
    · refine pr_ck (uo_io φ _ _ _) ?_
      refine pr_pr (pf_X12_isSign φ _ _ _ _) (fun v4 => ?_)
      refine pr_if ?_ ?_
      · rfl
      · refine pr_rd (uo_fi φ _ _ _ _) (fun v6 => ?_)
        refine pr_wr (uo_fw φ _ _ _ _ _) (fun h7 => ?_)
        refine pr_ck (uo_io φ _ _ _) ?_
        refine pr_pr (pf_X12_part φ _ _ _) (fun v8 => ?_)
        exact ih (x1 + v8.1) v8.2
    · rfl
set_option maxRecDepth 100000 in
set_option maxHeartbeats 4000000 in
theorem pf_X12_sum (φ : Nat → Int64) (F : Nat) (x0 : Nat) (h : ab_H) : fX12_sum F x0 (Uo φ h) = (fX12_sum F x0 h).map (fun y => (y.1, Uo φ y.2)) := by
  unfold fX12_sum
  refine pr_ck (uo_io φ _ _ _) ?_
  refine pr_pr (pf_X12_part φ _ _ _) (fun v1 => ?_)
  exact pf_X12_sum_5 φ F x0 F v1.1 v1.2
set_option maxRecDepth 100000 in
set_option maxHeartbeats 4000000 in
theorem pf_X12_plain (φ : Nat → Int64) (F : Nat) (x0 : Nat) (h : ab_H) : fX12_plain F x0 (Uo φ h) = (fX12_plain F x0 h).map (fun y => (y.1, Uo φ y.2)) := by
  unfold fX12_plain
  refine pr_ck (uo_io φ _ _ _) ?_
  refine pr_pr (pf_X12_has_ φ _ _ _ _) (fun v1 => ?_)
  refine pr_if ?_ ?_
  · refine pr_ck (uo_io φ _ _ _) ?_
    refine pr_pr (pf_X12_has_ φ _ _ _ _) (fun v3 => ?_)
    refine pr_if ?_ ?_
    · refine pr_ck (uo_io φ _ _ _) ?_
      refine pr_pr (pf_X12_sum φ _ _ _) (fun v5 => ?_)
      refine pr_rd (uo_fi φ _ _ _ _) (fun v6 => ?_)
      refine pr_if ?_ ?_
      · refine pr_ck (uo_io φ _ _ _) ?_
        refine pr_pr (pf_X12_isSign φ _ _ _ _) (fun v8 => ?_)
        refine pr_jn (fun j j' : ab_H → Option (Int32 × ab_H) => ∀ (z0_ : ab_H), j (Uo φ z0_) = (j' z0_).map (fun y => (y.1, Uo φ y.2))) ?_ (fun j16 j16' hj16 => ?_)
        · intro h9
          refine pr_rd (uo_fi φ _ _ _ _) (fun v10 => ?_)
          refine pr_wr (uo_fw φ _ _ _ _ _) (fun h11 => ?_)
          refine pr_ck (uo_io φ _ _ _) ?_
          refine pr_pr (pf_X12_sum φ _ _ _) (fun v12 => ?_)
          refine pr_if ?_ ?_
          · refine pr_if ?_ ?_
            · rfl
            · rfl
          · refine pr_if ?_ ?_
            · rfl
            · rfl
        · refine pr_if ?_ ?_
          · refine pr_ck (uo_io φ _ _ _) ?_
            refine pr_pr (pf_X12_isSign φ _ _ _ _) (fun v18 => ?_)
            refine pr_if ?_ ?_
            · refine pr_rd (uo_fi φ _ _ _ _) (fun v20 => ?_)
              refine pr_ck (uo_io φ _ _ _) ?_
              refine pr_wr (pf_X12_wrong φ _ _ _) (fun h21 => ?_)
              rfl
            · exact hj16 v18.2
          · exact hj16 v8.2
      · rfl
    · refine pr_rd (uo_fi φ _ _ _ _) (fun v22 => ?_)
      refine pr_cb ?_
      rfl
  · refine pr_rd (uo_fi φ _ _ _ _) (fun v24 => ?_)
    refine pr_cb ?_
    rfl
set_option maxRecDepth 100000 in
set_option maxHeartbeats 4000000 in
theorem pf_X12_fault (φ : Nat → Int64) (x0 : Nat) (h : ab_H) : fX12_fault x0 (Uo φ h) = (fX12_fault x0 h).map (fun y => (y.1, Uo φ y.2)) := by
  unfold fX12_fault
  refine pr_wr (uo_fw φ _ _ _ _ _) (fun h1 => ?_)
  refine pr_rd (uo_fi φ _ _ _ _) (fun v2 => ?_)
  rfl
set_option maxRecDepth 100000 in
set_option maxHeartbeats 4000000 in
theorem pf_X12_ring_4 (φ : Nat → Int64) (F : Nat) (x0 : Nat) (h : ab_H) : ∀ (n : Nat) (x2 : Int32) (x3 : Int32), fX12_ring_4 F x0 (Uo φ h) n x2 x3 = (fX12_ring_4 F x0 h n x2 x3).map (fun y => y) := by
  intro n
  induction n with
  | zero => intro x2 x3; rfl
  | succ n ih =>
    intro x2 x3
    rw [fX12_ring_4, fX12_ring_4]
    refine pr_if ?_ ?_
    · rfl
    · refine pr_rd ((pf_X12_isOf φ _ _ _).trans oid) (fun v2 => ?_)
      refine pr_if ?_ ?_
      · refine pr_ck (uo_io φ _ _ _) ?_
        refine pr_rd ((pf_X12_wearer φ _ _ _ _).trans oid) (fun v4 => ?_)
        exact ih (x2 ||| ((nI 1) <<< (x3 &&& 31))) v4
      · rfl
set_option maxRecDepth 100000 in
set_option maxHeartbeats 4000000 in
theorem pf_X12_ring (φ : Nat → Int64) (F : Nat) (x0 : Nat) (x1 : Int32) (h : ab_H) : fX12_ring F x0 x1 (Uo φ h) = (fX12_ring F x0 x1 h).map (fun y => y) := by
  unfold fX12_ring
  exact pf_X12_ring_4 φ F x0 h F (nI 0) x1
set_option maxRecDepth 100000 in
set_option maxHeartbeats 4000000 in
theorem pf_X12_person (φ : Nat → Int64) (F : Nat) (x0 : Nat) (x1 : Int32) (x2 : Int32) (h : ab_H) : fX12_person F x0 x1 x2 (Uo φ h) = (fX12_person F x0 x1 x2 h).map (fun y => (y.1, Uo φ y.2)) := by
  unfold fX12_person
  refine pr_ck (uo_io φ _ _ _) ?_
  refine pr_rd ((pf_X12_isPerson φ _ _ _).trans oid) (fun v1 => ?_)
  refine pr_jn (fun j j' : Int32 → Option (Int32 × ab_H) => ∀ (z0_ : Int32), j z0_ = (j' z0_).map (fun y => (y.1, Uo φ y.2))) ?_ (fun j9 j9' hj9 => ?_)
  · intro z2
    refine pr_wr (uo_fw φ _ _ _ _ _) (fun h3 => ?_)
    refine pr_rd (uo_fi φ _ _ _ _) (fun v4 => ?_)
    refine pr_if ?_ ?_
    · refine pr_if ?_ ?_
      · refine pr_ck (uo_io φ _ _ _) ?_
        refine pr_rd ((pf_X12_of φ _ _ _ _).trans oid) (fun v7 => ?_)
        rfl
      · refine pr_ck (uo_io φ _ _ _) ?_
        refine pr_rd ((pf_X12_ring φ _ _ _ _).trans oid) (fun v8 => ?_)
        rfl
    · rfl
  · refine pr_if ?_ ?_
    · exact hj9 (nI 1)
    · refine pr_rd ((pf_X12_isIn φ _ _ _ _).trans oid) (fun v11 => ?_)
      refine pr_if ?_ ?_
      · exact hj9 (nI 2)
      · exact hj9 (nI 0)
set_option maxRecDepth 100000 in
set_option maxHeartbeats 4000000 in
theorem pf_X12_alike_4 (φ : Nat → Int64) (x0 : Nat) (x1 : Int32) (h : ab_H) : ∀ (n : Nat) (x2 : Int32) (x3 : Int32), fX12_alike_4 x0 x1 (Uo φ h) n x2 x3 = (fX12_alike_4 x0 x1 h n x2 x3).map (fun y => y) := by
  intro n
  induction n with
  | zero => intro x2 x3; rfl
  | succ n ih =>
    intro x2 x3
    rw [fX12_alike_4, fX12_alike_4]
    refine pr_rd (uo_fr φ _ _ _ _) (fun v1 => ?_)
    refine pr_rd (uo_ia φ _ _ _ _) (fun v2 => ?_)
    refine pr_if ?_ ?_
    · refine pr_if ?_ ?_
      · exact ih (x2 ||| (nI 0)) (x3 + nI 1)
      · refine pr_ck (uo_io φ _ _ _) ?_
        refine pr_rd ((pf_X12_of φ _ _ _ _).trans oid) (fun v5 => ?_)
        refine pr_ck (uo_io φ _ _ _) ?_
        refine pr_rd ((pf_X12_of φ _ _ _ _).trans oid) (fun v6 => ?_)
        refine pr_if ?_ ?_
        · exact ih (x2 ||| ((nI 1) <<< (x3 &&& 31))) (x3 + nI 1)
        · exact ih (x2 ||| (nI 0)) (x3 + nI 1)
    · rfl
set_option maxRecDepth 100000 in
set_option maxHeartbeats 4000000 in
theorem pf_X12_alike (φ : Nat → Int64) (F : Nat) (x0 : Nat) (x1 : Int32) (h : ab_H) : fX12_alike F x0 x1 (Uo φ h) = (fX12_alike F x0 x1 h).map (fun y => y) := by
  unfold fX12_alike
  exact pf_X12_alike_4 φ x0 x1 h F (nI 0) (nI 0)
set_option maxRecDepth 100000 in
set_option maxHeartbeats 4000000 in
theorem pf_X12_face (φ : Nat → Int64) (F : Nat) (x0 : Nat) (x1 : Int32) (x2 : Int32) (h : ab_H) : fX12_face F x0 x1 x2 (Uo φ h) = (fX12_face F x0 x1 x2 h).map (fun y => (y.1, Uo φ y.2)) := by
  unfold fX12_face
  refine pr_ck (uo_io φ _ _ _) ?_
  refine pr_rd ((pf_X12_isPerson φ _ _ _).trans oid) (fun v1 => ?_)
  refine pr_jn (fun j j' : Int32 → Option (Int32 × ab_H) => ∀ (z0_ : Int32), j z0_ = (j' z0_).map (fun y => (y.1, Uo φ y.2))) ?_ (fun j13 j13' hj13 => ?_)
  · intro z2
    refine pr_wr (uo_fw φ _ _ _ _ _) (fun h3 => ?_)
    refine pr_rd (uo_fi φ _ _ _ _) (fun v4 => ?_)
    refine pr_if ?_ ?_
    · refine pr_if ?_ ?_
      · refine pr_ck (uo_io φ _ _ _) ?_
        refine pr_rd ((pf_X12_of φ _ _ _ _).trans oid) (fun v7 => ?_)
        rfl
      · refine pr_if ?_ ?_
        · refine pr_ck (uo_io φ _ _ _) ?_
          refine pr_rd ((pf_X12_wearer φ _ _ _ _).trans oid) (fun v9 => ?_)
          rfl
        · refine pr_if ?_ ?_
          · refine pr_ck (uo_io φ _ _ _) ?_
            refine pr_rd ((pf_X12_hookOf φ _ _ _ _).trans oid) (fun v11 => ?_)
            rfl
          · refine pr_ck (uo_io φ _ _ _) ?_
            refine pr_rd ((pf_X12_alike φ _ _ _ _).trans oid) (fun v12 => ?_)
            rfl
    · rfl
  · refine pr_if ?_ ?_
    · exact hj13 (nI 1)
    · refine pr_rd ((pf_X12_isIn φ _ _ _ _).trans oid) (fun v15 => ?_)
      refine pr_if ?_ ?_
      · exact hj13 (nI 2)
      · exact hj13 (nI 0)
set_option maxRecDepth 100000 in
set_option maxHeartbeats 4000000 in
theorem pf_X12_hook (φ : Nat → Int64) (x0 : Nat) (x1 : Int32) (h : ab_H) : fX12_hook x0 x1 (Uo φ h) = (fX12_hook x0 x1 h).map (fun y => (y.1, Uo φ y.2)) := by
  unfold fX12_hook
  refine pr_ck (uo_io φ _ _ _) ?_
  refine pr_rd ((pf_X12_isHook φ _ _ _).trans oid) (fun v1 => ?_)
  refine pr_jn (fun j j' : Int32 → Option (Int32 × ab_H) => ∀ (z0_ : Int32), j z0_ = (j' z0_).map (fun y => (y.1, Uo φ y.2))) ?_ (fun j8 j8' hj8 => ?_)
  · intro z2
    refine pr_wr (uo_fw φ _ _ _ _ _) (fun h3 => ?_)
    refine pr_rd (uo_fi φ _ _ _ _) (fun v4 => ?_)
    refine pr_if ?_ ?_
    · refine pr_rd (uo_fr φ _ _ _ _) (fun v6 => ?_)
      refine pr_rd (uo_ia φ _ _ _ _) (fun v7 => ?_)
      rfl
    · rfl
  · refine pr_if ?_ ?_
    · exact hj8 (nI 1)
    · exact hj8 (nI 0)
set_option maxRecDepth 100000 in
set_option maxHeartbeats 4000000 in
theorem pf_X12_dear_2 (φ : Nat → Int64) (x0 : Nat) (x1 : Int32) (x2 : Int32) (h : ab_H) : ∀ (n : Nat) (x3 : Int32), fX12_dear_2 x0 x1 x2 (Uo φ h) n x3 = (fX12_dear_2 x0 x1 x2 h n x3).map (fun y => y) := by
  intro n
  induction n with
  | zero => intro x3; rfl
  | succ n ih =>
    intro x3
    rw [fX12_dear_2, fX12_dear_2]
    refine pr_rd (uo_fr φ _ _ _ _) (fun v1 => ?_)
    refine pr_rd (uo_ia φ _ _ _ _) (fun v2 => ?_)
    refine pr_if ?_ ?_
    · rfl
    · exact ih (x3 + nI 1)
set_option maxRecDepth 100000 in
set_option maxHeartbeats 4000000 in
theorem pf_X12_dear (φ : Nat → Int64) (F : Nat) (x0 : Nat) (x1 : Int32) (x2 : Int32) (h : ab_H) : fX12_dear F x0 x1 x2 (Uo φ h) = (fX12_dear F x0 x1 x2 h).map (fun y => y) := by
  unfold fX12_dear
  exact pf_X12_dear_2 φ x0 x1 x2 h F (nI 0)
set_option maxRecDepth 100000 in
set_option maxHeartbeats 4000000 in
theorem pf_X12_wish_58 (φ : Nat → Int64) (x0 : Nat) (x1 : Int32) (h : ab_H) {k119 k119' : Int32 → Option (Int32 × ab_H)} (hk119 : ∀ (z0_ : Int32), k119 z0_ = (k119' z0_).map (fun y => (y.1, Uo φ y.2))) : ∀ (n : Nat) (x3 : Int32) (x4 : Int32), fX12_wish_58 x0 x1 (Uo φ h) k119 n x3 x4 = (fX12_wish_58 x0 x1 h k119' n x3 x4).map (fun y => (y.1, Uo φ y.2)) := by
  intro n
  induction n with
  | zero => intro x3 x4; rfl
  | succ n ih =>
    intro x3 x4
    rw [fX12_wish_58, fX12_wish_58]
    refine pr_jn (fun j j' : Option (Int32 × ab_H) => j = (j').map (fun y => (y.1, Uo φ y.2))) ?_ (fun j18 j18' hj18 => ?_)
    · refine pr_rd (uo_fr φ _ _ _ _) (fun v13 => ?_)
      refine pr_rd (uo_ia φ _ _ _ _) (fun v14 => ?_)
      refine pr_rd (uo_fr φ _ _ _ _) (fun v15 => ?_)
      refine pr_rd (uo_ia φ _ _ _ _) (fun v16 => ?_)
      refine pr_if ?_ ?_
      · exact ih (x3 + (-1 : Int32)) (x4 + nI 1)
      · exact ih x3 (x4 + nI 1)
    · refine pr_if ?_ ?_
      · refine pr_rd (uo_fr φ _ _ _ _) (fun v20 => ?_)
        refine pr_rd (uo_ia φ _ _ _ _) (fun v21 => ?_)
        refine pr_rd (uo_fr φ _ _ _ _) (fun v22 => ?_)
        refine pr_rd (uo_ia φ _ _ _ _) (fun v23 => ?_)
        refine pr_if ?_ ?_
        · exact hk119 x4
        · exact hj18
      · exact hj18
set_option maxRecDepth 100000 in
set_option maxHeartbeats 4000000 in
theorem pf_X12_wish (φ : Nat → Int64) (F : Nat) (x0 : Nat) (x1 : Int32) (x2 : Int32) (h : ab_H) : fX12_wish F x0 x1 x2 (Uo φ h) = (fX12_wish F x0 x1 x2 h).map (fun y => (y.1, Uo φ y.2)) := by
  unfold fX12_wish
  refine pr_ck (uo_io φ _ _ _) ?_
  refine pr_rd ((pf_X12_isPerson φ _ _ _).trans oid) (fun v1 => ?_)
  refine pr_jn (fun j j' : Int32 → Option (Int32 × ab_H) => ∀ (z0_ : Int32), j z0_ = (j' z0_).map (fun y => (y.1, Uo φ y.2))) ?_ (fun j28 j28' hj28 => ?_)
  · intro z2
    refine pr_wr (uo_fw φ _ _ _ _ _) (fun h3 => ?_)
    refine pr_rd (uo_fi φ _ _ _ _) (fun v4 => ?_)
    refine pr_jn (fun j j' : Option (Int32 × ab_H) => j = (j').map (fun y => (y.1, Uo φ y.2))) ?_ (fun j7 j7' hj7 => ?_)
    · refine pr_rd (uo_fi φ _ _ _ _) (fun v5 => ?_)
      refine pr_if ?_ ?_
      · rfl
      · rfl
    · refine pr_if ?_ ?_
      · refine pr_rd (uo_fr φ _ _ _ _) (fun v9 => ?_)
        refine pr_rd (uo_ia φ _ _ _ _) (fun v10 => ?_)
        refine pr_rd ((pf_X12_isIn φ _ _ _ _).trans oid) (fun v11 => ?_)
        refine pr_if ?_ ?_
        · exact hj7
        · refine pf_X12_wish_58 φ x0 x1 h3 (fun z25 => ?_) F x2 (nI 0)
          · refine pr_rd (uo_fr φ _ _ _ _) (fun v26 => ?_)
            refine pr_rd (uo_ia φ _ _ _ _) (fun v27 => ?_)
            rfl
      · exact hj7
  · refine pr_if ?_ ?_
    · exact hj28 (nI 1)
    · exact hj28 (nI 0)
set_option maxRecDepth 100000 in
set_option maxHeartbeats 4000000 in
theorem pf_X12_two (φ : Nat → Int64) (x0 : Nat) (x1 : Int32) (x2 : Int32) (h : ab_H) : fX12_two x0 x1 x2 (Uo φ h) = (fX12_two x0 x1 x2 h).map (fun y => y) := by
  unfold fX12_two
  refine pr_ck (uo_io φ _ _ _) ?_
  refine pr_rd ((pf_X12_isPerson φ _ _ _).trans oid) (fun v1 => ?_)
  refine pr_if ?_ ?_
  · rfl
  · refine pr_ck (uo_io φ _ _ _) ?_
    refine pr_rd ((pf_X12_isPerson φ _ _ _).trans oid) (fun v3 => ?_)
    refine pr_if ?_ ?_
    · rfl
    · refine pr_if ?_ ?_
      · rfl
      · rfl
set_option maxRecDepth 100000 in
set_option maxHeartbeats 4000000 in
theorem pf_X12_thinks (φ : Nat → Int64) (x0 : Nat) (x1 : Int32) (x2 : Int32) (h : ab_H) : fX12_thinks x0 x1 x2 (Uo φ h) = (fX12_thinks x0 x1 x2 h).map (fun y => (y.1, Uo φ y.2)) := by
  unfold fX12_thinks
  refine pr_ck (uo_io φ _ _ _) ?_
  refine pr_rd ((pf_X12_two φ _ _ _ _).trans oid) (fun v1 => ?_)
  refine pr_wr (uo_fw φ _ _ _ _ _) (fun h2 => ?_)
  refine pr_rd (uo_fi φ _ _ _ _) (fun v3 => ?_)
  refine pr_if ?_ ?_
  · refine pr_ck (uo_io φ _ _ _) ?_
    refine pr_rd ((pf_X12_thought φ _ _ _ _).trans oid) (fun v5 => ?_)
    rfl
  · rfl
set_option maxRecDepth 100000 in
set_option maxHeartbeats 4000000 in
theorem pf_X12_remembers_11 (φ : Nat → Int64) (F : Nat) (x0 : Nat) {k40 k40' : ab_H → Option ab_H} (hk40 : ∀ (z0_ : ab_H), k40 (Uo φ z0_) = (k40' z0_).map (Uo φ)) : ∀ (n : Nat) (x1 : Int32) (h : ab_H), fX12_remembers_11 F x0 k40 n x1 (Uo φ h) = (fX12_remembers_11 F x0 k40' n x1 h).map (Uo φ) := by
  intro n
  induction n with
  | zero => intro x1 h; rfl
  | succ n ih =>
    intro x1 h
    rw [fX12_remembers_11, fX12_remembers_11]
    refine pr_if ?_ ?_
    · refine pr_rd (uo_fr φ _ _ _ _) (fun v4 => ?_)
      refine pr_rd (uo_fr φ _ _ _ _) (fun v5 => ?_)
      refine pr_rd (uo_ia φ _ _ _ _) (fun v6 => ?_)
      refine pr_wr (uo_iw φ _ _ _ _ _) (fun h7 => ?_)
      exact ih (x1 + nI 1) h7
    · exact hk40 h
set_option maxRecDepth 100000 in
set_option maxHeartbeats 4000000 in
theorem pf_X12_remembers_52 (φ : Nat → Int64) (F : Nat) (x0 : Nat) : ∀ (n : Nat) (x1 : Int32) (h : ab_H), fX12_remembers_52 F x0 n x1 (Uo φ h) = (fX12_remembers_52 F x0 n x1 h).map (Uo φ) := by
  intro n
  induction n with
  | zero => intro x1 h; rfl
  | succ n ih =>
    intro x1 h
    rw [fX12_remembers_52, fX12_remembers_52]
    refine pr_if ?_ ?_
    · refine pr_rd (uo_fr φ _ _ _ _) (fun v12 => ?_)
      refine pr_rd (uo_fi φ _ _ _ _) (fun v13 => ?_)
      refine pr_rd (uo_fr φ _ _ _ _) (fun v14 => ?_)
      refine pr_rd (uo_ia φ _ _ _ _) (fun v15 => ?_)
      refine pr_wr (uo_iw φ _ _ _ _ _) (fun h16 => ?_)
      exact ih (x1 + nI 1) h16
    · refine pr_rd (uo_fi φ _ _ _ _) (fun v17 => ?_)
      refine pr_wr (uo_fw φ _ _ _ _ _) (fun h18 => ?_)
      rfl
set_option maxRecDepth 100000 in
set_option maxHeartbeats 4000000 in
theorem pf_X12_remembers (φ : Nat → Int64) (F : Nat) (x0 : Nat) (h : ab_H) : fX12_remembers F x0 (Uo φ h) = (fX12_remembers F x0 h).map (Uo φ) := by
  unfold fX12_remembers
  refine pr_rd (uo_fi φ _ _ _ _) (fun v1 => ?_)
  refine pr_if ?_ ?_
  · refine pf_X12_remembers_11 φ F x0 (fun h8 => ?_) F (nI 0) h
    · refine pr_rd (uo_fi φ _ _ _ _) (fun v9 => ?_)
      refine pr_wr (uo_fw φ _ _ _ _ _) (fun h10 => ?_)
      exact pf_X12_remembers_52 φ F x0 F (nI 0) h10
  · exact pf_X12_remembers_52 φ F x0 F (nI 0) h
set_option maxRecDepth 100000 in
set_option maxHeartbeats 4000000 in
theorem pf_X12_draw (φ : Nat → Int64) (x0 : Nat) (x1 : Int32) (h : ab_H) : fX12_draw x0 x1 (Uo φ h) = (fX12_draw x0 x1 h).map (fun y => (y.1, Uo φ y.2)) := by
  unfold fX12_draw
  refine pr_rd (uo_fr φ _ _ _ _) (fun v1 => ?_)
  refine pr_rd (uo_fr φ _ _ _ _) (fun v2 => ?_)
  refine pr_rd (uo_ia φ _ _ _ _) (fun v3 => ?_)
  refine pr_wr (uo_iw φ _ _ _ _ _) (fun h4 => ?_)
  refine pr_rd (uo_fr φ _ _ _ _) (fun v5 => ?_)
  refine pr_rd (uo_ia φ _ _ _ _) (fun v6 => ?_)
  refine pr_cn ?_
  rfl
set_option maxRecDepth 100000 in
set_option maxHeartbeats 4000000 in
theorem pf_X12_writes_5 (φ : Nat → Int64) (x0 : Nat) (x1 : Int32) (x2 : Int32) (x3 : Int32) (x4 : Int32) {k41 k41' : ab_H → Option ab_H} (hk41 : ∀ (z0_ : ab_H), k41 (Uo φ z0_) = (k41' z0_).map (Uo φ)) : ∀ (n : Nat) (x5 : Int32) (h : ab_H), fX12_writes_5 x0 x1 x2 x3 x4 k41 n x5 (Uo φ h) = (fX12_writes_5 x0 x1 x2 x3 x4 k41' n x5 h).map (Uo φ) := by
  intro n
  induction n with
  | zero => intro x5 h; rfl
  | succ n ih =>
    intro x5 h
    rw [fX12_writes_5, fX12_writes_5]
    refine pr_if ?_ ?_
    · exact hk41 h
    · refine pr_rd (uo_fr φ _ _ _ _) (fun v2 => ?_)
      refine pr_rd (uo_fr φ _ _ _ _) (fun v3 => ?_)
      refine pr_rd (uo_ia φ _ _ _ _) (fun v4 => ?_)
      refine pr_wr (uo_iw φ _ _ _ _ _) (fun h5 => ?_)
      exact ih (x5 + (-1 : Int32)) h5
set_option maxRecDepth 100000 in
set_option maxHeartbeats 4000000 in
theorem pf_X12_writes (φ : Nat → Int64) (F : Nat) (x0 : Nat) (x1 : Int32) (x2 : Int32) (x3 : Int32) (x4 : Int32) (h : ab_H) : fX12_writes F x0 x1 x2 x3 x4 (Uo φ h) = (fX12_writes F x0 x1 x2 x3 x4 h).map (Uo φ) := by
  unfold fX12_writes
  refine pf_X12_writes_5 φ x0 x1 x2 x3 x4 (fun h6 => ?_) F (nI 299) h
  · refine pr_rd (uo_fr φ _ _ _ _) (fun v7 => ?_)
    refine pr_rd (uo_fr φ _ _ _ _) (fun v8 => ?_)
    refine pr_rd (uo_ia φ _ _ _ _) (fun v9 => ?_)
    refine pr_wr (uo_iw φ _ _ _ _ _) (fun h10 => ?_)
    refine pr_rd (uo_fr φ _ _ _ _) (fun v11 => ?_)
    refine pr_wr (uo_iw φ _ _ _ _ _) (fun h12 => ?_)
    refine pr_rd (uo_fr φ _ _ _ _) (fun v13 => ?_)
    refine pr_wr (uo_iw φ _ _ _ _ _) (fun h14 => ?_)
    refine pr_rd (uo_fr φ _ _ _ _) (fun v15 => ?_)
    refine pr_wr (uo_iw φ _ _ _ _ _) (fun h16 => ?_)
    refine pr_rd (uo_fr φ _ _ _ _) (fun v17 => ?_)
    refine pr_wr (uo_iw φ _ _ _ _ _) (fun h18 => ?_)
    refine pr_rd (uo_fr φ _ _ _ _) (fun v19 => ?_)
    refine pr_rd (uo_fr φ _ _ _ _) (fun v20 => ?_)
    refine pr_rd (uo_ia φ _ _ _ _) (fun v21 => ?_)
    refine pr_rd ((pf_X12_lesser φ _ _ _).trans oid) (fun v22 => ?_)
    refine pr_wr (uo_iw φ _ _ _ _ _) (fun h23 => ?_)
    rfl
set_option maxRecDepth 100000 in
set_option maxHeartbeats 4000000 in
theorem pf_X12_handsIn (φ : Nat → Int64) (F : Nat) (x0 : Nat) (x1 : Int32) (x2 : Int32) (h : ab_H) : fX12_handsIn F x0 x1 x2 (Uo φ h) = (fX12_handsIn F x0 x1 x2 h).map (fun y => (y.1, Uo φ y.2)) := by
  unfold fX12_handsIn
  refine pr_ck (uo_io φ _ _ _) ?_
  refine pr_rd ((pf_X12_of φ _ _ _ _).trans oid) (fun v1 => ?_)
  refine pr_rd (uo_fr φ _ _ _ _) (fun v2 => ?_)
  refine pr_wr (uo_iw φ _ _ _ _ _) (fun h3 => ?_)
  refine pr_ck (uo_io φ _ _ _) ?_
  refine pr_wr (pf_X12_has φ _ _ _ _ _) (fun h4 => ?_)
  refine pr_ck (uo_io φ _ _ _) ?_
  refine pr_wr (pf_X12_has φ _ _ _ _ _) (fun h5 => ?_)
  refine pr_ck (uo_io φ _ _ _) ?_
  refine pr_wr (pf_X12_writes φ _ _ _ _ _ _ _) (fun h6 => ?_)
  rfl
set_option maxRecDepth 100000 in
set_option maxHeartbeats 4000000 in
theorem pf_X12_gets (φ : Nat → Int64) (F : Nat) (x0 : Nat) (x1 : Int32) (h : ab_H) : fX12_gets F x0 x1 (Uo φ h) = (fX12_gets F x0 x1 h).map (fun y => (y.1, Uo φ y.2)) := by
  unfold fX12_gets
  refine pr_ck (uo_io φ _ _ _) ?_
  refine pr_rd ((pf_X12_of φ _ _ _ _).trans oid) (fun v1 => ?_)
  refine pr_rd (uo_fr φ _ _ _ _) (fun v2 => ?_)
  refine pr_rd (uo_ia φ _ _ _ _) (fun v3 => ?_)
  refine pr_rd (uo_fr φ _ _ _ _) (fun v4 => ?_)
  refine pr_wr (uo_iw φ _ _ _ _ _) (fun h5 => ?_)
  refine pr_ck (uo_io φ _ _ _) ?_
  refine pr_wr (pf_X12_has φ _ _ _ _ _) (fun h6 => ?_)
  refine pr_ck (uo_io φ _ _ _) ?_
  refine pr_wr (pf_X12_has φ _ _ _ _ _) (fun h7 => ?_)
  refine pr_ck (uo_io φ _ _ _) ?_
  refine pr_wr (pf_X12_writes φ _ _ _ _ _ _ _) (fun h8 => ?_)
  rfl
set_option maxRecDepth 100000 in
set_option maxHeartbeats 4000000 in
theorem pf_X12_mixes (φ : Nat → Int64) (F : Nat) (x0 : Nat) (x1 : Int32) (x2 : Int32) (h : ab_H) : fX12_mixes F x0 x1 x2 (Uo φ h) = (fX12_mixes F x0 x1 x2 h).map (Uo φ) := by
  unfold fX12_mixes
  refine pr_ck (uo_io φ _ _ _) ?_
  refine pr_rd ((pf_X12_of φ _ _ _ _).trans oid) (fun v1 => ?_)
  refine pr_ck (uo_io φ _ _ _) ?_
  refine pr_rd ((pf_X12_of φ _ _ _ _).trans oid) (fun v2 => ?_)
  refine pr_ck (uo_io φ _ _ _) ?_
  refine pr_wr (pf_X12_has φ _ _ _ _ _) (fun h3 => ?_)
  refine pr_ck (uo_io φ _ _ _) ?_
  refine pr_wr (pf_X12_has φ _ _ _ _ _) (fun h4 => ?_)
  refine pr_rd ((pf_X12_lesser φ _ _ _).trans oid) (fun v5 => ?_)
  refine pr_rd ((pf_X12_greater φ _ _ _).trans oid) (fun v6 => ?_)
  refine pr_ck (uo_io φ _ _ _) ?_
  refine pr_rd ((pf_X12_of φ _ _ _ _).trans oid) (fun v7 => ?_)
  refine pr_ck (uo_io φ _ _ _) ?_
  refine pr_wr (pf_X12_writes φ _ _ _ _ _ _ _) (fun h8 => ?_)
  refine pr_ck (uo_io φ _ _ _) ?_
  refine pr_rd ((pf_X12_of φ _ _ _ _).trans oid) (fun v9 => ?_)
  refine pr_ck (uo_io φ _ _ _) ?_
  refine pr_wr (pf_X12_writes φ _ _ _ _ _ _ _) (fun h10 => ?_)
  rfl
set_option maxRecDepth 100000 in
set_option maxHeartbeats 4000000 in
theorem pf_X12_hand (φ : Nat → Int64) (F : Nat) (x0 : Nat) (x1 : Int32) (x2 : Int32) (h : ab_H) : fX12_hand F x0 x1 x2 (Uo φ h) = (fX12_hand F x0 x1 x2 h).map (fun y => (y.1, Uo φ y.2)) := by
  unfold fX12_hand
  refine pr_ck (uo_io φ _ _ _) ?_
  refine pr_rd ((pf_X12_isPerson φ _ _ _).trans oid) (fun v1 => ?_)
  refine pr_jn (fun j j' : Int32 → Option (Int32 × ab_H) => ∀ (z0_ : Int32), j z0_ = (j' z0_).map (fun y => (y.1, Uo φ y.2))) ?_ (fun j8 j8' hj8 => ?_)
  · intro z2
    refine pr_wr (uo_fw φ _ _ _ _ _) (fun h3 => ?_)
    refine pr_rd (uo_fi φ _ _ _ _) (fun v4 => ?_)
    refine pr_if ?_ ?_
    · refine pr_ck (uo_io φ _ _ _) ?_
      refine pr_wr (pf_X12_remembers φ _ _ _) (fun h6 => ?_)
      refine pr_ck (uo_io φ _ _ _) ?_
      refine pr_pr (pf_X12_handsIn φ _ _ _ _ _) (fun v7 => ?_)
      rfl
    · rfl
  · refine pr_jn (fun j j' : Option (Int32 × ab_H) => j = (j').map (fun y => (y.1, Uo φ y.2))) ?_ (fun j9 j9' hj9 => ?_)
    · exact hj8 (nI 1)
    · refine pr_if ?_ ?_
      · exact hj9
      · refine pr_ck (uo_io φ _ _ _) ?_
        refine pr_rd ((pf_X12_isHook φ _ _ _).trans oid) (fun v11 => ?_)
        refine pr_if ?_ ?_
        · exact hj9
        · refine pr_ck (uo_io φ _ _ _) ?_
          refine pr_rd ((pf_X12_of φ _ _ _ _).trans oid) (fun v13 => ?_)
          refine pr_if ?_ ?_
          · exact hj8 (nI 2)
          · refine pr_ck (uo_io φ _ _ _) ?_
            refine pr_rd ((pf_X12_of φ _ _ _ _).trans oid) (fun v15 => ?_)
            refine pr_if ?_ ?_
            · refine pr_rd (uo_fr φ _ _ _ _) (fun v17 => ?_)
              refine pr_rd (uo_ia φ _ _ _ _) (fun v18 => ?_)
              refine pr_if ?_ ?_
              · exact hj8 (nI 0)
              · exact hj8 (nI 2)
            · exact hj8 (nI 2)
set_option maxRecDepth 100000 in
set_option maxHeartbeats 4000000 in
theorem pf_X12_fetch (φ : Nat → Int64) (F : Nat) (x0 : Nat) (x1 : Int32) (h : ab_H) : fX12_fetch F x0 x1 (Uo φ h) = (fX12_fetch F x0 x1 h).map (fun y => (y.1, Uo φ y.2)) := by
  unfold fX12_fetch
  refine pr_ck (uo_io φ _ _ _) ?_
  refine pr_rd ((pf_X12_isPerson φ _ _ _).trans oid) (fun v1 => ?_)
  refine pr_jn (fun j j' : Int32 → Option (Int32 × ab_H) => ∀ (z0_ : Int32), j z0_ = (j' z0_).map (fun y => (y.1, Uo φ y.2))) ?_ (fun j8 j8' hj8 => ?_)
  · intro z2
    refine pr_wr (uo_fw φ _ _ _ _ _) (fun h3 => ?_)
    refine pr_rd (uo_fi φ _ _ _ _) (fun v4 => ?_)
    refine pr_if ?_ ?_
    · refine pr_ck (uo_io φ _ _ _) ?_
      refine pr_wr (pf_X12_remembers φ _ _ _) (fun h6 => ?_)
      refine pr_ck (uo_io φ _ _ _) ?_
      refine pr_pr (pf_X12_gets φ _ _ _ _) (fun v7 => ?_)
      rfl
    · rfl
  · refine pr_if ?_ ?_
    · exact hj8 (nI 1)
    · refine pr_ck (uo_io φ _ _ _) ?_
      refine pr_rd ((pf_X12_of φ _ _ _ _).trans oid) (fun v10 => ?_)
      refine pr_if ?_ ?_
      · exact hj8 (nI 2)
      · refine pr_ck (uo_io φ _ _ _) ?_
        refine pr_rd ((pf_X12_of φ _ _ _ _).trans oid) (fun v12 => ?_)
        refine pr_if ?_ ?_
        · exact hj8 (nI 0)
        · exact hj8 (nI 2)
set_option maxRecDepth 100000 in
set_option maxHeartbeats 4000000 in
theorem pf_X12_mix (φ : Nat → Int64) (F : Nat) (x0 : Nat) (x1 : Int32) (x2 : Int32) (h : ab_H) : fX12_mix F x0 x1 x2 (Uo φ h) = (fX12_mix F x0 x1 x2 h).map (fun y => (y.1, Uo φ y.2)) := by
  unfold fX12_mix
  refine pr_ck (uo_io φ _ _ _) ?_
  refine pr_rd ((pf_X12_two φ _ _ _ _).trans oid) (fun v1 => ?_)
  refine pr_jn (fun j j' : Int32 → Option (Int32 × ab_H) => ∀ (z0_ : Int32), j z0_ = (j' z0_).map (fun y => (y.1, Uo φ y.2))) ?_ (fun j9 j9' hj9 => ?_)
  · intro z2
    refine pr_wr (uo_fw φ _ _ _ _ _) (fun h3 => ?_)
    refine pr_rd (uo_fi φ _ _ _ _) (fun v4 => ?_)
    refine pr_if ?_ ?_
    · refine pr_ck (uo_io φ _ _ _) ?_
      refine pr_wr (pf_X12_remembers φ _ _ _) (fun h6 => ?_)
      refine pr_ck (uo_io φ _ _ _) ?_
      refine pr_wr (pf_X12_mixes φ _ _ _ _ _) (fun h7 => ?_)
      refine pr_ck (uo_io φ _ _ _) ?_
      refine pr_rd ((pf_X12_of φ _ _ _ _).trans oid) (fun v8 => ?_)
      rfl
    · rfl
  · refine pr_if ?_ ?_
    · refine pr_ck (uo_io φ _ _ _) ?_
      refine pr_rd ((pf_X12_of φ _ _ _ _).trans oid) (fun v11 => ?_)
      refine pr_if ?_ ?_
      · exact hj9 (nI 3)
      · refine pr_ck (uo_io φ _ _ _) ?_
        refine pr_rd ((pf_X12_of φ _ _ _ _).trans oid) (fun v13 => ?_)
        refine pr_if ?_ ?_
        · exact hj9 (nI 3)
        · exact hj9 (nI 0)
    · refine pr_ck (uo_io φ _ _ _) ?_
      refine pr_rd ((pf_X12_two φ _ _ _ _).trans oid) (fun v15 => ?_)
      exact hj9 v15
set_option maxRecDepth 100000 in
set_option maxHeartbeats 4000000 in
theorem pf_X12_steal (φ : Nat → Int64) (F : Nat) (x0 : Nat) (x1 : Int32) (x2 : Int32) (h : ab_H) : fX12_steal F x0 x1 x2 (Uo φ h) = (fX12_steal F x0 x1 x2 h).map (fun y => (y.1, Uo φ y.2)) := by
  unfold fX12_steal
  refine pr_ck (uo_io φ _ _ _) ?_
  refine pr_rd ((pf_X12_isPerson φ _ _ _).trans oid) (fun v1 => ?_)
  refine pr_jn (fun j j' : Int32 → Option (Int32 × ab_H) => ∀ (z0_ : Int32), j z0_ = (j' z0_).map (fun y => (y.1, Uo φ y.2))) ?_ (fun j13 j13' hj13 => ?_)
  · intro z2
    refine pr_wr (uo_fw φ _ _ _ _ _) (fun h3 => ?_)
    refine pr_rd (uo_fi φ _ _ _ _) (fun v4 => ?_)
    refine pr_if ?_ ?_
    · refine pr_ck (uo_io φ _ _ _) ?_
      refine pr_wr (pf_X12_remembers φ _ _ _) (fun h6 => ?_)
      refine pr_rd (uo_fr φ _ _ _ _) (fun v7 => ?_)
      refine pr_rd (uo_ia φ _ _ _ _) (fun v8 => ?_)
      refine pr_rd (uo_fr φ _ _ _ _) (fun v9 => ?_)
      refine pr_wr (uo_iw φ _ _ _ _ _) (fun h10 => ?_)
      refine pr_ck (uo_io φ _ _ _) ?_
      refine pr_wr (pf_X12_has φ _ _ _ _ _) (fun h11 => ?_)
      refine pr_ck (uo_io φ _ _ _) ?_
      refine pr_wr (pf_X12_writes φ _ _ _ _ _ _ _) (fun h12 => ?_)
      rfl
    · rfl
  · refine pr_jn (fun j j' : Option (Int32 × ab_H) => j = (j').map (fun y => (y.1, Uo φ y.2))) ?_ (fun j14 j14' hj14 => ?_)
    · exact hj13 (nI 1)
    · refine pr_if ?_ ?_
      · exact hj14
      · refine pr_ck (uo_io φ _ _ _) ?_
        refine pr_rd ((pf_X12_isHook φ _ _ _).trans oid) (fun v16 => ?_)
        refine pr_if ?_ ?_
        · exact hj14
        · refine pr_ck (uo_io φ _ _ _) ?_
          refine pr_rd ((pf_X12_of φ _ _ _ _).trans oid) (fun v18 => ?_)
          refine pr_if ?_ ?_
          · refine pr_rd (uo_fr φ _ _ _ _) (fun v20 => ?_)
            refine pr_rd (uo_ia φ _ _ _ _) (fun v21 => ?_)
            refine pr_if ?_ ?_
            · exact hj13 (nI 2)
            · exact hj13 (nI 0)
          · exact hj13 (nI 2)
set_option maxRecDepth 100000 in
set_option maxHeartbeats 4000000 in
theorem pf_X12_change (φ : Nat → Int64) (F : Nat) (x0 : Nat) (x1 : Int32) (x2 : Int32) (h : ab_H) : fX12_change F x0 x1 x2 (Uo φ h) = (fX12_change F x0 x1 x2 h).map (fun y => (y.1, Uo φ y.2)) := by
  unfold fX12_change
  refine pr_ck (uo_io φ _ _ _) ?_
  refine pr_rd ((pf_X12_two φ _ _ _ _).trans oid) (fun v1 => ?_)
  refine pr_jn (fun j j' : Int32 → Option (Int32 × ab_H) => ∀ (z0_ : Int32), j z0_ = (j' z0_).map (fun y => (y.1, Uo φ y.2))) ?_ (fun j12 j12' hj12 => ?_)
  · intro z2
    refine pr_wr (uo_fw φ _ _ _ _ _) (fun h3 => ?_)
    refine pr_rd (uo_fi φ _ _ _ _) (fun v4 => ?_)
    refine pr_if ?_ ?_
    · refine pr_ck (uo_io φ _ _ _) ?_
      refine pr_wr (pf_X12_remembers φ _ _ _) (fun h6 => ?_)
      refine pr_ck (uo_io φ _ _ _) ?_
      refine pr_rd ((pf_X12_of φ _ _ _ _).trans oid) (fun v7 => ?_)
      refine pr_ck (uo_io φ _ _ _) ?_
      refine pr_rd ((pf_X12_of φ _ _ _ _).trans oid) (fun v8 => ?_)
      refine pr_ck (uo_io φ _ _ _) ?_
      refine pr_wr (pf_X12_has φ _ _ _ _ _) (fun h9 => ?_)
      refine pr_ck (uo_io φ _ _ _) ?_
      refine pr_wr (pf_X12_has φ _ _ _ _ _) (fun h10 => ?_)
      refine pr_ck (uo_io φ _ _ _) ?_
      refine pr_rd ((pf_X12_of φ _ _ _ _).trans oid) (fun v11 => ?_)
      rfl
    · rfl
  · refine pr_if ?_ ?_
    · refine pr_ck (uo_io φ _ _ _) ?_
      refine pr_rd ((pf_X12_of φ _ _ _ _).trans oid) (fun v14 => ?_)
      refine pr_if ?_ ?_
      · exact hj12 (nI 3)
      · refine pr_ck (uo_io φ _ _ _) ?_
        refine pr_rd ((pf_X12_of φ _ _ _ _).trans oid) (fun v16 => ?_)
        refine pr_if ?_ ?_
        · exact hj12 (nI 3)
        · exact hj12 (nI 0)
    · refine pr_ck (uo_io φ _ _ _) ?_
      refine pr_rd ((pf_X12_two φ _ _ _ _).trans oid) (fun v18 => ?_)
      exact hj12 v18
set_option maxRecDepth 100000 in
set_option maxHeartbeats 4000000 in
theorem pf_X12_shave (φ : Nat → Int64) (F : Nat) (x0 : Nat) (x1 : Int32) (x2 : Int32) (h : ab_H) : fX12_shave F x0 x1 x2 (Uo φ h) = (fX12_shave F x0 x1 x2 h).map (fun y => (y.1, Uo φ y.2)) := by
  unfold fX12_shave
  refine pr_ck (uo_io φ _ _ _) ?_
  refine pr_rd ((pf_X12_isPerson φ _ _ _).trans oid) (fun v1 => ?_)
  refine pr_jn (fun j j' : Int32 → Option (Int32 × ab_H) => ∀ (z0_ : Int32), j z0_ = (j' z0_).map (fun y => (y.1, Uo φ y.2))) ?_ (fun j11 j11' hj11 => ?_)
  · intro z2
    refine pr_wr (uo_fw φ _ _ _ _ _) (fun h3 => ?_)
    refine pr_rd (uo_fi φ _ _ _ _) (fun v4 => ?_)
    refine pr_if ?_ ?_
    · refine pr_ck (uo_io φ _ _ _) ?_
      refine pr_wr (pf_X12_remembers φ _ _ _) (fun h6 => ?_)
      refine pr_ck (uo_io φ _ _ _) ?_
      refine pr_rd ((pf_X12_of φ _ _ _ _).trans oid) (fun v7 => ?_)
      refine pr_ck (uo_io φ _ _ _) ?_
      refine pr_wr (pf_X12_has φ _ _ _ _ _) (fun h8 => ?_)
      refine pr_ck (uo_io φ _ _ _) ?_
      refine pr_rd ((pf_X12_of φ _ _ _ _).trans oid) (fun v9 => ?_)
      refine pr_rd ((pf_X12_bits φ _ _ _).trans oid) (fun v10 => ?_)
      rfl
    · rfl
  · refine pr_jn (fun j j' : Option (Int32 × ab_H) => j = (j').map (fun y => (y.1, Uo φ y.2))) ?_ (fun j12 j12' hj12 => ?_)
    · exact hj11 (nI 1)
    · refine pr_if ?_ ?_
      · exact hj12
      · refine pr_rd ((pf_X12_isIn φ _ _ _ _).trans oid) (fun v14 => ?_)
        refine pr_if ?_ ?_
        · exact hj12
        · refine pr_ck (uo_io φ _ _ _) ?_
          refine pr_rd ((pf_X12_of φ _ _ _ _).trans oid) (fun v16 => ?_)
          refine pr_rd ((pf_X12_isOf φ _ _ _).trans oid) (fun v17 => ?_)
          refine pr_if ?_ ?_
          · exact hj11 (nI 2)
          · exact hj11 (nI 0)
set_option maxRecDepth 100000 in
set_option maxHeartbeats 4000000 in
theorem pf_X12_graft (φ : Nat → Int64) (F : Nat) (x0 : Nat) (x1 : Int32) (x2 : Int32) (x3 : Int32) (h : ab_H) : fX12_graft F x0 x1 x2 x3 (Uo φ h) = (fX12_graft F x0 x1 x2 x3 h).map (fun y => (y.1, Uo φ y.2)) := by
  unfold fX12_graft
  refine pr_ck (uo_io φ _ _ _) ?_
  refine pr_rd ((pf_X12_isPerson φ _ _ _).trans oid) (fun v1 => ?_)
  refine pr_jn (fun j j' : Int32 → Option (Int32 × ab_H) => ∀ (z0_ : Int32), j z0_ = (j' z0_).map (fun y => (y.1, Uo φ y.2))) ?_ (fun j13 j13' hj13 => ?_)
  · intro z2
    refine pr_wr (uo_fw φ _ _ _ _ _) (fun h3 => ?_)
    refine pr_rd (uo_fi φ _ _ _ _) (fun v4 => ?_)
    refine pr_if ?_ ?_
    · refine pr_ck (uo_io φ _ _ _) ?_
      refine pr_wr (pf_X12_remembers φ _ _ _) (fun h6 => ?_)
      refine pr_ck (uo_io φ _ _ _) ?_
      refine pr_rd ((pf_X12_of φ _ _ _ _).trans oid) (fun v7 => ?_)
      refine pr_ck (uo_io φ _ _ _) ?_
      refine pr_wr (pf_X12_has φ _ _ _ _ _) (fun h8 => ?_)
      refine pr_ck (uo_io φ _ _ _) ?_
      refine pr_rd ((pf_X12_of φ _ _ _ _).trans oid) (fun v9 => ?_)
      refine pr_ck (uo_io φ _ _ _) ?_
      refine pr_wr (pf_X12_has φ _ _ _ _ _) (fun h10 => ?_)
      refine pr_ck (uo_io φ _ _ _) ?_
      refine pr_rd ((pf_X12_of φ _ _ _ _).trans oid) (fun v11 => ?_)
      refine pr_rd ((pf_X12_bits φ _ _ _).trans oid) (fun v12 => ?_)
      rfl
    · rfl
  · refine pr_jn (fun j j' : Option (Int32 × ab_H) => j = (j').map (fun y => (y.1, Uo φ y.2))) ?_ (fun j14 j14' hj14 => ?_)
    · exact hj13 (nI 1)
    · refine pr_if ?_ ?_
      · exact hj14
      · refine pr_ck (uo_io φ _ _ _) ?_
        refine pr_rd ((pf_X12_isPerson φ _ _ _).trans oid) (fun v16 => ?_)
        refine pr_if ?_ ?_
        · exact hj14
        · refine pr_rd ((pf_X12_isIn φ _ _ _ _).trans oid) (fun v18 => ?_)
          refine pr_if ?_ ?_
          · exact hj14
          · refine pr_if ?_ ?_
            · exact hj13 (nI 2)
            · refine pr_ck (uo_io φ _ _ _) ?_
              refine pr_rd ((pf_X12_of φ _ _ _ _).trans oid) (fun v21 => ?_)
              refine pr_rd ((pf_X12_isOf φ _ _ _).trans oid) (fun v22 => ?_)
              refine pr_if ?_ ?_
              · exact hj13 (nI 3)
              · refine pr_ck (uo_io φ _ _ _) ?_
                refine pr_rd ((pf_X12_of φ _ _ _ _).trans oid) (fun v24 => ?_)
                refine pr_rd ((pf_X12_isOf φ _ _ _).trans oid) (fun v25 => ?_)
                refine pr_if ?_ ?_
                · exact hj13 (nI 0)
                · exact hj13 (nI 3)
set_option maxRecDepth 100000 in
set_option maxHeartbeats 4000000 in
theorem pf_X12_meets (φ : Nat → Int64) (x0 : Nat) (x1 : Int32) (x2 : Int32) (h : ab_H) : fX12_meets x0 x1 x2 (Uo φ h) = (fX12_meets x0 x1 x2 h).map (fun y => (y.1, Uo φ y.2)) := by
  unfold fX12_meets
  refine pr_ck (uo_io φ _ _ _) ?_
  refine pr_rd ((pf_X12_of φ _ _ _ _).trans oid) (fun v1 => ?_)
  refine pr_ck (uo_io φ _ _ _) ?_
  refine pr_rd ((pf_X12_of φ _ _ _ _).trans oid) (fun v2 => ?_)
  refine pr_ck (uo_io φ _ _ _) ?_
  refine pr_wr (pf_X12_has φ _ _ _ _ _) (fun h3 => ?_)
  refine pr_ck (uo_io φ _ _ _) ?_
  refine pr_wr (pf_X12_has φ _ _ _ _ _) (fun h4 => ?_)
  refine pr_rd (uo_fr φ _ _ _ _) (fun v5 => ?_)
  refine pr_ck (uo_io φ _ _ _) ?_
  refine pr_rd ((pf_X12_of φ _ _ _ _).trans oid) (fun v6 => ?_)
  refine pr_wr (uo_iw φ _ _ _ _ _) (fun h7 => ?_)
  refine pr_rd (uo_fr φ _ _ _ _) (fun v8 => ?_)
  refine pr_ck (uo_io φ _ _ _) ?_
  refine pr_rd ((pf_X12_of φ _ _ _ _).trans oid) (fun v9 => ?_)
  refine pr_wr (uo_iw φ _ _ _ _ _) (fun h10 => ?_)
  rfl
set_option maxRecDepth 100000 in
set_option maxHeartbeats 4000000 in
theorem pf_X12_meet (φ : Nat → Int64) (F : Nat) (x0 : Nat) (x1 : Int32) (x2 : Int32) (h : ab_H) : fX12_meet F x0 x1 x2 (Uo φ h) = (fX12_meet F x0 x1 x2 h).map (fun y => (y.1, Uo φ y.2)) := by
  unfold fX12_meet
  refine pr_ck (uo_io φ _ _ _) ?_
  refine pr_rd ((pf_X12_two φ _ _ _ _).trans oid) (fun v1 => ?_)
  refine pr_wr (uo_fw φ _ _ _ _ _) (fun h2 => ?_)
  refine pr_rd (uo_fi φ _ _ _ _) (fun v3 => ?_)
  refine pr_if ?_ ?_
  · refine pr_ck (uo_io φ _ _ _) ?_
    refine pr_wr (pf_X12_remembers φ _ _ _) (fun h5 => ?_)
    refine pr_ck (uo_io φ _ _ _) ?_
    refine pr_pr (pf_X12_meets φ _ _ _ _) (fun v6 => ?_)
    rfl
  · rfl
set_option maxRecDepth 100000 in
set_option maxHeartbeats 4000000 in
theorem pf_X12_freeHook_2 (φ : Nat → Int64) (x0 : Nat) (h : ab_H) : ∀ (n : Nat) (x1 : Int32), fX12_freeHook_2 x0 (Uo φ h) n x1 = (fX12_freeHook_2 x0 h n x1).map (fun y => y) := by
  intro n
  induction n with
  | zero => intro x1; rfl
  | succ n ih =>
    intro x1
    rw [fX12_freeHook_2, fX12_freeHook_2]
    refine pr_rd (uo_fr φ _ _ _ _) (fun v1 => ?_)
    refine pr_rd (uo_ia φ _ _ _ _) (fun v2 => ?_)
    refine pr_if ?_ ?_
    · refine pr_rd (uo_fr φ _ _ _ _) (fun v4 => ?_)
      refine pr_rd (uo_ia φ _ _ _ _) (fun v5 => ?_)
      refine pr_if ?_ ?_
      · rfl
      · exact ih (x1 + nI 1)
    · rfl
set_option maxRecDepth 100000 in
set_option maxHeartbeats 4000000 in
theorem pf_X12_freeHook (φ : Nat → Int64) (F : Nat) (x0 : Nat) (h : ab_H) : fX12_freeHook F x0 (Uo φ h) = (fX12_freeHook F x0 h).map (fun y => y) := by
  unfold fX12_freeHook
  exact pf_X12_freeHook_2 φ x0 h F (nI 0)
set_option maxRecDepth 100000 in
set_option maxHeartbeats 4000000 in
theorem pf_X12_holder_5 (φ : Nat → Int64) (x0 : Nat) (x2 : Int32) (h : ab_H) : ∀ (n : Nat) (x3 : Int32) (x4 : Int32), fX12_holder_5 x0 x2 (Uo φ h) n x3 x4 = (fX12_holder_5 x0 x2 h n x3 x4).map (fun y => y) := by
  intro n
  induction n with
  | zero => intro x3 x4; rfl
  | succ n ih =>
    intro x3 x4
    rw [fX12_holder_5, fX12_holder_5]
    refine pr_rd (uo_fr φ _ _ _ _) (fun v1 => ?_)
    refine pr_rd (uo_ia φ _ _ _ _) (fun v2 => ?_)
    refine pr_if ?_ ?_
    · refine pr_ck (uo_io φ _ _ _) ?_
      refine pr_rd ((pf_X12_of φ _ _ _ _).trans oid) (fun v4 => ?_)
      refine pr_if ?_ ?_
      · exact ih x3 (x4 + nI 1)
      · refine pr_if ?_ ?_
        · exact ih x3 (x4 + nI 1)
        · refine pr_if ?_ ?_
          · rfl
          · exact ih (x3 + (-1 : Int32)) (x4 + nI 1)
    · rfl
set_option maxRecDepth 100000 in
set_option maxHeartbeats 4000000 in
theorem pf_X12_holder (φ : Nat → Int64) (F : Nat) (x0 : Nat) (x1 : Int32) (x2 : Int32) (h : ab_H) : fX12_holder F x0 x1 x2 (Uo φ h) = (fX12_holder F x0 x1 x2 h).map (fun y => y) := by
  unfold fX12_holder
  exact pf_X12_holder_5 φ x0 x2 h F x1 (nI 0)
set_option maxRecDepth 100000 in
set_option maxHeartbeats 4000000 in
theorem pf_X12_holders_4 (φ : Nat → Int64) (x0 : Nat) (h : ab_H) : ∀ (n : Nat) (x1 : Int32) (x2 : Int32), fX12_holders_4 x0 (Uo φ h) n x1 x2 = (fX12_holders_4 x0 h n x1 x2).map (fun y => y) := by
  intro n
  induction n with
  | zero => intro x1 x2; rfl
  | succ n ih =>
    intro x1 x2
    rw [fX12_holders_4, fX12_holders_4]
    refine pr_rd (uo_fr φ _ _ _ _) (fun v1 => ?_)
    refine pr_rd (uo_ia φ _ _ _ _) (fun v2 => ?_)
    refine pr_if ?_ ?_
    · refine pr_ck (uo_io φ _ _ _) ?_
      refine pr_rd ((pf_X12_of φ _ _ _ _).trans oid) (fun v4 => ?_)
      refine pr_if ?_ ?_
      · exact ih (x1 ||| (nI 0)) (x2 + nI 1)
      · exact ih (x1 ||| ((nI 1) <<< (x2 &&& 31))) (x2 + nI 1)
    · rfl
set_option maxRecDepth 100000 in
set_option maxHeartbeats 4000000 in
theorem pf_X12_holders (φ : Nat → Int64) (F : Nat) (x0 : Nat) (h : ab_H) : fX12_holders F x0 (Uo φ h) = (fX12_holders F x0 h).map (fun y => y) := by
  unfold fX12_holders
  exact pf_X12_holders_4 φ x0 h F (nI 0) (nI 0)
set_option maxRecDepth 100000 in
set_option maxHeartbeats 4000000 in
theorem pf_X12_robs_11 (φ : Nat → Int64) (F : Nat) (x0 : Nat) : ∀ (n : Nat) (x1 : Int32) (x2 : Int32) (h : ab_H), fX12_robs_11 F x0 n x1 x2 (Uo φ h) = (fX12_robs_11 F x0 n x1 x2 h).map (Uo φ) := by
  intro n
  induction n with
  | zero => intro x1 x2 h; rfl
  | succ n ih =>
    intro x1 x2 h
    rw [fX12_robs_11, fX12_robs_11]
    refine pr_rd (uo_fr φ _ _ _ _) (fun v3 => ?_)
    refine pr_rd (uo_ia φ _ _ _ _) (fun v4 => ?_)
    refine pr_if ?_ ?_
    · refine pr_rd (uo_fr φ _ _ _ _) (fun v6 => ?_)
      refine pr_rd (uo_ia φ _ _ _ _) (fun v7 => ?_)
      refine pr_if ?_ ?_
      · exact ih x1 (x2 + nI 1) h
      · refine pr_if ?_ ?_
        · refine pr_ck (uo_io φ _ _ _) ?_
          refine pr_rd ((pf_X12_of φ _ _ _ _).trans oid) (fun v10 => ?_)
          refine pr_ck (uo_io φ _ _ _) ?_
          refine pr_rd ((pf_X12_of φ _ _ _ _).trans oid) (fun v11 => ?_)
          refine pr_ck (uo_io φ _ _ _) ?_
          refine pr_wr (pf_X12_has φ _ _ _ _ _) (fun h12 => ?_)
          exact ih (x1 + (-1 : Int32)) (x2 + nI 1) h12
        · exact ih (x1 + (-1 : Int32)) (x2 + nI 1) h
    · rfl
set_option maxRecDepth 100000 in
set_option maxHeartbeats 4000000 in
theorem pf_X12_robs (φ : Nat → Int64) (F : Nat) (x0 : Nat) (h : ab_H) : fX12_robs F x0 (Uo φ h) = (fX12_robs F x0 h).map (Uo φ) := by
  unfold fX12_robs
  refine pr_ck (uo_io φ _ _ _) ?_
  refine pr_rd ((pf_X12_hung φ _ _ _).trans oid) (fun v1 => ?_)
  refine pr_ck (uo_io φ _ _ _) ?_
  refine pr_pr (pf_X12_draw φ _ _ _) (fun v2 => ?_)
  exact pf_X12_robs_11 φ F x0 F v2.1 (nI 0) v2.2
set_option maxRecDepth 100000 in
set_option maxHeartbeats 4000000 in
theorem pf_X12_wrongs_4 (φ : Nat → Int64) (x0 : Nat) (h : ab_H) : ∀ (n : Nat) (x1 : Int32) (x2 : Int32), fX12_wrongs_4 x0 (Uo φ h) n x1 x2 = (fX12_wrongs_4 x0 h n x1 x2).map (fun y => y) := by
  intro n
  induction n with
  | zero => intro x1 x2; rfl
  | succ n ih =>
    intro x1 x2
    rw [fX12_wrongs_4, fX12_wrongs_4]
    refine pr_rd (uo_fr φ _ _ _ _) (fun v1 => ?_)
    refine pr_rd (uo_ia φ _ _ _ _) (fun v2 => ?_)
    refine pr_if ?_ ?_
    · refine pr_ck (uo_io φ _ _ _) ?_
      refine pr_rd ((pf_X12_of φ _ _ _ _).trans oid) (fun v4 => ?_)
      refine pr_if ?_ ?_
      · exact ih (x1 ||| (nI 0)) (x2 + nI 1)
      · refine pr_ck (uo_io φ _ _ _) ?_
        refine pr_rd ((pf_X12_of φ _ _ _ _).trans oid) (fun v6 => ?_)
        refine pr_if ?_ ?_
        · exact ih (x1 ||| (nI 0)) (x2 + nI 1)
        · exact ih (x1 ||| ((nI 1) <<< (x2 &&& 31))) (x2 + nI 1)
    · rfl
set_option maxRecDepth 100000 in
set_option maxHeartbeats 4000000 in
theorem pf_X12_wrongs (φ : Nat → Int64) (F : Nat) (x0 : Nat) (h : ab_H) : fX12_wrongs F x0 (Uo φ h) = (fX12_wrongs F x0 h).map (fun y => y) := by
  unfold fX12_wrongs
  exact pf_X12_wrongs_4 φ x0 h F (nI 0) (nI 0)
set_option maxRecDepth 100000 in
set_option maxHeartbeats 4000000 in
theorem pf_X12_wrong_ (φ : Nat → Int64) (F : Nat) (x0 : Nat) (h : ab_H) : fX12_wrong_ F x0 (Uo φ h) = (fX12_wrong_ F x0 h).map (fun y => (y.1, Uo φ y.2)) := by
  unfold fX12_wrong_
  refine pr_wr (uo_fw φ _ _ _ _ _) (fun h1 => ?_)
  refine pr_ck (uo_io φ _ _ _) ?_
  refine pr_rd ((pf_X12_wrongs φ _ _ _).trans oid) (fun v2 => ?_)
  rfl
set_option maxRecDepth 100000 in
set_option maxHeartbeats 4000000 in
theorem pf_X12_isLost (φ : Nat → Int64) (F : Nat) (x0 : Nat) (x1 : Int32) (h : ab_H) : fX12_isLost F x0 x1 (Uo φ h) = (fX12_isLost F x0 x1 h).map (fun y => y) := by
  unfold fX12_isLost
  refine pr_ck (uo_io φ _ _ _) ?_
  refine pr_rd ((pf_X12_wearer φ _ _ _ _).trans oid) (fun v1 => ?_)
  refine pr_if ?_ ?_
  · refine pr_ck (uo_io φ _ _ _) ?_
    refine pr_rd ((pf_X12_hookOf φ _ _ _ _).trans oid) (fun v3 => ?_)
    refine pr_if ?_ ?_
    · rfl
    · rfl
  · rfl
set_option maxRecDepth 100000 in
set_option maxHeartbeats 4000000 in
theorem pf_X12_lost_9 (φ : Nat → Int64) (F : Nat) (x0 : Nat) (h : ab_H) : ∀ (n : Nat) (x1 : Int32) (x2 : Int32), fX12_lost_9 F x0 (Uo φ h) n x1 x2 = (fX12_lost_9 F x0 h n x1 x2).map (fun y => (y.1, Uo φ y.2)) := by
  intro n
  induction n with
  | zero => intro x1 x2; rfl
  | succ n ih =>
    intro x1 x2
    rw [fX12_lost_9, fX12_lost_9]
    refine pr_rd (uo_fr φ _ _ _ _) (fun v2 => ?_)
    refine pr_rd (uo_ia φ _ _ _ _) (fun v3 => ?_)
    refine pr_if ?_ ?_
    · refine pr_ck (uo_io φ _ _ _) ?_
      refine pr_rd ((pf_X12_isLost φ _ _ _ _).trans oid) (fun v5 => ?_)
      refine pr_if ?_ ?_
      · exact ih (x1 ||| (nI 0)) (x2 + nI 1)
      · exact ih (x1 ||| ((nI 1) <<< (x2 &&& 31))) (x2 + nI 1)
    · rfl
set_option maxRecDepth 100000 in
set_option maxHeartbeats 4000000 in
theorem pf_X12_lost (φ : Nat → Int64) (F : Nat) (x0 : Nat) (h : ab_H) : fX12_lost F x0 (Uo φ h) = (fX12_lost F x0 h).map (fun y => (y.1, Uo φ y.2)) := by
  unfold fX12_lost
  refine pr_wr (uo_fw φ _ _ _ _ _) (fun h1 => ?_)
  exact pf_X12_lost_9 φ F x0 h1 F (nI 0) (nI 0)
set_option maxRecDepth 100000 in
set_option maxHeartbeats 4000000 in
theorem pf_X12_unclaimed_9 (φ : Nat → Int64) (F : Nat) (x0 : Nat) (h : ab_H) : ∀ (n : Nat) (x1 : Int32) (x2 : Int32), fX12_unclaimed_9 F x0 (Uo φ h) n x1 x2 = (fX12_unclaimed_9 F x0 h n x1 x2).map (fun y => (y.1, Uo φ y.2)) := by
  intro n
  induction n with
  | zero => intro x1 x2; rfl
  | succ n ih =>
    intro x1 x2
    rw [fX12_unclaimed_9, fX12_unclaimed_9]
    refine pr_rd (uo_fr φ _ _ _ _) (fun v2 => ?_)
    refine pr_rd (uo_ia φ _ _ _ _) (fun v3 => ?_)
    refine pr_if ?_ ?_
    · refine pr_rd (uo_fr φ _ _ _ _) (fun v5 => ?_)
      refine pr_rd (uo_ia φ _ _ _ _) (fun v6 => ?_)
      refine pr_if ?_ ?_
      · exact ih (x1 ||| (nI 0)) (x2 + nI 1)
      · refine pr_ck (uo_io φ _ _ _) ?_
        refine pr_rd ((pf_X12_hasTicketOf φ _ _ _ _).trans oid) (fun v8 => ?_)
        refine pr_if ?_ ?_
        · refine pr_rd (uo_fr φ _ _ _ _) (fun v10 => ?_)
          refine pr_rd (uo_ia φ _ _ _ _) (fun v11 => ?_)
          exact ih (x1 ||| ((nI 1) <<< (v11 &&& 31))) (x2 + nI 1)
        · exact ih (x1 ||| (nI 0)) (x2 + nI 1)
    · rfl
set_option maxRecDepth 100000 in
set_option maxHeartbeats 4000000 in
theorem pf_X12_unclaimed (φ : Nat → Int64) (F : Nat) (x0 : Nat) (h : ab_H) : fX12_unclaimed F x0 (Uo φ h) = (fX12_unclaimed F x0 h).map (fun y => (y.1, Uo φ y.2)) := by
  unfold fX12_unclaimed
  refine pr_wr (uo_fw φ _ _ _ _ _) (fun h1 => ?_)
  exact pf_X12_unclaimed_9 φ F x0 h1 F (nI 0) (nI 0)
set_option maxRecDepth 100000 in
set_option maxHeartbeats 4000000 in
theorem pf_X12_comesRound_6 (φ : Nat → Int64) (F : Nat) (x0 : Nat) (x1 : Int32) (h : ab_H) {k25 k25' : Int32 → Option Int32} (hk25 : ∀ (z0_ : Int32), k25 z0_ = (k25' z0_).map (fun y => y)) : ∀ (n : Nat) (x2 : Int32), fX12_comesRound_6 F x0 x1 (Uo φ h) k25 n x2 = (fX12_comesRound_6 F x0 x1 h k25' n x2).map (fun y => y) := by
  intro n
  induction n with
  | zero => intro x2; rfl
  | succ n ih =>
    intro x2
    rw [fX12_comesRound_6, fX12_comesRound_6]
    refine pr_if ?_ ?_
    · exact hk25 x2
    · refine pr_if ?_ ?_
      · exact hk25 x2
      · refine pr_ck (uo_io φ _ _ _) ?_
        refine pr_rd ((pf_X12_wearer φ _ _ _ _).trans oid) (fun v4 => ?_)
        exact ih v4
set_option maxRecDepth 100000 in
set_option maxHeartbeats 4000000 in
theorem pf_X12_comesRound (φ : Nat → Int64) (F : Nat) (x0 : Nat) (x1 : Int32) (h : ab_H) : fX12_comesRound F x0 x1 (Uo φ h) = (fX12_comesRound F x0 x1 h).map (fun y => y) := by
  unfold fX12_comesRound
  refine pr_ck (uo_io φ _ _ _) ?_
  refine pr_rd ((pf_X12_wearer φ _ _ _ _).trans oid) (fun v1 => ?_)
  refine pf_X12_comesRound_6 φ F x0 x1 h (fun z5 => ?_) F v1
  · refine pr_if ?_ ?_
    · rfl
    · rfl
set_option maxRecDepth 100000 in
set_option maxHeartbeats 4000000 in
theorem pf_X12_swaps_9 (φ : Nat → Int64) (F : Nat) (x0 : Nat) (h : ab_H) : ∀ (n : Nat) (x1 : Int32) (x2 : Int32), fX12_swaps_9 F x0 (Uo φ h) n x1 x2 = (fX12_swaps_9 F x0 h n x1 x2).map (fun y => (y.1, Uo φ y.2)) := by
  intro n
  induction n with
  | zero => intro x1 x2; rfl
  | succ n ih =>
    intro x1 x2
    rw [fX12_swaps_9, fX12_swaps_9]
    refine pr_rd (uo_fr φ _ _ _ _) (fun v2 => ?_)
    refine pr_rd (uo_ia φ _ _ _ _) (fun v3 => ?_)
    refine pr_if ?_ ?_
    · refine pr_ck (uo_io φ _ _ _) ?_
      refine pr_rd ((pf_X12_isLost φ _ _ _ _).trans oid) (fun v5 => ?_)
      refine pr_if ?_ ?_
      · refine pr_ck (uo_io φ _ _ _) ?_
        refine pr_rd ((pf_X12_wearer φ _ _ _ _).trans oid) (fun v7 => ?_)
        refine pr_if ?_ ?_
        · exact ih x1 (x2 + nI 1)
        · refine pr_ck (uo_io φ _ _ _) ?_
          refine pr_rd ((pf_X12_ring φ _ _ _ _).trans oid) (fun v9 => ?_)
          refine pr_ck (uo_io φ _ _ _) ?_
          refine pr_rd ((pf_X12_comesRound φ _ _ _ _).trans oid) (fun v10 => ?_)
          refine pr_if ?_ ?_
          · exact ih (x1 + nI 1) (x2 + nI 1)
          · refine pr_if ?_ ?_
            · exact ih ((x1 + nI 1) + (-1 : Int32)) (x2 + nI 1)
            · exact ih (x1 + nI 1) (x2 + nI 1)
      · exact ih x1 (x2 + nI 1)
    · rfl
set_option maxRecDepth 100000 in
set_option maxHeartbeats 4000000 in
theorem pf_X12_swaps (φ : Nat → Int64) (F : Nat) (x0 : Nat) (h : ab_H) : fX12_swaps F x0 (Uo φ h) = (fX12_swaps F x0 h).map (fun y => (y.1, Uo φ y.2)) := by
  unfold fX12_swaps
  refine pr_wr (uo_fw φ _ _ _ _ _) (fun h1 => ?_)
  exact pf_X12_swaps_9 φ F x0 h1 F (nI 0) (nI 0)
set_option maxRecDepth 100000 in
set_option maxHeartbeats 4000000 in
theorem pf_X12_saved_9 (φ : Nat → Int64) (x0 : Nat) (h : ab_H) : ∀ (n : Nat) (x1 : Int32) (x2 : Int32), fX12_saved_9 x0 (Uo φ h) n x1 x2 = (fX12_saved_9 x0 h n x1 x2).map (fun y => (y.1, Uo φ y.2)) := by
  intro n
  induction n with
  | zero => intro x1 x2; rfl
  | succ n ih =>
    intro x1 x2
    rw [fX12_saved_9, fX12_saved_9]
    refine pr_rd (uo_fr φ _ _ _ _) (fun v2 => ?_)
    refine pr_rd (uo_ia φ _ _ _ _) (fun v3 => ?_)
    refine pr_if ?_ ?_
    · refine pr_ck (uo_io φ _ _ _) ?_
      refine pr_rd ((pf_X12_of φ _ _ _ _).trans oid) (fun v5 => ?_)
      refine pr_if ?_ ?_
      · exact ih (x1 ||| (nI 0)) (x2 + nI 1)
      · refine pr_ck (uo_io φ _ _ _) ?_
        refine pr_rd ((pf_X12_of φ _ _ _ _).trans oid) (fun v7 => ?_)
        refine pr_if ?_ ?_
        · refine pr_ck (uo_io φ _ _ _) ?_
          refine pr_rd ((pf_X12_of φ _ _ _ _).trans oid) (fun v9 => ?_)
          refine pr_if ?_ ?_
          · exact ih (x1 ||| ((nI 1) <<< (x2 &&& 31))) (x2 + nI 1)
          · exact ih (x1 ||| (nI 0)) (x2 + nI 1)
        · exact ih (x1 ||| (nI 0)) (x2 + nI 1)
    · rfl
set_option maxRecDepth 100000 in
set_option maxHeartbeats 4000000 in
theorem pf_X12_saved (φ : Nat → Int64) (F : Nat) (x0 : Nat) (h : ab_H) : fX12_saved F x0 (Uo φ h) = (fX12_saved F x0 h).map (fun y => (y.1, Uo φ y.2)) := by
  unfold fX12_saved
  refine pr_wr (uo_fw φ _ _ _ _ _) (fun h1 => ?_)
  exact pf_X12_saved_9 φ x0 h1 F (nI 0) (nI 0)
set_option maxRecDepth 100000 in
set_option maxHeartbeats 4000000 in
theorem pf_X12_areUnlike_14 (φ : Nat → Int64) (F : Nat) (x0 : Nat) (x1 : Int32) (x2 : Int32) (h : ab_H) {k46 k46' : Option Int32} (hk46 : k46 = (k46').map (fun y => y)) : ∀ (n : Nat) (x3 : Int32), fX12_areUnlike_14 F x0 x1 x2 (Uo φ h) k46 n x3 = (fX12_areUnlike_14 F x0 x1 x2 h k46' n x3).map (fun y => y) := by
  intro n
  induction n with
  | zero => intro x3; rfl
  | succ n ih =>
    intro x3
    rw [fX12_areUnlike_14, fX12_areUnlike_14]
    refine pr_if ?_ ?_
    · refine pr_ck (uo_io φ _ _ _) ?_
      refine pr_rd ((pf_X12_of φ _ _ _ _).trans oid) (fun v5 => ?_)
      refine pr_ck (uo_io φ _ _ _) ?_
      refine pr_rd ((pf_X12_of φ _ _ _ _).trans oid) (fun v6 => ?_)
      refine pr_if ?_ ?_
      · rfl
      · exact ih (x3 + nI 1)
    · exact hk46
set_option maxRecDepth 100000 in
set_option maxHeartbeats 4000000 in
theorem pf_X12_areUnlike_2 (φ : Nat → Int64) (F : Nat) (x0 : Nat) (x1 : Int32) (h : ab_H) : ∀ (n : Nat) (x2 : Int32), fX12_areUnlike_2 F x0 x1 (Uo φ h) n x2 = (fX12_areUnlike_2 F x0 x1 h n x2).map (fun y => y) := by
  intro n
  induction n with
  | zero => intro x2; rfl
  | succ n ih =>
    intro x2
    rw [fX12_areUnlike_2, fX12_areUnlike_2]
    refine pr_rd (uo_fr φ _ _ _ _) (fun v1 => ?_)
    refine pr_rd (uo_ia φ _ _ _ _) (fun v2 => ?_)
    refine pr_if ?_ ?_
    · refine pf_X12_areUnlike_14 φ F x0 x1 x2 h ?_ F (nI 0)
      · exact ih (x2 + nI 1)
    · rfl
set_option maxRecDepth 100000 in
set_option maxHeartbeats 4000000 in
theorem pf_X12_areUnlike (φ : Nat → Int64) (F : Nat) (x0 : Nat) (x1 : Int32) (h : ab_H) : fX12_areUnlike F x0 x1 (Uo φ h) = (fX12_areUnlike F x0 x1 h).map (fun y => y) := by
  unfold fX12_areUnlike
  exact pf_X12_areUnlike_2 φ F x0 x1 h F (nI 0)
set_option maxRecDepth 100000 in
set_option maxHeartbeats 4000000 in
theorem pf_X12_marks_9 (φ : Nat → Int64) (F : Nat) (x0 : Nat) (h : ab_H) : ∀ (n : Nat) (x1 : Int32) (x2 : Int32), fX12_marks_9 F x0 (Uo φ h) n x1 x2 = (fX12_marks_9 F x0 h n x1 x2).map (fun y => (y.1, Uo φ y.2)) := by
  intro n
  induction n with
  | zero => intro x1 x2; rfl
  | succ n ih =>
    intro x1 x2
    rw [fX12_marks_9, fX12_marks_9]
    refine pr_if ?_ ?_
    · refine pr_jn (fun j j' : Option (Int32 × ab_H) => j = (j').map (fun y => (y.1, Uo φ y.2))) ?_ (fun j5 j5' hj5 => ?_)
      · refine pr_ck (uo_io φ _ _ _) ?_
        refine pr_rd ((pf_X12_areUnlike φ _ _ _ _).trans oid) (fun v3 => ?_)
        refine pr_if ?_ ?_
        · exact ih x1 (x2 + nI 1)
        · exact ih x2 (x2 + nI 1)
      · refine pr_if ?_ ?_
        · exact hj5
        · refine pr_rd ((pf_X12_bits φ _ _ _).trans oid) (fun v7 => ?_)
          refine pr_rd ((pf_X12_bits φ _ _ _).trans oid) (fun v8 => ?_)
          refine pr_if ?_ ?_
          · exact hj5
          · exact ih x1 (x2 + nI 1)
    · rfl
set_option maxRecDepth 100000 in
set_option maxHeartbeats 4000000 in
theorem pf_X12_marks (φ : Nat → Int64) (F : Nat) (x0 : Nat) (h : ab_H) : fX12_marks F x0 (Uo φ h) = (fX12_marks F x0 h).map (fun y => (y.1, Uo φ y.2)) := by
  unfold fX12_marks
  refine pr_wr (uo_fw φ _ _ _ _ _) (fun h1 => ?_)
  exact pf_X12_marks_9 φ F x0 h1 F (-1 : Int32) (nI 0)
set_option maxRecDepth 100000 in
set_option maxHeartbeats 4000000 in
theorem pf_X12_unknown_21 (φ : Nat → Int64) (F : Nat) (x0 : Nat) (x2 : Int32) (h : ab_H) {k67 k67' : Int32 → Option (Int32 × ab_H)} (hk67 : ∀ (z0_ : Int32), k67 z0_ = (k67' z0_).map (fun y => (y.1, Uo φ y.2))) : ∀ (n : Nat) (x1 : Int32) (x3 : Int32), fX12_unknown_21 F x0 x2 (Uo φ h) k67 n x1 x3 = (fX12_unknown_21 F x0 x2 h k67' n x1 x3).map (fun y => (y.1, Uo φ y.2)) := by
  intro n
  induction n with
  | zero => intro x1 x3; rfl
  | succ n ih =>
    intro x1 x3
    rw [fX12_unknown_21, fX12_unknown_21]
    refine pr_rd (uo_fr φ _ _ _ _) (fun v5 => ?_)
    refine pr_rd (uo_ia φ _ _ _ _) (fun v6 => ?_)
    refine pr_if ?_ ?_
    · refine pr_if ?_ ?_
      · exact ih (x1 ||| (nI 0)) (x3 + nI 1)
      · refine pr_ck (uo_io φ _ _ _) ?_
        refine pr_rd ((pf_X12_of φ _ _ _ _).trans oid) (fun v9 => ?_)
        refine pr_ck (uo_io φ _ _ _) ?_
        refine pr_rd ((pf_X12_of φ _ _ _ _).trans oid) (fun v10 => ?_)
        refine pr_if ?_ ?_
        · exact ih (x1 ||| ((nI 1) <<< (x2 &&& 31))) (x3 + nI 1)
        · exact ih (x1 ||| (nI 0)) (x3 + nI 1)
    · exact hk67 x1
set_option maxRecDepth 100000 in
set_option maxHeartbeats 4000000 in
theorem pf_X12_unknown_9 (φ : Nat → Int64) (F : Nat) (x0 : Nat) (h : ab_H) : ∀ (n : Nat) (x1 : Int32) (x2 : Int32), fX12_unknown_9 F x0 (Uo φ h) n x1 x2 = (fX12_unknown_9 F x0 h n x1 x2).map (fun y => (y.1, Uo φ y.2)) := by
  intro n
  induction n with
  | zero => intro x1 x2; rfl
  | succ n ih =>
    intro x1 x2
    rw [fX12_unknown_9, fX12_unknown_9]
    refine pr_rd (uo_fr φ _ _ _ _) (fun v2 => ?_)
    refine pr_rd (uo_ia φ _ _ _ _) (fun v3 => ?_)
    refine pr_if ?_ ?_
    · refine pf_X12_unknown_21 φ F x0 x2 h (fun z12 => ?_) F x1 (nI 0)
      · exact ih z12 (x2 + nI 1)
    · rfl
set_option maxRecDepth 100000 in
set_option maxHeartbeats 4000000 in
theorem pf_X12_unknown (φ : Nat → Int64) (F : Nat) (x0 : Nat) (h : ab_H) : fX12_unknown F x0 (Uo φ h) = (fX12_unknown F x0 h).map (fun y => (y.1, Uo φ y.2)) := by
  unfold fX12_unknown
  refine pr_wr (uo_fw φ _ _ _ _ _) (fun h1 => ?_)
  exact pf_X12_unknown_9 φ F x0 h1 F (nI 0) (nI 0)
set_option maxRecDepth 100000 in
set_option maxHeartbeats 4000000 in
theorem pf_X12_passes_44 (φ : Nat → Int64) (F : Nat) (x0 : Nat) (x1 : Int32) (x2 : Int32) (h : ab_H) : ∀ (n : Nat) (x3 : Int32) (x4 : Int32), fX12_passes_44 F x0 x1 x2 (Uo φ h) n x3 x4 = (fX12_passes_44 F x0 x1 x2 h n x3 x4).map (fun y => (y.1, Uo φ y.2)) := by
  intro n
  induction n with
  | zero => intro x3 x4; rfl
  | succ n ih =>
    intro x3 x4
    rw [fX12_passes_44, fX12_passes_44]
    refine pr_rd (uo_fr φ _ _ _ _) (fun v6 => ?_)
    refine pr_rd (uo_ia φ _ _ _ _) (fun v7 => ?_)
    refine pr_if ?_ ?_
    · refine pr_ck (uo_io φ _ _ _) ?_
      refine pr_rd ((pf_X12_of φ _ _ _ _).trans oid) (fun v9 => ?_)
      refine pr_rd ((pf_X12_bits φ _ _ _).trans oid) (fun v10 => ?_)
      refine pr_if ?_ ?_
      · exact ih (x3 ||| ((nI 1) <<< (x4 &&& 31))) (x4 + nI 1)
      · exact ih (x3 ||| (nI 0)) (x4 + nI 1)
    · rfl
set_option maxRecDepth 100000 in
set_option maxHeartbeats 4000000 in
theorem pf_X12_passes (φ : Nat → Int64) (F : Nat) (x0 : Nat) (x1 : Int32) (x2 : Int32) (h : ab_H) : fX12_passes F x0 x1 x2 (Uo φ h) = (fX12_passes F x0 x1 x2 h).map (fun y => (y.1, Uo φ y.2)) := by
  unfold fX12_passes
  refine pr_rd ((pf_X12_isIn φ _ _ _ _).trans oid) (fun v1 => ?_)
  refine pr_jn (fun j j' : Int32 → Option (Int32 × ab_H) => ∀ (z0_ : Int32), j z0_ = (j' z0_).map (fun y => (y.1, Uo φ y.2))) ?_ (fun j12 j12' hj12 => ?_)
  · intro z2
    refine pr_wr (uo_fw φ _ _ _ _ _) (fun h3 => ?_)
    refine pr_rd (uo_fi φ _ _ _ _) (fun v4 => ?_)
    refine pr_if ?_ ?_
    · exact pf_X12_passes_44 φ F x0 x1 x2 h3 F (nI 0) (nI 0)
    · rfl
  · refine pr_jn (fun j j' : Option (Int32 × ab_H) => j = (j').map (fun y => (y.1, Uo φ y.2))) ?_ (fun j13 j13' hj13 => ?_)
    · exact hj12 (nI 1)
    · refine pr_if ?_ ?_
      · exact hj13
      · refine pr_rd ((pf_X12_isIn φ _ _ _ _).trans oid) (fun v15 => ?_)
        refine pr_if ?_ ?_
        · exact hj13
        · exact hj12 (nI 0)
set_option maxRecDepth 100000 in
set_option maxHeartbeats 4000000 in
theorem pf_X12_pointsTo_5 (φ : Nat → Int64) (F : Nat) (x0 : Nat) (x1 : Int32) (x2 : Int32) (h : ab_H) : ∀ (n : Nat) (x3 : Int32) (x4 : Int32), fX12_pointsTo_5 F x0 x1 x2 (Uo φ h) n x3 x4 = (fX12_pointsTo_5 F x0 x1 x2 h n x3 x4).map (fun y => y) := by
  intro n
  induction n with
  | zero => intro x3 x4; rfl
  | succ n ih =>
    intro x3 x4
    rw [fX12_pointsTo_5, fX12_pointsTo_5]
    refine pr_rd (uo_fr φ _ _ _ _) (fun v1 => ?_)
    refine pr_rd (uo_ia φ _ _ _ _) (fun v2 => ?_)
    refine pr_if ?_ ?_
    · refine pr_rd ((pf_X12_isOf φ _ _ _).trans oid) (fun v4 => ?_)
      refine pr_if ?_ ?_
      · exact ih x3 (x4 + nI 1)
      · refine pr_if ?_ ?_
        · exact ih x4 (x4 + nI 1)
        · refine pr_ck (uo_io φ _ _ _) ?_
          refine pr_rd ((pf_X12_of φ _ _ _ _).trans oid) (fun v7 => ?_)
          refine pr_ck (uo_io φ _ _ _) ?_
          refine pr_rd ((pf_X12_dear φ _ _ _ _ _).trans oid) (fun v8 => ?_)
          refine pr_ck (uo_io φ _ _ _) ?_
          refine pr_rd ((pf_X12_of φ _ _ _ _).trans oid) (fun v9 => ?_)
          refine pr_ck (uo_io φ _ _ _) ?_
          refine pr_rd ((pf_X12_dear φ _ _ _ _ _).trans oid) (fun v10 => ?_)
          refine pr_if ?_ ?_
          · exact ih x4 (x4 + nI 1)
          · exact ih x3 (x4 + nI 1)
    · rfl
set_option maxRecDepth 100000 in
set_option maxHeartbeats 4000000 in
theorem pf_X12_pointsTo (φ : Nat → Int64) (F : Nat) (x0 : Nat) (x1 : Int32) (x2 : Int32) (h : ab_H) : fX12_pointsTo F x0 x1 x2 (Uo φ h) = (fX12_pointsTo F x0 x1 x2 h).map (fun y => y) := by
  unfold fX12_pointsTo
  exact pf_X12_pointsTo_5 φ F x0 x1 x2 h F (-1 : Int32) (nI 0)
set_option maxRecDepth 100000 in
set_option maxHeartbeats 4000000 in
theorem pf_X12_trades_4 (φ : Nat → Int64) (F : Nat) (x0 : Nat) {k47 k47' : Int32 → ab_H → Option ab_H} (hk47 : ∀ (z0_ : Int32) (z1_ : ab_H), k47 z0_ (Uo φ z1_) = (k47' z0_ z1_).map (Uo φ)) : ∀ (n : Nat) (x1 : Int32) (x2 : Int32) (h : ab_H), fX12_trades_4 F x0 k47 n x1 x2 (Uo φ h) = (fX12_trades_4 F x0 k47' n x1 x2 h).map (Uo φ) := by
  intro n
  induction n with
  | zero => intro x1 x2 h; rfl
  | succ n ih =>
    intro x1 x2 h
    rw [fX12_trades_4, fX12_trades_4]
    refine pr_rd (uo_fr φ _ _ _ _) (fun v1 => ?_)
    refine pr_rd (uo_ia φ _ _ _ _) (fun v2 => ?_)
    refine pr_if ?_ ?_
    · refine pr_rd (uo_fr φ _ _ _ _) (fun v4 => ?_)
      refine pr_wr (uo_iw φ _ _ _ _ _) (fun h5 => ?_)
      refine pr_ck (uo_io φ _ _ _) ?_
      refine pr_rd ((pf_X12_of φ _ _ _ _).trans oid) (fun v6 => ?_)
      refine pr_if ?_ ?_
      · exact ih (x1 ||| (nI 0)) (x2 + nI 1) h5
      · exact ih (x1 ||| ((nI 1) <<< (x2 &&& 31))) (x2 + nI 1) h5
    · exact hk47 x1 h
set_option maxRecDepth 100000 in
set_option maxHeartbeats 4000000 in
theorem pf_X12_trades_53 (φ : Nat → Int64) (F : Nat) (x0 : Nat) (x1 : Int32) (h : ab_H) {k67 k67' : Int32 → Option ab_H} (hk67 : ∀ (z0_ : Int32), k67 z0_ = (k67' z0_).map (Uo φ)) : ∀ (n : Nat) (x2 : Int32), fX12_trades_53 F x0 x1 (Uo φ h) k67 n x2 = (fX12_trades_53 F x0 x1 h k67' n x2).map (Uo φ) := by
  intro n
  induction n with
  | zero => intro x2; rfl
  | succ n ih =>
    intro x2
    rw [fX12_trades_53, fX12_trades_53]
    refine pr_rd ((pf_X12_isOf φ _ _ _).trans oid) (fun v11 => ?_)
    refine pr_if ?_ ?_
    · exact ih (x2 + nI 1)
    · exact hk67 x2
set_option maxRecDepth 100000 in
set_option maxHeartbeats 4000000 in
theorem pf_X12_trades_69 (φ : Nat → Int64) (F : Nat) (x0 : Nat) (x1 : Int32) (h : ab_H) {k88 k88' : Int32 → Option ab_H} (hk88 : ∀ (z0_ : Int32), k88 z0_ = (k88' z0_).map (Uo φ)) : ∀ (n : Nat) (x2 : Int32) (x3 : Int32), fX12_trades_69 F x0 x1 (Uo φ h) k88 n x2 x3 = (fX12_trades_69 F x0 x1 h k88' n x2 x3).map (Uo φ) := by
  intro n
  induction n with
  | zero => intro x2 x3; rfl
  | succ n ih =>
    intro x2 x3
    rw [fX12_trades_69, fX12_trades_69]
    refine pr_if ?_ ?_
    · refine pr_ck (uo_io φ _ _ _) ?_
      refine pr_rd ((pf_X12_pointsTo φ _ _ _ _ _).trans oid) (fun v15 => ?_)
      exact ih v15 (x3 + nI 1)
    · exact hk88 x2
set_option maxRecDepth 100000 in
set_option maxHeartbeats 4000000 in
theorem pf_X12_trades_93 (φ : Nat → Int64) (F : Nat) (x0 : Nat) (x1 : Int32) {k137 k137' : Int32 → ab_H → Option ab_H} (hk137 : ∀ (z0_ : Int32) (z1_ : ab_H), k137 z0_ (Uo φ z1_) = (k137' z0_ z1_).map (Uo φ)) : ∀ (n : Nat) (x2 : Int32) (x4 : Int32) (h : ab_H), fX12_trades_93 F x0 x1 k137 n x2 x4 (Uo φ h) = (fX12_trades_93 F x0 x1 k137' n x2 x4 h).map (Uo φ) := by
  intro n
  induction n with
  | zero => intro x2 x4 h; rfl
  | succ n ih =>
    intro x2 x4 h
    rw [fX12_trades_93, fX12_trades_93]
    refine pr_rd ((pf_X12_isOf φ _ _ _).trans oid) (fun v17 => ?_)
    refine pr_if ?_ ?_
    · refine pr_rd (uo_fr φ _ _ _ _) (fun v19 => ?_)
      refine pr_ck (uo_io φ _ _ _) ?_
      refine pr_rd ((pf_X12_pointsTo φ _ _ _ _ _).trans oid) (fun v20 => ?_)
      refine pr_ck (uo_io φ _ _ _) ?_
      refine pr_rd ((pf_X12_of φ _ _ _ _).trans oid) (fun v21 => ?_)
      refine pr_wr (uo_iw φ _ _ _ _ _) (fun h22 => ?_)
      refine pr_ck (uo_io φ _ _ _) ?_
      refine pr_rd ((pf_X12_pointsTo φ _ _ _ _ _).trans oid) (fun v23 => ?_)
      exact ih v23 (x4 ||| ((nI 1) <<< (x2 &&& 31))) h22
    · exact hk137 x4 h
set_option maxRecDepth 100000 in
set_option maxHeartbeats 4000000 in
theorem pf_X12_trades_47 (φ : Nat → Int64) (F : Nat) (x0 : Nat) : ∀ (n : Nat) (x1 : Int32) (h : ab_H), fX12_trades_47 F x0 n x1 (Uo φ h) = (fX12_trades_47 F x0 n x1 h).map (Uo φ) := by
  intro n
  induction n with
  | zero => intro x1 h; rfl
  | succ n ih =>
    intro x1 h
    rw [fX12_trades_47, fX12_trades_47]
    refine pr_if ?_ ?_
    · rfl
    · refine pf_X12_trades_53 φ F x0 x1 h (fun z13 => ?_) F (nI 0)
      · refine pf_X12_trades_69 φ F x0 x1 h (fun z16 => ?_) F z13 (nI 0)
        · refine pf_X12_trades_93 φ F x0 x1 (fun z24 h25 => ?_) F z16 (nI 0) h
          · exact ih (x1 &&& (z24 ^^^ (-1 : Int32))) h25
set_option maxRecDepth 100000 in
set_option maxHeartbeats 4000000 in
theorem pf_X12_trades (φ : Nat → Int64) (F : Nat) (x0 : Nat) (h : ab_H) : fX12_trades F x0 (Uo φ h) = (fX12_trades F x0 h).map (Uo φ) := by
  unfold fX12_trades
  refine pf_X12_trades_4 φ F x0 (fun z8 h9 => ?_) F (nI 0) (nI 0) h
  · exact pf_X12_trades_47 φ F x0 F z8 h9
set_option maxRecDepth 100000 in
set_option maxHeartbeats 4000000 in
theorem pf_X12_core (φ : Nat → Int64) (F : Nat) (x0 : Nat) (x1 : Int32) (h : ab_H) : fX12_core F x0 x1 (Uo φ h) = (fX12_core F x0 x1 h).map (fun y => (y.1, Uo φ y.2)) := by
  unfold fX12_core
  refine pr_ck (uo_io φ _ _ _) ?_
  refine pr_rd ((pf_X12_isPerson φ _ _ _).trans oid) (fun v1 => ?_)
  refine pr_jn (fun j j' : Int32 → Option (Int32 × ab_H) => ∀ (z0_ : Int32), j z0_ = (j' z0_).map (fun y => (y.1, Uo φ y.2))) ?_ (fun j9 j9' hj9 => ?_)
  · intro z2
    refine pr_wr (uo_fw φ _ _ _ _ _) (fun h3 => ?_)
    refine pr_rd (uo_fi φ _ _ _ _) (fun v4 => ?_)
    refine pr_if ?_ ?_
    · refine pr_ck (uo_io φ _ _ _) ?_
      refine pr_wr (pf_X12_trades φ _ _ _) (fun h6 => ?_)
      refine pr_rd (uo_fr φ _ _ _ _) (fun v7 => ?_)
      refine pr_rd (uo_ia φ _ _ _ _) (fun v8 => ?_)
      rfl
    · rfl
  · refine pr_if ?_ ?_
    · exact hj9 (nI 1)
    · exact hj9 (nI 0)
set_option maxRecDepth 100000 in
set_option maxHeartbeats 4000000 in
theorem pf_X12_gains_13 (φ : Nat → Int64) (F : Nat) (x0 : Nat) (h : ab_H) : ∀ (n : Nat) (x1 : Int32) (x2 : Int32), fX12_gains_13 F x0 (Uo φ h) n x1 x2 = (fX12_gains_13 F x0 h n x1 x2).map (fun y => (y.1, Uo φ y.2)) := by
  intro n
  induction n with
  | zero => intro x1 x2; rfl
  | succ n ih =>
    intro x1 x2
    rw [fX12_gains_13, fX12_gains_13]
    refine pr_rd (uo_fr φ _ _ _ _) (fun v3 => ?_)
    refine pr_rd (uo_ia φ _ _ _ _) (fun v4 => ?_)
    refine pr_if ?_ ?_
    · refine pr_rd (uo_fr φ _ _ _ _) (fun v6 => ?_)
      refine pr_rd (uo_ia φ _ _ _ _) (fun v7 => ?_)
      refine pr_ck (uo_io φ _ _ _) ?_
      refine pr_rd ((pf_X12_of φ _ _ _ _).trans oid) (fun v8 => ?_)
      refine pr_if ?_ ?_
      · exact ih (x1 + (nI 0)) (x2 + nI 1)
      · exact ih (x1 + (nI 1)) (x2 + nI 1)
    · rfl
set_option maxRecDepth 100000 in
set_option maxHeartbeats 4000000 in
theorem pf_X12_gains (φ : Nat → Int64) (F : Nat) (x0 : Nat) (h : ab_H) : fX12_gains F x0 (Uo φ h) = (fX12_gains F x0 h).map (fun y => (y.1, Uo φ y.2)) := by
  unfold fX12_gains
  refine pr_wr (uo_fw φ _ _ _ _ _) (fun h1 => ?_)
  refine pr_ck (uo_io φ _ _ _) ?_
  refine pr_wr (pf_X12_trades φ _ _ _) (fun h2 => ?_)
  exact pf_X12_gains_13 φ F x0 h2 F (nI 0) (nI 0)
set_option maxRecDepth 100000 in
set_option maxHeartbeats 4000000 in
theorem pf_X12_hasDearer_2 (φ : Nat → Int64) (F : Nat) (x0 : Nat) (x1 : Int32) (x2 : Int32) (h : ab_H) : ∀ (n : Nat) (x3 : Int32), fX12_hasDearer_2 F x0 x1 x2 (Uo φ h) n x3 = (fX12_hasDearer_2 F x0 x1 x2 h n x3).map (fun y => y) := by
  intro n
  induction n with
  | zero => intro x3; rfl
  | succ n ih =>
    intro x3
    rw [fX12_hasDearer_2, fX12_hasDearer_2]
    refine pr_rd (uo_fr φ _ _ _ _) (fun v1 => ?_)
    refine pr_rd (uo_ia φ _ _ _ _) (fun v2 => ?_)
    refine pr_if ?_ ?_
    · refine pr_rd ((pf_X12_isOf φ _ _ _).trans oid) (fun v4 => ?_)
      refine pr_if ?_ ?_
      · exact ih (x3 + nI 1)
      · refine pr_ck (uo_io φ _ _ _) ?_
        refine pr_rd ((pf_X12_of φ _ _ _ _).trans oid) (fun v6 => ?_)
        refine pr_ck (uo_io φ _ _ _) ?_
        refine pr_rd ((pf_X12_dear φ _ _ _ _ _).trans oid) (fun v7 => ?_)
        refine pr_ck (uo_io φ _ _ _) ?_
        refine pr_rd ((pf_X12_of φ _ _ _ _).trans oid) (fun v8 => ?_)
        refine pr_ck (uo_io φ _ _ _) ?_
        refine pr_rd ((pf_X12_dear φ _ _ _ _ _).trans oid) (fun v9 => ?_)
        refine pr_if ?_ ?_
        · rfl
        · exact ih (x3 + nI 1)
    · rfl
set_option maxRecDepth 100000 in
set_option maxHeartbeats 4000000 in
theorem pf_X12_hasDearer (φ : Nat → Int64) (F : Nat) (x0 : Nat) (x1 : Int32) (x2 : Int32) (h : ab_H) : fX12_hasDearer F x0 x1 x2 (Uo φ h) = (fX12_hasDearer F x0 x1 x2 h).map (fun y => y) := by
  unfold fX12_hasDearer
  exact pf_X12_hasDearer_2 φ F x0 x1 x2 h F (nI 0)
set_option maxRecDepth 100000 in
set_option maxHeartbeats 4000000 in
theorem pf_X12_hears_30 (φ : Nat → Int64) (F : Nat) (x0 : Nat) (x1 : Int32) (h : ab_H) {k91 k91' : Int32 → Option (Int32 × ab_H)} (hk91 : ∀ (z0_ : Int32), k91 z0_ = (k91' z0_).map (fun y => (y.1, Uo φ y.2))) : ∀ (n : Nat) (x2 : Int32) (x3 : Int32), fX12_hears_30 F x0 x1 (Uo φ h) k91 n x2 x3 = (fX12_hears_30 F x0 x1 h k91' n x2 x3).map (fun y => (y.1, Uo φ y.2)) := by
  intro n
  induction n with
  | zero => intro x2 x3; rfl
  | succ n ih =>
    intro x2 x3
    rw [fX12_hears_30, fX12_hears_30]
    refine pr_if ?_ ?_
    · refine pr_if ?_ ?_
      · exact hk91 x2
      · refine pr_cn ?_
        refine pr_if ?_ ?_
        · refine pr_rd (uo_fr φ _ _ _ _) (fun v10 => ?_)
          refine pr_rd (uo_ia φ _ _ _ _) (fun v11 => ?_)
          refine pr_rd (uo_fr φ _ _ _ _) (fun v12 => ?_)
          refine pr_rd (uo_ia φ _ _ _ _) (fun v13 => ?_)
          refine pr_if ?_ ?_
          · exact ih (nI 1) (x3 + nI 1)
          · exact ih (nI 0) (x3 + nI 1)
        · refine pr_rd (uo_fr φ _ _ _ _) (fun v15 => ?_)
          refine pr_rd (uo_ia φ _ _ _ _) (fun v16 => ?_)
          refine pr_if ?_ ?_
          · exact ih (nI 1) (x3 + nI 1)
          · exact ih (nI 0) (x3 + nI 1)
    · exact hk91 x2
set_option maxRecDepth 100000 in
set_option maxHeartbeats 4000000 in
theorem pf_X12_hears_93 (φ : Nat → Int64) (F : Nat) (x0 : Nat) (x1 : Int32) (x2 : Int32) : ∀ (n : Nat) (x3 : Int32) (h : ab_H), fX12_hears_93 F x0 x1 x2 n x3 (Uo φ h) = (fX12_hears_93 F x0 x1 x2 n x3 h).map (fun y => (y.1, Uo φ y.2)) := by
  intro n
  induction n with
  | zero => intro x3 h; rfl
  | succ n ih =>
    intro x3 h
    rw [fX12_hears_93, fX12_hears_93]
    refine pr_if ?_ ?_
    · refine pr_if ?_ ?_
      · refine pr_cn ?_
        refine pr_wr (uo_fw φ _ _ _ _ _) (fun h22 => ?_)
        refine pr_cb ?_
        rfl
      · refine pr_rd (uo_fr φ _ _ _ _) (fun v24 => ?_)
        refine pr_rd (uo_fr φ _ _ _ _) (fun v25 => ?_)
        refine pr_rd (uo_ia φ _ _ _ _) (fun v26 => ?_)
        refine pr_wr (uo_iw φ _ _ _ _ _) (fun h27 => ?_)
        exact ih (x3 + nI 1) h27
    · refine pr_cn ?_
      refine pr_wr (uo_fw φ _ _ _ _ _) (fun h29 => ?_)
      refine pr_cb ?_
      rfl
set_option maxRecDepth 100000 in
set_option maxHeartbeats 4000000 in
theorem pf_X12_hears (φ : Nat → Int64) (F : Nat) (x0 : Nat) (h : ab_H) : fX12_hears F x0 (Uo φ h) = (fX12_hears F x0 h).map (fun y => (y.1, Uo φ y.2)) := by
  unfold fX12_hears
  refine pr_rd (uo_fi φ _ _ _ _) (fun v1 => ?_)
  refine pr_wr (uo_fw φ _ _ _ _ _) (fun h2 => ?_)
  refine pr_cn ?_
  refine pr_if ?_ ?_
  · refine pr_if ?_ ?_
    · refine pf_X12_hears_30 φ F x0 v1 h2 (fun z18 => ?_) F (nI 1) (nI 0)
      · exact pf_X12_hears_93 φ F x0 v1 z18 F (nI 0) h2
    · refine pf_X12_hears_30 φ F x0 v1 h2 (fun z31 => ?_) F (nI 0) (nI 0)
      · exact pf_X12_hears_93 φ F x0 v1 z31 F (nI 0) h2
  · refine pf_X12_hears_30 φ F x0 v1 h2 (fun z32 => ?_) F (nI 0) (nI 0)
    · exact pf_X12_hears_93 φ F x0 v1 z32 F (nI 0) h2
set_option maxRecDepth 100000 in
set_option maxHeartbeats 4000000 in
theorem pf_X12_counts_36 (φ : Nat → Int64) (F : Nat) (x0 : Nat) (x1 : Int32) (x2 : Int32) (x3 : Int32) (h : ab_H) {k89 k89' : Int32 → Option (Int32 × ab_H)} (hk89 : ∀ (z0_ : Int32), k89 z0_ = (k89' z0_).map (fun y => (y.1, Uo φ y.2))) : ∀ (n : Nat) (x4 : Int32) (x5 : Int32), fX12_counts_36 F x0 x1 x2 x3 (Uo φ h) k89 n x4 x5 = (fX12_counts_36 F x0 x1 x2 x3 h k89' n x4 x5).map (fun y => (y.1, Uo φ y.2)) := by
  intro n
  induction n with
  | zero => intro x4 x5; rfl
  | succ n ih =>
    intro x4 x5
    rw [fX12_counts_36, fX12_counts_36]
    refine pr_if ?_ ?_
    · refine pr_rd ((pf_X12_isOf φ _ _ _).trans oid) (fun v8 => ?_)
      refine pr_if ?_ ?_
      · exact ih x4 (x5 + nI 1)
      · refine pr_rd (uo_fr φ _ _ _ _) (fun v10 => ?_)
        refine pr_rd (uo_ia φ _ _ _ _) (fun v11 => ?_)
        refine pr_rd ((pf_X12_isOf φ _ _ _).trans oid) (fun v12 => ?_)
        refine pr_if ?_ ?_
        · exact ih x4 (x5 + nI 1)
        · refine pr_rd (uo_fr φ _ _ _ _) (fun v14 => ?_)
          refine pr_rd (uo_ia φ _ _ _ _) (fun v15 => ?_)
          exact ih (x4 + v15) (x5 + nI 1)
    · exact hk89 x4
set_option maxRecDepth 100000 in
set_option maxHeartbeats 4000000 in
theorem pf_X12_counts_16 (φ : Nat → Int64) (F : Nat) (x0 : Nat) (x1 : Int32) : ∀ (n : Nat) (x2 : Int32) (h : ab_H), fX12_counts_16 F x0 x1 n x2 (Uo φ h) = (fX12_counts_16 F x0 x1 n x2 h).map (fun y => (y.1, Uo φ y.2)) := by
  intro n
  induction n with
  | zero => intro x2 h; rfl
  | succ n ih =>
    intro x2 h
    rw [fX12_counts_16, fX12_counts_16]
    refine pr_if ?_ ?_
    · refine pr_rd ((pf_X12_bits φ _ _ _).trans oid) (fun v6 => ?_)
      refine pf_X12_counts_36 φ F x0 x1 x2 (v6 - (nI 1)) h (fun z16 => ?_) F (nI 0) (nI 0)
      · refine pr_rd (uo_fr φ _ _ _ _) (fun v17 => ?_)
        refine pr_wr (uo_iw φ _ _ _ _ _) (fun h18 => ?_)
        exact ih (x2 + nI 1) h18
    · refine pr_rd (uo_fr φ _ _ _ _) (fun v19 => ?_)
      refine pr_rd (uo_ia φ _ _ _ _) (fun v20 => ?_)
      rfl
set_option maxRecDepth 100000 in
set_option maxHeartbeats 4000000 in
theorem pf_X12_counts (φ : Nat → Int64) (F : Nat) (x0 : Nat) (h : ab_H) : fX12_counts F x0 (Uo φ h) = (fX12_counts F x0 h).map (fun y => (y.1, Uo φ y.2)) := by
  unfold fX12_counts
  refine pr_rd (uo_fr φ _ _ _ _) (fun v1 => ?_)
  refine pr_rd (uo_ia φ _ _ _ _) (fun v2 => ?_)
  refine pr_rd (uo_fr φ _ _ _ _) (fun v3 => ?_)
  refine pr_wr (uo_iw φ _ _ _ _ _) (fun h4 => ?_)
  exact pf_X12_counts_16 φ F x0 v2 F (nI 1) h4
set_option maxRecDepth 100000 in
set_option maxHeartbeats 4000000 in
theorem pf_X12_step (φ : Nat → Int64) (x0 : Nat) (x1 : Int32) (x2 : Int32) (h : ab_H) : fX12_step x0 x1 x2 (Uo φ h) = (fX12_step x0 x1 x2 h).map (fun y => y) := by
  unfold fX12_step
  refine pr_jn (fun j j' : Int32 → Option Int32 => ∀ (z0_ : Int32), j z0_ = (j' z0_).map (fun y => y)) ?_ (fun j4 j4' hj4 => ?_)
  · intro z1
    refine pr_ck (uo_io φ _ _ _) ?_
    refine pr_rd ((pf_X12_of φ _ _ _ _).trans oid) (fun v2 => ?_)
    refine pr_if ?_ ?_
    · rfl
    · rfl
  · refine pr_if ?_ ?_
    · exact hj4 (nI 0)
    · refine pr_ck (uo_io φ _ _ _) ?_
      refine pr_rd ((pf_X12_of φ _ _ _ _).trans oid) (fun v6 => ?_)
      exact hj4 v6
set_option maxRecDepth 100000 in
set_option maxHeartbeats 4000000 in
theorem pf_X12_left (φ : Nat → Int64) (x0 : Nat) (x1 : Int32) (x2 : Int32) (h : ab_H) : fX12_left x0 x1 x2 (Uo φ h) = (fX12_left x0 x1 x2 h).map (fun y => y) := by
  unfold fX12_left
  refine pr_rd (uo_fr φ _ _ _ _) (fun v1 => ?_)
  refine pr_rd (uo_ia φ _ _ _ _) (fun v2 => ?_)
  rfl
set_option maxRecDepth 100000 in
set_option maxHeartbeats 4000000 in
theorem pf_X12_serves_46 (φ : Nat → Int64) (F : Nat) (x0 : Nat) (x1 : Int32) (x2 : Int32) (x3 : Int32) (h : ab_H) {k112 k112' : Int32 → Option ab_H} (hk112 : ∀ (z0_ : Int32), k112 z0_ = (k112' z0_).map (Uo φ)) : ∀ (n : Nat) (x4 : Int32) (x5 : Int32), fX12_serves_46 F x0 x1 x2 x3 (Uo φ h) k112 n x4 x5 = (fX12_serves_46 F x0 x1 x2 x3 h k112' n x4 x5).map (Uo φ) := by
  intro n
  induction n with
  | zero => intro x4 x5; rfl
  | succ n ih =>
    intro x4 x5
    rw [fX12_serves_46, fX12_serves_46]
    refine pr_rd (uo_fr φ _ _ _ _) (fun v7 => ?_)
    refine pr_rd (uo_ia φ _ _ _ _) (fun v8 => ?_)
    refine pr_if ?_ ?_
    · refine pr_rd ((pf_X12_isOf φ _ _ _).trans oid) (fun v10 => ?_)
      refine pr_if ?_ ?_
      · exact ih x4 (x5 + nI 1)
      · refine pr_ck (uo_io φ _ _ _) ?_
        refine pr_rd ((pf_X12_step φ _ _ _ _).trans oid) (fun v12 => ?_)
        refine pr_rd ((pf_X12_bits φ _ _ _).trans oid) (fun v13 => ?_)
        refine pr_ck (uo_io φ _ _ _) ?_
        refine pr_rd ((pf_X12_left φ _ _ _ _).trans oid) (fun v14 => ?_)
        refine pr_rd ((pf_X12_lesser φ _ _ _).trans oid) (fun v15 => ?_)
        exact ih v15 (x5 + nI 1)
    · exact hk112 x4
set_option maxRecDepth 100000 in
set_option maxHeartbeats 4000000 in
theorem pf_X12_serves_19 (φ : Nat → Int64) (F : Nat) (x0 : Nat) (x1 : Int32) (x2 : Int32) {k131 k131' : ab_H → Option ab_H} (hk131 : ∀ (z0_ : ab_H), k131 (Uo φ z0_) = (k131' z0_).map (Uo φ)) : ∀ (n : Nat) (x3 : Int32) (h : ab_H), fX12_serves_19 F x0 x1 x2 k131 n x3 (Uo φ h) = (fX12_serves_19 F x0 x1 x2 k131' n x3 h).map (Uo φ) := by
  intro n
  induction n with
  | zero => intro x3 h; rfl
  | succ n ih =>
    intro x3 h
    rw [fX12_serves_19, fX12_serves_19]
    refine pr_rd (uo_fr φ _ _ _ _) (fun v3 => ?_)
    refine pr_rd (uo_ia φ _ _ _ _) (fun v4 => ?_)
    refine pr_if ?_ ?_
    · refine pr_if ?_ ?_
      · refine pf_X12_serves_46 φ F x0 x1 x2 x3 h (fun z16 => ?_) F (nI 0) (nI 0)
        · refine pr_rd (uo_fr φ _ _ _ _) (fun v17 => ?_)
          refine pr_wr (uo_iw φ _ _ _ _ _) (fun h18 => ?_)
          exact ih (x3 + nI 1) h18
      · refine pf_X12_serves_46 φ F x0 x1 x2 x3 h (fun z19 => ?_) F (nI 2000000000) (nI 0)
        · refine pr_rd (uo_fr φ _ _ _ _) (fun v20 => ?_)
          refine pr_wr (uo_iw φ _ _ _ _ _) (fun h21 => ?_)
          exact ih (x3 + nI 1) h21
    · exact hk131 h
set_option maxRecDepth 100000 in
set_option maxHeartbeats 4000000 in
theorem pf_X12_serves_2 (φ : Nat → Int64) (F : Nat) (x0 : Nat) (x1 : Int32) : ∀ (n : Nat) (x2 : Int32) (h : ab_H), fX12_serves_2 F x0 x1 n x2 (Uo φ h) = (fX12_serves_2 F x0 x1 n x2 h).map (Uo φ) := by
  intro n
  induction n with
  | zero => intro x2 h; rfl
  | succ n ih =>
    intro x2 h
    rw [fX12_serves_2, fX12_serves_2]
    refine pr_if ?_ ?_
    · rfl
    · refine pr_if ?_ ?_
      · refine pf_X12_serves_19 φ F x0 x1 x2 (fun h22 => ?_) F (nI 0) h
        · exact ih (x2 + (-1 : Int32)) h22
      · exact ih (x2 + (-1 : Int32)) h
set_option maxRecDepth 100000 in
set_option maxHeartbeats 4000000 in
theorem pf_X12_serves (φ : Nat → Int64) (F : Nat) (x0 : Nat) (x1 : Int32) (h : ab_H) : fX12_serves F x0 x1 (Uo φ h) = (fX12_serves F x0 x1 h).map (Uo φ) := by
  unfold fX12_serves
  exact pf_X12_serves_2 φ F x0 x1 F x1 h
set_option maxRecDepth 100000 in
set_option maxHeartbeats 4000000 in
theorem pf_X12_queue_42 (φ : Nat → Int64) (F : Nat) (x0 : Nat) (x1 : Int32) (x2 : Int32) (x3 : Int32) (x4 : Int32) (x5 : Int32) (x6 : Int32) (h : ab_H) {k125 k125' : Int32 → Int32 → Option (Int32 × ab_H)} (hk125 : ∀ (z0_ : Int32) (z1_ : Int32), k125 z0_ z1_ = (k125' z0_ z1_).map (fun y => (y.1, Uo φ y.2))) : ∀ (n : Nat) (x7 : Int32) (x8 : Int32) (x9 : Int32), fX12_queue_42 F x0 x1 x2 x3 x4 x5 x6 (Uo φ h) k125 n x7 x8 x9 = (fX12_queue_42 F x0 x1 x2 x3 x4 x5 x6 h k125' n x7 x8 x9).map (fun y => (y.1, Uo φ y.2)) := by
  intro n
  induction n with
  | zero => intro x7 x8 x9; rfl
  | succ n ih =>
    intro x7 x8 x9
    rw [fX12_queue_42, fX12_queue_42]
    refine pr_rd (uo_fr φ _ _ _ _) (fun v5 => ?_)
    refine pr_rd (uo_ia φ _ _ _ _) (fun v6 => ?_)
    refine pr_if ?_ ?_
    · refine pr_rd ((pf_X12_isOf φ _ _ _).trans oid) (fun v8 => ?_)
      refine pr_if ?_ ?_
      · exact ih x7 x8 (x9 + nI 1)
      · refine pr_ck (uo_io φ _ _ _) ?_
        refine pr_rd ((pf_X12_step φ _ _ _ _).trans oid) (fun v10 => ?_)
        refine pr_rd ((pf_X12_bits φ _ _ _).trans oid) (fun v11 => ?_)
        refine pr_ck (uo_io φ _ _ _) ?_
        refine pr_rd ((pf_X12_left φ _ _ _ _).trans oid) (fun v12 => ?_)
        refine pr_if ?_ ?_
        · exact ih x9 ((v10 * v11) + v12) (x9 + nI 1)
        · exact ih x7 x8 (x9 + nI 1)
    · exact hk125 x7 x8
set_option maxRecDepth 100000 in
set_option maxHeartbeats 4000000 in
theorem pf_X12_queue_26 (φ : Nat → Int64) (F : Nat) (x0 : Nat) (x1 : Int32) (x2 : Int32) (h : ab_H) {k159 k159' : Int32 → Option (Int32 × ab_H)} (hk159 : ∀ (z0_ : Int32), k159 z0_ = (k159' z0_).map (fun y => (y.1, Uo φ y.2))) : ∀ (n : Nat) (x3 : Int32) (x4 : Int32) (x5 : Int32) (x6 : Int32), fX12_queue_26 F x0 x1 x2 (Uo φ h) k159 n x3 x4 x5 x6 = (fX12_queue_26 F x0 x1 x2 h k159' n x3 x4 x5 x6).map (fun y => (y.1, Uo φ y.2)) := by
  intro n
  induction n with
  | zero => intro x3 x4 x5 x6; rfl
  | succ n ih =>
    intro x3 x4 x5 x6
    rw [fX12_queue_26, fX12_queue_26]
    refine pr_if ?_ ?_
    · exact hk159 x6
    · refine pf_X12_queue_42 φ F x0 x1 x2 x3 x4 x5 x6 h (fun z14 z15 => ?_) F (-1 : Int32) (nI 2000000000) (nI 0)
      · refine pr_jn (fun j j' : Int32 → Option (Int32 × ab_H) => ∀ (z0_ : Int32), j z0_ = (j' z0_).map (fun y => (y.1, Uo φ y.2))) ?_ (fun j18 j18' hj18 => ?_)
        · intro z16
          refine pr_if ?_ ?_
          · rfl
          · exact ih (x3 ||| ((nI 1) <<< (z14 &&& 31))) z14 (x5 + nI 1) z16
        · refine pr_if ?_ ?_
          · exact hj18 z15
          · exact hj18 x6
set_option maxRecDepth 100000 in
set_option maxHeartbeats 4000000 in
theorem pf_X12_queue (φ : Nat → Int64) (F : Nat) (x0 : Nat) (x1 : Int32) (h : ab_H) : fX12_queue F x0 x1 (Uo φ h) = (fX12_queue F x0 x1 h).map (fun y => (y.1, Uo φ y.2)) := by
  unfold fX12_queue
  refine pr_wr (uo_fw φ _ _ _ _ _) (fun h1 => ?_)
  refine pr_ck (uo_io φ _ _ _) ?_
  refine pr_rd ((pf_X12_holders φ _ _ _).trans oid) (fun v2 => ?_)
  refine pr_ck (uo_io φ _ _ _) ?_
  refine pr_wr (pf_X12_serves φ _ _ _ _) (fun h3 => ?_)
  refine pf_X12_queue_26 φ F x0 x1 v2 h3 (fun z20 => ?_) F (nI 0) (-1 : Int32) (nI 0) (nI 0)
  · refine pr_if ?_ ?_
    · rfl
    · rfl
set_option maxRecDepth 100000 in
set_option maxHeartbeats 4000000 in
theorem pf_X12_marksOf_4 (φ : Nat → Int64) (x0 : Nat) (x1 : Int32) (h : ab_H) : ∀ (n : Nat) (x2 : Int32) (x3 : Int32), fX12_marksOf_4 x0 x1 (Uo φ h) n x2 x3 = (fX12_marksOf_4 x0 x1 h n x2 x3).map (fun y => y) := by
  intro n
  induction n with
  | zero => intro x2 x3; rfl
  | succ n ih =>
    intro x2 x3
    rw [fX12_marksOf_4, fX12_marksOf_4]
    refine pr_rd (uo_fr φ _ _ _ _) (fun v1 => ?_)
    refine pr_rd (uo_ia φ _ _ _ _) (fun v2 => ?_)
    refine pr_if ?_ ?_
    · refine pr_rd ((pf_X12_isOf φ _ _ _).trans oid) (fun v4 => ?_)
      refine pr_if ?_ ?_
      · exact ih (x2 ||| (nI 0)) (x3 + nI 1)
      · refine pr_ck (uo_io φ _ _ _) ?_
        refine pr_rd ((pf_X12_of φ _ _ _ _).trans oid) (fun v6 => ?_)
        exact ih (x2 ||| v6) (x3 + nI 1)
    · rfl
set_option maxRecDepth 100000 in
set_option maxHeartbeats 4000000 in
theorem pf_X12_marksOf (φ : Nat → Int64) (F : Nat) (x0 : Nat) (x1 : Int32) (h : ab_H) : fX12_marksOf F x0 x1 (Uo φ h) = (fX12_marksOf F x0 x1 h).map (fun y => y) := by
  unfold fX12_marksOf
  exact pf_X12_marksOf_4 φ x0 x1 h F (nI 0) (nI 0)
set_option maxRecDepth 100000 in
set_option maxHeartbeats 4000000 in
theorem pf_X12_forged_33 (φ : Nat → Int64) (F : Nat) (x0 : Nat) (x1 : Int32) (h : ab_H) {k82 k82' : Int32 → Option (Int32 × ab_H)} (hk82 : ∀ (z0_ : Int32), k82 z0_ = (k82' z0_).map (fun y => (y.1, Uo φ y.2))) : ∀ (n : Nat) (x2 : Int32) (x3 : Int32), fX12_forged_33 F x0 x1 (Uo φ h) k82 n x2 x3 = (fX12_forged_33 F x0 x1 h k82' n x2 x3).map (fun y => (y.1, Uo φ y.2)) := by
  intro n
  induction n with
  | zero => intro x2 x3; rfl
  | succ n ih =>
    intro x2 x3
    rw [fX12_forged_33, fX12_forged_33]
    refine pr_rd (uo_fr φ _ _ _ _) (fun v6 => ?_)
    refine pr_rd (uo_ia φ _ _ _ _) (fun v7 => ?_)
    refine pr_if ?_ ?_
    · refine pr_rd (uo_fr φ _ _ _ _) (fun v9 => ?_)
      refine pr_rd (uo_ia φ _ _ _ _) (fun v10 => ?_)
      refine pr_if ?_ ?_
      · exact ih (x2 ||| (nI 0)) (x3 + nI 1)
      · refine pr_rd (uo_fr φ _ _ _ _) (fun v12 => ?_)
        refine pr_rd (uo_ia φ _ _ _ _) (fun v13 => ?_)
        exact ih (x2 ||| ((nI 1) <<< (v13 &&& 31))) (x3 + nI 1)
    · exact hk82 x2
set_option maxRecDepth 100000 in
set_option maxHeartbeats 4000000 in
theorem pf_X12_forged_87 (φ : Nat → Int64) (F : Nat) (x0 : Nat) (x1 : Int32) (x2 : Int32) (h : ab_H) : ∀ (n : Nat) (x3 : Int32) (x4 : Int32), fX12_forged_87 F x0 x1 x2 (Uo φ h) n x3 x4 = (fX12_forged_87 F x0 x1 x2 h n x3 x4).map (fun y => (y.1, Uo φ y.2)) := by
  intro n
  induction n with
  | zero => intro x3 x4; rfl
  | succ n ih =>
    intro x3 x4
    rw [fX12_forged_87, fX12_forged_87]
    refine pr_if ?_ ?_
    · refine pr_if ?_ ?_
      · refine pr_jn (fun j j' : Option (Int32 × ab_H) => j = (j').map (fun y => (y.1, Uo φ y.2))) ?_ (fun j19 j19' hj19 => ?_)
        · refine pr_ck (uo_io φ _ _ _) ?_
          refine pr_rd ((pf_X12_marksOf φ _ _ _ _).trans oid) (fun v17 => ?_)
          refine pr_if ?_ ?_
          · exact ih x4 (x4 + nI 1)
          · exact ih x3 (x4 + nI 1)
        · refine pr_if ?_ ?_
          · exact hj19
          · refine pr_rd ((pf_X12_bits φ _ _ _).trans oid) (fun v21 => ?_)
            refine pr_rd ((pf_X12_bits φ _ _ _).trans oid) (fun v22 => ?_)
            refine pr_if ?_ ?_
            · exact hj19
            · exact ih x3 (x4 + nI 1)
      · exact ih x3 (x4 + nI 1)
    · rfl
set_option maxRecDepth 100000 in
set_option maxHeartbeats 4000000 in
theorem pf_X12_forged (φ : Nat → Int64) (F : Nat) (x0 : Nat) (x1 : Int32) (h : ab_H) : fX12_forged F x0 x1 (Uo φ h) = (fX12_forged F x0 x1 h).map (fun y => (y.1, Uo φ y.2)) := by
  unfold fX12_forged
  refine pr_rd ((pf_X12_isIn φ _ _ _ _).trans oid) (fun v1 => ?_)
  refine pr_jn (fun j j' : Int32 → Option (Int32 × ab_H) => ∀ (z0_ : Int32), j z0_ = (j' z0_).map (fun y => (y.1, Uo φ y.2))) ?_ (fun j24 j24' hj24 => ?_)
  · intro z2
    refine pr_wr (uo_fw φ _ _ _ _ _) (fun h3 => ?_)
    refine pr_rd (uo_fi φ _ _ _ _) (fun v4 => ?_)
    refine pr_if ?_ ?_
    · refine pf_X12_forged_33 φ F x0 x1 h3 (fun z14 => ?_) F (nI 0) (nI 0)
      · exact pf_X12_forged_87 φ F x0 x1 z14 h3 F (-1 : Int32) (nI 0)
    · rfl
  · refine pr_if ?_ ?_
    · exact hj24 (nI 1)
    · exact hj24 (nI 0)
set_option maxRecDepth 100000 in
set_option maxHeartbeats 4000000 in
theorem pf_X12_none_12 (φ : Nat → Int64) (x0 : Int32) (h : ab_H) : ∀ (n : Nat) (x1 : Int32) (x2 : Int32) (x3 : Int32), fX12_none_12 x0 (Uo φ h) n x1 x2 x3 = (fX12_none_12 x0 h n x1 x2 x3).map (fun y => y) := by
  intro n
  induction n with
  | zero => intro x1 x2 x3; rfl
  | succ n ih =>
    intro x1 x2 x3
    rw [fX12_none_12, fX12_none_12]
    refine pr_if ?_ ?_
    · exact ih x2 ((x3 - (nI 1)) * (x1 + x2)) (x3 + nI 1)
    · rfl
set_option maxRecDepth 100000 in
set_option maxHeartbeats 4000000 in
theorem pf_X12_none (φ : Nat → Int64) (F : Nat) (x0 : Int32) (h : ab_H) : fX12_none F x0 (Uo φ h) = (fX12_none F x0 h).map (fun y => y) := by
  unfold fX12_none
  refine pr_if ?_ ?_
  · rfl
  · exact pf_X12_none_12 φ x0 h F (nI 1) (nI 0) (nI 2)
set_option maxRecDepth 100000 in
set_option maxHeartbeats 4000000 in
theorem pf_X12_ways_46 (φ : Nat → Int64) (F : Nat) (x1 : Int32) (x2 : Int32) (h : ab_H) {k70 k70' : Int32 → Option (Int32 × ab_H)} (hk70 : ∀ (z0_ : Int32), k70 z0_ = (k70' z0_).map (fun y => (y.1, Uo φ y.2))) : ∀ (n : Nat) (x3 : Int32) (x4 : Int32), fX12_ways_46 F x1 x2 (Uo φ h) k70 n x3 x4 = (fX12_ways_46 F x1 x2 h k70' n x3 x4).map (fun y => (y.1, Uo φ y.2)) := by
  intro n
  induction n with
  | zero => intro x3 x4; rfl
  | succ n ih =>
    intro x3 x4
    rw [fX12_ways_46, fX12_ways_46]
    refine pr_if ?_ ?_
    · refine pr_cn ?_
      exact ih ((x3 * (x2 - x4)) / (x4 + (nI 1))) (x4 + nI 1)
    · exact hk70 x3
set_option maxRecDepth 100000 in
set_option maxHeartbeats 4000000 in
theorem pf_X12_ways (φ : Nat → Int64) (F : Nat) (x0 : Nat) (x1 : Int32) (h : ab_H) : fX12_ways F x0 x1 (Uo φ h) = (fX12_ways F x0 x1 h).map (fun y => (y.1, Uo φ y.2)) := by
  unfold fX12_ways
  refine pr_rd ((pf_X12_isIn φ _ _ _ _).trans oid) (fun v1 => ?_)
  refine pr_jn (fun j j' : Int32 → Option (Int32 × ab_H) => ∀ (z0_ : Int32), j z0_ = (j' z0_).map (fun y => (y.1, Uo φ y.2))) ?_ (fun j13 j13' hj13 => ?_)
  · intro z2
    refine pr_wr (uo_fw φ _ _ _ _ _) (fun h3 => ?_)
    refine pr_ck (uo_io φ _ _ _) ?_
    refine pr_rd ((pf_X12_holders φ _ _ _).trans oid) (fun v4 => ?_)
    refine pr_rd ((pf_X12_bits φ _ _ _).trans oid) (fun v5 => ?_)
    refine pr_rd (uo_fi φ _ _ _ _) (fun v6 => ?_)
    refine pr_if ?_ ?_
    · refine pr_if ?_ ?_
      · refine pf_X12_ways_46 φ F x1 v5 h3 (fun z11 => ?_) F (nI 1) (nI 0)
        · refine pr_rd ((pf_X12_none φ _ _ _).trans oid) (fun v12 => ?_)
          rfl
      · rfl
    · rfl
  · refine pr_if ?_ ?_
    · exact hj13 (nI 1)
    · exact hj13 (nI 0)
set_option maxRecDepth 100000 in
set_option maxHeartbeats 4000000 in
theorem pf_X12_rowFrom_2 (φ : Nat → Int64) (x0 : Nat) (x1 : Int32) (h : ab_H) : ∀ (n : Nat) (x2 : Int32), fX12_rowFrom_2 x0 x1 (Uo φ h) n x2 = (fX12_rowFrom_2 x0 x1 h n x2).map (fun y => y) := by
  intro n
  induction n with
  | zero => intro x2; rfl
  | succ n ih =>
    intro x2
    rw [fX12_rowFrom_2, fX12_rowFrom_2]
    refine pr_rd (uo_fr φ _ _ _ _) (fun v1 => ?_)
    refine pr_rd (uo_ia φ _ _ _ _) (fun v2 => ?_)
    refine pr_if ?_ ?_
    · refine pr_rd (uo_fr φ _ _ _ _) (fun v4 => ?_)
      refine pr_rd (uo_ia φ _ _ _ _) (fun v5 => ?_)
      refine pr_if ?_ ?_
      · rfl
      · exact ih (x2 + nI 1)
    · rfl
set_option maxRecDepth 100000 in
set_option maxHeartbeats 4000000 in
theorem pf_X12_rowFrom (φ : Nat → Int64) (F : Nat) (x0 : Nat) (x1 : Int32) (h : ab_H) : fX12_rowFrom F x0 x1 (Uo φ h) = (fX12_rowFrom F x0 x1 h).map (fun y => y) := by
  unfold fX12_rowFrom
  exact pf_X12_rowFrom_2 φ x0 x1 h F (nI 0)
set_option maxRecDepth 100000 in
set_option maxHeartbeats 4000000 in
theorem pf_X12_talk_42 (φ : Nat → Int64) (F : Nat) (x0 : Nat) (h : ab_H) {k68 k68' : Int32 → Option (Int32 × ab_H)} (hk68 : ∀ (z0_ : Int32), k68 z0_ = (k68' z0_).map (fun y => (y.1, Uo φ y.2))) : ∀ (n : Nat) (x2 : Int32), fX12_talk_42 F x0 (Uo φ h) k68 n x2 = (fX12_talk_42 F x0 h k68' n x2).map (fun y => (y.1, Uo φ y.2)) := by
  intro n
  induction n with
  | zero => intro x2; rfl
  | succ n ih =>
    intro x2
    rw [fX12_talk_42, fX12_talk_42]
    refine pr_if ?_ ?_
    · exact hk68 x2
    · refine pr_rd (uo_fr φ _ _ _ _) (fun v10 => ?_)
      refine pr_rd (uo_ia φ _ _ _ _) (fun v11 => ?_)
      refine pr_if ?_ ?_
      · exact hk68 x2
      · exact ih (x2 + (-1 : Int32))
set_option maxRecDepth 100000 in
set_option maxHeartbeats 4000000 in
theorem pf_X12_talk_73 (φ : Nat → Int64) (F : Nat) (x0 : Nat) (x2 : Int32) (h : ab_H) : ∀ (n : Nat) (x3 : Int32) (x4 : Int32), fX12_talk_73 F x0 x2 (Uo φ h) n x3 x4 = (fX12_talk_73 F x0 x2 h n x3 x4).map (fun y => (y.1, Uo φ y.2)) := by
  intro n
  induction n with
  | zero => intro x3 x4; rfl
  | succ n ih =>
    intro x3 x4
    rw [fX12_talk_73, fX12_talk_73]
    refine pr_ck (uo_io φ _ _ _) ?_
    refine pr_rd ((pf_X12_rowFrom φ _ _ _ _).trans oid) (fun v14 => ?_)
    refine pr_if ?_ ?_
    · refine pr_rd (uo_fr φ _ _ _ _) (fun v16 => ?_)
      refine pr_rd (uo_ia φ _ _ _ _) (fun v17 => ?_)
      exact ih (x3 ||| ((nI 1) <<< (v17 &&& 31))) (x4 + nI 1)
    · rfl
set_option maxRecDepth 100000 in
set_option maxHeartbeats 4000000 in
theorem pf_X12_talk (φ : Nat → Int64) (F : Nat) (x0 : Nat) (x1 : Int32) (h : ab_H) : fX12_talk F x0 x1 (Uo φ h) = (fX12_talk F x0 x1 h).map (fun y => (y.1, Uo φ y.2)) := by
  unfold fX12_talk
  refine pr_ck (uo_io φ _ _ _) ?_
  refine pr_rd ((pf_X12_isHook φ _ _ _).trans oid) (fun v1 => ?_)
  refine pr_jn (fun j j' : Int32 → Option (Int32 × ab_H) => ∀ (z0_ : Int32), j z0_ = (j' z0_).map (fun y => (y.1, Uo φ y.2))) ?_ (fun j18 j18' hj18 => ?_)
  · intro z2
    refine pr_wr (uo_fw φ _ _ _ _ _) (fun h3 => ?_)
    refine pr_rd (uo_fi φ _ _ _ _) (fun v4 => ?_)
    refine pr_if ?_ ?_
    · refine pr_rd (uo_fr φ _ _ _ _) (fun v6 => ?_)
      refine pr_rd (uo_ia φ _ _ _ _) (fun v7 => ?_)
      refine pr_if ?_ ?_
      · rfl
      · refine pf_X12_talk_42 φ F x0 h3 (fun z13 => ?_) F x1
        · exact pf_X12_talk_73 φ F x0 z13 h3 F (nI 0) (nI 0)
    · rfl
  · refine pr_if ?_ ?_
    · exact hj18 (nI 1)
    · exact hj18 (nI 0)
set_option maxRecDepth 100000 in
set_option maxHeartbeats 4000000 in
theorem pf_X12_row_12 (φ : Nat → Int64) (F : Nat) (x0 : Nat) (x1 : Int32) (h : ab_H) {k52 k52' : Int32 → Int32 → Option (Int32 × ab_H)} (hk52 : ∀ (z0_ : Int32) (z1_ : Int32), k52 z0_ z1_ = (k52' z0_ z1_).map (fun y => (y.1, Uo φ y.2))) : ∀ (n : Nat) (x2 : Int32) (x3 : Int32) (x4 : Int32), fX12_row_12 F x0 x1 (Uo φ h) k52 n x2 x3 x4 = (fX12_row_12 F x0 x1 h k52' n x2 x3 x4).map (fun y => (y.1, Uo φ y.2)) := by
  intro n
  induction n with
  | zero => intro x2 x3 x4; rfl
  | succ n ih =>
    intro x2 x3 x4
    rw [fX12_row_12, fX12_row_12]
    refine pr_rd (uo_fr φ _ _ _ _) (fun v2 => ?_)
    refine pr_rd (uo_ia φ _ _ _ _) (fun v3 => ?_)
    refine pr_if ?_ ?_
    · refine pr_ck (uo_io φ _ _ _) ?_
      refine pr_rd ((pf_X12_rowFrom φ _ _ _ _).trans oid) (fun v5 => ?_)
      refine pr_if ?_ ?_
      · exact ih x2 x3 (x4 + nI 1)
      · refine pr_ck (uo_io φ _ _ _) ?_
        refine pr_rd ((pf_X12_rowFrom φ _ _ _ _).trans oid) (fun v7 => ?_)
        exact ih x4 v7 (x4 + nI 1)
    · exact hk52 x2 x3
set_option maxRecDepth 100000 in
set_option maxHeartbeats 4000000 in
theorem pf_X12_row (φ : Nat → Int64) (F : Nat) (x0 : Nat) (x1 : Int32) (h : ab_H) : fX12_row F x0 x1 (Uo φ h) = (fX12_row F x0 x1 h).map (fun y => (y.1, Uo φ y.2)) := by
  unfold fX12_row
  refine pr_wr (uo_fw φ _ _ _ _ _) (fun h1 => ?_)
  refine pf_X12_row_12 φ F x0 x1 h1 (fun z8 z9 => ?_) F (-1 : Int32) (nI 0) (nI 0)
  · refine pr_if ?_ ?_
    · rfl
    · rfl
set_option maxRecDepth 100000 in
set_option maxHeartbeats 4000000 in
theorem pf_X12_chain_21 (φ : Nat → Int64) (F : Nat) (x0 : Nat) (x1 : Int32) (x2 : Int32) {k40 k40' : ab_H → Option (Int32 × ab_H)} (hk40 : ∀ (z0_ : ab_H), k40 (Uo φ z0_) = (k40' z0_).map (fun y => (y.1, Uo φ y.2))) : ∀ (n : Nat) (x3 : Int32) (h : ab_H), fX12_chain_21 F x0 x1 x2 k40 n x3 (Uo φ h) = (fX12_chain_21 F x0 x1 x2 k40' n x3 h).map (fun y => (y.1, Uo φ y.2)) := by
  intro n
  induction n with
  | zero => intro x3 h; rfl
  | succ n ih =>
    intro x3 h
    rw [fX12_chain_21, fX12_chain_21]
    refine pr_if ?_ ?_
    · refine pr_rd (uo_fr φ _ _ _ _) (fun v6 => ?_)
      refine pr_wr (uo_iw φ _ _ _ _ _) (fun h7 => ?_)
      exact ih (x3 + nI 1) h7
    · exact hk40 h
set_option maxRecDepth 100000 in
set_option maxHeartbeats 4000000 in
theorem pf_X12_chain_72 (φ : Nat → Int64) (F : Nat) (x0 : Nat) (x2 : Int32) (x3 : Int32) (x4 : Int32) {k136 k136' : ab_H → Option (Int32 × ab_H)} (hk136 : ∀ (z0_ : ab_H), k136 (Uo φ z0_) = (k136' z0_).map (fun y => (y.1, Uo φ y.2))) : ∀ (n : Nat) (x5 : Int32) (h : ab_H), fX12_chain_72 F x0 x2 x3 x4 k136 n x5 (Uo φ h) = (fX12_chain_72 F x0 x2 x3 x4 k136' n x5 h).map (fun y => (y.1, Uo φ y.2)) := by
  intro n
  induction n with
  | zero => intro x5 h; rfl
  | succ n ih =>
    intro x5 h
    rw [fX12_chain_72, fX12_chain_72]
    refine pr_rd (uo_fr φ _ _ _ _) (fun v15 => ?_)
    refine pr_rd (uo_ia φ _ _ _ _) (fun v16 => ?_)
    refine pr_if ?_ ?_
    · refine pr_rd (uo_fr φ _ _ _ _) (fun v18 => ?_)
      refine pr_rd (uo_ia φ _ _ _ _) (fun v19 => ?_)
      refine pr_if ?_ ?_
      · refine pr_rd (uo_fr φ _ _ _ _) (fun v21 => ?_)
        refine pr_rd (uo_ia φ _ _ _ _) (fun v22 => ?_)
        refine pr_if ?_ ?_
        · refine pr_ck (uo_io φ _ _ _) ?_
          refine pr_rd ((pf_X12_of φ _ _ _ _).trans oid) (fun v24 => ?_)
          refine pr_rd ((pf_X12_isOf φ _ _ _).trans oid) (fun v25 => ?_)
          refine pr_if ?_ ?_
          · exact ih (x5 + nI 1) h
          · refine pr_rd (uo_fr φ _ _ _ _) (fun v27 => ?_)
            refine pr_wr (uo_iw φ _ _ _ _ _) (fun h28 => ?_)
            exact ih (x5 + nI 1) h28
        · exact ih (x5 + nI 1) h
      · exact ih (x5 + nI 1) h
    · exact hk136 h
set_option maxRecDepth 100000 in
set_option maxHeartbeats 4000000 in
theorem pf_X12_chain_58 (φ : Nat → Int64) (F : Nat) (x0 : Nat) (x2 : Int32) (x3 : Int32) {k142 k142' : ab_H → Option (Int32 × ab_H)} (hk142 : ∀ (z0_ : ab_H), k142 (Uo φ z0_) = (k142' z0_).map (fun y => (y.1, Uo φ y.2))) : ∀ (n : Nat) (x4 : Int32) (h : ab_H), fX12_chain_58 F x0 x2 x3 k142 n x4 (Uo φ h) = (fX12_chain_58 F x0 x2 x3 k142' n x4 h).map (fun y => (y.1, Uo φ y.2)) := by
  intro n
  induction n with
  | zero => intro x4 h; rfl
  | succ n ih =>
    intro x4 h
    rw [fX12_chain_58, fX12_chain_58]
    refine pr_rd (uo_fr φ _ _ _ _) (fun v12 => ?_)
    refine pr_rd (uo_ia φ _ _ _ _) (fun v13 => ?_)
    refine pr_if ?_ ?_
    · refine pf_X12_chain_72 φ F x0 x2 x3 x4 (fun h29 => ?_) F (nI 0) h
      · exact ih (x4 + nI 1) h29
    · exact hk142 h
set_option maxRecDepth 100000 in
set_option maxHeartbeats 4000000 in
theorem pf_X12_chain_49 (φ : Nat → Int64) (F : Nat) (x0 : Nat) (x2 : Int32) : ∀ (n : Nat) (x3 : Int32) (h : ab_H), fX12_chain_49 F x0 x2 n x3 (Uo φ h) = (fX12_chain_49 F x0 x2 n x3 h).map (fun y => (y.1, Uo φ y.2)) := by
  intro n
  induction n with
  | zero => intro x3 h; rfl
  | succ n ih =>
    intro x3 h
    rw [fX12_chain_49, fX12_chain_49]
    refine pr_if ?_ ?_
    · refine pf_X12_chain_58 φ F x0 x2 x3 (fun h30 => ?_) F (nI 0) h
      · exact ih (x3 + nI 1) h30
    · refine pr_rd (uo_fr φ _ _ _ _) (fun v31 => ?_)
      refine pr_rd (uo_ia φ _ _ _ _) (fun v32 => ?_)
      rfl
set_option maxRecDepth 100000 in
set_option maxHeartbeats 4000000 in
theorem pf_X12_chain (φ : Nat → Int64) (F : Nat) (x0 : Nat) (x1 : Int32) (x2 : Int32) (h : ab_H) : fX12_chain F x0 x1 x2 (Uo φ h) = (fX12_chain F x0 x1 x2 h).map (fun y => (y.1, Uo φ y.2)) := by
  unfold fX12_chain
  refine pr_ck (uo_io φ _ _ _) ?_
  refine pr_rd ((pf_X12_two φ _ _ _ _).trans oid) (fun v1 => ?_)
  refine pr_wr (uo_fw φ _ _ _ _ _) (fun h2 => ?_)
  refine pr_rd (uo_fi φ _ _ _ _) (fun v3 => ?_)
  refine pr_if ?_ ?_
  · refine pf_X12_chain_21 φ F x0 x1 x2 (fun h8 => ?_) F (nI 0) h2
    · refine pr_rd (uo_fr φ _ _ _ _) (fun v9 => ?_)
      refine pr_wr (uo_iw φ _ _ _ _ _) (fun h10 => ?_)
      exact pf_X12_chain_49 φ F x0 x2 F (nI 0) h10
  · rfl
set_option maxRecDepth 100000 in
set_option maxHeartbeats 4000000 in
theorem pf_X12_hears__71 (φ : Nat → Int64) (F : Nat) (x0 : Nat) (x1 : Int32) (x2 : Int32) (x3 : Int32) (x4 : Int32) {k131 k131' : ab_H → Option (Int32 × ab_H)} (hk131 : ∀ (z0_ : ab_H), k131 (Uo φ z0_) = (k131' z0_).map (fun y => (y.1, Uo φ y.2))) : ∀ (n : Nat) (x5 : Int32) (h : ab_H), fX12_hears__71 F x0 x1 x2 x3 x4 k131 n x5 (Uo φ h) = (fX12_hears__71 F x0 x1 x2 x3 x4 k131' n x5 h).map (fun y => (y.1, Uo φ y.2)) := by
  intro n
  induction n with
  | zero => intro x5 h; rfl
  | succ n ih =>
    intro x5 h
    rw [fX12_hears__71, fX12_hears__71]
    refine pr_rd (uo_fr φ _ _ _ _) (fun v11 => ?_)
    refine pr_rd (uo_ia φ _ _ _ _) (fun v12 => ?_)
    refine pr_if ?_ ?_
    · refine pr_ck (uo_io φ _ _ _) ?_
      refine pr_rd ((pf_X12_of φ _ _ _ _).trans oid) (fun v14 => ?_)
      refine pr_rd ((pf_X12_isOf φ _ _ _).trans oid) (fun v15 => ?_)
      refine pr_if ?_ ?_
      · exact ih (x5 + nI 1) h
      · refine pr_ck (uo_io φ _ _ _) ?_
        refine pr_rd ((pf_X12_of φ _ _ _ _).trans oid) (fun v17 => ?_)
        refine pr_rd ((pf_X12_isOf φ _ _ _).trans oid) (fun v18 => ?_)
        refine pr_if ?_ ?_
        · exact ih (x5 + nI 1) h
        · refine pr_ck (uo_io φ _ _ _) ?_
          refine pr_pr (pf_X12_meets φ _ _ _ _) (fun v20 => ?_)
          exact ih (x5 + nI 1) v20.2
    · exact hk131 h
set_option maxRecDepth 100000 in
set_option maxHeartbeats 4000000 in
theorem pf_X12_hears__54 (φ : Nat → Int64) (F : Nat) (x0 : Nat) (x1 : Int32) (x2 : Int32) (x3 : Int32) {k137 k137' : ab_H → Option (Int32 × ab_H)} (hk137 : ∀ (z0_ : ab_H), k137 (Uo φ z0_) = (k137' z0_).map (fun y => (y.1, Uo φ y.2))) : ∀ (n : Nat) (x4 : Int32) (h : ab_H), fX12_hears__54 F x0 x1 x2 x3 k137 n x4 (Uo φ h) = (fX12_hears__54 F x0 x1 x2 x3 k137' n x4 h).map (fun y => (y.1, Uo φ y.2)) := by
  intro n
  induction n with
  | zero => intro x4 h; rfl
  | succ n ih =>
    intro x4 h
    rw [fX12_hears__54, fX12_hears__54]
    refine pr_rd (uo_fr φ _ _ _ _) (fun v8 => ?_)
    refine pr_rd (uo_ia φ _ _ _ _) (fun v9 => ?_)
    refine pr_if ?_ ?_
    · refine pf_X12_hears__71 φ F x0 x1 x2 x3 x4 (fun h21 => ?_) F (x4 + (nI 1)) h
      · exact ih (x4 + nI 1) h21
    · exact hk137 h
set_option maxRecDepth 100000 in
set_option maxHeartbeats 4000000 in
theorem pf_X12_hears__46 (φ : Nat → Int64) (F : Nat) (x0 : Nat) (x1 : Int32) (x2 : Int32) {k143 k143' : ab_H → Option (Int32 × ab_H)} (hk143 : ∀ (z0_ : ab_H), k143 (Uo φ z0_) = (k143' z0_).map (fun y => (y.1, Uo φ y.2))) : ∀ (n : Nat) (x3 : Int32) (h : ab_H), fX12_hears__46 F x0 x1 x2 k143 n x3 (Uo φ h) = (fX12_hears__46 F x0 x1 x2 k143' n x3 h).map (fun y => (y.1, Uo φ y.2)) := by
  intro n
  induction n with
  | zero => intro x3 h; rfl
  | succ n ih =>
    intro x3 h
    rw [fX12_hears__46, fX12_hears__46]
    refine pr_if ?_ ?_
    · refine pf_X12_hears__54 φ F x0 x1 x2 x3 (fun h22 => ?_) F (nI 0) h
      · exact ih (x3 + nI 1) h22
    · exact hk143 h
set_option maxRecDepth 100000 in
set_option maxHeartbeats 4000000 in
theorem pf_X12_hears_ (φ : Nat → Int64) (F : Nat) (x0 : Nat) (x1 : Int32) (x2 : Int32) (h : ab_H) : fX12_hears_ F x0 x1 x2 (Uo φ h) = (fX12_hears_ F x0 x1 x2 h).map (fun y => (y.1, Uo φ y.2)) := by
  unfold fX12_hears_
  refine pr_ck (uo_io φ _ _ _) ?_
  refine pr_rd ((pf_X12_isPerson φ _ _ _).trans oid) (fun v1 => ?_)
  refine pr_jn (fun j j' : Int32 → Option (Int32 × ab_H) => ∀ (z0_ : Int32), j z0_ = (j' z0_).map (fun y => (y.1, Uo φ y.2))) ?_ (fun j26 j26' hj26 => ?_)
  · intro z2
    refine pr_wr (uo_fw φ _ _ _ _ _) (fun h3 => ?_)
    refine pr_rd (uo_fi φ _ _ _ _) (fun v4 => ?_)
    refine pr_if ?_ ?_
    · refine pr_ck (uo_io φ _ _ _) ?_
      refine pr_wr (pf_X12_putsAside φ _ _ _) (fun h6 => ?_)
      refine pf_X12_hears__46 φ F x0 x1 x2 (fun h23 => ?_) F (nI 0) h6
      · refine pr_ck (uo_io φ _ _ _) ?_
        refine pr_rd ((pf_X12_of φ _ _ _ _).trans oid) (fun v24 => ?_)
        refine pr_ck (uo_io φ _ _ _) ?_
        refine pr_wr (pf_X12_comesBack φ _ _ _) (fun h25 => ?_)
        rfl
    · rfl
  · refine pr_if ?_ ?_
    · exact hj26 (nI 1)
    · refine pr_rd ((pf_X12_isIn φ _ _ _ _).trans oid) (fun v28 => ?_)
      refine pr_if ?_ ?_
      · exact hj26 (nI 2)
      · exact hj26 (nI 0)
set_option maxRecDepth 100000 in
set_option maxHeartbeats 4000000 in
theorem pf_X12_logged (φ : Nat → Int64) (x0 : Nat) (x1 : Int32) (x2 : Int32) (h : ab_H) : fX12_logged x0 x1 x2 (Uo φ h) = (fX12_logged x0 x1 x2 h).map (fun y => y) := by
  unfold fX12_logged
  refine pr_rd (uo_fr φ _ _ _ _) (fun v1 => ?_)
  refine pr_rd (uo_ia φ _ _ _ _) (fun v2 => ?_)
  rfl
set_option maxRecDepth 100000 in
set_option maxHeartbeats 4000000 in
theorem pf_X12_led_42 (φ : Nat → Int64) (x0 : Nat) (x1 : Int32) (x2 : Int32) (h : ab_H) {k94 k94' : Int32 → Int32 → Option (Int32 × ab_H)} (hk94 : ∀ (z0_ : Int32) (z1_ : Int32), k94 z0_ z1_ = (k94' z0_ z1_).map (fun y => (y.1, Uo φ y.2))) : ∀ (n : Nat) (x3 : Int32) (x4 : Int32) (x5 : Int32), fX12_led_42 x0 x1 x2 (Uo φ h) k94 n x3 x4 x5 = (fX12_led_42 x0 x1 x2 h k94' n x3 x4 x5).map (fun y => (y.1, Uo φ y.2)) := by
  intro n
  induction n with
  | zero => intro x3 x4 x5; rfl
  | succ n ih =>
    intro x3 x4 x5
    rw [fX12_led_42, fX12_led_42]
    refine pr_if ?_ ?_
    · exact hk94 x3 x4
    · refine pr_ck (uo_io φ _ _ _) ?_
      refine pr_rd ((pf_X12_logged φ _ _ _ _).trans oid) (fun v9 => ?_)
      refine pr_if ?_ ?_
      · refine pr_ck (uo_io φ _ _ _) ?_
        refine pr_rd ((pf_X12_logged φ _ _ _ _).trans oid) (fun v11 => ?_)
        refine pr_rd ((pf_X12_isIn φ _ _ _ _).trans oid) (fun v12 => ?_)
        refine pr_if ?_ ?_
        · exact ih x3 x4 (x5 + (-1 : Int32))
        · refine pr_ck (uo_io φ _ _ _) ?_
          refine pr_rd ((pf_X12_logged φ _ _ _ _).trans oid) (fun v14 => ?_)
          exact ih (x3 + nI 1) v14 (x5 + (-1 : Int32))
      · exact ih x3 x4 (x5 + (-1 : Int32))
set_option maxRecDepth 100000 in
set_option maxHeartbeats 4000000 in
theorem pf_X12_led (φ : Nat → Int64) (F : Nat) (x0 : Nat) (x1 : Int32) (x2 : Int32) (h : ab_H) : fX12_led F x0 x1 x2 (Uo φ h) = (fX12_led F x0 x1 x2 h).map (fun y => (y.1, Uo φ y.2)) := by
  unfold fX12_led
  refine pr_ck (uo_io φ _ _ _) ?_
  refine pr_rd ((pf_X12_isPerson φ _ _ _).trans oid) (fun v1 => ?_)
  refine pr_jn (fun j j' : Int32 → Option (Int32 × ab_H) => ∀ (z0_ : Int32), j z0_ = (j' z0_).map (fun y => (y.1, Uo φ y.2))) ?_ (fun j18 j18' hj18 => ?_)
  · intro z2
    refine pr_wr (uo_fw φ _ _ _ _ _) (fun h3 => ?_)
    refine pr_rd (uo_fi φ _ _ _ _) (fun v4 => ?_)
    refine pr_if ?_ ?_
    · refine pr_rd (uo_fr φ _ _ _ _) (fun v6 => ?_)
      refine pr_rd (uo_ia φ _ _ _ _) (fun v7 => ?_)
      refine pf_X12_led_42 φ x0 x1 x2 h3 (fun z15 z16 => ?_) F (nI 0) (-1 : Int32) (v7 - (nI 1))
      · refine pr_if ?_ ?_
        · rfl
        · rfl
    · rfl
  · refine pr_if ?_ ?_
    · exact hj18 (nI 1)
    · exact hj18 (nI 0)
set_option maxRecDepth 100000 in
set_option maxHeartbeats 4000000 in
theorem pf_X12_log (φ : Nat → Int64) (x0 : Nat) (x1 : Int32) (x2 : Int32) (h : ab_H) : fX12_log x0 x1 x2 (Uo φ h) = (fX12_log x0 x1 x2 h).map (fun y => (y.1, Uo φ y.2)) := by
  unfold fX12_log
  refine pr_rd ((pf_X12_isIn φ _ _ _ _).trans oid) (fun v1 => ?_)
  refine pr_jn (fun j j' : Int32 → Option (Int32 × ab_H) => ∀ (z0_ : Int32), j z0_ = (j' z0_).map (fun y => (y.1, Uo φ y.2))) ?_ (fun j11 j11' hj11 => ?_)
  · intro z2
    refine pr_wr (uo_fw φ _ _ _ _ _) (fun h3 => ?_)
    refine pr_rd (uo_fi φ _ _ _ _) (fun v4 => ?_)
    refine pr_if ?_ ?_
    · refine pr_rd (uo_fr φ _ _ _ _) (fun v6 => ?_)
      refine pr_rd (uo_ia φ _ _ _ _) (fun v7 => ?_)
      refine pr_rd ((pf_X12_isIn φ _ _ _ _).trans oid) (fun v8 => ?_)
      refine pr_if ?_ ?_
      · rfl
      · refine pr_ck (uo_io φ _ _ _) ?_
        refine pr_rd ((pf_X12_logged φ _ _ _ _).trans oid) (fun v10 => ?_)
        rfl
    · rfl
  · refine pr_if ?_ ?_
    · exact hj11 (nI 1)
    · exact hj11 (nI 0)
set_option maxRecDepth 100000 in
set_option maxHeartbeats 4000000 in
theorem pf_X12_seed (φ : Nat → Int64) (x0 : Nat) (x1 : Int32) (h : ab_H) : fX12_seed x0 x1 (Uo φ h) = (fX12_seed x0 x1 h).map (fun y => (y.1, Uo φ y.2)) := by
  unfold fX12_seed
  refine pr_wr (uo_fw φ _ _ _ _ _) (fun h1 => ?_)
  refine pr_rd (uo_fr φ _ _ _ _) (fun v2 => ?_)
  refine pr_rd (uo_ia φ _ _ _ _) (fun v3 => ?_)
  refine pr_rd (uo_fr φ _ _ _ _) (fun v4 => ?_)
  refine pr_wr (uo_iw φ _ _ _ _ _) (fun h5 => ?_)
  rfl
set_option maxRecDepth 100000 in
set_option maxHeartbeats 4000000 in
theorem pf_X12_undo_26 (φ : Nat → Int64) (x0 : Nat) : ∀ (n : Nat) (x1 : Int32) (h : ab_H), fX12_undo_26 x0 n x1 (Uo φ h) = (fX12_undo_26 x0 n x1 h).map (fun y => (y.1, Uo φ y.2)) := by
  intro n
  induction n with
  | zero => intro x1 h; rfl
  | succ n ih =>
    intro x1 h
    rw [fX12_undo_26, fX12_undo_26]
    refine pr_if ?_ ?_
    · refine pr_rd (uo_fr φ _ _ _ _) (fun v7 => ?_)
      refine pr_rd (uo_fr φ _ _ _ _) (fun v8 => ?_)
      refine pr_rd (uo_fi φ _ _ _ _) (fun v9 => ?_)
      refine pr_rd (uo_ia φ _ _ _ _) (fun v10 => ?_)
      refine pr_wr (uo_iw φ _ _ _ _ _) (fun h11 => ?_)
      exact ih (x1 + nI 1) h11
    · rfl
set_option maxRecDepth 100000 in
set_option maxHeartbeats 4000000 in
theorem pf_X12_undo (φ : Nat → Int64) (F : Nat) (x0 : Nat) (h : ab_H) : fX12_undo F x0 (Uo φ h) = (fX12_undo F x0 h).map (fun y => (y.1, Uo φ y.2)) := by
  unfold fX12_undo
  refine pr_wr (uo_fw φ _ _ _ _ _) (fun h1 => ?_)
  refine pr_rd (uo_fi φ _ _ _ _) (fun v2 => ?_)
  refine pr_if ?_ ?_
  · rfl
  · refine pr_rd (uo_fi φ _ _ _ _) (fun v4 => ?_)
    refine pr_wr (uo_fw φ _ _ _ _ _) (fun h5 => ?_)
    exact pf_X12_undo_26 φ x0 F (nI 0) h5
set_option maxRecDepth 100000 in
set_option maxHeartbeats 4000000 in
theorem pf_X12_image_7 (φ : Nat → Int64) (x0 : Nat) : ∀ (n : Nat) (x1 : Int32) (h : ab_H), fX12_image_7 x0 n x1 (Uo φ h) = (fX12_image_7 x0 n x1 h).map (Uo φ) := by
  intro n
  induction n with
  | zero => intro x1 h; rfl
  | succ n ih =>
    intro x1 h
    rw [fX12_image_7, fX12_image_7]
    refine pr_if ?_ ?_
    · refine pr_rd (uo_fr φ _ _ _ _) (fun v3 => ?_)
      refine pr_rd (uo_fr φ _ _ _ _) (fun v4 => ?_)
      refine pr_rd (uo_ia φ _ _ _ _) (fun v5 => ?_)
      refine pr_wr (uo_iw φ _ _ _ _ _) (fun h6 => ?_)
      exact ih (x1 + nI 1) h6
    · refine pr_wr (uo_fw φ _ _ _ _ _) (fun h7 => ?_)
      rfl
set_option maxRecDepth 100000 in
set_option maxHeartbeats 4000000 in
theorem pf_X12_image (φ : Nat → Int64) (F : Nat) (x0 : Nat) (h : ab_H) : fX12_image F x0 (Uo φ h) = (fX12_image F x0 h).map (Uo φ) := by
  unfold fX12_image
  refine pr_wr (uo_fw φ _ _ _ _ _) (fun h1 => ?_)
  exact pf_X12_image_7 φ x0 F (nI 0) h1
set_option maxRecDepth 100000 in
set_option maxHeartbeats 4000000 in
theorem pf_X12_back_16 (φ : Nat → Int64) (x0 : Nat) : ∀ (n : Nat) (x1 : Int32) (h : ab_H), fX12_back_16 x0 n x1 (Uo φ h) = (fX12_back_16 x0 n x1 h).map (fun y => (y.1, Uo φ y.2)) := by
  intro n
  induction n with
  | zero => intro x1 h; rfl
  | succ n ih =>
    intro x1 h
    rw [fX12_back_16, fX12_back_16]
    refine pr_if ?_ ?_
    · refine pr_rd (uo_fr φ _ _ _ _) (fun v5 => ?_)
      refine pr_rd (uo_fr φ _ _ _ _) (fun v6 => ?_)
      refine pr_rd (uo_ia φ _ _ _ _) (fun v7 => ?_)
      refine pr_wr (uo_iw φ _ _ _ _ _) (fun h8 => ?_)
      exact ih (x1 + nI 1) h8
    · refine pr_wr (uo_fw φ _ _ _ _ _) (fun h9 => ?_)
      rfl
set_option maxRecDepth 100000 in
set_option maxHeartbeats 4000000 in
theorem pf_X12_back (φ : Nat → Int64) (F : Nat) (x0 : Nat) (h : ab_H) : fX12_back F x0 (Uo φ h) = (fX12_back F x0 h).map (fun y => (y.1, Uo φ y.2)) := by
  unfold fX12_back
  refine pr_wr (uo_fw φ _ _ _ _ _) (fun h1 => ?_)
  refine pr_rd (uo_fi φ _ _ _ _) (fun v2 => ?_)
  refine pr_if ?_ ?_
  · rfl
  · exact pf_X12_back_16 φ x0 F (nI 0) h1
set_option maxRecDepth 100000 in
set_option maxHeartbeats 4000000 in
theorem pf_X12_marksNow_4 (φ : Nat → Int64) (F : Nat) (x0 : Nat) (h : ab_H) : ∀ (n : Nat) (x1 : Int32) (x2 : Int32), fX12_marksNow_4 F x0 (Uo φ h) n x1 x2 = (fX12_marksNow_4 F x0 h n x1 x2).map (fun y => y) := by
  intro n
  induction n with
  | zero => intro x1 x2; rfl
  | succ n ih =>
    intro x1 x2
    rw [fX12_marksNow_4, fX12_marksNow_4]
    refine pr_rd (uo_fr φ _ _ _ _) (fun v1 => ?_)
    refine pr_rd (uo_ia φ _ _ _ _) (fun v2 => ?_)
    refine pr_if ?_ ?_
    · refine pr_ck (uo_io φ _ _ _) ?_
      refine pr_rd ((pf_X12_of φ _ _ _ _).trans oid) (fun v4 => ?_)
      refine pr_rd ((pf_X12_bits φ _ _ _).trans oid) (fun v5 => ?_)
      exact ih (x1 + v5) (x2 + nI 1)
    · rfl
set_option maxRecDepth 100000 in
set_option maxHeartbeats 4000000 in
theorem pf_X12_marksNow (φ : Nat → Int64) (F : Nat) (x0 : Nat) (h : ab_H) : fX12_marksNow F x0 (Uo φ h) = (fX12_marksNow F x0 h).map (fun y => y) := by
  unfold fX12_marksNow
  exact pf_X12_marksNow_4 φ F x0 h F (nI 0) (nI 0)
set_option maxRecDepth 100000 in
set_option maxHeartbeats 4000000 in
theorem pf_X12_count (φ : Nat → Int64) (F : Nat) (x0 : Nat) (x1 : Int32) (h : ab_H) : fX12_count F x0 x1 (Uo φ h) = (fX12_count F x0 x1 h).map (fun y => (y.1, Uo φ y.2)) := by
  unfold fX12_count
  refine pr_wr (uo_fw φ _ _ _ _ _) (fun h1 => ?_)
  refine pr_if ?_ ?_
  · refine pr_rd (uo_fr φ _ _ _ _) (fun v3 => ?_)
    refine pr_rd (uo_ia φ _ _ _ _) (fun v4 => ?_)
    rfl
  · refine pr_if ?_ ?_
    · refine pr_rd (uo_fr φ _ _ _ _) (fun v6 => ?_)
      refine pr_rd (uo_ia φ _ _ _ _) (fun v7 => ?_)
      rfl
    · refine pr_if ?_ ?_
      · refine pr_ck (uo_io φ _ _ _) ?_
        refine pr_rd ((pf_X12_hung φ _ _ _).trans oid) (fun v9 => ?_)
        rfl
      · refine pr_if ?_ ?_
        · refine pr_rd (uo_fr φ _ _ _ _) (fun v11 => ?_)
          refine pr_rd (uo_ia φ _ _ _ _) (fun v12 => ?_)
          rfl
        · refine pr_if ?_ ?_
          · refine pr_rd (uo_fr φ _ _ _ _) (fun v14 => ?_)
            refine pr_rd (uo_ia φ _ _ _ _) (fun v15 => ?_)
            rfl
          · refine pr_rd ((pf_X12_isIn φ _ _ _ _).trans oid) (fun v16 => ?_)
            refine pr_if ?_ ?_
            · refine pr_if ?_ ?_
              · refine pr_ck (uo_io φ _ _ _) ?_
                refine pr_rd ((pf_X12_holders φ _ _ _).trans oid) (fun v19 => ?_)
                rfl
              · refine pr_if ?_ ?_
                · refine pr_ck (uo_io φ _ _ _) ?_
                  refine pr_rd ((pf_X12_marksNow φ _ _ _).trans oid) (fun v21 => ?_)
                  rfl
                · refine pr_if ?_ ?_
                  · refine pr_rd (uo_fr φ _ _ _ _) (fun v23 => ?_)
                    refine pr_rd (uo_ia φ _ _ _ _) (fun v24 => ?_)
                    rfl
                  · refine pr_if ?_ ?_
                    · refine pr_rd (uo_fi φ _ _ _ _) (fun v26 => ?_)
                      rfl
                    · rfl
            · refine pr_rd (uo_fr φ _ _ _ _) (fun v27 => ?_)
              refine pr_rd (uo_ia φ _ _ _ _) (fun v28 => ?_)
              rfl
set_option maxRecDepth 100000 in
set_option maxHeartbeats 4000000 in
theorem pf_X12_every_5 (φ : Nat → Int64) (F : Nat) (x0 : Nat) {A : Nat → ab_H → Option (Int32 × ab_H)} (hA : ∀ z h, A z (Uo φ h) = (A z h).map (fun y => (y.1, Uo φ y.2))) : ∀ (n : Nat) (x1 : Int32) (h : ab_H), fX12_every_5 F A x0 n x1 (Uo φ h) = (fX12_every_5 F A x0 n x1 h).map (fun y => (y.1, Uo φ y.2)) := by
  intro n
  induction n with
  | zero => intro x1 h; rfl
  | succ n ih =>
    intro x1 h
    rw [fX12_every_5, fX12_every_5]
    refine pr_rd (uo_fi φ _ _ _ _) (fun v2 => ?_)
    refine pr_if ?_ ?_
    · refine pr_ck (uo_io φ _ _ _) ?_
      refine pr_pr (pf_X12_has_ φ _ _ _ _) (fun v4 => ?_)
      refine pr_if ?_ ?_
      · refine pr_cb ?_
        rfl
      · refine pr_ck (uo_io φ _ _ _) ?_
        refine pr_pr (hA _ _) (fun v7 => ?_)
        refine pr_if ?_ ?_
        · exact ih (nI 0) v7.2
        · refine pr_if ?_ ?_
          · exact ih (nI 0) v7.2
          · exact ih (nI 1) v7.2
    · refine pr_cb ?_
      rfl
set_option maxRecDepth 100000 in
set_option maxHeartbeats 4000000 in
theorem pf_X12_every (φ : Nat → Int64) {A : Nat → ab_H → Option (Int32 × ab_H)} (hA : ∀ z h, A z (Uo φ h) = (A z h).map (fun y => (y.1, Uo φ y.2))) (F : Nat) (x0 : Nat) (h : ab_H) : fX12_every F A x0 (Uo φ h) = (fX12_every F A x0 h).map (fun y => (y.1, Uo φ y.2)) := by
  unfold fX12_every
  refine pr_ck (uo_io φ _ _ _) ?_
  refine pr_pr (hA _ _) (fun v1 => ?_)
  exact pf_X12_every_5 φ F x0 hA F v1.1 v1.2
set_option maxRecDepth 100000 in
set_option maxHeartbeats 4000000 in
theorem pf_X12_some_5 (φ : Nat → Int64) (F : Nat) (x0 : Nat) {A : Nat → ab_H → Option (Int32 × ab_H)} (hA : ∀ z h, A z (Uo φ h) = (A z h).map (fun y => (y.1, Uo φ y.2))) : ∀ (n : Nat) (x1 : Int32) (h : ab_H), fX12_some_5 F A x0 n x1 (Uo φ h) = (fX12_some_5 F A x0 n x1 h).map (fun y => (y.1, Uo φ y.2)) := by
  intro n
  induction n with
  | zero => intro x1 h; rfl
  | succ n ih =>
    intro x1 h
    rw [fX12_some_5, fX12_some_5]
    refine pr_rd (uo_fi φ _ _ _ _) (fun v2 => ?_)
    refine pr_if ?_ ?_
    · refine pr_ck (uo_io φ _ _ _) ?_
      refine pr_pr (pf_X12_has_ φ _ _ _ _) (fun v4 => ?_)
      refine pr_if ?_ ?_
      · refine pr_cb ?_
        rfl
      · refine pr_ck (uo_io φ _ _ _) ?_
        refine pr_pr (pf_X12_every φ hA _ _ _) (fun v7 => ?_)
        refine pr_if ?_ ?_
        · refine pr_if ?_ ?_
          · exact ih (nI 0) v7.2
          · exact ih (nI 1) v7.2
        · exact ih (nI 1) v7.2
    · refine pr_cb ?_
      rfl
set_option maxRecDepth 100000 in
set_option maxHeartbeats 4000000 in
theorem pf_X12_some (φ : Nat → Int64) {A : Nat → ab_H → Option (Int32 × ab_H)} (hA : ∀ z h, A z (Uo φ h) = (A z h).map (fun y => (y.1, Uo φ y.2))) (F : Nat) (x0 : Nat) (h : ab_H) : fX12_some F A x0 (Uo φ h) = (fX12_some F A x0 h).map (fun y => (y.1, Uo φ y.2)) := by
  unfold fX12_some
  refine pr_ck (uo_io φ _ _ _) ?_
  refine pr_pr (pf_X12_every φ hA _ _ _) (fun v1 => ?_)
  exact pf_X12_some_5 φ F x0 hA F v1.1 v1.2
set_option maxRecDepth 100000 in
set_option maxHeartbeats 4000000 in
theorem pf_X12_atomB (φ : Nat → Int64) {A : Nat → ab_H → Option (Int32 × ab_H)} (hA : ∀ z h, A z (Uo φ h) = (A z h).map (fun y => (y.1, Uo φ y.2))) (F : Nat) (x0 : Nat) (h : ab_H) : fX12_atomB F A x0 (Uo φ h) = (fX12_atomB F A x0 h).map (fun y => (y.1, Uo φ y.2)) := by
  unfold fX12_atomB
  refine pr_rd (uo_fi φ _ _ _ _) (fun v1 => ?_)
  refine pr_if ?_ ?_
  · refine pr_ck (uo_io φ _ _ _) ?_
    refine pr_pr (pf_X12_place φ _ _ _) (fun v3 => ?_)
    refine pr_ck (uo_io φ _ _ _) ?_
    refine pr_pr (pf_X12_has_ φ _ _ _ _) (fun v4 => ?_)
    refine pr_jn (fun j j' : ab_H → Option (Int32 × ab_H) => ∀ (z0_ : ab_H), j (Uo φ z0_) = (j' z0_).map (fun y => (y.1, Uo φ y.2))) ?_ (fun j35 j35' hj35 => ?_)
    · intro h5
      refine pr_rd (uo_fi φ _ _ _ _) (fun v6 => ?_)
      refine pr_if ?_ ?_
      · refine pr_ck (uo_io φ _ _ _) ?_
        refine pr_wr (pf_X12_wrong φ _ _ _) (fun h8 => ?_)
        rfl
      · refine pr_rd (uo_fi φ _ _ _ _) (fun v9 => ?_)
        refine pr_wr (uo_fw φ _ _ _ _ _) (fun h10 => ?_)
        refine pr_if ?_ ?_
        · refine pr_rd (uo_fi φ _ _ _ _) (fun v12 => ?_)
          refine pr_wr (uo_fw φ _ _ _ _ _) (fun h13 => ?_)
          refine pr_ck (uo_io φ _ _ _) ?_
          refine pr_pr (pf_X12_some φ hA _ _ _) (fun v14 => ?_)
          refine pr_rd (uo_fi φ _ _ _ _) (fun v15 => ?_)
          refine pr_jn (fun j j' : ab_H → Option (Int32 × ab_H) => ∀ (z0_ : ab_H), j (Uo φ z0_) = (j' z0_).map (fun y => (y.1, Uo φ y.2))) ?_ (fun j22 j22' hj22 => ?_)
          · intro h16
            refine pr_rd (uo_fi φ _ _ _ _) (fun v17 => ?_)
            refine pr_wr (uo_fw φ _ _ _ _ _) (fun h18 => ?_)
            refine pr_rd (uo_fi φ _ _ _ _) (fun v19 => ?_)
            refine pr_wr (uo_fw φ _ _ _ _ _) (fun h20 => ?_)
            refine pr_cb ?_
            rfl
          · refine pr_if ?_ ?_
            · refine pr_ck (uo_io φ _ _ _) ?_
              refine pr_pr (pf_X12_isSign φ _ _ _ _) (fun v24 => ?_)
              refine pr_if ?_ ?_
              · refine pr_rd (uo_fi φ _ _ _ _) (fun v26 => ?_)
                refine pr_ck (uo_io φ _ _ _) ?_
                refine pr_wr (pf_X12_wrong φ _ _ _) (fun h27 => ?_)
                exact hj22 h27
              · exact hj22 v24.2
            · exact hj22 v14.2
        · refine pr_ck (uo_io φ _ _ _) ?_
          refine pr_pr (hA _ _) (fun v28 => ?_)
          refine pr_jn (fun j j' : Int32 → Option (Int32 × ab_H) => ∀ (z0_ : Int32), j z0_ = (j' z0_).map (fun y => (y.1, Uo φ y.2))) ?_ (fun j33 j33' hj33 => ?_)
          · intro z29
            refine pr_rd (uo_fi φ _ _ _ _) (fun v30 => ?_)
            refine pr_wr (uo_fw φ _ _ _ _ _) (fun h31 => ?_)
            refine pr_cb ?_
            rfl
          · refine pr_if ?_ ?_
            · exact hj33 (nI 1)
            · exact hj33 (nI 0)
    · refine pr_if ?_ ?_
      · refine pr_ck (uo_io φ _ _ _) ?_
        refine pr_pr (pf_X12_isSign φ _ _ _ _) (fun v37 => ?_)
        refine pr_if ?_ ?_
        · refine pr_ck (uo_io φ _ _ _) ?_
          refine pr_pr (pf_X12_plain φ _ _ _) (fun v39 => ?_)
          refine pr_cb ?_
          rfl
        · exact hj35 v37.2
      · exact hj35 v4.2
  · rfl
theorem pf_X12_atom (φ : Nat → Int64) (F : Nat) : ∀ (d x0 : Nat) (h : ab_H), fX12_atom F d x0 (Uo φ h) = (fX12_atom F d x0 h).map (fun y => (y.1, Uo φ y.2)) := by
  intro d
  induction d with
  | zero => intro x0 h; rfl
  | succ d ih => intro x0 h; exact pf_X12_atomB φ (A := fX12_atom F d) ih F x0 h
set_option maxRecDepth 100000 in
set_option maxHeartbeats 4000000 in
theorem pf_X12_someT (φ : Nat → Int64) (F : Nat) (x0 : Nat) (h : ab_H) : fX12_someT F x0 (Uo φ h) = (fX12_someT F x0 h).map (fun y => (y.1, Uo φ y.2)) := by
  unfold fX12_someT
  exact pf_X12_some φ (pf_X12_atom φ F 7) F x0 h
set_option maxRecDepth 100000 in
set_option maxHeartbeats 4000000 in
theorem pf_X12_lawLine (φ : Nat → Int64) (F : Nat) (x0 : Nat) (h : ab_H) : fX12_lawLine F x0 (Uo φ h) = (fX12_lawLine F x0 h).map (Uo φ) := by
  unfold fX12_lawLine
  refine pr_ck (uo_io φ _ _ _) ?_
  refine pr_pr (pf_X12_has_ φ _ _ _ _) (fun v1 => ?_)
  refine pr_jn (fun j j' : ab_H → Option ab_H => ∀ (z0_ : ab_H), j (Uo φ z0_) = (j' z0_).map (Uo φ)) ?_ (fun j18 j18' hj18 => ?_)
  · intro h2
    refine pr_ck (uo_io φ _ _ _) ?_
    refine pr_pr (pf_X12_has_ φ _ _ _ _) (fun v3 => ?_)
    refine pr_jn (fun j j' : Int32 → ab_H → Option ab_H => ∀ (z0_ : Int32) (z1_ : ab_H), j z0_ (Uo φ z1_) = (j' z0_ z1_).map (Uo φ)) ?_ (fun j12 j12' hj12 => ?_)
    · intro z4 h5
      refine pr_rd (uo_fi φ _ _ _ _) (fun v6 => ?_)
      refine pr_if ?_ ?_
      · refine pr_if ?_ ?_
        · rfl
        · refine pr_if ?_ ?_
          · refine pr_wr (uo_fw φ _ _ _ _ _) (fun h10 => ?_)
            rfl
          · refine pr_wr (uo_fw φ _ _ _ _ _) (fun h11 => ?_)
            rfl
      · rfl
    · refine pr_jn (fun j j' : ab_H → Option ab_H => ∀ (z0_ : ab_H), j (Uo φ z0_) = (j' z0_).map (Uo φ)) ?_ (fun j14 j14' hj14 => ?_)
      · intro h13
        exact hj12 (nI 1) h13
      · refine pr_if ?_ ?_
        · exact hj14 v3.2
        · refine pr_ck (uo_io φ _ _ _) ?_
          refine pr_pr (pf_X12_someT φ _ _ _) (fun v16 => ?_)
          refine pr_if ?_ ?_
          · exact hj12 (nI 0) v16.2
          · exact hj14 v16.2
  · refine pr_if ?_ ?_
    · refine pr_ck (uo_io φ _ _ _) ?_
      refine pr_pr (pf_X12_has_ φ _ _ _ _) (fun v20 => ?_)
      refine pr_if ?_ ?_
      · refine pr_rd (uo_fi φ _ _ _ _) (fun v22 => ?_)
        refine pr_ck (uo_io φ _ _ _) ?_
        refine pr_wr (pf_X12_wrong φ _ _ _) (fun h23 => ?_)
        rfl
      · exact hj18 v20.2
    · exact hj18 v1.2
set_option maxRecDepth 100000 in
set_option maxHeartbeats 4000000 in
theorem pf_X12_block_18 (φ : Nat → Int64) (F : Nat) (x0 : Nat) (x2 : Int32) (h : ab_H) {k65 k65' : Int32 → Option (Int32 × ab_H)} (hk65 : ∀ (z0_ : Int32), k65 z0_ = (k65' z0_).map (fun y => (y.1, Uo φ y.2))) : ∀ (n : Nat) (x3 : Int32) (x4 : Int32), fX12_block_18 F x0 x2 (Uo φ h) k65 n x3 x4 = (fX12_block_18 F x0 x2 h k65' n x3 x4).map (fun y => (y.1, Uo φ y.2)) := by
  intro n
  induction n with
  | zero => intro x3 x4; rfl
  | succ n ih =>
    intro x3 x4
    rw [fX12_block_18, fX12_block_18]
    refine pr_rd (uo_fr φ _ _ _ _) (fun v3 => ?_)
    refine pr_rd (uo_ia φ _ _ _ _) (fun v4 => ?_)
    refine pr_if ?_ ?_
    · refine pr_if ?_ ?_
      · exact ih (nI 0) (x4 + nI 1)
      · refine pr_rd ((pf_X12_isOf φ _ _ _).trans oid) (fun v7 => ?_)
        refine pr_if ?_ ?_
        · exact ih (nI 1) (x4 + nI 1)
        · refine pr_ck (uo_io φ _ _ _) ?_
          refine pr_rd ((pf_X12_of φ _ _ _ _).trans oid) (fun v9 => ?_)
          refine pr_if ?_ ?_
          · exact ih (nI 0) (x4 + nI 1)
          · exact ih (nI 1) (x4 + nI 1)
    · exact hk65 x3
set_option maxRecDepth 100000 in
set_option maxHeartbeats 4000000 in
theorem pf_X12_block_101 (φ : Nat → Int64) (F : Nat) (x0 : Nat) (h : ab_H) {k152 k152' : Int32 → Int32 → Option (Int32 × ab_H)} (hk152 : ∀ (z0_ : Int32) (z1_ : Int32), k152 z0_ z1_ = (k152' z0_ z1_).map (fun y => (y.1, Uo φ y.2))) : ∀ (n : Nat) (x2 : Int32) (x4 : Int32) (x5 : Int32), fX12_block_101 F x0 (Uo φ h) k152 n x2 x4 x5 = (fX12_block_101 F x0 h k152' n x2 x4 x5).map (fun y => (y.1, Uo φ y.2)) := by
  intro n
  induction n with
  | zero => intro x2 x4 x5; rfl
  | succ n ih =>
    intro x2 x4 x5
    rw [fX12_block_101, fX12_block_101]
    refine pr_rd (uo_fr φ _ _ _ _) (fun v17 => ?_)
    refine pr_rd (uo_ia φ _ _ _ _) (fun v18 => ?_)
    refine pr_if ?_ ?_
    · refine pr_rd ((pf_X12_isOf φ _ _ _).trans oid) (fun v20 => ?_)
      refine pr_if ?_ ?_
      · exact ih x2 x4 (x5 + nI 1)
      · refine pr_ck (uo_io φ _ _ _) ?_
        refine pr_rd ((pf_X12_hasDearer φ _ _ _ _ _).trans oid) (fun v22 => ?_)
        refine pr_if ?_ ?_
        · exact ih (x2 &&& (((nI 1) <<< (x5 &&& 31)) ^^^ (-1 : Int32))) (nI 1) (x5 + nI 1)
        · exact ih x2 x4 (x5 + nI 1)
    · exact hk152 x2 x4
set_option maxRecDepth 100000 in
set_option maxHeartbeats 4000000 in
theorem pf_X12_block_90 (φ : Nat → Int64) (F : Nat) (x0 : Nat) (h : ab_H) {k155 k155' : Int32 → Option (Int32 × ab_H)} (hk155 : ∀ (z0_ : Int32), k155 z0_ = (k155' z0_).map (fun y => (y.1, Uo φ y.2))) : ∀ (n : Nat) (x2 : Int32) (x4 : Int32), fX12_block_90 F x0 (Uo φ h) k155 n x2 x4 = (fX12_block_90 F x0 h k155' n x2 x4).map (fun y => (y.1, Uo φ y.2)) := by
  intro n
  induction n with
  | zero => intro x2 x4; rfl
  | succ n ih =>
    intro x2 x4
    rw [fX12_block_90, fX12_block_90]
    refine pr_if ?_ ?_
    · exact hk155 x2
    · refine pf_X12_block_101 φ F x0 h (fun z24 z25 => ?_) F x2 (nI 0) (nI 0)
      · exact ih z24 z25
set_option maxRecDepth 100000 in
set_option maxHeartbeats 4000000 in
theorem pf_X12_block (φ : Nat → Int64) (F : Nat) (x0 : Nat) (x1 : Int32) (h : ab_H) : fX12_block F x0 x1 (Uo φ h) = (fX12_block F x0 x1 h).map (fun y => (y.1, Uo φ y.2)) := by
  unfold fX12_block
  refine pr_rd (uo_fr φ _ _ _ _) (fun v1 => ?_)
  refine pr_rd (uo_ia φ _ _ _ _) (fun v2 => ?_)
  refine pf_X12_block_18 φ F x0 (x1 &&& (((nI 1) <<< (v2 &&& 31)) - (nI 1))) h (fun z11 => ?_) F (nI 1) (nI 0)
  · refine pr_jn (fun j j' : Int32 → Option (Int32 × ab_H) => ∀ (z0_ : Int32), j z0_ = (j' z0_).map (fun y => (y.1, Uo φ y.2))) ?_ (fun j28 j28' hj28 => ?_)
    · intro z12
      refine pr_wr (uo_fw φ _ _ _ _ _) (fun h13 => ?_)
      refine pr_rd (uo_fi φ _ _ _ _) (fun v14 => ?_)
      refine pr_if ?_ ?_
      · refine pf_X12_block_90 φ F x0 h13 (fun z26 => ?_) F (x1 &&& (((nI 1) <<< (v2 &&& 31)) - (nI 1))) (nI 1)
        · refine pr_if ?_ ?_
          · rfl
          · rfl
      · rfl
    · refine pr_if ?_ ?_
      · exact hj28 (nI 1)
      · exact hj28 (nI 0)
set_option maxRecDepth 100000 in
set_option maxHeartbeats 4000000 in
theorem pf_X12_owned_9 (φ : Nat → Int64) (F : Nat) (x0 : Nat) (x1 : Int32) (x2 : Int32) {k31 k31' : ab_H → Option (Int32 × ab_H)} (hk31 : ∀ (z0_ : ab_H), k31 (Uo φ z0_) = (k31' z0_).map (fun y => (y.1, Uo φ y.2))) : ∀ (n : Nat) (x3 : Int32) (h : ab_H), fX12_owned_9 F x0 x1 x2 k31 n x3 (Uo φ h) = (fX12_owned_9 F x0 x1 x2 k31' n x3 h).map (fun y => (y.1, Uo φ y.2)) := by
  intro n
  induction n with
  | zero => intro x3 h; rfl
  | succ n ih =>
    intro x3 h
    rw [fX12_owned_9, fX12_owned_9]
    refine pr_if ?_ ?_
    · refine pr_rd (uo_fr φ _ _ _ _) (fun v4 => ?_)
      refine pr_wr (uo_iw φ _ _ _ _ _) (fun h5 => ?_)
      exact ih (x3 + nI 1) h5
    · exact hk31 h
set_option maxRecDepth 100000 in
set_option maxHeartbeats 4000000 in
theorem pf_X12_owned_33 (φ : Nat → Int64) (F : Nat) (x0 : Nat) (x1 : Int32) {k111 k111' : ab_H → Option (Int32 × ab_H)} (hk111 : ∀ (z0_ : ab_H), k111 (Uo φ z0_) = (k111' z0_).map (fun y => (y.1, Uo φ y.2))) : ∀ (n : Nat) (x3 : Int32) (h : ab_H), fX12_owned_33 F x0 x1 k111 n x3 (Uo φ h) = (fX12_owned_33 F x0 x1 k111' n x3 h).map (fun y => (y.1, Uo φ y.2)) := by
  intro n
  induction n with
  | zero => intro x3 h; rfl
  | succ n ih =>
    intro x3 h
    rw [fX12_owned_33, fX12_owned_33]
    refine pr_rd (uo_fi φ _ _ _ _) (fun v7 => ?_)
    refine pr_if ?_ ?_
    · refine pr_rd ((pf_X12_isOf φ _ _ _).trans oid) (fun v9 => ?_)
      refine pr_if ?_ ?_
      · exact ih (x3 + nI 1) h
      · refine pr_rd (uo_fr φ _ _ _ _) (fun v11 => ?_)
        refine pr_rd (uo_ia φ _ _ _ _) (fun v12 => ?_)
        refine pr_rd (uo_fr φ _ _ _ _) (fun v13 => ?_)
        refine pr_rd (uo_fr φ _ _ _ _) (fun v14 => ?_)
        refine pr_rd (uo_ia φ _ _ _ _) (fun v15 => ?_)
        refine pr_rd (uo_ia φ _ _ _ _) (fun v16 => ?_)
        refine pr_rd (uo_fr φ _ _ _ _) (fun v17 => ?_)
        refine pr_rd (uo_ia φ _ _ _ _) (fun v18 => ?_)
        refine pr_if ?_ ?_
        · refine pr_wr (uo_iw φ _ _ _ _ _) (fun h20 => ?_)
          exact ih (x3 + nI 1) h20
        · refine pr_wr (uo_iw φ _ _ _ _ _) (fun h21 => ?_)
          exact ih (x3 + nI 1) h21
    · exact hk111 h
set_option maxRecDepth 100000 in
set_option maxHeartbeats 4000000 in
theorem pf_X12_owned (φ : Nat → Int64) (F : Nat) (x0 : Nat) (x1 : Int32) (h : ab_H) : fX12_owned F x0 x1 (Uo φ h) = (fX12_owned F x0 x1 h).map (fun y => (y.1, Uo φ y.2)) := by
  unfold fX12_owned
  refine pr_rd (uo_fr φ _ _ _ _) (fun v1 => ?_)
  refine pr_rd (uo_ia φ _ _ _ _) (fun v2 => ?_)
  refine pf_X12_owned_9 φ F x0 x1 v2 (fun h6 => ?_) F (nI 0) h
  · refine pf_X12_owned_33 φ F x0 x1 (fun h22 => ?_) F (nI 0) h6
    · refine pr_ck (uo_io φ _ _ _) ?_
      refine pr_pr (pf_X12_counts φ _ _ _) (fun v23 => ?_)
      rfl
set_option maxRecDepth 100000 in
set_option maxHeartbeats 4000000 in
theorem pf_X12_waysOf (φ : Nat → Int64) (F : Nat) (x0 : Nat) (x1 : Int32) (x2 : Int32) (h : ab_H) : fX12_waysOf F x0 x1 x2 (Uo φ h) = (fX12_waysOf F x0 x1 x2 h).map (fun y => (y.1, Uo φ y.2)) := by
  unfold fX12_waysOf
  refine pr_ck (uo_io φ _ _ _) ?_
  refine pr_pr (pf_X12_owned φ _ _ _ _) (fun v1 => ?_)
  refine pr_rd (uo_fr φ _ _ _ _) (fun v2 => ?_)
  refine pr_rd (uo_ia φ _ _ _ _) (fun v3 => ?_)
  refine pr_rd ((pf_X12_isOf φ _ _ _).trans oid) (fun v4 => ?_)
  refine pr_if ?_ ?_
  · rfl
  · refine pr_rd (uo_fr φ _ _ _ _) (fun v6 => ?_)
    refine pr_wr (uo_iw φ _ _ _ _ _) (fun h7 => ?_)
    refine pr_ck (uo_io φ _ _ _) ?_
    refine pr_pr (pf_X12_counts φ _ _ _) (fun v8 => ?_)
    rfl
set_option maxRecDepth 100000 in
set_option maxHeartbeats 4000000 in
theorem pf_X12_fits_62 (φ : Nat → Int64) (F : Nat) (x0 : Nat) (x1 : Int32) (x3 : Int32) : ∀ (n : Nat) (x4 : Int32) (h : ab_H), fX12_fits_62 F x0 x1 x3 n x4 (Uo φ h) = (fX12_fits_62 F x0 x1 x3 n x4 h).map (fun y => (y.1, Uo φ y.2)) := by
  intro n
  induction n with
  | zero => intro x4 h; rfl
  | succ n ih =>
    intro x4 h
    rw [fX12_fits_62, fX12_fits_62]
    refine pr_rd (uo_fr φ _ _ _ _) (fun v8 => ?_)
    refine pr_rd (uo_ia φ _ _ _ _) (fun v9 => ?_)
    refine pr_if ?_ ?_
    · refine pr_if ?_ ?_
      · rfl
      · refine pr_ck (uo_io φ _ _ _) ?_
        refine pr_pr (pf_X12_waysOf φ _ _ _ _ _) (fun v12 => ?_)
        refine pr_if ?_ ?_
        · rfl
        · exact ih (x4 + nI 1) v12.2
    · rfl
set_option maxRecDepth 100000 in
set_option maxHeartbeats 4000000 in
theorem pf_X12_fits (φ : Nat → Int64) (F : Nat) (x0 : Nat) (x1 : Int32) (h : ab_H) : fX12_fits F x0 x1 (Uo φ h) = (fX12_fits F x0 x1 h).map (fun y => (y.1, Uo φ y.2)) := by
  unfold fX12_fits
  refine pr_ck (uo_io φ _ _ _) ?_
  refine pr_pr (pf_X12_hears φ _ _ _) (fun v1 => ?_)
  refine pr_jn (fun j j' : Int32 → Option (Int32 × ab_H) => ∀ (z0_ : Int32), j z0_ = (j' z0_).map (fun y => (y.1, Uo φ y.2))) ?_ (fun j14 j14' hj14 => ?_)
  · intro z2
    refine pr_wr (uo_fw φ _ _ _ _ _) (fun h3 => ?_)
    refine pr_rd (uo_fi φ _ _ _ _) (fun v4 => ?_)
    refine pr_if ?_ ?_
    · refine pr_ck (uo_io φ _ _ _) ?_
      refine pr_pr (pf_X12_owned φ _ _ _ _) (fun v6 => ?_)
      refine pr_if ?_ ?_
      · rfl
      · exact pf_X12_fits_62 φ F x0 x1 v6.1 F (nI 0) v6.2
    · rfl
  · refine pr_jn (fun j j' : Option (Int32 × ab_H) => j = (j').map (fun y => (y.1, Uo φ y.2))) ?_ (fun j16 j16' hj16 => ?_)
    · refine pr_if ?_ ?_
      · exact hj14 (nI 2)
      · exact hj14 (nI 0)
    · refine pr_if ?_ ?_
      · exact hj16
      · refine pr_ck (uo_io φ _ _ _) ?_
        refine pr_rd ((pf_X12_isPerson φ _ _ _).trans oid) (fun v18 => ?_)
        refine pr_if ?_ ?_
        · exact hj14 (nI 1)
        · exact hj16
set_option maxRecDepth 100000 in
set_option maxHeartbeats 4000000 in
theorem pf_X12_ask_58 (φ : Nat → Int64) (F : Nat) (x0 : Nat) (x1 : Int32) (x3 : Int32) : ∀ (n : Nat) (x4 : Int32) (x5 : Int32) (x6 : Int32) (h : ab_H), fX12_ask_58 F x0 x1 x3 n x4 x5 x6 (Uo φ h) = (fX12_ask_58 F x0 x1 x3 n x4 x5 x6 h).map (fun y => (y.1, Uo φ y.2)) := by
  intro n
  induction n with
  | zero => intro x4 x5 x6 h; rfl
  | succ n ih =>
    intro x4 x5 x6 h
    rw [fX12_ask_58, fX12_ask_58]
    refine pr_rd (uo_fr φ _ _ _ _) (fun v8 => ?_)
    refine pr_rd (uo_ia φ _ _ _ _) (fun v9 => ?_)
    refine pr_if ?_ ?_
    · refine pr_if ?_ ?_
      · rfl
      · refine pr_ck (uo_io φ _ _ _) ?_
        refine pr_pr (pf_X12_waysOf φ _ _ _ _ _) (fun v12 => ?_)
        refine pr_rd ((pf_X12_greater φ _ _ _).trans oid) (fun v13 => ?_)
        refine pr_if ?_ ?_
        · refine pr_rd ((pf_X12_greater φ _ _ _).trans oid) (fun v15 => ?_)
          exact ih x6 v15 (x6 + nI 1) v12.2
        · exact ih x4 x5 (x6 + nI 1) v12.2
    · rfl
set_option maxRecDepth 100000 in
set_option maxHeartbeats 4000000 in
theorem pf_X12_ask (φ : Nat → Int64) (F : Nat) (x0 : Nat) (x1 : Int32) (h : ab_H) : fX12_ask F x0 x1 (Uo φ h) = (fX12_ask F x0 x1 h).map (fun y => (y.1, Uo φ y.2)) := by
  unfold fX12_ask
  refine pr_ck (uo_io φ _ _ _) ?_
  refine pr_pr (pf_X12_hears φ _ _ _) (fun v1 => ?_)
  refine pr_ck (uo_io φ _ _ _) ?_
  refine pr_rd ((pf_X12_isPerson φ _ _ _).trans oid) (fun v2 => ?_)
  refine pr_jn (fun j j' : Int32 → Option (Int32 × ab_H) => ∀ (z0_ : Int32), j z0_ = (j' z0_).map (fun y => (y.1, Uo φ y.2))) ?_ (fun j16 j16' hj16 => ?_)
  · intro z3
    refine pr_wr (uo_fw φ _ _ _ _ _) (fun h4 => ?_)
    refine pr_rd (uo_fi φ _ _ _ _) (fun v5 => ?_)
    refine pr_if ?_ ?_
    · refine pr_ck (uo_io φ _ _ _) ?_
      refine pr_pr (pf_X12_owned φ _ _ _ _) (fun v7 => ?_)
      exact pf_X12_ask_58 φ F x0 x1 v7.1 F (-1 : Int32) (nI 2000000000) (nI 0) v7.2
    · rfl
  · refine pr_if ?_ ?_
    · exact hj16 (nI 1)
    · refine pr_if ?_ ?_
      · exact hj16 (nI 2)
      · exact hj16 (nI 0)
set_option maxRecDepth 100000 in
set_option maxHeartbeats 4000000 in
theorem pf_X12_clash_41 (φ : Nat → Int64) (F : Nat) (x0 : Nat) : ∀ (n : Nat) (x2 : Int32) (x3 : Int32) (h : ab_H), fX12_clash_41 F x0 n x2 x3 (Uo φ h) = (fX12_clash_41 F x0 n x2 x3 h).map (fun y => (y.1, Uo φ y.2)) := by
  intro n
  induction n with
  | zero => intro x2 x3 h; rfl
  | succ n ih =>
    intro x2 x3 h
    rw [fX12_clash_41, fX12_clash_41]
    refine pr_rd (uo_fi φ _ _ _ _) (fun v8 => ?_)
    refine pr_if ?_ ?_
    · refine pr_jn (fun j j' : Option (Int32 × ab_H) => j = (j').map (fun y => (y.1, Uo φ y.2))) ?_ (fun j12 j12' hj12 => ?_)
      · refine pr_ck (uo_io φ _ _ _) ?_
        refine pr_pr (pf_X12_owned φ _ _ _ _) (fun v10 => ?_)
        refine pr_if ?_ ?_
        · exact ih x3 (x3 + nI 1) v10.2
        · exact ih x2 (x3 + nI 1) v10.2
      · refine pr_if ?_ ?_
        · exact hj12
        · refine pr_rd ((pf_X12_bits φ _ _ _).trans oid) (fun v14 => ?_)
          refine pr_rd ((pf_X12_bits φ _ _ _).trans oid) (fun v15 => ?_)
          refine pr_if ?_ ?_
          · exact hj12
          · exact ih x2 (x3 + nI 1) h
    · rfl
set_option maxRecDepth 100000 in
set_option maxHeartbeats 4000000 in
theorem pf_X12_clash (φ : Nat → Int64) (F : Nat) (x0 : Nat) (h : ab_H) : fX12_clash F x0 (Uo φ h) = (fX12_clash F x0 h).map (fun y => (y.1, Uo φ y.2)) := by
  unfold fX12_clash
  refine pr_ck (uo_io φ _ _ _) ?_
  refine pr_pr (pf_X12_hears φ _ _ _) (fun v1 => ?_)
  refine pr_jn (fun j j' : Int32 → Option (Int32 × ab_H) => ∀ (z0_ : Int32), j z0_ = (j' z0_).map (fun y => (y.1, Uo φ y.2))) ?_ (fun j17 j17' hj17 => ?_)
  · intro z2
    refine pr_wr (uo_fw φ _ _ _ _ _) (fun h3 => ?_)
    refine pr_rd (uo_fi φ _ _ _ _) (fun v4 => ?_)
    refine pr_if ?_ ?_
    · refine pr_ck (uo_io φ _ _ _) ?_
      refine pr_pr (pf_X12_owned φ _ _ _ _) (fun v6 => ?_)
      refine pr_if ?_ ?_
      · exact pf_X12_clash_41 φ F x0 F (-1 : Int32) (nI 0) v6.2
      · rfl
    · rfl
  · refine pr_if ?_ ?_
    · exact hj17 (nI 1)
    · exact hj17 (nI 0)
set_option maxRecDepth 100000 in
set_option maxHeartbeats 4000000 in
theorem pf_X12_read_23 (φ : Nat → Int64) (F : Nat) (x0 : Nat) (x1 : Int32) : ∀ (n : Nat) (x2 : Int32) (x3 : Int32) (h : ab_H), fX12_read_23 F x0 x1 n x2 x3 (Uo φ h) = (fX12_read_23 F x0 x1 n x2 x3 h).map (fun y => (y.1, Uo φ y.2)) := by
  intro n
  induction n with
  | zero => intro x2 x3 h; rfl
  | succ n ih =>
    intro x2 x3 h
    rw [fX12_read_23, fX12_read_23]
    refine pr_if ?_ ?_
    · rfl
    · refine pr_rd (uo_fi φ _ _ _ _) (fun v6 => ?_)
      refine pr_if ?_ ?_
      · refine pr_ck (uo_io φ _ _ _) ?_
        refine pr_wr (pf_X12_skip φ _ _ _) (fun h8 => ?_)
        refine pr_jn (fun j j' : Int32 → Option (Int32 × ab_H) => ∀ (z0_ : Int32), j z0_ = (j' z0_).map (fun y => (y.1, Uo φ y.2))) ?_ (fun j30 j30' hj30 => ?_)
        · intro z9
          refine pr_jn (fun j j' : ab_H → Option (Int32 × ab_H) => ∀ (z0_ : ab_H), j (Uo φ z0_) = (j' z0_).map (fun y => (y.1, Uo φ y.2))) ?_ (fun j23 j23' hj23 => ?_)
          · intro h10
            refine pr_ck (uo_io φ _ _ _) ?_
            refine pr_wr (pf_X12_skip φ _ _ _) (fun h11 => ?_)
            refine pr_rd (uo_fi φ _ _ _ _) (fun v12 => ?_)
            refine pr_if ?_ ?_
            · refine pr_rd (uo_fi φ _ _ _ _) (fun v14 => ?_)
              refine pr_rd (uo_fi φ _ _ _ _) (fun v15 => ?_)
              refine pr_if ?_ ?_
              · exact ih (nI 0) (x3 + nI 1) h11
              · refine pr_ck (uo_io φ _ _ _) ?_
                refine pr_pr (pf_X12_isSign φ _ _ _ _) (fun v17 => ?_)
                refine pr_if ?_ ?_
                · refine pr_rd (uo_fi φ _ _ _ _) (fun v19 => ?_)
                  refine pr_ck (uo_io φ _ _ _) ?_
                  refine pr_wr (pf_X12_wrong φ _ _ _) (fun h20 => ?_)
                  exact ih x2 (x3 + nI 1) h20
                · refine pr_rd (uo_fi φ _ _ _ _) (fun v21 => ?_)
                  refine pr_wr (uo_fw φ _ _ _ _ _) (fun h22 => ?_)
                  exact ih x2 (x3 + nI 1) h22
            · exact ih (nI 0) (x3 + nI 1) h11
          · refine pr_if ?_ ?_
            · refine pr_rd (uo_fi φ _ _ _ _) (fun v25 => ?_)
              refine pr_ck (uo_io φ _ _ _) ?_
              refine pr_wr (pf_X12_wrong φ _ _ _) (fun h26 => ?_)
              exact hj23 h26
            · refine pr_if ?_ ?_
              · refine pr_ck (uo_io φ _ _ _) ?_
                refine pr_wr (pf_X12_doorLine φ _ _ _) (fun h28 => ?_)
                exact hj23 h28
              · refine pr_ck (uo_io φ _ _ _) ?_
                refine pr_wr (pf_X12_lawLine φ _ _ _) (fun h29 => ?_)
                exact hj23 h29
        · refine pr_if ?_ ?_
          · exact hj30 (nI 14)
          · exact hj30 (nI 12)
      · rfl
set_option maxRecDepth 100000 in
set_option maxHeartbeats 4000000 in
theorem pf_X12_read (φ : Nat → Int64) (F : Nat) (x0 : Nat) (x1 : Int32) (h : ab_H) : fX12_read F x0 x1 (Uo φ h) = (fX12_read F x0 x1 h).map (fun y => (y.1, Uo φ y.2)) := by
  unfold fX12_read
  refine pr_ck (uo_io φ _ _ _) ?_
  refine pr_wr (pf_X12_skip φ _ _ _) (fun h1 => ?_)
  refine pr_rd (uo_fi φ _ _ _ _) (fun v2 => ?_)
  refine pr_rd (uo_fi φ _ _ _ _) (fun v3 => ?_)
  refine pr_if ?_ ?_
  · exact pf_X12_read_23 φ F x0 x1 F (nI 1) (nI 0) h1
  · exact pf_X12_read_23 φ F x0 x1 F (nI 0) (nI 0) h1
set_option maxRecDepth 100000 in
set_option maxHeartbeats 4000000 in
theorem pf_X12_door (φ : Nat → Int64) (F : Nat) (x0 : Nat) (h : ab_H) : fX12_door F x0 (Uo φ h) = (fX12_door F x0 h).map (fun y => (y.1, Uo φ y.2)) := by
  unfold fX12_door
  refine pr_ck (uo_io φ _ _ _) ?_
  refine pr_wr (pf_X12_putsAside φ _ _ _) (fun h1 => ?_)
  refine pr_ck (uo_io φ _ _ _) ?_
  refine pr_wr (pf_X12_begins φ _ _) (fun h2 => ?_)
  refine pr_ck (uo_io φ _ _ _) ?_
  refine pr_pr (pf_X12_read φ _ _ _ _) (fun v3 => ?_)
  refine pr_rd (uo_fi φ _ _ _ _) (fun v4 => ?_)
  refine pr_jn (fun j j' : Int32 → Option (Int32 × ab_H) => ∀ (z0_ : Int32), j z0_ = (j' z0_).map (fun y => (y.1, Uo φ y.2))) ?_ (fun j16 j16' hj16 => ?_)
  · intro z5
    refine pr_wr (uo_fw φ _ _ _ _ _) (fun h6 => ?_)
    refine pr_rd (uo_fi φ _ _ _ _) (fun v7 => ?_)
    refine pr_if ?_ ?_
    · refine pr_rd (uo_fr φ _ _ _ _) (fun v9 => ?_)
      refine pr_rd (uo_ia φ _ _ _ _) (fun v10 => ?_)
      refine pr_wr (uo_iw φ _ _ _ _ _) (fun h11 => ?_)
      refine pr_wr (uo_fw φ _ _ _ _ _) (fun h12 => ?_)
      refine pr_rd (uo_fr φ _ _ _ _) (fun v13 => ?_)
      refine pr_rd (uo_ia φ _ _ _ _) (fun v14 => ?_)
      rfl
    · refine pr_ck (uo_io φ _ _ _) ?_
      refine pr_wr (pf_X12_comesBack φ _ _ _) (fun h15 => ?_)
      rfl
  · refine pr_if ?_ ?_
    · refine pr_rd (uo_fr φ _ _ _ _) (fun v18 => ?_)
      refine pr_rd (uo_ia φ _ _ _ _) (fun v19 => ?_)
      refine pr_if ?_ ?_
      · exact hj16 (nI 2)
      · exact hj16 (nI 0)
    · exact hj16 (nI 1)
set_option maxRecDepth 100000 in
set_option maxHeartbeats 4000000 in
theorem pf_X12_law_55 (φ : Nat → Int64) (F : Nat) (x0 : Nat) (x1 : Int32) : ∀ (n : Nat) (x2 : Int32) (h : ab_H), fX12_law_55 F x0 x1 n x2 (Uo φ h) = (fX12_law_55 F x0 x1 n x2 h).map (fun y => (y.1, Uo φ y.2)) := by
  intro n
  induction n with
  | zero => intro x2 h; rfl
  | succ n ih =>
    intro x2 h
    rw [fX12_law_55, fX12_law_55]
    refine pr_rd (uo_fi φ _ _ _ _) (fun v13 => ?_)
    refine pr_if ?_ ?_
    · refine pr_rd (uo_fr φ _ _ _ _) (fun v15 => ?_)
      refine pr_rd (uo_fr φ _ _ _ _) (fun v16 => ?_)
      refine pr_rd (uo_ia φ _ _ _ _) (fun v17 => ?_)
      refine pr_wr (uo_iw φ _ _ _ _ _) (fun h18 => ?_)
      exact ih (x2 + nI 1) h18
    · refine pr_wr (uo_fw φ _ _ _ _ _) (fun h19 => ?_)
      rfl
set_option maxRecDepth 100000 in
set_option maxHeartbeats 4000000 in
theorem pf_X12_law (φ : Nat → Int64) (F : Nat) (x0 : Nat) (h : ab_H) : fX12_law F x0 (Uo φ h) = (fX12_law F x0 h).map (fun y => (y.1, Uo φ y.2)) := by
  unfold fX12_law
  refine pr_ck (uo_io φ _ _ _) ?_
  refine pr_wr (pf_X12_begins φ _ _) (fun h1 => ?_)
  refine pr_ck (uo_io φ _ _ _) ?_
  refine pr_pr (pf_X12_read φ _ _ _ _) (fun v2 => ?_)
  refine pr_rd (uo_fi φ _ _ _ _) (fun v3 => ?_)
  refine pr_jn (fun j j' : Int32 → Option (Int32 × ab_H) => ∀ (z0_ : Int32), j z0_ = (j' z0_).map (fun y => (y.1, Uo φ y.2))) ?_ (fun j20 j20' hj20 => ?_)
  · intro z4
    refine pr_wr (uo_fw φ _ _ _ _ _) (fun h5 => ?_)
    refine pr_rd (uo_fi φ _ _ _ _) (fun v6 => ?_)
    refine pr_if ?_ ?_
    · refine pr_rd (uo_fr φ _ _ _ _) (fun v8 => ?_)
      refine pr_wr (uo_iw φ _ _ _ _ _) (fun h9 => ?_)
      refine pr_rd (uo_fr φ _ _ _ _) (fun v10 => ?_)
      refine pr_rd (uo_fi φ _ _ _ _) (fun v11 => ?_)
      refine pr_wr (uo_iw φ _ _ _ _ _) (fun h12 => ?_)
      exact pf_X12_law_55 φ F x0 v2.1 F (nI 0) h12
    · rfl
  · refine pr_if ?_ ?_
    · exact hj20 (nI 0)
    · exact hj20 (nI 1)
set_option maxRecDepth 100000 in
set_option maxHeartbeats 4000000 in
theorem pf_X12_asks (φ : Nat → Int64) (F : Nat) (x0 : Nat) (x1 : Int32) (h : ab_H) : fX12_asks F x0 x1 (Uo φ h) = (fX12_asks F x0 x1 h).map (Uo φ) := by
  unfold fX12_asks
  refine pr_wr (uo_fw φ _ _ _ _ _) (fun h1 => ?_)
  refine pr_wr (uo_fw φ _ _ _ _ _) (fun h2 => ?_)
  refine pr_rd (uo_fr φ _ _ _ _) (fun v3 => ?_)
  refine pr_rd (uo_ia φ _ _ _ _) (fun v4 => ?_)
  refine pr_if ?_ ?_
  · rfl
  · refine pr_ck (uo_io φ _ _ _) ?_
    refine pr_rd ((pf_X12_of φ _ _ _ _).trans oid) (fun v6 => ?_)
    refine pr_ck (uo_io φ _ _ _) ?_
    refine pr_rd ((pf_X12_of φ _ _ _ _).trans oid) (fun v7 => ?_)
    refine pr_jn (fun j j' : Int32 → Option ab_H => ∀ (z0_ : Int32), j z0_ = (j' z0_).map (Uo φ)) ?_ (fun j56 j56' hj56 => ?_)
    · intro z8
      refine pr_rd (uo_fr φ _ _ _ _) (fun v9 => ?_)
      refine pr_wr (uo_iw φ _ _ _ _ _) (fun h10 => ?_)
      refine pr_rd (uo_fr φ _ _ _ _) (fun v11 => ?_)
      refine pr_rd (uo_fr φ _ _ _ _) (fun v12 => ?_)
      refine pr_rd (uo_ia φ _ _ _ _) (fun v13 => ?_)
      refine pr_wr (uo_iw φ _ _ _ _ _) (fun h14 => ?_)
      refine pr_rd (uo_fr φ _ _ _ _) (fun v15 => ?_)
      refine pr_jn (fun j j' : Int32 → Option ab_H => ∀ (z0_ : Int32), j z0_ = (j' z0_).map (Uo φ)) ?_ (fun j54 j54' hj54 => ?_)
      · intro z16
        refine pr_wr (uo_iw φ _ _ _ _ _) (fun h17 => ?_)
        refine pr_rd (uo_fr φ _ _ _ _) (fun v18 => ?_)
        refine pr_jn (fun j j' : Int32 → Option ab_H => ∀ (z0_ : Int32), j z0_ = (j' z0_).map (Uo φ)) ?_ (fun j50 j50' hj50 => ?_)
        · intro z19
          refine pr_wr (uo_iw φ _ _ _ _ _) (fun h20 => ?_)
          refine pr_rd (uo_fr φ _ _ _ _) (fun v21 => ?_)
          refine pr_ck (uo_io φ _ _ _) ?_
          refine pr_rd ((pf_X12_hung φ _ _ _).trans oid) (fun v22 => ?_)
          refine pr_wr (uo_iw φ _ _ _ _ _) (fun h23 => ?_)
          refine pr_rd (uo_fr φ _ _ _ _) (fun v24 => ?_)
          refine pr_rd (uo_fr φ _ _ _ _) (fun v25 => ?_)
          refine pr_rd (uo_ia φ _ _ _ _) (fun v26 => ?_)
          refine pr_ck (uo_io φ _ _ _) ?_
          refine pr_rd ((pf_X12_hung φ _ _ _).trans oid) (fun v27 => ?_)
          refine pr_wr (uo_iw φ _ _ _ _ _) (fun h28 => ?_)
          refine pr_jn (fun j j' : Int32 → Option ab_H => ∀ (z0_ : Int32), j z0_ = (j' z0_).map (Uo φ)) ?_ (fun j48 j48' hj48 => ?_)
          · intro z29
            refine pr_cb ?_
            refine pr_wr (uo_fw φ _ _ _ _ _) (fun h30 => ?_)
            refine pr_ck (uo_io φ _ _ _) ?_
            refine pr_rd ((pf_X12_of φ _ _ _ _).trans oid) (fun v31 => ?_)
            refine pr_jn (fun j j' : Int32 → Option ab_H => ∀ (z0_ : Int32), j z0_ = (j' z0_).map (Uo φ)) ?_ (fun j45 j45' hj45 => ?_)
            · intro z32
              refine pr_cb ?_
              refine pr_wr (uo_fw φ _ _ _ _ _) (fun h33 => ?_)
              refine pr_rd (uo_fi φ _ _ _ _) (fun v34 => ?_)
              refine pr_wr (uo_fw φ _ _ _ _ _) (fun h35 => ?_)
              refine pr_wr (uo_fw φ _ _ _ _ _) (fun h36 => ?_)
              refine pr_rd (uo_fr φ _ _ _ _) (fun v37 => ?_)
              refine pr_rd (uo_ia φ _ _ _ _) (fun v38 => ?_)
              refine pr_wr (uo_fw φ _ _ _ _ _) (fun h39 => ?_)
              refine pr_wr (uo_fw φ _ _ _ _ _) (fun h40 => ?_)
              refine pr_wr (uo_fw φ _ _ _ _ _) (fun h41 => ?_)
              refine pr_ck (uo_io φ _ _ _) ?_
              refine pr_pr (pf_X12_read φ _ _ _ _) (fun v42 => ?_)
              refine pr_wr (uo_fw φ _ _ _ _ _) (fun h43 => ?_)
              rfl
            · refine pr_if ?_ ?_
              · exact hj45 (nI 0)
              · exact hj45 (nI 1)
          · refine pr_if ?_ ?_
            · exact hj48 (nI 1)
            · exact hj48 (nI 0)
        · refine pr_if ?_ ?_
          · exact hj50 (nI 0)
          · refine pr_ck (uo_io φ _ _ _) ?_
            refine pr_rd ((pf_X12_of φ _ _ _ _).trans oid) (fun v52 => ?_)
            refine pr_rd ((pf_X12_bits φ _ _ _).trans oid) (fun v53 => ?_)
            exact hj50 v53
      · refine pr_if ?_ ?_
        · exact hj54 (nI 99)
        · exact hj54 v6
    · refine pr_if ?_ ?_
      · refine pr_if ?_ ?_
        · exact hj56 (-1 : Int32)
        · refine pr_rd (uo_fr φ _ _ _ _) (fun v59 => ?_)
          refine pr_rd (uo_ia φ _ _ _ _) (fun v60 => ?_)
          exact hj56 v60
      · refine pr_ck (uo_io φ _ _ _) ?_
        refine pr_rd ((pf_X12_of φ _ _ _ _).trans oid) (fun v61 => ?_)
        exact hj56 v61
set_option maxRecDepth 100000 in
set_option maxHeartbeats 4000000 in
theorem pf_X12_hour_4 (φ : Nat → Int64) (F : Nat) (x0 : Nat) {k124 k124' : Int32 → ab_H → Option (Int32 × ab_H)} (hk124 : ∀ (z0_ : Int32) (z1_ : ab_H), k124 z0_ (Uo φ z1_) = (k124' z0_ z1_).map (fun y => (y.1, Uo φ y.2))) : ∀ (n : Nat) (x1 : Int32) (x2 : Int32) (h : ab_H), fX12_hour_4 F x0 k124 n x1 x2 (Uo φ h) = (fX12_hour_4 F x0 k124' n x1 x2 h).map (fun y => (y.1, Uo φ y.2)) := by
  intro n
  induction n with
  | zero => intro x1 x2 h; rfl
  | succ n ih =>
    intro x1 x2 h
    rw [fX12_hour_4, fX12_hour_4]
    refine pr_rd (uo_fr φ _ _ _ _) (fun v1 => ?_)
    refine pr_rd (uo_ia φ _ _ _ _) (fun v2 => ?_)
    refine pr_if ?_ ?_
    · refine pr_ck (uo_io φ _ _ _) ?_
      refine pr_rd ((pf_X12_of φ _ _ _ _).trans oid) (fun v4 => ?_)
      refine pr_jn (fun j j' : Int32 → Option (Int32 × ab_H) => ∀ (z0_ : Int32), j z0_ = (j' z0_).map (fun y => (y.1, Uo φ y.2))) ?_ (fun j24 j24' hj24 => ?_)
      · intro z5
        refine pr_ck (uo_io φ _ _ _) ?_
        refine pr_rd ((pf_X12_of φ _ _ _ _).trans oid) (fun v6 => ?_)
        refine pr_jn (fun j j' : Int32 → Option (Int32 × ab_H) => ∀ (z0_ : Int32), j z0_ = (j' z0_).map (fun y => (y.1, Uo φ y.2))) ?_ (fun j22 j22' hj22 => ?_)
        · intro z7
          refine pr_if ?_ ?_
          · exact ih x1 (x2 + nI 1) h
          · refine pr_ck (uo_io φ _ _ _) ?_
            refine pr_wr (pf_X12_asks φ _ _ _ _) (fun h9 => ?_)
            refine pr_jn (fun j j' : Option (Int32 × ab_H) => j = (j').map (fun y => (y.1, Uo φ y.2))) ?_ (fun j14 j14' hj14 => ?_)
            · refine pr_if ?_ ?_
              · refine pr_rd (uo_fi φ _ _ _ _) (fun v11 => ?_)
                refine pr_if ?_ ?_
                · exact ih x1 (x2 + nI 1) h9
                · refine pr_ck (uo_io φ _ _ _) ?_
                  refine pr_pr (pf_X12_gets φ _ _ _ _) (fun v13 => ?_)
                  exact ih (x1 + nI 1) (x2 + nI 1) v13.2
              · exact ih x1 (x2 + nI 1) h9
            · refine pr_if ?_ ?_
              · exact hj14
              · refine pr_rd (uo_fi φ _ _ _ _) (fun v16 => ?_)
                refine pr_if ?_ ?_
                · exact hj14
                · refine pr_ck (uo_io φ _ _ _) ?_
                  refine pr_rd ((pf_X12_freeHook φ _ _ _).trans oid) (fun v18 => ?_)
                  refine pr_if ?_ ?_
                  · exact hj14
                  · refine pr_ck (uo_io φ _ _ _) ?_
                    refine pr_rd ((pf_X12_freeHook φ _ _ _).trans oid) (fun v20 => ?_)
                    refine pr_ck (uo_io φ _ _ _) ?_
                    refine pr_pr (pf_X12_handsIn φ _ _ _ _ _) (fun v21 => ?_)
                    exact ih (x1 + nI 1) (x2 + nI 1) v21.2
        · refine pr_if ?_ ?_
          · exact hj22 (nI 0)
          · exact hj22 (nI 1)
      · refine pr_if ?_ ?_
        · exact hj24 (nI 0)
        · exact hj24 (nI 1)
    · exact hk124 x1 h
set_option maxRecDepth 100000 in
set_option maxHeartbeats 4000000 in
theorem pf_X12_hour (φ : Nat → Int64) (F : Nat) (x0 : Nat) (h : ab_H) : fX12_hour F x0 (Uo φ h) = (fX12_hour F x0 h).map (fun y => (y.1, Uo φ y.2)) := by
  unfold fX12_hour
  refine pf_X12_hour_4 φ F x0 (fun z26 h27 => ?_) F (nI 0) (nI 0) h
  · refine pr_ck (uo_io φ _ _ _) ?_
    refine pr_pr (pf_X12_draw φ _ _ _) (fun v28 => ?_)
    refine pr_rd (uo_fr φ _ _ _ _) (fun v29 => ?_)
    refine pr_rd (uo_ia φ _ _ _ _) (fun v30 => ?_)
    refine pr_jn (fun j j' : Int32 → Option (Int32 × ab_H) => ∀ (z0_ : Int32), j z0_ = (j' z0_).map (fun y => (y.1, Uo φ y.2))) ?_ (fun j55 j55' hj55 => ?_)
    · intro z31
      refine pr_ck (uo_io φ _ _ _) ?_
      refine pr_rd ((pf_X12_holders φ _ _ _).trans oid) (fun v32 => ?_)
      refine pr_rd ((pf_X12_bits φ _ _ _).trans oid) (fun v33 => ?_)
      refine pr_jn (fun j j' : ab_H → Option (Int32 × ab_H) => ∀ (z0_ : ab_H), j (Uo φ z0_) = (j' z0_).map (fun y => (y.1, Uo φ y.2))) ?_ (fun j47 j47' hj47 => ?_)
      · intro h34
        refine pr_ck (uo_io φ _ _ _) ?_
        refine pr_pr (pf_X12_draw φ _ _ _) (fun v35 => ?_)
        refine pr_rd (uo_fr φ _ _ _ _) (fun v36 => ?_)
        refine pr_rd (uo_ia φ _ _ _ _) (fun v37 => ?_)
        refine pr_jn (fun j j' : ab_H → Option (Int32 × ab_H) => ∀ (z0_ : ab_H), j (Uo φ z0_) = (j' z0_).map (fun y => (y.1, Uo φ y.2))) ?_ (fun j42 j42' hj42 => ?_)
        · intro h38
          refine pr_rd (uo_fr φ _ _ _ _) (fun v39 => ?_)
          refine pr_rd (uo_ia φ _ _ _ _) (fun v40 => ?_)
          refine pr_wr (uo_iw φ _ _ _ _ _) (fun h41 => ?_)
          rfl
        · refine pr_if ?_ ?_
          · refine pr_ck (uo_io φ _ _ _) ?_
            refine pr_rd ((pf_X12_hung φ _ _ _).trans oid) (fun v44 => ?_)
            refine pr_if ?_ ?_
            · exact hj42 v35.2
            · refine pr_ck (uo_io φ _ _ _) ?_
              refine pr_wr (pf_X12_robs φ _ _ _) (fun h46 => ?_)
              exact hj42 h46
          · exact hj42 v35.2
      · refine pr_if ?_ ?_
        · exact hj47 v28.2
        · refine pr_if ?_ ?_
          · exact hj47 v28.2
          · refine pr_ck (uo_io φ _ _ _) ?_
            refine pr_pr (pf_X12_draw φ _ _ _) (fun v50 => ?_)
            refine pr_ck (uo_io φ _ _ _) ?_
            refine pr_rd ((pf_X12_holder φ _ _ _ _ _).trans oid) (fun v51 => ?_)
            refine pr_ck (uo_io φ _ _ _) ?_
            refine pr_pr (pf_X12_draw φ _ _ _) (fun v52 => ?_)
            refine pr_ck (uo_io φ _ _ _) ?_
            refine pr_rd ((pf_X12_holder φ _ _ _ _ _).trans oid) (fun v53 => ?_)
            refine pr_ck (uo_io φ _ _ _) ?_
            refine pr_wr (pf_X12_mixes φ _ _ _ _ _) (fun h54 => ?_)
            exact hj47 h54
    · refine pr_if ?_ ?_
      · exact hj55 (nI 1)
      · exact hj55 (nI 0)
set_option maxRecDepth 100000 in
set_option maxHeartbeats 4000000 in
theorem pf_X12_goes_4 (φ : Nat → Int64) (F : Nat) (x0 : Nat) (x1 : Int32) : ∀ (n : Nat) (x2 : Int32) (x3 : Int32) (h : ab_H), fX12_goes_4 F x0 x1 n x2 x3 (Uo φ h) = (fX12_goes_4 F x0 x1 n x2 x3 h).map (fun y => (y.1, Uo φ y.2)) := by
  intro n
  induction n with
  | zero => intro x2 x3 h; rfl
  | succ n ih =>
    intro x2 x3 h
    rw [fX12_goes_4, fX12_goes_4]
    refine pr_if ?_ ?_
    · refine pr_ck (uo_io φ _ _ _) ?_
      refine pr_pr (pf_X12_hour φ _ _ _) (fun v2 => ?_)
      exact ih (x2 + v2.1) (x3 + nI 1) v2.2
    · rfl
set_option maxRecDepth 100000 in
set_option maxHeartbeats 4000000 in
theorem pf_X12_goes (φ : Nat → Int64) (F : Nat) (x0 : Nat) (x1 : Int32) (h : ab_H) : fX12_goes F x0 x1 (Uo φ h) = (fX12_goes F x0 x1 h).map (fun y => (y.1, Uo φ y.2)) := by
  unfold fX12_goes
  exact pf_X12_goes_4 φ F x0 x1 F (nI 0) (nI 0) h
set_option maxRecDepth 100000 in
set_option maxHeartbeats 4000000 in
theorem pf_X12_hours (φ : Nat → Int64) (F : Nat) (x0 : Nat) (x1 : Int32) (h : ab_H) : fX12_hours F x0 x1 (Uo φ h) = (fX12_hours F x0 x1 h).map (fun y => (y.1, Uo φ y.2)) := by
  unfold fX12_hours
  refine pr_rd ((pf_X12_isIn φ _ _ _ _).trans oid) (fun v1 => ?_)
  refine pr_jn (fun j j' : Int32 → Option (Int32 × ab_H) => ∀ (z0_ : Int32), j z0_ = (j' z0_).map (fun y => (y.1, Uo φ y.2))) ?_ (fun j8 j8' hj8 => ?_)
  · intro z2
    refine pr_wr (uo_fw φ _ _ _ _ _) (fun h3 => ?_)
    refine pr_rd (uo_fi φ _ _ _ _) (fun v4 => ?_)
    refine pr_if ?_ ?_
    · refine pr_ck (uo_io φ _ _ _) ?_
      refine pr_wr (pf_X12_remembers φ _ _ _) (fun h6 => ?_)
      refine pr_ck (uo_io φ _ _ _) ?_
      refine pr_pr (pf_X12_goes φ _ _ _ _) (fun v7 => ?_)
      rfl
    · rfl
  · refine pr_if ?_ ?_
    · exact hj8 (nI 1)
    · exact hj8 (nI 0)
set_option maxRecDepth 100000 in
set_option maxHeartbeats 4000000 in
theorem pf_X12_tries (φ : Nat → Int64) (F : Nat) (x0 : Nat) (x1 : Int32) (h : ab_H) : fX12_tries F x0 x1 (Uo φ h) = (fX12_tries F x0 x1 h).map (fun y => (y.1, Uo φ y.2)) := by
  unfold fX12_tries
  refine pr_ck (uo_io φ _ _ _) ?_
  refine pr_pr (pf_X12_goes φ _ _ _ _) (fun v1 => ?_)
  refine pr_ck (uo_io φ _ _ _) ?_
  refine pr_rd ((pf_X12_wrongs φ _ _ _).trans oid) (fun v2 => ?_)
  refine pr_rd ((pf_X12_bits φ _ _ _).trans oid) (fun v3 => ?_)
  refine pr_ck (uo_io φ _ _ _) ?_
  refine pr_wr (pf_X12_comesBack φ _ _ _) (fun h4 => ?_)
  rfl
set_option maxRecDepth 100000 in
set_option maxHeartbeats 4000000 in
theorem pf_X12_trial (φ : Nat → Int64) (F : Nat) (x0 : Nat) (x1 : Int32) (h : ab_H) : fX12_trial F x0 x1 (Uo φ h) = (fX12_trial F x0 x1 h).map (fun y => (y.1, Uo φ y.2)) := by
  unfold fX12_trial
  refine pr_rd ((pf_X12_isIn φ _ _ _ _).trans oid) (fun v1 => ?_)
  refine pr_jn (fun j j' : Int32 → Option (Int32 × ab_H) => ∀ (z0_ : Int32), j z0_ = (j' z0_).map (fun y => (y.1, Uo φ y.2))) ?_ (fun j8 j8' hj8 => ?_)
  · intro z2
    refine pr_wr (uo_fw φ _ _ _ _ _) (fun h3 => ?_)
    refine pr_rd (uo_fi φ _ _ _ _) (fun v4 => ?_)
    refine pr_if ?_ ?_
    · refine pr_ck (uo_io φ _ _ _) ?_
      refine pr_wr (pf_X12_putsAside φ _ _ _) (fun h6 => ?_)
      refine pr_ck (uo_io φ _ _ _) ?_
      refine pr_pr (pf_X12_tries φ _ _ _ _) (fun v7 => ?_)
      rfl
    · rfl
  · refine pr_if ?_ ?_
    · exact hj8 (nI 1)
    · exact hj8 (nI 0)
set_option maxRecDepth 100000 in
set_option maxHeartbeats 4000000 in
theorem pf_X12_span_37 (φ : Nat → Int64) (F : Nat) (x0 : Nat) (x1 : Int32) (x2 : Int32) : ∀ (n : Nat) (x3 : Int32) (x4 : Int32) (h : ab_H), fX12_span_37 F x0 x1 x2 n x3 x4 (Uo φ h) = (fX12_span_37 F x0 x1 x2 n x3 x4 h).map (fun y => (y.1, Uo φ y.2)) := by
  intro n
  induction n with
  | zero => intro x3 x4 h; rfl
  | succ n ih =>
    intro x3 x4 h
    rw [fX12_span_37, fX12_span_37]
    refine pr_if ?_ ?_
    · refine pr_rd (uo_fr φ _ _ _ _) (fun v8 => ?_)
      refine pr_wr (uo_iw φ _ _ _ _ _) (fun h9 => ?_)
      refine pr_ck (uo_io φ _ _ _) ?_
      refine pr_pr (pf_X12_tries φ _ _ _ _) (fun v10 => ?_)
      refine pr_if ?_ ?_
      · exact ih v10.1 (x4 + nI 1) v10.2
      · refine pr_if ?_ ?_
        · refine pr_rd ((pf_X12_lesser φ _ _ _).trans oid) (fun v13 => ?_)
          exact ih v13 (x4 + nI 1) v10.2
        · refine pr_rd ((pf_X12_greater φ _ _ _).trans oid) (fun v14 => ?_)
          exact ih v14 (x4 + nI 1) v10.2
    · rfl
set_option maxRecDepth 100000 in
set_option maxHeartbeats 4000000 in
theorem pf_X12_span (φ : Nat → Int64) (F : Nat) (x0 : Nat) (x1 : Int32) (x2 : Int32) (h : ab_H) : fX12_span F x0 x1 x2 (Uo φ h) = (fX12_span F x0 x1 x2 h).map (fun y => (y.1, Uo φ y.2)) := by
  unfold fX12_span
  refine pr_rd ((pf_X12_isIn φ _ _ _ _).trans oid) (fun v1 => ?_)
  refine pr_jn (fun j j' : Int32 → Option (Int32 × ab_H) => ∀ (z0_ : Int32), j z0_ = (j' z0_).map (fun y => (y.1, Uo φ y.2))) ?_ (fun j15 j15' hj15 => ?_)
  · intro z2
    refine pr_wr (uo_fw φ _ _ _ _ _) (fun h3 => ?_)
    refine pr_rd (uo_fi φ _ _ _ _) (fun v4 => ?_)
    refine pr_if ?_ ?_
    · refine pr_ck (uo_io φ _ _ _) ?_
      refine pr_wr (pf_X12_putsAside φ _ _ _) (fun h6 => ?_)
      exact pf_X12_span_37 φ F x0 x1 x2 F (-1 : Int32) (nI 1) h6
    · rfl
  · refine pr_if ?_ ?_
    · exact hj15 (nI 1)
    · exact hj15 (nI 0)
