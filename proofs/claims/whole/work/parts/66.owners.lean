/-! ===== the OWNERS that can be, by all that is SAID ===== -/
theorem alw_x {sa sb sc : Nat → Nat} {x y : Int32} {M : Nat → Int32} : ∀ z, (∀ i, i < z → bt x i = bt y i) → alw sa sb sc x M z = alw sa sb sc y M z
  | 0, _ => rfl
  | z + 1, h => by
    rw [alw_S, alw_S, alw_x z (fun i hi => h i (by omega)), h z (by omega)]
theorem bt_all : ∀ z, z < 13 → ∀ i, i < 12 → i < z → bt (nI (2 ^ z - 1)) i = true := by decide
theorem bt_4095 : ∀ i, i < 12 → bt (nI 4095) i = true := by decide
/-- whom all that is SAID allows -/
def al0 (sa sb sc : Nat → Nat) (n z : Nat) : Nat → Int32 := alw sa sb sc (nI 4095) (fun _ => nI (2 ^ n - 1)) z
theorem cl_allowAll {g : gG} {n z : Nat} {sa sb sc : Nat → Nat} (S : Sd g n z sa sb sc) (h10 : n ≤ 10) {F : Nat} (hF : 11000 < F) : ∃ W, fX7_allowBy F 196 (nI (2 ^ z - 1)) (gH g) = some (gH (sA g 200 W)) ∧ ∀ p, p < n → W p = al0 sa sb sc n z p := by
  refine ⟨_, cl_allowBy S h10 _ hF, fun p hp => ?_⟩
  obtain ⟨z12, _, _, _, hd⟩ := S
  have e := alw_x (sa := sa) (sb := sb) (sc := sc) (x := nI (2 ^ z - 1)) (y := nI 4095) (M := fun q => if q < 10 then nI (2 ^ n - 1) else gA g 200 q) z (fun i hi => by rw [bt_all z (by omega) i (by omega) hi, bt_4095 i (by omega)])
  rw [e]
  exact alw_cg (n := n) (fun i hi => (hd i hi).1) (fun p hp => if_pos (by omega)) z (Nat.le_refl _) p hp
