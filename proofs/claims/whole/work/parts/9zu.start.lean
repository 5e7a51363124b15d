/-! ===== what the Statement gives at the start (by program, gen_start.py) ===== -/
def tmS (k : Nat) : Term := Term.string (ab_sr.getD k ("", 0, "", 0)).1 (ab_sr.getD k ("", 0, "", 0)).2.1
def cS (t : Term) (n : Nat) (bs : List Int32) : List Cond := [Cond.exactly t "java/lang/String", Cond.eq (.field t "java/lang/String" "coder" "B") (.int 0), Cond.arrayOf (.field t "java/lang/String" "value" "[B") .byte, Cond.eq (.length (.field t "java/lang/String" "value" "[B")) (.int (Int32.ofNat n))] ++ (List.range n).map (fun j => Cond.eq (.elem (.field t "java/lang/String" "value" "[B") (.int (Int32.ofNat j))) (.int (bs.getD j 0)))
set_option maxRecDepth 100000 in
theorem st_nar : (flatC (Jvm.Cond.and given_1 narrow_1)).drop 91 = (List.range 41).flatMap (fun k => cS (tmS k) (ab_len.getD k 0) (ab_byt.getD k [])) := by decide +kernel
theorem st_str {args : Array Value} {s : State} (hg : (Jvm.Cond.and given_1 narrow_1).before args s = true) {k : Nat} (hk : k < 41) : ∀ w ∈ cS (tmS k) (ab_len.getD k 0) (ab_byt.getD k []), w.before args s = true := fun w hw => flat_of_before _ hg w (List.mem_of_mem_drop (i := 91) (by rw [st_nar]; exact List.mem_flatMap.mpr ⟨k, List.mem_range.mpr hk, hw⟩))
theorem st_len : ∀ k, k < 41 → ab_len.getD k 0 < 2 ^ 31 := by decide
theorem st_S {args : Array Value} {s : State} {A : Nat → Prop} (hA : ∀ a : Nat, a < s.heap.size → ¬ A a) (hg : (Jvm.Cond.and given_1 narrow_1).before args s = true) {k : Nat} (hk : k < 41) : ∃ q : Nat × Nat, vk_S 1 [ab_len.getD k 0] [ab_byt.getD k []] (fun _ => q.1) (fun _ => q.2) A s s.heap ∧ (tmS k).eval args s none [] s = some (.ref q.1) := by
  have h := st_str hg hk
  have hn := st_len k hk
  generalize ab_len.getD k 0 = n at h hn ⊢
  generalize ab_byt.getD k [] = bs at h ⊢
  have z : ∀ {i : Nat}, i < 1 → i = 0 := fun h => Nat.lt_one_iff.mp h
  obtain ⟨adK, adV, h1, h2⟩ := vk_Sof (args := args) (s := s) (N := 1) (tm := fun _ => tmS k) (len := [n]) (byt := [bs]) (A := A) (fun i hi => by rw [z hi]; exact hn) (fun i hi => h _ (by unfold cS; exact List.mem_append_left _ List.mem_cons_self)) (fun i hi => h _ (by unfold cS; exact List.mem_append_left _ (List.mem_cons_of_mem _ List.mem_cons_self))) (fun i hi => h _ (by unfold cS; exact List.mem_append_left _ (List.mem_cons_of_mem _ (List.mem_cons_of_mem _ List.mem_cons_self)))) (fun i hi => by rw [z hi]; exact h _ (by unfold cS; exact List.mem_append_left _ (List.mem_cons_of_mem _ (List.mem_cons_of_mem _ (List.mem_cons_of_mem _ List.mem_cons_self))))) (fun i hi j hj => by rw [z hi] at hj ⊢; exact h _ (by unfold cS; exact List.mem_append_right _ (List.mem_map.mpr ⟨j, List.mem_range.mpr hj, rfl⟩))) (fun i j hi hj hne => absurd ((z hi).trans (z hj).symm) hne) hA
  exact ⟨(adK 0, adV 0), ⟨fun i hi => by rw [z hi]; exact h1.1 0 (by decide), fun i j hi hj _ => (z hi).trans (z hj).symm⟩, h2 0 (by decide)⟩
set_option maxRecDepth 100000 in
theorem st_nm : ∀ q ∈ ab_nm, Cond.methodLinkNest q.1 q.2.1 q.2.2.1 q.2.2.2 ∈ tables_1 := by decide +kernel
set_option maxRecDepth 100000 in
theorem st_sr : ∀ k, k < 41 → Cond.stringRef (ab_sr.getD k ("", 0, "", 0)).1 (ab_sr.getD k ("", 0, "", 0)).2.1 (ab_sr.getD k ("", 0, "", 0)).2.2.1 ∈ tables_1 := by decide +kernel
theorem st_srk : ∀ q ∈ ab_sr, q.2.2.2 < 41 ∧ ab_sr.getD q.2.2.2 ("", 0, "", 0) = q := by decide +kernel
set_option maxRecDepth 100000 in
theorem st_dc : ∀ q ∈ ab_dc, Cond.declares q ∈ tables_1 := by decide +kernel
set_option maxRecDepth 100000 in
theorem st_ca : ∀ q ∈ ab_ca, Cond.castable q.1 q.2 ∈ tables_1 := by decide +kernel
set_option maxRecDepth 100000 in
theorem st_nc : ∀ q ∈ ab_nc, Cond.not (.castable q.1 q.2) ∈ flatC (Jvm.Cond.and given_1 narrow_1) := by decide +kernel
theorem st_on {w : Cond} (h : w ∈ tables_1) : w ∈ lw_tbl := List.mem_append_right _ h
theorem st_K {args : Array Value} {s : State} (hts : ∀ w ∈ lw_tbl, w.before args s = true) : ∃ (dC : Nat → ClassId) (dI : Nat → Nat → Nat) (dA : Nat → ClassId), va_K (dC, dI) ab_cl (ab_ty dA) s := by
  have hab : ∀ w ∈ ab_tb, w.before args s = true := fun w hw => hts w (List.mem_filter.mp hw).1
  obtain ⟨c0, i0, k0⟩ := u_known (C := RX0) (T := TX0) (N := 5) (n := 5) hab uwX0 (hab _ kw_c32a25656b)
  obtain ⟨c1, i1, k1⟩ := u_known (C := RX1) (T := TX1) (N := 7) (n := 7) hab uwX1 (hab _ kw_c94e1a1a8b)
  obtain ⟨c2, i2, k2⟩ := u_known (C := RX2) (T := TX2) (N := 3) (n := 3) hab uwX2 (hab _ kw_94bfbe3342)
  obtain ⟨c3, i3, k3⟩ := u_known (C := RX3) (T := TX3) (N := 6) (n := 6) hab uwX3 (hab _ kw_d368eafe48)
  obtain ⟨c4, i4, k4⟩ := u_known (C := RX4) (T := TX4) (N := 3) (n := 3) hab uwX4 (hab _ kw_30b1a15709)
  obtain ⟨c5, i5, k5⟩ := u_known (C := RX5) (T := TX5) (N := 2) (n := 2) hab uwX5 (hab _ kw_e396ef81f0)
  obtain ⟨c6, i6, k6⟩ := u_known (C := RX6) (T := TX6) (N := 3) (n := 3) hab uwX6 (hab _ kw_4f09a742d1)
  obtain ⟨c7, i7, k7⟩ := u_known (C := RX7) (T := TX7) (N := 9) (n := 9) hab uwX7 (hab _ kw_e0c74b5556)
  obtain ⟨c8, i8, k8⟩ := u_known (C := RX8) (T := TX8) (N := 18) (n := 18) hab uwX8 (hab _ kw_2c41f44828)
  obtain ⟨c9, i9, k9⟩ := u_known (C := RX9) (T := TX9) (N := 2) (n := 2) hab uwX9 (hab _ kw_3717d64de8)
  obtain ⟨c11, i11, k11⟩ := u_known (C := RX11) (T := TX11) (N := 11) (n := 11) hab uwX11 (hab _ kw_79188535fa)
  obtain ⟨c12, i12, k12⟩ := u_known (C := RX12) (T := TX12) (N := 26) (n := 26) hab uwX12 (hab _ kw_58c50cec89)
  obtain ⟨a0, b0, e0, f0, g0, h0⟩ := Cond.arrayClass_spec (hab _ kw_b5d2f4680e)
  obtain ⟨a1, b1, e1, f1, g1, h1⟩ := Cond.arrayClass_spec (hab _ kw_c205ee8a62)
  obtain ⟨a2, b2, e2, f2, g2, h2⟩ := Cond.arrayClass_spec (hab _ kw_93b502cba4)
  obtain ⟨m3, a3, b3, f3, _, g3, h3, q3⟩ := Cond.arrayOver_spec (hts (Cond.arrayOver (.object "HungFaces$State")) (st_on (by decide +kernel)))
  refine ⟨fun k => [c0, c1, c2, c3, c4, c5, c6, c7, c8, c9, c9, c11, c12].getD k c0, fun k => [i0, i1, i2, i3, i4, i5, i6, i7, i8, i9, i9, i11, i12].getD k i0, fun k => [a0, a1, a2, a3].getD k a0, fun k q hq => ?_, fun k q hq => ?_⟩
  · match k, hq with
    | 0, hq => cases hq; exact k0
    | 1, hq => cases hq; exact k1
    | 2, hq => cases hq; exact k2
    | 3, hq => cases hq; exact k3
    | 4, hq => cases hq; exact k4
    | 5, hq => cases hq; exact k5
    | 6, hq => cases hq; exact k6
    | 7, hq => cases hq; exact k7
    | 8, hq => cases hq; exact k8
    | 9, hq => cases hq; exact k9
    | 10, hq => cases hq; exact k9
    | 11, hq => cases hq; exact k11
    | 12, hq => cases hq; exact k12
    | k + 13, hq => exact absurd hq (by simp [ab_cl])
  · match k, hq with
    | 0, hq => cases hq; exact ⟨fun N z => ⟨(fun k h => by cases h), b0, g0, e0, h0⟩, f0⟩
    | 1, hq => cases hq; exact ⟨fun N z => ⟨(fun k h => by cases h), b1, g1, e1, h1⟩, f1⟩
    | 2, hq => cases hq; exact ⟨fun N z => ⟨(fun k h => by cases h), b2, g2, e2, h2⟩, f2⟩
    | 3, hq => cases hq; exact ⟨fun N z => ⟨(fun k h => by cases h), b3, g3, m3, h3⟩, b3, m3, g3, h3, f3, q3⟩
    | k + 4, hq => exact absurd hq (by simp [ab_ty])
def adF (b t3 : Nat) (ad : Nat → Nat × Nat) (i : Nat) : Nat := if i = ab_SB + 5000 then b else if i = ab_SB + 3000 then t3 else if ab_SB + 1000 ≤ i then (ad (i - (ab_SB + 1000))).2 else (ad (i - ab_SB)).1
theorem st_GW {b : Nat} {s : State} (hts : ∀ w ∈ lw_tbl, w.before #[Value.ref b] s = true) (hg : (Jvm.Cond.and given_1 narrow_1).before #[Value.ref b] s = true) : ∃ ad0 : Nat → Nat, ad0 (ab_SB + 5000) = b ∧ ab_GW ad0 (fun q => s.heap.size ≤ q) s s.heap := by
  have hA : ∀ a : Nat, a < s.heap.size → ¬ (fun q => s.heap.size ≤ q) a := fun a h => Nat.not_le.mpr h
  have h0 : ∀ k : Nat, ∃ q : Nat × Nat, k < 41 → vk_S 1 [ab_len.getD k 0] [ab_byt.getD k []] (fun _ => q.1) (fun _ => q.2) (fun q => s.heap.size ≤ q) s s.heap ∧ (tmS k).eval #[Value.ref b] s none [] s = some (.ref q.1) := by
    intro k
    by_cases hk : k < 41
    · obtain ⟨q, hq⟩ := st_S hA hg hk
      exact ⟨q, fun _ => hq⟩
    · exact ⟨(0, 0), fun h => absurd h hk⟩
  obtain ⟨ad, had⟩ := Classical.axiomOfChoice h0
  have hf := flat_of_before _ hg
  obtain ⟨t3, ht3⟩ : ∃ t3 : Nat, va_Z "jdk/internal/util/Preconditions" "SIOOBE_FORMATTER" "Ljava/util/function/BiFunction;" .null (fun q => s.heap.size ≤ q) s s.heap ∨ va_Z "jdk/internal/util/Preconditions" "SIOOBE_FORMATTER" "Ljava/util/function/BiFunction;" (.ref t3) (fun q => s.heap.size ≤ q) s s.heap := by
    rcases va_Zqof (C := "jdk/internal/util/Preconditions") (n := "SIOOBE_FORMATTER") (d := "Ljava/util/function/BiFunction;") (hts _ (st_on (by decide +kernel))) (hts _ (st_on (by decide +kernel))) (hf _ (by decide +kernel)) hA with h | ⟨t, h⟩
    · exact ⟨0, Or.inl h⟩
    · exact ⟨t, Or.inr h⟩
  refine ⟨adF b t3 ad, if_pos rfl, ?_⟩
  have e1 : ∀ k, k < 41 → adF b t3 ad (ab_SB + k) = (ad k).1 := fun k hk => by
    unfold adF
    rw [if_neg (by omega), if_neg (by omega), if_neg (by omega), Nat.add_sub_cancel_left]
  have e2 : ∀ k, k < 41 → adF b t3 ad (ab_SB + 1000 + k) = (ad k).2 := fun k hk => by
    unfold adF
    rw [if_neg (by omega), if_neg (by omega), if_pos (by omega), Nat.add_sub_cancel_left]
  have e3 : adF b t3 ad (ab_SB + 3000) = t3 := by
    unfold adF
    rw [if_neg (by omega), if_pos rfl]
  refine ⟨fun q hq => va_Nw.of rfl (hts _ (st_on (st_nm q hq))), fun q hq => ?_, fun k hk => ?_, ?_, ?_, ?_, ?_, fun q hq => va_Nw.of rfl (hts _ (st_on (st_dc q hq))), fun q hq => va_Nw.of rfl (hts _ (st_on (st_ca q hq))), fun q hq => va_Nc.of (hf _ (st_nc q hq)), va_AO.of (hts _ (st_on (by decide +kernel)))⟩
  · obtain ⟨h1, h2⟩ := st_srk q hq
    have h3 := st_sr _ h1
    have h4 := (had _ h1).2
    unfold tmS at h4
    rw [h2] at h3 h4
    rw [e1 _ h1]
    exact vk_R.of (hts _ (st_on h3)) h4
  · have hk : k < 41 := hk
    have h1 := (had k hk).1
    rw [e1 k hk, e2 k hk]
    exact h1
  · exact vx_Zqof (C := Bundle.tN) (n := "UNASSIGNED_STACK") (d := Bundle.steD) (hts _ (st_on (by decide +kernel))) (hts _ (st_on (by decide +kernel))) (hf _ (by decide +kernel)) hA
  · exact vx_Zqof (C := Bundle.tN) (n := "SUPPRESSED_SENTINEL") (d := Bundle.listD) (hts _ (st_on (by decide +kernel))) (hts _ (st_on (by decide +kernel))) (hf _ (by decide +kernel)) hA
  · exact va_Zof (hts _ (st_on (by decide +kernel))) (hts _ (st_on (by decide +kernel))) (va_eqt (hf (Cond.eq (.static "java/lang/String" "COMPACT_STRINGS" "Z") (.int 1)) (by decide +kernel))) hA
  · rcases ht3 with h | h
    · exact Or.inl h
    · refine Or.inr ?_
      rw [e3]
      exact h
theorem whole_start {p : Program} {e : Env} {s : State} {m : MethodId} {below : List Frame} {meth : Method} {c : Code} (l : Launch) (hst : l.stackTraces = false) {b L : Nat} {xs : Nat → Int32} (hL : L ≤ 3072) (hnm : meth.name = x.name) (htab : ∀ y ∈ c.exceptionTable.toList, False) (C0 : lw_At p s m meth c b L xs) : W p l e room_1 s m #[Value.ref b] below meth c s.heap [] 0 0 (lw_Z below #[Value.ref b] s) (entryFrame m ([Value.ref b] : List Value).toArray 7) := by
  obtain ⟨hx, hb, hr, hml, hown, hts, hX, hbl, hlocks, hgv⟩ := C0
  obtain ⟨dC, dI, dA, hK⟩ := st_K hts
  obtain ⟨ad0, hb0, hG⟩ := st_GW hts hgv
  have hE := lv_entry ([.ref b]) (n := 7) (Nat.le_of_ble_eq_true rfl)
  rw [lg_entry_eq]
  generalize (lg_sl ([.ref b]) ++ List.replicate (7 - (lg_sl ([.ref b])).length) Slot.unset).toArray = ls at hE ⊢
  have hE : lv_has ls 7 [(0, .ref b)] := hE
  refine lw_go (L := L) (xs := xs) hst hL p e s m #[.ref b] below meth c dC dI dA ad0 0 (fun q => s.heap.size ≤ q) ad0 s.heap [] ls ⟨hst, hx, hb, hml, hr, hown, fun w hw => hts w (List.mem_filter.mp hw).1, hlocks, hnm, htab, hK, fun q h => h, hG⟩ ⟨by rw [hb0], by rw [hb0]; exact hX, by rw [hb0]; exact hbl, by rw [hb0]; exact Nat.not_le.mpr hbl, fun q h => h⟩ ⟨fun k q h => ?_, ⟨fun i j p q h => ?_, fun k q h => ?_⟩, va_S.rf, ⟨Nat.zero_le _, fun i hi => absurd hi (Nat.not_lt_zero i)⟩, Nat.zero_le _, fun _ _ => rfl⟩ ?_ (fun q hq => ?_) (fun _ h => by cases h)
  · exact absurd h (by simp [ab_w, ofL])
  · exact absurd h (by simp [ab_w, ofL])
  · exact absurd h (by simp [ab_w, ofL])
  · show lv_has ls 7 [(0, .ref (ad0 (ab_SB + 5000)))]
    rw [hb0]; exact hE
  · rw [List.mem_singleton.mp hq]; exact Or.inr (Nat.le_add_right _ _)
