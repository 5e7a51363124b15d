/-! ===== the first store is good; the law's entry (by program, gen_entry.py) ===== -/
theorem RE_g0 : RE 0 g0 := by
  have hm : ∀ h, h < 12 → m0 (272 + h) = -1 := fun h hh => by
    unfold m0 mset; rw [if_pos (by omega)]
  refine ⟨0, 6, 0, 0, ⟨⟨isSt6, rfl, by decide, rfl, by decide, fun p h => absurd h (Nat.not_lt_zero p), fun p h => absurd h (Nat.not_lt_zero p), fun p h => absurd h (Nat.not_lt_zero p), fun p h => absurd h (Nat.not_lt_zero p), fun p h => absurd h (Nat.not_lt_zero p), fun p h => absurd h (Nat.not_lt_zero p), fun h hh => ?_, fun p o h => absurd h (Nat.not_lt_zero p), fun p o h => absurd h (Nat.not_lt_zero p)⟩, by decide, rfl, rfl, ⟨rfl, rfl, rfl, rfl, rfl, by decide⟩, ⟨0, 0, by decide, by decide, rfl, rfl, rfl, fun a h => absurd h (Nat.not_lt_zero a)⟩, fun p _ hp => ⟨?_, ?_, rfl, fun o _ => ⟨rfl, rfl⟩⟩, ⟨fun p h => absurd h (Nat.not_lt_zero p), fun p q h => absurd h (Nat.not_lt_zero p), fun h hh => Or.inl (hm h hh), fun h i hh _ _ => Or.inl (hm h hh), fun p h hp => absurd hp (Nat.not_lt_zero p), fun p h => absurd h (Nat.not_lt_zero p)⟩, fun p h => absurd h (Nat.not_lt_zero p), fun p h => absurd h (Nat.not_lt_zero p), fun p h => absurd h (Nat.not_lt_zero p), fun p o h => absurd h (Nat.not_lt_zero p), fun p o i h => absurd h (Nat.not_lt_zero p), fun p o h => absurd h (Nat.not_lt_zero p)⟩, ⟨by decide, by decide, rfl, rfl, fun j h => absurd h (Nat.not_lt_zero j)⟩, rfl, ⟨0, by decide, rfl, rfl, fun i h => absurd h (Nat.not_lt_zero i)⟩, ⟨rfl, Or.inl rfl⟩, rfl, rfl, rfl, ⟨Or.inl rfl, rfl, Or.inl ⟨rfl, rfl⟩⟩, fun j h => absurd h (Nat.not_lt_zero j), ⟨Or.inl rfl, Or.inl rfl⟩, rfl⟩
  · rw [show gA g0 207 = m0 from rfl, hm h hh]; exact if_pos hh
  · exact if_pos hp
  · exact if_pos hp
theorem LL_len : LL.length = 220 := by
  unfold LL
  rw [List.length_append, List.length_append, List.length_cons, hR11_l]; rfl
section Entry
variable {l : Launch} {M : ab_M} {L : Nat} {xs : Nat → Int32} {kc ks : Nat} {pc : Nat} {lv lv' : List (Nat × Value)} {st : List Value} {h h' : ab_H}
theorem al_cong (h1 : h'.1 = h.1) (h2 : ∀ b, b < h.1 → h'.2 b = h.2 b) (k : al_S l M L xs kc ks pc lv st h') : al_S l M L xs kc ks pc lv st h := by
  intro p e s m args below meth c dC dI dA ad0 n0 A ad H locs ls C hX D hl hlo hst
  have e1 : ab_w ad dA h' = ab_w ad dA h := by
    unfold ab_w; rw [h1]; exact List.map_congr_left (fun i hi => by rw [h2 i (List.mem_range.mp hi)])
  obtain ⟨d1, d2, d3, ⟨d4, d5⟩, d6, d7⟩ := D
  refine k p e s m args below meth c dC dI dA ad0 n0 A ad H locs ls C hX ⟨by rw [e1]; exact d1, by rw [e1]; exact d2, d3, ⟨by rw [h1]; exact d4, fun i hi => ?_⟩, by rw [h1]; exact d6, d7⟩ hl (by rw [h1]; exact hlo) (by rw [h1]; exact hst)
  rw [h1] at hi ⊢
  rw [h2 i hi]
  exact d5 i hi
theorem of_ps {ls : List va_E} {e : va_E} : ab_ps (ofL ls) e = ofL (ls ++ [e]) := by
  have h := lq_ps (c := ls) (ts := []) (e := e)
  rw [lq_of, lq_of, List.append_nil] at h
  exact h
theorem al_newL {ls : List va_E} {n ci index N : Nat} {fs : List Value} (hn : ls.length = n) (hb : n < ab_SB) (hN : ab_NW M.1.cls index ci N fs) (hok : fs.all ab_nr = true) (hrc : kc + 1 ≤ M.2.2.2.2.cells) (hrs : ks + N ≤ M.2.2.2.2.slots) (hd : decode M.2.1 pc = .ok (.new index, 3)) (k : al_S l M L xs (kc + 1) (ks + N) (pc + 3) lv (.ref n :: st) (ofL (ls ++ [.inr (ci, fs)]))) : al_S l M L xs kc ks pc lv st (ofL ls) := by
  subst hn
  refine al_new (h := ofL ls) hb hN hok hrc hrs hd ?_
  rw [of_ps]
  exact k
theorem al_out {ls : List va_E} {n : Nat} (hn : ls.length = n) (hb : n < ab_SB) (harr : Cond.arrayClass .long ∈ ab_tb) (hrc : kc + 1 ≤ M.2.2.2.2.cells) (hrs : ks + 1 ≤ M.2.2.2.2.slots) (hd : decode M.2.1 pc = .ok (.newarray .long, 2)) (k : al_S l M L xs (kc + 1) (ks + 1) (pc + 2) lv (.ref n :: st) (ofL (ls ++ [.inl (1, 1, .inr (.inl (fun _ => 0)))]))) : al_S l M L xs kc ks pc lv (.int (nI 1) :: st) (ofL ls) := by
  subst hn
  refine al_newa (h := ofL ls) (kd := 1) (B := 1) (x := .inr (fun _ => 0)) (ty := .long) hb (by decide) (by decide) rfl (fun _ => rfl) (fun U c1 c2 h1 h2 => Option.some.inj (h1.symm.trans h2)) (fun _ _ => rfl) (by decide) (by decide) harr hrc hrs hd ?_
  rw [of_ps]
  exact k
end Entry
theorem nw_L_8 : ab_NW mlaw.1.cls 8 11 11 [.null, .null, .null, .null, .null, .null, .null, .null, .null, .int 0, .int 0] := ⟨(RX11, TX11, 11), tyX11, rfl, rfl, uwX11, tyX11_ok, kw_9f24be8112, kw_79188535fa, kw_62b61b7ad3, by decide +kernel⟩
theorem nw_L_119 : ab_NW mlaw.1.cls 119 12 26 [.int 0, .null, .null, .int 0, .null, .null, .int 0, .null, .int 0, .int 0, .int 0, .int 0, .int 0, .int 0, .null, .int 0, .int 0, .int 0, .int 0, .null, .int 0, .null, .null, .null, .null, .null] := ⟨(RX12, TX12, 26), tyX12, rfl, rfl, uwX12, tyX12_ok, kw_e85a041f3a, kw_58c50cec89, kw_30b3f7d7c6, by decide +kernel⟩
set_option maxRecDepth 100000 in
set_option maxHeartbeats 4000000 in
theorem lw_go {l : Launch} (hl : l.stackTraces = false) {L : Nat} {xs : Nat → Int32} (hL : L ≤ 3072) : al_S l mlaw L xs 0 0 0 [(0, .ref (ab_SB + 5000))] [] (ofL []) := by
  have hF : 20 < Fu := by decide
  refine al_newL (pc := 0) (n := 0) rfl (by decide) nw_L_8 rfl (by decide) (by decide) (by decide +kernel) ?_
  refine al_dup (pc := 3) (by decide +kernel) rfl ?_
  refine al_callI (pc := 4) (index := 118) (M' := mX11_init) (As := []) (a := 0) (st := [.ref 0]) (y := ofL (.inr (11, [.ref 4, .ref 6, .ref 18, .ref 30, .ref 42, .ref 192, .ref 194, .ref 196, .ref 203, .int 0, .int (-1 : Int32)]) :: hR11)) iX11_init kw_4bf560daf9 kw_34453529c4 rfl rfl rfl rfl rfl (by decide) (by decide +kernel) (okX11_init hl (hf_e hF)) ?_
  refine al_wid (kc' := 206) (ks' := 8892) (Nat.le_of_ble_eq_true rfl) (Nat.le_of_ble_eq_true rfl) ?_
  refine al_astore_n (pc := 7) (n := 1) (i := 1) (lv' := [(0, .ref (ab_SB + 5000)), (1, .ref 0)]) (by decide +kernel) rfl (by decide) rfl rfl ?_
  have e6 : ((.inr (11, [.ref 4, .ref 6, .ref 18, .ref 30, .ref 42, .ref 192, .ref 194, .ref 196, .ref 203, .int 0, .int (-1 : Int32)]) : va_E) :: hR11).length = 206 := congrArg (· + 1) hR11_l
  refine al_newL (pc := 8) (n := 206) e6 (by decide) nw_L_119 rfl (by decide) (by decide) (by decide +kernel) ?_
  refine al_dup (pc := 11) (by decide +kernel) rfl ?_
  have hm := bMod_e hF ((.inr (11, [.ref 4, .ref 6, .ref 18, .ref 30, .ref 42, .ref 192, .ref 194, .ref 196, .ref 203, .int 0, .int (-1 : Int32)]) : va_E) :: hR11) (by rw [e6]; decide)
  rw [bMod_n e6, e6] at hm
  refine al_callI (pc := 12) (index := 121) (M' := mX12_init) (As := []) (a := 206) (st := [.ref 206]) (y := ofL ((.inr (11, [.ref 4, .ref 6, .ref 18, .ref 30, .ref 42, .ref 192, .ref 194, .ref 196, .ref 203, .int 0, .int (-1 : Int32)]) :: hR11) ++ bMod (rp 206))) iX12_init kw_b3b2e51396 kw_0b63f192da rfl rfl rfl rfl rfl (by decide) (by decide +kernel) (okX12_init hl hm) ?_
  refine al_wid (kc' := 219) (ks' := 30214) (Nat.le_of_ble_eq_true rfl) (Nat.le_of_ble_eq_true rfl) ?_
  refine al_astore_n (pc := 15) (n := 2) (i := 2) (lv' := [(0, .ref (ab_SB + 5000)), (1, .ref 0), (2, .ref 206)]) (by decide +kernel) rfl (by decide) rfl rfl ?_
  refine al_iconst (pc := 16) (n := 1) (v := nI 1) (by decide +kernel) rfl ?_
  have e7 : (((.inr (11, [.ref 4, .ref 6, .ref 18, .ref 30, .ref 42, .ref 192, .ref 194, .ref 196, .ref 203, .int 0, .int (-1 : Int32)]) : va_E) :: hR11) ++ bMod (rp 206)).length = 219 := by rw [List.length_append, e6]; rfl
  refine al_out (pc := 17) (n := 219) e7 (by decide) kw_c205ee8a62 (by decide) (by decide) (by decide +kernel) ?_
  refine al_astore_n (pc := 19) (n := 3) (i := 3) (lv' := [(0, .ref (ab_SB + 5000)), (1, .ref 0), (2, .ref 206), (3, .ref 219)]) (by decide +kernel) rfl (by decide) rfl rfl ?_
  refine al_iconst (pc := 20) (n := 0) (v := nI 0) (by decide +kernel) rfl ?_
  refine al_istore (pc := 21) (i := 4) (lv' := [(0, .ref (ab_SB + 5000)), (1, .ref 0), (2, .ref 206), (3, .ref 219), (4, .int (nI 0))]) (by decide +kernel) (by decide) rfl rfl ?_
  refine al_wid (kc' := 220) (ks' := 30215) (Nat.le_of_ble_eq_true rfl) (Nat.le_of_ble_eq_true rfl) ?_
  refine al_cong (h' := gH g0) LL_len.symm (fun b hb => ?_) ?_
  · exact (g0_all b (by rw [← LL_len]; exact hb)).symm
  · exact lw_loop hl hL (L / 6) 0 0 g0 RE_g0 (Nat.le_refl _) (Nat.zero_le _) (by omega)
