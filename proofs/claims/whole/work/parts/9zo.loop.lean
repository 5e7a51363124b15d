/-! ===== the law's loop (by program, gen_lawl.py) ===== -/
theorem le_len {a L : Nat} (hL : L ≤ 3072) (ha : a ≤ 3072) : (nI a ≤ Int32.ofNat L - nI 6) ↔ a + 6 ≤ L := by
  have e1 : (nI a).toInt = a := nI_toInt (by omega)
  have e2 : (Int32.ofNat L).toInt = L := nI_toInt (by omega)
  have e3 : (nI 6).toInt = 6 := nI_toInt (by decide)
  rw [Int32.le_iff_toInt_le, Int32.toInt_sub, e1, e2, e3, Int.bmod_eq_of_le (by omega) (by omega)]
  omega
set_option maxRecDepth 100000 in
set_option maxHeartbeats 4000000 in
theorem lw_step {l : Launch} (hl : l.stackTraces = false) {L : Nat} {xs : Nat → Int32} (hL : L ≤ 3072) {j N : Nat} {g : gG} (R : RE N g) (hN : N ≤ j) (hj : 6 * j ≤ L) (ih : 6 * j + 6 ≤ L → ∀ N' g', N' ≤ N + 1 → RE N' g' → al_S l mlaw L xs (220 + 5 * j + 5) (30215 + 427 * j + 427) 23 [(0, .ref (ab_SB + 5000)), (1, .ref 0), (2, .ref 206), (3, .ref 219), (4, .int (nI (6 * j + 6)))] [] (gH g')) : al_S l mlaw L xs (220 + 5 * j) (30215 + 427 * j) 23 [(0, .ref (ab_SB + 5000)), (1, .ref 0), (2, .ref 206), (3, .ref 219), (4, .int (nI (6 * j)))] [] (gH g) := by
  refine al_iload (pc := 23) (i := 4) (j := 4) (by decide +kernel) rfl ?_
  refine al_aload_n (pc := 25) (n := 0) (i := 0) (j := 0) (by decide +kernel) rfl rfl ?_
  refine al_slen (pc := 26) (by decide +kernel) ?_
  refine al_bipush (pc := 27) (n := 6) (v := nI 6) (by decide +kernel) (by decide) ?_
  refine al_isub (pc := 29) (by decide +kernel) ?_
  refine al_icmp_gt (pc := 30) (off := 2551) (tgt := 2581) (by decide +kernel) (by decide) (fun g1 => ?_) (fun _ => ?_)
  · have h6 : 6 * j + 6 ≤ L := (le_len hL (by omega)).mp g1
    have hN' : N < 1000 := by omega
    have hc : 220 + 5 * j + 5 ≤ 601024 := by omega
    have hs : 30215 + 427 * j + 427 ≤ 7293034 := by omega
    have hk : ∀ N' g', N' ≤ N + 1 → RE N' g' → al_S l mlaw L xs (220 + 5 * j + 5) (30215 + 427 * j + 427) 2575 [(0, .ref (ab_SB + 5000)), (1, .ref 0), (2, .ref 206), (3, .ref 219), (4, .int (nI (6 * j)))] [] (gH g') := by
      intro N' g' h1 R'
      refine al_iinc (pc := 2575) (i := 4) (n := 6) (j := 4) (d := nI 6) (lv' := [(0, .ref (ab_SB + 5000)), (1, .ref 0), (2, .ref 206), (3, .ref 219), (4, .int (nI (6 * j) + nI 6))]) (by decide +kernel) rfl rfl (by decide) rfl rfl ?_
      refine al_goto (pc := 2578) (off := -2555) (tgt := 23) (by decide +kernel) (by decide) ?_
      rw [nI_add]
      exact ih h6 N' g' h1 R'
    have hd : decode mlaw.2.1 40 = .ok (.tableswitch 2535 0 48 #[212, 285, 310, 354, 398, 411, 479, 547, 603, 671, 739, 807, 863, 931, 999, 1067, 1135, 1215, 1283, 1339, 1352, 1365, 1378, 1391, 1404, 1417, 1430, 1498, 1554, 1567, 1630, 1686, 1742, 1786, 1811, 1867, 1923, 1979, 2020, 2088, 2156, 2212, 2296, 2380, 2448, 2473, 2486, 2497, 2510], 212) := by decide +kernel
    refine al_aload_n (pc := 33) (n := 0) (i := 0) (j := 0) (by decide +kernel) rfl rfl ?_
    refine al_iload (pc := 34) (i := 4) (j := 4) (by decide +kernel) rfl ?_
    refine al_sld (pc := 36) (sc_in0 h6 hL) (by decide +kernel) ?_
    refine al_bipush (pc := 37) (n := 63) (v := nI 63) (by decide +kernel) (by decide) ?_
    refine al_iand (pc := 39) (by decide +kernel) ?_
    refine al_swC (pc := 40) (c9 := nI 0) (off := 212) (tgt := 252) hd (by decide) (by decide) (by decide) (by decide) (fun _ => lc_0 hl R hN' h6 hL hc hs hk) (fun q0 => ?_)
    refine al_swC (pc := 40) (c9 := nI 1) (off := 285) (tgt := 325) hd (by decide) (by decide) (by decide) (by decide) (fun _ => lc_1 hl R hN' h6 hL hc hs hk) (fun q1 => ?_)
    refine al_swC (pc := 40) (c9 := nI 2) (off := 310) (tgt := 350) hd (by decide) (by decide) (by decide) (by decide) (fun _ => lc_2 hl R hN' h6 hL hc hs hk) (fun q2 => ?_)
    refine al_swC (pc := 40) (c9 := nI 3) (off := 354) (tgt := 394) hd (by decide) (by decide) (by decide) (by decide) (fun _ => lc_3 hl R hN' h6 hL hc hs hk) (fun q3 => ?_)
    refine al_swC (pc := 40) (c9 := nI 4) (off := 398) (tgt := 438) hd (by decide) (by decide) (by decide) (by decide) (fun _ => lc_4 hl R hN' h6 hL hc hs hk) (fun q4 => ?_)
    refine al_swC (pc := 40) (c9 := nI 5) (off := 411) (tgt := 451) hd (by decide) (by decide) (by decide) (by decide) (fun _ => lc_5 hl R hN' h6 hL hc hs hk) (fun q5 => ?_)
    refine al_swC (pc := 40) (c9 := nI 6) (off := 479) (tgt := 519) hd (by decide) (by decide) (by decide) (by decide) (fun _ => lc_6 hl R hN' h6 hL hc hs hk) (fun q6 => ?_)
    refine al_swC (pc := 40) (c9 := nI 7) (off := 547) (tgt := 587) hd (by decide) (by decide) (by decide) (by decide) (fun _ => lc_7 hl R hN' h6 hL hc hs hk) (fun q7 => ?_)
    refine al_swC (pc := 40) (c9 := nI 8) (off := 603) (tgt := 643) hd (by decide) (by decide) (by decide) (by decide) (fun _ => lc_8 hl R hN' h6 hL hc hs hk) (fun q8 => ?_)
    refine al_swC (pc := 40) (c9 := nI 9) (off := 671) (tgt := 711) hd (by decide) (by decide) (by decide) (by decide) (fun _ => lc_9 hl R hN' h6 hL hc hs hk) (fun q9 => ?_)
    refine al_swC (pc := 40) (c9 := nI 10) (off := 739) (tgt := 779) hd (by decide) (by decide) (by decide) (by decide) (fun _ => lc_10 hl R hN' h6 hL hc hs hk) (fun q10 => ?_)
    refine al_swC (pc := 40) (c9 := nI 11) (off := 807) (tgt := 847) hd (by decide) (by decide) (by decide) (by decide) (fun _ => lc_11 hl R hN' h6 hL hc hs hk) (fun q11 => ?_)
    refine al_swC (pc := 40) (c9 := nI 12) (off := 863) (tgt := 903) hd (by decide) (by decide) (by decide) (by decide) (fun _ => lc_12 hl R hN' h6 hL hc hs hk) (fun q12 => ?_)
    refine al_swC (pc := 40) (c9 := nI 13) (off := 931) (tgt := 971) hd (by decide) (by decide) (by decide) (by decide) (fun _ => lc_13 hl R hN' h6 hL hc hs hk) (fun q13 => ?_)
    refine al_swC (pc := 40) (c9 := nI 14) (off := 999) (tgt := 1039) hd (by decide) (by decide) (by decide) (by decide) (fun _ => lc_14 hl R hN' h6 hL hc hs hk) (fun q14 => ?_)
    refine al_swC (pc := 40) (c9 := nI 15) (off := 1067) (tgt := 1107) hd (by decide) (by decide) (by decide) (by decide) (fun _ => lc_15 hl R hN' h6 hL hc hs hk) (fun q15 => ?_)
    refine al_swC (pc := 40) (c9 := nI 16) (off := 1135) (tgt := 1175) hd (by decide) (by decide) (by decide) (by decide) (fun _ => lc_16 hl R hN' h6 hL hc hs hk) (fun q16 => ?_)
    refine al_swC (pc := 40) (c9 := nI 17) (off := 1215) (tgt := 1255) hd (by decide) (by decide) (by decide) (by decide) (fun _ => lc_17 hl R hN' h6 hL hc hs hk) (fun q17 => ?_)
    refine al_swC (pc := 40) (c9 := nI 18) (off := 1283) (tgt := 1323) hd (by decide) (by decide) (by decide) (by decide) (fun _ => lc_18 hl R hN' h6 hL hc hs hk) (fun q18 => ?_)
    refine al_swC (pc := 40) (c9 := nI 19) (off := 1339) (tgt := 1379) hd (by decide) (by decide) (by decide) (by decide) (fun _ => lc_19 hl R hN' h6 hL hc hs hk) (fun q19 => ?_)
    refine al_swC (pc := 40) (c9 := nI 20) (off := 1352) (tgt := 1392) hd (by decide) (by decide) (by decide) (by decide) (fun _ => lc_20 hl R hN' h6 hL hc hs hk) (fun q20 => ?_)
    refine al_swC (pc := 40) (c9 := nI 21) (off := 1365) (tgt := 1405) hd (by decide) (by decide) (by decide) (by decide) (fun _ => lc_21 hl R hN' h6 hL hc hs hk) (fun q21 => ?_)
    refine al_swC (pc := 40) (c9 := nI 22) (off := 1378) (tgt := 1418) hd (by decide) (by decide) (by decide) (by decide) (fun _ => lc_22 hl R hN' h6 hL hc hs hk) (fun q22 => ?_)
    refine al_swC (pc := 40) (c9 := nI 23) (off := 1391) (tgt := 1431) hd (by decide) (by decide) (by decide) (by decide) (fun _ => lc_23 hl R hN' h6 hL hc hs hk) (fun q23 => ?_)
    refine al_swC (pc := 40) (c9 := nI 24) (off := 1404) (tgt := 1444) hd (by decide) (by decide) (by decide) (by decide) (fun _ => lc_24 hl R hN' h6 hL hc hs hk) (fun q24 => ?_)
    refine al_swC (pc := 40) (c9 := nI 25) (off := 1417) (tgt := 1457) hd (by decide) (by decide) (by decide) (by decide) (fun _ => lc_25 hl R hN' h6 hL hc hs hk) (fun q25 => ?_)
    refine al_swC (pc := 40) (c9 := nI 26) (off := 1430) (tgt := 1470) hd (by decide) (by decide) (by decide) (by decide) (fun _ => lc_26 hl R hN' h6 hL hc hs hk) (fun q26 => ?_)
    refine al_swC (pc := 40) (c9 := nI 27) (off := 1498) (tgt := 1538) hd (by decide) (by decide) (by decide) (by decide) (fun _ => lc_27 hl R hN' h6 hL hc hs hk) (fun q27 => ?_)
    refine al_swC (pc := 40) (c9 := nI 28) (off := 1554) (tgt := 1594) hd (by decide) (by decide) (by decide) (by decide) (fun _ => lc_28 hl R hN' h6 hL hc hs hk) (fun q28 => ?_)
    refine al_swC (pc := 40) (c9 := nI 29) (off := 1567) (tgt := 1607) hd (by decide) (by decide) (by decide) (by decide) (fun _ => lc_29 hl R hN' h6 hL hc hs hk) (fun q29 => ?_)
    refine al_swC (pc := 40) (c9 := nI 30) (off := 1630) (tgt := 1670) hd (by decide) (by decide) (by decide) (by decide) (fun _ => lc_30 hl R hN' h6 hL hc hs hk) (fun q30 => ?_)
    refine al_swC (pc := 40) (c9 := nI 31) (off := 1686) (tgt := 1726) hd (by decide) (by decide) (by decide) (by decide) (fun _ => lc_31 hl R hN' h6 hL hc hs hk) (fun q31 => ?_)
    refine al_swC (pc := 40) (c9 := nI 32) (off := 1742) (tgt := 1782) hd (by decide) (by decide) (by decide) (by decide) (fun _ => lc_32 hl R hN' h6 hL hc hs hk) (fun q32 => ?_)
    refine al_swC (pc := 40) (c9 := nI 33) (off := 1786) (tgt := 1826) hd (by decide) (by decide) (by decide) (by decide) (fun _ => lc_33 hl R hN' h6 hL hc hs hk) (fun q33 => ?_)
    refine al_swC (pc := 40) (c9 := nI 34) (off := 1811) (tgt := 1851) hd (by decide) (by decide) (by decide) (by decide) (fun _ => lc_34 hl R hN' h6 hL hc hs hk) (fun q34 => ?_)
    refine al_swC (pc := 40) (c9 := nI 35) (off := 1867) (tgt := 1907) hd (by decide) (by decide) (by decide) (by decide) (fun _ => lc_35 hl R hN' h6 hL hc hs hk) (fun q35 => ?_)
    refine al_swC (pc := 40) (c9 := nI 36) (off := 1923) (tgt := 1963) hd (by decide) (by decide) (by decide) (by decide) (fun _ => lc_36 hl R hN' h6 hL hc hs hk) (fun q36 => ?_)
    refine al_swC (pc := 40) (c9 := nI 37) (off := 1979) (tgt := 2019) hd (by decide) (by decide) (by decide) (by decide) (fun _ => lc_37 hl R hN' h6 hL hc hs hk) (fun q37 => ?_)
    refine al_swC (pc := 40) (c9 := nI 38) (off := 2020) (tgt := 2060) hd (by decide) (by decide) (by decide) (by decide) (fun _ => lc_38 hl R hN' h6 hL hc hs hk) (fun q38 => ?_)
    refine al_swC (pc := 40) (c9 := nI 39) (off := 2088) (tgt := 2128) hd (by decide) (by decide) (by decide) (by decide) (fun _ => lc_39 hl R hN' h6 hL hc hs hk) (fun q39 => ?_)
    refine al_swC (pc := 40) (c9 := nI 40) (off := 2156) (tgt := 2196) hd (by decide) (by decide) (by decide) (by decide) (fun _ => lc_40 hl R hN' h6 hL hc hs hk) (fun q40 => ?_)
    refine al_swC (pc := 40) (c9 := nI 41) (off := 2212) (tgt := 2252) hd (by decide) (by decide) (by decide) (by decide) (fun _ => lc_41 hl R hN' h6 hL hc hs hk) (fun q41 => ?_)
    refine al_swC (pc := 40) (c9 := nI 42) (off := 2296) (tgt := 2336) hd (by decide) (by decide) (by decide) (by decide) (fun _ => lc_42 hl R hN' h6 hL hc hs hk) (fun q42 => ?_)
    refine al_swC (pc := 40) (c9 := nI 43) (off := 2380) (tgt := 2420) hd (by decide) (by decide) (by decide) (by decide) (fun _ => lc_43 hl R hN' h6 hL hc hs hk) (fun q43 => ?_)
    refine al_swC (pc := 40) (c9 := nI 44) (off := 2448) (tgt := 2488) hd (by decide) (by decide) (by decide) (by decide) (fun _ => lc_44 hl R hN' h6 hL hc hs hk) (fun q44 => ?_)
    refine al_swC (pc := 40) (c9 := nI 45) (off := 2473) (tgt := 2513) hd (by decide) (by decide) (by decide) (by decide) (fun _ => lc_45 hl R hN' h6 hL hc hs hk) (fun q45 => ?_)
    refine al_swC (pc := 40) (c9 := nI 46) (off := 2486) (tgt := 2526) hd (by decide) (by decide) (by decide) (by decide) (fun _ => lc_46 hl R hN' h6 hL hc hs hk) (fun q46 => ?_)
    refine al_swC (pc := 40) (c9 := nI 47) (off := 2497) (tgt := 2537) hd (by decide) (by decide) (by decide) (by decide) (fun _ => lc_47 hl R hN' h6 hL hc hs hk) (fun q47 => ?_)
    refine al_swC (pc := 40) (c9 := nI 48) (off := 2510) (tgt := 2550) hd (by decide) (by decide) (by decide) (by decide) (fun _ => lc_48 hl R hN' h6 hL hc hs hk) (fun q48 => ?_)
    refine al_swD (pc := 40) (tgt := 2575) hd (by have r0 := ab_neN (n := 0) (by decide) q0; have r1 := ab_neN (n := 1) (by decide) q1; have r2 := ab_neN (n := 2) (by decide) q2; have r3 := ab_neN (n := 3) (by decide) q3; have r4 := ab_neN (n := 4) (by decide) q4; have r5 := ab_neN (n := 5) (by decide) q5; have r6 := ab_neN (n := 6) (by decide) q6; have r7 := ab_neN (n := 7) (by decide) q7; have r8 := ab_neN (n := 8) (by decide) q8; have r9 := ab_neN (n := 9) (by decide) q9; have r10 := ab_neN (n := 10) (by decide) q10; have r11 := ab_neN (n := 11) (by decide) q11; have r12 := ab_neN (n := 12) (by decide) q12; have r13 := ab_neN (n := 13) (by decide) q13; have r14 := ab_neN (n := 14) (by decide) q14; have r15 := ab_neN (n := 15) (by decide) q15; have r16 := ab_neN (n := 16) (by decide) q16; have r17 := ab_neN (n := 17) (by decide) q17; have r18 := ab_neN (n := 18) (by decide) q18; have r19 := ab_neN (n := 19) (by decide) q19; have r20 := ab_neN (n := 20) (by decide) q20; have r21 := ab_neN (n := 21) (by decide) q21; have r22 := ab_neN (n := 22) (by decide) q22; have r23 := ab_neN (n := 23) (by decide) q23; have r24 := ab_neN (n := 24) (by decide) q24; have r25 := ab_neN (n := 25) (by decide) q25; have r26 := ab_neN (n := 26) (by decide) q26; have r27 := ab_neN (n := 27) (by decide) q27; have r28 := ab_neN (n := 28) (by decide) q28; have r29 := ab_neN (n := 29) (by decide) q29; have r30 := ab_neN (n := 30) (by decide) q30; have r31 := ab_neN (n := 31) (by decide) q31; have r32 := ab_neN (n := 32) (by decide) q32; have r33 := ab_neN (n := 33) (by decide) q33; have r34 := ab_neN (n := 34) (by decide) q34; have r35 := ab_neN (n := 35) (by decide) q35; have r36 := ab_neN (n := 36) (by decide) q36; have r37 := ab_neN (n := 37) (by decide) q37; have r38 := ab_neN (n := 38) (by decide) q38; have r39 := ab_neN (n := 39) (by decide) q39; have r40 := ab_neN (n := 40) (by decide) q40; have r41 := ab_neN (n := 41) (by decide) q41; have r42 := ab_neN (n := 42) (by decide) q42; have r43 := ab_neN (n := 43) (by decide) q43; have r44 := ab_neN (n := 44) (by decide) q44; have r45 := ab_neN (n := 45) (by decide) q45; have r46 := ab_neN (n := 46) (by decide) q46; have r47 := ab_neN (n := 47) (by decide) q47; have r48 := ab_neN (n := 48) (by decide) q48; omega) (by decide) ?_
    exact al_wid (Nat.le_add_right _ _) (Nat.le_add_right _ _) (hk N g (Nat.le_succ _) R)
  · refine al_iconst (pc := 2581) (n := 1) (v := 1) (by decide +kernel) rfl ?_
    exact al_ret (pc := 2582) (by omega) (by omega) (by decide +kernel)
theorem lw_loop {l : Launch} (hl : l.stackTraces = false) {L : Nat} {xs : Nat → Int32} (hL : L ≤ 3072) : ∀ (r j N : Nat) (g : gG), RE N g → N ≤ j → 6 * j ≤ L → L < 6 * (j + r) + 6 → al_S l mlaw L xs (220 + 5 * j) (30215 + 427 * j) 23 [(0, .ref (ab_SB + 5000)), (1, .ref 0), (2, .ref 206), (3, .ref 219), (4, .int (nI (6 * j)))] [] (gH g) := by
  intro r
  induction r with
  | zero => intro j N g R hN hj h; exact lw_step hl hL R hN hj (fun h6 => by omega)
  | succ r IH =>
    intro j N g R hN hj h
    refine lw_step hl hL R hN hj (fun h6 N' g' h1 R' => ?_)
    have := IH (j + 1) N' g' R' (by omega) (by omega) (by omega)
    rw [show 220 + 5 * (j + 1) = 220 + 5 * j + 5 by omega, show 30215 + 427 * (j + 1) = 30215 + 427 * j + 427 by omega, show 6 * (j + 1) = 6 * j + 6 by omega] at this
    exact this
