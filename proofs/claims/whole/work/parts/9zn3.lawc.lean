/-! ===== the law's cases, 3 (by program, gen_lawc.py) ===== -/
set_option maxRecDepth 100000 in
set_option maxHeartbeats 4000000 in
theorem lc_39 {l : Launch} (hl : l.stackTraces = false) {L : Nat} {xs : Nat → Int32} {N : Nat} {g : gG} (R : RE N g) (hN : N < 1000) {i : Nat} (hi : i + 6 ≤ L) (hL : L ≤ 3072) {kc ks : Nat} (hc : kc + 5 ≤ 601024) (hs : ks + 427 ≤ 7293034) (k : ∀ N' g', N' ≤ N + 1 → RE N' g' → al_S l mlaw L xs (kc + 5) (ks + 427) 2575 [(0, .ref (ab_SB + 5000)), (1, .ref 0), (2, .ref 206), (3, .ref 219), (4, .int (nI i))] [] (gH g')) : al_S l mlaw L xs kc ks 2128 [(0, .ref (ab_SB + 5000)), (1, .ref 0), (2, .ref 206), (3, .ref 219), (4, .int (nI i))] [] (gH g) := by
  have hF : 11000 < Fu := by decide
  refine al_aload_n (pc := 2128) (n := 1) (i := 1) (j := 1) (by decide +kernel) rfl rfl ?_
  refine al_aload_n (pc := 2129) (n := 0) (i := 0) (j := 0) (by decide +kernel) rfl rfl ?_
  refine al_iload (pc := 2130) (i := 4) (j := 4) (by decide +kernel) rfl ?_
  refine al_iconst (pc := 2132) (n := 1) (v := nI 1) (by decide +kernel) rfl ?_
  refine al_iadd (pc := 2133) (by decide +kernel) ?_
  refine al_sld (pc := 2134) (sc_in hi hL (j := 1) (by decide)) (by decide +kernel) ?_
  refine al_aload_n (pc := 2135) (n := 0) (i := 0) (j := 0) (by decide +kernel) rfl rfl ?_
  refine al_iload (pc := 2136) (i := 4) (j := 4) (by decide +kernel) rfl ?_
  refine al_iconst (pc := 2138) (n := 2) (v := nI 2) (by decide +kernel) rfl ?_
  refine al_iadd (pc := 2139) (by decide +kernel) ?_
  refine al_sld (pc := 2140) (sc_in hi hL (j := 2) (by decide)) (by decide +kernel) ?_
  refine al_aload_n (pc := 2141) (n := 3) (i := 3) (j := 3) (by decide +kernel) rfl rfl ?_
  have hN2 : N ≤ N + 1 := Nat.le_succ _
  obtain ⟨k0, g1, v, g2, eX, eY, eT, eO, R2⟩ : Cw N (fun v : Int32 => v.toInt64) (fL_hears Fu 0 ((xs ((nI i) + (nI 1)).toNatClampNeg)) ((xs ((nI i) + (nI 2)).toNatClampNeg)) 219 (gH g)) (fun h => fX12_hears_ Fu 206 ((xs ((nI i) + (nI 1)).toNatClampNeg)) ((xs ((nI i) + (nI 2)).toNatClampNeg)) h) := (by unfold fL_hears; rw [ab_ck_pos (io_0 g)]; exact Cw_a (w := (fun h v => ab_bd (ab_lw h 219 (nI 0) v.toInt64) fun h1 => some (nI 0, h1))) (fun φ h => pf_X12_hears_ φ Fu 206 ((xs ((nI i) + (nI 1)).toNatClampNeg)) ((xs ((nI i) + (nI 2)).toNatClampNeg)) h) w_out (by decide) (ca_hears R ((xs ((nI i) + (nI 1)).toNatClampNeg)) ((xs ((nI i) + (nI 2)).toNatClampNeg)) (F := Fu) hF))
  have hO : k0 = 0 → gL g2 219 0 = v.toInt64 := eO
  refine al_wrap (M' := mL_hears) (hh := hL_hears) (As := [.ref 0, .int (xs ((nI i) + (nI 1)).toNatClampNeg), .int (xs ((nI i) + (nI 2)).toNatClampNeg), .ref 219]) (st := []) (v := some (.int k0)) (h' := gH g1) (n := 4) (pc := 2142) (index := 263) (Nat.le_of_ble_eq_true rfl) (Nat.le_of_ble_eq_true rfl) hc hs ⟨cwL_hears, kw_e382c795c0, by decide +kernel⟩ kw_6bf32a6890 kw_bc35ed9142 rfl rfl (Nat.le_of_ble_eq_true rfl) (by decide +kernel) (okL_hears hl eX) ?_
  refine al_istore (pc := 2145) (i := 5) (lv' := [(0, .ref (ab_SB + 5000)), (1, .ref 0), (2, .ref 206), (3, .ref 219), (4, .int (nI i)), (5, .int k0)]) (by decide +kernel) (by decide) rfl rfl ?_
  refine al_aload_n (pc := 2147) (n := 2) (i := 2) (j := 2) (by decide +kernel) rfl rfl ?_
  refine al_aload_n (pc := 2148) (n := 0) (i := 0) (j := 0) (by decide +kernel) rfl rfl ?_
  refine al_iload (pc := 2149) (i := 4) (j := 4) (by decide +kernel) rfl ?_
  refine al_iconst (pc := 2151) (n := 1) (v := nI 1) (by decide +kernel) rfl ?_
  refine al_iadd (pc := 2152) (by decide +kernel) ?_
  refine al_sld (pc := 2153) (sc_in hi hL (j := 1) (by decide)) (by decide +kernel) ?_
  refine al_aload_n (pc := 2154) (n := 0) (i := 0) (j := 0) (by decide +kernel) rfl rfl ?_
  refine al_iload (pc := 2155) (i := 4) (j := 4) (by decide +kernel) rfl ?_
  refine al_iconst (pc := 2157) (n := 2) (v := nI 2) (by decide +kernel) rfl ?_
  refine al_iadd (pc := 2158) (by decide +kernel) ?_
  refine al_sld (pc := 2159) (sc_in hi hL (j := 2) (by decide)) (by decide +kernel) ?_
  refine al_ref (M' := mX12_hears_) (As := [.int (xs ((nI i) + (nI 1)).toNatClampNeg), .int (xs ((nI i) + (nI 2)).toNatClampNeg)]) (a := 206) (ci := 12) (st := []) (v := some (.int v)) (h' := gH g2) (pc := 2160) (index := 265) rfl rfl hc hs (io_206 _) rfl iX12_hears_ kw_52af1f510a kw_84f78ede83 kw_ca1f0b2996 rfl rfl (Nat.le_of_ble_eq_true rfl) (by decide +kernel) (okX12_hears_ hl eY) ?_
  refine al_istore (pc := 2163) (i := 6) (lv' := [(0, .ref (ab_SB + 5000)), (1, .ref 0), (2, .ref 206), (3, .ref 219), (4, .int (nI i)), (5, .int k0), (6, .int v)]) (by decide +kernel) (by decide) rfl rfl ?_
  refine al_aload_n (pc := 2165) (n := 2) (i := 2) (j := 2) (by decide +kernel) rfl rfl ?_
  refine al_ref (M' := mX12_thrown) (As := []) (a := 206) (ci := 12) (st := []) (v := some (.int (gF g2 206 0))) (h' := gH g2) (pc := 2166) (index := 137) rfl rfl hc hs (io_206 g2) rfl iX12_thrown kw_3a20f3984e kw_5ecf1a43fc kw_b4788dccf4 rfl rfl (Nat.le_of_ble_eq_true rfl) (by decide +kernel) (okX12_thrown hl (f_thrown g2)) ?_
  refine al_iload (pc := 2169) (i := 5) (j := 5) (by decide +kernel) rfl ?_
  refine al_icmp_eq (pc := 2171) (off := 5) (tgt := 2176) (by decide +kernel) (by decide) (fun _ => ?_) (fun gz => absurd eT gz)
  refine al_iload (pc := 2176) (i := 5) (j := 5) (by decide +kernel) rfl ?_
  refine al_if_ne (pc := 2178) (off := 15) (tgt := 2193) (by decide +kernel) (by decide) (fun g0 => ?_) (fun g0 => ?_)
  · refine al_aload_n (pc := 2181) (n := 3) (i := 3) (j := 3) (by decide +kernel) rfl rfl ?_
    refine al_iconst (pc := 2182) (n := 0) (v := nI 0) (by decide +kernel) rfl ?_
    refine al_lald (pc := 2183) (la_219 g2 (by decide)) (by decide +kernel) ?_
    refine al_iload (pc := 2184) (i := 6) (j := 6) (by decide +kernel) rfl ?_
    refine al_i2l (pc := 2186) (by decide +kernel) ?_
    refine al_lcmp (pc := 2187) (by decide +kernel) ?_
    refine al_if_eq (pc := 2188) (off := 5) (tgt := 2193) (by decide +kernel) (by decide) (fun _ => ?_) (fun gz => absurd (by rw [hO g0]; exact lg_cmp_self _) gz)
    refine al_goto (pc := 2193) (off := 382) (tgt := 2575) (by decide +kernel) (by decide) ?_
    refine al_few [0, 1, 2, 3, 4] (lv' := [(0, .ref (ab_SB + 5000)), (1, .ref 0), (2, .ref 206), (3, .ref 219), (4, .int (nI i))]) rfl ?_
    exact k _ _ hN2 R2
  · refine al_goto (pc := 2193) (off := 382) (tgt := 2575) (by decide +kernel) (by decide) ?_
    refine al_few [0, 1, 2, 3, 4] (lv' := [(0, .ref (ab_SB + 5000)), (1, .ref 0), (2, .ref 206), (3, .ref 219), (4, .int (nI i))]) rfl ?_
    exact k _ _ hN2 R2
set_option maxRecDepth 100000 in
set_option maxHeartbeats 4000000 in
theorem lc_40 {l : Launch} (hl : l.stackTraces = false) {L : Nat} {xs : Nat → Int32} {N : Nat} {g : gG} (R : RE N g) (hN : N < 1000) {i : Nat} (hi : i + 6 ≤ L) (hL : L ≤ 3072) {kc ks : Nat} (hc : kc + 5 ≤ 601024) (hs : ks + 427 ≤ 7293034) (k : ∀ N' g', N' ≤ N + 1 → RE N' g' → al_S l mlaw L xs (kc + 5) (ks + 427) 2575 [(0, .ref (ab_SB + 5000)), (1, .ref 0), (2, .ref 206), (3, .ref 219), (4, .int (nI i))] [] (gH g')) : al_S l mlaw L xs kc ks 2196 [(0, .ref (ab_SB + 5000)), (1, .ref 0), (2, .ref 206), (3, .ref 219), (4, .int (nI i))] [] (gH g) := by
  have hF : 11000 < Fu := by decide
  refine al_aload_n (pc := 2196) (n := 1) (i := 1) (j := 1) (by decide +kernel) rfl rfl ?_
  refine al_aload_n (pc := 2197) (n := 0) (i := 0) (j := 0) (by decide +kernel) rfl rfl ?_
  refine al_iload (pc := 2198) (i := 4) (j := 4) (by decide +kernel) rfl ?_
  refine al_iconst (pc := 2200) (n := 1) (v := nI 1) (by decide +kernel) rfl ?_
  refine al_iadd (pc := 2201) (by decide +kernel) ?_
  refine al_sld (pc := 2202) (sc_in hi hL (j := 1) (by decide)) (by decide +kernel) ?_
  refine al_aload_n (pc := 2203) (n := 3) (i := 3) (j := 3) (by decide +kernel) rfl rfl ?_
  have hN2 : N ≤ N + 1 := Nat.le_succ _
  obtain ⟨k0, g1, v, g2, eX, eY, eT, eO, R2⟩ : Cw N (fun v : Int32 => v.toInt64) (fL_trial Fu 0 ((xs ((nI i) + (nI 1)).toNatClampNeg)) 219 (gH g)) (fun h => fX12_trial Fu 206 ((xs ((nI i) + (nI 1)).toNatClampNeg)) h) := (by unfold fL_trial; rw [ab_ck_pos (io_0 g)]; exact Cw_a (w := (fun h v => ab_bd (ab_lw h 219 (nI 0) v.toInt64) fun h1 => some (nI 0, h1))) (fun φ h => pf_X12_trial φ Fu 206 ((xs ((nI i) + (nI 1)).toNatClampNeg)) h) w_out (by decide) (ca_trial R ((xs ((nI i) + (nI 1)).toNatClampNeg)) (F := Fu) hF))
  have hO : k0 = 0 → gL g2 219 0 = v.toInt64 := eO
  refine al_wrap (M' := mL_trial) (hh := hL_trial) (As := [.ref 0, .int (xs ((nI i) + (nI 1)).toNatClampNeg), .ref 219]) (st := []) (v := some (.int k0)) (h' := gH g1) (n := 3) (pc := 2204) (index := 266) (Nat.le_of_ble_eq_true rfl) (Nat.le_of_ble_eq_true rfl) hc hs ⟨cwL_trial, kw_e382c795c0, by decide +kernel⟩ kw_6afba4afed kw_df6f294edf rfl rfl (Nat.le_of_ble_eq_true rfl) (by decide +kernel) (okL_trial hl eX) ?_
  refine al_istore (pc := 2207) (i := 5) (lv' := [(0, .ref (ab_SB + 5000)), (1, .ref 0), (2, .ref 206), (3, .ref 219), (4, .int (nI i)), (5, .int k0)]) (by decide +kernel) (by decide) rfl rfl ?_
  refine al_aload_n (pc := 2209) (n := 2) (i := 2) (j := 2) (by decide +kernel) rfl rfl ?_
  refine al_aload_n (pc := 2210) (n := 0) (i := 0) (j := 0) (by decide +kernel) rfl rfl ?_
  refine al_iload (pc := 2211) (i := 4) (j := 4) (by decide +kernel) rfl ?_
  refine al_iconst (pc := 2213) (n := 1) (v := nI 1) (by decide +kernel) rfl ?_
  refine al_iadd (pc := 2214) (by decide +kernel) ?_
  refine al_sld (pc := 2215) (sc_in hi hL (j := 1) (by decide)) (by decide +kernel) ?_
  refine al_ref (M' := mX12_trial) (As := [.int (xs ((nI i) + (nI 1)).toNatClampNeg)]) (a := 206) (ci := 12) (st := []) (v := some (.int v)) (h' := gH g2) (pc := 2216) (index := 268) rfl rfl hc hs (io_206 _) rfl iX12_trial kw_34c34d9721 kw_c0dc3ab8be kw_743889af68 rfl rfl (Nat.le_of_ble_eq_true rfl) (by decide +kernel) (okX12_trial hl eY) ?_
  refine al_istore (pc := 2219) (i := 6) (lv' := [(0, .ref (ab_SB + 5000)), (1, .ref 0), (2, .ref 206), (3, .ref 219), (4, .int (nI i)), (5, .int k0), (6, .int v)]) (by decide +kernel) (by decide) rfl rfl ?_
  refine al_aload_n (pc := 2221) (n := 2) (i := 2) (j := 2) (by decide +kernel) rfl rfl ?_
  refine al_ref (M' := mX12_thrown) (As := []) (a := 206) (ci := 12) (st := []) (v := some (.int (gF g2 206 0))) (h' := gH g2) (pc := 2222) (index := 137) rfl rfl hc hs (io_206 g2) rfl iX12_thrown kw_3a20f3984e kw_5ecf1a43fc kw_b4788dccf4 rfl rfl (Nat.le_of_ble_eq_true rfl) (by decide +kernel) (okX12_thrown hl (f_thrown g2)) ?_
  refine al_iload (pc := 2225) (i := 5) (j := 5) (by decide +kernel) rfl ?_
  refine al_icmp_eq (pc := 2227) (off := 5) (tgt := 2232) (by decide +kernel) (by decide) (fun _ => ?_) (fun gz => absurd eT gz)
  refine al_iload (pc := 2232) (i := 5) (j := 5) (by decide +kernel) rfl ?_
  refine al_if_ne (pc := 2234) (off := 15) (tgt := 2249) (by decide +kernel) (by decide) (fun g0 => ?_) (fun g0 => ?_)
  · refine al_aload_n (pc := 2237) (n := 3) (i := 3) (j := 3) (by decide +kernel) rfl rfl ?_
    refine al_iconst (pc := 2238) (n := 0) (v := nI 0) (by decide +kernel) rfl ?_
    refine al_lald (pc := 2239) (la_219 g2 (by decide)) (by decide +kernel) ?_
    refine al_iload (pc := 2240) (i := 6) (j := 6) (by decide +kernel) rfl ?_
    refine al_i2l (pc := 2242) (by decide +kernel) ?_
    refine al_lcmp (pc := 2243) (by decide +kernel) ?_
    refine al_if_eq (pc := 2244) (off := 5) (tgt := 2249) (by decide +kernel) (by decide) (fun _ => ?_) (fun gz => absurd (by rw [hO g0]; exact lg_cmp_self _) gz)
    refine al_goto (pc := 2249) (off := 326) (tgt := 2575) (by decide +kernel) (by decide) ?_
    refine al_few [0, 1, 2, 3, 4] (lv' := [(0, .ref (ab_SB + 5000)), (1, .ref 0), (2, .ref 206), (3, .ref 219), (4, .int (nI i))]) rfl ?_
    exact k _ _ hN2 R2
  · refine al_goto (pc := 2249) (off := 326) (tgt := 2575) (by decide +kernel) (by decide) ?_
    refine al_few [0, 1, 2, 3, 4] (lv' := [(0, .ref (ab_SB + 5000)), (1, .ref 0), (2, .ref 206), (3, .ref 219), (4, .int (nI i))]) rfl ?_
    exact k _ _ hN2 R2
set_option maxRecDepth 100000 in
set_option maxHeartbeats 4000000 in
theorem lc_41 {l : Launch} (hl : l.stackTraces = false) {L : Nat} {xs : Nat → Int32} {N : Nat} {g : gG} (R : RE N g) (hN : N < 1000) {i : Nat} (hi : i + 6 ≤ L) (hL : L ≤ 3072) {kc ks : Nat} (hc : kc + 5 ≤ 601024) (hs : ks + 427 ≤ 7293034) (k : ∀ N' g', N' ≤ N + 1 → RE N' g' → al_S l mlaw L xs (kc + 5) (ks + 427) 2575 [(0, .ref (ab_SB + 5000)), (1, .ref 0), (2, .ref 206), (3, .ref 219), (4, .int (nI i))] [] (gH g')) : al_S l mlaw L xs kc ks 2252 [(0, .ref (ab_SB + 5000)), (1, .ref 0), (2, .ref 206), (3, .ref 219), (4, .int (nI i))] [] (gH g) := by
  have hF : 11000 < Fu := by decide
  refine al_aload_n (pc := 2252) (n := 1) (i := 1) (j := 1) (by decide +kernel) rfl rfl ?_
  refine al_aload_n (pc := 2253) (n := 0) (i := 0) (j := 0) (by decide +kernel) rfl rfl ?_
  refine al_iload (pc := 2254) (i := 4) (j := 4) (by decide +kernel) rfl ?_
  refine al_iconst (pc := 2256) (n := 1) (v := nI 1) (by decide +kernel) rfl ?_
  refine al_iadd (pc := 2257) (by decide +kernel) ?_
  refine al_sld (pc := 2258) (sc_in hi hL (j := 1) (by decide)) (by decide +kernel) ?_
  refine al_aload_n (pc := 2259) (n := 0) (i := 0) (j := 0) (by decide +kernel) rfl rfl ?_
  refine al_iload (pc := 2260) (i := 4) (j := 4) (by decide +kernel) rfl ?_
  refine al_iconst (pc := 2262) (n := 2) (v := nI 2) (by decide +kernel) rfl ?_
  refine al_iadd (pc := 2263) (by decide +kernel) ?_
  refine al_sld (pc := 2264) (sc_in hi hL (j := 2) (by decide)) (by decide +kernel) ?_
  refine al_if_eq (pc := 2265) (off := 7) (tgt := 2272) (by decide +kernel) (by decide) (fun g0 => ?_) (fun g0 => ?_)
  · refine al_iconst (pc := 2272) (n := 0) (v := nI 0) (by decide +kernel) rfl ?_
    refine al_aload_n (pc := 2273) (n := 3) (i := 3) (j := 3) (by decide +kernel) rfl rfl ?_
    have hN2 : N ≤ N + 1 := Nat.le_succ _
    obtain ⟨k0, g1, v, g2, eX, eY, eT, eO, R2⟩ : Cw N (fun v : Int32 => v.toInt64) (fL_span Fu 0 ((xs ((nI i) + (nI 1)).toNatClampNeg)) ((nI 0)) 219 (gH g)) (fun h => fX12_span Fu 206 ((xs ((nI i) + (nI 1)).toNatClampNeg)) ((nI 0)) h) := (by unfold fL_span; rw [ab_ck_pos (io_0 g)]; exact Cw_a (w := (fun h v => ab_bd (ab_lw h 219 (nI 0) v.toInt64) fun h1 => some (nI 0, h1))) (fun φ h => pf_X12_span φ Fu 206 ((xs ((nI i) + (nI 1)).toNatClampNeg)) ((nI 0)) h) w_out (by decide) (ca_span R ((xs ((nI i) + (nI 1)).toNatClampNeg)) ((nI 0)) (F := Fu) hF))
    have hO : k0 = 0 → gL g2 219 0 = v.toInt64 := eO
    refine al_wrap (M' := mL_span) (hh := hL_span) (As := [.ref 0, .int (xs ((nI i) + (nI 1)).toNatClampNeg), .int (nI 0), .ref 219]) (st := []) (v := some (.int k0)) (h' := gH g1) (n := 4) (pc := 2274) (index := 269) (Nat.le_of_ble_eq_true rfl) (Nat.le_of_ble_eq_true rfl) hc hs ⟨cwL_span, kw_e382c795c0, by decide +kernel⟩ kw_e32b3ace72 kw_aefbd99813 rfl rfl (Nat.le_of_ble_eq_true rfl) (by decide +kernel) (okL_span hl eX) ?_
    refine al_istore (pc := 2277) (i := 5) (lv' := [(0, .ref (ab_SB + 5000)), (1, .ref 0), (2, .ref 206), (3, .ref 219), (4, .int (nI i)), (5, .int k0)]) (by decide +kernel) (by decide) rfl rfl ?_
    refine al_aload_n (pc := 2279) (n := 2) (i := 2) (j := 2) (by decide +kernel) rfl rfl ?_
    refine al_aload_n (pc := 2280) (n := 0) (i := 0) (j := 0) (by decide +kernel) rfl rfl ?_
    refine al_iload (pc := 2281) (i := 4) (j := 4) (by decide +kernel) rfl ?_
    refine al_iconst (pc := 2283) (n := 1) (v := nI 1) (by decide +kernel) rfl ?_
    refine al_iadd (pc := 2284) (by decide +kernel) ?_
    refine al_sld (pc := 2285) (sc_in hi hL (j := 1) (by decide)) (by decide +kernel) ?_
    refine al_aload_n (pc := 2286) (n := 0) (i := 0) (j := 0) (by decide +kernel) rfl rfl ?_
    refine al_iload (pc := 2287) (i := 4) (j := 4) (by decide +kernel) rfl ?_
    refine al_iconst (pc := 2289) (n := 2) (v := nI 2) (by decide +kernel) rfl ?_
    refine al_iadd (pc := 2290) (by decide +kernel) ?_
    refine al_sld (pc := 2291) (sc_in hi hL (j := 2) (by decide)) (by decide +kernel) ?_
    refine al_if_eq (pc := 2292) (off := 7) (tgt := 2299) (by decide +kernel) (by decide) (fun _ => ?_) (fun gz => absurd g0 gz)
    refine al_iconst (pc := 2299) (n := 0) (v := nI 0) (by decide +kernel) rfl ?_
    refine al_ref (M' := mX12_span) (As := [.int (xs ((nI i) + (nI 1)).toNatClampNeg), .int (nI 0)]) (a := 206) (ci := 12) (st := []) (v := some (.int v)) (h' := gH g2) (pc := 2300) (index := 272) rfl rfl hc hs (io_206 _) rfl iX12_span kw_f6f7ad1754 kw_e76bd083c8 kw_75f0033107 rfl rfl (Nat.le_of_ble_eq_true rfl) (by decide +kernel) (okX12_span hl eY) ?_
    refine al_istore (pc := 2303) (i := 6) (lv' := [(0, .ref (ab_SB + 5000)), (1, .ref 0), (2, .ref 206), (3, .ref 219), (4, .int (nI i)), (5, .int k0), (6, .int v)]) (by decide +kernel) (by decide) rfl rfl ?_
    refine al_aload_n (pc := 2305) (n := 2) (i := 2) (j := 2) (by decide +kernel) rfl rfl ?_
    refine al_ref (M' := mX12_thrown) (As := []) (a := 206) (ci := 12) (st := []) (v := some (.int (gF g2 206 0))) (h' := gH g2) (pc := 2306) (index := 137) rfl rfl hc hs (io_206 g2) rfl iX12_thrown kw_3a20f3984e kw_5ecf1a43fc kw_b4788dccf4 rfl rfl (Nat.le_of_ble_eq_true rfl) (by decide +kernel) (okX12_thrown hl (f_thrown g2)) ?_
    refine al_iload (pc := 2309) (i := 5) (j := 5) (by decide +kernel) rfl ?_
    refine al_icmp_eq (pc := 2311) (off := 5) (tgt := 2316) (by decide +kernel) (by decide) (fun _ => ?_) (fun gz => absurd eT gz)
    refine al_iload (pc := 2316) (i := 5) (j := 5) (by decide +kernel) rfl ?_
    refine al_if_ne (pc := 2318) (off := 15) (tgt := 2333) (by decide +kernel) (by decide) (fun g1 => ?_) (fun g1 => ?_)
    · refine al_aload_n (pc := 2321) (n := 3) (i := 3) (j := 3) (by decide +kernel) rfl rfl ?_
      refine al_iconst (pc := 2322) (n := 0) (v := nI 0) (by decide +kernel) rfl ?_
      refine al_lald (pc := 2323) (la_219 g2 (by decide)) (by decide +kernel) ?_
      refine al_iload (pc := 2324) (i := 6) (j := 6) (by decide +kernel) rfl ?_
      refine al_i2l (pc := 2326) (by decide +kernel) ?_
      refine al_lcmp (pc := 2327) (by decide +kernel) ?_
      refine al_if_eq (pc := 2328) (off := 5) (tgt := 2333) (by decide +kernel) (by decide) (fun _ => ?_) (fun gz => absurd (by rw [hO g1]; exact lg_cmp_self _) gz)
      refine al_goto (pc := 2333) (off := 242) (tgt := 2575) (by decide +kernel) (by decide) ?_
      refine al_few [0, 1, 2, 3, 4] (lv' := [(0, .ref (ab_SB + 5000)), (1, .ref 0), (2, .ref 206), (3, .ref 219), (4, .int (nI i))]) rfl ?_
      exact k _ _ hN2 R2
    · refine al_goto (pc := 2333) (off := 242) (tgt := 2575) (by decide +kernel) (by decide) ?_
      refine al_few [0, 1, 2, 3, 4] (lv' := [(0, .ref (ab_SB + 5000)), (1, .ref 0), (2, .ref 206), (3, .ref 219), (4, .int (nI i))]) rfl ?_
      exact k _ _ hN2 R2
  · refine al_iconst (pc := 2268) (n := 1) (v := nI 1) (by decide +kernel) rfl ?_
    refine al_goto (pc := 2269) (off := 4) (tgt := 2273) (by decide +kernel) (by decide) ?_
    refine al_aload_n (pc := 2273) (n := 3) (i := 3) (j := 3) (by decide +kernel) rfl rfl ?_
    have hN2 : N ≤ N + 1 := Nat.le_succ _
    obtain ⟨k0, g1, v, g2, eX, eY, eT, eO, R2⟩ : Cw N (fun v : Int32 => v.toInt64) (fL_span Fu 0 ((xs ((nI i) + (nI 1)).toNatClampNeg)) ((nI 1)) 219 (gH g)) (fun h => fX12_span Fu 206 ((xs ((nI i) + (nI 1)).toNatClampNeg)) ((nI 1)) h) := (by unfold fL_span; rw [ab_ck_pos (io_0 g)]; exact Cw_a (w := (fun h v => ab_bd (ab_lw h 219 (nI 0) v.toInt64) fun h1 => some (nI 0, h1))) (fun φ h => pf_X12_span φ Fu 206 ((xs ((nI i) + (nI 1)).toNatClampNeg)) ((nI 1)) h) w_out (by decide) (ca_span R ((xs ((nI i) + (nI 1)).toNatClampNeg)) ((nI 1)) (F := Fu) hF))
    have hO : k0 = 0 → gL g2 219 0 = v.toInt64 := eO
    refine al_wrap (M' := mL_span) (hh := hL_span) (As := [.ref 0, .int (xs ((nI i) + (nI 1)).toNatClampNeg), .int (nI 1), .ref 219]) (st := []) (v := some (.int k0)) (h' := gH g1) (n := 4) (pc := 2274) (index := 269) (Nat.le_of_ble_eq_true rfl) (Nat.le_of_ble_eq_true rfl) hc hs ⟨cwL_span, kw_e382c795c0, by decide +kernel⟩ kw_e32b3ace72 kw_aefbd99813 rfl rfl (Nat.le_of_ble_eq_true rfl) (by decide +kernel) (okL_span hl eX) ?_
    refine al_istore (pc := 2277) (i := 5) (lv' := [(0, .ref (ab_SB + 5000)), (1, .ref 0), (2, .ref 206), (3, .ref 219), (4, .int (nI i)), (5, .int k0)]) (by decide +kernel) (by decide) rfl rfl ?_
    refine al_aload_n (pc := 2279) (n := 2) (i := 2) (j := 2) (by decide +kernel) rfl rfl ?_
    refine al_aload_n (pc := 2280) (n := 0) (i := 0) (j := 0) (by decide +kernel) rfl rfl ?_
    refine al_iload (pc := 2281) (i := 4) (j := 4) (by decide +kernel) rfl ?_
    refine al_iconst (pc := 2283) (n := 1) (v := nI 1) (by decide +kernel) rfl ?_
    refine al_iadd (pc := 2284) (by decide +kernel) ?_
    refine al_sld (pc := 2285) (sc_in hi hL (j := 1) (by decide)) (by decide +kernel) ?_
    refine al_aload_n (pc := 2286) (n := 0) (i := 0) (j := 0) (by decide +kernel) rfl rfl ?_
    refine al_iload (pc := 2287) (i := 4) (j := 4) (by decide +kernel) rfl ?_
    refine al_iconst (pc := 2289) (n := 2) (v := nI 2) (by decide +kernel) rfl ?_
    refine al_iadd (pc := 2290) (by decide +kernel) ?_
    refine al_sld (pc := 2291) (sc_in hi hL (j := 2) (by decide)) (by decide +kernel) ?_
    refine al_if_eq (pc := 2292) (off := 7) (tgt := 2299) (by decide +kernel) (by decide) (fun gz => absurd gz g0) (fun _ => ?_)
    refine al_iconst (pc := 2295) (n := 1) (v := nI 1) (by decide +kernel) rfl ?_
    refine al_goto (pc := 2296) (off := 4) (tgt := 2300) (by decide +kernel) (by decide) ?_
    refine al_ref (M' := mX12_span) (As := [.int (xs ((nI i) + (nI 1)).toNatClampNeg), .int (nI 1)]) (a := 206) (ci := 12) (st := []) (v := some (.int v)) (h' := gH g2) (pc := 2300) (index := 272) rfl rfl hc hs (io_206 _) rfl iX12_span kw_f6f7ad1754 kw_e76bd083c8 kw_75f0033107 rfl rfl (Nat.le_of_ble_eq_true rfl) (by decide +kernel) (okX12_span hl eY) ?_
    refine al_istore (pc := 2303) (i := 6) (lv' := [(0, .ref (ab_SB + 5000)), (1, .ref 0), (2, .ref 206), (3, .ref 219), (4, .int (nI i)), (5, .int k0), (6, .int v)]) (by decide +kernel) (by decide) rfl rfl ?_
    refine al_aload_n (pc := 2305) (n := 2) (i := 2) (j := 2) (by decide +kernel) rfl rfl ?_
    refine al_ref (M' := mX12_thrown) (As := []) (a := 206) (ci := 12) (st := []) (v := some (.int (gF g2 206 0))) (h' := gH g2) (pc := 2306) (index := 137) rfl rfl hc hs (io_206 g2) rfl iX12_thrown kw_3a20f3984e kw_5ecf1a43fc kw_b4788dccf4 rfl rfl (Nat.le_of_ble_eq_true rfl) (by decide +kernel) (okX12_thrown hl (f_thrown g2)) ?_
    refine al_iload (pc := 2309) (i := 5) (j := 5) (by decide +kernel) rfl ?_
    refine al_icmp_eq (pc := 2311) (off := 5) (tgt := 2316) (by decide +kernel) (by decide) (fun _ => ?_) (fun gz => absurd eT gz)
    refine al_iload (pc := 2316) (i := 5) (j := 5) (by decide +kernel) rfl ?_
    refine al_if_ne (pc := 2318) (off := 15) (tgt := 2333) (by decide +kernel) (by decide) (fun g1 => ?_) (fun g1 => ?_)
    · refine al_aload_n (pc := 2321) (n := 3) (i := 3) (j := 3) (by decide +kernel) rfl rfl ?_
      refine al_iconst (pc := 2322) (n := 0) (v := nI 0) (by decide +kernel) rfl ?_
      refine al_lald (pc := 2323) (la_219 g2 (by decide)) (by decide +kernel) ?_
      refine al_iload (pc := 2324) (i := 6) (j := 6) (by decide +kernel) rfl ?_
      refine al_i2l (pc := 2326) (by decide +kernel) ?_
      refine al_lcmp (pc := 2327) (by decide +kernel) ?_
      refine al_if_eq (pc := 2328) (off := 5) (tgt := 2333) (by decide +kernel) (by decide) (fun _ => ?_) (fun gz => absurd (by rw [hO g1]; exact lg_cmp_self _) gz)
      refine al_goto (pc := 2333) (off := 242) (tgt := 2575) (by decide +kernel) (by decide) ?_
      refine al_few [0, 1, 2, 3, 4] (lv' := [(0, .ref (ab_SB + 5000)), (1, .ref 0), (2, .ref 206), (3, .ref 219), (4, .int (nI i))]) rfl ?_
      exact k _ _ hN2 R2
    · refine al_goto (pc := 2333) (off := 242) (tgt := 2575) (by decide +kernel) (by decide) ?_
      refine al_few [0, 1, 2, 3, 4] (lv' := [(0, .ref (ab_SB + 5000)), (1, .ref 0), (2, .ref 206), (3, .ref 219), (4, .int (nI i))]) rfl ?_
      exact k _ _ hN2 R2
set_option maxRecDepth 100000 in
set_option maxHeartbeats 4000000 in
theorem lc_42 {l : Launch} (hl : l.stackTraces = false) {L : Nat} {xs : Nat → Int32} {N : Nat} {g : gG} (R : RE N g) (hN : N < 1000) {i : Nat} (hi : i + 6 ≤ L) (hL : L ≤ 3072) {kc ks : Nat} (hc : kc + 5 ≤ 601024) (hs : ks + 427 ≤ 7293034) (k : ∀ N' g', N' ≤ N + 1 → RE N' g' → al_S l mlaw L xs (kc + 5) (ks + 427) 2575 [(0, .ref (ab_SB + 5000)), (1, .ref 0), (2, .ref 206), (3, .ref 219), (4, .int (nI i))] [] (gH g')) : al_S l mlaw L xs kc ks 2336 [(0, .ref (ab_SB + 5000)), (1, .ref 0), (2, .ref 206), (3, .ref 219), (4, .int (nI i))] [] (gH g) := by
  have hF : 11000 < Fu := by decide
  refine al_aload_n (pc := 2336) (n := 1) (i := 1) (j := 1) (by decide +kernel) rfl rfl ?_
  refine al_aload_n (pc := 2337) (n := 0) (i := 0) (j := 0) (by decide +kernel) rfl rfl ?_
  refine al_iload (pc := 2338) (i := 4) (j := 4) (by decide +kernel) rfl ?_
  refine al_iconst (pc := 2340) (n := 1) (v := nI 1) (by decide +kernel) rfl ?_
  refine al_iadd (pc := 2341) (by decide +kernel) ?_
  refine al_sld (pc := 2342) (sc_in hi hL (j := 1) (by decide)) (by decide +kernel) ?_
  refine al_aload_n (pc := 2343) (n := 0) (i := 0) (j := 0) (by decide +kernel) rfl rfl ?_
  refine al_iload (pc := 2344) (i := 4) (j := 4) (by decide +kernel) rfl ?_
  refine al_iconst (pc := 2346) (n := 2) (v := nI 2) (by decide +kernel) rfl ?_
  refine al_iadd (pc := 2347) (by decide +kernel) ?_
  refine al_sld (pc := 2348) (sc_in hi hL (j := 2) (by decide)) (by decide +kernel) ?_
  refine al_if_eq (pc := 2349) (off := 7) (tgt := 2356) (by decide +kernel) (by decide) (fun g0 => ?_) (fun g0 => ?_)
  · refine al_iconst (pc := 2356) (n := 0) (v := nI 0) (by decide +kernel) rfl ?_
    refine al_aload_n (pc := 2357) (n := 3) (i := 3) (j := 3) (by decide +kernel) rfl rfl ?_
    have hN2 : N ≤ N + 1 := Nat.le_succ _
    obtain ⟨k0, g1, v, g2, eX, eY, eT, eO, R2⟩ : Cw N (fun v : Int32 => v.toInt64) (fL_led Fu 0 ((xs ((nI i) + (nI 1)).toNatClampNeg)) ((nI 0)) 219 (gH g)) (fun h => fX12_led Fu 206 ((xs ((nI i) + (nI 1)).toNatClampNeg)) ((nI 0)) h) := (by unfold fL_led; rw [ab_ck_pos (io_0 g)]; exact Cw_q (w := (fun h v => ab_bd (ab_lw h 219 (nI 0) v.toInt64) fun h1 => some (nI 0, h1))) (fun φ h => pf_X12_led φ Fu 206 ((xs ((nI i) + (nI 1)).toNatClampNeg)) ((nI 0)) h) w_out (by decide) (cq_led R ((xs ((nI i) + (nI 1)).toNatClampNeg)) ((nI 0)) (F := Fu) hF))
    have hO : k0 = 0 → gL g2 219 0 = v.toInt64 := eO
    refine al_wrap (M' := mL_led) (hh := hL_led) (As := [.ref 0, .int (xs ((nI i) + (nI 1)).toNatClampNeg), .int (nI 0), .ref 219]) (st := []) (v := some (.int k0)) (h' := gH g1) (n := 4) (pc := 2358) (index := 273) (Nat.le_of_ble_eq_true rfl) (Nat.le_of_ble_eq_true rfl) hc hs ⟨cwL_led, kw_e382c795c0, by decide +kernel⟩ kw_9426653c76 kw_1d6fcb4c63 rfl rfl (Nat.le_of_ble_eq_true rfl) (by decide +kernel) (okL_led hl eX) ?_
    refine al_istore (pc := 2361) (i := 5) (lv' := [(0, .ref (ab_SB + 5000)), (1, .ref 0), (2, .ref 206), (3, .ref 219), (4, .int (nI i)), (5, .int k0)]) (by decide +kernel) (by decide) rfl rfl ?_
    refine al_aload_n (pc := 2363) (n := 2) (i := 2) (j := 2) (by decide +kernel) rfl rfl ?_
    refine al_aload_n (pc := 2364) (n := 0) (i := 0) (j := 0) (by decide +kernel) rfl rfl ?_
    refine al_iload (pc := 2365) (i := 4) (j := 4) (by decide +kernel) rfl ?_
    refine al_iconst (pc := 2367) (n := 1) (v := nI 1) (by decide +kernel) rfl ?_
    refine al_iadd (pc := 2368) (by decide +kernel) ?_
    refine al_sld (pc := 2369) (sc_in hi hL (j := 1) (by decide)) (by decide +kernel) ?_
    refine al_aload_n (pc := 2370) (n := 0) (i := 0) (j := 0) (by decide +kernel) rfl rfl ?_
    refine al_iload (pc := 2371) (i := 4) (j := 4) (by decide +kernel) rfl ?_
    refine al_iconst (pc := 2373) (n := 2) (v := nI 2) (by decide +kernel) rfl ?_
    refine al_iadd (pc := 2374) (by decide +kernel) ?_
    refine al_sld (pc := 2375) (sc_in hi hL (j := 2) (by decide)) (by decide +kernel) ?_
    refine al_if_eq (pc := 2376) (off := 7) (tgt := 2383) (by decide +kernel) (by decide) (fun _ => ?_) (fun gz => absurd g0 gz)
    refine al_iconst (pc := 2383) (n := 0) (v := nI 0) (by decide +kernel) rfl ?_
    refine al_ref (M' := mX12_led) (As := [.int (xs ((nI i) + (nI 1)).toNatClampNeg), .int (nI 0)]) (a := 206) (ci := 12) (st := []) (v := some (.int v)) (h' := gH g2) (pc := 2384) (index := 275) rfl rfl hc hs (io_206 _) rfl iX12_led kw_717c66282a kw_7b6c78abd9 kw_2528f6c79e rfl rfl (Nat.le_of_ble_eq_true rfl) (by decide +kernel) (okX12_led hl eY) ?_
    refine al_istore (pc := 2387) (i := 6) (lv' := [(0, .ref (ab_SB + 5000)), (1, .ref 0), (2, .ref 206), (3, .ref 219), (4, .int (nI i)), (5, .int k0), (6, .int v)]) (by decide +kernel) (by decide) rfl rfl ?_
    refine al_aload_n (pc := 2389) (n := 2) (i := 2) (j := 2) (by decide +kernel) rfl rfl ?_
    refine al_ref (M' := mX12_thrown) (As := []) (a := 206) (ci := 12) (st := []) (v := some (.int (gF g2 206 0))) (h' := gH g2) (pc := 2390) (index := 137) rfl rfl hc hs (io_206 g2) rfl iX12_thrown kw_3a20f3984e kw_5ecf1a43fc kw_b4788dccf4 rfl rfl (Nat.le_of_ble_eq_true rfl) (by decide +kernel) (okX12_thrown hl (f_thrown g2)) ?_
    refine al_iload (pc := 2393) (i := 5) (j := 5) (by decide +kernel) rfl ?_
    refine al_icmp_eq (pc := 2395) (off := 5) (tgt := 2400) (by decide +kernel) (by decide) (fun _ => ?_) (fun gz => absurd eT gz)
    refine al_iload (pc := 2400) (i := 5) (j := 5) (by decide +kernel) rfl ?_
    refine al_if_ne (pc := 2402) (off := 15) (tgt := 2417) (by decide +kernel) (by decide) (fun g1 => ?_) (fun g1 => ?_)
    · refine al_aload_n (pc := 2405) (n := 3) (i := 3) (j := 3) (by decide +kernel) rfl rfl ?_
      refine al_iconst (pc := 2406) (n := 0) (v := nI 0) (by decide +kernel) rfl ?_
      refine al_lald (pc := 2407) (la_219 g2 (by decide)) (by decide +kernel) ?_
      refine al_iload (pc := 2408) (i := 6) (j := 6) (by decide +kernel) rfl ?_
      refine al_i2l (pc := 2410) (by decide +kernel) ?_
      refine al_lcmp (pc := 2411) (by decide +kernel) ?_
      refine al_if_eq (pc := 2412) (off := 5) (tgt := 2417) (by decide +kernel) (by decide) (fun _ => ?_) (fun gz => absurd (by rw [hO g1]; exact lg_cmp_self _) gz)
      refine al_goto (pc := 2417) (off := 158) (tgt := 2575) (by decide +kernel) (by decide) ?_
      refine al_few [0, 1, 2, 3, 4] (lv' := [(0, .ref (ab_SB + 5000)), (1, .ref 0), (2, .ref 206), (3, .ref 219), (4, .int (nI i))]) rfl ?_
      exact k _ _ hN2 R2
    · refine al_goto (pc := 2417) (off := 158) (tgt := 2575) (by decide +kernel) (by decide) ?_
      refine al_few [0, 1, 2, 3, 4] (lv' := [(0, .ref (ab_SB + 5000)), (1, .ref 0), (2, .ref 206), (3, .ref 219), (4, .int (nI i))]) rfl ?_
      exact k _ _ hN2 R2
  · refine al_iconst (pc := 2352) (n := 1) (v := nI 1) (by decide +kernel) rfl ?_
    refine al_goto (pc := 2353) (off := 4) (tgt := 2357) (by decide +kernel) (by decide) ?_
    refine al_aload_n (pc := 2357) (n := 3) (i := 3) (j := 3) (by decide +kernel) rfl rfl ?_
    have hN2 : N ≤ N + 1 := Nat.le_succ _
    obtain ⟨k0, g1, v, g2, eX, eY, eT, eO, R2⟩ : Cw N (fun v : Int32 => v.toInt64) (fL_led Fu 0 ((xs ((nI i) + (nI 1)).toNatClampNeg)) ((nI 1)) 219 (gH g)) (fun h => fX12_led Fu 206 ((xs ((nI i) + (nI 1)).toNatClampNeg)) ((nI 1)) h) := (by unfold fL_led; rw [ab_ck_pos (io_0 g)]; exact Cw_q (w := (fun h v => ab_bd (ab_lw h 219 (nI 0) v.toInt64) fun h1 => some (nI 0, h1))) (fun φ h => pf_X12_led φ Fu 206 ((xs ((nI i) + (nI 1)).toNatClampNeg)) ((nI 1)) h) w_out (by decide) (cq_led R ((xs ((nI i) + (nI 1)).toNatClampNeg)) ((nI 1)) (F := Fu) hF))
    have hO : k0 = 0 → gL g2 219 0 = v.toInt64 := eO
    refine al_wrap (M' := mL_led) (hh := hL_led) (As := [.ref 0, .int (xs ((nI i) + (nI 1)).toNatClampNeg), .int (nI 1), .ref 219]) (st := []) (v := some (.int k0)) (h' := gH g1) (n := 4) (pc := 2358) (index := 273) (Nat.le_of_ble_eq_true rfl) (Nat.le_of_ble_eq_true rfl) hc hs ⟨cwL_led, kw_e382c795c0, by decide +kernel⟩ kw_9426653c76 kw_1d6fcb4c63 rfl rfl (Nat.le_of_ble_eq_true rfl) (by decide +kernel) (okL_led hl eX) ?_
    refine al_istore (pc := 2361) (i := 5) (lv' := [(0, .ref (ab_SB + 5000)), (1, .ref 0), (2, .ref 206), (3, .ref 219), (4, .int (nI i)), (5, .int k0)]) (by decide +kernel) (by decide) rfl rfl ?_
    refine al_aload_n (pc := 2363) (n := 2) (i := 2) (j := 2) (by decide +kernel) rfl rfl ?_
    refine al_aload_n (pc := 2364) (n := 0) (i := 0) (j := 0) (by decide +kernel) rfl rfl ?_
    refine al_iload (pc := 2365) (i := 4) (j := 4) (by decide +kernel) rfl ?_
    refine al_iconst (pc := 2367) (n := 1) (v := nI 1) (by decide +kernel) rfl ?_
    refine al_iadd (pc := 2368) (by decide +kernel) ?_
    refine al_sld (pc := 2369) (sc_in hi hL (j := 1) (by decide)) (by decide +kernel) ?_
    refine al_aload_n (pc := 2370) (n := 0) (i := 0) (j := 0) (by decide +kernel) rfl rfl ?_
    refine al_iload (pc := 2371) (i := 4) (j := 4) (by decide +kernel) rfl ?_
    refine al_iconst (pc := 2373) (n := 2) (v := nI 2) (by decide +kernel) rfl ?_
    refine al_iadd (pc := 2374) (by decide +kernel) ?_
    refine al_sld (pc := 2375) (sc_in hi hL (j := 2) (by decide)) (by decide +kernel) ?_
    refine al_if_eq (pc := 2376) (off := 7) (tgt := 2383) (by decide +kernel) (by decide) (fun gz => absurd gz g0) (fun _ => ?_)
    refine al_iconst (pc := 2379) (n := 1) (v := nI 1) (by decide +kernel) rfl ?_
    refine al_goto (pc := 2380) (off := 4) (tgt := 2384) (by decide +kernel) (by decide) ?_
    refine al_ref (M' := mX12_led) (As := [.int (xs ((nI i) + (nI 1)).toNatClampNeg), .int (nI 1)]) (a := 206) (ci := 12) (st := []) (v := some (.int v)) (h' := gH g2) (pc := 2384) (index := 275) rfl rfl hc hs (io_206 _) rfl iX12_led kw_717c66282a kw_7b6c78abd9 kw_2528f6c79e rfl rfl (Nat.le_of_ble_eq_true rfl) (by decide +kernel) (okX12_led hl eY) ?_
    refine al_istore (pc := 2387) (i := 6) (lv' := [(0, .ref (ab_SB + 5000)), (1, .ref 0), (2, .ref 206), (3, .ref 219), (4, .int (nI i)), (5, .int k0), (6, .int v)]) (by decide +kernel) (by decide) rfl rfl ?_
    refine al_aload_n (pc := 2389) (n := 2) (i := 2) (j := 2) (by decide +kernel) rfl rfl ?_
    refine al_ref (M' := mX12_thrown) (As := []) (a := 206) (ci := 12) (st := []) (v := some (.int (gF g2 206 0))) (h' := gH g2) (pc := 2390) (index := 137) rfl rfl hc hs (io_206 g2) rfl iX12_thrown kw_3a20f3984e kw_5ecf1a43fc kw_b4788dccf4 rfl rfl (Nat.le_of_ble_eq_true rfl) (by decide +kernel) (okX12_thrown hl (f_thrown g2)) ?_
    refine al_iload (pc := 2393) (i := 5) (j := 5) (by decide +kernel) rfl ?_
    refine al_icmp_eq (pc := 2395) (off := 5) (tgt := 2400) (by decide +kernel) (by decide) (fun _ => ?_) (fun gz => absurd eT gz)
    refine al_iload (pc := 2400) (i := 5) (j := 5) (by decide +kernel) rfl ?_
    refine al_if_ne (pc := 2402) (off := 15) (tgt := 2417) (by decide +kernel) (by decide) (fun g1 => ?_) (fun g1 => ?_)
    · refine al_aload_n (pc := 2405) (n := 3) (i := 3) (j := 3) (by decide +kernel) rfl rfl ?_
      refine al_iconst (pc := 2406) (n := 0) (v := nI 0) (by decide +kernel) rfl ?_
      refine al_lald (pc := 2407) (la_219 g2 (by decide)) (by decide +kernel) ?_
      refine al_iload (pc := 2408) (i := 6) (j := 6) (by decide +kernel) rfl ?_
      refine al_i2l (pc := 2410) (by decide +kernel) ?_
      refine al_lcmp (pc := 2411) (by decide +kernel) ?_
      refine al_if_eq (pc := 2412) (off := 5) (tgt := 2417) (by decide +kernel) (by decide) (fun _ => ?_) (fun gz => absurd (by rw [hO g1]; exact lg_cmp_self _) gz)
      refine al_goto (pc := 2417) (off := 158) (tgt := 2575) (by decide +kernel) (by decide) ?_
      refine al_few [0, 1, 2, 3, 4] (lv' := [(0, .ref (ab_SB + 5000)), (1, .ref 0), (2, .ref 206), (3, .ref 219), (4, .int (nI i))]) rfl ?_
      exact k _ _ hN2 R2
    · refine al_goto (pc := 2417) (off := 158) (tgt := 2575) (by decide +kernel) (by decide) ?_
      refine al_few [0, 1, 2, 3, 4] (lv' := [(0, .ref (ab_SB + 5000)), (1, .ref 0), (2, .ref 206), (3, .ref 219), (4, .int (nI i))]) rfl ?_
      exact k _ _ hN2 R2
set_option maxRecDepth 100000 in
set_option maxHeartbeats 4000000 in
theorem lc_43 {l : Launch} (hl : l.stackTraces = false) {L : Nat} {xs : Nat → Int32} {N : Nat} {g : gG} (R : RE N g) (hN : N < 1000) {i : Nat} (hi : i + 6 ≤ L) (hL : L ≤ 3072) {kc ks : Nat} (hc : kc + 5 ≤ 601024) (hs : ks + 427 ≤ 7293034) (k : ∀ N' g', N' ≤ N + 1 → RE N' g' → al_S l mlaw L xs (kc + 5) (ks + 427) 2575 [(0, .ref (ab_SB + 5000)), (1, .ref 0), (2, .ref 206), (3, .ref 219), (4, .int (nI i))] [] (gH g')) : al_S l mlaw L xs kc ks 2420 [(0, .ref (ab_SB + 5000)), (1, .ref 0), (2, .ref 206), (3, .ref 219), (4, .int (nI i))] [] (gH g) := by
  have hF : 11000 < Fu := by decide
  refine al_aload_n (pc := 2420) (n := 1) (i := 1) (j := 1) (by decide +kernel) rfl rfl ?_
  refine al_aload_n (pc := 2421) (n := 0) (i := 0) (j := 0) (by decide +kernel) rfl rfl ?_
  refine al_iload (pc := 2422) (i := 4) (j := 4) (by decide +kernel) rfl ?_
  refine al_iconst (pc := 2424) (n := 1) (v := nI 1) (by decide +kernel) rfl ?_
  refine al_iadd (pc := 2425) (by decide +kernel) ?_
  refine al_sld (pc := 2426) (sc_in hi hL (j := 1) (by decide)) (by decide +kernel) ?_
  refine al_aload_n (pc := 2427) (n := 0) (i := 0) (j := 0) (by decide +kernel) rfl rfl ?_
  refine al_iload (pc := 2428) (i := 4) (j := 4) (by decide +kernel) rfl ?_
  refine al_iconst (pc := 2430) (n := 2) (v := nI 2) (by decide +kernel) rfl ?_
  refine al_iadd (pc := 2431) (by decide +kernel) ?_
  refine al_sld (pc := 2432) (sc_in hi hL (j := 2) (by decide)) (by decide +kernel) ?_
  refine al_aload_n (pc := 2433) (n := 3) (i := 3) (j := 3) (by decide +kernel) rfl rfl ?_
  have hN2 : N ≤ N + 1 := Nat.le_succ _
  obtain ⟨k0, g1, v, g2, eX, eY, eT, eO, R2⟩ : Cw N (fun v : Int32 => v.toInt64) (fL_log 0 ((xs ((nI i) + (nI 1)).toNatClampNeg)) ((xs ((nI i) + (nI 2)).toNatClampNeg)) 219 (gH g)) (fun h => fX12_log 206 ((xs ((nI i) + (nI 1)).toNatClampNeg)) ((xs ((nI i) + (nI 2)).toNatClampNeg)) h) := (by unfold fL_log; rw [ab_ck_pos (io_0 g)]; exact Cw_q (w := (fun h v => ab_bd (ab_lw h 219 (nI 0) v.toInt64) fun h1 => some (nI 0, h1))) (fun φ h => pf_X12_log φ 206 ((xs ((nI i) + (nI 1)).toNatClampNeg)) ((xs ((nI i) + (nI 2)).toNatClampNeg)) h) w_out (by decide) (cq_log R ((xs ((nI i) + (nI 1)).toNatClampNeg)) ((xs ((nI i) + (nI 2)).toNatClampNeg)) (F := Fu) hF))
  have hO : k0 = 0 → gL g2 219 0 = v.toInt64 := eO
  refine al_wrap (M' := mL_log) (hh := hL_log) (As := [.ref 0, .int (xs ((nI i) + (nI 1)).toNatClampNeg), .int (xs ((nI i) + (nI 2)).toNatClampNeg), .ref 219]) (st := []) (v := some (.int k0)) (h' := gH g1) (n := 4) (pc := 2434) (index := 276) (Nat.le_of_ble_eq_true rfl) (Nat.le_of_ble_eq_true rfl) hc hs ⟨cwL_log, kw_e382c795c0, by decide +kernel⟩ kw_7d1c1e25ec kw_06939c1cde rfl rfl (Nat.le_of_ble_eq_true rfl) (by decide +kernel) (okL_log hl eX) ?_
  refine al_istore (pc := 2437) (i := 5) (lv' := [(0, .ref (ab_SB + 5000)), (1, .ref 0), (2, .ref 206), (3, .ref 219), (4, .int (nI i)), (5, .int k0)]) (by decide +kernel) (by decide) rfl rfl ?_
  refine al_aload_n (pc := 2439) (n := 2) (i := 2) (j := 2) (by decide +kernel) rfl rfl ?_
  refine al_aload_n (pc := 2440) (n := 0) (i := 0) (j := 0) (by decide +kernel) rfl rfl ?_
  refine al_iload (pc := 2441) (i := 4) (j := 4) (by decide +kernel) rfl ?_
  refine al_iconst (pc := 2443) (n := 1) (v := nI 1) (by decide +kernel) rfl ?_
  refine al_iadd (pc := 2444) (by decide +kernel) ?_
  refine al_sld (pc := 2445) (sc_in hi hL (j := 1) (by decide)) (by decide +kernel) ?_
  refine al_aload_n (pc := 2446) (n := 0) (i := 0) (j := 0) (by decide +kernel) rfl rfl ?_
  refine al_iload (pc := 2447) (i := 4) (j := 4) (by decide +kernel) rfl ?_
  refine al_iconst (pc := 2449) (n := 2) (v := nI 2) (by decide +kernel) rfl ?_
  refine al_iadd (pc := 2450) (by decide +kernel) ?_
  refine al_sld (pc := 2451) (sc_in hi hL (j := 2) (by decide)) (by decide +kernel) ?_
  refine al_ref (M' := mX12_log) (As := [.int (xs ((nI i) + (nI 1)).toNatClampNeg), .int (xs ((nI i) + (nI 2)).toNatClampNeg)]) (a := 206) (ci := 12) (st := []) (v := some (.int v)) (h' := gH g2) (pc := 2452) (index := 278) rfl rfl hc hs (io_206 _) rfl iX12_log kw_3288cd6e8d kw_c3ae7e4f64 kw_5042727515 rfl rfl (Nat.le_of_ble_eq_true rfl) (by decide +kernel) (okX12_log hl eY) ?_
  refine al_istore (pc := 2455) (i := 6) (lv' := [(0, .ref (ab_SB + 5000)), (1, .ref 0), (2, .ref 206), (3, .ref 219), (4, .int (nI i)), (5, .int k0), (6, .int v)]) (by decide +kernel) (by decide) rfl rfl ?_
  refine al_aload_n (pc := 2457) (n := 2) (i := 2) (j := 2) (by decide +kernel) rfl rfl ?_
  refine al_ref (M' := mX12_thrown) (As := []) (a := 206) (ci := 12) (st := []) (v := some (.int (gF g2 206 0))) (h' := gH g2) (pc := 2458) (index := 137) rfl rfl hc hs (io_206 g2) rfl iX12_thrown kw_3a20f3984e kw_5ecf1a43fc kw_b4788dccf4 rfl rfl (Nat.le_of_ble_eq_true rfl) (by decide +kernel) (okX12_thrown hl (f_thrown g2)) ?_
  refine al_iload (pc := 2461) (i := 5) (j := 5) (by decide +kernel) rfl ?_
  refine al_icmp_eq (pc := 2463) (off := 5) (tgt := 2468) (by decide +kernel) (by decide) (fun _ => ?_) (fun gz => absurd eT gz)
  refine al_iload (pc := 2468) (i := 5) (j := 5) (by decide +kernel) rfl ?_
  refine al_if_ne (pc := 2470) (off := 15) (tgt := 2485) (by decide +kernel) (by decide) (fun g0 => ?_) (fun g0 => ?_)
  · refine al_aload_n (pc := 2473) (n := 3) (i := 3) (j := 3) (by decide +kernel) rfl rfl ?_
    refine al_iconst (pc := 2474) (n := 0) (v := nI 0) (by decide +kernel) rfl ?_
    refine al_lald (pc := 2475) (la_219 g2 (by decide)) (by decide +kernel) ?_
    refine al_iload (pc := 2476) (i := 6) (j := 6) (by decide +kernel) rfl ?_
    refine al_i2l (pc := 2478) (by decide +kernel) ?_
    refine al_lcmp (pc := 2479) (by decide +kernel) ?_
    refine al_if_eq (pc := 2480) (off := 5) (tgt := 2485) (by decide +kernel) (by decide) (fun _ => ?_) (fun gz => absurd (by rw [hO g0]; exact lg_cmp_self _) gz)
    refine al_goto (pc := 2485) (off := 90) (tgt := 2575) (by decide +kernel) (by decide) ?_
    refine al_few [0, 1, 2, 3, 4] (lv' := [(0, .ref (ab_SB + 5000)), (1, .ref 0), (2, .ref 206), (3, .ref 219), (4, .int (nI i))]) rfl ?_
    exact k _ _ hN2 R2
  · refine al_goto (pc := 2485) (off := 90) (tgt := 2575) (by decide +kernel) (by decide) ?_
    refine al_few [0, 1, 2, 3, 4] (lv' := [(0, .ref (ab_SB + 5000)), (1, .ref 0), (2, .ref 206), (3, .ref 219), (4, .int (nI i))]) rfl ?_
    exact k _ _ hN2 R2
set_option maxRecDepth 100000 in
set_option maxHeartbeats 4000000 in
theorem lc_44 {l : Launch} (hl : l.stackTraces = false) {L : Nat} {xs : Nat → Int32} {N : Nat} {g : gG} (R : RE N g) (hN : N < 1000) {i : Nat} (hi : i + 6 ≤ L) (hL : L ≤ 3072) {kc ks : Nat} (hc : kc + 5 ≤ 601024) (hs : ks + 427 ≤ 7293034) (k : ∀ N' g', N' ≤ N + 1 → RE N' g' → al_S l mlaw L xs (kc + 5) (ks + 427) 2575 [(0, .ref (ab_SB + 5000)), (1, .ref 0), (2, .ref 206), (3, .ref 219), (4, .int (nI i))] [] (gH g')) : al_S l mlaw L xs kc ks 2488 [(0, .ref (ab_SB + 5000)), (1, .ref 0), (2, .ref 206), (3, .ref 219), (4, .int (nI i))] [] (gH g) := by
  have hF : 11000 < Fu := by decide
  refine al_aload_n (pc := 2488) (n := 1) (i := 1) (j := 1) (by decide +kernel) rfl rfl ?_
  refine al_aload_n (pc := 2489) (n := 0) (i := 0) (j := 0) (by decide +kernel) rfl rfl ?_
  refine al_iload (pc := 2490) (i := 4) (j := 4) (by decide +kernel) rfl ?_
  refine al_iconst (pc := 2492) (n := 1) (v := nI 1) (by decide +kernel) rfl ?_
  refine al_iadd (pc := 2493) (by decide +kernel) ?_
  refine al_sld (pc := 2494) (sc_in hi hL (j := 1) (by decide)) (by decide +kernel) ?_
  have hN2 : N ≤ N + 1 := Nat.le_succ _
  obtain ⟨v, g1, g2, eX, eY, R2⟩ := cb_seed R ((xs ((nI i) + (nI 1)).toNatClampNeg))
  refine al_cls (M' := mX11_seed) (As := [.int (xs ((nI i) + (nI 1)).toNatClampNeg)]) (a := 0) (ci := 11) (st := []) (v := some (.int v)) (h' := gH g1) (pc := 2495) (index := 279) (Nat.le_of_ble_eq_true rfl) (Nat.le_of_ble_eq_true rfl) hc hs (io_0 g) rfl iX11_seed kw_f84aa22aa8 kw_635f086b06 kw_4d3de8e843 rfl rfl (Nat.le_of_ble_eq_true rfl) (by decide +kernel) (okX11_seed hl eX) ?_
  refine al_aload_n (pc := 2498) (n := 2) (i := 2) (j := 2) (by decide +kernel) rfl rfl ?_
  refine al_aload_n (pc := 2499) (n := 0) (i := 0) (j := 0) (by decide +kernel) rfl rfl ?_
  refine al_iload (pc := 2500) (i := 4) (j := 4) (by decide +kernel) rfl ?_
  refine al_iconst (pc := 2502) (n := 1) (v := nI 1) (by decide +kernel) rfl ?_
  refine al_iadd (pc := 2503) (by decide +kernel) ?_
  refine al_sld (pc := 2504) (sc_in hi hL (j := 1) (by decide)) (by decide +kernel) ?_
  refine al_ref (M' := mX12_seed) (As := [.int (xs ((nI i) + (nI 1)).toNatClampNeg)]) (a := 206) (ci := 12) (st := [.int v]) (v := some (.int v)) (h' := gH g2) (pc := 2505) (index := 282) rfl rfl hc hs (io_206 _) rfl iX12_seed kw_93623c30b5 kw_84a253d4ce kw_e72dfbdaf7 rfl rfl (Nat.le_of_ble_eq_true rfl) (by decide +kernel) (okX12_seed hl eY) ?_
  refine al_icmp_eq (pc := 2508) (off := 67) (tgt := 2575) (by decide +kernel) (by decide) (fun _ => ?_) (fun gz => absurd rfl gz)
  exact k _ _ hN2 R2
set_option maxRecDepth 100000 in
set_option maxHeartbeats 4000000 in
theorem lc_45 {l : Launch} (hl : l.stackTraces = false) {L : Nat} {xs : Nat → Int32} {N : Nat} {g : gG} (R : RE N g) (hN : N < 1000) {i : Nat} (hi : i + 6 ≤ L) (hL : L ≤ 3072) {kc ks : Nat} (hc : kc + 5 ≤ 601024) (hs : ks + 427 ≤ 7293034) (k : ∀ N' g', N' ≤ N + 1 → RE N' g' → al_S l mlaw L xs (kc + 5) (ks + 427) 2575 [(0, .ref (ab_SB + 5000)), (1, .ref 0), (2, .ref 206), (3, .ref 219), (4, .int (nI i))] [] (gH g')) : al_S l mlaw L xs kc ks 2513 [(0, .ref (ab_SB + 5000)), (1, .ref 0), (2, .ref 206), (3, .ref 219), (4, .int (nI i))] [] (gH g) := by
  have hF : 11000 < Fu := by decide
  refine al_aload_n (pc := 2513) (n := 1) (i := 1) (j := 1) (by decide +kernel) rfl rfl ?_
  have hN2 : N ≤ N + 1 := Nat.le_succ _
  obtain ⟨v, g1, g2, eX, eY, R2⟩ := cb_undo R (F := Fu) hF
  refine al_cls (M' := mX11_undo) (As := []) (a := 0) (ci := 11) (st := []) (v := some (.int v)) (h' := gH g1) (pc := 2514) (index := 283) (Nat.le_of_ble_eq_true rfl) (Nat.le_of_ble_eq_true rfl) hc hs (io_0 g) rfl iX11_undo kw_0d57794e61 kw_8bb4188745 kw_777b7100cb rfl rfl (Nat.le_of_ble_eq_true rfl) (by decide +kernel) (okX11_undo hl eX) ?_
  refine al_aload_n (pc := 2517) (n := 2) (i := 2) (j := 2) (by decide +kernel) rfl rfl ?_
  refine al_ref (M' := mX12_undo) (As := []) (a := 206) (ci := 12) (st := [.int v]) (v := some (.int v)) (h' := gH g2) (pc := 2518) (index := 287) rfl rfl hc hs (io_206 _) rfl iX12_undo kw_01ad378a12 kw_558c8e371a kw_b0037bf7fa rfl rfl (Nat.le_of_ble_eq_true rfl) (by decide +kernel) (okX12_undo hl eY) ?_
  refine al_icmp_eq (pc := 2521) (off := 54) (tgt := 2575) (by decide +kernel) (by decide) (fun _ => ?_) (fun gz => absurd rfl gz)
  exact k _ _ hN2 R2
set_option maxRecDepth 100000 in
set_option maxHeartbeats 4000000 in
theorem lc_46 {l : Launch} (hl : l.stackTraces = false) {L : Nat} {xs : Nat → Int32} {N : Nat} {g : gG} (R : RE N g) (hN : N < 1000) {i : Nat} (hi : i + 6 ≤ L) (hL : L ≤ 3072) {kc ks : Nat} (hc : kc + 5 ≤ 601024) (hs : ks + 427 ≤ 7293034) (k : ∀ N' g', N' ≤ N + 1 → RE N' g' → al_S l mlaw L xs (kc + 5) (ks + 427) 2575 [(0, .ref (ab_SB + 5000)), (1, .ref 0), (2, .ref 206), (3, .ref 219), (4, .int (nI i))] [] (gH g')) : al_S l mlaw L xs kc ks 2526 [(0, .ref (ab_SB + 5000)), (1, .ref 0), (2, .ref 206), (3, .ref 219), (4, .int (nI i))] [] (gH g) := by
  have hF : 11000 < Fu := by decide
  refine al_aload_n (pc := 2526) (n := 1) (i := 1) (j := 1) (by decide +kernel) rfl rfl ?_
  have hN2 : N ≤ N + 1 := Nat.le_succ _
  obtain ⟨g1, g2, eX, eY, R2⟩ := c_image R (F := Fu) hF
  refine al_cls (M' := mX11_image) (As := []) (a := 0) (ci := 11) (st := []) (v := none) (h' := gH g1) (pc := 2527) (index := 288) (Nat.le_of_ble_eq_true rfl) (Nat.le_of_ble_eq_true rfl) hc hs (io_0 g) rfl iX11_image kw_67a74cb34f kw_3346f4829b kw_dd22385579 rfl rfl (Nat.le_of_ble_eq_true rfl) (by decide +kernel) (okX11_image hl eX) ?_
  refine al_aload_n (pc := 2530) (n := 2) (i := 2) (j := 2) (by decide +kernel) rfl rfl ?_
  refine al_ref (M' := mX12_image) (As := []) (a := 206) (ci := 12) (st := []) (v := none) (h' := gH g2) (pc := 2531) (index := 291) rfl rfl hc hs (io_206 _) rfl iX12_image kw_1f1cfe6b1c kw_aecaf9245a kw_8820436dac rfl rfl (Nat.le_of_ble_eq_true rfl) (by decide +kernel) (okX12_image hl eY) ?_
  refine al_goto (pc := 2534) (off := 41) (tgt := 2575) (by decide +kernel) (by decide) ?_
  exact k _ _ hN2 R2
set_option maxRecDepth 100000 in
set_option maxHeartbeats 4000000 in
theorem lc_47 {l : Launch} (hl : l.stackTraces = false) {L : Nat} {xs : Nat → Int32} {N : Nat} {g : gG} (R : RE N g) (hN : N < 1000) {i : Nat} (hi : i + 6 ≤ L) (hL : L ≤ 3072) {kc ks : Nat} (hc : kc + 5 ≤ 601024) (hs : ks + 427 ≤ 7293034) (k : ∀ N' g', N' ≤ N + 1 → RE N' g' → al_S l mlaw L xs (kc + 5) (ks + 427) 2575 [(0, .ref (ab_SB + 5000)), (1, .ref 0), (2, .ref 206), (3, .ref 219), (4, .int (nI i))] [] (gH g')) : al_S l mlaw L xs kc ks 2537 [(0, .ref (ab_SB + 5000)), (1, .ref 0), (2, .ref 206), (3, .ref 219), (4, .int (nI i))] [] (gH g) := by
  have hF : 11000 < Fu := by decide
  refine al_aload_n (pc := 2537) (n := 1) (i := 1) (j := 1) (by decide +kernel) rfl rfl ?_
  have hN2 : N ≤ N + 1 := Nat.le_succ _
  obtain ⟨v, g1, g2, eX, eY, R2⟩ := cb_back R (F := Fu) hF
  refine al_cls (M' := mX11_back) (As := []) (a := 0) (ci := 11) (st := []) (v := some (.int v)) (h' := gH g1) (pc := 2538) (index := 292) (Nat.le_of_ble_eq_true rfl) (Nat.le_of_ble_eq_true rfl) hc hs (io_0 g) rfl iX11_back kw_735769b287 kw_af5248c0c4 kw_4e1bf8dc61 rfl rfl (Nat.le_of_ble_eq_true rfl) (by decide +kernel) (okX11_back hl eX) ?_
  refine al_aload_n (pc := 2541) (n := 2) (i := 2) (j := 2) (by decide +kernel) rfl rfl ?_
  refine al_ref (M' := mX12_back) (As := []) (a := 206) (ci := 12) (st := [.int v]) (v := some (.int v)) (h' := gH g2) (pc := 2542) (index := 295) rfl rfl hc hs (io_206 _) rfl iX12_back kw_a810037efa kw_aea1585f81 kw_ab84a52277 rfl rfl (Nat.le_of_ble_eq_true rfl) (by decide +kernel) (okX12_back hl eY) ?_
  refine al_icmp_eq (pc := 2545) (off := 30) (tgt := 2575) (by decide +kernel) (by decide) (fun _ => ?_) (fun gz => absurd rfl gz)
  exact k _ _ hN2 R2
set_option maxRecDepth 100000 in
set_option maxHeartbeats 4000000 in
theorem lc_48 {l : Launch} (hl : l.stackTraces = false) {L : Nat} {xs : Nat → Int32} {N : Nat} {g : gG} (R : RE N g) (hN : N < 1000) {i : Nat} (hi : i + 6 ≤ L) (hL : L ≤ 3072) {kc ks : Nat} (hc : kc + 5 ≤ 601024) (hs : ks + 427 ≤ 7293034) (k : ∀ N' g', N' ≤ N + 1 → RE N' g' → al_S l mlaw L xs (kc + 5) (ks + 427) 2575 [(0, .ref (ab_SB + 5000)), (1, .ref 0), (2, .ref 206), (3, .ref 219), (4, .int (nI i))] [] (gH g')) : al_S l mlaw L xs kc ks 2550 [(0, .ref (ab_SB + 5000)), (1, .ref 0), (2, .ref 206), (3, .ref 219), (4, .int (nI i))] [] (gH g) := by
  have hF : 11000 < Fu := by decide
  refine al_aload_n (pc := 2550) (n := 1) (i := 1) (j := 1) (by decide +kernel) rfl rfl ?_
  refine al_aload_n (pc := 2551) (n := 0) (i := 0) (j := 0) (by decide +kernel) rfl rfl ?_
  refine al_iload (pc := 2552) (i := 4) (j := 4) (by decide +kernel) rfl ?_
  refine al_iconst (pc := 2554) (n := 1) (v := nI 1) (by decide +kernel) rfl ?_
  refine al_iadd (pc := 2555) (by decide +kernel) ?_
  refine al_sld (pc := 2556) (sc_in hi hL (j := 1) (by decide)) (by decide +kernel) ?_
  have hN2 : N ≤ N + 1 := Nat.le_succ _
  obtain ⟨v, g2, eX, eY, R2⟩ := cr_count R ((xs ((nI i) + (nI 1)).toNatClampNeg)) (F := Fu) hF
  refine al_cls (M' := mX11_count) (As := [.int (xs ((nI i) + (nI 1)).toNatClampNeg)]) (a := 0) (ci := 11) (st := []) (v := some (.int v)) (h' := gH g) (pc := 2557) (index := 296) (Nat.le_of_ble_eq_true rfl) (Nat.le_of_ble_eq_true rfl) hc hs (io_0 g) rfl iX11_count kw_ce661f59ed kw_b0cb0755bd kw_cfc57ef12a rfl rfl (Nat.le_of_ble_eq_true rfl) (by decide +kernel) (okX11_count hl eX) ?_
  refine al_aload_n (pc := 2560) (n := 2) (i := 2) (j := 2) (by decide +kernel) rfl rfl ?_
  refine al_aload_n (pc := 2561) (n := 0) (i := 0) (j := 0) (by decide +kernel) rfl rfl ?_
  refine al_iload (pc := 2562) (i := 4) (j := 4) (by decide +kernel) rfl ?_
  refine al_iconst (pc := 2564) (n := 1) (v := nI 1) (by decide +kernel) rfl ?_
  refine al_iadd (pc := 2565) (by decide +kernel) ?_
  refine al_sld (pc := 2566) (sc_in hi hL (j := 1) (by decide)) (by decide +kernel) ?_
  refine al_ref (M' := mX12_count) (As := [.int (xs ((nI i) + (nI 1)).toNatClampNeg)]) (a := 206) (ci := 12) (st := [.int v]) (v := some (.int v)) (h' := gH g2) (pc := 2567) (index := 299) rfl rfl hc hs (io_206 _) rfl iX12_count kw_0be89d0893 kw_2e9c577628 kw_18426f833d rfl rfl (Nat.le_of_ble_eq_true rfl) (by decide +kernel) (okX12_count hl eY) ?_
  refine al_icmp_eq (pc := 2570) (off := 5) (tgt := 2575) (by decide +kernel) (by decide) (fun _ => ?_) (fun gz => absurd rfl gz)
  exact k _ _ hN2 R2
