/-! ===== the law's cases, 0 (by program, gen_lawc.py) ===== -/
set_option maxRecDepth 100000 in
set_option maxHeartbeats 4000000 in
theorem lc_0 {l : Launch} (hl : l.stackTraces = false) {L : Nat} {xs : Nat → Int32} {N : Nat} {g : gG} (R : RE N g) (hN : N < 1000) {i : Nat} (hi : i + 6 ≤ L) (hL : L ≤ 3072) {kc ks : Nat} (hc : kc + 5 ≤ 601024) (hs : ks + 427 ≤ 7293034) (k : ∀ N' g', N' ≤ N + 1 → RE N' g' → al_S l mlaw L xs (kc + 5) (ks + 427) 2575 [(0, .ref (ab_SB + 5000)), (1, .ref 0), (2, .ref 206), (3, .ref 219), (4, .int (nI i))] [] (gH g')) : al_S l mlaw L xs kc ks 252 [(0, .ref (ab_SB + 5000)), (1, .ref 0), (2, .ref 206), (3, .ref 219), (4, .int (nI i))] [] (gH g) := by
  have hF : 11000 < Fu := by decide
  refine al_aload_n (pc := 252) (n := 1) (i := 1) (j := 1) (by decide +kernel) rfl rfl ?_
  refine al_aload_n (pc := 253) (n := 0) (i := 0) (j := 0) (by decide +kernel) rfl rfl ?_
  refine al_iload (pc := 254) (i := 4) (j := 4) (by decide +kernel) rfl ?_
  refine al_iconst (pc := 256) (n := 1) (v := nI 1) (by decide +kernel) rfl ?_
  refine al_iadd (pc := 257) (by decide +kernel) ?_
  refine al_sld (pc := 258) (sc_in hi hL (j := 1) (by decide)) (by decide +kernel) ?_
  refine al_aload_n (pc := 259) (n := 0) (i := 0) (j := 0) (by decide +kernel) rfl rfl ?_
  refine al_iload (pc := 260) (i := 4) (j := 4) (by decide +kernel) rfl ?_
  refine al_iconst (pc := 262) (n := 2) (v := nI 2) (by decide +kernel) rfl ?_
  refine al_iadd (pc := 263) (by decide +kernel) ?_
  refine al_sld (pc := 264) (sc_in hi hL (j := 2) (by decide)) (by decide +kernel) ?_
  refine al_aload_n (pc := 265) (n := 0) (i := 0) (j := 0) (by decide +kernel) rfl rfl ?_
  refine al_iload (pc := 266) (i := 4) (j := 4) (by decide +kernel) rfl ?_
  refine al_iconst (pc := 268) (n := 3) (v := nI 3) (by decide +kernel) rfl ?_
  refine al_iadd (pc := 269) (by decide +kernel) ?_
  refine al_sld (pc := 270) (sc_in hi hL (j := 3) (by decide)) (by decide +kernel) ?_
  refine al_aload_n (pc := 271) (n := 0) (i := 0) (j := 0) (by decide +kernel) rfl rfl ?_
  refine al_iload (pc := 272) (i := 4) (j := 4) (by decide +kernel) rfl ?_
  refine al_iconst (pc := 274) (n := 4) (v := nI 4) (by decide +kernel) rfl ?_
  refine al_iadd (pc := 275) (by decide +kernel) ?_
  refine al_sld (pc := 276) (sc_in hi hL (j := 4) (by decide)) (by decide +kernel) ?_
  refine al_aload_n (pc := 277) (n := 0) (i := 0) (j := 0) (by decide +kernel) rfl rfl ?_
  refine al_iload (pc := 278) (i := 4) (j := 4) (by decide +kernel) rfl ?_
  refine al_iconst (pc := 280) (n := 5) (v := nI 5) (by decide +kernel) rfl ?_
  refine al_iadd (pc := 281) (by decide +kernel) ?_
  refine al_sld (pc := 282) (sc_in hi hL (j := 5) (by decide)) (by decide +kernel) ?_
  have hN2 : N ≤ N + 1 := Nat.le_succ _
  obtain ⟨v, g1, g2, eX, eY, R2⟩ := cb_feed R ((xs ((nI i) + (nI 1)).toNatClampNeg)) ((xs ((nI i) + (nI 2)).toNatClampNeg)) ((xs ((nI i) + (nI 3)).toNatClampNeg)) ((xs ((nI i) + (nI 4)).toNatClampNeg)) ((xs ((nI i) + (nI 5)).toNatClampNeg)) (F := Fu) hF
  refine al_cls (M' := mX11_feed) (As := [.int (xs ((nI i) + (nI 1)).toNatClampNeg), .int (xs ((nI i) + (nI 2)).toNatClampNeg), .int (xs ((nI i) + (nI 3)).toNatClampNeg), .int (xs ((nI i) + (nI 4)).toNatClampNeg), .int (xs ((nI i) + (nI 5)).toNatClampNeg)]) (a := 0) (ci := 11) (st := []) (v := some (.int v)) (h' := gH g1) (pc := 283) (index := 122) (Nat.le_of_ble_eq_true rfl) (Nat.le_of_ble_eq_true rfl) hc hs (io_0 g) rfl iX11_feed kw_f3cfa6e2fe kw_99767b3f22 kw_5d62ff0358 rfl rfl (Nat.le_of_ble_eq_true rfl) (by decide +kernel) (okX11_feed hl eX) ?_
  refine al_aload_n (pc := 286) (n := 2) (i := 2) (j := 2) (by decide +kernel) rfl rfl ?_
  refine al_aload_n (pc := 287) (n := 0) (i := 0) (j := 0) (by decide +kernel) rfl rfl ?_
  refine al_iload (pc := 288) (i := 4) (j := 4) (by decide +kernel) rfl ?_
  refine al_iconst (pc := 290) (n := 1) (v := nI 1) (by decide +kernel) rfl ?_
  refine al_iadd (pc := 291) (by decide +kernel) ?_
  refine al_sld (pc := 292) (sc_in hi hL (j := 1) (by decide)) (by decide +kernel) ?_
  refine al_aload_n (pc := 293) (n := 0) (i := 0) (j := 0) (by decide +kernel) rfl rfl ?_
  refine al_iload (pc := 294) (i := 4) (j := 4) (by decide +kernel) rfl ?_
  refine al_iconst (pc := 296) (n := 2) (v := nI 2) (by decide +kernel) rfl ?_
  refine al_iadd (pc := 297) (by decide +kernel) ?_
  refine al_sld (pc := 298) (sc_in hi hL (j := 2) (by decide)) (by decide +kernel) ?_
  refine al_aload_n (pc := 299) (n := 0) (i := 0) (j := 0) (by decide +kernel) rfl rfl ?_
  refine al_iload (pc := 300) (i := 4) (j := 4) (by decide +kernel) rfl ?_
  refine al_iconst (pc := 302) (n := 3) (v := nI 3) (by decide +kernel) rfl ?_
  refine al_iadd (pc := 303) (by decide +kernel) ?_
  refine al_sld (pc := 304) (sc_in hi hL (j := 3) (by decide)) (by decide +kernel) ?_
  refine al_aload_n (pc := 305) (n := 0) (i := 0) (j := 0) (by decide +kernel) rfl rfl ?_
  refine al_iload (pc := 306) (i := 4) (j := 4) (by decide +kernel) rfl ?_
  refine al_iconst (pc := 308) (n := 4) (v := nI 4) (by decide +kernel) rfl ?_
  refine al_iadd (pc := 309) (by decide +kernel) ?_
  refine al_sld (pc := 310) (sc_in hi hL (j := 4) (by decide)) (by decide +kernel) ?_
  refine al_aload_n (pc := 311) (n := 0) (i := 0) (j := 0) (by decide +kernel) rfl rfl ?_
  refine al_iload (pc := 312) (i := 4) (j := 4) (by decide +kernel) rfl ?_
  refine al_iconst (pc := 314) (n := 5) (v := nI 5) (by decide +kernel) rfl ?_
  refine al_iadd (pc := 315) (by decide +kernel) ?_
  refine al_sld (pc := 316) (sc_in hi hL (j := 5) (by decide)) (by decide +kernel) ?_
  refine al_ref (M' := mX12_feed) (As := [.int (xs ((nI i) + (nI 1)).toNatClampNeg), .int (xs ((nI i) + (nI 2)).toNatClampNeg), .int (xs ((nI i) + (nI 3)).toNatClampNeg), .int (xs ((nI i) + (nI 4)).toNatClampNeg), .int (xs ((nI i) + (nI 5)).toNatClampNeg)]) (a := 206) (ci := 12) (st := [.int v]) (v := some (.int v)) (h' := gH g2) (pc := 317) (index := 126) rfl rfl hc hs (io_206 _) rfl iX12_feed kw_a0715b1d4d kw_aba7d5cd33 kw_46786007c4 rfl rfl (Nat.le_of_ble_eq_true rfl) (by decide +kernel) (okX12_feed hl eY) ?_
  refine al_icmp_eq (pc := 320) (off := 2255) (tgt := 2575) (by decide +kernel) (by decide) (fun _ => ?_) (fun gz => absurd rfl gz)
  exact k _ _ hN2 R2
set_option maxRecDepth 100000 in
set_option maxHeartbeats 4000000 in
theorem lc_1 {l : Launch} (hl : l.stackTraces = false) {L : Nat} {xs : Nat → Int32} {N : Nat} {g : gG} (R : RE N g) (hN : N < 1000) {i : Nat} (hi : i + 6 ≤ L) (hL : L ≤ 3072) {kc ks : Nat} (hc : kc + 5 ≤ 601024) (hs : ks + 427 ≤ 7293034) (k : ∀ N' g', N' ≤ N + 1 → RE N' g' → al_S l mlaw L xs (kc + 5) (ks + 427) 2575 [(0, .ref (ab_SB + 5000)), (1, .ref 0), (2, .ref 206), (3, .ref 219), (4, .int (nI i))] [] (gH g')) : al_S l mlaw L xs kc ks 325 [(0, .ref (ab_SB + 5000)), (1, .ref 0), (2, .ref 206), (3, .ref 219), (4, .int (nI i))] [] (gH g) := by
  have hF : 11000 < Fu := by decide
  refine al_aload_n (pc := 325) (n := 1) (i := 1) (j := 1) (by decide +kernel) rfl rfl ?_
  refine al_aload_n (pc := 326) (n := 0) (i := 0) (j := 0) (by decide +kernel) rfl rfl ?_
  refine al_iload (pc := 327) (i := 4) (j := 4) (by decide +kernel) rfl ?_
  refine al_iconst (pc := 329) (n := 1) (v := nI 1) (by decide +kernel) rfl ?_
  refine al_iadd (pc := 330) (by decide +kernel) ?_
  refine al_sld (pc := 331) (sc_in hi hL (j := 1) (by decide)) (by decide +kernel) ?_
  have hN2 : N ≤ N + 1 := Nat.le_succ _
  obtain ⟨v, g1, g2, eX, eY, R2⟩ := cb_end R ((xs ((nI i) + (nI 1)).toNatClampNeg))
  refine al_cls (M' := mX11_end) (As := [.int (xs ((nI i) + (nI 1)).toNatClampNeg)]) (a := 0) (ci := 11) (st := []) (v := some (.int v)) (h' := gH g1) (pc := 332) (index := 127) (Nat.le_of_ble_eq_true rfl) (Nat.le_of_ble_eq_true rfl) hc hs (io_0 g) rfl iX11_end kw_6a33eb7b4b kw_8111628a1d kw_7d7fd662cb rfl rfl (Nat.le_of_ble_eq_true rfl) (by decide +kernel) (okX11_end hl eX) ?_
  refine al_aload_n (pc := 335) (n := 2) (i := 2) (j := 2) (by decide +kernel) rfl rfl ?_
  refine al_aload_n (pc := 336) (n := 0) (i := 0) (j := 0) (by decide +kernel) rfl rfl ?_
  refine al_iload (pc := 337) (i := 4) (j := 4) (by decide +kernel) rfl ?_
  refine al_iconst (pc := 339) (n := 1) (v := nI 1) (by decide +kernel) rfl ?_
  refine al_iadd (pc := 340) (by decide +kernel) ?_
  refine al_sld (pc := 341) (sc_in hi hL (j := 1) (by decide)) (by decide +kernel) ?_
  refine al_ref (M' := mX12_end) (As := [.int (xs ((nI i) + (nI 1)).toNatClampNeg)]) (a := 206) (ci := 12) (st := [.int v]) (v := some (.int v)) (h' := gH g2) (pc := 342) (index := 130) rfl rfl hc hs (io_206 _) rfl iX12_end kw_ff78c0f6f5 kw_28fab573a3 kw_a73bcd5942 rfl rfl (Nat.le_of_ble_eq_true rfl) (by decide +kernel) (okX12_end hl eY) ?_
  refine al_icmp_eq (pc := 345) (off := 2230) (tgt := 2575) (by decide +kernel) (by decide) (fun _ => ?_) (fun gz => absurd rfl gz)
  exact k _ _ hN2 R2
set_option maxRecDepth 100000 in
set_option maxHeartbeats 4000000 in
theorem lc_2 {l : Launch} (hl : l.stackTraces = false) {L : Nat} {xs : Nat → Int32} {N : Nat} {g : gG} (R : RE N g) (hN : N < 1000) {i : Nat} (hi : i + 6 ≤ L) (hL : L ≤ 3072) {kc ks : Nat} (hc : kc + 5 ≤ 601024) (hs : ks + 427 ≤ 7293034) (k : ∀ N' g', N' ≤ N + 1 → RE N' g' → al_S l mlaw L xs (kc + 5) (ks + 427) 2575 [(0, .ref (ab_SB + 5000)), (1, .ref 0), (2, .ref 206), (3, .ref 219), (4, .int (nI i))] [] (gH g')) : al_S l mlaw L xs kc ks 350 [(0, .ref (ab_SB + 5000)), (1, .ref 0), (2, .ref 206), (3, .ref 219), (4, .int (nI i))] [] (gH g) := by
  have hF : 11000 < Fu := by decide
  refine al_aload_n (pc := 350) (n := 1) (i := 1) (j := 1) (by decide +kernel) rfl rfl ?_
  refine al_aload_n (pc := 351) (n := 3) (i := 3) (j := 3) (by decide +kernel) rfl rfl ?_
  have hN2 : N ≤ N + 1 := Nat.le_succ _
  obtain ⟨k0, g1, v, g2, eX, eY, eT, eO, R2⟩ : Cw N (fun v : Int32 => v.toInt64) (fL_door Fu 0 219 (gH g)) (fun h => fX12_door Fu 206 h) := (by unfold fL_door; rw [ab_ck_pos (io_0 g)]; exact Cw_a (w := (fun h v => ab_bd (ab_lw h 219 (nI 0) v.toInt64) fun h1 => some (nI 0, h1))) (fun φ h => pf_X12_door φ Fu 206 h) w_out (by decide) (ca_door R (F := Fu) hF))
  have hO : k0 = 0 → gL g2 219 0 = v.toInt64 := eO
  refine al_wrap (M' := mL_door) (hh := hL_door) (As := [.ref 0, .ref 219]) (st := []) (v := some (.int k0)) (h' := gH g1) (n := 2) (pc := 352) (index := 131) (Nat.le_of_ble_eq_true rfl) (Nat.le_of_ble_eq_true rfl) hc hs ⟨cwL_door, kw_e382c795c0, by decide +kernel⟩ kw_6294b35443 kw_af0e6fddf3 rfl rfl (Nat.le_of_ble_eq_true rfl) (by decide +kernel) (okL_door hl eX) ?_
  refine al_istore (pc := 355) (i := 5) (lv' := [(0, .ref (ab_SB + 5000)), (1, .ref 0), (2, .ref 206), (3, .ref 219), (4, .int (nI i)), (5, .int k0)]) (by decide +kernel) (by decide) rfl rfl ?_
  refine al_aload_n (pc := 357) (n := 2) (i := 2) (j := 2) (by decide +kernel) rfl rfl ?_
  refine al_ref (M' := mX12_door) (As := []) (a := 206) (ci := 12) (st := []) (v := some (.int v)) (h' := gH g2) (pc := 358) (index := 136) rfl rfl hc hs (io_206 _) rfl iX12_door kw_334619a0dc kw_9b9d96264a kw_24ca37544b rfl rfl (Nat.le_of_ble_eq_true rfl) (by decide +kernel) (okX12_door hl eY) ?_
  refine al_istore (pc := 361) (i := 6) (lv' := [(0, .ref (ab_SB + 5000)), (1, .ref 0), (2, .ref 206), (3, .ref 219), (4, .int (nI i)), (5, .int k0), (6, .int v)]) (by decide +kernel) (by decide) rfl rfl ?_
  refine al_aload_n (pc := 363) (n := 2) (i := 2) (j := 2) (by decide +kernel) rfl rfl ?_
  refine al_ref (M' := mX12_thrown) (As := []) (a := 206) (ci := 12) (st := []) (v := some (.int (gF g2 206 0))) (h' := gH g2) (pc := 364) (index := 137) rfl rfl hc hs (io_206 g2) rfl iX12_thrown kw_3a20f3984e kw_5ecf1a43fc kw_b4788dccf4 rfl rfl (Nat.le_of_ble_eq_true rfl) (by decide +kernel) (okX12_thrown hl (f_thrown g2)) ?_
  refine al_iload (pc := 367) (i := 5) (j := 5) (by decide +kernel) rfl ?_
  refine al_icmp_eq (pc := 369) (off := 5) (tgt := 374) (by decide +kernel) (by decide) (fun _ => ?_) (fun gz => absurd eT gz)
  refine al_iload (pc := 374) (i := 5) (j := 5) (by decide +kernel) rfl ?_
  refine al_if_ne (pc := 376) (off := 15) (tgt := 391) (by decide +kernel) (by decide) (fun g0 => ?_) (fun g0 => ?_)
  · refine al_aload_n (pc := 379) (n := 3) (i := 3) (j := 3) (by decide +kernel) rfl rfl ?_
    refine al_iconst (pc := 380) (n := 0) (v := nI 0) (by decide +kernel) rfl ?_
    refine al_lald (pc := 381) (la_219 g2 (by decide)) (by decide +kernel) ?_
    refine al_iload (pc := 382) (i := 6) (j := 6) (by decide +kernel) rfl ?_
    refine al_i2l (pc := 384) (by decide +kernel) ?_
    refine al_lcmp (pc := 385) (by decide +kernel) ?_
    refine al_if_eq (pc := 386) (off := 5) (tgt := 391) (by decide +kernel) (by decide) (fun _ => ?_) (fun gz => absurd (by rw [hO g0]; exact lg_cmp_self _) gz)
    refine al_goto (pc := 391) (off := 2184) (tgt := 2575) (by decide +kernel) (by decide) ?_
    refine al_few [0, 1, 2, 3, 4] (lv' := [(0, .ref (ab_SB + 5000)), (1, .ref 0), (2, .ref 206), (3, .ref 219), (4, .int (nI i))]) rfl ?_
    exact k _ _ hN2 R2
  · refine al_goto (pc := 391) (off := 2184) (tgt := 2575) (by decide +kernel) (by decide) ?_
    refine al_few [0, 1, 2, 3, 4] (lv' := [(0, .ref (ab_SB + 5000)), (1, .ref 0), (2, .ref 206), (3, .ref 219), (4, .int (nI i))]) rfl ?_
    exact k _ _ hN2 R2
set_option maxRecDepth 100000 in
set_option maxHeartbeats 4000000 in
theorem lc_3 {l : Launch} (hl : l.stackTraces = false) {L : Nat} {xs : Nat → Int32} {N : Nat} {g : gG} (R : RE N g) (hN : N < 1000) {i : Nat} (hi : i + 6 ≤ L) (hL : L ≤ 3072) {kc ks : Nat} (hc : kc + 5 ≤ 601024) (hs : ks + 427 ≤ 7293034) (k : ∀ N' g', N' ≤ N + 1 → RE N' g' → al_S l mlaw L xs (kc + 5) (ks + 427) 2575 [(0, .ref (ab_SB + 5000)), (1, .ref 0), (2, .ref 206), (3, .ref 219), (4, .int (nI i))] [] (gH g')) : al_S l mlaw L xs kc ks 394 [(0, .ref (ab_SB + 5000)), (1, .ref 0), (2, .ref 206), (3, .ref 219), (4, .int (nI i))] [] (gH g) := by
  have hF : 11000 < Fu := by decide
  refine al_aload_n (pc := 394) (n := 1) (i := 1) (j := 1) (by decide +kernel) rfl rfl ?_
  refine al_aload_n (pc := 395) (n := 3) (i := 3) (j := 3) (by decide +kernel) rfl rfl ?_
  obtain ⟨N2, hN2, H0⟩ := ca_law R hN (F := Fu) hF
  obtain ⟨k0, g1, v, g2, eX, eY, eT, eO, R2⟩ : Cw N2 (fun v : Int32 => v.toInt64) (fL_law Fu 0 219 (gH g)) (fun h => fX12_law Fu 206 h) := (by unfold fL_law; rw [ab_ck_pos (io_0 g)]; exact Cw_a (w := (fun h v => ab_bd (ab_lw h 219 (nI 0) v.toInt64) fun h1 => some (nI 0, h1))) (fun φ h => pf_X12_law φ Fu 206 h) w_out (by decide) H0)
  have hO : k0 = 0 → gL g2 219 0 = v.toInt64 := eO
  refine al_wrap (M' := mL_law) (hh := hL_law) (As := [.ref 0, .ref 219]) (st := []) (v := some (.int k0)) (h' := gH g1) (n := 2) (pc := 396) (index := 140) (Nat.le_of_ble_eq_true rfl) (Nat.le_of_ble_eq_true rfl) hc hs ⟨cwL_law, kw_e382c795c0, by decide +kernel⟩ kw_ac8fa0b130 kw_6e27b9e99f rfl rfl (Nat.le_of_ble_eq_true rfl) (by decide +kernel) (okL_law hl eX) ?_
  refine al_istore (pc := 399) (i := 5) (lv' := [(0, .ref (ab_SB + 5000)), (1, .ref 0), (2, .ref 206), (3, .ref 219), (4, .int (nI i)), (5, .int k0)]) (by decide +kernel) (by decide) rfl rfl ?_
  refine al_aload_n (pc := 401) (n := 2) (i := 2) (j := 2) (by decide +kernel) rfl rfl ?_
  refine al_ref (M' := mX12_law) (As := []) (a := 206) (ci := 12) (st := []) (v := some (.int v)) (h' := gH g2) (pc := 402) (index := 142) rfl rfl hc hs (io_206 _) rfl iX12_law kw_9d0930b665 kw_d6ccd4b341 kw_8e192497ef rfl rfl (Nat.le_of_ble_eq_true rfl) (by decide +kernel) (okX12_law hl eY) ?_
  refine al_istore (pc := 405) (i := 6) (lv' := [(0, .ref (ab_SB + 5000)), (1, .ref 0), (2, .ref 206), (3, .ref 219), (4, .int (nI i)), (5, .int k0), (6, .int v)]) (by decide +kernel) (by decide) rfl rfl ?_
  refine al_aload_n (pc := 407) (n := 2) (i := 2) (j := 2) (by decide +kernel) rfl rfl ?_
  refine al_ref (M' := mX12_thrown) (As := []) (a := 206) (ci := 12) (st := []) (v := some (.int (gF g2 206 0))) (h' := gH g2) (pc := 408) (index := 137) rfl rfl hc hs (io_206 g2) rfl iX12_thrown kw_3a20f3984e kw_5ecf1a43fc kw_b4788dccf4 rfl rfl (Nat.le_of_ble_eq_true rfl) (by decide +kernel) (okX12_thrown hl (f_thrown g2)) ?_
  refine al_iload (pc := 411) (i := 5) (j := 5) (by decide +kernel) rfl ?_
  refine al_icmp_eq (pc := 413) (off := 5) (tgt := 418) (by decide +kernel) (by decide) (fun _ => ?_) (fun gz => absurd eT gz)
  refine al_iload (pc := 418) (i := 5) (j := 5) (by decide +kernel) rfl ?_
  refine al_if_ne (pc := 420) (off := 15) (tgt := 435) (by decide +kernel) (by decide) (fun g0 => ?_) (fun g0 => ?_)
  · refine al_aload_n (pc := 423) (n := 3) (i := 3) (j := 3) (by decide +kernel) rfl rfl ?_
    refine al_iconst (pc := 424) (n := 0) (v := nI 0) (by decide +kernel) rfl ?_
    refine al_lald (pc := 425) (la_219 g2 (by decide)) (by decide +kernel) ?_
    refine al_iload (pc := 426) (i := 6) (j := 6) (by decide +kernel) rfl ?_
    refine al_i2l (pc := 428) (by decide +kernel) ?_
    refine al_lcmp (pc := 429) (by decide +kernel) ?_
    refine al_if_eq (pc := 430) (off := 5) (tgt := 435) (by decide +kernel) (by decide) (fun _ => ?_) (fun gz => absurd (by rw [hO g0]; exact lg_cmp_self _) gz)
    refine al_goto (pc := 435) (off := 2140) (tgt := 2575) (by decide +kernel) (by decide) ?_
    refine al_few [0, 1, 2, 3, 4] (lv' := [(0, .ref (ab_SB + 5000)), (1, .ref 0), (2, .ref 206), (3, .ref 219), (4, .int (nI i))]) rfl ?_
    exact k _ _ hN2 R2
  · refine al_goto (pc := 435) (off := 2140) (tgt := 2575) (by decide +kernel) (by decide) ?_
    refine al_few [0, 1, 2, 3, 4] (lv' := [(0, .ref (ab_SB + 5000)), (1, .ref 0), (2, .ref 206), (3, .ref 219), (4, .int (nI i))]) rfl ?_
    exact k _ _ hN2 R2
set_option maxRecDepth 100000 in
set_option maxHeartbeats 4000000 in
theorem lc_4 {l : Launch} (hl : l.stackTraces = false) {L : Nat} {xs : Nat → Int32} {N : Nat} {g : gG} (R : RE N g) (hN : N < 1000) {i : Nat} (hi : i + 6 ≤ L) (hL : L ≤ 3072) {kc ks : Nat} (hc : kc + 5 ≤ 601024) (hs : ks + 427 ≤ 7293034) (k : ∀ N' g', N' ≤ N + 1 → RE N' g' → al_S l mlaw L xs (kc + 5) (ks + 427) 2575 [(0, .ref (ab_SB + 5000)), (1, .ref 0), (2, .ref 206), (3, .ref 219), (4, .int (nI i))] [] (gH g')) : al_S l mlaw L xs kc ks 438 [(0, .ref (ab_SB + 5000)), (1, .ref 0), (2, .ref 206), (3, .ref 219), (4, .int (nI i))] [] (gH g) := by
  have hF : 11000 < Fu := by decide
  refine al_aload_n (pc := 438) (n := 1) (i := 1) (j := 1) (by decide +kernel) rfl rfl ?_
  have hN2 : N ≤ N + 1 := Nat.le_succ _
  obtain ⟨v, g2, eX, eY, R2⟩ := cr_fault R
  refine al_cls (M' := mX11_fault) (As := []) (a := 0) (ci := 11) (st := []) (v := some (.int v)) (h' := gH g) (pc := 439) (index := 143) (Nat.le_of_ble_eq_true rfl) (Nat.le_of_ble_eq_true rfl) hc hs (io_0 g) rfl iX11_fault kw_3610eec33a kw_5b23294c90 kw_159d67b5be rfl rfl (Nat.le_of_ble_eq_true rfl) (by decide +kernel) (okX11_fault hl eX) ?_
  refine al_aload_n (pc := 442) (n := 2) (i := 2) (j := 2) (by decide +kernel) rfl rfl ?_
  refine al_ref (M' := mX12_fault) (As := []) (a := 206) (ci := 12) (st := [.int v]) (v := some (.int v)) (h' := gH g2) (pc := 443) (index := 146) rfl rfl hc hs (io_206 _) rfl iX12_fault kw_4db63a942a kw_f6ca66e41d kw_b9b424e674 rfl rfl (Nat.le_of_ble_eq_true rfl) (by decide +kernel) (okX12_fault hl eY) ?_
  refine al_icmp_eq (pc := 446) (off := 2129) (tgt := 2575) (by decide +kernel) (by decide) (fun _ => ?_) (fun gz => absurd rfl gz)
  exact k _ _ hN2 R2
set_option maxRecDepth 100000 in
set_option maxHeartbeats 4000000 in
theorem lc_5 {l : Launch} (hl : l.stackTraces = false) {L : Nat} {xs : Nat → Int32} {N : Nat} {g : gG} (R : RE N g) (hN : N < 1000) {i : Nat} (hi : i + 6 ≤ L) (hL : L ≤ 3072) {kc ks : Nat} (hc : kc + 5 ≤ 601024) (hs : ks + 427 ≤ 7293034) (k : ∀ N' g', N' ≤ N + 1 → RE N' g' → al_S l mlaw L xs (kc + 5) (ks + 427) 2575 [(0, .ref (ab_SB + 5000)), (1, .ref 0), (2, .ref 206), (3, .ref 219), (4, .int (nI i))] [] (gH g')) : al_S l mlaw L xs kc ks 451 [(0, .ref (ab_SB + 5000)), (1, .ref 0), (2, .ref 206), (3, .ref 219), (4, .int (nI i))] [] (gH g) := by
  have hF : 11000 < Fu := by decide
  refine al_aload_n (pc := 451) (n := 1) (i := 1) (j := 1) (by decide +kernel) rfl rfl ?_
  refine al_aload_n (pc := 452) (n := 0) (i := 0) (j := 0) (by decide +kernel) rfl rfl ?_
  refine al_iload (pc := 453) (i := 4) (j := 4) (by decide +kernel) rfl ?_
  refine al_iconst (pc := 455) (n := 1) (v := nI 1) (by decide +kernel) rfl ?_
  refine al_iadd (pc := 456) (by decide +kernel) ?_
  refine al_sld (pc := 457) (sc_in hi hL (j := 1) (by decide)) (by decide +kernel) ?_
  refine al_aload_n (pc := 458) (n := 0) (i := 0) (j := 0) (by decide +kernel) rfl rfl ?_
  refine al_iload (pc := 459) (i := 4) (j := 4) (by decide +kernel) rfl ?_
  refine al_iconst (pc := 461) (n := 2) (v := nI 2) (by decide +kernel) rfl ?_
  refine al_iadd (pc := 462) (by decide +kernel) ?_
  refine al_sld (pc := 463) (sc_in hi hL (j := 2) (by decide)) (by decide +kernel) ?_
  refine al_aload_n (pc := 464) (n := 3) (i := 3) (j := 3) (by decide +kernel) rfl rfl ?_
  have hN2 : N ≤ N + 1 := Nat.le_succ _
  obtain ⟨k0, g1, v, g2, eX, eY, eT, eO, R2⟩ : Cw N (fun v : Int32 => v.toInt64) (fL_person Fu 0 ((xs ((nI i) + (nI 1)).toNatClampNeg)) ((xs ((nI i) + (nI 2)).toNatClampNeg)) 219 (gH g)) (fun h => fX12_person Fu 206 ((xs ((nI i) + (nI 1)).toNatClampNeg)) ((xs ((nI i) + (nI 2)).toNatClampNeg)) h) := (by unfold fL_person; rw [ab_ck_pos (io_0 g)]; exact Cw_q (w := (fun h v => ab_bd (ab_lw h 219 (nI 0) v.toInt64) fun h1 => some (nI 0, h1))) (fun φ h => pf_X12_person φ Fu 206 ((xs ((nI i) + (nI 1)).toNatClampNeg)) ((xs ((nI i) + (nI 2)).toNatClampNeg)) h) w_out (by decide) (cq_person R ((xs ((nI i) + (nI 1)).toNatClampNeg)) ((xs ((nI i) + (nI 2)).toNatClampNeg)) (F := Fu) hF))
  have hO : k0 = 0 → gL g2 219 0 = v.toInt64 := eO
  refine al_wrap (M' := mL_person) (hh := hL_person) (As := [.ref 0, .int (xs ((nI i) + (nI 1)).toNatClampNeg), .int (xs ((nI i) + (nI 2)).toNatClampNeg), .ref 219]) (st := []) (v := some (.int k0)) (h' := gH g1) (n := 4) (pc := 465) (index := 147) (Nat.le_of_ble_eq_true rfl) (Nat.le_of_ble_eq_true rfl) hc hs ⟨cwL_person, kw_e382c795c0, by decide +kernel⟩ kw_05fb3f1cb1 kw_974b8c88e5 rfl rfl (Nat.le_of_ble_eq_true rfl) (by decide +kernel) (okL_person hl eX) ?_
  refine al_istore (pc := 468) (i := 5) (lv' := [(0, .ref (ab_SB + 5000)), (1, .ref 0), (2, .ref 206), (3, .ref 219), (4, .int (nI i)), (5, .int k0)]) (by decide +kernel) (by decide) rfl rfl ?_
  refine al_aload_n (pc := 470) (n := 2) (i := 2) (j := 2) (by decide +kernel) rfl rfl ?_
  refine al_aload_n (pc := 471) (n := 0) (i := 0) (j := 0) (by decide +kernel) rfl rfl ?_
  refine al_iload (pc := 472) (i := 4) (j := 4) (by decide +kernel) rfl ?_
  refine al_iconst (pc := 474) (n := 1) (v := nI 1) (by decide +kernel) rfl ?_
  refine al_iadd (pc := 475) (by decide +kernel) ?_
  refine al_sld (pc := 476) (sc_in hi hL (j := 1) (by decide)) (by decide +kernel) ?_
  refine al_aload_n (pc := 477) (n := 0) (i := 0) (j := 0) (by decide +kernel) rfl rfl ?_
  refine al_iload (pc := 478) (i := 4) (j := 4) (by decide +kernel) rfl ?_
  refine al_iconst (pc := 480) (n := 2) (v := nI 2) (by decide +kernel) rfl ?_
  refine al_iadd (pc := 481) (by decide +kernel) ?_
  refine al_sld (pc := 482) (sc_in hi hL (j := 2) (by decide)) (by decide +kernel) ?_
  refine al_ref (M' := mX12_person) (As := [.int (xs ((nI i) + (nI 1)).toNatClampNeg), .int (xs ((nI i) + (nI 2)).toNatClampNeg)]) (a := 206) (ci := 12) (st := []) (v := some (.int v)) (h' := gH g2) (pc := 483) (index := 150) rfl rfl hc hs (io_206 _) rfl iX12_person kw_6e29922285 kw_8e08b2cb33 kw_2a14d05b31 rfl rfl (Nat.le_of_ble_eq_true rfl) (by decide +kernel) (okX12_person hl eY) ?_
  refine al_istore (pc := 486) (i := 6) (lv' := [(0, .ref (ab_SB + 5000)), (1, .ref 0), (2, .ref 206), (3, .ref 219), (4, .int (nI i)), (5, .int k0), (6, .int v)]) (by decide +kernel) (by decide) rfl rfl ?_
  refine al_aload_n (pc := 488) (n := 2) (i := 2) (j := 2) (by decide +kernel) rfl rfl ?_
  refine al_ref (M' := mX12_thrown) (As := []) (a := 206) (ci := 12) (st := []) (v := some (.int (gF g2 206 0))) (h' := gH g2) (pc := 489) (index := 137) rfl rfl hc hs (io_206 g2) rfl iX12_thrown kw_3a20f3984e kw_5ecf1a43fc kw_b4788dccf4 rfl rfl (Nat.le_of_ble_eq_true rfl) (by decide +kernel) (okX12_thrown hl (f_thrown g2)) ?_
  refine al_iload (pc := 492) (i := 5) (j := 5) (by decide +kernel) rfl ?_
  refine al_icmp_eq (pc := 494) (off := 5) (tgt := 499) (by decide +kernel) (by decide) (fun _ => ?_) (fun gz => absurd eT gz)
  refine al_iload (pc := 499) (i := 5) (j := 5) (by decide +kernel) rfl ?_
  refine al_if_ne (pc := 501) (off := 15) (tgt := 516) (by decide +kernel) (by decide) (fun g0 => ?_) (fun g0 => ?_)
  · refine al_aload_n (pc := 504) (n := 3) (i := 3) (j := 3) (by decide +kernel) rfl rfl ?_
    refine al_iconst (pc := 505) (n := 0) (v := nI 0) (by decide +kernel) rfl ?_
    refine al_lald (pc := 506) (la_219 g2 (by decide)) (by decide +kernel) ?_
    refine al_iload (pc := 507) (i := 6) (j := 6) (by decide +kernel) rfl ?_
    refine al_i2l (pc := 509) (by decide +kernel) ?_
    refine al_lcmp (pc := 510) (by decide +kernel) ?_
    refine al_if_eq (pc := 511) (off := 5) (tgt := 516) (by decide +kernel) (by decide) (fun _ => ?_) (fun gz => absurd (by rw [hO g0]; exact lg_cmp_self _) gz)
    refine al_goto (pc := 516) (off := 2059) (tgt := 2575) (by decide +kernel) (by decide) ?_
    refine al_few [0, 1, 2, 3, 4] (lv' := [(0, .ref (ab_SB + 5000)), (1, .ref 0), (2, .ref 206), (3, .ref 219), (4, .int (nI i))]) rfl ?_
    exact k _ _ hN2 R2
  · refine al_goto (pc := 516) (off := 2059) (tgt := 2575) (by decide +kernel) (by decide) ?_
    refine al_few [0, 1, 2, 3, 4] (lv' := [(0, .ref (ab_SB + 5000)), (1, .ref 0), (2, .ref 206), (3, .ref 219), (4, .int (nI i))]) rfl ?_
    exact k _ _ hN2 R2
set_option maxRecDepth 100000 in
set_option maxHeartbeats 4000000 in
theorem lc_6 {l : Launch} (hl : l.stackTraces = false) {L : Nat} {xs : Nat → Int32} {N : Nat} {g : gG} (R : RE N g) (hN : N < 1000) {i : Nat} (hi : i + 6 ≤ L) (hL : L ≤ 3072) {kc ks : Nat} (hc : kc + 5 ≤ 601024) (hs : ks + 427 ≤ 7293034) (k : ∀ N' g', N' ≤ N + 1 → RE N' g' → al_S l mlaw L xs (kc + 5) (ks + 427) 2575 [(0, .ref (ab_SB + 5000)), (1, .ref 0), (2, .ref 206), (3, .ref 219), (4, .int (nI i))] [] (gH g')) : al_S l mlaw L xs kc ks 519 [(0, .ref (ab_SB + 5000)), (1, .ref 0), (2, .ref 206), (3, .ref 219), (4, .int (nI i))] [] (gH g) := by
  have hF : 11000 < Fu := by decide
  refine al_aload_n (pc := 519) (n := 1) (i := 1) (j := 1) (by decide +kernel) rfl rfl ?_
  refine al_aload_n (pc := 520) (n := 0) (i := 0) (j := 0) (by decide +kernel) rfl rfl ?_
  refine al_iload (pc := 521) (i := 4) (j := 4) (by decide +kernel) rfl ?_
  refine al_iconst (pc := 523) (n := 1) (v := nI 1) (by decide +kernel) rfl ?_
  refine al_iadd (pc := 524) (by decide +kernel) ?_
  refine al_sld (pc := 525) (sc_in hi hL (j := 1) (by decide)) (by decide +kernel) ?_
  refine al_aload_n (pc := 526) (n := 0) (i := 0) (j := 0) (by decide +kernel) rfl rfl ?_
  refine al_iload (pc := 527) (i := 4) (j := 4) (by decide +kernel) rfl ?_
  refine al_iconst (pc := 529) (n := 2) (v := nI 2) (by decide +kernel) rfl ?_
  refine al_iadd (pc := 530) (by decide +kernel) ?_
  refine al_sld (pc := 531) (sc_in hi hL (j := 2) (by decide)) (by decide +kernel) ?_
  refine al_aload_n (pc := 532) (n := 3) (i := 3) (j := 3) (by decide +kernel) rfl rfl ?_
  have hN2 : N ≤ N + 1 := Nat.le_succ _
  obtain ⟨k0, g1, v, g2, eX, eY, eT, eO, R2⟩ : Cw N (fun v : Int32 => v.toInt64) (fL_face Fu 0 ((xs ((nI i) + (nI 1)).toNatClampNeg)) ((xs ((nI i) + (nI 2)).toNatClampNeg)) 219 (gH g)) (fun h => fX12_face Fu 206 ((xs ((nI i) + (nI 1)).toNatClampNeg)) ((xs ((nI i) + (nI 2)).toNatClampNeg)) h) := (by unfold fL_face; rw [ab_ck_pos (io_0 g)]; exact Cw_q (w := (fun h v => ab_bd (ab_lw h 219 (nI 0) v.toInt64) fun h1 => some (nI 0, h1))) (fun φ h => pf_X12_face φ Fu 206 ((xs ((nI i) + (nI 1)).toNatClampNeg)) ((xs ((nI i) + (nI 2)).toNatClampNeg)) h) w_out (by decide) (cq_face R ((xs ((nI i) + (nI 1)).toNatClampNeg)) ((xs ((nI i) + (nI 2)).toNatClampNeg)) (F := Fu) hF))
  have hO : k0 = 0 → gL g2 219 0 = v.toInt64 := eO
  refine al_wrap (M' := mL_face) (hh := hL_face) (As := [.ref 0, .int (xs ((nI i) + (nI 1)).toNatClampNeg), .int (xs ((nI i) + (nI 2)).toNatClampNeg), .ref 219]) (st := []) (v := some (.int k0)) (h' := gH g1) (n := 4) (pc := 533) (index := 151) (Nat.le_of_ble_eq_true rfl) (Nat.le_of_ble_eq_true rfl) hc hs ⟨cwL_face, kw_e382c795c0, by decide +kernel⟩ kw_a840126fb0 kw_1025e870f4 rfl rfl (Nat.le_of_ble_eq_true rfl) (by decide +kernel) (okL_face hl eX) ?_
  refine al_istore (pc := 536) (i := 5) (lv' := [(0, .ref (ab_SB + 5000)), (1, .ref 0), (2, .ref 206), (3, .ref 219), (4, .int (nI i)), (5, .int k0)]) (by decide +kernel) (by decide) rfl rfl ?_
  refine al_aload_n (pc := 538) (n := 2) (i := 2) (j := 2) (by decide +kernel) rfl rfl ?_
  refine al_aload_n (pc := 539) (n := 0) (i := 0) (j := 0) (by decide +kernel) rfl rfl ?_
  refine al_iload (pc := 540) (i := 4) (j := 4) (by decide +kernel) rfl ?_
  refine al_iconst (pc := 542) (n := 1) (v := nI 1) (by decide +kernel) rfl ?_
  refine al_iadd (pc := 543) (by decide +kernel) ?_
  refine al_sld (pc := 544) (sc_in hi hL (j := 1) (by decide)) (by decide +kernel) ?_
  refine al_aload_n (pc := 545) (n := 0) (i := 0) (j := 0) (by decide +kernel) rfl rfl ?_
  refine al_iload (pc := 546) (i := 4) (j := 4) (by decide +kernel) rfl ?_
  refine al_iconst (pc := 548) (n := 2) (v := nI 2) (by decide +kernel) rfl ?_
  refine al_iadd (pc := 549) (by decide +kernel) ?_
  refine al_sld (pc := 550) (sc_in hi hL (j := 2) (by decide)) (by decide +kernel) ?_
  refine al_ref (M' := mX12_face) (As := [.int (xs ((nI i) + (nI 1)).toNatClampNeg), .int (xs ((nI i) + (nI 2)).toNatClampNeg)]) (a := 206) (ci := 12) (st := []) (v := some (.int v)) (h' := gH g2) (pc := 551) (index := 153) rfl rfl hc hs (io_206 _) rfl iX12_face kw_e2f88ddd04 kw_0a4325a7fc kw_bfa4d226c6 rfl rfl (Nat.le_of_ble_eq_true rfl) (by decide +kernel) (okX12_face hl eY) ?_
  refine al_istore (pc := 554) (i := 6) (lv' := [(0, .ref (ab_SB + 5000)), (1, .ref 0), (2, .ref 206), (3, .ref 219), (4, .int (nI i)), (5, .int k0), (6, .int v)]) (by decide +kernel) (by decide) rfl rfl ?_
  refine al_aload_n (pc := 556) (n := 2) (i := 2) (j := 2) (by decide +kernel) rfl rfl ?_
  refine al_ref (M' := mX12_thrown) (As := []) (a := 206) (ci := 12) (st := []) (v := some (.int (gF g2 206 0))) (h' := gH g2) (pc := 557) (index := 137) rfl rfl hc hs (io_206 g2) rfl iX12_thrown kw_3a20f3984e kw_5ecf1a43fc kw_b4788dccf4 rfl rfl (Nat.le_of_ble_eq_true rfl) (by decide +kernel) (okX12_thrown hl (f_thrown g2)) ?_
  refine al_iload (pc := 560) (i := 5) (j := 5) (by decide +kernel) rfl ?_
  refine al_icmp_eq (pc := 562) (off := 5) (tgt := 567) (by decide +kernel) (by decide) (fun _ => ?_) (fun gz => absurd eT gz)
  refine al_iload (pc := 567) (i := 5) (j := 5) (by decide +kernel) rfl ?_
  refine al_if_ne (pc := 569) (off := 15) (tgt := 584) (by decide +kernel) (by decide) (fun g0 => ?_) (fun g0 => ?_)
  · refine al_aload_n (pc := 572) (n := 3) (i := 3) (j := 3) (by decide +kernel) rfl rfl ?_
    refine al_iconst (pc := 573) (n := 0) (v := nI 0) (by decide +kernel) rfl ?_
    refine al_lald (pc := 574) (la_219 g2 (by decide)) (by decide +kernel) ?_
    refine al_iload (pc := 575) (i := 6) (j := 6) (by decide +kernel) rfl ?_
    refine al_i2l (pc := 577) (by decide +kernel) ?_
    refine al_lcmp (pc := 578) (by decide +kernel) ?_
    refine al_if_eq (pc := 579) (off := 5) (tgt := 584) (by decide +kernel) (by decide) (fun _ => ?_) (fun gz => absurd (by rw [hO g0]; exact lg_cmp_self _) gz)
    refine al_goto (pc := 584) (off := 1991) (tgt := 2575) (by decide +kernel) (by decide) ?_
    refine al_few [0, 1, 2, 3, 4] (lv' := [(0, .ref (ab_SB + 5000)), (1, .ref 0), (2, .ref 206), (3, .ref 219), (4, .int (nI i))]) rfl ?_
    exact k _ _ hN2 R2
  · refine al_goto (pc := 584) (off := 1991) (tgt := 2575) (by decide +kernel) (by decide) ?_
    refine al_few [0, 1, 2, 3, 4] (lv' := [(0, .ref (ab_SB + 5000)), (1, .ref 0), (2, .ref 206), (3, .ref 219), (4, .int (nI i))]) rfl ?_
    exact k _ _ hN2 R2
set_option maxRecDepth 100000 in
set_option maxHeartbeats 4000000 in
theorem lc_7 {l : Launch} (hl : l.stackTraces = false) {L : Nat} {xs : Nat → Int32} {N : Nat} {g : gG} (R : RE N g) (hN : N < 1000) {i : Nat} (hi : i + 6 ≤ L) (hL : L ≤ 3072) {kc ks : Nat} (hc : kc + 5 ≤ 601024) (hs : ks + 427 ≤ 7293034) (k : ∀ N' g', N' ≤ N + 1 → RE N' g' → al_S l mlaw L xs (kc + 5) (ks + 427) 2575 [(0, .ref (ab_SB + 5000)), (1, .ref 0), (2, .ref 206), (3, .ref 219), (4, .int (nI i))] [] (gH g')) : al_S l mlaw L xs kc ks 587 [(0, .ref (ab_SB + 5000)), (1, .ref 0), (2, .ref 206), (3, .ref 219), (4, .int (nI i))] [] (gH g) := by
  have hF : 11000 < Fu := by decide
  refine al_aload_n (pc := 587) (n := 1) (i := 1) (j := 1) (by decide +kernel) rfl rfl ?_
  refine al_aload_n (pc := 588) (n := 0) (i := 0) (j := 0) (by decide +kernel) rfl rfl ?_
  refine al_iload (pc := 589) (i := 4) (j := 4) (by decide +kernel) rfl ?_
  refine al_iconst (pc := 591) (n := 1) (v := nI 1) (by decide +kernel) rfl ?_
  refine al_iadd (pc := 592) (by decide +kernel) ?_
  refine al_sld (pc := 593) (sc_in hi hL (j := 1) (by decide)) (by decide +kernel) ?_
  refine al_aload_n (pc := 594) (n := 3) (i := 3) (j := 3) (by decide +kernel) rfl rfl ?_
  have hN2 : N ≤ N + 1 := Nat.le_succ _
  obtain ⟨k0, g1, v, g2, eX, eY, eT, eO, R2⟩ : Cw N (fun v : Int32 => v.toInt64) (fL_hook 0 ((xs ((nI i) + (nI 1)).toNatClampNeg)) 219 (gH g)) (fun h => fX12_hook 206 ((xs ((nI i) + (nI 1)).toNatClampNeg)) h) := (by unfold fL_hook; rw [ab_ck_pos (io_0 g)]; exact Cw_q (w := (fun h v => ab_bd (ab_lw h 219 (nI 0) v.toInt64) fun h1 => some (nI 0, h1))) (fun φ h => pf_X12_hook φ 206 ((xs ((nI i) + (nI 1)).toNatClampNeg)) h) w_out (by decide) (cq_hook R ((xs ((nI i) + (nI 1)).toNatClampNeg))))
  have hO : k0 = 0 → gL g2 219 0 = v.toInt64 := eO
  refine al_wrap (M' := mL_hook) (hh := hL_hook) (As := [.ref 0, .int (xs ((nI i) + (nI 1)).toNatClampNeg), .ref 219]) (st := []) (v := some (.int k0)) (h' := gH g1) (n := 3) (pc := 595) (index := 154) (Nat.le_of_ble_eq_true rfl) (Nat.le_of_ble_eq_true rfl) hc hs ⟨cwL_hook, kw_e382c795c0, by decide +kernel⟩ kw_7ffbb1beb5 kw_90bf407335 rfl rfl (Nat.le_of_ble_eq_true rfl) (by decide +kernel) (okL_hook hl eX) ?_
  refine al_istore (pc := 598) (i := 5) (lv' := [(0, .ref (ab_SB + 5000)), (1, .ref 0), (2, .ref 206), (3, .ref 219), (4, .int (nI i)), (5, .int k0)]) (by decide +kernel) (by decide) rfl rfl ?_
  refine al_aload_n (pc := 600) (n := 2) (i := 2) (j := 2) (by decide +kernel) rfl rfl ?_
  refine al_aload_n (pc := 601) (n := 0) (i := 0) (j := 0) (by decide +kernel) rfl rfl ?_
  refine al_iload (pc := 602) (i := 4) (j := 4) (by decide +kernel) rfl ?_
  refine al_iconst (pc := 604) (n := 1) (v := nI 1) (by decide +kernel) rfl ?_
  refine al_iadd (pc := 605) (by decide +kernel) ?_
  refine al_sld (pc := 606) (sc_in hi hL (j := 1) (by decide)) (by decide +kernel) ?_
  refine al_ref (M' := mX12_hook) (As := [.int (xs ((nI i) + (nI 1)).toNatClampNeg)]) (a := 206) (ci := 12) (st := []) (v := some (.int v)) (h' := gH g2) (pc := 607) (index := 157) rfl rfl hc hs (io_206 _) rfl iX12_hook kw_ad27f3257c kw_dfa7b448e9 kw_0d5d9d848a rfl rfl (Nat.le_of_ble_eq_true rfl) (by decide +kernel) (okX12_hook hl eY) ?_
  refine al_istore (pc := 610) (i := 6) (lv' := [(0, .ref (ab_SB + 5000)), (1, .ref 0), (2, .ref 206), (3, .ref 219), (4, .int (nI i)), (5, .int k0), (6, .int v)]) (by decide +kernel) (by decide) rfl rfl ?_
  refine al_aload_n (pc := 612) (n := 2) (i := 2) (j := 2) (by decide +kernel) rfl rfl ?_
  refine al_ref (M' := mX12_thrown) (As := []) (a := 206) (ci := 12) (st := []) (v := some (.int (gF g2 206 0))) (h' := gH g2) (pc := 613) (index := 137) rfl rfl hc hs (io_206 g2) rfl iX12_thrown kw_3a20f3984e kw_5ecf1a43fc kw_b4788dccf4 rfl rfl (Nat.le_of_ble_eq_true rfl) (by decide +kernel) (okX12_thrown hl (f_thrown g2)) ?_
  refine al_iload (pc := 616) (i := 5) (j := 5) (by decide +kernel) rfl ?_
  refine al_icmp_eq (pc := 618) (off := 5) (tgt := 623) (by decide +kernel) (by decide) (fun _ => ?_) (fun gz => absurd eT gz)
  refine al_iload (pc := 623) (i := 5) (j := 5) (by decide +kernel) rfl ?_
  refine al_if_ne (pc := 625) (off := 15) (tgt := 640) (by decide +kernel) (by decide) (fun g0 => ?_) (fun g0 => ?_)
  · refine al_aload_n (pc := 628) (n := 3) (i := 3) (j := 3) (by decide +kernel) rfl rfl ?_
    refine al_iconst (pc := 629) (n := 0) (v := nI 0) (by decide +kernel) rfl ?_
    refine al_lald (pc := 630) (la_219 g2 (by decide)) (by decide +kernel) ?_
    refine al_iload (pc := 631) (i := 6) (j := 6) (by decide +kernel) rfl ?_
    refine al_i2l (pc := 633) (by decide +kernel) ?_
    refine al_lcmp (pc := 634) (by decide +kernel) ?_
    refine al_if_eq (pc := 635) (off := 5) (tgt := 640) (by decide +kernel) (by decide) (fun _ => ?_) (fun gz => absurd (by rw [hO g0]; exact lg_cmp_self _) gz)
    refine al_goto (pc := 640) (off := 1935) (tgt := 2575) (by decide +kernel) (by decide) ?_
    refine al_few [0, 1, 2, 3, 4] (lv' := [(0, .ref (ab_SB + 5000)), (1, .ref 0), (2, .ref 206), (3, .ref 219), (4, .int (nI i))]) rfl ?_
    exact k _ _ hN2 R2
  · refine al_goto (pc := 640) (off := 1935) (tgt := 2575) (by decide +kernel) (by decide) ?_
    refine al_few [0, 1, 2, 3, 4] (lv' := [(0, .ref (ab_SB + 5000)), (1, .ref 0), (2, .ref 206), (3, .ref 219), (4, .int (nI i))]) rfl ?_
    exact k _ _ hN2 R2
set_option maxRecDepth 100000 in
set_option maxHeartbeats 4000000 in
theorem lc_8 {l : Launch} (hl : l.stackTraces = false) {L : Nat} {xs : Nat → Int32} {N : Nat} {g : gG} (R : RE N g) (hN : N < 1000) {i : Nat} (hi : i + 6 ≤ L) (hL : L ≤ 3072) {kc ks : Nat} (hc : kc + 5 ≤ 601024) (hs : ks + 427 ≤ 7293034) (k : ∀ N' g', N' ≤ N + 1 → RE N' g' → al_S l mlaw L xs (kc + 5) (ks + 427) 2575 [(0, .ref (ab_SB + 5000)), (1, .ref 0), (2, .ref 206), (3, .ref 219), (4, .int (nI i))] [] (gH g')) : al_S l mlaw L xs kc ks 643 [(0, .ref (ab_SB + 5000)), (1, .ref 0), (2, .ref 206), (3, .ref 219), (4, .int (nI i))] [] (gH g) := by
  have hF : 11000 < Fu := by decide
  refine al_aload_n (pc := 643) (n := 1) (i := 1) (j := 1) (by decide +kernel) rfl rfl ?_
  refine al_aload_n (pc := 644) (n := 0) (i := 0) (j := 0) (by decide +kernel) rfl rfl ?_
  refine al_iload (pc := 645) (i := 4) (j := 4) (by decide +kernel) rfl ?_
  refine al_iconst (pc := 647) (n := 1) (v := nI 1) (by decide +kernel) rfl ?_
  refine al_iadd (pc := 648) (by decide +kernel) ?_
  refine al_sld (pc := 649) (sc_in hi hL (j := 1) (by decide)) (by decide +kernel) ?_
  refine al_aload_n (pc := 650) (n := 0) (i := 0) (j := 0) (by decide +kernel) rfl rfl ?_
  refine al_iload (pc := 651) (i := 4) (j := 4) (by decide +kernel) rfl ?_
  refine al_iconst (pc := 653) (n := 2) (v := nI 2) (by decide +kernel) rfl ?_
  refine al_iadd (pc := 654) (by decide +kernel) ?_
  refine al_sld (pc := 655) (sc_in hi hL (j := 2) (by decide)) (by decide +kernel) ?_
  refine al_aload_n (pc := 656) (n := 3) (i := 3) (j := 3) (by decide +kernel) rfl rfl ?_
  have hN2 : N ≤ N + 1 := Nat.le_succ _
  obtain ⟨k0, g1, v, g2, eX, eY, eT, eO, R2⟩ : Cw N (fun v : Int32 => v.toInt64) (fL_wish 0 ((xs ((nI i) + (nI 1)).toNatClampNeg)) ((xs ((nI i) + (nI 2)).toNatClampNeg)) 219 (gH g)) (fun h => fX12_wish Fu 206 ((xs ((nI i) + (nI 1)).toNatClampNeg)) ((xs ((nI i) + (nI 2)).toNatClampNeg)) h) := (by unfold fL_wish; rw [ab_ck_pos (io_0 g)]; exact Cw_q (w := (fun h v => ab_bd (ab_lw h 219 (nI 0) v.toInt64) fun h1 => some (nI 0, h1))) (fun φ h => pf_X12_wish φ Fu 206 ((xs ((nI i) + (nI 1)).toNatClampNeg)) ((xs ((nI i) + (nI 2)).toNatClampNeg)) h) w_out (by decide) (cq_wish R ((xs ((nI i) + (nI 1)).toNatClampNeg)) ((xs ((nI i) + (nI 2)).toNatClampNeg)) (F := Fu) hF))
  have hO : k0 = 0 → gL g2 219 0 = v.toInt64 := eO
  refine al_wrap (M' := mL_wish) (hh := hL_wish) (As := [.ref 0, .int (xs ((nI i) + (nI 1)).toNatClampNeg), .int (xs ((nI i) + (nI 2)).toNatClampNeg), .ref 219]) (st := []) (v := some (.int k0)) (h' := gH g1) (n := 4) (pc := 657) (index := 158) (Nat.le_of_ble_eq_true rfl) (Nat.le_of_ble_eq_true rfl) hc hs ⟨cwL_wish, kw_e382c795c0, by decide +kernel⟩ kw_8e1f765a66 kw_bb1af3b881 rfl rfl (Nat.le_of_ble_eq_true rfl) (by decide +kernel) (okL_wish hl eX) ?_
  refine al_istore (pc := 660) (i := 5) (lv' := [(0, .ref (ab_SB + 5000)), (1, .ref 0), (2, .ref 206), (3, .ref 219), (4, .int (nI i)), (5, .int k0)]) (by decide +kernel) (by decide) rfl rfl ?_
  refine al_aload_n (pc := 662) (n := 2) (i := 2) (j := 2) (by decide +kernel) rfl rfl ?_
  refine al_aload_n (pc := 663) (n := 0) (i := 0) (j := 0) (by decide +kernel) rfl rfl ?_
  refine al_iload (pc := 664) (i := 4) (j := 4) (by decide +kernel) rfl ?_
  refine al_iconst (pc := 666) (n := 1) (v := nI 1) (by decide +kernel) rfl ?_
  refine al_iadd (pc := 667) (by decide +kernel) ?_
  refine al_sld (pc := 668) (sc_in hi hL (j := 1) (by decide)) (by decide +kernel) ?_
  refine al_aload_n (pc := 669) (n := 0) (i := 0) (j := 0) (by decide +kernel) rfl rfl ?_
  refine al_iload (pc := 670) (i := 4) (j := 4) (by decide +kernel) rfl ?_
  refine al_iconst (pc := 672) (n := 2) (v := nI 2) (by decide +kernel) rfl ?_
  refine al_iadd (pc := 673) (by decide +kernel) ?_
  refine al_sld (pc := 674) (sc_in hi hL (j := 2) (by decide)) (by decide +kernel) ?_
  refine al_ref (M' := mX12_wish) (As := [.int (xs ((nI i) + (nI 1)).toNatClampNeg), .int (xs ((nI i) + (nI 2)).toNatClampNeg)]) (a := 206) (ci := 12) (st := []) (v := some (.int v)) (h' := gH g2) (pc := 675) (index := 160) rfl rfl hc hs (io_206 _) rfl iX12_wish kw_80ee283043 kw_06fca52864 kw_c85542687c rfl rfl (Nat.le_of_ble_eq_true rfl) (by decide +kernel) (okX12_wish hl eY) ?_
  refine al_istore (pc := 678) (i := 6) (lv' := [(0, .ref (ab_SB + 5000)), (1, .ref 0), (2, .ref 206), (3, .ref 219), (4, .int (nI i)), (5, .int k0), (6, .int v)]) (by decide +kernel) (by decide) rfl rfl ?_
  refine al_aload_n (pc := 680) (n := 2) (i := 2) (j := 2) (by decide +kernel) rfl rfl ?_
  refine al_ref (M' := mX12_thrown) (As := []) (a := 206) (ci := 12) (st := []) (v := some (.int (gF g2 206 0))) (h' := gH g2) (pc := 681) (index := 137) rfl rfl hc hs (io_206 g2) rfl iX12_thrown kw_3a20f3984e kw_5ecf1a43fc kw_b4788dccf4 rfl rfl (Nat.le_of_ble_eq_true rfl) (by decide +kernel) (okX12_thrown hl (f_thrown g2)) ?_
  refine al_iload (pc := 684) (i := 5) (j := 5) (by decide +kernel) rfl ?_
  refine al_icmp_eq (pc := 686) (off := 5) (tgt := 691) (by decide +kernel) (by decide) (fun _ => ?_) (fun gz => absurd eT gz)
  refine al_iload (pc := 691) (i := 5) (j := 5) (by decide +kernel) rfl ?_
  refine al_if_ne (pc := 693) (off := 15) (tgt := 708) (by decide +kernel) (by decide) (fun g0 => ?_) (fun g0 => ?_)
  · refine al_aload_n (pc := 696) (n := 3) (i := 3) (j := 3) (by decide +kernel) rfl rfl ?_
    refine al_iconst (pc := 697) (n := 0) (v := nI 0) (by decide +kernel) rfl ?_
    refine al_lald (pc := 698) (la_219 g2 (by decide)) (by decide +kernel) ?_
    refine al_iload (pc := 699) (i := 6) (j := 6) (by decide +kernel) rfl ?_
    refine al_i2l (pc := 701) (by decide +kernel) ?_
    refine al_lcmp (pc := 702) (by decide +kernel) ?_
    refine al_if_eq (pc := 703) (off := 5) (tgt := 708) (by decide +kernel) (by decide) (fun _ => ?_) (fun gz => absurd (by rw [hO g0]; exact lg_cmp_self _) gz)
    refine al_goto (pc := 708) (off := 1867) (tgt := 2575) (by decide +kernel) (by decide) ?_
    refine al_few [0, 1, 2, 3, 4] (lv' := [(0, .ref (ab_SB + 5000)), (1, .ref 0), (2, .ref 206), (3, .ref 219), (4, .int (nI i))]) rfl ?_
    exact k _ _ hN2 R2
  · refine al_goto (pc := 708) (off := 1867) (tgt := 2575) (by decide +kernel) (by decide) ?_
    refine al_few [0, 1, 2, 3, 4] (lv' := [(0, .ref (ab_SB + 5000)), (1, .ref 0), (2, .ref 206), (3, .ref 219), (4, .int (nI i))]) rfl ?_
    exact k _ _ hN2 R2
set_option maxRecDepth 100000 in
set_option maxHeartbeats 4000000 in
theorem lc_9 {l : Launch} (hl : l.stackTraces = false) {L : Nat} {xs : Nat → Int32} {N : Nat} {g : gG} (R : RE N g) (hN : N < 1000) {i : Nat} (hi : i + 6 ≤ L) (hL : L ≤ 3072) {kc ks : Nat} (hc : kc + 5 ≤ 601024) (hs : ks + 427 ≤ 7293034) (k : ∀ N' g', N' ≤ N + 1 → RE N' g' → al_S l mlaw L xs (kc + 5) (ks + 427) 2575 [(0, .ref (ab_SB + 5000)), (1, .ref 0), (2, .ref 206), (3, .ref 219), (4, .int (nI i))] [] (gH g')) : al_S l mlaw L xs kc ks 711 [(0, .ref (ab_SB + 5000)), (1, .ref 0), (2, .ref 206), (3, .ref 219), (4, .int (nI i))] [] (gH g) := by
  have hF : 11000 < Fu := by decide
  refine al_aload_n (pc := 711) (n := 1) (i := 1) (j := 1) (by decide +kernel) rfl rfl ?_
  refine al_aload_n (pc := 712) (n := 0) (i := 0) (j := 0) (by decide +kernel) rfl rfl ?_
  refine al_iload (pc := 713) (i := 4) (j := 4) (by decide +kernel) rfl ?_
  refine al_iconst (pc := 715) (n := 1) (v := nI 1) (by decide +kernel) rfl ?_
  refine al_iadd (pc := 716) (by decide +kernel) ?_
  refine al_sld (pc := 717) (sc_in hi hL (j := 1) (by decide)) (by decide +kernel) ?_
  refine al_aload_n (pc := 718) (n := 0) (i := 0) (j := 0) (by decide +kernel) rfl rfl ?_
  refine al_iload (pc := 719) (i := 4) (j := 4) (by decide +kernel) rfl ?_
  refine al_iconst (pc := 721) (n := 2) (v := nI 2) (by decide +kernel) rfl ?_
  refine al_iadd (pc := 722) (by decide +kernel) ?_
  refine al_sld (pc := 723) (sc_in hi hL (j := 2) (by decide)) (by decide +kernel) ?_
  refine al_aload_n (pc := 724) (n := 3) (i := 3) (j := 3) (by decide +kernel) rfl rfl ?_
  have hN2 : N ≤ N + 1 := Nat.le_succ _
  obtain ⟨k0, g1, v, g2, eX, eY, eT, eO, R2⟩ : Cw N (fun v : Int32 => v.toInt64) (fL_thinks 0 ((xs ((nI i) + (nI 1)).toNatClampNeg)) ((xs ((nI i) + (nI 2)).toNatClampNeg)) 219 (gH g)) (fun h => fX12_thinks 206 ((xs ((nI i) + (nI 1)).toNatClampNeg)) ((xs ((nI i) + (nI 2)).toNatClampNeg)) h) := (by unfold fL_thinks; rw [ab_ck_pos (io_0 g)]; exact Cw_q (w := (fun h v => ab_bd (ab_lw h 219 (nI 0) v.toInt64) fun h1 => some (nI 0, h1))) (fun φ h => pf_X12_thinks φ 206 ((xs ((nI i) + (nI 1)).toNatClampNeg)) ((xs ((nI i) + (nI 2)).toNatClampNeg)) h) w_out (by decide) (cq_thinks R ((xs ((nI i) + (nI 1)).toNatClampNeg)) ((xs ((nI i) + (nI 2)).toNatClampNeg))))
  have hO : k0 = 0 → gL g2 219 0 = v.toInt64 := eO
  refine al_wrap (M' := mL_thinks) (hh := hL_thinks) (As := [.ref 0, .int (xs ((nI i) + (nI 1)).toNatClampNeg), .int (xs ((nI i) + (nI 2)).toNatClampNeg), .ref 219]) (st := []) (v := some (.int k0)) (h' := gH g1) (n := 4) (pc := 725) (index := 161) (Nat.le_of_ble_eq_true rfl) (Nat.le_of_ble_eq_true rfl) hc hs ⟨cwL_thinks, kw_e382c795c0, by decide +kernel⟩ kw_5a4b4cdd8e kw_87ac35e358 rfl rfl (Nat.le_of_ble_eq_true rfl) (by decide +kernel) (okL_thinks hl eX) ?_
  refine al_istore (pc := 728) (i := 5) (lv' := [(0, .ref (ab_SB + 5000)), (1, .ref 0), (2, .ref 206), (3, .ref 219), (4, .int (nI i)), (5, .int k0)]) (by decide +kernel) (by decide) rfl rfl ?_
  refine al_aload_n (pc := 730) (n := 2) (i := 2) (j := 2) (by decide +kernel) rfl rfl ?_
  refine al_aload_n (pc := 731) (n := 0) (i := 0) (j := 0) (by decide +kernel) rfl rfl ?_
  refine al_iload (pc := 732) (i := 4) (j := 4) (by decide +kernel) rfl ?_
  refine al_iconst (pc := 734) (n := 1) (v := nI 1) (by decide +kernel) rfl ?_
  refine al_iadd (pc := 735) (by decide +kernel) ?_
  refine al_sld (pc := 736) (sc_in hi hL (j := 1) (by decide)) (by decide +kernel) ?_
  refine al_aload_n (pc := 737) (n := 0) (i := 0) (j := 0) (by decide +kernel) rfl rfl ?_
  refine al_iload (pc := 738) (i := 4) (j := 4) (by decide +kernel) rfl ?_
  refine al_iconst (pc := 740) (n := 2) (v := nI 2) (by decide +kernel) rfl ?_
  refine al_iadd (pc := 741) (by decide +kernel) ?_
  refine al_sld (pc := 742) (sc_in hi hL (j := 2) (by decide)) (by decide +kernel) ?_
  refine al_ref (M' := mX12_thinks) (As := [.int (xs ((nI i) + (nI 1)).toNatClampNeg), .int (xs ((nI i) + (nI 2)).toNatClampNeg)]) (a := 206) (ci := 12) (st := []) (v := some (.int v)) (h' := gH g2) (pc := 743) (index := 163) rfl rfl hc hs (io_206 _) rfl iX12_thinks kw_b0f8274dd6 kw_b742915529 kw_62557ea5ec rfl rfl (Nat.le_of_ble_eq_true rfl) (by decide +kernel) (okX12_thinks hl eY) ?_
  refine al_istore (pc := 746) (i := 6) (lv' := [(0, .ref (ab_SB + 5000)), (1, .ref 0), (2, .ref 206), (3, .ref 219), (4, .int (nI i)), (5, .int k0), (6, .int v)]) (by decide +kernel) (by decide) rfl rfl ?_
  refine al_aload_n (pc := 748) (n := 2) (i := 2) (j := 2) (by decide +kernel) rfl rfl ?_
  refine al_ref (M' := mX12_thrown) (As := []) (a := 206) (ci := 12) (st := []) (v := some (.int (gF g2 206 0))) (h' := gH g2) (pc := 749) (index := 137) rfl rfl hc hs (io_206 g2) rfl iX12_thrown kw_3a20f3984e kw_5ecf1a43fc kw_b4788dccf4 rfl rfl (Nat.le_of_ble_eq_true rfl) (by decide +kernel) (okX12_thrown hl (f_thrown g2)) ?_
  refine al_iload (pc := 752) (i := 5) (j := 5) (by decide +kernel) rfl ?_
  refine al_icmp_eq (pc := 754) (off := 5) (tgt := 759) (by decide +kernel) (by decide) (fun _ => ?_) (fun gz => absurd eT gz)
  refine al_iload (pc := 759) (i := 5) (j := 5) (by decide +kernel) rfl ?_
  refine al_if_ne (pc := 761) (off := 15) (tgt := 776) (by decide +kernel) (by decide) (fun g0 => ?_) (fun g0 => ?_)
  · refine al_aload_n (pc := 764) (n := 3) (i := 3) (j := 3) (by decide +kernel) rfl rfl ?_
    refine al_iconst (pc := 765) (n := 0) (v := nI 0) (by decide +kernel) rfl ?_
    refine al_lald (pc := 766) (la_219 g2 (by decide)) (by decide +kernel) ?_
    refine al_iload (pc := 767) (i := 6) (j := 6) (by decide +kernel) rfl ?_
    refine al_i2l (pc := 769) (by decide +kernel) ?_
    refine al_lcmp (pc := 770) (by decide +kernel) ?_
    refine al_if_eq (pc := 771) (off := 5) (tgt := 776) (by decide +kernel) (by decide) (fun _ => ?_) (fun gz => absurd (by rw [hO g0]; exact lg_cmp_self _) gz)
    refine al_goto (pc := 776) (off := 1799) (tgt := 2575) (by decide +kernel) (by decide) ?_
    refine al_few [0, 1, 2, 3, 4] (lv' := [(0, .ref (ab_SB + 5000)), (1, .ref 0), (2, .ref 206), (3, .ref 219), (4, .int (nI i))]) rfl ?_
    exact k _ _ hN2 R2
  · refine al_goto (pc := 776) (off := 1799) (tgt := 2575) (by decide +kernel) (by decide) ?_
    refine al_few [0, 1, 2, 3, 4] (lv' := [(0, .ref (ab_SB + 5000)), (1, .ref 0), (2, .ref 206), (3, .ref 219), (4, .int (nI i))]) rfl ?_
    exact k _ _ hN2 R2
set_option maxRecDepth 100000 in
set_option maxHeartbeats 4000000 in
theorem lc_10 {l : Launch} (hl : l.stackTraces = false) {L : Nat} {xs : Nat → Int32} {N : Nat} {g : gG} (R : RE N g) (hN : N < 1000) {i : Nat} (hi : i + 6 ≤ L) (hL : L ≤ 3072) {kc ks : Nat} (hc : kc + 5 ≤ 601024) (hs : ks + 427 ≤ 7293034) (k : ∀ N' g', N' ≤ N + 1 → RE N' g' → al_S l mlaw L xs (kc + 5) (ks + 427) 2575 [(0, .ref (ab_SB + 5000)), (1, .ref 0), (2, .ref 206), (3, .ref 219), (4, .int (nI i))] [] (gH g')) : al_S l mlaw L xs kc ks 779 [(0, .ref (ab_SB + 5000)), (1, .ref 0), (2, .ref 206), (3, .ref 219), (4, .int (nI i))] [] (gH g) := by
  have hF : 11000 < Fu := by decide
  refine al_aload_n (pc := 779) (n := 1) (i := 1) (j := 1) (by decide +kernel) rfl rfl ?_
  refine al_aload_n (pc := 780) (n := 0) (i := 0) (j := 0) (by decide +kernel) rfl rfl ?_
  refine al_iload (pc := 781) (i := 4) (j := 4) (by decide +kernel) rfl ?_
  refine al_iconst (pc := 783) (n := 1) (v := nI 1) (by decide +kernel) rfl ?_
  refine al_iadd (pc := 784) (by decide +kernel) ?_
  refine al_sld (pc := 785) (sc_in hi hL (j := 1) (by decide)) (by decide +kernel) ?_
  refine al_aload_n (pc := 786) (n := 0) (i := 0) (j := 0) (by decide +kernel) rfl rfl ?_
  refine al_iload (pc := 787) (i := 4) (j := 4) (by decide +kernel) rfl ?_
  refine al_iconst (pc := 789) (n := 2) (v := nI 2) (by decide +kernel) rfl ?_
  refine al_iadd (pc := 790) (by decide +kernel) ?_
  refine al_sld (pc := 791) (sc_in hi hL (j := 2) (by decide)) (by decide +kernel) ?_
  refine al_aload_n (pc := 792) (n := 3) (i := 3) (j := 3) (by decide +kernel) rfl rfl ?_
  have hN2 : N ≤ N + 1 := Nat.le_succ _
  obtain ⟨k0, g1, v, g2, eX, eY, eT, eO, R2⟩ : Cw N (fun v : Int32 => v.toInt64) (fL_hand 0 ((xs ((nI i) + (nI 1)).toNatClampNeg)) ((xs ((nI i) + (nI 2)).toNatClampNeg)) 219 (gH g)) (fun h => fX12_hand Fu 206 ((xs ((nI i) + (nI 1)).toNatClampNeg)) ((xs ((nI i) + (nI 2)).toNatClampNeg)) h) := (by unfold fL_hand; rw [ab_ck_pos (io_0 g)]; exact Cw_a (w := (fun h v => ab_bd (ab_lw h 219 (nI 0) v.toInt64) fun h1 => some (nI 0, h1))) (fun φ h => pf_X12_hand φ Fu 206 ((xs ((nI i) + (nI 1)).toNatClampNeg)) ((xs ((nI i) + (nI 2)).toNatClampNeg)) h) w_out (by decide) (ca_hand R ((xs ((nI i) + (nI 1)).toNatClampNeg)) ((xs ((nI i) + (nI 2)).toNatClampNeg)) (F := Fu) hF))
  have hO : k0 = 0 → gL g2 219 0 = v.toInt64 := eO
  refine al_wrap (M' := mL_hand) (hh := hL_hand) (As := [.ref 0, .int (xs ((nI i) + (nI 1)).toNatClampNeg), .int (xs ((nI i) + (nI 2)).toNatClampNeg), .ref 219]) (st := []) (v := some (.int k0)) (h' := gH g1) (n := 4) (pc := 793) (index := 164) (Nat.le_of_ble_eq_true rfl) (Nat.le_of_ble_eq_true rfl) hc hs ⟨cwL_hand, kw_e382c795c0, by decide +kernel⟩ kw_792af0bdc4 kw_12015cfb71 rfl rfl (Nat.le_of_ble_eq_true rfl) (by decide +kernel) (okL_hand hl eX) ?_
  refine al_istore (pc := 796) (i := 5) (lv' := [(0, .ref (ab_SB + 5000)), (1, .ref 0), (2, .ref 206), (3, .ref 219), (4, .int (nI i)), (5, .int k0)]) (by decide +kernel) (by decide) rfl rfl ?_
  refine al_aload_n (pc := 798) (n := 2) (i := 2) (j := 2) (by decide +kernel) rfl rfl ?_
  refine al_aload_n (pc := 799) (n := 0) (i := 0) (j := 0) (by decide +kernel) rfl rfl ?_
  refine al_iload (pc := 800) (i := 4) (j := 4) (by decide +kernel) rfl ?_
  refine al_iconst (pc := 802) (n := 1) (v := nI 1) (by decide +kernel) rfl ?_
  refine al_iadd (pc := 803) (by decide +kernel) ?_
  refine al_sld (pc := 804) (sc_in hi hL (j := 1) (by decide)) (by decide +kernel) ?_
  refine al_aload_n (pc := 805) (n := 0) (i := 0) (j := 0) (by decide +kernel) rfl rfl ?_
  refine al_iload (pc := 806) (i := 4) (j := 4) (by decide +kernel) rfl ?_
  refine al_iconst (pc := 808) (n := 2) (v := nI 2) (by decide +kernel) rfl ?_
  refine al_iadd (pc := 809) (by decide +kernel) ?_
  refine al_sld (pc := 810) (sc_in hi hL (j := 2) (by decide)) (by decide +kernel) ?_
  refine al_ref (M' := mX12_hand) (As := [.int (xs ((nI i) + (nI 1)).toNatClampNeg), .int (xs ((nI i) + (nI 2)).toNatClampNeg)]) (a := 206) (ci := 12) (st := []) (v := some (.int v)) (h' := gH g2) (pc := 811) (index := 166) rfl rfl hc hs (io_206 _) rfl iX12_hand kw_5934eab39c kw_318e887356 kw_c247464b56 rfl rfl (Nat.le_of_ble_eq_true rfl) (by decide +kernel) (okX12_hand hl eY) ?_
  refine al_istore (pc := 814) (i := 6) (lv' := [(0, .ref (ab_SB + 5000)), (1, .ref 0), (2, .ref 206), (3, .ref 219), (4, .int (nI i)), (5, .int k0), (6, .int v)]) (by decide +kernel) (by decide) rfl rfl ?_
  refine al_aload_n (pc := 816) (n := 2) (i := 2) (j := 2) (by decide +kernel) rfl rfl ?_
  refine al_ref (M' := mX12_thrown) (As := []) (a := 206) (ci := 12) (st := []) (v := some (.int (gF g2 206 0))) (h' := gH g2) (pc := 817) (index := 137) rfl rfl hc hs (io_206 g2) rfl iX12_thrown kw_3a20f3984e kw_5ecf1a43fc kw_b4788dccf4 rfl rfl (Nat.le_of_ble_eq_true rfl) (by decide +kernel) (okX12_thrown hl (f_thrown g2)) ?_
  refine al_iload (pc := 820) (i := 5) (j := 5) (by decide +kernel) rfl ?_
  refine al_icmp_eq (pc := 822) (off := 5) (tgt := 827) (by decide +kernel) (by decide) (fun _ => ?_) (fun gz => absurd eT gz)
  refine al_iload (pc := 827) (i := 5) (j := 5) (by decide +kernel) rfl ?_
  refine al_if_ne (pc := 829) (off := 15) (tgt := 844) (by decide +kernel) (by decide) (fun g0 => ?_) (fun g0 => ?_)
  · refine al_aload_n (pc := 832) (n := 3) (i := 3) (j := 3) (by decide +kernel) rfl rfl ?_
    refine al_iconst (pc := 833) (n := 0) (v := nI 0) (by decide +kernel) rfl ?_
    refine al_lald (pc := 834) (la_219 g2 (by decide)) (by decide +kernel) ?_
    refine al_iload (pc := 835) (i := 6) (j := 6) (by decide +kernel) rfl ?_
    refine al_i2l (pc := 837) (by decide +kernel) ?_
    refine al_lcmp (pc := 838) (by decide +kernel) ?_
    refine al_if_eq (pc := 839) (off := 5) (tgt := 844) (by decide +kernel) (by decide) (fun _ => ?_) (fun gz => absurd (by rw [hO g0]; exact lg_cmp_self _) gz)
    refine al_goto (pc := 844) (off := 1731) (tgt := 2575) (by decide +kernel) (by decide) ?_
    refine al_few [0, 1, 2, 3, 4] (lv' := [(0, .ref (ab_SB + 5000)), (1, .ref 0), (2, .ref 206), (3, .ref 219), (4, .int (nI i))]) rfl ?_
    exact k _ _ hN2 R2
  · refine al_goto (pc := 844) (off := 1731) (tgt := 2575) (by decide +kernel) (by decide) ?_
    refine al_few [0, 1, 2, 3, 4] (lv' := [(0, .ref (ab_SB + 5000)), (1, .ref 0), (2, .ref 206), (3, .ref 219), (4, .int (nI i))]) rfl ?_
    exact k _ _ hN2 R2
set_option maxRecDepth 100000 in
set_option maxHeartbeats 4000000 in
theorem lc_11 {l : Launch} (hl : l.stackTraces = false) {L : Nat} {xs : Nat → Int32} {N : Nat} {g : gG} (R : RE N g) (hN : N < 1000) {i : Nat} (hi : i + 6 ≤ L) (hL : L ≤ 3072) {kc ks : Nat} (hc : kc + 5 ≤ 601024) (hs : ks + 427 ≤ 7293034) (k : ∀ N' g', N' ≤ N + 1 → RE N' g' → al_S l mlaw L xs (kc + 5) (ks + 427) 2575 [(0, .ref (ab_SB + 5000)), (1, .ref 0), (2, .ref 206), (3, .ref 219), (4, .int (nI i))] [] (gH g')) : al_S l mlaw L xs kc ks 847 [(0, .ref (ab_SB + 5000)), (1, .ref 0), (2, .ref 206), (3, .ref 219), (4, .int (nI i))] [] (gH g) := by
  have hF : 11000 < Fu := by decide
  refine al_aload_n (pc := 847) (n := 1) (i := 1) (j := 1) (by decide +kernel) rfl rfl ?_
  refine al_aload_n (pc := 848) (n := 0) (i := 0) (j := 0) (by decide +kernel) rfl rfl ?_
  refine al_iload (pc := 849) (i := 4) (j := 4) (by decide +kernel) rfl ?_
  refine al_iconst (pc := 851) (n := 1) (v := nI 1) (by decide +kernel) rfl ?_
  refine al_iadd (pc := 852) (by decide +kernel) ?_
  refine al_sld (pc := 853) (sc_in hi hL (j := 1) (by decide)) (by decide +kernel) ?_
  refine al_aload_n (pc := 854) (n := 3) (i := 3) (j := 3) (by decide +kernel) rfl rfl ?_
  have hN2 : N ≤ N + 1 := Nat.le_succ _
  obtain ⟨k0, g1, v, g2, eX, eY, eT, eO, R2⟩ : Cw N (fun v : Int32 => v.toInt64) (fL_fetch 0 ((xs ((nI i) + (nI 1)).toNatClampNeg)) 219 (gH g)) (fun h => fX12_fetch Fu 206 ((xs ((nI i) + (nI 1)).toNatClampNeg)) h) := (by unfold fL_fetch; rw [ab_ck_pos (io_0 g)]; exact Cw_a (w := (fun h v => ab_bd (ab_lw h 219 (nI 0) v.toInt64) fun h1 => some (nI 0, h1))) (fun φ h => pf_X12_fetch φ Fu 206 ((xs ((nI i) + (nI 1)).toNatClampNeg)) h) w_out (by decide) (ca_fetch R ((xs ((nI i) + (nI 1)).toNatClampNeg)) (F := Fu) hF))
  have hO : k0 = 0 → gL g2 219 0 = v.toInt64 := eO
  refine al_wrap (M' := mL_fetch) (hh := hL_fetch) (As := [.ref 0, .int (xs ((nI i) + (nI 1)).toNatClampNeg), .ref 219]) (st := []) (v := some (.int k0)) (h' := gH g1) (n := 3) (pc := 855) (index := 167) (Nat.le_of_ble_eq_true rfl) (Nat.le_of_ble_eq_true rfl) hc hs ⟨cwL_fetch, kw_e382c795c0, by decide +kernel⟩ kw_633b92c4cb kw_19f07f0af7 rfl rfl (Nat.le_of_ble_eq_true rfl) (by decide +kernel) (okL_fetch hl eX) ?_
  refine al_istore (pc := 858) (i := 5) (lv' := [(0, .ref (ab_SB + 5000)), (1, .ref 0), (2, .ref 206), (3, .ref 219), (4, .int (nI i)), (5, .int k0)]) (by decide +kernel) (by decide) rfl rfl ?_
  refine al_aload_n (pc := 860) (n := 2) (i := 2) (j := 2) (by decide +kernel) rfl rfl ?_
  refine al_aload_n (pc := 861) (n := 0) (i := 0) (j := 0) (by decide +kernel) rfl rfl ?_
  refine al_iload (pc := 862) (i := 4) (j := 4) (by decide +kernel) rfl ?_
  refine al_iconst (pc := 864) (n := 1) (v := nI 1) (by decide +kernel) rfl ?_
  refine al_iadd (pc := 865) (by decide +kernel) ?_
  refine al_sld (pc := 866) (sc_in hi hL (j := 1) (by decide)) (by decide +kernel) ?_
  refine al_ref (M' := mX12_fetch) (As := [.int (xs ((nI i) + (nI 1)).toNatClampNeg)]) (a := 206) (ci := 12) (st := []) (v := some (.int v)) (h' := gH g2) (pc := 867) (index := 169) rfl rfl hc hs (io_206 _) rfl iX12_fetch kw_f6386a65ad kw_bea78bc22c kw_efe67a7106 rfl rfl (Nat.le_of_ble_eq_true rfl) (by decide +kernel) (okX12_fetch hl eY) ?_
  refine al_istore (pc := 870) (i := 6) (lv' := [(0, .ref (ab_SB + 5000)), (1, .ref 0), (2, .ref 206), (3, .ref 219), (4, .int (nI i)), (5, .int k0), (6, .int v)]) (by decide +kernel) (by decide) rfl rfl ?_
  refine al_aload_n (pc := 872) (n := 2) (i := 2) (j := 2) (by decide +kernel) rfl rfl ?_
  refine al_ref (M' := mX12_thrown) (As := []) (a := 206) (ci := 12) (st := []) (v := some (.int (gF g2 206 0))) (h' := gH g2) (pc := 873) (index := 137) rfl rfl hc hs (io_206 g2) rfl iX12_thrown kw_3a20f3984e kw_5ecf1a43fc kw_b4788dccf4 rfl rfl (Nat.le_of_ble_eq_true rfl) (by decide +kernel) (okX12_thrown hl (f_thrown g2)) ?_
  refine al_iload (pc := 876) (i := 5) (j := 5) (by decide +kernel) rfl ?_
  refine al_icmp_eq (pc := 878) (off := 5) (tgt := 883) (by decide +kernel) (by decide) (fun _ => ?_) (fun gz => absurd eT gz)
  refine al_iload (pc := 883) (i := 5) (j := 5) (by decide +kernel) rfl ?_
  refine al_if_ne (pc := 885) (off := 15) (tgt := 900) (by decide +kernel) (by decide) (fun g0 => ?_) (fun g0 => ?_)
  · refine al_aload_n (pc := 888) (n := 3) (i := 3) (j := 3) (by decide +kernel) rfl rfl ?_
    refine al_iconst (pc := 889) (n := 0) (v := nI 0) (by decide +kernel) rfl ?_
    refine al_lald (pc := 890) (la_219 g2 (by decide)) (by decide +kernel) ?_
    refine al_iload (pc := 891) (i := 6) (j := 6) (by decide +kernel) rfl ?_
    refine al_i2l (pc := 893) (by decide +kernel) ?_
    refine al_lcmp (pc := 894) (by decide +kernel) ?_
    refine al_if_eq (pc := 895) (off := 5) (tgt := 900) (by decide +kernel) (by decide) (fun _ => ?_) (fun gz => absurd (by rw [hO g0]; exact lg_cmp_self _) gz)
    refine al_goto (pc := 900) (off := 1675) (tgt := 2575) (by decide +kernel) (by decide) ?_
    refine al_few [0, 1, 2, 3, 4] (lv' := [(0, .ref (ab_SB + 5000)), (1, .ref 0), (2, .ref 206), (3, .ref 219), (4, .int (nI i))]) rfl ?_
    exact k _ _ hN2 R2
  · refine al_goto (pc := 900) (off := 1675) (tgt := 2575) (by decide +kernel) (by decide) ?_
    refine al_few [0, 1, 2, 3, 4] (lv' := [(0, .ref (ab_SB + 5000)), (1, .ref 0), (2, .ref 206), (3, .ref 219), (4, .int (nI i))]) rfl ?_
    exact k _ _ hN2 R2
set_option maxRecDepth 100000 in
set_option maxHeartbeats 4000000 in
theorem lc_12 {l : Launch} (hl : l.stackTraces = false) {L : Nat} {xs : Nat → Int32} {N : Nat} {g : gG} (R : RE N g) (hN : N < 1000) {i : Nat} (hi : i + 6 ≤ L) (hL : L ≤ 3072) {kc ks : Nat} (hc : kc + 5 ≤ 601024) (hs : ks + 427 ≤ 7293034) (k : ∀ N' g', N' ≤ N + 1 → RE N' g' → al_S l mlaw L xs (kc + 5) (ks + 427) 2575 [(0, .ref (ab_SB + 5000)), (1, .ref 0), (2, .ref 206), (3, .ref 219), (4, .int (nI i))] [] (gH g')) : al_S l mlaw L xs kc ks 903 [(0, .ref (ab_SB + 5000)), (1, .ref 0), (2, .ref 206), (3, .ref 219), (4, .int (nI i))] [] (gH g) := by
  have hF : 11000 < Fu := by decide
  refine al_aload_n (pc := 903) (n := 1) (i := 1) (j := 1) (by decide +kernel) rfl rfl ?_
  refine al_aload_n (pc := 904) (n := 0) (i := 0) (j := 0) (by decide +kernel) rfl rfl ?_
  refine al_iload (pc := 905) (i := 4) (j := 4) (by decide +kernel) rfl ?_
  refine al_iconst (pc := 907) (n := 1) (v := nI 1) (by decide +kernel) rfl ?_
  refine al_iadd (pc := 908) (by decide +kernel) ?_
  refine al_sld (pc := 909) (sc_in hi hL (j := 1) (by decide)) (by decide +kernel) ?_
  refine al_aload_n (pc := 910) (n := 0) (i := 0) (j := 0) (by decide +kernel) rfl rfl ?_
  refine al_iload (pc := 911) (i := 4) (j := 4) (by decide +kernel) rfl ?_
  refine al_iconst (pc := 913) (n := 2) (v := nI 2) (by decide +kernel) rfl ?_
  refine al_iadd (pc := 914) (by decide +kernel) ?_
  refine al_sld (pc := 915) (sc_in hi hL (j := 2) (by decide)) (by decide +kernel) ?_
  refine al_aload_n (pc := 916) (n := 3) (i := 3) (j := 3) (by decide +kernel) rfl rfl ?_
  have hN2 : N ≤ N + 1 := Nat.le_succ _
  obtain ⟨k0, g1, v, g2, eX, eY, eT, eO, R2⟩ : Cw N (fun v : Int32 => v.toInt64) (fL_mix 0 ((xs ((nI i) + (nI 1)).toNatClampNeg)) ((xs ((nI i) + (nI 2)).toNatClampNeg)) 219 (gH g)) (fun h => fX12_mix Fu 206 ((xs ((nI i) + (nI 1)).toNatClampNeg)) ((xs ((nI i) + (nI 2)).toNatClampNeg)) h) := (by unfold fL_mix; rw [ab_ck_pos (io_0 g)]; exact Cw_a (w := (fun h v => ab_bd (ab_lw h 219 (nI 0) v.toInt64) fun h1 => some (nI 0, h1))) (fun φ h => pf_X12_mix φ Fu 206 ((xs ((nI i) + (nI 1)).toNatClampNeg)) ((xs ((nI i) + (nI 2)).toNatClampNeg)) h) w_out (by decide) (ca_mix R ((xs ((nI i) + (nI 1)).toNatClampNeg)) ((xs ((nI i) + (nI 2)).toNatClampNeg)) (F := Fu) hF))
  have hO : k0 = 0 → gL g2 219 0 = v.toInt64 := eO
  refine al_wrap (M' := mL_mix) (hh := hL_mix) (As := [.ref 0, .int (xs ((nI i) + (nI 1)).toNatClampNeg), .int (xs ((nI i) + (nI 2)).toNatClampNeg), .ref 219]) (st := []) (v := some (.int k0)) (h' := gH g1) (n := 4) (pc := 917) (index := 170) (Nat.le_of_ble_eq_true rfl) (Nat.le_of_ble_eq_true rfl) hc hs ⟨cwL_mix, kw_e382c795c0, by decide +kernel⟩ kw_06d65f06c5 kw_5ba51c57e7 rfl rfl (Nat.le_of_ble_eq_true rfl) (by decide +kernel) (okL_mix hl eX) ?_
  refine al_istore (pc := 920) (i := 5) (lv' := [(0, .ref (ab_SB + 5000)), (1, .ref 0), (2, .ref 206), (3, .ref 219), (4, .int (nI i)), (5, .int k0)]) (by decide +kernel) (by decide) rfl rfl ?_
  refine al_aload_n (pc := 922) (n := 2) (i := 2) (j := 2) (by decide +kernel) rfl rfl ?_
  refine al_aload_n (pc := 923) (n := 0) (i := 0) (j := 0) (by decide +kernel) rfl rfl ?_
  refine al_iload (pc := 924) (i := 4) (j := 4) (by decide +kernel) rfl ?_
  refine al_iconst (pc := 926) (n := 1) (v := nI 1) (by decide +kernel) rfl ?_
  refine al_iadd (pc := 927) (by decide +kernel) ?_
  refine al_sld (pc := 928) (sc_in hi hL (j := 1) (by decide)) (by decide +kernel) ?_
  refine al_aload_n (pc := 929) (n := 0) (i := 0) (j := 0) (by decide +kernel) rfl rfl ?_
  refine al_iload (pc := 930) (i := 4) (j := 4) (by decide +kernel) rfl ?_
  refine al_iconst (pc := 932) (n := 2) (v := nI 2) (by decide +kernel) rfl ?_
  refine al_iadd (pc := 933) (by decide +kernel) ?_
  refine al_sld (pc := 934) (sc_in hi hL (j := 2) (by decide)) (by decide +kernel) ?_
  refine al_ref (M' := mX12_mix) (As := [.int (xs ((nI i) + (nI 1)).toNatClampNeg), .int (xs ((nI i) + (nI 2)).toNatClampNeg)]) (a := 206) (ci := 12) (st := []) (v := some (.int v)) (h' := gH g2) (pc := 935) (index := 172) rfl rfl hc hs (io_206 _) rfl iX12_mix kw_d86e6ac29d kw_7e9c7a349e kw_82e5bbbc13 rfl rfl (Nat.le_of_ble_eq_true rfl) (by decide +kernel) (okX12_mix hl eY) ?_
  refine al_istore (pc := 938) (i := 6) (lv' := [(0, .ref (ab_SB + 5000)), (1, .ref 0), (2, .ref 206), (3, .ref 219), (4, .int (nI i)), (5, .int k0), (6, .int v)]) (by decide +kernel) (by decide) rfl rfl ?_
  refine al_aload_n (pc := 940) (n := 2) (i := 2) (j := 2) (by decide +kernel) rfl rfl ?_
  refine al_ref (M' := mX12_thrown) (As := []) (a := 206) (ci := 12) (st := []) (v := some (.int (gF g2 206 0))) (h' := gH g2) (pc := 941) (index := 137) rfl rfl hc hs (io_206 g2) rfl iX12_thrown kw_3a20f3984e kw_5ecf1a43fc kw_b4788dccf4 rfl rfl (Nat.le_of_ble_eq_true rfl) (by decide +kernel) (okX12_thrown hl (f_thrown g2)) ?_
  refine al_iload (pc := 944) (i := 5) (j := 5) (by decide +kernel) rfl ?_
  refine al_icmp_eq (pc := 946) (off := 5) (tgt := 951) (by decide +kernel) (by decide) (fun _ => ?_) (fun gz => absurd eT gz)
  refine al_iload (pc := 951) (i := 5) (j := 5) (by decide +kernel) rfl ?_
  refine al_if_ne (pc := 953) (off := 15) (tgt := 968) (by decide +kernel) (by decide) (fun g0 => ?_) (fun g0 => ?_)
  · refine al_aload_n (pc := 956) (n := 3) (i := 3) (j := 3) (by decide +kernel) rfl rfl ?_
    refine al_iconst (pc := 957) (n := 0) (v := nI 0) (by decide +kernel) rfl ?_
    refine al_lald (pc := 958) (la_219 g2 (by decide)) (by decide +kernel) ?_
    refine al_iload (pc := 959) (i := 6) (j := 6) (by decide +kernel) rfl ?_
    refine al_i2l (pc := 961) (by decide +kernel) ?_
    refine al_lcmp (pc := 962) (by decide +kernel) ?_
    refine al_if_eq (pc := 963) (off := 5) (tgt := 968) (by decide +kernel) (by decide) (fun _ => ?_) (fun gz => absurd (by rw [hO g0]; exact lg_cmp_self _) gz)
    refine al_goto (pc := 968) (off := 1607) (tgt := 2575) (by decide +kernel) (by decide) ?_
    refine al_few [0, 1, 2, 3, 4] (lv' := [(0, .ref (ab_SB + 5000)), (1, .ref 0), (2, .ref 206), (3, .ref 219), (4, .int (nI i))]) rfl ?_
    exact k _ _ hN2 R2
  · refine al_goto (pc := 968) (off := 1607) (tgt := 2575) (by decide +kernel) (by decide) ?_
    refine al_few [0, 1, 2, 3, 4] (lv' := [(0, .ref (ab_SB + 5000)), (1, .ref 0), (2, .ref 206), (3, .ref 219), (4, .int (nI i))]) rfl ?_
    exact k _ _ hN2 R2
