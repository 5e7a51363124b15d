/-! ===== the law's cases, 2 (by program, gen_lawc.py) ===== -/
set_option maxRecDepth 100000 in
set_option maxHeartbeats 4000000 in
theorem lc_26 {l : Launch} (hl : l.stackTraces = false) {L : Nat} {xs : Nat → Int32} {N : Nat} {g : gG} (R : RE N g) (hN : N < 1000) {i : Nat} (hi : i + 6 ≤ L) (hL : L ≤ 3072) {kc ks : Nat} (hc : kc + 5 ≤ 601024) (hs : ks + 427 ≤ 7293034) (k : ∀ N' g', N' ≤ N + 1 → RE N' g' → al_S l mlaw L xs (kc + 5) (ks + 427) 2575 [(0, .ref (ab_SB + 5000)), (1, .ref 0), (2, .ref 206), (3, .ref 219), (4, .int (nI i))] [] (gH g')) : al_S l mlaw L xs kc ks 1470 [(0, .ref (ab_SB + 5000)), (1, .ref 0), (2, .ref 206), (3, .ref 219), (4, .int (nI i))] [] (gH g) := by
  have hF : 11000 < Fu := by decide
  refine al_aload_n (pc := 1470) (n := 1) (i := 1) (j := 1) (by decide +kernel) rfl rfl ?_
  refine al_aload_n (pc := 1471) (n := 0) (i := 0) (j := 0) (by decide +kernel) rfl rfl ?_
  refine al_iload (pc := 1472) (i := 4) (j := 4) (by decide +kernel) rfl ?_
  refine al_iconst (pc := 1474) (n := 1) (v := nI 1) (by decide +kernel) rfl ?_
  refine al_iadd (pc := 1475) (by decide +kernel) ?_
  refine al_sld (pc := 1476) (sc_in hi hL (j := 1) (by decide)) (by decide +kernel) ?_
  refine al_aload_n (pc := 1477) (n := 0) (i := 0) (j := 0) (by decide +kernel) rfl rfl ?_
  refine al_iload (pc := 1478) (i := 4) (j := 4) (by decide +kernel) rfl ?_
  refine al_iconst (pc := 1480) (n := 2) (v := nI 2) (by decide +kernel) rfl ?_
  refine al_iadd (pc := 1481) (by decide +kernel) ?_
  refine al_sld (pc := 1482) (sc_in hi hL (j := 2) (by decide)) (by decide +kernel) ?_
  refine al_aload_n (pc := 1483) (n := 3) (i := 3) (j := 3) (by decide +kernel) rfl rfl ?_
  have hN2 : N ≤ N + 1 := Nat.le_succ _
  obtain ⟨k0, g1, v, g2, eX, eY, eT, eO, R2⟩ : Cw N (fun v : Int32 => v.toInt64) (fL_passes Fu 0 ((xs ((nI i) + (nI 1)).toNatClampNeg)) ((xs ((nI i) + (nI 2)).toNatClampNeg)) 219 (gH g)) (fun h => fX12_passes Fu 206 ((xs ((nI i) + (nI 1)).toNatClampNeg)) ((xs ((nI i) + (nI 2)).toNatClampNeg)) h) := (by unfold fL_passes; rw [ab_ck_pos (io_0 g)]; exact Cw_q (w := (fun h v => ab_bd (ab_lw h 219 (nI 0) v.toInt64) fun h1 => some (nI 0, h1))) (fun φ h => pf_X12_passes φ Fu 206 ((xs ((nI i) + (nI 1)).toNatClampNeg)) ((xs ((nI i) + (nI 2)).toNatClampNeg)) h) w_out (by decide) (cq_passes R ((xs ((nI i) + (nI 1)).toNatClampNeg)) ((xs ((nI i) + (nI 2)).toNatClampNeg)) (F := Fu) hF))
  have hO : k0 = 0 → gL g2 219 0 = v.toInt64 := eO
  refine al_wrap (M' := mL_passes) (hh := hL_passes) (As := [.ref 0, .int (xs ((nI i) + (nI 1)).toNatClampNeg), .int (xs ((nI i) + (nI 2)).toNatClampNeg), .ref 219]) (st := []) (v := some (.int k0)) (h' := gH g1) (n := 4) (pc := 1484) (index := 220) (Nat.le_of_ble_eq_true rfl) (Nat.le_of_ble_eq_true rfl) hc hs ⟨cwL_passes, kw_e382c795c0, by decide +kernel⟩ kw_0c57827517 kw_381b567ac3 rfl rfl (Nat.le_of_ble_eq_true rfl) (by decide +kernel) (okL_passes hl eX) ?_
  refine al_istore (pc := 1487) (i := 5) (lv' := [(0, .ref (ab_SB + 5000)), (1, .ref 0), (2, .ref 206), (3, .ref 219), (4, .int (nI i)), (5, .int k0)]) (by decide +kernel) (by decide) rfl rfl ?_
  refine al_aload_n (pc := 1489) (n := 2) (i := 2) (j := 2) (by decide +kernel) rfl rfl ?_
  refine al_aload_n (pc := 1490) (n := 0) (i := 0) (j := 0) (by decide +kernel) rfl rfl ?_
  refine al_iload (pc := 1491) (i := 4) (j := 4) (by decide +kernel) rfl ?_
  refine al_iconst (pc := 1493) (n := 1) (v := nI 1) (by decide +kernel) rfl ?_
  refine al_iadd (pc := 1494) (by decide +kernel) ?_
  refine al_sld (pc := 1495) (sc_in hi hL (j := 1) (by decide)) (by decide +kernel) ?_
  refine al_aload_n (pc := 1496) (n := 0) (i := 0) (j := 0) (by decide +kernel) rfl rfl ?_
  refine al_iload (pc := 1497) (i := 4) (j := 4) (by decide +kernel) rfl ?_
  refine al_iconst (pc := 1499) (n := 2) (v := nI 2) (by decide +kernel) rfl ?_
  refine al_iadd (pc := 1500) (by decide +kernel) ?_
  refine al_sld (pc := 1501) (sc_in hi hL (j := 2) (by decide)) (by decide +kernel) ?_
  refine al_ref (M' := mX12_passes) (As := [.int (xs ((nI i) + (nI 1)).toNatClampNeg), .int (xs ((nI i) + (nI 2)).toNatClampNeg)]) (a := 206) (ci := 12) (st := []) (v := some (.int v)) (h' := gH g2) (pc := 1502) (index := 222) rfl rfl hc hs (io_206 _) rfl iX12_passes kw_22979888be kw_0eccef1f65 kw_f7b57236e8 rfl rfl (Nat.le_of_ble_eq_true rfl) (by decide +kernel) (okX12_passes hl eY) ?_
  refine al_istore (pc := 1505) (i := 6) (lv' := [(0, .ref (ab_SB + 5000)), (1, .ref 0), (2, .ref 206), (3, .ref 219), (4, .int (nI i)), (5, .int k0), (6, .int v)]) (by decide +kernel) (by decide) rfl rfl ?_
  refine al_aload_n (pc := 1507) (n := 2) (i := 2) (j := 2) (by decide +kernel) rfl rfl ?_
  refine al_ref (M' := mX12_thrown) (As := []) (a := 206) (ci := 12) (st := []) (v := some (.int (gF g2 206 0))) (h' := gH g2) (pc := 1508) (index := 137) rfl rfl hc hs (io_206 g2) rfl iX12_thrown kw_3a20f3984e kw_5ecf1a43fc kw_b4788dccf4 rfl rfl (Nat.le_of_ble_eq_true rfl) (by decide +kernel) (okX12_thrown hl (f_thrown g2)) ?_
  refine al_iload (pc := 1511) (i := 5) (j := 5) (by decide +kernel) rfl ?_
  refine al_icmp_eq (pc := 1513) (off := 5) (tgt := 1518) (by decide +kernel) (by decide) (fun _ => ?_) (fun gz => absurd eT gz)
  refine al_iload (pc := 1518) (i := 5) (j := 5) (by decide +kernel) rfl ?_
  refine al_if_ne (pc := 1520) (off := 15) (tgt := 1535) (by decide +kernel) (by decide) (fun g0 => ?_) (fun g0 => ?_)
  · refine al_aload_n (pc := 1523) (n := 3) (i := 3) (j := 3) (by decide +kernel) rfl rfl ?_
    refine al_iconst (pc := 1524) (n := 0) (v := nI 0) (by decide +kernel) rfl ?_
    refine al_lald (pc := 1525) (la_219 g2 (by decide)) (by decide +kernel) ?_
    refine al_iload (pc := 1526) (i := 6) (j := 6) (by decide +kernel) rfl ?_
    refine al_i2l (pc := 1528) (by decide +kernel) ?_
    refine al_lcmp (pc := 1529) (by decide +kernel) ?_
    refine al_if_eq (pc := 1530) (off := 5) (tgt := 1535) (by decide +kernel) (by decide) (fun _ => ?_) (fun gz => absurd (by rw [hO g0]; exact lg_cmp_self _) gz)
    refine al_goto (pc := 1535) (off := 1040) (tgt := 2575) (by decide +kernel) (by decide) ?_
    refine al_few [0, 1, 2, 3, 4] (lv' := [(0, .ref (ab_SB + 5000)), (1, .ref 0), (2, .ref 206), (3, .ref 219), (4, .int (nI i))]) rfl ?_
    exact k _ _ hN2 R2
  · refine al_goto (pc := 1535) (off := 1040) (tgt := 2575) (by decide +kernel) (by decide) ?_
    refine al_few [0, 1, 2, 3, 4] (lv' := [(0, .ref (ab_SB + 5000)), (1, .ref 0), (2, .ref 206), (3, .ref 219), (4, .int (nI i))]) rfl ?_
    exact k _ _ hN2 R2
set_option maxRecDepth 100000 in
set_option maxHeartbeats 4000000 in
theorem lc_27 {l : Launch} (hl : l.stackTraces = false) {L : Nat} {xs : Nat → Int32} {N : Nat} {g : gG} (R : RE N g) (hN : N < 1000) {i : Nat} (hi : i + 6 ≤ L) (hL : L ≤ 3072) {kc ks : Nat} (hc : kc + 5 ≤ 601024) (hs : ks + 427 ≤ 7293034) (k : ∀ N' g', N' ≤ N + 1 → RE N' g' → al_S l mlaw L xs (kc + 5) (ks + 427) 2575 [(0, .ref (ab_SB + 5000)), (1, .ref 0), (2, .ref 206), (3, .ref 219), (4, .int (nI i))] [] (gH g')) : al_S l mlaw L xs kc ks 1538 [(0, .ref (ab_SB + 5000)), (1, .ref 0), (2, .ref 206), (3, .ref 219), (4, .int (nI i))] [] (gH g) := by
  have hF : 11000 < Fu := by decide
  refine al_aload_n (pc := 1538) (n := 1) (i := 1) (j := 1) (by decide +kernel) rfl rfl ?_
  refine al_aload_n (pc := 1539) (n := 0) (i := 0) (j := 0) (by decide +kernel) rfl rfl ?_
  refine al_iload (pc := 1540) (i := 4) (j := 4) (by decide +kernel) rfl ?_
  refine al_iconst (pc := 1542) (n := 1) (v := nI 1) (by decide +kernel) rfl ?_
  refine al_iadd (pc := 1543) (by decide +kernel) ?_
  refine al_sld (pc := 1544) (sc_in hi hL (j := 1) (by decide)) (by decide +kernel) ?_
  refine al_aload_n (pc := 1545) (n := 3) (i := 3) (j := 3) (by decide +kernel) rfl rfl ?_
  have hN2 : N ≤ N + 1 := Nat.le_succ _
  obtain ⟨k0, g1, v, g2, eX, eY, eT, eO, R2⟩ : Cw N (fun v : Int32 => v.toInt64) (fL_core Fu 0 ((xs ((nI i) + (nI 1)).toNatClampNeg)) 219 (gH g)) (fun h => fX12_core Fu 206 ((xs ((nI i) + (nI 1)).toNatClampNeg)) h) := (by unfold fL_core; rw [ab_ck_pos (io_0 g)]; exact Cw_a (w := (fun h v => ab_bd (ab_lw h 219 (nI 0) v.toInt64) fun h1 => some (nI 0, h1))) (fun φ h => pf_X12_core φ Fu 206 ((xs ((nI i) + (nI 1)).toNatClampNeg)) h) w_out (by decide) (ca_core R ((xs ((nI i) + (nI 1)).toNatClampNeg)) (F := Fu) hF))
  have hO : k0 = 0 → gL g2 219 0 = v.toInt64 := eO
  refine al_wrap (M' := mL_core) (hh := hL_core) (As := [.ref 0, .int (xs ((nI i) + (nI 1)).toNatClampNeg), .ref 219]) (st := []) (v := some (.int k0)) (h' := gH g1) (n := 3) (pc := 1546) (index := 223) (Nat.le_of_ble_eq_true rfl) (Nat.le_of_ble_eq_true rfl) hc hs ⟨cwL_core, kw_e382c795c0, by decide +kernel⟩ kw_324c9f5fd0 kw_97d894dd80 rfl rfl (Nat.le_of_ble_eq_true rfl) (by decide +kernel) (okL_core hl eX) ?_
  refine al_istore (pc := 1549) (i := 5) (lv' := [(0, .ref (ab_SB + 5000)), (1, .ref 0), (2, .ref 206), (3, .ref 219), (4, .int (nI i)), (5, .int k0)]) (by decide +kernel) (by decide) rfl rfl ?_
  refine al_aload_n (pc := 1551) (n := 2) (i := 2) (j := 2) (by decide +kernel) rfl rfl ?_
  refine al_aload_n (pc := 1552) (n := 0) (i := 0) (j := 0) (by decide +kernel) rfl rfl ?_
  refine al_iload (pc := 1553) (i := 4) (j := 4) (by decide +kernel) rfl ?_
  refine al_iconst (pc := 1555) (n := 1) (v := nI 1) (by decide +kernel) rfl ?_
  refine al_iadd (pc := 1556) (by decide +kernel) ?_
  refine al_sld (pc := 1557) (sc_in hi hL (j := 1) (by decide)) (by decide +kernel) ?_
  refine al_ref (M' := mX12_core) (As := [.int (xs ((nI i) + (nI 1)).toNatClampNeg)]) (a := 206) (ci := 12) (st := []) (v := some (.int v)) (h' := gH g2) (pc := 1558) (index := 225) rfl rfl hc hs (io_206 _) rfl iX12_core kw_b713535df6 kw_431f0dd68b kw_df04291dd0 rfl rfl (Nat.le_of_ble_eq_true rfl) (by decide +kernel) (okX12_core hl eY) ?_
  refine al_istore (pc := 1561) (i := 6) (lv' := [(0, .ref (ab_SB + 5000)), (1, .ref 0), (2, .ref 206), (3, .ref 219), (4, .int (nI i)), (5, .int k0), (6, .int v)]) (by decide +kernel) (by decide) rfl rfl ?_
  refine al_aload_n (pc := 1563) (n := 2) (i := 2) (j := 2) (by decide +kernel) rfl rfl ?_
  refine al_ref (M' := mX12_thrown) (As := []) (a := 206) (ci := 12) (st := []) (v := some (.int (gF g2 206 0))) (h' := gH g2) (pc := 1564) (index := 137) rfl rfl hc hs (io_206 g2) rfl iX12_thrown kw_3a20f3984e kw_5ecf1a43fc kw_b4788dccf4 rfl rfl (Nat.le_of_ble_eq_true rfl) (by decide +kernel) (okX12_thrown hl (f_thrown g2)) ?_
  refine al_iload (pc := 1567) (i := 5) (j := 5) (by decide +kernel) rfl ?_
  refine al_icmp_eq (pc := 1569) (off := 5) (tgt := 1574) (by decide +kernel) (by decide) (fun _ => ?_) (fun gz => absurd eT gz)
  refine al_iload (pc := 1574) (i := 5) (j := 5) (by decide +kernel) rfl ?_
  refine al_if_ne (pc := 1576) (off := 15) (tgt := 1591) (by decide +kernel) (by decide) (fun g0 => ?_) (fun g0 => ?_)
  · refine al_aload_n (pc := 1579) (n := 3) (i := 3) (j := 3) (by decide +kernel) rfl rfl ?_
    refine al_iconst (pc := 1580) (n := 0) (v := nI 0) (by decide +kernel) rfl ?_
    refine al_lald (pc := 1581) (la_219 g2 (by decide)) (by decide +kernel) ?_
    refine al_iload (pc := 1582) (i := 6) (j := 6) (by decide +kernel) rfl ?_
    refine al_i2l (pc := 1584) (by decide +kernel) ?_
    refine al_lcmp (pc := 1585) (by decide +kernel) ?_
    refine al_if_eq (pc := 1586) (off := 5) (tgt := 1591) (by decide +kernel) (by decide) (fun _ => ?_) (fun gz => absurd (by rw [hO g0]; exact lg_cmp_self _) gz)
    refine al_goto (pc := 1591) (off := 984) (tgt := 2575) (by decide +kernel) (by decide) ?_
    refine al_few [0, 1, 2, 3, 4] (lv' := [(0, .ref (ab_SB + 5000)), (1, .ref 0), (2, .ref 206), (3, .ref 219), (4, .int (nI i))]) rfl ?_
    exact k _ _ hN2 R2
  · refine al_goto (pc := 1591) (off := 984) (tgt := 2575) (by decide +kernel) (by decide) ?_
    refine al_few [0, 1, 2, 3, 4] (lv' := [(0, .ref (ab_SB + 5000)), (1, .ref 0), (2, .ref 206), (3, .ref 219), (4, .int (nI i))]) rfl ?_
    exact k _ _ hN2 R2
set_option maxRecDepth 100000 in
set_option maxHeartbeats 4000000 in
theorem lc_28 {l : Launch} (hl : l.stackTraces = false) {L : Nat} {xs : Nat → Int32} {N : Nat} {g : gG} (R : RE N g) (hN : N < 1000) {i : Nat} (hi : i + 6 ≤ L) (hL : L ≤ 3072) {kc ks : Nat} (hc : kc + 5 ≤ 601024) (hs : ks + 427 ≤ 7293034) (k : ∀ N' g', N' ≤ N + 1 → RE N' g' → al_S l mlaw L xs (kc + 5) (ks + 427) 2575 [(0, .ref (ab_SB + 5000)), (1, .ref 0), (2, .ref 206), (3, .ref 219), (4, .int (nI i))] [] (gH g')) : al_S l mlaw L xs kc ks 1594 [(0, .ref (ab_SB + 5000)), (1, .ref 0), (2, .ref 206), (3, .ref 219), (4, .int (nI i))] [] (gH g) := by
  have hF : 11000 < Fu := by decide
  refine al_aload_n (pc := 1594) (n := 1) (i := 1) (j := 1) (by decide +kernel) rfl rfl ?_
  have hN2 : N ≤ N + 1 := Nat.le_succ _
  obtain ⟨v, g1, g2, eX, eY, R2⟩ := cb_gains R (F := Fu) hF
  refine al_cls (M' := mX11_gains) (As := []) (a := 0) (ci := 11) (st := []) (v := some (.int v)) (h' := gH g1) (pc := 1595) (index := 226) (Nat.le_of_ble_eq_true rfl) (Nat.le_of_ble_eq_true rfl) hc hs (io_0 g) rfl iX11_gains kw_9ff8f9b665 kw_22545fb10b kw_9c9a17e0c5 rfl rfl (Nat.le_of_ble_eq_true rfl) (by decide +kernel) (okX11_gains hl eX) ?_
  refine al_aload_n (pc := 1598) (n := 2) (i := 2) (j := 2) (by decide +kernel) rfl rfl ?_
  refine al_ref (M' := mX12_gains) (As := []) (a := 206) (ci := 12) (st := [.int v]) (v := some (.int v)) (h' := gH g2) (pc := 1599) (index := 229) rfl rfl hc hs (io_206 _) rfl iX12_gains kw_22388a2872 kw_61cc91f6ca kw_25fa3f436e rfl rfl (Nat.le_of_ble_eq_true rfl) (by decide +kernel) (okX12_gains hl eY) ?_
  refine al_icmp_eq (pc := 1602) (off := 973) (tgt := 2575) (by decide +kernel) (by decide) (fun _ => ?_) (fun gz => absurd rfl gz)
  exact k _ _ hN2 R2
set_option maxRecDepth 100000 in
set_option maxHeartbeats 4000000 in
theorem lc_29 {l : Launch} (hl : l.stackTraces = false) {L : Nat} {xs : Nat → Int32} {N : Nat} {g : gG} (R : RE N g) (hN : N < 1000) {i : Nat} (hi : i + 6 ≤ L) (hL : L ≤ 3072) {kc ks : Nat} (hc : kc + 5 ≤ 601024) (hs : ks + 427 ≤ 7293034) (k : ∀ N' g', N' ≤ N + 1 → RE N' g' → al_S l mlaw L xs (kc + 5) (ks + 427) 2575 [(0, .ref (ab_SB + 5000)), (1, .ref 0), (2, .ref 206), (3, .ref 219), (4, .int (nI i))] [] (gH g')) : al_S l mlaw L xs kc ks 1607 [(0, .ref (ab_SB + 5000)), (1, .ref 0), (2, .ref 206), (3, .ref 219), (4, .int (nI i))] [] (gH g) := by
  have hF : 11000 < Fu := by decide
  refine al_aload_n (pc := 1607) (n := 1) (i := 1) (j := 1) (by decide +kernel) rfl rfl ?_
  refine al_aload_n (pc := 1608) (n := 0) (i := 0) (j := 0) (by decide +kernel) rfl rfl ?_
  refine al_iload (pc := 1609) (i := 4) (j := 4) (by decide +kernel) rfl ?_
  refine al_iconst (pc := 1611) (n := 1) (v := nI 1) (by decide +kernel) rfl ?_
  refine al_iadd (pc := 1612) (by decide +kernel) ?_
  refine al_sld (pc := 1613) (sc_in hi hL (j := 1) (by decide)) (by decide +kernel) ?_
  refine al_aload_n (pc := 1614) (n := 3) (i := 3) (j := 3) (by decide +kernel) rfl rfl ?_
  have hN2 : N ≤ N + 1 := Nat.le_succ _
  obtain ⟨k0, g1, v, g2, eX, eY, eT, eO, R2⟩ : Cw N oB (fL_block Fu 0 ((xs ((nI i) + (nI 1)).toNatClampNeg)) 219 (gH g)) (fun h => fX12_block Fu 206 ((xs ((nI i) + (nI 1)).toNatClampNeg)) h) := (by unfold fL_block; rw [ab_ck_pos (io_0 g)]; exact Cw_q (w := (fun h v => if v = 0 then ab_bd (ab_lw h 219 (nI 0) 0) fun h1 => some (nI 0, h1) else ab_bd (ab_lw h 219 (nI 0) 1) fun h1 => some (nI 0, h1))) (fun φ h => pf_X12_block φ Fu 206 ((xs ((nI i) + (nI 1)).toNatClampNeg)) h) w_outB (by decide) (cq_block R ((xs ((nI i) + (nI 1)).toNatClampNeg)) (F := Fu) hF))
  have hO : k0 = 0 → gL g2 219 0 = oB v := eO
  refine al_wrap (M' := mL_block) (hh := hL_block) (As := [.ref 0, .int (xs ((nI i) + (nI 1)).toNatClampNeg), .ref 219]) (st := []) (v := some (.int k0)) (h' := gH g1) (n := 3) (pc := 1615) (index := 230) (Nat.le_of_ble_eq_true rfl) (Nat.le_of_ble_eq_true rfl) hc hs ⟨cwL_block, kw_e382c795c0, by decide +kernel⟩ kw_54b48a57ea kw_4efbd00e9e rfl rfl (Nat.le_of_ble_eq_true rfl) (by decide +kernel) (okL_block hl eX) ?_
  refine al_istore (pc := 1618) (i := 5) (lv' := [(0, .ref (ab_SB + 5000)), (1, .ref 0), (2, .ref 206), (3, .ref 219), (4, .int (nI i)), (5, .int k0)]) (by decide +kernel) (by decide) rfl rfl ?_
  refine al_aload_n (pc := 1620) (n := 2) (i := 2) (j := 2) (by decide +kernel) rfl rfl ?_
  refine al_aload_n (pc := 1621) (n := 0) (i := 0) (j := 0) (by decide +kernel) rfl rfl ?_
  refine al_iload (pc := 1622) (i := 4) (j := 4) (by decide +kernel) rfl ?_
  refine al_iconst (pc := 1624) (n := 1) (v := nI 1) (by decide +kernel) rfl ?_
  refine al_iadd (pc := 1625) (by decide +kernel) ?_
  refine al_sld (pc := 1626) (sc_in hi hL (j := 1) (by decide)) (by decide +kernel) ?_
  refine al_ref (M' := mX12_block) (As := [.int (xs ((nI i) + (nI 1)).toNatClampNeg)]) (a := 206) (ci := 12) (st := []) (v := some (.int v)) (h' := gH g2) (pc := 1627) (index := 232) rfl rfl hc hs (io_206 _) rfl iX12_block kw_c30ad135e9 kw_4ca2ed2ed5 kw_2f548397f4 rfl rfl (Nat.le_of_ble_eq_true rfl) (by decide +kernel) (okX12_block hl eY) ?_
  refine al_istore (pc := 1630) (i := 6) (lv' := [(0, .ref (ab_SB + 5000)), (1, .ref 0), (2, .ref 206), (3, .ref 219), (4, .int (nI i)), (5, .int k0), (6, .int v)]) (by decide +kernel) (by decide) rfl rfl ?_
  refine al_aload_n (pc := 1632) (n := 2) (i := 2) (j := 2) (by decide +kernel) rfl rfl ?_
  refine al_ref (M' := mX12_thrown) (As := []) (a := 206) (ci := 12) (st := []) (v := some (.int (gF g2 206 0))) (h' := gH g2) (pc := 1633) (index := 137) rfl rfl hc hs (io_206 g2) rfl iX12_thrown kw_3a20f3984e kw_5ecf1a43fc kw_b4788dccf4 rfl rfl (Nat.le_of_ble_eq_true rfl) (by decide +kernel) (okX12_thrown hl (f_thrown g2)) ?_
  refine al_iload (pc := 1636) (i := 5) (j := 5) (by decide +kernel) rfl ?_
  refine al_icmp_eq (pc := 1638) (off := 5) (tgt := 1643) (by decide +kernel) (by decide) (fun _ => ?_) (fun gz => absurd eT gz)
  refine al_iload (pc := 1643) (i := 5) (j := 5) (by decide +kernel) rfl ?_
  refine al_if_ne (pc := 1645) (off := 22) (tgt := 1667) (by decide +kernel) (by decide) (fun g0 => ?_) (fun g0 => ?_)
  · refine al_aload_n (pc := 1648) (n := 3) (i := 3) (j := 3) (by decide +kernel) rfl rfl ?_
    refine al_iconst (pc := 1649) (n := 0) (v := nI 0) (by decide +kernel) rfl ?_
    refine al_lald (pc := 1650) (la_219 g2 (by decide)) (by decide +kernel) ?_
    refine al_iload (pc := 1651) (i := 6) (j := 6) (by decide +kernel) rfl ?_
    refine al_if_eq (pc := 1653) (off := 7) (tgt := 1660) (by decide +kernel) (by decide) (fun g1 => ?_) (fun g1 => ?_)
    · refine al_lconst (pc := 1660) (n := 0) (v := 0) (by decide +kernel) rfl ?_
      refine al_lcmp (pc := 1661) (by decide +kernel) ?_
      refine al_if_eq (pc := 1662) (off := 5) (tgt := 1667) (by decide +kernel) (by decide) (fun _ => ?_) (fun gz => absurd (by rw [hO g0, oB, if_pos g1]; exact lg_cmp_self _) gz)
      refine al_goto (pc := 1667) (off := 908) (tgt := 2575) (by decide +kernel) (by decide) ?_
      refine al_few [0, 1, 2, 3, 4] (lv' := [(0, .ref (ab_SB + 5000)), (1, .ref 0), (2, .ref 206), (3, .ref 219), (4, .int (nI i))]) rfl ?_
      exact k _ _ hN2 R2
    · refine al_lconst (pc := 1656) (n := 1) (v := 1) (by decide +kernel) rfl ?_
      refine al_goto (pc := 1657) (off := 4) (tgt := 1661) (by decide +kernel) (by decide) ?_
      refine al_lcmp (pc := 1661) (by decide +kernel) ?_
      refine al_if_eq (pc := 1662) (off := 5) (tgt := 1667) (by decide +kernel) (by decide) (fun _ => ?_) (fun gz => absurd (by rw [hO g0, oB, if_neg g1]; exact lg_cmp_self _) gz)
      refine al_goto (pc := 1667) (off := 908) (tgt := 2575) (by decide +kernel) (by decide) ?_
      refine al_few [0, 1, 2, 3, 4] (lv' := [(0, .ref (ab_SB + 5000)), (1, .ref 0), (2, .ref 206), (3, .ref 219), (4, .int (nI i))]) rfl ?_
      exact k _ _ hN2 R2
  · refine al_goto (pc := 1667) (off := 908) (tgt := 2575) (by decide +kernel) (by decide) ?_
    refine al_few [0, 1, 2, 3, 4] (lv' := [(0, .ref (ab_SB + 5000)), (1, .ref 0), (2, .ref 206), (3, .ref 219), (4, .int (nI i))]) rfl ?_
    exact k _ _ hN2 R2
set_option maxRecDepth 100000 in
set_option maxHeartbeats 4000000 in
theorem lc_30 {l : Launch} (hl : l.stackTraces = false) {L : Nat} {xs : Nat → Int32} {N : Nat} {g : gG} (R : RE N g) (hN : N < 1000) {i : Nat} (hi : i + 6 ≤ L) (hL : L ≤ 3072) {kc ks : Nat} (hc : kc + 5 ≤ 601024) (hs : ks + 427 ≤ 7293034) (k : ∀ N' g', N' ≤ N + 1 → RE N' g' → al_S l mlaw L xs (kc + 5) (ks + 427) 2575 [(0, .ref (ab_SB + 5000)), (1, .ref 0), (2, .ref 206), (3, .ref 219), (4, .int (nI i))] [] (gH g')) : al_S l mlaw L xs kc ks 1670 [(0, .ref (ab_SB + 5000)), (1, .ref 0), (2, .ref 206), (3, .ref 219), (4, .int (nI i))] [] (gH g) := by
  have hF : 11000 < Fu := by decide
  refine al_aload_n (pc := 1670) (n := 1) (i := 1) (j := 1) (by decide +kernel) rfl rfl ?_
  refine al_aload_n (pc := 1671) (n := 0) (i := 0) (j := 0) (by decide +kernel) rfl rfl ?_
  refine al_iload (pc := 1672) (i := 4) (j := 4) (by decide +kernel) rfl ?_
  refine al_iconst (pc := 1674) (n := 1) (v := nI 1) (by decide +kernel) rfl ?_
  refine al_iadd (pc := 1675) (by decide +kernel) ?_
  refine al_sld (pc := 1676) (sc_in hi hL (j := 1) (by decide)) (by decide +kernel) ?_
  refine al_aload_n (pc := 1677) (n := 3) (i := 3) (j := 3) (by decide +kernel) rfl rfl ?_
  have hN2 : N ≤ N + 1 := Nat.le_succ _
  obtain ⟨k0, g1, v, g2, eX, eY, eT, eO, R2⟩ : Cw N (fun v : Int32 => v.toInt64) (fL_fits Fu 0 ((xs ((nI i) + (nI 1)).toNatClampNeg)) 219 (gH g)) (fun h => fX12_fits Fu 206 ((xs ((nI i) + (nI 1)).toNatClampNeg)) h) := (by unfold fL_fits; rw [ab_ck_pos (io_0 g)]; exact Cw_a (w := (fun h v => ab_bd (ab_lw h 219 (nI 0) v.toInt64) fun h1 => some (nI 0, h1))) (fun φ h => pf_X12_fits φ Fu 206 ((xs ((nI i) + (nI 1)).toNatClampNeg)) h) w_out (by decide) (ca_fits R ((xs ((nI i) + (nI 1)).toNatClampNeg)) (F := Fu) hF))
  have hO : k0 = 0 → gL g2 219 0 = v.toInt64 := eO
  refine al_wrap (M' := mL_fits) (hh := hL_fits) (As := [.ref 0, .int (xs ((nI i) + (nI 1)).toNatClampNeg), .ref 219]) (st := []) (v := some (.int k0)) (h' := gH g1) (n := 3) (pc := 1678) (index := 233) (Nat.le_of_ble_eq_true rfl) (Nat.le_of_ble_eq_true rfl) hc hs ⟨cwL_fits, kw_e382c795c0, by decide +kernel⟩ kw_88cd8c89de kw_71c4e9d16c rfl rfl (Nat.le_of_ble_eq_true rfl) (by decide +kernel) (okL_fits hl eX) ?_
  refine al_istore (pc := 1681) (i := 5) (lv' := [(0, .ref (ab_SB + 5000)), (1, .ref 0), (2, .ref 206), (3, .ref 219), (4, .int (nI i)), (5, .int k0)]) (by decide +kernel) (by decide) rfl rfl ?_
  refine al_aload_n (pc := 1683) (n := 2) (i := 2) (j := 2) (by decide +kernel) rfl rfl ?_
  refine al_aload_n (pc := 1684) (n := 0) (i := 0) (j := 0) (by decide +kernel) rfl rfl ?_
  refine al_iload (pc := 1685) (i := 4) (j := 4) (by decide +kernel) rfl ?_
  refine al_iconst (pc := 1687) (n := 1) (v := nI 1) (by decide +kernel) rfl ?_
  refine al_iadd (pc := 1688) (by decide +kernel) ?_
  refine al_sld (pc := 1689) (sc_in hi hL (j := 1) (by decide)) (by decide +kernel) ?_
  refine al_ref (M' := mX12_fits) (As := [.int (xs ((nI i) + (nI 1)).toNatClampNeg)]) (a := 206) (ci := 12) (st := []) (v := some (.int v)) (h' := gH g2) (pc := 1690) (index := 235) rfl rfl hc hs (io_206 _) rfl iX12_fits kw_53ab0ee6c9 kw_b2c66d18f8 kw_6ec881a4fa rfl rfl (Nat.le_of_ble_eq_true rfl) (by decide +kernel) (okX12_fits hl eY) ?_
  refine al_istore (pc := 1693) (i := 6) (lv' := [(0, .ref (ab_SB + 5000)), (1, .ref 0), (2, .ref 206), (3, .ref 219), (4, .int (nI i)), (5, .int k0), (6, .int v)]) (by decide +kernel) (by decide) rfl rfl ?_
  refine al_aload_n (pc := 1695) (n := 2) (i := 2) (j := 2) (by decide +kernel) rfl rfl ?_
  refine al_ref (M' := mX12_thrown) (As := []) (a := 206) (ci := 12) (st := []) (v := some (.int (gF g2 206 0))) (h' := gH g2) (pc := 1696) (index := 137) rfl rfl hc hs (io_206 g2) rfl iX12_thrown kw_3a20f3984e kw_5ecf1a43fc kw_b4788dccf4 rfl rfl (Nat.le_of_ble_eq_true rfl) (by decide +kernel) (okX12_thrown hl (f_thrown g2)) ?_
  refine al_iload (pc := 1699) (i := 5) (j := 5) (by decide +kernel) rfl ?_
  refine al_icmp_eq (pc := 1701) (off := 5) (tgt := 1706) (by decide +kernel) (by decide) (fun _ => ?_) (fun gz => absurd eT gz)
  refine al_iload (pc := 1706) (i := 5) (j := 5) (by decide +kernel) rfl ?_
  refine al_if_ne (pc := 1708) (off := 15) (tgt := 1723) (by decide +kernel) (by decide) (fun g0 => ?_) (fun g0 => ?_)
  · refine al_aload_n (pc := 1711) (n := 3) (i := 3) (j := 3) (by decide +kernel) rfl rfl ?_
    refine al_iconst (pc := 1712) (n := 0) (v := nI 0) (by decide +kernel) rfl ?_
    refine al_lald (pc := 1713) (la_219 g2 (by decide)) (by decide +kernel) ?_
    refine al_iload (pc := 1714) (i := 6) (j := 6) (by decide +kernel) rfl ?_
    refine al_i2l (pc := 1716) (by decide +kernel) ?_
    refine al_lcmp (pc := 1717) (by decide +kernel) ?_
    refine al_if_eq (pc := 1718) (off := 5) (tgt := 1723) (by decide +kernel) (by decide) (fun _ => ?_) (fun gz => absurd (by rw [hO g0]; exact lg_cmp_self _) gz)
    refine al_goto (pc := 1723) (off := 852) (tgt := 2575) (by decide +kernel) (by decide) ?_
    refine al_few [0, 1, 2, 3, 4] (lv' := [(0, .ref (ab_SB + 5000)), (1, .ref 0), (2, .ref 206), (3, .ref 219), (4, .int (nI i))]) rfl ?_
    exact k _ _ hN2 R2
  · refine al_goto (pc := 1723) (off := 852) (tgt := 2575) (by decide +kernel) (by decide) ?_
    refine al_few [0, 1, 2, 3, 4] (lv' := [(0, .ref (ab_SB + 5000)), (1, .ref 0), (2, .ref 206), (3, .ref 219), (4, .int (nI i))]) rfl ?_
    exact k _ _ hN2 R2
set_option maxRecDepth 100000 in
set_option maxHeartbeats 4000000 in
theorem lc_31 {l : Launch} (hl : l.stackTraces = false) {L : Nat} {xs : Nat → Int32} {N : Nat} {g : gG} (R : RE N g) (hN : N < 1000) {i : Nat} (hi : i + 6 ≤ L) (hL : L ≤ 3072) {kc ks : Nat} (hc : kc + 5 ≤ 601024) (hs : ks + 427 ≤ 7293034) (k : ∀ N' g', N' ≤ N + 1 → RE N' g' → al_S l mlaw L xs (kc + 5) (ks + 427) 2575 [(0, .ref (ab_SB + 5000)), (1, .ref 0), (2, .ref 206), (3, .ref 219), (4, .int (nI i))] [] (gH g')) : al_S l mlaw L xs kc ks 1726 [(0, .ref (ab_SB + 5000)), (1, .ref 0), (2, .ref 206), (3, .ref 219), (4, .int (nI i))] [] (gH g) := by
  have hF : 11000 < Fu := by decide
  refine al_aload_n (pc := 1726) (n := 1) (i := 1) (j := 1) (by decide +kernel) rfl rfl ?_
  refine al_aload_n (pc := 1727) (n := 0) (i := 0) (j := 0) (by decide +kernel) rfl rfl ?_
  refine al_iload (pc := 1728) (i := 4) (j := 4) (by decide +kernel) rfl ?_
  refine al_iconst (pc := 1730) (n := 1) (v := nI 1) (by decide +kernel) rfl ?_
  refine al_iadd (pc := 1731) (by decide +kernel) ?_
  refine al_sld (pc := 1732) (sc_in hi hL (j := 1) (by decide)) (by decide +kernel) ?_
  refine al_aload_n (pc := 1733) (n := 3) (i := 3) (j := 3) (by decide +kernel) rfl rfl ?_
  have hN2 : N ≤ N + 1 := Nat.le_succ _
  obtain ⟨k0, g1, v, g2, eX, eY, eT, eO, R2⟩ : Cw N (fun v : Int32 => v.toInt64) (fL_ask Fu 0 ((xs ((nI i) + (nI 1)).toNatClampNeg)) 219 (gH g)) (fun h => fX12_ask Fu 206 ((xs ((nI i) + (nI 1)).toNatClampNeg)) h) := (by unfold fL_ask; rw [ab_ck_pos (io_0 g)]; exact Cw_a (w := (fun h v => ab_bd (ab_lw h 219 (nI 0) v.toInt64) fun h1 => some (nI 0, h1))) (fun φ h => pf_X12_ask φ Fu 206 ((xs ((nI i) + (nI 1)).toNatClampNeg)) h) w_out (by decide) (ca_ask R ((xs ((nI i) + (nI 1)).toNatClampNeg)) (F := Fu) hF))
  have hO : k0 = 0 → gL g2 219 0 = v.toInt64 := eO
  refine al_wrap (M' := mL_ask) (hh := hL_ask) (As := [.ref 0, .int (xs ((nI i) + (nI 1)).toNatClampNeg), .ref 219]) (st := []) (v := some (.int k0)) (h' := gH g1) (n := 3) (pc := 1734) (index := 236) (Nat.le_of_ble_eq_true rfl) (Nat.le_of_ble_eq_true rfl) hc hs ⟨cwL_ask, kw_e382c795c0, by decide +kernel⟩ kw_234a341cce kw_caf5a0ed29 rfl rfl (Nat.le_of_ble_eq_true rfl) (by decide +kernel) (okL_ask hl eX) ?_
  refine al_istore (pc := 1737) (i := 5) (lv' := [(0, .ref (ab_SB + 5000)), (1, .ref 0), (2, .ref 206), (3, .ref 219), (4, .int (nI i)), (5, .int k0)]) (by decide +kernel) (by decide) rfl rfl ?_
  refine al_aload_n (pc := 1739) (n := 2) (i := 2) (j := 2) (by decide +kernel) rfl rfl ?_
  refine al_aload_n (pc := 1740) (n := 0) (i := 0) (j := 0) (by decide +kernel) rfl rfl ?_
  refine al_iload (pc := 1741) (i := 4) (j := 4) (by decide +kernel) rfl ?_
  refine al_iconst (pc := 1743) (n := 1) (v := nI 1) (by decide +kernel) rfl ?_
  refine al_iadd (pc := 1744) (by decide +kernel) ?_
  refine al_sld (pc := 1745) (sc_in hi hL (j := 1) (by decide)) (by decide +kernel) ?_
  refine al_ref (M' := mX12_ask) (As := [.int (xs ((nI i) + (nI 1)).toNatClampNeg)]) (a := 206) (ci := 12) (st := []) (v := some (.int v)) (h' := gH g2) (pc := 1746) (index := 238) rfl rfl hc hs (io_206 _) rfl iX12_ask kw_96ed4a7d8d kw_a173a6348b kw_654002429c rfl rfl (Nat.le_of_ble_eq_true rfl) (by decide +kernel) (okX12_ask hl eY) ?_
  refine al_istore (pc := 1749) (i := 6) (lv' := [(0, .ref (ab_SB + 5000)), (1, .ref 0), (2, .ref 206), (3, .ref 219), (4, .int (nI i)), (5, .int k0), (6, .int v)]) (by decide +kernel) (by decide) rfl rfl ?_
  refine al_aload_n (pc := 1751) (n := 2) (i := 2) (j := 2) (by decide +kernel) rfl rfl ?_
  refine al_ref (M' := mX12_thrown) (As := []) (a := 206) (ci := 12) (st := []) (v := some (.int (gF g2 206 0))) (h' := gH g2) (pc := 1752) (index := 137) rfl rfl hc hs (io_206 g2) rfl iX12_thrown kw_3a20f3984e kw_5ecf1a43fc kw_b4788dccf4 rfl rfl (Nat.le_of_ble_eq_true rfl) (by decide +kernel) (okX12_thrown hl (f_thrown g2)) ?_
  refine al_iload (pc := 1755) (i := 5) (j := 5) (by decide +kernel) rfl ?_
  refine al_icmp_eq (pc := 1757) (off := 5) (tgt := 1762) (by decide +kernel) (by decide) (fun _ => ?_) (fun gz => absurd eT gz)
  refine al_iload (pc := 1762) (i := 5) (j := 5) (by decide +kernel) rfl ?_
  refine al_if_ne (pc := 1764) (off := 15) (tgt := 1779) (by decide +kernel) (by decide) (fun g0 => ?_) (fun g0 => ?_)
  · refine al_aload_n (pc := 1767) (n := 3) (i := 3) (j := 3) (by decide +kernel) rfl rfl ?_
    refine al_iconst (pc := 1768) (n := 0) (v := nI 0) (by decide +kernel) rfl ?_
    refine al_lald (pc := 1769) (la_219 g2 (by decide)) (by decide +kernel) ?_
    refine al_iload (pc := 1770) (i := 6) (j := 6) (by decide +kernel) rfl ?_
    refine al_i2l (pc := 1772) (by decide +kernel) ?_
    refine al_lcmp (pc := 1773) (by decide +kernel) ?_
    refine al_if_eq (pc := 1774) (off := 5) (tgt := 1779) (by decide +kernel) (by decide) (fun _ => ?_) (fun gz => absurd (by rw [hO g0]; exact lg_cmp_self _) gz)
    refine al_goto (pc := 1779) (off := 796) (tgt := 2575) (by decide +kernel) (by decide) ?_
    refine al_few [0, 1, 2, 3, 4] (lv' := [(0, .ref (ab_SB + 5000)), (1, .ref 0), (2, .ref 206), (3, .ref 219), (4, .int (nI i))]) rfl ?_
    exact k _ _ hN2 R2
  · refine al_goto (pc := 1779) (off := 796) (tgt := 2575) (by decide +kernel) (by decide) ?_
    refine al_few [0, 1, 2, 3, 4] (lv' := [(0, .ref (ab_SB + 5000)), (1, .ref 0), (2, .ref 206), (3, .ref 219), (4, .int (nI i))]) rfl ?_
    exact k _ _ hN2 R2
set_option maxRecDepth 100000 in
set_option maxHeartbeats 4000000 in
theorem lc_32 {l : Launch} (hl : l.stackTraces = false) {L : Nat} {xs : Nat → Int32} {N : Nat} {g : gG} (R : RE N g) (hN : N < 1000) {i : Nat} (hi : i + 6 ≤ L) (hL : L ≤ 3072) {kc ks : Nat} (hc : kc + 5 ≤ 601024) (hs : ks + 427 ≤ 7293034) (k : ∀ N' g', N' ≤ N + 1 → RE N' g' → al_S l mlaw L xs (kc + 5) (ks + 427) 2575 [(0, .ref (ab_SB + 5000)), (1, .ref 0), (2, .ref 206), (3, .ref 219), (4, .int (nI i))] [] (gH g')) : al_S l mlaw L xs kc ks 1782 [(0, .ref (ab_SB + 5000)), (1, .ref 0), (2, .ref 206), (3, .ref 219), (4, .int (nI i))] [] (gH g) := by
  have hF : 11000 < Fu := by decide
  refine al_aload_n (pc := 1782) (n := 1) (i := 1) (j := 1) (by decide +kernel) rfl rfl ?_
  refine al_aload_n (pc := 1783) (n := 3) (i := 3) (j := 3) (by decide +kernel) rfl rfl ?_
  have hN2 : N ≤ N + 1 := Nat.le_succ _
  obtain ⟨k0, g1, v, g2, eX, eY, eT, eO, R2⟩ : Cw N (fun v : Int32 => v.toInt64) (fL_clash Fu 0 219 (gH g)) (fun h => fX12_clash Fu 206 h) := (by unfold fL_clash; rw [ab_ck_pos (io_0 g)]; exact Cw_a (w := (fun h v => ab_bd (ab_lw h 219 (nI 0) v.toInt64) fun h1 => some (nI 0, h1))) (fun φ h => pf_X12_clash φ Fu 206 h) w_out (by decide) (ca_clash R (F := Fu) hF))
  have hO : k0 = 0 → gL g2 219 0 = v.toInt64 := eO
  refine al_wrap (M' := mL_clash) (hh := hL_clash) (As := [.ref 0, .ref 219]) (st := []) (v := some (.int k0)) (h' := gH g1) (n := 2) (pc := 1784) (index := 239) (Nat.le_of_ble_eq_true rfl) (Nat.le_of_ble_eq_true rfl) hc hs ⟨cwL_clash, kw_e382c795c0, by decide +kernel⟩ kw_da9bc1dedf kw_9ac3d027cf rfl rfl (Nat.le_of_ble_eq_true rfl) (by decide +kernel) (okL_clash hl eX) ?_
  refine al_istore (pc := 1787) (i := 5) (lv' := [(0, .ref (ab_SB + 5000)), (1, .ref 0), (2, .ref 206), (3, .ref 219), (4, .int (nI i)), (5, .int k0)]) (by decide +kernel) (by decide) rfl rfl ?_
  refine al_aload_n (pc := 1789) (n := 2) (i := 2) (j := 2) (by decide +kernel) rfl rfl ?_
  refine al_ref (M' := mX12_clash) (As := []) (a := 206) (ci := 12) (st := []) (v := some (.int v)) (h' := gH g2) (pc := 1790) (index := 241) rfl rfl hc hs (io_206 _) rfl iX12_clash kw_9d047f13d9 kw_a268bab608 kw_e8fdca3a6d rfl rfl (Nat.le_of_ble_eq_true rfl) (by decide +kernel) (okX12_clash hl eY) ?_
  refine al_istore (pc := 1793) (i := 6) (lv' := [(0, .ref (ab_SB + 5000)), (1, .ref 0), (2, .ref 206), (3, .ref 219), (4, .int (nI i)), (5, .int k0), (6, .int v)]) (by decide +kernel) (by decide) rfl rfl ?_
  refine al_aload_n (pc := 1795) (n := 2) (i := 2) (j := 2) (by decide +kernel) rfl rfl ?_
  refine al_ref (M' := mX12_thrown) (As := []) (a := 206) (ci := 12) (st := []) (v := some (.int (gF g2 206 0))) (h' := gH g2) (pc := 1796) (index := 137) rfl rfl hc hs (io_206 g2) rfl iX12_thrown kw_3a20f3984e kw_5ecf1a43fc kw_b4788dccf4 rfl rfl (Nat.le_of_ble_eq_true rfl) (by decide +kernel) (okX12_thrown hl (f_thrown g2)) ?_
  refine al_iload (pc := 1799) (i := 5) (j := 5) (by decide +kernel) rfl ?_
  refine al_icmp_eq (pc := 1801) (off := 5) (tgt := 1806) (by decide +kernel) (by decide) (fun _ => ?_) (fun gz => absurd eT gz)
  refine al_iload (pc := 1806) (i := 5) (j := 5) (by decide +kernel) rfl ?_
  refine al_if_ne (pc := 1808) (off := 15) (tgt := 1823) (by decide +kernel) (by decide) (fun g0 => ?_) (fun g0 => ?_)
  · refine al_aload_n (pc := 1811) (n := 3) (i := 3) (j := 3) (by decide +kernel) rfl rfl ?_
    refine al_iconst (pc := 1812) (n := 0) (v := nI 0) (by decide +kernel) rfl ?_
    refine al_lald (pc := 1813) (la_219 g2 (by decide)) (by decide +kernel) ?_
    refine al_iload (pc := 1814) (i := 6) (j := 6) (by decide +kernel) rfl ?_
    refine al_i2l (pc := 1816) (by decide +kernel) ?_
    refine al_lcmp (pc := 1817) (by decide +kernel) ?_
    refine al_if_eq (pc := 1818) (off := 5) (tgt := 1823) (by decide +kernel) (by decide) (fun _ => ?_) (fun gz => absurd (by rw [hO g0]; exact lg_cmp_self _) gz)
    refine al_goto (pc := 1823) (off := 752) (tgt := 2575) (by decide +kernel) (by decide) ?_
    refine al_few [0, 1, 2, 3, 4] (lv' := [(0, .ref (ab_SB + 5000)), (1, .ref 0), (2, .ref 206), (3, .ref 219), (4, .int (nI i))]) rfl ?_
    exact k _ _ hN2 R2
  · refine al_goto (pc := 1823) (off := 752) (tgt := 2575) (by decide +kernel) (by decide) ?_
    refine al_few [0, 1, 2, 3, 4] (lv' := [(0, .ref (ab_SB + 5000)), (1, .ref 0), (2, .ref 206), (3, .ref 219), (4, .int (nI i))]) rfl ?_
    exact k _ _ hN2 R2
set_option maxRecDepth 100000 in
set_option maxHeartbeats 4000000 in
theorem lc_33 {l : Launch} (hl : l.stackTraces = false) {L : Nat} {xs : Nat → Int32} {N : Nat} {g : gG} (R : RE N g) (hN : N < 1000) {i : Nat} (hi : i + 6 ≤ L) (hL : L ≤ 3072) {kc ks : Nat} (hc : kc + 5 ≤ 601024) (hs : ks + 427 ≤ 7293034) (k : ∀ N' g', N' ≤ N + 1 → RE N' g' → al_S l mlaw L xs (kc + 5) (ks + 427) 2575 [(0, .ref (ab_SB + 5000)), (1, .ref 0), (2, .ref 206), (3, .ref 219), (4, .int (nI i))] [] (gH g')) : al_S l mlaw L xs kc ks 1826 [(0, .ref (ab_SB + 5000)), (1, .ref 0), (2, .ref 206), (3, .ref 219), (4, .int (nI i))] [] (gH g) := by
  have hF : 11000 < Fu := by decide
  refine al_aload_n (pc := 1826) (n := 1) (i := 1) (j := 1) (by decide +kernel) rfl rfl ?_
  refine al_aload_n (pc := 1827) (n := 0) (i := 0) (j := 0) (by decide +kernel) rfl rfl ?_
  refine al_iload (pc := 1828) (i := 4) (j := 4) (by decide +kernel) rfl ?_
  refine al_iconst (pc := 1830) (n := 1) (v := nI 1) (by decide +kernel) rfl ?_
  refine al_iadd (pc := 1831) (by decide +kernel) ?_
  refine al_sld (pc := 1832) (sc_in hi hL (j := 1) (by decide)) (by decide +kernel) ?_
  have hN2 : N ≤ N + 1 := Nat.le_succ _
  obtain ⟨v, g2, eX, eY, R2⟩ := cr_queue R ((xs ((nI i) + (nI 1)).toNatClampNeg)) (F := Fu) hF
  refine al_cls (M' := mX11_queue) (As := [.int (xs ((nI i) + (nI 1)).toNatClampNeg)]) (a := 0) (ci := 11) (st := []) (v := some (.int v)) (h' := gH g) (pc := 1833) (index := 242) (Nat.le_of_ble_eq_true rfl) (Nat.le_of_ble_eq_true rfl) hc hs (io_0 g) rfl iX11_queue kw_8464367436 kw_58ea9fe02c kw_22f4e6f965 rfl rfl (Nat.le_of_ble_eq_true rfl) (by decide +kernel) (okX11_queue hl eX) ?_
  refine al_aload_n (pc := 1836) (n := 2) (i := 2) (j := 2) (by decide +kernel) rfl rfl ?_
  refine al_aload_n (pc := 1837) (n := 0) (i := 0) (j := 0) (by decide +kernel) rfl rfl ?_
  refine al_iload (pc := 1838) (i := 4) (j := 4) (by decide +kernel) rfl ?_
  refine al_iconst (pc := 1840) (n := 1) (v := nI 1) (by decide +kernel) rfl ?_
  refine al_iadd (pc := 1841) (by decide +kernel) ?_
  refine al_sld (pc := 1842) (sc_in hi hL (j := 1) (by decide)) (by decide +kernel) ?_
  refine al_ref (M' := mX12_queue) (As := [.int (xs ((nI i) + (nI 1)).toNatClampNeg)]) (a := 206) (ci := 12) (st := [.int v]) (v := some (.int v)) (h' := gH g2) (pc := 1843) (index := 245) rfl rfl hc hs (io_206 _) rfl iX12_queue kw_f1538a9888 kw_6597b71977 kw_727485b042 rfl rfl (Nat.le_of_ble_eq_true rfl) (by decide +kernel) (okX12_queue hl eY) ?_
  refine al_icmp_eq (pc := 1846) (off := 729) (tgt := 2575) (by decide +kernel) (by decide) (fun _ => ?_) (fun gz => absurd rfl gz)
  exact k _ _ hN2 R2
set_option maxRecDepth 100000 in
set_option maxHeartbeats 4000000 in
theorem lc_34 {l : Launch} (hl : l.stackTraces = false) {L : Nat} {xs : Nat → Int32} {N : Nat} {g : gG} (R : RE N g) (hN : N < 1000) {i : Nat} (hi : i + 6 ≤ L) (hL : L ≤ 3072) {kc ks : Nat} (hc : kc + 5 ≤ 601024) (hs : ks + 427 ≤ 7293034) (k : ∀ N' g', N' ≤ N + 1 → RE N' g' → al_S l mlaw L xs (kc + 5) (ks + 427) 2575 [(0, .ref (ab_SB + 5000)), (1, .ref 0), (2, .ref 206), (3, .ref 219), (4, .int (nI i))] [] (gH g')) : al_S l mlaw L xs kc ks 1851 [(0, .ref (ab_SB + 5000)), (1, .ref 0), (2, .ref 206), (3, .ref 219), (4, .int (nI i))] [] (gH g) := by
  have hF : 11000 < Fu := by decide
  refine al_aload_n (pc := 1851) (n := 1) (i := 1) (j := 1) (by decide +kernel) rfl rfl ?_
  refine al_aload_n (pc := 1852) (n := 0) (i := 0) (j := 0) (by decide +kernel) rfl rfl ?_
  refine al_iload (pc := 1853) (i := 4) (j := 4) (by decide +kernel) rfl ?_
  refine al_iconst (pc := 1855) (n := 1) (v := nI 1) (by decide +kernel) rfl ?_
  refine al_iadd (pc := 1856) (by decide +kernel) ?_
  refine al_sld (pc := 1857) (sc_in hi hL (j := 1) (by decide)) (by decide +kernel) ?_
  refine al_aload_n (pc := 1858) (n := 3) (i := 3) (j := 3) (by decide +kernel) rfl rfl ?_
  have hN2 : N ≤ N + 1 := Nat.le_succ _
  obtain ⟨k0, g1, v, g2, eX, eY, eT, eO, R2⟩ : Cw N (fun v : Int32 => v.toInt64) (fL_forged Fu 0 ((xs ((nI i) + (nI 1)).toNatClampNeg)) 219 (gH g)) (fun h => fX12_forged Fu 206 ((xs ((nI i) + (nI 1)).toNatClampNeg)) h) := (by unfold fL_forged; rw [ab_ck_pos (io_0 g)]; exact Cw_q (w := (fun h v => ab_bd (ab_lw h 219 (nI 0) v.toInt64) fun h1 => some (nI 0, h1))) (fun φ h => pf_X12_forged φ Fu 206 ((xs ((nI i) + (nI 1)).toNatClampNeg)) h) w_out (by decide) (cq_forged R ((xs ((nI i) + (nI 1)).toNatClampNeg)) (F := Fu) hF))
  have hO : k0 = 0 → gL g2 219 0 = v.toInt64 := eO
  refine al_wrap (M' := mL_forged) (hh := hL_forged) (As := [.ref 0, .int (xs ((nI i) + (nI 1)).toNatClampNeg), .ref 219]) (st := []) (v := some (.int k0)) (h' := gH g1) (n := 3) (pc := 1859) (index := 246) (Nat.le_of_ble_eq_true rfl) (Nat.le_of_ble_eq_true rfl) hc hs ⟨cwL_forged, kw_e382c795c0, by decide +kernel⟩ kw_01e063bfa7 kw_f98261d0f3 rfl rfl (Nat.le_of_ble_eq_true rfl) (by decide +kernel) (okL_forged hl eX) ?_
  refine al_istore (pc := 1862) (i := 5) (lv' := [(0, .ref (ab_SB + 5000)), (1, .ref 0), (2, .ref 206), (3, .ref 219), (4, .int (nI i)), (5, .int k0)]) (by decide +kernel) (by decide) rfl rfl ?_
  refine al_aload_n (pc := 1864) (n := 2) (i := 2) (j := 2) (by decide +kernel) rfl rfl ?_
  refine al_aload_n (pc := 1865) (n := 0) (i := 0) (j := 0) (by decide +kernel) rfl rfl ?_
  refine al_iload (pc := 1866) (i := 4) (j := 4) (by decide +kernel) rfl ?_
  refine al_iconst (pc := 1868) (n := 1) (v := nI 1) (by decide +kernel) rfl ?_
  refine al_iadd (pc := 1869) (by decide +kernel) ?_
  refine al_sld (pc := 1870) (sc_in hi hL (j := 1) (by decide)) (by decide +kernel) ?_
  refine al_ref (M' := mX12_forged) (As := [.int (xs ((nI i) + (nI 1)).toNatClampNeg)]) (a := 206) (ci := 12) (st := []) (v := some (.int v)) (h' := gH g2) (pc := 1871) (index := 248) rfl rfl hc hs (io_206 _) rfl iX12_forged kw_0dc74e6cb2 kw_5bac1a6d55 kw_4b125c1b8b rfl rfl (Nat.le_of_ble_eq_true rfl) (by decide +kernel) (okX12_forged hl eY) ?_
  refine al_istore (pc := 1874) (i := 6) (lv' := [(0, .ref (ab_SB + 5000)), (1, .ref 0), (2, .ref 206), (3, .ref 219), (4, .int (nI i)), (5, .int k0), (6, .int v)]) (by decide +kernel) (by decide) rfl rfl ?_
  refine al_aload_n (pc := 1876) (n := 2) (i := 2) (j := 2) (by decide +kernel) rfl rfl ?_
  refine al_ref (M' := mX12_thrown) (As := []) (a := 206) (ci := 12) (st := []) (v := some (.int (gF g2 206 0))) (h' := gH g2) (pc := 1877) (index := 137) rfl rfl hc hs (io_206 g2) rfl iX12_thrown kw_3a20f3984e kw_5ecf1a43fc kw_b4788dccf4 rfl rfl (Nat.le_of_ble_eq_true rfl) (by decide +kernel) (okX12_thrown hl (f_thrown g2)) ?_
  refine al_iload (pc := 1880) (i := 5) (j := 5) (by decide +kernel) rfl ?_
  refine al_icmp_eq (pc := 1882) (off := 5) (tgt := 1887) (by decide +kernel) (by decide) (fun _ => ?_) (fun gz => absurd eT gz)
  refine al_iload (pc := 1887) (i := 5) (j := 5) (by decide +kernel) rfl ?_
  refine al_if_ne (pc := 1889) (off := 15) (tgt := 1904) (by decide +kernel) (by decide) (fun g0 => ?_) (fun g0 => ?_)
  · refine al_aload_n (pc := 1892) (n := 3) (i := 3) (j := 3) (by decide +kernel) rfl rfl ?_
    refine al_iconst (pc := 1893) (n := 0) (v := nI 0) (by decide +kernel) rfl ?_
    refine al_lald (pc := 1894) (la_219 g2 (by decide)) (by decide +kernel) ?_
    refine al_iload (pc := 1895) (i := 6) (j := 6) (by decide +kernel) rfl ?_
    refine al_i2l (pc := 1897) (by decide +kernel) ?_
    refine al_lcmp (pc := 1898) (by decide +kernel) ?_
    refine al_if_eq (pc := 1899) (off := 5) (tgt := 1904) (by decide +kernel) (by decide) (fun _ => ?_) (fun gz => absurd (by rw [hO g0]; exact lg_cmp_self _) gz)
    refine al_goto (pc := 1904) (off := 671) (tgt := 2575) (by decide +kernel) (by decide) ?_
    refine al_few [0, 1, 2, 3, 4] (lv' := [(0, .ref (ab_SB + 5000)), (1, .ref 0), (2, .ref 206), (3, .ref 219), (4, .int (nI i))]) rfl ?_
    exact k _ _ hN2 R2
  · refine al_goto (pc := 1904) (off := 671) (tgt := 2575) (by decide +kernel) (by decide) ?_
    refine al_few [0, 1, 2, 3, 4] (lv' := [(0, .ref (ab_SB + 5000)), (1, .ref 0), (2, .ref 206), (3, .ref 219), (4, .int (nI i))]) rfl ?_
    exact k _ _ hN2 R2
set_option maxRecDepth 100000 in
set_option maxHeartbeats 4000000 in
theorem lc_35 {l : Launch} (hl : l.stackTraces = false) {L : Nat} {xs : Nat → Int32} {N : Nat} {g : gG} (R : RE N g) (hN : N < 1000) {i : Nat} (hi : i + 6 ≤ L) (hL : L ≤ 3072) {kc ks : Nat} (hc : kc + 5 ≤ 601024) (hs : ks + 427 ≤ 7293034) (k : ∀ N' g', N' ≤ N + 1 → RE N' g' → al_S l mlaw L xs (kc + 5) (ks + 427) 2575 [(0, .ref (ab_SB + 5000)), (1, .ref 0), (2, .ref 206), (3, .ref 219), (4, .int (nI i))] [] (gH g')) : al_S l mlaw L xs kc ks 1907 [(0, .ref (ab_SB + 5000)), (1, .ref 0), (2, .ref 206), (3, .ref 219), (4, .int (nI i))] [] (gH g) := by
  have hF : 11000 < Fu := by decide
  refine al_aload_n (pc := 1907) (n := 1) (i := 1) (j := 1) (by decide +kernel) rfl rfl ?_
  refine al_aload_n (pc := 1908) (n := 0) (i := 0) (j := 0) (by decide +kernel) rfl rfl ?_
  refine al_iload (pc := 1909) (i := 4) (j := 4) (by decide +kernel) rfl ?_
  refine al_iconst (pc := 1911) (n := 1) (v := nI 1) (by decide +kernel) rfl ?_
  refine al_iadd (pc := 1912) (by decide +kernel) ?_
  refine al_sld (pc := 1913) (sc_in hi hL (j := 1) (by decide)) (by decide +kernel) ?_
  refine al_aload_n (pc := 1914) (n := 3) (i := 3) (j := 3) (by decide +kernel) rfl rfl ?_
  have hN2 : N ≤ N + 1 := Nat.le_succ _
  obtain ⟨k0, g1, v, g2, eX, eY, eT, eO, R2⟩ : Cw N (fun v : Int32 => v.toInt64) (fL_ways Fu 0 ((xs ((nI i) + (nI 1)).toNatClampNeg)) 219 (gH g)) (fun h => fX12_ways Fu 206 ((xs ((nI i) + (nI 1)).toNatClampNeg)) h) := (by unfold fL_ways; rw [ab_ck_pos (io_0 g)]; exact Cw_q (w := (fun h v => ab_bd (ab_lw h 219 (nI 0) v.toInt64) fun h1 => some (nI 0, h1))) (fun φ h => pf_X12_ways φ Fu 206 ((xs ((nI i) + (nI 1)).toNatClampNeg)) h) w_out (by decide) (cq_ways R ((xs ((nI i) + (nI 1)).toNatClampNeg)) (F := Fu) hF))
  have hO : k0 = 0 → gL g2 219 0 = v.toInt64 := eO
  refine al_wrap (M' := mL_ways) (hh := hL_ways) (As := [.ref 0, .int (xs ((nI i) + (nI 1)).toNatClampNeg), .ref 219]) (st := []) (v := some (.int k0)) (h' := gH g1) (n := 3) (pc := 1915) (index := 249) (Nat.le_of_ble_eq_true rfl) (Nat.le_of_ble_eq_true rfl) hc hs ⟨cwL_ways, kw_e382c795c0, by decide +kernel⟩ kw_e91bcd3d88 kw_5f3b378b85 rfl rfl (Nat.le_of_ble_eq_true rfl) (by decide +kernel) (okL_ways hl eX) ?_
  refine al_istore (pc := 1918) (i := 5) (lv' := [(0, .ref (ab_SB + 5000)), (1, .ref 0), (2, .ref 206), (3, .ref 219), (4, .int (nI i)), (5, .int k0)]) (by decide +kernel) (by decide) rfl rfl ?_
  refine al_aload_n (pc := 1920) (n := 2) (i := 2) (j := 2) (by decide +kernel) rfl rfl ?_
  refine al_aload_n (pc := 1921) (n := 0) (i := 0) (j := 0) (by decide +kernel) rfl rfl ?_
  refine al_iload (pc := 1922) (i := 4) (j := 4) (by decide +kernel) rfl ?_
  refine al_iconst (pc := 1924) (n := 1) (v := nI 1) (by decide +kernel) rfl ?_
  refine al_iadd (pc := 1925) (by decide +kernel) ?_
  refine al_sld (pc := 1926) (sc_in hi hL (j := 1) (by decide)) (by decide +kernel) ?_
  refine al_ref (M' := mX12_ways) (As := [.int (xs ((nI i) + (nI 1)).toNatClampNeg)]) (a := 206) (ci := 12) (st := []) (v := some (.int v)) (h' := gH g2) (pc := 1927) (index := 251) rfl rfl hc hs (io_206 _) rfl iX12_ways kw_58b32ca686 kw_1d831837ca kw_a98301d0bb rfl rfl (Nat.le_of_ble_eq_true rfl) (by decide +kernel) (okX12_ways hl eY) ?_
  refine al_istore (pc := 1930) (i := 6) (lv' := [(0, .ref (ab_SB + 5000)), (1, .ref 0), (2, .ref 206), (3, .ref 219), (4, .int (nI i)), (5, .int k0), (6, .int v)]) (by decide +kernel) (by decide) rfl rfl ?_
  refine al_aload_n (pc := 1932) (n := 2) (i := 2) (j := 2) (by decide +kernel) rfl rfl ?_
  refine al_ref (M' := mX12_thrown) (As := []) (a := 206) (ci := 12) (st := []) (v := some (.int (gF g2 206 0))) (h' := gH g2) (pc := 1933) (index := 137) rfl rfl hc hs (io_206 g2) rfl iX12_thrown kw_3a20f3984e kw_5ecf1a43fc kw_b4788dccf4 rfl rfl (Nat.le_of_ble_eq_true rfl) (by decide +kernel) (okX12_thrown hl (f_thrown g2)) ?_
  refine al_iload (pc := 1936) (i := 5) (j := 5) (by decide +kernel) rfl ?_
  refine al_icmp_eq (pc := 1938) (off := 5) (tgt := 1943) (by decide +kernel) (by decide) (fun _ => ?_) (fun gz => absurd eT gz)
  refine al_iload (pc := 1943) (i := 5) (j := 5) (by decide +kernel) rfl ?_
  refine al_if_ne (pc := 1945) (off := 15) (tgt := 1960) (by decide +kernel) (by decide) (fun g0 => ?_) (fun g0 => ?_)
  · refine al_aload_n (pc := 1948) (n := 3) (i := 3) (j := 3) (by decide +kernel) rfl rfl ?_
    refine al_iconst (pc := 1949) (n := 0) (v := nI 0) (by decide +kernel) rfl ?_
    refine al_lald (pc := 1950) (la_219 g2 (by decide)) (by decide +kernel) ?_
    refine al_iload (pc := 1951) (i := 6) (j := 6) (by decide +kernel) rfl ?_
    refine al_i2l (pc := 1953) (by decide +kernel) ?_
    refine al_lcmp (pc := 1954) (by decide +kernel) ?_
    refine al_if_eq (pc := 1955) (off := 5) (tgt := 1960) (by decide +kernel) (by decide) (fun _ => ?_) (fun gz => absurd (by rw [hO g0]; exact lg_cmp_self _) gz)
    refine al_goto (pc := 1960) (off := 615) (tgt := 2575) (by decide +kernel) (by decide) ?_
    refine al_few [0, 1, 2, 3, 4] (lv' := [(0, .ref (ab_SB + 5000)), (1, .ref 0), (2, .ref 206), (3, .ref 219), (4, .int (nI i))]) rfl ?_
    exact k _ _ hN2 R2
  · refine al_goto (pc := 1960) (off := 615) (tgt := 2575) (by decide +kernel) (by decide) ?_
    refine al_few [0, 1, 2, 3, 4] (lv' := [(0, .ref (ab_SB + 5000)), (1, .ref 0), (2, .ref 206), (3, .ref 219), (4, .int (nI i))]) rfl ?_
    exact k _ _ hN2 R2
set_option maxRecDepth 100000 in
set_option maxHeartbeats 4000000 in
theorem lc_36 {l : Launch} (hl : l.stackTraces = false) {L : Nat} {xs : Nat → Int32} {N : Nat} {g : gG} (R : RE N g) (hN : N < 1000) {i : Nat} (hi : i + 6 ≤ L) (hL : L ≤ 3072) {kc ks : Nat} (hc : kc + 5 ≤ 601024) (hs : ks + 427 ≤ 7293034) (k : ∀ N' g', N' ≤ N + 1 → RE N' g' → al_S l mlaw L xs (kc + 5) (ks + 427) 2575 [(0, .ref (ab_SB + 5000)), (1, .ref 0), (2, .ref 206), (3, .ref 219), (4, .int (nI i))] [] (gH g')) : al_S l mlaw L xs kc ks 1963 [(0, .ref (ab_SB + 5000)), (1, .ref 0), (2, .ref 206), (3, .ref 219), (4, .int (nI i))] [] (gH g) := by
  have hF : 11000 < Fu := by decide
  refine al_aload_n (pc := 1963) (n := 1) (i := 1) (j := 1) (by decide +kernel) rfl rfl ?_
  refine al_aload_n (pc := 1964) (n := 0) (i := 0) (j := 0) (by decide +kernel) rfl rfl ?_
  refine al_iload (pc := 1965) (i := 4) (j := 4) (by decide +kernel) rfl ?_
  refine al_iconst (pc := 1967) (n := 1) (v := nI 1) (by decide +kernel) rfl ?_
  refine al_iadd (pc := 1968) (by decide +kernel) ?_
  refine al_sld (pc := 1969) (sc_in hi hL (j := 1) (by decide)) (by decide +kernel) ?_
  refine al_aload_n (pc := 1970) (n := 3) (i := 3) (j := 3) (by decide +kernel) rfl rfl ?_
  have hN2 : N ≤ N + 1 := Nat.le_succ _
  obtain ⟨k0, g1, v, g2, eX, eY, eT, eO, R2⟩ : Cw N (fun v : Int32 => v.toInt64) (fL_talk Fu 0 ((xs ((nI i) + (nI 1)).toNatClampNeg)) 219 (gH g)) (fun h => fX12_talk Fu 206 ((xs ((nI i) + (nI 1)).toNatClampNeg)) h) := (by unfold fL_talk; rw [ab_ck_pos (io_0 g)]; exact Cw_q (w := (fun h v => ab_bd (ab_lw h 219 (nI 0) v.toInt64) fun h1 => some (nI 0, h1))) (fun φ h => pf_X12_talk φ Fu 206 ((xs ((nI i) + (nI 1)).toNatClampNeg)) h) w_out (by decide) (cq_talk R ((xs ((nI i) + (nI 1)).toNatClampNeg)) (F := Fu) hF))
  have hO : k0 = 0 → gL g2 219 0 = v.toInt64 := eO
  refine al_wrap (M' := mL_talk) (hh := hL_talk) (As := [.ref 0, .int (xs ((nI i) + (nI 1)).toNatClampNeg), .ref 219]) (st := []) (v := some (.int k0)) (h' := gH g1) (n := 3) (pc := 1971) (index := 252) (Nat.le_of_ble_eq_true rfl) (Nat.le_of_ble_eq_true rfl) hc hs ⟨cwL_talk, kw_e382c795c0, by decide +kernel⟩ kw_a4646a4f6b kw_a2fbc7bd74 rfl rfl (Nat.le_of_ble_eq_true rfl) (by decide +kernel) (okL_talk hl eX) ?_
  refine al_istore (pc := 1974) (i := 5) (lv' := [(0, .ref (ab_SB + 5000)), (1, .ref 0), (2, .ref 206), (3, .ref 219), (4, .int (nI i)), (5, .int k0)]) (by decide +kernel) (by decide) rfl rfl ?_
  refine al_aload_n (pc := 1976) (n := 2) (i := 2) (j := 2) (by decide +kernel) rfl rfl ?_
  refine al_aload_n (pc := 1977) (n := 0) (i := 0) (j := 0) (by decide +kernel) rfl rfl ?_
  refine al_iload (pc := 1978) (i := 4) (j := 4) (by decide +kernel) rfl ?_
  refine al_iconst (pc := 1980) (n := 1) (v := nI 1) (by decide +kernel) rfl ?_
  refine al_iadd (pc := 1981) (by decide +kernel) ?_
  refine al_sld (pc := 1982) (sc_in hi hL (j := 1) (by decide)) (by decide +kernel) ?_
  refine al_ref (M' := mX12_talk) (As := [.int (xs ((nI i) + (nI 1)).toNatClampNeg)]) (a := 206) (ci := 12) (st := []) (v := some (.int v)) (h' := gH g2) (pc := 1983) (index := 254) rfl rfl hc hs (io_206 _) rfl iX12_talk kw_a25fe5a1e9 kw_f127965b99 kw_c9b3be8f08 rfl rfl (Nat.le_of_ble_eq_true rfl) (by decide +kernel) (okX12_talk hl eY) ?_
  refine al_istore (pc := 1986) (i := 6) (lv' := [(0, .ref (ab_SB + 5000)), (1, .ref 0), (2, .ref 206), (3, .ref 219), (4, .int (nI i)), (5, .int k0), (6, .int v)]) (by decide +kernel) (by decide) rfl rfl ?_
  refine al_aload_n (pc := 1988) (n := 2) (i := 2) (j := 2) (by decide +kernel) rfl rfl ?_
  refine al_ref (M' := mX12_thrown) (As := []) (a := 206) (ci := 12) (st := []) (v := some (.int (gF g2 206 0))) (h' := gH g2) (pc := 1989) (index := 137) rfl rfl hc hs (io_206 g2) rfl iX12_thrown kw_3a20f3984e kw_5ecf1a43fc kw_b4788dccf4 rfl rfl (Nat.le_of_ble_eq_true rfl) (by decide +kernel) (okX12_thrown hl (f_thrown g2)) ?_
  refine al_iload (pc := 1992) (i := 5) (j := 5) (by decide +kernel) rfl ?_
  refine al_icmp_eq (pc := 1994) (off := 5) (tgt := 1999) (by decide +kernel) (by decide) (fun _ => ?_) (fun gz => absurd eT gz)
  refine al_iload (pc := 1999) (i := 5) (j := 5) (by decide +kernel) rfl ?_
  refine al_if_ne (pc := 2001) (off := 15) (tgt := 2016) (by decide +kernel) (by decide) (fun g0 => ?_) (fun g0 => ?_)
  · refine al_aload_n (pc := 2004) (n := 3) (i := 3) (j := 3) (by decide +kernel) rfl rfl ?_
    refine al_iconst (pc := 2005) (n := 0) (v := nI 0) (by decide +kernel) rfl ?_
    refine al_lald (pc := 2006) (la_219 g2 (by decide)) (by decide +kernel) ?_
    refine al_iload (pc := 2007) (i := 6) (j := 6) (by decide +kernel) rfl ?_
    refine al_i2l (pc := 2009) (by decide +kernel) ?_
    refine al_lcmp (pc := 2010) (by decide +kernel) ?_
    refine al_if_eq (pc := 2011) (off := 5) (tgt := 2016) (by decide +kernel) (by decide) (fun _ => ?_) (fun gz => absurd (by rw [hO g0]; exact lg_cmp_self _) gz)
    refine al_goto (pc := 2016) (off := 559) (tgt := 2575) (by decide +kernel) (by decide) ?_
    refine al_few [0, 1, 2, 3, 4] (lv' := [(0, .ref (ab_SB + 5000)), (1, .ref 0), (2, .ref 206), (3, .ref 219), (4, .int (nI i))]) rfl ?_
    exact k _ _ hN2 R2
  · refine al_goto (pc := 2016) (off := 559) (tgt := 2575) (by decide +kernel) (by decide) ?_
    refine al_few [0, 1, 2, 3, 4] (lv' := [(0, .ref (ab_SB + 5000)), (1, .ref 0), (2, .ref 206), (3, .ref 219), (4, .int (nI i))]) rfl ?_
    exact k _ _ hN2 R2
set_option maxRecDepth 100000 in
set_option maxHeartbeats 4000000 in
theorem lc_37 {l : Launch} (hl : l.stackTraces = false) {L : Nat} {xs : Nat → Int32} {N : Nat} {g : gG} (R : RE N g) (hN : N < 1000) {i : Nat} (hi : i + 6 ≤ L) (hL : L ≤ 3072) {kc ks : Nat} (hc : kc + 5 ≤ 601024) (hs : ks + 427 ≤ 7293034) (k : ∀ N' g', N' ≤ N + 1 → RE N' g' → al_S l mlaw L xs (kc + 5) (ks + 427) 2575 [(0, .ref (ab_SB + 5000)), (1, .ref 0), (2, .ref 206), (3, .ref 219), (4, .int (nI i))] [] (gH g')) : al_S l mlaw L xs kc ks 2019 [(0, .ref (ab_SB + 5000)), (1, .ref 0), (2, .ref 206), (3, .ref 219), (4, .int (nI i))] [] (gH g) := by
  have hF : 11000 < Fu := by decide
  refine al_aload_n (pc := 2019) (n := 1) (i := 1) (j := 1) (by decide +kernel) rfl rfl ?_
  refine al_aload_n (pc := 2020) (n := 0) (i := 0) (j := 0) (by decide +kernel) rfl rfl ?_
  refine al_iload (pc := 2021) (i := 4) (j := 4) (by decide +kernel) rfl ?_
  refine al_iconst (pc := 2023) (n := 1) (v := nI 1) (by decide +kernel) rfl ?_
  refine al_iadd (pc := 2024) (by decide +kernel) ?_
  refine al_sld (pc := 2025) (sc_in hi hL (j := 1) (by decide)) (by decide +kernel) ?_
  refine al_if_eq (pc := 2026) (off := 7) (tgt := 2033) (by decide +kernel) (by decide) (fun g0 => ?_) (fun g0 => ?_)
  · refine al_iconst (pc := 2033) (n := 0) (v := nI 0) (by decide +kernel) rfl ?_
    have hN2 : N ≤ N + 1 := Nat.le_succ _
    obtain ⟨v, g2, eX, eY, R2⟩ := cr_row R ((nI 0)) (F := Fu) hF
    refine al_cls (M' := mX11_row) (As := [.int (nI 0)]) (a := 0) (ci := 11) (st := []) (v := some (.int v)) (h' := gH g) (pc := 2034) (index := 255) (Nat.le_of_ble_eq_true rfl) (Nat.le_of_ble_eq_true rfl) hc hs (io_0 g) rfl iX11_row kw_0169b5a054 kw_547d81426a kw_11e4b83a70 rfl rfl (Nat.le_of_ble_eq_true rfl) (by decide +kernel) (okX11_row hl eX) ?_
    refine al_aload_n (pc := 2037) (n := 2) (i := 2) (j := 2) (by decide +kernel) rfl rfl ?_
    refine al_aload_n (pc := 2038) (n := 0) (i := 0) (j := 0) (by decide +kernel) rfl rfl ?_
    refine al_iload (pc := 2039) (i := 4) (j := 4) (by decide +kernel) rfl ?_
    refine al_iconst (pc := 2041) (n := 1) (v := nI 1) (by decide +kernel) rfl ?_
    refine al_iadd (pc := 2042) (by decide +kernel) ?_
    refine al_sld (pc := 2043) (sc_in hi hL (j := 1) (by decide)) (by decide +kernel) ?_
    refine al_if_eq (pc := 2044) (off := 7) (tgt := 2051) (by decide +kernel) (by decide) (fun _ => ?_) (fun gz => absurd g0 gz)
    refine al_iconst (pc := 2051) (n := 0) (v := nI 0) (by decide +kernel) rfl ?_
    refine al_ref (M' := mX12_row) (As := [.int (nI 0)]) (a := 206) (ci := 12) (st := [.int v]) (v := some (.int v)) (h' := gH g2) (pc := 2052) (index := 259) rfl rfl hc hs (io_206 _) rfl iX12_row kw_99e3ba8370 kw_c27a7d83b5 kw_cc9c541c31 rfl rfl (Nat.le_of_ble_eq_true rfl) (by decide +kernel) (okX12_row hl eY) ?_
    refine al_icmp_eq (pc := 2055) (off := 520) (tgt := 2575) (by decide +kernel) (by decide) (fun _ => ?_) (fun gz => absurd rfl gz)
    exact k _ _ hN2 R2
  · refine al_iconst (pc := 2029) (n := 1) (v := nI 1) (by decide +kernel) rfl ?_
    refine al_goto (pc := 2030) (off := 4) (tgt := 2034) (by decide +kernel) (by decide) ?_
    have hN2 : N ≤ N + 1 := Nat.le_succ _
    obtain ⟨v, g2, eX, eY, R2⟩ := cr_row R ((nI 1)) (F := Fu) hF
    refine al_cls (M' := mX11_row) (As := [.int (nI 1)]) (a := 0) (ci := 11) (st := []) (v := some (.int v)) (h' := gH g) (pc := 2034) (index := 255) (Nat.le_of_ble_eq_true rfl) (Nat.le_of_ble_eq_true rfl) hc hs (io_0 g) rfl iX11_row kw_0169b5a054 kw_547d81426a kw_11e4b83a70 rfl rfl (Nat.le_of_ble_eq_true rfl) (by decide +kernel) (okX11_row hl eX) ?_
    refine al_aload_n (pc := 2037) (n := 2) (i := 2) (j := 2) (by decide +kernel) rfl rfl ?_
    refine al_aload_n (pc := 2038) (n := 0) (i := 0) (j := 0) (by decide +kernel) rfl rfl ?_
    refine al_iload (pc := 2039) (i := 4) (j := 4) (by decide +kernel) rfl ?_
    refine al_iconst (pc := 2041) (n := 1) (v := nI 1) (by decide +kernel) rfl ?_
    refine al_iadd (pc := 2042) (by decide +kernel) ?_
    refine al_sld (pc := 2043) (sc_in hi hL (j := 1) (by decide)) (by decide +kernel) ?_
    refine al_if_eq (pc := 2044) (off := 7) (tgt := 2051) (by decide +kernel) (by decide) (fun gz => absurd gz g0) (fun _ => ?_)
    refine al_iconst (pc := 2047) (n := 1) (v := nI 1) (by decide +kernel) rfl ?_
    refine al_goto (pc := 2048) (off := 4) (tgt := 2052) (by decide +kernel) (by decide) ?_
    refine al_ref (M' := mX12_row) (As := [.int (nI 1)]) (a := 206) (ci := 12) (st := [.int v]) (v := some (.int v)) (h' := gH g2) (pc := 2052) (index := 259) rfl rfl hc hs (io_206 _) rfl iX12_row kw_99e3ba8370 kw_c27a7d83b5 kw_cc9c541c31 rfl rfl (Nat.le_of_ble_eq_true rfl) (by decide +kernel) (okX12_row hl eY) ?_
    refine al_icmp_eq (pc := 2055) (off := 520) (tgt := 2575) (by decide +kernel) (by decide) (fun _ => ?_) (fun gz => absurd rfl gz)
    exact k _ _ hN2 R2
set_option maxRecDepth 100000 in
set_option maxHeartbeats 4000000 in
theorem lc_38 {l : Launch} (hl : l.stackTraces = false) {L : Nat} {xs : Nat → Int32} {N : Nat} {g : gG} (R : RE N g) (hN : N < 1000) {i : Nat} (hi : i + 6 ≤ L) (hL : L ≤ 3072) {kc ks : Nat} (hc : kc + 5 ≤ 601024) (hs : ks + 427 ≤ 7293034) (k : ∀ N' g', N' ≤ N + 1 → RE N' g' → al_S l mlaw L xs (kc + 5) (ks + 427) 2575 [(0, .ref (ab_SB + 5000)), (1, .ref 0), (2, .ref 206), (3, .ref 219), (4, .int (nI i))] [] (gH g')) : al_S l mlaw L xs kc ks 2060 [(0, .ref (ab_SB + 5000)), (1, .ref 0), (2, .ref 206), (3, .ref 219), (4, .int (nI i))] [] (gH g) := by
  have hF : 11000 < Fu := by decide
  refine al_aload_n (pc := 2060) (n := 1) (i := 1) (j := 1) (by decide +kernel) rfl rfl ?_
  refine al_aload_n (pc := 2061) (n := 0) (i := 0) (j := 0) (by decide +kernel) rfl rfl ?_
  refine al_iload (pc := 2062) (i := 4) (j := 4) (by decide +kernel) rfl ?_
  refine al_iconst (pc := 2064) (n := 1) (v := nI 1) (by decide +kernel) rfl ?_
  refine al_iadd (pc := 2065) (by decide +kernel) ?_
  refine al_sld (pc := 2066) (sc_in hi hL (j := 1) (by decide)) (by decide +kernel) ?_
  refine al_aload_n (pc := 2067) (n := 0) (i := 0) (j := 0) (by decide +kernel) rfl rfl ?_
  refine al_iload (pc := 2068) (i := 4) (j := 4) (by decide +kernel) rfl ?_
  refine al_iconst (pc := 2070) (n := 2) (v := nI 2) (by decide +kernel) rfl ?_
  refine al_iadd (pc := 2071) (by decide +kernel) ?_
  refine al_sld (pc := 2072) (sc_in hi hL (j := 2) (by decide)) (by decide +kernel) ?_
  refine al_aload_n (pc := 2073) (n := 3) (i := 3) (j := 3) (by decide +kernel) rfl rfl ?_
  have hN2 : N ≤ N + 1 := Nat.le_succ _
  obtain ⟨k0, g1, v, g2, eX, eY, eT, eO, R2⟩ : Cw N (fun v : Int32 => v.toInt64) (fL_chain Fu 0 ((xs ((nI i) + (nI 1)).toNatClampNeg)) ((xs ((nI i) + (nI 2)).toNatClampNeg)) 219 (gH g)) (fun h => fX12_chain Fu 206 ((xs ((nI i) + (nI 1)).toNatClampNeg)) ((xs ((nI i) + (nI 2)).toNatClampNeg)) h) := (by unfold fL_chain; rw [ab_ck_pos (io_0 g)]; exact Cw_q (w := (fun h v => ab_bd (ab_lw h 219 (nI 0) v.toInt64) fun h1 => some (nI 0, h1))) (fun φ h => pf_X12_chain φ Fu 206 ((xs ((nI i) + (nI 1)).toNatClampNeg)) ((xs ((nI i) + (nI 2)).toNatClampNeg)) h) w_out (by decide) (cq_chain R ((xs ((nI i) + (nI 1)).toNatClampNeg)) ((xs ((nI i) + (nI 2)).toNatClampNeg)) (F := Fu) hF))
  have hO : k0 = 0 → gL g2 219 0 = v.toInt64 := eO
  refine al_wrap (M' := mL_chain) (hh := hL_chain) (As := [.ref 0, .int (xs ((nI i) + (nI 1)).toNatClampNeg), .int (xs ((nI i) + (nI 2)).toNatClampNeg), .ref 219]) (st := []) (v := some (.int k0)) (h' := gH g1) (n := 4) (pc := 2074) (index := 260) (Nat.le_of_ble_eq_true rfl) (Nat.le_of_ble_eq_true rfl) hc hs ⟨cwL_chain, kw_e382c795c0, by decide +kernel⟩ kw_76490011e4 kw_bfdb80ef6c rfl rfl (Nat.le_of_ble_eq_true rfl) (by decide +kernel) (okL_chain hl eX) ?_
  refine al_istore (pc := 2077) (i := 5) (lv' := [(0, .ref (ab_SB + 5000)), (1, .ref 0), (2, .ref 206), (3, .ref 219), (4, .int (nI i)), (5, .int k0)]) (by decide +kernel) (by decide) rfl rfl ?_
  refine al_aload_n (pc := 2079) (n := 2) (i := 2) (j := 2) (by decide +kernel) rfl rfl ?_
  refine al_aload_n (pc := 2080) (n := 0) (i := 0) (j := 0) (by decide +kernel) rfl rfl ?_
  refine al_iload (pc := 2081) (i := 4) (j := 4) (by decide +kernel) rfl ?_
  refine al_iconst (pc := 2083) (n := 1) (v := nI 1) (by decide +kernel) rfl ?_
  refine al_iadd (pc := 2084) (by decide +kernel) ?_
  refine al_sld (pc := 2085) (sc_in hi hL (j := 1) (by decide)) (by decide +kernel) ?_
  refine al_aload_n (pc := 2086) (n := 0) (i := 0) (j := 0) (by decide +kernel) rfl rfl ?_
  refine al_iload (pc := 2087) (i := 4) (j := 4) (by decide +kernel) rfl ?_
  refine al_iconst (pc := 2089) (n := 2) (v := nI 2) (by decide +kernel) rfl ?_
  refine al_iadd (pc := 2090) (by decide +kernel) ?_
  refine al_sld (pc := 2091) (sc_in hi hL (j := 2) (by decide)) (by decide +kernel) ?_
  refine al_ref (M' := mX12_chain) (As := [.int (xs ((nI i) + (nI 1)).toNatClampNeg), .int (xs ((nI i) + (nI 2)).toNatClampNeg)]) (a := 206) (ci := 12) (st := []) (v := some (.int v)) (h' := gH g2) (pc := 2092) (index := 262) rfl rfl hc hs (io_206 _) rfl iX12_chain kw_553639b388 kw_dbcdb8fc1f kw_5a38be9191 rfl rfl (Nat.le_of_ble_eq_true rfl) (by decide +kernel) (okX12_chain hl eY) ?_
  refine al_istore (pc := 2095) (i := 6) (lv' := [(0, .ref (ab_SB + 5000)), (1, .ref 0), (2, .ref 206), (3, .ref 219), (4, .int (nI i)), (5, .int k0), (6, .int v)]) (by decide +kernel) (by decide) rfl rfl ?_
  refine al_aload_n (pc := 2097) (n := 2) (i := 2) (j := 2) (by decide +kernel) rfl rfl ?_
  refine al_ref (M' := mX12_thrown) (As := []) (a := 206) (ci := 12) (st := []) (v := some (.int (gF g2 206 0))) (h' := gH g2) (pc := 2098) (index := 137) rfl rfl hc hs (io_206 g2) rfl iX12_thrown kw_3a20f3984e kw_5ecf1a43fc kw_b4788dccf4 rfl rfl (Nat.le_of_ble_eq_true rfl) (by decide +kernel) (okX12_thrown hl (f_thrown g2)) ?_
  refine al_iload (pc := 2101) (i := 5) (j := 5) (by decide +kernel) rfl ?_
  refine al_icmp_eq (pc := 2103) (off := 5) (tgt := 2108) (by decide +kernel) (by decide) (fun _ => ?_) (fun gz => absurd eT gz)
  refine al_iload (pc := 2108) (i := 5) (j := 5) (by decide +kernel) rfl ?_
  refine al_if_ne (pc := 2110) (off := 15) (tgt := 2125) (by decide +kernel) (by decide) (fun g0 => ?_) (fun g0 => ?_)
  · refine al_aload_n (pc := 2113) (n := 3) (i := 3) (j := 3) (by decide +kernel) rfl rfl ?_
    refine al_iconst (pc := 2114) (n := 0) (v := nI 0) (by decide +kernel) rfl ?_
    refine al_lald (pc := 2115) (la_219 g2 (by decide)) (by decide +kernel) ?_
    refine al_iload (pc := 2116) (i := 6) (j := 6) (by decide +kernel) rfl ?_
    refine al_i2l (pc := 2118) (by decide +kernel) ?_
    refine al_lcmp (pc := 2119) (by decide +kernel) ?_
    refine al_if_eq (pc := 2120) (off := 5) (tgt := 2125) (by decide +kernel) (by decide) (fun _ => ?_) (fun gz => absurd (by rw [hO g0]; exact lg_cmp_self _) gz)
    refine al_goto (pc := 2125) (off := 450) (tgt := 2575) (by decide +kernel) (by decide) ?_
    refine al_few [0, 1, 2, 3, 4] (lv' := [(0, .ref (ab_SB + 5000)), (1, .ref 0), (2, .ref 206), (3, .ref 219), (4, .int (nI i))]) rfl ?_
    exact k _ _ hN2 R2
  · refine al_goto (pc := 2125) (off := 450) (tgt := 2575) (by decide +kernel) (by decide) ?_
    refine al_few [0, 1, 2, 3, 4] (lv' := [(0, .ref (ab_SB + 5000)), (1, .ref 0), (2, .ref 206), (3, .ref 219), (4, .int (nI i))]) rfl ?_
    exact k _ _ hN2 R2
