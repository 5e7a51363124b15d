/-! ===== the law's cases, 1 (by program, gen_lawc.py) ===== -/
set_option maxRecDepth 100000 in
set_option maxHeartbeats 4000000 in
theorem lc_13 {l : Launch} (hl : l.stackTraces = false) {L : Nat} {xs : Nat → Int32} {N : Nat} {g : gG} (R : RE N g) (hN : N < 1000) {i : Nat} (hi : i + 6 ≤ L) (hL : L ≤ 3072) {kc ks : Nat} (hc : kc + 5 ≤ 601024) (hs : ks + 427 ≤ 7293034) (k : ∀ N' g', N' ≤ N + 1 → RE N' g' → al_S l mlaw L xs (kc + 5) (ks + 427) 2575 [(0, .ref (ab_SB + 5000)), (1, .ref 0), (2, .ref 206), (3, .ref 219), (4, .int (nI i))] [] (gH g')) : al_S l mlaw L xs kc ks 971 [(0, .ref (ab_SB + 5000)), (1, .ref 0), (2, .ref 206), (3, .ref 219), (4, .int (nI i))] [] (gH g) := by
  have hF : 11000 < Fu := by decide
  refine al_aload_n (pc := 971) (n := 1) (i := 1) (j := 1) (by decide +kernel) rfl rfl ?_
  refine al_aload_n (pc := 972) (n := 0) (i := 0) (j := 0) (by decide +kernel) rfl rfl ?_
  refine al_iload (pc := 973) (i := 4) (j := 4) (by decide +kernel) rfl ?_
  refine al_iconst (pc := 975) (n := 1) (v := nI 1) (by decide +kernel) rfl ?_
  refine al_iadd (pc := 976) (by decide +kernel) ?_
  refine al_sld (pc := 977) (sc_in hi hL (j := 1) (by decide)) (by decide +kernel) ?_
  refine al_aload_n (pc := 978) (n := 0) (i := 0) (j := 0) (by decide +kernel) rfl rfl ?_
  refine al_iload (pc := 979) (i := 4) (j := 4) (by decide +kernel) rfl ?_
  refine al_iconst (pc := 981) (n := 2) (v := nI 2) (by decide +kernel) rfl ?_
  refine al_iadd (pc := 982) (by decide +kernel) ?_
  refine al_sld (pc := 983) (sc_in hi hL (j := 2) (by decide)) (by decide +kernel) ?_
  refine al_aload_n (pc := 984) (n := 3) (i := 3) (j := 3) (by decide +kernel) rfl rfl ?_
  have hN2 : N ≤ N + 1 := Nat.le_succ _
  obtain ⟨k0, g1, v, g2, eX, eY, eT, eO, R2⟩ : Cw N (fun v : Int32 => v.toInt64) (fL_steal 0 ((xs ((nI i) + (nI 1)).toNatClampNeg)) ((xs ((nI i) + (nI 2)).toNatClampNeg)) 219 (gH g)) (fun h => fX12_steal Fu 206 ((xs ((nI i) + (nI 1)).toNatClampNeg)) ((xs ((nI i) + (nI 2)).toNatClampNeg)) h) := (by unfold fL_steal; rw [ab_ck_pos (io_0 g)]; exact Cw_a (w := (fun h v => ab_bd (ab_lw h 219 (nI 0) v.toInt64) fun h1 => some (nI 0, h1))) (fun φ h => pf_X12_steal φ Fu 206 ((xs ((nI i) + (nI 1)).toNatClampNeg)) ((xs ((nI i) + (nI 2)).toNatClampNeg)) h) w_out (by decide) (ca_steal R ((xs ((nI i) + (nI 1)).toNatClampNeg)) ((xs ((nI i) + (nI 2)).toNatClampNeg)) (F := Fu) hF))
  have hO : k0 = 0 → gL g2 219 0 = v.toInt64 := eO
  refine al_wrap (M' := mL_steal) (hh := hL_steal) (As := [.ref 0, .int (xs ((nI i) + (nI 1)).toNatClampNeg), .int (xs ((nI i) + (nI 2)).toNatClampNeg), .ref 219]) (st := []) (v := some (.int k0)) (h' := gH g1) (n := 4) (pc := 985) (index := 173) (Nat.le_of_ble_eq_true rfl) (Nat.le_of_ble_eq_true rfl) hc hs ⟨cwL_steal, kw_e382c795c0, by decide +kernel⟩ kw_efd036df1e kw_52f1341922 rfl rfl (Nat.le_of_ble_eq_true rfl) (by decide +kernel) (okL_steal hl eX) ?_
  refine al_istore (pc := 988) (i := 5) (lv' := [(0, .ref (ab_SB + 5000)), (1, .ref 0), (2, .ref 206), (3, .ref 219), (4, .int (nI i)), (5, .int k0)]) (by decide +kernel) (by decide) rfl rfl ?_
  refine al_aload_n (pc := 990) (n := 2) (i := 2) (j := 2) (by decide +kernel) rfl rfl ?_
  refine al_aload_n (pc := 991) (n := 0) (i := 0) (j := 0) (by decide +kernel) rfl rfl ?_
  refine al_iload (pc := 992) (i := 4) (j := 4) (by decide +kernel) rfl ?_
  refine al_iconst (pc := 994) (n := 1) (v := nI 1) (by decide +kernel) rfl ?_
  refine al_iadd (pc := 995) (by decide +kernel) ?_
  refine al_sld (pc := 996) (sc_in hi hL (j := 1) (by decide)) (by decide +kernel) ?_
  refine al_aload_n (pc := 997) (n := 0) (i := 0) (j := 0) (by decide +kernel) rfl rfl ?_
  refine al_iload (pc := 998) (i := 4) (j := 4) (by decide +kernel) rfl ?_
  refine al_iconst (pc := 1000) (n := 2) (v := nI 2) (by decide +kernel) rfl ?_
  refine al_iadd (pc := 1001) (by decide +kernel) ?_
  refine al_sld (pc := 1002) (sc_in hi hL (j := 2) (by decide)) (by decide +kernel) ?_
  refine al_ref (M' := mX12_steal) (As := [.int (xs ((nI i) + (nI 1)).toNatClampNeg), .int (xs ((nI i) + (nI 2)).toNatClampNeg)]) (a := 206) (ci := 12) (st := []) (v := some (.int v)) (h' := gH g2) (pc := 1003) (index := 175) rfl rfl hc hs (io_206 _) rfl iX12_steal kw_88cb7723f3 kw_f3bb474dd5 kw_64ccb32e86 rfl rfl (Nat.le_of_ble_eq_true rfl) (by decide +kernel) (okX12_steal hl eY) ?_
  refine al_istore (pc := 1006) (i := 6) (lv' := [(0, .ref (ab_SB + 5000)), (1, .ref 0), (2, .ref 206), (3, .ref 219), (4, .int (nI i)), (5, .int k0), (6, .int v)]) (by decide +kernel) (by decide) rfl rfl ?_
  refine al_aload_n (pc := 1008) (n := 2) (i := 2) (j := 2) (by decide +kernel) rfl rfl ?_
  refine al_ref (M' := mX12_thrown) (As := []) (a := 206) (ci := 12) (st := []) (v := some (.int (gF g2 206 0))) (h' := gH g2) (pc := 1009) (index := 137) rfl rfl hc hs (io_206 g2) rfl iX12_thrown kw_3a20f3984e kw_5ecf1a43fc kw_b4788dccf4 rfl rfl (Nat.le_of_ble_eq_true rfl) (by decide +kernel) (okX12_thrown hl (f_thrown g2)) ?_
  refine al_iload (pc := 1012) (i := 5) (j := 5) (by decide +kernel) rfl ?_
  refine al_icmp_eq (pc := 1014) (off := 5) (tgt := 1019) (by decide +kernel) (by decide) (fun _ => ?_) (fun gz => absurd eT gz)
  refine al_iload (pc := 1019) (i := 5) (j := 5) (by decide +kernel) rfl ?_
  refine al_if_ne (pc := 1021) (off := 15) (tgt := 1036) (by decide +kernel) (by decide) (fun g0 => ?_) (fun g0 => ?_)
  · refine al_aload_n (pc := 1024) (n := 3) (i := 3) (j := 3) (by decide +kernel) rfl rfl ?_
    refine al_iconst (pc := 1025) (n := 0) (v := nI 0) (by decide +kernel) rfl ?_
    refine al_lald (pc := 1026) (la_219 g2 (by decide)) (by decide +kernel) ?_
    refine al_iload (pc := 1027) (i := 6) (j := 6) (by decide +kernel) rfl ?_
    refine al_i2l (pc := 1029) (by decide +kernel) ?_
    refine al_lcmp (pc := 1030) (by decide +kernel) ?_
    refine al_if_eq (pc := 1031) (off := 5) (tgt := 1036) (by decide +kernel) (by decide) (fun _ => ?_) (fun gz => absurd (by rw [hO g0]; exact lg_cmp_self _) gz)
    refine al_goto (pc := 1036) (off := 1539) (tgt := 2575) (by decide +kernel) (by decide) ?_
    refine al_few [0, 1, 2, 3, 4] (lv' := [(0, .ref (ab_SB + 5000)), (1, .ref 0), (2, .ref 206), (3, .ref 219), (4, .int (nI i))]) rfl ?_
    exact k _ _ hN2 R2
  · refine al_goto (pc := 1036) (off := 1539) (tgt := 2575) (by decide +kernel) (by decide) ?_
    refine al_few [0, 1, 2, 3, 4] (lv' := [(0, .ref (ab_SB + 5000)), (1, .ref 0), (2, .ref 206), (3, .ref 219), (4, .int (nI i))]) rfl ?_
    exact k _ _ hN2 R2
set_option maxRecDepth 100000 in
set_option maxHeartbeats 4000000 in
theorem lc_14 {l : Launch} (hl : l.stackTraces = false) {L : Nat} {xs : Nat → Int32} {N : Nat} {g : gG} (R : RE N g) (hN : N < 1000) {i : Nat} (hi : i + 6 ≤ L) (hL : L ≤ 3072) {kc ks : Nat} (hc : kc + 5 ≤ 601024) (hs : ks + 427 ≤ 7293034) (k : ∀ N' g', N' ≤ N + 1 → RE N' g' → al_S l mlaw L xs (kc + 5) (ks + 427) 2575 [(0, .ref (ab_SB + 5000)), (1, .ref 0), (2, .ref 206), (3, .ref 219), (4, .int (nI i))] [] (gH g')) : al_S l mlaw L xs kc ks 1039 [(0, .ref (ab_SB + 5000)), (1, .ref 0), (2, .ref 206), (3, .ref 219), (4, .int (nI i))] [] (gH g) := by
  have hF : 11000 < Fu := by decide
  refine al_aload_n (pc := 1039) (n := 1) (i := 1) (j := 1) (by decide +kernel) rfl rfl ?_
  refine al_aload_n (pc := 1040) (n := 0) (i := 0) (j := 0) (by decide +kernel) rfl rfl ?_
  refine al_iload (pc := 1041) (i := 4) (j := 4) (by decide +kernel) rfl ?_
  refine al_iconst (pc := 1043) (n := 1) (v := nI 1) (by decide +kernel) rfl ?_
  refine al_iadd (pc := 1044) (by decide +kernel) ?_
  refine al_sld (pc := 1045) (sc_in hi hL (j := 1) (by decide)) (by decide +kernel) ?_
  refine al_aload_n (pc := 1046) (n := 0) (i := 0) (j := 0) (by decide +kernel) rfl rfl ?_
  refine al_iload (pc := 1047) (i := 4) (j := 4) (by decide +kernel) rfl ?_
  refine al_iconst (pc := 1049) (n := 2) (v := nI 2) (by decide +kernel) rfl ?_
  refine al_iadd (pc := 1050) (by decide +kernel) ?_
  refine al_sld (pc := 1051) (sc_in hi hL (j := 2) (by decide)) (by decide +kernel) ?_
  refine al_aload_n (pc := 1052) (n := 3) (i := 3) (j := 3) (by decide +kernel) rfl rfl ?_
  have hN2 : N ≤ N + 1 := Nat.le_succ _
  obtain ⟨k0, g1, v, g2, eX, eY, eT, eO, R2⟩ : Cw N (fun v : Int32 => v.toInt64) (fL_change 0 ((xs ((nI i) + (nI 1)).toNatClampNeg)) ((xs ((nI i) + (nI 2)).toNatClampNeg)) 219 (gH g)) (fun h => fX12_change Fu 206 ((xs ((nI i) + (nI 1)).toNatClampNeg)) ((xs ((nI i) + (nI 2)).toNatClampNeg)) h) := (by unfold fL_change; rw [ab_ck_pos (io_0 g)]; exact Cw_a (w := (fun h v => ab_bd (ab_lw h 219 (nI 0) v.toInt64) fun h1 => some (nI 0, h1))) (fun φ h => pf_X12_change φ Fu 206 ((xs ((nI i) + (nI 1)).toNatClampNeg)) ((xs ((nI i) + (nI 2)).toNatClampNeg)) h) w_out (by decide) (ca_change R ((xs ((nI i) + (nI 1)).toNatClampNeg)) ((xs ((nI i) + (nI 2)).toNatClampNeg)) (F := Fu) hF))
  have hO : k0 = 0 → gL g2 219 0 = v.toInt64 := eO
  refine al_wrap (M' := mL_change) (hh := hL_change) (As := [.ref 0, .int (xs ((nI i) + (nI 1)).toNatClampNeg), .int (xs ((nI i) + (nI 2)).toNatClampNeg), .ref 219]) (st := []) (v := some (.int k0)) (h' := gH g1) (n := 4) (pc := 1053) (index := 176) (Nat.le_of_ble_eq_true rfl) (Nat.le_of_ble_eq_true rfl) hc hs ⟨cwL_change, kw_e382c795c0, by decide +kernel⟩ kw_6d893e9320 kw_581339e9dc rfl rfl (Nat.le_of_ble_eq_true rfl) (by decide +kernel) (okL_change hl eX) ?_
  refine al_istore (pc := 1056) (i := 5) (lv' := [(0, .ref (ab_SB + 5000)), (1, .ref 0), (2, .ref 206), (3, .ref 219), (4, .int (nI i)), (5, .int k0)]) (by decide +kernel) (by decide) rfl rfl ?_
  refine al_aload_n (pc := 1058) (n := 2) (i := 2) (j := 2) (by decide +kernel) rfl rfl ?_
  refine al_aload_n (pc := 1059) (n := 0) (i := 0) (j := 0) (by decide +kernel) rfl rfl ?_
  refine al_iload (pc := 1060) (i := 4) (j := 4) (by decide +kernel) rfl ?_
  refine al_iconst (pc := 1062) (n := 1) (v := nI 1) (by decide +kernel) rfl ?_
  refine al_iadd (pc := 1063) (by decide +kernel) ?_
  refine al_sld (pc := 1064) (sc_in hi hL (j := 1) (by decide)) (by decide +kernel) ?_
  refine al_aload_n (pc := 1065) (n := 0) (i := 0) (j := 0) (by decide +kernel) rfl rfl ?_
  refine al_iload (pc := 1066) (i := 4) (j := 4) (by decide +kernel) rfl ?_
  refine al_iconst (pc := 1068) (n := 2) (v := nI 2) (by decide +kernel) rfl ?_
  refine al_iadd (pc := 1069) (by decide +kernel) ?_
  refine al_sld (pc := 1070) (sc_in hi hL (j := 2) (by decide)) (by decide +kernel) ?_
  refine al_ref (M' := mX12_change) (As := [.int (xs ((nI i) + (nI 1)).toNatClampNeg), .int (xs ((nI i) + (nI 2)).toNatClampNeg)]) (a := 206) (ci := 12) (st := []) (v := some (.int v)) (h' := gH g2) (pc := 1071) (index := 178) rfl rfl hc hs (io_206 _) rfl iX12_change kw_0a416e877d kw_fcbb41727c kw_0387afb894 rfl rfl (Nat.le_of_ble_eq_true rfl) (by decide +kernel) (okX12_change hl eY) ?_
  refine al_istore (pc := 1074) (i := 6) (lv' := [(0, .ref (ab_SB + 5000)), (1, .ref 0), (2, .ref 206), (3, .ref 219), (4, .int (nI i)), (5, .int k0), (6, .int v)]) (by decide +kernel) (by decide) rfl rfl ?_
  refine al_aload_n (pc := 1076) (n := 2) (i := 2) (j := 2) (by decide +kernel) rfl rfl ?_
  refine al_ref (M' := mX12_thrown) (As := []) (a := 206) (ci := 12) (st := []) (v := some (.int (gF g2 206 0))) (h' := gH g2) (pc := 1077) (index := 137) rfl rfl hc hs (io_206 g2) rfl iX12_thrown kw_3a20f3984e kw_5ecf1a43fc kw_b4788dccf4 rfl rfl (Nat.le_of_ble_eq_true rfl) (by decide +kernel) (okX12_thrown hl (f_thrown g2)) ?_
  refine al_iload (pc := 1080) (i := 5) (j := 5) (by decide +kernel) rfl ?_
  refine al_icmp_eq (pc := 1082) (off := 5) (tgt := 1087) (by decide +kernel) (by decide) (fun _ => ?_) (fun gz => absurd eT gz)
  refine al_iload (pc := 1087) (i := 5) (j := 5) (by decide +kernel) rfl ?_
  refine al_if_ne (pc := 1089) (off := 15) (tgt := 1104) (by decide +kernel) (by decide) (fun g0 => ?_) (fun g0 => ?_)
  · refine al_aload_n (pc := 1092) (n := 3) (i := 3) (j := 3) (by decide +kernel) rfl rfl ?_
    refine al_iconst (pc := 1093) (n := 0) (v := nI 0) (by decide +kernel) rfl ?_
    refine al_lald (pc := 1094) (la_219 g2 (by decide)) (by decide +kernel) ?_
    refine al_iload (pc := 1095) (i := 6) (j := 6) (by decide +kernel) rfl ?_
    refine al_i2l (pc := 1097) (by decide +kernel) ?_
    refine al_lcmp (pc := 1098) (by decide +kernel) ?_
    refine al_if_eq (pc := 1099) (off := 5) (tgt := 1104) (by decide +kernel) (by decide) (fun _ => ?_) (fun gz => absurd (by rw [hO g0]; exact lg_cmp_self _) gz)
    refine al_goto (pc := 1104) (off := 1471) (tgt := 2575) (by decide +kernel) (by decide) ?_
    refine al_few [0, 1, 2, 3, 4] (lv' := [(0, .ref (ab_SB + 5000)), (1, .ref 0), (2, .ref 206), (3, .ref 219), (4, .int (nI i))]) rfl ?_
    exact k _ _ hN2 R2
  · refine al_goto (pc := 1104) (off := 1471) (tgt := 2575) (by decide +kernel) (by decide) ?_
    refine al_few [0, 1, 2, 3, 4] (lv' := [(0, .ref (ab_SB + 5000)), (1, .ref 0), (2, .ref 206), (3, .ref 219), (4, .int (nI i))]) rfl ?_
    exact k _ _ hN2 R2
set_option maxRecDepth 100000 in
set_option maxHeartbeats 4000000 in
theorem lc_15 {l : Launch} (hl : l.stackTraces = false) {L : Nat} {xs : Nat → Int32} {N : Nat} {g : gG} (R : RE N g) (hN : N < 1000) {i : Nat} (hi : i + 6 ≤ L) (hL : L ≤ 3072) {kc ks : Nat} (hc : kc + 5 ≤ 601024) (hs : ks + 427 ≤ 7293034) (k : ∀ N' g', N' ≤ N + 1 → RE N' g' → al_S l mlaw L xs (kc + 5) (ks + 427) 2575 [(0, .ref (ab_SB + 5000)), (1, .ref 0), (2, .ref 206), (3, .ref 219), (4, .int (nI i))] [] (gH g')) : al_S l mlaw L xs kc ks 1107 [(0, .ref (ab_SB + 5000)), (1, .ref 0), (2, .ref 206), (3, .ref 219), (4, .int (nI i))] [] (gH g) := by
  have hF : 11000 < Fu := by decide
  refine al_aload_n (pc := 1107) (n := 1) (i := 1) (j := 1) (by decide +kernel) rfl rfl ?_
  refine al_aload_n (pc := 1108) (n := 0) (i := 0) (j := 0) (by decide +kernel) rfl rfl ?_
  refine al_iload (pc := 1109) (i := 4) (j := 4) (by decide +kernel) rfl ?_
  refine al_iconst (pc := 1111) (n := 1) (v := nI 1) (by decide +kernel) rfl ?_
  refine al_iadd (pc := 1112) (by decide +kernel) ?_
  refine al_sld (pc := 1113) (sc_in hi hL (j := 1) (by decide)) (by decide +kernel) ?_
  refine al_aload_n (pc := 1114) (n := 0) (i := 0) (j := 0) (by decide +kernel) rfl rfl ?_
  refine al_iload (pc := 1115) (i := 4) (j := 4) (by decide +kernel) rfl ?_
  refine al_iconst (pc := 1117) (n := 2) (v := nI 2) (by decide +kernel) rfl ?_
  refine al_iadd (pc := 1118) (by decide +kernel) ?_
  refine al_sld (pc := 1119) (sc_in hi hL (j := 2) (by decide)) (by decide +kernel) ?_
  refine al_aload_n (pc := 1120) (n := 3) (i := 3) (j := 3) (by decide +kernel) rfl rfl ?_
  have hN2 : N ≤ N + 1 := Nat.le_succ _
  obtain ⟨k0, g1, v, g2, eX, eY, eT, eO, R2⟩ : Cw N (fun v : Int32 => v.toInt64) (fL_shave 0 ((xs ((nI i) + (nI 1)).toNatClampNeg)) ((xs ((nI i) + (nI 2)).toNatClampNeg)) 219 (gH g)) (fun h => fX12_shave Fu 206 ((xs ((nI i) + (nI 1)).toNatClampNeg)) ((xs ((nI i) + (nI 2)).toNatClampNeg)) h) := (by unfold fL_shave; rw [ab_ck_pos (io_0 g)]; exact Cw_a (w := (fun h v => ab_bd (ab_lw h 219 (nI 0) v.toInt64) fun h1 => some (nI 0, h1))) (fun φ h => pf_X12_shave φ Fu 206 ((xs ((nI i) + (nI 1)).toNatClampNeg)) ((xs ((nI i) + (nI 2)).toNatClampNeg)) h) w_out (by decide) (ca_shave R ((xs ((nI i) + (nI 1)).toNatClampNeg)) ((xs ((nI i) + (nI 2)).toNatClampNeg)) (F := Fu) hF))
  have hO : k0 = 0 → gL g2 219 0 = v.toInt64 := eO
  refine al_wrap (M' := mL_shave) (hh := hL_shave) (As := [.ref 0, .int (xs ((nI i) + (nI 1)).toNatClampNeg), .int (xs ((nI i) + (nI 2)).toNatClampNeg), .ref 219]) (st := []) (v := some (.int k0)) (h' := gH g1) (n := 4) (pc := 1121) (index := 179) (Nat.le_of_ble_eq_true rfl) (Nat.le_of_ble_eq_true rfl) hc hs ⟨cwL_shave, kw_e382c795c0, by decide +kernel⟩ kw_849481ad25 kw_1a036db800 rfl rfl (Nat.le_of_ble_eq_true rfl) (by decide +kernel) (okL_shave hl eX) ?_
  refine al_istore (pc := 1124) (i := 5) (lv' := [(0, .ref (ab_SB + 5000)), (1, .ref 0), (2, .ref 206), (3, .ref 219), (4, .int (nI i)), (5, .int k0)]) (by decide +kernel) (by decide) rfl rfl ?_
  refine al_aload_n (pc := 1126) (n := 2) (i := 2) (j := 2) (by decide +kernel) rfl rfl ?_
  refine al_aload_n (pc := 1127) (n := 0) (i := 0) (j := 0) (by decide +kernel) rfl rfl ?_
  refine al_iload (pc := 1128) (i := 4) (j := 4) (by decide +kernel) rfl ?_
  refine al_iconst (pc := 1130) (n := 1) (v := nI 1) (by decide +kernel) rfl ?_
  refine al_iadd (pc := 1131) (by decide +kernel) ?_
  refine al_sld (pc := 1132) (sc_in hi hL (j := 1) (by decide)) (by decide +kernel) ?_
  refine al_aload_n (pc := 1133) (n := 0) (i := 0) (j := 0) (by decide +kernel) rfl rfl ?_
  refine al_iload (pc := 1134) (i := 4) (j := 4) (by decide +kernel) rfl ?_
  refine al_iconst (pc := 1136) (n := 2) (v := nI 2) (by decide +kernel) rfl ?_
  refine al_iadd (pc := 1137) (by decide +kernel) ?_
  refine al_sld (pc := 1138) (sc_in hi hL (j := 2) (by decide)) (by decide +kernel) ?_
  refine al_ref (M' := mX12_shave) (As := [.int (xs ((nI i) + (nI 1)).toNatClampNeg), .int (xs ((nI i) + (nI 2)).toNatClampNeg)]) (a := 206) (ci := 12) (st := []) (v := some (.int v)) (h' := gH g2) (pc := 1139) (index := 181) rfl rfl hc hs (io_206 _) rfl iX12_shave kw_c8333852a5 kw_9cb7244901 kw_20e84fb347 rfl rfl (Nat.le_of_ble_eq_true rfl) (by decide +kernel) (okX12_shave hl eY) ?_
  refine al_istore (pc := 1142) (i := 6) (lv' := [(0, .ref (ab_SB + 5000)), (1, .ref 0), (2, .ref 206), (3, .ref 219), (4, .int (nI i)), (5, .int k0), (6, .int v)]) (by decide +kernel) (by decide) rfl rfl ?_
  refine al_aload_n (pc := 1144) (n := 2) (i := 2) (j := 2) (by decide +kernel) rfl rfl ?_
  refine al_ref (M' := mX12_thrown) (As := []) (a := 206) (ci := 12) (st := []) (v := some (.int (gF g2 206 0))) (h' := gH g2) (pc := 1145) (index := 137) rfl rfl hc hs (io_206 g2) rfl iX12_thrown kw_3a20f3984e kw_5ecf1a43fc kw_b4788dccf4 rfl rfl (Nat.le_of_ble_eq_true rfl) (by decide +kernel) (okX12_thrown hl (f_thrown g2)) ?_
  refine al_iload (pc := 1148) (i := 5) (j := 5) (by decide +kernel) rfl ?_
  refine al_icmp_eq (pc := 1150) (off := 5) (tgt := 1155) (by decide +kernel) (by decide) (fun _ => ?_) (fun gz => absurd eT gz)
  refine al_iload (pc := 1155) (i := 5) (j := 5) (by decide +kernel) rfl ?_
  refine al_if_ne (pc := 1157) (off := 15) (tgt := 1172) (by decide +kernel) (by decide) (fun g0 => ?_) (fun g0 => ?_)
  · refine al_aload_n (pc := 1160) (n := 3) (i := 3) (j := 3) (by decide +kernel) rfl rfl ?_
    refine al_iconst (pc := 1161) (n := 0) (v := nI 0) (by decide +kernel) rfl ?_
    refine al_lald (pc := 1162) (la_219 g2 (by decide)) (by decide +kernel) ?_
    refine al_iload (pc := 1163) (i := 6) (j := 6) (by decide +kernel) rfl ?_
    refine al_i2l (pc := 1165) (by decide +kernel) ?_
    refine al_lcmp (pc := 1166) (by decide +kernel) ?_
    refine al_if_eq (pc := 1167) (off := 5) (tgt := 1172) (by decide +kernel) (by decide) (fun _ => ?_) (fun gz => absurd (by rw [hO g0]; exact lg_cmp_self _) gz)
    refine al_goto (pc := 1172) (off := 1403) (tgt := 2575) (by decide +kernel) (by decide) ?_
    refine al_few [0, 1, 2, 3, 4] (lv' := [(0, .ref (ab_SB + 5000)), (1, .ref 0), (2, .ref 206), (3, .ref 219), (4, .int (nI i))]) rfl ?_
    exact k _ _ hN2 R2
  · refine al_goto (pc := 1172) (off := 1403) (tgt := 2575) (by decide +kernel) (by decide) ?_
    refine al_few [0, 1, 2, 3, 4] (lv' := [(0, .ref (ab_SB + 5000)), (1, .ref 0), (2, .ref 206), (3, .ref 219), (4, .int (nI i))]) rfl ?_
    exact k _ _ hN2 R2
set_option maxRecDepth 100000 in
set_option maxHeartbeats 4000000 in
theorem lc_16 {l : Launch} (hl : l.stackTraces = false) {L : Nat} {xs : Nat → Int32} {N : Nat} {g : gG} (R : RE N g) (hN : N < 1000) {i : Nat} (hi : i + 6 ≤ L) (hL : L ≤ 3072) {kc ks : Nat} (hc : kc + 5 ≤ 601024) (hs : ks + 427 ≤ 7293034) (k : ∀ N' g', N' ≤ N + 1 → RE N' g' → al_S l mlaw L xs (kc + 5) (ks + 427) 2575 [(0, .ref (ab_SB + 5000)), (1, .ref 0), (2, .ref 206), (3, .ref 219), (4, .int (nI i))] [] (gH g')) : al_S l mlaw L xs kc ks 1175 [(0, .ref (ab_SB + 5000)), (1, .ref 0), (2, .ref 206), (3, .ref 219), (4, .int (nI i))] [] (gH g) := by
  have hF : 11000 < Fu := by decide
  refine al_aload_n (pc := 1175) (n := 1) (i := 1) (j := 1) (by decide +kernel) rfl rfl ?_
  refine al_aload_n (pc := 1176) (n := 0) (i := 0) (j := 0) (by decide +kernel) rfl rfl ?_
  refine al_iload (pc := 1177) (i := 4) (j := 4) (by decide +kernel) rfl ?_
  refine al_iconst (pc := 1179) (n := 1) (v := nI 1) (by decide +kernel) rfl ?_
  refine al_iadd (pc := 1180) (by decide +kernel) ?_
  refine al_sld (pc := 1181) (sc_in hi hL (j := 1) (by decide)) (by decide +kernel) ?_
  refine al_aload_n (pc := 1182) (n := 0) (i := 0) (j := 0) (by decide +kernel) rfl rfl ?_
  refine al_iload (pc := 1183) (i := 4) (j := 4) (by decide +kernel) rfl ?_
  refine al_iconst (pc := 1185) (n := 2) (v := nI 2) (by decide +kernel) rfl ?_
  refine al_iadd (pc := 1186) (by decide +kernel) ?_
  refine al_sld (pc := 1187) (sc_in hi hL (j := 2) (by decide)) (by decide +kernel) ?_
  refine al_aload_n (pc := 1188) (n := 0) (i := 0) (j := 0) (by decide +kernel) rfl rfl ?_
  refine al_iload (pc := 1189) (i := 4) (j := 4) (by decide +kernel) rfl ?_
  refine al_iconst (pc := 1191) (n := 3) (v := nI 3) (by decide +kernel) rfl ?_
  refine al_iadd (pc := 1192) (by decide +kernel) ?_
  refine al_sld (pc := 1193) (sc_in hi hL (j := 3) (by decide)) (by decide +kernel) ?_
  refine al_aload_n (pc := 1194) (n := 3) (i := 3) (j := 3) (by decide +kernel) rfl rfl ?_
  have hN2 : N ≤ N + 1 := Nat.le_succ _
  obtain ⟨k0, g1, v, g2, eX, eY, eT, eO, R2⟩ : Cw N (fun v : Int32 => v.toInt64) (fL_graft 0 ((xs ((nI i) + (nI 1)).toNatClampNeg)) ((xs ((nI i) + (nI 2)).toNatClampNeg)) ((xs ((nI i) + (nI 3)).toNatClampNeg)) 219 (gH g)) (fun h => fX12_graft Fu 206 ((xs ((nI i) + (nI 1)).toNatClampNeg)) ((xs ((nI i) + (nI 2)).toNatClampNeg)) ((xs ((nI i) + (nI 3)).toNatClampNeg)) h) := (by unfold fL_graft; rw [ab_ck_pos (io_0 g)]; exact Cw_a (w := (fun h v => ab_bd (ab_lw h 219 (nI 0) v.toInt64) fun h1 => some (nI 0, h1))) (fun φ h => pf_X12_graft φ Fu 206 ((xs ((nI i) + (nI 1)).toNatClampNeg)) ((xs ((nI i) + (nI 2)).toNatClampNeg)) ((xs ((nI i) + (nI 3)).toNatClampNeg)) h) w_out (by decide) (ca_graft R ((xs ((nI i) + (nI 1)).toNatClampNeg)) ((xs ((nI i) + (nI 2)).toNatClampNeg)) ((xs ((nI i) + (nI 3)).toNatClampNeg)) (F := Fu) hF))
  have hO : k0 = 0 → gL g2 219 0 = v.toInt64 := eO
  refine al_wrap (M' := mL_graft) (hh := hL_graft) (As := [.ref 0, .int (xs ((nI i) + (nI 1)).toNatClampNeg), .int (xs ((nI i) + (nI 2)).toNatClampNeg), .int (xs ((nI i) + (nI 3)).toNatClampNeg), .ref 219]) (st := []) (v := some (.int k0)) (h' := gH g1) (n := 5) (pc := 1195) (index := 182) (Nat.le_of_ble_eq_true rfl) (Nat.le_of_ble_eq_true rfl) hc hs ⟨cwL_graft, kw_e382c795c0, by decide +kernel⟩ kw_caa433c019 kw_c54ea2fea4 rfl rfl (Nat.le_of_ble_eq_true rfl) (by decide +kernel) (okL_graft hl eX) ?_
  refine al_istore (pc := 1198) (i := 5) (lv' := [(0, .ref (ab_SB + 5000)), (1, .ref 0), (2, .ref 206), (3, .ref 219), (4, .int (nI i)), (5, .int k0)]) (by decide +kernel) (by decide) rfl rfl ?_
  refine al_aload_n (pc := 1200) (n := 2) (i := 2) (j := 2) (by decide +kernel) rfl rfl ?_
  refine al_aload_n (pc := 1201) (n := 0) (i := 0) (j := 0) (by decide +kernel) rfl rfl ?_
  refine al_iload (pc := 1202) (i := 4) (j := 4) (by decide +kernel) rfl ?_
  refine al_iconst (pc := 1204) (n := 1) (v := nI 1) (by decide +kernel) rfl ?_
  refine al_iadd (pc := 1205) (by decide +kernel) ?_
  refine al_sld (pc := 1206) (sc_in hi hL (j := 1) (by decide)) (by decide +kernel) ?_
  refine al_aload_n (pc := 1207) (n := 0) (i := 0) (j := 0) (by decide +kernel) rfl rfl ?_
  refine al_iload (pc := 1208) (i := 4) (j := 4) (by decide +kernel) rfl ?_
  refine al_iconst (pc := 1210) (n := 2) (v := nI 2) (by decide +kernel) rfl ?_
  refine al_iadd (pc := 1211) (by decide +kernel) ?_
  refine al_sld (pc := 1212) (sc_in hi hL (j := 2) (by decide)) (by decide +kernel) ?_
  refine al_aload_n (pc := 1213) (n := 0) (i := 0) (j := 0) (by decide +kernel) rfl rfl ?_
  refine al_iload (pc := 1214) (i := 4) (j := 4) (by decide +kernel) rfl ?_
  refine al_iconst (pc := 1216) (n := 3) (v := nI 3) (by decide +kernel) rfl ?_
  refine al_iadd (pc := 1217) (by decide +kernel) ?_
  refine al_sld (pc := 1218) (sc_in hi hL (j := 3) (by decide)) (by decide +kernel) ?_
  refine al_ref (M' := mX12_graft) (As := [.int (xs ((nI i) + (nI 1)).toNatClampNeg), .int (xs ((nI i) + (nI 2)).toNatClampNeg), .int (xs ((nI i) + (nI 3)).toNatClampNeg)]) (a := 206) (ci := 12) (st := []) (v := some (.int v)) (h' := gH g2) (pc := 1219) (index := 185) rfl rfl hc hs (io_206 _) rfl iX12_graft kw_918d08d236 kw_517fa3ce04 kw_76a8ef6e47 rfl rfl (Nat.le_of_ble_eq_true rfl) (by decide +kernel) (okX12_graft hl eY) ?_
  refine al_istore (pc := 1222) (i := 6) (lv' := [(0, .ref (ab_SB + 5000)), (1, .ref 0), (2, .ref 206), (3, .ref 219), (4, .int (nI i)), (5, .int k0), (6, .int v)]) (by decide +kernel) (by decide) rfl rfl ?_
  refine al_aload_n (pc := 1224) (n := 2) (i := 2) (j := 2) (by decide +kernel) rfl rfl ?_
  refine al_ref (M' := mX12_thrown) (As := []) (a := 206) (ci := 12) (st := []) (v := some (.int (gF g2 206 0))) (h' := gH g2) (pc := 1225) (index := 137) rfl rfl hc hs (io_206 g2) rfl iX12_thrown kw_3a20f3984e kw_5ecf1a43fc kw_b4788dccf4 rfl rfl (Nat.le_of_ble_eq_true rfl) (by decide +kernel) (okX12_thrown hl (f_thrown g2)) ?_
  refine al_iload (pc := 1228) (i := 5) (j := 5) (by decide +kernel) rfl ?_
  refine al_icmp_eq (pc := 1230) (off := 5) (tgt := 1235) (by decide +kernel) (by decide) (fun _ => ?_) (fun gz => absurd eT gz)
  refine al_iload (pc := 1235) (i := 5) (j := 5) (by decide +kernel) rfl ?_
  refine al_if_ne (pc := 1237) (off := 15) (tgt := 1252) (by decide +kernel) (by decide) (fun g0 => ?_) (fun g0 => ?_)
  · refine al_aload_n (pc := 1240) (n := 3) (i := 3) (j := 3) (by decide +kernel) rfl rfl ?_
    refine al_iconst (pc := 1241) (n := 0) (v := nI 0) (by decide +kernel) rfl ?_
    refine al_lald (pc := 1242) (la_219 g2 (by decide)) (by decide +kernel) ?_
    refine al_iload (pc := 1243) (i := 6) (j := 6) (by decide +kernel) rfl ?_
    refine al_i2l (pc := 1245) (by decide +kernel) ?_
    refine al_lcmp (pc := 1246) (by decide +kernel) ?_
    refine al_if_eq (pc := 1247) (off := 5) (tgt := 1252) (by decide +kernel) (by decide) (fun _ => ?_) (fun gz => absurd (by rw [hO g0]; exact lg_cmp_self _) gz)
    refine al_goto (pc := 1252) (off := 1323) (tgt := 2575) (by decide +kernel) (by decide) ?_
    refine al_few [0, 1, 2, 3, 4] (lv' := [(0, .ref (ab_SB + 5000)), (1, .ref 0), (2, .ref 206), (3, .ref 219), (4, .int (nI i))]) rfl ?_
    exact k _ _ hN2 R2
  · refine al_goto (pc := 1252) (off := 1323) (tgt := 2575) (by decide +kernel) (by decide) ?_
    refine al_few [0, 1, 2, 3, 4] (lv' := [(0, .ref (ab_SB + 5000)), (1, .ref 0), (2, .ref 206), (3, .ref 219), (4, .int (nI i))]) rfl ?_
    exact k _ _ hN2 R2
set_option maxRecDepth 100000 in
set_option maxHeartbeats 4000000 in
theorem lc_17 {l : Launch} (hl : l.stackTraces = false) {L : Nat} {xs : Nat → Int32} {N : Nat} {g : gG} (R : RE N g) (hN : N < 1000) {i : Nat} (hi : i + 6 ≤ L) (hL : L ≤ 3072) {kc ks : Nat} (hc : kc + 5 ≤ 601024) (hs : ks + 427 ≤ 7293034) (k : ∀ N' g', N' ≤ N + 1 → RE N' g' → al_S l mlaw L xs (kc + 5) (ks + 427) 2575 [(0, .ref (ab_SB + 5000)), (1, .ref 0), (2, .ref 206), (3, .ref 219), (4, .int (nI i))] [] (gH g')) : al_S l mlaw L xs kc ks 1255 [(0, .ref (ab_SB + 5000)), (1, .ref 0), (2, .ref 206), (3, .ref 219), (4, .int (nI i))] [] (gH g) := by
  have hF : 11000 < Fu := by decide
  refine al_aload_n (pc := 1255) (n := 1) (i := 1) (j := 1) (by decide +kernel) rfl rfl ?_
  refine al_aload_n (pc := 1256) (n := 0) (i := 0) (j := 0) (by decide +kernel) rfl rfl ?_
  refine al_iload (pc := 1257) (i := 4) (j := 4) (by decide +kernel) rfl ?_
  refine al_iconst (pc := 1259) (n := 1) (v := nI 1) (by decide +kernel) rfl ?_
  refine al_iadd (pc := 1260) (by decide +kernel) ?_
  refine al_sld (pc := 1261) (sc_in hi hL (j := 1) (by decide)) (by decide +kernel) ?_
  refine al_aload_n (pc := 1262) (n := 0) (i := 0) (j := 0) (by decide +kernel) rfl rfl ?_
  refine al_iload (pc := 1263) (i := 4) (j := 4) (by decide +kernel) rfl ?_
  refine al_iconst (pc := 1265) (n := 2) (v := nI 2) (by decide +kernel) rfl ?_
  refine al_iadd (pc := 1266) (by decide +kernel) ?_
  refine al_sld (pc := 1267) (sc_in hi hL (j := 2) (by decide)) (by decide +kernel) ?_
  refine al_aload_n (pc := 1268) (n := 3) (i := 3) (j := 3) (by decide +kernel) rfl rfl ?_
  have hN2 : N ≤ N + 1 := Nat.le_succ _
  obtain ⟨k0, g1, v, g2, eX, eY, eT, eO, R2⟩ : Cw N (fun v : Int32 => v.toInt64) (fL_meet 0 ((xs ((nI i) + (nI 1)).toNatClampNeg)) ((xs ((nI i) + (nI 2)).toNatClampNeg)) 219 (gH g)) (fun h => fX12_meet Fu 206 ((xs ((nI i) + (nI 1)).toNatClampNeg)) ((xs ((nI i) + (nI 2)).toNatClampNeg)) h) := (by unfold fL_meet; rw [ab_ck_pos (io_0 g)]; exact Cw_a (w := (fun h v => ab_bd (ab_lw h 219 (nI 0) v.toInt64) fun h1 => some (nI 0, h1))) (fun φ h => pf_X12_meet φ Fu 206 ((xs ((nI i) + (nI 1)).toNatClampNeg)) ((xs ((nI i) + (nI 2)).toNatClampNeg)) h) w_out (by decide) (ca_meet R ((xs ((nI i) + (nI 1)).toNatClampNeg)) ((xs ((nI i) + (nI 2)).toNatClampNeg)) (F := Fu) hF))
  have hO : k0 = 0 → gL g2 219 0 = v.toInt64 := eO
  refine al_wrap (M' := mL_meet) (hh := hL_meet) (As := [.ref 0, .int (xs ((nI i) + (nI 1)).toNatClampNeg), .int (xs ((nI i) + (nI 2)).toNatClampNeg), .ref 219]) (st := []) (v := some (.int k0)) (h' := gH g1) (n := 4) (pc := 1269) (index := 186) (Nat.le_of_ble_eq_true rfl) (Nat.le_of_ble_eq_true rfl) hc hs ⟨cwL_meet, kw_e382c795c0, by decide +kernel⟩ kw_557ef061f4 kw_4065ac6237 rfl rfl (Nat.le_of_ble_eq_true rfl) (by decide +kernel) (okL_meet hl eX) ?_
  refine al_istore (pc := 1272) (i := 5) (lv' := [(0, .ref (ab_SB + 5000)), (1, .ref 0), (2, .ref 206), (3, .ref 219), (4, .int (nI i)), (5, .int k0)]) (by decide +kernel) (by decide) rfl rfl ?_
  refine al_aload_n (pc := 1274) (n := 2) (i := 2) (j := 2) (by decide +kernel) rfl rfl ?_
  refine al_aload_n (pc := 1275) (n := 0) (i := 0) (j := 0) (by decide +kernel) rfl rfl ?_
  refine al_iload (pc := 1276) (i := 4) (j := 4) (by decide +kernel) rfl ?_
  refine al_iconst (pc := 1278) (n := 1) (v := nI 1) (by decide +kernel) rfl ?_
  refine al_iadd (pc := 1279) (by decide +kernel) ?_
  refine al_sld (pc := 1280) (sc_in hi hL (j := 1) (by decide)) (by decide +kernel) ?_
  refine al_aload_n (pc := 1281) (n := 0) (i := 0) (j := 0) (by decide +kernel) rfl rfl ?_
  refine al_iload (pc := 1282) (i := 4) (j := 4) (by decide +kernel) rfl ?_
  refine al_iconst (pc := 1284) (n := 2) (v := nI 2) (by decide +kernel) rfl ?_
  refine al_iadd (pc := 1285) (by decide +kernel) ?_
  refine al_sld (pc := 1286) (sc_in hi hL (j := 2) (by decide)) (by decide +kernel) ?_
  refine al_ref (M' := mX12_meet) (As := [.int (xs ((nI i) + (nI 1)).toNatClampNeg), .int (xs ((nI i) + (nI 2)).toNatClampNeg)]) (a := 206) (ci := 12) (st := []) (v := some (.int v)) (h' := gH g2) (pc := 1287) (index := 188) rfl rfl hc hs (io_206 _) rfl iX12_meet kw_168c0eaffb kw_7c218c35a5 kw_1e83a77dba rfl rfl (Nat.le_of_ble_eq_true rfl) (by decide +kernel) (okX12_meet hl eY) ?_
  refine al_istore (pc := 1290) (i := 6) (lv' := [(0, .ref (ab_SB + 5000)), (1, .ref 0), (2, .ref 206), (3, .ref 219), (4, .int (nI i)), (5, .int k0), (6, .int v)]) (by decide +kernel) (by decide) rfl rfl ?_
  refine al_aload_n (pc := 1292) (n := 2) (i := 2) (j := 2) (by decide +kernel) rfl rfl ?_
  refine al_ref (M' := mX12_thrown) (As := []) (a := 206) (ci := 12) (st := []) (v := some (.int (gF g2 206 0))) (h' := gH g2) (pc := 1293) (index := 137) rfl rfl hc hs (io_206 g2) rfl iX12_thrown kw_3a20f3984e kw_5ecf1a43fc kw_b4788dccf4 rfl rfl (Nat.le_of_ble_eq_true rfl) (by decide +kernel) (okX12_thrown hl (f_thrown g2)) ?_
  refine al_iload (pc := 1296) (i := 5) (j := 5) (by decide +kernel) rfl ?_
  refine al_icmp_eq (pc := 1298) (off := 5) (tgt := 1303) (by decide +kernel) (by decide) (fun _ => ?_) (fun gz => absurd eT gz)
  refine al_iload (pc := 1303) (i := 5) (j := 5) (by decide +kernel) rfl ?_
  refine al_if_ne (pc := 1305) (off := 15) (tgt := 1320) (by decide +kernel) (by decide) (fun g0 => ?_) (fun g0 => ?_)
  · refine al_aload_n (pc := 1308) (n := 3) (i := 3) (j := 3) (by decide +kernel) rfl rfl ?_
    refine al_iconst (pc := 1309) (n := 0) (v := nI 0) (by decide +kernel) rfl ?_
    refine al_lald (pc := 1310) (la_219 g2 (by decide)) (by decide +kernel) ?_
    refine al_iload (pc := 1311) (i := 6) (j := 6) (by decide +kernel) rfl ?_
    refine al_i2l (pc := 1313) (by decide +kernel) ?_
    refine al_lcmp (pc := 1314) (by decide +kernel) ?_
    refine al_if_eq (pc := 1315) (off := 5) (tgt := 1320) (by decide +kernel) (by decide) (fun _ => ?_) (fun gz => absurd (by rw [hO g0]; exact lg_cmp_self _) gz)
    refine al_goto (pc := 1320) (off := 1255) (tgt := 2575) (by decide +kernel) (by decide) ?_
    refine al_few [0, 1, 2, 3, 4] (lv' := [(0, .ref (ab_SB + 5000)), (1, .ref 0), (2, .ref 206), (3, .ref 219), (4, .int (nI i))]) rfl ?_
    exact k _ _ hN2 R2
  · refine al_goto (pc := 1320) (off := 1255) (tgt := 2575) (by decide +kernel) (by decide) ?_
    refine al_few [0, 1, 2, 3, 4] (lv' := [(0, .ref (ab_SB + 5000)), (1, .ref 0), (2, .ref 206), (3, .ref 219), (4, .int (nI i))]) rfl ?_
    exact k _ _ hN2 R2
set_option maxRecDepth 100000 in
set_option maxHeartbeats 4000000 in
theorem lc_18 {l : Launch} (hl : l.stackTraces = false) {L : Nat} {xs : Nat → Int32} {N : Nat} {g : gG} (R : RE N g) (hN : N < 1000) {i : Nat} (hi : i + 6 ≤ L) (hL : L ≤ 3072) {kc ks : Nat} (hc : kc + 5 ≤ 601024) (hs : ks + 427 ≤ 7293034) (k : ∀ N' g', N' ≤ N + 1 → RE N' g' → al_S l mlaw L xs (kc + 5) (ks + 427) 2575 [(0, .ref (ab_SB + 5000)), (1, .ref 0), (2, .ref 206), (3, .ref 219), (4, .int (nI i))] [] (gH g')) : al_S l mlaw L xs kc ks 1323 [(0, .ref (ab_SB + 5000)), (1, .ref 0), (2, .ref 206), (3, .ref 219), (4, .int (nI i))] [] (gH g) := by
  have hF : 11000 < Fu := by decide
  refine al_aload_n (pc := 1323) (n := 1) (i := 1) (j := 1) (by decide +kernel) rfl rfl ?_
  refine al_aload_n (pc := 1324) (n := 0) (i := 0) (j := 0) (by decide +kernel) rfl rfl ?_
  refine al_iload (pc := 1325) (i := 4) (j := 4) (by decide +kernel) rfl ?_
  refine al_iconst (pc := 1327) (n := 1) (v := nI 1) (by decide +kernel) rfl ?_
  refine al_iadd (pc := 1328) (by decide +kernel) ?_
  refine al_sld (pc := 1329) (sc_in hi hL (j := 1) (by decide)) (by decide +kernel) ?_
  refine al_aload_n (pc := 1330) (n := 3) (i := 3) (j := 3) (by decide +kernel) rfl rfl ?_
  have hN2 : N ≤ N + 1 := Nat.le_succ _
  obtain ⟨k0, g1, v, g2, eX, eY, eT, eO, R2⟩ : Cw N (fun v : Int32 => v.toInt64) (fL_hours Fu 0 ((xs ((nI i) + (nI 1)).toNatClampNeg)) 219 (gH g)) (fun h => fX12_hours Fu 206 ((xs ((nI i) + (nI 1)).toNatClampNeg)) h) := (by unfold fL_hours; rw [ab_ck_pos (io_0 g)]; exact Cw_a (w := (fun h v => ab_bd (ab_lw h 219 (nI 0) v.toInt64) fun h1 => some (nI 0, h1))) (fun φ h => pf_X12_hours φ Fu 206 ((xs ((nI i) + (nI 1)).toNatClampNeg)) h) w_out (by decide) (ca_hours R ((xs ((nI i) + (nI 1)).toNatClampNeg)) (F := Fu) hF))
  have hO : k0 = 0 → gL g2 219 0 = v.toInt64 := eO
  refine al_wrap (M' := mL_hours) (hh := hL_hours) (As := [.ref 0, .int (xs ((nI i) + (nI 1)).toNatClampNeg), .ref 219]) (st := []) (v := some (.int k0)) (h' := gH g1) (n := 3) (pc := 1331) (index := 189) (Nat.le_of_ble_eq_true rfl) (Nat.le_of_ble_eq_true rfl) hc hs ⟨cwL_hours, kw_e382c795c0, by decide +kernel⟩ kw_26f39f445c kw_6bb23c8af4 rfl rfl (Nat.le_of_ble_eq_true rfl) (by decide +kernel) (okL_hours hl eX) ?_
  refine al_istore (pc := 1334) (i := 5) (lv' := [(0, .ref (ab_SB + 5000)), (1, .ref 0), (2, .ref 206), (3, .ref 219), (4, .int (nI i)), (5, .int k0)]) (by decide +kernel) (by decide) rfl rfl ?_
  refine al_aload_n (pc := 1336) (n := 2) (i := 2) (j := 2) (by decide +kernel) rfl rfl ?_
  refine al_aload_n (pc := 1337) (n := 0) (i := 0) (j := 0) (by decide +kernel) rfl rfl ?_
  refine al_iload (pc := 1338) (i := 4) (j := 4) (by decide +kernel) rfl ?_
  refine al_iconst (pc := 1340) (n := 1) (v := nI 1) (by decide +kernel) rfl ?_
  refine al_iadd (pc := 1341) (by decide +kernel) ?_
  refine al_sld (pc := 1342) (sc_in hi hL (j := 1) (by decide)) (by decide +kernel) ?_
  refine al_ref (M' := mX12_hours) (As := [.int (xs ((nI i) + (nI 1)).toNatClampNeg)]) (a := 206) (ci := 12) (st := []) (v := some (.int v)) (h' := gH g2) (pc := 1343) (index := 191) rfl rfl hc hs (io_206 _) rfl iX12_hours kw_bcd0756bf6 kw_e3071d3dae kw_c617562c4c rfl rfl (Nat.le_of_ble_eq_true rfl) (by decide +kernel) (okX12_hours hl eY) ?_
  refine al_istore (pc := 1346) (i := 6) (lv' := [(0, .ref (ab_SB + 5000)), (1, .ref 0), (2, .ref 206), (3, .ref 219), (4, .int (nI i)), (5, .int k0), (6, .int v)]) (by decide +kernel) (by decide) rfl rfl ?_
  refine al_aload_n (pc := 1348) (n := 2) (i := 2) (j := 2) (by decide +kernel) rfl rfl ?_
  refine al_ref (M' := mX12_thrown) (As := []) (a := 206) (ci := 12) (st := []) (v := some (.int (gF g2 206 0))) (h' := gH g2) (pc := 1349) (index := 137) rfl rfl hc hs (io_206 g2) rfl iX12_thrown kw_3a20f3984e kw_5ecf1a43fc kw_b4788dccf4 rfl rfl (Nat.le_of_ble_eq_true rfl) (by decide +kernel) (okX12_thrown hl (f_thrown g2)) ?_
  refine al_iload (pc := 1352) (i := 5) (j := 5) (by decide +kernel) rfl ?_
  refine al_icmp_eq (pc := 1354) (off := 5) (tgt := 1359) (by decide +kernel) (by decide) (fun _ => ?_) (fun gz => absurd eT gz)
  refine al_iload (pc := 1359) (i := 5) (j := 5) (by decide +kernel) rfl ?_
  refine al_if_ne (pc := 1361) (off := 15) (tgt := 1376) (by decide +kernel) (by decide) (fun g0 => ?_) (fun g0 => ?_)
  · refine al_aload_n (pc := 1364) (n := 3) (i := 3) (j := 3) (by decide +kernel) rfl rfl ?_
    refine al_iconst (pc := 1365) (n := 0) (v := nI 0) (by decide +kernel) rfl ?_
    refine al_lald (pc := 1366) (la_219 g2 (by decide)) (by decide +kernel) ?_
    refine al_iload (pc := 1367) (i := 6) (j := 6) (by decide +kernel) rfl ?_
    refine al_i2l (pc := 1369) (by decide +kernel) ?_
    refine al_lcmp (pc := 1370) (by decide +kernel) ?_
    refine al_if_eq (pc := 1371) (off := 5) (tgt := 1376) (by decide +kernel) (by decide) (fun _ => ?_) (fun gz => absurd (by rw [hO g0]; exact lg_cmp_self _) gz)
    refine al_goto (pc := 1376) (off := 1199) (tgt := 2575) (by decide +kernel) (by decide) ?_
    refine al_few [0, 1, 2, 3, 4] (lv' := [(0, .ref (ab_SB + 5000)), (1, .ref 0), (2, .ref 206), (3, .ref 219), (4, .int (nI i))]) rfl ?_
    exact k _ _ hN2 R2
  · refine al_goto (pc := 1376) (off := 1199) (tgt := 2575) (by decide +kernel) (by decide) ?_
    refine al_few [0, 1, 2, 3, 4] (lv' := [(0, .ref (ab_SB + 5000)), (1, .ref 0), (2, .ref 206), (3, .ref 219), (4, .int (nI i))]) rfl ?_
    exact k _ _ hN2 R2
set_option maxRecDepth 100000 in
set_option maxHeartbeats 4000000 in
theorem lc_19 {l : Launch} (hl : l.stackTraces = false) {L : Nat} {xs : Nat → Int32} {N : Nat} {g : gG} (R : RE N g) (hN : N < 1000) {i : Nat} (hi : i + 6 ≤ L) (hL : L ≤ 3072) {kc ks : Nat} (hc : kc + 5 ≤ 601024) (hs : ks + 427 ≤ 7293034) (k : ∀ N' g', N' ≤ N + 1 → RE N' g' → al_S l mlaw L xs (kc + 5) (ks + 427) 2575 [(0, .ref (ab_SB + 5000)), (1, .ref 0), (2, .ref 206), (3, .ref 219), (4, .int (nI i))] [] (gH g')) : al_S l mlaw L xs kc ks 1379 [(0, .ref (ab_SB + 5000)), (1, .ref 0), (2, .ref 206), (3, .ref 219), (4, .int (nI i))] [] (gH g) := by
  have hF : 11000 < Fu := by decide
  refine al_aload_n (pc := 1379) (n := 1) (i := 1) (j := 1) (by decide +kernel) rfl rfl ?_
  have hN2 : N ≤ N + 1 := Nat.le_succ _
  obtain ⟨v, g2, eX, eY, R2⟩ := cr_wrong R (F := Fu) hF
  refine al_cls (M' := mX11_wrong) (As := []) (a := 0) (ci := 11) (st := []) (v := some (.int v)) (h' := gH g) (pc := 1380) (index := 192) (Nat.le_of_ble_eq_true rfl) (Nat.le_of_ble_eq_true rfl) hc hs (io_0 g) rfl iX11_wrong kw_66d020e48c kw_9580d7688b kw_211727bd68 rfl rfl (Nat.le_of_ble_eq_true rfl) (by decide +kernel) (okX11_wrong hl eX) ?_
  refine al_aload_n (pc := 1383) (n := 2) (i := 2) (j := 2) (by decide +kernel) rfl rfl ?_
  refine al_ref (M' := mX12_wrong_) (As := []) (a := 206) (ci := 12) (st := [.int v]) (v := some (.int v)) (h' := gH g2) (pc := 1384) (index := 195) rfl rfl hc hs (io_206 _) rfl iX12_wrong_ kw_c20b232312 kw_b04e71337a kw_7d3863fcfe rfl rfl (Nat.le_of_ble_eq_true rfl) (by decide +kernel) (okX12_wrong_ hl eY) ?_
  refine al_icmp_eq (pc := 1387) (off := 1188) (tgt := 2575) (by decide +kernel) (by decide) (fun _ => ?_) (fun gz => absurd rfl gz)
  exact k _ _ hN2 R2
set_option maxRecDepth 100000 in
set_option maxHeartbeats 4000000 in
theorem lc_20 {l : Launch} (hl : l.stackTraces = false) {L : Nat} {xs : Nat → Int32} {N : Nat} {g : gG} (R : RE N g) (hN : N < 1000) {i : Nat} (hi : i + 6 ≤ L) (hL : L ≤ 3072) {kc ks : Nat} (hc : kc + 5 ≤ 601024) (hs : ks + 427 ≤ 7293034) (k : ∀ N' g', N' ≤ N + 1 → RE N' g' → al_S l mlaw L xs (kc + 5) (ks + 427) 2575 [(0, .ref (ab_SB + 5000)), (1, .ref 0), (2, .ref 206), (3, .ref 219), (4, .int (nI i))] [] (gH g')) : al_S l mlaw L xs kc ks 1392 [(0, .ref (ab_SB + 5000)), (1, .ref 0), (2, .ref 206), (3, .ref 219), (4, .int (nI i))] [] (gH g) := by
  have hF : 11000 < Fu := by decide
  refine al_aload_n (pc := 1392) (n := 1) (i := 1) (j := 1) (by decide +kernel) rfl rfl ?_
  have hN2 : N ≤ N + 1 := Nat.le_succ _
  obtain ⟨v, g2, eX, eY, R2⟩ := cr_lost R (F := Fu) hF
  refine al_cls (M' := mX11_lost) (As := []) (a := 0) (ci := 11) (st := []) (v := some (.int v)) (h' := gH g) (pc := 1393) (index := 196) (Nat.le_of_ble_eq_true rfl) (Nat.le_of_ble_eq_true rfl) hc hs (io_0 g) rfl iX11_lost kw_fb50ea8ed6 kw_a105686883 kw_228926cc78 rfl rfl (Nat.le_of_ble_eq_true rfl) (by decide +kernel) (okX11_lost hl eX) ?_
  refine al_aload_n (pc := 1396) (n := 2) (i := 2) (j := 2) (by decide +kernel) rfl rfl ?_
  refine al_ref (M' := mX12_lost) (As := []) (a := 206) (ci := 12) (st := [.int v]) (v := some (.int v)) (h' := gH g2) (pc := 1397) (index := 199) rfl rfl hc hs (io_206 _) rfl iX12_lost kw_39f94cb955 kw_cd0e38505b kw_f7f3880ce6 rfl rfl (Nat.le_of_ble_eq_true rfl) (by decide +kernel) (okX12_lost hl eY) ?_
  refine al_icmp_eq (pc := 1400) (off := 1175) (tgt := 2575) (by decide +kernel) (by decide) (fun _ => ?_) (fun gz => absurd rfl gz)
  exact k _ _ hN2 R2
set_option maxRecDepth 100000 in
set_option maxHeartbeats 4000000 in
theorem lc_21 {l : Launch} (hl : l.stackTraces = false) {L : Nat} {xs : Nat → Int32} {N : Nat} {g : gG} (R : RE N g) (hN : N < 1000) {i : Nat} (hi : i + 6 ≤ L) (hL : L ≤ 3072) {kc ks : Nat} (hc : kc + 5 ≤ 601024) (hs : ks + 427 ≤ 7293034) (k : ∀ N' g', N' ≤ N + 1 → RE N' g' → al_S l mlaw L xs (kc + 5) (ks + 427) 2575 [(0, .ref (ab_SB + 5000)), (1, .ref 0), (2, .ref 206), (3, .ref 219), (4, .int (nI i))] [] (gH g')) : al_S l mlaw L xs kc ks 1405 [(0, .ref (ab_SB + 5000)), (1, .ref 0), (2, .ref 206), (3, .ref 219), (4, .int (nI i))] [] (gH g) := by
  have hF : 11000 < Fu := by decide
  refine al_aload_n (pc := 1405) (n := 1) (i := 1) (j := 1) (by decide +kernel) rfl rfl ?_
  have hN2 : N ≤ N + 1 := Nat.le_succ _
  obtain ⟨v, g2, eX, eY, R2⟩ := cr_unclaimed R (F := Fu) hF
  refine al_cls (M' := mX11_unclaimed) (As := []) (a := 0) (ci := 11) (st := []) (v := some (.int v)) (h' := gH g) (pc := 1406) (index := 200) (Nat.le_of_ble_eq_true rfl) (Nat.le_of_ble_eq_true rfl) hc hs (io_0 g) rfl iX11_unclaimed kw_37b24af4ca kw_16398d1ff3 kw_3e8b2077bd rfl rfl (Nat.le_of_ble_eq_true rfl) (by decide +kernel) (okX11_unclaimed hl eX) ?_
  refine al_aload_n (pc := 1409) (n := 2) (i := 2) (j := 2) (by decide +kernel) rfl rfl ?_
  refine al_ref (M' := mX12_unclaimed) (As := []) (a := 206) (ci := 12) (st := [.int v]) (v := some (.int v)) (h' := gH g2) (pc := 1410) (index := 203) rfl rfl hc hs (io_206 _) rfl iX12_unclaimed kw_f98667c30c kw_3cc5436515 kw_8c387928e6 rfl rfl (Nat.le_of_ble_eq_true rfl) (by decide +kernel) (okX12_unclaimed hl eY) ?_
  refine al_icmp_eq (pc := 1413) (off := 1162) (tgt := 2575) (by decide +kernel) (by decide) (fun _ => ?_) (fun gz => absurd rfl gz)
  exact k _ _ hN2 R2
set_option maxRecDepth 100000 in
set_option maxHeartbeats 4000000 in
theorem lc_22 {l : Launch} (hl : l.stackTraces = false) {L : Nat} {xs : Nat → Int32} {N : Nat} {g : gG} (R : RE N g) (hN : N < 1000) {i : Nat} (hi : i + 6 ≤ L) (hL : L ≤ 3072) {kc ks : Nat} (hc : kc + 5 ≤ 601024) (hs : ks + 427 ≤ 7293034) (k : ∀ N' g', N' ≤ N + 1 → RE N' g' → al_S l mlaw L xs (kc + 5) (ks + 427) 2575 [(0, .ref (ab_SB + 5000)), (1, .ref 0), (2, .ref 206), (3, .ref 219), (4, .int (nI i))] [] (gH g')) : al_S l mlaw L xs kc ks 1418 [(0, .ref (ab_SB + 5000)), (1, .ref 0), (2, .ref 206), (3, .ref 219), (4, .int (nI i))] [] (gH g) := by
  have hF : 11000 < Fu := by decide
  refine al_aload_n (pc := 1418) (n := 1) (i := 1) (j := 1) (by decide +kernel) rfl rfl ?_
  have hN2 : N ≤ N + 1 := Nat.le_succ _
  obtain ⟨v, g2, eX, eY, R2⟩ := cr_swaps R (F := Fu) hF
  refine al_cls (M' := mX11_swaps) (As := []) (a := 0) (ci := 11) (st := []) (v := some (.int v)) (h' := gH g) (pc := 1419) (index := 204) (Nat.le_of_ble_eq_true rfl) (Nat.le_of_ble_eq_true rfl) hc hs (io_0 g) rfl iX11_swaps kw_74c35ac650 kw_3f11d2111f kw_941b9bed68 rfl rfl (Nat.le_of_ble_eq_true rfl) (by decide +kernel) (okX11_swaps hl eX) ?_
  refine al_aload_n (pc := 1422) (n := 2) (i := 2) (j := 2) (by decide +kernel) rfl rfl ?_
  refine al_ref (M' := mX12_swaps) (As := []) (a := 206) (ci := 12) (st := [.int v]) (v := some (.int v)) (h' := gH g2) (pc := 1423) (index := 207) rfl rfl hc hs (io_206 _) rfl iX12_swaps kw_fb627b4cba kw_ed966a8fe6 kw_c288804d66 rfl rfl (Nat.le_of_ble_eq_true rfl) (by decide +kernel) (okX12_swaps hl eY) ?_
  refine al_icmp_eq (pc := 1426) (off := 1149) (tgt := 2575) (by decide +kernel) (by decide) (fun _ => ?_) (fun gz => absurd rfl gz)
  exact k _ _ hN2 R2
set_option maxRecDepth 100000 in
set_option maxHeartbeats 4000000 in
theorem lc_23 {l : Launch} (hl : l.stackTraces = false) {L : Nat} {xs : Nat → Int32} {N : Nat} {g : gG} (R : RE N g) (hN : N < 1000) {i : Nat} (hi : i + 6 ≤ L) (hL : L ≤ 3072) {kc ks : Nat} (hc : kc + 5 ≤ 601024) (hs : ks + 427 ≤ 7293034) (k : ∀ N' g', N' ≤ N + 1 → RE N' g' → al_S l mlaw L xs (kc + 5) (ks + 427) 2575 [(0, .ref (ab_SB + 5000)), (1, .ref 0), (2, .ref 206), (3, .ref 219), (4, .int (nI i))] [] (gH g')) : al_S l mlaw L xs kc ks 1431 [(0, .ref (ab_SB + 5000)), (1, .ref 0), (2, .ref 206), (3, .ref 219), (4, .int (nI i))] [] (gH g) := by
  have hF : 11000 < Fu := by decide
  refine al_aload_n (pc := 1431) (n := 1) (i := 1) (j := 1) (by decide +kernel) rfl rfl ?_
  have hN2 : N ≤ N + 1 := Nat.le_succ _
  obtain ⟨v, g2, eX, eY, R2⟩ := cr_saved R (F := Fu) hF
  refine al_cls (M' := mX11_saved) (As := []) (a := 0) (ci := 11) (st := []) (v := some (.int v)) (h' := gH g) (pc := 1432) (index := 208) (Nat.le_of_ble_eq_true rfl) (Nat.le_of_ble_eq_true rfl) hc hs (io_0 g) rfl iX11_saved kw_9feb55e401 kw_97647a6f95 kw_3d4f90a1ee rfl rfl (Nat.le_of_ble_eq_true rfl) (by decide +kernel) (okX11_saved hl eX) ?_
  refine al_aload_n (pc := 1435) (n := 2) (i := 2) (j := 2) (by decide +kernel) rfl rfl ?_
  refine al_ref (M' := mX12_saved) (As := []) (a := 206) (ci := 12) (st := [.int v]) (v := some (.int v)) (h' := gH g2) (pc := 1436) (index := 211) rfl rfl hc hs (io_206 _) rfl iX12_saved kw_dd59af1aa3 kw_8c5f94581e kw_ea815391a3 rfl rfl (Nat.le_of_ble_eq_true rfl) (by decide +kernel) (okX12_saved hl eY) ?_
  refine al_icmp_eq (pc := 1439) (off := 1136) (tgt := 2575) (by decide +kernel) (by decide) (fun _ => ?_) (fun gz => absurd rfl gz)
  exact k _ _ hN2 R2
set_option maxRecDepth 100000 in
set_option maxHeartbeats 4000000 in
theorem lc_24 {l : Launch} (hl : l.stackTraces = false) {L : Nat} {xs : Nat → Int32} {N : Nat} {g : gG} (R : RE N g) (hN : N < 1000) {i : Nat} (hi : i + 6 ≤ L) (hL : L ≤ 3072) {kc ks : Nat} (hc : kc + 5 ≤ 601024) (hs : ks + 427 ≤ 7293034) (k : ∀ N' g', N' ≤ N + 1 → RE N' g' → al_S l mlaw L xs (kc + 5) (ks + 427) 2575 [(0, .ref (ab_SB + 5000)), (1, .ref 0), (2, .ref 206), (3, .ref 219), (4, .int (nI i))] [] (gH g')) : al_S l mlaw L xs kc ks 1444 [(0, .ref (ab_SB + 5000)), (1, .ref 0), (2, .ref 206), (3, .ref 219), (4, .int (nI i))] [] (gH g) := by
  have hF : 11000 < Fu := by decide
  refine al_aload_n (pc := 1444) (n := 1) (i := 1) (j := 1) (by decide +kernel) rfl rfl ?_
  have hN2 : N ≤ N + 1 := Nat.le_succ _
  obtain ⟨v, g2, eX, eY, R2⟩ := cr_marks R (F := Fu) hF
  refine al_cls (M' := mX11_marks) (As := []) (a := 0) (ci := 11) (st := []) (v := some (.int v)) (h' := gH g) (pc := 1445) (index := 212) (Nat.le_of_ble_eq_true rfl) (Nat.le_of_ble_eq_true rfl) hc hs (io_0 g) rfl iX11_marks kw_c19453f077 kw_fb043b5479 kw_0cd721bec0 rfl rfl (Nat.le_of_ble_eq_true rfl) (by decide +kernel) (okX11_marks hl eX) ?_
  refine al_aload_n (pc := 1448) (n := 2) (i := 2) (j := 2) (by decide +kernel) rfl rfl ?_
  refine al_ref (M' := mX12_marks) (As := []) (a := 206) (ci := 12) (st := [.int v]) (v := some (.int v)) (h' := gH g2) (pc := 1449) (index := 215) rfl rfl hc hs (io_206 _) rfl iX12_marks kw_95756b48a5 kw_e2b0cb3046 kw_7a0af04ffa rfl rfl (Nat.le_of_ble_eq_true rfl) (by decide +kernel) (okX12_marks hl eY) ?_
  refine al_icmp_eq (pc := 1452) (off := 1123) (tgt := 2575) (by decide +kernel) (by decide) (fun _ => ?_) (fun gz => absurd rfl gz)
  exact k _ _ hN2 R2
set_option maxRecDepth 100000 in
set_option maxHeartbeats 4000000 in
theorem lc_25 {l : Launch} (hl : l.stackTraces = false) {L : Nat} {xs : Nat → Int32} {N : Nat} {g : gG} (R : RE N g) (hN : N < 1000) {i : Nat} (hi : i + 6 ≤ L) (hL : L ≤ 3072) {kc ks : Nat} (hc : kc + 5 ≤ 601024) (hs : ks + 427 ≤ 7293034) (k : ∀ N' g', N' ≤ N + 1 → RE N' g' → al_S l mlaw L xs (kc + 5) (ks + 427) 2575 [(0, .ref (ab_SB + 5000)), (1, .ref 0), (2, .ref 206), (3, .ref 219), (4, .int (nI i))] [] (gH g')) : al_S l mlaw L xs kc ks 1457 [(0, .ref (ab_SB + 5000)), (1, .ref 0), (2, .ref 206), (3, .ref 219), (4, .int (nI i))] [] (gH g) := by
  have hF : 11000 < Fu := by decide
  refine al_aload_n (pc := 1457) (n := 1) (i := 1) (j := 1) (by decide +kernel) rfl rfl ?_
  have hN2 : N ≤ N + 1 := Nat.le_succ _
  obtain ⟨v, g2, eX, eY, R2⟩ := cr_unknown R (F := Fu) hF
  refine al_cls (M' := mX11_unknown) (As := []) (a := 0) (ci := 11) (st := []) (v := some (.int v)) (h' := gH g) (pc := 1458) (index := 216) (Nat.le_of_ble_eq_true rfl) (Nat.le_of_ble_eq_true rfl) hc hs (io_0 g) rfl iX11_unknown kw_6d761e6a80 kw_190153105b kw_499b5ec7b5 rfl rfl (Nat.le_of_ble_eq_true rfl) (by decide +kernel) (okX11_unknown hl eX) ?_
  refine al_aload_n (pc := 1461) (n := 2) (i := 2) (j := 2) (by decide +kernel) rfl rfl ?_
  refine al_ref (M' := mX12_unknown) (As := []) (a := 206) (ci := 12) (st := [.int v]) (v := some (.int v)) (h' := gH g2) (pc := 1462) (index := 219) rfl rfl hc hs (io_206 _) rfl iX12_unknown kw_0090bd0648 kw_0dcdec5c28 kw_a55da1b5c2 rfl rfl (Nat.le_of_ble_eq_true rfl) (by decide +kernel) (okX12_unknown hl eY) ?_
  refine al_icmp_eq (pc := 1465) (off := 1110) (tgt := 2575) (by decide +kernel) (by decide) (fun _ => ?_) (fun gz => absurd rfl gz)
  exact k _ _ hN2 R2
