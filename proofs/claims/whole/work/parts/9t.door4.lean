variable {Nq : Nat}
/-! ===== the reference: wed, knows, settings, a LINE, a text ===== -/
theorem td_figW (g : gG) (m : Nat → Int32) (a f u v lo hi : Int32) (hf : ¬ f = -1) (F : Nat) : fX12_figures F 206 lo hi (gH (td g m a f u v)) = some (nI 0, gH (td g m a f u v)) := by
  unfold fX12_figures
  refine (bd_e (td_f12 _ _ _ _ _ _)).trans ?_
  exact if_neg hf
theorem rf_single {g : gG} {t : Nat → Nat} {L : Nat} (H : Ld g t L) (m : Nat → Int32) (u v x1 : Int32) {n : Nat} (h10 : n ≤ 10) (hm : m 3 = nI n) {a : Nat} (ha : a ≤ L) {F : Nat} (hF : 11000 < F) {c : Nat} (hc : rn (bk t) L a = c) : ∃ x a', a' ≤ L ∧ fX12_single F 206 x1 (gH (td g m (nI a) (-1) u v)) = if nmb t L c < n ∧ ¬ nI (nmb t L c) = x1 ∧ m (12 + 6 * nmb t L c + 4) = -1 then some (nI (nmb t L c), gH (td g m (nI (en t L c)) (-1) u v)) else some (x, gH (td g m (nI a') (nI c) u v)) := by
  have h2 := H.2.1
  have pl := td_place H m (-1) u v ha hF
  have cl := rn_le (P := bk t) (L := L) a ha
  have cc := rn_rn (P := bk t) (L := L) a
  rw [hc] at pl cl cc
  obtain ⟨x, a', y1, y2⟩ := td_fig H m u v (show n ≤ 1000 by omega) cl hF
  rw [cc] at y2
  have nf : ¬ (nI c : Int32) = -1 := nI_m1 (by omega)
  by_cases c1 : nmb t L c < n
  · have hl := nmb_in c1 (by omega)
    have el := en_le (t := t) hl
    rw [if_pos c1] at y2
    generalize nmb t L c = z at *
    have W : (ab_ck (ab_io (gH (td g m (nI (en t L c)) (-1) u v)) 206 12 = true) (ab_bd (fX12_wrong 206 (nI c) (gH (td g m (nI (en t L c)) (-1) u v))) fun h7 => some ((nI z : Int32), h7))) = some (nI z, gH (td g m (nI (en t L c)) (nI c) u v)) := by
      refine (ck_e (io_206 _)).trans ?_
      exact bd_e (td_wr _ _ _ _ _ _)
    refine ⟨nI z, en t L c, el, ?_⟩
    unfold fX12_single
    refine (ck_e (io_206 _)).trans ?_
    refine (bd_e pl).trans ?_
    refine (bd_e (fr_206_1 _)).trans ?_
    refine (bd_e ((td_ia _ _ _ _ _ _ (by omega)).trans (congrArg some hm))).trans ?_
    refine (ck_e (io_206 _)).trans ?_
    refine (bd_e y2).trans ?_
    refine (bd_e (td_f12 _ _ _ _ _ _)).trans ?_
    refine (if_pos rfl).trans ?_
    refine (jn_e _ _).trans ?_
    by_cases c2 : (nI z : Int32) = x1
    · rw [if_neg (show ¬ (z < n ∧ ¬ (nI z : Int32) = x1 ∧ m (12 + 6 * z + 4) = -1) from fun h => h.2.1 c2)]
      exact (if_pos c2).trans W
    · refine (if_neg c2).trans ?_
      refine (ck_e (io_206 _)).trans ?_
      refine (bd_e (td_of _ _ _ _ _ _ (by omega))).trans ?_
      by_cases c3 : m (12 + 6 * z + 4) = -1
      · rw [if_pos (show (z < n ∧ ¬ (nI z : Int32) = x1 ∧ m (12 + 6 * z + 4) = -1) from ⟨c1, c2, c3⟩)]
        exact if_pos c3
      · rw [if_neg (show ¬ (z < n ∧ ¬ (nI z : Int32) = x1 ∧ m (12 + 6 * z + 4) = -1) from fun h => c3 h.2.2)]
        exact (if_neg c3).trans W
  · rw [if_neg c1] at y2
    refine ⟨x, a', y1, ?_⟩
    rw [if_neg (fun h => c1 h.1)]
    unfold fX12_single
    refine (ck_e (io_206 _)).trans ?_
    refine (bd_e pl).trans ?_
    refine (bd_e (fr_206_1 _)).trans ?_
    refine (bd_e ((td_ia _ _ _ _ _ _ (by omega)).trans (congrArg some hm))).trans ?_
    refine (ck_e (io_206 _)).trans ?_
    refine (bd_e y2).trans ?_
    refine (bd_e (td_f12 _ _ _ _ _ _)).trans ?_
    exact if_neg nf
theorem rf_singleW {g : gG} {t : Nat → Nat} {L : Nat} (H : Ld g t L) (m : Nat → Int32) (u v x1 f : Int32) (hf : ¬ f = -1) {a : Nat} (ha : a ≤ L) {F : Nat} (hF : 11000 < F) : fX12_single F 206 x1 (gH (td g m (nI a) f u v)) = some (nI 0, gH (td g m (nI (rn (bk t) L a)) f u v)) := by
  unfold fX12_single
  refine (ck_e (io_206 _)).trans ?_
  refine (bd_e (td_place H m f u v ha hF)).trans ?_
  refine (bd_e (fr_206_1 _)).trans ?_
  refine (bd_e (td_ia _ _ _ _ _ _ (by omega))).trans ?_
  refine (ck_e (io_206 _)).trans ?_
  refine (bd_e (td_figW _ _ _ _ _ _ _ _ hf _)).trans ?_
  refine (bd_e (td_f12 _ _ _ _ _ _)).trans ?_
  exact if_neg hf
theorem rs_wed {g : gG} {t : Nat → Nat} {L : Nat} (H : Ld g t L) {F : Nat} (hF : 11000 < F) {m : Nat → Int32} {n : Nat} (h10 : n ≤ 10) (hm : m 3 = nI n) {a : Nat} (ha : a < L) (u v : Int32) : DE g t L u v m (dWed t L a m n) (fX12_wedLine F 206 (gH (td g m (nI (en t L a)) (-1) u v))) := by
  have h2 := H.2.1
  have ea := en_le (t := t) ha
  have nx := nx_en (t := t) ha
  have bl := (nxt_nrm (t := t) ha).2
  obtain ⟨x, a', y1, y2⟩ := rf_single H m u v (-1) h10 hm ea hF nx
  unfold dWed
  generalize nxt t L a = b at *
  by_cases c : nmb t L b < n ∧ m (12 + 6 * nmb t L b + 4) = -1
  · rw [if_pos (show nmb t L b < n ∧ ¬ (nI (nmb t L b) : Int32) = -1 ∧ m (12 + 6 * nmb t L b + 4) = -1 from ⟨c.1, nI_m1 (by omega), c.2⟩)] at y2
    rw [if_pos c]
    have hl := nmb_in c.1 (by omega)
    have eb := en_le (t := t) hl
    have nb := nx_en (t := t) hl
    have cl := (nxt_nrm (t := t) hl).2
    obtain ⟨x2, a2, z1, z2⟩ := rf_single H m u v (nI (nmb t L b)) h10 hm eb hF nb
    generalize nxt t L b = e at *
    by_cases d : nmb t L e < n ∧ nmb t L e ≠ nmb t L b ∧ m (12 + 6 * nmb t L e + 4) = -1
    · rw [if_pos (show nmb t L e < n ∧ ¬ (nI (nmb t L e) : Int32) = nI (nmb t L b) ∧ m (12 + 6 * nmb t L e + 4) = -1 from ⟨d.1, fun h => d.2.1 ((nI_eq (by omega) (by omega)).mp h), d.2.2⟩)] at z2
      rw [if_pos d]
      have hl2 := nmb_in d.1 (by omega)
      have ee := en_le (t := t) hl2
      refine DE.ok (m' := upd (upd m (12 + 6 * nmb t L b + 4) (nI (nmb t L e))) (12 + 6 * nmb t L e + 4) (nI (nmb t L b))) (a' := en t L e) ?_ ee (fun i hi => by rw [upd_2 _ _ (by omega), upd_2 _ _ (by omega)]) (nx_en hl2)
      unfold fX12_wedLine
      refine (ck_e (io_206 _)).trans ?_
      refine (bd_e y2).trans ?_
      refine (ck_e (io_206 _)).trans ?_
      refine (bd_e z2).trans ?_
      refine (bd_e (td_f12 _ _ _ _ _ _)).trans ?_
      refine (if_pos rfl).trans ?_
      refine (ck_e (io_206 _)).trans ?_
      refine (bd_e (td_has _ _ _ _ _ _ _ (by omega))).trans ?_
      refine (ck_e (io_206 _)).trans ?_
      exact bd_e (td_has _ _ _ _ _ _ _ (by omega))
    · rw [if_neg (show ¬ (nmb t L e < n ∧ ¬ (nI (nmb t L e) : Int32) = nI (nmb t L b) ∧ m (12 + 6 * nmb t L e + 4) = -1) from fun h => d ⟨h.1, fun k => h.2.1 (by rw [k]), h.2.2⟩)] at z2
      rw [if_neg d]
      refine DE.no (m' := m) (a' := a2) ?_ z1 (fun _ _ => rfl) (by omega)
      unfold fX12_wedLine
      refine (ck_e (io_206 _)).trans ?_
      refine (bd_e y2).trans ?_
      refine (ck_e (io_206 _)).trans ?_
      refine (bd_e z2).trans ?_
      refine (bd_e (td_f12 _ _ _ _ _ _)).trans ?_
      exact if_neg (nI_m1 (by omega))
  · rw [if_neg (show ¬ (nmb t L b < n ∧ ¬ (nI (nmb t L b) : Int32) = -1 ∧ m (12 + 6 * nmb t L b + 4) = -1) from fun h => c ⟨h.1, h.2.2⟩)] at y2
    rw [if_neg c]
    have nf : ¬ (nI b : Int32) = -1 := nI_m1 (by omega)
    refine DE.no (m' := m) (a' := rn (bk t) L a') ?_ (rn_le _ y1) (fun _ _ => rfl) (by omega)
    unfold fX12_wedLine
    refine (ck_e (io_206 _)).trans ?_
    refine (bd_e y2).trans ?_
    refine (ck_e (io_206 _)).trans ?_
    refine (bd_e (rf_singleW H m u v _ _ nf y1 hF)).trans ?_
    refine (bd_e (td_f12 _ _ _ _ _ _)).trans ?_
    exact if_neg nf
theorem rl_knows0 {h : ab_H} {F p F' : Nat} : fX12_knowsLine_28 F 206 (nI p) (F' + 1) (nI 0) h = some h := by
  rw [fX12_knowsLine_28]; exact if_pos nI_0
theorem rl_knowsD {g : gG} {t : Nat → Nat} {L : Nat} (H : Ld g t L) {F : Nat} (hF : 11000 < F) {n p : Nat} (h10 : n ≤ 10) (hp : p < n) (u v : Int32) (m0 : Nat → Int32) : ∀ k a c m Fu, L - c < k → k + 1 < Fu → a ≤ L → rn (bk t) L a = c → m 3 = nI n → (∀ i, 584 ≤ i → m i = m0 i) → DE g t L u v m0 (dKl t L n p k c m) (fX12_knowsLine_28 F 206 (nI p) Fu (nI 1) (gH (td g m (nI a) (-1) u v))) := by
  have h2 := H.2.1
  intro k
  induction k with
  | zero => intro a c m Fu hk; omega
  | succ k ih =>
    intro a c m Fu hk hFu ha hc hm hh
    obtain ⟨F', rfl⟩ : ∃ F', Fu = F' + 2 := ⟨Fu - 2, by omega⟩
    have pl := td_place H m (-1) u v ha hF
    have cl := rn_le (P := bk t) (L := L) a ha
    have cc := rn_rn (P := bk t) (L := L) a
    rw [hc] at pl cl cc
    obtain ⟨x, a', y1, y2⟩ := td_fig H m u v (show n ≤ 1000 by omega) cl hF
    rw [cc] at y2
    have nf : ¬ (nI c : Int32) = -1 := nI_m1 (by omega)
    rw [fX12_knowsLine_28, dKl]
    by_cases c1 : nmb t L c < n
    · have hl := nmb_in c1 (by omega)
      have el := en_le (t := t) hl
      have nx := nx_en (t := t) hl
      have gt := nxt_gt (t := t) hl
      rw [if_pos c1] at y2
      generalize nmb t L c = z at *
      by_cases c2 : z = p
      · rw [if_neg (show ¬ (z < n ∧ z ≠ p) from fun h => h.2 c2)]
        refine DE.no (m' := m) (a' := en t L c) ?_ el hh (by omega)
        refine (if_neg (by decide)).trans ?_
        refine (ck_e (io_206 _)).trans ?_
        refine (bd_e pl).trans ?_
        refine (bd_e (fr_206_1 _)).trans ?_
        refine (bd_e ((td_ia _ _ _ _ _ _ (by omega)).trans (congrArg some hm))).trans ?_
        refine (ck_e (io_206 _)).trans ?_
        refine (bd_e y2).trans ?_
        refine (bd_e (td_f12 _ _ _ _ _ _)).trans ?_
        refine (jn_e _ _).trans ?_
        refine (if_pos rfl).trans ?_
        refine (if_pos (by rw [c2])).trans ?_
        refine (ck_e (io_206 _)).trans ?_
        refine (bd_e (td_wr _ _ _ _ _ _)).trans ?_
        refine (bd_e (td_f12 _ _ _ _ _ _)).trans ?_
        refine (jn_e _ _).trans ?_
        refine (if_neg nf).trans ?_
        refine (bd_e (td_f12 _ _ _ _ _ _)).trans ?_
        refine (if_neg nf).trans ?_
        exact rl_knows0
      · rw [if_pos (show z < n ∧ z ≠ p from ⟨c1, c2⟩)]
        generalize hm2 : upd m (12 + 6 * p + 5) (m (12 + 6 * p + 5) ||| (nI 1 <<< (nI z &&& 31))) = m2
        have q3 : m2 3 = nI n := by rw [← hm2, upd_2 _ _ (by omega)]; exact hm
        have qh : ∀ i, 584 ≤ i → m2 i = m0 i := fun i hi => by rw [← hm2, upd_2 _ _ (by omega)]; exact hh i hi
        have E : fX12_knowsLine_28 F 206 (nI p) (F' + 2) (nI 1) (gH (td g m (nI a) (-1) u v)) = fX12_knowsLine_28 F 206 (nI p) (F' + 1) (if kd t L (nxt t L c) = 256 then nI 1 else nI 0) (gH (td g m2 (nI (nxt t L c)) (-1) u v)) := by
          rw [fX12_knowsLine_28]
          refine (if_neg (by decide)).trans ?_
          refine (ck_e (io_206 _)).trans ?_
          refine (bd_e pl).trans ?_
          refine (bd_e (fr_206_1 _)).trans ?_
          refine (bd_e ((td_ia _ _ _ _ _ _ (by omega)).trans (congrArg some hm))).trans ?_
          refine (ck_e (io_206 _)).trans ?_
          refine (bd_e y2).trans ?_
          refine (bd_e (td_f12 _ _ _ _ _ _)).trans ?_
          refine (jn_e _ _).trans ?_
          refine (if_pos rfl).trans ?_
          refine (if_neg (fun h => c2 ((nI_eq (by omega) (by omega)).mp h))).trans ?_
          refine (bd_e (td_f12 _ _ _ _ _ _)).trans ?_
          refine (jn_e _ _).trans ?_
          refine (if_pos rfl).trans ?_
          refine (ck_e (io_206 _)).trans ?_
          refine (bd_e (td_of _ _ _ _ _ _ (by omega))).trans ?_
          refine (ck_e (io_206 _)).trans ?_
          refine (bd_e (td_has _ _ _ _ _ _ _ (by omega))).trans ?_
          rw [hm2]
          refine (bd_e (td_f12 _ _ _ _ _ _)).trans ?_
          refine (if_pos rfl).trans ?_
          refine (ck_e (io_206 _)).trans ?_
          refine (bd_e (rf_isFig H _ (-1) u v el hF)).trans ?_
          rw [nx]
          by_cases c6 : kd t L (nxt t L c) = 256
          · rw [if_pos c6, decide_eq_true c6]; exact if_neg (show ¬ bI true = 0 by decide)
          · rw [if_neg c6, decide_eq_false c6]; exact if_pos (bI_0.mpr rfl)
        rw [← fX12_knowsLine_28, E]
        have nl := (nxt_nrm (t := t) hl).2
        have nn := (nxt_nrm (t := t) hl).1
        by_cases c6 : kd t L (nxt t L c) = 256
        · rw [if_pos c6, if_pos c6]
          exact ih (nxt t L c) (nxt t L c) m2 (F' + 1) (by omega) (by omega) nl nn q3 qh
        · rw [if_neg c6, if_neg c6]
          exact DE.ok (m' := m2) (a' := nxt t L c) rl_knows0 nl qh nn
    · rw [if_neg (show ¬ (nmb t L c < n ∧ nmb t L c ≠ p) from fun h => c1 h.1)]
      rw [if_neg c1] at y2
      refine DE.no (m' := m) (a' := a') ?_ y1 hh (by omega)
      refine (if_neg (by decide)).trans ?_
      refine (ck_e (io_206 _)).trans ?_
      refine (bd_e pl).trans ?_
      refine (bd_e (fr_206_1 _)).trans ?_
      refine (bd_e ((td_ia _ _ _ _ _ _ (by omega)).trans (congrArg some hm))).trans ?_
      refine (ck_e (io_206 _)).trans ?_
      refine (bd_e y2).trans ?_
      refine (bd_e (td_f12 _ _ _ _ _ _)).trans ?_
      refine (jn_e _ _).trans ?_
      refine (if_neg nf).trans ?_
      refine (bd_e (td_f12 _ _ _ _ _ _)).trans ?_
      refine (jn_e _ _).trans ?_
      refine (if_neg nf).trans ?_
      refine (bd_e (td_f12 _ _ _ _ _ _)).trans ?_
      refine (if_neg nf).trans ?_
      exact rl_knows0
theorem rs_knows {g : gG} {t : Nat → Nat} {L : Nat} (H : Ld g t L) {F : Nat} (hF : 11000 < F) {m : Nat → Int32} {n : Nat} (h10 : n ≤ 10) (hm : m 3 = nI n) {a : Nat} (ha : a < L) (u v : Int32) : DE g t L u v m (dKnows t L a m n) (fX12_knowsLine F 206 (gH (td g m (nI (en t L a)) (-1) u v))) := by
  have h2 := H.2.1
  have ea := en_le (t := t) ha
  have nx := nx_en (t := t) ha
  have bl := (nxt_nrm (t := t) ha).2
  obtain ⟨x, a', y1, y2⟩ := td_fig H m u v (show n ≤ 1000 by omega) ea hF
  rw [nx] at y2
  unfold dKnows
  by_cases c : nmb t L (nxt t L a) < n
  · rw [if_pos c] at y2 ⊢
    have hl := nmb_in c (by omega)
    have r := rl_knowsD H hF h10 c u v m (L + 1) (en t L (nxt t L a)) (nxt t L (nxt t L a)) m F (by omega) (by omega) (en_le hl) (nx_en hl) hm (fun _ _ => rfl)
    have E : fX12_knowsLine F 206 (gH (td g m (nI (en t L a)) (-1) u v)) = fX12_knowsLine_28 F 206 (nI (nmb t L (nxt t L a))) F (nI 1) (gH (td g m (nI (en t L (nxt t L a))) (-1) u v)) := by
      unfold fX12_knowsLine
      refine (bd_e (fr_206_1 _)).trans ?_
      refine (bd_e ((td_ia _ _ _ _ _ _ (by omega)).trans (congrArg some hm))).trans ?_
      refine (ck_e (io_206 _)).trans ?_
      refine (bd_e y2).trans ?_
      refine (bd_e (td_f12 _ _ _ _ _ _)).trans ?_
      exact if_pos rfl
    rw [E]; exact r
  · rw [if_neg c] at y2 ⊢
    have nf : ¬ (nI (nxt t L a) : Int32) = -1 := nI_m1 (by omega)
    refine DE.no (m' := m) (a' := a') ?_ y1 (fun _ _ => rfl) (by omega)
    unfold fX12_knowsLine
    refine (bd_e (fr_206_1 _)).trans ?_
    refine (bd_e ((td_ia _ _ _ _ _ _ (by omega)).trans (congrArg some hm))).trans ?_
    refine (ck_e (io_206 _)).trans ?_
    refine (bd_e y2).trans ?_
    refine (bd_e (td_f12 _ _ _ _ _ _)).trans ?_
    refine (if_neg nf).trans ?_
    unfold fX12_figures at y2
    obtain ⟨F', rfl⟩ : ∃ F', F = F' + 1 := ⟨F - 1, by omega⟩
    rw [fX12_knowsLine_28]; exact if_pos nI_0
theorem rs_set {g : gG} {t : Nat → Nat} {L : Nat} (H : Ld g t L) {F : Nat} (hF : 11000 < F) {m : Nat → Int32} (lo : Int32) {hi q : Nat} (h100 : hi ≤ 100) (hq : q < 584) {a : Nat} (ha : a < L) (u v : Int32) : DE g t L u v m (dSet t L a m lo hi q) (ab_bd (fX12_figures F 206 lo (nI hi) (gH (td g m (nI (en t L a)) (-1) u v))) fun v18 => ab_bd (ab_fi v18.2 206 12 12) fun v19 => (if v19 = (-1 : Int32) then ab_bd (ab_fr v18.2 206 12 1) fun v21 => ab_bd (ab_iw 0 v18.2 v21 (nI q) v18.1) fun h22 => some h22 else some v18.2)) := by
  have h2 := H.2.1
  have ea := en_le (t := t) ha
  have nx := nx_en (t := t) ha
  have bl := (nxt_nrm (t := t) ha).2
  obtain ⟨x, a', y1, y2⟩ := rf_figs (H.m m).x (nI 0) u v lo (nI hi) ea hF
  rw [nx] at y2
  have nl := nmb_lt (t := t) (L := L) (a := nxt t L a)
  unfold dSet
  by_cases c : nmb t L (nxt t L a) ≤ hi ∧ ¬ nI (nmb t L (nxt t L a)) < lo
  · rw [if_pos c]
    rw [if_pos (show nmb t L (nxt t L a) ≠ 4000 ∧ ¬ nI (nmb t L (nxt t L a)) < lo ∧ nI (nmb t L (nxt t L a)) ≤ nI hi from ⟨by omega, c.2, nI_le c.1 (by omega)⟩)] at y2
    have hl : nxt t L a < L := nmb_in (t := t) (n := hi + 1) (by omega) (by omega)
    refine DE.ok (m' := upd m q (nI (nmb t L (nxt t L a)))) (a' := en t L (nxt t L a)) ?_ (en_le hl) (fun i hi => by rw [upd_2 _ _ (by omega)]) (nx_en hl)
    refine (bd_e y2).trans ?_
    refine (bd_e (td_f12 _ _ _ _ _ _)).trans ?_
    refine (if_pos rfl).trans ?_
    refine (bd_e (fr_206_1 _)).trans ?_
    exact bd_e (td_iw _ _ _ _ _ _ _ (by omega))
  · rw [if_neg c]
    rw [if_neg (show ¬ (nmb t L (nxt t L a) ≠ 4000 ∧ ¬ nI (nmb t L (nxt t L a)) < lo ∧ nI (nmb t L (nxt t L a)) ≤ nI hi) from fun h => c ⟨by have := h.2.2; rw [nI_leI (by omega) (by omega)] at this; exact this, h.2.1⟩)] at y2
    refine DE.no (m' := m) (a' := a') ?_ y1 (fun _ _ => rfl) (by omega)
    refine (bd_e y2).trans ?_
    refine (bd_e (td_f12 _ _ _ _ _ _)).trans ?_
    exact if_neg (nI_m1 (by omega))
theorem hd_35 {g : gG} {t : Nat → Nat} {L : Nat} (H : Ld g t L) (m : Nat → Int32) (u v : Int32) {a : Nat} (hn : rn (bk t) L a = a) (ha : a ≤ L) {F : Nat} (hF : 11000 < F) : fX12_has_ F 206 (ab_SB + 35) (gH (td g m (nI a) (-1) u v)) = some (bI (decide (kd t L a = 1000)), gH (td g m (nI (if kd t L a = 1000 then en t L a else a)) (-1) u v)) := by
  have := hw_35 (H.m m).x (-1) (nI 0) u v (show a < 1000 by have := H.2.1; omega) hF
  rw [hn] at this; exact this
theorem hd_36 {g : gG} {t : Nat → Nat} {L : Nat} (H : Ld g t L) (m : Nat → Int32) (u v : Int32) {a : Nat} (hn : rn (bk t) L a = a) (ha : a ≤ L) {F : Nat} (hF : 11000 < F) : fX12_has_ F 206 (ab_SB + 36) (gH (td g m (nI a) (-1) u v)) = some (bI (decide (kd t L a = 1001)), gH (td g m (nI (if kd t L a = 1001 then en t L a else a)) (-1) u v)) := by
  have := hw_36 (H.m m).x (-1) (nI 0) u v (show a < 1000 by have := H.2.1; omega) hF
  rw [hn] at this; exact this
theorem hd_26 {g : gG} {t : Nat → Nat} {L : Nat} (H : Ld g t L) (m : Nat → Int32) (u v : Int32) {a : Nat} (hn : rn (bk t) L a = a) (ha : a ≤ L) {F : Nat} (hF : 11000 < F) : fX12_has_ F 206 (ab_SB + 26) (gH (td g m (nI a) (-1) u v)) = some (bI (decide (kd t L a = 1002)), gH (td g m (nI (if kd t L a = 1002 then en t L a else a)) (-1) u v)) := by
  have := hw_26 (H.m m).x (-1) (nI 0) u v (show a < 1000 by have := H.2.1; omega) hF
  rw [hn] at this; exact this
theorem hd_37 {g : gG} {t : Nat → Nat} {L : Nat} (H : Ld g t L) (m : Nat → Int32) (u v : Int32) {a : Nat} (hn : rn (bk t) L a = a) (ha : a ≤ L) {F : Nat} (hF : 11000 < F) : fX12_has_ F 206 (ab_SB + 37) (gH (td g m (nI a) (-1) u v)) = some (bI (decide (kd t L a = 1003)), gH (td g m (nI (if kd t L a = 1003 then en t L a else a)) (-1) u v)) := by
  have := hw_37 (H.m m).x (-1) (nI 0) u v (show a < 1000 by have := H.2.1; omega) hF
  rw [hn] at this; exact this
theorem hd_38 {g : gG} {t : Nat → Nat} {L : Nat} (H : Ld g t L) (m : Nat → Int32) (u v : Int32) {a : Nat} (hn : rn (bk t) L a = a) (ha : a ≤ L) {F : Nat} (hF : 11000 < F) : fX12_has_ F 206 (ab_SB + 38) (gH (td g m (nI a) (-1) u v)) = some (bI (decide (kd t L a = 1004)), gH (td g m (nI (if kd t L a = 1004 then en t L a else a)) (-1) u v)) := by
  have := hw_38 (H.m m).x (-1) (nI 0) u v (show a < 1000 by have := H.2.1; omega) hF
  rw [hn] at this; exact this
theorem hd_39 {g : gG} {t : Nat → Nat} {L : Nat} (H : Ld g t L) (m : Nat → Int32) (u v : Int32) {a : Nat} (hn : rn (bk t) L a = a) (ha : a ≤ L) {F : Nat} (hF : 11000 < F) : fX12_has_ F 206 (ab_SB + 39) (gH (td g m (nI a) (-1) u v)) = some (bI (decide (kd t L a = 1005)), gH (td g m (nI (if kd t L a = 1005 then en t L a else a)) (-1) u v)) := by
  have := hw_39 (H.m m).x (-1) (nI 0) u v (show a < 1000 by have := H.2.1; omega) hF
  rw [hn] at this; exact this
theorem hd_40 {g : gG} {t : Nat → Nat} {L : Nat} (H : Ld g t L) (m : Nat → Int32) (u v : Int32) {a : Nat} (hn : rn (bk t) L a = a) (ha : a ≤ L) {F : Nat} (hF : 11000 < F) : fX12_has_ F 206 (ab_SB + 40) (gH (td g m (nI a) (-1) u v)) = some (bI (decide (kd t L a = 1006)), gH (td g m (nI (if kd t L a = 1006 then en t L a else a)) (-1) u v)) := by
  have := hw_40 (H.m m).x (-1) (nI 0) u v (show a < 1000 by have := H.2.1; omega) hF
  rw [hn] at this; exact this
theorem rs_dline {g : gG} {t : Nat → Nat} {L : Nat} (H : Ld g t L) {F : Nat} (hF : 11000 < F) {m : Nat → Int32} {n k : Nat} (h10 : n ≤ 10) (hm : m 3 = nI n) (h12 : k ≤ 12) (hk : m 4 = nI k) {a : Nat} (hn : rn (bk t) L a = a) (ha : a ≤ L) (u v : Int32) : DE g t L u v m (dLine t L a m n k) (fX12_doorLine F 206 (gH (td g m (nI a) (-1) u v))) := by
  have h2 := H.2.1
  have pl := td_place H m (-1) u v ha hF
  rw [hn] at pl
  unfold dLine fX12_doorLine
  have P0 : ∀ {X : Option ab_H} {Y : Int32 × ab_H → Option ab_H}, (Y (nI a, gH (td g m (nI a) (-1) u v))) = X → (ab_ck (ab_io (gH (td g m (nI a) (-1) u v)) 206 12 = true) (ab_bd (fX12_place F 206 (gH (td g m (nI a) (-1) u v))) Y)) = X := fun h => ((ck_e (io_206 _)).trans (bd_e pl)).trans h
  rw [P0 rfl]
  have N35 : ∀ {X : Option ab_H} {Y : Int32 × ab_H → Option ab_H}, ¬ kd t L a = 1000 → (Y (bI false, gH (td g m (nI a) (-1) u v))) = X → (ab_ck (ab_io (gH (td g m (nI a) (-1) u v)) 206 12 = true) (ab_bd (fX12_has_ F 206 (ab_SB + 35) (gH (td g m (nI a) (-1) u v))) Y)) = X := fun c h => by
    have e := hd_35 H m u v hn ha hF
    rw [if_neg c, decide_eq_false c] at e
    exact ((ck_e (io_206 _)).trans (bd_e e)).trans h
  have Y35 : ∀ {X : Option ab_H} {Y : Int32 × ab_H → Option ab_H}, kd t L a = 1000 → (Y (bI true, gH (td g m (nI (en t L a)) (-1) u v))) = X → (ab_ck (ab_io (gH (td g m (nI a) (-1) u v)) 206 12 = true) (ab_bd (fX12_has_ F 206 (ab_SB + 35) (gH (td g m (nI a) (-1) u v))) Y)) = X := fun c h => by
    have e := hd_35 H m u v hn ha hF
    rw [if_pos c, decide_eq_true c] at e
    exact ((ck_e (io_206 _)).trans (bd_e e)).trans h
  have N36 : ∀ {X : Option ab_H} {Y : Int32 × ab_H → Option ab_H}, ¬ kd t L a = 1001 → (Y (bI false, gH (td g m (nI a) (-1) u v))) = X → (ab_ck (ab_io (gH (td g m (nI a) (-1) u v)) 206 12 = true) (ab_bd (fX12_has_ F 206 (ab_SB + 36) (gH (td g m (nI a) (-1) u v))) Y)) = X := fun c h => by
    have e := hd_36 H m u v hn ha hF
    rw [if_neg c, decide_eq_false c] at e
    exact ((ck_e (io_206 _)).trans (bd_e e)).trans h
  have Y36 : ∀ {X : Option ab_H} {Y : Int32 × ab_H → Option ab_H}, kd t L a = 1001 → (Y (bI true, gH (td g m (nI (en t L a)) (-1) u v))) = X → (ab_ck (ab_io (gH (td g m (nI a) (-1) u v)) 206 12 = true) (ab_bd (fX12_has_ F 206 (ab_SB + 36) (gH (td g m (nI a) (-1) u v))) Y)) = X := fun c h => by
    have e := hd_36 H m u v hn ha hF
    rw [if_pos c, decide_eq_true c] at e
    exact ((ck_e (io_206 _)).trans (bd_e e)).trans h
  have N26 : ∀ {X : Option ab_H} {Y : Int32 × ab_H → Option ab_H}, ¬ kd t L a = 1002 → (Y (bI false, gH (td g m (nI a) (-1) u v))) = X → (ab_ck (ab_io (gH (td g m (nI a) (-1) u v)) 206 12 = true) (ab_bd (fX12_has_ F 206 (ab_SB + 26) (gH (td g m (nI a) (-1) u v))) Y)) = X := fun c h => by
    have e := hd_26 H m u v hn ha hF
    rw [if_neg c, decide_eq_false c] at e
    exact ((ck_e (io_206 _)).trans (bd_e e)).trans h
  have Y26 : ∀ {X : Option ab_H} {Y : Int32 × ab_H → Option ab_H}, kd t L a = 1002 → (Y (bI true, gH (td g m (nI (en t L a)) (-1) u v))) = X → (ab_ck (ab_io (gH (td g m (nI a) (-1) u v)) 206 12 = true) (ab_bd (fX12_has_ F 206 (ab_SB + 26) (gH (td g m (nI a) (-1) u v))) Y)) = X := fun c h => by
    have e := hd_26 H m u v hn ha hF
    rw [if_pos c, decide_eq_true c] at e
    exact ((ck_e (io_206 _)).trans (bd_e e)).trans h
  have N37 : ∀ {X : Option ab_H} {Y : Int32 × ab_H → Option ab_H}, ¬ kd t L a = 1003 → (Y (bI false, gH (td g m (nI a) (-1) u v))) = X → (ab_ck (ab_io (gH (td g m (nI a) (-1) u v)) 206 12 = true) (ab_bd (fX12_has_ F 206 (ab_SB + 37) (gH (td g m (nI a) (-1) u v))) Y)) = X := fun c h => by
    have e := hd_37 H m u v hn ha hF
    rw [if_neg c, decide_eq_false c] at e
    exact ((ck_e (io_206 _)).trans (bd_e e)).trans h
  have Y37 : ∀ {X : Option ab_H} {Y : Int32 × ab_H → Option ab_H}, kd t L a = 1003 → (Y (bI true, gH (td g m (nI (en t L a)) (-1) u v))) = X → (ab_ck (ab_io (gH (td g m (nI a) (-1) u v)) 206 12 = true) (ab_bd (fX12_has_ F 206 (ab_SB + 37) (gH (td g m (nI a) (-1) u v))) Y)) = X := fun c h => by
    have e := hd_37 H m u v hn ha hF
    rw [if_pos c, decide_eq_true c] at e
    exact ((ck_e (io_206 _)).trans (bd_e e)).trans h
  have N38 : ∀ {X : Option ab_H} {Y : Int32 × ab_H → Option ab_H}, ¬ kd t L a = 1004 → (Y (bI false, gH (td g m (nI a) (-1) u v))) = X → (ab_ck (ab_io (gH (td g m (nI a) (-1) u v)) 206 12 = true) (ab_bd (fX12_has_ F 206 (ab_SB + 38) (gH (td g m (nI a) (-1) u v))) Y)) = X := fun c h => by
    have e := hd_38 H m u v hn ha hF
    rw [if_neg c, decide_eq_false c] at e
    exact ((ck_e (io_206 _)).trans (bd_e e)).trans h
  have Y38 : ∀ {X : Option ab_H} {Y : Int32 × ab_H → Option ab_H}, kd t L a = 1004 → (Y (bI true, gH (td g m (nI (en t L a)) (-1) u v))) = X → (ab_ck (ab_io (gH (td g m (nI a) (-1) u v)) 206 12 = true) (ab_bd (fX12_has_ F 206 (ab_SB + 38) (gH (td g m (nI a) (-1) u v))) Y)) = X := fun c h => by
    have e := hd_38 H m u v hn ha hF
    rw [if_pos c, decide_eq_true c] at e
    exact ((ck_e (io_206 _)).trans (bd_e e)).trans h
  have N39 : ∀ {X : Option ab_H} {Y : Int32 × ab_H → Option ab_H}, ¬ kd t L a = 1005 → (Y (bI false, gH (td g m (nI a) (-1) u v))) = X → (ab_ck (ab_io (gH (td g m (nI a) (-1) u v)) 206 12 = true) (ab_bd (fX12_has_ F 206 (ab_SB + 39) (gH (td g m (nI a) (-1) u v))) Y)) = X := fun c h => by
    have e := hd_39 H m u v hn ha hF
    rw [if_neg c, decide_eq_false c] at e
    exact ((ck_e (io_206 _)).trans (bd_e e)).trans h
  have Y39 : ∀ {X : Option ab_H} {Y : Int32 × ab_H → Option ab_H}, kd t L a = 1005 → (Y (bI true, gH (td g m (nI (en t L a)) (-1) u v))) = X → (ab_ck (ab_io (gH (td g m (nI a) (-1) u v)) 206 12 = true) (ab_bd (fX12_has_ F 206 (ab_SB + 39) (gH (td g m (nI a) (-1) u v))) Y)) = X := fun c h => by
    have e := hd_39 H m u v hn ha hF
    rw [if_pos c, decide_eq_true c] at e
    exact ((ck_e (io_206 _)).trans (bd_e e)).trans h
  have N40 : ∀ {X : Option ab_H} {Y : Int32 × ab_H → Option ab_H}, ¬ kd t L a = 1006 → (Y (bI false, gH (td g m (nI a) (-1) u v))) = X → (ab_ck (ab_io (gH (td g m (nI a) (-1) u v)) 206 12 = true) (ab_bd (fX12_has_ F 206 (ab_SB + 40) (gH (td g m (nI a) (-1) u v))) Y)) = X := fun c h => by
    have e := hd_40 H m u v hn ha hF
    rw [if_neg c, decide_eq_false c] at e
    exact ((ck_e (io_206 _)).trans (bd_e e)).trans h
  have Y40 : ∀ {X : Option ab_H} {Y : Int32 × ab_H → Option ab_H}, kd t L a = 1006 → (Y (bI true, gH (td g m (nI (en t L a)) (-1) u v))) = X → (ab_ck (ab_io (gH (td g m (nI a) (-1) u v)) 206 12 = true) (ab_bd (fX12_has_ F 206 (ab_SB + 40) (gH (td g m (nI a) (-1) u v))) Y)) = X := fun c h => by
    have e := hd_40 H m u v hn ha hF
    rw [if_pos c, decide_eq_true c] at e
    exact ((ck_e (io_206 _)).trans (bd_e e)).trans h
  have t1 : ¬ bI true = 0 := by decide
  have f1 : bI false = 0 := by decide
  by_cases c35 : kd t L a = 1000
  · rw [if_pos c35, Y35 c35 rfl, if_neg t1]
    have r := rs_pers H hF h10 hm (a := a) (kd_lt (t := t) (by omega)) u v
    obtain ⟨m', a', f', e, r⟩ := r; exact ⟨m', a', f', (ck_e (io_206 _)).trans (bd_e e), r⟩
  · rw [if_neg c35, N35 c35 rfl, if_pos f1]
    by_cases c36 : kd t L a = 1001
    · rw [if_pos c36, Y36 c36 rfl, if_neg t1]
      have r := rs_wish H hF h10 hm (a := a) (kd_lt (t := t) (by omega)) u v
      obtain ⟨m', a', f', e, r⟩ := r; exact ⟨m', a', f', (ck_e (io_206 _)).trans (bd_e e), r⟩
    · rw [if_neg c36, N36 c36 rfl, if_pos f1]
      by_cases c26 : kd t L a = 1002
      · rw [if_pos c26, Y26 c26 rfl, if_neg t1]
        have r := rs_wed H hF h10 hm (a := a) (kd_lt (t := t) (by omega)) u v
        obtain ⟨m', a', f', e, r⟩ := r; exact ⟨m', a', f', (ck_e (io_206 _)).trans (bd_e e), r⟩
      · rw [if_neg c26, N26 c26 rfl, if_pos f1]
        by_cases c37 : kd t L a = 1003
        · rw [if_pos c37, Y37 c37 rfl, if_neg t1]
          have r := rs_knows H hF h10 hm (a := a) (kd_lt (t := t) (by omega)) u v
          obtain ⟨m', a', f', e, r⟩ := r; exact ⟨m', a', f', (ck_e (io_206 _)).trans (bd_e e), r⟩
        · rw [if_neg c37, N37 c37 rfl, if_pos f1]
          by_cases c38 : kd t L a = 1004
          · rw [if_pos c38, Y38 c38 rfl, if_neg t1]
            have lt := rf_lastTaken (td g m (nI (en t L a)) (-1) u v) (n := n) (k := k) (by rw [td_m]; exact hm) h10 (by rw [td_m]; exact hk) h12 hF
            rw [td_m] at lt
            have gr : fX12_greater (nI 1) (mLst m n k + nI 1) (gH (td g m (nI (en t L a)) (-1) u v)) = some (loH m n k) := by
              unfold fX12_greater loH; split <;> rfl
            have r := rs_set H hF (m := m) (loH m n k) (hi := 12) (q := 4) (by omega) (by omega) (a := a) (kd_lt (t := t) (by omega)) u v
            have E : ∀ {Y : Int32 → Option ab_H}, (ab_ck (ab_io (gH (td g m (nI (en t L a)) (-1) u v)) 206 12 = true) (ab_bd (fX12_lastTaken F 206 (gH (td g m (nI (en t L a)) (-1) u v))) fun v28 => ab_bd (fX12_greater (nI 1) (v28 + (nI 1)) (gH (td g m (nI (en t L a)) (-1) u v))) fun v29 => ab_ck (ab_io (gH (td g m (nI (en t L a)) (-1) u v)) 206 12 = true) (Y v29))) = Y (loH m n k) := fun {Y} => by
              refine (ck_e (io_206 _)).trans ?_
              refine (bd_e lt).trans ?_
              refine (bd_e gr).trans ?_
              exact ck_e (io_206 _)
            rw [E]; exact r
          · rw [if_neg c38, N38 c38 rfl, if_pos f1]
            by_cases c39 : kd t L a = 1005
            · rw [if_pos c39, Y39 c39 rfl, if_neg t1]
              have r := rs_set H hF (m := m) (nI 0) (hi := 100) (q := 6) (by omega) (by omega) (a := a) (kd_lt (t := t) (by omega)) u v
              rw [ck_e (io_206 _)]; exact r
            · rw [if_neg c39, N39 c39 rfl, if_pos f1]
              by_cases c40 : kd t L a = 1006
              · rw [if_pos c40, Y40 c40 rfl, if_neg t1]
                have r := rs_set H hF (m := m) (nI 0) (hi := 100) (q := 7) (by omega) (by omega) (a := a) (kd_lt (t := t) (by omega)) u v
                rw [ck_e (io_206 _)]; exact r
              · rw [if_neg c40, N40 c40 rfl, if_pos f1]
                refine DE.no (m' := m) (a' := a) ?_ ha (fun _ _ => rfl) (by omega)
                refine (bd_e (td_f11 _ _ _ _ _ _)).trans ?_
                refine (ck_e (io_206 _)).trans ?_
                exact bd_e (td_wr _ _ _ _ _ _)
/-- the text -/
theorem rl_readD {g : gG} {t : Nat → Nat} {L : Nat} (H : Ld g t L) {F : Nat} (hF : 11000 < F) (u v : Int32) (m0 : Nat → Int32) (Gd : (Nat → Int32) → Prop) (gd1 : ∀ m, Gd m → nv (m 3) ≤ 10 ∧ nv (m 4) ≤ 12) (gd2 : ∀ m a, Gd m → (dLine t L a m (nv (m 3)) (nv (m 4))).1 = true → Gd (dLine t L a m (nv (m 3)) (nv (m 4))).2.2) (pg : ∀ m a, Gd m → nrm t L a → (dLine t L a m (nv (m 3)) (nv (m 4))).1 = true → nrm t L (dLine t L a m (nv (m 3)) (nv (m 4))).2.1) : ∀ k n Fu a m, k + n = 14 → k + 2 < Fu → a ≤ L → Gd m → (∀ i, 584 ≤ i → m i = m0 i) → ∃ n' a' f' m', fX12_read_23 F 206 (nI 0) Fu (nI 1) (nI n) (gH (td g m (nI a) (-1) u v)) = some (n', gH (td g m' a' f' u v)) ∧ (∀ i, 584 ≤ i → m' i = m0 i) ∧ ((dLines t L k (rn (bk t) L a) m).1 = true → f' = -1 ∧ m' = (dLines t L k (rn (bk t) L a) m).2.2) ∧ ((dLines t L k (rn (bk t) L a) m).1 = false → f' = nI (dLines t L k (rn (bk t) L a) m).2.1 ∧ ¬ f' = -1) := by
  have h1 := H.1
  have h2 := H.2.1
  have hbt := H.2.2.1
  have i1 : ¬ (nI 1 : Int32) = 0 := by decide
  intro k
  induction k with
  | zero =>
    intro n Fu a m hk hFu ha gm hh
    have e : n = 14 := by omega
    subst e
    obtain ⟨F', rfl⟩ : ∃ F', Fu = F' + 2 := ⟨Fu - 2, by omega⟩
    have s := rf_skip (H.m m).x (-1) (nI 0) u v (show a < 1000 by omega) hF
    have bl := rn_le (P := bk t) (L := L) a ha
    have nb := rn_rn (P := bk t) (L := L) a
    generalize rn (bk t) L a = b at *
    have s2 := rf_skip (H.m m).x (nI b) (nI 0) u v (show b < 1000 by omega) hF
    rw [nb] at s2
    have nm : ¬ (nI b : Int32) = -1 := nI_m1 (by omega)
    refine ⟨nI 15, nI b, nI b, m, ?_, hh, (fun h => by cases h), fun _ => ⟨rfl, nm⟩⟩
    rw [fX12_read_23]
    refine (if_neg i1).trans ?_
    refine (bd_e (td_f12 _ _ _ _ _ _)).trans ?_
    refine (if_pos rfl).trans ?_
    refine (ck_e (io_206 _)).trans ?_
    refine (bd_e s).trans ?_
    refine (jn_e _ _).trans ?_
    refine (if_pos nI_0).trans ?_
    refine (jn_e _ _).trans ?_
    refine (if_pos rfl).trans ?_
    refine (bd_e (td_f11 g m _ _ _ _)).trans ?_
    refine (ck_e (io_206 _)).trans ?_
    refine (bd_e (td_wr g m _ _ _ _)).trans ?_
    refine (ck_e (io_206 _)).trans ?_
    refine (bd_e s2).trans ?_
    refine (bd_e (td_f12 g m _ _ _ _)).trans ?_
    refine (if_neg nm).trans ?_
    rw [nI_add]; exact rd_0
  | succ k ih =>
    intro n Fu a m hk hFu ha gm hh
    obtain ⟨F', rfl⟩ : ∃ F', Fu = F' + 2 := ⟨Fu - 2, by omega⟩
    have s := rf_skip (H.m m).x (-1) (nI 0) u v (show a < 1000 by omega) hF
    have bl := rn_le (P := bk t) (L := L) a ha
    have nb := rn_rn (P := bk t) (L := L) a
    generalize rn (bk t) L a = b at *
    obtain ⟨m1, a1, f1, e1, q1, q2, q3, q4⟩ := rs_dline H hF (gd1 m gm).1 (nI_nv (m 3)).symm (gd1 m gm).2 (nI_nv (m 4)).symm nb bl u v
    have hh1 : ∀ i, 584 ≤ i → m1 i = m0 i := fun i hi => (q2 i hi).trans (hh i hi)
    have nn : ¬ ((nI n : Int32) = nI 14) := fun h => by rw [nI_eq (by omega) (by omega)] at h; omega
    have s1 := rf_skip (H.m m1).x f1 (nI 0) u v (show a1 < 1000 by omega) hF
    have g2 := gd2 m b gm
    have p2 := pg m b gm ⟨nb, bl⟩
    have E : ∀ {X}, (ab_bd (ab_fi (gH (td g m1 (nI (rn (bk t) L a1)) f1 u v)) 206 12 12) fun v12 => (if v12 = (-1 : Int32) then ab_bd (ab_fi (gH (td g m1 (nI (rn (bk t) L a1)) f1 u v)) 206 12 11) fun v14 => ab_bd (ab_fi (gH (td g m1 (nI (rn (bk t) L a1)) f1 u v)) 206 12 10) fun v15 => (if v14 = v15 then fX12_read_23 F 206 (nI 0) (F' + 1) (nI 0) (nI n + nI 1) (gH (td g m1 (nI (rn (bk t) L a1)) f1 u v)) else ab_ck (ab_io (gH (td g m1 (nI (rn (bk t) L a1)) f1 u v)) 206 12 = true) (ab_bd (fX12_isSign F 206 (nI 59) (gH (td g m1 (nI (rn (bk t) L a1)) f1 u v))) fun v17 => (if v17.1 = 0 then ab_bd (ab_fi v17.2 206 12 11) fun v19 => ab_ck (ab_io v17.2 206 12 = true) (ab_bd (fX12_wrong 206 v19 v17.2) fun h20 => fX12_read_23 F 206 (nI 0) (F' + 1) (nI 1) (nI n + nI 1) h20) else ab_bd (ab_fi v17.2 206 12 11) fun v21 => ab_bd (ab_fw v17.2 206 12 11 (.int (v21 + (nI 1)))) fun h22 => fX12_read_23 F 206 (nI 0) (F' + 1) (nI 1) (nI n + nI 1) h22))) else fX12_read_23 F 206 (nI 0) (F' + 1) (nI 0) (nI n + nI 1) (gH (td g m1 (nI (rn (bk t) L a1)) f1 u v)))) = X → fX12_read_23 F 206 (nI 0) (F' + 2) (nI 1) (nI n) (gH (td g m (nI a) (-1) u v)) = X := by
      intro X hX
      rw [← hX, fX12_read_23]
      refine (if_neg i1).trans ?_
      refine (bd_e (td_f12 _ _ _ _ _ _)).trans ?_
      refine (if_pos rfl).trans ?_
      refine (ck_e (io_206 _)).trans ?_
      refine (bd_e s).trans ?_
      refine (jn_e _ _).trans ?_
      refine (if_pos nI_0).trans ?_
      refine (jn_e _ _).trans ?_
      refine (if_neg nn).trans ?_
      refine (if_pos nI_0).trans ?_
      refine (ck_e (io_206 _)).trans ?_
      refine (bd_e e1).trans ?_
      refine (ck_e (io_206 _)).trans ?_
      exact bd_e s1
    rw [nI_add] at E
    rw [dLines]
    generalize dLine t L b m (nv (m 3)) (nv (m 4)) = r at *
    obtain ⟨r1, r2, r3⟩ := r
    cases r1
    · obtain ⟨w1, w2⟩ := q4 rfl
      rw [if_neg (show ¬ (false, r2, r3).1 = true from fun h => by cases h)]
      refine ⟨nI (n + 1), nI (rn (bk t) L a1), f1, m1, E ?_, hh1, (fun h => by cases h), fun _ => ⟨w1, w2⟩⟩
      refine (bd_e (td_f12 _ _ _ _ _ _)).trans ?_
      refine (if_neg w2).trans ?_
      exact rd_0
    · obtain ⟨w1, w2, w3⟩ := q3 rfl
      have g3 := g2 rfl
      have p3 := p2 rfl
      rw [if_pos (show (true, r2, r3).1 = true from rfl)]
      rw [w3] at E
      subst w1 w2
      dsimp only at *
      have pl := p3.2
      by_cases c1 : kd t L r2 = 4000
      · have pe := (kd_end hbt pl).mp c1
        rw [if_pos c1]
        refine ⟨nI (n + 1), nI r2, -1, m1, E ?_, hh1, fun _ => ⟨rfl, rfl⟩, fun h => by cases h⟩
        refine (bd_e (td_f12 _ _ _ _ _ _)).trans ?_
        refine (if_pos rfl).trans ?_
        refine (bd_e (td_f11 _ _ _ _ _ _)).trans ?_
        refine (bd_e (td_f10 h1 _ _ _ _ _)).trans ?_
        refine (if_pos (by rw [pe])).trans ?_
        exact rd_0
      · rw [if_neg c1]
        have pn : ¬ (nI r2 : Int32) = nI L := fun h => c1 ((kd_end hbt pl).mpr ((nI_eq (by omega) (by omega)).mp h))
        have s59 := rf_isSign (H.m m1).x (-1) (nI 0) u v (show r2 < 1000 by omega) isG59 hF
        rw [p3.1] at s59
        by_cases c2 : kd t L r2 = 59
        · obtain ⟨hl, en1⟩ := en_sign isG59 c2
          have nx := nx_en (t := t) hl
          rw [en1] at nx
          rw [if_pos c2]
          obtain ⟨n', a', f', m', e3, C⟩ := ih (n + 1) (F' + 1) (r2 + 1) m1 (by omega) (by omega) (by omega) g3 hh1
          rw [nx] at C
          rw [decide_eq_true c2] at s59
          refine ⟨n', a', f', m', E ?_, C⟩
          refine (bd_e (td_f12 _ _ _ _ _ _)).trans ?_
          refine (if_pos rfl).trans ?_
          refine (bd_e (td_f11 _ _ _ _ _ _)).trans ?_
          refine (bd_e (td_f10 h1 _ _ _ _ _)).trans ?_
          refine (if_neg pn).trans ?_
          refine (ck_e (io_206 _)).trans ?_
          refine (bd_e s59).trans ?_
          refine (if_neg (show ¬ bI true = 0 by decide)).trans ?_
          refine (bd_e (td_f11 g m1 _ _ _ _)).trans ?_
          refine (bd_e (fw_206_11 _ _)).trans ?_
          rw [tx_11, nI_add]
          exact e3
        · rw [if_neg c2]
          have nm : ¬ (nI r2 : Int32) = -1 := nI_m1 (by omega)
          rw [decide_eq_false c2] at s59
          refine ⟨nI (n + 1), nI r2, nI r2, m1, E ?_, hh1, (fun h => by cases h), fun _ => ⟨rfl, nm⟩⟩
          refine (bd_e (td_f12 _ _ _ _ _ _)).trans ?_
          refine (if_pos rfl).trans ?_
          refine (bd_e (td_f11 _ _ _ _ _ _)).trans ?_
          refine (bd_e (td_f10 h1 _ _ _ _ _)).trans ?_
          refine (if_neg pn).trans ?_
          refine (ck_e (io_206 _)).trans ?_
          refine (bd_e s59).trans ?_
          refine (if_pos (bI_0.mpr rfl)).trans ?_
          refine (bd_e (td_f11 g m1 _ _ _ _)).trans ?_
          refine (ck_e (io_206 _)).trans ?_
          refine (bd_e (td_wr g m1 _ _ _ _)).trans ?_
          rw [fX12_read_23]
          refine (if_neg i1).trans ?_
          refine (bd_e (td_f12 _ _ _ _ _ _)).trans ?_
          exact if_neg nm
