/-! ===== texts: length, charAt (by program, gen_str.py) ===== -/
def ab_sL (a : Nat) : Option Int32 := if ab_SB ≤ a ∧ a - ab_SB < ab_N then some (nI (ab_len.getD (a - ab_SB) 0)) else none
def ab_ch (b : Int32) : Int32 := ((b &&& nI 255).toUInt32 % 65536).toInt32
def ab_sC (a : Nat) (i : Int32) : Option Int32 := if ab_SB ≤ a ∧ a - ab_SB < ab_N ∧ ¬ (i < 0 ∨ ab_len.getD (a - ab_SB) 0 ≤ i.toNatClampNeg) then some (ab_ch ((ab_byt.getD (a - ab_SB) []).getD i.toNatClampNeg 0)) else none
theorem ab_sL_in {a : Nat} {y : Int32} (e : ab_sL a = some y) : ab_SB ≤ a ∧ a - ab_SB < ab_N := by
  unfold ab_sL at e
  split at e
  · assumption
  · cases e
theorem ab_sC_in {a : Nat} {i y : Int32} (e : ab_sC a i = some y) : ab_SB ≤ a ∧ a - ab_SB < ab_N := by
  unfold ab_sC at e
  split at e
  · rename_i g; exact ⟨g.1, g.2.1⟩
  · cases e
theorem ab_lens : ∀ k, k < ab_N → ab_len.getD k 0 < 1000 := by decide +kernel
section StrRules
variable {ρ : Type} {l : Launch} {M : ab_M} {io : ρ → ab_R × ab_H} {kc ks : Nat} {t : Option ρ} {pc : Nat} {lv lv' : List (Nat × Value)} {st : List Value} {h : ab_H}
theorem ab_gsV {k index : Nat} (hk : k < ab_N) (hf : Cond.fieldLink M.1.cls index "java/lang/String" "value" "[B" ∈ ab_tb) (hd : decode M.2.1 pc = .ok (.getfield index, 3)) (kk : ab_S l M io kc ks t (pc + 3) lv (.ref (ab_SB + 1000 + k) :: st) h) : ab_S l M io kc ks t pc lv (.ref (ab_SB + k) :: st) h := by
  intro z hz p e s m args below meth c dC dI dA ad0 n0 A ad H locs ls C D hl hlo hst
  have hE := ((C.2.2.2.2.2.2.2.2.2.2.2.2.2.2.1 k hk).1 0 (by decide)).2.2.1
  rw [← D.2.2.2.2.2 _ (Or.inr (Nat.le_add_right _ _)), ← D.2.2.2.2.2 (ab_SB + 1000 + k) (Or.inr (by omega))] at hE
  exact vk_getf C.2.1 C.2.2.1 hE D.2.2.1 C.2.2.2.2.2.1 (C.2.2.2.2.2.2.1 _ hf) (fun _ h9 => h9) hd (kk z hz p e s m args below meth c dC dI dA ad0 n0 A ad H locs ls C D hl hlo (ab_oc (Or.inr (by omega)) (ab_ot hst)))
theorem ab_gsC {k index : Nat} (hk : k < ab_N) (hf : Cond.fieldLink M.1.cls index "java/lang/String" "coder" "B" ∈ ab_tb) (hd : decode M.2.1 pc = .ok (.getfield index, 3)) (kk : ab_S l M io kc ks t (pc + 3) lv (.int 0 :: st) h) : ab_S l M io kc ks t pc lv (.ref (ab_SB + k) :: st) h := by
  intro z hz p e s m args below meth c dC dI dA ad0 n0 A ad H locs ls C D hl hlo hst
  have hE := ((C.2.2.2.2.2.2.2.2.2.2.2.2.2.2.1 k hk).1 0 (by decide)).2.1
  rw [← D.2.2.2.2.2 _ (Or.inr (Nat.le_add_right _ _))] at hE
  exact vk_getf C.2.1 C.2.2.1 hE D.2.2.1 C.2.2.2.2.2.1 (C.2.2.2.2.2.2.1 _ hf) (fun _ h9 => h9) hd (kk z hz p e s m args below meth c dC dI dA ad0 n0 A ad H locs ls C D hl hlo (ab_oc trivial (ab_ot hst)))
theorem ab_sal {k : Nat} (hk : k < ab_N) (hd : decode M.2.1 pc = .ok (.arraylength, 1)) (kk : ab_S l M io kc ks t (pc + 1) lv (.int (nI (ab_len.getD k 0)) :: st) h) : ab_S l M io kc ks t pc lv (.ref (ab_SB + 1000 + k) :: st) h := by
  intro z hz p e s m args below meth c dC dI dA ad0 n0 A ad H locs ls C D hl hlo hst
  have hE := ((C.2.2.2.2.2.2.2.2.2.2.2.2.2.2.1 k hk).1 0 (by decide)).2.2.2
  rw [← D.2.2.2.2.2 (ab_SB + 1000 + k) (Or.inr (by omega))] at hE
  exact va_tlen C.2.1 C.2.2.1 hE D.2.2.1 rfl hd (kk z hz p e s m args below meth c dC dI dA ad0 n0 A ad H locs ls C D hl hlo (ab_oc trivial (ab_ot hst)))
theorem ab_sba {k : Nat} {i : Int32} (hk : k < ab_N) (hi : vp_in i (ab_len.getD k 0)) (hd : decode M.2.1 pc = .ok (.baload, 1)) (kk : ab_S l M io kc ks t (pc + 1) lv (.int ((ab_byt.getD k []).getD i.toNatClampNeg 0) :: st) h) : ab_S l M io kc ks t pc lv (.int i :: .ref (ab_SB + 1000 + k) :: st) h := by
  intro z hz p e s m args below meth c dC dI dA ad0 n0 A ad H locs ls C D hl hlo hst
  have hE := ((C.2.2.2.2.2.2.2.2.2.2.2.2.2.2.1 k hk).1 0 (by decide)).2.2.2
  rw [← D.2.2.2.2.2 (ab_SB + 1000 + k) (Or.inr (by omega))] at hE
  exact va_tb C.2.1 C.2.2.1 hE D.2.2.1 hi rfl hd (kk z hz p e s m args below meth c dC dI dA ad0 n0 A ad H locs ls C D hl hlo (ab_oc trivial (ab_ot (ab_ot hst))))
theorem ab_gst {index : Nat} (hf : Cond.fieldLink M.1.cls index "java/lang/String" "COMPACT_STRINGS" "Z" ∈ ab_tb) (hd : decode M.2.1 pc = .ok (.getstatic index, 3)) (kk : ab_S l M io kc ks t (pc + 3) lv (.int 1 :: st) h) : ab_S l M io kc ks t pc lv st h := by
  intro z hz p e s m args below meth c dC dI dA ad0 n0 A ad H locs ls C D hl hlo hst
  exact va_gets C.2.1 C.2.2.1 C.2.2.2.2.2.2.2.2.2.2.2.2.2.2.2.2.2.1 D.2.2.1 C.2.2.2.2.2.1 (C.2.2.2.2.2.2.1 _ hf) (fun _ h9 => h9) hd (kk z hz p e s m args below meth c dC dI dA ad0 n0 A ad H locs ls C D hl hlo (ab_oc trivial hst))
theorem ab_gsf {index : Nat} (hf : Cond.fieldLink M.1.cls index "jdk/internal/util/Preconditions" "SIOOBE_FORMATTER" "Ljava/util/function/BiFunction;" ∈ ab_tb) (hd : decode M.2.1 pc = .ok (.getstatic index, 3)) (kk : ∀ v : Value, v.category = 1 → ab_S l M io kc ks t (pc + 3) lv (v :: st) h) : ab_S l M io kc ks t pc lv st h := by
  intro z hz p e s m args below meth c dC dI dA ad0 n0 A ad H locs ls C D hl hlo hst
  rcases C.2.2.2.2.2.2.2.2.2.2.2.2.2.2.2.2.2.2.1 with hE | hE
  · exact va_gets C.2.1 C.2.2.1 hE D.2.2.1 C.2.2.2.2.2.1 (C.2.2.2.2.2.2.1 _ hf) (fun _ h9 => h9) hd (kk .null rfl z hz p e s m args below meth c dC dI dA ad0 n0 A ad H locs ls C D hl hlo (ab_oc trivial hst))
  · rw [← D.2.2.2.2.2 _ (Or.inr (Nat.le_add_right _ _))] at hE
    exact va_gets C.2.1 C.2.2.1 hE D.2.2.1 C.2.2.2.2.2.1 (C.2.2.2.2.2.2.1 _ hf) (fun _ h9 => h9) hd (kk (.ref (ab_SB + 3000)) rfl z hz p e s m args below meth c dC dI dA ad0 n0 A ad H locs ls C D hl hlo (ab_oc (Or.inr (Nat.le_add_right _ _)) hst))
theorem ab_ldcS {index kk : Nat} {tx : String} (hd : decode M.2.1 pc = .ok (.ldc index, 2)) (hm : (M.1.cls, index, tx, kk) ∈ ab_sr) (k : ab_S l M io kc ks t (pc + 2) lv (.ref (ab_SB + kk) :: st) h) : ab_S l M io kc ks t pc lv st h := by
  intro z hz p e s m args below meth c dC dI dA ad0 n0 A ad H locs ls C D hl hlo hst
  have hE := C.2.2.2.2.2.2.2.2.2.2.2.2.2.1 _ hm
  rw [← D.2.2.2.2.2 _ (Or.inr (Nat.le_add_right _ _))] at hE
  exact va_ldcS C.2.1 C.2.2.1 C.2.2.2.2.2.1 hE hd (k z hz p e s m args below meth c dC dI dA ad0 n0 A ad H locs ls C D hl hlo (ab_oc (Or.inr (Nat.le_add_right _ _)) hst))
/-- invokevirtual of String's own method on a text -/
theorem ab_callVs {M' : ab_M} {As : List Value} {a index n : Nat} {u : Option Int32} {f : Int32 → Option ρ} (hI : ab_MI M' n) (hlk : Cond.methodLink M.1.cls index M'.1 ∈ ab_tb) (hin : Cond.instanceMethod M'.1 ∈ ab_tb) (hse : Cond.selects "java/lang/String" M'.1 M'.1 ∈ ab_tb) (h0 : M'.2.2.2.2.cells = 0) (h1 : M'.2.2.2.2.slots = 0) (hn : As.length = n) (hrm : ab_rmB M.2.2.2.2 M'.2.2.2.2 M'.2.2.1 = true) (hrc : ab_rmC M.2.2.2.2 M'.2.2.2.2 kc ks = true) (hW : (st.map fun v => v.category).sum ≤ 8) (hd : decode M.2.1 pc = .ok (.invokevirtual index, 3))
    (ha : ∀ y, u = some y → ab_SB ≤ a ∧ a - ab_SB < ab_N) (hm : ∀ y, u = some y → ab_Met l M' (.ref a :: As) h (.inl (some (.int y)), h)) (k : ∀ y, u = some y → ab_S l M io kc ks (f y) (pc + 3) lv (.int y :: st) h) :
    ab_S l M io kc ks (ab_bd u f) pc lv (As.reverse ++ .ref a :: st) h := by
  intro z hz p e s m args below meth c dC dI dA ad0 n0 A ad H locs ls C D hl hlo hst
  cases hu : u with
  | none => rw [hu] at hz; cases hz
  | some y =>
    rw [hu, ab_bd_some] at hz
    obtain ⟨ha1, ha2⟩ := ha y hu
    have hrs := ab_rmB_spec hrm
    have hcs := ab_rmC_spec hrc
    have hst1 : ∀ v ∈ st, ab_ok h.1 v := fun v hv => hst v (List.mem_append_right _ (List.mem_cons_of_mem _ hv))
    have hst2 : ∀ v ∈ Value.ref a :: As, ab_ok h.1 v := fun v hv => by
      rcases List.mem_cons.mp hv with hv | hv
      · exact hst v (List.mem_append_right _ (by rw [hv]; exact List.mem_cons_self))
      · exact hst v (List.mem_append_left _ (List.mem_reverse.mpr hv))
    have hpre := ab_pre (M' := M') C D hst2
    have hG := ab_good (M := M) hI.1
    have hts := C.2.2.2.2.2.2.1
    have hrv := vk_recv (C.2.2.2.2.2.2.2.2.2.2.2.2.2.2.1 (a - ab_SB) ha2) (i := 0) (by decide) D.2.2.1
    rw [show ab_SB + (a - ab_SB) = a by omega, ← D.2.2.2.2.2 a (Or.inr ha1)] at hrv
    have hr := vx_runV (Ts := ab_tb) (As := As.map (ab_v ad)) (b := ad a) (rest := st.map (ab_v ad)) (C := "java/lang/String") (n := n) (cells := kc) (slots := ks) (locs := locs) (e := e) (below := below) (meth := meth) (g := F0 m pc ls ((As.reverse ++ Value.ref a :: st).map (ab_v ad))) ⟨C.2.1, C.2.2.1, C.2.2.2.1, C.2.2.2.2.2.1, hts⟩ (hm y hu dC dI dA ad H.size)
      ⟨⟨rfl, rfl, hrs.1, hrs.2, pay_in hts hG, List.mem_cons_self, hts _ hI.1, hts _ hI.2.1, ⟨hI.2.2.1, hI.2.2.2.1⟩, fun sig h9 => by have h8 := hI.2.2.2.2; rw [h9] at h8; exact (Option.some.inj h8).symm, hts _ hlk⟩, hts _ hin, hts _ hse⟩
      ⟨hpre.1, hrv, hpre.2⟩ rfl (by rw [List.length_map]; exact hn) hl.1 (by show (As.reverse ++ Value.ref a :: st).map (ab_v ad) = _; rw [List.map_append, List.map_reverse]; rfl) (lv_room (by rw [ab_cats]; exact hW)) hd hcs
    refine ab_fin (io' := fun y => (.inl (some (.int y)), h)) hz C D hl hlo hst1 hrc hr (fun v h' he => ?_) (fun E h' he => by cases he)
    cases he
    rw [h0, h1]
    exact k y hu
end StrRules
def mJ3_checkIndex_8e157 : ab_M := (yJ3_checkIndex_8e157, cJ3_checkIndex_8e157, 3, (some .int), { frames := 0, cells := 0, slots := 0, locals := 0 })
theorem iJ3_checkIndex_8e157 : ab_MI mJ3_checkIndex_8e157 3 := ⟨kw_afa48f1cec, kw_486cb45063, by decide +kernel⟩
def mJ0_checkIndex_df160 : ab_M := (yJ0_checkIndex_df160, cJ0_checkIndex_df160, 2, none, { frames := 1, cells := 0, slots := 0, locals := 22 })
theorem iJ0_checkIndex_df160 : ab_MI mJ0_checkIndex_df160 2 := ⟨kw_e10bf8a9a6, kw_4ab949b2e2, by decide +kernel⟩
def mJ1_charAt_3b067 : ab_M := (yJ1_charAt_3b067, cJ1_charAt_3b067, 2, (some .char), { frames := 2, cells := 0, slots := 0, locals := 43 })
theorem iJ1_charAt_3b067 : ab_MI mJ1_charAt_3b067 2 := ⟨kw_54f844accf, kw_427013edf0, by decide +kernel⟩
def mJ0_isLatin1_aae02 : ab_M := (yJ0_isLatin1_aae02, cJ0_isLatin1_aae02, 1, (some .boolean), { frames := 0, cells := 0, slots := 0, locals := 0 })
theorem iJ0_isLatin1_aae02 : ab_MI mJ0_isLatin1_aae02 0 := ⟨kw_4336588a1b, kw_4ab949b2e2, by decide +kernel⟩
def mJ0_charAt_5068e : ab_M := (yJ0_charAt_5068e, cJ0_charAt_5068e, 2, (some .char), { frames := 3, cells := 0, slots := 0, locals := 64 })
theorem iJ0_charAt_5068e : ab_MI mJ0_charAt_5068e 1 := ⟨kw_ee9e8bc571, kw_4ab949b2e2, by decide +kernel⟩
def mJ0_coder_7d493 : ab_M := (yJ0_coder_7d493, cJ0_coder_7d493, 1, (some .byte), { frames := 0, cells := 0, slots := 0, locals := 0 })
theorem iJ0_coder_7d493 : ab_MI mJ0_coder_7d493 0 := ⟨kw_d05b5d2117, kw_4ab949b2e2, by decide +kernel⟩
def mJ0_length_8abf5 : ab_M := (yJ0_length_8abf5, cJ0_length_8abf5, 1, (some .int), { frames := 1, cells := 0, slots := 0, locals := 20 })
theorem iJ0_length_8abf5 : ab_MI mJ0_length_8abf5 0 := ⟨kw_e410ee9f80, kw_4ab949b2e2, by decide +kernel⟩
theorem okJ3_checkIndex_8e157 {l : Launch} (hl : l.stackTraces = false) {a b : Int32} {v : Value} {h : ab_H} (hv : v.category = 1) (h0 : ¬ a < 0) (h1 : a < b) : ab_Met l mJ3_checkIndex_8e157 [.int a, .int b, v] h (.inl (some (.int a)), h) := by
  refine ab_ofS (ρ := Int32) (io := (fun y : Int32 => ((.inl (some (.int y)), h) : ab_R × ab_H))) (t := some a) (x := a) (lv := [(0, .int a), (1, .int b), (2, v)]) hl (by decide) rfl (by simp only [lg_sl, List.flatMap_cons, List.flatMap_nil, hv]; exact Nat.le_of_ble_eq_true rfl) ?_ rfl
  refine ab_iload_n (pc := 0) (n := 0) (i := 0) (j := 0) (by decide +kernel) rfl rfl ?_
  have e1 : (some a : Option Int32) = if a < 0 then none else some a := (if_neg h0).symm
  rw [e1]
  refine ab_if_lt (pc := 1) (off := 8) (tgt := 9) (by decide +kernel) (by decide) (fun g => absurd g h0) (fun g => ?_)
  refine ab_iload_n (pc := 4) (n := 0) (i := 0) (j := 0) (by decide +kernel) rfl rfl ?_
  refine ab_iload_n (pc := 5) (n := 1) (i := 1) (j := 1) (by decide +kernel) rfl rfl ?_
  have e2 : (some a : Option Int32) = if a < b then some a else none := (if_pos h1).symm
  rw [e2]
  refine ab_icmp_lt (pc := 6) (off := 10) (tgt := 16) (by decide +kernel) (by decide) (fun g => ?_) (fun g => absurd h1 g)
  refine ab_iload_n (pc := 16) (n := 0) (i := 0) (j := 0) (by decide +kernel) rfl rfl ?_
  exact ab_iret (pc := 17) (by decide +kernel) rfl rfl (Nat.zero_le _) (Nat.zero_le _)
theorem lkS_1059 : ab_LS RJ0 1059 mJ3_checkIndex_8e157 3 := ⟨iJ3_checkIndex_8e157, kw_2d6ea18b91, kw_32dd2d4250⟩
theorem okJ0_checkIndex_df160 {l : Launch} (hl : l.stackTraces = false) {a b : Int32} {h : ab_H} (h0 : ¬ a < 0) (h1 : a < b) : ab_Met l mJ0_checkIndex_df160 [.int a, .int b] h (.inl none, h) := by
  refine ab_ofS (ρ := Unit) (io := (fun _ : Unit => ((.inl none, h) : ab_R × ab_H))) (t := ab_bd (some a) (fun _ : Int32 => some ())) (x := ()) (lv := [(0, .int a), (1, .int b)]) hl (by decide) rfl (Nat.le_of_ble_eq_true rfl) ?_ rfl
  refine ab_iload_n (pc := 0) (n := 0) (i := 0) (j := 0) (by decide +kernel) rfl rfl ?_
  refine ab_iload_n (pc := 1) (n := 1) (i := 1) (j := 1) (by decide +kernel) rfl rfl ?_
  refine ab_gsf (pc := 2) (index := 1053) kw_069c58578e (by decide +kernel) (fun v hv => ?_)
  refine ab_callSi (As := [.int a, .int b, v]) (st := []) (pc := 5) lkS_1059 rfl rfl rfl (by decide) (by decide) (Nat.le_of_ble_eq_true rfl) (by decide +kernel) (fun y9 e9 => by cases e9; exact okJ3_checkIndex_8e157 hl hv h0 h1) (fun v1 ev1 => ?_)
  refine ab_pop (pc := 8) (by decide +kernel) rfl ?_
  exact ab_vret (pc := 9) (by decide +kernel) rfl rfl (Nat.zero_le _) (Nat.zero_le _)
theorem lkL_9 : ab_LS RJ1 9 mJ0_checkIndex_df160 2 := ⟨iJ0_checkIndex_df160, kw_d3a662c0cd, kw_d64912fc73⟩
theorem ab_chn (b : Int32) : narrow .char (.int (ab_ch b)) = .int (ab_ch b) := pk_nc _
theorem okJ1_charAt_3b067 {l : Launch} (hl : l.stackTraces = false) {k : Nat} {a : Int32} {h : ab_H} (hk : k < ab_N) (hi : vp_in a (ab_len.getD k 0)) : ab_Met l mJ1_charAt_3b067 [.ref (ab_SB + 1000 + k), .int a] h (.inl (some (.int (ab_ch ((ab_byt.getD k []).getD a.toNatClampNeg 0)))), h) := by
  have hn := ab_lens k hk
  have h0 : ¬ a < 0 := fun g => hi (Or.inl g)
  have h1 : a < nI (ab_len.getD k 0) := by
    obtain ⟨j, hj, rfl⟩ := vp_in_of hi (by omega)
    exact (nI_ltI (by omega) (by omega)).mpr hj
  refine ab_ofS (ρ := Int32) (io := (fun y : Int32 => ((.inl (some (.int y)), h) : ab_R × ab_H))) (t := ab_bd (some h) (fun _ : ab_H => some (ab_ch ((ab_byt.getD k []).getD a.toNatClampNeg 0)))) (x := ab_ch ((ab_byt.getD k []).getD a.toNatClampNeg 0)) (lv := [(0, .ref (ab_SB + 1000 + k)), (1, .int a)]) hl (by decide) rfl (Nat.le_of_ble_eq_true rfl) ?_ rfl
  refine ab_iload_n (pc := 0) (n := 1) (i := 1) (j := 1) (by decide +kernel) rfl rfl ?_
  refine ab_aload_n (pc := 1) (n := 0) (i := 0) (j := 0) (by decide +kernel) rfl rfl ?_
  refine ab_sal (pc := 2) hk (by decide +kernel) ?_
  refine ab_callSw (As := [.int a, .int (nI (ab_len.getD k 0))]) (st := []) (pc := 3) lkL_9 rfl rfl rfl (by decide) (by decide) (Nat.le_of_ble_eq_true rfl) (by decide +kernel) (fun y9 e9 => by cases e9; exact okJ0_checkIndex_df160 hl h0 h1) (fun h1 eh1 => ?_)
  cases eh1
  refine ab_aload_n (pc := 6) (n := 0) (i := 0) (j := 0) (by decide +kernel) rfl rfl ?_
  refine ab_iload_n (pc := 7) (n := 1) (i := 1) (j := 1) (by decide +kernel) rfl rfl ?_
  refine ab_sba (pc := 8) hk hi (by decide +kernel) ?_
  refine ab_sipush (pc := 9) (n := 255) (v := nI 255) (by decide +kernel) (by decide) ?_
  refine ab_iand (pc := 12) (by decide +kernel) ?_
  refine ab_i2c (pc := 13) (by decide +kernel) ?_
  exact ab_nret (pc := 14) (by decide +kernel) rfl (ab_chn _) rfl (Nat.zero_le _) (Nat.zero_le _)
theorem okJ0_isLatin1_aae02 {l : Launch} (hl : l.stackTraces = false) {k : Nat} {h : ab_H} (hk : k < ab_N) : ab_Met l mJ0_isLatin1_aae02 [.ref (ab_SB + k)] h (.inl (some (.int (nI 1))), h) := by
  refine ab_ofS (ρ := Int32) (io := (fun y : Int32 => ((.inl (some (.int y)), h) : ab_R × ab_H))) (t := if (1 : Int32) = 0 then none else if (0 : Int32) = 0 then some (nI 1) else none) (x := nI 1) (lv := [(0, .ref (ab_SB + k))]) hl (by decide) rfl (Nat.le_of_ble_eq_true rfl) ?_ (by decide)
  refine ab_gst (pc := 0) (index := 38) kw_f02d67166e (by decide +kernel) ?_
  refine ab_if_eq (pc := 3) (off := 14) (tgt := 17) (by decide +kernel) (by decide) (fun g => absurd g (by decide)) (fun g => ?_)
  refine ab_aload_n (pc := 6) (n := 0) (i := 0) (j := 0) (by decide +kernel) rfl rfl ?_
  refine ab_gsC (pc := 7) (index := 15) hk kw_8baacb1265 (by decide +kernel) ?_
  refine ab_if_ne (pc := 10) (off := 7) (tgt := 17) (by decide +kernel) (by decide) (fun g => ?_) (fun g => absurd rfl g)
  refine ab_iconst (pc := 13) (n := 1) (v := nI 1) (by decide +kernel) rfl ?_
  refine ab_goto (pc := 14) (off := 4) (tgt := 18) (by decide +kernel) (by decide) ?_
  exact ab_nret (pc := 18) (by decide +kernel) rfl ab_bl1.1 rfl (Nat.zero_le _) (Nat.zero_le _)
theorem lkC_495 : ab_LS RJ0 495 mJ1_charAt_3b067 2 := ⟨iJ1_charAt_3b067, kw_67f9e9bae6, kw_b8f24e5b34⟩
theorem okJ0_charAt_5068e {l : Launch} (hl : l.stackTraces = false) {a : Nat} {i y : Int32} {h : ab_H} (e : ab_sC a i = some y) : ab_Met l mJ0_charAt_5068e [.ref a, .int i] h (.inl (some (.int y)), h) := by
  unfold ab_sC at e
  split at e
  · rename_i g
    obtain ⟨g1, g2, g3⟩ := g
    have hi : vp_in i (ab_len.getD (a - ab_SB) 0) := g3
    have e := Option.some.inj e
    subst e
    obtain ⟨k, rfl⟩ : ∃ k, a = ab_SB + k := ⟨a - ab_SB, by omega⟩
    rw [Nat.add_sub_cancel_left] at g2 hi ⊢
    refine ab_ofS (ρ := Int32) (io := (fun y : Int32 => ((.inl (some (.int y)), h) : ab_R × ab_H))) (t := ab_bd (some (nI 1)) (fun v : Int32 => if v = 0 then none else ab_bd (some (ab_ch ((ab_byt.getD k []).getD i.toNatClampNeg 0))) (fun z : Int32 => if z = ab_ch ((ab_byt.getD k []).getD i.toNatClampNeg 0) then some z else none))) (x := ab_ch ((ab_byt.getD k []).getD i.toNatClampNeg 0)) (lv := [(0, .ref (ab_SB + k)), (1, .int i)]) hl (by decide) rfl (Nat.le_of_ble_eq_true rfl) ?_ (by rw [ab_bd_some, if_neg (by decide), ab_bd_some, if_pos rfl])
    refine ab_aload_n (pc := 0) (n := 0) (i := 0) (j := 0) (by decide +kernel) rfl rfl ?_
    refine ab_callVs (As := []) (st := []) (pc := 1) (index := 492) iJ0_isLatin1_aae02 kw_b9407f5aef kw_80dfc3feb3 kw_10843aa6d5 rfl rfl rfl (by decide) (by decide) (Nat.le_of_ble_eq_true rfl) (by decide +kernel) (fun y9 e9 => ⟨Nat.le_add_right _ _, by rw [Nat.add_sub_cancel_left]; exact g2⟩) (fun y9 e9 => by cases e9; exact okJ0_isLatin1_aae02 hl g2) (fun v ev => ?_)
    refine ab_if_eq (pc := 4) (off := 12) (tgt := 16) (by decide +kernel) (by decide) (fun g => ab_none) (fun g => ?_)
    refine ab_aload_n (pc := 7) (n := 0) (i := 0) (j := 0) (by decide +kernel) rfl rfl ?_
    refine ab_gsV (pc := 8) (index := 9) g2 kw_d318968a1d (by decide +kernel) ?_
    refine ab_iload_n (pc := 11) (n := 1) (i := 1) (j := 1) (by decide +kernel) rfl rfl ?_
    refine ab_callSi (As := [.ref (ab_SB + 1000 + k), .int i]) (st := []) (pc := 12) lkC_495 rfl rfl rfl (by decide) (by decide) (Nat.le_of_ble_eq_true rfl) (by decide +kernel) (fun y9 e9 => by cases e9; exact okJ1_charAt_3b067 hl g2 hi) (fun v1 ev1 => ?_)
    cases ev1
    rw [if_pos rfl]
    exact ab_nret (pc := 15) (by decide +kernel) rfl (ab_chn _) rfl (Nat.zero_le _) (Nat.zero_le _)
  · cases e
theorem okJ0_coder_7d493 {l : Launch} (hl : l.stackTraces = false) {k : Nat} {h : ab_H} (hk : k < ab_N) : ab_Met l mJ0_coder_7d493 [.ref (ab_SB + k)] h (.inl (some (.int (0 : Int32))), h) := by
  refine ab_ofS (ρ := Int32) (io := (fun y : Int32 => ((.inl (some (.int y)), h) : ab_R × ab_H))) (t := if (1 : Int32) = 0 then none else some (0 : Int32)) (x := (0 : Int32)) (lv := [(0, .ref (ab_SB + k))]) hl (by decide) rfl (Nat.le_of_ble_eq_true rfl) ?_ (by decide)
  refine ab_gst (pc := 0) (index := 38) kw_f02d67166e (by decide +kernel) ?_
  refine ab_if_eq (pc := 3) (off := 10) (tgt := 13) (by decide +kernel) (by decide) (fun g => absurd g (by decide)) (fun g => ?_)
  refine ab_aload_n (pc := 6) (n := 0) (i := 0) (j := 0) (by decide +kernel) rfl rfl ?_
  refine ab_gsC (pc := 7) (index := 15) hk kw_8baacb1265 (by decide +kernel) ?_
  refine ab_goto (pc := 10) (off := 4) (tgt := 14) (by decide +kernel) (by decide) ?_
  exact ab_nret (pc := 14) (by decide +kernel) rfl (by decide) rfl (Nat.zero_le _) (Nat.zero_le _)
theorem ab_len_sh : ∀ k, k < ab_N → nI (ab_len.getD k 0) >>> ((0 : Int32) &&& 31) = nI (ab_len.getD k 0) := by decide +kernel
theorem okJ0_length_8abf5 {l : Launch} (hl : l.stackTraces = false) {a : Nat} {y : Int32} {h : ab_H} (e : ab_sL a = some y) : ab_Met l mJ0_length_8abf5 [.ref a] h (.inl (some (.int y)), h) := by
  unfold ab_sL at e
  split at e
  · rename_i g
    obtain ⟨g1, g2⟩ := g
    have e := Option.some.inj e
    subst e
    obtain ⟨k, rfl⟩ : ∃ k, a = ab_SB + k := ⟨a - ab_SB, by omega⟩
    rw [Nat.add_sub_cancel_left] at g2 ⊢
    refine ab_ofS (ρ := Int32) (io := (fun y : Int32 => ((.inl (some (.int y)), h) : ab_R × ab_H))) (t := ab_bd (some (0 : Int32)) (fun v : Int32 => some (nI (ab_len.getD k 0) >>> (v &&& 31)))) (x := nI (ab_len.getD k 0)) (lv := [(0, .ref (ab_SB + k))]) hl (by decide) rfl (Nat.le_of_ble_eq_true rfl) ?_ (by rw [ab_bd_some, ab_len_sh k g2])
    refine ab_aload_n (pc := 0) (n := 0) (i := 0) (j := 0) (by decide +kernel) rfl rfl ?_
    refine ab_gsV (pc := 1) (index := 9) g2 kw_d318968a1d (by decide +kernel) ?_
    refine ab_sal (pc := 4) g2 (by decide +kernel) ?_
    refine ab_aload_n (pc := 5) (n := 0) (i := 0) (j := 0) (by decide +kernel) rfl rfl ?_
    refine ab_callVs (As := []) (st := [.int (nI (ab_len.getD k 0))]) (pc := 6) (index := 335) iJ0_coder_7d493 kw_3f0ee5a89e kw_e22512472a kw_ff81b469d5 rfl rfl rfl (by decide) (by decide) (Nat.le_of_ble_eq_true rfl) (by decide +kernel) (fun y9 e9 => ⟨Nat.le_add_right _ _, by rw [Nat.add_sub_cancel_left]; exact g2⟩) (fun y9 e9 => by cases e9; exact okJ0_coder_7d493 hl g2) (fun v ev => ?_)
    refine ab_ishr (pc := 9) (by decide +kernel) ?_
    exact ab_iret (pc := 10) (by decide +kernel) rfl rfl (Nat.zero_le _) (Nat.zero_le _)
  · cases e
