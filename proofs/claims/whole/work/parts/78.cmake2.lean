/-! ===== the class: findings made alone, rounds made ===== -/
set_option maxRecDepth 20000 in
theorem st_X9_apply_0 {E : jE} {G : jG} {I : jM} {q : Int → jM → Prop} {m : Nat} {x1 : Int} (hm : WX9 G m) (hT : (∀ a j, jRg (G.2.1 a).1 (I a j)) → jIn x1 → jRA E jB kX9_found [VR m] G I (fun r2 I1 => WX1 G r2 ∧ jRI E jB kX1_has [VR r2, VI x1] G I1 (fun r5 I4 => ((r5 = 0 → q (-1) I4) ∧ (¬ r5 = 0 → jRI E jB kX1_isMarked [VR r2, VI x1, VI 1] G I4 (fun r8 I7 => ((r8 = 0 → (∀ M11, M11 = jup I7 (m + 167) 0 x1 → jRI E jB kX1_lengthBehind [VR r2, VR (m + 167), VI 1] G M11 (fun r13 I12 => ((r13 ≤ 200 → jRV E jB kX1_rewrite [VR r2, VR (m + 167), VI 1, VR (m + 1)] G I12 (fun I15 => jRV E jB kX9_keepStep [VR m] G I15 (fun I16 => jRV E jB kX4_copyFrom [VR (m + 196), VR (m + 1)] G I16 (fun I17 => q (I17 (m + 196) 2) I17)))) ∧ (¬ r13 ≤ 200 → q (-1) I12))))) ∧ (¬ r8 = 0 → q (-1) I7)))))))) : jOI E jB kX9_apply 0 [VR m, VI x1, VN] G I q := by
  intro I0 hF
  refine jOk_mem (fun hI => ?_)
  refine jOk_in (i := 1) rfl (fun hx1 => ?_)
  replace hT := hT hI hx1
  refine r_aload_n dX9_apply_0 rfl (i := 0) rfl ?_
  refine rr_cVA (a := m) (as := []) (st := []) dX9_apply_1 mt_X9_found ml_X9_182 mi_X9_found rm_X9_apply_X9_found jz_X9_found ⟨Nat.zero_le _, Nat.zero_le _⟩ (Nat.le_of_ble_eq_true rfl) (wX9_l hm) (wX9_c hm) jas0 hT (fun r2 I1 hFI1 hT => ?_)
  replace hFI1 := jFr_tr hF hFI1
  refine jOk_mem (fun hI1 => ?_)
  obtain ⟨hc3, hT⟩ := hT
  refine rr_astore_n (i := 2) (ls' := [VR m, VI x1, VR r2]) dX9_apply_4 rfl (Nat.le_of_ble_eq_true rfl) rfl rfl ?_
  refine r_aload_n dX9_apply_5 rfl (i := 2) rfl ?_
  refine r_iload_n dX9_apply_6 rfl (i := 1) rfl ?_
  refine rr_cVI (a := r2) (as := [VI x1]) (st := []) dX9_apply_7 mt_X1_has ml_X9_186 mi_X1_has rm_X9_apply_X1_has jz_X1_has ⟨Nat.zero_le _, Nat.zero_le _⟩ (Nat.le_of_ble_eq_true rfl) (wX1_l hc3) (wX1_c hc3) (jasI hx1 jas0) hT (fun r5 I4 hc6 hFI4 hT => ?_)
  replace hFI4 := jFr_tr hFI1 hFI4
  refine jOk_mem (fun hI4 => ?_)
  refine r_if_eq (tgt := 22) dX9_apply_10 rfl hc6 (fun hcc => ?_) (fun hcc => ?_)
  · replace hT := hT.1 hcc
    refine r_iconst (n := (-1)) dX9_apply_22 ?_
    exact r_iret dX9_apply_23 rfl ⟨by decide, by decide⟩ ⟨Nat.zero_le _, Nat.zero_le _⟩ ⟨_, rfl, rfl, hFI4, hT⟩
  · replace hT := hT.2 hcc
    refine r_aload_n dX9_apply_13 rfl (i := 2) rfl ?_
    refine r_iload_n dX9_apply_14 rfl (i := 1) rfl ?_
    refine r_iconst (n := 1) dX9_apply_15 ?_
    refine rr_cVI (a := r2) (as := [VI x1, VI 1]) (st := []) dX9_apply_16 mt_X1_isMarked ml_X9_189 mi_X1_isMarked rm_X9_apply_X1_isMarked jz_X1_isMarked ⟨Nat.zero_le _, Nat.zero_le _⟩ (Nat.le_of_ble_eq_true rfl) (wX1_l hc3) (wX1_c hc3) (jasI hx1 (jasI ⟨by decide, by decide⟩ jas0)) hT (fun r8 I7 hc9 hFI7 hT => ?_)
    replace hFI7 := jFr_tr hFI4 hFI7
    refine jOk_mem (fun hI7 => ?_)
    refine r_if_eq (tgt := 24) dX9_apply_19 rfl hc9 (fun hcc => ?_) (fun hcc => ?_)
    · replace hT := hT.1 hcc
      refine r_aload_n dX9_apply_24 rfl (i := 0) rfl ?_
      refine rr_getR (b := (m + 167)) dX9_apply_25 fg_X9_30 rfl rfl (wX9_l hm) (wX9_s hm) (wX9_r17 hm) ?_
      refine r_iconst (n := 0) dX9_apply_28 ?_
      refine r_iload_n dX9_apply_29 rfl (i := 1) rfl ?_
      refine rr_iastore dX9_apply_30 (wX9_l17 hm) (wX9_a17 hm) (by decide) ⟨by decide, by decide⟩ hx1 (fun M11 eM11 => ?_)
      have hFM11 := jFr_up hFI7 eM11 (wX9_f hm 167 (by decide))
      replace hT := hT M11 eM11
      refine jOk_mem (fun hIM11 => ?_)
      refine r_aload_n dX9_apply_31 rfl (i := 2) rfl ?_
      refine r_aload_n dX9_apply_32 rfl (i := 0) rfl ?_
      refine rr_getR (b := (m + 167)) dX9_apply_33 fg_X9_30 rfl rfl (wX9_l hm) (wX9_s hm) (wX9_r17 hm) ?_
      refine r_iconst (n := 1) dX9_apply_36 ?_
      refine rr_cVI (a := r2) (as := [VR (m + 167), VI 1]) (st := []) dX9_apply_37 mt_X1_lengthBehind ml_X9_192 mi_X1_lengthBehind rm_X9_apply_X1_lengthBehind jz_X1_lengthBehind ⟨Nat.zero_le _, Nat.zero_le _⟩ (Nat.le_of_ble_eq_true rfl) (wX1_l hc3) (wX1_c hc3) (jasR (jasI ⟨by decide, by decide⟩ jas0)) hT (fun r13 I12 hc14 hFI12 hT => ?_)
      replace hFI12 := jFr_tr hFM11 hFI12
      refine jOk_mem (fun hI12 => ?_)
      refine r_sipush (n := 200) dX9_apply_40 (by decide +kernel) ?_
      refine r_icmp_le (tgt := 48) dX9_apply_43 rfl hc14 ⟨by decide, by decide⟩ (fun hcc => ?_) (fun hcc => ?_)
      · replace hT := hT.1 hcc
        refine r_aload_n dX9_apply_48 rfl (i := 2) rfl ?_
        refine r_aload_n dX9_apply_49 rfl (i := 0) rfl ?_
        refine rr_getR (b := (m + 167)) dX9_apply_50 fg_X9_30 rfl rfl (wX9_l hm) (wX9_s hm) (wX9_r17 hm) ?_
        refine r_iconst (n := 1) dX9_apply_53 ?_
        refine r_aload_n dX9_apply_54 rfl (i := 0) rfl ?_
        refine rr_getR (b := (m + 1)) dX9_apply_55 fg_X9_12 rfl rfl (wX9_l hm) (wX9_s hm) (wX9_r8 hm) ?_
        refine rr_cVV (a := r2) (as := [VR (m + 167), VI 1, VR (m + 1)]) (st := []) dX9_apply_58 mt_X1_rewrite ml_X9_196 mi_X1_rewrite rm_X9_apply_X1_rewrite jz_X1_rewrite ⟨Nat.zero_le _, Nat.zero_le _⟩ (Nat.le_of_ble_eq_true rfl) (wX1_l hc3) (wX1_c hc3) (jasR (jasI ⟨by decide, by decide⟩ (jasR jas0))) hT (fun I15 hFI15 hT => ?_)
        replace hFI15 := jFr_tr hFI12 hFI15
        refine jOk_mem (fun hI15 => ?_)
        refine r_aload_n dX9_apply_61 rfl (i := 0) rfl ?_
        refine rr_cVV (a := m) (as := []) (st := []) dX9_apply_62 mt_X9_keepStep ml_X9_100 mi_X9_keepStep rm_X9_apply_X9_keepStep jz_X9_keepStep ⟨Nat.zero_le _, Nat.zero_le _⟩ (Nat.le_of_ble_eq_true rfl) (wX9_l hm) (wX9_c hm) jas0 hT (fun I16 hFI16 hT => ?_)
        replace hFI16 := jFr_tr hFI15 hFI16
        refine jOk_mem (fun hI16 => ?_)
        refine r_aload_n dX9_apply_65 rfl (i := 0) rfl ?_
        refine rr_getR (b := (m + 195)) dX9_apply_66 fg_X9_59 rfl rfl (wX9_l hm) (wX9_s hm) (wX9_r4 hm) ?_
        refine rr_getR (b := (m + 196)) dX9_apply_69 fg_X9_103 rfl rfl (wX7_l (wX9_o4 hm)) (wX7_s (wX9_o4 hm)) (wX7_r0 (wX9_o4 hm)) ?_
        refine r_aload_n dX9_apply_72 rfl (i := 0) rfl ?_
        refine rr_getR (b := (m + 1)) dX9_apply_73 fg_X9_12 rfl rfl (wX9_l hm) (wX9_s hm) (wX9_r8 hm) ?_
        refine rr_cVV (a := (m + 196)) (as := [VR (m + 1)]) (st := []) dX9_apply_76 mt_X4_copyFrom ml_X9_200 mi_X4_copyFrom rm_X9_apply_X4_copyFrom jz_X4_copyFrom ⟨Nat.zero_le _, Nat.zero_le _⟩ (Nat.le_of_ble_eq_true rfl) (wX4_l (wX7_o0 (wX9_o4 hm))) (wX4_c (wX7_o0 (wX9_o4 hm))) (jasR jas0) hT (fun I17 hFI17 hT => ?_)
        replace hFI17 := jFr_tr hFI16 hFI17
        refine jOk_mem (fun hI17 => ?_)
        refine r_aload_n dX9_apply_79 rfl (i := 0) rfl ?_
        refine rr_getR (b := (m + 195)) dX9_apply_80 fg_X9_59 rfl rfl (wX9_l hm) (wX9_s hm) (wX9_r4 hm) ?_
        refine rr_getR (b := (m + 196)) dX9_apply_83 fg_X9_103 rfl rfl (wX7_l (wX9_o4 hm)) (wX7_s (wX9_o4 hm)) (wX7_r0 (wX9_o4 hm)) ?_
        refine rr_getI (v := I17 (m + 196) 2) dX9_apply_86 fg_X9_138 rfl (wX4_l (wX7_o0 (wX9_o4 hm))) (wX4_s (wX7_o0 (wX9_o4 hm))) rfl ?_
        exact r_iret dX9_apply_89 rfl (hI17 _ _).inR ⟨Nat.zero_le _, Nat.zero_le _⟩ ⟨_, rfl, rfl, hFI17, hT⟩
      · replace hT := hT.2 hcc
        refine r_iconst (n := (-1)) dX9_apply_46 ?_
        exact r_iret dX9_apply_47 rfl ⟨by decide, by decide⟩ ⟨Nat.zero_le _, Nat.zero_le _⟩ ⟨_, rfl, rfl, hFI12, hT⟩
    · replace hT := hT.2 hcc
      refine r_iconst (n := (-1)) dX9_apply_22 ?_
      exact r_iret dX9_apply_23 rfl ⟨by decide, by decide⟩ ⟨Nat.zero_le _, Nat.zero_le _⟩ ⟨_, rfl, rfl, hFI7, hT⟩
theorem en_X9_apply {E : jE} {G : jG} {I : jM} {q : Int → jM → Prop} {m : Nat} {x1 : Int} (hm : WX9 G m) (hT : (∀ a j, jRg (G.2.1 a).1 (I a j)) → jIn x1 → jRA E jB kX9_found [VR m] G I (fun r2 I1 => WX1 G r2 ∧ jRI E jB kX1_has [VR r2, VI x1] G I1 (fun r5 I4 => ((r5 = 0 → q (-1) I4) ∧ (¬ r5 = 0 → jRI E jB kX1_isMarked [VR r2, VI x1, VI 1] G I4 (fun r8 I7 => ((r8 = 0 → (∀ M11, M11 = jup I7 (m + 167) 0 x1 → jRI E jB kX1_lengthBehind [VR r2, VR (m + 167), VI 1] G M11 (fun r13 I12 => ((r13 ≤ 200 → jRV E jB kX1_rewrite [VR r2, VR (m + 167), VI 1, VR (m + 1)] G I12 (fun I15 => jRV E jB kX9_keepStep [VR m] G I15 (fun I16 => jRV E jB kX4_copyFrom [VR (m + 196), VR (m + 1)] G I16 (fun I17 => q (I17 (m + 196) 2) I17)))) ∧ (¬ r13 ≤ 200 → q (-1) I12))))) ∧ (¬ r8 = 0 → q (-1) I7)))))))) : jRI E jB kX9_apply [VR m, VI x1] G I q := jRun.of mt_X9_apply.2.2.2 1 rfl (fun _ => st_X9_apply_0 hm hT I (fun _ _ => rfl))
set_option maxRecDepth 20000 in
theorem st_X9_makeRound_0 {E : jE} {G : jG} {I : jM} {q : jM → Prop} {m : Nat} (hm : WX9 G m) (hT : (∀ a j, jRg (G.2.1 a).1 (I a j)) → jRA E jB kX9_found [VR m] G I (fun r2 I1 => WX1 G r2 ∧ jRV E jB kX1_rewrite [VR r2, VR (r2 + 13), VI (I1 r2 15), VR (m + 1)] G I1 (fun I4 => jRI E jB kX1_pickedValue [VR r2] G I4 (fun r6 I5 => jRV E jB kX7_enterRound [VR (m + 195), VI (I4 r2 15), VI r6, VI (I5 (m + 1) 2)] G I5 (fun I8 => jRV E jB kX4_copyFrom [VR (m + 196), VR (m + 1)] G I8 (fun I9 => jRV E jB kX9_forget [VR m] G I9 (fun I10 => q I10))))))) : jOV E jB kX9_makeRound 0 [VR m, VN] G I q := by
  intro I0 hF
  refine jOk_mem (fun hI => ?_)
  replace hT := hT hI 
  refine r_aload_n dX9_makeRound_0 rfl (i := 0) rfl ?_
  refine rr_cVA (a := m) (as := []) (st := []) dX9_makeRound_1 mt_X9_found ml_X9_182 mi_X9_found rm_X9_makeRound_X9_found jz_X9_found ⟨Nat.zero_le _, Nat.zero_le _⟩ (Nat.le_of_ble_eq_true rfl) (wX9_l hm) (wX9_c hm) jas0 hT (fun r2 I1 hFI1 hT => ?_)
  replace hFI1 := jFr_tr hF hFI1
  refine jOk_mem (fun hI1 => ?_)
  obtain ⟨hc3, hT⟩ := hT
  refine rr_astore_n (i := 1) (ls' := [VR m, VR r2]) dX9_makeRound_4 rfl (Nat.le_of_ble_eq_true rfl) rfl rfl ?_
  refine r_aload_n dX9_makeRound_5 rfl (i := 1) rfl ?_
  refine r_aload_n dX9_makeRound_6 rfl (i := 1) rfl ?_
  refine rr_getR (b := (r2 + 13)) dX9_makeRound_7 fg_X9_299 rfl rfl (wX1_l hc3) (wX1_s hc3) (wX1_r14 hc3) ?_
  refine r_aload_n dX9_makeRound_10 rfl (i := 1) rfl ?_
  refine rr_getI (v := I1 r2 15) dX9_makeRound_11 fg_X9_296 rfl (wX1_l hc3) (wX1_s hc3) rfl ?_
  refine r_aload_n dX9_makeRound_14 rfl (i := 0) rfl ?_
  refine rr_getR (b := (m + 1)) dX9_makeRound_15 fg_X9_12 rfl rfl (wX9_l hm) (wX9_s hm) (wX9_r8 hm) ?_
  refine rr_cVV (a := r2) (as := [VR (r2 + 13), VI (I1 r2 15), VR (m + 1)]) (st := []) dX9_makeRound_18 mt_X1_rewrite ml_X9_196 mi_X1_rewrite rm_X9_makeRound_X1_rewrite jz_X1_rewrite ⟨Nat.zero_le _, Nat.zero_le _⟩ (Nat.le_of_ble_eq_true rfl) (wX1_l hc3) (wX1_c hc3) (jasR (jasI (hI1 _ _).inR (jasR jas0))) hT (fun I4 hFI4 hT => ?_)
  replace hFI4 := jFr_tr hFI1 hFI4
  refine jOk_mem (fun hI4 => ?_)
  refine r_aload_n dX9_makeRound_21 rfl (i := 0) rfl ?_
  refine rr_getR (b := (m + 195)) dX9_makeRound_22 fg_X9_59 rfl rfl (wX9_l hm) (wX9_s hm) (wX9_r4 hm) ?_
  refine r_aload_n dX9_makeRound_25 rfl (i := 1) rfl ?_
  refine rr_getI (v := I4 r2 15) dX9_makeRound_26 fg_X9_296 rfl (wX1_l hc3) (wX1_s hc3) rfl ?_
  refine r_aload_n dX9_makeRound_29 rfl (i := 1) rfl ?_
  refine rr_cVI (a := r2) (as := []) (st := [VI (I4 r2 15), VR (m + 195)]) dX9_makeRound_30 mt_X1_pickedValue ml_X9_302 mi_X1_pickedValue rm_X9_makeRound_X1_pickedValue jz_X1_pickedValue ⟨Nat.zero_le _, Nat.zero_le _⟩ (Nat.le_of_ble_eq_true rfl) (wX1_l hc3) (wX1_c hc3) jas0 hT (fun r6 I5 hc7 hFI5 hT => ?_)
  replace hFI5 := jFr_tr hFI4 hFI5
  refine jOk_mem (fun hI5 => ?_)
  refine r_aload_n dX9_makeRound_33 rfl (i := 0) rfl ?_
  refine rr_getR (b := (m + 1)) dX9_makeRound_34 fg_X9_12 rfl rfl (wX9_l hm) (wX9_s hm) (wX9_r8 hm) ?_
  refine rr_getI (v := I5 (m + 1) 2) dX9_makeRound_37 fg_X9_138 rfl (wX4_l (wX9_o8 hm)) (wX4_s (wX9_o8 hm)) rfl ?_
  refine rr_cVV (a := (m + 195)) (as := [VI (I4 r2 15), VI r6, VI (I5 (m + 1) 2)]) (st := []) dX9_makeRound_40 mt_X7_enterRound ml_X9_414 mi_X7_enterRound rm_X9_makeRound_X7_enterRound jz_X7_enterRound ⟨Nat.zero_le _, Nat.zero_le _⟩ (Nat.le_of_ble_eq_true rfl) (wX7_l (wX9_o4 hm)) (wX7_c (wX9_o4 hm)) (jasI (hI4 _ _).inR (jasI hc7 (jasI (hI5 _ _).inR jas0))) hT (fun I8 hFI8 hT => ?_)
  replace hFI8 := jFr_tr hFI5 hFI8
  refine jOk_mem (fun hI8 => ?_)
  refine r_aload_n dX9_makeRound_43 rfl (i := 0) rfl ?_
  refine rr_getR (b := (m + 195)) dX9_makeRound_44 fg_X9_59 rfl rfl (wX9_l hm) (wX9_s hm) (wX9_r4 hm) ?_
  refine rr_getR (b := (m + 196)) dX9_makeRound_47 fg_X9_103 rfl rfl (wX7_l (wX9_o4 hm)) (wX7_s (wX9_o4 hm)) (wX7_r0 (wX9_o4 hm)) ?_
  refine r_aload_n dX9_makeRound_50 rfl (i := 0) rfl ?_
  refine rr_getR (b := (m + 1)) dX9_makeRound_51 fg_X9_12 rfl rfl (wX9_l hm) (wX9_s hm) (wX9_r8 hm) ?_
  refine rr_cVV (a := (m + 196)) (as := [VR (m + 1)]) (st := []) dX9_makeRound_54 mt_X4_copyFrom ml_X9_200 mi_X4_copyFrom rm_X9_makeRound_X4_copyFrom jz_X4_copyFrom ⟨Nat.zero_le _, Nat.zero_le _⟩ (Nat.le_of_ble_eq_true rfl) (wX4_l (wX7_o0 (wX9_o4 hm))) (wX4_c (wX7_o0 (wX9_o4 hm))) (jasR jas0) hT (fun I9 hFI9 hT => ?_)
  replace hFI9 := jFr_tr hFI8 hFI9
  refine jOk_mem (fun hI9 => ?_)
  refine r_aload_n dX9_makeRound_57 rfl (i := 0) rfl ?_
  refine rr_cVV (a := m) (as := []) (st := []) dX9_makeRound_58 mt_X9_forget ml_X9_218 mi_X9_forget rm_X9_makeRound_X9_forget jz_X9_forget ⟨Nat.zero_le _, Nat.zero_le _⟩ (Nat.le_of_ble_eq_true rfl) (wX9_l hm) (wX9_c hm) jas0 hT (fun I10 hFI10 hT => ?_)
  replace hFI10 := jFr_tr hFI9 hFI10
  refine jOk_mem (fun hI10 => ?_)
  exact r_vret dX9_makeRound_61 rfl ⟨Nat.zero_le _, Nat.zero_le _⟩ ⟨rfl, rfl, hFI10, hT⟩
theorem en_X9_makeRound {E : jE} {G : jG} {I : jM} {q : jM → Prop} {m : Nat} (hm : WX9 G m) (hT : (∀ a j, jRg (G.2.1 a).1 (I a j)) → jRA E jB kX9_found [VR m] G I (fun r2 I1 => WX1 G r2 ∧ jRV E jB kX1_rewrite [VR r2, VR (r2 + 13), VI (I1 r2 15), VR (m + 1)] G I1 (fun I4 => jRI E jB kX1_pickedValue [VR r2] G I4 (fun r6 I5 => jRV E jB kX7_enterRound [VR (m + 195), VI (I4 r2 15), VI r6, VI (I5 (m + 1) 2)] G I5 (fun I8 => jRV E jB kX4_copyFrom [VR (m + 196), VR (m + 1)] G I8 (fun I9 => jRV E jB kX9_forget [VR m] G I9 (fun I10 => q I10))))))) : jRV E jB kX9_makeRound [VR m] G I q := jRun.of mt_X9_makeRound.2.2.2 1 rfl (fun _ => st_X9_makeRound_0 hm hT I (fun _ _ => rfl))
set_option maxRecDepth 20000 in
theorem st_X9_make_26 {E : jE} {G : jG} {I : jM} {q : Int → jM → Prop} {m : Nat} {x1 : Int} {x2 : Int} (hm : WX9 G m) (hT : (∀ a j, jRg (G.2.1 a).1 (I a j)) → jIn x1 → jIn x2 → ((x1 ≤ x2 → q x2 I) ∧ (¬ x1 ≤ x2 → jRA E jB kX9_found [VR m] G I (fun r2 I1 => WX1 G r2 ∧ jRI E jB kX1_canBeMade [VR r2] G I1 (fun r5 I4 => ((r5 = 0 → q x2 I4) ∧ (¬ r5 = 0 → jRV E jB kX9_makeRound [VR m] G I4 (fun I7 => jIn (x2 + 1) ∧ jOI E jB kX9_make 26 [VR m, VI x1, VI (x2 + 1)] G I7 q)))))))) : jOI E jB kX9_make 26 [VR m, VI x1, VI x2] G I q := by
  intro I0 hF
  refine jOk_mem (fun hI => ?_)
  refine jOk_in (i := 1) rfl (fun hx1 => ?_)
  refine jOk_in (i := 2) rfl (fun hx2 => ?_)
  replace hT := hT hI hx1 hx2
  refine r_iload_n dX9_make_26 rfl (i := 2) rfl ?_
  refine r_iload_n dX9_make_27 rfl (i := 1) rfl ?_
  refine r_icmp_ge (tgt := 51) dX9_make_28 rfl hx2 hx1 (fun hcc => ?_) (fun hcc => ?_)
  · replace hT := hT.1 hcc
    refine r_iload_n dX9_make_51 rfl (i := 2) rfl ?_
    exact r_iret dX9_make_52 rfl hx2 ⟨Nat.zero_le _, Nat.zero_le _⟩ ⟨_, rfl, rfl, hF, hT⟩
  · replace hT := hT.2 hcc
    refine r_aload_n dX9_make_31 rfl (i := 0) rfl ?_
    refine rr_cVA (a := m) (as := []) (st := []) dX9_make_32 mt_X9_found ml_X9_182 mi_X9_found rm_X9_make_X9_found jz_X9_found ⟨Nat.zero_le _, Nat.zero_le _⟩ (Nat.le_of_ble_eq_true rfl) (wX9_l hm) (wX9_c hm) jas0 hT (fun r2 I1 hFI1 hT => ?_)
    replace hFI1 := jFr_tr hF hFI1
    refine jOk_mem (fun hI1 => ?_)
    obtain ⟨hc3, hT⟩ := hT
    refine rr_cVI (a := r2) (as := []) (st := []) dX9_make_35 mt_X1_canBeMade ml_X9_207 mi_X1_canBeMade rm_X9_make_X1_canBeMade jz_X1_canBeMade ⟨Nat.zero_le _, Nat.zero_le _⟩ (Nat.le_of_ble_eq_true rfl) (wX1_l hc3) (wX1_c hc3) jas0 hT (fun r5 I4 hc6 hFI4 hT => ?_)
    replace hFI4 := jFr_tr hFI1 hFI4
    refine jOk_mem (fun hI4 => ?_)
    refine r_if_eq (tgt := 51) dX9_make_38 rfl hc6 (fun hcc => ?_) (fun hcc => ?_)
    · replace hT := hT.1 hcc
      refine r_iload_n dX9_make_51 rfl (i := 2) rfl ?_
      exact r_iret dX9_make_52 rfl hx2 ⟨Nat.zero_le _, Nat.zero_le _⟩ ⟨_, rfl, rfl, hFI4, hT⟩
    · replace hT := hT.2 hcc
      refine r_aload_n dX9_make_41 rfl (i := 0) rfl ?_
      refine rr_cVV (a := m) (as := []) (st := []) dX9_make_42 mt_X9_makeRound ml_X9_211 mi_X9_makeRound rm_X9_make_X9_makeRound jz_X9_makeRound ⟨Nat.zero_le _, Nat.zero_le _⟩ (Nat.le_of_ble_eq_true rfl) (wX9_l hm) (wX9_c hm) jas0 hT (fun I7 hFI7 hT => ?_)
      replace hFI7 := jFr_tr hFI4 hFI7
      refine jOk_mem (fun hI7 => ?_)
      obtain ⟨hc8, hT⟩ := hT
      refine rr_iinc (i := 2) (ls' := [VR m, VI x1, VI (x2 + 1)]) dX9_make_45 rfl (Nat.le_of_ble_eq_true rfl) rfl rfl hc8 ?_
      refine r_goto (tgt := 26) dX9_make_48 rfl ?_
      exact hT I0 hFI7
set_option maxRecDepth 20000 in
theorem st_X9_make_0 {E : jE} {G : jG} {I : jM} {q : Int → jM → Prop} {m : Nat} {x1 : Int} (hm : WX9 G m) (hT : (∀ a j, jRg (G.2.1 a).1 (I a j)) → jIn x1 → ((x1 < 1 → q (-1) I) ∧ (¬ x1 < 1 → ((x1 ≤ 30 → jRV E jB kX2_keep [VR (m + 205), VR (m + 195)] G I (fun I1 => jOI E jB kX9_make 26 [VR m, VI x1, VI 0] G I1 q)) ∧ (¬ x1 ≤ 30 → q (-1) I))))) : jOI E jB kX9_make 0 [VR m, VI x1, VN] G I q := by
  intro I0 hF
  refine jOk_mem (fun hI => ?_)
  refine jOk_in (i := 1) rfl (fun hx1 => ?_)
  replace hT := hT hI hx1
  refine r_iload_n dX9_make_0 rfl (i := 1) rfl ?_
  refine r_iconst (n := 1) dX9_make_1 ?_
  refine r_icmp_lt (tgt := 11) dX9_make_2 rfl hx1 ⟨by decide, by decide⟩ (fun hcc => ?_) (fun hcc => ?_)
  · replace hT := hT.1 hcc
    refine r_iconst (n := (-1)) dX9_make_11 ?_
    exact r_iret dX9_make_12 rfl ⟨by decide, by decide⟩ ⟨Nat.zero_le _, Nat.zero_le _⟩ ⟨_, rfl, rfl, hF, hT⟩
  · replace hT := hT.2 hcc
    refine r_iload_n dX9_make_5 rfl (i := 1) rfl ?_
    refine r_bipush (n := 30) dX9_make_6 (by decide +kernel) ?_
    refine r_icmp_le (tgt := 13) dX9_make_8 rfl hx1 ⟨by decide, by decide⟩ (fun hcc => ?_) (fun hcc => ?_)
    · replace hT := hT.1 hcc
      refine r_aload_n dX9_make_13 rfl (i := 0) rfl ?_
      refine rr_getR (b := (m + 205)) dX9_make_14 fg_X9_66 rfl rfl (wX9_l hm) (wX9_s hm) (wX9_r5 hm) ?_
      refine r_aload_n dX9_make_17 rfl (i := 0) rfl ?_
      refine rr_getR (b := (m + 195)) dX9_make_18 fg_X9_59 rfl rfl (wX9_l hm) (wX9_s hm) (wX9_r4 hm) ?_
      refine rr_cVV (a := (m + 205)) (as := [VR (m + 195)]) (st := []) dX9_make_21 mt_X2_keep ml_X9_204 mi_X2_keep rm_X9_make_X2_keep jz_X2_keep ⟨Nat.zero_le _, Nat.zero_le _⟩ (Nat.le_of_ble_eq_true rfl) (wX2_l (wX9_o5 hm)) (wX2_c (wX9_o5 hm)) (jasR jas0) hT (fun I1 hFI1 hT => ?_)
      replace hFI1 := jFr_tr hF hFI1
      refine jOk_mem (fun hI1 => ?_)
      refine r_iconst (n := 0) dX9_make_24 ?_
      refine rr_istore_n (i := 2) (ls' := [VR m, VI x1, VI 0]) dX9_make_25 rfl (Nat.le_of_ble_eq_true rfl) rfl rfl ⟨by decide, by decide⟩ ?_
      exact hT I0 hFI1
    · replace hT := hT.2 hcc
      refine r_iconst (n := (-1)) dX9_make_11 ?_
      exact r_iret dX9_make_12 rfl ⟨by decide, by decide⟩ ⟨Nat.zero_le _, Nat.zero_le _⟩ ⟨_, rfl, rfl, hF, hT⟩
theorem en_X9_make {E : jE} {G : jG} {I : jM} {q : Int → jM → Prop} {m : Nat} {x1 : Int} (hm : WX9 G m) (hT : (∀ a j, jRg (G.2.1 a).1 (I a j)) → jIn x1 → ((x1 < 1 → q (-1) I) ∧ (¬ x1 < 1 → ((x1 ≤ 30 → jRV E jB kX2_keep [VR (m + 205), VR (m + 195)] G I (fun I1 => jOI E jB kX9_make 26 [VR m, VI x1, VI 0] G I1 q)) ∧ (¬ x1 ≤ 30 → q (-1) I))))) : jRI E jB kX9_make [VR m, VI x1] G I q := jRun.of mt_X9_make.2.2.2 1 rfl (fun _ => st_X9_make_0 hm hT I (fun _ _ => rfl))
section CV
variable {E : jE} {G : jG} {m δ : Nat} {I I' : jM} {B B' Y : Int → Int} {H H' : List (Int → Int)} {T : List Int} {fk fp c : Int}
theorem cl_apply (h : CC G m δ I B H B' H' T fk fp) (hW : BW c B) (hc : c ≤ 1000000) {i : Int} : jRI E jB kX9_apply [VR m, VI i] G I (fun x I' => (¬ canA B i → x = -1 ∧ CC G m δ I' B H B' H' T fk fp) ∧ (canA B i → x = mkS B [i] 2 ∧ CC G m δ I' (mkS B [i]) (pushH H B) B' H' T fk fp)) := by
  have hm := h.1.1.2.1
  have h0 := h.1.1.1
  have hQ := hW.1
  have h3 := hQ.2.2.1
  refine en_X9_apply hm (fun _ _ => (cl_found h hW).mono (fun a I1 _ g => ?_))
  obtain ⟨rfl, hφ, hc1, ⟨ρ, hL, l2, l3⟩, -⟩ := g
  refine ⟨hφ, (cl_has hL).mono (fun y I4 _ _ gy => ?_)⟩
  obtain ⟨rfl, rfl⟩ := gy
  refine ⟨fun q => ⟨fun _ => ⟨rfl, hc1⟩, fun g => absurd g.1 (jI_n q)⟩, fun q => ?_⟩
  have hi := jI_p q
  refine (cl_isMarked hL hQ hi.1 hi.2 (Or.inl rfl)).mono (fun y I7 _ _ gy => ?_)
  obtain ⟨rfl, rfl⟩ := gy
  refine ⟨fun q2 M11 e11 => ?_, fun q2 => ⟨fun _ => ⟨rfl, hc1⟩, fun g => absurd (mrk_1.mp (jI_p q2)) g.2.1⟩⟩
  have hns : ¬ fSi B i := fun g => jI_n q2 (mrk_1.mpr g)
  have f11 : Fr (m + 167) (m + 168) I7 M11 := Fr.up e11 (by omega)
  have hc11 : CC G m δ M11 B H B' H' T fk fp := hc1.fr (fun a j qa => f11 a j (by omega))
  have hL11 := hL.of f11 (by omega) (by omega) (by omega)
  have hsing : ∀ k : Nat, k < [i].length → M11 (m + 167) k = [i].getD k 0 := fun k hk => by
    have e : k = 0 := by simp at hk; exact hk
    subst e
    exact jr_eq e11
  have es : sumG B [i] = grow B i := by rw [sumG_cons]; show grow B i + 0 = _; omega
  have hCh := one_Ch hQ (FLok hQ) hi.1 hi.2
  refine (cl_lengthBehind hL11 hQ (wX9_l17 hm) (wX9_a17 hm) (by decide) (L := [i]) hsing (Nat.le_refl 1) (show 1 ≤ 200 by decide) (fun f hf => by rw [List.mem_singleton.mp hf]; exact hi)).mono (fun y I12 _ _ gy => ?_)
  obtain ⟨rfl, rfl⟩ := gy
  rw [es]
  refine ⟨fun q3 => ?_, fun q3 => ⟨fun _ => ⟨rfl, hc11⟩, fun g => absurd g.2.2 q3⟩⟩
  have hnl := newL_len _ _ _ hCh
  rw [es] at hnl
  have hnew : (newL B [i] 0).length ≤ 200 := by omega
  refine (cl_rewrite hL11 hQ (wX9_o8 hm) (by omega) (by omega) (by omega) (wX9_l17 hm) (wX9_a17 hm) (by decide) (by omega) (L := [i]) hsing (Nat.le_refl 1) (show 1 ≤ 200 by decide) hCh hnew (hW.sp hc)).mono (fun I15 _ g15 => ?_)
  have hc15 : CC G m δ I15 B H B' H' T fk fp := hc11.fr (fun a j qa => g15.2 a j (by omega) (by omega) (by omega))
  refine (cl_keepStep hc15.1).mono (fun I16 _ g16 => ?_)
  have hsp16 : PG (m + 1) (mkS B [i]) I16 := g15.1.fr (fun a j a0 a1 => g16.2.2 a j (by omega) (by omega))
  refine (cl_pageCopy (wX7_o0 (wX9_o4 hm)) (wX9_o8 hm) (by omega) hsp16).mono (fun I17 _ g17 => ⟨fun g => absurd ⟨hi, hns, q3⟩ g, fun _ => ⟨g17.1.1.1.1, ?_, CK.zero (g16.2.1.fr (fun j _ => g17.2 _ _ (by omega)))⟩⟩)
  have hS := g16.1.2.1
  have f2 : Fr (m + 195) (m + 204) I16 I17 := g17.2.mono (by omega) (by omega)
  have u : ∀ j, j ≠ 2 → ¬ (10 ≤ j ∧ j < 426) → mkS B [i] j = B j := fun j a b => mkS_o a (by omega) (by omega)
  refine g16.1.now f2 (ST.to hS hQ.2.1 ⟨u 4 (by omega) (by omega), fun j j0 j1 _ => u j (by omega) (by omega)⟩ (fun r r0 r1 => u _ (by omega) (by omega)) g17.1 ?_ ?_ (g17.2 _ _ (by omega)) (g17.2 _ _ (by omega)) f2 (by omega))
  · exact (hS.2.2.2.1.congr (fun j hj => u j (by omega) (by omega))).fr (fun a j q => g17.2 a j (by omega))
  · exact (hS.2.2.2.2.congr (fun j hj => u j (by omega) (by omega))).fr (fun a j q => g17.2 a j (by omega))
/-- a round's text and spans are those of the set made -/
theorem rd_pg (hQ : QW B) (h9 : 0 ≤ B 9 ∧ B 9 ≤ 24) {j : Int} (hj : j = 2 ∨ j = 3 ∨ (10 ≤ j ∧ j < 426)) : rdS B j = mkS B (setL B) j := by
  have hF := FLok hQ
  have hC := setL_Ch hQ hF
  have hE : EqS B (wdS B (setL B).length (wS B) (B 2 + sumG B (setL B))) := wdS_eqS h9
  have en := newL_congr hE hQ hF (setL B) 0 0 (by omega) (by omega) hC
  have e3 : wdS B (setL B).length (wS B) (B 2 + sumG B (setL B)) 3 = B 3 := hE.at (by omega)
  have h3 := hQ.2.2.1
  have al := fun p => alng_congr hE hQ hF (hC.all (by omega)) p
  have hr : rdS B j = mkS (wdS B (setL B).length (wS B) (B 2 + sumG B (setL B))) (setL B) j := by unfold rdS; rw [if_neg (by omega)]
  rw [hr]
  generalize wdS B (setL B).length (wS B) (B 2 + sumG B (setL B)) = W at *
  by_cases q2 : j = 2
  · rw [q2, mkS_2, mkS_2, en]
  · by_cases qt : 10 ≤ j ∧ j < 210
    · rw [show j = 10 + (j - 10) by omega, mkS_t (by omega), mkS_t (by omega), en]
    · by_cases qp : 210 ≤ j ∧ j < 410
      · rw [show j = 210 + (j - 210) by omega, mkS_p (by omega), mkS_p (by omega), en]
      · by_cases qs : 410 ≤ j ∧ j < 410 + 2 * B 3
        · by_cases q0 : j % 2 = 0
          · rw [show j = 410 + 2 * ((j - 410) / 2) by omega, mkS_s0 (by rw [e3]; omega), mkS_s0 (by omega), al, hE.at (by omega)]
          · rw [show j = 410 + 2 * ((j - 410) / 2) + 1 by omega, mkS_s1 (by rw [e3]; omega), mkS_s1 (by omega), al, hE.at (show (2 ≤ 410 + 2 * ((j - 410) / 2) ∧ 410 + 2 * ((j - 410) / 2) < 8) ∨ (10 ≤ 410 + 2 * ((j - 410) / 2) ∧ 410 + 2 * ((j - 410) / 2) < 442) ∨ (514 ≤ 410 + 2 * ((j - 410) / 2) ∧ 410 + 2 * ((j - 410) / 2) < 1054) by omega), hE.at (by omega)]
        · rw [mkS_o q2 (by omega) (by rw [e3]; omega), mkS_o q2 (by omega) qs, hE.at (by omega)]
theorem rd_o (hQ : QW B) (h9 : 0 ≤ B 9 ∧ B 9 ≤ 24) {j : Int} (h2 : j ≠ 2) (h8 : j ≠ 8) (h9' : j ≠ 9) (hj : ¬ (10 ≤ j ∧ j < 426)) (hb : ¬ (442 ≤ j ∧ j < 514)) : rdS B j = B j := by
  have h3 := hQ.2.2.1
  have e3 : wdS B (setL B).length (wS B) (B 2 + sumG B (setL B)) 3 = B 3 := wdS_o h9 (by omega) (by omega)
  unfold rdS
  rw [if_neg h8, mkS_o h2 (by omega) (by rw [e3]; omega), wdS_o h9 h9' hb]
theorem rd_b (hQ : QW B) (h9 : 0 ≤ B 9 ∧ B 9 ≤ 24) {j : Int} (hj : j = 9 ∨ (442 ≤ j ∧ j < 514)) : rdS B j = wdS B (setL B).length (wS B) (B 2 + sumG B (setL B)) j := by
  have h3 := hQ.2.2.1
  have e3 : wdS B (setL B).length (wS B) (B 2 + sumG B (setL B)) 3 = B 3 := wdS_o h9 (by omega) (by omega)
  unfold rdS
  rw [if_neg (by omega), mkS_o (by omega) (by omega) (by rw [e3]; omega)]
theorem cl_makeRound (h : CC G m δ I B H B' H' T fk fp) (hW : BW c B) (hc : c ≤ 1000000) (hcan : canR B) : jRV E jB kX9_makeRound [VR m] G I (fun I' => CC G m δ I' (rdS B) H B' H' T fk fp) := by
  have hm := h.1.1.2.1
  have h0 := h.1.1.1
  have hQ := hW.1
  have h3 := hQ.2.2.1
  have h9 := hW.2.2.2.2.2.2.2.1
  have h8 := hW.2.2.2.2.2.2.1
  refine en_X9_makeRound hm (fun _ => (cl_found h hW).mono (fun a I1 _ g => ?_))
  obtain ⟨rfl, hφ, hc1, ⟨ρ, hL, l2, l3⟩, -⟩ := g
  have hCh := setL_Ch hQ (FLok hQ)
  have hnl := newL_len _ _ _ hCh
  have sb := setL_bd hQ
  have hnew : (newL B (setL B) 0).length ≤ 200 := by have := hcan.2; omega
  refine ⟨hφ, ?_⟩
  rw [hL.2.2.1]
  refine (cl_rewrite hL hQ (wX9_o8 hm) (by omega) (by omega) (by omega) (wX1_l14 hφ) (wX1_a14 hφ) (by decide) (by omega) hL.2.2.2 (by omega) (by omega) hCh hnew (hW.sp hc)).mono (fun I4 _ g4 => ?_)
  have hL4 : LK G (m + 578) (m + 196) ρ B I4 := hL.wr g4.2 (by omega) (by omega) (by omega)
  have hc4 : CC G m δ I4 B H B' H' T fk fp := hc1.fr (fun a j qa => g4.2 a j (by omega) (by omega) (by omega))
  refine (cl_pickedValue hL4 hQ).mono (fun y I5 _ _ gy => ?_)
  obtain ⟨rfl, rfl⟩ := gy
  have esp : I5 (m + 1) 2 = B 2 + sumG B (setL B) := by rw [g4.1.1.1.1, mkS_2]; omega
  rw [hL4.2.2.1, esp]
  have hS := hc4.1.2.1
  refine (cl_enterRound (Y := rdS B) (wX9_o4 hm) hS.2.2.2.2 (by omega) (fun j hj => rd_b hQ h9 hj) (by unfold rdS; rw [if_pos rfl])).mono (fun I8 _ g8 => ?_)
  have hsp8 : PG (m + 1) (mkS B (setL B)) I8 := g4.1.fr (fun a j a0 a1 => g8.2 a j (by omega) (by omega))
  refine (cl_pageCopy (wX7_o0 (wX9_o4 hm)) (wX9_o8 hm) (by omega) hsp8).mono (fun I9 _ g9 => (cl_forget hm).mono (fun I10 _ g10 => ⟨?_, CK.zero g10.1⟩))
  have k : ∀ a j, (a < m + 195 ∨ m + 204 ≤ a) → (a ≠ m ∨ (j ≠ 10 ∧ j ≠ 13 ∧ j ≠ 15)) → I10 a j = I5 a j := fun a j ha hb => by rw [g10.2 a j hb, g9.2 a j (by omega), g8.2 a j (by omega) (by omega)]
  have k' : ∀ a j, (a < m + 196 ∨ m + 201 ≤ a) → a ≠ m + 203 → (a ≠ m + 195 ∨ (j ≠ 9 ∧ j ≠ 10)) → (a ≠ m ∨ (j ≠ 10 ∧ j ≠ 13 ∧ j ≠ 15)) → I10 a j = I5 a j := fun a j ha hb hd he => by rw [g10.2 a j he, g9.2 a j (by omega), g8.2 a j (by omega) (by omega)]
  have u : ∀ j, j ≠ 2 → j ≠ 8 → j ≠ 9 → ¬ (10 ≤ j ∧ j < 426) → ¬ (442 ≤ j ∧ j < 514) → rdS B j = B j := fun j a b c d e => rd_o hQ h9 a b c d e
  have hS10 : ST G δ (m + 195) (rdS B) I10 := by
    have hP9 : PG (m + 196) (rdS B) I9 := ⟨g9.1.1.congr (fun j hj => rd_pg hQ h9 (by omega)), g9.1.2.congr (fun j hj => rd_pg hQ h9 (by omega))⟩
    refine ⟨hP9.fr (fun a j a0 a1 => g10.2 a j (by omega)), ?_, ?_, (hS.2.2.2.1.congr (fun j hj => u j (by omega) (by omega) (by omega) (by omega) (by omega))).fr (fun a j q => k' a j (by omega) (by omega) (by omega) (by omega)), ?_⟩
    · rw [k' _ _ (by omega) (by omega) (by omega) (by omega)]
      exact (hS.2.1.congr hQ.2.1 ⟨u 4 (by omega) (by omega) (by omega) (by omega) (by omega), fun j j0 j1 _ => u j (by omega) (by omega) (by omega) (by omega) (by omega)⟩).keep (fun b j b0 b1 => k b j (by omega) (by omega))
    · rw [k' _ _ (by omega) (by omega) (by omega) (by omega), u 4 (by omega) (by omega) (by omega) (by omega) (by omega), hS.2.2.1, onB_congr (X := B) (Y := rdS B) (fun r r0 r1 => u _ (by omega) (by omega) (by omega) (by omega) (by omega)) _ (by have := hQ.2.1.1; omega)]
    · exact g8.1.fr (fun a j q => by rw [g10.2 a j (by omega), g9.2 a j (by omega)])
  obtain ⟨⟨c0, c1, c2, c3, c4⟩, c5, c6, c7, c8, c9, c10, c11⟩ := hc4.1
  exact ⟨⟨c0, c1, c2, (k _ _ (by omega) (by omega)).trans c3, c4⟩, hS10, c6.keep (fun b j q => k b j (by omega) (by omega)), c7.keep (fun b j q => k b j (by omega) (by omega)), c8.keep (fun b j q => k b j (by omega) (by omega)), c9.fr (fun b j q => k b j (by omega) (by omega)), (k _ _ (by omega) (by omega)).trans c10, (k _ _ (by omega) (by omega)).trans c11⟩
theorem cl_make (h : CC G m δ I B H B' H' T fk fp) (hW : BW c B) (hc : c ≤ 900000) {n : Int} : jRI E jB kX9_make [VR m, VI n] G I (fun x I' => (¬ (1 ≤ n ∧ n ≤ 30) → x = -1 ∧ CC G m δ I' B H B' H' T fk fp) ∧ (1 ≤ n ∧ n ≤ 30 → x = (mkR n.toNat B).1 ∧ CC G m δ I' (mkR n.toNat B).2 (pushH H B) B' H' T fk fp)) := by
  have h' := h
  obtain ⟨⟨⟨h0, h1, h2, h3, h4⟩, h5, h6, h7, h8, h9, h10, h11⟩, hk⟩ := h
  refine en_X9_make h1 (fun _ _ => ⟨fun q => ⟨fun _ => ⟨rfl, h'⟩, fun g => by omega⟩, fun q => ⟨fun q2 => ?_, fun q => ⟨fun _ => ⟨rfl, h'⟩, fun g => by omega⟩⟩⟩)
  refine (cl_keep (wX9_o5 h1) (wX9_o4 h1) (by omega) (by omega) h6 h5).mono (fun I1 _ g => ?_)
  have k : ∀ a j, (a < m + 205 ∨ m + 387 ≤ a) → I1 a j = I a j := fun a j ha => g.2 a j (by omega)
  have hc1 : CC G m δ I1 B (pushH H B) B' H' T fk fp := by
    refine ⟨⟨⟨h0, h1, h2, (k _ _ (by omega)).trans h3, h4⟩, h5.keep (fun b j q => k b j (by omega)), g.1, h7.keep (fun b j q => k b j (by omega)), h8.keep (fun b j q => k b j (by omega)), h9.fr (fun b j q => k b j (by omega)), (k _ _ (by omega)).trans h10, (k _ _ (by omega)).trans h11⟩, fun q => ?_, fun q => ?_, fun q => ?_⟩
    · rw [k _ _ (by omega)] at q
      obtain ⟨ρ, l1, l2, l3⟩ := hk.1 q
      exact ⟨ρ, l1.fr (fun a j qa => k a j (by omega)), l2, l3⟩
    · rw [k _ _ (by omega)] at q
      exact (hk.2.1 q).fr (fun a j a0 a1 => k a j (by omega))
    · rw [k _ _ (by omega)] at q
      rw [k _ _ (by omega)]
      exact hk.2.2 q
  have loop : ∀ (d : Nat) (x : Int) (Z : Int → Int) (I2 : jM), 0 ≤ x → x + d = n → CC G m δ I2 Z (pushH H B) B' H' T fk fp → BW (c + x) Z → ((mkR n.toNat B).1 : Int) = x + (mkR d Z).1 → (mkR n.toNat B).2 = (mkR d Z).2 → jOI E jB kX9_make 26 [VR m, VI n, VI x] G I2 (fun x I' => (¬ (1 ≤ n ∧ n ≤ 30) → x = -1 ∧ CC G m δ I' B H B' H' T fk fp) ∧ (1 ≤ n ∧ n ≤ 30 → x = (mkR n.toNat B).1 ∧ CC G m δ I' (mkR n.toNat B).2 (pushH H B) B' H' T fk fp)) := by
    intro d
    induction d with
    | zero =>
      intro x Z I2 x0 x1 hc2 hb e1 e2
      have e1' : ((mkR n.toNat B).1 : Int) = x + ((0 : Nat) : Int) := e1
      have e2' : (mkR n.toNat B).2 = Z := e2
      refine st_X9_make_26 h1 (fun _ _ _ => ⟨fun _ => ⟨fun g => absurd (by omega) g, fun _ => ⟨by omega, by rw [e2']; exact hc2⟩⟩, fun q => absurd (by omega) q⟩)
    | succ d ih =>
      intro x Z I2 x0 x1 hc2 hb e1 e2
      rw [mkR_s] at e1 e2
      refine st_X9_make_26 h1 (fun _ _ _ => ⟨fun q => absurd q (by omega), fun _ => (cl_found hc2 hb).mono (fun a I3 _ g3 => ?_)⟩)
      obtain ⟨rfl, hφ, hc3, ⟨ρ, hL, l2, l3⟩, -⟩ := g3
      refine ⟨hφ, (cl_canBeMade hL hb.1).mono (fun y I4 _ _ gy => ?_)⟩
      obtain ⟨rfl, rfl⟩ := gy
      refine ⟨fun qn => ?_, fun qn => ?_⟩
      · rw [if_neg (jI_n qn)] at e1 e2
        have e1' : ((mkR n.toNat B).1 : Int) = x + ((0 : Nat) : Int) := e1
        have e2' : (mkR n.toNat B).2 = Z := e2
        exact ⟨fun g => absurd (by omega) g, fun _ => ⟨by omega, by rw [e2']; exact hc3⟩⟩
      · have hcan := jI_p qn
        rw [if_pos hcan] at e1 e2
        refine (cl_makeRound hc3 hb (by omega) hcan).mono (fun I7 _ g7 => ⟨⟨by omega, by omega⟩, ih (x + 1) (rdS Z) I7 (by omega) (by omega) g7 ?_ ?_ e2⟩)
        · rw [show c + (x + 1) = c + x + 1 by omega]
          exact hb.rd hcan
        · have e1' : ((mkR n.toNat B).1 : Int) = x + (((mkR d (rdS Z)).1 + 1 : Nat) : Int) := e1
          omega
  refine loop n.toNat 0 B I1 (by omega) (by omega) hc1 (by rw [show c + 0 = c by omega]; exact hW) (by omega) rfl
end CV
