/-! ===== the class: rounds entered, yields, the history ===== -/
theorem fm_tab : ∀ x : Fin 64, 0 ≤ jxor ((x : Nat) : Int) 20 := by decide +kernel
set_option maxRecDepth 20000 in
theorem st_J9_floorMod_7cf53_0 {E : jE} {A : Nat → Prop} {G : jG} {I : jM} {q : Int → jM → Prop} {x0 : Int} {x1 : Int}  (hT : (∀ a j, jRg (G.2.1 a).1 (I a j)) → jIn x0 → jIn x1 → x1 ≠ 0 ∧ jIn (Int.tmod x0 x1) ∧ ((0 ≤ (jxor x0 x1) → q (Int.tmod x0 x1) I) ∧ (¬ 0 ≤ (jxor x0 x1) → (((Int.tmod x0 x1) = 0 → q (Int.tmod x0 x1) I) ∧ (¬ (Int.tmod x0 x1) = 0 → jIn ((Int.tmod x0 x1) + x1) ∧ q ((Int.tmod x0 x1) + x1) I))))) : jOI E A kJ9_floorMod_7cf53 0 [VI x0, VI x1, VN] G I q := by
  intro I0 hF
  refine jOk_mem (fun hI => ?_)
  refine jOk_in (i := 0) rfl (fun hx0 => ?_)
  refine jOk_in (i := 1) rfl (fun hx1 => ?_)
  replace hT := hT hI hx0 hx1
  refine r_iload_n dJ9_floorMod_7cf53_0 rfl (i := 0) rfl ?_
  refine r_iload_n dJ9_floorMod_7cf53_1 rfl (i := 1) rfl ?_
  obtain ⟨hc1, hT⟩ := hT
  refine r_irem dJ9_floorMod_7cf53_2 hx0 hx1 hc1 ?_
  obtain ⟨hc2, hT⟩ := hT
  refine rr_istore_n (i := 2) (ls' := [VI x0, VI x1, VI (Int.tmod x0 x1)]) dJ9_floorMod_7cf53_3 rfl (Nat.le_of_ble_eq_true rfl) rfl rfl hc2 ?_
  refine r_iload_n dJ9_floorMod_7cf53_4 rfl (i := 0) rfl ?_
  refine r_iload_n dJ9_floorMod_7cf53_5 rfl (i := 1) rfl ?_
  refine r_ixor dJ9_floorMod_7cf53_6 ?_
  refine r_if_ge (tgt := 18) dJ9_floorMod_7cf53_7 rfl (j32_in _) (fun hcc => ?_) (fun hcc => ?_)
  · replace hT := hT.1 hcc
    refine r_iload_n dJ9_floorMod_7cf53_18 rfl (i := 2) rfl ?_
    exact r_iret dJ9_floorMod_7cf53_19 rfl hc2 ⟨Nat.zero_le _, Nat.zero_le _⟩ ⟨_, rfl, rfl, hF, hT⟩
  · replace hT := hT.2 hcc
    refine r_iload_n dJ9_floorMod_7cf53_10 rfl (i := 2) rfl ?_
    refine r_if_eq (tgt := 18) dJ9_floorMod_7cf53_11 rfl hc2 (fun hcc => ?_) (fun hcc => ?_)
    · replace hT := hT.1 hcc
      refine r_iload_n dJ9_floorMod_7cf53_18 rfl (i := 2) rfl ?_
      exact r_iret dJ9_floorMod_7cf53_19 rfl hc2 ⟨Nat.zero_le _, Nat.zero_le _⟩ ⟨_, rfl, rfl, hF, hT⟩
    · replace hT := hT.2 hcc
      refine r_iload_n dJ9_floorMod_7cf53_14 rfl (i := 2) rfl ?_
      refine r_iload_n dJ9_floorMod_7cf53_15 rfl (i := 1) rfl ?_
      refine r_iadd dJ9_floorMod_7cf53_16 ?_
      obtain ⟨hc3, hT⟩ := hT
      exact r_iret dJ9_floorMod_7cf53_17 rfl hc3 ⟨Nat.zero_le _, Nat.zero_le _⟩ ⟨_, rfl, rfl, hF, hT⟩
theorem en_J9_floorMod_7cf53 {E : jE} {A : Nat → Prop} {G : jG} {I : jM} {q : Int → jM → Prop} {x0 : Int} {x1 : Int}  (hT : (∀ a j, jRg (G.2.1 a).1 (I a j)) → jIn x0 → jIn x1 → x1 ≠ 0 ∧ jIn (Int.tmod x0 x1) ∧ ((0 ≤ (jxor x0 x1) → q (Int.tmod x0 x1) I) ∧ (¬ 0 ≤ (jxor x0 x1) → (((Int.tmod x0 x1) = 0 → q (Int.tmod x0 x1) I) ∧ (¬ (Int.tmod x0 x1) = 0 → jIn ((Int.tmod x0 x1) + x1) ∧ q ((Int.tmod x0 x1) + x1) I))))) : jRI E A kJ9_floorMod_7cf53 [VI x0, VI x1] G I q := jRun.of mt_J9_floorMod_7cf53.2.2.2 1 rfl (fun _ => st_J9_floorMod_7cf53_0  hT I (fun _ _ => rfl))
set_option maxRecDepth 20000 in
theorem st_X2_kept_0 {E : jE} {G : jG} {I : jM} {q : Nat → jM → Prop} {m : Nat} {x1 : Int} (hm : WX2 G m) (hT : (∀ a j, jRg (G.2.1 a).1 (I a j)) → jIn x1 → jIn ((I m 1) + x1) ∧ jRI E jB kJ9_floorMod_7cf53 [VI ((I m 1) + x1), VI 20] G I (fun r3 I2 => ((0 : Int) ≤ r3 ∧ (r3 : Int) < 20) ∧ (∃ b5 : Nat, G.1 (m + 1) r3 = some b5 ∧ WX7 G b5 ∧ q b5 I2))) : jOA E jB kX2_kept 0 [VR m, VI x1] G I q := by
  intro I0 hF
  refine jOk_mem (fun hI => ?_)
  refine jOk_in (i := 1) rfl (fun hx1 => ?_)
  replace hT := hT hI hx1
  refine r_aload_n dX2_kept_0 rfl (i := 0) rfl ?_
  refine rr_getR (b := (m + 1)) dX2_kept_1 fg_X2_11 rfl rfl (wX2_l hm) (wX2_s hm) (wX2_r0 hm) ?_
  refine r_aload_n dX2_kept_4 rfl (i := 0) rfl ?_
  refine rr_getI (v := I m 1) dX2_kept_5 fg_X2_24 rfl (wX2_l hm) (wX2_s hm) rfl ?_
  refine r_iload_n dX2_kept_8 rfl (i := 1) rfl ?_
  refine r_iadd dX2_kept_9 ?_
  refine r_bipush (n := 20) dX2_kept_10 (by decide +kernel) ?_
  obtain ⟨hc1, hT⟩ := hT
  refine rr_cSI (as := [VI ((I m 1) + x1), VI 20]) (st := [VR (m + 1)]) dX2_kept_12 mt_J9_floorMod_7cf53 ml_X2_35 ms_J9_floorMod_7cf53 rm_X2_kept_J9_floorMod_7cf53 jz_J9_floorMod_7cf53 ⟨Nat.zero_le _, Nat.zero_le _⟩ (Nat.le_of_ble_eq_true rfl) (jasI hc1 (jasI ⟨by decide, by decide⟩ jas0)) hT (fun r3 I2 hc4 hFI2 hT => ?_)
  replace hFI2 := jFr_tr hF hFI2
  refine jOk_mem (fun hI2 => ?_)
  obtain ⟨hc6, b5, hc7, hc8, hT⟩ := hT
  refine r_aaload (b := b5) dX2_kept_15 (wX2_l0 hm) (wX2_a0 hm) (Or.inl rfl) (by decide) hc6.1 hc6.2 hc7 ?_
  exact r_aret dX2_kept_16 rfl ⟨Nat.zero_le _, Nat.zero_le _⟩ ⟨_, rfl, rfl, hFI2, hT⟩
theorem en_X2_kept {E : jE} {G : jG} {I : jM} {q : Nat → jM → Prop} {m : Nat} {x1 : Int} (hm : WX2 G m) (hT : (∀ a j, jRg (G.2.1 a).1 (I a j)) → jIn x1 → jIn ((I m 1) + x1) ∧ jRI E jB kJ9_floorMod_7cf53 [VI ((I m 1) + x1), VI 20] G I (fun r3 I2 => ((0 : Int) ≤ r3 ∧ (r3 : Int) < 20) ∧ (∃ b5 : Nat, G.1 (m + 1) r3 = some b5 ∧ WX7 G b5 ∧ q b5 I2))) : jRA E jB kX2_kept [VR m, VI x1] G I q := jRun.of mt_X2_kept.2.2.2 0 rfl (fun _ => st_X2_kept_0 hm hT I (fun _ _ => rfl))
set_option maxRecDepth 20000 in
theorem st_X2_keep_0 {E : jE} {G : jG} {I : jM} {q : jM → Prop} {m : Nat} {p1 : Nat} (hm : WX2 G m) (hp1 : WX7 G p1) (hT : (∀ a j, jRg (G.2.1 a).1 (I a j)) → (((I m 2) < 20 → jRA E jB kX2_kept [VR m, VI (I m 2)] G I (fun r2 I1 => WX7 G r2 ∧ jRV E jB kX7_copyFrom [VR r2, VR p1] G I1 (fun I4 => jIn ((I4 m 2) + 1) ∧ (∀ M5, M5 = jup I4 m 2 ((I4 m 2) + 1) → q M5)))) ∧ (¬ (I m 2) < 20 → jIn ((I m 1) + 1) ∧ jIn (Int.tmod ((I m 1) + 1) 20) ∧ (∀ M9, M9 = jup I m 1 (Int.tmod ((I m 1) + 1) 20) → (∀ M11, M11 = jup M9 m 2 19 → jRA E jB kX2_kept [VR m, VI 19] G M11 (fun r13 I12 => WX7 G r13 ∧ jRV E jB kX7_copyFrom [VR r13, VR p1] G I12 (fun I15 => jIn ((I15 m 2) + 1) ∧ (∀ M16, M16 = jup I15 m 2 ((I15 m 2) + 1) → q M16)))))))) : jOV E jB kX2_keep 0 [VR m, VR p1] G I q := by
  intro I0 hF
  refine jOk_mem (fun hI => ?_)
  replace hT := hT hI 
  refine r_aload_n dX2_keep_0 rfl (i := 0) rfl ?_
  refine rr_getI (v := I m 2) dX2_keep_1 fg_X2_20 rfl (wX2_l hm) (wX2_s hm) rfl ?_
  refine r_bipush (n := 20) dX2_keep_4 (by decide +kernel) ?_
  refine r_icmp_lt (tgt := 28) dX2_keep_6 rfl (hI _ _).inR ⟨by decide, by decide⟩ (fun hcc => ?_) (fun hcc => ?_)
  · replace hT := hT.1 hcc
    refine r_aload_n dX2_keep_28 rfl (i := 0) rfl ?_
    refine r_aload_n dX2_keep_29 rfl (i := 0) rfl ?_
    refine rr_getI (v := I m 2) dX2_keep_30 fg_X2_20 rfl (wX2_l hm) (wX2_s hm) rfl ?_
    refine rr_cVA (a := m) (as := [VI (I m 2)]) (st := []) dX2_keep_33 mt_X2_kept ml_X2_27 mi_X2_kept rm_X2_keep_X2_kept jz_X2_kept ⟨Nat.zero_le _, Nat.zero_le _⟩ (Nat.le_of_ble_eq_true rfl) (wX2_l hm) (wX2_c hm) (jasI (hI _ _).inR jas0) hT (fun r2 I1 hFI1 hT => ?_)
    replace hFI1 := jFr_tr hF hFI1
    refine jOk_mem (fun hI1 => ?_)
    obtain ⟨hc3, hT⟩ := hT
    refine r_aload_n dX2_keep_36 rfl (i := 1) rfl ?_
    refine rr_cVV (a := r2) (as := [VR p1]) (st := []) dX2_keep_37 mt_X7_copyFrom ml_X2_31 mi_X7_copyFrom rm_X2_keep_X7_copyFrom jz_X7_copyFrom ⟨Nat.zero_le _, Nat.zero_le _⟩ (Nat.le_of_ble_eq_true rfl) (wX7_l hc3) (wX7_c hc3) (jasR jas0) hT (fun I4 hFI4 hT => ?_)
    replace hFI4 := jFr_tr hFI1 hFI4
    refine jOk_mem (fun hI4 => ?_)
    refine r_aload_n dX2_keep_40 rfl (i := 0) rfl ?_
    refine r_dup dX2_keep_41 rfl ?_
    refine rr_getI (v := I4 m 2) dX2_keep_42 fg_X2_20 rfl (wX2_l hm) (wX2_s hm) rfl ?_
    refine r_iconst (n := 1) dX2_keep_45 ?_
    refine r_iadd dX2_keep_46 ?_
    obtain ⟨hc6, hT⟩ := hT
    refine rr_putI (jj := 2) dX2_keep_47 fp_X2_20 rfl rfl (wX2_l hm) (wX2_s hm) hc6 (fun M5 eM5 => ?_)
    have hFM5 := jFr_up hFI4 eM5 (wX2_f hm 0 (by decide))
    replace hT := hT M5 eM5
    refine jOk_mem (fun hIM5 => ?_)
    exact r_vret dX2_keep_50 rfl ⟨Nat.zero_le _, Nat.zero_le _⟩ ⟨rfl, rfl, hFM5, hT⟩
  · replace hT := hT.2 hcc
    refine r_aload_n dX2_keep_9 rfl (i := 0) rfl ?_
    refine r_aload_n dX2_keep_10 rfl (i := 0) rfl ?_
    refine rr_getI (v := I m 1) dX2_keep_11 fg_X2_24 rfl (wX2_l hm) (wX2_s hm) rfl ?_
    refine r_iconst (n := 1) dX2_keep_14 ?_
    refine r_iadd dX2_keep_15 ?_
    refine r_bipush (n := 20) dX2_keep_16 (by decide +kernel) ?_
    obtain ⟨hc7, hT⟩ := hT
    refine r_irem dX2_keep_18 hc7 ⟨by decide, by decide⟩ (by decide) ?_
    obtain ⟨hc10, hT⟩ := hT
    refine rr_putI (jj := 1) dX2_keep_19 fp_X2_24 rfl rfl (wX2_l hm) (wX2_s hm) hc10 (fun M9 eM9 => ?_)
    have hFM9 := jFr_up hF eM9 (wX2_f hm 0 (by decide))
    replace hT := hT M9 eM9
    refine jOk_mem (fun hIM9 => ?_)
    refine r_aload_n dX2_keep_22 rfl (i := 0) rfl ?_
    refine r_bipush (n := 19) dX2_keep_23 (by decide +kernel) ?_
    refine rr_putI (jj := 2) dX2_keep_25 fp_X2_20 rfl rfl (wX2_l hm) (wX2_s hm) ⟨by decide, by decide⟩ (fun M11 eM11 => ?_)
    have hFM11 := jFr_up hFM9 eM11 (wX2_f hm 0 (by decide))
    replace hT := hT M11 eM11
    refine jOk_mem (fun hIM11 => ?_)
    refine r_aload_n dX2_keep_28 rfl (i := 0) rfl ?_
    refine r_aload_n dX2_keep_29 rfl (i := 0) rfl ?_
    refine rr_getI (v := 19) dX2_keep_30 fg_X2_20 rfl (wX2_l hm) (wX2_s hm) (jr_eq eM11) ?_
    refine rr_cVA (a := m) (as := [VI 19]) (st := []) dX2_keep_33 mt_X2_kept ml_X2_27 mi_X2_kept rm_X2_keep_X2_kept jz_X2_kept ⟨Nat.zero_le _, Nat.zero_le _⟩ (Nat.le_of_ble_eq_true rfl) (wX2_l hm) (wX2_c hm) (jasI ⟨by decide, by decide⟩ jas0) hT (fun r13 I12 hFI12 hT => ?_)
    replace hFI12 := jFr_tr hFM11 hFI12
    refine jOk_mem (fun hI12 => ?_)
    obtain ⟨hc14, hT⟩ := hT
    refine r_aload_n dX2_keep_36 rfl (i := 1) rfl ?_
    refine rr_cVV (a := r13) (as := [VR p1]) (st := []) dX2_keep_37 mt_X7_copyFrom ml_X2_31 mi_X7_copyFrom rm_X2_keep_X7_copyFrom jz_X7_copyFrom ⟨Nat.zero_le _, Nat.zero_le _⟩ (Nat.le_of_ble_eq_true rfl) (wX7_l hc14) (wX7_c hc14) (jasR jas0) hT (fun I15 hFI15 hT => ?_)
    replace hFI15 := jFr_tr hFI12 hFI15
    refine jOk_mem (fun hI15 => ?_)
    refine r_aload_n dX2_keep_40 rfl (i := 0) rfl ?_
    refine r_dup dX2_keep_41 rfl ?_
    refine rr_getI (v := I15 m 2) dX2_keep_42 fg_X2_20 rfl (wX2_l hm) (wX2_s hm) rfl ?_
    refine r_iconst (n := 1) dX2_keep_45 ?_
    refine r_iadd dX2_keep_46 ?_
    obtain ⟨hc17, hT⟩ := hT
    refine rr_putI (jj := 2) dX2_keep_47 fp_X2_20 rfl rfl (wX2_l hm) (wX2_s hm) hc17 (fun M16 eM16 => ?_)
    have hFM16 := jFr_up hFI15 eM16 (wX2_f hm 0 (by decide))
    replace hT := hT M16 eM16
    refine jOk_mem (fun hIM16 => ?_)
    exact r_vret dX2_keep_50 rfl ⟨Nat.zero_le _, Nat.zero_le _⟩ ⟨rfl, rfl, hFM16, hT⟩
theorem en_X2_keep {E : jE} {G : jG} {I : jM} {q : jM → Prop} {m : Nat} {p1 : Nat} (hm : WX2 G m) (hp1 : WX7 G p1) (hT : (∀ a j, jRg (G.2.1 a).1 (I a j)) → (((I m 2) < 20 → jRA E jB kX2_kept [VR m, VI (I m 2)] G I (fun r2 I1 => WX7 G r2 ∧ jRV E jB kX7_copyFrom [VR r2, VR p1] G I1 (fun I4 => jIn ((I4 m 2) + 1) ∧ (∀ M5, M5 = jup I4 m 2 ((I4 m 2) + 1) → q M5)))) ∧ (¬ (I m 2) < 20 → jIn ((I m 1) + 1) ∧ jIn (Int.tmod ((I m 1) + 1) 20) ∧ (∀ M9, M9 = jup I m 1 (Int.tmod ((I m 1) + 1) 20) → (∀ M11, M11 = jup M9 m 2 19 → jRA E jB kX2_kept [VR m, VI 19] G M11 (fun r13 I12 => WX7 G r13 ∧ jRV E jB kX7_copyFrom [VR r13, VR p1] G I12 (fun I15 => jIn ((I15 m 2) + 1) ∧ (∀ M16, M16 = jup I15 m 2 ((I15 m 2) + 1) → q M16)))))))) : jRV E jB kX2_keep [VR m, VR p1] G I q := jRun.of mt_X2_keep.2.2.2 0 rfl (fun _ => st_X2_keep_0 hm hp1 hT I (fun _ _ => rfl))
set_option maxRecDepth 20000 in
theorem st_X2_takeBack_0 {E : jE} {G : jG} {I : jM} {q : jM → Prop} {m : Nat} {p1 : Nat} (hm : WX2 G m) (hp1 : WX7 G p1) (hT : (∀ a j, jRg (G.2.1 a).1 (I a j)) → (((I m 2) ≤ 0 → q I) ∧ (¬ (I m 2) ≤ 0 → jIn ((I m 2) - 1) ∧ (∀ M1, M1 = jup I m 2 ((I m 2) - 1) → jRA E jB kX2_kept [VR m, VI ((I m 2) - 1)] G M1 (fun r4 I3 => WX7 G r4 ∧ jRV E jB kX7_copyFrom [VR p1, VR r4] G I3 (fun I6 => q I6)))))) : jOV E jB kX2_takeBack 0 [VR m, VR p1] G I q := by
  intro I0 hF
  refine jOk_mem (fun hI => ?_)
  replace hT := hT hI 
  refine r_aload_n dX2_takeBack_0 rfl (i := 0) rfl ?_
  refine rr_getI (v := I m 2) dX2_takeBack_1 fg_X2_20 rfl (wX2_l hm) (wX2_s hm) rfl ?_
  refine r_if_le (tgt := 29) dX2_takeBack_4 rfl (hI _ _).inR (fun hcc => ?_) (fun hcc => ?_)
  · replace hT := hT.1 hcc
    exact r_vret dX2_takeBack_29 rfl ⟨Nat.zero_le _, Nat.zero_le _⟩ ⟨rfl, rfl, hF, hT⟩
  · replace hT := hT.2 hcc
    refine r_aload_n dX2_takeBack_7 rfl (i := 0) rfl ?_
    refine r_dup dX2_takeBack_8 rfl ?_
    refine rr_getI (v := I m 2) dX2_takeBack_9 fg_X2_20 rfl (wX2_l hm) (wX2_s hm) rfl ?_
    refine r_iconst (n := 1) dX2_takeBack_12 ?_
    refine r_isub dX2_takeBack_13 ?_
    obtain ⟨hc2, hT⟩ := hT
    refine rr_putI (jj := 2) dX2_takeBack_14 fp_X2_20 rfl rfl (wX2_l hm) (wX2_s hm) hc2 (fun M1 eM1 => ?_)
    have hFM1 := jFr_up hF eM1 (wX2_f hm 0 (by decide))
    replace hT := hT M1 eM1
    refine jOk_mem (fun hIM1 => ?_)
    refine r_aload_n dX2_takeBack_17 rfl (i := 1) rfl ?_
    refine r_aload_n dX2_takeBack_18 rfl (i := 0) rfl ?_
    refine r_aload_n dX2_takeBack_19 rfl (i := 0) rfl ?_
    refine rr_getI (v := (I m 2) - 1) dX2_takeBack_20 fg_X2_20 rfl (wX2_l hm) (wX2_s hm) (jr_eq eM1) ?_
    refine rr_cVA (a := m) (as := [VI ((I m 2) - 1)]) (st := [VR p1]) dX2_takeBack_23 mt_X2_kept ml_X2_27 mi_X2_kept rm_X2_takeBack_X2_kept jz_X2_kept ⟨Nat.zero_le _, Nat.zero_le _⟩ (Nat.le_of_ble_eq_true rfl) (wX2_l hm) (wX2_c hm) (jasI hc2 jas0) hT (fun r4 I3 hFI3 hT => ?_)
    replace hFI3 := jFr_tr hFM1 hFI3
    refine jOk_mem (fun hI3 => ?_)
    obtain ⟨hc5, hT⟩ := hT
    refine rr_cVV (a := p1) (as := [VR r4]) (st := []) dX2_takeBack_26 mt_X7_copyFrom ml_X2_31 mi_X7_copyFrom rm_X2_takeBack_X7_copyFrom jz_X7_copyFrom ⟨Nat.zero_le _, Nat.zero_le _⟩ (Nat.le_of_ble_eq_true rfl) (wX7_l hp1) (wX7_c hp1) (jasR jas0) hT (fun I6 hFI6 hT => ?_)
    replace hFI6 := jFr_tr hFI3 hFI6
    refine jOk_mem (fun hI6 => ?_)
    exact r_vret dX2_takeBack_29 rfl ⟨Nat.zero_le _, Nat.zero_le _⟩ ⟨rfl, rfl, hFI6, hT⟩
theorem en_X2_takeBack {E : jE} {G : jG} {I : jM} {q : jM → Prop} {m : Nat} {p1 : Nat} (hm : WX2 G m) (hp1 : WX7 G p1) (hT : (∀ a j, jRg (G.2.1 a).1 (I a j)) → (((I m 2) ≤ 0 → q I) ∧ (¬ (I m 2) ≤ 0 → jIn ((I m 2) - 1) ∧ (∀ M1, M1 = jup I m 2 ((I m 2) - 1) → jRA E jB kX2_kept [VR m, VI ((I m 2) - 1)] G M1 (fun r4 I3 => WX7 G r4 ∧ jRV E jB kX7_copyFrom [VR p1, VR r4] G I3 (fun I6 => q I6)))))) : jRV E jB kX2_takeBack [VR m, VR p1] G I q := jRun.of mt_X2_takeBack.2.2.2 0 rfl (fun _ => st_X2_takeBack_0 hm hp1 hT I (fun _ _ => rfl))
set_option maxRecDepth 20000 in
theorem st_X2_copyFrom_15 {E : jE} {G : jG} {I : jM} {q : jM → Prop} {m : Nat} {p1 : Nat} {x2 : Int} (hm : WX2 G m) (hp1 : WX2 G p1) (hT : (∀ a j, jRg (G.2.1 a).1 (I a j)) → jIn x2 → (((I m 2) ≤ x2 → q I) ∧ (¬ (I m 2) ≤ x2 → jRA E jB kX2_kept [VR m, VI x2] G I (fun r2 I1 => WX7 G r2 ∧ jRA E jB kX2_kept [VR p1, VI x2] G I1 (fun r5 I4 => WX7 G r5 ∧ jRV E jB kX7_copyFrom [VR r2, VR r5] G I4 (fun I7 => jIn (x2 + 1) ∧ jOV E jB kX2_copyFrom 15 [VR m, VR p1, VI (x2 + 1)] G I7 q)))))) : jOV E jB kX2_copyFrom 15 [VR m, VR p1, VI x2] G I q := by
  intro I0 hF
  refine jOk_mem (fun hI => ?_)
  refine jOk_in (i := 2) rfl (fun hx2 => ?_)
  replace hT := hT hI hx2
  refine r_iload_n dX2_copyFrom_15 rfl (i := 2) rfl ?_
  refine r_aload_n dX2_copyFrom_16 rfl (i := 0) rfl ?_
  refine rr_getI (v := I m 2) dX2_copyFrom_17 fg_X2_20 rfl (wX2_l hm) (wX2_s hm) rfl ?_
  refine r_icmp_ge (tgt := 42) dX2_copyFrom_20 rfl hx2 (hI _ _).inR (fun hcc => ?_) (fun hcc => ?_)
  · replace hT := hT.1 hcc
    exact r_vret dX2_copyFrom_42 rfl ⟨Nat.zero_le _, Nat.zero_le _⟩ ⟨rfl, rfl, hF, hT⟩
  · replace hT := hT.2 hcc
    refine r_aload_n dX2_copyFrom_23 rfl (i := 0) rfl ?_
    refine r_iload_n dX2_copyFrom_24 rfl (i := 2) rfl ?_
    refine rr_cVA (a := m) (as := [VI x2]) (st := []) dX2_copyFrom_25 mt_X2_kept ml_X2_27 mi_X2_kept rm_X2_copyFrom_X2_kept jz_X2_kept ⟨Nat.zero_le _, Nat.zero_le _⟩ (Nat.le_of_ble_eq_true rfl) (wX2_l hm) (wX2_c hm) (jasI hx2 jas0) hT (fun r2 I1 hFI1 hT => ?_)
    replace hFI1 := jFr_tr hF hFI1
    refine jOk_mem (fun hI1 => ?_)
    obtain ⟨hc3, hT⟩ := hT
    refine r_aload_n dX2_copyFrom_28 rfl (i := 1) rfl ?_
    refine r_iload_n dX2_copyFrom_29 rfl (i := 2) rfl ?_
    refine rr_cVA (a := p1) (as := [VI x2]) (st := [VR r2]) dX2_copyFrom_30 mt_X2_kept ml_X2_27 mi_X2_kept rm_X2_copyFrom_X2_kept jz_X2_kept ⟨Nat.zero_le _, Nat.zero_le _⟩ (Nat.le_of_ble_eq_true rfl) (wX2_l hp1) (wX2_c hp1) (jasI hx2 jas0) hT (fun r5 I4 hFI4 hT => ?_)
    replace hFI4 := jFr_tr hFI1 hFI4
    refine jOk_mem (fun hI4 => ?_)
    obtain ⟨hc6, hT⟩ := hT
    refine rr_cVV (a := r2) (as := [VR r5]) (st := []) dX2_copyFrom_33 mt_X7_copyFrom ml_X2_31 mi_X7_copyFrom rm_X2_copyFrom_X7_copyFrom jz_X7_copyFrom ⟨Nat.zero_le _, Nat.zero_le _⟩ (Nat.le_of_ble_eq_true rfl) (wX7_l hc3) (wX7_c hc3) (jasR jas0) hT (fun I7 hFI7 hT => ?_)
    replace hFI7 := jFr_tr hFI4 hFI7
    refine jOk_mem (fun hI7 => ?_)
    obtain ⟨hc8, hT⟩ := hT
    refine rr_iinc (i := 2) (ls' := [VR m, VR p1, VI (x2 + 1)]) dX2_copyFrom_36 rfl (Nat.le_of_ble_eq_true rfl) rfl rfl hc8 ?_
    refine r_goto (tgt := 15) dX2_copyFrom_39 rfl ?_
    exact hT I0 hFI7
set_option maxRecDepth 20000 in
theorem st_X2_copyFrom_0 {E : jE} {G : jG} {I : jM} {q : jM → Prop} {m : Nat} {p1 : Nat} (hm : WX2 G m) (hp1 : WX2 G p1) (hT : (∀ a j, jRg (G.2.1 a).1 (I a j)) → (∀ M1, M1 = jup I m 1 0 → (∀ M2, M2 = jup M1 m 2 (M1 p1 2) → jOV E jB kX2_copyFrom 15 [VR m, VR p1, VI 0] G M2 q))) : jOV E jB kX2_copyFrom 0 [VR m, VR p1, VN] G I q := by
  intro I0 hF
  refine jOk_mem (fun hI => ?_)
  replace hT := hT hI 
  refine r_aload_n dX2_copyFrom_0 rfl (i := 0) rfl ?_
  refine r_iconst (n := 0) dX2_copyFrom_1 ?_
  refine rr_putI (jj := 1) dX2_copyFrom_2 fp_X2_24 rfl rfl (wX2_l hm) (wX2_s hm) ⟨by decide, by decide⟩ (fun M1 eM1 => ?_)
  have hFM1 := jFr_up hF eM1 (wX2_f hm 0 (by decide))
  replace hT := hT M1 eM1
  refine jOk_mem (fun hIM1 => ?_)
  refine r_aload_n dX2_copyFrom_5 rfl (i := 0) rfl ?_
  refine r_aload_n dX2_copyFrom_6 rfl (i := 1) rfl ?_
  refine rr_getI (v := M1 p1 2) dX2_copyFrom_7 fg_X2_20 rfl (wX2_l hp1) (wX2_s hp1) rfl ?_
  refine rr_putI (jj := 2) dX2_copyFrom_10 fp_X2_20 rfl rfl (wX2_l hm) (wX2_s hm) (hIM1 _ _).inR (fun M2 eM2 => ?_)
  have hFM2 := jFr_up hFM1 eM2 (wX2_f hm 0 (by decide))
  replace hT := hT M2 eM2
  refine jOk_mem (fun hIM2 => ?_)
  refine r_iconst (n := 0) dX2_copyFrom_13 ?_
  refine rr_istore_n (i := 2) (ls' := [VR m, VR p1, VI 0]) dX2_copyFrom_14 rfl (Nat.le_of_ble_eq_true rfl) rfl rfl ⟨by decide, by decide⟩ ?_
  exact hT I0 hFM2
theorem en_X2_copyFrom {E : jE} {G : jG} {I : jM} {q : jM → Prop} {m : Nat} {p1 : Nat} (hm : WX2 G m) (hp1 : WX2 G p1) (hT : (∀ a j, jRg (G.2.1 a).1 (I a j)) → (∀ M1, M1 = jup I m 1 0 → (∀ M2, M2 = jup M1 m 2 (M1 p1 2) → jOV E jB kX2_copyFrom 15 [VR m, VR p1, VI 0] G M2 q))) : jRV E jB kX2_copyFrom [VR m, VR p1] G I q := jRun.of mt_X2_copyFrom.2.2.2 1 rfl (fun _ => st_X2_copyFrom_0 hm hp1 hT I (fun _ _ => rfl))
section CD
variable {E : jE} {G : jG} {m p δ : Nat} {I : jM} {X Y : Int → Int}
theorem ST.to {I' : jM} (h : ST G δ m X I) (hw : RW X) (e : EqR X Y) (eon : ∀ r, 0 ≤ r → r < X 4 → Y (515 + 40 * r) = X (515 + 40 * r)) (hP : PG (m + 1) Y I') (hS : SM m Y I') (hB : BK m Y I') (h1 : I' m 1 = I m 1) (h2 : I' m 2 = I m 2) (hf : Fr m (m + 9) I I') (hz : 195 ≤ m ∧ m + 9 ≤ 635) : ST G δ m Y I' := by
  have h4 := hw.1
  refine ⟨hP, ?_, ?_, hS, hB⟩
  · rw [h1]
    exact (h.2.1.congr hw e).of hf (by omega)
  · rw [h2, h.2.2.1, e.1, onB_congr eon _ (by omega)]
theorem cl_addYield (hm : WX7 G m) (h : ST G δ m X I) (hw : RW X) (h8 : X 7 < 8) (hz : 195 ≤ m ∧ m + 9 ≤ 635) {r o : Int} : jRV E jB kX7_addYield [VR m, VI r, VI o] G I (fun I' => ST G δ m (up (up (up X (426 + 2 * X 7) r) (426 + 2 * X 7 + 1) o) 7 (X 7 + 1)) I' ∧ Fr m (m + 9) I I') := by
  have h7 := h.2.2.2.1.2.2.1
  have hy := h.2.2.2.1.2.2.2
  refine en_X7_addYield hm (fun _ _ _ => ⟨fun q => absurd q (by omega), fun _ => ⟨⟨by omega, by omega⟩, fun M2 e2 => ⟨⟨by omega, by omega⟩, fun M4 e4 => ⟨⟨by omega, by omega⟩, fun M5 e5 => ?_⟩⟩⟩⟩)
  rw [h7.1] at e2 e4 e5
  have fr : Fr m (m + 9) I M5 := (Fr.up e2 (by omega)).trans ((Fr.up e4 (by omega)).trans (Fr.up e5 (by omega)))
  have z : ∀ b j, b ≠ m + 6 → b ≠ m + 7 → (b ≠ m ∨ j ≠ 7) → M5 b j = I b j := fun b j b6 b7 b0 => by
    have : M5 b j = M4 b j := by
      rcases b0 with q | q
      · exact jr_na e5 q
      · exact jr_nj e5 q
    rw [this, jr_na e4 b7, jr_na e2 b6]
  have u : ∀ j, j ≠ 7 → j ≠ 426 + 2 * X 7 → j ≠ 426 + 2 * X 7 + 1 → up (up (up X (426 + 2 * X 7) r) (426 + 2 * X 7 + 1) o) 7 (X 7 + 1) j = X j := fun j a b c => by rw [up_ne a, up_ne c, up_ne b]
  refine ⟨ST.to h hw ⟨u 4 (by omega) (by omega) (by omega), fun j j0 j1 _ => u j (by omega) (by omega) (by omega)⟩ (fun r r0 r1 => u _ (by omega) (by omega) (by omega)) ⟨?_, ?_⟩ ⟨?_, ?_, ⟨?_, ?_⟩, fun k k0 k1 => ?_⟩ ?_ (z _ _ (by omega) (by omega) (by omega)) (z _ _ (by omega) (by omega) (by omega)) fr hz, fr⟩
  · exact (h.1.1.congr (fun j hj => u j (by omega) (by omega) (by omega))).fr (fun a j q => z a j (by omega) (by omega) (by omega))
  · exact (h.1.2.congr (fun j hj => u j (by omega) (by omega) (by omega))).fr (fun a j q => z a j (by omega) (by omega) (by omega))
  · rw [z _ _ (by omega) (by omega) (by omega), u 5 (by omega) (by omega) (by omega)]
    exact h.2.2.2.1.1
  · rw [z _ _ (by omega) (by omega) (by omega), u 6 (by omega) (by omega) (by omega)]
    exact h.2.2.2.1.2.1
  · rw [jr_eq e5, up_eq]
  · rw [up_eq]
    omega
  · rw [up_eq] at k1
    rw [jr_na e5 (by omega), jr_na e5 (by omega), jr_na e4 (by omega), up_ne (by omega), up_ne (by omega)]
    by_cases q : k = X 7
    · rw [q, jr_eq e2, jr_eq e4, up_eq, up_ne (by omega), up_eq]
      exact ⟨rfl, rfl⟩
    · rw [jr_nj e2 q, jr_nj e4 q, jr_na e2 (by omega), up_ne (by omega), up_ne (by omega), up_ne (by omega), up_ne (by omega)]
      exact hy k k0 (by omega)
  · exact (h.2.2.2.2.congr (fun j hj => u j (by omega) (by omega) (by omega))).fr (fun a j q => z a j (by omega) (by omega) (by omega))
theorem cl_enterRound (hm : WX7 G m) (h : BK m X I) (h8 : 0 ≤ X 8 ∧ X 8 ≤ 1000000000) {f v b : Int} (eY : ∀ j, (j = 9 ∨ (442 ≤ j ∧ j < 514)) → Y j = wdS X f v b j) (eY8 : Y 8 = X 8 + 1) : jRV E jB kX7_enterRound [VR m, VI f, VI v, VI b] G I (fun I' => BK m Y I' ∧ ∀ a j, a ≠ m + 8 → (a ≠ m ∨ (j ≠ 9 ∧ j ≠ 10)) → I' a j = I a j) := by
  obtain ⟨h9, hb, h10⟩ := h
  refine en_X7_enterRound hm (fun _ _ _ _ => ⟨fun q => ?_, fun q => ?_⟩)
  · rw [h9.1] at q
    refine ⟨⟨by omega, by omega⟩, ⟨by omega, by omega⟩, fun M3 e3 => ⟨⟨by omega, by omega⟩, fun M5 e5 => ⟨⟨by omega, by omega⟩, fun M7 e7 => ⟨⟨by omega, by omega⟩, fun M8 e8 => ⟨⟨by omega, by omega⟩, fun M10 e10 => ?_⟩⟩⟩⟩⟩
    rw [h9.1] at e3 e5 e7 e8
    have e24 : ¬ X 9 = 24 := by omega
    refine ⟨⟨⟨?_, ?_⟩, fun j j0 j1 => ?_, ?_⟩, fun a j a8 a0 => ?_⟩
    · rw [jr_nj e10 (by decide), jr_eq e8, eY 9 (by omega)]
      unfold wdS
      rw [if_pos rfl, if_neg e24]
    · rw [eY 9 (by omega)]
      unfold wdS
      rw [if_pos rfl, if_neg e24]
      omega
    · have ej : j < 3 * (X 9 + 1) := by
        rw [eY 9 (by omega)] at j1
        unfold wdS at j1
        rw [if_pos rfl, if_neg e24] at j1
        exact j1
      rw [jr_na e10 (by omega), jr_na e8 (by omega), eY _ (by omega)]
      unfold wdS
      rw [if_neg (by omega), if_neg e24]
      by_cases q2 : j = X 9 * 3 + 2
      · rw [q2, jr_eq e7, if_neg (by omega), if_neg (by omega), if_pos (by omega)]
      · rw [jr_nj e7 q2]
        by_cases q1 : j = X 9 * 3 + 1
        · rw [q1, jr_eq e5, if_neg (by omega), if_pos (by omega)]
        · rw [jr_nj e5 q1]
          by_cases q0 : j = X 9 * 3
          · rw [q0, jr_eq e3, if_pos (by omega)]
          · rw [jr_nj e3 q0, if_neg (by omega), if_neg (by omega), if_neg (by omega), if_neg (by omega)]
            exact hb j j0 (by omega)
    · rw [jr_eq e10, h10, eY8]
    · have x10 : M10 a j = M8 a j := by
        rcases a0 with a0 | a0
        · exact jr_na e10 a0
        · exact jr_nj e10 a0.2
      have x8 : M8 a j = M7 a j := by
        rcases a0 with a0 | a0
        · exact jr_na e8 a0
        · exact jr_nj e8 a0.1
      rw [x10, x8, jr_na e7 a8, jr_na e5 a8, jr_na e3 a8]
  · rw [h9.1] at q
    have e24 : X 9 = 24 := by omega
    refine ⟨⟨by omega, by omega, by omega, by omega, by omega⟩, fun M13 e13 M14 e14 => ⟨⟨by omega, by omega⟩, ⟨by omega, by omega⟩, fun M17 e17 => ⟨⟨by omega, by omega⟩, fun M19 e19 => ⟨⟨by omega, by omega⟩, fun M21 e21 => ⟨⟨by omega, by omega⟩, fun M22 e22 => ⟨⟨by omega, by omega⟩, fun M24 e24' => ?_⟩⟩⟩⟩⟩⟩
    refine ⟨⟨⟨?_, ?_⟩, fun j j0 j1 => ?_, ?_⟩, fun a j a8 a0 => ?_⟩
    · rw [jr_nj e24' (by decide), jr_eq e22, eY 9 (by omega)]
      unfold wdS
      rw [if_pos rfl, if_pos e24]
      rfl
    · rw [eY 9 (by omega)]
      unfold wdS
      rw [if_pos rfl, if_pos e24]
      omega
    · have ej : j < 72 := by
        rw [eY 9 (by omega)] at j1
        unfold wdS at j1
        rw [if_pos rfl, if_pos e24] at j1
        omega
      rw [jr_na e24' (by omega), jr_na e22 (by omega), eY _ (by omega)]
      unfold wdS
      rw [if_neg (by omega), if_pos e24]
      by_cases q2 : j = 23 * 3 + 2
      · rw [q2, jr_eq e21, if_neg (by omega), if_neg (by omega), if_pos (by omega)]
      · rw [jr_nj e21 q2]
        by_cases q1 : j = 23 * 3 + 1
        · rw [q1, jr_eq e19, if_neg (by omega), if_pos (by omega)]
        · rw [jr_nj e19 q1]
          by_cases q0 : j = 23 * 3
          · rw [q0, jr_eq e17, if_pos (by omega)]
          · rw [jr_nj e17 q0, if_neg (by omega), if_neg (by omega), if_neg (by omega), if_pos (by omega), jr_na e14 (by omega), jc_in e13 (by omega), hb _ (by omega) (by omega)]
            congr 1
            omega
    · rw [jr_eq e24', h10, eY8]
    · have x10 : M24 a j = M22 a j := by
        rcases a0 with a0 | a0
        · exact jr_na e24' a0
        · exact jr_nj e24' a0.2
      have x8 : M22 a j = M21 a j := by
        rcases a0 with a0 | a0
        · exact jr_na e22 a0
        · exact jr_nj e22 a0.1
      have x14 : M14 a j = M13 a j := by
        rcases a0 with a0 | a0
        · exact jr_na e14 a0
        · exact jr_nj e14 a0.1
      rw [x10, x8, jr_na e21 a8, jr_na e19 a8, jr_na e17 a8, x14, jc_na e13 a8]
theorem sp_J9_floorMod {A : Nat → Prop} {x : Int} (h : 0 ≤ x ∧ x < 40) : jRI E A kJ9_floorMod_7cf53 [VI x, VI 20] G I (fun r I' => r = x % 20 ∧ I' = I) := by
  have g := fm_tab ⟨x.toNat, by omega⟩
  simp only [show ((x.toNat : Nat) : Int) = x by omega] at g
  have e : Int.tmod x 20 = x % 20 := Int.tmod_eq_emod_of_nonneg h.1
  refine en_J9_floorMod_7cf53 (fun _ _ _ => ⟨by decide, ?_⟩)
  rw [e]
  exact ⟨⟨by omega, by omega⟩, fun _ => ⟨rfl, rfl⟩, fun q => absurd g q⟩
/-- where the i-th step lies -/
def sl (h : Nat) (x : Int) : Nat := h + 2 + 9 * (x % 20).toNat
def HS (G : jG) (δ h : Nat) (H : List (Int → Int)) (I : jM) : Prop := I h 2 = H.length ∧ H.length ≤ 20 ∧ (0 ≤ I h 1 ∧ I h 1 < 20) ∧ ∀ i : Nat, i < H.length → ST G δ (sl h (I h 1 + i)) (H.getD i B0) I
theorem sl_w {h : Nat} (hh : WX2 G h) (x : Int) : WX7 G (sl h x) := (wX2_e0 hh (x % 20) (by omega) (by omega)).2
theorem sl_bd (h : Nat) (x : Int) : h + 2 ≤ sl h x ∧ sl h x + 9 ≤ h + 182 := by unfold sl; omega
theorem cl_kept (hm : WX2 G m) {i : Int} (h1 : 0 ≤ I m 1 ∧ I m 1 < 20) (hi : 0 ≤ i ∧ i < 20) : jRA E jB kX2_kept [VR m, VI i] G I (fun a I' => a = sl m (I m 1 + i) ∧ I' = I) := by
  refine en_X2_kept hm (fun _ _ => ⟨⟨by omega, by omega⟩, (sp_J9_floorMod (by omega)).mono (fun r I2 _ _ g => ?_)⟩)
  obtain ⟨rfl, rfl⟩ := g
  refine ⟨⟨by omega, by omega⟩, sl m (I2 m 1 + i), (wX2_e0 hm _ (by omega) (by omega)).1, sl_w hm _, rfl, rfl⟩
theorem HS.fr {h lo hi : Nat} {H : List (Int → Int)} {I' : jM} (hs : HS G δ h H I) (e : Fr lo hi I I') (hd : hi ≤ 169 ∨ (195 ≤ lo ∧ hi ≤ 635)) (ha : h + 182 ≤ lo ∨ hi ≤ h) : HS G δ h H I' := by
  obtain ⟨h1, h2, h3, h4⟩ := hs
  have e1 : I' h 1 = I h 1 := e _ _ (by omega)
  refine ⟨(e _ _ (by omega)).trans h1, h2, by rw [e1]; exact h3, fun i hi' => ?_⟩
  have b := sl_bd h (I h 1 + i)
  rw [e1]
  exact (h4 i hi').fr e hd (by omega)
theorem cl_keep (hm : WX2 G m) (hp : WX7 G p) (hd : m + 182 ≤ p ∨ p + 9 ≤ m) (hz : 195 ≤ m ∧ m + 182 ≤ 635) {H : List (Int → Int)} (hH : HS G δ m H I) (h : ST G δ p X I) : jRV E jB kX2_keep [VR m, VR p] G I (fun I' => HS G δ m (pushH H X) I' ∧ Fr m (m + 182) I I') := by
  obtain ⟨h1, h2, h3, h4⟩ := hH
  refine en_X2_keep hm hp (fun _ => ⟨fun q => ?_, fun q => ?_⟩)
  · have hl : H.length < 20 := by omega
    rw [h1]
    refine (cl_kept hm h3 (by omega)).mono (fun a I1 _ g => ?_)
    obtain ⟨rfl, rfl⟩ := g
    have b := sl_bd m (I1 m 1 + H.length)
    refine ⟨sl_w hm _, (cl_stateCopy (sl_w hm _) hp (by omega) (by omega) h).mono (fun I4 _ g4 => ?_)⟩
    have e2 : I4 m 2 = H.length := by rw [g4.2 _ _ (by omega)]; exact h1
    rw [e2]
    refine ⟨⟨by omega, by omega⟩, fun M5 e5 => ⟨?_, (g4.2.mono (by omega) (by omega)).trans (Fr.up e5 (by omega))⟩⟩
    have e1 : M5 m 1 = I1 m 1 := by rw [jr_nj e5 (by decide), g4.2 _ _ (by omega)]
    have f5 : Fr m (m + 1) I4 M5 := Fr.up e5 (by omega)
    unfold pushH
    rw [if_neg (by omega)]
    refine ⟨?_, ?_, by rw [e1]; exact h3, fun i hi => ?_⟩
    · rw [jr_eq e5, List.length_append]
      simp
    · rw [List.length_append]
      simp
      omega
    · rw [List.length_append] at hi
      simp at hi
      rw [e1]
      have bi := sl_bd m (I1 m 1 + i)
      by_cases q2 : i < H.length
      · rw [gd_left q2]
        refine ((h4 i q2).fr g4.2 (by omega) ?_).fr f5 (by omega) (by omega)
        unfold sl
        omega
      · have ei : i = H.length := by omega
        rw [gd_right (by omega), ei, Nat.sub_self]
        exact g4.1.fr f5 (by omega) (by omega)
  · have hl : H.length = 20 := by omega
    have et : Int.tmod (I m 1 + 1) 20 = (I m 1 + 1) % 20 := Int.tmod_eq_emod_of_nonneg (by omega)
    rw [et]
    refine ⟨⟨by omega, by omega⟩, ⟨by omega, by omega⟩, fun M9 e9 M11 e11 => ?_⟩
    have f11 : Fr m (m + 1) I M11 := (Fr.up e9 (by omega)).trans (Fr.up e11 (by omega))
    have e1 : M11 m 1 = (I m 1 + 1) % 20 := by rw [jr_nj e11 (by decide), jr_eq e9]
    refine (cl_kept hm (by rw [e1]; omega) (by omega)).mono (fun a I1 _ g => ?_)
    obtain ⟨rfl, rfl⟩ := g
    have b := sl_bd m (I1 m 1 + 19)
    refine ⟨sl_w hm _, (cl_stateCopy (sl_w hm _) hp (by omega) (by omega) (h.fr f11 (by omega) (by omega))).mono (fun I4 _ g4 => ?_)⟩
    have e2 : I4 m 2 = 19 := by rw [g4.2 _ _ (by omega)]; exact jr_eq e11
    rw [e2]
    refine ⟨⟨by omega, by omega⟩, fun M5 e5 => ⟨?_, (f11.mono (by omega) (by omega)).trans ((g4.2.mono (by omega) (by omega)).trans (Fr.up e5 (by omega)))⟩⟩
    have e1' : M5 m 1 = (I m 1 + 1) % 20 := by rw [jr_nj e5 (by decide), g4.2 _ _ (by omega)]; exact e1
    have f5 : Fr m (m + 1) I4 M5 := Fr.up e5 (by omega)
    unfold pushH
    rw [if_pos hl]
    refine ⟨?_, ?_, by rw [e1']; omega, fun i hi => ?_⟩
    · rw [jr_eq e5, List.length_append, List.length_tail, hl]
      rfl
    · rw [List.length_append, List.length_tail, hl]
      exact Nat.le_refl 20
    · rw [List.length_append, List.length_tail, hl] at hi
      simp at hi
      rw [e1']
      have bi := sl_bd m ((I m 1 + 1) % 20 + i)
      by_cases q2 : i < 19
      · have eg : (H.tail ++ [X]).getD i B0 = H.getD (i + 1) B0 := by
          rw [gd_left (by rw [List.length_tail]; omega)]
          cases H with
          | nil => simp at hl
          | cons a as => rfl
        rw [eg]
        have es : sl m ((I m 1 + 1) % 20 + i) = sl m (I m 1 + ((i + 1 : Nat) : Int)) := by unfold sl; omega
        rw [es]
        have g := h4 (i + 1) (by omega)
        have bi' := sl_bd m (I m 1 + ((i + 1 : Nat) : Int))
        refine ((g.fr f11 (by omega) (by omega)).fr g4.2 (by omega) ?_).fr f5 (by omega) (by omega)
        rw [e1]
        unfold sl
        omega
      · have ei : i = 19 := by omega
        have eg : (H.tail ++ [X]).getD i B0 = X := by
          rw [gd_right (by rw [List.length_tail]; omega), List.length_tail, hl, ei]
          rfl
        rw [eg, ei]
        rw [e1] at g4
        have b19 := sl_bd m ((I m 1 + 1) % 20 + 19)
        exact g4.1.fr f5 (by omega) (by omega)
theorem cl_takeBack (hm : WX2 G m) (hp : WX7 G p) (hd : m + 182 ≤ p ∨ p + 9 ≤ m) (hz : 195 ≤ m ∧ m + 182 ≤ 635) (hzp : 195 ≤ p ∧ p + 9 ≤ 635) {H : List (Int → Int)} (hH : HS G δ m H I) (hne : H ≠ []) : jRV E jB kX2_takeBack [VR m, VR p] G I (fun I' => HS G δ m H.dropLast I' ∧ ST G δ p (H.getD (H.length - 1) B0) I' ∧ ∀ a j, (a ≠ m ∨ j ≠ 2) → (a < p ∨ p + 9 ≤ a) → I' a j = I a j) := by
  obtain ⟨h1, h2, h3, h4⟩ := hH
  have hl : 0 < H.length := List.length_pos_iff.mpr hne
  refine en_X2_takeBack hm hp (fun _ => ⟨fun q => absurd q (by omega), fun _ => ⟨⟨by omega, by omega⟩, fun M1 e1 => ?_⟩⟩)
  rw [h1] at e1 ⊢
  have k1 : M1 m 1 = I m 1 := jr_nj e1 (by decide)
  have f1 : Fr m (m + 1) I M1 := Fr.up e1 (by omega)
  refine (cl_kept hm (by rw [k1]; exact h3) (by omega)).mono (fun a I3 _ g => ?_)
  obtain ⟨rfl, rfl⟩ := g
  have b := sl_bd m (I3 m 1 + ((H.length : Int) - 1))
  have ei : ((H.length - 1 : Nat) : Int) = (H.length : Int) - 1 := by omega
  have g := h4 (H.length - 1) (by omega)
  rw [ei, ← k1] at g
  refine ⟨sl_w hm _, (cl_stateCopy hp (sl_w hm _) (by omega) hzp (g.fr f1 (by omega) (by omega))).mono (fun I6 _ g6 => ⟨?_, g6.1, fun a j a0 a1 => ?_⟩)⟩
  · have e2 : I6 m 1 = I m 1 := by rw [g6.2 _ _ (by omega)]; exact k1
    refine ⟨?_, by rw [List.length_dropLast]; omega, by rw [e2]; exact h3, fun i hi => ?_⟩
    · rw [g6.2 _ _ (by omega), jr_eq e1, List.length_dropLast]
      omega
    · rw [List.length_dropLast] at hi
      rw [e2]
      have bi := sl_bd m (I m 1 + i)
      have eg : H.dropLast.getD i B0 = H.getD i B0 := by
        rw [List.getD_eq_getElem?_getD, List.getD_eq_getElem?_getD, List.getElem?_dropLast, if_pos (by omega)]
      rw [eg]
      exact ((h4 i (by omega)).fr f1 (by omega) (by omega)).fr g6.2 (by omega) (by omega)
  · rw [g6.2 a j a1]
    rcases a0 with a0 | a0
    · exact jr_na e1 a0
    · exact jr_nj e1 a0
theorem cl_histCopy (hm : WX2 G m) (hp : WX2 G p) (hd : m + 182 ≤ p ∨ p + 182 ≤ m) (hz : 195 ≤ m ∧ m + 182 ≤ 635) {H : List (Int → Int)} (hH : HS G δ p H I) : jRV E jB kX2_copyFrom [VR m, VR p] G I (fun I' => HS G δ m H I' ∧ Fr m (m + 182) I I') := by
  have h1 := hH.1
  have h2 := hH.2.1
  refine en_X2_copyFrom hm hp (fun _ M1 e1 M2 e2 => ?_)
  have f2 : Fr m (m + 182) I M2 := (Fr.up e1 (by omega)).trans (Fr.up e2 (by omega))
  rw [jr_na e1 (by omega), h1] at e2
  have loop : ∀ (d c : Nat) (I1 : jM), c + d = H.length → I1 m 1 = 0 → I1 m 2 = H.length → (∀ i : Nat, i < c → ST G δ (sl m i) (H.getD i B0) I1) → Fr m (m + 182) I I1 → jOV E jB kX2_copyFrom 15 [VR m, VR p, VI c] G I1 (fun I' => HS G δ m H I' ∧ Fr m (m + 182) I I') := by
    intro d
    induction d with
    | zero =>
      intro c I1 hc k1 k2 hs hF
      refine st_X2_copyFrom_15 hm hp (fun _ _ => ⟨fun _ => ⟨⟨k2, h2, by omega, fun i hi => ?_⟩, hF⟩, fun q => absurd (by omega) q⟩)
      rw [k1, show (0 : Int) + (i : Int) = i by omega]
      exact hs i (by omega)
    | succ d ih =>
      intro c I1 hc k1 k2 hs hF
      have hHp := hH.fr hF (by omega) (by omega)
      refine st_X2_copyFrom_15 hm hp (fun _ _ => ⟨fun q => absurd q (by omega), fun _ => (cl_kept hm (by omega) (by omega)).mono (fun a I2 _ g => ?_)⟩)
      obtain ⟨rfl, rfl⟩ := g
      refine ⟨sl_w hm _, (cl_kept hp hHp.2.2.1 (by omega)).mono (fun a I4 _ g => ?_)⟩
      obtain ⟨rfl, rfl⟩ := g
      have b1 := sl_bd m (I4 m 1 + c)
      have b2 := sl_bd p (I4 p 1 + c)
      refine ⟨sl_w hp _, (cl_stateCopy (sl_w hm _) (sl_w hp _) (by omega) (by omega) (hHp.2.2.2 c (by omega))).mono (fun I7 _ g7 => ⟨⟨by omega, by omega⟩, ?_⟩)⟩
      have e2 : (c : Int) + 1 = ((c + 1 : Nat) : Int) := by omega
      rw [e2]
      rw [k1, show (0 : Int) + (c : Int) = c by omega] at g7 b1
      refine ih (c + 1) I7 (by omega) ?_ ?_ (fun i hi => ?_) (hF.trans (g7.2.mono (by omega) (by omega)))
      · rw [g7.2 _ _ (by omega)]; exact k1
      · rw [g7.2 _ _ (by omega)]; exact k2
      · by_cases q : i = c
        · rw [q]; exact g7.1
        · have bi := sl_bd m (i : Int)
          refine (hs i (by omega)).fr g7.2 (by omega) ?_
          unfold sl
          omega
  exact loop H.length 0 M2 (by omega) (by rw [jr_nj e2 (by decide), jr_eq e1]) (jr_eq e2) (fun i hi => absurd hi (Nat.not_lt_zero i)) f2
end CD
