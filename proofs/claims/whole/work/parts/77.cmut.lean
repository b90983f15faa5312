/-! ===== the class: what is told ===== -/
set_option maxRecDepth 20000 in
theorem st_X9_spool_3 {E : jE} {G : jG} {I : jM} {q : jM → Prop} {m : Nat} {x1 : Int} {x2 : Int} (hm : WX9 G m) (hT : (∀ a j, jRg (G.2.1 a).1 (I a j)) → jIn x1 → jIn x2 → ((x2 < 0 → q I) ∧ (¬ x2 < 0 → ((300 ≤ (I m 1) → jIn (x2 + (-8)) ∧ jOV E jB kX9_spool 3 [VR m, VI x1, VI (x2 + (-8))] G I q) ∧ (¬ 300 ≤ (I m 1) → ((0 : Int) ≤ (I m 1) ∧ ((I m 1) : Int) < 300) ∧ (∀ M3, M3 = jup I (m + 168) (I m 1) (jb8 (jushr x1 x2)) → jIn ((I m 1) + 1) ∧ (∀ M4, M4 = jup M3 m 1 ((I m 1) + 1) → jIn (x2 + (-8)) ∧ jOV E jB kX9_spool 3 [VR m, VI x1, VI (x2 + (-8))] G M4 q))))))) : jOV E jB kX9_spool 3 [VR m, VI x1, VI x2] G I q := by
  intro I0 hF
  refine jOk_mem (fun hI => ?_)
  refine jOk_in (i := 1) rfl (fun hx1 => ?_)
  refine jOk_in (i := 2) rfl (fun hx2 => ?_)
  replace hT := hT hI hx1 hx2
  refine r_iload_n dX9_spool_3 rfl (i := 2) rfl ?_
  refine r_if_lt (tgt := 46) dX9_spool_4 rfl hx2 (fun hcc => ?_) (fun hcc => ?_)
  · replace hT := hT.1 hcc
    exact r_vret dX9_spool_46 rfl ⟨Nat.zero_le _, Nat.zero_le _⟩ ⟨rfl, rfl, hF, hT⟩
  · replace hT := hT.2 hcc
    refine r_aload_n dX9_spool_7 rfl (i := 0) rfl ?_
    refine rr_getI (v := I m 1) dX9_spool_8 fg_X9_88 rfl (wX9_l hm) (wX9_s hm) rfl ?_
    refine r_sipush (n := 300) dX9_spool_11 (by decide +kernel) ?_
    refine r_icmp_ge (tgt := 40) dX9_spool_14 rfl (hI _ _).inR ⟨by decide, by decide⟩ (fun hcc => ?_) (fun hcc => ?_)
    · replace hT := hT.1 hcc
      obtain ⟨hc1, hT⟩ := hT
      refine rr_iinc (i := 2) (ls' := [VR m, VI x1, VI (x2 + (-8))]) dX9_spool_40 rfl (Nat.le_of_ble_eq_true rfl) rfl rfl hc1 ?_
      refine r_goto (tgt := 3) dX9_spool_43 rfl ?_
      exact hT I0 hF
    · replace hT := hT.2 hcc
      refine r_aload_n dX9_spool_17 rfl (i := 0) rfl ?_
      refine rr_getR (b := (m + 168)) dX9_spool_18 fg_X9_42 rfl rfl (wX9_l hm) (wX9_s hm) (wX9_r0 hm) ?_
      refine r_aload_n dX9_spool_21 rfl (i := 0) rfl ?_
      refine rr_getI (v := I m 1) dX9_spool_22 fg_X9_88 rfl (wX9_l hm) (wX9_s hm) rfl ?_
      refine r_iload_n dX9_spool_25 rfl (i := 1) rfl ?_
      refine r_iload_n dX9_spool_26 rfl (i := 2) rfl ?_
      refine r_iushr dX9_spool_27 ?_
      refine r_i2b dX9_spool_28 ?_
      obtain ⟨hc2, hT⟩ := hT
      refine rr_bastore dX9_spool_29 (wX9_l0 hm) (wX9_a0 hm) (by decide) hc2 (j8_in _).2 (fun M3 eM3 => ?_)
      have hFM3 := jFr_up hF eM3 (wX9_f hm 168 (by decide))
      replace hT := hT M3 eM3
      refine jOk_mem (fun hIM3 => ?_)
      refine r_aload_n dX9_spool_30 rfl (i := 0) rfl ?_
      refine r_dup dX9_spool_31 rfl ?_
      refine rr_getI (v := I m 1) dX9_spool_32 fg_X9_88 rfl (wX9_l hm) (wX9_s hm) (jr_na eM3 (by omega)) ?_
      refine r_iconst (n := 1) dX9_spool_35 ?_
      refine r_iadd dX9_spool_36 ?_
      obtain ⟨hc5, hT⟩ := hT
      refine rr_putI (jj := 1) dX9_spool_37 fp_X9_88 rfl rfl (wX9_l hm) (wX9_s hm) hc5 (fun M4 eM4 => ?_)
      have hFM4 := jFr_up hFM3 eM4 (wX9_f hm 0 (by decide))
      replace hT := hT M4 eM4
      refine jOk_mem (fun hIM4 => ?_)
      obtain ⟨hc6, hT⟩ := hT
      refine rr_iinc (i := 2) (ls' := [VR m, VI x1, VI (x2 + (-8))]) dX9_spool_40 rfl (Nat.le_of_ble_eq_true rfl) rfl rfl hc6 ?_
      refine r_goto (tgt := 3) dX9_spool_43 rfl ?_
      exact hT I0 hFM4
set_option maxRecDepth 20000 in
theorem st_X9_spool_0 {E : jE} {G : jG} {I : jM} {q : jM → Prop} {m : Nat} {x1 : Int} (hm : WX9 G m) (hT : (∀ a j, jRg (G.2.1 a).1 (I a j)) → jIn x1 → jOV E jB kX9_spool 3 [VR m, VI x1, VI 24] G I q) : jOV E jB kX9_spool 0 [VR m, VI x1, VN] G I q := by
  intro I0 hF
  refine jOk_mem (fun hI => ?_)
  refine jOk_in (i := 1) rfl (fun hx1 => ?_)
  replace hT := hT hI hx1
  refine r_bipush (n := 24) dX9_spool_0 (by decide +kernel) ?_
  refine rr_istore_n (i := 2) (ls' := [VR m, VI x1, VI 24]) dX9_spool_2 rfl (Nat.le_of_ble_eq_true rfl) rfl rfl ⟨by decide, by decide⟩ ?_
  exact hT I0 hF
theorem en_X9_spool {E : jE} {G : jG} {I : jM} {q : jM → Prop} {m : Nat} {x1 : Int} (hm : WX9 G m) (hT : (∀ a j, jRg (G.2.1 a).1 (I a j)) → jIn x1 → jOV E jB kX9_spool 3 [VR m, VI x1, VI 24] G I q) : jRV E jB kX9_spool [VR m, VI x1] G I q := jRun.of mt_X9_spool.2.2.2 1 rfl (fun _ => st_X9_spool_0 hm hT I (fun _ _ => rfl))
set_option maxRecDepth 20000 in
theorem st_X9_feed_0 {E : jE} {G : jG} {I : jM} {q : Int → jM → Prop} {m : Nat} {x1 : Int} {x2 : Int} {x3 : Int} {x4 : Int} {x5 : Int} (hm : WX9 G m) (hT : (∀ a j, jRg (G.2.1 a).1 (I a j)) → jIn x1 → jIn x2 → jIn x3 → jIn x4 → jIn x5 → jIn ((I m 1) + 20) ∧ ((((I m 1) + 20) ≤ 300 → jRV E jB kX9_spool [VR m, VI x1] G I (fun I2 => jRV E jB kX9_spool [VR m, VI x2] G I2 (fun I3 => jRV E jB kX9_spool [VR m, VI x3] G I3 (fun I4 => jRV E jB kX9_spool [VR m, VI x4] G I4 (fun I5 => jRV E jB kX9_spool [VR m, VI x5] G I5 (fun I6 => q (I6 m 1) I6)))))) ∧ (¬ ((I m 1) + 20) ≤ 300 → q (-1) I))) : jOI E jB kX9_feed 0 [VR m, VI x1, VI x2, VI x3, VI x4, VI x5] G I q := by
  intro I0 hF
  refine jOk_mem (fun hI => ?_)
  refine jOk_in (i := 1) rfl (fun hx1 => ?_)
  refine jOk_in (i := 2) rfl (fun hx2 => ?_)
  refine jOk_in (i := 3) rfl (fun hx3 => ?_)
  refine jOk_in (i := 4) rfl (fun hx4 => ?_)
  refine jOk_in (i := 5) rfl (fun hx5 => ?_)
  replace hT := hT hI hx1 hx2 hx3 hx4 hx5
  refine r_aload_n dX9_feed_0 rfl (i := 0) rfl ?_
  refine rr_getI (v := I m 1) dX9_feed_1 fg_X9_88 rfl (wX9_l hm) (wX9_s hm) rfl ?_
  refine r_bipush (n := 20) dX9_feed_4 (by decide +kernel) ?_
  refine r_iadd dX9_feed_6 ?_
  refine r_sipush (n := 300) dX9_feed_7 (by decide +kernel) ?_
  obtain ⟨hc1, hT⟩ := hT
  refine r_icmp_le (tgt := 15) dX9_feed_10 rfl hc1 ⟨by decide, by decide⟩ (fun hcc => ?_) (fun hcc => ?_)
  · replace hT := hT.1 hcc
    refine r_aload_n dX9_feed_15 rfl (i := 0) rfl ?_
    refine r_iload_n dX9_feed_16 rfl (i := 1) rfl ?_
    refine rr_cVV (a := m) (as := [VI x1]) (st := []) dX9_feed_17 mt_X9_spool ml_X9_92 mi_X9_spool rm_X9_feed_X9_spool jz_X9_spool ⟨Nat.zero_le _, Nat.zero_le _⟩ (Nat.le_of_ble_eq_true rfl) (wX9_l hm) (wX9_c hm) (jasI hx1 jas0) hT (fun I2 hFI2 hT => ?_)
    replace hFI2 := jFr_tr hF hFI2
    refine jOk_mem (fun hI2 => ?_)
    refine r_aload_n dX9_feed_20 rfl (i := 0) rfl ?_
    refine r_iload_n dX9_feed_21 rfl (i := 2) rfl ?_
    refine rr_cVV (a := m) (as := [VI x2]) (st := []) dX9_feed_22 mt_X9_spool ml_X9_92 mi_X9_spool rm_X9_feed_X9_spool jz_X9_spool ⟨Nat.zero_le _, Nat.zero_le _⟩ (Nat.le_of_ble_eq_true rfl) (wX9_l hm) (wX9_c hm) (jasI hx2 jas0) hT (fun I3 hFI3 hT => ?_)
    replace hFI3 := jFr_tr hFI2 hFI3
    refine jOk_mem (fun hI3 => ?_)
    refine r_aload_n dX9_feed_25 rfl (i := 0) rfl ?_
    refine r_iload_n dX9_feed_26 rfl (i := 3) rfl ?_
    refine rr_cVV (a := m) (as := [VI x3]) (st := []) dX9_feed_27 mt_X9_spool ml_X9_92 mi_X9_spool rm_X9_feed_X9_spool jz_X9_spool ⟨Nat.zero_le _, Nat.zero_le _⟩ (Nat.le_of_ble_eq_true rfl) (wX9_l hm) (wX9_c hm) (jasI hx3 jas0) hT (fun I4 hFI4 hT => ?_)
    replace hFI4 := jFr_tr hFI3 hFI4
    refine jOk_mem (fun hI4 => ?_)
    refine r_aload_n dX9_feed_30 rfl (i := 0) rfl ?_
    refine r_iload dX9_feed_31 (i := 4) rfl ?_
    refine rr_cVV (a := m) (as := [VI x4]) (st := []) dX9_feed_33 mt_X9_spool ml_X9_92 mi_X9_spool rm_X9_feed_X9_spool jz_X9_spool ⟨Nat.zero_le _, Nat.zero_le _⟩ (Nat.le_of_ble_eq_true rfl) (wX9_l hm) (wX9_c hm) (jasI hx4 jas0) hT (fun I5 hFI5 hT => ?_)
    replace hFI5 := jFr_tr hFI4 hFI5
    refine jOk_mem (fun hI5 => ?_)
    refine r_aload_n dX9_feed_36 rfl (i := 0) rfl ?_
    refine r_iload dX9_feed_37 (i := 5) rfl ?_
    refine rr_cVV (a := m) (as := [VI x5]) (st := []) dX9_feed_39 mt_X9_spool ml_X9_92 mi_X9_spool rm_X9_feed_X9_spool jz_X9_spool ⟨Nat.zero_le _, Nat.zero_le _⟩ (Nat.le_of_ble_eq_true rfl) (wX9_l hm) (wX9_c hm) (jasI hx5 jas0) hT (fun I6 hFI6 hT => ?_)
    replace hFI6 := jFr_tr hFI5 hFI6
    refine jOk_mem (fun hI6 => ?_)
    refine r_aload_n dX9_feed_42 rfl (i := 0) rfl ?_
    refine rr_getI (v := I6 m 1) dX9_feed_43 fg_X9_88 rfl (wX9_l hm) (wX9_s hm) rfl ?_
    exact r_iret dX9_feed_46 rfl (hI6 _ _).inR ⟨Nat.zero_le _, Nat.zero_le _⟩ ⟨_, rfl, rfl, hFI6, hT⟩
  · replace hT := hT.2 hcc
    refine r_iconst (n := (-1)) dX9_feed_13 ?_
    exact r_iret dX9_feed_14 rfl ⟨by decide, by decide⟩ ⟨Nat.zero_le _, Nat.zero_le _⟩ ⟨_, rfl, rfl, hF, hT⟩
theorem en_X9_feed {E : jE} {G : jG} {I : jM} {q : Int → jM → Prop} {m : Nat} {x1 : Int} {x2 : Int} {x3 : Int} {x4 : Int} {x5 : Int} (hm : WX9 G m) (hT : (∀ a j, jRg (G.2.1 a).1 (I a j)) → jIn x1 → jIn x2 → jIn x3 → jIn x4 → jIn x5 → jIn ((I m 1) + 20) ∧ ((((I m 1) + 20) ≤ 300 → jRV E jB kX9_spool [VR m, VI x1] G I (fun I2 => jRV E jB kX9_spool [VR m, VI x2] G I2 (fun I3 => jRV E jB kX9_spool [VR m, VI x3] G I3 (fun I4 => jRV E jB kX9_spool [VR m, VI x4] G I4 (fun I5 => jRV E jB kX9_spool [VR m, VI x5] G I5 (fun I6 => q (I6 m 1) I6)))))) ∧ (¬ ((I m 1) + 20) ≤ 300 → q (-1) I))) : jRI E jB kX9_feed [VR m, VI x1, VI x2, VI x3, VI x4, VI x5] G I q := jRun.of mt_X9_feed.2.2.2 0 rfl (fun _ => st_X9_feed_0 hm hT I (fun _ _ => rfl))
set_option maxRecDepth 20000 in
theorem st_X9_end_0 {E : jE} {G : jG} {I : jM} {q : Int → jM → Prop} {m : Nat} {x1 : Int} (hm : WX9 G m) (hT : (∀ a j, jRg (G.2.1 a).1 (I a j)) → jIn x1 → ((x1 < 0 → q (-1) I) ∧ (¬ x1 < 0 → ((x1 ≤ (I m 1) → (∀ M1, M1 = jup I m 1 x1 → q x1 M1)) ∧ (¬ x1 ≤ (I m 1) → q (-1) I))))) : jOI E jB kX9_end 0 [VR m, VI x1] G I q := by
  intro I0 hF
  refine jOk_mem (fun hI => ?_)
  refine jOk_in (i := 1) rfl (fun hx1 => ?_)
  replace hT := hT hI hx1
  refine r_iload_n dX9_end_0 rfl (i := 1) rfl ?_
  refine r_if_lt (tgt := 12) dX9_end_1 rfl hx1 (fun hcc => ?_) (fun hcc => ?_)
  · replace hT := hT.1 hcc
    refine r_iconst (n := (-1)) dX9_end_12 ?_
    exact r_iret dX9_end_13 rfl ⟨by decide, by decide⟩ ⟨Nat.zero_le _, Nat.zero_le _⟩ ⟨_, rfl, rfl, hF, hT⟩
  · replace hT := hT.2 hcc
    refine r_iload_n dX9_end_4 rfl (i := 1) rfl ?_
    refine r_aload_n dX9_end_5 rfl (i := 0) rfl ?_
    refine rr_getI (v := I m 1) dX9_end_6 fg_X9_88 rfl (wX9_l hm) (wX9_s hm) rfl ?_
    refine r_icmp_le (tgt := 14) dX9_end_9 rfl hx1 (hI _ _).inR (fun hcc => ?_) (fun hcc => ?_)
    · replace hT := hT.1 hcc
      refine r_aload_n dX9_end_14 rfl (i := 0) rfl ?_
      refine r_iload_n dX9_end_15 rfl (i := 1) rfl ?_
      refine rr_putI (jj := 1) dX9_end_16 fp_X9_88 rfl rfl (wX9_l hm) (wX9_s hm) hx1 (fun M1 eM1 => ?_)
      have hFM1 := jFr_up hF eM1 (wX9_f hm 0 (by decide))
      replace hT := hT M1 eM1
      refine jOk_mem (fun hIM1 => ?_)
      refine r_iload_n dX9_end_19 rfl (i := 1) rfl ?_
      exact r_iret dX9_end_20 rfl hx1 ⟨Nat.zero_le _, Nat.zero_le _⟩ ⟨_, rfl, rfl, hFM1, hT⟩
    · replace hT := hT.2 hcc
      refine r_iconst (n := (-1)) dX9_end_12 ?_
      exact r_iret dX9_end_13 rfl ⟨by decide, by decide⟩ ⟨Nat.zero_le _, Nat.zero_le _⟩ ⟨_, rfl, rfl, hF, hT⟩
theorem en_X9_end {E : jE} {G : jG} {I : jM} {q : Int → jM → Prop} {m : Nat} {x1 : Int} (hm : WX9 G m) (hT : (∀ a j, jRg (G.2.1 a).1 (I a j)) → jIn x1 → ((x1 < 0 → q (-1) I) ∧ (¬ x1 < 0 → ((x1 ≤ (I m 1) → (∀ M1, M1 = jup I m 1 x1 → q x1 M1)) ∧ (¬ x1 ≤ (I m 1) → q (-1) I))))) : jRI E jB kX9_end [VR m, VI x1] G I q := jRun.of mt_X9_end.2.2.2 0 rfl (fun _ => st_X9_end_0 hm hT I (fun _ _ => rfl))
set_option maxRecDepth 20000 in
theorem st_X9_text_21 {E : jE} {G : jG} {I : jM} {q : Int → jM → Prop} {m : Nat} {x1 : Int} {x2 : Int} (hm : WX9 G m) (hT : (∀ a j, jRg (G.2.1 a).1 (I a j)) → jIn x1 → jIn x2 → ((x1 ≤ x2 → jRV E jB kX9_keepStep [VR m] G I (fun I1 => jRV E jB kX4_tell [VR (m + 196), VR (m + 168), VI x1] G I1 (fun I2 => q x1 I2))) ∧ (¬ x1 ≤ x2 → ((0 : Int) ≤ x2 ∧ (x2 : Int) < 300) ∧ (((-128) ≤ (I (m + 168) x2) ∧ (I (m + 168) x2) ≤ 127) → jRI E jB kX9_mayStandInText [VI (I (m + 168) x2)] G I (fun r6 I5 => ((¬ r6 = 0 → jIn (x2 + 1) ∧ jOI E jB kX9_text 21 [VR m, VI x1, VI (x2 + 1)] G I5 q) ∧ (r6 = 0 → q (-1) I5))))))) : jOI E jB kX9_text 21 [VR m, VI x1, VI x2] G I q := by
  intro I0 hF
  refine jOk_mem (fun hI => ?_)
  refine jOk_in (i := 1) rfl (fun hx1 => ?_)
  refine jOk_in (i := 2) rfl (fun hx2 => ?_)
  replace hT := hT hI hx1 hx2
  refine r_iload_n dX9_text_21 rfl (i := 2) rfl ?_
  refine r_iload_n dX9_text_22 rfl (i := 1) rfl ?_
  refine r_icmp_ge (tgt := 46) dX9_text_23 rfl hx2 hx1 (fun hcc => ?_) (fun hcc => ?_)
  · replace hT := hT.1 hcc
    refine r_aload_n dX9_text_46 rfl (i := 0) rfl ?_
    refine rr_cVV (a := m) (as := []) (st := []) dX9_text_47 mt_X9_keepStep ml_X9_100 mi_X9_keepStep rm_X9_text_X9_keepStep jz_X9_keepStep ⟨Nat.zero_le _, Nat.zero_le _⟩ (Nat.le_of_ble_eq_true rfl) (wX9_l hm) (wX9_c hm) jas0 hT (fun I1 hFI1 hT => ?_)
    replace hFI1 := jFr_tr hF hFI1
    refine jOk_mem (fun hI1 => ?_)
    refine r_aload_n dX9_text_50 rfl (i := 0) rfl ?_
    refine rr_getR (b := (m + 195)) dX9_text_51 fg_X9_59 rfl rfl (wX9_l hm) (wX9_s hm) (wX9_r4 hm) ?_
    refine rr_getR (b := (m + 196)) dX9_text_54 fg_X9_103 rfl rfl (wX7_l (wX9_o4 hm)) (wX7_s (wX9_o4 hm)) (wX7_r0 (wX9_o4 hm)) ?_
    refine r_aload_n dX9_text_57 rfl (i := 0) rfl ?_
    refine rr_getR (b := (m + 168)) dX9_text_58 fg_X9_42 rfl rfl (wX9_l hm) (wX9_s hm) (wX9_r0 hm) ?_
    refine r_iload_n dX9_text_61 rfl (i := 1) rfl ?_
    refine rr_cVV (a := (m + 196)) (as := [VR (m + 168), VI x1]) (st := []) dX9_text_62 mt_X4_tell ml_X9_106 mi_X4_tell rm_X9_text_X4_tell jz_X4_tell ⟨Nat.zero_le _, Nat.zero_le _⟩ (Nat.le_of_ble_eq_true rfl) (wX4_l (wX7_o0 (wX9_o4 hm))) (wX4_c (wX7_o0 (wX9_o4 hm))) (jasR (jasI hx1 jas0)) hT (fun I2 hFI2 hT => ?_)
    replace hFI2 := jFr_tr hFI1 hFI2
    refine jOk_mem (fun hI2 => ?_)
    refine r_iload_n dX9_text_65 rfl (i := 1) rfl ?_
    exact r_iret dX9_text_66 rfl hx1 ⟨Nat.zero_le _, Nat.zero_le _⟩ ⟨_, rfl, rfl, hFI2, hT⟩
  · replace hT := hT.2 hcc
    refine r_aload_n dX9_text_26 rfl (i := 0) rfl ?_
    refine rr_getR (b := (m + 168)) dX9_text_27 fg_X9_42 rfl rfl (wX9_l hm) (wX9_s hm) (wX9_r0 hm) ?_
    refine r_iload_n dX9_text_30 rfl (i := 2) rfl ?_
    obtain ⟨hc3, hT⟩ := hT
    refine rr_baload (v := I (m + 168) x2) dX9_text_31 (wX9_l0 hm) (wX9_a0 hm) (by decide) hc3 rfl (fun hr4 => ?_)
    replace hT := hT hr4
    refine rr_cSI (as := [VI (I (m + 168) x2)]) (st := []) dX9_text_32 mt_X9_mayStandInText ml_X9_96 ms_X9_mayStandInText rm_X9_text_X9_mayStandInText jz_X9_mayStandInText ⟨Nat.zero_le _, Nat.zero_le _⟩ (Nat.le_of_ble_eq_true rfl) (jasI (hI _ _).inR jas0) hT (fun r6 I5 hc7 hFI5 hT => ?_)
    replace hFI5 := jFr_tr hF hFI5
    refine jOk_mem (fun hI5 => ?_)
    refine r_if_ne (tgt := 40) dX9_text_35 rfl hc7 (fun hcc => ?_) (fun hcc => ?_)
    · replace hT := hT.1 hcc
      obtain ⟨hc8, hT⟩ := hT
      refine rr_iinc (i := 2) (ls' := [VR m, VI x1, VI (x2 + 1)]) dX9_text_40 rfl (Nat.le_of_ble_eq_true rfl) rfl rfl hc8 ?_
      refine r_goto (tgt := 21) dX9_text_43 rfl ?_
      exact hT I0 hFI5
    · replace hT := hT.2 hcc
      refine r_iconst (n := (-1)) dX9_text_38 ?_
      exact r_iret dX9_text_39 rfl ⟨by decide, by decide⟩ ⟨Nat.zero_le _, Nat.zero_le _⟩ ⟨_, rfl, rfl, hFI5, hT⟩
set_option maxRecDepth 20000 in
theorem st_X9_text_0 {E : jE} {G : jG} {I : jM} {q : Int → jM → Prop} {m : Nat} (hm : WX9 G m) (hT : (∀ a j, jRg (G.2.1 a).1 (I a j)) → (∀ M1, M1 = jup I m 1 0 → (((I m 1) ≤ 200 → jOI E jB kX9_text 21 [VR m, VI (I m 1), VI 0] G M1 q) ∧ (¬ (I m 1) ≤ 200 → q (-1) M1)))) : jOI E jB kX9_text 0 [VR m, VN, VN] G I q := by
  intro I0 hF
  refine jOk_mem (fun hI => ?_)
  replace hT := hT hI 
  refine r_aload_n dX9_text_0 rfl (i := 0) rfl ?_
  refine rr_getI (v := I m 1) dX9_text_1 fg_X9_88 rfl (wX9_l hm) (wX9_s hm) rfl ?_
  refine rr_istore_n (i := 1) (ls' := [VR m, VI (I m 1), VN]) dX9_text_4 rfl (Nat.le_of_ble_eq_true rfl) rfl rfl (hI _ _).inR ?_
  refine r_aload_n dX9_text_5 rfl (i := 0) rfl ?_
  refine r_iconst (n := 0) dX9_text_6 ?_
  refine rr_putI (jj := 1) dX9_text_7 fp_X9_88 rfl rfl (wX9_l hm) (wX9_s hm) ⟨by decide, by decide⟩ (fun M1 eM1 => ?_)
  have hFM1 := jFr_up hF eM1 (wX9_f hm 0 (by decide))
  replace hT := hT M1 eM1
  refine jOk_mem (fun hIM1 => ?_)
  refine r_iload_n dX9_text_10 rfl (i := 1) rfl ?_
  refine r_sipush (n := 200) dX9_text_11 (by decide +kernel) ?_
  refine r_icmp_le (tgt := 19) dX9_text_14 rfl (hI _ _).inR ⟨by decide, by decide⟩ (fun hcc => ?_) (fun hcc => ?_)
  · replace hT := hT.1 hcc
    refine r_iconst (n := 0) dX9_text_19 ?_
    refine rr_istore_n (i := 2) (ls' := [VR m, VI (I m 1), VI 0]) dX9_text_20 rfl (Nat.le_of_ble_eq_true rfl) rfl rfl ⟨by decide, by decide⟩ ?_
    exact hT I0 hFM1
  · replace hT := hT.2 hcc
    refine r_iconst (n := (-1)) dX9_text_17 ?_
    exact r_iret dX9_text_18 rfl ⟨by decide, by decide⟩ ⟨Nat.zero_le _, Nat.zero_le _⟩ ⟨_, rfl, rfl, hFM1, hT⟩
theorem en_X9_text {E : jE} {G : jG} {I : jM} {q : Int → jM → Prop} {m : Nat} (hm : WX9 G m) (hT : (∀ a j, jRg (G.2.1 a).1 (I a j)) → (∀ M1, M1 = jup I m 1 0 → (((I m 1) ≤ 200 → jOI E jB kX9_text 21 [VR m, VI (I m 1), VI 0] G M1 q) ∧ (¬ (I m 1) ≤ 200 → q (-1) M1)))) : jRI E jB kX9_text [VR m] G I q := jRun.of mt_X9_text.2.2.2 2 rfl (fun _ => st_X9_text_0 hm hT I (fun _ _ => rfl))
set_option maxRecDepth 20000 in
theorem st_X9_fault_0 {E : jE} {G : jG} {I : jM} {q : Int → jM → Prop} {m : Nat} {x1 : Int} (hm : WX9 G m) (hT : (∀ a j, jRg (G.2.1 a).1 (I a j)) → jIn x1 → ((¬ x1 = 0 → ((¬ x1 = 1 → q (-1) I) ∧ (x1 = 1 → q (I (m + 204) 5) I))) ∧ (x1 = 0 → q (I (m + 204) 4) I))) : jOI E jB kX9_fault 0 [VR m, VI x1] G I q := by
  intro I0 hF
  refine jOk_mem (fun hI => ?_)
  refine jOk_in (i := 1) rfl (fun hx1 => ?_)
  replace hT := hT hI hx1
  refine r_iload_n dX9_fault_0 rfl (i := 1) rfl ?_
  refine r_if_ne (tgt := 12) dX9_fault_1 rfl hx1 (fun hcc => ?_) (fun hcc => ?_)
  · replace hT := hT.1 hcc
    refine r_iload_n dX9_fault_12 rfl (i := 1) rfl ?_
    refine r_iconst (n := 1) dX9_fault_13 ?_
    refine r_icmp_ne (tgt := 27) dX9_fault_14 rfl hx1 ⟨by decide, by decide⟩ (fun hcc => ?_) (fun hcc => ?_)
    · replace hT := hT.1 hcc
      refine r_iconst (n := (-1)) dX9_fault_27 ?_
      exact r_iret dX9_fault_28 rfl ⟨by decide, by decide⟩ ⟨Nat.zero_le _, Nat.zero_le _⟩ ⟨_, rfl, rfl, hF, hT⟩
    · replace hT := hT.2 hcc
      refine r_aload_n dX9_fault_17 rfl (i := 0) rfl ?_
      refine rr_getR (b := (m + 204)) dX9_fault_18 fg_X9_55 rfl rfl (wX9_l hm) (wX9_s hm) (wX9_r3 hm) ?_
      refine rr_getI (v := I (m + 204) 5) dX9_fault_21 fg_X9_126 rfl (wX5_l (wX9_o3 hm)) (wX5_s (wX9_o3 hm)) rfl ?_
      refine r_goto (tgt := 28) dX9_fault_24 rfl ?_
      exact r_iret dX9_fault_28 rfl (hI _ _).inR ⟨Nat.zero_le _, Nat.zero_le _⟩ ⟨_, rfl, rfl, hF, hT⟩
  · replace hT := hT.2 hcc
    refine r_aload_n dX9_fault_4 rfl (i := 0) rfl ?_
    refine rr_getR (b := (m + 204)) dX9_fault_5 fg_X9_55 rfl rfl (wX9_l hm) (wX9_s hm) (wX9_r3 hm) ?_
    refine rr_getI (v := I (m + 204) 4) dX9_fault_8 fg_X9_123 rfl (wX5_l (wX9_o3 hm)) (wX5_s (wX9_o3 hm)) rfl ?_
    exact r_iret dX9_fault_11 rfl (hI _ _).inR ⟨Nat.zero_le _, Nat.zero_le _⟩ ⟨_, rfl, rfl, hF, hT⟩
theorem en_X9_fault {E : jE} {G : jG} {I : jM} {q : Int → jM → Prop} {m : Nat} {x1 : Int} (hm : WX9 G m) (hT : (∀ a j, jRg (G.2.1 a).1 (I a j)) → jIn x1 → ((¬ x1 = 0 → ((¬ x1 = 1 → q (-1) I) ∧ (x1 = 1 → q (I (m + 204) 5) I))) ∧ (x1 = 0 → q (I (m + 204) 4) I))) : jRI E jB kX9_fault [VR m, VI x1] G I q := jRun.of mt_X9_fault.2.2.2 0 rfl (fun _ => st_X9_fault_0 hm hT I (fun _ _ => rfl))
set_option maxRecDepth 20000 in
theorem st_X9_on_0 {E : jE} {G : jG} {I : jM} {q : Int → jM → Prop} {m : Nat} {x1 : Int} {x2 : Int} (hm : WX9 G m) (hT : (∀ a j, jRg (G.2.1 a).1 (I a j)) → jIn x1 → jIn x2 → jRI E jB kX9_isRule [VR m, VI x1] G I (fun r2 I1 => ((r2 = 0 → q 0 I1) ∧ (¬ r2 = 0 → jRI E jB kX7_isOn [VR (m + 195), VI x1] G I1 (fun r5 I4 => ((¬ r5 = x2 → jRV E jB kX9_keepStep [VR m] G I4 (fun I7 => (∀ M8, M8 = jup I7 (m + 195) 2 (jxor (I7 (m + 195) 2) (jshl 1 x1)) → q 1 M8))) ∧ (r5 = x2 → q 0 I4))))))) : jOI E jB kX9_on 0 [VR m, VI x1, VI x2] G I q := by
  intro I0 hF
  refine jOk_mem (fun hI => ?_)
  refine jOk_in (i := 1) rfl (fun hx1 => ?_)
  refine jOk_in (i := 2) rfl (fun hx2 => ?_)
  replace hT := hT hI hx1 hx2
  refine r_aload_n dX9_on_0 rfl (i := 0) rfl ?_
  refine r_iload_n dX9_on_1 rfl (i := 1) rfl ?_
  refine rr_cVI (a := m) (as := [VI x1]) (st := []) dX9_on_2 mt_X9_isRule ml_X9_129 mi_X9_isRule rm_X9_on_X9_isRule jz_X9_isRule ⟨Nat.zero_le _, Nat.zero_le _⟩ (Nat.le_of_ble_eq_true rfl) (wX9_l hm) (wX9_c hm) (jasI hx1 jas0) hT (fun r2 I1 hc3 hFI1 hT => ?_)
  replace hFI1 := jFr_tr hF hFI1
  refine jOk_mem (fun hI1 => ?_)
  refine r_if_eq (tgt := 20) dX9_on_5 rfl hc3 (fun hcc => ?_) (fun hcc => ?_)
  · replace hT := hT.1 hcc
    refine r_iconst (n := 0) dX9_on_20 ?_
    exact r_zret dX9_on_21 rfl ⟨by decide, by decide⟩ ⟨Nat.zero_le _, Nat.zero_le _⟩ ⟨_, rfl, rfl, hFI1, hT⟩
  · replace hT := hT.2 hcc
    refine r_aload_n dX9_on_8 rfl (i := 0) rfl ?_
    refine rr_getR (b := (m + 195)) dX9_on_9 fg_X9_59 rfl rfl (wX9_l hm) (wX9_s hm) (wX9_r4 hm) ?_
    refine r_iload_n dX9_on_12 rfl (i := 1) rfl ?_
    refine rr_cVI (a := (m + 195)) (as := [VI x1]) (st := []) dX9_on_13 mt_X7_isOn ml_X9_132 mi_X7_isOn rm_X9_on_X7_isOn jz_X7_isOn ⟨Nat.zero_le _, Nat.zero_le _⟩ (Nat.le_of_ble_eq_true rfl) (wX7_l (wX9_o4 hm)) (wX7_c (wX9_o4 hm)) (jasI hx1 jas0) hT (fun r5 I4 hc6 hFI4 hT => ?_)
    replace hFI4 := jFr_tr hFI1 hFI4
    refine jOk_mem (fun hI4 => ?_)
    refine r_iload_n dX9_on_16 rfl (i := 2) rfl ?_
    refine r_icmp_ne (tgt := 22) dX9_on_17 rfl hc6 hx2 (fun hcc => ?_) (fun hcc => ?_)
    · replace hT := hT.1 hcc
      refine r_aload_n dX9_on_22 rfl (i := 0) rfl ?_
      refine rr_cVV (a := m) (as := []) (st := []) dX9_on_23 mt_X9_keepStep ml_X9_100 mi_X9_keepStep rm_X9_on_X9_keepStep jz_X9_keepStep ⟨Nat.zero_le _, Nat.zero_le _⟩ (Nat.le_of_ble_eq_true rfl) (wX9_l hm) (wX9_c hm) jas0 hT (fun I7 hFI7 hT => ?_)
      replace hFI7 := jFr_tr hFI4 hFI7
      refine jOk_mem (fun hI7 => ?_)
      refine r_aload_n dX9_on_26 rfl (i := 0) rfl ?_
      refine rr_getR (b := (m + 195)) dX9_on_27 fg_X9_59 rfl rfl (wX9_l hm) (wX9_s hm) (wX9_r4 hm) ?_
      refine r_aload_n dX9_on_30 rfl (i := 0) rfl ?_
      refine rr_getR (b := (m + 195)) dX9_on_31 fg_X9_59 rfl rfl (wX9_l hm) (wX9_s hm) (wX9_r4 hm) ?_
      refine rr_getI (v := I7 (m + 195) 2) dX9_on_34 fg_X9_135 rfl (wX7_l (wX9_o4 hm)) (wX7_s (wX9_o4 hm)) rfl ?_
      refine r_iconst (n := 1) dX9_on_37 ?_
      refine r_iload_n dX9_on_38 rfl (i := 1) rfl ?_
      refine r_ishl dX9_on_39 ?_
      refine r_ixor dX9_on_40 ?_
      refine rr_putI (jj := 2) dX9_on_41 fp_X9_135 rfl rfl (wX7_l (wX9_o4 hm)) (wX7_s (wX9_o4 hm)) (j32_in _) (fun M8 eM8 => ?_)
      have hFM8 := jFr_up hFI7 eM8 (wX7_f (wX9_o4 hm) 0 (by decide))
      replace hT := hT M8 eM8
      refine jOk_mem (fun hIM8 => ?_)
      refine r_iconst (n := 1) dX9_on_44 ?_
      exact r_zret dX9_on_45 rfl ⟨by decide, by decide⟩ ⟨Nat.zero_le _, Nat.zero_le _⟩ ⟨_, rfl, rfl, hFM8, hT⟩
    · replace hT := hT.2 hcc
      refine r_iconst (n := 0) dX9_on_20 ?_
      exact r_zret dX9_on_21 rfl ⟨by decide, by decide⟩ ⟨Nat.zero_le _, Nat.zero_le _⟩ ⟨_, rfl, rfl, hFI4, hT⟩
theorem en_X9_on {E : jE} {G : jG} {I : jM} {q : Int → jM → Prop} {m : Nat} {x1 : Int} {x2 : Int} (hm : WX9 G m) (hT : (∀ a j, jRg (G.2.1 a).1 (I a j)) → jIn x1 → jIn x2 → jRI E jB kX9_isRule [VR m, VI x1] G I (fun r2 I1 => ((r2 = 0 → q 0 I1) ∧ (¬ r2 = 0 → jRI E jB kX7_isOn [VR (m + 195), VI x1] G I1 (fun r5 I4 => ((¬ r5 = x2 → jRV E jB kX9_keepStep [VR m] G I4 (fun I7 => (∀ M8, M8 = jup I7 (m + 195) 2 (jxor (I7 (m + 195) 2) (jshl 1 x1)) → q 1 M8))) ∧ (r5 = x2 → q 0 I4))))))) : jRI E jB kX9_on [VR m, VI x1, VI x2] G I q := jRun.of mt_X9_on.2.2.2 0 rfl (fun _ => st_X9_on_0 hm hT I (fun _ _ => rfl))
set_option maxRecDepth 20000 in
theorem st_X9_silence_0 {E : jE} {G : jG} {I : jM} {q : Int → jM → Prop} {m : Nat} {x1 : Int} {x2 : Int} (hm : WX9 G m) (hT : (∀ a j, jRg (G.2.1 a).1 (I a j)) → jIn x1 → jIn x2 → ((x1 < 0 → q (-1) I) ∧ (¬ x1 < 0 → ((x2 ≤ x1 → q (-1) I) ∧ (¬ x2 ≤ x1 → (((I (m + 196) 2) < x2 → q (-1) I) ∧ (¬ (I (m + 196) 2) < x2 → (((I (m + 196) 5) < 8 → jRV E jB kX9_keepStep [VR m] G I (fun I1 => jRV E jB kX4_addSpan [VR (m + 196), VI x1, VI x2] G I1 (fun I2 => q (I2 (m + 196) 5) I2))) ∧ (¬ (I (m + 196) 5) < 8 → q (-1) I))))))))) : jOI E jB kX9_silence 0 [VR m, VI x1, VI x2, VN] G I q := by
  intro I0 hF
  refine jOk_mem (fun hI => ?_)
  refine jOk_in (i := 1) rfl (fun hx1 => ?_)
  refine jOk_in (i := 2) rfl (fun hx2 => ?_)
  replace hT := hT hI hx1 hx2
  refine r_aload_n dX9_silence_0 rfl (i := 0) rfl ?_
  refine rr_getR (b := (m + 195)) dX9_silence_1 fg_X9_59 rfl rfl (wX9_l hm) (wX9_s hm) (wX9_r4 hm) ?_
  refine rr_getR (b := (m + 196)) dX9_silence_4 fg_X9_103 rfl rfl (wX7_l (wX9_o4 hm)) (wX7_s (wX9_o4 hm)) (wX7_r0 (wX9_o4 hm)) ?_
  refine rr_astore_n (i := 3) (ls' := [VR m, VI x1, VI x2, VR (m + 196)]) dX9_silence_7 rfl (Nat.le_of_ble_eq_true rfl) rfl rfl ?_
  refine r_iload_n dX9_silence_8 rfl (i := 1) rfl ?_
  refine r_if_lt (tgt := 34) dX9_silence_9 rfl hx1 (fun hcc => ?_) (fun hcc => ?_)
  · replace hT := hT.1 hcc
    refine r_iconst (n := (-1)) dX9_silence_34 ?_
    exact r_iret dX9_silence_35 rfl ⟨by decide, by decide⟩ ⟨Nat.zero_le _, Nat.zero_le _⟩ ⟨_, rfl, rfl, hF, hT⟩
  · replace hT := hT.2 hcc
    refine r_iload_n dX9_silence_12 rfl (i := 1) rfl ?_
    refine r_iload_n dX9_silence_13 rfl (i := 2) rfl ?_
    refine r_icmp_ge (tgt := 34) dX9_silence_14 rfl hx1 hx2 (fun hcc => ?_) (fun hcc => ?_)
    · replace hT := hT.1 hcc
      refine r_iconst (n := (-1)) dX9_silence_34 ?_
      exact r_iret dX9_silence_35 rfl ⟨by decide, by decide⟩ ⟨Nat.zero_le _, Nat.zero_le _⟩ ⟨_, rfl, rfl, hF, hT⟩
    · replace hT := hT.2 hcc
      refine r_iload_n dX9_silence_17 rfl (i := 2) rfl ?_
      refine r_aload_n dX9_silence_18 rfl (i := 3) rfl ?_
      refine rr_getI (v := I (m + 196) 2) dX9_silence_19 fg_X9_138 rfl (wX4_l (wX7_o0 (wX9_o4 hm))) (wX4_s (wX7_o0 (wX9_o4 hm))) rfl ?_
      refine r_icmp_gt (tgt := 34) dX9_silence_22 rfl hx2 (hI _ _).inR (fun hcc => ?_) (fun hcc => ?_)
      · replace hT := hT.1 hcc
        refine r_iconst (n := (-1)) dX9_silence_34 ?_
        exact r_iret dX9_silence_35 rfl ⟨by decide, by decide⟩ ⟨Nat.zero_le _, Nat.zero_le _⟩ ⟨_, rfl, rfl, hF, hT⟩
      · replace hT := hT.2 hcc
        refine r_aload_n dX9_silence_25 rfl (i := 3) rfl ?_
        refine rr_getI (v := I (m + 196) 5) dX9_silence_26 fg_X9_141 rfl (wX4_l (wX7_o0 (wX9_o4 hm))) (wX4_s (wX7_o0 (wX9_o4 hm))) rfl ?_
        refine r_bipush (n := 8) dX9_silence_29 (by decide +kernel) ?_
        refine r_icmp_lt (tgt := 36) dX9_silence_31 rfl (hI _ _).inR ⟨by decide, by decide⟩ (fun hcc => ?_) (fun hcc => ?_)
        · replace hT := hT.1 hcc
          refine r_aload_n dX9_silence_36 rfl (i := 0) rfl ?_
          refine rr_cVV (a := m) (as := []) (st := []) dX9_silence_37 mt_X9_keepStep ml_X9_100 mi_X9_keepStep rm_X9_silence_X9_keepStep jz_X9_keepStep ⟨Nat.zero_le _, Nat.zero_le _⟩ (Nat.le_of_ble_eq_true rfl) (wX9_l hm) (wX9_c hm) jas0 hT (fun I1 hFI1 hT => ?_)
          replace hFI1 := jFr_tr hF hFI1
          refine jOk_mem (fun hI1 => ?_)
          refine r_aload_n dX9_silence_40 rfl (i := 3) rfl ?_
          refine r_iload_n dX9_silence_41 rfl (i := 1) rfl ?_
          refine r_iload_n dX9_silence_42 rfl (i := 2) rfl ?_
          refine rr_cVV (a := (m + 196)) (as := [VI x1, VI x2]) (st := []) dX9_silence_43 mt_X4_addSpan ml_X9_144 mi_X4_addSpan rm_X9_silence_X4_addSpan jz_X4_addSpan ⟨Nat.zero_le _, Nat.zero_le _⟩ (Nat.le_of_ble_eq_true rfl) (wX4_l (wX7_o0 (wX9_o4 hm))) (wX4_c (wX7_o0 (wX9_o4 hm))) (jasI hx1 (jasI hx2 jas0)) hT (fun I2 hFI2 hT => ?_)
          replace hFI2 := jFr_tr hFI1 hFI2
          refine jOk_mem (fun hI2 => ?_)
          refine r_aload_n dX9_silence_46 rfl (i := 3) rfl ?_
          refine rr_getI (v := I2 (m + 196) 5) dX9_silence_47 fg_X9_141 rfl (wX4_l (wX7_o0 (wX9_o4 hm))) (wX4_s (wX7_o0 (wX9_o4 hm))) rfl ?_
          exact r_iret dX9_silence_50 rfl (hI2 _ _).inR ⟨Nat.zero_le _, Nat.zero_le _⟩ ⟨_, rfl, rfl, hFI2, hT⟩
        · replace hT := hT.2 hcc
          refine r_iconst (n := (-1)) dX9_silence_34 ?_
          exact r_iret dX9_silence_35 rfl ⟨by decide, by decide⟩ ⟨Nat.zero_le _, Nat.zero_le _⟩ ⟨_, rfl, rfl, hF, hT⟩
theorem en_X9_silence {E : jE} {G : jG} {I : jM} {q : Int → jM → Prop} {m : Nat} {x1 : Int} {x2 : Int} (hm : WX9 G m) (hT : (∀ a j, jRg (G.2.1 a).1 (I a j)) → jIn x1 → jIn x2 → ((x1 < 0 → q (-1) I) ∧ (¬ x1 < 0 → ((x2 ≤ x1 → q (-1) I) ∧ (¬ x2 ≤ x1 → (((I (m + 196) 2) < x2 → q (-1) I) ∧ (¬ (I (m + 196) 2) < x2 → (((I (m + 196) 5) < 8 → jRV E jB kX9_keepStep [VR m] G I (fun I1 => jRV E jB kX4_addSpan [VR (m + 196), VI x1, VI x2] G I1 (fun I2 => q (I2 (m + 196) 5) I2))) ∧ (¬ (I (m + 196) 5) < 8 → q (-1) I))))))))) : jRI E jB kX9_silence [VR m, VI x1, VI x2] G I q := jRun.of mt_X9_silence.2.2.2 1 rfl (fun _ => st_X9_silence_0 hm hT I (fun _ _ => rfl))
set_option maxRecDepth 20000 in
theorem st_X9_hear_0 {E : jE} {G : jG} {I : jM} {q : Int → jM → Prop} {m : Nat} {x1 : Int} (hm : WX9 G m) (hT : (∀ a j, jRg (G.2.1 a).1 (I a j)) → jIn x1 → ((x1 < 0 → q 0 I) ∧ (¬ x1 < 0 → ((x1 < (I (m + 196) 5) → jRV E jB kX9_keepStep [VR m] G I (fun I1 => jRV E jB kX4_removeSpan [VR (m + 196), VI x1] G I1 (fun I2 => q 1 I2))) ∧ (¬ x1 < (I (m + 196) 5) → q 0 I))))) : jOI E jB kX9_hear 0 [VR m, VI x1] G I q := by
  intro I0 hF
  refine jOk_mem (fun hI => ?_)
  refine jOk_in (i := 1) rfl (fun hx1 => ?_)
  replace hT := hT hI hx1
  refine r_iload_n dX9_hear_0 rfl (i := 1) rfl ?_
  refine r_if_lt (tgt := 18) dX9_hear_1 rfl hx1 (fun hcc => ?_) (fun hcc => ?_)
  · replace hT := hT.1 hcc
    refine r_iconst (n := 0) dX9_hear_18 ?_
    exact r_zret dX9_hear_19 rfl ⟨by decide, by decide⟩ ⟨Nat.zero_le _, Nat.zero_le _⟩ ⟨_, rfl, rfl, hF, hT⟩
  · replace hT := hT.2 hcc
    refine r_iload_n dX9_hear_4 rfl (i := 1) rfl ?_
    refine r_aload_n dX9_hear_5 rfl (i := 0) rfl ?_
    refine rr_getR (b := (m + 195)) dX9_hear_6 fg_X9_59 rfl rfl (wX9_l hm) (wX9_s hm) (wX9_r4 hm) ?_
    refine rr_getR (b := (m + 196)) dX9_hear_9 fg_X9_103 rfl rfl (wX7_l (wX9_o4 hm)) (wX7_s (wX9_o4 hm)) (wX7_r0 (wX9_o4 hm)) ?_
    refine rr_getI (v := I (m + 196) 5) dX9_hear_12 fg_X9_141 rfl (wX4_l (wX7_o0 (wX9_o4 hm))) (wX4_s (wX7_o0 (wX9_o4 hm))) rfl ?_
    refine r_icmp_lt (tgt := 20) dX9_hear_15 rfl hx1 (hI _ _).inR (fun hcc => ?_) (fun hcc => ?_)
    · replace hT := hT.1 hcc
      refine r_aload_n dX9_hear_20 rfl (i := 0) rfl ?_
      refine rr_cVV (a := m) (as := []) (st := []) dX9_hear_21 mt_X9_keepStep ml_X9_100 mi_X9_keepStep rm_X9_hear_X9_keepStep jz_X9_keepStep ⟨Nat.zero_le _, Nat.zero_le _⟩ (Nat.le_of_ble_eq_true rfl) (wX9_l hm) (wX9_c hm) jas0 hT (fun I1 hFI1 hT => ?_)
      replace hFI1 := jFr_tr hF hFI1
      refine jOk_mem (fun hI1 => ?_)
      refine r_aload_n dX9_hear_24 rfl (i := 0) rfl ?_
      refine rr_getR (b := (m + 195)) dX9_hear_25 fg_X9_59 rfl rfl (wX9_l hm) (wX9_s hm) (wX9_r4 hm) ?_
      refine rr_getR (b := (m + 196)) dX9_hear_28 fg_X9_103 rfl rfl (wX7_l (wX9_o4 hm)) (wX7_s (wX9_o4 hm)) (wX7_r0 (wX9_o4 hm)) ?_
      refine r_iload_n dX9_hear_31 rfl (i := 1) rfl ?_
      refine rr_cVV (a := (m + 196)) (as := [VI x1]) (st := []) dX9_hear_32 mt_X4_removeSpan ml_X9_148 mi_X4_removeSpan rm_X9_hear_X4_removeSpan jz_X4_removeSpan ⟨Nat.zero_le _, Nat.zero_le _⟩ (Nat.le_of_ble_eq_true rfl) (wX4_l (wX7_o0 (wX9_o4 hm))) (wX4_c (wX7_o0 (wX9_o4 hm))) (jasI hx1 jas0) hT (fun I2 hFI2 hT => ?_)
      replace hFI2 := jFr_tr hFI1 hFI2
      refine jOk_mem (fun hI2 => ?_)
      refine r_iconst (n := 1) dX9_hear_35 ?_
      exact r_zret dX9_hear_36 rfl ⟨by decide, by decide⟩ ⟨Nat.zero_le _, Nat.zero_le _⟩ ⟨_, rfl, rfl, hFI2, hT⟩
    · replace hT := hT.2 hcc
      refine r_iconst (n := 0) dX9_hear_18 ?_
      exact r_zret dX9_hear_19 rfl ⟨by decide, by decide⟩ ⟨Nat.zero_le _, Nat.zero_le _⟩ ⟨_, rfl, rfl, hF, hT⟩
theorem en_X9_hear {E : jE} {G : jG} {I : jM} {q : Int → jM → Prop} {m : Nat} {x1 : Int} (hm : WX9 G m) (hT : (∀ a j, jRg (G.2.1 a).1 (I a j)) → jIn x1 → ((x1 < 0 → q 0 I) ∧ (¬ x1 < 0 → ((x1 < (I (m + 196) 5) → jRV E jB kX9_keepStep [VR m] G I (fun I1 => jRV E jB kX4_removeSpan [VR (m + 196), VI x1] G I1 (fun I2 => q 1 I2))) ∧ (¬ x1 < (I (m + 196) 5) → q 0 I))))) : jRI E jB kX9_hear [VR m, VI x1] G I q := jRun.of mt_X9_hear.2.2.2 0 rfl (fun _ => st_X9_hear_0 hm hT I (fun _ _ => rfl))
set_option maxRecDepth 20000 in
theorem st_X9_measure_0 {E : jE} {G : jG} {I : jM} {q : Int → jM → Prop} {m : Nat} {x1 : Int} (hm : WX9 G m) (hT : (∀ a j, jRg (G.2.1 a).1 (I a j)) → jIn x1 → ((x1 < 0 → q 0 I) ∧ (¬ x1 < 0 → ((x1 ≤ 1 → jRV E jB kX9_keepStep [VR m] G I (fun I1 => (∀ M2, M2 = jup I1 (m + 195) 3 x1 → q 1 M2))) ∧ (¬ x1 ≤ 1 → q 0 I))))) : jOI E jB kX9_measure 0 [VR m, VI x1] G I q := by
  intro I0 hF
  refine jOk_mem (fun hI => ?_)
  refine jOk_in (i := 1) rfl (fun hx1 => ?_)
  replace hT := hT hI hx1
  refine r_iload_n dX9_measure_0 rfl (i := 1) rfl ?_
  refine r_if_lt (tgt := 9) dX9_measure_1 rfl hx1 (fun hcc => ?_) (fun hcc => ?_)
  · replace hT := hT.1 hcc
    refine r_iconst (n := 0) dX9_measure_9 ?_
    exact r_zret dX9_measure_10 rfl ⟨by decide, by decide⟩ ⟨Nat.zero_le _, Nat.zero_le _⟩ ⟨_, rfl, rfl, hF, hT⟩
  · replace hT := hT.2 hcc
    refine r_iload_n dX9_measure_4 rfl (i := 1) rfl ?_
    refine r_iconst (n := 1) dX9_measure_5 ?_
    refine r_icmp_le (tgt := 11) dX9_measure_6 rfl hx1 ⟨by decide, by decide⟩ (fun hcc => ?_) (fun hcc => ?_)
    · replace hT := hT.1 hcc
      refine r_aload_n dX9_measure_11 rfl (i := 0) rfl ?_
      refine rr_cVV (a := m) (as := []) (st := []) dX9_measure_12 mt_X9_keepStep ml_X9_100 mi_X9_keepStep rm_X9_measure_X9_keepStep jz_X9_keepStep ⟨Nat.zero_le _, Nat.zero_le _⟩ (Nat.le_of_ble_eq_true rfl) (wX9_l hm) (wX9_c hm) jas0 hT (fun I1 hFI1 hT => ?_)
      replace hFI1 := jFr_tr hF hFI1
      refine jOk_mem (fun hI1 => ?_)
      refine r_aload_n dX9_measure_15 rfl (i := 0) rfl ?_
      refine rr_getR (b := (m + 195)) dX9_measure_16 fg_X9_59 rfl rfl (wX9_l hm) (wX9_s hm) (wX9_r4 hm) ?_
      refine r_iload_n dX9_measure_19 rfl (i := 1) rfl ?_
      refine rr_putI (jj := 3) dX9_measure_20 fp_X9_151 rfl rfl (wX7_l (wX9_o4 hm)) (wX7_s (wX9_o4 hm)) hx1 (fun M2 eM2 => ?_)
      have hFM2 := jFr_up hFI1 eM2 (wX7_f (wX9_o4 hm) 0 (by decide))
      replace hT := hT M2 eM2
      refine jOk_mem (fun hIM2 => ?_)
      refine r_iconst (n := 1) dX9_measure_23 ?_
      exact r_zret dX9_measure_24 rfl ⟨by decide, by decide⟩ ⟨Nat.zero_le _, Nat.zero_le _⟩ ⟨_, rfl, rfl, hFM2, hT⟩
    · replace hT := hT.2 hcc
      refine r_iconst (n := 0) dX9_measure_9 ?_
      exact r_zret dX9_measure_10 rfl ⟨by decide, by decide⟩ ⟨Nat.zero_le _, Nat.zero_le _⟩ ⟨_, rfl, rfl, hF, hT⟩
theorem en_X9_measure {E : jE} {G : jG} {I : jM} {q : Int → jM → Prop} {m : Nat} {x1 : Int} (hm : WX9 G m) (hT : (∀ a j, jRg (G.2.1 a).1 (I a j)) → jIn x1 → ((x1 < 0 → q 0 I) ∧ (¬ x1 < 0 → ((x1 ≤ 1 → jRV E jB kX9_keepStep [VR m] G I (fun I1 => (∀ M2, M2 = jup I1 (m + 195) 3 x1 → q 1 M2))) ∧ (¬ x1 ≤ 1 → q 0 I))))) : jRI E jB kX9_measure [VR m, VI x1] G I q := jRun.of mt_X9_measure.2.2.2 0 rfl (fun _ => st_X9_measure_0 hm hT I (fun _ _ => rfl))
set_option maxRecDepth 20000 in
theorem st_X9_most_0 {E : jE} {G : jG} {I : jM} {q : Int → jM → Prop} {m : Nat} {x1 : Int} (hm : WX9 G m) (hT : (∀ a j, jRg (G.2.1 a).1 (I a j)) → jIn x1 → ((x1 < 0 → q 0 I) ∧ (¬ x1 < 0 → ((x1 ≤ 20 → jRV E jB kX9_keepStep [VR m] G I (fun I1 => (∀ M2, M2 = jup I1 (m + 195) 4 x1 → q 1 M2))) ∧ (¬ x1 ≤ 20 → q 0 I))))) : jOI E jB kX9_most 0 [VR m, VI x1] G I q := by
  intro I0 hF
  refine jOk_mem (fun hI => ?_)
  refine jOk_in (i := 1) rfl (fun hx1 => ?_)
  replace hT := hT hI hx1
  refine r_iload_n dX9_most_0 rfl (i := 1) rfl ?_
  refine r_if_lt (tgt := 10) dX9_most_1 rfl hx1 (fun hcc => ?_) (fun hcc => ?_)
  · replace hT := hT.1 hcc
    refine r_iconst (n := 0) dX9_most_10 ?_
    exact r_zret dX9_most_11 rfl ⟨by decide, by decide⟩ ⟨Nat.zero_le _, Nat.zero_le _⟩ ⟨_, rfl, rfl, hF, hT⟩
  · replace hT := hT.2 hcc
    refine r_iload_n dX9_most_4 rfl (i := 1) rfl ?_
    refine r_bipush (n := 20) dX9_most_5 (by decide +kernel) ?_
    refine r_icmp_le (tgt := 12) dX9_most_7 rfl hx1 ⟨by decide, by decide⟩ (fun hcc => ?_) (fun hcc => ?_)
    · replace hT := hT.1 hcc
      refine r_aload_n dX9_most_12 rfl (i := 0) rfl ?_
      refine rr_cVV (a := m) (as := []) (st := []) dX9_most_13 mt_X9_keepStep ml_X9_100 mi_X9_keepStep rm_X9_most_X9_keepStep jz_X9_keepStep ⟨Nat.zero_le _, Nat.zero_le _⟩ (Nat.le_of_ble_eq_true rfl) (wX9_l hm) (wX9_c hm) jas0 hT (fun I1 hFI1 hT => ?_)
      replace hFI1 := jFr_tr hF hFI1
      refine jOk_mem (fun hI1 => ?_)
      refine r_aload_n dX9_most_16 rfl (i := 0) rfl ?_
      refine rr_getR (b := (m + 195)) dX9_most_17 fg_X9_59 rfl rfl (wX9_l hm) (wX9_s hm) (wX9_r4 hm) ?_
      refine r_iload_n dX9_most_20 rfl (i := 1) rfl ?_
      refine rr_putI (jj := 4) dX9_most_21 fp_X9_154 rfl rfl (wX7_l (wX9_o4 hm)) (wX7_s (wX9_o4 hm)) hx1 (fun M2 eM2 => ?_)
      have hFM2 := jFr_up hFI1 eM2 (wX7_f (wX9_o4 hm) 0 (by decide))
      replace hT := hT M2 eM2
      refine jOk_mem (fun hIM2 => ?_)
      refine r_iconst (n := 1) dX9_most_24 ?_
      exact r_zret dX9_most_25 rfl ⟨by decide, by decide⟩ ⟨Nat.zero_le _, Nat.zero_le _⟩ ⟨_, rfl, rfl, hFM2, hT⟩
    · replace hT := hT.2 hcc
      refine r_iconst (n := 0) dX9_most_10 ?_
      exact r_zret dX9_most_11 rfl ⟨by decide, by decide⟩ ⟨Nat.zero_le _, Nat.zero_le _⟩ ⟨_, rfl, rfl, hF, hT⟩
theorem en_X9_most {E : jE} {G : jG} {I : jM} {q : Int → jM → Prop} {m : Nat} {x1 : Int} (hm : WX9 G m) (hT : (∀ a j, jRg (G.2.1 a).1 (I a j)) → jIn x1 → ((x1 < 0 → q 0 I) ∧ (¬ x1 < 0 → ((x1 ≤ 20 → jRV E jB kX9_keepStep [VR m] G I (fun I1 => (∀ M2, M2 = jup I1 (m + 195) 4 x1 → q 1 M2))) ∧ (¬ x1 ≤ 20 → q 0 I))))) : jRI E jB kX9_most [VR m, VI x1] G I q := jRun.of mt_X9_most.2.2.2 0 rfl (fun _ => st_X9_most_0 hm hT I (fun _ _ => rfl))
set_option maxRecDepth 20000 in
theorem st_X9_put_0 {E : jE} {G : jG} {I : jM} {q : Int → jM → Prop} {m : Nat} {x1 : Int} {x2 : Int} (hm : WX9 G m) (hT : (∀ a j, jRg (G.2.1 a).1 (I a j)) → jIn x1 → jIn x2 → jRI E jB kX9_isByte [VR m, VI x1] G I (fun r2 I1 => ((r2 = 0 → q 0 I1) ∧ (¬ r2 = 0 → jRI E jB kX9_mayStandInText [VI x2] G I1 (fun r5 I4 => ((r5 = 0 → q 0 I4) ∧ (¬ r5 = 0 → jIn (x1 + 1) ∧ jRI E jB kX4_hides [VR (m + 196), VI x1, VI (x1 + 1)] G I4 (fun r9 I8 => ((r9 = 0 → jRV E jB kX9_keepStep [VR m] G I8 (fun I11 => ((0 : Int) ≤ x1 ∧ (x1 : Int) < 200) ∧ (∀ M13, M13 = jup I11 (m + 197) x1 (jb8 x2) → ((0 : Int) ≤ x1 ∧ (x1 : Int) < 200) ∧ (∀ M15, M15 = jup M13 (m + 198) x1 (-1) → q 1 M15)))) ∧ (¬ r9 = 0 → q 0 I8)))))))))) : jOI E jB kX9_put 0 [VR m, VI x1, VI x2, VN] G I q := by
  intro I0 hF
  refine jOk_mem (fun hI => ?_)
  refine jOk_in (i := 1) rfl (fun hx1 => ?_)
  refine jOk_in (i := 2) rfl (fun hx2 => ?_)
  replace hT := hT hI hx1 hx2
  refine r_aload_n dX9_put_0 rfl (i := 0) rfl ?_
  refine rr_getR (b := (m + 195)) dX9_put_1 fg_X9_59 rfl rfl (wX9_l hm) (wX9_s hm) (wX9_r4 hm) ?_
  refine rr_getR (b := (m + 196)) dX9_put_4 fg_X9_103 rfl rfl (wX7_l (wX9_o4 hm)) (wX7_s (wX9_o4 hm)) (wX7_r0 (wX9_o4 hm)) ?_
  refine rr_astore_n (i := 3) (ls' := [VR m, VI x1, VI x2, VR (m + 196)]) dX9_put_7 rfl (Nat.le_of_ble_eq_true rfl) rfl rfl ?_
  refine r_aload_n dX9_put_8 rfl (i := 0) rfl ?_
  refine r_iload_n dX9_put_9 rfl (i := 1) rfl ?_
  refine rr_cVI (a := m) (as := [VI x1]) (st := []) dX9_put_10 mt_X9_isByte ml_X9_157 mi_X9_isByte rm_X9_put_X9_isByte jz_X9_isByte ⟨Nat.zero_le _, Nat.zero_le _⟩ (Nat.le_of_ble_eq_true rfl) (wX9_l hm) (wX9_c hm) (jasI hx1 jas0) hT (fun r2 I1 hc3 hFI1 hT => ?_)
  replace hFI1 := jFr_tr hF hFI1
  refine jOk_mem (fun hI1 => ?_)
  refine r_if_eq (tgt := 34) dX9_put_13 rfl hc3 (fun hcc => ?_) (fun hcc => ?_)
  · replace hT := hT.1 hcc
    refine r_iconst (n := 0) dX9_put_34 ?_
    exact r_zret dX9_put_35 rfl ⟨by decide, by decide⟩ ⟨Nat.zero_le _, Nat.zero_le _⟩ ⟨_, rfl, rfl, hFI1, hT⟩
  · replace hT := hT.2 hcc
    refine r_iload_n dX9_put_16 rfl (i := 2) rfl ?_
    refine rr_cSI (as := [VI x2]) (st := []) dX9_put_17 mt_X9_mayStandInText ml_X9_96 ms_X9_mayStandInText rm_X9_put_X9_mayStandInText jz_X9_mayStandInText ⟨Nat.zero_le _, Nat.zero_le _⟩ (Nat.le_of_ble_eq_true rfl) (jasI hx2 jas0) hT (fun r5 I4 hc6 hFI4 hT => ?_)
    replace hFI4 := jFr_tr hFI1 hFI4
    refine jOk_mem (fun hI4 => ?_)
    refine r_if_eq (tgt := 34) dX9_put_20 rfl hc6 (fun hcc => ?_) (fun hcc => ?_)
    · replace hT := hT.1 hcc
      refine r_iconst (n := 0) dX9_put_34 ?_
      exact r_zret dX9_put_35 rfl ⟨by decide, by decide⟩ ⟨Nat.zero_le _, Nat.zero_le _⟩ ⟨_, rfl, rfl, hFI4, hT⟩
    · replace hT := hT.2 hcc
      refine r_aload_n dX9_put_23 rfl (i := 3) rfl ?_
      refine r_iload_n dX9_put_24 rfl (i := 1) rfl ?_
      refine r_iload_n dX9_put_25 rfl (i := 1) rfl ?_
      refine r_iconst (n := 1) dX9_put_26 ?_
      refine r_iadd dX9_put_27 ?_
      obtain ⟨hc7, hT⟩ := hT
      refine rr_cVI (a := (m + 196)) (as := [VI x1, VI (x1 + 1)]) (st := []) dX9_put_28 mt_X4_hides ml_X9_160 mi_X4_hides rm_X9_put_X4_hides jz_X4_hides ⟨Nat.zero_le _, Nat.zero_le _⟩ (Nat.le_of_ble_eq_true rfl) (wX4_l (wX7_o0 (wX9_o4 hm))) (wX4_c (wX7_o0 (wX9_o4 hm))) (jasI hx1 (jasI hc7 jas0)) hT (fun r9 I8 hc10 hFI8 hT => ?_)
      replace hFI8 := jFr_tr hFI4 hFI8
      refine jOk_mem (fun hI8 => ?_)
      refine r_if_eq (tgt := 36) dX9_put_31 rfl hc10 (fun hcc => ?_) (fun hcc => ?_)
      · replace hT := hT.1 hcc
        refine r_aload_n dX9_put_36 rfl (i := 0) rfl ?_
        refine rr_cVV (a := m) (as := []) (st := []) dX9_put_37 mt_X9_keepStep ml_X9_100 mi_X9_keepStep rm_X9_put_X9_keepStep jz_X9_keepStep ⟨Nat.zero_le _, Nat.zero_le _⟩ (Nat.le_of_ble_eq_true rfl) (wX9_l hm) (wX9_c hm) jas0 hT (fun I11 hFI11 hT => ?_)
        replace hFI11 := jFr_tr hFI8 hFI11
        refine jOk_mem (fun hI11 => ?_)
        refine r_aload_n dX9_put_40 rfl (i := 3) rfl ?_
        refine rr_getR (b := (m + 197)) dX9_put_41 fg_X9_164 rfl rfl (wX4_l (wX7_o0 (wX9_o4 hm))) (wX4_s (wX7_o0 (wX9_o4 hm))) (wX4_r0 (wX7_o0 (wX9_o4 hm))) ?_
        refine r_iload_n dX9_put_44 rfl (i := 1) rfl ?_
        refine r_iload_n dX9_put_45 rfl (i := 2) rfl ?_
        refine r_i2b dX9_put_46 ?_
        obtain ⟨hc12, hT⟩ := hT
        refine rr_bastore dX9_put_47 (wX4_l0 (wX7_o0 (wX9_o4 hm))) (wX4_a0 (wX7_o0 (wX9_o4 hm))) (by decide) hc12 (j8_in _).2 (fun M13 eM13 => ?_)
        have hFM13 := jFr_up hFI11 eM13 (wX4_f (wX7_o0 (wX9_o4 hm)) 1 (by decide))
        replace hT := hT M13 eM13
        refine jOk_mem (fun hIM13 => ?_)
        refine r_aload_n dX9_put_48 rfl (i := 3) rfl ?_
        refine rr_getR (b := (m + 198)) dX9_put_49 fg_X9_167 rfl rfl (wX4_l (wX7_o0 (wX9_o4 hm))) (wX4_s (wX7_o0 (wX9_o4 hm))) (wX4_r1 (wX7_o0 (wX9_o4 hm))) ?_
        refine r_iload_n dX9_put_52 rfl (i := 1) rfl ?_
        refine r_iconst (n := (-1)) dX9_put_53 ?_
        obtain ⟨hc14, hT⟩ := hT
        refine rr_bastore dX9_put_54 (wX4_l1 (wX7_o0 (wX9_o4 hm))) (wX4_a1 (wX7_o0 (wX9_o4 hm))) (by decide) hc14 ⟨by decide, by decide⟩ (fun M15 eM15 => ?_)
        have hFM15 := jFr_up hFM13 eM15 (wX4_f (wX7_o0 (wX9_o4 hm)) 2 (by decide))
        replace hT := hT M15 eM15
        refine jOk_mem (fun hIM15 => ?_)
        refine r_iconst (n := 1) dX9_put_55 ?_
        exact r_zret dX9_put_56 rfl ⟨by decide, by decide⟩ ⟨Nat.zero_le _, Nat.zero_le _⟩ ⟨_, rfl, rfl, hFM15, hT⟩
      · replace hT := hT.2 hcc
        refine r_iconst (n := 0) dX9_put_34 ?_
        exact r_zret dX9_put_35 rfl ⟨by decide, by decide⟩ ⟨Nat.zero_le _, Nat.zero_le _⟩ ⟨_, rfl, rfl, hFI8, hT⟩
theorem en_X9_put {E : jE} {G : jG} {I : jM} {q : Int → jM → Prop} {m : Nat} {x1 : Int} {x2 : Int} (hm : WX9 G m) (hT : (∀ a j, jRg (G.2.1 a).1 (I a j)) → jIn x1 → jIn x2 → jRI E jB kX9_isByte [VR m, VI x1] G I (fun r2 I1 => ((r2 = 0 → q 0 I1) ∧ (¬ r2 = 0 → jRI E jB kX9_mayStandInText [VI x2] G I1 (fun r5 I4 => ((r5 = 0 → q 0 I4) ∧ (¬ r5 = 0 → jIn (x1 + 1) ∧ jRI E jB kX4_hides [VR (m + 196), VI x1, VI (x1 + 1)] G I4 (fun r9 I8 => ((r9 = 0 → jRV E jB kX9_keepStep [VR m] G I8 (fun I11 => ((0 : Int) ≤ x1 ∧ (x1 : Int) < 200) ∧ (∀ M13, M13 = jup I11 (m + 197) x1 (jb8 x2) → ((0 : Int) ≤ x1 ∧ (x1 : Int) < 200) ∧ (∀ M15, M15 = jup M13 (m + 198) x1 (-1) → q 1 M15)))) ∧ (¬ r9 = 0 → q 0 I8)))))))))) : jRI E jB kX9_put [VR m, VI x1, VI x2] G I q := jRun.of mt_X9_put.2.2.2 1 rfl (fun _ => st_X9_put_0 hm hT I (fun _ _ => rfl))
set_option maxRecDepth 20000 in
theorem st_X9_yields_0 {E : jE} {G : jG} {I : jM} {q : Int → jM → Prop} {m : Nat} {x1 : Int} {x2 : Int} (hm : WX9 G m) (hT : (∀ a j, jRg (G.2.1 a).1 (I a j)) → jIn x1 → jIn x2 → jRI E jB kX9_isRule [VR m, VI x1] G I (fun r2 I1 => ((r2 = 0 → q 0 I1) ∧ (¬ r2 = 0 → jRI E jB kX9_isRule [VR m, VI x2] G I1 (fun r5 I4 => ((r5 = 0 → q 0 I4) ∧ (¬ r5 = 0 → (((I4 (m + 195) 7) < 8 → jRI E jB kX7_isYieldTold [VR (m + 195), VI x1, VI x2] G I4 (fun r8 I7 => ((¬ r8 = 0 → q 0 I7) ∧ (r8 = 0 → jRI E jB kX7_reachesByYielding [VR (m + 195), VI x1, VI x2] G I7 (fun r11 I10 => ((r11 = 0 → jRV E jB kX9_keepStep [VR m] G I10 (fun I13 => jRV E jB kX7_addYield [VR (m + 195), VI x1, VI x2] G I13 (fun I14 => q 1 I14))) ∧ (¬ r11 = 0 → q 0 I10))))))) ∧ (¬ (I4 (m + 195) 7) < 8 → q 0 I4))))))))) : jOI E jB kX9_yields 0 [VR m, VI x1, VI x2] G I q := by
  intro I0 hF
  refine jOk_mem (fun hI => ?_)
  refine jOk_in (i := 1) rfl (fun hx1 => ?_)
  refine jOk_in (i := 2) rfl (fun hx2 => ?_)
  replace hT := hT hI hx1 hx2
  refine r_aload_n dX9_yields_0 rfl (i := 0) rfl ?_
  refine r_iload_n dX9_yields_1 rfl (i := 1) rfl ?_
  refine rr_cVI (a := m) (as := [VI x1]) (st := []) dX9_yields_2 mt_X9_isRule ml_X9_129 mi_X9_isRule rm_X9_yields_X9_isRule jz_X9_isRule ⟨Nat.zero_le _, Nat.zero_le _⟩ (Nat.le_of_ble_eq_true rfl) (wX9_l hm) (wX9_c hm) (jasI hx1 jas0) hT (fun r2 I1 hc3 hFI1 hT => ?_)
  replace hFI1 := jFr_tr hF hFI1
  refine jOk_mem (fun hI1 => ?_)
  refine r_if_eq (tgt := 28) dX9_yields_5 rfl hc3 (fun hcc => ?_) (fun hcc => ?_)
  · replace hT := hT.1 hcc
    refine r_iconst (n := 0) dX9_yields_28 ?_
    exact r_zret dX9_yields_29 rfl ⟨by decide, by decide⟩ ⟨Nat.zero_le _, Nat.zero_le _⟩ ⟨_, rfl, rfl, hFI1, hT⟩
  · replace hT := hT.2 hcc
    refine r_aload_n dX9_yields_8 rfl (i := 0) rfl ?_
    refine r_iload_n dX9_yields_9 rfl (i := 2) rfl ?_
    refine rr_cVI (a := m) (as := [VI x2]) (st := []) dX9_yields_10 mt_X9_isRule ml_X9_129 mi_X9_isRule rm_X9_yields_X9_isRule jz_X9_isRule ⟨Nat.zero_le _, Nat.zero_le _⟩ (Nat.le_of_ble_eq_true rfl) (wX9_l hm) (wX9_c hm) (jasI hx2 jas0) hT (fun r5 I4 hc6 hFI4 hT => ?_)
    replace hFI4 := jFr_tr hFI1 hFI4
    refine jOk_mem (fun hI4 => ?_)
    refine r_if_eq (tgt := 28) dX9_yields_13 rfl hc6 (fun hcc => ?_) (fun hcc => ?_)
    · replace hT := hT.1 hcc
      refine r_iconst (n := 0) dX9_yields_28 ?_
      exact r_zret dX9_yields_29 rfl ⟨by decide, by decide⟩ ⟨Nat.zero_le _, Nat.zero_le _⟩ ⟨_, rfl, rfl, hFI4, hT⟩
    · replace hT := hT.2 hcc
      refine r_aload_n dX9_yields_16 rfl (i := 0) rfl ?_
      refine rr_getR (b := (m + 195)) dX9_yields_17 fg_X9_59 rfl rfl (wX9_l hm) (wX9_s hm) (wX9_r4 hm) ?_
      refine rr_getI (v := I4 (m + 195) 7) dX9_yields_20 fg_X9_170 rfl (wX7_l (wX9_o4 hm)) (wX7_s (wX9_o4 hm)) rfl ?_
      refine r_bipush (n := 8) dX9_yields_23 (by decide +kernel) ?_
      refine r_icmp_lt (tgt := 30) dX9_yields_25 rfl (hI4 _ _).inR ⟨by decide, by decide⟩ (fun hcc => ?_) (fun hcc => ?_)
      · replace hT := hT.1 hcc
        refine r_aload_n dX9_yields_30 rfl (i := 0) rfl ?_
        refine rr_getR (b := (m + 195)) dX9_yields_31 fg_X9_59 rfl rfl (wX9_l hm) (wX9_s hm) (wX9_r4 hm) ?_
        refine r_iload_n dX9_yields_34 rfl (i := 1) rfl ?_
        refine r_iload_n dX9_yields_35 rfl (i := 2) rfl ?_
        refine rr_cVI (a := (m + 195)) (as := [VI x1, VI x2]) (st := []) dX9_yields_36 mt_X7_isYieldTold ml_X9_173 mi_X7_isYieldTold rm_X9_yields_X7_isYieldTold jz_X7_isYieldTold ⟨Nat.zero_le _, Nat.zero_le _⟩ (Nat.le_of_ble_eq_true rfl) (wX7_l (wX9_o4 hm)) (wX7_c (wX9_o4 hm)) (jasI hx1 (jasI hx2 jas0)) hT (fun r8 I7 hc9 hFI7 hT => ?_)
        replace hFI7 := jFr_tr hFI4 hFI7
        refine jOk_mem (fun hI7 => ?_)
        refine r_if_ne (tgt := 54) dX9_yields_39 rfl hc9 (fun hcc => ?_) (fun hcc => ?_)
        · replace hT := hT.1 hcc
          refine r_iconst (n := 0) dX9_yields_54 ?_
          exact r_zret dX9_yields_55 rfl ⟨by decide, by decide⟩ ⟨Nat.zero_le _, Nat.zero_le _⟩ ⟨_, rfl, rfl, hFI7, hT⟩
        · replace hT := hT.2 hcc
          refine r_aload_n dX9_yields_42 rfl (i := 0) rfl ?_
          refine rr_getR (b := (m + 195)) dX9_yields_43 fg_X9_59 rfl rfl (wX9_l hm) (wX9_s hm) (wX9_r4 hm) ?_
          refine r_iload_n dX9_yields_46 rfl (i := 1) rfl ?_
          refine r_iload_n dX9_yields_47 rfl (i := 2) rfl ?_
          refine rr_cVI (a := (m + 195)) (as := [VI x1, VI x2]) (st := []) dX9_yields_48 mt_X7_reachesByYielding ml_X9_176 mi_X7_reachesByYielding rm_X9_yields_X7_reachesByYielding jz_X7_reachesByYielding ⟨Nat.zero_le _, Nat.zero_le _⟩ (Nat.le_of_ble_eq_true rfl) (wX7_l (wX9_o4 hm)) (wX7_c (wX9_o4 hm)) (jasI hx1 (jasI hx2 jas0)) hT (fun r11 I10 hc12 hFI10 hT => ?_)
          replace hFI10 := jFr_tr hFI7 hFI10
          refine jOk_mem (fun hI10 => ?_)
          refine r_if_eq (tgt := 56) dX9_yields_51 rfl hc12 (fun hcc => ?_) (fun hcc => ?_)
          · replace hT := hT.1 hcc
            refine r_aload_n dX9_yields_56 rfl (i := 0) rfl ?_
            refine rr_cVV (a := m) (as := []) (st := []) dX9_yields_57 mt_X9_keepStep ml_X9_100 mi_X9_keepStep rm_X9_yields_X9_keepStep jz_X9_keepStep ⟨Nat.zero_le _, Nat.zero_le _⟩ (Nat.le_of_ble_eq_true rfl) (wX9_l hm) (wX9_c hm) jas0 hT (fun I13 hFI13 hT => ?_)
            replace hFI13 := jFr_tr hFI10 hFI13
            refine jOk_mem (fun hI13 => ?_)
            refine r_aload_n dX9_yields_60 rfl (i := 0) rfl ?_
            refine rr_getR (b := (m + 195)) dX9_yields_61 fg_X9_59 rfl rfl (wX9_l hm) (wX9_s hm) (wX9_r4 hm) ?_
            refine r_iload_n dX9_yields_64 rfl (i := 1) rfl ?_
            refine r_iload_n dX9_yields_65 rfl (i := 2) rfl ?_
            refine rr_cVV (a := (m + 195)) (as := [VI x1, VI x2]) (st := []) dX9_yields_66 mt_X7_addYield ml_X9_179 mi_X7_addYield rm_X9_yields_X7_addYield jz_X7_addYield ⟨Nat.zero_le _, Nat.zero_le _⟩ (Nat.le_of_ble_eq_true rfl) (wX7_l (wX9_o4 hm)) (wX7_c (wX9_o4 hm)) (jasI hx1 (jasI hx2 jas0)) hT (fun I14 hFI14 hT => ?_)
            replace hFI14 := jFr_tr hFI13 hFI14
            refine jOk_mem (fun hI14 => ?_)
            refine r_iconst (n := 1) dX9_yields_69 ?_
            exact r_zret dX9_yields_70 rfl ⟨by decide, by decide⟩ ⟨Nat.zero_le _, Nat.zero_le _⟩ ⟨_, rfl, rfl, hFI14, hT⟩
          · replace hT := hT.2 hcc
            refine r_iconst (n := 0) dX9_yields_54 ?_
            exact r_zret dX9_yields_55 rfl ⟨by decide, by decide⟩ ⟨Nat.zero_le _, Nat.zero_le _⟩ ⟨_, rfl, rfl, hFI10, hT⟩
      · replace hT := hT.2 hcc
        refine r_iconst (n := 0) dX9_yields_28 ?_
        exact r_zret dX9_yields_29 rfl ⟨by decide, by decide⟩ ⟨Nat.zero_le _, Nat.zero_le _⟩ ⟨_, rfl, rfl, hFI4, hT⟩
theorem en_X9_yields {E : jE} {G : jG} {I : jM} {q : Int → jM → Prop} {m : Nat} {x1 : Int} {x2 : Int} (hm : WX9 G m) (hT : (∀ a j, jRg (G.2.1 a).1 (I a j)) → jIn x1 → jIn x2 → jRI E jB kX9_isRule [VR m, VI x1] G I (fun r2 I1 => ((r2 = 0 → q 0 I1) ∧ (¬ r2 = 0 → jRI E jB kX9_isRule [VR m, VI x2] G I1 (fun r5 I4 => ((r5 = 0 → q 0 I4) ∧ (¬ r5 = 0 → (((I4 (m + 195) 7) < 8 → jRI E jB kX7_isYieldTold [VR (m + 195), VI x1, VI x2] G I4 (fun r8 I7 => ((¬ r8 = 0 → q 0 I7) ∧ (r8 = 0 → jRI E jB kX7_reachesByYielding [VR (m + 195), VI x1, VI x2] G I7 (fun r11 I10 => ((r11 = 0 → jRV E jB kX9_keepStep [VR m] G I10 (fun I13 => jRV E jB kX7_addYield [VR (m + 195), VI x1, VI x2] G I13 (fun I14 => q 1 I14))) ∧ (¬ r11 = 0 → q 0 I10))))))) ∧ (¬ (I4 (m + 195) 7) < 8 → q 0 I4))))))))) : jRI E jB kX9_yields [VR m, VI x1, VI x2] G I q := jRun.of mt_X9_yields.2.2.2 0 rfl (fun _ => st_X9_yields_0 hm hT I (fun _ _ => rfl))
set_option maxRecDepth 20000 in
theorem st_X9_insist_0 {E : jE} {G : jG} {I : jM} {q : Int → jM → Prop} {m : Nat} (hm : WX9 G m) (hT : (∀ a j, jRg (G.2.1 a).1 (I a j)) → jRV E jB kX9_keepStep [VR m] G I (fun I1 => (∀ M2, M2 = jup I1 (m + 195) 7 0 → q (I (m + 195) 7) M2))) : jOI E jB kX9_insist 0 [VR m, VN] G I q := by
  intro I0 hF
  refine jOk_mem (fun hI => ?_)
  replace hT := hT hI 
  refine r_aload_n dX9_insist_0 rfl (i := 0) rfl ?_
  refine rr_getR (b := (m + 195)) dX9_insist_1 fg_X9_59 rfl rfl (wX9_l hm) (wX9_s hm) (wX9_r4 hm) ?_
  refine rr_getI (v := I (m + 195) 7) dX9_insist_4 fg_X9_170 rfl (wX7_l (wX9_o4 hm)) (wX7_s (wX9_o4 hm)) rfl ?_
  refine rr_istore_n (i := 1) (ls' := [VR m, VI (I (m + 195) 7)]) dX9_insist_7 rfl (Nat.le_of_ble_eq_true rfl) rfl rfl (hI _ _).inR ?_
  refine r_aload_n dX9_insist_8 rfl (i := 0) rfl ?_
  refine rr_cVV (a := m) (as := []) (st := []) dX9_insist_9 mt_X9_keepStep ml_X9_100 mi_X9_keepStep rm_X9_insist_X9_keepStep jz_X9_keepStep ⟨Nat.zero_le _, Nat.zero_le _⟩ (Nat.le_of_ble_eq_true rfl) (wX9_l hm) (wX9_c hm) jas0 hT (fun I1 hFI1 hT => ?_)
  replace hFI1 := jFr_tr hF hFI1
  refine jOk_mem (fun hI1 => ?_)
  refine r_aload_n dX9_insist_12 rfl (i := 0) rfl ?_
  refine rr_getR (b := (m + 195)) dX9_insist_13 fg_X9_59 rfl rfl (wX9_l hm) (wX9_s hm) (wX9_r4 hm) ?_
  refine r_iconst (n := 0) dX9_insist_16 ?_
  refine rr_putI (jj := 7) dX9_insist_17 fp_X9_170 rfl rfl (wX7_l (wX9_o4 hm)) (wX7_s (wX9_o4 hm)) ⟨by decide, by decide⟩ (fun M2 eM2 => ?_)
  have hFM2 := jFr_up hFI1 eM2 (wX7_f (wX9_o4 hm) 0 (by decide))
  replace hT := hT M2 eM2
  refine jOk_mem (fun hIM2 => ?_)
  refine r_iload_n dX9_insist_20 rfl (i := 1) rfl ?_
  exact r_iret dX9_insist_21 rfl (hI _ _).inR ⟨Nat.zero_le _, Nat.zero_le _⟩ ⟨_, rfl, rfl, hFM2, hT⟩
theorem en_X9_insist {E : jE} {G : jG} {I : jM} {q : Int → jM → Prop} {m : Nat} (hm : WX9 G m) (hT : (∀ a j, jRg (G.2.1 a).1 (I a j)) → jRV E jB kX9_keepStep [VR m] G I (fun I1 => (∀ M2, M2 = jup I1 (m + 195) 7 0 → q (I (m + 195) 7) M2))) : jRI E jB kX9_insist [VR m] G I q := jRun.of mt_X9_insist.2.2.2 1 rfl (fun _ => st_X9_insist_0 hm hT I (fun _ _ => rfl))
set_option maxRecDepth 20000 in
theorem st_X9_undo_0 {E : jE} {G : jG} {I : jM} {q : Int → jM → Prop} {m : Nat} (hm : WX9 G m) (hT : (∀ a j, jRg (G.2.1 a).1 (I a j)) → ((¬ (I (m + 205) 2) = 0 → jRV E jB kX2_takeBack [VR (m + 205), VR (m + 195)] G I (fun I1 => jRV E jB kX9_forget [VR m] G I1 (fun I2 => q (I2 (m + 205) 2) I2))) ∧ ((I (m + 205) 2) = 0 → q (-1) I))) : jOI E jB kX9_undo 0 [VR m] G I q := by
  intro I0 hF
  refine jOk_mem (fun hI => ?_)
  replace hT := hT hI 
  refine r_aload_n dX9_undo_0 rfl (i := 0) rfl ?_
  refine rr_getR (b := (m + 205)) dX9_undo_1 fg_X9_66 rfl rfl (wX9_l hm) (wX9_s hm) (wX9_r5 hm) ?_
  refine rr_getI (v := I (m + 205) 2) dX9_undo_4 fg_X9_214 rfl (wX2_l (wX9_o5 hm)) (wX2_s (wX9_o5 hm)) rfl ?_
  refine r_if_ne (tgt := 12) dX9_undo_7 rfl (hI _ _).inR (fun hcc => ?_) (fun hcc => ?_)
  · replace hT := hT.1 hcc
    refine r_aload_n dX9_undo_12 rfl (i := 0) rfl ?_
    refine rr_getR (b := (m + 205)) dX9_undo_13 fg_X9_66 rfl rfl (wX9_l hm) (wX9_s hm) (wX9_r5 hm) ?_
    refine r_aload_n dX9_undo_16 rfl (i := 0) rfl ?_
    refine rr_getR (b := (m + 195)) dX9_undo_17 fg_X9_59 rfl rfl (wX9_l hm) (wX9_s hm) (wX9_r4 hm) ?_
    refine rr_cVV (a := (m + 205)) (as := [VR (m + 195)]) (st := []) dX9_undo_20 mt_X2_takeBack ml_X9_215 mi_X2_takeBack rm_X9_undo_X2_takeBack jz_X2_takeBack ⟨Nat.zero_le _, Nat.zero_le _⟩ (Nat.le_of_ble_eq_true rfl) (wX2_l (wX9_o5 hm)) (wX2_c (wX9_o5 hm)) (jasR jas0) hT (fun I1 hFI1 hT => ?_)
    replace hFI1 := jFr_tr hF hFI1
    refine jOk_mem (fun hI1 => ?_)
    refine r_aload_n dX9_undo_23 rfl (i := 0) rfl ?_
    refine rr_cVV (a := m) (as := []) (st := []) dX9_undo_24 mt_X9_forget ml_X9_218 mi_X9_forget rm_X9_undo_X9_forget jz_X9_forget ⟨Nat.zero_le _, Nat.zero_le _⟩ (Nat.le_of_ble_eq_true rfl) (wX9_l hm) (wX9_c hm) jas0 hT (fun I2 hFI2 hT => ?_)
    replace hFI2 := jFr_tr hFI1 hFI2
    refine jOk_mem (fun hI2 => ?_)
    refine r_aload_n dX9_undo_27 rfl (i := 0) rfl ?_
    refine rr_getR (b := (m + 205)) dX9_undo_28 fg_X9_66 rfl rfl (wX9_l hm) (wX9_s hm) (wX9_r5 hm) ?_
    refine rr_getI (v := I2 (m + 205) 2) dX9_undo_31 fg_X9_214 rfl (wX2_l (wX9_o5 hm)) (wX2_s (wX9_o5 hm)) rfl ?_
    exact r_iret dX9_undo_34 rfl (hI2 _ _).inR ⟨Nat.zero_le _, Nat.zero_le _⟩ ⟨_, rfl, rfl, hFI2, hT⟩
  · replace hT := hT.2 hcc
    refine r_iconst (n := (-1)) dX9_undo_10 ?_
    exact r_iret dX9_undo_11 rfl ⟨by decide, by decide⟩ ⟨Nat.zero_le _, Nat.zero_le _⟩ ⟨_, rfl, rfl, hF, hT⟩
theorem en_X9_undo {E : jE} {G : jG} {I : jM} {q : Int → jM → Prop} {m : Nat} (hm : WX9 G m) (hT : (∀ a j, jRg (G.2.1 a).1 (I a j)) → ((¬ (I (m + 205) 2) = 0 → jRV E jB kX2_takeBack [VR (m + 205), VR (m + 195)] G I (fun I1 => jRV E jB kX9_forget [VR m] G I1 (fun I2 => q (I2 (m + 205) 2) I2))) ∧ ((I (m + 205) 2) = 0 → q (-1) I))) : jRI E jB kX9_undo [VR m] G I q := jRun.of mt_X9_undo.2.2.2 0 rfl (fun _ => st_X9_undo_0 hm hT I (fun _ _ => rfl))
set_option maxRecDepth 20000 in
theorem st_X9_image_0 {E : jE} {G : jG} {I : jM} {q : Int → jM → Prop} {m : Nat} (hm : WX9 G m) (hT : (∀ a j, jRg (G.2.1 a).1 (I a j)) → jRV E jB kX7_copyFrom [VR (m + 387), VR (m + 195)] G I (fun I1 => jRV E jB kX2_copyFrom [VR (m + 396), VR (m + 205)] G I1 (fun I2 => q (I2 (m + 196) 2) I2))) : jOI E jB kX9_image 0 [VR m] G I q := by
  intro I0 hF
  refine jOk_mem (fun hI => ?_)
  replace hT := hT hI 
  refine r_aload_n dX9_image_0 rfl (i := 0) rfl ?_
  refine rr_getR (b := (m + 387)) dX9_image_1 fg_X9_70 rfl rfl (wX9_l hm) (wX9_s hm) (wX9_r6 hm) ?_
  refine r_aload_n dX9_image_4 rfl (i := 0) rfl ?_
  refine rr_getR (b := (m + 195)) dX9_image_5 fg_X9_59 rfl rfl (wX9_l hm) (wX9_s hm) (wX9_r4 hm) ?_
  refine rr_cVV (a := (m + 387)) (as := [VR (m + 195)]) (st := []) dX9_image_8 mt_X7_copyFrom ml_X9_406 mi_X7_copyFrom rm_X9_image_X7_copyFrom jz_X7_copyFrom ⟨Nat.zero_le _, Nat.zero_le _⟩ (Nat.le_of_ble_eq_true rfl) (wX7_l (wX9_o6 hm)) (wX7_c (wX9_o6 hm)) (jasR jas0) hT (fun I1 hFI1 hT => ?_)
  replace hFI1 := jFr_tr hF hFI1
  refine jOk_mem (fun hI1 => ?_)
  refine r_aload_n dX9_image_11 rfl (i := 0) rfl ?_
  refine rr_getR (b := (m + 396)) dX9_image_12 fg_X9_73 rfl rfl (wX9_l hm) (wX9_s hm) (wX9_r7 hm) ?_
  refine r_aload_n dX9_image_15 rfl (i := 0) rfl ?_
  refine rr_getR (b := (m + 205)) dX9_image_16 fg_X9_66 rfl rfl (wX9_l hm) (wX9_s hm) (wX9_r5 hm) ?_
  refine rr_cVV (a := (m + 396)) (as := [VR (m + 205)]) (st := []) dX9_image_19 mt_X2_copyFrom ml_X9_408 mi_X2_copyFrom rm_X9_image_X2_copyFrom jz_X2_copyFrom ⟨Nat.zero_le _, Nat.zero_le _⟩ (Nat.le_of_ble_eq_true rfl) (wX2_l (wX9_o7 hm)) (wX2_c (wX9_o7 hm)) (jasR jas0) hT (fun I2 hFI2 hT => ?_)
  replace hFI2 := jFr_tr hFI1 hFI2
  refine jOk_mem (fun hI2 => ?_)
  refine r_aload_n dX9_image_22 rfl (i := 0) rfl ?_
  refine rr_getR (b := (m + 195)) dX9_image_23 fg_X9_59 rfl rfl (wX9_l hm) (wX9_s hm) (wX9_r4 hm) ?_
  refine rr_getR (b := (m + 196)) dX9_image_26 fg_X9_103 rfl rfl (wX7_l (wX9_o4 hm)) (wX7_s (wX9_o4 hm)) (wX7_r0 (wX9_o4 hm)) ?_
  refine rr_getI (v := I2 (m + 196) 2) dX9_image_29 fg_X9_138 rfl (wX4_l (wX7_o0 (wX9_o4 hm))) (wX4_s (wX7_o0 (wX9_o4 hm))) rfl ?_
  exact r_iret dX9_image_32 rfl (hI2 _ _).inR ⟨Nat.zero_le _, Nat.zero_le _⟩ ⟨_, rfl, rfl, hFI2, hT⟩
theorem en_X9_image {E : jE} {G : jG} {I : jM} {q : Int → jM → Prop} {m : Nat} (hm : WX9 G m) (hT : (∀ a j, jRg (G.2.1 a).1 (I a j)) → jRV E jB kX7_copyFrom [VR (m + 387), VR (m + 195)] G I (fun I1 => jRV E jB kX2_copyFrom [VR (m + 396), VR (m + 205)] G I1 (fun I2 => q (I2 (m + 196) 2) I2))) : jRI E jB kX9_image [VR m] G I q := jRun.of mt_X9_image.2.2.2 0 rfl (fun _ => st_X9_image_0 hm hT I (fun _ _ => rfl))
set_option maxRecDepth 20000 in
theorem st_X9_back_0 {E : jE} {G : jG} {I : jM} {q : Int → jM → Prop} {m : Nat} (hm : WX9 G m) (hT : (∀ a j, jRg (G.2.1 a).1 (I a j)) → jRV E jB kX7_copyFrom [VR (m + 195), VR (m + 387)] G I (fun I1 => jRV E jB kX2_copyFrom [VR (m + 205), VR (m + 396)] G I1 (fun I2 => jRV E jB kX9_forget [VR m] G I2 (fun I3 => q (I3 (m + 196) 2) I3)))) : jOI E jB kX9_back 0 [VR m] G I q := by
  intro I0 hF
  refine jOk_mem (fun hI => ?_)
  replace hT := hT hI 
  refine r_aload_n dX9_back_0 rfl (i := 0) rfl ?_
  refine rr_getR (b := (m + 195)) dX9_back_1 fg_X9_59 rfl rfl (wX9_l hm) (wX9_s hm) (wX9_r4 hm) ?_
  refine r_aload_n dX9_back_4 rfl (i := 0) rfl ?_
  refine rr_getR (b := (m + 387)) dX9_back_5 fg_X9_70 rfl rfl (wX9_l hm) (wX9_s hm) (wX9_r6 hm) ?_
  refine rr_cVV (a := (m + 195)) (as := [VR (m + 387)]) (st := []) dX9_back_8 mt_X7_copyFrom ml_X9_406 mi_X7_copyFrom rm_X9_back_X7_copyFrom jz_X7_copyFrom ⟨Nat.zero_le _, Nat.zero_le _⟩ (Nat.le_of_ble_eq_true rfl) (wX7_l (wX9_o4 hm)) (wX7_c (wX9_o4 hm)) (jasR jas0) hT (fun I1 hFI1 hT => ?_)
  replace hFI1 := jFr_tr hF hFI1
  refine jOk_mem (fun hI1 => ?_)
  refine r_aload_n dX9_back_11 rfl (i := 0) rfl ?_
  refine rr_getR (b := (m + 205)) dX9_back_12 fg_X9_66 rfl rfl (wX9_l hm) (wX9_s hm) (wX9_r5 hm) ?_
  refine r_aload_n dX9_back_15 rfl (i := 0) rfl ?_
  refine rr_getR (b := (m + 396)) dX9_back_16 fg_X9_73 rfl rfl (wX9_l hm) (wX9_s hm) (wX9_r7 hm) ?_
  refine rr_cVV (a := (m + 205)) (as := [VR (m + 396)]) (st := []) dX9_back_19 mt_X2_copyFrom ml_X9_408 mi_X2_copyFrom rm_X9_back_X2_copyFrom jz_X2_copyFrom ⟨Nat.zero_le _, Nat.zero_le _⟩ (Nat.le_of_ble_eq_true rfl) (wX2_l (wX9_o5 hm)) (wX2_c (wX9_o5 hm)) (jasR jas0) hT (fun I2 hFI2 hT => ?_)
  replace hFI2 := jFr_tr hFI1 hFI2
  refine jOk_mem (fun hI2 => ?_)
  refine r_aload_n dX9_back_22 rfl (i := 0) rfl ?_
  refine rr_cVV (a := m) (as := []) (st := []) dX9_back_23 mt_X9_forget ml_X9_218 mi_X9_forget rm_X9_back_X9_forget jz_X9_forget ⟨Nat.zero_le _, Nat.zero_le _⟩ (Nat.le_of_ble_eq_true rfl) (wX9_l hm) (wX9_c hm) jas0 hT (fun I3 hFI3 hT => ?_)
  replace hFI3 := jFr_tr hFI2 hFI3
  refine jOk_mem (fun hI3 => ?_)
  refine r_aload_n dX9_back_26 rfl (i := 0) rfl ?_
  refine rr_getR (b := (m + 195)) dX9_back_27 fg_X9_59 rfl rfl (wX9_l hm) (wX9_s hm) (wX9_r4 hm) ?_
  refine rr_getR (b := (m + 196)) dX9_back_30 fg_X9_103 rfl rfl (wX7_l (wX9_o4 hm)) (wX7_s (wX9_o4 hm)) (wX7_r0 (wX9_o4 hm)) ?_
  refine rr_getI (v := I3 (m + 196) 2) dX9_back_33 fg_X9_138 rfl (wX4_l (wX7_o0 (wX9_o4 hm))) (wX4_s (wX7_o0 (wX9_o4 hm))) rfl ?_
  exact r_iret dX9_back_36 rfl (hI3 _ _).inR ⟨Nat.zero_le _, Nat.zero_le _⟩ ⟨_, rfl, rfl, hFI3, hT⟩
theorem en_X9_back {E : jE} {G : jG} {I : jM} {q : Int → jM → Prop} {m : Nat} (hm : WX9 G m) (hT : (∀ a j, jRg (G.2.1 a).1 (I a j)) → jRV E jB kX7_copyFrom [VR (m + 195), VR (m + 387)] G I (fun I1 => jRV E jB kX2_copyFrom [VR (m + 205), VR (m + 396)] G I1 (fun I2 => jRV E jB kX9_forget [VR m] G I2 (fun I3 => q (I3 (m + 196) 2) I3)))) : jRI E jB kX9_back [VR m] G I q := jRun.of mt_X9_back.2.2.2 0 rfl (fun _ => st_X9_back_0 hm hT I (fun _ _ => rfl))
set_option maxRecDepth 20000 in
theorem st_X9_steps_0 {E : jE} {G : jG} {I : jM} {q : Int → jM → Prop} {m : Nat} (hm : WX9 G m) (hT : (∀ a j, jRg (G.2.1 a).1 (I a j)) → q (I (m + 205) 2) I) : jOI E jB kX9_steps 0 [VR m] G I q := by
  intro I0 hF
  refine jOk_mem (fun hI => ?_)
  replace hT := hT hI 
  refine r_aload_n dX9_steps_0 rfl (i := 0) rfl ?_
  refine rr_getR (b := (m + 205)) dX9_steps_1 fg_X9_66 rfl rfl (wX9_l hm) (wX9_s hm) (wX9_r5 hm) ?_
  refine rr_getI (v := I (m + 205) 2) dX9_steps_4 fg_X9_214 rfl (wX2_l (wX9_o5 hm)) (wX2_s (wX9_o5 hm)) rfl ?_
  exact r_iret dX9_steps_7 rfl (hI _ _).inR ⟨Nat.zero_le _, Nat.zero_le _⟩ ⟨_, rfl, rfl, hF, hT⟩
theorem en_X9_steps {E : jE} {G : jG} {I : jM} {q : Int → jM → Prop} {m : Nat} (hm : WX9 G m) (hT : (∀ a j, jRg (G.2.1 a).1 (I a j)) → q (I (m + 205) 2) I) : jRI E jB kX9_steps [VR m] G I q := jRun.of mt_X9_steps.2.2.2 0 rfl (fun _ => st_X9_steps_0 hm hT I (fun _ _ => rfl))
theorem val_tab : ∀ x : Fin 64, ((x : Nat) : Int) = jand (jshr ((x : Nat) : Int) 0) 1 + 2 * jand (jshr ((x : Nat) : Int) 1) 1 + 4 * jand (jshr ((x : Nat) : Int) 2) 1 + 8 * jand (jshr ((x : Nat) : Int) 3) 1 + 16 * jand (jshr ((x : Nat) : Int) 4) 1 + 32 * jand (jshr ((x : Nat) : Int) 5) 1 := by decide +kernel
theorem bits_eq {x y : Int} (hx : 0 ≤ x ∧ x < 64) (hy : 0 ≤ y ∧ y < 64) (h : ∀ i, 0 ≤ i → i < 6 → jand (jshr x i) 1 = jand (jshr y i) 1) : x = y := by
  have a := val_tab ⟨x.toNat, by omega⟩
  have b := val_tab ⟨y.toNat, by omega⟩
  simp only [show ((x.toNat : Nat) : Int) = x by omega] at a
  simp only [show ((y.toNat : Nat) : Int) = y by omega] at b
  rw [a, b, h 0 (by omega) (by omega), h 1 (by omega) (by omega), h 2 (by omega) (by omega), h 3 (by omega) (by omega), h 4 (by omega) (by omega), h 5 (by omega) (by omega)]
theorem xor_tab : ∀ x : Fin 64, ∀ r : Fin 6, (0 ≤ jxor ((x : Nat) : Int) (jshl 1 ((r : Nat) : Int)) ∧ jxor ((x : Nat) : Int) (jshl 1 ((r : Nat) : Int)) < 64) ∧ ∀ i : Fin 6, jand (jshr (jxor ((x : Nat) : Int) (jshl 1 ((r : Nat) : Int))) ((i : Nat) : Int)) 1 = if i = r then 1 - jand (jshr ((x : Nat) : Int) ((r : Nat) : Int)) 1 else jand (jshr ((x : Nat) : Int) ((i : Nat) : Int)) 1 := by decide +kernel
theorem xorb {x r : Int} (hx : 0 ≤ x ∧ x < 64) (hr : 0 ≤ r ∧ r < 6) : (0 ≤ jxor x (jshl 1 r) ∧ jxor x (jshl 1 r) < 64) ∧ ∀ i, 0 ≤ i → i < 6 → jand (jshr (jxor x (jshl 1 r)) i) 1 = if i = r then 1 - jand (jshr x r) 1 else jand (jshr x i) 1 := by
  have h := xor_tab ⟨x.toNat, by omega⟩ ⟨r.toNat, by omega⟩
  simp only [show ((x.toNat : Nat) : Int) = x by omega, show ((r.toNat : Nat) : Int) = r by omega] at h
  refine ⟨h.1, fun i i0 i1 => ?_⟩
  have g := h.2 ⟨i.toNat, by omega⟩
  simp only [show ((i.toNat : Nat) : Int) = i by omega] at g
  rw [g]
  by_cases q : i = r
  · rw [if_pos q, if_pos (Fin.ext (by show i.toNat = r.toNat; omega))]
  · rw [if_neg q, if_neg (fun e => q (by have := congrArg Fin.val e; simp only at this; omega))]
theorem onB_flip {X : Int → Int} (hQ : QW X) {r z : Int} (hr : 0 ≤ r ∧ r < X 4) (hz : z = 0 ∨ z = 1) (hne : X (515 + 40 * r) ≠ z) : onB (up X (515 + 40 * r) z) (X 4).toNat = jxor (onB X (X 4).toNat) (jshl 1 r) := by
  have h4 := hQ.2.1.1
  have h46 := hQ.2.1.2.1
  have a := onB_bits hQ (X 4).toNat (by omega)
  have hQ' := hQ.off (r := r) (v := z) hr (by omega)
  have e4 : up X (515 + 40 * r) z 4 = X 4 := up_ne (by omega)
  have b := onB_bits hQ' (X 4).toNat (by rw [e4]; omega)
  have x := xorb a.1 (r := r) (by omega)
  have w := (hQ.2.1.2.2 r hr.1 hr.2).2.1
  refine bits_eq b.1 x.1 (fun i i0 i1 => ?_)
  rw [b.2 i i0 i1, x.2 i i0 i1]
  by_cases q : i = r
  · rw [if_pos (by omega), if_pos q, q, up_eq, a.2 r hr.1 (by omega), if_pos (by omega)]
    omega
  · rw [if_neg q, a.2 i i0 i1]
    by_cases q2 : i < ((X 4).toNat : Int)
    · rw [if_pos q2, if_pos q2, up_ne (by omega)]
    · rw [if_neg q2, if_neg q2]
section CU
variable {E : jE} {G : jG} {m δ : Nat} {I I' : jM} {B B' Y : Int → Int} {H H' : List (Int → Int)} {T T' : List Int} {fk fp c : Int}
theorem CC.tape (h : CC G m δ I B H B' H' T fk fp) (e : ∀ a j, a ≠ m + 168 → (a ≠ m ∨ j ≠ 1) → I' a j = I a j) (ht : TPc m T' I') : CC G m δ I' B H B' H' T' fk fp := by
  obtain ⟨⟨⟨h0, h1, h2, h3, h4⟩, h5, h6, h7, h8, h9, h10, h11⟩, hk⟩ := h
  refine ⟨⟨⟨h0, h1, h2, (e _ _ (by omega) (by omega)).trans h3, h4⟩, h5.keep (fun b j q => e b j (by omega) (by omega)), h6.keep (fun b j q => e b j (by omega) (by omega)), h7.keep (fun b j q => e b j (by omega) (by omega)), h8.keep (fun b j q => e b j (by omega) (by omega)), ht, (e _ _ (by omega) (by omega)).trans h10, (e _ _ (by omega) (by omega)).trans h11⟩, fun q => ?_, fun q => ?_, fun q => ?_⟩
  · rw [e _ _ (by omega) (by omega)] at q
    obtain ⟨ρ, l1, l2, l3⟩ := hk.1 q
    exact ⟨ρ, l1.fr (fun a j qa => e a j (by omega) (by omega)), l2, l3⟩
  · rw [e _ _ (by omega) (by omega)] at q
    exact (hk.2.1 q).fr (fun a j a0 a1 => e a j (by omega) (by omega))
  · rw [e _ _ (by omega) (by omega)] at q
    rw [e _ _ (by omega) (by omega)]
    exact hk.2.2 q
theorem TPc.push (h : TPc m T I) (hl : T.length < 300) {x v : Int} (hx : 0 ≤ x ∧ x ≤ 255) (hv : v = jb8 x) {M M' : jM} (e : M = jup I (m + 168) (I m 1) v) (e' : M' = jup M m 1 (I m 1 + 1)) : TPc m (T ++ [x]) M' := by
  rw [h.1] at e e'
  refine ⟨?_, ?_, fun i hi => ?_⟩
  · rw [jr_eq e', List.length_append]
    simp
  · rw [List.length_append]
    simp
    omega
  · rw [List.length_append] at hi
    simp at hi
    rw [jr_na e' (by omega)]
    by_cases q : i = T.length
    · rw [q, jr_eq e, gd_right (by omega), Nat.sub_self]
      exact ⟨hx, hv⟩
    · rw [jr_nj e (by omega), gd_left (by omega)]
      exact h.2.2 i (by omega)
theorem cl_spool (h : CC G m δ I B H B' H' T fk fp) (hl : T.length + 4 ≤ 300) {v : Int} : jRV E jB kX9_spool [VR m, VI v] G I (fun I' => CC G m δ I' B H B' H' (T ++ by4 v) fk fp) := by
  have hm := h.1.1.2.1
  have step : ∀ {I1 : jM} {T1 : List Int} {s : Int} {q : jM → Prop}, CC G m δ I1 B H B' H' T1 fk fp → T1.length < 300 → 0 ≤ s ∧ s ≤ 24 → jb8 (jushr v s) = jb8 (jand (jshr v s) 255) → (∀ I2, CC G m δ I2 B H B' H' (T1 ++ [jand (jshr v s) 255]) fk fp → jOV E jB kX9_spool 3 [VR m, VI v, VI (s + -8)] G I2 q) → jOV E jB kX9_spool 3 [VR m, VI v, VI s] G I1 q := by
    intro I1 T1 s q hc hl1 hs he nx
    have ht := hc.1.2.2.2.2.2.1
    have e1 := ht.1
    refine st_X9_spool_3 hm (fun _ _ _ => ⟨fun q => absurd q (by omega), fun _ => ⟨fun q => absurd q (by omega), fun _ => ⟨⟨by omega, by omega⟩, fun M3 e3 => ⟨⟨by omega, by omega⟩, fun M4 e4 => ⟨⟨by omega, by omega⟩, nx M4 (hc.tape (fun a j a1 a2 => ?_) (ht.push hl1 (and255 _) he e3 e4))⟩⟩⟩⟩⟩)
    have q4 : M4 a j = M3 a j := by
      rcases a2 with a2 | a2
      · exact jr_na e4 a2
      · exact jr_nj e4 a2
    rw [q4, jr_na e3 a1]
  refine en_X9_spool hm (fun _ _ => ?_)
  refine step h (by omega) (by omega) (b8_24 v) (fun I1 h1 => ?_)
  rw [show (24 : Int) + -8 = 16 by decide]
  refine step h1 (by simp; omega) (by omega) (b8_16 v) (fun I2 h2 => ?_)
  rw [show (16 : Int) + -8 = 8 by decide]
  refine step h2 (by simp; omega) (by omega) (b8_8 v) (fun I3 h3 => ?_)
  rw [show (8 : Int) + -8 = 0 by decide]
  refine step h3 (by simp; omega) (by omega) (b8_0 v) (fun I4 h4 => ?_)
  refine st_X9_spool_3 hm (fun _ _ _ => ⟨fun _ => ?_, fun q => absurd (by decide) q⟩)
  have e : T ++ by4 v = T ++ [jand (jshr v 24) 255] ++ [jand (jshr v 16) 255] ++ [jand (jshr v 8) 255] ++ [jand (jshr v 0) 255] := by
    unfold by4
    simp
  rw [e]
  exact h4
theorem cl_feed (h : CC G m δ I B H B' H' T fk fp) {a b c d e : Int} : jRI E jB kX9_feed [VR m, VI a, VI b, VI c, VI d, VI e] G I (fun x I' => (300 < T.length + 20 → x = -1 ∧ CC G m δ I' B H B' H' T fk fp) ∧ (T.length + 20 ≤ 300 → x = T.length + 20 ∧ CC G m δ I' B H B' H' (T ++ (by4 a ++ by4 b ++ by4 c ++ by4 d ++ by4 e)) fk fp)) := by
  have ht := h.1.2.2.2.2.2.1
  have e1 := ht.1
  have hl300 := ht.2.1
  have l4 : ∀ v, (by4 v).length = 4 := fun v => rfl
  refine en_X9_feed h.1.1.2.1 (fun _ _ _ _ _ _ => ⟨⟨by omega, by omega⟩, fun q => ?_, fun q => ⟨fun _ => ⟨rfl, h⟩, fun g => absurd (by omega) q⟩⟩)
  refine (cl_spool h (by omega)).mono (fun I2 _ g2 => ?_)
  refine (cl_spool g2 (by rw [List.length_append, l4]; omega)).mono (fun I3 _ g3 => ?_)
  refine (cl_spool g3 (by rw [List.length_append, List.length_append, l4, l4]; omega)).mono (fun I4 _ g4 => ?_)
  refine (cl_spool g4 (by rw [List.length_append, List.length_append, List.length_append, l4, l4, l4]; omega)).mono (fun I5 _ g5 => ?_)
  refine (cl_spool g5 (by rw [List.length_append, List.length_append, List.length_append, List.length_append, l4, l4, l4, l4]; omega)).mono (fun I6 _ g6 => ?_)
  refine ⟨fun g => by omega, fun _ => ⟨?_, ?_⟩⟩
  · rw [g6.1.2.2.2.2.2.1.1, List.length_append, List.length_append, List.length_append, List.length_append, List.length_append, l4, l4, l4, l4, l4]
    omega
  · have e : T ++ (by4 a ++ by4 b ++ by4 c ++ by4 d ++ by4 e) = T ++ by4 a ++ by4 b ++ by4 c ++ by4 d ++ by4 e := by simp
    rw [e]
    exact g6
theorem cl_end (h : CC G m δ I B H B' H' T fk fp) {n : Int} : jRI E jB kX9_end [VR m, VI n] G I (fun x I' => (¬ (0 ≤ n ∧ n ≤ T.length) → x = -1 ∧ CC G m δ I' B H B' H' T fk fp) ∧ (0 ≤ n ∧ n ≤ T.length → x = n ∧ CC G m δ I' B H B' H' (T.take n.toNat) fk fp)) := by
  have ht := h.1.2.2.2.2.2.1
  have e1 := ht.1
  have hl := ht.2.1
  refine en_X9_end h.1.1.2.1 (fun _ _ => ⟨fun q => ⟨fun _ => ⟨rfl, h⟩, fun g => by omega⟩, fun q => ⟨fun q2 M1 e => ⟨fun g => absurd (by omega) g, fun _ => ⟨rfl, h.tape (fun a j a1 a2 => ?_) ⟨?_, ?_, fun i hi => ?_⟩⟩⟩, fun q2 => ⟨fun _ => ⟨rfl, h⟩, fun g => by omega⟩⟩⟩)
  · rcases a2 with a2 | a2
    · exact jr_na e a2
    · exact jr_nj e a2
  · rw [jr_eq e, List.length_take]
    omega
  · rw [List.length_take]
    omega
  · rw [List.length_take] at hi
    have eg : (T.take n.toNat).getD i 0 = T.getD i 0 := by
      rw [List.getD_eq_getElem?_getD, List.getElem?_take, if_pos (by omega), ← List.getD_eq_getElem?_getD]
    rw [eg, jr_na e (by omega)]
    exact ht.2.2 i (by omega)
theorem okB_b8 {b : Int} (h : 0 ≤ b ∧ b ≤ 255) : okB (jb8 b) ↔ okB b := by
  rw [jb8_u h]
  unfold okB
  split <;> omega
theorem cl_text (h : CC G m δ I B H B' H' T fk fp) (hQ : QW B) : jRI E jB kX9_text [VR m] G I (fun x I' => (¬ (T.length ≤ 200 ∧ ∀ b ∈ T, okB b) → x = -1 ∧ CC G m δ I' B H B' H' [] fk fp) ∧ (T.length ≤ 200 ∧ (∀ b ∈ T, okB b) → x = T.length ∧ CC G m δ I' (txB B T) (pushH H B) B' H' [] fk fp)) := by
  have hm := h.1.1.2.1
  have ht := h.1.2.2.2.2.2.1
  have e1 := ht.1
  have hl := ht.2.1
  have h0 := h.1.1.1
  refine en_X9_text hm (fun _ M1 e => ?_)
  have h1 : CC G m δ M1 B H B' H' [] fk fp := h.tape (fun a j a1 a2 => by
    rcases a2 with a2 | a2
    · exact jr_na e a2
    · exact jr_nj e a2) ⟨jr_eq e, by simp, fun i hi => absurd hi (Nat.not_lt_zero i)⟩
  have htp : ∀ i : Nat, i < T.length → (0 ≤ T.getD i 0 ∧ T.getD i 0 ≤ 255) ∧ M1 (m + 168) i = jb8 (T.getD i 0) := fun i hi => by rw [jr_na e (by omega)]; exact ht.2.2 i hi
  rw [e1]
  refine ⟨fun q => ?_, fun q => ⟨fun _ => ⟨rfl, h1⟩, fun g => absurd (by have := g.1; omega) q⟩⟩
  have loop : ∀ (d i : Nat), i + d = T.length → (∀ k : Nat, k < i → okB (T.getD k 0)) → jOI E jB kX9_text 21 [VR m, VI (T.length : Int), VI i] G M1 (fun x I' => (¬ (T.length ≤ 200 ∧ ∀ b ∈ T, okB b) → x = -1 ∧ CC G m δ I' B H B' H' [] fk fp) ∧ (T.length ≤ 200 ∧ (∀ b ∈ T, okB b) → x = T.length ∧ CC G m δ I' (txB B T) (pushH H B) B' H' [] fk fp)) := by
    intro d
    induction d with
    | zero =>
      intro i hi hok
      have hall : ∀ b ∈ T, okB b := fun b hb => by
        obtain ⟨k, k0, k1⟩ := gd_of_mem (d := 0) hb
        rw [← k1]
        exact hok k (by omega)
      refine st_X9_text_21 hm (fun _ _ _ => ⟨fun _ => (cl_keepStep h1.1).mono (fun I1 _ g1 => ?_), fun q => absurd (by omega) q⟩)
      have hS1 := g1.1.2.1
      refine (cl_tell (X := txB B T) (wX7_o0 (wX9_o4 hm)) (wX9_l0 hm) (wX9_a0 hm) (by decide) (by omega) (T := T) (fun k hk => ?_) (by omega) (by omega) ?_ ?_ (fun k hk => ⟨?_, ?_⟩)).mono (fun I2 _ g2 => ⟨fun g => absurd ⟨by omega, hall⟩ g, fun _ => ⟨rfl, ?_, CK.zero (g1.2.1.fr (fun j _ => g2.2 _ _ (by omega)))⟩⟩)
      · rw [g1.2.2 _ _ (by omega) (by omega), (htp k hk).2, jb8_id]
        have := hok k (by omega)
        unfold okB at this
        omega
      · unfold txB
        rw [if_pos rfl]
      · unfold txB
        rw [if_neg (by decide), if_pos rfl]
      · unfold txB
        rw [if_neg (by omega), if_neg (by omega), if_pos (by omega), show (10 + (k : Int) - 10).toNat = k by omega]
      · unfold txB
        rw [if_neg (by omega), if_neg (by omega), if_neg (by omega), if_pos (by omega)]
      · have f2 : Fr (m + 195) (m + 204) I1 I2 := g2.2.mono (by omega) (by omega)
        have u : ∀ j, j ≠ 2 → j ≠ 3 → ¬ (10 ≤ j ∧ j < 426) → txB B T j = B j := fun j a b c => by
          unfold txB
          rw [if_neg a, if_neg b, if_neg (by omega), if_neg (by omega)]
        refine g1.1.now f2 (ST.to hS1 hQ.2.1 ⟨u 4 (by omega) (by omega) (by omega), fun j j0 j1 _ => u j (by omega) (by omega) (by omega)⟩ (fun r r0 r1 => u _ (by omega) (by omega) (by omega)) g2.1 ?_ ?_ (g2.2 _ _ (by omega)) (g2.2 _ _ (by omega)) f2 (by omega))
        · exact (hS1.2.2.2.1.congr (fun j hj => u j (by omega) (by omega) (by omega))).fr (fun a j q => g2.2 a j (by omega))
        · exact (hS1.2.2.2.2.congr (fun j hj => u j (by omega) (by omega) (by omega))).fr (fun a j q => g2.2 a j (by omega))
    | succ d ih =>
      intro i hi hok
      have g := htp i (by omega)
      refine st_X9_text_21 hm (fun _ _ _ => ⟨fun q => absurd q (by omega), fun _ => ⟨⟨by omega, by omega⟩, fun _ => ?_⟩⟩)
      rw [g.2]
      refine sp_X9_may.mono (fun y I5 _ _ gy => ?_)
      obtain ⟨rfl, rfl⟩ := gy
      rw [show (i : Int) + 1 = ((i + 1 : Nat) : Int) by omega]
      refine ⟨fun q => ⟨⟨by omega, by omega⟩, ih (i + 1) (by omega) (fun k hk => ?_)⟩, fun q => ⟨fun _ => ⟨rfl, h1⟩, fun g' => absurd ((okB_b8 g.1).mpr (g'.2 _ (gd_mem (by omega)))) (jI_n q)⟩⟩
      by_cases ek : k = i
      · rw [ek]
        exact (okB_b8 g.1).mp (jI_p q)
      · exact hok k (by omega)
  exact loop T.length 0 (by omega) (fun k hk => absurd hk (Nat.not_lt_zero k))
theorem cl_fault (h : CC G m δ I B H B' H' T fk fp) {w : Int} : jRI E jB kX9_fault [VR m, VI w] G I (fun x I' => x = (if w = 0 then fk else if w = 1 then fp else -1) ∧ CC G m δ I' B H B' H' T fk fp) := by
  have a := h.1.2.2.2.2.2.2.1
  have b := h.1.2.2.2.2.2.2.2
  refine en_X9_fault h.1.1.2.1 (fun _ _ => ⟨fun q => ⟨fun q2 => ⟨by rw [if_neg q, if_neg q2], h⟩, fun q2 => ⟨by rw [if_neg q, if_pos q2]; exact b, h⟩⟩, fun q => ⟨by rw [if_pos q]; exact a, h⟩⟩)
theorem cl_on (h : CC G m δ I B H B' H' T fk fp) (hQ : QW B) {r z : Int} (hz : z = 0 ∨ z = 1) : jRI E jB kX9_on [VR m, VI r, VI z] G I (fun x I' => (¬ ((0 ≤ r ∧ r < B 4) ∧ B (515 + 40 * r) ≠ z) → x = 0 ∧ CC G m δ I' B H B' H' T fk fp) ∧ ((0 ≤ r ∧ r < B 4) ∧ B (515 + 40 * r) ≠ z → x = 1 ∧ CC G m δ I' (up B (515 + 40 * r) z) (pushH H B) B' H' T fk fp)) := by
  have hm := h.1.1.2.1
  have h0 := h.1.1.1
  have h46 := hQ.2.1.2.1
  refine en_X9_on hm (fun _ _ _ => (cl_isRule h.1).mono (fun y I1 _ _ gy => ?_))
  obtain ⟨rfl, rfl⟩ := gy
  refine ⟨fun q => ⟨fun _ => ⟨rfl, h⟩, fun g => absurd g.1 (jI_n q)⟩, fun q => ?_⟩
  have hr := jI_p q
  refine (cl_isOn (wX9_o4 hm) h.1.2.1 hQ hr).mono (fun y I4 _ _ gy => ?_)
  obtain ⟨rfl, rfl⟩ := gy
  refine ⟨fun q2 => (cl_keepStep h.1).mono (fun I7 _ g7 M8 e8 => ⟨fun g => absurd ⟨hr, q2⟩ g, fun _ => ⟨rfl, ?_, CK.zero (g7.2.1.fr (fun j _ => jr_na e8 (by omega)))⟩⟩), fun q2 => ⟨fun _ => ⟨rfl, h⟩, fun g => absurd q2 g.2⟩⟩
  have f8 : Fr (m + 195) (m + 204) I7 M8 := Fr.up e8 (by omega)
  have hS := g7.1.2.1
  rw [hS.2.2.1] at e8
  have u : ∀ j, j ≠ 515 + 40 * r → up B (515 + 40 * r) z j = B j := fun j hj => up_ne hj
  have k : ∀ a j, (a ≠ m + 195 ∨ j ≠ 2) → M8 a j = I7 a j := fun a j ha => by
    rcases ha with ha | ha
    · exact jr_na e8 ha
    · exact jr_nj e8 ha
  refine g7.1.now f8 ⟨⟨(hS.1.1.congr (fun j hj => u j (by omega))).fr (fun a j qa => k a j (by omega)), (hS.1.2.congr (fun j hj => u j (by omega))).fr (fun a j qa => k a j (by omega))⟩, ?_, ?_, (hS.2.2.2.1.congr (fun j hj => u j (by omega))).fr (fun a j qa => k a j (by omega)), (hS.2.2.2.2.congr (fun j hj => u j (by omega))).fr (fun a j qa => k a j (by omega))⟩
  · rw [k _ _ (by omega)]
    refine (hS.2.1.congr hQ.2.1 ⟨u 4 (by omega), fun j j0 j1 jj => u j (by omega)⟩).of f8 (by omega)
  · rw [jr_eq e8, u 4 (by omega), onB_flip hQ hr hz q2]
theorem cl_silence (h : CC G m δ I B H B' H' T fk fp) (hQ : QW B) {x y : Int} : jRI E jB kX9_silence [VR m, VI x, VI y] G I (fun r I' => (¬ (0 ≤ x ∧ x < y ∧ y ≤ B 2 ∧ B 3 < 8) → r = -1 ∧ CC G m δ I' B H B' H' T fk fp) ∧ (0 ≤ x ∧ x < y ∧ y ≤ B 2 ∧ B 3 < 8 → r = B 3 + 1 ∧ CC G m δ I' (up (up (up B (410 + 2 * B 3) x) (410 + 2 * B 3 + 1) y) 3 (B 3 + 1)) (pushH H B) B' H' T fk fp)) := by
  have hm := h.1.1.2.1
  have h0 := h.1.1.1
  have e2 : I (m + 196) 2 = B 2 := h.1.2.1.1.1.1.1
  have e5 : I (m + 196) 5 = B 3 := h.1.2.1.1.2.1.1
  have h3 := hQ.2.2.1
  refine en_X9_silence hm (fun _ _ _ => ?_)
  rw [e2, e5]
  refine ⟨fun q => ⟨fun _ => ⟨rfl, h⟩, fun g => by omega⟩, fun q => ⟨fun q => ⟨fun _ => ⟨rfl, h⟩, fun g => by omega⟩, fun q2 => ⟨fun q => ⟨fun _ => ⟨rfl, h⟩, fun g => by omega⟩, fun q3 => ⟨fun q4 => (cl_keepStep h.1).mono (fun I1 _ g1 => ?_), fun q => ⟨fun _ => ⟨rfl, h⟩, fun g => by omega⟩⟩⟩⟩⟩
  have hS := g1.1.2.1
  refine (cl_addSpan (wX7_o0 (wX9_o4 hm)) hS.1 q4 (fun j => rfl) (Y := up (up (up B (410 + 2 * B 3) x) (410 + 2 * B 3 + 1) y) 3 (B 3 + 1))).mono (fun I2 _ g2 => ⟨fun g => absurd (by omega) g, fun _ => ⟨g2.2.2, ?_, CK.zero (g1.2.1.fr (fun j _ => g2.2.1 _ _ (by omega)))⟩⟩)
  have f2 : Fr (m + 195) (m + 204) I1 I2 := g2.2.1.mono (by omega) (by omega)
  have u : ∀ j, j ≠ 3 → ¬ (410 ≤ j ∧ j < 426) → up (up (up B (410 + 2 * B 3) x) (410 + 2 * B 3 + 1) y) 3 (B 3 + 1) j = B j := fun j a b => by rw [up_ne a, up_ne (by omega), up_ne (by omega)]
  refine g1.1.now f2 (ST.to hS hQ.2.1 ⟨u 4 (by omega) (by omega), fun j j0 j1 _ => u j (by omega) (by omega)⟩ (fun r r0 r1 => u _ (by omega) (by omega)) g2.1 ?_ ?_ (g2.2.1 _ _ (by omega)) (g2.2.1 _ _ (by omega)) f2 (by omega))
  · exact (hS.2.2.2.1.congr (fun j hj => u j (by omega) (by omega))).fr (fun a j q => g2.2.1 a j (by omega))
  · exact (hS.2.2.2.2.congr (fun j hj => u j (by omega) (by omega))).fr (fun a j q => g2.2.1 a j (by omega))
theorem cl_hear (h : CC G m δ I B H B' H' T fk fp) (hQ : QW B) {i : Int} : jRI E jB kX9_hear [VR m, VI i] G I (fun r I' => (¬ (0 ≤ i ∧ i < B 3) → r = 0 ∧ CC G m δ I' B H B' H' T fk fp) ∧ (0 ≤ i ∧ i < B 3 → r = 1 ∧ CC G m δ I' (hrB B i) (pushH H B) B' H' T fk fp)) := by
  have hm := h.1.1.2.1
  have h0 := h.1.1.1
  have e5 : I (m + 196) 5 = B 3 := h.1.2.1.1.2.1.1
  have h3 := hQ.2.2.1
  refine en_X9_hear hm (fun _ _ => ?_)
  rw [e5]
  refine ⟨fun q => ⟨fun _ => ⟨rfl, h⟩, fun g => by omega⟩, fun q => ⟨fun q2 => (cl_keepStep h.1).mono (fun I1 _ g1 => ?_), fun q => ⟨fun _ => ⟨rfl, h⟩, fun g => by omega⟩⟩⟩
  have hS := g1.1.2.1
  refine (cl_removeSpan (wX7_o0 (wX9_o4 hm)) hS.1 (i := i) (by omega)).mono (fun I2 _ g2 => ⟨fun g => absurd (by omega) g, fun _ => ⟨rfl, ?_, CK.zero (g1.2.1.fr (fun j _ => g2.2 _ _ (by omega)))⟩⟩)
  have f2 : Fr (m + 195) (m + 204) I1 I2 := g2.2.mono (by omega) (by omega)
  have u : ∀ j, j ≠ 3 → ¬ (410 ≤ j ∧ j < 426) → hrB B i j = B j := fun j a b => by
    unfold hrB
    rw [if_neg a, if_neg (by omega), if_neg (by omega)]
  refine g1.1.now f2 (ST.to hS hQ.2.1 ⟨u 4 (by omega) (by omega), fun j j0 j1 _ => u j (by omega) (by omega)⟩ (fun r r0 r1 => u _ (by omega) (by omega)) g2.1 ?_ ?_ (g2.2 _ _ (by omega)) (g2.2 _ _ (by omega)) f2 (by omega))
  · exact (hS.2.2.2.1.congr (fun j hj => u j (by omega) (by omega))).fr (fun a j q => g2.2 a j (by omega))
  · exact (hS.2.2.2.2.congr (fun j hj => u j (by omega) (by omega))).fr (fun a j q => g2.2 a j (by omega))
/-- a small thing is told -/
theorem cl_small {I1 M : jM} (h : CS G m δ I1 B H B' H' T fk fp) (hQ : QW B) {w f v : Int} (hw : (w = 5 ∧ f = 3) ∨ (w = 6 ∧ f = 4)) (e : M = jup I1 (m + 195) f v) : CS G m δ M (up B w v) H B' H' T fk fp := by
  have h0 := h.1.1
  have hS := h.2.1
  have f2 : Fr (m + 195) (m + 204) I1 M := Fr.up e (by omega)
  have u : ∀ j, j ≠ w → up B w v j = B j := fun j hj => up_ne hj
  have k : ∀ a j, (a ≠ m + 195 ∨ j ≠ f) → M a j = I1 a j := fun a j ha => by
    rcases ha with ha | ha
    · exact jr_na e ha
    · exact jr_nj e ha
  have hY : YS (m + 195) (up B w v) M := by
    obtain ⟨y1, y2⟩ := hS.2.2.2.1.2.2
    have e7 := u 7 (by omega)
    refine ⟨by rw [e7, k _ _ (by omega)]; exact y1, fun j j0 j1 => ?_⟩
    rw [e7] at j1
    rw [k _ _ (by omega), k _ _ (by omega), u _ (by omega), u _ (by omega)]
    exact y2 j j0 j1
  refine h.now f2 (ST.to hS hQ.2.1 ⟨u 4 (by omega), fun j j0 j1 _ => u j (by omega)⟩ (fun r r0 r1 => u _ (by omega)) ⟨(hS.1.1.congr (fun j hj => u j (by omega))).fr (fun a j qa => k a j (by omega)), (hS.1.2.congr (fun j hj => u j (by omega))).fr (fun a j qa => k a j (by omega))⟩ ⟨?_, ?_, hY⟩ ((hS.2.2.2.2.congr (fun j hj => u j (by omega))).fr (fun a j qa => k a j (by omega))) (k _ _ (by omega)) (k _ _ (by omega)) f2 (by omega))
  · rcases hw with ⟨rfl, rfl⟩ | ⟨rfl, rfl⟩
    · rw [jr_eq e, up_eq]
    · rw [k _ _ (by omega), u 5 (by omega)]
      exact hS.2.2.2.1.1
  · rcases hw with ⟨rfl, rfl⟩ | ⟨rfl, rfl⟩
    · rw [k _ _ (by omega), u 6 (by omega)]
      exact hS.2.2.2.1.2.1
    · rw [jr_eq e, up_eq]
theorem cl_measure (h : CC G m δ I B H B' H' T fk fp) (hQ : QW B) {v : Int} : jRI E jB kX9_measure [VR m, VI v] G I (fun r I' => (¬ (0 ≤ v ∧ v ≤ 1) → r = 0 ∧ CC G m δ I' B H B' H' T fk fp) ∧ (0 ≤ v ∧ v ≤ 1 → r = 1 ∧ CC G m δ I' (up B 5 v) (pushH H B) B' H' T fk fp)) := by
  refine en_X9_measure h.1.1.2.1 (fun _ _ => ⟨fun q => ⟨fun _ => ⟨rfl, h⟩, fun g => by omega⟩, fun q => ⟨fun q2 => (cl_keepStep h.1).mono (fun I1 _ g1 M2 e2 => ⟨fun g => absurd (by omega) g, fun _ => ⟨rfl, cl_small g1.1 hQ (Or.inl ⟨rfl, rfl⟩) e2, CK.zero (g1.2.1.fr (fun j _ => jr_na e2 (by omega)))⟩⟩), fun q => ⟨fun _ => ⟨rfl, h⟩, fun g => by omega⟩⟩⟩)
theorem cl_most (h : CC G m δ I B H B' H' T fk fp) (hQ : QW B) {v : Int} : jRI E jB kX9_most [VR m, VI v] G I (fun r I' => (¬ (0 ≤ v ∧ v ≤ 20) → r = 0 ∧ CC G m δ I' B H B' H' T fk fp) ∧ (0 ≤ v ∧ v ≤ 20 → r = 1 ∧ CC G m δ I' (up B 6 v) (pushH H B) B' H' T fk fp)) := by
  refine en_X9_most h.1.1.2.1 (fun _ _ => ⟨fun q => ⟨fun _ => ⟨rfl, h⟩, fun g => by omega⟩, fun q => ⟨fun q2 => (cl_keepStep h.1).mono (fun I1 _ g1 M2 e2 => ⟨fun g => absurd (by omega) g, fun _ => ⟨rfl, cl_small g1.1 hQ (Or.inr ⟨rfl, rfl⟩) e2, CK.zero (g1.2.1.fr (fun j _ => jr_na e2 (by omega)))⟩⟩), fun q => ⟨fun _ => ⟨rfl, h⟩, fun g => by omega⟩⟩⟩)
theorem cl_put (h : CC G m δ I B H B' H' T fk fp) (hQ : QW B) {i b : Int} : jRI E jB kX9_put [VR m, VI i, VI b] G I (fun r I' => (¬ ((0 ≤ i ∧ i < B 2) ∧ okB b ∧ ¬ sil B i (i + 1)) → r = 0 ∧ CC G m δ I' B H B' H' T fk fp) ∧ ((0 ≤ i ∧ i < B 2) ∧ okB b ∧ ¬ sil B i (i + 1) → r = 1 ∧ CC G m δ I' (up (up B (10 + i) b) (210 + i) 0) (pushH H B) B' H' T fk fp)) := by
  have hm := h.1.1.2.1
  have h0 := h.1.1.1
  have h2 := hQ.1
  refine en_X9_put hm (fun _ _ _ => (cl_isByte h.1).mono (fun y I1 _ _ gy => ?_))
  obtain ⟨rfl, rfl⟩ := gy
  refine ⟨fun q => ⟨fun _ => ⟨rfl, h⟩, fun g => absurd g.1 (jI_n q)⟩, fun q => ?_⟩
  have hi := jI_p q
  refine sp_X9_may.mono (fun y I4 _ _ gy => ?_)
  obtain ⟨rfl, rfl⟩ := gy
  refine ⟨fun q2 => ⟨fun _ => ⟨rfl, h⟩, fun g => absurd g.2.1 (jI_n q2)⟩, fun q2 => ⟨⟨by omega, by omega⟩, ?_⟩⟩
  have hok := jI_p q2
  refine (cl_hides (wX7_o0 (wX9_o4 hm)) h.1.2.1.1.2).mono (fun y I8 _ _ gy => ?_)
  obtain ⟨rfl, rfl⟩ := gy
  refine ⟨fun q3 => (cl_keepStep h.1).mono (fun I11 _ g => ⟨⟨by omega, by omega⟩, fun M13 e13 => ⟨⟨by omega, by omega⟩, fun M15 e15 => ⟨fun g' => absurd ⟨hi, hok, jI_n q3⟩ g', fun _ => ⟨rfl, ?_, CK.zero (g.2.1.fr (fun j _ => by rw [jr_na e15 (by omega), jr_na e13 (by omega)]))⟩⟩⟩⟩), fun q3 => ⟨fun _ => ⟨rfl, h⟩, fun g => absurd (jI_p q3) g.2.2⟩⟩
  have hb8 : jb8 b = b := jb8_id (by unfold okB at hok; omega)
  rw [hb8] at e13
  have hS := g.1.2.1
  have f2 : Fr (m + 195) (m + 204) I11 M15 := (Fr.up e13 (by omega)).trans (Fr.up e15 (by omega))
  have u : ∀ j, ¬ (10 ≤ j ∧ j < 410) → up (up B (10 + i) b) (210 + i) 0 j = B j := fun j a => by rw [up_ne (by omega), up_ne (by omega)]
  have k : ∀ a j, a ≠ m + 197 → a ≠ m + 198 → M15 a j = I11 a j := fun a j a1 a2 => by rw [jr_na e15 a2, jr_na e13 a1]
  refine g.1.now f2 (ST.to hS hQ.2.1 ⟨u 4 (by omega), fun j j0 j1 _ => u j (by omega)⟩ (fun r r0 r1 => u _ (by omega)) ⟨⟨?_, fun j j0 j1 => ?_⟩, (hS.1.2.congr (fun j hj => u j (by omega))).fr (fun a j qa => k a j (by omega) (by omega))⟩ ((hS.2.2.2.1.congr (fun j hj => u j (by omega))).fr (fun a j qa => k a j (by omega) (by omega))) ((hS.2.2.2.2.congr (fun j hj => u j (by omega))).fr (fun a j qa => k a j (by omega) (by omega))) (k _ _ (by omega) (by omega)) (k _ _ (by omega) (by omega)) f2 (by omega))
  · rw [u 2 (by omega), k _ _ (by omega) (by omega)]
    exact hS.1.1.1
  · rw [u 2 (by omega)] at j1
    have o := hS.1.1.2 j j0 j1
    have o1 : I11 (m + 197) j = B (10 + j) := o.1
    have o2 : I11 (m + 198) j = B (210 + j) - 1 := o.2
    show M15 (m + 197) j = _ ∧ M15 (m + 198) j = _
    rw [jr_na e15 (by omega)]
    by_cases q4 : j = i
    · rw [q4, jr_eq e13, jr_eq e15, up_ne (by omega), up_eq, up_eq]
      exact ⟨rfl, rfl⟩
    · rw [jr_nj e13 q4, jr_nj e15 q4, jr_na e13 (by omega), up_ne (by omega), up_ne (by omega), up_ne (by omega), up_ne (by omega)]
      exact ⟨o1, o2⟩
theorem cl_yields (h : CC G m δ I B H B' H' T fk fp) (hW : BW c B) {r o : Int} : jRI E jB kX9_yields [VR m, VI r, VI o] G I (fun x I' => (¬ ((0 ≤ r ∧ r < B 4) ∧ (0 ≤ o ∧ o < B 4) ∧ B 7 < 8 ∧ ¬ yto B o r ∧ ¬ reach B r o) → x = 0 ∧ CC G m δ I' B H B' H' T fk fp) ∧ ((0 ≤ r ∧ r < B 4) ∧ (0 ≤ o ∧ o < B 4) ∧ B 7 < 8 ∧ ¬ yto B o r ∧ ¬ reach B r o → x = 1 ∧ CC G m δ I' (up (up (up B (426 + 2 * B 7) r) (426 + 2 * B 7 + 1) o) 7 (B 7 + 1)) (pushH H B) B' H' T fk fp)) := by
  have hm := h.1.1.2.1
  have h0 := h.1.1.1
  have hQ := hW.1
  have h46 := hQ.2.1.2.1
  have hY := h.1.2.1.2.2.2.1.2.2
  have e7 := hY.1
  refine en_X9_yields hm (fun _ _ _ => (cl_isRule h.1).mono (fun y I1 _ _ gy => ?_))
  obtain ⟨rfl, rfl⟩ := gy
  refine ⟨fun q => ⟨fun _ => ⟨rfl, h⟩, fun g => absurd g.1 (jI_n q)⟩, fun q => ?_⟩
  have hr := jI_p q
  refine (cl_isRule h.1).mono (fun y I4 _ _ gy => ?_)
  obtain ⟨rfl, rfl⟩ := gy
  refine ⟨fun q => ⟨fun _ => ⟨rfl, h⟩, fun g => absurd g.2.1 (jI_n q)⟩, fun q2 => ?_⟩
  have ho := jI_p q2
  rw [e7.1]
  refine ⟨fun q3 => (cl_isYieldTold (wX9_o4 hm) hY).mono (fun y I7 _ _ gy => ?_), fun q => ⟨fun _ => ⟨rfl, h⟩, fun g => absurd g.2.2.1 q⟩⟩
  obtain ⟨rfl, rfl⟩ := gy
  refine ⟨fun q => ⟨fun _ => ⟨rfl, h⟩, fun g => absurd (jI_p q) g.2.2.2.1⟩, fun q4 => (cl_reaches (wX9_o4 hm) hY hW.yw (by omega) (by omega)).mono (fun y I10 _ _ gy => ?_)⟩
  obtain ⟨rfl, rfl⟩ := gy
  refine ⟨fun q5 => (cl_keepStep h.1).mono (fun I13 _ g13 => ?_), fun q => ⟨fun _ => ⟨rfl, h⟩, fun g => absurd (jI_p q) g.2.2.2.2⟩⟩
  refine (cl_addYield (wX9_o4 hm) g13.1.2.1 hQ.2.1 q3 (by omega)).mono (fun I14 _ g14 => ⟨fun g => absurd ⟨hr, ho, q3, jI_n q4, jI_n q5⟩ g, fun _ => ⟨rfl, g13.1.now g14.2 g14.1, CK.zero (g13.2.1.fr (fun j _ => g14.2 _ _ (by omega)))⟩⟩)
theorem cl_insist (h : CC G m δ I B H B' H' T fk fp) (hQ : QW B) : jRI E jB kX9_insist [VR m] G I (fun r I' => r = B 7 ∧ CC G m δ I' (noY B) (pushH H B) B' H' T fk fp) := by
  have hm := h.1.1.2.1
  have h0 := h.1.1.1
  have e7 := h.1.2.1.2.2.2.1.2.2.1
  refine en_X9_insist hm (fun _ => (cl_keepStep h.1).mono (fun I1 _ g1 M2 e2 => ⟨e7.1, ?_, CK.zero (g1.2.1.fr (fun j _ => jr_na e2 (by omega)))⟩))
  have hS := g1.1.2.1
  have f2 : Fr (m + 195) (m + 204) I1 M2 := Fr.up e2 (by omega)
  have u : ∀ j, j ≠ 7 → ¬ (426 ≤ j ∧ j < 442) → noY B j = B j := fun j a b => by unfold noY; rw [if_neg (by omega)]
  have k : ∀ a j, (a ≠ m + 195 ∨ j ≠ 7) → M2 a j = I1 a j := fun a j ha => by
    rcases ha with ha | ha
    · exact jr_na e2 ha
    · exact jr_nj e2 ha
  have z7 : noY B 7 = 0 := by unfold noY; rw [if_pos (by omega)]
  refine g1.1.now f2 (ST.to hS hQ.2.1 ⟨u 4 (by omega) (by omega), fun j j0 j1 _ => u j (by omega) (by omega)⟩ (fun r r0 r1 => u _ (by omega) (by omega)) ⟨(hS.1.1.congr (fun j hj => u j (by omega) (by omega))).fr (fun a j qa => k a j (by omega)), (hS.1.2.congr (fun j hj => u j (by omega) (by omega))).fr (fun a j qa => k a j (by omega))⟩ ⟨?_, ?_, ⟨⟨?_, by omega⟩, fun k' k0 k1 => by omega⟩⟩ ((hS.2.2.2.2.congr (fun j hj => u j (by omega) (by omega))).fr (fun a j qa => k a j (by omega))) (k _ _ (by omega)) (k _ _ (by omega)) f2 (by omega))
  · rw [k _ _ (by omega), u 5 (by omega) (by omega)]
    exact hS.2.2.2.1.1
  · rw [k _ _ (by omega), u 6 (by omega) (by omega)]
    exact hS.2.2.2.1.2.1
  · rw [jr_eq e2, z7]
theorem cl_steps (h : CC G m δ I B H B' H' T fk fp) : jRI E jB kX9_steps [VR m] G I (fun x I' => x = H.length ∧ CC G m δ I' B H B' H' T fk fp) := en_X9_steps h.1.1.2.1 (fun _ => ⟨h.1.2.2.1.1, h⟩)
theorem cl_undo (h : CC G m δ I B H B' H' T fk fp) : jRI E jB kX9_undo [VR m] G I (fun x I' => (H = [] → x = -1 ∧ CC G m δ I' B H B' H' T fk fp) ∧ (H ≠ [] → x = H.length - 1 ∧ CC G m δ I' (H.getD (H.length - 1) B0) H.dropLast B' H' T fk fp)) := by
  have h' := h
  obtain ⟨⟨⟨h0, h1, h2, h3, h4⟩, h5, h6, h7, h8, h9, h10, h11⟩, hk⟩ := h
  have el := h6.1
  refine en_X9_undo h1 (fun _ => ?_)
  rw [el]
  refine ⟨fun q => ?_, fun q => ⟨fun _ => ⟨rfl, h'⟩, fun g => absurd (List.length_eq_zero_iff.mp (by omega)) g⟩⟩
  have hne : H ≠ [] := fun g => q (by rw [g]; rfl)
  refine (cl_takeBack (wX9_o5 h1) (wX9_o4 h1) (by omega) (by omega) (by omega) h6 hne).mono (fun I1 _ g1 => ?_)
  refine (cl_forget h1).mono (fun I2 _ g2 => ⟨fun g => absurd g hne, fun _ => ⟨?_, ⟨⟨h0, h1, h2, ?_, h4⟩, ?_, ?_, ?_, ?_, ?_, ?_, ?_⟩, CK.zero g2.1⟩⟩)
  · rw [g2.2 _ _ (by omega), g1.1.1, List.length_dropLast]
    have := List.length_pos_iff.mpr hne
    omega
  · rw [g2.2 _ _ (by omega), g1.2.2 _ _ (by omega) (by omega)]
    exact h3
  · exact g1.2.1.keep (fun b j q => g2.2 b j (by omega))
  · exact g1.1.keep (fun b j q => g2.2 b j (by omega))
  · exact h7.keep (fun b j q => by rw [g2.2 b j (by omega), g1.2.2 b j (by omega) (by omega)])
  · exact h8.keep (fun b j q => by rw [g2.2 b j (by omega), g1.2.2 b j (by omega) (by omega)])
  · exact h9.fr (fun b j q => by rw [g2.2 b j (by omega), g1.2.2 b j (by omega) (by omega)])
  · rw [g2.2 _ _ (by omega), g1.2.2 _ _ (by omega) (by omega)]
    exact h10
  · rw [g2.2 _ _ (by omega), g1.2.2 _ _ (by omega) (by omega)]
    exact h11
theorem cl_image (h : CC G m δ I B H B' H' T fk fp) : jRI E jB kX9_image [VR m] G I (fun x I' => x = B 2 ∧ CC G m δ I' B H B H T fk fp) := by
  have h' := h
  obtain ⟨⟨⟨h0, h1, h2, h3, h4⟩, h5, h6, h7, h8, h9, h10, h11⟩, hk⟩ := h
  refine en_X9_image h1 (fun _ => (cl_stateCopy (wX9_o6 h1) (wX9_o4 h1) (by omega) (by omega) h5).mono (fun I1 _ g1 => ?_))
  refine (cl_histCopy (wX9_o7 h1) (wX9_o5 h1) (by omega) (by omega) (h6.fr g1.2 (by omega) (by omega))).mono (fun I2 _ g2 => ?_)
  have k : ∀ a j, (a < m + 387 ∨ m + 578 ≤ a) → I2 a j = I a j := fun a j ha => by rw [g2.2 a j (by omega), g1.2 a j (by omega)]
  refine ⟨?_, ⟨⟨h0, h1, h2, (k _ _ (by omega)).trans h3, h4⟩, h5.keep (fun b j q => k b j (by omega)), h6.keep (fun b j q => k b j (by omega)), g1.1.keep (fun b j q => g2.2 b j (by omega)), g2.1, h9.fr (fun b j q => k b j (by omega)), (k _ _ (by omega)).trans h10, (k _ _ (by omega)).trans h11⟩, fun q => ?_, fun q => ?_, fun q => ?_⟩
  · rw [k _ _ (by omega)]
    exact h5.1.1.1.1
  · rw [k _ _ (by omega)] at q
    obtain ⟨ρ, l1, l2, l3⟩ := hk.1 q
    exact ⟨ρ, l1.fr (fun a j qa => k a j (by omega)), l2, l3⟩
  · rw [k _ _ (by omega)] at q
    exact (hk.2.1 q).fr (fun a j a0 a1 => k a j (by omega))
  · rw [k _ _ (by omega)] at q
    rw [k _ _ (by omega)]
    exact hk.2.2 q
theorem cl_back (h : CC G m δ I B H B' H' T fk fp) : jRI E jB kX9_back [VR m] G I (fun x I' => x = B' 2 ∧ CC G m δ I' B' H' B' H' T fk fp) := by
  obtain ⟨⟨⟨h0, h1, h2, h3, h4⟩, h5, h6, h7, h8, h9, h10, h11⟩, hk⟩ := h
  refine en_X9_back h1 (fun _ => (cl_stateCopy (wX9_o4 h1) (wX9_o6 h1) (by omega) (by omega) h7).mono (fun I1 _ g1 => ?_))
  refine (cl_histCopy (wX9_o5 h1) (wX9_o7 h1) (by omega) (by omega) (h8.fr g1.2 (by omega) (by omega))).mono (fun I2 _ g2 => (cl_forget h1).mono (fun I3 _ g3 => ?_))
  have k : ∀ a j, (a < m + 195 ∨ m + 387 ≤ a ∨ a = m + 204) → (a ≠ m ∨ (j ≠ 10 ∧ j ≠ 13 ∧ j ≠ 15)) → I3 a j = I a j := fun a j ha hb => by rw [g3.2 a j hb, g2.2 a j (by omega), g1.2 a j (by omega)]
  have hS : ST G δ (m + 195) B' I3 := (g1.1.keep (fun b j q => g2.2 b j (by omega))).keep (fun b j q => g3.2 b j (by omega))
  exact ⟨hS.1.1.1.1, ⟨⟨h0, h1, h2, (k _ _ (by omega) (by omega)).trans h3, h4⟩, hS, g2.1.keep (fun b j q => g3.2 b j (by omega)), h7.keep (fun b j q => k b j (by omega) (by omega)), h8.keep (fun b j q => k b j (by omega) (by omega)), h9.fr (fun b j q => k b j (by omega) (by omega)), (k _ _ (by omega) (by omega)).trans h10, (k _ _ (by omega) (by omega)).trans h11⟩, CK.zero g3.1⟩
end CU
