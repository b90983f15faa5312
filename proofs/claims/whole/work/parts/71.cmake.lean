/-! ===== the class: findings are made ===== -/
set_option maxRecDepth 20000 in
theorem st_X1_beginOf_0 {E : jE} {G : jG} {I : jM} {q : Int → jM → Prop} {m : Nat} {x1 : Int} (hm : WX1 G m) (hT : (∀ a j, jRg (G.2.1 a).1 (I a j)) → jIn x1 → ((0 : Int) ≤ x1 ∧ (x1 : Int) < 1200) ∧ ((0 : Int) ≤ (I (m + 6) x1) ∧ ((I (m + 6) x1) : Int) < 201) ∧ q (I (m + 2) (I (m + 6) x1)) I) : jOI E jB kX1_beginOf 0 [VR m, VI x1] G I q := by
  intro I0 hF
  refine jOk_mem (fun hI => ?_)
  refine jOk_in (i := 1) rfl (fun hx1 => ?_)
  replace hT := hT hI hx1
  refine r_aload_n dX1_beginOf_0 rfl (i := 0) rfl ?_
  refine rr_getR (b := (m + 1)) dX1_beginOf_1 fg_X1_12 rfl rfl (wX1_l hm) (wX1_s hm) (wX1_r2 hm) ?_
  refine rr_getR (b := (m + 2)) dX1_beginOf_4 fg_X1_134 rfl rfl (wX8_l (wX1_o2 hm)) (wX8_s (wX1_o2 hm)) (wX8_r0 (wX1_o2 hm)) ?_
  refine r_aload_n dX1_beginOf_7 rfl (i := 0) rfl ?_
  refine rr_getR (b := (m + 6)) dX1_beginOf_8 fg_X1_26 rfl rfl (wX1_l hm) (wX1_s hm) (wX1_r7 hm) ?_
  refine r_iload_n dX1_beginOf_11 rfl (i := 1) rfl ?_
  obtain ⟨hc1, hT⟩ := hT
  refine rr_iaload (v := I (m + 6) x1) dX1_beginOf_12 (wX1_l7 hm) (wX1_a7 hm) (by decide) hc1 rfl ?_
  obtain ⟨hc2, hT⟩ := hT
  refine rr_iaload (v := I (m + 2) (I (m + 6) x1)) dX1_beginOf_13 (wX8_l0 (wX1_o2 hm)) (wX8_a0 (wX1_o2 hm)) (by decide) hc2 rfl ?_
  exact r_iret dX1_beginOf_14 rfl (hI _ _).inR ⟨Nat.zero_le _, Nat.zero_le _⟩ ⟨_, rfl, rfl, hF, hT⟩
theorem en_X1_beginOf {E : jE} {G : jG} {I : jM} {q : Int → jM → Prop} {m : Nat} {x1 : Int} (hm : WX1 G m) (hT : (∀ a j, jRg (G.2.1 a).1 (I a j)) → jIn x1 → ((0 : Int) ≤ x1 ∧ (x1 : Int) < 1200) ∧ ((0 : Int) ≤ (I (m + 6) x1) ∧ ((I (m + 6) x1) : Int) < 201) ∧ q (I (m + 2) (I (m + 6) x1)) I) : jRI E jB kX1_beginOf [VR m, VI x1] G I q := jRun.of mt_X1_beginOf.2.2.2 0 rfl (fun _ => st_X1_beginOf_0 hm hT I (fun _ _ => rfl))
set_option maxRecDepth 20000 in
theorem st_X1_endOf_0 {E : jE} {G : jG} {I : jM} {q : Int → jM → Prop} {m : Nat} {x1 : Int} (hm : WX1 G m) (hT : (∀ a j, jRg (G.2.1 a).1 (I a j)) → jIn x1 → ((0 : Int) ≤ x1 ∧ (x1 : Int) < 1200) ∧ ((0 : Int) ≤ (I (m + 7) x1) ∧ ((I (m + 7) x1) : Int) < 201) ∧ q (I (m + 2) (I (m + 7) x1)) I) : jOI E jB kX1_endOf 0 [VR m, VI x1] G I q := by
  intro I0 hF
  refine jOk_mem (fun hI => ?_)
  refine jOk_in (i := 1) rfl (fun hx1 => ?_)
  replace hT := hT hI hx1
  refine r_aload_n dX1_endOf_0 rfl (i := 0) rfl ?_
  refine rr_getR (b := (m + 1)) dX1_endOf_1 fg_X1_12 rfl rfl (wX1_l hm) (wX1_s hm) (wX1_r2 hm) ?_
  refine rr_getR (b := (m + 2)) dX1_endOf_4 fg_X1_134 rfl rfl (wX8_l (wX1_o2 hm)) (wX8_s (wX1_o2 hm)) (wX8_r0 (wX1_o2 hm)) ?_
  refine r_aload_n dX1_endOf_7 rfl (i := 0) rfl ?_
  refine rr_getR (b := (m + 7)) dX1_endOf_8 fg_X1_29 rfl rfl (wX1_l hm) (wX1_s hm) (wX1_r8 hm) ?_
  refine r_iload_n dX1_endOf_11 rfl (i := 1) rfl ?_
  obtain ⟨hc1, hT⟩ := hT
  refine rr_iaload (v := I (m + 7) x1) dX1_endOf_12 (wX1_l8 hm) (wX1_a8 hm) (by decide) hc1 rfl ?_
  obtain ⟨hc2, hT⟩ := hT
  refine rr_iaload (v := I (m + 2) (I (m + 7) x1)) dX1_endOf_13 (wX8_l0 (wX1_o2 hm)) (wX8_a0 (wX1_o2 hm)) (by decide) hc2 rfl ?_
  exact r_iret dX1_endOf_14 rfl (hI _ _).inR ⟨Nat.zero_le _, Nat.zero_le _⟩ ⟨_, rfl, rfl, hF, hT⟩
theorem en_X1_endOf {E : jE} {G : jG} {I : jM} {q : Int → jM → Prop} {m : Nat} {x1 : Int} (hm : WX1 G m) (hT : (∀ a j, jRg (G.2.1 a).1 (I a j)) → jIn x1 → ((0 : Int) ≤ x1 ∧ (x1 : Int) < 1200) ∧ ((0 : Int) ≤ (I (m + 7) x1) ∧ ((I (m + 7) x1) : Int) < 201) ∧ q (I (m + 2) (I (m + 7) x1)) I) : jRI E jB kX1_endOf [VR m, VI x1] G I q := jRun.of mt_X1_endOf.2.2.2 0 rfl (fun _ => st_X1_endOf_0 hm hT I (fun _ _ => rfl))
set_option maxRecDepth 20000 in
theorem st_X1_growth_0 {E : jE} {G : jG} {I : jM} {q : Int → jM → Prop} {m : Nat} {x1 : Int} (hm : WX1 G m) (hT : (∀ a j, jRg (G.2.1 a).1 (I a j)) → jIn x1 → ((0 : Int) ≤ x1 ∧ (x1 : Int) < 1200) ∧ ((0 : Int) ≤ x1 ∧ (x1 : Int) < 1200) ∧ ((0 : Int) ≤ (I (m + 7) x1) ∧ ((I (m + 7) x1) : Int) < 201) ∧ ((0 : Int) ≤ x1 ∧ (x1 : Int) < 1200) ∧ ((0 : Int) ≤ (I (m + 6) x1) ∧ ((I (m + 6) x1) : Int) < 201) ∧ jIn ((I (m + 8) x1) - ((I (m + 2) (I (m + 7) x1)) - (I (m + 2) (I (m + 6) x1)))) ∧ q ((I (m + 8) x1) - ((I (m + 2) (I (m + 7) x1)) - (I (m + 2) (I (m + 6) x1)))) I) : jOI E jB kX1_growth 0 [VR m, VI x1] G I q := by
  intro I0 hF
  refine jOk_mem (fun hI => ?_)
  refine jOk_in (i := 1) rfl (fun hx1 => ?_)
  replace hT := hT hI hx1
  refine r_aload_n dX1_growth_0 rfl (i := 0) rfl ?_
  refine rr_getR (b := (m + 8)) dX1_growth_1 fg_X1_32 rfl rfl (wX1_l hm) (wX1_s hm) (wX1_r9 hm) ?_
  refine r_iload_n dX1_growth_4 rfl (i := 1) rfl ?_
  obtain ⟨hc1, hT⟩ := hT
  refine rr_iaload (v := I (m + 8) x1) dX1_growth_5 (wX1_l9 hm) (wX1_a9 hm) (by decide) hc1 rfl ?_
  refine r_aload_n dX1_growth_6 rfl (i := 0) rfl ?_
  refine rr_getR (b := (m + 1)) dX1_growth_7 fg_X1_12 rfl rfl (wX1_l hm) (wX1_s hm) (wX1_r2 hm) ?_
  refine rr_getR (b := (m + 2)) dX1_growth_10 fg_X1_134 rfl rfl (wX8_l (wX1_o2 hm)) (wX8_s (wX1_o2 hm)) (wX8_r0 (wX1_o2 hm)) ?_
  refine r_aload_n dX1_growth_13 rfl (i := 0) rfl ?_
  refine rr_getR (b := (m + 7)) dX1_growth_14 fg_X1_29 rfl rfl (wX1_l hm) (wX1_s hm) (wX1_r8 hm) ?_
  refine r_iload_n dX1_growth_17 rfl (i := 1) rfl ?_
  obtain ⟨hc2, hT⟩ := hT
  refine rr_iaload (v := I (m + 7) x1) dX1_growth_18 (wX1_l8 hm) (wX1_a8 hm) (by decide) hc2 rfl ?_
  obtain ⟨hc3, hT⟩ := hT
  refine rr_iaload (v := I (m + 2) (I (m + 7) x1)) dX1_growth_19 (wX8_l0 (wX1_o2 hm)) (wX8_a0 (wX1_o2 hm)) (by decide) hc3 rfl ?_
  refine r_aload_n dX1_growth_20 rfl (i := 0) rfl ?_
  refine rr_getR (b := (m + 1)) dX1_growth_21 fg_X1_12 rfl rfl (wX1_l hm) (wX1_s hm) (wX1_r2 hm) ?_
  refine rr_getR (b := (m + 2)) dX1_growth_24 fg_X1_134 rfl rfl (wX8_l (wX1_o2 hm)) (wX8_s (wX1_o2 hm)) (wX8_r0 (wX1_o2 hm)) ?_
  refine r_aload_n dX1_growth_27 rfl (i := 0) rfl ?_
  refine rr_getR (b := (m + 6)) dX1_growth_28 fg_X1_26 rfl rfl (wX1_l hm) (wX1_s hm) (wX1_r7 hm) ?_
  refine r_iload_n dX1_growth_31 rfl (i := 1) rfl ?_
  obtain ⟨hc4, hT⟩ := hT
  refine rr_iaload (v := I (m + 6) x1) dX1_growth_32 (wX1_l7 hm) (wX1_a7 hm) (by decide) hc4 rfl ?_
  obtain ⟨hc5, hT⟩ := hT
  refine rr_iaload (v := I (m + 2) (I (m + 6) x1)) dX1_growth_33 (wX8_l0 (wX1_o2 hm)) (wX8_a0 (wX1_o2 hm)) (by decide) hc5 rfl ?_
  refine r_isub dX1_growth_34 ?_
  refine r_isub dX1_growth_35 ?_
  obtain ⟨hc6, hT⟩ := hT
  exact r_iret dX1_growth_36 rfl hc6 ⟨Nat.zero_le _, Nat.zero_le _⟩ ⟨_, rfl, rfl, hF, hT⟩
theorem en_X1_growth {E : jE} {G : jG} {I : jM} {q : Int → jM → Prop} {m : Nat} {x1 : Int} (hm : WX1 G m) (hT : (∀ a j, jRg (G.2.1 a).1 (I a j)) → jIn x1 → ((0 : Int) ≤ x1 ∧ (x1 : Int) < 1200) ∧ ((0 : Int) ≤ x1 ∧ (x1 : Int) < 1200) ∧ ((0 : Int) ≤ (I (m + 7) x1) ∧ ((I (m + 7) x1) : Int) < 201) ∧ ((0 : Int) ≤ x1 ∧ (x1 : Int) < 1200) ∧ ((0 : Int) ≤ (I (m + 6) x1) ∧ ((I (m + 6) x1) : Int) < 201) ∧ jIn ((I (m + 8) x1) - ((I (m + 2) (I (m + 7) x1)) - (I (m + 2) (I (m + 6) x1)))) ∧ q ((I (m + 8) x1) - ((I (m + 2) (I (m + 7) x1)) - (I (m + 2) (I (m + 6) x1)))) I) : jRI E jB kX1_growth [VR m, VI x1] G I q := jRun.of mt_X1_growth.2.2.2 0 rfl (fun _ => st_X1_growth_0 hm hT I (fun _ _ => rfl))
set_option maxRecDepth 20000 in
theorem st_X1_lengthBehind_11 {E : jE} {G : jG} {I : jM} {q : Int → jM → Prop} {m : Nat} {p1 np1 : Nat} {x2 : Int} {x3 : Int} {x4 : Int} (hm : WX1 G m) (lp1 : p1 < G.2.2) (sp1 : G.2.1 p1 = (100, np1)) (bp1 : (np1 : Int) ≤ 2147483647) (hT : (∀ a j, jRg (G.2.1 a).1 (I a j)) → jIn x2 → jIn x3 → jIn x4 → ((x2 ≤ x4 → q x3 I) ∧ (¬ x2 ≤ x4 → ((0 : Int) ≤ x4 ∧ (x4 : Int) < np1) ∧ jRI E jB kX1_growth [VR m, VI (I p1 x4)] G I (fun r3 I2 => jIn (x3 + r3) ∧ jIn (x4 + 1) ∧ jOI E jB kX1_lengthBehind 11 [VR m, VR p1, VI x2, VI (x3 + r3), VI (x4 + 1)] G I2 q)))) : jOI E jB kX1_lengthBehind 11 [VR m, VR p1, VI x2, VI x3, VI x4] G I q := by
  intro I0 hF
  refine jOk_mem (fun hI => ?_)
  refine jOk_in (i := 2) rfl (fun hx2 => ?_)
  refine jOk_in (i := 3) rfl (fun hx3 => ?_)
  refine jOk_in (i := 4) rfl (fun hx4 => ?_)
  replace hT := hT hI hx2 hx3 hx4
  refine r_iload dX1_lengthBehind_11 (i := 4) rfl ?_
  refine r_iload_n dX1_lengthBehind_13 rfl (i := 2) rfl ?_
  refine r_icmp_ge (tgt := 34) dX1_lengthBehind_14 rfl hx4 hx2 (fun hcc => ?_) (fun hcc => ?_)
  · replace hT := hT.1 hcc
    refine r_iload_n dX1_lengthBehind_34 rfl (i := 3) rfl ?_
    exact r_iret dX1_lengthBehind_35 rfl hx3 ⟨Nat.zero_le _, Nat.zero_le _⟩ ⟨_, rfl, rfl, hF, hT⟩
  · replace hT := hT.2 hcc
    refine r_iload_n dX1_lengthBehind_17 rfl (i := 3) rfl ?_
    refine r_aload_n dX1_lengthBehind_18 rfl (i := 0) rfl ?_
    refine r_aload_n dX1_lengthBehind_19 rfl (i := 1) rfl ?_
    refine r_iload dX1_lengthBehind_20 (i := 4) rfl ?_
    obtain ⟨hc1, hT⟩ := hT
    refine rr_iaload (v := I p1 x4) dX1_lengthBehind_22 lp1 sp1 bp1 hc1 rfl ?_
    refine rr_cVI (a := m) (as := [VI (I p1 x4)]) (st := [VI x3]) dX1_lengthBehind_23 mt_X1_growth ml_X1_212 mi_X1_growth rm_X1_lengthBehind_X1_growth jz_X1_growth ⟨Nat.zero_le _, Nat.zero_le _⟩ (Nat.le_of_ble_eq_true rfl) (wX1_l hm) (wX1_c hm) (jasI (hI _ _).inR jas0) hT (fun r3 I2 hc4 hFI2 hT => ?_)
    replace hFI2 := jFr_tr hF hFI2
    refine jOk_mem (fun hI2 => ?_)
    refine r_iadd dX1_lengthBehind_26 ?_
    obtain ⟨hc5, hT⟩ := hT
    refine rr_istore_n (i := 3) (ls' := [VR m, VR p1, VI x2, VI (x3 + r3), VI x4]) dX1_lengthBehind_27 rfl (Nat.le_of_ble_eq_true rfl) rfl rfl hc5 ?_
    obtain ⟨hc6, hT⟩ := hT
    refine rr_iinc (i := 4) (ls' := [VR m, VR p1, VI x2, VI (x3 + r3), VI (x4 + 1)]) dX1_lengthBehind_28 rfl (Nat.le_of_ble_eq_true rfl) rfl rfl hc6 ?_
    refine r_goto (tgt := 11) dX1_lengthBehind_31 rfl ?_
    exact hT I0 hFI2
set_option maxRecDepth 20000 in
theorem st_X1_lengthBehind_0 {E : jE} {G : jG} {I : jM} {q : Int → jM → Prop} {m : Nat} {p1 np1 : Nat} {x2 : Int} (hm : WX1 G m) (lp1 : p1 < G.2.2) (sp1 : G.2.1 p1 = (100, np1)) (bp1 : (np1 : Int) ≤ 2147483647) (hT : (∀ a j, jRg (G.2.1 a).1 (I a j)) → jIn x2 → (∃ b1 : Nat, I m 0 = (b1 : Int) ∧ WX4 G b1 ∧ jOI E jB kX1_lengthBehind 11 [VR m, VR p1, VI x2, VI (I b1 2), VI 0] G I q)) : jOI E jB kX1_lengthBehind 0 [VR m, VR p1, VI x2, VN, VN] G I q := by
  intro I0 hF
  refine jOk_mem (fun hI => ?_)
  refine jOk_in (i := 2) rfl (fun hx2 => ?_)
  replace hT := hT hI hx2
  refine r_aload_n dX1_lengthBehind_0 rfl (i := 0) rfl ?_
  obtain ⟨b1, hc2, hc3, hT⟩ := hT
  refine rr_getM (b := b1) dX1_lengthBehind_1 fg_X1_56 rfl rfl (wX1_l hm) (wX1_s hm) hc2 ?_
  refine rr_getI (v := I b1 2) dX1_lengthBehind_4 fg_X1_209 rfl (wX4_l hc3) (wX4_s hc3) rfl ?_
  refine rr_istore_n (i := 3) (ls' := [VR m, VR p1, VI x2, VI (I b1 2), VN]) dX1_lengthBehind_7 rfl (Nat.le_of_ble_eq_true rfl) rfl rfl (hI _ _).inR ?_
  refine r_iconst (n := 0) dX1_lengthBehind_8 ?_
  refine rr_istore (i := 4) (ls' := [VR m, VR p1, VI x2, VI (I b1 2), VI 0]) dX1_lengthBehind_9 (Nat.le_of_ble_eq_true rfl) rfl rfl ⟨by decide, by decide⟩ ?_
  exact hT I0 hF
theorem en_X1_lengthBehind {E : jE} {G : jG} {I : jM} {q : Int → jM → Prop} {m : Nat} {p1 np1 : Nat} {x2 : Int} (hm : WX1 G m) (lp1 : p1 < G.2.2) (sp1 : G.2.1 p1 = (100, np1)) (bp1 : (np1 : Int) ≤ 2147483647) (hT : (∀ a j, jRg (G.2.1 a).1 (I a j)) → jIn x2 → (∃ b1 : Nat, I m 0 = (b1 : Int) ∧ WX4 G b1 ∧ jOI E jB kX1_lengthBehind 11 [VR m, VR p1, VI x2, VI (I b1 2), VI 0] G I q)) : jRI E jB kX1_lengthBehind [VR m, VR p1, VI x2] G I q := jRun.of mt_X1_lengthBehind.2.2.2 2 rfl (fun _ => st_X1_lengthBehind_0 hm lp1 sp1 bp1 hT I (fun _ _ => rfl))
set_option maxRecDepth 20000 in
theorem st_X1_canBeMade_0 {E : jE} {G : jG} {I : jM} {q : Int → jM → Prop} {m : Nat} (hm : WX1 G m) (hT : (∀ a j, jRg (G.2.1 a).1 (I a j)) → (((I m 15) ≤ 0 → q 0 I) ∧ (¬ (I m 15) ≤ 0 → jRI E jB kX1_lengthBehind [VR m, VR (m + 13), VI (I m 15)] G I (fun r2 I1 => ((200 < r2 → q 0 I1) ∧ (¬ 200 < r2 → q 1 I1)))))) : jOI E jB kX1_canBeMade 0 [VR m] G I q := by
  intro I0 hF
  refine jOk_mem (fun hI => ?_)
  replace hT := hT hI 
  refine r_aload_n dX1_canBeMade_0 rfl (i := 0) rfl ?_
  refine rr_getI (v := I m 15) dX1_canBeMade_1 fg_X1_99 rfl (wX1_l hm) (wX1_s hm) rfl ?_
  refine r_if_le (tgt := 29) dX1_canBeMade_4 rfl (hI _ _).inR (fun hcc => ?_) (fun hcc => ?_)
  · replace hT := hT.1 hcc
    refine r_iconst (n := 0) dX1_canBeMade_29 ?_
    exact r_zret dX1_canBeMade_30 rfl ⟨by decide, by decide⟩ ⟨Nat.zero_le _, Nat.zero_le _⟩ ⟨_, rfl, rfl, hF, hT⟩
  · replace hT := hT.2 hcc
    refine r_aload_n dX1_canBeMade_7 rfl (i := 0) rfl ?_
    refine r_aload_n dX1_canBeMade_8 rfl (i := 0) rfl ?_
    refine rr_getR (b := (m + 13)) dX1_canBeMade_9 fg_X1_47 rfl rfl (wX1_l hm) (wX1_s hm) (wX1_r14 hm) ?_
    refine r_aload_n dX1_canBeMade_12 rfl (i := 0) rfl ?_
    refine rr_getI (v := I m 15) dX1_canBeMade_13 fg_X1_99 rfl (wX1_l hm) (wX1_s hm) rfl ?_
    refine rr_cVI (a := m) (as := [VR (m + 13), VI (I m 15)]) (st := []) dX1_canBeMade_16 mt_X1_lengthBehind ml_X1_205 mi_X1_lengthBehind rm_X1_canBeMade_X1_lengthBehind jz_X1_lengthBehind ⟨Nat.zero_le _, Nat.zero_le _⟩ (Nat.le_of_ble_eq_true rfl) (wX1_l hm) (wX1_c hm) (jasR (jasI (hI _ _).inR jas0)) hT (fun r2 I1 hc3 hFI1 hT => ?_)
    replace hFI1 := jFr_tr hF hFI1
    refine jOk_mem (fun hI1 => ?_)
    refine r_sipush (n := 200) dX1_canBeMade_19 (by decide +kernel) ?_
    refine r_icmp_gt (tgt := 29) dX1_canBeMade_22 rfl hc3 ⟨by decide, by decide⟩ (fun hcc => ?_) (fun hcc => ?_)
    · replace hT := hT.1 hcc
      refine r_iconst (n := 0) dX1_canBeMade_29 ?_
      exact r_zret dX1_canBeMade_30 rfl ⟨by decide, by decide⟩ ⟨Nat.zero_le _, Nat.zero_le _⟩ ⟨_, rfl, rfl, hFI1, hT⟩
    · replace hT := hT.2 hcc
      refine r_iconst (n := 1) dX1_canBeMade_25 ?_
      refine r_goto (tgt := 30) dX1_canBeMade_26 rfl ?_
      exact r_zret dX1_canBeMade_30 rfl ⟨by decide, by decide⟩ ⟨Nat.zero_le _, Nat.zero_le _⟩ ⟨_, rfl, rfl, hFI1, hT⟩
theorem en_X1_canBeMade {E : jE} {G : jG} {I : jM} {q : Int → jM → Prop} {m : Nat} (hm : WX1 G m) (hT : (∀ a j, jRg (G.2.1 a).1 (I a j)) → (((I m 15) ≤ 0 → q 0 I) ∧ (¬ (I m 15) ≤ 0 → jRI E jB kX1_lengthBehind [VR m, VR (m + 13), VI (I m 15)] G I (fun r2 I1 => ((200 < r2 → q 0 I1) ∧ (¬ 200 < r2 → q 1 I1)))))) : jRI E jB kX1_canBeMade [VR m] G I q := jRun.of mt_X1_canBeMade.2.2.2 0 rfl (fun _ => st_X1_canBeMade_0 hm hT I (fun _ _ => rfl))
set_option maxRecDepth 20000 in
theorem st_X1_rewrite_19 {E : jE} {G : jG} {I : jM} {q : jM → Prop} {m : Nat} {p1 np1 : Nat} {x2 : Int} {p3 : Nat} {x4 : Int} {x5 : Int} (hm : WX1 G m) (lp1 : p1 < G.2.2) (sp1 : G.2.1 p1 = (100, np1)) (bp1 : (np1 : Int) ≤ 2147483647) (hp3 : WX4 G p3) (hT : (∀ a j, jRg (G.2.1 a).1 (I a j)) → jIn x2 → jIn x4 → jIn x5 → ((x2 ≤ x5 → (∃ b1 : Nat, I m 0 = (b1 : Int) ∧ WX4 G b1 ∧ (∃ b4 : Nat, I m 0 = (b4 : Int) ∧ WX4 G b4 ∧ jRV E jB kX4_carry [VR p3, VR b1, VI x4, VI (I b4 2)] G I (fun I7 => q I7)))) ∧ (¬ x2 ≤ x5 → ((0 : Int) ≤ x5 ∧ (x5 : Int) < np1) ∧ (∃ b9 : Nat, I m 0 = (b9 : Int) ∧ WX4 G b9 ∧ jRI E jB kX1_beginOf [VR m, VI (I p1 x5)] G I (fun r13 I12 => jRV E jB kX4_carry [VR p3, VR b9, VI x4, VI r13] G I12 (fun I15 => ((0 : Int) ≤ (I p1 x5) ∧ ((I p1 x5) : Int) < 1200) ∧ ((0 : Int) ≤ (I p1 x5) ∧ ((I p1 x5) : Int) < 1200) ∧ jRV E jB kX1_writeFresh [VR m, VI (I15 (m + 5) (I p1 x5)), VI (I15 (m + 6) (I p1 x5))] G I15 (fun I18 => ((0 : Int) ≤ (I p1 x5) ∧ ((I p1 x5) : Int) < 1200) ∧ jRV E jB kX4_write [VR p3, VR (m + 4), VI (I18 m 4), VI (I18 (m + 5) (I p1 x5))] G I18 (fun I20 => jRI E jB kX1_endOf [VR m, VI (I p1 x5)] G I20 (fun r22 I21 => (∃ b24 : Nat, I21 m 0 = (b24 : Int) ∧ WX4 G b24 ∧ jRI E jB kX1_growth [VR m, VI (I p1 x5)] G I21 (fun r28 I27 => jRV E jB kX4_shiftSpans [VR p3, VR b24, VI r22, VI r28] G I27 (fun I30 => jIn (x5 + 1) ∧ jOV E jB kX1_rewrite 19 [VR m, VR p1, VI x2, VR p3, VI r22, VI (x5 + 1), VN] G I30 q)))))))))))) : jOV E jB kX1_rewrite 19 [VR m, VR p1, VI x2, VR p3, VI x4, VI x5, VN] G I q := by
  intro I0 hF
  refine jOk_mem (fun hI => ?_)
  refine jOk_in (i := 2) rfl (fun hx2 => ?_)
  refine jOk_in (i := 4) rfl (fun hx4 => ?_)
  refine jOk_in (i := 5) rfl (fun hx5 => ?_)
  replace hT := hT hI hx2 hx4 hx5
  refine r_iload dX1_rewrite_19 (i := 5) rfl ?_
  refine r_iload_n dX1_rewrite_21 rfl (i := 2) rfl ?_
  refine r_icmp_ge (tgt := 114) dX1_rewrite_22 rfl hx5 hx2 (fun hcc => ?_) (fun hcc => ?_)
  · replace hT := hT.1 hcc
    refine r_aload_n dX1_rewrite_114 rfl (i := 3) rfl ?_
    refine r_aload_n dX1_rewrite_115 rfl (i := 0) rfl ?_
    obtain ⟨b1, hc2, hc3, hT⟩ := hT
    refine rr_getM (b := b1) dX1_rewrite_116 fg_X1_56 rfl rfl (wX1_l hm) (wX1_s hm) hc2 ?_
    refine r_iload dX1_rewrite_119 (i := 4) rfl ?_
    refine r_aload_n dX1_rewrite_121 rfl (i := 0) rfl ?_
    obtain ⟨b4, hc5, hc6, hT⟩ := hT
    refine rr_getM (b := b4) dX1_rewrite_122 fg_X1_56 rfl rfl (wX1_l hm) (wX1_s hm) hc5 ?_
    refine rr_getI (v := I b4 2) dX1_rewrite_125 fg_X1_209 rfl (wX4_l hc6) (wX4_s hc6) rfl ?_
    refine rr_cVV (a := p3) (as := [VR b1, VI x4, VI (I b4 2)]) (st := []) dX1_rewrite_128 mt_X4_carry ml_X1_221 mi_X4_carry rm_X1_rewrite_X4_carry jz_X4_carry ⟨Nat.zero_le _, Nat.zero_le _⟩ (Nat.le_of_ble_eq_true rfl) (wX4_l hp3) (wX4_c hp3) (jasR (jasI hx4 (jasI (hI _ _).inR jas0))) hT (fun I7 hFI7 hT => ?_)
    replace hFI7 := jFr_tr hF hFI7
    refine jOk_mem (fun hI7 => ?_)
    exact r_vret dX1_rewrite_131 rfl ⟨Nat.zero_le _, Nat.zero_le _⟩ ⟨rfl, rfl, hFI7, hT⟩
  · replace hT := hT.2 hcc
    refine r_aload_n dX1_rewrite_25 rfl (i := 1) rfl ?_
    refine r_iload dX1_rewrite_26 (i := 5) rfl ?_
    obtain ⟨hc8, hT⟩ := hT
    refine rr_iaload (v := I p1 x5) dX1_rewrite_28 lp1 sp1 bp1 hc8 rfl ?_
    refine rr_istore (i := 6) (ls' := [VR m, VR p1, VI x2, VR p3, VI x4, VI x5, VI (I p1 x5)]) dX1_rewrite_29 (Nat.le_of_ble_eq_true rfl) rfl rfl (hI _ _).inR ?_
    refine r_aload_n dX1_rewrite_31 rfl (i := 3) rfl ?_
    refine r_aload_n dX1_rewrite_32 rfl (i := 0) rfl ?_
    obtain ⟨b9, hc10, hc11, hT⟩ := hT
    refine rr_getM (b := b9) dX1_rewrite_33 fg_X1_56 rfl rfl (wX1_l hm) (wX1_s hm) hc10 ?_
    refine r_iload dX1_rewrite_36 (i := 4) rfl ?_
    refine r_aload_n dX1_rewrite_38 rfl (i := 0) rfl ?_
    refine r_iload dX1_rewrite_39 (i := 6) rfl ?_
    refine rr_cVI (a := m) (as := [VI (I p1 x5)]) (st := [VI x4, VR b9, VR p3]) dX1_rewrite_41 mt_X1_beginOf ml_X1_218 mi_X1_beginOf rm_X1_rewrite_X1_beginOf jz_X1_beginOf ⟨Nat.zero_le _, Nat.zero_le _⟩ (Nat.le_of_ble_eq_true rfl) (wX1_l hm) (wX1_c hm) (jasI (hI _ _).inR jas0) hT (fun r13 I12 hc14 hFI12 hT => ?_)
    replace hFI12 := jFr_tr hF hFI12
    refine jOk_mem (fun hI12 => ?_)
    refine rr_cVV (a := p3) (as := [VR b9, VI x4, VI r13]) (st := []) dX1_rewrite_44 mt_X4_carry ml_X1_221 mi_X4_carry rm_X1_rewrite_X4_carry jz_X4_carry ⟨Nat.zero_le _, Nat.zero_le _⟩ (Nat.le_of_ble_eq_true rfl) (wX4_l hp3) (wX4_c hp3) (jasR (jasI hx4 (jasI hc14 jas0))) hT (fun I15 hFI15 hT => ?_)
    replace hFI15 := jFr_tr hFI12 hFI15
    refine jOk_mem (fun hI15 => ?_)
    refine r_aload_n dX1_rewrite_47 rfl (i := 0) rfl ?_
    refine r_aload_n dX1_rewrite_48 rfl (i := 0) rfl ?_
    refine rr_getR (b := (m + 5)) dX1_rewrite_49 fg_X1_22 rfl rfl (wX1_l hm) (wX1_s hm) (wX1_r6 hm) ?_
    refine r_iload dX1_rewrite_52 (i := 6) rfl ?_
    obtain ⟨hc16, hT⟩ := hT
    refine rr_iaload (v := I15 (m + 5) (I p1 x5)) dX1_rewrite_54 (wX1_l6 hm) (wX1_a6 hm) (by decide) hc16 rfl ?_
    refine r_aload_n dX1_rewrite_55 rfl (i := 0) rfl ?_
    refine rr_getR (b := (m + 6)) dX1_rewrite_56 fg_X1_26 rfl rfl (wX1_l hm) (wX1_s hm) (wX1_r7 hm) ?_
    refine r_iload dX1_rewrite_59 (i := 6) rfl ?_
    obtain ⟨hc17, hT⟩ := hT
    refine rr_iaload (v := I15 (m + 6) (I p1 x5)) dX1_rewrite_61 (wX1_l7 hm) (wX1_a7 hm) (by decide) hc17 rfl ?_
    refine rr_cVV (a := m) (as := [VI (I15 (m + 5) (I p1 x5)), VI (I15 (m + 6) (I p1 x5))]) (st := []) dX1_rewrite_62 mt_X1_writeFresh ml_X1_137 mi_X1_writeFresh rm_X1_rewrite_X1_writeFresh jz_X1_writeFresh ⟨Nat.zero_le _, Nat.zero_le _⟩ (Nat.le_of_ble_eq_true rfl) (wX1_l hm) (wX1_c hm) (jasI (hI15 _ _).inR (jasI (hI15 _ _).inR jas0)) hT (fun I18 hFI18 hT => ?_)
    replace hFI18 := jFr_tr hFI15 hFI18
    refine jOk_mem (fun hI18 => ?_)
    refine r_aload_n dX1_rewrite_65 rfl (i := 3) rfl ?_
    refine r_aload_n dX1_rewrite_66 rfl (i := 0) rfl ?_
    refine rr_getR (b := (m + 4)) dX1_rewrite_67 fg_X1_18 rfl rfl (wX1_l hm) (wX1_s hm) (wX1_r3 hm) ?_
    refine r_aload_n dX1_rewrite_70 rfl (i := 0) rfl ?_
    refine rr_getI (v := I18 m 4) dX1_rewrite_71 fg_X1_143 rfl (wX1_l hm) (wX1_s hm) rfl ?_
    refine r_aload_n dX1_rewrite_74 rfl (i := 0) rfl ?_
    refine rr_getR (b := (m + 5)) dX1_rewrite_75 fg_X1_22 rfl rfl (wX1_l hm) (wX1_s hm) (wX1_r6 hm) ?_
    refine r_iload dX1_rewrite_78 (i := 6) rfl ?_
    obtain ⟨hc19, hT⟩ := hT
    refine rr_iaload (v := I18 (m + 5) (I p1 x5)) dX1_rewrite_80 (wX1_l6 hm) (wX1_a6 hm) (by decide) hc19 rfl ?_
    refine rr_cVV (a := p3) (as := [VR (m + 4), VI (I18 m 4), VI (I18 (m + 5) (I p1 x5))]) (st := []) dX1_rewrite_81 mt_X4_write ml_X1_225 mi_X4_write rm_X1_rewrite_X4_write jz_X4_write ⟨Nat.zero_le _, Nat.zero_le _⟩ (Nat.le_of_ble_eq_true rfl) (wX4_l hp3) (wX4_c hp3) (jasR (jasI (hI18 _ _).inR (jasI (hI18 _ _).inR jas0))) hT (fun I20 hFI20 hT => ?_)
    replace hFI20 := jFr_tr hFI18 hFI20
    refine jOk_mem (fun hI20 => ?_)
    refine r_aload_n dX1_rewrite_84 rfl (i := 0) rfl ?_
    refine r_iload dX1_rewrite_85 (i := 6) rfl ?_
    refine rr_cVI (a := m) (as := [VI (I p1 x5)]) (st := []) dX1_rewrite_87 mt_X1_endOf ml_X1_228 mi_X1_endOf rm_X1_rewrite_X1_endOf jz_X1_endOf ⟨Nat.zero_le _, Nat.zero_le _⟩ (Nat.le_of_ble_eq_true rfl) (wX1_l hm) (wX1_c hm) (jasI (hI _ _).inR jas0) hT (fun r22 I21 hc23 hFI21 hT => ?_)
    replace hFI21 := jFr_tr hFI20 hFI21
    refine jOk_mem (fun hI21 => ?_)
    refine rr_istore (i := 4) (ls' := [VR m, VR p1, VI x2, VR p3, VI r22, VI x5, VI (I p1 x5)]) dX1_rewrite_90 (Nat.le_of_ble_eq_true rfl) rfl rfl hc23 ?_
    refine r_aload_n dX1_rewrite_92 rfl (i := 3) rfl ?_
    refine r_aload_n dX1_rewrite_93 rfl (i := 0) rfl ?_
    obtain ⟨b24, hc25, hc26, hT⟩ := hT
    refine rr_getM (b := b24) dX1_rewrite_94 fg_X1_56 rfl rfl (wX1_l hm) (wX1_s hm) hc25 ?_
    refine r_iload dX1_rewrite_97 (i := 4) rfl ?_
    refine r_aload_n dX1_rewrite_99 rfl (i := 0) rfl ?_
    refine r_iload dX1_rewrite_100 (i := 6) rfl ?_
    refine rr_cVI (a := m) (as := [VI (I p1 x5)]) (st := [VI r22, VR b24, VR p3]) dX1_rewrite_102 mt_X1_growth ml_X1_212 mi_X1_growth rm_X1_rewrite_X1_growth jz_X1_growth ⟨Nat.zero_le _, Nat.zero_le _⟩ (Nat.le_of_ble_eq_true rfl) (wX1_l hm) (wX1_c hm) (jasI (hI _ _).inR jas0) hT (fun r28 I27 hc29 hFI27 hT => ?_)
    replace hFI27 := jFr_tr hFI21 hFI27
    refine jOk_mem (fun hI27 => ?_)
    refine rr_cVV (a := p3) (as := [VR b24, VI r22, VI r28]) (st := []) dX1_rewrite_105 mt_X4_shiftSpans ml_X1_231 mi_X4_shiftSpans rm_X1_rewrite_X4_shiftSpans jz_X4_shiftSpans ⟨Nat.zero_le _, Nat.zero_le _⟩ (Nat.le_of_ble_eq_true rfl) (wX4_l hp3) (wX4_c hp3) (jasR (jasI hc23 (jasI hc29 jas0))) hT (fun I30 hFI30 hT => ?_)
    replace hFI30 := jFr_tr hFI27 hFI30
    refine jOk_mem (fun hI30 => ?_)
    obtain ⟨hc31, hT⟩ := hT
    refine rr_iinc (i := 5) (ls' := [VR m, VR p1, VI x2, VR p3, VI r22, VI (x5 + 1), VI (I p1 x5)]) dX1_rewrite_108 rfl (Nat.le_of_ble_eq_true rfl) rfl rfl hc31 ?_
    refine r_goto (tgt := 19) dX1_rewrite_111 rfl ?_
    exact jOk_le (ls' := [VR m, VR p1, VI x2, VR p3, VI r22, VI (x5 + 1), VN]) ⟨Or.inr rfl, Or.inr rfl, Or.inr rfl, Or.inr rfl, Or.inr rfl, Or.inr rfl, Or.inl rfl, trivial⟩ (hT I0 hFI30)
set_option maxRecDepth 20000 in
theorem st_X1_rewrite_0 {E : jE} {G : jG} {I : jM} {q : jM → Prop} {m : Nat} {p1 np1 : Nat} {x2 : Int} {p3 : Nat} (hm : WX1 G m) (lp1 : p1 < G.2.2) (sp1 : G.2.1 p1 = (100, np1)) (bp1 : (np1 : Int) ≤ 2147483647) (hp3 : WX4 G p3) (hT : (∀ a j, jRg (G.2.1 a).1 (I a j)) → jIn x2 → (∀ M1, M1 = jup I p3 2 0 → (∃ b2 : Nat, M1 m 0 = (b2 : Int) ∧ WX4 G b2 ∧ jRV E jB kX4_copySpans [VR p3, VR b2] G M1 (fun I5 => jOV E jB kX1_rewrite 19 [VR m, VR p1, VI x2, VR p3, VI 0, VI 0, VN] G I5 q)))) : jOV E jB kX1_rewrite 0 [VR m, VR p1, VI x2, VR p3, VN, VN, VN] G I q := by
  intro I0 hF
  refine jOk_mem (fun hI => ?_)
  refine jOk_in (i := 2) rfl (fun hx2 => ?_)
  replace hT := hT hI hx2
  refine r_aload_n dX1_rewrite_0 rfl (i := 3) rfl ?_
  refine r_iconst (n := 0) dX1_rewrite_1 ?_
  refine rr_putI (jj := 2) dX1_rewrite_2 fp_X1_209 rfl rfl (wX4_l hp3) (wX4_s hp3) ⟨by decide, by decide⟩ (fun M1 eM1 => ?_)
  have hFM1 := jFr_up hF eM1 (wX4_f hp3 0 (by decide))
  replace hT := hT M1 eM1
  refine jOk_mem (fun hIM1 => ?_)
  refine r_aload_n dX1_rewrite_5 rfl (i := 3) rfl ?_
  refine r_aload_n dX1_rewrite_6 rfl (i := 0) rfl ?_
  obtain ⟨b2, hc3, hc4, hT⟩ := hT
  refine rr_getM (b := b2) dX1_rewrite_7 fg_X1_56 rfl rfl (wX1_l hm) (wX1_s hm) hc3 ?_
  refine rr_cVV (a := p3) (as := [VR b2]) (st := []) dX1_rewrite_10 mt_X4_copySpans ml_X1_215 mi_X4_copySpans rm_X1_rewrite_X4_copySpans jz_X4_copySpans ⟨Nat.zero_le _, Nat.zero_le _⟩ (Nat.le_of_ble_eq_true rfl) (wX4_l hp3) (wX4_c hp3) (jasR jas0) hT (fun I5 hFI5 hT => ?_)
  replace hFI5 := jFr_tr hFM1 hFI5
  refine jOk_mem (fun hI5 => ?_)
  refine r_iconst (n := 0) dX1_rewrite_13 ?_
  refine rr_istore (i := 4) (ls' := [VR m, VR p1, VI x2, VR p3, VI 0, VN, VN]) dX1_rewrite_14 (Nat.le_of_ble_eq_true rfl) rfl rfl ⟨by decide, by decide⟩ ?_
  refine r_iconst (n := 0) dX1_rewrite_16 ?_
  refine rr_istore (i := 5) (ls' := [VR m, VR p1, VI x2, VR p3, VI 0, VI 0, VN]) dX1_rewrite_17 (Nat.le_of_ble_eq_true rfl) rfl rfl ⟨by decide, by decide⟩ ?_
  exact hT I0 hFI5
theorem en_X1_rewrite {E : jE} {G : jG} {I : jM} {q : jM → Prop} {m : Nat} {p1 np1 : Nat} {x2 : Int} {p3 : Nat} (hm : WX1 G m) (lp1 : p1 < G.2.2) (sp1 : G.2.1 p1 = (100, np1)) (bp1 : (np1 : Int) ≤ 2147483647) (hp3 : WX4 G p3) (hT : (∀ a j, jRg (G.2.1 a).1 (I a j)) → jIn x2 → (∀ M1, M1 = jup I p3 2 0 → (∃ b2 : Nat, M1 m 0 = (b2 : Int) ∧ WX4 G b2 ∧ jRV E jB kX4_copySpans [VR p3, VR b2] G M1 (fun I5 => jOV E jB kX1_rewrite 19 [VR m, VR p1, VI x2, VR p3, VI 0, VI 0, VN] G I5 q)))) : jRV E jB kX1_rewrite [VR m, VR p1, VI x2, VR p3] G I q := jRun.of mt_X1_rewrite.2.2.2 3 rfl (fun _ => st_X1_rewrite_0 hm lp1 sp1 bp1 hp3 hT I (fun _ _ => rfl))
theorem sumG_cons {X : Int → Int} {f : Int} {R : List Int} : sumG X (f :: R) = grow X f + sumG X R := by unfold sumG; rw [List.map_cons, List.sum_cons]
theorem sumG_app {X : Int → Int} {P R : List Int} : sumG X (P ++ R) = sumG X P + sumG X R := by unfold sumG; rw [List.map_append, List.sum_append]
theorem sumG_abs {X : Int → Int} (hQ : QW X) : ∀ L : List Int, (∀ f ∈ L, 0 ≤ f ∧ f < NF X) → -(200 * (L.length : Int)) ≤ sumG X L ∧ sumG X L ≤ 1500 * (L.length : Int) := by
  intro L
  induction L with
  | nil => intro _; exact ⟨Int.le_refl 0, Int.le_refl 0⟩
  | cons f R ih =>
    intro h
    have i := ih (fun g hg => h g (List.mem_cons_of_mem _ hg))
    have b := h f List.mem_cons_self
    have g := (f_bd hQ (FLok hQ) b.1 b.2).2.2.2.2.2.2.2.2
    rw [sumG_cons, List.length_cons]
    omega
theorem take_succ_gd {L : List Int} {i : Nat} (h : i < L.length) : L.take (i + 1) = L.take i ++ [L.getD i 0] := by
  rw [List.take_add_one, List.getElem?_eq_getElem h, List.getD_eq_getElem?_getD, List.getElem?_eq_getElem h]
  rfl
theorem drop_gd0 {L : List Int} {k : Nat} (h : k < L.length) : L.drop k = L.getD k 0 :: L.drop (k + 1) := by
  rw [List.drop_eq_getElem_cons h, List.getD_eq_getElem?_getD, List.getElem?_eq_getElem h]
  rfl
section CN
variable {E : jE} {G : jG} {φ p ρ τ : Nat} {I : jM} {X : Int → Int}
theorem cl_beginOf (h : LK G φ p ρ X I) (hQ : QW X) {f : Int} (f0 : 0 ≤ f) (f1 : f < NF X) : jRI E jB kX1_beginOf [VR φ, VI f] G I (fun x I' => x = fB X f ∧ I' = I) := by
  have hN := NF_le hQ
  have b := fA_bd hQ f0 f1
  have e := h.2.1.1.2.1 f f0 f1
  have et : I (φ + 2) (fT X f) = bT X (fT X f) := h.1.2.2.2.2.2.1 _ (by omega) (by omega)
  refine en_X1_beginOf h.1.1.1.1 (fun _ _ => ⟨⟨by omega, by omega⟩, ?_⟩)
  rw [e.2.1]
  exact ⟨⟨by omega, by omega⟩, et, rfl⟩
theorem cl_endOf (h : LK G φ p ρ X I) (hQ : QW X) {f : Int} (f0 : 0 ≤ f) (f1 : f < NF X) : jRI E jB kX1_endOf [VR φ, VI f] G I (fun x I' => x = fE X f ∧ I' = I) := by
  have hN := NF_le hQ
  have b := fA_bd hQ f0 f1
  have e := h.2.1.1.2.1 f f0 f1
  have et : I (φ + 2) (fA X f) = bT X (fA X f) := h.1.2.2.2.2.2.1 _ (by omega) (by omega)
  refine en_X1_endOf h.1.1.1.1 (fun _ _ => ⟨⟨by omega, by omega⟩, ?_⟩)
  rw [e.2.2.1]
  exact ⟨⟨by omega, by omega⟩, et, rfl⟩
theorem cl_growth (h : LK G φ p ρ X I) (hQ : QW X) {f : Int} (f0 : 0 ≤ f) (f1 : f < NF X) : jRI E jB kX1_growth [VR φ, VI f] G I (fun x I' => x = grow X f ∧ I' = I) := by
  have hN := NF_le hQ
  have b := fA_bd hQ f0 f1
  have e := h.2.1.1.2.1 f f0 f1
  have et : I (φ + 2) (fT X f) = fB X f := h.1.2.2.2.2.2.1 _ (by omega) (by omega)
  have ea : I (φ + 2) (fA X f) = fE X f := h.1.2.2.2.2.2.1 _ (by omega) (by omega)
  have g := f_bd hQ (FLok hQ) f0 f1
  have h2 := hQ.1
  refine en_X1_growth h.1.1.1.1 (fun _ _ => ⟨⟨by omega, by omega⟩, ⟨by omega, by omega⟩, ?_⟩)
  rw [e.2.1, e.2.2.1, e.2.2.2.1, et, ea]
  exact ⟨⟨by omega, by omega⟩, ⟨by omega, by omega⟩, ⟨by omega, by omega⟩, ⟨by omega, by omega⟩, rfl, rfl⟩
theorem cl_lengthBehind (h : LK G φ p ρ X I) (hQ : QW X) {s ns : Nat} (ls : s < G.2.2) (ss : G.2.1 s = (100, ns)) (bs : (ns : Int) ≤ 2147483647) {L : List Int} (hL : ∀ i : Nat, i < L.length → I s i = L.getD i 0) (hn : L.length ≤ ns) (hl : L.length ≤ 200) (hb : ∀ f ∈ L, 0 ≤ f ∧ f < NF X) : jRI E jB kX1_lengthBehind [VR φ, VR s, VI (L.length : Int)] G I (fun x I' => x = X 2 + sumG X L ∧ I' = I) := by
  have h2 := hQ.1
  have loop : ∀ (d i : Nat) (acc : Int), i + d = L.length → acc + sumG X (L.drop i) = X 2 + sumG X L → (-(200 * (i : Int)) ≤ acc ∧ acc ≤ 200 + 1500 * i) → jOI E jB kX1_lengthBehind 11 [VR φ, VR s, VI (L.length : Int), VI acc, VI i] G I (fun x I' => x = X 2 + sumG X L ∧ I' = I) := by
    intro d
    induction d with
    | zero =>
      intro i acc hi ha hb'
      have e0 : sumG X (L.drop i) = 0 := by rw [List.drop_eq_nil_of_le (by omega)]; rfl
      refine st_X1_lengthBehind_11 h.1.1.1.1 ls ss bs (fun _ _ _ _ => ⟨fun _ => ⟨by omega, rfl⟩, fun q => absurd (by omega) q⟩)
    | succ d ih =>
      intro i acc hi ha hb'
      have hm : L.getD i 0 ∈ L := gd_mem (by omega)
      have bf := hb _ hm
      have g := (f_bd hQ (FLok hQ) bf.1 bf.2).2.2.2.2.2.2.2.2
      rw [drop_gd0 (by omega), sumG_cons] at ha
      refine st_X1_lengthBehind_11 h.1.1.1.1 ls ss bs (fun _ _ _ _ => ⟨fun q => absurd q (by omega), fun _ => ⟨⟨by omega, by omega⟩, ?_⟩⟩)
      rw [hL i (by omega)]
      refine (cl_growth h hQ bf.1 bf.2).mono (fun y I2 _ _ gy => ?_)
      obtain ⟨rfl, rfl⟩ := gy
      have e2 : (i : Int) + 1 = ((i + 1 : Nat) : Int) := by omega
      rw [e2]
      exact ⟨⟨by omega, by omega⟩, ⟨by omega, by omega⟩, ih (i + 1) _ (by omega) (by omega) (by omega)⟩
  refine en_X1_lengthBehind h.1.1.1.1 ls ss bs (fun _ _ => ⟨p, h.1.2.1.1, h.1.1.1.2.1, ?_⟩)
  rw [h.1.2.2.1.1.1.1]
  exact loop L.length 0 (X 2) (by omega) (by rw [List.drop_zero]) (by omega)
theorem setL_bd (hQ : QW X) : (∀ f ∈ setL X, 0 ≤ f ∧ f < NF X) ∧ (setL X).length ≤ 20 := by
  refine ⟨(setL_Ch hQ (FLok hQ)).all (by omega), ?_⟩
  have := (wS_sum hQ (FLok hQ)).2.2
  omega
theorem cl_canBeMade (h : LK G φ p ρ X I) (hQ : QW X) : jRI E jB kX1_canBeMade [VR φ] G I (fun x I' => x = jI (canR X) ∧ I' = I) := by
  have hm := h.1.1.1.1
  have b := setL_bd hQ
  have e := h.2.2.1
  refine en_X1_canBeMade hm (fun _ => ?_)
  rw [e]
  refine ⟨fun q => ⟨(jI_neg (fun g => g.1 (List.length_eq_zero_iff.mp (by omega)))).symm, rfl⟩, fun q => ?_⟩
  refine (cl_lengthBehind h hQ (wX1_l14 hm) (wX1_a14 hm) (by decide) h.2.2.2 (by omega) (by omega) b.1).mono (fun y I1 _ _ gy => ?_)
  obtain ⟨rfl, rfl⟩ := gy
  refine ⟨fun q2 => ⟨(jI_neg (fun g => by have := g.2; omega)).symm, rfl⟩, fun q2 => ⟨(jI_pos ⟨fun g => by rw [g] at q; simp at q, by omega⟩).symm, rfl⟩⟩
def WR (φ τ : Nat) (I I' : jM) : Prop := ∀ a j, ¬ (τ ≤ a ∧ a < τ + 5) → a ≠ φ + 4 → (a ≠ φ ∨ j ≠ 4) → I' a j = I a j
theorem WR.trans {I I' I'' : jM} (h : WR φ τ I I') (h' : WR φ τ I' I'') : WR φ τ I I'' := fun a j h1 h2 h3 => (h' a j h1 h2 h3).trans (h a j h1 h2 h3)
theorem WR.rfl {I : jM} : WR φ τ I I := fun _ _ _ _ _ => Eq.refl _
theorem WF.wr {I I' : jM} (h : WF φ I I') : WR φ τ I I' := fun a j _ h2 h3 => h a j h2 h3
theorem Fr.wr {I I' : jM} (h : Fr τ (τ + 5) I I') : WR φ τ I I' := fun a j h1 _ _ => h a j (by omega)
theorem LK.wr {I' : jM} (h : LK G φ p ρ X I) (e : WR φ τ I I') (h1 : φ + 14 ≤ τ ∨ τ + 5 ≤ φ) (h2 : p + 5 ≤ τ ∨ τ + 5 ≤ p) (h3 : ρ + 13 ≤ τ ∨ τ + 5 ≤ ρ) : LK G φ p ρ X I' := by
  have hd := h.1.1
  exact h.fr (fun a j q => e a j (by omega) (by omega) (by omega))
/-- the spans' places, i findings of L having been made -/
def SPi (τ : Nat) (X : Int → Int) (L : List Int) (i : Nat) (I : jM) : Prop := I τ 5 = X 3 ∧ ∀ k, 0 ≤ k → k < X 3 → I (τ + 3) k = X (410 + 2 * k) + sumG X ((L.take i).filter (fun f => decide (fE X f ≤ X (410 + 2 * k)))) ∧ I (τ + 4) k = X (410 + 2 * k + 1) + sumG X ((L.take i).filter (fun f => decide (fE X f ≤ X (410 + 2 * k))))
theorem cl_rewrite (h : LK G φ p ρ X I) (hQ : QW X) (hτ : WX4 G τ) (h1 : φ + 14 ≤ τ ∨ τ + 5 ≤ φ) (h2 : p + 5 ≤ τ ∨ τ + 5 ≤ p) (h3 : ρ + 13 ≤ τ ∨ τ + 5 ≤ ρ) {s ns : Nat} (ls : s < G.2.2) (ss : G.2.1 s = (100, ns)) (bs : (ns : Int) ≤ 2147483647) (hsd : (s < τ ∨ τ + 5 ≤ s) ∧ s ≠ φ ∧ s ≠ φ + 4) {L : List Int} (hL : ∀ i : Nat, i < L.length → I s i = L.getD i 0) (hn : L.length ≤ ns) (hl : L.length ≤ 200) (hC : Ch X 0 0 L) (hnew : (newL X L 0).length ≤ 200) (hsp : ∀ j, 410 ≤ j → j < 426 → -900000000 ≤ X j ∧ X j ≤ 900000000) : jRV E jB kX1_rewrite [VR φ, VR s, VI (L.length : Int), VR τ] G I (fun I' => PG τ (mkS X L) I' ∧ WR φ τ I I') := by
  have hm := h.1.1.1.1
  have hp := h.1.1.1.2.1
  have hb := hC.all (by omega)
  have hX2 := hQ.1
  have hX3 := hQ.2.2.1
  have hfb : ∀ (i : Nat) (P : Int → Bool), -(200 * (L.length : Int)) ≤ sumG X ((L.take i).filter P) ∧ sumG X ((L.take i).filter P) ≤ 1500 * (L.length : Int) := fun i P => by
    have a := sumG_abs hQ ((L.take i).filter P) (fun f hf => hb f (List.mem_of_mem_take (List.mem_filter.mp hf).1))
    have b : ((L.take i).filter P).length ≤ L.length := Nat.le_trans (List.length_filter_le _ _) (by rw [List.length_take]; omega)
    omega
  have loop : ∀ (d i : Nat) (lo dn : Int) (P : List (Int × Int)) (I1 : jM), i + d = L.length → 0 ≤ lo → 0 ≤ dn → Ch X lo dn (L.drop i) → P ++ newL X (L.drop i) dn = newL X L 0 → PT τ I1 P → SPi τ X L i I1 → WR φ τ I I1 → jOV E jB kX1_rewrite 19 [VR φ, VR s, VI (L.length : Int), VR τ, VI dn, VI i, VN] G I1 (fun I' => PG τ (mkS X L) I' ∧ WR φ τ I I') := by
    intro d
    induction d with
    | zero =>
      intro i lo dn P I1 hi lo0 dn0 hCh hP hPT hSP hW
      have hL1 := h.wr hW h1 h2 h3
      rw [List.drop_eq_nil_of_le (by omega)] at hP hCh
      have hdn : dn ≤ X 2 := hCh
      have hP' : P ++ cells X dn (X 2) = newL X L 0 := hP
      have hlen : (P.length : Int) + (X 2 - dn) ≤ 200 := by
        have e := congrArg List.length hP'
        rw [List.length_append, cells_len] at e
        omega
      refine st_X1_rewrite_19 hm ls ss bs hτ (fun _ _ _ _ => ⟨fun _ => ⟨p, hL1.1.2.1.1, hp, p, hL1.1.2.1.1, hp, ?_⟩, fun q => absurd (by omega) q⟩)
      rw [hL1.1.2.2.1.1.1.1]
      refine (cl_carry hτ hp (by omega) hPT hL1.1.2.2.1.1 dn0 hdn (Int.le_refl _) hlen).mono (fun I7 _ g => ⟨⟨?_, ?_⟩, hW.trans g.2.f.wr⟩)
      · rw [hP'] at g
        have e2 := g.1.1
        refine ⟨⟨by rw [e2, mkS_2], by rw [mkS_2]; omega⟩, fun k k0 k1 => ?_⟩
        rw [mkS_2] at k1
        rw [mkS_t (by omega), mkS_p (by omega)]
        have := g.1.2 k.toNat (by omega)
        rw [show ((k.toNat : Nat) : Int) = k by omega] at this
        exact this
      · have e3 : mkS X L 3 = X 3 := mkS_o (by omega) (by omega) (by omega)
        have w : ∀ a j, (a = τ + 3 ∨ a = τ + 4 ∨ (a = τ ∧ j = 5)) → I7 a j = I1 a j := fun a j q => g.2 a j (by omega) (by omega) (by omega)
        refine ⟨⟨by rw [e3, w _ _ (by omega)]; exact hSP.1, by rw [e3]; exact hX3⟩, fun k k0 k1 => ?_⟩
        rw [e3] at k1
        have sp := hSP.2 k k0 k1
        rw [List.take_of_length_le (by omega)] at sp
        rw [w _ _ (by omega), w _ _ (by omega), sp.1, sp.2, mkS_s0 ⟨k0, k1⟩, mkS_s1 ⟨k0, k1⟩]
        unfold alng
        exact ⟨rfl, by omega⟩
    | succ d ih =>
      intro i lo dn P I1 hi lo0 dn0 hCh hP hPT hSP hW
      have hL1 := h.wr hW h1 h2 h3
      have eL : I1 s i = L.getD i 0 := by rw [hW _ _ (by omega) hsd.2.2 (Or.inl hsd.2.1)]; exact hL i (by omega)
      rw [drop_gd0 (by omega)] at hP hCh
      have hfm : L.getD i 0 ∈ L := gd_mem (by omega)
      have etk := take_succ_gd (L := L) (i := i) (by omega)
      generalize hf : L.getD i 0 = f at *
      obtain ⟨c1, c2, c3, c4⟩ := hCh
      have f0 : 0 ≤ f := by omega
      have bf := f_bd hQ (FLok hQ) f0 c2
      have ba := fA_bd hQ f0 c2
      have hP' : P ++ (cells X dn (fB X f) ++ ((fO X f).map (fun c => (c, fR X f + 1)) ++ newL X (L.drop (i + 1)) (fE X f))) = newL X L 0 := hP
      have hlen : P.length + (fB X f - dn).toNat + (fO X f).length ≤ 200 := by
        have e := congrArg List.length hP'
        rw [List.length_append, List.length_append, List.length_append, cells_len, List.length_map] at e
        omega
      have hN := NF_le hQ
      refine st_X1_rewrite_19 hm ls ss bs hτ (fun _ _ _ _ => ⟨fun q => absurd q (by omega), fun _ => ⟨⟨by omega, by omega⟩, p, hL1.1.2.1.1, hp, ?_⟩⟩)
      rw [eL]
      refine (cl_beginOf hL1 hQ f0 c2).mono (fun y I12 _ _ gy => ?_)
      obtain ⟨rfl, rfl⟩ := gy
      refine (cl_carry hτ hp (by omega) hPT hL1.1.2.2.1.1 dn0 c3 (by omega) (by omega)).mono (fun I15 _ g15 => ⟨⟨by omega, by omega⟩, ⟨by omega, by omega⟩, ?_⟩)
      have hW15 : WR φ τ I I15 := hW.trans g15.2.f.wr
      have hL15 := h.wr hW15 h1 h2 h3
      have e15 := hL15.2.1.1.2.1 f f0 c2
      rw [e15.1, e15.2.1]
      have hisF := fa_isF (FLok hQ) f0 c2
      have hFit : Fit X (nT X) (bT X) (fR X f) (fT X f) := hisF.2.2.2.2.2.1
      have hr : 0 ≤ fR X f ∧ fR X f < X 4 := ⟨hisF.1, hisF.2.1⟩
      refine (cl_writeFresh hL15.1 hQ hr ba.1.1 hFit).mono (fun I18 _ g18 => ⟨⟨by omega, by omega⟩, ?_⟩)
      have hW18 : WR φ τ I I18 := hW15.trans g18.2.wr
      have hL18 := h.wr hW18 h1 h2 h3
      have e18 := (hL18.2.1.1.2.1 f f0 c2).1
      have hFO : FO φ I18 (fO X f) := g18.1
      rw [e18, hFO.1]
      have hPT18 : PT τ I18 (P ++ cells X dn (fB X f)) := g15.1.fr (fun a j q => g18.2 a j (by omega) (by omega))
      refine (cl_write hτ (wX1_l3 hm) (wX1_a3 hm) (by decide) (by omega) hPT18 hFO.2 (by omega) (by rw [List.length_append, cells_len]; omega) (w := fR X f) (by omega)).mono (fun I20 _ g20 => ?_)
      have hW20 : WR φ τ I I20 := hW18.trans g20.2.f.wr
      have hL20 := h.wr hW20 h1 h2 h3
      refine (cl_endOf hL20 hQ f0 c2).mono (fun y I21 _ _ gy => ?_)
      obtain ⟨rfl, rfl⟩ := gy
      refine ⟨p, hL20.1.2.1.1, hp, (cl_growth hL20 hQ f0 c2).mono (fun y I27 _ _ gy => ?_)⟩
      obtain ⟨rfl, rfl⟩ := gy
      -- the spans as they were
      have w27 : ∀ a j, (a = τ + 3 ∨ a = τ + 4 ∨ (a = τ ∧ j = 5)) → I27 a j = I12 a j := fun a j q => by
        rw [g20.2 a j (by omega) (by omega) (by omega), g18.2 a j (by omega) (by omega), g15.2 a j (by omega) (by omega) (by omega)]
      refine (cl_shiftSpans hτ hp (by omega) hL20.1.2.2.1.2 (by rw [w27 _ _ (by omega)]; exact hSP.1) (fun k k0 k1 => ?_)).mono (fun I30 _ g30 => ⟨⟨by omega, by omega⟩, ?_⟩)
      · have sp := hSP.2 k k0 k1
        rw [w27 _ _ (by omega), w27 _ _ (by omega), sp.1, sp.2]
        have b1 := hsp (410 + 2 * k) (by omega) (by omega)
        have b2 := hsp (410 + 2 * k + 1) (by omega) (by omega)
        have b3 := hfb i (fun f => decide (fE X f ≤ X (410 + 2 * k)))
        have b4 := bf.2.2.2.2.2.2.2.2
        exact ⟨⟨by omega, by omega⟩, ⟨by omega, by omega⟩⟩
      · have e2 : (i : Int) + 1 = ((i + 1 : Nat) : Int) := by omega
        rw [e2]
        refine ih (i + 1) (f + 1) (fE X f) (P ++ cells X dn (fB X f) ++ (fO X f).map (fun c => (c, fR X f + 1))) I30 (by omega) (by omega) (by omega) c4 ?_ ?_ ⟨?_, fun k k0 k1 => ?_⟩ (hW20.trans (fun a j a1 a2 a3 => g30.2 a j (by omega) (by omega)))
        · rw [← hP', List.append_assoc, List.append_assoc]
        · exact g20.1.fr (fun a j q => g30.2 a j (by omega) (by omega))
        · rw [g30.2 _ _ (by omega) (by omega), w27 _ _ (by omega)]
          exact hSP.1
        · have sp := hSP.2 k k0 k1
          have g := g30.1 k k0 k1
          rw [w27 _ _ (by omega), w27 _ _ (by omega)] at g
          rw [g.1, g.2, sp.1, sp.2, etk, List.filter_append, sumG_app]
          by_cases q : fE X f ≤ X (410 + 2 * k)
          · have e : List.filter (fun f => decide (fE X f ≤ X (410 + 2 * k))) [f] = [f] := by simp [q]
            have e' : sumG X [f] = grow X f := by rw [sumG_cons]; show grow X f + 0 = _; omega
            rw [if_pos q, e, e']
            exact ⟨by omega, by omega⟩
          · have e : List.filter (fun f => decide (fE X f ≤ X (410 + 2 * k))) [f] = [] := by simp [q]
            have e' : sumG X ([] : List Int) = 0 := rfl
            rw [if_neg q, e, e']
            exact ⟨by omega, by omega⟩
  refine en_X1_rewrite hm ls ss bs hτ (fun _ _ M1 e1 => ⟨p, by rw [jr_na e1 (by omega)]; exact h.1.2.1.1, hp, ?_⟩)
  have f1 : Fr τ (τ + 5) I M1 := Fr.up e1 (by omega)
  have hS1 : PS p X M1 := h.1.2.2.1.2.fr (fun a j q => f1 a j (by omega))
  refine (cl_copySpans hτ hp (by omega) hS1).mono (fun I5 _ g5 => ?_)
  refine loop L.length 0 0 0 [] I5 (by omega) (by omega) (by omega) (by rw [List.drop_zero]; exact hC) (by rw [List.drop_zero]; rfl) ⟨?_, fun i hi => absurd hi (Nat.not_lt_zero i)⟩ ⟨g5.1.1.1, fun k k0 k1 => ?_⟩ (f1.wr.trans g5.2.f.wr)
  · rw [g5.2 _ _ (by omega) (by omega) (by omega), jr_eq e1]
    rfl
  · have := g5.1.2 k k0 k1
    rw [this.1, this.2]
    have e' : sumG X (List.filter (fun f => decide (fE X f ≤ X (410 + 2 * k))) (List.take 0 L)) = 0 := rfl
    rw [e']
    exact ⟨by omega, by omega⟩
end CN
