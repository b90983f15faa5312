set_option maxRecDepth 20000 in
theorem st_X10_token_0 {E : jE} {G : jG} {I : jM} {q : Int → jM → Prop} {m : Nat} {x1 : Int} {x2 : Int} (hm : WX10 G m) (hT : (∀ a j, jRg (G.2.1 a).1 (I a j)) → jIn x1 → jIn x2 → jRV E (jA m) kX10_layTokens [VR m] G I (fun I1 => jIn ((I1 m 4) - 1) ∧ (((0 ≤ x1 ∧ x1 ≤ ((I1 m 4) - 1)) → (((x2 < 0 ∨ 2 < x2) → q (-1) I1) ∧ (x2 = 0 → ((0 : Int) ≤ x1 ∧ (x1 : Int) < 200) ∧ (0 ≤ 10 + (I1 (m + 3) x1) ∧ 10 + (I1 (m + 3) x1) < 22094) ∧ jRI E (jA m) kX10_toldSort [VI (srt (I1 (m + 1) (10 + (I1 (m + 3) x1))))] G I1 (fun r9 I8 => q r9 I8)) ∧ (x2 = 1 → ((0 : Int) ≤ x1 ∧ (x1 : Int) < 200) ∧ q (I1 (m + 3) x1) I1) ∧ (x2 = 2 → ((0 : Int) ≤ x1 ∧ (x1 : Int) < 200) ∧ q (I1 (m + 4) x1) I1))) ∧ (¬ (0 ≤ x1 ∧ x1 ≤ ((I1 m 4) - 1)) → q (-1) I1)))) : jOI E (jA m) kX10_token 0 [VR m, VI x1, VI x2] G I q := by
  intro I0 hF
  refine jOk_mem (fun hI => ?_)
  refine jOk_in (i := 1) rfl (fun hx1 => ?_)
  refine jOk_in (i := 2) rfl (fun hx2 => ?_)
  replace hT := hT hI hx1 hx2
  refine r_aload_n dX10_token_0 rfl (i := 0) rfl ?_
  refine rr_cVV (a := m) (as := []) (st := []) dX10_token_1 mt_X10_layTokens ml_X10_184 mi_X10_layTokens rm_X10_token_X10_layTokens jz_X10_layTokens ⟨Nat.zero_le _, Nat.zero_le _⟩ (Nat.le_of_ble_eq_true rfl) (wX10_l hm) (wX10_c hm) jas0 hT (fun I1 hFI1 hT => ?_)
  replace hFI1 := jFr_tr hF hFI1
  refine jOk_mem (fun hI1 => ?_)
  refine r_iload_n dX10_token_4 rfl (i := 1) rfl ?_
  refine r_iconst (n := 0) dX10_token_5 ?_
  refine r_aload_n dX10_token_6 rfl (i := 0) rfl ?_
  refine rr_getI (v := I1 m 4) dX10_token_7 fg_X10_117 rfl (wX10_l hm) (wX10_s hm) rfl ?_
  refine r_iconst (n := 1) dX10_token_10 ?_
  refine r_isub dX10_token_11 ?_
  obtain ⟨hc2, hT⟩ := hT
  refine rr_pSI (A := (jA m)) (v := jI (0 ≤ x1 ∧ x1 ≤ ((I1 m 4) - 1))) (as := [VI x1, VI 0, VI ((I1 m 4) - 1)]) (st := []) dX10_token_12 mt_X10_isIn ml_X10_103 ms_X10_isIn rm_X10_token_X10_isIn jz_X10_isIn ⟨Nat.zero_le _, Nat.zero_le _⟩ (Nat.le_of_ble_eq_true rfl) (jasI hx1 (jasI ⟨by decide, by decide⟩ (jasI hc2 jas0))) sp_X10_isIn (fun hc3 => ?_)
  refine r_if_ne (tgt := 20) dX10_token_15 rfl hc3 (fun hcc => ?_) (fun hcc => ?_)
  · replace hT := hT.1 (jI_p hcc)
    refine r_iload_n dX10_token_20 rfl (i := 2) rfl ?_
    by_cases hcc : x2 < 0 ∨ 2 < x2
    · replace hT := hT.1 hcc
      refine r_tswOut (tgt := 79) dX10_token_21 hx2 hcc rfl ?_
      refine r_iconst (n := (-1)) dX10_token_79 ?_
      exact r_iret dX10_token_80 rfl ⟨by decide, by decide⟩ ⟨Nat.zero_le _, Nat.zero_le _⟩ ⟨_, rfl, rfl, hFI1, hT⟩
    · replace hT := hT.2
      have hc2 : x2 = 0 ∨ x2 = 1 ∨ x2 = 2 := by omega
      rcases hc2 with hc2 | hc2 | hc2
      · replace hT := hT.1 hc2
        refine r_tswIn (tgt := 48) (off := 27) dX10_token_21 hx2 (by omega) (by omega) (by rw [hc2]; rfl) rfl ?_
        refine r_aload_n dX10_token_48 rfl (i := 0) rfl ?_
        refine r_aload_n dX10_token_49 rfl (i := 0) rfl ?_
        refine rr_getR (b := (m + 3)) dX10_token_50 fg_X10_16 rfl rfl (wX10_l hm) (wX10_s hm) (wX10_r2 hm) ?_
        refine r_iload_n dX10_token_53 rfl (i := 1) rfl ?_
        obtain ⟨hc4, hT⟩ := hT
        refine rr_iaload (v := I1 (m + 3) x1) dX10_token_54 (wX10_l2 hm) (wX10_a2 hm) (by decide) hc4 rfl ?_
        obtain ⟨hc6, hT⟩ := hT
        refine rr_pVI (A := (jA m)) (v := I1 (m + 1) (10 + (I1 (m + 3) x1))) (a := m) (as := [VI (I1 (m + 3) x1)]) (st := []) dX10_token_55 mt_X10_byteAt ml_X10_120 mi_X10_byteAt rm_X10_token_X10_byteAt jz_X10_byteAt ⟨Nat.zero_le _, Nat.zero_le _⟩ (Nat.le_of_ble_eq_true rfl) (wX10_l hm) (wX10_c hm) (jasI (hI1 _ _).inR jas0) ((sp_X10_byteAt hm) hc6) (fun hc5 => ?_)
        refine rr_pSI (A := (jA m)) (v := srt (I1 (m + 1) (10 + (I1 (m + 3) x1)))) (as := [VI (I1 (m + 1) (10 + (I1 (m + 3) x1)))]) (st := []) dX10_token_58 mt_X10_sortOf ml_X10_124 ms_X10_sortOf rm_X10_token_X10_sortOf jz_X10_sortOf ⟨Nat.zero_le _, Nat.zero_le _⟩ (Nat.le_of_ble_eq_true rfl) (jasI hc5 jas0) sp_X10_sortOf (fun hc7 => ?_)
        refine rr_cSI (as := [VI (srt (I1 (m + 1) (10 + (I1 (m + 3) x1))))]) (st := []) dX10_token_61 mt_X10_toldSort ml_X10_351 ms_X10_toldSort rm_X10_token_X10_toldSort jz_X10_toldSort ⟨Nat.zero_le _, Nat.zero_le _⟩ (Nat.le_of_ble_eq_true rfl) (jasI hc7 jas0) hT (fun r9 I8 hc10 hFI8 hT => ?_)
        replace hFI8 := jFr_tr hFI1 hFI8
        refine jOk_mem (fun hI8 => ?_)
        exact r_iret dX10_token_64 rfl hc10 ⟨Nat.zero_le _, Nat.zero_le _⟩ ⟨_, rfl, rfl, hFI8, hT⟩
      · replace hT := hT.2.1 hc2
        refine r_tswIn (tgt := 65) (off := 44) dX10_token_21 hx2 (by omega) (by omega) (by rw [hc2]; rfl) rfl ?_
        refine r_aload_n dX10_token_65 rfl (i := 0) rfl ?_
        refine rr_getR (b := (m + 3)) dX10_token_66 fg_X10_16 rfl rfl (wX10_l hm) (wX10_s hm) (wX10_r2 hm) ?_
        refine r_iload_n dX10_token_69 rfl (i := 1) rfl ?_
        obtain ⟨hc11, hT⟩ := hT
        refine rr_iaload (v := I1 (m + 3) x1) dX10_token_70 (wX10_l2 hm) (wX10_a2 hm) (by decide) hc11 rfl ?_
        exact r_iret dX10_token_71 rfl (hI1 _ _).inR ⟨Nat.zero_le _, Nat.zero_le _⟩ ⟨_, rfl, rfl, hFI1, hT⟩
      · replace hT := hT.2.2 hc2
        refine r_tswIn (tgt := 72) (off := 51) dX10_token_21 hx2 (by omega) (by omega) (by rw [hc2]; rfl) rfl ?_
        refine r_aload_n dX10_token_72 rfl (i := 0) rfl ?_
        refine rr_getR (b := (m + 4)) dX10_token_73 fg_X10_19 rfl rfl (wX10_l hm) (wX10_s hm) (wX10_r3 hm) ?_
        refine r_iload_n dX10_token_76 rfl (i := 1) rfl ?_
        obtain ⟨hc12, hT⟩ := hT
        refine rr_iaload (v := I1 (m + 4) x1) dX10_token_77 (wX10_l3 hm) (wX10_a3 hm) (by decide) hc12 rfl ?_
        exact r_iret dX10_token_78 rfl (hI1 _ _).inR ⟨Nat.zero_le _, Nat.zero_le _⟩ ⟨_, rfl, rfl, hFI1, hT⟩
  · replace hT := hT.2 (jI_n hcc)
    refine r_iconst (n := (-1)) dX10_token_18 ?_
    exact r_iret dX10_token_19 rfl ⟨by decide, by decide⟩ ⟨Nat.zero_le _, Nat.zero_le _⟩ ⟨_, rfl, rfl, hFI1, hT⟩
theorem en_X10_token {E : jE} {G : jG} {I : jM} {q : Int → jM → Prop} {m : Nat} {x1 : Int} {x2 : Int} (hm : WX10 G m) (hT : (∀ a j, jRg (G.2.1 a).1 (I a j)) → jIn x1 → jIn x2 → jRV E (jA m) kX10_layTokens [VR m] G I (fun I1 => jIn ((I1 m 4) - 1) ∧ (((0 ≤ x1 ∧ x1 ≤ ((I1 m 4) - 1)) → (((x2 < 0 ∨ 2 < x2) → q (-1) I1) ∧ (x2 = 0 → ((0 : Int) ≤ x1 ∧ (x1 : Int) < 200) ∧ (0 ≤ 10 + (I1 (m + 3) x1) ∧ 10 + (I1 (m + 3) x1) < 22094) ∧ jRI E (jA m) kX10_toldSort [VI (srt (I1 (m + 1) (10 + (I1 (m + 3) x1))))] G I1 (fun r9 I8 => q r9 I8)) ∧ (x2 = 1 → ((0 : Int) ≤ x1 ∧ (x1 : Int) < 200) ∧ q (I1 (m + 3) x1) I1) ∧ (x2 = 2 → ((0 : Int) ≤ x1 ∧ (x1 : Int) < 200) ∧ q (I1 (m + 4) x1) I1))) ∧ (¬ (0 ≤ x1 ∧ x1 ≤ ((I1 m 4) - 1)) → q (-1) I1)))) : jRI E (jA m) kX10_token [VR m, VI x1, VI x2] G I q := jRun.of mt_X10_token.2.2.2 0 rfl (fun _ => st_X10_token_0 hm hT I (fun _ _ => rfl))
set_option maxRecDepth 20000 in
theorem st_X10_toldSort_0 {E : jE} {A : Nat → Prop} {G : jG} {I : jM} {q : Int → jM → Prop} {x0 : Int}  (hT : (∀ a j, jRg (G.2.1 a).1 (I a j)) → jIn x0 → ((¬ x0 = 3 → ((¬ x0 = 2 → q x0 I) ∧ (x0 = 2 → q 3 I))) ∧ (x0 = 3 → q 2 I))) : jOI E A kX10_toldSort 0 [VI x0] G I q := by
  intro I0 hF
  refine jOk_mem (fun hI => ?_)
  refine jOk_in (i := 0) rfl (fun hx0 => ?_)
  replace hT := hT hI hx0
  refine r_iload_n dX10_toldSort_0 rfl (i := 0) rfl ?_
  refine r_iconst (n := 3) dX10_toldSort_1 ?_
  refine r_icmp_ne (tgt := 9) dX10_toldSort_2 rfl hx0 ⟨by decide, by decide⟩ (fun hcc => ?_) (fun hcc => ?_)
  · replace hT := hT.1 hcc
    refine r_iload_n dX10_toldSort_9 rfl (i := 0) rfl ?_
    refine r_iconst (n := 2) dX10_toldSort_10 ?_
    refine r_icmp_ne (tgt := 18) dX10_toldSort_11 rfl hx0 ⟨by decide, by decide⟩ (fun hcc => ?_) (fun hcc => ?_)
    · replace hT := hT.1 hcc
      refine r_iload_n dX10_toldSort_18 rfl (i := 0) rfl ?_
      exact r_iret dX10_toldSort_19 rfl hx0 ⟨Nat.zero_le _, Nat.zero_le _⟩ ⟨_, rfl, rfl, hF, hT⟩
    · replace hT := hT.2 hcc
      refine r_iconst (n := 3) dX10_toldSort_14 ?_
      refine r_goto (tgt := 19) dX10_toldSort_15 rfl ?_
      exact r_iret dX10_toldSort_19 rfl ⟨by decide, by decide⟩ ⟨Nat.zero_le _, Nat.zero_le _⟩ ⟨_, rfl, rfl, hF, hT⟩
  · replace hT := hT.2 hcc
    refine r_iconst (n := 2) dX10_toldSort_5 ?_
    refine r_goto (tgt := 19) dX10_toldSort_6 rfl ?_
    exact r_iret dX10_toldSort_19 rfl ⟨by decide, by decide⟩ ⟨Nat.zero_le _, Nat.zero_le _⟩ ⟨_, rfl, rfl, hF, hT⟩
theorem en_X10_toldSort {E : jE} {A : Nat → Prop} {G : jG} {I : jM} {q : Int → jM → Prop} {x0 : Int}  (hT : (∀ a j, jRg (G.2.1 a).1 (I a j)) → jIn x0 → ((¬ x0 = 3 → ((¬ x0 = 2 → q x0 I) ∧ (x0 = 2 → q 3 I))) ∧ (x0 = 3 → q 2 I))) : jRI E A kX10_toldSort [VI x0] G I q := jRun.of mt_X10_toldSort.2.2.2 0 rfl (fun _ => st_X10_toldSort_0  hT I (fun _ _ => rfl))
set_option maxRecDepth 20000 in
theorem st_X10_tokenAt_16 {E : jE} {G : jG} {I : jM} {q : Int → jM → Prop} {m : Nat} {x1 : Int} {x2 : Int} (hm : WX10 G m) (hT : (∀ a j, jRg (G.2.1 a).1 (I a j)) → jIn x1 → jIn x2 → ((0 : Int) ≤ x2 ∧ (x2 : Int) < 200) ∧ ((0 : Int) ≤ x2 ∧ (x2 : Int) < 200) ∧ jIn ((I (m + 3) x2) + (I (m + 4) x2)) ∧ ((x1 < ((I (m + 3) x2) + (I (m + 4) x2)) → q x2 I) ∧ (¬ x1 < ((I (m + 3) x2) + (I (m + 4) x2)) → jIn (x2 + 1) ∧ jOI E (jA m) kX10_tokenAt 16 [VR m, VI x1, VI (x2 + 1)] G I q))) : jOI E (jA m) kX10_tokenAt 16 [VR m, VI x1, VI x2] G I q := by
  intro I0 hF
  refine jOk_mem (fun hI => ?_)
  refine jOk_in (i := 1) rfl (fun hx1 => ?_)
  refine jOk_in (i := 2) rfl (fun hx2 => ?_)
  replace hT := hT hI hx1 hx2
  refine r_aload_n dX10_tokenAt_16 rfl (i := 0) rfl ?_
  refine rr_getR (b := (m + 3)) dX10_tokenAt_17 fg_X10_16 rfl rfl (wX10_l hm) (wX10_s hm) (wX10_r2 hm) ?_
  refine r_iload_n dX10_tokenAt_20 rfl (i := 2) rfl ?_
  obtain ⟨hc1, hT⟩ := hT
  refine rr_iaload (v := I (m + 3) x2) dX10_tokenAt_21 (wX10_l2 hm) (wX10_a2 hm) (by decide) hc1 rfl ?_
  refine r_aload_n dX10_tokenAt_22 rfl (i := 0) rfl ?_
  refine rr_getR (b := (m + 4)) dX10_tokenAt_23 fg_X10_19 rfl rfl (wX10_l hm) (wX10_s hm) (wX10_r3 hm) ?_
  refine r_iload_n dX10_tokenAt_26 rfl (i := 2) rfl ?_
  obtain ⟨hc2, hT⟩ := hT
  refine rr_iaload (v := I (m + 4) x2) dX10_tokenAt_27 (wX10_l3 hm) (wX10_a3 hm) (by decide) hc2 rfl ?_
  refine r_iadd dX10_tokenAt_28 ?_
  refine r_iload_n dX10_tokenAt_29 rfl (i := 1) rfl ?_
  obtain ⟨hc3, hT⟩ := hT
  refine r_icmp_gt (tgt := 39) dX10_tokenAt_30 rfl hc3 hx1 (fun hcc => ?_) (fun hcc => ?_)
  · replace hT := hT.1 hcc
    refine r_iload_n dX10_tokenAt_39 rfl (i := 2) rfl ?_
    exact r_iret dX10_tokenAt_40 rfl hx2 ⟨Nat.zero_le _, Nat.zero_le _⟩ ⟨_, rfl, rfl, hF, hT⟩
  · replace hT := hT.2 hcc
    obtain ⟨hc4, hT⟩ := hT
    refine rr_iinc (i := 2) (ls' := [VR m, VI x1, VI (x2 + 1)]) dX10_tokenAt_33 rfl (Nat.le_of_ble_eq_true rfl) rfl rfl hc4 ?_
    refine r_goto (tgt := 16) dX10_tokenAt_36 rfl ?_
    exact hT I0 hF
set_option maxRecDepth 20000 in
theorem st_X10_tokenAt_0 {E : jE} {G : jG} {I : jM} {q : Int → jM → Prop} {m : Nat} {x1 : Int} (hm : WX10 G m) (hT : (∀ a j, jRg (G.2.1 a).1 (I a j)) → jIn x1 → (0 ≤ I (m + 1) 2 ∧ I (m + 1) 2 ≤ 200) ∧ (((0 ≤ x1 ∧ x1 < I (m + 1) 2) → jRV E (jA m) kX10_layTokens [VR m] G I (fun I3 => jOI E (jA m) kX10_tokenAt 16 [VR m, VI x1, VI 0] G I3 q)) ∧ (¬ (0 ≤ x1 ∧ x1 < I (m + 1) 2) → q (-1) I))) : jOI E (jA m) kX10_tokenAt 0 [VR m, VI x1, VN] G I q := by
  intro I0 hF
  refine jOk_mem (fun hI => ?_)
  refine jOk_in (i := 1) rfl (fun hx1 => ?_)
  replace hT := hT hI hx1
  refine r_aload_n dX10_tokenAt_0 rfl (i := 0) rfl ?_
  refine r_iload_n dX10_tokenAt_1 rfl (i := 1) rfl ?_
  obtain ⟨hc2, hT⟩ := hT
  refine rr_pVI (A := (jA m)) (v := jI (0 ≤ x1 ∧ x1 < I (m + 1) 2)) (a := m) (as := [VI x1]) (st := []) dX10_tokenAt_2 mt_X10_isPlace ml_X10_323 mi_X10_isPlace rm_X10_tokenAt_X10_isPlace jz_X10_isPlace ⟨Nat.zero_le _, Nat.zero_le _⟩ (Nat.le_of_ble_eq_true rfl) (wX10_l hm) (wX10_c hm) (jasI hx1 jas0) ((sp_X10_isPlace hm) hc2) (fun hc1 => ?_)
  refine r_if_ne (tgt := 10) dX10_tokenAt_5 rfl hc1 (fun hcc => ?_) (fun hcc => ?_)
  · replace hT := hT.1 (jI_p hcc)
    refine r_aload_n dX10_tokenAt_10 rfl (i := 0) rfl ?_
    refine rr_cVV (a := m) (as := []) (st := []) dX10_tokenAt_11 mt_X10_layTokens ml_X10_184 mi_X10_layTokens rm_X10_tokenAt_X10_layTokens jz_X10_layTokens ⟨Nat.zero_le _, Nat.zero_le _⟩ (Nat.le_of_ble_eq_true rfl) (wX10_l hm) (wX10_c hm) jas0 hT (fun I3 hFI3 hT => ?_)
    replace hFI3 := jFr_tr hF hFI3
    refine jOk_mem (fun hI3 => ?_)
    refine r_iconst (n := 0) dX10_tokenAt_14 ?_
    refine rr_istore_n (i := 2) (ls' := [VR m, VI x1, VI 0]) dX10_tokenAt_15 rfl (Nat.le_of_ble_eq_true rfl) rfl rfl ⟨by decide, by decide⟩ ?_
    exact hT I0 hFI3
  · replace hT := hT.2 (jI_n hcc)
    refine r_iconst (n := (-1)) dX10_tokenAt_8 ?_
    exact r_iret dX10_tokenAt_9 rfl ⟨by decide, by decide⟩ ⟨Nat.zero_le _, Nat.zero_le _⟩ ⟨_, rfl, rfl, hF, hT⟩
theorem en_X10_tokenAt {E : jE} {G : jG} {I : jM} {q : Int → jM → Prop} {m : Nat} {x1 : Int} (hm : WX10 G m) (hT : (∀ a j, jRg (G.2.1 a).1 (I a j)) → jIn x1 → (0 ≤ I (m + 1) 2 ∧ I (m + 1) 2 ≤ 200) ∧ (((0 ≤ x1 ∧ x1 < I (m + 1) 2) → jRV E (jA m) kX10_layTokens [VR m] G I (fun I3 => jOI E (jA m) kX10_tokenAt 16 [VR m, VI x1, VI 0] G I3 q)) ∧ (¬ (0 ≤ x1 ∧ x1 < I (m + 1) 2) → q (-1) I))) : jRI E (jA m) kX10_tokenAt [VR m, VI x1] G I q := jRun.of mt_X10_tokenAt.2.2.2 1 rfl (fun _ => st_X10_tokenAt_0 hm hT I (fun _ _ => rfl))
set_option maxRecDepth 20000 in
theorem st_X10_at_0 {E : jE} {G : jG} {I : jM} {q : Int → jM → Prop} {m : Nat} {x1 : Int} (hm : WX10 G m) (hT : (∀ a j, jRg (G.2.1 a).1 (I a j)) → jIn x1 → (0 ≤ I (m + 1) 2 ∧ I (m + 1) 2 ≤ 200) ∧ ((¬ (0 ≤ x1 ∧ x1 < I (m + 1) 2) → q (-1) I) ∧ ((0 ≤ x1 ∧ x1 < I (m + 1) 2) → (0 ≤ 10 + x1 ∧ 10 + x1 < 22094) ∧ q (I (m + 1) (10 + x1)) I))) : jOI E (jA m) kX10_at 0 [VR m, VI x1] G I q := by
  intro I0 hF
  refine jOk_mem (fun hI => ?_)
  refine jOk_in (i := 1) rfl (fun hx1 => ?_)
  replace hT := hT hI hx1
  refine r_aload_n dX10_at_0 rfl (i := 0) rfl ?_
  refine r_iload_n dX10_at_1 rfl (i := 1) rfl ?_
  obtain ⟨hc2, hT⟩ := hT
  refine rr_pVI (A := (jA m)) (v := jI (0 ≤ x1 ∧ x1 < I (m + 1) 2)) (a := m) (as := [VI x1]) (st := []) dX10_at_2 mt_X10_isPlace ml_X10_323 mi_X10_isPlace rm_X10_at_X10_isPlace jz_X10_isPlace ⟨Nat.zero_le _, Nat.zero_le _⟩ (Nat.le_of_ble_eq_true rfl) (wX10_l hm) (wX10_c hm) (jasI hx1 jas0) ((sp_X10_isPlace hm) hc2) (fun hc1 => ?_)
  refine r_if_eq (tgt := 16) dX10_at_5 rfl hc1 (fun hcc => ?_) (fun hcc => ?_)
  · replace hT := hT.1 (jI_n hcc)
    refine r_iconst (n := (-1)) dX10_at_16 ?_
    exact r_iret dX10_at_17 rfl ⟨by decide, by decide⟩ ⟨Nat.zero_le _, Nat.zero_le _⟩ ⟨_, rfl, rfl, hF, hT⟩
  · replace hT := hT.2 (jI_p hcc)
    refine r_aload_n dX10_at_8 rfl (i := 0) rfl ?_
    refine r_iload_n dX10_at_9 rfl (i := 1) rfl ?_
    obtain ⟨hc4, hT⟩ := hT
    refine rr_pVI (A := (jA m)) (v := I (m + 1) (10 + x1)) (a := m) (as := [VI x1]) (st := []) dX10_at_10 mt_X10_byteAt ml_X10_120 mi_X10_byteAt rm_X10_at_X10_byteAt jz_X10_byteAt ⟨Nat.zero_le _, Nat.zero_le _⟩ (Nat.le_of_ble_eq_true rfl) (wX10_l hm) (wX10_c hm) (jasI hx1 jas0) ((sp_X10_byteAt hm) hc4) (fun hc3 => ?_)
    refine r_goto (tgt := 17) dX10_at_13 rfl ?_
    exact r_iret dX10_at_17 rfl hc3 ⟨Nat.zero_le _, Nat.zero_le _⟩ ⟨_, rfl, rfl, hF, hT⟩
theorem en_X10_at {E : jE} {G : jG} {I : jM} {q : Int → jM → Prop} {m : Nat} {x1 : Int} (hm : WX10 G m) (hT : (∀ a j, jRg (G.2.1 a).1 (I a j)) → jIn x1 → (0 ≤ I (m + 1) 2 ∧ I (m + 1) 2 ≤ 200) ∧ ((¬ (0 ≤ x1 ∧ x1 < I (m + 1) 2) → q (-1) I) ∧ ((0 ≤ x1 ∧ x1 < I (m + 1) 2) → (0 ≤ 10 + x1 ∧ 10 + x1 < 22094) ∧ q (I (m + 1) (10 + x1)) I))) : jRI E (jA m) kX10_at [VR m, VI x1] G I q := jRun.of mt_X10_at.2.2.2 0 rfl (fun _ => st_X10_at_0 hm hT I (fun _ _ => rfl))
section RY
variable {E : jE} {G : jG} {m : Nat} {I : jM} {B B' : Int → Int} {H H' : List (Int → Int)} {T : List Int} {fk fp c : Int}
/-! brackets -/
theorem prS_s (B : Int → Int) (i : Nat) : prS B (i + 1) = match (prS B i).1 with
    | [] => (if 0 < opn (B (10 + i)) then [(i : Int)] else [], up (prS B i).2 i (-1))
    | k :: st => if 0 < opn (B (10 + i)) then ((i : Int) :: k :: st, up (prS B i).2 i (-1)) else if 0 < sht (B (10 + i)) ∧ opn (B (10 + k)) = sht (B (10 + i)) then (st, up (up (up (prS B i).2 i (-1)) i k) k i) else (k :: st, up (prS B i).2 i (-1)) := rfl
theorem prS_push {B : Int → Int} {i : Nat} (h : 0 < opn (B (10 + i))) : prS B (i + 1) = ((i : Int) :: (prS B i).1, up (prS B i).2 i (-1)) := by
  rw [prS_s]
  cases e : (prS B i).1 with
  | nil => show (if _ then _ else _, _) = _; rw [if_pos h]
  | cons k st => show (if _ then _ else _) = _; rw [if_pos h]
theorem prS_none {B : Int → Int} {i : Nat} (h : ¬ 0 < opn (B (10 + i))) (h' : ∀ k st, (prS B i).1 = k :: st → ¬ (0 < sht (B (10 + i)) ∧ opn (B (10 + k)) = sht (B (10 + i)))) : prS B (i + 1) = ((prS B i).1, up (prS B i).2 i (-1)) := by
  rw [prS_s]
  cases e : (prS B i).1 with
  | nil => show (if _ then _ else _, _) = _; rw [if_neg h]
  | cons k st => show (if _ then _ else if _ then _ else _) = _; rw [if_neg h, if_neg (h' k st e)]
theorem prS_pop {B : Int → Int} {i : Nat} {k : Int} {st : List Int} (h : ¬ 0 < opn (B (10 + i))) (e : (prS B i).1 = k :: st) (h' : 0 < sht (B (10 + i)) ∧ opn (B (10 + k)) = sht (B (10 + i))) : prS B (i + 1) = (st, up (up (up (prS B i).2 i (-1)) i k) k i) := by
  rw [prS_s, e]
  show (if _ then _ else if _ then _ else _) = _
  rw [if_neg h, if_pos h']
theorem prS_bd (B : Int → Int) : ∀ i : Nat, (prS B i).1.length ≤ i ∧ ∀ k ∈ (prS B i).1, 0 ≤ k ∧ k < (i : Int) := by
  intro i
  induction i with
  | zero => exact ⟨Nat.le_refl _, fun k hk => absurd hk List.not_mem_nil⟩
  | succ i ih =>
    by_cases h : 0 < opn (B (10 + i))
    · rw [prS_push h]
      refine ⟨by show (_ :: _).length ≤ _; rw [List.length_cons]; omega, fun k hk => ?_⟩
      rcases List.mem_cons.mp hk with e | hk
      · omega
      · have := ih.2 k hk; omega
    · cases e : (prS B i).1 with
      | nil =>
        rw [prS_none h (fun k st q => by rw [e] at q; cases q), e]
        exact ⟨Nat.zero_le _, fun k hk => absurd hk List.not_mem_nil⟩
      | cons k st =>
        have i1 := ih.1
        have i2 := ih.2
        rw [e] at i1 i2
        rw [List.length_cons] at i1
        by_cases h' : 0 < sht (B (10 + i)) ∧ opn (B (10 + k)) = sht (B (10 + i))
        · rw [prS_pop h e h']
          exact ⟨by show st.length ≤ _; omega, fun x hx => by have := i2 x (List.mem_cons_of_mem _ hx); omega⟩
        · rw [prS_none h (fun k' st' q => by rw [e] at q; injection q with q1 q2; rw [← q1]; exact h'), e]
          exact ⟨by show (k :: st).length ≤ _; rw [List.length_cons]; omega, fun x hx => by have := i2 x hx; omega⟩
/-- the reference's rows of brackets behind i places -/
def PR (m : Nat) (B : Int → Int) (i : Nat) (I : jM) : Prop := (∀ j : Nat, j < (prS B i).1.length → I (m + 23) j = (prS B i).1.reverse.getD j 0) ∧ ∀ k, 0 ≤ k → k < (i : Int) → I (m + 22) k = (prS B i).2 k
def WP (m : Nat) (I I' : jM) : Prop := ∀ a j, a ≠ m + 22 → a ≠ m + 23 → I' a j = I a j
theorem rev_top {k : Int} {st : List Int} : (k :: st).reverse.getD st.length 0 = k := by
  rw [List.reverse_cons, List.getD_eq_getElem?_getD, List.getElem?_append_right (by rw [List.length_reverse]; exact Nat.le_refl _), List.length_reverse, Nat.sub_self]
  rfl
theorem rev_low {k : Int} {st : List Int} {j : Nat} (h : j < st.length) : (k :: st).reverse.getD j 0 = st.reverse.getD j 0 := by
  rw [List.reverse_cons]
  exact gd_left (by rw [List.length_reverse]; exact h)
theorem ref_layPairs (hm : WX10 G m) (h : RR m I B H B' H' T fk fp) (hQ : QW B) : jRV E (jA m) kX10_layPairs [VR m] G I (fun I' => RR m I' B H B' H' T fk fp ∧ ∀ k, 0 ≤ k → k < B 2 → I' (m + 22) k = (prS B (B 2).toNat).2 k) := by
  have h2 := hQ.1
  have loop : ∀ (d i : Nat), (i : Int) + d = B 2 → ∀ I1 : jM, RR m I1 B H B' H' T fk fp → PR m B i I1 → jOV E (jA m) kX10_layPairs 4 [VR m, VI ((prS B i).1.length : Int), VI (i : Int), VN] G I1 (fun I' => RR m I' B H B' H' T fk fp ∧ ∀ k, 0 ≤ k → k < B 2 → I' (m + 22) k = (prS B (B 2).toNat).2 k) := by
    intro d
    induction d with
    | zero =>
      intro i hi I1 hr hp
      have e2 : I1 (m + 1) 2 = B 2 := hr.at (by omega)
      refine st_X10_layPairs_4 hm (fun _ _ _ => ⟨fun _ => ⟨hr, fun k k0 k1 => ?_⟩, fun q => by rw [e2] at q; omega⟩)
      rw [show (B 2).toNat = i by omega]
      exact hp.2 k k0 (by omega)
    | succ d ih =>
      intro i hi I1 hr hp
      have e2 : I1 (m + 1) 2 = B 2 := hr.at (by omega)
      have bd := prS_bd B i
      refine st_X10_layPairs_4 hm (fun _ _ _ => ⟨fun q => by rw [e2] at q; omega, fun _ => ⟨⟨by omega, by omega⟩, fun M3 e3 => ⟨⟨by omega, by omega⟩, ?_⟩⟩⟩)
      have hr3 : RR m M3 B H B' H' T fk fp := hr.wz (fun a j ha => jr_na e3 (by omega)) (by
        have : M3 (m + 1) = I1 (m + 1) := by funext j; exact jr_na e3 (by omega)
        rw [this]; exact hr.1)
      have eb : M3 (m + 1) (10 + (i : Int)) = B (10 + i) := hr3.at (by omega)
      -- the rows behind this place, where nothing is paired
      have p3 : ∀ k, 0 ≤ k → k < ((i + 1 : Nat) : Int) → M3 (m + 22) k = up (prS B i).2 i (-1) k := by
        intro k k0 k1
        by_cases q : k = i
        · rw [q, jr_eq e3, up_eq]
        · rw [jr_nj e3 q, up_ne q]
          exact hp.2 k k0 (by omega)
      have s3 : ∀ j : Nat, j < (prS B i).1.length → M3 (m + 23) j = (prS B i).1.reverse.getD j 0 := fun j hj => by rw [jr_na e3 (by omega)]; exact hp.1 j hj
      rw [eb]
      refine sp_X10_opens.mono (fun r I6 _ _ g => ?_)
      obtain ⟨rfl, rfl⟩ := g
      rw [eb]
      refine ⟨fun q => ⟨⟨by omega, by omega⟩, sp_X10_shuts.mono (fun r I11 _ _ g => ?_)⟩, fun q => ⟨⟨by omega, by omega⟩, fun M37 e37 => ⟨⟨by omega, by omega⟩, ⟨by omega, by omega⟩, ?_⟩⟩⟩
      · obtain ⟨rfl, rfl⟩ := g
        have hno : ¬ 0 < opn (B (10 + i)) := by omega
        have skip : (∀ k st, (prS B i).1 = k :: st → ¬ (0 < sht (B (10 + i)) ∧ opn (B (10 + k)) = sht (B (10 + i)))) → jIn ((i : Int) + 1) ∧ jOV E (jA m) kX10_layPairs 4 [VR m, VI ((prS B i).1.length : Int), VI ((i : Int) + 1), VN] G I11 (fun I' => RR m I' B H B' H' T fk fp ∧ ∀ k, 0 ≤ k → k < B 2 → I' (m + 22) k = (prS B (B 2).toNat).2 k) := by
          intro hh
          have e := prS_none hno hh
          have g := ih (i + 1) (by omega) I11 hr3 (by unfold PR; rw [e]; exact ⟨s3, p3⟩)
          rw [e] at g
          exact ⟨⟨by omega, by omega⟩, g⟩
        refine ⟨fun q1 => skip (fun k st _ g => by omega), fun q1 => ⟨fun q2 => skip (fun k st e g => by rw [e, List.length_cons] at q2; omega), fun q2 => ?_⟩⟩
        cases est : (prS B i).1 with
        | nil => rw [est] at q2; exact absurd (Int.le_refl _) q2
        | cons k st =>
          have hk := bd.2 k (by rw [est]; exact List.mem_cons_self)
          have hl := bd.1
          rw [est, List.length_cons] at hl
          have etop : I11 (m + 23) (((k :: st).length : Int) - 1) = k := by
            have := s3 st.length (by rw [est, List.length_cons]; omega)
            rw [est, rev_top] at this
            rw [List.length_cons, show ((st.length + 1 : Nat) : Int) - 1 = (st.length : Int) by omega]
            exact this
          have etop' : I11 (m + 23) (((k :: st).length : Int) + -1) = k := by
            rw [show ((k :: st).length : Int) + -1 = ((k :: st).length : Int) - 1 by omega]
            exact etop
          have ek : I11 (m + 1) (10 + k) = B (10 + k) := hr3.at (by omega)
          rw [etop, ek]
          have hl1 : (((k :: st).length : Nat) : Int) = st.length + 1 := by rw [List.length_cons]; omega
          refine ⟨⟨by omega, by omega⟩, ⟨by omega, by omega⟩, sp_X10_opens.mono (fun r I19 _ _ g => ?_)⟩
          obtain ⟨rfl, rfl⟩ := g
          rw [eb]
          refine ⟨⟨by omega, by omega⟩, sp_X10_shuts.mono (fun r I24 _ _ g => ?_)⟩
          obtain ⟨rfl, rfl⟩ := g
          rw [etop']
          refine ⟨fun q3 => ?_, fun q3 => ⟨⟨by omega, by omega⟩, ⟨by omega, by omega⟩, ⟨by omega, by omega⟩, fun M31 e31 => ⟨⟨by omega, by omega⟩, ⟨by omega, by omega⟩, fun M34 e34 => ⟨⟨by omega, by omega⟩, ?_⟩⟩⟩⟩
          · have g := skip (fun k' st' e g => by
              rw [est] at e
              injection e with e1 e2
              rw [← e1] at g
              exact q3 g.2)
            rw [est] at g
            exact g
          · have e := prS_pop hno est ⟨by omega, q3⟩
            have hr34 : RR m M34 B H B' H' T fk fp := hr3.wz (fun a j ha => by rw [jr_na e34 (by omega), jr_na e31 (by omega)]) (by
              have : M34 (m + 1) = I24 (m + 1) := by funext j; rw [jr_na e34 (by omega), jr_na e31 (by omega)]
              rw [this]; exact hr3.1)
            have g := ih (i + 1) (by omega) M34 hr34 (by
              unfold PR
              rw [e]
              refine ⟨fun j hj => ?_, fun x x0 x1 => ?_⟩
              · rw [jr_na e34 (by omega), jr_na e31 (by omega), s3 j (by rw [est, List.length_cons]; exact Nat.lt_succ_of_lt hj), est, rev_low hj]
              · show _ = up (up (up (prS B i).2 i (-1)) i k) k i x
                by_cases qk : x = k
                · rw [qk, jr_eq e34, up_eq]
                · rw [jr_nj e34 qk, up_ne qk]
                  by_cases qi : x = i
                  · rw [qi, jr_eq e31, up_eq]
                  · rw [jr_nj e31 qi, up_ne qi]
                    exact p3 x x0 x1)
            rw [e] at g
            rw [show ((k :: st).length : Int) + -1 = (st.length : Int) by omega]
            exact g
      · have hop : 0 < opn (B (10 + i)) := by omega
        have e := prS_push hop
        have es := opn_excl hop
        have e37b : M37 (m + 1) (10 + (i : Int)) = B (10 + i) := by rw [jr_na e37 (by omega)]; exact eb
        rw [e37b]
        refine sp_X10_shuts.mono (fun r I41 _ _ g => ?_)
        obtain ⟨rfl, rfl⟩ := g
        refine ⟨fun _ => ⟨⟨by omega, by omega⟩, ?_⟩, fun q => by omega⟩
        have hr37 : RR m I41 B H B' H' T fk fp := hr3.wz (fun a j ha => jr_na e37 (by omega)) (by
          have : I41 (m + 1) = I6 (m + 1) := by funext j; exact jr_na e37 (by omega)
          rw [this]; exact hr3.1)
        have g := ih (i + 1) (by omega) I41 hr37 (by
          unfold PR
          rw [e]
          refine ⟨fun j hj => ?_, fun x x0 x1 => ?_⟩
          · have hj' : j < (prS B i).1.length + 1 := by
              have : ((i : Int) :: (prS B i).1).length = (prS B i).1.length + 1 := List.length_cons
              show j < _
              rw [← this]
              exact hj
            by_cases qj : j = (prS B i).1.length
            · rw [qj, jr_eq e37]
              exact rev_top.symm
            · rw [jr_nj e37 (by omega), s3 j (by omega)]
              exact (rev_low (by omega)).symm
          · rw [jr_na e37 (by omega)]
            exact p3 x x0 x1)
        rw [e] at g
        have el : (((i : Int) :: (prS B i).1).length : Int) = ((prS B i).1.length : Int) + 1 := by rw [List.length_cons]; omega
        have g' : jOV E (jA m) kX10_layPairs 4 [VR m, VI ((((i : Int) :: (prS B i).1).length : Nat) : Int), VI (((i + 1 : Nat) : Int)), VN] G I41 (fun I' => RR m I' B H B' H' T fk fp ∧ ∀ k, 0 ≤ k → k < B 2 → I' (m + 22) k = (prS B (B 2).toNat).2 k) := g
        rw [el] at g'
        exact g'
  exact en_X10_layPairs hm (fun _ => loop (B 2).toNat 0 (by omega) I h ⟨fun j hj => absurd hj (Nat.not_lt_zero j), fun k k0 k1 => by omega⟩)
noncomputable def anPaired (B : Int → Int) (i : Int) : Int := if 0 ≤ i ∧ i < B 2 then (prS B (B 2).toNat).2 i else -1
theorem ref_paired (hm : WX10 G m) (h : RR m I B H B' H' T fk fp) (hQ : QW B) {i : Int} : jRI E (jA m) kX10_paired [VR m, VI i] G I (fun x I' => x = anPaired B i ∧ RR m I' B H B' H' T fk fp) := by
  have e2 : I (m + 1) 2 = B 2 := h.at (by omega)
  have h2 := hQ.1
  unfold anPaired
  refine en_X10_paired hm (fun _ _ => ?_)
  rw [e2]
  refine ⟨h2, fun q => (ref_layPairs hm h hQ).mono (fun I3 _ g => ⟨⟨by omega, by omega⟩, ?_, g.1⟩), fun q => ⟨by rw [if_neg q], h⟩⟩
  rw [if_pos q]
  exact g.2 i q.1 q.2
theorem ref_unpaired (hm : WX10 G m) (h : RR m I B H B' H' T fk fp) (hQ : QW B) : jRI E (jA m) kX10_unpaired [VR m] G I (fun x I' => x = unp B ∧ RR m I' B H B' H' T fk fp) := by
  have h2 := hQ.1
  refine en_X10_unpaired hm (fun _ => (ref_layPairs hm h hQ).mono (fun I1 _ g => ?_))
  obtain ⟨hr, hp⟩ := g
  have e2 : I1 (m + 1) 2 = B 2 := hr.at (by omega)
  have loop : ∀ (d : Nat) (i v : Int), 0 ≤ i → i + d = B 2 → 0 ≤ v → v ≤ i → jOI E (jA m) kX10_unpaired 8 [VR m, VI v, VI i] G I1 (fun x I' => x = v + sumJ (fun i => jI (0 < opn (B (10 + i)) + sht (B (10 + i)) ∧ (prS B (B 2).toNat).2 i = -1)) i d ∧ RR m I' B H B' H' T fk fp) := by
    intro d
    induction d with
    | zero =>
      intro i v i0 i1 v0 v1
      exact st_X10_unpaired_8 hm (fun _ _ _ => ⟨fun _ => ⟨by show v = v + 0; omega, hr⟩, fun q => by rw [e2] at q; omega⟩)
    | succ d ih =>
      intro i v i0 i1 v0 v1
      have eb : I1 (m + 1) (10 + i) = B (10 + i) := hr.at (by omega)
      have nx : ∀ y, y = jI (0 < opn (B (10 + i)) + sht (B (10 + i)) ∧ (prS B (B 2).toNat).2 i = -1) → jIn (v + y) ∧ jIn (i + 1) ∧ jOI E (jA m) kX10_unpaired 8 [VR m, VI (v + y), VI (i + 1)] G I1 (fun x I' => x = v + sumJ (fun i => jI (0 < opn (B (10 + i)) + sht (B (10 + i)) ∧ (prS B (B 2).toNat).2 i = -1)) i (d + 1) ∧ RR m I' B H B' H' T fk fp) := by
        intro y e
        have b := jI_01 (P := 0 < opn (B (10 + i)) + sht (B (10 + i)) ∧ (prS B (B 2).toNat).2 i = -1)
        refine ⟨⟨by omega, by omega⟩, ⟨by omega, by omega⟩, (ih (i + 1) (v + y) (by omega) (by omega) (by omega) (by omega)).mono (fun x I' _ g' => ⟨?_, g'.2⟩)⟩
        rw [g'.1, sumJ_s]
        omega
      have bo : 0 ≤ opn (B (10 + i)) ∧ opn (B (10 + i)) ≤ 3 := by unfold opn; split <;> (try split) <;> (try split) <;> decide
      have bs : 0 ≤ sht (B (10 + i)) ∧ sht (B (10 + i)) ≤ 3 := by unfold sht; split <;> (try split) <;> (try split) <;> decide
      refine st_X10_unpaired_8 hm (fun _ _ _ => ⟨fun q => by rw [e2] at q; omega, fun _ => ⟨⟨by omega, by omega⟩, ?_⟩⟩)
      rw [eb]
      refine sp_X10_opens.mono (fun r I4 _ _ g => ?_)
      obtain ⟨rfl, rfl⟩ := g
      rw [eb]
      refine ⟨⟨by omega, by omega⟩, sp_X10_shuts.mono (fun r I9 _ _ g => ?_)⟩
      obtain ⟨rfl, rfl⟩ := g
      rw [hp i i0 (by omega)]
      exact ⟨⟨by omega, by omega⟩, fun q => nx 0 (jI_neg (fun g => by omega)).symm, fun q => ⟨⟨by omega, by omega⟩, fun q1 => nx 0 (jI_neg (fun g => q1 g.2)).symm, fun q1 => nx 1 (jI_pos ⟨by omega, q1⟩).symm⟩⟩
  refine (loop (B 2).toNat 0 0 (by omega) (by omega) (by omega) (by omega)).mono (fun x I' _ g => ⟨?_, g.2⟩)
  rw [g.1]
  unfold unp
  omega
/-! tokens -/
theorem ref_layT (hm : WX10 G m) (h : RR m I B H B' H' T fk fp) (hQ : QW B) : jRV E (jA m) kX10_layTokens [VR m] G I (fun I' => RR m I' B H B' H' T fk fp ∧ TO m (I (m + 1)) (nT B) (bT B) I') := by
  have hQS := h.1.qw hQ
  have hE := h.1.eqS
  have eT : Tk (fun i => (I (m + 1)) (10 + i)) ((I (m + 1)) 2) (nT B) (bT B) := by
    rw [nT_congr hE hQS.1, bT_congr hE hQS.1]
    exact tkS hQS.1.1
  refine (sp_X10_layTokens hm eT hQS.1.2 rfl (fun i _ _ => rfl)).mono (fun I1 _ g => ?_)
  obtain ⟨g1, g2, g3⟩ := g
  have e : I1 (m + 1) = I (m + 1) := by funext j; exact g3 _ _ (by omega) (by omega) (by omega)
  exact ⟨h.wz (fun a j ha => g3 a j (by omega) (by omega) (by omega)) (by rw [e]; exact h.1), e, hQS.1.2, eT, g1, g2⟩
def told (s : Int) : Int := if s = 3 then 2 else if s = 2 then 3 else s
noncomputable def anToken (B : Int → Int) (i w : Int) : Int := if 0 ≤ i ∧ i < nT B then (if w = 0 then told (srt (B (10 + bT B i))) else if w = 1 then bT B i else if w = 2 then bT B (i + 1) - bT B i else -1) else -1
theorem ref_token (hm : WX10 G m) (h : RR m I B H B' H' T fk fp) (hQ : QW B) {i w : Int} : jRI E (jA m) kX10_token [VR m, VI i, VI w] G I (fun x I' => x = anToken B i w ∧ RR m I' B H B' H' T fk fp) := by
  have hTk := tkS hQ.1.1
  have hn := hTk.n_le
  have hn0 := hTk.1
  have h2 := hQ.1
  unfold anToken
  refine en_X10_token hm (fun _ _ _ => (ref_layT hm h hQ).mono (fun I1 _ g => ?_))
  obtain ⟨hr, hT⟩ := g
  rw [hT.2.2.2.1]
  refine ⟨⟨by omega, by omega⟩, fun q => ?_, fun q => ⟨by rw [if_neg (by omega)], hr⟩⟩
  have r := hT.2.2.2.2 i q.1 (by omega)
  have bd := hTk.bd (t := i) q.1 (by omega)
  have bd1 := hTk.le (t := i) (u := i + 1) q.1 (by omega) (by omega)
  have bd2 := hTk.bd (t := i + 1) (by omega) (by omega)
  rw [if_pos (by omega : 0 ≤ i ∧ i < nT B), r.1, r.2]
  refine ⟨fun q1 => ⟨by rw [if_neg (by omega), if_neg (by omega), if_neg (by omega)], hr⟩, fun q1 => ⟨⟨by omega, by omega⟩, ⟨by omega, by omega⟩, ?_⟩, fun q1 => ⟨⟨by omega, by omega⟩, by rw [if_neg (by omega), if_pos q1], hr⟩, fun q1 => ⟨⟨by omega, by omega⟩, by rw [if_neg (by omega), if_neg (by omega), if_pos q1], hr⟩⟩
  rw [hr.at (j := 10 + bT B i) (by omega)]
  refine en_X10_toldSort (fun _ _ => ⟨fun a => ⟨fun b => ⟨?_, hr⟩, fun b => ⟨?_, hr⟩⟩, fun a => ⟨?_, hr⟩⟩)
  · rw [if_pos q1]; unfold told; rw [if_neg a, if_neg b]
  · rw [if_pos q1]; unfold told; rw [if_neg a, if_pos b]
  · rw [if_pos q1]; unfold told; rw [if_pos a]
noncomputable def tokOf (B : Int → Int) (i : Int) : Int := Classical.epsilon (fun t => 0 ≤ t ∧ t < nT B ∧ bT B t ≤ i ∧ i < bT B (t + 1))
theorem tokOf_eq {B : Int → Int} (hQ : QW B) {i t : Int} (h : 0 ≤ t ∧ t < nT B ∧ bT B t ≤ i ∧ i < bT B (t + 1)) : tokOf B i = t := by
  have g := Classical.epsilon_spec (p := fun t => 0 ≤ t ∧ t < nT B ∧ bT B t ≤ i ∧ i < bT B (t + 1)) ⟨t, h⟩
  have g : 0 ≤ tokOf B i ∧ tokOf B i < nT B ∧ bT B (tokOf B i) ≤ i ∧ i < bT B (tokOf B i + 1) := g
  have hTk := tkS hQ.1.1
  rcases Int.lt_trichotomy (tokOf B i) t with q | q | q
  · have := hTk.le (t := tokOf B i + 1) (u := t) (by omega) (by omega) (by omega); omega
  · exact q
  · have := hTk.le (t := t + 1) (u := tokOf B i) (by omega) (by omega) (by omega); omega
noncomputable def anTokenAt (B : Int → Int) (i : Int) : Int := if 0 ≤ i ∧ i < B 2 then tokOf B i else -1
theorem ref_tokenAt (hm : WX10 G m) (h : RR m I B H B' H' T fk fp) (hQ : QW B) {i : Int} : jRI E (jA m) kX10_tokenAt [VR m, VI i] G I (fun x I' => x = anTokenAt B i ∧ RR m I' B H B' H' T fk fp) := by
  have e2 : I (m + 1) 2 = B 2 := h.at (by omega)
  have hTk := tkS hQ.1.1
  have hn := hTk.n_le
  have hn0 := hTk.1
  have h2 := hQ.1
  unfold anTokenAt
  refine en_X10_tokenAt hm (fun _ _ => ?_)
  rw [e2]
  refine ⟨h2, fun q => (ref_layT hm h hQ).mono (fun I3 _ g => ?_), fun q => ⟨by rw [if_neg q], h⟩⟩
  obtain ⟨hr, hT⟩ := g
  have loop : ∀ (d : Nat) (t : Int), 0 ≤ t → t + d = nT B → bT B t ≤ i → jOI E (jA m) kX10_tokenAt 16 [VR m, VI i, VI t] G I3 (fun x I' => x = (if 0 ≤ i ∧ i < B 2 then tokOf B i else -1) ∧ RR m I' B H B' H' T fk fp) := by
    intro d
    induction d with
    | zero =>
      intro t t0 t1 hb
      have e : bT B t = B 2 := by rw [show t = nT B by omega]; exact hTk.2.2.1
      omega
    | succ d ih =>
      intro t t0 t1 hb
      have r := hT.2.2.2.2 t t0 (by omega)
      have bd := hTk.bd (t := t) t0 (by omega)
      have bd2 := hTk.bd (t := t + 1) (by omega) (by omega)
      refine st_X10_tokenAt_16 hm (fun _ _ _ => ?_)
      rw [r.1, r.2, show bT B t + (bT B (t + 1) - bT B t) = bT B (t + 1) by omega]
      refine ⟨⟨by omega, by omega⟩, ⟨by omega, by omega⟩, ⟨by omega, by omega⟩, fun q1 => ⟨?_, hr⟩, fun q1 => ⟨⟨by omega, by omega⟩, ih (t + 1) (by omega) (by omega) (by omega)⟩⟩
      rw [if_pos q, tokOf_eq hQ ⟨t0, by omega, hb, q1⟩]
  exact loop (nT B).toNat 0 (by omega) (by omega) (by rw [hTk.2.1]; omega)
noncomputable def anAt (B : Int → Int) (i : Int) : Int := if 0 ≤ i ∧ i < B 2 then B (10 + i) else -1
theorem ref_at (hm : WX10 G m) (h : RR m I B H B' H' T fk fp) (hQ : QW B) {i : Int} : jRI E (jA m) kX10_at [VR m, VI i] G I (fun x I' => x = anAt B i ∧ RR m I' B H B' H' T fk fp) := by
  have e2 : I (m + 1) 2 = B 2 := h.at (by omega)
  have h2 := hQ.1
  unfold anAt
  refine en_X10_at hm (fun _ _ => ?_)
  rw [e2]
  refine ⟨h2, fun q => ⟨by rw [if_neg q], h⟩, fun q => ⟨⟨by omega, by omega⟩, ?_, h⟩⟩
  rw [if_pos q]
  exact h.at (by omega)
end RY
