/-! ===== the reference: what is asked of the course; the cure ===== -/
set_option maxRecDepth 20000 in
theorem st_X10_madeFrom_4 {E : jE} {G : jG} {I : jM} {q : Int → jM → Prop} {m : Nat} {x1 : Int} {x2 : Int} {x3 : Int} (hm : WX10 G m) (hT : (∀ a j, jRg (G.2.1 a).1 (I a j)) → jIn x1 → jIn x2 → jIn x3 → (((I m 41) ≤ x3 → q x2 I) ∧ (¬ (I m 41) ≤ x3 → ((0 : Int) ≤ x3 ∧ (x3 : Int) < 31) ∧ jIn (x3 + 1) ∧ jOI E (jA m) kX10_madeFrom 4 [VR m, VI x1, VI (jor x2 (I (m + 28) x3)), VI (x3 + 1)] G I q))) : jOI E (jA m) kX10_madeFrom 4 [VR m, VI x1, VI x2, VI x3] G I q := by
  intro I0 hF
  refine jOk_mem (fun hI => ?_)
  refine jOk_in (i := 1) rfl (fun hx1 => ?_)
  refine jOk_in (i := 2) rfl (fun hx2 => ?_)
  refine jOk_in (i := 3) rfl (fun hx3 => ?_)
  replace hT := hT hI hx1 hx2 hx3
  refine r_iload_n dX10_madeFrom_4 rfl (i := 3) rfl ?_
  refine r_aload_n dX10_madeFrom_5 rfl (i := 0) rfl ?_
  refine rr_getI (v := I m 41) dX10_madeFrom_6 fg_X10_375 rfl (wX10_l hm) (wX10_s hm) rfl ?_
  refine r_icmp_ge (tgt := 27) dX10_madeFrom_9 rfl hx3 (hI _ _).inR (fun hcc => ?_) (fun hcc => ?_)
  · replace hT := hT.1 hcc
    refine r_iload_n dX10_madeFrom_27 rfl (i := 2) rfl ?_
    exact r_iret dX10_madeFrom_28 rfl hx2 ⟨Nat.zero_le _, Nat.zero_le _⟩ ⟨_, rfl, rfl, hF, hT⟩
  · replace hT := hT.2 hcc
    refine r_iload_n dX10_madeFrom_12 rfl (i := 2) rfl ?_
    refine r_aload_n dX10_madeFrom_13 rfl (i := 0) rfl ?_
    refine rr_getR (b := (m + 28)) dX10_madeFrom_14 fg_X10_96 rfl rfl (wX10_l hm) (wX10_s hm) (wX10_r39 hm) ?_
    refine r_iload_n dX10_madeFrom_17 rfl (i := 3) rfl ?_
    obtain ⟨hc1, hT⟩ := hT
    refine rr_iaload (v := I (m + 28) x3) dX10_madeFrom_18 (wX10_l39 hm) (wX10_a39 hm) (by decide) hc1 rfl ?_
    refine r_ior dX10_madeFrom_19 ?_
    refine rr_istore_n (i := 2) (ls' := [VR m, VI x1, VI (jor x2 (I (m + 28) x3)), VI x3]) dX10_madeFrom_20 rfl (Nat.le_of_ble_eq_true rfl) rfl rfl (j32_in _) ?_
    obtain ⟨hc2, hT⟩ := hT
    refine rr_iinc (i := 3) (ls' := [VR m, VI x1, VI (jor x2 (I (m + 28) x3)), VI (x3 + 1)]) dX10_madeFrom_21 rfl (Nat.le_of_ble_eq_true rfl) rfl rfl hc2 ?_
    refine r_goto (tgt := 4) dX10_madeFrom_24 rfl ?_
    exact hT I0 hF
set_option maxRecDepth 20000 in
theorem st_X10_madeFrom_0 {E : jE} {G : jG} {I : jM} {q : Int → jM → Prop} {m : Nat} {x1 : Int} (hm : WX10 G m) (hT : (∀ a j, jRg (G.2.1 a).1 (I a j)) → jIn x1 → jOI E (jA m) kX10_madeFrom 4 [VR m, VI x1, VI 0, VI x1] G I q) : jOI E (jA m) kX10_madeFrom 0 [VR m, VI x1, VN, VN] G I q := by
  intro I0 hF
  refine jOk_mem (fun hI => ?_)
  refine jOk_in (i := 1) rfl (fun hx1 => ?_)
  replace hT := hT hI hx1
  refine r_iconst (n := 0) dX10_madeFrom_0 ?_
  refine rr_istore_n (i := 2) (ls' := [VR m, VI x1, VI 0, VN]) dX10_madeFrom_1 rfl (Nat.le_of_ble_eq_true rfl) rfl rfl ⟨by decide, by decide⟩ ?_
  refine r_iload_n dX10_madeFrom_2 rfl (i := 1) rfl ?_
  refine rr_istore_n (i := 3) (ls' := [VR m, VI x1, VI 0, VI x1]) dX10_madeFrom_3 rfl (Nat.le_of_ble_eq_true rfl) rfl rfl hx1 ?_
  exact hT I0 hF
theorem en_X10_madeFrom {E : jE} {G : jG} {I : jM} {q : Int → jM → Prop} {m : Nat} {x1 : Int} (hm : WX10 G m) (hT : (∀ a j, jRg (G.2.1 a).1 (I a j)) → jIn x1 → jOI E (jA m) kX10_madeFrom 4 [VR m, VI x1, VI 0, VI x1] G I q) : jRI E (jA m) kX10_madeFrom [VR m, VI x1] G I q := jRun.of mt_X10_madeFrom.2.2.2 2 rfl (fun _ => st_X10_madeFrom_0 hm hT I (fun _ _ => rfl))
set_option maxRecDepth 20000 in
theorem st_X10_circling_0 {E : jE} {G : jG} {I : jM} {q : Int → jM → Prop} {m : Nat} (hm : WX10 G m) (hT : (∀ a j, jRg (G.2.1 a).1 (I a j)) → jRV E (jA m) kX10_layCourse [VR m] G I (fun I1 => ((¬ (I1 m 40) = 1 → q 0 I1) ∧ ((I1 m 40) = 1 → jRI E (jA m) kX10_madeFrom [VR m, VI (I1 m 42)] G I1 (fun r3 I2 => q r3 I2))))) : jOI E (jA m) kX10_circling 0 [VR m] G I q := by
  intro I0 hF
  refine jOk_mem (fun hI => ?_)
  replace hT := hT hI 
  refine r_aload_n dX10_circling_0 rfl (i := 0) rfl ?_
  refine rr_cVV (a := m) (as := []) (st := []) dX10_circling_1 mt_X10_layCourse ml_X10_399 mi_X10_layCourse rm_X10_circling_X10_layCourse jz_X10_layCourse ⟨Nat.zero_le _, Nat.zero_le _⟩ (Nat.le_of_ble_eq_true rfl) (wX10_l hm) (wX10_c hm) jas0 hT (fun I1 hFI1 hT => ?_)
  replace hFI1 := jFr_tr hF hFI1
  refine jOk_mem (fun hI1 => ?_)
  refine r_aload_n dX10_circling_4 rfl (i := 0) rfl ?_
  refine rr_getI (v := I1 m 40) dX10_circling_5 fg_X10_390 rfl (wX10_l hm) (wX10_s hm) rfl ?_
  refine r_iconst (n := 1) dX10_circling_8 ?_
  refine r_icmp_ne (tgt := 23) dX10_circling_9 rfl (hI1 _ _).inR ⟨by decide, by decide⟩ (fun hcc => ?_) (fun hcc => ?_)
  · replace hT := hT.1 hcc
    refine r_iconst (n := 0) dX10_circling_23 ?_
    exact r_iret dX10_circling_24 rfl ⟨by decide, by decide⟩ ⟨Nat.zero_le _, Nat.zero_le _⟩ ⟨_, rfl, rfl, hFI1, hT⟩
  · replace hT := hT.2 hcc
    refine r_aload_n dX10_circling_12 rfl (i := 0) rfl ?_
    refine r_aload_n dX10_circling_13 rfl (i := 0) rfl ?_
    refine rr_getI (v := I1 m 42) dX10_circling_14 fg_X10_387 rfl (wX10_l hm) (wX10_s hm) rfl ?_
    refine rr_cVI (a := m) (as := [VI (I1 m 42)]) (st := []) dX10_circling_17 mt_X10_madeFrom ml_X10_402 mi_X10_madeFrom rm_X10_circling_X10_madeFrom jz_X10_madeFrom ⟨Nat.zero_le _, Nat.zero_le _⟩ (Nat.le_of_ble_eq_true rfl) (wX10_l hm) (wX10_c hm) (jasI (hI1 _ _).inR jas0) hT (fun r3 I2 hc4 hFI2 hT => ?_)
    replace hFI2 := jFr_tr hFI1 hFI2
    refine jOk_mem (fun hI2 => ?_)
    refine r_goto (tgt := 24) dX10_circling_20 rfl ?_
    exact r_iret dX10_circling_24 rfl hc4 ⟨Nat.zero_le _, Nat.zero_le _⟩ ⟨_, rfl, rfl, hFI2, hT⟩
theorem en_X10_circling {E : jE} {G : jG} {I : jM} {q : Int → jM → Prop} {m : Nat} (hm : WX10 G m) (hT : (∀ a j, jRg (G.2.1 a).1 (I a j)) → jRV E (jA m) kX10_layCourse [VR m] G I (fun I1 => ((¬ (I1 m 40) = 1 → q 0 I1) ∧ ((I1 m 40) = 1 → jRI E (jA m) kX10_madeFrom [VR m, VI (I1 m 42)] G I1 (fun r3 I2 => q r3 I2))))) : jRI E (jA m) kX10_circling [VR m] G I q := jRun.of mt_X10_circling.2.2.2 0 rfl (fun _ => st_X10_circling_0 hm hT I (fun _ _ => rfl))
set_option maxRecDepth 20000 in
theorem st_X10_course_0 {E : jE} {G : jG} {I : jM} {q : Int → jM → Prop} {m : Nat} {x1 : Int} (hm : WX10 G m) (hT : (∀ a j, jRg (G.2.1 a).1 (I a j)) → jIn x1 → jRV E (jA m) kX10_layCourse [VR m] G I (fun I1 => (((x1 < 0 ∨ 5 < x1) → q (-1) I1) ∧ (x1 = 0 → q (I1 m 40) I1) ∧ (x1 = 1 → q (I1 m 41) I1) ∧ (x1 = 2 → q (I1 m 42) I1) ∧ (x1 = 3 → ((¬ (I1 m 40) = 1 → q (-1) I1) ∧ ((I1 m 40) = 1 → jIn ((I1 m 41) - (I1 m 42)) ∧ q ((I1 m 41) - (I1 m 42)) I1))) ∧ (x1 = 4 → ((0 : Int) ≤ (I1 m 41) ∧ ((I1 m 41) : Int) < 31) ∧ q (I1 (m + 25) (I1 m 41)) I1) ∧ (x1 = 5 → q (I1 m 43) I1)))) : jOI E (jA m) kX10_course 0 [VR m, VI x1] G I q := by
  intro I0 hF
  refine jOk_mem (fun hI => ?_)
  refine jOk_in (i := 1) rfl (fun hx1 => ?_)
  replace hT := hT hI hx1
  refine r_aload_n dX10_course_0 rfl (i := 0) rfl ?_
  refine rr_cVV (a := m) (as := []) (st := []) dX10_course_1 mt_X10_layCourse ml_X10_399 mi_X10_layCourse rm_X10_course_X10_layCourse jz_X10_layCourse ⟨Nat.zero_le _, Nat.zero_le _⟩ (Nat.le_of_ble_eq_true rfl) (wX10_l hm) (wX10_c hm) jas0 hT (fun I1 hFI1 hT => ?_)
  replace hFI1 := jFr_tr hF hFI1
  refine jOk_mem (fun hI1 => ?_)
  refine r_iload_n dX10_course_4 rfl (i := 1) rfl ?_
  by_cases hcc : x1 < 0 ∨ 5 < x1
  · replace hT := hT.1 hcc
    refine r_tswOut (tgt := 96) dX10_course_5 hx1 hcc rfl ?_
    refine r_iconst (n := (-1)) dX10_course_96 ?_
    exact r_iret dX10_course_97 rfl ⟨by decide, by decide⟩ ⟨Nat.zero_le _, Nat.zero_le _⟩ ⟨_, rfl, rfl, hFI1, hT⟩
  · replace hT := hT.2
    have hc2 : x1 = 0 ∨ x1 = 1 ∨ x1 = 2 ∨ x1 = 3 ∨ x1 = 4 ∨ x1 = 5 := by omega
    rcases hc2 with hc2 | hc2 | hc2 | hc2 | hc2 | hc2
    · replace hT := hT.1 hc2
      refine r_tswIn (tgt := 44) (off := 39) dX10_course_5 hx1 (by omega) (by omega) (by rw [hc2]; rfl) rfl ?_
      refine r_aload_n dX10_course_44 rfl (i := 0) rfl ?_
      refine rr_getI (v := I1 m 40) dX10_course_45 fg_X10_390 rfl (wX10_l hm) (wX10_s hm) rfl ?_
      exact r_iret dX10_course_48 rfl (hI1 _ _).inR ⟨Nat.zero_le _, Nat.zero_le _⟩ ⟨_, rfl, rfl, hFI1, hT⟩
    · replace hT := hT.2.1 hc2
      refine r_tswIn (tgt := 49) (off := 44) dX10_course_5 hx1 (by omega) (by omega) (by rw [hc2]; rfl) rfl ?_
      refine r_aload_n dX10_course_49 rfl (i := 0) rfl ?_
      refine rr_getI (v := I1 m 41) dX10_course_50 fg_X10_375 rfl (wX10_l hm) (wX10_s hm) rfl ?_
      exact r_iret dX10_course_53 rfl (hI1 _ _).inR ⟨Nat.zero_le _, Nat.zero_le _⟩ ⟨_, rfl, rfl, hFI1, hT⟩
    · replace hT := hT.2.2.1 hc2
      refine r_tswIn (tgt := 54) (off := 49) dX10_course_5 hx1 (by omega) (by omega) (by rw [hc2]; rfl) rfl ?_
      refine r_aload_n dX10_course_54 rfl (i := 0) rfl ?_
      refine rr_getI (v := I1 m 42) dX10_course_55 fg_X10_387 rfl (wX10_l hm) (wX10_s hm) rfl ?_
      exact r_iret dX10_course_58 rfl (hI1 _ _).inR ⟨Nat.zero_le _, Nat.zero_le _⟩ ⟨_, rfl, rfl, hFI1, hT⟩
    · replace hT := hT.2.2.2.1 hc2
      refine r_tswIn (tgt := 59) (off := 54) dX10_course_5 hx1 (by omega) (by omega) (by rw [hc2]; rfl) rfl ?_
      refine r_aload_n dX10_course_59 rfl (i := 0) rfl ?_
      refine rr_getI (v := I1 m 40) dX10_course_60 fg_X10_390 rfl (wX10_l hm) (wX10_s hm) rfl ?_
      refine r_iconst (n := 1) dX10_course_63 ?_
      refine r_icmp_ne (tgt := 79) dX10_course_64 rfl (hI1 _ _).inR ⟨by decide, by decide⟩ (fun hcc => ?_) (fun hcc => ?_)
      · replace hT := hT.1 hcc
        refine r_iconst (n := (-1)) dX10_course_79 ?_
        exact r_iret dX10_course_80 rfl ⟨by decide, by decide⟩ ⟨Nat.zero_le _, Nat.zero_le _⟩ ⟨_, rfl, rfl, hFI1, hT⟩
      · replace hT := hT.2 hcc
        refine r_aload_n dX10_course_67 rfl (i := 0) rfl ?_
        refine rr_getI (v := I1 m 41) dX10_course_68 fg_X10_375 rfl (wX10_l hm) (wX10_s hm) rfl ?_
        refine r_aload_n dX10_course_71 rfl (i := 0) rfl ?_
        refine rr_getI (v := I1 m 42) dX10_course_72 fg_X10_387 rfl (wX10_l hm) (wX10_s hm) rfl ?_
        refine r_isub dX10_course_75 ?_
        refine r_goto (tgt := 80) dX10_course_76 rfl ?_
        obtain ⟨hc2, hT⟩ := hT
        exact r_iret dX10_course_80 rfl hc2 ⟨Nat.zero_le _, Nat.zero_le _⟩ ⟨_, rfl, rfl, hFI1, hT⟩
    · replace hT := hT.2.2.2.2.1 hc2
      refine r_tswIn (tgt := 81) (off := 76) dX10_course_5 hx1 (by omega) (by omega) (by rw [hc2]; rfl) rfl ?_
      refine r_aload_n dX10_course_81 rfl (i := 0) rfl ?_
      refine rr_getR (b := (m + 25)) dX10_course_82 fg_X10_87 rfl rfl (wX10_l hm) (wX10_s hm) (wX10_r36 hm) ?_
      refine r_aload_n dX10_course_85 rfl (i := 0) rfl ?_
      refine rr_getI (v := I1 m 41) dX10_course_86 fg_X10_375 rfl (wX10_l hm) (wX10_s hm) rfl ?_
      obtain ⟨hc3, hT⟩ := hT
      refine rr_iaload (v := I1 (m + 25) (I1 m 41)) dX10_course_89 (wX10_l36 hm) (wX10_a36 hm) (by decide) hc3 rfl ?_
      exact r_iret dX10_course_90 rfl (hI1 _ _).inR ⟨Nat.zero_le _, Nat.zero_le _⟩ ⟨_, rfl, rfl, hFI1, hT⟩
    · replace hT := hT.2.2.2.2.2 hc2
      refine r_tswIn (tgt := 91) (off := 86) dX10_course_5 hx1 (by omega) (by omega) (by rw [hc2]; rfl) rfl ?_
      refine r_aload_n dX10_course_91 rfl (i := 0) rfl ?_
      refine rr_getI (v := I1 m 43) dX10_course_92 fg_X10_378 rfl (wX10_l hm) (wX10_s hm) rfl ?_
      exact r_iret dX10_course_95 rfl (hI1 _ _).inR ⟨Nat.zero_le _, Nat.zero_le _⟩ ⟨_, rfl, rfl, hFI1, hT⟩
theorem en_X10_course {E : jE} {G : jG} {I : jM} {q : Int → jM → Prop} {m : Nat} {x1 : Int} (hm : WX10 G m) (hT : (∀ a j, jRg (G.2.1 a).1 (I a j)) → jIn x1 → jRV E (jA m) kX10_layCourse [VR m] G I (fun I1 => (((x1 < 0 ∨ 5 < x1) → q (-1) I1) ∧ (x1 = 0 → q (I1 m 40) I1) ∧ (x1 = 1 → q (I1 m 41) I1) ∧ (x1 = 2 → q (I1 m 42) I1) ∧ (x1 = 3 → ((¬ (I1 m 40) = 1 → q (-1) I1) ∧ ((I1 m 40) = 1 → jIn ((I1 m 41) - (I1 m 42)) ∧ q ((I1 m 41) - (I1 m 42)) I1))) ∧ (x1 = 4 → ((0 : Int) ≤ (I1 m 41) ∧ ((I1 m 41) : Int) < 31) ∧ q (I1 (m + 25) (I1 m 41)) I1) ∧ (x1 = 5 → q (I1 m 43) I1)))) : jRI E (jA m) kX10_course [VR m, VI x1] G I q := jRun.of mt_X10_course.2.2.2 0 rfl (fun _ => st_X10_course_0 hm hT I (fun _ _ => rfl))
set_option maxRecDepth 20000 in
theorem st_X10_behindRounds_0 {E : jE} {G : jG} {I : jM} {q : Int → jM → Prop} {m : Nat} {x1 : Int} (hm : WX10 G m) (hT : (∀ a j, jRg (G.2.1 a).1 (I a j)) → jIn x1 → jRV E (jA m) kX10_layCourse [VR m] G I (fun I1 => (((I1 m 41) ≤ x1 → q (I1 m 41) I1) ∧ (¬ (I1 m 41) ≤ x1 → q x1 I1)))) : jOI E (jA m) kX10_behindRounds 0 [VR m, VI x1] G I q := by
  intro I0 hF
  refine jOk_mem (fun hI => ?_)
  refine jOk_in (i := 1) rfl (fun hx1 => ?_)
  replace hT := hT hI hx1
  refine r_aload_n dX10_behindRounds_0 rfl (i := 0) rfl ?_
  refine rr_cVV (a := m) (as := []) (st := []) dX10_behindRounds_1 mt_X10_layCourse ml_X10_399 mi_X10_layCourse rm_X10_behindRounds_X10_layCourse jz_X10_layCourse ⟨Nat.zero_le _, Nat.zero_le _⟩ (Nat.le_of_ble_eq_true rfl) (wX10_l hm) (wX10_c hm) jas0 hT (fun I1 hFI1 hT => ?_)
  replace hFI1 := jFr_tr hF hFI1
  refine jOk_mem (fun hI1 => ?_)
  refine r_iload_n dX10_behindRounds_4 rfl (i := 1) rfl ?_
  refine r_aload_n dX10_behindRounds_5 rfl (i := 0) rfl ?_
  refine rr_getI (v := I1 m 41) dX10_behindRounds_6 fg_X10_375 rfl (wX10_l hm) (wX10_s hm) rfl ?_
  refine r_icmp_ge (tgt := 16) dX10_behindRounds_9 rfl hx1 (hI1 _ _).inR (fun hcc => ?_) (fun hcc => ?_)
  · replace hT := hT.1 hcc
    refine r_aload_n dX10_behindRounds_16 rfl (i := 0) rfl ?_
    refine rr_getI (v := I1 m 41) dX10_behindRounds_17 fg_X10_375 rfl (wX10_l hm) (wX10_s hm) rfl ?_
    exact r_iret dX10_behindRounds_20 rfl (hI1 _ _).inR ⟨Nat.zero_le _, Nat.zero_le _⟩ ⟨_, rfl, rfl, hFI1, hT⟩
  · replace hT := hT.2 hcc
    refine r_iload_n dX10_behindRounds_12 rfl (i := 1) rfl ?_
    refine r_goto (tgt := 20) dX10_behindRounds_13 rfl ?_
    exact r_iret dX10_behindRounds_20 rfl hx1 ⟨Nat.zero_le _, Nat.zero_le _⟩ ⟨_, rfl, rfl, hFI1, hT⟩
theorem en_X10_behindRounds {E : jE} {G : jG} {I : jM} {q : Int → jM → Prop} {m : Nat} {x1 : Int} (hm : WX10 G m) (hT : (∀ a j, jRg (G.2.1 a).1 (I a j)) → jIn x1 → jRV E (jA m) kX10_layCourse [VR m] G I (fun I1 => (((I1 m 41) ≤ x1 → q (I1 m 41) I1) ∧ (¬ (I1 m 41) ≤ x1 → q x1 I1)))) : jRI E (jA m) kX10_behindRounds [VR m, VI x1] G I q := jRun.of mt_X10_behindRounds.2.2.2 0 rfl (fun _ => st_X10_behindRounds_0 hm hT I (fun _ _ => rfl))
set_option maxRecDepth 20000 in
theorem st_X10_later_0 {E : jE} {G : jG} {I : jM} {q : Int → jM → Prop} {m : Nat} {x1 : Int} {x2 : Int} (hm : WX10 G m) (hT : (∀ a j, jRg (G.2.1 a).1 (I a j)) → jIn x1 → jIn x2 → (((0 ≤ x1 ∧ x1 ≤ 30) → jRI E (jA m) kX10_behindRounds [VR m, VI x1] G I (fun r3 I2 => ((0 : Int) ≤ r3 ∧ (r3 : Int) < 31) ∧ jIn ((I2 (m + 25) r3) - 1) ∧ ((¬ (0 ≤ x2 ∧ x2 ≤ ((I2 (m + 25) r3) - 1)) → q (-1) I2) ∧ ((0 ≤ x2 ∧ x2 ≤ ((I2 (m + 25) r3) - 1)) → ((0 : Int) ≤ ((200 * r3) + x2) ∧ (((200 * r3) + x2) : Int) < 6200) ∧ q (I2 (m + 26) ((200 * r3) + x2)) I2)))) ∧ (¬ (0 ≤ x1 ∧ x1 ≤ 30) → q (-1) I))) : jOI E (jA m) kX10_later 0 [VR m, VI x1, VI x2, VN] G I q := by
  intro I0 hF
  refine jOk_mem (fun hI => ?_)
  refine jOk_in (i := 1) rfl (fun hx1 => ?_)
  refine jOk_in (i := 2) rfl (fun hx2 => ?_)
  replace hT := hT hI hx1 hx2
  refine r_iload_n dX10_later_0 rfl (i := 1) rfl ?_
  refine r_iconst (n := 0) dX10_later_1 ?_
  refine r_bipush (n := 30) dX10_later_2 (by decide +kernel) ?_
  refine rr_pSI (A := (jA m)) (v := jI (0 ≤ x1 ∧ x1 ≤ 30)) (as := [VI x1, VI 0, VI 30]) (st := []) dX10_later_4 mt_X10_isIn ml_X10_103 ms_X10_isIn rm_X10_later_X10_isIn jz_X10_isIn ⟨Nat.zero_le _, Nat.zero_le _⟩ (Nat.le_of_ble_eq_true rfl) (jasI hx1 (jasI ⟨by decide, by decide⟩ (jasI ⟨by decide, by decide⟩ jas0))) sp_X10_isIn (fun hc1 => ?_)
  refine r_if_ne (tgt := 12) dX10_later_7 rfl hc1 (fun hcc => ?_) (fun hcc => ?_)
  · replace hT := hT.1 (jI_p hcc)
    refine r_aload_n dX10_later_12 rfl (i := 0) rfl ?_
    refine r_iload_n dX10_later_13 rfl (i := 1) rfl ?_
    refine rr_cVI (a := m) (as := [VI x1]) (st := []) dX10_later_14 mt_X10_behindRounds ml_X10_405 mi_X10_behindRounds rm_X10_later_X10_behindRounds jz_X10_behindRounds ⟨Nat.zero_le _, Nat.zero_le _⟩ (Nat.le_of_ble_eq_true rfl) (wX10_l hm) (wX10_c hm) (jasI hx1 jas0) hT (fun r3 I2 hc4 hFI2 hT => ?_)
    replace hFI2 := jFr_tr hF hFI2
    refine jOk_mem (fun hI2 => ?_)
    refine rr_istore_n (i := 3) (ls' := [VR m, VI x1, VI x2, VI r3]) dX10_later_17 rfl (Nat.le_of_ble_eq_true rfl) rfl rfl hc4 ?_
    refine r_iload_n dX10_later_18 rfl (i := 2) rfl ?_
    refine r_iconst (n := 0) dX10_later_19 ?_
    refine r_aload_n dX10_later_20 rfl (i := 0) rfl ?_
    refine rr_getR (b := (m + 25)) dX10_later_21 fg_X10_87 rfl rfl (wX10_l hm) (wX10_s hm) (wX10_r36 hm) ?_
    refine r_iload_n dX10_later_24 rfl (i := 3) rfl ?_
    obtain ⟨hc5, hT⟩ := hT
    refine rr_iaload (v := I2 (m + 25) r3) dX10_later_25 (wX10_l36 hm) (wX10_a36 hm) (by decide) hc5 rfl ?_
    refine r_iconst (n := 1) dX10_later_26 ?_
    refine r_isub dX10_later_27 ?_
    obtain ⟨hc6, hT⟩ := hT
    refine rr_pSI (A := (jA m)) (v := jI (0 ≤ x2 ∧ x2 ≤ ((I2 (m + 25) r3) - 1))) (as := [VI x2, VI 0, VI ((I2 (m + 25) r3) - 1)]) (st := []) dX10_later_28 mt_X10_isIn ml_X10_103 ms_X10_isIn rm_X10_later_X10_isIn jz_X10_isIn ⟨Nat.zero_le _, Nat.zero_le _⟩ (Nat.le_of_ble_eq_true rfl) (jasI hx2 (jasI ⟨by decide, by decide⟩ (jasI hc6 jas0))) sp_X10_isIn (fun hc7 => ?_)
    refine r_if_eq (tgt := 49) dX10_later_31 rfl hc7 (fun hcc => ?_) (fun hcc => ?_)
    · replace hT := hT.1 (jI_n hcc)
      refine r_iconst (n := (-1)) dX10_later_49 ?_
      exact r_iret dX10_later_50 rfl ⟨by decide, by decide⟩ ⟨Nat.zero_le _, Nat.zero_le _⟩ ⟨_, rfl, rfl, hFI2, hT⟩
    · replace hT := hT.2 (jI_p hcc)
      refine r_aload_n dX10_later_34 rfl (i := 0) rfl ?_
      refine rr_getR (b := (m + 26)) dX10_later_35 fg_X10_90 rfl rfl (wX10_l hm) (wX10_s hm) (wX10_r37 hm) ?_
      refine r_sipush (n := 200) dX10_later_38 (by decide +kernel) ?_
      refine r_iload_n dX10_later_41 rfl (i := 3) rfl ?_
      refine r_imul dX10_later_42 ?_
      refine r_iload_n dX10_later_43 rfl (i := 2) rfl ?_
      refine r_iadd dX10_later_44 ?_
      obtain ⟨hc8, hT⟩ := hT
      refine rr_iaload (v := I2 (m + 26) ((200 * r3) + x2)) dX10_later_45 (wX10_l37 hm) (wX10_a37 hm) (by decide) hc8 rfl ?_
      refine r_goto (tgt := 50) dX10_later_46 rfl ?_
      exact r_iret dX10_later_50 rfl (hI2 _ _).inR ⟨Nat.zero_le _, Nat.zero_le _⟩ ⟨_, rfl, rfl, hFI2, hT⟩
  · replace hT := hT.2 (jI_n hcc)
    refine r_iconst (n := (-1)) dX10_later_10 ?_
    exact r_iret dX10_later_11 rfl ⟨by decide, by decide⟩ ⟨Nat.zero_le _, Nat.zero_le _⟩ ⟨_, rfl, rfl, hF, hT⟩
theorem en_X10_later {E : jE} {G : jG} {I : jM} {q : Int → jM → Prop} {m : Nat} {x1 : Int} {x2 : Int} (hm : WX10 G m) (hT : (∀ a j, jRg (G.2.1 a).1 (I a j)) → jIn x1 → jIn x2 → (((0 ≤ x1 ∧ x1 ≤ 30) → jRI E (jA m) kX10_behindRounds [VR m, VI x1] G I (fun r3 I2 => ((0 : Int) ≤ r3 ∧ (r3 : Int) < 31) ∧ jIn ((I2 (m + 25) r3) - 1) ∧ ((¬ (0 ≤ x2 ∧ x2 ≤ ((I2 (m + 25) r3) - 1)) → q (-1) I2) ∧ ((0 ≤ x2 ∧ x2 ≤ ((I2 (m + 25) r3) - 1)) → ((0 : Int) ≤ ((200 * r3) + x2) ∧ (((200 * r3) + x2) : Int) < 6200) ∧ q (I2 (m + 26) ((200 * r3) + x2)) I2)))) ∧ (¬ (0 ≤ x1 ∧ x1 ≤ 30) → q (-1) I))) : jRI E (jA m) kX10_later [VR m, VI x1, VI x2] G I q := jRun.of mt_X10_later.2.2.2 1 rfl (fun _ => st_X10_later_0 hm hT I (fun _ _ => rfl))
set_option maxRecDepth 20000 in
theorem st_X10_digest_23 {E : jE} {G : jG} {I : jM} {q : Int → jM → Prop} {m : Nat} {x1 : Int} {x2 : Int} {x3 : Int} {x4 : Int} (hm : WX10 G m) (hT : (∀ a j, jRg (G.2.1 a).1 (I a j)) → jIn x1 → jIn x2 → jIn x3 → jIn x4 → ((0 : Int) ≤ x2 ∧ (x2 : Int) < 31) ∧ (((I (m + 25) x2) ≤ x4 → q x3 I) ∧ (¬ (I (m + 25) x2) ≤ x4 → ((0 : Int) ≤ ((200 * x2) + x4) ∧ (((200 * x2) + x4) : Int) < 6200) ∧ jIn (x4 + 1) ∧ jOI E (jA m) kX10_digest 23 [VR m, VI x1, VI x2, VI (jw ((31 * x3) + (I (m + 26) ((200 * x2) + x4)))), VI (x4 + 1)] G I q))) : jOI E (jA m) kX10_digest 23 [VR m, VI x1, VI x2, VI x3, VI x4] G I q := by
  intro I0 hF
  refine jOk_mem (fun hI => ?_)
  refine jOk_in (i := 1) rfl (fun hx1 => ?_)
  refine jOk_in (i := 2) rfl (fun hx2 => ?_)
  refine jOk_in (i := 3) rfl (fun hx3 => ?_)
  refine jOk_in (i := 4) rfl (fun hx4 => ?_)
  replace hT := hT hI hx1 hx2 hx3 hx4
  refine r_iload dX10_digest_23 (i := 4) rfl ?_
  refine r_aload_n dX10_digest_25 rfl (i := 0) rfl ?_
  refine rr_getR (b := (m + 25)) dX10_digest_26 fg_X10_87 rfl rfl (wX10_l hm) (wX10_s hm) (wX10_r36 hm) ?_
  refine r_iload_n dX10_digest_29 rfl (i := 2) rfl ?_
  obtain ⟨hc1, hT⟩ := hT
  refine rr_iaload (v := I (m + 25) x2) dX10_digest_30 (wX10_l36 hm) (wX10_a36 hm) (by decide) hc1 rfl ?_
  refine r_icmp_ge (tgt := 59) dX10_digest_31 rfl hx4 (hI _ _).inR (fun hcc => ?_) (fun hcc => ?_)
  · replace hT := hT.1 hcc
    refine r_iload_n dX10_digest_59 rfl (i := 3) rfl ?_
    exact r_iret dX10_digest_60 rfl hx3 ⟨Nat.zero_le _, Nat.zero_le _⟩ ⟨_, rfl, rfl, hF, hT⟩
  · replace hT := hT.2 hcc
    refine r_bipush (n := 31) dX10_digest_34 (by decide +kernel) ?_
    refine r_iload_n dX10_digest_36 rfl (i := 3) rfl ?_
    refine r_imul dX10_digest_37 ?_
    refine r_aload_n dX10_digest_38 rfl (i := 0) rfl ?_
    refine rr_getR (b := (m + 26)) dX10_digest_39 fg_X10_90 rfl rfl (wX10_l hm) (wX10_s hm) (wX10_r37 hm) ?_
    refine r_sipush (n := 200) dX10_digest_42 (by decide +kernel) ?_
    refine r_iload_n dX10_digest_45 rfl (i := 2) rfl ?_
    refine r_imul dX10_digest_46 ?_
    refine r_iload dX10_digest_47 (i := 4) rfl ?_
    refine r_iadd dX10_digest_49 ?_
    obtain ⟨hc2, hT⟩ := hT
    refine rr_iaload (v := I (m + 26) ((200 * x2) + x4)) dX10_digest_50 (wX10_l37 hm) (wX10_a37 hm) (by decide) hc2 rfl ?_
    refine r_iadd dX10_digest_51 ?_
    refine r_w ?_
    refine rr_istore_n (i := 3) (ls' := [VR m, VI x1, VI x2, VI (jw ((31 * x3) + (I (m + 26) ((200 * x2) + x4)))), VI x4]) dX10_digest_52 rfl (Nat.le_of_ble_eq_true rfl) rfl rfl (j32_in _) ?_
    obtain ⟨hc3, hT⟩ := hT
    refine rr_iinc (i := 4) (ls' := [VR m, VI x1, VI x2, VI (jw ((31 * x3) + (I (m + 26) ((200 * x2) + x4)))), VI (x4 + 1)]) dX10_digest_53 rfl (Nat.le_of_ble_eq_true rfl) rfl rfl hc3 ?_
    refine r_goto (tgt := 23) dX10_digest_56 rfl ?_
    exact hT I0 hF
set_option maxRecDepth 20000 in
theorem st_X10_digest_0 {E : jE} {G : jG} {I : jM} {q : Int → jM → Prop} {m : Nat} {x1 : Int} (hm : WX10 G m) (hT : (∀ a j, jRg (G.2.1 a).1 (I a j)) → jIn x1 → (((0 ≤ x1 ∧ x1 ≤ 30) → jRI E (jA m) kX10_behindRounds [VR m, VI x1] G I (fun r3 I2 => jOI E (jA m) kX10_digest 23 [VR m, VI x1, VI r3, VI 0, VI 0] G I2 q)) ∧ (¬ (0 ≤ x1 ∧ x1 ≤ 30) → q 0 I))) : jOI E (jA m) kX10_digest 0 [VR m, VI x1, VN, VN, VN] G I q := by
  intro I0 hF
  refine jOk_mem (fun hI => ?_)
  refine jOk_in (i := 1) rfl (fun hx1 => ?_)
  replace hT := hT hI hx1
  refine r_iload_n dX10_digest_0 rfl (i := 1) rfl ?_
  refine r_iconst (n := 0) dX10_digest_1 ?_
  refine r_bipush (n := 30) dX10_digest_2 (by decide +kernel) ?_
  refine rr_pSI (A := (jA m)) (v := jI (0 ≤ x1 ∧ x1 ≤ 30)) (as := [VI x1, VI 0, VI 30]) (st := []) dX10_digest_4 mt_X10_isIn ml_X10_103 ms_X10_isIn rm_X10_digest_X10_isIn jz_X10_isIn ⟨Nat.zero_le _, Nat.zero_le _⟩ (Nat.le_of_ble_eq_true rfl) (jasI hx1 (jasI ⟨by decide, by decide⟩ (jasI ⟨by decide, by decide⟩ jas0))) sp_X10_isIn (fun hc1 => ?_)
  refine r_if_ne (tgt := 12) dX10_digest_7 rfl hc1 (fun hcc => ?_) (fun hcc => ?_)
  · replace hT := hT.1 (jI_p hcc)
    refine r_aload_n dX10_digest_12 rfl (i := 0) rfl ?_
    refine r_iload_n dX10_digest_13 rfl (i := 1) rfl ?_
    refine rr_cVI (a := m) (as := [VI x1]) (st := []) dX10_digest_14 mt_X10_behindRounds ml_X10_405 mi_X10_behindRounds rm_X10_digest_X10_behindRounds jz_X10_behindRounds ⟨Nat.zero_le _, Nat.zero_le _⟩ (Nat.le_of_ble_eq_true rfl) (wX10_l hm) (wX10_c hm) (jasI hx1 jas0) hT (fun r3 I2 hc4 hFI2 hT => ?_)
    replace hFI2 := jFr_tr hF hFI2
    refine jOk_mem (fun hI2 => ?_)
    refine rr_istore_n (i := 2) (ls' := [VR m, VI x1, VI r3, VN, VN]) dX10_digest_17 rfl (Nat.le_of_ble_eq_true rfl) rfl rfl hc4 ?_
    refine r_iconst (n := 0) dX10_digest_18 ?_
    refine rr_istore_n (i := 3) (ls' := [VR m, VI x1, VI r3, VI 0, VN]) dX10_digest_19 rfl (Nat.le_of_ble_eq_true rfl) rfl rfl ⟨by decide, by decide⟩ ?_
    refine r_iconst (n := 0) dX10_digest_20 ?_
    refine rr_istore (i := 4) (ls' := [VR m, VI x1, VI r3, VI 0, VI 0]) dX10_digest_21 (Nat.le_of_ble_eq_true rfl) rfl rfl ⟨by decide, by decide⟩ ?_
    exact hT I0 hFI2
  · replace hT := hT.2 (jI_n hcc)
    refine r_iconst (n := 0) dX10_digest_10 ?_
    exact r_iret dX10_digest_11 rfl ⟨by decide, by decide⟩ ⟨Nat.zero_le _, Nat.zero_le _⟩ ⟨_, rfl, rfl, hF, hT⟩
theorem en_X10_digest {E : jE} {G : jG} {I : jM} {q : Int → jM → Prop} {m : Nat} {x1 : Int} (hm : WX10 G m) (hT : (∀ a j, jRg (G.2.1 a).1 (I a j)) → jIn x1 → (((0 ≤ x1 ∧ x1 ≤ 30) → jRI E (jA m) kX10_behindRounds [VR m, VI x1] G I (fun r3 I2 => jOI E (jA m) kX10_digest 23 [VR m, VI x1, VI r3, VI 0, VI 0] G I2 q)) ∧ (¬ (0 ≤ x1 ∧ x1 ≤ 30) → q 0 I))) : jRI E (jA m) kX10_digest [VR m, VI x1] G I q := jRun.of mt_X10_digest.2.2.2 3 rfl (fun _ => st_X10_digest_0 hm hT I (fun _ _ => rfl))
set_option maxRecDepth 20000 in
theorem st_X10_used_0 {E : jE} {G : jG} {I : jM} {q : Int → jM → Prop} {m : Nat} (hm : WX10 G m) (hT : (∀ a j, jRg (G.2.1 a).1 (I a j)) → jRV E (jA m) kX10_layCourse [VR m] G I (fun I1 => jRI E (jA m) kX10_madeFrom [VR m, VI 0] G I1 (fun r3 I2 => q r3 I2))) : jOI E (jA m) kX10_used 0 [VR m] G I q := by
  intro I0 hF
  refine jOk_mem (fun hI => ?_)
  replace hT := hT hI 
  refine r_aload_n dX10_used_0 rfl (i := 0) rfl ?_
  refine rr_cVV (a := m) (as := []) (st := []) dX10_used_1 mt_X10_layCourse ml_X10_399 mi_X10_layCourse rm_X10_used_X10_layCourse jz_X10_layCourse ⟨Nat.zero_le _, Nat.zero_le _⟩ (Nat.le_of_ble_eq_true rfl) (wX10_l hm) (wX10_c hm) jas0 hT (fun I1 hFI1 hT => ?_)
  replace hFI1 := jFr_tr hF hFI1
  refine jOk_mem (fun hI1 => ?_)
  refine r_aload_n dX10_used_4 rfl (i := 0) rfl ?_
  refine r_iconst (n := 0) dX10_used_5 ?_
  refine rr_cVI (a := m) (as := [VI 0]) (st := []) dX10_used_6 mt_X10_madeFrom ml_X10_402 mi_X10_madeFrom rm_X10_used_X10_madeFrom jz_X10_madeFrom ⟨Nat.zero_le _, Nat.zero_le _⟩ (Nat.le_of_ble_eq_true rfl) (wX10_l hm) (wX10_c hm) (jasI ⟨by decide, by decide⟩ jas0) hT (fun r3 I2 hc4 hFI2 hT => ?_)
  replace hFI2 := jFr_tr hFI1 hFI2
  refine jOk_mem (fun hI2 => ?_)
  exact r_iret dX10_used_9 rfl hc4 ⟨Nat.zero_le _, Nat.zero_le _⟩ ⟨_, rfl, rfl, hFI2, hT⟩
theorem en_X10_used {E : jE} {G : jG} {I : jM} {q : Int → jM → Prop} {m : Nat} (hm : WX10 G m) (hT : (∀ a j, jRg (G.2.1 a).1 (I a j)) → jRV E (jA m) kX10_layCourse [VR m] G I (fun I1 => jRI E (jA m) kX10_madeFrom [VR m, VI 0] G I1 (fun r3 I2 => q r3 I2))) : jRI E (jA m) kX10_used [VR m] G I q := jRun.of mt_X10_used.2.2.2 0 rfl (fun _ => st_X10_used_0 hm hT I (fun _ _ => rfl))
set_option maxRecDepth 20000 in
theorem st_X10_many_4 {E : jE} {A : Nat → Prop} {G : jG} {I : jM} {q : Int → jM → Prop} {x0 : Int} {x1 : Int} {x2 : Int}  (hT : (∀ a j, jRg (G.2.1 a).1 (I a j)) → jIn x0 → jIn x1 → jIn x2 → ((x2 = 0 → q x1 I) ∧ (¬ x2 = 0 → jIn (x1 + 1) ∧ jOI E A kX10_many 4 [VI x0, VI (x1 + 1), VI (jand x2 (x2 - 1))] G I q))) : jOI E A kX10_many 4 [VI x0, VI x1, VI x2] G I q := by
  intro I0 hF
  refine jOk_mem (fun hI => ?_)
  refine jOk_in (i := 0) rfl (fun hx0 => ?_)
  refine jOk_in (i := 1) rfl (fun hx1 => ?_)
  refine jOk_in (i := 2) rfl (fun hx2 => ?_)
  replace hT := hT hI hx0 hx1 hx2
  refine r_iload_n dX10_many_4 rfl (i := 2) rfl ?_
  refine r_if_eq (tgt := 20) dX10_many_5 rfl hx2 (fun hcc => ?_) (fun hcc => ?_)
  · replace hT := hT.1 hcc
    refine r_iload_n dX10_many_20 rfl (i := 1) rfl ?_
    exact r_iret dX10_many_21 rfl hx1 ⟨Nat.zero_le _, Nat.zero_le _⟩ ⟨_, rfl, rfl, hF, hT⟩
  · replace hT := hT.2 hcc
    obtain ⟨hc1, hT⟩ := hT
    refine rr_iinc (i := 1) (ls' := [VI x0, VI (x1 + 1), VI x2]) dX10_many_8 rfl (Nat.le_of_ble_eq_true rfl) rfl rfl hc1 ?_
    refine r_iload_n dX10_many_11 rfl (i := 2) rfl ?_
    refine r_iload_n dX10_many_12 rfl (i := 2) rfl ?_
    refine r_iconst (n := 1) dX10_many_13 ?_
    refine r_isub dX10_many_14 ?_
    refine r_iand dX10_many_15 ?_
    refine rr_istore_n (i := 2) (ls' := [VI x0, VI (x1 + 1), VI (jand x2 (x2 - 1))]) dX10_many_16 rfl (Nat.le_of_ble_eq_true rfl) rfl rfl (j32_in _) ?_
    refine r_goto (tgt := 4) dX10_many_17 rfl ?_
    exact hT I0 hF
set_option maxRecDepth 20000 in
theorem st_X10_many_0 {E : jE} {A : Nat → Prop} {G : jG} {I : jM} {q : Int → jM → Prop} {x0 : Int}  (hT : (∀ a j, jRg (G.2.1 a).1 (I a j)) → jIn x0 → jOI E A kX10_many 4 [VI x0, VI 0, VI x0] G I q) : jOI E A kX10_many 0 [VI x0, VN, VN] G I q := by
  intro I0 hF
  refine jOk_mem (fun hI => ?_)
  refine jOk_in (i := 0) rfl (fun hx0 => ?_)
  replace hT := hT hI hx0
  refine r_iconst (n := 0) dX10_many_0 ?_
  refine rr_istore_n (i := 1) (ls' := [VI x0, VI 0, VN]) dX10_many_1 rfl (Nat.le_of_ble_eq_true rfl) rfl rfl ⟨by decide, by decide⟩ ?_
  refine r_iload_n dX10_many_2 rfl (i := 0) rfl ?_
  refine rr_istore_n (i := 2) (ls' := [VI x0, VI 0, VI x0]) dX10_many_3 rfl (Nat.le_of_ble_eq_true rfl) rfl rfl hx0 ?_
  exact hT I0 hF
theorem en_X10_many {E : jE} {A : Nat → Prop} {G : jG} {I : jM} {q : Int → jM → Prop} {x0 : Int}  (hT : (∀ a j, jRg (G.2.1 a).1 (I a j)) → jIn x0 → jOI E A kX10_many 4 [VI x0, VI 0, VI x0] G I q) : jRI E A kX10_many [VI x0] G I q := jRun.of mt_X10_many.2.2.2 2 rfl (fun _ => st_X10_many_0  hT I (fun _ _ => rfl))
set_option maxRecDepth 20000 in
theorem st_X10_cure_109 {E : jE} {G : jG} {I : jM} {q : Int → jM → Prop} {m : Nat} {x1 : Int} {x2 : Int} {x3 : Int} (hm : WX10 G m) (hT : (∀ a j, jRg (G.2.1 a).1 (I a j)) → jIn x1 → jIn x2 → jIn x3 → (((I (m + 1) 4) ≤ x3 → q x1 I) ∧ (¬ (I (m + 1) 4) ≤ x3 → ((0 : Int) ≤ ((514 + (40 * x3)) + 1) ∧ (((514 + (40 * x3)) + 1) : Int) < 22094) ∧ (∀ M3, M3 = jup I (m + 1) ((514 + (40 * x3)) + 1) (jand (jshr x2 x3) 1) → jIn (x3 + 1) ∧ jOI E (jA m) kX10_cure 109 [VR m, VI x1, VI x2, VI (x3 + 1), VN] G M3 q)))) : jOI E (jA m) kX10_cure 109 [VR m, VI x1, VI x2, VI x3, VN] G I q := by
  intro I0 hF
  refine jOk_mem (fun hI => ?_)
  refine jOk_in (i := 1) rfl (fun hx1 => ?_)
  refine jOk_in (i := 2) rfl (fun hx2 => ?_)
  refine jOk_in (i := 3) rfl (fun hx3 => ?_)
  replace hT := hT hI hx1 hx2 hx3
  refine r_iload_n dX10_cure_109 rfl (i := 3) rfl ?_
  refine r_aload_n dX10_cure_110 rfl (i := 0) rfl ?_
  refine rr_getR (b := (m + 1)) dX10_cure_111 fg_X10_7 rfl rfl (wX10_l hm) (wX10_s hm) (wX10_r0 hm) ?_
  refine r_iconst (n := 4) dX10_cure_114 ?_
  refine rr_iaload (v := I (m + 1) 4) dX10_cure_115 (wX10_l0 hm) (wX10_a0 hm) (by decide) ⟨by decide, by decide⟩ rfl ?_
  refine r_icmp_ge (tgt := 145) dX10_cure_116 rfl hx3 (hI _ _).inR (fun hcc => ?_) (fun hcc => ?_)
  · replace hT := hT.1 hcc
    refine r_iload_n dX10_cure_145 rfl (i := 1) rfl ?_
    exact r_iret dX10_cure_146 rfl hx1 ⟨Nat.zero_le _, Nat.zero_le _⟩ ⟨_, rfl, rfl, hF, hT⟩
  · replace hT := hT.2 hcc
    refine r_aload_n dX10_cure_119 rfl (i := 0) rfl ?_
    refine rr_getR (b := (m + 1)) dX10_cure_120 fg_X10_7 rfl rfl (wX10_l hm) (wX10_s hm) (wX10_r0 hm) ?_
    refine r_sipush (n := 514) dX10_cure_123 (by decide +kernel) ?_
    refine r_bipush (n := 40) dX10_cure_126 (by decide +kernel) ?_
    refine r_iload_n dX10_cure_128 rfl (i := 3) rfl ?_
    refine r_imul dX10_cure_129 ?_
    refine r_iadd dX10_cure_130 ?_
    refine r_iconst (n := 1) dX10_cure_131 ?_
    refine r_iadd dX10_cure_132 ?_
    refine r_iload_n dX10_cure_133 rfl (i := 2) rfl ?_
    refine r_iload_n dX10_cure_134 rfl (i := 3) rfl ?_
    refine r_ishr dX10_cure_135 ?_
    refine r_iconst (n := 1) dX10_cure_136 ?_
    refine r_iand dX10_cure_137 ?_
    obtain ⟨hc2, hT⟩ := hT
    refine rr_iastore dX10_cure_138 (wX10_l0 hm) (wX10_a0 hm) (by decide) hc2 (j32_in _) (fun M3 eM3 => ?_)
    have hFM3 := jFr_up hF eM3 (wX10_f hm 1 (by decide))
    replace hT := hT M3 eM3
    refine jOk_mem (fun hIM3 => ?_)
    obtain ⟨hc4, hT⟩ := hT
    refine rr_iinc (i := 3) (ls' := [VR m, VI x1, VI x2, VI (x3 + 1), VN]) dX10_cure_139 rfl (Nat.le_of_ble_eq_true rfl) rfl rfl hc4 ?_
    refine r_goto (tgt := 109) dX10_cure_142 rfl ?_
    exact hT I0 hFM3
set_option maxRecDepth 20000 in
theorem st_X10_cure_45 {E : jE} {G : jG} {I : jM} {q : Int → jM → Prop} {m : Nat} {x1 : Int} {x2 : Int} {x3 : Int} {x4 : Int} (hm : WX10 G m) (hT : (∀ a j, jRg (G.2.1 a).1 (I a j)) → jIn x1 → jIn x2 → jIn x3 → jIn x4 → (((I (m + 1) 4) ≤ x4 → jRV E (jA m) kX10_layCourse [VR m] G I (fun I2 => ((¬ (I2 m 40) = 0 → jIn (x3 + 1) ∧ jOI E (jA m) kX10_cure 9 [VR m, VI x1, VI x2, VI (x3 + 1), VN] G I2 q) ∧ ((I2 m 40) = 0 → jIn (x3 + 1) ∧ jOI E (jA m) kX10_cure 9 [VR m, VI x3, VI x2, VI (x3 + 1), VN] G I2 q)))) ∧ (¬ (I (m + 1) 4) ≤ x4 → ((0 : Int) ≤ ((514 + (40 * x4)) + 1) ∧ (((514 + (40 * x4)) + 1) : Int) < 22094) ∧ (∀ M6, M6 = jup I (m + 1) ((514 + (40 * x4)) + 1) (jand (jshr (jand x2 (jxor x3 (-1))) x4) 1) → jIn (x4 + 1) ∧ jOI E (jA m) kX10_cure 45 [VR m, VI x1, VI x2, VI x3, VI (x4 + 1)] G M6 q)))) : jOI E (jA m) kX10_cure 45 [VR m, VI x1, VI x2, VI x3, VI x4] G I q := by
  intro I0 hF
  refine jOk_mem (fun hI => ?_)
  refine jOk_in (i := 1) rfl (fun hx1 => ?_)
  refine jOk_in (i := 2) rfl (fun hx2 => ?_)
  refine jOk_in (i := 3) rfl (fun hx3 => ?_)
  refine jOk_in (i := 4) rfl (fun hx4 => ?_)
  replace hT := hT hI hx1 hx2 hx3 hx4
  refine r_iload dX10_cure_45 (i := 4) rfl ?_
  refine r_aload_n dX10_cure_47 rfl (i := 0) rfl ?_
  refine rr_getR (b := (m + 1)) dX10_cure_48 fg_X10_7 rfl rfl (wX10_l hm) (wX10_s hm) (wX10_r0 hm) ?_
  refine r_iconst (n := 4) dX10_cure_51 ?_
  refine rr_iaload (v := I (m + 1) 4) dX10_cure_52 (wX10_l0 hm) (wX10_a0 hm) (by decide) ⟨by decide, by decide⟩ rfl ?_
  refine r_icmp_ge (tgt := 88) dX10_cure_53 rfl hx4 (hI _ _).inR (fun hcc => ?_) (fun hcc => ?_)
  · replace hT := hT.1 hcc
    refine r_aload_n dX10_cure_88 rfl (i := 0) rfl ?_
    refine rr_cVV (a := m) (as := []) (st := []) dX10_cure_89 mt_X10_layCourse ml_X10_399 mi_X10_layCourse rm_X10_cure_X10_layCourse jz_X10_layCourse ⟨Nat.zero_le _, Nat.zero_le _⟩ (Nat.le_of_ble_eq_true rfl) (wX10_l hm) (wX10_c hm) jas0 hT (fun I2 hFI2 hT => ?_)
    replace hFI2 := jFr_tr hF hFI2
    refine jOk_mem (fun hI2 => ?_)
    refine r_aload_n dX10_cure_92 rfl (i := 0) rfl ?_
    refine rr_getI (v := I2 m 40) dX10_cure_93 fg_X10_390 rfl (wX10_l hm) (wX10_s hm) rfl ?_
    refine r_if_ne (tgt := 101) dX10_cure_96 rfl (hI2 _ _).inR (fun hcc => ?_) (fun hcc => ?_)
    · replace hT := hT.1 hcc
      obtain ⟨hc3, hT⟩ := hT
      refine rr_iinc (i := 3) (ls' := [VR m, VI x1, VI x2, VI (x3 + 1), VI x4]) dX10_cure_101 rfl (Nat.le_of_ble_eq_true rfl) rfl rfl hc3 ?_
      refine r_goto (tgt := 9) dX10_cure_104 rfl ?_
      exact jOk_le (ls' := [VR m, VI x1, VI x2, VI (x3 + 1), VN]) ⟨Or.inr rfl, Or.inr rfl, Or.inr rfl, Or.inr rfl, Or.inl rfl, trivial⟩ (hT I0 hFI2)
    · replace hT := hT.2 hcc
      refine r_iload_n dX10_cure_99 rfl (i := 3) rfl ?_
      refine rr_istore_n (i := 1) (ls' := [VR m, VI x3, VI x2, VI x3, VI x4]) dX10_cure_100 rfl (Nat.le_of_ble_eq_true rfl) rfl rfl hx3 ?_
      obtain ⟨hc4, hT⟩ := hT
      refine rr_iinc (i := 3) (ls' := [VR m, VI x3, VI x2, VI (x3 + 1), VI x4]) dX10_cure_101 rfl (Nat.le_of_ble_eq_true rfl) rfl rfl hc4 ?_
      refine r_goto (tgt := 9) dX10_cure_104 rfl ?_
      exact jOk_le (ls' := [VR m, VI x3, VI x2, VI (x3 + 1), VN]) ⟨Or.inr rfl, Or.inr rfl, Or.inr rfl, Or.inr rfl, Or.inl rfl, trivial⟩ (hT I0 hFI2)
  · replace hT := hT.2 hcc
    refine r_aload_n dX10_cure_56 rfl (i := 0) rfl ?_
    refine rr_getR (b := (m + 1)) dX10_cure_57 fg_X10_7 rfl rfl (wX10_l hm) (wX10_s hm) (wX10_r0 hm) ?_
    refine r_sipush (n := 514) dX10_cure_60 (by decide +kernel) ?_
    refine r_bipush (n := 40) dX10_cure_63 (by decide +kernel) ?_
    refine r_iload dX10_cure_65 (i := 4) rfl ?_
    refine r_imul dX10_cure_67 ?_
    refine r_iadd dX10_cure_68 ?_
    refine r_iconst (n := 1) dX10_cure_69 ?_
    refine r_iadd dX10_cure_70 ?_
    refine r_iload_n dX10_cure_71 rfl (i := 2) rfl ?_
    refine r_iload_n dX10_cure_72 rfl (i := 3) rfl ?_
    refine r_iconst (n := (-1)) dX10_cure_73 ?_
    refine r_ixor dX10_cure_74 ?_
    refine r_iand dX10_cure_75 ?_
    refine r_iload dX10_cure_76 (i := 4) rfl ?_
    refine r_ishr dX10_cure_78 ?_
    refine r_iconst (n := 1) dX10_cure_79 ?_
    refine r_iand dX10_cure_80 ?_
    obtain ⟨hc5, hT⟩ := hT
    refine rr_iastore dX10_cure_81 (wX10_l0 hm) (wX10_a0 hm) (by decide) hc5 (j32_in _) (fun M6 eM6 => ?_)
    have hFM6 := jFr_up hF eM6 (wX10_f hm 1 (by decide))
    replace hT := hT M6 eM6
    refine jOk_mem (fun hIM6 => ?_)
    obtain ⟨hc7, hT⟩ := hT
    refine rr_iinc (i := 4) (ls' := [VR m, VI x1, VI x2, VI x3, VI (x4 + 1)]) dX10_cure_82 rfl (Nat.le_of_ble_eq_true rfl) rfl rfl hc7 ?_
    refine r_goto (tgt := 45) dX10_cure_85 rfl ?_
    exact hT I0 hFM6
set_option maxRecDepth 20000 in
theorem st_X10_cure_9 {E : jE} {G : jG} {I : jM} {q : Int → jM → Prop} {m : Nat} {x1 : Int} {x2 : Int} {x3 : Int} (hm : WX10 G m) (hT : (∀ a j, jRg (G.2.1 a).1 (I a j)) → jIn x1 → jIn x2 → jIn x3 → ((64 ≤ x3 → jOI E (jA m) kX10_cure 109 [VR m, VI x1, VI x2, VI 0, VN] G I q) ∧ (¬ 64 ≤ x3 → ((¬ (jand x3 (jxor x2 (-1))) = 0 → jIn (x3 + 1) ∧ jOI E (jA m) kX10_cure 9 [VR m, VI x1, VI x2, VI (x3 + 1), VN] G I q) ∧ ((jand x3 (jxor x2 (-1))) = 0 → ((x1 = (-1) → jOI E (jA m) kX10_cure 45 [VR m, VI x1, VI x2, VI x3, VI 0] G I q) ∧ (¬ x1 = (-1) → jRI E (jA m) kX10_many [VI x3] G I (fun r3 I2 => jRI E (jA m) kX10_many [VI x1] G I2 (fun r6 I5 => ((r3 < r6 → jOI E (jA m) kX10_cure 45 [VR m, VI x1, VI x2, VI x3, VI 0] G I5 q) ∧ (¬ r3 < r6 → jIn (x3 + 1) ∧ jOI E (jA m) kX10_cure 9 [VR m, VI x1, VI x2, VI (x3 + 1), VN] G I5 q))))))))))) : jOI E (jA m) kX10_cure 9 [VR m, VI x1, VI x2, VI x3, VN] G I q := by
  intro I0 hF
  refine jOk_mem (fun hI => ?_)
  refine jOk_in (i := 1) rfl (fun hx1 => ?_)
  refine jOk_in (i := 2) rfl (fun hx2 => ?_)
  refine jOk_in (i := 3) rfl (fun hx3 => ?_)
  replace hT := hT hI hx1 hx2 hx3
  refine r_iload_n dX10_cure_9 rfl (i := 3) rfl ?_
  refine r_bipush (n := 64) dX10_cure_10 (by decide +kernel) ?_
  refine r_icmp_ge (tgt := 107) dX10_cure_12 rfl hx3 ⟨by decide, by decide⟩ (fun hcc => ?_) (fun hcc => ?_)
  · replace hT := hT.1 hcc
    refine r_iconst (n := 0) dX10_cure_107 ?_
    refine rr_istore_n (i := 3) (ls' := [VR m, VI x1, VI x2, VI 0, VN]) dX10_cure_108 rfl (Nat.le_of_ble_eq_true rfl) rfl rfl ⟨by decide, by decide⟩ ?_
    exact hT I0 hF
  · replace hT := hT.2 hcc
    refine r_iload_n dX10_cure_15 rfl (i := 3) rfl ?_
    refine r_iload_n dX10_cure_16 rfl (i := 2) rfl ?_
    refine r_iconst (n := (-1)) dX10_cure_17 ?_
    refine r_ixor dX10_cure_18 ?_
    refine r_iand dX10_cure_19 ?_
    refine r_if_ne (tgt := 101) dX10_cure_20 rfl (j32_in _) (fun hcc => ?_) (fun hcc => ?_)
    · replace hT := hT.1 hcc
      obtain ⟨hc1, hT⟩ := hT
      refine rr_iinc (i := 3) (ls' := [VR m, VI x1, VI x2, VI (x3 + 1), VN]) dX10_cure_101 rfl (Nat.le_of_ble_eq_true rfl) rfl rfl hc1 ?_
      refine r_goto (tgt := 9) dX10_cure_104 rfl ?_
      exact hT I0 hF
    · replace hT := hT.2 hcc
      refine r_iload_n dX10_cure_23 rfl (i := 1) rfl ?_
      refine r_iconst (n := (-1)) dX10_cure_24 ?_
      refine r_icmp_eq (tgt := 42) dX10_cure_25 rfl hx1 ⟨by decide, by decide⟩ (fun hcc => ?_) (fun hcc => ?_)
      · replace hT := hT.1 hcc
        refine r_iconst (n := 0) dX10_cure_42 ?_
        refine rr_istore (i := 4) (ls' := [VR m, VI x1, VI x2, VI x3, VI 0]) dX10_cure_43 (Nat.le_of_ble_eq_true rfl) rfl rfl ⟨by decide, by decide⟩ ?_
        exact hT I0 hF
      · replace hT := hT.2 hcc
        refine r_iload_n dX10_cure_28 rfl (i := 3) rfl ?_
        refine rr_cSI (as := [VI x3]) (st := []) dX10_cure_29 mt_X10_many ml_X10_408 ms_X10_many rm_X10_cure_X10_many jz_X10_many ⟨Nat.zero_le _, Nat.zero_le _⟩ (Nat.le_of_ble_eq_true rfl) (jasI hx3 jas0) hT (fun r3 I2 hc4 hFI2 hT => ?_)
        replace hFI2 := jFr_tr hF hFI2
        refine jOk_mem (fun hI2 => ?_)
        refine r_iload_n dX10_cure_32 rfl (i := 1) rfl ?_
        refine rr_cSI (as := [VI x1]) (st := [VI r3]) dX10_cure_33 mt_X10_many ml_X10_408 ms_X10_many rm_X10_cure_X10_many jz_X10_many ⟨Nat.zero_le _, Nat.zero_le _⟩ (Nat.le_of_ble_eq_true rfl) (jasI hx1 jas0) hT (fun r6 I5 hc7 hFI5 hT => ?_)
        replace hFI5 := jFr_tr hFI2 hFI5
        refine jOk_mem (fun hI5 => ?_)
        refine r_icmp_lt (tgt := 42) dX10_cure_36 rfl hc4 hc7 (fun hcc => ?_) (fun hcc => ?_)
        · replace hT := hT.1 hcc
          refine r_iconst (n := 0) dX10_cure_42 ?_
          refine rr_istore (i := 4) (ls' := [VR m, VI x1, VI x2, VI x3, VI 0]) dX10_cure_43 (Nat.le_of_ble_eq_true rfl) rfl rfl ⟨by decide, by decide⟩ ?_
          exact hT I0 hFI5
        · replace hT := hT.2 hcc
          refine r_goto (tgt := 101) dX10_cure_39 rfl ?_
          obtain ⟨hc8, hT⟩ := hT
          refine rr_iinc (i := 3) (ls' := [VR m, VI x1, VI x2, VI (x3 + 1), VN]) dX10_cure_101 rfl (Nat.le_of_ble_eq_true rfl) rfl rfl hc8 ?_
          refine r_goto (tgt := 9) dX10_cure_104 rfl ?_
          exact hT I0 hFI5
set_option maxRecDepth 20000 in
theorem st_X10_cure_0 {E : jE} {G : jG} {I : jM} {q : Int → jM → Prop} {m : Nat} (hm : WX10 G m) (hT : (∀ a j, jRg (G.2.1 a).1 (I a j)) → jRI E (jA m) kX10_onBits [VR m] G I (fun r2 I1 => jOI E (jA m) kX10_cure 9 [VR m, VI (-1), VI r2, VI 0, VN] G I1 q)) : jOI E (jA m) kX10_cure 0 [VR m, VN, VN, VN, VN] G I q := by
  intro I0 hF
  refine jOk_mem (fun hI => ?_)
  replace hT := hT hI 
  refine r_iconst (n := (-1)) dX10_cure_0 ?_
  refine rr_istore_n (i := 1) (ls' := [VR m, VI (-1), VN, VN, VN]) dX10_cure_1 rfl (Nat.le_of_ble_eq_true rfl) rfl rfl ⟨by decide, by decide⟩ ?_
  refine r_aload_n dX10_cure_2 rfl (i := 0) rfl ?_
  refine rr_cVI (a := m) (as := []) (st := []) dX10_cure_3 mt_X10_onBits ml_X10_335 mi_X10_onBits rm_X10_cure_X10_onBits jz_X10_onBits ⟨Nat.zero_le _, Nat.zero_le _⟩ (Nat.le_of_ble_eq_true rfl) (wX10_l hm) (wX10_c hm) jas0 hT (fun r2 I1 hc3 hFI1 hT => ?_)
  replace hFI1 := jFr_tr hF hFI1
  refine jOk_mem (fun hI1 => ?_)
  refine rr_istore_n (i := 2) (ls' := [VR m, VI (-1), VI r2, VN, VN]) dX10_cure_6 rfl (Nat.le_of_ble_eq_true rfl) rfl rfl hc3 ?_
  refine r_iconst (n := 0) dX10_cure_7 ?_
  refine rr_istore_n (i := 3) (ls' := [VR m, VI (-1), VI r2, VI 0, VN]) dX10_cure_8 rfl (Nat.le_of_ble_eq_true rfl) rfl rfl ⟨by decide, by decide⟩ ?_
  exact hT I0 hFI1
theorem en_X10_cure {E : jE} {G : jG} {I : jM} {q : Int → jM → Prop} {m : Nat} (hm : WX10 G m) (hT : (∀ a j, jRg (G.2.1 a).1 (I a j)) → jRI E (jA m) kX10_onBits [VR m] G I (fun r2 I1 => jOI E (jA m) kX10_cure 9 [VR m, VI (-1), VI r2, VI 0, VN] G I1 q)) : jRI E (jA m) kX10_cure [VR m] G I q := jRun.of mt_X10_cure.2.2.2 4 rfl (fun _ => st_X10_cure_0 hm hT I (fun _ _ => rfl))
/-- the rules of rounds k .. -/
noncomputable def mfJ (B : Int → Int) (v : Int) (k : Nat) : Nat → Int
  | 0 => v
  | d + 1 => mfJ B (jor v (rb (csq B k))) (k + 1) d
def dgJ (T : Int → Int) (h i : Int) : Nat → Int
  | 0 => h
  | d + 1 => dgJ T (jw (31 * h + T i)) (i + 1) d
noncomputable def anCircling (B : Int → Int) : Int := if endAt B (crN B) = 1 then mfJ B 0 (fstL B (crN B)).toNat (crN B - (fstL B (crN B)).toNat) else 0
noncomputable def anCourse (B : Int → Int) (w : Int) : Int := if w = 0 then endAt B (crN B) else if w = 1 then crN B else if w = 2 then fstL B (crN B) else if w = 3 then (if endAt B (crN B) = 1 then crN B - fstL B (crN B) else -1) else if w = 4 then csq B (crN B) 2 else if w = 5 then mdS B (crN B) else -1
noncomputable def bhR (B : Int → Int) (n : Int) : Nat := if n < crN B then n.toNat else crN B
noncomputable def anLater (B : Int → Int) (n i : Int) : Int := if 0 ≤ n ∧ n ≤ 30 then (if 0 ≤ i ∧ i < csq B (bhR B n) 2 then csq B (bhR B n) (10 + i) else -1) else -1
noncomputable def anDigest (B : Int → Int) (n : Int) : Int := if 0 ≤ n ∧ n ≤ 30 then dgJ (fun i => csq B (bhR B n) (10 + i)) 0 0 (csq B (bhR B n) 2).toNat else 0
noncomputable def anUsed (B : Int → Int) : Int := mfJ B 0 0 (crN B)
section SB
variable {E : jE} {G : jG} {m : Nat} {I : jM} {B B' : Int → Int} {H H' : List (Int → Int)} {T : List Int} {fk fp c : Int}
theorem ref_madeFrom (hm : WX10 G m) (hC : CO m B I) {k : Nat} (hk : k ≤ crN B) : jRI E (jA m) kX10_madeFrom [VR m, VI (k : Int)] G I (fun x I' => x = mfJ B 0 k (crN B - k) ∧ I' = I) := by
  have e41 := hC.1
  have h30 := hC.2.1
  have loop : ∀ (d j : Nat) (v : Int), j + d = crN B → jOI E (jA m) kX10_madeFrom 4 [VR m, VI (k : Int), VI v, VI (j : Int)] G I (fun x I' => x = mfJ B v j d ∧ I' = I) := by
    intro d
    induction d with
    | zero =>
      intro j v hj
      exact st_X10_madeFrom_4 hm (fun _ _ _ _ => ⟨fun _ => ⟨rfl, rfl⟩, fun q => by rw [e41] at q; omega⟩)
    | succ d ih =>
      intro j v hj
      have er := hC.2.2.2.2.2.2.1 j (by omega)
      refine st_X10_madeFrom_4 hm (fun _ _ _ _ => ⟨fun q => by rw [e41] at q; omega, fun _ => ⟨⟨by omega, by omega⟩, ⟨by omega, by omega⟩, ?_⟩⟩)
      rw [er]
      exact ih (j + 1) _ (by omega)
  exact en_X10_madeFrom hm (fun _ _ => loop (crN B - k) k 0 (by omega))
theorem ref_circling (hm : WX10 G m) (h : RR m I B H B' H' T fk fp) (hW : BW c B) (hc : c ≤ 900000) : jRI E (jA m) kX10_circling [VR m] G I (fun x I' => x = anCircling B ∧ RR m I' B H B' H' T fk fp) := by
  unfold anCircling
  refine en_X10_circling hm (fun _ => (ref_layCourse hm h hW hc).mono (fun I1 _ g => ?_))
  obtain ⟨hr, hC⟩ := g
  have hC' := hC
  obtain ⟨h41, h30, h40, h42, h43, hw, h28, hl, hne, hf⟩ := hC
  rw [h40, h42]
  refine ⟨fun q => ⟨by rw [if_neg q], hr⟩, fun q => ?_⟩
  have hf1 : fstL B (crN B) ≠ -1 := by
    intro e
    unfold endAt at q
    rw [if_neg (fun g => g e)] at q
    split at q
    · omega
    · split at q
      · omega
      · split at q <;> omega
  have b := hf hf1
  rw [if_pos q]
  have g := ref_madeFrom (E := E) hm hC' (k := (fstL B (crN B)).toNat) (by omega)
  rw [show (((fstL B (crN B)).toNat : Nat) : Int) = fstL B (crN B) by omega] at g
  exact g.mono (fun x I' _ _ g => ⟨g.1, by rw [g.2]; exact hr⟩)
theorem endAt1 {n : Nat} (q : endAt B n = 1) : fstL B n ≠ -1 := by
  intro e
  unfold endAt at q
  rw [if_neg (fun g => g e)] at q
  split at q
  · omega
  · split at q
    · omega
    · split at q <;> omega
theorem ref_course (hm : WX10 G m) (h : RR m I B H B' H' T fk fp) (hW : BW c B) (hc : c ≤ 900000) {w : Int} : jRI E (jA m) kX10_course [VR m, VI w] G I (fun x I' => x = anCourse B w ∧ RR m I' B H B' H' T fk fp) := by
  unfold anCourse
  refine en_X10_course hm (fun _ _ => (ref_layCourse hm h hW hc).mono (fun I1 _ g => ?_))
  obtain ⟨hr, hC⟩ := g
  obtain ⟨h41, h30, h40, h42, h43, hw, h28, hl, hne, hf⟩ := hC
  rw [h40, h41, h42, h43]
  refine ⟨fun q => ⟨?_, hr⟩, fun q => ⟨by rw [if_pos q], hr⟩, fun q => ⟨by rw [if_neg (by omega), if_pos q], hr⟩, fun q => ⟨by rw [if_neg (by omega), if_neg (by omega), if_pos q], hr⟩, fun q => ⟨fun q1 => ⟨?_, hr⟩, fun q1 => ?_⟩, fun q => ⟨⟨by omega, by omega⟩, ?_, hr⟩, fun q => ⟨?_, hr⟩⟩
  · rw [if_neg (by omega), if_neg (by omega), if_neg (by omega), if_neg (by omega), if_neg (by omega), if_neg (by omega)]
  · rw [if_neg (by omega), if_neg (by omega), if_neg (by omega), if_pos q, if_neg q1]
  · have b := hf (endAt1 q1)
    refine ⟨⟨by omega, by omega⟩, ?_, hr⟩
    rw [if_neg (by omega), if_neg (by omega), if_neg (by omega), if_pos q, if_pos q1]
  · rw [if_neg (by omega), if_neg (by omega), if_neg (by omega), if_neg (by omega), if_pos q]
    exact (hw (crN B) (Nat.le_refl _)).1
  · rw [if_neg (by omega), if_neg (by omega), if_neg (by omega), if_neg (by omega), if_neg (by omega), if_pos q]
theorem ref_behindRounds (hm : WX10 G m) (h : RR m I B H B' H' T fk fp) (hW : BW c B) (hc : c ≤ 900000) {n : Int} (hn : 0 ≤ n) : jRI E (jA m) kX10_behindRounds [VR m, VI n] G I (fun x I' => x = bhR B n ∧ bhR B n ≤ crN B ∧ RR m I' B H B' H' T fk fp ∧ CO m B I') := by
  refine en_X10_behindRounds hm (fun _ _ => (ref_layCourse hm h hW hc).mono (fun I1 _ g => ?_))
  have g' := g
  obtain ⟨hr, hC⟩ := g
  rw [hC.1]
  unfold bhR
  refine ⟨fun q => ⟨by rw [if_neg (by omega)], by rw [if_neg (by omega)]; exact Nat.le_refl _, g'⟩, fun q => ⟨by rw [if_pos (by omega)]; omega, by rw [if_pos (by omega)]; omega, g'⟩⟩
theorem ref_later (hm : WX10 G m) (h : RR m I B H B' H' T fk fp) (hW : BW c B) (hc : c ≤ 900000) {n i : Int} : jRI E (jA m) kX10_later [VR m, VI n, VI i] G I (fun x I' => x = anLater B n i ∧ RR m I' B H B' H' T fk fp) := by
  unfold anLater
  refine en_X10_later hm (fun _ _ _ => ⟨fun q => (ref_behindRounds hm h hW hc q.1).mono (fun x I1 _ _ g => ?_), fun q => ⟨by rw [if_neg q], h⟩⟩)
  obtain ⟨rfl, hb, hr, hC⟩ := g
  have h30 := hC.2.1
  have hw := hC.2.2.2.2.2.1 (bhR B n) hb
  have hl := hC.2.2.2.2.2.2.2.1 (bhR B n) hb
  rw [hw.1, if_pos q]
  refine ⟨⟨by omega, by omega⟩, ⟨by omega, by omega⟩, fun q1 => ⟨by rw [if_neg (by omega)], hr⟩, fun q1 => ⟨⟨by omega, by omega⟩, ?_, hr⟩⟩
  rw [if_pos (by omega)]
  exact hw.2 i q1.1 (by omega)
theorem ref_digest (hm : WX10 G m) (h : RR m I B H B' H' T fk fp) (hW : BW c B) (hc : c ≤ 900000) {n : Int} : jRI E (jA m) kX10_digest [VR m, VI n] G I (fun x I' => x = anDigest B n ∧ RR m I' B H B' H' T fk fp) := by
  unfold anDigest
  refine en_X10_digest hm (fun _ _ => ⟨fun q => (ref_behindRounds hm h hW hc q.1).mono (fun x I1 _ _ g => ?_), fun q => ⟨by rw [if_neg q], h⟩⟩)
  obtain ⟨rfl, hb, hr, hC⟩ := g
  have h30 := hC.2.1
  have hw := hC.2.2.2.2.2.1 (bhR B n) hb
  have hl := hC.2.2.2.2.2.2.2.1 (bhR B n) hb
  rw [if_pos q]
  have loop : ∀ (d : Nat) (i v : Int), 0 ≤ i → i + d = csq B (bhR B n) 2 → jOI E (jA m) kX10_digest 23 [VR m, VI n, VI ((bhR B n : Nat) : Int), VI v, VI i] G I1 (fun x I' => x = dgJ (fun i => csq B (bhR B n) (10 + i)) v i d ∧ RR m I' B H B' H' T fk fp) := by
    intro d
    induction d with
    | zero =>
      intro i v i0 i1
      exact st_X10_digest_23 hm (fun _ _ _ _ _ => ⟨⟨by omega, by omega⟩, fun _ => ⟨rfl, hr⟩, fun q => by rw [hw.1] at q; omega⟩)
    | succ d ih =>
      intro i v i0 i1
      refine st_X10_digest_23 hm (fun _ _ _ _ _ => ⟨⟨by omega, by omega⟩, fun q => by rw [hw.1] at q; omega, fun _ => ⟨⟨by omega, by omega⟩, ⟨by omega, by omega⟩, ?_⟩⟩)
      rw [hw.2 i i0 (by omega)]
      exact ih (i + 1) _ (by omega) (by omega)
  exact loop (csq B (bhR B n) 2).toNat 0 0 (by omega) (by omega)
theorem ref_used (hm : WX10 G m) (h : RR m I B H B' H' T fk fp) (hW : BW c B) (hc : c ≤ 900000) : jRI E (jA m) kX10_used [VR m] G I (fun x I' => x = anUsed B ∧ RR m I' B H B' H' T fk fp) := by
  unfold anUsed
  refine en_X10_used hm (fun _ => (ref_layCourse hm h hW hc).mono (fun I1 _ g => ?_))
  obtain ⟨hr, hC⟩ := g
  exact (ref_madeFrom (E := E) hm hC (k := 0) (by omega)).mono (fun x I' _ _ g => ⟨g.1, by rw [g.2]; exact hr⟩)
/-! the cure -/
def pcn (x : Int) : Int := jand (jshr x 0) 1 + jand (jshr x 1) 1 + jand (jshr x 2) 1 + jand (jshr x 3) 1 + jand (jshr x 4) 1 + jand (jshr x 5) 1
theorem pcn_tab : ∀ x : Fin 64, (0 ≤ pcn ((x : Nat) : Int) ∧ pcn ((x : Nat) : Int) ≤ 6) ∧ ((x : Nat) ≠ 0 → pcn (jand ((x : Nat) : Int) (((x : Nat) : Int) - 1)) + 1 = pcn ((x : Nat) : Int) ∧ 0 ≤ jand ((x : Nat) : Int) (((x : Nat) : Int) - 1) ∧ jand ((x : Nat) : Int) (((x : Nat) : Int) - 1) < ((x : Nat) : Int)) := by decide +kernel
theorem pcn_bd {x : Int} (h : 0 ≤ x ∧ x < 64) : 0 ≤ pcn x ∧ pcn x ≤ 6 := by
  have g := (pcn_tab ⟨x.toNat, by omega⟩).1
  simp only [Int.toNat_of_nonneg h.1] at g
  exact g
theorem pcn_dec {x : Int} (h : 0 ≤ x ∧ x < 64) (h0 : x ≠ 0) : pcn (jand x (x - 1)) + 1 = pcn x ∧ 0 ≤ jand x (x - 1) ∧ jand x (x - 1) < x := by
  have g := (pcn_tab ⟨x.toNat, by omega⟩).2 (by show x.toNat ≠ 0; omega)
  simp only [Int.toNat_of_nonneg h.1] at g
  exact g
theorem ref_many {A : Nat → Prop} {x : Int} (h : 0 ≤ x ∧ x < 64) : jRI E A kX10_many [VI x] G I (fun r I' => r = pcn x ∧ I' = I) := by
  have loop : ∀ (d : Nat) (y v : Int), 0 ≤ y → y < 64 → y ≤ d → v + pcn y = pcn x → 0 ≤ v → jOI E A kX10_many 4 [VI x, VI v, VI y] G I (fun r I' => r = pcn x ∧ I' = I) := by
    have bx := pcn_bd h
    intro d
    induction d with
    | zero =>
      intro y v y0 y1 y2 e v0
      have e0 : y = 0 := by omega
      subst e0
      refine st_X10_many_4 (fun _ _ _ _ => ⟨fun _ => ⟨?_, rfl⟩, fun q => absurd rfl q⟩)
      rw [← e]
      show v = v + 0
      omega
    | succ d ih =>
      intro y v y0 y1 y2 e v0
      refine st_X10_many_4 (fun _ _ _ _ => ⟨fun q => ⟨?_, rfl⟩, fun q => ?_⟩)
      · rw [← e, q]
        show v = v + 0
        omega
      · have g := pcn_dec ⟨y0, y1⟩ q
        have b := pcn_bd (x := jand y (y - 1)) ⟨by omega, by omega⟩
        exact ⟨⟨by omega, by omega⟩, ih _ (v + 1) (by omega) (by omega) (by omega) (by omega) (by omega)⟩
  exact en_X10_many (fun _ _ => loop 64 x 0 h.1 h.2 (by omega) (by omega) (by omega))
/-- rules on as these bits say -/
def setOn (B : Int → Int) (v : Int) : Int → Int := fun j => if (j - 515) % 40 = 0 ∧ 515 ≤ j ∧ j < 515 + 40 * B 4 then jand (jshr v ((j - 515) / 40)) 1 else B j
/-- alike but for which rules are on -/
def onlyOn (B X : Int → Int) : Prop := (∀ j, ¬ ((j - 515) % 40 = 0 ∧ 515 ≤ j ∧ j < 515 + 40 * B 4) → X j = B j) ∧ ∀ r, 0 ≤ r → r < B 4 → 0 ≤ X (515 + 40 * r) ∧ X (515 + 40 * r) ≤ 1
theorem BW.on {X : Int → Int} (h : BW c B) (ho : onlyOn B X) : BW c X := by
  obtain ⟨hQ, hp, hz, hs, hb, hy, h8, h9, h5⟩ := h
  obtain ⟨e, ho⟩ := ho
  obtain ⟨h1, h2, h3, h4, h7⟩ := hQ
  have h46 := h2.2.1
  have el : ∀ j, (j < 515 ∨ 755 ≤ j) → X j = B j := fun j hj => e j (by omega)
  have er : ∀ r x, 0 ≤ r → r < B 4 → 0 ≤ x → x < 40 → x ≠ 1 → X (514 + 40 * r + x) = B (514 + 40 * r + x) := fun r x r0 r1 x0 x1 x2 => e _ (by omega)
  refine ⟨⟨by rw [el 2 (by omega)]; exact h1, ?_, by rw [el 3 (by omega)]; exact h3, by rw [el 6 (by omega)]; exact h4, by rw [el 7 (by omega)]; exact h7⟩, fun i i0 i1 => ?_, fun i i0 i1 => ?_, fun j j0 j1 => ?_, fun j j0 j1 => ?_, fun k k0 k1 => ?_, by rw [el 8 (by omega)]; exact h8, by rw [el 9 (by omega)]; exact h9, by rw [el 5 (by omega)]; exact h5⟩
  · unfold RW
    rw [el 4 (by omega)]
    refine ⟨h2.1, h46, fun r r0 r1 => ?_⟩
    have g := h2.2.2 r r0 r1
    unfold RW1 EW PW key at g ⊢
    obtain ⟨g1, g2, g3, g4, g5, g6, g7⟩ := g
    have a0 : X (514 + 40 * r) = B (514 + 40 * r) := e _ (by omega)
    have a2 : X (516 + 40 * r) = B (516 + 40 * r) := e _ (by omega)
    have a3 : X (517 + 40 * r) = B (517 + 40 * r) := e _ (by omega)
    have ae : ∀ k w, 0 ≤ k → k < 6 → 0 ≤ w → w < 3 → X (518 + 40 * r + 3 * k + w) = B (518 + 40 * r + 3 * k + w) := fun k w k0 k1 w0 w1 => by
      have hy : ∃ y, y = 3 + 3 * k + w := ⟨_, rfl⟩
      obtain ⟨y, hy⟩ := hy
      have b1 : 3 ≤ y ∧ y < 39 := by omega
      rw [show 518 + 40 * r + 3 * k + w = 515 + 40 * r + y by omega]
      clear hy k0 k1 w0 w1
      exact e _ (by omega)
    have ap : ∀ k w, 0 ≤ k → k < 6 → 0 ≤ w → w < 3 → X (536 + 40 * r + 3 * k + w) = B (536 + 40 * r + 3 * k + w) := fun k w k0 k1 w0 w1 => by
      have hy : ∃ y, y = 21 + 3 * k + w := ⟨_, rfl⟩
      obtain ⟨y, hy⟩ := hy
      have b1 : 21 ≤ y ∧ y < 39 := by omega
      rw [show 536 + 40 * r + 3 * k + w = 515 + 40 * r + y by omega]
      clear hy k0 k1 w0 w1
      exact e _ (by omega)
    rw [a0, a2, a3]
    refine ⟨g1, ho r r0 r1, g3, g4, fun k k0 k1 => ?_, fun p p0 p1 => ?_, fun p p' p0 p1 p2 => ?_⟩
    · rw [ae k 0 k0 (by omega) (by omega) (by omega), ae k 1 k0 (by omega) (by omega) (by omega), ae k 2 k0 (by omega) (by omega) (by omega)]
      exact g5 k k0 k1
    · rw [ap p 0 p0 (by omega) (by omega) (by omega), ap p 1 p0 (by omega) (by omega) (by omega), ap p 2 p0 (by omega) (by omega) (by omega)]
      have k := g6 p p0 p1
      refine ⟨k.1, k.2.1, k.2.2.1, k.2.2.2.1, fun q => ?_⟩
      obtain ⟨a1, a2, y, a3, a4, a5⟩ := k.2.2.2.2 q
      refine ⟨a1, a2, y, a3, a4, ?_⟩
      rw [ae y 0 a3 (by omega) (by omega) (by omega), ae y 1 a3 (by omega) (by omega) (by omega)]
      exact a5
    · rw [ap p 0 p0 (by omega) (by omega) (by omega), ap p 1 p0 (by omega) (by omega) (by omega), ap p 2 p0 (by omega) (by omega) (by omega), ap p' 0 (by omega) (by omega) (by omega) (by omega), ap p' 1 (by omega) (by omega) (by omega) (by omega)]
      exact g7 p p' p0 p1 p2
  · rw [el 2 (by omega)] at i1
    rw [el _ (by omega)]; exact hp i i0 i1
  · rw [el 2 (by omega)] at i0
    rw [el _ (by omega)]; exact hz i i0 i1
  · rw [el 3 (by omega)] at j0
    rw [el _ (by omega)]; exact hs j j0 j1
  · rw [el _ (by omega)]; exact hb j j0 j1
  · rw [el 7 (by omega)] at k1
    rw [el 4 (by omega), el _ (by omega), el _ (by omega)]; exact hy k k0 k1
theorem bit01_tab : ∀ x : Fin 64, ∀ r : Fin 6, 0 ≤ jand (jshr ((x : Nat) : Int) ((r : Nat) : Int)) 1 ∧ jand (jshr ((x : Nat) : Int) ((r : Nat) : Int)) 1 ≤ 1 := by decide +kernel
theorem bit01 {x r : Int} (hx : 0 ≤ x ∧ x < 64) (hr : 0 ≤ r ∧ r < 6) : 0 ≤ jand (jshr x r) 1 ∧ jand (jshr x r) 1 ≤ 1 := by
  have h := bit01_tab ⟨x.toNat, by omega⟩ ⟨r.toNat, by omega⟩
  simp only [Int.toNat_of_nonneg hx.1, Int.toNat_of_nonneg hr.1] at h
  exact h
theorem andn_tab : ∀ x y : Fin 64, 0 ≤ jand ((x : Nat) : Int) (jxor ((y : Nat) : Int) (-1)) ∧ jand ((x : Nat) : Int) (jxor ((y : Nat) : Int) (-1)) < 64 := by decide +kernel
theorem andn_bd {x y : Int} (hx : 0 ≤ x ∧ x < 64) (hy : 0 ≤ y ∧ y < 64) : 0 ≤ jand x (jxor y (-1)) ∧ jand x (jxor y (-1)) < 64 := by
  have h := andn_tab ⟨x.toNat, by omega⟩ ⟨y.toNat, by omega⟩
  simp only [Int.toNat_of_nonneg hx.1, Int.toNat_of_nonneg hy.1] at h
  exact h
theorem setOn_only {v : Int} (h4 : B 4 ≤ 6) (hv : 0 ≤ v ∧ v < 64) : onlyOn B (setOn B v) := by
  refine ⟨fun j hj => if_neg hj, fun r r0 r1 => ?_⟩
  unfold setOn
  rw [if_pos (by omega), show (515 + 40 * r - 515) / 40 = r by omega]
  exact bit01 hv ⟨r0, by omega⟩
/-- the bits of the rules that are on -/
theorem orl_tab : ∀ x : Fin 64, ∀ r : Fin 6, ∀ b : Fin 2, 0 ≤ jor ((x : Nat) : Int) (jshl ((b : Nat) : Int) ((r : Nat) : Int)) ∧ jor ((x : Nat) : Int) (jshl ((b : Nat) : Int) ((r : Nat) : Int)) < 64 ∧ ∀ i : Fin 6, jand (jshr (jor ((x : Nat) : Int) (jshl ((b : Nat) : Int) ((r : Nat) : Int))) ((i : Nat) : Int)) 1 = if i = r then (if (b : Nat) = 1 then 1 else jand (jshr ((x : Nat) : Int) ((r : Nat) : Int)) 1) else jand (jshr ((x : Nat) : Int) ((i : Nat) : Int)) 1 := by decide +kernel
theorem orl {x r b : Int} (hx : 0 ≤ x ∧ x < 64) (hr : 0 ≤ r ∧ r < 6) (hb : 0 ≤ b ∧ b ≤ 1) : (0 ≤ jor x (jshl b r) ∧ jor x (jshl b r) < 64) ∧ ∀ i, 0 ≤ i → i < 6 → jand (jshr (jor x (jshl b r)) i) 1 = if i = r then (if b = 1 then 1 else jand (jshr x r) 1) else jand (jshr x i) 1 := by
  have h := orl_tab ⟨x.toNat, by omega⟩ ⟨r.toNat, by omega⟩ ⟨b.toNat, by omega⟩
  simp only [Int.toNat_of_nonneg hx.1, Int.toNat_of_nonneg hr.1, Int.toNat_of_nonneg hb.1] at h
  refine ⟨⟨h.1, h.2.1⟩, fun i i0 i1 => ?_⟩
  have g := h.2.2 ⟨i.toNat, by omega⟩
  simp only [Int.toNat_of_nonneg i0, Fin.mk.injEq] at g
  rw [g]
  by_cases q : i = r
  · rw [if_pos q, if_pos (by omega)]
    by_cases q2 : b = 1
    · rw [if_pos q2, if_pos (by omega)]
    · rw [if_neg q2, if_neg (by omega)]
  · rw [if_neg q, if_neg (by omega)]
theorem zbit_tab : ∀ r : Fin 6, jand (jshr 0 ((r : Nat) : Int)) 1 = 0 := by decide +kernel
theorem zbit {r : Int} (hr : 0 ≤ r ∧ r < 6) : jand (jshr 0 r) 1 = 0 := by
  have h := zbit_tab ⟨r.toNat, by omega⟩
  simp only [Int.toNat_of_nonneg hr.1] at h
  exact h
theorem onB_bits (hQ : QW B) : ∀ n : Nat, (n : Int) ≤ B 4 → (0 ≤ onB B n ∧ onB B n < 64) ∧ ∀ i, 0 ≤ i → i < 6 → jand (jshr (onB B n) i) 1 = if i < (n : Int) then B (515 + 40 * i) else 0 := by
  have h46 := hQ.2.1.2.1
  intro n
  induction n with
  | zero =>
    intro _
    refine ⟨by show (0 : Int) ≤ 0 ∧ (0 : Int) < 64; decide, fun i i0 i1 => ?_⟩
    rw [if_neg (by omega)]
    exact zbit ⟨i0, i1⟩
  | succ n ih =>
    intro hn
    obtain ⟨i1, i2⟩ := ih (by omega)
    have hb := (hQ.2.1.2.2 n (by omega) (by omega)).2.1
    have g := orl (x := onB B n) (r := n) (b := B (515 + 40 * n)) i1 ⟨by omega, by omega⟩ hb
    refine ⟨g.1, fun i a0 a1 => ?_⟩
    show jand (jshr (jor (onB B n) (jshl (B (515 + 40 * n)) n)) i) 1 = _
    rw [g.2 i a0 a1]
    by_cases q : i = n
    · rw [if_pos q, q]
      by_cases q2 : B (515 + 40 * n) = 1
      · rw [if_pos q2, if_pos (by omega), q2]
      · rw [if_neg q2, i2 n (by omega) (by omega), if_neg (by omega), if_pos (by omega)]
        omega
    · rw [if_neg q, i2 i a0 a1]
      by_cases q2 : i < (n : Int)
      · rw [if_pos q2, if_pos (by omega)]
      · rw [if_neg q2, if_neg (by omega)]
theorem setOn_self (hQ : QW B) : setOn B (onB B (B 4).toNat) = B := by
  have h4 := hQ.2.1.1
  have h46 := hQ.2.1.2.1
  have g := (onB_bits hQ (B 4).toNat (by omega)).2
  funext j
  unfold setOn
  split
  · rename_i q
    rw [g _ (by omega) (by omega), if_pos (by omega)]
    congr 1
    omega
  · rfl
noncomputable def stl (B : Int → Int) (all s : Int) : Prop := endAt (setOn B (jand all (jxor s (-1)))) (crN (setOn B (jand all (jxor s (-1))))) = 0
def isCu (B : Int → Int) (all top x : Int) : Prop := (x = -1 ∧ ∀ s, 0 ≤ s → s < top → jand s (jxor all (-1)) = 0 → ¬ stl B all s) ∨ ((0 ≤ x ∧ x < top) ∧ jand x (jxor all (-1)) = 0 ∧ stl B all x ∧ ∀ s, 0 ≤ s → s < top → jand s (jxor all (-1)) = 0 → stl B all s → pcn x < pcn s ∨ (pcn x = pcn s ∧ x ≤ s))
theorem isCu.uniq {all top x y : Int} (h : isCu B all top x) (h' : isCu B all top y) : x = y := by
  rcases h with h | h
  · rcases h' with h' | h'
    · omega
    · exact absurd h'.2.2.1 (h.2 y h'.1.1 h'.1.2 h'.2.1)
  · rcases h' with h' | h'
    · exact absurd h.2.2.1 (h'.2 x h.1.1 h.1.2 h.2.1)
    · have a := h.2.2.2 y h'.1.1 h'.1.2 h'.2.1 h'.2.2.1
      have b := h'.2.2.2 x h.1.1 h.1.2 h.2.1 h.2.2.1
      omega
noncomputable def anCure (B : Int → Int) : Int := Classical.epsilon (fun x => isCu B (onB B (B 4).toNat) 64 x)
theorem anCure_eq {x : Int} (h : isCu B (onB B (B 4).toNat) 64 x) : anCure B = x := isCu.uniq (Classical.epsilon_spec (p := fun x => isCu B (onB B (B 4).toNat) 64 x) ⟨x, h⟩) h
theorem ref_cure (hm : WX10 G m) (h : RR m I B H B' H' T fk fp) (hW : BW c B) (hc : c ≤ 900000) : jRI E (jA m) kX10_cure [VR m] G I (fun x I' => x = anCure B ∧ isCu B (onB B (B 4).toNat) 64 x ∧ RR m I' B H B' H' T fk fp) := by
  have hQ := hW.1
  have h4 := hQ.2.1.1
  have h46 := hQ.2.1.2.1
  have hall := (onB_bits hQ (B 4).toNat (by omega)).1
  refine en_X10_cure hm (fun _ => (ref_onBits hm h hQ).mono (fun x I1 _ _ g => ?_))
  obtain ⟨rfl, rfl⟩ := g
  generalize hal : onB B (B 4).toNat = all at hall ⊢
  -- rows of rules that are on, one after the other
  have put : ∀ {X : Int → Int} {I1 M : jM} {v k : Int}, 0 ≤ k → k < B 4 → 0 ≤ v ∧ v < 64 → RR m I1 X H B' H' T fk fp → onlyOn B X → (∀ r, 0 ≤ r → r < k → X (515 + 40 * r) = jand (jshr v r) 1) → M = jup I1 (m + 1) (514 + 40 * k + 1) (jand (jshr v k) 1) → RR m M (up X (515 + 40 * k) (jand (jshr v k) 1)) H B' H' T fk fp ∧ onlyOn B (up X (515 + 40 * k) (jand (jshr v k) 1)) ∧ ∀ r, 0 ≤ r → r < k + 1 → up X (515 + 40 * k) (jand (jshr v k) 1) (515 + 40 * r) = jand (jshr v r) 1 := by
    intro X I1 M v k k0 k1 hv hr ho hp e
    rw [show 514 + 40 * k + 1 = 515 + 40 * k by omega] at e
    refine ⟨hr.set e (by omega), ⟨fun j hj => ?_, fun r r0 r1 => ?_⟩, fun r r0 r1 => ?_⟩
    · rw [up_ne (by omega)]
      exact ho.1 j hj
    · by_cases q : r = k
      · rw [q, up_eq]
        exact bit01 hv ⟨k0, by omega⟩
      · rw [up_ne (by omega)]
        exact ho.2 r r0 r1
    · by_cases q : r = k
      · rw [q, up_eq]
      · rw [up_ne (by omega)]
        exact hp r r0 (by omega)
  have full : ∀ {X : Int → Int} {v : Int}, onlyOn B X → (∀ r, 0 ≤ r → r < B 4 → X (515 + 40 * r) = jand (jshr v r) 1) → X = setOn B v := by
    intro X v ho hp
    funext j
    unfold setOn
    by_cases q : (j - 515) % 40 = 0 ∧ 515 ≤ j ∧ j < 515 + 40 * B 4
    · rw [if_pos q, ← hp ((j - 515) / 40) (by omega) (by omega)]
      congr 1
      omega
    · rw [if_neg q]
      exact ho.1 j q
  have e4 : ∀ {X : Int → Int} {I1 : jM}, RR m I1 X H B' H' T fk fp → onlyOn B X → I1 (m + 1) 4 = B 4 := fun hr ho => by rw [hr.at (by omega)]; exact ho.1 4 (by omega)
  have l109 : ∀ (best : Int), isCu B all 64 best → ∀ (d : Nat) (k : Int), 0 ≤ k → k + d = B 4 → ∀ (X : Int → Int) (I1 : jM), RR m I1 X H B' H' T fk fp → onlyOn B X → (∀ r, 0 ≤ r → r < k → X (515 + 40 * r) = jand (jshr all r) 1) → jOI E (jA m) kX10_cure 109 [VR m, VI best, VI all, VI k, VN] G I1 (fun x I' => x = anCure B ∧ isCu B all 64 x ∧ RR m I' B H B' H' T fk fp) := by
    intro best hbest d
    induction d with
    | zero =>
      intro k k0 k1 X I1 hr ho hp
      have eX : X = B := by rw [full ho (fun r r0 r1 => hp r r0 (by omega)), ← hal]; exact setOn_self hQ
      subst eX
      refine st_X10_cure_109 hm (fun _ _ _ _ => ⟨fun _ => ⟨?_, hbest, hr⟩, fun q => by rw [e4 hr ho] at q; omega⟩)
      rw [anCure_eq (by rw [hal]; exact hbest)]
    | succ d ih =>
      intro k k0 k1 X I1 hr ho hp
      refine st_X10_cure_109 hm (fun _ _ _ _ => ⟨fun q => by rw [e4 hr ho] at q; omega, fun _ => ⟨⟨by omega, by omega⟩, fun M3 e3 => ⟨⟨by omega, by omega⟩, ?_⟩⟩⟩)
      obtain ⟨p1, p2, p3⟩ := put k0 (by omega) hall hr ho hp e3
      exact ih (k + 1) (by omega) (by omega) _ M3 p1 p2 p3
  have l9 : ∀ (d : Nat) (s best : Int), 0 ≤ s → s + d = 64 → isCu B all s best → (best = -1 ∨ (0 ≤ best ∧ best < 64)) → ∀ (X : Int → Int) (I1 : jM), RR m I1 X H B' H' T fk fp → onlyOn B X → jOI E (jA m) kX10_cure 9 [VR m, VI best, VI all, VI s, VN] G I1 (fun x I' => x = anCure B ∧ isCu B all 64 x ∧ RR m I' B H B' H' T fk fp) := by
    intro d
    induction d with
    | zero =>
      intro s best s0 s1 hcu hb X I1 hr ho
      have e : s = 64 := by omega
      subst e
      exact st_X10_cure_9 hm (fun _ _ _ _ => ⟨fun _ => l109 best hcu (B 4).toNat 0 (by omega) (by omega) X I1 hr ho (fun r r0 r1 => by omega), fun q => absurd (by omega) q⟩)
    | succ d ih =>
      intro s best s0 s1 hcu hb X I1 hr ho
      have hv := andn_bd (x := all) (y := s) hall ⟨s0, by omega⟩
      -- not a better one
      have skip : ∀ (X : Int → Int) (I1 : jM), RR m I1 X H B' H' T fk fp → onlyOn B X → (jand s (jxor all (-1)) = 0 → stl B all s → best ≠ -1 ∧ pcn best ≤ pcn s) → jIn (s + 1) ∧ jOI E (jA m) kX10_cure 9 [VR m, VI best, VI all, VI (s + 1), VN] G I1 (fun x I' => x = anCure B ∧ isCu B all 64 x ∧ RR m I' B H B' H' T fk fp) := by
        intro X I1 hr ho hs
        refine ⟨⟨by omega, by omega⟩, ih (s + 1) best (by omega) (by omega) ?_ hb X I1 hr ho⟩
        rcases hcu with hcu | hcu
        · refine Or.inl ⟨hcu.1, fun t t0 t1 t2 t3 => ?_⟩
          by_cases q : t = s
          · rw [q] at t2 t3
            exact (hs t2 t3).1 hcu.1
          · exact hcu.2 t t0 (by omega) t2 t3
        · refine Or.inr ⟨⟨hcu.1.1, by omega⟩, hcu.2.1, hcu.2.2.1, fun t t0 t1 t2 t3 => ?_⟩
          by_cases q : t = s
          · rw [q] at t2 t3 ⊢
            have := (hs t2 t3).2
            omega
          · exact hcu.2.2.2 t t0 (by omega) t2 t3
      have l45 : jand s (jxor all (-1)) = 0 → (best = -1 ∨ pcn s < pcn best) → ∀ (d : Nat) (k : Int), 0 ≤ k → k + d = B 4 → ∀ (X : Int → Int) (I1 : jM), RR m I1 X H B' H' T fk fp → onlyOn B X → (∀ r, 0 ≤ r → r < k → X (515 + 40 * r) = jand (jshr (jand all (jxor s (-1))) r) 1) → jOI E (jA m) kX10_cure 45 [VR m, VI best, VI all, VI s, VI k] G I1 (fun x I' => x = anCure B ∧ isCu B all 64 x ∧ RR m I' B H B' H' T fk fp) := by
        intro hsub hbet d
        induction d with
        | zero =>
          intro k k0 k1 X I1 hr ho hp
          have eX : X = setOn B (jand all (jxor s (-1))) := full ho (fun r r0 r1 => hp r r0 (by omega))
          refine st_X10_cure_45 hm (fun _ _ _ _ _ => ⟨fun _ => (ref_layCourse hm hr (hW.on ho) hc).mono (fun I2 _ g => ?_), fun q => by rw [e4 hr ho] at q; omega⟩)
          obtain ⟨g1, g2⟩ := g
          have e40 := g2.2.2.1
          rw [e40]
          have est : endAt X (crN X) = 0 ↔ stl B all s := by rw [eX]; exact Iff.rfl
          refine ⟨fun q => skip X I2 g1 ho (fun _ g => absurd (est.mpr g) q), fun q => ⟨⟨by omega, by omega⟩, ih (s + 1) s (by omega) (by omega) (Or.inr ⟨⟨s0, by omega⟩, hsub, est.mp q, fun t t0 t1 t2 t3 => ?_⟩) (Or.inr ⟨s0, by omega⟩) X I2 g1 ho⟩⟩
          by_cases qt : t = s
          · rw [qt]; omega
          · rcases hcu with hcu | hcu
            · exact absurd t3 (hcu.2 t t0 (by omega) t2)
            · have := hcu.2.2.2 t t0 (by omega) t2 t3
              omega
        | succ d ih2 =>
          intro k k0 k1 X I1 hr ho hp
          refine st_X10_cure_45 hm (fun _ _ _ _ _ => ⟨fun q => by rw [e4 hr ho] at q; omega, fun _ => ⟨⟨by omega, by omega⟩, fun M6 e6 => ⟨⟨by omega, by omega⟩, ?_⟩⟩⟩)
          obtain ⟨p1, p2, p3⟩ := put k0 (by omega) hv hr ho hp e6
          exact ih2 (k + 1) (by omega) (by omega) _ M6 p1 p2 p3
      have go : jand s (jxor all (-1)) = 0 → (best = -1 ∨ pcn s < pcn best) → jOI E (jA m) kX10_cure 45 [VR m, VI best, VI all, VI s, VI 0] G I1 (fun x I' => x = anCure B ∧ isCu B all 64 x ∧ RR m I' B H B' H' T fk fp) := fun a b => l45 a b (B 4).toNat 0 (by omega) (by omega) X I1 hr ho (fun r r0 r1 => by omega)
      refine st_X10_cure_9 hm (fun _ _ _ _ => ⟨fun q => by omega, fun _ => ⟨fun q => skip X I1 hr ho (fun g => absurd g q), fun q => ⟨fun q1 => go q (Or.inl q1), fun q1 => ?_⟩⟩⟩)
      refine (ref_many ⟨s0, by omega⟩).mono (fun x I2 _ _ g => ?_)
      obtain ⟨rfl, rfl⟩ := g
      refine (ref_many (by omega)).mono (fun x I5 _ _ g => ?_)
      obtain ⟨rfl, rfl⟩ := g
      exact ⟨fun q2 => go q (Or.inr q2), fun q2 => skip X I5 hr ho (fun _ _ => ⟨q1, by omega⟩)⟩
  exact l9 64 0 (-1) (by omega) (by omega) (Or.inl ⟨rfl, fun s s0 s1 => by omega⟩) (Or.inl rfl) B I1 h ⟨fun _ _ => rfl, fun r r0 r1 => (hQ.2.1.2.2 r r0 r1).2.1⟩
end SB
