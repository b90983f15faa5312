set_option maxRecDepth 20000 in
theorem st_X10_areTogether_0 {E : jE} {G : jG} {I : jM} {q : Int → jM → Prop} {m : Nat} {x1 : Int} {x2 : Int} (hm : WX10 G m) (hT : (∀ a j, jRg (G.2.1 a).1 (I a j)) → jIn x1 → jIn x2 → ((0 : Int) ≤ x1 ∧ (x1 : Int) < 1200) ∧ ((0 : Int) ≤ x2 ∧ (x2 : Int) < 1200) ∧ (((I (m + 9) x2) ≤ (I (m + 8) x1) → q 0 I) ∧ (¬ (I (m + 9) x2) ≤ (I (m + 8) x1) → ((0 : Int) ≤ x2 ∧ (x2 : Int) < 1200) ∧ ((0 : Int) ≤ x1 ∧ (x1 : Int) < 1200) ∧ (((I (m + 9) x1) ≤ (I (m + 8) x2) → q 0 I) ∧ (¬ (I (m + 9) x1) ≤ (I (m + 8) x2) → q 1 I))))) : jOI E (jA m) kX10_areTogether 0 [VR m, VI x1, VI x2] G I q := by
  intro I0 hF
  refine jOk_mem (fun hI => ?_)
  refine jOk_in (i := 1) rfl (fun hx1 => ?_)
  refine jOk_in (i := 2) rfl (fun hx2 => ?_)
  replace hT := hT hI hx1 hx2
  refine r_aload_n dX10_areTogether_0 rfl (i := 0) rfl ?_
  refine rr_getR (b := (m + 8)) dX10_areTogether_1 fg_X10_31 rfl rfl (wX10_l hm) (wX10_s hm) (wX10_r9 hm) ?_
  refine r_iload_n dX10_areTogether_4 rfl (i := 1) rfl ?_
  obtain ⟨hc1, hT⟩ := hT
  refine rr_iaload (v := I (m + 8) x1) dX10_areTogether_5 (wX10_l9 hm) (wX10_a9 hm) (by decide) hc1 rfl ?_
  refine r_aload_n dX10_areTogether_6 rfl (i := 0) rfl ?_
  refine rr_getR (b := (m + 9)) dX10_areTogether_7 fg_X10_34 rfl rfl (wX10_l hm) (wX10_s hm) (wX10_r10 hm) ?_
  refine r_iload_n dX10_areTogether_10 rfl (i := 2) rfl ?_
  obtain ⟨hc2, hT⟩ := hT
  refine rr_iaload (v := I (m + 9) x2) dX10_areTogether_11 (wX10_l10 hm) (wX10_a10 hm) (by decide) hc2 rfl ?_
  refine r_icmp_ge (tgt := 34) dX10_areTogether_12 rfl (hI _ _).inR (hI _ _).inR (fun hcc => ?_) (fun hcc => ?_)
  · replace hT := hT.1 hcc
    refine r_iconst (n := 0) dX10_areTogether_34 ?_
    exact r_zret dX10_areTogether_35 rfl ⟨by decide, by decide⟩ ⟨Nat.zero_le _, Nat.zero_le _⟩ ⟨_, rfl, rfl, hF, hT⟩
  · replace hT := hT.2 hcc
    refine r_aload_n dX10_areTogether_15 rfl (i := 0) rfl ?_
    refine rr_getR (b := (m + 8)) dX10_areTogether_16 fg_X10_31 rfl rfl (wX10_l hm) (wX10_s hm) (wX10_r9 hm) ?_
    refine r_iload_n dX10_areTogether_19 rfl (i := 2) rfl ?_
    obtain ⟨hc3, hT⟩ := hT
    refine rr_iaload (v := I (m + 8) x2) dX10_areTogether_20 (wX10_l9 hm) (wX10_a9 hm) (by decide) hc3 rfl ?_
    refine r_aload_n dX10_areTogether_21 rfl (i := 0) rfl ?_
    refine rr_getR (b := (m + 9)) dX10_areTogether_22 fg_X10_34 rfl rfl (wX10_l hm) (wX10_s hm) (wX10_r10 hm) ?_
    refine r_iload_n dX10_areTogether_25 rfl (i := 1) rfl ?_
    obtain ⟨hc4, hT⟩ := hT
    refine rr_iaload (v := I (m + 9) x1) dX10_areTogether_26 (wX10_l10 hm) (wX10_a10 hm) (by decide) hc4 rfl ?_
    refine r_icmp_ge (tgt := 34) dX10_areTogether_27 rfl (hI _ _).inR (hI _ _).inR (fun hcc => ?_) (fun hcc => ?_)
    · replace hT := hT.1 hcc
      refine r_iconst (n := 0) dX10_areTogether_34 ?_
      exact r_zret dX10_areTogether_35 rfl ⟨by decide, by decide⟩ ⟨Nat.zero_le _, Nat.zero_le _⟩ ⟨_, rfl, rfl, hF, hT⟩
    · replace hT := hT.2 hcc
      refine r_iconst (n := 1) dX10_areTogether_30 ?_
      refine r_goto (tgt := 35) dX10_areTogether_31 rfl ?_
      exact r_zret dX10_areTogether_35 rfl ⟨by decide, by decide⟩ ⟨Nat.zero_le _, Nat.zero_le _⟩ ⟨_, rfl, rfl, hF, hT⟩
theorem en_X10_areTogether {E : jE} {G : jG} {I : jM} {q : Int → jM → Prop} {m : Nat} {x1 : Int} {x2 : Int} (hm : WX10 G m) (hT : (∀ a j, jRg (G.2.1 a).1 (I a j)) → jIn x1 → jIn x2 → ((0 : Int) ≤ x1 ∧ (x1 : Int) < 1200) ∧ ((0 : Int) ≤ x2 ∧ (x2 : Int) < 1200) ∧ (((I (m + 9) x2) ≤ (I (m + 8) x1) → q 0 I) ∧ (¬ (I (m + 9) x2) ≤ (I (m + 8) x1) → ((0 : Int) ≤ x2 ∧ (x2 : Int) < 1200) ∧ ((0 : Int) ≤ x1 ∧ (x1 : Int) < 1200) ∧ (((I (m + 9) x1) ≤ (I (m + 8) x2) → q 0 I) ∧ (¬ (I (m + 9) x1) ≤ (I (m + 8) x2) → q 1 I))))) : jRI E (jA m) kX10_areTogether [VR m, VI x1, VI x2] G I q := jRun.of mt_X10_areTogether.2.2.2 0 rfl (fun _ => st_X10_areTogether_0 hm hT I (fun _ _ => rfl))
set_option maxRecDepth 20000 in
theorem st_X10_yieldsTo_2 {E : jE} {G : jG} {I : jM} {q : Int → jM → Prop} {m : Nat} {x1 : Int} {x2 : Int} {x3 : Int} (hm : WX10 G m) (hT : (∀ a j, jRg (G.2.1 a).1 (I a j)) → jIn x1 → jIn x2 → jIn x3 → (((I (m + 1) 7) ≤ x3 → q 0 I) ∧ (¬ (I (m + 1) 7) ≤ x3 → ((0 : Int) ≤ (426 + (2 * x3)) ∧ ((426 + (2 * x3)) : Int) < 22094) ∧ ((¬ (I (m + 1) (426 + (2 * x3))) = x2 → jIn (x3 + 1) ∧ jOI E (jA m) kX10_yieldsTo 2 [VR m, VI x1, VI x2, VI (x3 + 1)] G I q) ∧ ((I (m + 1) (426 + (2 * x3))) = x2 → ((0 : Int) ≤ ((426 + (2 * x3)) + 1) ∧ (((426 + (2 * x3)) + 1) : Int) < 22094) ∧ ((¬ (I (m + 1) ((426 + (2 * x3)) + 1)) = x1 → jIn (x3 + 1) ∧ jOI E (jA m) kX10_yieldsTo 2 [VR m, VI x1, VI x2, VI (x3 + 1)] G I q) ∧ ((I (m + 1) ((426 + (2 * x3)) + 1)) = x1 → q 1 I))))))) : jOI E (jA m) kX10_yieldsTo 2 [VR m, VI x1, VI x2, VI x3] G I q := by
  intro I0 hF
  refine jOk_mem (fun hI => ?_)
  refine jOk_in (i := 1) rfl (fun hx1 => ?_)
  refine jOk_in (i := 2) rfl (fun hx2 => ?_)
  refine jOk_in (i := 3) rfl (fun hx3 => ?_)
  replace hT := hT hI hx1 hx2 hx3
  refine r_iload_n dX10_yieldsTo_2 rfl (i := 3) rfl ?_
  refine r_aload_n dX10_yieldsTo_3 rfl (i := 0) rfl ?_
  refine rr_getR (b := (m + 1)) dX10_yieldsTo_4 fg_X10_7 rfl rfl (wX10_l hm) (wX10_s hm) (wX10_r0 hm) ?_
  refine r_bipush (n := 7) dX10_yieldsTo_7 (by decide +kernel) ?_
  refine rr_iaload (v := I (m + 1) 7) dX10_yieldsTo_9 (wX10_l0 hm) (wX10_a0 hm) (by decide) ⟨by decide, by decide⟩ rfl ?_
  refine r_icmp_ge (tgt := 55) dX10_yieldsTo_10 rfl hx3 (hI _ _).inR (fun hcc => ?_) (fun hcc => ?_)
  · replace hT := hT.1 hcc
    refine r_iconst (n := 0) dX10_yieldsTo_55 ?_
    exact r_zret dX10_yieldsTo_56 rfl ⟨by decide, by decide⟩ ⟨Nat.zero_le _, Nat.zero_le _⟩ ⟨_, rfl, rfl, hF, hT⟩
  · replace hT := hT.2 hcc
    refine r_aload_n dX10_yieldsTo_13 rfl (i := 0) rfl ?_
    refine rr_getR (b := (m + 1)) dX10_yieldsTo_14 fg_X10_7 rfl rfl (wX10_l hm) (wX10_s hm) (wX10_r0 hm) ?_
    refine r_sipush (n := 426) dX10_yieldsTo_17 (by decide +kernel) ?_
    refine r_iconst (n := 2) dX10_yieldsTo_20 ?_
    refine r_iload_n dX10_yieldsTo_21 rfl (i := 3) rfl ?_
    refine r_imul dX10_yieldsTo_22 ?_
    refine r_iadd dX10_yieldsTo_23 ?_
    obtain ⟨hc2, hT⟩ := hT
    refine rr_iaload (v := I (m + 1) (426 + (2 * x3))) dX10_yieldsTo_24 (wX10_l0 hm) (wX10_a0 hm) (by decide) hc2 rfl ?_
    refine r_iload_n dX10_yieldsTo_25 rfl (i := 2) rfl ?_
    refine r_icmp_ne (tgt := 49) dX10_yieldsTo_26 rfl (hI _ _).inR hx2 (fun hcc => ?_) (fun hcc => ?_)
    · replace hT := hT.1 hcc
      obtain ⟨hc3, hT⟩ := hT
      refine rr_iinc (i := 3) (ls' := [VR m, VI x1, VI x2, VI (x3 + 1)]) dX10_yieldsTo_49 rfl (Nat.le_of_ble_eq_true rfl) rfl rfl hc3 ?_
      refine r_goto (tgt := 2) dX10_yieldsTo_52 rfl ?_
      exact hT I0 hF
    · replace hT := hT.2 hcc
      refine r_aload_n dX10_yieldsTo_29 rfl (i := 0) rfl ?_
      refine rr_getR (b := (m + 1)) dX10_yieldsTo_30 fg_X10_7 rfl rfl (wX10_l hm) (wX10_s hm) (wX10_r0 hm) ?_
      refine r_sipush (n := 426) dX10_yieldsTo_33 (by decide +kernel) ?_
      refine r_iconst (n := 2) dX10_yieldsTo_36 ?_
      refine r_iload_n dX10_yieldsTo_37 rfl (i := 3) rfl ?_
      refine r_imul dX10_yieldsTo_38 ?_
      refine r_iadd dX10_yieldsTo_39 ?_
      refine r_iconst (n := 1) dX10_yieldsTo_40 ?_
      refine r_iadd dX10_yieldsTo_41 ?_
      obtain ⟨hc4, hT⟩ := hT
      refine rr_iaload (v := I (m + 1) ((426 + (2 * x3)) + 1)) dX10_yieldsTo_42 (wX10_l0 hm) (wX10_a0 hm) (by decide) hc4 rfl ?_
      refine r_iload_n dX10_yieldsTo_43 rfl (i := 1) rfl ?_
      refine r_icmp_ne (tgt := 49) dX10_yieldsTo_44 rfl (hI _ _).inR hx1 (fun hcc => ?_) (fun hcc => ?_)
      · replace hT := hT.1 hcc
        obtain ⟨hc5, hT⟩ := hT
        refine rr_iinc (i := 3) (ls' := [VR m, VI x1, VI x2, VI (x3 + 1)]) dX10_yieldsTo_49 rfl (Nat.le_of_ble_eq_true rfl) rfl rfl hc5 ?_
        refine r_goto (tgt := 2) dX10_yieldsTo_52 rfl ?_
        exact hT I0 hF
      · replace hT := hT.2 hcc
        refine r_iconst (n := 1) dX10_yieldsTo_47 ?_
        exact r_zret dX10_yieldsTo_48 rfl ⟨by decide, by decide⟩ ⟨Nat.zero_le _, Nat.zero_le _⟩ ⟨_, rfl, rfl, hF, hT⟩
set_option maxRecDepth 20000 in
theorem st_X10_yieldsTo_0 {E : jE} {G : jG} {I : jM} {q : Int → jM → Prop} {m : Nat} {x1 : Int} {x2 : Int} (hm : WX10 G m) (hT : (∀ a j, jRg (G.2.1 a).1 (I a j)) → jIn x1 → jIn x2 → jOI E (jA m) kX10_yieldsTo 2 [VR m, VI x1, VI x2, VI 0] G I q) : jOI E (jA m) kX10_yieldsTo 0 [VR m, VI x1, VI x2, VN] G I q := by
  intro I0 hF
  refine jOk_mem (fun hI => ?_)
  refine jOk_in (i := 1) rfl (fun hx1 => ?_)
  refine jOk_in (i := 2) rfl (fun hx2 => ?_)
  replace hT := hT hI hx1 hx2
  refine r_iconst (n := 0) dX10_yieldsTo_0 ?_
  refine rr_istore_n (i := 3) (ls' := [VR m, VI x1, VI x2, VI 0]) dX10_yieldsTo_1 rfl (Nat.le_of_ble_eq_true rfl) rfl rfl ⟨by decide, by decide⟩ ?_
  exact hT I0 hF
theorem en_X10_yieldsTo {E : jE} {G : jG} {I : jM} {q : Int → jM → Prop} {m : Nat} {x1 : Int} {x2 : Int} (hm : WX10 G m) (hT : (∀ a j, jRg (G.2.1 a).1 (I a j)) → jIn x1 → jIn x2 → jOI E (jA m) kX10_yieldsTo 2 [VR m, VI x1, VI x2, VI 0] G I q) : jRI E (jA m) kX10_yieldsTo [VR m, VI x1, VI x2] G I q := jRun.of mt_X10_yieldsTo.2.2.2 1 rfl (fun _ => st_X10_yieldsTo_0 hm hT I (fun _ _ => rfl))
set_option maxRecDepth 20000 in
theorem st_X10_isYielded_2 {E : jE} {G : jG} {I : jM} {q : Int → jM → Prop} {m : Nat} {x1 : Int} {x2 : Int} (hm : WX10 G m) (hT : (∀ a j, jRg (G.2.1 a).1 (I a j)) → jIn x1 → jIn x2 → (((I m 17) ≤ x2 → q 0 I) ∧ (¬ (I m 17) ≤ x2 → (((I (m + 1) 7) ≤ 0 → q 0 I) ∧ (¬ (I (m + 1) 7) ≤ 0 → ((0 : Int) ≤ x2 ∧ (x2 : Int) < 1200) ∧ ((0 ≤ (I (m + 13) x2) ∧ (I (m + 13) x2) ≤ 1) → ((¬ (I (m + 13) x2) = 0 → jIn (x2 + 1) ∧ jOI E (jA m) kX10_isYielded 2 [VR m, VI x1, VI (x2 + 1)] G I q) ∧ ((I (m + 13) x2) = 0 → jRI E (jA m) kX10_areTogether [VR m, VI x1, VI x2] G I (fun r6 I5 => ((r6 = 0 → jIn (x2 + 1) ∧ jOI E (jA m) kX10_isYielded 2 [VR m, VI x1, VI (x2 + 1)] G I5 q) ∧ (¬ r6 = 0 → ((0 : Int) ≤ x1 ∧ (x1 : Int) < 1200) ∧ ((0 : Int) ≤ x2 ∧ (x2 : Int) < 1200) ∧ jRI E (jA m) kX10_yieldsTo [VR m, VI (I5 (m + 7) x1), VI (I5 (m + 7) x2)] G I5 (fun r12 I11 => ((r12 = 0 → jIn (x2 + 1) ∧ jOI E (jA m) kX10_isYielded 2 [VR m, VI x1, VI (x2 + 1)] G I11 q) ∧ (¬ r12 = 0 → q 1 I11)))))))))))))) : jOI E (jA m) kX10_isYielded 2 [VR m, VI x1, VI x2] G I q := by
  intro I0 hF
  refine jOk_mem (fun hI => ?_)
  refine jOk_in (i := 1) rfl (fun hx1 => ?_)
  refine jOk_in (i := 2) rfl (fun hx2 => ?_)
  replace hT := hT hI hx1 hx2
  refine r_iload_n dX10_isYielded_2 rfl (i := 2) rfl ?_
  refine r_aload_n dX10_isYielded_3 rfl (i := 0) rfl ?_
  refine rr_getI (v := I m 17) dX10_isYielded_4 fg_X10_175 rfl (wX10_l hm) (wX10_s hm) rfl ?_
  refine r_icmp_ge (tgt := 65) dX10_isYielded_7 rfl hx2 (hI _ _).inR (fun hcc => ?_) (fun hcc => ?_)
  · replace hT := hT.1 hcc
    refine r_iconst (n := 0) dX10_isYielded_65 ?_
    exact r_zret dX10_isYielded_66 rfl ⟨by decide, by decide⟩ ⟨Nat.zero_le _, Nat.zero_le _⟩ ⟨_, rfl, rfl, hF, hT⟩
  · replace hT := hT.2 hcc
    refine r_aload_n dX10_isYielded_10 rfl (i := 0) rfl ?_
    refine rr_getR (b := (m + 1)) dX10_isYielded_11 fg_X10_7 rfl rfl (wX10_l hm) (wX10_s hm) (wX10_r0 hm) ?_
    refine r_bipush (n := 7) dX10_isYielded_14 (by decide +kernel) ?_
    refine rr_iaload (v := I (m + 1) 7) dX10_isYielded_16 (wX10_l0 hm) (wX10_a0 hm) (by decide) ⟨by decide, by decide⟩ rfl ?_
    refine r_if_le (tgt := 65) dX10_isYielded_17 rfl (hI _ _).inR (fun hcc => ?_) (fun hcc => ?_)
    · replace hT := hT.1 hcc
      refine r_iconst (n := 0) dX10_isYielded_65 ?_
      exact r_zret dX10_isYielded_66 rfl ⟨by decide, by decide⟩ ⟨Nat.zero_le _, Nat.zero_le _⟩ ⟨_, rfl, rfl, hF, hT⟩
    · replace hT := hT.2 hcc
      refine r_aload_n dX10_isYielded_20 rfl (i := 0) rfl ?_
      refine rr_getR (b := (m + 13)) dX10_isYielded_21 fg_X10_46 rfl rfl (wX10_l hm) (wX10_s hm) (wX10_r14 hm) ?_
      refine r_iload_n dX10_isYielded_24 rfl (i := 2) rfl ?_
      obtain ⟨hc2, hT⟩ := hT
      refine rr_zaload (v := I (m + 13) x2) dX10_isYielded_25 (wX10_l14 hm) (wX10_a14 hm) (by decide) hc2 rfl (fun hr3 => ?_)
      replace hT := hT hr3
      refine r_if_ne (tgt := 59) dX10_isYielded_26 rfl (hI _ _).inR (fun hcc => ?_) (fun hcc => ?_)
      · replace hT := hT.1 hcc
        obtain ⟨hc4, hT⟩ := hT
        refine rr_iinc (i := 2) (ls' := [VR m, VI x1, VI (x2 + 1)]) dX10_isYielded_59 rfl (Nat.le_of_ble_eq_true rfl) rfl rfl hc4 ?_
        refine r_goto (tgt := 2) dX10_isYielded_62 rfl ?_
        exact hT I0 hF
      · replace hT := hT.2 hcc
        refine r_aload_n dX10_isYielded_29 rfl (i := 0) rfl ?_
        refine r_iload_n dX10_isYielded_30 rfl (i := 1) rfl ?_
        refine r_iload_n dX10_isYielded_31 rfl (i := 2) rfl ?_
        refine rr_cVI (a := m) (as := [VI x1, VI x2]) (st := []) dX10_isYielded_32 mt_X10_areTogether ml_X10_178 mi_X10_areTogether rm_X10_isYielded_X10_areTogether jz_X10_areTogether ⟨Nat.zero_le _, Nat.zero_le _⟩ (Nat.le_of_ble_eq_true rfl) (wX10_l hm) (wX10_c hm) (jasI hx1 (jasI hx2 jas0)) hT (fun r6 I5 hc7 hFI5 hT => ?_)
        replace hFI5 := jFr_tr hF hFI5
        refine jOk_mem (fun hI5 => ?_)
        refine r_if_eq (tgt := 59) dX10_isYielded_35 rfl hc7 (fun hcc => ?_) (fun hcc => ?_)
        · replace hT := hT.1 hcc
          obtain ⟨hc8, hT⟩ := hT
          refine rr_iinc (i := 2) (ls' := [VR m, VI x1, VI (x2 + 1)]) dX10_isYielded_59 rfl (Nat.le_of_ble_eq_true rfl) rfl rfl hc8 ?_
          refine r_goto (tgt := 2) dX10_isYielded_62 rfl ?_
          exact hT I0 hFI5
        · replace hT := hT.2 hcc
          refine r_aload_n dX10_isYielded_38 rfl (i := 0) rfl ?_
          refine r_aload_n dX10_isYielded_39 rfl (i := 0) rfl ?_
          refine rr_getR (b := (m + 7)) dX10_isYielded_40 fg_X10_28 rfl rfl (wX10_l hm) (wX10_s hm) (wX10_r8 hm) ?_
          refine r_iload_n dX10_isYielded_43 rfl (i := 1) rfl ?_
          obtain ⟨hc9, hT⟩ := hT
          refine rr_iaload (v := I5 (m + 7) x1) dX10_isYielded_44 (wX10_l8 hm) (wX10_a8 hm) (by decide) hc9 rfl ?_
          refine r_aload_n dX10_isYielded_45 rfl (i := 0) rfl ?_
          refine rr_getR (b := (m + 7)) dX10_isYielded_46 fg_X10_28 rfl rfl (wX10_l hm) (wX10_s hm) (wX10_r8 hm) ?_
          refine r_iload_n dX10_isYielded_49 rfl (i := 2) rfl ?_
          obtain ⟨hc10, hT⟩ := hT
          refine rr_iaload (v := I5 (m + 7) x2) dX10_isYielded_50 (wX10_l8 hm) (wX10_a8 hm) (by decide) hc10 rfl ?_
          refine rr_cVI (a := m) (as := [VI (I5 (m + 7) x1), VI (I5 (m + 7) x2)]) (st := []) dX10_isYielded_51 mt_X10_yieldsTo ml_X10_181 mi_X10_yieldsTo rm_X10_isYielded_X10_yieldsTo jz_X10_yieldsTo ⟨Nat.zero_le _, Nat.zero_le _⟩ (Nat.le_of_ble_eq_true rfl) (wX10_l hm) (wX10_c hm) (jasI (hI5 _ _).inR (jasI (hI5 _ _).inR jas0)) hT (fun r12 I11 hc13 hFI11 hT => ?_)
          replace hFI11 := jFr_tr hFI5 hFI11
          refine jOk_mem (fun hI11 => ?_)
          refine r_if_eq (tgt := 59) dX10_isYielded_54 rfl hc13 (fun hcc => ?_) (fun hcc => ?_)
          · replace hT := hT.1 hcc
            obtain ⟨hc14, hT⟩ := hT
            refine rr_iinc (i := 2) (ls' := [VR m, VI x1, VI (x2 + 1)]) dX10_isYielded_59 rfl (Nat.le_of_ble_eq_true rfl) rfl rfl hc14 ?_
            refine r_goto (tgt := 2) dX10_isYielded_62 rfl ?_
            exact hT I0 hFI11
          · replace hT := hT.2 hcc
            refine r_iconst (n := 1) dX10_isYielded_57 ?_
            exact r_zret dX10_isYielded_58 rfl ⟨by decide, by decide⟩ ⟨Nat.zero_le _, Nat.zero_le _⟩ ⟨_, rfl, rfl, hFI11, hT⟩
set_option maxRecDepth 20000 in
theorem st_X10_isYielded_0 {E : jE} {G : jG} {I : jM} {q : Int → jM → Prop} {m : Nat} {x1 : Int} (hm : WX10 G m) (hT : (∀ a j, jRg (G.2.1 a).1 (I a j)) → jIn x1 → jOI E (jA m) kX10_isYielded 2 [VR m, VI x1, VI 0] G I q) : jOI E (jA m) kX10_isYielded 0 [VR m, VI x1, VN] G I q := by
  intro I0 hF
  refine jOk_mem (fun hI => ?_)
  refine jOk_in (i := 1) rfl (fun hx1 => ?_)
  replace hT := hT hI hx1
  refine r_iconst (n := 0) dX10_isYielded_0 ?_
  refine rr_istore_n (i := 2) (ls' := [VR m, VI x1, VI 0]) dX10_isYielded_1 rfl (Nat.le_of_ble_eq_true rfl) rfl rfl ⟨by decide, by decide⟩ ?_
  exact hT I0 hF
theorem en_X10_isYielded {E : jE} {G : jG} {I : jM} {q : Int → jM → Prop} {m : Nat} {x1 : Int} (hm : WX10 G m) (hT : (∀ a j, jRg (G.2.1 a).1 (I a j)) → jIn x1 → jOI E (jA m) kX10_isYielded 2 [VR m, VI x1, VI 0] G I q) : jRI E (jA m) kX10_isYielded [VR m, VI x1] G I q := jRun.of mt_X10_isYielded.2.2.2 1 rfl (fun _ => st_X10_isYielded_0 hm hT I (fun _ _ => rfl))
section RY
variable {E : jE} {G : jG} {m : Nat} {S : Int → Int} {n : Int} {b : Int → Int} {I : jM}
theorem sp_X10_comeFinding (hm : WX10 G m) (h : TO m S n b I) {r t : Int} (hr : 0 ≤ r ∧ r < 6) (hw : RW1 S r) (t0 : 0 ≤ t) (t1 : t < n) (hFit : Fit S n b r t) {F : List (Int × Int)} (hFI : FI m S b I F) (hs : F.Pairwise (flt S)) (hl : F.length < 1200) (hF : ∀ y ∈ F, (y.2 < t ∨ (y.2 = t ∧ y.1 < r)) ∧ 0 ≤ y.2 ∧ 0 ≤ S (516 + 40 * y.1) ∧ y.2 + S (516 + 40 * y.1) ≤ n) : jRV E (jA m) kX10_comeFinding [VR m, VI r, VI t] G I (fun I' => WC m I I' ∧ ∃ F', FI m S b I' F' ∧ F'.Pairwise (flt S) ∧ ∀ y, y ∈ F' ↔ y ∈ F ∨ (y = (r, t) ∧ Out S b r t ≠ slice S (b t) (b (t + S (516 + 40 * r))))) := by
  have hne := hw.2.2.1
  have hle := hFit.1
  have hS := h.1
  have hn := h.2.2.1.n_le
  have h2 := h.2.1
  have e1 : I (m + 1) (514 + 40 * r + 2) = S (516 + 40 * r) := by rw [hS]; congr 1; omega
  have gt := h.2.2.2.2 t t0 t1
  have gl := h.2.2.2.2 (t + S (516 + 40 * r) - 1) (by omega) (by omega)
  have bl := h.bd (t := t + S (516 + 40 * r) - 1) (by omega) (by omega)
  have bt := h.bd t0 t1
  have e2 : t + S (516 + 40 * r) - 1 + 1 = t + S (516 + 40 * r) := by omega
  rw [e2] at gl bl
  have hmono := h.2.2.1.le (t := t) (u := t + S (516 + 40 * r)) t0 (by omega) hle
  refine en_X10_comeFinding hm (fun _ _ _ => ⟨⟨by omega, by omega⟩, ?_⟩)
  rw [e1, gt.1, gl.1, gl.2]
  have e3 : b (t + S (516 + 40 * r) - 1) + (b (t + S (516 + 40 * r)) - b (t + S (516 + 40 * r) - 1)) = b (t + S (516 + 40 * r)) := by omega
  rw [e3]
  refine ⟨⟨by omega, by omega⟩, ⟨t0, by omega⟩, ⟨by omega, by omega⟩, ⟨by omega, by omega⟩, ⟨by omega, by omega⟩, ?_⟩
  refine (sp_X10_layOut hm h hr hw t0 t1 hFit).mono (fun I8 _ g8 => ?_)
  obtain ⟨hO, hW, hlen⟩ := g8
  have hT8 := h.wl hW
  have hFI8 := hFI.wl hW
  refine (sp_X10_isElse hm hT8.1 hO (by omega) (by omega) (by omega)).mono (fun x I9 _ _ hx => ?_)
  obtain ⟨rfl, rfl⟩ := hx
  refine ⟨fun q => ?_, fun q => ⟨hW.wc, F, hFI8, hs, fun y => ⟨fun g => Or.inl g, fun g => g.elim id (fun g => absurd g.2 (jI_n q))⟩⟩⟩
  rw [hFI8.1]
  refine comeFinding_loop (I0 := I) hm h.2.2.1 ⟨t0, hle⟩ (by omega) hs hl hF (fun I' k hk h1 h3 h4 => ⟨h4, _, h1, h3, fun y => ?_⟩) F.length I9 (Nat.le_refl _) hFI8.1 hO.1 hFI8.2 (fun i hi hi2 => by omega) hW.wc
  rw [insAt_mem]
  exact ⟨fun g => g.elim Or.inl (fun g => Or.inr ⟨g, jI_p q⟩), fun g => g.elim Or.inl (fun g => Or.inr g.1)⟩
/-- the pair (other before rule) is told -/
def yto (S : Int → Int) (r o : Int) : Prop := ∃ k, 0 ≤ k ∧ k < S 7 ∧ S (426 + 2 * k) = o ∧ S (426 + 2 * k + 1) = r
theorem sp_X10_yieldsTo (hm : WX10 G m) {i j : Int} (h : 0 ≤ I (m + 1) 7 ∧ I (m + 1) 7 ≤ 8) : jRI E (jA m) kX10_yieldsTo [VR m, VI i, VI j] G I (fun x I' => x = jI (yto (I (m + 1)) i j) ∧ I' = I) := by
  have loop : ∀ (d : Nat) (x : Int), 0 ≤ x → x + d = I (m + 1) 7 → (∀ k, 0 ≤ k → k < x → ¬ (I (m + 1) (426 + 2 * k) = j ∧ I (m + 1) (426 + 2 * k + 1) = i)) → jOI E (jA m) kX10_yieldsTo 2 [VR m, VI i, VI j, VI x] G I (fun x I' => x = jI (yto (I (m + 1)) i j) ∧ I' = I) := by
    intro d
    induction d with
    | zero =>
      intro x x0 x1 hx
      refine st_X10_yieldsTo_2 hm (fun _ _ _ _ => ⟨fun _ => ⟨(jI_neg (fun g => ?_)).symm, rfl⟩, fun q => by omega⟩)
      obtain ⟨k, k0, k1, k2⟩ := g
      exact hx k k0 (by omega) k2
    | succ d ih =>
      intro x x0 x1 hx
      have nx : ¬ (I (m + 1) (426 + 2 * x) = j ∧ I (m + 1) (426 + 2 * x + 1) = i) → jIn (x + 1) ∧ jOI E (jA m) kX10_yieldsTo 2 [VR m, VI i, VI j, VI (x + 1)] G I (fun x I' => x = jI (yto (I (m + 1)) i j) ∧ I' = I) := by
        intro hn
        refine ⟨⟨by omega, by omega⟩, ih (x + 1) (by omega) (by omega) (fun k k0 k1 => ?_)⟩
        by_cases ek : k = x
        · rw [ek]; exact hn
        · exact hx k k0 (by omega)
      refine st_X10_yieldsTo_2 hm (fun _ _ _ _ => ⟨fun q => by omega, fun _ => ⟨⟨by omega, by omega⟩, fun q => nx (fun g => q g.1), fun q => ⟨⟨by omega, by omega⟩, fun q2 => nx (fun g => q2 g.2), fun q2 => ⟨(jI_pos ⟨x, x0, by omega, q, q2⟩).symm, rfl⟩⟩⟩⟩)
  exact en_X10_yieldsTo hm (fun _ _ _ => loop (I (m + 1) 7).toNat 0 (by omega) (by omega) (fun k k0 k1 => by omega))
theorem sp_X10_areTogether (hm : WX10 G m) {i j : Int} (h : (0 ≤ i ∧ i < 1200) ∧ 0 ≤ j ∧ j < 1200) : jRI E (jA m) kX10_areTogether [VR m, VI i, VI j] G I (fun x I' => x = jI (I (m + 8) i < I (m + 9) j ∧ I (m + 8) j < I (m + 9) i) ∧ I' = I) := by
  refine en_X10_areTogether hm (fun _ _ _ => ⟨h.1, h.2, fun q => ⟨(jI_neg (by omega)).symm, rfl⟩, fun q => ⟨h.2, h.1, fun q => ⟨(jI_neg (by omega)).symm, rfl⟩, fun q => ⟨(jI_pos (by omega)).symm, rfl⟩⟩⟩)
/-- finding f yields to a finding that is not silent -/
def yldM (m : Nat) (I : jM) (f : Int) : Prop := ∃ g, 0 ≤ g ∧ g < I m 17 ∧ I (m + 13) g = 0 ∧ (I (m + 8) f < I (m + 9) g ∧ I (m + 8) g < I (m + 9) f) ∧ yto (I (m + 1)) (I (m + 7) f) (I (m + 7) g)
theorem sp_X10_isYielded (hm : WX10 G m) {f : Int} (hf : 0 ≤ f ∧ f < 1200) (hN : 0 ≤ I m 17 ∧ I m 17 ≤ 1200) (h : 0 ≤ I (m + 1) 7 ∧ I (m + 1) 7 ≤ 8) : jRI E (jA m) kX10_isYielded [VR m, VI f] G I (fun x I' => x = jI (yldM m I f) ∧ I' = I) := by
  have loop : ∀ (d : Nat) (x : Int), 0 ≤ x → x + d = I m 17 → (∀ g, 0 ≤ g → g < x → ¬ (I (m + 13) g = 0 ∧ (I (m + 8) f < I (m + 9) g ∧ I (m + 8) g < I (m + 9) f) ∧ yto (I (m + 1)) (I (m + 7) f) (I (m + 7) g))) → jOI E (jA m) kX10_isYielded 2 [VR m, VI f, VI x] G I (fun x I' => x = jI (yldM m I f) ∧ I' = I) := by
    intro d
    induction d with
    | zero =>
      intro x x0 x1 hx
      refine st_X10_isYielded_2 hm (fun _ _ _ => ⟨fun _ => ⟨(jI_neg (fun g => ?_)).symm, rfl⟩, fun q => by omega⟩)
      obtain ⟨k, k0, k1, k2⟩ := g
      exact hx k k0 (by omega) k2
    | succ d ih =>
      intro x x0 x1 hx
      have nx : ¬ (I (m + 13) x = 0 ∧ (I (m + 8) f < I (m + 9) x ∧ I (m + 8) x < I (m + 9) f) ∧ yto (I (m + 1)) (I (m + 7) f) (I (m + 7) x)) → jIn (x + 1) ∧ jOI E (jA m) kX10_isYielded 2 [VR m, VI f, VI (x + 1)] G I (fun x I' => x = jI (yldM m I f) ∧ I' = I) := by
        intro hn
        refine ⟨⟨by omega, by omega⟩, ih (x + 1) (by omega) (by omega) (fun k k0 k1 => ?_)⟩
        by_cases ek : k = x
        · rw [ek]; exact hn
        · exact hx k k0 (by omega)
      refine st_X10_isYielded_2 hm (fun _ _ _ => ⟨fun q => by omega, fun _ => ⟨fun q => ⟨(jI_neg (fun g => ?_)).symm, rfl⟩, fun _ => ⟨⟨x0, by omega⟩, fun _ => ⟨fun q => nx (fun g => q g.1), fun q => ?_⟩⟩⟩⟩)
      · obtain ⟨k, k0, k1, k2, k3, k4⟩ := g
        obtain ⟨y, y0, y1, y2⟩ := k4
        omega
      · refine (sp_X10_areTogether hm ⟨hf, x0, by omega⟩).mono (fun y I5 _ _ hy => ?_)
        obtain ⟨rfl, rfl⟩ := hy
        refine ⟨fun q2 => nx (fun g => jI_n q2 g.2.1), fun q2 => ⟨hf, ⟨x0, by omega⟩, ?_⟩⟩
        refine (sp_X10_yieldsTo hm h).mono (fun y I6 _ _ hy => ?_)
        obtain ⟨rfl, rfl⟩ := hy
        exact ⟨fun q3 => nx (fun g => jI_n q3 g.2.2), fun q3 => ⟨(jI_pos ⟨x, x0, by omega, q, jI_p q2, jI_p q3⟩).symm, rfl⟩⟩
  exact en_X10_isYielded hm (fun _ _ => loop (I m 17).toNat 0 (by omega) (by omega) (fun k k0 k1 => by omega))
end RY
