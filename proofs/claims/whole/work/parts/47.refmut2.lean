/-! ===== the reference: text, apply, make, undo, image, back ===== -/
set_option maxRecDepth 20000 in
theorem st_X10_text_127 {E : jE} {G : jG} {I : jM} {q : Int → jM → Prop} {m : Nat} {x1 : Int} {x2 : Int} {x3 : Int} (hm : WX10 G m) (hT : (∀ a j, jRg (G.2.1 a).1 (I a j)) → jIn x1 → jIn x2 → jIn x3 → ((16 ≤ x3 → (∀ M2, M2 = jup I (m + 1) 3 0 → q x1 M2)) ∧ (¬ 16 ≤ x3 → ((0 : Int) ≤ (410 + x3) ∧ ((410 + x3) : Int) < 22094) ∧ (∀ M4, M4 = jup I (m + 1) (410 + x3) 0 → jIn (x3 + 1) ∧ jOI E (jA m) kX10_text 127 [VR m, VI x1, VI x2, VI (x3 + 1)] G M4 q)))) : jOI E (jA m) kX10_text 127 [VR m, VI x1, VI x2, VI x3] G I q := by
  intro I0 hF
  refine jOk_mem (fun hI => ?_)
  refine jOk_in (i := 1) rfl (fun hx1 => ?_)
  refine jOk_in (i := 2) rfl (fun hx2 => ?_)
  refine jOk_in (i := 3) rfl (fun hx3 => ?_)
  replace hT := hT hI hx1 hx2 hx3
  refine r_iload_n dX10_text_127 rfl (i := 3) rfl ?_
  refine r_bipush (n := 16) dX10_text_128 (by decide +kernel) ?_
  refine r_icmp_ge (tgt := 150) dX10_text_130 rfl hx3 ⟨by decide, by decide⟩ (fun hcc => ?_) (fun hcc => ?_)
  · replace hT := hT.1 hcc
    refine r_aload_n dX10_text_150 rfl (i := 0) rfl ?_
    refine rr_getR (b := (m + 1)) dX10_text_151 fg_X10_7 rfl rfl (wX10_l hm) (wX10_s hm) (wX10_r0 hm) ?_
    refine r_iconst (n := 3) dX10_text_154 ?_
    refine r_iconst (n := 0) dX10_text_155 ?_
    refine rr_iastore dX10_text_156 (wX10_l0 hm) (wX10_a0 hm) (by decide) ⟨by decide, by decide⟩ ⟨by decide, by decide⟩ (fun M2 eM2 => ?_)
    have hFM2 := jFr_up hF eM2 (wX10_f hm 1 (by decide))
    replace hT := hT M2 eM2
    refine jOk_mem (fun hIM2 => ?_)
    refine r_iload_n dX10_text_157 rfl (i := 1) rfl ?_
    exact r_iret dX10_text_158 rfl hx1 ⟨Nat.zero_le _, Nat.zero_le _⟩ ⟨_, rfl, rfl, hFM2, hT⟩
  · replace hT := hT.2 hcc
    refine r_aload_n dX10_text_133 rfl (i := 0) rfl ?_
    refine rr_getR (b := (m + 1)) dX10_text_134 fg_X10_7 rfl rfl (wX10_l hm) (wX10_s hm) (wX10_r0 hm) ?_
    refine r_sipush (n := 410) dX10_text_137 (by decide +kernel) ?_
    refine r_iload_n dX10_text_140 rfl (i := 3) rfl ?_
    refine r_iadd dX10_text_141 ?_
    refine r_iconst (n := 0) dX10_text_142 ?_
    obtain ⟨hc3, hT⟩ := hT
    refine rr_iastore dX10_text_143 (wX10_l0 hm) (wX10_a0 hm) (by decide) hc3 ⟨by decide, by decide⟩ (fun M4 eM4 => ?_)
    have hFM4 := jFr_up hF eM4 (wX10_f hm 1 (by decide))
    replace hT := hT M4 eM4
    refine jOk_mem (fun hIM4 => ?_)
    obtain ⟨hc5, hT⟩ := hT
    refine rr_iinc (i := 3) (ls' := [VR m, VI x1, VI x2, VI (x3 + 1)]) dX10_text_144 rfl (Nat.le_of_ble_eq_true rfl) rfl rfl hc5 ?_
    refine r_goto (tgt := 127) dX10_text_147 rfl ?_
    exact hT I0 hFM4
set_option maxRecDepth 20000 in
theorem st_X10_text_70 {E : jE} {G : jG} {I : jM} {q : Int → jM → Prop} {m : Nat} {x1 : Int} {x2 : Int} {x3 : Int} (hm : WX10 G m) (hT : (∀ a j, jRg (G.2.1 a).1 (I a j)) → jIn x1 → jIn x2 → jIn x3 → ((200 ≤ x3 → (∀ M2, M2 = jup I (m + 1) 2 x1 → jOI E (jA m) kX10_text 127 [VR m, VI x1, VI x2, VI 0] G M2 q)) ∧ (¬ 200 ≤ x3 → ((x1 ≤ x3 → ((0 : Int) ≤ (10 + x3) ∧ ((10 + x3) : Int) < 22094) ∧ (∀ M4, M4 = jup I (m + 1) (10 + x3) 0 → ((0 : Int) ≤ (210 + x3) ∧ ((210 + x3) : Int) < 22094) ∧ (∀ M6, M6 = jup M4 (m + 1) (210 + x3) 0 → jIn (x3 + 1) ∧ jOI E (jA m) kX10_text 70 [VR m, VI x1, VI x2, VI (x3 + 1)] G M6 q))) ∧ (¬ x1 ≤ x3 → ((0 : Int) ≤ x3 ∧ (x3 : Int) < 300) ∧ ((0 : Int) ≤ (10 + x3) ∧ ((10 + x3) : Int) < 22094) ∧ (∀ M10, M10 = jup I (m + 1) (10 + x3) (I (m + 20) x3) → ((0 : Int) ≤ (210 + x3) ∧ ((210 + x3) : Int) < 22094) ∧ (∀ M12, M12 = jup M10 (m + 1) (210 + x3) 0 → jIn (x3 + 1) ∧ jOI E (jA m) kX10_text 70 [VR m, VI x1, VI x2, VI (x3 + 1)] G M12 q))))))) : jOI E (jA m) kX10_text 70 [VR m, VI x1, VI x2, VI x3] G I q := by
  intro I0 hF
  refine jOk_mem (fun hI => ?_)
  refine jOk_in (i := 1) rfl (fun hx1 => ?_)
  refine jOk_in (i := 2) rfl (fun hx2 => ?_)
  refine jOk_in (i := 3) rfl (fun hx3 => ?_)
  replace hT := hT hI hx1 hx2 hx3
  refine r_iload_n dX10_text_70 rfl (i := 3) rfl ?_
  refine r_sipush (n := 200) dX10_text_71 (by decide +kernel) ?_
  refine r_icmp_ge (tgt := 118) dX10_text_74 rfl hx3 ⟨by decide, by decide⟩ (fun hcc => ?_) (fun hcc => ?_)
  · replace hT := hT.1 hcc
    refine r_aload_n dX10_text_118 rfl (i := 0) rfl ?_
    refine rr_getR (b := (m + 1)) dX10_text_119 fg_X10_7 rfl rfl (wX10_l hm) (wX10_s hm) (wX10_r0 hm) ?_
    refine r_iconst (n := 2) dX10_text_122 ?_
    refine r_iload_n dX10_text_123 rfl (i := 1) rfl ?_
    refine rr_iastore dX10_text_124 (wX10_l0 hm) (wX10_a0 hm) (by decide) ⟨by decide, by decide⟩ hx1 (fun M2 eM2 => ?_)
    have hFM2 := jFr_up hF eM2 (wX10_f hm 1 (by decide))
    replace hT := hT M2 eM2
    refine jOk_mem (fun hIM2 => ?_)
    refine r_iconst (n := 0) dX10_text_125 ?_
    refine rr_istore_n (i := 3) (ls' := [VR m, VI x1, VI x2, VI 0]) dX10_text_126 rfl (Nat.le_of_ble_eq_true rfl) rfl rfl ⟨by decide, by decide⟩ ?_
    exact hT I0 hFM2
  · replace hT := hT.2 hcc
    refine r_aload_n dX10_text_77 rfl (i := 0) rfl ?_
    refine rr_getR (b := (m + 1)) dX10_text_78 fg_X10_7 rfl rfl (wX10_l hm) (wX10_s hm) (wX10_r0 hm) ?_
    refine r_bipush (n := 10) dX10_text_81 (by decide +kernel) ?_
    refine r_iload_n dX10_text_83 rfl (i := 3) rfl ?_
    refine r_iadd dX10_text_84 ?_
    refine r_iload_n dX10_text_85 rfl (i := 3) rfl ?_
    refine r_iload_n dX10_text_86 rfl (i := 1) rfl ?_
    refine r_icmp_ge (tgt := 99) dX10_text_87 rfl hx3 hx1 (fun hcc => ?_) (fun hcc => ?_)
    · replace hT := hT.1 hcc
      refine r_iconst (n := 0) dX10_text_99 ?_
      obtain ⟨hc3, hT⟩ := hT
      refine rr_iastore dX10_text_100 (wX10_l0 hm) (wX10_a0 hm) (by decide) hc3 ⟨by decide, by decide⟩ (fun M4 eM4 => ?_)
      have hFM4 := jFr_up hF eM4 (wX10_f hm 1 (by decide))
      replace hT := hT M4 eM4
      refine jOk_mem (fun hIM4 => ?_)
      refine r_aload_n dX10_text_101 rfl (i := 0) rfl ?_
      refine rr_getR (b := (m + 1)) dX10_text_102 fg_X10_7 rfl rfl (wX10_l hm) (wX10_s hm) (wX10_r0 hm) ?_
      refine r_sipush (n := 210) dX10_text_105 (by decide +kernel) ?_
      refine r_iload_n dX10_text_108 rfl (i := 3) rfl ?_
      refine r_iadd dX10_text_109 ?_
      refine r_iconst (n := 0) dX10_text_110 ?_
      obtain ⟨hc5, hT⟩ := hT
      refine rr_iastore dX10_text_111 (wX10_l0 hm) (wX10_a0 hm) (by decide) hc5 ⟨by decide, by decide⟩ (fun M6 eM6 => ?_)
      have hFM6 := jFr_up hFM4 eM6 (wX10_f hm 1 (by decide))
      replace hT := hT M6 eM6
      refine jOk_mem (fun hIM6 => ?_)
      obtain ⟨hc7, hT⟩ := hT
      refine rr_iinc (i := 3) (ls' := [VR m, VI x1, VI x2, VI (x3 + 1)]) dX10_text_112 rfl (Nat.le_of_ble_eq_true rfl) rfl rfl hc7 ?_
      refine r_goto (tgt := 70) dX10_text_115 rfl ?_
      exact hT I0 hFM6
    · replace hT := hT.2 hcc
      refine r_aload_n dX10_text_90 rfl (i := 0) rfl ?_
      refine rr_getR (b := (m + 20)) dX10_text_91 fg_X10_68 rfl rfl (wX10_l hm) (wX10_s hm) (wX10_r25 hm) ?_
      refine r_iload_n dX10_text_94 rfl (i := 3) rfl ?_
      obtain ⟨hc8, hT⟩ := hT
      refine rr_iaload (v := I (m + 20) x3) dX10_text_95 (wX10_l25 hm) (wX10_a25 hm) (by decide) hc8 rfl ?_
      refine r_goto (tgt := 100) dX10_text_96 rfl ?_
      obtain ⟨hc9, hT⟩ := hT
      refine rr_iastore dX10_text_100 (wX10_l0 hm) (wX10_a0 hm) (by decide) hc9 (hI _ _).inR (fun M10 eM10 => ?_)
      have hFM10 := jFr_up hF eM10 (wX10_f hm 1 (by decide))
      replace hT := hT M10 eM10
      refine jOk_mem (fun hIM10 => ?_)
      refine r_aload_n dX10_text_101 rfl (i := 0) rfl ?_
      refine rr_getR (b := (m + 1)) dX10_text_102 fg_X10_7 rfl rfl (wX10_l hm) (wX10_s hm) (wX10_r0 hm) ?_
      refine r_sipush (n := 210) dX10_text_105 (by decide +kernel) ?_
      refine r_iload_n dX10_text_108 rfl (i := 3) rfl ?_
      refine r_iadd dX10_text_109 ?_
      refine r_iconst (n := 0) dX10_text_110 ?_
      obtain ⟨hc11, hT⟩ := hT
      refine rr_iastore dX10_text_111 (wX10_l0 hm) (wX10_a0 hm) (by decide) hc11 ⟨by decide, by decide⟩ (fun M12 eM12 => ?_)
      have hFM12 := jFr_up hFM10 eM12 (wX10_f hm 1 (by decide))
      replace hT := hT M12 eM12
      refine jOk_mem (fun hIM12 => ?_)
      obtain ⟨hc13, hT⟩ := hT
      refine rr_iinc (i := 3) (ls' := [VR m, VI x1, VI x2, VI (x3 + 1)]) dX10_text_112 rfl (Nat.le_of_ble_eq_true rfl) rfl rfl hc13 ?_
      refine r_goto (tgt := 70) dX10_text_115 rfl ?_
      exact hT I0 hFM12
set_option maxRecDepth 20000 in
theorem st_X10_text_25 {E : jE} {G : jG} {I : jM} {q : Int → jM → Prop} {m : Nat} {x1 : Int} {x2 : Int} {x3 : Int} (hm : WX10 G m) (hT : (∀ a j, jRg (G.2.1 a).1 (I a j)) → jIn x1 → jIn x2 → jIn x3 → ((x1 ≤ x3 → ((¬ x2 = 0 → jRV E (jA m) kX10_keep [VR m] G I (fun I1 => jOI E (jA m) kX10_text 70 [VR m, VI x1, VI x2, VI 0] G I1 q)) ∧ (x2 = 0 → q (-1) I))) ∧ (¬ x1 ≤ x3 → ((x2 = 0 → jIn (x3 + 1) ∧ jOI E (jA m) kX10_text 25 [VR m, VI x1, VI 0, VI (x3 + 1)] G I q) ∧ (¬ x2 = 0 → ((0 : Int) ≤ x3 ∧ (x3 : Int) < 300) ∧ ((¬ ((I (m + 20) x3) = 10 ∨ (32 ≤ (I (m + 20) x3) ∧ (I (m + 20) x3) ≤ 126)) → jIn (x3 + 1) ∧ jOI E (jA m) kX10_text 25 [VR m, VI x1, VI 0, VI (x3 + 1)] G I q) ∧ (((I (m + 20) x3) = 10 ∨ (32 ≤ (I (m + 20) x3) ∧ (I (m + 20) x3) ≤ 126)) → jIn (x3 + 1) ∧ jOI E (jA m) kX10_text 25 [VR m, VI x1, VI 1, VI (x3 + 1)] G I q))))))) : jOI E (jA m) kX10_text 25 [VR m, VI x1, VI x2, VI x3] G I q := by
  intro I0 hF
  refine jOk_mem (fun hI => ?_)
  refine jOk_in (i := 1) rfl (fun hx1 => ?_)
  refine jOk_in (i := 2) rfl (fun hx2 => ?_)
  refine jOk_in (i := 3) rfl (fun hx3 => ?_)
  replace hT := hT hI hx1 hx2 hx3
  refine r_iload_n dX10_text_25 rfl (i := 3) rfl ?_
  refine r_iload_n dX10_text_26 rfl (i := 1) rfl ?_
  refine r_icmp_ge (tgt := 58) dX10_text_27 rfl hx3 hx1 (fun hcc => ?_) (fun hcc => ?_)
  · replace hT := hT.1 hcc
    refine r_iload_n dX10_text_58 rfl (i := 2) rfl ?_
    refine r_if_ne (tgt := 64) dX10_text_59 rfl hx2 (fun hcc => ?_) (fun hcc => ?_)
    · replace hT := hT.1 hcc
      refine r_aload_n dX10_text_64 rfl (i := 0) rfl ?_
      refine rr_cVV (a := m) (as := []) (st := []) dX10_text_65 mt_X10_keep ml_X10_250 mi_X10_keep rm_X10_text_X10_keep jz_X10_keep ⟨Nat.zero_le _, Nat.zero_le _⟩ (Nat.le_of_ble_eq_true rfl) (wX10_l hm) (wX10_c hm) jas0 hT (fun I1 hFI1 hT => ?_)
      replace hFI1 := jFr_tr hF hFI1
      refine jOk_mem (fun hI1 => ?_)
      refine r_iconst (n := 0) dX10_text_68 ?_
      refine rr_istore_n (i := 3) (ls' := [VR m, VI x1, VI x2, VI 0]) dX10_text_69 rfl (Nat.le_of_ble_eq_true rfl) rfl rfl ⟨by decide, by decide⟩ ?_
      exact hT I0 hFI1
    · replace hT := hT.2 hcc
      refine r_iconst (n := (-1)) dX10_text_62 ?_
      exact r_iret dX10_text_63 rfl ⟨by decide, by decide⟩ ⟨Nat.zero_le _, Nat.zero_le _⟩ ⟨_, rfl, rfl, hF, hT⟩
  · replace hT := hT.2 hcc
    refine r_iload_n dX10_text_30 rfl (i := 2) rfl ?_
    refine r_if_eq (tgt := 50) dX10_text_31 rfl hx2 (fun hcc => ?_) (fun hcc => ?_)
    · replace hT := hT.1 hcc
      refine r_iconst (n := 0) dX10_text_50 ?_
      refine rr_istore_n (i := 2) (ls' := [VR m, VI x1, VI 0, VI x3]) dX10_text_51 rfl (Nat.le_of_ble_eq_true rfl) rfl rfl ⟨by decide, by decide⟩ ?_
      obtain ⟨hc2, hT⟩ := hT
      refine rr_iinc (i := 3) (ls' := [VR m, VI x1, VI 0, VI (x3 + 1)]) dX10_text_52 rfl (Nat.le_of_ble_eq_true rfl) rfl rfl hc2 ?_
      refine r_goto (tgt := 25) dX10_text_55 rfl ?_
      exact hT I0 hF
    · replace hT := hT.2 hcc
      refine r_aload_n dX10_text_34 rfl (i := 0) rfl ?_
      refine rr_getR (b := (m + 20)) dX10_text_35 fg_X10_68 rfl rfl (wX10_l hm) (wX10_s hm) (wX10_r25 hm) ?_
      refine r_iload_n dX10_text_38 rfl (i := 3) rfl ?_
      obtain ⟨hc3, hT⟩ := hT
      refine rr_iaload (v := I (m + 20) x3) dX10_text_39 (wX10_l25 hm) (wX10_a25 hm) (by decide) hc3 rfl ?_
      refine rr_pSI (A := (jA m)) (v := jI ((I (m + 20) x3) = 10 ∨ (32 ≤ (I (m + 20) x3) ∧ (I (m + 20) x3) ≤ 126))) (as := [VI (I (m + 20) x3)]) (st := []) dX10_text_40 mt_X10_isByte ml_X10_247 ms_X10_isByte rm_X10_text_X10_isByte jz_X10_isByte ⟨Nat.zero_le _, Nat.zero_le _⟩ (Nat.le_of_ble_eq_true rfl) (jasI (hI _ _).inR jas0) sp_X10_isByte (fun hc4 => ?_)
      refine r_if_eq (tgt := 50) dX10_text_43 rfl hc4 (fun hcc => ?_) (fun hcc => ?_)
      · replace hT := hT.1 (jI_n hcc)
        refine r_iconst (n := 0) dX10_text_50 ?_
        refine rr_istore_n (i := 2) (ls' := [VR m, VI x1, VI 0, VI x3]) dX10_text_51 rfl (Nat.le_of_ble_eq_true rfl) rfl rfl ⟨by decide, by decide⟩ ?_
        obtain ⟨hc5, hT⟩ := hT
        refine rr_iinc (i := 3) (ls' := [VR m, VI x1, VI 0, VI (x3 + 1)]) dX10_text_52 rfl (Nat.le_of_ble_eq_true rfl) rfl rfl hc5 ?_
        refine r_goto (tgt := 25) dX10_text_55 rfl ?_
        exact hT I0 hF
      · replace hT := hT.2 (jI_p hcc)
        refine r_iconst (n := 1) dX10_text_46 ?_
        refine r_goto (tgt := 51) dX10_text_47 rfl ?_
        refine rr_istore_n (i := 2) (ls' := [VR m, VI x1, VI 1, VI x3]) dX10_text_51 rfl (Nat.le_of_ble_eq_true rfl) rfl rfl ⟨by decide, by decide⟩ ?_
        obtain ⟨hc6, hT⟩ := hT
        refine rr_iinc (i := 3) (ls' := [VR m, VI x1, VI 1, VI (x3 + 1)]) dX10_text_52 rfl (Nat.le_of_ble_eq_true rfl) rfl rfl hc6 ?_
        refine r_goto (tgt := 25) dX10_text_55 rfl ?_
        exact hT I0 hF
set_option maxRecDepth 20000 in
theorem st_X10_text_0 {E : jE} {G : jG} {I : jM} {q : Int → jM → Prop} {m : Nat} (hm : WX10 G m) (hT : (∀ a j, jRg (G.2.1 a).1 (I a j)) → (∀ M1, M1 = jup I m 26 0 → ((200 < (I m 26) → jOI E (jA m) kX10_text 25 [VR m, VI (I m 26), VI 0, VI 0] G M1 q) ∧ (¬ 200 < (I m 26) → jOI E (jA m) kX10_text 25 [VR m, VI (I m 26), VI 1, VI 0] G M1 q)))) : jOI E (jA m) kX10_text 0 [VR m, VN, VN, VN] G I q := by
  intro I0 hF
  refine jOk_mem (fun hI => ?_)
  replace hT := hT hI 
  refine r_aload_n dX10_text_0 rfl (i := 0) rfl ?_
  refine rr_getI (v := I m 26) dX10_text_1 fg_X10_241 rfl (wX10_l hm) (wX10_s hm) rfl ?_
  refine rr_istore_n (i := 1) (ls' := [VR m, VI (I m 26), VN, VN]) dX10_text_4 rfl (Nat.le_of_ble_eq_true rfl) rfl rfl (hI _ _).inR ?_
  refine r_aload_n dX10_text_5 rfl (i := 0) rfl ?_
  refine r_iconst (n := 0) dX10_text_6 ?_
  refine rr_putI (jj := 26) dX10_text_7 fp_X10_241 rfl rfl (wX10_l hm) (wX10_s hm) ⟨by decide, by decide⟩ (fun M1 eM1 => ?_)
  have hFM1 := jFr_up hF eM1 (wX10_f hm 0 (by decide))
  replace hT := hT M1 eM1
  refine jOk_mem (fun hIM1 => ?_)
  refine r_iload_n dX10_text_10 rfl (i := 1) rfl ?_
  refine r_sipush (n := 200) dX10_text_11 (by decide +kernel) ?_
  refine r_icmp_gt (tgt := 21) dX10_text_14 rfl (hI _ _).inR ⟨by decide, by decide⟩ (fun hcc => ?_) (fun hcc => ?_)
  · replace hT := hT.1 hcc
    refine r_iconst (n := 0) dX10_text_21 ?_
    refine rr_istore_n (i := 2) (ls' := [VR m, VI (I m 26), VI 0, VN]) dX10_text_22 rfl (Nat.le_of_ble_eq_true rfl) rfl rfl ⟨by decide, by decide⟩ ?_
    refine r_iconst (n := 0) dX10_text_23 ?_
    refine rr_istore_n (i := 3) (ls' := [VR m, VI (I m 26), VI 0, VI 0]) dX10_text_24 rfl (Nat.le_of_ble_eq_true rfl) rfl rfl ⟨by decide, by decide⟩ ?_
    exact hT I0 hFM1
  · replace hT := hT.2 hcc
    refine r_iconst (n := 1) dX10_text_17 ?_
    refine r_goto (tgt := 22) dX10_text_18 rfl ?_
    refine rr_istore_n (i := 2) (ls' := [VR m, VI (I m 26), VI 1, VN]) dX10_text_22 rfl (Nat.le_of_ble_eq_true rfl) rfl rfl ⟨by decide, by decide⟩ ?_
    refine r_iconst (n := 0) dX10_text_23 ?_
    refine rr_istore_n (i := 3) (ls' := [VR m, VI (I m 26), VI 1, VI 0]) dX10_text_24 rfl (Nat.le_of_ble_eq_true rfl) rfl rfl ⟨by decide, by decide⟩ ?_
    exact hT I0 hFM1
theorem en_X10_text {E : jE} {G : jG} {I : jM} {q : Int → jM → Prop} {m : Nat} (hm : WX10 G m) (hT : (∀ a j, jRg (G.2.1 a).1 (I a j)) → (∀ M1, M1 = jup I m 26 0 → ((200 < (I m 26) → jOI E (jA m) kX10_text 25 [VR m, VI (I m 26), VI 0, VI 0] G M1 q) ∧ (¬ 200 < (I m 26) → jOI E (jA m) kX10_text 25 [VR m, VI (I m 26), VI 1, VI 0] G M1 q)))) : jRI E (jA m) kX10_text [VR m] G I q := jRun.of mt_X10_text.2.2.2 3 rfl (fun _ => st_X10_text_0 hm hT I (fun _ _ => rfl))
set_option maxRecDepth 20000 in
theorem st_X10_isFinding_0 {E : jE} {G : jG} {I : jM} {q : Int → jM → Prop} {m : Nat} {x1 : Int} (hm : WX10 G m) (hT : (∀ a j, jRg (G.2.1 a).1 (I a j)) → jIn x1 → jRV E (jA m) kX10_layFindings [VR m] G I (fun I1 => jIn ((I1 m 17) - 1) ∧ q (jI (0 ≤ x1 ∧ x1 ≤ ((I1 m 17) - 1))) I1)) : jOI E (jA m) kX10_isFinding 0 [VR m, VI x1] G I q := by
  intro I0 hF
  refine jOk_mem (fun hI => ?_)
  refine jOk_in (i := 1) rfl (fun hx1 => ?_)
  replace hT := hT hI hx1
  refine r_aload_n dX10_isFinding_0 rfl (i := 0) rfl ?_
  refine rr_cVV (a := m) (as := []) (st := []) dX10_isFinding_1 mt_X10_layFindings ml_X10_229 mi_X10_layFindings rm_X10_isFinding_X10_layFindings jz_X10_layFindings ⟨Nat.zero_le _, Nat.zero_le _⟩ (Nat.le_of_ble_eq_true rfl) (wX10_l hm) (wX10_c hm) jas0 hT (fun I1 hFI1 hT => ?_)
  replace hFI1 := jFr_tr hF hFI1
  refine jOk_mem (fun hI1 => ?_)
  refine r_iload_n dX10_isFinding_4 rfl (i := 1) rfl ?_
  refine r_iconst (n := 0) dX10_isFinding_5 ?_
  refine r_aload_n dX10_isFinding_6 rfl (i := 0) rfl ?_
  refine rr_getI (v := I1 m 17) dX10_isFinding_7 fg_X10_175 rfl (wX10_l hm) (wX10_s hm) rfl ?_
  refine r_iconst (n := 1) dX10_isFinding_10 ?_
  refine r_isub dX10_isFinding_11 ?_
  obtain ⟨hc2, hT⟩ := hT
  refine rr_pSI (A := (jA m)) (v := jI (0 ≤ x1 ∧ x1 ≤ ((I1 m 17) - 1))) (as := [VI x1, VI 0, VI ((I1 m 17) - 1)]) (st := []) dX10_isFinding_12 mt_X10_isIn ml_X10_103 ms_X10_isIn rm_X10_isFinding_X10_isIn jz_X10_isIn ⟨Nat.zero_le _, Nat.zero_le _⟩ (Nat.le_of_ble_eq_true rfl) (jasI hx1 (jasI ⟨by decide, by decide⟩ (jasI hc2 jas0))) sp_X10_isIn (fun hc3 => ?_)
  exact r_zret dX10_isFinding_15 rfl jI_01 ⟨Nat.zero_le _, Nat.zero_le _⟩ ⟨_, rfl, rfl, hFI1, hT⟩
theorem en_X10_isFinding {E : jE} {G : jG} {I : jM} {q : Int → jM → Prop} {m : Nat} {x1 : Int} (hm : WX10 G m) (hT : (∀ a j, jRg (G.2.1 a).1 (I a j)) → jIn x1 → jRV E (jA m) kX10_layFindings [VR m] G I (fun I1 => jIn ((I1 m 17) - 1) ∧ q (jI (0 ≤ x1 ∧ x1 ≤ ((I1 m 17) - 1))) I1)) : jRI E (jA m) kX10_isFinding [VR m, VI x1] G I q := jRun.of mt_X10_isFinding.2.2.2 0 rfl (fun _ => st_X10_isFinding_0 hm hT I (fun _ _ => rfl))
set_option maxRecDepth 20000 in
theorem st_X10_apply_0 {E : jE} {G : jG} {I : jM} {q : Int → jM → Prop} {m : Nat} {x1 : Int} (hm : WX10 G m) (hT : (∀ a j, jRg (G.2.1 a).1 (I a j)) → jIn x1 → jRI E (jA m) kX10_isFinding [VR m, VI x1] G I (fun r2 I1 => ((r2 = 0 → q (-1) I1) ∧ (¬ r2 = 0 → ((0 : Int) ≤ x1 ∧ (x1 : Int) < 1200) ∧ ((0 ≤ (I1 (m + 13) x1) ∧ (I1 (m + 13) x1) ≤ 1) → ((¬ (I1 (m + 13) x1) = 0 → q (-1) I1) ∧ ((I1 (m + 13) x1) = 0 → jRI E (jA m) kX10_longThen [VR m, VI x1] G I1 (fun r7 I6 => ((r7 ≤ 200 → jRV E (jA m) kX10_keep [VR m] G I6 (fun I9 => jRV E (jA m) kX10_makeNow [VR m, VI x1] G I9 (fun I10 => q (I10 (m + 1) 2) I10))) ∧ (¬ r7 ≤ 200 → q (-1) I6)))))))))) : jOI E (jA m) kX10_apply 0 [VR m, VI x1] G I q := by
  intro I0 hF
  refine jOk_mem (fun hI => ?_)
  refine jOk_in (i := 1) rfl (fun hx1 => ?_)
  replace hT := hT hI hx1
  refine r_aload_n dX10_apply_0 rfl (i := 0) rfl ?_
  refine r_iload_n dX10_apply_1 rfl (i := 1) rfl ?_
  refine rr_cVI (a := m) (as := [VI x1]) (st := []) dX10_apply_2 mt_X10_isFinding ml_X10_329 mi_X10_isFinding rm_X10_apply_X10_isFinding jz_X10_isFinding ⟨Nat.zero_le _, Nat.zero_le _⟩ (Nat.le_of_ble_eq_true rfl) (wX10_l hm) (wX10_c hm) (jasI hx1 jas0) hT (fun r2 I1 hc3 hFI1 hT => ?_)
  replace hFI1 := jFr_tr hF hFI1
  refine jOk_mem (fun hI1 => ?_)
  refine r_if_eq (tgt := 28) dX10_apply_5 rfl hc3 (fun hcc => ?_) (fun hcc => ?_)
  · replace hT := hT.1 hcc
    refine r_iconst (n := (-1)) dX10_apply_28 ?_
    exact r_iret dX10_apply_29 rfl ⟨by decide, by decide⟩ ⟨Nat.zero_le _, Nat.zero_le _⟩ ⟨_, rfl, rfl, hFI1, hT⟩
  · replace hT := hT.2 hcc
    refine r_aload_n dX10_apply_8 rfl (i := 0) rfl ?_
    refine rr_getR (b := (m + 13)) dX10_apply_9 fg_X10_46 rfl rfl (wX10_l hm) (wX10_s hm) (wX10_r14 hm) ?_
    refine r_iload_n dX10_apply_12 rfl (i := 1) rfl ?_
    obtain ⟨hc4, hT⟩ := hT
    refine rr_zaload (v := I1 (m + 13) x1) dX10_apply_13 (wX10_l14 hm) (wX10_a14 hm) (by decide) hc4 rfl (fun hr5 => ?_)
    replace hT := hT hr5
    refine r_if_ne (tgt := 28) dX10_apply_14 rfl (hI1 _ _).inR (fun hcc => ?_) (fun hcc => ?_)
    · replace hT := hT.1 hcc
      refine r_iconst (n := (-1)) dX10_apply_28 ?_
      exact r_iret dX10_apply_29 rfl ⟨by decide, by decide⟩ ⟨Nat.zero_le _, Nat.zero_le _⟩ ⟨_, rfl, rfl, hFI1, hT⟩
    · replace hT := hT.2 hcc
      refine r_aload_n dX10_apply_17 rfl (i := 0) rfl ?_
      refine r_iload_n dX10_apply_18 rfl (i := 1) rfl ?_
      refine rr_cVI (a := m) (as := [VI x1]) (st := []) dX10_apply_19 mt_X10_longThen ml_X10_226 mi_X10_longThen rm_X10_apply_X10_longThen jz_X10_longThen ⟨Nat.zero_le _, Nat.zero_le _⟩ (Nat.le_of_ble_eq_true rfl) (wX10_l hm) (wX10_c hm) (jasI hx1 jas0) hT (fun r7 I6 hc8 hFI6 hT => ?_)
      replace hFI6 := jFr_tr hFI1 hFI6
      refine jOk_mem (fun hI6 => ?_)
      refine r_sipush (n := 200) dX10_apply_22 (by decide +kernel) ?_
      refine r_icmp_le (tgt := 30) dX10_apply_25 rfl hc8 ⟨by decide, by decide⟩ (fun hcc => ?_) (fun hcc => ?_)
      · replace hT := hT.1 hcc
        refine r_aload_n dX10_apply_30 rfl (i := 0) rfl ?_
        refine rr_cVV (a := m) (as := []) (st := []) dX10_apply_31 mt_X10_keep ml_X10_250 mi_X10_keep rm_X10_apply_X10_keep jz_X10_keep ⟨Nat.zero_le _, Nat.zero_le _⟩ (Nat.le_of_ble_eq_true rfl) (wX10_l hm) (wX10_c hm) jas0 hT (fun I9 hFI9 hT => ?_)
        replace hFI9 := jFr_tr hFI6 hFI9
        refine jOk_mem (fun hI9 => ?_)
        refine r_aload_n dX10_apply_34 rfl (i := 0) rfl ?_
        refine r_iload_n dX10_apply_35 rfl (i := 1) rfl ?_
        refine rr_cVV (a := m) (as := [VI x1]) (st := []) dX10_apply_36 mt_X10_makeNow ml_X10_235 mi_X10_makeNow rm_X10_apply_X10_makeNow jz_X10_makeNow ⟨Nat.zero_le _, Nat.zero_le _⟩ (Nat.le_of_ble_eq_true rfl) (wX10_l hm) (wX10_c hm) (jasI hx1 jas0) hT (fun I10 hFI10 hT => ?_)
        replace hFI10 := jFr_tr hFI9 hFI10
        refine jOk_mem (fun hI10 => ?_)
        refine r_aload_n dX10_apply_39 rfl (i := 0) rfl ?_
        refine rr_getR (b := (m + 1)) dX10_apply_40 fg_X10_7 rfl rfl (wX10_l hm) (wX10_s hm) (wX10_r0 hm) ?_
        refine r_iconst (n := 2) dX10_apply_43 ?_
        refine rr_iaload (v := I10 (m + 1) 2) dX10_apply_44 (wX10_l0 hm) (wX10_a0 hm) (by decide) ⟨by decide, by decide⟩ rfl ?_
        exact r_iret dX10_apply_45 rfl (hI10 _ _).inR ⟨Nat.zero_le _, Nat.zero_le _⟩ ⟨_, rfl, rfl, hFI10, hT⟩
      · replace hT := hT.2 hcc
        refine r_iconst (n := (-1)) dX10_apply_28 ?_
        exact r_iret dX10_apply_29 rfl ⟨by decide, by decide⟩ ⟨Nat.zero_le _, Nat.zero_le _⟩ ⟨_, rfl, rfl, hFI6, hT⟩
theorem en_X10_apply {E : jE} {G : jG} {I : jM} {q : Int → jM → Prop} {m : Nat} {x1 : Int} (hm : WX10 G m) (hT : (∀ a j, jRg (G.2.1 a).1 (I a j)) → jIn x1 → jRI E (jA m) kX10_isFinding [VR m, VI x1] G I (fun r2 I1 => ((r2 = 0 → q (-1) I1) ∧ (¬ r2 = 0 → ((0 : Int) ≤ x1 ∧ (x1 : Int) < 1200) ∧ ((0 ≤ (I1 (m + 13) x1) ∧ (I1 (m + 13) x1) ≤ 1) → ((¬ (I1 (m + 13) x1) = 0 → q (-1) I1) ∧ ((I1 (m + 13) x1) = 0 → jRI E (jA m) kX10_longThen [VR m, VI x1] G I1 (fun r7 I6 => ((r7 ≤ 200 → jRV E (jA m) kX10_keep [VR m] G I6 (fun I9 => jRV E (jA m) kX10_makeNow [VR m, VI x1] G I9 (fun I10 => q (I10 (m + 1) 2) I10))) ∧ (¬ r7 ≤ 200 → q (-1) I6)))))))))) : jRI E (jA m) kX10_apply [VR m, VI x1] G I q := jRun.of mt_X10_apply.2.2.2 0 rfl (fun _ => st_X10_apply_0 hm hT I (fun _ _ => rfl))
set_option maxRecDepth 20000 in
theorem st_X10_make_18 {E : jE} {G : jG} {I : jM} {q : Int → jM → Prop} {m : Nat} {x1 : Int} {x2 : Int} (hm : WX10 G m) (hT : (∀ a j, jRg (G.2.1 a).1 (I a j)) → jIn x1 → jIn x2 → ((x1 ≤ x2 → q x2 I) ∧ (¬ x1 ≤ x2 → jRI E (jA m) kX10_roundNow [VR m] G I (fun r2 I1 => ((r2 = 0 → q x2 I1) ∧ (¬ r2 = 0 → jIn (x2 + 1) ∧ jOI E (jA m) kX10_make 18 [VR m, VI x1, VI (x2 + 1)] G I1 q)))))) : jOI E (jA m) kX10_make 18 [VR m, VI x1, VI x2] G I q := by
  intro I0 hF
  refine jOk_mem (fun hI => ?_)
  refine jOk_in (i := 1) rfl (fun hx1 => ?_)
  refine jOk_in (i := 2) rfl (fun hx2 => ?_)
  replace hT := hT hI hx1 hx2
  refine r_iload_n dX10_make_18 rfl (i := 2) rfl ?_
  refine r_iload_n dX10_make_19 rfl (i := 1) rfl ?_
  refine r_icmp_ge (tgt := 36) dX10_make_20 rfl hx2 hx1 (fun hcc => ?_) (fun hcc => ?_)
  · replace hT := hT.1 hcc
    refine r_iload_n dX10_make_36 rfl (i := 2) rfl ?_
    exact r_iret dX10_make_37 rfl hx2 ⟨Nat.zero_le _, Nat.zero_le _⟩ ⟨_, rfl, rfl, hF, hT⟩
  · replace hT := hT.2 hcc
    refine r_aload_n dX10_make_23 rfl (i := 0) rfl ?_
    refine rr_cVI (a := m) (as := []) (st := []) dX10_make_24 mt_X10_roundNow ml_X10_332 mi_X10_roundNow rm_X10_make_X10_roundNow jz_X10_roundNow ⟨Nat.zero_le _, Nat.zero_le _⟩ (Nat.le_of_ble_eq_true rfl) (wX10_l hm) (wX10_c hm) jas0 hT (fun r2 I1 hc3 hFI1 hT => ?_)
    replace hFI1 := jFr_tr hF hFI1
    refine jOk_mem (fun hI1 => ?_)
    refine r_if_eq (tgt := 36) dX10_make_27 rfl hc3 (fun hcc => ?_) (fun hcc => ?_)
    · replace hT := hT.1 hcc
      refine r_iload_n dX10_make_36 rfl (i := 2) rfl ?_
      exact r_iret dX10_make_37 rfl hx2 ⟨Nat.zero_le _, Nat.zero_le _⟩ ⟨_, rfl, rfl, hFI1, hT⟩
    · replace hT := hT.2 hcc
      obtain ⟨hc4, hT⟩ := hT
      refine rr_iinc (i := 2) (ls' := [VR m, VI x1, VI (x2 + 1)]) dX10_make_30 rfl (Nat.le_of_ble_eq_true rfl) rfl rfl hc4 ?_
      refine r_goto (tgt := 18) dX10_make_33 rfl ?_
      exact hT I0 hFI1
set_option maxRecDepth 20000 in
theorem st_X10_make_0 {E : jE} {G : jG} {I : jM} {q : Int → jM → Prop} {m : Nat} {x1 : Int} (hm : WX10 G m) (hT : (∀ a j, jRg (G.2.1 a).1 (I a j)) → jIn x1 → (((1 ≤ x1 ∧ x1 ≤ 30) → jRV E (jA m) kX10_keep [VR m] G I (fun I2 => jOI E (jA m) kX10_make 18 [VR m, VI x1, VI 0] G I2 q)) ∧ (¬ (1 ≤ x1 ∧ x1 ≤ 30) → q (-1) I))) : jOI E (jA m) kX10_make 0 [VR m, VI x1, VN] G I q := by
  intro I0 hF
  refine jOk_mem (fun hI => ?_)
  refine jOk_in (i := 1) rfl (fun hx1 => ?_)
  replace hT := hT hI hx1
  refine r_iload_n dX10_make_0 rfl (i := 1) rfl ?_
  refine r_iconst (n := 1) dX10_make_1 ?_
  refine r_bipush (n := 30) dX10_make_2 (by decide +kernel) ?_
  refine rr_pSI (A := (jA m)) (v := jI (1 ≤ x1 ∧ x1 ≤ 30)) (as := [VI x1, VI 1, VI 30]) (st := []) dX10_make_4 mt_X10_isIn ml_X10_103 ms_X10_isIn rm_X10_make_X10_isIn jz_X10_isIn ⟨Nat.zero_le _, Nat.zero_le _⟩ (Nat.le_of_ble_eq_true rfl) (jasI hx1 (jasI ⟨by decide, by decide⟩ (jasI ⟨by decide, by decide⟩ jas0))) sp_X10_isIn (fun hc1 => ?_)
  refine r_if_ne (tgt := 12) dX10_make_7 rfl hc1 (fun hcc => ?_) (fun hcc => ?_)
  · replace hT := hT.1 (jI_p hcc)
    refine r_aload_n dX10_make_12 rfl (i := 0) rfl ?_
    refine rr_cVV (a := m) (as := []) (st := []) dX10_make_13 mt_X10_keep ml_X10_250 mi_X10_keep rm_X10_make_X10_keep jz_X10_keep ⟨Nat.zero_le _, Nat.zero_le _⟩ (Nat.le_of_ble_eq_true rfl) (wX10_l hm) (wX10_c hm) jas0 hT (fun I2 hFI2 hT => ?_)
    replace hFI2 := jFr_tr hF hFI2
    refine jOk_mem (fun hI2 => ?_)
    refine r_iconst (n := 0) dX10_make_16 ?_
    refine rr_istore_n (i := 2) (ls' := [VR m, VI x1, VI 0]) dX10_make_17 rfl (Nat.le_of_ble_eq_true rfl) rfl rfl ⟨by decide, by decide⟩ ?_
    exact hT I0 hFI2
  · replace hT := hT.2 (jI_n hcc)
    refine r_iconst (n := (-1)) dX10_make_10 ?_
    exact r_iret dX10_make_11 rfl ⟨by decide, by decide⟩ ⟨Nat.zero_le _, Nat.zero_le _⟩ ⟨_, rfl, rfl, hF, hT⟩
theorem en_X10_make {E : jE} {G : jG} {I : jM} {q : Int → jM → Prop} {m : Nat} {x1 : Int} (hm : WX10 G m) (hT : (∀ a j, jRg (G.2.1 a).1 (I a j)) → jIn x1 → (((1 ≤ x1 ∧ x1 ≤ 30) → jRV E (jA m) kX10_keep [VR m] G I (fun I2 => jOI E (jA m) kX10_make 18 [VR m, VI x1, VI 0] G I2 q)) ∧ (¬ (1 ≤ x1 ∧ x1 ≤ 30) → q (-1) I))) : jRI E (jA m) kX10_make [VR m, VI x1] G I q := jRun.of mt_X10_make.2.2.2 1 rfl (fun _ => st_X10_make_0 hm hT I (fun _ _ => rfl))
set_option maxRecDepth 20000 in
theorem st_X10_copy_2 {E : jE} {A : Nat → Prop} {G : jG} {I : jM} {q : jM → Prop} {p0 np0 : Nat} {p1 np1 : Nat} {x2 : Int} (lp0 : p0 < G.2.2) (sp0 : G.2.1 p0 = (100, np0)) (bp0 : (np0 : Int) ≤ 2147483647) (hp0 : ¬ A p0) (lp1 : p1 < G.2.2) (sp1 : G.2.1 p1 = (100, np1)) (bp1 : (np1 : Int) ≤ 2147483647) (hp1 : ¬ A p1) (hT : (∀ a j, jRg (G.2.1 a).1 (I a j)) → jIn x2 → ((22094 ≤ x2 → q I) ∧ (¬ 22094 ≤ x2 → ((0 : Int) ≤ x2 ∧ (x2 : Int) < np0) ∧ ((0 : Int) ≤ x2 ∧ (x2 : Int) < np1) ∧ (∀ M3, M3 = jup I p1 x2 (I p0 x2) → jIn (x2 + 1) ∧ jOV E A kX10_copy 2 [VR p0, VR p1, VI (x2 + 1)] G M3 q)))) : jOV E A kX10_copy 2 [VR p0, VR p1, VI x2] G I q := by
  intro I0 hF
  refine jOk_mem (fun hI => ?_)
  refine jOk_in (i := 2) rfl (fun hx2 => ?_)
  replace hT := hT hI hx2
  refine r_iload_n dX10_copy_2 rfl (i := 2) rfl ?_
  refine r_sipush (n := 22094) dX10_copy_3 (by decide +kernel) ?_
  refine r_icmp_ge (tgt := 21) dX10_copy_6 rfl hx2 ⟨by decide, by decide⟩ (fun hcc => ?_) (fun hcc => ?_)
  · replace hT := hT.1 hcc
    exact r_vret dX10_copy_21 rfl ⟨Nat.zero_le _, Nat.zero_le _⟩ ⟨rfl, rfl, hF, hT⟩
  · replace hT := hT.2 hcc
    refine r_aload_n dX10_copy_9 rfl (i := 1) rfl ?_
    refine r_iload_n dX10_copy_10 rfl (i := 2) rfl ?_
    refine r_aload_n dX10_copy_11 rfl (i := 0) rfl ?_
    refine r_iload_n dX10_copy_12 rfl (i := 2) rfl ?_
    obtain ⟨hc1, hT⟩ := hT
    refine rr_iaload (v := I p0 x2) dX10_copy_13 lp0 sp0 bp0 hc1 rfl ?_
    obtain ⟨hc2, hT⟩ := hT
    refine rr_iastore dX10_copy_14 lp1 sp1 bp1 hc2 (hI _ _).inR (fun M3 eM3 => ?_)
    have hFM3 := jFr_up hF eM3 hp1
    replace hT := hT M3 eM3
    refine jOk_mem (fun hIM3 => ?_)
    obtain ⟨hc4, hT⟩ := hT
    refine rr_iinc (i := 2) (ls' := [VR p0, VR p1, VI (x2 + 1)]) dX10_copy_15 rfl (Nat.le_of_ble_eq_true rfl) rfl rfl hc4 ?_
    refine r_goto (tgt := 2) dX10_copy_18 rfl ?_
    exact hT I0 hFM3
set_option maxRecDepth 20000 in
theorem st_X10_copy_0 {E : jE} {A : Nat → Prop} {G : jG} {I : jM} {q : jM → Prop} {p0 np0 : Nat} {p1 np1 : Nat} (lp0 : p0 < G.2.2) (sp0 : G.2.1 p0 = (100, np0)) (bp0 : (np0 : Int) ≤ 2147483647) (hp0 : ¬ A p0) (lp1 : p1 < G.2.2) (sp1 : G.2.1 p1 = (100, np1)) (bp1 : (np1 : Int) ≤ 2147483647) (hp1 : ¬ A p1) (hT : (∀ a j, jRg (G.2.1 a).1 (I a j)) → jOV E A kX10_copy 2 [VR p0, VR p1, VI 0] G I q) : jOV E A kX10_copy 0 [VR p0, VR p1, VN] G I q := by
  intro I0 hF
  refine jOk_mem (fun hI => ?_)
  replace hT := hT hI 
  refine r_iconst (n := 0) dX10_copy_0 ?_
  refine rr_istore_n (i := 2) (ls' := [VR p0, VR p1, VI 0]) dX10_copy_1 rfl (Nat.le_of_ble_eq_true rfl) rfl rfl ⟨by decide, by decide⟩ ?_
  exact hT I0 hF
theorem en_X10_copy {E : jE} {A : Nat → Prop} {G : jG} {I : jM} {q : jM → Prop} {p0 np0 : Nat} {p1 np1 : Nat} (lp0 : p0 < G.2.2) (sp0 : G.2.1 p0 = (100, np0)) (bp0 : (np0 : Int) ≤ 2147483647) (hp0 : ¬ A p0) (lp1 : p1 < G.2.2) (sp1 : G.2.1 p1 = (100, np1)) (bp1 : (np1 : Int) ≤ 2147483647) (hp1 : ¬ A p1) (hT : (∀ a j, jRg (G.2.1 a).1 (I a j)) → jOV E A kX10_copy 2 [VR p0, VR p1, VI 0] G I q) : jRV E A kX10_copy [VR p0, VR p1] G I q := jRun.of mt_X10_copy.2.2.2 1 rfl (fun _ => st_X10_copy_0 lp0 sp0 bp0 hp0 lp1 sp1 bp1 hp1 hT I (fun _ _ => rfl))
set_option maxRecDepth 20000 in
theorem st_X10_image_0 {E : jE} {G : jG} {I : jM} {q : Int → jM → Prop} {m : Nat} (hm : WX10 G m) (hT : (∀ a j, jRg (G.2.1 a).1 (I a j)) → jRV E (jA m) kX10_copy [VR (m + 1), VR (m + 2)] G I (fun I1 => q (I1 (m + 1) 2) I1)) : jOI E (jA m) kX10_image 0 [VR m] G I q := by
  intro I0 hF
  refine jOk_mem (fun hI => ?_)
  replace hT := hT hI 
  refine r_aload_n dX10_image_0 rfl (i := 0) rfl ?_
  refine rr_getR (b := (m + 1)) dX10_image_1 fg_X10_7 rfl rfl (wX10_l hm) (wX10_s hm) (wX10_r0 hm) ?_
  refine r_aload_n dX10_image_4 rfl (i := 0) rfl ?_
  refine rr_getR (b := (m + 2)) dX10_image_5 fg_X10_13 rfl rfl (wX10_l hm) (wX10_s hm) (wX10_r1 hm) ?_
  refine rr_cSV (as := [VR (m + 1), VR (m + 2)]) (st := []) dX10_image_8 mt_X10_copy ml_X10_99 ms_X10_copy rm_X10_image_X10_copy jz_X10_copy ⟨Nat.zero_le _, Nat.zero_le _⟩ (Nat.le_of_ble_eq_true rfl) (jasR (jasR jas0)) hT (fun I1 hFI1 hT => ?_)
  replace hFI1 := jFr_tr hF hFI1
  refine jOk_mem (fun hI1 => ?_)
  refine r_aload_n dX10_image_11 rfl (i := 0) rfl ?_
  refine rr_getR (b := (m + 1)) dX10_image_12 fg_X10_7 rfl rfl (wX10_l hm) (wX10_s hm) (wX10_r0 hm) ?_
  refine r_iconst (n := 2) dX10_image_15 ?_
  refine rr_iaload (v := I1 (m + 1) 2) dX10_image_16 (wX10_l0 hm) (wX10_a0 hm) (by decide) ⟨by decide, by decide⟩ rfl ?_
  exact r_iret dX10_image_17 rfl (hI1 _ _).inR ⟨Nat.zero_le _, Nat.zero_le _⟩ ⟨_, rfl, rfl, hFI1, hT⟩
theorem en_X10_image {E : jE} {G : jG} {I : jM} {q : Int → jM → Prop} {m : Nat} (hm : WX10 G m) (hT : (∀ a j, jRg (G.2.1 a).1 (I a j)) → jRV E (jA m) kX10_copy [VR (m + 1), VR (m + 2)] G I (fun I1 => q (I1 (m + 1) 2) I1)) : jRI E (jA m) kX10_image [VR m] G I q := jRun.of mt_X10_image.2.2.2 0 rfl (fun _ => st_X10_image_0 hm hT I (fun _ _ => rfl))
set_option maxRecDepth 20000 in
theorem st_X10_back_0 {E : jE} {G : jG} {I : jM} {q : Int → jM → Prop} {m : Nat} (hm : WX10 G m) (hT : (∀ a j, jRg (G.2.1 a).1 (I a j)) → jRV E (jA m) kX10_copy [VR (m + 2), VR (m + 1)] G I (fun I1 => q (I1 (m + 1) 2) I1)) : jOI E (jA m) kX10_back 0 [VR m] G I q := by
  intro I0 hF
  refine jOk_mem (fun hI => ?_)
  replace hT := hT hI 
  refine r_aload_n dX10_back_0 rfl (i := 0) rfl ?_
  refine rr_getR (b := (m + 2)) dX10_back_1 fg_X10_13 rfl rfl (wX10_l hm) (wX10_s hm) (wX10_r1 hm) ?_
  refine r_aload_n dX10_back_4 rfl (i := 0) rfl ?_
  refine rr_getR (b := (m + 1)) dX10_back_5 fg_X10_7 rfl rfl (wX10_l hm) (wX10_s hm) (wX10_r0 hm) ?_
  refine rr_cSV (as := [VR (m + 2), VR (m + 1)]) (st := []) dX10_back_8 mt_X10_copy ml_X10_99 ms_X10_copy rm_X10_back_X10_copy jz_X10_copy ⟨Nat.zero_le _, Nat.zero_le _⟩ (Nat.le_of_ble_eq_true rfl) (jasR (jasR jas0)) hT (fun I1 hFI1 hT => ?_)
  replace hFI1 := jFr_tr hF hFI1
  refine jOk_mem (fun hI1 => ?_)
  refine r_aload_n dX10_back_11 rfl (i := 0) rfl ?_
  refine rr_getR (b := (m + 1)) dX10_back_12 fg_X10_7 rfl rfl (wX10_l hm) (wX10_s hm) (wX10_r0 hm) ?_
  refine r_iconst (n := 2) dX10_back_15 ?_
  refine rr_iaload (v := I1 (m + 1) 2) dX10_back_16 (wX10_l0 hm) (wX10_a0 hm) (by decide) ⟨by decide, by decide⟩ rfl ?_
  exact r_iret dX10_back_17 rfl (hI1 _ _).inR ⟨Nat.zero_le _, Nat.zero_le _⟩ ⟨_, rfl, rfl, hFI1, hT⟩
theorem en_X10_back {E : jE} {G : jG} {I : jM} {q : Int → jM → Prop} {m : Nat} (hm : WX10 G m) (hT : (∀ a j, jRg (G.2.1 a).1 (I a j)) → jRV E (jA m) kX10_copy [VR (m + 2), VR (m + 1)] G I (fun I1 => q (I1 (m + 1) 2) I1)) : jRI E (jA m) kX10_back [VR m] G I q := jRun.of mt_X10_back.2.2.2 0 rfl (fun _ => st_X10_back_0 hm hT I (fun _ _ => rfl))
set_option maxRecDepth 20000 in
theorem st_X10_steps_0 {E : jE} {G : jG} {I : jM} {q : Int → jM → Prop} {m : Nat} (hm : WX10 G m) (hT : (∀ a j, jRg (G.2.1 a).1 (I a j)) → q (I (m + 1) 0) I) : jOI E (jA m) kX10_steps 0 [VR m] G I q := by
  intro I0 hF
  refine jOk_mem (fun hI => ?_)
  replace hT := hT hI 
  refine r_aload_n dX10_steps_0 rfl (i := 0) rfl ?_
  refine rr_getR (b := (m + 1)) dX10_steps_1 fg_X10_7 rfl rfl (wX10_l hm) (wX10_s hm) (wX10_r0 hm) ?_
  refine r_iconst (n := 0) dX10_steps_4 ?_
  refine rr_iaload (v := I (m + 1) 0) dX10_steps_5 (wX10_l0 hm) (wX10_a0 hm) (by decide) ⟨by decide, by decide⟩ rfl ?_
  exact r_iret dX10_steps_6 rfl (hI _ _).inR ⟨Nat.zero_le _, Nat.zero_le _⟩ ⟨_, rfl, rfl, hF, hT⟩
theorem en_X10_steps {E : jE} {G : jG} {I : jM} {q : Int → jM → Prop} {m : Nat} (hm : WX10 G m) (hT : (∀ a j, jRg (G.2.1 a).1 (I a j)) → q (I (m + 1) 0) I) : jRI E (jA m) kX10_steps [VR m] G I q := jRun.of mt_X10_steps.2.2.2 0 rfl (fun _ => st_X10_steps_0 hm hT I (fun _ _ => rfl))
set_option maxRecDepth 20000 in
theorem st_X10_fault_0 {E : jE} {G : jG} {I : jM} {q : Int → jM → Prop} {m : Nat} {x1 : Int} (hm : WX10 G m) (hT : (∀ a j, jRg (G.2.1 a).1 (I a j)) → jIn x1 → ((¬ x1 = 0 → ((¬ x1 = 1 → q (-1) I) ∧ (x1 = 1 → q (I m 32) I))) ∧ (x1 = 0 → q (I m 31) I))) : jOI E (jA m) kX10_fault 0 [VR m, VI x1] G I q := by
  intro I0 hF
  refine jOk_mem (fun hI => ?_)
  refine jOk_in (i := 1) rfl (fun hx1 => ?_)
  replace hT := hT hI hx1
  refine r_iload_n dX10_fault_0 rfl (i := 1) rfl ?_
  refine r_if_ne (tgt := 11) dX10_fault_1 rfl hx1 (fun hcc => ?_) (fun hcc => ?_)
  · replace hT := hT.1 hcc
    refine r_iload_n dX10_fault_11 rfl (i := 1) rfl ?_
    refine r_iconst (n := 1) dX10_fault_12 ?_
    refine r_icmp_ne (tgt := 23) dX10_fault_13 rfl hx1 ⟨by decide, by decide⟩ (fun hcc => ?_) (fun hcc => ?_)
    · replace hT := hT.1 hcc
      refine r_iconst (n := (-1)) dX10_fault_23 ?_
      exact r_iret dX10_fault_24 rfl ⟨by decide, by decide⟩ ⟨Nat.zero_le _, Nat.zero_le _⟩ ⟨_, rfl, rfl, hF, hT⟩
    · replace hT := hT.2 hcc
      refine r_aload_n dX10_fault_16 rfl (i := 0) rfl ?_
      refine rr_getI (v := I m 32) dX10_fault_17 fg_X10_74 rfl (wX10_l hm) (wX10_s hm) rfl ?_
      refine r_goto (tgt := 24) dX10_fault_20 rfl ?_
      exact r_iret dX10_fault_24 rfl (hI _ _).inR ⟨Nat.zero_le _, Nat.zero_le _⟩ ⟨_, rfl, rfl, hF, hT⟩
  · replace hT := hT.2 hcc
    refine r_aload_n dX10_fault_4 rfl (i := 0) rfl ?_
    refine rr_getI (v := I m 31) dX10_fault_5 fg_X10_259 rfl (wX10_l hm) (wX10_s hm) rfl ?_
    refine r_goto (tgt := 24) dX10_fault_8 rfl ?_
    exact r_iret dX10_fault_24 rfl (hI _ _).inR ⟨Nat.zero_le _, Nat.zero_le _⟩ ⟨_, rfl, rfl, hF, hT⟩
theorem en_X10_fault {E : jE} {G : jG} {I : jM} {q : Int → jM → Prop} {m : Nat} {x1 : Int} (hm : WX10 G m) (hT : (∀ a j, jRg (G.2.1 a).1 (I a j)) → jIn x1 → ((¬ x1 = 0 → ((¬ x1 = 1 → q (-1) I) ∧ (x1 = 1 → q (I m 32) I))) ∧ (x1 = 0 → q (I m 31) I))) : jRI E (jA m) kX10_fault [VR m, VI x1] G I q := jRun.of mt_X10_fault.2.2.2 0 rfl (fun _ => st_X10_fault_0 hm hT I (fun _ _ => rfl))
/-- a new text -/
def txB (B : Int → Int) (T : List Int) : Int → Int := fun j => if j = 2 then T.length else if j = 3 then 0 else if 10 ≤ j ∧ j < 210 then T.getD (j - 10).toNat 0 else if 210 ≤ j ∧ j < 426 ∧ ¬ (410 ≤ j ∧ j < 410) then 0 else B j
section RU
variable {E : jE} {G : jG} {m : Nat} {I : jM} {B B' : Int → Int} {H H' : List (Int → Int)} {T : List Int} {fk fp c : Int}
theorem RR.untape {M : jM} (h : RR m I B H B' H' T fk fp) (e : M = jup I m 26 0) : RR m M B H B' H' [] fk fp := by
  obtain ⟨h1, h2, h3, h4, h5⟩ := h
  have f1 : ∀ a, a ≠ m → M a = I a := fun a hb => by
    funext j
    exact jr_na e hb
  exact ⟨by rw [f1 _ (by omega)]; exact h1, by rw [f1 _ (by omega)]; exact h2, ⟨by rw [jr_eq e]; rfl, by simp, fun i hi => absurd hi (Nat.not_lt_zero i)⟩, by rw [jr_nj e (by omega)]; exact h4, by rw [jr_nj e (by omega)]; exact h5⟩
theorem ref_text (hm : WX10 G m) (h : RR m I B H B' H' T fk fp) : jRI E (jA m) kX10_text [VR m] G I (fun x I' => (¬ (T.length ≤ 200 ∧ ∀ b ∈ T, okB b) → x = -1 ∧ RR m I' B H B' H' [] fk fp) ∧ (T.length ≤ 200 ∧ (∀ b ∈ T, okB b) → x = T.length ∧ RR m I' (txB B T) (pushH H B) B' H' [] fk fp)) := by
  have e26 := h.2.2.1.1
  have hl := h.2.2.1.2.1
  have ht := h.2.2.1.2.2
  -- the last loop
  have l127 : ∀ (x2 : Int) (d : Nat) (x : Int), 0 ≤ x → x + d = 16 → (T.length ≤ 200 ∧ ∀ b ∈ T, okB b) → ∀ I1 : jM, RR m I1 (fun j => if j = 2 then T.length else if 10 ≤ j ∧ j < 210 then T.getD (j - 10).toNat 0 else if 210 ≤ j ∧ j < 410 + x then 0 else B j) (pushH H B) B' H' [] fk fp → jOI E (jA m) kX10_text 127 [VR m, VI T.length, VI x2, VI x] G I1 (fun x I' => (¬ (T.length ≤ 200 ∧ ∀ b ∈ T, okB b) → x = -1 ∧ RR m I' B H B' H' [] fk fp) ∧ (T.length ≤ 200 ∧ (∀ b ∈ T, okB b) → x = T.length ∧ RR m I' (txB B T) (pushH H B) B' H' [] fk fp)) := by
    intro x2 d
    induction d with
    | zero =>
      intro x x0 x1 hok I1 hr
      refine st_X10_text_127 hm (fun _ _ _ _ => ⟨fun _ M2 e2 => ⟨fun g => absurd hok g, fun _ => ⟨rfl, ?_⟩⟩, fun q => by omega⟩)
      have e : txB B T = up (fun j => if j = 2 then T.length else if 10 ≤ j ∧ j < 210 then T.getD (j - 10).toNat 0 else if 210 ≤ j ∧ j < 410 + x then 0 else B j) 3 0 := by
        funext j
        unfold txB up
        dsimp only
        by_cases q2 : j = 2
        · rw [if_pos q2, if_neg (by omega), if_pos q2]
        · rw [if_neg q2]
          by_cases q3 : j = 3
          · rw [if_pos q3, if_pos q3]
          · rw [if_neg q3, if_neg q3, if_neg q2]
            by_cases q4 : 10 ≤ j ∧ j < 210
            · rw [if_pos q4, if_pos q4]
            · rw [if_neg q4, if_neg q4]
              by_cases q5 : 210 ≤ j ∧ j < 410 + x
              · rw [if_pos q5, if_pos (by omega)]
              · rw [if_neg q5, if_neg (by omega)]
      rw [e]
      exact hr.set e2 (by omega)
    | succ d ih =>
      intro x x0 x1 hok I1 hr
      refine st_X10_text_127 hm (fun _ _ _ _ => ⟨fun q => by omega, fun _ => ⟨⟨by omega, by omega⟩, fun M4 e4 => ⟨⟨by omega, by omega⟩, ?_⟩⟩⟩)
      refine ih (x + 1) (by omega) (by omega) hok M4 ?_
      have e : (fun j => if j = 2 then (T.length : Int) else if 10 ≤ j ∧ j < 210 then T.getD (j - 10).toNat 0 else if 210 ≤ j ∧ j < 410 + (x + 1) then 0 else B j) = up (fun j => if j = 2 then T.length else if 10 ≤ j ∧ j < 210 then T.getD (j - 10).toNat 0 else if 210 ≤ j ∧ j < 410 + x then 0 else B j) (410 + x) 0 := by
        funext j
        unfold up
        dsimp only
        by_cases q2 : j = 410 + x
        · rw [if_pos q2, if_neg (by omega), if_neg (by omega), if_pos (by omega)]
        · rw [if_neg q2]
          by_cases q5 : 210 ≤ j ∧ j < 410 + x
          · rw [if_pos q5, if_pos (by omega : 210 ≤ j ∧ j < 410 + (x + 1))]
          · rw [if_neg q5, if_neg (by omega : ¬ (210 ≤ j ∧ j < 410 + (x + 1)))]
      rw [e]
      exact hr.set e4 (by omega)
  have l70 : ∀ (x2 : Int) (d : Nat) (x : Int), 0 ≤ x → x + d = 200 → (T.length ≤ 200 ∧ ∀ b ∈ T, okB b) → ∀ I1 : jM, (∀ i : Nat, i < T.length → I1 (m + 20) i = T.getD i 0) → RR m I1 (fun j => if 10 ≤ j ∧ j < 10 + x then T.getD (j - 10).toNat 0 else if 210 ≤ j ∧ j < 210 + x then 0 else B j) (pushH H B) B' H' [] fk fp → jOI E (jA m) kX10_text 70 [VR m, VI T.length, VI x2, VI x] G I1 (fun x I' => (¬ (T.length ≤ 200 ∧ ∀ b ∈ T, okB b) → x = -1 ∧ RR m I' B H B' H' [] fk fp) ∧ (T.length ≤ 200 ∧ (∀ b ∈ T, okB b) → x = T.length ∧ RR m I' (txB B T) (pushH H B) B' H' [] fk fp)) := by
    intro x2 d
    induction d with
    | zero =>
      intro x x0 x1 hok I1 htp hr
      refine st_X10_text_70 hm (fun _ _ _ _ => ⟨fun _ M2 e2 => l127 x2 16 0 (by omega) (by omega) hok M2 ?_, fun q => by omega⟩)
      have e : (fun j => if j = 2 then (T.length : Int) else if 10 ≤ j ∧ j < 210 then T.getD (j - 10).toNat 0 else if 210 ≤ j ∧ j < 410 + 0 then 0 else B j) = up (fun j => if 10 ≤ j ∧ j < 10 + x then T.getD (j - 10).toNat 0 else if 210 ≤ j ∧ j < 210 + x then 0 else B j) 2 T.length := by
        funext j
        unfold up
        dsimp only
        rw [show 10 + x = 210 by omega, show 210 + x = 410 + 0 by omega]
      rw [e]
      exact hr.set e2 (by omega)
    | succ d ih =>
      intro x x0 x1 hok I1 htp hr
      have next : ∀ (M M' : jM) (v : Int), M = jup I1 (m + 1) (10 + x) v → M' = jup M (m + 1) (210 + x) 0 → v = T.getD x.toNat 0 → jIn (x + 1) ∧ jOI E (jA m) kX10_text 70 [VR m, VI T.length, VI x2, VI (x + 1)] G M' (fun x I' => (¬ (T.length ≤ 200 ∧ ∀ b ∈ T, okB b) → x = -1 ∧ RR m I' B H B' H' [] fk fp) ∧ (T.length ≤ 200 ∧ (∀ b ∈ T, okB b) → x = T.length ∧ RR m I' (txB B T) (pushH H B) B' H' [] fk fp)) := by
        intro M M' v e e' hv
        refine ⟨⟨by omega, by omega⟩, ih (x + 1) (by omega) (by omega) hok M' (fun i hi => by rw [jr_na e' (by omega), jr_na e (by omega)]; exact htp i hi) ?_⟩
        have ee : (fun j => if 10 ≤ j ∧ j < 10 + (x + 1) then T.getD (j - 10).toNat 0 else if 210 ≤ j ∧ j < 210 + (x + 1) then 0 else B j) = up (up (fun j => if 10 ≤ j ∧ j < 10 + x then T.getD (j - 10).toNat 0 else if 210 ≤ j ∧ j < 210 + x then 0 else B j) (10 + x) v) (210 + x) 0 := by
          funext j
          unfold up
          dsimp only
          by_cases q1 : j = 210 + x
          · rw [if_pos q1, if_neg (by omega), if_pos (by omega)]
          · rw [if_neg q1]
            by_cases q2 : j = 10 + x
            · rw [if_pos q2, if_pos (by omega), hv, q2, show (10 + x - 10).toNat = x.toNat by omega]
            · rw [if_neg q2]
              by_cases q3 : 10 ≤ j ∧ j < 10 + x
              · rw [if_pos q3, if_pos (by omega)]
              · rw [if_neg q3, if_neg (by omega)]
                by_cases q4 : 210 ≤ j ∧ j < 210 + x
                · rw [if_pos q4, if_pos (by omega)]
                · rw [if_neg q4, if_neg (by omega)]
        rw [ee]
        exact (hr.set e (by omega)).set e' (by omega)
      refine st_X10_text_70 hm (fun _ _ _ _ => ⟨fun q => by omega, fun _ => ⟨fun q => ⟨⟨by omega, by omega⟩, fun M4 e4 => ⟨⟨by omega, by omega⟩, fun M6 e6 => next M4 M6 _ e4 e6 ?_⟩⟩, fun q => ⟨⟨by omega, by omega⟩, ⟨by omega, by omega⟩, fun M10 e10 => ⟨⟨by omega, by omega⟩, fun M12 e12 => next M10 M12 _ e10 e12 ?_⟩⟩⟩⟩)
      · rw [List.getD_eq_getElem?_getD, List.getElem?_eq_none (by omega)]
        rfl
      · have := htp x.toNat (by omega)
        rw [show ((x.toNat : Nat) : Int) = x by omega] at this
        exact this
  have l25 : ∀ (d : Nat) (x x2 : Int), 0 ≤ x → x + d = T.length → x2 = jI (T.length ≤ 200 ∧ ∀ i : Nat, (i : Int) < x → okB (T.getD i 0)) → ∀ I1 : jM, (∀ i : Nat, i < T.length → I1 (m + 20) i = T.getD i 0) → RR m I1 B H B' H' [] fk fp → jOI E (jA m) kX10_text 25 [VR m, VI T.length, VI x2, VI x] G I1 (fun x I' => (¬ (T.length ≤ 200 ∧ ∀ b ∈ T, okB b) → x = -1 ∧ RR m I' B H B' H' [] fk fp) ∧ (T.length ≤ 200 ∧ (∀ b ∈ T, okB b) → x = T.length ∧ RR m I' (txB B T) (pushH H B) B' H' [] fk fp)) := by
    intro d
    induction d with
    | zero =>
      intro x x2 x0 x1 hx2 I1 htp hr
      have eqv : (T.length ≤ 200 ∧ ∀ i : Nat, (i : Int) < x → okB (T.getD i 0)) ↔ (T.length ≤ 200 ∧ ∀ b ∈ T, okB b) := by
        refine ⟨fun g => ⟨g.1, fun b hb => ?_⟩, fun g => ⟨g.1, fun i hi => g.2 _ (gd_mem (by omega))⟩⟩
        obtain ⟨i, hi, e⟩ := gd_of_mem (d := (0 : Int)) hb
        rw [← e]
        exact g.2 i (by omega)
      rw [jI_congr eqv] at hx2
      refine st_X10_text_25 hm (fun _ _ _ _ => ⟨fun _ => ⟨fun q => (sp_keepR hm hr).mono (fun I2 _ g => ?_), fun q => ?_⟩, fun q => by omega⟩)
      · rw [hx2] at q
        have hok := jI_p q
        have q := l70 x2 200 0 (by omega) (by omega) hok I2 (fun i hi => by rw [g.2 _ _ (by omega)]; exact htp i hi) (by
          have e : (fun j => if 10 ≤ j ∧ j < 10 + 0 then T.getD (j - 10).toNat 0 else if 210 ≤ j ∧ j < 210 + 0 then 0 else B j) = B := by
            funext j
            rw [if_neg (by omega), if_neg (by omega)]
          rw [e]
          exact g.1)
        exact q
      · rw [hx2] at q
        exact ⟨fun _ => ⟨rfl, hr⟩, fun g => absurd g (jI_n q)⟩
    | succ d ih =>
      intro x x2 x0 x1 hx2 I1 htp hr
      have et : I1 (m + 20) x = T.getD x.toNat 0 := by
        have := htp x.toNat (by omega)
        rw [show ((x.toNat : Nat) : Int) = x by omega] at this
        exact this
      have step : ∀ y, (y = jI (T.length ≤ 200 ∧ ∀ i : Nat, (i : Int) < x + 1 → okB (T.getD i 0))) → jIn (x + 1) ∧ jOI E (jA m) kX10_text 25 [VR m, VI T.length, VI y, VI (x + 1)] G I1 (fun x I' => (¬ (T.length ≤ 200 ∧ ∀ b ∈ T, okB b) → x = -1 ∧ RR m I' B H B' H' [] fk fp) ∧ (T.length ≤ 200 ∧ (∀ b ∈ T, okB b) → x = T.length ∧ RR m I' (txB B T) (pushH H B) B' H' [] fk fp)) := fun y hy => ⟨⟨by omega, by omega⟩, ih (x + 1) y (by omega) (by omega) hy I1 htp hr⟩
      refine st_X10_text_25 hm (fun _ _ _ _ => ⟨fun q => by omega, fun _ => ⟨fun q => step 0 ?_, fun q => ⟨⟨by omega, by omega⟩, ?_⟩⟩⟩)
      · rw [hx2] at q
        exact (jI_neg (fun g => jI_n q ⟨g.1, fun i hi => g.2 i (by omega)⟩)).symm
      · rw [hx2] at q
        have hp := jI_p q
        rw [et]
        refine ⟨fun q2 => step 0 (jI_neg (fun g => q2 (g.2 x.toNat (by omega)))).symm, fun q2 => step 1 (jI_pos ⟨hp.1, fun i hi => ?_⟩).symm⟩
        by_cases e : (i : Int) = x
        · rw [show i = x.toNat by omega]
          exact q2
        · exact hp.2 i (by omega)
  refine en_X10_text hm (fun _ M1 e1 => ?_)
  have hr := h.untape e1
  have htp : ∀ i : Nat, i < T.length → M1 (m + 20) i = T.getD i 0 := fun i hi => by rw [jr_na e1 (by omega)]; exact ht i hi
  rw [e26]
  refine ⟨fun q => l25 T.length 0 0 (by omega) (by omega) (jI_neg (fun g => by have := g.1; omega)).symm M1 htp hr, fun q => l25 T.length 0 1 (by omega) (by omega) (jI_pos ⟨by omega, fun i hi => by omega⟩).symm M1 htp hr⟩
/-! undo, image, back, steps, fault -/
theorem ref_undo (hm : WX10 G m) (h : RR m I B H B' H' T fk fp) : jRI E (jA m) kX10_undo [VR m] G I (fun x I' => (H = [] → x = -1 ∧ RR m I' B H B' H' T fk fp) ∧ (H ≠ [] → x = H.length - 1 ∧ RR m I' (H.getD (H.length - 1) B0) H.dropLast B' H' T fk fp)) := by
  refine (sp_X10_undo hm rfl h.1).mono (fun x I' _ _ g => ⟨fun q => ?_, fun q => ?_⟩)
  · obtain ⟨g1, rfl⟩ := g.1 q
    exact ⟨g1, h⟩
  · obtain ⟨g1, S', g2, g3, g4⟩ := g.2 q
    exact ⟨g1, h.wz (w1z g4) (by rw [g2]; exact g3)⟩
theorem AbsR.copy {S S' X : Int → Int} {Y : List (Int → Int)} (h : AbsR S X Y) (e : ∀ j, 0 ≤ j → j < 22094 → S' j = S j) : AbsR S' X Y := by
  obtain ⟨h1, h2, h3, h4, h5⟩ := h
  have e0 := e 0 (by omega) (by omega)
  have e1 := e 1 (by omega) (by omega)
  refine ⟨?_, by omega, by omega, h4, fun i hi => ?_⟩
  · rw [h1]
    exact (nrm_congr (fun j j0 j1 => e j (by omega) (by omega))).symm
  · rw [h5 i hi]
    funext j
    unfold slot
    rw [e1]
    split
    · exact (e _ (by omega) (by omega)).symm
    · rfl
theorem ref_copy (hm : WX10 G m) {a b : Nat} (hab : (a = m + 1 ∧ b = m + 2) ∨ (a = m + 2 ∧ b = m + 1)) : jRV E (jA m) kX10_copy [VR a, VR b] G I (fun I' => (∀ j, 0 ≤ j → j < 22094 → I' b j = I a j) ∧ ∀ x j, x ≠ b → I' x j = I x j) := by
  have la : a < G.2.2 := by rcases hab with h | h <;> rw [h.1] <;> first | exact wX10_l0 hm | exact wX10_l1 hm
  have lb : b < G.2.2 := by rcases hab with h | h <;> rw [h.2] <;> first | exact wX10_l0 hm | exact wX10_l1 hm
  have sa : G.2.1 a = (100, 22094) := by rcases hab with h | h <;> rw [h.1] <;> first | exact wX10_a0 hm | exact wX10_a1 hm
  have sb : G.2.1 b = (100, 22094) := by rcases hab with h | h <;> rw [h.2] <;> first | exact wX10_a0 hm | exact wX10_a1 hm
  have na : ¬ jA m a := by unfold jA; omega
  have nb : ¬ jA m b := by unfold jA; omega
  have hne : a ≠ b := by omega
  have loop : ∀ (d : Nat) (k : Int), 0 ≤ k → k + d = 22094 → ∀ I1 : jM, (∀ j, 0 ≤ j → j < k → I1 b j = I a j) → (∀ x j, x ≠ b → I1 x j = I x j) → jOV E (jA m) kX10_copy 2 [VR a, VR b, VI k] G I1 (fun I' => (∀ j, 0 ≤ j → j < 22094 → I' b j = I a j) ∧ ∀ x j, x ≠ b → I' x j = I x j) := by
    intro d
    induction d with
    | zero =>
      intro k k0 k1 I1 h1 h2
      exact st_X10_copy_2 la sa (by decide) na lb sb (by decide) nb (fun _ _ => ⟨fun _ => ⟨fun j j0 j1 => h1 j j0 (by omega), h2⟩, fun q => by omega⟩)
    | succ d ih =>
      intro k k0 k1 I1 h1 h2
      refine st_X10_copy_2 la sa (by decide) na lb sb (by decide) nb (fun _ _ => ⟨fun q => by omega, fun _ => ⟨⟨by omega, by omega⟩, ⟨by omega, by omega⟩, fun M3 e3 => ⟨⟨by omega, by omega⟩, ?_⟩⟩⟩)
      refine ih (k + 1) (by omega) (by omega) M3 (fun j j0 j1 => ?_) (fun x j hx => by rw [jr_na e3 hx]; exact h2 x j hx)
      by_cases q : j = k
      · rw [q, jr_eq e3, h2 _ _ hne]
      · rw [jr_nj e3 q]
        exact h1 j j0 (by omega)
  exact en_X10_copy la sa (by decide) na lb sb (by decide) nb (fun _ => loop 22094 0 (by omega) (by omega) I (fun j j0 j1 => by omega) (fun _ _ _ => rfl))
theorem ref_image (hm : WX10 G m) (h : RR m I B H B' H' T fk fp) : jRI E (jA m) kX10_image [VR m] G I (fun x I' => x = B 2 ∧ RR m I' B H B H T fk fp) := by
  refine en_X10_image hm (fun _ => (ref_copy hm (Or.inl ⟨rfl, rfl⟩)).mono (fun I1 _ g => ⟨?_, ?_⟩))
  · rw [g.2 _ _ (by omega)]
    exact h.at (by omega)
  · obtain ⟨h1, h2, h3, h4, h5⟩ := h
    have e : I1 (m + 1) = I (m + 1) := by funext j; exact g.2 _ _ (by omega)
    exact ⟨by rw [e]; exact h1, h1.copy g.1, ⟨by rw [g.2 _ _ (by omega)]; exact h3.1, h3.2.1, fun i hi => by rw [g.2 _ _ (by omega)]; exact h3.2.2 i hi⟩, by rw [g.2 _ _ (by omega)]; exact h4, by rw [g.2 _ _ (by omega)]; exact h5⟩
theorem ref_back (hm : WX10 G m) (h : RR m I B H B' H' T fk fp) : jRI E (jA m) kX10_back [VR m] G I (fun x I' => x = B' 2 ∧ RR m I' B' H' B' H' T fk fp) := by
  refine en_X10_back hm (fun _ => (ref_copy hm (Or.inr ⟨rfl, rfl⟩)).mono (fun I1 _ g => ?_))
  obtain ⟨h1, h2, h3, h4, h5⟩ := h
  have e : I1 (m + 2) = I (m + 2) := by funext j; exact g.2 _ _ (by omega)
  have hr : RR m I1 B' H' B' H' T fk fp := ⟨h2.copy g.1, by rw [e]; exact h2, ⟨by rw [g.2 _ _ (by omega)]; exact h3.1, h3.2.1, fun i hi => by rw [g.2 _ _ (by omega)]; exact h3.2.2 i hi⟩, by rw [g.2 _ _ (by omega)]; exact h4, by rw [g.2 _ _ (by omega)]; exact h5⟩
  exact ⟨hr.at (by omega), hr⟩
theorem ref_steps (hm : WX10 G m) (h : RR m I B H B' H' T fk fp) : jRI E (jA m) kX10_steps [VR m] G I (fun x I' => x = H.length ∧ RR m I' B H B' H' T fk fp) := en_X10_steps hm (fun _ => ⟨h.1.2.1, h⟩)
end RU
