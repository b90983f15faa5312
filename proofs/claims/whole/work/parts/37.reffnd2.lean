set_option maxRecDepth 20000 in
theorem st_X10_layFindings_137 {E : jE} {G : jG} {I : jM} {q : jM → Prop} {m : Nat} {x1 : Int} (hm : WX10 G m) (hT : (∀ a j, jRg (G.2.1 a).1 (I a j)) → jIn x1 → (((I m 17) ≤ x1 → jRV E (jA m) kX10_laySet [VR m] G I (fun I1 => q I1)) ∧ (¬ (I m 17) ≤ x1 → jRI E (jA m) kX10_isYielded [VR m, VI x1] G I (fun r3 I2 => ((0 : Int) ≤ x1 ∧ (x1 : Int) < 1200) ∧ (0 ≤ r3 ∧ r3 ≤ 1) ∧ (∀ M7, M7 = jup I2 (m + 14) x1 r3 → jIn (x1 + 1) ∧ jOV E (jA m) kX10_layFindings 137 [VR m, VI (x1 + 1), VN] G M7 q))))) : jOV E (jA m) kX10_layFindings 137 [VR m, VI x1, VN] G I q := by
  intro I0 hF
  refine jOk_mem (fun hI => ?_)
  refine jOk_in (i := 1) rfl (fun hx1 => ?_)
  replace hT := hT hI hx1
  refine r_iload_n dX10_layFindings_137 rfl (i := 1) rfl ?_
  refine r_aload_n dX10_layFindings_138 rfl (i := 0) rfl ?_
  refine rr_getI (v := I m 17) dX10_layFindings_139 fg_X10_175 rfl (wX10_l hm) (wX10_s hm) rfl ?_
  refine r_icmp_ge (tgt := 162) dX10_layFindings_142 rfl hx1 (hI _ _).inR (fun hcc => ?_) (fun hcc => ?_)
  · replace hT := hT.1 hcc
    refine r_aload_n dX10_layFindings_162 rfl (i := 0) rfl ?_
    refine rr_cVV (a := m) (as := []) (st := []) dX10_layFindings_163 mt_X10_laySet ml_X10_199 mi_X10_laySet rm_X10_layFindings_X10_laySet jz_X10_laySet ⟨Nat.zero_le _, Nat.zero_le _⟩ (Nat.le_of_ble_eq_true rfl) (wX10_l hm) (wX10_c hm) jas0 hT (fun I1 hFI1 hT => ?_)
    replace hFI1 := jFr_tr hF hFI1
    refine jOk_mem (fun hI1 => ?_)
    exact r_vret dX10_layFindings_166 rfl ⟨Nat.zero_le _, Nat.zero_le _⟩ ⟨rfl, rfl, hFI1, hT⟩
  · replace hT := hT.2 hcc
    refine r_aload_n dX10_layFindings_145 rfl (i := 0) rfl ?_
    refine rr_getR (b := (m + 14)) dX10_layFindings_146 fg_X10_50 rfl rfl (wX10_l hm) (wX10_s hm) (wX10_r15 hm) ?_
    refine r_iload_n dX10_layFindings_149 rfl (i := 1) rfl ?_
    refine r_aload_n dX10_layFindings_150 rfl (i := 0) rfl ?_
    refine r_iload_n dX10_layFindings_151 rfl (i := 1) rfl ?_
    refine rr_cVI (a := m) (as := [VI x1]) (st := [VI x1, VR (m + 14)]) dX10_layFindings_152 mt_X10_isYielded ml_X10_196 mi_X10_isYielded rm_X10_layFindings_X10_isYielded jz_X10_isYielded ⟨Nat.zero_le _, Nat.zero_le _⟩ (Nat.le_of_ble_eq_true rfl) (wX10_l hm) (wX10_c hm) (jasI hx1 jas0) hT (fun r3 I2 hc4 hFI2 hT => ?_)
    replace hFI2 := jFr_tr hF hFI2
    refine jOk_mem (fun hI2 => ?_)
    obtain ⟨hc5, hT⟩ := hT
    obtain ⟨hc6, hT⟩ := hT
    refine rr_zastore dX10_layFindings_155 (wX10_l15 hm) (wX10_a15 hm) (by decide) hc5 hc6 (fun M7 eM7 => ?_)
    have hFM7 := jFr_up hFI2 eM7 (wX10_f hm 14 (by decide))
    replace hT := hT M7 eM7
    refine jOk_mem (fun hIM7 => ?_)
    obtain ⟨hc8, hT⟩ := hT
    refine rr_iinc (i := 1) (ls' := [VR m, VI (x1 + 1), VN]) dX10_layFindings_156 rfl (Nat.le_of_ble_eq_true rfl) rfl rfl hc8 ?_
    refine r_goto (tgt := 137) dX10_layFindings_159 rfl ?_
    exact hT I0 hFM7
set_option maxRecDepth 20000 in
theorem st_X10_layFindings_70 {E : jE} {G : jG} {I : jM} {q : jM → Prop} {m : Nat} {x1 : Int} (hm : WX10 G m) (hT : (∀ a j, jRg (G.2.1 a).1 (I a j)) → jIn x1 → (((I m 17) ≤ x1 → jOV E (jA m) kX10_layFindings 137 [VR m, VI 0, VN] G I q) ∧ (¬ (I m 17) ≤ x1 → ((0 : Int) ≤ x1 ∧ (x1 : Int) < 1200) ∧ ((0 : Int) ≤ x1 ∧ (x1 : Int) < 1200) ∧ ((0 : Int) ≤ x1 ∧ (x1 : Int) < 1200) ∧ jIn ((I (m + 9) x1) - (I (m + 8) x1)) ∧ jRI E (jA m) kX10_valueOf [VR m, VI (I (m + 7) x1), VI ((I (m + 9) x1) - (I (m + 8) x1))] G I (fun r6 I5 => ((0 : Int) ≤ x1 ∧ (x1 : Int) < 1200) ∧ (∀ M9, M9 = jup I5 (m + 12) x1 r6 → ((0 : Int) ≤ x1 ∧ (x1 : Int) < 1200) ∧ ((0 : Int) ≤ x1 ∧ (x1 : Int) < 1200) ∧ (0 ≤ M9 (m + 1) 3 ∧ M9 (m + 1) 3 ≤ 8) ∧ ((0 : Int) ≤ x1 ∧ (x1 : Int) < 1200) ∧ (0 ≤ (jI (sil (M9 (m + 1)) (I5 (m + 8) x1) (I5 (m + 9) x1))) ∧ (jI (sil (M9 (m + 1)) (I5 (m + 8) x1) (I5 (m + 9) x1))) ≤ 1) ∧ (∀ M16, M16 = jup M9 (m + 13) x1 (jI (sil (M9 (m + 1)) (I5 (m + 8) x1) (I5 (m + 9) x1))) → jIn (x1 + 1) ∧ jOV E (jA m) kX10_layFindings 70 [VR m, VI (x1 + 1), VN] G M16 q)))))) : jOV E (jA m) kX10_layFindings 70 [VR m, VI x1, VN] G I q := by
  intro I0 hF
  refine jOk_mem (fun hI => ?_)
  refine jOk_in (i := 1) rfl (fun hx1 => ?_)
  replace hT := hT hI hx1
  refine r_iload_n dX10_layFindings_70 rfl (i := 1) rfl ?_
  refine r_aload_n dX10_layFindings_71 rfl (i := 0) rfl ?_
  refine rr_getI (v := I m 17) dX10_layFindings_72 fg_X10_175 rfl (wX10_l hm) (wX10_s hm) rfl ?_
  refine r_icmp_ge (tgt := 135) dX10_layFindings_75 rfl hx1 (hI _ _).inR (fun hcc => ?_) (fun hcc => ?_)
  · replace hT := hT.1 hcc
    refine r_iconst (n := 0) dX10_layFindings_135 ?_
    refine rr_istore_n (i := 1) (ls' := [VR m, VI 0, VN]) dX10_layFindings_136 rfl (Nat.le_of_ble_eq_true rfl) rfl rfl ⟨by decide, by decide⟩ ?_
    exact hT I0 hF
  · replace hT := hT.2 hcc
    refine r_aload_n dX10_layFindings_78 rfl (i := 0) rfl ?_
    refine rr_getR (b := (m + 12)) dX10_layFindings_79 fg_X10_43 rfl rfl (wX10_l hm) (wX10_s hm) (wX10_r13 hm) ?_
    refine r_iload_n dX10_layFindings_82 rfl (i := 1) rfl ?_
    refine r_aload_n dX10_layFindings_83 rfl (i := 0) rfl ?_
    refine r_aload_n dX10_layFindings_84 rfl (i := 0) rfl ?_
    refine rr_getR (b := (m + 7)) dX10_layFindings_85 fg_X10_28 rfl rfl (wX10_l hm) (wX10_s hm) (wX10_r8 hm) ?_
    refine r_iload_n dX10_layFindings_88 rfl (i := 1) rfl ?_
    obtain ⟨hc1, hT⟩ := hT
    refine rr_iaload (v := I (m + 7) x1) dX10_layFindings_89 (wX10_l8 hm) (wX10_a8 hm) (by decide) hc1 rfl ?_
    refine r_aload_n dX10_layFindings_90 rfl (i := 0) rfl ?_
    refine rr_getR (b := (m + 9)) dX10_layFindings_91 fg_X10_34 rfl rfl (wX10_l hm) (wX10_s hm) (wX10_r10 hm) ?_
    refine r_iload_n dX10_layFindings_94 rfl (i := 1) rfl ?_
    obtain ⟨hc2, hT⟩ := hT
    refine rr_iaload (v := I (m + 9) x1) dX10_layFindings_95 (wX10_l10 hm) (wX10_a10 hm) (by decide) hc2 rfl ?_
    refine r_aload_n dX10_layFindings_96 rfl (i := 0) rfl ?_
    refine rr_getR (b := (m + 8)) dX10_layFindings_97 fg_X10_31 rfl rfl (wX10_l hm) (wX10_s hm) (wX10_r9 hm) ?_
    refine r_iload_n dX10_layFindings_100 rfl (i := 1) rfl ?_
    obtain ⟨hc3, hT⟩ := hT
    refine rr_iaload (v := I (m + 8) x1) dX10_layFindings_101 (wX10_l9 hm) (wX10_a9 hm) (by decide) hc3 rfl ?_
    refine r_isub dX10_layFindings_102 ?_
    obtain ⟨hc4, hT⟩ := hT
    refine rr_cVI (a := m) (as := [VI (I (m + 7) x1), VI ((I (m + 9) x1) - (I (m + 8) x1))]) (st := [VI x1, VR (m + 12)]) dX10_layFindings_103 mt_X10_valueOf ml_X10_190 mi_X10_valueOf rm_X10_layFindings_X10_valueOf jz_X10_valueOf ⟨Nat.zero_le _, Nat.zero_le _⟩ (Nat.le_of_ble_eq_true rfl) (wX10_l hm) (wX10_c hm) (jasI (hI _ _).inR (jasI hc4 jas0)) hT (fun r6 I5 hc7 hFI5 hT => ?_)
    replace hFI5 := jFr_tr hF hFI5
    refine jOk_mem (fun hI5 => ?_)
    obtain ⟨hc8, hT⟩ := hT
    refine rr_iastore dX10_layFindings_106 (wX10_l13 hm) (wX10_a13 hm) (by decide) hc8 hc7 (fun M9 eM9 => ?_)
    have hFM9 := jFr_up hFI5 eM9 (wX10_f hm 12 (by decide))
    replace hT := hT M9 eM9
    refine jOk_mem (fun hIM9 => ?_)
    refine r_aload_n dX10_layFindings_107 rfl (i := 0) rfl ?_
    refine rr_getR (b := (m + 13)) dX10_layFindings_108 fg_X10_46 rfl rfl (wX10_l hm) (wX10_s hm) (wX10_r14 hm) ?_
    refine r_iload_n dX10_layFindings_111 rfl (i := 1) rfl ?_
    refine r_aload_n dX10_layFindings_112 rfl (i := 0) rfl ?_
    refine r_aload_n dX10_layFindings_113 rfl (i := 0) rfl ?_
    refine rr_getR (b := (m + 8)) dX10_layFindings_114 fg_X10_31 rfl rfl (wX10_l hm) (wX10_s hm) (wX10_r9 hm) ?_
    refine r_iload_n dX10_layFindings_117 rfl (i := 1) rfl ?_
    obtain ⟨hc10, hT⟩ := hT
    refine rr_iaload (v := I5 (m + 8) x1) dX10_layFindings_118 (wX10_l9 hm) (wX10_a9 hm) (by decide) hc10 (jr_na eM9 (by omega)) ?_
    refine r_aload_n dX10_layFindings_119 rfl (i := 0) rfl ?_
    refine rr_getR (b := (m + 9)) dX10_layFindings_120 fg_X10_34 rfl rfl (wX10_l hm) (wX10_s hm) (wX10_r10 hm) ?_
    refine r_iload_n dX10_layFindings_123 rfl (i := 1) rfl ?_
    obtain ⟨hc11, hT⟩ := hT
    refine rr_iaload (v := I5 (m + 9) x1) dX10_layFindings_124 (wX10_l10 hm) (wX10_a10 hm) (by decide) hc11 (jr_na eM9 (by omega)) ?_
    obtain ⟨hc13, hT⟩ := hT
    refine rr_pVI (A := (jA m)) (v := jI (sil (M9 (m + 1)) (I5 (m + 8) x1) (I5 (m + 9) x1))) (a := m) (as := [VI (I5 (m + 8) x1), VI (I5 (m + 9) x1)]) (st := [VI x1, VR (m + 13)]) dX10_layFindings_125 mt_X10_isSilentSpan ml_X10_193 mi_X10_isSilentSpan rm_X10_layFindings_X10_isSilentSpan jz_X10_isSilentSpan ⟨Nat.zero_le _, Nat.zero_le _⟩ (Nat.le_of_ble_eq_true rfl) (wX10_l hm) (wX10_c hm) (jasI (hI5 _ _).inR (jasI (hI5 _ _).inR jas0)) ((sp_X10_isSilentSpan hm) hc13) (fun hc12 => ?_)
    obtain ⟨hc14, hT⟩ := hT
    obtain ⟨hc15, hT⟩ := hT
    refine rr_zastore dX10_layFindings_128 (wX10_l14 hm) (wX10_a14 hm) (by decide) hc14 hc15 (fun M16 eM16 => ?_)
    have hFM16 := jFr_up hFM9 eM16 (wX10_f hm 13 (by decide))
    replace hT := hT M16 eM16
    refine jOk_mem (fun hIM16 => ?_)
    obtain ⟨hc17, hT⟩ := hT
    refine rr_iinc (i := 1) (ls' := [VR m, VI (x1 + 1), VN]) dX10_layFindings_129 rfl (Nat.le_of_ble_eq_true rfl) rfl rfl hc17 ?_
    refine r_goto (tgt := 70) dX10_layFindings_132 rfl ?_
    exact hT I0 hFM16
set_option maxRecDepth 20000 in
theorem st_X10_layFindings_21 {E : jE} {G : jG} {I : jM} {q : jM → Prop} {m : Nat} {x1 : Int} {x2 : Int} (hm : WX10 G m) (hT : (∀ a j, jRg (G.2.1 a).1 (I a j)) → jIn x1 → jIn x2 → (((I (m + 1) 4) ≤ x2 → jIn (x1 + 1) ∧ jOV E (jA m) kX10_layFindings 11 [VR m, VI (x1 + 1), VN] G I q) ∧ (¬ (I (m + 1) 4) ≤ x2 → (0 ≤ 514 + 40 * x2 + 1 ∧ 514 + 40 * x2 + 1 < 22094) ∧ ((¬ (I (m + 1) (514 + 40 * x2 + 1)) = 1 → jIn (x2 + 1) ∧ jOV E (jA m) kX10_layFindings 21 [VR m, VI x1, VI (x2 + 1)] G I q) ∧ ((I (m + 1) (514 + 40 * x2 + 1)) = 1 → jRI E (jA m) kX10_fitsNow [VR m, VI x2, VI x1] G I (fun r7 I6 => ((r7 = 0 → jIn (x2 + 1) ∧ jOV E (jA m) kX10_layFindings 21 [VR m, VI x1, VI (x2 + 1)] G I6 q) ∧ (¬ r7 = 0 → jRV E (jA m) kX10_comeFinding [VR m, VI x2, VI x1] G I6 (fun I10 => jIn (x2 + 1) ∧ jOV E (jA m) kX10_layFindings 21 [VR m, VI x1, VI (x2 + 1)] G I10 q))))))))) : jOV E (jA m) kX10_layFindings 21 [VR m, VI x1, VI x2] G I q := by
  intro I0 hF
  refine jOk_mem (fun hI => ?_)
  refine jOk_in (i := 1) rfl (fun hx1 => ?_)
  refine jOk_in (i := 2) rfl (fun hx2 => ?_)
  replace hT := hT hI hx1 hx2
  refine r_iload_n dX10_layFindings_21 rfl (i := 2) rfl ?_
  refine r_aload_n dX10_layFindings_22 rfl (i := 0) rfl ?_
  refine rr_getR (b := (m + 1)) dX10_layFindings_23 fg_X10_7 rfl rfl (wX10_l hm) (wX10_s hm) (wX10_r0 hm) ?_
  refine r_iconst (n := 4) dX10_layFindings_26 ?_
  refine rr_iaload (v := I (m + 1) 4) dX10_layFindings_27 (wX10_l0 hm) (wX10_a0 hm) (by decide) ⟨by decide, by decide⟩ rfl ?_
  refine r_icmp_ge (tgt := 62) dX10_layFindings_28 rfl hx2 (hI _ _).inR (fun hcc => ?_) (fun hcc => ?_)
  · replace hT := hT.1 hcc
    obtain ⟨hc2, hT⟩ := hT
    refine rr_iinc (i := 1) (ls' := [VR m, VI (x1 + 1), VI x2]) dX10_layFindings_62 rfl (Nat.le_of_ble_eq_true rfl) rfl rfl hc2 ?_
    refine r_goto (tgt := 11) dX10_layFindings_65 rfl ?_
    exact jOk_le (ls' := [VR m, VI (x1 + 1), VN]) ⟨Or.inr rfl, Or.inr rfl, Or.inl rfl, trivial⟩ (hT I0 hF)
  · replace hT := hT.2 hcc
    refine r_aload_n dX10_layFindings_31 rfl (i := 0) rfl ?_
    refine r_iload_n dX10_layFindings_32 rfl (i := 2) rfl ?_
    refine r_iconst (n := 1) dX10_layFindings_33 ?_
    obtain ⟨hc4, hT⟩ := hT
    refine rr_pVI (A := (jA m)) (v := I (m + 1) (514 + 40 * x2 + 1)) (a := m) (as := [VI x2, VI 1]) (st := []) dX10_layFindings_34 mt_X10_get ml_X10_127 mi_X10_get rm_X10_layFindings_X10_get jz_X10_get ⟨Nat.zero_le _, Nat.zero_le _⟩ (Nat.le_of_ble_eq_true rfl) (wX10_l hm) (wX10_c hm) (jasI hx2 (jasI ⟨by decide, by decide⟩ jas0)) ((sp_X10_get hm) hc4) (fun hc3 => ?_)
    refine r_iconst (n := 1) dX10_layFindings_37 ?_
    refine r_icmp_ne (tgt := 56) dX10_layFindings_38 rfl hc3 ⟨by decide, by decide⟩ (fun hcc => ?_) (fun hcc => ?_)
    · replace hT := hT.1 hcc
      obtain ⟨hc5, hT⟩ := hT
      refine rr_iinc (i := 2) (ls' := [VR m, VI x1, VI (x2 + 1)]) dX10_layFindings_56 rfl (Nat.le_of_ble_eq_true rfl) rfl rfl hc5 ?_
      refine r_goto (tgt := 21) dX10_layFindings_59 rfl ?_
      exact hT I0 hF
    · replace hT := hT.2 hcc
      refine r_aload_n dX10_layFindings_41 rfl (i := 0) rfl ?_
      refine r_iload_n dX10_layFindings_42 rfl (i := 2) rfl ?_
      refine r_iload_n dX10_layFindings_43 rfl (i := 1) rfl ?_
      refine rr_cVI (a := m) (as := [VI x2, VI x1]) (st := []) dX10_layFindings_44 mt_X10_fitsNow ml_X10_162 mi_X10_fitsNow rm_X10_layFindings_X10_fitsNow jz_X10_fitsNow ⟨Nat.zero_le _, Nat.zero_le _⟩ (Nat.le_of_ble_eq_true rfl) (wX10_l hm) (wX10_c hm) (jasI hx2 (jasI hx1 jas0)) hT (fun r7 I6 hc8 hFI6 hT => ?_)
      replace hFI6 := jFr_tr hF hFI6
      refine jOk_mem (fun hI6 => ?_)
      refine r_if_eq (tgt := 56) dX10_layFindings_47 rfl hc8 (fun hcc => ?_) (fun hcc => ?_)
      · replace hT := hT.1 hcc
        obtain ⟨hc9, hT⟩ := hT
        refine rr_iinc (i := 2) (ls' := [VR m, VI x1, VI (x2 + 1)]) dX10_layFindings_56 rfl (Nat.le_of_ble_eq_true rfl) rfl rfl hc9 ?_
        refine r_goto (tgt := 21) dX10_layFindings_59 rfl ?_
        exact hT I0 hFI6
      · replace hT := hT.2 hcc
        refine r_aload_n dX10_layFindings_50 rfl (i := 0) rfl ?_
        refine r_iload_n dX10_layFindings_51 rfl (i := 2) rfl ?_
        refine r_iload_n dX10_layFindings_52 rfl (i := 1) rfl ?_
        refine rr_cVV (a := m) (as := [VI x2, VI x1]) (st := []) dX10_layFindings_53 mt_X10_comeFinding ml_X10_187 mi_X10_comeFinding rm_X10_layFindings_X10_comeFinding jz_X10_comeFinding ⟨Nat.zero_le _, Nat.zero_le _⟩ (Nat.le_of_ble_eq_true rfl) (wX10_l hm) (wX10_c hm) (jasI hx2 (jasI hx1 jas0)) hT (fun I10 hFI10 hT => ?_)
        replace hFI10 := jFr_tr hFI6 hFI10
        refine jOk_mem (fun hI10 => ?_)
        obtain ⟨hc11, hT⟩ := hT
        refine rr_iinc (i := 2) (ls' := [VR m, VI x1, VI (x2 + 1)]) dX10_layFindings_56 rfl (Nat.le_of_ble_eq_true rfl) rfl rfl hc11 ?_
        refine r_goto (tgt := 21) dX10_layFindings_59 rfl ?_
        exact hT I0 hFI10
set_option maxRecDepth 20000 in
theorem st_X10_layFindings_11 {E : jE} {G : jG} {I : jM} {q : jM → Prop} {m : Nat} {x1 : Int} (hm : WX10 G m) (hT : (∀ a j, jRg (G.2.1 a).1 (I a j)) → jIn x1 → (((I m 4) ≤ x1 → jOV E (jA m) kX10_layFindings 70 [VR m, VI 0, VN] G I q) ∧ (¬ (I m 4) ≤ x1 → jOV E (jA m) kX10_layFindings 21 [VR m, VI x1, VI 0] G I q))) : jOV E (jA m) kX10_layFindings 11 [VR m, VI x1, VN] G I q := by
  intro I0 hF
  refine jOk_mem (fun hI => ?_)
  refine jOk_in (i := 1) rfl (fun hx1 => ?_)
  replace hT := hT hI hx1
  refine r_iload_n dX10_layFindings_11 rfl (i := 1) rfl ?_
  refine r_aload_n dX10_layFindings_12 rfl (i := 0) rfl ?_
  refine rr_getI (v := I m 4) dX10_layFindings_13 fg_X10_117 rfl (wX10_l hm) (wX10_s hm) rfl ?_
  refine r_icmp_ge (tgt := 68) dX10_layFindings_16 rfl hx1 (hI _ _).inR (fun hcc => ?_) (fun hcc => ?_)
  · replace hT := hT.1 hcc
    refine r_iconst (n := 0) dX10_layFindings_68 ?_
    refine rr_istore_n (i := 1) (ls' := [VR m, VI 0, VN]) dX10_layFindings_69 rfl (Nat.le_of_ble_eq_true rfl) rfl rfl ⟨by decide, by decide⟩ ?_
    exact hT I0 hF
  · replace hT := hT.2 hcc
    refine r_iconst (n := 0) dX10_layFindings_19 ?_
    refine rr_istore_n (i := 2) (ls' := [VR m, VI x1, VI 0]) dX10_layFindings_20 rfl (Nat.le_of_ble_eq_true rfl) rfl rfl ⟨by decide, by decide⟩ ?_
    exact hT I0 hF
set_option maxRecDepth 20000 in
theorem st_X10_layFindings_0 {E : jE} {G : jG} {I : jM} {q : jM → Prop} {m : Nat} (hm : WX10 G m) (hT : (∀ a j, jRg (G.2.1 a).1 (I a j)) → jRV E (jA m) kX10_layTokens [VR m] G I (fun I1 => (∀ M2, M2 = jup I1 m 17 0 → jOV E (jA m) kX10_layFindings 11 [VR m, VI 0, VN] G M2 q))) : jOV E (jA m) kX10_layFindings 0 [VR m, VN, VN] G I q := by
  intro I0 hF
  refine jOk_mem (fun hI => ?_)
  replace hT := hT hI 
  refine r_aload_n dX10_layFindings_0 rfl (i := 0) rfl ?_
  refine rr_cVV (a := m) (as := []) (st := []) dX10_layFindings_1 mt_X10_layTokens ml_X10_184 mi_X10_layTokens rm_X10_layFindings_X10_layTokens jz_X10_layTokens ⟨Nat.zero_le _, Nat.zero_le _⟩ (Nat.le_of_ble_eq_true rfl) (wX10_l hm) (wX10_c hm) jas0 hT (fun I1 hFI1 hT => ?_)
  replace hFI1 := jFr_tr hF hFI1
  refine jOk_mem (fun hI1 => ?_)
  refine r_aload_n dX10_layFindings_4 rfl (i := 0) rfl ?_
  refine r_iconst (n := 0) dX10_layFindings_5 ?_
  refine rr_putI (jj := 17) dX10_layFindings_6 fp_X10_175 rfl rfl (wX10_l hm) (wX10_s hm) ⟨by decide, by decide⟩ (fun M2 eM2 => ?_)
  have hFM2 := jFr_up hFI1 eM2 (wX10_f hm 0 (by decide))
  replace hT := hT M2 eM2
  refine jOk_mem (fun hIM2 => ?_)
  refine r_iconst (n := 0) dX10_layFindings_9 ?_
  refine rr_istore_n (i := 1) (ls' := [VR m, VI 0, VN]) dX10_layFindings_10 rfl (Nat.le_of_ble_eq_true rfl) rfl rfl ⟨by decide, by decide⟩ ?_
  exact hT I0 hFM2
theorem en_X10_layFindings {E : jE} {G : jG} {I : jM} {q : jM → Prop} {m : Nat} (hm : WX10 G m) (hT : (∀ a j, jRg (G.2.1 a).1 (I a j)) → jRV E (jA m) kX10_layTokens [VR m] G I (fun I1 => (∀ M2, M2 = jup I1 m 17 0 → jOV E (jA m) kX10_layFindings 11 [VR m, VI 0, VN] G M2 q))) : jRV E (jA m) kX10_layFindings [VR m] G I q := jRun.of mt_X10_layFindings.2.2.2 2 rfl (fun _ => st_X10_layFindings_0 hm hT I (fun _ _ => rfl))
section RL
variable {E : jE} {G : jG} {m : Nat} {S : Int → Int} {n : Int} {b : Int → Int} {I : jM}
/-- values and silences of the first x findings are laid -/
def VS (m : Nat) (S b : Int → Int) (F : List (Int × Int)) (x : Int) (I : jM) : Prop := ∀ i, 0 ≤ i → i < x → I (m + 12) i = vF S b F i ∧ I (m + 13) i = jI (sF S b F i)
/-- nothing but the rows m+12 .. m+14 is written -/
def WV (m : Nat) (I I' : jM) : Prop := ∀ a j, ¬ (m + 12 ≤ a ∧ a ≤ m + 14) → I' a j = I a j
theorem WV.trans {m : Nat} {I I' I'' : jM} (h : WV m I I') (h' : WV m I' I'') : WV m I I'' := fun a j ha => (h' a j ha).trans (h a j ha)
theorem TO.wv {I I' : jM} (h : TO m S n b I) (hw : WV m I I') : TO m S n b I' := by
  refine ⟨?_, h.2.1, h.2.2.1, ?_, fun u u0 u1 => ?_⟩
  · rw [← h.1]
    funext j
    exact hw _ _ (by omega)
  · rw [hw _ _ (by omega)]
    exact h.2.2.2.1
  · rw [hw _ _ (by omega), hw _ _ (by omega)]
    exact h.2.2.2.2 u u0 u1
theorem FI.wv {I I' : jM} {F : List (Int × Int)} (h : FI m S b I F) (hw : WV m I I') : FI m S b I' F := by
  refine ⟨by rw [hw _ _ (by omega)]; exact h.1, fun i hi => ?_⟩
  have g := h.2 i hi
  unfold Rw at g ⊢
  rw [hw _ _ (by omega), hw _ _ (by omega), hw _ _ (by omega), hw _ _ (by omega), hw _ _ (by omega)]
  exact g
theorem layFindings_third (hm : WX10 G m) (hQ : QW S) {F : List (Int × Int)} (hFn : Fnd S n b F) (hl : F.length ≤ 1200) {I0 : jM} (hTk : Tk (fun i => S (10 + i)) (S 2) n b) : ∀ (d : Nat) (x : Int) (I1 : jM), 0 ≤ x → x + d = F.length → TO m S n b I1 → FI m S b I1 F → VS m S b F F.length I1 → (∀ i, 0 ≤ i → i < x → I1 (m + 14) i = jI (yF S b F i)) → WFd m I0 I1 → jOV E (jA m) kX10_layFindings 137 [VR m, VI x, VN] G I1 (fun I' => WFd m I0 I' ∧ LF m S n b F I') := by
  intro d
  induction d with
  | zero =>
    intro x I1 x0 x1 hT hFI hVS hY hW
    refine st_X10_layFindings_137 hm (fun _ _ => ⟨fun _ => ?_, fun q => by rw [hFI.1] at q; omega⟩)
    have hS := hT.1
    have hSet : SetIn m F.length (vF S b F) (freeF S b F) (nxF S b F) I1 := by
      refine ⟨hFI.1, by omega, by omega, by rw [hS]; exact hQ.2.2.2.1, fun f f0 f1 => ?_⟩
      have bd := fa_bd hTk hQ.2.1 hFn f0 f1
      have v := hVS f f0 f1
      have y := hY f f0 (by omega)
      have h2 := hQ.1
      refine ⟨v.1, valOf_bd bd.2.2.2.1 ⟨by omega, by omega⟩, ?_, ?_⟩
      · rw [v.2, y]
        exact ⟨fun g => ⟨jI_n g.1, jI_n g.2⟩, fun g => ⟨jI_neg g.1, jI_neg g.2⟩⟩
      · obtain ⟨g1, g2, g3, g4⟩ := isNF_ex (S := S) (b := b) (F := F) f0 f1
        have r := Rw.fa hFI f0 f1
        refine ⟨g1, by rw [hFI.1]; exact g2, fun k k0 k1 => ?_, fun q => ?_⟩
        · rw [(Rw.fa hFI (i := k) (by omega) (by omega)).2.1, r.2.2.1]
          exact g3 k k0 k1
        · rw [hFI.1] at q
          rw [(Rw.fa hFI (i := nxF S b F f) (by omega) q).2.1, r.2.2.1]
          exact g4 q
    refine (sp_X10_laySet hm hSet).mono (fun I' _ g => ?_)
    obtain ⟨g1, g2⟩ := g
    have g2' : SetOut m F.length (vF S b F) (freeF S b F) (nxF S b F) (S 6) I' := by rw [hS] at g2; exact g2
    refine ⟨hW.trans (fun a j ha hb => g1 a j (by omega) (by omega)), ⟨?_, hT.2.1, hT.2.2.1, ?_, fun u u0 u1 => ?_⟩, ⟨?_, fun i hi => ?_⟩, hFn, hl, fun i i0 i1 => ?_, g2'⟩
    · rw [← hS]
      funext j
      exact g1 _ _ (by omega) (by omega)
    · rw [g1 _ _ (by omega) (by omega)]
      exact hT.2.2.2.1
    · rw [g1 _ _ (by omega) (by omega), g1 _ _ (by omega) (by omega)]
      exact hT.2.2.2.2 u u0 u1
    · rw [g1 _ _ (by omega) (by omega)]
      exact hFI.1
    · have g := hFI.2 i hi
      unfold Rw at g ⊢
      rw [g1 _ _ (by omega) (by omega), g1 _ _ (by omega) (by omega), g1 _ _ (by omega) (by omega), g1 _ _ (by omega) (by omega), g1 _ _ (by omega) (by omega)]
      exact g
    · rw [g1 _ _ (by omega) (by omega), g1 _ _ (by omega) (by omega), g1 _ _ (by omega) (by omega)]
      exact ⟨(hVS i i0 i1).1, (hVS i i0 i1).2, hY i i0 (by omega)⟩
  | succ d ih =>
    intro x I1 x0 x1 hT hFI hVS hY hW
    have hS := hT.1
    refine st_X10_layFindings_137 hm (fun _ _ => ⟨fun q => by rw [hFI.1] at q; omega, fun _ => ?_⟩)
    refine (sp_X10_isYielded hm ⟨x0, by omega⟩ (by rw [hFI.1]; exact ⟨by omega, by omega⟩) (by rw [hS]; exact hQ.2.2.2.2)).mono (fun y I2 _ _ hy => ?_)
    obtain ⟨rfl, rfl⟩ := hy
    refine ⟨⟨x0, by omega⟩, jI_01, fun M7 e7 => ⟨⟨by omega, by omega⟩, ?_⟩⟩
    have hWV : WV m I2 M7 := fun a j ha => jr_na e7 (by omega)
    have hyx : yldM m I2 x ↔ yF S b F x := by
      unfold yldM yF
      rw [hFI.1, hS]
      have rx := Rw.fa hFI (i := x) x0 (by omega)
      rw [rx.1, rx.2.1, rx.2.2.1]
      constructor
      · rintro ⟨g, g0, g1, g2, g3, g4⟩
        have rg := Rw.fa hFI (i := g) g0 (by omega)
        rw [rg.2.1, rg.2.2.1] at g3
        rw [rg.1] at g4
        rw [(hVS g g0 (by omega)).2] at g2
        exact ⟨g, g0, by omega, jI_n g2, g3, g4⟩
      · rintro ⟨g, g0, g1, g2, g3, g4⟩
        have rg := Rw.fa hFI (i := g) g0 g1
        refine ⟨g, g0, by omega, ?_, ?_, ?_⟩
        · rw [(hVS g g0 g1).2]
          exact jI_neg g2
        · rw [rg.2.1, rg.2.2.1]
          exact g3
        · rw [rg.1]
          exact g4
    refine ih (x + 1) M7 (by omega) (by omega) (hT.wv hWV) (hFI.wv hWV) (fun i i0 i1 => ?_) (fun i i0 i1 => ?_) (hW.trans (fun a j ha hb => hWV a j (by omega)))
    · rw [jr_na e7 (by omega), jr_na e7 (by omega)]
      exact hVS i i0 i1
    · by_cases ei : i = x
      · rw [ei, jr_eq e7]
        exact jI_congr hyx
      · rw [jr_nj e7 ei]
        exact hY i i0 (by omega)
theorem layFindings_second (hm : WX10 G m) (hQ : QW S) {F : List (Int × Int)} (hFn : Fnd S n b F) (hl : F.length ≤ 1200) {I0 : jM} (hTk : Tk (fun i => S (10 + i)) (S 2) n b) : ∀ (d : Nat) (x : Int) (I1 : jM), 0 ≤ x → x + d = F.length → TO m S n b I1 → FI m S b I1 F → VS m S b F x I1 → WFd m I0 I1 → jOV E (jA m) kX10_layFindings 70 [VR m, VI x, VN] G I1 (fun I' => WFd m I0 I' ∧ LF m S n b F I') := by
  intro d
  induction d with
  | zero =>
    intro x I1 x0 x1 hT hFI hVS hW
    have ex : x = F.length := by omega
    subst ex
    refine st_X10_layFindings_70 hm (fun _ _ => ⟨fun _ => ?_, fun q => by rw [hFI.1] at q; omega⟩)
    exact layFindings_third hm hQ hFn hl hTk F.length 0 I1 (by omega) (by omega) hT hFI hVS (fun i i0 i1 => by omega) hW
  | succ d ih =>
    intro x I1 x0 x1 hT hFI hVS hW
    have hS := hT.1
    have bd := fa_bd hTk hQ.2.1 hFn (i := x) x0 (by omega)
    have rx := Rw.fa hFI (i := x) x0 (by omega)
    have h2 := hQ.1
    refine st_X10_layFindings_70 hm (fun _ _ => ⟨fun q => by rw [hFI.1] at q; omega, fun _ => ⟨⟨x0, by omega⟩, ⟨x0, by omega⟩, ⟨x0, by omega⟩, ?_⟩⟩)
    rw [rx.1, rx.2.1, rx.2.2.1]
    refine ⟨⟨by omega, by omega⟩, ?_⟩
    refine (sp_X10_valueOf hm hS bd.2.2.2.2.1 bd.2.2.2.1 ⟨by omega, by omega⟩).mono (fun y I5 _ _ hy => ?_)
    obtain ⟨rfl, rfl⟩ := hy
    refine ⟨⟨x0, by omega⟩, fun M9 e9 => ?_⟩
    have e91 : M9 (m + 1) = S := by
      rw [← hS]
      funext j
      exact jr_na e9 (by omega)
    rw [e91, rx.2.1, rx.2.2.1]
    refine ⟨⟨x0, by omega⟩, ⟨x0, by omega⟩, hQ.2.2.1, ⟨x0, by omega⟩, jI_01, fun M16 e16 => ⟨⟨by omega, by omega⟩, ?_⟩⟩
    have hWV : WV m I5 M16 := fun a j ha => by rw [jr_na e16 (by omega), jr_na e9 (by omega)]
    refine ih (x + 1) M16 (by omega) (by omega) (hT.wv hWV) (hFI.wv hWV) (fun i i0 i1 => ?_) (hW.trans (fun a j ha hb => hWV a j (by omega)))
    by_cases ei : i = x
    · rw [ei]
      refine ⟨?_, ?_⟩
      · rw [jr_na e16 (by omega), jr_eq e9]
        rfl
      · rw [jr_eq e16]
        rfl
    · have := hVS i i0 (by omega)
      refine ⟨?_, ?_⟩
      · rw [jr_na e16 (by omega), jr_nj e9 ei]
        exact this.1
      · rw [jr_nj e16 ei, jr_na e9 (by omega)]
        exact this.2
theorem sp_X10_layFindings (hm : WX10 G m) (hS : I (m + 1) = S) (hQ : QW S) (hTk : Tk (fun i => S (10 + i)) (S 2) n b) : jRV E (jA m) kX10_layFindings [VR m] G I (fun I' => ∃ F, WFd m I I' ∧ LF m S n b F I') := by
  have hn := hTk.n_le
  have h2 := hQ.1
  have hR := hQ.2.1
  have loop : ∀ (dt : Nat) (t : Int), 0 ≤ t → t + dt = n → ∀ (F : List (Int × Int)) (I1 : jM), TO m S n b I1 → FI m S b I1 F → F.Pairwise (flt S) → (∀ y, y ∈ F ↔ isF S n b y.1 y.2 ∧ y.2 < t) → WFd m I I1 → jOV E (jA m) kX10_layFindings 11 [VR m, VI t, VN] G I1 (fun I' => ∃ F, WFd m I I' ∧ LF m S n b F I') := by
    intro dt
    induction dt with
    | zero =>
      intro t t0 t1 F I1 hT hFI hs hmem hW
      have hFn : Fnd S n b F := ⟨hs, fun y => (hmem y).trans ⟨fun g => g.1, fun g => ⟨g, by have := g.2.2.2.1; omega⟩⟩⟩
      have hl : F.length ≤ 1200 := by
        refine sorted_len2 F hs (fun y hy => ?_)
        obtain ⟨r0, r1, t0', t1', -⟩ := (hFn.2 y).mp hy
        have := hR.2.1
        exact ⟨r0, by omega, t0', by omega⟩
      refine st_X10_layFindings_11 hm (fun _ _ => ⟨fun _ => ?_, fun q => by rw [hT.2.2.2.1] at q; omega⟩)
      exact (layFindings_second hm hQ hFn hl hTk F.length 0 I1 (by omega) (by omega) hT hFI (fun i i0 i1 => by omega) hW).mono (fun I' g => ⟨F, g⟩)
    | succ dt iht =>
      intro t t0 t1 F I1 hT hFI hs hmem hW
      have inner : ∀ (dr : Nat) (r : Int), 0 ≤ r → r + dr = S 4 → ∀ (F : List (Int × Int)) (I1 : jM), TO m S n b I1 → FI m S b I1 F → F.Pairwise (flt S) → (∀ y, y ∈ F ↔ isF S n b y.1 y.2 ∧ (y.2 < t ∨ (y.2 = t ∧ y.1 < r))) → WFd m I I1 → jOV E (jA m) kX10_layFindings 21 [VR m, VI t, VI r] G I1 (fun I' => ∃ F, WFd m I I' ∧ LF m S n b F I') := by
        intro dr
        induction dr with
        | zero =>
          intro r r0 r1 F I1 hT hFI hs hmem hW
          refine st_X10_layFindings_21 hm (fun _ _ _ => ⟨fun _ => ⟨⟨by omega, by omega⟩, ?_⟩, fun q => by rw [hT.1] at q; omega⟩)
          refine iht (t + 1) (by omega) (by omega) F I1 hT hFI hs (fun y => (hmem y).trans ⟨fun g => ⟨g.1, by omega⟩, fun g => ⟨g.1, ?_⟩⟩) hW
          have := g.1.2.1
          omega
        | succ dr ihr =>
          intro r r0 r1 F I1 hT hFI hs hmem hW
          have hr6 := hR.2.1
          have hw := hR.2.2 r r0 (by omega)
          have hw2 := hw.2.1
          have e1 : I1 (m + 1) (514 + 40 * r + 1) = S (515 + 40 * r) := by rw [hT.1]; congr 1; omega
          -- a rule that is no finding here
          have skip : ∀ I2, TO m S n b I2 → FI m S b I2 F → WFd m I I2 → ¬ isF S n b r t → jIn (r + 1) ∧ jOV E (jA m) kX10_layFindings 21 [VR m, VI t, VI (r + 1)] G I2 (fun I' => ∃ F, WFd m I I' ∧ LF m S n b F I') := by
            intro I2 hT2 hFI2 hW2 hno
            refine ⟨⟨by omega, by omega⟩, ihr (r + 1) (by omega) (by omega) F I2 hT2 hFI2 hs (fun y => (hmem y).trans ⟨fun g => ⟨g.1, by omega⟩, fun g => ⟨g.1, ?_⟩⟩) hW2⟩
            by_cases e : y.2 = t ∧ y.1 = r
            · exact absurd (by rw [← e.1, ← e.2]; exact g.1) hno
            · omega
          refine st_X10_layFindings_21 hm (fun _ _ _ => ⟨fun q => by rw [hT.1] at q; omega, fun _ => ⟨⟨by omega, by omega⟩, ?_⟩⟩)
          rw [e1]
          refine ⟨fun q => skip I1 hT hFI hW (fun g => q g.2.2.2.2.1), fun qon => ?_⟩
          refine (sp_X10_fitsNow hm hT ⟨r0, by omega⟩ t0 (by omega) hw).mono (fun x I6 _ _ hx => ?_)
          obtain ⟨rfl, hWB, -⟩ := hx
          have hT6 := hT.wb hWB
          have hFI6 := hFI.wl hWB.wl
          have hW6 := hW.trans hWB.wl.wc.wfd
          refine ⟨fun q => skip I6 hT6 hFI6 hW6 (fun g => jI_n q g.2.2.2.2.2.1), fun q => ?_⟩
          have hFit := jI_p q
          have hlen : F.length ≤ (6 * t + r).toNat := by
            refine sorted_len2 F hs (fun y hy => ?_)
            obtain ⟨⟨y0, y1, y2, y3, -⟩, hlt⟩ := (hmem y).mp hy
            exact ⟨y0, by omega, y2, by omega⟩
          refine (sp_X10_comeFinding hm hT6 ⟨r0, by omega⟩ hw t0 (by omega) hFit hFI6 hs (by omega) (fun y hy => ?_)).mono (fun I10 _ g => ?_)
          · obtain ⟨⟨y0, y1, y2, y3, y4, y5, -⟩, hlt⟩ := (hmem y).mp hy
            have := (hR.2.2 y.1 y0 y1).2.2.1
            exact ⟨hlt, y2, by omega, y5.1⟩
          · obtain ⟨hWC, F', hFI', hs', hmem'⟩ := g
            refine ⟨⟨by omega, by omega⟩, ihr (r + 1) (by omega) (by omega) F' I10 (hT6.wc hWC) hFI' hs' (fun y => ?_) (hW6.trans hWC.wfd)⟩
            rw [hmem' y, hmem y]
            constructor
            · rintro (g | ⟨rfl, g⟩)
              · exact ⟨g.1, by omega⟩
              · exact ⟨⟨r0, by omega, t0, by omega, qon, hFit, g⟩, Or.inr ⟨rfl, by show r < r + 1; omega⟩⟩
            · rintro ⟨g1, g2⟩
              by_cases e : y.2 = t ∧ y.1 = r
              · refine Or.inr ⟨Prod.ext e.2 e.1, ?_⟩
                have := g1.2.2.2.2.2.2
                rw [e.1, e.2] at this
                exact this
              · exact Or.inl ⟨g1, by omega⟩
      refine st_X10_layFindings_11 hm (fun _ _ => ⟨fun q => by rw [hT.2.2.2.1] at q; omega, fun _ => ?_⟩)
      exact inner (S 4).toNat 0 (by omega) (by have := hR.1; omega) F I1 hT hFI hs (fun y => (hmem y).trans ⟨fun g => ⟨g.1, Or.inl g.2⟩, fun g => ⟨g.1, by have := g.1.1; omega⟩⟩) hW
  refine en_X10_layFindings hm (fun _ => ?_)
  refine (sp_X10_layTokens hm hTk h2.2 (by rw [hS]) (fun i i0 i1 => by rw [hS])).mono (fun I1 _ g M2 e2 => ?_)
  obtain ⟨g1, g2, g3⟩ := g
  have hkeep : ∀ a j, a ≠ m + 3 → a ≠ m + 4 → (a ≠ m ∨ (j ≠ 4 ∧ j ≠ 17)) → M2 a j = I a j := by
    intro a j ha hb hc
    have e : M2 a j = I1 a j := by
      rcases hc with hc | hc
      · exact jr_na e2 hc
      · exact jr_nj e2 hc.2
    rw [e]
    exact g3 a j ha hb (by omega)
  refine loop n.toNat 0 (by omega) (by have := hTk.1; omega) [] M2 ⟨?_, h2.2, hTk, ?_, fun u u0 u1 => ?_⟩ ⟨jr_eq e2, fun i hi => absurd hi (Nat.not_lt_zero i)⟩ List.Pairwise.nil (fun y => ⟨fun g => absurd g List.not_mem_nil, fun g => by have := g.1.2.2.1; omega⟩) (fun a j ha hb => hkeep a j (by omega) (by omega) (by omega))
  · rw [← hS]
    funext j
    exact hkeep _ _ (by omega) (by omega) (by omega)
  · rw [jr_nj e2 (by decide)]
    exact g1
  · rw [jr_na e2 (by omega), jr_na e2 (by omega)]
    exact g2 u u0 u1
end RL
