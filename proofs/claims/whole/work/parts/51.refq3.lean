set_option maxRecDepth 20000 in
theorem st_X10_is_0 {E : jE} {G : jG} {I : jM} {q : Int → jM → Prop} {m : Nat} {x1 : Int} (hm : WX10 G m) (hT : (∀ a j, jRg (G.2.1 a).1 (I a j)) → jIn x1 → jRV E (jA m) kX10_layFindings [VR m] G I (fun I1 => (((x1 < 0 ∨ 15 < x1) → q (-1) I1) ∧ (x1 = 0 → q (I1 (m + 1) 2) I1) ∧ (x1 = 1 → q (I1 m 4) I1) ∧ (x1 = 2 → q (I1 (m + 1) 4) I1) ∧ (x1 = 3 → jRI E (jA m) kX10_onBits [VR m] G I1 (fun r5 I4 => q r5 I4)) ∧ (x1 = 4 → q (I1 m 17) I1) ∧ (x1 = 5 → jRI E (jA m) kX10_countOf [VR m, VI 1] G I1 (fun r8 I7 => q r8 I7)) ∧ (x1 = 6 → q (I1 (m + 1) 3) I1) ∧ (x1 = 7 → q (I1 (m + 1) 5) I1) ∧ (x1 = 8 → q (I1 (m + 1) 6) I1) ∧ (x1 = 9 → q (I1 (m + 1) 8) I1) ∧ (x1 = 10 → q (I1 m 26) I1) ∧ (x1 = 11 → jRI E (jA m) kX10_countOf [VR m, VI 0] G I1 (fun r15 I14 => q r15 I14)) ∧ (x1 = 12 → q (I1 (m + 1) 7) I1) ∧ (x1 = 13 → jRI E (jA m) kX10_unpaired [VR m] G I1 (fun r19 I18 => q r19 I18)) ∧ (x1 = 14 → jRI E (jA m) kX10_lineOf [VR m, VI (I1 (m + 1) 2)] G I1 (fun r23 I22 => jIn (r23 + 1) ∧ q (r23 + 1) I22)) ∧ (x1 = 15 → jRI E (jA m) kX10_longestLine [VR m] G I1 (fun r27 I26 => q r27 I26))))) : jOI E (jA m) kX10_is 0 [VR m, VI x1] G I q := by
  intro I0 hF
  refine jOk_mem (fun hI => ?_)
  refine jOk_in (i := 1) rfl (fun hx1 => ?_)
  replace hT := hT hI hx1
  refine r_aload_n dX10_is_0 rfl (i := 0) rfl ?_
  refine rr_cVV (a := m) (as := []) (st := []) dX10_is_1 mt_X10_layFindings ml_X10_229 mi_X10_layFindings rm_X10_is_X10_layFindings jz_X10_layFindings ⟨Nat.zero_le _, Nat.zero_le _⟩ (Nat.le_of_ble_eq_true rfl) (wX10_l hm) (wX10_c hm) jas0 hT (fun I1 hFI1 hT => ?_)
  replace hFI1 := jFr_tr hF hFI1
  refine jOk_mem (fun hI1 => ?_)
  refine r_iload_n dX10_is_4 rfl (i := 1) rfl ?_
  by_cases hcc : x1 < 0 ∨ 15 < x1
  · replace hT := hT.1 hcc
    refine r_tswOut (tgt := 191) dX10_is_5 hx1 hcc rfl ?_
    refine r_iconst (n := (-1)) dX10_is_191 ?_
    exact r_iret dX10_is_192 rfl ⟨by decide, by decide⟩ ⟨Nat.zero_le _, Nat.zero_le _⟩ ⟨_, rfl, rfl, hFI1, hT⟩
  · replace hT := hT.2
    have hc2 : x1 = 0 ∨ x1 = 1 ∨ x1 = 2 ∨ x1 = 3 ∨ x1 = 4 ∨ x1 = 5 ∨ x1 = 6 ∨ x1 = 7 ∨ x1 = 8 ∨ x1 = 9 ∨ x1 = 10 ∨ x1 = 11 ∨ x1 = 12 ∨ x1 = 13 ∨ x1 = 14 ∨ x1 = 15 := by omega
    rcases hc2 with hc2 | hc2 | hc2 | hc2 | hc2 | hc2 | hc2 | hc2 | hc2 | hc2 | hc2 | hc2 | hc2 | hc2 | hc2 | hc2
    · replace hT := hT.1 hc2
      refine r_tswIn (tgt := 84) (off := 79) dX10_is_5 hx1 (by omega) (by omega) (by rw [hc2]; rfl) rfl ?_
      refine r_aload_n dX10_is_84 rfl (i := 0) rfl ?_
      refine rr_getR (b := (m + 1)) dX10_is_85 fg_X10_7 rfl rfl (wX10_l hm) (wX10_s hm) (wX10_r0 hm) ?_
      refine r_iconst (n := 2) dX10_is_88 ?_
      refine rr_iaload (v := I1 (m + 1) 2) dX10_is_89 (wX10_l0 hm) (wX10_a0 hm) (by decide) ⟨by decide, by decide⟩ rfl ?_
      exact r_iret dX10_is_90 rfl (hI1 _ _).inR ⟨Nat.zero_le _, Nat.zero_le _⟩ ⟨_, rfl, rfl, hFI1, hT⟩
    · replace hT := hT.2.1 hc2
      refine r_tswIn (tgt := 91) (off := 86) dX10_is_5 hx1 (by omega) (by omega) (by rw [hc2]; rfl) rfl ?_
      refine r_aload_n dX10_is_91 rfl (i := 0) rfl ?_
      refine rr_getI (v := I1 m 4) dX10_is_92 fg_X10_117 rfl (wX10_l hm) (wX10_s hm) rfl ?_
      exact r_iret dX10_is_95 rfl (hI1 _ _).inR ⟨Nat.zero_le _, Nat.zero_le _⟩ ⟨_, rfl, rfl, hFI1, hT⟩
    · replace hT := hT.2.2.1 hc2
      refine r_tswIn (tgt := 96) (off := 91) dX10_is_5 hx1 (by omega) (by omega) (by rw [hc2]; rfl) rfl ?_
      refine r_aload_n dX10_is_96 rfl (i := 0) rfl ?_
      refine rr_getR (b := (m + 1)) dX10_is_97 fg_X10_7 rfl rfl (wX10_l hm) (wX10_s hm) (wX10_r0 hm) ?_
      refine r_iconst (n := 4) dX10_is_100 ?_
      refine rr_iaload (v := I1 (m + 1) 4) dX10_is_101 (wX10_l0 hm) (wX10_a0 hm) (by decide) ⟨by decide, by decide⟩ rfl ?_
      exact r_iret dX10_is_102 rfl (hI1 _ _).inR ⟨Nat.zero_le _, Nat.zero_le _⟩ ⟨_, rfl, rfl, hFI1, hT⟩
    · replace hT := hT.2.2.2.1 hc2
      refine r_tswIn (tgt := 103) (off := 98) dX10_is_5 hx1 (by omega) (by omega) (by rw [hc2]; rfl) rfl ?_
      refine r_aload_n dX10_is_103 rfl (i := 0) rfl ?_
      refine rr_cVI (a := m) (as := []) (st := []) dX10_is_104 mt_X10_onBits ml_X10_335 mi_X10_onBits rm_X10_is_X10_onBits jz_X10_onBits ⟨Nat.zero_le _, Nat.zero_le _⟩ (Nat.le_of_ble_eq_true rfl) (wX10_l hm) (wX10_c hm) jas0 hT (fun r5 I4 hc6 hFI4 hT => ?_)
      replace hFI4 := jFr_tr hFI1 hFI4
      refine jOk_mem (fun hI4 => ?_)
      exact r_iret dX10_is_107 rfl hc6 ⟨Nat.zero_le _, Nat.zero_le _⟩ ⟨_, rfl, rfl, hFI4, hT⟩
    · replace hT := hT.2.2.2.2.1 hc2
      refine r_tswIn (tgt := 108) (off := 103) dX10_is_5 hx1 (by omega) (by omega) (by rw [hc2]; rfl) rfl ?_
      refine r_aload_n dX10_is_108 rfl (i := 0) rfl ?_
      refine rr_getI (v := I1 m 17) dX10_is_109 fg_X10_175 rfl (wX10_l hm) (wX10_s hm) rfl ?_
      exact r_iret dX10_is_112 rfl (hI1 _ _).inR ⟨Nat.zero_le _, Nat.zero_le _⟩ ⟨_, rfl, rfl, hFI1, hT⟩
    · replace hT := hT.2.2.2.2.2.1 hc2
      refine r_tswIn (tgt := 113) (off := 108) dX10_is_5 hx1 (by omega) (by omega) (by rw [hc2]; rfl) rfl ?_
      refine r_aload_n dX10_is_113 rfl (i := 0) rfl ?_
      refine r_iconst (n := 1) dX10_is_114 ?_
      refine rr_cVI (a := m) (as := [VI 1]) (st := []) dX10_is_115 mt_X10_countOf ml_X10_338 mi_X10_countOf rm_X10_is_X10_countOf jz_X10_countOf ⟨Nat.zero_le _, Nat.zero_le _⟩ (Nat.le_of_ble_eq_true rfl) (wX10_l hm) (wX10_c hm) (jasI ⟨by decide, by decide⟩ jas0) hT (fun r8 I7 hc9 hFI7 hT => ?_)
      replace hFI7 := jFr_tr hFI1 hFI7
      refine jOk_mem (fun hI7 => ?_)
      exact r_iret dX10_is_118 rfl hc9 ⟨Nat.zero_le _, Nat.zero_le _⟩ ⟨_, rfl, rfl, hFI7, hT⟩
    · replace hT := hT.2.2.2.2.2.2.1 hc2
      refine r_tswIn (tgt := 119) (off := 114) dX10_is_5 hx1 (by omega) (by omega) (by rw [hc2]; rfl) rfl ?_
      refine r_aload_n dX10_is_119 rfl (i := 0) rfl ?_
      refine rr_getR (b := (m + 1)) dX10_is_120 fg_X10_7 rfl rfl (wX10_l hm) (wX10_s hm) (wX10_r0 hm) ?_
      refine r_iconst (n := 3) dX10_is_123 ?_
      refine rr_iaload (v := I1 (m + 1) 3) dX10_is_124 (wX10_l0 hm) (wX10_a0 hm) (by decide) ⟨by decide, by decide⟩ rfl ?_
      exact r_iret dX10_is_125 rfl (hI1 _ _).inR ⟨Nat.zero_le _, Nat.zero_le _⟩ ⟨_, rfl, rfl, hFI1, hT⟩
    · replace hT := hT.2.2.2.2.2.2.2.1 hc2
      refine r_tswIn (tgt := 126) (off := 121) dX10_is_5 hx1 (by omega) (by omega) (by rw [hc2]; rfl) rfl ?_
      refine r_aload_n dX10_is_126 rfl (i := 0) rfl ?_
      refine rr_getR (b := (m + 1)) dX10_is_127 fg_X10_7 rfl rfl (wX10_l hm) (wX10_s hm) (wX10_r0 hm) ?_
      refine r_iconst (n := 5) dX10_is_130 ?_
      refine rr_iaload (v := I1 (m + 1) 5) dX10_is_131 (wX10_l0 hm) (wX10_a0 hm) (by decide) ⟨by decide, by decide⟩ rfl ?_
      exact r_iret dX10_is_132 rfl (hI1 _ _).inR ⟨Nat.zero_le _, Nat.zero_le _⟩ ⟨_, rfl, rfl, hFI1, hT⟩
    · replace hT := hT.2.2.2.2.2.2.2.2.1 hc2
      refine r_tswIn (tgt := 133) (off := 128) dX10_is_5 hx1 (by omega) (by omega) (by rw [hc2]; rfl) rfl ?_
      refine r_aload_n dX10_is_133 rfl (i := 0) rfl ?_
      refine rr_getR (b := (m + 1)) dX10_is_134 fg_X10_7 rfl rfl (wX10_l hm) (wX10_s hm) (wX10_r0 hm) ?_
      refine r_bipush (n := 6) dX10_is_137 (by decide +kernel) ?_
      refine rr_iaload (v := I1 (m + 1) 6) dX10_is_139 (wX10_l0 hm) (wX10_a0 hm) (by decide) ⟨by decide, by decide⟩ rfl ?_
      exact r_iret dX10_is_140 rfl (hI1 _ _).inR ⟨Nat.zero_le _, Nat.zero_le _⟩ ⟨_, rfl, rfl, hFI1, hT⟩
    · replace hT := hT.2.2.2.2.2.2.2.2.2.1 hc2
      refine r_tswIn (tgt := 141) (off := 136) dX10_is_5 hx1 (by omega) (by omega) (by rw [hc2]; rfl) rfl ?_
      refine r_aload_n dX10_is_141 rfl (i := 0) rfl ?_
      refine rr_getR (b := (m + 1)) dX10_is_142 fg_X10_7 rfl rfl (wX10_l hm) (wX10_s hm) (wX10_r0 hm) ?_
      refine r_bipush (n := 8) dX10_is_145 (by decide +kernel) ?_
      refine rr_iaload (v := I1 (m + 1) 8) dX10_is_147 (wX10_l0 hm) (wX10_a0 hm) (by decide) ⟨by decide, by decide⟩ rfl ?_
      exact r_iret dX10_is_148 rfl (hI1 _ _).inR ⟨Nat.zero_le _, Nat.zero_le _⟩ ⟨_, rfl, rfl, hFI1, hT⟩
    · replace hT := hT.2.2.2.2.2.2.2.2.2.2.1 hc2
      refine r_tswIn (tgt := 149) (off := 144) dX10_is_5 hx1 (by omega) (by omega) (by rw [hc2]; rfl) rfl ?_
      refine r_aload_n dX10_is_149 rfl (i := 0) rfl ?_
      refine rr_getI (v := I1 m 26) dX10_is_150 fg_X10_241 rfl (wX10_l hm) (wX10_s hm) rfl ?_
      exact r_iret dX10_is_153 rfl (hI1 _ _).inR ⟨Nat.zero_le _, Nat.zero_le _⟩ ⟨_, rfl, rfl, hFI1, hT⟩
    · replace hT := hT.2.2.2.2.2.2.2.2.2.2.2.1 hc2
      refine r_tswIn (tgt := 154) (off := 149) dX10_is_5 hx1 (by omega) (by omega) (by rw [hc2]; rfl) rfl ?_
      refine r_aload_n dX10_is_154 rfl (i := 0) rfl ?_
      refine r_iconst (n := 0) dX10_is_155 ?_
      refine rr_cVI (a := m) (as := [VI 0]) (st := []) dX10_is_156 mt_X10_countOf ml_X10_338 mi_X10_countOf rm_X10_is_X10_countOf jz_X10_countOf ⟨Nat.zero_le _, Nat.zero_le _⟩ (Nat.le_of_ble_eq_true rfl) (wX10_l hm) (wX10_c hm) (jasI ⟨by decide, by decide⟩ jas0) hT (fun r15 I14 hc16 hFI14 hT => ?_)
      replace hFI14 := jFr_tr hFI1 hFI14
      refine jOk_mem (fun hI14 => ?_)
      exact r_iret dX10_is_159 rfl hc16 ⟨Nat.zero_le _, Nat.zero_le _⟩ ⟨_, rfl, rfl, hFI14, hT⟩
    · replace hT := hT.2.2.2.2.2.2.2.2.2.2.2.2.1 hc2
      refine r_tswIn (tgt := 160) (off := 155) dX10_is_5 hx1 (by omega) (by omega) (by rw [hc2]; rfl) rfl ?_
      refine r_aload_n dX10_is_160 rfl (i := 0) rfl ?_
      refine rr_getR (b := (m + 1)) dX10_is_161 fg_X10_7 rfl rfl (wX10_l hm) (wX10_s hm) (wX10_r0 hm) ?_
      refine r_bipush (n := 7) dX10_is_164 (by decide +kernel) ?_
      refine rr_iaload (v := I1 (m + 1) 7) dX10_is_166 (wX10_l0 hm) (wX10_a0 hm) (by decide) ⟨by decide, by decide⟩ rfl ?_
      exact r_iret dX10_is_167 rfl (hI1 _ _).inR ⟨Nat.zero_le _, Nat.zero_le _⟩ ⟨_, rfl, rfl, hFI1, hT⟩
    · replace hT := hT.2.2.2.2.2.2.2.2.2.2.2.2.2.1 hc2
      refine r_tswIn (tgt := 168) (off := 163) dX10_is_5 hx1 (by omega) (by omega) (by rw [hc2]; rfl) rfl ?_
      refine r_aload_n dX10_is_168 rfl (i := 0) rfl ?_
      refine rr_cVI (a := m) (as := []) (st := []) dX10_is_169 mt_X10_unpaired ml_X10_342 mi_X10_unpaired rm_X10_is_X10_unpaired jz_X10_unpaired ⟨Nat.zero_le _, Nat.zero_le _⟩ (Nat.le_of_ble_eq_true rfl) (wX10_l hm) (wX10_c hm) jas0 hT (fun r19 I18 hc20 hFI18 hT => ?_)
      replace hFI18 := jFr_tr hFI1 hFI18
      refine jOk_mem (fun hI18 => ?_)
      exact r_iret dX10_is_172 rfl hc20 ⟨Nat.zero_le _, Nat.zero_le _⟩ ⟨_, rfl, rfl, hFI18, hT⟩
    · replace hT := hT.2.2.2.2.2.2.2.2.2.2.2.2.2.2.1 hc2
      refine r_tswIn (tgt := 173) (off := 168) dX10_is_5 hx1 (by omega) (by omega) (by rw [hc2]; rfl) rfl ?_
      refine r_aload_n dX10_is_173 rfl (i := 0) rfl ?_
      refine r_aload_n dX10_is_174 rfl (i := 0) rfl ?_
      refine rr_getR (b := (m + 1)) dX10_is_175 fg_X10_7 rfl rfl (wX10_l hm) (wX10_s hm) (wX10_r0 hm) ?_
      refine r_iconst (n := 2) dX10_is_178 ?_
      refine rr_iaload (v := I1 (m + 1) 2) dX10_is_179 (wX10_l0 hm) (wX10_a0 hm) (by decide) ⟨by decide, by decide⟩ rfl ?_
      refine rr_cVI (a := m) (as := [VI (I1 (m + 1) 2)]) (st := []) dX10_is_180 mt_X10_lineOf ml_X10_345 mi_X10_lineOf rm_X10_is_X10_lineOf jz_X10_lineOf ⟨Nat.zero_le _, Nat.zero_le _⟩ (Nat.le_of_ble_eq_true rfl) (wX10_l hm) (wX10_c hm) (jasI (hI1 _ _).inR jas0) hT (fun r23 I22 hc24 hFI22 hT => ?_)
      replace hFI22 := jFr_tr hFI1 hFI22
      refine jOk_mem (fun hI22 => ?_)
      refine r_iconst (n := 1) dX10_is_183 ?_
      refine r_iadd dX10_is_184 ?_
      obtain ⟨hc25, hT⟩ := hT
      exact r_iret dX10_is_185 rfl hc25 ⟨Nat.zero_le _, Nat.zero_le _⟩ ⟨_, rfl, rfl, hFI22, hT⟩
    · replace hT := hT.2.2.2.2.2.2.2.2.2.2.2.2.2.2.2 hc2
      refine r_tswIn (tgt := 186) (off := 181) dX10_is_5 hx1 (by omega) (by omega) (by rw [hc2]; rfl) rfl ?_
      refine r_aload_n dX10_is_186 rfl (i := 0) rfl ?_
      refine rr_cVI (a := m) (as := []) (st := []) dX10_is_187 mt_X10_longestLine ml_X10_348 mi_X10_longestLine rm_X10_is_X10_longestLine jz_X10_longestLine ⟨Nat.zero_le _, Nat.zero_le _⟩ (Nat.le_of_ble_eq_true rfl) (wX10_l hm) (wX10_c hm) jas0 hT (fun r27 I26 hc28 hFI26 hT => ?_)
      replace hFI26 := jFr_tr hFI1 hFI26
      refine jOk_mem (fun hI26 => ?_)
      exact r_iret dX10_is_190 rfl hc28 ⟨Nat.zero_le _, Nat.zero_le _⟩ ⟨_, rfl, rfl, hFI26, hT⟩
theorem en_X10_is {E : jE} {G : jG} {I : jM} {q : Int → jM → Prop} {m : Nat} {x1 : Int} (hm : WX10 G m) (hT : (∀ a j, jRg (G.2.1 a).1 (I a j)) → jIn x1 → jRV E (jA m) kX10_layFindings [VR m] G I (fun I1 => (((x1 < 0 ∨ 15 < x1) → q (-1) I1) ∧ (x1 = 0 → q (I1 (m + 1) 2) I1) ∧ (x1 = 1 → q (I1 m 4) I1) ∧ (x1 = 2 → q (I1 (m + 1) 4) I1) ∧ (x1 = 3 → jRI E (jA m) kX10_onBits [VR m] G I1 (fun r5 I4 => q r5 I4)) ∧ (x1 = 4 → q (I1 m 17) I1) ∧ (x1 = 5 → jRI E (jA m) kX10_countOf [VR m, VI 1] G I1 (fun r8 I7 => q r8 I7)) ∧ (x1 = 6 → q (I1 (m + 1) 3) I1) ∧ (x1 = 7 → q (I1 (m + 1) 5) I1) ∧ (x1 = 8 → q (I1 (m + 1) 6) I1) ∧ (x1 = 9 → q (I1 (m + 1) 8) I1) ∧ (x1 = 10 → q (I1 m 26) I1) ∧ (x1 = 11 → jRI E (jA m) kX10_countOf [VR m, VI 0] G I1 (fun r15 I14 => q r15 I14)) ∧ (x1 = 12 → q (I1 (m + 1) 7) I1) ∧ (x1 = 13 → jRI E (jA m) kX10_unpaired [VR m] G I1 (fun r19 I18 => q r19 I18)) ∧ (x1 = 14 → jRI E (jA m) kX10_lineOf [VR m, VI (I1 (m + 1) 2)] G I1 (fun r23 I22 => jIn (r23 + 1) ∧ q (r23 + 1) I22)) ∧ (x1 = 15 → jRI E (jA m) kX10_longestLine [VR m] G I1 (fun r27 I26 => q r27 I26))))) : jRI E (jA m) kX10_is [VR m, VI x1] G I q := jRun.of mt_X10_is.2.2.2 0 rfl (fun _ => st_X10_is_0 hm hT I (fun _ _ => rfl))
set_option maxRecDepth 20000 in
theorem st_X10_findingsOf_8 {E : jE} {G : jG} {I : jM} {q : Int → jM → Prop} {m : Nat} {x1 : Int} {x2 : Int} {x3 : Int} (hm : WX10 G m) (hT : (∀ a j, jRg (G.2.1 a).1 (I a j)) → jIn x1 → jIn x2 → jIn x3 → (((I m 17) ≤ x3 → q x2 I) ∧ (¬ (I m 17) ≤ x3 → ((0 : Int) ≤ x3 ∧ (x3 : Int) < 1200) ∧ ((¬ (I (m + 7) x3) = x1 → jIn (x2 + 0) ∧ jIn (x3 + 1) ∧ jOI E (jA m) kX10_findingsOf 8 [VR m, VI x1, VI (x2 + 0), VI (x3 + 1)] G I q) ∧ ((I (m + 7) x3) = x1 → jIn (x2 + 1) ∧ jIn (x3 + 1) ∧ jOI E (jA m) kX10_findingsOf 8 [VR m, VI x1, VI (x2 + 1), VI (x3 + 1)] G I q))))) : jOI E (jA m) kX10_findingsOf 8 [VR m, VI x1, VI x2, VI x3] G I q := by
  intro I0 hF
  refine jOk_mem (fun hI => ?_)
  refine jOk_in (i := 1) rfl (fun hx1 => ?_)
  refine jOk_in (i := 2) rfl (fun hx2 => ?_)
  refine jOk_in (i := 3) rfl (fun hx3 => ?_)
  replace hT := hT hI hx1 hx2 hx3
  refine r_iload_n dX10_findingsOf_8 rfl (i := 3) rfl ?_
  refine r_aload_n dX10_findingsOf_9 rfl (i := 0) rfl ?_
  refine rr_getI (v := I m 17) dX10_findingsOf_10 fg_X10_175 rfl (wX10_l hm) (wX10_s hm) rfl ?_
  refine r_icmp_ge (tgt := 40) dX10_findingsOf_13 rfl hx3 (hI _ _).inR (fun hcc => ?_) (fun hcc => ?_)
  · replace hT := hT.1 hcc
    refine r_iload_n dX10_findingsOf_40 rfl (i := 2) rfl ?_
    exact r_iret dX10_findingsOf_41 rfl hx2 ⟨Nat.zero_le _, Nat.zero_le _⟩ ⟨_, rfl, rfl, hF, hT⟩
  · replace hT := hT.2 hcc
    refine r_iload_n dX10_findingsOf_16 rfl (i := 2) rfl ?_
    refine r_aload_n dX10_findingsOf_17 rfl (i := 0) rfl ?_
    refine rr_getR (b := (m + 7)) dX10_findingsOf_18 fg_X10_28 rfl rfl (wX10_l hm) (wX10_s hm) (wX10_r8 hm) ?_
    refine r_iload_n dX10_findingsOf_21 rfl (i := 3) rfl ?_
    obtain ⟨hc1, hT⟩ := hT
    refine rr_iaload (v := I (m + 7) x3) dX10_findingsOf_22 (wX10_l8 hm) (wX10_a8 hm) (by decide) hc1 rfl ?_
    refine r_iload_n dX10_findingsOf_23 rfl (i := 1) rfl ?_
    refine r_icmp_ne (tgt := 31) dX10_findingsOf_24 rfl (hI _ _).inR hx1 (fun hcc => ?_) (fun hcc => ?_)
    · replace hT := hT.1 hcc
      refine r_iconst (n := 0) dX10_findingsOf_31 ?_
      refine r_iadd dX10_findingsOf_32 ?_
      obtain ⟨hc2, hT⟩ := hT
      refine rr_istore_n (i := 2) (ls' := [VR m, VI x1, VI (x2 + 0), VI x3]) dX10_findingsOf_33 rfl (Nat.le_of_ble_eq_true rfl) rfl rfl hc2 ?_
      obtain ⟨hc3, hT⟩ := hT
      refine rr_iinc (i := 3) (ls' := [VR m, VI x1, VI (x2 + 0), VI (x3 + 1)]) dX10_findingsOf_34 rfl (Nat.le_of_ble_eq_true rfl) rfl rfl hc3 ?_
      refine r_goto (tgt := 8) dX10_findingsOf_37 rfl ?_
      exact hT I0 hF
    · replace hT := hT.2 hcc
      refine r_iconst (n := 1) dX10_findingsOf_27 ?_
      refine r_goto (tgt := 32) dX10_findingsOf_28 rfl ?_
      refine r_iadd dX10_findingsOf_32 ?_
      obtain ⟨hc4, hT⟩ := hT
      refine rr_istore_n (i := 2) (ls' := [VR m, VI x1, VI (x2 + 1), VI x3]) dX10_findingsOf_33 rfl (Nat.le_of_ble_eq_true rfl) rfl rfl hc4 ?_
      obtain ⟨hc5, hT⟩ := hT
      refine rr_iinc (i := 3) (ls' := [VR m, VI x1, VI (x2 + 1), VI (x3 + 1)]) dX10_findingsOf_34 rfl (Nat.le_of_ble_eq_true rfl) rfl rfl hc5 ?_
      refine r_goto (tgt := 8) dX10_findingsOf_37 rfl ?_
      exact hT I0 hF
set_option maxRecDepth 20000 in
theorem st_X10_findingsOf_0 {E : jE} {G : jG} {I : jM} {q : Int → jM → Prop} {m : Nat} {x1 : Int} (hm : WX10 G m) (hT : (∀ a j, jRg (G.2.1 a).1 (I a j)) → jIn x1 → jRV E (jA m) kX10_layFindings [VR m] G I (fun I1 => jOI E (jA m) kX10_findingsOf 8 [VR m, VI x1, VI 0, VI 0] G I1 q)) : jOI E (jA m) kX10_findingsOf 0 [VR m, VI x1, VN, VN] G I q := by
  intro I0 hF
  refine jOk_mem (fun hI => ?_)
  refine jOk_in (i := 1) rfl (fun hx1 => ?_)
  replace hT := hT hI hx1
  refine r_aload_n dX10_findingsOf_0 rfl (i := 0) rfl ?_
  refine rr_cVV (a := m) (as := []) (st := []) dX10_findingsOf_1 mt_X10_layFindings ml_X10_229 mi_X10_layFindings rm_X10_findingsOf_X10_layFindings jz_X10_layFindings ⟨Nat.zero_le _, Nat.zero_le _⟩ (Nat.le_of_ble_eq_true rfl) (wX10_l hm) (wX10_c hm) jas0 hT (fun I1 hFI1 hT => ?_)
  replace hFI1 := jFr_tr hF hFI1
  refine jOk_mem (fun hI1 => ?_)
  refine r_iconst (n := 0) dX10_findingsOf_4 ?_
  refine rr_istore_n (i := 2) (ls' := [VR m, VI x1, VI 0, VN]) dX10_findingsOf_5 rfl (Nat.le_of_ble_eq_true rfl) rfl rfl ⟨by decide, by decide⟩ ?_
  refine r_iconst (n := 0) dX10_findingsOf_6 ?_
  refine rr_istore_n (i := 3) (ls' := [VR m, VI x1, VI 0, VI 0]) dX10_findingsOf_7 rfl (Nat.le_of_ble_eq_true rfl) rfl rfl ⟨by decide, by decide⟩ ?_
  exact hT I0 hFI1
theorem en_X10_findingsOf {E : jE} {G : jG} {I : jM} {q : Int → jM → Prop} {m : Nat} {x1 : Int} (hm : WX10 G m) (hT : (∀ a j, jRg (G.2.1 a).1 (I a j)) → jIn x1 → jRV E (jA m) kX10_layFindings [VR m] G I (fun I1 => jOI E (jA m) kX10_findingsOf 8 [VR m, VI x1, VI 0, VI 0] G I1 q)) : jRI E (jA m) kX10_findingsOf [VR m, VI x1] G I q := jRun.of mt_X10_findingsOf.2.2.2 2 rfl (fun _ => st_X10_findingsOf_0 hm hT I (fun _ _ => rfl))
set_option maxRecDepth 20000 in
theorem st_X10_rule_0 {E : jE} {G : jG} {I : jM} {q : Int → jM → Prop} {m : Nat} {x1 : Int} {x2 : Int} (hm : WX10 G m) (hT : (∀ a j, jRg (G.2.1 a).1 (I a j)) → jIn x1 → jIn x2 → (0 ≤ I (m + 1) 4 ∧ I (m + 1) 4 ≤ 6) ∧ (((0 ≤ x1 ∧ x1 < I (m + 1) 4) → (((x2 < 0 ∨ 4 < x2) → q (-1) I) ∧ (x2 = 0 → (0 ≤ 514 + 40 * x1 + 0 ∧ 514 + 40 * x1 + 0 < 22094) ∧ q (I (m + 1) (514 + 40 * x1 + 0)) I) ∧ (x2 = 1 → (0 ≤ 514 + 40 * x1 + 2 ∧ 514 + 40 * x1 + 2 < 22094) ∧ q (I (m + 1) (514 + 40 * x1 + 2)) I) ∧ (x2 = 2 → (0 ≤ 514 + 40 * x1 + 3 ∧ 514 + 40 * x1 + 3 < 22094) ∧ q (I (m + 1) (514 + 40 * x1 + 3)) I) ∧ (x2 = 3 → (0 ≤ 514 + 40 * x1 + 1 ∧ 514 + 40 * x1 + 1 < 22094) ∧ q (I (m + 1) (514 + 40 * x1 + 1)) I) ∧ (x2 = 4 → jRI E (jA m) kX10_findingsOf [VR m, VI x1] G I (fun r12 I11 => q r12 I11)))) ∧ (¬ (0 ≤ x1 ∧ x1 < I (m + 1) 4) → q (-1) I))) : jOI E (jA m) kX10_rule 0 [VR m, VI x1, VI x2] G I q := by
  intro I0 hF
  refine jOk_mem (fun hI => ?_)
  refine jOk_in (i := 1) rfl (fun hx1 => ?_)
  refine jOk_in (i := 2) rfl (fun hx2 => ?_)
  replace hT := hT hI hx1 hx2
  refine r_aload_n dX10_rule_0 rfl (i := 0) rfl ?_
  refine r_iload_n dX10_rule_1 rfl (i := 1) rfl ?_
  obtain ⟨hc2, hT⟩ := hT
  refine rr_pVI (A := (jA m)) (v := jI (0 ≤ x1 ∧ x1 < I (m + 1) 4)) (a := m) (as := [VI x1]) (st := []) dX10_rule_2 mt_X10_isRule ml_X10_317 mi_X10_isRule rm_X10_rule_X10_isRule jz_X10_isRule ⟨Nat.zero_le _, Nat.zero_le _⟩ (Nat.le_of_ble_eq_true rfl) (wX10_l hm) (wX10_c hm) (jasI hx1 jas0) ((sp_X10_isRule hm) hc2) (fun hc1 => ?_)
  refine r_if_ne (tgt := 10) dX10_rule_5 rfl hc1 (fun hcc => ?_) (fun hcc => ?_)
  · replace hT := hT.1 (jI_p hcc)
    refine r_iload_n dX10_rule_10 rfl (i := 2) rfl ?_
    by_cases hcc : x2 < 0 ∨ 4 < x2
    · replace hT := hT.1 hcc
      refine r_tswOut (tgt := 78) dX10_rule_11 hx2 hcc rfl ?_
      refine r_iconst (n := (-1)) dX10_rule_78 ?_
      exact r_iret dX10_rule_79 rfl ⟨by decide, by decide⟩ ⟨Nat.zero_le _, Nat.zero_le _⟩ ⟨_, rfl, rfl, hF, hT⟩
    · replace hT := hT.2
      have hc2 : x2 = 0 ∨ x2 = 1 ∨ x2 = 2 ∨ x2 = 3 ∨ x2 = 4 := by omega
      rcases hc2 with hc2 | hc2 | hc2 | hc2 | hc2
      · replace hT := hT.1 hc2
        refine r_tswIn (tgt := 44) (off := 33) dX10_rule_11 hx2 (by omega) (by omega) (by rw [hc2]; rfl) rfl ?_
        refine r_aload_n dX10_rule_44 rfl (i := 0) rfl ?_
        refine r_iload_n dX10_rule_45 rfl (i := 1) rfl ?_
        refine r_iconst (n := 0) dX10_rule_46 ?_
        obtain ⟨hc4, hT⟩ := hT
        refine rr_pVI (A := (jA m)) (v := I (m + 1) (514 + 40 * x1 + 0)) (a := m) (as := [VI x1, VI 0]) (st := []) dX10_rule_47 mt_X10_get ml_X10_127 mi_X10_get rm_X10_rule_X10_get jz_X10_get ⟨Nat.zero_le _, Nat.zero_le _⟩ (Nat.le_of_ble_eq_true rfl) (wX10_l hm) (wX10_c hm) (jasI hx1 (jasI ⟨by decide, by decide⟩ jas0)) ((sp_X10_get hm) hc4) (fun hc3 => ?_)
        exact r_iret dX10_rule_50 rfl hc3 ⟨Nat.zero_le _, Nat.zero_le _⟩ ⟨_, rfl, rfl, hF, hT⟩
      · replace hT := hT.2.1 hc2
        refine r_tswIn (tgt := 51) (off := 40) dX10_rule_11 hx2 (by omega) (by omega) (by rw [hc2]; rfl) rfl ?_
        refine r_aload_n dX10_rule_51 rfl (i := 0) rfl ?_
        refine r_iload_n dX10_rule_52 rfl (i := 1) rfl ?_
        refine r_iconst (n := 2) dX10_rule_53 ?_
        obtain ⟨hc6, hT⟩ := hT
        refine rr_pVI (A := (jA m)) (v := I (m + 1) (514 + 40 * x1 + 2)) (a := m) (as := [VI x1, VI 2]) (st := []) dX10_rule_54 mt_X10_get ml_X10_127 mi_X10_get rm_X10_rule_X10_get jz_X10_get ⟨Nat.zero_le _, Nat.zero_le _⟩ (Nat.le_of_ble_eq_true rfl) (wX10_l hm) (wX10_c hm) (jasI hx1 (jasI ⟨by decide, by decide⟩ jas0)) ((sp_X10_get hm) hc6) (fun hc5 => ?_)
        exact r_iret dX10_rule_57 rfl hc5 ⟨Nat.zero_le _, Nat.zero_le _⟩ ⟨_, rfl, rfl, hF, hT⟩
      · replace hT := hT.2.2.1 hc2
        refine r_tswIn (tgt := 58) (off := 47) dX10_rule_11 hx2 (by omega) (by omega) (by rw [hc2]; rfl) rfl ?_
        refine r_aload_n dX10_rule_58 rfl (i := 0) rfl ?_
        refine r_iload_n dX10_rule_59 rfl (i := 1) rfl ?_
        refine r_iconst (n := 3) dX10_rule_60 ?_
        obtain ⟨hc8, hT⟩ := hT
        refine rr_pVI (A := (jA m)) (v := I (m + 1) (514 + 40 * x1 + 3)) (a := m) (as := [VI x1, VI 3]) (st := []) dX10_rule_61 mt_X10_get ml_X10_127 mi_X10_get rm_X10_rule_X10_get jz_X10_get ⟨Nat.zero_le _, Nat.zero_le _⟩ (Nat.le_of_ble_eq_true rfl) (wX10_l hm) (wX10_c hm) (jasI hx1 (jasI ⟨by decide, by decide⟩ jas0)) ((sp_X10_get hm) hc8) (fun hc7 => ?_)
        exact r_iret dX10_rule_64 rfl hc7 ⟨Nat.zero_le _, Nat.zero_le _⟩ ⟨_, rfl, rfl, hF, hT⟩
      · replace hT := hT.2.2.2.1 hc2
        refine r_tswIn (tgt := 65) (off := 54) dX10_rule_11 hx2 (by omega) (by omega) (by rw [hc2]; rfl) rfl ?_
        refine r_aload_n dX10_rule_65 rfl (i := 0) rfl ?_
        refine r_iload_n dX10_rule_66 rfl (i := 1) rfl ?_
        refine r_iconst (n := 1) dX10_rule_67 ?_
        obtain ⟨hc10, hT⟩ := hT
        refine rr_pVI (A := (jA m)) (v := I (m + 1) (514 + 40 * x1 + 1)) (a := m) (as := [VI x1, VI 1]) (st := []) dX10_rule_68 mt_X10_get ml_X10_127 mi_X10_get rm_X10_rule_X10_get jz_X10_get ⟨Nat.zero_le _, Nat.zero_le _⟩ (Nat.le_of_ble_eq_true rfl) (wX10_l hm) (wX10_c hm) (jasI hx1 (jasI ⟨by decide, by decide⟩ jas0)) ((sp_X10_get hm) hc10) (fun hc9 => ?_)
        exact r_iret dX10_rule_71 rfl hc9 ⟨Nat.zero_le _, Nat.zero_le _⟩ ⟨_, rfl, rfl, hF, hT⟩
      · replace hT := hT.2.2.2.2 hc2
        refine r_tswIn (tgt := 72) (off := 61) dX10_rule_11 hx2 (by omega) (by omega) (by rw [hc2]; rfl) rfl ?_
        refine r_aload_n dX10_rule_72 rfl (i := 0) rfl ?_
        refine r_iload_n dX10_rule_73 rfl (i := 1) rfl ?_
        refine rr_cVI (a := m) (as := [VI x1]) (st := []) dX10_rule_74 mt_X10_findingsOf ml_X10_354 mi_X10_findingsOf rm_X10_rule_X10_findingsOf jz_X10_findingsOf ⟨Nat.zero_le _, Nat.zero_le _⟩ (Nat.le_of_ble_eq_true rfl) (wX10_l hm) (wX10_c hm) (jasI hx1 jas0) hT (fun r12 I11 hc13 hFI11 hT => ?_)
        replace hFI11 := jFr_tr hF hFI11
        refine jOk_mem (fun hI11 => ?_)
        exact r_iret dX10_rule_77 rfl hc13 ⟨Nat.zero_le _, Nat.zero_le _⟩ ⟨_, rfl, rfl, hFI11, hT⟩
  · replace hT := hT.2 (jI_n hcc)
    refine r_iconst (n := (-1)) dX10_rule_8 ?_
    exact r_iret dX10_rule_9 rfl ⟨by decide, by decide⟩ ⟨Nat.zero_le _, Nat.zero_le _⟩ ⟨_, rfl, rfl, hF, hT⟩
theorem en_X10_rule {E : jE} {G : jG} {I : jM} {q : Int → jM → Prop} {m : Nat} {x1 : Int} {x2 : Int} (hm : WX10 G m) (hT : (∀ a j, jRg (G.2.1 a).1 (I a j)) → jIn x1 → jIn x2 → (0 ≤ I (m + 1) 4 ∧ I (m + 1) 4 ≤ 6) ∧ (((0 ≤ x1 ∧ x1 < I (m + 1) 4) → (((x2 < 0 ∨ 4 < x2) → q (-1) I) ∧ (x2 = 0 → (0 ≤ 514 + 40 * x1 + 0 ∧ 514 + 40 * x1 + 0 < 22094) ∧ q (I (m + 1) (514 + 40 * x1 + 0)) I) ∧ (x2 = 1 → (0 ≤ 514 + 40 * x1 + 2 ∧ 514 + 40 * x1 + 2 < 22094) ∧ q (I (m + 1) (514 + 40 * x1 + 2)) I) ∧ (x2 = 2 → (0 ≤ 514 + 40 * x1 + 3 ∧ 514 + 40 * x1 + 3 < 22094) ∧ q (I (m + 1) (514 + 40 * x1 + 3)) I) ∧ (x2 = 3 → (0 ≤ 514 + 40 * x1 + 1 ∧ 514 + 40 * x1 + 1 < 22094) ∧ q (I (m + 1) (514 + 40 * x1 + 1)) I) ∧ (x2 = 4 → jRI E (jA m) kX10_findingsOf [VR m, VI x1] G I (fun r12 I11 => q r12 I11)))) ∧ (¬ (0 ≤ x1 ∧ x1 < I (m + 1) 4) → q (-1) I))) : jRI E (jA m) kX10_rule [VR m, VI x1, VI x2] G I q := jRun.of mt_X10_rule.2.2.2 0 rfl (fun _ => st_X10_rule_0 hm hT I (fun _ _ => rfl))
set_option maxRecDepth 20000 in
theorem st_X10_fits_0 {E : jE} {G : jG} {I : jM} {q : Int → jM → Prop} {m : Nat} {x1 : Int} {x2 : Int} (hm : WX10 G m) (hT : (∀ a j, jRg (G.2.1 a).1 (I a j)) → jIn x1 → jIn x2 → jRV E (jA m) kX10_layTokens [VR m] G I (fun I1 => (0 ≤ I1 (m + 1) 4 ∧ I1 (m + 1) 4 ≤ 6) ∧ ((¬ (0 ≤ x1 ∧ x1 < I1 (m + 1) 4) → q 0 I1) ∧ ((0 ≤ x1 ∧ x1 < I1 (m + 1) 4) → jIn ((I1 m 4) - 1) ∧ ((¬ (0 ≤ x2 ∧ x2 ≤ ((I1 m 4) - 1)) → q 0 I1) ∧ ((0 ≤ x2 ∧ x2 ≤ ((I1 m 4) - 1)) → jRI E (jA m) kX10_fitsNow [VR m, VI x1, VI x2] G I1 (fun r7 I6 => ((r7 = 0 → q 0 I6) ∧ (¬ r7 = 0 → q 1 I6))))))))) : jOI E (jA m) kX10_fits 0 [VR m, VI x1, VI x2] G I q := by
  intro I0 hF
  refine jOk_mem (fun hI => ?_)
  refine jOk_in (i := 1) rfl (fun hx1 => ?_)
  refine jOk_in (i := 2) rfl (fun hx2 => ?_)
  replace hT := hT hI hx1 hx2
  refine r_aload_n dX10_fits_0 rfl (i := 0) rfl ?_
  refine rr_cVV (a := m) (as := []) (st := []) dX10_fits_1 mt_X10_layTokens ml_X10_184 mi_X10_layTokens rm_X10_fits_X10_layTokens jz_X10_layTokens ⟨Nat.zero_le _, Nat.zero_le _⟩ (Nat.le_of_ble_eq_true rfl) (wX10_l hm) (wX10_c hm) jas0 hT (fun I1 hFI1 hT => ?_)
  replace hFI1 := jFr_tr hF hFI1
  refine jOk_mem (fun hI1 => ?_)
  refine r_aload_n dX10_fits_4 rfl (i := 0) rfl ?_
  refine r_iload_n dX10_fits_5 rfl (i := 1) rfl ?_
  obtain ⟨hc3, hT⟩ := hT
  refine rr_pVI (A := (jA m)) (v := jI (0 ≤ x1 ∧ x1 < I1 (m + 1) 4)) (a := m) (as := [VI x1]) (st := []) dX10_fits_6 mt_X10_isRule ml_X10_317 mi_X10_isRule rm_X10_fits_X10_isRule jz_X10_isRule ⟨Nat.zero_le _, Nat.zero_le _⟩ (Nat.le_of_ble_eq_true rfl) (wX10_l hm) (wX10_c hm) (jasI hx1 jas0) ((sp_X10_isRule hm) hc3) (fun hc2 => ?_)
  refine r_if_eq (tgt := 39) dX10_fits_9 rfl hc2 (fun hcc => ?_) (fun hcc => ?_)
  · replace hT := hT.1 (jI_n hcc)
    refine r_iconst (n := 0) dX10_fits_39 ?_
    exact r_zret dX10_fits_40 rfl ⟨by decide, by decide⟩ ⟨Nat.zero_le _, Nat.zero_le _⟩ ⟨_, rfl, rfl, hFI1, hT⟩
  · replace hT := hT.2 (jI_p hcc)
    refine r_iload_n dX10_fits_12 rfl (i := 2) rfl ?_
    refine r_iconst (n := 0) dX10_fits_13 ?_
    refine r_aload_n dX10_fits_14 rfl (i := 0) rfl ?_
    refine rr_getI (v := I1 m 4) dX10_fits_15 fg_X10_117 rfl (wX10_l hm) (wX10_s hm) rfl ?_
    refine r_iconst (n := 1) dX10_fits_18 ?_
    refine r_isub dX10_fits_19 ?_
    obtain ⟨hc4, hT⟩ := hT
    refine rr_pSI (A := (jA m)) (v := jI (0 ≤ x2 ∧ x2 ≤ ((I1 m 4) - 1))) (as := [VI x2, VI 0, VI ((I1 m 4) - 1)]) (st := []) dX10_fits_20 mt_X10_isIn ml_X10_103 ms_X10_isIn rm_X10_fits_X10_isIn jz_X10_isIn ⟨Nat.zero_le _, Nat.zero_le _⟩ (Nat.le_of_ble_eq_true rfl) (jasI hx2 (jasI ⟨by decide, by decide⟩ (jasI hc4 jas0))) sp_X10_isIn (fun hc5 => ?_)
    refine r_if_eq (tgt := 39) dX10_fits_23 rfl hc5 (fun hcc => ?_) (fun hcc => ?_)
    · replace hT := hT.1 (jI_n hcc)
      refine r_iconst (n := 0) dX10_fits_39 ?_
      exact r_zret dX10_fits_40 rfl ⟨by decide, by decide⟩ ⟨Nat.zero_le _, Nat.zero_le _⟩ ⟨_, rfl, rfl, hFI1, hT⟩
    · replace hT := hT.2 (jI_p hcc)
      refine r_aload_n dX10_fits_26 rfl (i := 0) rfl ?_
      refine r_iload_n dX10_fits_27 rfl (i := 1) rfl ?_
      refine r_iload_n dX10_fits_28 rfl (i := 2) rfl ?_
      refine rr_cVI (a := m) (as := [VI x1, VI x2]) (st := []) dX10_fits_29 mt_X10_fitsNow ml_X10_162 mi_X10_fitsNow rm_X10_fits_X10_fitsNow jz_X10_fitsNow ⟨Nat.zero_le _, Nat.zero_le _⟩ (Nat.le_of_ble_eq_true rfl) (wX10_l hm) (wX10_c hm) (jasI hx1 (jasI hx2 jas0)) hT (fun r7 I6 hc8 hFI6 hT => ?_)
      replace hFI6 := jFr_tr hFI1 hFI6
      refine jOk_mem (fun hI6 => ?_)
      refine r_if_eq (tgt := 39) dX10_fits_32 rfl hc8 (fun hcc => ?_) (fun hcc => ?_)
      · replace hT := hT.1 hcc
        refine r_iconst (n := 0) dX10_fits_39 ?_
        exact r_zret dX10_fits_40 rfl ⟨by decide, by decide⟩ ⟨Nat.zero_le _, Nat.zero_le _⟩ ⟨_, rfl, rfl, hFI6, hT⟩
      · replace hT := hT.2 hcc
        refine r_iconst (n := 1) dX10_fits_35 ?_
        refine r_goto (tgt := 40) dX10_fits_36 rfl ?_
        exact r_zret dX10_fits_40 rfl ⟨by decide, by decide⟩ ⟨Nat.zero_le _, Nat.zero_le _⟩ ⟨_, rfl, rfl, hFI6, hT⟩
theorem en_X10_fits {E : jE} {G : jG} {I : jM} {q : Int → jM → Prop} {m : Nat} {x1 : Int} {x2 : Int} (hm : WX10 G m) (hT : (∀ a j, jRg (G.2.1 a).1 (I a j)) → jIn x1 → jIn x2 → jRV E (jA m) kX10_layTokens [VR m] G I (fun I1 => (0 ≤ I1 (m + 1) 4 ∧ I1 (m + 1) 4 ≤ 6) ∧ ((¬ (0 ≤ x1 ∧ x1 < I1 (m + 1) 4) → q 0 I1) ∧ ((0 ≤ x1 ∧ x1 < I1 (m + 1) 4) → jIn ((I1 m 4) - 1) ∧ ((¬ (0 ≤ x2 ∧ x2 ≤ ((I1 m 4) - 1)) → q 0 I1) ∧ ((0 ≤ x2 ∧ x2 ≤ ((I1 m 4) - 1)) → jRI E (jA m) kX10_fitsNow [VR m, VI x1, VI x2] G I1 (fun r7 I6 => ((r7 = 0 → q 0 I6) ∧ (¬ r7 = 0 → q 1 I6))))))))) : jRI E (jA m) kX10_fits [VR m, VI x1, VI x2] G I q := jRun.of mt_X10_fits.2.2.2 0 rfl (fun _ => st_X10_fits_0 hm hT I (fun _ _ => rfl))
set_option maxRecDepth 20000 in
theorem st_X10_span_0 {E : jE} {G : jG} {I : jM} {q : Int → jM → Prop} {m : Nat} {x1 : Int} {x2 : Int} (hm : WX10 G m) (hT : (∀ a j, jRg (G.2.1 a).1 (I a j)) → jIn x1 → jIn x2 → jRI E (jA m) kX10_fits [VR m, VI x1, VI x2] G I (fun r2 I1 => ((¬ r2 = 0 → (0 ≤ 514 + 40 * x1 + 2 ∧ 514 + 40 * x1 + 2 < 22094) ∧ jIn ((x2 + (I1 (m + 1) (514 + 40 * x1 + 2))) - 1) ∧ ((0 : Int) ≤ ((x2 + (I1 (m + 1) (514 + 40 * x1 + 2))) - 1) ∧ (((x2 + (I1 (m + 1) (514 + 40 * x1 + 2))) - 1) : Int) < 200) ∧ ((0 : Int) ≤ ((x2 + (I1 (m + 1) (514 + 40 * x1 + 2))) - 1) ∧ (((x2 + (I1 (m + 1) (514 + 40 * x1 + 2))) - 1) : Int) < 200) ∧ ((0 : Int) ≤ x2 ∧ (x2 : Int) < 200) ∧ jIn (((I1 (m + 3) ((x2 + (I1 (m + 1) (514 + 40 * x1 + 2))) - 1)) + (I1 (m + 4) ((x2 + (I1 (m + 1) (514 + 40 * x1 + 2))) - 1))) - (I1 (m + 3) x2)) ∧ q (((I1 (m + 3) ((x2 + (I1 (m + 1) (514 + 40 * x1 + 2))) - 1)) + (I1 (m + 4) ((x2 + (I1 (m + 1) (514 + 40 * x1 + 2))) - 1))) - (I1 (m + 3) x2)) I1) ∧ (r2 = 0 → q (-1) I1)))) : jOI E (jA m) kX10_span 0 [VR m, VI x1, VI x2, VN] G I q := by
  intro I0 hF
  refine jOk_mem (fun hI => ?_)
  refine jOk_in (i := 1) rfl (fun hx1 => ?_)
  refine jOk_in (i := 2) rfl (fun hx2 => ?_)
  replace hT := hT hI hx1 hx2
  refine r_aload_n dX10_span_0 rfl (i := 0) rfl ?_
  refine r_iload_n dX10_span_1 rfl (i := 1) rfl ?_
  refine r_iload_n dX10_span_2 rfl (i := 2) rfl ?_
  refine rr_cVI (a := m) (as := [VI x1, VI x2]) (st := []) dX10_span_3 mt_X10_fits ml_X10_357 mi_X10_fits rm_X10_span_X10_fits jz_X10_fits ⟨Nat.zero_le _, Nat.zero_le _⟩ (Nat.le_of_ble_eq_true rfl) (wX10_l hm) (wX10_c hm) (jasI hx1 (jasI hx2 jas0)) hT (fun r2 I1 hc3 hFI1 hT => ?_)
  replace hFI1 := jFr_tr hF hFI1
  refine jOk_mem (fun hI1 => ?_)
  refine r_if_ne (tgt := 11) dX10_span_6 rfl hc3 (fun hcc => ?_) (fun hcc => ?_)
  · replace hT := hT.1 hcc
    refine r_iload_n dX10_span_11 rfl (i := 2) rfl ?_
    refine r_aload_n dX10_span_12 rfl (i := 0) rfl ?_
    refine r_iload_n dX10_span_13 rfl (i := 1) rfl ?_
    refine r_iconst (n := 2) dX10_span_14 ?_
    obtain ⟨hc5, hT⟩ := hT
    refine rr_pVI (A := (jA m)) (v := I1 (m + 1) (514 + 40 * x1 + 2)) (a := m) (as := [VI x1, VI 2]) (st := [VI x2]) dX10_span_15 mt_X10_get ml_X10_127 mi_X10_get rm_X10_span_X10_get jz_X10_get ⟨Nat.zero_le _, Nat.zero_le _⟩ (Nat.le_of_ble_eq_true rfl) (wX10_l hm) (wX10_c hm) (jasI hx1 (jasI ⟨by decide, by decide⟩ jas0)) ((sp_X10_get hm) hc5) (fun hc4 => ?_)
    refine r_iadd dX10_span_18 ?_
    refine r_iconst (n := 1) dX10_span_19 ?_
    refine r_isub dX10_span_20 ?_
    obtain ⟨hc6, hT⟩ := hT
    refine rr_istore_n (i := 3) (ls' := [VR m, VI x1, VI x2, VI ((x2 + (I1 (m + 1) (514 + 40 * x1 + 2))) - 1)]) dX10_span_21 rfl (Nat.le_of_ble_eq_true rfl) rfl rfl hc6 ?_
    refine r_aload_n dX10_span_22 rfl (i := 0) rfl ?_
    refine rr_getR (b := (m + 3)) dX10_span_23 fg_X10_16 rfl rfl (wX10_l hm) (wX10_s hm) (wX10_r2 hm) ?_
    refine r_iload_n dX10_span_26 rfl (i := 3) rfl ?_
    obtain ⟨hc7, hT⟩ := hT
    refine rr_iaload (v := I1 (m + 3) ((x2 + (I1 (m + 1) (514 + 40 * x1 + 2))) - 1)) dX10_span_27 (wX10_l2 hm) (wX10_a2 hm) (by decide) hc7 rfl ?_
    refine r_aload_n dX10_span_28 rfl (i := 0) rfl ?_
    refine rr_getR (b := (m + 4)) dX10_span_29 fg_X10_19 rfl rfl (wX10_l hm) (wX10_s hm) (wX10_r3 hm) ?_
    refine r_iload_n dX10_span_32 rfl (i := 3) rfl ?_
    obtain ⟨hc8, hT⟩ := hT
    refine rr_iaload (v := I1 (m + 4) ((x2 + (I1 (m + 1) (514 + 40 * x1 + 2))) - 1)) dX10_span_33 (wX10_l3 hm) (wX10_a3 hm) (by decide) hc8 rfl ?_
    refine r_iadd dX10_span_34 ?_
    refine r_aload_n dX10_span_35 rfl (i := 0) rfl ?_
    refine rr_getR (b := (m + 3)) dX10_span_36 fg_X10_16 rfl rfl (wX10_l hm) (wX10_s hm) (wX10_r2 hm) ?_
    refine r_iload_n dX10_span_39 rfl (i := 2) rfl ?_
    obtain ⟨hc9, hT⟩ := hT
    refine rr_iaload (v := I1 (m + 3) x2) dX10_span_40 (wX10_l2 hm) (wX10_a2 hm) (by decide) hc9 rfl ?_
    refine r_isub dX10_span_41 ?_
    obtain ⟨hc10, hT⟩ := hT
    exact r_iret dX10_span_42 rfl hc10 ⟨Nat.zero_le _, Nat.zero_le _⟩ ⟨_, rfl, rfl, hFI1, hT⟩
  · replace hT := hT.2 hcc
    refine r_iconst (n := (-1)) dX10_span_9 ?_
    exact r_iret dX10_span_10 rfl ⟨by decide, by decide⟩ ⟨Nat.zero_le _, Nat.zero_le _⟩ ⟨_, rfl, rfl, hFI1, hT⟩
theorem en_X10_span {E : jE} {G : jG} {I : jM} {q : Int → jM → Prop} {m : Nat} {x1 : Int} {x2 : Int} (hm : WX10 G m) (hT : (∀ a j, jRg (G.2.1 a).1 (I a j)) → jIn x1 → jIn x2 → jRI E (jA m) kX10_fits [VR m, VI x1, VI x2] G I (fun r2 I1 => ((¬ r2 = 0 → (0 ≤ 514 + 40 * x1 + 2 ∧ 514 + 40 * x1 + 2 < 22094) ∧ jIn ((x2 + (I1 (m + 1) (514 + 40 * x1 + 2))) - 1) ∧ ((0 : Int) ≤ ((x2 + (I1 (m + 1) (514 + 40 * x1 + 2))) - 1) ∧ (((x2 + (I1 (m + 1) (514 + 40 * x1 + 2))) - 1) : Int) < 200) ∧ ((0 : Int) ≤ ((x2 + (I1 (m + 1) (514 + 40 * x1 + 2))) - 1) ∧ (((x2 + (I1 (m + 1) (514 + 40 * x1 + 2))) - 1) : Int) < 200) ∧ ((0 : Int) ≤ x2 ∧ (x2 : Int) < 200) ∧ jIn (((I1 (m + 3) ((x2 + (I1 (m + 1) (514 + 40 * x1 + 2))) - 1)) + (I1 (m + 4) ((x2 + (I1 (m + 1) (514 + 40 * x1 + 2))) - 1))) - (I1 (m + 3) x2)) ∧ q (((I1 (m + 3) ((x2 + (I1 (m + 1) (514 + 40 * x1 + 2))) - 1)) + (I1 (m + 4) ((x2 + (I1 (m + 1) (514 + 40 * x1 + 2))) - 1))) - (I1 (m + 3) x2)) I1) ∧ (r2 = 0 → q (-1) I1)))) : jRI E (jA m) kX10_span [VR m, VI x1, VI x2] G I q := jRun.of mt_X10_span.2.2.2 1 rfl (fun _ => st_X10_span_0 hm hT I (fun _ _ => rfl))
set_option maxRecDepth 20000 in
theorem st_X10_finding_0 {E : jE} {G : jG} {I : jM} {q : Int → jM → Prop} {m : Nat} {x1 : Int} {x2 : Int} (hm : WX10 G m) (hT : (∀ a j, jRg (G.2.1 a).1 (I a j)) → jIn x1 → jIn x2 → jRI E (jA m) kX10_isFinding [VR m, VI x1] G I (fun r2 I1 => ((¬ r2 = 0 → (((x2 < 0 ∨ 7 < x2) → q (-1) I1) ∧ (x2 = 0 → ((0 : Int) ≤ x1 ∧ (x1 : Int) < 1200) ∧ q (I1 (m + 7) x1) I1) ∧ (x2 = 1 → ((0 : Int) ≤ x1 ∧ (x1 : Int) < 1200) ∧ q (I1 (m + 8) x1) I1) ∧ (x2 = 2 → ((0 : Int) ≤ x1 ∧ (x1 : Int) < 1200) ∧ q (I1 (m + 9) x1) I1) ∧ (x2 = 3 → ((0 : Int) ≤ x1 ∧ (x1 : Int) < 1200) ∧ q (I1 (m + 11) x1) I1) ∧ (x2 = 4 → ((0 : Int) ≤ x1 ∧ (x1 : Int) < 1200) ∧ q (I1 (m + 12) x1) I1) ∧ (x2 = 5 → ((0 : Int) ≤ x1 ∧ (x1 : Int) < 1200) ∧ ((0 ≤ (I1 (m + 13) x1) ∧ (I1 (m + 13) x1) ≤ 1) → (((I1 (m + 13) x1) = 0 → q 0 I1) ∧ (¬ (I1 (m + 13) x1) = 0 → q 1 I1)))) ∧ (x2 = 6 → ((0 : Int) ≤ x1 ∧ (x1 : Int) < 1200) ∧ ((0 ≤ (I1 (m + 15) x1) ∧ (I1 (m + 15) x1) ≤ 1) → (((I1 (m + 15) x1) = 0 → q 0 I1) ∧ (¬ (I1 (m + 15) x1) = 0 → q 1 I1)))) ∧ (x2 = 7 → ((0 : Int) ≤ x1 ∧ (x1 : Int) < 1200) ∧ ((0 ≤ (I1 (m + 14) x1) ∧ (I1 (m + 14) x1) ≤ 1) → (((I1 (m + 14) x1) = 0 → q 0 I1) ∧ (¬ (I1 (m + 14) x1) = 0 → q 1 I1)))))) ∧ (r2 = 0 → q (-1) I1)))) : jOI E (jA m) kX10_finding 0 [VR m, VI x1, VI x2] G I q := by
  intro I0 hF
  refine jOk_mem (fun hI => ?_)
  refine jOk_in (i := 1) rfl (fun hx1 => ?_)
  refine jOk_in (i := 2) rfl (fun hx2 => ?_)
  replace hT := hT hI hx1 hx2
  refine r_aload_n dX10_finding_0 rfl (i := 0) rfl ?_
  refine r_iload_n dX10_finding_1 rfl (i := 1) rfl ?_
  refine rr_cVI (a := m) (as := [VI x1]) (st := []) dX10_finding_2 mt_X10_isFinding ml_X10_329 mi_X10_isFinding rm_X10_finding_X10_isFinding jz_X10_isFinding ⟨Nat.zero_le _, Nat.zero_le _⟩ (Nat.le_of_ble_eq_true rfl) (wX10_l hm) (wX10_c hm) (jasI hx1 jas0) hT (fun r2 I1 hc3 hFI1 hT => ?_)
  replace hFI1 := jFr_tr hF hFI1
  refine jOk_mem (fun hI1 => ?_)
  refine r_if_ne (tgt := 10) dX10_finding_5 rfl hc3 (fun hcc => ?_) (fun hcc => ?_)
  · replace hT := hT.1 hcc
    refine r_iload_n dX10_finding_10 rfl (i := 2) rfl ?_
    by_cases hcc : x2 < 0 ∨ 7 < x2
    · replace hT := hT.1 hcc
      refine r_tswOut (tgt := 136) dX10_finding_11 hx2 hcc rfl ?_
      refine r_iconst (n := (-1)) dX10_finding_136 ?_
      exact r_iret dX10_finding_137 rfl ⟨by decide, by decide⟩ ⟨Nat.zero_le _, Nat.zero_le _⟩ ⟨_, rfl, rfl, hFI1, hT⟩
    · replace hT := hT.2
      have hc2 : x2 = 0 ∨ x2 = 1 ∨ x2 = 2 ∨ x2 = 3 ∨ x2 = 4 ∨ x2 = 5 ∨ x2 = 6 ∨ x2 = 7 := by omega
      rcases hc2 with hc2 | hc2 | hc2 | hc2 | hc2 | hc2 | hc2 | hc2
      · replace hT := hT.1 hc2
        refine r_tswIn (tgt := 56) (off := 45) dX10_finding_11 hx2 (by omega) (by omega) (by rw [hc2]; rfl) rfl ?_
        refine r_aload_n dX10_finding_56 rfl (i := 0) rfl ?_
        refine rr_getR (b := (m + 7)) dX10_finding_57 fg_X10_28 rfl rfl (wX10_l hm) (wX10_s hm) (wX10_r8 hm) ?_
        refine r_iload_n dX10_finding_60 rfl (i := 1) rfl ?_
        obtain ⟨hc4, hT⟩ := hT
        refine rr_iaload (v := I1 (m + 7) x1) dX10_finding_61 (wX10_l8 hm) (wX10_a8 hm) (by decide) hc4 rfl ?_
        exact r_iret dX10_finding_62 rfl (hI1 _ _).inR ⟨Nat.zero_le _, Nat.zero_le _⟩ ⟨_, rfl, rfl, hFI1, hT⟩
      · replace hT := hT.2.1 hc2
        refine r_tswIn (tgt := 63) (off := 52) dX10_finding_11 hx2 (by omega) (by omega) (by rw [hc2]; rfl) rfl ?_
        refine r_aload_n dX10_finding_63 rfl (i := 0) rfl ?_
        refine rr_getR (b := (m + 8)) dX10_finding_64 fg_X10_31 rfl rfl (wX10_l hm) (wX10_s hm) (wX10_r9 hm) ?_
        refine r_iload_n dX10_finding_67 rfl (i := 1) rfl ?_
        obtain ⟨hc5, hT⟩ := hT
        refine rr_iaload (v := I1 (m + 8) x1) dX10_finding_68 (wX10_l9 hm) (wX10_a9 hm) (by decide) hc5 rfl ?_
        exact r_iret dX10_finding_69 rfl (hI1 _ _).inR ⟨Nat.zero_le _, Nat.zero_le _⟩ ⟨_, rfl, rfl, hFI1, hT⟩
      · replace hT := hT.2.2.1 hc2
        refine r_tswIn (tgt := 70) (off := 59) dX10_finding_11 hx2 (by omega) (by omega) (by rw [hc2]; rfl) rfl ?_
        refine r_aload_n dX10_finding_70 rfl (i := 0) rfl ?_
        refine rr_getR (b := (m + 9)) dX10_finding_71 fg_X10_34 rfl rfl (wX10_l hm) (wX10_s hm) (wX10_r10 hm) ?_
        refine r_iload_n dX10_finding_74 rfl (i := 1) rfl ?_
        obtain ⟨hc6, hT⟩ := hT
        refine rr_iaload (v := I1 (m + 9) x1) dX10_finding_75 (wX10_l10 hm) (wX10_a10 hm) (by decide) hc6 rfl ?_
        exact r_iret dX10_finding_76 rfl (hI1 _ _).inR ⟨Nat.zero_le _, Nat.zero_le _⟩ ⟨_, rfl, rfl, hFI1, hT⟩
      · replace hT := hT.2.2.2.1 hc2
        refine r_tswIn (tgt := 77) (off := 66) dX10_finding_11 hx2 (by omega) (by omega) (by rw [hc2]; rfl) rfl ?_
        refine r_aload_n dX10_finding_77 rfl (i := 0) rfl ?_
        refine rr_getR (b := (m + 11)) dX10_finding_78 fg_X10_40 rfl rfl (wX10_l hm) (wX10_s hm) (wX10_r12 hm) ?_
        refine r_iload_n dX10_finding_81 rfl (i := 1) rfl ?_
        obtain ⟨hc7, hT⟩ := hT
        refine rr_iaload (v := I1 (m + 11) x1) dX10_finding_82 (wX10_l12 hm) (wX10_a12 hm) (by decide) hc7 rfl ?_
        exact r_iret dX10_finding_83 rfl (hI1 _ _).inR ⟨Nat.zero_le _, Nat.zero_le _⟩ ⟨_, rfl, rfl, hFI1, hT⟩
      · replace hT := hT.2.2.2.2.1 hc2
        refine r_tswIn (tgt := 84) (off := 73) dX10_finding_11 hx2 (by omega) (by omega) (by rw [hc2]; rfl) rfl ?_
        refine r_aload_n dX10_finding_84 rfl (i := 0) rfl ?_
        refine rr_getR (b := (m + 12)) dX10_finding_85 fg_X10_43 rfl rfl (wX10_l hm) (wX10_s hm) (wX10_r13 hm) ?_
        refine r_iload_n dX10_finding_88 rfl (i := 1) rfl ?_
        obtain ⟨hc8, hT⟩ := hT
        refine rr_iaload (v := I1 (m + 12) x1) dX10_finding_89 (wX10_l13 hm) (wX10_a13 hm) (by decide) hc8 rfl ?_
        exact r_iret dX10_finding_90 rfl (hI1 _ _).inR ⟨Nat.zero_le _, Nat.zero_le _⟩ ⟨_, rfl, rfl, hFI1, hT⟩
      · replace hT := hT.2.2.2.2.2.1 hc2
        refine r_tswIn (tgt := 91) (off := 80) dX10_finding_11 hx2 (by omega) (by omega) (by rw [hc2]; rfl) rfl ?_
        refine r_aload_n dX10_finding_91 rfl (i := 0) rfl ?_
        refine rr_getR (b := (m + 13)) dX10_finding_92 fg_X10_46 rfl rfl (wX10_l hm) (wX10_s hm) (wX10_r14 hm) ?_
        refine r_iload_n dX10_finding_95 rfl (i := 1) rfl ?_
        obtain ⟨hc9, hT⟩ := hT
        refine rr_zaload (v := I1 (m + 13) x1) dX10_finding_96 (wX10_l14 hm) (wX10_a14 hm) (by decide) hc9 rfl (fun hr10 => ?_)
        replace hT := hT hr10
        refine r_if_eq (tgt := 104) dX10_finding_97 rfl (hI1 _ _).inR (fun hcc => ?_) (fun hcc => ?_)
        · replace hT := hT.1 hcc
          refine r_iconst (n := 0) dX10_finding_104 ?_
          exact r_iret dX10_finding_105 rfl ⟨by decide, by decide⟩ ⟨Nat.zero_le _, Nat.zero_le _⟩ ⟨_, rfl, rfl, hFI1, hT⟩
        · replace hT := hT.2 hcc
          refine r_iconst (n := 1) dX10_finding_100 ?_
          refine r_goto (tgt := 105) dX10_finding_101 rfl ?_
          exact r_iret dX10_finding_105 rfl ⟨by decide, by decide⟩ ⟨Nat.zero_le _, Nat.zero_le _⟩ ⟨_, rfl, rfl, hFI1, hT⟩
      · replace hT := hT.2.2.2.2.2.2.1 hc2
        refine r_tswIn (tgt := 106) (off := 95) dX10_finding_11 hx2 (by omega) (by omega) (by rw [hc2]; rfl) rfl ?_
        refine r_aload_n dX10_finding_106 rfl (i := 0) rfl ?_
        refine rr_getR (b := (m + 15)) dX10_finding_107 fg_X10_53 rfl rfl (wX10_l hm) (wX10_s hm) (wX10_r16 hm) ?_
        refine r_iload_n dX10_finding_110 rfl (i := 1) rfl ?_
        obtain ⟨hc11, hT⟩ := hT
        refine rr_zaload (v := I1 (m + 15) x1) dX10_finding_111 (wX10_l16 hm) (wX10_a16 hm) (by decide) hc11 rfl (fun hr12 => ?_)
        replace hT := hT hr12
        refine r_if_eq (tgt := 119) dX10_finding_112 rfl (hI1 _ _).inR (fun hcc => ?_) (fun hcc => ?_)
        · replace hT := hT.1 hcc
          refine r_iconst (n := 0) dX10_finding_119 ?_
          exact r_iret dX10_finding_120 rfl ⟨by decide, by decide⟩ ⟨Nat.zero_le _, Nat.zero_le _⟩ ⟨_, rfl, rfl, hFI1, hT⟩
        · replace hT := hT.2 hcc
          refine r_iconst (n := 1) dX10_finding_115 ?_
          refine r_goto (tgt := 120) dX10_finding_116 rfl ?_
          exact r_iret dX10_finding_120 rfl ⟨by decide, by decide⟩ ⟨Nat.zero_le _, Nat.zero_le _⟩ ⟨_, rfl, rfl, hFI1, hT⟩
      · replace hT := hT.2.2.2.2.2.2.2 hc2
        refine r_tswIn (tgt := 121) (off := 110) dX10_finding_11 hx2 (by omega) (by omega) (by rw [hc2]; rfl) rfl ?_
        refine r_aload_n dX10_finding_121 rfl (i := 0) rfl ?_
        refine rr_getR (b := (m + 14)) dX10_finding_122 fg_X10_50 rfl rfl (wX10_l hm) (wX10_s hm) (wX10_r15 hm) ?_
        refine r_iload_n dX10_finding_125 rfl (i := 1) rfl ?_
        obtain ⟨hc13, hT⟩ := hT
        refine rr_zaload (v := I1 (m + 14) x1) dX10_finding_126 (wX10_l15 hm) (wX10_a15 hm) (by decide) hc13 rfl (fun hr14 => ?_)
        replace hT := hT hr14
        refine r_if_eq (tgt := 134) dX10_finding_127 rfl (hI1 _ _).inR (fun hcc => ?_) (fun hcc => ?_)
        · replace hT := hT.1 hcc
          refine r_iconst (n := 0) dX10_finding_134 ?_
          exact r_iret dX10_finding_135 rfl ⟨by decide, by decide⟩ ⟨Nat.zero_le _, Nat.zero_le _⟩ ⟨_, rfl, rfl, hFI1, hT⟩
        · replace hT := hT.2 hcc
          refine r_iconst (n := 1) dX10_finding_130 ?_
          refine r_goto (tgt := 135) dX10_finding_131 rfl ?_
          exact r_iret dX10_finding_135 rfl ⟨by decide, by decide⟩ ⟨Nat.zero_le _, Nat.zero_le _⟩ ⟨_, rfl, rfl, hFI1, hT⟩
  · replace hT := hT.2 hcc
    refine r_iconst (n := (-1)) dX10_finding_8 ?_
    exact r_iret dX10_finding_9 rfl ⟨by decide, by decide⟩ ⟨Nat.zero_le _, Nat.zero_le _⟩ ⟨_, rfl, rfl, hFI1, hT⟩
theorem en_X10_finding {E : jE} {G : jG} {I : jM} {q : Int → jM → Prop} {m : Nat} {x1 : Int} {x2 : Int} (hm : WX10 G m) (hT : (∀ a j, jRg (G.2.1 a).1 (I a j)) → jIn x1 → jIn x2 → jRI E (jA m) kX10_isFinding [VR m, VI x1] G I (fun r2 I1 => ((¬ r2 = 0 → (((x2 < 0 ∨ 7 < x2) → q (-1) I1) ∧ (x2 = 0 → ((0 : Int) ≤ x1 ∧ (x1 : Int) < 1200) ∧ q (I1 (m + 7) x1) I1) ∧ (x2 = 1 → ((0 : Int) ≤ x1 ∧ (x1 : Int) < 1200) ∧ q (I1 (m + 8) x1) I1) ∧ (x2 = 2 → ((0 : Int) ≤ x1 ∧ (x1 : Int) < 1200) ∧ q (I1 (m + 9) x1) I1) ∧ (x2 = 3 → ((0 : Int) ≤ x1 ∧ (x1 : Int) < 1200) ∧ q (I1 (m + 11) x1) I1) ∧ (x2 = 4 → ((0 : Int) ≤ x1 ∧ (x1 : Int) < 1200) ∧ q (I1 (m + 12) x1) I1) ∧ (x2 = 5 → ((0 : Int) ≤ x1 ∧ (x1 : Int) < 1200) ∧ ((0 ≤ (I1 (m + 13) x1) ∧ (I1 (m + 13) x1) ≤ 1) → (((I1 (m + 13) x1) = 0 → q 0 I1) ∧ (¬ (I1 (m + 13) x1) = 0 → q 1 I1)))) ∧ (x2 = 6 → ((0 : Int) ≤ x1 ∧ (x1 : Int) < 1200) ∧ ((0 ≤ (I1 (m + 15) x1) ∧ (I1 (m + 15) x1) ≤ 1) → (((I1 (m + 15) x1) = 0 → q 0 I1) ∧ (¬ (I1 (m + 15) x1) = 0 → q 1 I1)))) ∧ (x2 = 7 → ((0 : Int) ≤ x1 ∧ (x1 : Int) < 1200) ∧ ((0 ≤ (I1 (m + 14) x1) ∧ (I1 (m + 14) x1) ≤ 1) → (((I1 (m + 14) x1) = 0 → q 0 I1) ∧ (¬ (I1 (m + 14) x1) = 0 → q 1 I1)))))) ∧ (r2 = 0 → q (-1) I1)))) : jRI E (jA m) kX10_finding [VR m, VI x1, VI x2] G I q := jRun.of mt_X10_finding.2.2.2 0 rfl (fun _ => st_X10_finding_0 hm hT I (fun _ _ => rfl))
set_option maxRecDepth 20000 in
theorem st_X10_fresh_0 {E : jE} {G : jG} {I : jM} {q : Int → jM → Prop} {m : Nat} {x1 : Int} {x2 : Int} (hm : WX10 G m) (hT : (∀ a j, jRg (G.2.1 a).1 (I a j)) → jIn x1 → jIn x2 → jRI E (jA m) kX10_isFinding [VR m, VI x1] G I (fun r2 I1 => ((r2 = 0 → q (-1) I1) ∧ (¬ r2 = 0 → ((0 : Int) ≤ x1 ∧ (x1 : Int) < 1200) ∧ jIn ((I1 (m + 11) x1) - 1) ∧ (((0 ≤ x2 ∧ x2 ≤ ((I1 (m + 11) x1) - 1)) → ((0 : Int) ≤ x1 ∧ (x1 : Int) < 1200) ∧ ((0 : Int) ≤ x1 ∧ (x1 : Int) < 1200) ∧ jRV E (jA m) kX10_layOut [VR m, VI (I1 (m + 7) x1), VI (I1 (m + 10) x1)] G I1 (fun I9 => ((0 : Int) ≤ x2 ∧ (x2 : Int) < 2000) ∧ q (I9 (m + 6) x2) I9)) ∧ (¬ (0 ≤ x2 ∧ x2 ≤ ((I1 (m + 11) x1) - 1)) → q (-1) I1)))))) : jOI E (jA m) kX10_fresh 0 [VR m, VI x1, VI x2] G I q := by
  intro I0 hF
  refine jOk_mem (fun hI => ?_)
  refine jOk_in (i := 1) rfl (fun hx1 => ?_)
  refine jOk_in (i := 2) rfl (fun hx2 => ?_)
  replace hT := hT hI hx1 hx2
  refine r_aload_n dX10_fresh_0 rfl (i := 0) rfl ?_
  refine r_iload_n dX10_fresh_1 rfl (i := 1) rfl ?_
  refine rr_cVI (a := m) (as := [VI x1]) (st := []) dX10_fresh_2 mt_X10_isFinding ml_X10_329 mi_X10_isFinding rm_X10_fresh_X10_isFinding jz_X10_isFinding ⟨Nat.zero_le _, Nat.zero_le _⟩ (Nat.le_of_ble_eq_true rfl) (wX10_l hm) (wX10_c hm) (jasI hx1 jas0) hT (fun r2 I1 hc3 hFI1 hT => ?_)
  replace hFI1 := jFr_tr hF hFI1
  refine jOk_mem (fun hI1 => ?_)
  refine r_if_eq (tgt := 24) dX10_fresh_5 rfl hc3 (fun hcc => ?_) (fun hcc => ?_)
  · replace hT := hT.1 hcc
    refine r_iconst (n := (-1)) dX10_fresh_24 ?_
    exact r_iret dX10_fresh_25 rfl ⟨by decide, by decide⟩ ⟨Nat.zero_le _, Nat.zero_le _⟩ ⟨_, rfl, rfl, hFI1, hT⟩
  · replace hT := hT.2 hcc
    refine r_iload_n dX10_fresh_8 rfl (i := 2) rfl ?_
    refine r_iconst (n := 0) dX10_fresh_9 ?_
    refine r_aload_n dX10_fresh_10 rfl (i := 0) rfl ?_
    refine rr_getR (b := (m + 11)) dX10_fresh_11 fg_X10_40 rfl rfl (wX10_l hm) (wX10_s hm) (wX10_r12 hm) ?_
    refine r_iload_n dX10_fresh_14 rfl (i := 1) rfl ?_
    obtain ⟨hc4, hT⟩ := hT
    refine rr_iaload (v := I1 (m + 11) x1) dX10_fresh_15 (wX10_l12 hm) (wX10_a12 hm) (by decide) hc4 rfl ?_
    refine r_iconst (n := 1) dX10_fresh_16 ?_
    refine r_isub dX10_fresh_17 ?_
    obtain ⟨hc5, hT⟩ := hT
    refine rr_pSI (A := (jA m)) (v := jI (0 ≤ x2 ∧ x2 ≤ ((I1 (m + 11) x1) - 1))) (as := [VI x2, VI 0, VI ((I1 (m + 11) x1) - 1)]) (st := []) dX10_fresh_18 mt_X10_isIn ml_X10_103 ms_X10_isIn rm_X10_fresh_X10_isIn jz_X10_isIn ⟨Nat.zero_le _, Nat.zero_le _⟩ (Nat.le_of_ble_eq_true rfl) (jasI hx2 (jasI ⟨by decide, by decide⟩ (jasI hc5 jas0))) sp_X10_isIn (fun hc6 => ?_)
    refine r_if_ne (tgt := 26) dX10_fresh_21 rfl hc6 (fun hcc => ?_) (fun hcc => ?_)
    · replace hT := hT.1 (jI_p hcc)
      refine r_aload_n dX10_fresh_26 rfl (i := 0) rfl ?_
      refine r_aload_n dX10_fresh_27 rfl (i := 0) rfl ?_
      refine rr_getR (b := (m + 7)) dX10_fresh_28 fg_X10_28 rfl rfl (wX10_l hm) (wX10_s hm) (wX10_r8 hm) ?_
      refine r_iload_n dX10_fresh_31 rfl (i := 1) rfl ?_
      obtain ⟨hc7, hT⟩ := hT
      refine rr_iaload (v := I1 (m + 7) x1) dX10_fresh_32 (wX10_l8 hm) (wX10_a8 hm) (by decide) hc7 rfl ?_
      refine r_aload_n dX10_fresh_33 rfl (i := 0) rfl ?_
      refine rr_getR (b := (m + 10)) dX10_fresh_34 fg_X10_37 rfl rfl (wX10_l hm) (wX10_s hm) (wX10_r11 hm) ?_
      refine r_iload_n dX10_fresh_37 rfl (i := 1) rfl ?_
      obtain ⟨hc8, hT⟩ := hT
      refine rr_iaload (v := I1 (m + 10) x1) dX10_fresh_38 (wX10_l11 hm) (wX10_a11 hm) (by decide) hc8 rfl ?_
      refine rr_cVV (a := m) (as := [VI (I1 (m + 7) x1), VI (I1 (m + 10) x1)]) (st := []) dX10_fresh_39 mt_X10_layOut ml_X10_169 mi_X10_layOut rm_X10_fresh_X10_layOut jz_X10_layOut ⟨Nat.zero_le _, Nat.zero_le _⟩ (Nat.le_of_ble_eq_true rfl) (wX10_l hm) (wX10_c hm) (jasI (hI1 _ _).inR (jasI (hI1 _ _).inR jas0)) hT (fun I9 hFI9 hT => ?_)
      replace hFI9 := jFr_tr hFI1 hFI9
      refine jOk_mem (fun hI9 => ?_)
      refine r_aload_n dX10_fresh_42 rfl (i := 0) rfl ?_
      refine rr_getR (b := (m + 6)) dX10_fresh_43 fg_X10_25 rfl rfl (wX10_l hm) (wX10_s hm) (wX10_r6 hm) ?_
      refine r_iload_n dX10_fresh_46 rfl (i := 2) rfl ?_
      obtain ⟨hc10, hT⟩ := hT
      refine rr_iaload (v := I9 (m + 6) x2) dX10_fresh_47 (wX10_l6 hm) (wX10_a6 hm) (by decide) hc10 rfl ?_
      exact r_iret dX10_fresh_48 rfl (hI9 _ _).inR ⟨Nat.zero_le _, Nat.zero_le _⟩ ⟨_, rfl, rfl, hFI9, hT⟩
    · replace hT := hT.2 (jI_n hcc)
      refine r_iconst (n := (-1)) dX10_fresh_24 ?_
      exact r_iret dX10_fresh_25 rfl ⟨by decide, by decide⟩ ⟨Nat.zero_le _, Nat.zero_le _⟩ ⟨_, rfl, rfl, hFI1, hT⟩
theorem en_X10_fresh {E : jE} {G : jG} {I : jM} {q : Int → jM → Prop} {m : Nat} {x1 : Int} {x2 : Int} (hm : WX10 G m) (hT : (∀ a j, jRg (G.2.1 a).1 (I a j)) → jIn x1 → jIn x2 → jRI E (jA m) kX10_isFinding [VR m, VI x1] G I (fun r2 I1 => ((r2 = 0 → q (-1) I1) ∧ (¬ r2 = 0 → ((0 : Int) ≤ x1 ∧ (x1 : Int) < 1200) ∧ jIn ((I1 (m + 11) x1) - 1) ∧ (((0 ≤ x2 ∧ x2 ≤ ((I1 (m + 11) x1) - 1)) → ((0 : Int) ≤ x1 ∧ (x1 : Int) < 1200) ∧ ((0 : Int) ≤ x1 ∧ (x1 : Int) < 1200) ∧ jRV E (jA m) kX10_layOut [VR m, VI (I1 (m + 7) x1), VI (I1 (m + 10) x1)] G I1 (fun I9 => ((0 : Int) ≤ x2 ∧ (x2 : Int) < 2000) ∧ q (I9 (m + 6) x2) I9)) ∧ (¬ (0 ≤ x2 ∧ x2 ≤ ((I1 (m + 11) x1) - 1)) → q (-1) I1)))))) : jRI E (jA m) kX10_fresh [VR m, VI x1, VI x2] G I q := jRun.of mt_X10_fresh.2.2.2 0 rfl (fun _ => st_X10_fresh_0 hm hT I (fun _ _ => rfl))
set_option maxRecDepth 20000 in
theorem st_X10_clashes_14 {E : jE} {G : jG} {I : jM} {q : Int → jM → Prop} {m : Nat} {x1 : Int} {x2 : Int} {x3 : Int} (hm : WX10 G m) (hT : (∀ a j, jRg (G.2.1 a).1 (I a j)) → jIn x1 → jIn x2 → jIn x3 → (((I m 17) ≤ x3 → q x2 I) ∧ (¬ (I m 17) ≤ x3 → ((x3 = x1 → jIn (x2 + 0) ∧ jIn (x3 + 1) ∧ jOI E (jA m) kX10_clashes 14 [VR m, VI x1, VI (x2 + 0), VI (x3 + 1)] G I q) ∧ (¬ x3 = x1 → ((0 : Int) ≤ x3 ∧ (x3 : Int) < 1200) ∧ ((0 ≤ (I (m + 13) x3) ∧ (I (m + 13) x3) ≤ 1) → ((¬ (I (m + 13) x3) = 0 → jIn (x2 + 0) ∧ jIn (x3 + 1) ∧ jOI E (jA m) kX10_clashes 14 [VR m, VI x1, VI (x2 + 0), VI (x3 + 1)] G I q) ∧ ((I (m + 13) x3) = 0 → jRI E (jA m) kX10_areTogether [VR m, VI x3, VI x1] G I (fun r8 I7 => ((r8 = 0 → jIn (x2 + 0) ∧ jIn (x3 + 1) ∧ jOI E (jA m) kX10_clashes 14 [VR m, VI x1, VI (x2 + 0), VI (x3 + 1)] G I7 q) ∧ (¬ r8 = 0 → jIn (x2 + 1) ∧ jIn (x3 + 1) ∧ jOI E (jA m) kX10_clashes 14 [VR m, VI x1, VI (x2 + 1), VI (x3 + 1)] G I7 q))))))))))) : jOI E (jA m) kX10_clashes 14 [VR m, VI x1, VI x2, VI x3] G I q := by
  intro I0 hF
  refine jOk_mem (fun hI => ?_)
  refine jOk_in (i := 1) rfl (fun hx1 => ?_)
  refine jOk_in (i := 2) rfl (fun hx2 => ?_)
  refine jOk_in (i := 3) rfl (fun hx3 => ?_)
  replace hT := hT hI hx1 hx2 hx3
  refine r_iload_n dX10_clashes_14 rfl (i := 3) rfl ?_
  refine r_aload_n dX10_clashes_15 rfl (i := 0) rfl ?_
  refine rr_getI (v := I m 17) dX10_clashes_16 fg_X10_175 rfl (wX10_l hm) (wX10_s hm) rfl ?_
  refine r_icmp_ge (tgt := 59) dX10_clashes_19 rfl hx3 (hI _ _).inR (fun hcc => ?_) (fun hcc => ?_)
  · replace hT := hT.1 hcc
    refine r_iload_n dX10_clashes_59 rfl (i := 2) rfl ?_
    exact r_iret dX10_clashes_60 rfl hx2 ⟨Nat.zero_le _, Nat.zero_le _⟩ ⟨_, rfl, rfl, hF, hT⟩
  · replace hT := hT.2 hcc
    refine r_iload_n dX10_clashes_22 rfl (i := 2) rfl ?_
    refine r_iload_n dX10_clashes_23 rfl (i := 3) rfl ?_
    refine r_iload_n dX10_clashes_24 rfl (i := 1) rfl ?_
    refine r_icmp_eq (tgt := 50) dX10_clashes_25 rfl hx3 hx1 (fun hcc => ?_) (fun hcc => ?_)
    · replace hT := hT.1 hcc
      refine r_iconst (n := 0) dX10_clashes_50 ?_
      refine r_iadd dX10_clashes_51 ?_
      obtain ⟨hc1, hT⟩ := hT
      refine rr_istore_n (i := 2) (ls' := [VR m, VI x1, VI (x2 + 0), VI x3]) dX10_clashes_52 rfl (Nat.le_of_ble_eq_true rfl) rfl rfl hc1 ?_
      obtain ⟨hc2, hT⟩ := hT
      refine rr_iinc (i := 3) (ls' := [VR m, VI x1, VI (x2 + 0), VI (x3 + 1)]) dX10_clashes_53 rfl (Nat.le_of_ble_eq_true rfl) rfl rfl hc2 ?_
      refine r_goto (tgt := 14) dX10_clashes_56 rfl ?_
      exact hT I0 hF
    · replace hT := hT.2 hcc
      refine r_aload_n dX10_clashes_28 rfl (i := 0) rfl ?_
      refine rr_getR (b := (m + 13)) dX10_clashes_29 fg_X10_46 rfl rfl (wX10_l hm) (wX10_s hm) (wX10_r14 hm) ?_
      refine r_iload_n dX10_clashes_32 rfl (i := 3) rfl ?_
      obtain ⟨hc3, hT⟩ := hT
      refine rr_zaload (v := I (m + 13) x3) dX10_clashes_33 (wX10_l14 hm) (wX10_a14 hm) (by decide) hc3 rfl (fun hr4 => ?_)
      replace hT := hT hr4
      refine r_if_ne (tgt := 50) dX10_clashes_34 rfl (hI _ _).inR (fun hcc => ?_) (fun hcc => ?_)
      · replace hT := hT.1 hcc
        refine r_iconst (n := 0) dX10_clashes_50 ?_
        refine r_iadd dX10_clashes_51 ?_
        obtain ⟨hc5, hT⟩ := hT
        refine rr_istore_n (i := 2) (ls' := [VR m, VI x1, VI (x2 + 0), VI x3]) dX10_clashes_52 rfl (Nat.le_of_ble_eq_true rfl) rfl rfl hc5 ?_
        obtain ⟨hc6, hT⟩ := hT
        refine rr_iinc (i := 3) (ls' := [VR m, VI x1, VI (x2 + 0), VI (x3 + 1)]) dX10_clashes_53 rfl (Nat.le_of_ble_eq_true rfl) rfl rfl hc6 ?_
        refine r_goto (tgt := 14) dX10_clashes_56 rfl ?_
        exact hT I0 hF
      · replace hT := hT.2 hcc
        refine r_aload_n dX10_clashes_37 rfl (i := 0) rfl ?_
        refine r_iload_n dX10_clashes_38 rfl (i := 3) rfl ?_
        refine r_iload_n dX10_clashes_39 rfl (i := 1) rfl ?_
        refine rr_cVI (a := m) (as := [VI x3, VI x1]) (st := [VI x2]) dX10_clashes_40 mt_X10_areTogether ml_X10_178 mi_X10_areTogether rm_X10_clashes_X10_areTogether jz_X10_areTogether ⟨Nat.zero_le _, Nat.zero_le _⟩ (Nat.le_of_ble_eq_true rfl) (wX10_l hm) (wX10_c hm) (jasI hx3 (jasI hx1 jas0)) hT (fun r8 I7 hc9 hFI7 hT => ?_)
        replace hFI7 := jFr_tr hF hFI7
        refine jOk_mem (fun hI7 => ?_)
        refine r_if_eq (tgt := 50) dX10_clashes_43 rfl hc9 (fun hcc => ?_) (fun hcc => ?_)
        · replace hT := hT.1 hcc
          refine r_iconst (n := 0) dX10_clashes_50 ?_
          refine r_iadd dX10_clashes_51 ?_
          obtain ⟨hc10, hT⟩ := hT
          refine rr_istore_n (i := 2) (ls' := [VR m, VI x1, VI (x2 + 0), VI x3]) dX10_clashes_52 rfl (Nat.le_of_ble_eq_true rfl) rfl rfl hc10 ?_
          obtain ⟨hc11, hT⟩ := hT
          refine rr_iinc (i := 3) (ls' := [VR m, VI x1, VI (x2 + 0), VI (x3 + 1)]) dX10_clashes_53 rfl (Nat.le_of_ble_eq_true rfl) rfl rfl hc11 ?_
          refine r_goto (tgt := 14) dX10_clashes_56 rfl ?_
          exact hT I0 hFI7
        · replace hT := hT.2 hcc
          refine r_iconst (n := 1) dX10_clashes_46 ?_
          refine r_goto (tgt := 51) dX10_clashes_47 rfl ?_
          refine r_iadd dX10_clashes_51 ?_
          obtain ⟨hc12, hT⟩ := hT
          refine rr_istore_n (i := 2) (ls' := [VR m, VI x1, VI (x2 + 1), VI x3]) dX10_clashes_52 rfl (Nat.le_of_ble_eq_true rfl) rfl rfl hc12 ?_
          obtain ⟨hc13, hT⟩ := hT
          refine rr_iinc (i := 3) (ls' := [VR m, VI x1, VI (x2 + 1), VI (x3 + 1)]) dX10_clashes_53 rfl (Nat.le_of_ble_eq_true rfl) rfl rfl hc13 ?_
          refine r_goto (tgt := 14) dX10_clashes_56 rfl ?_
          exact hT I0 hFI7
set_option maxRecDepth 20000 in
theorem st_X10_clashes_0 {E : jE} {G : jG} {I : jM} {q : Int → jM → Prop} {m : Nat} {x1 : Int} (hm : WX10 G m) (hT : (∀ a j, jRg (G.2.1 a).1 (I a j)) → jIn x1 → jRI E (jA m) kX10_isFinding [VR m, VI x1] G I (fun r2 I1 => ((¬ r2 = 0 → jOI E (jA m) kX10_clashes 14 [VR m, VI x1, VI 0, VI 0] G I1 q) ∧ (r2 = 0 → q (-1) I1)))) : jOI E (jA m) kX10_clashes 0 [VR m, VI x1, VN, VN] G I q := by
  intro I0 hF
  refine jOk_mem (fun hI => ?_)
  refine jOk_in (i := 1) rfl (fun hx1 => ?_)
  replace hT := hT hI hx1
  refine r_aload_n dX10_clashes_0 rfl (i := 0) rfl ?_
  refine r_iload_n dX10_clashes_1 rfl (i := 1) rfl ?_
  refine rr_cVI (a := m) (as := [VI x1]) (st := []) dX10_clashes_2 mt_X10_isFinding ml_X10_329 mi_X10_isFinding rm_X10_clashes_X10_isFinding jz_X10_isFinding ⟨Nat.zero_le _, Nat.zero_le _⟩ (Nat.le_of_ble_eq_true rfl) (wX10_l hm) (wX10_c hm) (jasI hx1 jas0) hT (fun r2 I1 hc3 hFI1 hT => ?_)
  replace hFI1 := jFr_tr hF hFI1
  refine jOk_mem (fun hI1 => ?_)
  refine r_if_ne (tgt := 10) dX10_clashes_5 rfl hc3 (fun hcc => ?_) (fun hcc => ?_)
  · replace hT := hT.1 hcc
    refine r_iconst (n := 0) dX10_clashes_10 ?_
    refine rr_istore_n (i := 2) (ls' := [VR m, VI x1, VI 0, VN]) dX10_clashes_11 rfl (Nat.le_of_ble_eq_true rfl) rfl rfl ⟨by decide, by decide⟩ ?_
    refine r_iconst (n := 0) dX10_clashes_12 ?_
    refine rr_istore_n (i := 3) (ls' := [VR m, VI x1, VI 0, VI 0]) dX10_clashes_13 rfl (Nat.le_of_ble_eq_true rfl) rfl rfl ⟨by decide, by decide⟩ ?_
    exact hT I0 hFI1
  · replace hT := hT.2 hcc
    refine r_iconst (n := (-1)) dX10_clashes_8 ?_
    exact r_iret dX10_clashes_9 rfl ⟨by decide, by decide⟩ ⟨Nat.zero_le _, Nat.zero_le _⟩ ⟨_, rfl, rfl, hFI1, hT⟩
theorem en_X10_clashes {E : jE} {G : jG} {I : jM} {q : Int → jM → Prop} {m : Nat} {x1 : Int} (hm : WX10 G m) (hT : (∀ a j, jRg (G.2.1 a).1 (I a j)) → jIn x1 → jRI E (jA m) kX10_isFinding [VR m, VI x1] G I (fun r2 I1 => ((¬ r2 = 0 → jOI E (jA m) kX10_clashes 14 [VR m, VI x1, VI 0, VI 0] G I1 q) ∧ (r2 = 0 → q (-1) I1)))) : jRI E (jA m) kX10_clashes [VR m, VI x1] G I q := jRun.of mt_X10_clashes.2.2.2 2 rfl (fun _ => st_X10_clashes_0 hm hT I (fun _ _ => rfl))
set_option maxRecDepth 20000 in
theorem st_X10_set_18 {E : jE} {G : jG} {I : jM} {q : Int → jM → Prop} {m : Nat} {x1 : Int} {x2 : Int} {x3 : Int} (hm : WX10 G m) (hT : (∀ a j, jRg (G.2.1 a).1 (I a j)) → jIn x1 → jIn x2 → jIn x3 → (((I m 17) ≤ x3 → q (-1) I) ∧ (¬ (I m 17) ≤ x3 → ((0 : Int) ≤ x3 ∧ (x3 : Int) < 1200) ∧ ((0 ≤ (I (m + 15) x3) ∧ (I (m + 15) x3) ≤ 1) → ((¬ (I (m + 15) x3) = 0 → ((¬ x2 = x1 → jIn (x2 + 1) ∧ jIn (x3 + 1) ∧ jOI E (jA m) kX10_set 18 [VR m, VI x1, VI (x2 + 1), VI (x3 + 1)] G I q) ∧ (x2 = x1 → q x3 I))) ∧ ((I (m + 15) x3) = 0 → jIn (x3 + 1) ∧ jOI E (jA m) kX10_set 18 [VR m, VI x1, VI x2, VI (x3 + 1)] G I q)))))) : jOI E (jA m) kX10_set 18 [VR m, VI x1, VI x2, VI x3] G I q := by
  intro I0 hF
  refine jOk_mem (fun hI => ?_)
  refine jOk_in (i := 1) rfl (fun hx1 => ?_)
  refine jOk_in (i := 2) rfl (fun hx2 => ?_)
  refine jOk_in (i := 3) rfl (fun hx3 => ?_)
  replace hT := hT hI hx1 hx2 hx3
  refine r_iload_n dX10_set_18 rfl (i := 3) rfl ?_
  refine r_aload_n dX10_set_19 rfl (i := 0) rfl ?_
  refine rr_getI (v := I m 17) dX10_set_20 fg_X10_175 rfl (wX10_l hm) (wX10_s hm) rfl ?_
  refine r_icmp_ge (tgt := 54) dX10_set_23 rfl hx3 (hI _ _).inR (fun hcc => ?_) (fun hcc => ?_)
  · replace hT := hT.1 hcc
    refine r_iconst (n := (-1)) dX10_set_54 ?_
    exact r_iret dX10_set_55 rfl ⟨by decide, by decide⟩ ⟨Nat.zero_le _, Nat.zero_le _⟩ ⟨_, rfl, rfl, hF, hT⟩
  · replace hT := hT.2 hcc
    refine r_aload_n dX10_set_26 rfl (i := 0) rfl ?_
    refine rr_getR (b := (m + 15)) dX10_set_27 fg_X10_53 rfl rfl (wX10_l hm) (wX10_s hm) (wX10_r16 hm) ?_
    refine r_iload_n dX10_set_30 rfl (i := 3) rfl ?_
    obtain ⟨hc1, hT⟩ := hT
    refine rr_zaload (v := I (m + 15) x3) dX10_set_31 (wX10_l16 hm) (wX10_a16 hm) (by decide) hc1 rfl (fun hr2 => ?_)
    replace hT := hT hr2
    refine r_if_ne (tgt := 38) dX10_set_32 rfl (hI _ _).inR (fun hcc => ?_) (fun hcc => ?_)
    · replace hT := hT.1 hcc
      refine r_iload_n dX10_set_38 rfl (i := 2) rfl ?_
      refine r_iload_n dX10_set_39 rfl (i := 1) rfl ?_
      refine r_icmp_ne (tgt := 45) dX10_set_40 rfl hx2 hx1 (fun hcc => ?_) (fun hcc => ?_)
      · replace hT := hT.1 hcc
        obtain ⟨hc3, hT⟩ := hT
        refine rr_iinc (i := 2) (ls' := [VR m, VI x1, VI (x2 + 1), VI x3]) dX10_set_45 rfl (Nat.le_of_ble_eq_true rfl) rfl rfl hc3 ?_
        obtain ⟨hc4, hT⟩ := hT
        refine rr_iinc (i := 3) (ls' := [VR m, VI x1, VI (x2 + 1), VI (x3 + 1)]) dX10_set_48 rfl (Nat.le_of_ble_eq_true rfl) rfl rfl hc4 ?_
        refine r_goto (tgt := 18) dX10_set_51 rfl ?_
        exact hT I0 hF
      · replace hT := hT.2 hcc
        refine r_iload_n dX10_set_43 rfl (i := 3) rfl ?_
        exact r_iret dX10_set_44 rfl hx3 ⟨Nat.zero_le _, Nat.zero_le _⟩ ⟨_, rfl, rfl, hF, hT⟩
    · replace hT := hT.2 hcc
      refine r_goto (tgt := 48) dX10_set_35 rfl ?_
      obtain ⟨hc5, hT⟩ := hT
      refine rr_iinc (i := 3) (ls' := [VR m, VI x1, VI x2, VI (x3 + 1)]) dX10_set_48 rfl (Nat.le_of_ble_eq_true rfl) rfl rfl hc5 ?_
      refine r_goto (tgt := 18) dX10_set_51 rfl ?_
      exact hT I0 hF
set_option maxRecDepth 20000 in
theorem st_X10_set_0 {E : jE} {G : jG} {I : jM} {q : Int → jM → Prop} {m : Nat} {x1 : Int} (hm : WX10 G m) (hT : (∀ a j, jRg (G.2.1 a).1 (I a j)) → jIn x1 → jRV E (jA m) kX10_layFindings [VR m] G I (fun I1 => ((¬ x1 = (-1) → jOI E (jA m) kX10_set 18 [VR m, VI x1, VI 0, VI 0] G I1 q) ∧ (x1 = (-1) → q (I1 m 20) I1)))) : jOI E (jA m) kX10_set 0 [VR m, VI x1, VN, VN] G I q := by
  intro I0 hF
  refine jOk_mem (fun hI => ?_)
  refine jOk_in (i := 1) rfl (fun hx1 => ?_)
  replace hT := hT hI hx1
  refine r_aload_n dX10_set_0 rfl (i := 0) rfl ?_
  refine rr_cVV (a := m) (as := []) (st := []) dX10_set_1 mt_X10_layFindings ml_X10_229 mi_X10_layFindings rm_X10_set_X10_layFindings jz_X10_layFindings ⟨Nat.zero_le _, Nat.zero_le _⟩ (Nat.le_of_ble_eq_true rfl) (wX10_l hm) (wX10_c hm) jas0 hT (fun I1 hFI1 hT => ?_)
  replace hFI1 := jFr_tr hF hFI1
  refine jOk_mem (fun hI1 => ?_)
  refine r_iload_n dX10_set_4 rfl (i := 1) rfl ?_
  refine r_iconst (n := (-1)) dX10_set_5 ?_
  refine r_icmp_ne (tgt := 14) dX10_set_6 rfl hx1 ⟨by decide, by decide⟩ (fun hcc => ?_) (fun hcc => ?_)
  · replace hT := hT.1 hcc
    refine r_iconst (n := 0) dX10_set_14 ?_
    refine rr_istore_n (i := 2) (ls' := [VR m, VI x1, VI 0, VN]) dX10_set_15 rfl (Nat.le_of_ble_eq_true rfl) rfl rfl ⟨by decide, by decide⟩ ?_
    refine r_iconst (n := 0) dX10_set_16 ?_
    refine rr_istore_n (i := 3) (ls' := [VR m, VI x1, VI 0, VI 0]) dX10_set_17 rfl (Nat.le_of_ble_eq_true rfl) rfl rfl ⟨by decide, by decide⟩ ?_
    exact hT I0 hFI1
  · replace hT := hT.2 hcc
    refine r_aload_n dX10_set_9 rfl (i := 0) rfl ?_
    refine rr_getI (v := I1 m 20) dX10_set_10 fg_X10_211 rfl (wX10_l hm) (wX10_s hm) rfl ?_
    exact r_iret dX10_set_13 rfl (hI1 _ _).inR ⟨Nat.zero_le _, Nat.zero_le _⟩ ⟨_, rfl, rfl, hFI1, hT⟩
theorem en_X10_set {E : jE} {G : jG} {I : jM} {q : Int → jM → Prop} {m : Nat} {x1 : Int} (hm : WX10 G m) (hT : (∀ a j, jRg (G.2.1 a).1 (I a j)) → jIn x1 → jRV E (jA m) kX10_layFindings [VR m] G I (fun I1 => ((¬ x1 = (-1) → jOI E (jA m) kX10_set 18 [VR m, VI x1, VI 0, VI 0] G I1 q) ∧ (x1 = (-1) → q (I1 m 20) I1)))) : jRI E (jA m) kX10_set [VR m, VI x1] G I q := jRun.of mt_X10_set.2.2.2 2 rfl (fun _ => st_X10_set_0 hm hT I (fun _ _ => rfl))
set_option maxRecDepth 20000 in
theorem st_X10_worth_0 {E : jE} {G : jG} {I : jM} {q : Int → jM → Prop} {m : Nat} (hm : WX10 G m) (hT : (∀ a j, jRg (G.2.1 a).1 (I a j)) → jRV E (jA m) kX10_layFindings [VR m] G I (fun I1 => q (I1 m 21) I1)) : jOI E (jA m) kX10_worth 0 [VR m] G I q := by
  intro I0 hF
  refine jOk_mem (fun hI => ?_)
  replace hT := hT hI 
  refine r_aload_n dX10_worth_0 rfl (i := 0) rfl ?_
  refine rr_cVV (a := m) (as := []) (st := []) dX10_worth_1 mt_X10_layFindings ml_X10_229 mi_X10_layFindings rm_X10_worth_X10_layFindings jz_X10_layFindings ⟨Nat.zero_le _, Nat.zero_le _⟩ (Nat.le_of_ble_eq_true rfl) (wX10_l hm) (wX10_c hm) jas0 hT (fun I1 hFI1 hT => ?_)
  replace hFI1 := jFr_tr hF hFI1
  refine jOk_mem (fun hI1 => ?_)
  refine r_aload_n dX10_worth_4 rfl (i := 0) rfl ?_
  refine rr_getI (v := I1 m 21) dX10_worth_5 fg_X10_208 rfl (wX10_l hm) (wX10_s hm) rfl ?_
  exact r_iret dX10_worth_8 rfl (hI1 _ _).inR ⟨Nat.zero_le _, Nat.zero_le _⟩ ⟨_, rfl, rfl, hFI1, hT⟩
theorem en_X10_worth {E : jE} {G : jG} {I : jM} {q : Int → jM → Prop} {m : Nat} (hm : WX10 G m) (hT : (∀ a j, jRg (G.2.1 a).1 (I a j)) → jRV E (jA m) kX10_layFindings [VR m] G I (fun I1 => q (I1 m 21) I1)) : jRI E (jA m) kX10_worth [VR m] G I q := jRun.of mt_X10_worth.2.2.2 0 rfl (fun _ => st_X10_worth_0 hm hT I (fun _ _ => rfl))
set_option maxRecDepth 20000 in
theorem st_X10_chosen_18 {E : jE} {G : jG} {I : jM} {q : Int → jM → Prop} {m : Nat} {x1 : Int} {x2 : Int} {x3 : Int} (hm : WX10 G m) (hT : (∀ a j, jRg (G.2.1 a).1 (I a j)) → jIn x1 → jIn x2 → jIn x3 → (((I m 17) ≤ x3 → q x2 I) ∧ (¬ (I m 17) ≤ x3 → ((0 : Int) ≤ x3 ∧ (x3 : Int) < 1200) ∧ ((0 ≤ (I (m + 15) x3) ∧ (I (m + 15) x3) ≤ 1) → (((I (m + 15) x3) = 0 → jIn (x2 + 0) ∧ jIn (x3 + 1) ∧ jOI E (jA m) kX10_chosen 18 [VR m, VI x1, VI (x2 + 0), VI (x3 + 1)] G I q) ∧ (¬ (I (m + 15) x3) = 0 → ((0 : Int) ≤ x3 ∧ (x3 : Int) < 1200) ∧ ((¬ (I (m + 7) x3) = x1 → jIn (x2 + 0) ∧ jIn (x3 + 1) ∧ jOI E (jA m) kX10_chosen 18 [VR m, VI x1, VI (x2 + 0), VI (x3 + 1)] G I q) ∧ ((I (m + 7) x3) = x1 → jIn (x2 + 1) ∧ jIn (x3 + 1) ∧ jOI E (jA m) kX10_chosen 18 [VR m, VI x1, VI (x2 + 1), VI (x3 + 1)] G I q)))))))) : jOI E (jA m) kX10_chosen 18 [VR m, VI x1, VI x2, VI x3] G I q := by
  intro I0 hF
  refine jOk_mem (fun hI => ?_)
  refine jOk_in (i := 1) rfl (fun hx1 => ?_)
  refine jOk_in (i := 2) rfl (fun hx2 => ?_)
  refine jOk_in (i := 3) rfl (fun hx3 => ?_)
  replace hT := hT hI hx1 hx2 hx3
  refine r_iload_n dX10_chosen_18 rfl (i := 3) rfl ?_
  refine r_aload_n dX10_chosen_19 rfl (i := 0) rfl ?_
  refine rr_getI (v := I m 17) dX10_chosen_20 fg_X10_175 rfl (wX10_l hm) (wX10_s hm) rfl ?_
  refine r_icmp_ge (tgt := 59) dX10_chosen_23 rfl hx3 (hI _ _).inR (fun hcc => ?_) (fun hcc => ?_)
  · replace hT := hT.1 hcc
    refine r_iload_n dX10_chosen_59 rfl (i := 2) rfl ?_
    exact r_iret dX10_chosen_60 rfl hx2 ⟨Nat.zero_le _, Nat.zero_le _⟩ ⟨_, rfl, rfl, hF, hT⟩
  · replace hT := hT.2 hcc
    refine r_iload_n dX10_chosen_26 rfl (i := 2) rfl ?_
    refine r_aload_n dX10_chosen_27 rfl (i := 0) rfl ?_
    refine rr_getR (b := (m + 15)) dX10_chosen_28 fg_X10_53 rfl rfl (wX10_l hm) (wX10_s hm) (wX10_r16 hm) ?_
    refine r_iload_n dX10_chosen_31 rfl (i := 3) rfl ?_
    obtain ⟨hc1, hT⟩ := hT
    refine rr_zaload (v := I (m + 15) x3) dX10_chosen_32 (wX10_l16 hm) (wX10_a16 hm) (by decide) hc1 rfl (fun hr2 => ?_)
    replace hT := hT hr2
    refine r_if_eq (tgt := 50) dX10_chosen_33 rfl (hI _ _).inR (fun hcc => ?_) (fun hcc => ?_)
    · replace hT := hT.1 hcc
      refine r_iconst (n := 0) dX10_chosen_50 ?_
      refine r_iadd dX10_chosen_51 ?_
      obtain ⟨hc3, hT⟩ := hT
      refine rr_istore_n (i := 2) (ls' := [VR m, VI x1, VI (x2 + 0), VI x3]) dX10_chosen_52 rfl (Nat.le_of_ble_eq_true rfl) rfl rfl hc3 ?_
      obtain ⟨hc4, hT⟩ := hT
      refine rr_iinc (i := 3) (ls' := [VR m, VI x1, VI (x2 + 0), VI (x3 + 1)]) dX10_chosen_53 rfl (Nat.le_of_ble_eq_true rfl) rfl rfl hc4 ?_
      refine r_goto (tgt := 18) dX10_chosen_56 rfl ?_
      exact hT I0 hF
    · replace hT := hT.2 hcc
      refine r_aload_n dX10_chosen_36 rfl (i := 0) rfl ?_
      refine rr_getR (b := (m + 7)) dX10_chosen_37 fg_X10_28 rfl rfl (wX10_l hm) (wX10_s hm) (wX10_r8 hm) ?_
      refine r_iload_n dX10_chosen_40 rfl (i := 3) rfl ?_
      obtain ⟨hc5, hT⟩ := hT
      refine rr_iaload (v := I (m + 7) x3) dX10_chosen_41 (wX10_l8 hm) (wX10_a8 hm) (by decide) hc5 rfl ?_
      refine r_iload_n dX10_chosen_42 rfl (i := 1) rfl ?_
      refine r_icmp_ne (tgt := 50) dX10_chosen_43 rfl (hI _ _).inR hx1 (fun hcc => ?_) (fun hcc => ?_)
      · replace hT := hT.1 hcc
        refine r_iconst (n := 0) dX10_chosen_50 ?_
        refine r_iadd dX10_chosen_51 ?_
        obtain ⟨hc6, hT⟩ := hT
        refine rr_istore_n (i := 2) (ls' := [VR m, VI x1, VI (x2 + 0), VI x3]) dX10_chosen_52 rfl (Nat.le_of_ble_eq_true rfl) rfl rfl hc6 ?_
        obtain ⟨hc7, hT⟩ := hT
        refine rr_iinc (i := 3) (ls' := [VR m, VI x1, VI (x2 + 0), VI (x3 + 1)]) dX10_chosen_53 rfl (Nat.le_of_ble_eq_true rfl) rfl rfl hc7 ?_
        refine r_goto (tgt := 18) dX10_chosen_56 rfl ?_
        exact hT I0 hF
      · replace hT := hT.2 hcc
        refine r_iconst (n := 1) dX10_chosen_46 ?_
        refine r_goto (tgt := 51) dX10_chosen_47 rfl ?_
        refine r_iadd dX10_chosen_51 ?_
        obtain ⟨hc8, hT⟩ := hT
        refine rr_istore_n (i := 2) (ls' := [VR m, VI x1, VI (x2 + 1), VI x3]) dX10_chosen_52 rfl (Nat.le_of_ble_eq_true rfl) rfl rfl hc8 ?_
        obtain ⟨hc9, hT⟩ := hT
        refine rr_iinc (i := 3) (ls' := [VR m, VI x1, VI (x2 + 1), VI (x3 + 1)]) dX10_chosen_53 rfl (Nat.le_of_ble_eq_true rfl) rfl rfl hc9 ?_
        refine r_goto (tgt := 18) dX10_chosen_56 rfl ?_
        exact hT I0 hF
set_option maxRecDepth 20000 in
theorem st_X10_chosen_0 {E : jE} {G : jG} {I : jM} {q : Int → jM → Prop} {m : Nat} {x1 : Int} (hm : WX10 G m) (hT : (∀ a j, jRg (G.2.1 a).1 (I a j)) → jIn x1 → (0 ≤ I (m + 1) 4 ∧ I (m + 1) 4 ≤ 6) ∧ (((0 ≤ x1 ∧ x1 < I (m + 1) 4) → jRV E (jA m) kX10_layFindings [VR m] G I (fun I3 => jOI E (jA m) kX10_chosen 18 [VR m, VI x1, VI 0, VI 0] G I3 q)) ∧ (¬ (0 ≤ x1 ∧ x1 < I (m + 1) 4) → q (-1) I))) : jOI E (jA m) kX10_chosen 0 [VR m, VI x1, VN, VN] G I q := by
  intro I0 hF
  refine jOk_mem (fun hI => ?_)
  refine jOk_in (i := 1) rfl (fun hx1 => ?_)
  replace hT := hT hI hx1
  refine r_aload_n dX10_chosen_0 rfl (i := 0) rfl ?_
  refine r_iload_n dX10_chosen_1 rfl (i := 1) rfl ?_
  obtain ⟨hc2, hT⟩ := hT
  refine rr_pVI (A := (jA m)) (v := jI (0 ≤ x1 ∧ x1 < I (m + 1) 4)) (a := m) (as := [VI x1]) (st := []) dX10_chosen_2 mt_X10_isRule ml_X10_317 mi_X10_isRule rm_X10_chosen_X10_isRule jz_X10_isRule ⟨Nat.zero_le _, Nat.zero_le _⟩ (Nat.le_of_ble_eq_true rfl) (wX10_l hm) (wX10_c hm) (jasI hx1 jas0) ((sp_X10_isRule hm) hc2) (fun hc1 => ?_)
  refine r_if_ne (tgt := 10) dX10_chosen_5 rfl hc1 (fun hcc => ?_) (fun hcc => ?_)
  · replace hT := hT.1 (jI_p hcc)
    refine r_aload_n dX10_chosen_10 rfl (i := 0) rfl ?_
    refine rr_cVV (a := m) (as := []) (st := []) dX10_chosen_11 mt_X10_layFindings ml_X10_229 mi_X10_layFindings rm_X10_chosen_X10_layFindings jz_X10_layFindings ⟨Nat.zero_le _, Nat.zero_le _⟩ (Nat.le_of_ble_eq_true rfl) (wX10_l hm) (wX10_c hm) jas0 hT (fun I3 hFI3 hT => ?_)
    replace hFI3 := jFr_tr hF hFI3
    refine jOk_mem (fun hI3 => ?_)
    refine r_iconst (n := 0) dX10_chosen_14 ?_
    refine rr_istore_n (i := 2) (ls' := [VR m, VI x1, VI 0, VN]) dX10_chosen_15 rfl (Nat.le_of_ble_eq_true rfl) rfl rfl ⟨by decide, by decide⟩ ?_
    refine r_iconst (n := 0) dX10_chosen_16 ?_
    refine rr_istore_n (i := 3) (ls' := [VR m, VI x1, VI 0, VI 0]) dX10_chosen_17 rfl (Nat.le_of_ble_eq_true rfl) rfl rfl ⟨by decide, by decide⟩ ?_
    exact hT I0 hFI3
  · replace hT := hT.2 (jI_n hcc)
    refine r_iconst (n := (-1)) dX10_chosen_8 ?_
    exact r_iret dX10_chosen_9 rfl ⟨by decide, by decide⟩ ⟨Nat.zero_le _, Nat.zero_le _⟩ ⟨_, rfl, rfl, hF, hT⟩
theorem en_X10_chosen {E : jE} {G : jG} {I : jM} {q : Int → jM → Prop} {m : Nat} {x1 : Int} (hm : WX10 G m) (hT : (∀ a j, jRg (G.2.1 a).1 (I a j)) → jIn x1 → (0 ≤ I (m + 1) 4 ∧ I (m + 1) 4 ≤ 6) ∧ (((0 ≤ x1 ∧ x1 < I (m + 1) 4) → jRV E (jA m) kX10_layFindings [VR m] G I (fun I3 => jOI E (jA m) kX10_chosen 18 [VR m, VI x1, VI 0, VI 0] G I3 q)) ∧ (¬ (0 ≤ x1 ∧ x1 < I (m + 1) 4) → q (-1) I))) : jRI E (jA m) kX10_chosen [VR m, VI x1] G I q := jRun.of mt_X10_chosen.2.2.2 2 rfl (fun _ => st_X10_chosen_0 hm hT I (fun _ _ => rfl))
set_option maxRecDepth 20000 in
theorem st_X10_without_0 {E : jE} {G : jG} {I : jM} {q : Int → jM → Prop} {m : Nat} {x1 : Int} (hm : WX10 G m) (hT : (∀ a j, jRg (G.2.1 a).1 (I a j)) → jIn x1 → (0 ≤ I (m + 1) 4 ∧ I (m + 1) 4 ≤ 6) ∧ (((0 ≤ x1 ∧ x1 < I (m + 1) 4) → (0 ≤ 514 + 40 * x1 + 1 ∧ 514 + 40 * x1 + 1 < 22094) ∧ ((0 : Int) ≤ ((514 + (40 * x1)) + 1) ∧ (((514 + (40 * x1)) + 1) : Int) < 22094) ∧ (∀ M6, M6 = jup I (m + 1) ((514 + (40 * x1)) + 1) 0 → jRV E (jA m) kX10_layFindings [VR m] G M6 (fun I7 => ((0 : Int) ≤ ((514 + (40 * x1)) + 1) ∧ (((514 + (40 * x1)) + 1) : Int) < 22094) ∧ (∀ M9, M9 = jup I7 (m + 1) ((514 + (40 * x1)) + 1) (I (m + 1) (514 + 40 * x1 + 1)) → q (I7 m 21) M9)))) ∧ (¬ (0 ≤ x1 ∧ x1 < I (m + 1) 4) → q (-1) I))) : jOI E (jA m) kX10_without 0 [VR m, VI x1, VN] G I q := by
  intro I0 hF
  refine jOk_mem (fun hI => ?_)
  refine jOk_in (i := 1) rfl (fun hx1 => ?_)
  replace hT := hT hI hx1
  refine r_aload_n dX10_without_0 rfl (i := 0) rfl ?_
  refine r_iload_n dX10_without_1 rfl (i := 1) rfl ?_
  obtain ⟨hc2, hT⟩ := hT
  refine rr_pVI (A := (jA m)) (v := jI (0 ≤ x1 ∧ x1 < I (m + 1) 4)) (a := m) (as := [VI x1]) (st := []) dX10_without_2 mt_X10_isRule ml_X10_317 mi_X10_isRule rm_X10_without_X10_isRule jz_X10_isRule ⟨Nat.zero_le _, Nat.zero_le _⟩ (Nat.le_of_ble_eq_true rfl) (wX10_l hm) (wX10_c hm) (jasI hx1 jas0) ((sp_X10_isRule hm) hc2) (fun hc1 => ?_)
  refine r_if_ne (tgt := 10) dX10_without_5 rfl hc1 (fun hcc => ?_) (fun hcc => ?_)
  · replace hT := hT.1 (jI_p hcc)
    refine r_aload_n dX10_without_10 rfl (i := 0) rfl ?_
    refine r_iload_n dX10_without_11 rfl (i := 1) rfl ?_
    refine r_iconst (n := 1) dX10_without_12 ?_
    obtain ⟨hc4, hT⟩ := hT
    refine rr_pVI (A := (jA m)) (v := I (m + 1) (514 + 40 * x1 + 1)) (a := m) (as := [VI x1, VI 1]) (st := []) dX10_without_13 mt_X10_get ml_X10_127 mi_X10_get rm_X10_without_X10_get jz_X10_get ⟨Nat.zero_le _, Nat.zero_le _⟩ (Nat.le_of_ble_eq_true rfl) (wX10_l hm) (wX10_c hm) (jasI hx1 (jasI ⟨by decide, by decide⟩ jas0)) ((sp_X10_get hm) hc4) (fun hc3 => ?_)
    refine rr_istore_n (i := 2) (ls' := [VR m, VI x1, VI (I (m + 1) (514 + 40 * x1 + 1))]) dX10_without_16 rfl (Nat.le_of_ble_eq_true rfl) rfl rfl hc3 ?_
    refine r_aload_n dX10_without_17 rfl (i := 0) rfl ?_
    refine rr_getR (b := (m + 1)) dX10_without_18 fg_X10_7 rfl rfl (wX10_l hm) (wX10_s hm) (wX10_r0 hm) ?_
    refine r_sipush (n := 514) dX10_without_21 (by decide +kernel) ?_
    refine r_bipush (n := 40) dX10_without_24 (by decide +kernel) ?_
    refine r_iload_n dX10_without_26 rfl (i := 1) rfl ?_
    refine r_imul dX10_without_27 ?_
    refine r_iadd dX10_without_28 ?_
    refine r_iconst (n := 1) dX10_without_29 ?_
    refine r_iadd dX10_without_30 ?_
    refine r_iconst (n := 0) dX10_without_31 ?_
    obtain ⟨hc5, hT⟩ := hT
    refine rr_iastore dX10_without_32 (wX10_l0 hm) (wX10_a0 hm) (by decide) hc5 ⟨by decide, by decide⟩ (fun M6 eM6 => ?_)
    have hFM6 := jFr_up hF eM6 (wX10_f hm 1 (by decide))
    replace hT := hT M6 eM6
    refine jOk_mem (fun hIM6 => ?_)
    refine r_aload_n dX10_without_33 rfl (i := 0) rfl ?_
    refine rr_cVV (a := m) (as := []) (st := []) dX10_without_34 mt_X10_layFindings ml_X10_229 mi_X10_layFindings rm_X10_without_X10_layFindings jz_X10_layFindings ⟨Nat.zero_le _, Nat.zero_le _⟩ (Nat.le_of_ble_eq_true rfl) (wX10_l hm) (wX10_c hm) jas0 hT (fun I7 hFI7 hT => ?_)
    replace hFI7 := jFr_tr hFM6 hFI7
    refine jOk_mem (fun hI7 => ?_)
    refine r_aload_n dX10_without_37 rfl (i := 0) rfl ?_
    refine rr_getR (b := (m + 1)) dX10_without_38 fg_X10_7 rfl rfl (wX10_l hm) (wX10_s hm) (wX10_r0 hm) ?_
    refine r_sipush (n := 514) dX10_without_41 (by decide +kernel) ?_
    refine r_bipush (n := 40) dX10_without_44 (by decide +kernel) ?_
    refine r_iload_n dX10_without_46 rfl (i := 1) rfl ?_
    refine r_imul dX10_without_47 ?_
    refine r_iadd dX10_without_48 ?_
    refine r_iconst (n := 1) dX10_without_49 ?_
    refine r_iadd dX10_without_50 ?_
    refine r_iload_n dX10_without_51 rfl (i := 2) rfl ?_
    obtain ⟨hc8, hT⟩ := hT
    refine rr_iastore dX10_without_52 (wX10_l0 hm) (wX10_a0 hm) (by decide) hc8 hc3 (fun M9 eM9 => ?_)
    have hFM9 := jFr_up hFI7 eM9 (wX10_f hm 1 (by decide))
    replace hT := hT M9 eM9
    refine jOk_mem (fun hIM9 => ?_)
    refine r_aload_n dX10_without_53 rfl (i := 0) rfl ?_
    refine rr_getI (v := I7 m 21) dX10_without_54 fg_X10_208 rfl (wX10_l hm) (wX10_s hm) (jr_na eM9 (by omega)) ?_
    exact r_iret dX10_without_57 rfl (hI7 _ _).inR ⟨Nat.zero_le _, Nat.zero_le _⟩ ⟨_, rfl, rfl, hFM9, hT⟩
  · replace hT := hT.2 (jI_n hcc)
    refine r_iconst (n := (-1)) dX10_without_8 ?_
    exact r_iret dX10_without_9 rfl ⟨by decide, by decide⟩ ⟨Nat.zero_le _, Nat.zero_le _⟩ ⟨_, rfl, rfl, hF, hT⟩
theorem en_X10_without {E : jE} {G : jG} {I : jM} {q : Int → jM → Prop} {m : Nat} {x1 : Int} (hm : WX10 G m) (hT : (∀ a j, jRg (G.2.1 a).1 (I a j)) → jIn x1 → (0 ≤ I (m + 1) 4 ∧ I (m + 1) 4 ≤ 6) ∧ (((0 ≤ x1 ∧ x1 < I (m + 1) 4) → (0 ≤ 514 + 40 * x1 + 1 ∧ 514 + 40 * x1 + 1 < 22094) ∧ ((0 : Int) ≤ ((514 + (40 * x1)) + 1) ∧ (((514 + (40 * x1)) + 1) : Int) < 22094) ∧ (∀ M6, M6 = jup I (m + 1) ((514 + (40 * x1)) + 1) 0 → jRV E (jA m) kX10_layFindings [VR m] G M6 (fun I7 => ((0 : Int) ≤ ((514 + (40 * x1)) + 1) ∧ (((514 + (40 * x1)) + 1) : Int) < 22094) ∧ (∀ M9, M9 = jup I7 (m + 1) ((514 + (40 * x1)) + 1) (I (m + 1) (514 + 40 * x1 + 1)) → q (I7 m 21) M9)))) ∧ (¬ (0 ≤ x1 ∧ x1 < I (m + 1) 4) → q (-1) I))) : jRI E (jA m) kX10_without [VR m, VI x1] G I q := jRun.of mt_X10_without.2.2.2 1 rfl (fun _ => st_X10_without_0 hm hT I (fun _ _ => rfl))
set_option maxRecDepth 20000 in
theorem st_X10_silenced_0 {E : jE} {G : jG} {I : jM} {q : Int → jM → Prop} {m : Nat} {x1 : Int} {x2 : Int} (hm : WX10 G m) (hT : (∀ a j, jRg (G.2.1 a).1 (I a j)) → jIn x1 → jIn x2 → jIn ((I (m + 1) 3) - 1) ∧ ((¬ (0 ≤ x1 ∧ x1 ≤ ((I (m + 1) 3) - 1)) → q (-1) I) ∧ ((0 ≤ x1 ∧ x1 ≤ ((I (m + 1) 3) - 1)) → ((¬ (0 ≤ x2 ∧ x2 ≤ 1) → q (-1) I) ∧ ((0 ≤ x2 ∧ x2 ≤ 1) → ((0 : Int) ≤ ((410 + (2 * x1)) + x2) ∧ (((410 + (2 * x1)) + x2) : Int) < 22094) ∧ q (I (m + 1) ((410 + (2 * x1)) + x2)) I))))) : jOI E (jA m) kX10_silenced 0 [VR m, VI x1, VI x2] G I q := by
  intro I0 hF
  refine jOk_mem (fun hI => ?_)
  refine jOk_in (i := 1) rfl (fun hx1 => ?_)
  refine jOk_in (i := 2) rfl (fun hx2 => ?_)
  replace hT := hT hI hx1 hx2
  refine r_iload_n dX10_silenced_0 rfl (i := 1) rfl ?_
  refine r_iconst (n := 0) dX10_silenced_1 ?_
  refine r_aload_n dX10_silenced_2 rfl (i := 0) rfl ?_
  refine rr_getR (b := (m + 1)) dX10_silenced_3 fg_X10_7 rfl rfl (wX10_l hm) (wX10_s hm) (wX10_r0 hm) ?_
  refine r_iconst (n := 3) dX10_silenced_6 ?_
  refine rr_iaload (v := I (m + 1) 3) dX10_silenced_7 (wX10_l0 hm) (wX10_a0 hm) (by decide) ⟨by decide, by decide⟩ rfl ?_
  refine r_iconst (n := 1) dX10_silenced_8 ?_
  refine r_isub dX10_silenced_9 ?_
  obtain ⟨hc2, hT⟩ := hT
  refine rr_pSI (A := (jA m)) (v := jI (0 ≤ x1 ∧ x1 ≤ ((I (m + 1) 3) - 1))) (as := [VI x1, VI 0, VI ((I (m + 1) 3) - 1)]) (st := []) dX10_silenced_10 mt_X10_isIn ml_X10_103 ms_X10_isIn rm_X10_silenced_X10_isIn jz_X10_isIn ⟨Nat.zero_le _, Nat.zero_le _⟩ (Nat.le_of_ble_eq_true rfl) (jasI hx1 (jasI ⟨by decide, by decide⟩ (jasI hc2 jas0))) sp_X10_isIn (fun hc3 => ?_)
  refine r_if_eq (tgt := 42) dX10_silenced_13 rfl hc3 (fun hcc => ?_) (fun hcc => ?_)
  · replace hT := hT.1 (jI_n hcc)
    refine r_iconst (n := (-1)) dX10_silenced_42 ?_
    exact r_iret dX10_silenced_43 rfl ⟨by decide, by decide⟩ ⟨Nat.zero_le _, Nat.zero_le _⟩ ⟨_, rfl, rfl, hF, hT⟩
  · replace hT := hT.2 (jI_p hcc)
    refine r_iload_n dX10_silenced_16 rfl (i := 2) rfl ?_
    refine r_iconst (n := 0) dX10_silenced_17 ?_
    refine r_iconst (n := 1) dX10_silenced_18 ?_
    refine rr_pSI (A := (jA m)) (v := jI (0 ≤ x2 ∧ x2 ≤ 1)) (as := [VI x2, VI 0, VI 1]) (st := []) dX10_silenced_19 mt_X10_isIn ml_X10_103 ms_X10_isIn rm_X10_silenced_X10_isIn jz_X10_isIn ⟨Nat.zero_le _, Nat.zero_le _⟩ (Nat.le_of_ble_eq_true rfl) (jasI hx2 (jasI ⟨by decide, by decide⟩ (jasI ⟨by decide, by decide⟩ jas0))) sp_X10_isIn (fun hc4 => ?_)
    refine r_if_eq (tgt := 42) dX10_silenced_22 rfl hc4 (fun hcc => ?_) (fun hcc => ?_)
    · replace hT := hT.1 (jI_n hcc)
      refine r_iconst (n := (-1)) dX10_silenced_42 ?_
      exact r_iret dX10_silenced_43 rfl ⟨by decide, by decide⟩ ⟨Nat.zero_le _, Nat.zero_le _⟩ ⟨_, rfl, rfl, hF, hT⟩
    · replace hT := hT.2 (jI_p hcc)
      refine r_aload_n dX10_silenced_25 rfl (i := 0) rfl ?_
      refine rr_getR (b := (m + 1)) dX10_silenced_26 fg_X10_7 rfl rfl (wX10_l hm) (wX10_s hm) (wX10_r0 hm) ?_
      refine r_sipush (n := 410) dX10_silenced_29 (by decide +kernel) ?_
      refine r_iconst (n := 2) dX10_silenced_32 ?_
      refine r_iload_n dX10_silenced_33 rfl (i := 1) rfl ?_
      refine r_imul dX10_silenced_34 ?_
      refine r_iadd dX10_silenced_35 ?_
      refine r_iload_n dX10_silenced_36 rfl (i := 2) rfl ?_
      refine r_iadd dX10_silenced_37 ?_
      obtain ⟨hc5, hT⟩ := hT
      refine rr_iaload (v := I (m + 1) ((410 + (2 * x1)) + x2)) dX10_silenced_38 (wX10_l0 hm) (wX10_a0 hm) (by decide) hc5 rfl ?_
      refine r_goto (tgt := 43) dX10_silenced_39 rfl ?_
      exact r_iret dX10_silenced_43 rfl (hI _ _).inR ⟨Nat.zero_le _, Nat.zero_le _⟩ ⟨_, rfl, rfl, hF, hT⟩
theorem en_X10_silenced {E : jE} {G : jG} {I : jM} {q : Int → jM → Prop} {m : Nat} {x1 : Int} {x2 : Int} (hm : WX10 G m) (hT : (∀ a j, jRg (G.2.1 a).1 (I a j)) → jIn x1 → jIn x2 → jIn ((I (m + 1) 3) - 1) ∧ ((¬ (0 ≤ x1 ∧ x1 ≤ ((I (m + 1) 3) - 1)) → q (-1) I) ∧ ((0 ≤ x1 ∧ x1 ≤ ((I (m + 1) 3) - 1)) → ((¬ (0 ≤ x2 ∧ x2 ≤ 1) → q (-1) I) ∧ ((0 ≤ x2 ∧ x2 ≤ 1) → ((0 : Int) ≤ ((410 + (2 * x1)) + x2) ∧ (((410 + (2 * x1)) + x2) : Int) < 22094) ∧ q (I (m + 1) ((410 + (2 * x1)) + x2)) I))))) : jRI E (jA m) kX10_silenced [VR m, VI x1, VI x2] G I q := jRun.of mt_X10_silenced.2.2.2 0 rfl (fun _ => st_X10_silenced_0 hm hT I (fun _ _ => rfl))
set_option maxRecDepth 20000 in
theorem st_X10_isSilent_0 {E : jE} {G : jG} {I : jM} {q : Int → jM → Prop} {m : Nat} {x1 : Int} (hm : WX10 G m) (hT : (∀ a j, jRg (G.2.1 a).1 (I a j)) → jIn x1 → (0 ≤ I (m + 1) 2 ∧ I (m + 1) 2 ≤ 200) ∧ ((¬ (0 ≤ x1 ∧ x1 < I (m + 1) 2) → q 0 I) ∧ ((0 ≤ x1 ∧ x1 < I (m + 1) 2) → jIn (x1 + 1) ∧ (0 ≤ I (m + 1) 3 ∧ I (m + 1) 3 ≤ 8) ∧ ((¬ (sil (I (m + 1)) x1 (x1 + 1)) → q 0 I) ∧ ((sil (I (m + 1)) x1 (x1 + 1)) → q 1 I))))) : jOI E (jA m) kX10_isSilent 0 [VR m, VI x1] G I q := by
  intro I0 hF
  refine jOk_mem (fun hI => ?_)
  refine jOk_in (i := 1) rfl (fun hx1 => ?_)
  replace hT := hT hI hx1
  refine r_aload_n dX10_isSilent_0 rfl (i := 0) rfl ?_
  refine r_iload_n dX10_isSilent_1 rfl (i := 1) rfl ?_
  obtain ⟨hc2, hT⟩ := hT
  refine rr_pVI (A := (jA m)) (v := jI (0 ≤ x1 ∧ x1 < I (m + 1) 2)) (a := m) (as := [VI x1]) (st := []) dX10_isSilent_2 mt_X10_isPlace ml_X10_323 mi_X10_isPlace rm_X10_isSilent_X10_isPlace jz_X10_isPlace ⟨Nat.zero_le _, Nat.zero_le _⟩ (Nat.le_of_ble_eq_true rfl) (wX10_l hm) (wX10_c hm) (jasI hx1 jas0) ((sp_X10_isPlace hm) hc2) (fun hc1 => ?_)
  refine r_if_eq (tgt := 23) dX10_isSilent_5 rfl hc1 (fun hcc => ?_) (fun hcc => ?_)
  · replace hT := hT.1 (jI_n hcc)
    refine r_iconst (n := 0) dX10_isSilent_23 ?_
    exact r_zret dX10_isSilent_24 rfl ⟨by decide, by decide⟩ ⟨Nat.zero_le _, Nat.zero_le _⟩ ⟨_, rfl, rfl, hF, hT⟩
  · replace hT := hT.2 (jI_p hcc)
    refine r_aload_n dX10_isSilent_8 rfl (i := 0) rfl ?_
    refine r_iload_n dX10_isSilent_9 rfl (i := 1) rfl ?_
    refine r_iload_n dX10_isSilent_10 rfl (i := 1) rfl ?_
    refine r_iconst (n := 1) dX10_isSilent_11 ?_
    refine r_iadd dX10_isSilent_12 ?_
    obtain ⟨hc3, hT⟩ := hT
    obtain ⟨hc5, hT⟩ := hT
    refine rr_pVI (A := (jA m)) (v := jI (sil (I (m + 1)) x1 (x1 + 1))) (a := m) (as := [VI x1, VI (x1 + 1)]) (st := []) dX10_isSilent_13 mt_X10_isSilentSpan ml_X10_193 mi_X10_isSilentSpan rm_X10_isSilent_X10_isSilentSpan jz_X10_isSilentSpan ⟨Nat.zero_le _, Nat.zero_le _⟩ (Nat.le_of_ble_eq_true rfl) (wX10_l hm) (wX10_c hm) (jasI hx1 (jasI hc3 jas0)) ((sp_X10_isSilentSpan hm) hc5) (fun hc4 => ?_)
    refine r_if_eq (tgt := 23) dX10_isSilent_16 rfl hc4 (fun hcc => ?_) (fun hcc => ?_)
    · replace hT := hT.1 (jI_n hcc)
      refine r_iconst (n := 0) dX10_isSilent_23 ?_
      exact r_zret dX10_isSilent_24 rfl ⟨by decide, by decide⟩ ⟨Nat.zero_le _, Nat.zero_le _⟩ ⟨_, rfl, rfl, hF, hT⟩
    · replace hT := hT.2 (jI_p hcc)
      refine r_iconst (n := 1) dX10_isSilent_19 ?_
      refine r_goto (tgt := 24) dX10_isSilent_20 rfl ?_
      exact r_zret dX10_isSilent_24 rfl ⟨by decide, by decide⟩ ⟨Nat.zero_le _, Nat.zero_le _⟩ ⟨_, rfl, rfl, hF, hT⟩
theorem en_X10_isSilent {E : jE} {G : jG} {I : jM} {q : Int → jM → Prop} {m : Nat} {x1 : Int} (hm : WX10 G m) (hT : (∀ a j, jRg (G.2.1 a).1 (I a j)) → jIn x1 → (0 ≤ I (m + 1) 2 ∧ I (m + 1) 2 ≤ 200) ∧ ((¬ (0 ≤ x1 ∧ x1 < I (m + 1) 2) → q 0 I) ∧ ((0 ≤ x1 ∧ x1 < I (m + 1) 2) → jIn (x1 + 1) ∧ (0 ≤ I (m + 1) 3 ∧ I (m + 1) 3 ≤ 8) ∧ ((¬ (sil (I (m + 1)) x1 (x1 + 1)) → q 0 I) ∧ ((sil (I (m + 1)) x1 (x1 + 1)) → q 1 I))))) : jRI E (jA m) kX10_isSilent [VR m, VI x1] G I q := jRun.of mt_X10_isSilent.2.2.2 0 rfl (fun _ => st_X10_isSilent_0 hm hT I (fun _ _ => rfl))
set_option maxRecDepth 20000 in
theorem st_X10_yielding_0 {E : jE} {G : jG} {I : jM} {q : Int → jM → Prop} {m : Nat} {x1 : Int} (hm : WX10 G m) (hT : (∀ a j, jRg (G.2.1 a).1 (I a j)) → jIn x1 → jIn ((I (m + 1) 7) - 1) ∧ ((¬ (0 ≤ x1 ∧ x1 ≤ ((I (m + 1) 7) - 1)) → q (-1) I) ∧ ((0 ≤ x1 ∧ x1 ≤ ((I (m + 1) 7) - 1)) → ((0 : Int) ≤ (426 + (2 * x1)) ∧ ((426 + (2 * x1)) : Int) < 22094) ∧ ((0 : Int) ≤ ((426 + (2 * x1)) + 1) ∧ (((426 + (2 * x1)) + 1) : Int) < 22094) ∧ jIn ((10 * (I (m + 1) (426 + (2 * x1)))) + (I (m + 1) ((426 + (2 * x1)) + 1))) ∧ q ((10 * (I (m + 1) (426 + (2 * x1)))) + (I (m + 1) ((426 + (2 * x1)) + 1))) I))) : jOI E (jA m) kX10_yielding 0 [VR m, VI x1] G I q := by
  intro I0 hF
  refine jOk_mem (fun hI => ?_)
  refine jOk_in (i := 1) rfl (fun hx1 => ?_)
  replace hT := hT hI hx1
  refine r_iload_n dX10_yielding_0 rfl (i := 1) rfl ?_
  refine r_iconst (n := 0) dX10_yielding_1 ?_
  refine r_aload_n dX10_yielding_2 rfl (i := 0) rfl ?_
  refine rr_getR (b := (m + 1)) dX10_yielding_3 fg_X10_7 rfl rfl (wX10_l hm) (wX10_s hm) (wX10_r0 hm) ?_
  refine r_bipush (n := 7) dX10_yielding_6 (by decide +kernel) ?_
  refine rr_iaload (v := I (m + 1) 7) dX10_yielding_8 (wX10_l0 hm) (wX10_a0 hm) (by decide) ⟨by decide, by decide⟩ rfl ?_
  refine r_iconst (n := 1) dX10_yielding_9 ?_
  refine r_isub dX10_yielding_10 ?_
  obtain ⟨hc2, hT⟩ := hT
  refine rr_pSI (A := (jA m)) (v := jI (0 ≤ x1 ∧ x1 ≤ ((I (m + 1) 7) - 1))) (as := [VI x1, VI 0, VI ((I (m + 1) 7) - 1)]) (st := []) dX10_yielding_11 mt_X10_isIn ml_X10_103 ms_X10_isIn rm_X10_yielding_X10_isIn jz_X10_isIn ⟨Nat.zero_le _, Nat.zero_le _⟩ (Nat.le_of_ble_eq_true rfl) (jasI hx1 (jasI ⟨by decide, by decide⟩ (jasI hc2 jas0))) sp_X10_isIn (fun hc3 => ?_)
  refine r_if_eq (tgt := 50) dX10_yielding_14 rfl hc3 (fun hcc => ?_) (fun hcc => ?_)
  · replace hT := hT.1 (jI_n hcc)
    refine r_iconst (n := (-1)) dX10_yielding_50 ?_
    exact r_iret dX10_yielding_51 rfl ⟨by decide, by decide⟩ ⟨Nat.zero_le _, Nat.zero_le _⟩ ⟨_, rfl, rfl, hF, hT⟩
  · replace hT := hT.2 (jI_p hcc)
    refine r_bipush (n := 10) dX10_yielding_17 (by decide +kernel) ?_
    refine r_aload_n dX10_yielding_19 rfl (i := 0) rfl ?_
    refine rr_getR (b := (m + 1)) dX10_yielding_20 fg_X10_7 rfl rfl (wX10_l hm) (wX10_s hm) (wX10_r0 hm) ?_
    refine r_sipush (n := 426) dX10_yielding_23 (by decide +kernel) ?_
    refine r_iconst (n := 2) dX10_yielding_26 ?_
    refine r_iload_n dX10_yielding_27 rfl (i := 1) rfl ?_
    refine r_imul dX10_yielding_28 ?_
    refine r_iadd dX10_yielding_29 ?_
    obtain ⟨hc4, hT⟩ := hT
    refine rr_iaload (v := I (m + 1) (426 + (2 * x1))) dX10_yielding_30 (wX10_l0 hm) (wX10_a0 hm) (by decide) hc4 rfl ?_
    refine r_imul dX10_yielding_31 ?_
    refine r_aload_n dX10_yielding_32 rfl (i := 0) rfl ?_
    refine rr_getR (b := (m + 1)) dX10_yielding_33 fg_X10_7 rfl rfl (wX10_l hm) (wX10_s hm) (wX10_r0 hm) ?_
    refine r_sipush (n := 426) dX10_yielding_36 (by decide +kernel) ?_
    refine r_iconst (n := 2) dX10_yielding_39 ?_
    refine r_iload_n dX10_yielding_40 rfl (i := 1) rfl ?_
    refine r_imul dX10_yielding_41 ?_
    refine r_iadd dX10_yielding_42 ?_
    refine r_iconst (n := 1) dX10_yielding_43 ?_
    refine r_iadd dX10_yielding_44 ?_
    obtain ⟨hc5, hT⟩ := hT
    refine rr_iaload (v := I (m + 1) ((426 + (2 * x1)) + 1)) dX10_yielding_45 (wX10_l0 hm) (wX10_a0 hm) (by decide) hc5 rfl ?_
    refine r_iadd dX10_yielding_46 ?_
    refine r_goto (tgt := 51) dX10_yielding_47 rfl ?_
    obtain ⟨hc6, hT⟩ := hT
    exact r_iret dX10_yielding_51 rfl hc6 ⟨Nat.zero_le _, Nat.zero_le _⟩ ⟨_, rfl, rfl, hF, hT⟩
theorem en_X10_yielding {E : jE} {G : jG} {I : jM} {q : Int → jM → Prop} {m : Nat} {x1 : Int} (hm : WX10 G m) (hT : (∀ a j, jRg (G.2.1 a).1 (I a j)) → jIn x1 → jIn ((I (m + 1) 7) - 1) ∧ ((¬ (0 ≤ x1 ∧ x1 ≤ ((I (m + 1) 7) - 1)) → q (-1) I) ∧ ((0 ≤ x1 ∧ x1 ≤ ((I (m + 1) 7) - 1)) → ((0 : Int) ≤ (426 + (2 * x1)) ∧ ((426 + (2 * x1)) : Int) < 22094) ∧ ((0 : Int) ≤ ((426 + (2 * x1)) + 1) ∧ (((426 + (2 * x1)) + 1) : Int) < 22094) ∧ jIn ((10 * (I (m + 1) (426 + (2 * x1)))) + (I (m + 1) ((426 + (2 * x1)) + 1))) ∧ q ((10 * (I (m + 1) (426 + (2 * x1)))) + (I (m + 1) ((426 + (2 * x1)) + 1))) I))) : jRI E (jA m) kX10_yielding [VR m, VI x1] G I q := jRun.of mt_X10_yielding.2.2.2 0 rfl (fun _ => st_X10_yielding_0 hm hT I (fun _ _ => rfl))
set_option maxRecDepth 20000 in
theorem st_X10_paint_0 {E : jE} {G : jG} {I : jM} {q : Int → jM → Prop} {m : Nat} {x1 : Int} (hm : WX10 G m) (hT : (∀ a j, jRg (G.2.1 a).1 (I a j)) → jIn x1 → (0 ≤ I (m + 1) 2 ∧ I (m + 1) 2 ≤ 200) ∧ ((¬ (0 ≤ x1 ∧ x1 < I (m + 1) 2) → q (-1) I) ∧ ((0 ≤ x1 ∧ x1 < I (m + 1) 2) → ((0 : Int) ≤ (210 + x1) ∧ ((210 + x1) : Int) < 22094) ∧ jIn ((I (m + 1) (210 + x1)) - 1) ∧ q ((I (m + 1) (210 + x1)) - 1) I))) : jOI E (jA m) kX10_paint 0 [VR m, VI x1] G I q := by
  intro I0 hF
  refine jOk_mem (fun hI => ?_)
  refine jOk_in (i := 1) rfl (fun hx1 => ?_)
  replace hT := hT hI hx1
  refine r_aload_n dX10_paint_0 rfl (i := 0) rfl ?_
  refine r_iload_n dX10_paint_1 rfl (i := 1) rfl ?_
  obtain ⟨hc2, hT⟩ := hT
  refine rr_pVI (A := (jA m)) (v := jI (0 ≤ x1 ∧ x1 < I (m + 1) 2)) (a := m) (as := [VI x1]) (st := []) dX10_paint_2 mt_X10_isPlace ml_X10_323 mi_X10_isPlace rm_X10_paint_X10_isPlace jz_X10_isPlace ⟨Nat.zero_le _, Nat.zero_le _⟩ (Nat.le_of_ble_eq_true rfl) (wX10_l hm) (wX10_c hm) (jasI hx1 jas0) ((sp_X10_isPlace hm) hc2) (fun hc1 => ?_)
  refine r_if_eq (tgt := 23) dX10_paint_5 rfl hc1 (fun hcc => ?_) (fun hcc => ?_)
  · replace hT := hT.1 (jI_n hcc)
    refine r_iconst (n := (-1)) dX10_paint_23 ?_
    exact r_iret dX10_paint_24 rfl ⟨by decide, by decide⟩ ⟨Nat.zero_le _, Nat.zero_le _⟩ ⟨_, rfl, rfl, hF, hT⟩
  · replace hT := hT.2 (jI_p hcc)
    refine r_aload_n dX10_paint_8 rfl (i := 0) rfl ?_
    refine rr_getR (b := (m + 1)) dX10_paint_9 fg_X10_7 rfl rfl (wX10_l hm) (wX10_s hm) (wX10_r0 hm) ?_
    refine r_sipush (n := 210) dX10_paint_12 (by decide +kernel) ?_
    refine r_iload_n dX10_paint_15 rfl (i := 1) rfl ?_
    refine r_iadd dX10_paint_16 ?_
    obtain ⟨hc3, hT⟩ := hT
    refine rr_iaload (v := I (m + 1) (210 + x1)) dX10_paint_17 (wX10_l0 hm) (wX10_a0 hm) (by decide) hc3 rfl ?_
    refine r_iconst (n := 1) dX10_paint_18 ?_
    refine r_isub dX10_paint_19 ?_
    refine r_goto (tgt := 24) dX10_paint_20 rfl ?_
    obtain ⟨hc4, hT⟩ := hT
    exact r_iret dX10_paint_24 rfl hc4 ⟨Nat.zero_le _, Nat.zero_le _⟩ ⟨_, rfl, rfl, hF, hT⟩
theorem en_X10_paint {E : jE} {G : jG} {I : jM} {q : Int → jM → Prop} {m : Nat} {x1 : Int} (hm : WX10 G m) (hT : (∀ a j, jRg (G.2.1 a).1 (I a j)) → jIn x1 → (0 ≤ I (m + 1) 2 ∧ I (m + 1) 2 ≤ 200) ∧ ((¬ (0 ≤ x1 ∧ x1 < I (m + 1) 2) → q (-1) I) ∧ ((0 ≤ x1 ∧ x1 < I (m + 1) 2) → ((0 : Int) ≤ (210 + x1) ∧ ((210 + x1) : Int) < 22094) ∧ jIn ((I (m + 1) (210 + x1)) - 1) ∧ q ((I (m + 1) (210 + x1)) - 1) I))) : jRI E (jA m) kX10_paint [VR m, VI x1] G I q := jRun.of mt_X10_paint.2.2.2 0 rfl (fun _ => st_X10_paint_0 hm hT I (fun _ _ => rfl))
set_option maxRecDepth 20000 in
theorem st_X10_painted_14 {E : jE} {G : jG} {I : jM} {q : Int → jM → Prop} {m : Nat} {x1 : Int} {x2 : Int} {x3 : Int} (hm : WX10 G m) (hT : (∀ a j, jRg (G.2.1 a).1 (I a j)) → jIn x1 → jIn x2 → jIn x3 → (((I (m + 1) 2) ≤ x3 → q x2 I) ∧ (¬ (I (m + 1) 2) ≤ x3 → ((0 : Int) ≤ (210 + x3) ∧ ((210 + x3) : Int) < 22094) ∧ jIn (x1 + 1) ∧ ((¬ (I (m + 1) (210 + x3)) = (x1 + 1) → jIn (x2 + 0) ∧ jIn (x3 + 1) ∧ jOI E (jA m) kX10_painted 14 [VR m, VI x1, VI (x2 + 0), VI (x3 + 1)] G I q) ∧ ((I (m + 1) (210 + x3)) = (x1 + 1) → jIn (x2 + 1) ∧ jIn (x3 + 1) ∧ jOI E (jA m) kX10_painted 14 [VR m, VI x1, VI (x2 + 1), VI (x3 + 1)] G I q))))) : jOI E (jA m) kX10_painted 14 [VR m, VI x1, VI x2, VI x3] G I q := by
  intro I0 hF
  refine jOk_mem (fun hI => ?_)
  refine jOk_in (i := 1) rfl (fun hx1 => ?_)
  refine jOk_in (i := 2) rfl (fun hx2 => ?_)
  refine jOk_in (i := 3) rfl (fun hx3 => ?_)
  replace hT := hT hI hx1 hx2 hx3
  refine r_iload_n dX10_painted_14 rfl (i := 3) rfl ?_
  refine r_aload_n dX10_painted_15 rfl (i := 0) rfl ?_
  refine rr_getR (b := (m + 1)) dX10_painted_16 fg_X10_7 rfl rfl (wX10_l hm) (wX10_s hm) (wX10_r0 hm) ?_
  refine r_iconst (n := 2) dX10_painted_19 ?_
  refine rr_iaload (v := I (m + 1) 2) dX10_painted_20 (wX10_l0 hm) (wX10_a0 hm) (by decide) ⟨by decide, by decide⟩ rfl ?_
  refine r_icmp_ge (tgt := 54) dX10_painted_21 rfl hx3 (hI _ _).inR (fun hcc => ?_) (fun hcc => ?_)
  · replace hT := hT.1 hcc
    refine r_iload_n dX10_painted_54 rfl (i := 2) rfl ?_
    exact r_iret dX10_painted_55 rfl hx2 ⟨Nat.zero_le _, Nat.zero_le _⟩ ⟨_, rfl, rfl, hF, hT⟩
  · replace hT := hT.2 hcc
    refine r_iload_n dX10_painted_24 rfl (i := 2) rfl ?_
    refine r_aload_n dX10_painted_25 rfl (i := 0) rfl ?_
    refine rr_getR (b := (m + 1)) dX10_painted_26 fg_X10_7 rfl rfl (wX10_l hm) (wX10_s hm) (wX10_r0 hm) ?_
    refine r_sipush (n := 210) dX10_painted_29 (by decide +kernel) ?_
    refine r_iload_n dX10_painted_32 rfl (i := 3) rfl ?_
    refine r_iadd dX10_painted_33 ?_
    obtain ⟨hc2, hT⟩ := hT
    refine rr_iaload (v := I (m + 1) (210 + x3)) dX10_painted_34 (wX10_l0 hm) (wX10_a0 hm) (by decide) hc2 rfl ?_
    refine r_iload_n dX10_painted_35 rfl (i := 1) rfl ?_
    refine r_iconst (n := 1) dX10_painted_36 ?_
    refine r_iadd dX10_painted_37 ?_
    obtain ⟨hc3, hT⟩ := hT
    refine r_icmp_ne (tgt := 45) dX10_painted_38 rfl (hI _ _).inR hc3 (fun hcc => ?_) (fun hcc => ?_)
    · replace hT := hT.1 hcc
      refine r_iconst (n := 0) dX10_painted_45 ?_
      refine r_iadd dX10_painted_46 ?_
      obtain ⟨hc4, hT⟩ := hT
      refine rr_istore_n (i := 2) (ls' := [VR m, VI x1, VI (x2 + 0), VI x3]) dX10_painted_47 rfl (Nat.le_of_ble_eq_true rfl) rfl rfl hc4 ?_
      obtain ⟨hc5, hT⟩ := hT
      refine rr_iinc (i := 3) (ls' := [VR m, VI x1, VI (x2 + 0), VI (x3 + 1)]) dX10_painted_48 rfl (Nat.le_of_ble_eq_true rfl) rfl rfl hc5 ?_
      refine r_goto (tgt := 14) dX10_painted_51 rfl ?_
      exact hT I0 hF
    · replace hT := hT.2 hcc
      refine r_iconst (n := 1) dX10_painted_41 ?_
      refine r_goto (tgt := 46) dX10_painted_42 rfl ?_
      refine r_iadd dX10_painted_46 ?_
      obtain ⟨hc6, hT⟩ := hT
      refine rr_istore_n (i := 2) (ls' := [VR m, VI x1, VI (x2 + 1), VI x3]) dX10_painted_47 rfl (Nat.le_of_ble_eq_true rfl) rfl rfl hc6 ?_
      obtain ⟨hc7, hT⟩ := hT
      refine rr_iinc (i := 3) (ls' := [VR m, VI x1, VI (x2 + 1), VI (x3 + 1)]) dX10_painted_48 rfl (Nat.le_of_ble_eq_true rfl) rfl rfl hc7 ?_
      refine r_goto (tgt := 14) dX10_painted_51 rfl ?_
      exact hT I0 hF
set_option maxRecDepth 20000 in
theorem st_X10_painted_0 {E : jE} {G : jG} {I : jM} {q : Int → jM → Prop} {m : Nat} {x1 : Int} (hm : WX10 G m) (hT : (∀ a j, jRg (G.2.1 a).1 (I a j)) → jIn x1 → (0 ≤ I (m + 1) 4 ∧ I (m + 1) 4 ≤ 6) ∧ (((0 ≤ x1 ∧ x1 < I (m + 1) 4) → jOI E (jA m) kX10_painted 14 [VR m, VI x1, VI 0, VI 0] G I q) ∧ (¬ (0 ≤ x1 ∧ x1 < I (m + 1) 4) → q (-1) I))) : jOI E (jA m) kX10_painted 0 [VR m, VI x1, VN, VN] G I q := by
  intro I0 hF
  refine jOk_mem (fun hI => ?_)
  refine jOk_in (i := 1) rfl (fun hx1 => ?_)
  replace hT := hT hI hx1
  refine r_aload_n dX10_painted_0 rfl (i := 0) rfl ?_
  refine r_iload_n dX10_painted_1 rfl (i := 1) rfl ?_
  obtain ⟨hc2, hT⟩ := hT
  refine rr_pVI (A := (jA m)) (v := jI (0 ≤ x1 ∧ x1 < I (m + 1) 4)) (a := m) (as := [VI x1]) (st := []) dX10_painted_2 mt_X10_isRule ml_X10_317 mi_X10_isRule rm_X10_painted_X10_isRule jz_X10_isRule ⟨Nat.zero_le _, Nat.zero_le _⟩ (Nat.le_of_ble_eq_true rfl) (wX10_l hm) (wX10_c hm) (jasI hx1 jas0) ((sp_X10_isRule hm) hc2) (fun hc1 => ?_)
  refine r_if_ne (tgt := 10) dX10_painted_5 rfl hc1 (fun hcc => ?_) (fun hcc => ?_)
  · replace hT := hT.1 (jI_p hcc)
    refine r_iconst (n := 0) dX10_painted_10 ?_
    refine rr_istore_n (i := 2) (ls' := [VR m, VI x1, VI 0, VN]) dX10_painted_11 rfl (Nat.le_of_ble_eq_true rfl) rfl rfl ⟨by decide, by decide⟩ ?_
    refine r_iconst (n := 0) dX10_painted_12 ?_
    refine rr_istore_n (i := 3) (ls' := [VR m, VI x1, VI 0, VI 0]) dX10_painted_13 rfl (Nat.le_of_ble_eq_true rfl) rfl rfl ⟨by decide, by decide⟩ ?_
    exact hT I0 hF
  · replace hT := hT.2 (jI_n hcc)
    refine r_iconst (n := (-1)) dX10_painted_8 ?_
    exact r_iret dX10_painted_9 rfl ⟨by decide, by decide⟩ ⟨Nat.zero_le _, Nat.zero_le _⟩ ⟨_, rfl, rfl, hF, hT⟩
theorem en_X10_painted {E : jE} {G : jG} {I : jM} {q : Int → jM → Prop} {m : Nat} {x1 : Int} (hm : WX10 G m) (hT : (∀ a j, jRg (G.2.1 a).1 (I a j)) → jIn x1 → (0 ≤ I (m + 1) 4 ∧ I (m + 1) 4 ≤ 6) ∧ (((0 ≤ x1 ∧ x1 < I (m + 1) 4) → jOI E (jA m) kX10_painted 14 [VR m, VI x1, VI 0, VI 0] G I q) ∧ (¬ (0 ≤ x1 ∧ x1 < I (m + 1) 4) → q (-1) I))) : jRI E (jA m) kX10_painted [VR m, VI x1] G I q := jRun.of mt_X10_painted.2.2.2 2 rfl (fun _ => st_X10_painted_0 hm hT I (fun _ _ => rfl))
set_option maxRecDepth 20000 in
theorem st_X10_book_0 {E : jE} {G : jG} {I : jM} {q : Int → jM → Prop} {m : Nat} {x1 : Int} {x2 : Int} (hm : WX10 G m) (hT : (∀ a j, jRg (G.2.1 a).1 (I a j)) → jIn x1 → jIn x2 → ((¬ x1 = (-1) → jIn ((I (m + 1) 9) - 1) ∧ ((¬ (0 ≤ x1 ∧ x1 ≤ ((I (m + 1) 9) - 1)) → q (-2) I) ∧ ((0 ≤ x1 ∧ x1 ≤ ((I (m + 1) 9) - 1)) → ((¬ (0 ≤ x2 ∧ x2 ≤ 2) → q (-2) I) ∧ ((0 ≤ x2 ∧ x2 ≤ 2) → ((0 : Int) ≤ ((442 + (3 * x1)) + x2) ∧ (((442 + (3 * x1)) + x2) : Int) < 22094) ∧ q (I (m + 1) ((442 + (3 * x1)) + x2)) I))))) ∧ (x1 = (-1) → q (I (m + 1) 9) I))) : jOI E (jA m) kX10_book 0 [VR m, VI x1, VI x2] G I q := by
  intro I0 hF
  refine jOk_mem (fun hI => ?_)
  refine jOk_in (i := 1) rfl (fun hx1 => ?_)
  refine jOk_in (i := 2) rfl (fun hx2 => ?_)
  replace hT := hT hI hx1 hx2
  refine r_iload_n dX10_book_0 rfl (i := 1) rfl ?_
  refine r_iconst (n := (-1)) dX10_book_1 ?_
  refine r_icmp_ne (tgt := 13) dX10_book_2 rfl hx1 ⟨by decide, by decide⟩ (fun hcc => ?_) (fun hcc => ?_)
  · replace hT := hT.1 hcc
    refine r_iload_n dX10_book_13 rfl (i := 1) rfl ?_
    refine r_iconst (n := 0) dX10_book_14 ?_
    refine r_aload_n dX10_book_15 rfl (i := 0) rfl ?_
    refine rr_getR (b := (m + 1)) dX10_book_16 fg_X10_7 rfl rfl (wX10_l hm) (wX10_s hm) (wX10_r0 hm) ?_
    refine r_bipush (n := 9) dX10_book_19 (by decide +kernel) ?_
    refine rr_iaload (v := I (m + 1) 9) dX10_book_21 (wX10_l0 hm) (wX10_a0 hm) (by decide) ⟨by decide, by decide⟩ rfl ?_
    refine r_iconst (n := 1) dX10_book_22 ?_
    refine r_isub dX10_book_23 ?_
    obtain ⟨hc2, hT⟩ := hT
    refine rr_pSI (A := (jA m)) (v := jI (0 ≤ x1 ∧ x1 ≤ ((I (m + 1) 9) - 1))) (as := [VI x1, VI 0, VI ((I (m + 1) 9) - 1)]) (st := []) dX10_book_24 mt_X10_isIn ml_X10_103 ms_X10_isIn rm_X10_book_X10_isIn jz_X10_isIn ⟨Nat.zero_le _, Nat.zero_le _⟩ (Nat.le_of_ble_eq_true rfl) (jasI hx1 (jasI ⟨by decide, by decide⟩ (jasI hc2 jas0))) sp_X10_isIn (fun hc3 => ?_)
    refine r_if_eq (tgt := 56) dX10_book_27 rfl hc3 (fun hcc => ?_) (fun hcc => ?_)
    · replace hT := hT.1 (jI_n hcc)
      refine r_bipush (n := (-2)) dX10_book_56 (by decide +kernel) ?_
      exact r_iret dX10_book_58 rfl ⟨by decide, by decide⟩ ⟨Nat.zero_le _, Nat.zero_le _⟩ ⟨_, rfl, rfl, hF, hT⟩
    · replace hT := hT.2 (jI_p hcc)
      refine r_iload_n dX10_book_30 rfl (i := 2) rfl ?_
      refine r_iconst (n := 0) dX10_book_31 ?_
      refine r_iconst (n := 2) dX10_book_32 ?_
      refine rr_pSI (A := (jA m)) (v := jI (0 ≤ x2 ∧ x2 ≤ 2)) (as := [VI x2, VI 0, VI 2]) (st := []) dX10_book_33 mt_X10_isIn ml_X10_103 ms_X10_isIn rm_X10_book_X10_isIn jz_X10_isIn ⟨Nat.zero_le _, Nat.zero_le _⟩ (Nat.le_of_ble_eq_true rfl) (jasI hx2 (jasI ⟨by decide, by decide⟩ (jasI ⟨by decide, by decide⟩ jas0))) sp_X10_isIn (fun hc4 => ?_)
      refine r_if_eq (tgt := 56) dX10_book_36 rfl hc4 (fun hcc => ?_) (fun hcc => ?_)
      · replace hT := hT.1 (jI_n hcc)
        refine r_bipush (n := (-2)) dX10_book_56 (by decide +kernel) ?_
        exact r_iret dX10_book_58 rfl ⟨by decide, by decide⟩ ⟨Nat.zero_le _, Nat.zero_le _⟩ ⟨_, rfl, rfl, hF, hT⟩
      · replace hT := hT.2 (jI_p hcc)
        refine r_aload_n dX10_book_39 rfl (i := 0) rfl ?_
        refine rr_getR (b := (m + 1)) dX10_book_40 fg_X10_7 rfl rfl (wX10_l hm) (wX10_s hm) (wX10_r0 hm) ?_
        refine r_sipush (n := 442) dX10_book_43 (by decide +kernel) ?_
        refine r_iconst (n := 3) dX10_book_46 ?_
        refine r_iload_n dX10_book_47 rfl (i := 1) rfl ?_
        refine r_imul dX10_book_48 ?_
        refine r_iadd dX10_book_49 ?_
        refine r_iload_n dX10_book_50 rfl (i := 2) rfl ?_
        refine r_iadd dX10_book_51 ?_
        obtain ⟨hc5, hT⟩ := hT
        refine rr_iaload (v := I (m + 1) ((442 + (3 * x1)) + x2)) dX10_book_52 (wX10_l0 hm) (wX10_a0 hm) (by decide) hc5 rfl ?_
        refine r_goto (tgt := 58) dX10_book_53 rfl ?_
        exact r_iret dX10_book_58 rfl (hI _ _).inR ⟨Nat.zero_le _, Nat.zero_le _⟩ ⟨_, rfl, rfl, hF, hT⟩
  · replace hT := hT.2 hcc
    refine r_aload_n dX10_book_5 rfl (i := 0) rfl ?_
    refine rr_getR (b := (m + 1)) dX10_book_6 fg_X10_7 rfl rfl (wX10_l hm) (wX10_s hm) (wX10_r0 hm) ?_
    refine r_bipush (n := 9) dX10_book_9 (by decide +kernel) ?_
    refine rr_iaload (v := I (m + 1) 9) dX10_book_11 (wX10_l0 hm) (wX10_a0 hm) (by decide) ⟨by decide, by decide⟩ rfl ?_
    exact r_iret dX10_book_12 rfl (hI _ _).inR ⟨Nat.zero_le _, Nat.zero_le _⟩ ⟨_, rfl, rfl, hF, hT⟩
theorem en_X10_book {E : jE} {G : jG} {I : jM} {q : Int → jM → Prop} {m : Nat} {x1 : Int} {x2 : Int} (hm : WX10 G m) (hT : (∀ a j, jRg (G.2.1 a).1 (I a j)) → jIn x1 → jIn x2 → ((¬ x1 = (-1) → jIn ((I (m + 1) 9) - 1) ∧ ((¬ (0 ≤ x1 ∧ x1 ≤ ((I (m + 1) 9) - 1)) → q (-2) I) ∧ ((0 ≤ x1 ∧ x1 ≤ ((I (m + 1) 9) - 1)) → ((¬ (0 ≤ x2 ∧ x2 ≤ 2) → q (-2) I) ∧ ((0 ≤ x2 ∧ x2 ≤ 2) → ((0 : Int) ≤ ((442 + (3 * x1)) + x2) ∧ (((442 + (3 * x1)) + x2) : Int) < 22094) ∧ q (I (m + 1) ((442 + (3 * x1)) + x2)) I))))) ∧ (x1 = (-1) → q (I (m + 1) 9) I))) : jRI E (jA m) kX10_book [VR m, VI x1, VI x2] G I q := jRun.of mt_X10_book.2.2.2 0 rfl (fun _ => st_X10_book_0 hm hT I (fun _ _ => rfl))
set_option maxRecDepth 20000 in
theorem st_X10_common_57 {E : jE} {G : jG} {I : jM} {q : Int → jM → Prop} {m : Nat} {x1 : Int} {x2 : Int} {x3 : Int} {x4 : Int} {x5 : Int} {x6 : Int} (hm : WX10 G m) (hT : (∀ a j, jRg (G.2.1 a).1 (I a j)) → jIn x1 → jIn x2 → jIn x3 → jIn x4 → jIn x5 → jIn x6 → (((I m 4) ≤ x6 → ((x3 < x5 → jIn (x4 + 1) ∧ jOI E (jA m) kX10_common 22 [VR m, VI x1, VI x4, VI x5, VI (x4 + 1), VN, VN] G I q) ∧ (¬ x3 < x5 → jIn (x4 + 1) ∧ jOI E (jA m) kX10_common 22 [VR m, VI x1, VI x2, VI x3, VI (x4 + 1), VN, VN] G I q))) ∧ (¬ (I m 4) ≤ x6 → jRI E (jA m) kX10_areLike [VR m, VI x4, VI x6] G I (fun r4 I3 => ((r4 = 0 → jIn (x5 + 0) ∧ jIn (x6 + 1) ∧ jOI E (jA m) kX10_common 57 [VR m, VI x1, VI x2, VI x3, VI x4, VI (x5 + 0), VI (x6 + 1)] G I3 q) ∧ (¬ r4 = 0 → jIn (x5 + 1) ∧ jIn (x6 + 1) ∧ jOI E (jA m) kX10_common 57 [VR m, VI x1, VI x2, VI x3, VI x4, VI (x5 + 1), VI (x6 + 1)] G I3 q)))))) : jOI E (jA m) kX10_common 57 [VR m, VI x1, VI x2, VI x3, VI x4, VI x5, VI x6] G I q := by
  intro I0 hF
  refine jOk_mem (fun hI => ?_)
  refine jOk_in (i := 1) rfl (fun hx1 => ?_)
  refine jOk_in (i := 2) rfl (fun hx2 => ?_)
  refine jOk_in (i := 3) rfl (fun hx3 => ?_)
  refine jOk_in (i := 4) rfl (fun hx4 => ?_)
  refine jOk_in (i := 5) rfl (fun hx5 => ?_)
  refine jOk_in (i := 6) rfl (fun hx6 => ?_)
  replace hT := hT hI hx1 hx2 hx3 hx4 hx5 hx6
  refine r_iload dX10_common_57 (i := 6) rfl ?_
  refine r_aload_n dX10_common_59 rfl (i := 0) rfl ?_
  refine rr_getI (v := I m 4) dX10_common_60 fg_X10_117 rfl (wX10_l hm) (wX10_s hm) rfl ?_
  refine r_icmp_ge (tgt := 93) dX10_common_63 rfl hx6 (hI _ _).inR (fun hcc => ?_) (fun hcc => ?_)
  · replace hT := hT.1 hcc
    refine r_iload dX10_common_93 (i := 5) rfl ?_
    refine r_iload_n dX10_common_95 rfl (i := 3) rfl ?_
    refine r_icmp_gt (tgt := 102) dX10_common_96 rfl hx5 hx3 (fun hcc => ?_) (fun hcc => ?_)
    · replace hT := hT.1 hcc
      refine r_iload dX10_common_102 (i := 4) rfl ?_
      refine rr_istore_n (i := 2) (ls' := [VR m, VI x1, VI x4, VI x3, VI x4, VI x5, VI x6]) dX10_common_104 rfl (Nat.le_of_ble_eq_true rfl) rfl rfl hx4 ?_
      refine r_iload dX10_common_105 (i := 5) rfl ?_
      refine rr_istore_n (i := 3) (ls' := [VR m, VI x1, VI x4, VI x5, VI x4, VI x5, VI x6]) dX10_common_107 rfl (Nat.le_of_ble_eq_true rfl) rfl rfl hx5 ?_
      obtain ⟨hc1, hT⟩ := hT
      refine rr_iinc (i := 4) (ls' := [VR m, VI x1, VI x4, VI x5, VI (x4 + 1), VI x5, VI x6]) dX10_common_108 rfl (Nat.le_of_ble_eq_true rfl) rfl rfl hc1 ?_
      refine r_goto (tgt := 22) dX10_common_111 rfl ?_
      exact jOk_le (ls' := [VR m, VI x1, VI x4, VI x5, VI (x4 + 1), VN, VN]) ⟨Or.inr rfl, Or.inr rfl, Or.inr rfl, Or.inr rfl, Or.inr rfl, Or.inl rfl, Or.inl rfl, trivial⟩ (hT I0 hF)
    · replace hT := hT.2 hcc
      refine r_goto (tgt := 108) dX10_common_99 rfl ?_
      obtain ⟨hc2, hT⟩ := hT
      refine rr_iinc (i := 4) (ls' := [VR m, VI x1, VI x2, VI x3, VI (x4 + 1), VI x5, VI x6]) dX10_common_108 rfl (Nat.le_of_ble_eq_true rfl) rfl rfl hc2 ?_
      refine r_goto (tgt := 22) dX10_common_111 rfl ?_
      exact jOk_le (ls' := [VR m, VI x1, VI x2, VI x3, VI (x4 + 1), VN, VN]) ⟨Or.inr rfl, Or.inr rfl, Or.inr rfl, Or.inr rfl, Or.inr rfl, Or.inl rfl, Or.inl rfl, trivial⟩ (hT I0 hF)
  · replace hT := hT.2 hcc
    refine r_iload dX10_common_66 (i := 5) rfl ?_
    refine r_aload_n dX10_common_68 rfl (i := 0) rfl ?_
    refine r_iload dX10_common_69 (i := 4) rfl ?_
    refine r_iload dX10_common_71 (i := 6) rfl ?_
    refine rr_cVI (a := m) (as := [VI x4, VI x6]) (st := [VI x5]) dX10_common_73 mt_X10_areLike ml_X10_135 mi_X10_areLike rm_X10_common_X10_areLike jz_X10_areLike ⟨Nat.zero_le _, Nat.zero_le _⟩ (Nat.le_of_ble_eq_true rfl) (wX10_l hm) (wX10_c hm) (jasI hx4 (jasI hx6 jas0)) hT (fun r4 I3 hc5 hFI3 hT => ?_)
    replace hFI3 := jFr_tr hF hFI3
    refine jOk_mem (fun hI3 => ?_)
    refine r_if_eq (tgt := 83) dX10_common_76 rfl hc5 (fun hcc => ?_) (fun hcc => ?_)
    · replace hT := hT.1 hcc
      refine r_iconst (n := 0) dX10_common_83 ?_
      refine r_iadd dX10_common_84 ?_
      obtain ⟨hc6, hT⟩ := hT
      refine rr_istore (i := 5) (ls' := [VR m, VI x1, VI x2, VI x3, VI x4, VI (x5 + 0), VI x6]) dX10_common_85 (Nat.le_of_ble_eq_true rfl) rfl rfl hc6 ?_
      obtain ⟨hc7, hT⟩ := hT
      refine rr_iinc (i := 6) (ls' := [VR m, VI x1, VI x2, VI x3, VI x4, VI (x5 + 0), VI (x6 + 1)]) dX10_common_87 rfl (Nat.le_of_ble_eq_true rfl) rfl rfl hc7 ?_
      refine r_goto (tgt := 57) dX10_common_90 rfl ?_
      exact hT I0 hFI3
    · replace hT := hT.2 hcc
      refine r_iconst (n := 1) dX10_common_79 ?_
      refine r_goto (tgt := 84) dX10_common_80 rfl ?_
      refine r_iadd dX10_common_84 ?_
      obtain ⟨hc8, hT⟩ := hT
      refine rr_istore (i := 5) (ls' := [VR m, VI x1, VI x2, VI x3, VI x4, VI (x5 + 1), VI x6]) dX10_common_85 (Nat.le_of_ble_eq_true rfl) rfl rfl hc8 ?_
      obtain ⟨hc9, hT⟩ := hT
      refine rr_iinc (i := 6) (ls' := [VR m, VI x1, VI x2, VI x3, VI x4, VI (x5 + 1), VI (x6 + 1)]) dX10_common_87 rfl (Nat.le_of_ble_eq_true rfl) rfl rfl hc9 ?_
      refine r_goto (tgt := 57) dX10_common_90 rfl ?_
      exact hT I0 hFI3
set_option maxRecDepth 20000 in
theorem st_X10_common_22 {E : jE} {G : jG} {I : jM} {q : Int → jM → Prop} {m : Nat} {x1 : Int} {x2 : Int} {x3 : Int} {x4 : Int} (hm : WX10 G m) (hT : (∀ a j, jRg (G.2.1 a).1 (I a j)) → jIn x1 → jIn x2 → jIn x3 → jIn x4 → (((I m 4) ≤ x4 → ((x1 = 0 → q x2 I) ∧ (¬ x1 = 0 → ((¬ x2 = (-1) → q x3 I) ∧ (x2 = (-1) → q x2 I))))) ∧ (¬ (I m 4) ≤ x4 → ((0 : Int) ≤ x4 ∧ (x4 : Int) < 200) ∧ (0 ≤ 10 + (I (m + 3) x4) ∧ 10 + (I (m + 3) x4) < 22094) ∧ (((srt (I (m + 1) (10 + (I (m + 3) x4)))) = 0 → jOI E (jA m) kX10_common 57 [VR m, VI x1, VI x2, VI x3, VI x4, VI 0, VI 0] G I q) ∧ (¬ (srt (I (m + 1) (10 + (I (m + 3) x4)))) = 0 → jIn (x4 + 1) ∧ jOI E (jA m) kX10_common 22 [VR m, VI x1, VI x2, VI x3, VI (x4 + 1), VN, VN] G I q))))) : jOI E (jA m) kX10_common 22 [VR m, VI x1, VI x2, VI x3, VI x4, VN, VN] G I q := by
  intro I0 hF
  refine jOk_mem (fun hI => ?_)
  refine jOk_in (i := 1) rfl (fun hx1 => ?_)
  refine jOk_in (i := 2) rfl (fun hx2 => ?_)
  refine jOk_in (i := 3) rfl (fun hx3 => ?_)
  refine jOk_in (i := 4) rfl (fun hx4 => ?_)
  replace hT := hT hI hx1 hx2 hx3 hx4
  refine r_iload dX10_common_22 (i := 4) rfl ?_
  refine r_aload_n dX10_common_24 rfl (i := 0) rfl ?_
  refine rr_getI (v := I m 4) dX10_common_25 fg_X10_117 rfl (wX10_l hm) (wX10_s hm) rfl ?_
  refine r_icmp_ge (tgt := 114) dX10_common_28 rfl hx4 (hI _ _).inR (fun hcc => ?_) (fun hcc => ?_)
  · replace hT := hT.1 hcc
    refine r_iload_n dX10_common_114 rfl (i := 1) rfl ?_
    refine r_if_eq (tgt := 123) dX10_common_115 rfl hx1 (fun hcc => ?_) (fun hcc => ?_)
    · replace hT := hT.1 hcc
      refine r_iload_n dX10_common_123 rfl (i := 2) rfl ?_
      refine r_goto (tgt := 128) dX10_common_124 rfl ?_
      exact r_iret dX10_common_128 rfl hx2 ⟨Nat.zero_le _, Nat.zero_le _⟩ ⟨_, rfl, rfl, hF, hT⟩
    · replace hT := hT.2 hcc
      refine r_iload_n dX10_common_118 rfl (i := 2) rfl ?_
      refine r_iconst (n := (-1)) dX10_common_119 ?_
      refine r_icmp_ne (tgt := 127) dX10_common_120 rfl hx2 ⟨by decide, by decide⟩ (fun hcc => ?_) (fun hcc => ?_)
      · replace hT := hT.1 hcc
        refine r_iload_n dX10_common_127 rfl (i := 3) rfl ?_
        exact r_iret dX10_common_128 rfl hx3 ⟨Nat.zero_le _, Nat.zero_le _⟩ ⟨_, rfl, rfl, hF, hT⟩
      · replace hT := hT.2 hcc
        refine r_iload_n dX10_common_123 rfl (i := 2) rfl ?_
        refine r_goto (tgt := 128) dX10_common_124 rfl ?_
        exact r_iret dX10_common_128 rfl hx2 ⟨Nat.zero_le _, Nat.zero_le _⟩ ⟨_, rfl, rfl, hF, hT⟩
  · replace hT := hT.2 hcc
    refine r_aload_n dX10_common_31 rfl (i := 0) rfl ?_
    refine r_aload_n dX10_common_32 rfl (i := 0) rfl ?_
    refine rr_getR (b := (m + 3)) dX10_common_33 fg_X10_16 rfl rfl (wX10_l hm) (wX10_s hm) (wX10_r2 hm) ?_
    refine r_iload dX10_common_36 (i := 4) rfl ?_
    obtain ⟨hc1, hT⟩ := hT
    refine rr_iaload (v := I (m + 3) x4) dX10_common_38 (wX10_l2 hm) (wX10_a2 hm) (by decide) hc1 rfl ?_
    obtain ⟨hc3, hT⟩ := hT
    refine rr_pVI (A := (jA m)) (v := I (m + 1) (10 + (I (m + 3) x4))) (a := m) (as := [VI (I (m + 3) x4)]) (st := []) dX10_common_39 mt_X10_byteAt ml_X10_120 mi_X10_byteAt rm_X10_common_X10_byteAt jz_X10_byteAt ⟨Nat.zero_le _, Nat.zero_le _⟩ (Nat.le_of_ble_eq_true rfl) (wX10_l hm) (wX10_c hm) (jasI (hI _ _).inR jas0) ((sp_X10_byteAt hm) hc3) (fun hc2 => ?_)
    refine rr_pSI (A := (jA m)) (v := srt (I (m + 1) (10 + (I (m + 3) x4)))) (as := [VI (I (m + 1) (10 + (I (m + 3) x4)))]) (st := []) dX10_common_42 mt_X10_sortOf ml_X10_124 ms_X10_sortOf rm_X10_common_X10_sortOf jz_X10_sortOf ⟨Nat.zero_le _, Nat.zero_le _⟩ (Nat.le_of_ble_eq_true rfl) (jasI hc2 jas0) sp_X10_sortOf (fun hc4 => ?_)
    refine r_if_eq (tgt := 51) dX10_common_45 rfl hc4 (fun hcc => ?_) (fun hcc => ?_)
    · replace hT := hT.1 hcc
      refine r_iconst (n := 0) dX10_common_51 ?_
      refine rr_istore (i := 5) (ls' := [VR m, VI x1, VI x2, VI x3, VI x4, VI 0, VN]) dX10_common_52 (Nat.le_of_ble_eq_true rfl) rfl rfl ⟨by decide, by decide⟩ ?_
      refine r_iconst (n := 0) dX10_common_54 ?_
      refine rr_istore (i := 6) (ls' := [VR m, VI x1, VI x2, VI x3, VI x4, VI 0, VI 0]) dX10_common_55 (Nat.le_of_ble_eq_true rfl) rfl rfl ⟨by decide, by decide⟩ ?_
      exact hT I0 hF
    · replace hT := hT.2 hcc
      refine r_goto (tgt := 108) dX10_common_48 rfl ?_
      obtain ⟨hc5, hT⟩ := hT
      refine rr_iinc (i := 4) (ls' := [VR m, VI x1, VI x2, VI x3, VI (x4 + 1), VN, VN]) dX10_common_108 rfl (Nat.le_of_ble_eq_true rfl) rfl rfl hc5 ?_
      refine r_goto (tgt := 22) dX10_common_111 rfl ?_
      exact hT I0 hF
set_option maxRecDepth 20000 in
theorem st_X10_common_0 {E : jE} {G : jG} {I : jM} {q : Int → jM → Prop} {m : Nat} {x1 : Int} (hm : WX10 G m) (hT : (∀ a j, jRg (G.2.1 a).1 (I a j)) → jIn x1 → (((0 ≤ x1 ∧ x1 ≤ 1) → jRV E (jA m) kX10_layTokens [VR m] G I (fun I2 => jOI E (jA m) kX10_common 22 [VR m, VI x1, VI (-1), VI 0, VI 0, VN, VN] G I2 q)) ∧ (¬ (0 ≤ x1 ∧ x1 ≤ 1) → q (-1) I))) : jOI E (jA m) kX10_common 0 [VR m, VI x1, VN, VN, VN, VN, VN] G I q := by
  intro I0 hF
  refine jOk_mem (fun hI => ?_)
  refine jOk_in (i := 1) rfl (fun hx1 => ?_)
  replace hT := hT hI hx1
  refine r_iload_n dX10_common_0 rfl (i := 1) rfl ?_
  refine r_iconst (n := 0) dX10_common_1 ?_
  refine r_iconst (n := 1) dX10_common_2 ?_
  refine rr_pSI (A := (jA m)) (v := jI (0 ≤ x1 ∧ x1 ≤ 1)) (as := [VI x1, VI 0, VI 1]) (st := []) dX10_common_3 mt_X10_isIn ml_X10_103 ms_X10_isIn rm_X10_common_X10_isIn jz_X10_isIn ⟨Nat.zero_le _, Nat.zero_le _⟩ (Nat.le_of_ble_eq_true rfl) (jasI hx1 (jasI ⟨by decide, by decide⟩ (jasI ⟨by decide, by decide⟩ jas0))) sp_X10_isIn (fun hc1 => ?_)
  refine r_if_ne (tgt := 11) dX10_common_6 rfl hc1 (fun hcc => ?_) (fun hcc => ?_)
  · replace hT := hT.1 (jI_p hcc)
    refine r_aload_n dX10_common_11 rfl (i := 0) rfl ?_
    refine rr_cVV (a := m) (as := []) (st := []) dX10_common_12 mt_X10_layTokens ml_X10_184 mi_X10_layTokens rm_X10_common_X10_layTokens jz_X10_layTokens ⟨Nat.zero_le _, Nat.zero_le _⟩ (Nat.le_of_ble_eq_true rfl) (wX10_l hm) (wX10_c hm) jas0 hT (fun I2 hFI2 hT => ?_)
    replace hFI2 := jFr_tr hF hFI2
    refine jOk_mem (fun hI2 => ?_)
    refine r_iconst (n := (-1)) dX10_common_15 ?_
    refine rr_istore_n (i := 2) (ls' := [VR m, VI x1, VI (-1), VN, VN, VN, VN]) dX10_common_16 rfl (Nat.le_of_ble_eq_true rfl) rfl rfl ⟨by decide, by decide⟩ ?_
    refine r_iconst (n := 0) dX10_common_17 ?_
    refine rr_istore_n (i := 3) (ls' := [VR m, VI x1, VI (-1), VI 0, VN, VN, VN]) dX10_common_18 rfl (Nat.le_of_ble_eq_true rfl) rfl rfl ⟨by decide, by decide⟩ ?_
    refine r_iconst (n := 0) dX10_common_19 ?_
    refine rr_istore (i := 4) (ls' := [VR m, VI x1, VI (-1), VI 0, VI 0, VN, VN]) dX10_common_20 (Nat.le_of_ble_eq_true rfl) rfl rfl ⟨by decide, by decide⟩ ?_
    exact hT I0 hFI2
  · replace hT := hT.2 (jI_n hcc)
    refine r_iconst (n := (-1)) dX10_common_9 ?_
    exact r_iret dX10_common_10 rfl ⟨by decide, by decide⟩ ⟨Nat.zero_le _, Nat.zero_le _⟩ ⟨_, rfl, rfl, hF, hT⟩
theorem en_X10_common {E : jE} {G : jG} {I : jM} {q : Int → jM → Prop} {m : Nat} {x1 : Int} (hm : WX10 G m) (hT : (∀ a j, jRg (G.2.1 a).1 (I a j)) → jIn x1 → (((0 ≤ x1 ∧ x1 ≤ 1) → jRV E (jA m) kX10_layTokens [VR m] G I (fun I2 => jOI E (jA m) kX10_common 22 [VR m, VI x1, VI (-1), VI 0, VI 0, VN, VN] G I2 q)) ∧ (¬ (0 ≤ x1 ∧ x1 ≤ 1) → q (-1) I))) : jRI E (jA m) kX10_common [VR m, VI x1] G I q := jRun.of mt_X10_common.2.2.2 5 rfl (fun _ => st_X10_common_0 hm hT I (fun _ _ => rfl))
noncomputable def anIs (B : Int → Int) (tl : Int) (w : Int) : Int := if w < 0 ∨ 15 < w then -1 else match w.toNat with
  | 0 => B 2 | 1 => nT B | 2 => B 4 | 3 => onB B (B 4).toNat | 4 => NF B | 5 => sumJ (fun f => jI (fSi B f)) 0 (NF B).toNat | 6 => B 3 | 7 => B 5 | 8 => B 6 | 9 => B 8 | 10 => tl | 11 => sumJ (fun f => jI (fYi B f)) 0 (NF B).toNat | 12 => B 7 | 13 => unp B | 14 => lno B (B 2) + 1 | _ => lngJ B 0 0 ((B 2).toNat + 1)
noncomputable def anRule (B : Int → Int) (r w : Int) : Int := if 0 ≤ r ∧ r < B 4 then (if w = 0 then B (514 + 40 * r) else if w = 1 then B (516 + 40 * r) else if w = 2 then B (517 + 40 * r) else if w = 3 then B (515 + 40 * r) else if w = 4 then sumJ (fun f => jI (fR B f = r)) 0 (NF B).toNat else -1) else -1
def canF (B : Int → Int) (r t : Int) : Prop := (0 ≤ r ∧ r < B 4) ∧ (0 ≤ t ∧ t < nT B) ∧ Fit B (nT B) (bT B) r t
noncomputable def anSpan (B : Int → Int) (r t : Int) : Int := @ite _ (canF B r t) (Classical.propDecidable _) (bT B (t + B (516 + 40 * r)) - bT B t) (-1)
noncomputable def anFinding (B : Int → Int) (i w : Int) : Int := if 0 ≤ i ∧ i < NF B then (if w = 0 then fR B i else if w = 1 then fB B i else if w = 2 then fE B i else if w = 3 then (fO B i).length else if w = 4 then fV B i else if w = 5 then jI (fSi B i) else if w = 6 then jI (i ∈ setL B) else if w = 7 then jI (fYi B i) else -1) else -1
noncomputable def anFresh (B : Int → Int) (i k : Int) : Int := if (0 ≤ i ∧ i < NF B) ∧ 0 ≤ k ∧ k < (fO B i).length then (fO B i).getD k.toNat 0 else -1
noncomputable def anClashes (B : Int → Int) (i : Int) : Int := if 0 ≤ i ∧ i < NF B then sumJ (fun f => jI (f ≠ i ∧ ¬ fSi B f ∧ fB B f < fE B i ∧ fB B i < fE B f)) 0 (NF B).toNat else -1
noncomputable def anSet (B : Int → Int) (i : Int) : Int := if i = -1 then (setL B).length else if 0 ≤ i ∧ i < (setL B).length then (setL B).getD i.toNat 0 else -1
noncomputable def anChosen (B : Int → Int) (r : Int) : Int := if 0 ≤ r ∧ r < B 4 then ((setL B).map (fun f => jI (fR B f = r))).sum else -1
noncomputable def anWithout (B : Int → Int) (r : Int) : Int := if 0 ≤ r ∧ r < B 4 then wS (up B (515 + 40 * r) 0) else -1
noncomputable def anSilenced (B : Int → Int) (i w : Int) : Int := if (0 ≤ i ∧ i < B 3) ∧ 0 ≤ w ∧ w ≤ 1 then B (410 + 2 * i + w) else -1
noncomputable def anYielding (B : Int → Int) (i : Int) : Int := if 0 ≤ i ∧ i < B 7 then 10 * B (426 + 2 * i) + B (426 + 2 * i + 1) else -1
noncomputable def anPaint (B : Int → Int) (i : Int) : Int := if 0 ≤ i ∧ i < B 2 then B (210 + i) - 1 else -1
noncomputable def anPainted (B : Int → Int) (r : Int) : Int := if 0 ≤ r ∧ r < B 4 then sumJ (fun i => jI (B (210 + i) = r + 1)) 0 (B 2).toNat else -1
noncomputable def anBook (B : Int → Int) (i w : Int) : Int := if i = -1 then B 9 else if (0 ≤ i ∧ i < B 9) ∧ 0 ≤ w ∧ w ≤ 2 then B (442 + 3 * i + w) else -2
/-- how many tokens are like this one -/
noncomputable def nLike (B : Int → Int) (t : Int) : Int := sumJ (fun k => jI (like B (bT B) t k)) 0 (nT B).toNat
/-- the commonest word among tokens from t on, over what was found ahead -/
noncomputable def comF (B : Int → Int) (t : Int) : Nat → Int × Int → Int × Int
  | 0, s => s
  | d + 1, s => comF B (t + 1) d (@ite _ (srt (B (10 + bT B t)) = 0 ∧ s.2 < nLike B t) (Classical.propDecidable _) (t, nLike B t) s)
noncomputable def anCommon (B : Int → Int) (w : Int) : Int := if 0 ≤ w ∧ w ≤ 1 then (if w = 0 ∨ (comF B 0 (nT B).toNat (-1, 0)).1 = -1 then (comF B 0 (nT B).toNat (-1, 0)).1 else (comF B 0 (nT B).toNat (-1, 0)).2) else -1
section RZ
variable {E : jE} {G : jG} {m : Nat} {I : jM} {B B' : Int → Int} {H H' : List (Int → Int)} {T : List Int} {fk fp c : Int}
theorem ref_is (hm : WX10 G m) (h : RR m I B H B' H' T fk fp) (hQ : QW B) {w : Int} : jRI E (jA m) kX10_is [VR m, VI w] G I (fun x I' => x = anIs B T.length w ∧ RR m I' B H B' H' T fk fp) := by
  have h2 := hQ.1
  refine en_X10_is hm (fun _ _ => (ref_lay hm h hQ).mono (fun I1 _ g => ?_))
  obtain ⟨hr, hL, -, -⟩ := g
  refine ⟨fun q => ⟨by unfold anIs; rw [if_pos q], hr⟩, fun q => ?_, fun q => ?_, fun q => ?_, fun q => ?_, fun q => ?_, fun q => ?_, fun q => ?_, fun q => ?_, fun q => ?_, fun q => ?_, fun q => ?_, fun q => ?_, fun q => ?_, fun q => ?_, fun q => ?_, fun q => ?_⟩
  · subst q; exact ⟨hr.at (by omega), hr⟩
  · subst q; exact ⟨hL.1, hr⟩
  · subst q; exact ⟨hr.at (by omega), hr⟩
  · subst q
    refine (ref_onBits hm hr hQ).mono (fun x I4 _ _ g => ?_)
    obtain ⟨rfl, rfl⟩ := g
    exact ⟨rfl, hr⟩
  · subst q; exact ⟨hL.2.2.1, hr⟩
  · subst q
    refine (ref_countOf hm hL hQ).mono (fun x I4 _ _ g => ?_)
    obtain ⟨-, g2, rfl⟩ := g
    exact ⟨g2 (by decide), hr⟩
  · subst q; exact ⟨hr.at (by omega), hr⟩
  · subst q; exact ⟨hr.at (by omega), hr⟩
  · subst q; exact ⟨hr.at (by omega), hr⟩
  · subst q; exact ⟨hr.at (by omega), hr⟩
  · subst q; exact ⟨hr.2.2.1.1, hr⟩
  · subst q
    refine (ref_countOf hm hL hQ).mono (fun x I4 _ _ g => ?_)
    obtain ⟨g1, -, rfl⟩ := g
    exact ⟨g1 rfl, hr⟩
  · subst q; exact ⟨hr.at (by omega), hr⟩
  · subst q
    refine (ref_unpaired hm hr hQ).mono (fun x I4 _ _ g => ⟨g.1, g.2⟩)
  · subst q
    rw [hr.at (j := 2) (by omega)]
    refine (ref_lineOf hm hr h2).mono (fun x I4 _ _ g => ?_)
    obtain ⟨g1, g2, rfl⟩ := g
    exact ⟨⟨by omega, by omega⟩, by rw [g1]; rfl, hr⟩
  · subst q
    refine (ref_longest hm hr hQ).mono (fun x I4 _ _ g => ?_)
    obtain ⟨rfl, rfl⟩ := g
    exact ⟨rfl, hr⟩
theorem ref_findingsOf (hm : WX10 G m) (h : RR m I B H B' H' T fk fp) (hQ : QW B) {r : Int} : jRI E (jA m) kX10_findingsOf [VR m, VI r] G I (fun x I' => x = sumJ (fun f => jI (fR B f = r)) 0 (NF B).toNat ∧ RR m I' B H B' H' T fk fp) := by
  have hN := NF_le hQ
  have hN0 : 0 ≤ NF B := by unfold NF; omega
  refine en_X10_findingsOf hm (fun _ _ => (ref_lay hm h hQ).mono (fun I1 _ g => ?_))
  obtain ⟨hr, hL, -, -⟩ := g
  have h17 := hL.2.2.1
  have loop : ∀ (d : Nat) (f v : Int), 0 ≤ f → f + d = NF B → 0 ≤ v → v ≤ f → jOI E (jA m) kX10_findingsOf 8 [VR m, VI r, VI v, VI f] G I1 (fun x I' => x = v + sumJ (fun f => jI (fR B f = r)) f d ∧ RR m I' B H B' H' T fk fp) := by
    intro d
    induction d with
    | zero =>
      intro f v f0 f1 v0 v1
      exact st_X10_findingsOf_8 hm (fun _ _ _ _ => ⟨fun _ => ⟨by show v = v + 0; omega, hr⟩, fun q => by rw [h17] at q; omega⟩)
    | succ d ih =>
      intro f v f0 f1 v0 v1
      have r7 := (hL.2.2.2.1 f f0 (by omega)).1
      have nx : ∀ y, y = jI (fR B f = r) → jIn (v + y) ∧ jIn (f + 1) ∧ jOI E (jA m) kX10_findingsOf 8 [VR m, VI r, VI (v + y), VI (f + 1)] G I1 (fun x I' => x = v + sumJ (fun f => jI (fR B f = r)) f (d + 1) ∧ RR m I' B H B' H' T fk fp) := by
        intro y e
        have b := jI_01 (P := fR B f = r)
        refine ⟨⟨by omega, by omega⟩, ⟨by omega, by omega⟩, (ih (f + 1) (v + y) (by omega) (by omega) (by omega) (by omega)).mono (fun x I' _ g' => ⟨?_, g'.2⟩)⟩
        rw [g'.1, sumJ_s]
        omega
      refine st_X10_findingsOf_8 hm (fun _ _ _ _ => ⟨fun q => by rw [h17] at q; omega, fun _ => ⟨⟨f0, by omega⟩, ?_⟩⟩)
      rw [r7]
      exact ⟨fun q => nx 0 (jI_neg q).symm, fun q => nx 1 (jI_pos q).symm⟩
  refine (loop (NF B).toNat 0 0 (by omega) (by omega) (by omega) (by omega)).mono (fun x I' _ g => ⟨by rw [g.1]; omega, g.2⟩)
theorem ref_rule (hm : WX10 G m) (h : RR m I B H B' H' T fk fp) (hQ : QW B) {r w : Int} : jRI E (jA m) kX10_rule [VR m, VI r, VI w] G I (fun x I' => x = anRule B r w ∧ RR m I' B H B' H' T fk fp) := by
  have e4 : I (m + 1) 4 = B 4 := h.at (by omega)
  have h4 := hQ.2.1
  have h46 := h4.2.1
  unfold anRule
  refine en_X10_rule hm (fun _ _ _ => ?_)
  rw [e4]
  refine ⟨⟨h4.1, h46⟩, fun q => ⟨fun q1 => ⟨?_, h⟩, fun q1 => ⟨⟨by omega, by omega⟩, ?_, h⟩, fun q1 => ⟨⟨by omega, by omega⟩, ?_, h⟩, fun q1 => ⟨⟨by omega, by omega⟩, ?_, h⟩, fun q1 => ⟨⟨by omega, by omega⟩, ?_, h⟩, fun q1 => (ref_findingsOf hm h hQ).mono (fun x I' _ _ g => ⟨?_, g.2⟩)⟩, fun q => ⟨by rw [if_neg q], h⟩⟩
  · rw [if_pos q, if_neg (by omega), if_neg (by omega), if_neg (by omega), if_neg (by omega), if_neg (by omega)]
  · rw [if_pos q, if_pos q1, show 514 + 40 * r + 0 = 514 + 40 * r by omega]
    exact h.at (by omega)
  · rw [if_pos q, if_neg (by omega), if_pos q1, show 514 + 40 * r + 2 = 516 + 40 * r by omega]
    exact h.at (by omega)
  · rw [if_pos q, if_neg (by omega), if_neg (by omega), if_pos q1, show 514 + 40 * r + 3 = 517 + 40 * r by omega]
    exact h.at (by omega)
  · rw [if_pos q, if_neg (by omega), if_neg (by omega), if_neg (by omega), if_pos q1, show 514 + 40 * r + 1 = 515 + 40 * r by omega]
    exact h.at (by omega)
  · rw [if_pos q, if_neg (by omega), if_neg (by omega), if_neg (by omega), if_neg (by omega), if_pos q1]
    exact g.1
theorem ref_fits (hm : WX10 G m) (h : RR m I B H B' H' T fk fp) (hQ : QW B) {r t : Int} : jRI E (jA m) kX10_fits [VR m, VI r, VI t] G I (fun x I' => x = jI (canF B r t) ∧ RR m I' B H B' H' T fk fp ∧ I' m 4 = nT B ∧ ∀ u, 0 ≤ u → u < nT B → I' (m + 3) u = bT B u ∧ I' (m + 4) u = bT B (u + 1) - bT B u) := by
  have h4 := hQ.2.1
  have h46 := h4.2.1
  have hTk := tkS hQ.1.1
  have hn := hTk.n_le
  have hn0 := hTk.1
  have h2 := hQ.1
  refine en_X10_fits hm (fun _ _ _ => (ref_layT hm h hQ).mono (fun I1 _ g => ?_))
  obtain ⟨hr, hT⟩ := g
  have e4 : I1 (m + 1) 4 = B 4 := hr.at (by omega)
  rw [hT.2.2.2.1, e4]
  have fin : RR m I1 B H B' H' T fk fp ∧ I1 m 4 = nT B ∧ ∀ u, 0 ≤ u → u < nT B → I1 (m + 3) u = bT B u ∧ I1 (m + 4) u = bT B (u + 1) - bT B u := ⟨hr, hT.2.2.2.1, hT.2.2.2.2⟩
  refine ⟨⟨h4.1, h46⟩, fun q => ⟨(jI_neg (fun g => q g.1)).symm, fin.1, rfl, fin.2.2⟩, fun q => ⟨⟨by omega, by omega⟩, fun q1 => ⟨(jI_neg (fun g => q1 (by have := g.2.1; omega))).symm, fin.1, rfl, fin.2.2⟩, fun q1 => ?_⟩⟩
  have hQS := h.1.qw hQ
  have hw := h4.2.2 r q.1 q.2
  have hwS : RW1 (I (m + 1)) r := RW1_congr h.1.eqS.symm ⟨q.1, by omega⟩ hw
  refine (sp_X10_fitsNow hm hT ⟨q.1, by omega⟩ q1.1 (by omega) hwS).mono (fun x I6 _ _ g => ?_)
  obtain ⟨rfl, g1, -⟩ := g
  have eF : Fit (I (m + 1)) (nT B) (bT B) r t ↔ Fit B (nT B) (bT B) r t := ⟨Fit_congr h.1.eqS hQS.1.2 hT.2.2.1 ⟨q.1, by omega⟩ hwS q1.1, Fit_congr h.1.eqS.symm hQ.1.2 hTk ⟨q.1, by omega⟩ hw q1.1⟩
  have e1 : I6 (m + 1) = I1 (m + 1) := by funext j; exact g1 _ _ (by omega)
  have hr6 : RR m I6 B H B' H' T fk fp := hr.wz (fun a j ha => g1 a j (by omega)) (by rw [e1]; exact hr.1)
  have fin6 : RR m I6 B H B' H' T fk fp ∧ I6 m 4 = nT B ∧ ∀ u, 0 ≤ u → u < nT B → I6 (m + 3) u = bT B u ∧ I6 (m + 4) u = bT B (u + 1) - bT B u := ⟨hr6, by rw [g1 _ _ (by omega)]; exact hT.2.2.2.1, fun u u0 u1 => by rw [g1 _ _ (by omega), g1 _ _ (by omega)]; exact hT.2.2.2.2 u u0 u1⟩
  exact ⟨fun q2 => ⟨(jI_neg (fun g => jI_n q2 (eF.mpr g.2.2))).symm, fin6⟩, fun q2 => ⟨(jI_pos ⟨q, by omega, eF.mp (jI_p q2)⟩).symm, fin6⟩⟩
theorem ref_span (hm : WX10 G m) (h : RR m I B H B' H' T fk fp) (hQ : QW B) {r t : Int} : jRI E (jA m) kX10_span [VR m, VI r, VI t] G I (fun x I' => x = anSpan B r t ∧ RR m I' B H B' H' T fk fp) := by
  have h4 := hQ.2.1
  have h46 := h4.2.1
  have hTk := tkS hQ.1.1
  have hn := hTk.n_le
  have h2 := hQ.1
  unfold anSpan
  refine en_X10_span hm (fun _ _ _ => (ref_fits hm h hQ).mono (fun x I1 _ _ g => ?_))
  obtain ⟨rfl, hr, e4, hT⟩ := g
  refine ⟨fun q => ?_, fun q => ⟨by rw [if_neg (jI_n q)], hr⟩⟩
  have hc := jI_p q
  obtain ⟨hr1, ht1, hf⟩ := hc
  have hw := h4.2.2 r hr1.1 hr1.2
  have hw2 := hw.2.2.1
  have hf1 := hf.1
  have ee : I1 (m + 1) (514 + 40 * r + 2) = B (516 + 40 * r) := by
    rw [show 514 + 40 * r + 2 = 516 + 40 * r by omega]
    exact hr.at (by omega)
  rw [ee, if_pos (jI_p q)]
  have r1 := hT (t + B (516 + 40 * r) - 1) (by omega) (by omega)
  have r0 := hT t ht1.1 ht1.2
  rw [show t + B (516 + 40 * r) - 1 + 1 = t + B (516 + 40 * r) by omega] at r1
  rw [r1.1, r1.2, r0.1]
  have b1 := hTk.bd (t := t + B (516 + 40 * r)) (by omega) hf1
  have b0 := hTk.bd (t := t) ht1.1 (by omega)
  exact ⟨⟨by omega, by omega⟩, ⟨by omega, by omega⟩, ⟨by omega, by omega⟩, ⟨by omega, by omega⟩, ⟨by omega, by omega⟩, ⟨by omega, by omega⟩, by omega, hr⟩
theorem ref_isFinding (hm : WX10 G m) (h : RR m I B H B' H' T fk fp) (hQ : QW B) {i : Int} : jRI E (jA m) kX10_isFinding [VR m, VI i] G I (fun x I' => x = jI (0 ≤ i ∧ i < NF B) ∧ RR m I' B H B' H' T fk fp ∧ LFB m B I' ∧ LFS m (I (m + 1)) I' ∧ WFd m I I') := by
  have hN := NF_le hQ
  have hN0 : 0 ≤ NF B := by unfold NF; omega
  refine en_X10_isFinding hm (fun _ _ => (ref_lay hm h hQ).mono (fun I1 _ g => ?_))
  rw [g.2.1.2.2.1]
  exact ⟨⟨by omega, by omega⟩, jI_congr (by omega), g⟩
theorem ref_finding (hm : WX10 G m) (h : RR m I B H B' H' T fk fp) (hQ : QW B) {i w : Int} : jRI E (jA m) kX10_finding [VR m, VI i, VI w] G I (fun x I' => x = anFinding B i w ∧ RR m I' B H B' H' T fk fp) := by
  have hN := NF_le hQ
  unfold anFinding
  refine en_X10_finding hm (fun _ _ _ => (ref_isFinding hm h hQ).mono (fun x I1 _ _ g => ?_))
  obtain ⟨rfl, hr, hL, -, -⟩ := g
  refine ⟨fun q => ?_, fun q => ⟨by rw [if_neg (jI_n q)], hr⟩⟩
  have hi := jI_p q
  have b : (0 : Int) ≤ i ∧ i < 1200 := ⟨hi.1, by omega⟩
  have r := hL.2.2.2.1 i hi.1 hi.2
  rw [if_pos hi, r.1, r.2.1, r.2.2.1, r.2.2.2.2.1, r.2.2.2.2.2.1, r.2.2.2.2.2.2.1, r.2.2.2.2.2.2.2.1, r.2.2.2.2.2.2.2.2]
  refine ⟨fun q1 => ⟨?_, hr⟩, fun q1 => ⟨b, ?_, hr⟩, fun q1 => ⟨b, ?_, hr⟩, fun q1 => ⟨b, ?_, hr⟩, fun q1 => ⟨b, ?_, hr⟩, fun q1 => ⟨b, ?_, hr⟩, fun q1 => ⟨b, fun _ => ⟨fun q2 => ⟨?_, hr⟩, fun q2 => ⟨?_, hr⟩⟩⟩, fun q1 => ⟨b, fun _ => ⟨fun q2 => ⟨?_, hr⟩, fun q2 => ⟨?_, hr⟩⟩⟩, fun q1 => ⟨b, fun _ => ⟨fun q2 => ⟨?_, hr⟩, fun q2 => ⟨?_, hr⟩⟩⟩⟩
  · rw [if_neg (by omega), if_neg (by omega), if_neg (by omega), if_neg (by omega), if_neg (by omega), if_neg (by omega), if_neg (by omega), if_neg (by omega)]
  · rw [if_pos q1]
  · rw [if_neg (by omega), if_pos q1]
  · rw [if_neg (by omega), if_neg (by omega), if_pos q1]
  · rw [if_neg (by omega), if_neg (by omega), if_neg (by omega), if_pos q1]
  · rw [if_neg (by omega), if_neg (by omega), if_neg (by omega), if_neg (by omega), if_pos q1]
  · rw [if_neg (by omega), if_neg (by omega), if_neg (by omega), if_neg (by omega), if_neg (by omega), if_pos q1]; exact q2.symm
  · rw [if_neg (by omega), if_neg (by omega), if_neg (by omega), if_neg (by omega), if_neg (by omega), if_pos q1]; exact (jI_pos (jI_p q2)).symm
  · rw [if_neg (by omega), if_neg (by omega), if_neg (by omega), if_neg (by omega), if_neg (by omega), if_neg (by omega), if_pos q1]; exact q2.symm
  · rw [if_neg (by omega), if_neg (by omega), if_neg (by omega), if_neg (by omega), if_neg (by omega), if_neg (by omega), if_pos q1]; exact (jI_pos (jI_p q2)).symm
  · rw [if_neg (by omega), if_neg (by omega), if_neg (by omega), if_neg (by omega), if_neg (by omega), if_neg (by omega), if_neg (by omega), if_pos q1]; exact q2.symm
  · rw [if_neg (by omega), if_neg (by omega), if_neg (by omega), if_neg (by omega), if_neg (by omega), if_neg (by omega), if_neg (by omega), if_pos q1]; exact (jI_pos (jI_p q2)).symm
theorem ref_fresh (hm : WX10 G m) (h : RR m I B H B' H' T fk fp) (hQ : QW B) {i k : Int} : jRI E (jA m) kX10_fresh [VR m, VI i, VI k] G I (fun x I' => x = anFresh B i k ∧ RR m I' B H B' H' T fk fp) := by
  have hN := NF_le hQ
  have hF := FLok hQ
  have hQS := h.1.qw hQ
  unfold anFresh
  refine en_X10_fresh hm (fun _ _ _ => (ref_isFinding hm h hQ).mono (fun x I1 _ _ g => ?_))
  obtain ⟨rfl, hr, hL, hS, hW⟩ := g
  refine ⟨fun q => ⟨by rw [if_neg (fun g => jI_n q g.1)], hr⟩, fun q => ?_⟩
  have hi := jI_p q
  have b : (0 : Int) ≤ i ∧ i < 1200 := ⟨hi.1, by omega⟩
  have r := hL.2.2.2.1 i hi.1 hi.2
  have bd := f_bd hQ hF hi.1 hi.2
  rw [r.1, r.2.2.2.1, r.2.2.2.2.1]
  refine ⟨b, ⟨by omega, by omega⟩, fun q1 => ⟨b, b, ?_⟩, fun q1 => ⟨by rw [if_neg (by omega)], hr⟩⟩
  have hES := h.1.eqS
  have hTO : TO m (I (m + 1)) (nT B) (bT B) I1 := by
    rw [nT_congr hES hQS.1, bT_congr hES hQS.1]
    exact hS.1
  have hwS : RW1 (I (m + 1)) (fR B i) := RW1_congr hES.symm bd.2.2.2.2.1 bd.2.2.2.1
  have hfit : Fit (I (m + 1)) (nT B) (bT B) (fR B i) (fT B i) := Fit_congr hES.symm hQ.1.2 (tkS hQ.1.1) bd.2.2.2.2.1 bd.2.2.2.1 bd.2.2.2.2.2.1.1 (fa_isF hF hi.1 hi.2).2.2.2.2.2.1
  have eo : Out (I (m + 1)) (bT B) (fR B i) (fT B i) = fO B i := Out_congr hES.symm hQ.1.2 (tkS hQ.1.1) bd.2.2.2.2.1 bd.2.2.2.1 bd.2.2.2.2.2.1.1 bd.2.2.2.2.2.2.1
  refine (sp_X10_layOut hm hTO bd.2.2.2.2.1 hwS bd.2.2.2.2.2.1.1 bd.2.2.2.2.2.1.2 hfit).mono (fun I9 _ g => ?_)
  obtain ⟨g1, g2, -⟩ := g
  rw [eo] at g1
  have e1 : I9 (m + 1) = I1 (m + 1) := by funext j; exact g2 _ _ (by omega) (by omega) (by omega)
  refine ⟨⟨by omega, by omega⟩, ?_, hr.wz (fun a j ha => g2 a j (by omega) (by omega) (by omega)) (by rw [e1]; exact hr.1)⟩
  rw [if_pos ⟨hi, by omega, by omega⟩]
  have := g1.2 k.toNat (by omega)
  rw [show ((k.toNat : Nat) : Int) = k by omega] at this
  exact this
theorem ref_clashes (hm : WX10 G m) (h : RR m I B H B' H' T fk fp) (hQ : QW B) {i : Int} : jRI E (jA m) kX10_clashes [VR m, VI i] G I (fun x I' => x = anClashes B i ∧ RR m I' B H B' H' T fk fp) := by
  have hN := NF_le hQ
  have hN0 : 0 ≤ NF B := by unfold NF; omega
  unfold anClashes
  refine en_X10_clashes hm (fun _ _ => (ref_isFinding hm h hQ).mono (fun x I1 _ _ g => ?_))
  obtain ⟨rfl, hr, hL, -, -⟩ := g
  have h17 := hL.2.2.1
  refine ⟨fun q => ?_, fun q => ⟨by rw [if_neg (jI_n q)], hr⟩⟩
  have hi := jI_p q
  have ri := hL.2.2.2.1 i hi.1 hi.2
  have loop : ∀ (d : Nat) (f v : Int), 0 ≤ f → f + d = NF B → 0 ≤ v → v ≤ f → jOI E (jA m) kX10_clashes 14 [VR m, VI i, VI v, VI f] G I1 (fun x I' => x = v + sumJ (fun f => jI (f ≠ i ∧ ¬ fSi B f ∧ fB B f < fE B i ∧ fB B i < fE B f)) f d ∧ RR m I' B H B' H' T fk fp) := by
    intro d
    induction d with
    | zero =>
      intro f v f0 f1 v0 v1
      exact st_X10_clashes_14 hm (fun _ _ _ _ => ⟨fun _ => ⟨by show v = v + 0; omega, hr⟩, fun q => by rw [h17] at q; omega⟩)
    | succ d ih =>
      intro f v f0 f1 v0 v1
      have rf := hL.2.2.2.1 f f0 (by omega)
      have nx : ∀ y, y = jI (f ≠ i ∧ ¬ fSi B f ∧ fB B f < fE B i ∧ fB B i < fE B f) → jIn (v + y) ∧ jIn (f + 1) ∧ jOI E (jA m) kX10_clashes 14 [VR m, VI i, VI (v + y), VI (f + 1)] G I1 (fun x I' => x = v + sumJ (fun f => jI (f ≠ i ∧ ¬ fSi B f ∧ fB B f < fE B i ∧ fB B i < fE B f)) f (d + 1) ∧ RR m I' B H B' H' T fk fp) := by
        intro y e
        have b := jI_01 (P := f ≠ i ∧ ¬ fSi B f ∧ fB B f < fE B i ∧ fB B i < fE B f)
        refine ⟨⟨by omega, by omega⟩, ⟨by omega, by omega⟩, (ih (f + 1) (v + y) (by omega) (by omega) (by omega) (by omega)).mono (fun x I' _ g' => ⟨?_, g'.2⟩)⟩
        rw [g'.1, sumJ_s]
        omega
      refine st_X10_clashes_14 hm (fun _ _ _ _ => ⟨fun q => by rw [h17] at q; omega, fun _ => ⟨fun q1 => nx 0 (jI_neg (fun g => g.1 q1)).symm, fun q1 => ⟨⟨f0, by omega⟩, fun _ => ?_⟩⟩⟩)
      rw [rf.2.2.2.2.2.2.1]
      refine ⟨fun q2 => nx 0 (jI_neg (fun g => g.2.1 (jI_p q2))).symm, fun q2 => ?_⟩
      refine (sp_X10_areTogether hm ⟨⟨f0, by omega⟩, hi.1, by omega⟩).mono (fun x I7 _ _ g => ?_)
      obtain ⟨rfl, rfl⟩ := g
      rw [rf.2.1, rf.2.2.1, ri.2.1, ri.2.2.1]
      exact ⟨fun q3 => nx 0 (jI_neg (fun g => jI_n q3 g.2.2)).symm, fun q3 => nx 1 (jI_pos ⟨q1, jI_n q2, jI_p q3⟩).symm⟩
  refine (loop (NF B).toNat 0 0 (by omega) (by omega) (by omega) (by omega)).mono (fun x I' _ g => ⟨?_, g.2⟩)
  rw [if_pos hi, g.1]
  omega
/-! the set -/
theorem ref_set (hm : WX10 G m) (h : RR m I B H B' H' T fk fp) (hQ : QW B) {i : Int} : jRI E (jA m) kX10_set [VR m, VI i] G I (fun x I' => x = anSet B i ∧ RR m I' B H B' H' T fk fp) := by
  have hN := NF_le hQ
  have hN0 : 0 ≤ NF B := by unfold NF; omega
  have hC := setL_Ch hQ (FLok hQ)
  unfold anSet
  refine en_X10_set hm (fun _ _ => (ref_lay hm h hQ).mono (fun I1 _ g => ?_))
  obtain ⟨hr, hL, -, -⟩ := g
  have h17 := hL.2.2.1
  refine ⟨fun q => ?_, fun q => ⟨by rw [if_pos q]; exact hL.2.2.2.2.2, hr⟩⟩
  have loop : ∀ (d : Nat) (f : Int) (R : List Int) (k : Int) (n : Nat), 0 ≤ f → f + d = NF B → Ch B f k R → (∀ g, f ≤ g → g < NF B → (g ∈ setL B ↔ g ∈ R)) → n + R.length = (setL B).length → (∀ j : Nat, R.getD j 0 = (setL B).getD (n + j) 0) → (n : Int) ≤ f → ¬ (0 ≤ i ∧ i < (n : Int)) → jOI E (jA m) kX10_set 18 [VR m, VI i, VI (n : Int), VI f] G I1 (fun x I' => x = (if i = -1 then ((setL B).length : Int) else if 0 ≤ i ∧ i < (setL B).length then (setL B).getD i.toNat 0 else -1) ∧ RR m I' B H B' H' T fk fp) := by
    intro d
    induction d with
    | zero =>
      intro f R k n f0 f1 hc hmem hlen hget hnf hin
      have e : f = NF B := by omega
      subst e
      have e2 := hc.nil
      subst e2
      refine st_X10_set_18 hm (fun _ _ _ _ => ⟨fun _ => ⟨?_, hr⟩, fun q => by rw [h17] at q; exact absurd (Int.le_refl _) q⟩)
      simp only [List.length_nil] at hlen
      rw [if_neg q, if_neg (by omega)]
    | succ d ih =>
      intro f R k n f0 f1 hc hmem hlen hget hnf hin
      have rf := hL.2.2.2.1 f f0 (by omega)
      refine st_X10_set_18 hm (fun _ _ _ _ => ⟨fun q => by rw [h17] at q; omega, fun _ => ⟨⟨f0, by omega⟩, fun _ => ?_⟩⟩)
      rw [rf.2.2.2.2.2.2.2.2]
      refine ⟨fun q1 => ?_, fun q1 => ⟨⟨by omega, by omega⟩, ih (f + 1) R k n (by omega) (by omega) (hc.up (fun g => jI_n q1 ((hmem f (Int.le_refl _) (by omega)).mpr g))) (fun g g0 g1 => hmem g (by omega) g1) hlen hget (by omega) hin⟩⟩
      obtain ⟨R', e⟩ := hc.hd ((hmem f (Int.le_refl _) (by omega)).mp (jI_p q1))
      subst e
      rw [List.length_cons] at hlen
      refine ⟨fun q2 => ⟨⟨by omega, by omega⟩, ⟨by omega, by omega⟩, ?_⟩, fun q2 => ⟨?_, hr⟩⟩
      · have g := ih (f + 1) R' _ (n + 1) (by omega) (by omega) hc.2.2.2 (fun g g0 g1 => (hmem g (by omega) g1).trans ⟨fun x => by
            rcases List.mem_cons.mp x with x | x
            · omega
            · exact x, fun x => List.mem_cons_of_mem _ x⟩) (by omega) (fun j => by
            have := hget (j + 1)
            rw [show n + (j + 1) = n + 1 + j by omega] at this
            exact this) (by omega) (by omega)
        exact g
      · have := hget 0
        rw [if_neg q, if_pos (by omega), ← q2, show ((n : Int)).toNat = n + 0 by omega, ← this]
        rfl
  exact loop (NF B).toNat 0 (setL B) 0 0 (by omega) (by omega) hC (fun g _ _ => Iff.rfl) (by omega) (fun j => by rw [Nat.zero_add]) (by omega) (by omega)
theorem ref_worth (hm : WX10 G m) (h : RR m I B H B' H' T fk fp) (hQ : QW B) : jRI E (jA m) kX10_worth [VR m] G I (fun x I' => x = wS B ∧ RR m I' B H B' H' T fk fp) :=
  en_X10_worth hm (fun _ => (ref_lay hm h hQ).mono (fun I1 _ g => ⟨g.2.1.2.2.2.2.1, g.1⟩))
theorem ref_chosen (hm : WX10 G m) (h : RR m I B H B' H' T fk fp) (hQ : QW B) {r : Int} : jRI E (jA m) kX10_chosen [VR m, VI r] G I (fun x I' => x = anChosen B r ∧ RR m I' B H B' H' T fk fp) := by
  have hN := NF_le hQ
  have hN0 : 0 ≤ NF B := by unfold NF; omega
  have hC := setL_Ch hQ (FLok hQ)
  have e4 : I (m + 1) 4 = B 4 := h.at (by omega)
  have h4 := hQ.2.1
  unfold anChosen
  refine en_X10_chosen hm (fun _ _ => ?_)
  rw [e4]
  refine ⟨⟨h4.1, h4.2.1⟩, fun q => (ref_lay hm h hQ).mono (fun I1 _ g => ?_), fun q => ⟨by rw [if_neg q], h⟩⟩
  obtain ⟨hr, hL, -, -⟩ := g
  have h17 := hL.2.2.1
  have loop : ∀ (d : Nat) (f : Int) (R : List Int) (k v : Int), 0 ≤ f → f + d = NF B → Ch B f k R → (∀ g, f ≤ g → g < NF B → (g ∈ setL B ↔ g ∈ R)) → 0 ≤ v → v ≤ f → jOI E (jA m) kX10_chosen 18 [VR m, VI r, VI v, VI f] G I1 (fun x I' => x = v + (R.map (fun f => jI (fR B f = r))).sum ∧ RR m I' B H B' H' T fk fp) := by
    intro d
    induction d with
    | zero =>
      intro f R k v f0 f1 hc hmem v0 v1
      have e : f = NF B := by omega
      subst e
      have e2 := hc.nil
      subst e2
      exact st_X10_chosen_18 hm (fun _ _ _ _ => ⟨fun _ => ⟨by show v = v + 0; omega, hr⟩, fun q => by rw [h17] at q; exact absurd (Int.le_refl _) q⟩)
    | succ d ih =>
      intro f R k v f0 f1 hc hmem v0 v1
      have rf := hL.2.2.2.1 f f0 (by omega)
      have b12 : (0 : Int) ≤ f ∧ f < 1200 := ⟨f0, by omega⟩
      have hme : ∀ R', R = f :: R' → ∀ g, f + 1 ≤ g → g < NF B → (g ∈ setL B ↔ g ∈ R') := fun R' e g g0 g1 => (hmem g (by omega) g1).trans (by
        rw [e]
        exact ⟨fun x => by
          rcases List.mem_cons.mp x with x | x
          · omega
          · exact x, fun x => List.mem_cons_of_mem _ x⟩)
      refine st_X10_chosen_18 hm (fun _ _ _ _ => ⟨fun q => by rw [h17] at q; omega, fun _ => ⟨b12, fun _ => ?_⟩⟩)
      rw [rf.2.2.2.2.2.2.2.2, rf.1]
      refine ⟨fun q1 => ⟨⟨by omega, by omega⟩, ⟨by omega, by omega⟩, (ih (f + 1) R k (v + 0) (by omega) (by omega) (hc.up (fun g => jI_n q1 ((hmem f (Int.le_refl _) (by omega)).mpr g))) (fun g g0 g1 => hmem g (by omega) g1) (by omega) (by omega)).mono (fun x I' _ g => ⟨by rw [g.1]; omega, g.2⟩)⟩, fun q1 => ⟨b12, ?_⟩⟩
      obtain ⟨R', e⟩ := hc.hd ((hmem f (Int.le_refl _) (by omega)).mp (jI_p q1))
      subst e
      have es : ((f :: R').map (fun f => jI (fR B f = r))).sum = jI (fR B f = r) + (R'.map (fun f => jI (fR B f = r))).sum := by rw [List.map_cons, List.sum_cons]
      refine ⟨fun q2 => ⟨⟨by omega, by omega⟩, ⟨by omega, by omega⟩, (ih (f + 1) R' _ (v + 0) (by omega) (by omega) hc.2.2.2 (hme R' rfl) (by omega) (by omega)).mono (fun x I' _ g => ⟨by rw [g.1, es, jI_neg q2]; omega, g.2⟩)⟩, fun q2 => ⟨⟨by omega, by omega⟩, ⟨by omega, by omega⟩, (ih (f + 1) R' _ (v + 1) (by omega) (by omega) hc.2.2.2 (hme R' rfl) (by omega) (by omega)).mono (fun x I' _ g => ⟨by rw [g.1, es, jI_pos q2]; omega, g.2⟩)⟩⟩
  refine (loop (NF B).toNat 0 (setL B) 0 0 (by omega) (by omega) hC (fun g _ _ => Iff.rfl) (by omega) (by omega)).mono (fun x I' _ g => ⟨?_, g.2⟩)
  rw [if_pos q, g.1]
  omega
theorem QW.off {B : Int → Int} (hQ : QW B) {r v : Int} (hr : 0 ≤ r ∧ r < B 4) (hv : 0 ≤ v ∧ v ≤ 1) : QW (up B (515 + 40 * r) v) := by
  obtain ⟨h1, h2, h3, h4, h5⟩ := hQ
  have h46 := h2.2.1
  have e : ∀ j, j ≠ 515 + 40 * r → up B (515 + 40 * r) v j = B j := fun j hj => up_ne hj
  unfold QW RW
  rw [e 2 (by omega), e 3 (by omega), e 4 (by omega), e 6 (by omega), e 7 (by omega)]
  refine ⟨h1, ⟨h2.1, h46, fun x x0 x1 => ?_⟩, h3, h4, h5⟩
  have g := h2.2.2 x x0 x1
  unfold RW1 EW PW key at g ⊢
  obtain ⟨g1, g2, g3, g4, g5, g6, g7⟩ := g
  rw [e (514 + 40 * x) (by omega), e (516 + 40 * x) (by omega), e (517 + 40 * x) (by omega)]
  refine ⟨g1, ?_, g3, g4, fun k k0 k1 => ?_, fun p p0 p1 => ?_, fun p p' p0 p1 p2 => ?_⟩
  · by_cases q : x = r
    · rw [q, up_eq]; exact hv
    · rw [e _ (by omega)]; exact g2
  · rw [e (518 + 40 * x + 3 * k + 0) (by omega), e (518 + 40 * x + 3 * k + 1) (by omega), e (518 + 40 * x + 3 * k + 2) (by omega)]
    exact g5 k k0 k1
  · rw [e (536 + 40 * x + 3 * p + 0) (by omega), e (536 + 40 * x + 3 * p + 1) (by omega), e (536 + 40 * x + 3 * p + 2) (by omega)]
    have k := g6 p p0 p1
    refine ⟨k.1, k.2.1, k.2.2.1, k.2.2.2.1, fun q => ?_⟩
    obtain ⟨a1, a2, y, a3, a4, a5⟩ := k.2.2.2.2 q
    refine ⟨a1, a2, y, a3, a4, ?_⟩
    rw [e (518 + 40 * x + 3 * y + 0) (by omega), e (518 + 40 * x + 3 * y + 1) (by omega)]
    exact a5
  · rw [e (536 + 40 * x + 3 * p + 0) (by omega), e (536 + 40 * x + 3 * p + 1) (by omega), e (536 + 40 * x + 3 * p + 2) (by omega), e (536 + 40 * x + 3 * p' + 0) (by omega), e (536 + 40 * x + 3 * p' + 1) (by omega)]
    exact g7 p p' p0 p1 p2
theorem up_self {B : Int → Int} {j v w : Int} (h : w = B j) : up (up B j v) j w = B := by
  funext k
  by_cases q : k = j
  · rw [q, up_eq, h]
  · rw [up_ne q, up_ne q]
theorem ref_without (hm : WX10 G m) (h : RR m I B H B' H' T fk fp) (hQ : QW B) {r : Int} : jRI E (jA m) kX10_without [VR m, VI r] G I (fun x I' => x = anWithout B r ∧ RR m I' B H B' H' T fk fp) := by
  have e4 : I (m + 1) 4 = B 4 := h.at (by omega)
  have h4 := hQ.2.1
  have h46 := h4.2.1
  unfold anWithout
  refine en_X10_without hm (fun _ _ => ?_)
  rw [e4]
  refine ⟨⟨h4.1, h46⟩, fun q => ⟨⟨by omega, by omega⟩, ⟨by omega, by omega⟩, fun M6 e6 => ?_⟩, fun q => ⟨by rw [if_neg q], h⟩⟩
  have ew : I (m + 1) (514 + 40 * r + 1) = B (515 + 40 * r) := by
    rw [show 514 + 40 * r + 1 = 515 + 40 * r by omega]
    exact h.at (by omega)
  rw [show 514 + 40 * r + 1 = 515 + 40 * r by omega] at e6 ew ⊢
  have hr6 := h.set e6 (by omega)
  refine (ref_lay hm hr6 (hQ.off q ⟨by omega, by omega⟩)).mono (fun I7 _ g => ⟨⟨by omega, by omega⟩, fun M9 e9 => ⟨?_, ?_⟩⟩)
  · rw [if_pos q]
    exact g.2.1.2.2.2.2.1
  · have := g.1.set e9 (by omega)
    rw [up_self ew] at this
    exact this
theorem ref_silenced (hm : WX10 G m) (h : RR m I B H B' H' T fk fp) (hQ : QW B) {i w : Int} : jRI E (jA m) kX10_silenced [VR m, VI i, VI w] G I (fun x I' => x = anSilenced B i w ∧ RR m I' B H B' H' T fk fp) := by
  have e3 : I (m + 1) 3 = B 3 := h.at (by omega)
  have h3 := hQ.2.2.1
  unfold anSilenced
  refine en_X10_silenced hm (fun _ _ _ => ?_)
  rw [e3]
  refine ⟨⟨by omega, by omega⟩, fun q => ⟨by rw [if_neg (by omega)], h⟩, fun q => ⟨fun q1 => ⟨by rw [if_neg (by omega)], h⟩, fun q1 => ⟨⟨by omega, by omega⟩, ?_, h⟩⟩⟩
  rw [if_pos (by omega)]
  exact h.at (by omega)
theorem ref_isSilent (hm : WX10 G m) (h : RR m I B H B' H' T fk fp) (hQ : QW B) {i : Int} : jRI E (jA m) kX10_isSilent [VR m, VI i] G I (fun x I' => x = jI ((0 ≤ i ∧ i < B 2) ∧ sil B i (i + 1)) ∧ RR m I' B H B' H' T fk fp) := by
  have e2 : I (m + 1) 2 = B 2 := h.at (by omega)
  have e3 : I (m + 1) 3 = B 3 := h.at (by omega)
  have h2 := hQ.1
  have h3 := hQ.2.2.1
  have es : sil (I (m + 1)) i (i + 1) ↔ sil B i (i + 1) := ⟨sil_congr h.1.eqS (by rw [e3]; exact h3), sil_congr h.1.eqS.symm h3⟩
  refine en_X10_isSilent hm (fun _ _ => ?_)
  rw [e2, e3]
  exact ⟨h2, fun q => ⟨(jI_neg (fun g => q g.1)).symm, h⟩, fun q => ⟨⟨by omega, by omega⟩, h3, fun q1 => ⟨(jI_neg (fun g => q1 (es.mpr g.2))).symm, h⟩, fun q1 => ⟨(jI_pos ⟨q, es.mp q1⟩).symm, h⟩⟩⟩
theorem ref_yielding (hm : WX10 G m) (h : RR m I B H B' H' T fk fp) (hW : BW c B) {i : Int} : jRI E (jA m) kX10_yielding [VR m, VI i] G I (fun x I' => x = anYielding B i ∧ RR m I' B H B' H' T fk fp) := by
  have e7 : I (m + 1) 7 = B 7 := h.at (by omega)
  have h7 := hW.1.2.2.2.2
  have h4 := hW.1.2.1.2.1
  unfold anYielding
  refine en_X10_yielding hm (fun _ _ => ?_)
  rw [e7]
  refine ⟨⟨by omega, by omega⟩, fun q => ⟨by rw [if_neg (by omega)], h⟩, fun q => ?_⟩
  have hy := hW.2.2.2.2.2.1 i q.1 (by omega)
  rw [h.at (j := 426 + 2 * i) (by omega), h.at (j := 426 + 2 * i + 1) (by omega), if_pos (by omega)]
  exact ⟨⟨by omega, by omega⟩, ⟨by omega, by omega⟩, ⟨by omega, by omega⟩, rfl, h⟩
theorem ref_paint (hm : WX10 G m) (h : RR m I B H B' H' T fk fp) (hW : BW c B) {i : Int} : jRI E (jA m) kX10_paint [VR m, VI i] G I (fun x I' => x = anPaint B i ∧ RR m I' B H B' H' T fk fp) := by
  have e2 : I (m + 1) 2 = B 2 := h.at (by omega)
  have h2 := hW.1.1
  unfold anPaint
  refine en_X10_paint hm (fun _ _ => ?_)
  rw [e2]
  refine ⟨h2, fun q => ⟨by rw [if_neg q], h⟩, fun q => ?_⟩
  have hp := hW.2.1 i q.1 q.2
  rw [h.at (j := 210 + i) (by omega), if_pos q]
  exact ⟨⟨by omega, by omega⟩, ⟨by omega, by omega⟩, rfl, h⟩
theorem ref_painted (hm : WX10 G m) (h : RR m I B H B' H' T fk fp) (hQ : QW B) {r : Int} : jRI E (jA m) kX10_painted [VR m, VI r] G I (fun x I' => x = anPainted B r ∧ RR m I' B H B' H' T fk fp) := by
  have e2 : I (m + 1) 2 = B 2 := h.at (by omega)
  have e4 : I (m + 1) 4 = B 4 := h.at (by omega)
  have h2 := hQ.1
  have h4 := hQ.2.1
  have h46 := h4.2.1
  unfold anPainted
  refine en_X10_painted hm (fun _ _ => ?_)
  rw [e4]
  refine ⟨⟨h4.1, h46⟩, fun q => ?_, fun q => ⟨by rw [if_neg q], h⟩⟩
  have loop : ∀ (d : Nat) (i v : Int), 0 ≤ i → i + d = B 2 → 0 ≤ v → v ≤ i → jOI E (jA m) kX10_painted 14 [VR m, VI r, VI v, VI i] G I (fun x I' => x = v + sumJ (fun i => jI (B (210 + i) = r + 1)) i d ∧ RR m I' B H B' H' T fk fp) := by
    intro d
    induction d with
    | zero =>
      intro i v i0 i1 v0 v1
      exact st_X10_painted_14 hm (fun _ _ _ _ => ⟨fun _ => ⟨by show v = v + 0; omega, h⟩, fun q => by rw [e2] at q; omega⟩)
    | succ d ih =>
      intro i v i0 i1 v0 v1
      have nx : ∀ y, y = jI (B (210 + i) = r + 1) → jIn (v + y) ∧ jIn (i + 1) ∧ jOI E (jA m) kX10_painted 14 [VR m, VI r, VI (v + y), VI (i + 1)] G I (fun x I' => x = v + sumJ (fun i => jI (B (210 + i) = r + 1)) i (d + 1) ∧ RR m I' B H B' H' T fk fp) := by
        intro y e
        have b := jI_01 (P := B (210 + i) = r + 1)
        refine ⟨⟨by omega, by omega⟩, ⟨by omega, by omega⟩, (ih (i + 1) (v + y) (by omega) (by omega) (by omega) (by omega)).mono (fun x I' _ g' => ⟨?_, g'.2⟩)⟩
        rw [g'.1, sumJ_s]
        omega
      refine st_X10_painted_14 hm (fun _ _ _ _ => ⟨fun q => by rw [e2] at q; omega, fun _ => ⟨⟨by omega, by omega⟩, ⟨by omega, by omega⟩, ?_⟩⟩)
      rw [h.at (j := 210 + i) (by omega)]
      exact ⟨fun q => nx 0 (jI_neg q).symm, fun q => nx 1 (jI_pos q).symm⟩
  refine (loop (B 2).toNat 0 0 (by omega) (by omega) (by omega) (by omega)).mono (fun x I' _ g => ⟨?_, g.2⟩)
  rw [if_pos q, g.1]
  omega
theorem ref_book (hm : WX10 G m) (h : RR m I B H B' H' T fk fp) (hW : BW c B) {i w : Int} : jRI E (jA m) kX10_book [VR m, VI i, VI w] G I (fun x I' => x = anBook B i w ∧ RR m I' B H B' H' T fk fp) := by
  have e9 : I (m + 1) 9 = B 9 := h.at (by omega)
  have h9 := hW.2.2.2.2.2.2.2.1
  unfold anBook
  refine en_X10_book hm (fun _ _ _ => ?_)
  rw [e9]
  refine ⟨fun q => ⟨⟨by omega, by omega⟩, fun q1 => ⟨by rw [if_neg q, if_neg (by omega)], h⟩, fun q1 => ⟨fun q2 => ⟨by rw [if_neg q, if_neg (by omega)], h⟩, fun q2 => ⟨⟨by omega, by omega⟩, ?_, h⟩⟩⟩, fun q => ⟨by rw [if_pos q], h⟩⟩
  rw [if_neg q, if_pos (by omega)]
  exact h.at (by omega)
theorem like_iff {S S' : Int → Int} {n : Int} {b : Int → Int} (h : EqS S S') (h2 : S 2 ≤ 200) (h2' : S' 2 ≤ 200) (hTk : Tk (fun i => S (10 + i)) (S 2) n b) (hTk' : Tk (fun i => S' (10 + i)) (S' 2) n b) {t u : Int} (t0 : 0 ≤ t) (t1 : t < n) (u0 : 0 ≤ u) (u1 : u < n) : like S b t u ↔ like S' b t u := ⟨like_congr h h2 hTk t0 t1 u0 u1, like_congr h.symm h2' hTk' t0 t1 u0 u1⟩
theorem ref_common (hm : WX10 G m) (h : RR m I B H B' H' T fk fp) (hQ : QW B) {w : Int} : jRI E (jA m) kX10_common [VR m, VI w] G I (fun x I' => x = anCommon B w ∧ RR m I' B H B' H' T fk fp) := by
  have hTk := tkS hQ.1.1
  have hn := hTk.n_le
  have hn0 := hTk.1
  have h2 := hQ.1
  have hQS := h.1.qw hQ
  have ean : ∀ s : Int × Int, comF B 0 (nT B).toNat (-1, 0) = s → (0 ≤ w ∧ w ≤ 1) → anCommon B w = (if w = 0 ∨ s.1 = -1 then s.1 else s.2) := fun s e q => by unfold anCommon; rw [e, if_pos q]
  refine en_X10_common hm (fun _ _ => ⟨fun q => (ref_layT hm h hQ).mono (fun I2 _ g => ?_), fun q => ⟨by unfold anCommon; rw [if_neg q], h⟩⟩)
  obtain ⟨hr, hT⟩ := g
  have e4 := hT.2.2.2.1
  have inner : ∀ (bs ms t : Int) (qq : Int → jM → Prop), 0 ≤ t → t < nT B → ((ms < nLike B t → jIn (t + 1) ∧ jOI E (jA m) kX10_common 22 [VR m, VI w, VI t, VI (nLike B t), VI (t + 1), VN, VN] G I2 qq) ∧ (¬ ms < nLike B t → jIn (t + 1) ∧ jOI E (jA m) kX10_common 22 [VR m, VI w, VI bs, VI ms, VI (t + 1), VN, VN] G I2 qq)) → ∀ (d : Nat) (k v : Int), 0 ≤ k → k + d = nT B → 0 ≤ v → v ≤ k → v + sumJ (fun k => jI (like B (bT B) t k)) k d = nLike B t → jOI E (jA m) kX10_common 57 [VR m, VI w, VI bs, VI ms, VI t, VI v, VI k] G I2 qq := by
    intro bs ms t qq t0 t1 hq d
    induction d with
    | zero =>
      intro k v k0 k1 v0 v1 e
      have e' : v = nLike B t := by rw [← e]; show v = v + 0; omega
      rw [e']
      exact st_X10_common_57 hm (fun _ _ _ _ _ _ _ => ⟨fun _ => hq, fun q => by rw [e4] at q; omega⟩)
    | succ d ih =>
      intro k v k0 k1 v0 v1 e
      rw [sumJ_s] at e
      refine st_X10_common_57 hm (fun _ _ _ _ _ _ _ => ⟨fun q => by rw [e4] at q; omega, fun _ => ?_⟩)
      refine (sp_X10_areLike hm hT t0 t1 k0 (by omega)).mono (fun x I3 _ _ g => ?_)
      obtain ⟨rfl, rfl⟩ := g
      have el := like_iff h.1.eqS hQS.1.2 hQ.1.2 hT.2.2.1 hTk t0 t1 k0 (by omega)
      rw [jI_congr el]
      refine ⟨fun q => ⟨⟨by omega, by omega⟩, ⟨by omega, by omega⟩, ih (k + 1) (v + 0) (by omega) (by omega) (by omega) (by omega) ?_⟩, fun q => ⟨⟨by omega, by omega⟩, ⟨by omega, by omega⟩, ih (k + 1) (v + 1) (by omega) (by omega) (by omega) (by omega) ?_⟩⟩
      · omega
      · have := jI_pos (jI_p q); omega
  have loop : ∀ (d : Nat) (t : Int) (s : Int × Int), 0 ≤ t → t + d = nT B → comF B t d s = comF B 0 (nT B).toNat (-1, 0) → jOI E (jA m) kX10_common 22 [VR m, VI w, VI s.1, VI s.2, VI t, VN, VN] G I2 (fun x I' => x = anCommon B w ∧ RR m I' B H B' H' T fk fp) := by
    intro d
    induction d with
    | zero =>
      intro t s t0 t1 e
      have ea := ean s e.symm q
      refine st_X10_common_22 hm (fun _ _ _ _ _ => ⟨fun _ => ⟨fun q1 => ⟨?_, hr⟩, fun q1 => ⟨fun q2 => ⟨?_, hr⟩, fun q2 => ⟨?_, hr⟩⟩⟩, fun q => by rw [e4] at q; omega⟩)
      · rw [ea, if_pos (Or.inl q1)]
      · rw [ea, if_neg (fun g => g.elim q1 q2)]
      · rw [ea, if_pos (Or.inr q2)]
    | succ d ih =>
      intro t s t0 t1 e
      have es : comF B t (d + 1) s = comF B (t + 1) d (@ite _ (srt (B (10 + bT B t)) = 0 ∧ s.2 < nLike B t) (Classical.propDecidable _) (t, nLike B t) s) := rfl
      rw [es] at e
      have r := hT.2.2.2.2 t t0 (by omega)
      have bd := hTk.bd (t := t) t0 (by omega)
      have bd1 := hTk.le (t := t) (u := t + 1) t0 (by omega) (by omega)
      have bd2 := hTk.bd (t := t + 1) (by omega) (by omega)
      refine st_X10_common_22 hm (fun _ _ _ _ _ => ⟨fun q => by rw [e4] at q; omega, fun _ => ⟨⟨by omega, by omega⟩, ?_⟩⟩)
      rw [r.1, hr.at (j := 10 + bT B t) (by omega)]
      refine ⟨⟨by omega, by omega⟩, fun q1 => inner s.1 s.2 t _ t0 (by omega) ⟨fun q2 => ⟨⟨by omega, by omega⟩, ?_⟩, fun q2 => ⟨⟨by omega, by omega⟩, ?_⟩⟩ (nT B).toNat 0 0 (by omega) (by omega) (by omega) (by omega) ?_, fun q1 => ⟨⟨by omega, by omega⟩, ?_⟩⟩
      · rw [if_pos ⟨q1, q2⟩] at e
        exact ih (t + 1) (t, nLike B t) (by omega) (by omega) e
      · rw [if_neg (fun g => q2 g.2)] at e
        exact ih (t + 1) s (by omega) (by omega) e
      · unfold nLike; omega
      · rw [if_neg (fun g => q1 g.1)] at e
        exact ih (t + 1) s (by omega) (by omega) e
  exact loop (nT B).toNat 0 (-1, 0) (by omega) (by omega) rfl
end RZ
