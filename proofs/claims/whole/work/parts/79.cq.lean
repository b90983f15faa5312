/-! ===== the class: what is asked ===== -/
set_option maxRecDepth 20000 in
theorem st_X9_is_0 {E : jE} {G : jG} {I : jM} {q : Int → jM → Prop} {m : Nat} {x1 : Int} (hm : WX9 G m) (hT : (∀ a j, jRg (G.2.1 a).1 (I a j)) → jIn x1 → (((x1 < 0 ∨ 15 < x1) → q (-1) I) ∧ (x1 = 0 → q (I (m + 196) 2) I) ∧ (x1 = 1 → jRA E jB kX9_found [VR m] G I (fun r2 I1 => WX1 G r2 ∧ q (I1 (r2 + 1) 2) I1)) ∧ (x1 = 2 → (∃ b4 : Nat, I (m + 195) 1 = (b4 : Int) ∧ WX6 G b4 ∧ q (I b4 1) I)) ∧ (x1 = 3 → q (I (m + 195) 2) I) ∧ (x1 = 4 → jRA E jB kX9_found [VR m] G I (fun r8 I7 => WX1 G r8 ∧ q (I7 r8 5) I7)) ∧ (x1 = 5 → jRA E jB kX9_found [VR m] G I (fun r11 I10 => WX1 G r11 ∧ jRI E jB kX1_countMarked [VR r11, VI 1] G I10 (fun r14 I13 => q r14 I13))) ∧ (x1 = 6 → q (I (m + 196) 5) I) ∧ (x1 = 7 → q (I (m + 195) 3) I) ∧ (x1 = 8 → q (I (m + 195) 4) I) ∧ (x1 = 9 → q (I (m + 195) 10) I) ∧ (x1 = 10 → q (I m 1) I) ∧ (x1 = 11 → jRA E jB kX9_found [VR m] G I (fun r17 I16 => WX1 G r17 ∧ jRI E jB kX1_countMarked [VR r17, VI 2] G I16 (fun r20 I19 => q r20 I19))) ∧ (x1 = 12 → q (I (m + 195) 7) I) ∧ (x1 = 13 → jRI E jB kX0_countUnpaired [VR (m + 164), VR (m + 196)] G I (fun r23 I22 => q r23 I22)) ∧ (x1 = 14 → jRI E jB kX4_countLines [VR (m + 196)] G I (fun r26 I25 => q r26 I25)) ∧ (x1 = 15 → jRI E jB kX4_longestLine [VR (m + 196)] G I (fun r29 I28 => q r29 I28)))) : jOI E jB kX9_is 0 [VR m, VI x1] G I q := by
  intro I0 hF
  refine jOk_mem (fun hI => ?_)
  refine jOk_in (i := 1) rfl (fun hx1 => ?_)
  replace hT := hT hI hx1
  refine r_iload_n dX9_is_0 rfl (i := 1) rfl ?_
  by_cases hcc : x1 < 0 ∨ 15 < x1
  · replace hT := hT.1 hcc
    refine r_tswOut (tgt := 232) dX9_is_1 hx1 hcc rfl ?_
    refine r_iconst (n := (-1)) dX9_is_232 ?_
    exact r_iret dX9_is_233 rfl ⟨by decide, by decide⟩ ⟨Nat.zero_le _, Nat.zero_le _⟩ ⟨_, rfl, rfl, hF, hT⟩
  · replace hT := hT.2
    have hc2 : x1 = 0 ∨ x1 = 1 ∨ x1 = 2 ∨ x1 = 3 ∨ x1 = 4 ∨ x1 = 5 ∨ x1 = 6 ∨ x1 = 7 ∨ x1 = 8 ∨ x1 = 9 ∨ x1 = 10 ∨ x1 = 11 ∨ x1 = 12 ∨ x1 = 13 ∨ x1 = 14 ∨ x1 = 15 := by omega
    rcases hc2 with hc2 | hc2 | hc2 | hc2 | hc2 | hc2 | hc2 | hc2 | hc2 | hc2 | hc2 | hc2 | hc2 | hc2 | hc2 | hc2
    · replace hT := hT.1 hc2
      refine r_tswIn (tgt := 80) (off := 79) dX9_is_1 hx1 (by omega) (by omega) (by rw [hc2]; rfl) rfl ?_
      refine r_aload_n dX9_is_80 rfl (i := 0) rfl ?_
      refine rr_getR (b := (m + 195)) dX9_is_81 fg_X9_59 rfl rfl (wX9_l hm) (wX9_s hm) (wX9_r4 hm) ?_
      refine rr_getR (b := (m + 196)) dX9_is_84 fg_X9_103 rfl rfl (wX7_l (wX9_o4 hm)) (wX7_s (wX9_o4 hm)) (wX7_r0 (wX9_o4 hm)) ?_
      refine rr_getI (v := I (m + 196) 2) dX9_is_87 fg_X9_138 rfl (wX4_l (wX7_o0 (wX9_o4 hm))) (wX4_s (wX7_o0 (wX9_o4 hm))) rfl ?_
      exact r_iret dX9_is_90 rfl (hI _ _).inR ⟨Nat.zero_le _, Nat.zero_le _⟩ ⟨_, rfl, rfl, hF, hT⟩
    · replace hT := hT.2.1 hc2
      refine r_tswIn (tgt := 91) (off := 90) dX9_is_1 hx1 (by omega) (by omega) (by rw [hc2]; rfl) rfl ?_
      refine r_aload_n dX9_is_91 rfl (i := 0) rfl ?_
      refine rr_cVA (a := m) (as := []) (st := []) dX9_is_92 mt_X9_found ml_X9_182 mi_X9_found rm_X9_is_X9_found jz_X9_found ⟨Nat.zero_le _, Nat.zero_le _⟩ (Nat.le_of_ble_eq_true rfl) (wX9_l hm) (wX9_c hm) jas0 hT (fun r2 I1 hFI1 hT => ?_)
      replace hFI1 := jFr_tr hF hFI1
      refine jOk_mem (fun hI1 => ?_)
      obtain ⟨hc3, hT⟩ := hT
      refine rr_getR (b := (r2 + 1)) dX9_is_95 fg_X9_221 rfl rfl (wX1_l hc3) (wX1_s hc3) (wX1_r2 hc3) ?_
      refine rr_getI (v := I1 (r2 + 1) 2) dX9_is_98 fg_X9_225 rfl (wX8_l (wX1_o2 hc3)) (wX8_s (wX1_o2 hc3)) rfl ?_
      exact r_iret dX9_is_101 rfl (hI1 _ _).inR ⟨Nat.zero_le _, Nat.zero_le _⟩ ⟨_, rfl, rfl, hFI1, hT⟩
    · replace hT := hT.2.2.1 hc2
      refine r_tswIn (tgt := 102) (off := 101) dX9_is_1 hx1 (by omega) (by omega) (by rw [hc2]; rfl) rfl ?_
      refine r_aload_n dX9_is_102 rfl (i := 0) rfl ?_
      refine rr_getR (b := (m + 195)) dX9_is_103 fg_X9_59 rfl rfl (wX9_l hm) (wX9_s hm) (wX9_r4 hm) ?_
      obtain ⟨b4, hc5, hc6, hT⟩ := hT
      refine rr_getM (b := b4) dX9_is_106 fg_X9_117 rfl rfl (wX7_l (wX9_o4 hm)) (wX7_s (wX9_o4 hm)) hc5 ?_
      refine rr_getI (v := I b4 1) dX9_is_109 fg_X9_120 rfl (wX6_l hc6) (wX6_s hc6) rfl ?_
      exact r_iret dX9_is_112 rfl (hI _ _).inR ⟨Nat.zero_le _, Nat.zero_le _⟩ ⟨_, rfl, rfl, hF, hT⟩
    · replace hT := hT.2.2.2.1 hc2
      refine r_tswIn (tgt := 113) (off := 112) dX9_is_1 hx1 (by omega) (by omega) (by rw [hc2]; rfl) rfl ?_
      refine r_aload_n dX9_is_113 rfl (i := 0) rfl ?_
      refine rr_getR (b := (m + 195)) dX9_is_114 fg_X9_59 rfl rfl (wX9_l hm) (wX9_s hm) (wX9_r4 hm) ?_
      refine rr_getI (v := I (m + 195) 2) dX9_is_117 fg_X9_135 rfl (wX7_l (wX9_o4 hm)) (wX7_s (wX9_o4 hm)) rfl ?_
      exact r_iret dX9_is_120 rfl (hI _ _).inR ⟨Nat.zero_le _, Nat.zero_le _⟩ ⟨_, rfl, rfl, hF, hT⟩
    · replace hT := hT.2.2.2.2.1 hc2
      refine r_tswIn (tgt := 121) (off := 120) dX9_is_1 hx1 (by omega) (by omega) (by rw [hc2]; rfl) rfl ?_
      refine r_aload_n dX9_is_121 rfl (i := 0) rfl ?_
      refine rr_cVA (a := m) (as := []) (st := []) dX9_is_122 mt_X9_found ml_X9_182 mi_X9_found rm_X9_is_X9_found jz_X9_found ⟨Nat.zero_le _, Nat.zero_le _⟩ (Nat.le_of_ble_eq_true rfl) (wX9_l hm) (wX9_c hm) jas0 hT (fun r8 I7 hFI7 hT => ?_)
      replace hFI7 := jFr_tr hF hFI7
      refine jOk_mem (fun hI7 => ?_)
      obtain ⟨hc9, hT⟩ := hT
      refine rr_getI (v := I7 r8 5) dX9_is_125 fg_X9_228 rfl (wX1_l hc9) (wX1_s hc9) rfl ?_
      exact r_iret dX9_is_128 rfl (hI7 _ _).inR ⟨Nat.zero_le _, Nat.zero_le _⟩ ⟨_, rfl, rfl, hFI7, hT⟩
    · replace hT := hT.2.2.2.2.2.1 hc2
      refine r_tswIn (tgt := 129) (off := 128) dX9_is_1 hx1 (by omega) (by omega) (by rw [hc2]; rfl) rfl ?_
      refine r_aload_n dX9_is_129 rfl (i := 0) rfl ?_
      refine rr_cVA (a := m) (as := []) (st := []) dX9_is_130 mt_X9_found ml_X9_182 mi_X9_found rm_X9_is_X9_found jz_X9_found ⟨Nat.zero_le _, Nat.zero_le _⟩ (Nat.le_of_ble_eq_true rfl) (wX9_l hm) (wX9_c hm) jas0 hT (fun r11 I10 hFI10 hT => ?_)
      replace hFI10 := jFr_tr hF hFI10
      refine jOk_mem (fun hI10 => ?_)
      obtain ⟨hc12, hT⟩ := hT
      refine r_iconst (n := 1) dX9_is_133 ?_
      refine rr_cVI (a := r11) (as := [VI 1]) (st := []) dX9_is_134 mt_X1_countMarked ml_X9_229 mi_X1_countMarked rm_X9_is_X1_countMarked jz_X1_countMarked ⟨Nat.zero_le _, Nat.zero_le _⟩ (Nat.le_of_ble_eq_true rfl) (wX1_l hc12) (wX1_c hc12) (jasI ⟨by decide, by decide⟩ jas0) hT (fun r14 I13 hc15 hFI13 hT => ?_)
      replace hFI13 := jFr_tr hFI10 hFI13
      refine jOk_mem (fun hI13 => ?_)
      exact r_iret dX9_is_137 rfl hc15 ⟨Nat.zero_le _, Nat.zero_le _⟩ ⟨_, rfl, rfl, hFI13, hT⟩
    · replace hT := hT.2.2.2.2.2.2.1 hc2
      refine r_tswIn (tgt := 138) (off := 137) dX9_is_1 hx1 (by omega) (by omega) (by rw [hc2]; rfl) rfl ?_
      refine r_aload_n dX9_is_138 rfl (i := 0) rfl ?_
      refine rr_getR (b := (m + 195)) dX9_is_139 fg_X9_59 rfl rfl (wX9_l hm) (wX9_s hm) (wX9_r4 hm) ?_
      refine rr_getR (b := (m + 196)) dX9_is_142 fg_X9_103 rfl rfl (wX7_l (wX9_o4 hm)) (wX7_s (wX9_o4 hm)) (wX7_r0 (wX9_o4 hm)) ?_
      refine rr_getI (v := I (m + 196) 5) dX9_is_145 fg_X9_141 rfl (wX4_l (wX7_o0 (wX9_o4 hm))) (wX4_s (wX7_o0 (wX9_o4 hm))) rfl ?_
      exact r_iret dX9_is_148 rfl (hI _ _).inR ⟨Nat.zero_le _, Nat.zero_le _⟩ ⟨_, rfl, rfl, hF, hT⟩
    · replace hT := hT.2.2.2.2.2.2.2.1 hc2
      refine r_tswIn (tgt := 149) (off := 148) dX9_is_1 hx1 (by omega) (by omega) (by rw [hc2]; rfl) rfl ?_
      refine r_aload_n dX9_is_149 rfl (i := 0) rfl ?_
      refine rr_getR (b := (m + 195)) dX9_is_150 fg_X9_59 rfl rfl (wX9_l hm) (wX9_s hm) (wX9_r4 hm) ?_
      refine rr_getI (v := I (m + 195) 3) dX9_is_153 fg_X9_151 rfl (wX7_l (wX9_o4 hm)) (wX7_s (wX9_o4 hm)) rfl ?_
      exact r_iret dX9_is_156 rfl (hI _ _).inR ⟨Nat.zero_le _, Nat.zero_le _⟩ ⟨_, rfl, rfl, hF, hT⟩
    · replace hT := hT.2.2.2.2.2.2.2.2.1 hc2
      refine r_tswIn (tgt := 157) (off := 156) dX9_is_1 hx1 (by omega) (by omega) (by rw [hc2]; rfl) rfl ?_
      refine r_aload_n dX9_is_157 rfl (i := 0) rfl ?_
      refine rr_getR (b := (m + 195)) dX9_is_158 fg_X9_59 rfl rfl (wX9_l hm) (wX9_s hm) (wX9_r4 hm) ?_
      refine rr_getI (v := I (m + 195) 4) dX9_is_161 fg_X9_154 rfl (wX7_l (wX9_o4 hm)) (wX7_s (wX9_o4 hm)) rfl ?_
      exact r_iret dX9_is_164 rfl (hI _ _).inR ⟨Nat.zero_le _, Nat.zero_le _⟩ ⟨_, rfl, rfl, hF, hT⟩
    · replace hT := hT.2.2.2.2.2.2.2.2.2.1 hc2
      refine r_tswIn (tgt := 165) (off := 164) dX9_is_1 hx1 (by omega) (by omega) (by rw [hc2]; rfl) rfl ?_
      refine r_aload_n dX9_is_165 rfl (i := 0) rfl ?_
      refine rr_getR (b := (m + 195)) dX9_is_166 fg_X9_59 rfl rfl (wX9_l hm) (wX9_s hm) (wX9_r4 hm) ?_
      refine rr_getI (v := I (m + 195) 10) dX9_is_169 fg_X9_233 rfl (wX7_l (wX9_o4 hm)) (wX7_s (wX9_o4 hm)) rfl ?_
      exact r_iret dX9_is_172 rfl (hI _ _).inR ⟨Nat.zero_le _, Nat.zero_le _⟩ ⟨_, rfl, rfl, hF, hT⟩
    · replace hT := hT.2.2.2.2.2.2.2.2.2.2.1 hc2
      refine r_tswIn (tgt := 173) (off := 172) dX9_is_1 hx1 (by omega) (by omega) (by rw [hc2]; rfl) rfl ?_
      refine r_aload_n dX9_is_173 rfl (i := 0) rfl ?_
      refine rr_getI (v := I m 1) dX9_is_174 fg_X9_88 rfl (wX9_l hm) (wX9_s hm) rfl ?_
      exact r_iret dX9_is_177 rfl (hI _ _).inR ⟨Nat.zero_le _, Nat.zero_le _⟩ ⟨_, rfl, rfl, hF, hT⟩
    · replace hT := hT.2.2.2.2.2.2.2.2.2.2.2.1 hc2
      refine r_tswIn (tgt := 178) (off := 177) dX9_is_1 hx1 (by omega) (by omega) (by rw [hc2]; rfl) rfl ?_
      refine r_aload_n dX9_is_178 rfl (i := 0) rfl ?_
      refine rr_cVA (a := m) (as := []) (st := []) dX9_is_179 mt_X9_found ml_X9_182 mi_X9_found rm_X9_is_X9_found jz_X9_found ⟨Nat.zero_le _, Nat.zero_le _⟩ (Nat.le_of_ble_eq_true rfl) (wX9_l hm) (wX9_c hm) jas0 hT (fun r17 I16 hFI16 hT => ?_)
      replace hFI16 := jFr_tr hF hFI16
      refine jOk_mem (fun hI16 => ?_)
      obtain ⟨hc18, hT⟩ := hT
      refine r_iconst (n := 2) dX9_is_182 ?_
      refine rr_cVI (a := r17) (as := [VI 2]) (st := []) dX9_is_183 mt_X1_countMarked ml_X9_229 mi_X1_countMarked rm_X9_is_X1_countMarked jz_X1_countMarked ⟨Nat.zero_le _, Nat.zero_le _⟩ (Nat.le_of_ble_eq_true rfl) (wX1_l hc18) (wX1_c hc18) (jasI ⟨by decide, by decide⟩ jas0) hT (fun r20 I19 hc21 hFI19 hT => ?_)
      replace hFI19 := jFr_tr hFI16 hFI19
      refine jOk_mem (fun hI19 => ?_)
      exact r_iret dX9_is_186 rfl hc21 ⟨Nat.zero_le _, Nat.zero_le _⟩ ⟨_, rfl, rfl, hFI19, hT⟩
    · replace hT := hT.2.2.2.2.2.2.2.2.2.2.2.2.1 hc2
      refine r_tswIn (tgt := 187) (off := 186) dX9_is_1 hx1 (by omega) (by omega) (by rw [hc2]; rfl) rfl ?_
      refine r_aload_n dX9_is_187 rfl (i := 0) rfl ?_
      refine rr_getR (b := (m + 195)) dX9_is_188 fg_X9_59 rfl rfl (wX9_l hm) (wX9_s hm) (wX9_r4 hm) ?_
      refine rr_getI (v := I (m + 195) 7) dX9_is_191 fg_X9_170 rfl (wX7_l (wX9_o4 hm)) (wX7_s (wX9_o4 hm)) rfl ?_
      exact r_iret dX9_is_194 rfl (hI _ _).inR ⟨Nat.zero_le _, Nat.zero_le _⟩ ⟨_, rfl, rfl, hF, hT⟩
    · replace hT := hT.2.2.2.2.2.2.2.2.2.2.2.2.2.1 hc2
      refine r_tswIn (tgt := 195) (off := 194) dX9_is_1 hx1 (by omega) (by omega) (by rw [hc2]; rfl) rfl ?_
      refine r_aload_n dX9_is_195 rfl (i := 0) rfl ?_
      refine rr_getR (b := (m + 164)) dX9_is_196 fg_X9_26 rfl rfl (wX9_l hm) (wX9_s hm) (wX9_r16 hm) ?_
      refine r_aload_n dX9_is_199 rfl (i := 0) rfl ?_
      refine rr_getR (b := (m + 195)) dX9_is_200 fg_X9_59 rfl rfl (wX9_l hm) (wX9_s hm) (wX9_r4 hm) ?_
      refine rr_getR (b := (m + 196)) dX9_is_203 fg_X9_103 rfl rfl (wX7_l (wX9_o4 hm)) (wX7_s (wX9_o4 hm)) (wX7_r0 (wX9_o4 hm)) ?_
      refine rr_cVI (a := (m + 164)) (as := [VR (m + 196)]) (st := []) dX9_is_206 mt_X0_countUnpaired ml_X9_236 mi_X0_countUnpaired rm_X9_is_X0_countUnpaired jz_X0_countUnpaired ⟨Nat.zero_le _, Nat.zero_le _⟩ (Nat.le_of_ble_eq_true rfl) (wX0_l (wX9_o16 hm)) (wX0_c (wX9_o16 hm)) (jasR jas0) hT (fun r23 I22 hc24 hFI22 hT => ?_)
      replace hFI22 := jFr_tr hF hFI22
      refine jOk_mem (fun hI22 => ?_)
      exact r_iret dX9_is_209 rfl hc24 ⟨Nat.zero_le _, Nat.zero_le _⟩ ⟨_, rfl, rfl, hFI22, hT⟩
    · replace hT := hT.2.2.2.2.2.2.2.2.2.2.2.2.2.2.1 hc2
      refine r_tswIn (tgt := 210) (off := 209) dX9_is_1 hx1 (by omega) (by omega) (by rw [hc2]; rfl) rfl ?_
      refine r_aload_n dX9_is_210 rfl (i := 0) rfl ?_
      refine rr_getR (b := (m + 195)) dX9_is_211 fg_X9_59 rfl rfl (wX9_l hm) (wX9_s hm) (wX9_r4 hm) ?_
      refine rr_getR (b := (m + 196)) dX9_is_214 fg_X9_103 rfl rfl (wX7_l (wX9_o4 hm)) (wX7_s (wX9_o4 hm)) (wX7_r0 (wX9_o4 hm)) ?_
      refine rr_cVI (a := (m + 196)) (as := []) (st := []) dX9_is_217 mt_X4_countLines ml_X9_240 mi_X4_countLines rm_X9_is_X4_countLines jz_X4_countLines ⟨Nat.zero_le _, Nat.zero_le _⟩ (Nat.le_of_ble_eq_true rfl) (wX4_l (wX7_o0 (wX9_o4 hm))) (wX4_c (wX7_o0 (wX9_o4 hm))) jas0 hT (fun r26 I25 hc27 hFI25 hT => ?_)
      replace hFI25 := jFr_tr hF hFI25
      refine jOk_mem (fun hI25 => ?_)
      exact r_iret dX9_is_220 rfl hc27 ⟨Nat.zero_le _, Nat.zero_le _⟩ ⟨_, rfl, rfl, hFI25, hT⟩
    · replace hT := hT.2.2.2.2.2.2.2.2.2.2.2.2.2.2.2 hc2
      refine r_tswIn (tgt := 221) (off := 220) dX9_is_1 hx1 (by omega) (by omega) (by rw [hc2]; rfl) rfl ?_
      refine r_aload_n dX9_is_221 rfl (i := 0) rfl ?_
      refine rr_getR (b := (m + 195)) dX9_is_222 fg_X9_59 rfl rfl (wX9_l hm) (wX9_s hm) (wX9_r4 hm) ?_
      refine rr_getR (b := (m + 196)) dX9_is_225 fg_X9_103 rfl rfl (wX7_l (wX9_o4 hm)) (wX7_s (wX9_o4 hm)) (wX7_r0 (wX9_o4 hm)) ?_
      refine rr_cVI (a := (m + 196)) (as := []) (st := []) dX9_is_228 mt_X4_longestLine ml_X9_244 mi_X4_longestLine rm_X9_is_X4_longestLine jz_X4_longestLine ⟨Nat.zero_le _, Nat.zero_le _⟩ (Nat.le_of_ble_eq_true rfl) (wX4_l (wX7_o0 (wX9_o4 hm))) (wX4_c (wX7_o0 (wX9_o4 hm))) jas0 hT (fun r29 I28 hc30 hFI28 hT => ?_)
      replace hFI28 := jFr_tr hF hFI28
      refine jOk_mem (fun hI28 => ?_)
      exact r_iret dX9_is_231 rfl hc30 ⟨Nat.zero_le _, Nat.zero_le _⟩ ⟨_, rfl, rfl, hFI28, hT⟩
theorem en_X9_is {E : jE} {G : jG} {I : jM} {q : Int → jM → Prop} {m : Nat} {x1 : Int} (hm : WX9 G m) (hT : (∀ a j, jRg (G.2.1 a).1 (I a j)) → jIn x1 → (((x1 < 0 ∨ 15 < x1) → q (-1) I) ∧ (x1 = 0 → q (I (m + 196) 2) I) ∧ (x1 = 1 → jRA E jB kX9_found [VR m] G I (fun r2 I1 => WX1 G r2 ∧ q (I1 (r2 + 1) 2) I1)) ∧ (x1 = 2 → (∃ b4 : Nat, I (m + 195) 1 = (b4 : Int) ∧ WX6 G b4 ∧ q (I b4 1) I)) ∧ (x1 = 3 → q (I (m + 195) 2) I) ∧ (x1 = 4 → jRA E jB kX9_found [VR m] G I (fun r8 I7 => WX1 G r8 ∧ q (I7 r8 5) I7)) ∧ (x1 = 5 → jRA E jB kX9_found [VR m] G I (fun r11 I10 => WX1 G r11 ∧ jRI E jB kX1_countMarked [VR r11, VI 1] G I10 (fun r14 I13 => q r14 I13))) ∧ (x1 = 6 → q (I (m + 196) 5) I) ∧ (x1 = 7 → q (I (m + 195) 3) I) ∧ (x1 = 8 → q (I (m + 195) 4) I) ∧ (x1 = 9 → q (I (m + 195) 10) I) ∧ (x1 = 10 → q (I m 1) I) ∧ (x1 = 11 → jRA E jB kX9_found [VR m] G I (fun r17 I16 => WX1 G r17 ∧ jRI E jB kX1_countMarked [VR r17, VI 2] G I16 (fun r20 I19 => q r20 I19))) ∧ (x1 = 12 → q (I (m + 195) 7) I) ∧ (x1 = 13 → jRI E jB kX0_countUnpaired [VR (m + 164), VR (m + 196)] G I (fun r23 I22 => q r23 I22)) ∧ (x1 = 14 → jRI E jB kX4_countLines [VR (m + 196)] G I (fun r26 I25 => q r26 I25)) ∧ (x1 = 15 → jRI E jB kX4_longestLine [VR (m + 196)] G I (fun r29 I28 => q r29 I28)))) : jRI E jB kX9_is [VR m, VI x1] G I q := jRun.of mt_X9_is.2.2.2 0 rfl (fun _ => st_X9_is_0 hm hT I (fun _ _ => rfl))
set_option maxRecDepth 20000 in
theorem st_X9_at_0 {E : jE} {G : jG} {I : jM} {q : Int → jM → Prop} {m : Nat} {x1 : Int} (hm : WX9 G m) (hT : (∀ a j, jRg (G.2.1 a).1 (I a j)) → jIn x1 → jRI E jB kX9_isByte [VR m, VI x1] G I (fun r2 I1 => ((r2 = 0 → q (-1) I1) ∧ (¬ r2 = 0 → ((0 : Int) ≤ x1 ∧ (x1 : Int) < 200) ∧ (((-128) ≤ (I1 (m + 197) x1) ∧ (I1 (m + 197) x1) ≤ 127) → q (I1 (m + 197) x1) I1))))) : jOI E jB kX9_at 0 [VR m, VI x1] G I q := by
  intro I0 hF
  refine jOk_mem (fun hI => ?_)
  refine jOk_in (i := 1) rfl (fun hx1 => ?_)
  replace hT := hT hI hx1
  refine r_aload_n dX9_at_0 rfl (i := 0) rfl ?_
  refine r_iload_n dX9_at_1 rfl (i := 1) rfl ?_
  refine rr_cVI (a := m) (as := [VI x1]) (st := []) dX9_at_2 mt_X9_isByte ml_X9_157 mi_X9_isByte rm_X9_at_X9_isByte jz_X9_isByte ⟨Nat.zero_le _, Nat.zero_le _⟩ (Nat.le_of_ble_eq_true rfl) (wX9_l hm) (wX9_c hm) (jasI hx1 jas0) hT (fun r2 I1 hc3 hFI1 hT => ?_)
  replace hFI1 := jFr_tr hF hFI1
  refine jOk_mem (fun hI1 => ?_)
  refine r_if_eq (tgt := 23) dX9_at_5 rfl hc3 (fun hcc => ?_) (fun hcc => ?_)
  · replace hT := hT.1 hcc
    refine r_iconst (n := (-1)) dX9_at_23 ?_
    exact r_iret dX9_at_24 rfl ⟨by decide, by decide⟩ ⟨Nat.zero_le _, Nat.zero_le _⟩ ⟨_, rfl, rfl, hFI1, hT⟩
  · replace hT := hT.2 hcc
    refine r_aload_n dX9_at_8 rfl (i := 0) rfl ?_
    refine rr_getR (b := (m + 195)) dX9_at_9 fg_X9_59 rfl rfl (wX9_l hm) (wX9_s hm) (wX9_r4 hm) ?_
    refine rr_getR (b := (m + 196)) dX9_at_12 fg_X9_103 rfl rfl (wX7_l (wX9_o4 hm)) (wX7_s (wX9_o4 hm)) (wX7_r0 (wX9_o4 hm)) ?_
    refine rr_getR (b := (m + 197)) dX9_at_15 fg_X9_164 rfl rfl (wX4_l (wX7_o0 (wX9_o4 hm))) (wX4_s (wX7_o0 (wX9_o4 hm))) (wX4_r0 (wX7_o0 (wX9_o4 hm))) ?_
    refine r_iload_n dX9_at_18 rfl (i := 1) rfl ?_
    obtain ⟨hc4, hT⟩ := hT
    refine rr_baload (v := I1 (m + 197) x1) dX9_at_19 (wX4_l0 (wX7_o0 (wX9_o4 hm))) (wX4_a0 (wX7_o0 (wX9_o4 hm))) (by decide) hc4 rfl (fun hr5 => ?_)
    replace hT := hT hr5
    refine r_goto (tgt := 24) dX9_at_20 rfl ?_
    exact r_iret dX9_at_24 rfl (hI1 _ _).inR ⟨Nat.zero_le _, Nat.zero_le _⟩ ⟨_, rfl, rfl, hFI1, hT⟩
theorem en_X9_at {E : jE} {G : jG} {I : jM} {q : Int → jM → Prop} {m : Nat} {x1 : Int} (hm : WX9 G m) (hT : (∀ a j, jRg (G.2.1 a).1 (I a j)) → jIn x1 → jRI E jB kX9_isByte [VR m, VI x1] G I (fun r2 I1 => ((r2 = 0 → q (-1) I1) ∧ (¬ r2 = 0 → ((0 : Int) ≤ x1 ∧ (x1 : Int) < 200) ∧ (((-128) ≤ (I1 (m + 197) x1) ∧ (I1 (m + 197) x1) ≤ 127) → q (I1 (m + 197) x1) I1))))) : jRI E jB kX9_at [VR m, VI x1] G I q := jRun.of mt_X9_at.2.2.2 0 rfl (fun _ => st_X9_at_0 hm hT I (fun _ _ => rfl))
set_option maxRecDepth 20000 in
theorem st_X9_token_0 {E : jE} {G : jG} {I : jM} {q : Int → jM → Prop} {m : Nat} {x1 : Int} {x2 : Int} (hm : WX9 G m) (hT : (∀ a j, jRg (G.2.1 a).1 (I a j)) → jIn x1 → jIn x2 → jRA E jB kX9_found [VR m] G I (fun r2 I1 => WX1 G r2 ∧ ((x1 < 0 → q (-1) I1) ∧ (¬ x1 < 0 → ((x1 < (I1 (r2 + 1) 2) → (((x2 < 0 ∨ 2 < x2) → q (-1) I1) ∧ (x2 = 0 → ((0 : Int) ≤ x1 ∧ (x1 : Int) < 200) ∧ q (I1 (r2 + 3) x1) I1) ∧ (x2 = 1 → ((0 : Int) ≤ x1 ∧ (x1 : Int) < 201) ∧ q (I1 (r2 + 2) x1) I1) ∧ (x2 = 2 → ((0 : Int) ≤ (x1 + 1) ∧ ((x1 + 1) : Int) < 201) ∧ ((0 : Int) ≤ x1 ∧ (x1 : Int) < 201) ∧ jIn ((I1 (r2 + 2) (x1 + 1)) - (I1 (r2 + 2) x1)) ∧ q ((I1 (r2 + 2) (x1 + 1)) - (I1 (r2 + 2) x1)) I1))) ∧ (¬ x1 < (I1 (r2 + 1) 2) → q (-1) I1)))))) : jOI E jB kX9_token 0 [VR m, VI x1, VI x2, VN] G I q := by
  intro I0 hF
  refine jOk_mem (fun hI => ?_)
  refine jOk_in (i := 1) rfl (fun hx1 => ?_)
  refine jOk_in (i := 2) rfl (fun hx2 => ?_)
  replace hT := hT hI hx1 hx2
  refine r_aload_n dX9_token_0 rfl (i := 0) rfl ?_
  refine rr_cVA (a := m) (as := []) (st := []) dX9_token_1 mt_X9_found ml_X9_182 mi_X9_found rm_X9_token_X9_found jz_X9_found ⟨Nat.zero_le _, Nat.zero_le _⟩ (Nat.le_of_ble_eq_true rfl) (wX9_l hm) (wX9_c hm) jas0 hT (fun r2 I1 hFI1 hT => ?_)
  replace hFI1 := jFr_tr hF hFI1
  refine jOk_mem (fun hI1 => ?_)
  obtain ⟨hc3, hT⟩ := hT
  refine rr_getR (b := (r2 + 1)) dX9_token_4 fg_X9_221 rfl rfl (wX1_l hc3) (wX1_s hc3) (wX1_r2 hc3) ?_
  refine rr_astore_n (i := 3) (ls' := [VR m, VI x1, VI x2, VR (r2 + 1)]) dX9_token_7 rfl (Nat.le_of_ble_eq_true rfl) rfl rfl ?_
  refine r_iload_n dX9_token_8 rfl (i := 1) rfl ?_
  refine r_if_lt (tgt := 20) dX9_token_9 rfl hx1 (fun hcc => ?_) (fun hcc => ?_)
  · replace hT := hT.1 hcc
    refine r_iconst (n := (-1)) dX9_token_20 ?_
    exact r_iret dX9_token_21 rfl ⟨by decide, by decide⟩ ⟨Nat.zero_le _, Nat.zero_le _⟩ ⟨_, rfl, rfl, hFI1, hT⟩
  · replace hT := hT.2 hcc
    refine r_iload_n dX9_token_12 rfl (i := 1) rfl ?_
    refine r_aload_n dX9_token_13 rfl (i := 3) rfl ?_
    refine rr_getI (v := I1 (r2 + 1) 2) dX9_token_14 fg_X9_225 rfl (wX8_l (wX1_o2 hc3)) (wX8_s (wX1_o2 hc3)) rfl ?_
    refine r_icmp_lt (tgt := 22) dX9_token_17 rfl hx1 (hI1 _ _).inR (fun hcc => ?_) (fun hcc => ?_)
    · replace hT := hT.1 hcc
      refine r_iload_n dX9_token_22 rfl (i := 2) rfl ?_
      by_cases hcc : x2 < 0 ∨ 2 < x2
      · replace hT := hT.1 hcc
        refine r_tswOut (tgt := 78) dX9_token_23 hx2 hcc rfl ?_
        refine r_iconst (n := (-1)) dX9_token_78 ?_
        exact r_iret dX9_token_79 rfl ⟨by decide, by decide⟩ ⟨Nat.zero_le _, Nat.zero_le _⟩ ⟨_, rfl, rfl, hFI1, hT⟩
      · replace hT := hT.2
        have hc2 : x2 = 0 ∨ x2 = 1 ∨ x2 = 2 := by omega
        rcases hc2 with hc2 | hc2 | hc2
        · replace hT := hT.1 hc2
          refine r_tswIn (tgt := 48) (off := 25) dX9_token_23 hx2 (by omega) (by omega) (by rw [hc2]; rfl) rfl ?_
          refine r_aload_n dX9_token_48 rfl (i := 3) rfl ?_
          refine rr_getR (b := (r2 + 3)) dX9_token_49 fg_X9_247 rfl rfl (wX8_l (wX1_o2 hc3)) (wX8_s (wX1_o2 hc3)) (wX8_r1 (wX1_o2 hc3)) ?_
          refine r_iload_n dX9_token_52 rfl (i := 1) rfl ?_
          obtain ⟨hc4, hT⟩ := hT
          refine rr_iaload (v := I1 (r2 + 3) x1) dX9_token_53 (wX8_l1 (wX1_o2 hc3)) (wX8_a1 (wX1_o2 hc3)) (by decide) hc4 rfl ?_
          exact r_iret dX9_token_54 rfl (hI1 _ _).inR ⟨Nat.zero_le _, Nat.zero_le _⟩ ⟨_, rfl, rfl, hFI1, hT⟩
        · replace hT := hT.2.1 hc2
          refine r_tswIn (tgt := 55) (off := 32) dX9_token_23 hx2 (by omega) (by omega) (by rw [hc2]; rfl) rfl ?_
          refine r_aload_n dX9_token_55 rfl (i := 3) rfl ?_
          refine rr_getR (b := (r2 + 2)) dX9_token_56 fg_X9_250 rfl rfl (wX8_l (wX1_o2 hc3)) (wX8_s (wX1_o2 hc3)) (wX8_r0 (wX1_o2 hc3)) ?_
          refine r_iload_n dX9_token_59 rfl (i := 1) rfl ?_
          obtain ⟨hc5, hT⟩ := hT
          refine rr_iaload (v := I1 (r2 + 2) x1) dX9_token_60 (wX8_l0 (wX1_o2 hc3)) (wX8_a0 (wX1_o2 hc3)) (by decide) hc5 rfl ?_
          exact r_iret dX9_token_61 rfl (hI1 _ _).inR ⟨Nat.zero_le _, Nat.zero_le _⟩ ⟨_, rfl, rfl, hFI1, hT⟩
        · replace hT := hT.2.2 hc2
          refine r_tswIn (tgt := 62) (off := 39) dX9_token_23 hx2 (by omega) (by omega) (by rw [hc2]; rfl) rfl ?_
          refine r_aload_n dX9_token_62 rfl (i := 3) rfl ?_
          refine rr_getR (b := (r2 + 2)) dX9_token_63 fg_X9_250 rfl rfl (wX8_l (wX1_o2 hc3)) (wX8_s (wX1_o2 hc3)) (wX8_r0 (wX1_o2 hc3)) ?_
          refine r_iload_n dX9_token_66 rfl (i := 1) rfl ?_
          refine r_iconst (n := 1) dX9_token_67 ?_
          refine r_iadd dX9_token_68 ?_
          obtain ⟨hc6, hT⟩ := hT
          refine rr_iaload (v := I1 (r2 + 2) (x1 + 1)) dX9_token_69 (wX8_l0 (wX1_o2 hc3)) (wX8_a0 (wX1_o2 hc3)) (by decide) hc6 rfl ?_
          refine r_aload_n dX9_token_70 rfl (i := 3) rfl ?_
          refine rr_getR (b := (r2 + 2)) dX9_token_71 fg_X9_250 rfl rfl (wX8_l (wX1_o2 hc3)) (wX8_s (wX1_o2 hc3)) (wX8_r0 (wX1_o2 hc3)) ?_
          refine r_iload_n dX9_token_74 rfl (i := 1) rfl ?_
          obtain ⟨hc7, hT⟩ := hT
          refine rr_iaload (v := I1 (r2 + 2) x1) dX9_token_75 (wX8_l0 (wX1_o2 hc3)) (wX8_a0 (wX1_o2 hc3)) (by decide) hc7 rfl ?_
          refine r_isub dX9_token_76 ?_
          obtain ⟨hc8, hT⟩ := hT
          exact r_iret dX9_token_77 rfl hc8 ⟨Nat.zero_le _, Nat.zero_le _⟩ ⟨_, rfl, rfl, hFI1, hT⟩
    · replace hT := hT.2 hcc
      refine r_iconst (n := (-1)) dX9_token_20 ?_
      exact r_iret dX9_token_21 rfl ⟨by decide, by decide⟩ ⟨Nat.zero_le _, Nat.zero_le _⟩ ⟨_, rfl, rfl, hFI1, hT⟩
theorem en_X9_token {E : jE} {G : jG} {I : jM} {q : Int → jM → Prop} {m : Nat} {x1 : Int} {x2 : Int} (hm : WX9 G m) (hT : (∀ a j, jRg (G.2.1 a).1 (I a j)) → jIn x1 → jIn x2 → jRA E jB kX9_found [VR m] G I (fun r2 I1 => WX1 G r2 ∧ ((x1 < 0 → q (-1) I1) ∧ (¬ x1 < 0 → ((x1 < (I1 (r2 + 1) 2) → (((x2 < 0 ∨ 2 < x2) → q (-1) I1) ∧ (x2 = 0 → ((0 : Int) ≤ x1 ∧ (x1 : Int) < 200) ∧ q (I1 (r2 + 3) x1) I1) ∧ (x2 = 1 → ((0 : Int) ≤ x1 ∧ (x1 : Int) < 201) ∧ q (I1 (r2 + 2) x1) I1) ∧ (x2 = 2 → ((0 : Int) ≤ (x1 + 1) ∧ ((x1 + 1) : Int) < 201) ∧ ((0 : Int) ≤ x1 ∧ (x1 : Int) < 201) ∧ jIn ((I1 (r2 + 2) (x1 + 1)) - (I1 (r2 + 2) x1)) ∧ q ((I1 (r2 + 2) (x1 + 1)) - (I1 (r2 + 2) x1)) I1))) ∧ (¬ x1 < (I1 (r2 + 1) 2) → q (-1) I1)))))) : jRI E jB kX9_token [VR m, VI x1, VI x2] G I q := jRun.of mt_X9_token.2.2.2 1 rfl (fun _ => st_X9_token_0 hm hT I (fun _ _ => rfl))
set_option maxRecDepth 20000 in
theorem st_X9_tokenAt_0 {E : jE} {G : jG} {I : jM} {q : Int → jM → Prop} {m : Nat} {x1 : Int} (hm : WX9 G m) (hT : (∀ a j, jRg (G.2.1 a).1 (I a j)) → jIn x1 → jRI E jB kX9_isByte [VR m, VI x1] G I (fun r2 I1 => ((r2 = 0 → q (-1) I1) ∧ (¬ r2 = 0 → jRA E jB kX9_found [VR m] G I1 (fun r5 I4 => WX1 G r5 ∧ jRI E jB kX8_holding [VR (r5 + 1), VI x1] G I4 (fun r8 I7 => q r8 I7)))))) : jOI E jB kX9_tokenAt 0 [VR m, VI x1] G I q := by
  intro I0 hF
  refine jOk_mem (fun hI => ?_)
  refine jOk_in (i := 1) rfl (fun hx1 => ?_)
  replace hT := hT hI hx1
  refine r_aload_n dX9_tokenAt_0 rfl (i := 0) rfl ?_
  refine r_iload_n dX9_tokenAt_1 rfl (i := 1) rfl ?_
  refine rr_cVI (a := m) (as := [VI x1]) (st := []) dX9_tokenAt_2 mt_X9_isByte ml_X9_157 mi_X9_isByte rm_X9_tokenAt_X9_isByte jz_X9_isByte ⟨Nat.zero_le _, Nat.zero_le _⟩ (Nat.le_of_ble_eq_true rfl) (wX9_l hm) (wX9_c hm) (jasI hx1 jas0) hT (fun r2 I1 hc3 hFI1 hT => ?_)
  replace hFI1 := jFr_tr hF hFI1
  refine jOk_mem (fun hI1 => ?_)
  refine r_if_eq (tgt := 22) dX9_tokenAt_5 rfl hc3 (fun hcc => ?_) (fun hcc => ?_)
  · replace hT := hT.1 hcc
    refine r_iconst (n := (-1)) dX9_tokenAt_22 ?_
    exact r_iret dX9_tokenAt_23 rfl ⟨by decide, by decide⟩ ⟨Nat.zero_le _, Nat.zero_le _⟩ ⟨_, rfl, rfl, hFI1, hT⟩
  · replace hT := hT.2 hcc
    refine r_aload_n dX9_tokenAt_8 rfl (i := 0) rfl ?_
    refine rr_cVA (a := m) (as := []) (st := []) dX9_tokenAt_9 mt_X9_found ml_X9_182 mi_X9_found rm_X9_tokenAt_X9_found jz_X9_found ⟨Nat.zero_le _, Nat.zero_le _⟩ (Nat.le_of_ble_eq_true rfl) (wX9_l hm) (wX9_c hm) jas0 hT (fun r5 I4 hFI4 hT => ?_)
    replace hFI4 := jFr_tr hFI1 hFI4
    refine jOk_mem (fun hI4 => ?_)
    obtain ⟨hc6, hT⟩ := hT
    refine rr_getR (b := (r5 + 1)) dX9_tokenAt_12 fg_X9_221 rfl rfl (wX1_l hc6) (wX1_s hc6) (wX1_r2 hc6) ?_
    refine r_iload_n dX9_tokenAt_15 rfl (i := 1) rfl ?_
    refine rr_cVI (a := (r5 + 1)) (as := [VI x1]) (st := []) dX9_tokenAt_16 mt_X8_holding ml_X9_253 mi_X8_holding rm_X9_tokenAt_X8_holding jz_X8_holding ⟨Nat.zero_le _, Nat.zero_le _⟩ (Nat.le_of_ble_eq_true rfl) (wX8_l (wX1_o2 hc6)) (wX8_c (wX1_o2 hc6)) (jasI hx1 jas0) hT (fun r8 I7 hc9 hFI7 hT => ?_)
    replace hFI7 := jFr_tr hFI4 hFI7
    refine jOk_mem (fun hI7 => ?_)
    refine r_goto (tgt := 23) dX9_tokenAt_19 rfl ?_
    exact r_iret dX9_tokenAt_23 rfl hc9 ⟨Nat.zero_le _, Nat.zero_le _⟩ ⟨_, rfl, rfl, hFI7, hT⟩
theorem en_X9_tokenAt {E : jE} {G : jG} {I : jM} {q : Int → jM → Prop} {m : Nat} {x1 : Int} (hm : WX9 G m) (hT : (∀ a j, jRg (G.2.1 a).1 (I a j)) → jIn x1 → jRI E jB kX9_isByte [VR m, VI x1] G I (fun r2 I1 => ((r2 = 0 → q (-1) I1) ∧ (¬ r2 = 0 → jRA E jB kX9_found [VR m] G I1 (fun r5 I4 => WX1 G r5 ∧ jRI E jB kX8_holding [VR (r5 + 1), VI x1] G I4 (fun r8 I7 => q r8 I7)))))) : jRI E jB kX9_tokenAt [VR m, VI x1] G I q := jRun.of mt_X9_tokenAt.2.2.2 0 rfl (fun _ => st_X9_tokenAt_0 hm hT I (fun _ _ => rfl))
set_option maxRecDepth 20000 in
theorem st_X9_rule_0 {E : jE} {G : jG} {I : jM} {q : Int → jM → Prop} {m : Nat} {x1 : Int} {x2 : Int} (hm : WX9 G m) (hT : (∀ a j, jRg (G.2.1 a).1 (I a j)) → jIn x1 → jIn x2 → jRI E jB kX9_isRule [VR m, VI x1] G I (fun r2 I1 => ((¬ r2 = 0 → (((x2 < 0 ∨ 4 < x2) → q (-1) I1) ∧ (x2 = 0 → (∃ b4 : Nat, I1 (m + 195) 1 = (b4 : Int) ∧ WX6 G b4 ∧ ((0 : Int) ≤ x1 ∧ (x1 : Int) < 6) ∧ q (I1 (b4 + 2) x1) I1)) ∧ (x2 = 1 → (∃ b8 : Nat, I1 (m + 195) 1 = (b8 : Int) ∧ WX6 G b8 ∧ ((0 : Int) ≤ x1 ∧ (x1 : Int) < 6) ∧ q (I1 (b8 + 3) x1) I1)) ∧ (x2 = 2 → (∃ b12 : Nat, I1 (m + 195) 1 = (b12 : Int) ∧ WX6 G b12 ∧ ((0 : Int) ≤ x1 ∧ (x1 : Int) < 6) ∧ q (I1 (b12 + 4) x1) I1)) ∧ (x2 = 3 → jRI E jB kX7_isOn [VR (m + 195), VI x1] G I1 (fun r17 I16 => ((r17 = 0 → q 0 I16) ∧ (¬ r17 = 0 → q 1 I16)))) ∧ (x2 = 4 → jRA E jB kX9_found [VR m] G I1 (fun r20 I19 => WX1 G r20 ∧ jRI E jB kX1_countOfRule [VR r20, VI x1] G I19 (fun r23 I22 => q r23 I22))))) ∧ (r2 = 0 → q (-1) I1)))) : jOI E jB kX9_rule 0 [VR m, VI x1, VI x2] G I q := by
  intro I0 hF
  refine jOk_mem (fun hI => ?_)
  refine jOk_in (i := 1) rfl (fun hx1 => ?_)
  refine jOk_in (i := 2) rfl (fun hx2 => ?_)
  replace hT := hT hI hx1 hx2
  refine r_aload_n dX9_rule_0 rfl (i := 0) rfl ?_
  refine r_iload_n dX9_rule_1 rfl (i := 1) rfl ?_
  refine rr_cVI (a := m) (as := [VI x1]) (st := []) dX9_rule_2 mt_X9_isRule ml_X9_129 mi_X9_isRule rm_X9_rule_X9_isRule jz_X9_isRule ⟨Nat.zero_le _, Nat.zero_le _⟩ (Nat.le_of_ble_eq_true rfl) (wX9_l hm) (wX9_c hm) (jasI hx1 jas0) hT (fun r2 I1 hc3 hFI1 hT => ?_)
  replace hFI1 := jFr_tr hF hFI1
  refine jOk_mem (fun hI1 => ?_)
  refine r_if_ne (tgt := 10) dX9_rule_5 rfl hc3 (fun hcc => ?_) (fun hcc => ?_)
  · replace hT := hT.1 hcc
    refine r_iload_n dX9_rule_10 rfl (i := 2) rfl ?_
    by_cases hcc : x2 < 0 ∨ 4 < x2
    · replace hT := hT.1 hcc
      refine r_tswOut (tgt := 109) dX9_rule_11 hx2 hcc rfl ?_
      refine r_iconst (n := (-1)) dX9_rule_109 ?_
      exact r_iret dX9_rule_110 rfl ⟨by decide, by decide⟩ ⟨Nat.zero_le _, Nat.zero_le _⟩ ⟨_, rfl, rfl, hFI1, hT⟩
    · replace hT := hT.2
      have hc2 : x2 = 0 ∨ x2 = 1 ∨ x2 = 2 ∨ x2 = 3 ∨ x2 = 4 := by omega
      rcases hc2 with hc2 | hc2 | hc2 | hc2 | hc2
      · replace hT := hT.1 hc2
        refine r_tswIn (tgt := 44) (off := 33) dX9_rule_11 hx2 (by omega) (by omega) (by rw [hc2]; rfl) rfl ?_
        refine r_aload_n dX9_rule_44 rfl (i := 0) rfl ?_
        refine rr_getR (b := (m + 195)) dX9_rule_45 fg_X9_59 rfl rfl (wX9_l hm) (wX9_s hm) (wX9_r4 hm) ?_
        obtain ⟨b4, hc5, hc6, hT⟩ := hT
        refine rr_getM (b := b4) dX9_rule_48 fg_X9_117 rfl rfl (wX7_l (wX9_o4 hm)) (wX7_s (wX9_o4 hm)) hc5 ?_
        refine rr_getR (b := (b4 + 2)) dX9_rule_51 fg_X9_256 rfl rfl (wX6_l hc6) (wX6_s hc6) (wX6_r2 hc6) ?_
        refine r_iload_n dX9_rule_54 rfl (i := 1) rfl ?_
        obtain ⟨hc7, hT⟩ := hT
        refine rr_iaload (v := I1 (b4 + 2) x1) dX9_rule_55 (wX6_l2 hc6) (wX6_a2 hc6) (by decide) hc7 rfl ?_
        exact r_iret dX9_rule_56 rfl (hI1 _ _).inR ⟨Nat.zero_le _, Nat.zero_le _⟩ ⟨_, rfl, rfl, hFI1, hT⟩
      · replace hT := hT.2.1 hc2
        refine r_tswIn (tgt := 57) (off := 46) dX9_rule_11 hx2 (by omega) (by omega) (by rw [hc2]; rfl) rfl ?_
        refine r_aload_n dX9_rule_57 rfl (i := 0) rfl ?_
        refine rr_getR (b := (m + 195)) dX9_rule_58 fg_X9_59 rfl rfl (wX9_l hm) (wX9_s hm) (wX9_r4 hm) ?_
        obtain ⟨b8, hc9, hc10, hT⟩ := hT
        refine rr_getM (b := b8) dX9_rule_61 fg_X9_117 rfl rfl (wX7_l (wX9_o4 hm)) (wX7_s (wX9_o4 hm)) hc9 ?_
        refine rr_getR (b := (b8 + 3)) dX9_rule_64 fg_X9_259 rfl rfl (wX6_l hc10) (wX6_s hc10) (wX6_r3 hc10) ?_
        refine r_iload_n dX9_rule_67 rfl (i := 1) rfl ?_
        obtain ⟨hc11, hT⟩ := hT
        refine rr_iaload (v := I1 (b8 + 3) x1) dX9_rule_68 (wX6_l3 hc10) (wX6_a3 hc10) (by decide) hc11 rfl ?_
        exact r_iret dX9_rule_69 rfl (hI1 _ _).inR ⟨Nat.zero_le _, Nat.zero_le _⟩ ⟨_, rfl, rfl, hFI1, hT⟩
      · replace hT := hT.2.2.1 hc2
        refine r_tswIn (tgt := 70) (off := 59) dX9_rule_11 hx2 (by omega) (by omega) (by rw [hc2]; rfl) rfl ?_
        refine r_aload_n dX9_rule_70 rfl (i := 0) rfl ?_
        refine rr_getR (b := (m + 195)) dX9_rule_71 fg_X9_59 rfl rfl (wX9_l hm) (wX9_s hm) (wX9_r4 hm) ?_
        obtain ⟨b12, hc13, hc14, hT⟩ := hT
        refine rr_getM (b := b12) dX9_rule_74 fg_X9_117 rfl rfl (wX7_l (wX9_o4 hm)) (wX7_s (wX9_o4 hm)) hc13 ?_
        refine rr_getR (b := (b12 + 4)) dX9_rule_77 fg_X9_262 rfl rfl (wX6_l hc14) (wX6_s hc14) (wX6_r4 hc14) ?_
        refine r_iload_n dX9_rule_80 rfl (i := 1) rfl ?_
        obtain ⟨hc15, hT⟩ := hT
        refine rr_iaload (v := I1 (b12 + 4) x1) dX9_rule_81 (wX6_l4 hc14) (wX6_a4 hc14) (by decide) hc15 rfl ?_
        exact r_iret dX9_rule_82 rfl (hI1 _ _).inR ⟨Nat.zero_le _, Nat.zero_le _⟩ ⟨_, rfl, rfl, hFI1, hT⟩
      · replace hT := hT.2.2.2.1 hc2
        refine r_tswIn (tgt := 83) (off := 72) dX9_rule_11 hx2 (by omega) (by omega) (by rw [hc2]; rfl) rfl ?_
        refine r_aload_n dX9_rule_83 rfl (i := 0) rfl ?_
        refine rr_getR (b := (m + 195)) dX9_rule_84 fg_X9_59 rfl rfl (wX9_l hm) (wX9_s hm) (wX9_r4 hm) ?_
        refine r_iload_n dX9_rule_87 rfl (i := 1) rfl ?_
        refine rr_cVI (a := (m + 195)) (as := [VI x1]) (st := []) dX9_rule_88 mt_X7_isOn ml_X9_132 mi_X7_isOn rm_X9_rule_X7_isOn jz_X7_isOn ⟨Nat.zero_le _, Nat.zero_le _⟩ (Nat.le_of_ble_eq_true rfl) (wX7_l (wX9_o4 hm)) (wX7_c (wX9_o4 hm)) (jasI hx1 jas0) hT (fun r17 I16 hc18 hFI16 hT => ?_)
        replace hFI16 := jFr_tr hFI1 hFI16
        refine jOk_mem (fun hI16 => ?_)
        refine r_if_eq (tgt := 98) dX9_rule_91 rfl hc18 (fun hcc => ?_) (fun hcc => ?_)
        · replace hT := hT.1 hcc
          refine r_iconst (n := 0) dX9_rule_98 ?_
          exact r_iret dX9_rule_99 rfl ⟨by decide, by decide⟩ ⟨Nat.zero_le _, Nat.zero_le _⟩ ⟨_, rfl, rfl, hFI16, hT⟩
        · replace hT := hT.2 hcc
          refine r_iconst (n := 1) dX9_rule_94 ?_
          refine r_goto (tgt := 99) dX9_rule_95 rfl ?_
          exact r_iret dX9_rule_99 rfl ⟨by decide, by decide⟩ ⟨Nat.zero_le _, Nat.zero_le _⟩ ⟨_, rfl, rfl, hFI16, hT⟩
      · replace hT := hT.2.2.2.2 hc2
        refine r_tswIn (tgt := 100) (off := 89) dX9_rule_11 hx2 (by omega) (by omega) (by rw [hc2]; rfl) rfl ?_
        refine r_aload_n dX9_rule_100 rfl (i := 0) rfl ?_
        refine rr_cVA (a := m) (as := []) (st := []) dX9_rule_101 mt_X9_found ml_X9_182 mi_X9_found rm_X9_rule_X9_found jz_X9_found ⟨Nat.zero_le _, Nat.zero_le _⟩ (Nat.le_of_ble_eq_true rfl) (wX9_l hm) (wX9_c hm) jas0 hT (fun r20 I19 hFI19 hT => ?_)
        replace hFI19 := jFr_tr hFI1 hFI19
        refine jOk_mem (fun hI19 => ?_)
        obtain ⟨hc21, hT⟩ := hT
        refine r_iload_n dX9_rule_104 rfl (i := 1) rfl ?_
        refine rr_cVI (a := r20) (as := [VI x1]) (st := []) dX9_rule_105 mt_X1_countOfRule ml_X9_265 mi_X1_countOfRule rm_X9_rule_X1_countOfRule jz_X1_countOfRule ⟨Nat.zero_le _, Nat.zero_le _⟩ (Nat.le_of_ble_eq_true rfl) (wX1_l hc21) (wX1_c hc21) (jasI hx1 jas0) hT (fun r23 I22 hc24 hFI22 hT => ?_)
        replace hFI22 := jFr_tr hFI19 hFI22
        refine jOk_mem (fun hI22 => ?_)
        exact r_iret dX9_rule_108 rfl hc24 ⟨Nat.zero_le _, Nat.zero_le _⟩ ⟨_, rfl, rfl, hFI22, hT⟩
  · replace hT := hT.2 hcc
    refine r_iconst (n := (-1)) dX9_rule_8 ?_
    exact r_iret dX9_rule_9 rfl ⟨by decide, by decide⟩ ⟨Nat.zero_le _, Nat.zero_le _⟩ ⟨_, rfl, rfl, hFI1, hT⟩
theorem en_X9_rule {E : jE} {G : jG} {I : jM} {q : Int → jM → Prop} {m : Nat} {x1 : Int} {x2 : Int} (hm : WX9 G m) (hT : (∀ a j, jRg (G.2.1 a).1 (I a j)) → jIn x1 → jIn x2 → jRI E jB kX9_isRule [VR m, VI x1] G I (fun r2 I1 => ((¬ r2 = 0 → (((x2 < 0 ∨ 4 < x2) → q (-1) I1) ∧ (x2 = 0 → (∃ b4 : Nat, I1 (m + 195) 1 = (b4 : Int) ∧ WX6 G b4 ∧ ((0 : Int) ≤ x1 ∧ (x1 : Int) < 6) ∧ q (I1 (b4 + 2) x1) I1)) ∧ (x2 = 1 → (∃ b8 : Nat, I1 (m + 195) 1 = (b8 : Int) ∧ WX6 G b8 ∧ ((0 : Int) ≤ x1 ∧ (x1 : Int) < 6) ∧ q (I1 (b8 + 3) x1) I1)) ∧ (x2 = 2 → (∃ b12 : Nat, I1 (m + 195) 1 = (b12 : Int) ∧ WX6 G b12 ∧ ((0 : Int) ≤ x1 ∧ (x1 : Int) < 6) ∧ q (I1 (b12 + 4) x1) I1)) ∧ (x2 = 3 → jRI E jB kX7_isOn [VR (m + 195), VI x1] G I1 (fun r17 I16 => ((r17 = 0 → q 0 I16) ∧ (¬ r17 = 0 → q 1 I16)))) ∧ (x2 = 4 → jRA E jB kX9_found [VR m] G I1 (fun r20 I19 => WX1 G r20 ∧ jRI E jB kX1_countOfRule [VR r20, VI x1] G I19 (fun r23 I22 => q r23 I22))))) ∧ (r2 = 0 → q (-1) I1)))) : jRI E jB kX9_rule [VR m, VI x1, VI x2] G I q := jRun.of mt_X9_rule.2.2.2 0 rfl (fun _ => st_X9_rule_0 hm hT I (fun _ _ => rfl))
set_option maxRecDepth 20000 in
theorem st_X9_fits_0 {E : jE} {G : jG} {I : jM} {q : Int → jM → Prop} {m : Nat} {x1 : Int} {x2 : Int} (hm : WX9 G m) (hT : (∀ a j, jRg (G.2.1 a).1 (I a j)) → jIn x1 → jIn x2 → jRI E jB kX9_isRule [VR m, VI x1] G I (fun r2 I1 => ((r2 = 0 → q 0 I1) ∧ (¬ r2 = 0 → jRA E jB kX9_found [VR m] G I1 (fun r5 I4 => WX1 G r5 ∧ jRI E jB kX1_fitsFrom [VR r5, VI x1, VI x2] G I4 (fun r8 I7 => ((r8 = 0 → q 0 I7) ∧ (¬ r8 = 0 → q 1 I7)))))))) : jOI E jB kX9_fits 0 [VR m, VI x1, VI x2] G I q := by
  intro I0 hF
  refine jOk_mem (fun hI => ?_)
  refine jOk_in (i := 1) rfl (fun hx1 => ?_)
  refine jOk_in (i := 2) rfl (fun hx2 => ?_)
  replace hT := hT hI hx1 hx2
  refine r_aload_n dX9_fits_0 rfl (i := 0) rfl ?_
  refine r_iload_n dX9_fits_1 rfl (i := 1) rfl ?_
  refine rr_cVI (a := m) (as := [VI x1]) (st := []) dX9_fits_2 mt_X9_isRule ml_X9_129 mi_X9_isRule rm_X9_fits_X9_isRule jz_X9_isRule ⟨Nat.zero_le _, Nat.zero_le _⟩ (Nat.le_of_ble_eq_true rfl) (wX9_l hm) (wX9_c hm) (jasI hx1 jas0) hT (fun r2 I1 hc3 hFI1 hT => ?_)
  replace hFI1 := jFr_tr hF hFI1
  refine jOk_mem (fun hI1 => ?_)
  refine r_if_eq (tgt := 24) dX9_fits_5 rfl hc3 (fun hcc => ?_) (fun hcc => ?_)
  · replace hT := hT.1 hcc
    refine r_iconst (n := 0) dX9_fits_24 ?_
    exact r_zret dX9_fits_25 rfl ⟨by decide, by decide⟩ ⟨Nat.zero_le _, Nat.zero_le _⟩ ⟨_, rfl, rfl, hFI1, hT⟩
  · replace hT := hT.2 hcc
    refine r_aload_n dX9_fits_8 rfl (i := 0) rfl ?_
    refine rr_cVA (a := m) (as := []) (st := []) dX9_fits_9 mt_X9_found ml_X9_182 mi_X9_found rm_X9_fits_X9_found jz_X9_found ⟨Nat.zero_le _, Nat.zero_le _⟩ (Nat.le_of_ble_eq_true rfl) (wX9_l hm) (wX9_c hm) jas0 hT (fun r5 I4 hFI4 hT => ?_)
    replace hFI4 := jFr_tr hFI1 hFI4
    refine jOk_mem (fun hI4 => ?_)
    obtain ⟨hc6, hT⟩ := hT
    refine r_iload_n dX9_fits_12 rfl (i := 1) rfl ?_
    refine r_iload_n dX9_fits_13 rfl (i := 2) rfl ?_
    refine rr_cVI (a := r5) (as := [VI x1, VI x2]) (st := []) dX9_fits_14 mt_X1_fitsFrom ml_X9_268 mi_X1_fitsFrom rm_X9_fits_X1_fitsFrom jz_X1_fitsFrom ⟨Nat.zero_le _, Nat.zero_le _⟩ (Nat.le_of_ble_eq_true rfl) (wX1_l hc6) (wX1_c hc6) (jasI hx1 (jasI hx2 jas0)) hT (fun r8 I7 hc9 hFI7 hT => ?_)
    replace hFI7 := jFr_tr hFI4 hFI7
    refine jOk_mem (fun hI7 => ?_)
    refine r_if_eq (tgt := 24) dX9_fits_17 rfl hc9 (fun hcc => ?_) (fun hcc => ?_)
    · replace hT := hT.1 hcc
      refine r_iconst (n := 0) dX9_fits_24 ?_
      exact r_zret dX9_fits_25 rfl ⟨by decide, by decide⟩ ⟨Nat.zero_le _, Nat.zero_le _⟩ ⟨_, rfl, rfl, hFI7, hT⟩
    · replace hT := hT.2 hcc
      refine r_iconst (n := 1) dX9_fits_20 ?_
      refine r_goto (tgt := 25) dX9_fits_21 rfl ?_
      exact r_zret dX9_fits_25 rfl ⟨by decide, by decide⟩ ⟨Nat.zero_le _, Nat.zero_le _⟩ ⟨_, rfl, rfl, hFI7, hT⟩
theorem en_X9_fits {E : jE} {G : jG} {I : jM} {q : Int → jM → Prop} {m : Nat} {x1 : Int} {x2 : Int} (hm : WX9 G m) (hT : (∀ a j, jRg (G.2.1 a).1 (I a j)) → jIn x1 → jIn x2 → jRI E jB kX9_isRule [VR m, VI x1] G I (fun r2 I1 => ((r2 = 0 → q 0 I1) ∧ (¬ r2 = 0 → jRA E jB kX9_found [VR m] G I1 (fun r5 I4 => WX1 G r5 ∧ jRI E jB kX1_fitsFrom [VR r5, VI x1, VI x2] G I4 (fun r8 I7 => ((r8 = 0 → q 0 I7) ∧ (¬ r8 = 0 → q 1 I7)))))))) : jRI E jB kX9_fits [VR m, VI x1, VI x2] G I q := jRun.of mt_X9_fits.2.2.2 0 rfl (fun _ => st_X9_fits_0 hm hT I (fun _ _ => rfl))
set_option maxRecDepth 20000 in
theorem st_X9_finding_0 {E : jE} {G : jG} {I : jM} {q : Int → jM → Prop} {m : Nat} {x1 : Int} {x2 : Int} (hm : WX9 G m) (hT : (∀ a j, jRg (G.2.1 a).1 (I a j)) → jIn x1 → jIn x2 → jRA E jB kX9_found [VR m] G I (fun r2 I1 => WX1 G r2 ∧ jRI E jB kX1_has [VR r2, VI x1] G I1 (fun r5 I4 => ((¬ r5 = 0 → (((x2 < 0 ∨ 7 < x2) → q (-1) I4) ∧ (x2 = 0 → ((0 : Int) ≤ x1 ∧ (x1 : Int) < 1200) ∧ q (I4 (r2 + 5) x1) I4) ∧ (x2 = 1 → jRI E jB kX1_beginOf [VR r2, VI x1] G I4 (fun r9 I8 => q r9 I8)) ∧ (x2 = 2 → jRI E jB kX1_endOf [VR r2, VI x1] G I4 (fun r12 I11 => q r12 I11)) ∧ (x2 = 3 → ((0 : Int) ≤ x1 ∧ (x1 : Int) < 1200) ∧ q (I4 (r2 + 8) x1) I4) ∧ (x2 = 4 → ((0 : Int) ≤ x1 ∧ (x1 : Int) < 1200) ∧ q (I4 (r2 + 9) x1) I4) ∧ (x2 = 5 → jRI E jB kX1_isMarked [VR r2, VI x1, VI 1] G I4 (fun r17 I16 => ((r17 = 0 → q 0 I16) ∧ (¬ r17 = 0 → q 1 I16)))) ∧ (x2 = 6 → jRI E jB kX1_isPicked [VR r2, VI x1] G I4 (fun r20 I19 => ((r20 = 0 → q 0 I19) ∧ (¬ r20 = 0 → q 1 I19)))) ∧ (x2 = 7 → jRI E jB kX1_isMarked [VR r2, VI x1, VI 2] G I4 (fun r23 I22 => ((r23 = 0 → q 0 I22) ∧ (¬ r23 = 0 → q 1 I22)))))) ∧ (r5 = 0 → q (-1) I4))))) : jOI E jB kX9_finding 0 [VR m, VI x1, VI x2, VN] G I q := by
  intro I0 hF
  refine jOk_mem (fun hI => ?_)
  refine jOk_in (i := 1) rfl (fun hx1 => ?_)
  refine jOk_in (i := 2) rfl (fun hx2 => ?_)
  replace hT := hT hI hx1 hx2
  refine r_aload_n dX9_finding_0 rfl (i := 0) rfl ?_
  refine rr_cVA (a := m) (as := []) (st := []) dX9_finding_1 mt_X9_found ml_X9_182 mi_X9_found rm_X9_finding_X9_found jz_X9_found ⟨Nat.zero_le _, Nat.zero_le _⟩ (Nat.le_of_ble_eq_true rfl) (wX9_l hm) (wX9_c hm) jas0 hT (fun r2 I1 hFI1 hT => ?_)
  replace hFI1 := jFr_tr hF hFI1
  refine jOk_mem (fun hI1 => ?_)
  obtain ⟨hc3, hT⟩ := hT
  refine rr_astore_n (i := 3) (ls' := [VR m, VI x1, VI x2, VR r2]) dX9_finding_4 rfl (Nat.le_of_ble_eq_true rfl) rfl rfl ?_
  refine r_aload_n dX9_finding_5 rfl (i := 3) rfl ?_
  refine r_iload_n dX9_finding_6 rfl (i := 1) rfl ?_
  refine rr_cVI (a := r2) (as := [VI x1]) (st := []) dX9_finding_7 mt_X1_has ml_X9_186 mi_X1_has rm_X9_finding_X1_has jz_X1_has ⟨Nat.zero_le _, Nat.zero_le _⟩ (Nat.le_of_ble_eq_true rfl) (wX1_l hc3) (wX1_c hc3) (jasI hx1 jas0) hT (fun r5 I4 hc6 hFI4 hT => ?_)
  replace hFI4 := jFr_tr hFI1 hFI4
  refine jOk_mem (fun hI4 => ?_)
  refine r_if_ne (tgt := 15) dX9_finding_10 rfl hc6 (fun hcc => ?_) (fun hcc => ?_)
  · replace hT := hT.1 hcc
    refine r_iload_n dX9_finding_15 rfl (i := 2) rfl ?_
    by_cases hcc : x2 < 0 ∨ 7 < x2
    · replace hT := hT.1 hcc
      refine r_tswOut (tgt := 141) dX9_finding_16 hx2 hcc rfl ?_
      refine r_iconst (n := (-1)) dX9_finding_141 ?_
      exact r_iret dX9_finding_142 rfl ⟨by decide, by decide⟩ ⟨Nat.zero_le _, Nat.zero_le _⟩ ⟨_, rfl, rfl, hFI4, hT⟩
    · replace hT := hT.2
      have hc2 : x2 = 0 ∨ x2 = 1 ∨ x2 = 2 ∨ x2 = 3 ∨ x2 = 4 ∨ x2 = 5 ∨ x2 = 6 ∨ x2 = 7 := by omega
      rcases hc2 with hc2 | hc2 | hc2 | hc2 | hc2 | hc2 | hc2 | hc2
      · replace hT := hT.1 hc2
        refine r_tswIn (tgt := 64) (off := 48) dX9_finding_16 hx2 (by omega) (by omega) (by rw [hc2]; rfl) rfl ?_
        refine r_aload_n dX9_finding_64 rfl (i := 3) rfl ?_
        refine rr_getR (b := (r2 + 5)) dX9_finding_65 fg_X9_271 rfl rfl (wX1_l hc3) (wX1_s hc3) (wX1_r6 hc3) ?_
        refine r_iload_n dX9_finding_68 rfl (i := 1) rfl ?_
        obtain ⟨hc7, hT⟩ := hT
        refine rr_iaload (v := I4 (r2 + 5) x1) dX9_finding_69 (wX1_l6 hc3) (wX1_a6 hc3) (by decide) hc7 rfl ?_
        exact r_iret dX9_finding_70 rfl (hI4 _ _).inR ⟨Nat.zero_le _, Nat.zero_le _⟩ ⟨_, rfl, rfl, hFI4, hT⟩
      · replace hT := hT.2.1 hc2
        refine r_tswIn (tgt := 71) (off := 55) dX9_finding_16 hx2 (by omega) (by omega) (by rw [hc2]; rfl) rfl ?_
        refine r_aload_n dX9_finding_71 rfl (i := 3) rfl ?_
        refine r_iload_n dX9_finding_72 rfl (i := 1) rfl ?_
        refine rr_cVI (a := r2) (as := [VI x1]) (st := []) dX9_finding_73 mt_X1_beginOf ml_X9_274 mi_X1_beginOf rm_X9_finding_X1_beginOf jz_X1_beginOf ⟨Nat.zero_le _, Nat.zero_le _⟩ (Nat.le_of_ble_eq_true rfl) (wX1_l hc3) (wX1_c hc3) (jasI hx1 jas0) hT (fun r9 I8 hc10 hFI8 hT => ?_)
        replace hFI8 := jFr_tr hFI4 hFI8
        refine jOk_mem (fun hI8 => ?_)
        exact r_iret dX9_finding_76 rfl hc10 ⟨Nat.zero_le _, Nat.zero_le _⟩ ⟨_, rfl, rfl, hFI8, hT⟩
      · replace hT := hT.2.2.1 hc2
        refine r_tswIn (tgt := 77) (off := 61) dX9_finding_16 hx2 (by omega) (by omega) (by rw [hc2]; rfl) rfl ?_
        refine r_aload_n dX9_finding_77 rfl (i := 3) rfl ?_
        refine r_iload_n dX9_finding_78 rfl (i := 1) rfl ?_
        refine rr_cVI (a := r2) (as := [VI x1]) (st := []) dX9_finding_79 mt_X1_endOf ml_X9_277 mi_X1_endOf rm_X9_finding_X1_endOf jz_X1_endOf ⟨Nat.zero_le _, Nat.zero_le _⟩ (Nat.le_of_ble_eq_true rfl) (wX1_l hc3) (wX1_c hc3) (jasI hx1 jas0) hT (fun r12 I11 hc13 hFI11 hT => ?_)
        replace hFI11 := jFr_tr hFI4 hFI11
        refine jOk_mem (fun hI11 => ?_)
        exact r_iret dX9_finding_82 rfl hc13 ⟨Nat.zero_le _, Nat.zero_le _⟩ ⟨_, rfl, rfl, hFI11, hT⟩
      · replace hT := hT.2.2.2.1 hc2
        refine r_tswIn (tgt := 83) (off := 67) dX9_finding_16 hx2 (by omega) (by omega) (by rw [hc2]; rfl) rfl ?_
        refine r_aload_n dX9_finding_83 rfl (i := 3) rfl ?_
        refine rr_getR (b := (r2 + 8)) dX9_finding_84 fg_X9_280 rfl rfl (wX1_l hc3) (wX1_s hc3) (wX1_r9 hc3) ?_
        refine r_iload_n dX9_finding_87 rfl (i := 1) rfl ?_
        obtain ⟨hc14, hT⟩ := hT
        refine rr_iaload (v := I4 (r2 + 8) x1) dX9_finding_88 (wX1_l9 hc3) (wX1_a9 hc3) (by decide) hc14 rfl ?_
        exact r_iret dX9_finding_89 rfl (hI4 _ _).inR ⟨Nat.zero_le _, Nat.zero_le _⟩ ⟨_, rfl, rfl, hFI4, hT⟩
      · replace hT := hT.2.2.2.2.1 hc2
        refine r_tswIn (tgt := 90) (off := 74) dX9_finding_16 hx2 (by omega) (by omega) (by rw [hc2]; rfl) rfl ?_
        refine r_aload_n dX9_finding_90 rfl (i := 3) rfl ?_
        refine rr_getR (b := (r2 + 9)) dX9_finding_91 fg_X9_283 rfl rfl (wX1_l hc3) (wX1_s hc3) (wX1_r10 hc3) ?_
        refine r_iload_n dX9_finding_94 rfl (i := 1) rfl ?_
        obtain ⟨hc15, hT⟩ := hT
        refine rr_iaload (v := I4 (r2 + 9) x1) dX9_finding_95 (wX1_l10 hc3) (wX1_a10 hc3) (by decide) hc15 rfl ?_
        exact r_iret dX9_finding_96 rfl (hI4 _ _).inR ⟨Nat.zero_le _, Nat.zero_le _⟩ ⟨_, rfl, rfl, hFI4, hT⟩
      · replace hT := hT.2.2.2.2.2.1 hc2
        refine r_tswIn (tgt := 97) (off := 81) dX9_finding_16 hx2 (by omega) (by omega) (by rw [hc2]; rfl) rfl ?_
        refine r_aload_n dX9_finding_97 rfl (i := 3) rfl ?_
        refine r_iload_n dX9_finding_98 rfl (i := 1) rfl ?_
        refine r_iconst (n := 1) dX9_finding_99 ?_
        refine rr_cVI (a := r2) (as := [VI x1, VI 1]) (st := []) dX9_finding_100 mt_X1_isMarked ml_X9_189 mi_X1_isMarked rm_X9_finding_X1_isMarked jz_X1_isMarked ⟨Nat.zero_le _, Nat.zero_le _⟩ (Nat.le_of_ble_eq_true rfl) (wX1_l hc3) (wX1_c hc3) (jasI hx1 (jasI ⟨by decide, by decide⟩ jas0)) hT (fun r17 I16 hc18 hFI16 hT => ?_)
        replace hFI16 := jFr_tr hFI4 hFI16
        refine jOk_mem (fun hI16 => ?_)
        refine r_if_eq (tgt := 110) dX9_finding_103 rfl hc18 (fun hcc => ?_) (fun hcc => ?_)
        · replace hT := hT.1 hcc
          refine r_iconst (n := 0) dX9_finding_110 ?_
          exact r_iret dX9_finding_111 rfl ⟨by decide, by decide⟩ ⟨Nat.zero_le _, Nat.zero_le _⟩ ⟨_, rfl, rfl, hFI16, hT⟩
        · replace hT := hT.2 hcc
          refine r_iconst (n := 1) dX9_finding_106 ?_
          refine r_goto (tgt := 111) dX9_finding_107 rfl ?_
          exact r_iret dX9_finding_111 rfl ⟨by decide, by decide⟩ ⟨Nat.zero_le _, Nat.zero_le _⟩ ⟨_, rfl, rfl, hFI16, hT⟩
      · replace hT := hT.2.2.2.2.2.2.1 hc2
        refine r_tswIn (tgt := 112) (off := 96) dX9_finding_16 hx2 (by omega) (by omega) (by rw [hc2]; rfl) rfl ?_
        refine r_aload_n dX9_finding_112 rfl (i := 3) rfl ?_
        refine r_iload_n dX9_finding_113 rfl (i := 1) rfl ?_
        refine rr_cVI (a := r2) (as := [VI x1]) (st := []) dX9_finding_114 mt_X1_isPicked ml_X9_286 mi_X1_isPicked rm_X9_finding_X1_isPicked jz_X1_isPicked ⟨Nat.zero_le _, Nat.zero_le _⟩ (Nat.le_of_ble_eq_true rfl) (wX1_l hc3) (wX1_c hc3) (jasI hx1 jas0) hT (fun r20 I19 hc21 hFI19 hT => ?_)
        replace hFI19 := jFr_tr hFI4 hFI19
        refine jOk_mem (fun hI19 => ?_)
        refine r_if_eq (tgt := 124) dX9_finding_117 rfl hc21 (fun hcc => ?_) (fun hcc => ?_)
        · replace hT := hT.1 hcc
          refine r_iconst (n := 0) dX9_finding_124 ?_
          exact r_iret dX9_finding_125 rfl ⟨by decide, by decide⟩ ⟨Nat.zero_le _, Nat.zero_le _⟩ ⟨_, rfl, rfl, hFI19, hT⟩
        · replace hT := hT.2 hcc
          refine r_iconst (n := 1) dX9_finding_120 ?_
          refine r_goto (tgt := 125) dX9_finding_121 rfl ?_
          exact r_iret dX9_finding_125 rfl ⟨by decide, by decide⟩ ⟨Nat.zero_le _, Nat.zero_le _⟩ ⟨_, rfl, rfl, hFI19, hT⟩
      · replace hT := hT.2.2.2.2.2.2.2 hc2
        refine r_tswIn (tgt := 126) (off := 110) dX9_finding_16 hx2 (by omega) (by omega) (by rw [hc2]; rfl) rfl ?_
        refine r_aload_n dX9_finding_126 rfl (i := 3) rfl ?_
        refine r_iload_n dX9_finding_127 rfl (i := 1) rfl ?_
        refine r_iconst (n := 2) dX9_finding_128 ?_
        refine rr_cVI (a := r2) (as := [VI x1, VI 2]) (st := []) dX9_finding_129 mt_X1_isMarked ml_X9_189 mi_X1_isMarked rm_X9_finding_X1_isMarked jz_X1_isMarked ⟨Nat.zero_le _, Nat.zero_le _⟩ (Nat.le_of_ble_eq_true rfl) (wX1_l hc3) (wX1_c hc3) (jasI hx1 (jasI ⟨by decide, by decide⟩ jas0)) hT (fun r23 I22 hc24 hFI22 hT => ?_)
        replace hFI22 := jFr_tr hFI4 hFI22
        refine jOk_mem (fun hI22 => ?_)
        refine r_if_eq (tgt := 139) dX9_finding_132 rfl hc24 (fun hcc => ?_) (fun hcc => ?_)
        · replace hT := hT.1 hcc
          refine r_iconst (n := 0) dX9_finding_139 ?_
          exact r_iret dX9_finding_140 rfl ⟨by decide, by decide⟩ ⟨Nat.zero_le _, Nat.zero_le _⟩ ⟨_, rfl, rfl, hFI22, hT⟩
        · replace hT := hT.2 hcc
          refine r_iconst (n := 1) dX9_finding_135 ?_
          refine r_goto (tgt := 140) dX9_finding_136 rfl ?_
          exact r_iret dX9_finding_140 rfl ⟨by decide, by decide⟩ ⟨Nat.zero_le _, Nat.zero_le _⟩ ⟨_, rfl, rfl, hFI22, hT⟩
  · replace hT := hT.2 hcc
    refine r_iconst (n := (-1)) dX9_finding_13 ?_
    exact r_iret dX9_finding_14 rfl ⟨by decide, by decide⟩ ⟨Nat.zero_le _, Nat.zero_le _⟩ ⟨_, rfl, rfl, hFI4, hT⟩
theorem en_X9_finding {E : jE} {G : jG} {I : jM} {q : Int → jM → Prop} {m : Nat} {x1 : Int} {x2 : Int} (hm : WX9 G m) (hT : (∀ a j, jRg (G.2.1 a).1 (I a j)) → jIn x1 → jIn x2 → jRA E jB kX9_found [VR m] G I (fun r2 I1 => WX1 G r2 ∧ jRI E jB kX1_has [VR r2, VI x1] G I1 (fun r5 I4 => ((¬ r5 = 0 → (((x2 < 0 ∨ 7 < x2) → q (-1) I4) ∧ (x2 = 0 → ((0 : Int) ≤ x1 ∧ (x1 : Int) < 1200) ∧ q (I4 (r2 + 5) x1) I4) ∧ (x2 = 1 → jRI E jB kX1_beginOf [VR r2, VI x1] G I4 (fun r9 I8 => q r9 I8)) ∧ (x2 = 2 → jRI E jB kX1_endOf [VR r2, VI x1] G I4 (fun r12 I11 => q r12 I11)) ∧ (x2 = 3 → ((0 : Int) ≤ x1 ∧ (x1 : Int) < 1200) ∧ q (I4 (r2 + 8) x1) I4) ∧ (x2 = 4 → ((0 : Int) ≤ x1 ∧ (x1 : Int) < 1200) ∧ q (I4 (r2 + 9) x1) I4) ∧ (x2 = 5 → jRI E jB kX1_isMarked [VR r2, VI x1, VI 1] G I4 (fun r17 I16 => ((r17 = 0 → q 0 I16) ∧ (¬ r17 = 0 → q 1 I16)))) ∧ (x2 = 6 → jRI E jB kX1_isPicked [VR r2, VI x1] G I4 (fun r20 I19 => ((r20 = 0 → q 0 I19) ∧ (¬ r20 = 0 → q 1 I19)))) ∧ (x2 = 7 → jRI E jB kX1_isMarked [VR r2, VI x1, VI 2] G I4 (fun r23 I22 => ((r23 = 0 → q 0 I22) ∧ (¬ r23 = 0 → q 1 I22)))))) ∧ (r5 = 0 → q (-1) I4))))) : jRI E jB kX9_finding [VR m, VI x1, VI x2] G I q := jRun.of mt_X9_finding.2.2.2 1 rfl (fun _ => st_X9_finding_0 hm hT I (fun _ _ => rfl))
set_option maxRecDepth 20000 in
theorem st_X9_fresh_0 {E : jE} {G : jG} {I : jM} {q : Int → jM → Prop} {m : Nat} {x1 : Int} {x2 : Int} (hm : WX9 G m) (hT : (∀ a j, jRg (G.2.1 a).1 (I a j)) → jIn x1 → jIn x2 → jRA E jB kX9_found [VR m] G I (fun r2 I1 => WX1 G r2 ∧ jRI E jB kX1_has [VR r2, VI x1] G I1 (fun r5 I4 => ((r5 = 0 → q (-1) I4) ∧ (¬ r5 = 0 → ((x2 < 0 → q (-1) I4) ∧ (¬ x2 < 0 → ((0 : Int) ≤ x1 ∧ (x1 : Int) < 1200) ∧ ((x2 < (I4 (r2 + 8) x1) → jRI E jB kX1_freshByte [VR r2, VI x1, VI x2] G I4 (fun r9 I8 => q r9 I8)) ∧ (¬ x2 < (I4 (r2 + 8) x1) → q (-1) I4))))))))) : jOI E jB kX9_fresh 0 [VR m, VI x1, VI x2, VN] G I q := by
  intro I0 hF
  refine jOk_mem (fun hI => ?_)
  refine jOk_in (i := 1) rfl (fun hx1 => ?_)
  refine jOk_in (i := 2) rfl (fun hx2 => ?_)
  replace hT := hT hI hx1 hx2
  refine r_aload_n dX9_fresh_0 rfl (i := 0) rfl ?_
  refine rr_cVA (a := m) (as := []) (st := []) dX9_fresh_1 mt_X9_found ml_X9_182 mi_X9_found rm_X9_fresh_X9_found jz_X9_found ⟨Nat.zero_le _, Nat.zero_le _⟩ (Nat.le_of_ble_eq_true rfl) (wX9_l hm) (wX9_c hm) jas0 hT (fun r2 I1 hFI1 hT => ?_)
  replace hFI1 := jFr_tr hF hFI1
  refine jOk_mem (fun hI1 => ?_)
  obtain ⟨hc3, hT⟩ := hT
  refine rr_astore_n (i := 3) (ls' := [VR m, VI x1, VI x2, VR r2]) dX9_fresh_4 rfl (Nat.le_of_ble_eq_true rfl) rfl rfl ?_
  refine r_aload_n dX9_fresh_5 rfl (i := 3) rfl ?_
  refine r_iload_n dX9_fresh_6 rfl (i := 1) rfl ?_
  refine rr_cVI (a := r2) (as := [VI x1]) (st := []) dX9_fresh_7 mt_X1_has ml_X9_186 mi_X1_has rm_X9_fresh_X1_has jz_X1_has ⟨Nat.zero_le _, Nat.zero_le _⟩ (Nat.le_of_ble_eq_true rfl) (wX1_l hc3) (wX1_c hc3) (jasI hx1 jas0) hT (fun r5 I4 hc6 hFI4 hT => ?_)
  replace hFI4 := jFr_tr hFI1 hFI4
  refine jOk_mem (fun hI4 => ?_)
  refine r_if_eq (tgt := 27) dX9_fresh_10 rfl hc6 (fun hcc => ?_) (fun hcc => ?_)
  · replace hT := hT.1 hcc
    refine r_iconst (n := (-1)) dX9_fresh_27 ?_
    exact r_iret dX9_fresh_28 rfl ⟨by decide, by decide⟩ ⟨Nat.zero_le _, Nat.zero_le _⟩ ⟨_, rfl, rfl, hFI4, hT⟩
  · replace hT := hT.2 hcc
    refine r_iload_n dX9_fresh_13 rfl (i := 2) rfl ?_
    refine r_if_lt (tgt := 27) dX9_fresh_14 rfl hx2 (fun hcc => ?_) (fun hcc => ?_)
    · replace hT := hT.1 hcc
      refine r_iconst (n := (-1)) dX9_fresh_27 ?_
      exact r_iret dX9_fresh_28 rfl ⟨by decide, by decide⟩ ⟨Nat.zero_le _, Nat.zero_le _⟩ ⟨_, rfl, rfl, hFI4, hT⟩
    · replace hT := hT.2 hcc
      refine r_iload_n dX9_fresh_17 rfl (i := 2) rfl ?_
      refine r_aload_n dX9_fresh_18 rfl (i := 3) rfl ?_
      refine rr_getR (b := (r2 + 8)) dX9_fresh_19 fg_X9_280 rfl rfl (wX1_l hc3) (wX1_s hc3) (wX1_r9 hc3) ?_
      refine r_iload_n dX9_fresh_22 rfl (i := 1) rfl ?_
      obtain ⟨hc7, hT⟩ := hT
      refine rr_iaload (v := I4 (r2 + 8) x1) dX9_fresh_23 (wX1_l9 hc3) (wX1_a9 hc3) (by decide) hc7 rfl ?_
      refine r_icmp_lt (tgt := 29) dX9_fresh_24 rfl hx2 (hI4 _ _).inR (fun hcc => ?_) (fun hcc => ?_)
      · replace hT := hT.1 hcc
        refine r_aload_n dX9_fresh_29 rfl (i := 3) rfl ?_
        refine r_iload_n dX9_fresh_30 rfl (i := 1) rfl ?_
        refine r_iload_n dX9_fresh_31 rfl (i := 2) rfl ?_
        refine rr_cVI (a := r2) (as := [VI x1, VI x2]) (st := []) dX9_fresh_32 mt_X1_freshByte ml_X9_289 mi_X1_freshByte rm_X9_fresh_X1_freshByte jz_X1_freshByte ⟨Nat.zero_le _, Nat.zero_le _⟩ (Nat.le_of_ble_eq_true rfl) (wX1_l hc3) (wX1_c hc3) (jasI hx1 (jasI hx2 jas0)) hT (fun r9 I8 hc10 hFI8 hT => ?_)
        replace hFI8 := jFr_tr hFI4 hFI8
        refine jOk_mem (fun hI8 => ?_)
        exact r_iret dX9_fresh_35 rfl hc10 ⟨Nat.zero_le _, Nat.zero_le _⟩ ⟨_, rfl, rfl, hFI8, hT⟩
      · replace hT := hT.2 hcc
        refine r_iconst (n := (-1)) dX9_fresh_27 ?_
        exact r_iret dX9_fresh_28 rfl ⟨by decide, by decide⟩ ⟨Nat.zero_le _, Nat.zero_le _⟩ ⟨_, rfl, rfl, hFI4, hT⟩
theorem en_X9_fresh {E : jE} {G : jG} {I : jM} {q : Int → jM → Prop} {m : Nat} {x1 : Int} {x2 : Int} (hm : WX9 G m) (hT : (∀ a j, jRg (G.2.1 a).1 (I a j)) → jIn x1 → jIn x2 → jRA E jB kX9_found [VR m] G I (fun r2 I1 => WX1 G r2 ∧ jRI E jB kX1_has [VR r2, VI x1] G I1 (fun r5 I4 => ((r5 = 0 → q (-1) I4) ∧ (¬ r5 = 0 → ((x2 < 0 → q (-1) I4) ∧ (¬ x2 < 0 → ((0 : Int) ≤ x1 ∧ (x1 : Int) < 1200) ∧ ((x2 < (I4 (r2 + 8) x1) → jRI E jB kX1_freshByte [VR r2, VI x1, VI x2] G I4 (fun r9 I8 => q r9 I8)) ∧ (¬ x2 < (I4 (r2 + 8) x1) → q (-1) I4))))))))) : jRI E jB kX9_fresh [VR m, VI x1, VI x2] G I q := jRun.of mt_X9_fresh.2.2.2 1 rfl (fun _ => st_X9_fresh_0 hm hT I (fun _ _ => rfl))
set_option maxRecDepth 20000 in
theorem st_X9_clashes_0 {E : jE} {G : jG} {I : jM} {q : Int → jM → Prop} {m : Nat} {x1 : Int} (hm : WX9 G m) (hT : (∀ a j, jRg (G.2.1 a).1 (I a j)) → jIn x1 → jRA E jB kX9_found [VR m] G I (fun r2 I1 => WX1 G r2 ∧ jRI E jB kX1_has [VR r2, VI x1] G I1 (fun r5 I4 => ((r5 = 0 → q (-1) I4) ∧ (¬ r5 = 0 → jRI E jB kX1_countClashes [VR r2, VI x1] G I4 (fun r8 I7 => q r8 I7)))))) : jOI E jB kX9_clashes 0 [VR m, VI x1, VN] G I q := by
  intro I0 hF
  refine jOk_mem (fun hI => ?_)
  refine jOk_in (i := 1) rfl (fun hx1 => ?_)
  replace hT := hT hI hx1
  refine r_aload_n dX9_clashes_0 rfl (i := 0) rfl ?_
  refine rr_cVA (a := m) (as := []) (st := []) dX9_clashes_1 mt_X9_found ml_X9_182 mi_X9_found rm_X9_clashes_X9_found jz_X9_found ⟨Nat.zero_le _, Nat.zero_le _⟩ (Nat.le_of_ble_eq_true rfl) (wX9_l hm) (wX9_c hm) jas0 hT (fun r2 I1 hFI1 hT => ?_)
  replace hFI1 := jFr_tr hF hFI1
  refine jOk_mem (fun hI1 => ?_)
  obtain ⟨hc3, hT⟩ := hT
  refine rr_astore_n (i := 2) (ls' := [VR m, VI x1, VR r2]) dX9_clashes_4 rfl (Nat.le_of_ble_eq_true rfl) rfl rfl ?_
  refine r_aload_n dX9_clashes_5 rfl (i := 2) rfl ?_
  refine r_iload_n dX9_clashes_6 rfl (i := 1) rfl ?_
  refine rr_cVI (a := r2) (as := [VI x1]) (st := []) dX9_clashes_7 mt_X1_has ml_X9_186 mi_X1_has rm_X9_clashes_X1_has jz_X1_has ⟨Nat.zero_le _, Nat.zero_le _⟩ (Nat.le_of_ble_eq_true rfl) (wX1_l hc3) (wX1_c hc3) (jasI hx1 jas0) hT (fun r5 I4 hc6 hFI4 hT => ?_)
  replace hFI4 := jFr_tr hFI1 hFI4
  refine jOk_mem (fun hI4 => ?_)
  refine r_if_eq (tgt := 21) dX9_clashes_10 rfl hc6 (fun hcc => ?_) (fun hcc => ?_)
  · replace hT := hT.1 hcc
    refine r_iconst (n := (-1)) dX9_clashes_21 ?_
    exact r_iret dX9_clashes_22 rfl ⟨by decide, by decide⟩ ⟨Nat.zero_le _, Nat.zero_le _⟩ ⟨_, rfl, rfl, hFI4, hT⟩
  · replace hT := hT.2 hcc
    refine r_aload_n dX9_clashes_13 rfl (i := 2) rfl ?_
    refine r_iload_n dX9_clashes_14 rfl (i := 1) rfl ?_
    refine rr_cVI (a := r2) (as := [VI x1]) (st := []) dX9_clashes_15 mt_X1_countClashes ml_X9_293 mi_X1_countClashes rm_X9_clashes_X1_countClashes jz_X1_countClashes ⟨Nat.zero_le _, Nat.zero_le _⟩ (Nat.le_of_ble_eq_true rfl) (wX1_l hc3) (wX1_c hc3) (jasI hx1 jas0) hT (fun r8 I7 hc9 hFI7 hT => ?_)
    replace hFI7 := jFr_tr hFI4 hFI7
    refine jOk_mem (fun hI7 => ?_)
    refine r_goto (tgt := 22) dX9_clashes_18 rfl ?_
    exact r_iret dX9_clashes_22 rfl hc9 ⟨Nat.zero_le _, Nat.zero_le _⟩ ⟨_, rfl, rfl, hFI7, hT⟩
theorem en_X9_clashes {E : jE} {G : jG} {I : jM} {q : Int → jM → Prop} {m : Nat} {x1 : Int} (hm : WX9 G m) (hT : (∀ a j, jRg (G.2.1 a).1 (I a j)) → jIn x1 → jRA E jB kX9_found [VR m] G I (fun r2 I1 => WX1 G r2 ∧ jRI E jB kX1_has [VR r2, VI x1] G I1 (fun r5 I4 => ((r5 = 0 → q (-1) I4) ∧ (¬ r5 = 0 → jRI E jB kX1_countClashes [VR r2, VI x1] G I4 (fun r8 I7 => q r8 I7)))))) : jRI E jB kX9_clashes [VR m, VI x1] G I q := jRun.of mt_X9_clashes.2.2.2 1 rfl (fun _ => st_X9_clashes_0 hm hT I (fun _ _ => rfl))
set_option maxRecDepth 20000 in
theorem st_X9_set_0 {E : jE} {G : jG} {I : jM} {q : Int → jM → Prop} {m : Nat} {x1 : Int} (hm : WX9 G m) (hT : (∀ a j, jRg (G.2.1 a).1 (I a j)) → jIn x1 → jRA E jB kX9_found [VR m] G I (fun r2 I1 => WX1 G r2 ∧ ((¬ x1 = (-1) → ((x1 < 0 → q (-1) I1) ∧ (¬ x1 < 0 → (((I1 r2 15) ≤ x1 → q (-1) I1) ∧ (¬ (I1 r2 15) ≤ x1 → ((0 : Int) ≤ x1 ∧ (x1 : Int) < 200) ∧ q (I1 (r2 + 13) x1) I1))))) ∧ (x1 = (-1) → q (I1 r2 15) I1)))) : jOI E jB kX9_set 0 [VR m, VI x1, VN] G I q := by
  intro I0 hF
  refine jOk_mem (fun hI => ?_)
  refine jOk_in (i := 1) rfl (fun hx1 => ?_)
  replace hT := hT hI hx1
  refine r_aload_n dX9_set_0 rfl (i := 0) rfl ?_
  refine rr_cVA (a := m) (as := []) (st := []) dX9_set_1 mt_X9_found ml_X9_182 mi_X9_found rm_X9_set_X9_found jz_X9_found ⟨Nat.zero_le _, Nat.zero_le _⟩ (Nat.le_of_ble_eq_true rfl) (wX9_l hm) (wX9_c hm) jas0 hT (fun r2 I1 hFI1 hT => ?_)
  replace hFI1 := jFr_tr hF hFI1
  refine jOk_mem (fun hI1 => ?_)
  obtain ⟨hc3, hT⟩ := hT
  refine rr_astore_n (i := 2) (ls' := [VR m, VI x1, VR r2]) dX9_set_4 rfl (Nat.le_of_ble_eq_true rfl) rfl rfl ?_
  refine r_iload_n dX9_set_5 rfl (i := 1) rfl ?_
  refine r_iconst (n := (-1)) dX9_set_6 ?_
  refine r_icmp_ne (tgt := 15) dX9_set_7 rfl hx1 ⟨by decide, by decide⟩ (fun hcc => ?_) (fun hcc => ?_)
  · replace hT := hT.1 hcc
    refine r_iload_n dX9_set_15 rfl (i := 1) rfl ?_
    refine r_if_lt (tgt := 36) dX9_set_16 rfl hx1 (fun hcc => ?_) (fun hcc => ?_)
    · replace hT := hT.1 hcc
      refine r_iconst (n := (-1)) dX9_set_36 ?_
      exact r_iret dX9_set_37 rfl ⟨by decide, by decide⟩ ⟨Nat.zero_le _, Nat.zero_le _⟩ ⟨_, rfl, rfl, hFI1, hT⟩
    · replace hT := hT.2 hcc
      refine r_iload_n dX9_set_19 rfl (i := 1) rfl ?_
      refine r_aload_n dX9_set_20 rfl (i := 2) rfl ?_
      refine rr_getI (v := I1 r2 15) dX9_set_21 fg_X9_296 rfl (wX1_l hc3) (wX1_s hc3) rfl ?_
      refine r_icmp_ge (tgt := 36) dX9_set_24 rfl hx1 (hI1 _ _).inR (fun hcc => ?_) (fun hcc => ?_)
      · replace hT := hT.1 hcc
        refine r_iconst (n := (-1)) dX9_set_36 ?_
        exact r_iret dX9_set_37 rfl ⟨by decide, by decide⟩ ⟨Nat.zero_le _, Nat.zero_le _⟩ ⟨_, rfl, rfl, hFI1, hT⟩
      · replace hT := hT.2 hcc
        refine r_aload_n dX9_set_27 rfl (i := 2) rfl ?_
        refine rr_getR (b := (r2 + 13)) dX9_set_28 fg_X9_299 rfl rfl (wX1_l hc3) (wX1_s hc3) (wX1_r14 hc3) ?_
        refine r_iload_n dX9_set_31 rfl (i := 1) rfl ?_
        obtain ⟨hc4, hT⟩ := hT
        refine rr_iaload (v := I1 (r2 + 13) x1) dX9_set_32 (wX1_l14 hc3) (wX1_a14 hc3) (by decide) hc4 rfl ?_
        refine r_goto (tgt := 37) dX9_set_33 rfl ?_
        exact r_iret dX9_set_37 rfl (hI1 _ _).inR ⟨Nat.zero_le _, Nat.zero_le _⟩ ⟨_, rfl, rfl, hFI1, hT⟩
  · replace hT := hT.2 hcc
    refine r_aload_n dX9_set_10 rfl (i := 2) rfl ?_
    refine rr_getI (v := I1 r2 15) dX9_set_11 fg_X9_296 rfl (wX1_l hc3) (wX1_s hc3) rfl ?_
    exact r_iret dX9_set_14 rfl (hI1 _ _).inR ⟨Nat.zero_le _, Nat.zero_le _⟩ ⟨_, rfl, rfl, hFI1, hT⟩
theorem en_X9_set {E : jE} {G : jG} {I : jM} {q : Int → jM → Prop} {m : Nat} {x1 : Int} (hm : WX9 G m) (hT : (∀ a j, jRg (G.2.1 a).1 (I a j)) → jIn x1 → jRA E jB kX9_found [VR m] G I (fun r2 I1 => WX1 G r2 ∧ ((¬ x1 = (-1) → ((x1 < 0 → q (-1) I1) ∧ (¬ x1 < 0 → (((I1 r2 15) ≤ x1 → q (-1) I1) ∧ (¬ (I1 r2 15) ≤ x1 → ((0 : Int) ≤ x1 ∧ (x1 : Int) < 200) ∧ q (I1 (r2 + 13) x1) I1))))) ∧ (x1 = (-1) → q (I1 r2 15) I1)))) : jRI E jB kX9_set [VR m, VI x1] G I q := jRun.of mt_X9_set.2.2.2 1 rfl (fun _ => st_X9_set_0 hm hT I (fun _ _ => rfl))
set_option maxRecDepth 20000 in
theorem st_X9_worth_0 {E : jE} {G : jG} {I : jM} {q : Int → jM → Prop} {m : Nat} (hm : WX9 G m) (hT : (∀ a j, jRg (G.2.1 a).1 (I a j)) → jRA E jB kX9_found [VR m] G I (fun r2 I1 => WX1 G r2 ∧ jRI E jB kX1_pickedValue [VR r2] G I1 (fun r5 I4 => q r5 I4))) : jOI E jB kX9_worth 0 [VR m] G I q := by
  intro I0 hF
  refine jOk_mem (fun hI => ?_)
  replace hT := hT hI 
  refine r_aload_n dX9_worth_0 rfl (i := 0) rfl ?_
  refine rr_cVA (a := m) (as := []) (st := []) dX9_worth_1 mt_X9_found ml_X9_182 mi_X9_found rm_X9_worth_X9_found jz_X9_found ⟨Nat.zero_le _, Nat.zero_le _⟩ (Nat.le_of_ble_eq_true rfl) (wX9_l hm) (wX9_c hm) jas0 hT (fun r2 I1 hFI1 hT => ?_)
  replace hFI1 := jFr_tr hF hFI1
  refine jOk_mem (fun hI1 => ?_)
  obtain ⟨hc3, hT⟩ := hT
  refine rr_cVI (a := r2) (as := []) (st := []) dX9_worth_4 mt_X1_pickedValue ml_X9_302 mi_X1_pickedValue rm_X9_worth_X1_pickedValue jz_X1_pickedValue ⟨Nat.zero_le _, Nat.zero_le _⟩ (Nat.le_of_ble_eq_true rfl) (wX1_l hc3) (wX1_c hc3) jas0 hT (fun r5 I4 hc6 hFI4 hT => ?_)
  replace hFI4 := jFr_tr hFI1 hFI4
  refine jOk_mem (fun hI4 => ?_)
  exact r_iret dX9_worth_7 rfl hc6 ⟨Nat.zero_le _, Nat.zero_le _⟩ ⟨_, rfl, rfl, hFI4, hT⟩
theorem en_X9_worth {E : jE} {G : jG} {I : jM} {q : Int → jM → Prop} {m : Nat} (hm : WX9 G m) (hT : (∀ a j, jRg (G.2.1 a).1 (I a j)) → jRA E jB kX9_found [VR m] G I (fun r2 I1 => WX1 G r2 ∧ jRI E jB kX1_pickedValue [VR r2] G I1 (fun r5 I4 => q r5 I4))) : jRI E jB kX9_worth [VR m] G I q := jRun.of mt_X9_worth.2.2.2 0 rfl (fun _ => st_X9_worth_0 hm hT I (fun _ _ => rfl))
set_option maxRecDepth 20000 in
theorem st_X9_chosen_0 {E : jE} {G : jG} {I : jM} {q : Int → jM → Prop} {m : Nat} {x1 : Int} (hm : WX9 G m) (hT : (∀ a j, jRg (G.2.1 a).1 (I a j)) → jIn x1 → jRI E jB kX9_isRule [VR m, VI x1] G I (fun r2 I1 => ((r2 = 0 → q (-1) I1) ∧ (¬ r2 = 0 → jRA E jB kX9_found [VR m] G I1 (fun r5 I4 => WX1 G r5 ∧ jRI E jB kX1_countPicked [VR r5, VI x1] G I4 (fun r8 I7 => q r8 I7)))))) : jOI E jB kX9_chosen 0 [VR m, VI x1] G I q := by
  intro I0 hF
  refine jOk_mem (fun hI => ?_)
  refine jOk_in (i := 1) rfl (fun hx1 => ?_)
  replace hT := hT hI hx1
  refine r_aload_n dX9_chosen_0 rfl (i := 0) rfl ?_
  refine r_iload_n dX9_chosen_1 rfl (i := 1) rfl ?_
  refine rr_cVI (a := m) (as := [VI x1]) (st := []) dX9_chosen_2 mt_X9_isRule ml_X9_129 mi_X9_isRule rm_X9_chosen_X9_isRule jz_X9_isRule ⟨Nat.zero_le _, Nat.zero_le _⟩ (Nat.le_of_ble_eq_true rfl) (wX9_l hm) (wX9_c hm) (jasI hx1 jas0) hT (fun r2 I1 hc3 hFI1 hT => ?_)
  replace hFI1 := jFr_tr hF hFI1
  refine jOk_mem (fun hI1 => ?_)
  refine r_if_eq (tgt := 19) dX9_chosen_5 rfl hc3 (fun hcc => ?_) (fun hcc => ?_)
  · replace hT := hT.1 hcc
    refine r_iconst (n := (-1)) dX9_chosen_19 ?_
    exact r_iret dX9_chosen_20 rfl ⟨by decide, by decide⟩ ⟨Nat.zero_le _, Nat.zero_le _⟩ ⟨_, rfl, rfl, hFI1, hT⟩
  · replace hT := hT.2 hcc
    refine r_aload_n dX9_chosen_8 rfl (i := 0) rfl ?_
    refine rr_cVA (a := m) (as := []) (st := []) dX9_chosen_9 mt_X9_found ml_X9_182 mi_X9_found rm_X9_chosen_X9_found jz_X9_found ⟨Nat.zero_le _, Nat.zero_le _⟩ (Nat.le_of_ble_eq_true rfl) (wX9_l hm) (wX9_c hm) jas0 hT (fun r5 I4 hFI4 hT => ?_)
    replace hFI4 := jFr_tr hFI1 hFI4
    refine jOk_mem (fun hI4 => ?_)
    obtain ⟨hc6, hT⟩ := hT
    refine r_iload_n dX9_chosen_12 rfl (i := 1) rfl ?_
    refine rr_cVI (a := r5) (as := [VI x1]) (st := []) dX9_chosen_13 mt_X1_countPicked ml_X9_305 mi_X1_countPicked rm_X9_chosen_X1_countPicked jz_X1_countPicked ⟨Nat.zero_le _, Nat.zero_le _⟩ (Nat.le_of_ble_eq_true rfl) (wX1_l hc6) (wX1_c hc6) (jasI hx1 jas0) hT (fun r8 I7 hc9 hFI7 hT => ?_)
    replace hFI7 := jFr_tr hFI4 hFI7
    refine jOk_mem (fun hI7 => ?_)
    refine r_goto (tgt := 20) dX9_chosen_16 rfl ?_
    exact r_iret dX9_chosen_20 rfl hc9 ⟨Nat.zero_le _, Nat.zero_le _⟩ ⟨_, rfl, rfl, hFI7, hT⟩
theorem en_X9_chosen {E : jE} {G : jG} {I : jM} {q : Int → jM → Prop} {m : Nat} {x1 : Int} (hm : WX9 G m) (hT : (∀ a j, jRg (G.2.1 a).1 (I a j)) → jIn x1 → jRI E jB kX9_isRule [VR m, VI x1] G I (fun r2 I1 => ((r2 = 0 → q (-1) I1) ∧ (¬ r2 = 0 → jRA E jB kX9_found [VR m] G I1 (fun r5 I4 => WX1 G r5 ∧ jRI E jB kX1_countPicked [VR r5, VI x1] G I4 (fun r8 I7 => q r8 I7)))))) : jRI E jB kX9_chosen [VR m, VI x1] G I q := jRun.of mt_X9_chosen.2.2.2 0 rfl (fun _ => st_X9_chosen_0 hm hT I (fun _ _ => rfl))
set_option maxRecDepth 20000 in
theorem st_X9_without_0 {E : jE} {G : jG} {I : jM} {q : Int → jM → Prop} {m : Nat} {x1 : Int} (hm : WX9 G m) (hT : (∀ a j, jRg (G.2.1 a).1 (I a j)) → jIn x1 → jRI E jB kX9_isRule [VR m, VI x1] G I (fun r2 I1 => ((¬ r2 = 0 → jRV E jB kX1_look [VR (m + 592), VR (m + 196), VR (m + 195), VI (jand (I1 (m + 195) 2) (jxor (jshl 1 x1) (-1)))] G I1 (fun I4 => jRI E jB kX1_pickedValue [VR (m + 592)] G I4 (fun r6 I5 => q r6 I5))) ∧ (r2 = 0 → q (-1) I1)))) : jOI E jB kX9_without 0 [VR m, VI x1] G I q := by
  intro I0 hF
  refine jOk_mem (fun hI => ?_)
  refine jOk_in (i := 1) rfl (fun hx1 => ?_)
  replace hT := hT hI hx1
  refine r_aload_n dX9_without_0 rfl (i := 0) rfl ?_
  refine r_iload_n dX9_without_1 rfl (i := 1) rfl ?_
  refine rr_cVI (a := m) (as := [VI x1]) (st := []) dX9_without_2 mt_X9_isRule ml_X9_129 mi_X9_isRule rm_X9_without_X9_isRule jz_X9_isRule ⟨Nat.zero_le _, Nat.zero_le _⟩ (Nat.le_of_ble_eq_true rfl) (wX9_l hm) (wX9_c hm) (jasI hx1 jas0) hT (fun r2 I1 hc3 hFI1 hT => ?_)
  replace hFI1 := jFr_tr hF hFI1
  refine jOk_mem (fun hI1 => ?_)
  refine r_if_ne (tgt := 10) dX9_without_5 rfl hc3 (fun hcc => ?_) (fun hcc => ?_)
  · replace hT := hT.1 hcc
    refine r_aload_n dX9_without_10 rfl (i := 0) rfl ?_
    refine rr_getR (b := (m + 592)) dX9_without_11 fg_X9_85 rfl rfl (wX9_l hm) (wX9_s hm) (wX9_r11 hm) ?_
    refine r_aload_n dX9_without_14 rfl (i := 0) rfl ?_
    refine rr_getR (b := (m + 195)) dX9_without_15 fg_X9_59 rfl rfl (wX9_l hm) (wX9_s hm) (wX9_r4 hm) ?_
    refine rr_getR (b := (m + 196)) dX9_without_18 fg_X9_103 rfl rfl (wX7_l (wX9_o4 hm)) (wX7_s (wX9_o4 hm)) (wX7_r0 (wX9_o4 hm)) ?_
    refine r_aload_n dX9_without_21 rfl (i := 0) rfl ?_
    refine rr_getR (b := (m + 195)) dX9_without_22 fg_X9_59 rfl rfl (wX9_l hm) (wX9_s hm) (wX9_r4 hm) ?_
    refine r_aload_n dX9_without_25 rfl (i := 0) rfl ?_
    refine rr_getR (b := (m + 195)) dX9_without_26 fg_X9_59 rfl rfl (wX9_l hm) (wX9_s hm) (wX9_r4 hm) ?_
    refine rr_getI (v := I1 (m + 195) 2) dX9_without_29 fg_X9_135 rfl (wX7_l (wX9_o4 hm)) (wX7_s (wX9_o4 hm)) rfl ?_
    refine r_iconst (n := 1) dX9_without_32 ?_
    refine r_iload_n dX9_without_33 rfl (i := 1) rfl ?_
    refine r_ishl dX9_without_34 ?_
    refine r_iconst (n := (-1)) dX9_without_35 ?_
    refine r_ixor dX9_without_36 ?_
    refine r_iand dX9_without_37 ?_
    refine rr_cVV (a := (m + 592)) (as := [VR (m + 196), VR (m + 195), VI (jand (I1 (m + 195) 2) (jxor (jshl 1 x1) (-1)))]) (st := []) dX9_without_38 mt_X1_look ml_X9_308 mi_X1_look rm_X9_without_X1_look jz_X1_look ⟨Nat.zero_le _, Nat.zero_le _⟩ (Nat.le_of_ble_eq_true rfl) (wX1_l (wX9_o11 hm)) (wX1_c (wX9_o11 hm)) (jasR (jasR (jasI (j32_in _) jas0))) hT (fun I4 hFI4 hT => ?_)
    replace hFI4 := jFr_tr hFI1 hFI4
    refine jOk_mem (fun hI4 => ?_)
    refine r_aload_n dX9_without_41 rfl (i := 0) rfl ?_
    refine rr_getR (b := (m + 592)) dX9_without_42 fg_X9_85 rfl rfl (wX9_l hm) (wX9_s hm) (wX9_r11 hm) ?_
    refine rr_cVI (a := (m + 592)) (as := []) (st := []) dX9_without_45 mt_X1_pickedValue ml_X9_302 mi_X1_pickedValue rm_X9_without_X1_pickedValue jz_X1_pickedValue ⟨Nat.zero_le _, Nat.zero_le _⟩ (Nat.le_of_ble_eq_true rfl) (wX1_l (wX9_o11 hm)) (wX1_c (wX9_o11 hm)) jas0 hT (fun r6 I5 hc7 hFI5 hT => ?_)
    replace hFI5 := jFr_tr hFI4 hFI5
    refine jOk_mem (fun hI5 => ?_)
    exact r_iret dX9_without_48 rfl hc7 ⟨Nat.zero_le _, Nat.zero_le _⟩ ⟨_, rfl, rfl, hFI5, hT⟩
  · replace hT := hT.2 hcc
    refine r_iconst (n := (-1)) dX9_without_8 ?_
    exact r_iret dX9_without_9 rfl ⟨by decide, by decide⟩ ⟨Nat.zero_le _, Nat.zero_le _⟩ ⟨_, rfl, rfl, hFI1, hT⟩
theorem en_X9_without {E : jE} {G : jG} {I : jM} {q : Int → jM → Prop} {m : Nat} {x1 : Int} (hm : WX9 G m) (hT : (∀ a j, jRg (G.2.1 a).1 (I a j)) → jIn x1 → jRI E jB kX9_isRule [VR m, VI x1] G I (fun r2 I1 => ((¬ r2 = 0 → jRV E jB kX1_look [VR (m + 592), VR (m + 196), VR (m + 195), VI (jand (I1 (m + 195) 2) (jxor (jshl 1 x1) (-1)))] G I1 (fun I4 => jRI E jB kX1_pickedValue [VR (m + 592)] G I4 (fun r6 I5 => q r6 I5))) ∧ (r2 = 0 → q (-1) I1)))) : jRI E jB kX9_without [VR m, VI x1] G I q := jRun.of mt_X9_without.2.2.2 0 rfl (fun _ => st_X9_without_0 hm hT I (fun _ _ => rfl))
set_option maxRecDepth 20000 in
theorem st_X9_span_0 {E : jE} {G : jG} {I : jM} {q : Int → jM → Prop} {m : Nat} {x1 : Int} {x2 : Int} (hm : WX9 G m) (hT : (∀ a j, jRg (G.2.1 a).1 (I a j)) → jIn x1 → jIn x2 → jRA E jB kX9_found [VR m] G I (fun r2 I1 => WX1 G r2 ∧ jRI E jB kX9_isRule [VR m, VI x1] G I1 (fun r5 I4 => ((r5 = 0 → q (-1) I4) ∧ (¬ r5 = 0 → jRI E jB kX1_fitsFrom [VR r2, VI x1, VI x2] G I4 (fun r8 I7 => ((¬ r8 = 0 → (∃ b10 : Nat, I7 (m + 195) 1 = (b10 : Int) ∧ WX6 G b10 ∧ ((0 : Int) ≤ x1 ∧ (x1 : Int) < 6) ∧ jIn (x2 + (I7 (b10 + 3) x1)) ∧ ((0 : Int) ≤ (x2 + (I7 (b10 + 3) x1)) ∧ ((x2 + (I7 (b10 + 3) x1)) : Int) < 201) ∧ ((0 : Int) ≤ x2 ∧ (x2 : Int) < 201) ∧ jIn ((I7 (r2 + 2) (x2 + (I7 (b10 + 3) x1))) - (I7 (r2 + 2) x2)) ∧ q ((I7 (r2 + 2) (x2 + (I7 (b10 + 3) x1))) - (I7 (r2 + 2) x2)) I7)) ∧ (r8 = 0 → q (-1) I7)))))))) : jOI E jB kX9_span 0 [VR m, VI x1, VI x2, VN, VN] G I q := by
  intro I0 hF
  refine jOk_mem (fun hI => ?_)
  refine jOk_in (i := 1) rfl (fun hx1 => ?_)
  refine jOk_in (i := 2) rfl (fun hx2 => ?_)
  replace hT := hT hI hx1 hx2
  refine r_aload_n dX9_span_0 rfl (i := 0) rfl ?_
  refine rr_cVA (a := m) (as := []) (st := []) dX9_span_1 mt_X9_found ml_X9_182 mi_X9_found rm_X9_span_X9_found jz_X9_found ⟨Nat.zero_le _, Nat.zero_le _⟩ (Nat.le_of_ble_eq_true rfl) (wX9_l hm) (wX9_c hm) jas0 hT (fun r2 I1 hFI1 hT => ?_)
  replace hFI1 := jFr_tr hF hFI1
  refine jOk_mem (fun hI1 => ?_)
  obtain ⟨hc3, hT⟩ := hT
  refine rr_astore_n (i := 3) (ls' := [VR m, VI x1, VI x2, VR r2, VN]) dX9_span_4 rfl (Nat.le_of_ble_eq_true rfl) rfl rfl ?_
  refine r_aload_n dX9_span_5 rfl (i := 0) rfl ?_
  refine r_iload_n dX9_span_6 rfl (i := 1) rfl ?_
  refine rr_cVI (a := m) (as := [VI x1]) (st := []) dX9_span_7 mt_X9_isRule ml_X9_129 mi_X9_isRule rm_X9_span_X9_isRule jz_X9_isRule ⟨Nat.zero_le _, Nat.zero_le _⟩ (Nat.le_of_ble_eq_true rfl) (wX9_l hm) (wX9_c hm) (jasI hx1 jas0) hT (fun r5 I4 hc6 hFI4 hT => ?_)
  replace hFI4 := jFr_tr hFI1 hFI4
  refine jOk_mem (fun hI4 => ?_)
  refine r_if_eq (tgt := 22) dX9_span_10 rfl hc6 (fun hcc => ?_) (fun hcc => ?_)
  · replace hT := hT.1 hcc
    refine r_iconst (n := (-1)) dX9_span_22 ?_
    exact r_iret dX9_span_23 rfl ⟨by decide, by decide⟩ ⟨Nat.zero_le _, Nat.zero_le _⟩ ⟨_, rfl, rfl, hFI4, hT⟩
  · replace hT := hT.2 hcc
    refine r_aload_n dX9_span_13 rfl (i := 3) rfl ?_
    refine r_iload_n dX9_span_14 rfl (i := 1) rfl ?_
    refine r_iload_n dX9_span_15 rfl (i := 2) rfl ?_
    refine rr_cVI (a := r2) (as := [VI x1, VI x2]) (st := []) dX9_span_16 mt_X1_fitsFrom ml_X9_268 mi_X1_fitsFrom rm_X9_span_X1_fitsFrom jz_X1_fitsFrom ⟨Nat.zero_le _, Nat.zero_le _⟩ (Nat.le_of_ble_eq_true rfl) (wX1_l hc3) (wX1_c hc3) (jasI hx1 (jasI hx2 jas0)) hT (fun r8 I7 hc9 hFI7 hT => ?_)
    replace hFI7 := jFr_tr hFI4 hFI7
    refine jOk_mem (fun hI7 => ?_)
    refine r_if_ne (tgt := 24) dX9_span_19 rfl hc9 (fun hcc => ?_) (fun hcc => ?_)
    · replace hT := hT.1 hcc
      refine r_iload_n dX9_span_24 rfl (i := 2) rfl ?_
      refine r_aload_n dX9_span_25 rfl (i := 0) rfl ?_
      refine rr_getR (b := (m + 195)) dX9_span_26 fg_X9_59 rfl rfl (wX9_l hm) (wX9_s hm) (wX9_r4 hm) ?_
      obtain ⟨b10, hc11, hc12, hT⟩ := hT
      refine rr_getM (b := b10) dX9_span_29 fg_X9_117 rfl rfl (wX7_l (wX9_o4 hm)) (wX7_s (wX9_o4 hm)) hc11 ?_
      refine rr_getR (b := (b10 + 3)) dX9_span_32 fg_X9_259 rfl rfl (wX6_l hc12) (wX6_s hc12) (wX6_r3 hc12) ?_
      refine r_iload_n dX9_span_35 rfl (i := 1) rfl ?_
      obtain ⟨hc13, hT⟩ := hT
      refine rr_iaload (v := I7 (b10 + 3) x1) dX9_span_36 (wX6_l3 hc12) (wX6_a3 hc12) (by decide) hc13 rfl ?_
      refine r_iadd dX9_span_37 ?_
      obtain ⟨hc14, hT⟩ := hT
      refine rr_istore (i := 4) (ls' := [VR m, VI x1, VI x2, VR r2, VI (x2 + (I7 (b10 + 3) x1))]) dX9_span_38 (Nat.le_of_ble_eq_true rfl) rfl rfl hc14 ?_
      refine r_aload_n dX9_span_40 rfl (i := 3) rfl ?_
      refine rr_getR (b := (r2 + 1)) dX9_span_41 fg_X9_221 rfl rfl (wX1_l hc3) (wX1_s hc3) (wX1_r2 hc3) ?_
      refine rr_getR (b := (r2 + 2)) dX9_span_44 fg_X9_250 rfl rfl (wX8_l (wX1_o2 hc3)) (wX8_s (wX1_o2 hc3)) (wX8_r0 (wX1_o2 hc3)) ?_
      refine r_iload dX9_span_47 (i := 4) rfl ?_
      obtain ⟨hc15, hT⟩ := hT
      refine rr_iaload (v := I7 (r2 + 2) (x2 + (I7 (b10 + 3) x1))) dX9_span_49 (wX8_l0 (wX1_o2 hc3)) (wX8_a0 (wX1_o2 hc3)) (by decide) hc15 rfl ?_
      refine r_aload_n dX9_span_50 rfl (i := 3) rfl ?_
      refine rr_getR (b := (r2 + 1)) dX9_span_51 fg_X9_221 rfl rfl (wX1_l hc3) (wX1_s hc3) (wX1_r2 hc3) ?_
      refine rr_getR (b := (r2 + 2)) dX9_span_54 fg_X9_250 rfl rfl (wX8_l (wX1_o2 hc3)) (wX8_s (wX1_o2 hc3)) (wX8_r0 (wX1_o2 hc3)) ?_
      refine r_iload_n dX9_span_57 rfl (i := 2) rfl ?_
      obtain ⟨hc16, hT⟩ := hT
      refine rr_iaload (v := I7 (r2 + 2) x2) dX9_span_58 (wX8_l0 (wX1_o2 hc3)) (wX8_a0 (wX1_o2 hc3)) (by decide) hc16 rfl ?_
      refine r_isub dX9_span_59 ?_
      obtain ⟨hc17, hT⟩ := hT
      exact r_iret dX9_span_60 rfl hc17 ⟨Nat.zero_le _, Nat.zero_le _⟩ ⟨_, rfl, rfl, hFI7, hT⟩
    · replace hT := hT.2 hcc
      refine r_iconst (n := (-1)) dX9_span_22 ?_
      exact r_iret dX9_span_23 rfl ⟨by decide, by decide⟩ ⟨Nat.zero_le _, Nat.zero_le _⟩ ⟨_, rfl, rfl, hFI7, hT⟩
theorem en_X9_span {E : jE} {G : jG} {I : jM} {q : Int → jM → Prop} {m : Nat} {x1 : Int} {x2 : Int} (hm : WX9 G m) (hT : (∀ a j, jRg (G.2.1 a).1 (I a j)) → jIn x1 → jIn x2 → jRA E jB kX9_found [VR m] G I (fun r2 I1 => WX1 G r2 ∧ jRI E jB kX9_isRule [VR m, VI x1] G I1 (fun r5 I4 => ((r5 = 0 → q (-1) I4) ∧ (¬ r5 = 0 → jRI E jB kX1_fitsFrom [VR r2, VI x1, VI x2] G I4 (fun r8 I7 => ((¬ r8 = 0 → (∃ b10 : Nat, I7 (m + 195) 1 = (b10 : Int) ∧ WX6 G b10 ∧ ((0 : Int) ≤ x1 ∧ (x1 : Int) < 6) ∧ jIn (x2 + (I7 (b10 + 3) x1)) ∧ ((0 : Int) ≤ (x2 + (I7 (b10 + 3) x1)) ∧ ((x2 + (I7 (b10 + 3) x1)) : Int) < 201) ∧ ((0 : Int) ≤ x2 ∧ (x2 : Int) < 201) ∧ jIn ((I7 (r2 + 2) (x2 + (I7 (b10 + 3) x1))) - (I7 (r2 + 2) x2)) ∧ q ((I7 (r2 + 2) (x2 + (I7 (b10 + 3) x1))) - (I7 (r2 + 2) x2)) I7)) ∧ (r8 = 0 → q (-1) I7)))))))) : jRI E jB kX9_span [VR m, VI x1, VI x2] G I q := jRun.of mt_X9_span.2.2.2 2 rfl (fun _ => st_X9_span_0 hm hT I (fun _ _ => rfl))
set_option maxRecDepth 20000 in
theorem st_X9_silenced_0 {E : jE} {G : jG} {I : jM} {q : Int → jM → Prop} {m : Nat} {x1 : Int} {x2 : Int} (hm : WX9 G m) (hT : (∀ a j, jRg (G.2.1 a).1 (I a j)) → jIn x1 → jIn x2 → ((x1 < 0 → q (-1) I) ∧ (¬ x1 < 0 → ((x1 < (I (m + 196) 5) → ((¬ x2 = 0 → ((¬ x2 = 1 → q (-1) I) ∧ (x2 = 1 → ((0 : Int) ≤ x1 ∧ (x1 : Int) < 8) ∧ q (I (m + 200) x1) I))) ∧ (x2 = 0 → ((0 : Int) ≤ x1 ∧ (x1 : Int) < 8) ∧ q (I (m + 199) x1) I))) ∧ (¬ x1 < (I (m + 196) 5) → q (-1) I))))) : jOI E jB kX9_silenced 0 [VR m, VI x1, VI x2, VN] G I q := by
  intro I0 hF
  refine jOk_mem (fun hI => ?_)
  refine jOk_in (i := 1) rfl (fun hx1 => ?_)
  refine jOk_in (i := 2) rfl (fun hx2 => ?_)
  replace hT := hT hI hx1 hx2
  refine r_aload_n dX9_silenced_0 rfl (i := 0) rfl ?_
  refine rr_getR (b := (m + 195)) dX9_silenced_1 fg_X9_59 rfl rfl (wX9_l hm) (wX9_s hm) (wX9_r4 hm) ?_
  refine rr_getR (b := (m + 196)) dX9_silenced_4 fg_X9_103 rfl rfl (wX7_l (wX9_o4 hm)) (wX7_s (wX9_o4 hm)) (wX7_r0 (wX9_o4 hm)) ?_
  refine rr_astore_n (i := 3) (ls' := [VR m, VI x1, VI x2, VR (m + 196)]) dX9_silenced_7 rfl (Nat.le_of_ble_eq_true rfl) rfl rfl ?_
  refine r_iload_n dX9_silenced_8 rfl (i := 1) rfl ?_
  refine r_if_lt (tgt := 20) dX9_silenced_9 rfl hx1 (fun hcc => ?_) (fun hcc => ?_)
  · replace hT := hT.1 hcc
    refine r_iconst (n := (-1)) dX9_silenced_20 ?_
    exact r_iret dX9_silenced_21 rfl ⟨by decide, by decide⟩ ⟨Nat.zero_le _, Nat.zero_le _⟩ ⟨_, rfl, rfl, hF, hT⟩
  · replace hT := hT.2 hcc
    refine r_iload_n dX9_silenced_12 rfl (i := 1) rfl ?_
    refine r_aload_n dX9_silenced_13 rfl (i := 3) rfl ?_
    refine rr_getI (v := I (m + 196) 5) dX9_silenced_14 fg_X9_141 rfl (wX4_l (wX7_o0 (wX9_o4 hm))) (wX4_s (wX7_o0 (wX9_o4 hm))) rfl ?_
    refine r_icmp_lt (tgt := 22) dX9_silenced_17 rfl hx1 (hI _ _).inR (fun hcc => ?_) (fun hcc => ?_)
    · replace hT := hT.1 hcc
      refine r_iload_n dX9_silenced_22 rfl (i := 2) rfl ?_
      refine r_if_ne (tgt := 33) dX9_silenced_23 rfl hx2 (fun hcc => ?_) (fun hcc => ?_)
      · replace hT := hT.1 hcc
        refine r_iload_n dX9_silenced_33 rfl (i := 2) rfl ?_
        refine r_iconst (n := 1) dX9_silenced_34 ?_
        refine r_icmp_ne (tgt := 47) dX9_silenced_35 rfl hx2 ⟨by decide, by decide⟩ (fun hcc => ?_) (fun hcc => ?_)
        · replace hT := hT.1 hcc
          refine r_iconst (n := (-1)) dX9_silenced_47 ?_
          exact r_iret dX9_silenced_48 rfl ⟨by decide, by decide⟩ ⟨Nat.zero_le _, Nat.zero_le _⟩ ⟨_, rfl, rfl, hF, hT⟩
        · replace hT := hT.2 hcc
          refine r_aload_n dX9_silenced_38 rfl (i := 3) rfl ?_
          refine rr_getR (b := (m + 200)) dX9_silenced_39 fg_X9_315 rfl rfl (wX4_l (wX7_o0 (wX9_o4 hm))) (wX4_s (wX7_o0 (wX9_o4 hm))) (wX4_r4 (wX7_o0 (wX9_o4 hm))) ?_
          refine r_iload_n dX9_silenced_42 rfl (i := 1) rfl ?_
          obtain ⟨hc1, hT⟩ := hT
          refine rr_iaload (v := I (m + 200) x1) dX9_silenced_43 (wX4_l4 (wX7_o0 (wX9_o4 hm))) (wX4_a4 (wX7_o0 (wX9_o4 hm))) (by decide) hc1 rfl ?_
          refine r_goto (tgt := 48) dX9_silenced_44 rfl ?_
          exact r_iret dX9_silenced_48 rfl (hI _ _).inR ⟨Nat.zero_le _, Nat.zero_le _⟩ ⟨_, rfl, rfl, hF, hT⟩
      · replace hT := hT.2 hcc
        refine r_aload_n dX9_silenced_26 rfl (i := 3) rfl ?_
        refine rr_getR (b := (m + 199)) dX9_silenced_27 fg_X9_312 rfl rfl (wX4_l (wX7_o0 (wX9_o4 hm))) (wX4_s (wX7_o0 (wX9_o4 hm))) (wX4_r3 (wX7_o0 (wX9_o4 hm))) ?_
        refine r_iload_n dX9_silenced_30 rfl (i := 1) rfl ?_
        obtain ⟨hc2, hT⟩ := hT
        refine rr_iaload (v := I (m + 199) x1) dX9_silenced_31 (wX4_l3 (wX7_o0 (wX9_o4 hm))) (wX4_a3 (wX7_o0 (wX9_o4 hm))) (by decide) hc2 rfl ?_
        exact r_iret dX9_silenced_32 rfl (hI _ _).inR ⟨Nat.zero_le _, Nat.zero_le _⟩ ⟨_, rfl, rfl, hF, hT⟩
    · replace hT := hT.2 hcc
      refine r_iconst (n := (-1)) dX9_silenced_20 ?_
      exact r_iret dX9_silenced_21 rfl ⟨by decide, by decide⟩ ⟨Nat.zero_le _, Nat.zero_le _⟩ ⟨_, rfl, rfl, hF, hT⟩
theorem en_X9_silenced {E : jE} {G : jG} {I : jM} {q : Int → jM → Prop} {m : Nat} {x1 : Int} {x2 : Int} (hm : WX9 G m) (hT : (∀ a j, jRg (G.2.1 a).1 (I a j)) → jIn x1 → jIn x2 → ((x1 < 0 → q (-1) I) ∧ (¬ x1 < 0 → ((x1 < (I (m + 196) 5) → ((¬ x2 = 0 → ((¬ x2 = 1 → q (-1) I) ∧ (x2 = 1 → ((0 : Int) ≤ x1 ∧ (x1 : Int) < 8) ∧ q (I (m + 200) x1) I))) ∧ (x2 = 0 → ((0 : Int) ≤ x1 ∧ (x1 : Int) < 8) ∧ q (I (m + 199) x1) I))) ∧ (¬ x1 < (I (m + 196) 5) → q (-1) I))))) : jRI E jB kX9_silenced [VR m, VI x1, VI x2] G I q := jRun.of mt_X9_silenced.2.2.2 1 rfl (fun _ => st_X9_silenced_0 hm hT I (fun _ _ => rfl))
set_option maxRecDepth 20000 in
theorem st_X9_isSilent_0 {E : jE} {G : jG} {I : jM} {q : Int → jM → Prop} {m : Nat} {x1 : Int} (hm : WX9 G m) (hT : (∀ a j, jRg (G.2.1 a).1 (I a j)) → jIn x1 → jRI E jB kX9_isByte [VR m, VI x1] G I (fun r2 I1 => ((r2 = 0 → q 0 I1) ∧ (¬ r2 = 0 → jIn (x1 + 1) ∧ jRI E jB kX4_hides [VR (m + 196), VI x1, VI (x1 + 1)] G I1 (fun r6 I5 => ((r6 = 0 → q 0 I5) ∧ (¬ r6 = 0 → q 1 I5))))))) : jOI E jB kX9_isSilent 0 [VR m, VI x1] G I q := by
  intro I0 hF
  refine jOk_mem (fun hI => ?_)
  refine jOk_in (i := 1) rfl (fun hx1 => ?_)
  replace hT := hT hI hx1
  refine r_aload_n dX9_isSilent_0 rfl (i := 0) rfl ?_
  refine r_iload_n dX9_isSilent_1 rfl (i := 1) rfl ?_
  refine rr_cVI (a := m) (as := [VI x1]) (st := []) dX9_isSilent_2 mt_X9_isByte ml_X9_157 mi_X9_isByte rm_X9_isSilent_X9_isByte jz_X9_isByte ⟨Nat.zero_le _, Nat.zero_le _⟩ (Nat.le_of_ble_eq_true rfl) (wX9_l hm) (wX9_c hm) (jasI hx1 jas0) hT (fun r2 I1 hc3 hFI1 hT => ?_)
  replace hFI1 := jFr_tr hF hFI1
  refine jOk_mem (fun hI1 => ?_)
  refine r_if_eq (tgt := 29) dX9_isSilent_5 rfl hc3 (fun hcc => ?_) (fun hcc => ?_)
  · replace hT := hT.1 hcc
    refine r_iconst (n := 0) dX9_isSilent_29 ?_
    exact r_zret dX9_isSilent_30 rfl ⟨by decide, by decide⟩ ⟨Nat.zero_le _, Nat.zero_le _⟩ ⟨_, rfl, rfl, hFI1, hT⟩
  · replace hT := hT.2 hcc
    refine r_aload_n dX9_isSilent_8 rfl (i := 0) rfl ?_
    refine rr_getR (b := (m + 195)) dX9_isSilent_9 fg_X9_59 rfl rfl (wX9_l hm) (wX9_s hm) (wX9_r4 hm) ?_
    refine rr_getR (b := (m + 196)) dX9_isSilent_12 fg_X9_103 rfl rfl (wX7_l (wX9_o4 hm)) (wX7_s (wX9_o4 hm)) (wX7_r0 (wX9_o4 hm)) ?_
    refine r_iload_n dX9_isSilent_15 rfl (i := 1) rfl ?_
    refine r_iload_n dX9_isSilent_16 rfl (i := 1) rfl ?_
    refine r_iconst (n := 1) dX9_isSilent_17 ?_
    refine r_iadd dX9_isSilent_18 ?_
    obtain ⟨hc4, hT⟩ := hT
    refine rr_cVI (a := (m + 196)) (as := [VI x1, VI (x1 + 1)]) (st := []) dX9_isSilent_19 mt_X4_hides ml_X9_160 mi_X4_hides rm_X9_isSilent_X4_hides jz_X4_hides ⟨Nat.zero_le _, Nat.zero_le _⟩ (Nat.le_of_ble_eq_true rfl) (wX4_l (wX7_o0 (wX9_o4 hm))) (wX4_c (wX7_o0 (wX9_o4 hm))) (jasI hx1 (jasI hc4 jas0)) hT (fun r6 I5 hc7 hFI5 hT => ?_)
    replace hFI5 := jFr_tr hFI1 hFI5
    refine jOk_mem (fun hI5 => ?_)
    refine r_if_eq (tgt := 29) dX9_isSilent_22 rfl hc7 (fun hcc => ?_) (fun hcc => ?_)
    · replace hT := hT.1 hcc
      refine r_iconst (n := 0) dX9_isSilent_29 ?_
      exact r_zret dX9_isSilent_30 rfl ⟨by decide, by decide⟩ ⟨Nat.zero_le _, Nat.zero_le _⟩ ⟨_, rfl, rfl, hFI5, hT⟩
    · replace hT := hT.2 hcc
      refine r_iconst (n := 1) dX9_isSilent_25 ?_
      refine r_goto (tgt := 30) dX9_isSilent_26 rfl ?_
      exact r_zret dX9_isSilent_30 rfl ⟨by decide, by decide⟩ ⟨Nat.zero_le _, Nat.zero_le _⟩ ⟨_, rfl, rfl, hFI5, hT⟩
theorem en_X9_isSilent {E : jE} {G : jG} {I : jM} {q : Int → jM → Prop} {m : Nat} {x1 : Int} (hm : WX9 G m) (hT : (∀ a j, jRg (G.2.1 a).1 (I a j)) → jIn x1 → jRI E jB kX9_isByte [VR m, VI x1] G I (fun r2 I1 => ((r2 = 0 → q 0 I1) ∧ (¬ r2 = 0 → jIn (x1 + 1) ∧ jRI E jB kX4_hides [VR (m + 196), VI x1, VI (x1 + 1)] G I1 (fun r6 I5 => ((r6 = 0 → q 0 I5) ∧ (¬ r6 = 0 → q 1 I5))))))) : jRI E jB kX9_isSilent [VR m, VI x1] G I q := jRun.of mt_X9_isSilent.2.2.2 0 rfl (fun _ => st_X9_isSilent_0 hm hT I (fun _ _ => rfl))
set_option maxRecDepth 20000 in
theorem st_X9_yielding_0 {E : jE} {G : jG} {I : jM} {q : Int → jM → Prop} {m : Nat} {x1 : Int} (hm : WX9 G m) (hT : (∀ a j, jRg (G.2.1 a).1 (I a j)) → jIn x1 → ((x1 < 0 → q (-1) I) ∧ (¬ x1 < 0 → ((x1 < (I (m + 195) 7) → ((0 : Int) ≤ x1 ∧ (x1 : Int) < 8) ∧ ((0 : Int) ≤ x1 ∧ (x1 : Int) < 8) ∧ jIn ((10 * (I (m + 201) x1)) + (I (m + 202) x1)) ∧ q ((10 * (I (m + 201) x1)) + (I (m + 202) x1)) I) ∧ (¬ x1 < (I (m + 195) 7) → q (-1) I))))) : jOI E jB kX9_yielding 0 [VR m, VI x1] G I q := by
  intro I0 hF
  refine jOk_mem (fun hI => ?_)
  refine jOk_in (i := 1) rfl (fun hx1 => ?_)
  replace hT := hT hI hx1
  refine r_iload_n dX9_yielding_0 rfl (i := 1) rfl ?_
  refine r_if_lt (tgt := 15) dX9_yielding_1 rfl hx1 (fun hcc => ?_) (fun hcc => ?_)
  · replace hT := hT.1 hcc
    refine r_iconst (n := (-1)) dX9_yielding_15 ?_
    exact r_iret dX9_yielding_16 rfl ⟨by decide, by decide⟩ ⟨Nat.zero_le _, Nat.zero_le _⟩ ⟨_, rfl, rfl, hF, hT⟩
  · replace hT := hT.2 hcc
    refine r_iload_n dX9_yielding_4 rfl (i := 1) rfl ?_
    refine r_aload_n dX9_yielding_5 rfl (i := 0) rfl ?_
    refine rr_getR (b := (m + 195)) dX9_yielding_6 fg_X9_59 rfl rfl (wX9_l hm) (wX9_s hm) (wX9_r4 hm) ?_
    refine rr_getI (v := I (m + 195) 7) dX9_yielding_9 fg_X9_170 rfl (wX7_l (wX9_o4 hm)) (wX7_s (wX9_o4 hm)) rfl ?_
    refine r_icmp_lt (tgt := 17) dX9_yielding_12 rfl hx1 (hI _ _).inR (fun hcc => ?_) (fun hcc => ?_)
    · replace hT := hT.1 hcc
      refine r_bipush (n := 10) dX9_yielding_17 (by decide +kernel) ?_
      refine r_aload_n dX9_yielding_19 rfl (i := 0) rfl ?_
      refine rr_getR (b := (m + 195)) dX9_yielding_20 fg_X9_59 rfl rfl (wX9_l hm) (wX9_s hm) (wX9_r4 hm) ?_
      refine rr_getR (b := (m + 201)) dX9_yielding_23 fg_X9_318 rfl rfl (wX7_l (wX9_o4 hm)) (wX7_s (wX9_o4 hm)) (wX7_r5 (wX9_o4 hm)) ?_
      refine r_iload_n dX9_yielding_26 rfl (i := 1) rfl ?_
      obtain ⟨hc1, hT⟩ := hT
      refine rr_iaload (v := I (m + 201) x1) dX9_yielding_27 (wX7_l5 (wX9_o4 hm)) (wX7_a5 (wX9_o4 hm)) (by decide) hc1 rfl ?_
      refine r_imul dX9_yielding_28 ?_
      refine r_aload_n dX9_yielding_29 rfl (i := 0) rfl ?_
      refine rr_getR (b := (m + 195)) dX9_yielding_30 fg_X9_59 rfl rfl (wX9_l hm) (wX9_s hm) (wX9_r4 hm) ?_
      refine rr_getR (b := (m + 202)) dX9_yielding_33 fg_X9_321 rfl rfl (wX7_l (wX9_o4 hm)) (wX7_s (wX9_o4 hm)) (wX7_r6 (wX9_o4 hm)) ?_
      refine r_iload_n dX9_yielding_36 rfl (i := 1) rfl ?_
      obtain ⟨hc2, hT⟩ := hT
      refine rr_iaload (v := I (m + 202) x1) dX9_yielding_37 (wX7_l6 (wX9_o4 hm)) (wX7_a6 (wX9_o4 hm)) (by decide) hc2 rfl ?_
      refine r_iadd dX9_yielding_38 ?_
      obtain ⟨hc3, hT⟩ := hT
      exact r_iret dX9_yielding_39 rfl hc3 ⟨Nat.zero_le _, Nat.zero_le _⟩ ⟨_, rfl, rfl, hF, hT⟩
    · replace hT := hT.2 hcc
      refine r_iconst (n := (-1)) dX9_yielding_15 ?_
      exact r_iret dX9_yielding_16 rfl ⟨by decide, by decide⟩ ⟨Nat.zero_le _, Nat.zero_le _⟩ ⟨_, rfl, rfl, hF, hT⟩
theorem en_X9_yielding {E : jE} {G : jG} {I : jM} {q : Int → jM → Prop} {m : Nat} {x1 : Int} (hm : WX9 G m) (hT : (∀ a j, jRg (G.2.1 a).1 (I a j)) → jIn x1 → ((x1 < 0 → q (-1) I) ∧ (¬ x1 < 0 → ((x1 < (I (m + 195) 7) → ((0 : Int) ≤ x1 ∧ (x1 : Int) < 8) ∧ ((0 : Int) ≤ x1 ∧ (x1 : Int) < 8) ∧ jIn ((10 * (I (m + 201) x1)) + (I (m + 202) x1)) ∧ q ((10 * (I (m + 201) x1)) + (I (m + 202) x1)) I) ∧ (¬ x1 < (I (m + 195) 7) → q (-1) I))))) : jRI E jB kX9_yielding [VR m, VI x1] G I q := jRun.of mt_X9_yielding.2.2.2 0 rfl (fun _ => st_X9_yielding_0 hm hT I (fun _ _ => rfl))
set_option maxRecDepth 20000 in
theorem st_X9_paint_0 {E : jE} {G : jG} {I : jM} {q : Int → jM → Prop} {m : Nat} {x1 : Int} (hm : WX9 G m) (hT : (∀ a j, jRg (G.2.1 a).1 (I a j)) → jIn x1 → jRI E jB kX9_isByte [VR m, VI x1] G I (fun r2 I1 => ((r2 = 0 → q (-1) I1) ∧ (¬ r2 = 0 → ((0 : Int) ≤ x1 ∧ (x1 : Int) < 200) ∧ (((-128) ≤ (I1 (m + 198) x1) ∧ (I1 (m + 198) x1) ≤ 127) → q (I1 (m + 198) x1) I1))))) : jOI E jB kX9_paint 0 [VR m, VI x1] G I q := by
  intro I0 hF
  refine jOk_mem (fun hI => ?_)
  refine jOk_in (i := 1) rfl (fun hx1 => ?_)
  replace hT := hT hI hx1
  refine r_aload_n dX9_paint_0 rfl (i := 0) rfl ?_
  refine r_iload_n dX9_paint_1 rfl (i := 1) rfl ?_
  refine rr_cVI (a := m) (as := [VI x1]) (st := []) dX9_paint_2 mt_X9_isByte ml_X9_157 mi_X9_isByte rm_X9_paint_X9_isByte jz_X9_isByte ⟨Nat.zero_le _, Nat.zero_le _⟩ (Nat.le_of_ble_eq_true rfl) (wX9_l hm) (wX9_c hm) (jasI hx1 jas0) hT (fun r2 I1 hc3 hFI1 hT => ?_)
  replace hFI1 := jFr_tr hF hFI1
  refine jOk_mem (fun hI1 => ?_)
  refine r_if_eq (tgt := 23) dX9_paint_5 rfl hc3 (fun hcc => ?_) (fun hcc => ?_)
  · replace hT := hT.1 hcc
    refine r_iconst (n := (-1)) dX9_paint_23 ?_
    exact r_iret dX9_paint_24 rfl ⟨by decide, by decide⟩ ⟨Nat.zero_le _, Nat.zero_le _⟩ ⟨_, rfl, rfl, hFI1, hT⟩
  · replace hT := hT.2 hcc
    refine r_aload_n dX9_paint_8 rfl (i := 0) rfl ?_
    refine rr_getR (b := (m + 195)) dX9_paint_9 fg_X9_59 rfl rfl (wX9_l hm) (wX9_s hm) (wX9_r4 hm) ?_
    refine rr_getR (b := (m + 196)) dX9_paint_12 fg_X9_103 rfl rfl (wX7_l (wX9_o4 hm)) (wX7_s (wX9_o4 hm)) (wX7_r0 (wX9_o4 hm)) ?_
    refine rr_getR (b := (m + 198)) dX9_paint_15 fg_X9_167 rfl rfl (wX4_l (wX7_o0 (wX9_o4 hm))) (wX4_s (wX7_o0 (wX9_o4 hm))) (wX4_r1 (wX7_o0 (wX9_o4 hm))) ?_
    refine r_iload_n dX9_paint_18 rfl (i := 1) rfl ?_
    obtain ⟨hc4, hT⟩ := hT
    refine rr_baload (v := I1 (m + 198) x1) dX9_paint_19 (wX4_l1 (wX7_o0 (wX9_o4 hm))) (wX4_a1 (wX7_o0 (wX9_o4 hm))) (by decide) hc4 rfl (fun hr5 => ?_)
    replace hT := hT hr5
    refine r_goto (tgt := 24) dX9_paint_20 rfl ?_
    exact r_iret dX9_paint_24 rfl (hI1 _ _).inR ⟨Nat.zero_le _, Nat.zero_le _⟩ ⟨_, rfl, rfl, hFI1, hT⟩
theorem en_X9_paint {E : jE} {G : jG} {I : jM} {q : Int → jM → Prop} {m : Nat} {x1 : Int} (hm : WX9 G m) (hT : (∀ a j, jRg (G.2.1 a).1 (I a j)) → jIn x1 → jRI E jB kX9_isByte [VR m, VI x1] G I (fun r2 I1 => ((r2 = 0 → q (-1) I1) ∧ (¬ r2 = 0 → ((0 : Int) ≤ x1 ∧ (x1 : Int) < 200) ∧ (((-128) ≤ (I1 (m + 198) x1) ∧ (I1 (m + 198) x1) ≤ 127) → q (I1 (m + 198) x1) I1))))) : jRI E jB kX9_paint [VR m, VI x1] G I q := jRun.of mt_X9_paint.2.2.2 0 rfl (fun _ => st_X9_paint_0 hm hT I (fun _ _ => rfl))
set_option maxRecDepth 20000 in
theorem st_X9_painted_0 {E : jE} {G : jG} {I : jM} {q : Int → jM → Prop} {m : Nat} {x1 : Int} (hm : WX9 G m) (hT : (∀ a j, jRg (G.2.1 a).1 (I a j)) → jIn x1 → jRI E jB kX9_isRule [VR m, VI x1] G I (fun r2 I1 => ((r2 = 0 → q (-1) I1) ∧ (¬ r2 = 0 → jRI E jB kX4_countPainted [VR (m + 196), VI x1] G I1 (fun r5 I4 => q r5 I4))))) : jOI E jB kX9_painted 0 [VR m, VI x1] G I q := by
  intro I0 hF
  refine jOk_mem (fun hI => ?_)
  refine jOk_in (i := 1) rfl (fun hx1 => ?_)
  replace hT := hT hI hx1
  refine r_aload_n dX9_painted_0 rfl (i := 0) rfl ?_
  refine r_iload_n dX9_painted_1 rfl (i := 1) rfl ?_
  refine rr_cVI (a := m) (as := [VI x1]) (st := []) dX9_painted_2 mt_X9_isRule ml_X9_129 mi_X9_isRule rm_X9_painted_X9_isRule jz_X9_isRule ⟨Nat.zero_le _, Nat.zero_le _⟩ (Nat.le_of_ble_eq_true rfl) (wX9_l hm) (wX9_c hm) (jasI hx1 jas0) hT (fun r2 I1 hc3 hFI1 hT => ?_)
  replace hFI1 := jFr_tr hF hFI1
  refine jOk_mem (fun hI1 => ?_)
  refine r_if_eq (tgt := 22) dX9_painted_5 rfl hc3 (fun hcc => ?_) (fun hcc => ?_)
  · replace hT := hT.1 hcc
    refine r_iconst (n := (-1)) dX9_painted_22 ?_
    exact r_iret dX9_painted_23 rfl ⟨by decide, by decide⟩ ⟨Nat.zero_le _, Nat.zero_le _⟩ ⟨_, rfl, rfl, hFI1, hT⟩
  · replace hT := hT.2 hcc
    refine r_aload_n dX9_painted_8 rfl (i := 0) rfl ?_
    refine rr_getR (b := (m + 195)) dX9_painted_9 fg_X9_59 rfl rfl (wX9_l hm) (wX9_s hm) (wX9_r4 hm) ?_
    refine rr_getR (b := (m + 196)) dX9_painted_12 fg_X9_103 rfl rfl (wX7_l (wX9_o4 hm)) (wX7_s (wX9_o4 hm)) (wX7_r0 (wX9_o4 hm)) ?_
    refine r_iload_n dX9_painted_15 rfl (i := 1) rfl ?_
    refine rr_cVI (a := (m + 196)) (as := [VI x1]) (st := []) dX9_painted_16 mt_X4_countPainted ml_X9_324 mi_X4_countPainted rm_X9_painted_X4_countPainted jz_X4_countPainted ⟨Nat.zero_le _, Nat.zero_le _⟩ (Nat.le_of_ble_eq_true rfl) (wX4_l (wX7_o0 (wX9_o4 hm))) (wX4_c (wX7_o0 (wX9_o4 hm))) (jasI hx1 jas0) hT (fun r5 I4 hc6 hFI4 hT => ?_)
    replace hFI4 := jFr_tr hFI1 hFI4
    refine jOk_mem (fun hI4 => ?_)
    refine r_goto (tgt := 23) dX9_painted_19 rfl ?_
    exact r_iret dX9_painted_23 rfl hc6 ⟨Nat.zero_le _, Nat.zero_le _⟩ ⟨_, rfl, rfl, hFI4, hT⟩
theorem en_X9_painted {E : jE} {G : jG} {I : jM} {q : Int → jM → Prop} {m : Nat} {x1 : Int} (hm : WX9 G m) (hT : (∀ a j, jRg (G.2.1 a).1 (I a j)) → jIn x1 → jRI E jB kX9_isRule [VR m, VI x1] G I (fun r2 I1 => ((r2 = 0 → q (-1) I1) ∧ (¬ r2 = 0 → jRI E jB kX4_countPainted [VR (m + 196), VI x1] G I1 (fun r5 I4 => q r5 I4))))) : jRI E jB kX9_painted [VR m, VI x1] G I q := jRun.of mt_X9_painted.2.2.2 0 rfl (fun _ => st_X9_painted_0 hm hT I (fun _ _ => rfl))
set_option maxRecDepth 20000 in
theorem st_X9_book_0 {E : jE} {G : jG} {I : jM} {q : Int → jM → Prop} {m : Nat} {x1 : Int} {x2 : Int} (hm : WX9 G m) (hT : (∀ a j, jRg (G.2.1 a).1 (I a j)) → jIn x1 → jIn x2 → ((¬ x1 = (-1) → ((x1 < 0 → q (-2) I) ∧ (¬ x1 < 0 → (((I (m + 195) 9) ≤ x1 → q (-2) I) ∧ (¬ (I (m + 195) 9) ≤ x1 → ((x2 < 0 → q (-2) I) ∧ (¬ x2 < 0 → ((x2 < 3 → ((0 : Int) ≤ ((x1 * 3) + x2) ∧ (((x1 * 3) + x2) : Int) < 72) ∧ q (I (m + 203) ((x1 * 3) + x2)) I) ∧ (¬ x2 < 3 → q (-2) I))))))))) ∧ (x1 = (-1) → q (I (m + 195) 9) I))) : jOI E jB kX9_book 0 [VR m, VI x1, VI x2] G I q := by
  intro I0 hF
  refine jOk_mem (fun hI => ?_)
  refine jOk_in (i := 1) rfl (fun hx1 => ?_)
  refine jOk_in (i := 2) rfl (fun hx2 => ?_)
  replace hT := hT hI hx1 hx2
  refine r_iload_n dX9_book_0 rfl (i := 1) rfl ?_
  refine r_iconst (n := (-1)) dX9_book_1 ?_
  refine r_icmp_ne (tgt := 13) dX9_book_2 rfl hx1 ⟨by decide, by decide⟩ (fun hcc => ?_) (fun hcc => ?_)
  · replace hT := hT.1 hcc
    refine r_iload_n dX9_book_13 rfl (i := 1) rfl ?_
    refine r_if_lt (tgt := 37) dX9_book_14 rfl hx1 (fun hcc => ?_) (fun hcc => ?_)
    · replace hT := hT.1 hcc
      refine r_bipush (n := (-2)) dX9_book_37 (by decide +kernel) ?_
      exact r_iret dX9_book_39 rfl ⟨by decide, by decide⟩ ⟨Nat.zero_le _, Nat.zero_le _⟩ ⟨_, rfl, rfl, hF, hT⟩
    · replace hT := hT.2 hcc
      refine r_iload_n dX9_book_17 rfl (i := 1) rfl ?_
      refine r_aload_n dX9_book_18 rfl (i := 0) rfl ?_
      refine rr_getR (b := (m + 195)) dX9_book_19 fg_X9_59 rfl rfl (wX9_l hm) (wX9_s hm) (wX9_r4 hm) ?_
      refine rr_getI (v := I (m + 195) 9) dX9_book_22 fg_X9_327 rfl (wX7_l (wX9_o4 hm)) (wX7_s (wX9_o4 hm)) rfl ?_
      refine r_icmp_ge (tgt := 37) dX9_book_25 rfl hx1 (hI _ _).inR (fun hcc => ?_) (fun hcc => ?_)
      · replace hT := hT.1 hcc
        refine r_bipush (n := (-2)) dX9_book_37 (by decide +kernel) ?_
        exact r_iret dX9_book_39 rfl ⟨by decide, by decide⟩ ⟨Nat.zero_le _, Nat.zero_le _⟩ ⟨_, rfl, rfl, hF, hT⟩
      · replace hT := hT.2 hcc
        refine r_iload_n dX9_book_28 rfl (i := 2) rfl ?_
        refine r_if_lt (tgt := 37) dX9_book_29 rfl hx2 (fun hcc => ?_) (fun hcc => ?_)
        · replace hT := hT.1 hcc
          refine r_bipush (n := (-2)) dX9_book_37 (by decide +kernel) ?_
          exact r_iret dX9_book_39 rfl ⟨by decide, by decide⟩ ⟨Nat.zero_le _, Nat.zero_le _⟩ ⟨_, rfl, rfl, hF, hT⟩
        · replace hT := hT.2 hcc
          refine r_iload_n dX9_book_32 rfl (i := 2) rfl ?_
          refine r_iconst (n := 3) dX9_book_33 ?_
          refine r_icmp_lt (tgt := 40) dX9_book_34 rfl hx2 ⟨by decide, by decide⟩ (fun hcc => ?_) (fun hcc => ?_)
          · replace hT := hT.1 hcc
            refine r_aload_n dX9_book_40 rfl (i := 0) rfl ?_
            refine rr_getR (b := (m + 195)) dX9_book_41 fg_X9_59 rfl rfl (wX9_l hm) (wX9_s hm) (wX9_r4 hm) ?_
            refine rr_getR (b := (m + 203)) dX9_book_44 fg_X9_330 rfl rfl (wX7_l (wX9_o4 hm)) (wX7_s (wX9_o4 hm)) (wX7_r8 (wX9_o4 hm)) ?_
            refine r_iload_n dX9_book_47 rfl (i := 1) rfl ?_
            refine r_iconst (n := 3) dX9_book_48 ?_
            refine r_imul dX9_book_49 ?_
            refine r_iload_n dX9_book_50 rfl (i := 2) rfl ?_
            refine r_iadd dX9_book_51 ?_
            obtain ⟨hc1, hT⟩ := hT
            refine rr_iaload (v := I (m + 203) ((x1 * 3) + x2)) dX9_book_52 (wX7_l8 (wX9_o4 hm)) (wX7_a8 (wX9_o4 hm)) (by decide) hc1 rfl ?_
            exact r_iret dX9_book_53 rfl (hI _ _).inR ⟨Nat.zero_le _, Nat.zero_le _⟩ ⟨_, rfl, rfl, hF, hT⟩
          · replace hT := hT.2 hcc
            refine r_bipush (n := (-2)) dX9_book_37 (by decide +kernel) ?_
            exact r_iret dX9_book_39 rfl ⟨by decide, by decide⟩ ⟨Nat.zero_le _, Nat.zero_le _⟩ ⟨_, rfl, rfl, hF, hT⟩
  · replace hT := hT.2 hcc
    refine r_aload_n dX9_book_5 rfl (i := 0) rfl ?_
    refine rr_getR (b := (m + 195)) dX9_book_6 fg_X9_59 rfl rfl (wX9_l hm) (wX9_s hm) (wX9_r4 hm) ?_
    refine rr_getI (v := I (m + 195) 9) dX9_book_9 fg_X9_327 rfl (wX7_l (wX9_o4 hm)) (wX7_s (wX9_o4 hm)) rfl ?_
    exact r_iret dX9_book_12 rfl (hI _ _).inR ⟨Nat.zero_le _, Nat.zero_le _⟩ ⟨_, rfl, rfl, hF, hT⟩
theorem en_X9_book {E : jE} {G : jG} {I : jM} {q : Int → jM → Prop} {m : Nat} {x1 : Int} {x2 : Int} (hm : WX9 G m) (hT : (∀ a j, jRg (G.2.1 a).1 (I a j)) → jIn x1 → jIn x2 → ((¬ x1 = (-1) → ((x1 < 0 → q (-2) I) ∧ (¬ x1 < 0 → (((I (m + 195) 9) ≤ x1 → q (-2) I) ∧ (¬ (I (m + 195) 9) ≤ x1 → ((x2 < 0 → q (-2) I) ∧ (¬ x2 < 0 → ((x2 < 3 → ((0 : Int) ≤ ((x1 * 3) + x2) ∧ (((x1 * 3) + x2) : Int) < 72) ∧ q (I (m + 203) ((x1 * 3) + x2)) I) ∧ (¬ x2 < 3 → q (-2) I))))))))) ∧ (x1 = (-1) → q (I (m + 195) 9) I))) : jRI E jB kX9_book [VR m, VI x1, VI x2] G I q := jRun.of mt_X9_book.2.2.2 0 rfl (fun _ => st_X9_book_0 hm hT I (fun _ _ => rfl))
set_option maxRecDepth 20000 in
theorem st_X9_common_0 {E : jE} {G : jG} {I : jM} {q : Int → jM → Prop} {m : Nat} {x1 : Int} (hm : WX9 G m) (hT : (∀ a j, jRg (G.2.1 a).1 (I a j)) → jIn x1 → jRA E jB kX9_found [VR m] G I (fun r2 I1 => WX1 G r2 ∧ jRI E jB kX1_commonWord [VR r2] G I1 (fun r5 I4 => ((r5 = (-1) → q (-1) I4) ∧ (¬ r5 = (-1) → ((x1 < 0 → q (-1) I4) ∧ (¬ x1 < 0 → ((x1 ≤ 1 → ((¬ x1 = 0 → jRI E jB kX1_countLike [VR r2, VI r5] G I4 (fun r8 I7 => q r8 I7)) ∧ (x1 = 0 → q r5 I4))) ∧ (¬ x1 ≤ 1 → q (-1) I4))))))))) : jOI E jB kX9_common 0 [VR m, VI x1, VN, VN] G I q := by
  intro I0 hF
  refine jOk_mem (fun hI => ?_)
  refine jOk_in (i := 1) rfl (fun hx1 => ?_)
  replace hT := hT hI hx1
  refine r_aload_n dX9_common_0 rfl (i := 0) rfl ?_
  refine rr_cVA (a := m) (as := []) (st := []) dX9_common_1 mt_X9_found ml_X9_182 mi_X9_found rm_X9_common_X9_found jz_X9_found ⟨Nat.zero_le _, Nat.zero_le _⟩ (Nat.le_of_ble_eq_true rfl) (wX9_l hm) (wX9_c hm) jas0 hT (fun r2 I1 hFI1 hT => ?_)
  replace hFI1 := jFr_tr hF hFI1
  refine jOk_mem (fun hI1 => ?_)
  obtain ⟨hc3, hT⟩ := hT
  refine rr_astore_n (i := 2) (ls' := [VR m, VI x1, VR r2, VN]) dX9_common_4 rfl (Nat.le_of_ble_eq_true rfl) rfl rfl ?_
  refine r_aload_n dX9_common_5 rfl (i := 2) rfl ?_
  refine rr_cVI (a := r2) (as := []) (st := []) dX9_common_6 mt_X1_commonWord ml_X9_333 mi_X1_commonWord rm_X9_common_X1_commonWord jz_X1_commonWord ⟨Nat.zero_le _, Nat.zero_le _⟩ (Nat.le_of_ble_eq_true rfl) (wX1_l hc3) (wX1_c hc3) jas0 hT (fun r5 I4 hc6 hFI4 hT => ?_)
  replace hFI4 := jFr_tr hFI1 hFI4
  refine jOk_mem (fun hI4 => ?_)
  refine rr_istore_n (i := 3) (ls' := [VR m, VI x1, VR r2, VI r5]) dX9_common_9 rfl (Nat.le_of_ble_eq_true rfl) rfl rfl hc6 ?_
  refine r_iload_n dX9_common_10 rfl (i := 3) rfl ?_
  refine r_iconst (n := (-1)) dX9_common_11 ?_
  refine r_icmp_eq (tgt := 24) dX9_common_12 rfl hc6 ⟨by decide, by decide⟩ (fun hcc => ?_) (fun hcc => ?_)
  · replace hT := hT.1 hcc
    refine r_iconst (n := (-1)) dX9_common_24 ?_
    exact r_iret dX9_common_25 rfl ⟨by decide, by decide⟩ ⟨Nat.zero_le _, Nat.zero_le _⟩ ⟨_, rfl, rfl, hFI4, hT⟩
  · replace hT := hT.2 hcc
    refine r_iload_n dX9_common_15 rfl (i := 1) rfl ?_
    refine r_if_lt (tgt := 24) dX9_common_16 rfl hx1 (fun hcc => ?_) (fun hcc => ?_)
    · replace hT := hT.1 hcc
      refine r_iconst (n := (-1)) dX9_common_24 ?_
      exact r_iret dX9_common_25 rfl ⟨by decide, by decide⟩ ⟨Nat.zero_le _, Nat.zero_le _⟩ ⟨_, rfl, rfl, hFI4, hT⟩
    · replace hT := hT.2 hcc
      refine r_iload_n dX9_common_19 rfl (i := 1) rfl ?_
      refine r_iconst (n := 1) dX9_common_20 ?_
      refine r_icmp_le (tgt := 26) dX9_common_21 rfl hx1 ⟨by decide, by decide⟩ (fun hcc => ?_) (fun hcc => ?_)
      · replace hT := hT.1 hcc
        refine r_iload_n dX9_common_26 rfl (i := 1) rfl ?_
        refine r_if_ne (tgt := 34) dX9_common_27 rfl hx1 (fun hcc => ?_) (fun hcc => ?_)
        · replace hT := hT.1 hcc
          refine r_aload_n dX9_common_34 rfl (i := 2) rfl ?_
          refine r_iload_n dX9_common_35 rfl (i := 3) rfl ?_
          refine rr_cVI (a := r2) (as := [VI r5]) (st := []) dX9_common_36 mt_X1_countLike ml_X9_336 mi_X1_countLike rm_X9_common_X1_countLike jz_X1_countLike ⟨Nat.zero_le _, Nat.zero_le _⟩ (Nat.le_of_ble_eq_true rfl) (wX1_l hc3) (wX1_c hc3) (jasI hc6 jas0) hT (fun r8 I7 hc9 hFI7 hT => ?_)
          replace hFI7 := jFr_tr hFI4 hFI7
          refine jOk_mem (fun hI7 => ?_)
          exact r_iret dX9_common_39 rfl hc9 ⟨Nat.zero_le _, Nat.zero_le _⟩ ⟨_, rfl, rfl, hFI7, hT⟩
        · replace hT := hT.2 hcc
          refine r_iload_n dX9_common_30 rfl (i := 3) rfl ?_
          refine r_goto (tgt := 39) dX9_common_31 rfl ?_
          exact r_iret dX9_common_39 rfl hc6 ⟨Nat.zero_le _, Nat.zero_le _⟩ ⟨_, rfl, rfl, hFI4, hT⟩
      · replace hT := hT.2 hcc
        refine r_iconst (n := (-1)) dX9_common_24 ?_
        exact r_iret dX9_common_25 rfl ⟨by decide, by decide⟩ ⟨Nat.zero_le _, Nat.zero_le _⟩ ⟨_, rfl, rfl, hFI4, hT⟩
theorem en_X9_common {E : jE} {G : jG} {I : jM} {q : Int → jM → Prop} {m : Nat} {x1 : Int} (hm : WX9 G m) (hT : (∀ a j, jRg (G.2.1 a).1 (I a j)) → jIn x1 → jRA E jB kX9_found [VR m] G I (fun r2 I1 => WX1 G r2 ∧ jRI E jB kX1_commonWord [VR r2] G I1 (fun r5 I4 => ((r5 = (-1) → q (-1) I4) ∧ (¬ r5 = (-1) → ((x1 < 0 → q (-1) I4) ∧ (¬ x1 < 0 → ((x1 ≤ 1 → ((¬ x1 = 0 → jRI E jB kX1_countLike [VR r2, VI r5] G I4 (fun r8 I7 => q r8 I7)) ∧ (x1 = 0 → q r5 I4))) ∧ (¬ x1 ≤ 1 → q (-1) I4))))))))) : jRI E jB kX9_common [VR m, VI x1] G I q := jRun.of mt_X9_common.2.2.2 2 rfl (fun _ => st_X9_common_0 hm hT I (fun _ _ => rfl))
set_option maxRecDepth 20000 in
theorem st_X9_paired_0 {E : jE} {G : jG} {I : jM} {q : Int → jM → Prop} {m : Nat} {x1 : Int} (hm : WX9 G m) (hT : (∀ a j, jRg (G.2.1 a).1 (I a j)) → jIn x1 → jRI E jB kX9_isByte [VR m, VI x1] G I (fun r2 I1 => ((r2 = 0 → q (-1) I1) ∧ (¬ r2 = 0 → jRI E jB kX0_partnerOf [VR (m + 164), VR (m + 196), VI x1] G I1 (fun r5 I4 => q r5 I4))))) : jOI E jB kX9_paired 0 [VR m, VI x1] G I q := by
  intro I0 hF
  refine jOk_mem (fun hI => ?_)
  refine jOk_in (i := 1) rfl (fun hx1 => ?_)
  replace hT := hT hI hx1
  refine r_aload_n dX9_paired_0 rfl (i := 0) rfl ?_
  refine r_iload_n dX9_paired_1 rfl (i := 1) rfl ?_
  refine rr_cVI (a := m) (as := [VI x1]) (st := []) dX9_paired_2 mt_X9_isByte ml_X9_157 mi_X9_isByte rm_X9_paired_X9_isByte jz_X9_isByte ⟨Nat.zero_le _, Nat.zero_le _⟩ (Nat.le_of_ble_eq_true rfl) (wX9_l hm) (wX9_c hm) (jasI hx1 jas0) hT (fun r2 I1 hc3 hFI1 hT => ?_)
  replace hFI1 := jFr_tr hF hFI1
  refine jOk_mem (fun hI1 => ?_)
  refine r_if_eq (tgt := 26) dX9_paired_5 rfl hc3 (fun hcc => ?_) (fun hcc => ?_)
  · replace hT := hT.1 hcc
    refine r_iconst (n := (-1)) dX9_paired_26 ?_
    exact r_iret dX9_paired_27 rfl ⟨by decide, by decide⟩ ⟨Nat.zero_le _, Nat.zero_le _⟩ ⟨_, rfl, rfl, hFI1, hT⟩
  · replace hT := hT.2 hcc
    refine r_aload_n dX9_paired_8 rfl (i := 0) rfl ?_
    refine rr_getR (b := (m + 164)) dX9_paired_9 fg_X9_26 rfl rfl (wX9_l hm) (wX9_s hm) (wX9_r16 hm) ?_
    refine r_aload_n dX9_paired_12 rfl (i := 0) rfl ?_
    refine rr_getR (b := (m + 195)) dX9_paired_13 fg_X9_59 rfl rfl (wX9_l hm) (wX9_s hm) (wX9_r4 hm) ?_
    refine rr_getR (b := (m + 196)) dX9_paired_16 fg_X9_103 rfl rfl (wX7_l (wX9_o4 hm)) (wX7_s (wX9_o4 hm)) (wX7_r0 (wX9_o4 hm)) ?_
    refine r_iload_n dX9_paired_19 rfl (i := 1) rfl ?_
    refine rr_cVI (a := (m + 164)) (as := [VR (m + 196), VI x1]) (st := []) dX9_paired_20 mt_X0_partnerOf ml_X9_339 mi_X0_partnerOf rm_X9_paired_X0_partnerOf jz_X0_partnerOf ⟨Nat.zero_le _, Nat.zero_le _⟩ (Nat.le_of_ble_eq_true rfl) (wX0_l (wX9_o16 hm)) (wX0_c (wX9_o16 hm)) (jasR (jasI hx1 jas0)) hT (fun r5 I4 hc6 hFI4 hT => ?_)
    replace hFI4 := jFr_tr hFI1 hFI4
    refine jOk_mem (fun hI4 => ?_)
    refine r_goto (tgt := 27) dX9_paired_23 rfl ?_
    exact r_iret dX9_paired_27 rfl hc6 ⟨Nat.zero_le _, Nat.zero_le _⟩ ⟨_, rfl, rfl, hFI4, hT⟩
theorem en_X9_paired {E : jE} {G : jG} {I : jM} {q : Int → jM → Prop} {m : Nat} {x1 : Int} (hm : WX9 G m) (hT : (∀ a j, jRg (G.2.1 a).1 (I a j)) → jIn x1 → jRI E jB kX9_isByte [VR m, VI x1] G I (fun r2 I1 => ((r2 = 0 → q (-1) I1) ∧ (¬ r2 = 0 → jRI E jB kX0_partnerOf [VR (m + 164), VR (m + 196), VI x1] G I1 (fun r5 I4 => q r5 I4))))) : jRI E jB kX9_paired [VR m, VI x1] G I q := jRun.of mt_X9_paired.2.2.2 0 rfl (fun _ => st_X9_paired_0 hm hT I (fun _ _ => rfl))
set_option maxRecDepth 20000 in
theorem st_X9_line_0 {E : jE} {G : jG} {I : jM} {q : Int → jM → Prop} {m : Nat} {x1 : Int} {x2 : Int} (hm : WX9 G m) (hT : (∀ a j, jRg (G.2.1 a).1 (I a j)) → jIn x1 → jIn x2 → jRI E jB kX9_isByte [VR m, VI x1] G I (fun r2 I1 => ((¬ r2 = 0 → ((¬ x2 = 0 → ((¬ x2 = 1 → q (-1) I1) ∧ (x2 = 1 → jRI E jB kX4_columnOf [VR (m + 196), VI x1] G I1 (fun r5 I4 => q r5 I4)))) ∧ (x2 = 0 → jRI E jB kX4_lineOf [VR (m + 196), VI x1] G I1 (fun r8 I7 => q r8 I7)))) ∧ (r2 = 0 → q (-1) I1)))) : jOI E jB kX9_line 0 [VR m, VI x1, VI x2] G I q := by
  intro I0 hF
  refine jOk_mem (fun hI => ?_)
  refine jOk_in (i := 1) rfl (fun hx1 => ?_)
  refine jOk_in (i := 2) rfl (fun hx2 => ?_)
  replace hT := hT hI hx1 hx2
  refine r_aload_n dX9_line_0 rfl (i := 0) rfl ?_
  refine r_iload_n dX9_line_1 rfl (i := 1) rfl ?_
  refine rr_cVI (a := m) (as := [VI x1]) (st := []) dX9_line_2 mt_X9_isByte ml_X9_157 mi_X9_isByte rm_X9_line_X9_isByte jz_X9_isByte ⟨Nat.zero_le _, Nat.zero_le _⟩ (Nat.le_of_ble_eq_true rfl) (wX9_l hm) (wX9_c hm) (jasI hx1 jas0) hT (fun r2 I1 hc3 hFI1 hT => ?_)
  replace hFI1 := jFr_tr hF hFI1
  refine jOk_mem (fun hI1 => ?_)
  refine r_if_ne (tgt := 10) dX9_line_5 rfl hc3 (fun hcc => ?_) (fun hcc => ?_)
  · replace hT := hT.1 hcc
    refine r_iload_n dX9_line_10 rfl (i := 2) rfl ?_
    refine r_if_ne (tgt := 26) dX9_line_11 rfl hx2 (fun hcc => ?_) (fun hcc => ?_)
    · replace hT := hT.1 hcc
      refine r_iload_n dX9_line_26 rfl (i := 2) rfl ?_
      refine r_iconst (n := 1) dX9_line_27 ?_
      refine r_icmp_ne (tgt := 45) dX9_line_28 rfl hx2 ⟨by decide, by decide⟩ (fun hcc => ?_) (fun hcc => ?_)
      · replace hT := hT.1 hcc
        refine r_iconst (n := (-1)) dX9_line_45 ?_
        exact r_iret dX9_line_46 rfl ⟨by decide, by decide⟩ ⟨Nat.zero_le _, Nat.zero_le _⟩ ⟨_, rfl, rfl, hFI1, hT⟩
      · replace hT := hT.2 hcc
        refine r_aload_n dX9_line_31 rfl (i := 0) rfl ?_
        refine rr_getR (b := (m + 195)) dX9_line_32 fg_X9_59 rfl rfl (wX9_l hm) (wX9_s hm) (wX9_r4 hm) ?_
        refine rr_getR (b := (m + 196)) dX9_line_35 fg_X9_103 rfl rfl (wX7_l (wX9_o4 hm)) (wX7_s (wX9_o4 hm)) (wX7_r0 (wX9_o4 hm)) ?_
        refine r_iload_n dX9_line_38 rfl (i := 1) rfl ?_
        refine rr_cVI (a := (m + 196)) (as := [VI x1]) (st := []) dX9_line_39 mt_X4_columnOf ml_X9_346 mi_X4_columnOf rm_X9_line_X4_columnOf jz_X4_columnOf ⟨Nat.zero_le _, Nat.zero_le _⟩ (Nat.le_of_ble_eq_true rfl) (wX4_l (wX7_o0 (wX9_o4 hm))) (wX4_c (wX7_o0 (wX9_o4 hm))) (jasI hx1 jas0) hT (fun r5 I4 hc6 hFI4 hT => ?_)
        replace hFI4 := jFr_tr hFI1 hFI4
        refine jOk_mem (fun hI4 => ?_)
        refine r_goto (tgt := 46) dX9_line_42 rfl ?_
        exact r_iret dX9_line_46 rfl hc6 ⟨Nat.zero_le _, Nat.zero_le _⟩ ⟨_, rfl, rfl, hFI4, hT⟩
    · replace hT := hT.2 hcc
      refine r_aload_n dX9_line_14 rfl (i := 0) rfl ?_
      refine rr_getR (b := (m + 195)) dX9_line_15 fg_X9_59 rfl rfl (wX9_l hm) (wX9_s hm) (wX9_r4 hm) ?_
      refine rr_getR (b := (m + 196)) dX9_line_18 fg_X9_103 rfl rfl (wX7_l (wX9_o4 hm)) (wX7_s (wX9_o4 hm)) (wX7_r0 (wX9_o4 hm)) ?_
      refine r_iload_n dX9_line_21 rfl (i := 1) rfl ?_
      refine rr_cVI (a := (m + 196)) (as := [VI x1]) (st := []) dX9_line_22 mt_X4_lineOf ml_X9_343 mi_X4_lineOf rm_X9_line_X4_lineOf jz_X4_lineOf ⟨Nat.zero_le _, Nat.zero_le _⟩ (Nat.le_of_ble_eq_true rfl) (wX4_l (wX7_o0 (wX9_o4 hm))) (wX4_c (wX7_o0 (wX9_o4 hm))) (jasI hx1 jas0) hT (fun r8 I7 hc9 hFI7 hT => ?_)
      replace hFI7 := jFr_tr hFI1 hFI7
      refine jOk_mem (fun hI7 => ?_)
      exact r_iret dX9_line_25 rfl hc9 ⟨Nat.zero_le _, Nat.zero_le _⟩ ⟨_, rfl, rfl, hFI7, hT⟩
  · replace hT := hT.2 hcc
    refine r_iconst (n := (-1)) dX9_line_8 ?_
    exact r_iret dX9_line_9 rfl ⟨by decide, by decide⟩ ⟨Nat.zero_le _, Nat.zero_le _⟩ ⟨_, rfl, rfl, hFI1, hT⟩
theorem en_X9_line {E : jE} {G : jG} {I : jM} {q : Int → jM → Prop} {m : Nat} {x1 : Int} {x2 : Int} (hm : WX9 G m) (hT : (∀ a j, jRg (G.2.1 a).1 (I a j)) → jIn x1 → jIn x2 → jRI E jB kX9_isByte [VR m, VI x1] G I (fun r2 I1 => ((¬ r2 = 0 → ((¬ x2 = 0 → ((¬ x2 = 1 → q (-1) I1) ∧ (x2 = 1 → jRI E jB kX4_columnOf [VR (m + 196), VI x1] G I1 (fun r5 I4 => q r5 I4)))) ∧ (x2 = 0 → jRI E jB kX4_lineOf [VR (m + 196), VI x1] G I1 (fun r8 I7 => q r8 I7)))) ∧ (r2 = 0 → q (-1) I1)))) : jRI E jB kX9_line [VR m, VI x1, VI x2] G I q := jRun.of mt_X9_line.2.2.2 0 rfl (fun _ => st_X9_line_0 hm hT I (fun _ _ => rfl))
set_option maxRecDepth 20000 in
theorem st_X9_circling_0 {E : jE} {G : jG} {I : jM} {q : Int → jM → Prop} {m : Nat} (hm : WX9 G m) (hT : (∀ a j, jRg (G.2.1 a).1 (I a j)) → jRA E jB kX9_way [VR m] G I (fun r2 I1 => WX3 G r2 ∧ ((¬ (I1 r2 4) = 1 → q 0 I1) ∧ ((I1 r2 4) = 1 → jRI E jB kX3_rulesMade [VR r2, VI (I1 r2 5)] G I1 (fun r5 I4 => q r5 I4))))) : jOI E jB kX9_circling 0 [VR m, VN] G I q := by
  intro I0 hF
  refine jOk_mem (fun hI => ?_)
  replace hT := hT hI 
  refine r_aload_n dX9_circling_0 rfl (i := 0) rfl ?_
  refine rr_cVA (a := m) (as := []) (st := []) dX9_circling_1 mt_X9_way ml_X9_349 mi_X9_way rm_X9_circling_X9_way jz_X9_way ⟨Nat.zero_le _, Nat.zero_le _⟩ (Nat.le_of_ble_eq_true rfl) (wX9_l hm) (wX9_c hm) jas0 hT (fun r2 I1 hFI1 hT => ?_)
  replace hFI1 := jFr_tr hF hFI1
  refine jOk_mem (fun hI1 => ?_)
  obtain ⟨hc3, hT⟩ := hT
  refine rr_astore_n (i := 1) (ls' := [VR m, VR r2]) dX9_circling_4 rfl (Nat.le_of_ble_eq_true rfl) rfl rfl ?_
  refine r_aload_n dX9_circling_5 rfl (i := 1) rfl ?_
  refine rr_getI (v := I1 r2 4) dX9_circling_6 fg_X9_353 rfl (wX3_l hc3) (wX3_s hc3) rfl ?_
  refine r_iconst (n := 1) dX9_circling_9 ?_
  refine r_icmp_ne (tgt := 24) dX9_circling_10 rfl (hI1 _ _).inR ⟨by decide, by decide⟩ (fun hcc => ?_) (fun hcc => ?_)
  · replace hT := hT.1 hcc
    refine r_iconst (n := 0) dX9_circling_24 ?_
    exact r_iret dX9_circling_25 rfl ⟨by decide, by decide⟩ ⟨Nat.zero_le _, Nat.zero_le _⟩ ⟨_, rfl, rfl, hFI1, hT⟩
  · replace hT := hT.2 hcc
    refine r_aload_n dX9_circling_13 rfl (i := 1) rfl ?_
    refine r_aload_n dX9_circling_14 rfl (i := 1) rfl ?_
    refine rr_getI (v := I1 r2 5) dX9_circling_15 fg_X9_356 rfl (wX3_l hc3) (wX3_s hc3) rfl ?_
    refine rr_cVI (a := r2) (as := [VI (I1 r2 5)]) (st := []) dX9_circling_18 mt_X3_rulesMade ml_X9_359 mi_X3_rulesMade rm_X9_circling_X3_rulesMade jz_X3_rulesMade ⟨Nat.zero_le _, Nat.zero_le _⟩ (Nat.le_of_ble_eq_true rfl) (wX3_l hc3) (wX3_c hc3) (jasI (hI1 _ _).inR jas0) hT (fun r5 I4 hc6 hFI4 hT => ?_)
    replace hFI4 := jFr_tr hFI1 hFI4
    refine jOk_mem (fun hI4 => ?_)
    refine r_goto (tgt := 25) dX9_circling_21 rfl ?_
    exact r_iret dX9_circling_25 rfl hc6 ⟨Nat.zero_le _, Nat.zero_le _⟩ ⟨_, rfl, rfl, hFI4, hT⟩
theorem en_X9_circling {E : jE} {G : jG} {I : jM} {q : Int → jM → Prop} {m : Nat} (hm : WX9 G m) (hT : (∀ a j, jRg (G.2.1 a).1 (I a j)) → jRA E jB kX9_way [VR m] G I (fun r2 I1 => WX3 G r2 ∧ ((¬ (I1 r2 4) = 1 → q 0 I1) ∧ ((I1 r2 4) = 1 → jRI E jB kX3_rulesMade [VR r2, VI (I1 r2 5)] G I1 (fun r5 I4 => q r5 I4))))) : jRI E jB kX9_circling [VR m] G I q := jRun.of mt_X9_circling.2.2.2 1 rfl (fun _ => st_X9_circling_0 hm hT I (fun _ _ => rfl))
set_option maxRecDepth 20000 in
theorem st_X9_course_0 {E : jE} {G : jG} {I : jM} {q : Int → jM → Prop} {m : Nat} {x1 : Int} (hm : WX9 G m) (hT : (∀ a j, jRg (G.2.1 a).1 (I a j)) → jIn x1 → jRA E jB kX9_way [VR m] G I (fun r2 I1 => WX3 G r2 ∧ ((¬ (I1 r2 4) = 1 → (((x1 < 0 ∨ 5 < x1) → q (-1) I1) ∧ (x1 = 0 → q (I1 r2 4) I1) ∧ (x1 = 1 → q (I1 r2 2) I1) ∧ (x1 = 2 → q (-1) I1) ∧ (x1 = 3 → q (-1) I1) ∧ (x1 = 4 → jRA E jB kX3_pageBehind [VR r2, VI (I1 r2 2)] G I1 (fun r5 I4 => WX4 G r5 ∧ q (I4 r5 2) I4)) ∧ (x1 = 5 → q (I1 r2 3) I1))) ∧ ((I1 r2 4) = 1 → (((x1 < 0 ∨ 5 < x1) → q (-1) I1) ∧ (x1 = 0 → q (I1 r2 4) I1) ∧ (x1 = 1 → q (I1 r2 2) I1) ∧ (x1 = 2 → q (I1 r2 5) I1) ∧ (x1 = 3 → jIn ((I1 r2 2) - (I1 r2 5)) ∧ q ((I1 r2 2) - (I1 r2 5)) I1) ∧ (x1 = 4 → jRA E jB kX3_pageBehind [VR r2, VI (I1 r2 2)] G I1 (fun r9 I8 => WX4 G r9 ∧ q (I8 r9 2) I8)) ∧ (x1 = 5 → q (I1 r2 3) I1)))))) : jOI E jB kX9_course 0 [VR m, VI x1, VN, VN] G I q := by
  intro I0 hF
  refine jOk_mem (fun hI => ?_)
  refine jOk_in (i := 1) rfl (fun hx1 => ?_)
  replace hT := hT hI hx1
  refine r_aload_n dX9_course_0 rfl (i := 0) rfl ?_
  refine rr_cVA (a := m) (as := []) (st := []) dX9_course_1 mt_X9_way ml_X9_349 mi_X9_way rm_X9_course_X9_way jz_X9_way ⟨Nat.zero_le _, Nat.zero_le _⟩ (Nat.le_of_ble_eq_true rfl) (wX9_l hm) (wX9_c hm) jas0 hT (fun r2 I1 hFI1 hT => ?_)
  replace hFI1 := jFr_tr hF hFI1
  refine jOk_mem (fun hI1 => ?_)
  obtain ⟨hc3, hT⟩ := hT
  refine rr_astore_n (i := 2) (ls' := [VR m, VI x1, VR r2, VN]) dX9_course_4 rfl (Nat.le_of_ble_eq_true rfl) rfl rfl ?_
  refine r_aload_n dX9_course_5 rfl (i := 2) rfl ?_
  refine rr_getI (v := I1 r2 4) dX9_course_6 fg_X9_353 rfl (wX3_l hc3) (wX3_s hc3) rfl ?_
  refine r_iconst (n := 1) dX9_course_9 ?_
  refine r_icmp_ne (tgt := 17) dX9_course_10 rfl (hI1 _ _).inR ⟨by decide, by decide⟩ (fun hcc => ?_) (fun hcc => ?_)
  · replace hT := hT.1 hcc
    refine r_iconst (n := 0) dX9_course_17 ?_
    refine rr_istore_n (i := 3) (ls' := [VR m, VI x1, VR r2, VI 0]) dX9_course_18 rfl (Nat.le_of_ble_eq_true rfl) rfl rfl ⟨by decide, by decide⟩ ?_
    refine r_iload_n dX9_course_19 rfl (i := 1) rfl ?_
    by_cases hcc : x1 < 0 ∨ 5 < x1
    · replace hT := hT.1 hcc
      refine r_tswOut (tgt := 118) dX9_course_20 hx1 hcc rfl ?_
      refine r_iconst (n := (-1)) dX9_course_118 ?_
      exact r_iret dX9_course_119 rfl ⟨by decide, by decide⟩ ⟨Nat.zero_le _, Nat.zero_le _⟩ ⟨_, rfl, rfl, hFI1, hT⟩
    · replace hT := hT.2
      have hc2 : x1 = 0 ∨ x1 = 1 ∨ x1 = 2 ∨ x1 = 3 ∨ x1 = 4 ∨ x1 = 5 := by omega
      rcases hc2 with hc2 | hc2 | hc2 | hc2 | hc2 | hc2
      · replace hT := hT.1 hc2
        refine r_tswIn (tgt := 60) (off := 40) dX9_course_20 hx1 (by omega) (by omega) (by rw [hc2]; rfl) rfl ?_
        refine r_aload_n dX9_course_60 rfl (i := 2) rfl ?_
        refine rr_getI (v := I1 r2 4) dX9_course_61 fg_X9_353 rfl (wX3_l hc3) (wX3_s hc3) rfl ?_
        exact r_iret dX9_course_64 rfl (hI1 _ _).inR ⟨Nat.zero_le _, Nat.zero_le _⟩ ⟨_, rfl, rfl, hFI1, hT⟩
      · replace hT := hT.2.1 hc2
        refine r_tswIn (tgt := 65) (off := 45) dX9_course_20 hx1 (by omega) (by omega) (by rw [hc2]; rfl) rfl ?_
        refine r_aload_n dX9_course_65 rfl (i := 2) rfl ?_
        refine rr_getI (v := I1 r2 2) dX9_course_66 fg_X9_362 rfl (wX3_l hc3) (wX3_s hc3) rfl ?_
        exact r_iret dX9_course_69 rfl (hI1 _ _).inR ⟨Nat.zero_le _, Nat.zero_le _⟩ ⟨_, rfl, rfl, hFI1, hT⟩
      · replace hT := hT.2.2.1 hc2
        refine r_tswIn (tgt := 70) (off := 50) dX9_course_20 hx1 (by omega) (by omega) (by rw [hc2]; rfl) rfl ?_
        refine r_iload_n dX9_course_70 rfl (i := 3) rfl ?_
        refine r_if_eq (tgt := 81) dX9_course_71 rfl ⟨by decide, by decide⟩ (fun hcc => ?_) (fun hcc => ?_)
        · skip
          refine r_iconst (n := (-1)) dX9_course_81 ?_
          exact r_iret dX9_course_82 rfl ⟨by decide, by decide⟩ ⟨Nat.zero_le _, Nat.zero_le _⟩ ⟨_, rfl, rfl, hFI1, hT⟩
        · exact absurd hcc (by decide)
      · replace hT := hT.2.2.2.1 hc2
        refine r_tswIn (tgt := 83) (off := 63) dX9_course_20 hx1 (by omega) (by omega) (by rw [hc2]; rfl) rfl ?_
        refine r_iload_n dX9_course_83 rfl (i := 3) rfl ?_
        refine r_if_eq (tgt := 99) dX9_course_84 rfl ⟨by decide, by decide⟩ (fun hcc => ?_) (fun hcc => ?_)
        · skip
          refine r_iconst (n := (-1)) dX9_course_99 ?_
          exact r_iret dX9_course_100 rfl ⟨by decide, by decide⟩ ⟨Nat.zero_le _, Nat.zero_le _⟩ ⟨_, rfl, rfl, hFI1, hT⟩
        · exact absurd hcc (by decide)
      · replace hT := hT.2.2.2.2.1 hc2
        refine r_tswIn (tgt := 101) (off := 81) dX9_course_20 hx1 (by omega) (by omega) (by rw [hc2]; rfl) rfl ?_
        refine r_aload_n dX9_course_101 rfl (i := 2) rfl ?_
        refine r_aload_n dX9_course_102 rfl (i := 2) rfl ?_
        refine rr_getI (v := I1 r2 2) dX9_course_103 fg_X9_362 rfl (wX3_l hc3) (wX3_s hc3) rfl ?_
        refine rr_cVA (a := r2) (as := [VI (I1 r2 2)]) (st := []) dX9_course_106 mt_X3_pageBehind ml_X9_363 mi_X3_pageBehind rm_X9_course_X3_pageBehind jz_X3_pageBehind ⟨Nat.zero_le _, Nat.zero_le _⟩ (Nat.le_of_ble_eq_true rfl) (wX3_l hc3) (wX3_c hc3) (jasI (hI1 _ _).inR jas0) hT (fun r5 I4 hFI4 hT => ?_)
        replace hFI4 := jFr_tr hFI1 hFI4
        refine jOk_mem (fun hI4 => ?_)
        obtain ⟨hc6, hT⟩ := hT
        refine rr_getI (v := I4 r5 2) dX9_course_109 fg_X9_138 rfl (wX4_l hc6) (wX4_s hc6) rfl ?_
        exact r_iret dX9_course_112 rfl (hI4 _ _).inR ⟨Nat.zero_le _, Nat.zero_le _⟩ ⟨_, rfl, rfl, hFI4, hT⟩
      · replace hT := hT.2.2.2.2.2 hc2
        refine r_tswIn (tgt := 113) (off := 93) dX9_course_20 hx1 (by omega) (by omega) (by rw [hc2]; rfl) rfl ?_
        refine r_aload_n dX9_course_113 rfl (i := 2) rfl ?_
        refine rr_getI (v := I1 r2 3) dX9_course_114 fg_X9_367 rfl (wX3_l hc3) (wX3_s hc3) rfl ?_
        exact r_iret dX9_course_117 rfl (hI1 _ _).inR ⟨Nat.zero_le _, Nat.zero_le _⟩ ⟨_, rfl, rfl, hFI1, hT⟩
  · replace hT := hT.2 hcc
    refine r_iconst (n := 1) dX9_course_13 ?_
    refine r_goto (tgt := 18) dX9_course_14 rfl ?_
    refine rr_istore_n (i := 3) (ls' := [VR m, VI x1, VR r2, VI 1]) dX9_course_18 rfl (Nat.le_of_ble_eq_true rfl) rfl rfl ⟨by decide, by decide⟩ ?_
    refine r_iload_n dX9_course_19 rfl (i := 1) rfl ?_
    by_cases hcc : x1 < 0 ∨ 5 < x1
    · replace hT := hT.1 hcc
      refine r_tswOut (tgt := 118) dX9_course_20 hx1 hcc rfl ?_
      refine r_iconst (n := (-1)) dX9_course_118 ?_
      exact r_iret dX9_course_119 rfl ⟨by decide, by decide⟩ ⟨Nat.zero_le _, Nat.zero_le _⟩ ⟨_, rfl, rfl, hFI1, hT⟩
    · replace hT := hT.2
      have hc2 : x1 = 0 ∨ x1 = 1 ∨ x1 = 2 ∨ x1 = 3 ∨ x1 = 4 ∨ x1 = 5 := by omega
      rcases hc2 with hc2 | hc2 | hc2 | hc2 | hc2 | hc2
      · replace hT := hT.1 hc2
        refine r_tswIn (tgt := 60) (off := 40) dX9_course_20 hx1 (by omega) (by omega) (by rw [hc2]; rfl) rfl ?_
        refine r_aload_n dX9_course_60 rfl (i := 2) rfl ?_
        refine rr_getI (v := I1 r2 4) dX9_course_61 fg_X9_353 rfl (wX3_l hc3) (wX3_s hc3) rfl ?_
        exact r_iret dX9_course_64 rfl (hI1 _ _).inR ⟨Nat.zero_le _, Nat.zero_le _⟩ ⟨_, rfl, rfl, hFI1, hT⟩
      · replace hT := hT.2.1 hc2
        refine r_tswIn (tgt := 65) (off := 45) dX9_course_20 hx1 (by omega) (by omega) (by rw [hc2]; rfl) rfl ?_
        refine r_aload_n dX9_course_65 rfl (i := 2) rfl ?_
        refine rr_getI (v := I1 r2 2) dX9_course_66 fg_X9_362 rfl (wX3_l hc3) (wX3_s hc3) rfl ?_
        exact r_iret dX9_course_69 rfl (hI1 _ _).inR ⟨Nat.zero_le _, Nat.zero_le _⟩ ⟨_, rfl, rfl, hFI1, hT⟩
      · replace hT := hT.2.2.1 hc2
        refine r_tswIn (tgt := 70) (off := 50) dX9_course_20 hx1 (by omega) (by omega) (by rw [hc2]; rfl) rfl ?_
        refine r_iload_n dX9_course_70 rfl (i := 3) rfl ?_
        refine r_if_eq (tgt := 81) dX9_course_71 rfl ⟨by decide, by decide⟩ (fun hcc => ?_) (fun hcc => ?_)
        · exact absurd hcc (by decide)
        · skip
          refine r_aload_n dX9_course_74 rfl (i := 2) rfl ?_
          refine rr_getI (v := I1 r2 5) dX9_course_75 fg_X9_356 rfl (wX3_l hc3) (wX3_s hc3) rfl ?_
          refine r_goto (tgt := 82) dX9_course_78 rfl ?_
          exact r_iret dX9_course_82 rfl (hI1 _ _).inR ⟨Nat.zero_le _, Nat.zero_le _⟩ ⟨_, rfl, rfl, hFI1, hT⟩
      · replace hT := hT.2.2.2.1 hc2
        refine r_tswIn (tgt := 83) (off := 63) dX9_course_20 hx1 (by omega) (by omega) (by rw [hc2]; rfl) rfl ?_
        refine r_iload_n dX9_course_83 rfl (i := 3) rfl ?_
        refine r_if_eq (tgt := 99) dX9_course_84 rfl ⟨by decide, by decide⟩ (fun hcc => ?_) (fun hcc => ?_)
        · exact absurd hcc (by decide)
        · skip
          refine r_aload_n dX9_course_87 rfl (i := 2) rfl ?_
          refine rr_getI (v := I1 r2 2) dX9_course_88 fg_X9_362 rfl (wX3_l hc3) (wX3_s hc3) rfl ?_
          refine r_aload_n dX9_course_91 rfl (i := 2) rfl ?_
          refine rr_getI (v := I1 r2 5) dX9_course_92 fg_X9_356 rfl (wX3_l hc3) (wX3_s hc3) rfl ?_
          refine r_isub dX9_course_95 ?_
          refine r_goto (tgt := 100) dX9_course_96 rfl ?_
          obtain ⟨hc7, hT⟩ := hT
          exact r_iret dX9_course_100 rfl hc7 ⟨Nat.zero_le _, Nat.zero_le _⟩ ⟨_, rfl, rfl, hFI1, hT⟩
      · replace hT := hT.2.2.2.2.1 hc2
        refine r_tswIn (tgt := 101) (off := 81) dX9_course_20 hx1 (by omega) (by omega) (by rw [hc2]; rfl) rfl ?_
        refine r_aload_n dX9_course_101 rfl (i := 2) rfl ?_
        refine r_aload_n dX9_course_102 rfl (i := 2) rfl ?_
        refine rr_getI (v := I1 r2 2) dX9_course_103 fg_X9_362 rfl (wX3_l hc3) (wX3_s hc3) rfl ?_
        refine rr_cVA (a := r2) (as := [VI (I1 r2 2)]) (st := []) dX9_course_106 mt_X3_pageBehind ml_X9_363 mi_X3_pageBehind rm_X9_course_X3_pageBehind jz_X3_pageBehind ⟨Nat.zero_le _, Nat.zero_le _⟩ (Nat.le_of_ble_eq_true rfl) (wX3_l hc3) (wX3_c hc3) (jasI (hI1 _ _).inR jas0) hT (fun r9 I8 hFI8 hT => ?_)
        replace hFI8 := jFr_tr hFI1 hFI8
        refine jOk_mem (fun hI8 => ?_)
        obtain ⟨hc10, hT⟩ := hT
        refine rr_getI (v := I8 r9 2) dX9_course_109 fg_X9_138 rfl (wX4_l hc10) (wX4_s hc10) rfl ?_
        exact r_iret dX9_course_112 rfl (hI8 _ _).inR ⟨Nat.zero_le _, Nat.zero_le _⟩ ⟨_, rfl, rfl, hFI8, hT⟩
      · replace hT := hT.2.2.2.2.2 hc2
        refine r_tswIn (tgt := 113) (off := 93) dX9_course_20 hx1 (by omega) (by omega) (by rw [hc2]; rfl) rfl ?_
        refine r_aload_n dX9_course_113 rfl (i := 2) rfl ?_
        refine rr_getI (v := I1 r2 3) dX9_course_114 fg_X9_367 rfl (wX3_l hc3) (wX3_s hc3) rfl ?_
        exact r_iret dX9_course_117 rfl (hI1 _ _).inR ⟨Nat.zero_le _, Nat.zero_le _⟩ ⟨_, rfl, rfl, hFI1, hT⟩
theorem en_X9_course {E : jE} {G : jG} {I : jM} {q : Int → jM → Prop} {m : Nat} {x1 : Int} (hm : WX9 G m) (hT : (∀ a j, jRg (G.2.1 a).1 (I a j)) → jIn x1 → jRA E jB kX9_way [VR m] G I (fun r2 I1 => WX3 G r2 ∧ ((¬ (I1 r2 4) = 1 → (((x1 < 0 ∨ 5 < x1) → q (-1) I1) ∧ (x1 = 0 → q (I1 r2 4) I1) ∧ (x1 = 1 → q (I1 r2 2) I1) ∧ (x1 = 2 → q (-1) I1) ∧ (x1 = 3 → q (-1) I1) ∧ (x1 = 4 → jRA E jB kX3_pageBehind [VR r2, VI (I1 r2 2)] G I1 (fun r5 I4 => WX4 G r5 ∧ q (I4 r5 2) I4)) ∧ (x1 = 5 → q (I1 r2 3) I1))) ∧ ((I1 r2 4) = 1 → (((x1 < 0 ∨ 5 < x1) → q (-1) I1) ∧ (x1 = 0 → q (I1 r2 4) I1) ∧ (x1 = 1 → q (I1 r2 2) I1) ∧ (x1 = 2 → q (I1 r2 5) I1) ∧ (x1 = 3 → jIn ((I1 r2 2) - (I1 r2 5)) ∧ q ((I1 r2 2) - (I1 r2 5)) I1) ∧ (x1 = 4 → jRA E jB kX3_pageBehind [VR r2, VI (I1 r2 2)] G I1 (fun r9 I8 => WX4 G r9 ∧ q (I8 r9 2) I8)) ∧ (x1 = 5 → q (I1 r2 3) I1)))))) : jRI E jB kX9_course [VR m, VI x1] G I q := jRun.of mt_X9_course.2.2.2 2 rfl (fun _ => st_X9_course_0 hm hT I (fun _ _ => rfl))
set_option maxRecDepth 20000 in
theorem st_X9_later_0 {E : jE} {G : jG} {I : jM} {q : Int → jM → Prop} {m : Nat} {x1 : Int} {x2 : Int} (hm : WX9 G m) (hT : (∀ a j, jRg (G.2.1 a).1 (I a j)) → jIn x1 → jIn x2 → ((x1 < 0 → q (-1) I) ∧ (¬ x1 < 0 → ((x1 ≤ 30 → jRA E jB kX9_way [VR m] G I (fun r2 I1 => WX3 G r2 ∧ jRA E jB kX3_pageBehind [VR r2, VI x1] G I1 (fun r5 I4 => WX4 G r5 ∧ ((x2 < 0 → q (-1) I4) ∧ (¬ x2 < 0 → (((I4 r5 2) ≤ x2 → q (-1) I4) ∧ (¬ (I4 r5 2) ≤ x2 → ((0 : Int) ≤ x2 ∧ (x2 : Int) < 200) ∧ (((-128) ≤ (I4 (r5 + 1) x2) ∧ (I4 (r5 + 1) x2) ≤ 127) → q (I4 (r5 + 1) x2) I4)))))))) ∧ (¬ x1 ≤ 30 → q (-1) I))))) : jOI E jB kX9_later 0 [VR m, VI x1, VI x2, VN] G I q := by
  intro I0 hF
  refine jOk_mem (fun hI => ?_)
  refine jOk_in (i := 1) rfl (fun hx1 => ?_)
  refine jOk_in (i := 2) rfl (fun hx2 => ?_)
  replace hT := hT hI hx1 hx2
  refine r_iload_n dX9_later_0 rfl (i := 1) rfl ?_
  refine r_if_lt (tgt := 10) dX9_later_1 rfl hx1 (fun hcc => ?_) (fun hcc => ?_)
  · replace hT := hT.1 hcc
    refine r_iconst (n := (-1)) dX9_later_10 ?_
    exact r_iret dX9_later_11 rfl ⟨by decide, by decide⟩ ⟨Nat.zero_le _, Nat.zero_le _⟩ ⟨_, rfl, rfl, hF, hT⟩
  · replace hT := hT.2 hcc
    refine r_iload_n dX9_later_4 rfl (i := 1) rfl ?_
    refine r_bipush (n := 30) dX9_later_5 (by decide +kernel) ?_
    refine r_icmp_le (tgt := 12) dX9_later_7 rfl hx1 ⟨by decide, by decide⟩ (fun hcc => ?_) (fun hcc => ?_)
    · replace hT := hT.1 hcc
      refine r_aload_n dX9_later_12 rfl (i := 0) rfl ?_
      refine rr_cVA (a := m) (as := []) (st := []) dX9_later_13 mt_X9_way ml_X9_349 mi_X9_way rm_X9_later_X9_way jz_X9_way ⟨Nat.zero_le _, Nat.zero_le _⟩ (Nat.le_of_ble_eq_true rfl) (wX9_l hm) (wX9_c hm) jas0 hT (fun r2 I1 hFI1 hT => ?_)
      replace hFI1 := jFr_tr hF hFI1
      refine jOk_mem (fun hI1 => ?_)
      obtain ⟨hc3, hT⟩ := hT
      refine r_iload_n dX9_later_16 rfl (i := 1) rfl ?_
      refine rr_cVA (a := r2) (as := [VI x1]) (st := []) dX9_later_17 mt_X3_pageBehind ml_X9_363 mi_X3_pageBehind rm_X9_later_X3_pageBehind jz_X3_pageBehind ⟨Nat.zero_le _, Nat.zero_le _⟩ (Nat.le_of_ble_eq_true rfl) (wX3_l hc3) (wX3_c hc3) (jasI hx1 jas0) hT (fun r5 I4 hFI4 hT => ?_)
      replace hFI4 := jFr_tr hFI1 hFI4
      refine jOk_mem (fun hI4 => ?_)
      obtain ⟨hc6, hT⟩ := hT
      refine rr_astore_n (i := 3) (ls' := [VR m, VI x1, VI x2, VR r5]) dX9_later_20 rfl (Nat.le_of_ble_eq_true rfl) rfl rfl ?_
      refine r_iload_n dX9_later_21 rfl (i := 2) rfl ?_
      refine r_if_lt (tgt := 42) dX9_later_22 rfl hx2 (fun hcc => ?_) (fun hcc => ?_)
      · replace hT := hT.1 hcc
        refine r_iconst (n := (-1)) dX9_later_42 ?_
        exact r_iret dX9_later_43 rfl ⟨by decide, by decide⟩ ⟨Nat.zero_le _, Nat.zero_le _⟩ ⟨_, rfl, rfl, hFI4, hT⟩
      · replace hT := hT.2 hcc
        refine r_iload_n dX9_later_25 rfl (i := 2) rfl ?_
        refine r_aload_n dX9_later_26 rfl (i := 3) rfl ?_
        refine rr_getI (v := I4 r5 2) dX9_later_27 fg_X9_138 rfl (wX4_l hc6) (wX4_s hc6) rfl ?_
        refine r_icmp_ge (tgt := 42) dX9_later_30 rfl hx2 (hI4 _ _).inR (fun hcc => ?_) (fun hcc => ?_)
        · replace hT := hT.1 hcc
          refine r_iconst (n := (-1)) dX9_later_42 ?_
          exact r_iret dX9_later_43 rfl ⟨by decide, by decide⟩ ⟨Nat.zero_le _, Nat.zero_le _⟩ ⟨_, rfl, rfl, hFI4, hT⟩
        · replace hT := hT.2 hcc
          refine r_aload_n dX9_later_33 rfl (i := 3) rfl ?_
          refine rr_getR (b := (r5 + 1)) dX9_later_34 fg_X9_164 rfl rfl (wX4_l hc6) (wX4_s hc6) (wX4_r0 hc6) ?_
          refine r_iload_n dX9_later_37 rfl (i := 2) rfl ?_
          obtain ⟨hc7, hT⟩ := hT
          refine rr_baload (v := I4 (r5 + 1) x2) dX9_later_38 (wX4_l0 hc6) (wX4_a0 hc6) (by decide) hc7 rfl (fun hr8 => ?_)
          replace hT := hT hr8
          refine r_goto (tgt := 43) dX9_later_39 rfl ?_
          exact r_iret dX9_later_43 rfl (hI4 _ _).inR ⟨Nat.zero_le _, Nat.zero_le _⟩ ⟨_, rfl, rfl, hFI4, hT⟩
    · replace hT := hT.2 hcc
      refine r_iconst (n := (-1)) dX9_later_10 ?_
      exact r_iret dX9_later_11 rfl ⟨by decide, by decide⟩ ⟨Nat.zero_le _, Nat.zero_le _⟩ ⟨_, rfl, rfl, hF, hT⟩
theorem en_X9_later {E : jE} {G : jG} {I : jM} {q : Int → jM → Prop} {m : Nat} {x1 : Int} {x2 : Int} (hm : WX9 G m) (hT : (∀ a j, jRg (G.2.1 a).1 (I a j)) → jIn x1 → jIn x2 → ((x1 < 0 → q (-1) I) ∧ (¬ x1 < 0 → ((x1 ≤ 30 → jRA E jB kX9_way [VR m] G I (fun r2 I1 => WX3 G r2 ∧ jRA E jB kX3_pageBehind [VR r2, VI x1] G I1 (fun r5 I4 => WX4 G r5 ∧ ((x2 < 0 → q (-1) I4) ∧ (¬ x2 < 0 → (((I4 r5 2) ≤ x2 → q (-1) I4) ∧ (¬ (I4 r5 2) ≤ x2 → ((0 : Int) ≤ x2 ∧ (x2 : Int) < 200) ∧ (((-128) ≤ (I4 (r5 + 1) x2) ∧ (I4 (r5 + 1) x2) ≤ 127) → q (I4 (r5 + 1) x2) I4)))))))) ∧ (¬ x1 ≤ 30 → q (-1) I))))) : jRI E jB kX9_later [VR m, VI x1, VI x2] G I q := jRun.of mt_X9_later.2.2.2 1 rfl (fun _ => st_X9_later_0 hm hT I (fun _ _ => rfl))
set_option maxRecDepth 20000 in
theorem st_X9_digest_0 {E : jE} {G : jG} {I : jM} {q : Int → jM → Prop} {m : Nat} {x1 : Int} (hm : WX9 G m) (hT : (∀ a j, jRg (G.2.1 a).1 (I a j)) → jIn x1 → ((x1 < 0 → q 0 I) ∧ (¬ x1 < 0 → ((x1 ≤ 30 → jRA E jB kX9_way [VR m] G I (fun r2 I1 => WX3 G r2 ∧ jRA E jB kX3_pageBehind [VR r2, VI x1] G I1 (fun r5 I4 => WX4 G r5 ∧ jRI E jB kX4_hash [VR r5] G I4 (fun r8 I7 => q r8 I7)))) ∧ (¬ x1 ≤ 30 → q 0 I))))) : jOI E jB kX9_digest 0 [VR m, VI x1] G I q := by
  intro I0 hF
  refine jOk_mem (fun hI => ?_)
  refine jOk_in (i := 1) rfl (fun hx1 => ?_)
  replace hT := hT hI hx1
  refine r_iload_n dX9_digest_0 rfl (i := 1) rfl ?_
  refine r_if_lt (tgt := 10) dX9_digest_1 rfl hx1 (fun hcc => ?_) (fun hcc => ?_)
  · replace hT := hT.1 hcc
    refine r_iconst (n := 0) dX9_digest_10 ?_
    exact r_iret dX9_digest_11 rfl ⟨by decide, by decide⟩ ⟨Nat.zero_le _, Nat.zero_le _⟩ ⟨_, rfl, rfl, hF, hT⟩
  · replace hT := hT.2 hcc
    refine r_iload_n dX9_digest_4 rfl (i := 1) rfl ?_
    refine r_bipush (n := 30) dX9_digest_5 (by decide +kernel) ?_
    refine r_icmp_le (tgt := 12) dX9_digest_7 rfl hx1 ⟨by decide, by decide⟩ (fun hcc => ?_) (fun hcc => ?_)
    · replace hT := hT.1 hcc
      refine r_aload_n dX9_digest_12 rfl (i := 0) rfl ?_
      refine rr_cVA (a := m) (as := []) (st := []) dX9_digest_13 mt_X9_way ml_X9_349 mi_X9_way rm_X9_digest_X9_way jz_X9_way ⟨Nat.zero_le _, Nat.zero_le _⟩ (Nat.le_of_ble_eq_true rfl) (wX9_l hm) (wX9_c hm) jas0 hT (fun r2 I1 hFI1 hT => ?_)
      replace hFI1 := jFr_tr hF hFI1
      refine jOk_mem (fun hI1 => ?_)
      obtain ⟨hc3, hT⟩ := hT
      refine r_iload_n dX9_digest_16 rfl (i := 1) rfl ?_
      refine rr_cVA (a := r2) (as := [VI x1]) (st := []) dX9_digest_17 mt_X3_pageBehind ml_X9_363 mi_X3_pageBehind rm_X9_digest_X3_pageBehind jz_X3_pageBehind ⟨Nat.zero_le _, Nat.zero_le _⟩ (Nat.le_of_ble_eq_true rfl) (wX3_l hc3) (wX3_c hc3) (jasI hx1 jas0) hT (fun r5 I4 hFI4 hT => ?_)
      replace hFI4 := jFr_tr hFI1 hFI4
      refine jOk_mem (fun hI4 => ?_)
      obtain ⟨hc6, hT⟩ := hT
      refine rr_cVI (a := r5) (as := []) (st := []) dX9_digest_20 mt_X4_hash ml_X9_370 mi_X4_hash rm_X9_digest_X4_hash jz_X4_hash ⟨Nat.zero_le _, Nat.zero_le _⟩ (Nat.le_of_ble_eq_true rfl) (wX4_l hc6) (wX4_c hc6) jas0 hT (fun r8 I7 hc9 hFI7 hT => ?_)
      replace hFI7 := jFr_tr hFI4 hFI7
      refine jOk_mem (fun hI7 => ?_)
      exact r_iret dX9_digest_23 rfl hc9 ⟨Nat.zero_le _, Nat.zero_le _⟩ ⟨_, rfl, rfl, hFI7, hT⟩
    · replace hT := hT.2 hcc
      refine r_iconst (n := 0) dX9_digest_10 ?_
      exact r_iret dX9_digest_11 rfl ⟨by decide, by decide⟩ ⟨Nat.zero_le _, Nat.zero_le _⟩ ⟨_, rfl, rfl, hF, hT⟩
theorem en_X9_digest {E : jE} {G : jG} {I : jM} {q : Int → jM → Prop} {m : Nat} {x1 : Int} (hm : WX9 G m) (hT : (∀ a j, jRg (G.2.1 a).1 (I a j)) → jIn x1 → ((x1 < 0 → q 0 I) ∧ (¬ x1 < 0 → ((x1 ≤ 30 → jRA E jB kX9_way [VR m] G I (fun r2 I1 => WX3 G r2 ∧ jRA E jB kX3_pageBehind [VR r2, VI x1] G I1 (fun r5 I4 => WX4 G r5 ∧ jRI E jB kX4_hash [VR r5] G I4 (fun r8 I7 => q r8 I7)))) ∧ (¬ x1 ≤ 30 → q 0 I))))) : jRI E jB kX9_digest [VR m, VI x1] G I q := jRun.of mt_X9_digest.2.2.2 0 rfl (fun _ => st_X9_digest_0 hm hT I (fun _ _ => rfl))
set_option maxRecDepth 20000 in
theorem st_X9_used_0 {E : jE} {G : jG} {I : jM} {q : Int → jM → Prop} {m : Nat} (hm : WX9 G m) (hT : (∀ a j, jRg (G.2.1 a).1 (I a j)) → jRA E jB kX9_way [VR m] G I (fun r2 I1 => WX3 G r2 ∧ jRI E jB kX3_rulesMade [VR r2, VI 0] G I1 (fun r5 I4 => q r5 I4))) : jOI E jB kX9_used 0 [VR m] G I q := by
  intro I0 hF
  refine jOk_mem (fun hI => ?_)
  replace hT := hT hI 
  refine r_aload_n dX9_used_0 rfl (i := 0) rfl ?_
  refine rr_cVA (a := m) (as := []) (st := []) dX9_used_1 mt_X9_way ml_X9_349 mi_X9_way rm_X9_used_X9_way jz_X9_way ⟨Nat.zero_le _, Nat.zero_le _⟩ (Nat.le_of_ble_eq_true rfl) (wX9_l hm) (wX9_c hm) jas0 hT (fun r2 I1 hFI1 hT => ?_)
  replace hFI1 := jFr_tr hF hFI1
  refine jOk_mem (fun hI1 => ?_)
  obtain ⟨hc3, hT⟩ := hT
  refine r_iconst (n := 0) dX9_used_4 ?_
  refine rr_cVI (a := r2) (as := [VI 0]) (st := []) dX9_used_5 mt_X3_rulesMade ml_X9_359 mi_X3_rulesMade rm_X9_used_X3_rulesMade jz_X3_rulesMade ⟨Nat.zero_le _, Nat.zero_le _⟩ (Nat.le_of_ble_eq_true rfl) (wX3_l hc3) (wX3_c hc3) (jasI ⟨by decide, by decide⟩ jas0) hT (fun r5 I4 hc6 hFI4 hT => ?_)
  replace hFI4 := jFr_tr hFI1 hFI4
  refine jOk_mem (fun hI4 => ?_)
  exact r_iret dX9_used_8 rfl hc6 ⟨Nat.zero_le _, Nat.zero_le _⟩ ⟨_, rfl, rfl, hFI4, hT⟩
theorem en_X9_used {E : jE} {G : jG} {I : jM} {q : Int → jM → Prop} {m : Nat} (hm : WX9 G m) (hT : (∀ a j, jRg (G.2.1 a).1 (I a j)) → jRA E jB kX9_way [VR m] G I (fun r2 I1 => WX3 G r2 ∧ jRI E jB kX3_rulesMade [VR r2, VI 0] G I1 (fun r5 I4 => q r5 I4))) : jRI E jB kX9_used [VR m] G I q := jRun.of mt_X9_used.2.2.2 0 rfl (fun _ => st_X9_used_0 hm hT I (fun _ _ => rfl))
theorem clr_tab : ∀ x : Fin 64, ∀ r i : Fin 6, jand (jshr (jand ((x : Nat) : Int) (jxor (jshl 1 ((r : Nat) : Int)) (-1))) ((i : Nat) : Int)) 1 = if i = r then 0 else jand (jshr ((x : Nat) : Int) ((i : Nat) : Int)) 1 := by decide +kernel
theorem clrb {x r i : Int} (hx : 0 ≤ x ∧ x < 64) (hr : 0 ≤ r ∧ r < 6) (hi : 0 ≤ i ∧ i < 6) : jand (jshr (jand x (jxor (jshl 1 r) (-1))) i) 1 = if i = r then 0 else jand (jshr x i) 1 := by
  have g := clr_tab ⟨x.toNat, by omega⟩ ⟨r.toNat, by omega⟩ ⟨i.toNat, by omega⟩
  simp only [show ((x.toNat : Nat) : Int) = x by omega, show ((r.toNat : Nat) : Int) = r by omega, show ((i.toNat : Nat) : Int) = i by omega] at g
  rw [g]
  by_cases q : i = r
  · rw [if_pos q, if_pos (Fin.ext (by show i.toNat = r.toNat; omega))]
  · rw [if_neg q, if_neg (fun e => q (by have := congrArg Fin.val e; simp only at this; omega))]
section CW
variable {E : jE} {G : jG} {m δ : Nat} {I I' : jM} {B B' : Int → Int} {H H' : List (Int → Int)} {T : List Int} {fk fp c : Int}
theorem cl_is (h : CC G m δ I B H B' H' T fk fp) (hW : BW c B) {w : Int} : jRI E jB kX9_is [VR m, VI w] G I (fun x I' => x = anIs B T.length w ∧ CC G m δ I' B H B' H' T fk fp) := by
  have hm := h.1.1.2.1
  have h0 := h.1.1.1
  have hQ := hW.1
  have hS := h.1.2.1
  refine en_X9_is hm (fun _ _ => ⟨fun q => ⟨by unfold anIs; rw [if_pos q], h⟩, fun q => ?_, fun q => ?_, fun q => ?_, fun q => ?_, fun q => ?_, fun q => ?_, fun q => ?_, fun q => ?_, fun q => ?_, fun q => ?_, fun q => ?_, fun q => ?_, fun q => ?_, fun q => ?_, fun q => ?_, fun q => ?_⟩)
  · subst q; exact ⟨hS.1.1.1.1, h⟩
  · subst q
    refine (cl_found h hW).mono (fun a I1 _ g => ?_)
    obtain ⟨rfl, hφ, hc1, ⟨ρ, hL, -⟩, -⟩ := g
    exact ⟨hφ, hL.1.2.2.2.2.1, hc1⟩
  · subst q
    obtain ⟨ρ, r1, r2, r3, r4, r5⟩ := hS.2.1
    exact ⟨ρ, r1, r2, r5.1, h⟩
  · subst q; exact ⟨hS.2.2.1, h⟩
  · subst q
    refine (cl_found h hW).mono (fun a I1 _ g => ?_)
    obtain ⟨rfl, hφ, hc1, ⟨ρ, hL, -⟩, -⟩ := g
    exact ⟨hφ, hL.2.1.1.1, hc1⟩
  · subst q
    refine (cl_found h hW).mono (fun a I1 _ g => ?_)
    obtain ⟨rfl, hφ, hc1, ⟨ρ, hL, -⟩, -⟩ := g
    refine ⟨hφ, (cl_countMarked hL hQ (Or.inl rfl)).mono (fun y I3 _ _ gy => ?_)⟩
    obtain ⟨ey, -, rfl⟩ := gy
    refine ⟨ey.trans ?_, hc1⟩
    show _ = sumJ (fun f => jI (fSi B f)) 0 (NF B).toNat
    congr 1
    funext f
    exact jI_congr mrk_1
  · subst q; exact ⟨hS.1.2.1.1, h⟩
  · subst q; exact ⟨hS.2.2.2.1.1, h⟩
  · subst q; exact ⟨hS.2.2.2.1.2.1, h⟩
  · subst q; exact ⟨hS.2.2.2.2.2.2, h⟩
  · subst q; exact ⟨h.1.2.2.2.2.2.1.1, h⟩
  · subst q
    refine (cl_found h hW).mono (fun a I1 _ g => ?_)
    obtain ⟨rfl, hφ, hc1, ⟨ρ, hL, -⟩, -⟩ := g
    refine ⟨hφ, (cl_countMarked hL hQ (Or.inr rfl)).mono (fun y I3 _ _ gy => ?_)⟩
    obtain ⟨ey, -, rfl⟩ := gy
    refine ⟨ey.trans ?_, hc1⟩
    show _ = sumJ (fun f => jI (fYi B f)) 0 (NF B).toNat
    congr 1
    funext f
    exact jI_congr mrk_2
  · subst q; exact ⟨hS.2.2.2.1.2.2.1.1, h⟩
  · subst q
    refine (cl_countUnpaired (wX9_o16 hm) (wX7_o0 (wX9_o4 hm)) (by omega) hS.1.1).mono (fun y I3 _ _ gy => ⟨gy.1, h.fr (fun a j qa => gy.2 a j (by omega))⟩)
  · subst q
    refine (cl_countLines (wX7_o0 (wX9_o4 hm)) hS.1.1).mono (fun y I3 _ _ gy => ?_)
    obtain ⟨ey, rfl⟩ := gy
    exact ⟨ey, h⟩
  · subst q
    refine (cl_longestLine (wX7_o0 (wX9_o4 hm)) hS.1.1).mono (fun y I3 _ _ gy => ?_)
    obtain ⟨ey, rfl⟩ := gy
    exact ⟨ey, h⟩
theorem cl_at (h : CC G m δ I B H B' H' T fk fp) (hQ : QW B) {i : Int} : jRI E jB kX9_at [VR m, VI i] G I (fun x I' => x = anAt B i ∧ CC G m δ I' B H B' H' T fk fp) := by
  have h2 := hQ.1
  unfold anAt
  refine en_X9_at h.1.1.2.1 (fun _ _ => (cl_isByte h.1).mono (fun y I1 _ _ gy => ?_))
  obtain ⟨rfl, rfl⟩ := gy
  refine ⟨fun q => ⟨by rw [if_neg (jI_n q)], h⟩, fun q => ?_⟩
  have hi := jI_p q
  exact ⟨⟨by omega, by omega⟩, fun _ => ⟨by rw [if_pos hi]; exact (h.1.2.1.1.1.2 i hi.1 hi.2).1, h⟩⟩
theorem cl_token (h : CC G m δ I B H B' H' T fk fp) (hW : BW c B) {i w : Int} : jRI E jB kX9_token [VR m, VI i, VI w] G I (fun x I' => x = anToken B i w ∧ CC G m δ I' B H B' H' T fk fp) := by
  have hQ := hW.1
  have hk := tkS (S := B) hQ.1.1
  have hn := hk.n_le
  have h200 := hQ.1
  refine en_X9_token h.1.1.2.1 (fun _ _ _ => (cl_found h hW).mono (fun a I1 _ g => ?_))
  obtain ⟨rfl, hφ, hc1, ⟨ρ, hL, -⟩, -⟩ := g
  have hT := hL.1.2.2.2.2
  have en : I1 (m + 578 + 1) 2 = nT B := hT.1
  rw [en]
  unfold anToken
  refine ⟨hφ, fun q => ⟨by rw [if_neg (by omega)], hc1⟩, fun q => ⟨fun q2 => ?_, fun q2 => ⟨by rw [if_neg (by omega)], hc1⟩⟩⟩
  have hi : 0 ≤ i ∧ i < nT B := by omega
  rw [if_pos hi]
  refine ⟨fun g => ⟨by rw [if_neg (by omega), if_neg (by omega), if_neg (by omega)], hc1⟩, fun g => ⟨⟨by omega, by omega⟩, ?_, hc1⟩, fun g => ⟨⟨by omega, by omega⟩, ?_, hc1⟩, fun g => ⟨⟨by omega, by omega⟩, ⟨by omega, by omega⟩, ?_⟩⟩
  · rw [if_pos g]; exact hT.2.2 i hi.1 hi.2
  · rw [if_neg (by omega), if_pos g]; exact hT.2.1 i hi.1 (by omega)
  · have a : I1 (m + 578 + 2) (i + 1) = bT B (i + 1) := hT.2.1 (i + 1) (by omega) (by omega)
    have b : I1 (m + 578 + 2) i = bT B i := hT.2.1 i (by omega) (by omega)
    have b1 := hk.bd (t := i) (by omega) (by omega)
    have b2 := hk.bd (t := i + 1) (by omega) (by omega)
    rw [a, b]
    exact ⟨⟨by omega, by omega⟩, by rw [if_neg (by omega), if_neg (by omega), if_pos g], hc1⟩
theorem cl_tokenAt (h : CC G m δ I B H B' H' T fk fp) (hW : BW c B) {i : Int} : jRI E jB kX9_tokenAt [VR m, VI i] G I (fun x I' => x = anTokenAt B i ∧ CC G m δ I' B H B' H' T fk fp) := by
  have hQ := hW.1
  unfold anTokenAt
  refine en_X9_tokenAt h.1.1.2.1 (fun _ _ => (cl_isByte h.1).mono (fun y I1 _ _ gy => ?_))
  obtain ⟨rfl, rfl⟩ := gy
  refine ⟨fun q => ⟨by rw [if_neg (jI_n q)], h⟩, fun q => (cl_found h hW).mono (fun a I4 _ g => ?_)⟩
  obtain ⟨rfl, hφ, hc1, ⟨ρ, hL, -⟩, -⟩ := g
  refine ⟨hφ, (cl_holding (wX1_o2 hφ) hL.1.2.2.2.2 hQ (jI_p q)).mono (fun y I7 _ _ gy => ?_)⟩
  obtain ⟨ey, rfl⟩ := gy
  exact ⟨by rw [if_pos (jI_p q)]; exact ey, hc1⟩
theorem cl_rule (h : CC G m δ I B H B' H' T fk fp) (hW : BW c B) {r w : Int} : jRI E jB kX9_rule [VR m, VI r, VI w] G I (fun x I' => x = anRule B r w ∧ CC G m δ I' B H B' H' T fk fp) := by
  have hm := h.1.1.2.1
  have hQ := hW.1
  have h46 := hQ.2.1.2.1
  unfold anRule
  refine en_X9_rule hm (fun _ _ _ => (cl_isRule h.1).mono (fun y I1 _ _ gy => ?_))
  obtain ⟨rfl, rfl⟩ := gy
  refine ⟨fun q => ?_, fun q => ⟨by rw [if_neg (jI_n q)], h⟩⟩
  have hr := jI_p q
  obtain ⟨ρ, r1, r2, r3, r4, r5⟩ := h.1.2.1.2.1
  obtain ⟨a1, a2, a3, -⟩ := r5.2.1 r hr.1 hr.2
  rw [if_pos hr]
  refine ⟨fun g => ⟨by rw [if_neg (by omega), if_neg (by omega), if_neg (by omega), if_neg (by omega), if_neg (by omega)], h⟩, fun g => ⟨ρ, r1, r2, ⟨by omega, by omega⟩, by rw [if_pos g]; exact a1, h⟩, fun g => ⟨ρ, r1, r2, ⟨by omega, by omega⟩, by rw [if_neg (by omega), if_pos g]; exact a2, h⟩, fun g => ⟨ρ, r1, r2, ⟨by omega, by omega⟩, by rw [if_neg (by omega), if_neg (by omega), if_pos g]; exact a3, h⟩, fun g => ?_, fun g => ?_⟩
  · refine (cl_isOn (wX9_o4 hm) h.1.2.1 hQ hr).mono (fun y I16 _ _ gy => ?_)
    obtain ⟨rfl, rfl⟩ := gy
    have b := (hQ.2.1.2.2 r hr.1 hr.2).2.1
    rw [if_neg (by omega), if_neg (by omega), if_neg (by omega), if_pos g]
    exact ⟨fun q => ⟨q.symm, h⟩, fun q => ⟨by omega, h⟩⟩
  · refine (cl_found h hW).mono (fun a I19 _ gf => ?_)
    obtain ⟨rfl, hφ, hc1, ⟨ρ', hL, -⟩, -⟩ := gf
    refine ⟨hφ, (cl_countOfRule hL hQ).mono (fun y I22 _ _ gy => ?_)⟩
    obtain ⟨ey, rfl⟩ := gy
    exact ⟨by rw [if_neg (by omega), if_neg (by omega), if_neg (by omega), if_neg (by omega), if_pos g]; exact ey, hc1⟩
theorem cl_fits (h : CC G m δ I B H B' H' T fk fp) (hW : BW c B) {r t : Int} : jRI E jB kX9_fits [VR m, VI r, VI t] G I (fun x I' => x = jI (canF B r t) ∧ CC G m δ I' B H B' H' T fk fp) := by
  refine en_X9_fits h.1.1.2.1 (fun _ _ _ => (cl_isRule h.1).mono (fun y I1 _ _ gy => ?_))
  obtain ⟨rfl, rfl⟩ := gy
  refine ⟨fun q => ⟨(jI_neg (fun g => jI_n q g.1)).symm, h⟩, fun q => (cl_found h hW).mono (fun a I4 _ g => ?_)⟩
  obtain ⟨rfl, hφ, hc1, ⟨ρ, hL, -⟩, -⟩ := g
  refine ⟨hφ, (cl_fitsFrom hL.1 hW.1).mono (fun y I7 _ _ gy => ?_)⟩
  obtain ⟨rfl, rfl⟩ := gy
  exact ⟨fun q2 => ⟨q2.symm, hc1⟩, fun q2 => ⟨(jI_pos (jI_p q2)).symm, hc1⟩⟩
theorem cl_finding (h : CC G m δ I B H B' H' T fk fp) (hW : BW c B) {i w : Int} : jRI E jB kX9_finding [VR m, VI i, VI w] G I (fun x I' => x = anFinding B i w ∧ CC G m δ I' B H B' H' T fk fp) := by
  have hQ := hW.1
  have hN := NF_le hQ
  unfold anFinding
  refine en_X9_finding h.1.1.2.1 (fun _ _ _ => (cl_found h hW).mono (fun a I1 _ g => ?_))
  obtain ⟨rfl, hφ, hc1, ⟨ρ, hL, -⟩, -⟩ := g
  refine ⟨hφ, (cl_has hL).mono (fun y I4 _ _ gy => ?_)⟩
  obtain ⟨rfl, rfl⟩ := gy
  refine ⟨fun q => ?_, fun q => ⟨by rw [if_neg (jI_n q)], hc1⟩⟩
  have hi := jI_p q
  have e := hL.2.1.1.2.1 i hi.1 hi.2
  rw [if_pos hi]
  refine ⟨fun g => ⟨by rw [if_neg (by omega), if_neg (by omega), if_neg (by omega), if_neg (by omega), if_neg (by omega), if_neg (by omega), if_neg (by omega), if_neg (by omega)], hc1⟩, fun g => ⟨⟨by omega, by omega⟩, by rw [if_pos g]; exact e.1, hc1⟩, fun g => ?_, fun g => ?_, fun g => ⟨⟨by omega, by omega⟩, by rw [if_neg (by omega), if_neg (by omega), if_neg (by omega), if_pos g]; exact e.2.2.2.1, hc1⟩, fun g => ⟨⟨by omega, by omega⟩, by rw [if_neg (by omega), if_neg (by omega), if_neg (by omega), if_neg (by omega), if_pos g]; exact e.2.2.2.2, hc1⟩, fun g => ?_, fun g => ?_, fun g => ?_⟩
  · refine (cl_beginOf hL hQ hi.1 hi.2).mono (fun y I8 _ _ gy => ?_)
    obtain ⟨rfl, rfl⟩ := gy
    exact ⟨by rw [if_neg (by omega), if_pos g], hc1⟩
  · refine (cl_endOf hL hQ hi.1 hi.2).mono (fun y I8 _ _ gy => ?_)
    obtain ⟨rfl, rfl⟩ := gy
    exact ⟨by rw [if_neg (by omega), if_neg (by omega), if_pos g], hc1⟩
  · refine (cl_isMarked hL hQ hi.1 hi.2 (Or.inl rfl)).mono (fun y I8 _ _ gy => ?_)
    obtain ⟨rfl, rfl⟩ := gy
    rw [if_neg (by omega), if_neg (by omega), if_neg (by omega), if_neg (by omega), if_neg (by omega), if_pos g]
    exact ⟨fun q2 => ⟨(jI_neg (fun a => jI_n q2 (mrk_1.mpr a))).symm, hc1⟩, fun q2 => ⟨(jI_pos (mrk_1.mp (jI_p q2))).symm, hc1⟩⟩
  · refine (cl_isPicked hL hQ).mono (fun y I8 _ _ gy => ?_)
    obtain ⟨rfl, rfl⟩ := gy
    rw [if_neg (by omega), if_neg (by omega), if_neg (by omega), if_neg (by omega), if_neg (by omega), if_neg (by omega), if_pos g]
    exact ⟨fun q2 => ⟨q2.symm, hc1⟩, fun q2 => ⟨(jI_pos (jI_p q2)).symm, hc1⟩⟩
  · refine (cl_isMarked hL hQ hi.1 hi.2 (Or.inr rfl)).mono (fun y I8 _ _ gy => ?_)
    obtain ⟨rfl, rfl⟩ := gy
    rw [if_neg (by omega), if_neg (by omega), if_neg (by omega), if_neg (by omega), if_neg (by omega), if_neg (by omega), if_neg (by omega), if_pos g]
    exact ⟨fun q2 => ⟨(jI_neg (fun a => jI_n q2 (mrk_2.mpr a))).symm, hc1⟩, fun q2 => ⟨(jI_pos (mrk_2.mp (jI_p q2))).symm, hc1⟩⟩
theorem cl_fresh (h : CC G m δ I B H B' H' T fk fp) (hW : BW c B) {i k : Int} : jRI E jB kX9_fresh [VR m, VI i, VI k] G I (fun x I' => x = anFresh B i k ∧ CC G m δ I' B H B' H' T fk fp) := by
  have hQ := hW.1
  have h0 := h.1.1.1
  have hN := NF_le hQ
  unfold anFresh
  refine en_X9_fresh h.1.1.2.1 (fun _ _ _ => (cl_found h hW).mono (fun a I1 _ g => ?_))
  obtain ⟨rfl, hφ, hc1, ⟨ρ, hL, -⟩, -⟩ := g
  refine ⟨hφ, (cl_has hL).mono (fun y I4 _ _ gy => ?_)⟩
  obtain ⟨rfl, rfl⟩ := gy
  refine ⟨fun q => ⟨by rw [if_neg (fun g => jI_n q g.1)], hc1⟩, fun q => ⟨fun q2 => ⟨by rw [if_neg (by omega)], hc1⟩, fun q2 => ?_⟩⟩
  have hi := jI_p q
  have e := hL.2.1.1.2.1 i hi.1 hi.2
  rw [e.2.2.2.1]
  refine ⟨⟨by omega, by omega⟩, fun q3 => (cl_freshByte hL hQ hi.1 hi.2).mono (fun y I8 _ _ gy => ?_), fun q3 => ⟨by rw [if_neg (by omega)], hc1⟩⟩
  refine ⟨by rw [gy.1, if_pos (by omega), if_pos (by omega)], hc1.fr (fun a j qa => gy.2 a j (by omega) (by omega))⟩
theorem cl_clashes (h : CC G m δ I B H B' H' T fk fp) (hW : BW c B) {i : Int} : jRI E jB kX9_clashes [VR m, VI i] G I (fun x I' => x = anClashes B i ∧ CC G m δ I' B H B' H' T fk fp) := by
  refine en_X9_clashes h.1.1.2.1 (fun _ _ => (cl_found h hW).mono (fun a I1 _ g => ?_))
  obtain ⟨rfl, hφ, hc1, ⟨ρ, hL, -⟩, -⟩ := g
  refine ⟨hφ, (cl_has hL).mono (fun y I4 _ _ gy => ?_)⟩
  obtain ⟨rfl, rfl⟩ := gy
  refine ⟨fun q => ⟨by unfold anClashes; rw [if_neg (jI_n q)], hc1⟩, fun q => (cl_countClashes hL hW.1 (jI_p q).1 (jI_p q).2).mono (fun y I7 _ _ gy => ?_)⟩
  obtain ⟨ey, rfl⟩ := gy
  exact ⟨ey, hc1⟩
theorem cl_set (h : CC G m δ I B H B' H' T fk fp) (hW : BW c B) {i : Int} : jRI E jB kX9_set [VR m, VI i] G I (fun x I' => x = anSet B i ∧ CC G m δ I' B H B' H' T fk fp) := by
  have sb := setL_bd hW.1
  unfold anSet
  refine en_X9_set h.1.1.2.1 (fun _ _ => (cl_found h hW).mono (fun a I1 _ g => ?_))
  obtain ⟨rfl, hφ, hc1, ⟨ρ, hL, -⟩, -⟩ := g
  rw [hL.2.2.1]
  refine ⟨hφ, fun q => ⟨fun q2 => ⟨by rw [if_neg q, if_neg (by omega)], hc1⟩, fun q2 => ⟨fun q3 => ⟨by rw [if_neg q, if_neg (by omega)], hc1⟩, fun q3 => ⟨⟨by omega, by omega⟩, ?_, hc1⟩⟩⟩, fun q => ⟨by rw [if_pos q], hc1⟩⟩
  rw [if_neg q, if_pos (by omega)]
  have := hL.2.2.2 i.toNat (by omega)
  rw [show ((i.toNat : Nat) : Int) = i by omega] at this
  exact this
theorem cl_worth (h : CC G m δ I B H B' H' T fk fp) (hW : BW c B) : jRI E jB kX9_worth [VR m] G I (fun x I' => x = wS B ∧ CC G m δ I' B H B' H' T fk fp) := by
  refine en_X9_worth h.1.1.2.1 (fun _ => (cl_found h hW).mono (fun a I1 _ g => ?_))
  obtain ⟨rfl, hφ, hc1, ⟨ρ, hL, -⟩, -⟩ := g
  refine ⟨hφ, (cl_pickedValue hL hW.1).mono (fun y I4 _ _ gy => ?_)⟩
  obtain ⟨ey, rfl⟩ := gy
  exact ⟨ey, hc1⟩
theorem cl_chosen (h : CC G m δ I B H B' H' T fk fp) (hW : BW c B) {r : Int} : jRI E jB kX9_chosen [VR m, VI r] G I (fun x I' => x = anChosen B r ∧ CC G m δ I' B H B' H' T fk fp) := by
  unfold anChosen
  refine en_X9_chosen h.1.1.2.1 (fun _ _ => (cl_isRule h.1).mono (fun y I1 _ _ gy => ?_))
  obtain ⟨rfl, rfl⟩ := gy
  refine ⟨fun q => ⟨by rw [if_neg (jI_n q)], h⟩, fun q => (cl_found h hW).mono (fun a I4 _ g => ?_)⟩
  obtain ⟨rfl, hφ, hc1, ⟨ρ, hL, -⟩, -⟩ := g
  refine ⟨hφ, (cl_countPicked hL hW.1).mono (fun y I7 _ _ gy => ?_)⟩
  obtain ⟨ey, rfl⟩ := gy
  exact ⟨by rw [if_pos (jI_p q)]; exact ey, hc1⟩
theorem cl_without (h : CC G m δ I B H B' H' T fk fp) (hW : BW c B) {r : Int} : jRI E jB kX9_without [VR m, VI r] G I (fun x I' => x = anWithout B r ∧ CC G m δ I' B H B' H' T fk fp) := by
  have hm := h.1.1.2.1
  have h0 := h.1.1.1
  have hQ := hW.1
  have h46 := hQ.2.1.2.1
  unfold anWithout
  refine en_X9_without hm (fun _ _ => (cl_isRule h.1).mono (fun y I1 _ _ gy => ?_))
  obtain ⟨rfl, rfl⟩ := gy
  refine ⟨fun q => ?_, fun q => ⟨by rw [if_neg (jI_n q)], h⟩⟩
  have hr := jI_p q
  have hS := h.1.2.1
  obtain ⟨ρ, r1, r2, r3, r4, r5⟩ := hS.2.1
  have u : ∀ j, j ≠ 515 + 40 * r → up B (515 + 40 * r) 0 j = B j := fun j hj => up_ne hj
  have hQ' := hQ.off (r := r) (v := 0) hr (by omega)
  have ob := onB_bits hQ (B 4).toNat (by have := hQ.2.1.1; omega)
  have hY' : YW (up B (515 + 40 * r) 0) := fun k k0 k1 => by
    rw [u 7 (by omega)] at k1
    have := hQ.2.2.2.2
    rw [u _ (by omega), u _ (by omega)]
    exact hW.yw k k0 k1
  refine (cl_look (X := up B (515 + 40 * r) 0) (wX9_o11 hm) (wX7_o0 (wX9_o4 hm)) (wX9_o4 hm) r2 (by omega) (by omega) (by omega) (by omega) ⟨hS.1.1.congr (fun j hj => u j (by omega)), hS.1.2.congr (fun j hj => u j (by omega))⟩ (r5.congr hQ.2.1 ⟨u 4 (by omega), fun j j0 j1 jj => u j (by omega)⟩) r1 (hS.2.2.2.1.congr (fun j hj => u j (by omega))) hQ' hY' (fun r' x y => ?_)).mono (fun I4 _ g4 => ?_)
  · rw [u 4 (by omega)] at y
    rw [hS.2.2.1, clrb ob.1 (by omega) (by omega)]
    by_cases e : r' = r
    · rw [if_pos e, e, up_eq]
    · rw [if_neg e, up_ne (by omega), ob.2 r' x (by omega), if_pos (by have := hQ.2.1.1; omega)]
  · refine (cl_pickedValue g4.1 hQ').mono (fun y I5 _ _ gy => ?_)
    obtain ⟨ey, rfl⟩ := gy
    exact ⟨by rw [if_pos hr]; exact ey, h.fr (fun a j qa => g4.2 a j (by omega))⟩
theorem cl_span (h : CC G m δ I B H B' H' T fk fp) (hW : BW c B) {r t : Int} : jRI E jB kX9_span [VR m, VI r, VI t] G I (fun x I' => x = anSpan B r t ∧ CC G m δ I' B H B' H' T fk fp) := by
  have hQ := hW.1
  have h46 := hQ.2.1.2.1
  have hk := tkS (S := B) hQ.1.1
  have hn := hk.n_le
  have h200 := hQ.1
  unfold anSpan
  refine en_X9_span h.1.1.2.1 (fun _ _ _ => (cl_found h hW).mono (fun a I1 _ g => ?_))
  obtain ⟨rfl, hφ, hc1, ⟨ρ, hL, -⟩, -⟩ := g
  refine ⟨hφ, (cl_isRule hc1.1).mono (fun y I4 _ _ gy => ?_)⟩
  obtain ⟨rfl, rfl⟩ := gy
  refine ⟨fun q => ⟨by rw [if_neg (fun g => jI_n q g.1)], hc1⟩, fun q => (cl_fitsFrom hL.1 hQ).mono (fun y I7 _ _ gy => ?_)⟩
  obtain ⟨rfl, rfl⟩ := gy
  refine ⟨fun q2 => ?_, fun q2 => ⟨by rw [if_neg (jI_n q2)], hc1⟩⟩
  have hcan := jI_p q2
  have hr := hcan.1
  have ht := hcan.2.1
  have hF := hcan.2.2.1
  obtain ⟨ρ', r1, r2, r3, r4, r5⟩ := hc1.1.2.1.2.1
  have e3 := (r5.2.1 r hr.1 hr.2).2.1
  have w3 := (hQ.2.1.2.2 r hr.1 hr.2).2.2.1
  refine ⟨ρ', r1, r2, ⟨by omega, by omega⟩, ?_⟩
  rw [e3]
  have a : I7 (m + 578 + 2) (t + B (516 + 40 * r)) = bT B (t + B (516 + 40 * r)) := hL.1.2.2.2.2.2.1 _ (by omega) (by omega)
  have b : I7 (m + 578 + 2) t = bT B t := hL.1.2.2.2.2.2.1 _ (by omega) (by omega)
  have b1 := hk.bd (t := t) (by omega) (by omega)
  have b2 := hk.bd (t := t + B (516 + 40 * r)) (by omega) (by omega)
  rw [a, b]
  exact ⟨⟨by omega, by omega⟩, ⟨by omega, by omega⟩, ⟨by omega, by omega⟩, ⟨by omega, by omega⟩, by rw [if_pos hcan], hc1⟩
theorem cl_silenced (h : CC G m δ I B H B' H' T fk fp) {i w : Int} : jRI E jB kX9_silenced [VR m, VI i, VI w] G I (fun x I' => x = anSilenced B i w ∧ CC G m δ I' B H B' H' T fk fp) := by
  have e5 : I (m + 196) 5 = B 3 := h.1.2.1.1.2.1.1
  have h3 := h.1.2.1.1.2.1
  unfold anSilenced
  refine en_X9_silenced h.1.1.2.1 (fun _ _ _ => ?_)
  rw [e5]
  refine ⟨fun q => ⟨by rw [if_neg (by omega)], h⟩, fun q => ⟨fun q2 => ?_, fun q2 => ⟨by rw [if_neg (by omega)], h⟩⟩⟩
  have g := h.1.2.1.1.2.2 i (by omega) q2
  refine ⟨fun q3 => ⟨fun q4 => ⟨by rw [if_neg (by omega)], h⟩, fun q4 => ⟨⟨by omega, by omega⟩, ?_, h⟩⟩, fun q3 => ⟨⟨by omega, by omega⟩, ?_, h⟩⟩
  · rw [if_pos (by omega), q4]; exact g.2
  · rw [if_pos (by omega), q3, show 410 + 2 * i + 0 = 410 + 2 * i by omega]; exact g.1
theorem cl_isSilent (h : CC G m δ I B H B' H' T fk fp) (hQ : QW B) {i : Int} : jRI E jB kX9_isSilent [VR m, VI i] G I (fun x I' => x = jI ((0 ≤ i ∧ i < B 2) ∧ sil B i (i + 1)) ∧ CC G m δ I' B H B' H' T fk fp) := by
  have h2 := hQ.1
  have hm := h.1.1.2.1
  refine en_X9_isSilent hm (fun _ _ => (cl_isByte h.1).mono (fun y I1 _ _ gy => ?_))
  obtain ⟨rfl, rfl⟩ := gy
  refine ⟨fun q => ⟨(jI_neg (fun g => jI_n q g.1)).symm, h⟩, fun q => ?_⟩
  have hi := jI_p q
  refine ⟨⟨by omega, by omega⟩, (cl_hides (wX7_o0 (wX9_o4 hm)) h.1.2.1.1.2).mono (fun y I5 _ _ gy => ?_)⟩
  obtain ⟨rfl, rfl⟩ := gy
  exact ⟨fun q2 => ⟨(jI_neg (fun g => jI_n q2 g.2)).symm, h⟩, fun q2 => ⟨(jI_pos ⟨hi, jI_p q2⟩).symm, h⟩⟩
theorem cl_yielding (h : CC G m δ I B H B' H' T fk fp) (hW : BW c B) {i : Int} : jRI E jB kX9_yielding [VR m, VI i] G I (fun x I' => x = anYielding B i ∧ CC G m δ I' B H B' H' T fk fp) := by
  have hY := h.1.2.1.2.2.2.1.2.2
  have e7 := hY.1
  unfold anYielding
  refine en_X9_yielding h.1.1.2.1 (fun _ _ => ?_)
  rw [e7.1]
  refine ⟨fun q => ⟨by rw [if_neg (by omega)], h⟩, fun q => ⟨fun q2 => ?_, fun q2 => ⟨by rw [if_neg (by omega)], h⟩⟩⟩
  have g := hY.2 i (by omega) q2
  have g1 : I (m + 201) i = B (426 + 2 * i) := g.1
  have g2 : I (m + 202) i = B (426 + 2 * i + 1) := g.2
  have y := hW.yw i (by omega) q2
  rw [g1, g2]
  exact ⟨⟨by omega, by omega⟩, ⟨by omega, by omega⟩, ⟨by omega, by omega⟩, by rw [if_pos (by omega)], h⟩
theorem cl_paint (h : CC G m δ I B H B' H' T fk fp) (hQ : QW B) {i : Int} : jRI E jB kX9_paint [VR m, VI i] G I (fun x I' => x = anPaint B i ∧ CC G m δ I' B H B' H' T fk fp) := by
  have h2 := hQ.1
  unfold anPaint
  refine en_X9_paint h.1.1.2.1 (fun _ _ => (cl_isByte h.1).mono (fun y I1 _ _ gy => ?_))
  obtain ⟨rfl, rfl⟩ := gy
  refine ⟨fun q => ⟨by rw [if_neg (jI_n q)], h⟩, fun q => ?_⟩
  have hi := jI_p q
  exact ⟨⟨by omega, by omega⟩, fun _ => ⟨by rw [if_pos hi]; exact (h.1.2.1.1.1.2 i hi.1 hi.2).2, h⟩⟩
theorem cl_painted (h : CC G m δ I B H B' H' T fk fp) {r : Int} : jRI E jB kX9_painted [VR m, VI r] G I (fun x I' => x = anPainted B r ∧ CC G m δ I' B H B' H' T fk fp) := by
  unfold anPainted
  refine en_X9_painted h.1.1.2.1 (fun _ _ => (cl_isRule h.1).mono (fun y I1 _ _ gy => ?_))
  obtain ⟨rfl, rfl⟩ := gy
  refine ⟨fun q => ⟨by rw [if_neg (jI_n q)], h⟩, fun q => (cl_countPainted (wX7_o0 (wX9_o4 h.1.1.2.1)) h.1.2.1.1.1).mono (fun y I4 _ _ gy => ?_)⟩
  obtain ⟨ey, rfl⟩ := gy
  exact ⟨by rw [if_pos (jI_p q)]; exact ey, h⟩
theorem cl_book (h : CC G m δ I B H B' H' T fk fp) {i w : Int} : jRI E jB kX9_book [VR m, VI i, VI w] G I (fun x I' => x = anBook B i w ∧ CC G m δ I' B H B' H' T fk fp) := by
  have hB := h.1.2.1.2.2.2.2
  have e9 := hB.1
  unfold anBook
  refine en_X9_book h.1.1.2.1 (fun _ _ _ => ?_)
  rw [e9.1]
  refine ⟨fun q => ⟨fun q2 => ⟨by rw [if_neg q, if_neg (by omega)], h⟩, fun q2 => ⟨fun q3 => ⟨by rw [if_neg q, if_neg (by omega)], h⟩, fun q3 => ⟨fun q4 => ⟨by rw [if_neg q, if_neg (by omega)], h⟩, fun q4 => ⟨fun q5 => ⟨⟨by omega, by omega⟩, ?_, h⟩, fun q5 => ⟨by rw [if_neg q, if_neg (by omega)], h⟩⟩⟩⟩⟩, fun q => ⟨by rw [if_pos q], h⟩⟩
  rw [if_neg q, if_pos (by omega)]
  have := hB.2.1 (i * 3 + w) (by omega) (by omega)
  rw [show 442 + (i * 3 + w) = 442 + 3 * i + w by omega] at this
  exact this
theorem cl_common (h : CC G m δ I B H B' H' T fk fp) (hW : BW c B) {w : Int} : jRI E jB kX9_common [VR m, VI w] G I (fun x I' => x = anCommon B w ∧ CC G m δ I' B H B' H' T fk fp) := by
  unfold anCommon
  refine en_X9_common h.1.1.2.1 (fun _ _ => (cl_found h hW).mono (fun a I1 _ g => ?_))
  obtain ⟨rfl, hφ, hc1, ⟨ρ, hL, -⟩, -⟩ := g
  refine ⟨hφ, (cl_commonWord hL.1 hW.1).mono (fun y I4 _ _ gy => ?_)⟩
  obtain ⟨ey, hy, rfl⟩ := gy
  rw [← ey]
  refine ⟨fun q => ⟨?_, hc1⟩, fun q => ⟨fun q2 => ⟨by rw [if_neg (by omega)], hc1⟩, fun q2 => ⟨fun q3 => ⟨fun q4 => ?_, fun q4 => ⟨by rw [if_pos (by omega), if_pos (Or.inl q4)], hc1⟩⟩, fun q3 => ⟨by rw [if_neg (by omega)], hc1⟩⟩⟩⟩
  · by_cases c : 0 ≤ w ∧ w ≤ 1
    · rw [if_pos c, if_pos (Or.inr q)]; exact q.symm
    · rw [if_neg c]
  · rcases hy with hy | hy
    · exact absurd hy q
    · refine (cl_countLike hL.1 hW.1 hy.1.1 hy.1.2).mono (fun z I7 _ _ gz => ?_)
      obtain ⟨ez, -, rfl⟩ := gz
      exact ⟨by rw [if_pos (by omega), if_neg (by omega), hy.2]; exact ez, hc1⟩
theorem cl_paired (h : CC G m δ I B H B' H' T fk fp) {i : Int} : jRI E jB kX9_paired [VR m, VI i] G I (fun x I' => x = anPaired B i ∧ CC G m δ I' B H B' H' T fk fp) := by
  have hm := h.1.1.2.1
  have h0 := h.1.1.1
  refine en_X9_paired hm (fun _ _ => (cl_isByte h.1).mono (fun y I1 _ _ gy => ?_))
  obtain ⟨rfl, rfl⟩ := gy
  refine ⟨fun q => ⟨by unfold anPaired; rw [if_neg (jI_n q)], h⟩, fun q => (cl_partnerOf (wX9_o16 hm) (wX7_o0 (wX9_o4 hm)) (by omega) h.1.2.1.1.1).mono (fun y I4 _ _ gy => ⟨gy.1, h.fr (fun a j qa => gy.2 a j (by omega))⟩)⟩
theorem cl_line (h : CC G m δ I B H B' H' T fk fp) {i w : Int} : jRI E jB kX9_line [VR m, VI i, VI w] G I (fun x I' => x = anLine B i w ∧ CC G m δ I' B H B' H' T fk fp) := by
  have hm := h.1.1.2.1
  unfold anLine
  refine en_X9_line hm (fun _ _ _ => (cl_isByte h.1).mono (fun y I1 _ _ gy => ?_))
  obtain ⟨rfl, rfl⟩ := gy
  refine ⟨fun q => ?_, fun q => ⟨by rw [if_neg (jI_n q)], h⟩⟩
  have hi := jI_p q
  rw [if_pos hi]
  refine ⟨fun q2 => ⟨fun q3 => ⟨by rw [if_neg q2, if_neg q3], h⟩, fun q3 => (cl_columnOf (wX7_o0 (wX9_o4 hm)) h.1.2.1.1.1 (by omega)).mono (fun y I4 _ _ gy => ?_)⟩, fun q2 => (cl_lineOf (wX7_o0 (wX9_o4 hm)) h.1.2.1.1.1 (by omega)).mono (fun y I7 _ _ gy => ?_)⟩
  · obtain ⟨ey, rfl⟩ := gy
    exact ⟨by rw [if_neg q2, if_pos q3]; exact ey, h⟩
  · obtain ⟨ey, -, rfl⟩ := gy
    exact ⟨by rw [if_pos q2]; exact ey, h⟩
theorem cl_circling (h : CC G m δ I B H B' H' T fk fp) (hW : BW c B) (hc : c ≤ 900000) : jRI E jB kX9_circling [VR m] G I (fun x I' => x = anCircling B ∧ CC G m δ I' B H B' H' T fk fp) := by
  unfold anCircling
  refine en_X9_circling h.1.1.2.1 (fun _ => (cl_way h hW hc).mono (fun a I1 _ g => ?_))
  obtain ⟨rfl, hι, hc1, hJ⟩ := g
  rw [hJ.2.1, hJ.2.2.1]
  refine ⟨hι, fun q => ⟨by rw [if_neg q], hc1⟩, fun q => ?_⟩
  have b := hJ.2.2.2.2.2.2 (endAt1 q)
  have g := cl_rulesMade (E := E) hι hJ (k := (fstL B (crN B)).toNat) (by omega)
  rw [show (((fstL B (crN B)).toNat : Nat) : Int) = fstL B (crN B) by omega] at g
  refine g.mono (fun y I4 _ _ gy => ?_)
  obtain ⟨ey, rfl⟩ := gy
  exact ⟨by rw [if_pos q]; exact ey, hc1⟩
theorem cl_used (h : CC G m δ I B H B' H' T fk fp) (hW : BW c B) (hc : c ≤ 900000) : jRI E jB kX9_used [VR m] G I (fun x I' => x = anUsed B ∧ CC G m δ I' B H B' H' T fk fp) := by
  refine en_X9_used h.1.1.2.1 (fun _ => (cl_way h hW hc).mono (fun a I1 _ g => ?_))
  obtain ⟨rfl, hι, hc1, hJ⟩ := g
  refine ⟨hι, (cl_rulesMade (E := E) hι hJ (k := 0) (by omega)).mono (fun y I4 _ _ gy => ?_)⟩
  obtain ⟨ey, rfl⟩ := gy
  exact ⟨ey, hc1⟩
theorem cl_course (h : CC G m δ I B H B' H' T fk fp) (hW : BW c B) (hc : c ≤ 900000) {w : Int} : jRI E jB kX9_course [VR m, VI w] G I (fun x I' => x = anCourse B w ∧ CC G m δ I' B H B' H' T fk fp) := by
  unfold anCourse
  refine en_X9_course h.1.1.2.1 (fun _ _ => (cl_way h hW hc).mono (fun a I1 _ g => ?_))
  obtain ⟨rfl, hι, hc1, hJ⟩ := g
  have h30 := hJ.1.2
  have pg : w = 4 → jRA E jB kX3_pageBehind [VR (m + 6), VI (I1 (m + 6) 2)] G I1 (fun r5 I4 => WX4 G r5 ∧ I4 r5 2 = (if w = 0 then endAt B (crN B) else if w = 1 then (crN B : Int) else if w = 2 then fstL B (crN B) else if w = 3 then (if endAt B (crN B) = 1 then crN B - fstL B (crN B) else -1) else if w = 4 then csq B (crN B) 2 else if w = 5 then mdS B (crN B) else -1) ∧ CC G m δ I4 B H B' H' T fk fp) := fun q => by
    rw [hJ.1.1]
    refine (cl_pageBehind hι hJ (n := (crN B : Int)) (by omega)).mono (fun a I4 _ g => ?_)
    obtain ⟨rfl, hb, hw4, rfl⟩ := g
    have eb : bhR B (crN B : Int) = crN B := by unfold bhR; rw [if_neg (by omega)]
    rw [eb] at hw4 ⊢
    refine ⟨hw4, ?_, hc1⟩
    rw [if_neg (by omega), if_neg (by omega), if_neg (by omega), if_neg (by omega), if_pos q]
    exact (hJ.2.2.2.2.1 (crN B) (Nat.le_refl _)).1.1.1
  refine ⟨hι, ?_⟩
  refine ⟨fun q1 => ⟨fun q => ⟨by rw [if_neg (by omega), if_neg (by omega), if_neg (by omega), if_neg (by omega), if_neg (by omega), if_neg (by omega)], hc1⟩, fun q => ⟨by rw [if_pos q]; exact hJ.2.1, hc1⟩, fun q => ⟨by rw [if_neg (by omega), if_pos q]; exact hJ.1.1, hc1⟩, fun q => ⟨?_, hc1⟩, fun q => ⟨?_, hc1⟩, pg, fun q => ⟨by rw [if_neg (by omega), if_neg (by omega), if_neg (by omega), if_neg (by omega), if_neg (by omega), if_pos q]; exact hJ.2.2.2.1, hc1⟩⟩, fun q1 => ⟨fun q => ⟨by rw [if_neg (by omega), if_neg (by omega), if_neg (by omega), if_neg (by omega), if_neg (by omega), if_neg (by omega)], hc1⟩, fun q => ⟨by rw [if_pos q]; exact hJ.2.1, hc1⟩, fun q => ⟨by rw [if_neg (by omega), if_pos q]; exact hJ.1.1, hc1⟩, fun q => ⟨by rw [if_neg (by omega), if_neg (by omega), if_pos q]; exact hJ.2.2.1, hc1⟩, fun q => ?_, pg, fun q => ⟨by rw [if_neg (by omega), if_neg (by omega), if_neg (by omega), if_neg (by omega), if_neg (by omega), if_pos q]; exact hJ.2.2.2.1, hc1⟩⟩⟩
  · rw [if_neg (by omega), if_neg (by omega), if_pos q]
    rw [hJ.2.1] at q1
    by_cases e : fstL B (crN B) = -1
    · exact e.symm
    · exfalso
      apply q1
      unfold endAt
      rw [if_pos e]
  · rw [hJ.2.1] at q1
    rw [if_neg (by omega), if_neg (by omega), if_neg (by omega), if_pos q, if_neg q1]
  · rw [hJ.2.1] at q1
    have b := hJ.2.2.2.2.2.2 (endAt1 q1)
    rw [hJ.1.1, hJ.2.2.1]
    exact ⟨⟨by omega, by omega⟩, by rw [if_neg (by omega), if_neg (by omega), if_neg (by omega), if_pos q, if_pos q1], hc1⟩
theorem cl_later (h : CC G m δ I B H B' H' T fk fp) (hW : BW c B) (hc : c ≤ 900000) {n i : Int} : jRI E jB kX9_later [VR m, VI n, VI i] G I (fun x I' => x = anLater B n i ∧ CC G m δ I' B H B' H' T fk fp) := by
  unfold anLater
  refine en_X9_later h.1.1.2.1 (fun _ _ _ => ⟨fun q => ⟨by rw [if_neg (by omega)], h⟩, fun q => ⟨fun q2 => (cl_way h hW hc).mono (fun a I1 _ g => ?_), fun q2 => ⟨by rw [if_neg (by omega)], h⟩⟩⟩)
  obtain ⟨rfl, hι, hc1, hJ⟩ := g
  refine ⟨hι, (cl_pageBehind hι hJ (n := n) (by omega)).mono (fun a I4 _ g => ?_)⟩
  obtain ⟨rfl, hb, hw4, rfl⟩ := g
  have hP := hJ.2.2.2.2.1 _ hb
  have e2 := hP.1.1
  rw [e2.1, if_pos (by omega)]
  refine ⟨hw4, fun q3 => ⟨by rw [if_neg (by omega)], hc1⟩, fun q3 => ⟨fun q4 => ⟨by rw [if_neg (by omega)], hc1⟩, fun q4 => ⟨⟨by omega, by omega⟩, fun _ => ⟨?_, hc1⟩⟩⟩⟩
  rw [if_pos (by omega)]
  exact (hP.1.2 i (by omega) (by omega)).1
theorem cl_digest (h : CC G m δ I B H B' H' T fk fp) (hW : BW c B) (hc : c ≤ 900000) {n : Int} : jRI E jB kX9_digest [VR m, VI n] G I (fun x I' => x = anDigest B n ∧ CC G m δ I' B H B' H' T fk fp) := by
  unfold anDigest
  refine en_X9_digest h.1.1.2.1 (fun _ _ => ⟨fun q => ⟨by rw [if_neg (by omega)], h⟩, fun q => ⟨fun q2 => (cl_way h hW hc).mono (fun a I1 _ g => ?_), fun q2 => ⟨by rw [if_neg (by omega)], h⟩⟩⟩)
  obtain ⟨rfl, hι, hc1, hJ⟩ := g
  refine ⟨hι, (cl_pageBehind hι hJ (n := n) (by omega)).mono (fun a I4 _ g => ?_)⟩
  obtain ⟨rfl, hb, hw4, rfl⟩ := g
  refine ⟨hw4, (cl_hash hw4 (hJ.2.2.2.2.1 _ hb).1).mono (fun y I7 _ _ gy => ?_)⟩
  obtain ⟨ey, rfl⟩ := gy
  exact ⟨by rw [if_pos (by omega)]; exact ey, hc1⟩
end CW
