set_option maxRecDepth 20000 in
theorem st_X10_writePart_141 {E : jE} {G : jG} {I : jM} {q : jM → Prop} {m : Nat} {x1 : Int} {x2 : Int} {x3 : Int} {x4 : Int} {x5 : Int} {x6 : Int} {x7 : Int} (hm : WX10 G m) (hT : (∀ a j, jRg (G.2.1 a).1 (I a j)) → jIn x1 → jIn x2 → jIn x3 → jIn x4 → jIn x5 → jIn x6 → jIn x7 → ((x6 ≤ x7 → q I) ∧ (¬ x6 ≤ x7 → ((0 : Int) ≤ x5 ∧ (x5 : Int) < 200) ∧ ((¬ x3 = 7 → jIn ((I (m + 3) x5) + x7) ∧ (0 ≤ 10 + ((I (m + 3) x5) + x7) ∧ 10 + ((I (m + 3) x5) + x7) < 22094) ∧ jRV E (jA m) kX10_write [VR m, VI (I (m + 1) (10 + ((I (m + 3) x5) + x7)))] G I (fun I5 => jIn (x7 + 1) ∧ jOV E (jA m) kX10_writePart 141 [VR m, VI x1, VI x2, VI x3, VI x4, VI x5, VI x6, VI (x7 + 1)] G I5 q)) ∧ (x3 = 7 → jIn ((I (m + 3) x5) + ((x6 - 1) - x7)) ∧ (0 ≤ 10 + ((I (m + 3) x5) + ((x6 - 1) - x7)) ∧ 10 + ((I (m + 3) x5) + ((x6 - 1) - x7)) < 22094) ∧ jRV E (jA m) kX10_write [VR m, VI (I (m + 1) (10 + ((I (m + 3) x5) + ((x6 - 1) - x7))))] G I (fun I10 => jIn (x7 + 1) ∧ jOV E (jA m) kX10_writePart 141 [VR m, VI x1, VI x2, VI x3, VI x4, VI x5, VI x6, VI (x7 + 1)] G I10 q)))))) : jOV E (jA m) kX10_writePart 141 [VR m, VI x1, VI x2, VI x3, VI x4, VI x5, VI x6, VI x7] G I q := by
  intro I0 hF
  refine jOk_mem (fun hI => ?_)
  refine jOk_in (i := 1) rfl (fun hx1 => ?_)
  refine jOk_in (i := 2) rfl (fun hx2 => ?_)
  refine jOk_in (i := 3) rfl (fun hx3 => ?_)
  refine jOk_in (i := 4) rfl (fun hx4 => ?_)
  refine jOk_in (i := 5) rfl (fun hx5 => ?_)
  refine jOk_in (i := 6) rfl (fun hx6 => ?_)
  refine jOk_in (i := 7) rfl (fun hx7 => ?_)
  replace hT := hT hI hx1 hx2 hx3 hx4 hx5 hx6 hx7
  refine r_iload dX10_writePart_141 (i := 7) rfl ?_
  refine r_iload dX10_writePart_143 (i := 6) rfl ?_
  refine r_icmp_ge (tgt := 188) dX10_writePart_145 rfl hx7 hx6 (fun hcc => ?_) (fun hcc => ?_)
  · replace hT := hT.1 hcc
    exact r_vret dX10_writePart_188 rfl ⟨Nat.zero_le _, Nat.zero_le _⟩ ⟨rfl, rfl, hF, hT⟩
  · replace hT := hT.2 hcc
    refine r_aload_n dX10_writePart_148 rfl (i := 0) rfl ?_
    refine r_aload_n dX10_writePart_149 rfl (i := 0) rfl ?_
    refine r_aload_n dX10_writePart_150 rfl (i := 0) rfl ?_
    refine rr_getR (b := (m + 3)) dX10_writePart_151 fg_X10_16 rfl rfl (wX10_l hm) (wX10_s hm) (wX10_r2 hm) ?_
    refine r_iload dX10_writePart_154 (i := 5) rfl ?_
    obtain ⟨hc1, hT⟩ := hT
    refine rr_iaload (v := I (m + 3) x5) dX10_writePart_156 (wX10_l2 hm) (wX10_a2 hm) (by decide) hc1 rfl ?_
    refine r_iload_n dX10_writePart_157 rfl (i := 3) rfl ?_
    refine r_bipush (n := 7) dX10_writePart_158 (by decide +kernel) ?_
    refine r_icmp_ne (tgt := 173) dX10_writePart_160 rfl hx3 ⟨by decide, by decide⟩ (fun hcc => ?_) (fun hcc => ?_)
    · replace hT := hT.1 hcc
      refine r_iload dX10_writePart_173 (i := 7) rfl ?_
      refine r_iadd dX10_writePart_175 ?_
      obtain ⟨hc2, hT⟩ := hT
      obtain ⟨hc4, hT⟩ := hT
      refine rr_pVI (A := (jA m)) (v := I (m + 1) (10 + ((I (m + 3) x5) + x7))) (a := m) (as := [VI ((I (m + 3) x5) + x7)]) (st := [VR m]) dX10_writePart_176 mt_X10_byteAt ml_X10_120 mi_X10_byteAt rm_X10_writePart_X10_byteAt jz_X10_byteAt ⟨Nat.zero_le _, Nat.zero_le _⟩ (Nat.le_of_ble_eq_true rfl) (wX10_l hm) (wX10_c hm) (jasI hc2 jas0) ((sp_X10_byteAt hm) hc4) (fun hc3 => ?_)
      refine rr_cVV (a := m) (as := [VI (I (m + 1) (10 + ((I (m + 3) x5) + x7)))]) (st := []) dX10_writePart_179 mt_X10_write ml_X10_151 mi_X10_write rm_X10_writePart_X10_write jz_X10_write ⟨Nat.zero_le _, Nat.zero_le _⟩ (Nat.le_of_ble_eq_true rfl) (wX10_l hm) (wX10_c hm) (jasI hc3 jas0) hT (fun I5 hFI5 hT => ?_)
      replace hFI5 := jFr_tr hF hFI5
      refine jOk_mem (fun hI5 => ?_)
      obtain ⟨hc6, hT⟩ := hT
      refine rr_iinc (i := 7) (ls' := [VR m, VI x1, VI x2, VI x3, VI x4, VI x5, VI x6, VI (x7 + 1)]) dX10_writePart_182 rfl (Nat.le_of_ble_eq_true rfl) rfl rfl hc6 ?_
      refine r_goto (tgt := 141) dX10_writePart_185 rfl ?_
      exact hT I0 hFI5
    · replace hT := hT.2 hcc
      refine r_iload dX10_writePart_163 (i := 6) rfl ?_
      refine r_iconst (n := 1) dX10_writePart_165 ?_
      refine r_isub dX10_writePart_166 ?_
      refine r_iload dX10_writePart_167 (i := 7) rfl ?_
      refine r_isub dX10_writePart_169 ?_
      refine r_goto (tgt := 175) dX10_writePart_170 rfl ?_
      refine r_iadd dX10_writePart_175 ?_
      obtain ⟨hc7, hT⟩ := hT
      obtain ⟨hc9, hT⟩ := hT
      refine rr_pVI (A := (jA m)) (v := I (m + 1) (10 + ((I (m + 3) x5) + ((x6 - 1) - x7)))) (a := m) (as := [VI ((I (m + 3) x5) + ((x6 - 1) - x7))]) (st := [VR m]) dX10_writePart_176 mt_X10_byteAt ml_X10_120 mi_X10_byteAt rm_X10_writePart_X10_byteAt jz_X10_byteAt ⟨Nat.zero_le _, Nat.zero_le _⟩ (Nat.le_of_ble_eq_true rfl) (wX10_l hm) (wX10_c hm) (jasI hc7 jas0) ((sp_X10_byteAt hm) hc9) (fun hc8 => ?_)
      refine rr_cVV (a := m) (as := [VI (I (m + 1) (10 + ((I (m + 3) x5) + ((x6 - 1) - x7))))]) (st := []) dX10_writePart_179 mt_X10_write ml_X10_151 mi_X10_write rm_X10_writePart_X10_write jz_X10_write ⟨Nat.zero_le _, Nat.zero_le _⟩ (Nat.le_of_ble_eq_true rfl) (wX10_l hm) (wX10_c hm) (jasI hc8 jas0) hT (fun I10 hFI10 hT => ?_)
      replace hFI10 := jFr_tr hF hFI10
      refine jOk_mem (fun hI10 => ?_)
      obtain ⟨hc11, hT⟩ := hT
      refine rr_iinc (i := 7) (ls' := [VR m, VI x1, VI x2, VI x3, VI x4, VI x5, VI x6, VI (x7 + 1)]) dX10_writePart_182 rfl (Nat.le_of_ble_eq_true rfl) rfl rfl hc11 ?_
      refine r_goto (tgt := 141) dX10_writePart_185 rfl ?_
      exact hT I0 hFI10
set_option maxRecDepth 20000 in
theorem st_X10_writePart_138 {E : jE} {G : jG} {I : jM} {q : jM → Prop} {m : Nat} {x1 : Int} {x2 : Int} {x3 : Int} {x4 : Int} {x5 : Int} {x6 : Int} (hm : WX10 G m) (hT : (∀ a j, jRg (G.2.1 a).1 (I a j)) → jIn x1 → jIn x2 → jIn x3 → jIn x4 → jIn x5 → jIn x6 → jOV E (jA m) kX10_writePart 141 [VR m, VI x1, VI x2, VI x3, VI x4, VI x5, VI x6, VI 0] G I q) : jOV E (jA m) kX10_writePart 138 [VR m, VI x1, VI x2, VI x3, VI x4, VI x5, VI x6, VN] G I q := by
  intro I0 hF
  refine jOk_mem (fun hI => ?_)
  refine jOk_in (i := 1) rfl (fun hx1 => ?_)
  refine jOk_in (i := 2) rfl (fun hx2 => ?_)
  refine jOk_in (i := 3) rfl (fun hx3 => ?_)
  refine jOk_in (i := 4) rfl (fun hx4 => ?_)
  refine jOk_in (i := 5) rfl (fun hx5 => ?_)
  refine jOk_in (i := 6) rfl (fun hx6 => ?_)
  replace hT := hT hI hx1 hx2 hx3 hx4 hx5 hx6
  refine r_iconst (n := 0) dX10_writePart_138 ?_
  refine rr_istore (i := 7) (ls' := [VR m, VI x1, VI x2, VI x3, VI x4, VI x5, VI x6, VI 0]) dX10_writePart_139 (Nat.le_of_ble_eq_true rfl) rfl rfl ⟨by decide, by decide⟩ ?_
  exact hT I0 hF
set_option maxRecDepth 20000 in
theorem st_X10_writePart_114 {E : jE} {G : jG} {I : jM} {q : jM → Prop} {m : Nat} {x1 : Int} {x2 : Int} {x3 : Int} {x4 : Int} {x5 : Int} {x6 : Int} (hm : WX10 G m) (hT : (∀ a j, jRg (G.2.1 a).1 (I a j)) → jIn x1 → jIn x2 → jIn x3 → jIn x4 → jIn x5 → jIn x6 → ((9 < x6 → jOV E (jA m) kX10_writePart 138 [VR m, VI x1, VI x2, VI x3, VI x4, VI x5, VI x6, VN] G I q) ∧ (¬ 9 < x6 → ((¬ x3 = 5 → jRV E (jA m) kX10_writeNumber [VR m, VI x5, VI (-1)] G I (fun I1 => q I1)) ∧ (x3 = 5 → jRV E (jA m) kX10_writeNumber [VR m, VI x5, VI 1] G I (fun I2 => q I2)))))) : jOV E (jA m) kX10_writePart 114 [VR m, VI x1, VI x2, VI x3, VI x4, VI x5, VI x6, VN] G I q := by
  intro I0 hF
  refine jOk_mem (fun hI => ?_)
  refine jOk_in (i := 1) rfl (fun hx1 => ?_)
  refine jOk_in (i := 2) rfl (fun hx2 => ?_)
  refine jOk_in (i := 3) rfl (fun hx3 => ?_)
  refine jOk_in (i := 4) rfl (fun hx4 => ?_)
  refine jOk_in (i := 5) rfl (fun hx5 => ?_)
  refine jOk_in (i := 6) rfl (fun hx6 => ?_)
  replace hT := hT hI hx1 hx2 hx3 hx4 hx5 hx6
  refine r_iload dX10_writePart_114 (i := 6) rfl ?_
  refine r_bipush (n := 9) dX10_writePart_116 (by decide +kernel) ?_
  refine r_icmp_gt (tgt := 138) dX10_writePart_118 rfl hx6 ⟨by decide, by decide⟩ (fun hcc => ?_) (fun hcc => ?_)
  · replace hT := hT.1 hcc
    exact hT I0 hF
  · replace hT := hT.2 hcc
    refine r_aload_n dX10_writePart_121 rfl (i := 0) rfl ?_
    refine r_iload dX10_writePart_122 (i := 5) rfl ?_
    refine r_iload_n dX10_writePart_124 rfl (i := 3) rfl ?_
    refine r_iconst (n := 5) dX10_writePart_125 ?_
    refine r_icmp_ne (tgt := 133) dX10_writePart_126 rfl hx3 ⟨by decide, by decide⟩ (fun hcc => ?_) (fun hcc => ?_)
    · replace hT := hT.1 hcc
      refine r_iconst (n := (-1)) dX10_writePart_133 ?_
      refine rr_cVV (a := m) (as := [VI x5, VI (-1)]) (st := []) dX10_writePart_134 mt_X10_writeNumber ml_X10_158 mi_X10_writeNumber rm_X10_writePart_X10_writeNumber jz_X10_writeNumber ⟨Nat.zero_le _, Nat.zero_le _⟩ (Nat.le_of_ble_eq_true rfl) (wX10_l hm) (wX10_c hm) (jasI hx5 (jasI ⟨by decide, by decide⟩ jas0)) hT (fun I1 hFI1 hT => ?_)
      replace hFI1 := jFr_tr hF hFI1
      refine jOk_mem (fun hI1 => ?_)
      exact r_vret dX10_writePart_137 rfl ⟨Nat.zero_le _, Nat.zero_le _⟩ ⟨rfl, rfl, hFI1, hT⟩
    · replace hT := hT.2 hcc
      refine r_iconst (n := 1) dX10_writePart_129 ?_
      refine r_goto (tgt := 134) dX10_writePart_130 rfl ?_
      refine rr_cVV (a := m) (as := [VI x5, VI 1]) (st := []) dX10_writePart_134 mt_X10_writeNumber ml_X10_158 mi_X10_writeNumber rm_X10_writePart_X10_writeNumber jz_X10_writeNumber ⟨Nat.zero_le _, Nat.zero_le _⟩ (Nat.le_of_ble_eq_true rfl) (wX10_l hm) (wX10_c hm) (jasI hx5 (jasI ⟨by decide, by decide⟩ jas0)) hT (fun I2 hFI2 hT => ?_)
      replace hFI2 := jFr_tr hF hFI2
      refine jOk_mem (fun hI2 => ?_)
      exact r_vret dX10_writePart_137 rfl ⟨Nat.zero_le _, Nat.zero_le _⟩ ⟨rfl, rfl, hFI2, hT⟩
set_option maxRecDepth 20000 in
theorem st_X10_writePart_94 {E : jE} {G : jG} {I : jM} {q : jM → Prop} {m : Nat} {x1 : Int} {x2 : Int} {x3 : Int} {x4 : Int} {x5 : Int} (hm : WX10 G m) (hT : (∀ a j, jRg (G.2.1 a).1 (I a j)) → jIn x1 → jIn x2 → jIn x3 → jIn x4 → jIn x5 → ((0 : Int) ≤ x5 ∧ (x5 : Int) < 200) ∧ ((x3 = 5 → jOV E (jA m) kX10_writePart 114 [VR m, VI x1, VI x2, VI x3, VI x4, VI x5, VI (I (m + 4) x5), VN] G I q) ∧ (¬ x3 = 5 → ((¬ x3 = 6 → jOV E (jA m) kX10_writePart 138 [VR m, VI x1, VI x2, VI x3, VI x4, VI x5, VI (I (m + 4) x5), VN] G I q) ∧ (x3 = 6 → jOV E (jA m) kX10_writePart 114 [VR m, VI x1, VI x2, VI x3, VI x4, VI x5, VI (I (m + 4) x5), VN] G I q))))) : jOV E (jA m) kX10_writePart 94 [VR m, VI x1, VI x2, VI x3, VI x4, VI x5, VN, VN] G I q := by
  intro I0 hF
  refine jOk_mem (fun hI => ?_)
  refine jOk_in (i := 1) rfl (fun hx1 => ?_)
  refine jOk_in (i := 2) rfl (fun hx2 => ?_)
  refine jOk_in (i := 3) rfl (fun hx3 => ?_)
  refine jOk_in (i := 4) rfl (fun hx4 => ?_)
  refine jOk_in (i := 5) rfl (fun hx5 => ?_)
  replace hT := hT hI hx1 hx2 hx3 hx4 hx5
  refine r_aload_n dX10_writePart_94 rfl (i := 0) rfl ?_
  refine rr_getR (b := (m + 4)) dX10_writePart_95 fg_X10_19 rfl rfl (wX10_l hm) (wX10_s hm) (wX10_r3 hm) ?_
  refine r_iload dX10_writePart_98 (i := 5) rfl ?_
  obtain ⟨hc1, hT⟩ := hT
  refine rr_iaload (v := I (m + 4) x5) dX10_writePart_100 (wX10_l3 hm) (wX10_a3 hm) (by decide) hc1 rfl ?_
  refine rr_istore (i := 6) (ls' := [VR m, VI x1, VI x2, VI x3, VI x4, VI x5, VI (I (m + 4) x5), VN]) dX10_writePart_101 (Nat.le_of_ble_eq_true rfl) rfl rfl (hI _ _).inR ?_
  refine r_iload_n dX10_writePart_103 rfl (i := 3) rfl ?_
  refine r_iconst (n := 5) dX10_writePart_104 ?_
  refine r_icmp_eq (tgt := 114) dX10_writePart_105 rfl hx3 ⟨by decide, by decide⟩ (fun hcc => ?_) (fun hcc => ?_)
  · replace hT := hT.1 hcc
    exact hT I0 hF
  · replace hT := hT.2 hcc
    refine r_iload_n dX10_writePart_108 rfl (i := 3) rfl ?_
    refine r_bipush (n := 6) dX10_writePart_109 (by decide +kernel) ?_
    refine r_icmp_ne (tgt := 138) dX10_writePart_111 rfl hx3 ⟨by decide, by decide⟩ (fun hcc => ?_) (fun hcc => ?_)
    · replace hT := hT.1 hcc
      exact hT I0 hF
    · replace hT := hT.2 hcc
      exact hT I0 hF
set_option maxRecDepth 20000 in
theorem st_X10_writePart_62 {E : jE} {G : jG} {I : jM} {q : jM → Prop} {m : Nat} {x1 : Int} {x2 : Int} {x3 : Int} {x4 : Int} (hm : WX10 G m) (hT : (∀ a j, jRg (G.2.1 a).1 (I a j)) → jIn x1 → jIn x2 → jIn x3 → jIn x4 → ((¬ x3 = 7 → ((x3 ≤ 4 → ((0 : Int) ≤ ((4 * x3) + x4) ∧ (((4 * x3) + x4) : Int) < 12) ∧ jOV E (jA m) kX10_writePart 94 [VR m, VI x1, VI x2, VI x3, VI x4, VI (I (m + 5) ((4 * x3) + x4)), VN, VN] G I q) ∧ (¬ x3 ≤ 4 → ((0 : Int) ≤ (4 + x4) ∧ ((4 + x4) : Int) < 12) ∧ jOV E (jA m) kX10_writePart 94 [VR m, VI x1, VI x2, VI x3, VI x4, VI (I (m + 5) (4 + x4)), VN, VN] G I q))) ∧ (x3 = 7 → ((0 : Int) ≤ (0 + x4) ∧ ((0 + x4) : Int) < 12) ∧ jOV E (jA m) kX10_writePart 94 [VR m, VI x1, VI x2, VI x3, VI x4, VI (I (m + 5) (0 + x4)), VN, VN] G I q))) : jOV E (jA m) kX10_writePart 62 [VR m, VI x1, VI x2, VI x3, VI x4, VN, VN, VN] G I q := by
  intro I0 hF
  refine jOk_mem (fun hI => ?_)
  refine jOk_in (i := 1) rfl (fun hx1 => ?_)
  refine jOk_in (i := 2) rfl (fun hx2 => ?_)
  refine jOk_in (i := 3) rfl (fun hx3 => ?_)
  refine jOk_in (i := 4) rfl (fun hx4 => ?_)
  replace hT := hT hI hx1 hx2 hx3 hx4
  refine r_aload_n dX10_writePart_62 rfl (i := 0) rfl ?_
  refine rr_getR (b := (m + 5)) dX10_writePart_63 fg_X10_22 rfl rfl (wX10_l hm) (wX10_s hm) (wX10_r5 hm) ?_
  refine r_iconst (n := 4) dX10_writePart_66 ?_
  refine r_iload_n dX10_writePart_67 rfl (i := 3) rfl ?_
  refine r_bipush (n := 7) dX10_writePart_68 (by decide +kernel) ?_
  refine r_icmp_ne (tgt := 77) dX10_writePart_70 rfl hx3 ⟨by decide, by decide⟩ (fun hcc => ?_) (fun hcc => ?_)
  · replace hT := hT.1 hcc
    refine r_iload_n dX10_writePart_77 rfl (i := 3) rfl ?_
    refine r_iconst (n := 4) dX10_writePart_78 ?_
    refine r_icmp_le (tgt := 86) dX10_writePart_79 rfl hx3 ⟨by decide, by decide⟩ (fun hcc => ?_) (fun hcc => ?_)
    · replace hT := hT.1 hcc
      refine r_iload_n dX10_writePart_86 rfl (i := 3) rfl ?_
      refine r_imul dX10_writePart_87 ?_
      refine r_iload dX10_writePart_88 (i := 4) rfl ?_
      refine r_iadd dX10_writePart_90 ?_
      obtain ⟨hc1, hT⟩ := hT
      refine rr_iaload (v := I (m + 5) ((4 * x3) + x4)) dX10_writePart_91 (wX10_l5 hm) (wX10_a5 hm) (by decide) hc1 rfl ?_
      refine rr_istore (i := 5) (ls' := [VR m, VI x1, VI x2, VI x3, VI x4, VI (I (m + 5) ((4 * x3) + x4)), VN, VN]) dX10_writePart_92 (Nat.le_of_ble_eq_true rfl) rfl rfl (hI _ _).inR ?_
      exact hT I0 hF
    · replace hT := hT.2 hcc
      refine r_iconst (n := 1) dX10_writePart_82 ?_
      refine r_goto (tgt := 87) dX10_writePart_83 rfl ?_
      refine r_imul dX10_writePart_87 ?_
      refine r_top (y := 4) rfl ?_
      refine r_iload dX10_writePart_88 (i := 4) rfl ?_
      refine r_iadd dX10_writePart_90 ?_
      obtain ⟨hc2, hT⟩ := hT
      refine rr_iaload (v := I (m + 5) (4 + x4)) dX10_writePart_91 (wX10_l5 hm) (wX10_a5 hm) (by decide) hc2 rfl ?_
      refine rr_istore (i := 5) (ls' := [VR m, VI x1, VI x2, VI x3, VI x4, VI (I (m + 5) (4 + x4)), VN, VN]) dX10_writePart_92 (Nat.le_of_ble_eq_true rfl) rfl rfl (hI _ _).inR ?_
      exact hT I0 hF
  · replace hT := hT.2 hcc
    refine r_iconst (n := 0) dX10_writePart_73 ?_
    refine r_goto (tgt := 87) dX10_writePart_74 rfl ?_
    refine r_imul dX10_writePart_87 ?_
    refine r_top (y := 0) rfl ?_
    refine r_iload dX10_writePart_88 (i := 4) rfl ?_
    refine r_iadd dX10_writePart_90 ?_
    obtain ⟨hc3, hT⟩ := hT
    refine rr_iaload (v := I (m + 5) (0 + x4)) dX10_writePart_91 (wX10_l5 hm) (wX10_a5 hm) (by decide) hc3 rfl ?_
    refine rr_istore (i := 5) (ls' := [VR m, VI x1, VI x2, VI x3, VI x4, VI (I (m + 5) (0 + x4)), VN, VN]) dX10_writePart_92 (Nat.le_of_ble_eq_true rfl) rfl rfl (hI _ _).inR ?_
    exact hT I0 hF
set_option maxRecDepth 20000 in
theorem st_X10_writePart_25 {E : jE} {G : jG} {I : jM} {q : jM → Prop} {m : Nat} {x1 : Int} {x2 : Int} {x3 : Int} {x4 : Int} {x5 : Int} (hm : WX10 G m) (hT : (∀ a j, jRg (G.2.1 a).1 (I a j)) → jIn x1 → jIn x2 → jIn x3 → jIn x4 → jIn x5 → (0 ≤ x1 ∧ x1 < 6 ∧ 0 ≤ x2 ∧ x2 < 6 ∧ (0 : Int) ≤ 2 ∧ (2 : Int) < 3) ∧ (((I (m + 1) (536 + 40 * x1 + 3 * x2 + 2)) ≤ x5 → q I) ∧ (¬ (I (m + 1) (536 + 40 * x1 + 3 * x2 + 2)) ≤ x5 → ((0 : Int) ≤ ((754 + x4) + x5) ∧ (((754 + x4) + x5) : Int) < 22094) ∧ jRV E (jA m) kX10_write [VR m, VI (I (m + 1) ((754 + x4) + x5))] G I (fun I4 => jIn (x5 + 1) ∧ jOV E (jA m) kX10_writePart 25 [VR m, VI x1, VI x2, VI x3, VI x4, VI (x5 + 1), VN, VN] G I4 q)))) : jOV E (jA m) kX10_writePart 25 [VR m, VI x1, VI x2, VI x3, VI x4, VI x5, VN, VN] G I q := by
  intro I0 hF
  refine jOk_mem (fun hI => ?_)
  refine jOk_in (i := 1) rfl (fun hx1 => ?_)
  refine jOk_in (i := 2) rfl (fun hx2 => ?_)
  refine jOk_in (i := 3) rfl (fun hx3 => ?_)
  refine jOk_in (i := 4) rfl (fun hx4 => ?_)
  refine jOk_in (i := 5) rfl (fun hx5 => ?_)
  replace hT := hT hI hx1 hx2 hx3 hx4 hx5
  refine r_iload dX10_writePart_25 (i := 5) rfl ?_
  refine r_aload_n dX10_writePart_27 rfl (i := 0) rfl ?_
  refine r_iload_n dX10_writePart_28 rfl (i := 1) rfl ?_
  refine r_iload_n dX10_writePart_29 rfl (i := 2) rfl ?_
  refine r_iconst (n := 2) dX10_writePart_30 ?_
  obtain ⟨hc2, hT⟩ := hT
  refine rr_pVI (A := (jA m)) (v := I (m + 1) (536 + 40 * x1 + 3 * x2 + 2)) (a := m) (as := [VI x1, VI x2, VI 2]) (st := [VI x5]) dX10_writePart_31 mt_X10_partOf ml_X10_155 mi_X10_partOf rm_X10_writePart_X10_partOf jz_X10_partOf ⟨Nat.zero_le _, Nat.zero_le _⟩ (Nat.le_of_ble_eq_true rfl) (wX10_l hm) (wX10_c hm) (jasI hx1 (jasI hx2 (jasI ⟨by decide, by decide⟩ jas0))) ((sp_X10_partOf hm) hc2) (fun hc1 => ?_)
  refine r_icmp_ge (tgt := 61) dX10_writePart_34 rfl hx5 hc1 (fun hcc => ?_) (fun hcc => ?_)
  · replace hT := hT.1 hcc
    exact r_vret dX10_writePart_61 rfl ⟨Nat.zero_le _, Nat.zero_le _⟩ ⟨rfl, rfl, hF, hT⟩
  · replace hT := hT.2 hcc
    refine r_aload_n dX10_writePart_37 rfl (i := 0) rfl ?_
    refine r_aload_n dX10_writePart_38 rfl (i := 0) rfl ?_
    refine rr_getR (b := (m + 1)) dX10_writePart_39 fg_X10_7 rfl rfl (wX10_l hm) (wX10_s hm) (wX10_r0 hm) ?_
    refine r_sipush (n := 754) dX10_writePart_42 (by decide +kernel) ?_
    refine r_iload dX10_writePart_45 (i := 4) rfl ?_
    refine r_iadd dX10_writePart_47 ?_
    refine r_iload dX10_writePart_48 (i := 5) rfl ?_
    refine r_iadd dX10_writePart_50 ?_
    obtain ⟨hc3, hT⟩ := hT
    refine rr_iaload (v := I (m + 1) ((754 + x4) + x5)) dX10_writePart_51 (wX10_l0 hm) (wX10_a0 hm) (by decide) hc3 rfl ?_
    refine rr_cVV (a := m) (as := [VI (I (m + 1) ((754 + x4) + x5))]) (st := []) dX10_writePart_52 mt_X10_write ml_X10_151 mi_X10_write rm_X10_writePart_X10_write jz_X10_write ⟨Nat.zero_le _, Nat.zero_le _⟩ (Nat.le_of_ble_eq_true rfl) (wX10_l hm) (wX10_c hm) (jasI (hI _ _).inR jas0) hT (fun I4 hFI4 hT => ?_)
    replace hFI4 := jFr_tr hF hFI4
    refine jOk_mem (fun hI4 => ?_)
    obtain ⟨hc5, hT⟩ := hT
    refine rr_iinc (i := 5) (ls' := [VR m, VI x1, VI x2, VI x3, VI x4, VI (x5 + 1), VN, VN]) dX10_writePart_55 rfl (Nat.le_of_ble_eq_true rfl) rfl rfl hc5 ?_
    refine r_goto (tgt := 25) dX10_writePart_58 rfl ?_
    exact hT I0 hFI4
set_option maxRecDepth 20000 in
theorem st_X10_writePart_0 {E : jE} {G : jG} {I : jM} {q : jM → Prop} {m : Nat} {x1 : Int} {x2 : Int} (hm : WX10 G m) (hT : (∀ a j, jRg (G.2.1 a).1 (I a j)) → jIn x1 → jIn x2 → (0 ≤ x1 ∧ x1 < 6 ∧ 0 ≤ x2 ∧ x2 < 6 ∧ (0 : Int) ≤ 0 ∧ (0 : Int) < 3) ∧ (0 ≤ x1 ∧ x1 < 6 ∧ 0 ≤ x2 ∧ x2 < 6 ∧ (0 : Int) ≤ 1 ∧ (1 : Int) < 3) ∧ ((¬ (I (m + 1) (536 + 40 * x1 + 3 * x2 + 0)) = 4 → jOV E (jA m) kX10_writePart 62 [VR m, VI x1, VI x2, VI (I (m + 1) (536 + 40 * x1 + 3 * x2 + 0)), VI (I (m + 1) (536 + 40 * x1 + 3 * x2 + 1)), VN, VN, VN] G I q) ∧ ((I (m + 1) (536 + 40 * x1 + 3 * x2 + 0)) = 4 → jOV E (jA m) kX10_writePart 25 [VR m, VI x1, VI x2, VI (I (m + 1) (536 + 40 * x1 + 3 * x2 + 0)), VI (I (m + 1) (536 + 40 * x1 + 3 * x2 + 1)), VI 0, VN, VN] G I q))) : jOV E (jA m) kX10_writePart 0 [VR m, VI x1, VI x2, VN, VN, VN, VN, VN] G I q := by
  intro I0 hF
  refine jOk_mem (fun hI => ?_)
  refine jOk_in (i := 1) rfl (fun hx1 => ?_)
  refine jOk_in (i := 2) rfl (fun hx2 => ?_)
  replace hT := hT hI hx1 hx2
  refine r_aload_n dX10_writePart_0 rfl (i := 0) rfl ?_
  refine r_iload_n dX10_writePart_1 rfl (i := 1) rfl ?_
  refine r_iload_n dX10_writePart_2 rfl (i := 2) rfl ?_
  refine r_iconst (n := 0) dX10_writePart_3 ?_
  obtain ⟨hc2, hT⟩ := hT
  refine rr_pVI (A := (jA m)) (v := I (m + 1) (536 + 40 * x1 + 3 * x2 + 0)) (a := m) (as := [VI x1, VI x2, VI 0]) (st := []) dX10_writePart_4 mt_X10_partOf ml_X10_155 mi_X10_partOf rm_X10_writePart_X10_partOf jz_X10_partOf ⟨Nat.zero_le _, Nat.zero_le _⟩ (Nat.le_of_ble_eq_true rfl) (wX10_l hm) (wX10_c hm) (jasI hx1 (jasI hx2 (jasI ⟨by decide, by decide⟩ jas0))) ((sp_X10_partOf hm) hc2) (fun hc1 => ?_)
  refine rr_istore_n (i := 3) (ls' := [VR m, VI x1, VI x2, VI (I (m + 1) (536 + 40 * x1 + 3 * x2 + 0)), VN, VN, VN, VN]) dX10_writePart_7 rfl (Nat.le_of_ble_eq_true rfl) rfl rfl hc1 ?_
  refine r_aload_n dX10_writePart_8 rfl (i := 0) rfl ?_
  refine r_iload_n dX10_writePart_9 rfl (i := 1) rfl ?_
  refine r_iload_n dX10_writePart_10 rfl (i := 2) rfl ?_
  refine r_iconst (n := 1) dX10_writePart_11 ?_
  obtain ⟨hc4, hT⟩ := hT
  refine rr_pVI (A := (jA m)) (v := I (m + 1) (536 + 40 * x1 + 3 * x2 + 1)) (a := m) (as := [VI x1, VI x2, VI 1]) (st := []) dX10_writePart_12 mt_X10_partOf ml_X10_155 mi_X10_partOf rm_X10_writePart_X10_partOf jz_X10_partOf ⟨Nat.zero_le _, Nat.zero_le _⟩ (Nat.le_of_ble_eq_true rfl) (wX10_l hm) (wX10_c hm) (jasI hx1 (jasI hx2 (jasI ⟨by decide, by decide⟩ jas0))) ((sp_X10_partOf hm) hc4) (fun hc3 => ?_)
  refine rr_istore (i := 4) (ls' := [VR m, VI x1, VI x2, VI (I (m + 1) (536 + 40 * x1 + 3 * x2 + 0)), VI (I (m + 1) (536 + 40 * x1 + 3 * x2 + 1)), VN, VN, VN]) dX10_writePart_15 (Nat.le_of_ble_eq_true rfl) rfl rfl hc3 ?_
  refine r_iload_n dX10_writePart_17 rfl (i := 3) rfl ?_
  refine r_iconst (n := 4) dX10_writePart_18 ?_
  refine r_icmp_ne (tgt := 62) dX10_writePart_19 rfl hc1 ⟨by decide, by decide⟩ (fun hcc => ?_) (fun hcc => ?_)
  · replace hT := hT.1 hcc
    exact hT I0 hF
  · replace hT := hT.2 hcc
    refine r_iconst (n := 0) dX10_writePart_22 ?_
    refine rr_istore (i := 5) (ls' := [VR m, VI x1, VI x2, VI (I (m + 1) (536 + 40 * x1 + 3 * x2 + 0)), VI (I (m + 1) (536 + 40 * x1 + 3 * x2 + 1)), VI 0, VN, VN]) dX10_writePart_23 (Nat.le_of_ble_eq_true rfl) rfl rfl ⟨by decide, by decide⟩ ?_
    exact hT I0 hF
theorem en_X10_writePart {E : jE} {G : jG} {I : jM} {q : jM → Prop} {m : Nat} {x1 : Int} {x2 : Int} (hm : WX10 G m) (hT : (∀ a j, jRg (G.2.1 a).1 (I a j)) → jIn x1 → jIn x2 → (0 ≤ x1 ∧ x1 < 6 ∧ 0 ≤ x2 ∧ x2 < 6 ∧ (0 : Int) ≤ 0 ∧ (0 : Int) < 3) ∧ (0 ≤ x1 ∧ x1 < 6 ∧ 0 ≤ x2 ∧ x2 < 6 ∧ (0 : Int) ≤ 1 ∧ (1 : Int) < 3) ∧ ((¬ (I (m + 1) (536 + 40 * x1 + 3 * x2 + 0)) = 4 → jOV E (jA m) kX10_writePart 62 [VR m, VI x1, VI x2, VI (I (m + 1) (536 + 40 * x1 + 3 * x2 + 0)), VI (I (m + 1) (536 + 40 * x1 + 3 * x2 + 1)), VN, VN, VN] G I q) ∧ ((I (m + 1) (536 + 40 * x1 + 3 * x2 + 0)) = 4 → jOV E (jA m) kX10_writePart 25 [VR m, VI x1, VI x2, VI (I (m + 1) (536 + 40 * x1 + 3 * x2 + 0)), VI (I (m + 1) (536 + 40 * x1 + 3 * x2 + 1)), VI 0, VN, VN] G I q))) : jRV E (jA m) kX10_writePart [VR m, VI x1, VI x2] G I q := jRun.of mt_X10_writePart.2.2.2 5 rfl (fun _ => st_X10_writePart_0 hm hT I (fun _ _ => rfl))
set_option maxRecDepth 20000 in
theorem st_X10_layOut_15 {E : jE} {G : jG} {I : jM} {q : jM → Prop} {m : Nat} {x1 : Int} {x2 : Int} {x3 : Int} {x4 : Int} (hm : WX10 G m) (hT : (∀ a j, jRg (G.2.1 a).1 (I a j)) → jIn x1 → jIn x2 → jIn x3 → jIn x4 → (0 ≤ 514 + 40 * x1 + 3 ∧ 514 + 40 * x1 + 3 < 22094) ∧ (((I (m + 1) (514 + 40 * x1 + 3)) ≤ x4 → q I) ∧ (¬ (I (m + 1) (514 + 40 * x1 + 3)) ≤ x4 → ((x3 = 0 → q I) ∧ (¬ x3 = 0 → jRV E (jA m) kX10_writePart [VR m, VI x1, VI x4] G I (fun I3 => jIn (x4 + 1) ∧ jOV E (jA m) kX10_layOut 15 [VR m, VI x1, VI x2, VI x3, VI (x4 + 1)] G I3 q)))))) : jOV E (jA m) kX10_layOut 15 [VR m, VI x1, VI x2, VI x3, VI x4] G I q := by
  intro I0 hF
  refine jOk_mem (fun hI => ?_)
  refine jOk_in (i := 1) rfl (fun hx1 => ?_)
  refine jOk_in (i := 2) rfl (fun hx2 => ?_)
  refine jOk_in (i := 3) rfl (fun hx3 => ?_)
  refine jOk_in (i := 4) rfl (fun hx4 => ?_)
  replace hT := hT hI hx1 hx2 hx3 hx4
  refine r_iload dX10_layOut_15 (i := 4) rfl ?_
  refine r_aload_n dX10_layOut_17 rfl (i := 0) rfl ?_
  refine r_iload_n dX10_layOut_18 rfl (i := 1) rfl ?_
  refine r_iconst (n := 3) dX10_layOut_19 ?_
  obtain ⟨hc2, hT⟩ := hT
  refine rr_pVI (A := (jA m)) (v := I (m + 1) (514 + 40 * x1 + 3)) (a := m) (as := [VI x1, VI 3]) (st := [VI x4]) dX10_layOut_20 mt_X10_get ml_X10_127 mi_X10_get rm_X10_layOut_X10_get jz_X10_get ⟨Nat.zero_le _, Nat.zero_le _⟩ (Nat.le_of_ble_eq_true rfl) (wX10_l hm) (wX10_c hm) (jasI hx1 (jasI ⟨by decide, by decide⟩ jas0)) ((sp_X10_get hm) hc2) (fun hc1 => ?_)
  refine r_icmp_ge (tgt := 43) dX10_layOut_23 rfl hx4 hc1 (fun hcc => ?_) (fun hcc => ?_)
  · replace hT := hT.1 hcc
    exact r_vret dX10_layOut_43 rfl ⟨Nat.zero_le _, Nat.zero_le _⟩ ⟨rfl, rfl, hF, hT⟩
  · replace hT := hT.2 hcc
    refine r_iload_n dX10_layOut_26 rfl (i := 3) rfl ?_
    refine r_if_eq (tgt := 43) dX10_layOut_27 rfl hx3 (fun hcc => ?_) (fun hcc => ?_)
    · replace hT := hT.1 hcc
      exact r_vret dX10_layOut_43 rfl ⟨Nat.zero_le _, Nat.zero_le _⟩ ⟨rfl, rfl, hF, hT⟩
    · replace hT := hT.2 hcc
      refine r_aload_n dX10_layOut_30 rfl (i := 0) rfl ?_
      refine r_iload_n dX10_layOut_31 rfl (i := 1) rfl ?_
      refine r_iload dX10_layOut_32 (i := 4) rfl ?_
      refine rr_cVV (a := m) (as := [VI x1, VI x4]) (st := []) dX10_layOut_34 mt_X10_writePart ml_X10_165 mi_X10_writePart rm_X10_layOut_X10_writePart jz_X10_writePart ⟨Nat.zero_le _, Nat.zero_le _⟩ (Nat.le_of_ble_eq_true rfl) (wX10_l hm) (wX10_c hm) (jasI hx1 (jasI hx4 jas0)) hT (fun I3 hFI3 hT => ?_)
      replace hFI3 := jFr_tr hF hFI3
      refine jOk_mem (fun hI3 => ?_)
      obtain ⟨hc4, hT⟩ := hT
      refine rr_iinc (i := 4) (ls' := [VR m, VI x1, VI x2, VI x3, VI (x4 + 1)]) dX10_layOut_37 rfl (Nat.le_of_ble_eq_true rfl) rfl rfl hc4 ?_
      refine r_goto (tgt := 15) dX10_layOut_40 rfl ?_
      exact hT I0 hFI3
set_option maxRecDepth 20000 in
theorem st_X10_layOut_0 {E : jE} {G : jG} {I : jM} {q : jM → Prop} {m : Nat} {x1 : Int} {x2 : Int} (hm : WX10 G m) (hT : (∀ a j, jRg (G.2.1 a).1 (I a j)) → jIn x1 → jIn x2 → jRI E (jA m) kX10_fitsNow [VR m, VI x1, VI x2] G I (fun r2 I1 => (∀ M4, M4 = jup I1 m 7 0 → jOV E (jA m) kX10_layOut 15 [VR m, VI x1, VI x2, VI r2, VI 0] G M4 q))) : jOV E (jA m) kX10_layOut 0 [VR m, VI x1, VI x2, VN, VN] G I q := by
  intro I0 hF
  refine jOk_mem (fun hI => ?_)
  refine jOk_in (i := 1) rfl (fun hx1 => ?_)
  refine jOk_in (i := 2) rfl (fun hx2 => ?_)
  replace hT := hT hI hx1 hx2
  refine r_aload_n dX10_layOut_0 rfl (i := 0) rfl ?_
  refine r_iload_n dX10_layOut_1 rfl (i := 1) rfl ?_
  refine r_iload_n dX10_layOut_2 rfl (i := 2) rfl ?_
  refine rr_cVI (a := m) (as := [VI x1, VI x2]) (st := []) dX10_layOut_3 mt_X10_fitsNow ml_X10_162 mi_X10_fitsNow rm_X10_layOut_X10_fitsNow jz_X10_fitsNow ⟨Nat.zero_le _, Nat.zero_le _⟩ (Nat.le_of_ble_eq_true rfl) (wX10_l hm) (wX10_c hm) (jasI hx1 (jasI hx2 jas0)) hT (fun r2 I1 hc3 hFI1 hT => ?_)
  replace hFI1 := jFr_tr hF hFI1
  refine jOk_mem (fun hI1 => ?_)
  refine rr_istore_n (i := 3) (ls' := [VR m, VI x1, VI x2, VI r2, VN]) dX10_layOut_6 rfl (Nat.le_of_ble_eq_true rfl) rfl rfl hc3 ?_
  refine r_aload_n dX10_layOut_7 rfl (i := 0) rfl ?_
  refine r_iconst (n := 0) dX10_layOut_8 ?_
  refine rr_putI (jj := 7) dX10_layOut_9 fp_X10_148 rfl rfl (wX10_l hm) (wX10_s hm) ⟨by decide, by decide⟩ (fun M4 eM4 => ?_)
  have hFM4 := jFr_up hFI1 eM4 (wX10_f hm 0 (by decide))
  replace hT := hT M4 eM4
  refine jOk_mem (fun hIM4 => ?_)
  refine r_iconst (n := 0) dX10_layOut_12 ?_
  refine rr_istore (i := 4) (ls' := [VR m, VI x1, VI x2, VI r2, VI 0]) dX10_layOut_13 (Nat.le_of_ble_eq_true rfl) rfl rfl ⟨by decide, by decide⟩ ?_
  exact hT I0 hFM4
theorem en_X10_layOut {E : jE} {G : jG} {I : jM} {q : jM → Prop} {m : Nat} {x1 : Int} {x2 : Int} (hm : WX10 G m) (hT : (∀ a j, jRg (G.2.1 a).1 (I a j)) → jIn x1 → jIn x2 → jRI E (jA m) kX10_fitsNow [VR m, VI x1, VI x2] G I (fun r2 I1 => (∀ M4, M4 = jup I1 m 7 0 → jOV E (jA m) kX10_layOut 15 [VR m, VI x1, VI x2, VI r2, VI 0] G M4 q))) : jRV E (jA m) kX10_layOut [VR m, VI x1, VI x2] G I q := jRun.of mt_X10_layOut.2.2.2 2 rfl (fun _ => st_X10_layOut_0 hm hT I (fun _ _ => rfl))
section RP
variable {E : jE} {G : jG} {m : Nat} {S : Int → Int} {n : Int} {b : Int → Int} {I : jM}
/-- the sorts of a text's bytes: figures -/
theorem srt_fig {c : Int} (h : srt c = 1) : 48 ≤ c ∧ c ≤ 57 := by
  unfold srt at h
  split at h
  · omega
  · split at h
    · assumption
    · split at h <;> omega
theorem sp_X10_writePart (hm : WX10 G m) (h : TO m S n b I) {r t p : Int} (hr : 0 ≤ r ∧ r < 6) (hw : RW1 S r) (hp : 0 ≤ p ∧ p < S (517 + 40 * r)) (t0 : 0 ≤ t) (hF : Fit S n b r t) (hB : Bd S r t (S (516 + 40 * r)) m I) {L : List Int} (hO : OI m I L) (hl : L.length + 300 ≤ 2000) : jRV E (jA m) kX10_writePart [VR m, VI r, VI p] G I (fun I' => OI m I' (L ++ pout S b r t p) ∧ WO m I I' ∧ (pout S b r t p).length ≤ 300) := by
  have hS := h.1
  have hpw := hw.2.2.2.2.2.1 p hp.1 hp.2
  have hp6 := hw.2.2.2.1
  have hne := hw.2.2.1
  obtain ⟨w0, w1, w2, w3, w4⟩ := hpw
  have w0' : 0 ≤ S (536 + 40 * r + 3 * p + 0) := w0
  have w1' : S (536 + 40 * r + 3 * p + 0) ≤ 7 := w1
  have w2' : S (536 + 40 * r + 3 * p + 0) ≠ 3 := w2
  -- quoted bytes
  have loop1 : ∀ (d : Nat) (x : Int) (I1 : jM), S (536 + 40 * r + 3 * p + 0) = 4 → 0 ≤ x → x + d = S (536 + 40 * r + 3 * p + 2) → TO m S n b I1 → WO m I I1 → OI m I1 (L ++ stretch (fun k => S (754 + S (536 + 40 * r + 3 * p + 1) + k)) x) → jOV E (jA m) kX10_writePart 25 [VR m, VI r, VI p, VI (S (536 + 40 * r + 3 * p + 0)), VI (S (536 + 40 * r + 3 * p + 1)), VI x, VN, VN] G I1 (fun I' => OI m I' (L ++ pout S b r t p) ∧ WO m I I' ∧ (pout S b r t p).length ≤ 300) := by
    intro d
    induction d with
    | zero =>
      intro x I1 h4 x0 x1 hT1 hW1 hO1
      refine st_X10_writePart_25 hm (fun _ _ _ _ _ _ => ⟨⟨hr.1, hr.2, hp.1, by omega, by decide, by decide⟩, fun _ => ?_, fun q => ?_⟩)
      · have ex : x = S (536 + 40 * r + 3 * p + 2) := by omega
        have ep : pout S b r t p = stretch (fun k => S (754 + S (536 + 40 * r + 3 * p + 1) + k)) (S (536 + 40 * r + 3 * p + 2)) := by unfold pout; rw [if_pos h4]
        rw [ep, ← ex]
        refine ⟨hO1, hW1, ?_⟩
        rw [stretch_len]
        have := w3 h4
        omega
      · rw [hT1.1] at q
        exact absurd (by show S (536 + 40 * r + 3 * p + 2) ≤ x; omega) q
    | succ d ih =>
      intro x I1 h4 x0 x1 hT1 hW1 hO1
      have w3' := w3 h4
      refine st_X10_writePart_25 hm (fun _ _ _ _ _ _ => ⟨⟨hr.1, hr.2, hp.1, by omega, by decide, by decide⟩, fun q => ?_, fun _ => ⟨⟨by omega, by omega⟩, ?_⟩⟩)
      · rw [hT1.1] at q
        have q' : S (536 + 40 * r + 3 * p + 2) ≤ x := q
        omega
      · have ls := stretch_len (fun k => S (754 + S (536 + 40 * r + 3 * p + 1) + k)) x
        refine (sp_X10_write hm hO1 (by rw [List.length_append, ls]; omega)).mono (fun I4 _ h4' => ⟨⟨by omega, by omega⟩, ?_⟩)
        refine ih (x + 1) I4 h4 (by omega) (by omega) (hT1.wo h4'.2) (hW1.trans h4'.2) ?_
        rw [stretch_succ _ x0, ← List.append_assoc]
        have e := h4'.1
        rw [hT1.1] at e
        exact e
  refine en_X10_writePart hm (fun _ _ _ => ?_)
  rw [hS]
  refine ⟨⟨hr.1, hr.2, hp.1, by omega, by decide, by decide⟩, ⟨hr.1, hr.2, hp.1, by omega, by decide, by decide⟩, fun h4 => ?_, fun h4 => ?_⟩
  · -- a name
    obtain ⟨v0, v1, e, e0, e1, e2⟩ := w4 h4
    have hK := isK_of e0 e1 e2
    obtain ⟨k0, k1, k2, k3⟩ := hK
    have hkr : 0 ≤ 4 * pbase (S (536 + 40 * r + 3 * p + 0)) + S (536 + 40 * r + 3 * p + 1) ∧ 4 * pbase (S (536 + 40 * r + 3 * p + 0)) + S (536 + 40 * r + 3 * p + 1) < 12 := by
      have : 0 ≤ pbase (S (536 + 40 * r + 3 * p + 0)) ∧ pbase (S (536 + 40 * r + 3 * p + 0)) ≤ 2 := by
        clear hB hF
        unfold pbase
        split
        · omega
        · split
          · omega
          · omega
      omega
    have hbnd := (hB _ hkr.1 hkr.2).2 (fk S r (4 * pbase (S (536 + 40 * r + 3 * p + 0)) + S (536 + 40 * r + 3 * p + 1))) k0 k1 k2 k3
    generalize hu : t + fk S r (4 * pbase (S (536 + 40 * r + 3 * p + 0)) + S (536 + 40 * r + 3 * p + 1)) = u at hbnd
    have u0 : 0 ≤ u := by omega
    have u1 : u < n := by have := hF.1; omega
    have bu := h.bd u0 u1
    have eu := h.2.2.2.2 u u0 u1
    -- the token's sort is the element's
    have hsrt : srt (S (10 + b u)) = pbase (S (536 + 40 * r + 3 * p + 0)) := by
      have f1 := hF.2 (fk S r (4 * pbase (S (536 + 40 * r + 3 * p + 0)) + S (536 + 40 * r + 3 * p + 1))) k0 k1
      rw [hu.symm]
      unfold key at k2
      split at k2
      · rename_i hle
        have ew := hw.2.2.2.2.1 _ k0 k1
        have ew2 := ew.2.2.1 hle
        have f2 := (f1.2 (by omega)).1
        rw [f2]
        omega
      · omega
    have hnum : pbase (S (536 + 40 * r + 3 * p + 0)) = 1 → ∀ k, 0 ≤ k → k < b (u + 1) - b u → 48 ≤ S (10 + (b u + k)) ∧ S (10 + (b u + k)) ≤ 57 := by
      intro hb1 k g0 g1
      have g := (h.2.2.1.2.2.2 u u0 u1).2.2.1 (b u + k) (by omega) (by omega)
      have g' : srt (S (10 + (b u + k))) = srt (S (10 + b u)) := g
      exact srt_fig (by rw [g', hsrt, hb1])
    -- the bytes one by one
    have loop2 : ∀ (d : Nat) (x : Int) (I1 : jM) (f : Int → Int), (∀ k, 0 ≤ k → k < b (u + 1) - b u → f k = if S (536 + 40 * r + 3 * p + 0) = 7 then S (10 + (b u + (b (u + 1) - b u - 1 - k))) else S (10 + (b u + k))) → 0 ≤ x → x + d = b (u + 1) - b u → TO m S n b I1 → WO m I I1 → OI m I1 (L ++ stretch f x) → jOV E (jA m) kX10_writePart 141 [VR m, VI r, VI p, VI (S (536 + 40 * r + 3 * p + 0)), VI (S (536 + 40 * r + 3 * p + 1)), VI u, VI (b (u + 1) - b u), VI x] G I1 (fun I' => OI m I' (L ++ stretch f (b (u + 1) - b u)) ∧ WO m I I') := by
      intro d
      induction d with
      | zero =>
        intro x I1 f hf x0 x1 hT1 hW1 hO1
        have ex : x = b (u + 1) - b u := by omega
        refine st_X10_writePart_141 hm (fun _ _ _ _ _ _ _ _ => ⟨fun _ => ⟨by rw [← ex]; exact hO1, hW1⟩, fun q => by omega⟩)
      | succ d ih =>
        intro x I1 f hf x0 x1 hT1 hW1 hO1
        have ls := stretch_len f x
        have eu1 := hT1.2.2.2.2 u u0 u1
        refine st_X10_writePart_141 hm (fun _ _ _ _ _ _ _ _ => ⟨fun q => by omega, fun _ => ⟨⟨u0, by omega⟩, fun h7 => ?_, fun h7 => ?_⟩⟩)
        · rw [eu1.1, hT1.1]
          refine ⟨⟨by omega, by omega⟩, ⟨by omega, by omega⟩, ?_⟩
          refine (sp_X10_write hm hO1 (by rw [List.length_append, ls]; omega)).mono (fun I4 _ h5 => ⟨⟨by omega, by omega⟩, ?_⟩)
          refine ih (x + 1) I4 f hf (by omega) (by omega) (hT1.wo h5.2) (hW1.trans h5.2) ?_
          rw [stretch_succ _ x0, ← List.append_assoc, hf x x0 (by omega), if_neg h7]
          exact h5.1
        · rw [eu1.1, hT1.1]
          refine ⟨⟨by omega, by omega⟩, ⟨by omega, by omega⟩, ?_⟩
          refine (sp_X10_write hm hO1 (by rw [List.length_append, ls]; omega)).mono (fun I4 _ h5 => ⟨⟨by omega, by omega⟩, ?_⟩)
          refine ih (x + 1) I4 f hf (by omega) (by omega) (hT1.wo h5.2) (hW1.trans h5.2) ?_
          rw [stretch_succ _ x0, ← List.append_assoc, hf x x0 (by omega), if_pos h7]
          exact h5.1
    have hOz : ∀ f : Int → Int, OI m I (L ++ stretch f 0) := fun f => by rw [stretch_zero, List.append_nil]; exact hO
    have l138 : ¬ ((S (536 + 40 * r + 3 * p + 0) = 5 ∨ S (536 + 40 * r + 3 * p + 0) = 6) ∧ b (u + 1) - b u ≤ 9) → jOV E (jA m) kX10_writePart 138 [VR m, VI r, VI p, VI (S (536 + 40 * r + 3 * p + 0)), VI (S (536 + 40 * r + 3 * p + 1)), VI u, VI (b (u + 1) - b u), VN] G I (fun I' => OI m I' (L ++ pout S b r t p) ∧ WO m I I' ∧ (pout S b r t p).length ≤ 300) := by
      intro hno
      refine st_X10_writePart_138 hm (fun _ _ _ _ _ _ _ => ?_)
      by_cases h7 : S (536 + 40 * r + 3 * p + 0) = 7
      · have ep : pout S b r t p = stretch (fun k => S (10 + (b u + (b (u + 1) - b u - 1 - k)))) (b (u + 1) - b u) := by
          unfold pout
          rw [if_neg h4]
          simp only [hu]
          rw [if_neg hno, if_pos h7]
        rw [ep]
        refine (loop2 (b (u + 1) - b u).toNat 0 I (fun k => S (10 + (b u + (b (u + 1) - b u - 1 - k)))) (fun k _ _ => by rw [if_pos h7]) (by omega) (by omega) h WO.rfl (hOz _)).mono (fun I' g => ⟨g.1, g.2, ?_⟩)
        rw [stretch_len]
        omega
      · have ep : pout S b r t p = stretch (fun k => S (10 + (b u + k))) (b (u + 1) - b u) := by
          unfold pout
          rw [if_neg h4]
          simp only [hu]
          rw [if_neg hno, if_neg h7]
        rw [ep]
        refine (loop2 (b (u + 1) - b u).toNat 0 I (fun k => S (10 + (b u + k))) (fun k _ _ => by rw [if_neg h7]) (by omega) (by omega) h WO.rfl (hOz _)).mono (fun I' g => ⟨g.1, g.2, ?_⟩)
        rw [stretch_len]
        omega
    have l114 : (S (536 + 40 * r + 3 * p + 0) = 5 ∨ S (536 + 40 * r + 3 * p + 0) = 6) → jOV E (jA m) kX10_writePart 114 [VR m, VI r, VI p, VI (S (536 + 40 * r + 3 * p + 0)), VI (S (536 + 40 * r + 3 * p + 1)), VI u, VI (b (u + 1) - b u), VN] G I (fun I' => OI m I' (L ++ pout S b r t p) ∧ WO m I I' ∧ (pout S b r t p).length ≤ 300) := by
      intro h56
      have hb1 : pbase (S (536 + 40 * r + 3 * p + 0)) = 1 := by
        unfold pbase
        rw [if_neg (by omega), if_pos (by omega)]
      refine st_X10_writePart_114 hm (fun _ _ _ _ _ _ _ => ⟨fun q => l138 (fun g => by omega), fun q => ?_⟩)
      have hle : b (u + 1) - b u ≤ 9 := by omega
      have ep : pout S b r t p = num (max 0 (nv (fun k => S (10 + (b u + k))) (b (u + 1) - b u).toNat + (if S (536 + 40 * r + 3 * p + 0) = 5 then 1 else -1))) := by
        unfold pout
        rw [if_neg h4]
        simp only [hu]
        rw [if_pos ⟨h56, hle⟩]
      refine ⟨fun h5 => ?_, fun h5 => ?_⟩
      · rw [ep, if_neg h5]
        refine (sp_X10_writeNumber hm h u0 u1 hle (hnum hb1) (Or.inr rfl) hO (by omega)).mono (fun I' _ g => ⟨g.1, g.2, ?_⟩)
        have := num_len (max 0 (nv (fun k => S (10 + (b u + k))) (b (u + 1) - b u).toNat + -1))
        omega
      · rw [ep, if_pos h5]
        refine (sp_X10_writeNumber hm h u0 u1 hle (hnum hb1) (Or.inl rfl) hO (by omega)).mono (fun I' _ g => ⟨g.1, g.2, ?_⟩)
        have := num_len (max 0 (nv (fun k => S (10 + (b u + k))) (b (u + 1) - b u).toNat + 1))
        omega
    have l94 : jOV E (jA m) kX10_writePart 94 [VR m, VI r, VI p, VI (S (536 + 40 * r + 3 * p + 0)), VI (S (536 + 40 * r + 3 * p + 1)), VI u, VN, VN] G I (fun I' => OI m I' (L ++ pout S b r t p) ∧ WO m I I' ∧ (pout S b r t p).length ≤ 300) := by
      refine st_X10_writePart_94 hm (fun _ _ _ _ _ _ => ⟨⟨u0, by omega⟩, ?_⟩)
      rw [eu.2]
      refine ⟨fun h5 => l114 (Or.inl h5), fun h5 => ⟨fun h6 => l138 (fun g => by omega), fun h6 => l114 (Or.inr (by omega))⟩⟩
    refine st_X10_writePart_62 hm (fun _ _ _ _ _ => ⟨fun h7 => ⟨fun hle => ?_, fun hle => ?_⟩, fun h7 => ?_⟩)
    · have hb : pbase (S (536 + 40 * r + 3 * p + 0)) = S (536 + 40 * r + 3 * p + 0) := by unfold pbase; rw [if_neg h7, if_neg (by omega)]
      rw [hb] at hbnd hkr
      refine ⟨⟨hkr.1, hkr.2⟩, ?_⟩
      rw [hbnd]
      exact l94
    · have hb : pbase (S (536 + 40 * r + 3 * p + 0)) = 1 := by unfold pbase; rw [if_neg h7, if_pos (by omega)]
      rw [hb] at hbnd hkr
      refine ⟨⟨by omega, by omega⟩, ?_⟩
      have e4 : I (m + 5) (4 + S (536 + 40 * r + 3 * p + 1)) = u := by
        rw [← hbnd]
        congr 1
      rw [e4]
      exact l94
    · have hb : pbase (S (536 + 40 * r + 3 * p + 0)) = 0 := by unfold pbase; rw [if_pos h7]
      rw [hb] at hbnd hkr
      refine ⟨⟨by omega, by omega⟩, ?_⟩
      have e4 : I (m + 5) (0 + S (536 + 40 * r + 3 * p + 1)) = u := by
        rw [← hbnd]
        congr 1
      rw [e4]
      exact l94
  · exact loop1 (S (536 + 40 * r + 3 * p + 2)).toNat 0 I h4 (by omega) (by have := w3 h4; omega) h WO.rfl (by rw [stretch_zero, List.append_nil]; exact hO)
end RP
