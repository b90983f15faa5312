/-! ===== the class: a finder looks ===== -/
theorem isff.snoc {F : List (Int × Int)} {t v : Int} {x : Int × Int} (h : isff F t v) (hx : t ≤ x.2) : isff (F ++ [x]) t v := by
  have hl : (F ++ [x]).length = F.length + 1 := by simp
  refine ⟨by rw [hl]; have := h.1; omega, fun i i0 i1 => ?_⟩
  rw [hl] at i1
  by_cases q : i < (F.length : Int)
  · have e : fa (F ++ [x]) i = fa F i := gd_left (by omega)
    rw [e]
    exact h.2 i i0 q
  · have e : fa (F ++ [x]) i = x := by
      unfold fa
      rw [gd_right (by omega), show i.toNat - F.length = 0 by omega]
      rfl
    rw [e]
    have := h.1
    omega
set_option maxRecDepth 20000 in
theorem st_X1_look_58 {E : jE} {G : jG} {I : jM} {q : jM → Prop} {m : Nat} {p1 : Nat} {p2 : Nat} {x3 : Int} {x4 : Int} {x5 : Int} (hm : WX1 G m) (hp1 : WX4 G p1) (hp2 : WX7 G p2) (hT : (∀ a j, jRg (G.2.1 a).1 (I a j)) → jIn x3 → jIn x4 → jIn x5 → (∃ b1 : Nat, I m 1 = (b1 : Int) ∧ WX6 G b1 ∧ (((I b1 1) ≤ x5 → jIn (x4 + 1) ∧ jOV E jB kX1_look 32 [VR m, VR p1, VR p2, VI x3, VI (x4 + 1), VN, VN] G I q) ∧ (¬ (I b1 1) ≤ x5 → (∃ b5 : Nat, I m 1 = (b5 : Int) ∧ WX6 G b5 ∧ ((0 : Int) ≤ x5 ∧ (x5 : Int) < 6) ∧ ((¬ (jand (jshr x3 (I (b5 + 5) x5)) 1) = 1 → jIn (x5 + 1) ∧ jOV E jB kX1_look 58 [VR m, VR p1, VR p2, VI x3, VI x4, VI (x5 + 1), VN] G I q) ∧ ((jand (jshr x3 (I (b5 + 5) x5)) 1) = 1 → jRI E jB kX1_fitsFrom [VR m, VI (I (b5 + 5) x5), VI x4] G I (fun r11 I10 => ((r11 = 0 → jIn (x5 + 1) ∧ jOV E jB kX1_look 58 [VR m, VR p1, VR p2, VI x3, VI x4, VI (x5 + 1), VN] G I10 q) ∧ (¬ r11 = 0 → jRV E jB kX1_consider [VR m, VI (I (b5 + 5) x5), VI x4, VI (I10 p2 3)] G I10 (fun I14 => jIn (x5 + 1) ∧ jOV E jB kX1_look 58 [VR m, VR p1, VR p2, VI x3, VI x4, VI (x5 + 1), VN] G I14 q))))))))))) : jOV E jB kX1_look 58 [VR m, VR p1, VR p2, VI x3, VI x4, VI x5, VN] G I q := by
  intro I0 hF
  refine jOk_mem (fun hI => ?_)
  refine jOk_in (i := 3) rfl (fun hx3 => ?_)
  refine jOk_in (i := 4) rfl (fun hx4 => ?_)
  refine jOk_in (i := 5) rfl (fun hx5 => ?_)
  replace hT := hT hI hx3 hx4 hx5
  refine r_iload dX1_look_58 (i := 5) rfl ?_
  refine r_aload_n dX1_look_60 rfl (i := 0) rfl ?_
  obtain ⟨b1, hc2, hc3, hT⟩ := hT
  refine rr_getM (b := b1) dX1_look_61 fg_X1_61 rfl rfl (wX1_l hm) (wX1_s hm) hc2 ?_
  refine rr_getI (v := I b1 1) dX1_look_64 fg_X1_71 rfl (wX6_l hc3) (wX6_s hc3) rfl ?_
  refine r_icmp_ge (tgt := 121) dX1_look_67 rfl hx5 (hI _ _).inR (fun hcc => ?_) (fun hcc => ?_)
  · replace hT := hT.1 hcc
    obtain ⟨hc4, hT⟩ := hT
    refine rr_iinc (i := 4) (ls' := [VR m, VR p1, VR p2, VI x3, VI (x4 + 1), VI x5, VN]) dX1_look_121 rfl (Nat.le_of_ble_eq_true rfl) rfl rfl hc4 ?_
    refine r_goto (tgt := 32) dX1_look_124 rfl ?_
    exact jOk_le (ls' := [VR m, VR p1, VR p2, VI x3, VI (x4 + 1), VN, VN]) ⟨Or.inr rfl, Or.inr rfl, Or.inr rfl, Or.inr rfl, Or.inr rfl, Or.inl rfl, Or.inl rfl, trivial⟩ (hT I0 hF)
  · replace hT := hT.2 hcc
    refine r_aload_n dX1_look_70 rfl (i := 0) rfl ?_
    obtain ⟨b5, hc6, hc7, hT⟩ := hT
    refine rr_getM (b := b5) dX1_look_71 fg_X1_61 rfl rfl (wX1_l hm) (wX1_s hm) hc6 ?_
    refine rr_getR (b := (b5 + 5)) dX1_look_74 fg_X1_74 rfl rfl (wX6_l hc7) (wX6_s hc7) (wX6_r5 hc7) ?_
    refine r_iload dX1_look_77 (i := 5) rfl ?_
    obtain ⟨hc8, hT⟩ := hT
    refine rr_iaload (v := I (b5 + 5) x5) dX1_look_79 (wX6_l5 hc7) (wX6_a5 hc7) (by decide) hc8 rfl ?_
    refine rr_istore (i := 6) (ls' := [VR m, VR p1, VR p2, VI x3, VI x4, VI x5, VI (I (b5 + 5) x5)]) dX1_look_80 (Nat.le_of_ble_eq_true rfl) rfl rfl (hI _ _).inR ?_
    refine r_iload_n dX1_look_82 rfl (i := 3) rfl ?_
    refine r_iload dX1_look_83 (i := 6) rfl ?_
    refine r_ishr dX1_look_85 ?_
    refine r_iconst (n := 1) dX1_look_86 ?_
    refine r_iand dX1_look_87 ?_
    refine r_iconst (n := 1) dX1_look_88 ?_
    refine r_icmp_ne (tgt := 115) dX1_look_89 rfl (j32_in _) ⟨by decide, by decide⟩ (fun hcc => ?_) (fun hcc => ?_)
    · replace hT := hT.1 hcc
      obtain ⟨hc9, hT⟩ := hT
      refine rr_iinc (i := 5) (ls' := [VR m, VR p1, VR p2, VI x3, VI x4, VI (x5 + 1), VI (I (b5 + 5) x5)]) dX1_look_115 rfl (Nat.le_of_ble_eq_true rfl) rfl rfl hc9 ?_
      refine r_goto (tgt := 58) dX1_look_118 rfl ?_
      exact jOk_le (ls' := [VR m, VR p1, VR p2, VI x3, VI x4, VI (x5 + 1), VN]) ⟨Or.inr rfl, Or.inr rfl, Or.inr rfl, Or.inr rfl, Or.inr rfl, Or.inr rfl, Or.inl rfl, trivial⟩ (hT I0 hF)
    · replace hT := hT.2 hcc
      refine r_aload_n dX1_look_92 rfl (i := 0) rfl ?_
      refine r_iload dX1_look_93 (i := 6) rfl ?_
      refine r_iload dX1_look_95 (i := 4) rfl ?_
      refine rr_cVI (a := m) (as := [VI (I (b5 + 5) x5), VI x4]) (st := []) dX1_look_97 mt_X1_fitsFrom ml_X1_77 mi_X1_fitsFrom rm_X1_look_X1_fitsFrom jz_X1_fitsFrom ⟨Nat.zero_le _, Nat.zero_le _⟩ (Nat.le_of_ble_eq_true rfl) (wX1_l hm) (wX1_c hm) (jasI (hI _ _).inR (jasI hx4 jas0)) hT (fun r11 I10 hc12 hFI10 hT => ?_)
      replace hFI10 := jFr_tr hF hFI10
      refine jOk_mem (fun hI10 => ?_)
      refine r_if_eq (tgt := 115) dX1_look_100 rfl hc12 (fun hcc => ?_) (fun hcc => ?_)
      · replace hT := hT.1 hcc
        obtain ⟨hc13, hT⟩ := hT
        refine rr_iinc (i := 5) (ls' := [VR m, VR p1, VR p2, VI x3, VI x4, VI (x5 + 1), VI (I (b5 + 5) x5)]) dX1_look_115 rfl (Nat.le_of_ble_eq_true rfl) rfl rfl hc13 ?_
        refine r_goto (tgt := 58) dX1_look_118 rfl ?_
        exact jOk_le (ls' := [VR m, VR p1, VR p2, VI x3, VI x4, VI (x5 + 1), VN]) ⟨Or.inr rfl, Or.inr rfl, Or.inr rfl, Or.inr rfl, Or.inr rfl, Or.inr rfl, Or.inl rfl, trivial⟩ (hT I0 hFI10)
      · replace hT := hT.2 hcc
        refine r_aload_n dX1_look_103 rfl (i := 0) rfl ?_
        refine r_iload dX1_look_104 (i := 6) rfl ?_
        refine r_iload dX1_look_106 (i := 4) rfl ?_
        refine r_aload_n dX1_look_108 rfl (i := 2) rfl ?_
        refine rr_getI (v := I10 p2 3) dX1_look_109 fg_X1_81 rfl (wX7_l hp2) (wX7_s hp2) rfl ?_
        refine rr_cVV (a := m) (as := [VI (I (b5 + 5) x5), VI x4, VI (I10 p2 3)]) (st := []) dX1_look_112 mt_X1_consider ml_X1_84 mi_X1_consider rm_X1_look_X1_consider jz_X1_consider ⟨Nat.zero_le _, Nat.zero_le _⟩ (Nat.le_of_ble_eq_true rfl) (wX1_l hm) (wX1_c hm) (jasI (hI _ _).inR (jasI hx4 (jasI (hI10 _ _).inR jas0))) hT (fun I14 hFI14 hT => ?_)
        replace hFI14 := jFr_tr hFI10 hFI14
        refine jOk_mem (fun hI14 => ?_)
        obtain ⟨hc15, hT⟩ := hT
        refine rr_iinc (i := 5) (ls' := [VR m, VR p1, VR p2, VI x3, VI x4, VI (x5 + 1), VI (I (b5 + 5) x5)]) dX1_look_115 rfl (Nat.le_of_ble_eq_true rfl) rfl rfl hc15 ?_
        refine r_goto (tgt := 58) dX1_look_118 rfl ?_
        exact jOk_le (ls' := [VR m, VR p1, VR p2, VI x3, VI x4, VI (x5 + 1), VN]) ⟨Or.inr rfl, Or.inr rfl, Or.inr rfl, Or.inr rfl, Or.inr rfl, Or.inr rfl, Or.inl rfl, trivial⟩ (hT I0 hFI14)
set_option maxRecDepth 20000 in
theorem st_X1_look_32 {E : jE} {G : jG} {I : jM} {q : jM → Prop} {m : Nat} {p1 : Nat} {p2 : Nat} {x3 : Int} {x4 : Int} (hm : WX1 G m) (hp1 : WX4 G p1) (hp2 : WX7 G p2) (hT : (∀ a j, jRg (G.2.1 a).1 (I a j)) → jIn x3 → jIn x4 → (((I (m + 1) 2) ≤ x4 → ((0 : Int) ≤ (I (m + 1) 2) ∧ ((I (m + 1) 2) : Int) < 201) ∧ (∀ M2, M2 = jup I (m + 11) (I (m + 1) 2) (I m 5) → jRV E jB kX1_markYielded [VR m, VR p2] G M2 (fun I3 => jRV E jB kX1_weigh [VR m, VI 1, VI 0] G I3 (fun I4 => jRV E jB kX1_pick [VR m, VI 1, VI 0] G I4 (fun I5 => (((I5 m 15) ≤ (I5 p2 4) → q I5) ∧ (¬ (I5 m 15) ≤ (I5 p2 4) → jRV E jB kX1_weigh [VR m, VI (I5 p2 4), VI 1] G I5 (fun I6 => jRV E jB kX1_pick [VR m, VI (I6 p2 4), VI 1] G I6 (fun I7 => q I7))))))))) ∧ (¬ (I (m + 1) 2) ≤ x4 → ((0 : Int) ≤ x4 ∧ (x4 : Int) < 201) ∧ (∀ M9, M9 = jup I (m + 11) x4 (I m 5) → jOV E jB kX1_look 58 [VR m, VR p1, VR p2, VI x3, VI x4, VI 0, VN] G M9 q)))) : jOV E jB kX1_look 32 [VR m, VR p1, VR p2, VI x3, VI x4, VN, VN] G I q := by
  intro I0 hF
  refine jOk_mem (fun hI => ?_)
  refine jOk_in (i := 3) rfl (fun hx3 => ?_)
  refine jOk_in (i := 4) rfl (fun hx4 => ?_)
  replace hT := hT hI hx3 hx4
  refine r_iload dX1_look_32 (i := 4) rfl ?_
  refine r_aload_n dX1_look_34 rfl (i := 0) rfl ?_
  refine rr_getR (b := (m + 1)) dX1_look_35 fg_X1_12 rfl rfl (wX1_l hm) (wX1_s hm) (wX1_r2 hm) ?_
  refine rr_getI (v := I (m + 1) 2) dX1_look_38 fg_X1_70 rfl (wX8_l (wX1_o2 hm)) (wX8_s (wX1_o2 hm)) rfl ?_
  refine r_icmp_ge (tgt := 127) dX1_look_41 rfl hx4 (hI _ _).inR (fun hcc => ?_) (fun hcc => ?_)
  · replace hT := hT.1 hcc
    refine r_aload_n dX1_look_127 rfl (i := 0) rfl ?_
    refine rr_getR (b := (m + 11)) dX1_look_128 fg_X1_41 rfl rfl (wX1_l hm) (wX1_s hm) (wX1_r12 hm) ?_
    refine r_aload_n dX1_look_131 rfl (i := 0) rfl ?_
    refine rr_getR (b := (m + 1)) dX1_look_132 fg_X1_12 rfl rfl (wX1_l hm) (wX1_s hm) (wX1_r2 hm) ?_
    refine rr_getI (v := I (m + 1) 2) dX1_look_135 fg_X1_70 rfl (wX8_l (wX1_o2 hm)) (wX8_s (wX1_o2 hm)) rfl ?_
    refine r_aload_n dX1_look_138 rfl (i := 0) rfl ?_
    refine rr_getI (v := I m 5) dX1_look_139 fg_X1_66 rfl (wX1_l hm) (wX1_s hm) rfl ?_
    obtain ⟨hc1, hT⟩ := hT
    refine rr_iastore dX1_look_142 (wX1_l12 hm) (wX1_a12 hm) (by decide) hc1 (hI _ _).inR (fun M2 eM2 => ?_)
    have hFM2 := jFr_up hF eM2 (wX1_f hm 11 (by decide))
    replace hT := hT M2 eM2
    refine jOk_mem (fun hIM2 => ?_)
    refine r_aload_n dX1_look_143 rfl (i := 0) rfl ?_
    refine r_aload_n dX1_look_144 rfl (i := 2) rfl ?_
    refine rr_cVV (a := m) (as := [VR p2]) (st := []) dX1_look_145 mt_X1_markYielded ml_X1_88 mi_X1_markYielded rm_X1_look_X1_markYielded jz_X1_markYielded ⟨Nat.zero_le _, Nat.zero_le _⟩ (Nat.le_of_ble_eq_true rfl) (wX1_l hm) (wX1_c hm) (jasR jas0) hT (fun I3 hFI3 hT => ?_)
    replace hFI3 := jFr_tr hFM2 hFI3
    refine jOk_mem (fun hI3 => ?_)
    refine r_aload_n dX1_look_148 rfl (i := 0) rfl ?_
    refine r_iconst (n := 1) dX1_look_149 ?_
    refine r_iconst (n := 0) dX1_look_150 ?_
    refine rr_cVV (a := m) (as := [VI 1, VI 0]) (st := []) dX1_look_151 mt_X1_weigh ml_X1_92 mi_X1_weigh rm_X1_look_X1_weigh jz_X1_weigh ⟨Nat.zero_le _, Nat.zero_le _⟩ (Nat.le_of_ble_eq_true rfl) (wX1_l hm) (wX1_c hm) (jasI ⟨by decide, by decide⟩ (jasI ⟨by decide, by decide⟩ jas0)) hT (fun I4 hFI4 hT => ?_)
    replace hFI4 := jFr_tr hFI3 hFI4
    refine jOk_mem (fun hI4 => ?_)
    refine r_aload_n dX1_look_154 rfl (i := 0) rfl ?_
    refine r_iconst (n := 1) dX1_look_155 ?_
    refine r_iconst (n := 0) dX1_look_156 ?_
    refine rr_cVV (a := m) (as := [VI 1, VI 0]) (st := []) dX1_look_157 mt_X1_pick ml_X1_96 mi_X1_pick rm_X1_look_X1_pick jz_X1_pick ⟨Nat.zero_le _, Nat.zero_le _⟩ (Nat.le_of_ble_eq_true rfl) (wX1_l hm) (wX1_c hm) (jasI ⟨by decide, by decide⟩ (jasI ⟨by decide, by decide⟩ jas0)) hT (fun I5 hFI5 hT => ?_)
    replace hFI5 := jFr_tr hFI4 hFI5
    refine jOk_mem (fun hI5 => ?_)
    refine r_aload_n dX1_look_160 rfl (i := 0) rfl ?_
    refine rr_getI (v := I5 m 15) dX1_look_161 fg_X1_99 rfl (wX1_l hm) (wX1_s hm) rfl ?_
    refine r_aload_n dX1_look_164 rfl (i := 2) rfl ?_
    refine rr_getI (v := I5 p2 4) dX1_look_165 fg_X1_102 rfl (wX7_l hp2) (wX7_s hp2) rfl ?_
    refine r_icmp_le (tgt := 189) dX1_look_168 rfl (hI5 _ _).inR (hI5 _ _).inR (fun hcc => ?_) (fun hcc => ?_)
    · replace hT := hT.1 hcc
      exact r_vret dX1_look_189 rfl ⟨Nat.zero_le _, Nat.zero_le _⟩ ⟨rfl, rfl, hFI5, hT⟩
    · replace hT := hT.2 hcc
      refine r_aload_n dX1_look_171 rfl (i := 0) rfl ?_
      refine r_aload_n dX1_look_172 rfl (i := 2) rfl ?_
      refine rr_getI (v := I5 p2 4) dX1_look_173 fg_X1_102 rfl (wX7_l hp2) (wX7_s hp2) rfl ?_
      refine r_iconst (n := 1) dX1_look_176 ?_
      refine rr_cVV (a := m) (as := [VI (I5 p2 4), VI 1]) (st := []) dX1_look_177 mt_X1_weigh ml_X1_92 mi_X1_weigh rm_X1_look_X1_weigh jz_X1_weigh ⟨Nat.zero_le _, Nat.zero_le _⟩ (Nat.le_of_ble_eq_true rfl) (wX1_l hm) (wX1_c hm) (jasI (hI5 _ _).inR (jasI ⟨by decide, by decide⟩ jas0)) hT (fun I6 hFI6 hT => ?_)
      replace hFI6 := jFr_tr hFI5 hFI6
      refine jOk_mem (fun hI6 => ?_)
      refine r_aload_n dX1_look_180 rfl (i := 0) rfl ?_
      refine r_aload_n dX1_look_181 rfl (i := 2) rfl ?_
      refine rr_getI (v := I6 p2 4) dX1_look_182 fg_X1_102 rfl (wX7_l hp2) (wX7_s hp2) rfl ?_
      refine r_iconst (n := 1) dX1_look_185 ?_
      refine rr_cVV (a := m) (as := [VI (I6 p2 4), VI 1]) (st := []) dX1_look_186 mt_X1_pick ml_X1_96 mi_X1_pick rm_X1_look_X1_pick jz_X1_pick ⟨Nat.zero_le _, Nat.zero_le _⟩ (Nat.le_of_ble_eq_true rfl) (wX1_l hm) (wX1_c hm) (jasI (hI6 _ _).inR (jasI ⟨by decide, by decide⟩ jas0)) hT (fun I7 hFI7 hT => ?_)
      replace hFI7 := jFr_tr hFI6 hFI7
      refine jOk_mem (fun hI7 => ?_)
      exact r_vret dX1_look_189 rfl ⟨Nat.zero_le _, Nat.zero_le _⟩ ⟨rfl, rfl, hFI7, hT⟩
  · replace hT := hT.2 hcc
    refine r_aload_n dX1_look_44 rfl (i := 0) rfl ?_
    refine rr_getR (b := (m + 11)) dX1_look_45 fg_X1_41 rfl rfl (wX1_l hm) (wX1_s hm) (wX1_r12 hm) ?_
    refine r_iload dX1_look_48 (i := 4) rfl ?_
    refine r_aload_n dX1_look_50 rfl (i := 0) rfl ?_
    refine rr_getI (v := I m 5) dX1_look_51 fg_X1_66 rfl (wX1_l hm) (wX1_s hm) rfl ?_
    obtain ⟨hc8, hT⟩ := hT
    refine rr_iastore dX1_look_54 (wX1_l12 hm) (wX1_a12 hm) (by decide) hc8 (hI _ _).inR (fun M9 eM9 => ?_)
    have hFM9 := jFr_up hF eM9 (wX1_f hm 11 (by decide))
    replace hT := hT M9 eM9
    refine jOk_mem (fun hIM9 => ?_)
    refine r_iconst (n := 0) dX1_look_55 ?_
    refine rr_istore (i := 5) (ls' := [VR m, VR p1, VR p2, VI x3, VI x4, VI 0, VN]) dX1_look_56 (Nat.le_of_ble_eq_true rfl) rfl rfl ⟨by decide, by decide⟩ ?_
    exact hT I0 hFM9
set_option maxRecDepth 20000 in
theorem st_X1_look_0 {E : jE} {G : jG} {I : jM} {q : jM → Prop} {m : Nat} {p1 : Nat} {p2 : Nat} {x3 : Int} (hm : WX1 G m) (hp1 : WX4 G p1) (hp2 : WX7 G p2) (hT : (∀ a j, jRg (G.2.1 a).1 (I a j)) → jIn x3 → (((p1 : Nat) : Int) ≤ 2147483647) ∧ (∀ M1, M1 = jup I m 0 ((p1 : Nat) : Int) → (∃ b3 : Nat, M1 p2 1 = (b3 : Int) ∧ WX6 G b3 ∧ (((b3 : Nat) : Int) ≤ 2147483647) ∧ (∀ M6, M6 = jup M1 m 1 ((b3 : Nat) : Int) → (∃ b8 : Nat, (p1 : Int) = (b8 : Int) ∧ WX4 G b8 ∧ jRV E jB kX8_split [VR (m + 1), VR b8] G M6 (fun I11 => (∀ M12, M12 = jup I11 m 5 0 → jOV E jB kX1_look 32 [VR m, VR p1, VR p2, VI x3, VI 0, VN, VN] G M12 q))))))) : jOV E jB kX1_look 0 [VR m, VR p1, VR p2, VI x3, VN, VN, VN] G I q := by
  intro I0 hF
  refine jOk_mem (fun hI => ?_)
  refine jOk_in (i := 3) rfl (fun hx3 => ?_)
  replace hT := hT hI hx3
  refine r_aload_n dX1_look_0 rfl (i := 0) rfl ?_
  refine r_aload_n dX1_look_1 rfl (i := 1) rfl ?_
  obtain ⟨hc2, hT⟩ := hT
  refine rr_putM (jj := 0) dX1_look_2 fp_X1_56 rfl rfl (wX1_l hm) (wX1_s hm) hc2 (fun M1 eM1 => ?_)
  have hFM1 := jFr_up hF eM1 (wX1_f hm 0 (by decide))
  replace hT := hT M1 eM1
  refine jOk_mem (fun hIM1 => ?_)
  refine r_aload_n dX1_look_5 rfl (i := 0) rfl ?_
  refine r_aload_n dX1_look_6 rfl (i := 2) rfl ?_
  obtain ⟨b3, hc4, hc5, hT⟩ := hT
  refine rr_getM (b := b3) dX1_look_7 fg_X1_57 rfl rfl (wX7_l hp2) (wX7_s hp2) hc4 ?_
  obtain ⟨hc7, hT⟩ := hT
  refine rr_putM (jj := 1) dX1_look_10 fp_X1_61 rfl rfl (wX1_l hm) (wX1_s hm) hc7 (fun M6 eM6 => ?_)
  have hFM6 := jFr_up hFM1 eM6 (wX1_f hm 0 (by decide))
  replace hT := hT M6 eM6
  refine jOk_mem (fun hIM6 => ?_)
  refine r_aload_n dX1_look_13 rfl (i := 0) rfl ?_
  refine rr_getR (b := (m + 1)) dX1_look_14 fg_X1_12 rfl rfl (wX1_l hm) (wX1_s hm) (wX1_r2 hm) ?_
  refine r_aload_n dX1_look_17 rfl (i := 0) rfl ?_
  obtain ⟨b8, hc9, hc10, hT⟩ := hT
  refine rr_getM (b := b8) dX1_look_18 fg_X1_56 rfl rfl (wX1_l hm) (wX1_s hm) (((jr_nj eM6 (by decide)).trans (jr_eq eM1)).trans hc9) ?_
  refine rr_cVV (a := (m + 1)) (as := [VR b8]) (st := []) dX1_look_21 mt_X8_split ml_X1_62 mi_X8_split rm_X1_look_X8_split jz_X8_split ⟨Nat.zero_le _, Nat.zero_le _⟩ (Nat.le_of_ble_eq_true rfl) (wX8_l (wX1_o2 hm)) (wX8_c (wX1_o2 hm)) (jasR jas0) hT (fun I11 hFI11 hT => ?_)
  replace hFI11 := jFr_tr hFM6 hFI11
  refine jOk_mem (fun hI11 => ?_)
  refine r_aload_n dX1_look_24 rfl (i := 0) rfl ?_
  refine r_iconst (n := 0) dX1_look_25 ?_
  refine rr_putI (jj := 5) dX1_look_26 fp_X1_66 rfl rfl (wX1_l hm) (wX1_s hm) ⟨by decide, by decide⟩ (fun M12 eM12 => ?_)
  have hFM12 := jFr_up hFI11 eM12 (wX1_f hm 0 (by decide))
  replace hT := hT M12 eM12
  refine jOk_mem (fun hIM12 => ?_)
  refine r_iconst (n := 0) dX1_look_29 ?_
  refine rr_istore (i := 4) (ls' := [VR m, VR p1, VR p2, VI x3, VI 0, VN, VN]) dX1_look_30 (Nat.le_of_ble_eq_true rfl) rfl rfl ⟨by decide, by decide⟩ ?_
  exact hT I0 hFM12
theorem en_X1_look {E : jE} {G : jG} {I : jM} {q : jM → Prop} {m : Nat} {p1 : Nat} {p2 : Nat} {x3 : Int} (hm : WX1 G m) (hp1 : WX4 G p1) (hp2 : WX7 G p2) (hT : (∀ a j, jRg (G.2.1 a).1 (I a j)) → jIn x3 → (((p1 : Nat) : Int) ≤ 2147483647) ∧ (∀ M1, M1 = jup I m 0 ((p1 : Nat) : Int) → (∃ b3 : Nat, M1 p2 1 = (b3 : Int) ∧ WX6 G b3 ∧ (((b3 : Nat) : Int) ≤ 2147483647) ∧ (∀ M6, M6 = jup M1 m 1 ((b3 : Nat) : Int) → (∃ b8 : Nat, (p1 : Int) = (b8 : Int) ∧ WX4 G b8 ∧ jRV E jB kX8_split [VR (m + 1), VR b8] G M6 (fun I11 => (∀ M12, M12 = jup I11 m 5 0 → jOV E jB kX1_look 32 [VR m, VR p1, VR p2, VI x3, VI 0, VN, VN] G M12 q))))))) : jRV E jB kX1_look [VR m, VR p1, VR p2, VI x3] G I q := jRun.of mt_X1_look.2.2.2 3 rfl (fun _ => st_X1_look_0 hm hp1 hp2 hT I (fun _ _ => rfl))
set_option maxRecDepth 20000 in
theorem st_X1_firstNear_0 {E : jE} {G : jG} {I : jM} {q : Int → jM → Prop} {m : Nat} {x1 : Int} (hm : WX1 G m) (hT : (∀ a j, jRg (G.2.1 a).1 (I a j)) → jIn x1 → ((0 : Int) ≤ x1 ∧ (x1 : Int) < 1200) ∧ jIn (((I (m + 6) x1) - 6) + 1) ∧ ((0 : Int) ≤ (max 0 (((I (m + 6) x1) - 6) + 1)) ∧ ((max 0 (((I (m + 6) x1) - 6) + 1)) : Int) < 201) ∧ q (I (m + 11) (max 0 (((I (m + 6) x1) - 6) + 1))) I) : jOI E jB kX1_firstNear 0 [VR m, VI x1] G I q := by
  intro I0 hF
  refine jOk_mem (fun hI => ?_)
  refine jOk_in (i := 1) rfl (fun hx1 => ?_)
  replace hT := hT hI hx1
  refine r_aload_n dX1_firstNear_0 rfl (i := 0) rfl ?_
  refine rr_getR (b := (m + 11)) dX1_firstNear_1 fg_X1_41 rfl rfl (wX1_l hm) (wX1_s hm) (wX1_r12 hm) ?_
  refine r_iconst (n := 0) dX1_firstNear_4 ?_
  refine r_aload_n dX1_firstNear_5 rfl (i := 0) rfl ?_
  refine rr_getR (b := (m + 6)) dX1_firstNear_6 fg_X1_26 rfl rfl (wX1_l hm) (wX1_s hm) (wX1_r7 hm) ?_
  refine r_iload_n dX1_firstNear_9 rfl (i := 1) rfl ?_
  obtain ⟨hc1, hT⟩ := hT
  refine rr_iaload (v := I (m + 6) x1) dX1_firstNear_10 (wX1_l7 hm) (wX1_a7 hm) (by decide) hc1 rfl ?_
  refine r_bipush (n := 6) dX1_firstNear_11 (by decide +kernel) ?_
  refine r_isub dX1_firstNear_13 ?_
  refine r_iconst (n := 1) dX1_firstNear_14 ?_
  refine r_iadd dX1_firstNear_15 ?_
  obtain ⟨hc2, hT⟩ := hT
  have hc3 : jIn (max 0 (((I (m + 6) x1) - 6) + 1)) := j_max ⟨by decide, by decide⟩ hc2
  refine r_mmax (st := [VR (m + 11)]) dX1_firstNear_16 ml_X1_179 w_max ⟨Nat.le_of_ble_eq_true rfl, Nat.le_of_ble_eq_true rfl⟩ ⟨Nat.zero_le _, Nat.zero_le _⟩ ⟨by decide, by decide⟩ hc2 ?_
  obtain ⟨hc4, hT⟩ := hT
  refine rr_iaload (v := I (m + 11) (max 0 (((I (m + 6) x1) - 6) + 1))) dX1_firstNear_19 (wX1_l12 hm) (wX1_a12 hm) (by decide) hc4 rfl ?_
  exact r_iret dX1_firstNear_20 rfl (hI _ _).inR ⟨Nat.zero_le _, Nat.zero_le _⟩ ⟨_, rfl, rfl, hF, hT⟩
theorem en_X1_firstNear {E : jE} {G : jG} {I : jM} {q : Int → jM → Prop} {m : Nat} {x1 : Int} (hm : WX1 G m) (hT : (∀ a j, jRg (G.2.1 a).1 (I a j)) → jIn x1 → ((0 : Int) ≤ x1 ∧ (x1 : Int) < 1200) ∧ jIn (((I (m + 6) x1) - 6) + 1) ∧ ((0 : Int) ≤ (max 0 (((I (m + 6) x1) - 6) + 1)) ∧ ((max 0 (((I (m + 6) x1) - 6) + 1)) : Int) < 201) ∧ q (I (m + 11) (max 0 (((I (m + 6) x1) - 6) + 1))) I) : jRI E jB kX1_firstNear [VR m, VI x1] G I q := jRun.of mt_X1_firstNear.2.2.2 0 rfl (fun _ => st_X1_firstNear_0 hm hT I (fun _ _ => rfl))
set_option maxRecDepth 20000 in
theorem st_X1_isLoudAndShares_0 {E : jE} {G : jG} {I : jM} {q : Int → jM → Prop} {m : Nat} {x1 : Int} {x2 : Int} (hm : WX1 G m) (hT : (∀ a j, jRg (G.2.1 a).1 (I a j)) → jIn x1 → jIn x2 → ((0 : Int) ≤ x1 ∧ (x1 : Int) < 1200) ∧ ((¬ (jand (I (m + 10) x1) 1) = 0 → q 0 I) ∧ ((jand (I (m + 10) x1) 1) = 0 → ((0 : Int) ≤ x1 ∧ (x1 : Int) < 1200) ∧ ((0 : Int) ≤ x2 ∧ (x2 : Int) < 1200) ∧ (((I (m + 7) x1) ≤ (I (m + 6) x2) → q 0 I) ∧ (¬ (I (m + 7) x1) ≤ (I (m + 6) x2) → q 1 I))))) : jOI E jB kX1_isLoudAndShares 0 [VR m, VI x1, VI x2] G I q := by
  intro I0 hF
  refine jOk_mem (fun hI => ?_)
  refine jOk_in (i := 1) rfl (fun hx1 => ?_)
  refine jOk_in (i := 2) rfl (fun hx2 => ?_)
  replace hT := hT hI hx1 hx2
  refine r_aload_n dX1_isLoudAndShares_0 rfl (i := 0) rfl ?_
  refine rr_getR (b := (m + 10)) dX1_isLoudAndShares_1 fg_X1_38 rfl rfl (wX1_l hm) (wX1_s hm) (wX1_r11 hm) ?_
  refine r_iload_n dX1_isLoudAndShares_4 rfl (i := 1) rfl ?_
  obtain ⟨hc1, hT⟩ := hT
  refine rr_iaload (v := I (m + 10) x1) dX1_isLoudAndShares_5 (wX1_l11 hm) (wX1_a11 hm) (by decide) hc1 rfl ?_
  refine r_iconst (n := 1) dX1_isLoudAndShares_6 ?_
  refine r_iand dX1_isLoudAndShares_7 ?_
  refine r_if_ne (tgt := 30) dX1_isLoudAndShares_8 rfl (j32_in _) (fun hcc => ?_) (fun hcc => ?_)
  · replace hT := hT.1 hcc
    refine r_iconst (n := 0) dX1_isLoudAndShares_30 ?_
    exact r_zret dX1_isLoudAndShares_31 rfl ⟨by decide, by decide⟩ ⟨Nat.zero_le _, Nat.zero_le _⟩ ⟨_, rfl, rfl, hF, hT⟩
  · replace hT := hT.2 hcc
    refine r_aload_n dX1_isLoudAndShares_11 rfl (i := 0) rfl ?_
    refine rr_getR (b := (m + 7)) dX1_isLoudAndShares_12 fg_X1_29 rfl rfl (wX1_l hm) (wX1_s hm) (wX1_r8 hm) ?_
    refine r_iload_n dX1_isLoudAndShares_15 rfl (i := 1) rfl ?_
    obtain ⟨hc2, hT⟩ := hT
    refine rr_iaload (v := I (m + 7) x1) dX1_isLoudAndShares_16 (wX1_l8 hm) (wX1_a8 hm) (by decide) hc2 rfl ?_
    refine r_aload_n dX1_isLoudAndShares_17 rfl (i := 0) rfl ?_
    refine rr_getR (b := (m + 6)) dX1_isLoudAndShares_18 fg_X1_26 rfl rfl (wX1_l hm) (wX1_s hm) (wX1_r7 hm) ?_
    refine r_iload_n dX1_isLoudAndShares_21 rfl (i := 2) rfl ?_
    obtain ⟨hc3, hT⟩ := hT
    refine rr_iaload (v := I (m + 6) x2) dX1_isLoudAndShares_22 (wX1_l7 hm) (wX1_a7 hm) (by decide) hc3 rfl ?_
    refine r_icmp_le (tgt := 30) dX1_isLoudAndShares_23 rfl (hI _ _).inR (hI _ _).inR (fun hcc => ?_) (fun hcc => ?_)
    · replace hT := hT.1 hcc
      refine r_iconst (n := 0) dX1_isLoudAndShares_30 ?_
      exact r_zret dX1_isLoudAndShares_31 rfl ⟨by decide, by decide⟩ ⟨Nat.zero_le _, Nat.zero_le _⟩ ⟨_, rfl, rfl, hF, hT⟩
    · replace hT := hT.2 hcc
      refine r_iconst (n := 1) dX1_isLoudAndShares_26 ?_
      refine r_goto (tgt := 31) dX1_isLoudAndShares_27 rfl ?_
      exact r_zret dX1_isLoudAndShares_31 rfl ⟨by decide, by decide⟩ ⟨Nat.zero_le _, Nat.zero_le _⟩ ⟨_, rfl, rfl, hF, hT⟩
theorem en_X1_isLoudAndShares {E : jE} {G : jG} {I : jM} {q : Int → jM → Prop} {m : Nat} {x1 : Int} {x2 : Int} (hm : WX1 G m) (hT : (∀ a j, jRg (G.2.1 a).1 (I a j)) → jIn x1 → jIn x2 → ((0 : Int) ≤ x1 ∧ (x1 : Int) < 1200) ∧ ((¬ (jand (I (m + 10) x1) 1) = 0 → q 0 I) ∧ ((jand (I (m + 10) x1) 1) = 0 → ((0 : Int) ≤ x1 ∧ (x1 : Int) < 1200) ∧ ((0 : Int) ≤ x2 ∧ (x2 : Int) < 1200) ∧ (((I (m + 7) x1) ≤ (I (m + 6) x2) → q 0 I) ∧ (¬ (I (m + 7) x1) ≤ (I (m + 6) x2) → q 1 I))))) : jRI E jB kX1_isLoudAndShares [VR m, VI x1, VI x2] G I q := jRun.of mt_X1_isLoudAndShares.2.2.2 0 rfl (fun _ => st_X1_isLoudAndShares_0 hm hT I (fun _ _ => rfl))
set_option maxRecDepth 20000 in
theorem st_X1_sharesWithOneOf_19 {E : jE} {G : jG} {I : jM} {q : Int → jM → Prop} {m : Nat} {x1 : Int} {x2 : Int} {x3 : Int} {x4 : Int} (hm : WX1 G m) (hT : (∀ a j, jRg (G.2.1 a).1 (I a j)) → jIn x1 → jIn x2 → jIn x3 → jIn x4 → ((x3 ≤ x4 → q 0 I) ∧ (¬ x3 ≤ x4 → ((0 : Int) ≤ x4 ∧ (x4 : Int) < 1200) ∧ ((¬ (jand (jshr x2 (I (m + 5) x4)) 1) = 1 → jIn (x4 + 1) ∧ jOI E jB kX1_sharesWithOneOf 19 [VR m, VI x1, VI x2, VI x3, VI (x4 + 1)] G I q) ∧ ((jand (jshr x2 (I (m + 5) x4)) 1) = 1 → jRI E jB kX1_isLoudAndShares [VR m, VI x4, VI x1] G I (fun r4 I3 => ((r4 = 0 → jIn (x4 + 1) ∧ jOI E jB kX1_sharesWithOneOf 19 [VR m, VI x1, VI x2, VI x3, VI (x4 + 1)] G I3 q) ∧ (¬ r4 = 0 → q 1 I3)))))))) : jOI E jB kX1_sharesWithOneOf 19 [VR m, VI x1, VI x2, VI x3, VI x4] G I q := by
  intro I0 hF
  refine jOk_mem (fun hI => ?_)
  refine jOk_in (i := 1) rfl (fun hx1 => ?_)
  refine jOk_in (i := 2) rfl (fun hx2 => ?_)
  refine jOk_in (i := 3) rfl (fun hx3 => ?_)
  refine jOk_in (i := 4) rfl (fun hx4 => ?_)
  replace hT := hT hI hx1 hx2 hx3 hx4
  refine r_iload dX1_sharesWithOneOf_19 (i := 4) rfl ?_
  refine r_iload_n dX1_sharesWithOneOf_21 rfl (i := 3) rfl ?_
  refine r_icmp_ge (tgt := 58) dX1_sharesWithOneOf_22 rfl hx4 hx3 (fun hcc => ?_) (fun hcc => ?_)
  · replace hT := hT.1 hcc
    refine r_iconst (n := 0) dX1_sharesWithOneOf_58 ?_
    exact r_zret dX1_sharesWithOneOf_59 rfl ⟨by decide, by decide⟩ ⟨Nat.zero_le _, Nat.zero_le _⟩ ⟨_, rfl, rfl, hF, hT⟩
  · replace hT := hT.2 hcc
    refine r_iload_n dX1_sharesWithOneOf_25 rfl (i := 2) rfl ?_
    refine r_aload_n dX1_sharesWithOneOf_26 rfl (i := 0) rfl ?_
    refine rr_getR (b := (m + 5)) dX1_sharesWithOneOf_27 fg_X1_22 rfl rfl (wX1_l hm) (wX1_s hm) (wX1_r6 hm) ?_
    refine r_iload dX1_sharesWithOneOf_30 (i := 4) rfl ?_
    obtain ⟨hc1, hT⟩ := hT
    refine rr_iaload (v := I (m + 5) x4) dX1_sharesWithOneOf_32 (wX1_l6 hm) (wX1_a6 hm) (by decide) hc1 rfl ?_
    refine r_ishr dX1_sharesWithOneOf_33 ?_
    refine r_iconst (n := 1) dX1_sharesWithOneOf_34 ?_
    refine r_iand dX1_sharesWithOneOf_35 ?_
    refine r_iconst (n := 1) dX1_sharesWithOneOf_36 ?_
    refine r_icmp_ne (tgt := 52) dX1_sharesWithOneOf_37 rfl (j32_in _) ⟨by decide, by decide⟩ (fun hcc => ?_) (fun hcc => ?_)
    · replace hT := hT.1 hcc
      obtain ⟨hc2, hT⟩ := hT
      refine rr_iinc (i := 4) (ls' := [VR m, VI x1, VI x2, VI x3, VI (x4 + 1)]) dX1_sharesWithOneOf_52 rfl (Nat.le_of_ble_eq_true rfl) rfl rfl hc2 ?_
      refine r_goto (tgt := 19) dX1_sharesWithOneOf_55 rfl ?_
      exact hT I0 hF
    · replace hT := hT.2 hcc
      refine r_aload_n dX1_sharesWithOneOf_40 rfl (i := 0) rfl ?_
      refine r_iload dX1_sharesWithOneOf_41 (i := 4) rfl ?_
      refine r_iload_n dX1_sharesWithOneOf_43 rfl (i := 1) rfl ?_
      refine rr_cVI (a := m) (as := [VI x4, VI x1]) (st := []) dX1_sharesWithOneOf_44 mt_X1_isLoudAndShares ml_X1_196 mi_X1_isLoudAndShares rm_X1_sharesWithOneOf_X1_isLoudAndShares jz_X1_isLoudAndShares ⟨Nat.zero_le _, Nat.zero_le _⟩ (Nat.le_of_ble_eq_true rfl) (wX1_l hm) (wX1_c hm) (jasI hx4 (jasI hx1 jas0)) hT (fun r4 I3 hc5 hFI3 hT => ?_)
      replace hFI3 := jFr_tr hF hFI3
      refine jOk_mem (fun hI3 => ?_)
      refine r_if_eq (tgt := 52) dX1_sharesWithOneOf_47 rfl hc5 (fun hcc => ?_) (fun hcc => ?_)
      · replace hT := hT.1 hcc
        obtain ⟨hc6, hT⟩ := hT
        refine rr_iinc (i := 4) (ls' := [VR m, VI x1, VI x2, VI x3, VI (x4 + 1)]) dX1_sharesWithOneOf_52 rfl (Nat.le_of_ble_eq_true rfl) rfl rfl hc6 ?_
        refine r_goto (tgt := 19) dX1_sharesWithOneOf_55 rfl ?_
        exact hT I0 hFI3
      · replace hT := hT.2 hcc
        refine r_iconst (n := 1) dX1_sharesWithOneOf_50 ?_
        exact r_zret dX1_sharesWithOneOf_51 rfl ⟨by decide, by decide⟩ ⟨Nat.zero_le _, Nat.zero_le _⟩ ⟨_, rfl, rfl, hFI3, hT⟩
set_option maxRecDepth 20000 in
theorem st_X1_sharesWithOneOf_0 {E : jE} {G : jG} {I : jM} {q : Int → jM → Prop} {m : Nat} {x1 : Int} {x2 : Int} (hm : WX1 G m) (hT : (∀ a j, jRg (G.2.1 a).1 (I a j)) → jIn x1 → jIn x2 → ((0 : Int) ≤ x1 ∧ (x1 : Int) < 1200) ∧ ((0 : Int) ≤ (I (m + 7) x1) ∧ ((I (m + 7) x1) : Int) < 201) ∧ jRI E jB kX1_firstNear [VR m, VI x1] G I (fun r4 I3 => jOI E jB kX1_sharesWithOneOf 19 [VR m, VI x1, VI x2, VI (I (m + 11) (I (m + 7) x1)), VI r4] G I3 q)) : jOI E jB kX1_sharesWithOneOf 0 [VR m, VI x1, VI x2, VN, VN] G I q := by
  intro I0 hF
  refine jOk_mem (fun hI => ?_)
  refine jOk_in (i := 1) rfl (fun hx1 => ?_)
  refine jOk_in (i := 2) rfl (fun hx2 => ?_)
  replace hT := hT hI hx1 hx2
  refine r_aload_n dX1_sharesWithOneOf_0 rfl (i := 0) rfl ?_
  refine rr_getR (b := (m + 11)) dX1_sharesWithOneOf_1 fg_X1_41 rfl rfl (wX1_l hm) (wX1_s hm) (wX1_r12 hm) ?_
  refine r_aload_n dX1_sharesWithOneOf_4 rfl (i := 0) rfl ?_
  refine rr_getR (b := (m + 7)) dX1_sharesWithOneOf_5 fg_X1_29 rfl rfl (wX1_l hm) (wX1_s hm) (wX1_r8 hm) ?_
  refine r_iload_n dX1_sharesWithOneOf_8 rfl (i := 1) rfl ?_
  obtain ⟨hc1, hT⟩ := hT
  refine rr_iaload (v := I (m + 7) x1) dX1_sharesWithOneOf_9 (wX1_l8 hm) (wX1_a8 hm) (by decide) hc1 rfl ?_
  obtain ⟨hc2, hT⟩ := hT
  refine rr_iaload (v := I (m + 11) (I (m + 7) x1)) dX1_sharesWithOneOf_10 (wX1_l12 hm) (wX1_a12 hm) (by decide) hc2 rfl ?_
  refine rr_istore_n (i := 3) (ls' := [VR m, VI x1, VI x2, VI (I (m + 11) (I (m + 7) x1)), VN]) dX1_sharesWithOneOf_11 rfl (Nat.le_of_ble_eq_true rfl) rfl rfl (hI _ _).inR ?_
  refine r_aload_n dX1_sharesWithOneOf_12 rfl (i := 0) rfl ?_
  refine r_iload_n dX1_sharesWithOneOf_13 rfl (i := 1) rfl ?_
  refine rr_cVI (a := m) (as := [VI x1]) (st := []) dX1_sharesWithOneOf_14 mt_X1_firstNear ml_X1_193 mi_X1_firstNear rm_X1_sharesWithOneOf_X1_firstNear jz_X1_firstNear ⟨Nat.zero_le _, Nat.zero_le _⟩ (Nat.le_of_ble_eq_true rfl) (wX1_l hm) (wX1_c hm) (jasI hx1 jas0) hT (fun r4 I3 hc5 hFI3 hT => ?_)
  replace hFI3 := jFr_tr hF hFI3
  refine jOk_mem (fun hI3 => ?_)
  refine rr_istore (i := 4) (ls' := [VR m, VI x1, VI x2, VI (I (m + 11) (I (m + 7) x1)), VI r4]) dX1_sharesWithOneOf_17 (Nat.le_of_ble_eq_true rfl) rfl rfl hc5 ?_
  exact hT I0 hFI3
theorem en_X1_sharesWithOneOf {E : jE} {G : jG} {I : jM} {q : Int → jM → Prop} {m : Nat} {x1 : Int} {x2 : Int} (hm : WX1 G m) (hT : (∀ a j, jRg (G.2.1 a).1 (I a j)) → jIn x1 → jIn x2 → ((0 : Int) ≤ x1 ∧ (x1 : Int) < 1200) ∧ ((0 : Int) ≤ (I (m + 7) x1) ∧ ((I (m + 7) x1) : Int) < 201) ∧ jRI E jB kX1_firstNear [VR m, VI x1] G I (fun r4 I3 => jOI E jB kX1_sharesWithOneOf 19 [VR m, VI x1, VI x2, VI (I (m + 11) (I (m + 7) x1)), VI r4] G I3 q)) : jRI E jB kX1_sharesWithOneOf [VR m, VI x1, VI x2] G I q := jRun.of mt_X1_sharesWithOneOf.2.2.2 2 rfl (fun _ => st_X1_sharesWithOneOf_0 hm hT I (fun _ _ => rfl))
set_option maxRecDepth 20000 in
theorem st_X1_markYielded_2 {E : jE} {G : jG} {I : jM} {q : jM → Prop} {m : Nat} {p1 : Nat} {x2 : Int} (hm : WX1 G m) (hp1 : WX7 G p1) (hT : (∀ a j, jRg (G.2.1 a).1 (I a j)) → jIn x2 → (((I m 5) ≤ x2 → q I) ∧ (¬ (I m 5) ≤ x2 → ((0 : Int) ≤ x2 ∧ (x2 : Int) < 1200) ∧ jRI E jB kX7_yieldsTo [VR p1, VI (jshl 1 (I (m + 5) x2))] G I (fun r3 I2 => ((r3 = 0 → jIn (x2 + 1) ∧ jOV E jB kX1_markYielded 2 [VR m, VR p1, VI (x2 + 1), VN] G I2 q) ∧ (¬ r3 = 0 → jRI E jB kX1_sharesWithOneOf [VR m, VI x2, VI r3] G I2 (fun r7 I6 => ((r7 = 0 → jIn (x2 + 1) ∧ jOV E jB kX1_markYielded 2 [VR m, VR p1, VI (x2 + 1), VN] G I6 q) ∧ (¬ r7 = 0 → ((0 : Int) ≤ x2 ∧ (x2 : Int) < 1200) ∧ ((0 : Int) ≤ x2 ∧ (x2 : Int) < 1200) ∧ (∀ M12, M12 = jup I6 (m + 10) x2 (jor (I6 (m + 10) x2) 2) → jIn (x2 + 1) ∧ jOV E jB kX1_markYielded 2 [VR m, VR p1, VI (x2 + 1), VN] G M12 q)))))))))) : jOV E jB kX1_markYielded 2 [VR m, VR p1, VI x2, VN] G I q := by
  intro I0 hF
  refine jOk_mem (fun hI => ?_)
  refine jOk_in (i := 2) rfl (fun hx2 => ?_)
  replace hT := hT hI hx2
  refine r_iload_n dX1_markYielded_2 rfl (i := 2) rfl ?_
  refine r_aload_n dX1_markYielded_3 rfl (i := 0) rfl ?_
  refine rr_getI (v := I m 5) dX1_markYielded_4 fg_X1_66 rfl (wX1_l hm) (wX1_s hm) rfl ?_
  refine r_icmp_ge (tgt := 52) dX1_markYielded_7 rfl hx2 (hI _ _).inR (fun hcc => ?_) (fun hcc => ?_)
  · replace hT := hT.1 hcc
    exact r_vret dX1_markYielded_52 rfl ⟨Nat.zero_le _, Nat.zero_le _⟩ ⟨rfl, rfl, hF, hT⟩
  · replace hT := hT.2 hcc
    refine r_aload_n dX1_markYielded_10 rfl (i := 1) rfl ?_
    refine r_iconst (n := 1) dX1_markYielded_11 ?_
    refine r_aload_n dX1_markYielded_12 rfl (i := 0) rfl ?_
    refine rr_getR (b := (m + 5)) dX1_markYielded_13 fg_X1_22 rfl rfl (wX1_l hm) (wX1_s hm) (wX1_r6 hm) ?_
    refine r_iload_n dX1_markYielded_16 rfl (i := 2) rfl ?_
    obtain ⟨hc1, hT⟩ := hT
    refine rr_iaload (v := I (m + 5) x2) dX1_markYielded_17 (wX1_l6 hm) (wX1_a6 hm) (by decide) hc1 rfl ?_
    refine r_ishl dX1_markYielded_18 ?_
    refine rr_cVI (a := p1) (as := [VI (jshl 1 (I (m + 5) x2))]) (st := []) dX1_markYielded_19 mt_X7_yieldsTo ml_X1_186 mi_X7_yieldsTo rm_X1_markYielded_X7_yieldsTo jz_X7_yieldsTo ⟨Nat.zero_le _, Nat.zero_le _⟩ (Nat.le_of_ble_eq_true rfl) (wX7_l hp1) (wX7_c hp1) (jasI (j32_in _) jas0) hT (fun r3 I2 hc4 hFI2 hT => ?_)
    replace hFI2 := jFr_tr hF hFI2
    refine jOk_mem (fun hI2 => ?_)
    refine rr_istore_n (i := 3) (ls' := [VR m, VR p1, VI x2, VI r3]) dX1_markYielded_22 rfl (Nat.le_of_ble_eq_true rfl) rfl rfl hc4 ?_
    refine r_iload_n dX1_markYielded_23 rfl (i := 3) rfl ?_
    refine r_if_eq (tgt := 46) dX1_markYielded_24 rfl hc4 (fun hcc => ?_) (fun hcc => ?_)
    · replace hT := hT.1 hcc
      obtain ⟨hc5, hT⟩ := hT
      refine rr_iinc (i := 2) (ls' := [VR m, VR p1, VI (x2 + 1), VI r3]) dX1_markYielded_46 rfl (Nat.le_of_ble_eq_true rfl) rfl rfl hc5 ?_
      refine r_goto (tgt := 2) dX1_markYielded_49 rfl ?_
      exact jOk_le (ls' := [VR m, VR p1, VI (x2 + 1), VN]) ⟨Or.inr rfl, Or.inr rfl, Or.inr rfl, Or.inl rfl, trivial⟩ (hT I0 hFI2)
    · replace hT := hT.2 hcc
      refine r_aload_n dX1_markYielded_27 rfl (i := 0) rfl ?_
      refine r_iload_n dX1_markYielded_28 rfl (i := 2) rfl ?_
      refine r_iload_n dX1_markYielded_29 rfl (i := 3) rfl ?_
      refine rr_cVI (a := m) (as := [VI x2, VI r3]) (st := []) dX1_markYielded_30 mt_X1_sharesWithOneOf ml_X1_190 mi_X1_sharesWithOneOf rm_X1_markYielded_X1_sharesWithOneOf jz_X1_sharesWithOneOf ⟨Nat.zero_le _, Nat.zero_le _⟩ (Nat.le_of_ble_eq_true rfl) (wX1_l hm) (wX1_c hm) (jasI hx2 (jasI hc4 jas0)) hT (fun r7 I6 hc8 hFI6 hT => ?_)
      replace hFI6 := jFr_tr hFI2 hFI6
      refine jOk_mem (fun hI6 => ?_)
      refine r_if_eq (tgt := 46) dX1_markYielded_33 rfl hc8 (fun hcc => ?_) (fun hcc => ?_)
      · replace hT := hT.1 hcc
        obtain ⟨hc9, hT⟩ := hT
        refine rr_iinc (i := 2) (ls' := [VR m, VR p1, VI (x2 + 1), VI r3]) dX1_markYielded_46 rfl (Nat.le_of_ble_eq_true rfl) rfl rfl hc9 ?_
        refine r_goto (tgt := 2) dX1_markYielded_49 rfl ?_
        exact jOk_le (ls' := [VR m, VR p1, VI (x2 + 1), VN]) ⟨Or.inr rfl, Or.inr rfl, Or.inr rfl, Or.inl rfl, trivial⟩ (hT I0 hFI6)
      · replace hT := hT.2 hcc
        refine r_aload_n dX1_markYielded_36 rfl (i := 0) rfl ?_
        refine rr_getR (b := (m + 10)) dX1_markYielded_37 fg_X1_38 rfl rfl (wX1_l hm) (wX1_s hm) (wX1_r11 hm) ?_
        refine r_iload_n dX1_markYielded_40 rfl (i := 2) rfl ?_
        refine r_dup2 dX1_markYielded_41 rfl rfl ?_
        obtain ⟨hc10, hT⟩ := hT
        refine rr_iaload (v := I6 (m + 10) x2) dX1_markYielded_42 (wX1_l11 hm) (wX1_a11 hm) (by decide) hc10 rfl ?_
        refine r_iconst (n := 2) dX1_markYielded_43 ?_
        refine r_ior dX1_markYielded_44 ?_
        obtain ⟨hc11, hT⟩ := hT
        refine rr_iastore dX1_markYielded_45 (wX1_l11 hm) (wX1_a11 hm) (by decide) hc11 (j32_in _) (fun M12 eM12 => ?_)
        have hFM12 := jFr_up hFI6 eM12 (wX1_f hm 10 (by decide))
        replace hT := hT M12 eM12
        refine jOk_mem (fun hIM12 => ?_)
        obtain ⟨hc13, hT⟩ := hT
        refine rr_iinc (i := 2) (ls' := [VR m, VR p1, VI (x2 + 1), VI r3]) dX1_markYielded_46 rfl (Nat.le_of_ble_eq_true rfl) rfl rfl hc13 ?_
        refine r_goto (tgt := 2) dX1_markYielded_49 rfl ?_
        exact jOk_le (ls' := [VR m, VR p1, VI (x2 + 1), VN]) ⟨Or.inr rfl, Or.inr rfl, Or.inr rfl, Or.inl rfl, trivial⟩ (hT I0 hFM12)
set_option maxRecDepth 20000 in
theorem st_X1_markYielded_0 {E : jE} {G : jG} {I : jM} {q : jM → Prop} {m : Nat} {p1 : Nat} (hm : WX1 G m) (hp1 : WX7 G p1) (hT : (∀ a j, jRg (G.2.1 a).1 (I a j)) → jOV E jB kX1_markYielded 2 [VR m, VR p1, VI 0, VN] G I q) : jOV E jB kX1_markYielded 0 [VR m, VR p1, VN, VN] G I q := by
  intro I0 hF
  refine jOk_mem (fun hI => ?_)
  replace hT := hT hI 
  refine r_iconst (n := 0) dX1_markYielded_0 ?_
  refine rr_istore_n (i := 2) (ls' := [VR m, VR p1, VI 0, VN]) dX1_markYielded_1 rfl (Nat.le_of_ble_eq_true rfl) rfl rfl ⟨by decide, by decide⟩ ?_
  exact hT I0 hF
theorem en_X1_markYielded {E : jE} {G : jG} {I : jM} {q : jM → Prop} {m : Nat} {p1 : Nat} (hm : WX1 G m) (hp1 : WX7 G p1) (hT : (∀ a j, jRg (G.2.1 a).1 (I a j)) → jOV E jB kX1_markYielded 2 [VR m, VR p1, VI 0, VN] G I q) : jRV E jB kX1_markYielded [VR m, VR p1] G I q := jRun.of mt_X1_markYielded.2.2.2 2 rfl (fun _ => st_X1_markYielded_0 hm hp1 hT I (fun _ _ => rfl))
section CJ
variable {E : jE} {G : jG} {φ p ρ σ : Nat} {I : jM} {X : Int → Int}
/-- where the collecting stands: from token t on, with the k-th rule -/
def Lk (G : jG) (φ p ρ : Nat) (X : Int → Int) (I : jM) (t k : Int) (F : List (Int × Int)) : Prop := FC G φ p ρ X I ∧ FN φ X I F ∧ F.Pairwise (flt X) ∧ (∀ y, y ∈ F ↔ isF X (nT X) (bT X) y.1 y.2 ∧ (y.2 < t ∨ (y.2 = t ∧ ∃ k', 0 ≤ k' ∧ k' < k ∧ k' < X 4 ∧ I (ρ + 5) k' = y.1)))
theorem Lk.len {t k : Int} {F : List (Int × Int)} (h : Lk G φ p ρ X I t k F) (hQ : QW X) {r : Int} (hr : 0 ≤ r ∧ r < 6) (ht : 0 ≤ t ∧ t < nT X) (hs : (F ++ [(r, t)]).Pairwise (flt X)) : F.length < 1200 := by
  have hk := tkS (S := X) hQ.1.1
  have hn := hk.n_le
  have h200 := hQ.1.2
  have := sorted_len (S := X) (c := 200) (F ++ [(r, t)]) hs (fun x hx => ?_)
  · rw [List.length_append] at this
    simp at this
    omega
  · rcases List.mem_append.mp hx with g | g
    · have a := ((h.2.2.2 x).mp g).1
      obtain ⟨a1, a2, a3, a4, _⟩ := a
      have := hQ.2.1.2.1
      refine ⟨a1, by omega, a3, by show x.2 < 200; omega⟩
    · have e : x = (r, t) := by simpa using g
      rw [e]
      refine ⟨hr.1, hr.2, ht.1, by show t < 200; omega⟩
theorem cl_lookIn (hm : WX1 G φ) (hp : WX4 G p) (hσ : WX7 G σ) (hQ : QW X) {on : Int} (hon : ∀ r, 0 ≤ r → r < X 4 → (jand (jshr on r) 1 = 1 ↔ X (515 + 40 * r) = 1)) (hd : σ + 9 ≤ φ ∨ φ + 14 ≤ σ) {t : Int} (ht : 0 ≤ t ∧ t < nT X) {I0 : jM} (h5 : I0 σ 3 = X 5) {q : jM → Prop}
    (nx : ∀ I2 F, Lk G φ p ρ X I2 (t + 1) 0 F → (∀ t', 0 ≤ t' → t' ≤ t → isff F t' (I2 (φ + 11) t')) → Fr φ (φ + 14) I0 I2 → jOV E jB kX1_look 32 [VR φ, VR p, VR σ, VI on, VI (t + 1), VN, VN] G I2 q) :
    ∀ (d : Nat) (k : Int) (I1 : jM) (F : List (Int × Int)), 0 ≤ k → k + d = X 4 → Lk G φ p ρ X I1 t k F → (∀ t', 0 ≤ t' → t' ≤ t → isff F t' (I1 (φ + 11) t')) → Fr φ (φ + 14) I0 I1 → jOV E jB kX1_look 58 [VR φ, VR p, VR σ, VI on, VI t, VI k, VN] G I1 q := by
  have hk := tkS (S := X) hQ.1.1
  have hn := hk.n_le
  have h200 := hQ.1.2
  have h46 := hQ.2.1.2.1
  intro d
  induction d with
  | zero =>
    intro k I1 F k0 k1 hL hff hF
    have hC := hL.1
    have hρ := hC.1.1.2.2
    have e1 := hC.2.2.2.1.1
    refine st_X1_look_58 hm hp hσ (fun _ _ _ _ => ⟨ρ, hC.2.1.2, hρ, fun _ => ⟨⟨by omega, by omega⟩, nx I1 F ⟨hC, hL.2.1, hL.2.2.1, fun y => (hL.2.2.2 y).trans ?_⟩ hff hF⟩, fun q => absurd (by omega) q⟩)
    refine ⟨fun g => ⟨g.1, Or.inl ?_⟩, fun g => ⟨g.1, ?_⟩⟩
    · rcases g.2 with a | a <;> omega
    · rcases g.2 with a | ⟨a, k', b1, b2, b3⟩
      · by_cases e : y.2 = t
        · have hy := g.1.1
          have hy2 := g.1.2.1
          obtain ⟨k', c0, c1, c2⟩ := hC.2.2.2.1.2.2.2.2 y.1 hy hy2
          exact Or.inr ⟨e, k', c0, by omega, c1, c2⟩
        · exact Or.inl (by omega)
      · omega
  | succ d ih =>
    intro k I1 F k0 k1 hL hff hF
    have hC := hL.1
    have hρ := hC.1.1.2.2
    have e1 := hC.2.2.2.1.1
    have hor := hC.2.2.2.1.2.2
    have br := hor.1 k k0 (by omega)
    have hon' := hon (I1 (ρ + 5) k) br.1 br.2
    -- the next rule, where this one finds nothing
    have skip : ∀ I2, (∀ a j, WX1 G φ → I2 a j = I2 a j) → I2 = I1 → ¬ isF X (nT X) (bT X) (I1 (ρ + 5) k) t → jIn (k + 1) ∧ jOV E jB kX1_look 58 [VR φ, VR p, VR σ, VI on, VI t, VI (k + 1), VN] G I2 q := by
      intro I2 _ e hno
      subst e
      refine ⟨⟨by omega, by omega⟩, ih (k + 1) I2 F (by omega) (by omega) ⟨hC, hL.2.1, hL.2.2.1, fun y => (hL.2.2.2 y).trans ?_⟩ hff hF⟩
      refine ⟨fun g => ⟨g.1, ?_⟩, fun g => ⟨g.1, ?_⟩⟩
      · rcases g.2 with a | ⟨a, k', b1, b2, b3⟩
        · exact Or.inl a
        · exact Or.inr ⟨a, k', b1, by omega, b3⟩
      · rcases g.2 with a | ⟨a, k', b1, b2, b3, b4⟩
        · exact Or.inl a
        · by_cases ek : k' = k
          · rw [ek] at b4
            have g1 := g.1
            rw [← b4, a] at g1
            exact absurd g1 hno
          · exact Or.inr ⟨a, k', b1, by omega, b3, b4⟩
    refine st_X1_look_58 hm hp hσ (fun _ _ _ _ => ⟨ρ, hC.2.1.2, hρ, fun q => absurd q (by omega), fun _ => ⟨ρ, hC.2.1.2, hρ, ⟨by omega, by omega⟩, fun qb => skip I1 (fun _ _ _ => rfl) rfl (fun g => qb (hon'.mpr g.2.2.2.2.1)), fun qb => ?_⟩⟩)
    refine (cl_fitsFrom hC hQ).mono (fun y I10 _ _ gy => ?_)
    obtain ⟨rfl, rfl⟩ := gy
    refine ⟨fun qf => skip I10 (fun _ _ _ => rfl) rfl (fun g => jI_n qf ⟨⟨g.1, g.2.1⟩, ⟨g.2.2.1, g.2.2.2.1⟩, g.2.2.2.2.2.1⟩), fun qf => ?_⟩
    have hcan := jI_p qf
    have hs : (F ++ [(I10 (ρ + 5) k, t)]).Pairwise (flt X) := by
      rw [List.pairwise_append]
      refine ⟨hL.2.2.1, List.pairwise_singleton _ _, fun a ha b hb => ?_⟩
      have eb : b = (I10 (ρ + 5) k, t) := by simpa using hb
      rw [eb]
      rcases ((hL.2.2.2 a).mp ha).2 with g | ⟨g, k', b1, b2, b3, b4⟩
      · exact Or.inl g
      · have r := hor.2.1 k' k b1 b2 (by omega)
        rw [b4] at r
        exact Or.inr ⟨g, r⟩
    have hl := hL.len hQ (r := I10 (ρ + 5) k) (by omega) ht hs
    have e53 : I10 σ 3 = X 5 := by rw [hF _ _ (by omega)]; exact h5
    refine (cl_consider hC hQ hcan hL.2.1 hl e53).mono (fun I14 _ g => ?_)
    have hC14 := hC.wg g.1
    have eo : ∀ k', I14 (ρ + 5) k' = I10 (ρ + 5) k' := fun k' => by
      have := hC.1
      exact g.1 _ _ (by omega) (by omega)
    have eff : ∀ t', I14 (φ + 11) t' = I10 (φ + 11) t' := fun t' => g.1 _ _ (by omega) (by omega)
    refine ⟨⟨by omega, by omega⟩, ?_⟩
    by_cases hne : Out X (bT X) (I10 (ρ + 5) k) t = slice X (bT X t) (bT X (t + X (516 + 40 * I10 (ρ + 5) k)))
    · refine ih (k + 1) I14 F (by omega) (by omega) ⟨hC14, g.2.1 hne, hL.2.2.1, fun y => (hL.2.2.2 y).trans ?_⟩ (fun t' a b => by rw [eff]; exact hff t' a b) (hF.trans g.1.f)
      refine ⟨fun g' => ⟨g'.1, ?_⟩, fun g' => ⟨g'.1, ?_⟩⟩
      · rcases g'.2 with a | ⟨a, k', b1, b2, b3, b4⟩
        · exact Or.inl a
        · exact Or.inr ⟨a, k', b1, by omega, b3, by rw [eo]; exact b4⟩
      · rcases g'.2 with a | ⟨a, k', b1, b2, b3, b4⟩
        · exact Or.inl a
        · rw [eo] at b4
          by_cases ek : k' = k
          · rw [ek] at b4
            have g1 := g'.1
            rw [← b4, a] at g1
            exact absurd hne g1.2.2.2.2.2.2
          · exact Or.inr ⟨a, k', b1, by omega, b3, b4⟩
    · refine ih (k + 1) I14 (F ++ [(I10 (ρ + 5) k, t)]) (by omega) (by omega) ⟨hC14, g.2.2 hne, hs, fun y => ?_⟩ (fun t' a b => by rw [eff]; exact (hff t' a b).snoc b) (hF.trans g.1.f)
      rw [List.mem_append, List.mem_singleton, hL.2.2.2 y]
      refine ⟨fun g' => ?_, fun g' => ?_⟩
      · rcases g' with g' | g'
        · refine ⟨g'.1, ?_⟩
          rcases g'.2 with a | ⟨a, k', b1, b2, b3, b4⟩
          · exact Or.inl a
          · exact Or.inr ⟨a, k', b1, by omega, b3, by rw [eo]; exact b4⟩
        · rw [g']
          exact ⟨⟨br.1, br.2, ht.1, ht.2, hon'.mp qb, hcan.2.2, hne⟩, Or.inr ⟨rfl, k, k0, by omega, by omega, eo k⟩⟩
      · rcases g'.2 with a | ⟨a, k', b1, b2, b3, b4⟩
        · exact Or.inl ⟨g'.1, Or.inl a⟩
        · rw [eo] at b4
          by_cases ek : k' = k
          · rw [ek] at b4
            exact Or.inr (Prod.ext b4.symm a)
          · exact Or.inl ⟨g'.1, Or.inr ⟨a, k', b1, by omega, b3, b4⟩⟩
/-- all are collected -/
theorem Lk.done {F : List (Int × Int)} {k : Int} (h : Lk G φ p ρ X I (nT X) k F) (hff : ∀ t', 0 ≤ t' → t' ≤ nT X → isff F t' (I (φ + 11) t')) : F = FL X ∧ FK φ X I ∧ ∀ f, 0 ≤ f → f < NF X → I (φ + 10) f = jI (fSi X f) := by
  have e : F = FL X := FL_eq ⟨h.2.2.1, fun y => (h.2.2.2 y).trans ⟨fun g => g.1, fun g => ⟨g, Or.inl g.2.2.2.1⟩⟩⟩
  subst e
  have ef : ∀ t, 0 ≤ t → t ≤ nT X → I (φ + 11) t = ffT X t := fun t t0 t1 => (ffT_eq (hff t t0 t1)).symm
  refine ⟨rfl, ⟨h.2.1.1, fun f f0 f1 => ?_, ef, fun t t0 t1 => by rw [← ef t t0 t1]; exact hff t t0 t1⟩, fun f f0 f1 => (h.2.1.row f0 f1).2.2.2.2.2⟩
  obtain ⟨a1, a2, a3, a4, a5, a6⟩ := h.2.1.row f0 f1
  exact ⟨a1, a2, a3, a4, a5⟩
theorem FK.fr {I' : jM} (h : FK φ X I) (e : ∀ a j, (φ + 5 ≤ a ∧ a ≤ φ + 9) ∨ a = φ + 11 ∨ (a = φ ∧ j = 5) → I' a j = I a j) : FK φ X I' := by
  refine ⟨(e _ _ (by omega)).trans h.1, fun f f0 f1 => ?_, fun t t0 t1 => (e _ _ (by omega)).trans (h.2.2.1 t t0 t1), h.2.2.2⟩
  rw [e _ _ (by omega), e _ _ (by omega), e _ _ (by omega), e _ _ (by omega), e _ _ (by omega)]
  exact h.2.1 f f0 f1
theorem fA_bd (hQ : QW X) {f : Int} (f0 : 0 ≤ f) (f1 : f < NF X) : (0 ≤ fT X f ∧ fT X f < nT X) ∧ fT X f < fA X f ∧ fA X f ≤ nT X ∧ fA X f ≤ fT X f + 6 ∧ nT X ≤ 200 := by
  have a := f_bd hQ (FLok hQ) f0 f1
  have w := a.2.2.2.1.2.2.1
  have hk := tkS (S := X) hQ.1.1
  have := hk.n_le
  have := hQ.1.2
  unfold fA
  omega
theorem and1_tab : ∀ x : Fin 4, jand ((x : Nat) : Int) 1 = ((x : Nat) : Int) % 2 ∧ jand ((x : Nat) : Int) 2 = 2 * (((x : Nat) : Int) / 2) ∧ ((x : Nat) < 2 → jor ((x : Nat) : Int) 2 = ((x : Nat) : Int) + 2) := by decide +kernel
theorem and1 {x : Int} (h : 0 ≤ x ∧ x < 4) : jand x 1 = x % 2 ∧ jand x 2 = 2 * (x / 2) ∧ (x < 2 → jor x 2 = x + 2) := by
  have g := and1_tab ⟨x.toNat, by omega⟩
  simp only [show ((x.toNat : Nat) : Int) = x by omega] at g
  exact ⟨g.1, g.2.1, fun q => g.2.2 (by omega)⟩
/-- two findings share a byte -/
theorem shr_iff (hQ : QW X) {f g : Int} (f0 : 0 ≤ f) (f1 : f < NF X) (g0 : 0 ≤ g) (g1 : g < NF X) : (fB X f < fE X g ∧ fB X g < fE X f) ↔ (fT X f < fA X g ∧ fT X g < fA X f) := by
  rw [fE_fB hQ g0 g1 f0 f1, fE_fB hQ f0 f1 g0 g1]
theorem cl_firstNear (hm : WX1 G φ) (h : FK φ X I) (hQ : QW X) {f : Int} (f0 : 0 ≤ f) (f1 : f < NF X) : jRI E jB kX1_firstNear [VR φ, VI f] G I (fun x I' => x = ffT X (max 0 (fT X f - 5)) ∧ I' = I) := by
  have hN := NF_le hQ
  have b := fA_bd hQ f0 f1
  have e := (h.2.1 f f0 f1).2.1
  refine en_X1_firstNear hm (fun _ _ => ⟨⟨by omega, by omega⟩, ?_⟩)
  rw [e, show fT X f - 6 + 1 = fT X f - 5 by omega]
  refine ⟨⟨by omega, by omega⟩, ⟨by omega, by omega⟩, h.2.2.1 _ (by omega) (by omega), rfl⟩
theorem cl_isLoud (hm : WX1 G φ) (h : FK φ X I) (hQ : QW X) {f g : Int} (f0 : 0 ≤ f) (f1 : f < NF X) (g0 : 0 ≤ g) (g1 : g < NF X) (hM : (0 ≤ I (φ + 10) g ∧ I (φ + 10) g < 4) ∧ I (φ + 10) g % 2 = jI (fSi X g)) : jRI E jB kX1_isLoudAndShares [VR φ, VI g, VI f] G I (fun x I' => x = jI (¬ fSi X g ∧ fT X f < fA X g) ∧ I' = I) := by
  have hN := NF_le hQ
  have ef := (h.2.1 f f0 f1).2.1
  have eg := (h.2.1 g g0 g1).2.2.1
  refine en_X1_isLoudAndShares hm (fun _ _ _ => ⟨⟨by omega, by omega⟩, ?_⟩)
  rw [(and1 hM.1).1, hM.2, ef, eg]
  refine ⟨fun q => ⟨(jI_neg (fun a => a.1 (jI_p q))).symm, rfl⟩, fun q => ⟨⟨by omega, by omega⟩, ⟨by omega, by omega⟩, fun q2 => ⟨(jI_neg (fun a => by omega)).symm, rfl⟩, fun q2 => ⟨(jI_pos ⟨jI_n q, by omega⟩).symm, rfl⟩⟩⟩
theorem cl_shares (hm : WX1 G φ) (h : FK φ X I) (hQ : QW X) {f v : Int} (f0 : 0 ≤ f) (f1 : f < NF X) (hv : 0 ≤ v ∧ v < 64) (hvb : ∀ o, 0 ≤ o → o < 6 → (bit v o ↔ yto X (fR X f) o)) (hM : ∀ g, 0 ≤ g → g < NF X → (0 ≤ I (φ + 10) g ∧ I (φ + 10) g < 4) ∧ I (φ + 10) g % 2 = jI (fSi X g)) : jRI E jB kX1_sharesWithOneOf [VR φ, VI f, VI v] G I (fun x I' => x = jI (fYi X f) ∧ I' = I) := by
  have hN := NF_le hQ
  have b := fA_bd hQ f0 f1
  have e7 := (h.2.1 f f0 f1).2.2.1
  have hFF := h.2.2.2
  have bl := hFF.bd (t := fA X f) (by omega) (by omega)
  have bn := hFF.bd (t := max 0 (fT X f - 5)) (by omega) (by omega)
  -- who makes it yield
  have iff : fYi X f ↔ ∃ g, ffT X (max 0 (fT X f - 5)) ≤ g ∧ g < ffT X (fA X f) ∧ bit v (fR X g) ∧ ¬ fSi X g ∧ fT X f < fA X g := by
    constructor
    · rintro ⟨g, g0, g1, g2, g3, g4⟩
      have g1' : g < NF X := g1
      have s := (shr_iff hQ f0 f1 g0 g1').mp g3
      have bg := fA_bd hQ g0 g1'
      have br := f_bd hQ (FLok hQ) g0 g1'
      refine ⟨g, ?_, (hFF.mem (by omega) (by omega) g0 g1').mp s.2, (hvb _ br.2.2.2.2.1.1 br.2.2.2.2.1.2).mpr g4, g2, s.1⟩
      rcases Int.lt_or_le g (ffT X (max 0 (fT X f - 5))) with q | q
      · have := (hFF.mem (t := max 0 (fT X f - 5)) (by omega) (by omega) g0 g1').mpr q
        omega
      · exact q
    · rintro ⟨g, g0, g1, g2, g3, g4⟩
      have g0' : 0 ≤ g := by omega
      have g1' : g < NF X := by omega
      have br := f_bd hQ (FLok hQ) g0' g1'
      exact ⟨g, g0', g1', g3, (shr_iff hQ f0 f1 g0' g1').mpr ⟨g4, (hFF.mem (by omega) (by omega) g0' g1').mpr g1⟩, (hvb _ br.2.2.2.2.1.1 br.2.2.2.2.1.2).mp g2⟩
  have loop : ∀ (d : Nat) (g : Int), ffT X (max 0 (fT X f - 5)) ≤ g → (g ≤ ffT X (fA X f) → g + d = ffT X (fA X f)) → (∀ g', ffT X (max 0 (fT X f - 5)) ≤ g' → g' < g → g' < ffT X (fA X f) → ¬ (bit v (fR X g') ∧ ¬ fSi X g' ∧ fT X f < fA X g')) → (ffT X (fA X f) ≤ g ∨ g + d = ffT X (fA X f)) → jOI E jB kX1_sharesWithOneOf 19 [VR φ, VI f, VI v, VI (ffT X (fA X f)), VI g] G I (fun x I' => x = jI (fYi X f) ∧ I' = I) := by
    intro d
    induction d with
    | zero =>
      intro g g0 _ hg hd
      refine st_X1_sharesWithOneOf_19 hm (fun _ _ _ _ _ => ⟨fun _ => ⟨(jI_neg (fun a => ?_)).symm, rfl⟩, fun q => absurd (by omega) q⟩)
      obtain ⟨g', a1, a2, a3⟩ := iff.mp a
      exact hg g' a1 (by omega) a2 a3
    | succ d ih =>
      intro g g0 hgd hg hd
      by_cases ge : ffT X (fA X f) ≤ g
      · refine st_X1_sharesWithOneOf_19 hm (fun _ _ _ _ _ => ⟨fun _ => ⟨(jI_neg (fun a => ?_)).symm, rfl⟩, fun q => absurd ge q⟩)
        obtain ⟨g', a1, a2, a3⟩ := iff.mp a
        exact hg g' a1 (by omega) a2 a3
      · have g1' : g < NF X := by omega
        have g0' : 0 ≤ g := by omega
        have nx : ¬ (bit v (fR X g) ∧ ¬ fSi X g ∧ fT X f < fA X g) → jIn (g + 1) ∧ jOI E jB kX1_sharesWithOneOf 19 [VR φ, VI f, VI v, VI (ffT X (fA X f)), VI (g + 1)] G I (fun x I' => x = jI (fYi X f) ∧ I' = I) := by
          intro hno
          refine ⟨⟨by omega, by omega⟩, ih (g + 1) (by omega) (fun _ => by omega) (fun g' a1 a2 a3 => ?_) (by omega)⟩
          by_cases e : g' = g
          · rw [e]; exact hno
          · exact hg g' a1 (by omega) a3
        refine st_X1_sharesWithOneOf_19 hm (fun _ _ _ _ _ => ⟨fun q => absurd q ge, fun _ => ⟨⟨by omega, by omega⟩, ?_⟩⟩)
        rw [(h.2.1 g g0' g1').1]
        refine ⟨fun q => nx (fun a => q a.1), fun q => (cl_isLoud hm h hQ f0 f1 g0' g1' (hM g g0' g1')).mono (fun y I3 _ _ gy => ?_)⟩
        obtain ⟨rfl, rfl⟩ := gy
        exact ⟨fun q2 => nx (fun a => jI_n q2 a.2), fun q2 => ⟨(jI_pos (iff.mpr ⟨g, g0, by omega, q, jI_p q2⟩)).symm, rfl⟩⟩
  refine en_X1_sharesWithOneOf hm (fun _ _ _ => ⟨⟨by omega, by omega⟩, ?_⟩)
  rw [e7, h.2.2.1 _ (by omega) (by omega)]
  refine ⟨⟨by omega, by omega⟩, (cl_firstNear hm h hQ f0 f1).mono (fun y I3 _ _ gy => ?_)⟩
  obtain ⟨rfl, rfl⟩ := gy
  exact loop (ffT X (fA X f) - ffT X (max 0 (fT X f - 5))).toNat _ (Int.le_refl _) (fun _ => by omega) (fun g' a1 a2 => by omega) (by omega)
def WMk (φ : Nat) (I I' : jM) : Prop := ∀ a j, a ≠ φ + 10 → I' a j = I a j
theorem cl_markYielded (hm : WX1 G φ) (hσ : WX7 G σ) (hd : σ + 9 ≤ φ ∨ φ + 14 ≤ σ) (h : FK φ X I) (hY : YS σ X I) (hQ : QW X) (hW : YW X) (hM : ∀ f, 0 ≤ f → f < NF X → I (φ + 10) f = jI (fSi X f)) : jRV E jB kX1_markYielded [VR φ, VR σ] G I (fun I' => (∀ f, 0 ≤ f → f < NF X → I' (φ + 10) f = mkF X f) ∧ WMk φ I I') := by
  have hN := NF_le hQ
  have loop : ∀ (d : Nat) (f : Int) (I1 : jM), 0 ≤ f → f + d = NF X → (∀ g, 0 ≤ g → g < NF X → I1 (φ + 10) g = if g < f then mkF X g else jI (fSi X g)) → WMk φ I I1 → jOV E jB kX1_markYielded 2 [VR φ, VR σ, VI f, VN] G I1 (fun I' => (∀ f, 0 ≤ f → f < NF X → I' (φ + 10) f = mkF X f) ∧ WMk φ I I') := by
    intro d
    induction d with
    | zero =>
      intro f I1 f0 f1 hm1 hw
      have e5 : I1 φ 5 = NF X := by rw [hw _ _ (by omega)]; exact h.1
      refine st_X1_markYielded_2 hm hσ (fun _ _ => ⟨fun _ => ⟨fun g g0 g1 => ?_, hw⟩, fun q => absurd (by omega) q⟩)
      rw [hm1 g g0 g1, if_pos (by omega)]
    | succ d ih =>
      intro f I1 f0 f1 hm1 hw
      have e5 : I1 φ 5 = NF X := by rw [hw _ _ (by omega)]; exact h.1
      have hK1 : FK φ X I1 := h.fr (fun a j q => hw a j (by omega))
      have hY1 : YS σ X I1 := by
        refine ⟨⟨(hw _ _ (by omega)).trans hY.1.1, hY.1.2⟩, fun k k0 k1 => ?_⟩
        rw [hw _ _ (by omega), hw _ _ (by omega)]
        exact hY.2 k k0 k1
      have br := f_bd hQ (FLok hQ) f0 (by omega)
      have er := (hK1.2.1 f f0 (by omega)).1
      have hMM : ∀ g, 0 ≤ g → g < NF X → (0 ≤ I1 (φ + 10) g ∧ I1 (φ + 10) g < 4) ∧ I1 (φ + 10) g % 2 = jI (fSi X g) := fun g g0 g1 => by
        have a := jI_01 (P := fSi X g)
        have b := jI_01 (P := fYi X g)
        rw [hm1 g g0 g1]
        split
        · unfold mkF; omega
        · omega
      have stay : ¬ fYi X f → ∀ I2, I2 = I1 → jIn (f + 1) ∧ jOV E jB kX1_markYielded 2 [VR φ, VR σ, VI (f + 1), VN] G I2 (fun I' => (∀ f, 0 ≤ f → f < NF X → I' (φ + 10) f = mkF X f) ∧ WMk φ I I') := by
        intro hn I2 e
        subst e
        refine ⟨⟨by omega, by omega⟩, ih (f + 1) I2 (by omega) (by omega) (fun g g0 g1 => ?_) hw⟩
        rw [hm1 g g0 g1]
        by_cases q : g = f
        · rw [q, if_neg (by omega), if_pos (by omega)]
          unfold mkF
          rw [jI_neg hn]
          omega
        · by_cases q2 : g < f
          · rw [if_pos q2, if_pos (by omega)]
          · rw [if_neg q2, if_neg (by omega)]
      refine st_X1_markYielded_2 hm hσ (fun _ _ => ⟨fun q => absurd q (by omega), fun _ => ⟨⟨by omega, by omega⟩, ?_⟩⟩)
      rw [er]
      refine (cl_yieldsTo hσ hY1 hW).mono (fun v I2 _ _ gv => ?_)
      obtain ⟨hv, hvb, rfl⟩ := gv
      have hvb' : ∀ o, 0 ≤ o → o < 6 → (bit v o ↔ yto X (fR X f) o) := fun o o0 o1 => by
        rw [hvb o o0 o1]
        refine ⟨fun ⟨k, k0, k1, k2, k3⟩ => ⟨k, k0, k1, k2, (bit1 br.2.2.2.2.1 (hW k k0 k1).2).mp k3⟩, fun ⟨k, k0, k1, k2, k3⟩ => ⟨k, k0, k1, k2, (bit1 br.2.2.2.2.1 (hW k k0 k1).2).mpr k3⟩⟩
      refine ⟨fun q => stay (fun a => ?_) I2 rfl, fun q => (cl_shares hm hK1 hQ f0 (by omega) hv hvb' hMM).mono (fun y I6 _ _ gy => ?_)⟩
      · obtain ⟨g, g0, g1, g2, g3, g4⟩ := a
        have bg := f_bd hQ (FLok hQ) g0 g1
        have := (hvb' _ bg.2.2.2.2.1.1 bg.2.2.2.2.1.2).mpr g4
        rw [q] at this
        unfold bit at this
        rw [zbit bg.2.2.2.2.1] at this
        exact absurd this (by decide)
      · obtain ⟨rfl, rfl⟩ := gy
        refine ⟨fun q2 => stay (jI_n q2) I6 rfl, fun q2 => ⟨⟨by omega, by omega⟩, ⟨by omega, by omega⟩, fun M12 e12 => ⟨⟨by omega, by omega⟩, ih (f + 1) M12 (by omega) (by omega) (fun g g0 g1 => ?_) (fun a j ha => ?_)⟩⟩⟩
        · have a := jI_01 (P := fSi X f)
          have ef := hm1 f f0 (by omega)
          rw [if_neg (by omega)] at ef
          rw [ef, (and1 (by omega)).2.2 (by omega)] at e12
          by_cases q3 : g = f
          · rw [q3, jr_eq e12, if_pos (by omega)]
            unfold mkF
            rw [jI_pos (jI_p q2)]
            omega
          · rw [jr_nj e12 q3, hm1 g g0 g1]
            by_cases q4 : g < f
            · rw [if_pos q4, if_pos (by omega)]
            · rw [if_neg q4, if_neg (by omega)]
        · rw [jr_na e12 ha]
          exact hw a j ha
  have hN0 : 0 ≤ NF X := by show (0 : Int) ≤ ((FL X).length : Int); omega
  refine en_X1_markYielded hm hσ (fun _ => loop (NF X).toNat 0 I (by omega) (by omega) (fun g g0 g1 => ?_) (fun _ _ _ => rfl))
  rw [if_neg (by omega)]
  exact hM g g0 g1
end CJ
