/-! ===== the class: what is asked of pages; brackets ===== -/
set_option maxRecDepth 20000 in
theorem st_X4_isLike_74 {E : jE} {G : jG} {I : jM} {q : Int → jM → Prop} {m : Nat} {p1 : Nat} {x2 : Int} (hm : WX4 G m) (hp1 : WX4 G p1) (hT : (∀ a j, jRg (G.2.1 a).1 (I a j)) → jIn x2 → (((I m 2) ≤ x2 → q 1 I) ∧ (¬ (I m 2) ≤ x2 → ((0 : Int) ≤ x2 ∧ (x2 : Int) < 200) ∧ (((-128) ≤ (I (m + 1) x2) ∧ (I (m + 1) x2) ≤ 127) → ((0 : Int) ≤ x2 ∧ (x2 : Int) < 200) ∧ (((-128) ≤ (I (p1 + 1) x2) ∧ (I (p1 + 1) x2) ≤ 127) → (((I (m + 1) x2) = (I (p1 + 1) x2) → jIn (x2 + 1) ∧ jOI E jB kX4_isLike 74 [VR m, VR p1, VI (x2 + 1)] G I q) ∧ (¬ (I (m + 1) x2) = (I (p1 + 1) x2) → q 0 I))))))) : jOI E jB kX4_isLike 74 [VR m, VR p1, VI x2] G I q := by
  intro I0 hF
  refine jOk_mem (fun hI => ?_)
  refine jOk_in (i := 2) rfl (fun hx2 => ?_)
  replace hT := hT hI hx2
  refine r_iload_n dX4_isLike_74 rfl (i := 2) rfl ?_
  refine r_aload_n dX4_isLike_75 rfl (i := 0) rfl ?_
  refine rr_getI (v := I m 2) dX4_isLike_76 fg_X4_25 rfl (wX4_l hm) (wX4_s hm) rfl ?_
  refine r_icmp_ge (tgt := 105) dX4_isLike_79 rfl hx2 (hI _ _).inR (fun hcc => ?_) (fun hcc => ?_)
  · replace hT := hT.1 hcc
    refine r_iconst (n := 1) dX4_isLike_105 ?_
    exact r_zret dX4_isLike_106 rfl ⟨by decide, by decide⟩ ⟨Nat.zero_le _, Nat.zero_le _⟩ ⟨_, rfl, rfl, hF, hT⟩
  · replace hT := hT.2 hcc
    refine r_aload_n dX4_isLike_82 rfl (i := 0) rfl ?_
    refine rr_getR (b := (m + 1)) dX4_isLike_83 fg_X4_9 rfl rfl (wX4_l hm) (wX4_s hm) (wX4_r0 hm) ?_
    refine r_iload_n dX4_isLike_86 rfl (i := 2) rfl ?_
    obtain ⟨hc1, hT⟩ := hT
    refine rr_baload (v := I (m + 1) x2) dX4_isLike_87 (wX4_l0 hm) (wX4_a0 hm) (by decide) hc1 rfl (fun hr2 => ?_)
    replace hT := hT hr2
    refine r_aload_n dX4_isLike_88 rfl (i := 1) rfl ?_
    refine rr_getR (b := (p1 + 1)) dX4_isLike_89 fg_X4_9 rfl rfl (wX4_l hp1) (wX4_s hp1) (wX4_r0 hp1) ?_
    refine r_iload_n dX4_isLike_92 rfl (i := 2) rfl ?_
    obtain ⟨hc3, hT⟩ := hT
    refine rr_baload (v := I (p1 + 1) x2) dX4_isLike_93 (wX4_l0 hp1) (wX4_a0 hp1) (by decide) hc3 rfl (fun hr4 => ?_)
    replace hT := hT hr4
    refine r_icmp_eq (tgt := 99) dX4_isLike_94 rfl (hI _ _).inR (hI _ _).inR (fun hcc => ?_) (fun hcc => ?_)
    · replace hT := hT.1 hcc
      obtain ⟨hc5, hT⟩ := hT
      refine rr_iinc (i := 2) (ls' := [VR m, VR p1, VI (x2 + 1)]) dX4_isLike_99 rfl (Nat.le_of_ble_eq_true rfl) rfl rfl hc5 ?_
      refine r_goto (tgt := 74) dX4_isLike_102 rfl ?_
      exact hT I0 hF
    · replace hT := hT.2 hcc
      refine r_iconst (n := 0) dX4_isLike_97 ?_
      exact r_zret dX4_isLike_98 rfl ⟨by decide, by decide⟩ ⟨Nat.zero_le _, Nat.zero_le _⟩ ⟨_, rfl, rfl, hF, hT⟩
set_option maxRecDepth 20000 in
theorem st_X4_isLike_26 {E : jE} {G : jG} {I : jM} {q : Int → jM → Prop} {m : Nat} {p1 : Nat} {x2 : Int} (hm : WX4 G m) (hp1 : WX4 G p1) (hT : (∀ a j, jRg (G.2.1 a).1 (I a j)) → jIn x2 → (((I m 5) ≤ x2 → jOI E jB kX4_isLike 74 [VR m, VR p1, VI 0] G I q) ∧ (¬ (I m 5) ≤ x2 → ((0 : Int) ≤ x2 ∧ (x2 : Int) < 8) ∧ ((0 : Int) ≤ x2 ∧ (x2 : Int) < 8) ∧ ((¬ (I (m + 3) x2) = (I (p1 + 3) x2) → q 0 I) ∧ ((I (m + 3) x2) = (I (p1 + 3) x2) → ((0 : Int) ≤ x2 ∧ (x2 : Int) < 8) ∧ ((0 : Int) ≤ x2 ∧ (x2 : Int) < 8) ∧ (((I (m + 4) x2) = (I (p1 + 4) x2) → jIn (x2 + 1) ∧ jOI E jB kX4_isLike 26 [VR m, VR p1, VI (x2 + 1)] G I q) ∧ (¬ (I (m + 4) x2) = (I (p1 + 4) x2) → q 0 I))))))) : jOI E jB kX4_isLike 26 [VR m, VR p1, VI x2] G I q := by
  intro I0 hF
  refine jOk_mem (fun hI => ?_)
  refine jOk_in (i := 2) rfl (fun hx2 => ?_)
  replace hT := hT hI hx2
  refine r_iload_n dX4_isLike_26 rfl (i := 2) rfl ?_
  refine r_aload_n dX4_isLike_27 rfl (i := 0) rfl ?_
  refine rr_getI (v := I m 5) dX4_isLike_28 fg_X4_37 rfl (wX4_l hm) (wX4_s hm) rfl ?_
  refine r_icmp_ge (tgt := 72) dX4_isLike_31 rfl hx2 (hI _ _).inR (fun hcc => ?_) (fun hcc => ?_)
  · replace hT := hT.1 hcc
    refine r_iconst (n := 0) dX4_isLike_72 ?_
    refine rr_istore_n (i := 2) (ls' := [VR m, VR p1, VI 0]) dX4_isLike_73 rfl (Nat.le_of_ble_eq_true rfl) rfl rfl ⟨by decide, by decide⟩ ?_
    exact hT I0 hF
  · replace hT := hT.2 hcc
    refine r_aload_n dX4_isLike_34 rfl (i := 0) rfl ?_
    refine rr_getR (b := (m + 3)) dX4_isLike_35 fg_X4_18 rfl rfl (wX4_l hm) (wX4_s hm) (wX4_r3 hm) ?_
    refine r_iload_n dX4_isLike_38 rfl (i := 2) rfl ?_
    obtain ⟨hc1, hT⟩ := hT
    refine rr_iaload (v := I (m + 3) x2) dX4_isLike_39 (wX4_l3 hm) (wX4_a3 hm) (by decide) hc1 rfl ?_
    refine r_aload_n dX4_isLike_40 rfl (i := 1) rfl ?_
    refine rr_getR (b := (p1 + 3)) dX4_isLike_41 fg_X4_18 rfl rfl (wX4_l hp1) (wX4_s hp1) (wX4_r3 hp1) ?_
    refine r_iload_n dX4_isLike_44 rfl (i := 2) rfl ?_
    obtain ⟨hc2, hT⟩ := hT
    refine rr_iaload (v := I (p1 + 3) x2) dX4_isLike_45 (wX4_l3 hp1) (wX4_a3 hp1) (by decide) hc2 rfl ?_
    refine r_icmp_ne (tgt := 64) dX4_isLike_46 rfl (hI _ _).inR (hI _ _).inR (fun hcc => ?_) (fun hcc => ?_)
    · replace hT := hT.1 hcc
      refine r_iconst (n := 0) dX4_isLike_64 ?_
      exact r_zret dX4_isLike_65 rfl ⟨by decide, by decide⟩ ⟨Nat.zero_le _, Nat.zero_le _⟩ ⟨_, rfl, rfl, hF, hT⟩
    · replace hT := hT.2 hcc
      refine r_aload_n dX4_isLike_49 rfl (i := 0) rfl ?_
      refine rr_getR (b := (m + 4)) dX4_isLike_50 fg_X4_22 rfl rfl (wX4_l hm) (wX4_s hm) (wX4_r4 hm) ?_
      refine r_iload_n dX4_isLike_53 rfl (i := 2) rfl ?_
      obtain ⟨hc3, hT⟩ := hT
      refine rr_iaload (v := I (m + 4) x2) dX4_isLike_54 (wX4_l4 hm) (wX4_a4 hm) (by decide) hc3 rfl ?_
      refine r_aload_n dX4_isLike_55 rfl (i := 1) rfl ?_
      refine rr_getR (b := (p1 + 4)) dX4_isLike_56 fg_X4_22 rfl rfl (wX4_l hp1) (wX4_s hp1) (wX4_r4 hp1) ?_
      refine r_iload_n dX4_isLike_59 rfl (i := 2) rfl ?_
      obtain ⟨hc4, hT⟩ := hT
      refine rr_iaload (v := I (p1 + 4) x2) dX4_isLike_60 (wX4_l4 hp1) (wX4_a4 hp1) (by decide) hc4 rfl ?_
      refine r_icmp_eq (tgt := 66) dX4_isLike_61 rfl (hI _ _).inR (hI _ _).inR (fun hcc => ?_) (fun hcc => ?_)
      · replace hT := hT.1 hcc
        obtain ⟨hc5, hT⟩ := hT
        refine rr_iinc (i := 2) (ls' := [VR m, VR p1, VI (x2 + 1)]) dX4_isLike_66 rfl (Nat.le_of_ble_eq_true rfl) rfl rfl hc5 ?_
        refine r_goto (tgt := 26) dX4_isLike_69 rfl ?_
        exact hT I0 hF
      · replace hT := hT.2 hcc
        refine r_iconst (n := 0) dX4_isLike_64 ?_
        exact r_zret dX4_isLike_65 rfl ⟨by decide, by decide⟩ ⟨Nat.zero_le _, Nat.zero_le _⟩ ⟨_, rfl, rfl, hF, hT⟩
set_option maxRecDepth 20000 in
theorem st_X4_isLike_0 {E : jE} {G : jG} {I : jM} {q : Int → jM → Prop} {m : Nat} {p1 : Nat} (hm : WX4 G m) (hp1 : WX4 G p1) (hT : (∀ a j, jRg (G.2.1 a).1 (I a j)) → ((¬ (I m 2) = (I p1 2) → q 0 I) ∧ ((I m 2) = (I p1 2) → (((I m 5) = (I p1 5) → jOI E jB kX4_isLike 26 [VR m, VR p1, VI 0] G I q) ∧ (¬ (I m 5) = (I p1 5) → q 0 I))))) : jOI E jB kX4_isLike 0 [VR m, VR p1, VN] G I q := by
  intro I0 hF
  refine jOk_mem (fun hI => ?_)
  replace hT := hT hI 
  refine r_aload_n dX4_isLike_0 rfl (i := 0) rfl ?_
  refine rr_getI (v := I m 2) dX4_isLike_1 fg_X4_25 rfl (wX4_l hm) (wX4_s hm) rfl ?_
  refine r_aload_n dX4_isLike_4 rfl (i := 1) rfl ?_
  refine rr_getI (v := I p1 2) dX4_isLike_5 fg_X4_25 rfl (wX4_l hp1) (wX4_s hp1) rfl ?_
  refine r_icmp_ne (tgt := 22) dX4_isLike_8 rfl (hI _ _).inR (hI _ _).inR (fun hcc => ?_) (fun hcc => ?_)
  · replace hT := hT.1 hcc
    refine r_iconst (n := 0) dX4_isLike_22 ?_
    exact r_zret dX4_isLike_23 rfl ⟨by decide, by decide⟩ ⟨Nat.zero_le _, Nat.zero_le _⟩ ⟨_, rfl, rfl, hF, hT⟩
  · replace hT := hT.2 hcc
    refine r_aload_n dX4_isLike_11 rfl (i := 0) rfl ?_
    refine rr_getI (v := I m 5) dX4_isLike_12 fg_X4_37 rfl (wX4_l hm) (wX4_s hm) rfl ?_
    refine r_aload_n dX4_isLike_15 rfl (i := 1) rfl ?_
    refine rr_getI (v := I p1 5) dX4_isLike_16 fg_X4_37 rfl (wX4_l hp1) (wX4_s hp1) rfl ?_
    refine r_icmp_eq (tgt := 24) dX4_isLike_19 rfl (hI _ _).inR (hI _ _).inR (fun hcc => ?_) (fun hcc => ?_)
    · replace hT := hT.1 hcc
      refine r_iconst (n := 0) dX4_isLike_24 ?_
      refine rr_istore_n (i := 2) (ls' := [VR m, VR p1, VI 0]) dX4_isLike_25 rfl (Nat.le_of_ble_eq_true rfl) rfl rfl ⟨by decide, by decide⟩ ?_
      exact hT I0 hF
    · replace hT := hT.2 hcc
      refine r_iconst (n := 0) dX4_isLike_22 ?_
      exact r_zret dX4_isLike_23 rfl ⟨by decide, by decide⟩ ⟨Nat.zero_le _, Nat.zero_le _⟩ ⟨_, rfl, rfl, hF, hT⟩
theorem en_X4_isLike {E : jE} {G : jG} {I : jM} {q : Int → jM → Prop} {m : Nat} {p1 : Nat} (hm : WX4 G m) (hp1 : WX4 G p1) (hT : (∀ a j, jRg (G.2.1 a).1 (I a j)) → ((¬ (I m 2) = (I p1 2) → q 0 I) ∧ ((I m 2) = (I p1 2) → (((I m 5) = (I p1 5) → jOI E jB kX4_isLike 26 [VR m, VR p1, VI 0] G I q) ∧ (¬ (I m 5) = (I p1 5) → q 0 I))))) : jRI E jB kX4_isLike [VR m, VR p1] G I q := jRun.of mt_X4_isLike.2.2.2 1 rfl (fun _ => st_X4_isLike_0 hm hp1 hT I (fun _ _ => rfl))
set_option maxRecDepth 20000 in
theorem st_X4_countPainted_4 {E : jE} {G : jG} {I : jM} {q : Int → jM → Prop} {m : Nat} {x1 : Int} {x2 : Int} {x3 : Int} (hm : WX4 G m) (hT : (∀ a j, jRg (G.2.1 a).1 (I a j)) → jIn x1 → jIn x2 → jIn x3 → (((I m 2) ≤ x3 → q x2 I) ∧ (¬ (I m 2) ≤ x3 → ((0 : Int) ≤ x3 ∧ (x3 : Int) < 200) ∧ (((-128) ≤ (I (m + 2) x3) ∧ (I (m + 2) x3) ≤ 127) → ((¬ (I (m + 2) x3) = x1 → jIn (x3 + 1) ∧ jOI E jB kX4_countPainted 4 [VR m, VI x1, VI x2, VI (x3 + 1)] G I q) ∧ ((I (m + 2) x3) = x1 → jIn (x2 + 1) ∧ jIn (x3 + 1) ∧ jOI E jB kX4_countPainted 4 [VR m, VI x1, VI (x2 + 1), VI (x3 + 1)] G I q)))))) : jOI E jB kX4_countPainted 4 [VR m, VI x1, VI x2, VI x3] G I q := by
  intro I0 hF
  refine jOk_mem (fun hI => ?_)
  refine jOk_in (i := 1) rfl (fun hx1 => ?_)
  refine jOk_in (i := 2) rfl (fun hx2 => ?_)
  refine jOk_in (i := 3) rfl (fun hx3 => ?_)
  replace hT := hT hI hx1 hx2 hx3
  refine r_iload_n dX4_countPainted_4 rfl (i := 3) rfl ?_
  refine r_aload_n dX4_countPainted_5 rfl (i := 0) rfl ?_
  refine rr_getI (v := I m 2) dX4_countPainted_6 fg_X4_25 rfl (wX4_l hm) (wX4_s hm) rfl ?_
  refine r_icmp_ge (tgt := 31) dX4_countPainted_9 rfl hx3 (hI _ _).inR (fun hcc => ?_) (fun hcc => ?_)
  · replace hT := hT.1 hcc
    refine r_iload_n dX4_countPainted_31 rfl (i := 2) rfl ?_
    exact r_iret dX4_countPainted_32 rfl hx2 ⟨Nat.zero_le _, Nat.zero_le _⟩ ⟨_, rfl, rfl, hF, hT⟩
  · replace hT := hT.2 hcc
    refine r_aload_n dX4_countPainted_12 rfl (i := 0) rfl ?_
    refine rr_getR (b := (m + 2)) dX4_countPainted_13 fg_X4_15 rfl rfl (wX4_l hm) (wX4_s hm) (wX4_r1 hm) ?_
    refine r_iload_n dX4_countPainted_16 rfl (i := 3) rfl ?_
    obtain ⟨hc1, hT⟩ := hT
    refine rr_baload (v := I (m + 2) x3) dX4_countPainted_17 (wX4_l1 hm) (wX4_a1 hm) (by decide) hc1 rfl (fun hr2 => ?_)
    replace hT := hT hr2
    refine r_iload_n dX4_countPainted_18 rfl (i := 1) rfl ?_
    refine r_icmp_ne (tgt := 25) dX4_countPainted_19 rfl (hI _ _).inR hx1 (fun hcc => ?_) (fun hcc => ?_)
    · replace hT := hT.1 hcc
      obtain ⟨hc3, hT⟩ := hT
      refine rr_iinc (i := 3) (ls' := [VR m, VI x1, VI x2, VI (x3 + 1)]) dX4_countPainted_25 rfl (Nat.le_of_ble_eq_true rfl) rfl rfl hc3 ?_
      refine r_goto (tgt := 4) dX4_countPainted_28 rfl ?_
      exact hT I0 hF
    · replace hT := hT.2 hcc
      obtain ⟨hc4, hT⟩ := hT
      refine rr_iinc (i := 2) (ls' := [VR m, VI x1, VI (x2 + 1), VI x3]) dX4_countPainted_22 rfl (Nat.le_of_ble_eq_true rfl) rfl rfl hc4 ?_
      obtain ⟨hc5, hT⟩ := hT
      refine rr_iinc (i := 3) (ls' := [VR m, VI x1, VI (x2 + 1), VI (x3 + 1)]) dX4_countPainted_25 rfl (Nat.le_of_ble_eq_true rfl) rfl rfl hc5 ?_
      refine r_goto (tgt := 4) dX4_countPainted_28 rfl ?_
      exact hT I0 hF
set_option maxRecDepth 20000 in
theorem st_X4_countPainted_0 {E : jE} {G : jG} {I : jM} {q : Int → jM → Prop} {m : Nat} {x1 : Int} (hm : WX4 G m) (hT : (∀ a j, jRg (G.2.1 a).1 (I a j)) → jIn x1 → jOI E jB kX4_countPainted 4 [VR m, VI x1, VI 0, VI 0] G I q) : jOI E jB kX4_countPainted 0 [VR m, VI x1, VN, VN] G I q := by
  intro I0 hF
  refine jOk_mem (fun hI => ?_)
  refine jOk_in (i := 1) rfl (fun hx1 => ?_)
  replace hT := hT hI hx1
  refine r_iconst (n := 0) dX4_countPainted_0 ?_
  refine rr_istore_n (i := 2) (ls' := [VR m, VI x1, VI 0, VN]) dX4_countPainted_1 rfl (Nat.le_of_ble_eq_true rfl) rfl rfl ⟨by decide, by decide⟩ ?_
  refine r_iconst (n := 0) dX4_countPainted_2 ?_
  refine rr_istore_n (i := 3) (ls' := [VR m, VI x1, VI 0, VI 0]) dX4_countPainted_3 rfl (Nat.le_of_ble_eq_true rfl) rfl rfl ⟨by decide, by decide⟩ ?_
  exact hT I0 hF
theorem en_X4_countPainted {E : jE} {G : jG} {I : jM} {q : Int → jM → Prop} {m : Nat} {x1 : Int} (hm : WX4 G m) (hT : (∀ a j, jRg (G.2.1 a).1 (I a j)) → jIn x1 → jOI E jB kX4_countPainted 4 [VR m, VI x1, VI 0, VI 0] G I q) : jRI E jB kX4_countPainted [VR m, VI x1] G I q := jRun.of mt_X4_countPainted.2.2.2 2 rfl (fun _ => st_X4_countPainted_0 hm hT I (fun _ _ => rfl))
set_option maxRecDepth 20000 in
theorem st_X4_lineOf_4 {E : jE} {G : jG} {I : jM} {q : Int → jM → Prop} {m : Nat} {x1 : Int} {x2 : Int} {x3 : Int} (hm : WX4 G m) (hT : (∀ a j, jRg (G.2.1 a).1 (I a j)) → jIn x1 → jIn x2 → jIn x3 → ((x1 ≤ x3 → q x2 I) ∧ (¬ x1 ≤ x3 → (((I m 2) ≤ x3 → q x2 I) ∧ (¬ (I m 2) ≤ x3 → ((0 : Int) ≤ x3 ∧ (x3 : Int) < 200) ∧ (((-128) ≤ (I (m + 1) x3) ∧ (I (m + 1) x3) ≤ 127) → ((¬ (I (m + 1) x3) = 10 → jIn (x3 + 1) ∧ jOI E jB kX4_lineOf 4 [VR m, VI x1, VI x2, VI (x3 + 1)] G I q) ∧ ((I (m + 1) x3) = 10 → jIn (x2 + 1) ∧ jIn (x3 + 1) ∧ jOI E jB kX4_lineOf 4 [VR m, VI x1, VI (x2 + 1), VI (x3 + 1)] G I q)))))))) : jOI E jB kX4_lineOf 4 [VR m, VI x1, VI x2, VI x3] G I q := by
  intro I0 hF
  refine jOk_mem (fun hI => ?_)
  refine jOk_in (i := 1) rfl (fun hx1 => ?_)
  refine jOk_in (i := 2) rfl (fun hx2 => ?_)
  refine jOk_in (i := 3) rfl (fun hx3 => ?_)
  replace hT := hT hI hx1 hx2 hx3
  refine r_iload_n dX4_lineOf_4 rfl (i := 3) rfl ?_
  refine r_iload_n dX4_lineOf_5 rfl (i := 1) rfl ?_
  refine r_icmp_ge (tgt := 37) dX4_lineOf_6 rfl hx3 hx1 (fun hcc => ?_) (fun hcc => ?_)
  · replace hT := hT.1 hcc
    refine r_iload_n dX4_lineOf_37 rfl (i := 2) rfl ?_
    exact r_iret dX4_lineOf_38 rfl hx2 ⟨Nat.zero_le _, Nat.zero_le _⟩ ⟨_, rfl, rfl, hF, hT⟩
  · replace hT := hT.2 hcc
    refine r_iload_n dX4_lineOf_9 rfl (i := 3) rfl ?_
    refine r_aload_n dX4_lineOf_10 rfl (i := 0) rfl ?_
    refine rr_getI (v := I m 2) dX4_lineOf_11 fg_X4_25 rfl (wX4_l hm) (wX4_s hm) rfl ?_
    refine r_icmp_ge (tgt := 37) dX4_lineOf_14 rfl hx3 (hI _ _).inR (fun hcc => ?_) (fun hcc => ?_)
    · replace hT := hT.1 hcc
      refine r_iload_n dX4_lineOf_37 rfl (i := 2) rfl ?_
      exact r_iret dX4_lineOf_38 rfl hx2 ⟨Nat.zero_le _, Nat.zero_le _⟩ ⟨_, rfl, rfl, hF, hT⟩
    · replace hT := hT.2 hcc
      refine r_aload_n dX4_lineOf_17 rfl (i := 0) rfl ?_
      refine rr_getR (b := (m + 1)) dX4_lineOf_18 fg_X4_9 rfl rfl (wX4_l hm) (wX4_s hm) (wX4_r0 hm) ?_
      refine r_iload_n dX4_lineOf_21 rfl (i := 3) rfl ?_
      obtain ⟨hc1, hT⟩ := hT
      refine rr_baload (v := I (m + 1) x3) dX4_lineOf_22 (wX4_l0 hm) (wX4_a0 hm) (by decide) hc1 rfl (fun hr2 => ?_)
      replace hT := hT hr2
      refine r_bipush (n := 10) dX4_lineOf_23 (by decide +kernel) ?_
      refine r_icmp_ne (tgt := 31) dX4_lineOf_25 rfl (hI _ _).inR ⟨by decide, by decide⟩ (fun hcc => ?_) (fun hcc => ?_)
      · replace hT := hT.1 hcc
        obtain ⟨hc3, hT⟩ := hT
        refine rr_iinc (i := 3) (ls' := [VR m, VI x1, VI x2, VI (x3 + 1)]) dX4_lineOf_31 rfl (Nat.le_of_ble_eq_true rfl) rfl rfl hc3 ?_
        refine r_goto (tgt := 4) dX4_lineOf_34 rfl ?_
        exact hT I0 hF
      · replace hT := hT.2 hcc
        obtain ⟨hc4, hT⟩ := hT
        refine rr_iinc (i := 2) (ls' := [VR m, VI x1, VI (x2 + 1), VI x3]) dX4_lineOf_28 rfl (Nat.le_of_ble_eq_true rfl) rfl rfl hc4 ?_
        obtain ⟨hc5, hT⟩ := hT
        refine rr_iinc (i := 3) (ls' := [VR m, VI x1, VI (x2 + 1), VI (x3 + 1)]) dX4_lineOf_31 rfl (Nat.le_of_ble_eq_true rfl) rfl rfl hc5 ?_
        refine r_goto (tgt := 4) dX4_lineOf_34 rfl ?_
        exact hT I0 hF
set_option maxRecDepth 20000 in
theorem st_X4_lineOf_0 {E : jE} {G : jG} {I : jM} {q : Int → jM → Prop} {m : Nat} {x1 : Int} (hm : WX4 G m) (hT : (∀ a j, jRg (G.2.1 a).1 (I a j)) → jIn x1 → jOI E jB kX4_lineOf 4 [VR m, VI x1, VI 0, VI 0] G I q) : jOI E jB kX4_lineOf 0 [VR m, VI x1, VN, VN] G I q := by
  intro I0 hF
  refine jOk_mem (fun hI => ?_)
  refine jOk_in (i := 1) rfl (fun hx1 => ?_)
  replace hT := hT hI hx1
  refine r_iconst (n := 0) dX4_lineOf_0 ?_
  refine rr_istore_n (i := 2) (ls' := [VR m, VI x1, VI 0, VN]) dX4_lineOf_1 rfl (Nat.le_of_ble_eq_true rfl) rfl rfl ⟨by decide, by decide⟩ ?_
  refine r_iconst (n := 0) dX4_lineOf_2 ?_
  refine rr_istore_n (i := 3) (ls' := [VR m, VI x1, VI 0, VI 0]) dX4_lineOf_3 rfl (Nat.le_of_ble_eq_true rfl) rfl rfl ⟨by decide, by decide⟩ ?_
  exact hT I0 hF
theorem en_X4_lineOf {E : jE} {G : jG} {I : jM} {q : Int → jM → Prop} {m : Nat} {x1 : Int} (hm : WX4 G m) (hT : (∀ a j, jRg (G.2.1 a).1 (I a j)) → jIn x1 → jOI E jB kX4_lineOf 4 [VR m, VI x1, VI 0, VI 0] G I q) : jRI E jB kX4_lineOf [VR m, VI x1] G I q := jRun.of mt_X4_lineOf.2.2.2 2 rfl (fun _ => st_X4_lineOf_0 hm hT I (fun _ _ => rfl))
set_option maxRecDepth 20000 in
theorem st_X4_columnOf_4 {E : jE} {G : jG} {I : jM} {q : Int → jM → Prop} {m : Nat} {x1 : Int} {x2 : Int} {x3 : Int} (hm : WX4 G m) (hT : (∀ a j, jRg (G.2.1 a).1 (I a j)) → jIn x1 → jIn x2 → jIn x3 → ((x1 ≤ x3 → q x2 I) ∧ (¬ x1 ≤ x3 → (((I m 2) ≤ x3 → q x2 I) ∧ (¬ (I m 2) ≤ x3 → ((0 : Int) ≤ x3 ∧ (x3 : Int) < 200) ∧ (((-128) ≤ (I (m + 1) x3) ∧ (I (m + 1) x3) ≤ 127) → ((¬ (I (m + 1) x3) = 10 → jIn (x2 + 1) ∧ jIn (x3 + 1) ∧ jOI E jB kX4_columnOf 4 [VR m, VI x1, VI (x2 + 1), VI (x3 + 1)] G I q) ∧ ((I (m + 1) x3) = 10 → jIn (x3 + 1) ∧ jOI E jB kX4_columnOf 4 [VR m, VI x1, VI 0, VI (x3 + 1)] G I q)))))))) : jOI E jB kX4_columnOf 4 [VR m, VI x1, VI x2, VI x3] G I q := by
  intro I0 hF
  refine jOk_mem (fun hI => ?_)
  refine jOk_in (i := 1) rfl (fun hx1 => ?_)
  refine jOk_in (i := 2) rfl (fun hx2 => ?_)
  refine jOk_in (i := 3) rfl (fun hx3 => ?_)
  replace hT := hT hI hx1 hx2 hx3
  refine r_iload_n dX4_columnOf_4 rfl (i := 3) rfl ?_
  refine r_iload_n dX4_columnOf_5 rfl (i := 1) rfl ?_
  refine r_icmp_ge (tgt := 42) dX4_columnOf_6 rfl hx3 hx1 (fun hcc => ?_) (fun hcc => ?_)
  · replace hT := hT.1 hcc
    refine r_iload_n dX4_columnOf_42 rfl (i := 2) rfl ?_
    exact r_iret dX4_columnOf_43 rfl hx2 ⟨Nat.zero_le _, Nat.zero_le _⟩ ⟨_, rfl, rfl, hF, hT⟩
  · replace hT := hT.2 hcc
    refine r_iload_n dX4_columnOf_9 rfl (i := 3) rfl ?_
    refine r_aload_n dX4_columnOf_10 rfl (i := 0) rfl ?_
    refine rr_getI (v := I m 2) dX4_columnOf_11 fg_X4_25 rfl (wX4_l hm) (wX4_s hm) rfl ?_
    refine r_icmp_ge (tgt := 42) dX4_columnOf_14 rfl hx3 (hI _ _).inR (fun hcc => ?_) (fun hcc => ?_)
    · replace hT := hT.1 hcc
      refine r_iload_n dX4_columnOf_42 rfl (i := 2) rfl ?_
      exact r_iret dX4_columnOf_43 rfl hx2 ⟨Nat.zero_le _, Nat.zero_le _⟩ ⟨_, rfl, rfl, hF, hT⟩
    · replace hT := hT.2 hcc
      refine r_aload_n dX4_columnOf_17 rfl (i := 0) rfl ?_
      refine rr_getR (b := (m + 1)) dX4_columnOf_18 fg_X4_9 rfl rfl (wX4_l hm) (wX4_s hm) (wX4_r0 hm) ?_
      refine r_iload_n dX4_columnOf_21 rfl (i := 3) rfl ?_
      obtain ⟨hc1, hT⟩ := hT
      refine rr_baload (v := I (m + 1) x3) dX4_columnOf_22 (wX4_l0 hm) (wX4_a0 hm) (by decide) hc1 rfl (fun hr2 => ?_)
      replace hT := hT hr2
      refine r_bipush (n := 10) dX4_columnOf_23 (by decide +kernel) ?_
      refine r_icmp_ne (tgt := 32) dX4_columnOf_25 rfl (hI _ _).inR ⟨by decide, by decide⟩ (fun hcc => ?_) (fun hcc => ?_)
      · replace hT := hT.1 hcc
        refine r_iload_n dX4_columnOf_32 rfl (i := 2) rfl ?_
        refine r_iconst (n := 1) dX4_columnOf_33 ?_
        refine r_iadd dX4_columnOf_34 ?_
        obtain ⟨hc3, hT⟩ := hT
        refine rr_istore_n (i := 2) (ls' := [VR m, VI x1, VI (x2 + 1), VI x3]) dX4_columnOf_35 rfl (Nat.le_of_ble_eq_true rfl) rfl rfl hc3 ?_
        obtain ⟨hc4, hT⟩ := hT
        refine rr_iinc (i := 3) (ls' := [VR m, VI x1, VI (x2 + 1), VI (x3 + 1)]) dX4_columnOf_36 rfl (Nat.le_of_ble_eq_true rfl) rfl rfl hc4 ?_
        refine r_goto (tgt := 4) dX4_columnOf_39 rfl ?_
        exact hT I0 hF
      · replace hT := hT.2 hcc
        refine r_iconst (n := 0) dX4_columnOf_28 ?_
        refine r_goto (tgt := 35) dX4_columnOf_29 rfl ?_
        refine rr_istore_n (i := 2) (ls' := [VR m, VI x1, VI 0, VI x3]) dX4_columnOf_35 rfl (Nat.le_of_ble_eq_true rfl) rfl rfl ⟨by decide, by decide⟩ ?_
        obtain ⟨hc5, hT⟩ := hT
        refine rr_iinc (i := 3) (ls' := [VR m, VI x1, VI 0, VI (x3 + 1)]) dX4_columnOf_36 rfl (Nat.le_of_ble_eq_true rfl) rfl rfl hc5 ?_
        refine r_goto (tgt := 4) dX4_columnOf_39 rfl ?_
        exact hT I0 hF
set_option maxRecDepth 20000 in
theorem st_X4_columnOf_0 {E : jE} {G : jG} {I : jM} {q : Int → jM → Prop} {m : Nat} {x1 : Int} (hm : WX4 G m) (hT : (∀ a j, jRg (G.2.1 a).1 (I a j)) → jIn x1 → jOI E jB kX4_columnOf 4 [VR m, VI x1, VI 0, VI 0] G I q) : jOI E jB kX4_columnOf 0 [VR m, VI x1, VN, VN] G I q := by
  intro I0 hF
  refine jOk_mem (fun hI => ?_)
  refine jOk_in (i := 1) rfl (fun hx1 => ?_)
  replace hT := hT hI hx1
  refine r_iconst (n := 0) dX4_columnOf_0 ?_
  refine rr_istore_n (i := 2) (ls' := [VR m, VI x1, VI 0, VN]) dX4_columnOf_1 rfl (Nat.le_of_ble_eq_true rfl) rfl rfl ⟨by decide, by decide⟩ ?_
  refine r_iconst (n := 0) dX4_columnOf_2 ?_
  refine rr_istore_n (i := 3) (ls' := [VR m, VI x1, VI 0, VI 0]) dX4_columnOf_3 rfl (Nat.le_of_ble_eq_true rfl) rfl rfl ⟨by decide, by decide⟩ ?_
  exact hT I0 hF
theorem en_X4_columnOf {E : jE} {G : jG} {I : jM} {q : Int → jM → Prop} {m : Nat} {x1 : Int} (hm : WX4 G m) (hT : (∀ a j, jRg (G.2.1 a).1 (I a j)) → jIn x1 → jOI E jB kX4_columnOf 4 [VR m, VI x1, VI 0, VI 0] G I q) : jRI E jB kX4_columnOf [VR m, VI x1] G I q := jRun.of mt_X4_columnOf.2.2.2 2 rfl (fun _ => st_X4_columnOf_0 hm hT I (fun _ _ => rfl))
set_option maxRecDepth 20000 in
theorem st_X4_countLines_0 {E : jE} {G : jG} {I : jM} {q : Int → jM → Prop} {m : Nat} (hm : WX4 G m) (hT : (∀ a j, jRg (G.2.1 a).1 (I a j)) → jRI E jB kX4_lineOf [VR m, VI (I m 2)] G I (fun r2 I1 => jIn (r2 + 1) ∧ q (r2 + 1) I1)) : jOI E jB kX4_countLines 0 [VR m] G I q := by
  intro I0 hF
  refine jOk_mem (fun hI => ?_)
  replace hT := hT hI 
  refine r_aload_n dX4_countLines_0 rfl (i := 0) rfl ?_
  refine r_aload_n dX4_countLines_1 rfl (i := 0) rfl ?_
  refine rr_getI (v := I m 2) dX4_countLines_2 fg_X4_25 rfl (wX4_l hm) (wX4_s hm) rfl ?_
  refine rr_cVI (a := m) (as := [VI (I m 2)]) (st := []) dX4_countLines_5 mt_X4_lineOf ml_X4_50 mi_X4_lineOf rm_X4_countLines_X4_lineOf jz_X4_lineOf ⟨Nat.zero_le _, Nat.zero_le _⟩ (Nat.le_of_ble_eq_true rfl) (wX4_l hm) (wX4_c hm) (jasI (hI _ _).inR jas0) hT (fun r2 I1 hc3 hFI1 hT => ?_)
  replace hFI1 := jFr_tr hF hFI1
  refine jOk_mem (fun hI1 => ?_)
  refine r_iconst (n := 1) dX4_countLines_8 ?_
  refine r_iadd dX4_countLines_9 ?_
  obtain ⟨hc4, hT⟩ := hT
  exact r_iret dX4_countLines_10 rfl hc4 ⟨Nat.zero_le _, Nat.zero_le _⟩ ⟨_, rfl, rfl, hFI1, hT⟩
theorem en_X4_countLines {E : jE} {G : jG} {I : jM} {q : Int → jM → Prop} {m : Nat} (hm : WX4 G m) (hT : (∀ a j, jRg (G.2.1 a).1 (I a j)) → jRI E jB kX4_lineOf [VR m, VI (I m 2)] G I (fun r2 I1 => jIn (r2 + 1) ∧ q (r2 + 1) I1)) : jRI E jB kX4_countLines [VR m] G I q := jRun.of mt_X4_countLines.2.2.2 0 rfl (fun _ => st_X4_countLines_0 hm hT I (fun _ _ => rfl))
set_option maxRecDepth 20000 in
theorem st_X4_longestLine_6 {E : jE} {G : jG} {I : jM} {q : Int → jM → Prop} {m : Nat} {x1 : Int} {x2 : Int} {x3 : Int} (hm : WX4 G m) (hT : (∀ a j, jRg (G.2.1 a).1 (I a j)) → jIn x1 → jIn x2 → jIn x3 → (((I m 2) ≤ x3 → q x1 I) ∧ (¬ (I m 2) ≤ x3 → ((0 : Int) ≤ x3 ∧ (x3 : Int) < 200) ∧ (((-128) ≤ (I (m + 1) x3) ∧ (I (m + 1) x3) ≤ 127) → ((¬ (I (m + 1) x3) = 10 → jIn (x2 + 1) ∧ jIn (x3 + 1) ∧ jOI E jB kX4_longestLine 6 [VR m, VI (max x1 (x2 + 1)), VI (x2 + 1), VI (x3 + 1)] G I q) ∧ ((I (m + 1) x3) = 10 → jIn (x3 + 1) ∧ jOI E jB kX4_longestLine 6 [VR m, VI (max x1 0), VI 0, VI (x3 + 1)] G I q)))))) : jOI E jB kX4_longestLine 6 [VR m, VI x1, VI x2, VI x3] G I q := by
  intro I0 hF
  refine jOk_mem (fun hI => ?_)
  refine jOk_in (i := 1) rfl (fun hx1 => ?_)
  refine jOk_in (i := 2) rfl (fun hx2 => ?_)
  refine jOk_in (i := 3) rfl (fun hx3 => ?_)
  replace hT := hT hI hx1 hx2 hx3
  refine r_iload_n dX4_longestLine_6 rfl (i := 3) rfl ?_
  refine r_aload_n dX4_longestLine_7 rfl (i := 0) rfl ?_
  refine rr_getI (v := I m 2) dX4_longestLine_8 fg_X4_25 rfl (wX4_l hm) (wX4_s hm) rfl ?_
  refine r_icmp_ge (tgt := 45) dX4_longestLine_11 rfl hx3 (hI _ _).inR (fun hcc => ?_) (fun hcc => ?_)
  · replace hT := hT.1 hcc
    refine r_iload_n dX4_longestLine_45 rfl (i := 1) rfl ?_
    exact r_iret dX4_longestLine_46 rfl hx1 ⟨Nat.zero_le _, Nat.zero_le _⟩ ⟨_, rfl, rfl, hF, hT⟩
  · replace hT := hT.2 hcc
    refine r_aload_n dX4_longestLine_14 rfl (i := 0) rfl ?_
    refine rr_getR (b := (m + 1)) dX4_longestLine_15 fg_X4_9 rfl rfl (wX4_l hm) (wX4_s hm) (wX4_r0 hm) ?_
    refine r_iload_n dX4_longestLine_18 rfl (i := 3) rfl ?_
    obtain ⟨hc1, hT⟩ := hT
    refine rr_baload (v := I (m + 1) x3) dX4_longestLine_19 (wX4_l0 hm) (wX4_a0 hm) (by decide) hc1 rfl (fun hr2 => ?_)
    replace hT := hT hr2
    refine r_bipush (n := 10) dX4_longestLine_20 (by decide +kernel) ?_
    refine r_icmp_ne (tgt := 29) dX4_longestLine_22 rfl (hI _ _).inR ⟨by decide, by decide⟩ (fun hcc => ?_) (fun hcc => ?_)
    · replace hT := hT.1 hcc
      refine r_iload_n dX4_longestLine_29 rfl (i := 2) rfl ?_
      refine r_iconst (n := 1) dX4_longestLine_30 ?_
      refine r_iadd dX4_longestLine_31 ?_
      obtain ⟨hc3, hT⟩ := hT
      refine rr_istore_n (i := 2) (ls' := [VR m, VI x1, VI (x2 + 1), VI x3]) dX4_longestLine_32 rfl (Nat.le_of_ble_eq_true rfl) rfl rfl hc3 ?_
      refine r_iload_n dX4_longestLine_33 rfl (i := 1) rfl ?_
      refine r_iload_n dX4_longestLine_34 rfl (i := 2) rfl ?_
      have hc4 : jIn (max x1 (x2 + 1)) := j_max hx1 hc3
      refine r_mmax (st := []) dX4_longestLine_35 ml_X4_54 w_max ⟨Nat.le_of_ble_eq_true rfl, Nat.le_of_ble_eq_true rfl⟩ ⟨Nat.zero_le _, Nat.zero_le _⟩ hx1 hc3 ?_
      refine rr_istore_n (i := 1) (ls' := [VR m, VI (max x1 (x2 + 1)), VI (x2 + 1), VI x3]) dX4_longestLine_38 rfl (Nat.le_of_ble_eq_true rfl) rfl rfl hc4 ?_
      obtain ⟨hc5, hT⟩ := hT
      refine rr_iinc (i := 3) (ls' := [VR m, VI (max x1 (x2 + 1)), VI (x2 + 1), VI (x3 + 1)]) dX4_longestLine_39 rfl (Nat.le_of_ble_eq_true rfl) rfl rfl hc5 ?_
      refine r_goto (tgt := 6) dX4_longestLine_42 rfl ?_
      exact hT I0 hF
    · replace hT := hT.2 hcc
      refine r_iconst (n := 0) dX4_longestLine_25 ?_
      refine r_goto (tgt := 32) dX4_longestLine_26 rfl ?_
      refine rr_istore_n (i := 2) (ls' := [VR m, VI x1, VI 0, VI x3]) dX4_longestLine_32 rfl (Nat.le_of_ble_eq_true rfl) rfl rfl ⟨by decide, by decide⟩ ?_
      refine r_iload_n dX4_longestLine_33 rfl (i := 1) rfl ?_
      refine r_iload_n dX4_longestLine_34 rfl (i := 2) rfl ?_
      have hc6 : jIn (max x1 0) := j_max hx1 ⟨by decide, by decide⟩
      refine r_mmax (st := []) dX4_longestLine_35 ml_X4_54 w_max ⟨Nat.le_of_ble_eq_true rfl, Nat.le_of_ble_eq_true rfl⟩ ⟨Nat.zero_le _, Nat.zero_le _⟩ hx1 ⟨by decide, by decide⟩ ?_
      refine rr_istore_n (i := 1) (ls' := [VR m, VI (max x1 0), VI 0, VI x3]) dX4_longestLine_38 rfl (Nat.le_of_ble_eq_true rfl) rfl rfl hc6 ?_
      obtain ⟨hc7, hT⟩ := hT
      refine rr_iinc (i := 3) (ls' := [VR m, VI (max x1 0), VI 0, VI (x3 + 1)]) dX4_longestLine_39 rfl (Nat.le_of_ble_eq_true rfl) rfl rfl hc7 ?_
      refine r_goto (tgt := 6) dX4_longestLine_42 rfl ?_
      exact hT I0 hF
set_option maxRecDepth 20000 in
theorem st_X4_longestLine_0 {E : jE} {G : jG} {I : jM} {q : Int → jM → Prop} {m : Nat} (hm : WX4 G m) (hT : (∀ a j, jRg (G.2.1 a).1 (I a j)) → jOI E jB kX4_longestLine 6 [VR m, VI 0, VI 0, VI 0] G I q) : jOI E jB kX4_longestLine 0 [VR m, VN, VN, VN] G I q := by
  intro I0 hF
  refine jOk_mem (fun hI => ?_)
  replace hT := hT hI 
  refine r_iconst (n := 0) dX4_longestLine_0 ?_
  refine rr_istore_n (i := 1) (ls' := [VR m, VI 0, VN, VN]) dX4_longestLine_1 rfl (Nat.le_of_ble_eq_true rfl) rfl rfl ⟨by decide, by decide⟩ ?_
  refine r_iconst (n := 0) dX4_longestLine_2 ?_
  refine rr_istore_n (i := 2) (ls' := [VR m, VI 0, VI 0, VN]) dX4_longestLine_3 rfl (Nat.le_of_ble_eq_true rfl) rfl rfl ⟨by decide, by decide⟩ ?_
  refine r_iconst (n := 0) dX4_longestLine_4 ?_
  refine rr_istore_n (i := 3) (ls' := [VR m, VI 0, VI 0, VI 0]) dX4_longestLine_5 rfl (Nat.le_of_ble_eq_true rfl) rfl rfl ⟨by decide, by decide⟩ ?_
  exact hT I0 hF
theorem en_X4_longestLine {E : jE} {G : jG} {I : jM} {q : Int → jM → Prop} {m : Nat} (hm : WX4 G m) (hT : (∀ a j, jRg (G.2.1 a).1 (I a j)) → jOI E jB kX4_longestLine 6 [VR m, VI 0, VI 0, VI 0] G I q) : jRI E jB kX4_longestLine [VR m] G I q := jRun.of mt_X4_longestLine.2.2.2 3 rfl (fun _ => st_X4_longestLine_0 hm hT I (fun _ _ => rfl))
set_option maxRecDepth 20000 in
theorem st_X4_hash_4 {E : jE} {G : jG} {I : jM} {q : Int → jM → Prop} {m : Nat} {x1 : Int} {x2 : Int} (hm : WX4 G m) (hT : (∀ a j, jRg (G.2.1 a).1 (I a j)) → jIn x1 → jIn x2 → (((I m 2) ≤ x2 → q x1 I) ∧ (¬ (I m 2) ≤ x2 → ((0 : Int) ≤ x2 ∧ (x2 : Int) < 200) ∧ (((-128) ≤ (I (m + 1) x2) ∧ (I (m + 1) x2) ≤ 127) → jIn (x2 + 1) ∧ jOI E jB kX4_hash 4 [VR m, VI (jw ((31 * x1) + (I (m + 1) x2))), VI (x2 + 1)] G I q)))) : jOI E jB kX4_hash 4 [VR m, VI x1, VI x2] G I q := by
  intro I0 hF
  refine jOk_mem (fun hI => ?_)
  refine jOk_in (i := 1) rfl (fun hx1 => ?_)
  refine jOk_in (i := 2) rfl (fun hx2 => ?_)
  replace hT := hT hI hx1 hx2
  refine r_iload_n dX4_hash_4 rfl (i := 2) rfl ?_
  refine r_aload_n dX4_hash_5 rfl (i := 0) rfl ?_
  refine rr_getI (v := I m 2) dX4_hash_6 fg_X4_25 rfl (wX4_l hm) (wX4_s hm) rfl ?_
  refine r_icmp_ge (tgt := 30) dX4_hash_9 rfl hx2 (hI _ _).inR (fun hcc => ?_) (fun hcc => ?_)
  · replace hT := hT.1 hcc
    refine r_iload_n dX4_hash_30 rfl (i := 1) rfl ?_
    exact r_iret dX4_hash_31 rfl hx1 ⟨Nat.zero_le _, Nat.zero_le _⟩ ⟨_, rfl, rfl, hF, hT⟩
  · replace hT := hT.2 hcc
    refine r_bipush (n := 31) dX4_hash_12 (by decide +kernel) ?_
    refine r_iload_n dX4_hash_14 rfl (i := 1) rfl ?_
    refine r_imul dX4_hash_15 ?_
    refine r_aload_n dX4_hash_16 rfl (i := 0) rfl ?_
    refine rr_getR (b := (m + 1)) dX4_hash_17 fg_X4_9 rfl rfl (wX4_l hm) (wX4_s hm) (wX4_r0 hm) ?_
    refine r_iload_n dX4_hash_20 rfl (i := 2) rfl ?_
    obtain ⟨hc1, hT⟩ := hT
    refine rr_baload (v := I (m + 1) x2) dX4_hash_21 (wX4_l0 hm) (wX4_a0 hm) (by decide) hc1 rfl (fun hr2 => ?_)
    replace hT := hT hr2
    refine r_iadd dX4_hash_22 ?_
    refine r_w ?_
    refine rr_istore_n (i := 1) (ls' := [VR m, VI (jw ((31 * x1) + (I (m + 1) x2))), VI x2]) dX4_hash_23 rfl (Nat.le_of_ble_eq_true rfl) rfl rfl (j32_in _) ?_
    obtain ⟨hc3, hT⟩ := hT
    refine rr_iinc (i := 2) (ls' := [VR m, VI (jw ((31 * x1) + (I (m + 1) x2))), VI (x2 + 1)]) dX4_hash_24 rfl (Nat.le_of_ble_eq_true rfl) rfl rfl hc3 ?_
    refine r_goto (tgt := 4) dX4_hash_27 rfl ?_
    exact hT I0 hF
set_option maxRecDepth 20000 in
theorem st_X4_hash_0 {E : jE} {G : jG} {I : jM} {q : Int → jM → Prop} {m : Nat} (hm : WX4 G m) (hT : (∀ a j, jRg (G.2.1 a).1 (I a j)) → jOI E jB kX4_hash 4 [VR m, VI 0, VI 0] G I q) : jOI E jB kX4_hash 0 [VR m, VN, VN] G I q := by
  intro I0 hF
  refine jOk_mem (fun hI => ?_)
  replace hT := hT hI 
  refine r_iconst (n := 0) dX4_hash_0 ?_
  refine rr_istore_n (i := 1) (ls' := [VR m, VI 0, VN]) dX4_hash_1 rfl (Nat.le_of_ble_eq_true rfl) rfl rfl ⟨by decide, by decide⟩ ?_
  refine r_iconst (n := 0) dX4_hash_2 ?_
  refine rr_istore_n (i := 2) (ls' := [VR m, VI 0, VI 0]) dX4_hash_3 rfl (Nat.le_of_ble_eq_true rfl) rfl rfl ⟨by decide, by decide⟩ ?_
  exact hT I0 hF
theorem en_X4_hash {E : jE} {G : jG} {I : jM} {q : Int → jM → Prop} {m : Nat} (hm : WX4 G m) (hT : (∀ a j, jRg (G.2.1 a).1 (I a j)) → jOI E jB kX4_hash 4 [VR m, VI 0, VI 0] G I q) : jRI E jB kX4_hash [VR m] G I q := jRun.of mt_X4_hash.2.2.2 2 rfl (fun _ => st_X4_hash_0 hm hT I (fun _ _ => rfl))
set_option maxRecDepth 20000 in
theorem st_X0_closerOf_0 {E : jE} {A : Nat → Prop} {G : jG} {I : jM} {q : Int → jM → Prop} {x0 : Int}  (hT : (∀ a j, jRg (G.2.1 a).1 (I a j)) → jIn x0 → ((x0 = 40 → q 41 I) ∧ (x0 = 91 → q 93 I) ∧ (x0 = 123 → q 125 I) ∧ (¬ x0 = 40 ∧ ¬ x0 = 91 ∧ ¬ x0 = 123 → q (-1) I))) : jOI E A kX0_closerOf 0 [VI x0] G I q := by
  intro I0 hF
  refine jOk_mem (fun hI => ?_)
  refine jOk_in (i := 0) rfl (fun hx0 => ?_)
  replace hT := hT hI hx0
  refine r_iload_n dX0_closerOf_0 rfl (i := 0) rfl ?_
  by_cases hl0 : x0 = 40
  · replace hT := hT.1 hl0
    refine r_lsw (tgt := 36) (off := 35) dX0_closerOf_1 rfl hx0 (by rw [hl0]; rfl) rfl ?_
    refine r_bipush (n := 41) dX0_closerOf_36 (by decide +kernel) ?_
    exact r_iret dX0_closerOf_38 rfl ⟨by decide, by decide⟩ ⟨Nat.zero_le _, Nat.zero_le _⟩ ⟨_, rfl, rfl, hF, hT⟩
  · skip
    by_cases hl1 : x0 = 91
    · replace hT := hT.2.1 hl1
      refine r_lsw (tgt := 39) (off := 38) dX0_closerOf_1 rfl hx0 (by rw [hl1]; rfl) rfl ?_
      refine r_bipush (n := 93) dX0_closerOf_39 (by decide +kernel) ?_
      exact r_iret dX0_closerOf_41 rfl ⟨by decide, by decide⟩ ⟨Nat.zero_le _, Nat.zero_le _⟩ ⟨_, rfl, rfl, hF, hT⟩
    · skip
      by_cases hl2 : x0 = 123
      · replace hT := hT.2.2.1 hl2
        refine r_lsw (tgt := 42) (off := 41) dX0_closerOf_1 rfl hx0 (by rw [hl2]; rfl) rfl ?_
        refine r_bipush (n := 125) dX0_closerOf_42 (by decide +kernel) ?_
        exact r_iret dX0_closerOf_44 rfl ⟨by decide, by decide⟩ ⟨Nat.zero_le _, Nat.zero_le _⟩ ⟨_, rfl, rfl, hF, hT⟩
      · skip
        replace hT := hT.2.2.2 ⟨hl0, hl1, hl2⟩
        refine r_lsw (tgt := 45) (off := 44) dX0_closerOf_1 rfl hx0 (by simp [Op.lookupswitch.offset, Ne.symm hl0, Ne.symm hl1, Ne.symm hl2]) rfl ?_
        refine r_iconst (n := (-1)) dX0_closerOf_45 ?_
        exact r_iret dX0_closerOf_46 rfl ⟨by decide, by decide⟩ ⟨Nat.zero_le _, Nat.zero_le _⟩ ⟨_, rfl, rfl, hF, hT⟩
theorem en_X0_closerOf {E : jE} {A : Nat → Prop} {G : jG} {I : jM} {q : Int → jM → Prop} {x0 : Int}  (hT : (∀ a j, jRg (G.2.1 a).1 (I a j)) → jIn x0 → ((x0 = 40 → q 41 I) ∧ (x0 = 91 → q 93 I) ∧ (x0 = 123 → q 125 I) ∧ (¬ x0 = 40 ∧ ¬ x0 = 91 ∧ ¬ x0 = 123 → q (-1) I))) : jRI E A kX0_closerOf [VI x0] G I q := jRun.of mt_X0_closerOf.2.2.2 0 rfl (fun _ => st_X0_closerOf_0  hT I (fun _ _ => rfl))
set_option maxRecDepth 20000 in
theorem st_X0_isCloser_0 {E : jE} {A : Nat → Prop} {G : jG} {I : jM} {q : Int → jM → Prop} {x0 : Int}  (hT : (∀ a j, jRg (G.2.1 a).1 (I a j)) → jIn x0 → ((x0 = 41 → q 1 I) ∧ (¬ x0 = 41 → ((x0 = 93 → q 1 I) ∧ (¬ x0 = 93 → ((¬ x0 = 125 → q 0 I) ∧ (x0 = 125 → q 1 I))))))) : jOI E A kX0_isCloser 0 [VI x0] G I q := by
  intro I0 hF
  refine jOk_mem (fun hI => ?_)
  refine jOk_in (i := 0) rfl (fun hx0 => ?_)
  replace hT := hT hI hx0
  refine r_iload_n dX0_isCloser_0 rfl (i := 0) rfl ?_
  refine r_bipush (n := 41) dX0_isCloser_1 (by decide +kernel) ?_
  refine r_icmp_eq (tgt := 18) dX0_isCloser_3 rfl hx0 ⟨by decide, by decide⟩ (fun hcc => ?_) (fun hcc => ?_)
  · replace hT := hT.1 hcc
    refine r_iconst (n := 1) dX0_isCloser_18 ?_
    refine r_goto (tgt := 23) dX0_isCloser_19 rfl ?_
    exact r_zret dX0_isCloser_23 rfl ⟨by decide, by decide⟩ ⟨Nat.zero_le _, Nat.zero_le _⟩ ⟨_, rfl, rfl, hF, hT⟩
  · replace hT := hT.2 hcc
    refine r_iload_n dX0_isCloser_6 rfl (i := 0) rfl ?_
    refine r_bipush (n := 93) dX0_isCloser_7 (by decide +kernel) ?_
    refine r_icmp_eq (tgt := 18) dX0_isCloser_9 rfl hx0 ⟨by decide, by decide⟩ (fun hcc => ?_) (fun hcc => ?_)
    · replace hT := hT.1 hcc
      refine r_iconst (n := 1) dX0_isCloser_18 ?_
      refine r_goto (tgt := 23) dX0_isCloser_19 rfl ?_
      exact r_zret dX0_isCloser_23 rfl ⟨by decide, by decide⟩ ⟨Nat.zero_le _, Nat.zero_le _⟩ ⟨_, rfl, rfl, hF, hT⟩
    · replace hT := hT.2 hcc
      refine r_iload_n dX0_isCloser_12 rfl (i := 0) rfl ?_
      refine r_bipush (n := 125) dX0_isCloser_13 (by decide +kernel) ?_
      refine r_icmp_ne (tgt := 22) dX0_isCloser_15 rfl hx0 ⟨by decide, by decide⟩ (fun hcc => ?_) (fun hcc => ?_)
      · replace hT := hT.1 hcc
        refine r_iconst (n := 0) dX0_isCloser_22 ?_
        exact r_zret dX0_isCloser_23 rfl ⟨by decide, by decide⟩ ⟨Nat.zero_le _, Nat.zero_le _⟩ ⟨_, rfl, rfl, hF, hT⟩
      · replace hT := hT.2 hcc
        refine r_iconst (n := 1) dX0_isCloser_18 ?_
        refine r_goto (tgt := 23) dX0_isCloser_19 rfl ?_
        exact r_zret dX0_isCloser_23 rfl ⟨by decide, by decide⟩ ⟨Nat.zero_le _, Nat.zero_le _⟩ ⟨_, rfl, rfl, hF, hT⟩
theorem en_X0_isCloser {E : jE} {A : Nat → Prop} {G : jG} {I : jM} {q : Int → jM → Prop} {x0 : Int}  (hT : (∀ a j, jRg (G.2.1 a).1 (I a j)) → jIn x0 → ((x0 = 41 → q 1 I) ∧ (¬ x0 = 41 → ((x0 = 93 → q 1 I) ∧ (¬ x0 = 93 → ((¬ x0 = 125 → q 0 I) ∧ (x0 = 125 → q 1 I))))))) : jRI E A kX0_isCloser [VI x0] G I q := jRun.of mt_X0_isCloser.2.2.2 0 rfl (fun _ => st_X0_isCloser_0  hT I (fun _ _ => rfl))
def clo (c : Int) : Int := if c = 40 then 41 else if c = 91 then 93 else if c = 123 then 125 else -1
theorem sp_X0_closerOf {E : jE} {A : Nat → Prop} {G : jG} {I : jM} {c : Int} : jRI E A kX0_closerOf [VI c] G I (fun x I' => x = clo c ∧ I' = I) := by
  unfold clo
  refine en_X0_closerOf (fun _ _ => ⟨fun q => ⟨by rw [if_pos q], rfl⟩, fun q => ⟨by rw [if_neg (by omega), if_pos q], rfl⟩, fun q => ⟨by rw [if_neg (by omega), if_neg (by omega), if_pos q], rfl⟩, fun q => ⟨by rw [if_neg q.1, if_neg q.2.1, if_neg q.2.2], rfl⟩⟩)
theorem sp_X0_isCloser {E : jE} {A : Nat → Prop} {G : jG} {I : jM} {c : Int} : jRI E A kX0_isCloser [VI c] G I (fun x I' => x = jI (0 < sht c) ∧ I' = I) := by
  have y : (c = 41 ∨ c = 93 ∨ c = 125) → 0 < sht c := fun h => by
    unfold sht
    split
    · decide
    · split
      · decide
      · rw [if_pos (by omega)]; decide
  have n : ¬ (c = 41 ∨ c = 93 ∨ c = 125) → ¬ 0 < sht c := fun h => by
    unfold sht
    rw [if_neg (by omega), if_neg (by omega), if_neg (by omega)]
    decide
  refine en_X0_isCloser (fun _ _ => ?_)
  repeat' (first | exact ⟨(jI_pos (y (by omega))).symm, rfl⟩ | exact ⟨(jI_neg (n (by omega))).symm, rfl⟩ | refine ⟨fun _ => ?_, fun _ => ?_⟩)
theorem clo_opn {c : Int} : clo c = -1 ↔ ¬ 0 < opn c := by
  unfold clo opn
  split
  · simp
  · split
    · simp
    · split <;> simp
theorem clo_sht {x b : Int} (h : 0 < sht b) : clo x = b ↔ opn x = sht b := by
  have hb : (b = 41 ∧ sht b = 1) ∨ (b = 93 ∧ sht b = 2) ∨ (b = 125 ∧ sht b = 3) := by
    unfold sht at h ⊢
    split
    · exact Or.inl ⟨by assumption, rfl⟩
    · rename_i q1
      rw [if_neg q1] at h
      split
      · exact Or.inr (Or.inl ⟨by assumption, rfl⟩)
      · rename_i q2
        rw [if_neg q2] at h
        split
        · exact Or.inr (Or.inr ⟨by assumption, rfl⟩)
        · rename_i q3
          rw [if_neg q3] at h
          exact absurd h (by decide)
  unfold clo opn
  split
  · omega
  · split
    · omega
    · split <;> omega
section CP
variable {E : jE} {G : jG} {m p : Nat} {I : jM} {X Y : Int → Int}
theorem cl_isLike (hm : WX4 G m) (hp : WX4 G p) (hX : PG m X I) (hY : PG p Y I) (h3 : X 3 = Y 3) (zX : (∀ i, X 2 ≤ i → i < 200 → X (10 + i) = 0) ∧ ∀ j, 2 * X 3 ≤ j → j < 16 → X (410 + j) = 0) (zY : (∀ i, Y 2 ≤ i → i < 200 → Y (10 + i) = 0) ∧ ∀ j, 2 * Y 3 ≤ j → j < 16 → Y (410 + j) = 0) : jRI E jB kX4_isLike [VR m, VR p] G I (fun x I' => x = jI (likeB X Y) ∧ I' = I) := by
  have x2 := hX.1.1
  have y2 := hY.1.1
  have x3 := hX.2.1
  have y3 := hY.2.1
  have l74 : X 2 = Y 2 → (∀ k, 0 ≤ k → k < X 3 → X (410 + 2 * k) = Y (410 + 2 * k) ∧ X (410 + 2 * k + 1) = Y (410 + 2 * k + 1)) → ∀ (d : Nat) (i : Int), 0 ≤ i → i + d = X 2 → (∀ k, 0 ≤ k → k < i → X (10 + k) = Y (10 + k)) → jOI E jB kX4_isLike 74 [VR m, VR p, VI i] G I (fun x I' => x = jI (likeB X Y) ∧ I' = I) := by
    intro e2 hs d
    induction d with
    | zero =>
      intro i i0 i1 hi
      refine st_X4_isLike_74 hm hp (fun _ _ => ⟨fun _ => ⟨(jI_pos ⟨e2, fun k k0 k1 => ?_, fun k k0 k1 => ?_⟩).symm, rfl⟩, fun q => absurd (by omega) q⟩)
      · by_cases q : k < X 2
        · exact hi k k0 (by omega)
        · rw [zX.1 k (by omega) k1, zY.1 k (by omega) k1]
      · by_cases q : k < 2 * X 3
        · have g := hs (k / 2) (by omega) (by omega)
          by_cases q2 : k % 2 = 0
          · rw [show 410 + k = 410 + 2 * (k / 2) by omega]; exact g.1
          · rw [show 410 + k = 410 + 2 * (k / 2) + 1 by omega]; exact g.2
        · rw [zX.2 k (by omega) k1, zY.2 k (by omega) k1]
    | succ d ih =>
      intro i i0 i1 hi
      refine st_X4_isLike_74 hm hp (fun _ _ => ⟨fun q => absurd q (by omega), fun _ => ⟨⟨by omega, by omega⟩, fun _ => ⟨⟨by omega, by omega⟩, fun _ => ?_⟩⟩⟩)
      rw [(hX.1.2 i i0 (by omega)).1, (hY.1.2 i i0 (by omega)).1]
      refine ⟨fun q => ⟨⟨by omega, by omega⟩, ih (i + 1) (by omega) (by omega) (fun k k0 k1 => ?_)⟩, fun q => ⟨(jI_neg (fun g => q (g.2.1 i i0 (by omega)))).symm, rfl⟩⟩
      by_cases ek : k = i
      · rw [ek]; exact q
      · exact hi k k0 (by omega)
  have l26 : X 2 = Y 2 → ∀ (d : Nat) (k : Int), 0 ≤ k → k + d = X 3 → (∀ j, 0 ≤ j → j < k → X (410 + 2 * j) = Y (410 + 2 * j) ∧ X (410 + 2 * j + 1) = Y (410 + 2 * j + 1)) → jOI E jB kX4_isLike 26 [VR m, VR p, VI k] G I (fun x I' => x = jI (likeB X Y) ∧ I' = I) := by
    intro e2 d
    induction d with
    | zero =>
      intro k k0 k1 hk
      refine st_X4_isLike_26 hm hp (fun _ _ => ⟨fun _ => l74 e2 (fun j j0 j1 => hk j j0 (by omega)) (X 2).toNat 0 (by omega) (by omega) (fun k k0 k1 => by omega), fun q => absurd (by omega) q⟩)
    | succ d ih =>
      intro k k0 k1 hk
      have gx := hX.2.2 k k0 (by omega)
      have gy := hY.2.2 k k0 (by omega)
      refine st_X4_isLike_26 hm hp (fun _ _ => ⟨fun q => absurd q (by omega), fun _ => ⟨⟨by omega, by omega⟩, ⟨by omega, by omega⟩, ?_⟩⟩)
      rw [gx.1, gx.2, gy.1, gy.2]
      refine ⟨fun q => ⟨(jI_neg (fun g => q ?_)).symm, rfl⟩, fun q => ⟨⟨by omega, by omega⟩, ⟨by omega, by omega⟩, fun q2 => ⟨⟨by omega, by omega⟩, ih (k + 1) (by omega) (by omega) (fun j j0 j1 => ?_)⟩, fun q2 => ⟨(jI_neg (fun g => q2 ?_)).symm, rfl⟩⟩⟩
      · exact g.2.2 (2 * k) (by omega) (by omega)
      · by_cases ek : j = k
        · rw [ek]; exact ⟨q, q2⟩
        · exact hk j j0 (by omega)
      · have := g.2.2 (2 * k + 1) (by omega) (by omega)
        rw [show 410 + (2 * k + 1) = 410 + 2 * k + 1 by omega] at this
        exact this
  refine en_X4_isLike hm hp (fun _ => ⟨fun q => ⟨(jI_neg (fun g => q (by rw [x2.1, y2.1]; exact g.1))).symm, rfl⟩, fun q => ⟨fun _ => l26 (by rw [x2.1, y2.1] at q; exact q) (X 3).toNat 0 (by omega) (by omega) (fun j j0 j1 => by omega), fun q2 => absurd (by omega) q2⟩⟩)
theorem cl_countPainted (hm : WX4 G m) (hX : PB m X I) {r : Int} : jRI E jB kX4_countPainted [VR m, VI r] G I (fun x I' => x = sumJ (fun i => jI (X (210 + i) = r + 1)) 0 (X 2).toNat ∧ I' = I) := by
  have x2 := hX.1
  have loop : ∀ (d : Nat) (i acc : Int), 0 ≤ i → i + d = X 2 → acc + sumJ (fun i => jI (X (210 + i) = r + 1)) i d = sumJ (fun i => jI (X (210 + i) = r + 1)) 0 (X 2).toNat → (0 ≤ acc ∧ acc ≤ i) → jOI E jB kX4_countPainted 4 [VR m, VI r, VI acc, VI i] G I (fun x I' => x = sumJ (fun i => jI (X (210 + i) = r + 1)) 0 (X 2).toNat ∧ I' = I) := by
    intro d
    induction d with
    | zero =>
      intro i acc i0 i1 ha hb
      have ha' : acc + 0 = sumJ (fun i => jI (X (210 + i) = r + 1)) 0 (X 2).toNat := ha
      refine st_X4_countPainted_4 hm (fun _ _ _ _ => ⟨fun _ => ⟨by omega, rfl⟩, fun q => absurd (by omega) q⟩)
    | succ d ih =>
      intro i acc i0 i1 ha hb
      rw [sumJ_s] at ha
      refine st_X4_countPainted_4 hm (fun _ _ _ _ => ⟨fun q => absurd q (by omega), fun _ => ⟨⟨by omega, by omega⟩, fun _ => ?_⟩⟩)
      rw [(hX.2 i i0 (by omega)).2]
      refine ⟨fun q => ?_, fun q => ?_⟩
      · have e1 : jI (X (210 + i) = r + 1) = 0 := jI_neg (by omega)
        exact ⟨⟨by omega, by omega⟩, ih (i + 1) acc (by omega) (by omega) (by rw [← ha]; simp only [e1]; omega) (by omega)⟩
      · have e1 : jI (X (210 + i) = r + 1) = 1 := jI_pos (by omega)
        exact ⟨⟨by omega, by omega⟩, ⟨by omega, by omega⟩, ih (i + 1) (acc + 1) (by omega) (by omega) (by rw [← ha]; simp only [e1]; omega) (by omega)⟩
  exact en_X4_countPainted hm (fun _ _ => loop (X 2).toNat 0 0 (by omega) (by omega) (by omega) (by omega))
theorem cl_lineOf (hm : WX4 G m) (hX : PB m X I) {i : Int} (hi : 0 ≤ i ∧ i ≤ X 2) : jRI E jB kX4_lineOf [VR m, VI i] G I (fun x I' => x = lno X i ∧ (0 ≤ x ∧ x ≤ 200) ∧ I' = I) := by
  have x2 := hX.1
  have loop : ∀ (d : Nat) (k acc : Int), 0 ≤ k → k + d = i → acc + sumJ (fun k => jI (X (10 + k) = 10)) k d = lno X i → (0 ≤ acc ∧ acc ≤ k) → jOI E jB kX4_lineOf 4 [VR m, VI i, VI acc, VI k] G I (fun x I' => x = lno X i ∧ (0 ≤ x ∧ x ≤ 200) ∧ I' = I) := by
    intro d
    induction d with
    | zero =>
      intro k acc k0 k1 ha hb
      have ha' : acc + 0 = lno X i := ha
      refine st_X4_lineOf_4 hm (fun _ _ _ _ => ⟨fun _ => ⟨by omega, by omega, rfl⟩, fun q => absurd (by omega) q⟩)
    | succ d ih =>
      intro k acc k0 k1 ha hb
      rw [sumJ_s] at ha
      refine st_X4_lineOf_4 hm (fun _ _ _ _ => ⟨fun q => absurd q (by omega), fun _ => ⟨fun q => absurd q (by omega), fun _ => ⟨⟨by omega, by omega⟩, fun _ => ?_⟩⟩⟩)
      rw [(hX.2 k k0 (by omega)).1]
      refine ⟨fun q => ?_, fun q => ?_⟩
      · have e1 := jI_neg q
        exact ⟨⟨by omega, by omega⟩, ih (k + 1) acc (by omega) (by omega) (by rw [← ha]; simp only [e1]; omega) (by omega)⟩
      · have e1 := jI_pos q
        exact ⟨⟨by omega, by omega⟩, ⟨by omega, by omega⟩, ih (k + 1) (acc + 1) (by omega) (by omega) (by rw [← ha]; simp only [e1]; omega) (by omega)⟩
  exact en_X4_lineOf hm (fun _ _ => loop i.toNat 0 0 (by omega) (by omega) (by unfold lno; omega) (by omega))
theorem cl_columnOf (hm : WX4 G m) (hX : PB m X I) {i : Int} (hi : 0 ≤ i ∧ i ≤ X 2) : jRI E jB kX4_columnOf [VR m, VI i] G I (fun x I' => x = col X i.toNat ∧ I' = I) := by
  have x2 := hX.1
  have loop : ∀ (d k : Nat), (k : Int) + d = i → jOI E jB kX4_columnOf 4 [VR m, VI i, VI (col X k), VI k] G I (fun x I' => x = col X i.toNat ∧ I' = I) := by
    intro d
    induction d with
    | zero =>
      intro k k1
      refine st_X4_columnOf_4 hm (fun _ _ _ _ => ⟨fun _ => ⟨by rw [show i.toNat = k by omega], rfl⟩, fun q => absurd (by omega) q⟩)
    | succ d ih =>
      intro k k1
      have b := col_bd X k
      have e2 : (k : Int) + 1 = ((k + 1 : Nat) : Int) := by omega
      refine st_X4_columnOf_4 hm (fun _ _ _ _ => ⟨fun q => absurd q (by omega), fun _ => ⟨fun q => absurd q (by omega), fun _ => ⟨⟨by omega, by omega⟩, fun _ => ?_⟩⟩⟩)
      rw [(hX.2 k (by omega) (by omega)).1, e2]
      have g := ih (k + 1) (by omega)
      refine ⟨fun q => ⟨⟨by omega, by omega⟩, ⟨by omega, by omega⟩, ?_⟩, fun q => ⟨⟨by omega, by omega⟩, ?_⟩⟩
      · have e : col X (k + 1) = col X k + 1 := by
          show (if X (10 + (k : Int)) = 10 then 0 else col X k + 1) = _
          rw [if_neg q]
        rw [e] at g
        exact g
      · have e : col X (k + 1) = 0 := by
          show (if X (10 + (k : Int)) = 10 then 0 else col X k + 1) = _
          rw [if_pos q]
        rw [e] at g
        exact g
  exact en_X4_columnOf hm (fun _ _ => loop i.toNat 0 (by omega))
theorem cl_countLines (hm : WX4 G m) (hX : PB m X I) : jRI E jB kX4_countLines [VR m] G I (fun x I' => x = lno X (X 2) + 1 ∧ I' = I) := by
  have x2 := hX.1
  refine en_X4_countLines hm (fun _ => ?_)
  rw [x2.1]
  refine (cl_lineOf hm hX ⟨x2.2.1, Int.le_refl _⟩).mono (fun y I1 _ _ gy => ?_)
  obtain ⟨rfl, hb, rfl⟩ := gy
  exact ⟨⟨by omega, by omega⟩, rfl, rfl⟩
theorem cl_longestLine (hm : WX4 G m) (hX : PB m X I) : jRI E jB kX4_longestLine [VR m] G I (fun x I' => x = lngJ X 0 0 ((X 2).toNat + 1) ∧ I' = I) := by
  have x2 := hX.1
  have loop : ∀ (d k : Nat) (v : Int), (k : Int) + d = X 2 → (0 ≤ v ∧ v ≤ k) → lngJ X v (k + 1) d = lngJ X 0 0 ((X 2).toNat + 1) → jOI E jB kX4_longestLine 6 [VR m, VI v, VI (col X k), VI k] G I (fun x I' => x = lngJ X 0 0 ((X 2).toNat + 1) ∧ I' = I) := by
    intro d
    induction d with
    | zero =>
      intro k v k1 hv hl
      refine st_X4_longestLine_6 hm (fun _ _ _ _ => ⟨fun _ => ⟨hl, rfl⟩, fun q => absurd (by omega) q⟩)
    | succ d ih =>
      intro k v k1 hv hl
      have b := col_bd X k
      have b' := col_bd X (k + 1)
      have e2 : (k : Int) + 1 = ((k + 1 : Nat) : Int) := by omega
      have hl' : lngJ X (max v (col X (k + 1))) (k + 1 + 1) d = lngJ X 0 0 ((X 2).toNat + 1) := hl
      have g := ih (k + 1) (max v (col X (k + 1))) (by omega) (by omega) hl'
      refine st_X4_longestLine_6 hm (fun _ _ _ _ => ⟨fun q => absurd q (by omega), fun _ => ⟨⟨by omega, by omega⟩, fun _ => ?_⟩⟩)
      rw [(hX.2 k (by omega) (by omega)).1, e2]
      refine ⟨fun q => ⟨⟨by omega, by omega⟩, ⟨by omega, by omega⟩, ?_⟩, fun q => ⟨⟨by omega, by omega⟩, ?_⟩⟩
      · have e : col X (k + 1) = col X k + 1 := by
          show (if X (10 + (k : Int)) = 10 then 0 else col X k + 1) = _
          rw [if_neg q]
        rw [e] at g
        exact g
      · have e : col X (k + 1) = 0 := by
          show (if X (10 + (k : Int)) = 10 then 0 else col X k + 1) = _
          rw [if_pos q]
        rw [e] at g
        exact g
  exact en_X4_longestLine hm (fun _ => loop (X 2).toNat 0 0 (by omega) (by omega) rfl)
theorem cl_hash (hm : WX4 G m) (hX : PB m X I) : jRI E jB kX4_hash [VR m] G I (fun x I' => x = dgJ (fun i => X (10 + i)) 0 0 (X 2).toNat ∧ I' = I) := by
  have x2 := hX.1
  have loop : ∀ (d : Nat) (i h : Int), 0 ≤ i → i + d = X 2 → dgJ (fun i => X (10 + i)) h i d = dgJ (fun i => X (10 + i)) 0 0 (X 2).toNat → jOI E jB kX4_hash 4 [VR m, VI h, VI i] G I (fun x I' => x = dgJ (fun i => X (10 + i)) 0 0 (X 2).toNat ∧ I' = I) := by
    intro d
    induction d with
    | zero =>
      intro i h i0 i1 hh
      refine st_X4_hash_4 hm (fun _ _ _ => ⟨fun _ => ⟨hh, rfl⟩, fun q => absurd (by omega) q⟩)
    | succ d ih =>
      intro i h i0 i1 hh
      refine st_X4_hash_4 hm (fun _ _ _ => ⟨fun q => absurd q (by omega), fun _ => ⟨⟨by omega, by omega⟩, fun _ => ⟨⟨by omega, by omega⟩, ?_⟩⟩⟩)
      rw [(hX.2 i i0 (by omega)).1]
      exact ih (i + 1) _ (by omega) (by omega) hh
  exact en_X4_hash hm (fun _ => loop (X 2).toNat 0 0 (by omega) (by omega) rfl)
end CP
set_option maxRecDepth 20000 in
theorem st_X0_pair_4 {E : jE} {G : jG} {I : jM} {q : jM → Prop} {m : Nat} {p1 : Nat} {x2 : Int} {x3 : Int} (hm : WX0 G m) (hp1 : WX4 G p1) (hT : (∀ a j, jRg (G.2.1 a).1 (I a j)) → jIn x2 → jIn x3 → (((I p1 2) ≤ x3 → q I) ∧ (¬ (I p1 2) ≤ x3 → ((0 : Int) ≤ x3 ∧ (x3 : Int) < 200) ∧ (((-128) ≤ (I (p1 + 1) x3) ∧ (I (p1 + 1) x3) ≤ 127) → ((0 : Int) ≤ x3 ∧ (x3 : Int) < 200) ∧ (∀ M4, M4 = jup I (m + 1) x3 (-1) → jRI E jB kX0_closerOf [VI (I (p1 + 1) x3)] G M4 (fun r6 I5 => ((r6 = (-1) → jRI E jB kX0_isCloser [VI (I (p1 + 1) x3)] G I5 (fun r9 I8 => ((r9 = 0 → jIn (x3 + 1) ∧ jOV E jB kX0_pair 4 [VR m, VR p1, VI x2, VI (x3 + 1), VN] G I8 q) ∧ (¬ r9 = 0 → ((x2 ≤ 0 → jIn (x3 + 1) ∧ jOV E jB kX0_pair 4 [VR m, VR p1, VI x2, VI (x3 + 1), VN] G I8 q) ∧ (¬ x2 ≤ 0 → ((0 : Int) ≤ (x2 - 1) ∧ ((x2 - 1) : Int) < 200) ∧ ((0 : Int) ≤ (I8 (m + 2) (x2 - 1)) ∧ ((I8 (m + 2) (x2 - 1)) : Int) < 200) ∧ (((-128) ≤ (I8 (p1 + 1) (I8 (m + 2) (x2 - 1))) ∧ (I8 (p1 + 1) (I8 (m + 2) (x2 - 1))) ≤ 127) → jRI E jB kX0_closerOf [VI (I8 (p1 + 1) (I8 (m + 2) (x2 - 1)))] G I8 (fun r17 I16 => ((¬ r17 = (I (p1 + 1) x3) → jIn (x3 + 1) ∧ jOV E jB kX0_pair 4 [VR m, VR p1, VI x2, VI (x3 + 1), VN] G I16 q) ∧ (r17 = (I (p1 + 1) x3) → jIn (x2 + (-1)) ∧ ((0 : Int) ≤ (x2 + (-1)) ∧ ((x2 + (-1)) : Int) < 200) ∧ ((0 : Int) ≤ x3 ∧ (x3 : Int) < 200) ∧ (∀ M23, M23 = jup I16 (m + 1) x3 (I16 (m + 2) (x2 + (-1))) → ((0 : Int) ≤ (x2 + (-1)) ∧ ((x2 + (-1)) : Int) < 200) ∧ ((0 : Int) ≤ (I16 (m + 2) (x2 + (-1))) ∧ ((I16 (m + 2) (x2 + (-1))) : Int) < 200) ∧ (∀ M26, M26 = jup M23 (m + 1) (I16 (m + 2) (x2 + (-1))) x3 → jIn (x3 + 1) ∧ jOV E jB kX0_pair 4 [VR m, VR p1, VI (x2 + (-1)), VI (x3 + 1), VN] G M26 q)))))))))))) ∧ (¬ r6 = (-1) → ((0 : Int) ≤ x2 ∧ (x2 : Int) < 200) ∧ (∀ M29, M29 = jup I5 (m + 2) x2 x3 → jIn (x2 + 1) ∧ jIn (x3 + 1) ∧ jOV E jB kX0_pair 4 [VR m, VR p1, VI (x2 + 1), VI (x3 + 1), VN] G M29 q))))))))) : jOV E jB kX0_pair 4 [VR m, VR p1, VI x2, VI x3, VN] G I q := by
  intro I0 hF
  refine jOk_mem (fun hI => ?_)
  refine jOk_in (i := 2) rfl (fun hx2 => ?_)
  refine jOk_in (i := 3) rfl (fun hx3 => ?_)
  replace hT := hT hI hx2 hx3
  refine r_iload_n dX0_pair_4 rfl (i := 3) rfl ?_
  refine r_aload_n dX0_pair_5 rfl (i := 1) rfl ?_
  refine rr_getI (v := I p1 2) dX0_pair_6 fg_X0_22 rfl (wX4_l hp1) (wX4_s hp1) rfl ?_
  refine r_icmp_ge (tgt := 115) dX0_pair_9 rfl hx3 (hI _ _).inR (fun hcc => ?_) (fun hcc => ?_)
  · replace hT := hT.1 hcc
    exact r_vret dX0_pair_115 rfl ⟨Nat.zero_le _, Nat.zero_le _⟩ ⟨rfl, rfl, hF, hT⟩
  · replace hT := hT.2 hcc
    refine r_aload_n dX0_pair_12 rfl (i := 1) rfl ?_
    refine rr_getR (b := (p1 + 1)) dX0_pair_13 fg_X0_28 rfl rfl (wX4_l hp1) (wX4_s hp1) (wX4_r0 hp1) ?_
    refine r_iload_n dX0_pair_16 rfl (i := 3) rfl ?_
    obtain ⟨hc1, hT⟩ := hT
    refine rr_baload (v := I (p1 + 1) x3) dX0_pair_17 (wX4_l0 hp1) (wX4_a0 hp1) (by decide) hc1 rfl (fun hr2 => ?_)
    replace hT := hT hr2
    refine rr_istore (i := 4) (ls' := [VR m, VR p1, VI x2, VI x3, VI (I (p1 + 1) x3)]) dX0_pair_18 (Nat.le_of_ble_eq_true rfl) rfl rfl (hI _ _).inR ?_
    refine r_aload_n dX0_pair_20 rfl (i := 0) rfl ?_
    refine rr_getR (b := (m + 1)) dX0_pair_21 fg_X0_9 rfl rfl (wX0_l hm) (wX0_s hm) (wX0_r0 hm) ?_
    refine r_iload_n dX0_pair_24 rfl (i := 3) rfl ?_
    refine r_iconst (n := (-1)) dX0_pair_25 ?_
    obtain ⟨hc3, hT⟩ := hT
    refine rr_iastore dX0_pair_26 (wX0_l0 hm) (wX0_a0 hm) (by decide) hc3 ⟨by decide, by decide⟩ (fun M4 eM4 => ?_)
    have hFM4 := jFr_up hF eM4 (wX0_f hm 1 (by decide))
    replace hT := hT M4 eM4
    refine jOk_mem (fun hIM4 => ?_)
    refine r_iload dX0_pair_27 (i := 4) rfl ?_
    refine rr_cSI (as := [VI (I (p1 + 1) x3)]) (st := []) dX0_pair_29 mt_X0_closerOf ml_X0_32 ms_X0_closerOf rm_X0_pair_X0_closerOf jz_X0_closerOf ⟨Nat.zero_le _, Nat.zero_le _⟩ (Nat.le_of_ble_eq_true rfl) (jasI (hI _ _).inR jas0) hT (fun r6 I5 hc7 hFI5 hT => ?_)
    replace hFI5 := jFr_tr hFM4 hFI5
    refine jOk_mem (fun hI5 => ?_)
    refine r_iconst (n := (-1)) dX0_pair_32 ?_
    refine r_icmp_eq (tgt := 49) dX0_pair_33 rfl hc7 ⟨by decide, by decide⟩ (fun hcc => ?_) (fun hcc => ?_)
    · replace hT := hT.1 hcc
      refine r_iload dX0_pair_49 (i := 4) rfl ?_
      refine rr_cSI (as := [VI (I (p1 + 1) x3)]) (st := []) dX0_pair_51 mt_X0_isCloser ml_X0_36 ms_X0_isCloser rm_X0_pair_X0_isCloser jz_X0_isCloser ⟨Nat.zero_le _, Nat.zero_le _⟩ (Nat.le_of_ble_eq_true rfl) (jasI (hI _ _).inR jas0) hT (fun r9 I8 hc10 hFI8 hT => ?_)
      replace hFI8 := jFr_tr hFI5 hFI8
      refine jOk_mem (fun hI8 => ?_)
      refine r_if_eq (tgt := 109) dX0_pair_54 rfl hc10 (fun hcc => ?_) (fun hcc => ?_)
      · replace hT := hT.1 hcc
        obtain ⟨hc11, hT⟩ := hT
        refine rr_iinc (i := 3) (ls' := [VR m, VR p1, VI x2, VI (x3 + 1), VI (I (p1 + 1) x3)]) dX0_pair_109 rfl (Nat.le_of_ble_eq_true rfl) rfl rfl hc11 ?_
        refine r_goto (tgt := 4) dX0_pair_112 rfl ?_
        exact jOk_le (ls' := [VR m, VR p1, VI x2, VI (x3 + 1), VN]) ⟨Or.inr rfl, Or.inr rfl, Or.inr rfl, Or.inr rfl, Or.inl rfl, trivial⟩ (hT I0 hFI8)
      · replace hT := hT.2 hcc
        refine r_iload_n dX0_pair_57 rfl (i := 2) rfl ?_
        refine r_if_le (tgt := 109) dX0_pair_58 rfl hx2 (fun hcc => ?_) (fun hcc => ?_)
        · replace hT := hT.1 hcc
          obtain ⟨hc12, hT⟩ := hT
          refine rr_iinc (i := 3) (ls' := [VR m, VR p1, VI x2, VI (x3 + 1), VI (I (p1 + 1) x3)]) dX0_pair_109 rfl (Nat.le_of_ble_eq_true rfl) rfl rfl hc12 ?_
          refine r_goto (tgt := 4) dX0_pair_112 rfl ?_
          exact jOk_le (ls' := [VR m, VR p1, VI x2, VI (x3 + 1), VN]) ⟨Or.inr rfl, Or.inr rfl, Or.inr rfl, Or.inr rfl, Or.inl rfl, trivial⟩ (hT I0 hFI8)
        · replace hT := hT.2 hcc
          refine r_aload_n dX0_pair_61 rfl (i := 1) rfl ?_
          refine rr_getR (b := (p1 + 1)) dX0_pair_62 fg_X0_28 rfl rfl (wX4_l hp1) (wX4_s hp1) (wX4_r0 hp1) ?_
          refine r_aload_n dX0_pair_65 rfl (i := 0) rfl ?_
          refine rr_getR (b := (m + 2)) dX0_pair_66 fg_X0_15 rfl rfl (wX0_l hm) (wX0_s hm) (wX0_r1 hm) ?_
          refine r_iload_n dX0_pair_69 rfl (i := 2) rfl ?_
          refine r_iconst (n := 1) dX0_pair_70 ?_
          refine r_isub dX0_pair_71 ?_
          obtain ⟨hc13, hT⟩ := hT
          refine rr_iaload (v := I8 (m + 2) (x2 - 1)) dX0_pair_72 (wX0_l1 hm) (wX0_a1 hm) (by decide) hc13 rfl ?_
          obtain ⟨hc14, hT⟩ := hT
          refine rr_baload (v := I8 (p1 + 1) (I8 (m + 2) (x2 - 1))) dX0_pair_73 (wX4_l0 hp1) (wX4_a0 hp1) (by decide) hc14 rfl (fun hr15 => ?_)
          replace hT := hT hr15
          refine rr_cSI (as := [VI (I8 (p1 + 1) (I8 (m + 2) (x2 - 1)))]) (st := []) dX0_pair_74 mt_X0_closerOf ml_X0_32 ms_X0_closerOf rm_X0_pair_X0_closerOf jz_X0_closerOf ⟨Nat.zero_le _, Nat.zero_le _⟩ (Nat.le_of_ble_eq_true rfl) (jasI (hI8 _ _).inR jas0) hT (fun r17 I16 hc18 hFI16 hT => ?_)
          replace hFI16 := jFr_tr hFI8 hFI16
          refine jOk_mem (fun hI16 => ?_)
          refine r_iload dX0_pair_77 (i := 4) rfl ?_
          refine r_icmp_ne (tgt := 109) dX0_pair_79 rfl hc18 (hI _ _).inR (fun hcc => ?_) (fun hcc => ?_)
          · replace hT := hT.1 hcc
            obtain ⟨hc19, hT⟩ := hT
            refine rr_iinc (i := 3) (ls' := [VR m, VR p1, VI x2, VI (x3 + 1), VI (I (p1 + 1) x3)]) dX0_pair_109 rfl (Nat.le_of_ble_eq_true rfl) rfl rfl hc19 ?_
            refine r_goto (tgt := 4) dX0_pair_112 rfl ?_
            exact jOk_le (ls' := [VR m, VR p1, VI x2, VI (x3 + 1), VN]) ⟨Or.inr rfl, Or.inr rfl, Or.inr rfl, Or.inr rfl, Or.inl rfl, trivial⟩ (hT I0 hFI16)
          · replace hT := hT.2 hcc
            obtain ⟨hc20, hT⟩ := hT
            refine rr_iinc (i := 2) (ls' := [VR m, VR p1, VI (x2 + (-1)), VI x3, VI (I (p1 + 1) x3)]) dX0_pair_82 rfl (Nat.le_of_ble_eq_true rfl) rfl rfl hc20 ?_
            refine r_aload_n dX0_pair_85 rfl (i := 0) rfl ?_
            refine rr_getR (b := (m + 1)) dX0_pair_86 fg_X0_9 rfl rfl (wX0_l hm) (wX0_s hm) (wX0_r0 hm) ?_
            refine r_iload_n dX0_pair_89 rfl (i := 3) rfl ?_
            refine r_aload_n dX0_pair_90 rfl (i := 0) rfl ?_
            refine rr_getR (b := (m + 2)) dX0_pair_91 fg_X0_15 rfl rfl (wX0_l hm) (wX0_s hm) (wX0_r1 hm) ?_
            refine r_iload_n dX0_pair_94 rfl (i := 2) rfl ?_
            obtain ⟨hc21, hT⟩ := hT
            refine rr_iaload (v := I16 (m + 2) (x2 + (-1))) dX0_pair_95 (wX0_l1 hm) (wX0_a1 hm) (by decide) hc21 rfl ?_
            obtain ⟨hc22, hT⟩ := hT
            refine rr_iastore dX0_pair_96 (wX0_l0 hm) (wX0_a0 hm) (by decide) hc22 (hI16 _ _).inR (fun M23 eM23 => ?_)
            have hFM23 := jFr_up hFI16 eM23 (wX0_f hm 1 (by decide))
            replace hT := hT M23 eM23
            refine jOk_mem (fun hIM23 => ?_)
            refine r_aload_n dX0_pair_97 rfl (i := 0) rfl ?_
            refine rr_getR (b := (m + 1)) dX0_pair_98 fg_X0_9 rfl rfl (wX0_l hm) (wX0_s hm) (wX0_r0 hm) ?_
            refine r_aload_n dX0_pair_101 rfl (i := 0) rfl ?_
            refine rr_getR (b := (m + 2)) dX0_pair_102 fg_X0_15 rfl rfl (wX0_l hm) (wX0_s hm) (wX0_r1 hm) ?_
            refine r_iload_n dX0_pair_105 rfl (i := 2) rfl ?_
            obtain ⟨hc24, hT⟩ := hT
            refine rr_iaload (v := I16 (m + 2) (x2 + (-1))) dX0_pair_106 (wX0_l1 hm) (wX0_a1 hm) (by decide) hc24 (jr_na eM23 (by omega)) ?_
            refine r_iload_n dX0_pair_107 rfl (i := 3) rfl ?_
            obtain ⟨hc25, hT⟩ := hT
            refine rr_iastore dX0_pair_108 (wX0_l0 hm) (wX0_a0 hm) (by decide) hc25 hx3 (fun M26 eM26 => ?_)
            have hFM26 := jFr_up hFM23 eM26 (wX0_f hm 1 (by decide))
            replace hT := hT M26 eM26
            refine jOk_mem (fun hIM26 => ?_)
            obtain ⟨hc27, hT⟩ := hT
            refine rr_iinc (i := 3) (ls' := [VR m, VR p1, VI (x2 + (-1)), VI (x3 + 1), VI (I (p1 + 1) x3)]) dX0_pair_109 rfl (Nat.le_of_ble_eq_true rfl) rfl rfl hc27 ?_
            refine r_goto (tgt := 4) dX0_pair_112 rfl ?_
            exact jOk_le (ls' := [VR m, VR p1, VI (x2 + (-1)), VI (x3 + 1), VN]) ⟨Or.inr rfl, Or.inr rfl, Or.inr rfl, Or.inr rfl, Or.inl rfl, trivial⟩ (hT I0 hFM26)
    · replace hT := hT.2 hcc
      refine r_aload_n dX0_pair_36 rfl (i := 0) rfl ?_
      refine rr_getR (b := (m + 2)) dX0_pair_37 fg_X0_15 rfl rfl (wX0_l hm) (wX0_s hm) (wX0_r1 hm) ?_
      refine r_iload_n dX0_pair_40 rfl (i := 2) rfl ?_
      refine r_iload_n dX0_pair_41 rfl (i := 3) rfl ?_
      obtain ⟨hc28, hT⟩ := hT
      refine rr_iastore dX0_pair_42 (wX0_l1 hm) (wX0_a1 hm) (by decide) hc28 hx3 (fun M29 eM29 => ?_)
      have hFM29 := jFr_up hFI5 eM29 (wX0_f hm 2 (by decide))
      replace hT := hT M29 eM29
      refine jOk_mem (fun hIM29 => ?_)
      obtain ⟨hc30, hT⟩ := hT
      refine rr_iinc (i := 2) (ls' := [VR m, VR p1, VI (x2 + 1), VI x3, VI (I (p1 + 1) x3)]) dX0_pair_43 rfl (Nat.le_of_ble_eq_true rfl) rfl rfl hc30 ?_
      refine r_goto (tgt := 109) dX0_pair_46 rfl ?_
      obtain ⟨hc31, hT⟩ := hT
      refine rr_iinc (i := 3) (ls' := [VR m, VR p1, VI (x2 + 1), VI (x3 + 1), VI (I (p1 + 1) x3)]) dX0_pair_109 rfl (Nat.le_of_ble_eq_true rfl) rfl rfl hc31 ?_
      refine r_goto (tgt := 4) dX0_pair_112 rfl ?_
      exact jOk_le (ls' := [VR m, VR p1, VI (x2 + 1), VI (x3 + 1), VN]) ⟨Or.inr rfl, Or.inr rfl, Or.inr rfl, Or.inr rfl, Or.inl rfl, trivial⟩ (hT I0 hFM29)
set_option maxRecDepth 20000 in
theorem st_X0_pair_0 {E : jE} {G : jG} {I : jM} {q : jM → Prop} {m : Nat} {p1 : Nat} (hm : WX0 G m) (hp1 : WX4 G p1) (hT : (∀ a j, jRg (G.2.1 a).1 (I a j)) → jOV E jB kX0_pair 4 [VR m, VR p1, VI 0, VI 0, VN] G I q) : jOV E jB kX0_pair 0 [VR m, VR p1, VN, VN, VN] G I q := by
  intro I0 hF
  refine jOk_mem (fun hI => ?_)
  replace hT := hT hI 
  refine r_iconst (n := 0) dX0_pair_0 ?_
  refine rr_istore_n (i := 2) (ls' := [VR m, VR p1, VI 0, VN, VN]) dX0_pair_1 rfl (Nat.le_of_ble_eq_true rfl) rfl rfl ⟨by decide, by decide⟩ ?_
  refine r_iconst (n := 0) dX0_pair_2 ?_
  refine rr_istore_n (i := 3) (ls' := [VR m, VR p1, VI 0, VI 0, VN]) dX0_pair_3 rfl (Nat.le_of_ble_eq_true rfl) rfl rfl ⟨by decide, by decide⟩ ?_
  exact hT I0 hF
theorem en_X0_pair {E : jE} {G : jG} {I : jM} {q : jM → Prop} {m : Nat} {p1 : Nat} (hm : WX0 G m) (hp1 : WX4 G p1) (hT : (∀ a j, jRg (G.2.1 a).1 (I a j)) → jOV E jB kX0_pair 4 [VR m, VR p1, VI 0, VI 0, VN] G I q) : jRV E jB kX0_pair [VR m, VR p1] G I q := jRun.of mt_X0_pair.2.2.2 3 rfl (fun _ => st_X0_pair_0 hm hp1 hT I (fun _ _ => rfl))
set_option maxRecDepth 20000 in
theorem st_X0_partnerOf_0 {E : jE} {G : jG} {I : jM} {q : Int → jM → Prop} {m : Nat} {p1 : Nat} {x2 : Int} (hm : WX0 G m) (hp1 : WX4 G p1) (hT : (∀ a j, jRg (G.2.1 a).1 (I a j)) → jIn x2 → jRV E jB kX0_pair [VR m, VR p1] G I (fun I1 => ((x2 < 0 → q (-1) I1) ∧ (¬ x2 < 0 → (((I1 p1 2) ≤ x2 → q (-1) I1) ∧ (¬ (I1 p1 2) ≤ x2 → ((0 : Int) ≤ x2 ∧ (x2 : Int) < 200) ∧ q (I1 (m + 1) x2) I1)))))) : jOI E jB kX0_partnerOf 0 [VR m, VR p1, VI x2] G I q := by
  intro I0 hF
  refine jOk_mem (fun hI => ?_)
  refine jOk_in (i := 2) rfl (fun hx2 => ?_)
  replace hT := hT hI hx2
  refine r_aload_n dX0_partnerOf_0 rfl (i := 0) rfl ?_
  refine r_aload_n dX0_partnerOf_1 rfl (i := 1) rfl ?_
  refine rr_cVV (a := m) (as := [VR p1]) (st := []) dX0_partnerOf_2 mt_X0_pair ml_X0_18 mi_X0_pair rm_X0_partnerOf_X0_pair jz_X0_pair ⟨Nat.zero_le _, Nat.zero_le _⟩ (Nat.le_of_ble_eq_true rfl) (wX0_l hm) (wX0_c hm) (jasR jas0) hT (fun I1 hFI1 hT => ?_)
  replace hFI1 := jFr_tr hF hFI1
  refine jOk_mem (fun hI1 => ?_)
  refine r_iload_n dX0_partnerOf_5 rfl (i := 2) rfl ?_
  refine r_if_lt (tgt := 26) dX0_partnerOf_6 rfl hx2 (fun hcc => ?_) (fun hcc => ?_)
  · replace hT := hT.1 hcc
    refine r_iconst (n := (-1)) dX0_partnerOf_26 ?_
    exact r_iret dX0_partnerOf_27 rfl ⟨by decide, by decide⟩ ⟨Nat.zero_le _, Nat.zero_le _⟩ ⟨_, rfl, rfl, hFI1, hT⟩
  · replace hT := hT.2 hcc
    refine r_iload_n dX0_partnerOf_9 rfl (i := 2) rfl ?_
    refine r_aload_n dX0_partnerOf_10 rfl (i := 1) rfl ?_
    refine rr_getI (v := I1 p1 2) dX0_partnerOf_11 fg_X0_22 rfl (wX4_l hp1) (wX4_s hp1) rfl ?_
    refine r_icmp_ge (tgt := 26) dX0_partnerOf_14 rfl hx2 (hI1 _ _).inR (fun hcc => ?_) (fun hcc => ?_)
    · replace hT := hT.1 hcc
      refine r_iconst (n := (-1)) dX0_partnerOf_26 ?_
      exact r_iret dX0_partnerOf_27 rfl ⟨by decide, by decide⟩ ⟨Nat.zero_le _, Nat.zero_le _⟩ ⟨_, rfl, rfl, hFI1, hT⟩
    · replace hT := hT.2 hcc
      refine r_aload_n dX0_partnerOf_17 rfl (i := 0) rfl ?_
      refine rr_getR (b := (m + 1)) dX0_partnerOf_18 fg_X0_9 rfl rfl (wX0_l hm) (wX0_s hm) (wX0_r0 hm) ?_
      refine r_iload_n dX0_partnerOf_21 rfl (i := 2) rfl ?_
      obtain ⟨hc2, hT⟩ := hT
      refine rr_iaload (v := I1 (m + 1) x2) dX0_partnerOf_22 (wX0_l0 hm) (wX0_a0 hm) (by decide) hc2 rfl ?_
      refine r_goto (tgt := 27) dX0_partnerOf_23 rfl ?_
      exact r_iret dX0_partnerOf_27 rfl (hI1 _ _).inR ⟨Nat.zero_le _, Nat.zero_le _⟩ ⟨_, rfl, rfl, hFI1, hT⟩
theorem en_X0_partnerOf {E : jE} {G : jG} {I : jM} {q : Int → jM → Prop} {m : Nat} {p1 : Nat} {x2 : Int} (hm : WX0 G m) (hp1 : WX4 G p1) (hT : (∀ a j, jRg (G.2.1 a).1 (I a j)) → jIn x2 → jRV E jB kX0_pair [VR m, VR p1] G I (fun I1 => ((x2 < 0 → q (-1) I1) ∧ (¬ x2 < 0 → (((I1 p1 2) ≤ x2 → q (-1) I1) ∧ (¬ (I1 p1 2) ≤ x2 → ((0 : Int) ≤ x2 ∧ (x2 : Int) < 200) ∧ q (I1 (m + 1) x2) I1)))))) : jRI E jB kX0_partnerOf [VR m, VR p1, VI x2] G I q := jRun.of mt_X0_partnerOf.2.2.2 0 rfl (fun _ => st_X0_partnerOf_0 hm hp1 hT I (fun _ _ => rfl))
set_option maxRecDepth 20000 in
theorem st_X0_countUnpaired_9 {E : jE} {G : jG} {I : jM} {q : Int → jM → Prop} {m : Nat} {p1 : Nat} {x2 : Int} {x3 : Int} (hm : WX0 G m) (hp1 : WX4 G p1) (hT : (∀ a j, jRg (G.2.1 a).1 (I a j)) → jIn x2 → jIn x3 → (((I p1 2) ≤ x3 → q x2 I) ∧ (¬ (I p1 2) ≤ x3 → ((0 : Int) ≤ x3 ∧ (x3 : Int) < 200) ∧ (((-128) ≤ (I (p1 + 1) x3) ∧ (I (p1 + 1) x3) ≤ 127) → jRI E jB kX0_closerOf [VI (I (p1 + 1) x3)] G I (fun r4 I3 => ((¬ r4 = (-1) → ((0 : Int) ≤ x3 ∧ (x3 : Int) < 200) ∧ ((¬ (I3 (m + 1) x3) = (-1) → jIn (x3 + 1) ∧ jOI E jB kX0_countUnpaired 9 [VR m, VR p1, VI x2, VI (x3 + 1), VN] G I3 q) ∧ ((I3 (m + 1) x3) = (-1) → jIn (x2 + 1) ∧ jIn (x3 + 1) ∧ jOI E jB kX0_countUnpaired 9 [VR m, VR p1, VI (x2 + 1), VI (x3 + 1), VN] G I3 q))) ∧ (r4 = (-1) → ((0 : Int) ≤ x3 ∧ (x3 : Int) < 200) ∧ (((-128) ≤ (I3 (p1 + 1) x3) ∧ (I3 (p1 + 1) x3) ≤ 127) → jRI E jB kX0_isCloser [VI (I3 (p1 + 1) x3)] G I3 (fun r13 I12 => ((r13 = 0 → jIn (x3 + 1) ∧ jOI E jB kX0_countUnpaired 9 [VR m, VR p1, VI x2, VI (x3 + 1), VN] G I12 q) ∧ (¬ r13 = 0 → ((0 : Int) ≤ x3 ∧ (x3 : Int) < 200) ∧ ((¬ (I12 (m + 1) x3) = (-1) → jIn (x3 + 1) ∧ jOI E jB kX0_countUnpaired 9 [VR m, VR p1, VI x2, VI (x3 + 1), VN] G I12 q) ∧ ((I12 (m + 1) x3) = (-1) → jIn (x2 + 1) ∧ jIn (x3 + 1) ∧ jOI E jB kX0_countUnpaired 9 [VR m, VR p1, VI (x2 + 1), VI (x3 + 1), VN] G I12 q))))))))))))) : jOI E jB kX0_countUnpaired 9 [VR m, VR p1, VI x2, VI x3, VN] G I q := by
  intro I0 hF
  refine jOk_mem (fun hI => ?_)
  refine jOk_in (i := 2) rfl (fun hx2 => ?_)
  refine jOk_in (i := 3) rfl (fun hx3 => ?_)
  replace hT := hT hI hx2 hx3
  refine r_iload_n dX0_countUnpaired_9 rfl (i := 3) rfl ?_
  refine r_aload_n dX0_countUnpaired_10 rfl (i := 1) rfl ?_
  refine rr_getI (v := I p1 2) dX0_countUnpaired_11 fg_X0_22 rfl (wX4_l hp1) (wX4_s hp1) rfl ?_
  refine r_icmp_ge (tgt := 73) dX0_countUnpaired_14 rfl hx3 (hI _ _).inR (fun hcc => ?_) (fun hcc => ?_)
  · replace hT := hT.1 hcc
    refine r_iload_n dX0_countUnpaired_73 rfl (i := 2) rfl ?_
    exact r_iret dX0_countUnpaired_74 rfl hx2 ⟨Nat.zero_le _, Nat.zero_le _⟩ ⟨_, rfl, rfl, hF, hT⟩
  · replace hT := hT.2 hcc
    refine r_aload_n dX0_countUnpaired_17 rfl (i := 1) rfl ?_
    refine rr_getR (b := (p1 + 1)) dX0_countUnpaired_18 fg_X0_28 rfl rfl (wX4_l hp1) (wX4_s hp1) (wX4_r0 hp1) ?_
    refine r_iload_n dX0_countUnpaired_21 rfl (i := 3) rfl ?_
    obtain ⟨hc1, hT⟩ := hT
    refine rr_baload (v := I (p1 + 1) x3) dX0_countUnpaired_22 (wX4_l0 hp1) (wX4_a0 hp1) (by decide) hc1 rfl (fun hr2 => ?_)
    replace hT := hT hr2
    refine rr_cSI (as := [VI (I (p1 + 1) x3)]) (st := []) dX0_countUnpaired_23 mt_X0_closerOf ml_X0_32 ms_X0_closerOf rm_X0_countUnpaired_X0_closerOf jz_X0_closerOf ⟨Nat.zero_le _, Nat.zero_le _⟩ (Nat.le_of_ble_eq_true rfl) (jasI (hI _ _).inR jas0) hT (fun r4 I3 hc5 hFI3 hT => ?_)
    replace hFI3 := jFr_tr hF hFI3
    refine jOk_mem (fun hI3 => ?_)
    refine r_iconst (n := (-1)) dX0_countUnpaired_26 ?_
    refine r_icmp_ne (tgt := 42) dX0_countUnpaired_27 rfl hc5 ⟨by decide, by decide⟩ (fun hcc => ?_) (fun hcc => ?_)
    · replace hT := hT.1 hcc
      refine r_iconst (n := 1) dX0_countUnpaired_42 ?_
      refine r_goto (tgt := 47) dX0_countUnpaired_43 rfl ?_
      refine rr_istore (i := 4) (ls' := [VR m, VR p1, VI x2, VI x3, VI 1]) dX0_countUnpaired_47 (Nat.le_of_ble_eq_true rfl) rfl rfl ⟨by decide, by decide⟩ ?_
      refine r_iload dX0_countUnpaired_49 (i := 4) rfl ?_
      refine r_if_eq (tgt := 67) dX0_countUnpaired_51 rfl ⟨by decide, by decide⟩ (fun hcc => ?_) (fun hcc => ?_)
      · exact absurd hcc (by decide)
      · skip
        refine r_aload_n dX0_countUnpaired_54 rfl (i := 0) rfl ?_
        refine rr_getR (b := (m + 1)) dX0_countUnpaired_55 fg_X0_9 rfl rfl (wX0_l hm) (wX0_s hm) (wX0_r0 hm) ?_
        refine r_iload_n dX0_countUnpaired_58 rfl (i := 3) rfl ?_
        obtain ⟨hc6, hT⟩ := hT
        refine rr_iaload (v := I3 (m + 1) x3) dX0_countUnpaired_59 (wX0_l0 hm) (wX0_a0 hm) (by decide) hc6 rfl ?_
        refine r_iconst (n := (-1)) dX0_countUnpaired_60 ?_
        refine r_icmp_ne (tgt := 67) dX0_countUnpaired_61 rfl (hI3 _ _).inR ⟨by decide, by decide⟩ (fun hcc => ?_) (fun hcc => ?_)
        · replace hT := hT.1 hcc
          obtain ⟨hc7, hT⟩ := hT
          refine rr_iinc (i := 3) (ls' := [VR m, VR p1, VI x2, VI (x3 + 1), VI 1]) dX0_countUnpaired_67 rfl (Nat.le_of_ble_eq_true rfl) rfl rfl hc7 ?_
          refine r_goto (tgt := 9) dX0_countUnpaired_70 rfl ?_
          exact jOk_le (ls' := [VR m, VR p1, VI x2, VI (x3 + 1), VN]) ⟨Or.inr rfl, Or.inr rfl, Or.inr rfl, Or.inr rfl, Or.inl rfl, trivial⟩ (hT I0 hFI3)
        · replace hT := hT.2 hcc
          obtain ⟨hc8, hT⟩ := hT
          refine rr_iinc (i := 2) (ls' := [VR m, VR p1, VI (x2 + 1), VI x3, VI 1]) dX0_countUnpaired_64 rfl (Nat.le_of_ble_eq_true rfl) rfl rfl hc8 ?_
          obtain ⟨hc9, hT⟩ := hT
          refine rr_iinc (i := 3) (ls' := [VR m, VR p1, VI (x2 + 1), VI (x3 + 1), VI 1]) dX0_countUnpaired_67 rfl (Nat.le_of_ble_eq_true rfl) rfl rfl hc9 ?_
          refine r_goto (tgt := 9) dX0_countUnpaired_70 rfl ?_
          exact jOk_le (ls' := [VR m, VR p1, VI (x2 + 1), VI (x3 + 1), VN]) ⟨Or.inr rfl, Or.inr rfl, Or.inr rfl, Or.inr rfl, Or.inl rfl, trivial⟩ (hT I0 hFI3)
    · replace hT := hT.2 hcc
      refine r_aload_n dX0_countUnpaired_30 rfl (i := 1) rfl ?_
      refine rr_getR (b := (p1 + 1)) dX0_countUnpaired_31 fg_X0_28 rfl rfl (wX4_l hp1) (wX4_s hp1) (wX4_r0 hp1) ?_
      refine r_iload_n dX0_countUnpaired_34 rfl (i := 3) rfl ?_
      obtain ⟨hc10, hT⟩ := hT
      refine rr_baload (v := I3 (p1 + 1) x3) dX0_countUnpaired_35 (wX4_l0 hp1) (wX4_a0 hp1) (by decide) hc10 rfl (fun hr11 => ?_)
      replace hT := hT hr11
      refine rr_cSI (as := [VI (I3 (p1 + 1) x3)]) (st := []) dX0_countUnpaired_36 mt_X0_isCloser ml_X0_36 ms_X0_isCloser rm_X0_countUnpaired_X0_isCloser jz_X0_isCloser ⟨Nat.zero_le _, Nat.zero_le _⟩ (Nat.le_of_ble_eq_true rfl) (jasI (hI3 _ _).inR jas0) hT (fun r13 I12 hc14 hFI12 hT => ?_)
      replace hFI12 := jFr_tr hFI3 hFI12
      refine jOk_mem (fun hI12 => ?_)
      refine r_if_eq (tgt := 46) dX0_countUnpaired_39 rfl hc14 (fun hcc => ?_) (fun hcc => ?_)
      · replace hT := hT.1 hcc
        refine r_iconst (n := 0) dX0_countUnpaired_46 ?_
        refine rr_istore (i := 4) (ls' := [VR m, VR p1, VI x2, VI x3, VI 0]) dX0_countUnpaired_47 (Nat.le_of_ble_eq_true rfl) rfl rfl ⟨by decide, by decide⟩ ?_
        refine r_iload dX0_countUnpaired_49 (i := 4) rfl ?_
        refine r_if_eq (tgt := 67) dX0_countUnpaired_51 rfl ⟨by decide, by decide⟩ (fun hcc => ?_) (fun hcc => ?_)
        · skip
          obtain ⟨hc15, hT⟩ := hT
          refine rr_iinc (i := 3) (ls' := [VR m, VR p1, VI x2, VI (x3 + 1), VI 0]) dX0_countUnpaired_67 rfl (Nat.le_of_ble_eq_true rfl) rfl rfl hc15 ?_
          refine r_goto (tgt := 9) dX0_countUnpaired_70 rfl ?_
          exact jOk_le (ls' := [VR m, VR p1, VI x2, VI (x3 + 1), VN]) ⟨Or.inr rfl, Or.inr rfl, Or.inr rfl, Or.inr rfl, Or.inl rfl, trivial⟩ (hT I0 hFI12)
        · exact absurd hcc (by decide)
      · replace hT := hT.2 hcc
        refine r_iconst (n := 1) dX0_countUnpaired_42 ?_
        refine r_goto (tgt := 47) dX0_countUnpaired_43 rfl ?_
        refine rr_istore (i := 4) (ls' := [VR m, VR p1, VI x2, VI x3, VI 1]) dX0_countUnpaired_47 (Nat.le_of_ble_eq_true rfl) rfl rfl ⟨by decide, by decide⟩ ?_
        refine r_iload dX0_countUnpaired_49 (i := 4) rfl ?_
        refine r_if_eq (tgt := 67) dX0_countUnpaired_51 rfl ⟨by decide, by decide⟩ (fun hcc => ?_) (fun hcc => ?_)
        · exact absurd hcc (by decide)
        · skip
          refine r_aload_n dX0_countUnpaired_54 rfl (i := 0) rfl ?_
          refine rr_getR (b := (m + 1)) dX0_countUnpaired_55 fg_X0_9 rfl rfl (wX0_l hm) (wX0_s hm) (wX0_r0 hm) ?_
          refine r_iload_n dX0_countUnpaired_58 rfl (i := 3) rfl ?_
          obtain ⟨hc16, hT⟩ := hT
          refine rr_iaload (v := I12 (m + 1) x3) dX0_countUnpaired_59 (wX0_l0 hm) (wX0_a0 hm) (by decide) hc16 rfl ?_
          refine r_iconst (n := (-1)) dX0_countUnpaired_60 ?_
          refine r_icmp_ne (tgt := 67) dX0_countUnpaired_61 rfl (hI12 _ _).inR ⟨by decide, by decide⟩ (fun hcc => ?_) (fun hcc => ?_)
          · replace hT := hT.1 hcc
            obtain ⟨hc17, hT⟩ := hT
            refine rr_iinc (i := 3) (ls' := [VR m, VR p1, VI x2, VI (x3 + 1), VI 1]) dX0_countUnpaired_67 rfl (Nat.le_of_ble_eq_true rfl) rfl rfl hc17 ?_
            refine r_goto (tgt := 9) dX0_countUnpaired_70 rfl ?_
            exact jOk_le (ls' := [VR m, VR p1, VI x2, VI (x3 + 1), VN]) ⟨Or.inr rfl, Or.inr rfl, Or.inr rfl, Or.inr rfl, Or.inl rfl, trivial⟩ (hT I0 hFI12)
          · replace hT := hT.2 hcc
            obtain ⟨hc18, hT⟩ := hT
            refine rr_iinc (i := 2) (ls' := [VR m, VR p1, VI (x2 + 1), VI x3, VI 1]) dX0_countUnpaired_64 rfl (Nat.le_of_ble_eq_true rfl) rfl rfl hc18 ?_
            obtain ⟨hc19, hT⟩ := hT
            refine rr_iinc (i := 3) (ls' := [VR m, VR p1, VI (x2 + 1), VI (x3 + 1), VI 1]) dX0_countUnpaired_67 rfl (Nat.le_of_ble_eq_true rfl) rfl rfl hc19 ?_
            refine r_goto (tgt := 9) dX0_countUnpaired_70 rfl ?_
            exact jOk_le (ls' := [VR m, VR p1, VI (x2 + 1), VI (x3 + 1), VN]) ⟨Or.inr rfl, Or.inr rfl, Or.inr rfl, Or.inr rfl, Or.inl rfl, trivial⟩ (hT I0 hFI12)
set_option maxRecDepth 20000 in
theorem st_X0_countUnpaired_0 {E : jE} {G : jG} {I : jM} {q : Int → jM → Prop} {m : Nat} {p1 : Nat} (hm : WX0 G m) (hp1 : WX4 G p1) (hT : (∀ a j, jRg (G.2.1 a).1 (I a j)) → jRV E jB kX0_pair [VR m, VR p1] G I (fun I1 => jOI E jB kX0_countUnpaired 9 [VR m, VR p1, VI 0, VI 0, VN] G I1 q)) : jOI E jB kX0_countUnpaired 0 [VR m, VR p1, VN, VN, VN] G I q := by
  intro I0 hF
  refine jOk_mem (fun hI => ?_)
  replace hT := hT hI 
  refine r_aload_n dX0_countUnpaired_0 rfl (i := 0) rfl ?_
  refine r_aload_n dX0_countUnpaired_1 rfl (i := 1) rfl ?_
  refine rr_cVV (a := m) (as := [VR p1]) (st := []) dX0_countUnpaired_2 mt_X0_pair ml_X0_18 mi_X0_pair rm_X0_countUnpaired_X0_pair jz_X0_pair ⟨Nat.zero_le _, Nat.zero_le _⟩ (Nat.le_of_ble_eq_true rfl) (wX0_l hm) (wX0_c hm) (jasR jas0) hT (fun I1 hFI1 hT => ?_)
  replace hFI1 := jFr_tr hF hFI1
  refine jOk_mem (fun hI1 => ?_)
  refine r_iconst (n := 0) dX0_countUnpaired_5 ?_
  refine rr_istore_n (i := 2) (ls' := [VR m, VR p1, VI 0, VN, VN]) dX0_countUnpaired_6 rfl (Nat.le_of_ble_eq_true rfl) rfl rfl ⟨by decide, by decide⟩ ?_
  refine r_iconst (n := 0) dX0_countUnpaired_7 ?_
  refine rr_istore_n (i := 3) (ls' := [VR m, VR p1, VI 0, VI 0, VN]) dX0_countUnpaired_8 rfl (Nat.le_of_ble_eq_true rfl) rfl rfl ⟨by decide, by decide⟩ ?_
  exact hT I0 hFI1
theorem en_X0_countUnpaired {E : jE} {G : jG} {I : jM} {q : Int → jM → Prop} {m : Nat} {p1 : Nat} (hm : WX0 G m) (hp1 : WX4 G p1) (hT : (∀ a j, jRg (G.2.1 a).1 (I a j)) → jRV E jB kX0_pair [VR m, VR p1] G I (fun I1 => jOI E jB kX0_countUnpaired 9 [VR m, VR p1, VI 0, VI 0, VN] G I1 q)) : jRI E jB kX0_countUnpaired [VR m, VR p1] G I q := jRun.of mt_X0_countUnpaired.2.2.2 3 rfl (fun _ => st_X0_countUnpaired_0 hm hp1 hT I (fun _ _ => rfl))
section CQ
variable {E : jE} {G : jG} {m p : Nat} {I : jM} {X : Int → Int}
def PRc (m : Nat) (B : Int → Int) (i : Nat) (I : jM) : Prop := (∀ j : Nat, j < (prS B i).1.length → I (m + 2) j = (prS B i).1.reverse.getD j 0) ∧ ∀ k, 0 ≤ k → k < (i : Int) → I (m + 1) k = (prS B i).2 k
theorem cl_pair (hm : WX0 G m) (hp : WX4 G p) (hd : m + 3 ≤ p ∨ p + 5 ≤ m) (hX : PB p X I) : jRV E jB kX0_pair [VR m, VR p] G I (fun I' => (∀ k, 0 ≤ k → k < X 2 → I' (m + 1) k = (prS X (X 2).toNat).2 k) ∧ Fr m (m + 3) I I') := by
  have x2 := hX.1
  have loop : ∀ (d i : Nat), (i : Int) + d = X 2 → ∀ I1 : jM, PRc m X i I1 → Fr m (m + 3) I I1 → jOV E jB kX0_pair 4 [VR m, VR p, VI ((prS X i).1.length : Int), VI (i : Int), VN] G I1 (fun I' => (∀ k, 0 ≤ k → k < X 2 → I' (m + 1) k = (prS X (X 2).toNat).2 k) ∧ Fr m (m + 3) I I') := by
    intro d
    induction d with
    | zero =>
      intro i hi I1 hpr hF
      have e2 : I1 p 2 = X 2 := by rw [hF _ _ (by omega)]; exact x2.1
      refine st_X0_pair_4 hm hp (fun _ _ _ => ⟨fun _ => ⟨fun k k0 k1 => ?_, hF⟩, fun q => absurd (by omega) q⟩)
      rw [show (X 2).toNat = i by omega]
      exact hpr.2 k k0 (by omega)
    | succ d ih =>
      intro i hi I1 hpr hF
      have e2 : I1 p 2 = X 2 := by rw [hF _ _ (by omega)]; exact x2.1
      have hb : ∀ I', Fr m (m + 3) I I' → ∀ k, 0 ≤ k → k < X 2 → I' (p + 1) k = X (10 + k) := fun I' f k k0 k1 => by rw [f _ _ (by omega)]; exact (hX.2 k k0 k1).1
      have bd := prS_bd X i
      have eb := hb I1 hF i (by omega) (by omega)
      refine st_X0_pair_4 hm hp (fun _ _ _ => ⟨fun q => absurd q (by omega), fun _ => ⟨⟨by omega, by omega⟩, fun _ => ⟨⟨by omega, by omega⟩, fun M4 e4 => ?_⟩⟩⟩)
      have f4 : Fr m (m + 3) I M4 := hF.trans (Fr.up e4 (by omega))
      have p3 : ∀ k, 0 ≤ k → k < ((i + 1 : Nat) : Int) → M4 (m + 1) k = up (prS X i).2 i (-1) k := by
        intro k k0 k1
        by_cases q : k = i
        · rw [q, jr_eq e4, up_eq]
        · rw [jr_nj e4 q, up_ne q]
          exact hpr.2 k k0 (by omega)
      have s3 : ∀ j : Nat, j < (prS X i).1.length → M4 (m + 2) j = (prS X i).1.reverse.getD j 0 := fun j hj => by rw [jr_na e4 (by omega)]; exact hpr.1 j hj
      rw [eb]
      refine sp_X0_closerOf.mono (fun r I5 _ _ g => ?_)
      obtain ⟨rfl, rfl⟩ := g
      have ei : (i : Int) + 1 = ((i + 1 : Nat) : Int) := by omega
      refine ⟨fun q => sp_X0_isCloser.mono (fun r I8 _ _ g => ?_), fun q => ⟨⟨by omega, by omega⟩, fun M29 e29 => ⟨⟨by omega, by omega⟩, ⟨by omega, by omega⟩, ?_⟩⟩⟩
      · obtain ⟨rfl, rfl⟩ := g
        have hno : ¬ 0 < opn (X (10 + i)) := clo_opn.mp q
        have skip : (∀ k st, (prS X i).1 = k :: st → ¬ (0 < sht (X (10 + i)) ∧ opn (X (10 + k)) = sht (X (10 + i)))) → jIn ((i : Int) + 1) ∧ jOV E jB kX0_pair 4 [VR m, VR p, VI ((prS X i).1.length : Int), VI ((i : Int) + 1), VN] G I8 (fun I' => (∀ k, 0 ≤ k → k < X 2 → I' (m + 1) k = (prS X (X 2).toNat).2 k) ∧ Fr m (m + 3) I I') := by
          intro hh
          have e := prS_none hno hh
          have g := ih (i + 1) (by omega) I8 (by unfold PRc; rw [e]; exact ⟨s3, p3⟩) f4
          rw [e] at g
          exact ⟨⟨by omega, by omega⟩, g⟩
        refine ⟨fun q1 => skip (fun k st _ g => jI_n q1 g.1), fun q1 => ⟨fun q2 => skip (fun k st e g => by rw [e, List.length_cons] at q2; omega), fun q2 => ?_⟩⟩
        have hsh := jI_p q1
        cases est : (prS X i).1 with
        | nil => rw [est] at q2; exact absurd (Int.le_refl _) q2
        | cons k st =>
          have hk := bd.2 k (by rw [est]; exact List.mem_cons_self)
          have hl := bd.1
          rw [est, List.length_cons] at hl
          have etop : I8 (m + 2) (((k :: st).length : Int) - 1) = k := by
            have := s3 st.length (by rw [est, List.length_cons]; omega)
            rw [est, rev_top] at this
            rw [List.length_cons, show ((st.length + 1 : Nat) : Int) - 1 = (st.length : Int) by omega]
            exact this
          have etop' : I8 (m + 2) (((k :: st).length : Int) + -1) = k := by
            rw [show ((k :: st).length : Int) + -1 = ((k :: st).length : Int) - 1 by omega]
            exact etop
          have ek := hb I8 f4 k hk.1 (by omega)
          rw [etop, ek]
          have hl1 : (((k :: st).length : Nat) : Int) = st.length + 1 := by rw [List.length_cons]; omega
          refine ⟨⟨by omega, by omega⟩, ⟨by omega, by omega⟩, fun _ => sp_X0_closerOf.mono (fun r I16 _ _ g => ?_)⟩
          obtain ⟨rfl, rfl⟩ := g
          rw [etop']
          refine ⟨fun q3 => ?_, fun q3 => ⟨⟨by omega, by omega⟩, ⟨by omega, by omega⟩, ⟨by omega, by omega⟩, fun M23 e23 => ⟨⟨by omega, by omega⟩, ⟨by omega, by omega⟩, fun M26 e26 => ⟨⟨by omega, by omega⟩, ?_⟩⟩⟩⟩
          · have g := skip (fun k' st' e g => by
              rw [est] at e
              injection e with e1 e2
              rw [← e1] at g
              exact q3 ((clo_sht hsh).mpr g.2))
            rw [est] at g
            exact g
          · have e := prS_pop hno est ⟨hsh, (clo_sht hsh).mp q3⟩
            have g := ih (i + 1) (by omega) M26 (by
              unfold PRc
              rw [e]
              refine ⟨fun j hj => ?_, fun x x0 x1 => ?_⟩
              · rw [jr_na e26 (by omega), jr_na e23 (by omega), s3 j (by rw [est, List.length_cons]; exact Nat.lt_succ_of_lt hj), est, rev_low hj]
              · show _ = up (up (up (prS X i).2 i (-1)) i k) k i x
                by_cases qk : x = k
                · rw [qk, jr_eq e26, up_eq]
                · rw [jr_nj e26 qk, up_ne qk]
                  by_cases qi : x = i
                  · rw [qi, jr_eq e23, up_eq]
                  · rw [jr_nj e23 qi, up_ne qi]
                    exact p3 x x0 x1) (f4.trans ((Fr.up e23 (by omega)).trans (Fr.up e26 (by omega))))
            rw [e] at g
            rw [show ((k :: st).length : Int) + -1 = (st.length : Int) by omega]
            exact g
      · have hop : 0 < opn (X (10 + i)) := by
          by_cases c : 0 < opn (X (10 + i))
          · exact c
          · exact absurd (clo_opn.mpr c) q
        have e := prS_push hop
        have g := ih (i + 1) (by omega) M29 (by
          unfold PRc
          rw [e]
          refine ⟨fun j hj => ?_, fun x x0 x1 => ?_⟩
          · have hj' : j < (prS X i).1.length + 1 := by
              have : ((i : Int) :: (prS X i).1).length = (prS X i).1.length + 1 := List.length_cons
              show j < _
              rw [← this]
              exact hj
            by_cases qj : j = (prS X i).1.length
            · rw [qj, jr_eq e29]
              exact rev_top.symm
            · rw [jr_nj e29 (by omega), s3 j (by omega)]
              exact (rev_low (by omega)).symm
          · rw [jr_na e29 (by omega)]
            exact p3 x x0 x1) (f4.trans (Fr.up e29 (by omega)))
        rw [e] at g
        have el : (((i : Int) :: (prS X i).1).length : Int) = ((prS X i).1.length : Int) + 1 := by rw [List.length_cons]; omega
        have g' : jOV E jB kX0_pair 4 [VR m, VR p, VI ((((i : Int) :: (prS X i).1).length : Nat) : Int), VI (((i + 1 : Nat) : Int)), VN] G M29 (fun I' => (∀ k, 0 ≤ k → k < X 2 → I' (m + 1) k = (prS X (X 2).toNat).2 k) ∧ Fr m (m + 3) I I') := g
        rw [el] at g'
        exact g'
  exact en_X0_pair hm hp (fun _ => loop (X 2).toNat 0 (by omega) I ⟨fun j hj => absurd hj (Nat.not_lt_zero j), fun k k0 k1 => by omega⟩ Fr.rfl)
theorem cl_partnerOf (hm : WX0 G m) (hp : WX4 G p) (hd : m + 3 ≤ p ∨ p + 5 ≤ m) (hX : PB p X I) {i : Int} : jRI E jB kX0_partnerOf [VR m, VR p, VI i] G I (fun x I' => x = anPaired X i ∧ Fr m (m + 3) I I') := by
  have x2 := hX.1
  refine en_X0_partnerOf hm hp (fun _ _ => (cl_pair hm hp hd hX).mono (fun I1 _ g => ?_))
  have e2 : I1 p 2 = X 2 := by rw [g.2 _ _ (by omega)]; exact x2.1
  unfold anPaired
  refine ⟨fun q => ⟨by rw [if_neg (by omega)], g.2⟩, fun q => ⟨fun q2 => ⟨by rw [if_neg (by omega)], g.2⟩, fun q2 => ⟨⟨by omega, by omega⟩, ?_, g.2⟩⟩⟩
  rw [if_pos (by omega)]
  exact g.1 i (by omega) (by omega)
theorem cl_countUnpaired (hm : WX0 G m) (hp : WX4 G p) (hd : m + 3 ≤ p ∨ p + 5 ≤ m) (hX : PB p X I) : jRI E jB kX0_countUnpaired [VR m, VR p] G I (fun x I' => x = unp X ∧ Fr m (m + 3) I I') := by
  have x2 := hX.1
  refine en_X0_countUnpaired hm hp (fun _ => (cl_pair hm hp hd hX).mono (fun I1 _ g => ?_))
  have e2 : I1 p 2 = X 2 := by rw [g.2 _ _ (by omega)]; exact x2.1
  have hb : ∀ k, 0 ≤ k → k < X 2 → I1 (p + 1) k = X (10 + k) := fun k k0 k1 => by rw [g.2 _ _ (by omega)]; exact (hX.2 k k0 k1).1
  have loop : ∀ (d : Nat) (i v : Int), 0 ≤ i → i + d = X 2 → 0 ≤ v → v ≤ i → v + sumJ (fun i => jI (0 < opn (X (10 + i)) + sht (X (10 + i)) ∧ (prS X (X 2).toNat).2 i = -1)) i d = unp X → jOI E jB kX0_countUnpaired 9 [VR m, VR p, VI v, VI i, VN] G I1 (fun x I' => x = unp X ∧ Fr m (m + 3) I I') := by
    intro d
    induction d with
    | zero =>
      intro i v i0 i1 v0 v1 hs
      have hs' : v + 0 = unp X := hs
      exact st_X0_countUnpaired_9 hm hp (fun _ _ _ => ⟨fun _ => ⟨by omega, g.2⟩, fun q => absurd (by omega) q⟩)
    | succ d ih =>
      intro i v i0 i1 v0 v1 hs
      rw [sumJ_s] at hs
      have bo : 0 ≤ opn (X (10 + i)) ∧ opn (X (10 + i)) ≤ 3 := by unfold opn; split <;> (try split) <;> (try split) <;> decide
      have bs : 0 ≤ sht (X (10 + i)) ∧ sht (X (10 + i)) ≤ 3 := by unfold sht; split <;> (try split) <;> (try split) <;> decide
      have no : ¬ (0 < opn (X (10 + i)) + sht (X (10 + i)) ∧ (prS X (X 2).toNat).2 i = -1) → jIn (i + 1) ∧ jOI E jB kX0_countUnpaired 9 [VR m, VR p, VI v, VI (i + 1), VN] G I1 (fun x I' => x = unp X ∧ Fr m (m + 3) I I') := fun q => by
        have e1 := jI_neg q
        exact ⟨⟨by omega, by omega⟩, ih (i + 1) v (by omega) (by omega) v0 (by omega) (by rw [← hs]; simp only [e1]; omega)⟩
      have yes : (0 < opn (X (10 + i)) + sht (X (10 + i)) ∧ (prS X (X 2).toNat).2 i = -1) → jIn (v + 1) ∧ jIn (i + 1) ∧ jOI E jB kX0_countUnpaired 9 [VR m, VR p, VI (v + 1), VI (i + 1), VN] G I1 (fun x I' => x = unp X ∧ Fr m (m + 3) I I') := fun q => by
        have e1 := jI_pos q
        exact ⟨⟨by omega, by omega⟩, ⟨by omega, by omega⟩, ih (i + 1) (v + 1) (by omega) (by omega) (by omega) (by omega) (by rw [← hs]; simp only [e1]; omega)⟩
      refine st_X0_countUnpaired_9 hm hp (fun _ _ _ => ⟨fun q => absurd q (by omega), fun _ => ⟨⟨by omega, by omega⟩, fun _ => ?_⟩⟩)
      rw [hb i i0 (by omega)]
      refine sp_X0_closerOf.mono (fun r I3 _ _ gr => ?_)
      obtain ⟨rfl, rfl⟩ := gr
      rw [g.1 i i0 (by omega), hb i i0 (by omega)]
      refine ⟨fun q => ?_, fun q => ⟨⟨by omega, by omega⟩, fun _ => sp_X0_isCloser.mono (fun r I12 _ _ gr => ?_)⟩⟩
      · have hop : 0 < opn (X (10 + i)) := by
          by_cases c : 0 < opn (X (10 + i))
          · exact c
          · exact absurd (clo_opn.mpr c) q
        exact ⟨⟨by omega, by omega⟩, fun q2 => no (fun a => q2 a.2), fun q2 => yes ⟨by omega, q2⟩⟩
      · obtain ⟨rfl, rfl⟩ := gr
        have hno := clo_opn.mp q
        rw [g.1 i i0 (by omega)]
        refine ⟨fun q2 => no (fun a => by have := jI_n q2; omega), fun q2 => ⟨⟨by omega, by omega⟩, fun q3 => no (fun a => q3 a.2), fun q3 => yes ⟨by have := jI_p q2; omega, q3⟩⟩⟩
  exact loop (X 2).toNat 0 0 (by omega) (by omega) (by omega) (by omega) (by unfold unp; omega)
end CQ
