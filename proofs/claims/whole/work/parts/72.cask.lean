/-! ===== the class: what is asked of findings ===== -/
set_option maxRecDepth 20000 in
theorem st_X1_has_0 {E : jE} {G : jG} {I : jM} {q : Int → jM → Prop} {m : Nat} {x1 : Int} (hm : WX1 G m) (hT : (∀ a j, jRg (G.2.1 a).1 (I a j)) → jIn x1 → ((x1 < 0 → q 0 I) ∧ (¬ x1 < 0 → (((I m 5) ≤ x1 → q 0 I) ∧ (¬ (I m 5) ≤ x1 → q 1 I))))) : jOI E jB kX1_has 0 [VR m, VI x1] G I q := by
  intro I0 hF
  refine jOk_mem (fun hI => ?_)
  refine jOk_in (i := 1) rfl (fun hx1 => ?_)
  replace hT := hT hI hx1
  refine r_iload_n dX1_has_0 rfl (i := 1) rfl ?_
  refine r_if_lt (tgt := 16) dX1_has_1 rfl hx1 (fun hcc => ?_) (fun hcc => ?_)
  · replace hT := hT.1 hcc
    refine r_iconst (n := 0) dX1_has_16 ?_
    exact r_zret dX1_has_17 rfl ⟨by decide, by decide⟩ ⟨Nat.zero_le _, Nat.zero_le _⟩ ⟨_, rfl, rfl, hF, hT⟩
  · replace hT := hT.2 hcc
    refine r_iload_n dX1_has_4 rfl (i := 1) rfl ?_
    refine r_aload_n dX1_has_5 rfl (i := 0) rfl ?_
    refine rr_getI (v := I m 5) dX1_has_6 fg_X1_66 rfl (wX1_l hm) (wX1_s hm) rfl ?_
    refine r_icmp_ge (tgt := 16) dX1_has_9 rfl hx1 (hI _ _).inR (fun hcc => ?_) (fun hcc => ?_)
    · replace hT := hT.1 hcc
      refine r_iconst (n := 0) dX1_has_16 ?_
      exact r_zret dX1_has_17 rfl ⟨by decide, by decide⟩ ⟨Nat.zero_le _, Nat.zero_le _⟩ ⟨_, rfl, rfl, hF, hT⟩
    · replace hT := hT.2 hcc
      refine r_iconst (n := 1) dX1_has_12 ?_
      refine r_goto (tgt := 17) dX1_has_13 rfl ?_
      exact r_zret dX1_has_17 rfl ⟨by decide, by decide⟩ ⟨Nat.zero_le _, Nat.zero_le _⟩ ⟨_, rfl, rfl, hF, hT⟩
theorem en_X1_has {E : jE} {G : jG} {I : jM} {q : Int → jM → Prop} {m : Nat} {x1 : Int} (hm : WX1 G m) (hT : (∀ a j, jRg (G.2.1 a).1 (I a j)) → jIn x1 → ((x1 < 0 → q 0 I) ∧ (¬ x1 < 0 → (((I m 5) ≤ x1 → q 0 I) ∧ (¬ (I m 5) ≤ x1 → q 1 I))))) : jRI E jB kX1_has [VR m, VI x1] G I q := jRun.of mt_X1_has.2.2.2 0 rfl (fun _ => st_X1_has_0 hm hT I (fun _ _ => rfl))
set_option maxRecDepth 20000 in
theorem st_X1_isMarked_0 {E : jE} {G : jG} {I : jM} {q : Int → jM → Prop} {m : Nat} {x1 : Int} {x2 : Int} (hm : WX1 G m) (hT : (∀ a j, jRg (G.2.1 a).1 (I a j)) → jIn x1 → jIn x2 → ((0 : Int) ≤ x1 ∧ (x1 : Int) < 1200) ∧ (((jand (I (m + 10) x1) x2) = 0 → q 0 I) ∧ (¬ (jand (I (m + 10) x1) x2) = 0 → q 1 I))) : jOI E jB kX1_isMarked 0 [VR m, VI x1, VI x2] G I q := by
  intro I0 hF
  refine jOk_mem (fun hI => ?_)
  refine jOk_in (i := 1) rfl (fun hx1 => ?_)
  refine jOk_in (i := 2) rfl (fun hx2 => ?_)
  replace hT := hT hI hx1 hx2
  refine r_aload_n dX1_isMarked_0 rfl (i := 0) rfl ?_
  refine rr_getR (b := (m + 10)) dX1_isMarked_1 fg_X1_38 rfl rfl (wX1_l hm) (wX1_s hm) (wX1_r11 hm) ?_
  refine r_iload_n dX1_isMarked_4 rfl (i := 1) rfl ?_
  obtain ⟨hc1, hT⟩ := hT
  refine rr_iaload (v := I (m + 10) x1) dX1_isMarked_5 (wX1_l11 hm) (wX1_a11 hm) (by decide) hc1 rfl ?_
  refine r_iload_n dX1_isMarked_6 rfl (i := 2) rfl ?_
  refine r_iand dX1_isMarked_7 ?_
  refine r_if_eq (tgt := 15) dX1_isMarked_8 rfl (j32_in _) (fun hcc => ?_) (fun hcc => ?_)
  · replace hT := hT.1 hcc
    refine r_iconst (n := 0) dX1_isMarked_15 ?_
    exact r_zret dX1_isMarked_16 rfl ⟨by decide, by decide⟩ ⟨Nat.zero_le _, Nat.zero_le _⟩ ⟨_, rfl, rfl, hF, hT⟩
  · replace hT := hT.2 hcc
    refine r_iconst (n := 1) dX1_isMarked_11 ?_
    refine r_goto (tgt := 16) dX1_isMarked_12 rfl ?_
    exact r_zret dX1_isMarked_16 rfl ⟨by decide, by decide⟩ ⟨Nat.zero_le _, Nat.zero_le _⟩ ⟨_, rfl, rfl, hF, hT⟩
theorem en_X1_isMarked {E : jE} {G : jG} {I : jM} {q : Int → jM → Prop} {m : Nat} {x1 : Int} {x2 : Int} (hm : WX1 G m) (hT : (∀ a j, jRg (G.2.1 a).1 (I a j)) → jIn x1 → jIn x2 → ((0 : Int) ≤ x1 ∧ (x1 : Int) < 1200) ∧ (((jand (I (m + 10) x1) x2) = 0 → q 0 I) ∧ (¬ (jand (I (m + 10) x1) x2) = 0 → q 1 I))) : jRI E jB kX1_isMarked [VR m, VI x1, VI x2] G I q := jRun.of mt_X1_isMarked.2.2.2 0 rfl (fun _ => st_X1_isMarked_0 hm hT I (fun _ _ => rfl))
set_option maxRecDepth 20000 in
theorem st_X1_isPicked_2 {E : jE} {G : jG} {I : jM} {q : Int → jM → Prop} {m : Nat} {x1 : Int} {x2 : Int} (hm : WX1 G m) (hT : (∀ a j, jRg (G.2.1 a).1 (I a j)) → jIn x1 → jIn x2 → (((I m 15) ≤ x2 → q 0 I) ∧ (¬ (I m 15) ≤ x2 → ((0 : Int) ≤ x2 ∧ (x2 : Int) < 200) ∧ ((¬ (I (m + 13) x2) = x1 → jIn (x2 + 1) ∧ jOI E jB kX1_isPicked 2 [VR m, VI x1, VI (x2 + 1)] G I q) ∧ ((I (m + 13) x2) = x1 → q 1 I))))) : jOI E jB kX1_isPicked 2 [VR m, VI x1, VI x2] G I q := by
  intro I0 hF
  refine jOk_mem (fun hI => ?_)
  refine jOk_in (i := 1) rfl (fun hx1 => ?_)
  refine jOk_in (i := 2) rfl (fun hx2 => ?_)
  replace hT := hT hI hx1 hx2
  refine r_iload_n dX1_isPicked_2 rfl (i := 2) rfl ?_
  refine r_aload_n dX1_isPicked_3 rfl (i := 0) rfl ?_
  refine rr_getI (v := I m 15) dX1_isPicked_4 fg_X1_99 rfl (wX1_l hm) (wX1_s hm) rfl ?_
  refine r_icmp_ge (tgt := 28) dX1_isPicked_7 rfl hx2 (hI _ _).inR (fun hcc => ?_) (fun hcc => ?_)
  · replace hT := hT.1 hcc
    refine r_iconst (n := 0) dX1_isPicked_28 ?_
    exact r_zret dX1_isPicked_29 rfl ⟨by decide, by decide⟩ ⟨Nat.zero_le _, Nat.zero_le _⟩ ⟨_, rfl, rfl, hF, hT⟩
  · replace hT := hT.2 hcc
    refine r_aload_n dX1_isPicked_10 rfl (i := 0) rfl ?_
    refine rr_getR (b := (m + 13)) dX1_isPicked_11 fg_X1_47 rfl rfl (wX1_l hm) (wX1_s hm) (wX1_r14 hm) ?_
    refine r_iload_n dX1_isPicked_14 rfl (i := 2) rfl ?_
    obtain ⟨hc1, hT⟩ := hT
    refine rr_iaload (v := I (m + 13) x2) dX1_isPicked_15 (wX1_l14 hm) (wX1_a14 hm) (by decide) hc1 rfl ?_
    refine r_iload_n dX1_isPicked_16 rfl (i := 1) rfl ?_
    refine r_icmp_ne (tgt := 22) dX1_isPicked_17 rfl (hI _ _).inR hx1 (fun hcc => ?_) (fun hcc => ?_)
    · replace hT := hT.1 hcc
      obtain ⟨hc2, hT⟩ := hT
      refine rr_iinc (i := 2) (ls' := [VR m, VI x1, VI (x2 + 1)]) dX1_isPicked_22 rfl (Nat.le_of_ble_eq_true rfl) rfl rfl hc2 ?_
      refine r_goto (tgt := 2) dX1_isPicked_25 rfl ?_
      exact hT I0 hF
    · replace hT := hT.2 hcc
      refine r_iconst (n := 1) dX1_isPicked_20 ?_
      exact r_zret dX1_isPicked_21 rfl ⟨by decide, by decide⟩ ⟨Nat.zero_le _, Nat.zero_le _⟩ ⟨_, rfl, rfl, hF, hT⟩
set_option maxRecDepth 20000 in
theorem st_X1_isPicked_0 {E : jE} {G : jG} {I : jM} {q : Int → jM → Prop} {m : Nat} {x1 : Int} (hm : WX1 G m) (hT : (∀ a j, jRg (G.2.1 a).1 (I a j)) → jIn x1 → jOI E jB kX1_isPicked 2 [VR m, VI x1, VI 0] G I q) : jOI E jB kX1_isPicked 0 [VR m, VI x1, VN] G I q := by
  intro I0 hF
  refine jOk_mem (fun hI => ?_)
  refine jOk_in (i := 1) rfl (fun hx1 => ?_)
  replace hT := hT hI hx1
  refine r_iconst (n := 0) dX1_isPicked_0 ?_
  refine rr_istore_n (i := 2) (ls' := [VR m, VI x1, VI 0]) dX1_isPicked_1 rfl (Nat.le_of_ble_eq_true rfl) rfl rfl ⟨by decide, by decide⟩ ?_
  exact hT I0 hF
theorem en_X1_isPicked {E : jE} {G : jG} {I : jM} {q : Int → jM → Prop} {m : Nat} {x1 : Int} (hm : WX1 G m) (hT : (∀ a j, jRg (G.2.1 a).1 (I a j)) → jIn x1 → jOI E jB kX1_isPicked 2 [VR m, VI x1, VI 0] G I q) : jRI E jB kX1_isPicked [VR m, VI x1] G I q := jRun.of mt_X1_isPicked.2.2.2 1 rfl (fun _ => st_X1_isPicked_0 hm hT I (fun _ _ => rfl))
set_option maxRecDepth 20000 in
theorem st_X1_countMarked_4 {E : jE} {G : jG} {I : jM} {q : Int → jM → Prop} {m : Nat} {x1 : Int} {x2 : Int} {x3 : Int} (hm : WX1 G m) (hT : (∀ a j, jRg (G.2.1 a).1 (I a j)) → jIn x1 → jIn x2 → jIn x3 → (((I m 5) ≤ x3 → q x2 I) ∧ (¬ (I m 5) ≤ x3 → jRI E jB kX1_isMarked [VR m, VI x3, VI x1] G I (fun r2 I1 => ((r2 = 0 → jIn (x3 + 1) ∧ jOI E jB kX1_countMarked 4 [VR m, VI x1, VI x2, VI (x3 + 1)] G I1 q) ∧ (¬ r2 = 0 → jIn (x2 + 1) ∧ jIn (x3 + 1) ∧ jOI E jB kX1_countMarked 4 [VR m, VI x1, VI (x2 + 1), VI (x3 + 1)] G I1 q)))))) : jOI E jB kX1_countMarked 4 [VR m, VI x1, VI x2, VI x3] G I q := by
  intro I0 hF
  refine jOk_mem (fun hI => ?_)
  refine jOk_in (i := 1) rfl (fun hx1 => ?_)
  refine jOk_in (i := 2) rfl (fun hx2 => ?_)
  refine jOk_in (i := 3) rfl (fun hx3 => ?_)
  replace hT := hT hI hx1 hx2 hx3
  refine r_iload_n dX1_countMarked_4 rfl (i := 3) rfl ?_
  refine r_aload_n dX1_countMarked_5 rfl (i := 0) rfl ?_
  refine rr_getI (v := I m 5) dX1_countMarked_6 fg_X1_66 rfl (wX1_l hm) (wX1_s hm) rfl ?_
  refine r_icmp_ge (tgt := 30) dX1_countMarked_9 rfl hx3 (hI _ _).inR (fun hcc => ?_) (fun hcc => ?_)
  · replace hT := hT.1 hcc
    refine r_iload_n dX1_countMarked_30 rfl (i := 2) rfl ?_
    exact r_iret dX1_countMarked_31 rfl hx2 ⟨Nat.zero_le _, Nat.zero_le _⟩ ⟨_, rfl, rfl, hF, hT⟩
  · replace hT := hT.2 hcc
    refine r_aload_n dX1_countMarked_12 rfl (i := 0) rfl ?_
    refine r_iload_n dX1_countMarked_13 rfl (i := 3) rfl ?_
    refine r_iload_n dX1_countMarked_14 rfl (i := 1) rfl ?_
    refine rr_cVI (a := m) (as := [VI x3, VI x1]) (st := []) dX1_countMarked_15 mt_X1_isMarked ml_X1_234 mi_X1_isMarked rm_X1_countMarked_X1_isMarked jz_X1_isMarked ⟨Nat.zero_le _, Nat.zero_le _⟩ (Nat.le_of_ble_eq_true rfl) (wX1_l hm) (wX1_c hm) (jasI hx3 (jasI hx1 jas0)) hT (fun r2 I1 hc3 hFI1 hT => ?_)
    replace hFI1 := jFr_tr hF hFI1
    refine jOk_mem (fun hI1 => ?_)
    refine r_if_eq (tgt := 24) dX1_countMarked_18 rfl hc3 (fun hcc => ?_) (fun hcc => ?_)
    · replace hT := hT.1 hcc
      obtain ⟨hc4, hT⟩ := hT
      refine rr_iinc (i := 3) (ls' := [VR m, VI x1, VI x2, VI (x3 + 1)]) dX1_countMarked_24 rfl (Nat.le_of_ble_eq_true rfl) rfl rfl hc4 ?_
      refine r_goto (tgt := 4) dX1_countMarked_27 rfl ?_
      exact hT I0 hFI1
    · replace hT := hT.2 hcc
      obtain ⟨hc5, hT⟩ := hT
      refine rr_iinc (i := 2) (ls' := [VR m, VI x1, VI (x2 + 1), VI x3]) dX1_countMarked_21 rfl (Nat.le_of_ble_eq_true rfl) rfl rfl hc5 ?_
      obtain ⟨hc6, hT⟩ := hT
      refine rr_iinc (i := 3) (ls' := [VR m, VI x1, VI (x2 + 1), VI (x3 + 1)]) dX1_countMarked_24 rfl (Nat.le_of_ble_eq_true rfl) rfl rfl hc6 ?_
      refine r_goto (tgt := 4) dX1_countMarked_27 rfl ?_
      exact hT I0 hFI1
set_option maxRecDepth 20000 in
theorem st_X1_countMarked_0 {E : jE} {G : jG} {I : jM} {q : Int → jM → Prop} {m : Nat} {x1 : Int} (hm : WX1 G m) (hT : (∀ a j, jRg (G.2.1 a).1 (I a j)) → jIn x1 → jOI E jB kX1_countMarked 4 [VR m, VI x1, VI 0, VI 0] G I q) : jOI E jB kX1_countMarked 0 [VR m, VI x1, VN, VN] G I q := by
  intro I0 hF
  refine jOk_mem (fun hI => ?_)
  refine jOk_in (i := 1) rfl (fun hx1 => ?_)
  replace hT := hT hI hx1
  refine r_iconst (n := 0) dX1_countMarked_0 ?_
  refine rr_istore_n (i := 2) (ls' := [VR m, VI x1, VI 0, VN]) dX1_countMarked_1 rfl (Nat.le_of_ble_eq_true rfl) rfl rfl ⟨by decide, by decide⟩ ?_
  refine r_iconst (n := 0) dX1_countMarked_2 ?_
  refine rr_istore_n (i := 3) (ls' := [VR m, VI x1, VI 0, VI 0]) dX1_countMarked_3 rfl (Nat.le_of_ble_eq_true rfl) rfl rfl ⟨by decide, by decide⟩ ?_
  exact hT I0 hF
theorem en_X1_countMarked {E : jE} {G : jG} {I : jM} {q : Int → jM → Prop} {m : Nat} {x1 : Int} (hm : WX1 G m) (hT : (∀ a j, jRg (G.2.1 a).1 (I a j)) → jIn x1 → jOI E jB kX1_countMarked 4 [VR m, VI x1, VI 0, VI 0] G I q) : jRI E jB kX1_countMarked [VR m, VI x1] G I q := jRun.of mt_X1_countMarked.2.2.2 2 rfl (fun _ => st_X1_countMarked_0 hm hT I (fun _ _ => rfl))
set_option maxRecDepth 20000 in
theorem st_X1_countOfRule_4 {E : jE} {G : jG} {I : jM} {q : Int → jM → Prop} {m : Nat} {x1 : Int} {x2 : Int} {x3 : Int} (hm : WX1 G m) (hT : (∀ a j, jRg (G.2.1 a).1 (I a j)) → jIn x1 → jIn x2 → jIn x3 → (((I m 5) ≤ x3 → q x2 I) ∧ (¬ (I m 5) ≤ x3 → ((0 : Int) ≤ x3 ∧ (x3 : Int) < 1200) ∧ ((¬ (I (m + 5) x3) = x1 → jIn (x3 + 1) ∧ jOI E jB kX1_countOfRule 4 [VR m, VI x1, VI x2, VI (x3 + 1)] G I q) ∧ ((I (m + 5) x3) = x1 → jIn (x2 + 1) ∧ jIn (x3 + 1) ∧ jOI E jB kX1_countOfRule 4 [VR m, VI x1, VI (x2 + 1), VI (x3 + 1)] G I q))))) : jOI E jB kX1_countOfRule 4 [VR m, VI x1, VI x2, VI x3] G I q := by
  intro I0 hF
  refine jOk_mem (fun hI => ?_)
  refine jOk_in (i := 1) rfl (fun hx1 => ?_)
  refine jOk_in (i := 2) rfl (fun hx2 => ?_)
  refine jOk_in (i := 3) rfl (fun hx3 => ?_)
  replace hT := hT hI hx1 hx2 hx3
  refine r_iload_n dX1_countOfRule_4 rfl (i := 3) rfl ?_
  refine r_aload_n dX1_countOfRule_5 rfl (i := 0) rfl ?_
  refine rr_getI (v := I m 5) dX1_countOfRule_6 fg_X1_66 rfl (wX1_l hm) (wX1_s hm) rfl ?_
  refine r_icmp_ge (tgt := 31) dX1_countOfRule_9 rfl hx3 (hI _ _).inR (fun hcc => ?_) (fun hcc => ?_)
  · replace hT := hT.1 hcc
    refine r_iload_n dX1_countOfRule_31 rfl (i := 2) rfl ?_
    exact r_iret dX1_countOfRule_32 rfl hx2 ⟨Nat.zero_le _, Nat.zero_le _⟩ ⟨_, rfl, rfl, hF, hT⟩
  · replace hT := hT.2 hcc
    refine r_aload_n dX1_countOfRule_12 rfl (i := 0) rfl ?_
    refine rr_getR (b := (m + 5)) dX1_countOfRule_13 fg_X1_22 rfl rfl (wX1_l hm) (wX1_s hm) (wX1_r6 hm) ?_
    refine r_iload_n dX1_countOfRule_16 rfl (i := 3) rfl ?_
    obtain ⟨hc1, hT⟩ := hT
    refine rr_iaload (v := I (m + 5) x3) dX1_countOfRule_17 (wX1_l6 hm) (wX1_a6 hm) (by decide) hc1 rfl ?_
    refine r_iload_n dX1_countOfRule_18 rfl (i := 1) rfl ?_
    refine r_icmp_ne (tgt := 25) dX1_countOfRule_19 rfl (hI _ _).inR hx1 (fun hcc => ?_) (fun hcc => ?_)
    · replace hT := hT.1 hcc
      obtain ⟨hc2, hT⟩ := hT
      refine rr_iinc (i := 3) (ls' := [VR m, VI x1, VI x2, VI (x3 + 1)]) dX1_countOfRule_25 rfl (Nat.le_of_ble_eq_true rfl) rfl rfl hc2 ?_
      refine r_goto (tgt := 4) dX1_countOfRule_28 rfl ?_
      exact hT I0 hF
    · replace hT := hT.2 hcc
      obtain ⟨hc3, hT⟩ := hT
      refine rr_iinc (i := 2) (ls' := [VR m, VI x1, VI (x2 + 1), VI x3]) dX1_countOfRule_22 rfl (Nat.le_of_ble_eq_true rfl) rfl rfl hc3 ?_
      obtain ⟨hc4, hT⟩ := hT
      refine rr_iinc (i := 3) (ls' := [VR m, VI x1, VI (x2 + 1), VI (x3 + 1)]) dX1_countOfRule_25 rfl (Nat.le_of_ble_eq_true rfl) rfl rfl hc4 ?_
      refine r_goto (tgt := 4) dX1_countOfRule_28 rfl ?_
      exact hT I0 hF
set_option maxRecDepth 20000 in
theorem st_X1_countOfRule_0 {E : jE} {G : jG} {I : jM} {q : Int → jM → Prop} {m : Nat} {x1 : Int} (hm : WX1 G m) (hT : (∀ a j, jRg (G.2.1 a).1 (I a j)) → jIn x1 → jOI E jB kX1_countOfRule 4 [VR m, VI x1, VI 0, VI 0] G I q) : jOI E jB kX1_countOfRule 0 [VR m, VI x1, VN, VN] G I q := by
  intro I0 hF
  refine jOk_mem (fun hI => ?_)
  refine jOk_in (i := 1) rfl (fun hx1 => ?_)
  replace hT := hT hI hx1
  refine r_iconst (n := 0) dX1_countOfRule_0 ?_
  refine rr_istore_n (i := 2) (ls' := [VR m, VI x1, VI 0, VN]) dX1_countOfRule_1 rfl (Nat.le_of_ble_eq_true rfl) rfl rfl ⟨by decide, by decide⟩ ?_
  refine r_iconst (n := 0) dX1_countOfRule_2 ?_
  refine rr_istore_n (i := 3) (ls' := [VR m, VI x1, VI 0, VI 0]) dX1_countOfRule_3 rfl (Nat.le_of_ble_eq_true rfl) rfl rfl ⟨by decide, by decide⟩ ?_
  exact hT I0 hF
theorem en_X1_countOfRule {E : jE} {G : jG} {I : jM} {q : Int → jM → Prop} {m : Nat} {x1 : Int} (hm : WX1 G m) (hT : (∀ a j, jRg (G.2.1 a).1 (I a j)) → jIn x1 → jOI E jB kX1_countOfRule 4 [VR m, VI x1, VI 0, VI 0] G I q) : jRI E jB kX1_countOfRule [VR m, VI x1] G I q := jRun.of mt_X1_countOfRule.2.2.2 2 rfl (fun _ => st_X1_countOfRule_0 hm hT I (fun _ _ => rfl))
set_option maxRecDepth 20000 in
theorem st_X1_countPicked_4 {E : jE} {G : jG} {I : jM} {q : Int → jM → Prop} {m : Nat} {x1 : Int} {x2 : Int} {x3 : Int} (hm : WX1 G m) (hT : (∀ a j, jRg (G.2.1 a).1 (I a j)) → jIn x1 → jIn x2 → jIn x3 → (((I m 15) ≤ x3 → q x2 I) ∧ (¬ (I m 15) ≤ x3 → ((0 : Int) ≤ x3 ∧ (x3 : Int) < 200) ∧ ((0 : Int) ≤ (I (m + 13) x3) ∧ ((I (m + 13) x3) : Int) < 1200) ∧ ((¬ (I (m + 5) (I (m + 13) x3)) = x1 → jIn (x3 + 1) ∧ jOI E jB kX1_countPicked 4 [VR m, VI x1, VI x2, VI (x3 + 1)] G I q) ∧ ((I (m + 5) (I (m + 13) x3)) = x1 → jIn (x2 + 1) ∧ jIn (x3 + 1) ∧ jOI E jB kX1_countPicked 4 [VR m, VI x1, VI (x2 + 1), VI (x3 + 1)] G I q))))) : jOI E jB kX1_countPicked 4 [VR m, VI x1, VI x2, VI x3] G I q := by
  intro I0 hF
  refine jOk_mem (fun hI => ?_)
  refine jOk_in (i := 1) rfl (fun hx1 => ?_)
  refine jOk_in (i := 2) rfl (fun hx2 => ?_)
  refine jOk_in (i := 3) rfl (fun hx3 => ?_)
  replace hT := hT hI hx1 hx2 hx3
  refine r_iload_n dX1_countPicked_4 rfl (i := 3) rfl ?_
  refine r_aload_n dX1_countPicked_5 rfl (i := 0) rfl ?_
  refine rr_getI (v := I m 15) dX1_countPicked_6 fg_X1_99 rfl (wX1_l hm) (wX1_s hm) rfl ?_
  refine r_icmp_ge (tgt := 36) dX1_countPicked_9 rfl hx3 (hI _ _).inR (fun hcc => ?_) (fun hcc => ?_)
  · replace hT := hT.1 hcc
    refine r_iload_n dX1_countPicked_36 rfl (i := 2) rfl ?_
    exact r_iret dX1_countPicked_37 rfl hx2 ⟨Nat.zero_le _, Nat.zero_le _⟩ ⟨_, rfl, rfl, hF, hT⟩
  · replace hT := hT.2 hcc
    refine r_aload_n dX1_countPicked_12 rfl (i := 0) rfl ?_
    refine rr_getR (b := (m + 5)) dX1_countPicked_13 fg_X1_22 rfl rfl (wX1_l hm) (wX1_s hm) (wX1_r6 hm) ?_
    refine r_aload_n dX1_countPicked_16 rfl (i := 0) rfl ?_
    refine rr_getR (b := (m + 13)) dX1_countPicked_17 fg_X1_47 rfl rfl (wX1_l hm) (wX1_s hm) (wX1_r14 hm) ?_
    refine r_iload_n dX1_countPicked_20 rfl (i := 3) rfl ?_
    obtain ⟨hc1, hT⟩ := hT
    refine rr_iaload (v := I (m + 13) x3) dX1_countPicked_21 (wX1_l14 hm) (wX1_a14 hm) (by decide) hc1 rfl ?_
    obtain ⟨hc2, hT⟩ := hT
    refine rr_iaload (v := I (m + 5) (I (m + 13) x3)) dX1_countPicked_22 (wX1_l6 hm) (wX1_a6 hm) (by decide) hc2 rfl ?_
    refine r_iload_n dX1_countPicked_23 rfl (i := 1) rfl ?_
    refine r_icmp_ne (tgt := 30) dX1_countPicked_24 rfl (hI _ _).inR hx1 (fun hcc => ?_) (fun hcc => ?_)
    · replace hT := hT.1 hcc
      obtain ⟨hc3, hT⟩ := hT
      refine rr_iinc (i := 3) (ls' := [VR m, VI x1, VI x2, VI (x3 + 1)]) dX1_countPicked_30 rfl (Nat.le_of_ble_eq_true rfl) rfl rfl hc3 ?_
      refine r_goto (tgt := 4) dX1_countPicked_33 rfl ?_
      exact hT I0 hF
    · replace hT := hT.2 hcc
      obtain ⟨hc4, hT⟩ := hT
      refine rr_iinc (i := 2) (ls' := [VR m, VI x1, VI (x2 + 1), VI x3]) dX1_countPicked_27 rfl (Nat.le_of_ble_eq_true rfl) rfl rfl hc4 ?_
      obtain ⟨hc5, hT⟩ := hT
      refine rr_iinc (i := 3) (ls' := [VR m, VI x1, VI (x2 + 1), VI (x3 + 1)]) dX1_countPicked_30 rfl (Nat.le_of_ble_eq_true rfl) rfl rfl hc5 ?_
      refine r_goto (tgt := 4) dX1_countPicked_33 rfl ?_
      exact hT I0 hF
set_option maxRecDepth 20000 in
theorem st_X1_countPicked_0 {E : jE} {G : jG} {I : jM} {q : Int → jM → Prop} {m : Nat} {x1 : Int} (hm : WX1 G m) (hT : (∀ a j, jRg (G.2.1 a).1 (I a j)) → jIn x1 → jOI E jB kX1_countPicked 4 [VR m, VI x1, VI 0, VI 0] G I q) : jOI E jB kX1_countPicked 0 [VR m, VI x1, VN, VN] G I q := by
  intro I0 hF
  refine jOk_mem (fun hI => ?_)
  refine jOk_in (i := 1) rfl (fun hx1 => ?_)
  replace hT := hT hI hx1
  refine r_iconst (n := 0) dX1_countPicked_0 ?_
  refine rr_istore_n (i := 2) (ls' := [VR m, VI x1, VI 0, VN]) dX1_countPicked_1 rfl (Nat.le_of_ble_eq_true rfl) rfl rfl ⟨by decide, by decide⟩ ?_
  refine r_iconst (n := 0) dX1_countPicked_2 ?_
  refine rr_istore_n (i := 3) (ls' := [VR m, VI x1, VI 0, VI 0]) dX1_countPicked_3 rfl (Nat.le_of_ble_eq_true rfl) rfl rfl ⟨by decide, by decide⟩ ?_
  exact hT I0 hF
theorem en_X1_countPicked {E : jE} {G : jG} {I : jM} {q : Int → jM → Prop} {m : Nat} {x1 : Int} (hm : WX1 G m) (hT : (∀ a j, jRg (G.2.1 a).1 (I a j)) → jIn x1 → jOI E jB kX1_countPicked 4 [VR m, VI x1, VI 0, VI 0] G I q) : jRI E jB kX1_countPicked [VR m, VI x1] G I q := jRun.of mt_X1_countPicked.2.2.2 2 rfl (fun _ => st_X1_countPicked_0 hm hT I (fun _ _ => rfl))
set_option maxRecDepth 20000 in
theorem st_X1_pickedRules_4 {E : jE} {G : jG} {I : jM} {q : Int → jM → Prop} {m : Nat} {x1 : Int} {x2 : Int} (hm : WX1 G m) (hT : (∀ a j, jRg (G.2.1 a).1 (I a j)) → jIn x1 → jIn x2 → (((I m 15) ≤ x2 → q x1 I) ∧ (¬ (I m 15) ≤ x2 → ((0 : Int) ≤ x2 ∧ (x2 : Int) < 200) ∧ ((0 : Int) ≤ (I (m + 13) x2) ∧ ((I (m + 13) x2) : Int) < 1200) ∧ jIn (x2 + 1) ∧ jOI E jB kX1_pickedRules 4 [VR m, VI (jor x1 (jshl 1 (I (m + 5) (I (m + 13) x2)))), VI (x2 + 1)] G I q))) : jOI E jB kX1_pickedRules 4 [VR m, VI x1, VI x2] G I q := by
  intro I0 hF
  refine jOk_mem (fun hI => ?_)
  refine jOk_in (i := 1) rfl (fun hx1 => ?_)
  refine jOk_in (i := 2) rfl (fun hx2 => ?_)
  replace hT := hT hI hx1 hx2
  refine r_iload_n dX1_pickedRules_4 rfl (i := 2) rfl ?_
  refine r_aload_n dX1_pickedRules_5 rfl (i := 0) rfl ?_
  refine rr_getI (v := I m 15) dX1_pickedRules_6 fg_X1_99 rfl (wX1_l hm) (wX1_s hm) rfl ?_
  refine r_icmp_ge (tgt := 34) dX1_pickedRules_9 rfl hx2 (hI _ _).inR (fun hcc => ?_) (fun hcc => ?_)
  · replace hT := hT.1 hcc
    refine r_iload_n dX1_pickedRules_34 rfl (i := 1) rfl ?_
    exact r_iret dX1_pickedRules_35 rfl hx1 ⟨Nat.zero_le _, Nat.zero_le _⟩ ⟨_, rfl, rfl, hF, hT⟩
  · replace hT := hT.2 hcc
    refine r_iload_n dX1_pickedRules_12 rfl (i := 1) rfl ?_
    refine r_iconst (n := 1) dX1_pickedRules_13 ?_
    refine r_aload_n dX1_pickedRules_14 rfl (i := 0) rfl ?_
    refine rr_getR (b := (m + 5)) dX1_pickedRules_15 fg_X1_22 rfl rfl (wX1_l hm) (wX1_s hm) (wX1_r6 hm) ?_
    refine r_aload_n dX1_pickedRules_18 rfl (i := 0) rfl ?_
    refine rr_getR (b := (m + 13)) dX1_pickedRules_19 fg_X1_47 rfl rfl (wX1_l hm) (wX1_s hm) (wX1_r14 hm) ?_
    refine r_iload_n dX1_pickedRules_22 rfl (i := 2) rfl ?_
    obtain ⟨hc1, hT⟩ := hT
    refine rr_iaload (v := I (m + 13) x2) dX1_pickedRules_23 (wX1_l14 hm) (wX1_a14 hm) (by decide) hc1 rfl ?_
    obtain ⟨hc2, hT⟩ := hT
    refine rr_iaload (v := I (m + 5) (I (m + 13) x2)) dX1_pickedRules_24 (wX1_l6 hm) (wX1_a6 hm) (by decide) hc2 rfl ?_
    refine r_ishl dX1_pickedRules_25 ?_
    refine r_ior dX1_pickedRules_26 ?_
    refine rr_istore_n (i := 1) (ls' := [VR m, VI (jor x1 (jshl 1 (I (m + 5) (I (m + 13) x2)))), VI x2]) dX1_pickedRules_27 rfl (Nat.le_of_ble_eq_true rfl) rfl rfl (j32_in _) ?_
    obtain ⟨hc3, hT⟩ := hT
    refine rr_iinc (i := 2) (ls' := [VR m, VI (jor x1 (jshl 1 (I (m + 5) (I (m + 13) x2)))), VI (x2 + 1)]) dX1_pickedRules_28 rfl (Nat.le_of_ble_eq_true rfl) rfl rfl hc3 ?_
    refine r_goto (tgt := 4) dX1_pickedRules_31 rfl ?_
    exact hT I0 hF
set_option maxRecDepth 20000 in
theorem st_X1_pickedRules_0 {E : jE} {G : jG} {I : jM} {q : Int → jM → Prop} {m : Nat} (hm : WX1 G m) (hT : (∀ a j, jRg (G.2.1 a).1 (I a j)) → jOI E jB kX1_pickedRules 4 [VR m, VI 0, VI 0] G I q) : jOI E jB kX1_pickedRules 0 [VR m, VN, VN] G I q := by
  intro I0 hF
  refine jOk_mem (fun hI => ?_)
  replace hT := hT hI 
  refine r_iconst (n := 0) dX1_pickedRules_0 ?_
  refine rr_istore_n (i := 1) (ls' := [VR m, VI 0, VN]) dX1_pickedRules_1 rfl (Nat.le_of_ble_eq_true rfl) rfl rfl ⟨by decide, by decide⟩ ?_
  refine r_iconst (n := 0) dX1_pickedRules_2 ?_
  refine rr_istore_n (i := 2) (ls' := [VR m, VI 0, VI 0]) dX1_pickedRules_3 rfl (Nat.le_of_ble_eq_true rfl) rfl rfl ⟨by decide, by decide⟩ ?_
  exact hT I0 hF
theorem en_X1_pickedRules {E : jE} {G : jG} {I : jM} {q : Int → jM → Prop} {m : Nat} (hm : WX1 G m) (hT : (∀ a j, jRg (G.2.1 a).1 (I a j)) → jOI E jB kX1_pickedRules 4 [VR m, VI 0, VI 0] G I q) : jRI E jB kX1_pickedRules [VR m] G I q := jRun.of mt_X1_pickedRules.2.2.2 2 rfl (fun _ => st_X1_pickedRules_0 hm hT I (fun _ _ => rfl))
set_option maxRecDepth 20000 in
theorem st_X1_pickedValue_4 {E : jE} {G : jG} {I : jM} {q : Int → jM → Prop} {m : Nat} {x1 : Int} {x2 : Int} (hm : WX1 G m) (hT : (∀ a j, jRg (G.2.1 a).1 (I a j)) → jIn x1 → jIn x2 → (((I m 15) ≤ x2 → q x1 I) ∧ (¬ (I m 15) ≤ x2 → ((0 : Int) ≤ x2 ∧ (x2 : Int) < 200) ∧ ((0 : Int) ≤ (I (m + 13) x2) ∧ ((I (m + 13) x2) : Int) < 1200) ∧ jIn (x1 + (I (m + 9) (I (m + 13) x2))) ∧ jIn (x2 + 1) ∧ jOI E jB kX1_pickedValue 4 [VR m, VI (x1 + (I (m + 9) (I (m + 13) x2))), VI (x2 + 1)] G I q))) : jOI E jB kX1_pickedValue 4 [VR m, VI x1, VI x2] G I q := by
  intro I0 hF
  refine jOk_mem (fun hI => ?_)
  refine jOk_in (i := 1) rfl (fun hx1 => ?_)
  refine jOk_in (i := 2) rfl (fun hx2 => ?_)
  replace hT := hT hI hx1 hx2
  refine r_iload_n dX1_pickedValue_4 rfl (i := 2) rfl ?_
  refine r_aload_n dX1_pickedValue_5 rfl (i := 0) rfl ?_
  refine rr_getI (v := I m 15) dX1_pickedValue_6 fg_X1_99 rfl (wX1_l hm) (wX1_s hm) rfl ?_
  refine r_icmp_ge (tgt := 32) dX1_pickedValue_9 rfl hx2 (hI _ _).inR (fun hcc => ?_) (fun hcc => ?_)
  · replace hT := hT.1 hcc
    refine r_iload_n dX1_pickedValue_32 rfl (i := 1) rfl ?_
    exact r_iret dX1_pickedValue_33 rfl hx1 ⟨Nat.zero_le _, Nat.zero_le _⟩ ⟨_, rfl, rfl, hF, hT⟩
  · replace hT := hT.2 hcc
    refine r_iload_n dX1_pickedValue_12 rfl (i := 1) rfl ?_
    refine r_aload_n dX1_pickedValue_13 rfl (i := 0) rfl ?_
    refine rr_getR (b := (m + 9)) dX1_pickedValue_14 fg_X1_35 rfl rfl (wX1_l hm) (wX1_s hm) (wX1_r10 hm) ?_
    refine r_aload_n dX1_pickedValue_17 rfl (i := 0) rfl ?_
    refine rr_getR (b := (m + 13)) dX1_pickedValue_18 fg_X1_47 rfl rfl (wX1_l hm) (wX1_s hm) (wX1_r14 hm) ?_
    refine r_iload_n dX1_pickedValue_21 rfl (i := 2) rfl ?_
    obtain ⟨hc1, hT⟩ := hT
    refine rr_iaload (v := I (m + 13) x2) dX1_pickedValue_22 (wX1_l14 hm) (wX1_a14 hm) (by decide) hc1 rfl ?_
    obtain ⟨hc2, hT⟩ := hT
    refine rr_iaload (v := I (m + 9) (I (m + 13) x2)) dX1_pickedValue_23 (wX1_l10 hm) (wX1_a10 hm) (by decide) hc2 rfl ?_
    refine r_iadd dX1_pickedValue_24 ?_
    obtain ⟨hc3, hT⟩ := hT
    refine rr_istore_n (i := 1) (ls' := [VR m, VI (x1 + (I (m + 9) (I (m + 13) x2))), VI x2]) dX1_pickedValue_25 rfl (Nat.le_of_ble_eq_true rfl) rfl rfl hc3 ?_
    obtain ⟨hc4, hT⟩ := hT
    refine rr_iinc (i := 2) (ls' := [VR m, VI (x1 + (I (m + 9) (I (m + 13) x2))), VI (x2 + 1)]) dX1_pickedValue_26 rfl (Nat.le_of_ble_eq_true rfl) rfl rfl hc4 ?_
    refine r_goto (tgt := 4) dX1_pickedValue_29 rfl ?_
    exact hT I0 hF
set_option maxRecDepth 20000 in
theorem st_X1_pickedValue_0 {E : jE} {G : jG} {I : jM} {q : Int → jM → Prop} {m : Nat} (hm : WX1 G m) (hT : (∀ a j, jRg (G.2.1 a).1 (I a j)) → jOI E jB kX1_pickedValue 4 [VR m, VI 0, VI 0] G I q) : jOI E jB kX1_pickedValue 0 [VR m, VN, VN] G I q := by
  intro I0 hF
  refine jOk_mem (fun hI => ?_)
  replace hT := hT hI 
  refine r_iconst (n := 0) dX1_pickedValue_0 ?_
  refine rr_istore_n (i := 1) (ls' := [VR m, VI 0, VN]) dX1_pickedValue_1 rfl (Nat.le_of_ble_eq_true rfl) rfl rfl ⟨by decide, by decide⟩ ?_
  refine r_iconst (n := 0) dX1_pickedValue_2 ?_
  refine rr_istore_n (i := 2) (ls' := [VR m, VI 0, VI 0]) dX1_pickedValue_3 rfl (Nat.le_of_ble_eq_true rfl) rfl rfl ⟨by decide, by decide⟩ ?_
  exact hT I0 hF
theorem en_X1_pickedValue {E : jE} {G : jG} {I : jM} {q : Int → jM → Prop} {m : Nat} (hm : WX1 G m) (hT : (∀ a j, jRg (G.2.1 a).1 (I a j)) → jOI E jB kX1_pickedValue 4 [VR m, VI 0, VI 0] G I q) : jRI E jB kX1_pickedValue [VR m] G I q := jRun.of mt_X1_pickedValue.2.2.2 2 rfl (fun _ => st_X1_pickedValue_0 hm hT I (fun _ _ => rfl))
set_option maxRecDepth 20000 in
theorem st_X1_pickedBytes_4 {E : jE} {G : jG} {I : jM} {q : Int → jM → Prop} {m : Nat} {x1 : Int} {x2 : Int} (hm : WX1 G m) (hT : (∀ a j, jRg (G.2.1 a).1 (I a j)) → jIn x1 → jIn x2 → (((I m 15) ≤ x2 → q x1 I) ∧ (¬ (I m 15) ≤ x2 → ((0 : Int) ≤ x2 ∧ (x2 : Int) < 200) ∧ jRI E jB kX1_endOf [VR m, VI (I (m + 13) x2)] G I (fun r3 I2 => ((0 : Int) ≤ x2 ∧ (x2 : Int) < 200) ∧ jRI E jB kX1_beginOf [VR m, VI (I2 (m + 13) x2)] G I2 (fun r7 I6 => jIn (x1 + (r3 - r7)) ∧ jIn (x2 + 1) ∧ jOI E jB kX1_pickedBytes 4 [VR m, VI (x1 + (r3 - r7)), VI (x2 + 1)] G I6 q))))) : jOI E jB kX1_pickedBytes 4 [VR m, VI x1, VI x2] G I q := by
  intro I0 hF
  refine jOk_mem (fun hI => ?_)
  refine jOk_in (i := 1) rfl (fun hx1 => ?_)
  refine jOk_in (i := 2) rfl (fun hx2 => ?_)
  replace hT := hT hI hx1 hx2
  refine r_iload_n dX1_pickedBytes_4 rfl (i := 2) rfl ?_
  refine r_aload_n dX1_pickedBytes_5 rfl (i := 0) rfl ?_
  refine rr_getI (v := I m 15) dX1_pickedBytes_6 fg_X1_99 rfl (wX1_l hm) (wX1_s hm) rfl ?_
  refine r_icmp_ge (tgt := 42) dX1_pickedBytes_9 rfl hx2 (hI _ _).inR (fun hcc => ?_) (fun hcc => ?_)
  · replace hT := hT.1 hcc
    refine r_iload_n dX1_pickedBytes_42 rfl (i := 1) rfl ?_
    exact r_iret dX1_pickedBytes_43 rfl hx1 ⟨Nat.zero_le _, Nat.zero_le _⟩ ⟨_, rfl, rfl, hF, hT⟩
  · replace hT := hT.2 hcc
    refine r_iload_n dX1_pickedBytes_12 rfl (i := 1) rfl ?_
    refine r_aload_n dX1_pickedBytes_13 rfl (i := 0) rfl ?_
    refine r_aload_n dX1_pickedBytes_14 rfl (i := 0) rfl ?_
    refine rr_getR (b := (m + 13)) dX1_pickedBytes_15 fg_X1_47 rfl rfl (wX1_l hm) (wX1_s hm) (wX1_r14 hm) ?_
    refine r_iload_n dX1_pickedBytes_18 rfl (i := 2) rfl ?_
    obtain ⟨hc1, hT⟩ := hT
    refine rr_iaload (v := I (m + 13) x2) dX1_pickedBytes_19 (wX1_l14 hm) (wX1_a14 hm) (by decide) hc1 rfl ?_
    refine rr_cVI (a := m) (as := [VI (I (m + 13) x2)]) (st := [VI x1]) dX1_pickedBytes_20 mt_X1_endOf ml_X1_228 mi_X1_endOf rm_X1_pickedBytes_X1_endOf jz_X1_endOf ⟨Nat.zero_le _, Nat.zero_le _⟩ (Nat.le_of_ble_eq_true rfl) (wX1_l hm) (wX1_c hm) (jasI (hI _ _).inR jas0) hT (fun r3 I2 hc4 hFI2 hT => ?_)
    replace hFI2 := jFr_tr hF hFI2
    refine jOk_mem (fun hI2 => ?_)
    refine r_aload_n dX1_pickedBytes_23 rfl (i := 0) rfl ?_
    refine r_aload_n dX1_pickedBytes_24 rfl (i := 0) rfl ?_
    refine rr_getR (b := (m + 13)) dX1_pickedBytes_25 fg_X1_47 rfl rfl (wX1_l hm) (wX1_s hm) (wX1_r14 hm) ?_
    refine r_iload_n dX1_pickedBytes_28 rfl (i := 2) rfl ?_
    obtain ⟨hc5, hT⟩ := hT
    refine rr_iaload (v := I2 (m + 13) x2) dX1_pickedBytes_29 (wX1_l14 hm) (wX1_a14 hm) (by decide) hc5 rfl ?_
    refine rr_cVI (a := m) (as := [VI (I2 (m + 13) x2)]) (st := [VI r3, VI x1]) dX1_pickedBytes_30 mt_X1_beginOf ml_X1_218 mi_X1_beginOf rm_X1_pickedBytes_X1_beginOf jz_X1_beginOf ⟨Nat.zero_le _, Nat.zero_le _⟩ (Nat.le_of_ble_eq_true rfl) (wX1_l hm) (wX1_c hm) (jasI (hI2 _ _).inR jas0) hT (fun r7 I6 hc8 hFI6 hT => ?_)
    replace hFI6 := jFr_tr hFI2 hFI6
    refine jOk_mem (fun hI6 => ?_)
    refine r_isub dX1_pickedBytes_33 ?_
    refine r_iadd dX1_pickedBytes_34 ?_
    obtain ⟨hc9, hT⟩ := hT
    refine rr_istore_n (i := 1) (ls' := [VR m, VI (x1 + (r3 - r7)), VI x2]) dX1_pickedBytes_35 rfl (Nat.le_of_ble_eq_true rfl) rfl rfl hc9 ?_
    obtain ⟨hc10, hT⟩ := hT
    refine rr_iinc (i := 2) (ls' := [VR m, VI (x1 + (r3 - r7)), VI (x2 + 1)]) dX1_pickedBytes_36 rfl (Nat.le_of_ble_eq_true rfl) rfl rfl hc10 ?_
    refine r_goto (tgt := 4) dX1_pickedBytes_39 rfl ?_
    exact hT I0 hFI6
set_option maxRecDepth 20000 in
theorem st_X1_pickedBytes_0 {E : jE} {G : jG} {I : jM} {q : Int → jM → Prop} {m : Nat} (hm : WX1 G m) (hT : (∀ a j, jRg (G.2.1 a).1 (I a j)) → jOI E jB kX1_pickedBytes 4 [VR m, VI 0, VI 0] G I q) : jOI E jB kX1_pickedBytes 0 [VR m, VN, VN] G I q := by
  intro I0 hF
  refine jOk_mem (fun hI => ?_)
  replace hT := hT hI 
  refine r_iconst (n := 0) dX1_pickedBytes_0 ?_
  refine rr_istore_n (i := 1) (ls' := [VR m, VI 0, VN]) dX1_pickedBytes_1 rfl (Nat.le_of_ble_eq_true rfl) rfl rfl ⟨by decide, by decide⟩ ?_
  refine r_iconst (n := 0) dX1_pickedBytes_2 ?_
  refine rr_istore_n (i := 2) (ls' := [VR m, VI 0, VI 0]) dX1_pickedBytes_3 rfl (Nat.le_of_ble_eq_true rfl) rfl rfl ⟨by decide, by decide⟩ ?_
  exact hT I0 hF
theorem en_X1_pickedBytes {E : jE} {G : jG} {I : jM} {q : Int → jM → Prop} {m : Nat} (hm : WX1 G m) (hT : (∀ a j, jRg (G.2.1 a).1 (I a j)) → jOI E jB kX1_pickedBytes 4 [VR m, VI 0, VI 0] G I q) : jRI E jB kX1_pickedBytes [VR m] G I q := jRun.of mt_X1_pickedBytes.2.2.2 2 rfl (fun _ => st_X1_pickedBytes_0 hm hT I (fun _ _ => rfl))
set_option maxRecDepth 20000 in
theorem st_X1_loudValue_4 {E : jE} {G : jG} {I : jM} {q : Int → jM → Prop} {m : Nat} {x1 : Int} {x2 : Int} (hm : WX1 G m) (hT : (∀ a j, jRg (G.2.1 a).1 (I a j)) → jIn x1 → jIn x2 → (((I m 5) ≤ x2 → q x1 I) ∧ (¬ (I m 5) ≤ x2 → jRI E jB kX1_isMarked [VR m, VI x2, VI 1] G I (fun r2 I1 => ((¬ r2 = 0 → jIn (x2 + 1) ∧ jOI E jB kX1_loudValue 4 [VR m, VI x1, VI (x2 + 1)] G I1 q) ∧ (r2 = 0 → ((0 : Int) ≤ x2 ∧ (x2 : Int) < 1200) ∧ jIn (x1 + (I1 (m + 9) x2)) ∧ jIn (x2 + 1) ∧ jOI E jB kX1_loudValue 4 [VR m, VI (x1 + (I1 (m + 9) x2)), VI (x2 + 1)] G I1 q)))))) : jOI E jB kX1_loudValue 4 [VR m, VI x1, VI x2] G I q := by
  intro I0 hF
  refine jOk_mem (fun hI => ?_)
  refine jOk_in (i := 1) rfl (fun hx1 => ?_)
  refine jOk_in (i := 2) rfl (fun hx2 => ?_)
  replace hT := hT hI hx1 hx2
  refine r_iload_n dX1_loudValue_4 rfl (i := 2) rfl ?_
  refine r_aload_n dX1_loudValue_5 rfl (i := 0) rfl ?_
  refine rr_getI (v := I m 5) dX1_loudValue_6 fg_X1_66 rfl (wX1_l hm) (wX1_s hm) rfl ?_
  refine r_icmp_ge (tgt := 36) dX1_loudValue_9 rfl hx2 (hI _ _).inR (fun hcc => ?_) (fun hcc => ?_)
  · replace hT := hT.1 hcc
    refine r_iload_n dX1_loudValue_36 rfl (i := 1) rfl ?_
    exact r_iret dX1_loudValue_37 rfl hx1 ⟨Nat.zero_le _, Nat.zero_le _⟩ ⟨_, rfl, rfl, hF, hT⟩
  · replace hT := hT.2 hcc
    refine r_aload_n dX1_loudValue_12 rfl (i := 0) rfl ?_
    refine r_iload_n dX1_loudValue_13 rfl (i := 2) rfl ?_
    refine r_iconst (n := 1) dX1_loudValue_14 ?_
    refine rr_cVI (a := m) (as := [VI x2, VI 1]) (st := []) dX1_loudValue_15 mt_X1_isMarked ml_X1_234 mi_X1_isMarked rm_X1_loudValue_X1_isMarked jz_X1_isMarked ⟨Nat.zero_le _, Nat.zero_le _⟩ (Nat.le_of_ble_eq_true rfl) (wX1_l hm) (wX1_c hm) (jasI hx2 (jasI ⟨by decide, by decide⟩ jas0)) hT (fun r2 I1 hc3 hFI1 hT => ?_)
    replace hFI1 := jFr_tr hF hFI1
    refine jOk_mem (fun hI1 => ?_)
    refine r_if_ne (tgt := 30) dX1_loudValue_18 rfl hc3 (fun hcc => ?_) (fun hcc => ?_)
    · replace hT := hT.1 hcc
      obtain ⟨hc4, hT⟩ := hT
      refine rr_iinc (i := 2) (ls' := [VR m, VI x1, VI (x2 + 1)]) dX1_loudValue_30 rfl (Nat.le_of_ble_eq_true rfl) rfl rfl hc4 ?_
      refine r_goto (tgt := 4) dX1_loudValue_33 rfl ?_
      exact hT I0 hFI1
    · replace hT := hT.2 hcc
      refine r_iload_n dX1_loudValue_21 rfl (i := 1) rfl ?_
      refine r_aload_n dX1_loudValue_22 rfl (i := 0) rfl ?_
      refine rr_getR (b := (m + 9)) dX1_loudValue_23 fg_X1_35 rfl rfl (wX1_l hm) (wX1_s hm) (wX1_r10 hm) ?_
      refine r_iload_n dX1_loudValue_26 rfl (i := 2) rfl ?_
      obtain ⟨hc5, hT⟩ := hT
      refine rr_iaload (v := I1 (m + 9) x2) dX1_loudValue_27 (wX1_l10 hm) (wX1_a10 hm) (by decide) hc5 rfl ?_
      refine r_iadd dX1_loudValue_28 ?_
      obtain ⟨hc6, hT⟩ := hT
      refine rr_istore_n (i := 1) (ls' := [VR m, VI (x1 + (I1 (m + 9) x2)), VI x2]) dX1_loudValue_29 rfl (Nat.le_of_ble_eq_true rfl) rfl rfl hc6 ?_
      obtain ⟨hc7, hT⟩ := hT
      refine rr_iinc (i := 2) (ls' := [VR m, VI (x1 + (I1 (m + 9) x2)), VI (x2 + 1)]) dX1_loudValue_30 rfl (Nat.le_of_ble_eq_true rfl) rfl rfl hc7 ?_
      refine r_goto (tgt := 4) dX1_loudValue_33 rfl ?_
      exact hT I0 hFI1
set_option maxRecDepth 20000 in
theorem st_X1_loudValue_0 {E : jE} {G : jG} {I : jM} {q : Int → jM → Prop} {m : Nat} (hm : WX1 G m) (hT : (∀ a j, jRg (G.2.1 a).1 (I a j)) → jOI E jB kX1_loudValue 4 [VR m, VI 0, VI 0] G I q) : jOI E jB kX1_loudValue 0 [VR m, VN, VN] G I q := by
  intro I0 hF
  refine jOk_mem (fun hI => ?_)
  replace hT := hT hI 
  refine r_iconst (n := 0) dX1_loudValue_0 ?_
  refine rr_istore_n (i := 1) (ls' := [VR m, VI 0, VN]) dX1_loudValue_1 rfl (Nat.le_of_ble_eq_true rfl) rfl rfl ⟨by decide, by decide⟩ ?_
  refine r_iconst (n := 0) dX1_loudValue_2 ?_
  refine rr_istore_n (i := 2) (ls' := [VR m, VI 0, VI 0]) dX1_loudValue_3 rfl (Nat.le_of_ble_eq_true rfl) rfl rfl ⟨by decide, by decide⟩ ?_
  exact hT I0 hF
theorem en_X1_loudValue {E : jE} {G : jG} {I : jM} {q : Int → jM → Prop} {m : Nat} (hm : WX1 G m) (hT : (∀ a j, jRg (G.2.1 a).1 (I a j)) → jOI E jB kX1_loudValue 4 [VR m, VI 0, VI 0] G I q) : jRI E jB kX1_loudValue [VR m] G I q := jRun.of mt_X1_loudValue.2.2.2 2 rfl (fun _ => st_X1_loudValue_0 hm hT I (fun _ _ => rfl))
set_option maxRecDepth 20000 in
theorem st_X1_countLike_4 {E : jE} {G : jG} {I : jM} {q : Int → jM → Prop} {m : Nat} {x1 : Int} {x2 : Int} {x3 : Int} (hm : WX1 G m) (hT : (∀ a j, jRg (G.2.1 a).1 (I a j)) → jIn x1 → jIn x2 → jIn x3 → (((I (m + 1) 2) ≤ x3 → q x2 I) ∧ (¬ (I (m + 1) 2) ≤ x3 → (∃ b1 : Nat, I m 0 = (b1 : Int) ∧ WX4 G b1 ∧ ((0 : Int) ≤ x1 ∧ (x1 : Int) < 201) ∧ ((0 : Int) ≤ (x1 + 1) ∧ ((x1 + 1) : Int) < 201) ∧ jRI E jB kX1_hasBytes [VR m, VI x3, VR (b1 + 1), VI (I (m + 2) x1), VI (I (m + 2) (x1 + 1))] G I (fun r7 I6 => ((r7 = 0 → jIn (x3 + 1) ∧ jOI E jB kX1_countLike 4 [VR m, VI x1, VI x2, VI (x3 + 1)] G I6 q) ∧ (¬ r7 = 0 → jIn (x2 + 1) ∧ jIn (x3 + 1) ∧ jOI E jB kX1_countLike 4 [VR m, VI x1, VI (x2 + 1), VI (x3 + 1)] G I6 q))))))) : jOI E jB kX1_countLike 4 [VR m, VI x1, VI x2, VI x3] G I q := by
  intro I0 hF
  refine jOk_mem (fun hI => ?_)
  refine jOk_in (i := 1) rfl (fun hx1 => ?_)
  refine jOk_in (i := 2) rfl (fun hx2 => ?_)
  refine jOk_in (i := 3) rfl (fun hx3 => ?_)
  replace hT := hT hI hx1 hx2 hx3
  refine r_iload_n dX1_countLike_4 rfl (i := 3) rfl ?_
  refine r_aload_n dX1_countLike_5 rfl (i := 0) rfl ?_
  refine rr_getR (b := (m + 1)) dX1_countLike_6 fg_X1_12 rfl rfl (wX1_l hm) (wX1_s hm) (wX1_r2 hm) ?_
  refine rr_getI (v := I (m + 1) 2) dX1_countLike_9 fg_X1_70 rfl (wX8_l (wX1_o2 hm)) (wX8_s (wX1_o2 hm)) rfl ?_
  refine r_icmp_ge (tgt := 59) dX1_countLike_12 rfl hx3 (hI _ _).inR (fun hcc => ?_) (fun hcc => ?_)
  · replace hT := hT.1 hcc
    refine r_iload_n dX1_countLike_59 rfl (i := 2) rfl ?_
    exact r_iret dX1_countLike_60 rfl hx2 ⟨Nat.zero_le _, Nat.zero_le _⟩ ⟨_, rfl, rfl, hF, hT⟩
  · replace hT := hT.2 hcc
    refine r_aload_n dX1_countLike_15 rfl (i := 0) rfl ?_
    refine r_iload_n dX1_countLike_16 rfl (i := 3) rfl ?_
    refine r_aload_n dX1_countLike_17 rfl (i := 0) rfl ?_
    obtain ⟨b1, hc2, hc3, hT⟩ := hT
    refine rr_getM (b := b1) dX1_countLike_18 fg_X1_56 rfl rfl (wX1_l hm) (wX1_s hm) hc2 ?_
    refine rr_getR (b := (b1 + 1)) dX1_countLike_21 fg_X1_131 rfl rfl (wX4_l hc3) (wX4_s hc3) (wX4_r0 hc3) ?_
    refine r_aload_n dX1_countLike_24 rfl (i := 0) rfl ?_
    refine rr_getR (b := (m + 1)) dX1_countLike_25 fg_X1_12 rfl rfl (wX1_l hm) (wX1_s hm) (wX1_r2 hm) ?_
    refine rr_getR (b := (m + 2)) dX1_countLike_28 fg_X1_134 rfl rfl (wX8_l (wX1_o2 hm)) (wX8_s (wX1_o2 hm)) (wX8_r0 (wX1_o2 hm)) ?_
    refine r_iload_n dX1_countLike_31 rfl (i := 1) rfl ?_
    obtain ⟨hc4, hT⟩ := hT
    refine rr_iaload (v := I (m + 2) x1) dX1_countLike_32 (wX8_l0 (wX1_o2 hm)) (wX8_a0 (wX1_o2 hm)) (by decide) hc4 rfl ?_
    refine r_aload_n dX1_countLike_33 rfl (i := 0) rfl ?_
    refine rr_getR (b := (m + 1)) dX1_countLike_34 fg_X1_12 rfl rfl (wX1_l hm) (wX1_s hm) (wX1_r2 hm) ?_
    refine rr_getR (b := (m + 2)) dX1_countLike_37 fg_X1_134 rfl rfl (wX8_l (wX1_o2 hm)) (wX8_s (wX1_o2 hm)) (wX8_r0 (wX1_o2 hm)) ?_
    refine r_iload_n dX1_countLike_40 rfl (i := 1) rfl ?_
    refine r_iconst (n := 1) dX1_countLike_41 ?_
    refine r_iadd dX1_countLike_42 ?_
    obtain ⟨hc5, hT⟩ := hT
    refine rr_iaload (v := I (m + 2) (x1 + 1)) dX1_countLike_43 (wX8_l0 (wX1_o2 hm)) (wX8_a0 (wX1_o2 hm)) (by decide) hc5 rfl ?_
    refine rr_cVI (a := m) (as := [VI x3, VR (b1 + 1), VI (I (m + 2) x1), VI (I (m + 2) (x1 + 1))]) (st := []) dX1_countLike_44 mt_X1_hasBytes ml_X1_124 mi_X1_hasBytes rm_X1_countLike_X1_hasBytes jz_X1_hasBytes ⟨Nat.zero_le _, Nat.zero_le _⟩ (Nat.le_of_ble_eq_true rfl) (wX1_l hm) (wX1_c hm) (jasI hx3 (jasR (jasI (hI _ _).inR (jasI (hI _ _).inR jas0)))) hT (fun r7 I6 hc8 hFI6 hT => ?_)
    replace hFI6 := jFr_tr hF hFI6
    refine jOk_mem (fun hI6 => ?_)
    refine r_if_eq (tgt := 53) dX1_countLike_47 rfl hc8 (fun hcc => ?_) (fun hcc => ?_)
    · replace hT := hT.1 hcc
      obtain ⟨hc9, hT⟩ := hT
      refine rr_iinc (i := 3) (ls' := [VR m, VI x1, VI x2, VI (x3 + 1)]) dX1_countLike_53 rfl (Nat.le_of_ble_eq_true rfl) rfl rfl hc9 ?_
      refine r_goto (tgt := 4) dX1_countLike_56 rfl ?_
      exact hT I0 hFI6
    · replace hT := hT.2 hcc
      obtain ⟨hc10, hT⟩ := hT
      refine rr_iinc (i := 2) (ls' := [VR m, VI x1, VI (x2 + 1), VI x3]) dX1_countLike_50 rfl (Nat.le_of_ble_eq_true rfl) rfl rfl hc10 ?_
      obtain ⟨hc11, hT⟩ := hT
      refine rr_iinc (i := 3) (ls' := [VR m, VI x1, VI (x2 + 1), VI (x3 + 1)]) dX1_countLike_53 rfl (Nat.le_of_ble_eq_true rfl) rfl rfl hc11 ?_
      refine r_goto (tgt := 4) dX1_countLike_56 rfl ?_
      exact hT I0 hFI6
set_option maxRecDepth 20000 in
theorem st_X1_countLike_0 {E : jE} {G : jG} {I : jM} {q : Int → jM → Prop} {m : Nat} {x1 : Int} (hm : WX1 G m) (hT : (∀ a j, jRg (G.2.1 a).1 (I a j)) → jIn x1 → jOI E jB kX1_countLike 4 [VR m, VI x1, VI 0, VI 0] G I q) : jOI E jB kX1_countLike 0 [VR m, VI x1, VN, VN] G I q := by
  intro I0 hF
  refine jOk_mem (fun hI => ?_)
  refine jOk_in (i := 1) rfl (fun hx1 => ?_)
  replace hT := hT hI hx1
  refine r_iconst (n := 0) dX1_countLike_0 ?_
  refine rr_istore_n (i := 2) (ls' := [VR m, VI x1, VI 0, VN]) dX1_countLike_1 rfl (Nat.le_of_ble_eq_true rfl) rfl rfl ⟨by decide, by decide⟩ ?_
  refine r_iconst (n := 0) dX1_countLike_2 ?_
  refine rr_istore_n (i := 3) (ls' := [VR m, VI x1, VI 0, VI 0]) dX1_countLike_3 rfl (Nat.le_of_ble_eq_true rfl) rfl rfl ⟨by decide, by decide⟩ ?_
  exact hT I0 hF
theorem en_X1_countLike {E : jE} {G : jG} {I : jM} {q : Int → jM → Prop} {m : Nat} {x1 : Int} (hm : WX1 G m) (hT : (∀ a j, jRg (G.2.1 a).1 (I a j)) → jIn x1 → jOI E jB kX1_countLike 4 [VR m, VI x1, VI 0, VI 0] G I q) : jRI E jB kX1_countLike [VR m, VI x1] G I q := jRun.of mt_X1_countLike.2.2.2 2 rfl (fun _ => st_X1_countLike_0 hm hT I (fun _ _ => rfl))
set_option maxRecDepth 20000 in
theorem st_X1_commonWord_6 {E : jE} {G : jG} {I : jM} {q : Int → jM → Prop} {m : Nat} {x1 : Int} {x2 : Int} {x3 : Int} (hm : WX1 G m) (hT : (∀ a j, jRg (G.2.1 a).1 (I a j)) → jIn x1 → jIn x2 → jIn x3 → (((I (m + 1) 2) ≤ x3 → q x1 I) ∧ (¬ (I (m + 1) 2) ≤ x3 → ((0 : Int) ≤ x3 ∧ (x3 : Int) < 200) ∧ ((¬ (I (m + 3) x3) = 0 → ((0 ≤ x2 → jIn (x3 + 1) ∧ jOI E jB kX1_commonWord 6 [VR m, VI x1, VI x2, VI (x3 + 1), VN] G I q) ∧ (¬ 0 ≤ x2 → jIn (x3 + 1) ∧ jOI E jB kX1_commonWord 6 [VR m, VI x3, VI 0, VI (x3 + 1), VN] G I q))) ∧ ((I (m + 3) x3) = 0 → jRI E jB kX1_countLike [VR m, VI x3] G I (fun r5 I4 => ((r5 ≤ x2 → jIn (x3 + 1) ∧ jOI E jB kX1_commonWord 6 [VR m, VI x1, VI x2, VI (x3 + 1), VN] G I4 q) ∧ (¬ r5 ≤ x2 → jIn (x3 + 1) ∧ jOI E jB kX1_commonWord 6 [VR m, VI x3, VI r5, VI (x3 + 1), VN] G I4 q)))))))) : jOI E jB kX1_commonWord 6 [VR m, VI x1, VI x2, VI x3, VN] G I q := by
  intro I0 hF
  refine jOk_mem (fun hI => ?_)
  refine jOk_in (i := 1) rfl (fun hx1 => ?_)
  refine jOk_in (i := 2) rfl (fun hx2 => ?_)
  refine jOk_in (i := 3) rfl (fun hx3 => ?_)
  replace hT := hT hI hx1 hx2 hx3
  refine r_iload_n dX1_commonWord_6 rfl (i := 3) rfl ?_
  refine r_aload_n dX1_commonWord_7 rfl (i := 0) rfl ?_
  refine rr_getR (b := (m + 1)) dX1_commonWord_8 fg_X1_12 rfl rfl (wX1_l hm) (wX1_s hm) (wX1_r2 hm) ?_
  refine rr_getI (v := I (m + 1) 2) dX1_commonWord_11 fg_X1_70 rfl (wX8_l (wX1_o2 hm)) (wX8_s (wX1_o2 hm)) rfl ?_
  refine r_icmp_ge (tgt := 57) dX1_commonWord_14 rfl hx3 (hI _ _).inR (fun hcc => ?_) (fun hcc => ?_)
  · replace hT := hT.1 hcc
    refine r_iload_n dX1_commonWord_57 rfl (i := 1) rfl ?_
    exact r_iret dX1_commonWord_58 rfl hx1 ⟨Nat.zero_le _, Nat.zero_le _⟩ ⟨_, rfl, rfl, hF, hT⟩
  · replace hT := hT.2 hcc
    refine r_aload_n dX1_commonWord_17 rfl (i := 0) rfl ?_
    refine rr_getR (b := (m + 1)) dX1_commonWord_18 fg_X1_12 rfl rfl (wX1_l hm) (wX1_s hm) (wX1_r2 hm) ?_
    refine rr_getR (b := (m + 3)) dX1_commonWord_21 fg_X1_128 rfl rfl (wX8_l (wX1_o2 hm)) (wX8_s (wX1_o2 hm)) (wX8_r1 (wX1_o2 hm)) ?_
    refine r_iload_n dX1_commonWord_24 rfl (i := 3) rfl ?_
    obtain ⟨hc1, hT⟩ := hT
    refine rr_iaload (v := I (m + 3) x3) dX1_commonWord_25 (wX8_l1 (wX1_o2 hm)) (wX8_a1 (wX1_o2 hm)) (by decide) hc1 rfl ?_
    refine r_if_ne (tgt := 37) dX1_commonWord_26 rfl (hI _ _).inR (fun hcc => ?_) (fun hcc => ?_)
    · replace hT := hT.1 hcc
      refine r_iconst (n := 0) dX1_commonWord_37 ?_
      refine rr_istore (i := 4) (ls' := [VR m, VI x1, VI x2, VI x3, VI 0]) dX1_commonWord_38 (Nat.le_of_ble_eq_true rfl) rfl rfl ⟨by decide, by decide⟩ ?_
      refine r_iload dX1_commonWord_40 (i := 4) rfl ?_
      refine r_iload_n dX1_commonWord_42 rfl (i := 2) rfl ?_
      refine r_icmp_le (tgt := 51) dX1_commonWord_43 rfl ⟨by decide, by decide⟩ hx2 (fun hcc => ?_) (fun hcc => ?_)
      · replace hT := hT.1 hcc
        obtain ⟨hc2, hT⟩ := hT
        refine rr_iinc (i := 3) (ls' := [VR m, VI x1, VI x2, VI (x3 + 1), VI 0]) dX1_commonWord_51 rfl (Nat.le_of_ble_eq_true rfl) rfl rfl hc2 ?_
        refine r_goto (tgt := 6) dX1_commonWord_54 rfl ?_
        exact jOk_le (ls' := [VR m, VI x1, VI x2, VI (x3 + 1), VN]) ⟨Or.inr rfl, Or.inr rfl, Or.inr rfl, Or.inr rfl, Or.inl rfl, trivial⟩ (hT I0 hF)
      · replace hT := hT.2 hcc
        refine r_iload dX1_commonWord_46 (i := 4) rfl ?_
        refine rr_istore_n (i := 2) (ls' := [VR m, VI x1, VI 0, VI x3, VI 0]) dX1_commonWord_48 rfl (Nat.le_of_ble_eq_true rfl) rfl rfl ⟨by decide, by decide⟩ ?_
        refine r_iload_n dX1_commonWord_49 rfl (i := 3) rfl ?_
        refine rr_istore_n (i := 1) (ls' := [VR m, VI x3, VI 0, VI x3, VI 0]) dX1_commonWord_50 rfl (Nat.le_of_ble_eq_true rfl) rfl rfl hx3 ?_
        obtain ⟨hc3, hT⟩ := hT
        refine rr_iinc (i := 3) (ls' := [VR m, VI x3, VI 0, VI (x3 + 1), VI 0]) dX1_commonWord_51 rfl (Nat.le_of_ble_eq_true rfl) rfl rfl hc3 ?_
        refine r_goto (tgt := 6) dX1_commonWord_54 rfl ?_
        exact jOk_le (ls' := [VR m, VI x3, VI 0, VI (x3 + 1), VN]) ⟨Or.inr rfl, Or.inr rfl, Or.inr rfl, Or.inr rfl, Or.inl rfl, trivial⟩ (hT I0 hF)
    · replace hT := hT.2 hcc
      refine r_aload_n dX1_commonWord_29 rfl (i := 0) rfl ?_
      refine r_iload_n dX1_commonWord_30 rfl (i := 3) rfl ?_
      refine rr_cVI (a := m) (as := [VI x3]) (st := []) dX1_commonWord_31 mt_X1_countLike ml_X1_237 mi_X1_countLike rm_X1_commonWord_X1_countLike jz_X1_countLike ⟨Nat.zero_le _, Nat.zero_le _⟩ (Nat.le_of_ble_eq_true rfl) (wX1_l hm) (wX1_c hm) (jasI hx3 jas0) hT (fun r5 I4 hc6 hFI4 hT => ?_)
      replace hFI4 := jFr_tr hF hFI4
      refine jOk_mem (fun hI4 => ?_)
      refine r_goto (tgt := 38) dX1_commonWord_34 rfl ?_
      refine rr_istore (i := 4) (ls' := [VR m, VI x1, VI x2, VI x3, VI r5]) dX1_commonWord_38 (Nat.le_of_ble_eq_true rfl) rfl rfl hc6 ?_
      refine r_iload dX1_commonWord_40 (i := 4) rfl ?_
      refine r_iload_n dX1_commonWord_42 rfl (i := 2) rfl ?_
      refine r_icmp_le (tgt := 51) dX1_commonWord_43 rfl hc6 hx2 (fun hcc => ?_) (fun hcc => ?_)
      · replace hT := hT.1 hcc
        obtain ⟨hc7, hT⟩ := hT
        refine rr_iinc (i := 3) (ls' := [VR m, VI x1, VI x2, VI (x3 + 1), VI r5]) dX1_commonWord_51 rfl (Nat.le_of_ble_eq_true rfl) rfl rfl hc7 ?_
        refine r_goto (tgt := 6) dX1_commonWord_54 rfl ?_
        exact jOk_le (ls' := [VR m, VI x1, VI x2, VI (x3 + 1), VN]) ⟨Or.inr rfl, Or.inr rfl, Or.inr rfl, Or.inr rfl, Or.inl rfl, trivial⟩ (hT I0 hFI4)
      · replace hT := hT.2 hcc
        refine r_iload dX1_commonWord_46 (i := 4) rfl ?_
        refine rr_istore_n (i := 2) (ls' := [VR m, VI x1, VI r5, VI x3, VI r5]) dX1_commonWord_48 rfl (Nat.le_of_ble_eq_true rfl) rfl rfl hc6 ?_
        refine r_iload_n dX1_commonWord_49 rfl (i := 3) rfl ?_
        refine rr_istore_n (i := 1) (ls' := [VR m, VI x3, VI r5, VI x3, VI r5]) dX1_commonWord_50 rfl (Nat.le_of_ble_eq_true rfl) rfl rfl hx3 ?_
        obtain ⟨hc8, hT⟩ := hT
        refine rr_iinc (i := 3) (ls' := [VR m, VI x3, VI r5, VI (x3 + 1), VI r5]) dX1_commonWord_51 rfl (Nat.le_of_ble_eq_true rfl) rfl rfl hc8 ?_
        refine r_goto (tgt := 6) dX1_commonWord_54 rfl ?_
        exact jOk_le (ls' := [VR m, VI x3, VI r5, VI (x3 + 1), VN]) ⟨Or.inr rfl, Or.inr rfl, Or.inr rfl, Or.inr rfl, Or.inl rfl, trivial⟩ (hT I0 hFI4)
set_option maxRecDepth 20000 in
theorem st_X1_commonWord_0 {E : jE} {G : jG} {I : jM} {q : Int → jM → Prop} {m : Nat} (hm : WX1 G m) (hT : (∀ a j, jRg (G.2.1 a).1 (I a j)) → jOI E jB kX1_commonWord 6 [VR m, VI (-1), VI 0, VI 0, VN] G I q) : jOI E jB kX1_commonWord 0 [VR m, VN, VN, VN, VN] G I q := by
  intro I0 hF
  refine jOk_mem (fun hI => ?_)
  replace hT := hT hI 
  refine r_iconst (n := (-1)) dX1_commonWord_0 ?_
  refine rr_istore_n (i := 1) (ls' := [VR m, VI (-1), VN, VN, VN]) dX1_commonWord_1 rfl (Nat.le_of_ble_eq_true rfl) rfl rfl ⟨by decide, by decide⟩ ?_
  refine r_iconst (n := 0) dX1_commonWord_2 ?_
  refine rr_istore_n (i := 2) (ls' := [VR m, VI (-1), VI 0, VN, VN]) dX1_commonWord_3 rfl (Nat.le_of_ble_eq_true rfl) rfl rfl ⟨by decide, by decide⟩ ?_
  refine r_iconst (n := 0) dX1_commonWord_4 ?_
  refine rr_istore_n (i := 3) (ls' := [VR m, VI (-1), VI 0, VI 0, VN]) dX1_commonWord_5 rfl (Nat.le_of_ble_eq_true rfl) rfl rfl ⟨by decide, by decide⟩ ?_
  exact hT I0 hF
theorem en_X1_commonWord {E : jE} {G : jG} {I : jM} {q : Int → jM → Prop} {m : Nat} (hm : WX1 G m) (hT : (∀ a j, jRg (G.2.1 a).1 (I a j)) → jOI E jB kX1_commonWord 6 [VR m, VI (-1), VI 0, VI 0, VN] G I q) : jRI E jB kX1_commonWord [VR m] G I q := jRun.of mt_X1_commonWord.2.2.2 4 rfl (fun _ => st_X1_commonWord_0 hm hT I (fun _ _ => rfl))
set_option maxRecDepth 20000 in
theorem st_X1_countClashes_21 {E : jE} {G : jG} {I : jM} {q : Int → jM → Prop} {m : Nat} {x1 : Int} {x2 : Int} {x3 : Int} {x4 : Int} (hm : WX1 G m) (hT : (∀ a j, jRg (G.2.1 a).1 (I a j)) → jIn x1 → jIn x2 → jIn x3 → jIn x4 → ((x3 ≤ x4 → q x2 I) ∧ (¬ x3 ≤ x4 → ((x4 = x1 → jIn (x4 + 1) ∧ jOI E jB kX1_countClashes 21 [VR m, VI x1, VI x2, VI x3, VI (x4 + 1)] G I q) ∧ (¬ x4 = x1 → jRI E jB kX1_isLoudAndShares [VR m, VI x4, VI x1] G I (fun r3 I2 => ((r3 = 0 → jIn (x4 + 1) ∧ jOI E jB kX1_countClashes 21 [VR m, VI x1, VI x2, VI x3, VI (x4 + 1)] G I2 q) ∧ (¬ r3 = 0 → jIn (x2 + 1) ∧ jIn (x4 + 1) ∧ jOI E jB kX1_countClashes 21 [VR m, VI x1, VI (x2 + 1), VI x3, VI (x4 + 1)] G I2 q)))))))) : jOI E jB kX1_countClashes 21 [VR m, VI x1, VI x2, VI x3, VI x4] G I q := by
  intro I0 hF
  refine jOk_mem (fun hI => ?_)
  refine jOk_in (i := 1) rfl (fun hx1 => ?_)
  refine jOk_in (i := 2) rfl (fun hx2 => ?_)
  refine jOk_in (i := 3) rfl (fun hx3 => ?_)
  refine jOk_in (i := 4) rfl (fun hx4 => ?_)
  replace hT := hT hI hx1 hx2 hx3 hx4
  refine r_iload dX1_countClashes_21 (i := 4) rfl ?_
  refine r_iload_n dX1_countClashes_23 rfl (i := 3) rfl ?_
  refine r_icmp_ge (tgt := 52) dX1_countClashes_24 rfl hx4 hx3 (fun hcc => ?_) (fun hcc => ?_)
  · replace hT := hT.1 hcc
    refine r_iload_n dX1_countClashes_52 rfl (i := 2) rfl ?_
    exact r_iret dX1_countClashes_53 rfl hx2 ⟨Nat.zero_le _, Nat.zero_le _⟩ ⟨_, rfl, rfl, hF, hT⟩
  · replace hT := hT.2 hcc
    refine r_iload dX1_countClashes_27 (i := 4) rfl ?_
    refine r_iload_n dX1_countClashes_29 rfl (i := 1) rfl ?_
    refine r_icmp_eq (tgt := 46) dX1_countClashes_30 rfl hx4 hx1 (fun hcc => ?_) (fun hcc => ?_)
    · replace hT := hT.1 hcc
      obtain ⟨hc1, hT⟩ := hT
      refine rr_iinc (i := 4) (ls' := [VR m, VI x1, VI x2, VI x3, VI (x4 + 1)]) dX1_countClashes_46 rfl (Nat.le_of_ble_eq_true rfl) rfl rfl hc1 ?_
      refine r_goto (tgt := 21) dX1_countClashes_49 rfl ?_
      exact hT I0 hF
    · replace hT := hT.2 hcc
      refine r_aload_n dX1_countClashes_33 rfl (i := 0) rfl ?_
      refine r_iload dX1_countClashes_34 (i := 4) rfl ?_
      refine r_iload_n dX1_countClashes_36 rfl (i := 1) rfl ?_
      refine rr_cVI (a := m) (as := [VI x4, VI x1]) (st := []) dX1_countClashes_37 mt_X1_isLoudAndShares ml_X1_196 mi_X1_isLoudAndShares rm_X1_countClashes_X1_isLoudAndShares jz_X1_isLoudAndShares ⟨Nat.zero_le _, Nat.zero_le _⟩ (Nat.le_of_ble_eq_true rfl) (wX1_l hm) (wX1_c hm) (jasI hx4 (jasI hx1 jas0)) hT (fun r3 I2 hc4 hFI2 hT => ?_)
      replace hFI2 := jFr_tr hF hFI2
      refine jOk_mem (fun hI2 => ?_)
      refine r_if_eq (tgt := 46) dX1_countClashes_40 rfl hc4 (fun hcc => ?_) (fun hcc => ?_)
      · replace hT := hT.1 hcc
        obtain ⟨hc5, hT⟩ := hT
        refine rr_iinc (i := 4) (ls' := [VR m, VI x1, VI x2, VI x3, VI (x4 + 1)]) dX1_countClashes_46 rfl (Nat.le_of_ble_eq_true rfl) rfl rfl hc5 ?_
        refine r_goto (tgt := 21) dX1_countClashes_49 rfl ?_
        exact hT I0 hFI2
      · replace hT := hT.2 hcc
        obtain ⟨hc6, hT⟩ := hT
        refine rr_iinc (i := 2) (ls' := [VR m, VI x1, VI (x2 + 1), VI x3, VI x4]) dX1_countClashes_43 rfl (Nat.le_of_ble_eq_true rfl) rfl rfl hc6 ?_
        obtain ⟨hc7, hT⟩ := hT
        refine rr_iinc (i := 4) (ls' := [VR m, VI x1, VI (x2 + 1), VI x3, VI (x4 + 1)]) dX1_countClashes_46 rfl (Nat.le_of_ble_eq_true rfl) rfl rfl hc7 ?_
        refine r_goto (tgt := 21) dX1_countClashes_49 rfl ?_
        exact hT I0 hFI2
set_option maxRecDepth 20000 in
theorem st_X1_countClashes_0 {E : jE} {G : jG} {I : jM} {q : Int → jM → Prop} {m : Nat} {x1 : Int} (hm : WX1 G m) (hT : (∀ a j, jRg (G.2.1 a).1 (I a j)) → jIn x1 → ((0 : Int) ≤ x1 ∧ (x1 : Int) < 1200) ∧ ((0 : Int) ≤ (I (m + 7) x1) ∧ ((I (m + 7) x1) : Int) < 201) ∧ jRI E jB kX1_firstNear [VR m, VI x1] G I (fun r4 I3 => jOI E jB kX1_countClashes 21 [VR m, VI x1, VI 0, VI (I (m + 11) (I (m + 7) x1)), VI r4] G I3 q)) : jOI E jB kX1_countClashes 0 [VR m, VI x1, VN, VN, VN] G I q := by
  intro I0 hF
  refine jOk_mem (fun hI => ?_)
  refine jOk_in (i := 1) rfl (fun hx1 => ?_)
  replace hT := hT hI hx1
  refine r_iconst (n := 0) dX1_countClashes_0 ?_
  refine rr_istore_n (i := 2) (ls' := [VR m, VI x1, VI 0, VN, VN]) dX1_countClashes_1 rfl (Nat.le_of_ble_eq_true rfl) rfl rfl ⟨by decide, by decide⟩ ?_
  refine r_aload_n dX1_countClashes_2 rfl (i := 0) rfl ?_
  refine rr_getR (b := (m + 11)) dX1_countClashes_3 fg_X1_41 rfl rfl (wX1_l hm) (wX1_s hm) (wX1_r12 hm) ?_
  refine r_aload_n dX1_countClashes_6 rfl (i := 0) rfl ?_
  refine rr_getR (b := (m + 7)) dX1_countClashes_7 fg_X1_29 rfl rfl (wX1_l hm) (wX1_s hm) (wX1_r8 hm) ?_
  refine r_iload_n dX1_countClashes_10 rfl (i := 1) rfl ?_
  obtain ⟨hc1, hT⟩ := hT
  refine rr_iaload (v := I (m + 7) x1) dX1_countClashes_11 (wX1_l8 hm) (wX1_a8 hm) (by decide) hc1 rfl ?_
  obtain ⟨hc2, hT⟩ := hT
  refine rr_iaload (v := I (m + 11) (I (m + 7) x1)) dX1_countClashes_12 (wX1_l12 hm) (wX1_a12 hm) (by decide) hc2 rfl ?_
  refine rr_istore_n (i := 3) (ls' := [VR m, VI x1, VI 0, VI (I (m + 11) (I (m + 7) x1)), VN]) dX1_countClashes_13 rfl (Nat.le_of_ble_eq_true rfl) rfl rfl (hI _ _).inR ?_
  refine r_aload_n dX1_countClashes_14 rfl (i := 0) rfl ?_
  refine r_iload_n dX1_countClashes_15 rfl (i := 1) rfl ?_
  refine rr_cVI (a := m) (as := [VI x1]) (st := []) dX1_countClashes_16 mt_X1_firstNear ml_X1_193 mi_X1_firstNear rm_X1_countClashes_X1_firstNear jz_X1_firstNear ⟨Nat.zero_le _, Nat.zero_le _⟩ (Nat.le_of_ble_eq_true rfl) (wX1_l hm) (wX1_c hm) (jasI hx1 jas0) hT (fun r4 I3 hc5 hFI3 hT => ?_)
  replace hFI3 := jFr_tr hF hFI3
  refine jOk_mem (fun hI3 => ?_)
  refine rr_istore (i := 4) (ls' := [VR m, VI x1, VI 0, VI (I (m + 11) (I (m + 7) x1)), VI r4]) dX1_countClashes_19 (Nat.le_of_ble_eq_true rfl) rfl rfl hc5 ?_
  exact hT I0 hFI3
theorem en_X1_countClashes {E : jE} {G : jG} {I : jM} {q : Int → jM → Prop} {m : Nat} {x1 : Int} (hm : WX1 G m) (hT : (∀ a j, jRg (G.2.1 a).1 (I a j)) → jIn x1 → ((0 : Int) ≤ x1 ∧ (x1 : Int) < 1200) ∧ ((0 : Int) ≤ (I (m + 7) x1) ∧ ((I (m + 7) x1) : Int) < 201) ∧ jRI E jB kX1_firstNear [VR m, VI x1] G I (fun r4 I3 => jOI E jB kX1_countClashes 21 [VR m, VI x1, VI 0, VI (I (m + 11) (I (m + 7) x1)), VI r4] G I3 q)) : jRI E jB kX1_countClashes [VR m, VI x1] G I q := jRun.of mt_X1_countClashes.2.2.2 3 rfl (fun _ => st_X1_countClashes_0 hm hT I (fun _ _ => rfl))
set_option maxRecDepth 20000 in
theorem st_X1_freshByte_0 {E : jE} {G : jG} {I : jM} {q : Int → jM → Prop} {m : Nat} {x1 : Int} {x2 : Int} (hm : WX1 G m) (hT : (∀ a j, jRg (G.2.1 a).1 (I a j)) → jIn x1 → jIn x2 → ((0 : Int) ≤ x1 ∧ (x1 : Int) < 1200) ∧ ((0 : Int) ≤ x1 ∧ (x1 : Int) < 1200) ∧ jRV E jB kX1_writeFresh [VR m, VI (I (m + 5) x1), VI (I (m + 6) x1)] G I (fun I3 => ((x2 < 0 → q (-1) I3) ∧ (¬ x2 < 0 → (((I3 m 4) ≤ x2 → q (-1) I3) ∧ (¬ (I3 m 4) ≤ x2 → ((0 : Int) ≤ x2 ∧ (x2 : Int) < 1500) ∧ (((-128) ≤ (I3 (m + 4) x2) ∧ (I3 (m + 4) x2) ≤ 127) → q (I3 (m + 4) x2) I3))))))) : jOI E jB kX1_freshByte 0 [VR m, VI x1, VI x2] G I q := by
  intro I0 hF
  refine jOk_mem (fun hI => ?_)
  refine jOk_in (i := 1) rfl (fun hx1 => ?_)
  refine jOk_in (i := 2) rfl (fun hx2 => ?_)
  replace hT := hT hI hx1 hx2
  refine r_aload_n dX1_freshByte_0 rfl (i := 0) rfl ?_
  refine r_aload_n dX1_freshByte_1 rfl (i := 0) rfl ?_
  refine rr_getR (b := (m + 5)) dX1_freshByte_2 fg_X1_22 rfl rfl (wX1_l hm) (wX1_s hm) (wX1_r6 hm) ?_
  refine r_iload_n dX1_freshByte_5 rfl (i := 1) rfl ?_
  obtain ⟨hc1, hT⟩ := hT
  refine rr_iaload (v := I (m + 5) x1) dX1_freshByte_6 (wX1_l6 hm) (wX1_a6 hm) (by decide) hc1 rfl ?_
  refine r_aload_n dX1_freshByte_7 rfl (i := 0) rfl ?_
  refine rr_getR (b := (m + 6)) dX1_freshByte_8 fg_X1_26 rfl rfl (wX1_l hm) (wX1_s hm) (wX1_r7 hm) ?_
  refine r_iload_n dX1_freshByte_11 rfl (i := 1) rfl ?_
  obtain ⟨hc2, hT⟩ := hT
  refine rr_iaload (v := I (m + 6) x1) dX1_freshByte_12 (wX1_l7 hm) (wX1_a7 hm) (by decide) hc2 rfl ?_
  refine rr_cVV (a := m) (as := [VI (I (m + 5) x1), VI (I (m + 6) x1)]) (st := []) dX1_freshByte_13 mt_X1_writeFresh ml_X1_137 mi_X1_writeFresh rm_X1_freshByte_X1_writeFresh jz_X1_writeFresh ⟨Nat.zero_le _, Nat.zero_le _⟩ (Nat.le_of_ble_eq_true rfl) (wX1_l hm) (wX1_c hm) (jasI (hI _ _).inR (jasI (hI _ _).inR jas0)) hT (fun I3 hFI3 hT => ?_)
  replace hFI3 := jFr_tr hF hFI3
  refine jOk_mem (fun hI3 => ?_)
  refine r_iload_n dX1_freshByte_16 rfl (i := 2) rfl ?_
  refine r_if_lt (tgt := 37) dX1_freshByte_17 rfl hx2 (fun hcc => ?_) (fun hcc => ?_)
  · replace hT := hT.1 hcc
    refine r_iconst (n := (-1)) dX1_freshByte_37 ?_
    exact r_iret dX1_freshByte_38 rfl ⟨by decide, by decide⟩ ⟨Nat.zero_le _, Nat.zero_le _⟩ ⟨_, rfl, rfl, hFI3, hT⟩
  · replace hT := hT.2 hcc
    refine r_iload_n dX1_freshByte_20 rfl (i := 2) rfl ?_
    refine r_aload_n dX1_freshByte_21 rfl (i := 0) rfl ?_
    refine rr_getI (v := I3 m 4) dX1_freshByte_22 fg_X1_143 rfl (wX1_l hm) (wX1_s hm) rfl ?_
    refine r_icmp_ge (tgt := 37) dX1_freshByte_25 rfl hx2 (hI3 _ _).inR (fun hcc => ?_) (fun hcc => ?_)
    · replace hT := hT.1 hcc
      refine r_iconst (n := (-1)) dX1_freshByte_37 ?_
      exact r_iret dX1_freshByte_38 rfl ⟨by decide, by decide⟩ ⟨Nat.zero_le _, Nat.zero_le _⟩ ⟨_, rfl, rfl, hFI3, hT⟩
    · replace hT := hT.2 hcc
      refine r_aload_n dX1_freshByte_28 rfl (i := 0) rfl ?_
      refine rr_getR (b := (m + 4)) dX1_freshByte_29 fg_X1_18 rfl rfl (wX1_l hm) (wX1_s hm) (wX1_r3 hm) ?_
      refine r_iload_n dX1_freshByte_32 rfl (i := 2) rfl ?_
      obtain ⟨hc4, hT⟩ := hT
      refine rr_baload (v := I3 (m + 4) x2) dX1_freshByte_33 (wX1_l3 hm) (wX1_a3 hm) (by decide) hc4 rfl (fun hr5 => ?_)
      replace hT := hT hr5
      refine r_goto (tgt := 38) dX1_freshByte_34 rfl ?_
      exact r_iret dX1_freshByte_38 rfl (hI3 _ _).inR ⟨Nat.zero_le _, Nat.zero_le _⟩ ⟨_, rfl, rfl, hFI3, hT⟩
theorem en_X1_freshByte {E : jE} {G : jG} {I : jM} {q : Int → jM → Prop} {m : Nat} {x1 : Int} {x2 : Int} (hm : WX1 G m) (hT : (∀ a j, jRg (G.2.1 a).1 (I a j)) → jIn x1 → jIn x2 → ((0 : Int) ≤ x1 ∧ (x1 : Int) < 1200) ∧ ((0 : Int) ≤ x1 ∧ (x1 : Int) < 1200) ∧ jRV E jB kX1_writeFresh [VR m, VI (I (m + 5) x1), VI (I (m + 6) x1)] G I (fun I3 => ((x2 < 0 → q (-1) I3) ∧ (¬ x2 < 0 → (((I3 m 4) ≤ x2 → q (-1) I3) ∧ (¬ (I3 m 4) ≤ x2 → ((0 : Int) ≤ x2 ∧ (x2 : Int) < 1500) ∧ (((-128) ≤ (I3 (m + 4) x2) ∧ (I3 (m + 4) x2) ≤ 127) → q (I3 (m + 4) x2) I3))))))) : jRI E jB kX1_freshByte [VR m, VI x1, VI x2] G I q := jRun.of mt_X1_freshByte.2.2.2 0 rfl (fun _ => st_X1_freshByte_0 hm hT I (fun _ _ => rfl))
noncomputable def loudV (X : Int → Int) (f : Int) : Int := @ite _ (fSi X f) (Classical.propDecidable _) 0 (fV X f)
noncomputable def pbS (X : Int → Int) : Int := ((setL X).map (fun f => fE X f - fB X f)).sum
theorem mkF_bd {X : Int → Int} {f : Int} : (0 ≤ mkF X f ∧ mkF X f < 4) ∧ mkF X f % 2 = jI (fSi X f) ∧ mkF X f / 2 = jI (fYi X f) := by
  have a := jI_01 (P := fSi X f)
  have b := jI_01 (P := fYi X f)
  unfold mkF
  omega
/-- marks 1: silent, 2: yielded -/
def mrk (X : Int → Int) (w f : Int) : Prop := (w = 1 → fSi X f) ∧ (w ≠ 1 → fYi X f)
theorem mrk_1 {X : Int → Int} {f : Int} : mrk X 1 f ↔ fSi X f := ⟨fun h => h.1 rfl, fun h => ⟨fun _ => h, fun q => absurd rfl q⟩⟩
theorem mrk_2 {X : Int → Int} {f : Int} : mrk X 2 f ↔ fYi X f := ⟨fun h => h.2 (by decide), fun h => ⟨fun q => absurd q (by decide), fun _ => h⟩⟩
section CO
variable {E : jE} {G : jG} {φ p ρ : Nat} {I : jM} {X : Int → Int}
theorem cl_has (h : LK G φ p ρ X I) {i : Int} : jRI E jB kX1_has [VR φ, VI i] G I (fun x I' => x = jI (0 ≤ i ∧ i < NF X) ∧ I' = I) := by
  have e := h.2.1.1.1
  refine en_X1_has h.1.1.1.1 (fun _ _ => ⟨fun q => ⟨(jI_neg (by omega)).symm, rfl⟩, fun q => ⟨fun q2 => ⟨(jI_neg (by omega)).symm, rfl⟩, fun q2 => ⟨(jI_pos (by omega)).symm, rfl⟩⟩⟩)
theorem cl_isMarked (h : LK G φ p ρ X I) (hQ : QW X) {f w : Int} (f0 : 0 ≤ f) (f1 : f < NF X) (hw : w = 1 ∨ w = 2) : jRI E jB kX1_isMarked [VR φ, VI f, VI w] G I (fun x I' => x = jI (mrk X w f) ∧ I' = I) := by
  have hN := NF_le hQ
  have e := h.2.1.2.1 f f0 f1
  have b := mkF_bd (X := X) (f := f)
  have a := and1 b.1
  refine en_X1_isMarked h.1.1.1.1 (fun _ _ _ => ⟨⟨by omega, by omega⟩, ?_⟩)
  rw [e]
  rcases hw with rfl | rfl
  · rw [a.1, b.2.1]
    exact ⟨fun q => ⟨(jI_neg (fun g => jI_n q (mrk_1.mp g))).symm, rfl⟩, fun q => ⟨(jI_pos (mrk_1.mpr (jI_p q))).symm, rfl⟩⟩
  · rw [a.2.1, b.2.2]
    exact ⟨fun q => ⟨(jI_neg (fun g => jI_n (P := fYi X f) (by omega) (mrk_2.mp g))).symm, rfl⟩, fun q => ⟨(jI_pos (mrk_2.mpr (jI_p (by omega)))).symm, rfl⟩⟩
theorem cl_countMarked (h : LK G φ p ρ X I) (hQ : QW X) {w : Int} (hw : w = 1 ∨ w = 2) : jRI E jB kX1_countMarked [VR φ, VI w] G I (fun x I' => x = sumJ (fun f => jI (mrk X w f)) 0 (NF X).toNat ∧ (0 ≤ x ∧ x ≤ NF X) ∧ I' = I) := by
  have hN := NF_le hQ
  have hN0 : 0 ≤ NF X := NF0
  have e := h.2.1.1.1
  have loop : ∀ (d : Nat) (f acc : Int), 0 ≤ f → f + d = NF X → acc + sumJ (fun f => jI (mrk X w f)) f d = sumJ (fun f => jI (mrk X w f)) 0 (NF X).toNat → (0 ≤ acc ∧ acc ≤ f) → jOI E jB kX1_countMarked 4 [VR φ, VI w, VI acc, VI f] G I (fun x I' => x = sumJ (fun f => jI (mrk X w f)) 0 (NF X).toNat ∧ (0 ≤ x ∧ x ≤ NF X) ∧ I' = I) := by
    intro d
    induction d with
    | zero =>
      intro f acc f0 f1 ha hb
      have ha' : acc + 0 = sumJ (fun f => jI (mrk X w f)) 0 (NF X).toNat := ha
      refine st_X1_countMarked_4 h.1.1.1.1 (fun _ _ _ _ => ⟨fun _ => ⟨by omega, by omega, rfl⟩, fun q => absurd (by omega) q⟩)
    | succ d ih =>
      intro f acc f0 f1 ha hb
      rw [sumJ_s] at ha
      refine st_X1_countMarked_4 h.1.1.1.1 (fun _ _ _ _ => ⟨fun q => absurd q (by omega), fun _ => (cl_isMarked h hQ f0 (by omega) hw).mono (fun y I1 _ _ gy => ?_)⟩)
      obtain ⟨rfl, rfl⟩ := gy
      refine ⟨fun q => ⟨⟨by omega, by omega⟩, ih (f + 1) acc (by omega) (by omega) (by rw [← ha]; simp only [q]; omega) (by omega)⟩, fun q => ?_⟩
      have e1 := jI_pos (jI_p q)
      exact ⟨⟨by omega, by omega⟩, ⟨by omega, by omega⟩, ih (f + 1) (acc + 1) (by omega) (by omega) (by rw [← ha]; simp only [e1]; omega) (by omega)⟩
  exact en_X1_countMarked h.1.1.1.1 (fun _ _ => loop (NF X).toNat 0 0 (by omega) (by omega) (by omega) (by omega))
theorem cl_countOfRule (h : LK G φ p ρ X I) (hQ : QW X) {r : Int} : jRI E jB kX1_countOfRule [VR φ, VI r] G I (fun x I' => x = sumJ (fun f => jI (fR X f = r)) 0 (NF X).toNat ∧ I' = I) := by
  have hN := NF_le hQ
  have hN0 : 0 ≤ NF X := NF0
  have e := h.2.1.1.1
  have loop : ∀ (d : Nat) (f acc : Int), 0 ≤ f → f + d = NF X → acc + sumJ (fun f => jI (fR X f = r)) f d = sumJ (fun f => jI (fR X f = r)) 0 (NF X).toNat → (0 ≤ acc ∧ acc ≤ f) → jOI E jB kX1_countOfRule 4 [VR φ, VI r, VI acc, VI f] G I (fun x I' => x = sumJ (fun f => jI (fR X f = r)) 0 (NF X).toNat ∧ I' = I) := by
    intro d
    induction d with
    | zero =>
      intro f acc f0 f1 ha hb
      have ha' : acc + 0 = sumJ (fun f => jI (fR X f = r)) 0 (NF X).toNat := ha
      refine st_X1_countOfRule_4 h.1.1.1.1 (fun _ _ _ _ => ⟨fun _ => ⟨by omega, rfl⟩, fun q => absurd (by omega) q⟩)
    | succ d ih =>
      intro f acc f0 f1 ha hb
      rw [sumJ_s] at ha
      refine st_X1_countOfRule_4 h.1.1.1.1 (fun _ _ _ _ => ⟨fun q => absurd q (by omega), fun _ => ⟨⟨by omega, by omega⟩, ?_⟩⟩)
      rw [(h.2.1.1.2.1 f f0 (by omega)).1]
      refine ⟨fun q => ?_, fun q => ?_⟩
      · have e1 := jI_neg q
        exact ⟨⟨by omega, by omega⟩, ih (f + 1) acc (by omega) (by omega) (by rw [← ha]; simp only [e1]; omega) (by omega)⟩
      · have e1 := jI_pos q
        exact ⟨⟨by omega, by omega⟩, ⟨by omega, by omega⟩, ih (f + 1) (acc + 1) (by omega) (by omega) (by rw [← ha]; simp only [e1]; omega) (by omega)⟩
  exact en_X1_countOfRule h.1.1.1.1 (fun _ _ => loop (NF X).toNat 0 0 (by omega) (by omega) (by omega) (by omega))
theorem cl_loudValue (h : LK G φ p ρ X I) (hQ : QW X) : jRI E jB kX1_loudValue [VR φ] G I (fun x I' => x = sumJ (loudV X) 0 (NF X).toNat ∧ (0 ≤ x ∧ x ≤ 9900 * NF X) ∧ I' = I) := by
  have hN := NF_le hQ
  have hN0 : 0 ≤ NF X := NF0
  have e := h.2.1.1.1
  have loop : ∀ (d : Nat) (f acc : Int), 0 ≤ f → f + d = NF X → acc + sumJ (loudV X) f d = sumJ (loudV X) 0 (NF X).toNat → (0 ≤ acc ∧ acc ≤ 9900 * f) → jOI E jB kX1_loudValue 4 [VR φ, VI acc, VI f] G I (fun x I' => x = sumJ (loudV X) 0 (NF X).toNat ∧ (0 ≤ x ∧ x ≤ 9900 * NF X) ∧ I' = I) := by
    intro d
    induction d with
    | zero =>
      intro f acc f0 f1 ha hb
      have ha' : acc + 0 = sumJ (loudV X) 0 (NF X).toNat := ha
      refine st_X1_loudValue_4 h.1.1.1.1 (fun _ _ _ => ⟨fun _ => ⟨by omega, by omega, rfl⟩, fun q => absurd (by omega) q⟩)
    | succ d ih =>
      intro f acc f0 f1 ha hb
      rw [sumJ_s] at ha
      have v := fV_bd hQ (FLok hQ) f0 (by omega)
      refine st_X1_loudValue_4 h.1.1.1.1 (fun _ _ _ => ⟨fun q => absurd q (by omega), fun _ => (cl_isMarked h hQ f0 (by omega) (Or.inl rfl)).mono (fun y I1 _ _ gy => ?_)⟩)
      obtain ⟨rfl, rfl⟩ := gy
      refine ⟨fun q => ?_, fun q => ⟨⟨by omega, by omega⟩, ?_⟩⟩
      · have e1 : loudV X f = 0 := by unfold loudV; rw [if_pos (mrk_1.mp (jI_p q))]
        exact ⟨⟨by omega, by omega⟩, ih (f + 1) acc (by omega) (by omega) (by omega) (by omega)⟩
      · have e1 : loudV X f = fV X f := by unfold loudV; rw [if_neg (fun g => jI_n q (mrk_1.mpr g))]
        rw [(h.2.1.1.2.1 f f0 (by omega)).2.2.2.2]
        exact ⟨⟨by omega, by omega⟩, ⟨by omega, by omega⟩, ih (f + 1) (acc + fV X f) (by omega) (by omega) (by omega) (by omega)⟩
  exact en_X1_loudValue h.1.1.1.1 (fun _ => loop (NF X).toNat 0 0 (by omega) (by omega) (by omega) (by omega))
theorem cl_isPicked (h : LK G φ p ρ X I) (hQ : QW X) {f : Int} : jRI E jB kX1_isPicked [VR φ, VI f] G I (fun x I' => x = jI (f ∈ setL X) ∧ I' = I) := by
  have b := (setL_bd hQ).2
  have e := h.2.2.1
  have loop : ∀ (d i : Nat), i + d = (setL X).length → (∀ k : Nat, k < i → (setL X).getD k 0 ≠ f) → jOI E jB kX1_isPicked 2 [VR φ, VI f, VI i] G I (fun x I' => x = jI (f ∈ setL X) ∧ I' = I) := by
    intro d
    induction d with
    | zero =>
      intro i hi hk
      refine st_X1_isPicked_2 h.1.1.1.1 (fun _ _ _ => ⟨fun _ => ⟨(jI_neg (fun g => ?_)).symm, rfl⟩, fun q => absurd (by omega) q⟩)
      obtain ⟨k, k0, k1⟩ := gd_of_mem (d := 0) g
      exact hk k (by omega) k1
    | succ d ih =>
      intro i hi hk
      refine st_X1_isPicked_2 h.1.1.1.1 (fun _ _ _ => ⟨fun q => absurd q (by omega), fun _ => ⟨⟨by omega, by omega⟩, ?_⟩⟩)
      rw [h.2.2.2 i (by omega)]
      have e2 : (i : Int) + 1 = ((i + 1 : Nat) : Int) := by omega
      rw [e2]
      refine ⟨fun q => ⟨⟨by omega, by omega⟩, ih (i + 1) (by omega) (fun k hk' => ?_)⟩, fun q => ⟨(jI_pos ?_).symm, rfl⟩⟩
      · by_cases ek : k = i
        · rw [ek]; exact q
        · exact hk k (by omega)
      · rw [← q]
        exact gd_mem (by omega)
  exact en_X1_isPicked h.1.1.1.1 (fun _ _ => loop (setL X).length 0 (by omega) (fun k hk => absurd hk (Nat.not_lt_zero k)))
/-- sums over the set -/
theorem sum_drop {g : Int → Int} {L : List Int} {i : Nat} (h : i < L.length) : ((L.drop i).map g).sum = g (L.getD i 0) + ((L.drop (i + 1)).map g).sum := by
  rw [drop_gd0 h, List.map_cons, List.sum_cons]
theorem cl_countPicked (h : LK G φ p ρ X I) (hQ : QW X) {r : Int} : jRI E jB kX1_countPicked [VR φ, VI r] G I (fun x I' => x = ((setL X).map (fun f => jI (fR X f = r))).sum ∧ I' = I) := by
  have b := setL_bd hQ
  have hN := NF_le hQ
  have e := h.2.2.1
  have loop : ∀ (d i : Nat) (acc : Int), i + d = (setL X).length → acc + (((setL X).drop i).map (fun f => jI (fR X f = r))).sum = ((setL X).map (fun f => jI (fR X f = r))).sum → (0 ≤ acc ∧ acc ≤ i) → jOI E jB kX1_countPicked 4 [VR φ, VI r, VI acc, VI i] G I (fun x I' => x = ((setL X).map (fun f => jI (fR X f = r))).sum ∧ I' = I) := by
    intro d
    induction d with
    | zero =>
      intro i acc hi ha hb
      rw [List.drop_eq_nil_of_le (by omega)] at ha
      have ha' : acc + 0 = ((setL X).map (fun f => jI (fR X f = r))).sum := ha
      refine st_X1_countPicked_4 h.1.1.1.1 (fun _ _ _ _ => ⟨fun _ => ⟨by omega, rfl⟩, fun q => absurd (by omega) q⟩)
    | succ d ih =>
      intro i acc hi ha hb
      rw [sum_drop (by omega)] at ha
      have hm := b.1 _ (gd_mem (d := 0) (show i < (setL X).length by omega))
      have e2 : (i : Int) + 1 = ((i + 1 : Nat) : Int) := by omega
      refine st_X1_countPicked_4 h.1.1.1.1 (fun _ _ _ _ => ⟨fun q => absurd q (by omega), fun _ => ⟨⟨by omega, by omega⟩, ?_⟩⟩)
      rw [h.2.2.2 i (by omega), (h.2.1.1.2.1 _ hm.1 hm.2).1, e2]
      refine ⟨⟨by omega, by omega⟩, fun q => ?_, fun q => ?_⟩
      · rw [jI_neg q] at ha
        exact ⟨⟨by omega, by omega⟩, ih (i + 1) acc (by omega) (by omega) (by omega)⟩
      · rw [jI_pos q] at ha
        exact ⟨⟨by omega, by omega⟩, ⟨by omega, by omega⟩, ih (i + 1) (acc + 1) (by omega) (by omega) (by omega)⟩
  exact en_X1_countPicked h.1.1.1.1 (fun _ _ => loop (setL X).length 0 0 (by omega) (by rw [List.drop_zero]; omega) (by omega))
theorem cl_pickedValue (h : LK G φ p ρ X I) (hQ : QW X) : jRI E jB kX1_pickedValue [VR φ] G I (fun x I' => x = wS X ∧ I' = I) := by
  have b := setL_bd hQ
  have hN := NF_le hQ
  have e := h.2.2.1
  have ew := (wS_sum hQ (FLok hQ)).1
  have loop : ∀ (d i : Nat) (acc : Int), i + d = (setL X).length → acc + (((setL X).drop i).map (fV X)).sum = wS X → (0 ≤ acc ∧ acc ≤ 9900 * i) → jOI E jB kX1_pickedValue 4 [VR φ, VI acc, VI i] G I (fun x I' => x = wS X ∧ I' = I) := by
    intro d
    induction d with
    | zero =>
      intro i acc hi ha hb
      rw [List.drop_eq_nil_of_le (by omega)] at ha
      have ha' : acc + 0 = wS X := ha
      refine st_X1_pickedValue_4 h.1.1.1.1 (fun _ _ _ => ⟨fun _ => ⟨by omega, rfl⟩, fun q => absurd (by omega) q⟩)
    | succ d ih =>
      intro i acc hi ha hb
      rw [sum_drop (by omega)] at ha
      have hm := b.1 _ (gd_mem (d := 0) (show i < (setL X).length by omega))
      have v := fV_bd hQ (FLok hQ) hm.1 hm.2
      have e2 : (i : Int) + 1 = ((i + 1 : Nat) : Int) := by omega
      refine st_X1_pickedValue_4 h.1.1.1.1 (fun _ _ _ => ⟨fun q => absurd q (by omega), fun _ => ⟨⟨by omega, by omega⟩, ?_⟩⟩)
      rw [h.2.2.2 i (by omega), (h.2.1.1.2.1 _ hm.1 hm.2).2.2.2.2, e2]
      exact ⟨⟨by omega, by omega⟩, ⟨by omega, by omega⟩, ⟨by omega, by omega⟩, ih (i + 1) _ (by omega) (by omega) (by omega)⟩
  exact en_X1_pickedValue h.1.1.1.1 (fun _ => loop (setL X).length 0 0 (by omega) (by rw [List.drop_zero, ew]; omega) (by omega))
theorem cl_pickedBytes (h : LK G φ p ρ X I) (hQ : QW X) : jRI E jB kX1_pickedBytes [VR φ] G I (fun x I' => x = pbS X ∧ (0 ≤ x ∧ x ≤ 4000) ∧ I' = I) := by
  have b := setL_bd hQ
  have hN := NF_le hQ
  have e := h.2.2.1
  have loop : ∀ (d i : Nat) (acc : Int), i + d = (setL X).length → acc + (((setL X).drop i).map (fun f => fE X f - fB X f)).sum = pbS X → (0 ≤ acc ∧ acc ≤ 200 * i) → jOI E jB kX1_pickedBytes 4 [VR φ, VI acc, VI i] G I (fun x I' => x = pbS X ∧ (0 ≤ x ∧ x ≤ 4000) ∧ I' = I) := by
    intro d
    induction d with
    | zero =>
      intro i acc hi ha hb
      rw [List.drop_eq_nil_of_le (by omega)] at ha
      have ha' : acc + 0 = pbS X := ha
      refine st_X1_pickedBytes_4 h.1.1.1.1 (fun _ _ _ => ⟨fun _ => ⟨by omega, by omega, rfl⟩, fun q => absurd (by omega) q⟩)
    | succ d ih =>
      intro i acc hi ha hb
      rw [sum_drop (by omega)] at ha
      have hm := b.1 _ (gd_mem (d := 0) (show i < (setL X).length by omega))
      have v := f_bd hQ (FLok hQ) hm.1 hm.2
      have h2 := hQ.1
      have e2 : (i : Int) + 1 = ((i + 1 : Nat) : Int) := by omega
      refine st_X1_pickedBytes_4 h.1.1.1.1 (fun _ _ _ => ⟨fun q => absurd q (by omega), fun _ => ⟨⟨by omega, by omega⟩, ?_⟩⟩)
      rw [h.2.2.2 i (by omega)]
      refine (cl_endOf h hQ hm.1 hm.2).mono (fun y I2 _ _ gy => ?_)
      obtain ⟨rfl, rfl⟩ := gy
      rw [h.2.2.2 i (by omega)]
      refine ⟨⟨by omega, by omega⟩, (cl_beginOf h hQ hm.1 hm.2).mono (fun y I6 _ _ gy => ?_)⟩
      obtain ⟨rfl, rfl⟩ := gy
      rw [e2]
      exact ⟨⟨by omega, by omega⟩, ⟨by omega, by omega⟩, ih (i + 1) _ (by omega) (by omega) (by omega)⟩
  exact en_X1_pickedBytes h.1.1.1.1 (fun _ => loop (setL X).length 0 0 (by omega) (by rw [List.drop_zero]; unfold pbS; omega) (by omega))
theorem cl_pickedRules (h : LK G φ p ρ X I) (hQ : QW X) : jRI E jB kX1_pickedRules [VR φ] G I (fun x I' => x = rb X ∧ I' = I) := by
  have b := setL_bd hQ
  have hN := NF_le hQ
  have e := h.2.2.1
  have loop : ∀ (d i : Nat) (acc : Int), i + d = (setL X).length → ((setL X).drop i).foldl (fun b f => jor b (jshl 1 (fR X f))) acc = rb X → jOI E jB kX1_pickedRules 4 [VR φ, VI acc, VI i] G I (fun x I' => x = rb X ∧ I' = I) := by
    intro d
    induction d with
    | zero =>
      intro i acc hi ha
      rw [List.drop_eq_nil_of_le (by omega)] at ha
      refine st_X1_pickedRules_4 h.1.1.1.1 (fun _ _ _ => ⟨fun _ => ⟨ha, rfl⟩, fun q => absurd (by omega) q⟩)
    | succ d ih =>
      intro i acc hi ha
      rw [drop_gd0 (by omega), List.foldl_cons] at ha
      have hm := b.1 _ (gd_mem (d := 0) (show i < (setL X).length by omega))
      have e2 : (i : Int) + 1 = ((i + 1 : Nat) : Int) := by omega
      refine st_X1_pickedRules_4 h.1.1.1.1 (fun _ _ _ => ⟨fun q => absurd q (by omega), fun _ => ⟨⟨by omega, by omega⟩, ?_⟩⟩)
      rw [h.2.2.2 i (by omega), (h.2.1.1.2.1 _ hm.1 hm.2).1, e2]
      exact ⟨⟨by omega, by omega⟩, ⟨by omega, by omega⟩, ih (i + 1) _ (by omega) ha⟩
  exact en_X1_pickedRules h.1.1.1.1 (fun _ => loop (setL X).length 0 0 (by omega) (by rw [List.drop_zero]; rfl))
theorem cl_freshByte (h : LK G φ p ρ X I) (hQ : QW X) {f k : Int} (f0 : 0 ≤ f) (f1 : f < NF X) : jRI E jB kX1_freshByte [VR φ, VI f, VI k] G I (fun x I' => x = (if 0 ≤ k ∧ k < (fO X f).length then (fO X f).getD k.toNat 0 else -1) ∧ WF φ I I') := by
  have hN := NF_le hQ
  have e := h.2.1.1.2.1 f f0 f1
  have ba := fA_bd hQ f0 f1
  have bf := f_bd hQ (FLok hQ) f0 f1
  have hisF := fa_isF (FLok hQ) f0 f1
  have hFit : Fit X (nT X) (bT X) (fR X f) (fT X f) := hisF.2.2.2.2.2.1
  refine en_X1_freshByte h.1.1.1.1 (fun _ _ _ => ⟨⟨by omega, by omega⟩, ⟨by omega, by omega⟩, ?_⟩)
  rw [e.1, e.2.1]
  refine (cl_writeFresh h.1 hQ ⟨hisF.1, hisF.2.1⟩ ba.1.1 hFit).mono (fun I3 _ g => ?_)
  have hFO : FO φ I3 (fO X f) := g.1
  rw [hFO.1]
  refine ⟨fun q => ⟨by rw [if_neg (by omega)], g.2⟩, fun q => ⟨fun q2 => ⟨by rw [if_neg (by omega)], g.2⟩, fun q2 => ⟨⟨by omega, by omega⟩, fun _ => ⟨?_, g.2⟩⟩⟩⟩
  rw [if_pos (by omega)]
  have := hFO.2 k.toNat (by omega)
  rw [show ((k.toNat : Nat) : Int) = k by omega] at this
  exact this
theorem like_symm {S b : Int → Int} {t u : Int} : like S b t u ↔ like S b u t := ⟨fun h => ⟨h.1.symm, fun k a c => (h.2 k a (by have := h.1; omega)).symm⟩, fun h => ⟨h.1.symm, fun k a c => (h.2 k a (by have := h.1; omega)).symm⟩⟩
theorem cl_countLike (h : FC G φ p ρ X I) (hQ : QW X) {t : Int} (t0 : 0 ≤ t) (t1 : t < nT X) : jRI E jB kX1_countLike [VR φ, VI t] G I (fun x I' => x = nLike X t ∧ (0 ≤ x ∧ x ≤ nT X) ∧ I' = I) := by
  have hk := tkS (S := X) hQ.1.1
  have hn := hk.n_le
  have h200 := hQ.1.2
  have hp := h.1.1.2.1
  have en : I (φ + 1) 2 = nT X := h.2.2.2.2.1
  have b0 := hk.bd (t := t) t0 (by omega)
  have b1 := hk.bd (t := t + 1) (by omega) (by omega)
  have b2 := hk.slt (t := t) (u := t + 1) t0 (by omega) (by omega)
  have c0 : I (φ + 2) t = bT X t := h.2.2.2.2.2.1 _ (by omega) (by omega)
  have c1 : I (φ + 2) (t + 1) = bT X (t + 1) := h.2.2.2.2.2.1 _ (by omega) (by omega)
  have loop : ∀ (d : Nat) (u acc : Int), 0 ≤ u → u + d = nT X → acc + sumJ (fun k => jI (like X (bT X) t k)) u d = nLike X t → (0 ≤ acc ∧ acc ≤ u) → jOI E jB kX1_countLike 4 [VR φ, VI t, VI acc, VI u] G I (fun x I' => x = nLike X t ∧ (0 ≤ x ∧ x ≤ nT X) ∧ I' = I) := by
    intro d
    induction d with
    | zero =>
      intro u acc u0 u1 ha hb
      have ha' : acc + 0 = nLike X t := ha
      refine st_X1_countLike_4 h.1.1.1 (fun _ _ _ _ => ⟨fun _ => ⟨by omega, by omega, rfl⟩, fun q => absurd (by omega) q⟩)
    | succ d ih =>
      intro u acc u0 u1 ha hb
      rw [sumJ_s] at ha
      refine st_X1_countLike_4 h.1.1.1 (fun _ _ _ _ => ⟨fun q => absurd q (by omega), fun _ => ⟨p, h.2.1.1, hp, ⟨by omega, by omega⟩, ⟨by omega, by omega⟩, ?_⟩⟩)
      rw [c0, c1]
      refine (cl_hasBytes h hQ (wX4_l0 hp) (wX4_a0 hp) (by decide) (t := u) (by omega) b0.1 (by omega) (by show _ ≤ (200 : Int); omega)).mono (fun y I6 _ _ gy => ?_)
      obtain ⟨rfl, rfl⟩ := gy
      have hiff : (bT X (u + 1) - bT X u = bT X (t + 1) - bT X t ∧ ∀ k, 0 ≤ k → k < bT X (t + 1) - bT X t → X (10 + (bT X u + k)) = I6 (p + 1) (bT X t + k)) ↔ like X (bT X) t u := by
        refine ⟨fun g => ⟨g.1.symm, fun k a c => ?_⟩, fun g => ⟨g.1.symm, fun k a c => ?_⟩⟩
        · have := g.2 k a c
          rw [(h.2.2.1.1.2 (bT X t + k) (by omega) (by omega)).1] at this
          exact this.symm
        · rw [(h.2.2.1.1.2 (bT X t + k) (by omega) (by omega)).1]
          exact (g.2 k a c).symm
      refine ⟨fun q => ?_, fun q => ?_⟩
      · have e1 := jI_neg (fun g => jI_n q (hiff.mpr g))
        exact ⟨⟨by omega, by omega⟩, ih (u + 1) acc (by omega) (by omega) (by rw [← ha]; simp only [e1]; omega) (by omega)⟩
      · have e1 := jI_pos (hiff.mp (jI_p q))
        exact ⟨⟨by omega, by omega⟩, ⟨by omega, by omega⟩, ih (u + 1) (acc + 1) (by omega) (by omega) (by rw [← ha]; simp only [e1]; omega) (by omega)⟩
  exact en_X1_countLike h.1.1.1 (fun _ _ => loop (nT X).toNat 0 0 (by omega) (by have := hk.1; omega) (by unfold nLike; omega) (by omega))
theorem cl_commonWord (h : FC G φ p ρ X I) (hQ : QW X) : jRI E jB kX1_commonWord [VR φ] G I (fun x I' => x = (comF X 0 (nT X).toNat (-1, 0)).1 ∧ (x = -1 ∨ ((0 ≤ x ∧ x < nT X) ∧ (comF X 0 (nT X).toNat (-1, 0)).2 = nLike X x)) ∧ I' = I) := by
  have hk := tkS (S := X) hQ.1.1
  have hn := hk.n_le
  have h200 := hQ.1.2
  have en : I (φ + 1) 2 = nT X := h.2.2.2.2.1
  have loop : ∀ (d : Nat) (t x c : Int), 0 ≤ t → t + d = nT X → comF X t d (x, c) = comF X 0 (nT X).toNat (-1, 0) → 0 ≤ c → (x = -1 ∨ ((0 ≤ x ∧ x < nT X) ∧ c = nLike X x)) → jOI E jB kX1_commonWord 6 [VR φ, VI x, VI c, VI t, VN] G I (fun x I' => x = (comF X 0 (nT X).toNat (-1, 0)).1 ∧ (x = -1 ∨ ((0 ≤ x ∧ x < nT X) ∧ (comF X 0 (nT X).toNat (-1, 0)).2 = nLike X x)) ∧ I' = I) := by
    intro d
    induction d with
    | zero =>
      intro t x c t0 t1 hc c0 hx
      have hc' : (x, c) = comF X 0 (nT X).toNat (-1, 0) := hc
      refine st_X1_commonWord_6 h.1.1.1 (fun _ _ _ _ => ⟨fun _ => ⟨by rw [← hc'], ?_, rfl⟩, fun q => absurd (by omega) q⟩)
      rw [← hc']
      exact hx
    | succ d ih =>
      intro t x c t0 t1 hc c0 hx
      have es : I (φ + 3) t = told (srt (X (10 + bT X t))) := h.2.2.2.2.2.2 _ (by omega) (by omega)
      have sr := srt_range (X (10 + bT X t))
      have hc' : comF X (t + 1) d (@ite _ (srt (X (10 + bT X t)) = 0 ∧ (x, c).2 < nLike X t) (Classical.propDecidable _) (t, nLike X t) (x, c)) = comF X 0 (nT X).toNat (-1, 0) := hc
      refine st_X1_commonWord_6 h.1.1.1 (fun _ _ _ _ => ⟨fun q => absurd q (by omega), fun _ => ⟨⟨by omega, by omega⟩, ?_⟩⟩)
      rw [es]
      refine ⟨fun q => ⟨fun _ => ⟨⟨by omega, by omega⟩, ?_⟩, fun q2 => absurd c0 q2⟩, fun q => (cl_countLike h hQ t0 (by omega)).mono (fun y I4 _ _ gy => ?_)⟩
      · rw [if_neg (fun g => q (by rw [g.1]; rfl))] at hc'
        exact ih (t + 1) x c (by omega) (by omega) hc' c0 hx
      · obtain ⟨rfl, hb, rfl⟩ := gy
        have s0 : srt (X (10 + bT X t)) = 0 := told_inj sr (by omega) (by rw [q]; rfl)
        refine ⟨fun q2 => ⟨⟨by omega, by omega⟩, ?_⟩, fun q2 => ⟨⟨by omega, by omega⟩, ?_⟩⟩
        · rw [if_neg (fun g => by have := g.2; simp only at this; omega)] at hc'
          exact ih (t + 1) x c (by omega) (by omega) hc' c0 hx
        · rw [if_pos ⟨s0, by show c < nLike X t; omega⟩] at hc'
          exact ih (t + 1) t (nLike X t) (by omega) (by omega) hc' hb.1 (Or.inr ⟨by omega, rfl⟩)
  exact en_X1_commonWord h.1.1.1 (fun _ => loop (nT X).toNat 0 (-1) 0 (by omega) (by have := hk.1; omega) rfl (by omega) (Or.inl rfl))
theorem sumJ_zero {g : Int → Int} : ∀ (d : Nat) (f : Int), (∀ x, f ≤ x → x < f + d → g x = 0) → sumJ g f d = 0 := by
  intro d
  induction d with
  | zero => intro f _; rfl
  | succ d ih =>
    intro f h
    rw [sumJ_s, h f (by omega) (by omega), ih (f + 1) (fun x a b => h x (by omega) (by omega))]
    rfl
theorem sumJ_add {g : Int → Int} : ∀ (d e : Nat) (f : Int), sumJ g f (d + e) = sumJ g f d + sumJ g (f + d) e := by
  intro d
  induction d with
  | zero => intro e f; rw [Nat.zero_add, show f + ((0 : Nat) : Int) = f by omega]; show _ = 0 + _; omega
  | succ d ih =>
    intro e f
    rw [show d + 1 + e = (d + e) + 1 by omega, sumJ_s, sumJ_s, ih e (f + 1), show f + 1 + (d : Int) = f + ((d + 1 : Nat) : Int) by omega]
    omega
theorem cl_countClashes (h : LK G φ p ρ X I) (hQ : QW X) {f : Int} (f0 : 0 ≤ f) (f1 : f < NF X) : jRI E jB kX1_countClashes [VR φ, VI f] G I (fun x I' => x = anClashes X f ∧ I' = I) := by
  have hN := NF_le hQ
  have hK := h.2.1.1
  have hm := h.1.1.1.1
  have hFF := hK.2.2.2
  have b := fA_bd hQ f0 f1
  have e7 := (hK.2.1 f f0 f1).2.2.1
  have bl := hFF.bd (t := fA X f) (by omega) (by omega)
  have bn := hFF.bd (t := max 0 (fT X f - 5)) (by omega) (by omega)
  have bm := hFF.mono (t := max 0 (fT X f - 5)) (u := fA X f) (by omega) (by omega) (by omega)
  have hM : ∀ g, 0 ≤ g → g < NF X → (0 ≤ I (φ + 10) g ∧ I (φ + 10) g < 4) ∧ I (φ + 10) g % 2 = jI (fSi X g) := fun g g0 g1 => by
    rw [h.2.1.2.1 g g0 g1]
    exact ⟨mkF_bd.1, mkF_bd.2.1⟩
  let P : Int → Int := fun g => jI (g ≠ f ∧ ¬ fSi X g ∧ fB X g < fE X f ∧ fB X f < fE X g)
  have etot : anClashes X f = sumJ P (ffT X (max 0 (fT X f - 5))) (ffT X (fA X f) - ffT X (max 0 (fT X f - 5))).toNat := by
    unfold anClashes
    rw [if_pos ⟨f0, f1⟩]
    have e1 : (NF X).toNat = (ffT X (max 0 (fT X f - 5))).toNat + ((ffT X (fA X f) - ffT X (max 0 (fT X f - 5))).toNat + (NF X - ffT X (fA X f)).toNat) := by omega
    rw [e1, sumJ_add, sumJ_add]
    have z1 : sumJ P 0 (ffT X (max 0 (fT X f - 5))).toNat = 0 := sumJ_zero _ _ (fun g g0 g1 => jI_neg (fun a => by
      have gN : g < NF X := by omega
      have c := (hFF.mem (t := max 0 (fT X f - 5)) (by omega) (by omega) (f := g) g0 gN).mpr (by omega)
      have d := (fE_fB hQ (f := g) (g := f) g0 gN f0 f1).mp a.2.2.2
      have bg := fA_bd hQ (f := g) g0 gN
      omega))
    have z3 : sumJ P (0 + ((ffT X (max 0 (fT X f - 5))).toNat : Int) + ((ffT X (fA X f) - ffT X (max 0 (fT X f - 5))).toNat : Int)) (NF X - ffT X (fA X f)).toNat = 0 := sumJ_zero _ _ (fun g g0 g1 => jI_neg (fun a => by
      have gN : g < NF X := by omega
      have d := (fE_fB hQ (f := f) (g := g) f0 f1 (by omega) gN).mp a.2.2.1
      have c := (hFF.mem (t := fA X f) (by omega) (by omega) (f := g) (by omega) gN).mp d
      omega))
    show sumJ P 0 _ + (sumJ P _ _ + sumJ P _ _) = _
    rw [z1, z3, show (0 : Int) + ((ffT X (max 0 (fT X f - 5))).toNat : Int) = ffT X (max 0 (fT X f - 5)) by omega]
    omega
  have loop : ∀ (d : Nat) (g acc : Int), ffT X (max 0 (fT X f - 5)) ≤ g → g + d = ffT X (fA X f) → acc + sumJ P g d = anClashes X f → (0 ≤ acc ∧ acc ≤ g) → jOI E jB kX1_countClashes 21 [VR φ, VI f, VI acc, VI (ffT X (fA X f)), VI g] G I (fun x I' => x = anClashes X f ∧ I' = I) := by
    intro d
    induction d with
    | zero =>
      intro g acc g0 g1 ha hb
      have ha' : acc + 0 = anClashes X f := ha
      refine st_X1_countClashes_21 hm (fun _ _ _ _ _ => ⟨fun _ => ⟨by omega, rfl⟩, fun q => absurd (by omega) q⟩)
    | succ d ih =>
      intro g acc g0 g1 ha hb
      rw [sumJ_s] at ha
      have gN : g < NF X := by omega
      have no : ¬ (g ≠ f ∧ ¬ fSi X g ∧ fT X f < fA X g) → P g = 0 := fun q => jI_neg (fun a => q ⟨a.1, a.2.1, (fE_fB hQ (f := g) (g := f) (by omega) gN f0 f1).mp a.2.2.2⟩)
      have yes : (g ≠ f ∧ ¬ fSi X g ∧ fT X f < fA X g) → P g = 1 := fun q => jI_pos ⟨q.1, q.2.1, (fE_fB hQ (f := f) (g := g) f0 f1 (by omega) gN).mpr ((hFF.mem (t := fA X f) (by omega) (by omega) (f := g) (by omega) gN).mpr (by omega)), (fE_fB hQ (f := g) (g := f) (by omega) gN f0 f1).mpr q.2.2⟩
      refine st_X1_countClashes_21 hm (fun _ _ _ _ _ => ⟨fun q => absurd q (by omega), fun _ => ⟨fun q => ?_, fun q => (cl_isLoud hm hK hQ f0 f1 (by omega) gN (hM g (by omega) gN)).mono (fun y I2 _ _ gy => ?_)⟩⟩)
      · rw [no (fun a => a.1 q)] at ha
        exact ⟨⟨by omega, by omega⟩, ih (g + 1) acc (by omega) (by omega) (by omega) (by omega)⟩
      · obtain ⟨rfl, rfl⟩ := gy
        refine ⟨fun q2 => ?_, fun q2 => ?_⟩
        · rw [no (fun a => jI_n q2 a.2)] at ha
          exact ⟨⟨by omega, by omega⟩, ih (g + 1) acc (by omega) (by omega) (by omega) (by omega)⟩
        · rw [yes ⟨q, jI_p q2⟩] at ha
          exact ⟨⟨by omega, by omega⟩, ⟨by omega, by omega⟩, ih (g + 1) (acc + 1) (by omega) (by omega) (by omega) (by omega)⟩
  refine en_X1_countClashes hm (fun _ _ => ⟨⟨by omega, by omega⟩, ?_⟩)
  rw [e7, hK.2.2.1 _ (by omega) (by omega)]
  refine ⟨⟨by omega, by omega⟩, (cl_firstNear hm hK hQ f0 f1).mono (fun y I3 _ _ gy => ?_)⟩
  obtain ⟨rfl, rfl⟩ := gy
  exact loop (ffT X (fA X f) - ffT X (max 0 (fT X f - 5))).toNat _ 0 (Int.le_refl _) (by omega) (by rw [etot]; omega) (by omega)
end CO
