/-! ===== the class: the course ===== -/
theorem BW.yw {c : Int} {B : Int → Int} (h : BW c B) : YW B := fun k k0 k1 => by
  have := h.2.2.2.2.2.1 k k0 k1
  have := h.1.2.1.2.1
  omega
theorem csq_o {Z : Int → Int} (h3 : 0 ≤ Z 3 ∧ Z 3 ≤ 8) : ∀ (n : Nat) (j : Int), j ≠ 2 → ¬ (10 ≤ j ∧ j < 426) → csq Z n j = Z j := by
  intro n
  induction n with
  | zero => intro j _ _; rfl
  | succ n ih =>
    intro j h2 hj
    have e3 := ih 3 (by omega) (by omega)
    rw [csq_s, mkS_o h2 (by omega) (by omega)]
    exact ih j h2 hj
theorem csq_eqR {Z : Int → Int} (h3 : 0 ≤ Z 3 ∧ Z 3 ≤ 8) (n : Nat) : EqR Z (csq Z n) := ⟨csq_o h3 n 4 (by omega) (by omega), fun j j0 j1 _ => csq_o h3 n j (by omega) (by omega)⟩
set_option maxRecDepth 20000 in
theorem st_X3_earlierLike_2 {E : jE} {G : jG} {I : jM} {q : Int → jM → Prop} {m : Nat} {x1 : Int} {x2 : Int} (hm : WX3 G m) (hT : (∀ a j, jRg (G.2.1 a).1 (I a j)) → jIn x1 → jIn x2 → ((x1 ≤ x2 → q (-1) I) ∧ (¬ x1 ≤ x2 → ((0 : Int) ≤ x2 ∧ (x2 : Int) < 31) ∧ (∃ b1 : Nat, G.1 (m + 1) x2 = some b1 ∧ WX4 G b1 ∧ ((0 : Int) ≤ x1 ∧ (x1 : Int) < 31) ∧ (∃ b5 : Nat, G.1 (m + 1) x1 = some b5 ∧ WX4 G b5 ∧ jRI E jB kX4_isLike [VR b1, VR b5] G I (fun r10 I9 => ((r10 = 0 → jIn (x2 + 1) ∧ jOI E jB kX3_earlierLike 2 [VR m, VI x1, VI (x2 + 1)] G I9 q) ∧ (¬ r10 = 0 → q x2 I9)))))))) : jOI E jB kX3_earlierLike 2 [VR m, VI x1, VI x2] G I q := by
  intro I0 hF
  refine jOk_mem (fun hI => ?_)
  refine jOk_in (i := 1) rfl (fun hx1 => ?_)
  refine jOk_in (i := 2) rfl (fun hx2 => ?_)
  replace hT := hT hI hx1 hx2
  refine r_iload_n dX3_earlierLike_2 rfl (i := 2) rfl ?_
  refine r_iload_n dX3_earlierLike_3 rfl (i := 1) rfl ?_
  refine r_icmp_ge (tgt := 33) dX3_earlierLike_4 rfl hx2 hx1 (fun hcc => ?_) (fun hcc => ?_)
  · replace hT := hT.1 hcc
    refine r_iconst (n := (-1)) dX3_earlierLike_33 ?_
    exact r_iret dX3_earlierLike_34 rfl ⟨by decide, by decide⟩ ⟨Nat.zero_le _, Nat.zero_le _⟩ ⟨_, rfl, rfl, hF, hT⟩
  · replace hT := hT.2 hcc
    refine r_aload_n dX3_earlierLike_7 rfl (i := 0) rfl ?_
    refine rr_getR (b := (m + 1)) dX3_earlierLike_8 fg_X3_11 rfl rfl (wX3_l hm) (wX3_s hm) (wX3_r0 hm) ?_
    refine r_iload_n dX3_earlierLike_11 rfl (i := 2) rfl ?_
    obtain ⟨hc2, b1, hc3, hc4, hT⟩ := hT
    refine r_aaload (b := b1) dX3_earlierLike_12 (wX3_l0 hm) (wX3_a0 hm) (Or.inr rfl) (by decide) hc2.1 hc2.2 hc3 ?_
    refine r_aload_n dX3_earlierLike_13 rfl (i := 0) rfl ?_
    refine rr_getR (b := (m + 1)) dX3_earlierLike_14 fg_X3_11 rfl rfl (wX3_l hm) (wX3_s hm) (wX3_r0 hm) ?_
    refine r_iload_n dX3_earlierLike_17 rfl (i := 1) rfl ?_
    obtain ⟨hc6, b5, hc7, hc8, hT⟩ := hT
    refine r_aaload (b := b5) dX3_earlierLike_18 (wX3_l0 hm) (wX3_a0 hm) (Or.inr rfl) (by decide) hc6.1 hc6.2 hc7 ?_
    refine rr_cVI (a := b1) (as := [VR b5]) (st := []) dX3_earlierLike_19 mt_X4_isLike ml_X3_77 mi_X4_isLike rm_X3_earlierLike_X4_isLike jz_X4_isLike ⟨Nat.zero_le _, Nat.zero_le _⟩ (Nat.le_of_ble_eq_true rfl) (wX4_l hc4) (wX4_c hc4) (jasR jas0) hT (fun r10 I9 hc11 hFI9 hT => ?_)
    replace hFI9 := jFr_tr hF hFI9
    refine jOk_mem (fun hI9 => ?_)
    refine r_if_eq (tgt := 27) dX3_earlierLike_22 rfl hc11 (fun hcc => ?_) (fun hcc => ?_)
    · replace hT := hT.1 hcc
      obtain ⟨hc12, hT⟩ := hT
      refine rr_iinc (i := 2) (ls' := [VR m, VI x1, VI (x2 + 1)]) dX3_earlierLike_27 rfl (Nat.le_of_ble_eq_true rfl) rfl rfl hc12 ?_
      refine r_goto (tgt := 2) dX3_earlierLike_30 rfl ?_
      exact hT I0 hFI9
    · replace hT := hT.2 hcc
      refine r_iload_n dX3_earlierLike_25 rfl (i := 2) rfl ?_
      exact r_iret dX3_earlierLike_26 rfl hx2 ⟨Nat.zero_le _, Nat.zero_le _⟩ ⟨_, rfl, rfl, hFI9, hT⟩
set_option maxRecDepth 20000 in
theorem st_X3_earlierLike_0 {E : jE} {G : jG} {I : jM} {q : Int → jM → Prop} {m : Nat} {x1 : Int} (hm : WX3 G m) (hT : (∀ a j, jRg (G.2.1 a).1 (I a j)) → jIn x1 → jOI E jB kX3_earlierLike 2 [VR m, VI x1, VI 0] G I q) : jOI E jB kX3_earlierLike 0 [VR m, VI x1, VN] G I q := by
  intro I0 hF
  refine jOk_mem (fun hI => ?_)
  refine jOk_in (i := 1) rfl (fun hx1 => ?_)
  replace hT := hT hI hx1
  refine r_iconst (n := 0) dX3_earlierLike_0 ?_
  refine rr_istore_n (i := 2) (ls' := [VR m, VI x1, VI 0]) dX3_earlierLike_1 rfl (Nat.le_of_ble_eq_true rfl) rfl rfl ⟨by decide, by decide⟩ ?_
  exact hT I0 hF
theorem en_X3_earlierLike {E : jE} {G : jG} {I : jM} {q : Int → jM → Prop} {m : Nat} {x1 : Int} (hm : WX3 G m) (hT : (∀ a j, jRg (G.2.1 a).1 (I a j)) → jIn x1 → jOI E jB kX3_earlierLike 2 [VR m, VI x1, VI 0] G I q) : jRI E jB kX3_earlierLike [VR m, VI x1] G I q := jRun.of mt_X3_earlierLike.2.2.2 1 rfl (fun _ => st_X3_earlierLike_0 hm hT I (fun _ _ => rfl))
set_option maxRecDepth 20000 in
theorem st_X3_endingOf_0 {E : jE} {G : jG} {I : jM} {q : Int → jM → Prop} {m : Nat} {x1 : Int} {p2 : Nat} (hm : WX3 G m) (hp2 : WX1 G p2) (hT : (∀ a j, jRg (G.2.1 a).1 (I a j)) → jIn x1 → jRI E jB kX3_earlierLike [VR m, VI x1] G I (fun r2 I1 => (∀ M4, M4 = jup I1 m 5 r2 → ((r2 = (-1) → ((¬ (M4 p2 15) = 0 → jRI E jB kX1_canBeMade [VR p2] G M4 (fun r6 I5 => ((¬ r6 = 0 → ((30 ≤ x1 → q 3 I5) ∧ (¬ 30 ≤ x1 → q (-1) I5))) ∧ (r6 = 0 → q 2 I5)))) ∧ ((M4 p2 15) = 0 → q 0 M4))) ∧ (¬ r2 = (-1) → q 1 M4))))) : jOI E jB kX3_endingOf 0 [VR m, VI x1, VR p2] G I q := by
  intro I0 hF
  refine jOk_mem (fun hI => ?_)
  refine jOk_in (i := 1) rfl (fun hx1 => ?_)
  replace hT := hT hI hx1
  refine r_aload_n dX3_endingOf_0 rfl (i := 0) rfl ?_
  refine r_aload_n dX3_endingOf_1 rfl (i := 0) rfl ?_
  refine r_iload_n dX3_endingOf_2 rfl (i := 1) rfl ?_
  refine rr_cVI (a := m) (as := [VI x1]) (st := [VR m]) dX3_endingOf_3 mt_X3_earlierLike ml_X3_69 mi_X3_earlierLike rm_X3_endingOf_X3_earlierLike jz_X3_earlierLike ⟨Nat.zero_le _, Nat.zero_le _⟩ (Nat.le_of_ble_eq_true rfl) (wX3_l hm) (wX3_c hm) (jasI hx1 jas0) hT (fun r2 I1 hc3 hFI1 hT => ?_)
  replace hFI1 := jFr_tr hF hFI1
  refine jOk_mem (fun hI1 => ?_)
  refine rr_putI (jj := 5) dX3_endingOf_6 fp_X3_39 rfl rfl (wX3_l hm) (wX3_s hm) hc3 (fun M4 eM4 => ?_)
  have hFM4 := jFr_up hFI1 eM4 (wX3_f hm 0 (by decide))
  replace hT := hT M4 eM4
  refine jOk_mem (fun hIM4 => ?_)
  refine r_aload_n dX3_endingOf_9 rfl (i := 0) rfl ?_
  refine rr_getI (v := r2) dX3_endingOf_10 fg_X3_39 rfl (wX3_l hm) (wX3_s hm) (jr_eq eM4) ?_
  refine r_iconst (n := (-1)) dX3_endingOf_13 ?_
  refine r_icmp_eq (tgt := 19) dX3_endingOf_14 rfl hc3 ⟨by decide, by decide⟩ (fun hcc => ?_) (fun hcc => ?_)
  · replace hT := hT.1 hcc
    refine r_aload_n dX3_endingOf_19 rfl (i := 2) rfl ?_
    refine rr_getI (v := M4 p2 15) dX3_endingOf_20 fg_X3_58 rfl (wX1_l hp2) (wX1_s hp2) rfl ?_
    refine r_if_ne (tgt := 28) dX3_endingOf_23 rfl (hIM4 _ _).inR (fun hcc => ?_) (fun hcc => ?_)
    · replace hT := hT.1 hcc
      refine r_aload_n dX3_endingOf_28 rfl (i := 2) rfl ?_
      refine rr_cVI (a := p2) (as := []) (st := []) dX3_endingOf_29 mt_X1_canBeMade ml_X3_73 mi_X1_canBeMade rm_X3_endingOf_X1_canBeMade jz_X1_canBeMade ⟨Nat.zero_le _, Nat.zero_le _⟩ (Nat.le_of_ble_eq_true rfl) (wX1_l hp2) (wX1_c hp2) jas0 hT (fun r6 I5 hc7 hFI5 hT => ?_)
      replace hFI5 := jFr_tr hFM4 hFI5
      refine jOk_mem (fun hI5 => ?_)
      refine r_if_ne (tgt := 37) dX3_endingOf_32 rfl hc7 (fun hcc => ?_) (fun hcc => ?_)
      · replace hT := hT.1 hcc
        refine r_iload_n dX3_endingOf_37 rfl (i := 1) rfl ?_
        refine r_bipush (n := 30) dX3_endingOf_38 (by decide +kernel) ?_
        refine r_icmp_ge (tgt := 47) dX3_endingOf_40 rfl hx1 ⟨by decide, by decide⟩ (fun hcc => ?_) (fun hcc => ?_)
        · replace hT := hT.1 hcc
          refine r_iconst (n := 3) dX3_endingOf_47 ?_
          exact r_iret dX3_endingOf_48 rfl ⟨by decide, by decide⟩ ⟨Nat.zero_le _, Nat.zero_le _⟩ ⟨_, rfl, rfl, hFI5, hT⟩
        · replace hT := hT.2 hcc
          refine r_iconst (n := (-1)) dX3_endingOf_43 ?_
          refine r_goto (tgt := 48) dX3_endingOf_44 rfl ?_
          exact r_iret dX3_endingOf_48 rfl ⟨by decide, by decide⟩ ⟨Nat.zero_le _, Nat.zero_le _⟩ ⟨_, rfl, rfl, hFI5, hT⟩
      · replace hT := hT.2 hcc
        refine r_iconst (n := 2) dX3_endingOf_35 ?_
        exact r_iret dX3_endingOf_36 rfl ⟨by decide, by decide⟩ ⟨Nat.zero_le _, Nat.zero_le _⟩ ⟨_, rfl, rfl, hFI5, hT⟩
    · replace hT := hT.2 hcc
      refine r_iconst (n := 0) dX3_endingOf_26 ?_
      exact r_iret dX3_endingOf_27 rfl ⟨by decide, by decide⟩ ⟨Nat.zero_le _, Nat.zero_le _⟩ ⟨_, rfl, rfl, hFM4, hT⟩
  · replace hT := hT.2 hcc
    refine r_iconst (n := 1) dX3_endingOf_17 ?_
    exact r_iret dX3_endingOf_18 rfl ⟨by decide, by decide⟩ ⟨Nat.zero_le _, Nat.zero_le _⟩ ⟨_, rfl, rfl, hFM4, hT⟩
theorem en_X3_endingOf {E : jE} {G : jG} {I : jM} {q : Int → jM → Prop} {m : Nat} {x1 : Int} {p2 : Nat} (hm : WX3 G m) (hp2 : WX1 G p2) (hT : (∀ a j, jRg (G.2.1 a).1 (I a j)) → jIn x1 → jRI E jB kX3_earlierLike [VR m, VI x1] G I (fun r2 I1 => (∀ M4, M4 = jup I1 m 5 r2 → ((r2 = (-1) → ((¬ (M4 p2 15) = 0 → jRI E jB kX1_canBeMade [VR p2] G M4 (fun r6 I5 => ((¬ r6 = 0 → ((30 ≤ x1 → q 3 I5) ∧ (¬ 30 ≤ x1 → q (-1) I5))) ∧ (r6 = 0 → q 2 I5)))) ∧ ((M4 p2 15) = 0 → q 0 M4))) ∧ (¬ r2 = (-1) → q 1 M4))))) : jRI E jB kX3_endingOf [VR m, VI x1, VR p2] G I q := jRun.of mt_X3_endingOf.2.2.2 0 rfl (fun _ => st_X3_endingOf_0 hm hp2 hT I (fun _ _ => rfl))
set_option maxRecDepth 20000 in
theorem st_X3_travel_36 {E : jE} {G : jG} {I : jM} {q : jM → Prop} {m : Nat} {p1 : Nat} {x2 : Int} {p3 : Nat} {x4 : Int} (hm : WX3 G m) (hp1 : WX7 G p1) (hp3 : WX1 G p3) (hT : (∀ a j, jRg (G.2.1 a).1 (I a j)) → jIn x2 → jIn x4 → ((30 < x4 → q I) ∧ (¬ 30 < x4 → ((¬ (I m 4) = (-1) → q I) ∧ ((I m 4) = (-1) → ((0 : Int) ≤ x4 ∧ (x4 : Int) < 31) ∧ (∃ b1 : Nat, G.1 (m + 1) x4 = some b1 ∧ WX4 G b1 ∧ jRV E jB kX1_look [VR p3, VR b1, VR p1, VI x2] G I (fun I5 => jRI E jB kX3_endingOf [VR m, VI x4, VR p3] G I5 (fun r7 I6 => (∀ M9, M9 = jup I6 m 4 r7 → ((¬ r7 = (-1) → jIn (x4 + 1) ∧ jOV E jB kX3_travel 36 [VR m, VR p1, VI x2, VR p3, VI (x4 + 1)] G M9 q) ∧ (r7 = (-1) → ((30 ≤ x4 → jIn (x4 + 1) ∧ jOV E jB kX3_travel 36 [VR m, VR p1, VI x2, VR p3, VI (x4 + 1)] G M9 q) ∧ (¬ 30 ≤ x4 → ((0 : Int) ≤ (x4 + 1) ∧ ((x4 + 1) : Int) < 31) ∧ (∃ b12 : Nat, G.1 (m + 1) (x4 + 1) = some b12 ∧ WX4 G b12 ∧ jRV E jB kX1_rewrite [VR p3, VR (p3 + 13), VI (M9 p3 15), VR b12] G M9 (fun I16 => jRI E jB kX1_pickedRules [VR p3] G I16 (fun r18 I17 => ((0 : Int) ≤ x4 ∧ (x4 : Int) < 30) ∧ (∀ M21, M21 = jup I17 (m + 2) x4 r18 → jIn ((I17 m 3) + (M21 p3 15)) ∧ (∀ M22, M22 = jup M21 m 3 ((I17 m 3) + (M21 p3 15)) → jIn (x4 + 1) ∧ (∀ M24, M24 = jup M22 m 2 (x4 + 1) → jIn (x4 + 1) ∧ jOV E jB kX3_travel 36 [VR m, VR p1, VI x2, VR p3, VI (x4 + 1)] G M24 q))))))))))))))))))) : jOV E jB kX3_travel 36 [VR m, VR p1, VI x2, VR p3, VI x4] G I q := by
  intro I0 hF
  refine jOk_mem (fun hI => ?_)
  refine jOk_in (i := 2) rfl (fun hx2 => ?_)
  refine jOk_in (i := 4) rfl (fun hx4 => ?_)
  replace hT := hT hI hx2 hx4
  refine r_iload dX3_travel_36 (i := 4) rfl ?_
  refine r_bipush (n := 30) dX3_travel_38 (by decide +kernel) ?_
  refine r_icmp_gt (tgt := 149) dX3_travel_40 rfl hx4 ⟨by decide, by decide⟩ (fun hcc => ?_) (fun hcc => ?_)
  · replace hT := hT.1 hcc
    exact r_vret dX3_travel_149 rfl ⟨Nat.zero_le _, Nat.zero_le _⟩ ⟨rfl, rfl, hF, hT⟩
  · replace hT := hT.2 hcc
    refine r_aload_n dX3_travel_43 rfl (i := 0) rfl ?_
    refine rr_getI (v := I m 4) dX3_travel_44 fg_X3_42 rfl (wX3_l hm) (wX3_s hm) rfl ?_
    refine r_iconst (n := (-1)) dX3_travel_47 ?_
    refine r_icmp_ne (tgt := 149) dX3_travel_48 rfl (hI _ _).inR ⟨by decide, by decide⟩ (fun hcc => ?_) (fun hcc => ?_)
    · replace hT := hT.1 hcc
      exact r_vret dX3_travel_149 rfl ⟨Nat.zero_le _, Nat.zero_le _⟩ ⟨rfl, rfl, hF, hT⟩
    · replace hT := hT.2 hcc
      refine r_aload_n dX3_travel_51 rfl (i := 3) rfl ?_
      refine r_aload_n dX3_travel_52 rfl (i := 0) rfl ?_
      refine rr_getR (b := (m + 1)) dX3_travel_53 fg_X3_11 rfl rfl (wX3_l hm) (wX3_s hm) (wX3_r0 hm) ?_
      refine r_iload dX3_travel_56 (i := 4) rfl ?_
      obtain ⟨hc2, b1, hc3, hc4, hT⟩ := hT
      refine r_aaload (b := b1) dX3_travel_58 (wX3_l0 hm) (wX3_a0 hm) (Or.inr rfl) (by decide) hc2.1 hc2.2 hc3 ?_
      refine r_aload_n dX3_travel_59 rfl (i := 1) rfl ?_
      refine r_iload_n dX3_travel_60 rfl (i := 2) rfl ?_
      refine rr_cVV (a := p3) (as := [VR b1, VR p1, VI x2]) (st := []) dX3_travel_61 mt_X1_look ml_X3_45 mi_X1_look rm_X3_travel_X1_look jz_X1_look ⟨Nat.zero_le _, Nat.zero_le _⟩ (Nat.le_of_ble_eq_true rfl) (wX1_l hp3) (wX1_c hp3) (jasR (jasR (jasI hx2 jas0))) hT (fun I5 hFI5 hT => ?_)
      replace hFI5 := jFr_tr hF hFI5
      refine jOk_mem (fun hI5 => ?_)
      refine r_aload_n dX3_travel_64 rfl (i := 0) rfl ?_
      refine r_aload_n dX3_travel_65 rfl (i := 0) rfl ?_
      refine r_iload dX3_travel_66 (i := 4) rfl ?_
      refine r_aload_n dX3_travel_68 rfl (i := 3) rfl ?_
      refine rr_cVI (a := m) (as := [VI x4, VR p3]) (st := [VR m]) dX3_travel_69 mt_X3_endingOf ml_X3_51 mi_X3_endingOf rm_X3_travel_X3_endingOf jz_X3_endingOf ⟨Nat.zero_le _, Nat.zero_le _⟩ (Nat.le_of_ble_eq_true rfl) (wX3_l hm) (wX3_c hm) (jasI hx4 (jasR jas0)) hT (fun r7 I6 hc8 hFI6 hT => ?_)
      replace hFI6 := jFr_tr hFI5 hFI6
      refine jOk_mem (fun hI6 => ?_)
      refine rr_putI (jj := 4) dX3_travel_72 fp_X3_42 rfl rfl (wX3_l hm) (wX3_s hm) hc8 (fun M9 eM9 => ?_)
      have hFM9 := jFr_up hFI6 eM9 (wX3_f hm 0 (by decide))
      replace hT := hT M9 eM9
      refine jOk_mem (fun hIM9 => ?_)
      refine r_aload_n dX3_travel_75 rfl (i := 0) rfl ?_
      refine rr_getI (v := r7) dX3_travel_76 fg_X3_42 rfl (wX3_l hm) (wX3_s hm) (jr_eq eM9) ?_
      refine r_iconst (n := (-1)) dX3_travel_79 ?_
      refine r_icmp_ne (tgt := 143) dX3_travel_80 rfl hc8 ⟨by decide, by decide⟩ (fun hcc => ?_) (fun hcc => ?_)
      · replace hT := hT.1 hcc
        obtain ⟨hc10, hT⟩ := hT
        refine rr_iinc (i := 4) (ls' := [VR m, VR p1, VI x2, VR p3, VI (x4 + 1)]) dX3_travel_143 rfl (Nat.le_of_ble_eq_true rfl) rfl rfl hc10 ?_
        refine r_goto (tgt := 36) dX3_travel_146 rfl ?_
        exact hT I0 hFM9
      · replace hT := hT.2 hcc
        refine r_iload dX3_travel_83 (i := 4) rfl ?_
        refine r_bipush (n := 30) dX3_travel_85 (by decide +kernel) ?_
        refine r_icmp_ge (tgt := 143) dX3_travel_87 rfl hx4 ⟨by decide, by decide⟩ (fun hcc => ?_) (fun hcc => ?_)
        · replace hT := hT.1 hcc
          obtain ⟨hc11, hT⟩ := hT
          refine rr_iinc (i := 4) (ls' := [VR m, VR p1, VI x2, VR p3, VI (x4 + 1)]) dX3_travel_143 rfl (Nat.le_of_ble_eq_true rfl) rfl rfl hc11 ?_
          refine r_goto (tgt := 36) dX3_travel_146 rfl ?_
          exact hT I0 hFM9
        · replace hT := hT.2 hcc
          refine r_aload_n dX3_travel_90 rfl (i := 3) rfl ?_
          refine r_aload_n dX3_travel_91 rfl (i := 3) rfl ?_
          refine rr_getR (b := (p3 + 13)) dX3_travel_92 fg_X3_55 rfl rfl (wX1_l hp3) (wX1_s hp3) (wX1_r14 hp3) ?_
          refine r_aload_n dX3_travel_95 rfl (i := 3) rfl ?_
          refine rr_getI (v := M9 p3 15) dX3_travel_96 fg_X3_58 rfl (wX1_l hp3) (wX1_s hp3) rfl ?_
          refine r_aload_n dX3_travel_99 rfl (i := 0) rfl ?_
          refine rr_getR (b := (m + 1)) dX3_travel_100 fg_X3_11 rfl rfl (wX3_l hm) (wX3_s hm) (wX3_r0 hm) ?_
          refine r_iload dX3_travel_103 (i := 4) rfl ?_
          refine r_iconst (n := 1) dX3_travel_105 ?_
          refine r_iadd dX3_travel_106 ?_
          obtain ⟨hc13, b12, hc14, hc15, hT⟩ := hT
          refine r_aaload (b := b12) dX3_travel_107 (wX3_l0 hm) (wX3_a0 hm) (Or.inr rfl) (by decide) hc13.1 hc13.2 hc14 ?_
          refine rr_cVV (a := p3) (as := [VR (p3 + 13), VI (M9 p3 15), VR b12]) (st := []) dX3_travel_108 mt_X1_rewrite ml_X3_61 mi_X1_rewrite rm_X3_travel_X1_rewrite jz_X1_rewrite ⟨Nat.zero_le _, Nat.zero_le _⟩ (Nat.le_of_ble_eq_true rfl) (wX1_l hp3) (wX1_c hp3) (jasR (jasI (hIM9 _ _).inR (jasR jas0))) hT (fun I16 hFI16 hT => ?_)
          replace hFI16 := jFr_tr hFM9 hFI16
          refine jOk_mem (fun hI16 => ?_)
          refine r_aload_n dX3_travel_111 rfl (i := 0) rfl ?_
          refine rr_getR (b := (m + 2)) dX3_travel_112 fg_X3_17 rfl rfl (wX3_l hm) (wX3_s hm) (wX3_r1 hm) ?_
          refine r_iload dX3_travel_115 (i := 4) rfl ?_
          refine r_aload_n dX3_travel_117 rfl (i := 3) rfl ?_
          refine rr_cVI (a := p3) (as := []) (st := [VI x4, VR (m + 2)]) dX3_travel_118 mt_X1_pickedRules ml_X3_65 mi_X1_pickedRules rm_X3_travel_X1_pickedRules jz_X1_pickedRules ⟨Nat.zero_le _, Nat.zero_le _⟩ (Nat.le_of_ble_eq_true rfl) (wX1_l hp3) (wX1_c hp3) jas0 hT (fun r18 I17 hc19 hFI17 hT => ?_)
          replace hFI17 := jFr_tr hFI16 hFI17
          refine jOk_mem (fun hI17 => ?_)
          obtain ⟨hc20, hT⟩ := hT
          refine rr_iastore dX3_travel_121 (wX3_l1 hm) (wX3_a1 hm) (by decide) hc20 hc19 (fun M21 eM21 => ?_)
          have hFM21 := jFr_up hFI17 eM21 (wX3_f hm 2 (by decide))
          replace hT := hT M21 eM21
          refine jOk_mem (fun hIM21 => ?_)
          refine r_aload_n dX3_travel_122 rfl (i := 0) rfl ?_
          refine r_dup dX3_travel_123 rfl ?_
          refine rr_getI (v := I17 m 3) dX3_travel_124 fg_X3_36 rfl (wX3_l hm) (wX3_s hm) (jr_na eM21 (by omega)) ?_
          refine r_aload_n dX3_travel_127 rfl (i := 3) rfl ?_
          refine rr_getI (v := M21 p3 15) dX3_travel_128 fg_X3_58 rfl (wX1_l hp3) (wX1_s hp3) rfl ?_
          refine r_iadd dX3_travel_131 ?_
          obtain ⟨hc23, hT⟩ := hT
          refine rr_putI (jj := 3) dX3_travel_132 fp_X3_36 rfl rfl (wX3_l hm) (wX3_s hm) hc23 (fun M22 eM22 => ?_)
          have hFM22 := jFr_up hFM21 eM22 (wX3_f hm 0 (by decide))
          replace hT := hT M22 eM22
          refine jOk_mem (fun hIM22 => ?_)
          refine r_aload_n dX3_travel_135 rfl (i := 0) rfl ?_
          refine r_iload dX3_travel_136 (i := 4) rfl ?_
          refine r_iconst (n := 1) dX3_travel_138 ?_
          refine r_iadd dX3_travel_139 ?_
          obtain ⟨hc25, hT⟩ := hT
          refine rr_putI (jj := 2) dX3_travel_140 fp_X3_32 rfl rfl (wX3_l hm) (wX3_s hm) hc25 (fun M24 eM24 => ?_)
          have hFM24 := jFr_up hFM22 eM24 (wX3_f hm 0 (by decide))
          replace hT := hT M24 eM24
          refine jOk_mem (fun hIM24 => ?_)
          obtain ⟨hc26, hT⟩ := hT
          refine rr_iinc (i := 4) (ls' := [VR m, VR p1, VI x2, VR p3, VI (x4 + 1)]) dX3_travel_143 rfl (Nat.le_of_ble_eq_true rfl) rfl rfl hc26 ?_
          refine r_goto (tgt := 36) dX3_travel_146 rfl ?_
          exact hT I0 hFM24
set_option maxRecDepth 20000 in
theorem st_X3_travel_0 {E : jE} {G : jG} {I : jM} {q : jM → Prop} {m : Nat} {p1 : Nat} {x2 : Int} {p3 : Nat} (hm : WX3 G m) (hp1 : WX7 G p1) (hp3 : WX1 G p3) (hT : (∀ a j, jRg (G.2.1 a).1 (I a j)) → jIn x2 → ((0 : Int) ≤ 0 ∧ (0 : Int) < 31) ∧ (∃ b1 : Nat, G.1 (m + 1) 0 = some b1 ∧ WX4 G b1 ∧ jRV E jB kX4_copyFrom [VR b1, VR (p1 + 1)] G I (fun I5 => (∀ M6, M6 = jup I5 m 2 0 → (∀ M7, M7 = jup M6 m 3 0 → (∀ M8, M8 = jup M7 m 5 (-1) → (∀ M9, M9 = jup M8 m 4 (-1) → jOV E jB kX3_travel 36 [VR m, VR p1, VI x2, VR p3, VI 0] G M9 q))))))) : jOV E jB kX3_travel 0 [VR m, VR p1, VI x2, VR p3, VN] G I q := by
  intro I0 hF
  refine jOk_mem (fun hI => ?_)
  refine jOk_in (i := 2) rfl (fun hx2 => ?_)
  replace hT := hT hI hx2
  refine r_aload_n dX3_travel_0 rfl (i := 0) rfl ?_
  refine rr_getR (b := (m + 1)) dX3_travel_1 fg_X3_11 rfl rfl (wX3_l hm) (wX3_s hm) (wX3_r0 hm) ?_
  refine r_iconst (n := 0) dX3_travel_4 ?_
  obtain ⟨hc2, b1, hc3, hc4, hT⟩ := hT
  refine r_aaload (b := b1) dX3_travel_5 (wX3_l0 hm) (wX3_a0 hm) (Or.inr rfl) (by decide) hc2.1 hc2.2 hc3 ?_
  refine r_aload_n dX3_travel_6 rfl (i := 1) rfl ?_
  refine rr_getR (b := (p1 + 1)) dX3_travel_7 fg_X3_22 rfl rfl (wX7_l hp1) (wX7_s hp1) (wX7_r0 hp1) ?_
  refine rr_cVV (a := b1) (as := [VR (p1 + 1)]) (st := []) dX3_travel_10 mt_X4_copyFrom ml_X3_28 mi_X4_copyFrom rm_X3_travel_X4_copyFrom jz_X4_copyFrom ⟨Nat.zero_le _, Nat.zero_le _⟩ (Nat.le_of_ble_eq_true rfl) (wX4_l hc4) (wX4_c hc4) (jasR jas0) hT (fun I5 hFI5 hT => ?_)
  replace hFI5 := jFr_tr hF hFI5
  refine jOk_mem (fun hI5 => ?_)
  refine r_aload_n dX3_travel_13 rfl (i := 0) rfl ?_
  refine r_iconst (n := 0) dX3_travel_14 ?_
  refine rr_putI (jj := 2) dX3_travel_15 fp_X3_32 rfl rfl (wX3_l hm) (wX3_s hm) ⟨by decide, by decide⟩ (fun M6 eM6 => ?_)
  have hFM6 := jFr_up hFI5 eM6 (wX3_f hm 0 (by decide))
  replace hT := hT M6 eM6
  refine jOk_mem (fun hIM6 => ?_)
  refine r_aload_n dX3_travel_18 rfl (i := 0) rfl ?_
  refine r_iconst (n := 0) dX3_travel_19 ?_
  refine rr_putI (jj := 3) dX3_travel_20 fp_X3_36 rfl rfl (wX3_l hm) (wX3_s hm) ⟨by decide, by decide⟩ (fun M7 eM7 => ?_)
  have hFM7 := jFr_up hFM6 eM7 (wX3_f hm 0 (by decide))
  replace hT := hT M7 eM7
  refine jOk_mem (fun hIM7 => ?_)
  refine r_aload_n dX3_travel_23 rfl (i := 0) rfl ?_
  refine r_iconst (n := (-1)) dX3_travel_24 ?_
  refine rr_putI (jj := 5) dX3_travel_25 fp_X3_39 rfl rfl (wX3_l hm) (wX3_s hm) ⟨by decide, by decide⟩ (fun M8 eM8 => ?_)
  have hFM8 := jFr_up hFM7 eM8 (wX3_f hm 0 (by decide))
  replace hT := hT M8 eM8
  refine jOk_mem (fun hIM8 => ?_)
  refine r_aload_n dX3_travel_28 rfl (i := 0) rfl ?_
  refine r_iconst (n := (-1)) dX3_travel_29 ?_
  refine rr_putI (jj := 4) dX3_travel_30 fp_X3_42 rfl rfl (wX3_l hm) (wX3_s hm) ⟨by decide, by decide⟩ (fun M9 eM9 => ?_)
  have hFM9 := jFr_up hFM8 eM9 (wX3_f hm 0 (by decide))
  replace hT := hT M9 eM9
  refine jOk_mem (fun hIM9 => ?_)
  refine r_iconst (n := 0) dX3_travel_33 ?_
  refine rr_istore (i := 4) (ls' := [VR m, VR p1, VI x2, VR p3, VI 0]) dX3_travel_34 (Nat.le_of_ble_eq_true rfl) rfl rfl ⟨by decide, by decide⟩ ?_
  exact hT I0 hFM9
theorem en_X3_travel {E : jE} {G : jG} {I : jM} {q : jM → Prop} {m : Nat} {p1 : Nat} {x2 : Int} {p3 : Nat} (hm : WX3 G m) (hp1 : WX7 G p1) (hp3 : WX1 G p3) (hT : (∀ a j, jRg (G.2.1 a).1 (I a j)) → jIn x2 → ((0 : Int) ≤ 0 ∧ (0 : Int) < 31) ∧ (∃ b1 : Nat, G.1 (m + 1) 0 = some b1 ∧ WX4 G b1 ∧ jRV E jB kX4_copyFrom [VR b1, VR (p1 + 1)] G I (fun I5 => (∀ M6, M6 = jup I5 m 2 0 → (∀ M7, M7 = jup M6 m 3 0 → (∀ M8, M8 = jup M7 m 5 (-1) → (∀ M9, M9 = jup M8 m 4 (-1) → jOV E jB kX3_travel 36 [VR m, VR p1, VI x2, VR p3, VI 0] G M9 q))))))) : jRV E jB kX3_travel [VR m, VR p1, VI x2, VR p3] G I q := jRun.of mt_X3_travel.2.2.2 1 rfl (fun _ => st_X3_travel_0 hm hp1 hp3 hT I (fun _ _ => rfl))
set_option maxRecDepth 20000 in
theorem st_X3_pageBehind_0 {E : jE} {G : jG} {I : jM} {q : Nat → jM → Prop} {m : Nat} {x1 : Int} (hm : WX3 G m) (hT : (∀ a j, jRg (G.2.1 a).1 (I a j)) → jIn x1 → ((0 : Int) ≤ (max 0 (min x1 (I m 2))) ∧ ((max 0 (min x1 (I m 2))) : Int) < 31) ∧ (∃ b3 : Nat, G.1 (m + 1) (max 0 (min x1 (I m 2))) = some b3 ∧ WX4 G b3 ∧ q b3 I)) : jOA E jB kX3_pageBehind 0 [VR m, VI x1] G I q := by
  intro I0 hF
  refine jOk_mem (fun hI => ?_)
  refine jOk_in (i := 1) rfl (fun hx1 => ?_)
  replace hT := hT hI hx1
  refine r_aload_n dX3_pageBehind_0 rfl (i := 0) rfl ?_
  refine rr_getR (b := (m + 1)) dX3_pageBehind_1 fg_X3_11 rfl rfl (wX3_l hm) (wX3_s hm) (wX3_r0 hm) ?_
  refine r_iconst (n := 0) dX3_pageBehind_4 ?_
  refine r_iload_n dX3_pageBehind_5 rfl (i := 1) rfl ?_
  refine r_aload_n dX3_pageBehind_6 rfl (i := 0) rfl ?_
  refine rr_getI (v := I m 2) dX3_pageBehind_7 fg_X3_32 rfl (wX3_l hm) (wX3_s hm) rfl ?_
  have hc1 : jIn (min x1 (I m 2)) := j_min hx1 (hI _ _).inR
  refine r_mmin (st := [VI 0, VR (m + 1)]) dX3_pageBehind_10 ml_X3_81 w_min ⟨Nat.le_of_ble_eq_true rfl, Nat.le_of_ble_eq_true rfl⟩ ⟨Nat.zero_le _, Nat.zero_le _⟩ hx1 (hI _ _).inR ?_
  have hc2 : jIn (max 0 (min x1 (I m 2))) := j_max ⟨by decide, by decide⟩ hc1
  refine r_mmax (st := [VR (m + 1)]) dX3_pageBehind_13 ml_X3_87 w_max ⟨Nat.le_of_ble_eq_true rfl, Nat.le_of_ble_eq_true rfl⟩ ⟨Nat.zero_le _, Nat.zero_le _⟩ ⟨by decide, by decide⟩ hc1 ?_
  obtain ⟨hc4, b3, hc5, hc6, hT⟩ := hT
  refine r_aaload (b := b3) dX3_pageBehind_16 (wX3_l0 hm) (wX3_a0 hm) (Or.inr rfl) (by decide) hc4.1 hc4.2 hc5 ?_
  exact r_aret dX3_pageBehind_17 rfl ⟨Nat.zero_le _, Nat.zero_le _⟩ ⟨_, rfl, rfl, hF, hT⟩
theorem en_X3_pageBehind {E : jE} {G : jG} {I : jM} {q : Nat → jM → Prop} {m : Nat} {x1 : Int} (hm : WX3 G m) (hT : (∀ a j, jRg (G.2.1 a).1 (I a j)) → jIn x1 → ((0 : Int) ≤ (max 0 (min x1 (I m 2))) ∧ ((max 0 (min x1 (I m 2))) : Int) < 31) ∧ (∃ b3 : Nat, G.1 (m + 1) (max 0 (min x1 (I m 2))) = some b3 ∧ WX4 G b3 ∧ q b3 I)) : jRA E jB kX3_pageBehind [VR m, VI x1] G I q := jRun.of mt_X3_pageBehind.2.2.2 0 rfl (fun _ => st_X3_pageBehind_0 hm hT I (fun _ _ => rfl))
set_option maxRecDepth 20000 in
theorem st_X3_rulesMade_8 {E : jE} {G : jG} {I : jM} {q : Int → jM → Prop} {m : Nat} {x1 : Int} {x2 : Int} {x3 : Int} (hm : WX3 G m) (hT : (∀ a j, jRg (G.2.1 a).1 (I a j)) → jIn x1 → jIn x2 → jIn x3 → (((I m 2) ≤ x3 → q x2 I) ∧ (¬ (I m 2) ≤ x3 → ((0 : Int) ≤ x3 ∧ (x3 : Int) < 30) ∧ jIn (x3 + 1) ∧ jOI E jB kX3_rulesMade 8 [VR m, VI x1, VI (jor x2 (I (m + 2) x3)), VI (x3 + 1)] G I q))) : jOI E jB kX3_rulesMade 8 [VR m, VI x1, VI x2, VI x3] G I q := by
  intro I0 hF
  refine jOk_mem (fun hI => ?_)
  refine jOk_in (i := 1) rfl (fun hx1 => ?_)
  refine jOk_in (i := 2) rfl (fun hx2 => ?_)
  refine jOk_in (i := 3) rfl (fun hx3 => ?_)
  replace hT := hT hI hx1 hx2 hx3
  refine r_iload_n dX3_rulesMade_8 rfl (i := 3) rfl ?_
  refine r_aload_n dX3_rulesMade_9 rfl (i := 0) rfl ?_
  refine rr_getI (v := I m 2) dX3_rulesMade_10 fg_X3_32 rfl (wX3_l hm) (wX3_s hm) rfl ?_
  refine r_icmp_ge (tgt := 31) dX3_rulesMade_13 rfl hx3 (hI _ _).inR (fun hcc => ?_) (fun hcc => ?_)
  · replace hT := hT.1 hcc
    refine r_iload_n dX3_rulesMade_31 rfl (i := 2) rfl ?_
    exact r_iret dX3_rulesMade_32 rfl hx2 ⟨Nat.zero_le _, Nat.zero_le _⟩ ⟨_, rfl, rfl, hF, hT⟩
  · replace hT := hT.2 hcc
    refine r_iload_n dX3_rulesMade_16 rfl (i := 2) rfl ?_
    refine r_aload_n dX3_rulesMade_17 rfl (i := 0) rfl ?_
    refine rr_getR (b := (m + 2)) dX3_rulesMade_18 fg_X3_17 rfl rfl (wX3_l hm) (wX3_s hm) (wX3_r1 hm) ?_
    refine r_iload_n dX3_rulesMade_21 rfl (i := 3) rfl ?_
    obtain ⟨hc1, hT⟩ := hT
    refine rr_iaload (v := I (m + 2) x3) dX3_rulesMade_22 (wX3_l1 hm) (wX3_a1 hm) (by decide) hc1 rfl ?_
    refine r_ior dX3_rulesMade_23 ?_
    refine rr_istore_n (i := 2) (ls' := [VR m, VI x1, VI (jor x2 (I (m + 2) x3)), VI x3]) dX3_rulesMade_24 rfl (Nat.le_of_ble_eq_true rfl) rfl rfl (j32_in _) ?_
    obtain ⟨hc2, hT⟩ := hT
    refine rr_iinc (i := 3) (ls' := [VR m, VI x1, VI (jor x2 (I (m + 2) x3)), VI (x3 + 1)]) dX3_rulesMade_25 rfl (Nat.le_of_ble_eq_true rfl) rfl rfl hc2 ?_
    refine r_goto (tgt := 8) dX3_rulesMade_28 rfl ?_
    exact hT I0 hF
set_option maxRecDepth 20000 in
theorem st_X3_rulesMade_0 {E : jE} {G : jG} {I : jM} {q : Int → jM → Prop} {m : Nat} {x1 : Int} (hm : WX3 G m) (hT : (∀ a j, jRg (G.2.1 a).1 (I a j)) → jIn x1 → jOI E jB kX3_rulesMade 8 [VR m, VI x1, VI 0, VI (max 0 x1)] G I q) : jOI E jB kX3_rulesMade 0 [VR m, VI x1, VN, VN] G I q := by
  intro I0 hF
  refine jOk_mem (fun hI => ?_)
  refine jOk_in (i := 1) rfl (fun hx1 => ?_)
  replace hT := hT hI hx1
  refine r_iconst (n := 0) dX3_rulesMade_0 ?_
  refine rr_istore_n (i := 2) (ls' := [VR m, VI x1, VI 0, VN]) dX3_rulesMade_1 rfl (Nat.le_of_ble_eq_true rfl) rfl rfl ⟨by decide, by decide⟩ ?_
  refine r_iconst (n := 0) dX3_rulesMade_2 ?_
  refine r_iload_n dX3_rulesMade_3 rfl (i := 1) rfl ?_
  have hc1 : jIn (max 0 x1) := j_max ⟨by decide, by decide⟩ hx1
  refine r_mmax (st := []) dX3_rulesMade_4 ml_X3_87 w_max ⟨Nat.le_of_ble_eq_true rfl, Nat.le_of_ble_eq_true rfl⟩ ⟨Nat.zero_le _, Nat.zero_le _⟩ ⟨by decide, by decide⟩ hx1 ?_
  refine rr_istore_n (i := 3) (ls' := [VR m, VI x1, VI 0, VI (max 0 x1)]) dX3_rulesMade_7 rfl (Nat.le_of_ble_eq_true rfl) rfl rfl hc1 ?_
  exact hT I0 hF
theorem en_X3_rulesMade {E : jE} {G : jG} {I : jM} {q : Int → jM → Prop} {m : Nat} {x1 : Int} (hm : WX3 G m) (hT : (∀ a j, jRg (G.2.1 a).1 (I a j)) → jIn x1 → jOI E jB kX3_rulesMade 8 [VR m, VI x1, VI 0, VI (max 0 x1)] G I q) : jRI E jB kX3_rulesMade [VR m, VI x1] G I q := jRun.of mt_X3_rulesMade.2.2.2 2 rfl (fun _ => st_X3_rulesMade_0 hm hT I (fun _ _ => rfl))
/-- where the page behind n rounds lies -/
def pgA (ι : Nat) (n : Nat) : Nat := ι + 3 + 5 * n
/-- the course, as the class holds it -/
def JO (ι : Nat) (Z : Int → Int) (I : jM) : Prop := (I ι 2 = crN Z ∧ crN Z ≤ 30) ∧ I ι 4 = endAt Z (crN Z) ∧ I ι 5 = fstL Z (crN Z) ∧ I ι 3 = mdS Z (crN Z) ∧ (∀ k : Nat, k ≤ crN Z → PG (pgA ι k) (csq Z k) I) ∧ (∀ k : Nat, k < crN Z → I (ι + 2) k = rb (csq Z k)) ∧ (fstL Z (crN Z) ≠ -1 → 0 ≤ fstL Z (crN Z) ∧ fstL Z (crN Z) < crN Z)
theorem JO.fr {ι : Nat} {Z : Int → Int} {I I' : jM} (h : JO ι Z I) (e : ∀ a j, ι ≤ a → a < ι + 158 → I' a j = I a j) : JO ι Z I' := by
  obtain ⟨h1, h2, h3, h4, h5, h6, h7⟩ := h
  refine ⟨⟨(e _ _ (by omega) (by omega)).trans h1.1, h1.2⟩, (e _ _ (by omega) (by omega)).trans h2, (e _ _ (by omega) (by omega)).trans h3, (e _ _ (by omega) (by omega)).trans h4, fun k hk => (h5 k hk).fr (fun a j a0 a1 => e a j (by unfold pgA at a0; omega) (by unfold pgA at a1; omega)), fun k hk => ?_, h7⟩
  rw [e _ _ (by omega) (by omega)]
  exact h6 k hk
section CR
variable {E : jE} {G : jG} {ι φ σ ρ n : Nat} {I : jM} {Z : Int → Int} {c : Int}
theorem pgA_w (hm : WX3 G ι) {n : Nat} (h : n ≤ 30) : G.1 (ι + 1) (n : Int) = some (pgA ι n) ∧ WX4 G (pgA ι n) := by
  have g := wX3_e0 hm (n : Int) (by omega) (by omega)
  rw [show ((n : Int)).toNat = n by omega] at g
  exact g
theorem cl_earlierLike (hm : WX3 G ι) (hW : ∀ k : Nat, k ≤ n → BW (c + k) (csq Z k)) (h3 : 0 ≤ Z 3 ∧ Z 3 ≤ 8) (hn : n ≤ 30) (hP : ∀ k : Nat, k ≤ n → PG (pgA ι k) (csq Z k) I) : jRI E jB kX3_earlierLike [VR ι, VI (n : Int)] G I (fun x I' => x = fstL Z n ∧ isFstL Z n x ∧ I' = I) := by
  have z : ∀ k : Nat, k ≤ n → (∀ i, csq Z k 2 ≤ i → i < 200 → csq Z k (10 + i) = 0) ∧ ∀ j, 2 * csq Z k 3 ≤ j → j < 16 → csq Z k (410 + j) = 0 := fun k hk => ⟨(hW k hk).2.2.1, (hW k hk).2.2.2.1⟩
  have loop : ∀ (d k : Nat), k + d = n → (∀ j : Nat, j < k → ¬ likeB (csq Z j) (csq Z n)) → jOI E jB kX3_earlierLike 2 [VR ι, VI (n : Int), VI (k : Int)] G I (fun x I' => x = fstL Z n ∧ isFstL Z n x ∧ I' = I) := by
    intro d
    induction d with
    | zero =>
      intro k hk hj
      have hf : isFstL Z n (-1) := Or.inl ⟨rfl, fun j hj' => hj j (by omega)⟩
      refine st_X3_earlierLike_2 hm (fun _ _ _ => ⟨fun _ => ⟨(fstL_eq hf).symm, hf, rfl⟩, fun q => absurd (by omega) q⟩)
    | succ d ih =>
      intro k hk hj
      obtain ⟨g1, g2⟩ := pgA_w hm (n := k) (by omega)
      obtain ⟨g3, g4⟩ := pgA_w hm (n := n) hn
      refine st_X3_earlierLike_2 hm (fun _ _ _ => ⟨fun q => absurd q (by omega), fun _ => ⟨⟨by omega, by omega⟩, pgA ι k, g1, g2, ⟨by omega, by omega⟩, pgA ι n, g3, g4, ?_⟩⟩)
      refine (cl_isLike g2 g4 (hP k (by omega)) (hP n (by omega)) (by rw [csq_o h3 k 3 (by omega) (by omega), csq_o h3 n 3 (by omega) (by omega)]) (z k (by omega)) (z n (by omega))).mono (fun y I9 _ _ gy => ?_)
      obtain ⟨rfl, rfl⟩ := gy
      have e2 : (k : Int) + 1 = ((k + 1 : Nat) : Int) := by omega
      rw [e2]
      refine ⟨fun q => ⟨⟨by omega, by omega⟩, ih (k + 1) (by omega) (fun j hj' => ?_)⟩, fun q => ?_⟩
      · by_cases e : j = k
        · rw [e]; exact jI_n q
        · exact hj j (by omega)
      · have hf : isFstL Z n (k : Int) := Or.inr ⟨by omega, by omega, by rw [show ((k : Int)).toNat = k by omega]; exact jI_p q, fun j hj' => hj j (by omega)⟩
        exact ⟨(fstL_eq hf).symm, hf, rfl⟩
  exact en_X3_earlierLike hm (fun _ _ => loop n 0 (by omega) (fun j hj => absurd hj (Nat.not_lt_zero j)))
def W5 (ι : Nat) (I I' : jM) : Prop := ∀ a j, (a ≠ ι ∨ j ≠ 5) → I' a j = I a j
theorem cl_endingOf (hm : WX3 G ι) (hW : ∀ k : Nat, k ≤ n → BW (c + k) (csq Z k)) (h3 : 0 ≤ Z 3 ∧ Z 3 ≤ 8) (hn : n ≤ 30) (hP : ∀ k : Nat, k ≤ n → PG (pgA ι k) (csq Z k) I) (hL : LK G φ (pgA ι n) ρ (csq Z n) I) (hd : ι + 158 ≤ φ ∨ φ + 14 ≤ ι) (hr : ρ + 13 ≤ ι ∨ ι + 158 ≤ ρ) : jRI E jB kX3_endingOf [VR ι, VI (n : Int), VR φ] G I (fun x I' => x = endAt Z n ∧ I' ι 5 = fstL Z n ∧ isFstL Z n (fstL Z n) ∧ W5 ι I I') := by
  have hQ := (hW n (Nat.le_refl n)).1
  refine en_X3_endingOf hm hL.1.1.1.1 (fun _ _ => (cl_earlierLike hm hW h3 hn hP).mono (fun x I1 _ _ g => ?_))
  obtain ⟨ex, hx, rfl⟩ := g
  intro M4 e4
  have w4 : W5 ι I1 M4 := fun a j ha => by
    rcases ha with ha | ha
    · exact jr_na e4 ha
    · exact jr_nj e4 ha
  have e5 : M4 ι 5 = fstL Z n := by rw [jr_eq e4, ex]
  rw [ex] at hx
  have hL4 : LK G φ (pgA ι n) ρ (csq Z n) M4 := hL.fr (fun a j q => w4 a j (Or.inl (by unfold pgA at q; omega)))
  rw [hL4.2.2.1, ex]
  have hl0 : (((setL (csq Z n)).length : Int) = 0) ↔ setL (csq Z n) = [] := ⟨fun q => List.length_eq_zero_iff.mp (by omega), fun q => by rw [q]; rfl⟩
  refine ⟨fun q => ⟨fun q0 => (cl_canBeMade hL4 hQ).mono (fun y I5 _ _ gy => ?_), fun q0 => ⟨?_, e5, hx, w4⟩⟩, fun q => ⟨?_, e5, hx, w4⟩⟩
  · obtain ⟨rfl, rfl⟩ := gy
    have hne : ¬ setL (csq Z n) = [] := fun g => q0 (hl0.mpr g)
    refine ⟨fun q1 => ?_, fun q1 => ⟨?_, e5, hx, w4⟩⟩
    · have hcan := jI_p q1
      refine ⟨fun q30 => ⟨?_, e5, hx, w4⟩, fun q30 => ⟨?_, e5, hx, w4⟩⟩
      · unfold endAt
        rw [if_neg (fun g => g q), if_neg hne, if_neg (by have := hcan.2; omega), if_pos (by omega)]
      · unfold endAt
        rw [if_neg (fun g => g q), if_neg hne, if_neg (by have := hcan.2; omega), if_neg (by omega)]
    · have hno := jI_n q1
      unfold endAt
      rw [if_neg (fun g => g q), if_neg hne, if_pos ?_]
      rcases Int.lt_or_le 200 (csq Z n 2 + sumG (csq Z n) (setL (csq Z n))) with g | g
      · exact g
      · exact absurd ⟨hne, g⟩ hno
  · unfold endAt
    rw [if_neg (fun g => g q), if_pos (hl0.mp q0)]
  · unfold endAt
    rw [if_pos q]
def WJ (ι φ : Nat) (I I' : jM) : Prop := ∀ a j, ¬ (ι ≤ a ∧ a < ι + 158) → ¬ (φ ≤ a ∧ a < φ + 14) → I' a j = I a j
theorem WJ.trans {I I' I'' : jM} (h : WJ ι φ I I') (h' : WJ ι φ I' I'') : WJ ι φ I I'' := fun a j h1 h2 => (h' a j h1 h2).trans (h a j h1 h2)
theorem cl_travel (hm : WX3 G ι) (hφ : WX1 G φ) (hσ : WX7 G σ) (hρ : WX6 G ρ) (hd : ι + 158 ≤ φ ∨ φ + 14 ≤ ι) (hd1 : σ + 9 ≤ ι ∨ ι + 158 ≤ σ) (hd2 : σ + 9 ≤ φ ∨ φ + 14 ≤ σ) (hr1 : ρ + 13 ≤ ι ∨ ι + 158 ≤ ρ) (hr2 : ρ + 13 ≤ φ ∨ φ + 14 ≤ ρ) (hi : ι + 158 ≤ 1000) (hP : PG (σ + 1) Z I) (hR : RU ρ Z I) (h1 : I σ 1 = (ρ : Int)) (hS : SM σ Z I) (hW : BW c Z) (hc : c ≤ 900000) {on : Int} (hon : ∀ r, 0 ≤ r → r < Z 4 → (jand (jshr on r) 1 = 1 ↔ Z (515 + 40 * r) = 1)) : jRV E jB kX3_travel [VR ι, VR σ, VI on, VR φ] G I (fun I' => JO ι Z I' ∧ WJ ι φ I I') := by
  have h3 := hW.1.2.2.1
  have hRW := hW.1.2.1
  have hend30 : endAt Z 30 ≠ -1 := by
    unfold endAt
    split
    · decide
    · split
      · decide
      · split
        · decide
        · rw [if_pos rfl]; decide
  -- round by round
  have loop : ∀ (d n : Nat) (I1 : jM), n + d = 30 → I1 ι 4 = -1 → I1 ι 2 = n → I1 ι 3 = mdS Z n → (0 ≤ mdS Z n ∧ mdS Z n ≤ 20 * n) → (∀ k : Nat, k ≤ n → PG (pgA ι k) (csq Z k) I1) → (∀ k : Nat, k < n → I1 (ι + 2) k = rb (csq Z k)) → (∀ k : Nat, k ≤ n → BW (c + k) (csq Z k)) → crsF Z (30 - n) n = crN Z → WJ ι φ I I1 → jOV E jB kX3_travel 36 [VR ι, VR σ, VI on, VR φ, VI (n : Int)] G I1 (fun I' => JO ι Z I' ∧ WJ ι φ I I') := by
    intro d
    induction d with
    | zero =>
      intro n I1 hn e4 e2 e3 hmd hpg hrb hbw hcr hwj
      have en : n = 30 := by omega
      obtain ⟨g1, g2⟩ := pgA_w hm (n := n) (by omega)
      have hQ := (hbw n (Nat.le_refl n)).1
      have bp : ι + 3 ≤ pgA ι n ∧ pgA ι n + 5 ≤ ι + 158 := by unfold pgA; omega
      refine st_X3_travel_36 hm hσ hφ (fun _ _ _ => ⟨fun q => absurd q (by omega), fun _ => ⟨fun q => absurd e4 q, fun _ => ⟨⟨by omega, by omega⟩, pgA ι n, g1, g2, ?_⟩⟩⟩)
      have hRn : RU ρ (csq Z n) I1 := (hR.fr (fun a j a0 a1 => hwj a j (by omega) (by omega))).congr hRW (csq_eqR h3 n)
      have hSn : SM σ (csq Z n) I1 := (hS.congr (fun j hj => csq_o h3 n j (by omega) (by omega))).fr (fun a j q => hwj a j (by omega) (by omega))
      have h1n : I1 σ 1 = (ρ : Int) := by rw [hwj _ _ (by omega) (by omega)]; exact h1
      have e4n := csq_o h3 n 4 (by omega) (by omega)
      refine (cl_look hφ g2 hσ hρ hd2 (by omega) hr2 (by omega) (hpg n (Nat.le_refl n)) hRn h1n hSn hQ (hbw n (Nat.le_refl n)).yw (fun r r0 r1 => by rw [csq_o h3 n _ (by omega) (by omega)]; exact hon r r0 (by omega))).mono (fun I5 _ g5 => ?_)
      have hpg5 : ∀ k : Nat, k ≤ n → PG (pgA ι k) (csq Z k) I5 := fun k hk => (hpg k hk).of g5.2 (by unfold pgA; omega)
      refine (cl_endingOf hm hbw h3 (by omega) hpg5 g5.1 hd hr1).mono (fun x I6 _ _ g6 => ?_)
      obtain ⟨ex, e5, hfs, w6⟩ := g6
      intro M9 e9
      have hne : ¬ x = -1 := by rw [ex, en]; exact hend30
      refine ⟨fun _ => ⟨⟨by omega, by omega⟩, ?_⟩, fun q => absurd q hne⟩
      have ecr : crN Z = n := by rw [← hcr]; exact crsF_stop (by rw [← ex]; exact hne) _
      have k9 : ∀ a j, (a ≠ ι ∨ (j ≠ 4 ∧ j ≠ 5)) → M9 a j = I5 a j := fun a j ha => by
        have q : M9 a j = I6 a j := by
          rcases ha with ha | ha
          · exact jr_na e9 ha
          · exact jr_nj e9 ha.1
        rw [q]
        exact w6 a j (by omega)
      have k9' : ∀ a j, (a ≠ ι ∨ (j ≠ 4 ∧ j ≠ 5)) → (a < φ ∨ φ + 14 ≤ a) → M9 a j = I1 a j := fun a j ha hb => by rw [k9 a j ha]; exact g5.2 a j hb
      refine st_X3_travel_36 hm hσ hφ (fun _ _ _ => ⟨fun _ => ⟨?_, ?_⟩, fun _ => ⟨fun _ => ⟨?_, ?_⟩, fun q => absurd ((jr_eq e9).symm.trans q) hne⟩⟩)
      all_goals first
        | (rw [JO, ecr]
           refine ⟨⟨(k9' _ _ (by omega) (by omega)).trans e2, by omega⟩, ?_, ?_, (k9' _ _ (by omega) (by omega)).trans e3, fun k hk => (hpg5 k hk).fr (fun a j a0 a1 => k9 a j (Or.inl (by unfold pgA at a0; omega))), fun k hk => ?_, fun q => ?_⟩
           · rw [jr_eq e9, ex]
           · rw [jr_nj e9 (by decide)]; exact e5
           · rw [k9' _ _ (by omega) (by omega)]; exact hrb k hk
           · rcases hfs with g | g
             · exact absurd g.1 q
             · exact ⟨g.1, g.2.1⟩)
        | exact hwj.trans (fun a j a1 a2 => by rw [k9' a j (Or.inl (by omega)) (by omega)])
    | succ d ih =>
      intro n I1 hn e4 e2 e3 hmd hpg hrb hbw hcr hwj
      obtain ⟨g1, g2⟩ := pgA_w hm (n := n) (by omega)
      obtain ⟨g3, g4⟩ := pgA_w hm (n := n + 1) (by omega)
      have hQ := (hbw n (Nat.le_refl n)).1
      have bp : ι + 3 ≤ pgA ι n ∧ pgA ι n + 5 ≤ ι + 158 := by unfold pgA; omega
      have bp' : pgA ι (n + 1) = pgA ι n + 5 ∧ pgA ι (n + 1) + 5 ≤ ι + 158 := by unfold pgA; omega
      refine st_X3_travel_36 hm hσ hφ (fun _ _ _ => ⟨fun q => absurd q (by omega), fun _ => ⟨fun q => absurd e4 q, fun _ => ⟨⟨by omega, by omega⟩, pgA ι n, g1, g2, ?_⟩⟩⟩)
      have hRn : RU ρ (csq Z n) I1 := (hR.fr (fun a j a0 a1 => hwj a j (by omega) (by omega))).congr hRW (csq_eqR h3 n)
      have hSn : SM σ (csq Z n) I1 := (hS.congr (fun j hj => csq_o h3 n j (by omega) (by omega))).fr (fun a j q => hwj a j (by omega) (by omega))
      have h1n : I1 σ 1 = (ρ : Int) := by rw [hwj _ _ (by omega) (by omega)]; exact h1
      have e4n := csq_o h3 n 4 (by omega) (by omega)
      refine (cl_look hφ g2 hσ hρ hd2 (by omega) hr2 (by omega) (hpg n (Nat.le_refl n)) hRn h1n hSn hQ (hbw n (Nat.le_refl n)).yw (fun r r0 r1 => by rw [csq_o h3 n _ (by omega) (by omega)]; exact hon r r0 (by omega))).mono (fun I5 _ g5 => ?_)
      have hpg5 : ∀ k : Nat, k ≤ n → PG (pgA ι k) (csq Z k) I5 := fun k hk => (hpg k hk).of g5.2 (by unfold pgA; omega)
      refine (cl_endingOf hm hbw h3 (by omega) hpg5 g5.1 hd hr1).mono (fun x I6 _ _ g6 => ?_)
      obtain ⟨ex, e5, hfs, w6⟩ := g6
      intro M9 e9
      have k9 : ∀ a j, (a ≠ ι ∨ (j ≠ 4 ∧ j ≠ 5)) → M9 a j = I5 a j := fun a j ha => by
        have q : M9 a j = I6 a j := by
          rcases ha with ha | ha
          · exact jr_na e9 ha
          · exact jr_nj e9 ha.1
        rw [q]
        exact w6 a j (by omega)
      have k9' : ∀ a j, (a ≠ ι ∨ (j ≠ 4 ∧ j ≠ 5)) → (a < φ ∨ φ + 14 ≤ a) → M9 a j = I1 a j := fun a j ha hb => by rw [k9 a j ha]; exact g5.2 a j hb
      have hw9 : WJ ι φ I M9 := hwj.trans (fun a j a1 a2 => k9' a j (Or.inl (by omega)) (by omega))
      refine ⟨fun hne => ⟨⟨by omega, by omega⟩, ?_⟩, fun hgo => ⟨fun q => absurd q (by omega), fun _ => ⟨⟨by omega, by omega⟩, pgA ι (n + 1), ?_, g4, ?_⟩⟩⟩
      · have ecr : crN Z = n := by rw [← hcr]; exact crsF_stop (by rw [← ex]; exact hne) _
        refine st_X3_travel_36 hm hσ hφ (fun _ _ _ => ⟨fun _ => ⟨?_, hw9⟩, fun _ => ⟨fun _ => ⟨?_, hw9⟩, fun q => absurd ((jr_eq e9).symm.trans q) hne⟩⟩)
        all_goals
          rw [JO, ecr]
          refine ⟨⟨(k9' _ _ (by omega) (by omega)).trans e2, by omega⟩, ?_, ?_, (k9' _ _ (by omega) (by omega)).trans e3, fun k hk => (hpg5 k hk).fr (fun a j a0 a1 => k9 a j (Or.inl (by unfold pgA at a0; omega))), fun k hk => ?_, fun q => ?_⟩
          · rw [jr_eq e9, ex]
          · rw [jr_nj e9 (by decide)]; exact e5
          · rw [k9' _ _ (by omega) (by omega)]; exact hrb k hk
          · rcases hfs with g | g
            · exact absurd g.1 q
            · exact ⟨g.1, g.2.1⟩
      · rw [show (n : Int) + 1 = ((n + 1 : Nat) : Int) by omega]
        exact g3
      · -- a round is made
        have hgo' : endAt Z n = -1 := by rw [← ex]; exact hgo
        have hcan : canR (csq Z n) := by
          unfold endAt at hgo'
          split at hgo'
          · omega
          · split at hgo'
            · omega
            · split at hgo'
              · omega
              · exact ⟨by assumption, by omega⟩
        have hCh := setL_Ch hQ (FLok hQ)
        have hnl := newL_len _ _ _ hCh
        have hbn := hbw n (Nat.le_refl n)
        have sb := setL_bd hQ
        have hnew : (newL (csq Z n) (setL (csq Z n)) 0).length ≤ 200 := by have := hcan.2; omega
        have hL9 : LK G φ (pgA ι n) ρ (csq Z n) M9 := g5.1.fr (fun a j q => k9 a j (Or.inl (by omega)))
        rw [hL9.2.2.1]
        refine (cl_rewrite hL9 hQ g4 (by omega) (by omega) (by omega) (wX1_l14 hφ) (wX1_a14 hφ) (by decide) (by omega) hL9.2.2.2 (by omega) (by omega) hCh hnew (hbn.sp (by omega))).mono (fun I16 _ g16 => ?_)
        have hL16 : LK G φ (pgA ι n) ρ (csq Z n) I16 := hL9.wr g16.2 (by omega) (by omega) (by omega)
        refine (cl_pickedRules hL16 hQ).mono (fun y I17 _ _ gy => ?_)
        obtain ⟨rfl, rfl⟩ := gy
        refine ⟨⟨by omega, by omega⟩, fun M21 e21 => ?_⟩
        have k16 : ∀ a j, (a < pgA ι (n + 1) ∨ pgA ι (n + 1) + 5 ≤ a) → (a < φ ∨ φ + 14 ≤ a) → I17 a j = M9 a j := fun a j ha hb => g16.2 a j (by omega) (by omega) (by omega)
        have e3' : I17 ι 3 = mdS Z n := by rw [k16 _ _ (by omega) (by omega), k9' _ _ (by omega) (by omega)]; exact e3
        have e15 : M21 φ 15 = (setL (csq Z n)).length := by rw [jr_na e21 (by omega)]; exact hL16.2.2.1
        rw [e3', e15]
        refine ⟨⟨by omega, by omega⟩, fun M22 e22 => ⟨⟨by omega, by omega⟩, fun M24 e24 => ⟨⟨by omega, by omega⟩, ?_⟩⟩⟩
        have k24 : ∀ a j, a ≠ ι → a ≠ ι + 2 → M24 a j = I17 a j := fun a j a0 a2 => by rw [jr_na e24 a0, jr_na e22 a0, jr_na e21 a2]
        rw [show (n : Int) + 1 = ((n + 1 : Nat) : Int) by omega] at e24 ⊢
        have hmd' : mdS Z (n + 1) = mdS Z n + (setL (csq Z n)).length := rfl
        refine ih (n + 1) M24 (by omega) ?_ ?_ ?_ ?_ (fun k hk => ?_) (fun k hk => ?_) (fun k hk => ?_) ?_ ?_
        · rw [jr_nj e24 (by decide), jr_nj e22 (by decide), jr_na e21 (by omega), k16 _ _ (by omega) (by omega), jr_eq e9, hgo]
        · rw [jr_eq e24]
        · rw [jr_nj e24 (by decide), jr_eq e22, hmd']
        · rw [hmd']
          omega
        · by_cases q : k = n + 1
          · rw [q, csq_s]
            exact g16.1.fr (fun a j a0 a1 => k24 a j (by omega) (by omega))
          · have hk' : k ≤ n := by omega
            refine (hpg k hk').fr (fun a j a0 a1 => ?_)
            have b : ι + 3 ≤ pgA ι k ∧ pgA ι k + 5 ≤ pgA ι (n + 1) := by unfold pgA; omega
            rw [k24 a j (by omega) (by omega), k16 a j (by omega) (by omega), k9' a j (Or.inl (by omega)) (by omega)]
        · rw [jr_na e24 (by omega), jr_na e22 (by omega)]
          by_cases q : k = n
          · rw [q, jr_eq e21]
          · rw [jr_nj e21 (by omega), k16 _ _ (by omega) (by omega), k9' _ _ (Or.inl (by omega)) (by omega)]
            exact hrb k (by omega)
        · by_cases q : k = n + 1
          · rw [q, csq_s, show c + ((n + 1 : Nat) : Int) = c + n + 1 by omega]
            exact hbn.mk hCh hnew
          · exact hbw k (by omega)
        · rw [← hcr]
          exact (crsF_go hgo' (by omega)).symm
        · exact hw9.trans (fun a j a1 a2 => by rw [k24 a j (by omega) (by omega), k16 a j (by omega) (by omega)])
  obtain ⟨g1, g2⟩ := pgA_w hm (n := 0) (by omega)
  have b0 : ι + 3 ≤ pgA ι 0 ∧ pgA ι 0 + 5 ≤ ι + 158 := by unfold pgA; omega
  refine en_X3_travel hm hσ hφ (fun _ _ => ⟨⟨by omega, by omega⟩, pgA ι 0, g1, g2, ?_⟩)
  refine (cl_pageCopy g2 (wX7_o0 hσ) (by omega) hP).mono (fun I5 _ g5 M6 e6 M7 e7 M8 e8 M9 e9 => ?_)
  have k9 : ∀ a j, a ≠ ι → M9 a j = I5 a j := fun a j ha => by rw [jr_na e9 ha, jr_na e8 ha, jr_na e7 ha, jr_na e6 ha]
  have hbw0 : ∀ k : Nat, k ≤ 0 → BW (c + k) (csq Z k) := fun k hk => by
    have e : k = 0 := by omega
    subst e
    show BW (c + ((0 : Nat) : Int)) Z
    rw [show c + ((0 : Nat) : Int) = c by omega]
    exact hW
  refine loop 30 0 M9 (by omega) (jr_eq e9) ?_ ?_ (by show (0 : Int) ≤ 0 ∧ (0 : Int) ≤ 20 * ((0 : Nat) : Int); omega) (fun k hk => ?_) (fun k hk => absurd hk (Nat.not_lt_zero k)) hbw0 rfl (fun a j a1 a2 => ?_)
  · rw [jr_nj e9 (by decide), jr_nj e8 (by decide), jr_nj e7 (by decide), jr_eq e6]
    rfl
  · rw [jr_nj e9 (by decide), jr_nj e8 (by decide), jr_eq e7]
    rfl
  · have e : k = 0 := by omega
    subst e
    exact g5.1.fr (fun a j a0 a1 => k9 a j (by omega))
  · rw [k9 a j (by omega)]
    exact g5.2 a j (by omega)
theorem cl_pageBehind (hm : WX3 G ι) (h : JO ι Z I) {n : Int} (hn : 0 ≤ n) : jRA E jB kX3_pageBehind [VR ι, VI n] G I (fun a I' => a = pgA ι (bhR Z n) ∧ bhR Z n ≤ crN Z ∧ WX4 G a ∧ I' = I) := by
  have e2 := h.1.1
  have h30 := h.1.2
  have eb : ((bhR Z n : Nat) : Int) = max 0 (min n (I ι 2)) := by
    unfold bhR
    split <;> omega
  have hb : bhR Z n ≤ crN Z := by unfold bhR; split <;> omega
  refine en_X3_pageBehind hm (fun _ _ => ?_)
  rw [← eb]
  obtain ⟨g1, g2⟩ := pgA_w hm (n := bhR Z n) (by omega)
  exact ⟨⟨by omega, by omega⟩, pgA ι (bhR Z n), g1, g2, rfl, hb, g2, rfl⟩
theorem cl_rulesMade (hm : WX3 G ι) (h : JO ι Z I) {k : Nat} (hk : k ≤ crN Z) : jRI E jB kX3_rulesMade [VR ι, VI (k : Int)] G I (fun x I' => x = mfJ Z 0 k (crN Z - k) ∧ I' = I) := by
  have e2 := h.1.1
  have h30 := h.1.2
  have loop : ∀ (d j : Nat) (v : Int), j + d = crN Z → jOI E jB kX3_rulesMade 8 [VR ι, VI (k : Int), VI v, VI (j : Int)] G I (fun x I' => x = mfJ Z v j d ∧ I' = I) := by
    intro d
    induction d with
    | zero =>
      intro j v hj
      exact st_X3_rulesMade_8 hm (fun _ _ _ _ => ⟨fun _ => ⟨rfl, rfl⟩, fun q => absurd (by omega) q⟩)
    | succ d ih =>
      intro j v hj
      have er := h.2.2.2.2.2.1 j (by omega)
      refine st_X3_rulesMade_8 hm (fun _ _ _ _ => ⟨fun q => absurd q (by omega), fun _ => ⟨⟨by omega, by omega⟩, ⟨by omega, by omega⟩, ?_⟩⟩)
      rw [er, show (j : Int) + 1 = ((j + 1 : Nat) : Int) by omega]
      exact ih (j + 1) _ (by omega)
  refine en_X3_rulesMade hm (fun _ _ => ?_)
  rw [show max 0 (k : Int) = (k : Int) by omega]
  exact loop (crN Z - k) k 0 (by omega)
end CR
