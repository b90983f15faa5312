/-! ===== the reference: longThen, along, makeNow ===== -/
theorem gd_left {α : Type} {P Q : List α} {i : Nat} {d : α} (h : i < P.length) : (P ++ Q).getD i d = P.getD i d := by
  rw [List.getD_eq_getElem?_getD, List.getElem?_append_left h, ← List.getD_eq_getElem?_getD]
set_option maxRecDepth 20000 in
theorem st_X10_longThen_9 {E : jE} {G : jG} {I : jM} {q : Int → jM → Prop} {m : Nat} {x1 : Int} {x2 : Int} {x3 : Int} (hm : WX10 G m) (hT : (∀ a j, jRg (G.2.1 a).1 (I a j)) → jIn x1 → jIn x2 → jIn x3 → (((I m 17) ≤ x3 → q x2 I) ∧ (¬ (I m 17) ≤ x3 → ((¬ x1 = (-1) → ((¬ x3 = x1 → jIn (x3 + 1) ∧ jOI E (jA m) kX10_longThen 9 [VR m, VI x1, VI x2, VI (x3 + 1)] G I q) ∧ (x3 = x1 → ((0 : Int) ≤ x3 ∧ (x3 : Int) < 1200) ∧ ((0 : Int) ≤ x3 ∧ (x3 : Int) < 1200) ∧ ((0 : Int) ≤ x3 ∧ (x3 : Int) < 1200) ∧ jIn (x2 + ((I (m + 11) x3) - ((I (m + 9) x3) - (I (m + 8) x3)))) ∧ jIn (x3 + 1) ∧ jOI E (jA m) kX10_longThen 9 [VR m, VI x1, VI (x2 + ((I (m + 11) x3) - ((I (m + 9) x3) - (I (m + 8) x3)))), VI (x3 + 1)] G I q))) ∧ (x1 = (-1) → ((0 : Int) ≤ x3 ∧ (x3 : Int) < 1200) ∧ ((0 ≤ (I (m + 15) x3) ∧ (I (m + 15) x3) ≤ 1) → (((I (m + 15) x3) = 0 → jIn (x3 + 1) ∧ jOI E (jA m) kX10_longThen 9 [VR m, VI x1, VI x2, VI (x3 + 1)] G I q) ∧ (¬ (I (m + 15) x3) = 0 → ((0 : Int) ≤ x3 ∧ (x3 : Int) < 1200) ∧ ((0 : Int) ≤ x3 ∧ (x3 : Int) < 1200) ∧ ((0 : Int) ≤ x3 ∧ (x3 : Int) < 1200) ∧ jIn (x2 + ((I (m + 11) x3) - ((I (m + 9) x3) - (I (m + 8) x3)))) ∧ jIn (x3 + 1) ∧ jOI E (jA m) kX10_longThen 9 [VR m, VI x1, VI (x2 + ((I (m + 11) x3) - ((I (m + 9) x3) - (I (m + 8) x3)))), VI (x3 + 1)] G I q)))))))) : jOI E (jA m) kX10_longThen 9 [VR m, VI x1, VI x2, VI x3] G I q := by
  intro I0 hF
  refine jOk_mem (fun hI => ?_)
  refine jOk_in (i := 1) rfl (fun hx1 => ?_)
  refine jOk_in (i := 2) rfl (fun hx2 => ?_)
  refine jOk_in (i := 3) rfl (fun hx3 => ?_)
  replace hT := hT hI hx1 hx2 hx3
  refine r_iload_n dX10_longThen_9 rfl (i := 3) rfl ?_
  refine r_aload_n dX10_longThen_10 rfl (i := 0) rfl ?_
  refine rr_getI (v := I m 17) dX10_longThen_11 fg_X10_175 rfl (wX10_l hm) (wX10_s hm) rfl ?_
  refine r_icmp_ge (tgt := 68) dX10_longThen_14 rfl hx3 (hI _ _).inR (fun hcc => ?_) (fun hcc => ?_)
  · replace hT := hT.1 hcc
    refine r_iload_n dX10_longThen_68 rfl (i := 2) rfl ?_
    exact r_iret dX10_longThen_69 rfl hx2 ⟨Nat.zero_le _, Nat.zero_le _⟩ ⟨_, rfl, rfl, hF, hT⟩
  · replace hT := hT.2 hcc
    refine r_iload_n dX10_longThen_17 rfl (i := 1) rfl ?_
    refine r_iconst (n := (-1)) dX10_longThen_18 ?_
    refine r_icmp_ne (tgt := 34) dX10_longThen_19 rfl hx1 ⟨by decide, by decide⟩ (fun hcc => ?_) (fun hcc => ?_)
    · replace hT := hT.1 hcc
      refine r_iload_n dX10_longThen_34 rfl (i := 3) rfl ?_
      refine r_iload_n dX10_longThen_35 rfl (i := 1) rfl ?_
      refine r_icmp_ne (tgt := 62) dX10_longThen_36 rfl hx3 hx1 (fun hcc => ?_) (fun hcc => ?_)
      · replace hT := hT.1 hcc
        obtain ⟨hc1, hT⟩ := hT
        refine rr_iinc (i := 3) (ls' := [VR m, VI x1, VI x2, VI (x3 + 1)]) dX10_longThen_62 rfl (Nat.le_of_ble_eq_true rfl) rfl rfl hc1 ?_
        refine r_goto (tgt := 9) dX10_longThen_65 rfl ?_
        exact hT I0 hF
      · replace hT := hT.2 hcc
        refine r_iload_n dX10_longThen_39 rfl (i := 2) rfl ?_
        refine r_aload_n dX10_longThen_40 rfl (i := 0) rfl ?_
        refine rr_getR (b := (m + 11)) dX10_longThen_41 fg_X10_40 rfl rfl (wX10_l hm) (wX10_s hm) (wX10_r12 hm) ?_
        refine r_iload_n dX10_longThen_44 rfl (i := 3) rfl ?_
        obtain ⟨hc2, hT⟩ := hT
        refine rr_iaload (v := I (m + 11) x3) dX10_longThen_45 (wX10_l12 hm) (wX10_a12 hm) (by decide) hc2 rfl ?_
        refine r_aload_n dX10_longThen_46 rfl (i := 0) rfl ?_
        refine rr_getR (b := (m + 9)) dX10_longThen_47 fg_X10_34 rfl rfl (wX10_l hm) (wX10_s hm) (wX10_r10 hm) ?_
        refine r_iload_n dX10_longThen_50 rfl (i := 3) rfl ?_
        obtain ⟨hc3, hT⟩ := hT
        refine rr_iaload (v := I (m + 9) x3) dX10_longThen_51 (wX10_l10 hm) (wX10_a10 hm) (by decide) hc3 rfl ?_
        refine r_aload_n dX10_longThen_52 rfl (i := 0) rfl ?_
        refine rr_getR (b := (m + 8)) dX10_longThen_53 fg_X10_31 rfl rfl (wX10_l hm) (wX10_s hm) (wX10_r9 hm) ?_
        refine r_iload_n dX10_longThen_56 rfl (i := 3) rfl ?_
        obtain ⟨hc4, hT⟩ := hT
        refine rr_iaload (v := I (m + 8) x3) dX10_longThen_57 (wX10_l9 hm) (wX10_a9 hm) (by decide) hc4 rfl ?_
        refine r_isub dX10_longThen_58 ?_
        refine r_isub dX10_longThen_59 ?_
        refine r_iadd dX10_longThen_60 ?_
        obtain ⟨hc5, hT⟩ := hT
        refine rr_istore_n (i := 2) (ls' := [VR m, VI x1, VI (x2 + ((I (m + 11) x3) - ((I (m + 9) x3) - (I (m + 8) x3)))), VI x3]) dX10_longThen_61 rfl (Nat.le_of_ble_eq_true rfl) rfl rfl hc5 ?_
        obtain ⟨hc6, hT⟩ := hT
        refine rr_iinc (i := 3) (ls' := [VR m, VI x1, VI (x2 + ((I (m + 11) x3) - ((I (m + 9) x3) - (I (m + 8) x3)))), VI (x3 + 1)]) dX10_longThen_62 rfl (Nat.le_of_ble_eq_true rfl) rfl rfl hc6 ?_
        refine r_goto (tgt := 9) dX10_longThen_65 rfl ?_
        exact hT I0 hF
    · replace hT := hT.2 hcc
      refine r_aload_n dX10_longThen_22 rfl (i := 0) rfl ?_
      refine rr_getR (b := (m + 15)) dX10_longThen_23 fg_X10_53 rfl rfl (wX10_l hm) (wX10_s hm) (wX10_r16 hm) ?_
      refine r_iload_n dX10_longThen_26 rfl (i := 3) rfl ?_
      obtain ⟨hc7, hT⟩ := hT
      refine rr_zaload (v := I (m + 15) x3) dX10_longThen_27 (wX10_l16 hm) (wX10_a16 hm) (by decide) hc7 rfl (fun hr8 => ?_)
      replace hT := hT hr8
      refine r_if_eq (tgt := 62) dX10_longThen_28 rfl (hI _ _).inR (fun hcc => ?_) (fun hcc => ?_)
      · replace hT := hT.1 hcc
        obtain ⟨hc9, hT⟩ := hT
        refine rr_iinc (i := 3) (ls' := [VR m, VI x1, VI x2, VI (x3 + 1)]) dX10_longThen_62 rfl (Nat.le_of_ble_eq_true rfl) rfl rfl hc9 ?_
        refine r_goto (tgt := 9) dX10_longThen_65 rfl ?_
        exact hT I0 hF
      · replace hT := hT.2 hcc
        refine r_goto (tgt := 39) dX10_longThen_31 rfl ?_
        refine r_iload_n dX10_longThen_39 rfl (i := 2) rfl ?_
        refine r_aload_n dX10_longThen_40 rfl (i := 0) rfl ?_
        refine rr_getR (b := (m + 11)) dX10_longThen_41 fg_X10_40 rfl rfl (wX10_l hm) (wX10_s hm) (wX10_r12 hm) ?_
        refine r_iload_n dX10_longThen_44 rfl (i := 3) rfl ?_
        obtain ⟨hc10, hT⟩ := hT
        refine rr_iaload (v := I (m + 11) x3) dX10_longThen_45 (wX10_l12 hm) (wX10_a12 hm) (by decide) hc10 rfl ?_
        refine r_aload_n dX10_longThen_46 rfl (i := 0) rfl ?_
        refine rr_getR (b := (m + 9)) dX10_longThen_47 fg_X10_34 rfl rfl (wX10_l hm) (wX10_s hm) (wX10_r10 hm) ?_
        refine r_iload_n dX10_longThen_50 rfl (i := 3) rfl ?_
        obtain ⟨hc11, hT⟩ := hT
        refine rr_iaload (v := I (m + 9) x3) dX10_longThen_51 (wX10_l10 hm) (wX10_a10 hm) (by decide) hc11 rfl ?_
        refine r_aload_n dX10_longThen_52 rfl (i := 0) rfl ?_
        refine rr_getR (b := (m + 8)) dX10_longThen_53 fg_X10_31 rfl rfl (wX10_l hm) (wX10_s hm) (wX10_r9 hm) ?_
        refine r_iload_n dX10_longThen_56 rfl (i := 3) rfl ?_
        obtain ⟨hc12, hT⟩ := hT
        refine rr_iaload (v := I (m + 8) x3) dX10_longThen_57 (wX10_l9 hm) (wX10_a9 hm) (by decide) hc12 rfl ?_
        refine r_isub dX10_longThen_58 ?_
        refine r_isub dX10_longThen_59 ?_
        refine r_iadd dX10_longThen_60 ?_
        obtain ⟨hc13, hT⟩ := hT
        refine rr_istore_n (i := 2) (ls' := [VR m, VI x1, VI (x2 + ((I (m + 11) x3) - ((I (m + 9) x3) - (I (m + 8) x3)))), VI x3]) dX10_longThen_61 rfl (Nat.le_of_ble_eq_true rfl) rfl rfl hc13 ?_
        obtain ⟨hc14, hT⟩ := hT
        refine rr_iinc (i := 3) (ls' := [VR m, VI x1, VI (x2 + ((I (m + 11) x3) - ((I (m + 9) x3) - (I (m + 8) x3)))), VI (x3 + 1)]) dX10_longThen_62 rfl (Nat.le_of_ble_eq_true rfl) rfl rfl hc14 ?_
        refine r_goto (tgt := 9) dX10_longThen_65 rfl ?_
        exact hT I0 hF
set_option maxRecDepth 20000 in
theorem st_X10_longThen_0 {E : jE} {G : jG} {I : jM} {q : Int → jM → Prop} {m : Nat} {x1 : Int} (hm : WX10 G m) (hT : (∀ a j, jRg (G.2.1 a).1 (I a j)) → jIn x1 → jOI E (jA m) kX10_longThen 9 [VR m, VI x1, VI (I (m + 1) 2), VI 0] G I q) : jOI E (jA m) kX10_longThen 0 [VR m, VI x1, VN, VN] G I q := by
  intro I0 hF
  refine jOk_mem (fun hI => ?_)
  refine jOk_in (i := 1) rfl (fun hx1 => ?_)
  replace hT := hT hI hx1
  refine r_aload_n dX10_longThen_0 rfl (i := 0) rfl ?_
  refine rr_getR (b := (m + 1)) dX10_longThen_1 fg_X10_7 rfl rfl (wX10_l hm) (wX10_s hm) (wX10_r0 hm) ?_
  refine r_iconst (n := 2) dX10_longThen_4 ?_
  refine rr_iaload (v := I (m + 1) 2) dX10_longThen_5 (wX10_l0 hm) (wX10_a0 hm) (by decide) ⟨by decide, by decide⟩ rfl ?_
  refine rr_istore_n (i := 2) (ls' := [VR m, VI x1, VI (I (m + 1) 2), VN]) dX10_longThen_6 rfl (Nat.le_of_ble_eq_true rfl) rfl rfl (hI _ _).inR ?_
  refine r_iconst (n := 0) dX10_longThen_7 ?_
  refine rr_istore_n (i := 3) (ls' := [VR m, VI x1, VI (I (m + 1) 2), VI 0]) dX10_longThen_8 rfl (Nat.le_of_ble_eq_true rfl) rfl rfl ⟨by decide, by decide⟩ ?_
  exact hT I0 hF
theorem en_X10_longThen {E : jE} {G : jG} {I : jM} {q : Int → jM → Prop} {m : Nat} {x1 : Int} (hm : WX10 G m) (hT : (∀ a j, jRg (G.2.1 a).1 (I a j)) → jIn x1 → jOI E (jA m) kX10_longThen 9 [VR m, VI x1, VI (I (m + 1) 2), VI 0] G I q) : jRI E (jA m) kX10_longThen [VR m, VI x1] G I q := jRun.of mt_X10_longThen.2.2.2 2 rfl (fun _ => st_X10_longThen_0 hm hT I (fun _ _ => rfl))
set_option maxRecDepth 20000 in
theorem st_X10_along_5 {E : jE} {G : jG} {I : jM} {q : Int → jM → Prop} {m : Nat} {x1 : Int} {x2 : Int} {x3 : Int} {x4 : Int} (hm : WX10 G m) (hT : (∀ a j, jRg (G.2.1 a).1 (I a j)) → jIn x1 → jIn x2 → jIn x3 → jIn x4 → (((I m 17) ≤ x4 → q x3 I) ∧ (¬ (I m 17) ≤ x4 → ((¬ x2 = (-1) → ((¬ x4 = x2 → jIn (x4 + 1) ∧ jOI E (jA m) kX10_along 5 [VR m, VI x1, VI x2, VI x3, VI (x4 + 1)] G I q) ∧ (x4 = x2 → ((0 : Int) ≤ x4 ∧ (x4 : Int) < 1200) ∧ ((x1 < (I (m + 9) x4) → jIn (x4 + 1) ∧ jOI E (jA m) kX10_along 5 [VR m, VI x1, VI x2, VI x3, VI (x4 + 1)] G I q) ∧ (¬ x1 < (I (m + 9) x4) → ((0 : Int) ≤ x4 ∧ (x4 : Int) < 1200) ∧ ((0 : Int) ≤ x4 ∧ (x4 : Int) < 1200) ∧ ((0 : Int) ≤ x4 ∧ (x4 : Int) < 1200) ∧ jIn (x3 + ((I (m + 11) x4) - ((I (m + 9) x4) - (I (m + 8) x4)))) ∧ jIn (x4 + 1) ∧ jOI E (jA m) kX10_along 5 [VR m, VI x1, VI x2, VI (x3 + ((I (m + 11) x4) - ((I (m + 9) x4) - (I (m + 8) x4)))), VI (x4 + 1)] G I q))))) ∧ (x2 = (-1) → ((0 : Int) ≤ x4 ∧ (x4 : Int) < 1200) ∧ ((0 ≤ (I (m + 15) x4) ∧ (I (m + 15) x4) ≤ 1) → (((I (m + 15) x4) = 0 → jIn (x4 + 1) ∧ jOI E (jA m) kX10_along 5 [VR m, VI x1, VI x2, VI x3, VI (x4 + 1)] G I q) ∧ (¬ (I (m + 15) x4) = 0 → ((0 : Int) ≤ x4 ∧ (x4 : Int) < 1200) ∧ ((x1 < (I (m + 9) x4) → jIn (x4 + 1) ∧ jOI E (jA m) kX10_along 5 [VR m, VI x1, VI x2, VI x3, VI (x4 + 1)] G I q) ∧ (¬ x1 < (I (m + 9) x4) → ((0 : Int) ≤ x4 ∧ (x4 : Int) < 1200) ∧ ((0 : Int) ≤ x4 ∧ (x4 : Int) < 1200) ∧ ((0 : Int) ≤ x4 ∧ (x4 : Int) < 1200) ∧ jIn (x3 + ((I (m + 11) x4) - ((I (m + 9) x4) - (I (m + 8) x4)))) ∧ jIn (x4 + 1) ∧ jOI E (jA m) kX10_along 5 [VR m, VI x1, VI x2, VI (x3 + ((I (m + 11) x4) - ((I (m + 9) x4) - (I (m + 8) x4)))), VI (x4 + 1)] G I q)))))))))) : jOI E (jA m) kX10_along 5 [VR m, VI x1, VI x2, VI x3, VI x4] G I q := by
  intro I0 hF
  refine jOk_mem (fun hI => ?_)
  refine jOk_in (i := 1) rfl (fun hx1 => ?_)
  refine jOk_in (i := 2) rfl (fun hx2 => ?_)
  refine jOk_in (i := 3) rfl (fun hx3 => ?_)
  refine jOk_in (i := 4) rfl (fun hx4 => ?_)
  replace hT := hT hI hx1 hx2 hx3 hx4
  refine r_iload dX10_along_5 (i := 4) rfl ?_
  refine r_aload_n dX10_along_7 rfl (i := 0) rfl ?_
  refine rr_getI (v := I m 17) dX10_along_8 fg_X10_175 rfl (wX10_l hm) (wX10_s hm) rfl ?_
  refine r_icmp_ge (tgt := 81) dX10_along_11 rfl hx4 (hI _ _).inR (fun hcc => ?_) (fun hcc => ?_)
  · replace hT := hT.1 hcc
    refine r_iload_n dX10_along_81 rfl (i := 3) rfl ?_
    exact r_iret dX10_along_82 rfl hx3 ⟨Nat.zero_le _, Nat.zero_le _⟩ ⟨_, rfl, rfl, hF, hT⟩
  · replace hT := hT.2 hcc
    refine r_iload_n dX10_along_14 rfl (i := 2) rfl ?_
    refine r_iconst (n := (-1)) dX10_along_15 ?_
    refine r_icmp_ne (tgt := 32) dX10_along_16 rfl hx2 ⟨by decide, by decide⟩ (fun hcc => ?_) (fun hcc => ?_)
    · replace hT := hT.1 hcc
      refine r_iload dX10_along_32 (i := 4) rfl ?_
      refine r_iload_n dX10_along_34 rfl (i := 2) rfl ?_
      refine r_icmp_ne (tgt := 75) dX10_along_35 rfl hx4 hx2 (fun hcc => ?_) (fun hcc => ?_)
      · replace hT := hT.1 hcc
        obtain ⟨hc1, hT⟩ := hT
        refine rr_iinc (i := 4) (ls' := [VR m, VI x1, VI x2, VI x3, VI (x4 + 1)]) dX10_along_75 rfl (Nat.le_of_ble_eq_true rfl) rfl rfl hc1 ?_
        refine r_goto (tgt := 5) dX10_along_78 rfl ?_
        exact hT I0 hF
      · replace hT := hT.2 hcc
        refine r_aload_n dX10_along_38 rfl (i := 0) rfl ?_
        refine rr_getR (b := (m + 9)) dX10_along_39 fg_X10_34 rfl rfl (wX10_l hm) (wX10_s hm) (wX10_r10 hm) ?_
        refine r_iload dX10_along_42 (i := 4) rfl ?_
        obtain ⟨hc2, hT⟩ := hT
        refine rr_iaload (v := I (m + 9) x4) dX10_along_44 (wX10_l10 hm) (wX10_a10 hm) (by decide) hc2 rfl ?_
        refine r_iload_n dX10_along_45 rfl (i := 1) rfl ?_
        refine r_icmp_gt (tgt := 75) dX10_along_46 rfl (hI _ _).inR hx1 (fun hcc => ?_) (fun hcc => ?_)
        · replace hT := hT.1 hcc
          obtain ⟨hc3, hT⟩ := hT
          refine rr_iinc (i := 4) (ls' := [VR m, VI x1, VI x2, VI x3, VI (x4 + 1)]) dX10_along_75 rfl (Nat.le_of_ble_eq_true rfl) rfl rfl hc3 ?_
          refine r_goto (tgt := 5) dX10_along_78 rfl ?_
          exact hT I0 hF
        · replace hT := hT.2 hcc
          refine r_iload_n dX10_along_49 rfl (i := 3) rfl ?_
          refine r_aload_n dX10_along_50 rfl (i := 0) rfl ?_
          refine rr_getR (b := (m + 11)) dX10_along_51 fg_X10_40 rfl rfl (wX10_l hm) (wX10_s hm) (wX10_r12 hm) ?_
          refine r_iload dX10_along_54 (i := 4) rfl ?_
          obtain ⟨hc4, hT⟩ := hT
          refine rr_iaload (v := I (m + 11) x4) dX10_along_56 (wX10_l12 hm) (wX10_a12 hm) (by decide) hc4 rfl ?_
          refine r_aload_n dX10_along_57 rfl (i := 0) rfl ?_
          refine rr_getR (b := (m + 9)) dX10_along_58 fg_X10_34 rfl rfl (wX10_l hm) (wX10_s hm) (wX10_r10 hm) ?_
          refine r_iload dX10_along_61 (i := 4) rfl ?_
          obtain ⟨hc5, hT⟩ := hT
          refine rr_iaload (v := I (m + 9) x4) dX10_along_63 (wX10_l10 hm) (wX10_a10 hm) (by decide) hc5 rfl ?_
          refine r_aload_n dX10_along_64 rfl (i := 0) rfl ?_
          refine rr_getR (b := (m + 8)) dX10_along_65 fg_X10_31 rfl rfl (wX10_l hm) (wX10_s hm) (wX10_r9 hm) ?_
          refine r_iload dX10_along_68 (i := 4) rfl ?_
          obtain ⟨hc6, hT⟩ := hT
          refine rr_iaload (v := I (m + 8) x4) dX10_along_70 (wX10_l9 hm) (wX10_a9 hm) (by decide) hc6 rfl ?_
          refine r_isub dX10_along_71 ?_
          refine r_isub dX10_along_72 ?_
          refine r_iadd dX10_along_73 ?_
          obtain ⟨hc7, hT⟩ := hT
          refine rr_istore_n (i := 3) (ls' := [VR m, VI x1, VI x2, VI (x3 + ((I (m + 11) x4) - ((I (m + 9) x4) - (I (m + 8) x4)))), VI x4]) dX10_along_74 rfl (Nat.le_of_ble_eq_true rfl) rfl rfl hc7 ?_
          obtain ⟨hc8, hT⟩ := hT
          refine rr_iinc (i := 4) (ls' := [VR m, VI x1, VI x2, VI (x3 + ((I (m + 11) x4) - ((I (m + 9) x4) - (I (m + 8) x4)))), VI (x4 + 1)]) dX10_along_75 rfl (Nat.le_of_ble_eq_true rfl) rfl rfl hc8 ?_
          refine r_goto (tgt := 5) dX10_along_78 rfl ?_
          exact hT I0 hF
    · replace hT := hT.2 hcc
      refine r_aload_n dX10_along_19 rfl (i := 0) rfl ?_
      refine rr_getR (b := (m + 15)) dX10_along_20 fg_X10_53 rfl rfl (wX10_l hm) (wX10_s hm) (wX10_r16 hm) ?_
      refine r_iload dX10_along_23 (i := 4) rfl ?_
      obtain ⟨hc9, hT⟩ := hT
      refine rr_zaload (v := I (m + 15) x4) dX10_along_25 (wX10_l16 hm) (wX10_a16 hm) (by decide) hc9 rfl (fun hr10 => ?_)
      replace hT := hT hr10
      refine r_if_eq (tgt := 75) dX10_along_26 rfl (hI _ _).inR (fun hcc => ?_) (fun hcc => ?_)
      · replace hT := hT.1 hcc
        obtain ⟨hc11, hT⟩ := hT
        refine rr_iinc (i := 4) (ls' := [VR m, VI x1, VI x2, VI x3, VI (x4 + 1)]) dX10_along_75 rfl (Nat.le_of_ble_eq_true rfl) rfl rfl hc11 ?_
        refine r_goto (tgt := 5) dX10_along_78 rfl ?_
        exact hT I0 hF
      · replace hT := hT.2 hcc
        refine r_goto (tgt := 38) dX10_along_29 rfl ?_
        refine r_aload_n dX10_along_38 rfl (i := 0) rfl ?_
        refine rr_getR (b := (m + 9)) dX10_along_39 fg_X10_34 rfl rfl (wX10_l hm) (wX10_s hm) (wX10_r10 hm) ?_
        refine r_iload dX10_along_42 (i := 4) rfl ?_
        obtain ⟨hc12, hT⟩ := hT
        refine rr_iaload (v := I (m + 9) x4) dX10_along_44 (wX10_l10 hm) (wX10_a10 hm) (by decide) hc12 rfl ?_
        refine r_iload_n dX10_along_45 rfl (i := 1) rfl ?_
        refine r_icmp_gt (tgt := 75) dX10_along_46 rfl (hI _ _).inR hx1 (fun hcc => ?_) (fun hcc => ?_)
        · replace hT := hT.1 hcc
          obtain ⟨hc13, hT⟩ := hT
          refine rr_iinc (i := 4) (ls' := [VR m, VI x1, VI x2, VI x3, VI (x4 + 1)]) dX10_along_75 rfl (Nat.le_of_ble_eq_true rfl) rfl rfl hc13 ?_
          refine r_goto (tgt := 5) dX10_along_78 rfl ?_
          exact hT I0 hF
        · replace hT := hT.2 hcc
          refine r_iload_n dX10_along_49 rfl (i := 3) rfl ?_
          refine r_aload_n dX10_along_50 rfl (i := 0) rfl ?_
          refine rr_getR (b := (m + 11)) dX10_along_51 fg_X10_40 rfl rfl (wX10_l hm) (wX10_s hm) (wX10_r12 hm) ?_
          refine r_iload dX10_along_54 (i := 4) rfl ?_
          obtain ⟨hc14, hT⟩ := hT
          refine rr_iaload (v := I (m + 11) x4) dX10_along_56 (wX10_l12 hm) (wX10_a12 hm) (by decide) hc14 rfl ?_
          refine r_aload_n dX10_along_57 rfl (i := 0) rfl ?_
          refine rr_getR (b := (m + 9)) dX10_along_58 fg_X10_34 rfl rfl (wX10_l hm) (wX10_s hm) (wX10_r10 hm) ?_
          refine r_iload dX10_along_61 (i := 4) rfl ?_
          obtain ⟨hc15, hT⟩ := hT
          refine rr_iaload (v := I (m + 9) x4) dX10_along_63 (wX10_l10 hm) (wX10_a10 hm) (by decide) hc15 rfl ?_
          refine r_aload_n dX10_along_64 rfl (i := 0) rfl ?_
          refine rr_getR (b := (m + 8)) dX10_along_65 fg_X10_31 rfl rfl (wX10_l hm) (wX10_s hm) (wX10_r9 hm) ?_
          refine r_iload dX10_along_68 (i := 4) rfl ?_
          obtain ⟨hc16, hT⟩ := hT
          refine rr_iaload (v := I (m + 8) x4) dX10_along_70 (wX10_l9 hm) (wX10_a9 hm) (by decide) hc16 rfl ?_
          refine r_isub dX10_along_71 ?_
          refine r_isub dX10_along_72 ?_
          refine r_iadd dX10_along_73 ?_
          obtain ⟨hc17, hT⟩ := hT
          refine rr_istore_n (i := 3) (ls' := [VR m, VI x1, VI x2, VI (x3 + ((I (m + 11) x4) - ((I (m + 9) x4) - (I (m + 8) x4)))), VI x4]) dX10_along_74 rfl (Nat.le_of_ble_eq_true rfl) rfl rfl hc17 ?_
          obtain ⟨hc18, hT⟩ := hT
          refine rr_iinc (i := 4) (ls' := [VR m, VI x1, VI x2, VI (x3 + ((I (m + 11) x4) - ((I (m + 9) x4) - (I (m + 8) x4)))), VI (x4 + 1)]) dX10_along_75 rfl (Nat.le_of_ble_eq_true rfl) rfl rfl hc18 ?_
          refine r_goto (tgt := 5) dX10_along_78 rfl ?_
          exact hT I0 hF
set_option maxRecDepth 20000 in
theorem st_X10_along_0 {E : jE} {G : jG} {I : jM} {q : Int → jM → Prop} {m : Nat} {x1 : Int} {x2 : Int} (hm : WX10 G m) (hT : (∀ a j, jRg (G.2.1 a).1 (I a j)) → jIn x1 → jIn x2 → jOI E (jA m) kX10_along 5 [VR m, VI x1, VI x2, VI x1, VI 0] G I q) : jOI E (jA m) kX10_along 0 [VR m, VI x1, VI x2, VN, VN] G I q := by
  intro I0 hF
  refine jOk_mem (fun hI => ?_)
  refine jOk_in (i := 1) rfl (fun hx1 => ?_)
  refine jOk_in (i := 2) rfl (fun hx2 => ?_)
  replace hT := hT hI hx1 hx2
  refine r_iload_n dX10_along_0 rfl (i := 1) rfl ?_
  refine rr_istore_n (i := 3) (ls' := [VR m, VI x1, VI x2, VI x1, VN]) dX10_along_1 rfl (Nat.le_of_ble_eq_true rfl) rfl rfl hx1 ?_
  refine r_iconst (n := 0) dX10_along_2 ?_
  refine rr_istore (i := 4) (ls' := [VR m, VI x1, VI x2, VI x1, VI 0]) dX10_along_3 (Nat.le_of_ble_eq_true rfl) rfl rfl ⟨by decide, by decide⟩ ?_
  exact hT I0 hF
theorem en_X10_along {E : jE} {G : jG} {I : jM} {q : Int → jM → Prop} {m : Nat} {x1 : Int} {x2 : Int} (hm : WX10 G m) (hT : (∀ a j, jRg (G.2.1 a).1 (I a j)) → jIn x1 → jIn x2 → jOI E (jA m) kX10_along 5 [VR m, VI x1, VI x2, VI x1, VI 0] G I q) : jRI E (jA m) kX10_along [VR m, VI x1, VI x2] G I q := jRun.of mt_X10_along.2.2.2 2 rfl (fun _ => st_X10_along_0 hm hT I (fun _ _ => rfl))
set_option maxRecDepth 20000 in
theorem st_X10_writeNew_0 {E : jE} {G : jG} {I : jM} {q : jM → Prop} {m : Nat} {x1 : Int} {x2 : Int} (hm : WX10 G m) (hT : (∀ a j, jRg (G.2.1 a).1 (I a j)) → jIn x1 → jIn x2 → ((0 : Int) ≤ (I m 24) ∧ ((I m 24) : Int) < 200) ∧ (∀ M2, M2 = jup I (m + 18) (I m 24) x1 → ((0 : Int) ≤ (I m 24) ∧ ((I m 24) : Int) < 200) ∧ (∀ M4, M4 = jup M2 (m + 19) (I m 24) x2 → jIn ((I m 24) + 1) ∧ (∀ M5, M5 = jup M4 m 24 ((I m 24) + 1) → q M5)))) : jOV E (jA m) kX10_writeNew 0 [VR m, VI x1, VI x2] G I q := by
  intro I0 hF
  refine jOk_mem (fun hI => ?_)
  refine jOk_in (i := 1) rfl (fun hx1 => ?_)
  refine jOk_in (i := 2) rfl (fun hx2 => ?_)
  replace hT := hT hI hx1 hx2
  refine r_aload_n dX10_writeNew_0 rfl (i := 0) rfl ?_
  refine rr_getR (b := (m + 18)) dX10_writeNew_1 fg_X10_62 rfl rfl (wX10_l hm) (wX10_s hm) (wX10_r22 hm) ?_
  refine r_aload_n dX10_writeNew_4 rfl (i := 0) rfl ?_
  refine rr_getI (v := I m 24) dX10_writeNew_5 fg_X10_217 rfl (wX10_l hm) (wX10_s hm) rfl ?_
  refine r_iload_n dX10_writeNew_8 rfl (i := 1) rfl ?_
  obtain ⟨hc1, hT⟩ := hT
  refine rr_iastore dX10_writeNew_9 (wX10_l22 hm) (wX10_a22 hm) (by decide) hc1 hx1 (fun M2 eM2 => ?_)
  have hFM2 := jFr_up hF eM2 (wX10_f hm 18 (by decide))
  replace hT := hT M2 eM2
  refine jOk_mem (fun hIM2 => ?_)
  refine r_aload_n dX10_writeNew_10 rfl (i := 0) rfl ?_
  refine rr_getR (b := (m + 19)) dX10_writeNew_11 fg_X10_65 rfl rfl (wX10_l hm) (wX10_s hm) (wX10_r23 hm) ?_
  refine r_aload_n dX10_writeNew_14 rfl (i := 0) rfl ?_
  refine rr_getI (v := I m 24) dX10_writeNew_15 fg_X10_217 rfl (wX10_l hm) (wX10_s hm) (jr_na eM2 (by omega)) ?_
  refine r_iload_n dX10_writeNew_18 rfl (i := 2) rfl ?_
  obtain ⟨hc3, hT⟩ := hT
  refine rr_iastore dX10_writeNew_19 (wX10_l23 hm) (wX10_a23 hm) (by decide) hc3 hx2 (fun M4 eM4 => ?_)
  have hFM4 := jFr_up hFM2 eM4 (wX10_f hm 19 (by decide))
  replace hT := hT M4 eM4
  refine jOk_mem (fun hIM4 => ?_)
  refine r_aload_n dX10_writeNew_20 rfl (i := 0) rfl ?_
  refine r_dup dX10_writeNew_21 rfl ?_
  refine rr_getI (v := I m 24) dX10_writeNew_22 fg_X10_217 rfl (wX10_l hm) (wX10_s hm) ((jr_na eM4 (by omega)).trans (jr_na eM2 (by omega))) ?_
  refine r_iconst (n := 1) dX10_writeNew_25 ?_
  refine r_iadd dX10_writeNew_26 ?_
  obtain ⟨hc6, hT⟩ := hT
  refine rr_putI (jj := 24) dX10_writeNew_27 fp_X10_217 rfl rfl (wX10_l hm) (wX10_s hm) hc6 (fun M5 eM5 => ?_)
  have hFM5 := jFr_up hFM4 eM5 (wX10_f hm 0 (by decide))
  replace hT := hT M5 eM5
  refine jOk_mem (fun hIM5 => ?_)
  exact r_vret dX10_writeNew_30 rfl ⟨Nat.zero_le _, Nat.zero_le _⟩ ⟨rfl, rfl, hFM5, hT⟩
theorem en_X10_writeNew {E : jE} {G : jG} {I : jM} {q : jM → Prop} {m : Nat} {x1 : Int} {x2 : Int} (hm : WX10 G m) (hT : (∀ a j, jRg (G.2.1 a).1 (I a j)) → jIn x1 → jIn x2 → ((0 : Int) ≤ (I m 24) ∧ ((I m 24) : Int) < 200) ∧ (∀ M2, M2 = jup I (m + 18) (I m 24) x1 → ((0 : Int) ≤ (I m 24) ∧ ((I m 24) : Int) < 200) ∧ (∀ M4, M4 = jup M2 (m + 19) (I m 24) x2 → jIn ((I m 24) + 1) ∧ (∀ M5, M5 = jup M4 m 24 ((I m 24) + 1) → q M5)))) : jRV E (jA m) kX10_writeNew [VR m, VI x1, VI x2] G I q := jRun.of mt_X10_writeNew.2.2.2 0 rfl (fun _ => st_X10_writeNew_0 hm hT I (fun _ _ => rfl))
set_option maxRecDepth 20000 in
theorem st_X10_makeNow_267 {E : jE} {G : jG} {I : jM} {q : jM → Prop} {m : Nat} {x1 : Int} {x2 : Int} {x3 : Int} (hm : WX10 G m) (hT : (∀ a j, jRg (G.2.1 a).1 (I a j)) → jIn x1 → jIn x2 → jIn x3 → ((200 ≤ x3 → q I) ∧ (¬ 200 ≤ x3 → (((I m 24) ≤ x3 → ((0 : Int) ≤ (10 + x3) ∧ ((10 + x3) : Int) < 22094) ∧ (∀ M2, M2 = jup I (m + 1) (10 + x3) 0 → (((I m 24) ≤ x3 → ((0 : Int) ≤ (210 + x3) ∧ ((210 + x3) : Int) < 22094) ∧ (∀ M4, M4 = jup M2 (m + 1) (210 + x3) 0 → jIn (x3 + 1) ∧ jOV E (jA m) kX10_makeNow 267 [VR m, VI x1, VI x2, VI (x3 + 1), VN] G M4 q)) ∧ (¬ (I m 24) ≤ x3 → ((0 : Int) ≤ x3 ∧ (x3 : Int) < 200) ∧ ((0 : Int) ≤ (210 + x3) ∧ ((210 + x3) : Int) < 22094) ∧ (∀ M8, M8 = jup M2 (m + 1) (210 + x3) (I (m + 19) x3) → jIn (x3 + 1) ∧ jOV E (jA m) kX10_makeNow 267 [VR m, VI x1, VI x2, VI (x3 + 1), VN] G M8 q))))) ∧ (¬ (I m 24) ≤ x3 → ((0 : Int) ≤ x3 ∧ (x3 : Int) < 200) ∧ ((0 : Int) ≤ (10 + x3) ∧ ((10 + x3) : Int) < 22094) ∧ (∀ M12, M12 = jup I (m + 1) (10 + x3) (I (m + 18) x3) → (((I m 24) ≤ x3 → ((0 : Int) ≤ (210 + x3) ∧ ((210 + x3) : Int) < 22094) ∧ (∀ M14, M14 = jup M12 (m + 1) (210 + x3) 0 → jIn (x3 + 1) ∧ jOV E (jA m) kX10_makeNow 267 [VR m, VI x1, VI x2, VI (x3 + 1), VN] G M14 q)) ∧ (¬ (I m 24) ≤ x3 → ((0 : Int) ≤ x3 ∧ (x3 : Int) < 200) ∧ ((0 : Int) ≤ (210 + x3) ∧ ((210 + x3) : Int) < 22094) ∧ (∀ M18, M18 = jup M12 (m + 1) (210 + x3) (I (m + 19) x3) → jIn (x3 + 1) ∧ jOV E (jA m) kX10_makeNow 267 [VR m, VI x1, VI x2, VI (x3 + 1), VN] G M18 q))))))))) : jOV E (jA m) kX10_makeNow 267 [VR m, VI x1, VI x2, VI x3, VN] G I q := by
  intro I0 hF
  refine jOk_mem (fun hI => ?_)
  refine jOk_in (i := 1) rfl (fun hx1 => ?_)
  refine jOk_in (i := 2) rfl (fun hx2 => ?_)
  refine jOk_in (i := 3) rfl (fun hx3 => ?_)
  replace hT := hT hI hx1 hx2 hx3
  refine r_iload_n dX10_makeNow_267 rfl (i := 3) rfl ?_
  refine r_sipush (n := 200) dX10_makeNow_268 (by decide +kernel) ?_
  refine r_icmp_ge (tgt := 335) dX10_makeNow_271 rfl hx3 ⟨by decide, by decide⟩ (fun hcc => ?_) (fun hcc => ?_)
  · replace hT := hT.1 hcc
    exact r_vret dX10_makeNow_335 rfl ⟨Nat.zero_le _, Nat.zero_le _⟩ ⟨rfl, rfl, hF, hT⟩
  · replace hT := hT.2 hcc
    refine r_aload_n dX10_makeNow_274 rfl (i := 0) rfl ?_
    refine rr_getR (b := (m + 1)) dX10_makeNow_275 fg_X10_7 rfl rfl (wX10_l hm) (wX10_s hm) (wX10_r0 hm) ?_
    refine r_bipush (n := 10) dX10_makeNow_278 (by decide +kernel) ?_
    refine r_iload_n dX10_makeNow_280 rfl (i := 3) rfl ?_
    refine r_iadd dX10_makeNow_281 ?_
    refine r_iload_n dX10_makeNow_282 rfl (i := 3) rfl ?_
    refine r_aload_n dX10_makeNow_283 rfl (i := 0) rfl ?_
    refine rr_getI (v := I m 24) dX10_makeNow_284 fg_X10_217 rfl (wX10_l hm) (wX10_s hm) rfl ?_
    refine r_icmp_ge (tgt := 299) dX10_makeNow_287 rfl hx3 (hI _ _).inR (fun hcc => ?_) (fun hcc => ?_)
    · replace hT := hT.1 hcc
      refine r_iconst (n := 0) dX10_makeNow_299 ?_
      obtain ⟨hc1, hT⟩ := hT
      refine rr_iastore dX10_makeNow_300 (wX10_l0 hm) (wX10_a0 hm) (by decide) hc1 ⟨by decide, by decide⟩ (fun M2 eM2 => ?_)
      have hFM2 := jFr_up hF eM2 (wX10_f hm 1 (by decide))
      replace hT := hT M2 eM2
      refine jOk_mem (fun hIM2 => ?_)
      refine r_aload_n dX10_makeNow_301 rfl (i := 0) rfl ?_
      refine rr_getR (b := (m + 1)) dX10_makeNow_302 fg_X10_7 rfl rfl (wX10_l hm) (wX10_s hm) (wX10_r0 hm) ?_
      refine r_sipush (n := 210) dX10_makeNow_305 (by decide +kernel) ?_
      refine r_iload_n dX10_makeNow_308 rfl (i := 3) rfl ?_
      refine r_iadd dX10_makeNow_309 ?_
      refine r_iload_n dX10_makeNow_310 rfl (i := 3) rfl ?_
      refine r_aload_n dX10_makeNow_311 rfl (i := 0) rfl ?_
      refine rr_getI (v := I m 24) dX10_makeNow_312 fg_X10_217 rfl (wX10_l hm) (wX10_s hm) (jr_na eM2 (by omega)) ?_
      refine r_icmp_ge (tgt := 327) dX10_makeNow_315 rfl hx3 (hI _ _).inR (fun hcc => ?_) (fun hcc => ?_)
      · replace hT := hT.1 hcc
        refine r_iconst (n := 0) dX10_makeNow_327 ?_
        obtain ⟨hc3, hT⟩ := hT
        refine rr_iastore dX10_makeNow_328 (wX10_l0 hm) (wX10_a0 hm) (by decide) hc3 ⟨by decide, by decide⟩ (fun M4 eM4 => ?_)
        have hFM4 := jFr_up hFM2 eM4 (wX10_f hm 1 (by decide))
        replace hT := hT M4 eM4
        refine jOk_mem (fun hIM4 => ?_)
        obtain ⟨hc5, hT⟩ := hT
        refine rr_iinc (i := 3) (ls' := [VR m, VI x1, VI x2, VI (x3 + 1), VN]) dX10_makeNow_329 rfl (Nat.le_of_ble_eq_true rfl) rfl rfl hc5 ?_
        refine r_goto (tgt := 267) dX10_makeNow_332 rfl ?_
        exact hT I0 hFM4
      · replace hT := hT.2 hcc
        refine r_aload_n dX10_makeNow_318 rfl (i := 0) rfl ?_
        refine rr_getR (b := (m + 19)) dX10_makeNow_319 fg_X10_65 rfl rfl (wX10_l hm) (wX10_s hm) (wX10_r23 hm) ?_
        refine r_iload_n dX10_makeNow_322 rfl (i := 3) rfl ?_
        obtain ⟨hc6, hT⟩ := hT
        refine rr_iaload (v := I (m + 19) x3) dX10_makeNow_323 (wX10_l23 hm) (wX10_a23 hm) (by decide) hc6 (jr_na eM2 (by omega)) ?_
        refine r_goto (tgt := 328) dX10_makeNow_324 rfl ?_
        obtain ⟨hc7, hT⟩ := hT
        refine rr_iastore dX10_makeNow_328 (wX10_l0 hm) (wX10_a0 hm) (by decide) hc7 (hI _ _).inR (fun M8 eM8 => ?_)
        have hFM8 := jFr_up hFM2 eM8 (wX10_f hm 1 (by decide))
        replace hT := hT M8 eM8
        refine jOk_mem (fun hIM8 => ?_)
        obtain ⟨hc9, hT⟩ := hT
        refine rr_iinc (i := 3) (ls' := [VR m, VI x1, VI x2, VI (x3 + 1), VN]) dX10_makeNow_329 rfl (Nat.le_of_ble_eq_true rfl) rfl rfl hc9 ?_
        refine r_goto (tgt := 267) dX10_makeNow_332 rfl ?_
        exact hT I0 hFM8
    · replace hT := hT.2 hcc
      refine r_aload_n dX10_makeNow_290 rfl (i := 0) rfl ?_
      refine rr_getR (b := (m + 18)) dX10_makeNow_291 fg_X10_62 rfl rfl (wX10_l hm) (wX10_s hm) (wX10_r22 hm) ?_
      refine r_iload_n dX10_makeNow_294 rfl (i := 3) rfl ?_
      obtain ⟨hc10, hT⟩ := hT
      refine rr_iaload (v := I (m + 18) x3) dX10_makeNow_295 (wX10_l22 hm) (wX10_a22 hm) (by decide) hc10 rfl ?_
      refine r_goto (tgt := 300) dX10_makeNow_296 rfl ?_
      obtain ⟨hc11, hT⟩ := hT
      refine rr_iastore dX10_makeNow_300 (wX10_l0 hm) (wX10_a0 hm) (by decide) hc11 (hI _ _).inR (fun M12 eM12 => ?_)
      have hFM12 := jFr_up hF eM12 (wX10_f hm 1 (by decide))
      replace hT := hT M12 eM12
      refine jOk_mem (fun hIM12 => ?_)
      refine r_aload_n dX10_makeNow_301 rfl (i := 0) rfl ?_
      refine rr_getR (b := (m + 1)) dX10_makeNow_302 fg_X10_7 rfl rfl (wX10_l hm) (wX10_s hm) (wX10_r0 hm) ?_
      refine r_sipush (n := 210) dX10_makeNow_305 (by decide +kernel) ?_
      refine r_iload_n dX10_makeNow_308 rfl (i := 3) rfl ?_
      refine r_iadd dX10_makeNow_309 ?_
      refine r_iload_n dX10_makeNow_310 rfl (i := 3) rfl ?_
      refine r_aload_n dX10_makeNow_311 rfl (i := 0) rfl ?_
      refine rr_getI (v := I m 24) dX10_makeNow_312 fg_X10_217 rfl (wX10_l hm) (wX10_s hm) (jr_na eM12 (by omega)) ?_
      refine r_icmp_ge (tgt := 327) dX10_makeNow_315 rfl hx3 (hI _ _).inR (fun hcc => ?_) (fun hcc => ?_)
      · replace hT := hT.1 hcc
        refine r_iconst (n := 0) dX10_makeNow_327 ?_
        obtain ⟨hc13, hT⟩ := hT
        refine rr_iastore dX10_makeNow_328 (wX10_l0 hm) (wX10_a0 hm) (by decide) hc13 ⟨by decide, by decide⟩ (fun M14 eM14 => ?_)
        have hFM14 := jFr_up hFM12 eM14 (wX10_f hm 1 (by decide))
        replace hT := hT M14 eM14
        refine jOk_mem (fun hIM14 => ?_)
        obtain ⟨hc15, hT⟩ := hT
        refine rr_iinc (i := 3) (ls' := [VR m, VI x1, VI x2, VI (x3 + 1), VN]) dX10_makeNow_329 rfl (Nat.le_of_ble_eq_true rfl) rfl rfl hc15 ?_
        refine r_goto (tgt := 267) dX10_makeNow_332 rfl ?_
        exact hT I0 hFM14
      · replace hT := hT.2 hcc
        refine r_aload_n dX10_makeNow_318 rfl (i := 0) rfl ?_
        refine rr_getR (b := (m + 19)) dX10_makeNow_319 fg_X10_65 rfl rfl (wX10_l hm) (wX10_s hm) (wX10_r23 hm) ?_
        refine r_iload_n dX10_makeNow_322 rfl (i := 3) rfl ?_
        obtain ⟨hc16, hT⟩ := hT
        refine rr_iaload (v := I (m + 19) x3) dX10_makeNow_323 (wX10_l23 hm) (wX10_a23 hm) (by decide) hc16 (jr_na eM12 (by omega)) ?_
        refine r_goto (tgt := 328) dX10_makeNow_324 rfl ?_
        obtain ⟨hc17, hT⟩ := hT
        refine rr_iastore dX10_makeNow_328 (wX10_l0 hm) (wX10_a0 hm) (by decide) hc17 (hI _ _).inR (fun M18 eM18 => ?_)
        have hFM18 := jFr_up hFM12 eM18 (wX10_f hm 1 (by decide))
        replace hT := hT M18 eM18
        refine jOk_mem (fun hIM18 => ?_)
        obtain ⟨hc19, hT⟩ := hT
        refine rr_iinc (i := 3) (ls' := [VR m, VI x1, VI x2, VI (x3 + 1), VN]) dX10_makeNow_329 rfl (Nat.le_of_ble_eq_true rfl) rfl rfl hc19 ?_
        refine r_goto (tgt := 267) dX10_makeNow_332 rfl ?_
        exact hT I0 hFM18
set_option maxRecDepth 20000 in
theorem st_X10_makeNow_180 {E : jE} {G : jG} {I : jM} {q : jM → Prop} {m : Nat} {x1 : Int} {x2 : Int} {x3 : Int} (hm : WX10 G m) (hT : (∀ a j, jRg (G.2.1 a).1 (I a j)) → jIn x1 → jIn x2 → jIn x3 → jIn (2 * (I (m + 1) 3)) ∧ (((2 * (I (m + 1) 3)) ≤ x3 → (∀ M4, M4 = jup I (m + 1) 2 (I m 24) → jOV E (jA m) kX10_makeNow 267 [VR m, VI x1, VI x2, VI 0, VN] G M4 q)) ∧ (¬ (2 * (I (m + 1) 3)) ≤ x3 → ((0 : Int) ≤ (410 + x3) ∧ ((410 + x3) : Int) < 22094) ∧ jRI E (jA m) kX10_along [VR m, VI (I (m + 1) (410 + x3)), VI x1] G I (fun r7 I6 => ((0 : Int) ≤ ((410 + x3) + 1) ∧ (((410 + x3) + 1) : Int) < 22094) ∧ ((0 : Int) ≤ (410 + x3) ∧ ((410 + x3) : Int) < 22094) ∧ ((0 : Int) ≤ ((410 + x3) + 1) ∧ (((410 + x3) + 1) : Int) < 22094) ∧ jIn ((I6 (m + 1) ((410 + x3) + 1)) + (r7 - (I6 (m + 1) (410 + x3)))) ∧ (∀ M13, M13 = jup I6 (m + 1) ((410 + x3) + 1) ((I6 (m + 1) ((410 + x3) + 1)) + (r7 - (I6 (m + 1) (410 + x3)))) → ((0 : Int) ≤ (410 + x3) ∧ ((410 + x3) : Int) < 22094) ∧ (∀ M15, M15 = jup M13 (m + 1) (410 + x3) r7 → jIn (x3 + 2) ∧ jOV E (jA m) kX10_makeNow 180 [VR m, VI x1, VI x2, VI (x3 + 2), VN] G M15 q)))))) : jOV E (jA m) kX10_makeNow 180 [VR m, VI x1, VI x2, VI x3, VN] G I q := by
  intro I0 hF
  refine jOk_mem (fun hI => ?_)
  refine jOk_in (i := 1) rfl (fun hx1 => ?_)
  refine jOk_in (i := 2) rfl (fun hx2 => ?_)
  refine jOk_in (i := 3) rfl (fun hx3 => ?_)
  replace hT := hT hI hx1 hx2 hx3
  refine r_iload_n dX10_makeNow_180 rfl (i := 3) rfl ?_
  refine r_iconst (n := 2) dX10_makeNow_181 ?_
  refine r_aload_n dX10_makeNow_182 rfl (i := 0) rfl ?_
  refine rr_getR (b := (m + 1)) dX10_makeNow_183 fg_X10_7 rfl rfl (wX10_l hm) (wX10_s hm) (wX10_r0 hm) ?_
  refine r_iconst (n := 3) dX10_makeNow_186 ?_
  refine rr_iaload (v := I (m + 1) 3) dX10_makeNow_187 (wX10_l0 hm) (wX10_a0 hm) (by decide) ⟨by decide, by decide⟩ rfl ?_
  refine r_imul dX10_makeNow_188 ?_
  obtain ⟨hc2, hT⟩ := hT
  refine r_icmp_ge (tgt := 255) dX10_makeNow_189 rfl hx3 hc2 (fun hcc => ?_) (fun hcc => ?_)
  · replace hT := hT.1 hcc
    refine r_aload_n dX10_makeNow_255 rfl (i := 0) rfl ?_
    refine rr_getR (b := (m + 1)) dX10_makeNow_256 fg_X10_7 rfl rfl (wX10_l hm) (wX10_s hm) (wX10_r0 hm) ?_
    refine r_iconst (n := 2) dX10_makeNow_259 ?_
    refine r_aload_n dX10_makeNow_260 rfl (i := 0) rfl ?_
    refine rr_getI (v := I m 24) dX10_makeNow_261 fg_X10_217 rfl (wX10_l hm) (wX10_s hm) rfl ?_
    refine rr_iastore dX10_makeNow_264 (wX10_l0 hm) (wX10_a0 hm) (by decide) ⟨by decide, by decide⟩ (hI _ _).inR (fun M4 eM4 => ?_)
    have hFM4 := jFr_up hF eM4 (wX10_f hm 1 (by decide))
    replace hT := hT M4 eM4
    refine jOk_mem (fun hIM4 => ?_)
    refine r_iconst (n := 0) dX10_makeNow_265 ?_
    refine rr_istore_n (i := 3) (ls' := [VR m, VI x1, VI x2, VI 0, VN]) dX10_makeNow_266 rfl (Nat.le_of_ble_eq_true rfl) rfl rfl ⟨by decide, by decide⟩ ?_
    exact hT I0 hFM4
  · replace hT := hT.2 hcc
    refine r_aload_n dX10_makeNow_192 rfl (i := 0) rfl ?_
    refine r_aload_n dX10_makeNow_193 rfl (i := 0) rfl ?_
    refine rr_getR (b := (m + 1)) dX10_makeNow_194 fg_X10_7 rfl rfl (wX10_l hm) (wX10_s hm) (wX10_r0 hm) ?_
    refine r_sipush (n := 410) dX10_makeNow_197 (by decide +kernel) ?_
    refine r_iload_n dX10_makeNow_200 rfl (i := 3) rfl ?_
    refine r_iadd dX10_makeNow_201 ?_
    obtain ⟨hc5, hT⟩ := hT
    refine rr_iaload (v := I (m + 1) (410 + x3)) dX10_makeNow_202 (wX10_l0 hm) (wX10_a0 hm) (by decide) hc5 rfl ?_
    refine r_iload_n dX10_makeNow_203 rfl (i := 1) rfl ?_
    refine rr_cVI (a := m) (as := [VI (I (m + 1) (410 + x3)), VI x1]) (st := []) dX10_makeNow_204 mt_X10_along ml_X10_223 mi_X10_along rm_X10_makeNow_X10_along jz_X10_along ⟨Nat.zero_le _, Nat.zero_le _⟩ (Nat.le_of_ble_eq_true rfl) (wX10_l hm) (wX10_c hm) (jasI (hI _ _).inR (jasI hx1 jas0)) hT (fun r7 I6 hc8 hFI6 hT => ?_)
    replace hFI6 := jFr_tr hF hFI6
    refine jOk_mem (fun hI6 => ?_)
    refine rr_istore (i := 4) (ls' := [VR m, VI x1, VI x2, VI x3, VI r7]) dX10_makeNow_207 (Nat.le_of_ble_eq_true rfl) rfl rfl hc8 ?_
    refine r_aload_n dX10_makeNow_209 rfl (i := 0) rfl ?_
    refine rr_getR (b := (m + 1)) dX10_makeNow_210 fg_X10_7 rfl rfl (wX10_l hm) (wX10_s hm) (wX10_r0 hm) ?_
    refine r_sipush (n := 410) dX10_makeNow_213 (by decide +kernel) ?_
    refine r_iload_n dX10_makeNow_216 rfl (i := 3) rfl ?_
    refine r_iadd dX10_makeNow_217 ?_
    refine r_iconst (n := 1) dX10_makeNow_218 ?_
    refine r_iadd dX10_makeNow_219 ?_
    refine r_dup2 dX10_makeNow_220 rfl rfl ?_
    obtain ⟨hc9, hT⟩ := hT
    refine rr_iaload (v := I6 (m + 1) ((410 + x3) + 1)) dX10_makeNow_221 (wX10_l0 hm) (wX10_a0 hm) (by decide) hc9 rfl ?_
    refine r_iload dX10_makeNow_222 (i := 4) rfl ?_
    refine r_aload_n dX10_makeNow_224 rfl (i := 0) rfl ?_
    refine rr_getR (b := (m + 1)) dX10_makeNow_225 fg_X10_7 rfl rfl (wX10_l hm) (wX10_s hm) (wX10_r0 hm) ?_
    refine r_sipush (n := 410) dX10_makeNow_228 (by decide +kernel) ?_
    refine r_iload_n dX10_makeNow_231 rfl (i := 3) rfl ?_
    refine r_iadd dX10_makeNow_232 ?_
    obtain ⟨hc10, hT⟩ := hT
    refine rr_iaload (v := I6 (m + 1) (410 + x3)) dX10_makeNow_233 (wX10_l0 hm) (wX10_a0 hm) (by decide) hc10 rfl ?_
    refine r_isub dX10_makeNow_234 ?_
    refine r_iadd dX10_makeNow_235 ?_
    obtain ⟨hc11, hT⟩ := hT
    obtain ⟨hc12, hT⟩ := hT
    refine rr_iastore dX10_makeNow_236 (wX10_l0 hm) (wX10_a0 hm) (by decide) hc11 hc12 (fun M13 eM13 => ?_)
    have hFM13 := jFr_up hFI6 eM13 (wX10_f hm 1 (by decide))
    replace hT := hT M13 eM13
    refine jOk_mem (fun hIM13 => ?_)
    refine r_aload_n dX10_makeNow_237 rfl (i := 0) rfl ?_
    refine rr_getR (b := (m + 1)) dX10_makeNow_238 fg_X10_7 rfl rfl (wX10_l hm) (wX10_s hm) (wX10_r0 hm) ?_
    refine r_sipush (n := 410) dX10_makeNow_241 (by decide +kernel) ?_
    refine r_iload_n dX10_makeNow_244 rfl (i := 3) rfl ?_
    refine r_iadd dX10_makeNow_245 ?_
    refine r_iload dX10_makeNow_246 (i := 4) rfl ?_
    obtain ⟨hc14, hT⟩ := hT
    refine rr_iastore dX10_makeNow_248 (wX10_l0 hm) (wX10_a0 hm) (by decide) hc14 hc8 (fun M15 eM15 => ?_)
    have hFM15 := jFr_up hFM13 eM15 (wX10_f hm 1 (by decide))
    replace hT := hT M15 eM15
    refine jOk_mem (fun hIM15 => ?_)
    obtain ⟨hc16, hT⟩ := hT
    refine rr_iinc (i := 3) (ls' := [VR m, VI x1, VI x2, VI (x3 + 2), VI r7]) dX10_makeNow_249 rfl (Nat.le_of_ble_eq_true rfl) rfl rfl hc16 ?_
    refine r_goto (tgt := 180) dX10_makeNow_252 rfl ?_
    exact jOk_le (ls' := [VR m, VI x1, VI x2, VI (x3 + 2), VN]) ⟨Or.inr rfl, Or.inr rfl, Or.inr rfl, Or.inr rfl, Or.inl rfl, trivial⟩ (hT I0 hFM15)
set_option maxRecDepth 20000 in
theorem st_X10_makeNow_143 {E : jE} {G : jG} {I : jM} {q : jM → Prop} {m : Nat} {x1 : Int} {x2 : Int} {x3 : Int} (hm : WX10 G m) (hT : (∀ a j, jRg (G.2.1 a).1 (I a j)) → jIn x1 → jIn x2 → jIn x3 → (((I (m + 1) 2) ≤ x2 → jOV E (jA m) kX10_makeNow 180 [VR m, VI x1, VI x2, VI 0, VN] G I q) ∧ (¬ (I (m + 1) 2) ≤ x2 → (0 ≤ 10 + x2 ∧ 10 + x2 < 22094) ∧ ((0 : Int) ≤ (210 + x2) ∧ ((210 + x2) : Int) < 22094) ∧ jRV E (jA m) kX10_writeNew [VR m, VI (I (m + 1) (10 + x2)), VI (I (m + 1) (210 + x2))] G I (fun I5 => jIn (x2 + 1) ∧ jOV E (jA m) kX10_makeNow 143 [VR m, VI x1, VI (x2 + 1), VI x3, VN] G I5 q)))) : jOV E (jA m) kX10_makeNow 143 [VR m, VI x1, VI x2, VI x3, VN] G I q := by
  intro I0 hF
  refine jOk_mem (fun hI => ?_)
  refine jOk_in (i := 1) rfl (fun hx1 => ?_)
  refine jOk_in (i := 2) rfl (fun hx2 => ?_)
  refine jOk_in (i := 3) rfl (fun hx3 => ?_)
  replace hT := hT hI hx1 hx2 hx3
  refine r_iload_n dX10_makeNow_143 rfl (i := 2) rfl ?_
  refine r_aload_n dX10_makeNow_144 rfl (i := 0) rfl ?_
  refine rr_getR (b := (m + 1)) dX10_makeNow_145 fg_X10_7 rfl rfl (wX10_l hm) (wX10_s hm) (wX10_r0 hm) ?_
  refine r_iconst (n := 2) dX10_makeNow_148 ?_
  refine rr_iaload (v := I (m + 1) 2) dX10_makeNow_149 (wX10_l0 hm) (wX10_a0 hm) (by decide) ⟨by decide, by decide⟩ rfl ?_
  refine r_icmp_ge (tgt := 178) dX10_makeNow_150 rfl hx2 (hI _ _).inR (fun hcc => ?_) (fun hcc => ?_)
  · replace hT := hT.1 hcc
    refine r_iconst (n := 0) dX10_makeNow_178 ?_
    refine rr_istore_n (i := 3) (ls' := [VR m, VI x1, VI x2, VI 0, VN]) dX10_makeNow_179 rfl (Nat.le_of_ble_eq_true rfl) rfl rfl ⟨by decide, by decide⟩ ?_
    exact hT I0 hF
  · replace hT := hT.2 hcc
    refine r_aload_n dX10_makeNow_153 rfl (i := 0) rfl ?_
    refine r_aload_n dX10_makeNow_154 rfl (i := 0) rfl ?_
    refine r_iload_n dX10_makeNow_155 rfl (i := 2) rfl ?_
    obtain ⟨hc3, hT⟩ := hT
    refine rr_pVI (A := (jA m)) (v := I (m + 1) (10 + x2)) (a := m) (as := [VI x2]) (st := [VR m]) dX10_makeNow_156 mt_X10_byteAt ml_X10_120 mi_X10_byteAt rm_X10_makeNow_X10_byteAt jz_X10_byteAt ⟨Nat.zero_le _, Nat.zero_le _⟩ (Nat.le_of_ble_eq_true rfl) (wX10_l hm) (wX10_c hm) (jasI hx2 jas0) ((sp_X10_byteAt hm) hc3) (fun hc2 => ?_)
    refine r_aload_n dX10_makeNow_159 rfl (i := 0) rfl ?_
    refine rr_getR (b := (m + 1)) dX10_makeNow_160 fg_X10_7 rfl rfl (wX10_l hm) (wX10_s hm) (wX10_r0 hm) ?_
    refine r_sipush (n := 210) dX10_makeNow_163 (by decide +kernel) ?_
    refine r_iload_n dX10_makeNow_166 rfl (i := 2) rfl ?_
    refine r_iadd dX10_makeNow_167 ?_
    obtain ⟨hc4, hT⟩ := hT
    refine rr_iaload (v := I (m + 1) (210 + x2)) dX10_makeNow_168 (wX10_l0 hm) (wX10_a0 hm) (by decide) hc4 rfl ?_
    refine rr_cVV (a := m) (as := [VI (I (m + 1) (10 + x2)), VI (I (m + 1) (210 + x2))]) (st := []) dX10_makeNow_169 mt_X10_writeNew ml_X10_220 mi_X10_writeNew rm_X10_makeNow_X10_writeNew jz_X10_writeNew ⟨Nat.zero_le _, Nat.zero_le _⟩ (Nat.le_of_ble_eq_true rfl) (wX10_l hm) (wX10_c hm) (jasI hc2 (jasI (hI _ _).inR jas0)) hT (fun I5 hFI5 hT => ?_)
    replace hFI5 := jFr_tr hF hFI5
    refine jOk_mem (fun hI5 => ?_)
    obtain ⟨hc6, hT⟩ := hT
    refine rr_iinc (i := 2) (ls' := [VR m, VI x1, VI (x2 + 1), VI x3, VN]) dX10_makeNow_172 rfl (Nat.le_of_ble_eq_true rfl) rfl rfl hc6 ?_
    refine r_goto (tgt := 143) dX10_makeNow_175 rfl ?_
    exact hT I0 hFI5
set_option maxRecDepth 20000 in
theorem st_X10_makeNow_96 {E : jE} {G : jG} {I : jM} {q : jM → Prop} {m : Nat} {x1 : Int} {x2 : Int} {x3 : Int} {x4 : Int} (hm : WX10 G m) (hT : (∀ a j, jRg (G.2.1 a).1 (I a j)) → jIn x1 → jIn x2 → jIn x3 → jIn x4 → (((I m 7) ≤ x4 → ((0 : Int) ≤ x3 ∧ (x3 : Int) < 1200) ∧ jIn (x3 + 1) ∧ jOV E (jA m) kX10_makeNow 9 [VR m, VI x1, VI (I (m + 9) x3), VI (x3 + 1), VN] G I q) ∧ (¬ (I m 7) ≤ x4 → ((0 : Int) ≤ x4 ∧ (x4 : Int) < 2000) ∧ ((0 : Int) ≤ x3 ∧ (x3 : Int) < 1200) ∧ jIn ((I (m + 7) x3) + 1) ∧ jRV E (jA m) kX10_writeNew [VR m, VI (I (m + 6) x4), VI ((I (m + 7) x3) + 1)] G I (fun I6 => jIn (x4 + 1) ∧ jOV E (jA m) kX10_makeNow 96 [VR m, VI x1, VI x2, VI x3, VI (x4 + 1)] G I6 q)))) : jOV E (jA m) kX10_makeNow 96 [VR m, VI x1, VI x2, VI x3, VI x4] G I q := by
  intro I0 hF
  refine jOk_mem (fun hI => ?_)
  refine jOk_in (i := 1) rfl (fun hx1 => ?_)
  refine jOk_in (i := 2) rfl (fun hx2 => ?_)
  refine jOk_in (i := 3) rfl (fun hx3 => ?_)
  refine jOk_in (i := 4) rfl (fun hx4 => ?_)
  replace hT := hT hI hx1 hx2 hx3 hx4
  refine r_iload dX10_makeNow_96 (i := 4) rfl ?_
  refine r_aload_n dX10_makeNow_98 rfl (i := 0) rfl ?_
  refine rr_getI (v := I m 7) dX10_makeNow_99 fg_X10_148 rfl (wX10_l hm) (wX10_s hm) rfl ?_
  refine r_icmp_ge (tgt := 130) dX10_makeNow_102 rfl hx4 (hI _ _).inR (fun hcc => ?_) (fun hcc => ?_)
  · replace hT := hT.1 hcc
    refine r_aload_n dX10_makeNow_130 rfl (i := 0) rfl ?_
    refine rr_getR (b := (m + 9)) dX10_makeNow_131 fg_X10_34 rfl rfl (wX10_l hm) (wX10_s hm) (wX10_r10 hm) ?_
    refine r_iload_n dX10_makeNow_134 rfl (i := 3) rfl ?_
    obtain ⟨hc1, hT⟩ := hT
    refine rr_iaload (v := I (m + 9) x3) dX10_makeNow_135 (wX10_l10 hm) (wX10_a10 hm) (by decide) hc1 rfl ?_
    refine rr_istore_n (i := 2) (ls' := [VR m, VI x1, VI (I (m + 9) x3), VI x3, VI x4]) dX10_makeNow_136 rfl (Nat.le_of_ble_eq_true rfl) rfl rfl (hI _ _).inR ?_
    obtain ⟨hc2, hT⟩ := hT
    refine rr_iinc (i := 3) (ls' := [VR m, VI x1, VI (I (m + 9) x3), VI (x3 + 1), VI x4]) dX10_makeNow_137 rfl (Nat.le_of_ble_eq_true rfl) rfl rfl hc2 ?_
    refine r_goto (tgt := 9) dX10_makeNow_140 rfl ?_
    exact jOk_le (ls' := [VR m, VI x1, VI (I (m + 9) x3), VI (x3 + 1), VN]) ⟨Or.inr rfl, Or.inr rfl, Or.inr rfl, Or.inr rfl, Or.inl rfl, trivial⟩ (hT I0 hF)
  · replace hT := hT.2 hcc
    refine r_aload_n dX10_makeNow_105 rfl (i := 0) rfl ?_
    refine r_aload_n dX10_makeNow_106 rfl (i := 0) rfl ?_
    refine rr_getR (b := (m + 6)) dX10_makeNow_107 fg_X10_25 rfl rfl (wX10_l hm) (wX10_s hm) (wX10_r6 hm) ?_
    refine r_iload dX10_makeNow_110 (i := 4) rfl ?_
    obtain ⟨hc3, hT⟩ := hT
    refine rr_iaload (v := I (m + 6) x4) dX10_makeNow_112 (wX10_l6 hm) (wX10_a6 hm) (by decide) hc3 rfl ?_
    refine r_aload_n dX10_makeNow_113 rfl (i := 0) rfl ?_
    refine rr_getR (b := (m + 7)) dX10_makeNow_114 fg_X10_28 rfl rfl (wX10_l hm) (wX10_s hm) (wX10_r8 hm) ?_
    refine r_iload_n dX10_makeNow_117 rfl (i := 3) rfl ?_
    obtain ⟨hc4, hT⟩ := hT
    refine rr_iaload (v := I (m + 7) x3) dX10_makeNow_118 (wX10_l8 hm) (wX10_a8 hm) (by decide) hc4 rfl ?_
    refine r_iconst (n := 1) dX10_makeNow_119 ?_
    refine r_iadd dX10_makeNow_120 ?_
    obtain ⟨hc5, hT⟩ := hT
    refine rr_cVV (a := m) (as := [VI (I (m + 6) x4), VI ((I (m + 7) x3) + 1)]) (st := []) dX10_makeNow_121 mt_X10_writeNew ml_X10_220 mi_X10_writeNew rm_X10_makeNow_X10_writeNew jz_X10_writeNew ⟨Nat.zero_le _, Nat.zero_le _⟩ (Nat.le_of_ble_eq_true rfl) (wX10_l hm) (wX10_c hm) (jasI (hI _ _).inR (jasI hc5 jas0)) hT (fun I6 hFI6 hT => ?_)
    replace hFI6 := jFr_tr hF hFI6
    refine jOk_mem (fun hI6 => ?_)
    obtain ⟨hc7, hT⟩ := hT
    refine rr_iinc (i := 4) (ls' := [VR m, VI x1, VI x2, VI x3, VI (x4 + 1)]) dX10_makeNow_124 rfl (Nat.le_of_ble_eq_true rfl) rfl rfl hc7 ?_
    refine r_goto (tgt := 96) dX10_makeNow_127 rfl ?_
    exact hT I0 hFI6
set_option maxRecDepth 20000 in
theorem st_X10_makeNow_42 {E : jE} {G : jG} {I : jM} {q : jM → Prop} {m : Nat} {x1 : Int} {x2 : Int} {x3 : Int} (hm : WX10 G m) (hT : (∀ a j, jRg (G.2.1 a).1 (I a j)) → jIn x1 → jIn x2 → jIn x3 → ((0 : Int) ≤ x3 ∧ (x3 : Int) < 1200) ∧ (((I (m + 8) x3) ≤ x2 → ((0 : Int) ≤ x3 ∧ (x3 : Int) < 1200) ∧ ((0 : Int) ≤ x3 ∧ (x3 : Int) < 1200) ∧ jRV E (jA m) kX10_layOut [VR m, VI (I (m + 7) x3), VI (I (m + 10) x3)] G I (fun I4 => jOV E (jA m) kX10_makeNow 96 [VR m, VI x1, VI x2, VI x3, VI 0] G I4 q)) ∧ (¬ (I (m + 8) x3) ≤ x2 → (0 ≤ 10 + x2 ∧ 10 + x2 < 22094) ∧ ((0 : Int) ≤ (210 + x2) ∧ ((210 + x2) : Int) < 22094) ∧ jRV E (jA m) kX10_writeNew [VR m, VI (I (m + 1) (10 + x2)), VI (I (m + 1) (210 + x2))] G I (fun I8 => jIn (x2 + 1) ∧ jOV E (jA m) kX10_makeNow 42 [VR m, VI x1, VI (x2 + 1), VI x3, VN] G I8 q)))) : jOV E (jA m) kX10_makeNow 42 [VR m, VI x1, VI x2, VI x3, VN] G I q := by
  intro I0 hF
  refine jOk_mem (fun hI => ?_)
  refine jOk_in (i := 1) rfl (fun hx1 => ?_)
  refine jOk_in (i := 2) rfl (fun hx2 => ?_)
  refine jOk_in (i := 3) rfl (fun hx3 => ?_)
  replace hT := hT hI hx1 hx2 hx3
  refine r_iload_n dX10_makeNow_42 rfl (i := 2) rfl ?_
  refine r_aload_n dX10_makeNow_43 rfl (i := 0) rfl ?_
  refine rr_getR (b := (m + 8)) dX10_makeNow_44 fg_X10_31 rfl rfl (wX10_l hm) (wX10_s hm) (wX10_r9 hm) ?_
  refine r_iload_n dX10_makeNow_47 rfl (i := 3) rfl ?_
  obtain ⟨hc1, hT⟩ := hT
  refine rr_iaload (v := I (m + 8) x3) dX10_makeNow_48 (wX10_l9 hm) (wX10_a9 hm) (by decide) hc1 rfl ?_
  refine r_icmp_ge (tgt := 77) dX10_makeNow_49 rfl hx2 (hI _ _).inR (fun hcc => ?_) (fun hcc => ?_)
  · replace hT := hT.1 hcc
    refine r_aload_n dX10_makeNow_77 rfl (i := 0) rfl ?_
    refine r_aload_n dX10_makeNow_78 rfl (i := 0) rfl ?_
    refine rr_getR (b := (m + 7)) dX10_makeNow_79 fg_X10_28 rfl rfl (wX10_l hm) (wX10_s hm) (wX10_r8 hm) ?_
    refine r_iload_n dX10_makeNow_82 rfl (i := 3) rfl ?_
    obtain ⟨hc2, hT⟩ := hT
    refine rr_iaload (v := I (m + 7) x3) dX10_makeNow_83 (wX10_l8 hm) (wX10_a8 hm) (by decide) hc2 rfl ?_
    refine r_aload_n dX10_makeNow_84 rfl (i := 0) rfl ?_
    refine rr_getR (b := (m + 10)) dX10_makeNow_85 fg_X10_37 rfl rfl (wX10_l hm) (wX10_s hm) (wX10_r11 hm) ?_
    refine r_iload_n dX10_makeNow_88 rfl (i := 3) rfl ?_
    obtain ⟨hc3, hT⟩ := hT
    refine rr_iaload (v := I (m + 10) x3) dX10_makeNow_89 (wX10_l11 hm) (wX10_a11 hm) (by decide) hc3 rfl ?_
    refine rr_cVV (a := m) (as := [VI (I (m + 7) x3), VI (I (m + 10) x3)]) (st := []) dX10_makeNow_90 mt_X10_layOut ml_X10_169 mi_X10_layOut rm_X10_makeNow_X10_layOut jz_X10_layOut ⟨Nat.zero_le _, Nat.zero_le _⟩ (Nat.le_of_ble_eq_true rfl) (wX10_l hm) (wX10_c hm) (jasI (hI _ _).inR (jasI (hI _ _).inR jas0)) hT (fun I4 hFI4 hT => ?_)
    replace hFI4 := jFr_tr hF hFI4
    refine jOk_mem (fun hI4 => ?_)
    refine r_iconst (n := 0) dX10_makeNow_93 ?_
    refine rr_istore (i := 4) (ls' := [VR m, VI x1, VI x2, VI x3, VI 0]) dX10_makeNow_94 (Nat.le_of_ble_eq_true rfl) rfl rfl ⟨by decide, by decide⟩ ?_
    exact hT I0 hFI4
  · replace hT := hT.2 hcc
    refine r_aload_n dX10_makeNow_52 rfl (i := 0) rfl ?_
    refine r_aload_n dX10_makeNow_53 rfl (i := 0) rfl ?_
    refine r_iload_n dX10_makeNow_54 rfl (i := 2) rfl ?_
    obtain ⟨hc6, hT⟩ := hT
    refine rr_pVI (A := (jA m)) (v := I (m + 1) (10 + x2)) (a := m) (as := [VI x2]) (st := [VR m]) dX10_makeNow_55 mt_X10_byteAt ml_X10_120 mi_X10_byteAt rm_X10_makeNow_X10_byteAt jz_X10_byteAt ⟨Nat.zero_le _, Nat.zero_le _⟩ (Nat.le_of_ble_eq_true rfl) (wX10_l hm) (wX10_c hm) (jasI hx2 jas0) ((sp_X10_byteAt hm) hc6) (fun hc5 => ?_)
    refine r_aload_n dX10_makeNow_58 rfl (i := 0) rfl ?_
    refine rr_getR (b := (m + 1)) dX10_makeNow_59 fg_X10_7 rfl rfl (wX10_l hm) (wX10_s hm) (wX10_r0 hm) ?_
    refine r_sipush (n := 210) dX10_makeNow_62 (by decide +kernel) ?_
    refine r_iload_n dX10_makeNow_65 rfl (i := 2) rfl ?_
    refine r_iadd dX10_makeNow_66 ?_
    obtain ⟨hc7, hT⟩ := hT
    refine rr_iaload (v := I (m + 1) (210 + x2)) dX10_makeNow_67 (wX10_l0 hm) (wX10_a0 hm) (by decide) hc7 rfl ?_
    refine rr_cVV (a := m) (as := [VI (I (m + 1) (10 + x2)), VI (I (m + 1) (210 + x2))]) (st := []) dX10_makeNow_68 mt_X10_writeNew ml_X10_220 mi_X10_writeNew rm_X10_makeNow_X10_writeNew jz_X10_writeNew ⟨Nat.zero_le _, Nat.zero_le _⟩ (Nat.le_of_ble_eq_true rfl) (wX10_l hm) (wX10_c hm) (jasI hc5 (jasI (hI _ _).inR jas0)) hT (fun I8 hFI8 hT => ?_)
    replace hFI8 := jFr_tr hF hFI8
    refine jOk_mem (fun hI8 => ?_)
    obtain ⟨hc9, hT⟩ := hT
    refine rr_iinc (i := 2) (ls' := [VR m, VI x1, VI (x2 + 1), VI x3, VN]) dX10_makeNow_71 rfl (Nat.le_of_ble_eq_true rfl) rfl rfl hc9 ?_
    refine r_goto (tgt := 42) dX10_makeNow_74 rfl ?_
    exact hT I0 hFI8
set_option maxRecDepth 20000 in
theorem st_X10_makeNow_9 {E : jE} {G : jG} {I : jM} {q : jM → Prop} {m : Nat} {x1 : Int} {x2 : Int} {x3 : Int} (hm : WX10 G m) (hT : (∀ a j, jRg (G.2.1 a).1 (I a j)) → jIn x1 → jIn x2 → jIn x3 → (((I m 17) ≤ x3 → jOV E (jA m) kX10_makeNow 143 [VR m, VI x1, VI x2, VI x3, VN] G I q) ∧ (¬ (I m 17) ≤ x3 → ((¬ x1 = (-1) → ((x3 = x1 → jOV E (jA m) kX10_makeNow 42 [VR m, VI x1, VI x2, VI x3, VN] G I q) ∧ (¬ x3 = x1 → jIn (x3 + 1) ∧ jOV E (jA m) kX10_makeNow 9 [VR m, VI x1, VI x2, VI (x3 + 1), VN] G I q))) ∧ (x1 = (-1) → ((0 : Int) ≤ x3 ∧ (x3 : Int) < 1200) ∧ ((0 ≤ (I (m + 15) x3) ∧ (I (m + 15) x3) ≤ 1) → ((¬ (I (m + 15) x3) = 0 → jOV E (jA m) kX10_makeNow 42 [VR m, VI x1, VI x2, VI x3, VN] G I q) ∧ ((I (m + 15) x3) = 0 → jIn (x3 + 1) ∧ jOV E (jA m) kX10_makeNow 9 [VR m, VI x1, VI x2, VI (x3 + 1), VN] G I q)))))))) : jOV E (jA m) kX10_makeNow 9 [VR m, VI x1, VI x2, VI x3, VN] G I q := by
  intro I0 hF
  refine jOk_mem (fun hI => ?_)
  refine jOk_in (i := 1) rfl (fun hx1 => ?_)
  refine jOk_in (i := 2) rfl (fun hx2 => ?_)
  refine jOk_in (i := 3) rfl (fun hx3 => ?_)
  replace hT := hT hI hx1 hx2 hx3
  refine r_iload_n dX10_makeNow_9 rfl (i := 3) rfl ?_
  refine r_aload_n dX10_makeNow_10 rfl (i := 0) rfl ?_
  refine rr_getI (v := I m 17) dX10_makeNow_11 fg_X10_175 rfl (wX10_l hm) (wX10_s hm) rfl ?_
  refine r_icmp_ge (tgt := 143) dX10_makeNow_14 rfl hx3 (hI _ _).inR (fun hcc => ?_) (fun hcc => ?_)
  · replace hT := hT.1 hcc
    exact hT I0 hF
  · replace hT := hT.2 hcc
    refine r_iload_n dX10_makeNow_17 rfl (i := 1) rfl ?_
    refine r_iconst (n := (-1)) dX10_makeNow_18 ?_
    refine r_icmp_ne (tgt := 34) dX10_makeNow_19 rfl hx1 ⟨by decide, by decide⟩ (fun hcc => ?_) (fun hcc => ?_)
    · replace hT := hT.1 hcc
      refine r_iload_n dX10_makeNow_34 rfl (i := 3) rfl ?_
      refine r_iload_n dX10_makeNow_35 rfl (i := 1) rfl ?_
      refine r_icmp_eq (tgt := 42) dX10_makeNow_36 rfl hx3 hx1 (fun hcc => ?_) (fun hcc => ?_)
      · replace hT := hT.1 hcc
        exact hT I0 hF
      · replace hT := hT.2 hcc
        refine r_goto (tgt := 137) dX10_makeNow_39 rfl ?_
        obtain ⟨hc1, hT⟩ := hT
        refine rr_iinc (i := 3) (ls' := [VR m, VI x1, VI x2, VI (x3 + 1), VN]) dX10_makeNow_137 rfl (Nat.le_of_ble_eq_true rfl) rfl rfl hc1 ?_
        refine r_goto (tgt := 9) dX10_makeNow_140 rfl ?_
        exact hT I0 hF
    · replace hT := hT.2 hcc
      refine r_aload_n dX10_makeNow_22 rfl (i := 0) rfl ?_
      refine rr_getR (b := (m + 15)) dX10_makeNow_23 fg_X10_53 rfl rfl (wX10_l hm) (wX10_s hm) (wX10_r16 hm) ?_
      refine r_iload_n dX10_makeNow_26 rfl (i := 3) rfl ?_
      obtain ⟨hc2, hT⟩ := hT
      refine rr_zaload (v := I (m + 15) x3) dX10_makeNow_27 (wX10_l16 hm) (wX10_a16 hm) (by decide) hc2 rfl (fun hr3 => ?_)
      replace hT := hT hr3
      refine r_if_ne (tgt := 42) dX10_makeNow_28 rfl (hI _ _).inR (fun hcc => ?_) (fun hcc => ?_)
      · replace hT := hT.1 hcc
        exact hT I0 hF
      · replace hT := hT.2 hcc
        refine r_goto (tgt := 137) dX10_makeNow_31 rfl ?_
        obtain ⟨hc4, hT⟩ := hT
        refine rr_iinc (i := 3) (ls' := [VR m, VI x1, VI x2, VI (x3 + 1), VN]) dX10_makeNow_137 rfl (Nat.le_of_ble_eq_true rfl) rfl rfl hc4 ?_
        refine r_goto (tgt := 9) dX10_makeNow_140 rfl ?_
        exact hT I0 hF
set_option maxRecDepth 20000 in
theorem st_X10_makeNow_0 {E : jE} {G : jG} {I : jM} {q : jM → Prop} {m : Nat} {x1 : Int} (hm : WX10 G m) (hT : (∀ a j, jRg (G.2.1 a).1 (I a j)) → jIn x1 → (∀ M1, M1 = jup I m 24 0 → jOV E (jA m) kX10_makeNow 9 [VR m, VI x1, VI 0, VI 0, VN] G M1 q)) : jOV E (jA m) kX10_makeNow 0 [VR m, VI x1, VN, VN, VN] G I q := by
  intro I0 hF
  refine jOk_mem (fun hI => ?_)
  refine jOk_in (i := 1) rfl (fun hx1 => ?_)
  replace hT := hT hI hx1
  refine r_aload_n dX10_makeNow_0 rfl (i := 0) rfl ?_
  refine r_iconst (n := 0) dX10_makeNow_1 ?_
  refine rr_putI (jj := 24) dX10_makeNow_2 fp_X10_217 rfl rfl (wX10_l hm) (wX10_s hm) ⟨by decide, by decide⟩ (fun M1 eM1 => ?_)
  have hFM1 := jFr_up hF eM1 (wX10_f hm 0 (by decide))
  replace hT := hT M1 eM1
  refine jOk_mem (fun hIM1 => ?_)
  refine r_iconst (n := 0) dX10_makeNow_5 ?_
  refine rr_istore_n (i := 2) (ls' := [VR m, VI x1, VI 0, VN, VN]) dX10_makeNow_6 rfl (Nat.le_of_ble_eq_true rfl) rfl rfl ⟨by decide, by decide⟩ ?_
  refine r_iconst (n := 0) dX10_makeNow_7 ?_
  refine rr_istore_n (i := 3) (ls' := [VR m, VI x1, VI 0, VI 0, VN]) dX10_makeNow_8 rfl (Nat.le_of_ble_eq_true rfl) rfl rfl ⟨by decide, by decide⟩ ?_
  exact hT I0 hFM1
theorem en_X10_makeNow {E : jE} {G : jG} {I : jM} {q : jM → Prop} {m : Nat} {x1 : Int} (hm : WX10 G m) (hT : (∀ a j, jRg (G.2.1 a).1 (I a j)) → jIn x1 → (∀ M1, M1 = jup I m 24 0 → jOV E (jA m) kX10_makeNow 9 [VR m, VI x1, VI 0, VI 0, VN] G M1 q)) : jRV E (jA m) kX10_makeNow [VR m, VI x1] G I q := jRun.of mt_X10_makeNow.2.2.2 3 rfl (fun _ => st_X10_makeNow_0 hm hT I (fun _ _ => rfl))
section RM
variable {E : jE} {G : jG} {m : Nat} {S : Int → Int} {I : jM}
/-- which findings are meant: the set, or one -/
def Cho (m : Nat) (S : Int → Int) (one : Int) (R : List Int) (f : Int) (I : jM) : Prop := ∀ g, f ≤ g → g < NF S → (one = -1 → I (m + 15) g = jI (g ∈ R)) ∧ (one ≠ -1 → (g = one ↔ g ∈ R))
theorem Cho.up {one : Int} {R : List Int} {f : Int} (h : Cho m S one R f I) : Cho m S one R (f + 1) I := fun g g0 g1 => h g (by omega) g1
theorem Cho.dn {one : Int} {R : List Int} {f : Int} (h : Cho m S one (f :: R) f I) : Cho m S one R (f + 1) I := by
  intro g g0 g1
  have hg := h g (by omega) g1
  have e : (g ∈ f :: R) ↔ g ∈ R := ⟨fun q => by
    rcases List.mem_cons.mp q with q | q
    · omega
    · exact q, fun q => List.mem_cons_of_mem _ q⟩
  exact ⟨fun q => by rw [hg.1 q]; exact jI_congr e, fun q => (hg.2 q).trans e⟩
theorem setL_Cho {S : Int → Int} (h : LFS m S I) : Cho m S (-1) (setL S) 0 I := fun g g0 g1 => ⟨fun _ => (h.2.2.2.2.1 g g0 g1).2.2.2, fun q => absurd rfl q⟩
theorem one_Cho {f : Int} (f0 : 0 ≤ f) : Cho m S f [f] 0 I := fun g g0 g1 => ⟨fun q => by omega, fun _ => ⟨fun q => by rw [q]; exact List.mem_cons_self, fun q => by simpa using q⟩⟩
/-- rows of findings -/
theorem RFa (h : FI m S (bT S) I (FL S)) {f : Int} (f0 : 0 ≤ f) (f1 : f < NF S) : I (m + 7) f = fR S f ∧ I (m + 8) f = fB S f ∧ I (m + 9) f = fE S f ∧ I (m + 10) f = fT S f ∧ I (m + 11) f = (fO S f).length := Rw.fa h f0 f1
theorem sp_X10_longThen (hm : WX10 G m) (hFI : FI m S (bT S) I (FL S)) (hF : Fnd S (nT S) (bT S) (FL S)) (hN : NF S ≤ 1200) (hQ : QW S) (h2 : I (m + 1) 2 = S 2) {one : Int} {L : List Int} (hC : Ch S 0 0 L) (hO : Cho m S one L 0 I) (hl : (L.length : Int) ≤ 20) : jRI E (jA m) kX10_longThen [VR m, VI one] G I (fun x I' => x = S 2 + sumG S L ∧ I' = I) := by
  have hNe : NF S = ((FL S).length : Int) := rfl
  have loop : ∀ (d : Nat) (f : Int) (R : List Int) (i v : Int), 0 ≤ f → f + d = NF S → Ch S f i R → Cho m S one R f I → (R.length : Int) ≤ 20 → (-2000 * (20 - (R.length : Int)) - 1000 ≤ v ∧ v ≤ 2000 * (20 - (R.length : Int)) + 1000) → jOI E (jA m) kX10_longThen 9 [VR m, VI one, VI v, VI f] G I (fun x I' => x = v + sumG S R ∧ I' = I) := by
    intro d
    induction d with
    | zero =>
      intro f R i v f0 f1 hc ho hr hv
      have e : f = NF S := by omega
      subst e
      have e2 := hc.nil
      subst e2
      refine st_X10_longThen_9 hm (fun _ _ _ _ => ⟨fun _ => ⟨?_, rfl⟩, fun q => ?_⟩)
      · show v = v + 0
        omega
      · rw [hFI.1] at q
        exact absurd (Int.le_refl _) q
    | succ d ih =>
      intro f R i v f0 f1 hc ho hr hv
      have r := RFa hFI (f := f) f0 (by omega)
      have bd := f_bd hQ hF (f := f) f0 (by omega)
      have of := ho f (Int.le_refl _) (by omega)
      have out : f ∉ R → jIn (f + 1) ∧ jOI E (jA m) kX10_longThen 9 [VR m, VI one, VI v, VI (f + 1)] G I (fun x I' => x = v + sumG S R ∧ I' = I) := fun hn => ⟨⟨by omega, by omega⟩, ih (f + 1) R i v (by omega) (by omega) (hc.up hn) ho.up hr hv⟩
      have inn : f ∈ R → jIn (v + ((I (m + 11) f) - ((I (m + 9) f) - (I (m + 8) f)))) ∧ jIn (f + 1) ∧ jOI E (jA m) kX10_longThen 9 [VR m, VI one, VI (v + ((I (m + 11) f) - ((I (m + 9) f) - (I (m + 8) f)))), VI (f + 1)] G I (fun x I' => x = v + sumG S R ∧ I' = I) := by
        intro hn
        obtain ⟨R', e⟩ := hc.hd hn
        subst e
        have eg : I (m + 11) f - (I (m + 9) f - I (m + 8) f) = grow S f := by rw [r.2.1, r.2.2.1, r.2.2.2.2]; rfl
        rw [eg]
        rw [List.length_cons] at hr hv
        refine ⟨⟨by omega, by omega⟩, ⟨by omega, by omega⟩, ?_⟩
        refine (ih (f + 1) R' _ (v + grow S f) (by omega) (by omega) hc.2.2.2 ho.dn (by omega) ⟨by omega, by omega⟩).mono (fun x I' _ g => ⟨?_, g.2⟩)
        have e : sumG S (f :: R') = grow S f + sumG S R' := by unfold sumG; rw [List.map_cons, List.sum_cons]
        rw [g.1, e]
        omega
      have f12 : (0 : Int) ≤ f ∧ f < 1200 := ⟨f0, by omega⟩
      refine st_X10_longThen_9 hm (fun _ _ _ _ => ⟨fun q => by rw [hFI.1] at q; omega, fun _ => ⟨fun q => ⟨fun q2 => out (fun g => q2 ((of.2 q).mpr g)), fun q2 => ⟨f12, f12, f12, inn ((of.2 q).mp q2)⟩⟩, fun q => ⟨f12, fun _ => ⟨fun q2 => out (fun g => ?_), fun q2 => ⟨f12, f12, f12, inn ?_⟩⟩⟩⟩⟩)
      · rw [of.1 q] at q2
        exact jI_n q2 g
      · rw [of.1 q] at q2
        exact jI_p q2
  have h20 := hQ.1
  refine en_X10_longThen hm (fun _ _ => ?_)
  rw [h2]
  exact loop (FL S).length 0 L 0 (S 2) (by omega) (by omega) hC hO hl ⟨by omega, by omega⟩
theorem sp_X10_along (hm : WX10 G m) (hFI : FI m S (bT S) I (FL S)) (hF : Fnd S (nT S) (bT S) (FL S)) (hN : NF S ≤ 1200) (hQ : QW S) {one p : Int} {L : List Int} (hC : Ch S 0 0 L) (hO : Cho m S one L 0 I) (hl : (L.length : Int) ≤ 20) (hp : -1000000000 ≤ p ∧ p ≤ 1000000000) : jRI E (jA m) kX10_along [VR m, VI p, VI one] G I (fun x I' => x = alng S L p ∧ I' = I) := by
  have hNe : NF S = ((FL S).length : Int) := rfl
  have loop : ∀ (d : Nat) (f : Int) (R : List Int) (i v : Int), 0 ≤ f → f + d = NF S → Ch S f i R → Cho m S one R f I → (R.length : Int) ≤ 20 → (-2000 * (20 - (R.length : Int)) - 1000000000 ≤ v ∧ v ≤ 2000 * (20 - (R.length : Int)) + 1000000000) → jOI E (jA m) kX10_along 5 [VR m, VI p, VI one, VI v, VI f] G I (fun x I' => x = v + sumG S (R.filter (fun f => decide (fE S f ≤ p))) ∧ I' = I) := by
    intro d
    induction d with
    | zero =>
      intro f R i v f0 f1 hc ho hr hv
      have e : f = NF S := by omega
      subst e
      have e2 := hc.nil
      subst e2
      refine st_X10_along_5 hm (fun _ _ _ _ _ => ⟨fun _ => ⟨?_, rfl⟩, fun q => ?_⟩)
      · show v = v + 0
        omega
      · rw [hFI.1] at q
        exact absurd (Int.le_refl _) q
    | succ d ih =>
      intro f R i v f0 f1 hc ho hr hv
      have r := RFa hFI (f := f) f0 (by omega)
      have bd := f_bd hQ hF (f := f) f0 (by omega)
      have of := ho f (Int.le_refl _) (by omega)
      have out : f ∉ R → jIn (f + 1) ∧ jOI E (jA m) kX10_along 5 [VR m, VI p, VI one, VI v, VI (f + 1)] G I (fun x I' => x = v + sumG S (R.filter (fun f => decide (fE S f ≤ p))) ∧ I' = I) := fun hn => ⟨⟨by omega, by omega⟩, ih (f + 1) R i v (by omega) (by omega) (hc.up hn) ho.up hr hv⟩
      have f12 : (0 : Int) ≤ f ∧ f < 1200 := ⟨f0, by omega⟩
      have inn : f ∈ R → ((0 : Int) ≤ f ∧ f < 1200) ∧ ((p < (I (m + 9) f) → jIn (f + 1) ∧ jOI E (jA m) kX10_along 5 [VR m, VI p, VI one, VI v, VI (f + 1)] G I (fun x I' => x = v + sumG S (R.filter (fun f => decide (fE S f ≤ p))) ∧ I' = I)) ∧ (¬ p < (I (m + 9) f) → ((0 : Int) ≤ f ∧ f < 1200) ∧ ((0 : Int) ≤ f ∧ f < 1200) ∧ ((0 : Int) ≤ f ∧ f < 1200) ∧ jIn (v + ((I (m + 11) f) - ((I (m + 9) f) - (I (m + 8) f)))) ∧ jIn (f + 1) ∧ jOI E (jA m) kX10_along 5 [VR m, VI p, VI one, VI (v + ((I (m + 11) f) - ((I (m + 9) f) - (I (m + 8) f)))), VI (f + 1)] G I (fun x I' => x = v + sumG S (R.filter (fun f => decide (fE S f ≤ p))) ∧ I' = I))) := by
        intro hn
        obtain ⟨R', e⟩ := hc.hd hn
        subst e
        have eg : I (m + 11) f - (I (m + 9) f - I (m + 8) f) = grow S f := by rw [r.2.1, r.2.2.1, r.2.2.2.2]; rfl
        rw [eg]
        rw [List.length_cons] at hr hv
        rw [r.2.2.1]
        refine ⟨f12, fun q => ⟨⟨by omega, by omega⟩, ?_⟩, fun q => ⟨f12, f12, f12, ⟨by omega, by omega⟩, ⟨by omega, by omega⟩, ?_⟩⟩
        · refine (ih (f + 1) R' _ v (by omega) (by omega) hc.2.2.2 ho.dn (by omega) ⟨by omega, by omega⟩).mono (fun x I' _ g => ⟨?_, g.2⟩)
          rw [g.1, List.filter_cons_of_neg (by simpa using q)]
        · refine (ih (f + 1) R' _ (v + grow S f) (by omega) (by omega) hc.2.2.2 ho.dn (by omega) ⟨by omega, by omega⟩).mono (fun x I' _ g => ⟨?_, g.2⟩)
          rw [g.1, List.filter_cons_of_pos (by simpa using q)]
          have e : ∀ X, sumG S (f :: X) = grow S f + sumG S X := fun X => by unfold sumG; rw [List.map_cons, List.sum_cons]
          rw [e]
          omega
      refine st_X10_along_5 hm (fun _ _ _ _ _ => ⟨fun q => by rw [hFI.1] at q; omega, fun _ => ⟨fun q => ⟨fun q2 => out (fun g => q2 ((of.2 q).mpr g)), fun q2 => inn ((of.2 q).mp q2)⟩, fun q => ⟨f12, fun _ => ⟨fun q2 => out (fun g => ?_), fun q2 => inn ?_⟩⟩⟩⟩)
      · rw [of.1 q] at q2
        exact jI_n q2 g
      · rw [of.1 q] at q2
        exact jI_p q2
  refine en_X10_along hm (fun _ _ _ => ?_)
  exact loop (FL S).length 0 L 0 p (by omega) (by omega) hC hO hl ⟨by omega, by omega⟩
/-- the new text's rows -/
def NT (m : Nat) (I : jM) (P : List (Int × Int)) : Prop := I m 24 = P.length ∧ ∀ i : Nat, i < P.length → I (m + 18) i = (P.getD i (0, 0)).1 ∧ I (m + 19) i = (P.getD i (0, 0)).2
def WN (m : Nat) (I I' : jM) : Prop := ∀ a j, a ≠ m + 5 → a ≠ m + 6 → a ≠ m + 18 → a ≠ m + 19 → (a ≠ m ∨ (j ≠ 7 ∧ j ≠ 24)) → I' a j = I a j
theorem WN.trans {m : Nat} {I I' I'' : jM} (h : WN m I I') (h' : WN m I' I'') : WN m I I'' := fun a j h1 h2 h3 h4 h5 => (h' a j h1 h2 h3 h4 h5).trans (h a j h1 h2 h3 h4 h5)
theorem sp_X10_writeNew (hm : WX10 G m) {P : List (Int × Int)} (h : NT m I P) (hl : P.length < 200) {c p : Int} : jRV E (jA m) kX10_writeNew [VR m, VI c, VI p] G I (fun I' => NT m I' (P ++ [(c, p)]) ∧ WN m I I' ∧ ∀ a j, a ≠ m + 18 → a ≠ m + 19 → (a ≠ m ∨ j ≠ 24) → I' a j = I a j) := by
  have h24 := h.1
  refine en_X10_writeNew hm (fun _ _ _ => ⟨⟨by omega, by omega⟩, fun M2 e2 => ⟨⟨by omega, by omega⟩, fun M4 e4 => ⟨⟨by omega, by omega⟩, fun M5 e5 => ?_⟩⟩⟩)
  have fr : ∀ a j, a ≠ m + 18 → a ≠ m + 19 → (a ≠ m ∨ j ≠ 24) → M5 a j = I a j := by
    intro a j h1 h2 h3
    have e : M5 a j = M4 a j := by
      rcases h3 with h3 | h3
      · exact jr_na e5 h3
      · exact jr_nj e5 h3
    rw [e, jr_na e4 h2, jr_na e2 h1]
  refine ⟨⟨?_, fun i hi => ?_⟩, fun a j h1 h2 h3 h4 h5 => fr a j h3 h4 (by omega), fr⟩
  · rw [jr_eq e5, h24, List.length_append]
    simp
  · rw [List.length_append] at hi
    simp only [List.length_cons, List.length_nil] at hi
    rw [jr_na e5 (by omega), jr_na e5 (by omega), jr_na e4 (by omega)]
    by_cases e : i = P.length
    · subst e
      rw [← h24, jr_eq e2, jr_eq e4]
      simp
    · have g := h.2 i (by omega)
      rw [jr_nj e2 (by omega), jr_nj e4 (by omega), jr_na e2 (by omega)]
      rw [gd_left (by omega)]
      exact g
end RM
