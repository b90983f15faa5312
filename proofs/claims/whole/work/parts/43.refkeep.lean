/-! ===== blocks: the state now, and the steps that were ===== -/
def nrm (S : Int → Int) : Int → Int := fun j => if 2 ≤ j ∧ j < 1054 then S j else 0
def slot (S : Int → Int) (i : Int) : Int → Int := fun j => if 2 ≤ j ∧ j < 1054 then S (1054 + 1052 * ((S 1 + i) % 20) + (j - 2)) else 0
def B0 : Int → Int := fun _ => 0
def AbsR (S : Int → Int) (B : Int → Int) (H : List (Int → Int)) : Prop := B = nrm S ∧ S 0 = H.length ∧ (0 ≤ S 1 ∧ S 1 < 20) ∧ H.length ≤ 20 ∧ ∀ i : Nat, i < H.length → H.getD i B0 = slot S i
def pushH (H : List (Int → Int)) (B : Int → Int) : List (Int → Int) := (if H.length = 20 then H.tail else H) ++ [B]
theorem nrm_at {S : Int → Int} {j : Int} (h : 2 ≤ j ∧ j < 1054) : nrm S j = S j := if_pos h
theorem nrm_eqS (S : Int → Int) : EqS S (nrm S) := fun j hj => nrm_at (by unfold Rel at hj; omega)
theorem AbsR.eqS {S B : Int → Int} {H : List (Int → Int)} (h : AbsR S B H) : EqS S B := by rw [h.1]; exact nrm_eqS S
theorem nrm_congr {S S' : Int → Int} (h : ∀ j, 2 ≤ j → j < 1054 → S' j = S j) : nrm S' = nrm S := by
  funext j
  unfold nrm
  split
  · rename_i q; exact h j q.1 q.2
  · rfl
/-- a change of the block alone -/
theorem AbsR.upd {S S' B : Int → Int} {H : List (Int → Int)} (h : AbsR S B H) (hk : ∀ j, ¬ (2 ≤ j ∧ j < 1054) → S' j = S j) : AbsR S' (nrm S') H := by
  obtain ⟨h1, h2, h3, h4, h5⟩ := h
  have e0 := hk 0 (by omega)
  have e1 := hk 1 (by omega)
  refine ⟨rfl, by omega, by omega, h4, fun i hi => ?_⟩
  rw [h5 i hi]
  funext j
  unfold slot
  rw [e1]
  split
  · exact (hk _ (by omega)).symm
  · rfl
set_option maxRecDepth 20000 in
theorem st_X10_stepAt_0 {E : jE} {A : Nat → Prop} {G : jG} {I : jM} {q : Int → jM → Prop} {x0 : Int} {x1 : Int}  (hT : (∀ a j, jRg (G.2.1 a).1 (I a j)) → jIn x0 → jIn x1 → jIn (x0 + x1) ∧ jIn (1054 + (1052 * (Int.tmod (x0 + x1) 20))) ∧ q (1054 + (1052 * (Int.tmod (x0 + x1) 20))) I) : jOI E A kX10_stepAt 0 [VI x0, VI x1] G I q := by
  intro I0 hF
  refine jOk_mem (fun hI => ?_)
  refine jOk_in (i := 0) rfl (fun hx0 => ?_)
  refine jOk_in (i := 1) rfl (fun hx1 => ?_)
  replace hT := hT hI hx0 hx1
  refine r_sipush (n := 1054) dX10_stepAt_0 (by decide +kernel) ?_
  refine r_sipush (n := 1052) dX10_stepAt_3 (by decide +kernel) ?_
  refine r_iload_n dX10_stepAt_6 rfl (i := 0) rfl ?_
  refine r_iload_n dX10_stepAt_7 rfl (i := 1) rfl ?_
  refine r_iadd dX10_stepAt_8 ?_
  refine r_bipush (n := 20) dX10_stepAt_9 (by decide +kernel) ?_
  obtain ⟨hc1, hT⟩ := hT
  refine r_irem dX10_stepAt_11 hc1 ⟨by decide, by decide⟩ (by decide) ?_
  refine r_imul dX10_stepAt_12 ?_
  refine r_iadd dX10_stepAt_13 ?_
  obtain ⟨hc3, hT⟩ := hT
  exact r_iret dX10_stepAt_14 rfl hc3 ⟨Nat.zero_le _, Nat.zero_le _⟩ ⟨_, rfl, rfl, hF, hT⟩
theorem en_X10_stepAt {E : jE} {A : Nat → Prop} {G : jG} {I : jM} {q : Int → jM → Prop} {x0 : Int} {x1 : Int}  (hT : (∀ a j, jRg (G.2.1 a).1 (I a j)) → jIn x0 → jIn x1 → jIn (x0 + x1) ∧ jIn (1054 + (1052 * (Int.tmod (x0 + x1) 20))) ∧ q (1054 + (1052 * (Int.tmod (x0 + x1) 20))) I) : jRI E A kX10_stepAt [VI x0, VI x1] G I q := jRun.of mt_X10_stepAt.2.2.2 0 rfl (fun _ => st_X10_stepAt_0  hT I (fun _ _ => rfl))
set_option maxRecDepth 20000 in
theorem st_X10_keep_56 {E : jE} {G : jG} {I : jM} {q : jM → Prop} {m : Nat} {x1 : Int} {x2 : Int} (hm : WX10 G m) (hT : (∀ a j, jRg (G.2.1 a).1 (I a j)) → jIn x1 → jIn x2 → ((1052 ≤ x2 → jIn ((I (m + 1) 0) + 1) ∧ (∀ M4, M4 = jup I (m + 1) 0 ((I (m + 1) 0) + 1) → q M4)) ∧ (¬ 1052 ≤ x2 → ((0 : Int) ≤ (2 + x2) ∧ ((2 + x2) : Int) < 22094) ∧ ((0 : Int) ≤ (x1 + x2) ∧ ((x1 + x2) : Int) < 22094) ∧ (∀ M7, M7 = jup I (m + 1) (x1 + x2) (I (m + 1) (2 + x2)) → jIn (x2 + 1) ∧ jOV E (jA m) kX10_keep 56 [VR m, VI x1, VI (x2 + 1)] G M7 q)))) : jOV E (jA m) kX10_keep 56 [VR m, VI x1, VI x2] G I q := by
  intro I0 hF
  refine jOk_mem (fun hI => ?_)
  refine jOk_in (i := 1) rfl (fun hx1 => ?_)
  refine jOk_in (i := 2) rfl (fun hx2 => ?_)
  replace hT := hT hI hx1 hx2
  refine r_iload_n dX10_keep_56 rfl (i := 2) rfl ?_
  refine r_sipush (n := 1052) dX10_keep_57 (by decide +kernel) ?_
  refine r_icmp_ge (tgt := 85) dX10_keep_60 rfl hx2 ⟨by decide, by decide⟩ (fun hcc => ?_) (fun hcc => ?_)
  · replace hT := hT.1 hcc
    refine r_aload_n dX10_keep_85 rfl (i := 0) rfl ?_
    refine rr_getR (b := (m + 1)) dX10_keep_86 fg_X10_7 rfl rfl (wX10_l hm) (wX10_s hm) (wX10_r0 hm) ?_
    refine r_iconst (n := 0) dX10_keep_89 ?_
    refine r_dup2 dX10_keep_90 rfl rfl ?_
    refine rr_iaload (v := I (m + 1) 0) dX10_keep_91 (wX10_l0 hm) (wX10_a0 hm) (by decide) ⟨by decide, by decide⟩ rfl ?_
    refine r_iconst (n := 1) dX10_keep_92 ?_
    refine r_iadd dX10_keep_93 ?_
    obtain ⟨hc3, hT⟩ := hT
    refine rr_iastore dX10_keep_94 (wX10_l0 hm) (wX10_a0 hm) (by decide) ⟨by decide, by decide⟩ hc3 (fun M4 eM4 => ?_)
    have hFM4 := jFr_up hF eM4 (wX10_f hm 1 (by decide))
    replace hT := hT M4 eM4
    refine jOk_mem (fun hIM4 => ?_)
    exact r_vret dX10_keep_95 rfl ⟨Nat.zero_le _, Nat.zero_le _⟩ ⟨rfl, rfl, hFM4, hT⟩
  · replace hT := hT.2 hcc
    refine r_aload_n dX10_keep_63 rfl (i := 0) rfl ?_
    refine rr_getR (b := (m + 1)) dX10_keep_64 fg_X10_7 rfl rfl (wX10_l hm) (wX10_s hm) (wX10_r0 hm) ?_
    refine r_iload_n dX10_keep_67 rfl (i := 1) rfl ?_
    refine r_iload_n dX10_keep_68 rfl (i := 2) rfl ?_
    refine r_iadd dX10_keep_69 ?_
    refine r_aload_n dX10_keep_70 rfl (i := 0) rfl ?_
    refine rr_getR (b := (m + 1)) dX10_keep_71 fg_X10_7 rfl rfl (wX10_l hm) (wX10_s hm) (wX10_r0 hm) ?_
    refine r_iconst (n := 2) dX10_keep_74 ?_
    refine r_iload_n dX10_keep_75 rfl (i := 2) rfl ?_
    refine r_iadd dX10_keep_76 ?_
    obtain ⟨hc5, hT⟩ := hT
    refine rr_iaload (v := I (m + 1) (2 + x2)) dX10_keep_77 (wX10_l0 hm) (wX10_a0 hm) (by decide) hc5 rfl ?_
    obtain ⟨hc6, hT⟩ := hT
    refine rr_iastore dX10_keep_78 (wX10_l0 hm) (wX10_a0 hm) (by decide) hc6 (hI _ _).inR (fun M7 eM7 => ?_)
    have hFM7 := jFr_up hF eM7 (wX10_f hm 1 (by decide))
    replace hT := hT M7 eM7
    refine jOk_mem (fun hIM7 => ?_)
    obtain ⟨hc8, hT⟩ := hT
    refine rr_iinc (i := 2) (ls' := [VR m, VI x1, VI (x2 + 1)]) dX10_keep_79 rfl (Nat.le_of_ble_eq_true rfl) rfl rfl hc8 ?_
    refine r_goto (tgt := 56) dX10_keep_82 rfl ?_
    exact hT I0 hFM7
set_option maxRecDepth 20000 in
theorem st_X10_keep_0 {E : jE} {G : jG} {I : jM} {q : jM → Prop} {m : Nat} (hm : WX10 G m) (hT : (∀ a j, jRg (G.2.1 a).1 (I a j)) → ((¬ (I (m + 1) 0) = 20 → jRI E (jA m) kX10_stepAt [VI (I (m + 1) 1), VI (I (m + 1) 0)] G I (fun r5 I4 => jOV E (jA m) kX10_keep 56 [VR m, VI r5, VI 0] G I4 q)) ∧ ((I (m + 1) 0) = 20 → jIn ((I (m + 1) 1) + 1) ∧ jIn (Int.tmod ((I (m + 1) 1) + 1) 20) ∧ (∀ M12, M12 = jup I (m + 1) 1 (Int.tmod ((I (m + 1) 1) + 1) 20) → jIn ((I (m + 1) 0) - 1) ∧ (∀ M16, M16 = jup M12 (m + 1) 0 ((I (m + 1) 0) - 1) → jRI E (jA m) kX10_stepAt [VI (Int.tmod ((I (m + 1) 1) + 1) 20), VI ((I (m + 1) 0) - 1)] G M16 (fun r20 I19 => jOV E (jA m) kX10_keep 56 [VR m, VI r20, VI 0] G I19 q)))))) : jOV E (jA m) kX10_keep 0 [VR m, VN, VN] G I q := by
  intro I0 hF
  refine jOk_mem (fun hI => ?_)
  replace hT := hT hI 
  refine r_aload_n dX10_keep_0 rfl (i := 0) rfl ?_
  refine rr_getR (b := (m + 1)) dX10_keep_1 fg_X10_7 rfl rfl (wX10_l hm) (wX10_s hm) (wX10_r0 hm) ?_
  refine r_iconst (n := 0) dX10_keep_4 ?_
  refine rr_iaload (v := I (m + 1) 0) dX10_keep_5 (wX10_l0 hm) (wX10_a0 hm) (by decide) ⟨by decide, by decide⟩ rfl ?_
  refine r_bipush (n := 20) dX10_keep_6 (by decide +kernel) ?_
  refine r_icmp_ne (tgt := 38) dX10_keep_8 rfl (hI _ _).inR ⟨by decide, by decide⟩ (fun hcc => ?_) (fun hcc => ?_)
  · replace hT := hT.1 hcc
    refine r_aload_n dX10_keep_38 rfl (i := 0) rfl ?_
    refine rr_getR (b := (m + 1)) dX10_keep_39 fg_X10_7 rfl rfl (wX10_l hm) (wX10_s hm) (wX10_r0 hm) ?_
    refine r_iconst (n := 1) dX10_keep_42 ?_
    refine rr_iaload (v := I (m + 1) 1) dX10_keep_43 (wX10_l0 hm) (wX10_a0 hm) (by decide) ⟨by decide, by decide⟩ rfl ?_
    refine r_aload_n dX10_keep_44 rfl (i := 0) rfl ?_
    refine rr_getR (b := (m + 1)) dX10_keep_45 fg_X10_7 rfl rfl (wX10_l hm) (wX10_s hm) (wX10_r0 hm) ?_
    refine r_iconst (n := 0) dX10_keep_48 ?_
    refine rr_iaload (v := I (m + 1) 0) dX10_keep_49 (wX10_l0 hm) (wX10_a0 hm) (by decide) ⟨by decide, by decide⟩ rfl ?_
    refine rr_cSI (as := [VI (I (m + 1) 1), VI (I (m + 1) 0)]) (st := []) dX10_keep_50 mt_X10_stepAt ml_X10_238 ms_X10_stepAt rm_X10_keep_X10_stepAt jz_X10_stepAt ⟨Nat.zero_le _, Nat.zero_le _⟩ (Nat.le_of_ble_eq_true rfl) (jasI (hI _ _).inR (jasI (hI _ _).inR jas0)) hT (fun r5 I4 hc6 hFI4 hT => ?_)
    replace hFI4 := jFr_tr hF hFI4
    refine jOk_mem (fun hI4 => ?_)
    refine rr_istore_n (i := 1) (ls' := [VR m, VI r5, VN]) dX10_keep_53 rfl (Nat.le_of_ble_eq_true rfl) rfl rfl hc6 ?_
    refine r_iconst (n := 0) dX10_keep_54 ?_
    refine rr_istore_n (i := 2) (ls' := [VR m, VI r5, VI 0]) dX10_keep_55 rfl (Nat.le_of_ble_eq_true rfl) rfl rfl ⟨by decide, by decide⟩ ?_
    exact hT I0 hFI4
  · replace hT := hT.2 hcc
    refine r_aload_n dX10_keep_11 rfl (i := 0) rfl ?_
    refine rr_getR (b := (m + 1)) dX10_keep_12 fg_X10_7 rfl rfl (wX10_l hm) (wX10_s hm) (wX10_r0 hm) ?_
    refine r_iconst (n := 1) dX10_keep_15 ?_
    refine r_aload_n dX10_keep_16 rfl (i := 0) rfl ?_
    refine rr_getR (b := (m + 1)) dX10_keep_17 fg_X10_7 rfl rfl (wX10_l hm) (wX10_s hm) (wX10_r0 hm) ?_
    refine r_iconst (n := 1) dX10_keep_20 ?_
    refine rr_iaload (v := I (m + 1) 1) dX10_keep_21 (wX10_l0 hm) (wX10_a0 hm) (by decide) ⟨by decide, by decide⟩ rfl ?_
    refine r_iconst (n := 1) dX10_keep_22 ?_
    refine r_iadd dX10_keep_23 ?_
    refine r_bipush (n := 20) dX10_keep_24 (by decide +kernel) ?_
    obtain ⟨hc8, hT⟩ := hT
    refine r_irem dX10_keep_26 hc8 ⟨by decide, by decide⟩ (by decide) ?_
    obtain ⟨hc11, hT⟩ := hT
    refine rr_iastore dX10_keep_27 (wX10_l0 hm) (wX10_a0 hm) (by decide) ⟨by decide, by decide⟩ hc11 (fun M12 eM12 => ?_)
    have hFM12 := jFr_up hF eM12 (wX10_f hm 1 (by decide))
    replace hT := hT M12 eM12
    refine jOk_mem (fun hIM12 => ?_)
    refine r_aload_n dX10_keep_28 rfl (i := 0) rfl ?_
    refine rr_getR (b := (m + 1)) dX10_keep_29 fg_X10_7 rfl rfl (wX10_l hm) (wX10_s hm) (wX10_r0 hm) ?_
    refine r_iconst (n := 0) dX10_keep_32 ?_
    refine r_dup2 dX10_keep_33 rfl rfl ?_
    refine rr_iaload (v := I (m + 1) 0) dX10_keep_34 (wX10_l0 hm) (wX10_a0 hm) (by decide) ⟨by decide, by decide⟩ (jr_nj eM12 (by decide)) ?_
    refine r_iconst (n := 1) dX10_keep_35 ?_
    refine r_isub dX10_keep_36 ?_
    obtain ⟨hc15, hT⟩ := hT
    refine rr_iastore dX10_keep_37 (wX10_l0 hm) (wX10_a0 hm) (by decide) ⟨by decide, by decide⟩ hc15 (fun M16 eM16 => ?_)
    have hFM16 := jFr_up hFM12 eM16 (wX10_f hm 1 (by decide))
    replace hT := hT M16 eM16
    refine jOk_mem (fun hIM16 => ?_)
    refine r_aload_n dX10_keep_38 rfl (i := 0) rfl ?_
    refine rr_getR (b := (m + 1)) dX10_keep_39 fg_X10_7 rfl rfl (wX10_l hm) (wX10_s hm) (wX10_r0 hm) ?_
    refine r_iconst (n := 1) dX10_keep_42 ?_
    refine rr_iaload (v := Int.tmod ((I (m + 1) 1) + 1) 20) dX10_keep_43 (wX10_l0 hm) (wX10_a0 hm) (by decide) ⟨by decide, by decide⟩ ((jr_nj eM16 (by decide)).trans (jr_eq eM12)) ?_
    refine r_aload_n dX10_keep_44 rfl (i := 0) rfl ?_
    refine rr_getR (b := (m + 1)) dX10_keep_45 fg_X10_7 rfl rfl (wX10_l hm) (wX10_s hm) (wX10_r0 hm) ?_
    refine r_iconst (n := 0) dX10_keep_48 ?_
    refine rr_iaload (v := (I (m + 1) 0) - 1) dX10_keep_49 (wX10_l0 hm) (wX10_a0 hm) (by decide) ⟨by decide, by decide⟩ (jr_eq eM16) ?_
    refine rr_cSI (as := [VI (Int.tmod ((I (m + 1) 1) + 1) 20), VI ((I (m + 1) 0) - 1)]) (st := []) dX10_keep_50 mt_X10_stepAt ml_X10_238 ms_X10_stepAt rm_X10_keep_X10_stepAt jz_X10_stepAt ⟨Nat.zero_le _, Nat.zero_le _⟩ (Nat.le_of_ble_eq_true rfl) (jasI hc11 (jasI hc15 jas0)) hT (fun r20 I19 hc21 hFI19 hT => ?_)
    replace hFI19 := jFr_tr hFM16 hFI19
    refine jOk_mem (fun hI19 => ?_)
    refine rr_istore_n (i := 1) (ls' := [VR m, VI r20, VN]) dX10_keep_53 rfl (Nat.le_of_ble_eq_true rfl) rfl rfl hc21 ?_
    refine r_iconst (n := 0) dX10_keep_54 ?_
    refine rr_istore_n (i := 2) (ls' := [VR m, VI r20, VI 0]) dX10_keep_55 rfl (Nat.le_of_ble_eq_true rfl) rfl rfl ⟨by decide, by decide⟩ ?_
    exact hT I0 hFI19
theorem en_X10_keep {E : jE} {G : jG} {I : jM} {q : jM → Prop} {m : Nat} (hm : WX10 G m) (hT : (∀ a j, jRg (G.2.1 a).1 (I a j)) → ((¬ (I (m + 1) 0) = 20 → jRI E (jA m) kX10_stepAt [VI (I (m + 1) 1), VI (I (m + 1) 0)] G I (fun r5 I4 => jOV E (jA m) kX10_keep 56 [VR m, VI r5, VI 0] G I4 q)) ∧ ((I (m + 1) 0) = 20 → jIn ((I (m + 1) 1) + 1) ∧ jIn (Int.tmod ((I (m + 1) 1) + 1) 20) ∧ (∀ M12, M12 = jup I (m + 1) 1 (Int.tmod ((I (m + 1) 1) + 1) 20) → jIn ((I (m + 1) 0) - 1) ∧ (∀ M16, M16 = jup M12 (m + 1) 0 ((I (m + 1) 0) - 1) → jRI E (jA m) kX10_stepAt [VI (Int.tmod ((I (m + 1) 1) + 1) 20), VI ((I (m + 1) 0) - 1)] G M16 (fun r20 I19 => jOV E (jA m) kX10_keep 56 [VR m, VI r20, VI 0] G I19 q)))))) : jRV E (jA m) kX10_keep [VR m] G I q := jRun.of mt_X10_keep.2.2.2 2 rfl (fun _ => st_X10_keep_0 hm hT I (fun _ _ => rfl))
set_option maxRecDepth 20000 in
theorem st_X10_undo_39 {E : jE} {G : jG} {I : jM} {q : Int → jM → Prop} {m : Nat} {x1 : Int} {x2 : Int} (hm : WX10 G m) (hT : (∀ a j, jRg (G.2.1 a).1 (I a j)) → jIn x1 → jIn x2 → ((1052 ≤ x2 → q (I (m + 1) 0) I) ∧ (¬ 1052 ≤ x2 → ((0 : Int) ≤ (x1 + x2) ∧ ((x1 + x2) : Int) < 22094) ∧ ((0 : Int) ≤ (2 + x2) ∧ ((2 + x2) : Int) < 22094) ∧ (∀ M4, M4 = jup I (m + 1) (2 + x2) (I (m + 1) (x1 + x2)) → jIn (x2 + 1) ∧ jOI E (jA m) kX10_undo 39 [VR m, VI x1, VI (x2 + 1)] G M4 q)))) : jOI E (jA m) kX10_undo 39 [VR m, VI x1, VI x2] G I q := by
  intro I0 hF
  refine jOk_mem (fun hI => ?_)
  refine jOk_in (i := 1) rfl (fun hx1 => ?_)
  refine jOk_in (i := 2) rfl (fun hx2 => ?_)
  replace hT := hT hI hx1 hx2
  refine r_iload_n dX10_undo_39 rfl (i := 2) rfl ?_
  refine r_sipush (n := 1052) dX10_undo_40 (by decide +kernel) ?_
  refine r_icmp_ge (tgt := 68) dX10_undo_43 rfl hx2 ⟨by decide, by decide⟩ (fun hcc => ?_) (fun hcc => ?_)
  · replace hT := hT.1 hcc
    refine r_aload_n dX10_undo_68 rfl (i := 0) rfl ?_
    refine rr_getR (b := (m + 1)) dX10_undo_69 fg_X10_7 rfl rfl (wX10_l hm) (wX10_s hm) (wX10_r0 hm) ?_
    refine r_iconst (n := 0) dX10_undo_72 ?_
    refine rr_iaload (v := I (m + 1) 0) dX10_undo_73 (wX10_l0 hm) (wX10_a0 hm) (by decide) ⟨by decide, by decide⟩ rfl ?_
    exact r_iret dX10_undo_74 rfl (hI _ _).inR ⟨Nat.zero_le _, Nat.zero_le _⟩ ⟨_, rfl, rfl, hF, hT⟩
  · replace hT := hT.2 hcc
    refine r_aload_n dX10_undo_46 rfl (i := 0) rfl ?_
    refine rr_getR (b := (m + 1)) dX10_undo_47 fg_X10_7 rfl rfl (wX10_l hm) (wX10_s hm) (wX10_r0 hm) ?_
    refine r_iconst (n := 2) dX10_undo_50 ?_
    refine r_iload_n dX10_undo_51 rfl (i := 2) rfl ?_
    refine r_iadd dX10_undo_52 ?_
    refine r_aload_n dX10_undo_53 rfl (i := 0) rfl ?_
    refine rr_getR (b := (m + 1)) dX10_undo_54 fg_X10_7 rfl rfl (wX10_l hm) (wX10_s hm) (wX10_r0 hm) ?_
    refine r_iload_n dX10_undo_57 rfl (i := 1) rfl ?_
    refine r_iload_n dX10_undo_58 rfl (i := 2) rfl ?_
    refine r_iadd dX10_undo_59 ?_
    obtain ⟨hc2, hT⟩ := hT
    refine rr_iaload (v := I (m + 1) (x1 + x2)) dX10_undo_60 (wX10_l0 hm) (wX10_a0 hm) (by decide) hc2 rfl ?_
    obtain ⟨hc3, hT⟩ := hT
    refine rr_iastore dX10_undo_61 (wX10_l0 hm) (wX10_a0 hm) (by decide) hc3 (hI _ _).inR (fun M4 eM4 => ?_)
    have hFM4 := jFr_up hF eM4 (wX10_f hm 1 (by decide))
    replace hT := hT M4 eM4
    refine jOk_mem (fun hIM4 => ?_)
    obtain ⟨hc5, hT⟩ := hT
    refine rr_iinc (i := 2) (ls' := [VR m, VI x1, VI (x2 + 1)]) dX10_undo_62 rfl (Nat.le_of_ble_eq_true rfl) rfl rfl hc5 ?_
    refine r_goto (tgt := 39) dX10_undo_65 rfl ?_
    exact hT I0 hFM4
set_option maxRecDepth 20000 in
theorem st_X10_undo_0 {E : jE} {G : jG} {I : jM} {q : Int → jM → Prop} {m : Nat} (hm : WX10 G m) (hT : (∀ a j, jRg (G.2.1 a).1 (I a j)) → ((¬ (I (m + 1) 0) = 0 → jIn ((I (m + 1) 0) - 1) ∧ (∀ M5, M5 = jup I (m + 1) 0 ((I (m + 1) 0) - 1) → jRI E (jA m) kX10_stepAt [VI (I (m + 1) 1), VI ((I (m + 1) 0) - 1)] G M5 (fun r9 I8 => jOI E (jA m) kX10_undo 39 [VR m, VI r9, VI 0] G I8 q))) ∧ ((I (m + 1) 0) = 0 → q (-1) I))) : jOI E (jA m) kX10_undo 0 [VR m, VN, VN] G I q := by
  intro I0 hF
  refine jOk_mem (fun hI => ?_)
  replace hT := hT hI 
  refine r_aload_n dX10_undo_0 rfl (i := 0) rfl ?_
  refine rr_getR (b := (m + 1)) dX10_undo_1 fg_X10_7 rfl rfl (wX10_l hm) (wX10_s hm) (wX10_r0 hm) ?_
  refine r_iconst (n := 0) dX10_undo_4 ?_
  refine rr_iaload (v := I (m + 1) 0) dX10_undo_5 (wX10_l0 hm) (wX10_a0 hm) (by decide) ⟨by decide, by decide⟩ rfl ?_
  refine r_if_ne (tgt := 11) dX10_undo_6 rfl (hI _ _).inR (fun hcc => ?_) (fun hcc => ?_)
  · replace hT := hT.1 hcc
    refine r_aload_n dX10_undo_11 rfl (i := 0) rfl ?_
    refine rr_getR (b := (m + 1)) dX10_undo_12 fg_X10_7 rfl rfl (wX10_l hm) (wX10_s hm) (wX10_r0 hm) ?_
    refine r_iconst (n := 0) dX10_undo_15 ?_
    refine r_dup2 dX10_undo_16 rfl rfl ?_
    refine rr_iaload (v := I (m + 1) 0) dX10_undo_17 (wX10_l0 hm) (wX10_a0 hm) (by decide) ⟨by decide, by decide⟩ rfl ?_
    refine r_iconst (n := 1) dX10_undo_18 ?_
    refine r_isub dX10_undo_19 ?_
    obtain ⟨hc4, hT⟩ := hT
    refine rr_iastore dX10_undo_20 (wX10_l0 hm) (wX10_a0 hm) (by decide) ⟨by decide, by decide⟩ hc4 (fun M5 eM5 => ?_)
    have hFM5 := jFr_up hF eM5 (wX10_f hm 1 (by decide))
    replace hT := hT M5 eM5
    refine jOk_mem (fun hIM5 => ?_)
    refine r_aload_n dX10_undo_21 rfl (i := 0) rfl ?_
    refine rr_getR (b := (m + 1)) dX10_undo_22 fg_X10_7 rfl rfl (wX10_l hm) (wX10_s hm) (wX10_r0 hm) ?_
    refine r_iconst (n := 1) dX10_undo_25 ?_
    refine rr_iaload (v := I (m + 1) 1) dX10_undo_26 (wX10_l0 hm) (wX10_a0 hm) (by decide) ⟨by decide, by decide⟩ (jr_nj eM5 (by decide)) ?_
    refine r_aload_n dX10_undo_27 rfl (i := 0) rfl ?_
    refine rr_getR (b := (m + 1)) dX10_undo_28 fg_X10_7 rfl rfl (wX10_l hm) (wX10_s hm) (wX10_r0 hm) ?_
    refine r_iconst (n := 0) dX10_undo_31 ?_
    refine rr_iaload (v := (I (m + 1) 0) - 1) dX10_undo_32 (wX10_l0 hm) (wX10_a0 hm) (by decide) ⟨by decide, by decide⟩ (jr_eq eM5) ?_
    refine rr_cSI (as := [VI (I (m + 1) 1), VI ((I (m + 1) 0) - 1)]) (st := []) dX10_undo_33 mt_X10_stepAt ml_X10_238 ms_X10_stepAt rm_X10_undo_X10_stepAt jz_X10_stepAt ⟨Nat.zero_le _, Nat.zero_le _⟩ (Nat.le_of_ble_eq_true rfl) (jasI (hI _ _).inR (jasI hc4 jas0)) hT (fun r9 I8 hc10 hFI8 hT => ?_)
    replace hFI8 := jFr_tr hFM5 hFI8
    refine jOk_mem (fun hI8 => ?_)
    refine rr_istore_n (i := 1) (ls' := [VR m, VI r9, VN]) dX10_undo_36 rfl (Nat.le_of_ble_eq_true rfl) rfl rfl hc10 ?_
    refine r_iconst (n := 0) dX10_undo_37 ?_
    refine rr_istore_n (i := 2) (ls' := [VR m, VI r9, VI 0]) dX10_undo_38 rfl (Nat.le_of_ble_eq_true rfl) rfl rfl ⟨by decide, by decide⟩ ?_
    exact hT I0 hFI8
  · replace hT := hT.2 hcc
    refine r_iconst (n := (-1)) dX10_undo_9 ?_
    exact r_iret dX10_undo_10 rfl ⟨by decide, by decide⟩ ⟨Nat.zero_le _, Nat.zero_le _⟩ ⟨_, rfl, rfl, hF, hT⟩
theorem en_X10_undo {E : jE} {G : jG} {I : jM} {q : Int → jM → Prop} {m : Nat} (hm : WX10 G m) (hT : (∀ a j, jRg (G.2.1 a).1 (I a j)) → ((¬ (I (m + 1) 0) = 0 → jIn ((I (m + 1) 0) - 1) ∧ (∀ M5, M5 = jup I (m + 1) 0 ((I (m + 1) 0) - 1) → jRI E (jA m) kX10_stepAt [VI (I (m + 1) 1), VI ((I (m + 1) 0) - 1)] G M5 (fun r9 I8 => jOI E (jA m) kX10_undo 39 [VR m, VI r9, VI 0] G I8 q))) ∧ ((I (m + 1) 0) = 0 → q (-1) I))) : jRI E (jA m) kX10_undo [VR m] G I q := jRun.of mt_X10_undo.2.2.2 2 rfl (fun _ => st_X10_undo_0 hm hT I (fun _ _ => rfl))
section RK
variable {E : jE} {G : jG} {m : Nat} {S B : Int → Int} {H : List (Int → Int)} {I : jM}
theorem sp_X10_stepAt {A : Nat → Prop} {f i : Int} (hf : 0 ≤ f ∧ f < 20) (hi : 0 ≤ i ∧ i ≤ 20) : jRI E A kX10_stepAt [VI f, VI i] G I (fun x I' => x = 1054 + 1052 * ((f + i) % 20) ∧ I' = I) := by
  have e : Int.tmod (f + i) 20 = (f + i) % 20 := Int.tmod_eq_emod_of_nonneg (by omega)
  refine en_X10_stepAt (fun _ _ _ => ⟨⟨by omega, by omega⟩, ?_⟩)
  rw [e]
  exact ⟨⟨by omega, by omega⟩, rfl, rfl⟩
theorem keep_loop (hm : WX10 G m) {p : Int} (hp : 0 ≤ p ∧ p < 20) {T : Int → Int} (hT0 : 0 ≤ T 0 ∧ T 0 ≤ 19) {q : jM → Prop} (hq : ∀ I', (∀ j, I' (m + 1) j = if j = 0 then T 0 + 1 else if 1054 + 1052 * p ≤ j ∧ j < 1054 + 1052 * p + 1052 then T (2 + (j - (1054 + 1052 * p))) else T j) → (∀ a j, a ≠ m + 1 → I' a j = I a j) → q I') : ∀ (d : Nat) (k : Int), 0 ≤ k → k + d = 1052 → ∀ I1 : jM, (∀ j, I1 (m + 1) j = if 1054 + 1052 * p ≤ j ∧ j < 1054 + 1052 * p + k then T (2 + (j - (1054 + 1052 * p))) else T j) → (∀ a j, a ≠ m + 1 → I1 a j = I a j) → jOV E (jA m) kX10_keep 56 [VR m, VI (1054 + 1052 * p), VI k] G I1 q := by
  intro d
  induction d with
  | zero =>
    intro k k0 k1 I1 hj hW
    have e0 : I1 (m + 1) 0 = T 0 := by rw [hj]; exact if_neg (by omega)
    refine st_X10_keep_56 hm (fun _ _ _ => ⟨fun _ => ⟨by rw [e0]; exact ⟨by omega, by omega⟩, fun M4 e4 => hq M4 (fun j => ?_) (fun a j ha => by rw [jr_na e4 ha]; exact hW a j ha)⟩, fun q => by omega⟩)
    by_cases hj0 : j = 0
    · rw [hj0, jr_eq e4, e0, if_pos rfl]
    · rw [jr_nj e4 hj0, hj, if_neg hj0, show k = 1052 by omega]
  | succ d ih =>
    intro k k0 k1 I1 hj hW
    have es : I1 (m + 1) (2 + k) = T (2 + k) := by rw [hj]; exact if_neg (by omega)
    refine st_X10_keep_56 hm (fun _ _ _ => ⟨fun q => by omega, fun _ => ⟨⟨by omega, by omega⟩, ⟨by omega, by omega⟩, fun M7 e7 => ⟨⟨by omega, by omega⟩, ?_⟩⟩⟩)
    refine ih (k + 1) (by omega) (by omega) M7 (fun j => ?_) (fun a j ha => by rw [jr_na e7 ha]; exact hW a j ha)
    by_cases q : j = 1054 + 1052 * p + k
    · rw [q, jr_eq e7, if_pos (by omega), es]
      congr 1
      omega
    · rw [jr_nj e7 q, hj]
      by_cases q2 : 1054 + 1052 * p ≤ j ∧ j < 1054 + 1052 * p + k
      · rw [if_pos q2, if_pos (by omega)]
      · rw [if_neg q2, if_neg (by omega)]
theorem sp_X10_keep (hm : WX10 G m) (hS : I (m + 1) = S) (hA : AbsR S B H) : jRV E (jA m) kX10_keep [VR m] G I (fun I' => ∃ S', I' (m + 1) = S' ∧ (∀ j, 2 ≤ j → j < 1054 → S' j = S j) ∧ AbsR S' B (pushH H B) ∧ ∀ a j, a ≠ m + 1 → I' a j = I a j) := by
  obtain ⟨h1, h2, h3, h4, h5⟩ := hA
  refine en_X10_keep hm (fun _ => ⟨fun q => ?_, fun q => ?_⟩)
  · rw [hS] at q ⊢
    refine (sp_X10_stepAt h3 ⟨by omega, by omega⟩).mono (fun x I4 _ _ hx => ?_)
    obtain ⟨rfl, rfl⟩ := hx
    refine keep_loop (I := I4) (T := S) hm ⟨by omega, by omega⟩ ⟨by omega, by omega⟩ (fun I' e' hW => ?_) 1052 0 (by omega) (by omega) I4 (fun j => by rw [if_neg (by omega), hS]) (fun _ _ _ => rfl)
    refine ⟨I' (m + 1), rfl, fun j j0 j1 => ?_, ?_, hW⟩
    · rw [e', if_neg (by omega), if_neg (by omega)]
    · have hH : H.length ≠ 20 := by omega
      unfold pushH
      rw [if_neg hH]
      refine ⟨?_, ?_, ?_, ?_, fun i hi => ?_⟩
      · rw [h1]
        refine (nrm_congr (fun j j0 j1 => ?_)).symm
        rw [e', if_neg (by omega), if_neg (by omega)]
      · rw [e', if_pos rfl, List.length_append]
        simp
        omega
      · rw [e', if_neg (by omega), if_neg (by omega)]
        exact h3
      · rw [List.length_append]
        simp
        omega
      · rw [List.length_append] at hi
        simp only [List.length_cons, List.length_nil] at hi
        have e1 : I' (m + 1) 1 = S 1 := by rw [e', if_neg (by omega), if_neg (by omega)]
        by_cases e : i = H.length
        · rw [e, List.getD_eq_getElem?_getD, List.getElem?_append_right (by omega)]
          simp only [Nat.sub_self]
          show B = _
          rw [h1]
          funext j
          unfold slot nrm
          rw [e1]
          split
          · rename_i hj
            rw [← h2, e', if_neg (by omega), if_pos (by omega)]
            congr 1
            omega
          · rfl
        · rw [gd_left (by omega), h5 i (by omega)]
          funext j
          unfold slot
          rw [e1]
          split
          · rename_i hj
            rw [e', if_neg (by omega), if_neg (by omega)]
          · rfl
  · rw [hS] at q ⊢
    have et : Int.tmod (S 1 + 1) 20 = (S 1 + 1) % 20 := Int.tmod_eq_emod_of_nonneg (by omega)
    rw [et]
    refine ⟨⟨by omega, by omega⟩, ⟨by omega, by omega⟩, fun M12 e12 => ⟨⟨by omega, by omega⟩, fun M16 e16 => ?_⟩⟩
    refine (sp_X10_stepAt ⟨by omega, by omega⟩ ⟨by omega, by omega⟩).mono (fun x I19 _ _ hx => ?_)
    obtain ⟨rfl, rfl⟩ := hx
    let T : Int → Int := fun j => if j = 0 then 19 else if j = 1 then (S 1 + 1) % 20 else S j
    have hT : I19 (m + 1) = T := by
      funext j
      show _ = (if j = 0 then 19 else if j = 1 then (S 1 + 1) % 20 else S j)
      by_cases q0 : j = 0
      · rw [q0, jr_eq e16, if_pos rfl, q]; rfl
      · rw [jr_nj e16 q0, if_neg q0]
        by_cases q1 : j = 1
        · rw [q1, jr_eq e12, if_pos rfl]
        · rw [jr_nj e12 q1, if_neg q1, hS]
    have hT0 : T 0 = 19 := rfl
    have hT1 : T 1 = (S 1 + 1) % 20 := rfl
    have hTo : ∀ j, j ≠ 0 → j ≠ 1 → T j = S j := fun j j0 j1 => by
      show (if j = 0 then 19 else if j = 1 then (S 1 + 1) % 20 else S j) = S j
      rw [if_neg j0, if_neg j1]
    refine keep_loop (I := I19) (T := T) (p := ((S 1 + 1) % 20 + (S 0 - 1)) % 20) hm ⟨by omega, by omega⟩ ⟨by omega, by omega⟩ (fun I' e' hW => ?_) 1052 0 (by omega) (by omega) I19 (fun j => by rw [if_neg (by omega), hT]) (fun _ _ _ => rfl)
    refine ⟨I' (m + 1), rfl, fun j j0 j1 => ?_, ?_, fun a j ha => by rw [hW a j ha, jr_na e16 ha, jr_na e12 ha]⟩
    · rw [e', if_neg (by omega), if_neg (by omega), hTo j (by omega) (by omega)]
    · have hH : H.length = 20 := by omega
      unfold pushH
      rw [if_pos hH]
      have hl : H.tail.length = 19 := by rw [List.length_tail]; omega
      have e1 : I' (m + 1) 1 = (S 1 + 1) % 20 := by rw [e', if_neg (by omega), if_neg (by omega), hT1]
      refine ⟨?_, ?_, ?_, ?_, fun i hi => ?_⟩
      · rw [h1]
        refine (nrm_congr (fun j j0 j1 => ?_)).symm
        rw [e', if_neg (by omega), if_neg (by omega), hTo j (by omega) (by omega)]
      · rw [e', if_pos rfl, List.length_append, hl]
        rfl
      · rw [e1]
        exact ⟨by omega, by omega⟩
      · rw [List.length_append, hl]
        simp
      · rw [List.length_append, hl] at hi
        simp only [List.length_cons, List.length_nil] at hi
        by_cases e : i = 19
        · rw [e, List.getD_eq_getElem?_getD, List.getElem?_append_right (by omega), hl]
          simp only [Nat.sub_self]
          show B = _
          rw [h1]
          funext j
          unfold slot nrm
          rw [e1]
          split
          · rename_i hj
            rw [e', if_neg (by omega), if_pos (by omega), hTo _ (by omega) (by omega)]
            congr 1
            omega
          · rfl
        · rw [gd_left (by omega)]
          have et : H.tail.getD i B0 = H.getD (i + 1) B0 := by
            rw [List.getD_eq_getElem?_getD, List.getD_eq_getElem?_getD, List.getElem?_tail]
          rw [et, h5 (i + 1) (by omega)]
          funext j
          unfold slot
          rw [e1]
          split
          · rename_i hj
            rw [e', if_neg (by omega), if_neg (by omega), hTo _ (by omega) (by omega)]
            congr 1
            omega
          · rfl
theorem sp_X10_undo (hm : WX10 G m) (hS : I (m + 1) = S) (hA : AbsR S B H) : jRI E (jA m) kX10_undo [VR m] G I (fun x I' => (H = [] → x = -1 ∧ I' = I) ∧ (H ≠ [] → x = H.length - 1 ∧ ∃ S', I' (m + 1) = S' ∧ AbsR S' (H.getD (H.length - 1) B0) H.dropLast ∧ ∀ a j, a ≠ m + 1 → I' a j = I a j)) := by
  have hA' := hA
  obtain ⟨h1, h2, h3, h4, h5⟩ := hA
  refine en_X10_undo hm (fun _ => ⟨fun q => ?_, fun q => ⟨fun _ => ⟨rfl, rfl⟩, fun hn => ?_⟩⟩)
  · rw [hS] at q ⊢
    have hne : 0 < H.length := by omega
    refine ⟨⟨by omega, by omega⟩, fun M5 e5 => ?_⟩
    refine (sp_X10_stepAt h3 ⟨by omega, by omega⟩).mono (fun x I8 _ _ hx => ?_)
    obtain ⟨rfl, rfl⟩ := hx
    have h50 : ∀ j, I8 (m + 1) j = if j = 0 then S 0 - 1 else S j := fun j => by
      by_cases q0 : j = 0
      · rw [q0, jr_eq e5, if_pos rfl]
      · rw [jr_nj e5 q0, if_neg q0, hS]
    have loop : ∀ (d : Nat) (k : Int), 0 ≤ k → k + d = 1052 → ∀ I1 : jM, (∀ j, I1 (m + 1) j = if j = 0 then S 0 - 1 else if 2 ≤ j ∧ j < 2 + k then slot S (S 0 - 1) j else S j) → (∀ a j, a ≠ m + 1 → I1 a j = I a j) → jOI E (jA m) kX10_undo 39 [VR m, VI (1054 + 1052 * ((S 1 + (S 0 - 1)) % 20)), VI k] G I1 (fun x I' => (H = [] → x = -1 ∧ I' = I) ∧ (H ≠ [] → x = H.length - 1 ∧ ∃ S', I' (m + 1) = S' ∧ AbsR S' (H.getD (H.length - 1) B0) H.dropLast ∧ ∀ a j, a ≠ m + 1 → I' a j = I a j)) := by
      intro d
      induction d with
      | zero =>
        intro k k0 k1 I1 hj hW
        refine st_X10_undo_39 hm (fun _ _ _ => ⟨fun _ => ⟨fun e => by rw [e] at hne; simp at hne, fun _ => ⟨?_, _, rfl, ?_, hW⟩⟩, fun q => by omega⟩)
        · rw [hj, if_pos rfl]
          omega
        · have e0 : I1 (m + 1) 0 = S 0 - 1 := by rw [hj, if_pos rfl]
          have e1 : I1 (m + 1) 1 = S 1 := by rw [hj, if_neg (by omega), if_neg (by omega)]
          refine ⟨?_, ?_, ?_, ?_, fun i hi => ?_⟩
          · rw [h5 (H.length - 1) (by omega), show ((H.length - 1 : Nat) : Int) = S 0 - 1 by omega]
            funext j
            unfold nrm
            by_cases hj2 : 2 ≤ j ∧ j < 1054
            · rw [if_pos hj2, hj, if_neg (by omega), if_pos (by omega)]
            · rw [if_neg hj2]
              unfold slot
              rw [if_neg hj2]
          · rw [e0, List.length_dropLast]
            omega
          · rw [e1]; exact h3
          · rw [List.length_dropLast]; omega
          · rw [List.length_dropLast] at hi
            have ed : H.dropLast.getD i B0 = H.getD i B0 := by
              rw [List.getD_eq_getElem?_getD, List.getD_eq_getElem?_getD, List.getElem?_dropLast, if_pos hi]
            rw [ed, h5 i (by omega)]
            funext j
            unfold slot
            rw [e1]
            split
            · rename_i hj2
              rw [hj, if_neg (by omega), if_neg (by omega)]
            · rfl
      | succ d ih =>
        intro k k0 k1 I1 hj hW
        refine st_X10_undo_39 hm (fun _ _ _ => ⟨fun q => by omega, fun _ => ⟨⟨by omega, by omega⟩, ⟨by omega, by omega⟩, fun M4 e4 => ⟨⟨by omega, by omega⟩, ?_⟩⟩⟩)
        refine ih (k + 1) (by omega) (by omega) M4 (fun j => ?_) (fun a j ha => by rw [jr_na e4 ha]; exact hW a j ha)
        by_cases q : j = 2 + k
        · rw [q, jr_eq e4, if_neg (by omega), if_pos (by omega), hj, if_neg (by omega), if_neg (by omega)]
          unfold slot
          rw [if_pos (by omega)]
          congr 1
          omega
        · rw [jr_nj e4 q, hj]
          by_cases q0 : j = 0
          · rw [if_pos q0, if_pos q0]
          · rw [if_neg q0, if_neg q0]
            by_cases q2 : 2 ≤ j ∧ j < 2 + k
            · rw [if_pos q2, if_pos (by omega)]
            · rw [if_neg q2, if_neg (by omega)]
    exact loop 1052 0 (by omega) (by omega) I8 (fun j => by rw [h50]; split <;> simp; omega) (fun a j ha => jr_na e5 ha)
  · rw [hS] at q
    have : H.length = 0 := by omega
    exact absurd (List.length_eq_zero_iff.mp this) hn
end RK
