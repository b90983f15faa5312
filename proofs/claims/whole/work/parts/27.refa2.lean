/-! ===== the reference: a rule's output as a whole, spans, values ===== -/
def WL (m : Nat) (I I' : jM) : Prop := ∀ a j, a ≠ m + 5 → a ≠ m + 6 → (a ≠ m ∨ j ≠ 7) → I' a j = I a j
theorem WL.trans {m : Nat} {I I' I'' : jM} (h : WL m I I') (h' : WL m I' I'') : WL m I I'' := fun a j ha hb hc => (h' a j ha hb hc).trans (h a j ha hb hc)
theorem WL.rfl {m : Nat} {I : jM} : WL m I I := fun _ _ _ _ _ => Eq.refl _
theorem WB.wl {m : Nat} {I I' : jM} (h : WB m I I') : WL m I I' := fun a j ha _ _ => h a j ha
theorem WO.wl {m : Nat} {I I' : jM} (h : WO m I I') : WL m I I' := fun a j _ hb hc => h a j hb hc
theorem TO.wl {m : Nat} {S : Int → Int} {n : Int} {b : Int → Int} {I I' : jM} (h : TO m S n b I) (hw : WL m I I') : TO m S n b I' := by
  refine ⟨?_, h.2.1, h.2.2.1, ?_, fun u u0 u1 => ?_⟩
  · rw [← h.1]
    funext j
    exact hw _ _ (by omega) (by omega) (by omega)
  · rw [hw _ _ (by omega) (by omega) (by omega)]
    exact h.2.2.2.1
  · rw [hw _ _ (by omega) (by omega) (by omega), hw _ _ (by omega) (by omega) (by omega)]
    exact h.2.2.2.2 u u0 u1
theorem Bd.wo {S : Int → Int} {r t e : Int} {m : Nat} {I I' : jM} (h : Bd S r t e m I) (hw : WO m I I') : Bd S r t e m I' := by
  intro k k0 k1
  rw [hw _ _ (by omega) (by omega)]
  exact h k k0 k1
/-- the text from i to j -/
def slice (S : Int → Int) (i j : Int) : List Int := stretch (fun k => S (10 + (i + k))) (j - i)
set_option maxRecDepth 20000 in
theorem st_X10_isElse_14 {E : jE} {G : jG} {I : jM} {q : Int → jM → Prop} {m : Nat} {x1 : Int} {x2 : Int} {x3 : Int} (hm : WX10 G m) (hT : (∀ a j, jRg (G.2.1 a).1 (I a j)) → jIn x1 → jIn x2 → jIn x3 → (((I m 7) ≤ x3 → q 0 I) ∧ (¬ (I m 7) ≤ x3 → ((0 : Int) ≤ x3 ∧ (x3 : Int) < 2000) ∧ jIn (x1 + x3) ∧ (0 ≤ 10 + (x1 + x3) ∧ 10 + (x1 + x3) < 22094) ∧ (((I (m + 6) x3) = (I (m + 1) (10 + (x1 + x3))) → jIn (x3 + 1) ∧ jOI E (jA m) kX10_isElse 14 [VR m, VI x1, VI x2, VI (x3 + 1)] G I q) ∧ (¬ (I (m + 6) x3) = (I (m + 1) (10 + (x1 + x3))) → q 1 I))))) : jOI E (jA m) kX10_isElse 14 [VR m, VI x1, VI x2, VI x3] G I q := by
  intro I0 hF
  refine jOk_mem (fun hI => ?_)
  refine jOk_in (i := 1) rfl (fun hx1 => ?_)
  refine jOk_in (i := 2) rfl (fun hx2 => ?_)
  refine jOk_in (i := 3) rfl (fun hx3 => ?_)
  replace hT := hT hI hx1 hx2 hx3
  refine r_iload_n dX10_isElse_14 rfl (i := 3) rfl ?_
  refine r_aload_n dX10_isElse_15 rfl (i := 0) rfl ?_
  refine rr_getI (v := I m 7) dX10_isElse_16 fg_X10_148 rfl (wX10_l hm) (wX10_s hm) rfl ?_
  refine r_icmp_ge (tgt := 46) dX10_isElse_19 rfl hx3 (hI _ _).inR (fun hcc => ?_) (fun hcc => ?_)
  · replace hT := hT.1 hcc
    refine r_iconst (n := 0) dX10_isElse_46 ?_
    exact r_zret dX10_isElse_47 rfl ⟨by decide, by decide⟩ ⟨Nat.zero_le _, Nat.zero_le _⟩ ⟨_, rfl, rfl, hF, hT⟩
  · replace hT := hT.2 hcc
    refine r_aload_n dX10_isElse_22 rfl (i := 0) rfl ?_
    refine rr_getR (b := (m + 6)) dX10_isElse_23 fg_X10_25 rfl rfl (wX10_l hm) (wX10_s hm) (wX10_r6 hm) ?_
    refine r_iload_n dX10_isElse_26 rfl (i := 3) rfl ?_
    obtain ⟨hc1, hT⟩ := hT
    refine rr_iaload (v := I (m + 6) x3) dX10_isElse_27 (wX10_l6 hm) (wX10_a6 hm) (by decide) hc1 rfl ?_
    refine r_aload_n dX10_isElse_28 rfl (i := 0) rfl ?_
    refine r_iload_n dX10_isElse_29 rfl (i := 1) rfl ?_
    refine r_iload_n dX10_isElse_30 rfl (i := 3) rfl ?_
    refine r_iadd dX10_isElse_31 ?_
    obtain ⟨hc2, hT⟩ := hT
    obtain ⟨hc4, hT⟩ := hT
    refine rr_pVI (A := (jA m)) (v := I (m + 1) (10 + (x1 + x3))) (a := m) (as := [VI (x1 + x3)]) (st := [VI (I (m + 6) x3)]) dX10_isElse_32 mt_X10_byteAt ml_X10_120 mi_X10_byteAt rm_X10_isElse_X10_byteAt jz_X10_byteAt ⟨Nat.zero_le _, Nat.zero_le _⟩ (Nat.le_of_ble_eq_true rfl) (wX10_l hm) (wX10_c hm) (jasI hc2 jas0) ((sp_X10_byteAt hm) hc4) (fun hc3 => ?_)
    refine r_icmp_eq (tgt := 40) dX10_isElse_35 rfl (hI _ _).inR hc3 (fun hcc => ?_) (fun hcc => ?_)
    · replace hT := hT.1 hcc
      obtain ⟨hc5, hT⟩ := hT
      refine rr_iinc (i := 3) (ls' := [VR m, VI x1, VI x2, VI (x3 + 1)]) dX10_isElse_40 rfl (Nat.le_of_ble_eq_true rfl) rfl rfl hc5 ?_
      refine r_goto (tgt := 14) dX10_isElse_43 rfl ?_
      exact hT I0 hF
    · replace hT := hT.2 hcc
      refine r_iconst (n := 1) dX10_isElse_38 ?_
      exact r_zret dX10_isElse_39 rfl ⟨by decide, by decide⟩ ⟨Nat.zero_le _, Nat.zero_le _⟩ ⟨_, rfl, rfl, hF, hT⟩
set_option maxRecDepth 20000 in
theorem st_X10_isElse_0 {E : jE} {G : jG} {I : jM} {q : Int → jM → Prop} {m : Nat} {x1 : Int} {x2 : Int} (hm : WX10 G m) (hT : (∀ a j, jRg (G.2.1 a).1 (I a j)) → jIn x1 → jIn x2 → jIn (x2 - x1) ∧ (((I m 7) = (x2 - x1) → jOI E (jA m) kX10_isElse 14 [VR m, VI x1, VI x2, VI 0] G I q) ∧ (¬ (I m 7) = (x2 - x1) → q 1 I))) : jOI E (jA m) kX10_isElse 0 [VR m, VI x1, VI x2, VN] G I q := by
  intro I0 hF
  refine jOk_mem (fun hI => ?_)
  refine jOk_in (i := 1) rfl (fun hx1 => ?_)
  refine jOk_in (i := 2) rfl (fun hx2 => ?_)
  replace hT := hT hI hx1 hx2
  refine r_aload_n dX10_isElse_0 rfl (i := 0) rfl ?_
  refine rr_getI (v := I m 7) dX10_isElse_1 fg_X10_148 rfl (wX10_l hm) (wX10_s hm) rfl ?_
  refine r_iload_n dX10_isElse_4 rfl (i := 2) rfl ?_
  refine r_iload_n dX10_isElse_5 rfl (i := 1) rfl ?_
  refine r_isub dX10_isElse_6 ?_
  obtain ⟨hc1, hT⟩ := hT
  refine r_icmp_eq (tgt := 12) dX10_isElse_7 rfl (hI _ _).inR hc1 (fun hcc => ?_) (fun hcc => ?_)
  · replace hT := hT.1 hcc
    refine r_iconst (n := 0) dX10_isElse_12 ?_
    refine rr_istore_n (i := 3) (ls' := [VR m, VI x1, VI x2, VI 0]) dX10_isElse_13 rfl (Nat.le_of_ble_eq_true rfl) rfl rfl ⟨by decide, by decide⟩ ?_
    exact hT I0 hF
  · replace hT := hT.2 hcc
    refine r_iconst (n := 1) dX10_isElse_10 ?_
    exact r_zret dX10_isElse_11 rfl ⟨by decide, by decide⟩ ⟨Nat.zero_le _, Nat.zero_le _⟩ ⟨_, rfl, rfl, hF, hT⟩
theorem en_X10_isElse {E : jE} {G : jG} {I : jM} {q : Int → jM → Prop} {m : Nat} {x1 : Int} {x2 : Int} (hm : WX10 G m) (hT : (∀ a j, jRg (G.2.1 a).1 (I a j)) → jIn x1 → jIn x2 → jIn (x2 - x1) ∧ (((I m 7) = (x2 - x1) → jOI E (jA m) kX10_isElse 14 [VR m, VI x1, VI x2, VI 0] G I q) ∧ (¬ (I m 7) = (x2 - x1) → q 1 I))) : jRI E (jA m) kX10_isElse [VR m, VI x1, VI x2] G I q := jRun.of mt_X10_isElse.2.2.2 1 rfl (fun _ => st_X10_isElse_0 hm hT I (fun _ _ => rfl))
set_option maxRecDepth 20000 in
theorem st_X10_isSilentSpan_2 {E : jE} {G : jG} {I : jM} {q : Int → jM → Prop} {m : Nat} {x1 : Int} {x2 : Int} {x3 : Int} (hm : WX10 G m) (hT : (∀ a j, jRg (G.2.1 a).1 (I a j)) → jIn x1 → jIn x2 → jIn x3 → (((I (m + 1) 3) ≤ x3 → q 0 I) ∧ (¬ (I (m + 1) 3) ≤ x3 → ((0 : Int) ≤ ((410 + (2 * x3)) + 1) ∧ (((410 + (2 * x3)) + 1) : Int) < 22094) ∧ (((I (m + 1) ((410 + (2 * x3)) + 1)) ≤ x1 → jIn (x3 + 1) ∧ jOI E (jA m) kX10_isSilentSpan 2 [VR m, VI x1, VI x2, VI (x3 + 1)] G I q) ∧ (¬ (I (m + 1) ((410 + (2 * x3)) + 1)) ≤ x1 → ((0 : Int) ≤ (410 + (2 * x3)) ∧ ((410 + (2 * x3)) : Int) < 22094) ∧ ((x2 ≤ (I (m + 1) (410 + (2 * x3))) → jIn (x3 + 1) ∧ jOI E (jA m) kX10_isSilentSpan 2 [VR m, VI x1, VI x2, VI (x3 + 1)] G I q) ∧ (¬ x2 ≤ (I (m + 1) (410 + (2 * x3))) → q 1 I))))))) : jOI E (jA m) kX10_isSilentSpan 2 [VR m, VI x1, VI x2, VI x3] G I q := by
  intro I0 hF
  refine jOk_mem (fun hI => ?_)
  refine jOk_in (i := 1) rfl (fun hx1 => ?_)
  refine jOk_in (i := 2) rfl (fun hx2 => ?_)
  refine jOk_in (i := 3) rfl (fun hx3 => ?_)
  replace hT := hT hI hx1 hx2 hx3
  refine r_iload_n dX10_isSilentSpan_2 rfl (i := 3) rfl ?_
  refine r_aload_n dX10_isSilentSpan_3 rfl (i := 0) rfl ?_
  refine rr_getR (b := (m + 1)) dX10_isSilentSpan_4 fg_X10_7 rfl rfl (wX10_l hm) (wX10_s hm) (wX10_r0 hm) ?_
  refine r_iconst (n := 3) dX10_isSilentSpan_7 ?_
  refine rr_iaload (v := I (m + 1) 3) dX10_isSilentSpan_8 (wX10_l0 hm) (wX10_a0 hm) (by decide) ⟨by decide, by decide⟩ rfl ?_
  refine r_icmp_ge (tgt := 54) dX10_isSilentSpan_9 rfl hx3 (hI _ _).inR (fun hcc => ?_) (fun hcc => ?_)
  · replace hT := hT.1 hcc
    refine r_iconst (n := 0) dX10_isSilentSpan_54 ?_
    exact r_zret dX10_isSilentSpan_55 rfl ⟨by decide, by decide⟩ ⟨Nat.zero_le _, Nat.zero_le _⟩ ⟨_, rfl, rfl, hF, hT⟩
  · replace hT := hT.2 hcc
    refine r_iload_n dX10_isSilentSpan_12 rfl (i := 1) rfl ?_
    refine r_aload_n dX10_isSilentSpan_13 rfl (i := 0) rfl ?_
    refine rr_getR (b := (m + 1)) dX10_isSilentSpan_14 fg_X10_7 rfl rfl (wX10_l hm) (wX10_s hm) (wX10_r0 hm) ?_
    refine r_sipush (n := 410) dX10_isSilentSpan_17 (by decide +kernel) ?_
    refine r_iconst (n := 2) dX10_isSilentSpan_20 ?_
    refine r_iload_n dX10_isSilentSpan_21 rfl (i := 3) rfl ?_
    refine r_imul dX10_isSilentSpan_22 ?_
    refine r_iadd dX10_isSilentSpan_23 ?_
    refine r_iconst (n := 1) dX10_isSilentSpan_24 ?_
    refine r_iadd dX10_isSilentSpan_25 ?_
    obtain ⟨hc2, hT⟩ := hT
    refine rr_iaload (v := I (m + 1) ((410 + (2 * x3)) + 1)) dX10_isSilentSpan_26 (wX10_l0 hm) (wX10_a0 hm) (by decide) hc2 rfl ?_
    refine r_icmp_ge (tgt := 48) dX10_isSilentSpan_27 rfl hx1 (hI _ _).inR (fun hcc => ?_) (fun hcc => ?_)
    · replace hT := hT.1 hcc
      obtain ⟨hc3, hT⟩ := hT
      refine rr_iinc (i := 3) (ls' := [VR m, VI x1, VI x2, VI (x3 + 1)]) dX10_isSilentSpan_48 rfl (Nat.le_of_ble_eq_true rfl) rfl rfl hc3 ?_
      refine r_goto (tgt := 2) dX10_isSilentSpan_51 rfl ?_
      exact hT I0 hF
    · replace hT := hT.2 hcc
      refine r_aload_n dX10_isSilentSpan_30 rfl (i := 0) rfl ?_
      refine rr_getR (b := (m + 1)) dX10_isSilentSpan_31 fg_X10_7 rfl rfl (wX10_l hm) (wX10_s hm) (wX10_r0 hm) ?_
      refine r_sipush (n := 410) dX10_isSilentSpan_34 (by decide +kernel) ?_
      refine r_iconst (n := 2) dX10_isSilentSpan_37 ?_
      refine r_iload_n dX10_isSilentSpan_38 rfl (i := 3) rfl ?_
      refine r_imul dX10_isSilentSpan_39 ?_
      refine r_iadd dX10_isSilentSpan_40 ?_
      obtain ⟨hc4, hT⟩ := hT
      refine rr_iaload (v := I (m + 1) (410 + (2 * x3))) dX10_isSilentSpan_41 (wX10_l0 hm) (wX10_a0 hm) (by decide) hc4 rfl ?_
      refine r_iload_n dX10_isSilentSpan_42 rfl (i := 2) rfl ?_
      refine r_icmp_ge (tgt := 48) dX10_isSilentSpan_43 rfl (hI _ _).inR hx2 (fun hcc => ?_) (fun hcc => ?_)
      · replace hT := hT.1 hcc
        obtain ⟨hc5, hT⟩ := hT
        refine rr_iinc (i := 3) (ls' := [VR m, VI x1, VI x2, VI (x3 + 1)]) dX10_isSilentSpan_48 rfl (Nat.le_of_ble_eq_true rfl) rfl rfl hc5 ?_
        refine r_goto (tgt := 2) dX10_isSilentSpan_51 rfl ?_
        exact hT I0 hF
      · replace hT := hT.2 hcc
        refine r_iconst (n := 1) dX10_isSilentSpan_46 ?_
        exact r_zret dX10_isSilentSpan_47 rfl ⟨by decide, by decide⟩ ⟨Nat.zero_le _, Nat.zero_le _⟩ ⟨_, rfl, rfl, hF, hT⟩
set_option maxRecDepth 20000 in
theorem st_X10_isSilentSpan_0 {E : jE} {G : jG} {I : jM} {q : Int → jM → Prop} {m : Nat} {x1 : Int} {x2 : Int} (hm : WX10 G m) (hT : (∀ a j, jRg (G.2.1 a).1 (I a j)) → jIn x1 → jIn x2 → jOI E (jA m) kX10_isSilentSpan 2 [VR m, VI x1, VI x2, VI 0] G I q) : jOI E (jA m) kX10_isSilentSpan 0 [VR m, VI x1, VI x2, VN] G I q := by
  intro I0 hF
  refine jOk_mem (fun hI => ?_)
  refine jOk_in (i := 1) rfl (fun hx1 => ?_)
  refine jOk_in (i := 2) rfl (fun hx2 => ?_)
  replace hT := hT hI hx1 hx2
  refine r_iconst (n := 0) dX10_isSilentSpan_0 ?_
  refine rr_istore_n (i := 3) (ls' := [VR m, VI x1, VI x2, VI 0]) dX10_isSilentSpan_1 rfl (Nat.le_of_ble_eq_true rfl) rfl rfl ⟨by decide, by decide⟩ ?_
  exact hT I0 hF
theorem en_X10_isSilentSpan {E : jE} {G : jG} {I : jM} {q : Int → jM → Prop} {m : Nat} {x1 : Int} {x2 : Int} (hm : WX10 G m) (hT : (∀ a j, jRg (G.2.1 a).1 (I a j)) → jIn x1 → jIn x2 → jOI E (jA m) kX10_isSilentSpan 2 [VR m, VI x1, VI x2, VI 0] G I q) : jRI E (jA m) kX10_isSilentSpan [VR m, VI x1, VI x2] G I q := jRun.of mt_X10_isSilentSpan.2.2.2 1 rfl (fun _ => st_X10_isSilentSpan_0 hm hT I (fun _ _ => rfl))
set_option maxRecDepth 20000 in
theorem st_X10_valueOf_0 {E : jE} {G : jG} {I : jM} {q : Int → jM → Prop} {m : Nat} {x1 : Int} {x2 : Int} (hm : WX10 G m) (hT : (∀ a j, jRg (G.2.1 a).1 (I a j)) → jIn x1 → jIn x2 → (0 ≤ 514 + 40 * x1 + 0 ∧ 514 + 40 * x1 + 0 < 22094) ∧ ((¬ (I (m + 1) 5) = 0 → vf_n32 (FP.fmul (FP.i2f (Int32.ofInt (I (m + 1) (514 + 40 * x1 + 0)))) 1120403456) ∧ vf_n32 (FP.fdiv (FP.fmul (FP.i2f (Int32.ofInt (I (m + 1) (514 + 40 * x1 + 0)))) 1120403456) (FP.i2f (Int32.ofInt x2))) ∧ q ((FP.f2i (FP.fdiv (FP.fmul (FP.i2f (Int32.ofInt (I (m + 1) (514 + 40 * x1 + 0)))) 1120403456) (FP.i2f (Int32.ofInt x2)))).toInt) I) ∧ ((I (m + 1) 5) = 0 → q (I (m + 1) (514 + 40 * x1 + 0)) I))) : jOI E (jA m) kX10_valueOf 0 [VR m, VI x1, VI x2, VN] G I q := by
  intro I0 hF
  refine jOk_mem (fun hI => ?_)
  refine jOk_in (i := 1) rfl (fun hx1 => ?_)
  refine jOk_in (i := 2) rfl (fun hx2 => ?_)
  replace hT := hT hI hx1 hx2
  refine r_aload_n dX10_valueOf_0 rfl (i := 0) rfl ?_
  refine r_iload_n dX10_valueOf_1 rfl (i := 1) rfl ?_
  refine r_iconst (n := 0) dX10_valueOf_2 ?_
  obtain ⟨hc2, hT⟩ := hT
  refine rr_pVI (A := (jA m)) (v := I (m + 1) (514 + 40 * x1 + 0)) (a := m) (as := [VI x1, VI 0]) (st := []) dX10_valueOf_3 mt_X10_get ml_X10_127 mi_X10_get rm_X10_valueOf_X10_get jz_X10_get ⟨Nat.zero_le _, Nat.zero_le _⟩ (Nat.le_of_ble_eq_true rfl) (wX10_l hm) (wX10_c hm) (jasI hx1 (jasI ⟨by decide, by decide⟩ jas0)) ((sp_X10_get hm) hc2) (fun hc1 => ?_)
  refine rr_istore_n (i := 3) (ls' := [VR m, VI x1, VI x2, VI (I (m + 1) (514 + 40 * x1 + 0))]) dX10_valueOf_6 rfl (Nat.le_of_ble_eq_true rfl) rfl rfl hc1 ?_
  refine r_aload_n dX10_valueOf_7 rfl (i := 0) rfl ?_
  refine rr_getR (b := (m + 1)) dX10_valueOf_8 fg_X10_7 rfl rfl (wX10_l hm) (wX10_s hm) (wX10_r0 hm) ?_
  refine r_iconst (n := 5) dX10_valueOf_11 ?_
  refine rr_iaload (v := I (m + 1) 5) dX10_valueOf_12 (wX10_l0 hm) (wX10_a0 hm) (by decide) ⟨by decide, by decide⟩ rfl ?_
  refine r_if_ne (tgt := 20) dX10_valueOf_13 rfl (hI _ _).inR (fun hcc => ?_) (fun hcc => ?_)
  · replace hT := hT.1 hcc
    refine r_iload_n dX10_valueOf_20 rfl (i := 3) rfl ?_
    refine r_i2f dX10_valueOf_21 ?_
    refine r_ldcf dX10_valueOf_22 cn_X10_168 ?_
    obtain ⟨hc4, hT⟩ := hT
    refine r_fmul dX10_valueOf_24 hc4 ?_
    refine r_iload_n dX10_valueOf_25 rfl (i := 2) rfl ?_
    refine r_i2f dX10_valueOf_26 ?_
    obtain ⟨hc5, hT⟩ := hT
    refine r_fdiv dX10_valueOf_27 hc5 ?_
    refine r_f2i dX10_valueOf_28 ?_
    exact r_iret dX10_valueOf_29 rfl (j32_in _) ⟨Nat.zero_le _, Nat.zero_le _⟩ ⟨_, rfl, rfl, hF, hT⟩
  · replace hT := hT.2 hcc
    refine r_iload_n dX10_valueOf_16 rfl (i := 3) rfl ?_
    refine r_goto (tgt := 29) dX10_valueOf_17 rfl ?_
    exact r_iret dX10_valueOf_29 rfl hc1 ⟨Nat.zero_le _, Nat.zero_le _⟩ ⟨_, rfl, rfl, hF, hT⟩
theorem en_X10_valueOf {E : jE} {G : jG} {I : jM} {q : Int → jM → Prop} {m : Nat} {x1 : Int} {x2 : Int} (hm : WX10 G m) (hT : (∀ a j, jRg (G.2.1 a).1 (I a j)) → jIn x1 → jIn x2 → (0 ≤ 514 + 40 * x1 + 0 ∧ 514 + 40 * x1 + 0 < 22094) ∧ ((¬ (I (m + 1) 5) = 0 → vf_n32 (FP.fmul (FP.i2f (Int32.ofInt (I (m + 1) (514 + 40 * x1 + 0)))) 1120403456) ∧ vf_n32 (FP.fdiv (FP.fmul (FP.i2f (Int32.ofInt (I (m + 1) (514 + 40 * x1 + 0)))) 1120403456) (FP.i2f (Int32.ofInt x2))) ∧ q ((FP.f2i (FP.fdiv (FP.fmul (FP.i2f (Int32.ofInt (I (m + 1) (514 + 40 * x1 + 0)))) 1120403456) (FP.i2f (Int32.ofInt x2)))).toInt) I) ∧ ((I (m + 1) 5) = 0 → q (I (m + 1) (514 + 40 * x1 + 0)) I))) : jRI E (jA m) kX10_valueOf [VR m, VI x1, VI x2] G I q := jRun.of mt_X10_valueOf.2.2.2 1 rfl (fun _ => st_X10_valueOf_0 hm hT I (fun _ _ => rfl))
section RQ
variable {E : jE} {G : jG} {m : Nat} {S : Int → Int} {n : Int} {b : Int → Int} {I : jM}
theorem sp_X10_layOut (hm : WX10 G m) (h : TO m S n b I) {r t : Int} (hr : 0 ≤ r ∧ r < 6) (hw : RW1 S r) (t0 : 0 ≤ t) (t1 : t < n) (hF : Fit S n b r t) : jRV E (jA m) kX10_layOut [VR m, VI r, VI t] G I (fun I' => OI m I' (Out S b r t) ∧ WL m I I' ∧ (Out S b r t).length ≤ 1800) := by
  have hp6 := hw.2.2.2.1
  have loop : ∀ (d c : Nat) (I1 : jM), (c : Int) + d = S (517 + 40 * r) → TO m S n b I1 → WL m I I1 → Bd S r t (S (516 + 40 * r)) m I1 → OI m I1 (pouts S b r t c) → (pouts S b r t c).length ≤ 300 * c → jOV E (jA m) kX10_layOut 15 [VR m, VI r, VI t, VI 1, VI c] G I1 (fun I' => OI m I' (Out S b r t) ∧ WL m I I' ∧ (Out S b r t).length ≤ 1800) := by
    intro d
    induction d with
    | zero =>
      intro c I1 hc hT hW hB hO hl
      have ec : (S (517 + 40 * r)).toNat = c := by omega
      refine st_X10_layOut_15 hm (fun _ _ _ _ _ => ⟨⟨by omega, by omega⟩, fun _ => ?_, fun q => ?_⟩)
      · unfold Out
        rw [ec]
        exact ⟨hO, hW, by omega⟩
      · rw [hT.1] at q
        have e : S (514 + 40 * r + 3) = S (517 + 40 * r) := by congr 1; omega
        omega
    | succ d ih =>
      intro c I1 hc hT hW hB hO hl
      have e : S (514 + 40 * r + 3) = S (517 + 40 * r) := by congr 1; omega
      refine st_X10_layOut_15 hm (fun _ _ _ _ _ => ⟨⟨by omega, by omega⟩, fun q => ?_, fun _ => ⟨fun q => absurd q (by decide), fun _ => ?_⟩⟩)
      · rw [hT.1] at q
        omega
      · refine (sp_X10_writePart hm hT hr hw ⟨by omega, by omega⟩ t0 hF hB hO (by omega)).mono (fun I3 _ g => ⟨⟨by omega, by omega⟩, ?_⟩)
        have e2 : (c : Int) + 1 = ((c + 1 : Nat) : Int) := by omega
        rw [e2]
        refine ih (c + 1) I3 (by omega) (hT.wo g.2.1) (hW.trans g.2.1.wl) (hB.wo g.2.1) g.1 ?_
        show (pouts S b r t c ++ pout S b r t c).length ≤ _
        rw [List.length_append]
        have := g.2.2
        omega
  refine en_X10_layOut hm (fun _ _ _ => ?_)
  refine (sp_X10_fitsNow hm h hr t0 t1 hw).mono (fun x I1 _ _ hx M4 eM4 => ?_)
  obtain ⟨rfl, hW1, hB1⟩ := hx
  have hWO : WO m I1 M4 := fun a j ha hb => by
    rcases hb with hb | hb
    · exact jr_na eM4 hb
    · exact jr_nj eM4 hb
  rw [jI_pos hF]
  exact loop (S (517 + 40 * r)).toNat 0 M4 (by omega) ((h.wb hW1).wo hWO) (hW1.wl.trans hWO.wl) ((hB1 hF).wo hWO) ⟨jr_eq eM4, fun i hi => absurd hi (Nat.not_lt_zero i)⟩ (Nat.le_refl 0)
theorem list_eq_stretch {L : List Int} {f : Int → Int} {c : Int} (hl : (L.length : Int) = c) (h : ∀ i : Nat, i < L.length → L.getD i 0 = f i) : L = stretch f c := by
  apply List.ext_getElem
  · rw [stretch_len]
    omega
  · intro i h1 h2
    have := h i h1
    rw [List.getD_eq_getElem?_getD, List.getElem?_eq_getElem h1] at this
    simp [stretch]
    exact this
theorem stretch_getD {f : Int → Int} {c : Int} {i : Nat} (h : (i : Int) < c) : (stretch f c).getD i 0 = f i := by
  have : i < c.toNat := by omega
  simp [stretch, List.getD_eq_getElem?_getD, this]
theorem sp_X10_isElse (hm : WX10 G m) (hS : I (m + 1) = S) {L : List Int} (hO : OI m I L) {i j : Int} (h0 : 0 ≤ i) (h1 : i ≤ j) (h2 : j ≤ 200) : jRI E (jA m) kX10_isElse [VR m, VI i, VI j] G I (fun x I' => x = jI (L ≠ slice S i j) ∧ I' = I) := by
  have loop : ∀ (d : Nat) (x : Nat), (x : Int) + d = j - i → (L.length : Int) = j - i → (∀ k : Nat, k < x → L.getD k 0 = S (10 + (i + (k : Int)))) → jOI E (jA m) kX10_isElse 14 [VR m, VI i, VI j, VI x] G I (fun x I' => x = jI (L ≠ slice S i j) ∧ I' = I) := by
    intro d
    induction d with
    | zero =>
      intro x hx hl hk
      have hL : L = slice S i j := list_eq_stretch (f := fun k => S (10 + (i + k))) hl (fun k hk' => hk k (by omega))
      refine st_X10_isElse_14 hm (fun _ _ _ _ => ⟨fun _ => ⟨(jI_neg (fun g => g hL)).symm, rfl⟩, fun q => ?_⟩)
      rw [hO.1] at q
      omega
    | succ d ih =>
      intro x hx hl hk
      refine st_X10_isElse_14 hm (fun _ _ _ _ => ⟨fun q => ?_, fun _ => ⟨⟨by omega, by omega⟩, ⟨by omega, by omega⟩, ⟨by omega, by omega⟩, fun q => ⟨⟨by omega, by omega⟩, ?_⟩, fun q => ⟨(jI_pos (fun g => q ?_)).symm, rfl⟩⟩⟩)
      · rw [hO.1] at q
        omega
      · rw [hO.2 x (by omega), hS] at q
        have e2 : (x : Int) + 1 = ((x + 1 : Nat) : Int) := by omega
        rw [e2]
        refine ih (x + 1) (by omega) hl (fun k hk' => ?_)
        by_cases ek : k = x
        · rw [ek]; exact q
        · exact hk k (by omega)
      · rw [hO.2 x (by omega), hS, g]
        exact stretch_getD (by omega)
  refine en_X10_isElse hm (fun _ _ _ => ⟨⟨by omega, by omega⟩, fun q => ?_, fun q => ⟨(jI_pos (fun g => q ?_)).symm, rfl⟩⟩)
  · rw [hO.1] at q
    exact loop (j - i).toNat 0 (by omega) q (fun k hk => absurd hk (Nat.not_lt_zero k))
  · rw [hO.1, g]
    unfold slice
    rw [stretch_len]
    omega
/-- a stretch of the text lies under a silence -/
def sil (S : Int → Int) (i j : Int) : Prop := ∃ k, 0 ≤ k ∧ k < S 3 ∧ i < S (410 + 2 * k + 1) ∧ S (410 + 2 * k) < j
theorem sp_X10_isSilentSpan (hm : WX10 G m) {i j : Int} (h : 0 ≤ I (m + 1) 3 ∧ I (m + 1) 3 ≤ 8) : jRI E (jA m) kX10_isSilentSpan [VR m, VI i, VI j] G I (fun x I' => x = jI (sil (I (m + 1)) i j) ∧ I' = I) := by
  have loop : ∀ (d : Nat) (x : Int), 0 ≤ x → x + d = I (m + 1) 3 → (∀ k, 0 ≤ k → k < x → ¬ (i < I (m + 1) (410 + 2 * k + 1) ∧ I (m + 1) (410 + 2 * k) < j)) → jOI E (jA m) kX10_isSilentSpan 2 [VR m, VI i, VI j, VI x] G I (fun x I' => x = jI (sil (I (m + 1)) i j) ∧ I' = I) := by
    intro d
    induction d with
    | zero =>
      intro x x0 x1 hx
      refine st_X10_isSilentSpan_2 hm (fun _ _ _ _ => ⟨fun _ => ⟨(jI_neg (fun g => ?_)).symm, rfl⟩, fun q => by omega⟩)
      obtain ⟨k, k0, k1, k2⟩ := g
      exact hx k k0 (by omega) k2
    | succ d ih =>
      intro x x0 x1 hx
      have nx : ¬ (i < I (m + 1) (410 + 2 * x + 1) ∧ I (m + 1) (410 + 2 * x) < j) → jIn (x + 1) ∧ jOI E (jA m) kX10_isSilentSpan 2 [VR m, VI i, VI j, VI (x + 1)] G I (fun x I' => x = jI (sil (I (m + 1)) i j) ∧ I' = I) := by
        intro hn
        refine ⟨⟨by omega, by omega⟩, ih (x + 1) (by omega) (by omega) (fun k k0 k1 => ?_)⟩
        by_cases ek : k = x
        · rw [ek]; exact hn
        · exact hx k k0 (by omega)
      refine st_X10_isSilentSpan_2 hm (fun _ _ _ _ => ⟨fun q => by omega, fun _ => ⟨⟨by omega, by omega⟩, fun q => nx (fun g => by omega), fun q => ⟨⟨by omega, by omega⟩, fun q2 => nx (fun g => by omega), fun q2 => ⟨(jI_pos ⟨x, x0, by omega, by omega, by omega⟩).symm, rfl⟩⟩⟩⟩)
  exact en_X10_isSilentSpan hm (fun _ _ _ => loop (I (m + 1) 3).toNat 0 (by omega) (by omega) (fun k k0 k1 => by omega))
end RQ
