/-! ===== the reference: what is asked ===== -/
def sumJ (g : Int → Int) (f : Int) : Nat → Int
  | 0 => 0
  | d + 1 => g f + sumJ g (f + 1) d
theorem sumJ_s (g : Int → Int) (f : Int) (d : Nat) : sumJ g f (d + 1) = g f + sumJ g (f + 1) d := rfl
/-- findings are laid, as the block has them -/
def LFB (m : Nat) (B : Int → Int) (I : jM) : Prop := I m 4 = nT B ∧ (∀ u, 0 ≤ u → u < nT B → I (m + 3) u = bT B u ∧ I (m + 4) u = bT B (u + 1) - bT B u) ∧ I m 17 = NF B ∧ (∀ f, 0 ≤ f → f < NF B → I (m + 7) f = fR B f ∧ I (m + 8) f = fB B f ∧ I (m + 9) f = fE B f ∧ I (m + 10) f = fT B f ∧ I (m + 11) f = (fO B f).length ∧ I (m + 12) f = fV B f ∧ I (m + 13) f = jI (fSi B f) ∧ I (m + 14) f = jI (fYi B f) ∧ I (m + 15) f = jI (f ∈ setL B)) ∧ I m 21 = wS B ∧ I m 20 = (setL B).length
theorem LFS.toB {m : Nat} {S B : Int → Int} {I : jM} (h : LFS m S I) (hE : EqS S B) (hQ : QW S) : LFB m B I := by
  have hF := h.2.2.1
  have hRF := fun f f0 f1 => RFa h.2.1 (f := f) f0 f1
  obtain ⟨h1, h2, h3, h4, h5, h6, h7⟩ := h
  have eN : NF B = NF S := by unfold NF; rw [FL_congr hE hQ]
  unfold LFB
  rw [eN, nT_congr hE hQ.1, bT_congr hE hQ.1, fR_congr hE hQ, fB_congr hE hQ, fE_congr hE hQ hF, fT_congr hE hQ, fV_congr hE hQ hF, fSi_congr hE hQ hF, fYi_congr hE hQ hF, setL_congr hE hQ hF, wS_congr hE hQ hF]
  refine ⟨h1.2.2.2.1, h1.2.2.2.2, h2.1, fun f f0 f1 => ?_, h6, h7⟩
  have r := hRF f f0 f1
  have g := h5 f f0 f1
  rw [fO_congr hE hQ hF f0 f1]
  exact ⟨r.1, r.2.1, r.2.2.1, r.2.2.2.1, r.2.2.2.2, g.1, g.2.1, g.2.2.1, g.2.2.2⟩
set_option maxRecDepth 20000 in
theorem st_X10_countOf_4 {E : jE} {G : jG} {I : jM} {q : Int → jM → Prop} {m : Nat} {x1 : Int} {x2 : Int} {x3 : Int} (hm : WX10 G m) (hT : (∀ a j, jRg (G.2.1 a).1 (I a j)) → jIn x1 → jIn x2 → jIn x3 → (((I m 17) ≤ x3 → q x2 I) ∧ (¬ (I m 17) ≤ x3 → ((x1 = 0 → ((0 : Int) ≤ x3 ∧ (x3 : Int) < 1200) ∧ ((0 ≤ (I (m + 14) x3) ∧ (I (m + 14) x3) ≤ 1) → (((I (m + 14) x3) = 0 → jIn (x2 + 0) ∧ jIn (x3 + 1) ∧ jOI E (jA m) kX10_countOf 4 [VR m, VI x1, VI (x2 + 0), VI (x3 + 1)] G I q) ∧ (¬ (I (m + 14) x3) = 0 → jIn (x2 + 1) ∧ jIn (x3 + 1) ∧ jOI E (jA m) kX10_countOf 4 [VR m, VI x1, VI (x2 + 1), VI (x3 + 1)] G I q)))) ∧ (¬ x1 = 0 → ((0 : Int) ≤ x3 ∧ (x3 : Int) < 1200) ∧ ((0 ≤ (I (m + 13) x3) ∧ (I (m + 13) x3) ≤ 1) → (((I (m + 13) x3) = 0 → jIn (x2 + 0) ∧ jIn (x3 + 1) ∧ jOI E (jA m) kX10_countOf 4 [VR m, VI x1, VI (x2 + 0), VI (x3 + 1)] G I q) ∧ (¬ (I (m + 13) x3) = 0 → jIn (x2 + 1) ∧ jIn (x3 + 1) ∧ jOI E (jA m) kX10_countOf 4 [VR m, VI x1, VI (x2 + 1), VI (x3 + 1)] G I q)))))))) : jOI E (jA m) kX10_countOf 4 [VR m, VI x1, VI x2, VI x3] G I q := by
  intro I0 hF
  refine jOk_mem (fun hI => ?_)
  refine jOk_in (i := 1) rfl (fun hx1 => ?_)
  refine jOk_in (i := 2) rfl (fun hx2 => ?_)
  refine jOk_in (i := 3) rfl (fun hx3 => ?_)
  replace hT := hT hI hx1 hx2 hx3
  refine r_iload_n dX10_countOf_4 rfl (i := 3) rfl ?_
  refine r_aload_n dX10_countOf_5 rfl (i := 0) rfl ?_
  refine rr_getI (v := I m 17) dX10_countOf_6 fg_X10_175 rfl (wX10_l hm) (wX10_s hm) rfl ?_
  refine r_icmp_ge (tgt := 56) dX10_countOf_9 rfl hx3 (hI _ _).inR (fun hcc => ?_) (fun hcc => ?_)
  · replace hT := hT.1 hcc
    refine r_iload_n dX10_countOf_56 rfl (i := 2) rfl ?_
    exact r_iret dX10_countOf_57 rfl hx2 ⟨Nat.zero_le _, Nat.zero_le _⟩ ⟨_, rfl, rfl, hF, hT⟩
  · replace hT := hT.2 hcc
    refine r_iload_n dX10_countOf_12 rfl (i := 2) rfl ?_
    refine r_iload_n dX10_countOf_13 rfl (i := 1) rfl ?_
    refine r_if_eq (tgt := 34) dX10_countOf_14 rfl hx1 (fun hcc => ?_) (fun hcc => ?_)
    · replace hT := hT.1 hcc
      refine r_aload_n dX10_countOf_34 rfl (i := 0) rfl ?_
      refine rr_getR (b := (m + 14)) dX10_countOf_35 fg_X10_50 rfl rfl (wX10_l hm) (wX10_s hm) (wX10_r15 hm) ?_
      refine r_iload_n dX10_countOf_38 rfl (i := 3) rfl ?_
      obtain ⟨hc1, hT⟩ := hT
      refine rr_zaload (v := I (m + 14) x3) dX10_countOf_39 (wX10_l15 hm) (wX10_a15 hm) (by decide) hc1 rfl (fun hr2 => ?_)
      replace hT := hT hr2
      refine r_if_eq (tgt := 47) dX10_countOf_40 rfl (hI _ _).inR (fun hcc => ?_) (fun hcc => ?_)
      · replace hT := hT.1 hcc
        refine r_iconst (n := 0) dX10_countOf_47 ?_
        refine r_iadd dX10_countOf_48 ?_
        obtain ⟨hc3, hT⟩ := hT
        refine rr_istore_n (i := 2) (ls' := [VR m, VI x1, VI (x2 + 0), VI x3]) dX10_countOf_49 rfl (Nat.le_of_ble_eq_true rfl) rfl rfl hc3 ?_
        obtain ⟨hc4, hT⟩ := hT
        refine rr_iinc (i := 3) (ls' := [VR m, VI x1, VI (x2 + 0), VI (x3 + 1)]) dX10_countOf_50 rfl (Nat.le_of_ble_eq_true rfl) rfl rfl hc4 ?_
        refine r_goto (tgt := 4) dX10_countOf_53 rfl ?_
        exact hT I0 hF
      · replace hT := hT.2 hcc
        refine r_iconst (n := 1) dX10_countOf_43 ?_
        refine r_goto (tgt := 48) dX10_countOf_44 rfl ?_
        refine r_iadd dX10_countOf_48 ?_
        obtain ⟨hc5, hT⟩ := hT
        refine rr_istore_n (i := 2) (ls' := [VR m, VI x1, VI (x2 + 1), VI x3]) dX10_countOf_49 rfl (Nat.le_of_ble_eq_true rfl) rfl rfl hc5 ?_
        obtain ⟨hc6, hT⟩ := hT
        refine rr_iinc (i := 3) (ls' := [VR m, VI x1, VI (x2 + 1), VI (x3 + 1)]) dX10_countOf_50 rfl (Nat.le_of_ble_eq_true rfl) rfl rfl hc6 ?_
        refine r_goto (tgt := 4) dX10_countOf_53 rfl ?_
        exact hT I0 hF
    · replace hT := hT.2 hcc
      refine r_aload_n dX10_countOf_17 rfl (i := 0) rfl ?_
      refine rr_getR (b := (m + 13)) dX10_countOf_18 fg_X10_46 rfl rfl (wX10_l hm) (wX10_s hm) (wX10_r14 hm) ?_
      refine r_iload_n dX10_countOf_21 rfl (i := 3) rfl ?_
      obtain ⟨hc7, hT⟩ := hT
      refine rr_zaload (v := I (m + 13) x3) dX10_countOf_22 (wX10_l14 hm) (wX10_a14 hm) (by decide) hc7 rfl (fun hr8 => ?_)
      replace hT := hT hr8
      refine r_if_eq (tgt := 30) dX10_countOf_23 rfl (hI _ _).inR (fun hcc => ?_) (fun hcc => ?_)
      · replace hT := hT.1 hcc
        refine r_iconst (n := 0) dX10_countOf_30 ?_
        refine r_goto (tgt := 48) dX10_countOf_31 rfl ?_
        refine r_iadd dX10_countOf_48 ?_
        obtain ⟨hc9, hT⟩ := hT
        refine rr_istore_n (i := 2) (ls' := [VR m, VI x1, VI (x2 + 0), VI x3]) dX10_countOf_49 rfl (Nat.le_of_ble_eq_true rfl) rfl rfl hc9 ?_
        obtain ⟨hc10, hT⟩ := hT
        refine rr_iinc (i := 3) (ls' := [VR m, VI x1, VI (x2 + 0), VI (x3 + 1)]) dX10_countOf_50 rfl (Nat.le_of_ble_eq_true rfl) rfl rfl hc10 ?_
        refine r_goto (tgt := 4) dX10_countOf_53 rfl ?_
        exact hT I0 hF
      · replace hT := hT.2 hcc
        refine r_iconst (n := 1) dX10_countOf_26 ?_
        refine r_goto (tgt := 48) dX10_countOf_27 rfl ?_
        refine r_iadd dX10_countOf_48 ?_
        obtain ⟨hc11, hT⟩ := hT
        refine rr_istore_n (i := 2) (ls' := [VR m, VI x1, VI (x2 + 1), VI x3]) dX10_countOf_49 rfl (Nat.le_of_ble_eq_true rfl) rfl rfl hc11 ?_
        obtain ⟨hc12, hT⟩ := hT
        refine rr_iinc (i := 3) (ls' := [VR m, VI x1, VI (x2 + 1), VI (x3 + 1)]) dX10_countOf_50 rfl (Nat.le_of_ble_eq_true rfl) rfl rfl hc12 ?_
        refine r_goto (tgt := 4) dX10_countOf_53 rfl ?_
        exact hT I0 hF
set_option maxRecDepth 20000 in
theorem st_X10_countOf_0 {E : jE} {G : jG} {I : jM} {q : Int → jM → Prop} {m : Nat} {x1 : Int} (hm : WX10 G m) (hT : (∀ a j, jRg (G.2.1 a).1 (I a j)) → jIn x1 → jOI E (jA m) kX10_countOf 4 [VR m, VI x1, VI 0, VI 0] G I q) : jOI E (jA m) kX10_countOf 0 [VR m, VI x1, VN, VN] G I q := by
  intro I0 hF
  refine jOk_mem (fun hI => ?_)
  refine jOk_in (i := 1) rfl (fun hx1 => ?_)
  replace hT := hT hI hx1
  refine r_iconst (n := 0) dX10_countOf_0 ?_
  refine rr_istore_n (i := 2) (ls' := [VR m, VI x1, VI 0, VN]) dX10_countOf_1 rfl (Nat.le_of_ble_eq_true rfl) rfl rfl ⟨by decide, by decide⟩ ?_
  refine r_iconst (n := 0) dX10_countOf_2 ?_
  refine rr_istore_n (i := 3) (ls' := [VR m, VI x1, VI 0, VI 0]) dX10_countOf_3 rfl (Nat.le_of_ble_eq_true rfl) rfl rfl ⟨by decide, by decide⟩ ?_
  exact hT I0 hF
theorem en_X10_countOf {E : jE} {G : jG} {I : jM} {q : Int → jM → Prop} {m : Nat} {x1 : Int} (hm : WX10 G m) (hT : (∀ a j, jRg (G.2.1 a).1 (I a j)) → jIn x1 → jOI E (jA m) kX10_countOf 4 [VR m, VI x1, VI 0, VI 0] G I q) : jRI E (jA m) kX10_countOf [VR m, VI x1] G I q := jRun.of mt_X10_countOf.2.2.2 2 rfl (fun _ => st_X10_countOf_0 hm hT I (fun _ _ => rfl))
set_option maxRecDepth 20000 in
theorem st_X10_onBits_4 {E : jE} {G : jG} {I : jM} {q : Int → jM → Prop} {m : Nat} {x1 : Int} {x2 : Int} (hm : WX10 G m) (hT : (∀ a j, jRg (G.2.1 a).1 (I a j)) → jIn x1 → jIn x2 → (((I (m + 1) 4) ≤ x2 → q x1 I) ∧ (¬ (I (m + 1) 4) ≤ x2 → (0 ≤ 514 + 40 * x2 + 1 ∧ 514 + 40 * x2 + 1 < 22094) ∧ jIn (x2 + 1) ∧ jOI E (jA m) kX10_onBits 4 [VR m, VI (jor x1 (jshl (I (m + 1) (514 + 40 * x2 + 1)) x2)), VI (x2 + 1)] G I q))) : jOI E (jA m) kX10_onBits 4 [VR m, VI x1, VI x2] G I q := by
  intro I0 hF
  refine jOk_mem (fun hI => ?_)
  refine jOk_in (i := 1) rfl (fun hx1 => ?_)
  refine jOk_in (i := 2) rfl (fun hx2 => ?_)
  replace hT := hT hI hx1 hx2
  refine r_iload_n dX10_onBits_4 rfl (i := 2) rfl ?_
  refine r_aload_n dX10_onBits_5 rfl (i := 0) rfl ?_
  refine rr_getR (b := (m + 1)) dX10_onBits_6 fg_X10_7 rfl rfl (wX10_l hm) (wX10_s hm) (wX10_r0 hm) ?_
  refine r_iconst (n := 4) dX10_onBits_9 ?_
  refine rr_iaload (v := I (m + 1) 4) dX10_onBits_10 (wX10_l0 hm) (wX10_a0 hm) (by decide) ⟨by decide, by decide⟩ rfl ?_
  refine r_icmp_ge (tgt := 31) dX10_onBits_11 rfl hx2 (hI _ _).inR (fun hcc => ?_) (fun hcc => ?_)
  · replace hT := hT.1 hcc
    refine r_iload_n dX10_onBits_31 rfl (i := 1) rfl ?_
    exact r_iret dX10_onBits_32 rfl hx1 ⟨Nat.zero_le _, Nat.zero_le _⟩ ⟨_, rfl, rfl, hF, hT⟩
  · replace hT := hT.2 hcc
    refine r_iload_n dX10_onBits_14 rfl (i := 1) rfl ?_
    refine r_aload_n dX10_onBits_15 rfl (i := 0) rfl ?_
    refine r_iload_n dX10_onBits_16 rfl (i := 2) rfl ?_
    refine r_iconst (n := 1) dX10_onBits_17 ?_
    obtain ⟨hc3, hT⟩ := hT
    refine rr_pVI (A := (jA m)) (v := I (m + 1) (514 + 40 * x2 + 1)) (a := m) (as := [VI x2, VI 1]) (st := [VI x1]) dX10_onBits_18 mt_X10_get ml_X10_127 mi_X10_get rm_X10_onBits_X10_get jz_X10_get ⟨Nat.zero_le _, Nat.zero_le _⟩ (Nat.le_of_ble_eq_true rfl) (wX10_l hm) (wX10_c hm) (jasI hx2 (jasI ⟨by decide, by decide⟩ jas0)) ((sp_X10_get hm) hc3) (fun hc2 => ?_)
    refine r_iload_n dX10_onBits_21 rfl (i := 2) rfl ?_
    refine r_ishl dX10_onBits_22 ?_
    refine r_ior dX10_onBits_23 ?_
    refine rr_istore_n (i := 1) (ls' := [VR m, VI (jor x1 (jshl (I (m + 1) (514 + 40 * x2 + 1)) x2)), VI x2]) dX10_onBits_24 rfl (Nat.le_of_ble_eq_true rfl) rfl rfl (j32_in _) ?_
    obtain ⟨hc4, hT⟩ := hT
    refine rr_iinc (i := 2) (ls' := [VR m, VI (jor x1 (jshl (I (m + 1) (514 + 40 * x2 + 1)) x2)), VI (x2 + 1)]) dX10_onBits_25 rfl (Nat.le_of_ble_eq_true rfl) rfl rfl hc4 ?_
    refine r_goto (tgt := 4) dX10_onBits_28 rfl ?_
    exact hT I0 hF
set_option maxRecDepth 20000 in
theorem st_X10_onBits_0 {E : jE} {G : jG} {I : jM} {q : Int → jM → Prop} {m : Nat} (hm : WX10 G m) (hT : (∀ a j, jRg (G.2.1 a).1 (I a j)) → jOI E (jA m) kX10_onBits 4 [VR m, VI 0, VI 0] G I q) : jOI E (jA m) kX10_onBits 0 [VR m, VN, VN] G I q := by
  intro I0 hF
  refine jOk_mem (fun hI => ?_)
  replace hT := hT hI 
  refine r_iconst (n := 0) dX10_onBits_0 ?_
  refine rr_istore_n (i := 1) (ls' := [VR m, VI 0, VN]) dX10_onBits_1 rfl (Nat.le_of_ble_eq_true rfl) rfl rfl ⟨by decide, by decide⟩ ?_
  refine r_iconst (n := 0) dX10_onBits_2 ?_
  refine rr_istore_n (i := 2) (ls' := [VR m, VI 0, VI 0]) dX10_onBits_3 rfl (Nat.le_of_ble_eq_true rfl) rfl rfl ⟨by decide, by decide⟩ ?_
  exact hT I0 hF
theorem en_X10_onBits {E : jE} {G : jG} {I : jM} {q : Int → jM → Prop} {m : Nat} (hm : WX10 G m) (hT : (∀ a j, jRg (G.2.1 a).1 (I a j)) → jOI E (jA m) kX10_onBits 4 [VR m, VI 0, VI 0] G I q) : jRI E (jA m) kX10_onBits [VR m] G I q := jRun.of mt_X10_onBits.2.2.2 2 rfl (fun _ => st_X10_onBits_0 hm hT I (fun _ _ => rfl))
set_option maxRecDepth 20000 in
theorem st_X10_opens_0 {E : jE} {A : Nat → Prop} {G : jG} {I : jM} {q : Int → jM → Prop} {x0 : Int}  (hT : (∀ a j, jRg (G.2.1 a).1 (I a j)) → jIn x0 → ((¬ x0 = 40 → ((¬ x0 = 91 → ((¬ x0 = 123 → q 0 I) ∧ (x0 = 123 → q 3 I))) ∧ (x0 = 91 → q 2 I))) ∧ (x0 = 40 → q 1 I))) : jOI E A kX10_opens 0 [VI x0] G I q := by
  intro I0 hF
  refine jOk_mem (fun hI => ?_)
  refine jOk_in (i := 0) rfl (fun hx0 => ?_)
  replace hT := hT hI hx0
  refine r_iload_n dX10_opens_0 rfl (i := 0) rfl ?_
  refine r_bipush (n := 40) dX10_opens_1 (by decide +kernel) ?_
  refine r_icmp_ne (tgt := 10) dX10_opens_3 rfl hx0 ⟨by decide, by decide⟩ (fun hcc => ?_) (fun hcc => ?_)
  · replace hT := hT.1 hcc
    refine r_iload_n dX10_opens_10 rfl (i := 0) rfl ?_
    refine r_bipush (n := 91) dX10_opens_11 (by decide +kernel) ?_
    refine r_icmp_ne (tgt := 20) dX10_opens_13 rfl hx0 ⟨by decide, by decide⟩ (fun hcc => ?_) (fun hcc => ?_)
    · replace hT := hT.1 hcc
      refine r_iload_n dX10_opens_20 rfl (i := 0) rfl ?_
      refine r_bipush (n := 123) dX10_opens_21 (by decide +kernel) ?_
      refine r_icmp_ne (tgt := 30) dX10_opens_23 rfl hx0 ⟨by decide, by decide⟩ (fun hcc => ?_) (fun hcc => ?_)
      · replace hT := hT.1 hcc
        refine r_iconst (n := 0) dX10_opens_30 ?_
        exact r_iret dX10_opens_31 rfl ⟨by decide, by decide⟩ ⟨Nat.zero_le _, Nat.zero_le _⟩ ⟨_, rfl, rfl, hF, hT⟩
      · replace hT := hT.2 hcc
        refine r_iconst (n := 3) dX10_opens_26 ?_
        refine r_goto (tgt := 31) dX10_opens_27 rfl ?_
        exact r_iret dX10_opens_31 rfl ⟨by decide, by decide⟩ ⟨Nat.zero_le _, Nat.zero_le _⟩ ⟨_, rfl, rfl, hF, hT⟩
    · replace hT := hT.2 hcc
      refine r_iconst (n := 2) dX10_opens_16 ?_
      refine r_goto (tgt := 31) dX10_opens_17 rfl ?_
      exact r_iret dX10_opens_31 rfl ⟨by decide, by decide⟩ ⟨Nat.zero_le _, Nat.zero_le _⟩ ⟨_, rfl, rfl, hF, hT⟩
  · replace hT := hT.2 hcc
    refine r_iconst (n := 1) dX10_opens_6 ?_
    refine r_goto (tgt := 31) dX10_opens_7 rfl ?_
    exact r_iret dX10_opens_31 rfl ⟨by decide, by decide⟩ ⟨Nat.zero_le _, Nat.zero_le _⟩ ⟨_, rfl, rfl, hF, hT⟩
theorem en_X10_opens {E : jE} {A : Nat → Prop} {G : jG} {I : jM} {q : Int → jM → Prop} {x0 : Int}  (hT : (∀ a j, jRg (G.2.1 a).1 (I a j)) → jIn x0 → ((¬ x0 = 40 → ((¬ x0 = 91 → ((¬ x0 = 123 → q 0 I) ∧ (x0 = 123 → q 3 I))) ∧ (x0 = 91 → q 2 I))) ∧ (x0 = 40 → q 1 I))) : jRI E A kX10_opens [VI x0] G I q := jRun.of mt_X10_opens.2.2.2 0 rfl (fun _ => st_X10_opens_0  hT I (fun _ _ => rfl))
set_option maxRecDepth 20000 in
theorem st_X10_shuts_0 {E : jE} {A : Nat → Prop} {G : jG} {I : jM} {q : Int → jM → Prop} {x0 : Int}  (hT : (∀ a j, jRg (G.2.1 a).1 (I a j)) → jIn x0 → ((¬ x0 = 41 → ((¬ x0 = 93 → ((¬ x0 = 125 → q 0 I) ∧ (x0 = 125 → q 3 I))) ∧ (x0 = 93 → q 2 I))) ∧ (x0 = 41 → q 1 I))) : jOI E A kX10_shuts 0 [VI x0] G I q := by
  intro I0 hF
  refine jOk_mem (fun hI => ?_)
  refine jOk_in (i := 0) rfl (fun hx0 => ?_)
  replace hT := hT hI hx0
  refine r_iload_n dX10_shuts_0 rfl (i := 0) rfl ?_
  refine r_bipush (n := 41) dX10_shuts_1 (by decide +kernel) ?_
  refine r_icmp_ne (tgt := 10) dX10_shuts_3 rfl hx0 ⟨by decide, by decide⟩ (fun hcc => ?_) (fun hcc => ?_)
  · replace hT := hT.1 hcc
    refine r_iload_n dX10_shuts_10 rfl (i := 0) rfl ?_
    refine r_bipush (n := 93) dX10_shuts_11 (by decide +kernel) ?_
    refine r_icmp_ne (tgt := 20) dX10_shuts_13 rfl hx0 ⟨by decide, by decide⟩ (fun hcc => ?_) (fun hcc => ?_)
    · replace hT := hT.1 hcc
      refine r_iload_n dX10_shuts_20 rfl (i := 0) rfl ?_
      refine r_bipush (n := 125) dX10_shuts_21 (by decide +kernel) ?_
      refine r_icmp_ne (tgt := 30) dX10_shuts_23 rfl hx0 ⟨by decide, by decide⟩ (fun hcc => ?_) (fun hcc => ?_)
      · replace hT := hT.1 hcc
        refine r_iconst (n := 0) dX10_shuts_30 ?_
        exact r_iret dX10_shuts_31 rfl ⟨by decide, by decide⟩ ⟨Nat.zero_le _, Nat.zero_le _⟩ ⟨_, rfl, rfl, hF, hT⟩
      · replace hT := hT.2 hcc
        refine r_iconst (n := 3) dX10_shuts_26 ?_
        refine r_goto (tgt := 31) dX10_shuts_27 rfl ?_
        exact r_iret dX10_shuts_31 rfl ⟨by decide, by decide⟩ ⟨Nat.zero_le _, Nat.zero_le _⟩ ⟨_, rfl, rfl, hF, hT⟩
    · replace hT := hT.2 hcc
      refine r_iconst (n := 2) dX10_shuts_16 ?_
      refine r_goto (tgt := 31) dX10_shuts_17 rfl ?_
      exact r_iret dX10_shuts_31 rfl ⟨by decide, by decide⟩ ⟨Nat.zero_le _, Nat.zero_le _⟩ ⟨_, rfl, rfl, hF, hT⟩
  · replace hT := hT.2 hcc
    refine r_iconst (n := 1) dX10_shuts_6 ?_
    refine r_goto (tgt := 31) dX10_shuts_7 rfl ?_
    exact r_iret dX10_shuts_31 rfl ⟨by decide, by decide⟩ ⟨Nat.zero_le _, Nat.zero_le _⟩ ⟨_, rfl, rfl, hF, hT⟩
theorem en_X10_shuts {E : jE} {A : Nat → Prop} {G : jG} {I : jM} {q : Int → jM → Prop} {x0 : Int}  (hT : (∀ a j, jRg (G.2.1 a).1 (I a j)) → jIn x0 → ((¬ x0 = 41 → ((¬ x0 = 93 → ((¬ x0 = 125 → q 0 I) ∧ (x0 = 125 → q 3 I))) ∧ (x0 = 93 → q 2 I))) ∧ (x0 = 41 → q 1 I))) : jRI E A kX10_shuts [VI x0] G I q := jRun.of mt_X10_shuts.2.2.2 0 rfl (fun _ => st_X10_shuts_0  hT I (fun _ _ => rfl))
set_option maxRecDepth 20000 in
theorem st_X10_layPairs_4 {E : jE} {G : jG} {I : jM} {q : jM → Prop} {m : Nat} {x1 : Int} {x2 : Int} (hm : WX10 G m) (hT : (∀ a j, jRg (G.2.1 a).1 (I a j)) → jIn x1 → jIn x2 → (((I (m + 1) 2) ≤ x2 → q I) ∧ (¬ (I (m + 1) 2) ≤ x2 → ((0 : Int) ≤ x2 ∧ (x2 : Int) < 200) ∧ (∀ M3, M3 = jup I (m + 22) x2 (-1) → (0 ≤ 10 + x2 ∧ 10 + x2 < 22094) ∧ jRI E (jA m) kX10_opens [VI (M3 (m + 1) (10 + x2))] G M3 (fun r7 I6 => ((r7 ≤ 0 → (0 ≤ 10 + x2 ∧ 10 + x2 < 22094) ∧ jRI E (jA m) kX10_shuts [VI (I6 (m + 1) (10 + x2))] G I6 (fun r12 I11 => ((r12 ≤ 0 → jIn (x2 + 1) ∧ jOV E (jA m) kX10_layPairs 4 [VR m, VI x1, VI (x2 + 1), VN] G I11 q) ∧ (¬ r12 ≤ 0 → ((x1 ≤ 0 → jIn (x2 + 1) ∧ jOV E (jA m) kX10_layPairs 4 [VR m, VI x1, VI (x2 + 1), VN] G I11 q) ∧ (¬ x1 ≤ 0 → ((0 : Int) ≤ (x1 - 1) ∧ ((x1 - 1) : Int) < 200) ∧ (0 ≤ 10 + (I11 (m + 23) (x1 - 1)) ∧ 10 + (I11 (m + 23) (x1 - 1)) < 22094) ∧ jRI E (jA m) kX10_opens [VI (I11 (m + 1) (10 + (I11 (m + 23) (x1 - 1))))] G I11 (fun r20 I19 => (0 ≤ 10 + x2 ∧ 10 + x2 < 22094) ∧ jRI E (jA m) kX10_shuts [VI (I19 (m + 1) (10 + x2))] G I19 (fun r25 I24 => ((¬ r20 = r25 → jIn (x2 + 1) ∧ jOV E (jA m) kX10_layPairs 4 [VR m, VI x1, VI (x2 + 1), VN] G I24 q) ∧ (r20 = r25 → jIn (x1 + (-1)) ∧ ((0 : Int) ≤ (x1 + (-1)) ∧ ((x1 + (-1)) : Int) < 200) ∧ ((0 : Int) ≤ x2 ∧ (x2 : Int) < 200) ∧ (∀ M31, M31 = jup I24 (m + 22) x2 (I24 (m + 23) (x1 + (-1))) → ((0 : Int) ≤ (x1 + (-1)) ∧ ((x1 + (-1)) : Int) < 200) ∧ ((0 : Int) ≤ (I24 (m + 23) (x1 + (-1))) ∧ ((I24 (m + 23) (x1 + (-1))) : Int) < 200) ∧ (∀ M34, M34 = jup M31 (m + 22) (I24 (m + 23) (x1 + (-1))) x2 → jIn (x2 + 1) ∧ jOV E (jA m) kX10_layPairs 4 [VR m, VI (x1 + (-1)), VI (x2 + 1), VN] G M34 q)))))))))))) ∧ (¬ r7 ≤ 0 → ((0 : Int) ≤ x1 ∧ (x1 : Int) < 200) ∧ (∀ M37, M37 = jup I6 (m + 23) x1 x2 → jIn (x1 + 1) ∧ (0 ≤ 10 + x2 ∧ 10 + x2 < 22094) ∧ jRI E (jA m) kX10_shuts [VI (M37 (m + 1) (10 + x2))] G M37 (fun r42 I41 => ((r42 ≤ 0 → jIn (x2 + 1) ∧ jOV E (jA m) kX10_layPairs 4 [VR m, VI (x1 + 1), VI (x2 + 1), VN] G I41 q) ∧ (¬ r42 ≤ 0 → (((x1 + 1) ≤ 0 → jIn (x2 + 1) ∧ jOV E (jA m) kX10_layPairs 4 [VR m, VI (x1 + 1), VI (x2 + 1), VN] G I41 q) ∧ (¬ (x1 + 1) ≤ 0 → ((0 : Int) ≤ ((x1 + 1) - 1) ∧ (((x1 + 1) - 1) : Int) < 200) ∧ (0 ≤ 10 + (I41 (m + 23) ((x1 + 1) - 1)) ∧ 10 + (I41 (m + 23) ((x1 + 1) - 1)) < 22094) ∧ jRI E (jA m) kX10_opens [VI (I41 (m + 1) (10 + (I41 (m + 23) ((x1 + 1) - 1))))] G I41 (fun r50 I49 => (0 ≤ 10 + x2 ∧ 10 + x2 < 22094) ∧ jRI E (jA m) kX10_shuts [VI (I49 (m + 1) (10 + x2))] G I49 (fun r55 I54 => ((¬ r50 = r55 → jIn (x2 + 1) ∧ jOV E (jA m) kX10_layPairs 4 [VR m, VI (x1 + 1), VI (x2 + 1), VN] G I54 q) ∧ (r50 = r55 → jIn ((x1 + 1) + (-1)) ∧ ((0 : Int) ≤ ((x1 + 1) + (-1)) ∧ (((x1 + 1) + (-1)) : Int) < 200) ∧ ((0 : Int) ≤ x2 ∧ (x2 : Int) < 200) ∧ (∀ M61, M61 = jup I54 (m + 22) x2 (I54 (m + 23) ((x1 + 1) + (-1))) → ((0 : Int) ≤ ((x1 + 1) + (-1)) ∧ (((x1 + 1) + (-1)) : Int) < 200) ∧ ((0 : Int) ≤ (I54 (m + 23) ((x1 + 1) + (-1))) ∧ ((I54 (m + 23) ((x1 + 1) + (-1))) : Int) < 200) ∧ (∀ M64, M64 = jup M61 (m + 22) (I54 (m + 23) ((x1 + 1) + (-1))) x2 → jIn (x2 + 1) ∧ jOV E (jA m) kX10_layPairs 4 [VR m, VI ((x1 + 1) + (-1)), VI (x2 + 1), VN] G M64 q))))))))))))))))))) : jOV E (jA m) kX10_layPairs 4 [VR m, VI x1, VI x2, VN] G I q := by
  intro I0 hF
  refine jOk_mem (fun hI => ?_)
  refine jOk_in (i := 1) rfl (fun hx1 => ?_)
  refine jOk_in (i := 2) rfl (fun hx2 => ?_)
  replace hT := hT hI hx1 hx2
  refine r_iload_n dX10_layPairs_4 rfl (i := 2) rfl ?_
  refine r_aload_n dX10_layPairs_5 rfl (i := 0) rfl ?_
  refine rr_getR (b := (m + 1)) dX10_layPairs_6 fg_X10_7 rfl rfl (wX10_l hm) (wX10_s hm) (wX10_r0 hm) ?_
  refine r_iconst (n := 2) dX10_layPairs_9 ?_
  refine rr_iaload (v := I (m + 1) 2) dX10_layPairs_10 (wX10_l0 hm) (wX10_a0 hm) (by decide) ⟨by decide, by decide⟩ rfl ?_
  refine r_icmp_ge (tgt := 129) dX10_layPairs_11 rfl hx2 (hI _ _).inR (fun hcc => ?_) (fun hcc => ?_)
  · replace hT := hT.1 hcc
    exact r_vret dX10_layPairs_129 rfl ⟨Nat.zero_le _, Nat.zero_le _⟩ ⟨rfl, rfl, hF, hT⟩
  · replace hT := hT.2 hcc
    refine r_aload_n dX10_layPairs_14 rfl (i := 0) rfl ?_
    refine rr_getR (b := (m + 22)) dX10_layPairs_15 fg_X10_78 rfl rfl (wX10_l hm) (wX10_s hm) (wX10_r33 hm) ?_
    refine r_iload_n dX10_layPairs_18 rfl (i := 2) rfl ?_
    refine r_iconst (n := (-1)) dX10_layPairs_19 ?_
    obtain ⟨hc2, hT⟩ := hT
    refine rr_iastore dX10_layPairs_20 (wX10_l33 hm) (wX10_a33 hm) (by decide) hc2 ⟨by decide, by decide⟩ (fun M3 eM3 => ?_)
    have hFM3 := jFr_up hF eM3 (wX10_f hm 22 (by decide))
    replace hT := hT M3 eM3
    refine jOk_mem (fun hIM3 => ?_)
    refine r_aload_n dX10_layPairs_21 rfl (i := 0) rfl ?_
    refine r_iload_n dX10_layPairs_22 rfl (i := 2) rfl ?_
    obtain ⟨hc5, hT⟩ := hT
    refine rr_pVI (A := (jA m)) (v := M3 (m + 1) (10 + x2)) (a := m) (as := [VI x2]) (st := []) dX10_layPairs_23 mt_X10_byteAt ml_X10_120 mi_X10_byteAt rm_X10_layPairs_X10_byteAt jz_X10_byteAt ⟨Nat.zero_le _, Nat.zero_le _⟩ (Nat.le_of_ble_eq_true rfl) (wX10_l hm) (wX10_c hm) (jasI hx2 jas0) ((sp_X10_byteAt hm) hc5) (fun hc4 => ?_)
    refine rr_cSI (as := [VI (M3 (m + 1) (10 + x2))]) (st := []) dX10_layPairs_26 mt_X10_opens ml_X10_360 ms_X10_opens rm_X10_layPairs_X10_opens jz_X10_opens ⟨Nat.zero_le _, Nat.zero_le _⟩ (Nat.le_of_ble_eq_true rfl) (jasI hc4 jas0) hT (fun r7 I6 hc8 hFI6 hT => ?_)
    replace hFI6 := jFr_tr hFM3 hFI6
    refine jOk_mem (fun hI6 => ?_)
    refine r_if_le (tgt := 42) dX10_layPairs_29 rfl hc8 (fun hcc => ?_) (fun hcc => ?_)
    · replace hT := hT.1 hcc
      refine r_aload_n dX10_layPairs_42 rfl (i := 0) rfl ?_
      refine r_iload_n dX10_layPairs_43 rfl (i := 2) rfl ?_
      obtain ⟨hc10, hT⟩ := hT
      refine rr_pVI (A := (jA m)) (v := I6 (m + 1) (10 + x2)) (a := m) (as := [VI x2]) (st := []) dX10_layPairs_44 mt_X10_byteAt ml_X10_120 mi_X10_byteAt rm_X10_layPairs_X10_byteAt jz_X10_byteAt ⟨Nat.zero_le _, Nat.zero_le _⟩ (Nat.le_of_ble_eq_true rfl) (wX10_l hm) (wX10_c hm) (jasI hx2 jas0) ((sp_X10_byteAt hm) hc10) (fun hc9 => ?_)
      refine rr_cSI (as := [VI (I6 (m + 1) (10 + x2))]) (st := []) dX10_layPairs_47 mt_X10_shuts ml_X10_363 ms_X10_shuts rm_X10_layPairs_X10_shuts jz_X10_shuts ⟨Nat.zero_le _, Nat.zero_le _⟩ (Nat.le_of_ble_eq_true rfl) (jasI hc9 jas0) hT (fun r12 I11 hc13 hFI11 hT => ?_)
      replace hFI11 := jFr_tr hFI6 hFI11
      refine jOk_mem (fun hI11 => ?_)
      refine r_if_le (tgt := 87) dX10_layPairs_50 rfl hc13 (fun hcc => ?_) (fun hcc => ?_)
      · replace hT := hT.1 hcc
        refine r_iconst (n := 0) dX10_layPairs_87 ?_
        refine rr_istore_n (i := 3) (ls' := [VR m, VI x1, VI x2, VI 0]) dX10_layPairs_88 rfl (Nat.le_of_ble_eq_true rfl) rfl rfl ⟨by decide, by decide⟩ ?_
        refine r_iload_n dX10_layPairs_89 rfl (i := 3) rfl ?_
        refine r_if_ne (tgt := 96) dX10_layPairs_90 rfl ⟨by decide, by decide⟩ (fun hcc => ?_) (fun hcc => ?_)
        · exact absurd hcc (by decide)
        · skip
          refine r_goto (tgt := 123) dX10_layPairs_93 rfl ?_
          obtain ⟨hc14, hT⟩ := hT
          refine rr_iinc (i := 2) (ls' := [VR m, VI x1, VI (x2 + 1), VI 0]) dX10_layPairs_123 rfl (Nat.le_of_ble_eq_true rfl) rfl rfl hc14 ?_
          refine r_goto (tgt := 4) dX10_layPairs_126 rfl ?_
          exact jOk_le (ls' := [VR m, VI x1, VI (x2 + 1), VN]) ⟨Or.inr rfl, Or.inr rfl, Or.inr rfl, Or.inl rfl, trivial⟩ (hT I0 hFI11)
      · replace hT := hT.2 hcc
        refine r_iload_n dX10_layPairs_53 rfl (i := 1) rfl ?_
        refine r_if_le (tgt := 87) dX10_layPairs_54 rfl hx1 (fun hcc => ?_) (fun hcc => ?_)
        · replace hT := hT.1 hcc
          refine r_iconst (n := 0) dX10_layPairs_87 ?_
          refine rr_istore_n (i := 3) (ls' := [VR m, VI x1, VI x2, VI 0]) dX10_layPairs_88 rfl (Nat.le_of_ble_eq_true rfl) rfl rfl ⟨by decide, by decide⟩ ?_
          refine r_iload_n dX10_layPairs_89 rfl (i := 3) rfl ?_
          refine r_if_ne (tgt := 96) dX10_layPairs_90 rfl ⟨by decide, by decide⟩ (fun hcc => ?_) (fun hcc => ?_)
          · exact absurd hcc (by decide)
          · skip
            refine r_goto (tgt := 123) dX10_layPairs_93 rfl ?_
            obtain ⟨hc15, hT⟩ := hT
            refine rr_iinc (i := 2) (ls' := [VR m, VI x1, VI (x2 + 1), VI 0]) dX10_layPairs_123 rfl (Nat.le_of_ble_eq_true rfl) rfl rfl hc15 ?_
            refine r_goto (tgt := 4) dX10_layPairs_126 rfl ?_
            exact jOk_le (ls' := [VR m, VI x1, VI (x2 + 1), VN]) ⟨Or.inr rfl, Or.inr rfl, Or.inr rfl, Or.inl rfl, trivial⟩ (hT I0 hFI11)
        · replace hT := hT.2 hcc
          refine r_aload_n dX10_layPairs_57 rfl (i := 0) rfl ?_
          refine r_aload_n dX10_layPairs_58 rfl (i := 0) rfl ?_
          refine rr_getR (b := (m + 23)) dX10_layPairs_59 fg_X10_81 rfl rfl (wX10_l hm) (wX10_s hm) (wX10_r34 hm) ?_
          refine r_iload_n dX10_layPairs_62 rfl (i := 1) rfl ?_
          refine r_iconst (n := 1) dX10_layPairs_63 ?_
          refine r_isub dX10_layPairs_64 ?_
          obtain ⟨hc16, hT⟩ := hT
          refine rr_iaload (v := I11 (m + 23) (x1 - 1)) dX10_layPairs_65 (wX10_l34 hm) (wX10_a34 hm) (by decide) hc16 rfl ?_
          obtain ⟨hc18, hT⟩ := hT
          refine rr_pVI (A := (jA m)) (v := I11 (m + 1) (10 + (I11 (m + 23) (x1 - 1)))) (a := m) (as := [VI (I11 (m + 23) (x1 - 1))]) (st := []) dX10_layPairs_66 mt_X10_byteAt ml_X10_120 mi_X10_byteAt rm_X10_layPairs_X10_byteAt jz_X10_byteAt ⟨Nat.zero_le _, Nat.zero_le _⟩ (Nat.le_of_ble_eq_true rfl) (wX10_l hm) (wX10_c hm) (jasI (hI11 _ _).inR jas0) ((sp_X10_byteAt hm) hc18) (fun hc17 => ?_)
          refine rr_cSI (as := [VI (I11 (m + 1) (10 + (I11 (m + 23) (x1 - 1))))]) (st := []) dX10_layPairs_69 mt_X10_opens ml_X10_360 ms_X10_opens rm_X10_layPairs_X10_opens jz_X10_opens ⟨Nat.zero_le _, Nat.zero_le _⟩ (Nat.le_of_ble_eq_true rfl) (jasI hc17 jas0) hT (fun r20 I19 hc21 hFI19 hT => ?_)
          replace hFI19 := jFr_tr hFI11 hFI19
          refine jOk_mem (fun hI19 => ?_)
          refine r_aload_n dX10_layPairs_72 rfl (i := 0) rfl ?_
          refine r_iload_n dX10_layPairs_73 rfl (i := 2) rfl ?_
          obtain ⟨hc23, hT⟩ := hT
          refine rr_pVI (A := (jA m)) (v := I19 (m + 1) (10 + x2)) (a := m) (as := [VI x2]) (st := [VI r20]) dX10_layPairs_74 mt_X10_byteAt ml_X10_120 mi_X10_byteAt rm_X10_layPairs_X10_byteAt jz_X10_byteAt ⟨Nat.zero_le _, Nat.zero_le _⟩ (Nat.le_of_ble_eq_true rfl) (wX10_l hm) (wX10_c hm) (jasI hx2 jas0) ((sp_X10_byteAt hm) hc23) (fun hc22 => ?_)
          refine rr_cSI (as := [VI (I19 (m + 1) (10 + x2))]) (st := [VI r20]) dX10_layPairs_77 mt_X10_shuts ml_X10_363 ms_X10_shuts rm_X10_layPairs_X10_shuts jz_X10_shuts ⟨Nat.zero_le _, Nat.zero_le _⟩ (Nat.le_of_ble_eq_true rfl) (jasI hc22 jas0) hT (fun r25 I24 hc26 hFI24 hT => ?_)
          replace hFI24 := jFr_tr hFI19 hFI24
          refine jOk_mem (fun hI24 => ?_)
          refine r_icmp_ne (tgt := 87) dX10_layPairs_80 rfl hc21 hc26 (fun hcc => ?_) (fun hcc => ?_)
          · replace hT := hT.1 hcc
            refine r_iconst (n := 0) dX10_layPairs_87 ?_
            refine rr_istore_n (i := 3) (ls' := [VR m, VI x1, VI x2, VI 0]) dX10_layPairs_88 rfl (Nat.le_of_ble_eq_true rfl) rfl rfl ⟨by decide, by decide⟩ ?_
            refine r_iload_n dX10_layPairs_89 rfl (i := 3) rfl ?_
            refine r_if_ne (tgt := 96) dX10_layPairs_90 rfl ⟨by decide, by decide⟩ (fun hcc => ?_) (fun hcc => ?_)
            · exact absurd hcc (by decide)
            · skip
              refine r_goto (tgt := 123) dX10_layPairs_93 rfl ?_
              obtain ⟨hc27, hT⟩ := hT
              refine rr_iinc (i := 2) (ls' := [VR m, VI x1, VI (x2 + 1), VI 0]) dX10_layPairs_123 rfl (Nat.le_of_ble_eq_true rfl) rfl rfl hc27 ?_
              refine r_goto (tgt := 4) dX10_layPairs_126 rfl ?_
              exact jOk_le (ls' := [VR m, VI x1, VI (x2 + 1), VN]) ⟨Or.inr rfl, Or.inr rfl, Or.inr rfl, Or.inl rfl, trivial⟩ (hT I0 hFI24)
          · replace hT := hT.2 hcc
            refine r_iconst (n := 1) dX10_layPairs_83 ?_
            refine r_goto (tgt := 88) dX10_layPairs_84 rfl ?_
            refine rr_istore_n (i := 3) (ls' := [VR m, VI x1, VI x2, VI 1]) dX10_layPairs_88 rfl (Nat.le_of_ble_eq_true rfl) rfl rfl ⟨by decide, by decide⟩ ?_
            refine r_iload_n dX10_layPairs_89 rfl (i := 3) rfl ?_
            refine r_if_ne (tgt := 96) dX10_layPairs_90 rfl ⟨by decide, by decide⟩ (fun hcc => ?_) (fun hcc => ?_)
            · skip
              obtain ⟨hc28, hT⟩ := hT
              refine rr_iinc (i := 1) (ls' := [VR m, VI (x1 + (-1)), VI x2, VI 1]) dX10_layPairs_96 rfl (Nat.le_of_ble_eq_true rfl) rfl rfl hc28 ?_
              refine r_aload_n dX10_layPairs_99 rfl (i := 0) rfl ?_
              refine rr_getR (b := (m + 22)) dX10_layPairs_100 fg_X10_78 rfl rfl (wX10_l hm) (wX10_s hm) (wX10_r33 hm) ?_
              refine r_iload_n dX10_layPairs_103 rfl (i := 2) rfl ?_
              refine r_aload_n dX10_layPairs_104 rfl (i := 0) rfl ?_
              refine rr_getR (b := (m + 23)) dX10_layPairs_105 fg_X10_81 rfl rfl (wX10_l hm) (wX10_s hm) (wX10_r34 hm) ?_
              refine r_iload_n dX10_layPairs_108 rfl (i := 1) rfl ?_
              obtain ⟨hc29, hT⟩ := hT
              refine rr_iaload (v := I24 (m + 23) (x1 + (-1))) dX10_layPairs_109 (wX10_l34 hm) (wX10_a34 hm) (by decide) hc29 rfl ?_
              obtain ⟨hc30, hT⟩ := hT
              refine rr_iastore dX10_layPairs_110 (wX10_l33 hm) (wX10_a33 hm) (by decide) hc30 (hI24 _ _).inR (fun M31 eM31 => ?_)
              have hFM31 := jFr_up hFI24 eM31 (wX10_f hm 22 (by decide))
              replace hT := hT M31 eM31
              refine jOk_mem (fun hIM31 => ?_)
              refine r_aload_n dX10_layPairs_111 rfl (i := 0) rfl ?_
              refine rr_getR (b := (m + 22)) dX10_layPairs_112 fg_X10_78 rfl rfl (wX10_l hm) (wX10_s hm) (wX10_r33 hm) ?_
              refine r_aload_n dX10_layPairs_115 rfl (i := 0) rfl ?_
              refine rr_getR (b := (m + 23)) dX10_layPairs_116 fg_X10_81 rfl rfl (wX10_l hm) (wX10_s hm) (wX10_r34 hm) ?_
              refine r_iload_n dX10_layPairs_119 rfl (i := 1) rfl ?_
              obtain ⟨hc32, hT⟩ := hT
              refine rr_iaload (v := I24 (m + 23) (x1 + (-1))) dX10_layPairs_120 (wX10_l34 hm) (wX10_a34 hm) (by decide) hc32 (jr_na eM31 (by omega)) ?_
              refine r_iload_n dX10_layPairs_121 rfl (i := 2) rfl ?_
              obtain ⟨hc33, hT⟩ := hT
              refine rr_iastore dX10_layPairs_122 (wX10_l33 hm) (wX10_a33 hm) (by decide) hc33 hx2 (fun M34 eM34 => ?_)
              have hFM34 := jFr_up hFM31 eM34 (wX10_f hm 22 (by decide))
              replace hT := hT M34 eM34
              refine jOk_mem (fun hIM34 => ?_)
              obtain ⟨hc35, hT⟩ := hT
              refine rr_iinc (i := 2) (ls' := [VR m, VI (x1 + (-1)), VI (x2 + 1), VI 1]) dX10_layPairs_123 rfl (Nat.le_of_ble_eq_true rfl) rfl rfl hc35 ?_
              refine r_goto (tgt := 4) dX10_layPairs_126 rfl ?_
              exact jOk_le (ls' := [VR m, VI (x1 + (-1)), VI (x2 + 1), VN]) ⟨Or.inr rfl, Or.inr rfl, Or.inr rfl, Or.inl rfl, trivial⟩ (hT I0 hFM34)
            · exact absurd hcc (by decide)
    · replace hT := hT.2 hcc
      refine r_aload_n dX10_layPairs_32 rfl (i := 0) rfl ?_
      refine rr_getR (b := (m + 23)) dX10_layPairs_33 fg_X10_81 rfl rfl (wX10_l hm) (wX10_s hm) (wX10_r34 hm) ?_
      refine r_iload_n dX10_layPairs_36 rfl (i := 1) rfl ?_
      refine r_iload_n dX10_layPairs_37 rfl (i := 2) rfl ?_
      obtain ⟨hc36, hT⟩ := hT
      refine rr_iastore dX10_layPairs_38 (wX10_l34 hm) (wX10_a34 hm) (by decide) hc36 hx2 (fun M37 eM37 => ?_)
      have hFM37 := jFr_up hFI6 eM37 (wX10_f hm 23 (by decide))
      replace hT := hT M37 eM37
      refine jOk_mem (fun hIM37 => ?_)
      obtain ⟨hc38, hT⟩ := hT
      refine rr_iinc (i := 1) (ls' := [VR m, VI (x1 + 1), VI x2, VN]) dX10_layPairs_39 rfl (Nat.le_of_ble_eq_true rfl) rfl rfl hc38 ?_
      refine r_aload_n dX10_layPairs_42 rfl (i := 0) rfl ?_
      refine r_iload_n dX10_layPairs_43 rfl (i := 2) rfl ?_
      obtain ⟨hc40, hT⟩ := hT
      refine rr_pVI (A := (jA m)) (v := M37 (m + 1) (10 + x2)) (a := m) (as := [VI x2]) (st := []) dX10_layPairs_44 mt_X10_byteAt ml_X10_120 mi_X10_byteAt rm_X10_layPairs_X10_byteAt jz_X10_byteAt ⟨Nat.zero_le _, Nat.zero_le _⟩ (Nat.le_of_ble_eq_true rfl) (wX10_l hm) (wX10_c hm) (jasI hx2 jas0) ((sp_X10_byteAt hm) hc40) (fun hc39 => ?_)
      refine rr_cSI (as := [VI (M37 (m + 1) (10 + x2))]) (st := []) dX10_layPairs_47 mt_X10_shuts ml_X10_363 ms_X10_shuts rm_X10_layPairs_X10_shuts jz_X10_shuts ⟨Nat.zero_le _, Nat.zero_le _⟩ (Nat.le_of_ble_eq_true rfl) (jasI hc39 jas0) hT (fun r42 I41 hc43 hFI41 hT => ?_)
      replace hFI41 := jFr_tr hFM37 hFI41
      refine jOk_mem (fun hI41 => ?_)
      refine r_if_le (tgt := 87) dX10_layPairs_50 rfl hc43 (fun hcc => ?_) (fun hcc => ?_)
      · replace hT := hT.1 hcc
        refine r_iconst (n := 0) dX10_layPairs_87 ?_
        refine rr_istore_n (i := 3) (ls' := [VR m, VI (x1 + 1), VI x2, VI 0]) dX10_layPairs_88 rfl (Nat.le_of_ble_eq_true rfl) rfl rfl ⟨by decide, by decide⟩ ?_
        refine r_iload_n dX10_layPairs_89 rfl (i := 3) rfl ?_
        refine r_if_ne (tgt := 96) dX10_layPairs_90 rfl ⟨by decide, by decide⟩ (fun hcc => ?_) (fun hcc => ?_)
        · exact absurd hcc (by decide)
        · skip
          refine r_goto (tgt := 123) dX10_layPairs_93 rfl ?_
          obtain ⟨hc44, hT⟩ := hT
          refine rr_iinc (i := 2) (ls' := [VR m, VI (x1 + 1), VI (x2 + 1), VI 0]) dX10_layPairs_123 rfl (Nat.le_of_ble_eq_true rfl) rfl rfl hc44 ?_
          refine r_goto (tgt := 4) dX10_layPairs_126 rfl ?_
          exact jOk_le (ls' := [VR m, VI (x1 + 1), VI (x2 + 1), VN]) ⟨Or.inr rfl, Or.inr rfl, Or.inr rfl, Or.inl rfl, trivial⟩ (hT I0 hFI41)
      · replace hT := hT.2 hcc
        refine r_iload_n dX10_layPairs_53 rfl (i := 1) rfl ?_
        refine r_if_le (tgt := 87) dX10_layPairs_54 rfl hc38 (fun hcc => ?_) (fun hcc => ?_)
        · replace hT := hT.1 hcc
          refine r_iconst (n := 0) dX10_layPairs_87 ?_
          refine rr_istore_n (i := 3) (ls' := [VR m, VI (x1 + 1), VI x2, VI 0]) dX10_layPairs_88 rfl (Nat.le_of_ble_eq_true rfl) rfl rfl ⟨by decide, by decide⟩ ?_
          refine r_iload_n dX10_layPairs_89 rfl (i := 3) rfl ?_
          refine r_if_ne (tgt := 96) dX10_layPairs_90 rfl ⟨by decide, by decide⟩ (fun hcc => ?_) (fun hcc => ?_)
          · exact absurd hcc (by decide)
          · skip
            refine r_goto (tgt := 123) dX10_layPairs_93 rfl ?_
            obtain ⟨hc45, hT⟩ := hT
            refine rr_iinc (i := 2) (ls' := [VR m, VI (x1 + 1), VI (x2 + 1), VI 0]) dX10_layPairs_123 rfl (Nat.le_of_ble_eq_true rfl) rfl rfl hc45 ?_
            refine r_goto (tgt := 4) dX10_layPairs_126 rfl ?_
            exact jOk_le (ls' := [VR m, VI (x1 + 1), VI (x2 + 1), VN]) ⟨Or.inr rfl, Or.inr rfl, Or.inr rfl, Or.inl rfl, trivial⟩ (hT I0 hFI41)
        · replace hT := hT.2 hcc
          refine r_aload_n dX10_layPairs_57 rfl (i := 0) rfl ?_
          refine r_aload_n dX10_layPairs_58 rfl (i := 0) rfl ?_
          refine rr_getR (b := (m + 23)) dX10_layPairs_59 fg_X10_81 rfl rfl (wX10_l hm) (wX10_s hm) (wX10_r34 hm) ?_
          refine r_iload_n dX10_layPairs_62 rfl (i := 1) rfl ?_
          refine r_iconst (n := 1) dX10_layPairs_63 ?_
          refine r_isub dX10_layPairs_64 ?_
          obtain ⟨hc46, hT⟩ := hT
          refine rr_iaload (v := I41 (m + 23) ((x1 + 1) - 1)) dX10_layPairs_65 (wX10_l34 hm) (wX10_a34 hm) (by decide) hc46 rfl ?_
          obtain ⟨hc48, hT⟩ := hT
          refine rr_pVI (A := (jA m)) (v := I41 (m + 1) (10 + (I41 (m + 23) ((x1 + 1) - 1)))) (a := m) (as := [VI (I41 (m + 23) ((x1 + 1) - 1))]) (st := []) dX10_layPairs_66 mt_X10_byteAt ml_X10_120 mi_X10_byteAt rm_X10_layPairs_X10_byteAt jz_X10_byteAt ⟨Nat.zero_le _, Nat.zero_le _⟩ (Nat.le_of_ble_eq_true rfl) (wX10_l hm) (wX10_c hm) (jasI (hI41 _ _).inR jas0) ((sp_X10_byteAt hm) hc48) (fun hc47 => ?_)
          refine rr_cSI (as := [VI (I41 (m + 1) (10 + (I41 (m + 23) ((x1 + 1) - 1))))]) (st := []) dX10_layPairs_69 mt_X10_opens ml_X10_360 ms_X10_opens rm_X10_layPairs_X10_opens jz_X10_opens ⟨Nat.zero_le _, Nat.zero_le _⟩ (Nat.le_of_ble_eq_true rfl) (jasI hc47 jas0) hT (fun r50 I49 hc51 hFI49 hT => ?_)
          replace hFI49 := jFr_tr hFI41 hFI49
          refine jOk_mem (fun hI49 => ?_)
          refine r_aload_n dX10_layPairs_72 rfl (i := 0) rfl ?_
          refine r_iload_n dX10_layPairs_73 rfl (i := 2) rfl ?_
          obtain ⟨hc53, hT⟩ := hT
          refine rr_pVI (A := (jA m)) (v := I49 (m + 1) (10 + x2)) (a := m) (as := [VI x2]) (st := [VI r50]) dX10_layPairs_74 mt_X10_byteAt ml_X10_120 mi_X10_byteAt rm_X10_layPairs_X10_byteAt jz_X10_byteAt ⟨Nat.zero_le _, Nat.zero_le _⟩ (Nat.le_of_ble_eq_true rfl) (wX10_l hm) (wX10_c hm) (jasI hx2 jas0) ((sp_X10_byteAt hm) hc53) (fun hc52 => ?_)
          refine rr_cSI (as := [VI (I49 (m + 1) (10 + x2))]) (st := [VI r50]) dX10_layPairs_77 mt_X10_shuts ml_X10_363 ms_X10_shuts rm_X10_layPairs_X10_shuts jz_X10_shuts ⟨Nat.zero_le _, Nat.zero_le _⟩ (Nat.le_of_ble_eq_true rfl) (jasI hc52 jas0) hT (fun r55 I54 hc56 hFI54 hT => ?_)
          replace hFI54 := jFr_tr hFI49 hFI54
          refine jOk_mem (fun hI54 => ?_)
          refine r_icmp_ne (tgt := 87) dX10_layPairs_80 rfl hc51 hc56 (fun hcc => ?_) (fun hcc => ?_)
          · replace hT := hT.1 hcc
            refine r_iconst (n := 0) dX10_layPairs_87 ?_
            refine rr_istore_n (i := 3) (ls' := [VR m, VI (x1 + 1), VI x2, VI 0]) dX10_layPairs_88 rfl (Nat.le_of_ble_eq_true rfl) rfl rfl ⟨by decide, by decide⟩ ?_
            refine r_iload_n dX10_layPairs_89 rfl (i := 3) rfl ?_
            refine r_if_ne (tgt := 96) dX10_layPairs_90 rfl ⟨by decide, by decide⟩ (fun hcc => ?_) (fun hcc => ?_)
            · exact absurd hcc (by decide)
            · skip
              refine r_goto (tgt := 123) dX10_layPairs_93 rfl ?_
              obtain ⟨hc57, hT⟩ := hT
              refine rr_iinc (i := 2) (ls' := [VR m, VI (x1 + 1), VI (x2 + 1), VI 0]) dX10_layPairs_123 rfl (Nat.le_of_ble_eq_true rfl) rfl rfl hc57 ?_
              refine r_goto (tgt := 4) dX10_layPairs_126 rfl ?_
              exact jOk_le (ls' := [VR m, VI (x1 + 1), VI (x2 + 1), VN]) ⟨Or.inr rfl, Or.inr rfl, Or.inr rfl, Or.inl rfl, trivial⟩ (hT I0 hFI54)
          · replace hT := hT.2 hcc
            refine r_iconst (n := 1) dX10_layPairs_83 ?_
            refine r_goto (tgt := 88) dX10_layPairs_84 rfl ?_
            refine rr_istore_n (i := 3) (ls' := [VR m, VI (x1 + 1), VI x2, VI 1]) dX10_layPairs_88 rfl (Nat.le_of_ble_eq_true rfl) rfl rfl ⟨by decide, by decide⟩ ?_
            refine r_iload_n dX10_layPairs_89 rfl (i := 3) rfl ?_
            refine r_if_ne (tgt := 96) dX10_layPairs_90 rfl ⟨by decide, by decide⟩ (fun hcc => ?_) (fun hcc => ?_)
            · skip
              obtain ⟨hc58, hT⟩ := hT
              refine rr_iinc (i := 1) (ls' := [VR m, VI ((x1 + 1) + (-1)), VI x2, VI 1]) dX10_layPairs_96 rfl (Nat.le_of_ble_eq_true rfl) rfl rfl hc58 ?_
              refine r_aload_n dX10_layPairs_99 rfl (i := 0) rfl ?_
              refine rr_getR (b := (m + 22)) dX10_layPairs_100 fg_X10_78 rfl rfl (wX10_l hm) (wX10_s hm) (wX10_r33 hm) ?_
              refine r_iload_n dX10_layPairs_103 rfl (i := 2) rfl ?_
              refine r_aload_n dX10_layPairs_104 rfl (i := 0) rfl ?_
              refine rr_getR (b := (m + 23)) dX10_layPairs_105 fg_X10_81 rfl rfl (wX10_l hm) (wX10_s hm) (wX10_r34 hm) ?_
              refine r_iload_n dX10_layPairs_108 rfl (i := 1) rfl ?_
              obtain ⟨hc59, hT⟩ := hT
              refine rr_iaload (v := I54 (m + 23) ((x1 + 1) + (-1))) dX10_layPairs_109 (wX10_l34 hm) (wX10_a34 hm) (by decide) hc59 rfl ?_
              obtain ⟨hc60, hT⟩ := hT
              refine rr_iastore dX10_layPairs_110 (wX10_l33 hm) (wX10_a33 hm) (by decide) hc60 (hI54 _ _).inR (fun M61 eM61 => ?_)
              have hFM61 := jFr_up hFI54 eM61 (wX10_f hm 22 (by decide))
              replace hT := hT M61 eM61
              refine jOk_mem (fun hIM61 => ?_)
              refine r_aload_n dX10_layPairs_111 rfl (i := 0) rfl ?_
              refine rr_getR (b := (m + 22)) dX10_layPairs_112 fg_X10_78 rfl rfl (wX10_l hm) (wX10_s hm) (wX10_r33 hm) ?_
              refine r_aload_n dX10_layPairs_115 rfl (i := 0) rfl ?_
              refine rr_getR (b := (m + 23)) dX10_layPairs_116 fg_X10_81 rfl rfl (wX10_l hm) (wX10_s hm) (wX10_r34 hm) ?_
              refine r_iload_n dX10_layPairs_119 rfl (i := 1) rfl ?_
              obtain ⟨hc62, hT⟩ := hT
              refine rr_iaload (v := I54 (m + 23) ((x1 + 1) + (-1))) dX10_layPairs_120 (wX10_l34 hm) (wX10_a34 hm) (by decide) hc62 (jr_na eM61 (by omega)) ?_
              refine r_iload_n dX10_layPairs_121 rfl (i := 2) rfl ?_
              obtain ⟨hc63, hT⟩ := hT
              refine rr_iastore dX10_layPairs_122 (wX10_l33 hm) (wX10_a33 hm) (by decide) hc63 hx2 (fun M64 eM64 => ?_)
              have hFM64 := jFr_up hFM61 eM64 (wX10_f hm 22 (by decide))
              replace hT := hT M64 eM64
              refine jOk_mem (fun hIM64 => ?_)
              obtain ⟨hc65, hT⟩ := hT
              refine rr_iinc (i := 2) (ls' := [VR m, VI ((x1 + 1) + (-1)), VI (x2 + 1), VI 1]) dX10_layPairs_123 rfl (Nat.le_of_ble_eq_true rfl) rfl rfl hc65 ?_
              refine r_goto (tgt := 4) dX10_layPairs_126 rfl ?_
              exact jOk_le (ls' := [VR m, VI ((x1 + 1) + (-1)), VI (x2 + 1), VN]) ⟨Or.inr rfl, Or.inr rfl, Or.inr rfl, Or.inl rfl, trivial⟩ (hT I0 hFM64)
            · exact absurd hcc (by decide)
set_option maxRecDepth 20000 in
theorem st_X10_layPairs_0 {E : jE} {G : jG} {I : jM} {q : jM → Prop} {m : Nat} (hm : WX10 G m) (hT : (∀ a j, jRg (G.2.1 a).1 (I a j)) → jOV E (jA m) kX10_layPairs 4 [VR m, VI 0, VI 0, VN] G I q) : jOV E (jA m) kX10_layPairs 0 [VR m, VN, VN, VN] G I q := by
  intro I0 hF
  refine jOk_mem (fun hI => ?_)
  replace hT := hT hI 
  refine r_iconst (n := 0) dX10_layPairs_0 ?_
  refine rr_istore_n (i := 1) (ls' := [VR m, VI 0, VN, VN]) dX10_layPairs_1 rfl (Nat.le_of_ble_eq_true rfl) rfl rfl ⟨by decide, by decide⟩ ?_
  refine r_iconst (n := 0) dX10_layPairs_2 ?_
  refine rr_istore_n (i := 2) (ls' := [VR m, VI 0, VI 0, VN]) dX10_layPairs_3 rfl (Nat.le_of_ble_eq_true rfl) rfl rfl ⟨by decide, by decide⟩ ?_
  exact hT I0 hF
theorem en_X10_layPairs {E : jE} {G : jG} {I : jM} {q : jM → Prop} {m : Nat} (hm : WX10 G m) (hT : (∀ a j, jRg (G.2.1 a).1 (I a j)) → jOV E (jA m) kX10_layPairs 4 [VR m, VI 0, VI 0, VN] G I q) : jRV E (jA m) kX10_layPairs [VR m] G I q := jRun.of mt_X10_layPairs.2.2.2 3 rfl (fun _ => st_X10_layPairs_0 hm hT I (fun _ _ => rfl))
set_option maxRecDepth 20000 in
theorem st_X10_unpaired_8 {E : jE} {G : jG} {I : jM} {q : Int → jM → Prop} {m : Nat} {x1 : Int} {x2 : Int} (hm : WX10 G m) (hT : (∀ a j, jRg (G.2.1 a).1 (I a j)) → jIn x1 → jIn x2 → (((I (m + 1) 2) ≤ x2 → q x1 I) ∧ (¬ (I (m + 1) 2) ≤ x2 → (0 ≤ 10 + x2 ∧ 10 + x2 < 22094) ∧ jRI E (jA m) kX10_opens [VI (I (m + 1) (10 + x2))] G I (fun r5 I4 => (0 ≤ 10 + x2 ∧ 10 + x2 < 22094) ∧ jRI E (jA m) kX10_shuts [VI (I4 (m + 1) (10 + x2))] G I4 (fun r10 I9 => jIn (r5 + r10) ∧ (((r5 + r10) ≤ 0 → jIn (x1 + 0) ∧ jIn (x2 + 1) ∧ jOI E (jA m) kX10_unpaired 8 [VR m, VI (x1 + 0), VI (x2 + 1)] G I9 q) ∧ (¬ (r5 + r10) ≤ 0 → ((0 : Int) ≤ x2 ∧ (x2 : Int) < 200) ∧ ((¬ (I9 (m + 22) x2) = (-1) → jIn (x1 + 0) ∧ jIn (x2 + 1) ∧ jOI E (jA m) kX10_unpaired 8 [VR m, VI (x1 + 0), VI (x2 + 1)] G I9 q) ∧ ((I9 (m + 22) x2) = (-1) → jIn (x1 + 1) ∧ jIn (x2 + 1) ∧ jOI E (jA m) kX10_unpaired 8 [VR m, VI (x1 + 1), VI (x2 + 1)] G I9 q))))))))) : jOI E (jA m) kX10_unpaired 8 [VR m, VI x1, VI x2] G I q := by
  intro I0 hF
  refine jOk_mem (fun hI => ?_)
  refine jOk_in (i := 1) rfl (fun hx1 => ?_)
  refine jOk_in (i := 2) rfl (fun hx2 => ?_)
  replace hT := hT hI hx1 hx2
  refine r_iload_n dX10_unpaired_8 rfl (i := 2) rfl ?_
  refine r_aload_n dX10_unpaired_9 rfl (i := 0) rfl ?_
  refine rr_getR (b := (m + 1)) dX10_unpaired_10 fg_X10_7 rfl rfl (wX10_l hm) (wX10_s hm) (wX10_r0 hm) ?_
  refine r_iconst (n := 2) dX10_unpaired_13 ?_
  refine rr_iaload (v := I (m + 1) 2) dX10_unpaired_14 (wX10_l0 hm) (wX10_a0 hm) (by decide) ⟨by decide, by decide⟩ rfl ?_
  refine r_icmp_ge (tgt := 62) dX10_unpaired_15 rfl hx2 (hI _ _).inR (fun hcc => ?_) (fun hcc => ?_)
  · replace hT := hT.1 hcc
    refine r_iload_n dX10_unpaired_62 rfl (i := 1) rfl ?_
    exact r_iret dX10_unpaired_63 rfl hx1 ⟨Nat.zero_le _, Nat.zero_le _⟩ ⟨_, rfl, rfl, hF, hT⟩
  · replace hT := hT.2 hcc
    refine r_iload_n dX10_unpaired_18 rfl (i := 1) rfl ?_
    refine r_aload_n dX10_unpaired_19 rfl (i := 0) rfl ?_
    refine r_iload_n dX10_unpaired_20 rfl (i := 2) rfl ?_
    obtain ⟨hc3, hT⟩ := hT
    refine rr_pVI (A := (jA m)) (v := I (m + 1) (10 + x2)) (a := m) (as := [VI x2]) (st := [VI x1]) dX10_unpaired_21 mt_X10_byteAt ml_X10_120 mi_X10_byteAt rm_X10_unpaired_X10_byteAt jz_X10_byteAt ⟨Nat.zero_le _, Nat.zero_le _⟩ (Nat.le_of_ble_eq_true rfl) (wX10_l hm) (wX10_c hm) (jasI hx2 jas0) ((sp_X10_byteAt hm) hc3) (fun hc2 => ?_)
    refine rr_cSI (as := [VI (I (m + 1) (10 + x2))]) (st := [VI x1]) dX10_unpaired_24 mt_X10_opens ml_X10_360 ms_X10_opens rm_X10_unpaired_X10_opens jz_X10_opens ⟨Nat.zero_le _, Nat.zero_le _⟩ (Nat.le_of_ble_eq_true rfl) (jasI hc2 jas0) hT (fun r5 I4 hc6 hFI4 hT => ?_)
    replace hFI4 := jFr_tr hF hFI4
    refine jOk_mem (fun hI4 => ?_)
    refine r_aload_n dX10_unpaired_27 rfl (i := 0) rfl ?_
    refine r_iload_n dX10_unpaired_28 rfl (i := 2) rfl ?_
    obtain ⟨hc8, hT⟩ := hT
    refine rr_pVI (A := (jA m)) (v := I4 (m + 1) (10 + x2)) (a := m) (as := [VI x2]) (st := [VI r5, VI x1]) dX10_unpaired_29 mt_X10_byteAt ml_X10_120 mi_X10_byteAt rm_X10_unpaired_X10_byteAt jz_X10_byteAt ⟨Nat.zero_le _, Nat.zero_le _⟩ (Nat.le_of_ble_eq_true rfl) (wX10_l hm) (wX10_c hm) (jasI hx2 jas0) ((sp_X10_byteAt hm) hc8) (fun hc7 => ?_)
    refine rr_cSI (as := [VI (I4 (m + 1) (10 + x2))]) (st := [VI r5, VI x1]) dX10_unpaired_32 mt_X10_shuts ml_X10_363 ms_X10_shuts rm_X10_unpaired_X10_shuts jz_X10_shuts ⟨Nat.zero_le _, Nat.zero_le _⟩ (Nat.le_of_ble_eq_true rfl) (jasI hc7 jas0) hT (fun r10 I9 hc11 hFI9 hT => ?_)
    replace hFI9 := jFr_tr hFI4 hFI9
    refine jOk_mem (fun hI9 => ?_)
    refine r_iadd dX10_unpaired_35 ?_
    obtain ⟨hc12, hT⟩ := hT
    refine r_if_le (tgt := 53) dX10_unpaired_36 rfl hc12 (fun hcc => ?_) (fun hcc => ?_)
    · replace hT := hT.1 hcc
      refine r_iconst (n := 0) dX10_unpaired_53 ?_
      refine r_iadd dX10_unpaired_54 ?_
      obtain ⟨hc13, hT⟩ := hT
      refine rr_istore_n (i := 1) (ls' := [VR m, VI (x1 + 0), VI x2]) dX10_unpaired_55 rfl (Nat.le_of_ble_eq_true rfl) rfl rfl hc13 ?_
      obtain ⟨hc14, hT⟩ := hT
      refine rr_iinc (i := 2) (ls' := [VR m, VI (x1 + 0), VI (x2 + 1)]) dX10_unpaired_56 rfl (Nat.le_of_ble_eq_true rfl) rfl rfl hc14 ?_
      refine r_goto (tgt := 8) dX10_unpaired_59 rfl ?_
      exact hT I0 hFI9
    · replace hT := hT.2 hcc
      refine r_aload_n dX10_unpaired_39 rfl (i := 0) rfl ?_
      refine rr_getR (b := (m + 22)) dX10_unpaired_40 fg_X10_78 rfl rfl (wX10_l hm) (wX10_s hm) (wX10_r33 hm) ?_
      refine r_iload_n dX10_unpaired_43 rfl (i := 2) rfl ?_
      obtain ⟨hc15, hT⟩ := hT
      refine rr_iaload (v := I9 (m + 22) x2) dX10_unpaired_44 (wX10_l33 hm) (wX10_a33 hm) (by decide) hc15 rfl ?_
      refine r_iconst (n := (-1)) dX10_unpaired_45 ?_
      refine r_icmp_ne (tgt := 53) dX10_unpaired_46 rfl (hI9 _ _).inR ⟨by decide, by decide⟩ (fun hcc => ?_) (fun hcc => ?_)
      · replace hT := hT.1 hcc
        refine r_iconst (n := 0) dX10_unpaired_53 ?_
        refine r_iadd dX10_unpaired_54 ?_
        obtain ⟨hc16, hT⟩ := hT
        refine rr_istore_n (i := 1) (ls' := [VR m, VI (x1 + 0), VI x2]) dX10_unpaired_55 rfl (Nat.le_of_ble_eq_true rfl) rfl rfl hc16 ?_
        obtain ⟨hc17, hT⟩ := hT
        refine rr_iinc (i := 2) (ls' := [VR m, VI (x1 + 0), VI (x2 + 1)]) dX10_unpaired_56 rfl (Nat.le_of_ble_eq_true rfl) rfl rfl hc17 ?_
        refine r_goto (tgt := 8) dX10_unpaired_59 rfl ?_
        exact hT I0 hFI9
      · replace hT := hT.2 hcc
        refine r_iconst (n := 1) dX10_unpaired_49 ?_
        refine r_goto (tgt := 54) dX10_unpaired_50 rfl ?_
        refine r_iadd dX10_unpaired_54 ?_
        obtain ⟨hc18, hT⟩ := hT
        refine rr_istore_n (i := 1) (ls' := [VR m, VI (x1 + 1), VI x2]) dX10_unpaired_55 rfl (Nat.le_of_ble_eq_true rfl) rfl rfl hc18 ?_
        obtain ⟨hc19, hT⟩ := hT
        refine rr_iinc (i := 2) (ls' := [VR m, VI (x1 + 1), VI (x2 + 1)]) dX10_unpaired_56 rfl (Nat.le_of_ble_eq_true rfl) rfl rfl hc19 ?_
        refine r_goto (tgt := 8) dX10_unpaired_59 rfl ?_
        exact hT I0 hFI9
set_option maxRecDepth 20000 in
theorem st_X10_unpaired_0 {E : jE} {G : jG} {I : jM} {q : Int → jM → Prop} {m : Nat} (hm : WX10 G m) (hT : (∀ a j, jRg (G.2.1 a).1 (I a j)) → jRV E (jA m) kX10_layPairs [VR m] G I (fun I1 => jOI E (jA m) kX10_unpaired 8 [VR m, VI 0, VI 0] G I1 q)) : jOI E (jA m) kX10_unpaired 0 [VR m, VN, VN] G I q := by
  intro I0 hF
  refine jOk_mem (fun hI => ?_)
  replace hT := hT hI 
  refine r_aload_n dX10_unpaired_0 rfl (i := 0) rfl ?_
  refine rr_cVV (a := m) (as := []) (st := []) dX10_unpaired_1 mt_X10_layPairs ml_X10_366 mi_X10_layPairs rm_X10_unpaired_X10_layPairs jz_X10_layPairs ⟨Nat.zero_le _, Nat.zero_le _⟩ (Nat.le_of_ble_eq_true rfl) (wX10_l hm) (wX10_c hm) jas0 hT (fun I1 hFI1 hT => ?_)
  replace hFI1 := jFr_tr hF hFI1
  refine jOk_mem (fun hI1 => ?_)
  refine r_iconst (n := 0) dX10_unpaired_4 ?_
  refine rr_istore_n (i := 1) (ls' := [VR m, VI 0, VN]) dX10_unpaired_5 rfl (Nat.le_of_ble_eq_true rfl) rfl rfl ⟨by decide, by decide⟩ ?_
  refine r_iconst (n := 0) dX10_unpaired_6 ?_
  refine rr_istore_n (i := 2) (ls' := [VR m, VI 0, VI 0]) dX10_unpaired_7 rfl (Nat.le_of_ble_eq_true rfl) rfl rfl ⟨by decide, by decide⟩ ?_
  exact hT I0 hFI1
theorem en_X10_unpaired {E : jE} {G : jG} {I : jM} {q : Int → jM → Prop} {m : Nat} (hm : WX10 G m) (hT : (∀ a j, jRg (G.2.1 a).1 (I a j)) → jRV E (jA m) kX10_layPairs [VR m] G I (fun I1 => jOI E (jA m) kX10_unpaired 8 [VR m, VI 0, VI 0] G I1 q)) : jRI E (jA m) kX10_unpaired [VR m] G I q := jRun.of mt_X10_unpaired.2.2.2 2 rfl (fun _ => st_X10_unpaired_0 hm hT I (fun _ _ => rfl))
set_option maxRecDepth 20000 in
theorem st_X10_paired_0 {E : jE} {G : jG} {I : jM} {q : Int → jM → Prop} {m : Nat} {x1 : Int} (hm : WX10 G m) (hT : (∀ a j, jRg (G.2.1 a).1 (I a j)) → jIn x1 → (0 ≤ I (m + 1) 2 ∧ I (m + 1) 2 ≤ 200) ∧ (((0 ≤ x1 ∧ x1 < I (m + 1) 2) → jRV E (jA m) kX10_layPairs [VR m] G I (fun I3 => ((0 : Int) ≤ x1 ∧ (x1 : Int) < 200) ∧ q (I3 (m + 22) x1) I3)) ∧ (¬ (0 ≤ x1 ∧ x1 < I (m + 1) 2) → q (-1) I))) : jOI E (jA m) kX10_paired 0 [VR m, VI x1] G I q := by
  intro I0 hF
  refine jOk_mem (fun hI => ?_)
  refine jOk_in (i := 1) rfl (fun hx1 => ?_)
  replace hT := hT hI hx1
  refine r_aload_n dX10_paired_0 rfl (i := 0) rfl ?_
  refine r_iload_n dX10_paired_1 rfl (i := 1) rfl ?_
  obtain ⟨hc2, hT⟩ := hT
  refine rr_pVI (A := (jA m)) (v := jI (0 ≤ x1 ∧ x1 < I (m + 1) 2)) (a := m) (as := [VI x1]) (st := []) dX10_paired_2 mt_X10_isPlace ml_X10_323 mi_X10_isPlace rm_X10_paired_X10_isPlace jz_X10_isPlace ⟨Nat.zero_le _, Nat.zero_le _⟩ (Nat.le_of_ble_eq_true rfl) (wX10_l hm) (wX10_c hm) (jasI hx1 jas0) ((sp_X10_isPlace hm) hc2) (fun hc1 => ?_)
  refine r_if_ne (tgt := 10) dX10_paired_5 rfl hc1 (fun hcc => ?_) (fun hcc => ?_)
  · replace hT := hT.1 (jI_p hcc)
    refine r_aload_n dX10_paired_10 rfl (i := 0) rfl ?_
    refine rr_cVV (a := m) (as := []) (st := []) dX10_paired_11 mt_X10_layPairs ml_X10_366 mi_X10_layPairs rm_X10_paired_X10_layPairs jz_X10_layPairs ⟨Nat.zero_le _, Nat.zero_le _⟩ (Nat.le_of_ble_eq_true rfl) (wX10_l hm) (wX10_c hm) jas0 hT (fun I3 hFI3 hT => ?_)
    replace hFI3 := jFr_tr hF hFI3
    refine jOk_mem (fun hI3 => ?_)
    refine r_aload_n dX10_paired_14 rfl (i := 0) rfl ?_
    refine rr_getR (b := (m + 22)) dX10_paired_15 fg_X10_78 rfl rfl (wX10_l hm) (wX10_s hm) (wX10_r33 hm) ?_
    refine r_iload_n dX10_paired_18 rfl (i := 1) rfl ?_
    obtain ⟨hc4, hT⟩ := hT
    refine rr_iaload (v := I3 (m + 22) x1) dX10_paired_19 (wX10_l33 hm) (wX10_a33 hm) (by decide) hc4 rfl ?_
    exact r_iret dX10_paired_20 rfl (hI3 _ _).inR ⟨Nat.zero_le _, Nat.zero_le _⟩ ⟨_, rfl, rfl, hFI3, hT⟩
  · replace hT := hT.2 (jI_n hcc)
    refine r_iconst (n := (-1)) dX10_paired_8 ?_
    exact r_iret dX10_paired_9 rfl ⟨by decide, by decide⟩ ⟨Nat.zero_le _, Nat.zero_le _⟩ ⟨_, rfl, rfl, hF, hT⟩
theorem en_X10_paired {E : jE} {G : jG} {I : jM} {q : Int → jM → Prop} {m : Nat} {x1 : Int} (hm : WX10 G m) (hT : (∀ a j, jRg (G.2.1 a).1 (I a j)) → jIn x1 → (0 ≤ I (m + 1) 2 ∧ I (m + 1) 2 ≤ 200) ∧ (((0 ≤ x1 ∧ x1 < I (m + 1) 2) → jRV E (jA m) kX10_layPairs [VR m] G I (fun I3 => ((0 : Int) ≤ x1 ∧ (x1 : Int) < 200) ∧ q (I3 (m + 22) x1) I3)) ∧ (¬ (0 ≤ x1 ∧ x1 < I (m + 1) 2) → q (-1) I))) : jRI E (jA m) kX10_paired [VR m, VI x1] G I q := jRun.of mt_X10_paired.2.2.2 0 rfl (fun _ => st_X10_paired_0 hm hT I (fun _ _ => rfl))
set_option maxRecDepth 20000 in
theorem st_X10_lineOf_4 {E : jE} {G : jG} {I : jM} {q : Int → jM → Prop} {m : Nat} {x1 : Int} {x2 : Int} {x3 : Int} (hm : WX10 G m) (hT : (∀ a j, jRg (G.2.1 a).1 (I a j)) → jIn x1 → jIn x2 → jIn x3 → ((x1 ≤ x3 → q x2 I) ∧ (¬ x1 ≤ x3 → (0 ≤ 10 + x3 ∧ 10 + x3 < 22094) ∧ ((¬ (I (m + 1) (10 + x3)) = 10 → jIn (x2 + 0) ∧ jIn (x3 + 1) ∧ jOI E (jA m) kX10_lineOf 4 [VR m, VI x1, VI (x2 + 0), VI (x3 + 1)] G I q) ∧ ((I (m + 1) (10 + x3)) = 10 → jIn (x2 + 1) ∧ jIn (x3 + 1) ∧ jOI E (jA m) kX10_lineOf 4 [VR m, VI x1, VI (x2 + 1), VI (x3 + 1)] G I q))))) : jOI E (jA m) kX10_lineOf 4 [VR m, VI x1, VI x2, VI x3] G I q := by
  intro I0 hF
  refine jOk_mem (fun hI => ?_)
  refine jOk_in (i := 1) rfl (fun hx1 => ?_)
  refine jOk_in (i := 2) rfl (fun hx2 => ?_)
  refine jOk_in (i := 3) rfl (fun hx3 => ?_)
  replace hT := hT hI hx1 hx2 hx3
  refine r_iload_n dX10_lineOf_4 rfl (i := 3) rfl ?_
  refine r_iload_n dX10_lineOf_5 rfl (i := 1) rfl ?_
  refine r_icmp_ge (tgt := 33) dX10_lineOf_6 rfl hx3 hx1 (fun hcc => ?_) (fun hcc => ?_)
  · replace hT := hT.1 hcc
    refine r_iload_n dX10_lineOf_33 rfl (i := 2) rfl ?_
    exact r_iret dX10_lineOf_34 rfl hx2 ⟨Nat.zero_le _, Nat.zero_le _⟩ ⟨_, rfl, rfl, hF, hT⟩
  · replace hT := hT.2 hcc
    refine r_iload_n dX10_lineOf_9 rfl (i := 2) rfl ?_
    refine r_aload_n dX10_lineOf_10 rfl (i := 0) rfl ?_
    refine r_iload_n dX10_lineOf_11 rfl (i := 3) rfl ?_
    obtain ⟨hc2, hT⟩ := hT
    refine rr_pVI (A := (jA m)) (v := I (m + 1) (10 + x3)) (a := m) (as := [VI x3]) (st := [VI x2]) dX10_lineOf_12 mt_X10_byteAt ml_X10_120 mi_X10_byteAt rm_X10_lineOf_X10_byteAt jz_X10_byteAt ⟨Nat.zero_le _, Nat.zero_le _⟩ (Nat.le_of_ble_eq_true rfl) (wX10_l hm) (wX10_c hm) (jasI hx3 jas0) ((sp_X10_byteAt hm) hc2) (fun hc1 => ?_)
    refine r_bipush (n := 10) dX10_lineOf_15 (by decide +kernel) ?_
    refine r_icmp_ne (tgt := 24) dX10_lineOf_17 rfl hc1 ⟨by decide, by decide⟩ (fun hcc => ?_) (fun hcc => ?_)
    · replace hT := hT.1 hcc
      refine r_iconst (n := 0) dX10_lineOf_24 ?_
      refine r_iadd dX10_lineOf_25 ?_
      obtain ⟨hc3, hT⟩ := hT
      refine rr_istore_n (i := 2) (ls' := [VR m, VI x1, VI (x2 + 0), VI x3]) dX10_lineOf_26 rfl (Nat.le_of_ble_eq_true rfl) rfl rfl hc3 ?_
      obtain ⟨hc4, hT⟩ := hT
      refine rr_iinc (i := 3) (ls' := [VR m, VI x1, VI (x2 + 0), VI (x3 + 1)]) dX10_lineOf_27 rfl (Nat.le_of_ble_eq_true rfl) rfl rfl hc4 ?_
      refine r_goto (tgt := 4) dX10_lineOf_30 rfl ?_
      exact hT I0 hF
    · replace hT := hT.2 hcc
      refine r_iconst (n := 1) dX10_lineOf_20 ?_
      refine r_goto (tgt := 25) dX10_lineOf_21 rfl ?_
      refine r_iadd dX10_lineOf_25 ?_
      obtain ⟨hc5, hT⟩ := hT
      refine rr_istore_n (i := 2) (ls' := [VR m, VI x1, VI (x2 + 1), VI x3]) dX10_lineOf_26 rfl (Nat.le_of_ble_eq_true rfl) rfl rfl hc5 ?_
      obtain ⟨hc6, hT⟩ := hT
      refine rr_iinc (i := 3) (ls' := [VR m, VI x1, VI (x2 + 1), VI (x3 + 1)]) dX10_lineOf_27 rfl (Nat.le_of_ble_eq_true rfl) rfl rfl hc6 ?_
      refine r_goto (tgt := 4) dX10_lineOf_30 rfl ?_
      exact hT I0 hF
set_option maxRecDepth 20000 in
theorem st_X10_lineOf_0 {E : jE} {G : jG} {I : jM} {q : Int → jM → Prop} {m : Nat} {x1 : Int} (hm : WX10 G m) (hT : (∀ a j, jRg (G.2.1 a).1 (I a j)) → jIn x1 → jOI E (jA m) kX10_lineOf 4 [VR m, VI x1, VI 0, VI 0] G I q) : jOI E (jA m) kX10_lineOf 0 [VR m, VI x1, VN, VN] G I q := by
  intro I0 hF
  refine jOk_mem (fun hI => ?_)
  refine jOk_in (i := 1) rfl (fun hx1 => ?_)
  replace hT := hT hI hx1
  refine r_iconst (n := 0) dX10_lineOf_0 ?_
  refine rr_istore_n (i := 2) (ls' := [VR m, VI x1, VI 0, VN]) dX10_lineOf_1 rfl (Nat.le_of_ble_eq_true rfl) rfl rfl ⟨by decide, by decide⟩ ?_
  refine r_iconst (n := 0) dX10_lineOf_2 ?_
  refine rr_istore_n (i := 3) (ls' := [VR m, VI x1, VI 0, VI 0]) dX10_lineOf_3 rfl (Nat.le_of_ble_eq_true rfl) rfl rfl ⟨by decide, by decide⟩ ?_
  exact hT I0 hF
theorem en_X10_lineOf {E : jE} {G : jG} {I : jM} {q : Int → jM → Prop} {m : Nat} {x1 : Int} (hm : WX10 G m) (hT : (∀ a j, jRg (G.2.1 a).1 (I a j)) → jIn x1 → jOI E (jA m) kX10_lineOf 4 [VR m, VI x1, VI 0, VI 0] G I q) : jRI E (jA m) kX10_lineOf [VR m, VI x1] G I q := jRun.of mt_X10_lineOf.2.2.2 2 rfl (fun _ => st_X10_lineOf_0 hm hT I (fun _ _ => rfl))
set_option maxRecDepth 20000 in
theorem st_X10_aheadOf_2 {E : jE} {G : jG} {I : jM} {q : Int → jM → Prop} {m : Nat} {x1 : Int} {x2 : Int} (hm : WX10 G m) (hT : (∀ a j, jRg (G.2.1 a).1 (I a j)) → jIn x1 → jIn x2 → jIn (x1 - x2) ∧ (((x1 - x2) ≤ 0 → q x2 I) ∧ (¬ (x1 - x2) ≤ 0 → jIn ((x1 - x2) - 1) ∧ (0 ≤ 10 + ((x1 - x2) - 1) ∧ 10 + ((x1 - x2) - 1) < 22094) ∧ (((I (m + 1) (10 + ((x1 - x2) - 1))) = 10 → q x2 I) ∧ (¬ (I (m + 1) (10 + ((x1 - x2) - 1))) = 10 → jIn (x2 + 1) ∧ jOI E (jA m) kX10_aheadOf 2 [VR m, VI x1, VI (x2 + 1)] G I q))))) : jOI E (jA m) kX10_aheadOf 2 [VR m, VI x1, VI x2] G I q := by
  intro I0 hF
  refine jOk_mem (fun hI => ?_)
  refine jOk_in (i := 1) rfl (fun hx1 => ?_)
  refine jOk_in (i := 2) rfl (fun hx2 => ?_)
  replace hT := hT hI hx1 hx2
  refine r_iload_n dX10_aheadOf_2 rfl (i := 1) rfl ?_
  refine r_iload_n dX10_aheadOf_3 rfl (i := 2) rfl ?_
  refine r_isub dX10_aheadOf_4 ?_
  obtain ⟨hc1, hT⟩ := hT
  refine r_if_le (tgt := 28) dX10_aheadOf_5 rfl hc1 (fun hcc => ?_) (fun hcc => ?_)
  · replace hT := hT.1 hcc
    refine r_iload_n dX10_aheadOf_28 rfl (i := 2) rfl ?_
    exact r_iret dX10_aheadOf_29 rfl hx2 ⟨Nat.zero_le _, Nat.zero_le _⟩ ⟨_, rfl, rfl, hF, hT⟩
  · replace hT := hT.2 hcc
    refine r_aload_n dX10_aheadOf_8 rfl (i := 0) rfl ?_
    refine r_iload_n dX10_aheadOf_9 rfl (i := 1) rfl ?_
    refine r_iload_n dX10_aheadOf_10 rfl (i := 2) rfl ?_
    refine r_isub dX10_aheadOf_11 ?_
    refine r_iconst (n := 1) dX10_aheadOf_12 ?_
    refine r_isub dX10_aheadOf_13 ?_
    obtain ⟨hc2, hT⟩ := hT
    obtain ⟨hc4, hT⟩ := hT
    refine rr_pVI (A := (jA m)) (v := I (m + 1) (10 + ((x1 - x2) - 1))) (a := m) (as := [VI ((x1 - x2) - 1)]) (st := []) dX10_aheadOf_14 mt_X10_byteAt ml_X10_120 mi_X10_byteAt rm_X10_aheadOf_X10_byteAt jz_X10_byteAt ⟨Nat.zero_le _, Nat.zero_le _⟩ (Nat.le_of_ble_eq_true rfl) (wX10_l hm) (wX10_c hm) (jasI hc2 jas0) ((sp_X10_byteAt hm) hc4) (fun hc3 => ?_)
    refine r_bipush (n := 10) dX10_aheadOf_17 (by decide +kernel) ?_
    refine r_icmp_eq (tgt := 28) dX10_aheadOf_19 rfl hc3 ⟨by decide, by decide⟩ (fun hcc => ?_) (fun hcc => ?_)
    · replace hT := hT.1 hcc
      refine r_iload_n dX10_aheadOf_28 rfl (i := 2) rfl ?_
      exact r_iret dX10_aheadOf_29 rfl hx2 ⟨Nat.zero_le _, Nat.zero_le _⟩ ⟨_, rfl, rfl, hF, hT⟩
    · replace hT := hT.2 hcc
      obtain ⟨hc5, hT⟩ := hT
      refine rr_iinc (i := 2) (ls' := [VR m, VI x1, VI (x2 + 1)]) dX10_aheadOf_22 rfl (Nat.le_of_ble_eq_true rfl) rfl rfl hc5 ?_
      refine r_goto (tgt := 2) dX10_aheadOf_25 rfl ?_
      exact hT I0 hF
set_option maxRecDepth 20000 in
theorem st_X10_aheadOf_0 {E : jE} {G : jG} {I : jM} {q : Int → jM → Prop} {m : Nat} {x1 : Int} (hm : WX10 G m) (hT : (∀ a j, jRg (G.2.1 a).1 (I a j)) → jIn x1 → jOI E (jA m) kX10_aheadOf 2 [VR m, VI x1, VI 0] G I q) : jOI E (jA m) kX10_aheadOf 0 [VR m, VI x1, VN] G I q := by
  intro I0 hF
  refine jOk_mem (fun hI => ?_)
  refine jOk_in (i := 1) rfl (fun hx1 => ?_)
  replace hT := hT hI hx1
  refine r_iconst (n := 0) dX10_aheadOf_0 ?_
  refine rr_istore_n (i := 2) (ls' := [VR m, VI x1, VI 0]) dX10_aheadOf_1 rfl (Nat.le_of_ble_eq_true rfl) rfl rfl ⟨by decide, by decide⟩ ?_
  exact hT I0 hF
theorem en_X10_aheadOf {E : jE} {G : jG} {I : jM} {q : Int → jM → Prop} {m : Nat} {x1 : Int} (hm : WX10 G m) (hT : (∀ a j, jRg (G.2.1 a).1 (I a j)) → jIn x1 → jOI E (jA m) kX10_aheadOf 2 [VR m, VI x1, VI 0] G I q) : jRI E (jA m) kX10_aheadOf [VR m, VI x1] G I q := jRun.of mt_X10_aheadOf.2.2.2 1 rfl (fun _ => st_X10_aheadOf_0 hm hT I (fun _ _ => rfl))
set_option maxRecDepth 20000 in
theorem st_X10_longestLine_4 {E : jE} {G : jG} {I : jM} {q : Int → jM → Prop} {m : Nat} {x1 : Int} {x2 : Int} (hm : WX10 G m) (hT : (∀ a j, jRg (G.2.1 a).1 (I a j)) → jIn x1 → jIn x2 → (((I (m + 1) 2) < x2 → q x1 I) ∧ (¬ (I (m + 1) 2) < x2 → jRI E (jA m) kX10_aheadOf [VR m, VI x2] G I (fun r3 I2 => ((r3 ≤ x1 → jIn (x2 + 1) ∧ jOI E (jA m) kX10_longestLine 4 [VR m, VI x1, VI (x2 + 1)] G I2 q) ∧ (¬ r3 ≤ x1 → jRI E (jA m) kX10_aheadOf [VR m, VI x2] G I2 (fun r7 I6 => jIn (x2 + 1) ∧ jOI E (jA m) kX10_longestLine 4 [VR m, VI r7, VI (x2 + 1)] G I6 q))))))) : jOI E (jA m) kX10_longestLine 4 [VR m, VI x1, VI x2] G I q := by
  intro I0 hF
  refine jOk_mem (fun hI => ?_)
  refine jOk_in (i := 1) rfl (fun hx1 => ?_)
  refine jOk_in (i := 2) rfl (fun hx2 => ?_)
  replace hT := hT hI hx1 hx2
  refine r_iload_n dX10_longestLine_4 rfl (i := 2) rfl ?_
  refine r_aload_n dX10_longestLine_5 rfl (i := 0) rfl ?_
  refine rr_getR (b := (m + 1)) dX10_longestLine_6 fg_X10_7 rfl rfl (wX10_l hm) (wX10_s hm) (wX10_r0 hm) ?_
  refine r_iconst (n := 2) dX10_longestLine_9 ?_
  refine rr_iaload (v := I (m + 1) 2) dX10_longestLine_10 (wX10_l0 hm) (wX10_a0 hm) (by decide) ⟨by decide, by decide⟩ rfl ?_
  refine r_icmp_gt (tgt := 39) dX10_longestLine_11 rfl hx2 (hI _ _).inR (fun hcc => ?_) (fun hcc => ?_)
  · replace hT := hT.1 hcc
    refine r_iload_n dX10_longestLine_39 rfl (i := 1) rfl ?_
    exact r_iret dX10_longestLine_40 rfl hx1 ⟨Nat.zero_le _, Nat.zero_le _⟩ ⟨_, rfl, rfl, hF, hT⟩
  · replace hT := hT.2 hcc
    refine r_aload_n dX10_longestLine_14 rfl (i := 0) rfl ?_
    refine r_iload_n dX10_longestLine_15 rfl (i := 2) rfl ?_
    refine rr_cVI (a := m) (as := [VI x2]) (st := []) dX10_longestLine_16 mt_X10_aheadOf ml_X10_369 mi_X10_aheadOf rm_X10_longestLine_X10_aheadOf jz_X10_aheadOf ⟨Nat.zero_le _, Nat.zero_le _⟩ (Nat.le_of_ble_eq_true rfl) (wX10_l hm) (wX10_c hm) (jasI hx2 jas0) hT (fun r3 I2 hc4 hFI2 hT => ?_)
    replace hFI2 := jFr_tr hF hFI2
    refine jOk_mem (fun hI2 => ?_)
    refine r_iload_n dX10_longestLine_19 rfl (i := 1) rfl ?_
    refine r_icmp_le (tgt := 31) dX10_longestLine_20 rfl hc4 hx1 (fun hcc => ?_) (fun hcc => ?_)
    · replace hT := hT.1 hcc
      refine r_iload_n dX10_longestLine_31 rfl (i := 1) rfl ?_
      refine rr_istore_n (i := 1) (ls' := [VR m, VI x1, VI x2]) dX10_longestLine_32 rfl (Nat.le_of_ble_eq_true rfl) rfl rfl hx1 ?_
      obtain ⟨hc5, hT⟩ := hT
      refine rr_iinc (i := 2) (ls' := [VR m, VI x1, VI (x2 + 1)]) dX10_longestLine_33 rfl (Nat.le_of_ble_eq_true rfl) rfl rfl hc5 ?_
      refine r_goto (tgt := 4) dX10_longestLine_36 rfl ?_
      exact hT I0 hFI2
    · replace hT := hT.2 hcc
      refine r_aload_n dX10_longestLine_23 rfl (i := 0) rfl ?_
      refine r_iload_n dX10_longestLine_24 rfl (i := 2) rfl ?_
      refine rr_cVI (a := m) (as := [VI x2]) (st := []) dX10_longestLine_25 mt_X10_aheadOf ml_X10_369 mi_X10_aheadOf rm_X10_longestLine_X10_aheadOf jz_X10_aheadOf ⟨Nat.zero_le _, Nat.zero_le _⟩ (Nat.le_of_ble_eq_true rfl) (wX10_l hm) (wX10_c hm) (jasI hx2 jas0) hT (fun r7 I6 hc8 hFI6 hT => ?_)
      replace hFI6 := jFr_tr hFI2 hFI6
      refine jOk_mem (fun hI6 => ?_)
      refine r_goto (tgt := 32) dX10_longestLine_28 rfl ?_
      refine rr_istore_n (i := 1) (ls' := [VR m, VI r7, VI x2]) dX10_longestLine_32 rfl (Nat.le_of_ble_eq_true rfl) rfl rfl hc8 ?_
      obtain ⟨hc9, hT⟩ := hT
      refine rr_iinc (i := 2) (ls' := [VR m, VI r7, VI (x2 + 1)]) dX10_longestLine_33 rfl (Nat.le_of_ble_eq_true rfl) rfl rfl hc9 ?_
      refine r_goto (tgt := 4) dX10_longestLine_36 rfl ?_
      exact hT I0 hFI6
set_option maxRecDepth 20000 in
theorem st_X10_longestLine_0 {E : jE} {G : jG} {I : jM} {q : Int → jM → Prop} {m : Nat} (hm : WX10 G m) (hT : (∀ a j, jRg (G.2.1 a).1 (I a j)) → jOI E (jA m) kX10_longestLine 4 [VR m, VI 0, VI 0] G I q) : jOI E (jA m) kX10_longestLine 0 [VR m, VN, VN] G I q := by
  intro I0 hF
  refine jOk_mem (fun hI => ?_)
  replace hT := hT hI 
  refine r_iconst (n := 0) dX10_longestLine_0 ?_
  refine rr_istore_n (i := 1) (ls' := [VR m, VI 0, VN]) dX10_longestLine_1 rfl (Nat.le_of_ble_eq_true rfl) rfl rfl ⟨by decide, by decide⟩ ?_
  refine r_iconst (n := 0) dX10_longestLine_2 ?_
  refine rr_istore_n (i := 2) (ls' := [VR m, VI 0, VI 0]) dX10_longestLine_3 rfl (Nat.le_of_ble_eq_true rfl) rfl rfl ⟨by decide, by decide⟩ ?_
  exact hT I0 hF
theorem en_X10_longestLine {E : jE} {G : jG} {I : jM} {q : Int → jM → Prop} {m : Nat} (hm : WX10 G m) (hT : (∀ a j, jRg (G.2.1 a).1 (I a j)) → jOI E (jA m) kX10_longestLine 4 [VR m, VI 0, VI 0] G I q) : jRI E (jA m) kX10_longestLine [VR m] G I q := jRun.of mt_X10_longestLine.2.2.2 2 rfl (fun _ => st_X10_longestLine_0 hm hT I (fun _ _ => rfl))
set_option maxRecDepth 20000 in
theorem st_X10_line_0 {E : jE} {G : jG} {I : jM} {q : Int → jM → Prop} {m : Nat} {x1 : Int} {x2 : Int} (hm : WX10 G m) (hT : (∀ a j, jRg (G.2.1 a).1 (I a j)) → jIn x1 → jIn x2 → (0 ≤ I (m + 1) 2 ∧ I (m + 1) 2 ≤ 200) ∧ ((¬ (0 ≤ x1 ∧ x1 < I (m + 1) 2) → q (-1) I) ∧ ((0 ≤ x1 ∧ x1 < I (m + 1) 2) → (((0 ≤ x2 ∧ x2 ≤ 1) → ((¬ x2 = 0 → jRI E (jA m) kX10_aheadOf [VR m, VI x1] G I (fun r5 I4 => q r5 I4)) ∧ (x2 = 0 → jRI E (jA m) kX10_lineOf [VR m, VI x1] G I (fun r8 I7 => q r8 I7)))) ∧ (¬ (0 ≤ x2 ∧ x2 ≤ 1) → q (-1) I))))) : jOI E (jA m) kX10_line 0 [VR m, VI x1, VI x2] G I q := by
  intro I0 hF
  refine jOk_mem (fun hI => ?_)
  refine jOk_in (i := 1) rfl (fun hx1 => ?_)
  refine jOk_in (i := 2) rfl (fun hx2 => ?_)
  replace hT := hT hI hx1 hx2
  refine r_aload_n dX10_line_0 rfl (i := 0) rfl ?_
  refine r_iload_n dX10_line_1 rfl (i := 1) rfl ?_
  obtain ⟨hc2, hT⟩ := hT
  refine rr_pVI (A := (jA m)) (v := jI (0 ≤ x1 ∧ x1 < I (m + 1) 2)) (a := m) (as := [VI x1]) (st := []) dX10_line_2 mt_X10_isPlace ml_X10_323 mi_X10_isPlace rm_X10_line_X10_isPlace jz_X10_isPlace ⟨Nat.zero_le _, Nat.zero_le _⟩ (Nat.le_of_ble_eq_true rfl) (wX10_l hm) (wX10_c hm) (jasI hx1 jas0) ((sp_X10_isPlace hm) hc2) (fun hc1 => ?_)
  refine r_if_eq (tgt := 17) dX10_line_5 rfl hc1 (fun hcc => ?_) (fun hcc => ?_)
  · replace hT := hT.1 (jI_n hcc)
    refine r_iconst (n := (-1)) dX10_line_17 ?_
    exact r_iret dX10_line_18 rfl ⟨by decide, by decide⟩ ⟨Nat.zero_le _, Nat.zero_le _⟩ ⟨_, rfl, rfl, hF, hT⟩
  · replace hT := hT.2 (jI_p hcc)
    refine r_iload_n dX10_line_8 rfl (i := 2) rfl ?_
    refine r_iconst (n := 0) dX10_line_9 ?_
    refine r_iconst (n := 1) dX10_line_10 ?_
    refine rr_pSI (A := (jA m)) (v := jI (0 ≤ x2 ∧ x2 ≤ 1)) (as := [VI x2, VI 0, VI 1]) (st := []) dX10_line_11 mt_X10_isIn ml_X10_103 ms_X10_isIn rm_X10_line_X10_isIn jz_X10_isIn ⟨Nat.zero_le _, Nat.zero_le _⟩ (Nat.le_of_ble_eq_true rfl) (jasI hx2 (jasI ⟨by decide, by decide⟩ (jasI ⟨by decide, by decide⟩ jas0))) sp_X10_isIn (fun hc3 => ?_)
    refine r_if_ne (tgt := 19) dX10_line_14 rfl hc3 (fun hcc => ?_) (fun hcc => ?_)
    · replace hT := hT.1 (jI_p hcc)
      refine r_iload_n dX10_line_19 rfl (i := 2) rfl ?_
      refine r_if_ne (tgt := 31) dX10_line_20 rfl hx2 (fun hcc => ?_) (fun hcc => ?_)
      · replace hT := hT.1 hcc
        refine r_aload_n dX10_line_31 rfl (i := 0) rfl ?_
        refine r_iload_n dX10_line_32 rfl (i := 1) rfl ?_
        refine rr_cVI (a := m) (as := [VI x1]) (st := []) dX10_line_33 mt_X10_aheadOf ml_X10_369 mi_X10_aheadOf rm_X10_line_X10_aheadOf jz_X10_aheadOf ⟨Nat.zero_le _, Nat.zero_le _⟩ (Nat.le_of_ble_eq_true rfl) (wX10_l hm) (wX10_c hm) (jasI hx1 jas0) hT (fun r5 I4 hc6 hFI4 hT => ?_)
        replace hFI4 := jFr_tr hF hFI4
        refine jOk_mem (fun hI4 => ?_)
        exact r_iret dX10_line_36 rfl hc6 ⟨Nat.zero_le _, Nat.zero_le _⟩ ⟨_, rfl, rfl, hFI4, hT⟩
      · replace hT := hT.2 hcc
        refine r_aload_n dX10_line_23 rfl (i := 0) rfl ?_
        refine r_iload_n dX10_line_24 rfl (i := 1) rfl ?_
        refine rr_cVI (a := m) (as := [VI x1]) (st := []) dX10_line_25 mt_X10_lineOf ml_X10_345 mi_X10_lineOf rm_X10_line_X10_lineOf jz_X10_lineOf ⟨Nat.zero_le _, Nat.zero_le _⟩ (Nat.le_of_ble_eq_true rfl) (wX10_l hm) (wX10_c hm) (jasI hx1 jas0) hT (fun r8 I7 hc9 hFI7 hT => ?_)
        replace hFI7 := jFr_tr hF hFI7
        refine jOk_mem (fun hI7 => ?_)
        refine r_goto (tgt := 36) dX10_line_28 rfl ?_
        exact r_iret dX10_line_36 rfl hc9 ⟨Nat.zero_le _, Nat.zero_le _⟩ ⟨_, rfl, rfl, hFI7, hT⟩
    · replace hT := hT.2 (jI_n hcc)
      refine r_iconst (n := (-1)) dX10_line_17 ?_
      exact r_iret dX10_line_18 rfl ⟨by decide, by decide⟩ ⟨Nat.zero_le _, Nat.zero_le _⟩ ⟨_, rfl, rfl, hF, hT⟩
theorem en_X10_line {E : jE} {G : jG} {I : jM} {q : Int → jM → Prop} {m : Nat} {x1 : Int} {x2 : Int} (hm : WX10 G m) (hT : (∀ a j, jRg (G.2.1 a).1 (I a j)) → jIn x1 → jIn x2 → (0 ≤ I (m + 1) 2 ∧ I (m + 1) 2 ≤ 200) ∧ ((¬ (0 ≤ x1 ∧ x1 < I (m + 1) 2) → q (-1) I) ∧ ((0 ≤ x1 ∧ x1 < I (m + 1) 2) → (((0 ≤ x2 ∧ x2 ≤ 1) → ((¬ x2 = 0 → jRI E (jA m) kX10_aheadOf [VR m, VI x1] G I (fun r5 I4 => q r5 I4)) ∧ (x2 = 0 → jRI E (jA m) kX10_lineOf [VR m, VI x1] G I (fun r8 I7 => q r8 I7)))) ∧ (¬ (0 ≤ x2 ∧ x2 ≤ 1) → q (-1) I))))) : jRI E (jA m) kX10_line [VR m, VI x1, VI x2] G I q := jRun.of mt_X10_line.2.2.2 0 rfl (fun _ => st_X10_line_0 hm hT I (fun _ _ => rfl))
def opn (c : Int) : Int := if c = 40 then 1 else if c = 91 then 2 else if c = 123 then 3 else 0
def sht (c : Int) : Int := if c = 41 then 1 else if c = 93 then 2 else if c = 125 then 3 else 0
/-- brackets: what stands open (the latest first), and who is paired with whom -/
def prS (B : Int → Int) : Nat → List Int × (Int → Int)
  | 0 => ([], fun _ => -1)
  | i + 1 => match (prS B i).1 with
    | [] => (if 0 < opn (B (10 + i)) then [(i : Int)] else [], up (prS B i).2 i (-1))
    | k :: st => if 0 < opn (B (10 + i)) then ((i : Int) :: k :: st, up (prS B i).2 i (-1)) else if 0 < sht (B (10 + i)) ∧ opn (B (10 + k)) = sht (B (10 + i)) then (st, up (up (up (prS B i).2 i (-1)) i k) k i) else (k :: st, up (prS B i).2 i (-1))
noncomputable def unp (B : Int → Int) : Int := sumJ (fun i => jI (0 < opn (B (10 + i)) + sht (B (10 + i)) ∧ (prS B (B 2).toNat).2 i = -1)) 0 (B 2).toNat
def col (B : Int → Int) : Nat → Int
  | 0 => 0
  | i + 1 => if B (10 + i) = 10 then 0 else col B i + 1
theorem col_bd (B : Int → Int) : ∀ i : Nat, 0 ≤ col B i ∧ col B i ≤ i := by
  intro i
  induction i with
  | zero => exact ⟨Int.le_refl _, Int.le_refl _⟩
  | succ i ih =>
    unfold col
    split <;> omega
/-- the longest of the lines up to places from i on -/
def lngJ (B : Int → Int) (v : Int) (i : Nat) : Nat → Int
  | 0 => v
  | d + 1 => lngJ B (max v (col B i)) (i + 1) d
noncomputable def lno (B : Int → Int) (i : Int) : Int := sumJ (fun k => jI (B (10 + k) = 10)) 0 i.toNat
def onB (B : Int → Int) : Nat → Int
  | 0 => 0
  | r + 1 => jor (onB B r) (jshl (B (515 + 40 * r)) r)
theorem opn_excl {c : Int} (h : 0 < opn c) : sht c = 0 := by
  unfold opn at h
  unfold sht
  by_cases a : c = 40
  · rw [a]; decide
  · by_cases b : c = 91
    · rw [b]; decide
    · by_cases d : c = 123
      · rw [d]; decide
      · rw [if_neg a, if_neg b, if_neg d] at h; omega
section RX
variable {E : jE} {G : jG} {m : Nat} {I : jM} {B B' : Int → Int} {H H' : List (Int → Int)} {T : List Int} {fk fp c : Int}
theorem ref_lay (hm : WX10 G m) (h : RR m I B H B' H' T fk fp) (hQ : QW B) : jRV E (jA m) kX10_layFindings [VR m] G I (fun I' => RR m I' B H B' H' T fk fp ∧ LFB m B I' ∧ LFS m (I (m + 1)) I' ∧ WFd m I I') := by
  have hQS := h.1.qw hQ
  refine (sp_X10_layFS hm rfl hQS).mono (fun I' _ g => ?_)
  exact ⟨h.wz g.1.wz (by rw [g.1.a]; exact h.1), g.2.toB h.1.eqS hQS, g.2, g.1⟩
theorem ref_countOf (hm : WX10 G m) (hL : LFB m B I) (hQ : QW B) {w : Int} : jRI E (jA m) kX10_countOf [VR m, VI w] G I (fun x I' => (w = 0 → x = sumJ (fun f => jI (fYi B f)) 0 (NF B).toNat) ∧ (w ≠ 0 → x = sumJ (fun f => jI (fSi B f)) 0 (NF B).toNat) ∧ I' = I) := by
  have hN := NF_le hQ
  obtain ⟨-, -, h17, hf, -⟩ := hL
  have loop : ∀ (g : Int → Int), (∀ f, 0 ≤ g f ∧ g f ≤ 1) → (∀ f, 0 ≤ f → f < NF B → (w = 0 → I (m + 14) f = g f) ∧ (w ≠ 0 → I (m + 13) f = g f)) → ∀ (d : Nat) (f v : Int), 0 ≤ f → f + d = NF B → 0 ≤ v → v ≤ f → jOI E (jA m) kX10_countOf 4 [VR m, VI w, VI v, VI f] G I (fun x I' => x = v + sumJ g f d ∧ I' = I) := by
    intro g hg hw d
    induction d with
    | zero =>
      intro f v f0 f1 v0 v1
      exact st_X10_countOf_4 hm (fun _ _ _ _ => ⟨fun _ => ⟨by show v = v + 0; omega, rfl⟩, fun q => by rw [h17] at q; omega⟩)
    | succ d ih =>
      intro f v f0 f1 v0 v1
      have b := hg f
      have hwf := hw f f0 (by omega)
      have f12 : (0 : Int) ≤ f ∧ f < 1200 := ⟨f0, by omega⟩
      have nx : ∀ y, y = g f → jIn (v + y) ∧ jIn (f + 1) ∧ jOI E (jA m) kX10_countOf 4 [VR m, VI w, VI (v + y), VI (f + 1)] G I (fun x I' => x = v + sumJ g f (d + 1) ∧ I' = I) := by
        intro y e
        refine ⟨⟨by omega, by omega⟩, ⟨by omega, by omega⟩, (ih (f + 1) (v + y) (by omega) (by omega) (by omega) (by omega)).mono (fun x I' _ g' => ⟨?_, g'.2⟩)⟩
        rw [g'.1, sumJ_s]
        omega
      refine st_X10_countOf_4 hm (fun _ _ _ _ => ⟨fun q => by rw [h17] at q; omega, fun _ => ⟨fun q => ⟨f12, fun _ => ?_⟩, fun q => ⟨f12, fun _ => ?_⟩⟩⟩)
      · rw [hwf.1 q]
        exact ⟨fun q1 => nx 0 (by omega), fun q1 => nx 1 (by omega)⟩
      · rw [hwf.2 q]
        exact ⟨fun q1 => nx 0 (by omega), fun q1 => nx 1 (by omega)⟩
  have hN0 : 0 ≤ NF B := by unfold NF; omega
  refine en_X10_countOf hm (fun _ _ => ?_)
  by_cases hw : w = 0
  · refine (loop (fun f => jI (fYi B f)) (fun f => jI_01) (fun f f0 f1 => ⟨fun _ => (hf f f0 f1).2.2.2.2.2.2.2.1, fun q => absurd hw q⟩) (NF B).toNat 0 0 (by omega) (by omega) (by omega) (by omega)).mono (fun x I' _ g => ⟨fun _ => by rw [g.1]; omega, fun q => absurd hw q, g.2⟩)
  · refine (loop (fun f => jI (fSi B f)) (fun f => jI_01) (fun f f0 f1 => ⟨fun q => absurd q hw, fun _ => (hf f f0 f1).2.2.2.2.2.2.1⟩) (NF B).toNat 0 0 (by omega) (by omega) (by omega) (by omega)).mono (fun x I' _ g => ⟨fun q => absurd q hw, fun _ => by rw [g.1]; omega, g.2⟩)
theorem ref_onBits (hm : WX10 G m) (h : RR m I B H B' H' T fk fp) (hQ : QW B) : jRI E (jA m) kX10_onBits [VR m] G I (fun x I' => x = onB B (B 4).toNat ∧ I' = I) := by
  have e4 : I (m + 1) 4 = B 4 := h.at (by omega)
  have h4 := hQ.2.1
  have h46 := h4.2.1
  have loop : ∀ (d r : Nat), (r : Int) + d = B 4 → jOI E (jA m) kX10_onBits 4 [VR m, VI (onB B r), VI (r : Int)] G I (fun x I' => x = onB B (B 4).toNat ∧ I' = I) := by
    intro d
    induction d with
    | zero =>
      intro r hr
      refine st_X10_onBits_4 hm (fun _ _ _ => ⟨fun _ => ⟨?_, rfl⟩, fun q => by rw [e4] at q; omega⟩)
      rw [show (B 4).toNat = r by omega]
    | succ d ih =>
      intro r hr
      have eo : I (m + 1) (514 + 40 * (r : Int) + 1) = B (515 + 40 * r) := by
        rw [show 514 + 40 * (r : Int) + 1 = 515 + 40 * r by omega]
        exact h.at (by omega)
      refine st_X10_onBits_4 hm (fun _ _ _ => ⟨fun q => by rw [e4] at q; omega, fun _ => ⟨⟨by omega, by omega⟩, ⟨by omega, by omega⟩, ?_⟩⟩)
      rw [eo]
      exact ih (r + 1) (by omega)
  exact en_X10_onBits hm (fun _ => loop (B 4).toNat 0 (by have := h4.1; omega))
theorem sp_X10_opens {A : Nat → Prop} {x : Int} : jRI E A kX10_opens [VI x] G I (fun r I' => r = opn x ∧ I' = I) := by
  refine en_X10_opens (fun _ _ => ⟨fun a => ⟨fun b => ⟨fun d => ⟨?_, rfl⟩, fun d => ⟨?_, rfl⟩⟩, fun b => ⟨?_, rfl⟩⟩, fun a => ⟨?_, rfl⟩⟩)
  · unfold opn; rw [if_neg a, if_neg b, if_neg d]
  · unfold opn; rw [if_neg a, if_neg b, if_pos d]
  · unfold opn; rw [if_neg a, if_pos b]
  · unfold opn; rw [if_pos a]
theorem sp_X10_shuts {A : Nat → Prop} {x : Int} : jRI E A kX10_shuts [VI x] G I (fun r I' => r = sht x ∧ I' = I) := by
  refine en_X10_shuts (fun _ _ => ⟨fun a => ⟨fun b => ⟨fun d => ⟨?_, rfl⟩, fun d => ⟨?_, rfl⟩⟩, fun b => ⟨?_, rfl⟩⟩, fun a => ⟨?_, rfl⟩⟩)
  · unfold sht; rw [if_neg a, if_neg b, if_neg d]
  · unfold sht; rw [if_neg a, if_neg b, if_pos d]
  · unfold sht; rw [if_neg a, if_pos b]
  · unfold sht; rw [if_pos a]
/-! lines -/
theorem ref_lineOf (hm : WX10 G m) (h : RR m I B H B' H' T fk fp) {i : Int} (hi : 0 ≤ i ∧ i ≤ 200) : jRI E (jA m) kX10_lineOf [VR m, VI i] G I (fun x I' => x = lno B i ∧ (0 ≤ x ∧ x ≤ 200) ∧ I' = I) := by
  have loop : ∀ (d : Nat) (k v : Int), 0 ≤ k → k + d = i → 0 ≤ v → v ≤ k → jOI E (jA m) kX10_lineOf 4 [VR m, VI i, VI v, VI k] G I (fun x I' => x = v + sumJ (fun k => jI (B (10 + k) = 10)) k d ∧ (0 ≤ x ∧ x ≤ 200) ∧ I' = I) := by
    intro d
    induction d with
    | zero =>
      intro k v k0 k1 v0 v1
      exact st_X10_lineOf_4 hm (fun _ _ _ _ => ⟨fun _ => ⟨by show v = v + 0; omega, ⟨v0, by omega⟩, rfl⟩, fun q => by omega⟩)
    | succ d ih =>
      intro k v k0 k1 v0 v1
      have eb : I (m + 1) (10 + k) = B (10 + k) := h.at (by omega)
      refine st_X10_lineOf_4 hm (fun _ _ _ _ => ⟨fun q => by omega, fun _ => ⟨⟨by omega, by omega⟩, ?_⟩⟩)
      rw [eb]
      refine ⟨fun q => ⟨⟨by omega, by omega⟩, ⟨by omega, by omega⟩, (ih (k + 1) (v + 0) (by omega) (by omega) (by omega) (by omega)).mono (fun x I' _ g => ⟨?_, g.2⟩)⟩, fun q => ⟨⟨by omega, by omega⟩, ⟨by omega, by omega⟩, (ih (k + 1) (v + 1) (by omega) (by omega) (by omega) (by omega)).mono (fun x I' _ g => ⟨?_, g.2⟩)⟩⟩
      · rw [g.1, sumJ_s, jI_neg q]; omega
      · rw [g.1, sumJ_s, jI_pos q]; omega
  refine en_X10_lineOf hm (fun _ _ => (loop i.toNat 0 0 (by omega) (by omega) (by omega) (by omega)).mono (fun x I' _ g => ⟨?_, g.2⟩))
  rw [g.1]
  unfold lno
  omega
theorem ref_aheadOf (hm : WX10 G m) (h : RR m I B H B' H' T fk fp) {i : Int} (hi : 0 ≤ i ∧ i ≤ 200) : jRI E (jA m) kX10_aheadOf [VR m, VI i] G I (fun x I' => x = col B i.toNat ∧ I' = I) := by
  have loop : ∀ (d : Nat) (n : Int), 0 ≤ n → n + d = i → col B i.toNat = n + col B (i - n).toNat → jOI E (jA m) kX10_aheadOf 2 [VR m, VI i, VI n] G I (fun x I' => x = col B i.toNat ∧ I' = I) := by
    intro d
    induction d with
    | zero =>
      intro n n0 n1 e
      refine st_X10_aheadOf_2 hm (fun _ _ _ => ⟨⟨by omega, by omega⟩, fun _ => ⟨?_, rfl⟩, fun q => by omega⟩)
      rw [e, show (i - n).toNat = 0 by omega]
      show n = n + 0
      omega
    | succ d ih =>
      intro n n0 n1 e
      have ek : (i - n).toNat = (i - n - 1).toNat + 1 := by omega
      have eb : I (m + 1) (10 + (i - n - 1)) = B (10 + (i - n - 1)) := h.at (by omega)
      have ec : col B (i - n).toNat = if B (10 + (i - n - 1)) = 10 then 0 else col B (i - n - 1).toNat + 1 := by
        rw [ek]
        show (if B (10 + (((i - n - 1).toNat : Nat) : Int)) = 10 then 0 else col B (i - n - 1).toNat + 1) = _
        rw [show (((i - n - 1).toNat : Nat) : Int) = i - n - 1 by omega]
      refine st_X10_aheadOf_2 hm (fun _ _ _ => ⟨⟨by omega, by omega⟩, fun q => by omega, fun _ => ⟨⟨by omega, by omega⟩, ⟨by omega, by omega⟩, ?_⟩⟩)
      rw [eb]
      refine ⟨fun q => ⟨?_, rfl⟩, fun q => ⟨⟨by omega, by omega⟩, ih (n + 1) (by omega) (by omega) ?_⟩⟩
      · rw [e, ec, if_pos q]; omega
      · rw [e, ec, if_neg q, show i - (n + 1) = i - n - 1 by omega]; omega
  refine en_X10_aheadOf hm (fun _ _ => loop i.toNat 0 (by omega) (by omega) ?_)
  rw [show i - 0 = i by omega]
  omega
theorem ref_longest (hm : WX10 G m) (h : RR m I B H B' H' T fk fp) (hQ : QW B) : jRI E (jA m) kX10_longestLine [VR m] G I (fun x I' => x = lngJ B 0 0 ((B 2).toNat + 1) ∧ I' = I) := by
  have e2 : I (m + 1) 2 = B 2 := h.at (by omega)
  have h2 := hQ.1
  have loop : ∀ (d i : Nat) (v : Int), (i : Int) + d = B 2 + 1 → jOI E (jA m) kX10_longestLine 4 [VR m, VI v, VI (i : Int)] G I (fun x I' => x = lngJ B v i d ∧ I' = I) := by
    intro d
    induction d with
    | zero =>
      intro i v hi
      exact st_X10_longestLine_4 hm (fun _ _ _ => ⟨fun _ => ⟨rfl, rfl⟩, fun q => by rw [e2] at q; omega⟩)
    | succ d ih =>
      intro i v hi
      refine st_X10_longestLine_4 hm (fun _ _ _ => ⟨fun q => by rw [e2] at q; omega, fun _ => ?_⟩)
      refine (ref_aheadOf hm h ⟨by omega, by omega⟩).mono (fun x I2 _ _ g => ?_)
      obtain ⟨rfl, rfl⟩ := g
      rw [show (i : Int).toNat = i by omega]
      have hs : lngJ B v i (d + 1) = lngJ B (max v (col B i)) (i + 1) d := rfl
      refine ⟨fun q => ⟨⟨by omega, by omega⟩, ?_⟩, fun q => ?_⟩
      · rw [hs, show max v (col B i) = v by omega]
        exact ih (i + 1) v (by omega)
      · refine (ref_aheadOf hm h ⟨by omega, by omega⟩).mono (fun x I6 _ _ g => ?_)
        obtain ⟨rfl, rfl⟩ := g
        rw [show (i : Int).toNat = i by omega, hs, show max v (col B i) = col B i by omega]
        exact ⟨⟨by omega, by omega⟩, ih (i + 1) _ (by omega)⟩
  exact en_X10_longestLine hm (fun _ => loop ((B 2).toNat + 1) 0 0 (by omega))
noncomputable def anLine (B : Int → Int) (i w : Int) : Int := if 0 ≤ i ∧ i < B 2 then (if w = 0 then lno B i else if w = 1 then col B i.toNat else -1) else -1
theorem ref_line (hm : WX10 G m) (h : RR m I B H B' H' T fk fp) (hQ : QW B) {i w : Int} : jRI E (jA m) kX10_line [VR m, VI i, VI w] G I (fun x I' => x = anLine B i w ∧ RR m I' B H B' H' T fk fp) := by
  have e2 : I (m + 1) 2 = B 2 := h.at (by omega)
  have h2 := hQ.1
  unfold anLine
  refine en_X10_line hm (fun _ _ _ => ?_)
  rw [e2]
  refine ⟨h2, fun q => ⟨by rw [if_neg q], h⟩, fun q => ⟨fun q1 => ⟨fun q2 => (ref_aheadOf hm h ⟨by omega, by omega⟩).mono (fun x I' _ _ g => ?_), fun q2 => (ref_lineOf hm h ⟨by omega, by omega⟩).mono (fun x I' _ _ g => ?_)⟩, fun q1 => ⟨by rw [if_pos q, if_neg (by omega), if_neg (by omega)], h⟩⟩⟩
  · obtain ⟨rfl, rfl⟩ := g
    exact ⟨by rw [if_pos q, if_neg q2, if_pos (by omega)], h⟩
  · obtain ⟨rfl, -, rfl⟩ := g
    exact ⟨by rw [if_pos q, if_pos q2], h⟩
end RX
