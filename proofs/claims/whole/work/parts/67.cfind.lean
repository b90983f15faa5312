/-! ===== the class: findings are collected ===== -/
/-- a finding's row, as the class holds it (marks: silence alone) -/
def RC (φ : Nat) (X : Int → Int) (I : jM) (i : Int) (x : Int × Int) : Prop := I (φ + 5) i = x.1 ∧ I (φ + 6) i = x.2 ∧ I (φ + 7) i = x.2 + X (516 + 40 * x.1) ∧ I (φ + 8) i = (Out X (bT X) x.1 x.2).length ∧ I (φ + 9) i = valOf X x.1 (bT X (x.2 + X (516 + 40 * x.1)) - bT X x.2) ∧ I (φ + 10) i = jI (sil X (bT X x.2) (bT X (x.2 + X (516 + 40 * x.1))))
def FN (φ : Nat) (X : Int → Int) (I : jM) (F : List (Int × Int)) : Prop := I φ 5 = F.length ∧ ∀ i : Nat, i < F.length → RC φ X I i (F.getD i (0, 0))
def WG (φ : Nat) (I I' : jM) : Prop := ∀ a j, ¬ (φ + 4 ≤ a ∧ a ≤ φ + 10) → (a ≠ φ ∨ (j ≠ 4 ∧ j ≠ 5)) → I' a j = I a j
theorem WG.rfl {φ : Nat} {I : jM} : WG φ I I := fun _ _ _ _ => Eq.refl _
theorem WG.trans {φ : Nat} {I I' I'' : jM} (h : WG φ I I') (h' : WG φ I' I'') : WG φ I I'' := fun a j ha hb => (h' a j ha hb).trans (h a j ha hb)
theorem WF.wg {φ : Nat} {I I' : jM} (h : WF φ I I') : WG φ I I' := fun a j ha hb => h a j (by omega) (by omega)
theorem WG.f {φ : Nat} {I I' : jM} (h : WG φ I I') : Fr φ (φ + 14) I I' := fun a j ha => h a j (by omega) (by omega)
theorem FC.wg {G : jG} {φ p ρ : Nat} {X : Int → Int} {I I' : jM} (h : FC G φ p ρ X I) (e : WG φ I I') : FC G φ p ρ X I' := by
  have h1 := h.1
  exact h.fr (fun a j q => e a j (by omega) (by omega))
theorem FN.wf {φ : Nat} {X : Int → Int} {I I' : jM} {F : List (Int × Int)} (h : FN φ X I F) (e : WF φ I I') : FN φ X I' F := by
  refine ⟨(e _ _ (by omega) (by omega)).trans h.1, fun i hi => ?_⟩
  unfold RC
  rw [e _ _ (by omega) (by omega), e _ _ (by omega) (by omega), e _ _ (by omega) (by omega), e _ _ (by omega) (by omega), e _ _ (by omega) (by omega), e _ _ (by omega) (by omega)]
  exact h.2 i hi
set_option maxRecDepth 20000 in
theorem st_X1_isFreshLike_14 {E : jE} {G : jG} {I : jM} {q : Int → jM → Prop} {m : Nat} {x1 : Int} {x2 : Int} {x3 : Int} (hm : WX1 G m) (hT : (∀ a j, jRg (G.2.1 a).1 (I a j)) → jIn x1 → jIn x2 → jIn x3 → (((I m 4) ≤ x3 → q 1 I) ∧ (¬ (I m 4) ≤ x3 → ((0 : Int) ≤ x3 ∧ (x3 : Int) < 1500) ∧ (((-128) ≤ (I (m + 4) x3) ∧ (I (m + 4) x3) ≤ 127) → (∃ b3 : Nat, I m 0 = (b3 : Int) ∧ WX4 G b3 ∧ ((0 : Int) ≤ (x1 + x3) ∧ ((x1 + x3) : Int) < 200) ∧ (((-128) ≤ (I (b3 + 1) (x1 + x3)) ∧ (I (b3 + 1) (x1 + x3)) ≤ 127) → (((I (m + 4) x3) = (I (b3 + 1) (x1 + x3)) → jIn (x3 + 1) ∧ jOI E jB kX1_isFreshLike 14 [VR m, VI x1, VI x2, VI (x3 + 1)] G I q) ∧ (¬ (I (m + 4) x3) = (I (b3 + 1) (x1 + x3)) → q 0 I)))))))) : jOI E jB kX1_isFreshLike 14 [VR m, VI x1, VI x2, VI x3] G I q := by
  intro I0 hF
  refine jOk_mem (fun hI => ?_)
  refine jOk_in (i := 1) rfl (fun hx1 => ?_)
  refine jOk_in (i := 2) rfl (fun hx2 => ?_)
  refine jOk_in (i := 3) rfl (fun hx3 => ?_)
  replace hT := hT hI hx1 hx2 hx3
  refine r_iload_n dX1_isFreshLike_14 rfl (i := 3) rfl ?_
  refine r_aload_n dX1_isFreshLike_15 rfl (i := 0) rfl ?_
  refine rr_getI (v := I m 4) dX1_isFreshLike_16 fg_X1_143 rfl (wX1_l hm) (wX1_s hm) rfl ?_
  refine r_icmp_ge (tgt := 50) dX1_isFreshLike_19 rfl hx3 (hI _ _).inR (fun hcc => ?_) (fun hcc => ?_)
  · replace hT := hT.1 hcc
    refine r_iconst (n := 1) dX1_isFreshLike_50 ?_
    exact r_zret dX1_isFreshLike_51 rfl ⟨by decide, by decide⟩ ⟨Nat.zero_le _, Nat.zero_le _⟩ ⟨_, rfl, rfl, hF, hT⟩
  · replace hT := hT.2 hcc
    refine r_aload_n dX1_isFreshLike_22 rfl (i := 0) rfl ?_
    refine rr_getR (b := (m + 4)) dX1_isFreshLike_23 fg_X1_18 rfl rfl (wX1_l hm) (wX1_s hm) (wX1_r3 hm) ?_
    refine r_iload_n dX1_isFreshLike_26 rfl (i := 3) rfl ?_
    obtain ⟨hc1, hT⟩ := hT
    refine rr_baload (v := I (m + 4) x3) dX1_isFreshLike_27 (wX1_l3 hm) (wX1_a3 hm) (by decide) hc1 rfl (fun hr2 => ?_)
    replace hT := hT hr2
    refine r_aload_n dX1_isFreshLike_28 rfl (i := 0) rfl ?_
    obtain ⟨b3, hc4, hc5, hT⟩ := hT
    refine rr_getM (b := b3) dX1_isFreshLike_29 fg_X1_56 rfl rfl (wX1_l hm) (wX1_s hm) hc4 ?_
    refine rr_getR (b := (b3 + 1)) dX1_isFreshLike_32 fg_X1_131 rfl rfl (wX4_l hc5) (wX4_s hc5) (wX4_r0 hc5) ?_
    refine r_iload_n dX1_isFreshLike_35 rfl (i := 1) rfl ?_
    refine r_iload_n dX1_isFreshLike_36 rfl (i := 3) rfl ?_
    refine r_iadd dX1_isFreshLike_37 ?_
    obtain ⟨hc6, hT⟩ := hT
    refine rr_baload (v := I (b3 + 1) (x1 + x3)) dX1_isFreshLike_38 (wX4_l0 hc5) (wX4_a0 hc5) (by decide) hc6 rfl (fun hr7 => ?_)
    replace hT := hT hr7
    refine r_icmp_eq (tgt := 44) dX1_isFreshLike_39 rfl (hI _ _).inR (hI _ _).inR (fun hcc => ?_) (fun hcc => ?_)
    · replace hT := hT.1 hcc
      obtain ⟨hc8, hT⟩ := hT
      refine rr_iinc (i := 3) (ls' := [VR m, VI x1, VI x2, VI (x3 + 1)]) dX1_isFreshLike_44 rfl (Nat.le_of_ble_eq_true rfl) rfl rfl hc8 ?_
      refine r_goto (tgt := 14) dX1_isFreshLike_47 rfl ?_
      exact hT I0 hF
    · replace hT := hT.2 hcc
      refine r_iconst (n := 0) dX1_isFreshLike_42 ?_
      exact r_zret dX1_isFreshLike_43 rfl ⟨by decide, by decide⟩ ⟨Nat.zero_le _, Nat.zero_le _⟩ ⟨_, rfl, rfl, hF, hT⟩
set_option maxRecDepth 20000 in
theorem st_X1_isFreshLike_0 {E : jE} {G : jG} {I : jM} {q : Int → jM → Prop} {m : Nat} {x1 : Int} {x2 : Int} (hm : WX1 G m) (hT : (∀ a j, jRg (G.2.1 a).1 (I a j)) → jIn x1 → jIn x2 → jIn (x2 - x1) ∧ (((I m 4) = (x2 - x1) → jOI E jB kX1_isFreshLike 14 [VR m, VI x1, VI x2, VI 0] G I q) ∧ (¬ (I m 4) = (x2 - x1) → q 0 I))) : jOI E jB kX1_isFreshLike 0 [VR m, VI x1, VI x2, VN] G I q := by
  intro I0 hF
  refine jOk_mem (fun hI => ?_)
  refine jOk_in (i := 1) rfl (fun hx1 => ?_)
  refine jOk_in (i := 2) rfl (fun hx2 => ?_)
  replace hT := hT hI hx1 hx2
  refine r_aload_n dX1_isFreshLike_0 rfl (i := 0) rfl ?_
  refine rr_getI (v := I m 4) dX1_isFreshLike_1 fg_X1_143 rfl (wX1_l hm) (wX1_s hm) rfl ?_
  refine r_iload_n dX1_isFreshLike_4 rfl (i := 2) rfl ?_
  refine r_iload_n dX1_isFreshLike_5 rfl (i := 1) rfl ?_
  refine r_isub dX1_isFreshLike_6 ?_
  obtain ⟨hc1, hT⟩ := hT
  refine r_icmp_eq (tgt := 12) dX1_isFreshLike_7 rfl (hI _ _).inR hc1 (fun hcc => ?_) (fun hcc => ?_)
  · replace hT := hT.1 hcc
    refine r_iconst (n := 0) dX1_isFreshLike_12 ?_
    refine rr_istore_n (i := 3) (ls' := [VR m, VI x1, VI x2, VI 0]) dX1_isFreshLike_13 rfl (Nat.le_of_ble_eq_true rfl) rfl rfl ⟨by decide, by decide⟩ ?_
    exact hT I0 hF
  · replace hT := hT.2 hcc
    refine r_iconst (n := 0) dX1_isFreshLike_10 ?_
    exact r_zret dX1_isFreshLike_11 rfl ⟨by decide, by decide⟩ ⟨Nat.zero_le _, Nat.zero_le _⟩ ⟨_, rfl, rfl, hF, hT⟩
theorem en_X1_isFreshLike {E : jE} {G : jG} {I : jM} {q : Int → jM → Prop} {m : Nat} {x1 : Int} {x2 : Int} (hm : WX1 G m) (hT : (∀ a j, jRg (G.2.1 a).1 (I a j)) → jIn x1 → jIn x2 → jIn (x2 - x1) ∧ (((I m 4) = (x2 - x1) → jOI E jB kX1_isFreshLike 14 [VR m, VI x1, VI x2, VI 0] G I q) ∧ (¬ (I m 4) = (x2 - x1) → q 0 I))) : jRI E jB kX1_isFreshLike [VR m, VI x1, VI x2] G I q := jRun.of mt_X1_isFreshLike.2.2.2 1 rfl (fun _ => st_X1_isFreshLike_0 hm hT I (fun _ _ => rfl))
set_option maxRecDepth 20000 in
theorem st_X1_valueOf_0 {E : jE} {A : Nat → Prop} {G : jG} {I : jM} {q : Int → jM → Prop} {x0 : Int} {x1 : Int} {x2 : Int}  (hT : (∀ a j, jRg (G.2.1 a).1 (I a j)) → jIn x0 → jIn x1 → jIn x2 → ((x2 = 0 → q x0 I) ∧ (¬ x2 = 0 → ((1 ≤ x1 → vf_n32 (FP.fmul (FP.i2f (Int32.ofInt x0)) 1120403456) ∧ vf_n32 (FP.fdiv (FP.fmul (FP.i2f (Int32.ofInt x0)) 1120403456) (FP.i2f (Int32.ofInt x1))) ∧ q ((FP.f2i (FP.fdiv (FP.fmul (FP.i2f (Int32.ofInt x0)) 1120403456) (FP.i2f (Int32.ofInt x1)))).toInt) I) ∧ (¬ 1 ≤ x1 → q x0 I))))) : jOI E A kX1_valueOf 0 [VI x0, VI x1, VI x2] G I q := by
  intro I0 hF
  refine jOk_mem (fun hI => ?_)
  refine jOk_in (i := 0) rfl (fun hx0 => ?_)
  refine jOk_in (i := 1) rfl (fun hx1 => ?_)
  refine jOk_in (i := 2) rfl (fun hx2 => ?_)
  replace hT := hT hI hx0 hx1 hx2
  refine r_iload_n dX1_valueOf_0 rfl (i := 2) rfl ?_
  refine r_if_eq (tgt := 9) dX1_valueOf_1 rfl hx2 (fun hcc => ?_) (fun hcc => ?_)
  · replace hT := hT.1 hcc
    refine r_iload_n dX1_valueOf_9 rfl (i := 0) rfl ?_
    exact r_iret dX1_valueOf_10 rfl hx0 ⟨Nat.zero_le _, Nat.zero_le _⟩ ⟨_, rfl, rfl, hF, hT⟩
  · replace hT := hT.2 hcc
    refine r_iload_n dX1_valueOf_4 rfl (i := 1) rfl ?_
    refine r_iconst (n := 1) dX1_valueOf_5 ?_
    refine r_icmp_ge (tgt := 11) dX1_valueOf_6 rfl hx1 ⟨by decide, by decide⟩ (fun hcc => ?_) (fun hcc => ?_)
    · replace hT := hT.1 hcc
      refine r_iload_n dX1_valueOf_11 rfl (i := 0) rfl ?_
      refine r_i2f dX1_valueOf_12 ?_
      refine r_ldcf dX1_valueOf_13 cn_X1_156 ?_
      obtain ⟨hc1, hT⟩ := hT
      refine r_fmul dX1_valueOf_15 hc1 ?_
      refine r_iload_n dX1_valueOf_16 rfl (i := 1) rfl ?_
      refine r_i2f dX1_valueOf_17 ?_
      obtain ⟨hc2, hT⟩ := hT
      refine r_fdiv dX1_valueOf_18 hc2 ?_
      refine r_f2i dX1_valueOf_19 ?_
      exact r_iret dX1_valueOf_20 rfl (j32_in _) ⟨Nat.zero_le _, Nat.zero_le _⟩ ⟨_, rfl, rfl, hF, hT⟩
    · replace hT := hT.2 hcc
      refine r_iload_n dX1_valueOf_9 rfl (i := 0) rfl ?_
      exact r_iret dX1_valueOf_10 rfl hx0 ⟨Nat.zero_le _, Nat.zero_le _⟩ ⟨_, rfl, rfl, hF, hT⟩
theorem en_X1_valueOf {E : jE} {A : Nat → Prop} {G : jG} {I : jM} {q : Int → jM → Prop} {x0 : Int} {x1 : Int} {x2 : Int}  (hT : (∀ a j, jRg (G.2.1 a).1 (I a j)) → jIn x0 → jIn x1 → jIn x2 → ((x2 = 0 → q x0 I) ∧ (¬ x2 = 0 → ((1 ≤ x1 → vf_n32 (FP.fmul (FP.i2f (Int32.ofInt x0)) 1120403456) ∧ vf_n32 (FP.fdiv (FP.fmul (FP.i2f (Int32.ofInt x0)) 1120403456) (FP.i2f (Int32.ofInt x1))) ∧ q ((FP.f2i (FP.fdiv (FP.fmul (FP.i2f (Int32.ofInt x0)) 1120403456) (FP.i2f (Int32.ofInt x1)))).toInt) I) ∧ (¬ 1 ≤ x1 → q x0 I))))) : jRI E A kX1_valueOf [VI x0, VI x1, VI x2] G I q := jRun.of mt_X1_valueOf.2.2.2 0 rfl (fun _ => st_X1_valueOf_0  hT I (fun _ _ => rfl))
set_option maxRecDepth 20000 in
theorem st_X1_consider_0 {E : jE} {G : jG} {I : jM} {q : jM → Prop} {m : Nat} {x1 : Int} {x2 : Int} {x3 : Int} (hm : WX1 G m) (hT : (∀ a j, jRg (G.2.1 a).1 (I a j)) → jIn x1 → jIn x2 → jIn x3 → (∃ b1 : Nat, I m 1 = (b1 : Int) ∧ WX6 G b1 ∧ ((0 : Int) ≤ x1 ∧ (x1 : Int) < 6) ∧ jIn (x2 + (I (b1 + 3) x1)) ∧ ((0 : Int) ≤ x2 ∧ (x2 : Int) < 201) ∧ ((0 : Int) ≤ (x2 + (I (b1 + 3) x1)) ∧ ((x2 + (I (b1 + 3) x1)) : Int) < 201) ∧ jRV E jB kX1_writeFresh [VR m, VI x1, VI x2] G I (fun I8 => jRI E jB kX1_isFreshLike [VR m, VI (I (m + 2) x2), VI (I (m + 2) (x2 + (I (b1 + 3) x1)))] G I8 (fun r10 I9 => ((¬ r10 = 0 → q I9) ∧ (r10 = 0 → (((I9 m 5) < 1200 → ((0 : Int) ≤ (I9 m 5) ∧ ((I9 m 5) : Int) < 1200) ∧ (∀ M13, M13 = jup I9 (m + 5) (I9 m 5) x1 → ((0 : Int) ≤ (I9 m 5) ∧ ((I9 m 5) : Int) < 1200) ∧ (∀ M15, M15 = jup M13 (m + 6) (I9 m 5) x2 → ((0 : Int) ≤ (I9 m 5) ∧ ((I9 m 5) : Int) < 1200) ∧ (∀ M17, M17 = jup M15 (m + 7) (I9 m 5) (x2 + (I (b1 + 3) x1)) → ((0 : Int) ≤ (I9 m 5) ∧ ((I9 m 5) : Int) < 1200) ∧ (∀ M19, M19 = jup M17 (m + 8) (I9 m 5) (I9 m 4) → (∃ b20 : Nat, I9 m 1 = (b20 : Int) ∧ WX6 G b20 ∧ ((0 : Int) ≤ x1 ∧ (x1 : Int) < 6) ∧ jIn ((I (m + 2) (x2 + (I (b1 + 3) x1))) - (I (m + 2) x2)) ∧ jRI E jB kX1_valueOf [VI (M19 (b20 + 2) x1), VI ((I (m + 2) (x2 + (I (b1 + 3) x1))) - (I (m + 2) x2)), VI x3] G M19 (fun r26 I25 => ((0 : Int) ≤ (I9 m 5) ∧ ((I9 m 5) : Int) < 1200) ∧ (∀ M29, M29 = jup I25 (m + 9) (I9 m 5) r26 → (∃ b30 : Nat, I25 m 0 = (b30 : Int) ∧ WX4 G b30 ∧ jRI E jB kX4_hides [VR b30, VI (I (m + 2) x2), VI (I (m + 2) (x2 + (I (b1 + 3) x1)))] G M29 (fun r34 I33 => ((r34 = 0 → ((0 : Int) ≤ (I25 m 5) ∧ ((I25 m 5) : Int) < 1200) ∧ (∀ M37, M37 = jup I33 (m + 10) (I25 m 5) 0 → jIn ((I33 m 5) + 1) ∧ (∀ M38, M38 = jup M37 m 5 ((I33 m 5) + 1) → q M38))) ∧ (¬ r34 = 0 → ((0 : Int) ≤ (I25 m 5) ∧ ((I25 m 5) : Int) < 1200) ∧ (∀ M41, M41 = jup I33 (m + 10) (I25 m 5) 1 → jIn ((I33 m 5) + 1) ∧ (∀ M42, M42 = jup M41 m 5 ((I33 m 5) + 1) → q M42)))))))))))))) ∧ (¬ (I9 m 5) < 1200 → q I9)))))))) : jOV E jB kX1_consider 0 [VR m, VI x1, VI x2, VI x3, VN, VN, VN] G I q := by
  intro I0 hF
  refine jOk_mem (fun hI => ?_)
  refine jOk_in (i := 1) rfl (fun hx1 => ?_)
  refine jOk_in (i := 2) rfl (fun hx2 => ?_)
  refine jOk_in (i := 3) rfl (fun hx3 => ?_)
  replace hT := hT hI hx1 hx2 hx3
  refine r_iload_n dX1_consider_0 rfl (i := 2) rfl ?_
  refine r_aload_n dX1_consider_1 rfl (i := 0) rfl ?_
  obtain ⟨b1, hc2, hc3, hT⟩ := hT
  refine rr_getM (b := b1) dX1_consider_2 fg_X1_61 rfl rfl (wX1_l hm) (wX1_s hm) hc2 ?_
  refine rr_getR (b := (b1 + 3)) dX1_consider_5 fg_X1_105 rfl rfl (wX6_l hc3) (wX6_s hc3) (wX6_r3 hc3) ?_
  refine r_iload_n dX1_consider_8 rfl (i := 1) rfl ?_
  obtain ⟨hc4, hT⟩ := hT
  refine rr_iaload (v := I (b1 + 3) x1) dX1_consider_9 (wX6_l3 hc3) (wX6_a3 hc3) (by decide) hc4 rfl ?_
  refine r_iadd dX1_consider_10 ?_
  obtain ⟨hc5, hT⟩ := hT
  refine rr_istore (i := 4) (ls' := [VR m, VI x1, VI x2, VI x3, VI (x2 + (I (b1 + 3) x1)), VN, VN]) dX1_consider_11 (Nat.le_of_ble_eq_true rfl) rfl rfl hc5 ?_
  refine r_aload_n dX1_consider_13 rfl (i := 0) rfl ?_
  refine rr_getR (b := (m + 1)) dX1_consider_14 fg_X1_12 rfl rfl (wX1_l hm) (wX1_s hm) (wX1_r2 hm) ?_
  refine rr_getR (b := (m + 2)) dX1_consider_17 fg_X1_134 rfl rfl (wX8_l (wX1_o2 hm)) (wX8_s (wX1_o2 hm)) (wX8_r0 (wX1_o2 hm)) ?_
  refine r_iload_n dX1_consider_20 rfl (i := 2) rfl ?_
  obtain ⟨hc6, hT⟩ := hT
  refine rr_iaload (v := I (m + 2) x2) dX1_consider_21 (wX8_l0 (wX1_o2 hm)) (wX8_a0 (wX1_o2 hm)) (by decide) hc6 rfl ?_
  refine rr_istore (i := 5) (ls' := [VR m, VI x1, VI x2, VI x3, VI (x2 + (I (b1 + 3) x1)), VI (I (m + 2) x2), VN]) dX1_consider_22 (Nat.le_of_ble_eq_true rfl) rfl rfl (hI _ _).inR ?_
  refine r_aload_n dX1_consider_24 rfl (i := 0) rfl ?_
  refine rr_getR (b := (m + 1)) dX1_consider_25 fg_X1_12 rfl rfl (wX1_l hm) (wX1_s hm) (wX1_r2 hm) ?_
  refine rr_getR (b := (m + 2)) dX1_consider_28 fg_X1_134 rfl rfl (wX8_l (wX1_o2 hm)) (wX8_s (wX1_o2 hm)) (wX8_r0 (wX1_o2 hm)) ?_
  refine r_iload dX1_consider_31 (i := 4) rfl ?_
  obtain ⟨hc7, hT⟩ := hT
  refine rr_iaload (v := I (m + 2) (x2 + (I (b1 + 3) x1))) dX1_consider_33 (wX8_l0 (wX1_o2 hm)) (wX8_a0 (wX1_o2 hm)) (by decide) hc7 rfl ?_
  refine rr_istore (i := 6) (ls' := [VR m, VI x1, VI x2, VI x3, VI (x2 + (I (b1 + 3) x1)), VI (I (m + 2) x2), VI (I (m + 2) (x2 + (I (b1 + 3) x1)))]) dX1_consider_34 (Nat.le_of_ble_eq_true rfl) rfl rfl (hI _ _).inR ?_
  refine r_aload_n dX1_consider_36 rfl (i := 0) rfl ?_
  refine r_iload_n dX1_consider_37 rfl (i := 1) rfl ?_
  refine r_iload_n dX1_consider_38 rfl (i := 2) rfl ?_
  refine rr_cVV (a := m) (as := [VI x1, VI x2]) (st := []) dX1_consider_39 mt_X1_writeFresh ml_X1_137 mi_X1_writeFresh rm_X1_consider_X1_writeFresh jz_X1_writeFresh ⟨Nat.zero_le _, Nat.zero_le _⟩ (Nat.le_of_ble_eq_true rfl) (wX1_l hm) (wX1_c hm) (jasI hx1 (jasI hx2 jas0)) hT (fun I8 hFI8 hT => ?_)
  replace hFI8 := jFr_tr hF hFI8
  refine jOk_mem (fun hI8 => ?_)
  refine r_aload_n dX1_consider_42 rfl (i := 0) rfl ?_
  refine r_iload dX1_consider_43 (i := 5) rfl ?_
  refine r_iload dX1_consider_45 (i := 6) rfl ?_
  refine rr_cVI (a := m) (as := [VI (I (m + 2) x2), VI (I (m + 2) (x2 + (I (b1 + 3) x1)))]) (st := []) dX1_consider_47 mt_X1_isFreshLike ml_X1_140 mi_X1_isFreshLike rm_X1_consider_X1_isFreshLike jz_X1_isFreshLike ⟨Nat.zero_le _, Nat.zero_le _⟩ (Nat.le_of_ble_eq_true rfl) (wX1_l hm) (wX1_c hm) (jasI (hI _ _).inR (jasI (hI _ _).inR jas0)) hT (fun r10 I9 hc11 hFI9 hT => ?_)
  replace hFI9 := jFr_tr hFI8 hFI9
  refine jOk_mem (fun hI9 => ?_)
  refine r_if_ne (tgt := 63) dX1_consider_50 rfl hc11 (fun hcc => ?_) (fun hcc => ?_)
  · replace hT := hT.1 hcc
    exact r_vret dX1_consider_63 rfl ⟨Nat.zero_le _, Nat.zero_le _⟩ ⟨rfl, rfl, hFI9, hT⟩
  · replace hT := hT.2 hcc
    refine r_aload_n dX1_consider_53 rfl (i := 0) rfl ?_
    refine rr_getI (v := I9 m 5) dX1_consider_54 fg_X1_66 rfl (wX1_l hm) (wX1_s hm) rfl ?_
    refine r_sipush (n := 1200) dX1_consider_57 (by decide +kernel) ?_
    refine r_icmp_lt (tgt := 64) dX1_consider_60 rfl (hI9 _ _).inR ⟨by decide, by decide⟩ (fun hcc => ?_) (fun hcc => ?_)
    · replace hT := hT.1 hcc
      refine r_aload_n dX1_consider_64 rfl (i := 0) rfl ?_
      refine rr_getR (b := (m + 5)) dX1_consider_65 fg_X1_22 rfl rfl (wX1_l hm) (wX1_s hm) (wX1_r6 hm) ?_
      refine r_aload_n dX1_consider_68 rfl (i := 0) rfl ?_
      refine rr_getI (v := I9 m 5) dX1_consider_69 fg_X1_66 rfl (wX1_l hm) (wX1_s hm) rfl ?_
      refine r_iload_n dX1_consider_72 rfl (i := 1) rfl ?_
      obtain ⟨hc12, hT⟩ := hT
      refine rr_iastore dX1_consider_73 (wX1_l6 hm) (wX1_a6 hm) (by decide) hc12 hx1 (fun M13 eM13 => ?_)
      have hFM13 := jFr_up hFI9 eM13 (wX1_f hm 5 (by decide))
      replace hT := hT M13 eM13
      refine jOk_mem (fun hIM13 => ?_)
      refine r_aload_n dX1_consider_74 rfl (i := 0) rfl ?_
      refine rr_getR (b := (m + 6)) dX1_consider_75 fg_X1_26 rfl rfl (wX1_l hm) (wX1_s hm) (wX1_r7 hm) ?_
      refine r_aload_n dX1_consider_78 rfl (i := 0) rfl ?_
      refine rr_getI (v := I9 m 5) dX1_consider_79 fg_X1_66 rfl (wX1_l hm) (wX1_s hm) (jr_na eM13 (by omega)) ?_
      refine r_iload_n dX1_consider_82 rfl (i := 2) rfl ?_
      obtain ⟨hc14, hT⟩ := hT
      refine rr_iastore dX1_consider_83 (wX1_l7 hm) (wX1_a7 hm) (by decide) hc14 hx2 (fun M15 eM15 => ?_)
      have hFM15 := jFr_up hFM13 eM15 (wX1_f hm 6 (by decide))
      replace hT := hT M15 eM15
      refine jOk_mem (fun hIM15 => ?_)
      refine r_aload_n dX1_consider_84 rfl (i := 0) rfl ?_
      refine rr_getR (b := (m + 7)) dX1_consider_85 fg_X1_29 rfl rfl (wX1_l hm) (wX1_s hm) (wX1_r8 hm) ?_
      refine r_aload_n dX1_consider_88 rfl (i := 0) rfl ?_
      refine rr_getI (v := I9 m 5) dX1_consider_89 fg_X1_66 rfl (wX1_l hm) (wX1_s hm) ((jr_na eM15 (by omega)).trans (jr_na eM13 (by omega))) ?_
      refine r_iload dX1_consider_92 (i := 4) rfl ?_
      obtain ⟨hc16, hT⟩ := hT
      refine rr_iastore dX1_consider_94 (wX1_l8 hm) (wX1_a8 hm) (by decide) hc16 hc5 (fun M17 eM17 => ?_)
      have hFM17 := jFr_up hFM15 eM17 (wX1_f hm 7 (by decide))
      replace hT := hT M17 eM17
      refine jOk_mem (fun hIM17 => ?_)
      refine r_aload_n dX1_consider_95 rfl (i := 0) rfl ?_
      refine rr_getR (b := (m + 8)) dX1_consider_96 fg_X1_32 rfl rfl (wX1_l hm) (wX1_s hm) (wX1_r9 hm) ?_
      refine r_aload_n dX1_consider_99 rfl (i := 0) rfl ?_
      refine rr_getI (v := I9 m 5) dX1_consider_100 fg_X1_66 rfl (wX1_l hm) (wX1_s hm) ((jr_na eM17 (by omega)).trans ((jr_na eM15 (by omega)).trans (jr_na eM13 (by omega)))) ?_
      refine r_aload_n dX1_consider_103 rfl (i := 0) rfl ?_
      refine rr_getI (v := I9 m 4) dX1_consider_104 fg_X1_143 rfl (wX1_l hm) (wX1_s hm) ((jr_na eM17 (by omega)).trans ((jr_na eM15 (by omega)).trans (jr_na eM13 (by omega)))) ?_
      obtain ⟨hc18, hT⟩ := hT
      refine rr_iastore dX1_consider_107 (wX1_l9 hm) (wX1_a9 hm) (by decide) hc18 (hI9 _ _).inR (fun M19 eM19 => ?_)
      have hFM19 := jFr_up hFM17 eM19 (wX1_f hm 8 (by decide))
      replace hT := hT M19 eM19
      refine jOk_mem (fun hIM19 => ?_)
      refine r_aload_n dX1_consider_108 rfl (i := 0) rfl ?_
      refine rr_getR (b := (m + 9)) dX1_consider_109 fg_X1_35 rfl rfl (wX1_l hm) (wX1_s hm) (wX1_r10 hm) ?_
      refine r_aload_n dX1_consider_112 rfl (i := 0) rfl ?_
      refine rr_getI (v := I9 m 5) dX1_consider_113 fg_X1_66 rfl (wX1_l hm) (wX1_s hm) ((jr_na eM19 (by omega)).trans ((jr_na eM17 (by omega)).trans ((jr_na eM15 (by omega)).trans (jr_na eM13 (by omega))))) ?_
      refine r_aload_n dX1_consider_116 rfl (i := 0) rfl ?_
      obtain ⟨b20, hc21, hc22, hT⟩ := hT
      refine rr_getM (b := b20) dX1_consider_117 fg_X1_61 rfl rfl (wX1_l hm) (wX1_s hm) (((jr_na eM19 (by omega)).trans ((jr_na eM17 (by omega)).trans ((jr_na eM15 (by omega)).trans (jr_na eM13 (by omega))))).trans hc21) ?_
      refine rr_getR (b := (b20 + 2)) dX1_consider_120 fg_X1_146 rfl rfl (wX6_l hc22) (wX6_s hc22) (wX6_r2 hc22) ?_
      refine r_iload_n dX1_consider_123 rfl (i := 1) rfl ?_
      obtain ⟨hc23, hT⟩ := hT
      refine rr_iaload (v := M19 (b20 + 2) x1) dX1_consider_124 (wX6_l2 hc22) (wX6_a2 hc22) (by decide) hc23 rfl ?_
      refine r_iload dX1_consider_125 (i := 6) rfl ?_
      refine r_iload dX1_consider_127 (i := 5) rfl ?_
      refine r_isub dX1_consider_129 ?_
      refine r_iload_n dX1_consider_130 rfl (i := 3) rfl ?_
      obtain ⟨hc24, hT⟩ := hT
      refine rr_cSI (as := [VI (M19 (b20 + 2) x1), VI ((I (m + 2) (x2 + (I (b1 + 3) x1))) - (I (m + 2) x2)), VI x3]) (st := [VI (I9 m 5), VR (m + 9)]) dX1_consider_131 mt_X1_valueOf ml_X1_149 ms_X1_valueOf rm_X1_consider_X1_valueOf jz_X1_valueOf ⟨Nat.zero_le _, Nat.zero_le _⟩ (Nat.le_of_ble_eq_true rfl) (jasI (hIM19 _ _).inR (jasI hc24 (jasI hx3 jas0))) hT (fun r26 I25 hc27 hFI25 hT => ?_)
      replace hFI25 := jFr_tr hFM19 hFI25
      refine jOk_mem (fun hI25 => ?_)
      obtain ⟨hc28, hT⟩ := hT
      refine rr_iastore dX1_consider_134 (wX1_l10 hm) (wX1_a10 hm) (by decide) hc28 hc27 (fun M29 eM29 => ?_)
      have hFM29 := jFr_up hFI25 eM29 (wX1_f hm 9 (by decide))
      replace hT := hT M29 eM29
      refine jOk_mem (fun hIM29 => ?_)
      refine r_aload_n dX1_consider_135 rfl (i := 0) rfl ?_
      refine rr_getR (b := (m + 10)) dX1_consider_136 fg_X1_38 rfl rfl (wX1_l hm) (wX1_s hm) (wX1_r11 hm) ?_
      refine r_aload_n dX1_consider_139 rfl (i := 0) rfl ?_
      refine rr_getI (v := I25 m 5) dX1_consider_140 fg_X1_66 rfl (wX1_l hm) (wX1_s hm) (jr_na eM29 (by omega)) ?_
      refine r_aload_n dX1_consider_143 rfl (i := 0) rfl ?_
      obtain ⟨b30, hc31, hc32, hT⟩ := hT
      refine rr_getM (b := b30) dX1_consider_144 fg_X1_56 rfl rfl (wX1_l hm) (wX1_s hm) ((jr_na eM29 (by omega)).trans hc31) ?_
      refine r_iload dX1_consider_147 (i := 5) rfl ?_
      refine r_iload dX1_consider_149 (i := 6) rfl ?_
      refine rr_cVI (a := b30) (as := [VI (I (m + 2) x2), VI (I (m + 2) (x2 + (I (b1 + 3) x1)))]) (st := [VI (I25 m 5), VR (m + 10)]) dX1_consider_151 mt_X4_hides ml_X1_153 mi_X4_hides rm_X1_consider_X4_hides jz_X4_hides ⟨Nat.zero_le _, Nat.zero_le _⟩ (Nat.le_of_ble_eq_true rfl) (wX4_l hc32) (wX4_c hc32) (jasI (hI _ _).inR (jasI (hI _ _).inR jas0)) hT (fun r34 I33 hc35 hFI33 hT => ?_)
      replace hFI33 := jFr_tr hFM29 hFI33
      refine jOk_mem (fun hI33 => ?_)
      refine r_if_eq (tgt := 161) dX1_consider_154 rfl hc35 (fun hcc => ?_) (fun hcc => ?_)
      · replace hT := hT.1 hcc
        refine r_iconst (n := 0) dX1_consider_161 ?_
        obtain ⟨hc36, hT⟩ := hT
        refine rr_iastore dX1_consider_162 (wX1_l11 hm) (wX1_a11 hm) (by decide) hc36 ⟨by decide, by decide⟩ (fun M37 eM37 => ?_)
        have hFM37 := jFr_up hFI33 eM37 (wX1_f hm 10 (by decide))
        replace hT := hT M37 eM37
        refine jOk_mem (fun hIM37 => ?_)
        refine r_aload_n dX1_consider_163 rfl (i := 0) rfl ?_
        refine r_dup dX1_consider_164 rfl ?_
        refine rr_getI (v := I33 m 5) dX1_consider_165 fg_X1_66 rfl (wX1_l hm) (wX1_s hm) (jr_na eM37 (by omega)) ?_
        refine r_iconst (n := 1) dX1_consider_168 ?_
        refine r_iadd dX1_consider_169 ?_
        obtain ⟨hc39, hT⟩ := hT
        refine rr_putI (jj := 5) dX1_consider_170 fp_X1_66 rfl rfl (wX1_l hm) (wX1_s hm) hc39 (fun M38 eM38 => ?_)
        have hFM38 := jFr_up hFM37 eM38 (wX1_f hm 0 (by decide))
        replace hT := hT M38 eM38
        refine jOk_mem (fun hIM38 => ?_)
        exact r_vret dX1_consider_173 rfl ⟨Nat.zero_le _, Nat.zero_le _⟩ ⟨rfl, rfl, hFM38, hT⟩
      · replace hT := hT.2 hcc
        refine r_iconst (n := 1) dX1_consider_157 ?_
        refine r_goto (tgt := 162) dX1_consider_158 rfl ?_
        obtain ⟨hc40, hT⟩ := hT
        refine rr_iastore dX1_consider_162 (wX1_l11 hm) (wX1_a11 hm) (by decide) hc40 ⟨by decide, by decide⟩ (fun M41 eM41 => ?_)
        have hFM41 := jFr_up hFI33 eM41 (wX1_f hm 10 (by decide))
        replace hT := hT M41 eM41
        refine jOk_mem (fun hIM41 => ?_)
        refine r_aload_n dX1_consider_163 rfl (i := 0) rfl ?_
        refine r_dup dX1_consider_164 rfl ?_
        refine rr_getI (v := I33 m 5) dX1_consider_165 fg_X1_66 rfl (wX1_l hm) (wX1_s hm) (jr_na eM41 (by omega)) ?_
        refine r_iconst (n := 1) dX1_consider_168 ?_
        refine r_iadd dX1_consider_169 ?_
        obtain ⟨hc43, hT⟩ := hT
        refine rr_putI (jj := 5) dX1_consider_170 fp_X1_66 rfl rfl (wX1_l hm) (wX1_s hm) hc43 (fun M42 eM42 => ?_)
        have hFM42 := jFr_up hFM41 eM42 (wX1_f hm 0 (by decide))
        replace hT := hT M42 eM42
        refine jOk_mem (fun hIM42 => ?_)
        exact r_vret dX1_consider_173 rfl ⟨Nat.zero_le _, Nat.zero_le _⟩ ⟨rfl, rfl, hFM42, hT⟩
    · replace hT := hT.2 hcc
      exact r_vret dX1_consider_63 rfl ⟨Nat.zero_le _, Nat.zero_le _⟩ ⟨rfl, rfl, hFI9, hT⟩
theorem en_X1_consider {E : jE} {G : jG} {I : jM} {q : jM → Prop} {m : Nat} {x1 : Int} {x2 : Int} {x3 : Int} (hm : WX1 G m) (hT : (∀ a j, jRg (G.2.1 a).1 (I a j)) → jIn x1 → jIn x2 → jIn x3 → (∃ b1 : Nat, I m 1 = (b1 : Int) ∧ WX6 G b1 ∧ ((0 : Int) ≤ x1 ∧ (x1 : Int) < 6) ∧ jIn (x2 + (I (b1 + 3) x1)) ∧ ((0 : Int) ≤ x2 ∧ (x2 : Int) < 201) ∧ ((0 : Int) ≤ (x2 + (I (b1 + 3) x1)) ∧ ((x2 + (I (b1 + 3) x1)) : Int) < 201) ∧ jRV E jB kX1_writeFresh [VR m, VI x1, VI x2] G I (fun I8 => jRI E jB kX1_isFreshLike [VR m, VI (I (m + 2) x2), VI (I (m + 2) (x2 + (I (b1 + 3) x1)))] G I8 (fun r10 I9 => ((¬ r10 = 0 → q I9) ∧ (r10 = 0 → (((I9 m 5) < 1200 → ((0 : Int) ≤ (I9 m 5) ∧ ((I9 m 5) : Int) < 1200) ∧ (∀ M13, M13 = jup I9 (m + 5) (I9 m 5) x1 → ((0 : Int) ≤ (I9 m 5) ∧ ((I9 m 5) : Int) < 1200) ∧ (∀ M15, M15 = jup M13 (m + 6) (I9 m 5) x2 → ((0 : Int) ≤ (I9 m 5) ∧ ((I9 m 5) : Int) < 1200) ∧ (∀ M17, M17 = jup M15 (m + 7) (I9 m 5) (x2 + (I (b1 + 3) x1)) → ((0 : Int) ≤ (I9 m 5) ∧ ((I9 m 5) : Int) < 1200) ∧ (∀ M19, M19 = jup M17 (m + 8) (I9 m 5) (I9 m 4) → (∃ b20 : Nat, I9 m 1 = (b20 : Int) ∧ WX6 G b20 ∧ ((0 : Int) ≤ x1 ∧ (x1 : Int) < 6) ∧ jIn ((I (m + 2) (x2 + (I (b1 + 3) x1))) - (I (m + 2) x2)) ∧ jRI E jB kX1_valueOf [VI (M19 (b20 + 2) x1), VI ((I (m + 2) (x2 + (I (b1 + 3) x1))) - (I (m + 2) x2)), VI x3] G M19 (fun r26 I25 => ((0 : Int) ≤ (I9 m 5) ∧ ((I9 m 5) : Int) < 1200) ∧ (∀ M29, M29 = jup I25 (m + 9) (I9 m 5) r26 → (∃ b30 : Nat, I25 m 0 = (b30 : Int) ∧ WX4 G b30 ∧ jRI E jB kX4_hides [VR b30, VI (I (m + 2) x2), VI (I (m + 2) (x2 + (I (b1 + 3) x1)))] G M29 (fun r34 I33 => ((r34 = 0 → ((0 : Int) ≤ (I25 m 5) ∧ ((I25 m 5) : Int) < 1200) ∧ (∀ M37, M37 = jup I33 (m + 10) (I25 m 5) 0 → jIn ((I33 m 5) + 1) ∧ (∀ M38, M38 = jup M37 m 5 ((I33 m 5) + 1) → q M38))) ∧ (¬ r34 = 0 → ((0 : Int) ≤ (I25 m 5) ∧ ((I25 m 5) : Int) < 1200) ∧ (∀ M41, M41 = jup I33 (m + 10) (I25 m 5) 1 → jIn ((I33 m 5) + 1) ∧ (∀ M42, M42 = jup M41 m 5 ((I33 m 5) + 1) → q M42)))))))))))))) ∧ (¬ (I9 m 5) < 1200 → q I9)))))))) : jRV E jB kX1_consider [VR m, VI x1, VI x2, VI x3] G I q := jRun.of mt_X1_consider.2.2.2 3 rfl (fun _ => st_X1_consider_0 hm hT I (fun _ _ => rfl))
theorem sp_X1_valueOf {E : jE} {A : Nat → Prop} {G : jG} {X : Int → Int} {I : jM} {r k w z : Int} (hw : RW1 X r) (hk : 1 ≤ k ∧ k ≤ 200) (ew : w = X (514 + 40 * r)) (ez : z = X 5) : jRI E A kX1_valueOf [VI w, VI k, VI z] G I (fun x I' => x = valOf X r k ∧ I' = I) := by
  have hf := fval_ok hw.1 hk
  subst ew ez
  refine en_X1_valueOf (fun _ _ _ _ => ⟨fun q => ⟨?_, rfl⟩, fun q => ⟨fun _ => ⟨hf.1, hf.2.1, ?_, rfl⟩, fun g => absurd hk.1 g⟩⟩)
  · unfold valOf
    rw [if_pos q]
  · unfold valOf
    rw [if_neg q]
    rfl
section CI
variable {E : jE} {G : jG} {φ p ρ : Nat} {I : jM} {X : Int → Int}
theorem cl_isFreshLike (h : FC G φ p ρ X I) {L : List Int} (hO : FO φ I L) (hl : L.length ≤ 1500) {i j : Int} (h0 : 0 ≤ i) (h1 : i ≤ j) (h2 : j ≤ X 2) : jRI E jB kX1_isFreshLike [VR φ, VI i, VI j] G I (fun x I' => x = jI (L = slice X i j) ∧ I' = I) := by
  obtain ⟨⟨⟨hm, hp, hρ⟩, hd1, hd2⟩, ⟨k0, k1⟩, hP, hR, hT⟩ := h
  have h200 := hP.1.1
  have loop : ∀ (d : Nat) (x : Nat), (x : Int) + d = j - i → (L.length : Int) = j - i → (∀ k : Nat, k < x → L.getD k 0 = X (10 + (i + (k : Int)))) → jOI E jB kX1_isFreshLike 14 [VR φ, VI i, VI j, VI x] G I (fun x I' => x = jI (L = slice X i j) ∧ I' = I) := by
    intro d
    induction d with
    | zero =>
      intro x hx hl hk
      have hL : L = slice X i j := list_eq_stretch (f := fun k => X (10 + (i + k))) hl (fun k hk' => hk k (by omega))
      refine st_X1_isFreshLike_14 hm (fun _ _ _ _ => ⟨fun _ => ⟨(jI_pos hL).symm, rfl⟩, fun q => absurd (by rw [hO.1]; omega) q⟩)
    | succ d ih =>
      intro x hx hl hk
      refine st_X1_isFreshLike_14 hm (fun _ _ _ _ => ⟨fun q => absurd q (by rw [hO.1]; omega), fun _ => ⟨⟨by omega, by omega⟩, fun _ => ⟨p, k0, hp, ⟨by omega, by omega⟩, fun _ => ?_⟩⟩⟩)
      rw [hO.2 x (by omega), (hP.1.2 (i + x) (by omega) (by omega)).1]
      refine ⟨fun q => ⟨⟨by omega, by omega⟩, ?_⟩, fun q => ⟨(jI_neg (fun g => q ?_)).symm, rfl⟩⟩
      · have e2 : (x : Int) + 1 = ((x + 1 : Nat) : Int) := by omega
        rw [e2]
        refine ih (x + 1) (by omega) hl (fun k hk' => ?_)
        by_cases ek : k = x
        · rw [ek]; exact q
        · exact hk k (by omega)
      · rw [g]
        exact stretch_getD (by omega)
  refine en_X1_isFreshLike hm (fun _ _ _ => ⟨⟨by omega, by omega⟩, fun q => ?_, fun q => ⟨(jI_neg (fun g => q ?_)).symm, rfl⟩⟩)
  · rw [hO.1] at q
    exact loop (j - i).toNat 0 (by omega) q (fun k hk => absurd hk (Nat.not_lt_zero k))
  · rw [hO.1, g]
    unfold slice
    rw [stretch_len]
    omega
theorem cl_consider (h : FC G φ p ρ X I) (hQ : QW X) {r t : Int} (hc : canF X r t) {F : List (Int × Int)} (hF : FN φ X I F) (hl : F.length < 1200) {z : Int} (hz : z = X 5) : jRV E jB kX1_consider [VR φ, VI r, VI t, VI z] G I (fun I' => WG φ I I' ∧ (Out X (bT X) r t = slice X (bT X t) (bT X (t + X (516 + 40 * r))) → FN φ X I' F) ∧ (Out X (bT X) r t ≠ slice X (bT X t) (bT X (t + X (516 + 40 * r))) → FN φ X I' (F ++ [(r, t)]))) := by
  have h' := h
  obtain ⟨⟨⟨hm, hp, hρ⟩, hd1, hd2⟩, ⟨k0, k1⟩, hP, hR, hT⟩ := h
  obtain ⟨hr, ht, hFit⟩ := hc
  have hk := tkS (S := X) hQ.1.1
  have hn := hk.n_le
  have h200 := hQ.1
  have h6 := hQ.2.1.2.1
  have hw := hQ.2.1.2.2 r hr.1 hr.2
  have hOl := Out_len hk hQ.1.2 hw ht.1 hFit.1
  have w3 := hw.2.2.1
  have e3 := (hR.2.1 r hr.1 hr.2).2.1
  have hFn := hFit.1
  have b0 := hk.bd (t := t) (by omega) (by omega)
  have b1 := hk.bd (t := t + X (516 + 40 * r)) (by omega) (by omega)
  have b2 := hk.slt (t := t) (u := t + X (516 + 40 * r)) (by omega) (by omega) (by omega)
  have c0 : I (φ + 2) t = bT X t := hT.2.1 _ (by omega) (by omega)
  have c1 : I (φ + 2) (t + X (516 + 40 * r)) = bT X (t + X (516 + 40 * r)) := hT.2.1 _ (by omega) (by omega)
  refine en_X1_consider hm (fun _ _ _ _ => ⟨ρ, k1, hρ, ⟨by omega, by omega⟩, ?_⟩)
  rw [e3, c0, c1]
  refine ⟨⟨by omega, by omega⟩, ⟨by omega, by omega⟩, ⟨by omega, by omega⟩, ?_⟩
  refine (cl_writeFresh h' hQ hr ht.1 hFit).mono (fun I8 _ g8 => ?_)
  have hC8 := h'.wf g8.2
  refine (cl_isFreshLike hC8 g8.1 (by omega) b0.1 (by omega) (by omega)).mono (fun y I9 _ _ gy => ?_)
  obtain ⟨rfl, rfl⟩ := gy
  have hF8 := hF.wf g8.2
  refine ⟨fun q => ⟨g8.2.wg, fun _ => hF8, fun g => absurd (jI_p q) g⟩, fun q => ⟨fun q5 => ?_, fun q5 => absurd (by rw [hF8.1]; omega) q5⟩⟩
  have hne : ¬ Out X (bT X) r t = slice X (bT X t) (bT X (t + X (516 + 40 * r))) := jI_n q
  have e5 := hF8.1
  rw [e5]
  refine ⟨⟨by omega, by omega⟩, fun M13 e13 => ⟨⟨by omega, by omega⟩, fun M15 e15 => ⟨⟨by omega, by omega⟩, fun M17 e17 => ⟨⟨by omega, by omega⟩, fun M19 e19 => ⟨ρ, hC8.2.1.2, hρ, ⟨by omega, by omega⟩, ⟨by omega, by omega⟩, ?_⟩⟩⟩⟩⟩
  have fz : ∀ a j, a ≠ φ + 5 → a ≠ φ + 6 → a ≠ φ + 7 → a ≠ φ + 8 → M19 a j = I9 a j := fun a j a5 a6 a7 a8 => by rw [jr_na e19 a8, jr_na e17 a7, jr_na e15 a6, jr_na e13 a5]
  have ewt : M19 (ρ + 2) r = X (514 + 40 * r) := by
    rw [fz _ _ (by omega) (by omega) (by omega) (by omega)]
    exact (hC8.2.2.2.1.2.1 r hr.1 hr.2).1
  refine (sp_X1_valueOf (X := X) hw (by omega) ewt hz).mono (fun y I25 _ _ gy => ?_)
  obtain ⟨rfl, rfl⟩ := gy
  refine ⟨⟨by omega, by omega⟩, fun M29 e29 => ⟨p, by rw [fz _ _ (by omega) (by omega) (by omega) (by omega)]; exact hC8.2.1.1, hp, ?_⟩⟩
  have hS29 : PS p X M29 := hC8.2.2.1.2.fr (fun a j qa => by rw [jr_na e29 (by omega), fz _ _ (by omega) (by omega) (by omega) (by omega)])
  have e5' : I25 φ 5 = F.length := by rw [fz _ _ (by omega) (by omega) (by omega) (by omega)]; exact e5
  have e5'' : M29 φ 5 = F.length := by rw [jr_na e29 (by omega)]; exact e5'
  refine (cl_hides hp hS29).mono (fun y I33 _ _ gy => ?_)
  obtain ⟨rfl, rfl⟩ := gy
  rw [e5', e5'']
  -- the row is full
  have fin : ∀ M37 M38 v, M37 = jup I33 (φ + 10) (F.length : Int) v → M38 = jup M37 φ 5 ((F.length : Int) + 1) → v = jI (sil X (bT X t) (bT X (t + X (516 + 40 * r)))) → WG φ I M38 ∧ (Out X (bT X) r t = slice X (bT X t) (bT X (t + X (516 + 40 * r))) → FN φ X M38 F) ∧ (Out X (bT X) r t ≠ slice X (bT X t) (bT X (t + X (516 + 40 * r))) → FN φ X M38 (F ++ [(r, t)])) := by
    intro M37 M38 v e37 e38 ev
    have z : ∀ a j, a ≠ φ → M38 a j = M37 a j := fun a j ha => jr_na e38 ha
    refine ⟨g8.2.wg.trans (fun a j ha hb => ?_), fun g => absurd g hne, fun _ => ⟨?_, fun i hi => ?_⟩⟩
    · have q38 : M38 a j = M37 a j := by
        rcases hb with hb | hb
        · exact jr_na e38 hb
        · exact jr_nj e38 hb.2
      rw [q38, jr_na e37 (by omega), jr_na e29 (by omega), fz _ _ (by omega) (by omega) (by omega) (by omega)]
    · rw [jr_eq e38, List.length_append]
      simp
    · rw [List.length_append] at hi
      simp at hi
      unfold RC
      rw [z _ _ (by omega), z _ _ (by omega), z _ _ (by omega), z _ _ (by omega), z _ _ (by omega), z _ _ (by omega)]
      by_cases qi : i = F.length
      · rw [gd_right (by omega), qi, Nat.sub_self]
        refine ⟨?_, ?_, ?_, ?_, ?_, ?_⟩
        · rw [jr_na e37 (by omega), jr_na e29 (by omega), jr_na e19 (by omega), jr_na e17 (by omega), jr_na e15 (by omega), jr_eq e13]; rfl
        · rw [jr_na e37 (by omega), jr_na e29 (by omega), jr_na e19 (by omega), jr_na e17 (by omega), jr_eq e15]; rfl
        · rw [jr_na e37 (by omega), jr_na e29 (by omega), jr_na e19 (by omega), jr_eq e17]; rfl
        · rw [jr_na e37 (by omega), jr_na e29 (by omega), jr_eq e19]; exact g8.1.1
        · rw [jr_na e37 (by omega), jr_eq e29]; rfl
        · rw [jr_eq e37]; exact ev
      · have hi' : i < F.length := by omega
        rw [gd_left hi']
        obtain ⟨a1, a2, a3, a4, a5, a6⟩ := hF8.2 i hi'
        have ni : (i : Int) ≠ F.length := by omega
        refine ⟨?_, ?_, ?_, ?_, ?_, ?_⟩
        · rw [jr_na e37 (by omega), jr_na e29 (by omega), jr_na e19 (by omega), jr_na e17 (by omega), jr_na e15 (by omega), jr_nj e13 ni]; exact a1
        · rw [jr_na e37 (by omega), jr_na e29 (by omega), jr_na e19 (by omega), jr_na e17 (by omega), jr_nj e15 ni, jr_na e13 (by omega)]; exact a2
        · rw [jr_na e37 (by omega), jr_na e29 (by omega), jr_na e19 (by omega), jr_nj e17 ni, jr_na e15 (by omega), jr_na e13 (by omega)]; exact a3
        · rw [jr_na e37 (by omega), jr_na e29 (by omega), jr_nj e19 ni, jr_na e17 (by omega), jr_na e15 (by omega), jr_na e13 (by omega)]; exact a4
        · rw [jr_na e37 (by omega), jr_nj e29 ni, jr_na e19 (by omega), jr_na e17 (by omega), jr_na e15 (by omega), jr_na e13 (by omega)]; exact a5
        · rw [jr_nj e37 ni, jr_na e29 (by omega), jr_na e19 (by omega), jr_na e17 (by omega), jr_na e15 (by omega), jr_na e13 (by omega)]; exact a6
  refine ⟨fun qh => ⟨⟨by omega, by omega⟩, fun M37 e37 => ⟨⟨by omega, by omega⟩, fun M38 e38 => fin M37 M38 0 e37 e38 qh.symm⟩⟩, fun qh => ⟨⟨by omega, by omega⟩, fun M41 e41 => ⟨⟨by omega, by omega⟩, fun M42 e42 => fin M41 M42 1 e41 e42 (jI_pos (jI_p qh)).symm⟩⟩⟩
end CI
/-- what the marks are to be -/
noncomputable def mkF (X : Int → Int) (f : Int) : Int := jI (fSi X f) + 2 * jI (fYi X f)
/-- a finder that has looked -/
def FK (φ : Nat) (X : Int → Int) (I : jM) : Prop := I φ 5 = NF X ∧ (∀ f, 0 ≤ f → f < NF X → I (φ + 5) f = fR X f ∧ I (φ + 6) f = fT X f ∧ I (φ + 7) f = fA X f ∧ I (φ + 8) f = (fO X f).length ∧ I (φ + 9) f = fV X f) ∧ (∀ t, 0 ≤ t → t ≤ nT X → I (φ + 11) t = ffT X t) ∧ FFx X
theorem FN.row {φ : Nat} {X : Int → Int} {I : jM} (h : FN φ X I (FL X)) {f : Int} (f0 : 0 ≤ f) (f1 : f < NF X) : I (φ + 5) f = fR X f ∧ I (φ + 6) f = fT X f ∧ I (φ + 7) f = fA X f ∧ I (φ + 8) f = (fO X f).length ∧ I (φ + 9) f = fV X f ∧ I (φ + 10) f = jI (fSi X f) := by
  have f1' : f < ((FL X).length : Int) := f1
  have hi : f.toNat < (FL X).length := by omega
  have g := h.2 f.toNat hi
  rw [show ((f.toNat : Nat) : Int) = f by omega] at g
  exact g
