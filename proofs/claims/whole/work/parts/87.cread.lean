/-! ===== the class reads rules ===== -/
theorem j255 {t : Int} (h : 0 ≤ t ∧ t ≤ 255) : jand (jb8 t) 255 = t := by
  have k : ∀ n : Fin 256, jand (jb8 ((n.val : Nat) : Int)) 255 = ((n.val : Nat) : Int) := by decide +kernel
  have := k ⟨t.toNat, by omega⟩
  rw [show (((⟨t.toNat, by omega⟩ : Fin 256).val : Nat) : Int) = t by show ((t.toNat : Nat) : Int) = t; omega] at this
  exact this
set_option maxRecDepth 20000 in
theorem st_X5_peek_0 {E : jE} {G : jG} {I : jM} {q : Int → jM → Prop} {m : Nat} (hm : WX5 G m) (hT : (∀ a j, jRg (G.2.1 a).1 (I a j)) → (((I m 2) < 0 → q (-1) I) ∧ (¬ (I m 2) < 0 → (((I m 1) ≤ (I m 2) → q (-1) I) ∧ (¬ (I m 1) ≤ (I m 2) → ((0 : Int) ≤ (I m 2) ∧ ((I m 2) : Int) < 300) ∧ (((-128) ≤ (I (m - 36) (I m 2)) ∧ (I (m - 36) (I m 2)) ≤ 127) → q (jand (I (m - 36) (I m 2)) 255) I)))))) : jOI E jB kX5_peek 0 [VR m] G I q := by
  intro I0 hF
  refine jOk_mem (fun hI => ?_)
  replace hT := hT hI 
  refine r_aload_n dX5_peek_0 rfl (i := 0) rfl ?_
  refine rr_getI (v := I m 2) dX5_peek_1 fg_X5_40 rfl (wX5_l hm) (wX5_s hm) rfl ?_
  refine r_if_lt (tgt := 34) dX5_peek_4 rfl (hI _ _).inR (fun hcc => ?_) (fun hcc => ?_)
  · replace hT := hT.1 hcc
    refine r_iconst (n := (-1)) dX5_peek_34 ?_
    exact r_iret dX5_peek_35 rfl ⟨by decide, by decide⟩ ⟨Nat.zero_le _, Nat.zero_le _⟩ ⟨_, rfl, rfl, hF, hT⟩
  · replace hT := hT.2 hcc
    refine r_aload_n dX5_peek_7 rfl (i := 0) rfl ?_
    refine rr_getI (v := I m 2) dX5_peek_8 fg_X5_40 rfl (wX5_l hm) (wX5_s hm) rfl ?_
    refine r_aload_n dX5_peek_11 rfl (i := 0) rfl ?_
    refine rr_getI (v := I m 1) dX5_peek_12 fg_X5_32 rfl (wX5_l hm) (wX5_s hm) rfl ?_
    refine r_icmp_ge (tgt := 34) dX5_peek_15 rfl (hI _ _).inR (hI _ _).inR (fun hcc => ?_) (fun hcc => ?_)
    · replace hT := hT.1 hcc
      refine r_iconst (n := (-1)) dX5_peek_34 ?_
      exact r_iret dX5_peek_35 rfl ⟨by decide, by decide⟩ ⟨Nat.zero_le _, Nat.zero_le _⟩ ⟨_, rfl, rfl, hF, hT⟩
    · replace hT := hT.2 hcc
      refine r_aload_n dX5_peek_18 rfl (i := 0) rfl ?_
      refine rr_getR (b := (m - 36)) dX5_peek_19 fg_X5_15 rfl rfl (wX5_l hm) (wX5_s hm) (wX5_r0 hm) ?_
      refine r_aload_n dX5_peek_22 rfl (i := 0) rfl ?_
      refine rr_getI (v := I m 2) dX5_peek_23 fg_X5_40 rfl (wX5_l hm) (wX5_s hm) rfl ?_
      obtain ⟨hc1, hT⟩ := hT
      refine rr_baload (v := I (m - 36) (I m 2)) dX5_peek_26 (wX5_l0 hm) (wX5_a0 hm) (by decide) hc1 rfl (fun hr2 => ?_)
      replace hT := hT hr2
      refine r_sipush (n := 255) dX5_peek_27 (by decide +kernel) ?_
      refine r_iand dX5_peek_30 ?_
      refine r_goto (tgt := 35) dX5_peek_31 rfl ?_
      exact r_iret dX5_peek_35 rfl (j32_in _) ⟨Nat.zero_le _, Nat.zero_le _⟩ ⟨_, rfl, rfl, hF, hT⟩
theorem en_X5_peek {E : jE} {G : jG} {I : jM} {q : Int → jM → Prop} {m : Nat} (hm : WX5 G m) (hT : (∀ a j, jRg (G.2.1 a).1 (I a j)) → (((I m 2) < 0 → q (-1) I) ∧ (¬ (I m 2) < 0 → (((I m 1) ≤ (I m 2) → q (-1) I) ∧ (¬ (I m 1) ≤ (I m 2) → ((0 : Int) ≤ (I m 2) ∧ ((I m 2) : Int) < 300) ∧ (((-128) ≤ (I (m - 36) (I m 2)) ∧ (I (m - 36) (I m 2)) ≤ 127) → q (jand (I (m - 36) (I m 2)) 255) I)))))) : jRI E jB kX5_peek [VR m] G I q := jRun.of mt_X5_peek.2.2.2 0 rfl (fun _ => st_X5_peek_0 hm hT I (fun _ _ => rfl))
def cnx (I : jM) (m : Nat) : Int := if 0 ≤ I m 2 ∧ I m 2 < I m 1 then jand (I (m - 36) (I m 2)) 255 else -1
theorem sp_X5_peek {E : jE} {G : jG} {I : jM} {m : Nat} (hm : WX5 G m) (h : I m 1 ≤ 300) : jRI E jB kX5_peek [VR m] G I (fun x I' => x = cnx I m ∧ I' = I) := by
  unfold cnx
  exact en_X5_peek hm (fun _ => ⟨fun q => ⟨by rw [if_neg (by omega)], rfl⟩, fun q => ⟨fun q1 => ⟨by rw [if_neg (by omega)], rfl⟩, fun q1 => ⟨⟨by omega, by omega⟩, fun _ => ⟨by rw [if_pos (by omega)], rfl⟩⟩⟩⟩)
set_option maxRecDepth 20000 in
theorem st_X5_isNamedSort_0 {E : jE} {A : Nat → Prop} {G : jG} {I : jM} {q : Int → jM → Prop} {x0 : Int}  (hT : (∀ a j, jRg (G.2.1 a).1 (I a j)) → jIn x0 → ((x0 = 119 → q 1 I) ∧ (¬ x0 = 119 → ((x0 = 110 → q 1 I) ∧ (¬ x0 = 110 → ((¬ x0 = 115 → q 0 I) ∧ (x0 = 115 → q 1 I))))))) : jOI E A kX5_isNamedSort 0 [VI x0] G I q := by
  intro I0 hF
  refine jOk_mem (fun hI => ?_)
  refine jOk_in (i := 0) rfl (fun hx0 => ?_)
  replace hT := hT hI hx0
  refine r_iload_n dX5_isNamedSort_0 rfl (i := 0) rfl ?_
  refine r_bipush (n := 119) dX5_isNamedSort_1 (by decide +kernel) ?_
  refine r_icmp_eq (tgt := 18) dX5_isNamedSort_3 rfl hx0 ⟨by decide, by decide⟩ (fun hcc => ?_) (fun hcc => ?_)
  · replace hT := hT.1 hcc
    refine r_iconst (n := 1) dX5_isNamedSort_18 ?_
    refine r_goto (tgt := 23) dX5_isNamedSort_19 rfl ?_
    exact r_zret dX5_isNamedSort_23 rfl ⟨by decide, by decide⟩ ⟨Nat.zero_le _, Nat.zero_le _⟩ ⟨_, rfl, rfl, hF, hT⟩
  · replace hT := hT.2 hcc
    refine r_iload_n dX5_isNamedSort_6 rfl (i := 0) rfl ?_
    refine r_bipush (n := 110) dX5_isNamedSort_7 (by decide +kernel) ?_
    refine r_icmp_eq (tgt := 18) dX5_isNamedSort_9 rfl hx0 ⟨by decide, by decide⟩ (fun hcc => ?_) (fun hcc => ?_)
    · replace hT := hT.1 hcc
      refine r_iconst (n := 1) dX5_isNamedSort_18 ?_
      refine r_goto (tgt := 23) dX5_isNamedSort_19 rfl ?_
      exact r_zret dX5_isNamedSort_23 rfl ⟨by decide, by decide⟩ ⟨Nat.zero_le _, Nat.zero_le _⟩ ⟨_, rfl, rfl, hF, hT⟩
    · replace hT := hT.2 hcc
      refine r_iload_n dX5_isNamedSort_12 rfl (i := 0) rfl ?_
      refine r_bipush (n := 115) dX5_isNamedSort_13 (by decide +kernel) ?_
      refine r_icmp_ne (tgt := 22) dX5_isNamedSort_15 rfl hx0 ⟨by decide, by decide⟩ (fun hcc => ?_) (fun hcc => ?_)
      · replace hT := hT.1 hcc
        refine r_iconst (n := 0) dX5_isNamedSort_22 ?_
        exact r_zret dX5_isNamedSort_23 rfl ⟨by decide, by decide⟩ ⟨Nat.zero_le _, Nat.zero_le _⟩ ⟨_, rfl, rfl, hF, hT⟩
      · replace hT := hT.2 hcc
        refine r_iconst (n := 1) dX5_isNamedSort_18 ?_
        refine r_goto (tgt := 23) dX5_isNamedSort_19 rfl ?_
        exact r_zret dX5_isNamedSort_23 rfl ⟨by decide, by decide⟩ ⟨Nat.zero_le _, Nat.zero_le _⟩ ⟨_, rfl, rfl, hF, hT⟩
theorem en_X5_isNamedSort {E : jE} {A : Nat → Prop} {G : jG} {I : jM} {q : Int → jM → Prop} {x0 : Int}  (hT : (∀ a j, jRg (G.2.1 a).1 (I a j)) → jIn x0 → ((x0 = 119 → q 1 I) ∧ (¬ x0 = 119 → ((x0 = 110 → q 1 I) ∧ (¬ x0 = 110 → ((¬ x0 = 115 → q 0 I) ∧ (x0 = 115 → q 1 I))))))) : jRI E A kX5_isNamedSort [VI x0] G I q := jRun.of mt_X5_isNamedSort.2.2.2 0 rfl (fun _ => st_X5_isNamedSort_0  hT I (fun _ _ => rfl))
def isNs (c : Int) : Prop := c = 119 ∨ c = 110 ∨ c = 115
theorem sp_X5_isNamedSort {E : jE} {A : Nat → Prop} {G : jG} {I : jM} {c : Int} : jRI E A kX5_isNamedSort [VI c] G I (fun x I' => x = jI (isNs c) ∧ I' = I) := by
  unfold isNs
  refine en_X5_isNamedSort (fun _ _ => ?_)
  repeat' (first | exact ⟨(jI_pos (by omega)).symm, rfl⟩ | exact ⟨(jI_neg (by omega)).symm, rfl⟩ | refine ⟨fun _ => ?_, fun _ => ?_⟩)
set_option maxRecDepth 20000 in
theorem st_X5_namedSort_0 {E : jE} {A : Nat → Prop} {G : jG} {I : jM} {q : Int → jM → Prop} {x0 : Int}  (hT : (∀ a j, jRg (G.2.1 a).1 (I a j)) → jIn x0 → ((¬ x0 = 119 → ((¬ x0 = 110 → q 3 I) ∧ (x0 = 110 → q 1 I))) ∧ (x0 = 119 → q 0 I))) : jOI E A kX5_namedSort 0 [VI x0] G I q := by
  intro I0 hF
  refine jOk_mem (fun hI => ?_)
  refine jOk_in (i := 0) rfl (fun hx0 => ?_)
  replace hT := hT hI hx0
  refine r_iload_n dX5_namedSort_0 rfl (i := 0) rfl ?_
  refine r_bipush (n := 119) dX5_namedSort_1 (by decide +kernel) ?_
  refine r_icmp_ne (tgt := 8) dX5_namedSort_3 rfl hx0 ⟨by decide, by decide⟩ (fun hcc => ?_) (fun hcc => ?_)
  · replace hT := hT.1 hcc
    refine r_iload_n dX5_namedSort_8 rfl (i := 0) rfl ?_
    refine r_bipush (n := 110) dX5_namedSort_9 (by decide +kernel) ?_
    refine r_icmp_ne (tgt := 18) dX5_namedSort_11 rfl hx0 ⟨by decide, by decide⟩ (fun hcc => ?_) (fun hcc => ?_)
    · replace hT := hT.1 hcc
      refine r_iconst (n := 3) dX5_namedSort_18 ?_
      exact r_iret dX5_namedSort_19 rfl ⟨by decide, by decide⟩ ⟨Nat.zero_le _, Nat.zero_le _⟩ ⟨_, rfl, rfl, hF, hT⟩
    · replace hT := hT.2 hcc
      refine r_iconst (n := 1) dX5_namedSort_14 ?_
      refine r_goto (tgt := 19) dX5_namedSort_15 rfl ?_
      exact r_iret dX5_namedSort_19 rfl ⟨by decide, by decide⟩ ⟨Nat.zero_le _, Nat.zero_le _⟩ ⟨_, rfl, rfl, hF, hT⟩
  · replace hT := hT.2 hcc
    refine r_iconst (n := 0) dX5_namedSort_6 ?_
    exact r_iret dX5_namedSort_7 rfl ⟨by decide, by decide⟩ ⟨Nat.zero_le _, Nat.zero_le _⟩ ⟨_, rfl, rfl, hF, hT⟩
theorem en_X5_namedSort {E : jE} {A : Nat → Prop} {G : jG} {I : jM} {q : Int → jM → Prop} {x0 : Int}  (hT : (∀ a j, jRg (G.2.1 a).1 (I a j)) → jIn x0 → ((¬ x0 = 119 → ((¬ x0 = 110 → q 3 I) ∧ (x0 = 110 → q 1 I))) ∧ (x0 = 119 → q 0 I))) : jRI E A kX5_namedSort [VI x0] G I q := jRun.of mt_X5_namedSort.2.2.2 0 rfl (fun _ => st_X5_namedSort_0  hT I (fun _ _ => rfl))
def nso (c : Int) : Int := if c = 119 then 0 else if c = 110 then 1 else 3
theorem sp_X5_namedSort {E : jE} {A : Nat → Prop} {G : jG} {I : jM} {c : Int} : jRI E A kX5_namedSort [VI c] G I (fun x I' => x = nso c ∧ I' = I) := by
  unfold nso
  exact en_X5_namedSort (fun _ _ => ⟨fun q => ⟨fun q1 => ⟨by rw [if_neg q, if_neg q1], rfl⟩, fun q1 => ⟨by rw [if_neg q, if_pos q1], rfl⟩⟩, fun q => ⟨by rw [if_pos q], rfl⟩⟩)
set_option maxRecDepth 20000 in
theorem st_X5_partKindOf_0 {E : jE} {A : Nat → Prop} {G : jG} {I : jM} {q : Int → jM → Prop} {x0 : Int}  (hT : (∀ a j, jRg (G.2.1 a).1 (I a j)) → jIn x0 → ((x0 = 39 → q 4 I) ∧ (x0 = 43 → q 1 I) ∧ (x0 = 45 → q 2 I) ∧ (x0 = 126 → q 3 I) ∧ (¬ x0 = 39 ∧ ¬ x0 = 43 ∧ ¬ x0 = 45 ∧ ¬ x0 = 126 → q 0 I))) : jOI E A kX5_partKindOf 0 [VI x0] G I q := by
  intro I0 hF
  refine jOk_mem (fun hI => ?_)
  refine jOk_in (i := 0) rfl (fun hx0 => ?_)
  replace hT := hT hI hx0
  refine r_iload_n dX5_partKindOf_0 rfl (i := 0) rfl ?_
  by_cases hl0 : x0 = 39
  · replace hT := hT.1 hl0
    refine r_lsw (tgt := 50) (off := 49) dX5_partKindOf_1 rfl hx0 (by rw [hl0]; rfl) rfl ?_
    refine r_iconst (n := 4) dX5_partKindOf_50 ?_
    exact r_iret dX5_partKindOf_51 rfl ⟨by decide, by decide⟩ ⟨Nat.zero_le _, Nat.zero_le _⟩ ⟨_, rfl, rfl, hF, hT⟩
  · skip
    by_cases hl1 : x0 = 43
    · replace hT := hT.2.1 hl1
      refine r_lsw (tgt := 44) (off := 43) dX5_partKindOf_1 rfl hx0 (by rw [hl1]; rfl) rfl ?_
      refine r_iconst (n := 1) dX5_partKindOf_44 ?_
      exact r_iret dX5_partKindOf_45 rfl ⟨by decide, by decide⟩ ⟨Nat.zero_le _, Nat.zero_le _⟩ ⟨_, rfl, rfl, hF, hT⟩
    · skip
      by_cases hl2 : x0 = 45
      · replace hT := hT.2.2.1 hl2
        refine r_lsw (tgt := 46) (off := 45) dX5_partKindOf_1 rfl hx0 (by rw [hl2]; rfl) rfl ?_
        refine r_iconst (n := 2) dX5_partKindOf_46 ?_
        exact r_iret dX5_partKindOf_47 rfl ⟨by decide, by decide⟩ ⟨Nat.zero_le _, Nat.zero_le _⟩ ⟨_, rfl, rfl, hF, hT⟩
      · skip
        by_cases hl3 : x0 = 126
        · replace hT := hT.2.2.2.1 hl3
          refine r_lsw (tgt := 48) (off := 47) dX5_partKindOf_1 rfl hx0 (by rw [hl3]; rfl) rfl ?_
          refine r_iconst (n := 3) dX5_partKindOf_48 ?_
          exact r_iret dX5_partKindOf_49 rfl ⟨by decide, by decide⟩ ⟨Nat.zero_le _, Nat.zero_le _⟩ ⟨_, rfl, rfl, hF, hT⟩
        · skip
          replace hT := hT.2.2.2.2 ⟨hl0, hl1, hl2, hl3⟩
          refine r_lsw (tgt := 52) (off := 51) dX5_partKindOf_1 rfl hx0 (by simp [Op.lookupswitch.offset, Ne.symm hl0, Ne.symm hl1, Ne.symm hl2, Ne.symm hl3]) rfl ?_
          refine r_iconst (n := 0) dX5_partKindOf_52 ?_
          exact r_iret dX5_partKindOf_53 rfl ⟨by decide, by decide⟩ ⟨Nat.zero_le _, Nat.zero_le _⟩ ⟨_, rfl, rfl, hF, hT⟩
theorem en_X5_partKindOf {E : jE} {A : Nat → Prop} {G : jG} {I : jM} {q : Int → jM → Prop} {x0 : Int}  (hT : (∀ a j, jRg (G.2.1 a).1 (I a j)) → jIn x0 → ((x0 = 39 → q 4 I) ∧ (x0 = 43 → q 1 I) ∧ (x0 = 45 → q 2 I) ∧ (x0 = 126 → q 3 I) ∧ (¬ x0 = 39 ∧ ¬ x0 = 43 ∧ ¬ x0 = 45 ∧ ¬ x0 = 126 → q 0 I))) : jRI E A kX5_partKindOf [VI x0] G I q := jRun.of mt_X5_partKindOf.2.2.2 0 rfl (fun _ => st_X5_partKindOf_0  hT I (fun _ _ => rfl))
def pko (c : Int) : Int := if c = 39 then 4 else if c = 43 then 1 else if c = 45 then 2 else if c = 126 then 3 else 0
theorem sp_X5_partKindOf {E : jE} {A : Nat → Prop} {G : jG} {I : jM} {c : Int} : jRI E A kX5_partKindOf [VI c] G I (fun x I' => x = pko c ∧ I' = I) := by
  unfold pko
  refine en_X5_partKindOf (fun _ _ => ⟨fun q => ⟨by rw [if_pos q], rfl⟩, fun q => ⟨by rw [if_neg (by omega), if_pos q], rfl⟩, fun q => ⟨by rw [if_neg (by omega), if_neg (by omega), if_pos q], rfl⟩, fun q => ⟨by rw [if_neg (by omega), if_neg (by omega), if_neg (by omega), if_pos q], rfl⟩, fun q => ⟨by rw [if_neg q.1, if_neg q.2.1, if_neg q.2.2.1, if_neg q.2.2.2], rfl⟩⟩)
set_option maxRecDepth 20000 in
theorem st_X5_fail_0 {E : jE} {G : jG} {I : jM} {q : Int → jM → Prop} {m : Nat} {x1 : Int} {x2 : Int} (hm : WX5 G m) (hT : (∀ a j, jRg (G.2.1 a).1 (I a j)) → jIn x1 → jIn x2 → (∀ M1, M1 = jup I m 4 x1 → (∀ M2, M2 = jup M1 m 5 x2 → q 0 M2))) : jOI E jB kX5_fail 0 [VR m, VI x1, VI x2] G I q := by
  intro I0 hF
  refine jOk_mem (fun hI => ?_)
  refine jOk_in (i := 1) rfl (fun hx1 => ?_)
  refine jOk_in (i := 2) rfl (fun hx2 => ?_)
  replace hT := hT hI hx1 hx2
  refine r_aload_n dX5_fail_0 rfl (i := 0) rfl ?_
  refine r_iload_n dX5_fail_1 rfl (i := 1) rfl ?_
  refine rr_putI (jj := 4) dX5_fail_2 fp_X5_43 rfl rfl (wX5_l hm) (wX5_s hm) hx1 (fun M1 eM1 => ?_)
  have hFM1 := jFr_up hF eM1 (wX5_f hm 0 (by decide))
  replace hT := hT M1 eM1
  refine jOk_mem (fun hIM1 => ?_)
  refine r_aload_n dX5_fail_5 rfl (i := 0) rfl ?_
  refine r_iload_n dX5_fail_6 rfl (i := 2) rfl ?_
  refine rr_putI (jj := 5) dX5_fail_7 fp_X5_9 rfl rfl (wX5_l hm) (wX5_s hm) hx2 (fun M2 eM2 => ?_)
  have hFM2 := jFr_up hFM1 eM2 (wX5_f hm 0 (by decide))
  replace hT := hT M2 eM2
  refine jOk_mem (fun hIM2 => ?_)
  refine r_iconst (n := 0) dX5_fail_10 ?_
  exact r_zret dX5_fail_11 rfl ⟨by decide, by decide⟩ ⟨Nat.zero_le _, Nat.zero_le _⟩ ⟨_, rfl, rfl, hFM2, hT⟩
theorem en_X5_fail {E : jE} {G : jG} {I : jM} {q : Int → jM → Prop} {m : Nat} {x1 : Int} {x2 : Int} (hm : WX5 G m) (hT : (∀ a j, jRg (G.2.1 a).1 (I a j)) → jIn x1 → jIn x2 → (∀ M1, M1 = jup I m 4 x1 → (∀ M2, M2 = jup M1 m 5 x2 → q 0 M2))) : jRI E jB kX5_fail [VR m, VI x1, VI x2] G I q := jRun.of mt_X5_fail.2.2.2 0 rfl (fun _ => st_X5_fail_0 hm hT I (fun _ _ => rfl))
set_option maxRecDepth 20000 in
theorem st_X5_isOneToken_50 {E : jE} {G : jG} {I : jM} {q : Int → jM → Prop} {m : Nat} {x1 : Int} {x2 : Int} {x3 : Int} {x4 : Int} (hm : WX5 G m) (hT : (∀ a j, jRg (G.2.1 a).1 (I a j)) → jIn x1 → jIn x2 → jIn x3 → jIn x4 → ((x2 ≤ x4 → q 1 I) ∧ (¬ x2 ≤ x4 → ((0 : Int) ≤ x4 ∧ (x4 : Int) < 300) ∧ (((-128) ≤ (I (m - 36) x4) ∧ (I (m - 36) x4) ≤ 127) → (((told (srt (I (m - 36) x4))) = x3 → jIn (x4 + 1) ∧ jOI E jB kX5_isOneToken 50 [VR m, VI x1, VI x2, VI x3, VI (x4 + 1)] G I q) ∧ (¬ (told (srt (I (m - 36) x4))) = x3 → q 0 I)))))) : jOI E jB kX5_isOneToken 50 [VR m, VI x1, VI x2, VI x3, VI x4] G I q := by
  intro I0 hF
  refine jOk_mem (fun hI => ?_)
  refine jOk_in (i := 1) rfl (fun hx1 => ?_)
  refine jOk_in (i := 2) rfl (fun hx2 => ?_)
  refine jOk_in (i := 3) rfl (fun hx3 => ?_)
  refine jOk_in (i := 4) rfl (fun hx4 => ?_)
  replace hT := hT hI hx1 hx2 hx3 hx4
  refine r_iload dX5_isOneToken_50 (i := 4) rfl ?_
  refine r_iload_n dX5_isOneToken_52 rfl (i := 2) rfl ?_
  refine r_icmp_ge (tgt := 78) dX5_isOneToken_53 rfl hx4 hx2 (fun hcc => ?_) (fun hcc => ?_)
  · replace hT := hT.1 hcc
    refine r_iconst (n := 1) dX5_isOneToken_78 ?_
    exact r_zret dX5_isOneToken_79 rfl ⟨by decide, by decide⟩ ⟨Nat.zero_le _, Nat.zero_le _⟩ ⟨_, rfl, rfl, hF, hT⟩
  · replace hT := hT.2 hcc
    refine r_aload_n dX5_isOneToken_56 rfl (i := 0) rfl ?_
    refine rr_getR (b := (m - 36)) dX5_isOneToken_57 fg_X5_15 rfl rfl (wX5_l hm) (wX5_s hm) (wX5_r0 hm) ?_
    refine r_iload dX5_isOneToken_60 (i := 4) rfl ?_
    obtain ⟨hc1, hT⟩ := hT
    refine rr_baload (v := I (m - 36) x4) dX5_isOneToken_62 (wX5_l0 hm) (wX5_a0 hm) (by decide) hc1 rfl (fun hr2 => ?_)
    replace hT := hT hr2
    refine rr_pNI (A := jB) (v := told (srt (I (m - 36) x4))) (as := [VI (I (m - 36) x4)]) (st := []) dX5_isOneToken_63 mt_X9_sortOf ml_X5_72 ms_X9_sortOf rm_X5_isOneToken_X9_sortOf jz_X9_sortOf ⟨Nat.zero_le _, Nat.zero_le _⟩ (Nat.le_of_ble_eq_true rfl) (jasI (hI _ _).inR jas0) sp_X9_sortOf (fun hc3 => ?_)
    refine r_iload_n dX5_isOneToken_66 rfl (i := 3) rfl ?_
    refine r_icmp_eq (tgt := 72) dX5_isOneToken_67 rfl hc3 hx3 (fun hcc => ?_) (fun hcc => ?_)
    · replace hT := hT.1 hcc
      obtain ⟨hc4, hT⟩ := hT
      refine rr_iinc (i := 4) (ls' := [VR m, VI x1, VI x2, VI x3, VI (x4 + 1)]) dX5_isOneToken_72 rfl (Nat.le_of_ble_eq_true rfl) rfl rfl hc4 ?_
      refine r_goto (tgt := 50) dX5_isOneToken_75 rfl ?_
      exact hT I0 hF
    · replace hT := hT.2 hcc
      refine r_iconst (n := 0) dX5_isOneToken_70 ?_
      exact r_zret dX5_isOneToken_71 rfl ⟨by decide, by decide⟩ ⟨Nat.zero_le _, Nat.zero_le _⟩ ⟨_, rfl, rfl, hF, hT⟩
set_option maxRecDepth 20000 in
theorem st_X5_isOneToken_0 {E : jE} {G : jG} {I : jM} {q : Int → jM → Prop} {m : Nat} {x1 : Int} {x2 : Int} (hm : WX5 G m) (hT : (∀ a j, jRg (G.2.1 a).1 (I a j)) → jIn x1 → jIn x2 → ((x1 < 0 → q 0 I) ∧ (¬ x1 < 0 → ((x2 ≤ x1 → q 0 I) ∧ (¬ x2 ≤ x1 → ((x2 ≤ (I m 1) → ((0 : Int) ≤ x1 ∧ (x1 : Int) < 300) ∧ (((-128) ≤ (I (m - 36) x1) ∧ (I (m - 36) x1) ≤ 127) → ((¬ (told (srt (I (m - 36) x1))) = 3 → jOI E jB kX5_isOneToken 50 [VR m, VI x1, VI x2, VI (told (srt (I (m - 36) x1))), VI x1] G I q) ∧ ((told (srt (I (m - 36) x1))) = 3 → jIn (x2 - x1) ∧ ((¬ (x2 - x1) = 1 → q 0 I) ∧ ((x2 - x1) = 1 → q 1 I)))))) ∧ (¬ x2 ≤ (I m 1) → q 0 I))))))) : jOI E jB kX5_isOneToken 0 [VR m, VI x1, VI x2, VN, VN] G I q := by
  intro I0 hF
  refine jOk_mem (fun hI => ?_)
  refine jOk_in (i := 1) rfl (fun hx1 => ?_)
  refine jOk_in (i := 2) rfl (fun hx2 => ?_)
  replace hT := hT hI hx1 hx2
  refine r_iload_n dX5_isOneToken_0 rfl (i := 1) rfl ?_
  refine r_if_lt (tgt := 17) dX5_isOneToken_1 rfl hx1 (fun hcc => ?_) (fun hcc => ?_)
  · replace hT := hT.1 hcc
    refine r_iconst (n := 0) dX5_isOneToken_17 ?_
    exact r_zret dX5_isOneToken_18 rfl ⟨by decide, by decide⟩ ⟨Nat.zero_le _, Nat.zero_le _⟩ ⟨_, rfl, rfl, hF, hT⟩
  · replace hT := hT.2 hcc
    refine r_iload_n dX5_isOneToken_4 rfl (i := 1) rfl ?_
    refine r_iload_n dX5_isOneToken_5 rfl (i := 2) rfl ?_
    refine r_icmp_ge (tgt := 17) dX5_isOneToken_6 rfl hx1 hx2 (fun hcc => ?_) (fun hcc => ?_)
    · replace hT := hT.1 hcc
      refine r_iconst (n := 0) dX5_isOneToken_17 ?_
      exact r_zret dX5_isOneToken_18 rfl ⟨by decide, by decide⟩ ⟨Nat.zero_le _, Nat.zero_le _⟩ ⟨_, rfl, rfl, hF, hT⟩
    · replace hT := hT.2 hcc
      refine r_iload_n dX5_isOneToken_9 rfl (i := 2) rfl ?_
      refine r_aload_n dX5_isOneToken_10 rfl (i := 0) rfl ?_
      refine rr_getI (v := I m 1) dX5_isOneToken_11 fg_X5_32 rfl (wX5_l hm) (wX5_s hm) rfl ?_
      refine r_icmp_le (tgt := 19) dX5_isOneToken_14 rfl hx2 (hI _ _).inR (fun hcc => ?_) (fun hcc => ?_)
      · replace hT := hT.1 hcc
        refine r_aload_n dX5_isOneToken_19 rfl (i := 0) rfl ?_
        refine rr_getR (b := (m - 36)) dX5_isOneToken_20 fg_X5_15 rfl rfl (wX5_l hm) (wX5_s hm) (wX5_r0 hm) ?_
        refine r_iload_n dX5_isOneToken_23 rfl (i := 1) rfl ?_
        obtain ⟨hc1, hT⟩ := hT
        refine rr_baload (v := I (m - 36) x1) dX5_isOneToken_24 (wX5_l0 hm) (wX5_a0 hm) (by decide) hc1 rfl (fun hr2 => ?_)
        replace hT := hT hr2
        refine rr_pNI (A := jB) (v := told (srt (I (m - 36) x1))) (as := [VI (I (m - 36) x1)]) (st := []) dX5_isOneToken_25 mt_X9_sortOf ml_X5_72 ms_X9_sortOf rm_X5_isOneToken_X9_sortOf jz_X9_sortOf ⟨Nat.zero_le _, Nat.zero_le _⟩ (Nat.le_of_ble_eq_true rfl) (jasI (hI _ _).inR jas0) sp_X9_sortOf (fun hc3 => ?_)
        refine rr_istore_n (i := 3) (ls' := [VR m, VI x1, VI x2, VI (told (srt (I (m - 36) x1))), VN]) dX5_isOneToken_28 rfl (Nat.le_of_ble_eq_true rfl) rfl rfl hc3 ?_
        refine r_iload_n dX5_isOneToken_29 rfl (i := 3) rfl ?_
        refine r_iconst (n := 3) dX5_isOneToken_30 ?_
        refine r_icmp_ne (tgt := 47) dX5_isOneToken_31 rfl hc3 ⟨by decide, by decide⟩ (fun hcc => ?_) (fun hcc => ?_)
        · replace hT := hT.1 hcc
          refine r_iload_n dX5_isOneToken_47 rfl (i := 1) rfl ?_
          refine rr_istore (i := 4) (ls' := [VR m, VI x1, VI x2, VI (told (srt (I (m - 36) x1))), VI x1]) dX5_isOneToken_48 (Nat.le_of_ble_eq_true rfl) rfl rfl hx1 ?_
          exact hT I0 hF
        · replace hT := hT.2 hcc
          refine r_iload_n dX5_isOneToken_34 rfl (i := 2) rfl ?_
          refine r_iload_n dX5_isOneToken_35 rfl (i := 1) rfl ?_
          refine r_isub dX5_isOneToken_36 ?_
          refine r_iconst (n := 1) dX5_isOneToken_37 ?_
          obtain ⟨hc4, hT⟩ := hT
          refine r_icmp_ne (tgt := 45) dX5_isOneToken_38 rfl hc4 ⟨by decide, by decide⟩ (fun hcc => ?_) (fun hcc => ?_)
          · replace hT := hT.1 hcc
            refine r_iconst (n := 0) dX5_isOneToken_45 ?_
            exact r_zret dX5_isOneToken_46 rfl ⟨by decide, by decide⟩ ⟨Nat.zero_le _, Nat.zero_le _⟩ ⟨_, rfl, rfl, hF, hT⟩
          · replace hT := hT.2 hcc
            refine r_iconst (n := 1) dX5_isOneToken_41 ?_
            refine r_goto (tgt := 46) dX5_isOneToken_42 rfl ?_
            exact r_zret dX5_isOneToken_46 rfl ⟨by decide, by decide⟩ ⟨Nat.zero_le _, Nat.zero_le _⟩ ⟨_, rfl, rfl, hF, hT⟩
      · replace hT := hT.2 hcc
        refine r_iconst (n := 0) dX5_isOneToken_17 ?_
        exact r_zret dX5_isOneToken_18 rfl ⟨by decide, by decide⟩ ⟨Nat.zero_le _, Nat.zero_le _⟩ ⟨_, rfl, rfl, hF, hT⟩
theorem en_X5_isOneToken {E : jE} {G : jG} {I : jM} {q : Int → jM → Prop} {m : Nat} {x1 : Int} {x2 : Int} (hm : WX5 G m) (hT : (∀ a j, jRg (G.2.1 a).1 (I a j)) → jIn x1 → jIn x2 → ((x1 < 0 → q 0 I) ∧ (¬ x1 < 0 → ((x2 ≤ x1 → q 0 I) ∧ (¬ x2 ≤ x1 → ((x2 ≤ (I m 1) → ((0 : Int) ≤ x1 ∧ (x1 : Int) < 300) ∧ (((-128) ≤ (I (m - 36) x1) ∧ (I (m - 36) x1) ≤ 127) → ((¬ (told (srt (I (m - 36) x1))) = 3 → jOI E jB kX5_isOneToken 50 [VR m, VI x1, VI x2, VI (told (srt (I (m - 36) x1))), VI x1] G I q) ∧ ((told (srt (I (m - 36) x1))) = 3 → jIn (x2 - x1) ∧ ((¬ (x2 - x1) = 1 → q 0 I) ∧ ((x2 - x1) = 1 → q 1 I)))))) ∧ (¬ x2 ≤ (I m 1) → q 0 I))))))) : jRI E jB kX5_isOneToken [VR m, VI x1, VI x2] G I q := jRun.of mt_X5_isOneToken.2.2.2 2 rfl (fun _ => st_X5_isOneToken_0 hm hT I (fun _ _ => rfl))
set_option maxRecDepth 20000 in
theorem st_X5_readQuote_10 {E : jE} {G : jG} {I : jM} {q : Int → jM → Prop} {m : Nat} (hm : WX5 G m) (hT : (∀ a j, jRg (G.2.1 a).1 (I a j)) → (((I m 1) ≤ (I m 2) → (I m 1 ≤ 300) ∧ (((cnx I m) = 39 → jIn ((I m 2) + 1) ∧ (∀ M3, M3 = jup I m 2 ((I m 2) + 1) → q 1 M3)) ∧ (¬ (cnx I m) = 39 → jRI E jB kX5_fail [VR m, VI 1, VI (I m 2)] G I (fun r6 I5 => (0 ≤ r6 ∧ r6 ≤ 1) ∧ q r6 I5)))) ∧ (¬ (I m 1) ≤ (I m 2) → (I m 1 ≤ 300) ∧ (((cnx I m) < 32 → (I m 1 ≤ 300) ∧ (((cnx I m) = 39 → jIn ((I m 2) + 1) ∧ (∀ M13, M13 = jup I m 2 ((I m 2) + 1) → q 1 M13)) ∧ (¬ (cnx I m) = 39 → jRI E jB kX5_fail [VR m, VI 1, VI (I m 2)] G I (fun r16 I15 => (0 ≤ r16 ∧ r16 ≤ 1) ∧ q r16 I15)))) ∧ (¬ (cnx I m) < 32 → (I m 1 ≤ 300) ∧ ((126 < (cnx I m) → (I m 1 ≤ 300) ∧ (((cnx I m) = 39 → jIn ((I m 2) + 1) ∧ (∀ M23, M23 = jup I m 2 ((I m 2) + 1) → q 1 M23)) ∧ (¬ (cnx I m) = 39 → jRI E jB kX5_fail [VR m, VI 1, VI (I m 2)] G I (fun r26 I25 => (0 ≤ r26 ∧ r26 ≤ 1) ∧ q r26 I25)))) ∧ (¬ 126 < (cnx I m) → (I m 1 ≤ 300) ∧ (((cnx I m) = 39 → (I m 1 ≤ 300) ∧ (((cnx I m) = 39 → jIn ((I m 2) + 1) ∧ (∀ M33, M33 = jup I m 2 ((I m 2) + 1) → q 1 M33)) ∧ (¬ (cnx I m) = 39 → jRI E jB kX5_fail [VR m, VI 1, VI (I m 2)] G I (fun r36 I35 => (0 ≤ r36 ∧ r36 ≤ 1) ∧ q r36 I35)))) ∧ (¬ (cnx I m) = 39 → jIn ((I m 2) + 1) ∧ (∀ M39, M39 = jup I m 2 ((I m 2) + 1) → jOI E jB kX5_readQuote 10 [VR m] G M39 q)))))))))) : jOI E jB kX5_readQuote 10 [VR m] G I q := by
  intro I0 hF
  refine jOk_mem (fun hI => ?_)
  replace hT := hT hI 
  refine r_aload_n dX5_readQuote_10 rfl (i := 0) rfl ?_
  refine rr_getI (v := I m 2) dX5_readQuote_11 fg_X5_40 rfl (wX5_l hm) (wX5_s hm) rfl ?_
  refine r_aload_n dX5_readQuote_14 rfl (i := 0) rfl ?_
  refine rr_getI (v := I m 1) dX5_readQuote_15 fg_X5_32 rfl (wX5_l hm) (wX5_s hm) rfl ?_
  refine r_icmp_ge (tgt := 61) dX5_readQuote_18 rfl (hI _ _).inR (hI _ _).inR (fun hcc => ?_) (fun hcc => ?_)
  · replace hT := hT.1 hcc
    refine r_aload_n dX5_readQuote_61 rfl (i := 0) rfl ?_
    obtain ⟨hc2, hT⟩ := hT
    refine rr_pVI (A := jB) (v := cnx I m) (a := m) (as := []) (st := []) dX5_readQuote_62 mt_X5_peek ml_X5_68 mi_X5_peek rm_X5_readQuote_X5_peek jz_X5_peek ⟨Nat.zero_le _, Nat.zero_le _⟩ (Nat.le_of_ble_eq_true rfl) (wX5_l hm) (wX5_c hm) jas0 ((sp_X5_peek hm) hc2) (fun hc1 => ?_)
    refine r_bipush (n := 39) dX5_readQuote_65 (by decide +kernel) ?_
    refine r_icmp_eq (tgt := 80) dX5_readQuote_67 rfl hc1 ⟨by decide, by decide⟩ (fun hcc => ?_) (fun hcc => ?_)
    · replace hT := hT.1 hcc
      refine r_aload_n dX5_readQuote_80 rfl (i := 0) rfl ?_
      refine r_dup dX5_readQuote_81 rfl ?_
      refine rr_getI (v := I m 2) dX5_readQuote_82 fg_X5_40 rfl (wX5_l hm) (wX5_s hm) rfl ?_
      refine r_iconst (n := 1) dX5_readQuote_85 ?_
      refine r_iadd dX5_readQuote_86 ?_
      obtain ⟨hc4, hT⟩ := hT
      refine rr_putI (jj := 2) dX5_readQuote_87 fp_X5_40 rfl rfl (wX5_l hm) (wX5_s hm) hc4 (fun M3 eM3 => ?_)
      have hFM3 := jFr_up hF eM3 (wX5_f hm 0 (by decide))
      replace hT := hT M3 eM3
      refine jOk_mem (fun hIM3 => ?_)
      refine r_iconst (n := 1) dX5_readQuote_90 ?_
      exact r_zret dX5_readQuote_91 rfl ⟨by decide, by decide⟩ ⟨Nat.zero_le _, Nat.zero_le _⟩ ⟨_, rfl, rfl, hFM3, hT⟩
    · replace hT := hT.2 hcc
      refine r_aload_n dX5_readQuote_70 rfl (i := 0) rfl ?_
      refine r_iconst (n := 1) dX5_readQuote_71 ?_
      refine r_aload_n dX5_readQuote_72 rfl (i := 0) rfl ?_
      refine rr_getI (v := I m 2) dX5_readQuote_73 fg_X5_40 rfl (wX5_l hm) (wX5_s hm) rfl ?_
      refine rr_cVI (a := m) (as := [VI 1, VI (I m 2)]) (st := []) dX5_readQuote_76 mt_X5_fail ml_X5_76 mi_X5_fail rm_X5_readQuote_X5_fail jz_X5_fail ⟨Nat.zero_le _, Nat.zero_le _⟩ (Nat.le_of_ble_eq_true rfl) (wX5_l hm) (wX5_c hm) (jasI ⟨by decide, by decide⟩ (jasI (hI _ _).inR jas0)) hT (fun r6 I5 hc7 hFI5 hT => ?_)
      replace hFI5 := jFr_tr hF hFI5
      refine jOk_mem (fun hI5 => ?_)
      obtain ⟨hc8, hT⟩ := hT
      exact r_zret dX5_readQuote_79 rfl hc8 ⟨Nat.zero_le _, Nat.zero_le _⟩ ⟨_, rfl, rfl, hFI5, hT⟩
  · replace hT := hT.2 hcc
    refine r_aload_n dX5_readQuote_21 rfl (i := 0) rfl ?_
    obtain ⟨hc10, hT⟩ := hT
    refine rr_pVI (A := jB) (v := cnx I m) (a := m) (as := []) (st := []) dX5_readQuote_22 mt_X5_peek ml_X5_68 mi_X5_peek rm_X5_readQuote_X5_peek jz_X5_peek ⟨Nat.zero_le _, Nat.zero_le _⟩ (Nat.le_of_ble_eq_true rfl) (wX5_l hm) (wX5_c hm) jas0 ((sp_X5_peek hm) hc10) (fun hc9 => ?_)
    refine r_bipush (n := 32) dX5_readQuote_25 (by decide +kernel) ?_
    refine r_icmp_lt (tgt := 61) dX5_readQuote_27 rfl hc9 ⟨by decide, by decide⟩ (fun hcc => ?_) (fun hcc => ?_)
    · replace hT := hT.1 hcc
      refine r_aload_n dX5_readQuote_61 rfl (i := 0) rfl ?_
      obtain ⟨hc12, hT⟩ := hT
      refine rr_pVI (A := jB) (v := cnx I m) (a := m) (as := []) (st := []) dX5_readQuote_62 mt_X5_peek ml_X5_68 mi_X5_peek rm_X5_readQuote_X5_peek jz_X5_peek ⟨Nat.zero_le _, Nat.zero_le _⟩ (Nat.le_of_ble_eq_true rfl) (wX5_l hm) (wX5_c hm) jas0 ((sp_X5_peek hm) hc12) (fun hc11 => ?_)
      refine r_bipush (n := 39) dX5_readQuote_65 (by decide +kernel) ?_
      refine r_icmp_eq (tgt := 80) dX5_readQuote_67 rfl hc11 ⟨by decide, by decide⟩ (fun hcc => ?_) (fun hcc => ?_)
      · replace hT := hT.1 hcc
        refine r_aload_n dX5_readQuote_80 rfl (i := 0) rfl ?_
        refine r_dup dX5_readQuote_81 rfl ?_
        refine rr_getI (v := I m 2) dX5_readQuote_82 fg_X5_40 rfl (wX5_l hm) (wX5_s hm) rfl ?_
        refine r_iconst (n := 1) dX5_readQuote_85 ?_
        refine r_iadd dX5_readQuote_86 ?_
        obtain ⟨hc14, hT⟩ := hT
        refine rr_putI (jj := 2) dX5_readQuote_87 fp_X5_40 rfl rfl (wX5_l hm) (wX5_s hm) hc14 (fun M13 eM13 => ?_)
        have hFM13 := jFr_up hF eM13 (wX5_f hm 0 (by decide))
        replace hT := hT M13 eM13
        refine jOk_mem (fun hIM13 => ?_)
        refine r_iconst (n := 1) dX5_readQuote_90 ?_
        exact r_zret dX5_readQuote_91 rfl ⟨by decide, by decide⟩ ⟨Nat.zero_le _, Nat.zero_le _⟩ ⟨_, rfl, rfl, hFM13, hT⟩
      · replace hT := hT.2 hcc
        refine r_aload_n dX5_readQuote_70 rfl (i := 0) rfl ?_
        refine r_iconst (n := 1) dX5_readQuote_71 ?_
        refine r_aload_n dX5_readQuote_72 rfl (i := 0) rfl ?_
        refine rr_getI (v := I m 2) dX5_readQuote_73 fg_X5_40 rfl (wX5_l hm) (wX5_s hm) rfl ?_
        refine rr_cVI (a := m) (as := [VI 1, VI (I m 2)]) (st := []) dX5_readQuote_76 mt_X5_fail ml_X5_76 mi_X5_fail rm_X5_readQuote_X5_fail jz_X5_fail ⟨Nat.zero_le _, Nat.zero_le _⟩ (Nat.le_of_ble_eq_true rfl) (wX5_l hm) (wX5_c hm) (jasI ⟨by decide, by decide⟩ (jasI (hI _ _).inR jas0)) hT (fun r16 I15 hc17 hFI15 hT => ?_)
        replace hFI15 := jFr_tr hF hFI15
        refine jOk_mem (fun hI15 => ?_)
        obtain ⟨hc18, hT⟩ := hT
        exact r_zret dX5_readQuote_79 rfl hc18 ⟨Nat.zero_le _, Nat.zero_le _⟩ ⟨_, rfl, rfl, hFI15, hT⟩
    · replace hT := hT.2 hcc
      refine r_aload_n dX5_readQuote_30 rfl (i := 0) rfl ?_
      obtain ⟨hc20, hT⟩ := hT
      refine rr_pVI (A := jB) (v := cnx I m) (a := m) (as := []) (st := []) dX5_readQuote_31 mt_X5_peek ml_X5_68 mi_X5_peek rm_X5_readQuote_X5_peek jz_X5_peek ⟨Nat.zero_le _, Nat.zero_le _⟩ (Nat.le_of_ble_eq_true rfl) (wX5_l hm) (wX5_c hm) jas0 ((sp_X5_peek hm) hc20) (fun hc19 => ?_)
      refine r_bipush (n := 126) dX5_readQuote_34 (by decide +kernel) ?_
      refine r_icmp_gt (tgt := 61) dX5_readQuote_36 rfl hc19 ⟨by decide, by decide⟩ (fun hcc => ?_) (fun hcc => ?_)
      · replace hT := hT.1 hcc
        refine r_aload_n dX5_readQuote_61 rfl (i := 0) rfl ?_
        obtain ⟨hc22, hT⟩ := hT
        refine rr_pVI (A := jB) (v := cnx I m) (a := m) (as := []) (st := []) dX5_readQuote_62 mt_X5_peek ml_X5_68 mi_X5_peek rm_X5_readQuote_X5_peek jz_X5_peek ⟨Nat.zero_le _, Nat.zero_le _⟩ (Nat.le_of_ble_eq_true rfl) (wX5_l hm) (wX5_c hm) jas0 ((sp_X5_peek hm) hc22) (fun hc21 => ?_)
        refine r_bipush (n := 39) dX5_readQuote_65 (by decide +kernel) ?_
        refine r_icmp_eq (tgt := 80) dX5_readQuote_67 rfl hc21 ⟨by decide, by decide⟩ (fun hcc => ?_) (fun hcc => ?_)
        · replace hT := hT.1 hcc
          refine r_aload_n dX5_readQuote_80 rfl (i := 0) rfl ?_
          refine r_dup dX5_readQuote_81 rfl ?_
          refine rr_getI (v := I m 2) dX5_readQuote_82 fg_X5_40 rfl (wX5_l hm) (wX5_s hm) rfl ?_
          refine r_iconst (n := 1) dX5_readQuote_85 ?_
          refine r_iadd dX5_readQuote_86 ?_
          obtain ⟨hc24, hT⟩ := hT
          refine rr_putI (jj := 2) dX5_readQuote_87 fp_X5_40 rfl rfl (wX5_l hm) (wX5_s hm) hc24 (fun M23 eM23 => ?_)
          have hFM23 := jFr_up hF eM23 (wX5_f hm 0 (by decide))
          replace hT := hT M23 eM23
          refine jOk_mem (fun hIM23 => ?_)
          refine r_iconst (n := 1) dX5_readQuote_90 ?_
          exact r_zret dX5_readQuote_91 rfl ⟨by decide, by decide⟩ ⟨Nat.zero_le _, Nat.zero_le _⟩ ⟨_, rfl, rfl, hFM23, hT⟩
        · replace hT := hT.2 hcc
          refine r_aload_n dX5_readQuote_70 rfl (i := 0) rfl ?_
          refine r_iconst (n := 1) dX5_readQuote_71 ?_
          refine r_aload_n dX5_readQuote_72 rfl (i := 0) rfl ?_
          refine rr_getI (v := I m 2) dX5_readQuote_73 fg_X5_40 rfl (wX5_l hm) (wX5_s hm) rfl ?_
          refine rr_cVI (a := m) (as := [VI 1, VI (I m 2)]) (st := []) dX5_readQuote_76 mt_X5_fail ml_X5_76 mi_X5_fail rm_X5_readQuote_X5_fail jz_X5_fail ⟨Nat.zero_le _, Nat.zero_le _⟩ (Nat.le_of_ble_eq_true rfl) (wX5_l hm) (wX5_c hm) (jasI ⟨by decide, by decide⟩ (jasI (hI _ _).inR jas0)) hT (fun r26 I25 hc27 hFI25 hT => ?_)
          replace hFI25 := jFr_tr hF hFI25
          refine jOk_mem (fun hI25 => ?_)
          obtain ⟨hc28, hT⟩ := hT
          exact r_zret dX5_readQuote_79 rfl hc28 ⟨Nat.zero_le _, Nat.zero_le _⟩ ⟨_, rfl, rfl, hFI25, hT⟩
      · replace hT := hT.2 hcc
        refine r_aload_n dX5_readQuote_39 rfl (i := 0) rfl ?_
        obtain ⟨hc30, hT⟩ := hT
        refine rr_pVI (A := jB) (v := cnx I m) (a := m) (as := []) (st := []) dX5_readQuote_40 mt_X5_peek ml_X5_68 mi_X5_peek rm_X5_readQuote_X5_peek jz_X5_peek ⟨Nat.zero_le _, Nat.zero_le _⟩ (Nat.le_of_ble_eq_true rfl) (wX5_l hm) (wX5_c hm) jas0 ((sp_X5_peek hm) hc30) (fun hc29 => ?_)
        refine r_bipush (n := 39) dX5_readQuote_43 (by decide +kernel) ?_
        refine r_icmp_eq (tgt := 61) dX5_readQuote_45 rfl hc29 ⟨by decide, by decide⟩ (fun hcc => ?_) (fun hcc => ?_)
        · replace hT := hT.1 hcc
          refine r_aload_n dX5_readQuote_61 rfl (i := 0) rfl ?_
          obtain ⟨hc32, hT⟩ := hT
          refine rr_pVI (A := jB) (v := cnx I m) (a := m) (as := []) (st := []) dX5_readQuote_62 mt_X5_peek ml_X5_68 mi_X5_peek rm_X5_readQuote_X5_peek jz_X5_peek ⟨Nat.zero_le _, Nat.zero_le _⟩ (Nat.le_of_ble_eq_true rfl) (wX5_l hm) (wX5_c hm) jas0 ((sp_X5_peek hm) hc32) (fun hc31 => ?_)
          refine r_bipush (n := 39) dX5_readQuote_65 (by decide +kernel) ?_
          refine r_icmp_eq (tgt := 80) dX5_readQuote_67 rfl hc31 ⟨by decide, by decide⟩ (fun hcc => ?_) (fun hcc => ?_)
          · replace hT := hT.1 hcc
            refine r_aload_n dX5_readQuote_80 rfl (i := 0) rfl ?_
            refine r_dup dX5_readQuote_81 rfl ?_
            refine rr_getI (v := I m 2) dX5_readQuote_82 fg_X5_40 rfl (wX5_l hm) (wX5_s hm) rfl ?_
            refine r_iconst (n := 1) dX5_readQuote_85 ?_
            refine r_iadd dX5_readQuote_86 ?_
            obtain ⟨hc34, hT⟩ := hT
            refine rr_putI (jj := 2) dX5_readQuote_87 fp_X5_40 rfl rfl (wX5_l hm) (wX5_s hm) hc34 (fun M33 eM33 => ?_)
            have hFM33 := jFr_up hF eM33 (wX5_f hm 0 (by decide))
            replace hT := hT M33 eM33
            refine jOk_mem (fun hIM33 => ?_)
            refine r_iconst (n := 1) dX5_readQuote_90 ?_
            exact r_zret dX5_readQuote_91 rfl ⟨by decide, by decide⟩ ⟨Nat.zero_le _, Nat.zero_le _⟩ ⟨_, rfl, rfl, hFM33, hT⟩
          · replace hT := hT.2 hcc
            refine r_aload_n dX5_readQuote_70 rfl (i := 0) rfl ?_
            refine r_iconst (n := 1) dX5_readQuote_71 ?_
            refine r_aload_n dX5_readQuote_72 rfl (i := 0) rfl ?_
            refine rr_getI (v := I m 2) dX5_readQuote_73 fg_X5_40 rfl (wX5_l hm) (wX5_s hm) rfl ?_
            refine rr_cVI (a := m) (as := [VI 1, VI (I m 2)]) (st := []) dX5_readQuote_76 mt_X5_fail ml_X5_76 mi_X5_fail rm_X5_readQuote_X5_fail jz_X5_fail ⟨Nat.zero_le _, Nat.zero_le _⟩ (Nat.le_of_ble_eq_true rfl) (wX5_l hm) (wX5_c hm) (jasI ⟨by decide, by decide⟩ (jasI (hI _ _).inR jas0)) hT (fun r36 I35 hc37 hFI35 hT => ?_)
            replace hFI35 := jFr_tr hF hFI35
            refine jOk_mem (fun hI35 => ?_)
            obtain ⟨hc38, hT⟩ := hT
            exact r_zret dX5_readQuote_79 rfl hc38 ⟨Nat.zero_le _, Nat.zero_le _⟩ ⟨_, rfl, rfl, hFI35, hT⟩
        · replace hT := hT.2 hcc
          refine r_aload_n dX5_readQuote_48 rfl (i := 0) rfl ?_
          refine r_dup dX5_readQuote_49 rfl ?_
          refine rr_getI (v := I m 2) dX5_readQuote_50 fg_X5_40 rfl (wX5_l hm) (wX5_s hm) rfl ?_
          refine r_iconst (n := 1) dX5_readQuote_53 ?_
          refine r_iadd dX5_readQuote_54 ?_
          obtain ⟨hc40, hT⟩ := hT
          refine rr_putI (jj := 2) dX5_readQuote_55 fp_X5_40 rfl rfl (wX5_l hm) (wX5_s hm) hc40 (fun M39 eM39 => ?_)
          have hFM39 := jFr_up hF eM39 (wX5_f hm 0 (by decide))
          replace hT := hT M39 eM39
          refine jOk_mem (fun hIM39 => ?_)
          refine r_goto (tgt := 10) dX5_readQuote_58 rfl ?_
          exact hT I0 hFM39
set_option maxRecDepth 20000 in
theorem st_X5_readQuote_0 {E : jE} {G : jG} {I : jM} {q : Int → jM → Prop} {m : Nat} (hm : WX5 G m) (hT : (∀ a j, jRg (G.2.1 a).1 (I a j)) → jIn ((I m 2) + 1) ∧ (∀ M1, M1 = jup I m 2 ((I m 2) + 1) → jOI E jB kX5_readQuote 10 [VR m] G M1 q)) : jOI E jB kX5_readQuote 0 [VR m] G I q := by
  intro I0 hF
  refine jOk_mem (fun hI => ?_)
  replace hT := hT hI 
  refine r_aload_n dX5_readQuote_0 rfl (i := 0) rfl ?_
  refine r_dup dX5_readQuote_1 rfl ?_
  refine rr_getI (v := I m 2) dX5_readQuote_2 fg_X5_40 rfl (wX5_l hm) (wX5_s hm) rfl ?_
  refine r_iconst (n := 1) dX5_readQuote_5 ?_
  refine r_iadd dX5_readQuote_6 ?_
  obtain ⟨hc2, hT⟩ := hT
  refine rr_putI (jj := 2) dX5_readQuote_7 fp_X5_40 rfl rfl (wX5_l hm) (wX5_s hm) hc2 (fun M1 eM1 => ?_)
  have hFM1 := jFr_up hF eM1 (wX5_f hm 0 (by decide))
  replace hT := hT M1 eM1
  refine jOk_mem (fun hIM1 => ?_)
  exact hT I0 hFM1
theorem en_X5_readQuote {E : jE} {G : jG} {I : jM} {q : Int → jM → Prop} {m : Nat} (hm : WX5 G m) (hT : (∀ a j, jRg (G.2.1 a).1 (I a j)) → jIn ((I m 2) + 1) ∧ (∀ M1, M1 = jup I m 2 ((I m 2) + 1) → jOI E jB kX5_readQuote 10 [VR m] G M1 q)) : jRI E jB kX5_readQuote [VR m] G I q := jRun.of mt_X5_readQuote.2.2.2 0 rfl (fun _ => st_X5_readQuote_0 hm hT I (fun _ _ => rfl))
set_option maxRecDepth 20000 in
theorem st_X5_readName_0 {E : jE} {G : jG} {I : jM} {q : Int → jM → Prop} {m : Nat} (hm : WX5 G m) (hT : (∀ a j, jRg (G.2.1 a).1 (I a j)) → (I m 1 ≤ 300) ∧ jIn ((I m 2) + 1) ∧ (∀ M4, M4 = jup I m 2 ((I m 2) + 1) → (M4 m 1 ≤ 300) ∧ (((cnx M4 m) < 97 → jRI E jB kX5_fail [VR m, VI 1, VI ((I m 2) + 1)] G M4 (fun r9 I8 => q (-1) I8)) ∧ (¬ (cnx M4 m) < 97 → (((cnx M4 m) ≤ 100 → jIn (((I m 2) + 1) + 1) ∧ (∀ M11, M11 = jup M4 m 2 (((I m 2) + 1) + 1) → jIn ((((nso (cnx I m)) * 4) + (cnx M4 m)) - 97) ∧ q ((((nso (cnx I m)) * 4) + (cnx M4 m)) - 97) M11)) ∧ (¬ (cnx M4 m) ≤ 100 → jRI E jB kX5_fail [VR m, VI 1, VI ((I m 2) + 1)] G M4 (fun r15 I14 => q (-1) I14))))))) : jOI E jB kX5_readName 0 [VR m, VN, VN] G I q := by
  intro I0 hF
  refine jOk_mem (fun hI => ?_)
  replace hT := hT hI 
  refine r_aload_n dX5_readName_0 rfl (i := 0) rfl ?_
  obtain ⟨hc2, hT⟩ := hT
  refine rr_pVI (A := jB) (v := cnx I m) (a := m) (as := []) (st := []) dX5_readName_1 mt_X5_peek ml_X5_68 mi_X5_peek rm_X5_readName_X5_peek jz_X5_peek ⟨Nat.zero_le _, Nat.zero_le _⟩ (Nat.le_of_ble_eq_true rfl) (wX5_l hm) (wX5_c hm) jas0 ((sp_X5_peek hm) hc2) (fun hc1 => ?_)
  refine rr_pSI (A := jB) (v := nso (cnx I m)) (as := [VI (cnx I m)]) (st := []) dX5_readName_4 mt_X5_namedSort ml_X5_106 ms_X5_namedSort rm_X5_readName_X5_namedSort jz_X5_namedSort ⟨Nat.zero_le _, Nat.zero_le _⟩ (Nat.le_of_ble_eq_true rfl) (jasI hc1 jas0) sp_X5_namedSort (fun hc3 => ?_)
  refine rr_istore_n (i := 1) (ls' := [VR m, VI (nso (cnx I m)), VN]) dX5_readName_7 rfl (Nat.le_of_ble_eq_true rfl) rfl rfl hc3 ?_
  refine r_aload_n dX5_readName_8 rfl (i := 0) rfl ?_
  refine r_dup dX5_readName_9 rfl ?_
  refine rr_getI (v := I m 2) dX5_readName_10 fg_X5_40 rfl (wX5_l hm) (wX5_s hm) rfl ?_
  refine r_iconst (n := 1) dX5_readName_13 ?_
  refine r_iadd dX5_readName_14 ?_
  obtain ⟨hc5, hT⟩ := hT
  refine rr_putI (jj := 2) dX5_readName_15 fp_X5_40 rfl rfl (wX5_l hm) (wX5_s hm) hc5 (fun M4 eM4 => ?_)
  have hFM4 := jFr_up hF eM4 (wX5_f hm 0 (by decide))
  replace hT := hT M4 eM4
  refine jOk_mem (fun hIM4 => ?_)
  refine r_aload_n dX5_readName_18 rfl (i := 0) rfl ?_
  obtain ⟨hc7, hT⟩ := hT
  refine rr_pVI (A := jB) (v := cnx M4 m) (a := m) (as := []) (st := []) dX5_readName_19 mt_X5_peek ml_X5_68 mi_X5_peek rm_X5_readName_X5_peek jz_X5_peek ⟨Nat.zero_le _, Nat.zero_le _⟩ (Nat.le_of_ble_eq_true rfl) (wX5_l hm) (wX5_c hm) jas0 ((sp_X5_peek hm) hc7) (fun hc6 => ?_)
  refine rr_istore_n (i := 2) (ls' := [VR m, VI (nso (cnx I m)), VI (cnx M4 m)]) dX5_readName_22 rfl (Nat.le_of_ble_eq_true rfl) rfl rfl hc6 ?_
  refine r_iload_n dX5_readName_23 rfl (i := 2) rfl ?_
  refine r_bipush (n := 97) dX5_readName_24 (by decide +kernel) ?_
  refine r_icmp_lt (tgt := 35) dX5_readName_26 rfl hc6 ⟨by decide, by decide⟩ (fun hcc => ?_) (fun hcc => ?_)
  · replace hT := hT.1 hcc
    refine r_aload_n dX5_readName_35 rfl (i := 0) rfl ?_
    refine r_iconst (n := 1) dX5_readName_36 ?_
    refine r_aload_n dX5_readName_37 rfl (i := 0) rfl ?_
    refine rr_getI (v := (I m 2) + 1) dX5_readName_38 fg_X5_40 rfl (wX5_l hm) (wX5_s hm) (jr_eq eM4) ?_
    refine rr_cVI (a := m) (as := [VI 1, VI ((I m 2) + 1)]) (st := []) dX5_readName_41 mt_X5_fail ml_X5_76 mi_X5_fail rm_X5_readName_X5_fail jz_X5_fail ⟨Nat.zero_le _, Nat.zero_le _⟩ (Nat.le_of_ble_eq_true rfl) (wX5_l hm) (wX5_c hm) (jasI ⟨by decide, by decide⟩ (jasI hc5 jas0)) hT (fun r9 I8 hc10 hFI8 hT => ?_)
    replace hFI8 := jFr_tr hFM4 hFI8
    refine jOk_mem (fun hI8 => ?_)
    refine r_pop dX5_readName_44 rfl ?_
    refine r_iconst (n := (-1)) dX5_readName_45 ?_
    exact r_iret dX5_readName_46 rfl ⟨by decide, by decide⟩ ⟨Nat.zero_le _, Nat.zero_le _⟩ ⟨_, rfl, rfl, hFI8, hT⟩
  · replace hT := hT.2 hcc
    refine r_iload_n dX5_readName_29 rfl (i := 2) rfl ?_
    refine r_bipush (n := 100) dX5_readName_30 (by decide +kernel) ?_
    refine r_icmp_le (tgt := 47) dX5_readName_32 rfl hc6 ⟨by decide, by decide⟩ (fun hcc => ?_) (fun hcc => ?_)
    · replace hT := hT.1 hcc
      refine r_aload_n dX5_readName_47 rfl (i := 0) rfl ?_
      refine r_dup dX5_readName_48 rfl ?_
      refine rr_getI (v := (I m 2) + 1) dX5_readName_49 fg_X5_40 rfl (wX5_l hm) (wX5_s hm) (jr_eq eM4) ?_
      refine r_iconst (n := 1) dX5_readName_52 ?_
      refine r_iadd dX5_readName_53 ?_
      obtain ⟨hc12, hT⟩ := hT
      refine rr_putI (jj := 2) dX5_readName_54 fp_X5_40 rfl rfl (wX5_l hm) (wX5_s hm) hc12 (fun M11 eM11 => ?_)
      have hFM11 := jFr_up hFM4 eM11 (wX5_f hm 0 (by decide))
      replace hT := hT M11 eM11
      refine jOk_mem (fun hIM11 => ?_)
      refine r_iload_n dX5_readName_57 rfl (i := 1) rfl ?_
      refine r_iconst (n := 4) dX5_readName_58 ?_
      refine r_imul dX5_readName_59 ?_
      refine r_iload_n dX5_readName_60 rfl (i := 2) rfl ?_
      refine r_iadd dX5_readName_61 ?_
      refine r_bipush (n := 97) dX5_readName_62 (by decide +kernel) ?_
      refine r_isub dX5_readName_64 ?_
      obtain ⟨hc13, hT⟩ := hT
      exact r_iret dX5_readName_65 rfl hc13 ⟨Nat.zero_le _, Nat.zero_le _⟩ ⟨_, rfl, rfl, hFM11, hT⟩
    · replace hT := hT.2 hcc
      refine r_aload_n dX5_readName_35 rfl (i := 0) rfl ?_
      refine r_iconst (n := 1) dX5_readName_36 ?_
      refine r_aload_n dX5_readName_37 rfl (i := 0) rfl ?_
      refine rr_getI (v := (I m 2) + 1) dX5_readName_38 fg_X5_40 rfl (wX5_l hm) (wX5_s hm) (jr_eq eM4) ?_
      refine rr_cVI (a := m) (as := [VI 1, VI ((I m 2) + 1)]) (st := []) dX5_readName_41 mt_X5_fail ml_X5_76 mi_X5_fail rm_X5_readName_X5_fail jz_X5_fail ⟨Nat.zero_le _, Nat.zero_le _⟩ (Nat.le_of_ble_eq_true rfl) (wX5_l hm) (wX5_c hm) (jasI ⟨by decide, by decide⟩ (jasI hc5 jas0)) hT (fun r15 I14 hc16 hFI14 hT => ?_)
      replace hFI14 := jFr_tr hFM4 hFI14
      refine jOk_mem (fun hI14 => ?_)
      refine r_pop dX5_readName_44 rfl ?_
      refine r_iconst (n := (-1)) dX5_readName_45 ?_
      exact r_iret dX5_readName_46 rfl ⟨by decide, by decide⟩ ⟨Nat.zero_le _, Nat.zero_le _⟩ ⟨_, rfl, rfl, hFI14, hT⟩
theorem en_X5_readName {E : jE} {G : jG} {I : jM} {q : Int → jM → Prop} {m : Nat} (hm : WX5 G m) (hT : (∀ a j, jRg (G.2.1 a).1 (I a j)) → (I m 1 ≤ 300) ∧ jIn ((I m 2) + 1) ∧ (∀ M4, M4 = jup I m 2 ((I m 2) + 1) → (M4 m 1 ≤ 300) ∧ (((cnx M4 m) < 97 → jRI E jB kX5_fail [VR m, VI 1, VI ((I m 2) + 1)] G M4 (fun r9 I8 => q (-1) I8)) ∧ (¬ (cnx M4 m) < 97 → (((cnx M4 m) ≤ 100 → jIn (((I m 2) + 1) + 1) ∧ (∀ M11, M11 = jup M4 m 2 (((I m 2) + 1) + 1) → jIn ((((nso (cnx I m)) * 4) + (cnx M4 m)) - 97) ∧ q ((((nso (cnx I m)) * 4) + (cnx M4 m)) - 97) M11)) ∧ (¬ (cnx M4 m) ≤ 100 → jRI E jB kX5_fail [VR m, VI 1, VI ((I m 2) + 1)] G M4 (fun r15 I14 => q (-1) I14))))))) : jRI E jB kX5_readName [VR m] G I q := jRun.of mt_X5_readName.2.2.2 2 rfl (fun _ => st_X5_readName_0 hm hT I (fun _ _ => rfl))
set_option maxRecDepth 20000 in
theorem st_X6_elementNamed_14 {E : jE} {G : jG} {I : jM} {q : Int → jM → Prop} {m : Nat} {x1 : Int} {x2 : Int} {x3 : Int} (hm : WX6 G m) (hT : (∀ a j, jRg (G.2.1 a).1 (I a j)) → jIn x1 → jIn x2 → jIn x3 → ((0 : Int) ≤ x1 ∧ (x1 : Int) < 6) ∧ (((I (m + 3) x1) ≤ x3 → q (-1) I) ∧ (¬ (I (m + 3) x1) ≤ x3 → ((6 ≤ x3 → q (-1) I) ∧ (¬ 6 ≤ x3 → ((0 : Int) ≤ ((x1 * 6) + x3) ∧ (((x1 * 6) + x3) : Int) < 36) ∧ ((¬ (I (m + 7) ((x1 * 6) + x3)) = x2 → jIn (x3 + 1) ∧ jOI E jB kX6_elementNamed 14 [VR m, VI x1, VI x2, VI (x3 + 1)] G I q) ∧ ((I (m + 7) ((x1 * 6) + x3)) = x2 → q x3 I))))))) : jOI E jB kX6_elementNamed 14 [VR m, VI x1, VI x2, VI x3] G I q := by
  intro I0 hF
  refine jOk_mem (fun hI => ?_)
  refine jOk_in (i := 1) rfl (fun hx1 => ?_)
  refine jOk_in (i := 2) rfl (fun hx2 => ?_)
  refine jOk_in (i := 3) rfl (fun hx3 => ?_)
  replace hT := hT hI hx1 hx2 hx3
  refine r_iload_n dX6_elementNamed_14 rfl (i := 3) rfl ?_
  refine r_aload_n dX6_elementNamed_15 rfl (i := 0) rfl ?_
  refine rr_getR (b := (m + 3)) dX6_elementNamed_16 fg_X6_19 rfl rfl (wX6_l hm) (wX6_s hm) (wX6_r3 hm) ?_
  refine r_iload_n dX6_elementNamed_19 rfl (i := 1) rfl ?_
  obtain ⟨hc1, hT⟩ := hT
  refine rr_iaload (v := I (m + 3) x1) dX6_elementNamed_20 (wX6_l3 hm) (wX6_a3 hm) (by decide) hc1 rfl ?_
  refine r_icmp_ge (tgt := 53) dX6_elementNamed_21 rfl hx3 (hI _ _).inR (fun hcc => ?_) (fun hcc => ?_)
  · replace hT := hT.1 hcc
    refine r_iconst (n := (-1)) dX6_elementNamed_53 ?_
    exact r_iret dX6_elementNamed_54 rfl ⟨by decide, by decide⟩ ⟨Nat.zero_le _, Nat.zero_le _⟩ ⟨_, rfl, rfl, hF, hT⟩
  · replace hT := hT.2 hcc
    refine r_iload_n dX6_elementNamed_24 rfl (i := 3) rfl ?_
    refine r_bipush (n := 6) dX6_elementNamed_25 (by decide +kernel) ?_
    refine r_icmp_ge (tgt := 53) dX6_elementNamed_27 rfl hx3 ⟨by decide, by decide⟩ (fun hcc => ?_) (fun hcc => ?_)
    · replace hT := hT.1 hcc
      refine r_iconst (n := (-1)) dX6_elementNamed_53 ?_
      exact r_iret dX6_elementNamed_54 rfl ⟨by decide, by decide⟩ ⟨Nat.zero_le _, Nat.zero_le _⟩ ⟨_, rfl, rfl, hF, hT⟩
    · replace hT := hT.2 hcc
      refine r_aload_n dX6_elementNamed_30 rfl (i := 0) rfl ?_
      refine rr_getR (b := (m + 7)) dX6_elementNamed_31 fg_X6_31 rfl rfl (wX6_l hm) (wX6_s hm) (wX6_r7 hm) ?_
      refine r_iload_n dX6_elementNamed_34 rfl (i := 1) rfl ?_
      refine r_bipush (n := 6) dX6_elementNamed_35 (by decide +kernel) ?_
      refine r_imul dX6_elementNamed_37 ?_
      refine r_iload_n dX6_elementNamed_38 rfl (i := 3) rfl ?_
      refine r_iadd dX6_elementNamed_39 ?_
      obtain ⟨hc2, hT⟩ := hT
      refine rr_iaload (v := I (m + 7) ((x1 * 6) + x3)) dX6_elementNamed_40 (wX6_l7 hm) (wX6_a7 hm) (by decide) hc2 rfl ?_
      refine r_iload_n dX6_elementNamed_41 rfl (i := 2) rfl ?_
      refine r_icmp_ne (tgt := 47) dX6_elementNamed_42 rfl (hI _ _).inR hx2 (fun hcc => ?_) (fun hcc => ?_)
      · replace hT := hT.1 hcc
        obtain ⟨hc3, hT⟩ := hT
        refine rr_iinc (i := 3) (ls' := [VR m, VI x1, VI x2, VI (x3 + 1)]) dX6_elementNamed_47 rfl (Nat.le_of_ble_eq_true rfl) rfl rfl hc3 ?_
        refine r_goto (tgt := 14) dX6_elementNamed_50 rfl ?_
        exact hT I0 hF
      · replace hT := hT.2 hcc
        refine r_iload_n dX6_elementNamed_45 rfl (i := 3) rfl ?_
        exact r_iret dX6_elementNamed_46 rfl hx3 ⟨Nat.zero_le _, Nat.zero_le _⟩ ⟨_, rfl, rfl, hF, hT⟩
set_option maxRecDepth 20000 in
theorem st_X6_elementNamed_0 {E : jE} {G : jG} {I : jM} {q : Int → jM → Prop} {m : Nat} {x1 : Int} {x2 : Int} (hm : WX6 G m) (hT : (∀ a j, jRg (G.2.1 a).1 (I a j)) → jIn x1 → jIn x2 → ((x1 < 0 → q (-1) I) ∧ (¬ x1 < 0 → ((x1 < 6 → jOI E jB kX6_elementNamed 14 [VR m, VI x1, VI x2, VI 0] G I q) ∧ (¬ x1 < 6 → q (-1) I))))) : jOI E jB kX6_elementNamed 0 [VR m, VI x1, VI x2, VN] G I q := by
  intro I0 hF
  refine jOk_mem (fun hI => ?_)
  refine jOk_in (i := 1) rfl (fun hx1 => ?_)
  refine jOk_in (i := 2) rfl (fun hx2 => ?_)
  replace hT := hT hI hx1 hx2
  refine r_iload_n dX6_elementNamed_0 rfl (i := 1) rfl ?_
  refine r_if_lt (tgt := 10) dX6_elementNamed_1 rfl hx1 (fun hcc => ?_) (fun hcc => ?_)
  · replace hT := hT.1 hcc
    refine r_iconst (n := (-1)) dX6_elementNamed_10 ?_
    exact r_iret dX6_elementNamed_11 rfl ⟨by decide, by decide⟩ ⟨Nat.zero_le _, Nat.zero_le _⟩ ⟨_, rfl, rfl, hF, hT⟩
  · replace hT := hT.2 hcc
    refine r_iload_n dX6_elementNamed_4 rfl (i := 1) rfl ?_
    refine r_bipush (n := 6) dX6_elementNamed_5 (by decide +kernel) ?_
    refine r_icmp_lt (tgt := 12) dX6_elementNamed_7 rfl hx1 ⟨by decide, by decide⟩ (fun hcc => ?_) (fun hcc => ?_)
    · replace hT := hT.1 hcc
      refine r_iconst (n := 0) dX6_elementNamed_12 ?_
      refine rr_istore_n (i := 3) (ls' := [VR m, VI x1, VI x2, VI 0]) dX6_elementNamed_13 rfl (Nat.le_of_ble_eq_true rfl) rfl rfl ⟨by decide, by decide⟩ ?_
      exact hT I0 hF
    · replace hT := hT.2 hcc
      refine r_iconst (n := (-1)) dX6_elementNamed_10 ?_
      exact r_iret dX6_elementNamed_11 rfl ⟨by decide, by decide⟩ ⟨Nat.zero_le _, Nat.zero_le _⟩ ⟨_, rfl, rfl, hF, hT⟩
theorem en_X6_elementNamed {E : jE} {G : jG} {I : jM} {q : Int → jM → Prop} {m : Nat} {x1 : Int} {x2 : Int} (hm : WX6 G m) (hT : (∀ a j, jRg (G.2.1 a).1 (I a j)) → jIn x1 → jIn x2 → ((x1 < 0 → q (-1) I) ∧ (¬ x1 < 0 → ((x1 < 6 → jOI E jB kX6_elementNamed 14 [VR m, VI x1, VI x2, VI 0] G I q) ∧ (¬ x1 < 6 → q (-1) I))))) : jRI E jB kX6_elementNamed [VR m, VI x1, VI x2] G I q := jRun.of mt_X6_elementNamed.2.2.2 1 rfl (fun _ => st_X6_elementNamed_0 hm hT I (fun _ _ => rfl))
set_option maxRecDepth 20000 in
theorem st_X5_readKnownName_0 {E : jE} {G : jG} {I : jM} {q : Int → jM → Prop} {m : Nat} {x1 : Int} (hm : WX5 G m) (hT : (∀ a j, jRg (G.2.1 a).1 (I a j)) → jIn x1 → ((x1 = 0 → jRI E jB kX5_readName [VR m] G I (fun r2 I1 => ((¬ r2 = (-1) → (∃ b4 : Nat, I1 m 3 = (b4 : Int) ∧ WX6 G b4 ∧ (∃ b7 : Nat, I1 m 3 = (b7 : Int) ∧ WX6 G b7 ∧ jRI E jB kX6_elementNamed [VR b4, VI (I1 b7 1), VI r2] G I1 (fun r11 I10 => ((¬ r11 = (-1) → q r11 I10) ∧ (r11 = (-1) → jRI E jB kX5_fail [VR m, VI 5, VI (I m 2)] G I10 (fun r14 I13 => q r11 I13))))))) ∧ (r2 = (-1) → q (-1) I1)))) ∧ (¬ x1 = 0 → jIn ((I m 2) + 1) ∧ (∀ M16, M16 = jup I m 2 ((I m 2) + 1) → (M16 m 1 ≤ 300) ∧ ((¬ x1 = 3 → (((cnx M16 m) = 110 → jRI E jB kX5_readName [VR m] G M16 (fun r21 I20 => ((¬ r21 = (-1) → (∃ b23 : Nat, I20 m 3 = (b23 : Int) ∧ WX6 G b23 ∧ (∃ b26 : Nat, I20 m 3 = (b26 : Int) ∧ WX6 G b26 ∧ jRI E jB kX6_elementNamed [VR b23, VI (I20 b26 1), VI r21] G I20 (fun r30 I29 => ((¬ r30 = (-1) → q r30 I29) ∧ (r30 = (-1) → jRI E jB kX5_fail [VR m, VI 5, VI ((I m 2) + 1)] G I29 (fun r33 I32 => q r30 I32))))))) ∧ (r21 = (-1) → q (-1) I20)))) ∧ (¬ (cnx M16 m) = 110 → jRI E jB kX5_fail [VR m, VI 1, VI ((I m 2) + 1)] G M16 (fun r36 I35 => q (-1) I35)))) ∧ (x1 = 3 → (((cnx M16 m) = 119 → jRI E jB kX5_readName [VR m] G M16 (fun r39 I38 => ((¬ r39 = (-1) → (∃ b41 : Nat, I38 m 3 = (b41 : Int) ∧ WX6 G b41 ∧ (∃ b44 : Nat, I38 m 3 = (b44 : Int) ∧ WX6 G b44 ∧ jRI E jB kX6_elementNamed [VR b41, VI (I38 b44 1), VI r39] G I38 (fun r48 I47 => ((¬ r48 = (-1) → q r48 I47) ∧ (r48 = (-1) → jRI E jB kX5_fail [VR m, VI 5, VI ((I m 2) + 1)] G I47 (fun r51 I50 => q r48 I50))))))) ∧ (r39 = (-1) → q (-1) I38)))) ∧ (¬ (cnx M16 m) = 119 → jRI E jB kX5_fail [VR m, VI 1, VI ((I m 2) + 1)] G M16 (fun r54 I53 => q (-1) I53))))))))) : jOI E jB kX5_readKnownName 0 [VR m, VI x1, VN, VN, VN] G I q := by
  intro I0 hF
  refine jOk_mem (fun hI => ?_)
  refine jOk_in (i := 1) rfl (fun hx1 => ?_)
  replace hT := hT hI hx1
  refine r_iload_n dX5_readKnownName_0 rfl (i := 1) rfl ?_
  refine r_if_eq (tgt := 45) dX5_readKnownName_1 rfl hx1 (fun hcc => ?_) (fun hcc => ?_)
  · replace hT := hT.1 hcc
    refine r_aload_n dX5_readKnownName_45 rfl (i := 0) rfl ?_
    refine rr_getI (v := I m 2) dX5_readKnownName_46 fg_X5_40 rfl (wX5_l hm) (wX5_s hm) rfl ?_
    refine rr_istore_n (i := 2) (ls' := [VR m, VI x1, VI (I m 2), VN, VN]) dX5_readKnownName_49 rfl (Nat.le_of_ble_eq_true rfl) rfl rfl (hI _ _).inR ?_
    refine r_aload_n dX5_readKnownName_50 rfl (i := 0) rfl ?_
    refine rr_cVI (a := m) (as := []) (st := []) dX5_readKnownName_51 mt_X5_readName ml_X5_103 mi_X5_readName rm_X5_readKnownName_X5_readName jz_X5_readName ⟨Nat.zero_le _, Nat.zero_le _⟩ (Nat.le_of_ble_eq_true rfl) (wX5_l hm) (wX5_c hm) jas0 hT (fun r2 I1 hc3 hFI1 hT => ?_)
    replace hFI1 := jFr_tr hF hFI1
    refine jOk_mem (fun hI1 => ?_)
    refine rr_istore_n (i := 3) (ls' := [VR m, VI x1, VI (I m 2), VI r2, VN]) dX5_readKnownName_54 rfl (Nat.le_of_ble_eq_true rfl) rfl rfl hc3 ?_
    refine r_iload_n dX5_readKnownName_55 rfl (i := 3) rfl ?_
    refine r_iconst (n := (-1)) dX5_readKnownName_56 ?_
    refine r_icmp_ne (tgt := 62) dX5_readKnownName_57 rfl hc3 ⟨by decide, by decide⟩ (fun hcc => ?_) (fun hcc => ?_)
    · replace hT := hT.1 hcc
      refine r_aload_n dX5_readKnownName_62 rfl (i := 0) rfl ?_
      obtain ⟨b4, hc5, hc6, hT⟩ := hT
      refine rr_getM (b := b4) dX5_readKnownName_63 fg_X5_19 rfl rfl (wX5_l hm) (wX5_s hm) hc5 ?_
      refine r_aload_n dX5_readKnownName_66 rfl (i := 0) rfl ?_
      obtain ⟨b7, hc8, hc9, hT⟩ := hT
      refine rr_getM (b := b7) dX5_readKnownName_67 fg_X5_19 rfl rfl (wX5_l hm) (wX5_s hm) hc8 ?_
      refine rr_getI (v := I1 b7 1) dX5_readKnownName_70 fg_X5_35 rfl (wX6_l hc9) (wX6_s hc9) rfl ?_
      refine r_iload_n dX5_readKnownName_73 rfl (i := 3) rfl ?_
      refine rr_cVI (a := b4) (as := [VI (I1 b7 1), VI r2]) (st := []) dX5_readKnownName_74 mt_X6_elementNamed ml_X5_109 mi_X6_elementNamed rm_X5_readKnownName_X6_elementNamed jz_X6_elementNamed ⟨Nat.zero_le _, Nat.zero_le _⟩ (Nat.le_of_ble_eq_true rfl) (wX6_l hc6) (wX6_c hc6) (jasI (hI1 _ _).inR (jasI hc3 jas0)) hT (fun r11 I10 hc12 hFI10 hT => ?_)
      replace hFI10 := jFr_tr hFI1 hFI10
      refine jOk_mem (fun hI10 => ?_)
      refine rr_istore (i := 4) (ls' := [VR m, VI x1, VI (I m 2), VI r2, VI r11]) dX5_readKnownName_77 (Nat.le_of_ble_eq_true rfl) rfl rfl hc12 ?_
      refine r_iload dX5_readKnownName_79 (i := 4) rfl ?_
      refine r_iconst (n := (-1)) dX5_readKnownName_81 ?_
      refine r_icmp_ne (tgt := 92) dX5_readKnownName_82 rfl hc12 ⟨by decide, by decide⟩ (fun hcc => ?_) (fun hcc => ?_)
      · replace hT := hT.1 hcc
        refine r_iload dX5_readKnownName_92 (i := 4) rfl ?_
        exact r_iret dX5_readKnownName_94 rfl hc12 ⟨Nat.zero_le _, Nat.zero_le _⟩ ⟨_, rfl, rfl, hFI10, hT⟩
      · replace hT := hT.2 hcc
        refine r_aload_n dX5_readKnownName_85 rfl (i := 0) rfl ?_
        refine r_iconst (n := 5) dX5_readKnownName_86 ?_
        refine r_iload_n dX5_readKnownName_87 rfl (i := 2) rfl ?_
        refine rr_cVI (a := m) (as := [VI 5, VI (I m 2)]) (st := []) dX5_readKnownName_88 mt_X5_fail ml_X5_76 mi_X5_fail rm_X5_readKnownName_X5_fail jz_X5_fail ⟨Nat.zero_le _, Nat.zero_le _⟩ (Nat.le_of_ble_eq_true rfl) (wX5_l hm) (wX5_c hm) (jasI ⟨by decide, by decide⟩ (jasI (hI _ _).inR jas0)) hT (fun r14 I13 hc15 hFI13 hT => ?_)
        replace hFI13 := jFr_tr hFI10 hFI13
        refine jOk_mem (fun hI13 => ?_)
        refine r_pop dX5_readKnownName_91 rfl ?_
        refine r_iload dX5_readKnownName_92 (i := 4) rfl ?_
        exact r_iret dX5_readKnownName_94 rfl hc12 ⟨Nat.zero_le _, Nat.zero_le _⟩ ⟨_, rfl, rfl, hFI13, hT⟩
    · replace hT := hT.2 hcc
      refine r_iconst (n := (-1)) dX5_readKnownName_60 ?_
      exact r_iret dX5_readKnownName_61 rfl ⟨by decide, by decide⟩ ⟨Nat.zero_le _, Nat.zero_le _⟩ ⟨_, rfl, rfl, hFI1, hT⟩
  · replace hT := hT.2 hcc
    refine r_aload_n dX5_readKnownName_4 rfl (i := 0) rfl ?_
    refine r_dup dX5_readKnownName_5 rfl ?_
    refine rr_getI (v := I m 2) dX5_readKnownName_6 fg_X5_40 rfl (wX5_l hm) (wX5_s hm) rfl ?_
    refine r_iconst (n := 1) dX5_readKnownName_9 ?_
    refine r_iadd dX5_readKnownName_10 ?_
    obtain ⟨hc17, hT⟩ := hT
    refine rr_putI (jj := 2) dX5_readKnownName_11 fp_X5_40 rfl rfl (wX5_l hm) (wX5_s hm) hc17 (fun M16 eM16 => ?_)
    have hFM16 := jFr_up hF eM16 (wX5_f hm 0 (by decide))
    replace hT := hT M16 eM16
    refine jOk_mem (fun hIM16 => ?_)
    refine r_aload_n dX5_readKnownName_14 rfl (i := 0) rfl ?_
    obtain ⟨hc19, hT⟩ := hT
    refine rr_pVI (A := jB) (v := cnx M16 m) (a := m) (as := []) (st := []) dX5_readKnownName_15 mt_X5_peek ml_X5_68 mi_X5_peek rm_X5_readKnownName_X5_peek jz_X5_peek ⟨Nat.zero_le _, Nat.zero_le _⟩ (Nat.le_of_ble_eq_true rfl) (wX5_l hm) (wX5_c hm) jas0 ((sp_X5_peek hm) hc19) (fun hc18 => ?_)
    refine r_iload_n dX5_readKnownName_18 rfl (i := 1) rfl ?_
    refine r_iconst (n := 3) dX5_readKnownName_19 ?_
    refine r_icmp_ne (tgt := 28) dX5_readKnownName_20 rfl hx1 ⟨by decide, by decide⟩ (fun hcc => ?_) (fun hcc => ?_)
    · replace hT := hT.1 hcc
      refine r_bipush (n := 110) dX5_readKnownName_28 (by decide +kernel) ?_
      refine r_icmp_eq (tgt := 45) dX5_readKnownName_30 rfl hc18 ⟨by decide, by decide⟩ (fun hcc => ?_) (fun hcc => ?_)
      · replace hT := hT.1 hcc
        refine r_aload_n dX5_readKnownName_45 rfl (i := 0) rfl ?_
        refine rr_getI (v := (I m 2) + 1) dX5_readKnownName_46 fg_X5_40 rfl (wX5_l hm) (wX5_s hm) (jr_eq eM16) ?_
        refine rr_istore_n (i := 2) (ls' := [VR m, VI x1, VI ((I m 2) + 1), VN, VN]) dX5_readKnownName_49 rfl (Nat.le_of_ble_eq_true rfl) rfl rfl hc17 ?_
        refine r_aload_n dX5_readKnownName_50 rfl (i := 0) rfl ?_
        refine rr_cVI (a := m) (as := []) (st := []) dX5_readKnownName_51 mt_X5_readName ml_X5_103 mi_X5_readName rm_X5_readKnownName_X5_readName jz_X5_readName ⟨Nat.zero_le _, Nat.zero_le _⟩ (Nat.le_of_ble_eq_true rfl) (wX5_l hm) (wX5_c hm) jas0 hT (fun r21 I20 hc22 hFI20 hT => ?_)
        replace hFI20 := jFr_tr hFM16 hFI20
        refine jOk_mem (fun hI20 => ?_)
        refine rr_istore_n (i := 3) (ls' := [VR m, VI x1, VI ((I m 2) + 1), VI r21, VN]) dX5_readKnownName_54 rfl (Nat.le_of_ble_eq_true rfl) rfl rfl hc22 ?_
        refine r_iload_n dX5_readKnownName_55 rfl (i := 3) rfl ?_
        refine r_iconst (n := (-1)) dX5_readKnownName_56 ?_
        refine r_icmp_ne (tgt := 62) dX5_readKnownName_57 rfl hc22 ⟨by decide, by decide⟩ (fun hcc => ?_) (fun hcc => ?_)
        · replace hT := hT.1 hcc
          refine r_aload_n dX5_readKnownName_62 rfl (i := 0) rfl ?_
          obtain ⟨b23, hc24, hc25, hT⟩ := hT
          refine rr_getM (b := b23) dX5_readKnownName_63 fg_X5_19 rfl rfl (wX5_l hm) (wX5_s hm) hc24 ?_
          refine r_aload_n dX5_readKnownName_66 rfl (i := 0) rfl ?_
          obtain ⟨b26, hc27, hc28, hT⟩ := hT
          refine rr_getM (b := b26) dX5_readKnownName_67 fg_X5_19 rfl rfl (wX5_l hm) (wX5_s hm) hc27 ?_
          refine rr_getI (v := I20 b26 1) dX5_readKnownName_70 fg_X5_35 rfl (wX6_l hc28) (wX6_s hc28) rfl ?_
          refine r_iload_n dX5_readKnownName_73 rfl (i := 3) rfl ?_
          refine rr_cVI (a := b23) (as := [VI (I20 b26 1), VI r21]) (st := []) dX5_readKnownName_74 mt_X6_elementNamed ml_X5_109 mi_X6_elementNamed rm_X5_readKnownName_X6_elementNamed jz_X6_elementNamed ⟨Nat.zero_le _, Nat.zero_le _⟩ (Nat.le_of_ble_eq_true rfl) (wX6_l hc25) (wX6_c hc25) (jasI (hI20 _ _).inR (jasI hc22 jas0)) hT (fun r30 I29 hc31 hFI29 hT => ?_)
          replace hFI29 := jFr_tr hFI20 hFI29
          refine jOk_mem (fun hI29 => ?_)
          refine rr_istore (i := 4) (ls' := [VR m, VI x1, VI ((I m 2) + 1), VI r21, VI r30]) dX5_readKnownName_77 (Nat.le_of_ble_eq_true rfl) rfl rfl hc31 ?_
          refine r_iload dX5_readKnownName_79 (i := 4) rfl ?_
          refine r_iconst (n := (-1)) dX5_readKnownName_81 ?_
          refine r_icmp_ne (tgt := 92) dX5_readKnownName_82 rfl hc31 ⟨by decide, by decide⟩ (fun hcc => ?_) (fun hcc => ?_)
          · replace hT := hT.1 hcc
            refine r_iload dX5_readKnownName_92 (i := 4) rfl ?_
            exact r_iret dX5_readKnownName_94 rfl hc31 ⟨Nat.zero_le _, Nat.zero_le _⟩ ⟨_, rfl, rfl, hFI29, hT⟩
          · replace hT := hT.2 hcc
            refine r_aload_n dX5_readKnownName_85 rfl (i := 0) rfl ?_
            refine r_iconst (n := 5) dX5_readKnownName_86 ?_
            refine r_iload_n dX5_readKnownName_87 rfl (i := 2) rfl ?_
            refine rr_cVI (a := m) (as := [VI 5, VI ((I m 2) + 1)]) (st := []) dX5_readKnownName_88 mt_X5_fail ml_X5_76 mi_X5_fail rm_X5_readKnownName_X5_fail jz_X5_fail ⟨Nat.zero_le _, Nat.zero_le _⟩ (Nat.le_of_ble_eq_true rfl) (wX5_l hm) (wX5_c hm) (jasI ⟨by decide, by decide⟩ (jasI hc17 jas0)) hT (fun r33 I32 hc34 hFI32 hT => ?_)
            replace hFI32 := jFr_tr hFI29 hFI32
            refine jOk_mem (fun hI32 => ?_)
            refine r_pop dX5_readKnownName_91 rfl ?_
            refine r_iload dX5_readKnownName_92 (i := 4) rfl ?_
            exact r_iret dX5_readKnownName_94 rfl hc31 ⟨Nat.zero_le _, Nat.zero_le _⟩ ⟨_, rfl, rfl, hFI32, hT⟩
        · replace hT := hT.2 hcc
          refine r_iconst (n := (-1)) dX5_readKnownName_60 ?_
          exact r_iret dX5_readKnownName_61 rfl ⟨by decide, by decide⟩ ⟨Nat.zero_le _, Nat.zero_le _⟩ ⟨_, rfl, rfl, hFI20, hT⟩
      · replace hT := hT.2 hcc
        refine r_aload_n dX5_readKnownName_33 rfl (i := 0) rfl ?_
        refine r_iconst (n := 1) dX5_readKnownName_34 ?_
        refine r_aload_n dX5_readKnownName_35 rfl (i := 0) rfl ?_
        refine rr_getI (v := (I m 2) + 1) dX5_readKnownName_36 fg_X5_40 rfl (wX5_l hm) (wX5_s hm) (jr_eq eM16) ?_
        refine rr_cVI (a := m) (as := [VI 1, VI ((I m 2) + 1)]) (st := []) dX5_readKnownName_39 mt_X5_fail ml_X5_76 mi_X5_fail rm_X5_readKnownName_X5_fail jz_X5_fail ⟨Nat.zero_le _, Nat.zero_le _⟩ (Nat.le_of_ble_eq_true rfl) (wX5_l hm) (wX5_c hm) (jasI ⟨by decide, by decide⟩ (jasI hc17 jas0)) hT (fun r36 I35 hc37 hFI35 hT => ?_)
        replace hFI35 := jFr_tr hFM16 hFI35
        refine jOk_mem (fun hI35 => ?_)
        refine r_pop dX5_readKnownName_42 rfl ?_
        refine r_iconst (n := (-1)) dX5_readKnownName_43 ?_
        exact r_iret dX5_readKnownName_44 rfl ⟨by decide, by decide⟩ ⟨Nat.zero_le _, Nat.zero_le _⟩ ⟨_, rfl, rfl, hFI35, hT⟩
    · replace hT := hT.2 hcc
      refine r_bipush (n := 119) dX5_readKnownName_23 (by decide +kernel) ?_
      refine r_goto (tgt := 30) dX5_readKnownName_25 rfl ?_
      refine r_icmp_eq (tgt := 45) dX5_readKnownName_30 rfl hc18 ⟨by decide, by decide⟩ (fun hcc => ?_) (fun hcc => ?_)
      · replace hT := hT.1 hcc
        refine r_aload_n dX5_readKnownName_45 rfl (i := 0) rfl ?_
        refine rr_getI (v := (I m 2) + 1) dX5_readKnownName_46 fg_X5_40 rfl (wX5_l hm) (wX5_s hm) (jr_eq eM16) ?_
        refine rr_istore_n (i := 2) (ls' := [VR m, VI x1, VI ((I m 2) + 1), VN, VN]) dX5_readKnownName_49 rfl (Nat.le_of_ble_eq_true rfl) rfl rfl hc17 ?_
        refine r_aload_n dX5_readKnownName_50 rfl (i := 0) rfl ?_
        refine rr_cVI (a := m) (as := []) (st := []) dX5_readKnownName_51 mt_X5_readName ml_X5_103 mi_X5_readName rm_X5_readKnownName_X5_readName jz_X5_readName ⟨Nat.zero_le _, Nat.zero_le _⟩ (Nat.le_of_ble_eq_true rfl) (wX5_l hm) (wX5_c hm) jas0 hT (fun r39 I38 hc40 hFI38 hT => ?_)
        replace hFI38 := jFr_tr hFM16 hFI38
        refine jOk_mem (fun hI38 => ?_)
        refine rr_istore_n (i := 3) (ls' := [VR m, VI x1, VI ((I m 2) + 1), VI r39, VN]) dX5_readKnownName_54 rfl (Nat.le_of_ble_eq_true rfl) rfl rfl hc40 ?_
        refine r_iload_n dX5_readKnownName_55 rfl (i := 3) rfl ?_
        refine r_iconst (n := (-1)) dX5_readKnownName_56 ?_
        refine r_icmp_ne (tgt := 62) dX5_readKnownName_57 rfl hc40 ⟨by decide, by decide⟩ (fun hcc => ?_) (fun hcc => ?_)
        · replace hT := hT.1 hcc
          refine r_aload_n dX5_readKnownName_62 rfl (i := 0) rfl ?_
          obtain ⟨b41, hc42, hc43, hT⟩ := hT
          refine rr_getM (b := b41) dX5_readKnownName_63 fg_X5_19 rfl rfl (wX5_l hm) (wX5_s hm) hc42 ?_
          refine r_aload_n dX5_readKnownName_66 rfl (i := 0) rfl ?_
          obtain ⟨b44, hc45, hc46, hT⟩ := hT
          refine rr_getM (b := b44) dX5_readKnownName_67 fg_X5_19 rfl rfl (wX5_l hm) (wX5_s hm) hc45 ?_
          refine rr_getI (v := I38 b44 1) dX5_readKnownName_70 fg_X5_35 rfl (wX6_l hc46) (wX6_s hc46) rfl ?_
          refine r_iload_n dX5_readKnownName_73 rfl (i := 3) rfl ?_
          refine rr_cVI (a := b41) (as := [VI (I38 b44 1), VI r39]) (st := []) dX5_readKnownName_74 mt_X6_elementNamed ml_X5_109 mi_X6_elementNamed rm_X5_readKnownName_X6_elementNamed jz_X6_elementNamed ⟨Nat.zero_le _, Nat.zero_le _⟩ (Nat.le_of_ble_eq_true rfl) (wX6_l hc43) (wX6_c hc43) (jasI (hI38 _ _).inR (jasI hc40 jas0)) hT (fun r48 I47 hc49 hFI47 hT => ?_)
          replace hFI47 := jFr_tr hFI38 hFI47
          refine jOk_mem (fun hI47 => ?_)
          refine rr_istore (i := 4) (ls' := [VR m, VI x1, VI ((I m 2) + 1), VI r39, VI r48]) dX5_readKnownName_77 (Nat.le_of_ble_eq_true rfl) rfl rfl hc49 ?_
          refine r_iload dX5_readKnownName_79 (i := 4) rfl ?_
          refine r_iconst (n := (-1)) dX5_readKnownName_81 ?_
          refine r_icmp_ne (tgt := 92) dX5_readKnownName_82 rfl hc49 ⟨by decide, by decide⟩ (fun hcc => ?_) (fun hcc => ?_)
          · replace hT := hT.1 hcc
            refine r_iload dX5_readKnownName_92 (i := 4) rfl ?_
            exact r_iret dX5_readKnownName_94 rfl hc49 ⟨Nat.zero_le _, Nat.zero_le _⟩ ⟨_, rfl, rfl, hFI47, hT⟩
          · replace hT := hT.2 hcc
            refine r_aload_n dX5_readKnownName_85 rfl (i := 0) rfl ?_
            refine r_iconst (n := 5) dX5_readKnownName_86 ?_
            refine r_iload_n dX5_readKnownName_87 rfl (i := 2) rfl ?_
            refine rr_cVI (a := m) (as := [VI 5, VI ((I m 2) + 1)]) (st := []) dX5_readKnownName_88 mt_X5_fail ml_X5_76 mi_X5_fail rm_X5_readKnownName_X5_fail jz_X5_fail ⟨Nat.zero_le _, Nat.zero_le _⟩ (Nat.le_of_ble_eq_true rfl) (wX5_l hm) (wX5_c hm) (jasI ⟨by decide, by decide⟩ (jasI hc17 jas0)) hT (fun r51 I50 hc52 hFI50 hT => ?_)
            replace hFI50 := jFr_tr hFI47 hFI50
            refine jOk_mem (fun hI50 => ?_)
            refine r_pop dX5_readKnownName_91 rfl ?_
            refine r_iload dX5_readKnownName_92 (i := 4) rfl ?_
            exact r_iret dX5_readKnownName_94 rfl hc49 ⟨Nat.zero_le _, Nat.zero_le _⟩ ⟨_, rfl, rfl, hFI50, hT⟩
        · replace hT := hT.2 hcc
          refine r_iconst (n := (-1)) dX5_readKnownName_60 ?_
          exact r_iret dX5_readKnownName_61 rfl ⟨by decide, by decide⟩ ⟨Nat.zero_le _, Nat.zero_le _⟩ ⟨_, rfl, rfl, hFI38, hT⟩
      · replace hT := hT.2 hcc
        refine r_aload_n dX5_readKnownName_33 rfl (i := 0) rfl ?_
        refine r_iconst (n := 1) dX5_readKnownName_34 ?_
        refine r_aload_n dX5_readKnownName_35 rfl (i := 0) rfl ?_
        refine rr_getI (v := (I m 2) + 1) dX5_readKnownName_36 fg_X5_40 rfl (wX5_l hm) (wX5_s hm) (jr_eq eM16) ?_
        refine rr_cVI (a := m) (as := [VI 1, VI ((I m 2) + 1)]) (st := []) dX5_readKnownName_39 mt_X5_fail ml_X5_76 mi_X5_fail rm_X5_readKnownName_X5_fail jz_X5_fail ⟨Nat.zero_le _, Nat.zero_le _⟩ (Nat.le_of_ble_eq_true rfl) (wX5_l hm) (wX5_c hm) (jasI ⟨by decide, by decide⟩ (jasI hc17 jas0)) hT (fun r54 I53 hc55 hFI53 hT => ?_)
        replace hFI53 := jFr_tr hFM16 hFI53
        refine jOk_mem (fun hI53 => ?_)
        refine r_pop dX5_readKnownName_42 rfl ?_
        refine r_iconst (n := (-1)) dX5_readKnownName_43 ?_
        exact r_iret dX5_readKnownName_44 rfl ⟨by decide, by decide⟩ ⟨Nat.zero_le _, Nat.zero_le _⟩ ⟨_, rfl, rfl, hFI53, hT⟩
theorem en_X5_readKnownName {E : jE} {G : jG} {I : jM} {q : Int → jM → Prop} {m : Nat} {x1 : Int} (hm : WX5 G m) (hT : (∀ a j, jRg (G.2.1 a).1 (I a j)) → jIn x1 → ((x1 = 0 → jRI E jB kX5_readName [VR m] G I (fun r2 I1 => ((¬ r2 = (-1) → (∃ b4 : Nat, I1 m 3 = (b4 : Int) ∧ WX6 G b4 ∧ (∃ b7 : Nat, I1 m 3 = (b7 : Int) ∧ WX6 G b7 ∧ jRI E jB kX6_elementNamed [VR b4, VI (I1 b7 1), VI r2] G I1 (fun r11 I10 => ((¬ r11 = (-1) → q r11 I10) ∧ (r11 = (-1) → jRI E jB kX5_fail [VR m, VI 5, VI (I m 2)] G I10 (fun r14 I13 => q r11 I13))))))) ∧ (r2 = (-1) → q (-1) I1)))) ∧ (¬ x1 = 0 → jIn ((I m 2) + 1) ∧ (∀ M16, M16 = jup I m 2 ((I m 2) + 1) → (M16 m 1 ≤ 300) ∧ ((¬ x1 = 3 → (((cnx M16 m) = 110 → jRI E jB kX5_readName [VR m] G M16 (fun r21 I20 => ((¬ r21 = (-1) → (∃ b23 : Nat, I20 m 3 = (b23 : Int) ∧ WX6 G b23 ∧ (∃ b26 : Nat, I20 m 3 = (b26 : Int) ∧ WX6 G b26 ∧ jRI E jB kX6_elementNamed [VR b23, VI (I20 b26 1), VI r21] G I20 (fun r30 I29 => ((¬ r30 = (-1) → q r30 I29) ∧ (r30 = (-1) → jRI E jB kX5_fail [VR m, VI 5, VI ((I m 2) + 1)] G I29 (fun r33 I32 => q r30 I32))))))) ∧ (r21 = (-1) → q (-1) I20)))) ∧ (¬ (cnx M16 m) = 110 → jRI E jB kX5_fail [VR m, VI 1, VI ((I m 2) + 1)] G M16 (fun r36 I35 => q (-1) I35)))) ∧ (x1 = 3 → (((cnx M16 m) = 119 → jRI E jB kX5_readName [VR m] G M16 (fun r39 I38 => ((¬ r39 = (-1) → (∃ b41 : Nat, I38 m 3 = (b41 : Int) ∧ WX6 G b41 ∧ (∃ b44 : Nat, I38 m 3 = (b44 : Int) ∧ WX6 G b44 ∧ jRI E jB kX6_elementNamed [VR b41, VI (I38 b44 1), VI r39] G I38 (fun r48 I47 => ((¬ r48 = (-1) → q r48 I47) ∧ (r48 = (-1) → jRI E jB kX5_fail [VR m, VI 5, VI ((I m 2) + 1)] G I47 (fun r51 I50 => q r48 I50))))))) ∧ (r39 = (-1) → q (-1) I38)))) ∧ (¬ (cnx M16 m) = 119 → jRI E jB kX5_fail [VR m, VI 1, VI ((I m 2) + 1)] G M16 (fun r54 I53 => q (-1) I53))))))))) : jRI E jB kX5_readKnownName [VR m, VI x1] G I q := jRun.of mt_X5_readKnownName.2.2.2 3 rfl (fun _ => st_X5_readKnownName_0 hm hT I (fun _ _ => rfl))
set_option maxRecDepth 20000 in
theorem st_X5_readPart_0 {E : jE} {G : jG} {I : jM} {q : Int → jM → Prop} {m : Nat} {x1 : Int} (hm : WX5 G m) (hT : (∀ a j, jRg (G.2.1 a).1 (I a j)) → jIn x1 → (∃ b1 : Nat, I m 3 = (b1 : Int) ∧ WX6 G b1 ∧ (∃ b4 : Nat, I m 3 = (b4 : Int) ∧ WX6 G b4 ∧ ((0 : Int) ≤ (I b4 1) ∧ ((I b4 1) : Int) < 6) ∧ (∃ b8 : Nat, I m 3 = (b8 : Int) ∧ WX6 G b8 ∧ jIn (((I b8 1) * 6) + (I (b1 + 4) (I b4 1))) ∧ jIn ((I m 2) + 1) ∧ ((¬ (pko x1) = 4 → jRI E jB kX5_readKnownName [VR m, VI (pko x1)] G I (fun r15 I14 => ((¬ r15 = (-1) → (∃ b17 : Nat, I14 m 3 = (b17 : Int) ∧ WX6 G b17 ∧ ((0 : Int) ≤ (((I b8 1) * 6) + (I (b1 + 4) (I b4 1))) ∧ ((((I b8 1) * 6) + (I (b1 + 4) (I b4 1))) : Int) < 36) ∧ (∀ M21, M21 = jup I14 (b17 + 10) (((I b8 1) * 6) + (I (b1 + 4) (I b4 1))) (pko x1) → (∃ b22 : Nat, M21 m 3 = (b22 : Int) ∧ WX6 G b22 ∧ ((0 : Int) ≤ (((I b8 1) * 6) + (I (b1 + 4) (I b4 1))) ∧ ((((I b8 1) * 6) + (I (b1 + 4) (I b4 1))) : Int) < 36) ∧ (∀ M26, M26 = jup M21 (b22 + 11) (((I b8 1) * 6) + (I (b1 + 4) (I b4 1))) r15 → (∃ b27 : Nat, M26 m 3 = (b27 : Int) ∧ WX6 G b27 ∧ ((0 : Int) ≤ (((I b8 1) * 6) + (I (b1 + 4) (I b4 1))) ∧ ((((I b8 1) * 6) + (I (b1 + 4) (I b4 1))) : Int) < 36) ∧ jIn ((M26 m 2) - 1) ∧ (∀ M32, M32 = jup M26 (b27 + 12) (((I b8 1) * 6) + (I (b1 + 4) (I b4 1))) ((M26 m 2) - 1) → (∃ b33 : Nat, M32 m 3 = (b33 : Int) ∧ WX6 G b33 ∧ (∃ b36 : Nat, M32 m 3 = (b36 : Int) ∧ WX6 G b36 ∧ ((0 : Int) ≤ (M32 b36 1) ∧ ((M32 b36 1) : Int) < 6) ∧ jIn ((I (b1 + 4) (I b4 1)) + 1) ∧ (∀ M41, M41 = jup M32 (b33 + 4) (M32 b36 1) ((I (b1 + 4) (I b4 1)) + 1) → q 1 M41)))))))))) ∧ (r15 = (-1) → q 0 I14)))) ∧ ((pko x1) = 4 → jRI E jB kX5_readQuote [VR m] G I (fun r43 I42 => ((¬ r43 = 0 → (∃ b45 : Nat, I42 m 3 = (b45 : Int) ∧ WX6 G b45 ∧ ((0 : Int) ≤ (((I b8 1) * 6) + (I (b1 + 4) (I b4 1))) ∧ ((((I b8 1) * 6) + (I (b1 + 4) (I b4 1))) : Int) < 36) ∧ (∀ M49, M49 = jup I42 (b45 + 10) (((I b8 1) * 6) + (I (b1 + 4) (I b4 1))) (pko x1) → (∃ b50 : Nat, M49 m 3 = (b50 : Int) ∧ WX6 G b50 ∧ ((0 : Int) ≤ (((I b8 1) * 6) + (I (b1 + 4) (I b4 1))) ∧ ((((I b8 1) * 6) + (I (b1 + 4) (I b4 1))) : Int) < 36) ∧ (∀ M54, M54 = jup M49 (b50 + 11) (((I b8 1) * 6) + (I (b1 + 4) (I b4 1))) ((I m 2) + 1) → (∃ b55 : Nat, M54 m 3 = (b55 : Int) ∧ WX6 G b55 ∧ ((0 : Int) ≤ (((I b8 1) * 6) + (I (b1 + 4) (I b4 1))) ∧ ((((I b8 1) * 6) + (I (b1 + 4) (I b4 1))) : Int) < 36) ∧ jIn ((M54 m 2) - 1) ∧ (∀ M60, M60 = jup M54 (b55 + 12) (((I b8 1) * 6) + (I (b1 + 4) (I b4 1))) ((M54 m 2) - 1) → (∃ b61 : Nat, M60 m 3 = (b61 : Int) ∧ WX6 G b61 ∧ (∃ b64 : Nat, M60 m 3 = (b64 : Int) ∧ WX6 G b64 ∧ ((0 : Int) ≤ (M60 b64 1) ∧ ((M60 b64 1) : Int) < 6) ∧ jIn ((I (b1 + 4) (I b4 1)) + 1) ∧ (∀ M69, M69 = jup M60 (b61 + 4) (M60 b64 1) ((I (b1 + 4) (I b4 1)) + 1) → q 1 M69)))))))))) ∧ (r43 = 0 → q 0 I42))))))))) : jOI E jB kX5_readPart 0 [VR m, VI x1, VN, VN, VN, VN, VN] G I q := by
  intro I0 hF
  refine jOk_mem (fun hI => ?_)
  refine jOk_in (i := 1) rfl (fun hx1 => ?_)
  replace hT := hT hI hx1
  refine r_aload_n dX5_readPart_0 rfl (i := 0) rfl ?_
  obtain ⟨b1, hc2, hc3, hT⟩ := hT
  refine rr_getM (b := b1) dX5_readPart_1 fg_X5_19 rfl rfl (wX5_l hm) (wX5_s hm) hc2 ?_
  refine rr_getR (b := (b1 + 4)) dX5_readPart_4 fg_X5_87 rfl rfl (wX6_l hc3) (wX6_s hc3) (wX6_r4 hc3) ?_
  refine r_aload_n dX5_readPart_7 rfl (i := 0) rfl ?_
  obtain ⟨b4, hc5, hc6, hT⟩ := hT
  refine rr_getM (b := b4) dX5_readPart_8 fg_X5_19 rfl rfl (wX5_l hm) (wX5_s hm) hc5 ?_
  refine rr_getI (v := I b4 1) dX5_readPart_11 fg_X5_35 rfl (wX6_l hc6) (wX6_s hc6) rfl ?_
  obtain ⟨hc7, hT⟩ := hT
  refine rr_iaload (v := I (b1 + 4) (I b4 1)) dX5_readPart_14 (wX6_l4 hc3) (wX6_a4 hc3) (by decide) hc7 rfl ?_
  refine rr_istore_n (i := 2) (ls' := [VR m, VI x1, VI (I (b1 + 4) (I b4 1)), VN, VN, VN, VN]) dX5_readPart_15 rfl (Nat.le_of_ble_eq_true rfl) rfl rfl (hI _ _).inR ?_
  refine r_aload_n dX5_readPart_16 rfl (i := 0) rfl ?_
  obtain ⟨b8, hc9, hc10, hT⟩ := hT
  refine rr_getM (b := b8) dX5_readPart_17 fg_X5_19 rfl rfl (wX5_l hm) (wX5_s hm) hc9 ?_
  refine rr_getI (v := I b8 1) dX5_readPart_20 fg_X5_35 rfl (wX6_l hc10) (wX6_s hc10) rfl ?_
  refine r_bipush (n := 6) dX5_readPart_23 (by decide +kernel) ?_
  refine r_imul dX5_readPart_25 ?_
  refine r_iload_n dX5_readPart_26 rfl (i := 2) rfl ?_
  refine r_iadd dX5_readPart_27 ?_
  obtain ⟨hc11, hT⟩ := hT
  refine rr_istore_n (i := 3) (ls' := [VR m, VI x1, VI (I (b1 + 4) (I b4 1)), VI (((I b8 1) * 6) + (I (b1 + 4) (I b4 1))), VN, VN, VN]) dX5_readPart_28 rfl (Nat.le_of_ble_eq_true rfl) rfl rfl hc11 ?_
  refine r_aload_n dX5_readPart_29 rfl (i := 0) rfl ?_
  refine rr_getI (v := I m 2) dX5_readPart_30 fg_X5_40 rfl (wX5_l hm) (wX5_s hm) rfl ?_
  refine rr_istore (i := 4) (ls' := [VR m, VI x1, VI (I (b1 + 4) (I b4 1)), VI (((I b8 1) * 6) + (I (b1 + 4) (I b4 1))), VI (I m 2), VN, VN]) dX5_readPart_33 (Nat.le_of_ble_eq_true rfl) rfl rfl (hI _ _).inR ?_
  refine r_iload_n dX5_readPart_35 rfl (i := 1) rfl ?_
  refine rr_pSI (A := jB) (v := pko x1) (as := [VI x1]) (st := []) dX5_readPart_36 mt_X5_partKindOf ml_X5_127 ms_X5_partKindOf rm_X5_readPart_X5_partKindOf jz_X5_partKindOf ⟨Nat.zero_le _, Nat.zero_le _⟩ (Nat.le_of_ble_eq_true rfl) (jasI hx1 jas0) sp_X5_partKindOf (fun hc12 => ?_)
  refine rr_istore (i := 5) (ls' := [VR m, VI x1, VI (I (b1 + 4) (I b4 1)), VI (((I b8 1) * 6) + (I (b1 + 4) (I b4 1))), VI (I m 2), VI (pko x1), VN]) dX5_readPart_39 (Nat.le_of_ble_eq_true rfl) rfl rfl hc12 ?_
  refine r_iload dX5_readPart_41 (i := 4) rfl ?_
  refine r_iconst (n := 1) dX5_readPart_43 ?_
  refine r_iadd dX5_readPart_44 ?_
  obtain ⟨hc13, hT⟩ := hT
  refine rr_istore (i := 6) (ls' := [VR m, VI x1, VI (I (b1 + 4) (I b4 1)), VI (((I b8 1) * 6) + (I (b1 + 4) (I b4 1))), VI (I m 2), VI (pko x1), VI ((I m 2) + 1)]) dX5_readPart_45 (Nat.le_of_ble_eq_true rfl) rfl rfl hc13 ?_
  refine r_iload dX5_readPart_47 (i := 5) rfl ?_
  refine r_iconst (n := 4) dX5_readPart_49 ?_
  refine r_icmp_ne (tgt := 62) dX5_readPart_50 rfl hc12 ⟨by decide, by decide⟩ (fun hcc => ?_) (fun hcc => ?_)
  · replace hT := hT.1 hcc
    refine r_aload_n dX5_readPart_62 rfl (i := 0) rfl ?_
    refine r_iload dX5_readPart_63 (i := 5) rfl ?_
    refine rr_cVI (a := m) (as := [VI (pko x1)]) (st := []) dX5_readPart_65 mt_X5_readKnownName ml_X5_130 mi_X5_readKnownName rm_X5_readPart_X5_readKnownName jz_X5_readKnownName ⟨Nat.zero_le _, Nat.zero_le _⟩ (Nat.le_of_ble_eq_true rfl) (wX5_l hm) (wX5_c hm) (jasI hc12 jas0) hT (fun r15 I14 hc16 hFI14 hT => ?_)
    replace hFI14 := jFr_tr hF hFI14
    refine jOk_mem (fun hI14 => ?_)
    refine rr_istore (i := 6) (ls' := [VR m, VI x1, VI (I (b1 + 4) (I b4 1)), VI (((I b8 1) * 6) + (I (b1 + 4) (I b4 1))), VI (I m 2), VI (pko x1), VI r15]) dX5_readPart_68 (Nat.le_of_ble_eq_true rfl) rfl rfl hc16 ?_
    refine r_iload dX5_readPart_70 (i := 6) rfl ?_
    refine r_iconst (n := (-1)) dX5_readPart_72 ?_
    refine r_icmp_ne (tgt := 78) dX5_readPart_73 rfl hc16 ⟨by decide, by decide⟩ (fun hcc => ?_) (fun hcc => ?_)
    · replace hT := hT.1 hcc
      refine r_aload_n dX5_readPart_78 rfl (i := 0) rfl ?_
      obtain ⟨b17, hc18, hc19, hT⟩ := hT
      refine rr_getM (b := b17) dX5_readPart_79 fg_X5_19 rfl rfl (wX5_l hm) (wX5_s hm) hc18 ?_
      refine rr_getR (b := (b17 + 10)) dX5_readPart_82 fg_X5_133 rfl rfl (wX6_l hc19) (wX6_s hc19) (wX6_r10 hc19) ?_
      refine r_iload_n dX5_readPart_85 rfl (i := 3) rfl ?_
      refine r_iload dX5_readPart_86 (i := 5) rfl ?_
      obtain ⟨hc20, hT⟩ := hT
      refine rr_iastore dX5_readPart_88 (wX6_l10 hc19) (wX6_a10 hc19) (by decide) hc20 hc12 (fun M21 eM21 => ?_)
      have hFM21 := jFr_up hFI14 eM21 (wX6_f hc19 10 (by decide))
      replace hT := hT M21 eM21
      refine jOk_mem (fun hIM21 => ?_)
      refine r_aload_n dX5_readPart_89 rfl (i := 0) rfl ?_
      obtain ⟨b22, hc23, hc24, hT⟩ := hT
      refine rr_getM (b := b22) dX5_readPart_90 fg_X5_19 rfl rfl (wX5_l hm) (wX5_s hm) hc23 ?_
      refine rr_getR (b := (b22 + 11)) dX5_readPart_93 fg_X5_136 rfl rfl (wX6_l hc24) (wX6_s hc24) (wX6_r11 hc24) ?_
      refine r_iload_n dX5_readPart_96 rfl (i := 3) rfl ?_
      refine r_iload dX5_readPart_97 (i := 6) rfl ?_
      obtain ⟨hc25, hT⟩ := hT
      refine rr_iastore dX5_readPart_99 (wX6_l11 hc24) (wX6_a11 hc24) (by decide) hc25 hc16 (fun M26 eM26 => ?_)
      have hFM26 := jFr_up hFM21 eM26 (wX6_f hc24 11 (by decide))
      replace hT := hT M26 eM26
      refine jOk_mem (fun hIM26 => ?_)
      refine r_aload_n dX5_readPart_100 rfl (i := 0) rfl ?_
      obtain ⟨b27, hc28, hc29, hT⟩ := hT
      refine rr_getM (b := b27) dX5_readPart_101 fg_X5_19 rfl rfl (wX5_l hm) (wX5_s hm) hc28 ?_
      refine rr_getR (b := (b27 + 12)) dX5_readPart_104 fg_X5_139 rfl rfl (wX6_l hc29) (wX6_s hc29) (wX6_r12 hc29) ?_
      refine r_iload_n dX5_readPart_107 rfl (i := 3) rfl ?_
      refine r_aload_n dX5_readPart_108 rfl (i := 0) rfl ?_
      refine rr_getI (v := M26 m 2) dX5_readPart_109 fg_X5_40 rfl (wX5_l hm) (wX5_s hm) rfl ?_
      refine r_iconst (n := 1) dX5_readPart_112 ?_
      refine r_isub dX5_readPart_113 ?_
      obtain ⟨hc30, hT⟩ := hT
      obtain ⟨hc31, hT⟩ := hT
      refine rr_iastore dX5_readPart_114 (wX6_l12 hc29) (wX6_a12 hc29) (by decide) hc30 hc31 (fun M32 eM32 => ?_)
      have hFM32 := jFr_up hFM26 eM32 (wX6_f hc29 12 (by decide))
      replace hT := hT M32 eM32
      refine jOk_mem (fun hIM32 => ?_)
      refine r_aload_n dX5_readPart_115 rfl (i := 0) rfl ?_
      obtain ⟨b33, hc34, hc35, hT⟩ := hT
      refine rr_getM (b := b33) dX5_readPart_116 fg_X5_19 rfl rfl (wX5_l hm) (wX5_s hm) hc34 ?_
      refine rr_getR (b := (b33 + 4)) dX5_readPart_119 fg_X5_87 rfl rfl (wX6_l hc35) (wX6_s hc35) (wX6_r4 hc35) ?_
      refine r_aload_n dX5_readPart_122 rfl (i := 0) rfl ?_
      obtain ⟨b36, hc37, hc38, hT⟩ := hT
      refine rr_getM (b := b36) dX5_readPart_123 fg_X5_19 rfl rfl (wX5_l hm) (wX5_s hm) hc37 ?_
      refine rr_getI (v := M32 b36 1) dX5_readPart_126 fg_X5_35 rfl (wX6_l hc38) (wX6_s hc38) rfl ?_
      refine r_iload_n dX5_readPart_129 rfl (i := 2) rfl ?_
      refine r_iconst (n := 1) dX5_readPart_130 ?_
      refine r_iadd dX5_readPart_131 ?_
      obtain ⟨hc39, hT⟩ := hT
      obtain ⟨hc40, hT⟩ := hT
      refine rr_iastore dX5_readPart_132 (wX6_l4 hc35) (wX6_a4 hc35) (by decide) hc39 hc40 (fun M41 eM41 => ?_)
      have hFM41 := jFr_up hFM32 eM41 (wX6_f hc35 4 (by decide))
      replace hT := hT M41 eM41
      refine jOk_mem (fun hIM41 => ?_)
      refine r_iconst (n := 1) dX5_readPart_133 ?_
      exact r_zret dX5_readPart_134 rfl ⟨by decide, by decide⟩ ⟨Nat.zero_le _, Nat.zero_le _⟩ ⟨_, rfl, rfl, hFM41, hT⟩
    · replace hT := hT.2 hcc
      refine r_iconst (n := 0) dX5_readPart_76 ?_
      exact r_zret dX5_readPart_77 rfl ⟨by decide, by decide⟩ ⟨Nat.zero_le _, Nat.zero_le _⟩ ⟨_, rfl, rfl, hFI14, hT⟩
  · replace hT := hT.2 hcc
    refine r_aload_n dX5_readPart_53 rfl (i := 0) rfl ?_
    refine rr_cVI (a := m) (as := []) (st := []) dX5_readPart_54 mt_X5_readQuote ml_X5_97 mi_X5_readQuote rm_X5_readPart_X5_readQuote jz_X5_readQuote ⟨Nat.zero_le _, Nat.zero_le _⟩ (Nat.le_of_ble_eq_true rfl) (wX5_l hm) (wX5_c hm) jas0 hT (fun r43 I42 hc44 hFI42 hT => ?_)
    replace hFI42 := jFr_tr hF hFI42
    refine jOk_mem (fun hI42 => ?_)
    refine r_if_ne (tgt := 78) dX5_readPart_57 rfl hc44 (fun hcc => ?_) (fun hcc => ?_)
    · replace hT := hT.1 hcc
      refine r_aload_n dX5_readPart_78 rfl (i := 0) rfl ?_
      obtain ⟨b45, hc46, hc47, hT⟩ := hT
      refine rr_getM (b := b45) dX5_readPart_79 fg_X5_19 rfl rfl (wX5_l hm) (wX5_s hm) hc46 ?_
      refine rr_getR (b := (b45 + 10)) dX5_readPart_82 fg_X5_133 rfl rfl (wX6_l hc47) (wX6_s hc47) (wX6_r10 hc47) ?_
      refine r_iload_n dX5_readPart_85 rfl (i := 3) rfl ?_
      refine r_iload dX5_readPart_86 (i := 5) rfl ?_
      obtain ⟨hc48, hT⟩ := hT
      refine rr_iastore dX5_readPart_88 (wX6_l10 hc47) (wX6_a10 hc47) (by decide) hc48 hc12 (fun M49 eM49 => ?_)
      have hFM49 := jFr_up hFI42 eM49 (wX6_f hc47 10 (by decide))
      replace hT := hT M49 eM49
      refine jOk_mem (fun hIM49 => ?_)
      refine r_aload_n dX5_readPart_89 rfl (i := 0) rfl ?_
      obtain ⟨b50, hc51, hc52, hT⟩ := hT
      refine rr_getM (b := b50) dX5_readPart_90 fg_X5_19 rfl rfl (wX5_l hm) (wX5_s hm) hc51 ?_
      refine rr_getR (b := (b50 + 11)) dX5_readPart_93 fg_X5_136 rfl rfl (wX6_l hc52) (wX6_s hc52) (wX6_r11 hc52) ?_
      refine r_iload_n dX5_readPart_96 rfl (i := 3) rfl ?_
      refine r_iload dX5_readPart_97 (i := 6) rfl ?_
      obtain ⟨hc53, hT⟩ := hT
      refine rr_iastore dX5_readPart_99 (wX6_l11 hc52) (wX6_a11 hc52) (by decide) hc53 hc13 (fun M54 eM54 => ?_)
      have hFM54 := jFr_up hFM49 eM54 (wX6_f hc52 11 (by decide))
      replace hT := hT M54 eM54
      refine jOk_mem (fun hIM54 => ?_)
      refine r_aload_n dX5_readPart_100 rfl (i := 0) rfl ?_
      obtain ⟨b55, hc56, hc57, hT⟩ := hT
      refine rr_getM (b := b55) dX5_readPart_101 fg_X5_19 rfl rfl (wX5_l hm) (wX5_s hm) hc56 ?_
      refine rr_getR (b := (b55 + 12)) dX5_readPart_104 fg_X5_139 rfl rfl (wX6_l hc57) (wX6_s hc57) (wX6_r12 hc57) ?_
      refine r_iload_n dX5_readPart_107 rfl (i := 3) rfl ?_
      refine r_aload_n dX5_readPart_108 rfl (i := 0) rfl ?_
      refine rr_getI (v := M54 m 2) dX5_readPart_109 fg_X5_40 rfl (wX5_l hm) (wX5_s hm) rfl ?_
      refine r_iconst (n := 1) dX5_readPart_112 ?_
      refine r_isub dX5_readPart_113 ?_
      obtain ⟨hc58, hT⟩ := hT
      obtain ⟨hc59, hT⟩ := hT
      refine rr_iastore dX5_readPart_114 (wX6_l12 hc57) (wX6_a12 hc57) (by decide) hc58 hc59 (fun M60 eM60 => ?_)
      have hFM60 := jFr_up hFM54 eM60 (wX6_f hc57 12 (by decide))
      replace hT := hT M60 eM60
      refine jOk_mem (fun hIM60 => ?_)
      refine r_aload_n dX5_readPart_115 rfl (i := 0) rfl ?_
      obtain ⟨b61, hc62, hc63, hT⟩ := hT
      refine rr_getM (b := b61) dX5_readPart_116 fg_X5_19 rfl rfl (wX5_l hm) (wX5_s hm) hc62 ?_
      refine rr_getR (b := (b61 + 4)) dX5_readPart_119 fg_X5_87 rfl rfl (wX6_l hc63) (wX6_s hc63) (wX6_r4 hc63) ?_
      refine r_aload_n dX5_readPart_122 rfl (i := 0) rfl ?_
      obtain ⟨b64, hc65, hc66, hT⟩ := hT
      refine rr_getM (b := b64) dX5_readPart_123 fg_X5_19 rfl rfl (wX5_l hm) (wX5_s hm) hc65 ?_
      refine rr_getI (v := M60 b64 1) dX5_readPart_126 fg_X5_35 rfl (wX6_l hc66) (wX6_s hc66) rfl ?_
      refine r_iload_n dX5_readPart_129 rfl (i := 2) rfl ?_
      refine r_iconst (n := 1) dX5_readPart_130 ?_
      refine r_iadd dX5_readPart_131 ?_
      obtain ⟨hc67, hT⟩ := hT
      obtain ⟨hc68, hT⟩ := hT
      refine rr_iastore dX5_readPart_132 (wX6_l4 hc63) (wX6_a4 hc63) (by decide) hc67 hc68 (fun M69 eM69 => ?_)
      have hFM69 := jFr_up hFM60 eM69 (wX6_f hc63 4 (by decide))
      replace hT := hT M69 eM69
      refine jOk_mem (fun hIM69 => ?_)
      refine r_iconst (n := 1) dX5_readPart_133 ?_
      exact r_zret dX5_readPart_134 rfl ⟨by decide, by decide⟩ ⟨Nat.zero_le _, Nat.zero_le _⟩ ⟨_, rfl, rfl, hFM69, hT⟩
    · replace hT := hT.2 hcc
      refine r_iconst (n := 0) dX5_readPart_60 ?_
      exact r_zret dX5_readPart_61 rfl ⟨by decide, by decide⟩ ⟨Nat.zero_le _, Nat.zero_le _⟩ ⟨_, rfl, rfl, hFI42, hT⟩
theorem en_X5_readPart {E : jE} {G : jG} {I : jM} {q : Int → jM → Prop} {m : Nat} {x1 : Int} (hm : WX5 G m) (hT : (∀ a j, jRg (G.2.1 a).1 (I a j)) → jIn x1 → (∃ b1 : Nat, I m 3 = (b1 : Int) ∧ WX6 G b1 ∧ (∃ b4 : Nat, I m 3 = (b4 : Int) ∧ WX6 G b4 ∧ ((0 : Int) ≤ (I b4 1) ∧ ((I b4 1) : Int) < 6) ∧ (∃ b8 : Nat, I m 3 = (b8 : Int) ∧ WX6 G b8 ∧ jIn (((I b8 1) * 6) + (I (b1 + 4) (I b4 1))) ∧ jIn ((I m 2) + 1) ∧ ((¬ (pko x1) = 4 → jRI E jB kX5_readKnownName [VR m, VI (pko x1)] G I (fun r15 I14 => ((¬ r15 = (-1) → (∃ b17 : Nat, I14 m 3 = (b17 : Int) ∧ WX6 G b17 ∧ ((0 : Int) ≤ (((I b8 1) * 6) + (I (b1 + 4) (I b4 1))) ∧ ((((I b8 1) * 6) + (I (b1 + 4) (I b4 1))) : Int) < 36) ∧ (∀ M21, M21 = jup I14 (b17 + 10) (((I b8 1) * 6) + (I (b1 + 4) (I b4 1))) (pko x1) → (∃ b22 : Nat, M21 m 3 = (b22 : Int) ∧ WX6 G b22 ∧ ((0 : Int) ≤ (((I b8 1) * 6) + (I (b1 + 4) (I b4 1))) ∧ ((((I b8 1) * 6) + (I (b1 + 4) (I b4 1))) : Int) < 36) ∧ (∀ M26, M26 = jup M21 (b22 + 11) (((I b8 1) * 6) + (I (b1 + 4) (I b4 1))) r15 → (∃ b27 : Nat, M26 m 3 = (b27 : Int) ∧ WX6 G b27 ∧ ((0 : Int) ≤ (((I b8 1) * 6) + (I (b1 + 4) (I b4 1))) ∧ ((((I b8 1) * 6) + (I (b1 + 4) (I b4 1))) : Int) < 36) ∧ jIn ((M26 m 2) - 1) ∧ (∀ M32, M32 = jup M26 (b27 + 12) (((I b8 1) * 6) + (I (b1 + 4) (I b4 1))) ((M26 m 2) - 1) → (∃ b33 : Nat, M32 m 3 = (b33 : Int) ∧ WX6 G b33 ∧ (∃ b36 : Nat, M32 m 3 = (b36 : Int) ∧ WX6 G b36 ∧ ((0 : Int) ≤ (M32 b36 1) ∧ ((M32 b36 1) : Int) < 6) ∧ jIn ((I (b1 + 4) (I b4 1)) + 1) ∧ (∀ M41, M41 = jup M32 (b33 + 4) (M32 b36 1) ((I (b1 + 4) (I b4 1)) + 1) → q 1 M41)))))))))) ∧ (r15 = (-1) → q 0 I14)))) ∧ ((pko x1) = 4 → jRI E jB kX5_readQuote [VR m] G I (fun r43 I42 => ((¬ r43 = 0 → (∃ b45 : Nat, I42 m 3 = (b45 : Int) ∧ WX6 G b45 ∧ ((0 : Int) ≤ (((I b8 1) * 6) + (I (b1 + 4) (I b4 1))) ∧ ((((I b8 1) * 6) + (I (b1 + 4) (I b4 1))) : Int) < 36) ∧ (∀ M49, M49 = jup I42 (b45 + 10) (((I b8 1) * 6) + (I (b1 + 4) (I b4 1))) (pko x1) → (∃ b50 : Nat, M49 m 3 = (b50 : Int) ∧ WX6 G b50 ∧ ((0 : Int) ≤ (((I b8 1) * 6) + (I (b1 + 4) (I b4 1))) ∧ ((((I b8 1) * 6) + (I (b1 + 4) (I b4 1))) : Int) < 36) ∧ (∀ M54, M54 = jup M49 (b50 + 11) (((I b8 1) * 6) + (I (b1 + 4) (I b4 1))) ((I m 2) + 1) → (∃ b55 : Nat, M54 m 3 = (b55 : Int) ∧ WX6 G b55 ∧ ((0 : Int) ≤ (((I b8 1) * 6) + (I (b1 + 4) (I b4 1))) ∧ ((((I b8 1) * 6) + (I (b1 + 4) (I b4 1))) : Int) < 36) ∧ jIn ((M54 m 2) - 1) ∧ (∀ M60, M60 = jup M54 (b55 + 12) (((I b8 1) * 6) + (I (b1 + 4) (I b4 1))) ((M54 m 2) - 1) → (∃ b61 : Nat, M60 m 3 = (b61 : Int) ∧ WX6 G b61 ∧ (∃ b64 : Nat, M60 m 3 = (b64 : Int) ∧ WX6 G b64 ∧ ((0 : Int) ≤ (M60 b64 1) ∧ ((M60 b64 1) : Int) < 6) ∧ jIn ((I (b1 + 4) (I b4 1)) + 1) ∧ (∀ M69, M69 = jup M60 (b61 + 4) (M60 b64 1) ((I (b1 + 4) (I b4 1)) + 1) → q 1 M69)))))))))) ∧ (r43 = 0 → q 0 I42))))))))) : jRI E jB kX5_readPart [VR m, VI x1] G I q := jRun.of mt_X5_readPart.2.2.2 5 rfl (fun _ => st_X5_readPart_0 hm hT I (fun _ _ => rfl))
set_option maxRecDepth 20000 in
theorem st_X5_readParts_2 {E : jE} {G : jG} {I : jM} {q : Int → jM → Prop} {m : Nat} {x1 : Int} (hm : WX5 G m) (hT : (∀ a j, jRg (G.2.1 a).1 (I a j)) → jIn x1 → ((6 < x1 → q 0 I) ∧ (¬ 6 < x1 → (I m 1 ≤ 300) ∧ (((cnx I m) = (-1) → q 1 I) ∧ (¬ (cnx I m) = (-1) → ((¬ (cnx I m) = 59 → (((isNs (cnx I m)) → ((¬ x1 = 6 → jRI E jB kX5_readPart [VR m, VI (cnx I m)] G I (fun r5 I4 => ((¬ r5 = 0 → jIn (x1 + 1) ∧ jOI E jB kX5_readParts 2 [VR m, VI (x1 + 1), VN] G I4 q) ∧ (r5 = 0 → q 0 I4)))) ∧ (x1 = 6 → jRI E jB kX5_fail [VR m, VI 4, VI (I m 2)] G I (fun r9 I8 => (0 ≤ r9 ∧ r9 ≤ 1) ∧ q r9 I8)))) ∧ (¬ (isNs (cnx I m)) → (((cnx I m) = 43 → ((¬ x1 = 6 → jRI E jB kX5_readPart [VR m, VI (cnx I m)] G I (fun r13 I12 => ((¬ r13 = 0 → jIn (x1 + 1) ∧ jOI E jB kX5_readParts 2 [VR m, VI (x1 + 1), VN] G I12 q) ∧ (r13 = 0 → q 0 I12)))) ∧ (x1 = 6 → jRI E jB kX5_fail [VR m, VI 4, VI (I m 2)] G I (fun r17 I16 => (0 ≤ r17 ∧ r17 ≤ 1) ∧ q r17 I16)))) ∧ (¬ (cnx I m) = 43 → (((cnx I m) = 45 → ((¬ x1 = 6 → jRI E jB kX5_readPart [VR m, VI (cnx I m)] G I (fun r21 I20 => ((¬ r21 = 0 → jIn (x1 + 1) ∧ jOI E jB kX5_readParts 2 [VR m, VI (x1 + 1), VN] G I20 q) ∧ (r21 = 0 → q 0 I20)))) ∧ (x1 = 6 → jRI E jB kX5_fail [VR m, VI 4, VI (I m 2)] G I (fun r25 I24 => (0 ≤ r25 ∧ r25 ≤ 1) ∧ q r25 I24)))) ∧ (¬ (cnx I m) = 45 → (((cnx I m) = 126 → ((¬ x1 = 6 → jRI E jB kX5_readPart [VR m, VI (cnx I m)] G I (fun r29 I28 => ((¬ r29 = 0 → jIn (x1 + 1) ∧ jOI E jB kX5_readParts 2 [VR m, VI (x1 + 1), VN] G I28 q) ∧ (r29 = 0 → q 0 I28)))) ∧ (x1 = 6 → jRI E jB kX5_fail [VR m, VI 4, VI (I m 2)] G I (fun r33 I32 => (0 ≤ r33 ∧ r33 ≤ 1) ∧ q r33 I32)))) ∧ (¬ (cnx I m) = 126 → (((cnx I m) = 39 → ((¬ x1 = 6 → jRI E jB kX5_readPart [VR m, VI (cnx I m)] G I (fun r37 I36 => ((¬ r37 = 0 → jIn (x1 + 1) ∧ jOI E jB kX5_readParts 2 [VR m, VI (x1 + 1), VN] G I36 q) ∧ (r37 = 0 → q 0 I36)))) ∧ (x1 = 6 → jRI E jB kX5_fail [VR m, VI 4, VI (I m 2)] G I (fun r41 I40 => (0 ≤ r41 ∧ r41 ≤ 1) ∧ q r41 I40)))) ∧ (¬ (cnx I m) = 39 → jRI E jB kX5_fail [VR m, VI 1, VI (I m 2)] G I (fun r45 I44 => (0 ≤ r45 ∧ r45 ≤ 1) ∧ q r45 I44)))))))))))) ∧ ((cnx I m) = 59 → q 1 I))))))) : jOI E jB kX5_readParts 2 [VR m, VI x1, VN] G I q := by
  intro I0 hF
  refine jOk_mem (fun hI => ?_)
  refine jOk_in (i := 1) rfl (fun hx1 => ?_)
  replace hT := hT hI hx1
  refine r_iload_n dX5_readParts_2 rfl (i := 1) rfl ?_
  refine r_bipush (n := 6) dX5_readParts_3 (by decide +kernel) ?_
  refine r_icmp_gt (tgt := 99) dX5_readParts_5 rfl hx1 ⟨by decide, by decide⟩ (fun hcc => ?_) (fun hcc => ?_)
  · replace hT := hT.1 hcc
    refine r_iconst (n := 0) dX5_readParts_99 ?_
    exact r_zret dX5_readParts_100 rfl ⟨by decide, by decide⟩ ⟨Nat.zero_le _, Nat.zero_le _⟩ ⟨_, rfl, rfl, hF, hT⟩
  · replace hT := hT.2 hcc
    refine r_aload_n dX5_readParts_8 rfl (i := 0) rfl ?_
    obtain ⟨hc2, hT⟩ := hT
    refine rr_pVI (A := jB) (v := cnx I m) (a := m) (as := []) (st := []) dX5_readParts_9 mt_X5_peek ml_X5_68 mi_X5_peek rm_X5_readParts_X5_peek jz_X5_peek ⟨Nat.zero_le _, Nat.zero_le _⟩ (Nat.le_of_ble_eq_true rfl) (wX5_l hm) (wX5_c hm) jas0 ((sp_X5_peek hm) hc2) (fun hc1 => ?_)
    refine rr_istore_n (i := 2) (ls' := [VR m, VI x1, VI (cnx I m)]) dX5_readParts_12 rfl (Nat.le_of_ble_eq_true rfl) rfl rfl hc1 ?_
    refine r_iload_n dX5_readParts_13 rfl (i := 2) rfl ?_
    refine r_iconst (n := (-1)) dX5_readParts_14 ?_
    refine r_icmp_eq (tgt := 24) dX5_readParts_15 rfl hc1 ⟨by decide, by decide⟩ (fun hcc => ?_) (fun hcc => ?_)
    · replace hT := hT.1 hcc
      refine r_iconst (n := 1) dX5_readParts_24 ?_
      exact r_zret dX5_readParts_25 rfl ⟨by decide, by decide⟩ ⟨Nat.zero_le _, Nat.zero_le _⟩ ⟨_, rfl, rfl, hF, hT⟩
    · replace hT := hT.2 hcc
      refine r_iload_n dX5_readParts_18 rfl (i := 2) rfl ?_
      refine r_bipush (n := 59) dX5_readParts_19 (by decide +kernel) ?_
      refine r_icmp_ne (tgt := 26) dX5_readParts_21 rfl hc1 ⟨by decide, by decide⟩ (fun hcc => ?_) (fun hcc => ?_)
      · replace hT := hT.1 hcc
        refine r_iload_n dX5_readParts_26 rfl (i := 2) rfl ?_
        refine rr_pSI (A := jB) (v := jI (isNs (cnx I m))) (as := [VI (cnx I m)]) (st := []) dX5_readParts_27 mt_X5_isNamedSort ml_X5_90 ms_X5_isNamedSort rm_X5_readParts_X5_isNamedSort jz_X5_isNamedSort ⟨Nat.zero_le _, Nat.zero_le _⟩ (Nat.le_of_ble_eq_true rfl) (jasI hc1 jas0) sp_X5_isNamedSort (fun hc3 => ?_)
        refine r_if_ne (tgt := 67) dX5_readParts_30 rfl hc3 (fun hcc => ?_) (fun hcc => ?_)
        · replace hT := hT.1 (jI_p hcc)
          refine r_iload_n dX5_readParts_67 rfl (i := 1) rfl ?_
          refine r_bipush (n := 6) dX5_readParts_68 (by decide +kernel) ?_
          refine r_icmp_ne (tgt := 83) dX5_readParts_70 rfl hx1 ⟨by decide, by decide⟩ (fun hcc => ?_) (fun hcc => ?_)
          · replace hT := hT.1 hcc
            refine r_aload_n dX5_readParts_83 rfl (i := 0) rfl ?_
            refine r_iload_n dX5_readParts_84 rfl (i := 2) rfl ?_
            refine rr_cVI (a := m) (as := [VI (cnx I m)]) (st := []) dX5_readParts_85 mt_X5_readPart ml_X5_124 mi_X5_readPart rm_X5_readParts_X5_readPart jz_X5_readPart ⟨Nat.zero_le _, Nat.zero_le _⟩ (Nat.le_of_ble_eq_true rfl) (wX5_l hm) (wX5_c hm) (jasI hc1 jas0) hT (fun r5 I4 hc6 hFI4 hT => ?_)
            replace hFI4 := jFr_tr hF hFI4
            refine jOk_mem (fun hI4 => ?_)
            refine r_if_ne (tgt := 93) dX5_readParts_88 rfl hc6 (fun hcc => ?_) (fun hcc => ?_)
            · replace hT := hT.1 hcc
              obtain ⟨hc7, hT⟩ := hT
              refine rr_iinc (i := 1) (ls' := [VR m, VI (x1 + 1), VI (cnx I m)]) dX5_readParts_93 rfl (Nat.le_of_ble_eq_true rfl) rfl rfl hc7 ?_
              refine r_goto (tgt := 2) dX5_readParts_96 rfl ?_
              exact jOk_le (ls' := [VR m, VI (x1 + 1), VN]) ⟨Or.inr rfl, Or.inr rfl, Or.inl rfl, trivial⟩ (hT I0 hFI4)
            · replace hT := hT.2 hcc
              refine r_iconst (n := 0) dX5_readParts_91 ?_
              exact r_zret dX5_readParts_92 rfl ⟨by decide, by decide⟩ ⟨Nat.zero_le _, Nat.zero_le _⟩ ⟨_, rfl, rfl, hFI4, hT⟩
          · replace hT := hT.2 hcc
            refine r_aload_n dX5_readParts_73 rfl (i := 0) rfl ?_
            refine r_iconst (n := 4) dX5_readParts_74 ?_
            refine r_aload_n dX5_readParts_75 rfl (i := 0) rfl ?_
            refine rr_getI (v := I m 2) dX5_readParts_76 fg_X5_40 rfl (wX5_l hm) (wX5_s hm) rfl ?_
            refine rr_cVI (a := m) (as := [VI 4, VI (I m 2)]) (st := []) dX5_readParts_79 mt_X5_fail ml_X5_76 mi_X5_fail rm_X5_readParts_X5_fail jz_X5_fail ⟨Nat.zero_le _, Nat.zero_le _⟩ (Nat.le_of_ble_eq_true rfl) (wX5_l hm) (wX5_c hm) (jasI ⟨by decide, by decide⟩ (jasI (hI _ _).inR jas0)) hT (fun r9 I8 hc10 hFI8 hT => ?_)
            replace hFI8 := jFr_tr hF hFI8
            refine jOk_mem (fun hI8 => ?_)
            obtain ⟨hc11, hT⟩ := hT
            exact r_zret dX5_readParts_82 rfl hc11 ⟨Nat.zero_le _, Nat.zero_le _⟩ ⟨_, rfl, rfl, hFI8, hT⟩
        · replace hT := hT.2 (jI_n hcc)
          refine r_iload_n dX5_readParts_33 rfl (i := 2) rfl ?_
          refine r_bipush (n := 43) dX5_readParts_34 (by decide +kernel) ?_
          refine r_icmp_eq (tgt := 67) dX5_readParts_36 rfl hc1 ⟨by decide, by decide⟩ (fun hcc => ?_) (fun hcc => ?_)
          · replace hT := hT.1 hcc
            refine r_iload_n dX5_readParts_67 rfl (i := 1) rfl ?_
            refine r_bipush (n := 6) dX5_readParts_68 (by decide +kernel) ?_
            refine r_icmp_ne (tgt := 83) dX5_readParts_70 rfl hx1 ⟨by decide, by decide⟩ (fun hcc => ?_) (fun hcc => ?_)
            · replace hT := hT.1 hcc
              refine r_aload_n dX5_readParts_83 rfl (i := 0) rfl ?_
              refine r_iload_n dX5_readParts_84 rfl (i := 2) rfl ?_
              refine rr_cVI (a := m) (as := [VI (cnx I m)]) (st := []) dX5_readParts_85 mt_X5_readPart ml_X5_124 mi_X5_readPart rm_X5_readParts_X5_readPart jz_X5_readPart ⟨Nat.zero_le _, Nat.zero_le _⟩ (Nat.le_of_ble_eq_true rfl) (wX5_l hm) (wX5_c hm) (jasI hc1 jas0) hT (fun r13 I12 hc14 hFI12 hT => ?_)
              replace hFI12 := jFr_tr hF hFI12
              refine jOk_mem (fun hI12 => ?_)
              refine r_if_ne (tgt := 93) dX5_readParts_88 rfl hc14 (fun hcc => ?_) (fun hcc => ?_)
              · replace hT := hT.1 hcc
                obtain ⟨hc15, hT⟩ := hT
                refine rr_iinc (i := 1) (ls' := [VR m, VI (x1 + 1), VI (cnx I m)]) dX5_readParts_93 rfl (Nat.le_of_ble_eq_true rfl) rfl rfl hc15 ?_
                refine r_goto (tgt := 2) dX5_readParts_96 rfl ?_
                exact jOk_le (ls' := [VR m, VI (x1 + 1), VN]) ⟨Or.inr rfl, Or.inr rfl, Or.inl rfl, trivial⟩ (hT I0 hFI12)
              · replace hT := hT.2 hcc
                refine r_iconst (n := 0) dX5_readParts_91 ?_
                exact r_zret dX5_readParts_92 rfl ⟨by decide, by decide⟩ ⟨Nat.zero_le _, Nat.zero_le _⟩ ⟨_, rfl, rfl, hFI12, hT⟩
            · replace hT := hT.2 hcc
              refine r_aload_n dX5_readParts_73 rfl (i := 0) rfl ?_
              refine r_iconst (n := 4) dX5_readParts_74 ?_
              refine r_aload_n dX5_readParts_75 rfl (i := 0) rfl ?_
              refine rr_getI (v := I m 2) dX5_readParts_76 fg_X5_40 rfl (wX5_l hm) (wX5_s hm) rfl ?_
              refine rr_cVI (a := m) (as := [VI 4, VI (I m 2)]) (st := []) dX5_readParts_79 mt_X5_fail ml_X5_76 mi_X5_fail rm_X5_readParts_X5_fail jz_X5_fail ⟨Nat.zero_le _, Nat.zero_le _⟩ (Nat.le_of_ble_eq_true rfl) (wX5_l hm) (wX5_c hm) (jasI ⟨by decide, by decide⟩ (jasI (hI _ _).inR jas0)) hT (fun r17 I16 hc18 hFI16 hT => ?_)
              replace hFI16 := jFr_tr hF hFI16
              refine jOk_mem (fun hI16 => ?_)
              obtain ⟨hc19, hT⟩ := hT
              exact r_zret dX5_readParts_82 rfl hc19 ⟨Nat.zero_le _, Nat.zero_le _⟩ ⟨_, rfl, rfl, hFI16, hT⟩
          · replace hT := hT.2 hcc
            refine r_iload_n dX5_readParts_39 rfl (i := 2) rfl ?_
            refine r_bipush (n := 45) dX5_readParts_40 (by decide +kernel) ?_
            refine r_icmp_eq (tgt := 67) dX5_readParts_42 rfl hc1 ⟨by decide, by decide⟩ (fun hcc => ?_) (fun hcc => ?_)
            · replace hT := hT.1 hcc
              refine r_iload_n dX5_readParts_67 rfl (i := 1) rfl ?_
              refine r_bipush (n := 6) dX5_readParts_68 (by decide +kernel) ?_
              refine r_icmp_ne (tgt := 83) dX5_readParts_70 rfl hx1 ⟨by decide, by decide⟩ (fun hcc => ?_) (fun hcc => ?_)
              · replace hT := hT.1 hcc
                refine r_aload_n dX5_readParts_83 rfl (i := 0) rfl ?_
                refine r_iload_n dX5_readParts_84 rfl (i := 2) rfl ?_
                refine rr_cVI (a := m) (as := [VI (cnx I m)]) (st := []) dX5_readParts_85 mt_X5_readPart ml_X5_124 mi_X5_readPart rm_X5_readParts_X5_readPart jz_X5_readPart ⟨Nat.zero_le _, Nat.zero_le _⟩ (Nat.le_of_ble_eq_true rfl) (wX5_l hm) (wX5_c hm) (jasI hc1 jas0) hT (fun r21 I20 hc22 hFI20 hT => ?_)
                replace hFI20 := jFr_tr hF hFI20
                refine jOk_mem (fun hI20 => ?_)
                refine r_if_ne (tgt := 93) dX5_readParts_88 rfl hc22 (fun hcc => ?_) (fun hcc => ?_)
                · replace hT := hT.1 hcc
                  obtain ⟨hc23, hT⟩ := hT
                  refine rr_iinc (i := 1) (ls' := [VR m, VI (x1 + 1), VI (cnx I m)]) dX5_readParts_93 rfl (Nat.le_of_ble_eq_true rfl) rfl rfl hc23 ?_
                  refine r_goto (tgt := 2) dX5_readParts_96 rfl ?_
                  exact jOk_le (ls' := [VR m, VI (x1 + 1), VN]) ⟨Or.inr rfl, Or.inr rfl, Or.inl rfl, trivial⟩ (hT I0 hFI20)
                · replace hT := hT.2 hcc
                  refine r_iconst (n := 0) dX5_readParts_91 ?_
                  exact r_zret dX5_readParts_92 rfl ⟨by decide, by decide⟩ ⟨Nat.zero_le _, Nat.zero_le _⟩ ⟨_, rfl, rfl, hFI20, hT⟩
              · replace hT := hT.2 hcc
                refine r_aload_n dX5_readParts_73 rfl (i := 0) rfl ?_
                refine r_iconst (n := 4) dX5_readParts_74 ?_
                refine r_aload_n dX5_readParts_75 rfl (i := 0) rfl ?_
                refine rr_getI (v := I m 2) dX5_readParts_76 fg_X5_40 rfl (wX5_l hm) (wX5_s hm) rfl ?_
                refine rr_cVI (a := m) (as := [VI 4, VI (I m 2)]) (st := []) dX5_readParts_79 mt_X5_fail ml_X5_76 mi_X5_fail rm_X5_readParts_X5_fail jz_X5_fail ⟨Nat.zero_le _, Nat.zero_le _⟩ (Nat.le_of_ble_eq_true rfl) (wX5_l hm) (wX5_c hm) (jasI ⟨by decide, by decide⟩ (jasI (hI _ _).inR jas0)) hT (fun r25 I24 hc26 hFI24 hT => ?_)
                replace hFI24 := jFr_tr hF hFI24
                refine jOk_mem (fun hI24 => ?_)
                obtain ⟨hc27, hT⟩ := hT
                exact r_zret dX5_readParts_82 rfl hc27 ⟨Nat.zero_le _, Nat.zero_le _⟩ ⟨_, rfl, rfl, hFI24, hT⟩
            · replace hT := hT.2 hcc
              refine r_iload_n dX5_readParts_45 rfl (i := 2) rfl ?_
              refine r_bipush (n := 126) dX5_readParts_46 (by decide +kernel) ?_
              refine r_icmp_eq (tgt := 67) dX5_readParts_48 rfl hc1 ⟨by decide, by decide⟩ (fun hcc => ?_) (fun hcc => ?_)
              · replace hT := hT.1 hcc
                refine r_iload_n dX5_readParts_67 rfl (i := 1) rfl ?_
                refine r_bipush (n := 6) dX5_readParts_68 (by decide +kernel) ?_
                refine r_icmp_ne (tgt := 83) dX5_readParts_70 rfl hx1 ⟨by decide, by decide⟩ (fun hcc => ?_) (fun hcc => ?_)
                · replace hT := hT.1 hcc
                  refine r_aload_n dX5_readParts_83 rfl (i := 0) rfl ?_
                  refine r_iload_n dX5_readParts_84 rfl (i := 2) rfl ?_
                  refine rr_cVI (a := m) (as := [VI (cnx I m)]) (st := []) dX5_readParts_85 mt_X5_readPart ml_X5_124 mi_X5_readPart rm_X5_readParts_X5_readPart jz_X5_readPart ⟨Nat.zero_le _, Nat.zero_le _⟩ (Nat.le_of_ble_eq_true rfl) (wX5_l hm) (wX5_c hm) (jasI hc1 jas0) hT (fun r29 I28 hc30 hFI28 hT => ?_)
                  replace hFI28 := jFr_tr hF hFI28
                  refine jOk_mem (fun hI28 => ?_)
                  refine r_if_ne (tgt := 93) dX5_readParts_88 rfl hc30 (fun hcc => ?_) (fun hcc => ?_)
                  · replace hT := hT.1 hcc
                    obtain ⟨hc31, hT⟩ := hT
                    refine rr_iinc (i := 1) (ls' := [VR m, VI (x1 + 1), VI (cnx I m)]) dX5_readParts_93 rfl (Nat.le_of_ble_eq_true rfl) rfl rfl hc31 ?_
                    refine r_goto (tgt := 2) dX5_readParts_96 rfl ?_
                    exact jOk_le (ls' := [VR m, VI (x1 + 1), VN]) ⟨Or.inr rfl, Or.inr rfl, Or.inl rfl, trivial⟩ (hT I0 hFI28)
                  · replace hT := hT.2 hcc
                    refine r_iconst (n := 0) dX5_readParts_91 ?_
                    exact r_zret dX5_readParts_92 rfl ⟨by decide, by decide⟩ ⟨Nat.zero_le _, Nat.zero_le _⟩ ⟨_, rfl, rfl, hFI28, hT⟩
                · replace hT := hT.2 hcc
                  refine r_aload_n dX5_readParts_73 rfl (i := 0) rfl ?_
                  refine r_iconst (n := 4) dX5_readParts_74 ?_
                  refine r_aload_n dX5_readParts_75 rfl (i := 0) rfl ?_
                  refine rr_getI (v := I m 2) dX5_readParts_76 fg_X5_40 rfl (wX5_l hm) (wX5_s hm) rfl ?_
                  refine rr_cVI (a := m) (as := [VI 4, VI (I m 2)]) (st := []) dX5_readParts_79 mt_X5_fail ml_X5_76 mi_X5_fail rm_X5_readParts_X5_fail jz_X5_fail ⟨Nat.zero_le _, Nat.zero_le _⟩ (Nat.le_of_ble_eq_true rfl) (wX5_l hm) (wX5_c hm) (jasI ⟨by decide, by decide⟩ (jasI (hI _ _).inR jas0)) hT (fun r33 I32 hc34 hFI32 hT => ?_)
                  replace hFI32 := jFr_tr hF hFI32
                  refine jOk_mem (fun hI32 => ?_)
                  obtain ⟨hc35, hT⟩ := hT
                  exact r_zret dX5_readParts_82 rfl hc35 ⟨Nat.zero_le _, Nat.zero_le _⟩ ⟨_, rfl, rfl, hFI32, hT⟩
              · replace hT := hT.2 hcc
                refine r_iload_n dX5_readParts_51 rfl (i := 2) rfl ?_
                refine r_bipush (n := 39) dX5_readParts_52 (by decide +kernel) ?_
                refine r_icmp_eq (tgt := 67) dX5_readParts_54 rfl hc1 ⟨by decide, by decide⟩ (fun hcc => ?_) (fun hcc => ?_)
                · replace hT := hT.1 hcc
                  refine r_iload_n dX5_readParts_67 rfl (i := 1) rfl ?_
                  refine r_bipush (n := 6) dX5_readParts_68 (by decide +kernel) ?_
                  refine r_icmp_ne (tgt := 83) dX5_readParts_70 rfl hx1 ⟨by decide, by decide⟩ (fun hcc => ?_) (fun hcc => ?_)
                  · replace hT := hT.1 hcc
                    refine r_aload_n dX5_readParts_83 rfl (i := 0) rfl ?_
                    refine r_iload_n dX5_readParts_84 rfl (i := 2) rfl ?_
                    refine rr_cVI (a := m) (as := [VI (cnx I m)]) (st := []) dX5_readParts_85 mt_X5_readPart ml_X5_124 mi_X5_readPart rm_X5_readParts_X5_readPart jz_X5_readPart ⟨Nat.zero_le _, Nat.zero_le _⟩ (Nat.le_of_ble_eq_true rfl) (wX5_l hm) (wX5_c hm) (jasI hc1 jas0) hT (fun r37 I36 hc38 hFI36 hT => ?_)
                    replace hFI36 := jFr_tr hF hFI36
                    refine jOk_mem (fun hI36 => ?_)
                    refine r_if_ne (tgt := 93) dX5_readParts_88 rfl hc38 (fun hcc => ?_) (fun hcc => ?_)
                    · replace hT := hT.1 hcc
                      obtain ⟨hc39, hT⟩ := hT
                      refine rr_iinc (i := 1) (ls' := [VR m, VI (x1 + 1), VI (cnx I m)]) dX5_readParts_93 rfl (Nat.le_of_ble_eq_true rfl) rfl rfl hc39 ?_
                      refine r_goto (tgt := 2) dX5_readParts_96 rfl ?_
                      exact jOk_le (ls' := [VR m, VI (x1 + 1), VN]) ⟨Or.inr rfl, Or.inr rfl, Or.inl rfl, trivial⟩ (hT I0 hFI36)
                    · replace hT := hT.2 hcc
                      refine r_iconst (n := 0) dX5_readParts_91 ?_
                      exact r_zret dX5_readParts_92 rfl ⟨by decide, by decide⟩ ⟨Nat.zero_le _, Nat.zero_le _⟩ ⟨_, rfl, rfl, hFI36, hT⟩
                  · replace hT := hT.2 hcc
                    refine r_aload_n dX5_readParts_73 rfl (i := 0) rfl ?_
                    refine r_iconst (n := 4) dX5_readParts_74 ?_
                    refine r_aload_n dX5_readParts_75 rfl (i := 0) rfl ?_
                    refine rr_getI (v := I m 2) dX5_readParts_76 fg_X5_40 rfl (wX5_l hm) (wX5_s hm) rfl ?_
                    refine rr_cVI (a := m) (as := [VI 4, VI (I m 2)]) (st := []) dX5_readParts_79 mt_X5_fail ml_X5_76 mi_X5_fail rm_X5_readParts_X5_fail jz_X5_fail ⟨Nat.zero_le _, Nat.zero_le _⟩ (Nat.le_of_ble_eq_true rfl) (wX5_l hm) (wX5_c hm) (jasI ⟨by decide, by decide⟩ (jasI (hI _ _).inR jas0)) hT (fun r41 I40 hc42 hFI40 hT => ?_)
                    replace hFI40 := jFr_tr hF hFI40
                    refine jOk_mem (fun hI40 => ?_)
                    obtain ⟨hc43, hT⟩ := hT
                    exact r_zret dX5_readParts_82 rfl hc43 ⟨Nat.zero_le _, Nat.zero_le _⟩ ⟨_, rfl, rfl, hFI40, hT⟩
                · replace hT := hT.2 hcc
                  refine r_aload_n dX5_readParts_57 rfl (i := 0) rfl ?_
                  refine r_iconst (n := 1) dX5_readParts_58 ?_
                  refine r_aload_n dX5_readParts_59 rfl (i := 0) rfl ?_
                  refine rr_getI (v := I m 2) dX5_readParts_60 fg_X5_40 rfl (wX5_l hm) (wX5_s hm) rfl ?_
                  refine rr_cVI (a := m) (as := [VI 1, VI (I m 2)]) (st := []) dX5_readParts_63 mt_X5_fail ml_X5_76 mi_X5_fail rm_X5_readParts_X5_fail jz_X5_fail ⟨Nat.zero_le _, Nat.zero_le _⟩ (Nat.le_of_ble_eq_true rfl) (wX5_l hm) (wX5_c hm) (jasI ⟨by decide, by decide⟩ (jasI (hI _ _).inR jas0)) hT (fun r45 I44 hc46 hFI44 hT => ?_)
                  replace hFI44 := jFr_tr hF hFI44
                  refine jOk_mem (fun hI44 => ?_)
                  obtain ⟨hc47, hT⟩ := hT
                  exact r_zret dX5_readParts_66 rfl hc47 ⟨Nat.zero_le _, Nat.zero_le _⟩ ⟨_, rfl, rfl, hFI44, hT⟩
      · replace hT := hT.2 hcc
        refine r_iconst (n := 1) dX5_readParts_24 ?_
        exact r_zret dX5_readParts_25 rfl ⟨by decide, by decide⟩ ⟨Nat.zero_le _, Nat.zero_le _⟩ ⟨_, rfl, rfl, hF, hT⟩
set_option maxRecDepth 20000 in
theorem st_X5_readParts_0 {E : jE} {G : jG} {I : jM} {q : Int → jM → Prop} {m : Nat} (hm : WX5 G m) (hT : (∀ a j, jRg (G.2.1 a).1 (I a j)) → jOI E jB kX5_readParts 2 [VR m, VI 0, VN] G I q) : jOI E jB kX5_readParts 0 [VR m, VN, VN] G I q := by
  intro I0 hF
  refine jOk_mem (fun hI => ?_)
  replace hT := hT hI 
  refine r_iconst (n := 0) dX5_readParts_0 ?_
  refine rr_istore_n (i := 1) (ls' := [VR m, VI 0, VN]) dX5_readParts_1 rfl (Nat.le_of_ble_eq_true rfl) rfl rfl ⟨by decide, by decide⟩ ?_
  exact hT I0 hF
theorem en_X5_readParts {E : jE} {G : jG} {I : jM} {q : Int → jM → Prop} {m : Nat} (hm : WX5 G m) (hT : (∀ a j, jRg (G.2.1 a).1 (I a j)) → jOI E jB kX5_readParts 2 [VR m, VI 0, VN] G I q) : jRI E jB kX5_readParts [VR m] G I q := jRun.of mt_X5_readParts.2.2.2 2 rfl (fun _ => st_X5_readParts_0 hm hT I (fun _ _ => rfl))
set_option maxRecDepth 20000 in
theorem st_X5_readElement_0 {E : jE} {G : jG} {I : jM} {q : Int → jM → Prop} {m : Nat} {x1 : Int} (hm : WX5 G m) (hT : (∀ a j, jRg (G.2.1 a).1 (I a j)) → jIn x1 → (∃ b1 : Nat, I m 3 = (b1 : Int) ∧ WX6 G b1 ∧ (∃ b4 : Nat, I m 3 = (b4 : Int) ∧ WX6 G b4 ∧ ((0 : Int) ≤ (I b4 1) ∧ ((I b4 1) : Int) < 6) ∧ (∃ b8 : Nat, I m 3 = (b8 : Int) ∧ WX6 G b8 ∧ jIn (((I b8 1) * 6) + (I (b1 + 3) (I b4 1))) ∧ ((¬ x1 = 39 → ((¬ x1 = 95 → jRI E jB kX5_readName [VR m] G I (fun r13 I12 => ((¬ r13 = (-1) → (∃ b16 : Nat, I12 m 3 = (b16 : Int) ∧ WX6 G b16 ∧ (∃ b19 : Nat, I12 m 3 = (b19 : Int) ∧ WX6 G b19 ∧ jRI E jB kX6_elementNamed [VR b16, VI (I12 b19 1), VI r13] G I12 (fun r23 I22 => ((¬ r23 = (-1) → (∃ b25 : Nat, I22 m 3 = (b25 : Int) ∧ WX6 G b25 ∧ ((0 : Int) ≤ (((I b8 1) * 6) + (I (b1 + 3) (I b4 1))) ∧ ((((I b8 1) * 6) + (I (b1 + 3) (I b4 1))) : Int) < 36) ∧ (∀ M29, M29 = jup I22 (b25 + 6) (((I b8 1) * 6) + (I (b1 + 3) (I b4 1))) (nso x1) → (∃ b30 : Nat, M29 m 3 = (b30 : Int) ∧ WX6 G b30 ∧ ((0 : Int) ≤ (((I b8 1) * 6) + (I (b1 + 3) (I b4 1))) ∧ ((((I b8 1) * 6) + (I (b1 + 3) (I b4 1))) : Int) < 36) ∧ (∀ M34, M34 = jup M29 (b30 + 7) (((I b8 1) * 6) + (I (b1 + 3) (I b4 1))) r13 → (∃ b35 : Nat, M34 m 3 = (b35 : Int) ∧ WX6 G b35 ∧ ((0 : Int) ≤ (((I b8 1) * 6) + (I (b1 + 3) (I b4 1))) ∧ ((((I b8 1) * 6) + (I (b1 + 3) (I b4 1))) : Int) < 36) ∧ (∀ M39, M39 = jup M34 (b35 + 8) (((I b8 1) * 6) + (I (b1 + 3) (I b4 1))) r23 → (∃ b40 : Nat, M39 m 3 = (b40 : Int) ∧ WX6 G b40 ∧ ((0 : Int) ≤ (((I b8 1) * 6) + (I (b1 + 3) (I b4 1))) ∧ ((((I b8 1) * 6) + (I (b1 + 3) (I b4 1))) : Int) < 36) ∧ jIn ((M39 m 2) - 1) ∧ (∀ M45, M45 = jup M39 (b40 + 9) (((I b8 1) * 6) + (I (b1 + 3) (I b4 1))) ((M39 m 2) - 1) → (∃ b46 : Nat, M45 m 3 = (b46 : Int) ∧ WX6 G b46 ∧ (∃ b49 : Nat, M45 m 3 = (b49 : Int) ∧ WX6 G b49 ∧ ((0 : Int) ≤ (M45 b49 1) ∧ ((M45 b49 1) : Int) < 6) ∧ jIn ((I (b1 + 3) (I b4 1)) + 1) ∧ (∀ M54, M54 = jup M45 (b46 + 3) (M45 b49 1) ((I (b1 + 3) (I b4 1)) + 1) → q 1 M54)))))))))))) ∧ (r23 = (-1) → (∃ b55 : Nat, I22 m 3 = (b55 : Int) ∧ WX6 G b55 ∧ ((0 : Int) ≤ (((I b8 1) * 6) + (I (b1 + 3) (I b4 1))) ∧ ((((I b8 1) * 6) + (I (b1 + 3) (I b4 1))) : Int) < 36) ∧ (∀ M59, M59 = jup I22 (b55 + 6) (((I b8 1) * 6) + (I (b1 + 3) (I b4 1))) (nso x1) → (∃ b60 : Nat, M59 m 3 = (b60 : Int) ∧ WX6 G b60 ∧ ((0 : Int) ≤ (((I b8 1) * 6) + (I (b1 + 3) (I b4 1))) ∧ ((((I b8 1) * 6) + (I (b1 + 3) (I b4 1))) : Int) < 36) ∧ (∀ M64, M64 = jup M59 (b60 + 7) (((I b8 1) * 6) + (I (b1 + 3) (I b4 1))) r13 → (∃ b65 : Nat, M64 m 3 = (b65 : Int) ∧ WX6 G b65 ∧ ((0 : Int) ≤ (((I b8 1) * 6) + (I (b1 + 3) (I b4 1))) ∧ ((((I b8 1) * 6) + (I (b1 + 3) (I b4 1))) : Int) < 36) ∧ (∀ M69, M69 = jup M64 (b65 + 8) (((I b8 1) * 6) + (I (b1 + 3) (I b4 1))) (I (b1 + 3) (I b4 1)) → (∃ b70 : Nat, M69 m 3 = (b70 : Int) ∧ WX6 G b70 ∧ ((0 : Int) ≤ (((I b8 1) * 6) + (I (b1 + 3) (I b4 1))) ∧ ((((I b8 1) * 6) + (I (b1 + 3) (I b4 1))) : Int) < 36) ∧ jIn ((M69 m 2) - 1) ∧ (∀ M75, M75 = jup M69 (b70 + 9) (((I b8 1) * 6) + (I (b1 + 3) (I b4 1))) ((M69 m 2) - 1) → (∃ b76 : Nat, M75 m 3 = (b76 : Int) ∧ WX6 G b76 ∧ (∃ b79 : Nat, M75 m 3 = (b79 : Int) ∧ WX6 G b79 ∧ ((0 : Int) ≤ (M75 b79 1) ∧ ((M75 b79 1) : Int) < 6) ∧ jIn ((I (b1 + 3) (I b4 1)) + 1) ∧ (∀ M84, M84 = jup M75 (b76 + 3) (M75 b79 1) ((I (b1 + 3) (I b4 1)) + 1) → q 1 M84))))))))))))))))) ∧ (r13 = (-1) → q 0 I12)))) ∧ (x1 = 95 → jIn ((I m 2) + 1) ∧ (∀ M85, M85 = jup I m 2 ((I m 2) + 1) → (∃ b87 : Nat, I m 3 = (b87 : Int) ∧ WX6 G b87 ∧ ((0 : Int) ≤ (((I b8 1) * 6) + (I (b1 + 3) (I b4 1))) ∧ ((((I b8 1) * 6) + (I (b1 + 3) (I b4 1))) : Int) < 36) ∧ (∀ M91, M91 = jup M85 (b87 + 6) (((I b8 1) * 6) + (I (b1 + 3) (I b4 1))) 2 → (∃ b92 : Nat, M91 m 3 = (b92 : Int) ∧ WX6 G b92 ∧ ((0 : Int) ≤ (((I b8 1) * 6) + (I (b1 + 3) (I b4 1))) ∧ ((((I b8 1) * 6) + (I (b1 + 3) (I b4 1))) : Int) < 36) ∧ (∀ M96, M96 = jup M91 (b92 + 7) (((I b8 1) * 6) + (I (b1 + 3) (I b4 1))) (-1) → (∃ b97 : Nat, M96 m 3 = (b97 : Int) ∧ WX6 G b97 ∧ ((0 : Int) ≤ (((I b8 1) * 6) + (I (b1 + 3) (I b4 1))) ∧ ((((I b8 1) * 6) + (I (b1 + 3) (I b4 1))) : Int) < 36) ∧ (∀ M101, M101 = jup M96 (b97 + 8) (((I b8 1) * 6) + (I (b1 + 3) (I b4 1))) (I (b1 + 3) (I b4 1)) → (∃ b102 : Nat, M101 m 3 = (b102 : Int) ∧ WX6 G b102 ∧ ((0 : Int) ≤ (((I b8 1) * 6) + (I (b1 + 3) (I b4 1))) ∧ ((((I b8 1) * 6) + (I (b1 + 3) (I b4 1))) : Int) < 36) ∧ jIn ((M101 m 2) - 1) ∧ (∀ M107, M107 = jup M101 (b102 + 9) (((I b8 1) * 6) + (I (b1 + 3) (I b4 1))) ((M101 m 2) - 1) → (∃ b108 : Nat, M107 m 3 = (b108 : Int) ∧ WX6 G b108 ∧ (∃ b111 : Nat, M107 m 3 = (b111 : Int) ∧ WX6 G b111 ∧ ((0 : Int) ≤ (M107 b111 1) ∧ ((M107 b111 1) : Int) < 6) ∧ jIn ((I (b1 + 3) (I b4 1)) + 1) ∧ (∀ M116, M116 = jup M107 (b108 + 3) (M107 b111 1) ((I (b1 + 3) (I b4 1)) + 1) → q 1 M116))))))))))))))) ∧ (x1 = 39 → jRI E jB kX5_readQuote [VR m] G I (fun r118 I117 => ((¬ r118 = 0 → jIn ((I m 2) + 1) ∧ jIn ((I117 m 2) - 1) ∧ jRI E jB kX5_isOneToken [VR m, VI ((I m 2) + 1), VI ((I117 m 2) - 1)] G I117 (fun r123 I122 => ((¬ r123 = 0 → jIn ((I m 2) + 1) ∧ (∃ b126 : Nat, I122 m 3 = (b126 : Int) ∧ WX6 G b126 ∧ ((0 : Int) ≤ (((I b8 1) * 6) + (I (b1 + 3) (I b4 1))) ∧ ((((I b8 1) * 6) + (I (b1 + 3) (I b4 1))) : Int) < 36) ∧ (∀ M130, M130 = jup I122 (b126 + 6) (((I b8 1) * 6) + (I (b1 + 3) (I b4 1))) 4 → (∃ b131 : Nat, M130 m 3 = (b131 : Int) ∧ WX6 G b131 ∧ ((0 : Int) ≤ (((I b8 1) * 6) + (I (b1 + 3) (I b4 1))) ∧ ((((I b8 1) * 6) + (I (b1 + 3) (I b4 1))) : Int) < 36) ∧ (∀ M135, M135 = jup M130 (b131 + 7) (((I b8 1) * 6) + (I (b1 + 3) (I b4 1))) (-1) → (∃ b136 : Nat, M135 m 3 = (b136 : Int) ∧ WX6 G b136 ∧ ((0 : Int) ≤ (((I b8 1) * 6) + (I (b1 + 3) (I b4 1))) ∧ ((((I b8 1) * 6) + (I (b1 + 3) (I b4 1))) : Int) < 36) ∧ (∀ M140, M140 = jup M135 (b136 + 8) (((I b8 1) * 6) + (I (b1 + 3) (I b4 1))) ((I m 2) + 1) → (∃ b141 : Nat, M140 m 3 = (b141 : Int) ∧ WX6 G b141 ∧ ((0 : Int) ≤ (((I b8 1) * 6) + (I (b1 + 3) (I b4 1))) ∧ ((((I b8 1) * 6) + (I (b1 + 3) (I b4 1))) : Int) < 36) ∧ jIn ((M140 m 2) - 1) ∧ (∀ M146, M146 = jup M140 (b141 + 9) (((I b8 1) * 6) + (I (b1 + 3) (I b4 1))) ((M140 m 2) - 1) → (∃ b147 : Nat, M146 m 3 = (b147 : Int) ∧ WX6 G b147 ∧ (∃ b150 : Nat, M146 m 3 = (b150 : Int) ∧ WX6 G b150 ∧ ((0 : Int) ≤ (M146 b150 1) ∧ ((M146 b150 1) : Int) < 6) ∧ jIn ((I (b1 + 3) (I b4 1)) + 1) ∧ (∀ M155, M155 = jup M146 (b147 + 3) (M146 b150 1) ((I (b1 + 3) (I b4 1)) + 1) → q 1 M155)))))))))))) ∧ (r123 = 0 → jRI E jB kX5_fail [VR m, VI 6, VI (I m 2)] G I122 (fun r157 I156 => (0 ≤ r157 ∧ r157 ≤ 1) ∧ q r157 I156))))) ∧ (r118 = 0 → q 0 I117))))))))) : jOI E jB kX5_readElement 0 [VR m, VI x1, VN, VN, VN, VN, VN, VN, VN] G I q := by
  intro I0 hF
  refine jOk_mem (fun hI => ?_)
  refine jOk_in (i := 1) rfl (fun hx1 => ?_)
  replace hT := hT hI hx1
  refine r_aload_n dX5_readElement_0 rfl (i := 0) rfl ?_
  obtain ⟨b1, hc2, hc3, hT⟩ := hT
  refine rr_getM (b := b1) dX5_readElement_1 fg_X5_19 rfl rfl (wX5_l hm) (wX5_s hm) hc2 ?_
  refine rr_getR (b := (b1 + 3)) dX5_readElement_4 fg_X5_84 rfl rfl (wX6_l hc3) (wX6_s hc3) (wX6_r3 hc3) ?_
  refine r_aload_n dX5_readElement_7 rfl (i := 0) rfl ?_
  obtain ⟨b4, hc5, hc6, hT⟩ := hT
  refine rr_getM (b := b4) dX5_readElement_8 fg_X5_19 rfl rfl (wX5_l hm) (wX5_s hm) hc5 ?_
  refine rr_getI (v := I b4 1) dX5_readElement_11 fg_X5_35 rfl (wX6_l hc6) (wX6_s hc6) rfl ?_
  obtain ⟨hc7, hT⟩ := hT
  refine rr_iaload (v := I (b1 + 3) (I b4 1)) dX5_readElement_14 (wX6_l3 hc3) (wX6_a3 hc3) (by decide) hc7 rfl ?_
  refine rr_istore_n (i := 2) (ls' := [VR m, VI x1, VI (I (b1 + 3) (I b4 1)), VN, VN, VN, VN, VN, VN]) dX5_readElement_15 rfl (Nat.le_of_ble_eq_true rfl) rfl rfl (hI _ _).inR ?_
  refine r_aload_n dX5_readElement_16 rfl (i := 0) rfl ?_
  obtain ⟨b8, hc9, hc10, hT⟩ := hT
  refine rr_getM (b := b8) dX5_readElement_17 fg_X5_19 rfl rfl (wX5_l hm) (wX5_s hm) hc9 ?_
  refine rr_getI (v := I b8 1) dX5_readElement_20 fg_X5_35 rfl (wX6_l hc10) (wX6_s hc10) rfl ?_
  refine r_bipush (n := 6) dX5_readElement_23 (by decide +kernel) ?_
  refine r_imul dX5_readElement_25 ?_
  refine r_iload_n dX5_readElement_26 rfl (i := 2) rfl ?_
  refine r_iadd dX5_readElement_27 ?_
  obtain ⟨hc11, hT⟩ := hT
  refine rr_istore_n (i := 3) (ls' := [VR m, VI x1, VI (I (b1 + 3) (I b4 1)), VI (((I b8 1) * 6) + (I (b1 + 3) (I b4 1))), VN, VN, VN, VN, VN]) dX5_readElement_28 rfl (Nat.le_of_ble_eq_true rfl) rfl rfl hc11 ?_
  refine r_aload_n dX5_readElement_29 rfl (i := 0) rfl ?_
  refine rr_getI (v := I m 2) dX5_readElement_30 fg_X5_40 rfl (wX5_l hm) (wX5_s hm) rfl ?_
  refine rr_istore (i := 4) (ls' := [VR m, VI x1, VI (I (b1 + 3) (I b4 1)), VI (((I b8 1) * 6) + (I (b1 + 3) (I b4 1))), VI (I m 2), VN, VN, VN, VN]) dX5_readElement_33 (Nat.le_of_ble_eq_true rfl) rfl rfl (hI _ _).inR ?_
  refine r_iconst (n := (-1)) dX5_readElement_35 ?_
  refine rr_istore (i := 5) (ls' := [VR m, VI x1, VI (I (b1 + 3) (I b4 1)), VI (((I b8 1) * 6) + (I (b1 + 3) (I b4 1))), VI (I m 2), VI (-1), VN, VN, VN]) dX5_readElement_36 (Nat.le_of_ble_eq_true rfl) rfl rfl ⟨by decide, by decide⟩ ?_
  refine r_iload_n dX5_readElement_38 rfl (i := 2) rfl ?_
  refine rr_istore (i := 6) (ls' := [VR m, VI x1, VI (I (b1 + 3) (I b4 1)), VI (((I b8 1) * 6) + (I (b1 + 3) (I b4 1))), VI (I m 2), VI (-1), VI (I (b1 + 3) (I b4 1)), VN, VN]) dX5_readElement_39 (Nat.le_of_ble_eq_true rfl) rfl rfl (hI _ _).inR ?_
  refine r_iconst (n := 2) dX5_readElement_41 ?_
  refine rr_istore (i := 7) (ls' := [VR m, VI x1, VI (I (b1 + 3) (I b4 1)), VI (((I b8 1) * 6) + (I (b1 + 3) (I b4 1))), VI (I m 2), VI (-1), VI (I (b1 + 3) (I b4 1)), VI 2, VN]) dX5_readElement_42 (Nat.le_of_ble_eq_true rfl) rfl rfl ⟨by decide, by decide⟩ ?_
  refine r_iload_n dX5_readElement_44 rfl (i := 1) rfl ?_
  refine r_bipush (n := 39) dX5_readElement_45 (by decide +kernel) ?_
  refine r_icmp_ne (tgt := 97) dX5_readElement_47 rfl hx1 ⟨by decide, by decide⟩ (fun hcc => ?_) (fun hcc => ?_)
  · replace hT := hT.1 hcc
    refine r_iload_n dX5_readElement_97 rfl (i := 1) rfl ?_
    refine r_bipush (n := 95) dX5_readElement_98 (by decide +kernel) ?_
    refine r_icmp_ne (tgt := 116) dX5_readElement_100 rfl hx1 ⟨by decide, by decide⟩ (fun hcc => ?_) (fun hcc => ?_)
    · replace hT := hT.1 hcc
      refine r_aload_n dX5_readElement_116 rfl (i := 0) rfl ?_
      refine rr_cVI (a := m) (as := []) (st := []) dX5_readElement_117 mt_X5_readName ml_X5_103 mi_X5_readName rm_X5_readElement_X5_readName jz_X5_readName ⟨Nat.zero_le _, Nat.zero_le _⟩ (Nat.le_of_ble_eq_true rfl) (wX5_l hm) (wX5_c hm) jas0 hT (fun r13 I12 hc14 hFI12 hT => ?_)
      replace hFI12 := jFr_tr hF hFI12
      refine jOk_mem (fun hI12 => ?_)
      refine rr_istore (i := 5) (ls' := [VR m, VI x1, VI (I (b1 + 3) (I b4 1)), VI (((I b8 1) * 6) + (I (b1 + 3) (I b4 1))), VI (I m 2), VI r13, VI (I (b1 + 3) (I b4 1)), VI 2, VN]) dX5_readElement_120 (Nat.le_of_ble_eq_true rfl) rfl rfl hc14 ?_
      refine r_iload dX5_readElement_122 (i := 5) rfl ?_
      refine r_iconst (n := (-1)) dX5_readElement_124 ?_
      refine r_icmp_ne (tgt := 130) dX5_readElement_125 rfl hc14 ⟨by decide, by decide⟩ (fun hcc => ?_) (fun hcc => ?_)
      · replace hT := hT.1 hcc
        refine r_iload_n dX5_readElement_130 rfl (i := 1) rfl ?_
        refine rr_pSI (A := jB) (v := nso x1) (as := [VI x1]) (st := []) dX5_readElement_131 mt_X5_namedSort ml_X5_106 ms_X5_namedSort rm_X5_readElement_X5_namedSort jz_X5_namedSort ⟨Nat.zero_le _, Nat.zero_le _⟩ (Nat.le_of_ble_eq_true rfl) (jasI hx1 jas0) sp_X5_namedSort (fun hc15 => ?_)
        refine rr_istore (i := 7) (ls' := [VR m, VI x1, VI (I (b1 + 3) (I b4 1)), VI (((I b8 1) * 6) + (I (b1 + 3) (I b4 1))), VI (I m 2), VI r13, VI (I (b1 + 3) (I b4 1)), VI (nso x1), VN]) dX5_readElement_134 (Nat.le_of_ble_eq_true rfl) rfl rfl hc15 ?_
        refine r_aload_n dX5_readElement_136 rfl (i := 0) rfl ?_
        obtain ⟨b16, hc17, hc18, hT⟩ := hT
        refine rr_getM (b := b16) dX5_readElement_137 fg_X5_19 rfl rfl (wX5_l hm) (wX5_s hm) hc17 ?_
        refine r_aload_n dX5_readElement_140 rfl (i := 0) rfl ?_
        obtain ⟨b19, hc20, hc21, hT⟩ := hT
        refine rr_getM (b := b19) dX5_readElement_141 fg_X5_19 rfl rfl (wX5_l hm) (wX5_s hm) hc20 ?_
        refine rr_getI (v := I12 b19 1) dX5_readElement_144 fg_X5_35 rfl (wX6_l hc21) (wX6_s hc21) rfl ?_
        refine r_iload dX5_readElement_147 (i := 5) rfl ?_
        refine rr_cVI (a := b16) (as := [VI (I12 b19 1), VI r13]) (st := []) dX5_readElement_149 mt_X6_elementNamed ml_X5_109 mi_X6_elementNamed rm_X5_readElement_X6_elementNamed jz_X6_elementNamed ⟨Nat.zero_le _, Nat.zero_le _⟩ (Nat.le_of_ble_eq_true rfl) (wX6_l hc18) (wX6_c hc18) (jasI (hI12 _ _).inR (jasI hc14 jas0)) hT (fun r23 I22 hc24 hFI22 hT => ?_)
        replace hFI22 := jFr_tr hFI12 hFI22
        refine jOk_mem (fun hI22 => ?_)
        refine rr_istore (i := 8) (ls' := [VR m, VI x1, VI (I (b1 + 3) (I b4 1)), VI (((I b8 1) * 6) + (I (b1 + 3) (I b4 1))), VI (I m 2), VI r13, VI (I (b1 + 3) (I b4 1)), VI (nso x1), VI r23]) dX5_readElement_152 (Nat.le_of_ble_eq_true rfl) rfl rfl hc24 ?_
        refine r_iload dX5_readElement_154 (i := 8) rfl ?_
        refine r_iconst (n := (-1)) dX5_readElement_156 ?_
        refine r_icmp_ne (tgt := 164) dX5_readElement_157 rfl hc24 ⟨by decide, by decide⟩ (fun hcc => ?_) (fun hcc => ?_)
        · replace hT := hT.1 hcc
          refine r_iload dX5_readElement_164 (i := 8) rfl ?_
          refine rr_istore (i := 6) (ls' := [VR m, VI x1, VI (I (b1 + 3) (I b4 1)), VI (((I b8 1) * 6) + (I (b1 + 3) (I b4 1))), VI (I m 2), VI r13, VI r23, VI (nso x1), VI r23]) dX5_readElement_166 (Nat.le_of_ble_eq_true rfl) rfl rfl hc24 ?_
          refine r_aload_n dX5_readElement_168 rfl (i := 0) rfl ?_
          obtain ⟨b25, hc26, hc27, hT⟩ := hT
          refine rr_getM (b := b25) dX5_readElement_169 fg_X5_19 rfl rfl (wX5_l hm) (wX5_s hm) hc26 ?_
          refine rr_getR (b := (b25 + 6)) dX5_readElement_172 fg_X5_112 rfl rfl (wX6_l hc27) (wX6_s hc27) (wX6_r6 hc27) ?_
          refine r_iload_n dX5_readElement_175 rfl (i := 3) rfl ?_
          refine r_iload dX5_readElement_176 (i := 7) rfl ?_
          obtain ⟨hc28, hT⟩ := hT
          refine rr_iastore dX5_readElement_178 (wX6_l6 hc27) (wX6_a6 hc27) (by decide) hc28 hc15 (fun M29 eM29 => ?_)
          have hFM29 := jFr_up hFI22 eM29 (wX6_f hc27 6 (by decide))
          replace hT := hT M29 eM29
          refine jOk_mem (fun hIM29 => ?_)
          refine r_aload_n dX5_readElement_179 rfl (i := 0) rfl ?_
          obtain ⟨b30, hc31, hc32, hT⟩ := hT
          refine rr_getM (b := b30) dX5_readElement_180 fg_X5_19 rfl rfl (wX5_l hm) (wX5_s hm) hc31 ?_
          refine rr_getR (b := (b30 + 7)) dX5_readElement_183 fg_X5_115 rfl rfl (wX6_l hc32) (wX6_s hc32) (wX6_r7 hc32) ?_
          refine r_iload_n dX5_readElement_186 rfl (i := 3) rfl ?_
          refine r_iload dX5_readElement_187 (i := 5) rfl ?_
          obtain ⟨hc33, hT⟩ := hT
          refine rr_iastore dX5_readElement_189 (wX6_l7 hc32) (wX6_a7 hc32) (by decide) hc33 hc14 (fun M34 eM34 => ?_)
          have hFM34 := jFr_up hFM29 eM34 (wX6_f hc32 7 (by decide))
          replace hT := hT M34 eM34
          refine jOk_mem (fun hIM34 => ?_)
          refine r_aload_n dX5_readElement_190 rfl (i := 0) rfl ?_
          obtain ⟨b35, hc36, hc37, hT⟩ := hT
          refine rr_getM (b := b35) dX5_readElement_191 fg_X5_19 rfl rfl (wX5_l hm) (wX5_s hm) hc36 ?_
          refine rr_getR (b := (b35 + 8)) dX5_readElement_194 fg_X5_118 rfl rfl (wX6_l hc37) (wX6_s hc37) (wX6_r8 hc37) ?_
          refine r_iload_n dX5_readElement_197 rfl (i := 3) rfl ?_
          refine r_iload dX5_readElement_198 (i := 6) rfl ?_
          obtain ⟨hc38, hT⟩ := hT
          refine rr_iastore dX5_readElement_200 (wX6_l8 hc37) (wX6_a8 hc37) (by decide) hc38 hc24 (fun M39 eM39 => ?_)
          have hFM39 := jFr_up hFM34 eM39 (wX6_f hc37 8 (by decide))
          replace hT := hT M39 eM39
          refine jOk_mem (fun hIM39 => ?_)
          refine r_aload_n dX5_readElement_201 rfl (i := 0) rfl ?_
          obtain ⟨b40, hc41, hc42, hT⟩ := hT
          refine rr_getM (b := b40) dX5_readElement_202 fg_X5_19 rfl rfl (wX5_l hm) (wX5_s hm) hc41 ?_
          refine rr_getR (b := (b40 + 9)) dX5_readElement_205 fg_X5_121 rfl rfl (wX6_l hc42) (wX6_s hc42) (wX6_r9 hc42) ?_
          refine r_iload_n dX5_readElement_208 rfl (i := 3) rfl ?_
          refine r_aload_n dX5_readElement_209 rfl (i := 0) rfl ?_
          refine rr_getI (v := M39 m 2) dX5_readElement_210 fg_X5_40 rfl (wX5_l hm) (wX5_s hm) rfl ?_
          refine r_iconst (n := 1) dX5_readElement_213 ?_
          refine r_isub dX5_readElement_214 ?_
          obtain ⟨hc43, hT⟩ := hT
          obtain ⟨hc44, hT⟩ := hT
          refine rr_iastore dX5_readElement_215 (wX6_l9 hc42) (wX6_a9 hc42) (by decide) hc43 hc44 (fun M45 eM45 => ?_)
          have hFM45 := jFr_up hFM39 eM45 (wX6_f hc42 9 (by decide))
          replace hT := hT M45 eM45
          refine jOk_mem (fun hIM45 => ?_)
          refine r_aload_n dX5_readElement_216 rfl (i := 0) rfl ?_
          obtain ⟨b46, hc47, hc48, hT⟩ := hT
          refine rr_getM (b := b46) dX5_readElement_217 fg_X5_19 rfl rfl (wX5_l hm) (wX5_s hm) hc47 ?_
          refine rr_getR (b := (b46 + 3)) dX5_readElement_220 fg_X5_84 rfl rfl (wX6_l hc48) (wX6_s hc48) (wX6_r3 hc48) ?_
          refine r_aload_n dX5_readElement_223 rfl (i := 0) rfl ?_
          obtain ⟨b49, hc50, hc51, hT⟩ := hT
          refine rr_getM (b := b49) dX5_readElement_224 fg_X5_19 rfl rfl (wX5_l hm) (wX5_s hm) hc50 ?_
          refine rr_getI (v := M45 b49 1) dX5_readElement_227 fg_X5_35 rfl (wX6_l hc51) (wX6_s hc51) rfl ?_
          refine r_iload_n dX5_readElement_230 rfl (i := 2) rfl ?_
          refine r_iconst (n := 1) dX5_readElement_231 ?_
          refine r_iadd dX5_readElement_232 ?_
          obtain ⟨hc52, hT⟩ := hT
          obtain ⟨hc53, hT⟩ := hT
          refine rr_iastore dX5_readElement_233 (wX6_l3 hc48) (wX6_a3 hc48) (by decide) hc52 hc53 (fun M54 eM54 => ?_)
          have hFM54 := jFr_up hFM45 eM54 (wX6_f hc48 3 (by decide))
          replace hT := hT M54 eM54
          refine jOk_mem (fun hIM54 => ?_)
          refine r_iconst (n := 1) dX5_readElement_234 ?_
          exact r_zret dX5_readElement_235 rfl ⟨by decide, by decide⟩ ⟨Nat.zero_le _, Nat.zero_le _⟩ ⟨_, rfl, rfl, hFM54, hT⟩
        · replace hT := hT.2 hcc
          refine r_iload_n dX5_readElement_160 rfl (i := 2) rfl ?_
          refine r_goto (tgt := 166) dX5_readElement_161 rfl ?_
          refine rr_istore (i := 6) (ls' := [VR m, VI x1, VI (I (b1 + 3) (I b4 1)), VI (((I b8 1) * 6) + (I (b1 + 3) (I b4 1))), VI (I m 2), VI r13, VI (I (b1 + 3) (I b4 1)), VI (nso x1), VI r23]) dX5_readElement_166 (Nat.le_of_ble_eq_true rfl) rfl rfl (hI _ _).inR ?_
          refine r_aload_n dX5_readElement_168 rfl (i := 0) rfl ?_
          obtain ⟨b55, hc56, hc57, hT⟩ := hT
          refine rr_getM (b := b55) dX5_readElement_169 fg_X5_19 rfl rfl (wX5_l hm) (wX5_s hm) hc56 ?_
          refine rr_getR (b := (b55 + 6)) dX5_readElement_172 fg_X5_112 rfl rfl (wX6_l hc57) (wX6_s hc57) (wX6_r6 hc57) ?_
          refine r_iload_n dX5_readElement_175 rfl (i := 3) rfl ?_
          refine r_iload dX5_readElement_176 (i := 7) rfl ?_
          obtain ⟨hc58, hT⟩ := hT
          refine rr_iastore dX5_readElement_178 (wX6_l6 hc57) (wX6_a6 hc57) (by decide) hc58 hc15 (fun M59 eM59 => ?_)
          have hFM59 := jFr_up hFI22 eM59 (wX6_f hc57 6 (by decide))
          replace hT := hT M59 eM59
          refine jOk_mem (fun hIM59 => ?_)
          refine r_aload_n dX5_readElement_179 rfl (i := 0) rfl ?_
          obtain ⟨b60, hc61, hc62, hT⟩ := hT
          refine rr_getM (b := b60) dX5_readElement_180 fg_X5_19 rfl rfl (wX5_l hm) (wX5_s hm) hc61 ?_
          refine rr_getR (b := (b60 + 7)) dX5_readElement_183 fg_X5_115 rfl rfl (wX6_l hc62) (wX6_s hc62) (wX6_r7 hc62) ?_
          refine r_iload_n dX5_readElement_186 rfl (i := 3) rfl ?_
          refine r_iload dX5_readElement_187 (i := 5) rfl ?_
          obtain ⟨hc63, hT⟩ := hT
          refine rr_iastore dX5_readElement_189 (wX6_l7 hc62) (wX6_a7 hc62) (by decide) hc63 hc14 (fun M64 eM64 => ?_)
          have hFM64 := jFr_up hFM59 eM64 (wX6_f hc62 7 (by decide))
          replace hT := hT M64 eM64
          refine jOk_mem (fun hIM64 => ?_)
          refine r_aload_n dX5_readElement_190 rfl (i := 0) rfl ?_
          obtain ⟨b65, hc66, hc67, hT⟩ := hT
          refine rr_getM (b := b65) dX5_readElement_191 fg_X5_19 rfl rfl (wX5_l hm) (wX5_s hm) hc66 ?_
          refine rr_getR (b := (b65 + 8)) dX5_readElement_194 fg_X5_118 rfl rfl (wX6_l hc67) (wX6_s hc67) (wX6_r8 hc67) ?_
          refine r_iload_n dX5_readElement_197 rfl (i := 3) rfl ?_
          refine r_iload dX5_readElement_198 (i := 6) rfl ?_
          obtain ⟨hc68, hT⟩ := hT
          refine rr_iastore dX5_readElement_200 (wX6_l8 hc67) (wX6_a8 hc67) (by decide) hc68 (hI _ _).inR (fun M69 eM69 => ?_)
          have hFM69 := jFr_up hFM64 eM69 (wX6_f hc67 8 (by decide))
          replace hT := hT M69 eM69
          refine jOk_mem (fun hIM69 => ?_)
          refine r_aload_n dX5_readElement_201 rfl (i := 0) rfl ?_
          obtain ⟨b70, hc71, hc72, hT⟩ := hT
          refine rr_getM (b := b70) dX5_readElement_202 fg_X5_19 rfl rfl (wX5_l hm) (wX5_s hm) hc71 ?_
          refine rr_getR (b := (b70 + 9)) dX5_readElement_205 fg_X5_121 rfl rfl (wX6_l hc72) (wX6_s hc72) (wX6_r9 hc72) ?_
          refine r_iload_n dX5_readElement_208 rfl (i := 3) rfl ?_
          refine r_aload_n dX5_readElement_209 rfl (i := 0) rfl ?_
          refine rr_getI (v := M69 m 2) dX5_readElement_210 fg_X5_40 rfl (wX5_l hm) (wX5_s hm) rfl ?_
          refine r_iconst (n := 1) dX5_readElement_213 ?_
          refine r_isub dX5_readElement_214 ?_
          obtain ⟨hc73, hT⟩ := hT
          obtain ⟨hc74, hT⟩ := hT
          refine rr_iastore dX5_readElement_215 (wX6_l9 hc72) (wX6_a9 hc72) (by decide) hc73 hc74 (fun M75 eM75 => ?_)
          have hFM75 := jFr_up hFM69 eM75 (wX6_f hc72 9 (by decide))
          replace hT := hT M75 eM75
          refine jOk_mem (fun hIM75 => ?_)
          refine r_aload_n dX5_readElement_216 rfl (i := 0) rfl ?_
          obtain ⟨b76, hc77, hc78, hT⟩ := hT
          refine rr_getM (b := b76) dX5_readElement_217 fg_X5_19 rfl rfl (wX5_l hm) (wX5_s hm) hc77 ?_
          refine rr_getR (b := (b76 + 3)) dX5_readElement_220 fg_X5_84 rfl rfl (wX6_l hc78) (wX6_s hc78) (wX6_r3 hc78) ?_
          refine r_aload_n dX5_readElement_223 rfl (i := 0) rfl ?_
          obtain ⟨b79, hc80, hc81, hT⟩ := hT
          refine rr_getM (b := b79) dX5_readElement_224 fg_X5_19 rfl rfl (wX5_l hm) (wX5_s hm) hc80 ?_
          refine rr_getI (v := M75 b79 1) dX5_readElement_227 fg_X5_35 rfl (wX6_l hc81) (wX6_s hc81) rfl ?_
          refine r_iload_n dX5_readElement_230 rfl (i := 2) rfl ?_
          refine r_iconst (n := 1) dX5_readElement_231 ?_
          refine r_iadd dX5_readElement_232 ?_
          obtain ⟨hc82, hT⟩ := hT
          obtain ⟨hc83, hT⟩ := hT
          refine rr_iastore dX5_readElement_233 (wX6_l3 hc78) (wX6_a3 hc78) (by decide) hc82 hc83 (fun M84 eM84 => ?_)
          have hFM84 := jFr_up hFM75 eM84 (wX6_f hc78 3 (by decide))
          replace hT := hT M84 eM84
          refine jOk_mem (fun hIM84 => ?_)
          refine r_iconst (n := 1) dX5_readElement_234 ?_
          exact r_zret dX5_readElement_235 rfl ⟨by decide, by decide⟩ ⟨Nat.zero_le _, Nat.zero_le _⟩ ⟨_, rfl, rfl, hFM84, hT⟩
      · replace hT := hT.2 hcc
        refine r_iconst (n := 0) dX5_readElement_128 ?_
        exact r_zret dX5_readElement_129 rfl ⟨by decide, by decide⟩ ⟨Nat.zero_le _, Nat.zero_le _⟩ ⟨_, rfl, rfl, hFI12, hT⟩
    · replace hT := hT.2 hcc
      refine r_aload_n dX5_readElement_103 rfl (i := 0) rfl ?_
      refine r_dup dX5_readElement_104 rfl ?_
      refine rr_getI (v := I m 2) dX5_readElement_105 fg_X5_40 rfl (wX5_l hm) (wX5_s hm) rfl ?_
      refine r_iconst (n := 1) dX5_readElement_108 ?_
      refine r_iadd dX5_readElement_109 ?_
      obtain ⟨hc86, hT⟩ := hT
      refine rr_putI (jj := 2) dX5_readElement_110 fp_X5_40 rfl rfl (wX5_l hm) (wX5_s hm) hc86 (fun M85 eM85 => ?_)
      have hFM85 := jFr_up hF eM85 (wX5_f hm 0 (by decide))
      replace hT := hT M85 eM85
      refine jOk_mem (fun hIM85 => ?_)
      refine r_goto (tgt := 168) dX5_readElement_113 rfl ?_
      refine r_aload_n dX5_readElement_168 rfl (i := 0) rfl ?_
      obtain ⟨b87, hc88, hc89, hT⟩ := hT
      refine rr_getM (b := b87) dX5_readElement_169 fg_X5_19 rfl rfl (wX5_l hm) (wX5_s hm) ((jr_nj eM85 (by decide)).trans hc88) ?_
      refine rr_getR (b := (b87 + 6)) dX5_readElement_172 fg_X5_112 rfl rfl (wX6_l hc89) (wX6_s hc89) (wX6_r6 hc89) ?_
      refine r_iload_n dX5_readElement_175 rfl (i := 3) rfl ?_
      refine r_iload dX5_readElement_176 (i := 7) rfl ?_
      obtain ⟨hc90, hT⟩ := hT
      refine rr_iastore dX5_readElement_178 (wX6_l6 hc89) (wX6_a6 hc89) (by decide) hc90 ⟨by decide, by decide⟩ (fun M91 eM91 => ?_)
      have hFM91 := jFr_up hFM85 eM91 (wX6_f hc89 6 (by decide))
      replace hT := hT M91 eM91
      refine jOk_mem (fun hIM91 => ?_)
      refine r_aload_n dX5_readElement_179 rfl (i := 0) rfl ?_
      obtain ⟨b92, hc93, hc94, hT⟩ := hT
      refine rr_getM (b := b92) dX5_readElement_180 fg_X5_19 rfl rfl (wX5_l hm) (wX5_s hm) hc93 ?_
      refine rr_getR (b := (b92 + 7)) dX5_readElement_183 fg_X5_115 rfl rfl (wX6_l hc94) (wX6_s hc94) (wX6_r7 hc94) ?_
      refine r_iload_n dX5_readElement_186 rfl (i := 3) rfl ?_
      refine r_iload dX5_readElement_187 (i := 5) rfl ?_
      obtain ⟨hc95, hT⟩ := hT
      refine rr_iastore dX5_readElement_189 (wX6_l7 hc94) (wX6_a7 hc94) (by decide) hc95 ⟨by decide, by decide⟩ (fun M96 eM96 => ?_)
      have hFM96 := jFr_up hFM91 eM96 (wX6_f hc94 7 (by decide))
      replace hT := hT M96 eM96
      refine jOk_mem (fun hIM96 => ?_)
      refine r_aload_n dX5_readElement_190 rfl (i := 0) rfl ?_
      obtain ⟨b97, hc98, hc99, hT⟩ := hT
      refine rr_getM (b := b97) dX5_readElement_191 fg_X5_19 rfl rfl (wX5_l hm) (wX5_s hm) hc98 ?_
      refine rr_getR (b := (b97 + 8)) dX5_readElement_194 fg_X5_118 rfl rfl (wX6_l hc99) (wX6_s hc99) (wX6_r8 hc99) ?_
      refine r_iload_n dX5_readElement_197 rfl (i := 3) rfl ?_
      refine r_iload dX5_readElement_198 (i := 6) rfl ?_
      obtain ⟨hc100, hT⟩ := hT
      refine rr_iastore dX5_readElement_200 (wX6_l8 hc99) (wX6_a8 hc99) (by decide) hc100 (hI _ _).inR (fun M101 eM101 => ?_)
      have hFM101 := jFr_up hFM96 eM101 (wX6_f hc99 8 (by decide))
      replace hT := hT M101 eM101
      refine jOk_mem (fun hIM101 => ?_)
      refine r_aload_n dX5_readElement_201 rfl (i := 0) rfl ?_
      obtain ⟨b102, hc103, hc104, hT⟩ := hT
      refine rr_getM (b := b102) dX5_readElement_202 fg_X5_19 rfl rfl (wX5_l hm) (wX5_s hm) hc103 ?_
      refine rr_getR (b := (b102 + 9)) dX5_readElement_205 fg_X5_121 rfl rfl (wX6_l hc104) (wX6_s hc104) (wX6_r9 hc104) ?_
      refine r_iload_n dX5_readElement_208 rfl (i := 3) rfl ?_
      refine r_aload_n dX5_readElement_209 rfl (i := 0) rfl ?_
      refine rr_getI (v := M101 m 2) dX5_readElement_210 fg_X5_40 rfl (wX5_l hm) (wX5_s hm) rfl ?_
      refine r_iconst (n := 1) dX5_readElement_213 ?_
      refine r_isub dX5_readElement_214 ?_
      obtain ⟨hc105, hT⟩ := hT
      obtain ⟨hc106, hT⟩ := hT
      refine rr_iastore dX5_readElement_215 (wX6_l9 hc104) (wX6_a9 hc104) (by decide) hc105 hc106 (fun M107 eM107 => ?_)
      have hFM107 := jFr_up hFM101 eM107 (wX6_f hc104 9 (by decide))
      replace hT := hT M107 eM107
      refine jOk_mem (fun hIM107 => ?_)
      refine r_aload_n dX5_readElement_216 rfl (i := 0) rfl ?_
      obtain ⟨b108, hc109, hc110, hT⟩ := hT
      refine rr_getM (b := b108) dX5_readElement_217 fg_X5_19 rfl rfl (wX5_l hm) (wX5_s hm) hc109 ?_
      refine rr_getR (b := (b108 + 3)) dX5_readElement_220 fg_X5_84 rfl rfl (wX6_l hc110) (wX6_s hc110) (wX6_r3 hc110) ?_
      refine r_aload_n dX5_readElement_223 rfl (i := 0) rfl ?_
      obtain ⟨b111, hc112, hc113, hT⟩ := hT
      refine rr_getM (b := b111) dX5_readElement_224 fg_X5_19 rfl rfl (wX5_l hm) (wX5_s hm) hc112 ?_
      refine rr_getI (v := M107 b111 1) dX5_readElement_227 fg_X5_35 rfl (wX6_l hc113) (wX6_s hc113) rfl ?_
      refine r_iload_n dX5_readElement_230 rfl (i := 2) rfl ?_
      refine r_iconst (n := 1) dX5_readElement_231 ?_
      refine r_iadd dX5_readElement_232 ?_
      obtain ⟨hc114, hT⟩ := hT
      obtain ⟨hc115, hT⟩ := hT
      refine rr_iastore dX5_readElement_233 (wX6_l3 hc110) (wX6_a3 hc110) (by decide) hc114 hc115 (fun M116 eM116 => ?_)
      have hFM116 := jFr_up hFM107 eM116 (wX6_f hc110 3 (by decide))
      replace hT := hT M116 eM116
      refine jOk_mem (fun hIM116 => ?_)
      refine r_iconst (n := 1) dX5_readElement_234 ?_
      exact r_zret dX5_readElement_235 rfl ⟨by decide, by decide⟩ ⟨Nat.zero_le _, Nat.zero_le _⟩ ⟨_, rfl, rfl, hFM116, hT⟩
  · replace hT := hT.2 hcc
    refine r_aload_n dX5_readElement_50 rfl (i := 0) rfl ?_
    refine rr_cVI (a := m) (as := []) (st := []) dX5_readElement_51 mt_X5_readQuote ml_X5_97 mi_X5_readQuote rm_X5_readElement_X5_readQuote jz_X5_readQuote ⟨Nat.zero_le _, Nat.zero_le _⟩ (Nat.le_of_ble_eq_true rfl) (wX5_l hm) (wX5_c hm) jas0 hT (fun r118 I117 hc119 hFI117 hT => ?_)
    replace hFI117 := jFr_tr hF hFI117
    refine jOk_mem (fun hI117 => ?_)
    refine r_if_ne (tgt := 59) dX5_readElement_54 rfl hc119 (fun hcc => ?_) (fun hcc => ?_)
    · replace hT := hT.1 hcc
      refine r_aload_n dX5_readElement_59 rfl (i := 0) rfl ?_
      refine r_iload dX5_readElement_60 (i := 4) rfl ?_
      refine r_iconst (n := 1) dX5_readElement_62 ?_
      refine r_iadd dX5_readElement_63 ?_
      refine r_aload_n dX5_readElement_64 rfl (i := 0) rfl ?_
      refine rr_getI (v := I117 m 2) dX5_readElement_65 fg_X5_40 rfl (wX5_l hm) (wX5_s hm) rfl ?_
      refine r_iconst (n := 1) dX5_readElement_68 ?_
      refine r_isub dX5_readElement_69 ?_
      obtain ⟨hc121, hT⟩ := hT
      obtain ⟨hc120, hT⟩ := hT
      refine rr_cVI (a := m) (as := [VI ((I m 2) + 1), VI ((I117 m 2) - 1)]) (st := []) dX5_readElement_70 mt_X5_isOneToken ml_X5_100 mi_X5_isOneToken rm_X5_readElement_X5_isOneToken jz_X5_isOneToken ⟨Nat.zero_le _, Nat.zero_le _⟩ (Nat.le_of_ble_eq_true rfl) (wX5_l hm) (wX5_c hm) (jasI hc121 (jasI hc120 jas0)) hT (fun r123 I122 hc124 hFI122 hT => ?_)
      replace hFI122 := jFr_tr hFI117 hFI122
      refine jOk_mem (fun hI122 => ?_)
      refine r_if_ne (tgt := 85) dX5_readElement_73 rfl hc124 (fun hcc => ?_) (fun hcc => ?_)
      · replace hT := hT.1 hcc
        refine r_iconst (n := 4) dX5_readElement_85 ?_
        refine rr_istore (i := 7) (ls' := [VR m, VI x1, VI (I (b1 + 3) (I b4 1)), VI (((I b8 1) * 6) + (I (b1 + 3) (I b4 1))), VI (I m 2), VI (-1), VI (I (b1 + 3) (I b4 1)), VI 4, VN]) dX5_readElement_86 (Nat.le_of_ble_eq_true rfl) rfl rfl ⟨by decide, by decide⟩ ?_
        refine r_iload dX5_readElement_88 (i := 4) rfl ?_
        refine r_iconst (n := 1) dX5_readElement_90 ?_
        refine r_iadd dX5_readElement_91 ?_
        obtain ⟨hc125, hT⟩ := hT
        refine rr_istore (i := 6) (ls' := [VR m, VI x1, VI (I (b1 + 3) (I b4 1)), VI (((I b8 1) * 6) + (I (b1 + 3) (I b4 1))), VI (I m 2), VI (-1), VI ((I m 2) + 1), VI 4, VN]) dX5_readElement_92 (Nat.le_of_ble_eq_true rfl) rfl rfl hc125 ?_
        refine r_goto (tgt := 168) dX5_readElement_94 rfl ?_
        refine r_aload_n dX5_readElement_168 rfl (i := 0) rfl ?_
        obtain ⟨b126, hc127, hc128, hT⟩ := hT
        refine rr_getM (b := b126) dX5_readElement_169 fg_X5_19 rfl rfl (wX5_l hm) (wX5_s hm) hc127 ?_
        refine rr_getR (b := (b126 + 6)) dX5_readElement_172 fg_X5_112 rfl rfl (wX6_l hc128) (wX6_s hc128) (wX6_r6 hc128) ?_
        refine r_iload_n dX5_readElement_175 rfl (i := 3) rfl ?_
        refine r_iload dX5_readElement_176 (i := 7) rfl ?_
        obtain ⟨hc129, hT⟩ := hT
        refine rr_iastore dX5_readElement_178 (wX6_l6 hc128) (wX6_a6 hc128) (by decide) hc129 ⟨by decide, by decide⟩ (fun M130 eM130 => ?_)
        have hFM130 := jFr_up hFI122 eM130 (wX6_f hc128 6 (by decide))
        replace hT := hT M130 eM130
        refine jOk_mem (fun hIM130 => ?_)
        refine r_aload_n dX5_readElement_179 rfl (i := 0) rfl ?_
        obtain ⟨b131, hc132, hc133, hT⟩ := hT
        refine rr_getM (b := b131) dX5_readElement_180 fg_X5_19 rfl rfl (wX5_l hm) (wX5_s hm) hc132 ?_
        refine rr_getR (b := (b131 + 7)) dX5_readElement_183 fg_X5_115 rfl rfl (wX6_l hc133) (wX6_s hc133) (wX6_r7 hc133) ?_
        refine r_iload_n dX5_readElement_186 rfl (i := 3) rfl ?_
        refine r_iload dX5_readElement_187 (i := 5) rfl ?_
        obtain ⟨hc134, hT⟩ := hT
        refine rr_iastore dX5_readElement_189 (wX6_l7 hc133) (wX6_a7 hc133) (by decide) hc134 ⟨by decide, by decide⟩ (fun M135 eM135 => ?_)
        have hFM135 := jFr_up hFM130 eM135 (wX6_f hc133 7 (by decide))
        replace hT := hT M135 eM135
        refine jOk_mem (fun hIM135 => ?_)
        refine r_aload_n dX5_readElement_190 rfl (i := 0) rfl ?_
        obtain ⟨b136, hc137, hc138, hT⟩ := hT
        refine rr_getM (b := b136) dX5_readElement_191 fg_X5_19 rfl rfl (wX5_l hm) (wX5_s hm) hc137 ?_
        refine rr_getR (b := (b136 + 8)) dX5_readElement_194 fg_X5_118 rfl rfl (wX6_l hc138) (wX6_s hc138) (wX6_r8 hc138) ?_
        refine r_iload_n dX5_readElement_197 rfl (i := 3) rfl ?_
        refine r_iload dX5_readElement_198 (i := 6) rfl ?_
        obtain ⟨hc139, hT⟩ := hT
        refine rr_iastore dX5_readElement_200 (wX6_l8 hc138) (wX6_a8 hc138) (by decide) hc139 hc125 (fun M140 eM140 => ?_)
        have hFM140 := jFr_up hFM135 eM140 (wX6_f hc138 8 (by decide))
        replace hT := hT M140 eM140
        refine jOk_mem (fun hIM140 => ?_)
        refine r_aload_n dX5_readElement_201 rfl (i := 0) rfl ?_
        obtain ⟨b141, hc142, hc143, hT⟩ := hT
        refine rr_getM (b := b141) dX5_readElement_202 fg_X5_19 rfl rfl (wX5_l hm) (wX5_s hm) hc142 ?_
        refine rr_getR (b := (b141 + 9)) dX5_readElement_205 fg_X5_121 rfl rfl (wX6_l hc143) (wX6_s hc143) (wX6_r9 hc143) ?_
        refine r_iload_n dX5_readElement_208 rfl (i := 3) rfl ?_
        refine r_aload_n dX5_readElement_209 rfl (i := 0) rfl ?_
        refine rr_getI (v := M140 m 2) dX5_readElement_210 fg_X5_40 rfl (wX5_l hm) (wX5_s hm) rfl ?_
        refine r_iconst (n := 1) dX5_readElement_213 ?_
        refine r_isub dX5_readElement_214 ?_
        obtain ⟨hc144, hT⟩ := hT
        obtain ⟨hc145, hT⟩ := hT
        refine rr_iastore dX5_readElement_215 (wX6_l9 hc143) (wX6_a9 hc143) (by decide) hc144 hc145 (fun M146 eM146 => ?_)
        have hFM146 := jFr_up hFM140 eM146 (wX6_f hc143 9 (by decide))
        replace hT := hT M146 eM146
        refine jOk_mem (fun hIM146 => ?_)
        refine r_aload_n dX5_readElement_216 rfl (i := 0) rfl ?_
        obtain ⟨b147, hc148, hc149, hT⟩ := hT
        refine rr_getM (b := b147) dX5_readElement_217 fg_X5_19 rfl rfl (wX5_l hm) (wX5_s hm) hc148 ?_
        refine rr_getR (b := (b147 + 3)) dX5_readElement_220 fg_X5_84 rfl rfl (wX6_l hc149) (wX6_s hc149) (wX6_r3 hc149) ?_
        refine r_aload_n dX5_readElement_223 rfl (i := 0) rfl ?_
        obtain ⟨b150, hc151, hc152, hT⟩ := hT
        refine rr_getM (b := b150) dX5_readElement_224 fg_X5_19 rfl rfl (wX5_l hm) (wX5_s hm) hc151 ?_
        refine rr_getI (v := M146 b150 1) dX5_readElement_227 fg_X5_35 rfl (wX6_l hc152) (wX6_s hc152) rfl ?_
        refine r_iload_n dX5_readElement_230 rfl (i := 2) rfl ?_
        refine r_iconst (n := 1) dX5_readElement_231 ?_
        refine r_iadd dX5_readElement_232 ?_
        obtain ⟨hc153, hT⟩ := hT
        obtain ⟨hc154, hT⟩ := hT
        refine rr_iastore dX5_readElement_233 (wX6_l3 hc149) (wX6_a3 hc149) (by decide) hc153 hc154 (fun M155 eM155 => ?_)
        have hFM155 := jFr_up hFM146 eM155 (wX6_f hc149 3 (by decide))
        replace hT := hT M155 eM155
        refine jOk_mem (fun hIM155 => ?_)
        refine r_iconst (n := 1) dX5_readElement_234 ?_
        exact r_zret dX5_readElement_235 rfl ⟨by decide, by decide⟩ ⟨Nat.zero_le _, Nat.zero_le _⟩ ⟨_, rfl, rfl, hFM155, hT⟩
      · replace hT := hT.2 hcc
        refine r_aload_n dX5_readElement_76 rfl (i := 0) rfl ?_
        refine r_bipush (n := 6) dX5_readElement_77 (by decide +kernel) ?_
        refine r_iload dX5_readElement_79 (i := 4) rfl ?_
        refine rr_cVI (a := m) (as := [VI 6, VI (I m 2)]) (st := []) dX5_readElement_81 mt_X5_fail ml_X5_76 mi_X5_fail rm_X5_readElement_X5_fail jz_X5_fail ⟨Nat.zero_le _, Nat.zero_le _⟩ (Nat.le_of_ble_eq_true rfl) (wX5_l hm) (wX5_c hm) (jasI ⟨by decide, by decide⟩ (jasI (hI _ _).inR jas0)) hT (fun r157 I156 hc158 hFI156 hT => ?_)
        replace hFI156 := jFr_tr hFI122 hFI156
        refine jOk_mem (fun hI156 => ?_)
        obtain ⟨hc159, hT⟩ := hT
        exact r_zret dX5_readElement_84 rfl hc159 ⟨Nat.zero_le _, Nat.zero_le _⟩ ⟨_, rfl, rfl, hFI156, hT⟩
    · replace hT := hT.2 hcc
      refine r_iconst (n := 0) dX5_readElement_57 ?_
      exact r_zret dX5_readElement_58 rfl ⟨by decide, by decide⟩ ⟨Nat.zero_le _, Nat.zero_le _⟩ ⟨_, rfl, rfl, hFI117, hT⟩
theorem en_X5_readElement {E : jE} {G : jG} {I : jM} {q : Int → jM → Prop} {m : Nat} {x1 : Int} (hm : WX5 G m) (hT : (∀ a j, jRg (G.2.1 a).1 (I a j)) → jIn x1 → (∃ b1 : Nat, I m 3 = (b1 : Int) ∧ WX6 G b1 ∧ (∃ b4 : Nat, I m 3 = (b4 : Int) ∧ WX6 G b4 ∧ ((0 : Int) ≤ (I b4 1) ∧ ((I b4 1) : Int) < 6) ∧ (∃ b8 : Nat, I m 3 = (b8 : Int) ∧ WX6 G b8 ∧ jIn (((I b8 1) * 6) + (I (b1 + 3) (I b4 1))) ∧ ((¬ x1 = 39 → ((¬ x1 = 95 → jRI E jB kX5_readName [VR m] G I (fun r13 I12 => ((¬ r13 = (-1) → (∃ b16 : Nat, I12 m 3 = (b16 : Int) ∧ WX6 G b16 ∧ (∃ b19 : Nat, I12 m 3 = (b19 : Int) ∧ WX6 G b19 ∧ jRI E jB kX6_elementNamed [VR b16, VI (I12 b19 1), VI r13] G I12 (fun r23 I22 => ((¬ r23 = (-1) → (∃ b25 : Nat, I22 m 3 = (b25 : Int) ∧ WX6 G b25 ∧ ((0 : Int) ≤ (((I b8 1) * 6) + (I (b1 + 3) (I b4 1))) ∧ ((((I b8 1) * 6) + (I (b1 + 3) (I b4 1))) : Int) < 36) ∧ (∀ M29, M29 = jup I22 (b25 + 6) (((I b8 1) * 6) + (I (b1 + 3) (I b4 1))) (nso x1) → (∃ b30 : Nat, M29 m 3 = (b30 : Int) ∧ WX6 G b30 ∧ ((0 : Int) ≤ (((I b8 1) * 6) + (I (b1 + 3) (I b4 1))) ∧ ((((I b8 1) * 6) + (I (b1 + 3) (I b4 1))) : Int) < 36) ∧ (∀ M34, M34 = jup M29 (b30 + 7) (((I b8 1) * 6) + (I (b1 + 3) (I b4 1))) r13 → (∃ b35 : Nat, M34 m 3 = (b35 : Int) ∧ WX6 G b35 ∧ ((0 : Int) ≤ (((I b8 1) * 6) + (I (b1 + 3) (I b4 1))) ∧ ((((I b8 1) * 6) + (I (b1 + 3) (I b4 1))) : Int) < 36) ∧ (∀ M39, M39 = jup M34 (b35 + 8) (((I b8 1) * 6) + (I (b1 + 3) (I b4 1))) r23 → (∃ b40 : Nat, M39 m 3 = (b40 : Int) ∧ WX6 G b40 ∧ ((0 : Int) ≤ (((I b8 1) * 6) + (I (b1 + 3) (I b4 1))) ∧ ((((I b8 1) * 6) + (I (b1 + 3) (I b4 1))) : Int) < 36) ∧ jIn ((M39 m 2) - 1) ∧ (∀ M45, M45 = jup M39 (b40 + 9) (((I b8 1) * 6) + (I (b1 + 3) (I b4 1))) ((M39 m 2) - 1) → (∃ b46 : Nat, M45 m 3 = (b46 : Int) ∧ WX6 G b46 ∧ (∃ b49 : Nat, M45 m 3 = (b49 : Int) ∧ WX6 G b49 ∧ ((0 : Int) ≤ (M45 b49 1) ∧ ((M45 b49 1) : Int) < 6) ∧ jIn ((I (b1 + 3) (I b4 1)) + 1) ∧ (∀ M54, M54 = jup M45 (b46 + 3) (M45 b49 1) ((I (b1 + 3) (I b4 1)) + 1) → q 1 M54)))))))))))) ∧ (r23 = (-1) → (∃ b55 : Nat, I22 m 3 = (b55 : Int) ∧ WX6 G b55 ∧ ((0 : Int) ≤ (((I b8 1) * 6) + (I (b1 + 3) (I b4 1))) ∧ ((((I b8 1) * 6) + (I (b1 + 3) (I b4 1))) : Int) < 36) ∧ (∀ M59, M59 = jup I22 (b55 + 6) (((I b8 1) * 6) + (I (b1 + 3) (I b4 1))) (nso x1) → (∃ b60 : Nat, M59 m 3 = (b60 : Int) ∧ WX6 G b60 ∧ ((0 : Int) ≤ (((I b8 1) * 6) + (I (b1 + 3) (I b4 1))) ∧ ((((I b8 1) * 6) + (I (b1 + 3) (I b4 1))) : Int) < 36) ∧ (∀ M64, M64 = jup M59 (b60 + 7) (((I b8 1) * 6) + (I (b1 + 3) (I b4 1))) r13 → (∃ b65 : Nat, M64 m 3 = (b65 : Int) ∧ WX6 G b65 ∧ ((0 : Int) ≤ (((I b8 1) * 6) + (I (b1 + 3) (I b4 1))) ∧ ((((I b8 1) * 6) + (I (b1 + 3) (I b4 1))) : Int) < 36) ∧ (∀ M69, M69 = jup M64 (b65 + 8) (((I b8 1) * 6) + (I (b1 + 3) (I b4 1))) (I (b1 + 3) (I b4 1)) → (∃ b70 : Nat, M69 m 3 = (b70 : Int) ∧ WX6 G b70 ∧ ((0 : Int) ≤ (((I b8 1) * 6) + (I (b1 + 3) (I b4 1))) ∧ ((((I b8 1) * 6) + (I (b1 + 3) (I b4 1))) : Int) < 36) ∧ jIn ((M69 m 2) - 1) ∧ (∀ M75, M75 = jup M69 (b70 + 9) (((I b8 1) * 6) + (I (b1 + 3) (I b4 1))) ((M69 m 2) - 1) → (∃ b76 : Nat, M75 m 3 = (b76 : Int) ∧ WX6 G b76 ∧ (∃ b79 : Nat, M75 m 3 = (b79 : Int) ∧ WX6 G b79 ∧ ((0 : Int) ≤ (M75 b79 1) ∧ ((M75 b79 1) : Int) < 6) ∧ jIn ((I (b1 + 3) (I b4 1)) + 1) ∧ (∀ M84, M84 = jup M75 (b76 + 3) (M75 b79 1) ((I (b1 + 3) (I b4 1)) + 1) → q 1 M84))))))))))))))))) ∧ (r13 = (-1) → q 0 I12)))) ∧ (x1 = 95 → jIn ((I m 2) + 1) ∧ (∀ M85, M85 = jup I m 2 ((I m 2) + 1) → (∃ b87 : Nat, I m 3 = (b87 : Int) ∧ WX6 G b87 ∧ ((0 : Int) ≤ (((I b8 1) * 6) + (I (b1 + 3) (I b4 1))) ∧ ((((I b8 1) * 6) + (I (b1 + 3) (I b4 1))) : Int) < 36) ∧ (∀ M91, M91 = jup M85 (b87 + 6) (((I b8 1) * 6) + (I (b1 + 3) (I b4 1))) 2 → (∃ b92 : Nat, M91 m 3 = (b92 : Int) ∧ WX6 G b92 ∧ ((0 : Int) ≤ (((I b8 1) * 6) + (I (b1 + 3) (I b4 1))) ∧ ((((I b8 1) * 6) + (I (b1 + 3) (I b4 1))) : Int) < 36) ∧ (∀ M96, M96 = jup M91 (b92 + 7) (((I b8 1) * 6) + (I (b1 + 3) (I b4 1))) (-1) → (∃ b97 : Nat, M96 m 3 = (b97 : Int) ∧ WX6 G b97 ∧ ((0 : Int) ≤ (((I b8 1) * 6) + (I (b1 + 3) (I b4 1))) ∧ ((((I b8 1) * 6) + (I (b1 + 3) (I b4 1))) : Int) < 36) ∧ (∀ M101, M101 = jup M96 (b97 + 8) (((I b8 1) * 6) + (I (b1 + 3) (I b4 1))) (I (b1 + 3) (I b4 1)) → (∃ b102 : Nat, M101 m 3 = (b102 : Int) ∧ WX6 G b102 ∧ ((0 : Int) ≤ (((I b8 1) * 6) + (I (b1 + 3) (I b4 1))) ∧ ((((I b8 1) * 6) + (I (b1 + 3) (I b4 1))) : Int) < 36) ∧ jIn ((M101 m 2) - 1) ∧ (∀ M107, M107 = jup M101 (b102 + 9) (((I b8 1) * 6) + (I (b1 + 3) (I b4 1))) ((M101 m 2) - 1) → (∃ b108 : Nat, M107 m 3 = (b108 : Int) ∧ WX6 G b108 ∧ (∃ b111 : Nat, M107 m 3 = (b111 : Int) ∧ WX6 G b111 ∧ ((0 : Int) ≤ (M107 b111 1) ∧ ((M107 b111 1) : Int) < 6) ∧ jIn ((I (b1 + 3) (I b4 1)) + 1) ∧ (∀ M116, M116 = jup M107 (b108 + 3) (M107 b111 1) ((I (b1 + 3) (I b4 1)) + 1) → q 1 M116))))))))))))))) ∧ (x1 = 39 → jRI E jB kX5_readQuote [VR m] G I (fun r118 I117 => ((¬ r118 = 0 → jIn ((I m 2) + 1) ∧ jIn ((I117 m 2) - 1) ∧ jRI E jB kX5_isOneToken [VR m, VI ((I m 2) + 1), VI ((I117 m 2) - 1)] G I117 (fun r123 I122 => ((¬ r123 = 0 → jIn ((I m 2) + 1) ∧ (∃ b126 : Nat, I122 m 3 = (b126 : Int) ∧ WX6 G b126 ∧ ((0 : Int) ≤ (((I b8 1) * 6) + (I (b1 + 3) (I b4 1))) ∧ ((((I b8 1) * 6) + (I (b1 + 3) (I b4 1))) : Int) < 36) ∧ (∀ M130, M130 = jup I122 (b126 + 6) (((I b8 1) * 6) + (I (b1 + 3) (I b4 1))) 4 → (∃ b131 : Nat, M130 m 3 = (b131 : Int) ∧ WX6 G b131 ∧ ((0 : Int) ≤ (((I b8 1) * 6) + (I (b1 + 3) (I b4 1))) ∧ ((((I b8 1) * 6) + (I (b1 + 3) (I b4 1))) : Int) < 36) ∧ (∀ M135, M135 = jup M130 (b131 + 7) (((I b8 1) * 6) + (I (b1 + 3) (I b4 1))) (-1) → (∃ b136 : Nat, M135 m 3 = (b136 : Int) ∧ WX6 G b136 ∧ ((0 : Int) ≤ (((I b8 1) * 6) + (I (b1 + 3) (I b4 1))) ∧ ((((I b8 1) * 6) + (I (b1 + 3) (I b4 1))) : Int) < 36) ∧ (∀ M140, M140 = jup M135 (b136 + 8) (((I b8 1) * 6) + (I (b1 + 3) (I b4 1))) ((I m 2) + 1) → (∃ b141 : Nat, M140 m 3 = (b141 : Int) ∧ WX6 G b141 ∧ ((0 : Int) ≤ (((I b8 1) * 6) + (I (b1 + 3) (I b4 1))) ∧ ((((I b8 1) * 6) + (I (b1 + 3) (I b4 1))) : Int) < 36) ∧ jIn ((M140 m 2) - 1) ∧ (∀ M146, M146 = jup M140 (b141 + 9) (((I b8 1) * 6) + (I (b1 + 3) (I b4 1))) ((M140 m 2) - 1) → (∃ b147 : Nat, M146 m 3 = (b147 : Int) ∧ WX6 G b147 ∧ (∃ b150 : Nat, M146 m 3 = (b150 : Int) ∧ WX6 G b150 ∧ ((0 : Int) ≤ (M146 b150 1) ∧ ((M146 b150 1) : Int) < 6) ∧ jIn ((I (b1 + 3) (I b4 1)) + 1) ∧ (∀ M155, M155 = jup M146 (b147 + 3) (M146 b150 1) ((I (b1 + 3) (I b4 1)) + 1) → q 1 M155)))))))))))) ∧ (r123 = 0 → jRI E jB kX5_fail [VR m, VI 6, VI (I m 2)] G I122 (fun r157 I156 => (0 ≤ r157 ∧ r157 ≤ 1) ∧ q r157 I156))))) ∧ (r118 = 0 → q 0 I117))))))))) : jRI E jB kX5_readElement [VR m, VI x1] G I q := jRun.of mt_X5_readElement.2.2.2 7 rfl (fun _ => st_X5_readElement_0 hm hT I (fun _ _ => rfl))
set_option maxRecDepth 20000 in
theorem st_X5_readElements_2 {E : jE} {G : jG} {I : jM} {q : Int → jM → Prop} {m : Nat} {x1 : Int} (hm : WX5 G m) (hT : (∀ a j, jRg (G.2.1 a).1 (I a j)) → jIn x1 → ((6 < x1 → q 0 I) ∧ (¬ 6 < x1 → (I m 1 ≤ 300) ∧ ((¬ (cnx I m) = 62 → (((isNs (cnx I m)) → ((¬ x1 = 6 → jRI E jB kX5_readElement [VR m, VI (cnx I m)] G I (fun r5 I4 => ((¬ r5 = 0 → jIn (x1 + 1) ∧ jOI E jB kX5_readElements 2 [VR m, VI (x1 + 1), VN] G I4 q) ∧ (r5 = 0 → q 0 I4)))) ∧ (x1 = 6 → jRI E jB kX5_fail [VR m, VI 4, VI (I m 2)] G I (fun r9 I8 => (0 ≤ r9 ∧ r9 ≤ 1) ∧ q r9 I8)))) ∧ (¬ (isNs (cnx I m)) → (((cnx I m) = 95 → ((¬ x1 = 6 → jRI E jB kX5_readElement [VR m, VI (cnx I m)] G I (fun r13 I12 => ((¬ r13 = 0 → jIn (x1 + 1) ∧ jOI E jB kX5_readElements 2 [VR m, VI (x1 + 1), VN] G I12 q) ∧ (r13 = 0 → q 0 I12)))) ∧ (x1 = 6 → jRI E jB kX5_fail [VR m, VI 4, VI (I m 2)] G I (fun r17 I16 => (0 ≤ r17 ∧ r17 ≤ 1) ∧ q r17 I16)))) ∧ (¬ (cnx I m) = 95 → (((cnx I m) = 39 → ((¬ x1 = 6 → jRI E jB kX5_readElement [VR m, VI (cnx I m)] G I (fun r21 I20 => ((¬ r21 = 0 → jIn (x1 + 1) ∧ jOI E jB kX5_readElements 2 [VR m, VI (x1 + 1), VN] G I20 q) ∧ (r21 = 0 → q 0 I20)))) ∧ (x1 = 6 → jRI E jB kX5_fail [VR m, VI 4, VI (I m 2)] G I (fun r25 I24 => (0 ≤ r25 ∧ r25 ≤ 1) ∧ q r25 I24)))) ∧ (¬ (cnx I m) = 39 → jRI E jB kX5_fail [VR m, VI 1, VI (I m 2)] G I (fun r29 I28 => (0 ≤ r29 ∧ r29 ≤ 1) ∧ q r29 I28)))))))) ∧ ((cnx I m) = 62 → ((x1 ≤ 0 → (((isNs (cnx I m)) → ((¬ x1 = 6 → jRI E jB kX5_readElement [VR m, VI (cnx I m)] G I (fun r34 I33 => ((¬ r34 = 0 → jIn (x1 + 1) ∧ jOI E jB kX5_readElements 2 [VR m, VI (x1 + 1), VN] G I33 q) ∧ (r34 = 0 → q 0 I33)))) ∧ (x1 = 6 → jRI E jB kX5_fail [VR m, VI 4, VI (I m 2)] G I (fun r38 I37 => (0 ≤ r38 ∧ r38 ≤ 1) ∧ q r38 I37)))) ∧ (¬ (isNs (cnx I m)) → (((cnx I m) = 95 → ((¬ x1 = 6 → jRI E jB kX5_readElement [VR m, VI (cnx I m)] G I (fun r42 I41 => ((¬ r42 = 0 → jIn (x1 + 1) ∧ jOI E jB kX5_readElements 2 [VR m, VI (x1 + 1), VN] G I41 q) ∧ (r42 = 0 → q 0 I41)))) ∧ (x1 = 6 → jRI E jB kX5_fail [VR m, VI 4, VI (I m 2)] G I (fun r46 I45 => (0 ≤ r46 ∧ r46 ≤ 1) ∧ q r46 I45)))) ∧ (¬ (cnx I m) = 95 → (((cnx I m) = 39 → ((¬ x1 = 6 → jRI E jB kX5_readElement [VR m, VI (cnx I m)] G I (fun r50 I49 => ((¬ r50 = 0 → jIn (x1 + 1) ∧ jOI E jB kX5_readElements 2 [VR m, VI (x1 + 1), VN] G I49 q) ∧ (r50 = 0 → q 0 I49)))) ∧ (x1 = 6 → jRI E jB kX5_fail [VR m, VI 4, VI (I m 2)] G I (fun r54 I53 => (0 ≤ r54 ∧ r54 ≤ 1) ∧ q r54 I53)))) ∧ (¬ (cnx I m) = 39 → jRI E jB kX5_fail [VR m, VI 1, VI (I m 2)] G I (fun r58 I57 => (0 ≤ r58 ∧ r58 ≤ 1) ∧ q r58 I57)))))))) ∧ (¬ x1 ≤ 0 → jIn ((I m 2) + 1) ∧ (∀ M61, M61 = jup I m 2 ((I m 2) + 1) → q 1 M61)))))))) : jOI E jB kX5_readElements 2 [VR m, VI x1, VN] G I q := by
  intro I0 hF
  refine jOk_mem (fun hI => ?_)
  refine jOk_in (i := 1) rfl (fun hx1 => ?_)
  replace hT := hT hI hx1
  refine r_iload_n dX5_readElements_2 rfl (i := 1) rfl ?_
  refine r_bipush (n := 6) dX5_readElements_3 (by decide +kernel) ?_
  refine r_icmp_gt (tgt := 96) dX5_readElements_5 rfl hx1 ⟨by decide, by decide⟩ (fun hcc => ?_) (fun hcc => ?_)
  · replace hT := hT.1 hcc
    refine r_iconst (n := 0) dX5_readElements_96 ?_
    exact r_zret dX5_readElements_97 rfl ⟨by decide, by decide⟩ ⟨Nat.zero_le _, Nat.zero_le _⟩ ⟨_, rfl, rfl, hF, hT⟩
  · replace hT := hT.2 hcc
    refine r_aload_n dX5_readElements_8 rfl (i := 0) rfl ?_
    obtain ⟨hc2, hT⟩ := hT
    refine rr_pVI (A := jB) (v := cnx I m) (a := m) (as := []) (st := []) dX5_readElements_9 mt_X5_peek ml_X5_68 mi_X5_peek rm_X5_readElements_X5_peek jz_X5_peek ⟨Nat.zero_le _, Nat.zero_le _⟩ (Nat.le_of_ble_eq_true rfl) (wX5_l hm) (wX5_c hm) jas0 ((sp_X5_peek hm) hc2) (fun hc1 => ?_)
    refine rr_istore_n (i := 2) (ls' := [VR m, VI x1, VI (cnx I m)]) dX5_readElements_12 rfl (Nat.le_of_ble_eq_true rfl) rfl rfl hc1 ?_
    refine r_iload_n dX5_readElements_13 rfl (i := 2) rfl ?_
    refine r_bipush (n := 62) dX5_readElements_14 (by decide +kernel) ?_
    refine r_icmp_ne (tgt := 35) dX5_readElements_16 rfl hc1 ⟨by decide, by decide⟩ (fun hcc => ?_) (fun hcc => ?_)
    · replace hT := hT.1 hcc
      refine r_iload_n dX5_readElements_35 rfl (i := 2) rfl ?_
      refine rr_pSI (A := jB) (v := jI (isNs (cnx I m))) (as := [VI (cnx I m)]) (st := []) dX5_readElements_36 mt_X5_isNamedSort ml_X5_90 ms_X5_isNamedSort rm_X5_readElements_X5_isNamedSort jz_X5_isNamedSort ⟨Nat.zero_le _, Nat.zero_le _⟩ (Nat.le_of_ble_eq_true rfl) (jasI hc1 jas0) sp_X5_isNamedSort (fun hc3 => ?_)
      refine r_if_ne (tgt := 64) dX5_readElements_39 rfl hc3 (fun hcc => ?_) (fun hcc => ?_)
      · replace hT := hT.1 (jI_p hcc)
        refine r_iload_n dX5_readElements_64 rfl (i := 1) rfl ?_
        refine r_bipush (n := 6) dX5_readElements_65 (by decide +kernel) ?_
        refine r_icmp_ne (tgt := 80) dX5_readElements_67 rfl hx1 ⟨by decide, by decide⟩ (fun hcc => ?_) (fun hcc => ?_)
        · replace hT := hT.1 hcc
          refine r_aload_n dX5_readElements_80 rfl (i := 0) rfl ?_
          refine r_iload_n dX5_readElements_81 rfl (i := 2) rfl ?_
          refine rr_cVI (a := m) (as := [VI (cnx I m)]) (st := []) dX5_readElements_82 mt_X5_readElement ml_X5_94 mi_X5_readElement rm_X5_readElements_X5_readElement jz_X5_readElement ⟨Nat.zero_le _, Nat.zero_le _⟩ (Nat.le_of_ble_eq_true rfl) (wX5_l hm) (wX5_c hm) (jasI hc1 jas0) hT (fun r5 I4 hc6 hFI4 hT => ?_)
          replace hFI4 := jFr_tr hF hFI4
          refine jOk_mem (fun hI4 => ?_)
          refine r_if_ne (tgt := 90) dX5_readElements_85 rfl hc6 (fun hcc => ?_) (fun hcc => ?_)
          · replace hT := hT.1 hcc
            obtain ⟨hc7, hT⟩ := hT
            refine rr_iinc (i := 1) (ls' := [VR m, VI (x1 + 1), VI (cnx I m)]) dX5_readElements_90 rfl (Nat.le_of_ble_eq_true rfl) rfl rfl hc7 ?_
            refine r_goto (tgt := 2) dX5_readElements_93 rfl ?_
            exact jOk_le (ls' := [VR m, VI (x1 + 1), VN]) ⟨Or.inr rfl, Or.inr rfl, Or.inl rfl, trivial⟩ (hT I0 hFI4)
          · replace hT := hT.2 hcc
            refine r_iconst (n := 0) dX5_readElements_88 ?_
            exact r_zret dX5_readElements_89 rfl ⟨by decide, by decide⟩ ⟨Nat.zero_le _, Nat.zero_le _⟩ ⟨_, rfl, rfl, hFI4, hT⟩
        · replace hT := hT.2 hcc
          refine r_aload_n dX5_readElements_70 rfl (i := 0) rfl ?_
          refine r_iconst (n := 4) dX5_readElements_71 ?_
          refine r_aload_n dX5_readElements_72 rfl (i := 0) rfl ?_
          refine rr_getI (v := I m 2) dX5_readElements_73 fg_X5_40 rfl (wX5_l hm) (wX5_s hm) rfl ?_
          refine rr_cVI (a := m) (as := [VI 4, VI (I m 2)]) (st := []) dX5_readElements_76 mt_X5_fail ml_X5_76 mi_X5_fail rm_X5_readElements_X5_fail jz_X5_fail ⟨Nat.zero_le _, Nat.zero_le _⟩ (Nat.le_of_ble_eq_true rfl) (wX5_l hm) (wX5_c hm) (jasI ⟨by decide, by decide⟩ (jasI (hI _ _).inR jas0)) hT (fun r9 I8 hc10 hFI8 hT => ?_)
          replace hFI8 := jFr_tr hF hFI8
          refine jOk_mem (fun hI8 => ?_)
          obtain ⟨hc11, hT⟩ := hT
          exact r_zret dX5_readElements_79 rfl hc11 ⟨Nat.zero_le _, Nat.zero_le _⟩ ⟨_, rfl, rfl, hFI8, hT⟩
      · replace hT := hT.2 (jI_n hcc)
        refine r_iload_n dX5_readElements_42 rfl (i := 2) rfl ?_
        refine r_bipush (n := 95) dX5_readElements_43 (by decide +kernel) ?_
        refine r_icmp_eq (tgt := 64) dX5_readElements_45 rfl hc1 ⟨by decide, by decide⟩ (fun hcc => ?_) (fun hcc => ?_)
        · replace hT := hT.1 hcc
          refine r_iload_n dX5_readElements_64 rfl (i := 1) rfl ?_
          refine r_bipush (n := 6) dX5_readElements_65 (by decide +kernel) ?_
          refine r_icmp_ne (tgt := 80) dX5_readElements_67 rfl hx1 ⟨by decide, by decide⟩ (fun hcc => ?_) (fun hcc => ?_)
          · replace hT := hT.1 hcc
            refine r_aload_n dX5_readElements_80 rfl (i := 0) rfl ?_
            refine r_iload_n dX5_readElements_81 rfl (i := 2) rfl ?_
            refine rr_cVI (a := m) (as := [VI (cnx I m)]) (st := []) dX5_readElements_82 mt_X5_readElement ml_X5_94 mi_X5_readElement rm_X5_readElements_X5_readElement jz_X5_readElement ⟨Nat.zero_le _, Nat.zero_le _⟩ (Nat.le_of_ble_eq_true rfl) (wX5_l hm) (wX5_c hm) (jasI hc1 jas0) hT (fun r13 I12 hc14 hFI12 hT => ?_)
            replace hFI12 := jFr_tr hF hFI12
            refine jOk_mem (fun hI12 => ?_)
            refine r_if_ne (tgt := 90) dX5_readElements_85 rfl hc14 (fun hcc => ?_) (fun hcc => ?_)
            · replace hT := hT.1 hcc
              obtain ⟨hc15, hT⟩ := hT
              refine rr_iinc (i := 1) (ls' := [VR m, VI (x1 + 1), VI (cnx I m)]) dX5_readElements_90 rfl (Nat.le_of_ble_eq_true rfl) rfl rfl hc15 ?_
              refine r_goto (tgt := 2) dX5_readElements_93 rfl ?_
              exact jOk_le (ls' := [VR m, VI (x1 + 1), VN]) ⟨Or.inr rfl, Or.inr rfl, Or.inl rfl, trivial⟩ (hT I0 hFI12)
            · replace hT := hT.2 hcc
              refine r_iconst (n := 0) dX5_readElements_88 ?_
              exact r_zret dX5_readElements_89 rfl ⟨by decide, by decide⟩ ⟨Nat.zero_le _, Nat.zero_le _⟩ ⟨_, rfl, rfl, hFI12, hT⟩
          · replace hT := hT.2 hcc
            refine r_aload_n dX5_readElements_70 rfl (i := 0) rfl ?_
            refine r_iconst (n := 4) dX5_readElements_71 ?_
            refine r_aload_n dX5_readElements_72 rfl (i := 0) rfl ?_
            refine rr_getI (v := I m 2) dX5_readElements_73 fg_X5_40 rfl (wX5_l hm) (wX5_s hm) rfl ?_
            refine rr_cVI (a := m) (as := [VI 4, VI (I m 2)]) (st := []) dX5_readElements_76 mt_X5_fail ml_X5_76 mi_X5_fail rm_X5_readElements_X5_fail jz_X5_fail ⟨Nat.zero_le _, Nat.zero_le _⟩ (Nat.le_of_ble_eq_true rfl) (wX5_l hm) (wX5_c hm) (jasI ⟨by decide, by decide⟩ (jasI (hI _ _).inR jas0)) hT (fun r17 I16 hc18 hFI16 hT => ?_)
            replace hFI16 := jFr_tr hF hFI16
            refine jOk_mem (fun hI16 => ?_)
            obtain ⟨hc19, hT⟩ := hT
            exact r_zret dX5_readElements_79 rfl hc19 ⟨Nat.zero_le _, Nat.zero_le _⟩ ⟨_, rfl, rfl, hFI16, hT⟩
        · replace hT := hT.2 hcc
          refine r_iload_n dX5_readElements_48 rfl (i := 2) rfl ?_
          refine r_bipush (n := 39) dX5_readElements_49 (by decide +kernel) ?_
          refine r_icmp_eq (tgt := 64) dX5_readElements_51 rfl hc1 ⟨by decide, by decide⟩ (fun hcc => ?_) (fun hcc => ?_)
          · replace hT := hT.1 hcc
            refine r_iload_n dX5_readElements_64 rfl (i := 1) rfl ?_
            refine r_bipush (n := 6) dX5_readElements_65 (by decide +kernel) ?_
            refine r_icmp_ne (tgt := 80) dX5_readElements_67 rfl hx1 ⟨by decide, by decide⟩ (fun hcc => ?_) (fun hcc => ?_)
            · replace hT := hT.1 hcc
              refine r_aload_n dX5_readElements_80 rfl (i := 0) rfl ?_
              refine r_iload_n dX5_readElements_81 rfl (i := 2) rfl ?_
              refine rr_cVI (a := m) (as := [VI (cnx I m)]) (st := []) dX5_readElements_82 mt_X5_readElement ml_X5_94 mi_X5_readElement rm_X5_readElements_X5_readElement jz_X5_readElement ⟨Nat.zero_le _, Nat.zero_le _⟩ (Nat.le_of_ble_eq_true rfl) (wX5_l hm) (wX5_c hm) (jasI hc1 jas0) hT (fun r21 I20 hc22 hFI20 hT => ?_)
              replace hFI20 := jFr_tr hF hFI20
              refine jOk_mem (fun hI20 => ?_)
              refine r_if_ne (tgt := 90) dX5_readElements_85 rfl hc22 (fun hcc => ?_) (fun hcc => ?_)
              · replace hT := hT.1 hcc
                obtain ⟨hc23, hT⟩ := hT
                refine rr_iinc (i := 1) (ls' := [VR m, VI (x1 + 1), VI (cnx I m)]) dX5_readElements_90 rfl (Nat.le_of_ble_eq_true rfl) rfl rfl hc23 ?_
                refine r_goto (tgt := 2) dX5_readElements_93 rfl ?_
                exact jOk_le (ls' := [VR m, VI (x1 + 1), VN]) ⟨Or.inr rfl, Or.inr rfl, Or.inl rfl, trivial⟩ (hT I0 hFI20)
              · replace hT := hT.2 hcc
                refine r_iconst (n := 0) dX5_readElements_88 ?_
                exact r_zret dX5_readElements_89 rfl ⟨by decide, by decide⟩ ⟨Nat.zero_le _, Nat.zero_le _⟩ ⟨_, rfl, rfl, hFI20, hT⟩
            · replace hT := hT.2 hcc
              refine r_aload_n dX5_readElements_70 rfl (i := 0) rfl ?_
              refine r_iconst (n := 4) dX5_readElements_71 ?_
              refine r_aload_n dX5_readElements_72 rfl (i := 0) rfl ?_
              refine rr_getI (v := I m 2) dX5_readElements_73 fg_X5_40 rfl (wX5_l hm) (wX5_s hm) rfl ?_
              refine rr_cVI (a := m) (as := [VI 4, VI (I m 2)]) (st := []) dX5_readElements_76 mt_X5_fail ml_X5_76 mi_X5_fail rm_X5_readElements_X5_fail jz_X5_fail ⟨Nat.zero_le _, Nat.zero_le _⟩ (Nat.le_of_ble_eq_true rfl) (wX5_l hm) (wX5_c hm) (jasI ⟨by decide, by decide⟩ (jasI (hI _ _).inR jas0)) hT (fun r25 I24 hc26 hFI24 hT => ?_)
              replace hFI24 := jFr_tr hF hFI24
              refine jOk_mem (fun hI24 => ?_)
              obtain ⟨hc27, hT⟩ := hT
              exact r_zret dX5_readElements_79 rfl hc27 ⟨Nat.zero_le _, Nat.zero_le _⟩ ⟨_, rfl, rfl, hFI24, hT⟩
          · replace hT := hT.2 hcc
            refine r_aload_n dX5_readElements_54 rfl (i := 0) rfl ?_
            refine r_iconst (n := 1) dX5_readElements_55 ?_
            refine r_aload_n dX5_readElements_56 rfl (i := 0) rfl ?_
            refine rr_getI (v := I m 2) dX5_readElements_57 fg_X5_40 rfl (wX5_l hm) (wX5_s hm) rfl ?_
            refine rr_cVI (a := m) (as := [VI 1, VI (I m 2)]) (st := []) dX5_readElements_60 mt_X5_fail ml_X5_76 mi_X5_fail rm_X5_readElements_X5_fail jz_X5_fail ⟨Nat.zero_le _, Nat.zero_le _⟩ (Nat.le_of_ble_eq_true rfl) (wX5_l hm) (wX5_c hm) (jasI ⟨by decide, by decide⟩ (jasI (hI _ _).inR jas0)) hT (fun r29 I28 hc30 hFI28 hT => ?_)
            replace hFI28 := jFr_tr hF hFI28
            refine jOk_mem (fun hI28 => ?_)
            obtain ⟨hc31, hT⟩ := hT
            exact r_zret dX5_readElements_63 rfl hc31 ⟨Nat.zero_le _, Nat.zero_le _⟩ ⟨_, rfl, rfl, hFI28, hT⟩
    · replace hT := hT.2 hcc
      refine r_iload_n dX5_readElements_19 rfl (i := 1) rfl ?_
      refine r_if_le (tgt := 35) dX5_readElements_20 rfl hx1 (fun hcc => ?_) (fun hcc => ?_)
      · replace hT := hT.1 hcc
        refine r_iload_n dX5_readElements_35 rfl (i := 2) rfl ?_
        refine rr_pSI (A := jB) (v := jI (isNs (cnx I m))) (as := [VI (cnx I m)]) (st := []) dX5_readElements_36 mt_X5_isNamedSort ml_X5_90 ms_X5_isNamedSort rm_X5_readElements_X5_isNamedSort jz_X5_isNamedSort ⟨Nat.zero_le _, Nat.zero_le _⟩ (Nat.le_of_ble_eq_true rfl) (jasI hc1 jas0) sp_X5_isNamedSort (fun hc32 => ?_)
        refine r_if_ne (tgt := 64) dX5_readElements_39 rfl hc32 (fun hcc => ?_) (fun hcc => ?_)
        · replace hT := hT.1 (jI_p hcc)
          refine r_iload_n dX5_readElements_64 rfl (i := 1) rfl ?_
          refine r_bipush (n := 6) dX5_readElements_65 (by decide +kernel) ?_
          refine r_icmp_ne (tgt := 80) dX5_readElements_67 rfl hx1 ⟨by decide, by decide⟩ (fun hcc => ?_) (fun hcc => ?_)
          · replace hT := hT.1 hcc
            refine r_aload_n dX5_readElements_80 rfl (i := 0) rfl ?_
            refine r_iload_n dX5_readElements_81 rfl (i := 2) rfl ?_
            refine rr_cVI (a := m) (as := [VI (cnx I m)]) (st := []) dX5_readElements_82 mt_X5_readElement ml_X5_94 mi_X5_readElement rm_X5_readElements_X5_readElement jz_X5_readElement ⟨Nat.zero_le _, Nat.zero_le _⟩ (Nat.le_of_ble_eq_true rfl) (wX5_l hm) (wX5_c hm) (jasI hc1 jas0) hT (fun r34 I33 hc35 hFI33 hT => ?_)
            replace hFI33 := jFr_tr hF hFI33
            refine jOk_mem (fun hI33 => ?_)
            refine r_if_ne (tgt := 90) dX5_readElements_85 rfl hc35 (fun hcc => ?_) (fun hcc => ?_)
            · replace hT := hT.1 hcc
              obtain ⟨hc36, hT⟩ := hT
              refine rr_iinc (i := 1) (ls' := [VR m, VI (x1 + 1), VI (cnx I m)]) dX5_readElements_90 rfl (Nat.le_of_ble_eq_true rfl) rfl rfl hc36 ?_
              refine r_goto (tgt := 2) dX5_readElements_93 rfl ?_
              exact jOk_le (ls' := [VR m, VI (x1 + 1), VN]) ⟨Or.inr rfl, Or.inr rfl, Or.inl rfl, trivial⟩ (hT I0 hFI33)
            · replace hT := hT.2 hcc
              refine r_iconst (n := 0) dX5_readElements_88 ?_
              exact r_zret dX5_readElements_89 rfl ⟨by decide, by decide⟩ ⟨Nat.zero_le _, Nat.zero_le _⟩ ⟨_, rfl, rfl, hFI33, hT⟩
          · replace hT := hT.2 hcc
            refine r_aload_n dX5_readElements_70 rfl (i := 0) rfl ?_
            refine r_iconst (n := 4) dX5_readElements_71 ?_
            refine r_aload_n dX5_readElements_72 rfl (i := 0) rfl ?_
            refine rr_getI (v := I m 2) dX5_readElements_73 fg_X5_40 rfl (wX5_l hm) (wX5_s hm) rfl ?_
            refine rr_cVI (a := m) (as := [VI 4, VI (I m 2)]) (st := []) dX5_readElements_76 mt_X5_fail ml_X5_76 mi_X5_fail rm_X5_readElements_X5_fail jz_X5_fail ⟨Nat.zero_le _, Nat.zero_le _⟩ (Nat.le_of_ble_eq_true rfl) (wX5_l hm) (wX5_c hm) (jasI ⟨by decide, by decide⟩ (jasI (hI _ _).inR jas0)) hT (fun r38 I37 hc39 hFI37 hT => ?_)
            replace hFI37 := jFr_tr hF hFI37
            refine jOk_mem (fun hI37 => ?_)
            obtain ⟨hc40, hT⟩ := hT
            exact r_zret dX5_readElements_79 rfl hc40 ⟨Nat.zero_le _, Nat.zero_le _⟩ ⟨_, rfl, rfl, hFI37, hT⟩
        · replace hT := hT.2 (jI_n hcc)
          refine r_iload_n dX5_readElements_42 rfl (i := 2) rfl ?_
          refine r_bipush (n := 95) dX5_readElements_43 (by decide +kernel) ?_
          refine r_icmp_eq (tgt := 64) dX5_readElements_45 rfl hc1 ⟨by decide, by decide⟩ (fun hcc => ?_) (fun hcc => ?_)
          · replace hT := hT.1 hcc
            refine r_iload_n dX5_readElements_64 rfl (i := 1) rfl ?_
            refine r_bipush (n := 6) dX5_readElements_65 (by decide +kernel) ?_
            refine r_icmp_ne (tgt := 80) dX5_readElements_67 rfl hx1 ⟨by decide, by decide⟩ (fun hcc => ?_) (fun hcc => ?_)
            · replace hT := hT.1 hcc
              refine r_aload_n dX5_readElements_80 rfl (i := 0) rfl ?_
              refine r_iload_n dX5_readElements_81 rfl (i := 2) rfl ?_
              refine rr_cVI (a := m) (as := [VI (cnx I m)]) (st := []) dX5_readElements_82 mt_X5_readElement ml_X5_94 mi_X5_readElement rm_X5_readElements_X5_readElement jz_X5_readElement ⟨Nat.zero_le _, Nat.zero_le _⟩ (Nat.le_of_ble_eq_true rfl) (wX5_l hm) (wX5_c hm) (jasI hc1 jas0) hT (fun r42 I41 hc43 hFI41 hT => ?_)
              replace hFI41 := jFr_tr hF hFI41
              refine jOk_mem (fun hI41 => ?_)
              refine r_if_ne (tgt := 90) dX5_readElements_85 rfl hc43 (fun hcc => ?_) (fun hcc => ?_)
              · replace hT := hT.1 hcc
                obtain ⟨hc44, hT⟩ := hT
                refine rr_iinc (i := 1) (ls' := [VR m, VI (x1 + 1), VI (cnx I m)]) dX5_readElements_90 rfl (Nat.le_of_ble_eq_true rfl) rfl rfl hc44 ?_
                refine r_goto (tgt := 2) dX5_readElements_93 rfl ?_
                exact jOk_le (ls' := [VR m, VI (x1 + 1), VN]) ⟨Or.inr rfl, Or.inr rfl, Or.inl rfl, trivial⟩ (hT I0 hFI41)
              · replace hT := hT.2 hcc
                refine r_iconst (n := 0) dX5_readElements_88 ?_
                exact r_zret dX5_readElements_89 rfl ⟨by decide, by decide⟩ ⟨Nat.zero_le _, Nat.zero_le _⟩ ⟨_, rfl, rfl, hFI41, hT⟩
            · replace hT := hT.2 hcc
              refine r_aload_n dX5_readElements_70 rfl (i := 0) rfl ?_
              refine r_iconst (n := 4) dX5_readElements_71 ?_
              refine r_aload_n dX5_readElements_72 rfl (i := 0) rfl ?_
              refine rr_getI (v := I m 2) dX5_readElements_73 fg_X5_40 rfl (wX5_l hm) (wX5_s hm) rfl ?_
              refine rr_cVI (a := m) (as := [VI 4, VI (I m 2)]) (st := []) dX5_readElements_76 mt_X5_fail ml_X5_76 mi_X5_fail rm_X5_readElements_X5_fail jz_X5_fail ⟨Nat.zero_le _, Nat.zero_le _⟩ (Nat.le_of_ble_eq_true rfl) (wX5_l hm) (wX5_c hm) (jasI ⟨by decide, by decide⟩ (jasI (hI _ _).inR jas0)) hT (fun r46 I45 hc47 hFI45 hT => ?_)
              replace hFI45 := jFr_tr hF hFI45
              refine jOk_mem (fun hI45 => ?_)
              obtain ⟨hc48, hT⟩ := hT
              exact r_zret dX5_readElements_79 rfl hc48 ⟨Nat.zero_le _, Nat.zero_le _⟩ ⟨_, rfl, rfl, hFI45, hT⟩
          · replace hT := hT.2 hcc
            refine r_iload_n dX5_readElements_48 rfl (i := 2) rfl ?_
            refine r_bipush (n := 39) dX5_readElements_49 (by decide +kernel) ?_
            refine r_icmp_eq (tgt := 64) dX5_readElements_51 rfl hc1 ⟨by decide, by decide⟩ (fun hcc => ?_) (fun hcc => ?_)
            · replace hT := hT.1 hcc
              refine r_iload_n dX5_readElements_64 rfl (i := 1) rfl ?_
              refine r_bipush (n := 6) dX5_readElements_65 (by decide +kernel) ?_
              refine r_icmp_ne (tgt := 80) dX5_readElements_67 rfl hx1 ⟨by decide, by decide⟩ (fun hcc => ?_) (fun hcc => ?_)
              · replace hT := hT.1 hcc
                refine r_aload_n dX5_readElements_80 rfl (i := 0) rfl ?_
                refine r_iload_n dX5_readElements_81 rfl (i := 2) rfl ?_
                refine rr_cVI (a := m) (as := [VI (cnx I m)]) (st := []) dX5_readElements_82 mt_X5_readElement ml_X5_94 mi_X5_readElement rm_X5_readElements_X5_readElement jz_X5_readElement ⟨Nat.zero_le _, Nat.zero_le _⟩ (Nat.le_of_ble_eq_true rfl) (wX5_l hm) (wX5_c hm) (jasI hc1 jas0) hT (fun r50 I49 hc51 hFI49 hT => ?_)
                replace hFI49 := jFr_tr hF hFI49
                refine jOk_mem (fun hI49 => ?_)
                refine r_if_ne (tgt := 90) dX5_readElements_85 rfl hc51 (fun hcc => ?_) (fun hcc => ?_)
                · replace hT := hT.1 hcc
                  obtain ⟨hc52, hT⟩ := hT
                  refine rr_iinc (i := 1) (ls' := [VR m, VI (x1 + 1), VI (cnx I m)]) dX5_readElements_90 rfl (Nat.le_of_ble_eq_true rfl) rfl rfl hc52 ?_
                  refine r_goto (tgt := 2) dX5_readElements_93 rfl ?_
                  exact jOk_le (ls' := [VR m, VI (x1 + 1), VN]) ⟨Or.inr rfl, Or.inr rfl, Or.inl rfl, trivial⟩ (hT I0 hFI49)
                · replace hT := hT.2 hcc
                  refine r_iconst (n := 0) dX5_readElements_88 ?_
                  exact r_zret dX5_readElements_89 rfl ⟨by decide, by decide⟩ ⟨Nat.zero_le _, Nat.zero_le _⟩ ⟨_, rfl, rfl, hFI49, hT⟩
              · replace hT := hT.2 hcc
                refine r_aload_n dX5_readElements_70 rfl (i := 0) rfl ?_
                refine r_iconst (n := 4) dX5_readElements_71 ?_
                refine r_aload_n dX5_readElements_72 rfl (i := 0) rfl ?_
                refine rr_getI (v := I m 2) dX5_readElements_73 fg_X5_40 rfl (wX5_l hm) (wX5_s hm) rfl ?_
                refine rr_cVI (a := m) (as := [VI 4, VI (I m 2)]) (st := []) dX5_readElements_76 mt_X5_fail ml_X5_76 mi_X5_fail rm_X5_readElements_X5_fail jz_X5_fail ⟨Nat.zero_le _, Nat.zero_le _⟩ (Nat.le_of_ble_eq_true rfl) (wX5_l hm) (wX5_c hm) (jasI ⟨by decide, by decide⟩ (jasI (hI _ _).inR jas0)) hT (fun r54 I53 hc55 hFI53 hT => ?_)
                replace hFI53 := jFr_tr hF hFI53
                refine jOk_mem (fun hI53 => ?_)
                obtain ⟨hc56, hT⟩ := hT
                exact r_zret dX5_readElements_79 rfl hc56 ⟨Nat.zero_le _, Nat.zero_le _⟩ ⟨_, rfl, rfl, hFI53, hT⟩
            · replace hT := hT.2 hcc
              refine r_aload_n dX5_readElements_54 rfl (i := 0) rfl ?_
              refine r_iconst (n := 1) dX5_readElements_55 ?_
              refine r_aload_n dX5_readElements_56 rfl (i := 0) rfl ?_
              refine rr_getI (v := I m 2) dX5_readElements_57 fg_X5_40 rfl (wX5_l hm) (wX5_s hm) rfl ?_
              refine rr_cVI (a := m) (as := [VI 1, VI (I m 2)]) (st := []) dX5_readElements_60 mt_X5_fail ml_X5_76 mi_X5_fail rm_X5_readElements_X5_fail jz_X5_fail ⟨Nat.zero_le _, Nat.zero_le _⟩ (Nat.le_of_ble_eq_true rfl) (wX5_l hm) (wX5_c hm) (jasI ⟨by decide, by decide⟩ (jasI (hI _ _).inR jas0)) hT (fun r58 I57 hc59 hFI57 hT => ?_)
              replace hFI57 := jFr_tr hF hFI57
              refine jOk_mem (fun hI57 => ?_)
              obtain ⟨hc60, hT⟩ := hT
              exact r_zret dX5_readElements_63 rfl hc60 ⟨Nat.zero_le _, Nat.zero_le _⟩ ⟨_, rfl, rfl, hFI57, hT⟩
      · replace hT := hT.2 hcc
        refine r_aload_n dX5_readElements_23 rfl (i := 0) rfl ?_
        refine r_dup dX5_readElements_24 rfl ?_
        refine rr_getI (v := I m 2) dX5_readElements_25 fg_X5_40 rfl (wX5_l hm) (wX5_s hm) rfl ?_
        refine r_iconst (n := 1) dX5_readElements_28 ?_
        refine r_iadd dX5_readElements_29 ?_
        obtain ⟨hc62, hT⟩ := hT
        refine rr_putI (jj := 2) dX5_readElements_30 fp_X5_40 rfl rfl (wX5_l hm) (wX5_s hm) hc62 (fun M61 eM61 => ?_)
        have hFM61 := jFr_up hF eM61 (wX5_f hm 0 (by decide))
        replace hT := hT M61 eM61
        refine jOk_mem (fun hIM61 => ?_)
        refine r_iconst (n := 1) dX5_readElements_33 ?_
        exact r_zret dX5_readElements_34 rfl ⟨by decide, by decide⟩ ⟨Nat.zero_le _, Nat.zero_le _⟩ ⟨_, rfl, rfl, hFM61, hT⟩
set_option maxRecDepth 20000 in
theorem st_X5_readElements_0 {E : jE} {G : jG} {I : jM} {q : Int → jM → Prop} {m : Nat} (hm : WX5 G m) (hT : (∀ a j, jRg (G.2.1 a).1 (I a j)) → jOI E jB kX5_readElements 2 [VR m, VI 0, VN] G I q) : jOI E jB kX5_readElements 0 [VR m, VN, VN] G I q := by
  intro I0 hF
  refine jOk_mem (fun hI => ?_)
  replace hT := hT hI 
  refine r_iconst (n := 0) dX5_readElements_0 ?_
  refine rr_istore_n (i := 1) (ls' := [VR m, VI 0, VN]) dX5_readElements_1 rfl (Nat.le_of_ble_eq_true rfl) rfl rfl ⟨by decide, by decide⟩ ?_
  exact hT I0 hF
theorem en_X5_readElements {E : jE} {G : jG} {I : jM} {q : Int → jM → Prop} {m : Nat} (hm : WX5 G m) (hT : (∀ a j, jRg (G.2.1 a).1 (I a j)) → jOI E jB kX5_readElements 2 [VR m, VI 0, VN] G I q) : jRI E jB kX5_readElements [VR m] G I q := jRun.of mt_X5_readElements.2.2.2 2 rfl (fun _ => st_X5_readElements_0 hm hT I (fun _ _ => rfl))
set_option maxRecDepth 20000 in
theorem st_X5_readWeight_7 {E : jE} {G : jG} {I : jM} {q : Int → jM → Prop} {m : Nat} {x1 : Int} {x2 : Int} (hm : WX5 G m) (hT : (∀ a j, jRg (G.2.1 a).1 (I a j)) → jIn x1 → jIn x2 → (((I m 1) ≤ (I m 2) → ((¬ (I m 2) = x1 → ((x2 < 1 → jRI E jB kX5_fail [VR m, VI 2, VI x1] G I (fun r2 I1 => (0 ≤ r2 ∧ r2 ≤ 1) ∧ q r2 I1)) ∧ (¬ x2 < 1 → ((x2 ≤ 99 → (∃ b5 : Nat, I m 3 = (b5 : Int) ∧ WX6 G b5 ∧ (((I b5 1) < 6 → (I m 1 ≤ 300) ∧ (((cnx I m) = 58 → jIn ((I m 2) + 1) ∧ (∀ M10, M10 = jup I m 2 ((I m 2) + 1) → (∃ b12 : Nat, I m 3 = (b12 : Int) ∧ WX6 G b12 ∧ (∃ b15 : Nat, I m 3 = (b15 : Int) ∧ WX6 G b15 ∧ ((0 : Int) ≤ (M10 b15 1) ∧ ((M10 b15 1) : Int) < 6) ∧ (∀ M19, M19 = jup M10 (b12 + 2) (M10 b15 1) x2 → (∃ b20 : Nat, M19 m 3 = (b20 : Int) ∧ WX6 G b20 ∧ (∃ b23 : Nat, M19 m 3 = (b23 : Int) ∧ WX6 G b23 ∧ ((0 : Int) ≤ (M19 b23 1) ∧ ((M19 b23 1) : Int) < 6) ∧ (∀ M27, M27 = jup M19 (b20 + 3) (M19 b23 1) 0 → (∃ b28 : Nat, M27 m 3 = (b28 : Int) ∧ WX6 G b28 ∧ (∃ b31 : Nat, M27 m 3 = (b31 : Int) ∧ WX6 G b31 ∧ ((0 : Int) ≤ (M27 b31 1) ∧ ((M27 b31 1) : Int) < 6) ∧ (∀ M35, M35 = jup M27 (b28 + 4) (M27 b31 1) 0 → q 1 M35))))))))))) ∧ (¬ (cnx I m) = 58 → jRI E jB kX5_fail [VR m, VI 1, VI (I m 2)] G I (fun r37 I36 => (0 ≤ r37 ∧ r37 ≤ 1) ∧ q r37 I36)))) ∧ (¬ (I b5 1) < 6 → jRI E jB kX5_fail [VR m, VI 3, VI x1] G I (fun r41 I40 => (0 ≤ r41 ∧ r41 ≤ 1) ∧ q r41 I40))))) ∧ (¬ x2 ≤ 99 → jRI E jB kX5_fail [VR m, VI 2, VI x1] G I (fun r45 I44 => (0 ≤ r45 ∧ r45 ≤ 1) ∧ q r45 I44)))))) ∧ ((I m 2) = x1 → jRI E jB kX5_fail [VR m, VI 1, VI (I m 2)] G I (fun r49 I48 => (0 ≤ r49 ∧ r49 ≤ 1) ∧ q r49 I48)))) ∧ (¬ (I m 1) ≤ (I m 2) → (I m 1 ≤ 300) ∧ ((¬ (told (srt (cnx I m))) = 1 → ((¬ (I m 2) = x1 → ((x2 < 1 → jRI E jB kX5_fail [VR m, VI 2, VI x1] G I (fun r56 I55 => (0 ≤ r56 ∧ r56 ≤ 1) ∧ q r56 I55)) ∧ (¬ x2 < 1 → ((x2 ≤ 99 → (∃ b59 : Nat, I m 3 = (b59 : Int) ∧ WX6 G b59 ∧ (((I b59 1) < 6 → (I m 1 ≤ 300) ∧ (((cnx I m) = 58 → jIn ((I m 2) + 1) ∧ (∀ M64, M64 = jup I m 2 ((I m 2) + 1) → (∃ b66 : Nat, I m 3 = (b66 : Int) ∧ WX6 G b66 ∧ (∃ b69 : Nat, I m 3 = (b69 : Int) ∧ WX6 G b69 ∧ ((0 : Int) ≤ (M64 b69 1) ∧ ((M64 b69 1) : Int) < 6) ∧ (∀ M73, M73 = jup M64 (b66 + 2) (M64 b69 1) x2 → (∃ b74 : Nat, M73 m 3 = (b74 : Int) ∧ WX6 G b74 ∧ (∃ b77 : Nat, M73 m 3 = (b77 : Int) ∧ WX6 G b77 ∧ ((0 : Int) ≤ (M73 b77 1) ∧ ((M73 b77 1) : Int) < 6) ∧ (∀ M81, M81 = jup M73 (b74 + 3) (M73 b77 1) 0 → (∃ b82 : Nat, M81 m 3 = (b82 : Int) ∧ WX6 G b82 ∧ (∃ b85 : Nat, M81 m 3 = (b85 : Int) ∧ WX6 G b85 ∧ ((0 : Int) ≤ (M81 b85 1) ∧ ((M81 b85 1) : Int) < 6) ∧ (∀ M89, M89 = jup M81 (b82 + 4) (M81 b85 1) 0 → q 1 M89))))))))))) ∧ (¬ (cnx I m) = 58 → jRI E jB kX5_fail [VR m, VI 1, VI (I m 2)] G I (fun r91 I90 => (0 ≤ r91 ∧ r91 ≤ 1) ∧ q r91 I90)))) ∧ (¬ (I b59 1) < 6 → jRI E jB kX5_fail [VR m, VI 3, VI x1] G I (fun r95 I94 => (0 ≤ r95 ∧ r95 ≤ 1) ∧ q r95 I94))))) ∧ (¬ x2 ≤ 99 → jRI E jB kX5_fail [VR m, VI 2, VI x1] G I (fun r99 I98 => (0 ≤ r99 ∧ r99 ≤ 1) ∧ q r99 I98)))))) ∧ ((I m 2) = x1 → jRI E jB kX5_fail [VR m, VI 1, VI (I m 2)] G I (fun r103 I102 => (0 ≤ r103 ∧ r103 ≤ 1) ∧ q r103 I102)))) ∧ ((told (srt (cnx I m))) = 1 → (I m 1 ≤ 300) ∧ jIn (((x2 * 10) + (cnx I m)) - 48) ∧ jIn ((I m 2) + 1) ∧ (∀ M110, M110 = jup I m 2 ((I m 2) + 1) → jOI E jB kX5_readWeight 7 [VR m, VI x1, VI (min 100 (((x2 * 10) + (cnx I m)) - 48))] G M110 q)))))) : jOI E jB kX5_readWeight 7 [VR m, VI x1, VI x2] G I q := by
  intro I0 hF
  refine jOk_mem (fun hI => ?_)
  refine jOk_in (i := 1) rfl (fun hx1 => ?_)
  refine jOk_in (i := 2) rfl (fun hx2 => ?_)
  replace hT := hT hI hx1 hx2
  refine r_aload_n dX5_readWeight_7 rfl (i := 0) rfl ?_
  refine rr_getI (v := I m 2) dX5_readWeight_8 fg_X5_40 rfl (wX5_l hm) (wX5_s hm) rfl ?_
  refine r_aload_n dX5_readWeight_11 rfl (i := 0) rfl ?_
  refine rr_getI (v := I m 1) dX5_readWeight_12 fg_X5_32 rfl (wX5_l hm) (wX5_s hm) rfl ?_
  refine r_icmp_ge (tgt := 60) dX5_readWeight_15 rfl (hI _ _).inR (hI _ _).inR (fun hcc => ?_) (fun hcc => ?_)
  · replace hT := hT.1 hcc
    refine r_aload_n dX5_readWeight_60 rfl (i := 0) rfl ?_
    refine rr_getI (v := I m 2) dX5_readWeight_61 fg_X5_40 rfl (wX5_l hm) (wX5_s hm) rfl ?_
    refine r_iload_n dX5_readWeight_64 rfl (i := 1) rfl ?_
    refine r_icmp_ne (tgt := 78) dX5_readWeight_65 rfl (hI _ _).inR hx1 (fun hcc => ?_) (fun hcc => ?_)
    · replace hT := hT.1 hcc
      refine r_iload_n dX5_readWeight_78 rfl (i := 2) rfl ?_
      refine r_iconst (n := 1) dX5_readWeight_79 ?_
      refine r_icmp_lt (tgt := 89) dX5_readWeight_80 rfl hx2 ⟨by decide, by decide⟩ (fun hcc => ?_) (fun hcc => ?_)
      · replace hT := hT.1 hcc
        refine r_aload_n dX5_readWeight_89 rfl (i := 0) rfl ?_
        refine r_iconst (n := 2) dX5_readWeight_90 ?_
        refine r_iload_n dX5_readWeight_91 rfl (i := 1) rfl ?_
        refine rr_cVI (a := m) (as := [VI 2, VI x1]) (st := []) dX5_readWeight_92 mt_X5_fail ml_X5_76 mi_X5_fail rm_X5_readWeight_X5_fail jz_X5_fail ⟨Nat.zero_le _, Nat.zero_le _⟩ (Nat.le_of_ble_eq_true rfl) (wX5_l hm) (wX5_c hm) (jasI ⟨by decide, by decide⟩ (jasI hx1 jas0)) hT (fun r2 I1 hc3 hFI1 hT => ?_)
        replace hFI1 := jFr_tr hF hFI1
        refine jOk_mem (fun hI1 => ?_)
        obtain ⟨hc4, hT⟩ := hT
        exact r_zret dX5_readWeight_95 rfl hc4 ⟨Nat.zero_le _, Nat.zero_le _⟩ ⟨_, rfl, rfl, hFI1, hT⟩
      · replace hT := hT.2 hcc
        refine r_iload_n dX5_readWeight_83 rfl (i := 2) rfl ?_
        refine r_bipush (n := 99) dX5_readWeight_84 (by decide +kernel) ?_
        refine r_icmp_le (tgt := 96) dX5_readWeight_86 rfl hx2 ⟨by decide, by decide⟩ (fun hcc => ?_) (fun hcc => ?_)
        · replace hT := hT.1 hcc
          refine r_aload_n dX5_readWeight_96 rfl (i := 0) rfl ?_
          obtain ⟨b5, hc6, hc7, hT⟩ := hT
          refine rr_getM (b := b5) dX5_readWeight_97 fg_X5_19 rfl rfl (wX5_l hm) (wX5_s hm) hc6 ?_
          refine rr_getI (v := I b5 1) dX5_readWeight_100 fg_X5_35 rfl (wX6_l hc7) (wX6_s hc7) rfl ?_
          refine r_bipush (n := 6) dX5_readWeight_103 (by decide +kernel) ?_
          refine r_icmp_lt (tgt := 115) dX5_readWeight_105 rfl (hI _ _).inR ⟨by decide, by decide⟩ (fun hcc => ?_) (fun hcc => ?_)
          · replace hT := hT.1 hcc
            refine r_aload_n dX5_readWeight_115 rfl (i := 0) rfl ?_
            obtain ⟨hc9, hT⟩ := hT
            refine rr_pVI (A := jB) (v := cnx I m) (a := m) (as := []) (st := []) dX5_readWeight_116 mt_X5_peek ml_X5_68 mi_X5_peek rm_X5_readWeight_X5_peek jz_X5_peek ⟨Nat.zero_le _, Nat.zero_le _⟩ (Nat.le_of_ble_eq_true rfl) (wX5_l hm) (wX5_c hm) jas0 ((sp_X5_peek hm) hc9) (fun hc8 => ?_)
            refine r_bipush (n := 58) dX5_readWeight_119 (by decide +kernel) ?_
            refine r_icmp_eq (tgt := 134) dX5_readWeight_121 rfl hc8 ⟨by decide, by decide⟩ (fun hcc => ?_) (fun hcc => ?_)
            · replace hT := hT.1 hcc
              refine r_aload_n dX5_readWeight_134 rfl (i := 0) rfl ?_
              refine r_dup dX5_readWeight_135 rfl ?_
              refine rr_getI (v := I m 2) dX5_readWeight_136 fg_X5_40 rfl (wX5_l hm) (wX5_s hm) rfl ?_
              refine r_iconst (n := 1) dX5_readWeight_139 ?_
              refine r_iadd dX5_readWeight_140 ?_
              obtain ⟨hc11, hT⟩ := hT
              refine rr_putI (jj := 2) dX5_readWeight_141 fp_X5_40 rfl rfl (wX5_l hm) (wX5_s hm) hc11 (fun M10 eM10 => ?_)
              have hFM10 := jFr_up hF eM10 (wX5_f hm 0 (by decide))
              replace hT := hT M10 eM10
              refine jOk_mem (fun hIM10 => ?_)
              refine r_aload_n dX5_readWeight_144 rfl (i := 0) rfl ?_
              obtain ⟨b12, hc13, hc14, hT⟩ := hT
              refine rr_getM (b := b12) dX5_readWeight_145 fg_X5_19 rfl rfl (wX5_l hm) (wX5_s hm) ((jr_nj eM10 (by decide)).trans hc13) ?_
              refine rr_getR (b := (b12 + 2)) dX5_readWeight_148 fg_X5_80 rfl rfl (wX6_l hc14) (wX6_s hc14) (wX6_r2 hc14) ?_
              refine r_aload_n dX5_readWeight_151 rfl (i := 0) rfl ?_
              obtain ⟨b15, hc16, hc17, hT⟩ := hT
              refine rr_getM (b := b15) dX5_readWeight_152 fg_X5_19 rfl rfl (wX5_l hm) (wX5_s hm) ((jr_nj eM10 (by decide)).trans hc16) ?_
              refine rr_getI (v := M10 b15 1) dX5_readWeight_155 fg_X5_35 rfl (wX6_l hc17) (wX6_s hc17) rfl ?_
              refine r_iload_n dX5_readWeight_158 rfl (i := 2) rfl ?_
              obtain ⟨hc18, hT⟩ := hT
              refine rr_iastore dX5_readWeight_159 (wX6_l2 hc14) (wX6_a2 hc14) (by decide) hc18 hx2 (fun M19 eM19 => ?_)
              have hFM19 := jFr_up hFM10 eM19 (wX6_f hc14 2 (by decide))
              replace hT := hT M19 eM19
              refine jOk_mem (fun hIM19 => ?_)
              refine r_aload_n dX5_readWeight_160 rfl (i := 0) rfl ?_
              obtain ⟨b20, hc21, hc22, hT⟩ := hT
              refine rr_getM (b := b20) dX5_readWeight_161 fg_X5_19 rfl rfl (wX5_l hm) (wX5_s hm) hc21 ?_
              refine rr_getR (b := (b20 + 3)) dX5_readWeight_164 fg_X5_84 rfl rfl (wX6_l hc22) (wX6_s hc22) (wX6_r3 hc22) ?_
              refine r_aload_n dX5_readWeight_167 rfl (i := 0) rfl ?_
              obtain ⟨b23, hc24, hc25, hT⟩ := hT
              refine rr_getM (b := b23) dX5_readWeight_168 fg_X5_19 rfl rfl (wX5_l hm) (wX5_s hm) hc24 ?_
              refine rr_getI (v := M19 b23 1) dX5_readWeight_171 fg_X5_35 rfl (wX6_l hc25) (wX6_s hc25) rfl ?_
              refine r_iconst (n := 0) dX5_readWeight_174 ?_
              obtain ⟨hc26, hT⟩ := hT
              refine rr_iastore dX5_readWeight_175 (wX6_l3 hc22) (wX6_a3 hc22) (by decide) hc26 ⟨by decide, by decide⟩ (fun M27 eM27 => ?_)
              have hFM27 := jFr_up hFM19 eM27 (wX6_f hc22 3 (by decide))
              replace hT := hT M27 eM27
              refine jOk_mem (fun hIM27 => ?_)
              refine r_aload_n dX5_readWeight_176 rfl (i := 0) rfl ?_
              obtain ⟨b28, hc29, hc30, hT⟩ := hT
              refine rr_getM (b := b28) dX5_readWeight_177 fg_X5_19 rfl rfl (wX5_l hm) (wX5_s hm) hc29 ?_
              refine rr_getR (b := (b28 + 4)) dX5_readWeight_180 fg_X5_87 rfl rfl (wX6_l hc30) (wX6_s hc30) (wX6_r4 hc30) ?_
              refine r_aload_n dX5_readWeight_183 rfl (i := 0) rfl ?_
              obtain ⟨b31, hc32, hc33, hT⟩ := hT
              refine rr_getM (b := b31) dX5_readWeight_184 fg_X5_19 rfl rfl (wX5_l hm) (wX5_s hm) hc32 ?_
              refine rr_getI (v := M27 b31 1) dX5_readWeight_187 fg_X5_35 rfl (wX6_l hc33) (wX6_s hc33) rfl ?_
              refine r_iconst (n := 0) dX5_readWeight_190 ?_
              obtain ⟨hc34, hT⟩ := hT
              refine rr_iastore dX5_readWeight_191 (wX6_l4 hc30) (wX6_a4 hc30) (by decide) hc34 ⟨by decide, by decide⟩ (fun M35 eM35 => ?_)
              have hFM35 := jFr_up hFM27 eM35 (wX6_f hc30 4 (by decide))
              replace hT := hT M35 eM35
              refine jOk_mem (fun hIM35 => ?_)
              refine r_iconst (n := 1) dX5_readWeight_192 ?_
              exact r_zret dX5_readWeight_193 rfl ⟨by decide, by decide⟩ ⟨Nat.zero_le _, Nat.zero_le _⟩ ⟨_, rfl, rfl, hFM35, hT⟩
            · replace hT := hT.2 hcc
              refine r_aload_n dX5_readWeight_124 rfl (i := 0) rfl ?_
              refine r_iconst (n := 1) dX5_readWeight_125 ?_
              refine r_aload_n dX5_readWeight_126 rfl (i := 0) rfl ?_
              refine rr_getI (v := I m 2) dX5_readWeight_127 fg_X5_40 rfl (wX5_l hm) (wX5_s hm) rfl ?_
              refine rr_cVI (a := m) (as := [VI 1, VI (I m 2)]) (st := []) dX5_readWeight_130 mt_X5_fail ml_X5_76 mi_X5_fail rm_X5_readWeight_X5_fail jz_X5_fail ⟨Nat.zero_le _, Nat.zero_le _⟩ (Nat.le_of_ble_eq_true rfl) (wX5_l hm) (wX5_c hm) (jasI ⟨by decide, by decide⟩ (jasI (hI _ _).inR jas0)) hT (fun r37 I36 hc38 hFI36 hT => ?_)
              replace hFI36 := jFr_tr hF hFI36
              refine jOk_mem (fun hI36 => ?_)
              obtain ⟨hc39, hT⟩ := hT
              exact r_zret dX5_readWeight_133 rfl hc39 ⟨Nat.zero_le _, Nat.zero_le _⟩ ⟨_, rfl, rfl, hFI36, hT⟩
          · replace hT := hT.2 hcc
            refine r_aload_n dX5_readWeight_108 rfl (i := 0) rfl ?_
            refine r_iconst (n := 3) dX5_readWeight_109 ?_
            refine r_iload_n dX5_readWeight_110 rfl (i := 1) rfl ?_
            refine rr_cVI (a := m) (as := [VI 3, VI x1]) (st := []) dX5_readWeight_111 mt_X5_fail ml_X5_76 mi_X5_fail rm_X5_readWeight_X5_fail jz_X5_fail ⟨Nat.zero_le _, Nat.zero_le _⟩ (Nat.le_of_ble_eq_true rfl) (wX5_l hm) (wX5_c hm) (jasI ⟨by decide, by decide⟩ (jasI hx1 jas0)) hT (fun r41 I40 hc42 hFI40 hT => ?_)
            replace hFI40 := jFr_tr hF hFI40
            refine jOk_mem (fun hI40 => ?_)
            obtain ⟨hc43, hT⟩ := hT
            exact r_zret dX5_readWeight_114 rfl hc43 ⟨Nat.zero_le _, Nat.zero_le _⟩ ⟨_, rfl, rfl, hFI40, hT⟩
        · replace hT := hT.2 hcc
          refine r_aload_n dX5_readWeight_89 rfl (i := 0) rfl ?_
          refine r_iconst (n := 2) dX5_readWeight_90 ?_
          refine r_iload_n dX5_readWeight_91 rfl (i := 1) rfl ?_
          refine rr_cVI (a := m) (as := [VI 2, VI x1]) (st := []) dX5_readWeight_92 mt_X5_fail ml_X5_76 mi_X5_fail rm_X5_readWeight_X5_fail jz_X5_fail ⟨Nat.zero_le _, Nat.zero_le _⟩ (Nat.le_of_ble_eq_true rfl) (wX5_l hm) (wX5_c hm) (jasI ⟨by decide, by decide⟩ (jasI hx1 jas0)) hT (fun r45 I44 hc46 hFI44 hT => ?_)
          replace hFI44 := jFr_tr hF hFI44
          refine jOk_mem (fun hI44 => ?_)
          obtain ⟨hc47, hT⟩ := hT
          exact r_zret dX5_readWeight_95 rfl hc47 ⟨Nat.zero_le _, Nat.zero_le _⟩ ⟨_, rfl, rfl, hFI44, hT⟩
    · replace hT := hT.2 hcc
      refine r_aload_n dX5_readWeight_68 rfl (i := 0) rfl ?_
      refine r_iconst (n := 1) dX5_readWeight_69 ?_
      refine r_aload_n dX5_readWeight_70 rfl (i := 0) rfl ?_
      refine rr_getI (v := I m 2) dX5_readWeight_71 fg_X5_40 rfl (wX5_l hm) (wX5_s hm) rfl ?_
      refine rr_cVI (a := m) (as := [VI 1, VI (I m 2)]) (st := []) dX5_readWeight_74 mt_X5_fail ml_X5_76 mi_X5_fail rm_X5_readWeight_X5_fail jz_X5_fail ⟨Nat.zero_le _, Nat.zero_le _⟩ (Nat.le_of_ble_eq_true rfl) (wX5_l hm) (wX5_c hm) (jasI ⟨by decide, by decide⟩ (jasI (hI _ _).inR jas0)) hT (fun r49 I48 hc50 hFI48 hT => ?_)
      replace hFI48 := jFr_tr hF hFI48
      refine jOk_mem (fun hI48 => ?_)
      obtain ⟨hc51, hT⟩ := hT
      exact r_zret dX5_readWeight_77 rfl hc51 ⟨Nat.zero_le _, Nat.zero_le _⟩ ⟨_, rfl, rfl, hFI48, hT⟩
  · replace hT := hT.2 hcc
    refine r_aload_n dX5_readWeight_18 rfl (i := 0) rfl ?_
    obtain ⟨hc53, hT⟩ := hT
    refine rr_pVI (A := jB) (v := cnx I m) (a := m) (as := []) (st := []) dX5_readWeight_19 mt_X5_peek ml_X5_68 mi_X5_peek rm_X5_readWeight_X5_peek jz_X5_peek ⟨Nat.zero_le _, Nat.zero_le _⟩ (Nat.le_of_ble_eq_true rfl) (wX5_l hm) (wX5_c hm) jas0 ((sp_X5_peek hm) hc53) (fun hc52 => ?_)
    refine rr_pNI (A := jB) (v := told (srt (cnx I m))) (as := [VI (cnx I m)]) (st := []) dX5_readWeight_22 mt_X9_sortOf ml_X5_72 ms_X9_sortOf rm_X5_readWeight_X9_sortOf jz_X9_sortOf ⟨Nat.zero_le _, Nat.zero_le _⟩ (Nat.le_of_ble_eq_true rfl) (jasI hc52 jas0) sp_X9_sortOf (fun hc54 => ?_)
    refine r_iconst (n := 1) dX5_readWeight_25 ?_
    refine r_icmp_ne (tgt := 60) dX5_readWeight_26 rfl hc54 ⟨by decide, by decide⟩ (fun hcc => ?_) (fun hcc => ?_)
    · replace hT := hT.1 hcc
      refine r_aload_n dX5_readWeight_60 rfl (i := 0) rfl ?_
      refine rr_getI (v := I m 2) dX5_readWeight_61 fg_X5_40 rfl (wX5_l hm) (wX5_s hm) rfl ?_
      refine r_iload_n dX5_readWeight_64 rfl (i := 1) rfl ?_
      refine r_icmp_ne (tgt := 78) dX5_readWeight_65 rfl (hI _ _).inR hx1 (fun hcc => ?_) (fun hcc => ?_)
      · replace hT := hT.1 hcc
        refine r_iload_n dX5_readWeight_78 rfl (i := 2) rfl ?_
        refine r_iconst (n := 1) dX5_readWeight_79 ?_
        refine r_icmp_lt (tgt := 89) dX5_readWeight_80 rfl hx2 ⟨by decide, by decide⟩ (fun hcc => ?_) (fun hcc => ?_)
        · replace hT := hT.1 hcc
          refine r_aload_n dX5_readWeight_89 rfl (i := 0) rfl ?_
          refine r_iconst (n := 2) dX5_readWeight_90 ?_
          refine r_iload_n dX5_readWeight_91 rfl (i := 1) rfl ?_
          refine rr_cVI (a := m) (as := [VI 2, VI x1]) (st := []) dX5_readWeight_92 mt_X5_fail ml_X5_76 mi_X5_fail rm_X5_readWeight_X5_fail jz_X5_fail ⟨Nat.zero_le _, Nat.zero_le _⟩ (Nat.le_of_ble_eq_true rfl) (wX5_l hm) (wX5_c hm) (jasI ⟨by decide, by decide⟩ (jasI hx1 jas0)) hT (fun r56 I55 hc57 hFI55 hT => ?_)
          replace hFI55 := jFr_tr hF hFI55
          refine jOk_mem (fun hI55 => ?_)
          obtain ⟨hc58, hT⟩ := hT
          exact r_zret dX5_readWeight_95 rfl hc58 ⟨Nat.zero_le _, Nat.zero_le _⟩ ⟨_, rfl, rfl, hFI55, hT⟩
        · replace hT := hT.2 hcc
          refine r_iload_n dX5_readWeight_83 rfl (i := 2) rfl ?_
          refine r_bipush (n := 99) dX5_readWeight_84 (by decide +kernel) ?_
          refine r_icmp_le (tgt := 96) dX5_readWeight_86 rfl hx2 ⟨by decide, by decide⟩ (fun hcc => ?_) (fun hcc => ?_)
          · replace hT := hT.1 hcc
            refine r_aload_n dX5_readWeight_96 rfl (i := 0) rfl ?_
            obtain ⟨b59, hc60, hc61, hT⟩ := hT
            refine rr_getM (b := b59) dX5_readWeight_97 fg_X5_19 rfl rfl (wX5_l hm) (wX5_s hm) hc60 ?_
            refine rr_getI (v := I b59 1) dX5_readWeight_100 fg_X5_35 rfl (wX6_l hc61) (wX6_s hc61) rfl ?_
            refine r_bipush (n := 6) dX5_readWeight_103 (by decide +kernel) ?_
            refine r_icmp_lt (tgt := 115) dX5_readWeight_105 rfl (hI _ _).inR ⟨by decide, by decide⟩ (fun hcc => ?_) (fun hcc => ?_)
            · replace hT := hT.1 hcc
              refine r_aload_n dX5_readWeight_115 rfl (i := 0) rfl ?_
              obtain ⟨hc63, hT⟩ := hT
              refine rr_pVI (A := jB) (v := cnx I m) (a := m) (as := []) (st := []) dX5_readWeight_116 mt_X5_peek ml_X5_68 mi_X5_peek rm_X5_readWeight_X5_peek jz_X5_peek ⟨Nat.zero_le _, Nat.zero_le _⟩ (Nat.le_of_ble_eq_true rfl) (wX5_l hm) (wX5_c hm) jas0 ((sp_X5_peek hm) hc63) (fun hc62 => ?_)
              refine r_bipush (n := 58) dX5_readWeight_119 (by decide +kernel) ?_
              refine r_icmp_eq (tgt := 134) dX5_readWeight_121 rfl hc62 ⟨by decide, by decide⟩ (fun hcc => ?_) (fun hcc => ?_)
              · replace hT := hT.1 hcc
                refine r_aload_n dX5_readWeight_134 rfl (i := 0) rfl ?_
                refine r_dup dX5_readWeight_135 rfl ?_
                refine rr_getI (v := I m 2) dX5_readWeight_136 fg_X5_40 rfl (wX5_l hm) (wX5_s hm) rfl ?_
                refine r_iconst (n := 1) dX5_readWeight_139 ?_
                refine r_iadd dX5_readWeight_140 ?_
                obtain ⟨hc65, hT⟩ := hT
                refine rr_putI (jj := 2) dX5_readWeight_141 fp_X5_40 rfl rfl (wX5_l hm) (wX5_s hm) hc65 (fun M64 eM64 => ?_)
                have hFM64 := jFr_up hF eM64 (wX5_f hm 0 (by decide))
                replace hT := hT M64 eM64
                refine jOk_mem (fun hIM64 => ?_)
                refine r_aload_n dX5_readWeight_144 rfl (i := 0) rfl ?_
                obtain ⟨b66, hc67, hc68, hT⟩ := hT
                refine rr_getM (b := b66) dX5_readWeight_145 fg_X5_19 rfl rfl (wX5_l hm) (wX5_s hm) ((jr_nj eM64 (by decide)).trans hc67) ?_
                refine rr_getR (b := (b66 + 2)) dX5_readWeight_148 fg_X5_80 rfl rfl (wX6_l hc68) (wX6_s hc68) (wX6_r2 hc68) ?_
                refine r_aload_n dX5_readWeight_151 rfl (i := 0) rfl ?_
                obtain ⟨b69, hc70, hc71, hT⟩ := hT
                refine rr_getM (b := b69) dX5_readWeight_152 fg_X5_19 rfl rfl (wX5_l hm) (wX5_s hm) ((jr_nj eM64 (by decide)).trans hc70) ?_
                refine rr_getI (v := M64 b69 1) dX5_readWeight_155 fg_X5_35 rfl (wX6_l hc71) (wX6_s hc71) rfl ?_
                refine r_iload_n dX5_readWeight_158 rfl (i := 2) rfl ?_
                obtain ⟨hc72, hT⟩ := hT
                refine rr_iastore dX5_readWeight_159 (wX6_l2 hc68) (wX6_a2 hc68) (by decide) hc72 hx2 (fun M73 eM73 => ?_)
                have hFM73 := jFr_up hFM64 eM73 (wX6_f hc68 2 (by decide))
                replace hT := hT M73 eM73
                refine jOk_mem (fun hIM73 => ?_)
                refine r_aload_n dX5_readWeight_160 rfl (i := 0) rfl ?_
                obtain ⟨b74, hc75, hc76, hT⟩ := hT
                refine rr_getM (b := b74) dX5_readWeight_161 fg_X5_19 rfl rfl (wX5_l hm) (wX5_s hm) hc75 ?_
                refine rr_getR (b := (b74 + 3)) dX5_readWeight_164 fg_X5_84 rfl rfl (wX6_l hc76) (wX6_s hc76) (wX6_r3 hc76) ?_
                refine r_aload_n dX5_readWeight_167 rfl (i := 0) rfl ?_
                obtain ⟨b77, hc78, hc79, hT⟩ := hT
                refine rr_getM (b := b77) dX5_readWeight_168 fg_X5_19 rfl rfl (wX5_l hm) (wX5_s hm) hc78 ?_
                refine rr_getI (v := M73 b77 1) dX5_readWeight_171 fg_X5_35 rfl (wX6_l hc79) (wX6_s hc79) rfl ?_
                refine r_iconst (n := 0) dX5_readWeight_174 ?_
                obtain ⟨hc80, hT⟩ := hT
                refine rr_iastore dX5_readWeight_175 (wX6_l3 hc76) (wX6_a3 hc76) (by decide) hc80 ⟨by decide, by decide⟩ (fun M81 eM81 => ?_)
                have hFM81 := jFr_up hFM73 eM81 (wX6_f hc76 3 (by decide))
                replace hT := hT M81 eM81
                refine jOk_mem (fun hIM81 => ?_)
                refine r_aload_n dX5_readWeight_176 rfl (i := 0) rfl ?_
                obtain ⟨b82, hc83, hc84, hT⟩ := hT
                refine rr_getM (b := b82) dX5_readWeight_177 fg_X5_19 rfl rfl (wX5_l hm) (wX5_s hm) hc83 ?_
                refine rr_getR (b := (b82 + 4)) dX5_readWeight_180 fg_X5_87 rfl rfl (wX6_l hc84) (wX6_s hc84) (wX6_r4 hc84) ?_
                refine r_aload_n dX5_readWeight_183 rfl (i := 0) rfl ?_
                obtain ⟨b85, hc86, hc87, hT⟩ := hT
                refine rr_getM (b := b85) dX5_readWeight_184 fg_X5_19 rfl rfl (wX5_l hm) (wX5_s hm) hc86 ?_
                refine rr_getI (v := M81 b85 1) dX5_readWeight_187 fg_X5_35 rfl (wX6_l hc87) (wX6_s hc87) rfl ?_
                refine r_iconst (n := 0) dX5_readWeight_190 ?_
                obtain ⟨hc88, hT⟩ := hT
                refine rr_iastore dX5_readWeight_191 (wX6_l4 hc84) (wX6_a4 hc84) (by decide) hc88 ⟨by decide, by decide⟩ (fun M89 eM89 => ?_)
                have hFM89 := jFr_up hFM81 eM89 (wX6_f hc84 4 (by decide))
                replace hT := hT M89 eM89
                refine jOk_mem (fun hIM89 => ?_)
                refine r_iconst (n := 1) dX5_readWeight_192 ?_
                exact r_zret dX5_readWeight_193 rfl ⟨by decide, by decide⟩ ⟨Nat.zero_le _, Nat.zero_le _⟩ ⟨_, rfl, rfl, hFM89, hT⟩
              · replace hT := hT.2 hcc
                refine r_aload_n dX5_readWeight_124 rfl (i := 0) rfl ?_
                refine r_iconst (n := 1) dX5_readWeight_125 ?_
                refine r_aload_n dX5_readWeight_126 rfl (i := 0) rfl ?_
                refine rr_getI (v := I m 2) dX5_readWeight_127 fg_X5_40 rfl (wX5_l hm) (wX5_s hm) rfl ?_
                refine rr_cVI (a := m) (as := [VI 1, VI (I m 2)]) (st := []) dX5_readWeight_130 mt_X5_fail ml_X5_76 mi_X5_fail rm_X5_readWeight_X5_fail jz_X5_fail ⟨Nat.zero_le _, Nat.zero_le _⟩ (Nat.le_of_ble_eq_true rfl) (wX5_l hm) (wX5_c hm) (jasI ⟨by decide, by decide⟩ (jasI (hI _ _).inR jas0)) hT (fun r91 I90 hc92 hFI90 hT => ?_)
                replace hFI90 := jFr_tr hF hFI90
                refine jOk_mem (fun hI90 => ?_)
                obtain ⟨hc93, hT⟩ := hT
                exact r_zret dX5_readWeight_133 rfl hc93 ⟨Nat.zero_le _, Nat.zero_le _⟩ ⟨_, rfl, rfl, hFI90, hT⟩
            · replace hT := hT.2 hcc
              refine r_aload_n dX5_readWeight_108 rfl (i := 0) rfl ?_
              refine r_iconst (n := 3) dX5_readWeight_109 ?_
              refine r_iload_n dX5_readWeight_110 rfl (i := 1) rfl ?_
              refine rr_cVI (a := m) (as := [VI 3, VI x1]) (st := []) dX5_readWeight_111 mt_X5_fail ml_X5_76 mi_X5_fail rm_X5_readWeight_X5_fail jz_X5_fail ⟨Nat.zero_le _, Nat.zero_le _⟩ (Nat.le_of_ble_eq_true rfl) (wX5_l hm) (wX5_c hm) (jasI ⟨by decide, by decide⟩ (jasI hx1 jas0)) hT (fun r95 I94 hc96 hFI94 hT => ?_)
              replace hFI94 := jFr_tr hF hFI94
              refine jOk_mem (fun hI94 => ?_)
              obtain ⟨hc97, hT⟩ := hT
              exact r_zret dX5_readWeight_114 rfl hc97 ⟨Nat.zero_le _, Nat.zero_le _⟩ ⟨_, rfl, rfl, hFI94, hT⟩
          · replace hT := hT.2 hcc
            refine r_aload_n dX5_readWeight_89 rfl (i := 0) rfl ?_
            refine r_iconst (n := 2) dX5_readWeight_90 ?_
            refine r_iload_n dX5_readWeight_91 rfl (i := 1) rfl ?_
            refine rr_cVI (a := m) (as := [VI 2, VI x1]) (st := []) dX5_readWeight_92 mt_X5_fail ml_X5_76 mi_X5_fail rm_X5_readWeight_X5_fail jz_X5_fail ⟨Nat.zero_le _, Nat.zero_le _⟩ (Nat.le_of_ble_eq_true rfl) (wX5_l hm) (wX5_c hm) (jasI ⟨by decide, by decide⟩ (jasI hx1 jas0)) hT (fun r99 I98 hc100 hFI98 hT => ?_)
            replace hFI98 := jFr_tr hF hFI98
            refine jOk_mem (fun hI98 => ?_)
            obtain ⟨hc101, hT⟩ := hT
            exact r_zret dX5_readWeight_95 rfl hc101 ⟨Nat.zero_le _, Nat.zero_le _⟩ ⟨_, rfl, rfl, hFI98, hT⟩
      · replace hT := hT.2 hcc
        refine r_aload_n dX5_readWeight_68 rfl (i := 0) rfl ?_
        refine r_iconst (n := 1) dX5_readWeight_69 ?_
        refine r_aload_n dX5_readWeight_70 rfl (i := 0) rfl ?_
        refine rr_getI (v := I m 2) dX5_readWeight_71 fg_X5_40 rfl (wX5_l hm) (wX5_s hm) rfl ?_
        refine rr_cVI (a := m) (as := [VI 1, VI (I m 2)]) (st := []) dX5_readWeight_74 mt_X5_fail ml_X5_76 mi_X5_fail rm_X5_readWeight_X5_fail jz_X5_fail ⟨Nat.zero_le _, Nat.zero_le _⟩ (Nat.le_of_ble_eq_true rfl) (wX5_l hm) (wX5_c hm) (jasI ⟨by decide, by decide⟩ (jasI (hI _ _).inR jas0)) hT (fun r103 I102 hc104 hFI102 hT => ?_)
        replace hFI102 := jFr_tr hF hFI102
        refine jOk_mem (fun hI102 => ?_)
        obtain ⟨hc105, hT⟩ := hT
        exact r_zret dX5_readWeight_77 rfl hc105 ⟨Nat.zero_le _, Nat.zero_le _⟩ ⟨_, rfl, rfl, hFI102, hT⟩
    · replace hT := hT.2 hcc
      refine r_bipush (n := 100) dX5_readWeight_29 (by decide +kernel) ?_
      refine r_iload_n dX5_readWeight_31 rfl (i := 2) rfl ?_
      refine r_bipush (n := 10) dX5_readWeight_32 (by decide +kernel) ?_
      refine r_imul dX5_readWeight_34 ?_
      refine r_aload_n dX5_readWeight_35 rfl (i := 0) rfl ?_
      obtain ⟨hc107, hT⟩ := hT
      refine rr_pVI (A := jB) (v := cnx I m) (a := m) (as := []) (st := [VI (x2 * 10), VI 100]) dX5_readWeight_36 mt_X5_peek ml_X5_68 mi_X5_peek rm_X5_readWeight_X5_peek jz_X5_peek ⟨Nat.zero_le _, Nat.zero_le _⟩ (Nat.le_of_ble_eq_true rfl) (wX5_l hm) (wX5_c hm) jas0 ((sp_X5_peek hm) hc107) (fun hc106 => ?_)
      refine r_iadd dX5_readWeight_39 ?_
      refine r_bipush (n := 48) dX5_readWeight_40 (by decide +kernel) ?_
      refine r_isub dX5_readWeight_42 ?_
      obtain ⟨hc108, hT⟩ := hT
      have hc109 : jIn (min 100 (((x2 * 10) + (cnx I m)) - 48)) := j_min ⟨by decide, by decide⟩ hc108
      refine r_mmin (st := []) dX5_readWeight_43 ml_X5_23 w_min ⟨Nat.le_of_ble_eq_true rfl, Nat.le_of_ble_eq_true rfl⟩ ⟨Nat.zero_le _, Nat.zero_le _⟩ ⟨by decide, by decide⟩ hc108 ?_
      refine rr_istore_n (i := 2) (ls' := [VR m, VI x1, VI (min 100 (((x2 * 10) + (cnx I m)) - 48))]) dX5_readWeight_46 rfl (Nat.le_of_ble_eq_true rfl) rfl rfl hc109 ?_
      refine r_aload_n dX5_readWeight_47 rfl (i := 0) rfl ?_
      refine r_dup dX5_readWeight_48 rfl ?_
      refine rr_getI (v := I m 2) dX5_readWeight_49 fg_X5_40 rfl (wX5_l hm) (wX5_s hm) rfl ?_
      refine r_iconst (n := 1) dX5_readWeight_52 ?_
      refine r_iadd dX5_readWeight_53 ?_
      obtain ⟨hc111, hT⟩ := hT
      refine rr_putI (jj := 2) dX5_readWeight_54 fp_X5_40 rfl rfl (wX5_l hm) (wX5_s hm) hc111 (fun M110 eM110 => ?_)
      have hFM110 := jFr_up hF eM110 (wX5_f hm 0 (by decide))
      replace hT := hT M110 eM110
      refine jOk_mem (fun hIM110 => ?_)
      refine r_goto (tgt := 7) dX5_readWeight_57 rfl ?_
      exact hT I0 hFM110
set_option maxRecDepth 20000 in
theorem st_X5_readWeight_0 {E : jE} {G : jG} {I : jM} {q : Int → jM → Prop} {m : Nat} (hm : WX5 G m) (hT : (∀ a j, jRg (G.2.1 a).1 (I a j)) → jOI E jB kX5_readWeight 7 [VR m, VI (I m 2), VI 0] G I q) : jOI E jB kX5_readWeight 0 [VR m, VN, VN] G I q := by
  intro I0 hF
  refine jOk_mem (fun hI => ?_)
  replace hT := hT hI 
  refine r_aload_n dX5_readWeight_0 rfl (i := 0) rfl ?_
  refine rr_getI (v := I m 2) dX5_readWeight_1 fg_X5_40 rfl (wX5_l hm) (wX5_s hm) rfl ?_
  refine rr_istore_n (i := 1) (ls' := [VR m, VI (I m 2), VN]) dX5_readWeight_4 rfl (Nat.le_of_ble_eq_true rfl) rfl rfl (hI _ _).inR ?_
  refine r_iconst (n := 0) dX5_readWeight_5 ?_
  refine rr_istore_n (i := 2) (ls' := [VR m, VI (I m 2), VI 0]) dX5_readWeight_6 rfl (Nat.le_of_ble_eq_true rfl) rfl rfl ⟨by decide, by decide⟩ ?_
  exact hT I0 hF
theorem en_X5_readWeight {E : jE} {G : jG} {I : jM} {q : Int → jM → Prop} {m : Nat} (hm : WX5 G m) (hT : (∀ a j, jRg (G.2.1 a).1 (I a j)) → jOI E jB kX5_readWeight 7 [VR m, VI (I m 2), VI 0] G I q) : jRI E jB kX5_readWeight [VR m] G I q := jRun.of mt_X5_readWeight.2.2.2 2 rfl (fun _ => st_X5_readWeight_0 hm hT I (fun _ _ => rfl))
set_option maxRecDepth 20000 in
theorem st_X5_read_53 {E : jE} {G : jG} {I : jM} {q : Int → jM → Prop} {m : Nat} {x1 : Int} {p2 : Nat} {x3 : Int} (hm : WX5 G m) (hp2 : WX6 G p2) (hT : (∀ a j, jRg (G.2.1 a).1 (I a j)) → jIn x1 → jIn x3 → ((6 < x3 → (∃ b1 : Nat, I m 3 = (b1 : Int) ∧ WX6 G b1 ∧ ((0 : Int) ≤ 0 ∧ (0 : Int) ≤ 0 ∧ (0 : Int) ≤ (I m 1) ∧ (0 : Int) + (I m 1) ≤ 300 ∧ (0 : Int) + (I m 1) ≤ 300) ∧ (∀ M5, M5 = jcp I (m - 36) (b1 + 1) 0 0 (I m 1) → (∃ b6 : Nat, M5 m 3 = (b6 : Int) ∧ WX6 G b6 ∧ jRV E jB kX6_putInOrder [VR b6] G M5 (fun I9 => q 1 I9))))) ∧ (¬ 6 < x3 → (((I m 1) ≤ 0 → (∃ b10 : Nat, I m 3 = (b10 : Int) ∧ WX6 G b10 ∧ ((0 : Int) ≤ 0 ∧ (0 : Int) ≤ 0 ∧ (0 : Int) ≤ (I m 1) ∧ (0 : Int) + (I m 1) ≤ 300 ∧ (0 : Int) + (I m 1) ≤ 300) ∧ (∀ M14, M14 = jcp I (m - 36) (b10 + 1) 0 0 (I m 1) → (∃ b15 : Nat, M14 m 3 = (b15 : Int) ∧ WX6 G b15 ∧ jRV E jB kX6_putInOrder [VR b15] G M14 (fun I18 => q 1 I18))))) ∧ (¬ (I m 1) ≤ 0 → jRI E jB kX5_readWeight [VR m] G I (fun r20 I19 => ((r20 = 0 → q 0 I19) ∧ (¬ r20 = 0 → jRI E jB kX5_readElements [VR m] G I19 (fun r23 I22 => ((r23 = 0 → q 0 I22) ∧ (¬ r23 = 0 → jRI E jB kX5_readParts [VR m] G I22 (fun r26 I25 => ((¬ r26 = 0 → (∃ b28 : Nat, I25 m 3 = (b28 : Int) ∧ WX6 G b28 ∧ jIn ((I25 b28 1) + 1) ∧ (∀ M31, M31 = jup I25 b28 1 ((I25 b28 1) + 1) → (((M31 m 2) < (M31 m 1) → jIn ((M31 m 2) + 1) ∧ (∀ M33, M33 = jup M31 m 2 ((M31 m 2) + 1) → jIn (x3 + 1) ∧ jOI E jB kX5_read 53 [VR m, VI x1, VR p2, VI (x3 + 1)] G M33 q)) ∧ (¬ (M31 m 2) < (M31 m 1) → (∃ b36 : Nat, M31 m 3 = (b36 : Int) ∧ WX6 G b36 ∧ ((0 : Int) ≤ 0 ∧ (0 : Int) ≤ 0 ∧ (0 : Int) ≤ (M31 m 1) ∧ (0 : Int) + (M31 m 1) ≤ 300 ∧ (0 : Int) + (M31 m 1) ≤ 300) ∧ (∀ M40, M40 = jcp M31 (m - 36) (b36 + 1) 0 0 (M31 m 1) → (∃ b41 : Nat, M40 m 3 = (b41 : Int) ∧ WX6 G b41 ∧ jRV E jB kX6_putInOrder [VR b41] G M40 (fun I44 => q 1 I44))))))))) ∧ (r26 = 0 → q 0 I25)))))))))))))) : jOI E jB kX5_read 53 [VR m, VI x1, VR p2, VI x3] G I q := by
  intro I0 hF
  refine jOk_mem (fun hI => ?_)
  refine jOk_in (i := 1) rfl (fun hx1 => ?_)
  refine jOk_in (i := 3) rfl (fun hx3 => ?_)
  replace hT := hT hI hx1 hx3
  refine r_iload_n dX5_read_53 rfl (i := 3) rfl ?_
  refine r_bipush (n := 6) dX5_read_54 (by decide +kernel) ?_
  refine r_icmp_gt (tgt := 132) dX5_read_56 rfl hx3 ⟨by decide, by decide⟩ (fun hcc => ?_) (fun hcc => ?_)
  · replace hT := hT.1 hcc
    refine r_aload_n dX5_read_132 rfl (i := 0) rfl ?_
    refine rr_getR (b := (m - 36)) dX5_read_133 fg_X5_15 rfl rfl (wX5_l hm) (wX5_s hm) (wX5_r0 hm) ?_
    refine r_iconst (n := 0) dX5_read_136 ?_
    refine r_aload_n dX5_read_137 rfl (i := 0) rfl ?_
    obtain ⟨b1, hc2, hc3, hT⟩ := hT
    refine rr_getM (b := b1) dX5_read_138 fg_X5_19 rfl rfl (wX5_l hm) (wX5_s hm) hc2 ?_
    refine rr_getR (b := (b1 + 1)) dX5_read_141 fg_X5_56 rfl rfl (wX6_l hc3) (wX6_s hc3) (wX6_r0 hc3) ?_
    refine r_iconst (n := 0) dX5_read_144 ?_
    refine r_aload_n dX5_read_145 rfl (i := 0) rfl ?_
    refine rr_getI (v := I m 1) dX5_read_146 fg_X5_32 rfl (wX5_l hm) (wX5_s hm) rfl ?_
    obtain ⟨hc4, hT⟩ := hT
    refine rr_copy (st := []) dX5_read_149 ml_X5_59 ⟨Nat.le_of_ble_eq_true rfl, Nat.le_of_ble_eq_true rfl⟩ rfl (wX5_l0 hm) (wX6_l0 hc3) (wX5_a0 hm) (wX6_a0 hc3) (Or.inr rfl) (by decide) (by decide) hc4 (fun M5 eM5 => ?_)
    have hFM5 := jFr_cp hF eM5 (wX6_f hc3 1 (by decide))
    replace hT := hT M5 eM5
    refine jOk_mem (fun hIM5 => ?_)
    refine r_aload_n dX5_read_152 rfl (i := 0) rfl ?_
    obtain ⟨b6, hc7, hc8, hT⟩ := hT
    refine rr_getM (b := b6) dX5_read_153 fg_X5_19 rfl rfl (wX5_l hm) (wX5_s hm) hc7 ?_
    refine rr_cVV (a := b6) (as := []) (st := []) dX5_read_156 mt_X6_putInOrder ml_X5_65 mi_X6_putInOrder rm_X5_read_X6_putInOrder jz_X6_putInOrder ⟨Nat.zero_le _, Nat.zero_le _⟩ (Nat.le_of_ble_eq_true rfl) (wX6_l hc8) (wX6_c hc8) jas0 hT (fun I9 hFI9 hT => ?_)
    replace hFI9 := jFr_tr hFM5 hFI9
    refine jOk_mem (fun hI9 => ?_)
    refine r_iconst (n := 1) dX5_read_159 ?_
    exact r_zret dX5_read_160 rfl ⟨by decide, by decide⟩ ⟨Nat.zero_le _, Nat.zero_le _⟩ ⟨_, rfl, rfl, hFI9, hT⟩
  · replace hT := hT.2 hcc
    refine r_aload_n dX5_read_59 rfl (i := 0) rfl ?_
    refine rr_getI (v := I m 1) dX5_read_60 fg_X5_32 rfl (wX5_l hm) (wX5_s hm) rfl ?_
    refine r_if_le (tgt := 132) dX5_read_63 rfl (hI _ _).inR (fun hcc => ?_) (fun hcc => ?_)
    · replace hT := hT.1 hcc
      refine r_aload_n dX5_read_132 rfl (i := 0) rfl ?_
      refine rr_getR (b := (m - 36)) dX5_read_133 fg_X5_15 rfl rfl (wX5_l hm) (wX5_s hm) (wX5_r0 hm) ?_
      refine r_iconst (n := 0) dX5_read_136 ?_
      refine r_aload_n dX5_read_137 rfl (i := 0) rfl ?_
      obtain ⟨b10, hc11, hc12, hT⟩ := hT
      refine rr_getM (b := b10) dX5_read_138 fg_X5_19 rfl rfl (wX5_l hm) (wX5_s hm) hc11 ?_
      refine rr_getR (b := (b10 + 1)) dX5_read_141 fg_X5_56 rfl rfl (wX6_l hc12) (wX6_s hc12) (wX6_r0 hc12) ?_
      refine r_iconst (n := 0) dX5_read_144 ?_
      refine r_aload_n dX5_read_145 rfl (i := 0) rfl ?_
      refine rr_getI (v := I m 1) dX5_read_146 fg_X5_32 rfl (wX5_l hm) (wX5_s hm) rfl ?_
      obtain ⟨hc13, hT⟩ := hT
      refine rr_copy (st := []) dX5_read_149 ml_X5_59 ⟨Nat.le_of_ble_eq_true rfl, Nat.le_of_ble_eq_true rfl⟩ rfl (wX5_l0 hm) (wX6_l0 hc12) (wX5_a0 hm) (wX6_a0 hc12) (Or.inr rfl) (by decide) (by decide) hc13 (fun M14 eM14 => ?_)
      have hFM14 := jFr_cp hF eM14 (wX6_f hc12 1 (by decide))
      replace hT := hT M14 eM14
      refine jOk_mem (fun hIM14 => ?_)
      refine r_aload_n dX5_read_152 rfl (i := 0) rfl ?_
      obtain ⟨b15, hc16, hc17, hT⟩ := hT
      refine rr_getM (b := b15) dX5_read_153 fg_X5_19 rfl rfl (wX5_l hm) (wX5_s hm) hc16 ?_
      refine rr_cVV (a := b15) (as := []) (st := []) dX5_read_156 mt_X6_putInOrder ml_X5_65 mi_X6_putInOrder rm_X5_read_X6_putInOrder jz_X6_putInOrder ⟨Nat.zero_le _, Nat.zero_le _⟩ (Nat.le_of_ble_eq_true rfl) (wX6_l hc17) (wX6_c hc17) jas0 hT (fun I18 hFI18 hT => ?_)
      replace hFI18 := jFr_tr hFM14 hFI18
      refine jOk_mem (fun hI18 => ?_)
      refine r_iconst (n := 1) dX5_read_159 ?_
      exact r_zret dX5_read_160 rfl ⟨by decide, by decide⟩ ⟨Nat.zero_le _, Nat.zero_le _⟩ ⟨_, rfl, rfl, hFI18, hT⟩
    · replace hT := hT.2 hcc
      refine r_aload_n dX5_read_66 rfl (i := 0) rfl ?_
      refine rr_cVI (a := m) (as := []) (st := []) dX5_read_67 mt_X5_readWeight ml_X5_46 mi_X5_readWeight rm_X5_read_X5_readWeight jz_X5_readWeight ⟨Nat.zero_le _, Nat.zero_le _⟩ (Nat.le_of_ble_eq_true rfl) (wX5_l hm) (wX5_c hm) jas0 hT (fun r20 I19 hc21 hFI19 hT => ?_)
      replace hFI19 := jFr_tr hF hFI19
      refine jOk_mem (fun hI19 => ?_)
      refine r_if_eq (tgt := 87) dX5_read_70 rfl hc21 (fun hcc => ?_) (fun hcc => ?_)
      · replace hT := hT.1 hcc
        refine r_iconst (n := 0) dX5_read_87 ?_
        exact r_zret dX5_read_88 rfl ⟨by decide, by decide⟩ ⟨Nat.zero_le _, Nat.zero_le _⟩ ⟨_, rfl, rfl, hFI19, hT⟩
      · replace hT := hT.2 hcc
        refine r_aload_n dX5_read_73 rfl (i := 0) rfl ?_
        refine rr_cVI (a := m) (as := []) (st := []) dX5_read_74 mt_X5_readElements ml_X5_50 mi_X5_readElements rm_X5_read_X5_readElements jz_X5_readElements ⟨Nat.zero_le _, Nat.zero_le _⟩ (Nat.le_of_ble_eq_true rfl) (wX5_l hm) (wX5_c hm) jas0 hT (fun r23 I22 hc24 hFI22 hT => ?_)
        replace hFI22 := jFr_tr hFI19 hFI22
        refine jOk_mem (fun hI22 => ?_)
        refine r_if_eq (tgt := 87) dX5_read_77 rfl hc24 (fun hcc => ?_) (fun hcc => ?_)
        · replace hT := hT.1 hcc
          refine r_iconst (n := 0) dX5_read_87 ?_
          exact r_zret dX5_read_88 rfl ⟨by decide, by decide⟩ ⟨Nat.zero_le _, Nat.zero_le _⟩ ⟨_, rfl, rfl, hFI22, hT⟩
        · replace hT := hT.2 hcc
          refine r_aload_n dX5_read_80 rfl (i := 0) rfl ?_
          refine rr_cVI (a := m) (as := []) (st := []) dX5_read_81 mt_X5_readParts ml_X5_53 mi_X5_readParts rm_X5_read_X5_readParts jz_X5_readParts ⟨Nat.zero_le _, Nat.zero_le _⟩ (Nat.le_of_ble_eq_true rfl) (wX5_l hm) (wX5_c hm) jas0 hT (fun r26 I25 hc27 hFI25 hT => ?_)
          replace hFI25 := jFr_tr hFI22 hFI25
          refine jOk_mem (fun hI25 => ?_)
          refine r_if_ne (tgt := 89) dX5_read_84 rfl hc27 (fun hcc => ?_) (fun hcc => ?_)
          · replace hT := hT.1 hcc
            refine r_aload_n dX5_read_89 rfl (i := 0) rfl ?_
            obtain ⟨b28, hc29, hc30, hT⟩ := hT
            refine rr_getM (b := b28) dX5_read_90 fg_X5_19 rfl rfl (wX5_l hm) (wX5_s hm) hc29 ?_
            refine r_dup dX5_read_93 rfl ?_
            refine rr_getI (v := I25 b28 1) dX5_read_94 fg_X5_35 rfl (wX6_l hc30) (wX6_s hc30) rfl ?_
            refine r_iconst (n := 1) dX5_read_97 ?_
            refine r_iadd dX5_read_98 ?_
            obtain ⟨hc32, hT⟩ := hT
            refine rr_putI (jj := 1) dX5_read_99 fp_X5_35 rfl rfl (wX6_l hc30) (wX6_s hc30) hc32 (fun M31 eM31 => ?_)
            have hFM31 := jFr_up hFI25 eM31 (wX6_f hc30 0 (by decide))
            replace hT := hT M31 eM31
            refine jOk_mem (fun hIM31 => ?_)
            refine r_aload_n dX5_read_102 rfl (i := 0) rfl ?_
            refine rr_getI (v := M31 m 2) dX5_read_103 fg_X5_40 rfl (wX5_l hm) (wX5_s hm) rfl ?_
            refine r_aload_n dX5_read_106 rfl (i := 0) rfl ?_
            refine rr_getI (v := M31 m 1) dX5_read_107 fg_X5_32 rfl (wX5_l hm) (wX5_s hm) rfl ?_
            refine r_icmp_lt (tgt := 116) dX5_read_110 rfl (hIM31 _ _).inR (hIM31 _ _).inR (fun hcc => ?_) (fun hcc => ?_)
            · replace hT := hT.1 hcc
              refine r_aload_n dX5_read_116 rfl (i := 0) rfl ?_
              refine r_dup dX5_read_117 rfl ?_
              refine rr_getI (v := M31 m 2) dX5_read_118 fg_X5_40 rfl (wX5_l hm) (wX5_s hm) rfl ?_
              refine r_iconst (n := 1) dX5_read_121 ?_
              refine r_iadd dX5_read_122 ?_
              obtain ⟨hc34, hT⟩ := hT
              refine rr_putI (jj := 2) dX5_read_123 fp_X5_40 rfl rfl (wX5_l hm) (wX5_s hm) hc34 (fun M33 eM33 => ?_)
              have hFM33 := jFr_up hFM31 eM33 (wX5_f hm 0 (by decide))
              replace hT := hT M33 eM33
              refine jOk_mem (fun hIM33 => ?_)
              obtain ⟨hc35, hT⟩ := hT
              refine rr_iinc (i := 3) (ls' := [VR m, VI x1, VR p2, VI (x3 + 1)]) dX5_read_126 rfl (Nat.le_of_ble_eq_true rfl) rfl rfl hc35 ?_
              refine r_goto (tgt := 53) dX5_read_129 rfl ?_
              exact hT I0 hFM33
            · replace hT := hT.2 hcc
              refine r_goto (tgt := 132) dX5_read_113 rfl ?_
              refine r_aload_n dX5_read_132 rfl (i := 0) rfl ?_
              refine rr_getR (b := (m - 36)) dX5_read_133 fg_X5_15 rfl rfl (wX5_l hm) (wX5_s hm) (wX5_r0 hm) ?_
              refine r_iconst (n := 0) dX5_read_136 ?_
              refine r_aload_n dX5_read_137 rfl (i := 0) rfl ?_
              obtain ⟨b36, hc37, hc38, hT⟩ := hT
              refine rr_getM (b := b36) dX5_read_138 fg_X5_19 rfl rfl (wX5_l hm) (wX5_s hm) hc37 ?_
              refine rr_getR (b := (b36 + 1)) dX5_read_141 fg_X5_56 rfl rfl (wX6_l hc38) (wX6_s hc38) (wX6_r0 hc38) ?_
              refine r_iconst (n := 0) dX5_read_144 ?_
              refine r_aload_n dX5_read_145 rfl (i := 0) rfl ?_
              refine rr_getI (v := M31 m 1) dX5_read_146 fg_X5_32 rfl (wX5_l hm) (wX5_s hm) rfl ?_
              obtain ⟨hc39, hT⟩ := hT
              refine rr_copy (st := []) dX5_read_149 ml_X5_59 ⟨Nat.le_of_ble_eq_true rfl, Nat.le_of_ble_eq_true rfl⟩ rfl (wX5_l0 hm) (wX6_l0 hc38) (wX5_a0 hm) (wX6_a0 hc38) (Or.inr rfl) (by decide) (by decide) hc39 (fun M40 eM40 => ?_)
              have hFM40 := jFr_cp hFM31 eM40 (wX6_f hc38 1 (by decide))
              replace hT := hT M40 eM40
              refine jOk_mem (fun hIM40 => ?_)
              refine r_aload_n dX5_read_152 rfl (i := 0) rfl ?_
              obtain ⟨b41, hc42, hc43, hT⟩ := hT
              refine rr_getM (b := b41) dX5_read_153 fg_X5_19 rfl rfl (wX5_l hm) (wX5_s hm) hc42 ?_
              refine rr_cVV (a := b41) (as := []) (st := []) dX5_read_156 mt_X6_putInOrder ml_X5_65 mi_X6_putInOrder rm_X5_read_X6_putInOrder jz_X6_putInOrder ⟨Nat.zero_le _, Nat.zero_le _⟩ (Nat.le_of_ble_eq_true rfl) (wX6_l hc43) (wX6_c hc43) jas0 hT (fun I44 hFI44 hT => ?_)
              replace hFI44 := jFr_tr hFM40 hFI44
              refine jOk_mem (fun hI44 => ?_)
              refine r_iconst (n := 1) dX5_read_159 ?_
              exact r_zret dX5_read_160 rfl ⟨by decide, by decide⟩ ⟨Nat.zero_le _, Nat.zero_le _⟩ ⟨_, rfl, rfl, hFI44, hT⟩
          · replace hT := hT.2 hcc
            refine r_iconst (n := 0) dX5_read_87 ?_
            exact r_zret dX5_read_88 rfl ⟨by decide, by decide⟩ ⟨Nat.zero_le _, Nat.zero_le _⟩ ⟨_, rfl, rfl, hFI25, hT⟩
set_option maxRecDepth 20000 in
theorem st_X5_read_0 {E : jE} {G : jG} {I : jM} {q : Int → jM → Prop} {m : Nat} {x1 : Int} {p2 : Nat} (hm : WX5 G m) (hp2 : WX6 G p2) (hT : (∀ a j, jRg (G.2.1 a).1 (I a j)) → jIn x1 → (∀ M4, M4 = jup I m 1 (max 0 (min x1 (min 300 300))) → (((p2 : Nat) : Int) ≤ 2147483647) ∧ (∀ M5, M5 = jup M4 m 3 ((p2 : Nat) : Int) → (∃ b7 : Nat, (p2 : Int) = (b7 : Int) ∧ WX6 G b7 ∧ (∀ M10, M10 = jup M5 b7 1 0 → (∀ M11, M11 = jup M10 m 2 0 → (∀ M12, M12 = jup M11 m 4 0 → (∀ M13, M13 = jup M12 m 5 (-1) → jOI E jB kX5_read 53 [VR m, VI x1, VR p2, VI 0] G M13 q)))))))) : jOI E jB kX5_read 0 [VR m, VI x1, VR p2, VN] G I q := by
  intro I0 hF
  refine jOk_mem (fun hI => ?_)
  refine jOk_in (i := 1) rfl (fun hx1 => ?_)
  replace hT := hT hI hx1
  refine r_aload_n dX5_read_0 rfl (i := 0) rfl ?_
  refine r_iconst (n := 0) dX5_read_1 ?_
  refine r_iload_n dX5_read_2 rfl (i := 1) rfl ?_
  refine r_aload_n dX5_read_3 rfl (i := 0) rfl ?_
  refine rr_getR (b := (m - 36)) dX5_read_4 fg_X5_15 rfl rfl (wX5_l hm) (wX5_s hm) (wX5_r0 hm) ?_
  refine r_alen dX5_read_7 (wX5_l0 hm) (wX5_a0 hm) (Or.inr (Or.inl rfl)) ?_
  refine r_sipush (n := 300) dX5_read_8 (by decide +kernel) ?_
  have hc1 : jIn (min 300 300) := j_min ⟨by omega, by omega⟩ ⟨by decide, by decide⟩
  refine r_mmin (st := [VI x1, VI 0, VR m]) dX5_read_11 ml_X5_23 w_min ⟨Nat.le_of_ble_eq_true rfl, Nat.le_of_ble_eq_true rfl⟩ ⟨Nat.zero_le _, Nat.zero_le _⟩ ⟨by omega, by omega⟩ ⟨by decide, by decide⟩ ?_
  have hc2 : jIn (min x1 (min 300 300)) := j_min hx1 hc1
  refine r_mmin (st := [VI 0, VR m]) dX5_read_14 ml_X5_23 w_min ⟨Nat.le_of_ble_eq_true rfl, Nat.le_of_ble_eq_true rfl⟩ ⟨Nat.zero_le _, Nat.zero_le _⟩ hx1 hc1 ?_
  have hc3 : jIn (max 0 (min x1 (min 300 300))) := j_max ⟨by decide, by decide⟩ hc2
  refine r_mmax (st := [VR m]) dX5_read_17 ml_X5_29 w_max ⟨Nat.le_of_ble_eq_true rfl, Nat.le_of_ble_eq_true rfl⟩ ⟨Nat.zero_le _, Nat.zero_le _⟩ ⟨by decide, by decide⟩ hc2 ?_
  refine rr_putI (jj := 1) dX5_read_20 fp_X5_32 rfl rfl (wX5_l hm) (wX5_s hm) hc3 (fun M4 eM4 => ?_)
  have hFM4 := jFr_up hF eM4 (wX5_f hm 0 (by decide))
  replace hT := hT M4 eM4
  refine jOk_mem (fun hIM4 => ?_)
  refine r_aload_n dX5_read_23 rfl (i := 0) rfl ?_
  refine r_aload_n dX5_read_24 rfl (i := 2) rfl ?_
  obtain ⟨hc6, hT⟩ := hT
  refine rr_putM (jj := 3) dX5_read_25 fp_X5_19 rfl rfl (wX5_l hm) (wX5_s hm) hc6 (fun M5 eM5 => ?_)
  have hFM5 := jFr_up hFM4 eM5 (wX5_f hm 0 (by decide))
  replace hT := hT M5 eM5
  refine jOk_mem (fun hIM5 => ?_)
  refine r_aload_n dX5_read_28 rfl (i := 0) rfl ?_
  obtain ⟨b7, hc8, hc9, hT⟩ := hT
  refine rr_getM (b := b7) dX5_read_29 fg_X5_19 rfl rfl (wX5_l hm) (wX5_s hm) ((jr_eq eM5).trans hc8) ?_
  refine r_iconst (n := 0) dX5_read_32 ?_
  refine rr_putI (jj := 1) dX5_read_33 fp_X5_35 rfl rfl (wX6_l hc9) (wX6_s hc9) ⟨by decide, by decide⟩ (fun M10 eM10 => ?_)
  have hFM10 := jFr_up hFM5 eM10 (wX6_f hc9 0 (by decide))
  replace hT := hT M10 eM10
  refine jOk_mem (fun hIM10 => ?_)
  refine r_aload_n dX5_read_36 rfl (i := 0) rfl ?_
  refine r_iconst (n := 0) dX5_read_37 ?_
  refine rr_putI (jj := 2) dX5_read_38 fp_X5_40 rfl rfl (wX5_l hm) (wX5_s hm) ⟨by decide, by decide⟩ (fun M11 eM11 => ?_)
  have hFM11 := jFr_up hFM10 eM11 (wX5_f hm 0 (by decide))
  replace hT := hT M11 eM11
  refine jOk_mem (fun hIM11 => ?_)
  refine r_aload_n dX5_read_41 rfl (i := 0) rfl ?_
  refine r_iconst (n := 0) dX5_read_42 ?_
  refine rr_putI (jj := 4) dX5_read_43 fp_X5_43 rfl rfl (wX5_l hm) (wX5_s hm) ⟨by decide, by decide⟩ (fun M12 eM12 => ?_)
  have hFM12 := jFr_up hFM11 eM12 (wX5_f hm 0 (by decide))
  replace hT := hT M12 eM12
  refine jOk_mem (fun hIM12 => ?_)
  refine r_aload_n dX5_read_46 rfl (i := 0) rfl ?_
  refine r_iconst (n := (-1)) dX5_read_47 ?_
  refine rr_putI (jj := 5) dX5_read_48 fp_X5_9 rfl rfl (wX5_l hm) (wX5_s hm) ⟨by decide, by decide⟩ (fun M13 eM13 => ?_)
  have hFM13 := jFr_up hFM12 eM13 (wX5_f hm 0 (by decide))
  replace hT := hT M13 eM13
  refine jOk_mem (fun hIM13 => ?_)
  refine r_iconst (n := 0) dX5_read_51 ?_
  refine rr_istore_n (i := 3) (ls' := [VR m, VI x1, VR p2, VI 0]) dX5_read_52 rfl (Nat.le_of_ble_eq_true rfl) rfl rfl ⟨by decide, by decide⟩ ?_
  exact hT I0 hFM13
theorem en_X5_read {E : jE} {G : jG} {I : jM} {q : Int → jM → Prop} {m : Nat} {x1 : Int} {p2 : Nat} (hm : WX5 G m) (hp2 : WX6 G p2) (hT : (∀ a j, jRg (G.2.1 a).1 (I a j)) → jIn x1 → (∀ M4, M4 = jup I m 1 (max 0 (min x1 (min 300 300))) → (((p2 : Nat) : Int) ≤ 2147483647) ∧ (∀ M5, M5 = jup M4 m 3 ((p2 : Nat) : Int) → (∃ b7 : Nat, (p2 : Int) = (b7 : Int) ∧ WX6 G b7 ∧ (∀ M10, M10 = jup M5 b7 1 0 → (∀ M11, M11 = jup M10 m 2 0 → (∀ M12, M12 = jup M11 m 4 0 → (∀ M13, M13 = jup M12 m 5 (-1) → jOI E jB kX5_read 53 [VR m, VI x1, VR p2, VI 0] G M13 q)))))))) : jRI E jB kX5_read [VR m, VI x1, VR p2] G I q := jRun.of mt_X5_read.2.2.2 1 rfl (fun _ => st_X5_read_0 hm hp2 hT I (fun _ _ => rfl))
set_option maxRecDepth 20000 in
theorem st_X6_putInOrder_14 {E : jE} {G : jG} {I : jM} {q : jM → Prop} {m : Nat} {x1 : Int} {x2 : Int} {x3 : Int} (hm : WX6 G m) (hT : (∀ a j, jRg (G.2.1 a).1 (I a j)) → jIn x1 → jIn x2 → jIn x3 → (((I m 1) ≤ x3 → ((0 : Int) ≤ x2 ∧ (x2 : Int) < 6) ∧ (∀ M2, M2 = jup I (m + 5) x2 x1 → jIn (x1 + 1) ∧ jOV E jB kX6_putInOrder 2 [VR m, VI (x1 + 1), VN, VN] G M2 q)) ∧ (¬ (I m 1) ≤ x3 → ((0 : Int) ≤ x3 ∧ (x3 : Int) < 6) ∧ ((0 : Int) ≤ x1 ∧ (x1 : Int) < 6) ∧ (((I (m + 3) x3) < (I (m + 3) x1) → jIn (x2 + 1) ∧ jIn (x3 + 1) ∧ jOV E jB kX6_putInOrder 14 [VR m, VI x1, VI (x2 + 1), VI (x3 + 1)] G I q) ∧ (¬ (I (m + 3) x3) < (I (m + 3) x1) → ((0 : Int) ≤ x3 ∧ (x3 : Int) < 6) ∧ ((0 : Int) ≤ x1 ∧ (x1 : Int) < 6) ∧ ((¬ (I (m + 3) x3) = (I (m + 3) x1) → jIn (x3 + 1) ∧ jOV E jB kX6_putInOrder 14 [VR m, VI x1, VI x2, VI (x3 + 1)] G I q) ∧ ((I (m + 3) x3) = (I (m + 3) x1) → ((x1 ≤ x3 → jIn (x3 + 1) ∧ jOV E jB kX6_putInOrder 14 [VR m, VI x1, VI x2, VI (x3 + 1)] G I q) ∧ (¬ x1 ≤ x3 → jIn (x2 + 1) ∧ jIn (x3 + 1) ∧ jOV E jB kX6_putInOrder 14 [VR m, VI x1, VI (x2 + 1), VI (x3 + 1)] G I q))))))))) : jOV E jB kX6_putInOrder 14 [VR m, VI x1, VI x2, VI x3] G I q := by
  intro I0 hF
  refine jOk_mem (fun hI => ?_)
  refine jOk_in (i := 1) rfl (fun hx1 => ?_)
  refine jOk_in (i := 2) rfl (fun hx2 => ?_)
  refine jOk_in (i := 3) rfl (fun hx3 => ?_)
  replace hT := hT hI hx1 hx2 hx3
  refine r_iload_n dX6_putInOrder_14 rfl (i := 3) rfl ?_
  refine r_aload_n dX6_putInOrder_15 rfl (i := 0) rfl ?_
  refine rr_getI (v := I m 1) dX6_putInOrder_16 fg_X6_49 rfl (wX6_l hm) (wX6_s hm) rfl ?_
  refine r_icmp_ge (tgt := 66) dX6_putInOrder_19 rfl hx3 (hI _ _).inR (fun hcc => ?_) (fun hcc => ?_)
  · replace hT := hT.1 hcc
    refine r_aload_n dX6_putInOrder_66 rfl (i := 0) rfl ?_
    refine rr_getR (b := (m + 5)) dX6_putInOrder_67 fg_X6_25 rfl rfl (wX6_l hm) (wX6_s hm) (wX6_r5 hm) ?_
    refine r_iload_n dX6_putInOrder_70 rfl (i := 2) rfl ?_
    refine r_iload_n dX6_putInOrder_71 rfl (i := 1) rfl ?_
    obtain ⟨hc1, hT⟩ := hT
    refine rr_iastore dX6_putInOrder_72 (wX6_l5 hm) (wX6_a5 hm) (by decide) hc1 hx1 (fun M2 eM2 => ?_)
    have hFM2 := jFr_up hF eM2 (wX6_f hm 5 (by decide))
    replace hT := hT M2 eM2
    refine jOk_mem (fun hIM2 => ?_)
    obtain ⟨hc3, hT⟩ := hT
    refine rr_iinc (i := 1) (ls' := [VR m, VI (x1 + 1), VI x2, VI x3]) dX6_putInOrder_73 rfl (Nat.le_of_ble_eq_true rfl) rfl rfl hc3 ?_
    refine r_goto (tgt := 2) dX6_putInOrder_76 rfl ?_
    exact jOk_le (ls' := [VR m, VI (x1 + 1), VN, VN]) ⟨Or.inr rfl, Or.inr rfl, Or.inl rfl, Or.inl rfl, trivial⟩ (hT I0 hFM2)
  · replace hT := hT.2 hcc
    refine r_aload_n dX6_putInOrder_22 rfl (i := 0) rfl ?_
    refine rr_getR (b := (m + 3)) dX6_putInOrder_23 fg_X6_19 rfl rfl (wX6_l hm) (wX6_s hm) (wX6_r3 hm) ?_
    refine r_iload_n dX6_putInOrder_26 rfl (i := 3) rfl ?_
    obtain ⟨hc4, hT⟩ := hT
    refine rr_iaload (v := I (m + 3) x3) dX6_putInOrder_27 (wX6_l3 hm) (wX6_a3 hm) (by decide) hc4 rfl ?_
    refine r_aload_n dX6_putInOrder_28 rfl (i := 0) rfl ?_
    refine rr_getR (b := (m + 3)) dX6_putInOrder_29 fg_X6_19 rfl rfl (wX6_l hm) (wX6_s hm) (wX6_r3 hm) ?_
    refine r_iload_n dX6_putInOrder_32 rfl (i := 1) rfl ?_
    obtain ⟨hc5, hT⟩ := hT
    refine rr_iaload (v := I (m + 3) x1) dX6_putInOrder_33 (wX6_l3 hm) (wX6_a3 hm) (by decide) hc5 rfl ?_
    refine r_icmp_lt (tgt := 57) dX6_putInOrder_34 rfl (hI _ _).inR (hI _ _).inR (fun hcc => ?_) (fun hcc => ?_)
    · replace hT := hT.1 hcc
      obtain ⟨hc6, hT⟩ := hT
      refine rr_iinc (i := 2) (ls' := [VR m, VI x1, VI (x2 + 1), VI x3]) dX6_putInOrder_57 rfl (Nat.le_of_ble_eq_true rfl) rfl rfl hc6 ?_
      obtain ⟨hc7, hT⟩ := hT
      refine rr_iinc (i := 3) (ls' := [VR m, VI x1, VI (x2 + 1), VI (x3 + 1)]) dX6_putInOrder_60 rfl (Nat.le_of_ble_eq_true rfl) rfl rfl hc7 ?_
      refine r_goto (tgt := 14) dX6_putInOrder_63 rfl ?_
      exact hT I0 hF
    · replace hT := hT.2 hcc
      refine r_aload_n dX6_putInOrder_37 rfl (i := 0) rfl ?_
      refine rr_getR (b := (m + 3)) dX6_putInOrder_38 fg_X6_19 rfl rfl (wX6_l hm) (wX6_s hm) (wX6_r3 hm) ?_
      refine r_iload_n dX6_putInOrder_41 rfl (i := 3) rfl ?_
      obtain ⟨hc8, hT⟩ := hT
      refine rr_iaload (v := I (m + 3) x3) dX6_putInOrder_42 (wX6_l3 hm) (wX6_a3 hm) (by decide) hc8 rfl ?_
      refine r_aload_n dX6_putInOrder_43 rfl (i := 0) rfl ?_
      refine rr_getR (b := (m + 3)) dX6_putInOrder_44 fg_X6_19 rfl rfl (wX6_l hm) (wX6_s hm) (wX6_r3 hm) ?_
      refine r_iload_n dX6_putInOrder_47 rfl (i := 1) rfl ?_
      obtain ⟨hc9, hT⟩ := hT
      refine rr_iaload (v := I (m + 3) x1) dX6_putInOrder_48 (wX6_l3 hm) (wX6_a3 hm) (by decide) hc9 rfl ?_
      refine r_icmp_ne (tgt := 60) dX6_putInOrder_49 rfl (hI _ _).inR (hI _ _).inR (fun hcc => ?_) (fun hcc => ?_)
      · replace hT := hT.1 hcc
        obtain ⟨hc10, hT⟩ := hT
        refine rr_iinc (i := 3) (ls' := [VR m, VI x1, VI x2, VI (x3 + 1)]) dX6_putInOrder_60 rfl (Nat.le_of_ble_eq_true rfl) rfl rfl hc10 ?_
        refine r_goto (tgt := 14) dX6_putInOrder_63 rfl ?_
        exact hT I0 hF
      · replace hT := hT.2 hcc
        refine r_iload_n dX6_putInOrder_52 rfl (i := 3) rfl ?_
        refine r_iload_n dX6_putInOrder_53 rfl (i := 1) rfl ?_
        refine r_icmp_ge (tgt := 60) dX6_putInOrder_54 rfl hx3 hx1 (fun hcc => ?_) (fun hcc => ?_)
        · replace hT := hT.1 hcc
          obtain ⟨hc11, hT⟩ := hT
          refine rr_iinc (i := 3) (ls' := [VR m, VI x1, VI x2, VI (x3 + 1)]) dX6_putInOrder_60 rfl (Nat.le_of_ble_eq_true rfl) rfl rfl hc11 ?_
          refine r_goto (tgt := 14) dX6_putInOrder_63 rfl ?_
          exact hT I0 hF
        · replace hT := hT.2 hcc
          obtain ⟨hc12, hT⟩ := hT
          refine rr_iinc (i := 2) (ls' := [VR m, VI x1, VI (x2 + 1), VI x3]) dX6_putInOrder_57 rfl (Nat.le_of_ble_eq_true rfl) rfl rfl hc12 ?_
          obtain ⟨hc13, hT⟩ := hT
          refine rr_iinc (i := 3) (ls' := [VR m, VI x1, VI (x2 + 1), VI (x3 + 1)]) dX6_putInOrder_60 rfl (Nat.le_of_ble_eq_true rfl) rfl rfl hc13 ?_
          refine r_goto (tgt := 14) dX6_putInOrder_63 rfl ?_
          exact hT I0 hF
set_option maxRecDepth 20000 in
theorem st_X6_putInOrder_2 {E : jE} {G : jG} {I : jM} {q : jM → Prop} {m : Nat} {x1 : Int} (hm : WX6 G m) (hT : (∀ a j, jRg (G.2.1 a).1 (I a j)) → jIn x1 → (((I m 1) ≤ x1 → q I) ∧ (¬ (I m 1) ≤ x1 → jOV E jB kX6_putInOrder 14 [VR m, VI x1, VI 0, VI 0] G I q))) : jOV E jB kX6_putInOrder 2 [VR m, VI x1, VN, VN] G I q := by
  intro I0 hF
  refine jOk_mem (fun hI => ?_)
  refine jOk_in (i := 1) rfl (fun hx1 => ?_)
  replace hT := hT hI hx1
  refine r_iload_n dX6_putInOrder_2 rfl (i := 1) rfl ?_
  refine r_aload_n dX6_putInOrder_3 rfl (i := 0) rfl ?_
  refine rr_getI (v := I m 1) dX6_putInOrder_4 fg_X6_49 rfl (wX6_l hm) (wX6_s hm) rfl ?_
  refine r_icmp_ge (tgt := 79) dX6_putInOrder_7 rfl hx1 (hI _ _).inR (fun hcc => ?_) (fun hcc => ?_)
  · replace hT := hT.1 hcc
    exact r_vret dX6_putInOrder_79 rfl ⟨Nat.zero_le _, Nat.zero_le _⟩ ⟨rfl, rfl, hF, hT⟩
  · replace hT := hT.2 hcc
    refine r_iconst (n := 0) dX6_putInOrder_10 ?_
    refine rr_istore_n (i := 2) (ls' := [VR m, VI x1, VI 0, VN]) dX6_putInOrder_11 rfl (Nat.le_of_ble_eq_true rfl) rfl rfl ⟨by decide, by decide⟩ ?_
    refine r_iconst (n := 0) dX6_putInOrder_12 ?_
    refine rr_istore_n (i := 3) (ls' := [VR m, VI x1, VI 0, VI 0]) dX6_putInOrder_13 rfl (Nat.le_of_ble_eq_true rfl) rfl rfl ⟨by decide, by decide⟩ ?_
    exact hT I0 hF
set_option maxRecDepth 20000 in
theorem st_X6_putInOrder_0 {E : jE} {G : jG} {I : jM} {q : jM → Prop} {m : Nat} (hm : WX6 G m) (hT : (∀ a j, jRg (G.2.1 a).1 (I a j)) → jOV E jB kX6_putInOrder 2 [VR m, VI 0, VN, VN] G I q) : jOV E jB kX6_putInOrder 0 [VR m, VN, VN, VN] G I q := by
  intro I0 hF
  refine jOk_mem (fun hI => ?_)
  replace hT := hT hI 
  refine r_iconst (n := 0) dX6_putInOrder_0 ?_
  refine rr_istore_n (i := 1) (ls' := [VR m, VI 0, VN, VN]) dX6_putInOrder_1 rfl (Nat.le_of_ble_eq_true rfl) rfl rfl ⟨by decide, by decide⟩ ?_
  exact hT I0 hF
theorem en_X6_putInOrder {E : jE} {G : jG} {I : jM} {q : jM → Prop} {m : Nat} (hm : WX6 G m) (hT : (∀ a j, jRg (G.2.1 a).1 (I a j)) → jOV E jB kX6_putInOrder 2 [VR m, VI 0, VN, VN] G I q) : jRV E jB kX6_putInOrder [VR m] G I q := jRun.of mt_X6_putInOrder.2.2.2 3 rfl (fun _ => st_X6_putInOrder_0 hm hT I (fun _ _ => rfl))
set_option maxRecDepth 20000 in
theorem st_X7_takeRules_0 {E : jE} {G : jG} {I : jM} {q : jM → Prop} {m : Nat} {p1 : Nat} (hm : WX7 G m) (hp1 : WX6 G p1) (hT : (∀ a j, jRg (G.2.1 a).1 (I a j)) → (((p1 : Nat) : Int) ≤ 2147483647) ∧ (∀ M1, M1 = jup I m 1 ((p1 : Nat) : Int) → jIn ((jshl 1 (M1 p1 1)) - 1) ∧ (∀ M3, M3 = jup M1 m 2 ((jshl 1 (M1 p1 1)) - 1) → (∀ M5, M5 = jup M3 m 7 0 → q M5)))) : jOV E jB kX7_takeRules 0 [VR m, VR p1] G I q := by
  intro I0 hF
  refine jOk_mem (fun hI => ?_)
  replace hT := hT hI 
  refine r_aload_n dX7_takeRules_0 rfl (i := 0) rfl ?_
  refine r_aload_n dX7_takeRules_1 rfl (i := 1) rfl ?_
  obtain ⟨hc2, hT⟩ := hT
  refine rr_putM (jj := 1) dX7_takeRules_2 fp_X7_32 rfl rfl (wX7_l hm) (wX7_s hm) hc2 (fun M1 eM1 => ?_)
  have hFM1 := jFr_up hF eM1 (wX7_f hm 0 (by decide))
  replace hT := hT M1 eM1
  refine jOk_mem (fun hIM1 => ?_)
  refine r_aload_n dX7_takeRules_5 rfl (i := 0) rfl ?_
  refine r_iconst (n := 1) dX7_takeRules_6 ?_
  refine r_aload_n dX7_takeRules_7 rfl (i := 1) rfl ?_
  refine rr_getI (v := M1 p1 1) dX7_takeRules_8 fg_X7_61 rfl (wX6_l hp1) (wX6_s hp1) rfl ?_
  refine r_ishl dX7_takeRules_11 ?_
  refine r_iconst (n := 1) dX7_takeRules_12 ?_
  refine r_isub dX7_takeRules_13 ?_
  obtain ⟨hc4, hT⟩ := hT
  refine rr_putI (jj := 2) dX7_takeRules_14 fp_X7_40 rfl rfl (wX7_l hm) (wX7_s hm) hc4 (fun M3 eM3 => ?_)
  have hFM3 := jFr_up hFM1 eM3 (wX7_f hm 0 (by decide))
  replace hT := hT M3 eM3
  refine jOk_mem (fun hIM3 => ?_)
  refine r_aload_n dX7_takeRules_17 rfl (i := 0) rfl ?_
  refine r_iconst (n := 0) dX7_takeRules_18 ?_
  refine rr_putI (jj := 7) dX7_takeRules_19 fp_X7_46 rfl rfl (wX7_l hm) (wX7_s hm) ⟨by decide, by decide⟩ (fun M5 eM5 => ?_)
  have hFM5 := jFr_up hFM3 eM5 (wX7_f hm 0 (by decide))
  replace hT := hT M5 eM5
  refine jOk_mem (fun hIM5 => ?_)
  exact r_vret dX7_takeRules_22 rfl ⟨Nat.zero_le _, Nat.zero_le _⟩ ⟨rfl, rfl, hFM5, hT⟩
theorem en_X7_takeRules {E : jE} {G : jG} {I : jM} {q : jM → Prop} {m : Nat} {p1 : Nat} (hm : WX7 G m) (hp1 : WX6 G p1) (hT : (∀ a j, jRg (G.2.1 a).1 (I a j)) → (((p1 : Nat) : Int) ≤ 2147483647) ∧ (∀ M1, M1 = jup I m 1 ((p1 : Nat) : Int) → jIn ((jshl 1 (M1 p1 1)) - 1) ∧ (∀ M3, M3 = jup M1 m 2 ((jshl 1 (M1 p1 1)) - 1) → (∀ M5, M5 = jup M3 m 7 0 → q M5)))) : jRV E jB kX7_takeRules [VR m, VR p1] G I q := jRun.of mt_X7_takeRules.2.2.2 0 rfl (fun _ => st_X7_takeRules_0 hm hp1 hT I (fun _ _ => rfl))
