/-! ===== the reference reads rules ===== -/
set_option maxRecDepth 20000 in
theorem st_X10_next_0 {E : jE} {G : jG} {I : jM} {q : Int → jM → Prop} {m : Nat} (hm : WX10 G m) (hT : (∀ a j, jRg (G.2.1 a).1 (I a j)) → (((I m 30) ≤ (I m 29) → q (-1) I) ∧ (¬ (I m 30) ≤ (I m 29) → ((0 : Int) ≤ (I m 29) ∧ ((I m 29) : Int) < 300) ∧ q (I (m + 20) (I m 29)) I))) : jOI E (jA m) kX10_next 0 [VR m] G I q := by
  intro I0 hF
  refine jOk_mem (fun hI => ?_)
  replace hT := hT hI 
  refine r_aload_n dX10_next_0 rfl (i := 0) rfl ?_
  refine rr_getI (v := I m 29) dX10_next_1 fg_X10_253 rfl (wX10_l hm) (wX10_s hm) rfl ?_
  refine r_aload_n dX10_next_4 rfl (i := 0) rfl ?_
  refine rr_getI (v := I m 30) dX10_next_5 fg_X10_256 rfl (wX10_l hm) (wX10_s hm) rfl ?_
  refine r_icmp_ge (tgt := 23) dX10_next_8 rfl (hI _ _).inR (hI _ _).inR (fun hcc => ?_) (fun hcc => ?_)
  · replace hT := hT.1 hcc
    refine r_iconst (n := (-1)) dX10_next_23 ?_
    exact r_iret dX10_next_24 rfl ⟨by decide, by decide⟩ ⟨Nat.zero_le _, Nat.zero_le _⟩ ⟨_, rfl, rfl, hF, hT⟩
  · replace hT := hT.2 hcc
    refine r_aload_n dX10_next_11 rfl (i := 0) rfl ?_
    refine rr_getR (b := (m + 20)) dX10_next_12 fg_X10_68 rfl rfl (wX10_l hm) (wX10_s hm) (wX10_r25 hm) ?_
    refine r_aload_n dX10_next_15 rfl (i := 0) rfl ?_
    refine rr_getI (v := I m 29) dX10_next_16 fg_X10_253 rfl (wX10_l hm) (wX10_s hm) rfl ?_
    obtain ⟨hc1, hT⟩ := hT
    refine rr_iaload (v := I (m + 20) (I m 29)) dX10_next_19 (wX10_l25 hm) (wX10_a25 hm) (by decide) hc1 rfl ?_
    refine r_goto (tgt := 24) dX10_next_20 rfl ?_
    exact r_iret dX10_next_24 rfl (hI _ _).inR ⟨Nat.zero_le _, Nat.zero_le _⟩ ⟨_, rfl, rfl, hF, hT⟩
theorem en_X10_next {E : jE} {G : jG} {I : jM} {q : Int → jM → Prop} {m : Nat} (hm : WX10 G m) (hT : (∀ a j, jRg (G.2.1 a).1 (I a j)) → (((I m 30) ≤ (I m 29) → q (-1) I) ∧ (¬ (I m 30) ≤ (I m 29) → ((0 : Int) ≤ (I m 29) ∧ ((I m 29) : Int) < 300) ∧ q (I (m + 20) (I m 29)) I))) : jRI E (jA m) kX10_next [VR m] G I q := jRun.of mt_X10_next.2.2.2 0 rfl (fun _ => st_X10_next_0 hm hT I (fun _ _ => rfl))
def rnx (I : jM) (m : Nat) : Int := if I m 29 < I m 30 then I (m + 20) (I m 29) else -1
theorem sp_X10_next {E : jE} {G : jG} {I : jM} {m : Nat} (hm : WX10 G m) (h : 0 ≤ I m 29 ∧ I m 30 ≤ 300) : jRI E (jA m) kX10_next [VR m] G I (fun x I' => x = rnx I m ∧ I' = I) := by
  unfold rnx
  exact en_X10_next hm (fun _ => ⟨fun q => ⟨by rw [if_neg (by omega)], rfl⟩, fun q => ⟨⟨by omega, by omega⟩, by rw [if_pos (by omega)], rfl⟩⟩)
set_option maxRecDepth 20000 in
theorem st_X10_sortBy_0 {E : jE} {A : Nat → Prop} {G : jG} {I : jM} {q : Int → jM → Prop} {x0 : Int}  (hT : (∀ a j, jRg (G.2.1 a).1 (I a j)) → jIn x0 → ((¬ x0 = 119 → ((¬ x0 = 110 → ((¬ x0 = 115 → q (-1) I) ∧ (x0 = 115 → q 2 I))) ∧ (x0 = 110 → q 1 I))) ∧ (x0 = 119 → q 0 I))) : jOI E A kX10_sortBy 0 [VI x0] G I q := by
  intro I0 hF
  refine jOk_mem (fun hI => ?_)
  refine jOk_in (i := 0) rfl (fun hx0 => ?_)
  replace hT := hT hI hx0
  refine r_iload_n dX10_sortBy_0 rfl (i := 0) rfl ?_
  refine r_bipush (n := 119) dX10_sortBy_1 (by decide +kernel) ?_
  refine r_icmp_ne (tgt := 10) dX10_sortBy_3 rfl hx0 ⟨by decide, by decide⟩ (fun hcc => ?_) (fun hcc => ?_)
  · replace hT := hT.1 hcc
    refine r_iload_n dX10_sortBy_10 rfl (i := 0) rfl ?_
    refine r_bipush (n := 110) dX10_sortBy_11 (by decide +kernel) ?_
    refine r_icmp_ne (tgt := 20) dX10_sortBy_13 rfl hx0 ⟨by decide, by decide⟩ (fun hcc => ?_) (fun hcc => ?_)
    · replace hT := hT.1 hcc
      refine r_iload_n dX10_sortBy_20 rfl (i := 0) rfl ?_
      refine r_bipush (n := 115) dX10_sortBy_21 (by decide +kernel) ?_
      refine r_icmp_ne (tgt := 30) dX10_sortBy_23 rfl hx0 ⟨by decide, by decide⟩ (fun hcc => ?_) (fun hcc => ?_)
      · replace hT := hT.1 hcc
        refine r_iconst (n := (-1)) dX10_sortBy_30 ?_
        exact r_iret dX10_sortBy_31 rfl ⟨by decide, by decide⟩ ⟨Nat.zero_le _, Nat.zero_le _⟩ ⟨_, rfl, rfl, hF, hT⟩
      · replace hT := hT.2 hcc
        refine r_iconst (n := 2) dX10_sortBy_26 ?_
        refine r_goto (tgt := 31) dX10_sortBy_27 rfl ?_
        exact r_iret dX10_sortBy_31 rfl ⟨by decide, by decide⟩ ⟨Nat.zero_le _, Nat.zero_le _⟩ ⟨_, rfl, rfl, hF, hT⟩
    · replace hT := hT.2 hcc
      refine r_iconst (n := 1) dX10_sortBy_16 ?_
      refine r_goto (tgt := 31) dX10_sortBy_17 rfl ?_
      exact r_iret dX10_sortBy_31 rfl ⟨by decide, by decide⟩ ⟨Nat.zero_le _, Nat.zero_le _⟩ ⟨_, rfl, rfl, hF, hT⟩
  · replace hT := hT.2 hcc
    refine r_iconst (n := 0) dX10_sortBy_6 ?_
    refine r_goto (tgt := 31) dX10_sortBy_7 rfl ?_
    exact r_iret dX10_sortBy_31 rfl ⟨by decide, by decide⟩ ⟨Nat.zero_le _, Nat.zero_le _⟩ ⟨_, rfl, rfl, hF, hT⟩
theorem en_X10_sortBy {E : jE} {A : Nat → Prop} {G : jG} {I : jM} {q : Int → jM → Prop} {x0 : Int}  (hT : (∀ a j, jRg (G.2.1 a).1 (I a j)) → jIn x0 → ((¬ x0 = 119 → ((¬ x0 = 110 → ((¬ x0 = 115 → q (-1) I) ∧ (x0 = 115 → q 2 I))) ∧ (x0 = 110 → q 1 I))) ∧ (x0 = 119 → q 0 I))) : jRI E A kX10_sortBy [VI x0] G I q := jRun.of mt_X10_sortBy.2.2.2 0 rfl (fun _ => st_X10_sortBy_0  hT I (fun _ _ => rfl))
theorem sp_X10_sortBy {E : jE} {A : Nat → Prop} {G : jG} {I : jM} {c : Int} : jRI E A kX10_sortBy [VI c] G I (fun x I' => x = sby c ∧ I' = I) := by
  unfold sby
  exact en_X10_sortBy (fun _ _ => ⟨fun q => ⟨fun q1 => ⟨fun q2 => ⟨by rw [if_neg q, if_neg q1, if_neg q2], rfl⟩, fun q2 => ⟨by rw [if_neg q, if_neg q1, if_pos q2], rfl⟩⟩, fun q1 => ⟨by rw [if_neg q, if_pos q1], rfl⟩⟩, fun q => ⟨by rw [if_pos q], rfl⟩⟩)
set_option maxRecDepth 20000 in
theorem st_X10_isName_0 {E : jE} {A : Nat → Prop} {G : jG} {I : jM} {q : Int → jM → Prop} {x0 : Int}  (hT : (∀ a j, jRg (G.2.1 a).1 (I a j)) → jIn x0 → ((x0 < 97 → q 0 I) ∧ (¬ x0 < 97 → ((100 < x0 → q 0 I) ∧ (¬ 100 < x0 → q 1 I))))) : jOI E A kX10_isName 0 [VI x0] G I q := by
  intro I0 hF
  refine jOk_mem (fun hI => ?_)
  refine jOk_in (i := 0) rfl (fun hx0 => ?_)
  replace hT := hT hI hx0
  refine r_iload_n dX10_isName_0 rfl (i := 0) rfl ?_
  refine r_bipush (n := 97) dX10_isName_1 (by decide +kernel) ?_
  refine r_icmp_lt (tgt := 16) dX10_isName_3 rfl hx0 ⟨by decide, by decide⟩ (fun hcc => ?_) (fun hcc => ?_)
  · replace hT := hT.1 hcc
    refine r_iconst (n := 0) dX10_isName_16 ?_
    exact r_zret dX10_isName_17 rfl ⟨by decide, by decide⟩ ⟨Nat.zero_le _, Nat.zero_le _⟩ ⟨_, rfl, rfl, hF, hT⟩
  · replace hT := hT.2 hcc
    refine r_iload_n dX10_isName_6 rfl (i := 0) rfl ?_
    refine r_bipush (n := 100) dX10_isName_7 (by decide +kernel) ?_
    refine r_icmp_gt (tgt := 16) dX10_isName_9 rfl hx0 ⟨by decide, by decide⟩ (fun hcc => ?_) (fun hcc => ?_)
    · replace hT := hT.1 hcc
      refine r_iconst (n := 0) dX10_isName_16 ?_
      exact r_zret dX10_isName_17 rfl ⟨by decide, by decide⟩ ⟨Nat.zero_le _, Nat.zero_le _⟩ ⟨_, rfl, rfl, hF, hT⟩
    · replace hT := hT.2 hcc
      refine r_iconst (n := 1) dX10_isName_12 ?_
      refine r_goto (tgt := 17) dX10_isName_13 rfl ?_
      exact r_zret dX10_isName_17 rfl ⟨by decide, by decide⟩ ⟨Nat.zero_le _, Nat.zero_le _⟩ ⟨_, rfl, rfl, hF, hT⟩
theorem en_X10_isName {E : jE} {A : Nat → Prop} {G : jG} {I : jM} {q : Int → jM → Prop} {x0 : Int}  (hT : (∀ a j, jRg (G.2.1 a).1 (I a j)) → jIn x0 → ((x0 < 97 → q 0 I) ∧ (¬ x0 < 97 → ((100 < x0 → q 0 I) ∧ (¬ 100 < x0 → q 1 I))))) : jRI E A kX10_isName [VI x0] G I q := jRun.of mt_X10_isName.2.2.2 0 rfl (fun _ => st_X10_isName_0  hT I (fun _ _ => rfl))
theorem sp_X10_isName {E : jE} {A : Nat → Prop} {G : jG} {I : jM} {c : Int} : jRI E A kX10_isName [VI c] G I (fun x I' => x = jI (nmd c) ∧ I' = I) := by
  unfold nmd
  refine en_X10_isName (fun _ _ => ?_)
  repeat' (first | exact ⟨(jI_pos (by omega)).symm, rfl⟩ | exact ⟨(jI_neg (by omega)).symm, rfl⟩ | refine ⟨fun _ => ?_, fun _ => ?_⟩)
set_option maxRecDepth 20000 in
theorem st_X10_beginsElement_0 {E : jE} {A : Nat → Prop} {G : jG} {I : jM} {q : Int → jM → Prop} {x0 : Int}  (hT : (∀ a j, jRg (G.2.1 a).1 (I a j)) → jIn x0 → ((¬ (sby x0) = (-1) → q 1 I) ∧ ((sby x0) = (-1) → ((x0 = 95 → q 1 I) ∧ (¬ x0 = 95 → ((¬ x0 = 39 → q 0 I) ∧ (x0 = 39 → q 1 I))))))) : jOI E A kX10_beginsElement 0 [VI x0] G I q := by
  intro I0 hF
  refine jOk_mem (fun hI => ?_)
  refine jOk_in (i := 0) rfl (fun hx0 => ?_)
  replace hT := hT hI hx0
  refine r_iload_n dX10_beginsElement_0 rfl (i := 0) rfl ?_
  refine rr_pSI (A := A) (v := sby x0) (as := [VI x0]) (st := []) dX10_beginsElement_1 mt_X10_sortBy ml_X10_276 ms_X10_sortBy rm_X10_beginsElement_X10_sortBy jz_X10_sortBy ⟨Nat.zero_le _, Nat.zero_le _⟩ (Nat.le_of_ble_eq_true rfl) (jasI hx0 jas0) sp_X10_sortBy (fun hc1 => ?_)
  refine r_iconst (n := (-1)) dX10_beginsElement_4 ?_
  refine r_icmp_ne (tgt := 20) dX10_beginsElement_5 rfl hc1 ⟨by decide, by decide⟩ (fun hcc => ?_) (fun hcc => ?_)
  · replace hT := hT.1 hcc
    refine r_iconst (n := 1) dX10_beginsElement_20 ?_
    refine r_goto (tgt := 25) dX10_beginsElement_21 rfl ?_
    exact r_zret dX10_beginsElement_25 rfl ⟨by decide, by decide⟩ ⟨Nat.zero_le _, Nat.zero_le _⟩ ⟨_, rfl, rfl, hF, hT⟩
  · replace hT := hT.2 hcc
    refine r_iload_n dX10_beginsElement_8 rfl (i := 0) rfl ?_
    refine r_bipush (n := 95) dX10_beginsElement_9 (by decide +kernel) ?_
    refine r_icmp_eq (tgt := 20) dX10_beginsElement_11 rfl hx0 ⟨by decide, by decide⟩ (fun hcc => ?_) (fun hcc => ?_)
    · replace hT := hT.1 hcc
      refine r_iconst (n := 1) dX10_beginsElement_20 ?_
      refine r_goto (tgt := 25) dX10_beginsElement_21 rfl ?_
      exact r_zret dX10_beginsElement_25 rfl ⟨by decide, by decide⟩ ⟨Nat.zero_le _, Nat.zero_le _⟩ ⟨_, rfl, rfl, hF, hT⟩
    · replace hT := hT.2 hcc
      refine r_iload_n dX10_beginsElement_14 rfl (i := 0) rfl ?_
      refine r_bipush (n := 39) dX10_beginsElement_15 (by decide +kernel) ?_
      refine r_icmp_ne (tgt := 24) dX10_beginsElement_17 rfl hx0 ⟨by decide, by decide⟩ (fun hcc => ?_) (fun hcc => ?_)
      · replace hT := hT.1 hcc
        refine r_iconst (n := 0) dX10_beginsElement_24 ?_
        exact r_zret dX10_beginsElement_25 rfl ⟨by decide, by decide⟩ ⟨Nat.zero_le _, Nat.zero_le _⟩ ⟨_, rfl, rfl, hF, hT⟩
      · replace hT := hT.2 hcc
        refine r_iconst (n := 1) dX10_beginsElement_20 ?_
        refine r_goto (tgt := 25) dX10_beginsElement_21 rfl ?_
        exact r_zret dX10_beginsElement_25 rfl ⟨by decide, by decide⟩ ⟨Nat.zero_le _, Nat.zero_le _⟩ ⟨_, rfl, rfl, hF, hT⟩
theorem en_X10_beginsElement {E : jE} {A : Nat → Prop} {G : jG} {I : jM} {q : Int → jM → Prop} {x0 : Int}  (hT : (∀ a j, jRg (G.2.1 a).1 (I a j)) → jIn x0 → ((¬ (sby x0) = (-1) → q 1 I) ∧ ((sby x0) = (-1) → ((x0 = 95 → q 1 I) ∧ (¬ x0 = 95 → ((¬ x0 = 39 → q 0 I) ∧ (x0 = 39 → q 1 I))))))) : jRI E A kX10_beginsElement [VI x0] G I q := jRun.of mt_X10_beginsElement.2.2.2 0 rfl (fun _ => st_X10_beginsElement_0  hT I (fun _ _ => rfl))
theorem sp_X10_beginsElement {E : jE} {A : Nat → Prop} {G : jG} {I : jM} {c : Int} : jRI E A kX10_beginsElement [VI c] G I (fun x I' => x = jI (bgE c) ∧ I' = I) := by
  unfold bgE
  refine en_X10_beginsElement (fun _ _ => ?_)
  repeat' (first | exact ⟨(jI_pos (by omega)).symm, rfl⟩ | exact ⟨(jI_neg (by omega)).symm, rfl⟩ | refine ⟨fun _ => ?_, fun _ => ?_⟩)
set_option maxRecDepth 20000 in
theorem st_X10_beginsPart_0 {E : jE} {A : Nat → Prop} {G : jG} {I : jM} {q : Int → jM → Prop} {x0 : Int}  (hT : (∀ a j, jRg (G.2.1 a).1 (I a j)) → jIn x0 → ((¬ (sby x0) = (-1) → q 1 I) ∧ ((sby x0) = (-1) → ((x0 = 43 → q 1 I) ∧ (¬ x0 = 43 → ((x0 = 45 → q 1 I) ∧ (¬ x0 = 45 → ((x0 = 126 → q 1 I) ∧ (¬ x0 = 126 → ((¬ x0 = 39 → q 0 I) ∧ (x0 = 39 → q 1 I))))))))))) : jOI E A kX10_beginsPart 0 [VI x0] G I q := by
  intro I0 hF
  refine jOk_mem (fun hI => ?_)
  refine jOk_in (i := 0) rfl (fun hx0 => ?_)
  replace hT := hT hI hx0
  refine r_iload_n dX10_beginsPart_0 rfl (i := 0) rfl ?_
  refine rr_pSI (A := A) (v := sby x0) (as := [VI x0]) (st := []) dX10_beginsPart_1 mt_X10_sortBy ml_X10_276 ms_X10_sortBy rm_X10_beginsPart_X10_sortBy jz_X10_sortBy ⟨Nat.zero_le _, Nat.zero_le _⟩ (Nat.le_of_ble_eq_true rfl) (jasI hx0 jas0) sp_X10_sortBy (fun hc1 => ?_)
  refine r_iconst (n := (-1)) dX10_beginsPart_4 ?_
  refine r_icmp_ne (tgt := 32) dX10_beginsPart_5 rfl hc1 ⟨by decide, by decide⟩ (fun hcc => ?_) (fun hcc => ?_)
  · replace hT := hT.1 hcc
    refine r_iconst (n := 1) dX10_beginsPart_32 ?_
    refine r_goto (tgt := 37) dX10_beginsPart_33 rfl ?_
    exact r_zret dX10_beginsPart_37 rfl ⟨by decide, by decide⟩ ⟨Nat.zero_le _, Nat.zero_le _⟩ ⟨_, rfl, rfl, hF, hT⟩
  · replace hT := hT.2 hcc
    refine r_iload_n dX10_beginsPart_8 rfl (i := 0) rfl ?_
    refine r_bipush (n := 43) dX10_beginsPart_9 (by decide +kernel) ?_
    refine r_icmp_eq (tgt := 32) dX10_beginsPart_11 rfl hx0 ⟨by decide, by decide⟩ (fun hcc => ?_) (fun hcc => ?_)
    · replace hT := hT.1 hcc
      refine r_iconst (n := 1) dX10_beginsPart_32 ?_
      refine r_goto (tgt := 37) dX10_beginsPart_33 rfl ?_
      exact r_zret dX10_beginsPart_37 rfl ⟨by decide, by decide⟩ ⟨Nat.zero_le _, Nat.zero_le _⟩ ⟨_, rfl, rfl, hF, hT⟩
    · replace hT := hT.2 hcc
      refine r_iload_n dX10_beginsPart_14 rfl (i := 0) rfl ?_
      refine r_bipush (n := 45) dX10_beginsPart_15 (by decide +kernel) ?_
      refine r_icmp_eq (tgt := 32) dX10_beginsPart_17 rfl hx0 ⟨by decide, by decide⟩ (fun hcc => ?_) (fun hcc => ?_)
      · replace hT := hT.1 hcc
        refine r_iconst (n := 1) dX10_beginsPart_32 ?_
        refine r_goto (tgt := 37) dX10_beginsPart_33 rfl ?_
        exact r_zret dX10_beginsPart_37 rfl ⟨by decide, by decide⟩ ⟨Nat.zero_le _, Nat.zero_le _⟩ ⟨_, rfl, rfl, hF, hT⟩
      · replace hT := hT.2 hcc
        refine r_iload_n dX10_beginsPart_20 rfl (i := 0) rfl ?_
        refine r_bipush (n := 126) dX10_beginsPart_21 (by decide +kernel) ?_
        refine r_icmp_eq (tgt := 32) dX10_beginsPart_23 rfl hx0 ⟨by decide, by decide⟩ (fun hcc => ?_) (fun hcc => ?_)
        · replace hT := hT.1 hcc
          refine r_iconst (n := 1) dX10_beginsPart_32 ?_
          refine r_goto (tgt := 37) dX10_beginsPart_33 rfl ?_
          exact r_zret dX10_beginsPart_37 rfl ⟨by decide, by decide⟩ ⟨Nat.zero_le _, Nat.zero_le _⟩ ⟨_, rfl, rfl, hF, hT⟩
        · replace hT := hT.2 hcc
          refine r_iload_n dX10_beginsPart_26 rfl (i := 0) rfl ?_
          refine r_bipush (n := 39) dX10_beginsPart_27 (by decide +kernel) ?_
          refine r_icmp_ne (tgt := 36) dX10_beginsPart_29 rfl hx0 ⟨by decide, by decide⟩ (fun hcc => ?_) (fun hcc => ?_)
          · replace hT := hT.1 hcc
            refine r_iconst (n := 0) dX10_beginsPart_36 ?_
            exact r_zret dX10_beginsPart_37 rfl ⟨by decide, by decide⟩ ⟨Nat.zero_le _, Nat.zero_le _⟩ ⟨_, rfl, rfl, hF, hT⟩
          · replace hT := hT.2 hcc
            refine r_iconst (n := 1) dX10_beginsPart_32 ?_
            refine r_goto (tgt := 37) dX10_beginsPart_33 rfl ?_
            exact r_zret dX10_beginsPart_37 rfl ⟨by decide, by decide⟩ ⟨Nat.zero_le _, Nat.zero_le _⟩ ⟨_, rfl, rfl, hF, hT⟩
theorem en_X10_beginsPart {E : jE} {A : Nat → Prop} {G : jG} {I : jM} {q : Int → jM → Prop} {x0 : Int}  (hT : (∀ a j, jRg (G.2.1 a).1 (I a j)) → jIn x0 → ((¬ (sby x0) = (-1) → q 1 I) ∧ ((sby x0) = (-1) → ((x0 = 43 → q 1 I) ∧ (¬ x0 = 43 → ((x0 = 45 → q 1 I) ∧ (¬ x0 = 45 → ((x0 = 126 → q 1 I) ∧ (¬ x0 = 126 → ((¬ x0 = 39 → q 0 I) ∧ (x0 = 39 → q 1 I))))))))))) : jRI E A kX10_beginsPart [VI x0] G I q := jRun.of mt_X10_beginsPart.2.2.2 0 rfl (fun _ => st_X10_beginsPart_0  hT I (fun _ _ => rfl))
theorem sp_X10_beginsPart {E : jE} {A : Nat → Prop} {G : jG} {I : jM} {c : Int} : jRI E A kX10_beginsPart [VI c] G I (fun x I' => x = jI (bgP c) ∧ I' = I) := by
  unfold bgP
  refine en_X10_beginsPart (fun _ _ => ?_)
  repeat' (first | exact ⟨(jI_pos (by omega)).symm, rfl⟩ | exact ⟨(jI_neg (by omega)).symm, rfl⟩ | refine ⟨fun _ => ?_, fun _ => ?_⟩)
set_option maxRecDepth 20000 in
theorem st_X10_isWrong_0 {E : jE} {G : jG} {I : jM} {q : Int → jM → Prop} {m : Nat} {x1 : Int} {x2 : Int} (hm : WX10 G m) (hT : (∀ a j, jRg (G.2.1 a).1 (I a j)) → jIn x1 → jIn x2 → (∀ M1, M1 = jup I m 31 x1 → (∀ M2, M2 = jup M1 m 32 x2 → q 0 M2))) : jOI E (jA m) kX10_isWrong 0 [VR m, VI x1, VI x2] G I q := by
  intro I0 hF
  refine jOk_mem (fun hI => ?_)
  refine jOk_in (i := 1) rfl (fun hx1 => ?_)
  refine jOk_in (i := 2) rfl (fun hx2 => ?_)
  replace hT := hT hI hx1 hx2
  refine r_aload_n dX10_isWrong_0 rfl (i := 0) rfl ?_
  refine r_iload_n dX10_isWrong_1 rfl (i := 1) rfl ?_
  refine rr_putI (jj := 31) dX10_isWrong_2 fp_X10_259 rfl rfl (wX10_l hm) (wX10_s hm) hx1 (fun M1 eM1 => ?_)
  have hFM1 := jFr_up hF eM1 (wX10_f hm 0 (by decide))
  replace hT := hT M1 eM1
  refine jOk_mem (fun hIM1 => ?_)
  refine r_aload_n dX10_isWrong_5 rfl (i := 0) rfl ?_
  refine r_iload_n dX10_isWrong_6 rfl (i := 2) rfl ?_
  refine rr_putI (jj := 32) dX10_isWrong_7 fp_X10_74 rfl rfl (wX10_l hm) (wX10_s hm) hx2 (fun M2 eM2 => ?_)
  have hFM2 := jFr_up hFM1 eM2 (wX10_f hm 0 (by decide))
  replace hT := hT M2 eM2
  refine jOk_mem (fun hIM2 => ?_)
  refine r_iconst (n := 0) dX10_isWrong_10 ?_
  exact r_zret dX10_isWrong_11 rfl ⟨by decide, by decide⟩ ⟨Nat.zero_le _, Nat.zero_le _⟩ ⟨_, rfl, rfl, hFM2, hT⟩
theorem en_X10_isWrong {E : jE} {G : jG} {I : jM} {q : Int → jM → Prop} {m : Nat} {x1 : Int} {x2 : Int} (hm : WX10 G m) (hT : (∀ a j, jRg (G.2.1 a).1 (I a j)) → jIn x1 → jIn x2 → (∀ M1, M1 = jup I m 31 x1 → (∀ M2, M2 = jup M1 m 32 x2 → q 0 M2))) : jRI E (jA m) kX10_isWrong [VR m, VI x1, VI x2] G I q := jRun.of mt_X10_isWrong.2.2.2 0 rfl (fun _ => st_X10_isWrong_0 hm hT I (fun _ _ => rfl))
set_option maxRecDepth 20000 in
theorem st_X10_come_0 {E : jE} {G : jG} {I : jM} {q : jM → Prop} {m : Nat} {x1 : Int} {x2 : Int} {x3 : Int} {x4 : Int} (hm : WX10 G m) (hT : (∀ a j, jRg (G.2.1 a).1 (I a j)) → jIn x1 → jIn x2 → jIn x3 → jIn x4 → ((0 : Int) ≤ x1 ∧ (x1 : Int) < 240) ∧ (∀ M2, M2 = jup I (m + 21) x1 x2 → ((0 : Int) ≤ (x1 + 1) ∧ ((x1 + 1) : Int) < 240) ∧ (∀ M4, M4 = jup M2 (m + 21) (x1 + 1) x3 → ((0 : Int) ≤ (x1 + 2) ∧ ((x1 + 2) : Int) < 240) ∧ (∀ M6, M6 = jup M4 (m + 21) (x1 + 2) x4 → q M6)))) : jOV E (jA m) kX10_come 0 [VR m, VI x1, VI x2, VI x3, VI x4] G I q := by
  intro I0 hF
  refine jOk_mem (fun hI => ?_)
  refine jOk_in (i := 1) rfl (fun hx1 => ?_)
  refine jOk_in (i := 2) rfl (fun hx2 => ?_)
  refine jOk_in (i := 3) rfl (fun hx3 => ?_)
  refine jOk_in (i := 4) rfl (fun hx4 => ?_)
  replace hT := hT hI hx1 hx2 hx3 hx4
  refine r_aload_n dX10_come_0 rfl (i := 0) rfl ?_
  refine rr_getR (b := (m + 21)) dX10_come_1 fg_X10_71 rfl rfl (wX10_l hm) (wX10_s hm) (wX10_r27 hm) ?_
  refine r_iload_n dX10_come_4 rfl (i := 1) rfl ?_
  refine r_iload_n dX10_come_5 rfl (i := 2) rfl ?_
  obtain ⟨hc1, hT⟩ := hT
  refine rr_iastore dX10_come_6 (wX10_l27 hm) (wX10_a27 hm) (by decide) hc1 hx2 (fun M2 eM2 => ?_)
  have hFM2 := jFr_up hF eM2 (wX10_f hm 21 (by decide))
  replace hT := hT M2 eM2
  refine jOk_mem (fun hIM2 => ?_)
  refine r_aload_n dX10_come_7 rfl (i := 0) rfl ?_
  refine rr_getR (b := (m + 21)) dX10_come_8 fg_X10_71 rfl rfl (wX10_l hm) (wX10_s hm) (wX10_r27 hm) ?_
  refine r_iload_n dX10_come_11 rfl (i := 1) rfl ?_
  refine r_iconst (n := 1) dX10_come_12 ?_
  refine r_iadd dX10_come_13 ?_
  refine r_iload_n dX10_come_14 rfl (i := 3) rfl ?_
  obtain ⟨hc3, hT⟩ := hT
  refine rr_iastore dX10_come_15 (wX10_l27 hm) (wX10_a27 hm) (by decide) hc3 hx3 (fun M4 eM4 => ?_)
  have hFM4 := jFr_up hFM2 eM4 (wX10_f hm 21 (by decide))
  replace hT := hT M4 eM4
  refine jOk_mem (fun hIM4 => ?_)
  refine r_aload_n dX10_come_16 rfl (i := 0) rfl ?_
  refine rr_getR (b := (m + 21)) dX10_come_17 fg_X10_71 rfl rfl (wX10_l hm) (wX10_s hm) (wX10_r27 hm) ?_
  refine r_iload_n dX10_come_20 rfl (i := 1) rfl ?_
  refine r_iconst (n := 2) dX10_come_21 ?_
  refine r_iadd dX10_come_22 ?_
  refine r_iload dX10_come_23 (i := 4) rfl ?_
  obtain ⟨hc5, hT⟩ := hT
  refine rr_iastore dX10_come_25 (wX10_l27 hm) (wX10_a27 hm) (by decide) hc5 hx4 (fun M6 eM6 => ?_)
  have hFM6 := jFr_up hFM4 eM6 (wX10_f hm 21 (by decide))
  replace hT := hT M6 eM6
  refine jOk_mem (fun hIM6 => ?_)
  exact r_vret dX10_come_26 rfl ⟨Nat.zero_le _, Nat.zero_le _⟩ ⟨rfl, rfl, hFM6, hT⟩
theorem en_X10_come {E : jE} {G : jG} {I : jM} {q : jM → Prop} {m : Nat} {x1 : Int} {x2 : Int} {x3 : Int} {x4 : Int} (hm : WX10 G m) (hT : (∀ a j, jRg (G.2.1 a).1 (I a j)) → jIn x1 → jIn x2 → jIn x3 → jIn x4 → ((0 : Int) ≤ x1 ∧ (x1 : Int) < 240) ∧ (∀ M2, M2 = jup I (m + 21) x1 x2 → ((0 : Int) ≤ (x1 + 1) ∧ ((x1 + 1) : Int) < 240) ∧ (∀ M4, M4 = jup M2 (m + 21) (x1 + 1) x3 → ((0 : Int) ≤ (x1 + 2) ∧ ((x1 + 2) : Int) < 240) ∧ (∀ M6, M6 = jup M4 (m + 21) (x1 + 2) x4 → q M6)))) : jRV E (jA m) kX10_come [VR m, VI x1, VI x2, VI x3, VI x4] G I q := jRun.of mt_X10_come.2.2.2 0 rfl (fun _ => st_X10_come_0 hm hT I (fun _ _ => rfl))
set_option maxRecDepth 20000 in
theorem st_X10_isToken_22 {E : jE} {G : jG} {I : jM} {q : Int → jM → Prop} {m : Nat} {x1 : Int} {x2 : Int} {x3 : Int} {x4 : Int} (hm : WX10 G m) (hT : (∀ a j, jRg (G.2.1 a).1 (I a j)) → jIn x1 → jIn x2 → jIn x3 → jIn x4 → ((x2 ≤ x4 → q 1 I) ∧ (¬ x2 ≤ x4 → ((x3 = 2 → q 0 I) ∧ (¬ x3 = 2 → ((0 : Int) ≤ x4 ∧ (x4 : Int) < 300) ∧ (((srt (I (m + 20) x4)) = x3 → jIn (x4 + 1) ∧ jOI E (jA m) kX10_isToken 22 [VR m, VI x1, VI x2, VI x3, VI (x4 + 1)] G I q) ∧ (¬ (srt (I (m + 20) x4)) = x3 → q 0 I))))))) : jOI E (jA m) kX10_isToken 22 [VR m, VI x1, VI x2, VI x3, VI x4] G I q := by
  intro I0 hF
  refine jOk_mem (fun hI => ?_)
  refine jOk_in (i := 1) rfl (fun hx1 => ?_)
  refine jOk_in (i := 2) rfl (fun hx2 => ?_)
  refine jOk_in (i := 3) rfl (fun hx3 => ?_)
  refine jOk_in (i := 4) rfl (fun hx4 => ?_)
  replace hT := hT hI hx1 hx2 hx3 hx4
  refine r_iload dX10_isToken_22 (i := 4) rfl ?_
  refine r_iload_n dX10_isToken_24 rfl (i := 2) rfl ?_
  refine r_icmp_ge (tgt := 55) dX10_isToken_25 rfl hx4 hx2 (fun hcc => ?_) (fun hcc => ?_)
  · replace hT := hT.1 hcc
    refine r_iconst (n := 1) dX10_isToken_55 ?_
    exact r_zret dX10_isToken_56 rfl ⟨by decide, by decide⟩ ⟨Nat.zero_le _, Nat.zero_le _⟩ ⟨_, rfl, rfl, hF, hT⟩
  · replace hT := hT.2 hcc
    refine r_iload_n dX10_isToken_28 rfl (i := 3) rfl ?_
    refine r_iconst (n := 2) dX10_isToken_29 ?_
    refine r_icmp_eq (tgt := 47) dX10_isToken_30 rfl hx3 ⟨by decide, by decide⟩ (fun hcc => ?_) (fun hcc => ?_)
    · replace hT := hT.1 hcc
      refine r_iconst (n := 0) dX10_isToken_47 ?_
      exact r_zret dX10_isToken_48 rfl ⟨by decide, by decide⟩ ⟨Nat.zero_le _, Nat.zero_le _⟩ ⟨_, rfl, rfl, hF, hT⟩
    · replace hT := hT.2 hcc
      refine r_aload_n dX10_isToken_33 rfl (i := 0) rfl ?_
      refine rr_getR (b := (m + 20)) dX10_isToken_34 fg_X10_68 rfl rfl (wX10_l hm) (wX10_s hm) (wX10_r25 hm) ?_
      refine r_iload dX10_isToken_37 (i := 4) rfl ?_
      obtain ⟨hc1, hT⟩ := hT
      refine rr_iaload (v := I (m + 20) x4) dX10_isToken_39 (wX10_l25 hm) (wX10_a25 hm) (by decide) hc1 rfl ?_
      refine rr_pSI (A := (jA m)) (v := srt (I (m + 20) x4)) (as := [VI (I (m + 20) x4)]) (st := []) dX10_isToken_40 mt_X10_sortOf ml_X10_124 ms_X10_sortOf rm_X10_isToken_X10_sortOf jz_X10_sortOf ⟨Nat.zero_le _, Nat.zero_le _⟩ (Nat.le_of_ble_eq_true rfl) (jasI (hI _ _).inR jas0) sp_X10_sortOf (fun hc2 => ?_)
      refine r_iload_n dX10_isToken_43 rfl (i := 3) rfl ?_
      refine r_icmp_eq (tgt := 49) dX10_isToken_44 rfl hc2 hx3 (fun hcc => ?_) (fun hcc => ?_)
      · replace hT := hT.1 hcc
        obtain ⟨hc3, hT⟩ := hT
        refine rr_iinc (i := 4) (ls' := [VR m, VI x1, VI x2, VI x3, VI (x4 + 1)]) dX10_isToken_49 rfl (Nat.le_of_ble_eq_true rfl) rfl rfl hc3 ?_
        refine r_goto (tgt := 22) dX10_isToken_52 rfl ?_
        exact hT I0 hF
      · replace hT := hT.2 hcc
        refine r_iconst (n := 0) dX10_isToken_47 ?_
        exact r_zret dX10_isToken_48 rfl ⟨by decide, by decide⟩ ⟨Nat.zero_le _, Nat.zero_le _⟩ ⟨_, rfl, rfl, hF, hT⟩
set_option maxRecDepth 20000 in
theorem st_X10_isToken_0 {E : jE} {G : jG} {I : jM} {q : Int → jM → Prop} {m : Nat} {x1 : Int} {x2 : Int} (hm : WX10 G m) (hT : (∀ a j, jRg (G.2.1 a).1 (I a j)) → jIn x1 → jIn x2 → ((¬ x1 = x2 → ((0 : Int) ≤ x1 ∧ (x1 : Int) < 300) ∧ jIn (x1 + 1) ∧ jOI E (jA m) kX10_isToken 22 [VR m, VI x1, VI x2, VI (srt (I (m + 20) x1)), VI (x1 + 1)] G I q) ∧ (x1 = x2 → q 0 I))) : jOI E (jA m) kX10_isToken 0 [VR m, VI x1, VI x2, VN, VN] G I q := by
  intro I0 hF
  refine jOk_mem (fun hI => ?_)
  refine jOk_in (i := 1) rfl (fun hx1 => ?_)
  refine jOk_in (i := 2) rfl (fun hx2 => ?_)
  replace hT := hT hI hx1 hx2
  refine r_iload_n dX10_isToken_0 rfl (i := 1) rfl ?_
  refine r_iload_n dX10_isToken_1 rfl (i := 2) rfl ?_
  refine r_icmp_ne (tgt := 7) dX10_isToken_2 rfl hx1 hx2 (fun hcc => ?_) (fun hcc => ?_)
  · replace hT := hT.1 hcc
    refine r_aload_n dX10_isToken_7 rfl (i := 0) rfl ?_
    refine rr_getR (b := (m + 20)) dX10_isToken_8 fg_X10_68 rfl rfl (wX10_l hm) (wX10_s hm) (wX10_r25 hm) ?_
    refine r_iload_n dX10_isToken_11 rfl (i := 1) rfl ?_
    obtain ⟨hc1, hT⟩ := hT
    refine rr_iaload (v := I (m + 20) x1) dX10_isToken_12 (wX10_l25 hm) (wX10_a25 hm) (by decide) hc1 rfl ?_
    refine rr_pSI (A := (jA m)) (v := srt (I (m + 20) x1)) (as := [VI (I (m + 20) x1)]) (st := []) dX10_isToken_13 mt_X10_sortOf ml_X10_124 ms_X10_sortOf rm_X10_isToken_X10_sortOf jz_X10_sortOf ⟨Nat.zero_le _, Nat.zero_le _⟩ (Nat.le_of_ble_eq_true rfl) (jasI (hI _ _).inR jas0) sp_X10_sortOf (fun hc2 => ?_)
    refine rr_istore_n (i := 3) (ls' := [VR m, VI x1, VI x2, VI (srt (I (m + 20) x1)), VN]) dX10_isToken_16 rfl (Nat.le_of_ble_eq_true rfl) rfl rfl hc2 ?_
    refine r_iload_n dX10_isToken_17 rfl (i := 1) rfl ?_
    refine r_iconst (n := 1) dX10_isToken_18 ?_
    refine r_iadd dX10_isToken_19 ?_
    obtain ⟨hc3, hT⟩ := hT
    refine rr_istore (i := 4) (ls' := [VR m, VI x1, VI x2, VI (srt (I (m + 20) x1)), VI (x1 + 1)]) dX10_isToken_20 (Nat.le_of_ble_eq_true rfl) rfl rfl hc3 ?_
    exact hT I0 hF
  · replace hT := hT.2 hcc
    refine r_iconst (n := 0) dX10_isToken_5 ?_
    exact r_zret dX10_isToken_6 rfl ⟨by decide, by decide⟩ ⟨Nat.zero_le _, Nat.zero_le _⟩ ⟨_, rfl, rfl, hF, hT⟩
theorem en_X10_isToken {E : jE} {G : jG} {I : jM} {q : Int → jM → Prop} {m : Nat} {x1 : Int} {x2 : Int} (hm : WX10 G m) (hT : (∀ a j, jRg (G.2.1 a).1 (I a j)) → jIn x1 → jIn x2 → ((¬ x1 = x2 → ((0 : Int) ≤ x1 ∧ (x1 : Int) < 300) ∧ jIn (x1 + 1) ∧ jOI E (jA m) kX10_isToken 22 [VR m, VI x1, VI x2, VI (srt (I (m + 20) x1)), VI (x1 + 1)] G I q) ∧ (x1 = x2 → q 0 I))) : jRI E (jA m) kX10_isToken [VR m, VI x1, VI x2] G I q := jRun.of mt_X10_isToken.2.2.2 2 rfl (fun _ => st_X10_isToken_0 hm hT I (fun _ _ => rfl))
set_option maxRecDepth 20000 in
theorem st_X10_isNamed_3 {E : jE} {G : jG} {I : jM} {q : Int → jM → Prop} {m : Nat} {x1 : Int} {x2 : Int} {x3 : Int} {x4 : Int} (hm : WX10 G m) (hT : (∀ a j, jRg (G.2.1 a).1 (I a j)) → jIn x1 → jIn x2 → jIn x3 → jIn x4 → ((0 : Int) ≤ (x1 + 2) ∧ ((x1 + 2) : Int) < 240) ∧ (((I (m + 21) (x1 + 2)) ≤ x4 → q 0 I) ∧ (¬ (I (m + 21) (x1 + 2)) ≤ x4 → ((0 : Int) ≤ ((x1 + 4) + (3 * x4)) ∧ (((x1 + 4) + (3 * x4)) : Int) < 240) ∧ ((¬ (I (m + 21) ((x1 + 4) + (3 * x4))) = x2 → jIn (x4 + 1) ∧ jOI E (jA m) kX10_isNamed 3 [VR m, VI x1, VI x2, VI x3, VI (x4 + 1)] G I q) ∧ ((I (m + 21) ((x1 + 4) + (3 * x4))) = x2 → ((0 : Int) ≤ (((x1 + 4) + (3 * x4)) + 1) ∧ ((((x1 + 4) + (3 * x4)) + 1) : Int) < 240) ∧ ((¬ (I (m + 21) (((x1 + 4) + (3 * x4)) + 1)) = x3 → jIn (x4 + 1) ∧ jOI E (jA m) kX10_isNamed 3 [VR m, VI x1, VI x2, VI x3, VI (x4 + 1)] G I q) ∧ ((I (m + 21) (((x1 + 4) + (3 * x4)) + 1)) = x3 → q 1 I))))))) : jOI E (jA m) kX10_isNamed 3 [VR m, VI x1, VI x2, VI x3, VI x4] G I q := by
  intro I0 hF
  refine jOk_mem (fun hI => ?_)
  refine jOk_in (i := 1) rfl (fun hx1 => ?_)
  refine jOk_in (i := 2) rfl (fun hx2 => ?_)
  refine jOk_in (i := 3) rfl (fun hx3 => ?_)
  refine jOk_in (i := 4) rfl (fun hx4 => ?_)
  replace hT := hT hI hx1 hx2 hx3 hx4
  refine r_iload dX10_isNamed_3 (i := 4) rfl ?_
  refine r_aload_n dX10_isNamed_5 rfl (i := 0) rfl ?_
  refine rr_getR (b := (m + 21)) dX10_isNamed_6 fg_X10_71 rfl rfl (wX10_l hm) (wX10_s hm) (wX10_r27 hm) ?_
  refine r_iload_n dX10_isNamed_9 rfl (i := 1) rfl ?_
  refine r_iconst (n := 2) dX10_isNamed_10 ?_
  refine r_iadd dX10_isNamed_11 ?_
  obtain ⟨hc1, hT⟩ := hT
  refine rr_iaload (v := I (m + 21) (x1 + 2)) dX10_isNamed_12 (wX10_l27 hm) (wX10_a27 hm) (by decide) hc1 rfl ?_
  refine r_icmp_ge (tgt := 60) dX10_isNamed_13 rfl hx4 (hI _ _).inR (fun hcc => ?_) (fun hcc => ?_)
  · replace hT := hT.1 hcc
    refine r_iconst (n := 0) dX10_isNamed_60 ?_
    exact r_zret dX10_isNamed_61 rfl ⟨by decide, by decide⟩ ⟨Nat.zero_le _, Nat.zero_le _⟩ ⟨_, rfl, rfl, hF, hT⟩
  · replace hT := hT.2 hcc
    refine r_aload_n dX10_isNamed_16 rfl (i := 0) rfl ?_
    refine rr_getR (b := (m + 21)) dX10_isNamed_17 fg_X10_71 rfl rfl (wX10_l hm) (wX10_s hm) (wX10_r27 hm) ?_
    refine r_iload_n dX10_isNamed_20 rfl (i := 1) rfl ?_
    refine r_iconst (n := 4) dX10_isNamed_21 ?_
    refine r_iadd dX10_isNamed_22 ?_
    refine r_iconst (n := 3) dX10_isNamed_23 ?_
    refine r_iload dX10_isNamed_24 (i := 4) rfl ?_
    refine r_imul dX10_isNamed_26 ?_
    refine r_iadd dX10_isNamed_27 ?_
    obtain ⟨hc2, hT⟩ := hT
    refine rr_iaload (v := I (m + 21) ((x1 + 4) + (3 * x4))) dX10_isNamed_28 (wX10_l27 hm) (wX10_a27 hm) (by decide) hc2 rfl ?_
    refine r_iload_n dX10_isNamed_29 rfl (i := 2) rfl ?_
    refine r_icmp_ne (tgt := 54) dX10_isNamed_30 rfl (hI _ _).inR hx2 (fun hcc => ?_) (fun hcc => ?_)
    · replace hT := hT.1 hcc
      obtain ⟨hc3, hT⟩ := hT
      refine rr_iinc (i := 4) (ls' := [VR m, VI x1, VI x2, VI x3, VI (x4 + 1)]) dX10_isNamed_54 rfl (Nat.le_of_ble_eq_true rfl) rfl rfl hc3 ?_
      refine r_goto (tgt := 3) dX10_isNamed_57 rfl ?_
      exact hT I0 hF
    · replace hT := hT.2 hcc
      refine r_aload_n dX10_isNamed_33 rfl (i := 0) rfl ?_
      refine rr_getR (b := (m + 21)) dX10_isNamed_34 fg_X10_71 rfl rfl (wX10_l hm) (wX10_s hm) (wX10_r27 hm) ?_
      refine r_iload_n dX10_isNamed_37 rfl (i := 1) rfl ?_
      refine r_iconst (n := 4) dX10_isNamed_38 ?_
      refine r_iadd dX10_isNamed_39 ?_
      refine r_iconst (n := 3) dX10_isNamed_40 ?_
      refine r_iload dX10_isNamed_41 (i := 4) rfl ?_
      refine r_imul dX10_isNamed_43 ?_
      refine r_iadd dX10_isNamed_44 ?_
      refine r_iconst (n := 1) dX10_isNamed_45 ?_
      refine r_iadd dX10_isNamed_46 ?_
      obtain ⟨hc4, hT⟩ := hT
      refine rr_iaload (v := I (m + 21) (((x1 + 4) + (3 * x4)) + 1)) dX10_isNamed_47 (wX10_l27 hm) (wX10_a27 hm) (by decide) hc4 rfl ?_
      refine r_iload_n dX10_isNamed_48 rfl (i := 3) rfl ?_
      refine r_icmp_ne (tgt := 54) dX10_isNamed_49 rfl (hI _ _).inR hx3 (fun hcc => ?_) (fun hcc => ?_)
      · replace hT := hT.1 hcc
        obtain ⟨hc5, hT⟩ := hT
        refine rr_iinc (i := 4) (ls' := [VR m, VI x1, VI x2, VI x3, VI (x4 + 1)]) dX10_isNamed_54 rfl (Nat.le_of_ble_eq_true rfl) rfl rfl hc5 ?_
        refine r_goto (tgt := 3) dX10_isNamed_57 rfl ?_
        exact hT I0 hF
      · replace hT := hT.2 hcc
        refine r_iconst (n := 1) dX10_isNamed_52 ?_
        exact r_zret dX10_isNamed_53 rfl ⟨by decide, by decide⟩ ⟨Nat.zero_le _, Nat.zero_le _⟩ ⟨_, rfl, rfl, hF, hT⟩
set_option maxRecDepth 20000 in
theorem st_X10_isNamed_0 {E : jE} {G : jG} {I : jM} {q : Int → jM → Prop} {m : Nat} {x1 : Int} {x2 : Int} {x3 : Int} (hm : WX10 G m) (hT : (∀ a j, jRg (G.2.1 a).1 (I a j)) → jIn x1 → jIn x2 → jIn x3 → jOI E (jA m) kX10_isNamed 3 [VR m, VI x1, VI x2, VI x3, VI 0] G I q) : jOI E (jA m) kX10_isNamed 0 [VR m, VI x1, VI x2, VI x3, VN] G I q := by
  intro I0 hF
  refine jOk_mem (fun hI => ?_)
  refine jOk_in (i := 1) rfl (fun hx1 => ?_)
  refine jOk_in (i := 2) rfl (fun hx2 => ?_)
  refine jOk_in (i := 3) rfl (fun hx3 => ?_)
  replace hT := hT hI hx1 hx2 hx3
  refine r_iconst (n := 0) dX10_isNamed_0 ?_
  refine rr_istore (i := 4) (ls' := [VR m, VI x1, VI x2, VI x3, VI 0]) dX10_isNamed_1 (Nat.le_of_ble_eq_true rfl) rfl rfl ⟨by decide, by decide⟩ ?_
  exact hT I0 hF
theorem en_X10_isNamed {E : jE} {G : jG} {I : jM} {q : Int → jM → Prop} {m : Nat} {x1 : Int} {x2 : Int} {x3 : Int} (hm : WX10 G m) (hT : (∀ a j, jRg (G.2.1 a).1 (I a j)) → jIn x1 → jIn x2 → jIn x3 → jOI E (jA m) kX10_isNamed 3 [VR m, VI x1, VI x2, VI x3, VI 0] G I q) : jRI E (jA m) kX10_isNamed [VR m, VI x1, VI x2, VI x3] G I q := jRun.of mt_X10_isNamed.2.2.2 1 rfl (fun _ => st_X10_isNamed_0 hm hT I (fun _ _ => rfl))
set_option maxRecDepth 20000 in
theorem st_X10_readBytes_15 {E : jE} {G : jG} {I : jM} {q : Int → jM → Prop} {m : Nat} {x1 : Int} {x2 : Int} {x3 : Int} (hm : WX10 G m) (hT : (∀ a j, jRg (G.2.1 a).1 (I a j)) → jIn x1 → jIn x2 → jIn x3 → (0 ≤ I m 29 ∧ I m 30 ≤ 300) ∧ ((¬ (32 ≤ (rnx I m) ∧ (rnx I m) ≤ 126) → (0 ≤ I m 29 ∧ I m 30 ≤ 300) ∧ (((rnx I m) = 39 → ((x2 = 0 → jIn (x3 + 1) ∧ jIn (((I m 29) - x3) - 1) ∧ jRV E (jA m) kX10_come [VR m, VI x1, VI 4, VI (x3 + 1), VI (((I m 29) - x3) - 1)] G I (fun I8 => jIn ((I8 m 29) + 1) ∧ (∀ M9, M9 = jup I8 m 29 ((I8 m 29) + 1) → q 1 M9))) ∧ (¬ x2 = 0 → jIn (x3 + 1) ∧ jRI E (jA m) kX10_isToken [VR m, VI (x3 + 1), VI (I m 29)] G I (fun r13 I12 => ((¬ r13 = 0 → jIn (x3 + 1) ∧ jIn (((I12 m 29) - x3) - 1) ∧ jRV E (jA m) kX10_come [VR m, VI x1, VI 4, VI (x3 + 1), VI (((I12 m 29) - x3) - 1)] G I12 (fun I17 => jIn ((I17 m 29) + 1) ∧ (∀ M18, M18 = jup I17 m 29 ((I17 m 29) + 1) → q 1 M18))) ∧ (r13 = 0 → jRI E (jA m) kX10_isWrong [VR m, VI 6, VI x3] G I12 (fun r21 I20 => (0 ≤ r21 ∧ r21 ≤ 1) ∧ q r21 I20))))))) ∧ (¬ (rnx I m) = 39 → jRI E (jA m) kX10_isWrong [VR m, VI 1, VI (I m 29)] G I (fun r25 I24 => (0 ≤ r25 ∧ r25 ≤ 1) ∧ q r25 I24)))) ∧ ((32 ≤ (rnx I m) ∧ (rnx I m) ≤ 126) → (0 ≤ I m 29 ∧ I m 30 ≤ 300) ∧ (((rnx I m) = 39 → (0 ≤ I m 29 ∧ I m 30 ≤ 300) ∧ (((rnx I m) = 39 → ((x2 = 0 → jIn (x3 + 1) ∧ jIn (((I m 29) - x3) - 1) ∧ jRV E (jA m) kX10_come [VR m, VI x1, VI 4, VI (x3 + 1), VI (((I m 29) - x3) - 1)] G I (fun I34 => jIn ((I34 m 29) + 1) ∧ (∀ M35, M35 = jup I34 m 29 ((I34 m 29) + 1) → q 1 M35))) ∧ (¬ x2 = 0 → jIn (x3 + 1) ∧ jRI E (jA m) kX10_isToken [VR m, VI (x3 + 1), VI (I m 29)] G I (fun r39 I38 => ((¬ r39 = 0 → jIn (x3 + 1) ∧ jIn (((I38 m 29) - x3) - 1) ∧ jRV E (jA m) kX10_come [VR m, VI x1, VI 4, VI (x3 + 1), VI (((I38 m 29) - x3) - 1)] G I38 (fun I43 => jIn ((I43 m 29) + 1) ∧ (∀ M44, M44 = jup I43 m 29 ((I43 m 29) + 1) → q 1 M44))) ∧ (r39 = 0 → jRI E (jA m) kX10_isWrong [VR m, VI 6, VI x3] G I38 (fun r47 I46 => (0 ≤ r47 ∧ r47 ≤ 1) ∧ q r47 I46))))))) ∧ (¬ (rnx I m) = 39 → jRI E (jA m) kX10_isWrong [VR m, VI 1, VI (I m 29)] G I (fun r51 I50 => (0 ≤ r51 ∧ r51 ≤ 1) ∧ q r51 I50)))) ∧ (¬ (rnx I m) = 39 → jIn ((I m 29) + 1) ∧ (∀ M54, M54 = jup I m 29 ((I m 29) + 1) → jOI E (jA m) kX10_readBytes 15 [VR m, VI x1, VI x2, VI x3] G M54 q)))))) : jOI E (jA m) kX10_readBytes 15 [VR m, VI x1, VI x2, VI x3] G I q := by
  intro I0 hF
  refine jOk_mem (fun hI => ?_)
  refine jOk_in (i := 1) rfl (fun hx1 => ?_)
  refine jOk_in (i := 2) rfl (fun hx2 => ?_)
  refine jOk_in (i := 3) rfl (fun hx3 => ?_)
  replace hT := hT hI hx1 hx2 hx3
  refine r_aload_n dX10_readBytes_15 rfl (i := 0) rfl ?_
  obtain ⟨hc2, hT⟩ := hT
  refine rr_pVI (A := (jA m)) (v := rnx I m) (a := m) (as := []) (st := []) dX10_readBytes_16 mt_X10_next ml_X10_262 mi_X10_next rm_X10_readBytes_X10_next jz_X10_next ⟨Nat.zero_le _, Nat.zero_le _⟩ (Nat.le_of_ble_eq_true rfl) (wX10_l hm) (wX10_c hm) jas0 ((sp_X10_next hm) hc2) (fun hc1 => ?_)
  refine r_bipush (n := 32) dX10_readBytes_19 (by decide +kernel) ?_
  refine r_bipush (n := 126) dX10_readBytes_21 (by decide +kernel) ?_
  refine rr_pSI (A := (jA m)) (v := jI (32 ≤ (rnx I m) ∧ (rnx I m) ≤ 126)) (as := [VI (rnx I m), VI 32, VI 126]) (st := []) dX10_readBytes_23 mt_X10_isIn ml_X10_103 ms_X10_isIn rm_X10_readBytes_X10_isIn jz_X10_isIn ⟨Nat.zero_le _, Nat.zero_le _⟩ (Nat.le_of_ble_eq_true rfl) (jasI hc1 (jasI ⟨by decide, by decide⟩ (jasI ⟨by decide, by decide⟩ jas0))) sp_X10_isIn (fun hc3 => ?_)
  refine r_if_eq (tgt := 51) dX10_readBytes_26 rfl hc3 (fun hcc => ?_) (fun hcc => ?_)
  · replace hT := hT.1 (jI_n hcc)
    refine r_aload_n dX10_readBytes_51 rfl (i := 0) rfl ?_
    obtain ⟨hc5, hT⟩ := hT
    refine rr_pVI (A := (jA m)) (v := rnx I m) (a := m) (as := []) (st := []) dX10_readBytes_52 mt_X10_next ml_X10_262 mi_X10_next rm_X10_readBytes_X10_next jz_X10_next ⟨Nat.zero_le _, Nat.zero_le _⟩ (Nat.le_of_ble_eq_true rfl) (wX10_l hm) (wX10_c hm) jas0 ((sp_X10_next hm) hc5) (fun hc4 => ?_)
    refine r_bipush (n := 39) dX10_readBytes_55 (by decide +kernel) ?_
    refine r_icmp_eq (tgt := 70) dX10_readBytes_57 rfl hc4 ⟨by decide, by decide⟩ (fun hcc => ?_) (fun hcc => ?_)
    · replace hT := hT.1 hcc
      refine r_iload_n dX10_readBytes_70 rfl (i := 2) rfl ?_
      refine r_if_eq (tgt := 96) dX10_readBytes_71 rfl hx2 (fun hcc => ?_) (fun hcc => ?_)
      · replace hT := hT.1 hcc
        refine r_aload_n dX10_readBytes_96 rfl (i := 0) rfl ?_
        refine r_iload_n dX10_readBytes_97 rfl (i := 1) rfl ?_
        refine r_iconst (n := 4) dX10_readBytes_98 ?_
        refine r_iload_n dX10_readBytes_99 rfl (i := 3) rfl ?_
        refine r_iconst (n := 1) dX10_readBytes_100 ?_
        refine r_iadd dX10_readBytes_101 ?_
        refine r_aload_n dX10_readBytes_102 rfl (i := 0) rfl ?_
        refine rr_getI (v := I m 29) dX10_readBytes_103 fg_X10_253 rfl (wX10_l hm) (wX10_s hm) rfl ?_
        refine r_iload_n dX10_readBytes_106 rfl (i := 3) rfl ?_
        refine r_isub dX10_readBytes_107 ?_
        refine r_iconst (n := 1) dX10_readBytes_108 ?_
        refine r_isub dX10_readBytes_109 ?_
        obtain ⟨hc7, hT⟩ := hT
        obtain ⟨hc6, hT⟩ := hT
        refine rr_cVV (a := m) (as := [VI x1, VI 4, VI (x3 + 1), VI (((I m 29) - x3) - 1)]) (st := []) dX10_readBytes_110 mt_X10_come ml_X10_272 mi_X10_come rm_X10_readBytes_X10_come jz_X10_come ⟨Nat.zero_le _, Nat.zero_le _⟩ (Nat.le_of_ble_eq_true rfl) (wX10_l hm) (wX10_c hm) (jasI hx1 (jasI ⟨by decide, by decide⟩ (jasI hc7 (jasI hc6 jas0)))) hT (fun I8 hFI8 hT => ?_)
        replace hFI8 := jFr_tr hF hFI8
        refine jOk_mem (fun hI8 => ?_)
        refine r_aload_n dX10_readBytes_113 rfl (i := 0) rfl ?_
        refine r_dup dX10_readBytes_114 rfl ?_
        refine rr_getI (v := I8 m 29) dX10_readBytes_115 fg_X10_253 rfl (wX10_l hm) (wX10_s hm) rfl ?_
        refine r_iconst (n := 1) dX10_readBytes_118 ?_
        refine r_iadd dX10_readBytes_119 ?_
        obtain ⟨hc10, hT⟩ := hT
        refine rr_putI (jj := 29) dX10_readBytes_120 fp_X10_253 rfl rfl (wX10_l hm) (wX10_s hm) hc10 (fun M9 eM9 => ?_)
        have hFM9 := jFr_up hFI8 eM9 (wX10_f hm 0 (by decide))
        replace hT := hT M9 eM9
        refine jOk_mem (fun hIM9 => ?_)
        refine r_iconst (n := 1) dX10_readBytes_123 ?_
        exact r_zret dX10_readBytes_124 rfl ⟨by decide, by decide⟩ ⟨Nat.zero_le _, Nat.zero_le _⟩ ⟨_, rfl, rfl, hFM9, hT⟩
      · replace hT := hT.2 hcc
        refine r_aload_n dX10_readBytes_74 rfl (i := 0) rfl ?_
        refine r_iload_n dX10_readBytes_75 rfl (i := 3) rfl ?_
        refine r_iconst (n := 1) dX10_readBytes_76 ?_
        refine r_iadd dX10_readBytes_77 ?_
        refine r_aload_n dX10_readBytes_78 rfl (i := 0) rfl ?_
        refine rr_getI (v := I m 29) dX10_readBytes_79 fg_X10_253 rfl (wX10_l hm) (wX10_s hm) rfl ?_
        obtain ⟨hc11, hT⟩ := hT
        refine rr_cVI (a := m) (as := [VI (x3 + 1), VI (I m 29)]) (st := []) dX10_readBytes_82 mt_X10_isToken ml_X10_269 mi_X10_isToken rm_X10_readBytes_X10_isToken jz_X10_isToken ⟨Nat.zero_le _, Nat.zero_le _⟩ (Nat.le_of_ble_eq_true rfl) (wX10_l hm) (wX10_c hm) (jasI hc11 (jasI (hI _ _).inR jas0)) hT (fun r13 I12 hc14 hFI12 hT => ?_)
        replace hFI12 := jFr_tr hF hFI12
        refine jOk_mem (fun hI12 => ?_)
        refine r_if_ne (tgt := 96) dX10_readBytes_85 rfl hc14 (fun hcc => ?_) (fun hcc => ?_)
        · replace hT := hT.1 hcc
          refine r_aload_n dX10_readBytes_96 rfl (i := 0) rfl ?_
          refine r_iload_n dX10_readBytes_97 rfl (i := 1) rfl ?_
          refine r_iconst (n := 4) dX10_readBytes_98 ?_
          refine r_iload_n dX10_readBytes_99 rfl (i := 3) rfl ?_
          refine r_iconst (n := 1) dX10_readBytes_100 ?_
          refine r_iadd dX10_readBytes_101 ?_
          refine r_aload_n dX10_readBytes_102 rfl (i := 0) rfl ?_
          refine rr_getI (v := I12 m 29) dX10_readBytes_103 fg_X10_253 rfl (wX10_l hm) (wX10_s hm) rfl ?_
          refine r_iload_n dX10_readBytes_106 rfl (i := 3) rfl ?_
          refine r_isub dX10_readBytes_107 ?_
          refine r_iconst (n := 1) dX10_readBytes_108 ?_
          refine r_isub dX10_readBytes_109 ?_
          obtain ⟨hc16, hT⟩ := hT
          obtain ⟨hc15, hT⟩ := hT
          refine rr_cVV (a := m) (as := [VI x1, VI 4, VI (x3 + 1), VI (((I12 m 29) - x3) - 1)]) (st := []) dX10_readBytes_110 mt_X10_come ml_X10_272 mi_X10_come rm_X10_readBytes_X10_come jz_X10_come ⟨Nat.zero_le _, Nat.zero_le _⟩ (Nat.le_of_ble_eq_true rfl) (wX10_l hm) (wX10_c hm) (jasI hx1 (jasI ⟨by decide, by decide⟩ (jasI hc16 (jasI hc15 jas0)))) hT (fun I17 hFI17 hT => ?_)
          replace hFI17 := jFr_tr hFI12 hFI17
          refine jOk_mem (fun hI17 => ?_)
          refine r_aload_n dX10_readBytes_113 rfl (i := 0) rfl ?_
          refine r_dup dX10_readBytes_114 rfl ?_
          refine rr_getI (v := I17 m 29) dX10_readBytes_115 fg_X10_253 rfl (wX10_l hm) (wX10_s hm) rfl ?_
          refine r_iconst (n := 1) dX10_readBytes_118 ?_
          refine r_iadd dX10_readBytes_119 ?_
          obtain ⟨hc19, hT⟩ := hT
          refine rr_putI (jj := 29) dX10_readBytes_120 fp_X10_253 rfl rfl (wX10_l hm) (wX10_s hm) hc19 (fun M18 eM18 => ?_)
          have hFM18 := jFr_up hFI17 eM18 (wX10_f hm 0 (by decide))
          replace hT := hT M18 eM18
          refine jOk_mem (fun hIM18 => ?_)
          refine r_iconst (n := 1) dX10_readBytes_123 ?_
          exact r_zret dX10_readBytes_124 rfl ⟨by decide, by decide⟩ ⟨Nat.zero_le _, Nat.zero_le _⟩ ⟨_, rfl, rfl, hFM18, hT⟩
        · replace hT := hT.2 hcc
          refine r_aload_n dX10_readBytes_88 rfl (i := 0) rfl ?_
          refine r_bipush (n := 6) dX10_readBytes_89 (by decide +kernel) ?_
          refine r_iload_n dX10_readBytes_91 rfl (i := 3) rfl ?_
          refine rr_cVI (a := m) (as := [VI 6, VI x3]) (st := []) dX10_readBytes_92 mt_X10_isWrong ml_X10_266 mi_X10_isWrong rm_X10_readBytes_X10_isWrong jz_X10_isWrong ⟨Nat.zero_le _, Nat.zero_le _⟩ (Nat.le_of_ble_eq_true rfl) (wX10_l hm) (wX10_c hm) (jasI ⟨by decide, by decide⟩ (jasI hx3 jas0)) hT (fun r21 I20 hc22 hFI20 hT => ?_)
          replace hFI20 := jFr_tr hFI12 hFI20
          refine jOk_mem (fun hI20 => ?_)
          obtain ⟨hc23, hT⟩ := hT
          exact r_zret dX10_readBytes_95 rfl hc23 ⟨Nat.zero_le _, Nat.zero_le _⟩ ⟨_, rfl, rfl, hFI20, hT⟩
    · replace hT := hT.2 hcc
      refine r_aload_n dX10_readBytes_60 rfl (i := 0) rfl ?_
      refine r_iconst (n := 1) dX10_readBytes_61 ?_
      refine r_aload_n dX10_readBytes_62 rfl (i := 0) rfl ?_
      refine rr_getI (v := I m 29) dX10_readBytes_63 fg_X10_253 rfl (wX10_l hm) (wX10_s hm) rfl ?_
      refine rr_cVI (a := m) (as := [VI 1, VI (I m 29)]) (st := []) dX10_readBytes_66 mt_X10_isWrong ml_X10_266 mi_X10_isWrong rm_X10_readBytes_X10_isWrong jz_X10_isWrong ⟨Nat.zero_le _, Nat.zero_le _⟩ (Nat.le_of_ble_eq_true rfl) (wX10_l hm) (wX10_c hm) (jasI ⟨by decide, by decide⟩ (jasI (hI _ _).inR jas0)) hT (fun r25 I24 hc26 hFI24 hT => ?_)
      replace hFI24 := jFr_tr hF hFI24
      refine jOk_mem (fun hI24 => ?_)
      obtain ⟨hc27, hT⟩ := hT
      exact r_zret dX10_readBytes_69 rfl hc27 ⟨Nat.zero_le _, Nat.zero_le _⟩ ⟨_, rfl, rfl, hFI24, hT⟩
  · replace hT := hT.2 (jI_p hcc)
    refine r_aload_n dX10_readBytes_29 rfl (i := 0) rfl ?_
    obtain ⟨hc29, hT⟩ := hT
    refine rr_pVI (A := (jA m)) (v := rnx I m) (a := m) (as := []) (st := []) dX10_readBytes_30 mt_X10_next ml_X10_262 mi_X10_next rm_X10_readBytes_X10_next jz_X10_next ⟨Nat.zero_le _, Nat.zero_le _⟩ (Nat.le_of_ble_eq_true rfl) (wX10_l hm) (wX10_c hm) jas0 ((sp_X10_next hm) hc29) (fun hc28 => ?_)
    refine r_bipush (n := 39) dX10_readBytes_33 (by decide +kernel) ?_
    refine r_icmp_eq (tgt := 51) dX10_readBytes_35 rfl hc28 ⟨by decide, by decide⟩ (fun hcc => ?_) (fun hcc => ?_)
    · replace hT := hT.1 hcc
      refine r_aload_n dX10_readBytes_51 rfl (i := 0) rfl ?_
      obtain ⟨hc31, hT⟩ := hT
      refine rr_pVI (A := (jA m)) (v := rnx I m) (a := m) (as := []) (st := []) dX10_readBytes_52 mt_X10_next ml_X10_262 mi_X10_next rm_X10_readBytes_X10_next jz_X10_next ⟨Nat.zero_le _, Nat.zero_le _⟩ (Nat.le_of_ble_eq_true rfl) (wX10_l hm) (wX10_c hm) jas0 ((sp_X10_next hm) hc31) (fun hc30 => ?_)
      refine r_bipush (n := 39) dX10_readBytes_55 (by decide +kernel) ?_
      refine r_icmp_eq (tgt := 70) dX10_readBytes_57 rfl hc30 ⟨by decide, by decide⟩ (fun hcc => ?_) (fun hcc => ?_)
      · replace hT := hT.1 hcc
        refine r_iload_n dX10_readBytes_70 rfl (i := 2) rfl ?_
        refine r_if_eq (tgt := 96) dX10_readBytes_71 rfl hx2 (fun hcc => ?_) (fun hcc => ?_)
        · replace hT := hT.1 hcc
          refine r_aload_n dX10_readBytes_96 rfl (i := 0) rfl ?_
          refine r_iload_n dX10_readBytes_97 rfl (i := 1) rfl ?_
          refine r_iconst (n := 4) dX10_readBytes_98 ?_
          refine r_iload_n dX10_readBytes_99 rfl (i := 3) rfl ?_
          refine r_iconst (n := 1) dX10_readBytes_100 ?_
          refine r_iadd dX10_readBytes_101 ?_
          refine r_aload_n dX10_readBytes_102 rfl (i := 0) rfl ?_
          refine rr_getI (v := I m 29) dX10_readBytes_103 fg_X10_253 rfl (wX10_l hm) (wX10_s hm) rfl ?_
          refine r_iload_n dX10_readBytes_106 rfl (i := 3) rfl ?_
          refine r_isub dX10_readBytes_107 ?_
          refine r_iconst (n := 1) dX10_readBytes_108 ?_
          refine r_isub dX10_readBytes_109 ?_
          obtain ⟨hc33, hT⟩ := hT
          obtain ⟨hc32, hT⟩ := hT
          refine rr_cVV (a := m) (as := [VI x1, VI 4, VI (x3 + 1), VI (((I m 29) - x3) - 1)]) (st := []) dX10_readBytes_110 mt_X10_come ml_X10_272 mi_X10_come rm_X10_readBytes_X10_come jz_X10_come ⟨Nat.zero_le _, Nat.zero_le _⟩ (Nat.le_of_ble_eq_true rfl) (wX10_l hm) (wX10_c hm) (jasI hx1 (jasI ⟨by decide, by decide⟩ (jasI hc33 (jasI hc32 jas0)))) hT (fun I34 hFI34 hT => ?_)
          replace hFI34 := jFr_tr hF hFI34
          refine jOk_mem (fun hI34 => ?_)
          refine r_aload_n dX10_readBytes_113 rfl (i := 0) rfl ?_
          refine r_dup dX10_readBytes_114 rfl ?_
          refine rr_getI (v := I34 m 29) dX10_readBytes_115 fg_X10_253 rfl (wX10_l hm) (wX10_s hm) rfl ?_
          refine r_iconst (n := 1) dX10_readBytes_118 ?_
          refine r_iadd dX10_readBytes_119 ?_
          obtain ⟨hc36, hT⟩ := hT
          refine rr_putI (jj := 29) dX10_readBytes_120 fp_X10_253 rfl rfl (wX10_l hm) (wX10_s hm) hc36 (fun M35 eM35 => ?_)
          have hFM35 := jFr_up hFI34 eM35 (wX10_f hm 0 (by decide))
          replace hT := hT M35 eM35
          refine jOk_mem (fun hIM35 => ?_)
          refine r_iconst (n := 1) dX10_readBytes_123 ?_
          exact r_zret dX10_readBytes_124 rfl ⟨by decide, by decide⟩ ⟨Nat.zero_le _, Nat.zero_le _⟩ ⟨_, rfl, rfl, hFM35, hT⟩
        · replace hT := hT.2 hcc
          refine r_aload_n dX10_readBytes_74 rfl (i := 0) rfl ?_
          refine r_iload_n dX10_readBytes_75 rfl (i := 3) rfl ?_
          refine r_iconst (n := 1) dX10_readBytes_76 ?_
          refine r_iadd dX10_readBytes_77 ?_
          refine r_aload_n dX10_readBytes_78 rfl (i := 0) rfl ?_
          refine rr_getI (v := I m 29) dX10_readBytes_79 fg_X10_253 rfl (wX10_l hm) (wX10_s hm) rfl ?_
          obtain ⟨hc37, hT⟩ := hT
          refine rr_cVI (a := m) (as := [VI (x3 + 1), VI (I m 29)]) (st := []) dX10_readBytes_82 mt_X10_isToken ml_X10_269 mi_X10_isToken rm_X10_readBytes_X10_isToken jz_X10_isToken ⟨Nat.zero_le _, Nat.zero_le _⟩ (Nat.le_of_ble_eq_true rfl) (wX10_l hm) (wX10_c hm) (jasI hc37 (jasI (hI _ _).inR jas0)) hT (fun r39 I38 hc40 hFI38 hT => ?_)
          replace hFI38 := jFr_tr hF hFI38
          refine jOk_mem (fun hI38 => ?_)
          refine r_if_ne (tgt := 96) dX10_readBytes_85 rfl hc40 (fun hcc => ?_) (fun hcc => ?_)
          · replace hT := hT.1 hcc
            refine r_aload_n dX10_readBytes_96 rfl (i := 0) rfl ?_
            refine r_iload_n dX10_readBytes_97 rfl (i := 1) rfl ?_
            refine r_iconst (n := 4) dX10_readBytes_98 ?_
            refine r_iload_n dX10_readBytes_99 rfl (i := 3) rfl ?_
            refine r_iconst (n := 1) dX10_readBytes_100 ?_
            refine r_iadd dX10_readBytes_101 ?_
            refine r_aload_n dX10_readBytes_102 rfl (i := 0) rfl ?_
            refine rr_getI (v := I38 m 29) dX10_readBytes_103 fg_X10_253 rfl (wX10_l hm) (wX10_s hm) rfl ?_
            refine r_iload_n dX10_readBytes_106 rfl (i := 3) rfl ?_
            refine r_isub dX10_readBytes_107 ?_
            refine r_iconst (n := 1) dX10_readBytes_108 ?_
            refine r_isub dX10_readBytes_109 ?_
            obtain ⟨hc42, hT⟩ := hT
            obtain ⟨hc41, hT⟩ := hT
            refine rr_cVV (a := m) (as := [VI x1, VI 4, VI (x3 + 1), VI (((I38 m 29) - x3) - 1)]) (st := []) dX10_readBytes_110 mt_X10_come ml_X10_272 mi_X10_come rm_X10_readBytes_X10_come jz_X10_come ⟨Nat.zero_le _, Nat.zero_le _⟩ (Nat.le_of_ble_eq_true rfl) (wX10_l hm) (wX10_c hm) (jasI hx1 (jasI ⟨by decide, by decide⟩ (jasI hc42 (jasI hc41 jas0)))) hT (fun I43 hFI43 hT => ?_)
            replace hFI43 := jFr_tr hFI38 hFI43
            refine jOk_mem (fun hI43 => ?_)
            refine r_aload_n dX10_readBytes_113 rfl (i := 0) rfl ?_
            refine r_dup dX10_readBytes_114 rfl ?_
            refine rr_getI (v := I43 m 29) dX10_readBytes_115 fg_X10_253 rfl (wX10_l hm) (wX10_s hm) rfl ?_
            refine r_iconst (n := 1) dX10_readBytes_118 ?_
            refine r_iadd dX10_readBytes_119 ?_
            obtain ⟨hc45, hT⟩ := hT
            refine rr_putI (jj := 29) dX10_readBytes_120 fp_X10_253 rfl rfl (wX10_l hm) (wX10_s hm) hc45 (fun M44 eM44 => ?_)
            have hFM44 := jFr_up hFI43 eM44 (wX10_f hm 0 (by decide))
            replace hT := hT M44 eM44
            refine jOk_mem (fun hIM44 => ?_)
            refine r_iconst (n := 1) dX10_readBytes_123 ?_
            exact r_zret dX10_readBytes_124 rfl ⟨by decide, by decide⟩ ⟨Nat.zero_le _, Nat.zero_le _⟩ ⟨_, rfl, rfl, hFM44, hT⟩
          · replace hT := hT.2 hcc
            refine r_aload_n dX10_readBytes_88 rfl (i := 0) rfl ?_
            refine r_bipush (n := 6) dX10_readBytes_89 (by decide +kernel) ?_
            refine r_iload_n dX10_readBytes_91 rfl (i := 3) rfl ?_
            refine rr_cVI (a := m) (as := [VI 6, VI x3]) (st := []) dX10_readBytes_92 mt_X10_isWrong ml_X10_266 mi_X10_isWrong rm_X10_readBytes_X10_isWrong jz_X10_isWrong ⟨Nat.zero_le _, Nat.zero_le _⟩ (Nat.le_of_ble_eq_true rfl) (wX10_l hm) (wX10_c hm) (jasI ⟨by decide, by decide⟩ (jasI hx3 jas0)) hT (fun r47 I46 hc48 hFI46 hT => ?_)
            replace hFI46 := jFr_tr hFI38 hFI46
            refine jOk_mem (fun hI46 => ?_)
            obtain ⟨hc49, hT⟩ := hT
            exact r_zret dX10_readBytes_95 rfl hc49 ⟨Nat.zero_le _, Nat.zero_le _⟩ ⟨_, rfl, rfl, hFI46, hT⟩
      · replace hT := hT.2 hcc
        refine r_aload_n dX10_readBytes_60 rfl (i := 0) rfl ?_
        refine r_iconst (n := 1) dX10_readBytes_61 ?_
        refine r_aload_n dX10_readBytes_62 rfl (i := 0) rfl ?_
        refine rr_getI (v := I m 29) dX10_readBytes_63 fg_X10_253 rfl (wX10_l hm) (wX10_s hm) rfl ?_
        refine rr_cVI (a := m) (as := [VI 1, VI (I m 29)]) (st := []) dX10_readBytes_66 mt_X10_isWrong ml_X10_266 mi_X10_isWrong rm_X10_readBytes_X10_isWrong jz_X10_isWrong ⟨Nat.zero_le _, Nat.zero_le _⟩ (Nat.le_of_ble_eq_true rfl) (wX10_l hm) (wX10_c hm) (jasI ⟨by decide, by decide⟩ (jasI (hI _ _).inR jas0)) hT (fun r51 I50 hc52 hFI50 hT => ?_)
        replace hFI50 := jFr_tr hF hFI50
        refine jOk_mem (fun hI50 => ?_)
        obtain ⟨hc53, hT⟩ := hT
        exact r_zret dX10_readBytes_69 rfl hc53 ⟨Nat.zero_le _, Nat.zero_le _⟩ ⟨_, rfl, rfl, hFI50, hT⟩
    · replace hT := hT.2 hcc
      refine r_aload_n dX10_readBytes_38 rfl (i := 0) rfl ?_
      refine r_dup dX10_readBytes_39 rfl ?_
      refine rr_getI (v := I m 29) dX10_readBytes_40 fg_X10_253 rfl (wX10_l hm) (wX10_s hm) rfl ?_
      refine r_iconst (n := 1) dX10_readBytes_43 ?_
      refine r_iadd dX10_readBytes_44 ?_
      obtain ⟨hc55, hT⟩ := hT
      refine rr_putI (jj := 29) dX10_readBytes_45 fp_X10_253 rfl rfl (wX10_l hm) (wX10_s hm) hc55 (fun M54 eM54 => ?_)
      have hFM54 := jFr_up hF eM54 (wX10_f hm 0 (by decide))
      replace hT := hT M54 eM54
      refine jOk_mem (fun hIM54 => ?_)
      refine r_goto (tgt := 15) dX10_readBytes_48 rfl ?_
      exact hT I0 hFM54
set_option maxRecDepth 20000 in
theorem st_X10_readBytes_0 {E : jE} {G : jG} {I : jM} {q : Int → jM → Prop} {m : Nat} {x1 : Int} {x2 : Int} (hm : WX10 G m) (hT : (∀ a j, jRg (G.2.1 a).1 (I a j)) → jIn x1 → jIn x2 → jIn ((I m 29) + 1) ∧ (∀ M1, M1 = jup I m 29 ((I m 29) + 1) → jOI E (jA m) kX10_readBytes 15 [VR m, VI x1, VI x2, VI (I m 29)] G M1 q)) : jOI E (jA m) kX10_readBytes 0 [VR m, VI x1, VI x2, VN] G I q := by
  intro I0 hF
  refine jOk_mem (fun hI => ?_)
  refine jOk_in (i := 1) rfl (fun hx1 => ?_)
  refine jOk_in (i := 2) rfl (fun hx2 => ?_)
  replace hT := hT hI hx1 hx2
  refine r_aload_n dX10_readBytes_0 rfl (i := 0) rfl ?_
  refine rr_getI (v := I m 29) dX10_readBytes_1 fg_X10_253 rfl (wX10_l hm) (wX10_s hm) rfl ?_
  refine rr_istore_n (i := 3) (ls' := [VR m, VI x1, VI x2, VI (I m 29)]) dX10_readBytes_4 rfl (Nat.le_of_ble_eq_true rfl) rfl rfl (hI _ _).inR ?_
  refine r_aload_n dX10_readBytes_5 rfl (i := 0) rfl ?_
  refine r_dup dX10_readBytes_6 rfl ?_
  refine rr_getI (v := I m 29) dX10_readBytes_7 fg_X10_253 rfl (wX10_l hm) (wX10_s hm) rfl ?_
  refine r_iconst (n := 1) dX10_readBytes_10 ?_
  refine r_iadd dX10_readBytes_11 ?_
  obtain ⟨hc2, hT⟩ := hT
  refine rr_putI (jj := 29) dX10_readBytes_12 fp_X10_253 rfl rfl (wX10_l hm) (wX10_s hm) hc2 (fun M1 eM1 => ?_)
  have hFM1 := jFr_up hF eM1 (wX10_f hm 0 (by decide))
  replace hT := hT M1 eM1
  refine jOk_mem (fun hIM1 => ?_)
  exact hT I0 hFM1
theorem en_X10_readBytes {E : jE} {G : jG} {I : jM} {q : Int → jM → Prop} {m : Nat} {x1 : Int} {x2 : Int} (hm : WX10 G m) (hT : (∀ a j, jRg (G.2.1 a).1 (I a j)) → jIn x1 → jIn x2 → jIn ((I m 29) + 1) ∧ (∀ M1, M1 = jup I m 29 ((I m 29) + 1) → jOI E (jA m) kX10_readBytes 15 [VR m, VI x1, VI x2, VI (I m 29)] G M1 q)) : jRI E (jA m) kX10_readBytes [VR m, VI x1, VI x2] G I q := jRun.of mt_X10_readBytes.2.2.2 1 rfl (fun _ => st_X10_readBytes_0 hm hT I (fun _ _ => rfl))
set_option maxRecDepth 20000 in
theorem st_X10_readElement_0 {E : jE} {G : jG} {I : jM} {q : Int → jM → Prop} {m : Nat} {x1 : Int} (hm : WX10 G m) (hT : (∀ a j, jRg (G.2.1 a).1 (I a j)) → jIn x1 → (0 ≤ I m 29 ∧ I m 30 ≤ 300) ∧ ((¬ (rnx I m) = 39 → jIn ((I m 29) + 1) ∧ (∀ M3, M3 = jup I m 29 ((I m 29) + 1) → ((¬ (rnx I m) = 95 → (0 ≤ M3 m 29 ∧ M3 m 30 ≤ 300) ∧ (((nmd (rnx M3 m)) → (0 ≤ M3 m 29 ∧ M3 m 30 ≤ 300) ∧ jIn ((rnx M3 m) - 97) ∧ jRV E (jA m) kX10_come [VR m, VI x1, VI (sby (rnx I m)), VI ((rnx M3 m) - 97), VI 0] G M3 (fun I12 => jIn ((I12 m 29) + 1) ∧ (∀ M13, M13 = jup I12 m 29 ((I12 m 29) + 1) → q 1 M13))) ∧ (¬ (nmd (rnx M3 m)) → jRI E (jA m) kX10_isWrong [VR m, VI 1, VI ((I m 29) + 1)] G M3 (fun r16 I15 => (0 ≤ r16 ∧ r16 ≤ 1) ∧ q r16 I15)))) ∧ ((rnx I m) = 95 → jRV E (jA m) kX10_come [VR m, VI x1, VI 3, VI 0, VI 0] G M3 (fun I19 => q 1 I19))))) ∧ ((rnx I m) = 39 → jRI E (jA m) kX10_readBytes [VR m, VI x1, VI 1] G I (fun r21 I20 => (0 ≤ r21 ∧ r21 ≤ 1) ∧ q r21 I20)))) : jOI E (jA m) kX10_readElement 0 [VR m, VI x1, VN] G I q := by
  intro I0 hF
  refine jOk_mem (fun hI => ?_)
  refine jOk_in (i := 1) rfl (fun hx1 => ?_)
  replace hT := hT hI hx1
  refine r_aload_n dX10_readElement_0 rfl (i := 0) rfl ?_
  obtain ⟨hc2, hT⟩ := hT
  refine rr_pVI (A := (jA m)) (v := rnx I m) (a := m) (as := []) (st := []) dX10_readElement_1 mt_X10_next ml_X10_262 mi_X10_next rm_X10_readElement_X10_next jz_X10_next ⟨Nat.zero_le _, Nat.zero_le _⟩ (Nat.le_of_ble_eq_true rfl) (wX10_l hm) (wX10_c hm) jas0 ((sp_X10_next hm) hc2) (fun hc1 => ?_)
  refine rr_istore_n (i := 2) (ls' := [VR m, VI x1, VI (rnx I m)]) dX10_readElement_4 rfl (Nat.le_of_ble_eq_true rfl) rfl rfl hc1 ?_
  refine r_iload_n dX10_readElement_5 rfl (i := 2) rfl ?_
  refine r_bipush (n := 39) dX10_readElement_6 (by decide +kernel) ?_
  refine r_icmp_ne (tgt := 18) dX10_readElement_8 rfl hc1 ⟨by decide, by decide⟩ (fun hcc => ?_) (fun hcc => ?_)
  · replace hT := hT.1 hcc
    refine r_aload_n dX10_readElement_18 rfl (i := 0) rfl ?_
    refine r_dup dX10_readElement_19 rfl ?_
    refine rr_getI (v := I m 29) dX10_readElement_20 fg_X10_253 rfl (wX10_l hm) (wX10_s hm) rfl ?_
    refine r_iconst (n := 1) dX10_readElement_23 ?_
    refine r_iadd dX10_readElement_24 ?_
    obtain ⟨hc4, hT⟩ := hT
    refine rr_putI (jj := 29) dX10_readElement_25 fp_X10_253 rfl rfl (wX10_l hm) (wX10_s hm) hc4 (fun M3 eM3 => ?_)
    have hFM3 := jFr_up hF eM3 (wX10_f hm 0 (by decide))
    replace hT := hT M3 eM3
    refine jOk_mem (fun hIM3 => ?_)
    refine r_iload_n dX10_readElement_28 rfl (i := 2) rfl ?_
    refine r_bipush (n := 95) dX10_readElement_29 (by decide +kernel) ?_
    refine r_icmp_ne (tgt := 44) dX10_readElement_31 rfl hc1 ⟨by decide, by decide⟩ (fun hcc => ?_) (fun hcc => ?_)
    · replace hT := hT.1 hcc
      refine r_aload_n dX10_readElement_44 rfl (i := 0) rfl ?_
      obtain ⟨hc6, hT⟩ := hT
      refine rr_pVI (A := (jA m)) (v := rnx M3 m) (a := m) (as := []) (st := []) dX10_readElement_45 mt_X10_next ml_X10_262 mi_X10_next rm_X10_readElement_X10_next jz_X10_next ⟨Nat.zero_le _, Nat.zero_le _⟩ (Nat.le_of_ble_eq_true rfl) (wX10_l hm) (wX10_c hm) jas0 ((sp_X10_next hm) hc6) (fun hc5 => ?_)
      refine rr_pSI (A := (jA m)) (v := jI (nmd (rnx M3 m))) (as := [VI (rnx M3 m)]) (st := []) dX10_readElement_48 mt_X10_isName ml_X10_283 ms_X10_isName rm_X10_readElement_X10_isName jz_X10_isName ⟨Nat.zero_le _, Nat.zero_le _⟩ (Nat.le_of_ble_eq_true rfl) (jasI hc5 jas0) sp_X10_isName (fun hc7 => ?_)
      refine r_if_ne (tgt := 64) dX10_readElement_51 rfl hc7 (fun hcc => ?_) (fun hcc => ?_)
      · replace hT := hT.1 (jI_p hcc)
        refine r_aload_n dX10_readElement_64 rfl (i := 0) rfl ?_
        refine r_iload_n dX10_readElement_65 rfl (i := 1) rfl ?_
        refine r_iload_n dX10_readElement_66 rfl (i := 2) rfl ?_
        refine rr_pSI (A := (jA m)) (v := sby (rnx I m)) (as := [VI (rnx I m)]) (st := [VI x1, VR m]) dX10_readElement_67 mt_X10_sortBy ml_X10_276 ms_X10_sortBy rm_X10_readElement_X10_sortBy jz_X10_sortBy ⟨Nat.zero_le _, Nat.zero_le _⟩ (Nat.le_of_ble_eq_true rfl) (jasI hc1 jas0) sp_X10_sortBy (fun hc8 => ?_)
        refine r_aload_n dX10_readElement_70 rfl (i := 0) rfl ?_
        obtain ⟨hc10, hT⟩ := hT
        refine rr_pVI (A := (jA m)) (v := rnx M3 m) (a := m) (as := []) (st := [VI (sby (rnx I m)), VI x1, VR m]) dX10_readElement_71 mt_X10_next ml_X10_262 mi_X10_next rm_X10_readElement_X10_next jz_X10_next ⟨Nat.zero_le _, Nat.zero_le _⟩ (Nat.le_of_ble_eq_true rfl) (wX10_l hm) (wX10_c hm) jas0 ((sp_X10_next hm) hc10) (fun hc9 => ?_)
        refine r_bipush (n := 97) dX10_readElement_74 (by decide +kernel) ?_
        refine r_isub dX10_readElement_76 ?_
        refine r_iconst (n := 0) dX10_readElement_77 ?_
        obtain ⟨hc11, hT⟩ := hT
        refine rr_cVV (a := m) (as := [VI x1, VI (sby (rnx I m)), VI ((rnx M3 m) - 97), VI 0]) (st := []) dX10_readElement_78 mt_X10_come ml_X10_272 mi_X10_come rm_X10_readElement_X10_come jz_X10_come ⟨Nat.zero_le _, Nat.zero_le _⟩ (Nat.le_of_ble_eq_true rfl) (wX10_l hm) (wX10_c hm) (jasI hx1 (jasI hc8 (jasI hc11 (jasI ⟨by decide, by decide⟩ jas0)))) hT (fun I12 hFI12 hT => ?_)
        replace hFI12 := jFr_tr hFM3 hFI12
        refine jOk_mem (fun hI12 => ?_)
        refine r_aload_n dX10_readElement_81 rfl (i := 0) rfl ?_
        refine r_dup dX10_readElement_82 rfl ?_
        refine rr_getI (v := I12 m 29) dX10_readElement_83 fg_X10_253 rfl (wX10_l hm) (wX10_s hm) rfl ?_
        refine r_iconst (n := 1) dX10_readElement_86 ?_
        refine r_iadd dX10_readElement_87 ?_
        obtain ⟨hc14, hT⟩ := hT
        refine rr_putI (jj := 29) dX10_readElement_88 fp_X10_253 rfl rfl (wX10_l hm) (wX10_s hm) hc14 (fun M13 eM13 => ?_)
        have hFM13 := jFr_up hFI12 eM13 (wX10_f hm 0 (by decide))
        replace hT := hT M13 eM13
        refine jOk_mem (fun hIM13 => ?_)
        refine r_iconst (n := 1) dX10_readElement_91 ?_
        exact r_zret dX10_readElement_92 rfl ⟨by decide, by decide⟩ ⟨Nat.zero_le _, Nat.zero_le _⟩ ⟨_, rfl, rfl, hFM13, hT⟩
      · replace hT := hT.2 (jI_n hcc)
        refine r_aload_n dX10_readElement_54 rfl (i := 0) rfl ?_
        refine r_iconst (n := 1) dX10_readElement_55 ?_
        refine r_aload_n dX10_readElement_56 rfl (i := 0) rfl ?_
        refine rr_getI (v := (I m 29) + 1) dX10_readElement_57 fg_X10_253 rfl (wX10_l hm) (wX10_s hm) (jr_eq eM3) ?_
        refine rr_cVI (a := m) (as := [VI 1, VI ((I m 29) + 1)]) (st := []) dX10_readElement_60 mt_X10_isWrong ml_X10_266 mi_X10_isWrong rm_X10_readElement_X10_isWrong jz_X10_isWrong ⟨Nat.zero_le _, Nat.zero_le _⟩ (Nat.le_of_ble_eq_true rfl) (wX10_l hm) (wX10_c hm) (jasI ⟨by decide, by decide⟩ (jasI hc4 jas0)) hT (fun r16 I15 hc17 hFI15 hT => ?_)
        replace hFI15 := jFr_tr hFM3 hFI15
        refine jOk_mem (fun hI15 => ?_)
        obtain ⟨hc18, hT⟩ := hT
        exact r_zret dX10_readElement_63 rfl hc18 ⟨Nat.zero_le _, Nat.zero_le _⟩ ⟨_, rfl, rfl, hFI15, hT⟩
    · replace hT := hT.2 hcc
      refine r_aload_n dX10_readElement_34 rfl (i := 0) rfl ?_
      refine r_iload_n dX10_readElement_35 rfl (i := 1) rfl ?_
      refine r_iconst (n := 3) dX10_readElement_36 ?_
      refine r_iconst (n := 0) dX10_readElement_37 ?_
      refine r_iconst (n := 0) dX10_readElement_38 ?_
      refine rr_cVV (a := m) (as := [VI x1, VI 3, VI 0, VI 0]) (st := []) dX10_readElement_39 mt_X10_come ml_X10_272 mi_X10_come rm_X10_readElement_X10_come jz_X10_come ⟨Nat.zero_le _, Nat.zero_le _⟩ (Nat.le_of_ble_eq_true rfl) (wX10_l hm) (wX10_c hm) (jasI hx1 (jasI ⟨by decide, by decide⟩ (jasI ⟨by decide, by decide⟩ (jasI ⟨by decide, by decide⟩ jas0)))) hT (fun I19 hFI19 hT => ?_)
      replace hFI19 := jFr_tr hFM3 hFI19
      refine jOk_mem (fun hI19 => ?_)
      refine r_iconst (n := 1) dX10_readElement_42 ?_
      exact r_zret dX10_readElement_43 rfl ⟨by decide, by decide⟩ ⟨Nat.zero_le _, Nat.zero_le _⟩ ⟨_, rfl, rfl, hFI19, hT⟩
  · replace hT := hT.2 hcc
    refine r_aload_n dX10_readElement_11 rfl (i := 0) rfl ?_
    refine r_iload_n dX10_readElement_12 rfl (i := 1) rfl ?_
    refine r_iconst (n := 1) dX10_readElement_13 ?_
    refine rr_cVI (a := m) (as := [VI x1, VI 1]) (st := []) dX10_readElement_14 mt_X10_readBytes ml_X10_279 mi_X10_readBytes rm_X10_readElement_X10_readBytes jz_X10_readBytes ⟨Nat.zero_le _, Nat.zero_le _⟩ (Nat.le_of_ble_eq_true rfl) (wX10_l hm) (wX10_c hm) (jasI hx1 (jasI ⟨by decide, by decide⟩ jas0)) hT (fun r21 I20 hc22 hFI20 hT => ?_)
    replace hFI20 := jFr_tr hF hFI20
    refine jOk_mem (fun hI20 => ?_)
    obtain ⟨hc23, hT⟩ := hT
    exact r_zret dX10_readElement_17 rfl hc23 ⟨Nat.zero_le _, Nat.zero_le _⟩ ⟨_, rfl, rfl, hFI20, hT⟩
theorem en_X10_readElement {E : jE} {G : jG} {I : jM} {q : Int → jM → Prop} {m : Nat} {x1 : Int} (hm : WX10 G m) (hT : (∀ a j, jRg (G.2.1 a).1 (I a j)) → jIn x1 → (0 ≤ I m 29 ∧ I m 30 ≤ 300) ∧ ((¬ (rnx I m) = 39 → jIn ((I m 29) + 1) ∧ (∀ M3, M3 = jup I m 29 ((I m 29) + 1) → ((¬ (rnx I m) = 95 → (0 ≤ M3 m 29 ∧ M3 m 30 ≤ 300) ∧ (((nmd (rnx M3 m)) → (0 ≤ M3 m 29 ∧ M3 m 30 ≤ 300) ∧ jIn ((rnx M3 m) - 97) ∧ jRV E (jA m) kX10_come [VR m, VI x1, VI (sby (rnx I m)), VI ((rnx M3 m) - 97), VI 0] G M3 (fun I12 => jIn ((I12 m 29) + 1) ∧ (∀ M13, M13 = jup I12 m 29 ((I12 m 29) + 1) → q 1 M13))) ∧ (¬ (nmd (rnx M3 m)) → jRI E (jA m) kX10_isWrong [VR m, VI 1, VI ((I m 29) + 1)] G M3 (fun r16 I15 => (0 ≤ r16 ∧ r16 ≤ 1) ∧ q r16 I15)))) ∧ ((rnx I m) = 95 → jRV E (jA m) kX10_come [VR m, VI x1, VI 3, VI 0, VI 0] G M3 (fun I19 => q 1 I19))))) ∧ ((rnx I m) = 39 → jRI E (jA m) kX10_readBytes [VR m, VI x1, VI 1] G I (fun r21 I20 => (0 ≤ r21 ∧ r21 ≤ 1) ∧ q r21 I20)))) : jRI E (jA m) kX10_readElement [VR m, VI x1] G I q := jRun.of mt_X10_readElement.2.2.2 1 rfl (fun _ => st_X10_readElement_0 hm hT I (fun _ _ => rfl))
set_option maxRecDepth 20000 in
theorem st_X10_readPart_0 {E : jE} {G : jG} {I : jM} {q : Int → jM → Prop} {m : Nat} {x1 : Int} {x2 : Int} (hm : WX10 G m) (hT : (∀ a j, jRg (G.2.1 a).1 (I a j)) → jIn x1 → jIn x2 → (0 ≤ I m 29 ∧ I m 30 ≤ 300) ∧ ((¬ (rnx I m) = 39 → ((¬ (sby (rnx I m)) = (-1) → (0 ≤ I m 29 ∧ I m 30 ≤ 300) ∧ jIn ((I m 29) + 1) ∧ (∀ M7, M7 = jup I m 29 ((I m 29) + 1) → (0 ≤ M7 m 29 ∧ M7 m 30 ≤ 300) ∧ (((nmd (rnx M7 m)) → (0 ≤ M7 m 29 ∧ M7 m 30 ≤ 300) ∧ jIn ((rnx M7 m) - 97) ∧ jRI E (jA m) kX10_isNamed [VR m, VI x1, VI (sby (rnx I m)), VI ((rnx M7 m) - 97)] G M7 (fun r16 I15 => ((¬ r16 = 0 → ((¬ (rnx I m) = 43 → ((¬ (rnx I m) = 45 → ((¬ (rnx I m) = 126 → jRV E (jA m) kX10_come [VR m, VI x2, VI (sby (rnx I m)), VI ((rnx M7 m) - 97), VI 0] G I15 (fun I18 => jIn ((I18 m 29) + 1) ∧ (∀ M19, M19 = jup I18 m 29 ((I18 m 29) + 1) → q 1 M19))) ∧ ((rnx I m) = 126 → jRV E (jA m) kX10_come [VR m, VI x2, VI 7, VI ((rnx M7 m) - 97), VI 0] G I15 (fun I21 => jIn ((I21 m 29) + 1) ∧ (∀ M22, M22 = jup I21 m 29 ((I21 m 29) + 1) → q 1 M22))))) ∧ ((rnx I m) = 45 → jRV E (jA m) kX10_come [VR m, VI x2, VI 6, VI ((rnx M7 m) - 97), VI 0] G I15 (fun I24 => jIn ((I24 m 29) + 1) ∧ (∀ M25, M25 = jup I24 m 29 ((I24 m 29) + 1) → q 1 M25))))) ∧ ((rnx I m) = 43 → jRV E (jA m) kX10_come [VR m, VI x2, VI 5, VI ((rnx M7 m) - 97), VI 0] G I15 (fun I27 => jIn ((I27 m 29) + 1) ∧ (∀ M28, M28 = jup I27 m 29 ((I27 m 29) + 1) → q 1 M28))))) ∧ (r16 = 0 → jRI E (jA m) kX10_isWrong [VR m, VI 5, VI (I m 29)] G I15 (fun r31 I30 => (0 ≤ r31 ∧ r31 ≤ 1) ∧ q r31 I30))))) ∧ (¬ (nmd (rnx M7 m)) → jRI E (jA m) kX10_isWrong [VR m, VI 1, VI ((I m 29) + 1)] G M7 (fun r35 I34 => (0 ≤ r35 ∧ r35 ≤ 1) ∧ q r35 I34))))) ∧ ((sby (rnx I m)) = (-1) → jIn ((I m 29) + 1) ∧ (∀ M38, M38 = jup I m 29 ((I m 29) + 1) → (0 ≤ M38 m 29 ∧ M38 m 30 ≤ 300) ∧ ((¬ (rnx I m) = 126 → (((sby (rnx M38 m)) = 1 → jIn (((I m 29) + 1) + 1) ∧ (∀ M43, M43 = jup M38 m 29 (((I m 29) + 1) + 1) → (0 ≤ M43 m 29 ∧ M43 m 30 ≤ 300) ∧ (((nmd (rnx M43 m)) → (0 ≤ M43 m 29 ∧ M43 m 30 ≤ 300) ∧ jIn ((rnx M43 m) - 97) ∧ jRI E (jA m) kX10_isNamed [VR m, VI x1, VI (sby (rnx M38 m)), VI ((rnx M43 m) - 97)] G M43 (fun r52 I51 => ((¬ r52 = 0 → ((¬ (rnx I m) = 43 → ((¬ (rnx I m) = 45 → ((¬ (rnx I m) = 126 → jRV E (jA m) kX10_come [VR m, VI x2, VI (sby (rnx M38 m)), VI ((rnx M43 m) - 97), VI 0] G I51 (fun I54 => jIn ((I54 m 29) + 1) ∧ (∀ M55, M55 = jup I54 m 29 ((I54 m 29) + 1) → q 1 M55))) ∧ ((rnx I m) = 126 → jRV E (jA m) kX10_come [VR m, VI x2, VI 7, VI ((rnx M43 m) - 97), VI 0] G I51 (fun I57 => jIn ((I57 m 29) + 1) ∧ (∀ M58, M58 = jup I57 m 29 ((I57 m 29) + 1) → q 1 M58))))) ∧ ((rnx I m) = 45 → jRV E (jA m) kX10_come [VR m, VI x2, VI 6, VI ((rnx M43 m) - 97), VI 0] G I51 (fun I60 => jIn ((I60 m 29) + 1) ∧ (∀ M61, M61 = jup I60 m 29 ((I60 m 29) + 1) → q 1 M61))))) ∧ ((rnx I m) = 43 → jRV E (jA m) kX10_come [VR m, VI x2, VI 5, VI ((rnx M43 m) - 97), VI 0] G I51 (fun I63 => jIn ((I63 m 29) + 1) ∧ (∀ M64, M64 = jup I63 m 29 ((I63 m 29) + 1) → q 1 M64))))) ∧ (r52 = 0 → jRI E (jA m) kX10_isWrong [VR m, VI 5, VI ((I m 29) + 1)] G I51 (fun r67 I66 => (0 ≤ r67 ∧ r67 ≤ 1) ∧ q r67 I66))))) ∧ (¬ (nmd (rnx M43 m)) → jRI E (jA m) kX10_isWrong [VR m, VI 1, VI (((I m 29) + 1) + 1)] G M43 (fun r71 I70 => (0 ≤ r71 ∧ r71 ≤ 1) ∧ q r71 I70))))) ∧ (¬ (sby (rnx M38 m)) = 1 → jRI E (jA m) kX10_isWrong [VR m, VI 1, VI ((I m 29) + 1)] G M38 (fun r75 I74 => (0 ≤ r75 ∧ r75 ≤ 1) ∧ q r75 I74)))) ∧ ((rnx I m) = 126 → (((sby (rnx M38 m)) = 0 → jIn (((I m 29) + 1) + 1) ∧ (∀ M78, M78 = jup M38 m 29 (((I m 29) + 1) + 1) → (0 ≤ M78 m 29 ∧ M78 m 30 ≤ 300) ∧ (((nmd (rnx M78 m)) → (0 ≤ M78 m 29 ∧ M78 m 30 ≤ 300) ∧ jIn ((rnx M78 m) - 97) ∧ jRI E (jA m) kX10_isNamed [VR m, VI x1, VI (sby (rnx M38 m)), VI ((rnx M78 m) - 97)] G M78 (fun r87 I86 => ((¬ r87 = 0 → ((¬ (rnx I m) = 43 → ((¬ (rnx I m) = 45 → ((¬ (rnx I m) = 126 → jRV E (jA m) kX10_come [VR m, VI x2, VI (sby (rnx M38 m)), VI ((rnx M78 m) - 97), VI 0] G I86 (fun I89 => jIn ((I89 m 29) + 1) ∧ (∀ M90, M90 = jup I89 m 29 ((I89 m 29) + 1) → q 1 M90))) ∧ ((rnx I m) = 126 → jRV E (jA m) kX10_come [VR m, VI x2, VI 7, VI ((rnx M78 m) - 97), VI 0] G I86 (fun I92 => jIn ((I92 m 29) + 1) ∧ (∀ M93, M93 = jup I92 m 29 ((I92 m 29) + 1) → q 1 M93))))) ∧ ((rnx I m) = 45 → jRV E (jA m) kX10_come [VR m, VI x2, VI 6, VI ((rnx M78 m) - 97), VI 0] G I86 (fun I95 => jIn ((I95 m 29) + 1) ∧ (∀ M96, M96 = jup I95 m 29 ((I95 m 29) + 1) → q 1 M96))))) ∧ ((rnx I m) = 43 → jRV E (jA m) kX10_come [VR m, VI x2, VI 5, VI ((rnx M78 m) - 97), VI 0] G I86 (fun I98 => jIn ((I98 m 29) + 1) ∧ (∀ M99, M99 = jup I98 m 29 ((I98 m 29) + 1) → q 1 M99))))) ∧ (r87 = 0 → jRI E (jA m) kX10_isWrong [VR m, VI 5, VI ((I m 29) + 1)] G I86 (fun r102 I101 => (0 ≤ r102 ∧ r102 ≤ 1) ∧ q r102 I101))))) ∧ (¬ (nmd (rnx M78 m)) → jRI E (jA m) kX10_isWrong [VR m, VI 1, VI (((I m 29) + 1) + 1)] G M78 (fun r106 I105 => (0 ≤ r106 ∧ r106 ≤ 1) ∧ q r106 I105))))) ∧ (¬ (sby (rnx M38 m)) = 0 → jRI E (jA m) kX10_isWrong [VR m, VI 1, VI ((I m 29) + 1)] G M38 (fun r110 I109 => (0 ≤ r110 ∧ r110 ≤ 1) ∧ q r110 I109))))))))) ∧ ((rnx I m) = 39 → jRI E (jA m) kX10_readBytes [VR m, VI x2, VI 0] G I (fun r114 I113 => (0 ≤ r114 ∧ r114 ≤ 1) ∧ q r114 I113)))) : jOI E (jA m) kX10_readPart 0 [VR m, VI x1, VI x2, VN, VN, VN, VN, VN] G I q := by
  intro I0 hF
  refine jOk_mem (fun hI => ?_)
  refine jOk_in (i := 1) rfl (fun hx1 => ?_)
  refine jOk_in (i := 2) rfl (fun hx2 => ?_)
  replace hT := hT hI hx1 hx2
  refine r_aload_n dX10_readPart_0 rfl (i := 0) rfl ?_
  obtain ⟨hc2, hT⟩ := hT
  refine rr_pVI (A := (jA m)) (v := rnx I m) (a := m) (as := []) (st := []) dX10_readPart_1 mt_X10_next ml_X10_262 mi_X10_next rm_X10_readPart_X10_next jz_X10_next ⟨Nat.zero_le _, Nat.zero_le _⟩ (Nat.le_of_ble_eq_true rfl) (wX10_l hm) (wX10_c hm) jas0 ((sp_X10_next hm) hc2) (fun hc1 => ?_)
  refine rr_istore_n (i := 3) (ls' := [VR m, VI x1, VI x2, VI (rnx I m), VN, VN, VN, VN]) dX10_readPart_4 rfl (Nat.le_of_ble_eq_true rfl) rfl rfl hc1 ?_
  refine r_iload_n dX10_readPart_5 rfl (i := 3) rfl ?_
  refine r_bipush (n := 39) dX10_readPart_6 (by decide +kernel) ?_
  refine r_icmp_ne (tgt := 18) dX10_readPart_8 rfl hc1 ⟨by decide, by decide⟩ (fun hcc => ?_) (fun hcc => ?_)
  · replace hT := hT.1 hcc
    refine r_iload_n dX10_readPart_18 rfl (i := 3) rfl ?_
    refine rr_pSI (A := (jA m)) (v := sby (rnx I m)) (as := [VI (rnx I m)]) (st := []) dX10_readPart_19 mt_X10_sortBy ml_X10_276 ms_X10_sortBy rm_X10_readPart_X10_sortBy jz_X10_sortBy ⟨Nat.zero_le _, Nat.zero_le _⟩ (Nat.le_of_ble_eq_true rfl) (jasI hc1 jas0) sp_X10_sortBy (fun hc3 => ?_)
    refine r_iconst (n := (-1)) dX10_readPart_22 ?_
    refine r_icmp_ne (tgt := 30) dX10_readPart_23 rfl hc3 ⟨by decide, by decide⟩ (fun hcc => ?_) (fun hcc => ?_)
    · replace hT := hT.1 hcc
      refine r_iconst (n := 0) dX10_readPart_30 ?_
      refine rr_istore (i := 4) (ls' := [VR m, VI x1, VI x2, VI (rnx I m), VI 0, VN, VN, VN]) dX10_readPart_31 (Nat.le_of_ble_eq_true rfl) rfl rfl ⟨by decide, by decide⟩ ?_
      refine r_iload dX10_readPart_33 (i := 4) rfl ?_
      refine r_if_eq (tgt := 48) dX10_readPart_35 rfl ⟨by decide, by decide⟩ (fun hcc => ?_) (fun hcc => ?_)
      · skip
        refine r_aload_n dX10_readPart_48 rfl (i := 0) rfl ?_
        obtain ⟨hc5, hT⟩ := hT
        refine rr_pVI (A := (jA m)) (v := rnx I m) (a := m) (as := []) (st := []) dX10_readPart_49 mt_X10_next ml_X10_262 mi_X10_next rm_X10_readPart_X10_next jz_X10_next ⟨Nat.zero_le _, Nat.zero_le _⟩ (Nat.le_of_ble_eq_true rfl) (wX10_l hm) (wX10_c hm) jas0 ((sp_X10_next hm) hc5) (fun hc4 => ?_)
        refine rr_pSI (A := (jA m)) (v := sby (rnx I m)) (as := [VI (rnx I m)]) (st := []) dX10_readPart_52 mt_X10_sortBy ml_X10_276 ms_X10_sortBy rm_X10_readPart_X10_sortBy jz_X10_sortBy ⟨Nat.zero_le _, Nat.zero_le _⟩ (Nat.le_of_ble_eq_true rfl) (jasI hc4 jas0) sp_X10_sortBy (fun hc6 => ?_)
        refine rr_istore (i := 5) (ls' := [VR m, VI x1, VI x2, VI (rnx I m), VI 0, VI (sby (rnx I m)), VN, VN]) dX10_readPart_55 (Nat.le_of_ble_eq_true rfl) rfl rfl hc6 ?_
        refine r_iload dX10_readPart_57 (i := 4) rfl ?_
        refine r_if_eq (tgt := 88) dX10_readPart_59 rfl ⟨by decide, by decide⟩ (fun hcc => ?_) (fun hcc => ?_)
        · skip
          refine r_aload_n dX10_readPart_88 rfl (i := 0) rfl ?_
          refine rr_getI (v := I m 29) dX10_readPart_89 fg_X10_253 rfl (wX10_l hm) (wX10_s hm) rfl ?_
          refine rr_istore (i := 6) (ls' := [VR m, VI x1, VI x2, VI (rnx I m), VI 0, VI (sby (rnx I m)), VI (I m 29), VN]) dX10_readPart_92 (Nat.le_of_ble_eq_true rfl) rfl rfl (hI _ _).inR ?_
          refine r_aload_n dX10_readPart_94 rfl (i := 0) rfl ?_
          refine r_dup dX10_readPart_95 rfl ?_
          refine rr_getI (v := I m 29) dX10_readPart_96 fg_X10_253 rfl (wX10_l hm) (wX10_s hm) rfl ?_
          refine r_iconst (n := 1) dX10_readPart_99 ?_
          refine r_iadd dX10_readPart_100 ?_
          obtain ⟨hc8, hT⟩ := hT
          refine rr_putI (jj := 29) dX10_readPart_101 fp_X10_253 rfl rfl (wX10_l hm) (wX10_s hm) hc8 (fun M7 eM7 => ?_)
          have hFM7 := jFr_up hF eM7 (wX10_f hm 0 (by decide))
          replace hT := hT M7 eM7
          refine jOk_mem (fun hIM7 => ?_)
          refine r_aload_n dX10_readPart_104 rfl (i := 0) rfl ?_
          obtain ⟨hc10, hT⟩ := hT
          refine rr_pVI (A := (jA m)) (v := rnx M7 m) (a := m) (as := []) (st := []) dX10_readPart_105 mt_X10_next ml_X10_262 mi_X10_next rm_X10_readPart_X10_next jz_X10_next ⟨Nat.zero_le _, Nat.zero_le _⟩ (Nat.le_of_ble_eq_true rfl) (wX10_l hm) (wX10_c hm) jas0 ((sp_X10_next hm) hc10) (fun hc9 => ?_)
          refine rr_pSI (A := (jA m)) (v := jI (nmd (rnx M7 m))) (as := [VI (rnx M7 m)]) (st := []) dX10_readPart_108 mt_X10_isName ml_X10_283 ms_X10_isName rm_X10_readPart_X10_isName jz_X10_isName ⟨Nat.zero_le _, Nat.zero_le _⟩ (Nat.le_of_ble_eq_true rfl) (jasI hc9 jas0) sp_X10_isName (fun hc11 => ?_)
          refine r_if_ne (tgt := 124) dX10_readPart_111 rfl hc11 (fun hcc => ?_) (fun hcc => ?_)
          · replace hT := hT.1 (jI_p hcc)
            refine r_aload_n dX10_readPart_124 rfl (i := 0) rfl ?_
            obtain ⟨hc13, hT⟩ := hT
            refine rr_pVI (A := (jA m)) (v := rnx M7 m) (a := m) (as := []) (st := []) dX10_readPart_125 mt_X10_next ml_X10_262 mi_X10_next rm_X10_readPart_X10_next jz_X10_next ⟨Nat.zero_le _, Nat.zero_le _⟩ (Nat.le_of_ble_eq_true rfl) (wX10_l hm) (wX10_c hm) jas0 ((sp_X10_next hm) hc13) (fun hc12 => ?_)
            refine r_bipush (n := 97) dX10_readPart_128 (by decide +kernel) ?_
            refine r_isub dX10_readPart_130 ?_
            obtain ⟨hc14, hT⟩ := hT
            refine rr_istore (i := 7) (ls' := [VR m, VI x1, VI x2, VI (rnx I m), VI 0, VI (sby (rnx I m)), VI (I m 29), VI ((rnx M7 m) - 97)]) dX10_readPart_131 (Nat.le_of_ble_eq_true rfl) rfl rfl hc14 ?_
            refine r_aload_n dX10_readPart_133 rfl (i := 0) rfl ?_
            refine r_iload_n dX10_readPart_134 rfl (i := 1) rfl ?_
            refine r_iload dX10_readPart_135 (i := 5) rfl ?_
            refine r_iload dX10_readPart_137 (i := 7) rfl ?_
            refine rr_cVI (a := m) (as := [VI x1, VI (sby (rnx I m)), VI ((rnx M7 m) - 97)]) (st := []) dX10_readPart_139 mt_X10_isNamed ml_X10_286 mi_X10_isNamed rm_X10_readPart_X10_isNamed jz_X10_isNamed ⟨Nat.zero_le _, Nat.zero_le _⟩ (Nat.le_of_ble_eq_true rfl) (wX10_l hm) (wX10_c hm) (jasI hx1 (jasI hc6 (jasI hc14 jas0))) hT (fun r16 I15 hc17 hFI15 hT => ?_)
            replace hFI15 := jFr_tr hFM7 hFI15
            refine jOk_mem (fun hI15 => ?_)
            refine r_if_ne (tgt := 153) dX10_readPart_142 rfl hc17 (fun hcc => ?_) (fun hcc => ?_)
            · replace hT := hT.1 hcc
              refine r_aload_n dX10_readPart_153 rfl (i := 0) rfl ?_
              refine r_iload_n dX10_readPart_154 rfl (i := 2) rfl ?_
              refine r_iload_n dX10_readPart_155 rfl (i := 3) rfl ?_
              refine r_bipush (n := 43) dX10_readPart_156 (by decide +kernel) ?_
              refine r_icmp_ne (tgt := 165) dX10_readPart_158 rfl hc1 ⟨by decide, by decide⟩ (fun hcc => ?_) (fun hcc => ?_)
              · replace hT := hT.1 hcc
                refine r_iload_n dX10_readPart_165 rfl (i := 3) rfl ?_
                refine r_bipush (n := 45) dX10_readPart_166 (by decide +kernel) ?_
                refine r_icmp_ne (tgt := 176) dX10_readPart_168 rfl hc1 ⟨by decide, by decide⟩ (fun hcc => ?_) (fun hcc => ?_)
                · replace hT := hT.1 hcc
                  refine r_iload_n dX10_readPart_176 rfl (i := 3) rfl ?_
                  refine r_bipush (n := 126) dX10_readPart_177 (by decide +kernel) ?_
                  refine r_icmp_ne (tgt := 187) dX10_readPart_179 rfl hc1 ⟨by decide, by decide⟩ (fun hcc => ?_) (fun hcc => ?_)
                  · replace hT := hT.1 hcc
                    refine r_iload dX10_readPart_187 (i := 5) rfl ?_
                    refine r_iload dX10_readPart_189 (i := 7) rfl ?_
                    refine r_iconst (n := 0) dX10_readPart_191 ?_
                    refine rr_cVV (a := m) (as := [VI x2, VI (sby (rnx I m)), VI ((rnx M7 m) - 97), VI 0]) (st := []) dX10_readPart_192 mt_X10_come ml_X10_272 mi_X10_come rm_X10_readPart_X10_come jz_X10_come ⟨Nat.zero_le _, Nat.zero_le _⟩ (Nat.le_of_ble_eq_true rfl) (wX10_l hm) (wX10_c hm) (jasI hx2 (jasI hc6 (jasI hc14 (jasI ⟨by decide, by decide⟩ jas0)))) hT (fun I18 hFI18 hT => ?_)
                    replace hFI18 := jFr_tr hFI15 hFI18
                    refine jOk_mem (fun hI18 => ?_)
                    refine r_aload_n dX10_readPart_195 rfl (i := 0) rfl ?_
                    refine r_dup dX10_readPart_196 rfl ?_
                    refine rr_getI (v := I18 m 29) dX10_readPart_197 fg_X10_253 rfl (wX10_l hm) (wX10_s hm) rfl ?_
                    refine r_iconst (n := 1) dX10_readPart_200 ?_
                    refine r_iadd dX10_readPart_201 ?_
                    obtain ⟨hc20, hT⟩ := hT
                    refine rr_putI (jj := 29) dX10_readPart_202 fp_X10_253 rfl rfl (wX10_l hm) (wX10_s hm) hc20 (fun M19 eM19 => ?_)
                    have hFM19 := jFr_up hFI18 eM19 (wX10_f hm 0 (by decide))
                    replace hT := hT M19 eM19
                    refine jOk_mem (fun hIM19 => ?_)
                    refine r_iconst (n := 1) dX10_readPart_205 ?_
                    exact r_zret dX10_readPart_206 rfl ⟨by decide, by decide⟩ ⟨Nat.zero_le _, Nat.zero_le _⟩ ⟨_, rfl, rfl, hFM19, hT⟩
                  · replace hT := hT.2 hcc
                    refine r_bipush (n := 7) dX10_readPart_182 (by decide +kernel) ?_
                    refine r_goto (tgt := 189) dX10_readPart_184 rfl ?_
                    refine r_iload dX10_readPart_189 (i := 7) rfl ?_
                    refine r_iconst (n := 0) dX10_readPart_191 ?_
                    refine rr_cVV (a := m) (as := [VI x2, VI 7, VI ((rnx M7 m) - 97), VI 0]) (st := []) dX10_readPart_192 mt_X10_come ml_X10_272 mi_X10_come rm_X10_readPart_X10_come jz_X10_come ⟨Nat.zero_le _, Nat.zero_le _⟩ (Nat.le_of_ble_eq_true rfl) (wX10_l hm) (wX10_c hm) (jasI hx2 (jasI ⟨by decide, by decide⟩ (jasI hc14 (jasI ⟨by decide, by decide⟩ jas0)))) hT (fun I21 hFI21 hT => ?_)
                    replace hFI21 := jFr_tr hFI15 hFI21
                    refine jOk_mem (fun hI21 => ?_)
                    refine r_aload_n dX10_readPart_195 rfl (i := 0) rfl ?_
                    refine r_dup dX10_readPart_196 rfl ?_
                    refine rr_getI (v := I21 m 29) dX10_readPart_197 fg_X10_253 rfl (wX10_l hm) (wX10_s hm) rfl ?_
                    refine r_iconst (n := 1) dX10_readPart_200 ?_
                    refine r_iadd dX10_readPart_201 ?_
                    obtain ⟨hc23, hT⟩ := hT
                    refine rr_putI (jj := 29) dX10_readPart_202 fp_X10_253 rfl rfl (wX10_l hm) (wX10_s hm) hc23 (fun M22 eM22 => ?_)
                    have hFM22 := jFr_up hFI21 eM22 (wX10_f hm 0 (by decide))
                    replace hT := hT M22 eM22
                    refine jOk_mem (fun hIM22 => ?_)
                    refine r_iconst (n := 1) dX10_readPart_205 ?_
                    exact r_zret dX10_readPart_206 rfl ⟨by decide, by decide⟩ ⟨Nat.zero_le _, Nat.zero_le _⟩ ⟨_, rfl, rfl, hFM22, hT⟩
                · replace hT := hT.2 hcc
                  refine r_bipush (n := 6) dX10_readPart_171 (by decide +kernel) ?_
                  refine r_goto (tgt := 189) dX10_readPart_173 rfl ?_
                  refine r_iload dX10_readPart_189 (i := 7) rfl ?_
                  refine r_iconst (n := 0) dX10_readPart_191 ?_
                  refine rr_cVV (a := m) (as := [VI x2, VI 6, VI ((rnx M7 m) - 97), VI 0]) (st := []) dX10_readPart_192 mt_X10_come ml_X10_272 mi_X10_come rm_X10_readPart_X10_come jz_X10_come ⟨Nat.zero_le _, Nat.zero_le _⟩ (Nat.le_of_ble_eq_true rfl) (wX10_l hm) (wX10_c hm) (jasI hx2 (jasI ⟨by decide, by decide⟩ (jasI hc14 (jasI ⟨by decide, by decide⟩ jas0)))) hT (fun I24 hFI24 hT => ?_)
                  replace hFI24 := jFr_tr hFI15 hFI24
                  refine jOk_mem (fun hI24 => ?_)
                  refine r_aload_n dX10_readPart_195 rfl (i := 0) rfl ?_
                  refine r_dup dX10_readPart_196 rfl ?_
                  refine rr_getI (v := I24 m 29) dX10_readPart_197 fg_X10_253 rfl (wX10_l hm) (wX10_s hm) rfl ?_
                  refine r_iconst (n := 1) dX10_readPart_200 ?_
                  refine r_iadd dX10_readPart_201 ?_
                  obtain ⟨hc26, hT⟩ := hT
                  refine rr_putI (jj := 29) dX10_readPart_202 fp_X10_253 rfl rfl (wX10_l hm) (wX10_s hm) hc26 (fun M25 eM25 => ?_)
                  have hFM25 := jFr_up hFI24 eM25 (wX10_f hm 0 (by decide))
                  replace hT := hT M25 eM25
                  refine jOk_mem (fun hIM25 => ?_)
                  refine r_iconst (n := 1) dX10_readPart_205 ?_
                  exact r_zret dX10_readPart_206 rfl ⟨by decide, by decide⟩ ⟨Nat.zero_le _, Nat.zero_le _⟩ ⟨_, rfl, rfl, hFM25, hT⟩
              · replace hT := hT.2 hcc
                refine r_iconst (n := 5) dX10_readPart_161 ?_
                refine r_goto (tgt := 189) dX10_readPart_162 rfl ?_
                refine r_iload dX10_readPart_189 (i := 7) rfl ?_
                refine r_iconst (n := 0) dX10_readPart_191 ?_
                refine rr_cVV (a := m) (as := [VI x2, VI 5, VI ((rnx M7 m) - 97), VI 0]) (st := []) dX10_readPart_192 mt_X10_come ml_X10_272 mi_X10_come rm_X10_readPart_X10_come jz_X10_come ⟨Nat.zero_le _, Nat.zero_le _⟩ (Nat.le_of_ble_eq_true rfl) (wX10_l hm) (wX10_c hm) (jasI hx2 (jasI ⟨by decide, by decide⟩ (jasI hc14 (jasI ⟨by decide, by decide⟩ jas0)))) hT (fun I27 hFI27 hT => ?_)
                replace hFI27 := jFr_tr hFI15 hFI27
                refine jOk_mem (fun hI27 => ?_)
                refine r_aload_n dX10_readPart_195 rfl (i := 0) rfl ?_
                refine r_dup dX10_readPart_196 rfl ?_
                refine rr_getI (v := I27 m 29) dX10_readPart_197 fg_X10_253 rfl (wX10_l hm) (wX10_s hm) rfl ?_
                refine r_iconst (n := 1) dX10_readPart_200 ?_
                refine r_iadd dX10_readPart_201 ?_
                obtain ⟨hc29, hT⟩ := hT
                refine rr_putI (jj := 29) dX10_readPart_202 fp_X10_253 rfl rfl (wX10_l hm) (wX10_s hm) hc29 (fun M28 eM28 => ?_)
                have hFM28 := jFr_up hFI27 eM28 (wX10_f hm 0 (by decide))
                replace hT := hT M28 eM28
                refine jOk_mem (fun hIM28 => ?_)
                refine r_iconst (n := 1) dX10_readPart_205 ?_
                exact r_zret dX10_readPart_206 rfl ⟨by decide, by decide⟩ ⟨Nat.zero_le _, Nat.zero_le _⟩ ⟨_, rfl, rfl, hFM28, hT⟩
            · replace hT := hT.2 hcc
              refine r_aload_n dX10_readPart_145 rfl (i := 0) rfl ?_
              refine r_iconst (n := 5) dX10_readPart_146 ?_
              refine r_iload dX10_readPart_147 (i := 6) rfl ?_
              refine rr_cVI (a := m) (as := [VI 5, VI (I m 29)]) (st := []) dX10_readPart_149 mt_X10_isWrong ml_X10_266 mi_X10_isWrong rm_X10_readPart_X10_isWrong jz_X10_isWrong ⟨Nat.zero_le _, Nat.zero_le _⟩ (Nat.le_of_ble_eq_true rfl) (wX10_l hm) (wX10_c hm) (jasI ⟨by decide, by decide⟩ (jasI (hI _ _).inR jas0)) hT (fun r31 I30 hc32 hFI30 hT => ?_)
              replace hFI30 := jFr_tr hFI15 hFI30
              refine jOk_mem (fun hI30 => ?_)
              obtain ⟨hc33, hT⟩ := hT
              exact r_zret dX10_readPart_152 rfl hc33 ⟨Nat.zero_le _, Nat.zero_le _⟩ ⟨_, rfl, rfl, hFI30, hT⟩
          · replace hT := hT.2 (jI_n hcc)
            refine r_aload_n dX10_readPart_114 rfl (i := 0) rfl ?_
            refine r_iconst (n := 1) dX10_readPart_115 ?_
            refine r_aload_n dX10_readPart_116 rfl (i := 0) rfl ?_
            refine rr_getI (v := (I m 29) + 1) dX10_readPart_117 fg_X10_253 rfl (wX10_l hm) (wX10_s hm) (jr_eq eM7) ?_
            refine rr_cVI (a := m) (as := [VI 1, VI ((I m 29) + 1)]) (st := []) dX10_readPart_120 mt_X10_isWrong ml_X10_266 mi_X10_isWrong rm_X10_readPart_X10_isWrong jz_X10_isWrong ⟨Nat.zero_le _, Nat.zero_le _⟩ (Nat.le_of_ble_eq_true rfl) (wX10_l hm) (wX10_c hm) (jasI ⟨by decide, by decide⟩ (jasI hc8 jas0)) hT (fun r35 I34 hc36 hFI34 hT => ?_)
            replace hFI34 := jFr_tr hFM7 hFI34
            refine jOk_mem (fun hI34 => ?_)
            obtain ⟨hc37, hT⟩ := hT
            exact r_zret dX10_readPart_123 rfl hc37 ⟨Nat.zero_le _, Nat.zero_le _⟩ ⟨_, rfl, rfl, hFI34, hT⟩
        · exact absurd hcc (by decide)
      · exact absurd hcc (by decide)
    · replace hT := hT.2 hcc
      refine r_iconst (n := 1) dX10_readPart_26 ?_
      refine r_goto (tgt := 31) dX10_readPart_27 rfl ?_
      refine rr_istore (i := 4) (ls' := [VR m, VI x1, VI x2, VI (rnx I m), VI 1, VN, VN, VN]) dX10_readPart_31 (Nat.le_of_ble_eq_true rfl) rfl rfl ⟨by decide, by decide⟩ ?_
      refine r_iload dX10_readPart_33 (i := 4) rfl ?_
      refine r_if_eq (tgt := 48) dX10_readPart_35 rfl ⟨by decide, by decide⟩ (fun hcc => ?_) (fun hcc => ?_)
      · exact absurd hcc (by decide)
      · skip
        refine r_aload_n dX10_readPart_38 rfl (i := 0) rfl ?_
        refine r_dup dX10_readPart_39 rfl ?_
        refine rr_getI (v := I m 29) dX10_readPart_40 fg_X10_253 rfl (wX10_l hm) (wX10_s hm) rfl ?_
        refine r_iconst (n := 1) dX10_readPart_43 ?_
        refine r_iadd dX10_readPart_44 ?_
        obtain ⟨hc39, hT⟩ := hT
        refine rr_putI (jj := 29) dX10_readPart_45 fp_X10_253 rfl rfl (wX10_l hm) (wX10_s hm) hc39 (fun M38 eM38 => ?_)
        have hFM38 := jFr_up hF eM38 (wX10_f hm 0 (by decide))
        replace hT := hT M38 eM38
        refine jOk_mem (fun hIM38 => ?_)
        refine r_aload_n dX10_readPart_48 rfl (i := 0) rfl ?_
        obtain ⟨hc41, hT⟩ := hT
        refine rr_pVI (A := (jA m)) (v := rnx M38 m) (a := m) (as := []) (st := []) dX10_readPart_49 mt_X10_next ml_X10_262 mi_X10_next rm_X10_readPart_X10_next jz_X10_next ⟨Nat.zero_le _, Nat.zero_le _⟩ (Nat.le_of_ble_eq_true rfl) (wX10_l hm) (wX10_c hm) jas0 ((sp_X10_next hm) hc41) (fun hc40 => ?_)
        refine rr_pSI (A := (jA m)) (v := sby (rnx M38 m)) (as := [VI (rnx M38 m)]) (st := []) dX10_readPart_52 mt_X10_sortBy ml_X10_276 ms_X10_sortBy rm_X10_readPart_X10_sortBy jz_X10_sortBy ⟨Nat.zero_le _, Nat.zero_le _⟩ (Nat.le_of_ble_eq_true rfl) (jasI hc40 jas0) sp_X10_sortBy (fun hc42 => ?_)
        refine rr_istore (i := 5) (ls' := [VR m, VI x1, VI x2, VI (rnx I m), VI 1, VI (sby (rnx M38 m)), VN, VN]) dX10_readPart_55 (Nat.le_of_ble_eq_true rfl) rfl rfl hc42 ?_
        refine r_iload dX10_readPart_57 (i := 4) rfl ?_
        refine r_if_eq (tgt := 88) dX10_readPart_59 rfl ⟨by decide, by decide⟩ (fun hcc => ?_) (fun hcc => ?_)
        · exact absurd hcc (by decide)
        · skip
          refine r_iload dX10_readPart_62 (i := 5) rfl ?_
          refine r_iload_n dX10_readPart_64 rfl (i := 3) rfl ?_
          refine r_bipush (n := 126) dX10_readPart_65 (by decide +kernel) ?_
          refine r_icmp_ne (tgt := 74) dX10_readPart_67 rfl hc1 ⟨by decide, by decide⟩ (fun hcc => ?_) (fun hcc => ?_)
          · replace hT := hT.1 hcc
            refine r_iconst (n := 1) dX10_readPart_74 ?_
            refine r_icmp_eq (tgt := 88) dX10_readPart_75 rfl hc42 ⟨by decide, by decide⟩ (fun hcc => ?_) (fun hcc => ?_)
            · replace hT := hT.1 hcc
              refine r_aload_n dX10_readPart_88 rfl (i := 0) rfl ?_
              refine rr_getI (v := (I m 29) + 1) dX10_readPart_89 fg_X10_253 rfl (wX10_l hm) (wX10_s hm) (jr_eq eM38) ?_
              refine rr_istore (i := 6) (ls' := [VR m, VI x1, VI x2, VI (rnx I m), VI 1, VI (sby (rnx M38 m)), VI ((I m 29) + 1), VN]) dX10_readPart_92 (Nat.le_of_ble_eq_true rfl) rfl rfl hc39 ?_
              refine r_aload_n dX10_readPart_94 rfl (i := 0) rfl ?_
              refine r_dup dX10_readPart_95 rfl ?_
              refine rr_getI (v := (I m 29) + 1) dX10_readPart_96 fg_X10_253 rfl (wX10_l hm) (wX10_s hm) (jr_eq eM38) ?_
              refine r_iconst (n := 1) dX10_readPart_99 ?_
              refine r_iadd dX10_readPart_100 ?_
              obtain ⟨hc44, hT⟩ := hT
              refine rr_putI (jj := 29) dX10_readPart_101 fp_X10_253 rfl rfl (wX10_l hm) (wX10_s hm) hc44 (fun M43 eM43 => ?_)
              have hFM43 := jFr_up hFM38 eM43 (wX10_f hm 0 (by decide))
              replace hT := hT M43 eM43
              refine jOk_mem (fun hIM43 => ?_)
              refine r_aload_n dX10_readPart_104 rfl (i := 0) rfl ?_
              obtain ⟨hc46, hT⟩ := hT
              refine rr_pVI (A := (jA m)) (v := rnx M43 m) (a := m) (as := []) (st := []) dX10_readPart_105 mt_X10_next ml_X10_262 mi_X10_next rm_X10_readPart_X10_next jz_X10_next ⟨Nat.zero_le _, Nat.zero_le _⟩ (Nat.le_of_ble_eq_true rfl) (wX10_l hm) (wX10_c hm) jas0 ((sp_X10_next hm) hc46) (fun hc45 => ?_)
              refine rr_pSI (A := (jA m)) (v := jI (nmd (rnx M43 m))) (as := [VI (rnx M43 m)]) (st := []) dX10_readPart_108 mt_X10_isName ml_X10_283 ms_X10_isName rm_X10_readPart_X10_isName jz_X10_isName ⟨Nat.zero_le _, Nat.zero_le _⟩ (Nat.le_of_ble_eq_true rfl) (jasI hc45 jas0) sp_X10_isName (fun hc47 => ?_)
              refine r_if_ne (tgt := 124) dX10_readPart_111 rfl hc47 (fun hcc => ?_) (fun hcc => ?_)
              · replace hT := hT.1 (jI_p hcc)
                refine r_aload_n dX10_readPart_124 rfl (i := 0) rfl ?_
                obtain ⟨hc49, hT⟩ := hT
                refine rr_pVI (A := (jA m)) (v := rnx M43 m) (a := m) (as := []) (st := []) dX10_readPart_125 mt_X10_next ml_X10_262 mi_X10_next rm_X10_readPart_X10_next jz_X10_next ⟨Nat.zero_le _, Nat.zero_le _⟩ (Nat.le_of_ble_eq_true rfl) (wX10_l hm) (wX10_c hm) jas0 ((sp_X10_next hm) hc49) (fun hc48 => ?_)
                refine r_bipush (n := 97) dX10_readPart_128 (by decide +kernel) ?_
                refine r_isub dX10_readPart_130 ?_
                obtain ⟨hc50, hT⟩ := hT
                refine rr_istore (i := 7) (ls' := [VR m, VI x1, VI x2, VI (rnx I m), VI 1, VI (sby (rnx M38 m)), VI ((I m 29) + 1), VI ((rnx M43 m) - 97)]) dX10_readPart_131 (Nat.le_of_ble_eq_true rfl) rfl rfl hc50 ?_
                refine r_aload_n dX10_readPart_133 rfl (i := 0) rfl ?_
                refine r_iload_n dX10_readPart_134 rfl (i := 1) rfl ?_
                refine r_iload dX10_readPart_135 (i := 5) rfl ?_
                refine r_iload dX10_readPart_137 (i := 7) rfl ?_
                refine rr_cVI (a := m) (as := [VI x1, VI (sby (rnx M38 m)), VI ((rnx M43 m) - 97)]) (st := []) dX10_readPart_139 mt_X10_isNamed ml_X10_286 mi_X10_isNamed rm_X10_readPart_X10_isNamed jz_X10_isNamed ⟨Nat.zero_le _, Nat.zero_le _⟩ (Nat.le_of_ble_eq_true rfl) (wX10_l hm) (wX10_c hm) (jasI hx1 (jasI hc42 (jasI hc50 jas0))) hT (fun r52 I51 hc53 hFI51 hT => ?_)
                replace hFI51 := jFr_tr hFM43 hFI51
                refine jOk_mem (fun hI51 => ?_)
                refine r_if_ne (tgt := 153) dX10_readPart_142 rfl hc53 (fun hcc => ?_) (fun hcc => ?_)
                · replace hT := hT.1 hcc
                  refine r_aload_n dX10_readPart_153 rfl (i := 0) rfl ?_
                  refine r_iload_n dX10_readPart_154 rfl (i := 2) rfl ?_
                  refine r_iload_n dX10_readPart_155 rfl (i := 3) rfl ?_
                  refine r_bipush (n := 43) dX10_readPart_156 (by decide +kernel) ?_
                  refine r_icmp_ne (tgt := 165) dX10_readPart_158 rfl hc1 ⟨by decide, by decide⟩ (fun hcc => ?_) (fun hcc => ?_)
                  · replace hT := hT.1 hcc
                    refine r_iload_n dX10_readPart_165 rfl (i := 3) rfl ?_
                    refine r_bipush (n := 45) dX10_readPart_166 (by decide +kernel) ?_
                    refine r_icmp_ne (tgt := 176) dX10_readPart_168 rfl hc1 ⟨by decide, by decide⟩ (fun hcc => ?_) (fun hcc => ?_)
                    · replace hT := hT.1 hcc
                      refine r_iload_n dX10_readPart_176 rfl (i := 3) rfl ?_
                      refine r_bipush (n := 126) dX10_readPart_177 (by decide +kernel) ?_
                      refine r_icmp_ne (tgt := 187) dX10_readPart_179 rfl hc1 ⟨by decide, by decide⟩ (fun hcc => ?_) (fun hcc => ?_)
                      · replace hT := hT.1 hcc
                        refine r_iload dX10_readPart_187 (i := 5) rfl ?_
                        refine r_iload dX10_readPart_189 (i := 7) rfl ?_
                        refine r_iconst (n := 0) dX10_readPart_191 ?_
                        refine rr_cVV (a := m) (as := [VI x2, VI (sby (rnx M38 m)), VI ((rnx M43 m) - 97), VI 0]) (st := []) dX10_readPart_192 mt_X10_come ml_X10_272 mi_X10_come rm_X10_readPart_X10_come jz_X10_come ⟨Nat.zero_le _, Nat.zero_le _⟩ (Nat.le_of_ble_eq_true rfl) (wX10_l hm) (wX10_c hm) (jasI hx2 (jasI hc42 (jasI hc50 (jasI ⟨by decide, by decide⟩ jas0)))) hT (fun I54 hFI54 hT => ?_)
                        replace hFI54 := jFr_tr hFI51 hFI54
                        refine jOk_mem (fun hI54 => ?_)
                        refine r_aload_n dX10_readPart_195 rfl (i := 0) rfl ?_
                        refine r_dup dX10_readPart_196 rfl ?_
                        refine rr_getI (v := I54 m 29) dX10_readPart_197 fg_X10_253 rfl (wX10_l hm) (wX10_s hm) rfl ?_
                        refine r_iconst (n := 1) dX10_readPart_200 ?_
                        refine r_iadd dX10_readPart_201 ?_
                        obtain ⟨hc56, hT⟩ := hT
                        refine rr_putI (jj := 29) dX10_readPart_202 fp_X10_253 rfl rfl (wX10_l hm) (wX10_s hm) hc56 (fun M55 eM55 => ?_)
                        have hFM55 := jFr_up hFI54 eM55 (wX10_f hm 0 (by decide))
                        replace hT := hT M55 eM55
                        refine jOk_mem (fun hIM55 => ?_)
                        refine r_iconst (n := 1) dX10_readPart_205 ?_
                        exact r_zret dX10_readPart_206 rfl ⟨by decide, by decide⟩ ⟨Nat.zero_le _, Nat.zero_le _⟩ ⟨_, rfl, rfl, hFM55, hT⟩
                      · replace hT := hT.2 hcc
                        refine r_bipush (n := 7) dX10_readPart_182 (by decide +kernel) ?_
                        refine r_goto (tgt := 189) dX10_readPart_184 rfl ?_
                        refine r_iload dX10_readPart_189 (i := 7) rfl ?_
                        refine r_iconst (n := 0) dX10_readPart_191 ?_
                        refine rr_cVV (a := m) (as := [VI x2, VI 7, VI ((rnx M43 m) - 97), VI 0]) (st := []) dX10_readPart_192 mt_X10_come ml_X10_272 mi_X10_come rm_X10_readPart_X10_come jz_X10_come ⟨Nat.zero_le _, Nat.zero_le _⟩ (Nat.le_of_ble_eq_true rfl) (wX10_l hm) (wX10_c hm) (jasI hx2 (jasI ⟨by decide, by decide⟩ (jasI hc50 (jasI ⟨by decide, by decide⟩ jas0)))) hT (fun I57 hFI57 hT => ?_)
                        replace hFI57 := jFr_tr hFI51 hFI57
                        refine jOk_mem (fun hI57 => ?_)
                        refine r_aload_n dX10_readPart_195 rfl (i := 0) rfl ?_
                        refine r_dup dX10_readPart_196 rfl ?_
                        refine rr_getI (v := I57 m 29) dX10_readPart_197 fg_X10_253 rfl (wX10_l hm) (wX10_s hm) rfl ?_
                        refine r_iconst (n := 1) dX10_readPart_200 ?_
                        refine r_iadd dX10_readPart_201 ?_
                        obtain ⟨hc59, hT⟩ := hT
                        refine rr_putI (jj := 29) dX10_readPart_202 fp_X10_253 rfl rfl (wX10_l hm) (wX10_s hm) hc59 (fun M58 eM58 => ?_)
                        have hFM58 := jFr_up hFI57 eM58 (wX10_f hm 0 (by decide))
                        replace hT := hT M58 eM58
                        refine jOk_mem (fun hIM58 => ?_)
                        refine r_iconst (n := 1) dX10_readPart_205 ?_
                        exact r_zret dX10_readPart_206 rfl ⟨by decide, by decide⟩ ⟨Nat.zero_le _, Nat.zero_le _⟩ ⟨_, rfl, rfl, hFM58, hT⟩
                    · replace hT := hT.2 hcc
                      refine r_bipush (n := 6) dX10_readPart_171 (by decide +kernel) ?_
                      refine r_goto (tgt := 189) dX10_readPart_173 rfl ?_
                      refine r_iload dX10_readPart_189 (i := 7) rfl ?_
                      refine r_iconst (n := 0) dX10_readPart_191 ?_
                      refine rr_cVV (a := m) (as := [VI x2, VI 6, VI ((rnx M43 m) - 97), VI 0]) (st := []) dX10_readPart_192 mt_X10_come ml_X10_272 mi_X10_come rm_X10_readPart_X10_come jz_X10_come ⟨Nat.zero_le _, Nat.zero_le _⟩ (Nat.le_of_ble_eq_true rfl) (wX10_l hm) (wX10_c hm) (jasI hx2 (jasI ⟨by decide, by decide⟩ (jasI hc50 (jasI ⟨by decide, by decide⟩ jas0)))) hT (fun I60 hFI60 hT => ?_)
                      replace hFI60 := jFr_tr hFI51 hFI60
                      refine jOk_mem (fun hI60 => ?_)
                      refine r_aload_n dX10_readPart_195 rfl (i := 0) rfl ?_
                      refine r_dup dX10_readPart_196 rfl ?_
                      refine rr_getI (v := I60 m 29) dX10_readPart_197 fg_X10_253 rfl (wX10_l hm) (wX10_s hm) rfl ?_
                      refine r_iconst (n := 1) dX10_readPart_200 ?_
                      refine r_iadd dX10_readPart_201 ?_
                      obtain ⟨hc62, hT⟩ := hT
                      refine rr_putI (jj := 29) dX10_readPart_202 fp_X10_253 rfl rfl (wX10_l hm) (wX10_s hm) hc62 (fun M61 eM61 => ?_)
                      have hFM61 := jFr_up hFI60 eM61 (wX10_f hm 0 (by decide))
                      replace hT := hT M61 eM61
                      refine jOk_mem (fun hIM61 => ?_)
                      refine r_iconst (n := 1) dX10_readPart_205 ?_
                      exact r_zret dX10_readPart_206 rfl ⟨by decide, by decide⟩ ⟨Nat.zero_le _, Nat.zero_le _⟩ ⟨_, rfl, rfl, hFM61, hT⟩
                  · replace hT := hT.2 hcc
                    refine r_iconst (n := 5) dX10_readPart_161 ?_
                    refine r_goto (tgt := 189) dX10_readPart_162 rfl ?_
                    refine r_iload dX10_readPart_189 (i := 7) rfl ?_
                    refine r_iconst (n := 0) dX10_readPart_191 ?_
                    refine rr_cVV (a := m) (as := [VI x2, VI 5, VI ((rnx M43 m) - 97), VI 0]) (st := []) dX10_readPart_192 mt_X10_come ml_X10_272 mi_X10_come rm_X10_readPart_X10_come jz_X10_come ⟨Nat.zero_le _, Nat.zero_le _⟩ (Nat.le_of_ble_eq_true rfl) (wX10_l hm) (wX10_c hm) (jasI hx2 (jasI ⟨by decide, by decide⟩ (jasI hc50 (jasI ⟨by decide, by decide⟩ jas0)))) hT (fun I63 hFI63 hT => ?_)
                    replace hFI63 := jFr_tr hFI51 hFI63
                    refine jOk_mem (fun hI63 => ?_)
                    refine r_aload_n dX10_readPart_195 rfl (i := 0) rfl ?_
                    refine r_dup dX10_readPart_196 rfl ?_
                    refine rr_getI (v := I63 m 29) dX10_readPart_197 fg_X10_253 rfl (wX10_l hm) (wX10_s hm) rfl ?_
                    refine r_iconst (n := 1) dX10_readPart_200 ?_
                    refine r_iadd dX10_readPart_201 ?_
                    obtain ⟨hc65, hT⟩ := hT
                    refine rr_putI (jj := 29) dX10_readPart_202 fp_X10_253 rfl rfl (wX10_l hm) (wX10_s hm) hc65 (fun M64 eM64 => ?_)
                    have hFM64 := jFr_up hFI63 eM64 (wX10_f hm 0 (by decide))
                    replace hT := hT M64 eM64
                    refine jOk_mem (fun hIM64 => ?_)
                    refine r_iconst (n := 1) dX10_readPart_205 ?_
                    exact r_zret dX10_readPart_206 rfl ⟨by decide, by decide⟩ ⟨Nat.zero_le _, Nat.zero_le _⟩ ⟨_, rfl, rfl, hFM64, hT⟩
                · replace hT := hT.2 hcc
                  refine r_aload_n dX10_readPart_145 rfl (i := 0) rfl ?_
                  refine r_iconst (n := 5) dX10_readPart_146 ?_
                  refine r_iload dX10_readPart_147 (i := 6) rfl ?_
                  refine rr_cVI (a := m) (as := [VI 5, VI ((I m 29) + 1)]) (st := []) dX10_readPart_149 mt_X10_isWrong ml_X10_266 mi_X10_isWrong rm_X10_readPart_X10_isWrong jz_X10_isWrong ⟨Nat.zero_le _, Nat.zero_le _⟩ (Nat.le_of_ble_eq_true rfl) (wX10_l hm) (wX10_c hm) (jasI ⟨by decide, by decide⟩ (jasI hc39 jas0)) hT (fun r67 I66 hc68 hFI66 hT => ?_)
                  replace hFI66 := jFr_tr hFI51 hFI66
                  refine jOk_mem (fun hI66 => ?_)
                  obtain ⟨hc69, hT⟩ := hT
                  exact r_zret dX10_readPart_152 rfl hc69 ⟨Nat.zero_le _, Nat.zero_le _⟩ ⟨_, rfl, rfl, hFI66, hT⟩
              · replace hT := hT.2 (jI_n hcc)
                refine r_aload_n dX10_readPart_114 rfl (i := 0) rfl ?_
                refine r_iconst (n := 1) dX10_readPart_115 ?_
                refine r_aload_n dX10_readPart_116 rfl (i := 0) rfl ?_
                refine rr_getI (v := ((I m 29) + 1) + 1) dX10_readPart_117 fg_X10_253 rfl (wX10_l hm) (wX10_s hm) (jr_eq eM43) ?_
                refine rr_cVI (a := m) (as := [VI 1, VI (((I m 29) + 1) + 1)]) (st := []) dX10_readPart_120 mt_X10_isWrong ml_X10_266 mi_X10_isWrong rm_X10_readPart_X10_isWrong jz_X10_isWrong ⟨Nat.zero_le _, Nat.zero_le _⟩ (Nat.le_of_ble_eq_true rfl) (wX10_l hm) (wX10_c hm) (jasI ⟨by decide, by decide⟩ (jasI hc44 jas0)) hT (fun r71 I70 hc72 hFI70 hT => ?_)
                replace hFI70 := jFr_tr hFM43 hFI70
                refine jOk_mem (fun hI70 => ?_)
                obtain ⟨hc73, hT⟩ := hT
                exact r_zret dX10_readPart_123 rfl hc73 ⟨Nat.zero_le _, Nat.zero_le _⟩ ⟨_, rfl, rfl, hFI70, hT⟩
            · replace hT := hT.2 hcc
              refine r_aload_n dX10_readPart_78 rfl (i := 0) rfl ?_
              refine r_iconst (n := 1) dX10_readPart_79 ?_
              refine r_aload_n dX10_readPart_80 rfl (i := 0) rfl ?_
              refine rr_getI (v := (I m 29) + 1) dX10_readPart_81 fg_X10_253 rfl (wX10_l hm) (wX10_s hm) (jr_eq eM38) ?_
              refine rr_cVI (a := m) (as := [VI 1, VI ((I m 29) + 1)]) (st := []) dX10_readPart_84 mt_X10_isWrong ml_X10_266 mi_X10_isWrong rm_X10_readPart_X10_isWrong jz_X10_isWrong ⟨Nat.zero_le _, Nat.zero_le _⟩ (Nat.le_of_ble_eq_true rfl) (wX10_l hm) (wX10_c hm) (jasI ⟨by decide, by decide⟩ (jasI hc39 jas0)) hT (fun r75 I74 hc76 hFI74 hT => ?_)
              replace hFI74 := jFr_tr hFM38 hFI74
              refine jOk_mem (fun hI74 => ?_)
              obtain ⟨hc77, hT⟩ := hT
              exact r_zret dX10_readPart_87 rfl hc77 ⟨Nat.zero_le _, Nat.zero_le _⟩ ⟨_, rfl, rfl, hFI74, hT⟩
          · replace hT := hT.2 hcc
            refine r_iconst (n := 0) dX10_readPart_70 ?_
            refine r_goto (tgt := 75) dX10_readPart_71 rfl ?_
            refine r_icmp_eq (tgt := 88) dX10_readPart_75 rfl hc42 ⟨by decide, by decide⟩ (fun hcc => ?_) (fun hcc => ?_)
            · replace hT := hT.1 hcc
              refine r_aload_n dX10_readPart_88 rfl (i := 0) rfl ?_
              refine rr_getI (v := (I m 29) + 1) dX10_readPart_89 fg_X10_253 rfl (wX10_l hm) (wX10_s hm) (jr_eq eM38) ?_
              refine rr_istore (i := 6) (ls' := [VR m, VI x1, VI x2, VI (rnx I m), VI 1, VI (sby (rnx M38 m)), VI ((I m 29) + 1), VN]) dX10_readPart_92 (Nat.le_of_ble_eq_true rfl) rfl rfl hc39 ?_
              refine r_aload_n dX10_readPart_94 rfl (i := 0) rfl ?_
              refine r_dup dX10_readPart_95 rfl ?_
              refine rr_getI (v := (I m 29) + 1) dX10_readPart_96 fg_X10_253 rfl (wX10_l hm) (wX10_s hm) (jr_eq eM38) ?_
              refine r_iconst (n := 1) dX10_readPart_99 ?_
              refine r_iadd dX10_readPart_100 ?_
              obtain ⟨hc79, hT⟩ := hT
              refine rr_putI (jj := 29) dX10_readPart_101 fp_X10_253 rfl rfl (wX10_l hm) (wX10_s hm) hc79 (fun M78 eM78 => ?_)
              have hFM78 := jFr_up hFM38 eM78 (wX10_f hm 0 (by decide))
              replace hT := hT M78 eM78
              refine jOk_mem (fun hIM78 => ?_)
              refine r_aload_n dX10_readPart_104 rfl (i := 0) rfl ?_
              obtain ⟨hc81, hT⟩ := hT
              refine rr_pVI (A := (jA m)) (v := rnx M78 m) (a := m) (as := []) (st := []) dX10_readPart_105 mt_X10_next ml_X10_262 mi_X10_next rm_X10_readPart_X10_next jz_X10_next ⟨Nat.zero_le _, Nat.zero_le _⟩ (Nat.le_of_ble_eq_true rfl) (wX10_l hm) (wX10_c hm) jas0 ((sp_X10_next hm) hc81) (fun hc80 => ?_)
              refine rr_pSI (A := (jA m)) (v := jI (nmd (rnx M78 m))) (as := [VI (rnx M78 m)]) (st := []) dX10_readPart_108 mt_X10_isName ml_X10_283 ms_X10_isName rm_X10_readPart_X10_isName jz_X10_isName ⟨Nat.zero_le _, Nat.zero_le _⟩ (Nat.le_of_ble_eq_true rfl) (jasI hc80 jas0) sp_X10_isName (fun hc82 => ?_)
              refine r_if_ne (tgt := 124) dX10_readPart_111 rfl hc82 (fun hcc => ?_) (fun hcc => ?_)
              · replace hT := hT.1 (jI_p hcc)
                refine r_aload_n dX10_readPart_124 rfl (i := 0) rfl ?_
                obtain ⟨hc84, hT⟩ := hT
                refine rr_pVI (A := (jA m)) (v := rnx M78 m) (a := m) (as := []) (st := []) dX10_readPart_125 mt_X10_next ml_X10_262 mi_X10_next rm_X10_readPart_X10_next jz_X10_next ⟨Nat.zero_le _, Nat.zero_le _⟩ (Nat.le_of_ble_eq_true rfl) (wX10_l hm) (wX10_c hm) jas0 ((sp_X10_next hm) hc84) (fun hc83 => ?_)
                refine r_bipush (n := 97) dX10_readPart_128 (by decide +kernel) ?_
                refine r_isub dX10_readPart_130 ?_
                obtain ⟨hc85, hT⟩ := hT
                refine rr_istore (i := 7) (ls' := [VR m, VI x1, VI x2, VI (rnx I m), VI 1, VI (sby (rnx M38 m)), VI ((I m 29) + 1), VI ((rnx M78 m) - 97)]) dX10_readPart_131 (Nat.le_of_ble_eq_true rfl) rfl rfl hc85 ?_
                refine r_aload_n dX10_readPart_133 rfl (i := 0) rfl ?_
                refine r_iload_n dX10_readPart_134 rfl (i := 1) rfl ?_
                refine r_iload dX10_readPart_135 (i := 5) rfl ?_
                refine r_iload dX10_readPart_137 (i := 7) rfl ?_
                refine rr_cVI (a := m) (as := [VI x1, VI (sby (rnx M38 m)), VI ((rnx M78 m) - 97)]) (st := []) dX10_readPart_139 mt_X10_isNamed ml_X10_286 mi_X10_isNamed rm_X10_readPart_X10_isNamed jz_X10_isNamed ⟨Nat.zero_le _, Nat.zero_le _⟩ (Nat.le_of_ble_eq_true rfl) (wX10_l hm) (wX10_c hm) (jasI hx1 (jasI hc42 (jasI hc85 jas0))) hT (fun r87 I86 hc88 hFI86 hT => ?_)
                replace hFI86 := jFr_tr hFM78 hFI86
                refine jOk_mem (fun hI86 => ?_)
                refine r_if_ne (tgt := 153) dX10_readPart_142 rfl hc88 (fun hcc => ?_) (fun hcc => ?_)
                · replace hT := hT.1 hcc
                  refine r_aload_n dX10_readPart_153 rfl (i := 0) rfl ?_
                  refine r_iload_n dX10_readPart_154 rfl (i := 2) rfl ?_
                  refine r_iload_n dX10_readPart_155 rfl (i := 3) rfl ?_
                  refine r_bipush (n := 43) dX10_readPart_156 (by decide +kernel) ?_
                  refine r_icmp_ne (tgt := 165) dX10_readPart_158 rfl hc1 ⟨by decide, by decide⟩ (fun hcc => ?_) (fun hcc => ?_)
                  · replace hT := hT.1 hcc
                    refine r_iload_n dX10_readPart_165 rfl (i := 3) rfl ?_
                    refine r_bipush (n := 45) dX10_readPart_166 (by decide +kernel) ?_
                    refine r_icmp_ne (tgt := 176) dX10_readPart_168 rfl hc1 ⟨by decide, by decide⟩ (fun hcc => ?_) (fun hcc => ?_)
                    · replace hT := hT.1 hcc
                      refine r_iload_n dX10_readPart_176 rfl (i := 3) rfl ?_
                      refine r_bipush (n := 126) dX10_readPart_177 (by decide +kernel) ?_
                      refine r_icmp_ne (tgt := 187) dX10_readPart_179 rfl hc1 ⟨by decide, by decide⟩ (fun hcc => ?_) (fun hcc => ?_)
                      · replace hT := hT.1 hcc
                        refine r_iload dX10_readPart_187 (i := 5) rfl ?_
                        refine r_iload dX10_readPart_189 (i := 7) rfl ?_
                        refine r_iconst (n := 0) dX10_readPart_191 ?_
                        refine rr_cVV (a := m) (as := [VI x2, VI (sby (rnx M38 m)), VI ((rnx M78 m) - 97), VI 0]) (st := []) dX10_readPart_192 mt_X10_come ml_X10_272 mi_X10_come rm_X10_readPart_X10_come jz_X10_come ⟨Nat.zero_le _, Nat.zero_le _⟩ (Nat.le_of_ble_eq_true rfl) (wX10_l hm) (wX10_c hm) (jasI hx2 (jasI hc42 (jasI hc85 (jasI ⟨by decide, by decide⟩ jas0)))) hT (fun I89 hFI89 hT => ?_)
                        replace hFI89 := jFr_tr hFI86 hFI89
                        refine jOk_mem (fun hI89 => ?_)
                        refine r_aload_n dX10_readPart_195 rfl (i := 0) rfl ?_
                        refine r_dup dX10_readPart_196 rfl ?_
                        refine rr_getI (v := I89 m 29) dX10_readPart_197 fg_X10_253 rfl (wX10_l hm) (wX10_s hm) rfl ?_
                        refine r_iconst (n := 1) dX10_readPart_200 ?_
                        refine r_iadd dX10_readPart_201 ?_
                        obtain ⟨hc91, hT⟩ := hT
                        refine rr_putI (jj := 29) dX10_readPart_202 fp_X10_253 rfl rfl (wX10_l hm) (wX10_s hm) hc91 (fun M90 eM90 => ?_)
                        have hFM90 := jFr_up hFI89 eM90 (wX10_f hm 0 (by decide))
                        replace hT := hT M90 eM90
                        refine jOk_mem (fun hIM90 => ?_)
                        refine r_iconst (n := 1) dX10_readPart_205 ?_
                        exact r_zret dX10_readPart_206 rfl ⟨by decide, by decide⟩ ⟨Nat.zero_le _, Nat.zero_le _⟩ ⟨_, rfl, rfl, hFM90, hT⟩
                      · replace hT := hT.2 hcc
                        refine r_bipush (n := 7) dX10_readPart_182 (by decide +kernel) ?_
                        refine r_goto (tgt := 189) dX10_readPart_184 rfl ?_
                        refine r_iload dX10_readPart_189 (i := 7) rfl ?_
                        refine r_iconst (n := 0) dX10_readPart_191 ?_
                        refine rr_cVV (a := m) (as := [VI x2, VI 7, VI ((rnx M78 m) - 97), VI 0]) (st := []) dX10_readPart_192 mt_X10_come ml_X10_272 mi_X10_come rm_X10_readPart_X10_come jz_X10_come ⟨Nat.zero_le _, Nat.zero_le _⟩ (Nat.le_of_ble_eq_true rfl) (wX10_l hm) (wX10_c hm) (jasI hx2 (jasI ⟨by decide, by decide⟩ (jasI hc85 (jasI ⟨by decide, by decide⟩ jas0)))) hT (fun I92 hFI92 hT => ?_)
                        replace hFI92 := jFr_tr hFI86 hFI92
                        refine jOk_mem (fun hI92 => ?_)
                        refine r_aload_n dX10_readPart_195 rfl (i := 0) rfl ?_
                        refine r_dup dX10_readPart_196 rfl ?_
                        refine rr_getI (v := I92 m 29) dX10_readPart_197 fg_X10_253 rfl (wX10_l hm) (wX10_s hm) rfl ?_
                        refine r_iconst (n := 1) dX10_readPart_200 ?_
                        refine r_iadd dX10_readPart_201 ?_
                        obtain ⟨hc94, hT⟩ := hT
                        refine rr_putI (jj := 29) dX10_readPart_202 fp_X10_253 rfl rfl (wX10_l hm) (wX10_s hm) hc94 (fun M93 eM93 => ?_)
                        have hFM93 := jFr_up hFI92 eM93 (wX10_f hm 0 (by decide))
                        replace hT := hT M93 eM93
                        refine jOk_mem (fun hIM93 => ?_)
                        refine r_iconst (n := 1) dX10_readPart_205 ?_
                        exact r_zret dX10_readPart_206 rfl ⟨by decide, by decide⟩ ⟨Nat.zero_le _, Nat.zero_le _⟩ ⟨_, rfl, rfl, hFM93, hT⟩
                    · replace hT := hT.2 hcc
                      refine r_bipush (n := 6) dX10_readPart_171 (by decide +kernel) ?_
                      refine r_goto (tgt := 189) dX10_readPart_173 rfl ?_
                      refine r_iload dX10_readPart_189 (i := 7) rfl ?_
                      refine r_iconst (n := 0) dX10_readPart_191 ?_
                      refine rr_cVV (a := m) (as := [VI x2, VI 6, VI ((rnx M78 m) - 97), VI 0]) (st := []) dX10_readPart_192 mt_X10_come ml_X10_272 mi_X10_come rm_X10_readPart_X10_come jz_X10_come ⟨Nat.zero_le _, Nat.zero_le _⟩ (Nat.le_of_ble_eq_true rfl) (wX10_l hm) (wX10_c hm) (jasI hx2 (jasI ⟨by decide, by decide⟩ (jasI hc85 (jasI ⟨by decide, by decide⟩ jas0)))) hT (fun I95 hFI95 hT => ?_)
                      replace hFI95 := jFr_tr hFI86 hFI95
                      refine jOk_mem (fun hI95 => ?_)
                      refine r_aload_n dX10_readPart_195 rfl (i := 0) rfl ?_
                      refine r_dup dX10_readPart_196 rfl ?_
                      refine rr_getI (v := I95 m 29) dX10_readPart_197 fg_X10_253 rfl (wX10_l hm) (wX10_s hm) rfl ?_
                      refine r_iconst (n := 1) dX10_readPart_200 ?_
                      refine r_iadd dX10_readPart_201 ?_
                      obtain ⟨hc97, hT⟩ := hT
                      refine rr_putI (jj := 29) dX10_readPart_202 fp_X10_253 rfl rfl (wX10_l hm) (wX10_s hm) hc97 (fun M96 eM96 => ?_)
                      have hFM96 := jFr_up hFI95 eM96 (wX10_f hm 0 (by decide))
                      replace hT := hT M96 eM96
                      refine jOk_mem (fun hIM96 => ?_)
                      refine r_iconst (n := 1) dX10_readPart_205 ?_
                      exact r_zret dX10_readPart_206 rfl ⟨by decide, by decide⟩ ⟨Nat.zero_le _, Nat.zero_le _⟩ ⟨_, rfl, rfl, hFM96, hT⟩
                  · replace hT := hT.2 hcc
                    refine r_iconst (n := 5) dX10_readPart_161 ?_
                    refine r_goto (tgt := 189) dX10_readPart_162 rfl ?_
                    refine r_iload dX10_readPart_189 (i := 7) rfl ?_
                    refine r_iconst (n := 0) dX10_readPart_191 ?_
                    refine rr_cVV (a := m) (as := [VI x2, VI 5, VI ((rnx M78 m) - 97), VI 0]) (st := []) dX10_readPart_192 mt_X10_come ml_X10_272 mi_X10_come rm_X10_readPart_X10_come jz_X10_come ⟨Nat.zero_le _, Nat.zero_le _⟩ (Nat.le_of_ble_eq_true rfl) (wX10_l hm) (wX10_c hm) (jasI hx2 (jasI ⟨by decide, by decide⟩ (jasI hc85 (jasI ⟨by decide, by decide⟩ jas0)))) hT (fun I98 hFI98 hT => ?_)
                    replace hFI98 := jFr_tr hFI86 hFI98
                    refine jOk_mem (fun hI98 => ?_)
                    refine r_aload_n dX10_readPart_195 rfl (i := 0) rfl ?_
                    refine r_dup dX10_readPart_196 rfl ?_
                    refine rr_getI (v := I98 m 29) dX10_readPart_197 fg_X10_253 rfl (wX10_l hm) (wX10_s hm) rfl ?_
                    refine r_iconst (n := 1) dX10_readPart_200 ?_
                    refine r_iadd dX10_readPart_201 ?_
                    obtain ⟨hc100, hT⟩ := hT
                    refine rr_putI (jj := 29) dX10_readPart_202 fp_X10_253 rfl rfl (wX10_l hm) (wX10_s hm) hc100 (fun M99 eM99 => ?_)
                    have hFM99 := jFr_up hFI98 eM99 (wX10_f hm 0 (by decide))
                    replace hT := hT M99 eM99
                    refine jOk_mem (fun hIM99 => ?_)
                    refine r_iconst (n := 1) dX10_readPart_205 ?_
                    exact r_zret dX10_readPart_206 rfl ⟨by decide, by decide⟩ ⟨Nat.zero_le _, Nat.zero_le _⟩ ⟨_, rfl, rfl, hFM99, hT⟩
                · replace hT := hT.2 hcc
                  refine r_aload_n dX10_readPart_145 rfl (i := 0) rfl ?_
                  refine r_iconst (n := 5) dX10_readPart_146 ?_
                  refine r_iload dX10_readPart_147 (i := 6) rfl ?_
                  refine rr_cVI (a := m) (as := [VI 5, VI ((I m 29) + 1)]) (st := []) dX10_readPart_149 mt_X10_isWrong ml_X10_266 mi_X10_isWrong rm_X10_readPart_X10_isWrong jz_X10_isWrong ⟨Nat.zero_le _, Nat.zero_le _⟩ (Nat.le_of_ble_eq_true rfl) (wX10_l hm) (wX10_c hm) (jasI ⟨by decide, by decide⟩ (jasI hc39 jas0)) hT (fun r102 I101 hc103 hFI101 hT => ?_)
                  replace hFI101 := jFr_tr hFI86 hFI101
                  refine jOk_mem (fun hI101 => ?_)
                  obtain ⟨hc104, hT⟩ := hT
                  exact r_zret dX10_readPart_152 rfl hc104 ⟨Nat.zero_le _, Nat.zero_le _⟩ ⟨_, rfl, rfl, hFI101, hT⟩
              · replace hT := hT.2 (jI_n hcc)
                refine r_aload_n dX10_readPart_114 rfl (i := 0) rfl ?_
                refine r_iconst (n := 1) dX10_readPart_115 ?_
                refine r_aload_n dX10_readPart_116 rfl (i := 0) rfl ?_
                refine rr_getI (v := ((I m 29) + 1) + 1) dX10_readPart_117 fg_X10_253 rfl (wX10_l hm) (wX10_s hm) (jr_eq eM78) ?_
                refine rr_cVI (a := m) (as := [VI 1, VI (((I m 29) + 1) + 1)]) (st := []) dX10_readPart_120 mt_X10_isWrong ml_X10_266 mi_X10_isWrong rm_X10_readPart_X10_isWrong jz_X10_isWrong ⟨Nat.zero_le _, Nat.zero_le _⟩ (Nat.le_of_ble_eq_true rfl) (wX10_l hm) (wX10_c hm) (jasI ⟨by decide, by decide⟩ (jasI hc79 jas0)) hT (fun r106 I105 hc107 hFI105 hT => ?_)
                replace hFI105 := jFr_tr hFM78 hFI105
                refine jOk_mem (fun hI105 => ?_)
                obtain ⟨hc108, hT⟩ := hT
                exact r_zret dX10_readPart_123 rfl hc108 ⟨Nat.zero_le _, Nat.zero_le _⟩ ⟨_, rfl, rfl, hFI105, hT⟩
            · replace hT := hT.2 hcc
              refine r_aload_n dX10_readPart_78 rfl (i := 0) rfl ?_
              refine r_iconst (n := 1) dX10_readPart_79 ?_
              refine r_aload_n dX10_readPart_80 rfl (i := 0) rfl ?_
              refine rr_getI (v := (I m 29) + 1) dX10_readPart_81 fg_X10_253 rfl (wX10_l hm) (wX10_s hm) (jr_eq eM38) ?_
              refine rr_cVI (a := m) (as := [VI 1, VI ((I m 29) + 1)]) (st := []) dX10_readPart_84 mt_X10_isWrong ml_X10_266 mi_X10_isWrong rm_X10_readPart_X10_isWrong jz_X10_isWrong ⟨Nat.zero_le _, Nat.zero_le _⟩ (Nat.le_of_ble_eq_true rfl) (wX10_l hm) (wX10_c hm) (jasI ⟨by decide, by decide⟩ (jasI hc39 jas0)) hT (fun r110 I109 hc111 hFI109 hT => ?_)
              replace hFI109 := jFr_tr hFM38 hFI109
              refine jOk_mem (fun hI109 => ?_)
              obtain ⟨hc112, hT⟩ := hT
              exact r_zret dX10_readPart_87 rfl hc112 ⟨Nat.zero_le _, Nat.zero_le _⟩ ⟨_, rfl, rfl, hFI109, hT⟩
  · replace hT := hT.2 hcc
    refine r_aload_n dX10_readPart_11 rfl (i := 0) rfl ?_
    refine r_iload_n dX10_readPart_12 rfl (i := 2) rfl ?_
    refine r_iconst (n := 0) dX10_readPart_13 ?_
    refine rr_cVI (a := m) (as := [VI x2, VI 0]) (st := []) dX10_readPart_14 mt_X10_readBytes ml_X10_279 mi_X10_readBytes rm_X10_readPart_X10_readBytes jz_X10_readBytes ⟨Nat.zero_le _, Nat.zero_le _⟩ (Nat.le_of_ble_eq_true rfl) (wX10_l hm) (wX10_c hm) (jasI hx2 (jasI ⟨by decide, by decide⟩ jas0)) hT (fun r114 I113 hc115 hFI113 hT => ?_)
    replace hFI113 := jFr_tr hF hFI113
    refine jOk_mem (fun hI113 => ?_)
    obtain ⟨hc116, hT⟩ := hT
    exact r_zret dX10_readPart_17 rfl hc116 ⟨Nat.zero_le _, Nat.zero_le _⟩ ⟨_, rfl, rfl, hFI113, hT⟩
theorem en_X10_readPart {E : jE} {G : jG} {I : jM} {q : Int → jM → Prop} {m : Nat} {x1 : Int} {x2 : Int} (hm : WX10 G m) (hT : (∀ a j, jRg (G.2.1 a).1 (I a j)) → jIn x1 → jIn x2 → (0 ≤ I m 29 ∧ I m 30 ≤ 300) ∧ ((¬ (rnx I m) = 39 → ((¬ (sby (rnx I m)) = (-1) → (0 ≤ I m 29 ∧ I m 30 ≤ 300) ∧ jIn ((I m 29) + 1) ∧ (∀ M7, M7 = jup I m 29 ((I m 29) + 1) → (0 ≤ M7 m 29 ∧ M7 m 30 ≤ 300) ∧ (((nmd (rnx M7 m)) → (0 ≤ M7 m 29 ∧ M7 m 30 ≤ 300) ∧ jIn ((rnx M7 m) - 97) ∧ jRI E (jA m) kX10_isNamed [VR m, VI x1, VI (sby (rnx I m)), VI ((rnx M7 m) - 97)] G M7 (fun r16 I15 => ((¬ r16 = 0 → ((¬ (rnx I m) = 43 → ((¬ (rnx I m) = 45 → ((¬ (rnx I m) = 126 → jRV E (jA m) kX10_come [VR m, VI x2, VI (sby (rnx I m)), VI ((rnx M7 m) - 97), VI 0] G I15 (fun I18 => jIn ((I18 m 29) + 1) ∧ (∀ M19, M19 = jup I18 m 29 ((I18 m 29) + 1) → q 1 M19))) ∧ ((rnx I m) = 126 → jRV E (jA m) kX10_come [VR m, VI x2, VI 7, VI ((rnx M7 m) - 97), VI 0] G I15 (fun I21 => jIn ((I21 m 29) + 1) ∧ (∀ M22, M22 = jup I21 m 29 ((I21 m 29) + 1) → q 1 M22))))) ∧ ((rnx I m) = 45 → jRV E (jA m) kX10_come [VR m, VI x2, VI 6, VI ((rnx M7 m) - 97), VI 0] G I15 (fun I24 => jIn ((I24 m 29) + 1) ∧ (∀ M25, M25 = jup I24 m 29 ((I24 m 29) + 1) → q 1 M25))))) ∧ ((rnx I m) = 43 → jRV E (jA m) kX10_come [VR m, VI x2, VI 5, VI ((rnx M7 m) - 97), VI 0] G I15 (fun I27 => jIn ((I27 m 29) + 1) ∧ (∀ M28, M28 = jup I27 m 29 ((I27 m 29) + 1) → q 1 M28))))) ∧ (r16 = 0 → jRI E (jA m) kX10_isWrong [VR m, VI 5, VI (I m 29)] G I15 (fun r31 I30 => (0 ≤ r31 ∧ r31 ≤ 1) ∧ q r31 I30))))) ∧ (¬ (nmd (rnx M7 m)) → jRI E (jA m) kX10_isWrong [VR m, VI 1, VI ((I m 29) + 1)] G M7 (fun r35 I34 => (0 ≤ r35 ∧ r35 ≤ 1) ∧ q r35 I34))))) ∧ ((sby (rnx I m)) = (-1) → jIn ((I m 29) + 1) ∧ (∀ M38, M38 = jup I m 29 ((I m 29) + 1) → (0 ≤ M38 m 29 ∧ M38 m 30 ≤ 300) ∧ ((¬ (rnx I m) = 126 → (((sby (rnx M38 m)) = 1 → jIn (((I m 29) + 1) + 1) ∧ (∀ M43, M43 = jup M38 m 29 (((I m 29) + 1) + 1) → (0 ≤ M43 m 29 ∧ M43 m 30 ≤ 300) ∧ (((nmd (rnx M43 m)) → (0 ≤ M43 m 29 ∧ M43 m 30 ≤ 300) ∧ jIn ((rnx M43 m) - 97) ∧ jRI E (jA m) kX10_isNamed [VR m, VI x1, VI (sby (rnx M38 m)), VI ((rnx M43 m) - 97)] G M43 (fun r52 I51 => ((¬ r52 = 0 → ((¬ (rnx I m) = 43 → ((¬ (rnx I m) = 45 → ((¬ (rnx I m) = 126 → jRV E (jA m) kX10_come [VR m, VI x2, VI (sby (rnx M38 m)), VI ((rnx M43 m) - 97), VI 0] G I51 (fun I54 => jIn ((I54 m 29) + 1) ∧ (∀ M55, M55 = jup I54 m 29 ((I54 m 29) + 1) → q 1 M55))) ∧ ((rnx I m) = 126 → jRV E (jA m) kX10_come [VR m, VI x2, VI 7, VI ((rnx M43 m) - 97), VI 0] G I51 (fun I57 => jIn ((I57 m 29) + 1) ∧ (∀ M58, M58 = jup I57 m 29 ((I57 m 29) + 1) → q 1 M58))))) ∧ ((rnx I m) = 45 → jRV E (jA m) kX10_come [VR m, VI x2, VI 6, VI ((rnx M43 m) - 97), VI 0] G I51 (fun I60 => jIn ((I60 m 29) + 1) ∧ (∀ M61, M61 = jup I60 m 29 ((I60 m 29) + 1) → q 1 M61))))) ∧ ((rnx I m) = 43 → jRV E (jA m) kX10_come [VR m, VI x2, VI 5, VI ((rnx M43 m) - 97), VI 0] G I51 (fun I63 => jIn ((I63 m 29) + 1) ∧ (∀ M64, M64 = jup I63 m 29 ((I63 m 29) + 1) → q 1 M64))))) ∧ (r52 = 0 → jRI E (jA m) kX10_isWrong [VR m, VI 5, VI ((I m 29) + 1)] G I51 (fun r67 I66 => (0 ≤ r67 ∧ r67 ≤ 1) ∧ q r67 I66))))) ∧ (¬ (nmd (rnx M43 m)) → jRI E (jA m) kX10_isWrong [VR m, VI 1, VI (((I m 29) + 1) + 1)] G M43 (fun r71 I70 => (0 ≤ r71 ∧ r71 ≤ 1) ∧ q r71 I70))))) ∧ (¬ (sby (rnx M38 m)) = 1 → jRI E (jA m) kX10_isWrong [VR m, VI 1, VI ((I m 29) + 1)] G M38 (fun r75 I74 => (0 ≤ r75 ∧ r75 ≤ 1) ∧ q r75 I74)))) ∧ ((rnx I m) = 126 → (((sby (rnx M38 m)) = 0 → jIn (((I m 29) + 1) + 1) ∧ (∀ M78, M78 = jup M38 m 29 (((I m 29) + 1) + 1) → (0 ≤ M78 m 29 ∧ M78 m 30 ≤ 300) ∧ (((nmd (rnx M78 m)) → (0 ≤ M78 m 29 ∧ M78 m 30 ≤ 300) ∧ jIn ((rnx M78 m) - 97) ∧ jRI E (jA m) kX10_isNamed [VR m, VI x1, VI (sby (rnx M38 m)), VI ((rnx M78 m) - 97)] G M78 (fun r87 I86 => ((¬ r87 = 0 → ((¬ (rnx I m) = 43 → ((¬ (rnx I m) = 45 → ((¬ (rnx I m) = 126 → jRV E (jA m) kX10_come [VR m, VI x2, VI (sby (rnx M38 m)), VI ((rnx M78 m) - 97), VI 0] G I86 (fun I89 => jIn ((I89 m 29) + 1) ∧ (∀ M90, M90 = jup I89 m 29 ((I89 m 29) + 1) → q 1 M90))) ∧ ((rnx I m) = 126 → jRV E (jA m) kX10_come [VR m, VI x2, VI 7, VI ((rnx M78 m) - 97), VI 0] G I86 (fun I92 => jIn ((I92 m 29) + 1) ∧ (∀ M93, M93 = jup I92 m 29 ((I92 m 29) + 1) → q 1 M93))))) ∧ ((rnx I m) = 45 → jRV E (jA m) kX10_come [VR m, VI x2, VI 6, VI ((rnx M78 m) - 97), VI 0] G I86 (fun I95 => jIn ((I95 m 29) + 1) ∧ (∀ M96, M96 = jup I95 m 29 ((I95 m 29) + 1) → q 1 M96))))) ∧ ((rnx I m) = 43 → jRV E (jA m) kX10_come [VR m, VI x2, VI 5, VI ((rnx M78 m) - 97), VI 0] G I86 (fun I98 => jIn ((I98 m 29) + 1) ∧ (∀ M99, M99 = jup I98 m 29 ((I98 m 29) + 1) → q 1 M99))))) ∧ (r87 = 0 → jRI E (jA m) kX10_isWrong [VR m, VI 5, VI ((I m 29) + 1)] G I86 (fun r102 I101 => (0 ≤ r102 ∧ r102 ≤ 1) ∧ q r102 I101))))) ∧ (¬ (nmd (rnx M78 m)) → jRI E (jA m) kX10_isWrong [VR m, VI 1, VI (((I m 29) + 1) + 1)] G M78 (fun r106 I105 => (0 ≤ r106 ∧ r106 ≤ 1) ∧ q r106 I105))))) ∧ (¬ (sby (rnx M38 m)) = 0 → jRI E (jA m) kX10_isWrong [VR m, VI 1, VI ((I m 29) + 1)] G M38 (fun r110 I109 => (0 ≤ r110 ∧ r110 ≤ 1) ∧ q r110 I109))))))))) ∧ ((rnx I m) = 39 → jRI E (jA m) kX10_readBytes [VR m, VI x2, VI 0] G I (fun r114 I113 => (0 ≤ r114 ∧ r114 ≤ 1) ∧ q r114 I113)))) : jRI E (jA m) kX10_readPart [VR m, VI x1, VI x2] G I q := jRun.of mt_X10_readPart.2.2.2 5 rfl (fun _ => st_X10_readPart_0 hm hT I (fun _ _ => rfl))
set_option maxRecDepth 20000 in
theorem st_X10_readElements_2 {E : jE} {G : jG} {I : jM} {q : Int → jM → Prop} {m : Nat} {x1 : Int} {x2 : Int} (hm : WX10 G m) (hT : (∀ a j, jRg (G.2.1 a).1 (I a j)) → jIn x1 → jIn x2 → (0 ≤ I m 29 ∧ I m 30 ≤ 300) ∧ ((¬ (bgE (rnx I m)) → ((x2 ≤ 0 → jRI E (jA m) kX10_isWrong [VR m, VI 1, VI (I m 29)] G I (fun r5 I4 => ((r5 = 0 → q 0 I4) ∧ (¬ r5 = 0 → q 1 I4)))) ∧ (¬ x2 ≤ 0 → (0 ≤ I m 29 ∧ I m 30 ≤ 300) ∧ (((rnx I m) = 62 → q 1 I) ∧ (¬ (rnx I m) = 62 → jRI E (jA m) kX10_isWrong [VR m, VI 1, VI (I m 29)] G I (fun r10 I9 => ((r10 = 0 → q 0 I9) ∧ (¬ r10 = 0 → q 1 I9)))))))) ∧ ((bgE (rnx I m)) → ((¬ x2 = 6 → jIn ((x1 + 4) + (3 * x2)) ∧ jRI E (jA m) kX10_readElement [VR m, VI ((x1 + 4) + (3 * x2))] G I (fun r14 I13 => ((¬ r14 = 0 → jIn (x2 + 1) ∧ ((0 : Int) ≤ (x1 + 2) ∧ ((x1 + 2) : Int) < 240) ∧ (∀ M18, M18 = jup I13 (m + 21) (x1 + 2) (x2 + 1) → jOI E (jA m) kX10_readElements 2 [VR m, VI x1, VI (x2 + 1)] G M18 q)) ∧ (r14 = 0 → q 0 I13)))) ∧ (x2 = 6 → jRI E (jA m) kX10_isWrong [VR m, VI 4, VI (I m 29)] G I (fun r20 I19 => (0 ≤ r20 ∧ r20 ≤ 1) ∧ q r20 I19)))))) : jOI E (jA m) kX10_readElements 2 [VR m, VI x1, VI x2] G I q := by
  intro I0 hF
  refine jOk_mem (fun hI => ?_)
  refine jOk_in (i := 1) rfl (fun hx1 => ?_)
  refine jOk_in (i := 2) rfl (fun hx2 => ?_)
  replace hT := hT hI hx1 hx2
  refine r_aload_n dX10_readElements_2 rfl (i := 0) rfl ?_
  obtain ⟨hc2, hT⟩ := hT
  refine rr_pVI (A := (jA m)) (v := rnx I m) (a := m) (as := []) (st := []) dX10_readElements_3 mt_X10_next ml_X10_262 mi_X10_next rm_X10_readElements_X10_next jz_X10_next ⟨Nat.zero_le _, Nat.zero_le _⟩ (Nat.le_of_ble_eq_true rfl) (wX10_l hm) (wX10_c hm) jas0 ((sp_X10_next hm) hc2) (fun hc1 => ?_)
  refine rr_pSI (A := (jA m)) (v := jI (bgE (rnx I m))) (as := [VI (rnx I m)]) (st := []) dX10_readElements_6 mt_X10_beginsElement ml_X10_289 ms_X10_beginsElement rm_X10_readElements_X10_beginsElement jz_X10_beginsElement ⟨Nat.zero_le _, Nat.zero_le _⟩ (Nat.le_of_ble_eq_true rfl) (jasI hc1 jas0) sp_X10_beginsElement (fun hc3 => ?_)
  refine r_if_eq (tgt := 59) dX10_readElements_9 rfl hc3 (fun hcc => ?_) (fun hcc => ?_)
  · replace hT := hT.1 (jI_n hcc)
    refine r_iload_n dX10_readElements_59 rfl (i := 2) rfl ?_
    refine r_if_le (tgt := 72) dX10_readElements_60 rfl hx2 (fun hcc => ?_) (fun hcc => ?_)
    · replace hT := hT.1 hcc
      refine r_aload_n dX10_readElements_72 rfl (i := 0) rfl ?_
      refine r_iconst (n := 1) dX10_readElements_73 ?_
      refine r_aload_n dX10_readElements_74 rfl (i := 0) rfl ?_
      refine rr_getI (v := I m 29) dX10_readElements_75 fg_X10_253 rfl (wX10_l hm) (wX10_s hm) rfl ?_
      refine rr_cVI (a := m) (as := [VI 1, VI (I m 29)]) (st := []) dX10_readElements_78 mt_X10_isWrong ml_X10_266 mi_X10_isWrong rm_X10_readElements_X10_isWrong jz_X10_isWrong ⟨Nat.zero_le _, Nat.zero_le _⟩ (Nat.le_of_ble_eq_true rfl) (wX10_l hm) (wX10_c hm) (jasI ⟨by decide, by decide⟩ (jasI (hI _ _).inR jas0)) hT (fun r5 I4 hc6 hFI4 hT => ?_)
      replace hFI4 := jFr_tr hF hFI4
      refine jOk_mem (fun hI4 => ?_)
      refine r_if_eq (tgt := 88) dX10_readElements_81 rfl hc6 (fun hcc => ?_) (fun hcc => ?_)
      · replace hT := hT.1 hcc
        refine r_iconst (n := 0) dX10_readElements_88 ?_
        exact r_zret dX10_readElements_89 rfl ⟨by decide, by decide⟩ ⟨Nat.zero_le _, Nat.zero_le _⟩ ⟨_, rfl, rfl, hFI4, hT⟩
      · replace hT := hT.2 hcc
        refine r_iconst (n := 1) dX10_readElements_84 ?_
        refine r_goto (tgt := 89) dX10_readElements_85 rfl ?_
        exact r_zret dX10_readElements_89 rfl ⟨by decide, by decide⟩ ⟨Nat.zero_le _, Nat.zero_le _⟩ ⟨_, rfl, rfl, hFI4, hT⟩
    · replace hT := hT.2 hcc
      refine r_aload_n dX10_readElements_63 rfl (i := 0) rfl ?_
      obtain ⟨hc8, hT⟩ := hT
      refine rr_pVI (A := (jA m)) (v := rnx I m) (a := m) (as := []) (st := []) dX10_readElements_64 mt_X10_next ml_X10_262 mi_X10_next rm_X10_readElements_X10_next jz_X10_next ⟨Nat.zero_le _, Nat.zero_le _⟩ (Nat.le_of_ble_eq_true rfl) (wX10_l hm) (wX10_c hm) jas0 ((sp_X10_next hm) hc8) (fun hc7 => ?_)
      refine r_bipush (n := 62) dX10_readElements_67 (by decide +kernel) ?_
      refine r_icmp_eq (tgt := 84) dX10_readElements_69 rfl hc7 ⟨by decide, by decide⟩ (fun hcc => ?_) (fun hcc => ?_)
      · replace hT := hT.1 hcc
        refine r_iconst (n := 1) dX10_readElements_84 ?_
        refine r_goto (tgt := 89) dX10_readElements_85 rfl ?_
        exact r_zret dX10_readElements_89 rfl ⟨by decide, by decide⟩ ⟨Nat.zero_le _, Nat.zero_le _⟩ ⟨_, rfl, rfl, hF, hT⟩
      · replace hT := hT.2 hcc
        refine r_aload_n dX10_readElements_72 rfl (i := 0) rfl ?_
        refine r_iconst (n := 1) dX10_readElements_73 ?_
        refine r_aload_n dX10_readElements_74 rfl (i := 0) rfl ?_
        refine rr_getI (v := I m 29) dX10_readElements_75 fg_X10_253 rfl (wX10_l hm) (wX10_s hm) rfl ?_
        refine rr_cVI (a := m) (as := [VI 1, VI (I m 29)]) (st := []) dX10_readElements_78 mt_X10_isWrong ml_X10_266 mi_X10_isWrong rm_X10_readElements_X10_isWrong jz_X10_isWrong ⟨Nat.zero_le _, Nat.zero_le _⟩ (Nat.le_of_ble_eq_true rfl) (wX10_l hm) (wX10_c hm) (jasI ⟨by decide, by decide⟩ (jasI (hI _ _).inR jas0)) hT (fun r10 I9 hc11 hFI9 hT => ?_)
        replace hFI9 := jFr_tr hF hFI9
        refine jOk_mem (fun hI9 => ?_)
        refine r_if_eq (tgt := 88) dX10_readElements_81 rfl hc11 (fun hcc => ?_) (fun hcc => ?_)
        · replace hT := hT.1 hcc
          refine r_iconst (n := 0) dX10_readElements_88 ?_
          exact r_zret dX10_readElements_89 rfl ⟨by decide, by decide⟩ ⟨Nat.zero_le _, Nat.zero_le _⟩ ⟨_, rfl, rfl, hFI9, hT⟩
        · replace hT := hT.2 hcc
          refine r_iconst (n := 1) dX10_readElements_84 ?_
          refine r_goto (tgt := 89) dX10_readElements_85 rfl ?_
          exact r_zret dX10_readElements_89 rfl ⟨by decide, by decide⟩ ⟨Nat.zero_le _, Nat.zero_le _⟩ ⟨_, rfl, rfl, hFI9, hT⟩
  · replace hT := hT.2 (jI_p hcc)
    refine r_iload_n dX10_readElements_12 rfl (i := 2) rfl ?_
    refine r_bipush (n := 6) dX10_readElements_13 (by decide +kernel) ?_
    refine r_icmp_ne (tgt := 28) dX10_readElements_15 rfl hx2 ⟨by decide, by decide⟩ (fun hcc => ?_) (fun hcc => ?_)
    · replace hT := hT.1 hcc
      refine r_aload_n dX10_readElements_28 rfl (i := 0) rfl ?_
      refine r_iload_n dX10_readElements_29 rfl (i := 1) rfl ?_
      refine r_iconst (n := 4) dX10_readElements_30 ?_
      refine r_iadd dX10_readElements_31 ?_
      refine r_iconst (n := 3) dX10_readElements_32 ?_
      refine r_iload_n dX10_readElements_33 rfl (i := 2) rfl ?_
      refine r_imul dX10_readElements_34 ?_
      refine r_iadd dX10_readElements_35 ?_
      obtain ⟨hc12, hT⟩ := hT
      refine rr_cVI (a := m) (as := [VI ((x1 + 4) + (3 * x2))]) (st := []) dX10_readElements_36 mt_X10_readElement ml_X10_292 mi_X10_readElement rm_X10_readElements_X10_readElement jz_X10_readElement ⟨Nat.zero_le _, Nat.zero_le _⟩ (Nat.le_of_ble_eq_true rfl) (wX10_l hm) (wX10_c hm) (jasI hc12 jas0) hT (fun r14 I13 hc15 hFI13 hT => ?_)
      replace hFI13 := jFr_tr hF hFI13
      refine jOk_mem (fun hI13 => ?_)
      refine r_if_ne (tgt := 44) dX10_readElements_39 rfl hc15 (fun hcc => ?_) (fun hcc => ?_)
      · replace hT := hT.1 hcc
        obtain ⟨hc16, hT⟩ := hT
        refine rr_iinc (i := 2) (ls' := [VR m, VI x1, VI (x2 + 1)]) dX10_readElements_44 rfl (Nat.le_of_ble_eq_true rfl) rfl rfl hc16 ?_
        refine r_aload_n dX10_readElements_47 rfl (i := 0) rfl ?_
        refine rr_getR (b := (m + 21)) dX10_readElements_48 fg_X10_71 rfl rfl (wX10_l hm) (wX10_s hm) (wX10_r27 hm) ?_
        refine r_iload_n dX10_readElements_51 rfl (i := 1) rfl ?_
        refine r_iconst (n := 2) dX10_readElements_52 ?_
        refine r_iadd dX10_readElements_53 ?_
        refine r_iload_n dX10_readElements_54 rfl (i := 2) rfl ?_
        obtain ⟨hc17, hT⟩ := hT
        refine rr_iastore dX10_readElements_55 (wX10_l27 hm) (wX10_a27 hm) (by decide) hc17 hc16 (fun M18 eM18 => ?_)
        have hFM18 := jFr_up hFI13 eM18 (wX10_f hm 21 (by decide))
        replace hT := hT M18 eM18
        refine jOk_mem (fun hIM18 => ?_)
        refine r_goto (tgt := 2) dX10_readElements_56 rfl ?_
        exact hT I0 hFM18
      · replace hT := hT.2 hcc
        refine r_iconst (n := 0) dX10_readElements_42 ?_
        exact r_zret dX10_readElements_43 rfl ⟨by decide, by decide⟩ ⟨Nat.zero_le _, Nat.zero_le _⟩ ⟨_, rfl, rfl, hFI13, hT⟩
    · replace hT := hT.2 hcc
      refine r_aload_n dX10_readElements_18 rfl (i := 0) rfl ?_
      refine r_iconst (n := 4) dX10_readElements_19 ?_
      refine r_aload_n dX10_readElements_20 rfl (i := 0) rfl ?_
      refine rr_getI (v := I m 29) dX10_readElements_21 fg_X10_253 rfl (wX10_l hm) (wX10_s hm) rfl ?_
      refine rr_cVI (a := m) (as := [VI 4, VI (I m 29)]) (st := []) dX10_readElements_24 mt_X10_isWrong ml_X10_266 mi_X10_isWrong rm_X10_readElements_X10_isWrong jz_X10_isWrong ⟨Nat.zero_le _, Nat.zero_le _⟩ (Nat.le_of_ble_eq_true rfl) (wX10_l hm) (wX10_c hm) (jasI ⟨by decide, by decide⟩ (jasI (hI _ _).inR jas0)) hT (fun r20 I19 hc21 hFI19 hT => ?_)
      replace hFI19 := jFr_tr hF hFI19
      refine jOk_mem (fun hI19 => ?_)
      obtain ⟨hc22, hT⟩ := hT
      exact r_zret dX10_readElements_27 rfl hc22 ⟨Nat.zero_le _, Nat.zero_le _⟩ ⟨_, rfl, rfl, hFI19, hT⟩
set_option maxRecDepth 20000 in
theorem st_X10_readElements_0 {E : jE} {G : jG} {I : jM} {q : Int → jM → Prop} {m : Nat} {x1 : Int} (hm : WX10 G m) (hT : (∀ a j, jRg (G.2.1 a).1 (I a j)) → jIn x1 → jOI E (jA m) kX10_readElements 2 [VR m, VI x1, VI 0] G I q) : jOI E (jA m) kX10_readElements 0 [VR m, VI x1, VN] G I q := by
  intro I0 hF
  refine jOk_mem (fun hI => ?_)
  refine jOk_in (i := 1) rfl (fun hx1 => ?_)
  replace hT := hT hI hx1
  refine r_iconst (n := 0) dX10_readElements_0 ?_
  refine rr_istore_n (i := 2) (ls' := [VR m, VI x1, VI 0]) dX10_readElements_1 rfl (Nat.le_of_ble_eq_true rfl) rfl rfl ⟨by decide, by decide⟩ ?_
  exact hT I0 hF
theorem en_X10_readElements {E : jE} {G : jG} {I : jM} {q : Int → jM → Prop} {m : Nat} {x1 : Int} (hm : WX10 G m) (hT : (∀ a j, jRg (G.2.1 a).1 (I a j)) → jIn x1 → jOI E (jA m) kX10_readElements 2 [VR m, VI x1, VI 0] G I q) : jRI E (jA m) kX10_readElements [VR m, VI x1] G I q := jRun.of mt_X10_readElements.2.2.2 1 rfl (fun _ => st_X10_readElements_0 hm hT I (fun _ _ => rfl))
set_option maxRecDepth 20000 in
theorem st_X10_readParts_2 {E : jE} {G : jG} {I : jM} {q : Int → jM → Prop} {m : Nat} {x1 : Int} {x2 : Int} (hm : WX10 G m) (hT : (∀ a j, jRg (G.2.1 a).1 (I a j)) → jIn x1 → jIn x2 → (0 ≤ I m 29 ∧ I m 30 ≤ 300) ∧ ((¬ (bgP (rnx I m)) → (0 ≤ I m 29 ∧ I m 30 ≤ 300) ∧ (((rnx I m) = (-1) → q 1 I) ∧ (¬ (rnx I m) = (-1) → (0 ≤ I m 29 ∧ I m 30 ≤ 300) ∧ (((rnx I m) = 59 → q 1 I) ∧ (¬ (rnx I m) = 59 → jRI E (jA m) kX10_isWrong [VR m, VI 1, VI (I m 29)] G I (fun r9 I8 => ((r9 = 0 → q 0 I8) ∧ (¬ r9 = 0 → q 1 I8)))))))) ∧ ((bgP (rnx I m)) → ((¬ x2 = 6 → jIn ((x1 + 22) + (3 * x2)) ∧ jRI E (jA m) kX10_readPart [VR m, VI x1, VI ((x1 + 22) + (3 * x2))] G I (fun r13 I12 => ((¬ r13 = 0 → jIn (x2 + 1) ∧ ((0 : Int) ≤ (x1 + 3) ∧ ((x1 + 3) : Int) < 240) ∧ (∀ M17, M17 = jup I12 (m + 21) (x1 + 3) (x2 + 1) → jOI E (jA m) kX10_readParts 2 [VR m, VI x1, VI (x2 + 1)] G M17 q)) ∧ (r13 = 0 → q 0 I12)))) ∧ (x2 = 6 → jRI E (jA m) kX10_isWrong [VR m, VI 4, VI (I m 29)] G I (fun r19 I18 => (0 ≤ r19 ∧ r19 ≤ 1) ∧ q r19 I18)))))) : jOI E (jA m) kX10_readParts 2 [VR m, VI x1, VI x2] G I q := by
  intro I0 hF
  refine jOk_mem (fun hI => ?_)
  refine jOk_in (i := 1) rfl (fun hx1 => ?_)
  refine jOk_in (i := 2) rfl (fun hx2 => ?_)
  replace hT := hT hI hx1 hx2
  refine r_aload_n dX10_readParts_2 rfl (i := 0) rfl ?_
  obtain ⟨hc2, hT⟩ := hT
  refine rr_pVI (A := (jA m)) (v := rnx I m) (a := m) (as := []) (st := []) dX10_readParts_3 mt_X10_next ml_X10_262 mi_X10_next rm_X10_readParts_X10_next jz_X10_next ⟨Nat.zero_le _, Nat.zero_le _⟩ (Nat.le_of_ble_eq_true rfl) (wX10_l hm) (wX10_c hm) jas0 ((sp_X10_next hm) hc2) (fun hc1 => ?_)
  refine rr_pSI (A := (jA m)) (v := jI (bgP (rnx I m))) (as := [VI (rnx I m)]) (st := []) dX10_readParts_6 mt_X10_beginsPart ml_X10_295 ms_X10_beginsPart rm_X10_readParts_X10_beginsPart jz_X10_beginsPart ⟨Nat.zero_le _, Nat.zero_le _⟩ (Nat.le_of_ble_eq_true rfl) (jasI hc1 jas0) sp_X10_beginsPart (fun hc3 => ?_)
  refine r_if_eq (tgt := 61) dX10_readParts_9 rfl hc3 (fun hcc => ?_) (fun hcc => ?_)
  · replace hT := hT.1 (jI_n hcc)
    refine r_aload_n dX10_readParts_61 rfl (i := 0) rfl ?_
    obtain ⟨hc5, hT⟩ := hT
    refine rr_pVI (A := (jA m)) (v := rnx I m) (a := m) (as := []) (st := []) dX10_readParts_62 mt_X10_next ml_X10_262 mi_X10_next rm_X10_readParts_X10_next jz_X10_next ⟨Nat.zero_le _, Nat.zero_le _⟩ (Nat.le_of_ble_eq_true rfl) (wX10_l hm) (wX10_c hm) jas0 ((sp_X10_next hm) hc5) (fun hc4 => ?_)
    refine r_iconst (n := (-1)) dX10_readParts_65 ?_
    refine r_icmp_eq (tgt := 90) dX10_readParts_66 rfl hc4 ⟨by decide, by decide⟩ (fun hcc => ?_) (fun hcc => ?_)
    · replace hT := hT.1 hcc
      refine r_iconst (n := 1) dX10_readParts_90 ?_
      refine r_goto (tgt := 95) dX10_readParts_91 rfl ?_
      exact r_zret dX10_readParts_95 rfl ⟨by decide, by decide⟩ ⟨Nat.zero_le _, Nat.zero_le _⟩ ⟨_, rfl, rfl, hF, hT⟩
    · replace hT := hT.2 hcc
      refine r_aload_n dX10_readParts_69 rfl (i := 0) rfl ?_
      obtain ⟨hc7, hT⟩ := hT
      refine rr_pVI (A := (jA m)) (v := rnx I m) (a := m) (as := []) (st := []) dX10_readParts_70 mt_X10_next ml_X10_262 mi_X10_next rm_X10_readParts_X10_next jz_X10_next ⟨Nat.zero_le _, Nat.zero_le _⟩ (Nat.le_of_ble_eq_true rfl) (wX10_l hm) (wX10_c hm) jas0 ((sp_X10_next hm) hc7) (fun hc6 => ?_)
      refine r_bipush (n := 59) dX10_readParts_73 (by decide +kernel) ?_
      refine r_icmp_eq (tgt := 90) dX10_readParts_75 rfl hc6 ⟨by decide, by decide⟩ (fun hcc => ?_) (fun hcc => ?_)
      · replace hT := hT.1 hcc
        refine r_iconst (n := 1) dX10_readParts_90 ?_
        refine r_goto (tgt := 95) dX10_readParts_91 rfl ?_
        exact r_zret dX10_readParts_95 rfl ⟨by decide, by decide⟩ ⟨Nat.zero_le _, Nat.zero_le _⟩ ⟨_, rfl, rfl, hF, hT⟩
      · replace hT := hT.2 hcc
        refine r_aload_n dX10_readParts_78 rfl (i := 0) rfl ?_
        refine r_iconst (n := 1) dX10_readParts_79 ?_
        refine r_aload_n dX10_readParts_80 rfl (i := 0) rfl ?_
        refine rr_getI (v := I m 29) dX10_readParts_81 fg_X10_253 rfl (wX10_l hm) (wX10_s hm) rfl ?_
        refine rr_cVI (a := m) (as := [VI 1, VI (I m 29)]) (st := []) dX10_readParts_84 mt_X10_isWrong ml_X10_266 mi_X10_isWrong rm_X10_readParts_X10_isWrong jz_X10_isWrong ⟨Nat.zero_le _, Nat.zero_le _⟩ (Nat.le_of_ble_eq_true rfl) (wX10_l hm) (wX10_c hm) (jasI ⟨by decide, by decide⟩ (jasI (hI _ _).inR jas0)) hT (fun r9 I8 hc10 hFI8 hT => ?_)
        replace hFI8 := jFr_tr hF hFI8
        refine jOk_mem (fun hI8 => ?_)
        refine r_if_eq (tgt := 94) dX10_readParts_87 rfl hc10 (fun hcc => ?_) (fun hcc => ?_)
        · replace hT := hT.1 hcc
          refine r_iconst (n := 0) dX10_readParts_94 ?_
          exact r_zret dX10_readParts_95 rfl ⟨by decide, by decide⟩ ⟨Nat.zero_le _, Nat.zero_le _⟩ ⟨_, rfl, rfl, hFI8, hT⟩
        · replace hT := hT.2 hcc
          refine r_iconst (n := 1) dX10_readParts_90 ?_
          refine r_goto (tgt := 95) dX10_readParts_91 rfl ?_
          exact r_zret dX10_readParts_95 rfl ⟨by decide, by decide⟩ ⟨Nat.zero_le _, Nat.zero_le _⟩ ⟨_, rfl, rfl, hFI8, hT⟩
  · replace hT := hT.2 (jI_p hcc)
    refine r_iload_n dX10_readParts_12 rfl (i := 2) rfl ?_
    refine r_bipush (n := 6) dX10_readParts_13 (by decide +kernel) ?_
    refine r_icmp_ne (tgt := 28) dX10_readParts_15 rfl hx2 ⟨by decide, by decide⟩ (fun hcc => ?_) (fun hcc => ?_)
    · replace hT := hT.1 hcc
      refine r_aload_n dX10_readParts_28 rfl (i := 0) rfl ?_
      refine r_iload_n dX10_readParts_29 rfl (i := 1) rfl ?_
      refine r_iload_n dX10_readParts_30 rfl (i := 1) rfl ?_
      refine r_bipush (n := 22) dX10_readParts_31 (by decide +kernel) ?_
      refine r_iadd dX10_readParts_33 ?_
      refine r_iconst (n := 3) dX10_readParts_34 ?_
      refine r_iload_n dX10_readParts_35 rfl (i := 2) rfl ?_
      refine r_imul dX10_readParts_36 ?_
      refine r_iadd dX10_readParts_37 ?_
      obtain ⟨hc11, hT⟩ := hT
      refine rr_cVI (a := m) (as := [VI x1, VI ((x1 + 22) + (3 * x2))]) (st := []) dX10_readParts_38 mt_X10_readPart ml_X10_298 mi_X10_readPart rm_X10_readParts_X10_readPart jz_X10_readPart ⟨Nat.zero_le _, Nat.zero_le _⟩ (Nat.le_of_ble_eq_true rfl) (wX10_l hm) (wX10_c hm) (jasI hx1 (jasI hc11 jas0)) hT (fun r13 I12 hc14 hFI12 hT => ?_)
      replace hFI12 := jFr_tr hF hFI12
      refine jOk_mem (fun hI12 => ?_)
      refine r_if_ne (tgt := 46) dX10_readParts_41 rfl hc14 (fun hcc => ?_) (fun hcc => ?_)
      · replace hT := hT.1 hcc
        obtain ⟨hc15, hT⟩ := hT
        refine rr_iinc (i := 2) (ls' := [VR m, VI x1, VI (x2 + 1)]) dX10_readParts_46 rfl (Nat.le_of_ble_eq_true rfl) rfl rfl hc15 ?_
        refine r_aload_n dX10_readParts_49 rfl (i := 0) rfl ?_
        refine rr_getR (b := (m + 21)) dX10_readParts_50 fg_X10_71 rfl rfl (wX10_l hm) (wX10_s hm) (wX10_r27 hm) ?_
        refine r_iload_n dX10_readParts_53 rfl (i := 1) rfl ?_
        refine r_iconst (n := 3) dX10_readParts_54 ?_
        refine r_iadd dX10_readParts_55 ?_
        refine r_iload_n dX10_readParts_56 rfl (i := 2) rfl ?_
        obtain ⟨hc16, hT⟩ := hT
        refine rr_iastore dX10_readParts_57 (wX10_l27 hm) (wX10_a27 hm) (by decide) hc16 hc15 (fun M17 eM17 => ?_)
        have hFM17 := jFr_up hFI12 eM17 (wX10_f hm 21 (by decide))
        replace hT := hT M17 eM17
        refine jOk_mem (fun hIM17 => ?_)
        refine r_goto (tgt := 2) dX10_readParts_58 rfl ?_
        exact hT I0 hFM17
      · replace hT := hT.2 hcc
        refine r_iconst (n := 0) dX10_readParts_44 ?_
        exact r_zret dX10_readParts_45 rfl ⟨by decide, by decide⟩ ⟨Nat.zero_le _, Nat.zero_le _⟩ ⟨_, rfl, rfl, hFI12, hT⟩
    · replace hT := hT.2 hcc
      refine r_aload_n dX10_readParts_18 rfl (i := 0) rfl ?_
      refine r_iconst (n := 4) dX10_readParts_19 ?_
      refine r_aload_n dX10_readParts_20 rfl (i := 0) rfl ?_
      refine rr_getI (v := I m 29) dX10_readParts_21 fg_X10_253 rfl (wX10_l hm) (wX10_s hm) rfl ?_
      refine rr_cVI (a := m) (as := [VI 4, VI (I m 29)]) (st := []) dX10_readParts_24 mt_X10_isWrong ml_X10_266 mi_X10_isWrong rm_X10_readParts_X10_isWrong jz_X10_isWrong ⟨Nat.zero_le _, Nat.zero_le _⟩ (Nat.le_of_ble_eq_true rfl) (wX10_l hm) (wX10_c hm) (jasI ⟨by decide, by decide⟩ (jasI (hI _ _).inR jas0)) hT (fun r19 I18 hc20 hFI18 hT => ?_)
      replace hFI18 := jFr_tr hF hFI18
      refine jOk_mem (fun hI18 => ?_)
      obtain ⟨hc21, hT⟩ := hT
      exact r_zret dX10_readParts_27 rfl hc21 ⟨Nat.zero_le _, Nat.zero_le _⟩ ⟨_, rfl, rfl, hFI18, hT⟩
set_option maxRecDepth 20000 in
theorem st_X10_readParts_0 {E : jE} {G : jG} {I : jM} {q : Int → jM → Prop} {m : Nat} {x1 : Int} (hm : WX10 G m) (hT : (∀ a j, jRg (G.2.1 a).1 (I a j)) → jIn x1 → jOI E (jA m) kX10_readParts 2 [VR m, VI x1, VI 0] G I q) : jOI E (jA m) kX10_readParts 0 [VR m, VI x1, VN] G I q := by
  intro I0 hF
  refine jOk_mem (fun hI => ?_)
  refine jOk_in (i := 1) rfl (fun hx1 => ?_)
  replace hT := hT hI hx1
  refine r_iconst (n := 0) dX10_readParts_0 ?_
  refine rr_istore_n (i := 2) (ls' := [VR m, VI x1, VI 0]) dX10_readParts_1 rfl (Nat.le_of_ble_eq_true rfl) rfl rfl ⟨by decide, by decide⟩ ?_
  exact hT I0 hF
theorem en_X10_readParts {E : jE} {G : jG} {I : jM} {q : Int → jM → Prop} {m : Nat} {x1 : Int} (hm : WX10 G m) (hT : (∀ a j, jRg (G.2.1 a).1 (I a j)) → jIn x1 → jOI E (jA m) kX10_readParts 2 [VR m, VI x1, VI 0] G I q) : jRI E (jA m) kX10_readParts [VR m, VI x1] G I q := jRun.of mt_X10_readParts.2.2.2 1 rfl (fun _ => st_X10_readParts_0 hm hT I (fun _ _ => rfl))
set_option maxRecDepth 20000 in
theorem st_X10_readRule_141 {E : jE} {G : jG} {I : jM} {q : Int → jM → Prop} {m : Nat} {x1 : Int} {x2 : Int} {x3 : Int} {x4 : Int} (hm : WX10 G m) (hT : (∀ a j, jRg (G.2.1 a).1 (I a j)) → jIn x1 → jIn x2 → jIn x3 → jIn x4 → ((40 ≤ x4 → ((0 : Int) ≤ x3 ∧ (x3 : Int) < 240) ∧ (∀ M2, M2 = jup I (m + 21) x3 x2 → ((0 : Int) ≤ (x3 + 1) ∧ ((x3 + 1) : Int) < 240) ∧ (∀ M4, M4 = jup M2 (m + 21) (x3 + 1) 1 → jRI E (jA m) kX10_readElements [VR m, VI x3] G M4 (fun r6 I5 => ((¬ r6 = 0 → jIn ((I5 m 29) + 1) ∧ (∀ M8, M8 = jup I5 m 29 ((I5 m 29) + 1) → jRI E (jA m) kX10_readParts [VR m, VI x3] G M8 (fun r11 I10 => ((¬ r11 = 0 → jIn ((I10 m 28) + 1) ∧ (∀ M13, M13 = jup I10 m 28 ((I10 m 28) + 1) → q 1 M13)) ∧ (r11 = 0 → q 0 I10))))) ∧ (r6 = 0 → q 0 I5)))))) ∧ (¬ 40 ≤ x4 → ((0 : Int) ≤ (x3 + x4) ∧ ((x3 + x4) : Int) < 240) ∧ (∀ M16, M16 = jup I (m + 21) (x3 + x4) 0 → jIn (x4 + 1) ∧ jOI E (jA m) kX10_readRule 141 [VR m, VI x1, VI x2, VI x3, VI (x4 + 1)] G M16 q)))) : jOI E (jA m) kX10_readRule 141 [VR m, VI x1, VI x2, VI x3, VI x4] G I q := by
  intro I0 hF
  refine jOk_mem (fun hI => ?_)
  refine jOk_in (i := 1) rfl (fun hx1 => ?_)
  refine jOk_in (i := 2) rfl (fun hx2 => ?_)
  refine jOk_in (i := 3) rfl (fun hx3 => ?_)
  refine jOk_in (i := 4) rfl (fun hx4 => ?_)
  replace hT := hT hI hx1 hx2 hx3 hx4
  refine r_iload dX10_readRule_141 (i := 4) rfl ?_
  refine r_bipush (n := 40) dX10_readRule_143 (by decide +kernel) ?_
  refine r_icmp_ge (tgt := 164) dX10_readRule_145 rfl hx4 ⟨by decide, by decide⟩ (fun hcc => ?_) (fun hcc => ?_)
  · replace hT := hT.1 hcc
    refine r_aload_n dX10_readRule_164 rfl (i := 0) rfl ?_
    refine rr_getR (b := (m + 21)) dX10_readRule_165 fg_X10_71 rfl rfl (wX10_l hm) (wX10_s hm) (wX10_r27 hm) ?_
    refine r_iload_n dX10_readRule_168 rfl (i := 3) rfl ?_
    refine r_iload_n dX10_readRule_169 rfl (i := 2) rfl ?_
    obtain ⟨hc1, hT⟩ := hT
    refine rr_iastore dX10_readRule_170 (wX10_l27 hm) (wX10_a27 hm) (by decide) hc1 hx2 (fun M2 eM2 => ?_)
    have hFM2 := jFr_up hF eM2 (wX10_f hm 21 (by decide))
    replace hT := hT M2 eM2
    refine jOk_mem (fun hIM2 => ?_)
    refine r_aload_n dX10_readRule_171 rfl (i := 0) rfl ?_
    refine rr_getR (b := (m + 21)) dX10_readRule_172 fg_X10_71 rfl rfl (wX10_l hm) (wX10_s hm) (wX10_r27 hm) ?_
    refine r_iload_n dX10_readRule_175 rfl (i := 3) rfl ?_
    refine r_iconst (n := 1) dX10_readRule_176 ?_
    refine r_iadd dX10_readRule_177 ?_
    refine r_iconst (n := 1) dX10_readRule_178 ?_
    obtain ⟨hc3, hT⟩ := hT
    refine rr_iastore dX10_readRule_179 (wX10_l27 hm) (wX10_a27 hm) (by decide) hc3 ⟨by decide, by decide⟩ (fun M4 eM4 => ?_)
    have hFM4 := jFr_up hFM2 eM4 (wX10_f hm 21 (by decide))
    replace hT := hT M4 eM4
    refine jOk_mem (fun hIM4 => ?_)
    refine r_aload_n dX10_readRule_180 rfl (i := 0) rfl ?_
    refine r_iload_n dX10_readRule_181 rfl (i := 3) rfl ?_
    refine rr_cVI (a := m) (as := [VI x3]) (st := []) dX10_readRule_182 mt_X10_readElements ml_X10_304 mi_X10_readElements rm_X10_readRule_X10_readElements jz_X10_readElements ⟨Nat.zero_le _, Nat.zero_le _⟩ (Nat.le_of_ble_eq_true rfl) (wX10_l hm) (wX10_c hm) (jasI hx3 jas0) hT (fun r6 I5 hc7 hFI5 hT => ?_)
    replace hFI5 := jFr_tr hFM4 hFI5
    refine jOk_mem (fun hI5 => ?_)
    refine r_if_ne (tgt := 190) dX10_readRule_185 rfl hc7 (fun hcc => ?_) (fun hcc => ?_)
    · replace hT := hT.1 hcc
      refine r_aload_n dX10_readRule_190 rfl (i := 0) rfl ?_
      refine r_dup dX10_readRule_191 rfl ?_
      refine rr_getI (v := I5 m 29) dX10_readRule_192 fg_X10_253 rfl (wX10_l hm) (wX10_s hm) rfl ?_
      refine r_iconst (n := 1) dX10_readRule_195 ?_
      refine r_iadd dX10_readRule_196 ?_
      obtain ⟨hc9, hT⟩ := hT
      refine rr_putI (jj := 29) dX10_readRule_197 fp_X10_253 rfl rfl (wX10_l hm) (wX10_s hm) hc9 (fun M8 eM8 => ?_)
      have hFM8 := jFr_up hFI5 eM8 (wX10_f hm 0 (by decide))
      replace hT := hT M8 eM8
      refine jOk_mem (fun hIM8 => ?_)
      refine r_aload_n dX10_readRule_200 rfl (i := 0) rfl ?_
      refine r_iload_n dX10_readRule_201 rfl (i := 3) rfl ?_
      refine rr_cVI (a := m) (as := [VI x3]) (st := []) dX10_readRule_202 mt_X10_readParts ml_X10_307 mi_X10_readParts rm_X10_readRule_X10_readParts jz_X10_readParts ⟨Nat.zero_le _, Nat.zero_le _⟩ (Nat.le_of_ble_eq_true rfl) (wX10_l hm) (wX10_c hm) (jasI hx3 jas0) hT (fun r11 I10 hc12 hFI10 hT => ?_)
      replace hFI10 := jFr_tr hFM8 hFI10
      refine jOk_mem (fun hI10 => ?_)
      refine r_if_ne (tgt := 210) dX10_readRule_205 rfl hc12 (fun hcc => ?_) (fun hcc => ?_)
      · replace hT := hT.1 hcc
        refine r_aload_n dX10_readRule_210 rfl (i := 0) rfl ?_
        refine r_dup dX10_readRule_211 rfl ?_
        refine rr_getI (v := I10 m 28) dX10_readRule_212 fg_X10_301 rfl (wX10_l hm) (wX10_s hm) rfl ?_
        refine r_iconst (n := 1) dX10_readRule_215 ?_
        refine r_iadd dX10_readRule_216 ?_
        obtain ⟨hc14, hT⟩ := hT
        refine rr_putI (jj := 28) dX10_readRule_217 fp_X10_301 rfl rfl (wX10_l hm) (wX10_s hm) hc14 (fun M13 eM13 => ?_)
        have hFM13 := jFr_up hFI10 eM13 (wX10_f hm 0 (by decide))
        replace hT := hT M13 eM13
        refine jOk_mem (fun hIM13 => ?_)
        refine r_iconst (n := 1) dX10_readRule_220 ?_
        exact r_zret dX10_readRule_221 rfl ⟨by decide, by decide⟩ ⟨Nat.zero_le _, Nat.zero_le _⟩ ⟨_, rfl, rfl, hFM13, hT⟩
      · replace hT := hT.2 hcc
        refine r_iconst (n := 0) dX10_readRule_208 ?_
        exact r_zret dX10_readRule_209 rfl ⟨by decide, by decide⟩ ⟨Nat.zero_le _, Nat.zero_le _⟩ ⟨_, rfl, rfl, hFI10, hT⟩
    · replace hT := hT.2 hcc
      refine r_iconst (n := 0) dX10_readRule_188 ?_
      exact r_zret dX10_readRule_189 rfl ⟨by decide, by decide⟩ ⟨Nat.zero_le _, Nat.zero_le _⟩ ⟨_, rfl, rfl, hFI5, hT⟩
  · replace hT := hT.2 hcc
    refine r_aload_n dX10_readRule_148 rfl (i := 0) rfl ?_
    refine rr_getR (b := (m + 21)) dX10_readRule_149 fg_X10_71 rfl rfl (wX10_l hm) (wX10_s hm) (wX10_r27 hm) ?_
    refine r_iload_n dX10_readRule_152 rfl (i := 3) rfl ?_
    refine r_iload dX10_readRule_153 (i := 4) rfl ?_
    refine r_iadd dX10_readRule_155 ?_
    refine r_iconst (n := 0) dX10_readRule_156 ?_
    obtain ⟨hc15, hT⟩ := hT
    refine rr_iastore dX10_readRule_157 (wX10_l27 hm) (wX10_a27 hm) (by decide) hc15 ⟨by decide, by decide⟩ (fun M16 eM16 => ?_)
    have hFM16 := jFr_up hF eM16 (wX10_f hm 21 (by decide))
    replace hT := hT M16 eM16
    refine jOk_mem (fun hIM16 => ?_)
    obtain ⟨hc17, hT⟩ := hT
    refine rr_iinc (i := 4) (ls' := [VR m, VI x1, VI x2, VI x3, VI (x4 + 1)]) dX10_readRule_158 rfl (Nat.le_of_ble_eq_true rfl) rfl rfl hc17 ?_
    refine r_goto (tgt := 141) dX10_readRule_161 rfl ?_
    exact hT I0 hFM16
set_option maxRecDepth 20000 in
theorem st_X10_readRule_7 {E : jE} {G : jG} {I : jM} {q : Int → jM → Prop} {m : Nat} {x1 : Int} {x2 : Int} (hm : WX10 G m) (hT : (∀ a j, jRg (G.2.1 a).1 (I a j)) → jIn x1 → jIn x2 → (0 ≤ I m 29 ∧ I m 30 ≤ 300) ∧ ((¬ (48 ≤ (rnx I m) ∧ (rnx I m) ≤ 57) → ((¬ (I m 29) = x1 → (((1 ≤ x2 ∧ x2 ≤ 99) → ((¬ (I m 28) = 6 → (0 ≤ I m 29 ∧ I m 30 ≤ 300) ∧ (((rnx I m) = 58 → jIn ((I m 29) + 1) ∧ (∀ M7, M7 = jup I m 29 ((I m 29) + 1) → jIn (40 * (I m 28)) ∧ jOI E (jA m) kX10_readRule 141 [VR m, VI x1, VI x2, VI (40 * (I m 28)), VI 0] G M7 q)) ∧ (¬ (rnx I m) = 58 → jRI E (jA m) kX10_isWrong [VR m, VI 1, VI (I m 29)] G I (fun r11 I10 => (0 ≤ r11 ∧ r11 ≤ 1) ∧ q r11 I10)))) ∧ ((I m 28) = 6 → jRI E (jA m) kX10_isWrong [VR m, VI 3, VI x1] G I (fun r15 I14 => (0 ≤ r15 ∧ r15 ≤ 1) ∧ q r15 I14)))) ∧ (¬ (1 ≤ x2 ∧ x2 ≤ 99) → jRI E (jA m) kX10_isWrong [VR m, VI 2, VI x1] G I (fun r19 I18 => (0 ≤ r19 ∧ r19 ≤ 1) ∧ q r19 I18)))) ∧ ((I m 29) = x1 → jRI E (jA m) kX10_isWrong [VR m, VI 1, VI x1] G I (fun r23 I22 => (0 ≤ r23 ∧ r23 ≤ 1) ∧ q r23 I22)))) ∧ ((48 ≤ (rnx I m) ∧ (rnx I m) ≤ 57) → ((x2 ≤ 99 → (0 ≤ I m 29 ∧ I m 30 ≤ 300) ∧ jIn (((10 * x2) + (rnx I m)) - 48) ∧ jIn ((I m 29) + 1) ∧ (∀ M29, M29 = jup I m 29 ((I m 29) + 1) → jOI E (jA m) kX10_readRule 7 [VR m, VI x1, VI (((10 * x2) + (rnx I m)) - 48), VN, VN] G M29 q)) ∧ (¬ x2 ≤ 99 → jIn ((I m 29) + 1) ∧ (∀ M31, M31 = jup I m 29 ((I m 29) + 1) → jOI E (jA m) kX10_readRule 7 [VR m, VI x1, VI x2, VN, VN] G M31 q)))))) : jOI E (jA m) kX10_readRule 7 [VR m, VI x1, VI x2, VN, VN] G I q := by
  intro I0 hF
  refine jOk_mem (fun hI => ?_)
  refine jOk_in (i := 1) rfl (fun hx1 => ?_)
  refine jOk_in (i := 2) rfl (fun hx2 => ?_)
  replace hT := hT hI hx1 hx2
  refine r_aload_n dX10_readRule_7 rfl (i := 0) rfl ?_
  obtain ⟨hc2, hT⟩ := hT
  refine rr_pVI (A := (jA m)) (v := rnx I m) (a := m) (as := []) (st := []) dX10_readRule_8 mt_X10_next ml_X10_262 mi_X10_next rm_X10_readRule_X10_next jz_X10_next ⟨Nat.zero_le _, Nat.zero_le _⟩ (Nat.le_of_ble_eq_true rfl) (wX10_l hm) (wX10_c hm) jas0 ((sp_X10_next hm) hc2) (fun hc1 => ?_)
  refine rr_pSI (A := (jA m)) (v := jI (48 ≤ (rnx I m) ∧ (rnx I m) ≤ 57)) (as := [VI (rnx I m)]) (st := []) dX10_readRule_11 mt_X10_isFigure ml_X10_111 ms_X10_isFigure rm_X10_readRule_X10_isFigure jz_X10_isFigure ⟨Nat.zero_le _, Nat.zero_le _⟩ (Nat.le_of_ble_eq_true rfl) (jasI hc1 jas0) sp_X10_isFigure (fun hc3 => ?_)
  refine r_if_eq (tgt := 53) dX10_readRule_14 rfl hc3 (fun hcc => ?_) (fun hcc => ?_)
  · replace hT := hT.1 (jI_n hcc)
    refine r_aload_n dX10_readRule_53 rfl (i := 0) rfl ?_
    refine rr_getI (v := I m 29) dX10_readRule_54 fg_X10_253 rfl (wX10_l hm) (wX10_s hm) rfl ?_
    refine r_iload_n dX10_readRule_57 rfl (i := 1) rfl ?_
    refine r_icmp_ne (tgt := 68) dX10_readRule_58 rfl (hI _ _).inR hx1 (fun hcc => ?_) (fun hcc => ?_)
    · replace hT := hT.1 hcc
      refine r_iload_n dX10_readRule_68 rfl (i := 2) rfl ?_
      refine r_iconst (n := 1) dX10_readRule_69 ?_
      refine r_bipush (n := 99) dX10_readRule_70 (by decide +kernel) ?_
      refine rr_pSI (A := (jA m)) (v := jI (1 ≤ x2 ∧ x2 ≤ 99)) (as := [VI x2, VI 1, VI 99]) (st := []) dX10_readRule_72 mt_X10_isIn ml_X10_103 ms_X10_isIn rm_X10_readRule_X10_isIn jz_X10_isIn ⟨Nat.zero_le _, Nat.zero_le _⟩ (Nat.le_of_ble_eq_true rfl) (jasI hx2 (jasI ⟨by decide, by decide⟩ (jasI ⟨by decide, by decide⟩ jas0))) sp_X10_isIn (fun hc4 => ?_)
      refine r_if_ne (tgt := 85) dX10_readRule_75 rfl hc4 (fun hcc => ?_) (fun hcc => ?_)
      · replace hT := hT.1 (jI_p hcc)
        refine r_aload_n dX10_readRule_85 rfl (i := 0) rfl ?_
        refine rr_getI (v := I m 28) dX10_readRule_86 fg_X10_301 rfl (wX10_l hm) (wX10_s hm) rfl ?_
        refine r_bipush (n := 6) dX10_readRule_89 (by decide +kernel) ?_
        refine r_icmp_ne (tgt := 101) dX10_readRule_91 rfl (hI _ _).inR ⟨by decide, by decide⟩ (fun hcc => ?_) (fun hcc => ?_)
        · replace hT := hT.1 hcc
          refine r_aload_n dX10_readRule_101 rfl (i := 0) rfl ?_
          obtain ⟨hc6, hT⟩ := hT
          refine rr_pVI (A := (jA m)) (v := rnx I m) (a := m) (as := []) (st := []) dX10_readRule_102 mt_X10_next ml_X10_262 mi_X10_next rm_X10_readRule_X10_next jz_X10_next ⟨Nat.zero_le _, Nat.zero_le _⟩ (Nat.le_of_ble_eq_true rfl) (wX10_l hm) (wX10_c hm) jas0 ((sp_X10_next hm) hc6) (fun hc5 => ?_)
          refine r_bipush (n := 58) dX10_readRule_105 (by decide +kernel) ?_
          refine r_icmp_eq (tgt := 120) dX10_readRule_107 rfl hc5 ⟨by decide, by decide⟩ (fun hcc => ?_) (fun hcc => ?_)
          · replace hT := hT.1 hcc
            refine r_aload_n dX10_readRule_120 rfl (i := 0) rfl ?_
            refine r_dup dX10_readRule_121 rfl ?_
            refine rr_getI (v := I m 29) dX10_readRule_122 fg_X10_253 rfl (wX10_l hm) (wX10_s hm) rfl ?_
            refine r_iconst (n := 1) dX10_readRule_125 ?_
            refine r_iadd dX10_readRule_126 ?_
            obtain ⟨hc8, hT⟩ := hT
            refine rr_putI (jj := 29) dX10_readRule_127 fp_X10_253 rfl rfl (wX10_l hm) (wX10_s hm) hc8 (fun M7 eM7 => ?_)
            have hFM7 := jFr_up hF eM7 (wX10_f hm 0 (by decide))
            replace hT := hT M7 eM7
            refine jOk_mem (fun hIM7 => ?_)
            refine r_bipush (n := 40) dX10_readRule_130 (by decide +kernel) ?_
            refine r_aload_n dX10_readRule_132 rfl (i := 0) rfl ?_
            refine rr_getI (v := I m 28) dX10_readRule_133 fg_X10_301 rfl (wX10_l hm) (wX10_s hm) (jr_nj eM7 (by decide)) ?_
            refine r_imul dX10_readRule_136 ?_
            obtain ⟨hc9, hT⟩ := hT
            refine rr_istore_n (i := 3) (ls' := [VR m, VI x1, VI x2, VI (40 * (I m 28)), VN]) dX10_readRule_137 rfl (Nat.le_of_ble_eq_true rfl) rfl rfl hc9 ?_
            refine r_iconst (n := 0) dX10_readRule_138 ?_
            refine rr_istore (i := 4) (ls' := [VR m, VI x1, VI x2, VI (40 * (I m 28)), VI 0]) dX10_readRule_139 (Nat.le_of_ble_eq_true rfl) rfl rfl ⟨by decide, by decide⟩ ?_
            exact hT I0 hFM7
          · replace hT := hT.2 hcc
            refine r_aload_n dX10_readRule_110 rfl (i := 0) rfl ?_
            refine r_iconst (n := 1) dX10_readRule_111 ?_
            refine r_aload_n dX10_readRule_112 rfl (i := 0) rfl ?_
            refine rr_getI (v := I m 29) dX10_readRule_113 fg_X10_253 rfl (wX10_l hm) (wX10_s hm) rfl ?_
            refine rr_cVI (a := m) (as := [VI 1, VI (I m 29)]) (st := []) dX10_readRule_116 mt_X10_isWrong ml_X10_266 mi_X10_isWrong rm_X10_readRule_X10_isWrong jz_X10_isWrong ⟨Nat.zero_le _, Nat.zero_le _⟩ (Nat.le_of_ble_eq_true rfl) (wX10_l hm) (wX10_c hm) (jasI ⟨by decide, by decide⟩ (jasI (hI _ _).inR jas0)) hT (fun r11 I10 hc12 hFI10 hT => ?_)
            replace hFI10 := jFr_tr hF hFI10
            refine jOk_mem (fun hI10 => ?_)
            obtain ⟨hc13, hT⟩ := hT
            exact r_zret dX10_readRule_119 rfl hc13 ⟨Nat.zero_le _, Nat.zero_le _⟩ ⟨_, rfl, rfl, hFI10, hT⟩
        · replace hT := hT.2 hcc
          refine r_aload_n dX10_readRule_94 rfl (i := 0) rfl ?_
          refine r_iconst (n := 3) dX10_readRule_95 ?_
          refine r_iload_n dX10_readRule_96 rfl (i := 1) rfl ?_
          refine rr_cVI (a := m) (as := [VI 3, VI x1]) (st := []) dX10_readRule_97 mt_X10_isWrong ml_X10_266 mi_X10_isWrong rm_X10_readRule_X10_isWrong jz_X10_isWrong ⟨Nat.zero_le _, Nat.zero_le _⟩ (Nat.le_of_ble_eq_true rfl) (wX10_l hm) (wX10_c hm) (jasI ⟨by decide, by decide⟩ (jasI hx1 jas0)) hT (fun r15 I14 hc16 hFI14 hT => ?_)
          replace hFI14 := jFr_tr hF hFI14
          refine jOk_mem (fun hI14 => ?_)
          obtain ⟨hc17, hT⟩ := hT
          exact r_zret dX10_readRule_100 rfl hc17 ⟨Nat.zero_le _, Nat.zero_le _⟩ ⟨_, rfl, rfl, hFI14, hT⟩
      · replace hT := hT.2 (jI_n hcc)
        refine r_aload_n dX10_readRule_78 rfl (i := 0) rfl ?_
        refine r_iconst (n := 2) dX10_readRule_79 ?_
        refine r_iload_n dX10_readRule_80 rfl (i := 1) rfl ?_
        refine rr_cVI (a := m) (as := [VI 2, VI x1]) (st := []) dX10_readRule_81 mt_X10_isWrong ml_X10_266 mi_X10_isWrong rm_X10_readRule_X10_isWrong jz_X10_isWrong ⟨Nat.zero_le _, Nat.zero_le _⟩ (Nat.le_of_ble_eq_true rfl) (wX10_l hm) (wX10_c hm) (jasI ⟨by decide, by decide⟩ (jasI hx1 jas0)) hT (fun r19 I18 hc20 hFI18 hT => ?_)
        replace hFI18 := jFr_tr hF hFI18
        refine jOk_mem (fun hI18 => ?_)
        obtain ⟨hc21, hT⟩ := hT
        exact r_zret dX10_readRule_84 rfl hc21 ⟨Nat.zero_le _, Nat.zero_le _⟩ ⟨_, rfl, rfl, hFI18, hT⟩
    · replace hT := hT.2 hcc
      refine r_aload_n dX10_readRule_61 rfl (i := 0) rfl ?_
      refine r_iconst (n := 1) dX10_readRule_62 ?_
      refine r_iload_n dX10_readRule_63 rfl (i := 1) rfl ?_
      refine rr_cVI (a := m) (as := [VI 1, VI x1]) (st := []) dX10_readRule_64 mt_X10_isWrong ml_X10_266 mi_X10_isWrong rm_X10_readRule_X10_isWrong jz_X10_isWrong ⟨Nat.zero_le _, Nat.zero_le _⟩ (Nat.le_of_ble_eq_true rfl) (wX10_l hm) (wX10_c hm) (jasI ⟨by decide, by decide⟩ (jasI hx1 jas0)) hT (fun r23 I22 hc24 hFI22 hT => ?_)
      replace hFI22 := jFr_tr hF hFI22
      refine jOk_mem (fun hI22 => ?_)
      obtain ⟨hc25, hT⟩ := hT
      exact r_zret dX10_readRule_67 rfl hc25 ⟨Nat.zero_le _, Nat.zero_le _⟩ ⟨_, rfl, rfl, hFI22, hT⟩
  · replace hT := hT.2 (jI_p hcc)
    refine r_iload_n dX10_readRule_17 rfl (i := 2) rfl ?_
    refine r_bipush (n := 99) dX10_readRule_18 (by decide +kernel) ?_
    refine r_icmp_le (tgt := 27) dX10_readRule_20 rfl hx2 ⟨by decide, by decide⟩ (fun hcc => ?_) (fun hcc => ?_)
    · replace hT := hT.1 hcc
      refine r_bipush (n := 10) dX10_readRule_27 (by decide +kernel) ?_
      refine r_iload_n dX10_readRule_29 rfl (i := 2) rfl ?_
      refine r_imul dX10_readRule_30 ?_
      refine r_aload_n dX10_readRule_31 rfl (i := 0) rfl ?_
      obtain ⟨hc27, hT⟩ := hT
      refine rr_pVI (A := (jA m)) (v := rnx I m) (a := m) (as := []) (st := [VI (10 * x2)]) dX10_readRule_32 mt_X10_next ml_X10_262 mi_X10_next rm_X10_readRule_X10_next jz_X10_next ⟨Nat.zero_le _, Nat.zero_le _⟩ (Nat.le_of_ble_eq_true rfl) (wX10_l hm) (wX10_c hm) jas0 ((sp_X10_next hm) hc27) (fun hc26 => ?_)
      refine r_iadd dX10_readRule_35 ?_
      refine r_bipush (n := 48) dX10_readRule_36 (by decide +kernel) ?_
      refine r_isub dX10_readRule_38 ?_
      obtain ⟨hc28, hT⟩ := hT
      refine rr_istore_n (i := 2) (ls' := [VR m, VI x1, VI (((10 * x2) + (rnx I m)) - 48), VN, VN]) dX10_readRule_39 rfl (Nat.le_of_ble_eq_true rfl) rfl rfl hc28 ?_
      refine r_aload_n dX10_readRule_40 rfl (i := 0) rfl ?_
      refine r_dup dX10_readRule_41 rfl ?_
      refine rr_getI (v := I m 29) dX10_readRule_42 fg_X10_253 rfl (wX10_l hm) (wX10_s hm) rfl ?_
      refine r_iconst (n := 1) dX10_readRule_45 ?_
      refine r_iadd dX10_readRule_46 ?_
      obtain ⟨hc30, hT⟩ := hT
      refine rr_putI (jj := 29) dX10_readRule_47 fp_X10_253 rfl rfl (wX10_l hm) (wX10_s hm) hc30 (fun M29 eM29 => ?_)
      have hFM29 := jFr_up hF eM29 (wX10_f hm 0 (by decide))
      replace hT := hT M29 eM29
      refine jOk_mem (fun hIM29 => ?_)
      refine r_goto (tgt := 7) dX10_readRule_50 rfl ?_
      exact hT I0 hFM29
    · replace hT := hT.2 hcc
      refine r_iload_n dX10_readRule_23 rfl (i := 2) rfl ?_
      refine r_goto (tgt := 39) dX10_readRule_24 rfl ?_
      refine rr_istore_n (i := 2) (ls' := [VR m, VI x1, VI x2, VN, VN]) dX10_readRule_39 rfl (Nat.le_of_ble_eq_true rfl) rfl rfl hx2 ?_
      refine r_aload_n dX10_readRule_40 rfl (i := 0) rfl ?_
      refine r_dup dX10_readRule_41 rfl ?_
      refine rr_getI (v := I m 29) dX10_readRule_42 fg_X10_253 rfl (wX10_l hm) (wX10_s hm) rfl ?_
      refine r_iconst (n := 1) dX10_readRule_45 ?_
      refine r_iadd dX10_readRule_46 ?_
      obtain ⟨hc32, hT⟩ := hT
      refine rr_putI (jj := 29) dX10_readRule_47 fp_X10_253 rfl rfl (wX10_l hm) (wX10_s hm) hc32 (fun M31 eM31 => ?_)
      have hFM31 := jFr_up hF eM31 (wX10_f hm 0 (by decide))
      replace hT := hT M31 eM31
      refine jOk_mem (fun hIM31 => ?_)
      refine r_goto (tgt := 7) dX10_readRule_50 rfl ?_
      exact hT I0 hFM31
set_option maxRecDepth 20000 in
theorem st_X10_readRule_0 {E : jE} {G : jG} {I : jM} {q : Int → jM → Prop} {m : Nat} (hm : WX10 G m) (hT : (∀ a j, jRg (G.2.1 a).1 (I a j)) → jOI E (jA m) kX10_readRule 7 [VR m, VI (I m 29), VI 0, VN, VN] G I q) : jOI E (jA m) kX10_readRule 0 [VR m, VN, VN, VN, VN] G I q := by
  intro I0 hF
  refine jOk_mem (fun hI => ?_)
  replace hT := hT hI 
  refine r_aload_n dX10_readRule_0 rfl (i := 0) rfl ?_
  refine rr_getI (v := I m 29) dX10_readRule_1 fg_X10_253 rfl (wX10_l hm) (wX10_s hm) rfl ?_
  refine rr_istore_n (i := 1) (ls' := [VR m, VI (I m 29), VN, VN, VN]) dX10_readRule_4 rfl (Nat.le_of_ble_eq_true rfl) rfl rfl (hI _ _).inR ?_
  refine r_iconst (n := 0) dX10_readRule_5 ?_
  refine rr_istore_n (i := 2) (ls' := [VR m, VI (I m 29), VI 0, VN, VN]) dX10_readRule_6 rfl (Nat.le_of_ble_eq_true rfl) rfl rfl ⟨by decide, by decide⟩ ?_
  exact hT I0 hF
theorem en_X10_readRule {E : jE} {G : jG} {I : jM} {q : Int → jM → Prop} {m : Nat} (hm : WX10 G m) (hT : (∀ a j, jRg (G.2.1 a).1 (I a j)) → jOI E (jA m) kX10_readRule 7 [VR m, VI (I m 29), VI 0, VN, VN] G I q) : jRI E (jA m) kX10_readRule [VR m] G I q := jRun.of mt_X10_readRule.2.2.2 4 rfl (fun _ => st_X10_readRule_0 hm hT I (fun _ _ => rfl))
set_option maxRecDepth 20000 in
theorem st_X10_readAll_31 {E : jE} {G : jG} {I : jM} {q : Int → jM → Prop} {m : Nat} {x1 : Int} (hm : WX10 G m) (hT : (∀ a j, jRg (G.2.1 a).1 (I a j)) → jIn x1 → ((x1 = 0 → q 1 I) ∧ (¬ x1 = 0 → jRI E (jA m) kX10_readRule [VR m] G I (fun r2 I1 => ((¬ r2 = 0 → (0 ≤ I1 m 29 ∧ I1 m 30 ≤ 300) ∧ ((¬ (rnx I1 m) = 59 → jOI E (jA m) kX10_readAll 31 [VR m, VI 0] G I1 q) ∧ ((rnx I1 m) = 59 → jIn ((I1 m 29) + 1) ∧ (∀ M6, M6 = jup I1 m 29 ((I1 m 29) + 1) → jOI E (jA m) kX10_readAll 31 [VR m, VI 1] G M6 q)))) ∧ (r2 = 0 → q 0 I1)))))) : jOI E (jA m) kX10_readAll 31 [VR m, VI x1] G I q := by
  intro I0 hF
  refine jOk_mem (fun hI => ?_)
  refine jOk_in (i := 1) rfl (fun hx1 => ?_)
  replace hT := hT hI hx1
  refine r_iload_n dX10_readAll_31 rfl (i := 1) rfl ?_
  refine r_if_eq (tgt := 76) dX10_readAll_32 rfl hx1 (fun hcc => ?_) (fun hcc => ?_)
  · replace hT := hT.1 hcc
    refine r_iconst (n := 1) dX10_readAll_76 ?_
    exact r_zret dX10_readAll_77 rfl ⟨by decide, by decide⟩ ⟨Nat.zero_le _, Nat.zero_le _⟩ ⟨_, rfl, rfl, hF, hT⟩
  · replace hT := hT.2 hcc
    refine r_aload_n dX10_readAll_35 rfl (i := 0) rfl ?_
    refine rr_cVI (a := m) (as := []) (st := []) dX10_readAll_36 mt_X10_readRule ml_X10_310 mi_X10_readRule rm_X10_readAll_X10_readRule jz_X10_readRule ⟨Nat.zero_le _, Nat.zero_le _⟩ (Nat.le_of_ble_eq_true rfl) (wX10_l hm) (wX10_c hm) jas0 hT (fun r2 I1 hc3 hFI1 hT => ?_)
    replace hFI1 := jFr_tr hF hFI1
    refine jOk_mem (fun hI1 => ?_)
    refine r_if_ne (tgt := 44) dX10_readAll_39 rfl hc3 (fun hcc => ?_) (fun hcc => ?_)
    · replace hT := hT.1 hcc
      refine r_aload_n dX10_readAll_44 rfl (i := 0) rfl ?_
      obtain ⟨hc5, hT⟩ := hT
      refine rr_pVI (A := (jA m)) (v := rnx I1 m) (a := m) (as := []) (st := []) dX10_readAll_45 mt_X10_next ml_X10_262 mi_X10_next rm_X10_readAll_X10_next jz_X10_next ⟨Nat.zero_le _, Nat.zero_le _⟩ (Nat.le_of_ble_eq_true rfl) (wX10_l hm) (wX10_c hm) jas0 ((sp_X10_next hm) hc5) (fun hc4 => ?_)
      refine r_bipush (n := 59) dX10_readAll_48 (by decide +kernel) ?_
      refine r_icmp_ne (tgt := 57) dX10_readAll_50 rfl hc4 ⟨by decide, by decide⟩ (fun hcc => ?_) (fun hcc => ?_)
      · replace hT := hT.1 hcc
        refine r_iconst (n := 0) dX10_readAll_57 ?_
        refine rr_istore_n (i := 1) (ls' := [VR m, VI 0]) dX10_readAll_58 rfl (Nat.le_of_ble_eq_true rfl) rfl rfl ⟨by decide, by decide⟩ ?_
        refine r_iload_n dX10_readAll_59 rfl (i := 1) rfl ?_
        refine r_if_eq (tgt := 31) dX10_readAll_60 rfl ⟨by decide, by decide⟩ (fun hcc => ?_) (fun hcc => ?_)
        · skip
          exact hT I0 hFI1
        · exact absurd hcc (by decide)
      · replace hT := hT.2 hcc
        refine r_iconst (n := 1) dX10_readAll_53 ?_
        refine r_goto (tgt := 58) dX10_readAll_54 rfl ?_
        refine rr_istore_n (i := 1) (ls' := [VR m, VI 1]) dX10_readAll_58 rfl (Nat.le_of_ble_eq_true rfl) rfl rfl ⟨by decide, by decide⟩ ?_
        refine r_iload_n dX10_readAll_59 rfl (i := 1) rfl ?_
        refine r_if_eq (tgt := 31) dX10_readAll_60 rfl ⟨by decide, by decide⟩ (fun hcc => ?_) (fun hcc => ?_)
        · exact absurd hcc (by decide)
        · skip
          refine r_aload_n dX10_readAll_63 rfl (i := 0) rfl ?_
          refine r_dup dX10_readAll_64 rfl ?_
          refine rr_getI (v := I1 m 29) dX10_readAll_65 fg_X10_253 rfl (wX10_l hm) (wX10_s hm) rfl ?_
          refine r_iconst (n := 1) dX10_readAll_68 ?_
          refine r_iadd dX10_readAll_69 ?_
          obtain ⟨hc7, hT⟩ := hT
          refine rr_putI (jj := 29) dX10_readAll_70 fp_X10_253 rfl rfl (wX10_l hm) (wX10_s hm) hc7 (fun M6 eM6 => ?_)
          have hFM6 := jFr_up hFI1 eM6 (wX10_f hm 0 (by decide))
          replace hT := hT M6 eM6
          refine jOk_mem (fun hIM6 => ?_)
          refine r_goto (tgt := 31) dX10_readAll_73 rfl ?_
          exact hT I0 hFM6
    · replace hT := hT.2 hcc
      refine r_iconst (n := 0) dX10_readAll_42 ?_
      exact r_zret dX10_readAll_43 rfl ⟨by decide, by decide⟩ ⟨Nat.zero_le _, Nat.zero_le _⟩ ⟨_, rfl, rfl, hFI1, hT⟩
set_option maxRecDepth 20000 in
theorem st_X10_readAll_0 {E : jE} {G : jG} {I : jM} {q : Int → jM → Prop} {m : Nat} (hm : WX10 G m) (hT : (∀ a j, jRg (G.2.1 a).1 (I a j)) → (∀ M1, M1 = jup I m 31 0 → (∀ M2, M2 = jup M1 m 32 (-1) → (∀ M3, M3 = jup M2 m 28 0 → (∀ M4, M4 = jup M3 m 29 0 → ((¬ (I m 30) = 0 → jOI E (jA m) kX10_readAll 31 [VR m, VI 1] G M4 q) ∧ ((I m 30) = 0 → q 1 M4))))))) : jOI E (jA m) kX10_readAll 0 [VR m, VN] G I q := by
  intro I0 hF
  refine jOk_mem (fun hI => ?_)
  replace hT := hT hI 
  refine r_aload_n dX10_readAll_0 rfl (i := 0) rfl ?_
  refine r_iconst (n := 0) dX10_readAll_1 ?_
  refine rr_putI (jj := 31) dX10_readAll_2 fp_X10_259 rfl rfl (wX10_l hm) (wX10_s hm) ⟨by decide, by decide⟩ (fun M1 eM1 => ?_)
  have hFM1 := jFr_up hF eM1 (wX10_f hm 0 (by decide))
  replace hT := hT M1 eM1
  refine jOk_mem (fun hIM1 => ?_)
  refine r_aload_n dX10_readAll_5 rfl (i := 0) rfl ?_
  refine r_iconst (n := (-1)) dX10_readAll_6 ?_
  refine rr_putI (jj := 32) dX10_readAll_7 fp_X10_74 rfl rfl (wX10_l hm) (wX10_s hm) ⟨by decide, by decide⟩ (fun M2 eM2 => ?_)
  have hFM2 := jFr_up hFM1 eM2 (wX10_f hm 0 (by decide))
  replace hT := hT M2 eM2
  refine jOk_mem (fun hIM2 => ?_)
  refine r_aload_n dX10_readAll_10 rfl (i := 0) rfl ?_
  refine r_iconst (n := 0) dX10_readAll_11 ?_
  refine rr_putI (jj := 28) dX10_readAll_12 fp_X10_301 rfl rfl (wX10_l hm) (wX10_s hm) ⟨by decide, by decide⟩ (fun M3 eM3 => ?_)
  have hFM3 := jFr_up hFM2 eM3 (wX10_f hm 0 (by decide))
  replace hT := hT M3 eM3
  refine jOk_mem (fun hIM3 => ?_)
  refine r_aload_n dX10_readAll_15 rfl (i := 0) rfl ?_
  refine r_iconst (n := 0) dX10_readAll_16 ?_
  refine rr_putI (jj := 29) dX10_readAll_17 fp_X10_253 rfl rfl (wX10_l hm) (wX10_s hm) ⟨by decide, by decide⟩ (fun M4 eM4 => ?_)
  have hFM4 := jFr_up hFM3 eM4 (wX10_f hm 0 (by decide))
  replace hT := hT M4 eM4
  refine jOk_mem (fun hIM4 => ?_)
  refine r_aload_n dX10_readAll_20 rfl (i := 0) rfl ?_
  refine rr_getI (v := I m 30) dX10_readAll_21 fg_X10_256 rfl (wX10_l hm) (wX10_s hm) ((jr_nj eM4 (by decide)).trans ((jr_nj eM3 (by decide)).trans ((jr_nj eM2 (by decide)).trans (jr_nj eM1 (by decide))))) ?_
  refine r_if_ne (tgt := 29) dX10_readAll_24 rfl (hI _ _).inR (fun hcc => ?_) (fun hcc => ?_)
  · replace hT := hT.1 hcc
    refine r_iconst (n := 1) dX10_readAll_29 ?_
    refine rr_istore_n (i := 1) (ls' := [VR m, VI 1]) dX10_readAll_30 rfl (Nat.le_of_ble_eq_true rfl) rfl rfl ⟨by decide, by decide⟩ ?_
    exact hT I0 hFM4
  · replace hT := hT.2 hcc
    refine r_iconst (n := 1) dX10_readAll_27 ?_
    exact r_zret dX10_readAll_28 rfl ⟨by decide, by decide⟩ ⟨Nat.zero_le _, Nat.zero_le _⟩ ⟨_, rfl, rfl, hFM4, hT⟩
theorem en_X10_readAll {E : jE} {G : jG} {I : jM} {q : Int → jM → Prop} {m : Nat} (hm : WX10 G m) (hT : (∀ a j, jRg (G.2.1 a).1 (I a j)) → (∀ M1, M1 = jup I m 31 0 → (∀ M2, M2 = jup M1 m 32 (-1) → (∀ M3, M3 = jup M2 m 28 0 → (∀ M4, M4 = jup M3 m 29 0 → ((¬ (I m 30) = 0 → jOI E (jA m) kX10_readAll 31 [VR m, VI 1] G M4 q) ∧ ((I m 30) = 0 → q 1 M4))))))) : jRI E (jA m) kX10_readAll [VR m] G I q := jRun.of mt_X10_readAll.2.2.2 1 rfl (fun _ => st_X10_readAll_0 hm hT I (fun _ _ => rfl))
set_option maxRecDepth 20000 in
theorem st_X10_rules_135 {E : jE} {G : jG} {I : jM} {q : Int → jM → Prop} {m : Nat} {x1 : Int} (hm : WX10 G m) (hT : (∀ a j, jRg (G.2.1 a).1 (I a j)) → jIn x1 → ((16 ≤ x1 → q (I m 28) I) ∧ (¬ 16 ≤ x1 → ((0 : Int) ≤ (426 + x1) ∧ ((426 + x1) : Int) < 22094) ∧ (∀ M2, M2 = jup I (m + 1) (426 + x1) 0 → jIn (x1 + 1) ∧ jOI E (jA m) kX10_rules 135 [VR m, VI (x1 + 1)] G M2 q)))) : jOI E (jA m) kX10_rules 135 [VR m, VI x1] G I q := by
  intro I0 hF
  refine jOk_mem (fun hI => ?_)
  refine jOk_in (i := 1) rfl (fun hx1 => ?_)
  replace hT := hT hI hx1
  refine r_iload_n dX10_rules_135 rfl (i := 1) rfl ?_
  refine r_bipush (n := 16) dX10_rules_136 (by decide +kernel) ?_
  refine r_icmp_ge (tgt := 158) dX10_rules_138 rfl hx1 ⟨by decide, by decide⟩ (fun hcc => ?_) (fun hcc => ?_)
  · replace hT := hT.1 hcc
    refine r_aload_n dX10_rules_158 rfl (i := 0) rfl ?_
    refine rr_getI (v := I m 28) dX10_rules_159 fg_X10_301 rfl (wX10_l hm) (wX10_s hm) rfl ?_
    exact r_iret dX10_rules_162 rfl (hI _ _).inR ⟨Nat.zero_le _, Nat.zero_le _⟩ ⟨_, rfl, rfl, hF, hT⟩
  · replace hT := hT.2 hcc
    refine r_aload_n dX10_rules_141 rfl (i := 0) rfl ?_
    refine rr_getR (b := (m + 1)) dX10_rules_142 fg_X10_7 rfl rfl (wX10_l hm) (wX10_s hm) (wX10_r0 hm) ?_
    refine r_sipush (n := 426) dX10_rules_145 (by decide +kernel) ?_
    refine r_iload_n dX10_rules_148 rfl (i := 1) rfl ?_
    refine r_iadd dX10_rules_149 ?_
    refine r_iconst (n := 0) dX10_rules_150 ?_
    obtain ⟨hc1, hT⟩ := hT
    refine rr_iastore dX10_rules_151 (wX10_l0 hm) (wX10_a0 hm) (by decide) hc1 ⟨by decide, by decide⟩ (fun M2 eM2 => ?_)
    have hFM2 := jFr_up hF eM2 (wX10_f hm 1 (by decide))
    replace hT := hT M2 eM2
    refine jOk_mem (fun hIM2 => ?_)
    obtain ⟨hc3, hT⟩ := hT
    refine rr_iinc (i := 1) (ls' := [VR m, VI (x1 + 1)]) dX10_rules_152 rfl (Nat.le_of_ble_eq_true rfl) rfl rfl hc3 ?_
    refine r_goto (tgt := 135) dX10_rules_155 rfl ?_
    exact hT I0 hFM2
set_option maxRecDepth 20000 in
theorem st_X10_rules_92 {E : jE} {G : jG} {I : jM} {q : Int → jM → Prop} {m : Nat} {x1 : Int} (hm : WX10 G m) (hT : (∀ a j, jRg (G.2.1 a).1 (I a j)) → jIn x1 → ((300 ≤ x1 → jOI E (jA m) kX10_rules 135 [VR m, VI 0] G I q) ∧ (¬ 300 ≤ x1 → (((I m 30) ≤ x1 → ((0 : Int) ≤ (754 + x1) ∧ ((754 + x1) : Int) < 22094) ∧ (∀ M2, M2 = jup I (m + 1) (754 + x1) 0 → jIn (x1 + 1) ∧ jOI E (jA m) kX10_rules 92 [VR m, VI (x1 + 1)] G M2 q)) ∧ (¬ (I m 30) ≤ x1 → ((0 : Int) ≤ x1 ∧ (x1 : Int) < 300) ∧ ((0 : Int) ≤ (754 + x1) ∧ ((754 + x1) : Int) < 22094) ∧ (∀ M6, M6 = jup I (m + 1) (754 + x1) (I (m + 20) x1) → jIn (x1 + 1) ∧ jOI E (jA m) kX10_rules 92 [VR m, VI (x1 + 1)] G M6 q)))))) : jOI E (jA m) kX10_rules 92 [VR m, VI x1] G I q := by
  intro I0 hF
  refine jOk_mem (fun hI => ?_)
  refine jOk_in (i := 1) rfl (fun hx1 => ?_)
  replace hT := hT hI hx1
  refine r_iload_n dX10_rules_92 rfl (i := 1) rfl ?_
  refine r_sipush (n := 300) dX10_rules_93 (by decide +kernel) ?_
  refine r_icmp_ge (tgt := 133) dX10_rules_96 rfl hx1 ⟨by decide, by decide⟩ (fun hcc => ?_) (fun hcc => ?_)
  · replace hT := hT.1 hcc
    refine r_iconst (n := 0) dX10_rules_133 ?_
    refine rr_istore_n (i := 1) (ls' := [VR m, VI 0]) dX10_rules_134 rfl (Nat.le_of_ble_eq_true rfl) rfl rfl ⟨by decide, by decide⟩ ?_
    exact hT I0 hF
  · replace hT := hT.2 hcc
    refine r_aload_n dX10_rules_99 rfl (i := 0) rfl ?_
    refine rr_getR (b := (m + 1)) dX10_rules_100 fg_X10_7 rfl rfl (wX10_l hm) (wX10_s hm) (wX10_r0 hm) ?_
    refine r_sipush (n := 754) dX10_rules_103 (by decide +kernel) ?_
    refine r_iload_n dX10_rules_106 rfl (i := 1) rfl ?_
    refine r_iadd dX10_rules_107 ?_
    refine r_iload_n dX10_rules_108 rfl (i := 1) rfl ?_
    refine r_aload_n dX10_rules_109 rfl (i := 0) rfl ?_
    refine rr_getI (v := I m 30) dX10_rules_110 fg_X10_256 rfl (wX10_l hm) (wX10_s hm) rfl ?_
    refine r_icmp_ge (tgt := 125) dX10_rules_113 rfl hx1 (hI _ _).inR (fun hcc => ?_) (fun hcc => ?_)
    · replace hT := hT.1 hcc
      refine r_iconst (n := 0) dX10_rules_125 ?_
      obtain ⟨hc1, hT⟩ := hT
      refine rr_iastore dX10_rules_126 (wX10_l0 hm) (wX10_a0 hm) (by decide) hc1 ⟨by decide, by decide⟩ (fun M2 eM2 => ?_)
      have hFM2 := jFr_up hF eM2 (wX10_f hm 1 (by decide))
      replace hT := hT M2 eM2
      refine jOk_mem (fun hIM2 => ?_)
      obtain ⟨hc3, hT⟩ := hT
      refine rr_iinc (i := 1) (ls' := [VR m, VI (x1 + 1)]) dX10_rules_127 rfl (Nat.le_of_ble_eq_true rfl) rfl rfl hc3 ?_
      refine r_goto (tgt := 92) dX10_rules_130 rfl ?_
      exact hT I0 hFM2
    · replace hT := hT.2 hcc
      refine r_aload_n dX10_rules_116 rfl (i := 0) rfl ?_
      refine rr_getR (b := (m + 20)) dX10_rules_117 fg_X10_68 rfl rfl (wX10_l hm) (wX10_s hm) (wX10_r25 hm) ?_
      refine r_iload_n dX10_rules_120 rfl (i := 1) rfl ?_
      obtain ⟨hc4, hT⟩ := hT
      refine rr_iaload (v := I (m + 20) x1) dX10_rules_121 (wX10_l25 hm) (wX10_a25 hm) (by decide) hc4 rfl ?_
      refine r_goto (tgt := 126) dX10_rules_122 rfl ?_
      obtain ⟨hc5, hT⟩ := hT
      refine rr_iastore dX10_rules_126 (wX10_l0 hm) (wX10_a0 hm) (by decide) hc5 (hI _ _).inR (fun M6 eM6 => ?_)
      have hFM6 := jFr_up hF eM6 (wX10_f hm 1 (by decide))
      replace hT := hT M6 eM6
      refine jOk_mem (fun hIM6 => ?_)
      obtain ⟨hc7, hT⟩ := hT
      refine rr_iinc (i := 1) (ls' := [VR m, VI (x1 + 1)]) dX10_rules_127 rfl (Nat.le_of_ble_eq_true rfl) rfl rfl hc7 ?_
      refine r_goto (tgt := 92) dX10_rules_130 rfl ?_
      exact hT I0 hFM6
set_option maxRecDepth 20000 in
theorem st_X10_rules_46 {E : jE} {G : jG} {I : jM} {q : Int → jM → Prop} {m : Nat} {x1 : Int} (hm : WX10 G m) (hT : (∀ a j, jRg (G.2.1 a).1 (I a j)) → jIn x1 → ((240 ≤ x1 → jOI E (jA m) kX10_rules 92 [VR m, VI 0] G I q) ∧ (¬ 240 ≤ x1 → jIn (40 * (I m 28)) ∧ (((40 * (I m 28)) ≤ x1 → ((0 : Int) ≤ (514 + x1) ∧ ((514 + x1) : Int) < 22094) ∧ (∀ M3, M3 = jup I (m + 1) (514 + x1) 0 → jIn (x1 + 1) ∧ jOI E (jA m) kX10_rules 46 [VR m, VI (x1 + 1)] G M3 q)) ∧ (¬ (40 * (I m 28)) ≤ x1 → ((0 : Int) ≤ x1 ∧ (x1 : Int) < 240) ∧ ((0 : Int) ≤ (514 + x1) ∧ ((514 + x1) : Int) < 22094) ∧ (∀ M7, M7 = jup I (m + 1) (514 + x1) (I (m + 21) x1) → jIn (x1 + 1) ∧ jOI E (jA m) kX10_rules 46 [VR m, VI (x1 + 1)] G M7 q)))))) : jOI E (jA m) kX10_rules 46 [VR m, VI x1] G I q := by
  intro I0 hF
  refine jOk_mem (fun hI => ?_)
  refine jOk_in (i := 1) rfl (fun hx1 => ?_)
  replace hT := hT hI hx1
  refine r_iload_n dX10_rules_46 rfl (i := 1) rfl ?_
  refine r_sipush (n := 240) dX10_rules_47 (by decide +kernel) ?_
  refine r_icmp_ge (tgt := 90) dX10_rules_50 rfl hx1 ⟨by decide, by decide⟩ (fun hcc => ?_) (fun hcc => ?_)
  · replace hT := hT.1 hcc
    refine r_iconst (n := 0) dX10_rules_90 ?_
    refine rr_istore_n (i := 1) (ls' := [VR m, VI 0]) dX10_rules_91 rfl (Nat.le_of_ble_eq_true rfl) rfl rfl ⟨by decide, by decide⟩ ?_
    exact hT I0 hF
  · replace hT := hT.2 hcc
    refine r_aload_n dX10_rules_53 rfl (i := 0) rfl ?_
    refine rr_getR (b := (m + 1)) dX10_rules_54 fg_X10_7 rfl rfl (wX10_l hm) (wX10_s hm) (wX10_r0 hm) ?_
    refine r_sipush (n := 514) dX10_rules_57 (by decide +kernel) ?_
    refine r_iload_n dX10_rules_60 rfl (i := 1) rfl ?_
    refine r_iadd dX10_rules_61 ?_
    refine r_iload_n dX10_rules_62 rfl (i := 1) rfl ?_
    refine r_bipush (n := 40) dX10_rules_63 (by decide +kernel) ?_
    refine r_aload_n dX10_rules_65 rfl (i := 0) rfl ?_
    refine rr_getI (v := I m 28) dX10_rules_66 fg_X10_301 rfl (wX10_l hm) (wX10_s hm) rfl ?_
    refine r_imul dX10_rules_69 ?_
    obtain ⟨hc1, hT⟩ := hT
    refine r_icmp_ge (tgt := 82) dX10_rules_70 rfl hx1 hc1 (fun hcc => ?_) (fun hcc => ?_)
    · replace hT := hT.1 hcc
      refine r_iconst (n := 0) dX10_rules_82 ?_
      obtain ⟨hc2, hT⟩ := hT
      refine rr_iastore dX10_rules_83 (wX10_l0 hm) (wX10_a0 hm) (by decide) hc2 ⟨by decide, by decide⟩ (fun M3 eM3 => ?_)
      have hFM3 := jFr_up hF eM3 (wX10_f hm 1 (by decide))
      replace hT := hT M3 eM3
      refine jOk_mem (fun hIM3 => ?_)
      obtain ⟨hc4, hT⟩ := hT
      refine rr_iinc (i := 1) (ls' := [VR m, VI (x1 + 1)]) dX10_rules_84 rfl (Nat.le_of_ble_eq_true rfl) rfl rfl hc4 ?_
      refine r_goto (tgt := 46) dX10_rules_87 rfl ?_
      exact hT I0 hFM3
    · replace hT := hT.2 hcc
      refine r_aload_n dX10_rules_73 rfl (i := 0) rfl ?_
      refine rr_getR (b := (m + 21)) dX10_rules_74 fg_X10_71 rfl rfl (wX10_l hm) (wX10_s hm) (wX10_r27 hm) ?_
      refine r_iload_n dX10_rules_77 rfl (i := 1) rfl ?_
      obtain ⟨hc5, hT⟩ := hT
      refine rr_iaload (v := I (m + 21) x1) dX10_rules_78 (wX10_l27 hm) (wX10_a27 hm) (by decide) hc5 rfl ?_
      refine r_goto (tgt := 83) dX10_rules_79 rfl ?_
      obtain ⟨hc6, hT⟩ := hT
      refine rr_iastore dX10_rules_83 (wX10_l0 hm) (wX10_a0 hm) (by decide) hc6 (hI _ _).inR (fun M7 eM7 => ?_)
      have hFM7 := jFr_up hF eM7 (wX10_f hm 1 (by decide))
      replace hT := hT M7 eM7
      refine jOk_mem (fun hIM7 => ?_)
      obtain ⟨hc8, hT⟩ := hT
      refine rr_iinc (i := 1) (ls' := [VR m, VI (x1 + 1)]) dX10_rules_84 rfl (Nat.le_of_ble_eq_true rfl) rfl rfl hc8 ?_
      refine r_goto (tgt := 46) dX10_rules_87 rfl ?_
      exact hT I0 hFM7
set_option maxRecDepth 20000 in
theorem st_X10_rules_0 {E : jE} {G : jG} {I : jM} {q : Int → jM → Prop} {m : Nat} (hm : WX10 G m) (hT : (∀ a j, jRg (G.2.1 a).1 (I a j)) → (∀ M1, M1 = jup I m 30 (I m 26) → (∀ M2, M2 = jup M1 m 26 0 → jRI E (jA m) kX10_readAll [VR m] G M2 (fun r4 I3 => ((¬ r4 = 0 → jRV E (jA m) kX10_keep [VR m] G I3 (fun I6 => (∀ M8, M8 = jup I6 (m + 1) 4 (I6 m 28) → (∀ M10, M10 = jup M8 (m + 1) 7 0 → jOI E (jA m) kX10_rules 46 [VR m, VI 0] G M10 q)))) ∧ (r4 = 0 → q (-1) I3)))))) : jOI E (jA m) kX10_rules 0 [VR m, VN] G I q := by
  intro I0 hF
  refine jOk_mem (fun hI => ?_)
  replace hT := hT hI 
  refine r_aload_n dX10_rules_0 rfl (i := 0) rfl ?_
  refine r_aload_n dX10_rules_1 rfl (i := 0) rfl ?_
  refine rr_getI (v := I m 26) dX10_rules_2 fg_X10_241 rfl (wX10_l hm) (wX10_s hm) rfl ?_
  refine rr_putI (jj := 30) dX10_rules_5 fp_X10_256 rfl rfl (wX10_l hm) (wX10_s hm) (hI _ _).inR (fun M1 eM1 => ?_)
  have hFM1 := jFr_up hF eM1 (wX10_f hm 0 (by decide))
  replace hT := hT M1 eM1
  refine jOk_mem (fun hIM1 => ?_)
  refine r_aload_n dX10_rules_8 rfl (i := 0) rfl ?_
  refine r_iconst (n := 0) dX10_rules_9 ?_
  refine rr_putI (jj := 26) dX10_rules_10 fp_X10_241 rfl rfl (wX10_l hm) (wX10_s hm) ⟨by decide, by decide⟩ (fun M2 eM2 => ?_)
  have hFM2 := jFr_up hFM1 eM2 (wX10_f hm 0 (by decide))
  replace hT := hT M2 eM2
  refine jOk_mem (fun hIM2 => ?_)
  refine r_aload_n dX10_rules_13 rfl (i := 0) rfl ?_
  refine rr_cVI (a := m) (as := []) (st := []) dX10_rules_14 mt_X10_readAll ml_X10_314 mi_X10_readAll rm_X10_rules_X10_readAll jz_X10_readAll ⟨Nat.zero_le _, Nat.zero_le _⟩ (Nat.le_of_ble_eq_true rfl) (wX10_l hm) (wX10_c hm) jas0 hT (fun r4 I3 hc5 hFI3 hT => ?_)
  replace hFI3 := jFr_tr hFM2 hFI3
  refine jOk_mem (fun hI3 => ?_)
  refine r_if_ne (tgt := 22) dX10_rules_17 rfl hc5 (fun hcc => ?_) (fun hcc => ?_)
  · replace hT := hT.1 hcc
    refine r_aload_n dX10_rules_22 rfl (i := 0) rfl ?_
    refine rr_cVV (a := m) (as := []) (st := []) dX10_rules_23 mt_X10_keep ml_X10_250 mi_X10_keep rm_X10_rules_X10_keep jz_X10_keep ⟨Nat.zero_le _, Nat.zero_le _⟩ (Nat.le_of_ble_eq_true rfl) (wX10_l hm) (wX10_c hm) jas0 hT (fun I6 hFI6 hT => ?_)
    replace hFI6 := jFr_tr hFI3 hFI6
    refine jOk_mem (fun hI6 => ?_)
    refine r_aload_n dX10_rules_26 rfl (i := 0) rfl ?_
    refine rr_getR (b := (m + 1)) dX10_rules_27 fg_X10_7 rfl rfl (wX10_l hm) (wX10_s hm) (wX10_r0 hm) ?_
    refine r_iconst (n := 4) dX10_rules_30 ?_
    refine r_aload_n dX10_rules_31 rfl (i := 0) rfl ?_
    refine rr_getI (v := I6 m 28) dX10_rules_32 fg_X10_301 rfl (wX10_l hm) (wX10_s hm) rfl ?_
    refine rr_iastore dX10_rules_35 (wX10_l0 hm) (wX10_a0 hm) (by decide) ⟨by decide, by decide⟩ (hI6 _ _).inR (fun M8 eM8 => ?_)
    have hFM8 := jFr_up hFI6 eM8 (wX10_f hm 1 (by decide))
    replace hT := hT M8 eM8
    refine jOk_mem (fun hIM8 => ?_)
    refine r_aload_n dX10_rules_36 rfl (i := 0) rfl ?_
    refine rr_getR (b := (m + 1)) dX10_rules_37 fg_X10_7 rfl rfl (wX10_l hm) (wX10_s hm) (wX10_r0 hm) ?_
    refine r_bipush (n := 7) dX10_rules_40 (by decide +kernel) ?_
    refine r_iconst (n := 0) dX10_rules_42 ?_
    refine rr_iastore dX10_rules_43 (wX10_l0 hm) (wX10_a0 hm) (by decide) ⟨by decide, by decide⟩ ⟨by decide, by decide⟩ (fun M10 eM10 => ?_)
    have hFM10 := jFr_up hFM8 eM10 (wX10_f hm 1 (by decide))
    replace hT := hT M10 eM10
    refine jOk_mem (fun hIM10 => ?_)
    refine r_iconst (n := 0) dX10_rules_44 ?_
    refine rr_istore_n (i := 1) (ls' := [VR m, VI 0]) dX10_rules_45 rfl (Nat.le_of_ble_eq_true rfl) rfl rfl ⟨by decide, by decide⟩ ?_
    exact hT I0 hFM10
  · replace hT := hT.2 hcc
    refine r_iconst (n := (-1)) dX10_rules_20 ?_
    exact r_iret dX10_rules_21 rfl ⟨by decide, by decide⟩ ⟨Nat.zero_le _, Nat.zero_le _⟩ ⟨_, rfl, rfl, hFI3, hT⟩
theorem en_X10_rules {E : jE} {G : jG} {I : jM} {q : Int → jM → Prop} {m : Nat} (hm : WX10 G m) (hT : (∀ a j, jRg (G.2.1 a).1 (I a j)) → (∀ M1, M1 = jup I m 30 (I m 26) → (∀ M2, M2 = jup M1 m 26 0 → jRI E (jA m) kX10_readAll [VR m] G M2 (fun r4 I3 => ((¬ r4 = 0 → jRV E (jA m) kX10_keep [VR m] G I3 (fun I6 => (∀ M8, M8 = jup I6 (m + 1) 4 (I6 m 28) → (∀ M10, M10 = jup M8 (m + 1) 7 0 → jOI E (jA m) kX10_rules 46 [VR m, VI 0] G M10 q)))) ∧ (r4 = 0 → q (-1) I3)))))) : jRI E (jA m) kX10_rules [VR m] G I q := jRun.of mt_X10_rules.2.2.2 1 rfl (fun _ => st_X10_rules_0 hm hT I (fun _ _ => rfl))
