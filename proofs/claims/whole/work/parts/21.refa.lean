/-! ===== the reference: bytes, sorts, places ===== -/
set_option maxRecDepth 20000 in
theorem st_X10_isIn_0 {E : jE} {A : Nat → Prop} {G : jG} {I : jM} {q : Int → jM → Prop} {x0 : Int} {x1 : Int} {x2 : Int}  (hT : (∀ a j, jRg (G.2.1 a).1 (I a j)) → jIn x0 → jIn x1 → jIn x2 → ((x0 < x1 → q 0 I) ∧ (¬ x0 < x1 → ((x2 < x0 → q 0 I) ∧ (¬ x2 < x0 → q 1 I))))) : jOI E A kX10_isIn 0 [VI x0, VI x1, VI x2] G I q := by
  intro I0 hF
  refine jOk_mem (fun hI => ?_)
  refine jOk_in (i := 0) rfl (fun hx0 => ?_)
  refine jOk_in (i := 1) rfl (fun hx1 => ?_)
  refine jOk_in (i := 2) rfl (fun hx2 => ?_)
  replace hT := hT hI hx0 hx1 hx2
  refine r_iload_n dX10_isIn_0 rfl (i := 0) rfl ?_
  refine r_iload_n dX10_isIn_1 rfl (i := 1) rfl ?_
  refine r_icmp_lt (tgt := 14) dX10_isIn_2 rfl hx0 hx1 (fun hcc => ?_) (fun hcc => ?_)
  · replace hT := hT.1 hcc
    refine r_iconst (n := 0) dX10_isIn_14 ?_
    exact r_zret dX10_isIn_15 rfl ⟨by decide, by decide⟩ ⟨Nat.zero_le _, Nat.zero_le _⟩ ⟨_, rfl, rfl, hF, hT⟩
  · replace hT := hT.2 hcc
    refine r_iload_n dX10_isIn_5 rfl (i := 0) rfl ?_
    refine r_iload_n dX10_isIn_6 rfl (i := 2) rfl ?_
    refine r_icmp_gt (tgt := 14) dX10_isIn_7 rfl hx0 hx2 (fun hcc => ?_) (fun hcc => ?_)
    · replace hT := hT.1 hcc
      refine r_iconst (n := 0) dX10_isIn_14 ?_
      exact r_zret dX10_isIn_15 rfl ⟨by decide, by decide⟩ ⟨Nat.zero_le _, Nat.zero_le _⟩ ⟨_, rfl, rfl, hF, hT⟩
    · replace hT := hT.2 hcc
      refine r_iconst (n := 1) dX10_isIn_10 ?_
      refine r_goto (tgt := 15) dX10_isIn_11 rfl ?_
      exact r_zret dX10_isIn_15 rfl ⟨by decide, by decide⟩ ⟨Nat.zero_le _, Nat.zero_le _⟩ ⟨_, rfl, rfl, hF, hT⟩
theorem en_X10_isIn {E : jE} {A : Nat → Prop} {G : jG} {I : jM} {q : Int → jM → Prop} {x0 : Int} {x1 : Int} {x2 : Int}  (hT : (∀ a j, jRg (G.2.1 a).1 (I a j)) → jIn x0 → jIn x1 → jIn x2 → ((x0 < x1 → q 0 I) ∧ (¬ x0 < x1 → ((x2 < x0 → q 0 I) ∧ (¬ x2 < x0 → q 1 I))))) : jRI E A kX10_isIn [VI x0, VI x1, VI x2] G I q := jRun.of mt_X10_isIn.2.2.2 0 rfl (fun _ => st_X10_isIn_0  hT I (fun _ _ => rfl))
theorem sp_X10_isIn {E : jE} {A : Nat → Prop} {G : jG} {I : jM} {v lo hi : Int} : jRI E A kX10_isIn [VI v, VI lo, VI hi] G I (fun x I' => x = jI (lo ≤ v ∧ v ≤ hi) ∧ I' = I) := by
  refine en_X10_isIn (fun _ _ _ _ => ?_)
  repeat' (first | exact ⟨(jI_pos (by omega)).symm, rfl⟩ | exact ⟨(jI_neg (by omega)).symm, rfl⟩ | refine ⟨fun _ => ?_, fun _ => ?_⟩)
set_option maxRecDepth 20000 in
theorem st_X10_isLetter_0 {E : jE} {A : Nat → Prop} {G : jG} {I : jM} {q : Int → jM → Prop} {x0 : Int}  (hT : (∀ a j, jRg (G.2.1 a).1 (I a j)) → jIn x0 → ((x0 < 97 → q 0 I) ∧ (¬ x0 < 97 → ((122 < x0 → q 0 I) ∧ (¬ 122 < x0 → q 1 I))))) : jOI E A kX10_isLetter 0 [VI x0] G I q := by
  intro I0 hF
  refine jOk_mem (fun hI => ?_)
  refine jOk_in (i := 0) rfl (fun hx0 => ?_)
  replace hT := hT hI hx0
  refine r_iload_n dX10_isLetter_0 rfl (i := 0) rfl ?_
  refine r_bipush (n := 97) dX10_isLetter_1 (by decide +kernel) ?_
  refine r_icmp_lt (tgt := 16) dX10_isLetter_3 rfl hx0 ⟨by decide, by decide⟩ (fun hcc => ?_) (fun hcc => ?_)
  · replace hT := hT.1 hcc
    refine r_iconst (n := 0) dX10_isLetter_16 ?_
    exact r_zret dX10_isLetter_17 rfl ⟨by decide, by decide⟩ ⟨Nat.zero_le _, Nat.zero_le _⟩ ⟨_, rfl, rfl, hF, hT⟩
  · replace hT := hT.2 hcc
    refine r_iload_n dX10_isLetter_6 rfl (i := 0) rfl ?_
    refine r_bipush (n := 122) dX10_isLetter_7 (by decide +kernel) ?_
    refine r_icmp_gt (tgt := 16) dX10_isLetter_9 rfl hx0 ⟨by decide, by decide⟩ (fun hcc => ?_) (fun hcc => ?_)
    · replace hT := hT.1 hcc
      refine r_iconst (n := 0) dX10_isLetter_16 ?_
      exact r_zret dX10_isLetter_17 rfl ⟨by decide, by decide⟩ ⟨Nat.zero_le _, Nat.zero_le _⟩ ⟨_, rfl, rfl, hF, hT⟩
    · replace hT := hT.2 hcc
      refine r_iconst (n := 1) dX10_isLetter_12 ?_
      refine r_goto (tgt := 17) dX10_isLetter_13 rfl ?_
      exact r_zret dX10_isLetter_17 rfl ⟨by decide, by decide⟩ ⟨Nat.zero_le _, Nat.zero_le _⟩ ⟨_, rfl, rfl, hF, hT⟩
theorem en_X10_isLetter {E : jE} {A : Nat → Prop} {G : jG} {I : jM} {q : Int → jM → Prop} {x0 : Int}  (hT : (∀ a j, jRg (G.2.1 a).1 (I a j)) → jIn x0 → ((x0 < 97 → q 0 I) ∧ (¬ x0 < 97 → ((122 < x0 → q 0 I) ∧ (¬ 122 < x0 → q 1 I))))) : jRI E A kX10_isLetter [VI x0] G I q := jRun.of mt_X10_isLetter.2.2.2 0 rfl (fun _ => st_X10_isLetter_0  hT I (fun _ _ => rfl))
theorem sp_X10_isLetter {E : jE} {A : Nat → Prop} {G : jG} {I : jM} {c : Int} : jRI E A kX10_isLetter [VI c] G I (fun x I' => x = jI (97 ≤ c ∧ c ≤ 122) ∧ I' = I) := by
  refine en_X10_isLetter (fun _ _ => ?_)
  repeat' (first | exact ⟨(jI_pos (by omega)).symm, rfl⟩ | exact ⟨(jI_neg (by omega)).symm, rfl⟩ | refine ⟨fun _ => ?_, fun _ => ?_⟩)
set_option maxRecDepth 20000 in
theorem st_X10_isFigure_0 {E : jE} {A : Nat → Prop} {G : jG} {I : jM} {q : Int → jM → Prop} {x0 : Int}  (hT : (∀ a j, jRg (G.2.1 a).1 (I a j)) → jIn x0 → ((x0 < 48 → q 0 I) ∧ (¬ x0 < 48 → ((57 < x0 → q 0 I) ∧ (¬ 57 < x0 → q 1 I))))) : jOI E A kX10_isFigure 0 [VI x0] G I q := by
  intro I0 hF
  refine jOk_mem (fun hI => ?_)
  refine jOk_in (i := 0) rfl (fun hx0 => ?_)
  replace hT := hT hI hx0
  refine r_iload_n dX10_isFigure_0 rfl (i := 0) rfl ?_
  refine r_bipush (n := 48) dX10_isFigure_1 (by decide +kernel) ?_
  refine r_icmp_lt (tgt := 16) dX10_isFigure_3 rfl hx0 ⟨by decide, by decide⟩ (fun hcc => ?_) (fun hcc => ?_)
  · replace hT := hT.1 hcc
    refine r_iconst (n := 0) dX10_isFigure_16 ?_
    exact r_zret dX10_isFigure_17 rfl ⟨by decide, by decide⟩ ⟨Nat.zero_le _, Nat.zero_le _⟩ ⟨_, rfl, rfl, hF, hT⟩
  · replace hT := hT.2 hcc
    refine r_iload_n dX10_isFigure_6 rfl (i := 0) rfl ?_
    refine r_bipush (n := 57) dX10_isFigure_7 (by decide +kernel) ?_
    refine r_icmp_gt (tgt := 16) dX10_isFigure_9 rfl hx0 ⟨by decide, by decide⟩ (fun hcc => ?_) (fun hcc => ?_)
    · replace hT := hT.1 hcc
      refine r_iconst (n := 0) dX10_isFigure_16 ?_
      exact r_zret dX10_isFigure_17 rfl ⟨by decide, by decide⟩ ⟨Nat.zero_le _, Nat.zero_le _⟩ ⟨_, rfl, rfl, hF, hT⟩
    · replace hT := hT.2 hcc
      refine r_iconst (n := 1) dX10_isFigure_12 ?_
      refine r_goto (tgt := 17) dX10_isFigure_13 rfl ?_
      exact r_zret dX10_isFigure_17 rfl ⟨by decide, by decide⟩ ⟨Nat.zero_le _, Nat.zero_le _⟩ ⟨_, rfl, rfl, hF, hT⟩
theorem en_X10_isFigure {E : jE} {A : Nat → Prop} {G : jG} {I : jM} {q : Int → jM → Prop} {x0 : Int}  (hT : (∀ a j, jRg (G.2.1 a).1 (I a j)) → jIn x0 → ((x0 < 48 → q 0 I) ∧ (¬ x0 < 48 → ((57 < x0 → q 0 I) ∧ (¬ 57 < x0 → q 1 I))))) : jRI E A kX10_isFigure [VI x0] G I q := jRun.of mt_X10_isFigure.2.2.2 0 rfl (fun _ => st_X10_isFigure_0  hT I (fun _ _ => rfl))
theorem sp_X10_isFigure {E : jE} {A : Nat → Prop} {G : jG} {I : jM} {c : Int} : jRI E A kX10_isFigure [VI c] G I (fun x I' => x = jI (48 ≤ c ∧ c ≤ 57) ∧ I' = I) := by
  refine en_X10_isFigure (fun _ _ => ?_)
  repeat' (first | exact ⟨(jI_pos (by omega)).symm, rfl⟩ | exact ⟨(jI_neg (by omega)).symm, rfl⟩ | refine ⟨fun _ => ?_, fun _ => ?_⟩)
set_option maxRecDepth 20000 in
theorem st_X10_isBlank_0 {E : jE} {A : Nat → Prop} {G : jG} {I : jM} {q : Int → jM → Prop} {x0 : Int}  (hT : (∀ a j, jRg (G.2.1 a).1 (I a j)) → jIn x0 → ((x0 = 32 → q 1 I) ∧ (¬ x0 = 32 → ((¬ x0 = 10 → q 0 I) ∧ (x0 = 10 → q 1 I))))) : jOI E A kX10_isBlank 0 [VI x0] G I q := by
  intro I0 hF
  refine jOk_mem (fun hI => ?_)
  refine jOk_in (i := 0) rfl (fun hx0 => ?_)
  replace hT := hT hI hx0
  refine r_iload_n dX10_isBlank_0 rfl (i := 0) rfl ?_
  refine r_bipush (n := 32) dX10_isBlank_1 (by decide +kernel) ?_
  refine r_icmp_eq (tgt := 12) dX10_isBlank_3 rfl hx0 ⟨by decide, by decide⟩ (fun hcc => ?_) (fun hcc => ?_)
  · replace hT := hT.1 hcc
    refine r_iconst (n := 1) dX10_isBlank_12 ?_
    refine r_goto (tgt := 17) dX10_isBlank_13 rfl ?_
    exact r_zret dX10_isBlank_17 rfl ⟨by decide, by decide⟩ ⟨Nat.zero_le _, Nat.zero_le _⟩ ⟨_, rfl, rfl, hF, hT⟩
  · replace hT := hT.2 hcc
    refine r_iload_n dX10_isBlank_6 rfl (i := 0) rfl ?_
    refine r_bipush (n := 10) dX10_isBlank_7 (by decide +kernel) ?_
    refine r_icmp_ne (tgt := 16) dX10_isBlank_9 rfl hx0 ⟨by decide, by decide⟩ (fun hcc => ?_) (fun hcc => ?_)
    · replace hT := hT.1 hcc
      refine r_iconst (n := 0) dX10_isBlank_16 ?_
      exact r_zret dX10_isBlank_17 rfl ⟨by decide, by decide⟩ ⟨Nat.zero_le _, Nat.zero_le _⟩ ⟨_, rfl, rfl, hF, hT⟩
    · replace hT := hT.2 hcc
      refine r_iconst (n := 1) dX10_isBlank_12 ?_
      refine r_goto (tgt := 17) dX10_isBlank_13 rfl ?_
      exact r_zret dX10_isBlank_17 rfl ⟨by decide, by decide⟩ ⟨Nat.zero_le _, Nat.zero_le _⟩ ⟨_, rfl, rfl, hF, hT⟩
theorem en_X10_isBlank {E : jE} {A : Nat → Prop} {G : jG} {I : jM} {q : Int → jM → Prop} {x0 : Int}  (hT : (∀ a j, jRg (G.2.1 a).1 (I a j)) → jIn x0 → ((x0 = 32 → q 1 I) ∧ (¬ x0 = 32 → ((¬ x0 = 10 → q 0 I) ∧ (x0 = 10 → q 1 I))))) : jRI E A kX10_isBlank [VI x0] G I q := jRun.of mt_X10_isBlank.2.2.2 0 rfl (fun _ => st_X10_isBlank_0  hT I (fun _ _ => rfl))
theorem sp_X10_isBlank {E : jE} {A : Nat → Prop} {G : jG} {I : jM} {c : Int} : jRI E A kX10_isBlank [VI c] G I (fun x I' => x = jI (c = 32 ∨ c = 10) ∧ I' = I) := by
  refine en_X10_isBlank (fun _ _ => ?_)
  repeat' (first | exact ⟨(jI_pos (by omega)).symm, rfl⟩ | exact ⟨(jI_neg (by omega)).symm, rfl⟩ | refine ⟨fun _ => ?_, fun _ => ?_⟩)
set_option maxRecDepth 20000 in
theorem st_X10_isByte_0 {E : jE} {A : Nat → Prop} {G : jG} {I : jM} {q : Int → jM → Prop} {x0 : Int}  (hT : (∀ a j, jRg (G.2.1 a).1 (I a j)) → jIn x0 → ((x0 = 10 → q 1 I) ∧ (¬ x0 = 10 → ((¬ (32 ≤ x0 ∧ x0 ≤ 126) → q 0 I) ∧ ((32 ≤ x0 ∧ x0 ≤ 126) → q 1 I))))) : jOI E A kX10_isByte 0 [VI x0] G I q := by
  intro I0 hF
  refine jOk_mem (fun hI => ?_)
  refine jOk_in (i := 0) rfl (fun hx0 => ?_)
  replace hT := hT hI hx0
  refine r_iload_n dX10_isByte_0 rfl (i := 0) rfl ?_
  refine r_bipush (n := 10) dX10_isByte_1 (by decide +kernel) ?_
  refine r_icmp_eq (tgt := 17) dX10_isByte_3 rfl hx0 ⟨by decide, by decide⟩ (fun hcc => ?_) (fun hcc => ?_)
  · replace hT := hT.1 hcc
    refine r_iconst (n := 1) dX10_isByte_17 ?_
    refine r_goto (tgt := 22) dX10_isByte_18 rfl ?_
    exact r_zret dX10_isByte_22 rfl ⟨by decide, by decide⟩ ⟨Nat.zero_le _, Nat.zero_le _⟩ ⟨_, rfl, rfl, hF, hT⟩
  · replace hT := hT.2 hcc
    refine r_iload_n dX10_isByte_6 rfl (i := 0) rfl ?_
    refine r_bipush (n := 32) dX10_isByte_7 (by decide +kernel) ?_
    refine r_bipush (n := 126) dX10_isByte_9 (by decide +kernel) ?_
    refine rr_pSI (A := A) (v := jI (32 ≤ x0 ∧ x0 ≤ 126)) (as := [VI x0, VI 32, VI 126]) (st := []) dX10_isByte_11 mt_X10_isIn ml_X10_103 ms_X10_isIn rm_X10_isByte_X10_isIn jz_X10_isIn ⟨Nat.zero_le _, Nat.zero_le _⟩ (Nat.le_of_ble_eq_true rfl) (jasI hx0 (jasI ⟨by decide, by decide⟩ (jasI ⟨by decide, by decide⟩ jas0))) sp_X10_isIn (fun hc1 => ?_)
    refine r_if_eq (tgt := 21) dX10_isByte_14 rfl hc1 (fun hcc => ?_) (fun hcc => ?_)
    · replace hT := hT.1 (jI_n hcc)
      refine r_iconst (n := 0) dX10_isByte_21 ?_
      exact r_zret dX10_isByte_22 rfl ⟨by decide, by decide⟩ ⟨Nat.zero_le _, Nat.zero_le _⟩ ⟨_, rfl, rfl, hF, hT⟩
    · replace hT := hT.2 (jI_p hcc)
      refine r_iconst (n := 1) dX10_isByte_17 ?_
      refine r_goto (tgt := 22) dX10_isByte_18 rfl ?_
      exact r_zret dX10_isByte_22 rfl ⟨by decide, by decide⟩ ⟨Nat.zero_le _, Nat.zero_le _⟩ ⟨_, rfl, rfl, hF, hT⟩
theorem en_X10_isByte {E : jE} {A : Nat → Prop} {G : jG} {I : jM} {q : Int → jM → Prop} {x0 : Int}  (hT : (∀ a j, jRg (G.2.1 a).1 (I a j)) → jIn x0 → ((x0 = 10 → q 1 I) ∧ (¬ x0 = 10 → ((¬ (32 ≤ x0 ∧ x0 ≤ 126) → q 0 I) ∧ ((32 ≤ x0 ∧ x0 ≤ 126) → q 1 I))))) : jRI E A kX10_isByte [VI x0] G I q := jRun.of mt_X10_isByte.2.2.2 0 rfl (fun _ => st_X10_isByte_0  hT I (fun _ _ => rfl))
theorem sp_X10_isByte {E : jE} {A : Nat → Prop} {G : jG} {I : jM} {c : Int} : jRI E A kX10_isByte [VI c] G I (fun x I' => x = jI (c = 10 ∨ (32 ≤ c ∧ c ≤ 126)) ∧ I' = I) := by
  refine en_X10_isByte (fun _ _ => ?_)
  repeat' (first | exact ⟨(jI_pos (by omega)).symm, rfl⟩ | exact ⟨(jI_neg (by omega)).symm, rfl⟩ | refine ⟨fun _ => ?_, fun _ => ?_⟩)
set_option maxRecDepth 20000 in
theorem st_X10_sortOf_0 {E : jE} {A : Nat → Prop} {G : jG} {I : jM} {q : Int → jM → Prop} {x0 : Int}  (hT : (∀ a j, jRg (G.2.1 a).1 (I a j)) → jIn x0 → ((¬ (97 ≤ x0 ∧ x0 ≤ 122) → ((¬ (48 ≤ x0 ∧ x0 ≤ 57) → ((¬ (x0 = 32 ∨ x0 = 10) → q 2 I) ∧ ((x0 = 32 ∨ x0 = 10) → q 3 I))) ∧ ((48 ≤ x0 ∧ x0 ≤ 57) → q 1 I))) ∧ ((97 ≤ x0 ∧ x0 ≤ 122) → q 0 I))) : jOI E A kX10_sortOf 0 [VI x0] G I q := by
  intro I0 hF
  refine jOk_mem (fun hI => ?_)
  refine jOk_in (i := 0) rfl (fun hx0 => ?_)
  replace hT := hT hI hx0
  refine r_iload_n dX10_sortOf_0 rfl (i := 0) rfl ?_
  refine rr_pSI (A := A) (v := jI (97 ≤ x0 ∧ x0 ≤ 122)) (as := [VI x0]) (st := []) dX10_sortOf_1 mt_X10_isLetter ml_X10_107 ms_X10_isLetter rm_X10_sortOf_X10_isLetter jz_X10_isLetter ⟨Nat.zero_le _, Nat.zero_le _⟩ (Nat.le_of_ble_eq_true rfl) (jasI hx0 jas0) sp_X10_isLetter (fun hc1 => ?_)
  refine r_if_eq (tgt := 11) dX10_sortOf_4 rfl hc1 (fun hcc => ?_) (fun hcc => ?_)
  · replace hT := hT.1 (jI_n hcc)
    refine r_iload_n dX10_sortOf_11 rfl (i := 0) rfl ?_
    refine rr_pSI (A := A) (v := jI (48 ≤ x0 ∧ x0 ≤ 57)) (as := [VI x0]) (st := []) dX10_sortOf_12 mt_X10_isFigure ml_X10_111 ms_X10_isFigure rm_X10_sortOf_X10_isFigure jz_X10_isFigure ⟨Nat.zero_le _, Nat.zero_le _⟩ (Nat.le_of_ble_eq_true rfl) (jasI hx0 jas0) sp_X10_isFigure (fun hc2 => ?_)
    refine r_if_eq (tgt := 22) dX10_sortOf_15 rfl hc2 (fun hcc => ?_) (fun hcc => ?_)
    · replace hT := hT.1 (jI_n hcc)
      refine r_iload_n dX10_sortOf_22 rfl (i := 0) rfl ?_
      refine rr_pSI (A := A) (v := jI (x0 = 32 ∨ x0 = 10)) (as := [VI x0]) (st := []) dX10_sortOf_23 mt_X10_isBlank ml_X10_114 ms_X10_isBlank rm_X10_sortOf_X10_isBlank jz_X10_isBlank ⟨Nat.zero_le _, Nat.zero_le _⟩ (Nat.le_of_ble_eq_true rfl) (jasI hx0 jas0) sp_X10_isBlank (fun hc3 => ?_)
      refine r_if_eq (tgt := 33) dX10_sortOf_26 rfl hc3 (fun hcc => ?_) (fun hcc => ?_)
      · replace hT := hT.1 (jI_n hcc)
        refine r_iconst (n := 2) dX10_sortOf_33 ?_
        exact r_iret dX10_sortOf_34 rfl ⟨by decide, by decide⟩ ⟨Nat.zero_le _, Nat.zero_le _⟩ ⟨_, rfl, rfl, hF, hT⟩
      · replace hT := hT.2 (jI_p hcc)
        refine r_iconst (n := 3) dX10_sortOf_29 ?_
        refine r_goto (tgt := 34) dX10_sortOf_30 rfl ?_
        exact r_iret dX10_sortOf_34 rfl ⟨by decide, by decide⟩ ⟨Nat.zero_le _, Nat.zero_le _⟩ ⟨_, rfl, rfl, hF, hT⟩
    · replace hT := hT.2 (jI_p hcc)
      refine r_iconst (n := 1) dX10_sortOf_18 ?_
      refine r_goto (tgt := 34) dX10_sortOf_19 rfl ?_
      exact r_iret dX10_sortOf_34 rfl ⟨by decide, by decide⟩ ⟨Nat.zero_le _, Nat.zero_le _⟩ ⟨_, rfl, rfl, hF, hT⟩
  · replace hT := hT.2 (jI_p hcc)
    refine r_iconst (n := 0) dX10_sortOf_7 ?_
    refine r_goto (tgt := 34) dX10_sortOf_8 rfl ?_
    exact r_iret dX10_sortOf_34 rfl ⟨by decide, by decide⟩ ⟨Nat.zero_le _, Nat.zero_le _⟩ ⟨_, rfl, rfl, hF, hT⟩
theorem en_X10_sortOf {E : jE} {A : Nat → Prop} {G : jG} {I : jM} {q : Int → jM → Prop} {x0 : Int}  (hT : (∀ a j, jRg (G.2.1 a).1 (I a j)) → jIn x0 → ((¬ (97 ≤ x0 ∧ x0 ≤ 122) → ((¬ (48 ≤ x0 ∧ x0 ≤ 57) → ((¬ (x0 = 32 ∨ x0 = 10) → q 2 I) ∧ ((x0 = 32 ∨ x0 = 10) → q 3 I))) ∧ ((48 ≤ x0 ∧ x0 ≤ 57) → q 1 I))) ∧ ((97 ≤ x0 ∧ x0 ≤ 122) → q 0 I))) : jRI E A kX10_sortOf [VI x0] G I q := jRun.of mt_X10_sortOf.2.2.2 0 rfl (fun _ => st_X10_sortOf_0  hT I (fun _ _ => rfl))
theorem sp_X10_sortOf {E : jE} {A : Nat → Prop} {G : jG} {I : jM} {c : Int} : jRI E A kX10_sortOf [VI c] G I (fun x I' => x = srt c ∧ I' = I) := by
  refine en_X10_sortOf (fun _ _ => ?_)
  unfold srt
  refine ⟨fun h1 => ⟨fun h2 => ⟨fun h3 => ?_, fun h3 => ?_⟩, fun h2 => ?_⟩, fun h1 => ?_⟩
  · rw [if_neg h1, if_neg h2, if_neg h3]; exact ⟨rfl, rfl⟩
  · rw [if_neg h1, if_neg h2, if_pos h3]; exact ⟨rfl, rfl⟩
  · rw [if_neg h1, if_pos h2]; exact ⟨rfl, rfl⟩
  · rw [if_pos h1]; exact ⟨rfl, rfl⟩
set_option maxRecDepth 20000 in
theorem st_X10_byteAt_0 {E : jE} {G : jG} {I : jM} {q : Int → jM → Prop} {m : Nat} {x1 : Int} (hm : WX10 G m) (hT : (∀ a j, jRg (G.2.1 a).1 (I a j)) → jIn x1 → ((0 : Int) ≤ (10 + x1) ∧ ((10 + x1) : Int) < 22094) ∧ q (I (m + 1) (10 + x1)) I) : jOI E (jA m) kX10_byteAt 0 [VR m, VI x1] G I q := by
  intro I0 hF
  refine jOk_mem (fun hI => ?_)
  refine jOk_in (i := 1) rfl (fun hx1 => ?_)
  replace hT := hT hI hx1
  refine r_aload_n dX10_byteAt_0 rfl (i := 0) rfl ?_
  refine rr_getR (b := (m + 1)) dX10_byteAt_1 fg_X10_7 rfl rfl (wX10_l hm) (wX10_s hm) (wX10_r0 hm) ?_
  refine r_bipush (n := 10) dX10_byteAt_4 (by decide +kernel) ?_
  refine r_iload_n dX10_byteAt_6 rfl (i := 1) rfl ?_
  refine r_iadd dX10_byteAt_7 ?_
  obtain ⟨hc1, hT⟩ := hT
  refine rr_iaload (v := I (m + 1) (10 + x1)) dX10_byteAt_8 (wX10_l0 hm) (wX10_a0 hm) (by decide) hc1 rfl ?_
  exact r_iret dX10_byteAt_9 rfl (hI _ _).inR ⟨Nat.zero_le _, Nat.zero_le _⟩ ⟨_, rfl, rfl, hF, hT⟩
theorem en_X10_byteAt {E : jE} {G : jG} {I : jM} {q : Int → jM → Prop} {m : Nat} {x1 : Int} (hm : WX10 G m) (hT : (∀ a j, jRg (G.2.1 a).1 (I a j)) → jIn x1 → ((0 : Int) ≤ (10 + x1) ∧ ((10 + x1) : Int) < 22094) ∧ q (I (m + 1) (10 + x1)) I) : jRI E (jA m) kX10_byteAt [VR m, VI x1] G I q := jRun.of mt_X10_byteAt.2.2.2 0 rfl (fun _ => st_X10_byteAt_0 hm hT I (fun _ _ => rfl))
theorem sp_X10_byteAt {E : jE} {G : jG} {I : jM} {m : Nat} (hm : WX10 G m) {i : Int} (h : 0 ≤ 10 + i ∧ 10 + i < 22094) : jRI E (jA m) kX10_byteAt [VR m, VI i] G I (fun x I' => x = I (m + 1) (10 + i) ∧ I' = I) := en_X10_byteAt hm (fun _ _ => ⟨h, rfl, rfl⟩)
set_option maxRecDepth 20000 in
theorem st_X10_get_0 {E : jE} {G : jG} {I : jM} {q : Int → jM → Prop} {m : Nat} {x1 : Int} {x2 : Int} (hm : WX10 G m) (hT : (∀ a j, jRg (G.2.1 a).1 (I a j)) → jIn x1 → jIn x2 → ((0 : Int) ≤ ((514 + (40 * x1)) + x2) ∧ (((514 + (40 * x1)) + x2) : Int) < 22094) ∧ q (I (m + 1) ((514 + (40 * x1)) + x2)) I) : jOI E (jA m) kX10_get 0 [VR m, VI x1, VI x2] G I q := by
  intro I0 hF
  refine jOk_mem (fun hI => ?_)
  refine jOk_in (i := 1) rfl (fun hx1 => ?_)
  refine jOk_in (i := 2) rfl (fun hx2 => ?_)
  replace hT := hT hI hx1 hx2
  refine r_aload_n dX10_get_0 rfl (i := 0) rfl ?_
  refine rr_getR (b := (m + 1)) dX10_get_1 fg_X10_7 rfl rfl (wX10_l hm) (wX10_s hm) (wX10_r0 hm) ?_
  refine r_sipush (n := 514) dX10_get_4 (by decide +kernel) ?_
  refine r_bipush (n := 40) dX10_get_7 (by decide +kernel) ?_
  refine r_iload_n dX10_get_9 rfl (i := 1) rfl ?_
  refine r_imul dX10_get_10 ?_
  refine r_iadd dX10_get_11 ?_
  refine r_iload_n dX10_get_12 rfl (i := 2) rfl ?_
  refine r_iadd dX10_get_13 ?_
  obtain ⟨hc1, hT⟩ := hT
  refine rr_iaload (v := I (m + 1) ((514 + (40 * x1)) + x2)) dX10_get_14 (wX10_l0 hm) (wX10_a0 hm) (by decide) hc1 rfl ?_
  exact r_iret dX10_get_15 rfl (hI _ _).inR ⟨Nat.zero_le _, Nat.zero_le _⟩ ⟨_, rfl, rfl, hF, hT⟩
theorem en_X10_get {E : jE} {G : jG} {I : jM} {q : Int → jM → Prop} {m : Nat} {x1 : Int} {x2 : Int} (hm : WX10 G m) (hT : (∀ a j, jRg (G.2.1 a).1 (I a j)) → jIn x1 → jIn x2 → ((0 : Int) ≤ ((514 + (40 * x1)) + x2) ∧ (((514 + (40 * x1)) + x2) : Int) < 22094) ∧ q (I (m + 1) ((514 + (40 * x1)) + x2)) I) : jRI E (jA m) kX10_get [VR m, VI x1, VI x2] G I q := jRun.of mt_X10_get.2.2.2 0 rfl (fun _ => st_X10_get_0 hm hT I (fun _ _ => rfl))
theorem sp_X10_get {E : jE} {G : jG} {I : jM} {m : Nat} (hm : WX10 G m) {r w : Int} (h : 0 ≤ 514 + 40 * r + w ∧ 514 + 40 * r + w < 22094) : jRI E (jA m) kX10_get [VR m, VI r, VI w] G I (fun x I' => x = I (m + 1) (514 + 40 * r + w) ∧ I' = I) := en_X10_get hm (fun _ _ _ => ⟨h, rfl, rfl⟩)
set_option maxRecDepth 20000 in
theorem st_X10_elementOf_0 {E : jE} {G : jG} {I : jM} {q : Int → jM → Prop} {m : Nat} {x1 : Int} {x2 : Int} {x3 : Int} (hm : WX10 G m) (hT : (∀ a j, jRg (G.2.1 a).1 (I a j)) → jIn x1 → jIn x2 → jIn x3 → jIn ((4 + (3 * x2)) + x3) ∧ (0 ≤ 514 + 40 * x1 + ((4 + (3 * x2)) + x3) ∧ 514 + 40 * x1 + ((4 + (3 * x2)) + x3) < 22094) ∧ q (I (m + 1) (514 + 40 * x1 + ((4 + (3 * x2)) + x3))) I) : jOI E (jA m) kX10_elementOf 0 [VR m, VI x1, VI x2, VI x3] G I q := by
  intro I0 hF
  refine jOk_mem (fun hI => ?_)
  refine jOk_in (i := 1) rfl (fun hx1 => ?_)
  refine jOk_in (i := 2) rfl (fun hx2 => ?_)
  refine jOk_in (i := 3) rfl (fun hx3 => ?_)
  replace hT := hT hI hx1 hx2 hx3
  refine r_aload_n dX10_elementOf_0 rfl (i := 0) rfl ?_
  refine r_iload_n dX10_elementOf_1 rfl (i := 1) rfl ?_
  refine r_iconst (n := 4) dX10_elementOf_2 ?_
  refine r_iconst (n := 3) dX10_elementOf_3 ?_
  refine r_iload_n dX10_elementOf_4 rfl (i := 2) rfl ?_
  refine r_imul dX10_elementOf_5 ?_
  refine r_iadd dX10_elementOf_6 ?_
  refine r_iload_n dX10_elementOf_7 rfl (i := 3) rfl ?_
  refine r_iadd dX10_elementOf_8 ?_
  obtain ⟨hc1, hT⟩ := hT
  obtain ⟨hc3, hT⟩ := hT
  refine rr_pVI (A := (jA m)) (v := I (m + 1) (514 + 40 * x1 + ((4 + (3 * x2)) + x3))) (a := m) (as := [VI x1, VI ((4 + (3 * x2)) + x3)]) (st := []) dX10_elementOf_9 mt_X10_get ml_X10_127 mi_X10_get rm_X10_elementOf_X10_get jz_X10_get ⟨Nat.zero_le _, Nat.zero_le _⟩ (Nat.le_of_ble_eq_true rfl) (wX10_l hm) (wX10_c hm) (jasI hx1 (jasI hc1 jas0)) ((sp_X10_get hm) hc3) (fun hc2 => ?_)
  exact r_iret dX10_elementOf_12 rfl hc2 ⟨Nat.zero_le _, Nat.zero_le _⟩ ⟨_, rfl, rfl, hF, hT⟩
theorem en_X10_elementOf {E : jE} {G : jG} {I : jM} {q : Int → jM → Prop} {m : Nat} {x1 : Int} {x2 : Int} {x3 : Int} (hm : WX10 G m) (hT : (∀ a j, jRg (G.2.1 a).1 (I a j)) → jIn x1 → jIn x2 → jIn x3 → jIn ((4 + (3 * x2)) + x3) ∧ (0 ≤ 514 + 40 * x1 + ((4 + (3 * x2)) + x3) ∧ 514 + 40 * x1 + ((4 + (3 * x2)) + x3) < 22094) ∧ q (I (m + 1) (514 + 40 * x1 + ((4 + (3 * x2)) + x3))) I) : jRI E (jA m) kX10_elementOf [VR m, VI x1, VI x2, VI x3] G I q := jRun.of mt_X10_elementOf.2.2.2 0 rfl (fun _ => st_X10_elementOf_0 hm hT I (fun _ _ => rfl))
theorem sp_X10_elementOf {E : jE} {G : jG} {I : jM} {m : Nat} (hm : WX10 G m) {r e w : Int} (h : 0 ≤ r ∧ r < 6 ∧ 0 ≤ e ∧ e < 6 ∧ 0 ≤ w ∧ w < 3) : jRI E (jA m) kX10_elementOf [VR m, VI r, VI e, VI w] G I (fun x I' => x = I (m + 1) (518 + 40 * r + 3 * e + w) ∧ I' = I) := by
  refine en_X10_elementOf hm (fun _ _ _ _ => ⟨⟨by omega, by omega⟩, ⟨by omega, by omega⟩, ?_, rfl⟩)
  congr 1
  omega
set_option maxRecDepth 20000 in
theorem st_X10_partOf_0 {E : jE} {G : jG} {I : jM} {q : Int → jM → Prop} {m : Nat} {x1 : Int} {x2 : Int} {x3 : Int} (hm : WX10 G m) (hT : (∀ a j, jRg (G.2.1 a).1 (I a j)) → jIn x1 → jIn x2 → jIn x3 → jIn ((22 + (3 * x2)) + x3) ∧ (0 ≤ 514 + 40 * x1 + ((22 + (3 * x2)) + x3) ∧ 514 + 40 * x1 + ((22 + (3 * x2)) + x3) < 22094) ∧ q (I (m + 1) (514 + 40 * x1 + ((22 + (3 * x2)) + x3))) I) : jOI E (jA m) kX10_partOf 0 [VR m, VI x1, VI x2, VI x3] G I q := by
  intro I0 hF
  refine jOk_mem (fun hI => ?_)
  refine jOk_in (i := 1) rfl (fun hx1 => ?_)
  refine jOk_in (i := 2) rfl (fun hx2 => ?_)
  refine jOk_in (i := 3) rfl (fun hx3 => ?_)
  replace hT := hT hI hx1 hx2 hx3
  refine r_aload_n dX10_partOf_0 rfl (i := 0) rfl ?_
  refine r_iload_n dX10_partOf_1 rfl (i := 1) rfl ?_
  refine r_bipush (n := 22) dX10_partOf_2 (by decide +kernel) ?_
  refine r_iconst (n := 3) dX10_partOf_4 ?_
  refine r_iload_n dX10_partOf_5 rfl (i := 2) rfl ?_
  refine r_imul dX10_partOf_6 ?_
  refine r_iadd dX10_partOf_7 ?_
  refine r_iload_n dX10_partOf_8 rfl (i := 3) rfl ?_
  refine r_iadd dX10_partOf_9 ?_
  obtain ⟨hc1, hT⟩ := hT
  obtain ⟨hc3, hT⟩ := hT
  refine rr_pVI (A := (jA m)) (v := I (m + 1) (514 + 40 * x1 + ((22 + (3 * x2)) + x3))) (a := m) (as := [VI x1, VI ((22 + (3 * x2)) + x3)]) (st := []) dX10_partOf_10 mt_X10_get ml_X10_127 mi_X10_get rm_X10_partOf_X10_get jz_X10_get ⟨Nat.zero_le _, Nat.zero_le _⟩ (Nat.le_of_ble_eq_true rfl) (wX10_l hm) (wX10_c hm) (jasI hx1 (jasI hc1 jas0)) ((sp_X10_get hm) hc3) (fun hc2 => ?_)
  exact r_iret dX10_partOf_13 rfl hc2 ⟨Nat.zero_le _, Nat.zero_le _⟩ ⟨_, rfl, rfl, hF, hT⟩
theorem en_X10_partOf {E : jE} {G : jG} {I : jM} {q : Int → jM → Prop} {m : Nat} {x1 : Int} {x2 : Int} {x3 : Int} (hm : WX10 G m) (hT : (∀ a j, jRg (G.2.1 a).1 (I a j)) → jIn x1 → jIn x2 → jIn x3 → jIn ((22 + (3 * x2)) + x3) ∧ (0 ≤ 514 + 40 * x1 + ((22 + (3 * x2)) + x3) ∧ 514 + 40 * x1 + ((22 + (3 * x2)) + x3) < 22094) ∧ q (I (m + 1) (514 + 40 * x1 + ((22 + (3 * x2)) + x3))) I) : jRI E (jA m) kX10_partOf [VR m, VI x1, VI x2, VI x3] G I q := jRun.of mt_X10_partOf.2.2.2 0 rfl (fun _ => st_X10_partOf_0 hm hT I (fun _ _ => rfl))
theorem sp_X10_partOf {E : jE} {G : jG} {I : jM} {m : Nat} (hm : WX10 G m) {r e w : Int} (h : 0 ≤ r ∧ r < 6 ∧ 0 ≤ e ∧ e < 6 ∧ 0 ≤ w ∧ w < 3) : jRI E (jA m) kX10_partOf [VR m, VI r, VI e, VI w] G I (fun x I' => x = I (m + 1) (536 + 40 * r + 3 * e + w) ∧ I' = I) := by
  refine en_X10_partOf hm (fun _ _ _ _ => ⟨⟨by omega, by omega⟩, ⟨by omega, by omega⟩, ?_, rfl⟩)
  congr 1
  omega
set_option maxRecDepth 20000 in
theorem st_X10_isRule_0 {E : jE} {G : jG} {I : jM} {q : Int → jM → Prop} {m : Nat} {x1 : Int} (hm : WX10 G m) (hT : (∀ a j, jRg (G.2.1 a).1 (I a j)) → jIn x1 → jIn ((I (m + 1) 4) - 1) ∧ q (jI (0 ≤ x1 ∧ x1 ≤ ((I (m + 1) 4) - 1))) I) : jOI E (jA m) kX10_isRule 0 [VR m, VI x1] G I q := by
  intro I0 hF
  refine jOk_mem (fun hI => ?_)
  refine jOk_in (i := 1) rfl (fun hx1 => ?_)
  replace hT := hT hI hx1
  refine r_iload_n dX10_isRule_0 rfl (i := 1) rfl ?_
  refine r_iconst (n := 0) dX10_isRule_1 ?_
  refine r_aload_n dX10_isRule_2 rfl (i := 0) rfl ?_
  refine rr_getR (b := (m + 1)) dX10_isRule_3 fg_X10_7 rfl rfl (wX10_l hm) (wX10_s hm) (wX10_r0 hm) ?_
  refine r_iconst (n := 4) dX10_isRule_6 ?_
  refine rr_iaload (v := I (m + 1) 4) dX10_isRule_7 (wX10_l0 hm) (wX10_a0 hm) (by decide) ⟨by decide, by decide⟩ rfl ?_
  refine r_iconst (n := 1) dX10_isRule_8 ?_
  refine r_isub dX10_isRule_9 ?_
  obtain ⟨hc2, hT⟩ := hT
  refine rr_pSI (A := (jA m)) (v := jI (0 ≤ x1 ∧ x1 ≤ ((I (m + 1) 4) - 1))) (as := [VI x1, VI 0, VI ((I (m + 1) 4) - 1)]) (st := []) dX10_isRule_10 mt_X10_isIn ml_X10_103 ms_X10_isIn rm_X10_isRule_X10_isIn jz_X10_isIn ⟨Nat.zero_le _, Nat.zero_le _⟩ (Nat.le_of_ble_eq_true rfl) (jasI hx1 (jasI ⟨by decide, by decide⟩ (jasI hc2 jas0))) sp_X10_isIn (fun hc3 => ?_)
  exact r_zret dX10_isRule_13 rfl jI_01 ⟨Nat.zero_le _, Nat.zero_le _⟩ ⟨_, rfl, rfl, hF, hT⟩
theorem en_X10_isRule {E : jE} {G : jG} {I : jM} {q : Int → jM → Prop} {m : Nat} {x1 : Int} (hm : WX10 G m) (hT : (∀ a j, jRg (G.2.1 a).1 (I a j)) → jIn x1 → jIn ((I (m + 1) 4) - 1) ∧ q (jI (0 ≤ x1 ∧ x1 ≤ ((I (m + 1) 4) - 1))) I) : jRI E (jA m) kX10_isRule [VR m, VI x1] G I q := jRun.of mt_X10_isRule.2.2.2 0 rfl (fun _ => st_X10_isRule_0 hm hT I (fun _ _ => rfl))
theorem sp_X10_isRule {E : jE} {G : jG} {I : jM} {m : Nat} (hm : WX10 G m) {r : Int} (h : 0 ≤ I (m + 1) 4 ∧ I (m + 1) 4 ≤ 6) : jRI E (jA m) kX10_isRule [VR m, VI r] G I (fun x I' => x = jI (0 ≤ r ∧ r < I (m + 1) 4) ∧ I' = I) := en_X10_isRule hm (fun _ _ => ⟨⟨by omega, by omega⟩, jI_congr ⟨fun q => ⟨q.1, by omega⟩, fun q => ⟨q.1, by omega⟩⟩, rfl⟩)
set_option maxRecDepth 20000 in
theorem st_X10_isPlace_0 {E : jE} {G : jG} {I : jM} {q : Int → jM → Prop} {m : Nat} {x1 : Int} (hm : WX10 G m) (hT : (∀ a j, jRg (G.2.1 a).1 (I a j)) → jIn x1 → jIn ((I (m + 1) 2) - 1) ∧ q (jI (0 ≤ x1 ∧ x1 ≤ ((I (m + 1) 2) - 1))) I) : jOI E (jA m) kX10_isPlace 0 [VR m, VI x1] G I q := by
  intro I0 hF
  refine jOk_mem (fun hI => ?_)
  refine jOk_in (i := 1) rfl (fun hx1 => ?_)
  replace hT := hT hI hx1
  refine r_iload_n dX10_isPlace_0 rfl (i := 1) rfl ?_
  refine r_iconst (n := 0) dX10_isPlace_1 ?_
  refine r_aload_n dX10_isPlace_2 rfl (i := 0) rfl ?_
  refine rr_getR (b := (m + 1)) dX10_isPlace_3 fg_X10_7 rfl rfl (wX10_l hm) (wX10_s hm) (wX10_r0 hm) ?_
  refine r_iconst (n := 2) dX10_isPlace_6 ?_
  refine rr_iaload (v := I (m + 1) 2) dX10_isPlace_7 (wX10_l0 hm) (wX10_a0 hm) (by decide) ⟨by decide, by decide⟩ rfl ?_
  refine r_iconst (n := 1) dX10_isPlace_8 ?_
  refine r_isub dX10_isPlace_9 ?_
  obtain ⟨hc2, hT⟩ := hT
  refine rr_pSI (A := (jA m)) (v := jI (0 ≤ x1 ∧ x1 ≤ ((I (m + 1) 2) - 1))) (as := [VI x1, VI 0, VI ((I (m + 1) 2) - 1)]) (st := []) dX10_isPlace_10 mt_X10_isIn ml_X10_103 ms_X10_isIn rm_X10_isPlace_X10_isIn jz_X10_isIn ⟨Nat.zero_le _, Nat.zero_le _⟩ (Nat.le_of_ble_eq_true rfl) (jasI hx1 (jasI ⟨by decide, by decide⟩ (jasI hc2 jas0))) sp_X10_isIn (fun hc3 => ?_)
  exact r_zret dX10_isPlace_13 rfl jI_01 ⟨Nat.zero_le _, Nat.zero_le _⟩ ⟨_, rfl, rfl, hF, hT⟩
theorem en_X10_isPlace {E : jE} {G : jG} {I : jM} {q : Int → jM → Prop} {m : Nat} {x1 : Int} (hm : WX10 G m) (hT : (∀ a j, jRg (G.2.1 a).1 (I a j)) → jIn x1 → jIn ((I (m + 1) 2) - 1) ∧ q (jI (0 ≤ x1 ∧ x1 ≤ ((I (m + 1) 2) - 1))) I) : jRI E (jA m) kX10_isPlace [VR m, VI x1] G I q := jRun.of mt_X10_isPlace.2.2.2 0 rfl (fun _ => st_X10_isPlace_0 hm hT I (fun _ _ => rfl))
theorem sp_X10_isPlace {E : jE} {G : jG} {I : jM} {m : Nat} (hm : WX10 G m) {r : Int} (h : 0 ≤ I (m + 1) 2 ∧ I (m + 1) 2 ≤ 200) : jRI E (jA m) kX10_isPlace [VR m, VI r] G I (fun x I' => x = jI (0 ≤ r ∧ r < I (m + 1) 2) ∧ I' = I) := en_X10_isPlace hm (fun _ _ => ⟨⟨by omega, by omega⟩, jI_congr ⟨fun q => ⟨q.1, by omega⟩, fun q => ⟨q.1, by omega⟩⟩, rfl⟩)
