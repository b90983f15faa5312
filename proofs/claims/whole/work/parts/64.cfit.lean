/-! ===== the class: tokens, fitting ===== -/
set_option maxRecDepth 20000 in
theorem st_X9_sortOf_0 {E : jE} {A : Nat → Prop} {G : jG} {I : jM} {q : Int → jM → Prop} {x0 : Int}  (hT : (∀ a j, jRg (G.2.1 a).1 (I a j)) → jIn x0 → ((x0 < 97 → ((x0 < 48 → ((x0 = 32 → q 2 I) ∧ (¬ x0 = 32 → ((¬ x0 = 10 → q 3 I) ∧ (x0 = 10 → q 2 I))))) ∧ (¬ x0 < 48 → ((57 < x0 → ((x0 = 32 → q 2 I) ∧ (¬ x0 = 32 → ((¬ x0 = 10 → q 3 I) ∧ (x0 = 10 → q 2 I))))) ∧ (¬ 57 < x0 → q 1 I))))) ∧ (¬ x0 < 97 → ((122 < x0 → ((x0 < 48 → ((x0 = 32 → q 2 I) ∧ (¬ x0 = 32 → ((¬ x0 = 10 → q 3 I) ∧ (x0 = 10 → q 2 I))))) ∧ (¬ x0 < 48 → ((57 < x0 → ((x0 = 32 → q 2 I) ∧ (¬ x0 = 32 → ((¬ x0 = 10 → q 3 I) ∧ (x0 = 10 → q 2 I))))) ∧ (¬ 57 < x0 → q 1 I))))) ∧ (¬ 122 < x0 → q 0 I))))) : jOI E A kX9_sortOf 0 [VI x0] G I q := by
  intro I0 hF
  refine jOk_mem (fun hI => ?_)
  refine jOk_in (i := 0) rfl (fun hx0 => ?_)
  replace hT := hT hI hx0
  refine r_iload_n dX9_sortOf_0 rfl (i := 0) rfl ?_
  refine r_bipush (n := 97) dX9_sortOf_1 (by decide +kernel) ?_
  refine r_icmp_lt (tgt := 14) dX9_sortOf_3 rfl hx0 ⟨by decide, by decide⟩ (fun hcc => ?_) (fun hcc => ?_)
  · replace hT := hT.1 hcc
    refine r_iload_n dX9_sortOf_14 rfl (i := 0) rfl ?_
    refine r_bipush (n := 48) dX9_sortOf_15 (by decide +kernel) ?_
    refine r_icmp_lt (tgt := 28) dX9_sortOf_17 rfl hx0 ⟨by decide, by decide⟩ (fun hcc => ?_) (fun hcc => ?_)
    · replace hT := hT.1 hcc
      refine r_iload_n dX9_sortOf_28 rfl (i := 0) rfl ?_
      refine r_bipush (n := 32) dX9_sortOf_29 (by decide +kernel) ?_
      refine r_icmp_eq (tgt := 40) dX9_sortOf_31 rfl hx0 ⟨by decide, by decide⟩ (fun hcc => ?_) (fun hcc => ?_)
      · replace hT := hT.1 hcc
        refine r_iconst (n := 2) dX9_sortOf_40 ?_
        refine r_goto (tgt := 45) dX9_sortOf_41 rfl ?_
        exact r_iret dX9_sortOf_45 rfl ⟨by decide, by decide⟩ ⟨Nat.zero_le _, Nat.zero_le _⟩ ⟨_, rfl, rfl, hF, hT⟩
      · replace hT := hT.2 hcc
        refine r_iload_n dX9_sortOf_34 rfl (i := 0) rfl ?_
        refine r_bipush (n := 10) dX9_sortOf_35 (by decide +kernel) ?_
        refine r_icmp_ne (tgt := 44) dX9_sortOf_37 rfl hx0 ⟨by decide, by decide⟩ (fun hcc => ?_) (fun hcc => ?_)
        · replace hT := hT.1 hcc
          refine r_iconst (n := 3) dX9_sortOf_44 ?_
          exact r_iret dX9_sortOf_45 rfl ⟨by decide, by decide⟩ ⟨Nat.zero_le _, Nat.zero_le _⟩ ⟨_, rfl, rfl, hF, hT⟩
        · replace hT := hT.2 hcc
          refine r_iconst (n := 2) dX9_sortOf_40 ?_
          refine r_goto (tgt := 45) dX9_sortOf_41 rfl ?_
          exact r_iret dX9_sortOf_45 rfl ⟨by decide, by decide⟩ ⟨Nat.zero_le _, Nat.zero_le _⟩ ⟨_, rfl, rfl, hF, hT⟩
    · replace hT := hT.2 hcc
      refine r_iload_n dX9_sortOf_20 rfl (i := 0) rfl ?_
      refine r_bipush (n := 57) dX9_sortOf_21 (by decide +kernel) ?_
      refine r_icmp_gt (tgt := 28) dX9_sortOf_23 rfl hx0 ⟨by decide, by decide⟩ (fun hcc => ?_) (fun hcc => ?_)
      · replace hT := hT.1 hcc
        refine r_iload_n dX9_sortOf_28 rfl (i := 0) rfl ?_
        refine r_bipush (n := 32) dX9_sortOf_29 (by decide +kernel) ?_
        refine r_icmp_eq (tgt := 40) dX9_sortOf_31 rfl hx0 ⟨by decide, by decide⟩ (fun hcc => ?_) (fun hcc => ?_)
        · replace hT := hT.1 hcc
          refine r_iconst (n := 2) dX9_sortOf_40 ?_
          refine r_goto (tgt := 45) dX9_sortOf_41 rfl ?_
          exact r_iret dX9_sortOf_45 rfl ⟨by decide, by decide⟩ ⟨Nat.zero_le _, Nat.zero_le _⟩ ⟨_, rfl, rfl, hF, hT⟩
        · replace hT := hT.2 hcc
          refine r_iload_n dX9_sortOf_34 rfl (i := 0) rfl ?_
          refine r_bipush (n := 10) dX9_sortOf_35 (by decide +kernel) ?_
          refine r_icmp_ne (tgt := 44) dX9_sortOf_37 rfl hx0 ⟨by decide, by decide⟩ (fun hcc => ?_) (fun hcc => ?_)
          · replace hT := hT.1 hcc
            refine r_iconst (n := 3) dX9_sortOf_44 ?_
            exact r_iret dX9_sortOf_45 rfl ⟨by decide, by decide⟩ ⟨Nat.zero_le _, Nat.zero_le _⟩ ⟨_, rfl, rfl, hF, hT⟩
          · replace hT := hT.2 hcc
            refine r_iconst (n := 2) dX9_sortOf_40 ?_
            refine r_goto (tgt := 45) dX9_sortOf_41 rfl ?_
            exact r_iret dX9_sortOf_45 rfl ⟨by decide, by decide⟩ ⟨Nat.zero_le _, Nat.zero_le _⟩ ⟨_, rfl, rfl, hF, hT⟩
      · replace hT := hT.2 hcc
        refine r_iconst (n := 1) dX9_sortOf_26 ?_
        exact r_iret dX9_sortOf_27 rfl ⟨by decide, by decide⟩ ⟨Nat.zero_le _, Nat.zero_le _⟩ ⟨_, rfl, rfl, hF, hT⟩
  · replace hT := hT.2 hcc
    refine r_iload_n dX9_sortOf_6 rfl (i := 0) rfl ?_
    refine r_bipush (n := 122) dX9_sortOf_7 (by decide +kernel) ?_
    refine r_icmp_gt (tgt := 14) dX9_sortOf_9 rfl hx0 ⟨by decide, by decide⟩ (fun hcc => ?_) (fun hcc => ?_)
    · replace hT := hT.1 hcc
      refine r_iload_n dX9_sortOf_14 rfl (i := 0) rfl ?_
      refine r_bipush (n := 48) dX9_sortOf_15 (by decide +kernel) ?_
      refine r_icmp_lt (tgt := 28) dX9_sortOf_17 rfl hx0 ⟨by decide, by decide⟩ (fun hcc => ?_) (fun hcc => ?_)
      · replace hT := hT.1 hcc
        refine r_iload_n dX9_sortOf_28 rfl (i := 0) rfl ?_
        refine r_bipush (n := 32) dX9_sortOf_29 (by decide +kernel) ?_
        refine r_icmp_eq (tgt := 40) dX9_sortOf_31 rfl hx0 ⟨by decide, by decide⟩ (fun hcc => ?_) (fun hcc => ?_)
        · replace hT := hT.1 hcc
          refine r_iconst (n := 2) dX9_sortOf_40 ?_
          refine r_goto (tgt := 45) dX9_sortOf_41 rfl ?_
          exact r_iret dX9_sortOf_45 rfl ⟨by decide, by decide⟩ ⟨Nat.zero_le _, Nat.zero_le _⟩ ⟨_, rfl, rfl, hF, hT⟩
        · replace hT := hT.2 hcc
          refine r_iload_n dX9_sortOf_34 rfl (i := 0) rfl ?_
          refine r_bipush (n := 10) dX9_sortOf_35 (by decide +kernel) ?_
          refine r_icmp_ne (tgt := 44) dX9_sortOf_37 rfl hx0 ⟨by decide, by decide⟩ (fun hcc => ?_) (fun hcc => ?_)
          · replace hT := hT.1 hcc
            refine r_iconst (n := 3) dX9_sortOf_44 ?_
            exact r_iret dX9_sortOf_45 rfl ⟨by decide, by decide⟩ ⟨Nat.zero_le _, Nat.zero_le _⟩ ⟨_, rfl, rfl, hF, hT⟩
          · replace hT := hT.2 hcc
            refine r_iconst (n := 2) dX9_sortOf_40 ?_
            refine r_goto (tgt := 45) dX9_sortOf_41 rfl ?_
            exact r_iret dX9_sortOf_45 rfl ⟨by decide, by decide⟩ ⟨Nat.zero_le _, Nat.zero_le _⟩ ⟨_, rfl, rfl, hF, hT⟩
      · replace hT := hT.2 hcc
        refine r_iload_n dX9_sortOf_20 rfl (i := 0) rfl ?_
        refine r_bipush (n := 57) dX9_sortOf_21 (by decide +kernel) ?_
        refine r_icmp_gt (tgt := 28) dX9_sortOf_23 rfl hx0 ⟨by decide, by decide⟩ (fun hcc => ?_) (fun hcc => ?_)
        · replace hT := hT.1 hcc
          refine r_iload_n dX9_sortOf_28 rfl (i := 0) rfl ?_
          refine r_bipush (n := 32) dX9_sortOf_29 (by decide +kernel) ?_
          refine r_icmp_eq (tgt := 40) dX9_sortOf_31 rfl hx0 ⟨by decide, by decide⟩ (fun hcc => ?_) (fun hcc => ?_)
          · replace hT := hT.1 hcc
            refine r_iconst (n := 2) dX9_sortOf_40 ?_
            refine r_goto (tgt := 45) dX9_sortOf_41 rfl ?_
            exact r_iret dX9_sortOf_45 rfl ⟨by decide, by decide⟩ ⟨Nat.zero_le _, Nat.zero_le _⟩ ⟨_, rfl, rfl, hF, hT⟩
          · replace hT := hT.2 hcc
            refine r_iload_n dX9_sortOf_34 rfl (i := 0) rfl ?_
            refine r_bipush (n := 10) dX9_sortOf_35 (by decide +kernel) ?_
            refine r_icmp_ne (tgt := 44) dX9_sortOf_37 rfl hx0 ⟨by decide, by decide⟩ (fun hcc => ?_) (fun hcc => ?_)
            · replace hT := hT.1 hcc
              refine r_iconst (n := 3) dX9_sortOf_44 ?_
              exact r_iret dX9_sortOf_45 rfl ⟨by decide, by decide⟩ ⟨Nat.zero_le _, Nat.zero_le _⟩ ⟨_, rfl, rfl, hF, hT⟩
            · replace hT := hT.2 hcc
              refine r_iconst (n := 2) dX9_sortOf_40 ?_
              refine r_goto (tgt := 45) dX9_sortOf_41 rfl ?_
              exact r_iret dX9_sortOf_45 rfl ⟨by decide, by decide⟩ ⟨Nat.zero_le _, Nat.zero_le _⟩ ⟨_, rfl, rfl, hF, hT⟩
        · replace hT := hT.2 hcc
          refine r_iconst (n := 1) dX9_sortOf_26 ?_
          exact r_iret dX9_sortOf_27 rfl ⟨by decide, by decide⟩ ⟨Nat.zero_le _, Nat.zero_le _⟩ ⟨_, rfl, rfl, hF, hT⟩
    · replace hT := hT.2 hcc
      refine r_iconst (n := 0) dX9_sortOf_12 ?_
      exact r_iret dX9_sortOf_13 rfl ⟨by decide, by decide⟩ ⟨Nat.zero_le _, Nat.zero_le _⟩ ⟨_, rfl, rfl, hF, hT⟩
theorem en_X9_sortOf {E : jE} {A : Nat → Prop} {G : jG} {I : jM} {q : Int → jM → Prop} {x0 : Int}  (hT : (∀ a j, jRg (G.2.1 a).1 (I a j)) → jIn x0 → ((x0 < 97 → ((x0 < 48 → ((x0 = 32 → q 2 I) ∧ (¬ x0 = 32 → ((¬ x0 = 10 → q 3 I) ∧ (x0 = 10 → q 2 I))))) ∧ (¬ x0 < 48 → ((57 < x0 → ((x0 = 32 → q 2 I) ∧ (¬ x0 = 32 → ((¬ x0 = 10 → q 3 I) ∧ (x0 = 10 → q 2 I))))) ∧ (¬ 57 < x0 → q 1 I))))) ∧ (¬ x0 < 97 → ((122 < x0 → ((x0 < 48 → ((x0 = 32 → q 2 I) ∧ (¬ x0 = 32 → ((¬ x0 = 10 → q 3 I) ∧ (x0 = 10 → q 2 I))))) ∧ (¬ x0 < 48 → ((57 < x0 → ((x0 = 32 → q 2 I) ∧ (¬ x0 = 32 → ((¬ x0 = 10 → q 3 I) ∧ (x0 = 10 → q 2 I))))) ∧ (¬ 57 < x0 → q 1 I))))) ∧ (¬ 122 < x0 → q 0 I))))) : jRI E A kX9_sortOf [VI x0] G I q := jRun.of mt_X9_sortOf.2.2.2 0 rfl (fun _ => st_X9_sortOf_0  hT I (fun _ _ => rfl))
theorem sp_X9_sortOf {E : jE} {A : Nat → Prop} {G : jG} {I : jM} {c : Int} : jRI E A kX9_sortOf [VI c] G I (fun x I' => x = told (srt c) ∧ I' = I) := by
  have z0 : 97 ≤ c ∧ c ≤ 122 → told (srt c) = 0 := fun h => by unfold srt; rw [if_pos h]; rfl
  have z1 : 48 ≤ c ∧ c ≤ 57 → told (srt c) = 1 := fun h => by unfold srt; rw [if_neg (by omega), if_pos h]; rfl
  have z2 : c = 32 ∨ c = 10 → told (srt c) = 2 := fun h => by unfold srt; rw [if_neg (by omega), if_neg (by omega), if_pos h]; rfl
  have z3 : ¬ (97 ≤ c ∧ c ≤ 122) → ¬ (48 ≤ c ∧ c ≤ 57) → ¬ (c = 32 ∨ c = 10) → told (srt c) = 3 := fun h h' h'' => by unfold srt; rw [if_neg h, if_neg h', if_neg h'']; rfl
  refine en_X9_sortOf (fun _ _ => ?_)
  repeat' (first | exact ⟨(z0 (by omega)).symm, rfl⟩ | exact ⟨(z1 (by omega)).symm, rfl⟩ | exact ⟨(z2 (by omega)).symm, rfl⟩ | exact ⟨(z3 (by omega) (by omega) (by omega)).symm, rfl⟩ | refine ⟨fun _ => ?_, fun _ => ?_⟩)
theorem told_inj {x y : Int} (hx : 0 ≤ x ∧ x ≤ 3) (hy : 0 ≤ y ∧ y ≤ 3) (h : told x = told y) : x = y := by
  unfold told at h
  split at h <;> split at h <;> (try split at h) <;> (try split at h) <;> omega
theorem told_3 {x : Int} (hx : 0 ≤ x ∧ x ≤ 3) : told x = 3 ↔ x = 2 := by
  unfold told
  constructor
  · intro h
    split at h
    · omega
    · split at h <;> omega
  · intro h
    rw [if_neg (by omega), if_pos h]
theorem told_4 {x : Int} (hx : 0 ≤ x ∧ x ≤ 4) : told x = 4 ↔ x = 4 := by
  unfold told
  constructor
  · intro h
    split at h
    · omega
    · split at h <;> omega
  · intro h
    rw [if_neg (by omega), if_neg (by omega), h]
theorem told_bd {x : Int} (hx : 0 ≤ x ∧ x ≤ 3) : 0 ≤ told x ∧ told x ≤ 3 := by
  unfold told
  split
  · omega
  · split <;> omega
/-- the tokens, as the class holds them -/
def TC (φ : Nat) (X : Int → Int) (I : jM) : Prop := I φ 2 = nT X ∧ (∀ t, 0 ≤ t → t ≤ nT X → I (φ + 1) t = bT X t) ∧ ∀ t, 0 ≤ t → t < nT X → I (φ + 2) t = told (srt (X (10 + bT X t)))
set_option maxRecDepth 20000 in
theorem st_X8_split_7 {E : jE} {G : jG} {I : jM} {q : jM → Prop} {m : Nat} {p1 : Nat} {x2 : Int} (hm : WX8 G m) (hp1 : WX4 G p1) (hT : (∀ a j, jRg (G.2.1 a).1 (I a j)) → jIn x2 → (((I p1 2) ≤ x2 → ((0 : Int) ≤ (I m 2) ∧ ((I m 2) : Int) < 201) ∧ (∀ M2, M2 = jup I (m + 1) (I m 2) (I p1 2) → q M2)) ∧ (¬ (I p1 2) ≤ x2 → ((0 : Int) ≤ x2 ∧ (x2 : Int) < 200) ∧ (((-128) ≤ (I (p1 + 1) x2) ∧ (I (p1 + 1) x2) ≤ 127) → (((I m 2) = 0 → ((0 : Int) ≤ (I m 2) ∧ ((I m 2) : Int) < 201) ∧ (∀ M7, M7 = jup I (m + 1) (I m 2) x2 → ((0 : Int) ≤ (I m 2) ∧ ((I m 2) : Int) < 200) ∧ (∀ M9, M9 = jup M7 (m + 2) (I m 2) (told (srt (I (p1 + 1) x2))) → jIn ((I m 2) + 1) ∧ (∀ M10, M10 = jup M9 m 2 ((I m 2) + 1) → jIn (x2 + 1) ∧ jOV E jB kX8_split 7 [VR m, VR p1, VI (x2 + 1), VN] G M10 q)))) ∧ (¬ (I m 2) = 0 → (((told (srt (I (p1 + 1) x2))) = 3 → ((0 : Int) ≤ (I m 2) ∧ ((I m 2) : Int) < 201) ∧ (∀ M14, M14 = jup I (m + 1) (I m 2) x2 → ((0 : Int) ≤ (I m 2) ∧ ((I m 2) : Int) < 200) ∧ (∀ M16, M16 = jup M14 (m + 2) (I m 2) (told (srt (I (p1 + 1) x2))) → jIn ((I m 2) + 1) ∧ (∀ M17, M17 = jup M16 m 2 ((I m 2) + 1) → jIn (x2 + 1) ∧ jOV E jB kX8_split 7 [VR m, VR p1, VI (x2 + 1), VN] G M17 q)))) ∧ (¬ (told (srt (I (p1 + 1) x2))) = 3 → ((0 : Int) ≤ ((I m 2) - 1) ∧ (((I m 2) - 1) : Int) < 200) ∧ (((told (srt (I (p1 + 1) x2))) = (I (m + 2) ((I m 2) - 1)) → jIn (x2 + 1) ∧ jOV E jB kX8_split 7 [VR m, VR p1, VI (x2 + 1), VN] G I q) ∧ (¬ (told (srt (I (p1 + 1) x2))) = (I (m + 2) ((I m 2) - 1)) → ((0 : Int) ≤ (I m 2) ∧ ((I m 2) : Int) < 201) ∧ (∀ M23, M23 = jup I (m + 1) (I m 2) x2 → ((0 : Int) ≤ (I m 2) ∧ ((I m 2) : Int) < 200) ∧ (∀ M25, M25 = jup M23 (m + 2) (I m 2) (told (srt (I (p1 + 1) x2))) → jIn ((I m 2) + 1) ∧ (∀ M26, M26 = jup M25 m 2 ((I m 2) + 1) → jIn (x2 + 1) ∧ jOV E jB kX8_split 7 [VR m, VR p1, VI (x2 + 1), VN] G M26 q))))))))))))) : jOV E jB kX8_split 7 [VR m, VR p1, VI x2, VN] G I q := by
  intro I0 hF
  refine jOk_mem (fun hI => ?_)
  refine jOk_in (i := 2) rfl (fun hx2 => ?_)
  replace hT := hT hI hx2
  refine r_iload_n dX8_split_7 rfl (i := 2) rfl ?_
  refine r_aload_n dX8_split_8 rfl (i := 1) rfl ?_
  refine rr_getI (v := I p1 2) dX8_split_9 fg_X8_22 rfl (wX4_l hp1) (wX4_s hp1) rfl ?_
  refine r_icmp_ge (tgt := 88) dX8_split_12 rfl hx2 (hI _ _).inR (fun hcc => ?_) (fun hcc => ?_)
  · replace hT := hT.1 hcc
    refine r_aload_n dX8_split_88 rfl (i := 0) rfl ?_
    refine rr_getR (b := (m + 1)) dX8_split_89 fg_X8_9 rfl rfl (wX8_l hm) (wX8_s hm) (wX8_r0 hm) ?_
    refine r_aload_n dX8_split_92 rfl (i := 0) rfl ?_
    refine rr_getI (v := I m 2) dX8_split_93 fg_X8_18 rfl (wX8_l hm) (wX8_s hm) rfl ?_
    refine r_aload_n dX8_split_96 rfl (i := 1) rfl ?_
    refine rr_getI (v := I p1 2) dX8_split_97 fg_X8_22 rfl (wX4_l hp1) (wX4_s hp1) rfl ?_
    obtain ⟨hc1, hT⟩ := hT
    refine rr_iastore dX8_split_100 (wX8_l0 hm) (wX8_a0 hm) (by decide) hc1 (hI _ _).inR (fun M2 eM2 => ?_)
    have hFM2 := jFr_up hF eM2 (wX8_f hm 1 (by decide))
    replace hT := hT M2 eM2
    refine jOk_mem (fun hIM2 => ?_)
    exact r_vret dX8_split_101 rfl ⟨Nat.zero_le _, Nat.zero_le _⟩ ⟨rfl, rfl, hFM2, hT⟩
  · replace hT := hT.2 hcc
    refine r_aload_n dX8_split_15 rfl (i := 1) rfl ?_
    refine rr_getR (b := (p1 + 1)) dX8_split_16 fg_X8_27 rfl rfl (wX4_l hp1) (wX4_s hp1) (wX4_r0 hp1) ?_
    refine r_iload_n dX8_split_19 rfl (i := 2) rfl ?_
    obtain ⟨hc3, hT⟩ := hT
    refine rr_baload (v := I (p1 + 1) x2) dX8_split_20 (wX4_l0 hp1) (wX4_a0 hp1) (by decide) hc3 rfl (fun hr4 => ?_)
    replace hT := hT hr4
    refine rr_pNI (A := jB) (v := told (srt (I (p1 + 1) x2))) (as := [VI (I (p1 + 1) x2)]) (st := []) dX8_split_21 mt_X9_sortOf ml_X8_31 ms_X9_sortOf rm_X8_split_X9_sortOf jz_X9_sortOf ⟨Nat.zero_le _, Nat.zero_le _⟩ (Nat.le_of_ble_eq_true rfl) (jasI (hI _ _).inR jas0) sp_X9_sortOf (fun hc5 => ?_)
    refine rr_istore_n (i := 3) (ls' := [VR m, VR p1, VI x2, VI (told (srt (I (p1 + 1) x2)))]) dX8_split_24 rfl (Nat.le_of_ble_eq_true rfl) rfl rfl hc5 ?_
    refine r_aload_n dX8_split_25 rfl (i := 0) rfl ?_
    refine rr_getI (v := I m 2) dX8_split_26 fg_X8_18 rfl (wX8_l hm) (wX8_s hm) rfl ?_
    refine r_if_eq (tgt := 52) dX8_split_29 rfl (hI _ _).inR (fun hcc => ?_) (fun hcc => ?_)
    · replace hT := hT.1 hcc
      refine r_aload_n dX8_split_52 rfl (i := 0) rfl ?_
      refine rr_getR (b := (m + 1)) dX8_split_53 fg_X8_9 rfl rfl (wX8_l hm) (wX8_s hm) (wX8_r0 hm) ?_
      refine r_aload_n dX8_split_56 rfl (i := 0) rfl ?_
      refine rr_getI (v := I m 2) dX8_split_57 fg_X8_18 rfl (wX8_l hm) (wX8_s hm) rfl ?_
      refine r_iload_n dX8_split_60 rfl (i := 2) rfl ?_
      obtain ⟨hc6, hT⟩ := hT
      refine rr_iastore dX8_split_61 (wX8_l0 hm) (wX8_a0 hm) (by decide) hc6 hx2 (fun M7 eM7 => ?_)
      have hFM7 := jFr_up hF eM7 (wX8_f hm 1 (by decide))
      replace hT := hT M7 eM7
      refine jOk_mem (fun hIM7 => ?_)
      refine r_aload_n dX8_split_62 rfl (i := 0) rfl ?_
      refine rr_getR (b := (m + 2)) dX8_split_63 fg_X8_15 rfl rfl (wX8_l hm) (wX8_s hm) (wX8_r1 hm) ?_
      refine r_aload_n dX8_split_66 rfl (i := 0) rfl ?_
      refine rr_getI (v := I m 2) dX8_split_67 fg_X8_18 rfl (wX8_l hm) (wX8_s hm) (jr_na eM7 (by omega)) ?_
      refine r_iload_n dX8_split_70 rfl (i := 3) rfl ?_
      obtain ⟨hc8, hT⟩ := hT
      refine rr_iastore dX8_split_71 (wX8_l1 hm) (wX8_a1 hm) (by decide) hc8 hc5 (fun M9 eM9 => ?_)
      have hFM9 := jFr_up hFM7 eM9 (wX8_f hm 2 (by decide))
      replace hT := hT M9 eM9
      refine jOk_mem (fun hIM9 => ?_)
      refine r_aload_n dX8_split_72 rfl (i := 0) rfl ?_
      refine r_dup dX8_split_73 rfl ?_
      refine rr_getI (v := I m 2) dX8_split_74 fg_X8_18 rfl (wX8_l hm) (wX8_s hm) ((jr_na eM9 (by omega)).trans (jr_na eM7 (by omega))) ?_
      refine r_iconst (n := 1) dX8_split_77 ?_
      refine r_iadd dX8_split_78 ?_
      obtain ⟨hc11, hT⟩ := hT
      refine rr_putI (jj := 2) dX8_split_79 fp_X8_18 rfl rfl (wX8_l hm) (wX8_s hm) hc11 (fun M10 eM10 => ?_)
      have hFM10 := jFr_up hFM9 eM10 (wX8_f hm 0 (by decide))
      replace hT := hT M10 eM10
      refine jOk_mem (fun hIM10 => ?_)
      obtain ⟨hc12, hT⟩ := hT
      refine rr_iinc (i := 2) (ls' := [VR m, VR p1, VI (x2 + 1), VI (told (srt (I (p1 + 1) x2)))]) dX8_split_82 rfl (Nat.le_of_ble_eq_true rfl) rfl rfl hc12 ?_
      refine r_goto (tgt := 7) dX8_split_85 rfl ?_
      exact jOk_le (ls' := [VR m, VR p1, VI (x2 + 1), VN]) ⟨Or.inr rfl, Or.inr rfl, Or.inr rfl, Or.inl rfl, trivial⟩ (hT I0 hFM10)
    · replace hT := hT.2 hcc
      refine r_iload_n dX8_split_32 rfl (i := 3) rfl ?_
      refine r_iconst (n := 3) dX8_split_33 ?_
      refine r_icmp_eq (tgt := 52) dX8_split_34 rfl hc5 ⟨by decide, by decide⟩ (fun hcc => ?_) (fun hcc => ?_)
      · replace hT := hT.1 hcc
        refine r_aload_n dX8_split_52 rfl (i := 0) rfl ?_
        refine rr_getR (b := (m + 1)) dX8_split_53 fg_X8_9 rfl rfl (wX8_l hm) (wX8_s hm) (wX8_r0 hm) ?_
        refine r_aload_n dX8_split_56 rfl (i := 0) rfl ?_
        refine rr_getI (v := I m 2) dX8_split_57 fg_X8_18 rfl (wX8_l hm) (wX8_s hm) rfl ?_
        refine r_iload_n dX8_split_60 rfl (i := 2) rfl ?_
        obtain ⟨hc13, hT⟩ := hT
        refine rr_iastore dX8_split_61 (wX8_l0 hm) (wX8_a0 hm) (by decide) hc13 hx2 (fun M14 eM14 => ?_)
        have hFM14 := jFr_up hF eM14 (wX8_f hm 1 (by decide))
        replace hT := hT M14 eM14
        refine jOk_mem (fun hIM14 => ?_)
        refine r_aload_n dX8_split_62 rfl (i := 0) rfl ?_
        refine rr_getR (b := (m + 2)) dX8_split_63 fg_X8_15 rfl rfl (wX8_l hm) (wX8_s hm) (wX8_r1 hm) ?_
        refine r_aload_n dX8_split_66 rfl (i := 0) rfl ?_
        refine rr_getI (v := I m 2) dX8_split_67 fg_X8_18 rfl (wX8_l hm) (wX8_s hm) (jr_na eM14 (by omega)) ?_
        refine r_iload_n dX8_split_70 rfl (i := 3) rfl ?_
        obtain ⟨hc15, hT⟩ := hT
        refine rr_iastore dX8_split_71 (wX8_l1 hm) (wX8_a1 hm) (by decide) hc15 hc5 (fun M16 eM16 => ?_)
        have hFM16 := jFr_up hFM14 eM16 (wX8_f hm 2 (by decide))
        replace hT := hT M16 eM16
        refine jOk_mem (fun hIM16 => ?_)
        refine r_aload_n dX8_split_72 rfl (i := 0) rfl ?_
        refine r_dup dX8_split_73 rfl ?_
        refine rr_getI (v := I m 2) dX8_split_74 fg_X8_18 rfl (wX8_l hm) (wX8_s hm) ((jr_na eM16 (by omega)).trans (jr_na eM14 (by omega))) ?_
        refine r_iconst (n := 1) dX8_split_77 ?_
        refine r_iadd dX8_split_78 ?_
        obtain ⟨hc18, hT⟩ := hT
        refine rr_putI (jj := 2) dX8_split_79 fp_X8_18 rfl rfl (wX8_l hm) (wX8_s hm) hc18 (fun M17 eM17 => ?_)
        have hFM17 := jFr_up hFM16 eM17 (wX8_f hm 0 (by decide))
        replace hT := hT M17 eM17
        refine jOk_mem (fun hIM17 => ?_)
        obtain ⟨hc19, hT⟩ := hT
        refine rr_iinc (i := 2) (ls' := [VR m, VR p1, VI (x2 + 1), VI (told (srt (I (p1 + 1) x2)))]) dX8_split_82 rfl (Nat.le_of_ble_eq_true rfl) rfl rfl hc19 ?_
        refine r_goto (tgt := 7) dX8_split_85 rfl ?_
        exact jOk_le (ls' := [VR m, VR p1, VI (x2 + 1), VN]) ⟨Or.inr rfl, Or.inr rfl, Or.inr rfl, Or.inl rfl, trivial⟩ (hT I0 hFM17)
      · replace hT := hT.2 hcc
        refine r_iload_n dX8_split_37 rfl (i := 3) rfl ?_
        refine r_aload_n dX8_split_38 rfl (i := 0) rfl ?_
        refine rr_getR (b := (m + 2)) dX8_split_39 fg_X8_15 rfl rfl (wX8_l hm) (wX8_s hm) (wX8_r1 hm) ?_
        refine r_aload_n dX8_split_42 rfl (i := 0) rfl ?_
        refine rr_getI (v := I m 2) dX8_split_43 fg_X8_18 rfl (wX8_l hm) (wX8_s hm) rfl ?_
        refine r_iconst (n := 1) dX8_split_46 ?_
        refine r_isub dX8_split_47 ?_
        obtain ⟨hc20, hT⟩ := hT
        refine rr_iaload (v := I (m + 2) ((I m 2) - 1)) dX8_split_48 (wX8_l1 hm) (wX8_a1 hm) (by decide) hc20 rfl ?_
        refine r_icmp_eq (tgt := 82) dX8_split_49 rfl hc5 (hI _ _).inR (fun hcc => ?_) (fun hcc => ?_)
        · replace hT := hT.1 hcc
          obtain ⟨hc21, hT⟩ := hT
          refine rr_iinc (i := 2) (ls' := [VR m, VR p1, VI (x2 + 1), VI (told (srt (I (p1 + 1) x2)))]) dX8_split_82 rfl (Nat.le_of_ble_eq_true rfl) rfl rfl hc21 ?_
          refine r_goto (tgt := 7) dX8_split_85 rfl ?_
          exact jOk_le (ls' := [VR m, VR p1, VI (x2 + 1), VN]) ⟨Or.inr rfl, Or.inr rfl, Or.inr rfl, Or.inl rfl, trivial⟩ (hT I0 hF)
        · replace hT := hT.2 hcc
          refine r_aload_n dX8_split_52 rfl (i := 0) rfl ?_
          refine rr_getR (b := (m + 1)) dX8_split_53 fg_X8_9 rfl rfl (wX8_l hm) (wX8_s hm) (wX8_r0 hm) ?_
          refine r_aload_n dX8_split_56 rfl (i := 0) rfl ?_
          refine rr_getI (v := I m 2) dX8_split_57 fg_X8_18 rfl (wX8_l hm) (wX8_s hm) rfl ?_
          refine r_iload_n dX8_split_60 rfl (i := 2) rfl ?_
          obtain ⟨hc22, hT⟩ := hT
          refine rr_iastore dX8_split_61 (wX8_l0 hm) (wX8_a0 hm) (by decide) hc22 hx2 (fun M23 eM23 => ?_)
          have hFM23 := jFr_up hF eM23 (wX8_f hm 1 (by decide))
          replace hT := hT M23 eM23
          refine jOk_mem (fun hIM23 => ?_)
          refine r_aload_n dX8_split_62 rfl (i := 0) rfl ?_
          refine rr_getR (b := (m + 2)) dX8_split_63 fg_X8_15 rfl rfl (wX8_l hm) (wX8_s hm) (wX8_r1 hm) ?_
          refine r_aload_n dX8_split_66 rfl (i := 0) rfl ?_
          refine rr_getI (v := I m 2) dX8_split_67 fg_X8_18 rfl (wX8_l hm) (wX8_s hm) (jr_na eM23 (by omega)) ?_
          refine r_iload_n dX8_split_70 rfl (i := 3) rfl ?_
          obtain ⟨hc24, hT⟩ := hT
          refine rr_iastore dX8_split_71 (wX8_l1 hm) (wX8_a1 hm) (by decide) hc24 hc5 (fun M25 eM25 => ?_)
          have hFM25 := jFr_up hFM23 eM25 (wX8_f hm 2 (by decide))
          replace hT := hT M25 eM25
          refine jOk_mem (fun hIM25 => ?_)
          refine r_aload_n dX8_split_72 rfl (i := 0) rfl ?_
          refine r_dup dX8_split_73 rfl ?_
          refine rr_getI (v := I m 2) dX8_split_74 fg_X8_18 rfl (wX8_l hm) (wX8_s hm) ((jr_na eM25 (by omega)).trans (jr_na eM23 (by omega))) ?_
          refine r_iconst (n := 1) dX8_split_77 ?_
          refine r_iadd dX8_split_78 ?_
          obtain ⟨hc27, hT⟩ := hT
          refine rr_putI (jj := 2) dX8_split_79 fp_X8_18 rfl rfl (wX8_l hm) (wX8_s hm) hc27 (fun M26 eM26 => ?_)
          have hFM26 := jFr_up hFM25 eM26 (wX8_f hm 0 (by decide))
          replace hT := hT M26 eM26
          refine jOk_mem (fun hIM26 => ?_)
          obtain ⟨hc28, hT⟩ := hT
          refine rr_iinc (i := 2) (ls' := [VR m, VR p1, VI (x2 + 1), VI (told (srt (I (p1 + 1) x2)))]) dX8_split_82 rfl (Nat.le_of_ble_eq_true rfl) rfl rfl hc28 ?_
          refine r_goto (tgt := 7) dX8_split_85 rfl ?_
          exact jOk_le (ls' := [VR m, VR p1, VI (x2 + 1), VN]) ⟨Or.inr rfl, Or.inr rfl, Or.inr rfl, Or.inl rfl, trivial⟩ (hT I0 hFM26)
set_option maxRecDepth 20000 in
theorem st_X8_split_0 {E : jE} {G : jG} {I : jM} {q : jM → Prop} {m : Nat} {p1 : Nat} (hm : WX8 G m) (hp1 : WX4 G p1) (hT : (∀ a j, jRg (G.2.1 a).1 (I a j)) → (∀ M1, M1 = jup I m 2 0 → jOV E jB kX8_split 7 [VR m, VR p1, VI 0, VN] G M1 q)) : jOV E jB kX8_split 0 [VR m, VR p1, VN, VN] G I q := by
  intro I0 hF
  refine jOk_mem (fun hI => ?_)
  replace hT := hT hI 
  refine r_aload_n dX8_split_0 rfl (i := 0) rfl ?_
  refine r_iconst (n := 0) dX8_split_1 ?_
  refine rr_putI (jj := 2) dX8_split_2 fp_X8_18 rfl rfl (wX8_l hm) (wX8_s hm) ⟨by decide, by decide⟩ (fun M1 eM1 => ?_)
  have hFM1 := jFr_up hF eM1 (wX8_f hm 0 (by decide))
  replace hT := hT M1 eM1
  refine jOk_mem (fun hIM1 => ?_)
  refine r_iconst (n := 0) dX8_split_5 ?_
  refine rr_istore_n (i := 2) (ls' := [VR m, VR p1, VI 0, VN]) dX8_split_6 rfl (Nat.le_of_ble_eq_true rfl) rfl rfl ⟨by decide, by decide⟩ ?_
  exact hT I0 hFM1
theorem en_X8_split {E : jE} {G : jG} {I : jM} {q : jM → Prop} {m : Nat} {p1 : Nat} (hm : WX8 G m) (hp1 : WX4 G p1) (hT : (∀ a j, jRg (G.2.1 a).1 (I a j)) → (∀ M1, M1 = jup I m 2 0 → jOV E jB kX8_split 7 [VR m, VR p1, VI 0, VN] G M1 q)) : jRV E jB kX8_split [VR m, VR p1] G I q := jRun.of mt_X8_split.2.2.2 2 rfl (fun _ => st_X8_split_0 hm hp1 hT I (fun _ _ => rfl))
set_option maxRecDepth 20000 in
theorem st_X8_holding_2 {E : jE} {G : jG} {I : jM} {q : Int → jM → Prop} {m : Nat} {x1 : Int} {x2 : Int} (hm : WX8 G m) (hT : (∀ a j, jRg (G.2.1 a).1 (I a j)) → jIn x1 → jIn x2 → (((I m 2) ≤ x2 → q (-1) I) ∧ (¬ (I m 2) ≤ x2 → ((0 : Int) ≤ (x2 + 1) ∧ ((x2 + 1) : Int) < 201) ∧ (((I (m + 1) (x2 + 1)) ≤ x1 → jIn (x2 + 1) ∧ jOI E jB kX8_holding 2 [VR m, VI x1, VI (x2 + 1)] G I q) ∧ (¬ (I (m + 1) (x2 + 1)) ≤ x1 → q x2 I))))) : jOI E jB kX8_holding 2 [VR m, VI x1, VI x2] G I q := by
  intro I0 hF
  refine jOk_mem (fun hI => ?_)
  refine jOk_in (i := 1) rfl (fun hx1 => ?_)
  refine jOk_in (i := 2) rfl (fun hx2 => ?_)
  replace hT := hT hI hx1 hx2
  refine r_iload_n dX8_holding_2 rfl (i := 2) rfl ?_
  refine r_aload_n dX8_holding_3 rfl (i := 0) rfl ?_
  refine rr_getI (v := I m 2) dX8_holding_4 fg_X8_18 rfl (wX8_l hm) (wX8_s hm) rfl ?_
  refine r_icmp_ge (tgt := 30) dX8_holding_7 rfl hx2 (hI _ _).inR (fun hcc => ?_) (fun hcc => ?_)
  · replace hT := hT.1 hcc
    refine r_iconst (n := (-1)) dX8_holding_30 ?_
    exact r_iret dX8_holding_31 rfl ⟨by decide, by decide⟩ ⟨Nat.zero_le _, Nat.zero_le _⟩ ⟨_, rfl, rfl, hF, hT⟩
  · replace hT := hT.2 hcc
    refine r_iload_n dX8_holding_10 rfl (i := 1) rfl ?_
    refine r_aload_n dX8_holding_11 rfl (i := 0) rfl ?_
    refine rr_getR (b := (m + 1)) dX8_holding_12 fg_X8_9 rfl rfl (wX8_l hm) (wX8_s hm) (wX8_r0 hm) ?_
    refine r_iload_n dX8_holding_15 rfl (i := 2) rfl ?_
    refine r_iconst (n := 1) dX8_holding_16 ?_
    refine r_iadd dX8_holding_17 ?_
    obtain ⟨hc1, hT⟩ := hT
    refine rr_iaload (v := I (m + 1) (x2 + 1)) dX8_holding_18 (wX8_l0 hm) (wX8_a0 hm) (by decide) hc1 rfl ?_
    refine r_icmp_ge (tgt := 24) dX8_holding_19 rfl hx1 (hI _ _).inR (fun hcc => ?_) (fun hcc => ?_)
    · replace hT := hT.1 hcc
      obtain ⟨hc2, hT⟩ := hT
      refine rr_iinc (i := 2) (ls' := [VR m, VI x1, VI (x2 + 1)]) dX8_holding_24 rfl (Nat.le_of_ble_eq_true rfl) rfl rfl hc2 ?_
      refine r_goto (tgt := 2) dX8_holding_27 rfl ?_
      exact hT I0 hF
    · replace hT := hT.2 hcc
      refine r_iload_n dX8_holding_22 rfl (i := 2) rfl ?_
      exact r_iret dX8_holding_23 rfl hx2 ⟨Nat.zero_le _, Nat.zero_le _⟩ ⟨_, rfl, rfl, hF, hT⟩
set_option maxRecDepth 20000 in
theorem st_X8_holding_0 {E : jE} {G : jG} {I : jM} {q : Int → jM → Prop} {m : Nat} {x1 : Int} (hm : WX8 G m) (hT : (∀ a j, jRg (G.2.1 a).1 (I a j)) → jIn x1 → jOI E jB kX8_holding 2 [VR m, VI x1, VI 0] G I q) : jOI E jB kX8_holding 0 [VR m, VI x1, VN] G I q := by
  intro I0 hF
  refine jOk_mem (fun hI => ?_)
  refine jOk_in (i := 1) rfl (fun hx1 => ?_)
  replace hT := hT hI hx1
  refine r_iconst (n := 0) dX8_holding_0 ?_
  refine rr_istore_n (i := 2) (ls' := [VR m, VI x1, VI 0]) dX8_holding_1 rfl (Nat.le_of_ble_eq_true rfl) rfl rfl ⟨by decide, by decide⟩ ?_
  exact hT I0 hF
theorem en_X8_holding {E : jE} {G : jG} {I : jM} {q : Int → jM → Prop} {m : Nat} {x1 : Int} (hm : WX8 G m) (hT : (∀ a j, jRg (G.2.1 a).1 (I a j)) → jIn x1 → jOI E jB kX8_holding 2 [VR m, VI x1, VI 0] G I q) : jRI E jB kX8_holding [VR m, VI x1] G I q := jRun.of mt_X8_holding.2.2.2 1 rfl (fun _ => st_X8_holding_0 hm hT I (fun _ _ => rfl))
section CE
variable {E : jE} {G : jG} {m p : Nat} {I : jM} {X : Int → Int}
theorem Tk.slt {T : Int → Int} {len n : Int} {b : Int → Int} (h : Tk T len n b) {t u : Int} (h0 : 0 ≤ t) (h1 : t < u) (h2 : u ≤ n) : b t < b u := by
  have := h.le h0 (by omega : t ≤ u) h2
  omega
theorem cl_split (hm : WX8 G m) (hp : WX4 G p) (hd : m + 3 ≤ p ∨ p + 5 ≤ m) (hX : PB p X I) : jRV E jB kX8_split [VR m, VR p] G I (fun I' => TC m X I' ∧ Fr m (m + 3) I I') := by
  have h2 := hX.1
  have hk := tkS (S := X) h2.2.1
  have hn := hk.n_le
  have hn0 := hk.1
  have loop : ∀ (d : Nat) (x c : Int) (I1 : jM), 0 ≤ x → x + d = X 2 → I1 m 2 = c → 0 ≤ c → c ≤ nT X → ((x = 0 ∧ c = 0) ∨ (1 ≤ c ∧ bT X (c - 1) < x ∧ x ≤ bT X c)) → (∀ t, 0 ≤ t → t < c → I1 (m + 1) t = bT X t ∧ I1 (m + 2) t = told (srt (X (10 + bT X t)))) → Fr m (m + 3) I I1 → jOV E jB kX8_split 7 [VR m, VR p, VI x, VN] G I1 (fun I' => TC m X I' ∧ Fr m (m + 3) I I') := by
    intro d
    induction d with
    | zero =>
      intro x c I1 x0 x1 k2 c0 c1 hinv hrow hF
      have ep : I1 p 2 = X 2 := by rw [hF _ _ (by omega)]; exact h2.1
      have ec : c = nT X := by
        rcases hinv with q | q
        · have hl : X 2 = 0 := by omega
          omega
        · rcases Int.lt_or_le c (nT X) with g | g
          · have := hk.slt (t := c) (u := nT X) c0 g (by omega)
            rw [hk.2.2.1] at this
            omega
          · omega
      refine st_X8_split_7 hm hp (fun _ _ => ⟨fun _ => ⟨by omega, fun M2 e2 => ⟨⟨?_, fun t t0 t1 => ?_, fun t t0 t1 => ?_⟩, hF.trans (Fr.up e2 (by omega))⟩⟩, fun q => absurd (by omega) q⟩)
      · rw [jr_na e2 (by omega), k2, ec]
      · rw [k2, ep] at e2
        by_cases q : t = c
        · rw [q, jr_eq e2, ec, hk.2.2.1]
        · rw [jr_nj e2 q]
          exact (hrow t t0 (by omega)).1
      · rw [jr_na e2 (by omega)]
        exact (hrow t t0 (by omega)).2
    | succ d ih =>
      intro x c I1 x0 x1 k2 c0 c1 hinv hrow hF
      have ep : I1 p 2 = X 2 := by rw [hF _ _ (by omega)]; exact h2.1
      have eb : I1 (p + 1) x = X (10 + x) := by rw [hF _ _ (by omega)]; exact (hX.2 x x0 (by omega)).1
      have hs := srt_range (X (10 + x))
      have hcn : bT X c = x → c < nT X := fun q => by
        rcases Int.lt_or_le c (nT X) with g | g
        · exact g
        · have : c = nT X := by omega
          rw [this, hk.2.2.1] at q
          omega
      -- a token begins here
      have new : bT X c = x → ∀ M9, M9 = jup I1 (m + 1) c x → ∀ M11, M11 = jup M9 (m + 2) c (told (srt (X (10 + x)))) → ∀ M12, M12 = jup M11 m 2 (c + 1) → jIn (x + 1) ∧ jOV E jB kX8_split 7 [VR m, VR p, VI (x + 1), VN] G M12 (fun I' => TC m X I' ∧ Fr m (m + 3) I I') := by
        intro hb M9 e9 M11 e11 M12 e12
        have hc := hcn hb
        have hlt := hk.slt (t := c) (u := c + 1) c0 (by omega) (by omega)
        refine ⟨⟨by omega, by omega⟩, ih (x + 1) (c + 1) M12 (by omega) (by omega) (jr_eq e12) (by omega) (by omega) (Or.inr ⟨by omega, ?_, by omega⟩) (fun t t0 t1 => ?_) (hF.trans ((Fr.up e9 (by omega)).trans ((Fr.up e11 (by omega)).trans (Fr.up e12 (by omega)))))⟩
        · rw [show c + 1 - 1 = c by omega]
          omega
        · rw [jr_na e12 (by omega), jr_na e12 (by omega), jr_na e11 (by omega)]
          by_cases q : t = c
          · rw [q, jr_eq e9, jr_eq e11, hb]
            exact ⟨rfl, rfl⟩
          · rw [jr_nj e9 q, jr_nj e11 q, jr_na e9 (by omega)]
            exact hrow t t0 (by omega)
      refine st_X8_split_7 hm hp (fun _ _ => ⟨fun q => absurd q (by omega), fun _ => ⟨⟨by omega, by omega⟩, fun _ => ?_⟩⟩)
      rw [eb, k2]
      have go : x < bT X c → jIn (x + 1) ∧ jOV E jB kX8_split 7 [VR m, VR p, VI (x + 1), VN] G I1 (fun I' => TC m X I' ∧ Fr m (m + 3) I I') := by
        intro hlt
        rcases hinv with q | q
        · have := hk.2.1
          rw [q.2] at hlt
          omega
        · exact ⟨⟨by omega, by omega⟩, ih (x + 1) c I1 (by omega) (by omega) k2 c0 c1 (Or.inr ⟨q.1, by omega, by omega⟩) hrow hF⟩
      refine ⟨fun q => ?_, fun q => ?_⟩
      · have hb : bT X c = x := by
          rcases hinv with g | g
          · rw [g.2, g.1]; exact hk.2.1
          · omega
        exact ⟨⟨by omega, by omega⟩, fun M9 e9 => ⟨⟨by omega, by have := hcn hb; omega⟩, fun M11 e11 => ⟨⟨by omega, by omega⟩, fun M12 e12 => new hb M9 e9 M11 e11 M12 e12⟩⟩⟩
      · rcases hinv with g | g
        · exact absurd g.2 q
        · obtain ⟨g1, g2, g3⟩ := g
          have nx := hk.2.2.2 (c - 1) (by omega) (by omega)
          rw [show c - 1 + 1 = c by omega] at nx
          obtain ⟨n1, n2, n3, n4, n5⟩ := nx
          have hp0 := hk.bd (t := c - 1) (by omega) (by omega)
          have er := (hrow (c - 1) (by omega) (by omega)).2
          have hs' := srt_range (X (10 + bT X (c - 1)))
          refine ⟨fun q3 => ?_, fun q3 => ⟨⟨by omega, by omega⟩, fun qe => ?_, fun qe => ?_⟩⟩
          · have hb : bT X c = x := by
              rcases Int.lt_or_le x (bT X c) with g | g
              · exfalso
                have a := n3 x (by omega) g
                have b := (told_3 hs).mp q3
                have d := n4 (by show srt (X (10 + bT X (c - 1))) = 2; rw [← a]; exact b)
                omega
              · omega
            exact ⟨⟨by omega, by omega⟩, fun M9 e9 => ⟨⟨by omega, by have := hcn hb; omega⟩, fun M11 e11 => ⟨⟨by omega, by omega⟩, fun M12 e12 => new hb M9 e9 M11 e11 M12 e12⟩⟩⟩
          · apply go
            rw [er] at qe
            have a := told_inj hs hs' qe
            rcases Int.lt_or_le x (bT X c) with g | g
            · exact g
            · exfalso
              have hb : bT X c = x := by omega
              have h3 : srt (X (10 + x)) ≠ 2 := fun h => q3 ((told_3 hs).mpr h)
              have d := n5 (by show srt (X (10 + bT X (c - 1))) ≠ 2; rw [← a]; exact h3) (by omega)
              apply d
              show srt (X (10 + bT X c)) = srt (X (10 + bT X (c - 1)))
              rw [hb]
              exact a
          · have hb : bT X c = x := by
              rcases Int.lt_or_le x (bT X c) with g | g
              · exfalso
                apply qe
                rw [er]
                have a := n3 x (by omega) g
                show told (srt (X (10 + x))) = told (srt (X (10 + bT X (c - 1))))
                rw [show srt (X (10 + x)) = srt (X (10 + bT X (c - 1))) from a]
              · omega
            exact ⟨⟨by omega, by omega⟩, fun M9 e9 => ⟨⟨by omega, by have := hcn hb; omega⟩, fun M11 e11 => ⟨⟨by omega, by omega⟩, fun M12 e12 => new hb M9 e9 M11 e11 M12 e12⟩⟩⟩
  refine en_X8_split hm hp (fun _ M1 e1 => ?_)
  exact loop (X 2).toNat 0 0 M1 (by omega) (by omega) (jr_eq e1) (by omega) hn0 (Or.inl ⟨rfl, rfl⟩) (fun t t0 t1 => by omega) (Fr.up e1 (by omega))
theorem cl_holding (hm : WX8 G m) (h : TC m X I) (hQ : QW X) {i : Int} (hi : 0 ≤ i ∧ i < X 2) : jRI E jB kX8_holding [VR m, VI i] G I (fun x I' => x = tokOf X i ∧ I' = I) := by
  have hk := tkS (S := X) hQ.1.1
  have hn := hk.n_le
  have h200 := hQ.1.2
  have loop : ∀ (d : Nat) (t : Int), 0 ≤ t → t + d = nT X → bT X t ≤ i → jOI E jB kX8_holding 2 [VR m, VI i, VI t] G I (fun x I' => x = tokOf X i ∧ I' = I) := by
    intro d
    induction d with
    | zero =>
      intro t t0 t1 hb
      rw [show t = nT X by omega, hk.2.2.1] at hb
      omega
    | succ d ih =>
      intro t t0 t1 hb
      have e := h.2.1 (t + 1) (by omega) (by omega)
      refine st_X8_holding_2 hm (fun _ _ _ => ⟨fun q => absurd q (by have := h.1; omega), fun _ => ⟨⟨by omega, by omega⟩, fun q => ⟨⟨by omega, by omega⟩, ih (t + 1) (by omega) (by omega) (by omega)⟩, fun q => ⟨(tokOf_eq hQ ⟨t0, by omega, hb, by omega⟩).symm, rfl⟩⟩⟩)
  exact en_X8_holding hm (fun _ _ => loop (nT X).toNat 0 (by omega) (by have := hk.1; omega) (by have := hk.2.1; omega))
end CE
/-- a finder at work: on page p, with the rules ρ, the tokens split -/
def FC (G : jG) (φ p ρ : Nat) (X : Int → Int) (I : jM) : Prop := ((WX1 G φ ∧ WX4 G p ∧ WX6 G ρ) ∧ (p + 5 ≤ φ ∨ φ + 14 ≤ p) ∧ (ρ + 13 ≤ φ ∨ φ + 14 ≤ ρ)) ∧ (I φ 0 = (p : Int) ∧ I φ 1 = (ρ : Int)) ∧ PG p X I ∧ RU ρ X I ∧ TC (φ + 1) X I
theorem TC.fr {φ : Nat} {X : Int → Int} {I I' : jM} (h : TC φ X I) (e : ∀ a j, φ ≤ a → a < φ + 3 → I' a j = I a j) : TC φ X I' := by
  refine ⟨(e _ _ (by omega) (by omega)).trans h.1, fun t t0 t1 => ?_, fun t t0 t1 => ?_⟩
  · rw [e _ _ (by omega) (by omega)]; exact h.2.1 t t0 t1
  · rw [e _ _ (by omega) (by omega)]; exact h.2.2 t t0 t1
theorem FC.fr {G : jG} {φ p ρ : Nat} {X : Int → Int} {I I' : jM} (h : FC G φ p ρ X I) (e : ∀ a j, (a = φ ∧ (j = 0 ∨ j = 1)) ∨ (φ + 1 ≤ a ∧ a < φ + 4) ∨ (p ≤ a ∧ a < p + 5) ∨ (ρ ≤ a ∧ a < ρ + 13) → I' a j = I a j) : FC G φ p ρ X I' := by
  obtain ⟨h1, h2, h3, h4, h5⟩ := h
  exact ⟨h1, ⟨(e _ _ (by omega)).trans h2.1, (e _ _ (by omega)).trans h2.2⟩, h3.fr (fun a j a0 a1 => e a j (by omega)), h4.fr (fun a j a0 a1 => e a j (by omega)), h5.fr (fun a j a0 a1 => e a j (by omega))⟩
theorem isFst.uniq {S : Int → Int} {r e x y : Int} (h : isFst S r e x) (h' : isFst S r e y) : x = y := by
  rcases Int.lt_trichotomy x y with g | g | g
  · exact absurd h.2.2.1 (h'.2.2.2 x h.1 g)
  · exact g
  · exact absurd h'.2.2.1 (h.2.2.2 y h'.1 g)
set_option maxRecDepth 20000 in
theorem st_X1_hasBytes_37 {E : jE} {G : jG} {I : jM} {q : Int → jM → Prop} {m : Nat} {x1 : Int} {p2 np2 : Nat} {x3 : Int} {x4 : Int} {x5 : Int} {x6 : Int} (hm : WX1 G m) (lp2 : p2 < G.2.2) (sp2 : G.2.1 p2 = (101, np2)) (bp2 : (np2 : Int) ≤ 2147483647) (hT : (∀ a j, jRg (G.2.1 a).1 (I a j)) → jIn x1 → jIn x3 → jIn x4 → jIn x5 → jIn x6 → ((x4 ≤ x6 → q 1 I) ∧ (¬ x4 ≤ x6 → (∃ b1 : Nat, I m 0 = (b1 : Int) ∧ WX4 G b1 ∧ ((0 : Int) ≤ ((x5 + x6) - x3) ∧ (((x5 + x6) - x3) : Int) < 200) ∧ (((-128) ≤ (I (b1 + 1) ((x5 + x6) - x3)) ∧ (I (b1 + 1) ((x5 + x6) - x3)) ≤ 127) → ((0 : Int) ≤ x6 ∧ (x6 : Int) < np2) ∧ (((-128) ≤ (I p2 x6) ∧ (I p2 x6) ≤ 127) → (((I (b1 + 1) ((x5 + x6) - x3)) = (I p2 x6) → jIn (x6 + 1) ∧ jOI E jB kX1_hasBytes 37 [VR m, VI x1, VR p2, VI x3, VI x4, VI x5, VI (x6 + 1)] G I q) ∧ (¬ (I (b1 + 1) ((x5 + x6) - x3)) = (I p2 x6) → q 0 I)))))))) : jOI E jB kX1_hasBytes 37 [VR m, VI x1, VR p2, VI x3, VI x4, VI x5, VI x6] G I q := by
  intro I0 hF
  refine jOk_mem (fun hI => ?_)
  refine jOk_in (i := 1) rfl (fun hx1 => ?_)
  refine jOk_in (i := 3) rfl (fun hx3 => ?_)
  refine jOk_in (i := 4) rfl (fun hx4 => ?_)
  refine jOk_in (i := 5) rfl (fun hx5 => ?_)
  refine jOk_in (i := 6) rfl (fun hx6 => ?_)
  replace hT := hT hI hx1 hx3 hx4 hx5 hx6
  refine r_iload dX1_hasBytes_37 (i := 6) rfl ?_
  refine r_iload dX1_hasBytes_39 (i := 4) rfl ?_
  refine r_icmp_ge (tgt := 74) dX1_hasBytes_41 rfl hx6 hx4 (fun hcc => ?_) (fun hcc => ?_)
  · replace hT := hT.1 hcc
    refine r_iconst (n := 1) dX1_hasBytes_74 ?_
    exact r_zret dX1_hasBytes_75 rfl ⟨by decide, by decide⟩ ⟨Nat.zero_le _, Nat.zero_le _⟩ ⟨_, rfl, rfl, hF, hT⟩
  · replace hT := hT.2 hcc
    refine r_aload_n dX1_hasBytes_44 rfl (i := 0) rfl ?_
    obtain ⟨b1, hc2, hc3, hT⟩ := hT
    refine rr_getM (b := b1) dX1_hasBytes_45 fg_X1_56 rfl rfl (wX1_l hm) (wX1_s hm) hc2 ?_
    refine rr_getR (b := (b1 + 1)) dX1_hasBytes_48 fg_X1_131 rfl rfl (wX4_l hc3) (wX4_s hc3) (wX4_r0 hc3) ?_
    refine r_iload dX1_hasBytes_51 (i := 5) rfl ?_
    refine r_iload dX1_hasBytes_53 (i := 6) rfl ?_
    refine r_iadd dX1_hasBytes_55 ?_
    refine r_iload_n dX1_hasBytes_56 rfl (i := 3) rfl ?_
    refine r_isub dX1_hasBytes_57 ?_
    obtain ⟨hc4, hT⟩ := hT
    refine rr_baload (v := I (b1 + 1) ((x5 + x6) - x3)) dX1_hasBytes_58 (wX4_l0 hc3) (wX4_a0 hc3) (by decide) hc4 rfl (fun hr5 => ?_)
    replace hT := hT hr5
    refine r_aload_n dX1_hasBytes_59 rfl (i := 2) rfl ?_
    refine r_iload dX1_hasBytes_60 (i := 6) rfl ?_
    obtain ⟨hc6, hT⟩ := hT
    refine rr_baload (v := I p2 x6) dX1_hasBytes_62 lp2 sp2 bp2 hc6 rfl (fun hr7 => ?_)
    replace hT := hT hr7
    refine r_icmp_eq (tgt := 68) dX1_hasBytes_63 rfl (hI _ _).inR (hI _ _).inR (fun hcc => ?_) (fun hcc => ?_)
    · replace hT := hT.1 hcc
      obtain ⟨hc8, hT⟩ := hT
      refine rr_iinc (i := 6) (ls' := [VR m, VI x1, VR p2, VI x3, VI x4, VI x5, VI (x6 + 1)]) dX1_hasBytes_68 rfl (Nat.le_of_ble_eq_true rfl) rfl rfl hc8 ?_
      refine r_goto (tgt := 37) dX1_hasBytes_71 rfl ?_
      exact hT I0 hF
    · replace hT := hT.2 hcc
      refine r_iconst (n := 0) dX1_hasBytes_66 ?_
      exact r_zret dX1_hasBytes_67 rfl ⟨by decide, by decide⟩ ⟨Nat.zero_le _, Nat.zero_le _⟩ ⟨_, rfl, rfl, hF, hT⟩
set_option maxRecDepth 20000 in
theorem st_X1_hasBytes_0 {E : jE} {G : jG} {I : jM} {q : Int → jM → Prop} {m : Nat} {x1 : Int} {p2 np2 : Nat} {x3 : Int} {x4 : Int} (hm : WX1 G m) (lp2 : p2 < G.2.2) (sp2 : G.2.1 p2 = (101, np2)) (bp2 : (np2 : Int) ≤ 2147483647) (hT : (∀ a j, jRg (G.2.1 a).1 (I a j)) → jIn x1 → jIn x3 → jIn x4 → ((0 : Int) ≤ x1 ∧ (x1 : Int) < 201) ∧ ((0 : Int) ≤ (x1 + 1) ∧ ((x1 + 1) : Int) < 201) ∧ jIn ((I (m + 2) (x1 + 1)) - (I (m + 2) x1)) ∧ jIn (x4 - x3) ∧ ((((I (m + 2) (x1 + 1)) - (I (m + 2) x1)) = (x4 - x3) → jOI E jB kX1_hasBytes 37 [VR m, VI x1, VR p2, VI x3, VI x4, VI (I (m + 2) x1), VI x3] G I q) ∧ (¬ ((I (m + 2) (x1 + 1)) - (I (m + 2) x1)) = (x4 - x3) → q 0 I))) : jOI E jB kX1_hasBytes 0 [VR m, VI x1, VR p2, VI x3, VI x4, VN, VN] G I q := by
  intro I0 hF
  refine jOk_mem (fun hI => ?_)
  refine jOk_in (i := 1) rfl (fun hx1 => ?_)
  refine jOk_in (i := 3) rfl (fun hx3 => ?_)
  refine jOk_in (i := 4) rfl (fun hx4 => ?_)
  replace hT := hT hI hx1 hx3 hx4
  refine r_aload_n dX1_hasBytes_0 rfl (i := 0) rfl ?_
  refine rr_getR (b := (m + 1)) dX1_hasBytes_1 fg_X1_12 rfl rfl (wX1_l hm) (wX1_s hm) (wX1_r2 hm) ?_
  refine rr_getR (b := (m + 2)) dX1_hasBytes_4 fg_X1_134 rfl rfl (wX8_l (wX1_o2 hm)) (wX8_s (wX1_o2 hm)) (wX8_r0 (wX1_o2 hm)) ?_
  refine r_iload_n dX1_hasBytes_7 rfl (i := 1) rfl ?_
  obtain ⟨hc1, hT⟩ := hT
  refine rr_iaload (v := I (m + 2) x1) dX1_hasBytes_8 (wX8_l0 (wX1_o2 hm)) (wX8_a0 (wX1_o2 hm)) (by decide) hc1 rfl ?_
  refine rr_istore (i := 5) (ls' := [VR m, VI x1, VR p2, VI x3, VI x4, VI (I (m + 2) x1), VN]) dX1_hasBytes_9 (Nat.le_of_ble_eq_true rfl) rfl rfl (hI _ _).inR ?_
  refine r_aload_n dX1_hasBytes_11 rfl (i := 0) rfl ?_
  refine rr_getR (b := (m + 1)) dX1_hasBytes_12 fg_X1_12 rfl rfl (wX1_l hm) (wX1_s hm) (wX1_r2 hm) ?_
  refine rr_getR (b := (m + 2)) dX1_hasBytes_15 fg_X1_134 rfl rfl (wX8_l (wX1_o2 hm)) (wX8_s (wX1_o2 hm)) (wX8_r0 (wX1_o2 hm)) ?_
  refine r_iload_n dX1_hasBytes_18 rfl (i := 1) rfl ?_
  refine r_iconst (n := 1) dX1_hasBytes_19 ?_
  refine r_iadd dX1_hasBytes_20 ?_
  obtain ⟨hc2, hT⟩ := hT
  refine rr_iaload (v := I (m + 2) (x1 + 1)) dX1_hasBytes_21 (wX8_l0 (wX1_o2 hm)) (wX8_a0 (wX1_o2 hm)) (by decide) hc2 rfl ?_
  refine r_iload dX1_hasBytes_22 (i := 5) rfl ?_
  refine r_isub dX1_hasBytes_24 ?_
  refine r_iload dX1_hasBytes_25 (i := 4) rfl ?_
  refine r_iload_n dX1_hasBytes_27 rfl (i := 3) rfl ?_
  refine r_isub dX1_hasBytes_28 ?_
  obtain ⟨hc3, hT⟩ := hT
  obtain ⟨hc4, hT⟩ := hT
  refine r_icmp_eq (tgt := 34) dX1_hasBytes_29 rfl hc3 hc4 (fun hcc => ?_) (fun hcc => ?_)
  · replace hT := hT.1 hcc
    refine r_iload_n dX1_hasBytes_34 rfl (i := 3) rfl ?_
    refine rr_istore (i := 6) (ls' := [VR m, VI x1, VR p2, VI x3, VI x4, VI (I (m + 2) x1), VI x3]) dX1_hasBytes_35 (Nat.le_of_ble_eq_true rfl) rfl rfl hx3 ?_
    exact hT I0 hF
  · replace hT := hT.2 hcc
    refine r_iconst (n := 0) dX1_hasBytes_32 ?_
    exact r_zret dX1_hasBytes_33 rfl ⟨by decide, by decide⟩ ⟨Nat.zero_le _, Nat.zero_le _⟩ ⟨_, rfl, rfl, hF, hT⟩
theorem en_X1_hasBytes {E : jE} {G : jG} {I : jM} {q : Int → jM → Prop} {m : Nat} {x1 : Int} {p2 np2 : Nat} {x3 : Int} {x4 : Int} (hm : WX1 G m) (lp2 : p2 < G.2.2) (sp2 : G.2.1 p2 = (101, np2)) (bp2 : (np2 : Int) ≤ 2147483647) (hT : (∀ a j, jRg (G.2.1 a).1 (I a j)) → jIn x1 → jIn x3 → jIn x4 → ((0 : Int) ≤ x1 ∧ (x1 : Int) < 201) ∧ ((0 : Int) ≤ (x1 + 1) ∧ ((x1 + 1) : Int) < 201) ∧ jIn ((I (m + 2) (x1 + 1)) - (I (m + 2) x1)) ∧ jIn (x4 - x3) ∧ ((((I (m + 2) (x1 + 1)) - (I (m + 2) x1)) = (x4 - x3) → jOI E jB kX1_hasBytes 37 [VR m, VI x1, VR p2, VI x3, VI x4, VI (I (m + 2) x1), VI x3] G I q) ∧ (¬ ((I (m + 2) (x1 + 1)) - (I (m + 2) x1)) = (x4 - x3) → q 0 I))) : jRI E jB kX1_hasBytes [VR m, VI x1, VR p2, VI x3, VI x4] G I q := jRun.of mt_X1_hasBytes.2.2.2 2 rfl (fun _ => st_X1_hasBytes_0 hm lp2 sp2 bp2 hT I (fun _ _ => rfl))
set_option maxRecDepth 20000 in
theorem st_X1_fitsElement_0 {E : jE} {G : jG} {I : jM} {q : Int → jM → Prop} {m : Nat} {x1 : Int} {x2 : Int} {x3 : Int} (hm : WX1 G m) (hT : (∀ a j, jRg (G.2.1 a).1 (I a j)) → jIn x1 → jIn x2 → jIn x3 → (∃ b1 : Nat, I m 1 = (b1 : Int) ∧ WX6 G b1 ∧ ((0 : Int) ≤ x1 ∧ (x1 : Int) < 36) ∧ (∃ b5 : Nat, I m 1 = (b5 : Int) ∧ WX6 G b5 ∧ ((0 : Int) ≤ x1 ∧ (x1 : Int) < 36) ∧ ((¬ (I (b1 + 6) x1) = 4 → ((0 : Int) ≤ (x2 + x3) ∧ ((x2 + x3) : Int) < 200) ∧ ((¬ (I (b1 + 6) x1) = (I (m + 3) (x2 + x3)) → q 0 I) ∧ ((I (b1 + 6) x1) = (I (m + 3) (x2 + x3)) → (((I (b5 + 8) x1) = x3 → q 1 I) ∧ (¬ (I (b5 + 8) x1) = x3 → (∃ b10 : Nat, I m 0 = (b10 : Int) ∧ WX4 G b10 ∧ ((0 : Int) ≤ (x2 + (I (b5 + 8) x1)) ∧ ((x2 + (I (b5 + 8) x1)) : Int) < 201) ∧ ((0 : Int) ≤ ((x2 + (I (b5 + 8) x1)) + 1) ∧ (((x2 + (I (b5 + 8) x1)) + 1) : Int) < 201) ∧ jIn (x2 + x3) ∧ jRI E jB kX1_hasBytes [VR m, VI (x2 + x3), VR (b10 + 1), VI (I (m + 2) (x2 + (I (b5 + 8) x1))), VI (I (m + 2) ((x2 + (I (b5 + 8) x1)) + 1))] G I (fun r17 I16 => ((r17 = 0 → q 0 I16) ∧ (¬ r17 = 0 → q 1 I16))))))))) ∧ ((I (b1 + 6) x1) = 4 → (∃ b19 : Nat, I m 1 = (b19 : Int) ∧ WX6 G b19 ∧ (∃ b22 : Nat, I m 1 = (b22 : Int) ∧ WX6 G b22 ∧ ((0 : Int) ≤ x1 ∧ (x1 : Int) < 36) ∧ jIn (x2 + x3) ∧ jRI E jB kX1_hasBytes [VR m, VI (x2 + x3), VR (b19 + 1), VI (I (b5 + 8) x1), VI (I (b22 + 9) x1)] G I (fun r28 I27 => (0 ≤ r28 ∧ r28 ≤ 1) ∧ q r28 I27)))))))) : jOI E jB kX1_fitsElement 0 [VR m, VI x1, VI x2, VI x3, VN, VN] G I q := by
  intro I0 hF
  refine jOk_mem (fun hI => ?_)
  refine jOk_in (i := 1) rfl (fun hx1 => ?_)
  refine jOk_in (i := 2) rfl (fun hx2 => ?_)
  refine jOk_in (i := 3) rfl (fun hx3 => ?_)
  replace hT := hT hI hx1 hx2 hx3
  refine r_aload_n dX1_fitsElement_0 rfl (i := 0) rfl ?_
  obtain ⟨b1, hc2, hc3, hT⟩ := hT
  refine rr_getM (b := b1) dX1_fitsElement_1 fg_X1_61 rfl rfl (wX1_l hm) (wX1_s hm) hc2 ?_
  refine rr_getR (b := (b1 + 6)) dX1_fitsElement_4 fg_X1_112 rfl rfl (wX6_l hc3) (wX6_s hc3) (wX6_r6 hc3) ?_
  refine r_iload_n dX1_fitsElement_7 rfl (i := 1) rfl ?_
  obtain ⟨hc4, hT⟩ := hT
  refine rr_iaload (v := I (b1 + 6) x1) dX1_fitsElement_8 (wX6_l6 hc3) (wX6_a6 hc3) (by decide) hc4 rfl ?_
  refine rr_istore (i := 4) (ls' := [VR m, VI x1, VI x2, VI x3, VI (I (b1 + 6) x1), VN]) dX1_fitsElement_9 (Nat.le_of_ble_eq_true rfl) rfl rfl (hI _ _).inR ?_
  refine r_aload_n dX1_fitsElement_11 rfl (i := 0) rfl ?_
  obtain ⟨b5, hc6, hc7, hT⟩ := hT
  refine rr_getM (b := b5) dX1_fitsElement_12 fg_X1_61 rfl rfl (wX1_l hm) (wX1_s hm) hc6 ?_
  refine rr_getR (b := (b5 + 8)) dX1_fitsElement_15 fg_X1_115 rfl rfl (wX6_l hc7) (wX6_s hc7) (wX6_r8 hc7) ?_
  refine r_iload_n dX1_fitsElement_18 rfl (i := 1) rfl ?_
  obtain ⟨hc8, hT⟩ := hT
  refine rr_iaload (v := I (b5 + 8) x1) dX1_fitsElement_19 (wX6_l8 hc7) (wX6_a8 hc7) (by decide) hc8 rfl ?_
  refine rr_istore (i := 5) (ls' := [VR m, VI x1, VI x2, VI x3, VI (I (b1 + 6) x1), VI (I (b5 + 8) x1)]) dX1_fitsElement_20 (Nat.le_of_ble_eq_true rfl) rfl rfl (hI _ _).inR ?_
  refine r_iload dX1_fitsElement_22 (i := 4) rfl ?_
  refine r_iconst (n := 4) dX1_fitsElement_24 ?_
  refine r_icmp_ne (tgt := 54) dX1_fitsElement_25 rfl (hI _ _).inR ⟨by decide, by decide⟩ (fun hcc => ?_) (fun hcc => ?_)
  · replace hT := hT.1 hcc
    refine r_iload dX1_fitsElement_54 (i := 4) rfl ?_
    refine r_aload_n dX1_fitsElement_56 rfl (i := 0) rfl ?_
    refine rr_getR (b := (m + 1)) dX1_fitsElement_57 fg_X1_12 rfl rfl (wX1_l hm) (wX1_s hm) (wX1_r2 hm) ?_
    refine rr_getR (b := (m + 3)) dX1_fitsElement_60 fg_X1_128 rfl rfl (wX8_l (wX1_o2 hm)) (wX8_s (wX1_o2 hm)) (wX8_r1 (wX1_o2 hm)) ?_
    refine r_iload_n dX1_fitsElement_63 rfl (i := 2) rfl ?_
    refine r_iload_n dX1_fitsElement_64 rfl (i := 3) rfl ?_
    refine r_iadd dX1_fitsElement_65 ?_
    obtain ⟨hc9, hT⟩ := hT
    refine rr_iaload (v := I (m + 3) (x2 + x3)) dX1_fitsElement_66 (wX8_l1 (wX1_o2 hm)) (wX8_a1 (wX1_o2 hm)) (by decide) hc9 rfl ?_
    refine r_icmp_ne (tgt := 123) dX1_fitsElement_67 rfl (hI _ _).inR (hI _ _).inR (fun hcc => ?_) (fun hcc => ?_)
    · replace hT := hT.1 hcc
      refine r_iconst (n := 0) dX1_fitsElement_123 ?_
      exact r_zret dX1_fitsElement_124 rfl ⟨by decide, by decide⟩ ⟨Nat.zero_le _, Nat.zero_le _⟩ ⟨_, rfl, rfl, hF, hT⟩
    · replace hT := hT.2 hcc
      refine r_iload dX1_fitsElement_70 (i := 5) rfl ?_
      refine r_iload_n dX1_fitsElement_72 rfl (i := 3) rfl ?_
      refine r_icmp_eq (tgt := 119) dX1_fitsElement_73 rfl (hI _ _).inR hx3 (fun hcc => ?_) (fun hcc => ?_)
      · replace hT := hT.1 hcc
        refine r_iconst (n := 1) dX1_fitsElement_119 ?_
        refine r_goto (tgt := 124) dX1_fitsElement_120 rfl ?_
        exact r_zret dX1_fitsElement_124 rfl ⟨by decide, by decide⟩ ⟨Nat.zero_le _, Nat.zero_le _⟩ ⟨_, rfl, rfl, hF, hT⟩
      · replace hT := hT.2 hcc
        refine r_aload_n dX1_fitsElement_76 rfl (i := 0) rfl ?_
        refine r_iload_n dX1_fitsElement_77 rfl (i := 2) rfl ?_
        refine r_iload_n dX1_fitsElement_78 rfl (i := 3) rfl ?_
        refine r_iadd dX1_fitsElement_79 ?_
        refine r_aload_n dX1_fitsElement_80 rfl (i := 0) rfl ?_
        obtain ⟨b10, hc11, hc12, hT⟩ := hT
        refine rr_getM (b := b10) dX1_fitsElement_81 fg_X1_56 rfl rfl (wX1_l hm) (wX1_s hm) hc11 ?_
        refine rr_getR (b := (b10 + 1)) dX1_fitsElement_84 fg_X1_131 rfl rfl (wX4_l hc12) (wX4_s hc12) (wX4_r0 hc12) ?_
        refine r_aload_n dX1_fitsElement_87 rfl (i := 0) rfl ?_
        refine rr_getR (b := (m + 1)) dX1_fitsElement_88 fg_X1_12 rfl rfl (wX1_l hm) (wX1_s hm) (wX1_r2 hm) ?_
        refine rr_getR (b := (m + 2)) dX1_fitsElement_91 fg_X1_134 rfl rfl (wX8_l (wX1_o2 hm)) (wX8_s (wX1_o2 hm)) (wX8_r0 (wX1_o2 hm)) ?_
        refine r_iload_n dX1_fitsElement_94 rfl (i := 2) rfl ?_
        refine r_iload dX1_fitsElement_95 (i := 5) rfl ?_
        refine r_iadd dX1_fitsElement_97 ?_
        obtain ⟨hc13, hT⟩ := hT
        refine rr_iaload (v := I (m + 2) (x2 + (I (b5 + 8) x1))) dX1_fitsElement_98 (wX8_l0 (wX1_o2 hm)) (wX8_a0 (wX1_o2 hm)) (by decide) hc13 rfl ?_
        refine r_aload_n dX1_fitsElement_99 rfl (i := 0) rfl ?_
        refine rr_getR (b := (m + 1)) dX1_fitsElement_100 fg_X1_12 rfl rfl (wX1_l hm) (wX1_s hm) (wX1_r2 hm) ?_
        refine rr_getR (b := (m + 2)) dX1_fitsElement_103 fg_X1_134 rfl rfl (wX8_l (wX1_o2 hm)) (wX8_s (wX1_o2 hm)) (wX8_r0 (wX1_o2 hm)) ?_
        refine r_iload_n dX1_fitsElement_106 rfl (i := 2) rfl ?_
        refine r_iload dX1_fitsElement_107 (i := 5) rfl ?_
        refine r_iadd dX1_fitsElement_109 ?_
        refine r_iconst (n := 1) dX1_fitsElement_110 ?_
        refine r_iadd dX1_fitsElement_111 ?_
        obtain ⟨hc14, hT⟩ := hT
        refine rr_iaload (v := I (m + 2) ((x2 + (I (b5 + 8) x1)) + 1)) dX1_fitsElement_112 (wX8_l0 (wX1_o2 hm)) (wX8_a0 (wX1_o2 hm)) (by decide) hc14 rfl ?_
        obtain ⟨hc15, hT⟩ := hT
        refine rr_cVI (a := m) (as := [VI (x2 + x3), VR (b10 + 1), VI (I (m + 2) (x2 + (I (b5 + 8) x1))), VI (I (m + 2) ((x2 + (I (b5 + 8) x1)) + 1))]) (st := []) dX1_fitsElement_113 mt_X1_hasBytes ml_X1_124 mi_X1_hasBytes rm_X1_fitsElement_X1_hasBytes jz_X1_hasBytes ⟨Nat.zero_le _, Nat.zero_le _⟩ (Nat.le_of_ble_eq_true rfl) (wX1_l hm) (wX1_c hm) (jasI hc15 (jasR (jasI (hI _ _).inR (jasI (hI _ _).inR jas0)))) hT (fun r17 I16 hc18 hFI16 hT => ?_)
        replace hFI16 := jFr_tr hF hFI16
        refine jOk_mem (fun hI16 => ?_)
        refine r_if_eq (tgt := 123) dX1_fitsElement_116 rfl hc18 (fun hcc => ?_) (fun hcc => ?_)
        · replace hT := hT.1 hcc
          refine r_iconst (n := 0) dX1_fitsElement_123 ?_
          exact r_zret dX1_fitsElement_124 rfl ⟨by decide, by decide⟩ ⟨Nat.zero_le _, Nat.zero_le _⟩ ⟨_, rfl, rfl, hFI16, hT⟩
        · replace hT := hT.2 hcc
          refine r_iconst (n := 1) dX1_fitsElement_119 ?_
          refine r_goto (tgt := 124) dX1_fitsElement_120 rfl ?_
          exact r_zret dX1_fitsElement_124 rfl ⟨by decide, by decide⟩ ⟨Nat.zero_le _, Nat.zero_le _⟩ ⟨_, rfl, rfl, hFI16, hT⟩
  · replace hT := hT.2 hcc
    refine r_aload_n dX1_fitsElement_28 rfl (i := 0) rfl ?_
    refine r_iload_n dX1_fitsElement_29 rfl (i := 2) rfl ?_
    refine r_iload_n dX1_fitsElement_30 rfl (i := 3) rfl ?_
    refine r_iadd dX1_fitsElement_31 ?_
    refine r_aload_n dX1_fitsElement_32 rfl (i := 0) rfl ?_
    obtain ⟨b19, hc20, hc21, hT⟩ := hT
    refine rr_getM (b := b19) dX1_fitsElement_33 fg_X1_61 rfl rfl (wX1_l hm) (wX1_s hm) hc20 ?_
    refine rr_getR (b := (b19 + 1)) dX1_fitsElement_36 fg_X1_118 rfl rfl (wX6_l hc21) (wX6_s hc21) (wX6_r0 hc21) ?_
    refine r_iload dX1_fitsElement_39 (i := 5) rfl ?_
    refine r_aload_n dX1_fitsElement_41 rfl (i := 0) rfl ?_
    obtain ⟨b22, hc23, hc24, hT⟩ := hT
    refine rr_getM (b := b22) dX1_fitsElement_42 fg_X1_61 rfl rfl (wX1_l hm) (wX1_s hm) hc23 ?_
    refine rr_getR (b := (b22 + 9)) dX1_fitsElement_45 fg_X1_121 rfl rfl (wX6_l hc24) (wX6_s hc24) (wX6_r9 hc24) ?_
    refine r_iload_n dX1_fitsElement_48 rfl (i := 1) rfl ?_
    obtain ⟨hc25, hT⟩ := hT
    refine rr_iaload (v := I (b22 + 9) x1) dX1_fitsElement_49 (wX6_l9 hc24) (wX6_a9 hc24) (by decide) hc25 rfl ?_
    obtain ⟨hc26, hT⟩ := hT
    refine rr_cVI (a := m) (as := [VI (x2 + x3), VR (b19 + 1), VI (I (b5 + 8) x1), VI (I (b22 + 9) x1)]) (st := []) dX1_fitsElement_50 mt_X1_hasBytes ml_X1_124 mi_X1_hasBytes rm_X1_fitsElement_X1_hasBytes jz_X1_hasBytes ⟨Nat.zero_le _, Nat.zero_le _⟩ (Nat.le_of_ble_eq_true rfl) (wX1_l hm) (wX1_c hm) (jasI hc26 (jasR (jasI (hI _ _).inR (jasI (hI _ _).inR jas0)))) hT (fun r28 I27 hc29 hFI27 hT => ?_)
    replace hFI27 := jFr_tr hF hFI27
    refine jOk_mem (fun hI27 => ?_)
    obtain ⟨hc30, hT⟩ := hT
    exact r_zret dX1_fitsElement_53 rfl hc30 ⟨Nat.zero_le _, Nat.zero_le _⟩ ⟨_, rfl, rfl, hFI27, hT⟩
theorem en_X1_fitsElement {E : jE} {G : jG} {I : jM} {q : Int → jM → Prop} {m : Nat} {x1 : Int} {x2 : Int} {x3 : Int} (hm : WX1 G m) (hT : (∀ a j, jRg (G.2.1 a).1 (I a j)) → jIn x1 → jIn x2 → jIn x3 → (∃ b1 : Nat, I m 1 = (b1 : Int) ∧ WX6 G b1 ∧ ((0 : Int) ≤ x1 ∧ (x1 : Int) < 36) ∧ (∃ b5 : Nat, I m 1 = (b5 : Int) ∧ WX6 G b5 ∧ ((0 : Int) ≤ x1 ∧ (x1 : Int) < 36) ∧ ((¬ (I (b1 + 6) x1) = 4 → ((0 : Int) ≤ (x2 + x3) ∧ ((x2 + x3) : Int) < 200) ∧ ((¬ (I (b1 + 6) x1) = (I (m + 3) (x2 + x3)) → q 0 I) ∧ ((I (b1 + 6) x1) = (I (m + 3) (x2 + x3)) → (((I (b5 + 8) x1) = x3 → q 1 I) ∧ (¬ (I (b5 + 8) x1) = x3 → (∃ b10 : Nat, I m 0 = (b10 : Int) ∧ WX4 G b10 ∧ ((0 : Int) ≤ (x2 + (I (b5 + 8) x1)) ∧ ((x2 + (I (b5 + 8) x1)) : Int) < 201) ∧ ((0 : Int) ≤ ((x2 + (I (b5 + 8) x1)) + 1) ∧ (((x2 + (I (b5 + 8) x1)) + 1) : Int) < 201) ∧ jIn (x2 + x3) ∧ jRI E jB kX1_hasBytes [VR m, VI (x2 + x3), VR (b10 + 1), VI (I (m + 2) (x2 + (I (b5 + 8) x1))), VI (I (m + 2) ((x2 + (I (b5 + 8) x1)) + 1))] G I (fun r17 I16 => ((r17 = 0 → q 0 I16) ∧ (¬ r17 = 0 → q 1 I16))))))))) ∧ ((I (b1 + 6) x1) = 4 → (∃ b19 : Nat, I m 1 = (b19 : Int) ∧ WX6 G b19 ∧ (∃ b22 : Nat, I m 1 = (b22 : Int) ∧ WX6 G b22 ∧ ((0 : Int) ≤ x1 ∧ (x1 : Int) < 36) ∧ jIn (x2 + x3) ∧ jRI E jB kX1_hasBytes [VR m, VI (x2 + x3), VR (b19 + 1), VI (I (b5 + 8) x1), VI (I (b22 + 9) x1)] G I (fun r28 I27 => (0 ≤ r28 ∧ r28 ≤ 1) ∧ q r28 I27)))))))) : jRI E jB kX1_fitsElement [VR m, VI x1, VI x2, VI x3] G I q := jRun.of mt_X1_fitsElement.2.2.2 2 rfl (fun _ => st_X1_fitsElement_0 hm hT I (fun _ _ => rfl))
set_option maxRecDepth 20000 in
theorem st_X1_fitsFrom_60 {E : jE} {G : jG} {I : jM} {q : Int → jM → Prop} {m : Nat} {x1 : Int} {x2 : Int} {x3 : Int} {x4 : Int} (hm : WX1 G m) (hT : (∀ a j, jRg (G.2.1 a).1 (I a j)) → jIn x1 → jIn x2 → jIn x3 → jIn x4 → ((x3 ≤ x4 → q 1 I) ∧ (¬ x3 ≤ x4 → jIn ((x1 * 6) + x4) ∧ jRI E jB kX1_fitsElement [VR m, VI ((x1 * 6) + x4), VI x2, VI x4] G I (fun r3 I2 => ((¬ r3 = 0 → jIn (x4 + 1) ∧ jOI E jB kX1_fitsFrom 60 [VR m, VI x1, VI x2, VI x3, VI (x4 + 1)] G I2 q) ∧ (r3 = 0 → q 0 I2)))))) : jOI E jB kX1_fitsFrom 60 [VR m, VI x1, VI x2, VI x3, VI x4] G I q := by
  intro I0 hF
  refine jOk_mem (fun hI => ?_)
  refine jOk_in (i := 1) rfl (fun hx1 => ?_)
  refine jOk_in (i := 2) rfl (fun hx2 => ?_)
  refine jOk_in (i := 3) rfl (fun hx3 => ?_)
  refine jOk_in (i := 4) rfl (fun hx4 => ?_)
  replace hT := hT hI hx1 hx2 hx3 hx4
  refine r_iload dX1_fitsFrom_60 (i := 4) rfl ?_
  refine r_iload_n dX1_fitsFrom_62 rfl (i := 3) rfl ?_
  refine r_icmp_ge (tgt := 91) dX1_fitsFrom_63 rfl hx4 hx3 (fun hcc => ?_) (fun hcc => ?_)
  · replace hT := hT.1 hcc
    refine r_iconst (n := 1) dX1_fitsFrom_91 ?_
    exact r_zret dX1_fitsFrom_92 rfl ⟨by decide, by decide⟩ ⟨Nat.zero_le _, Nat.zero_le _⟩ ⟨_, rfl, rfl, hF, hT⟩
  · replace hT := hT.2 hcc
    refine r_aload_n dX1_fitsFrom_66 rfl (i := 0) rfl ?_
    refine r_iload_n dX1_fitsFrom_67 rfl (i := 1) rfl ?_
    refine r_bipush (n := 6) dX1_fitsFrom_68 (by decide +kernel) ?_
    refine r_imul dX1_fitsFrom_70 ?_
    refine r_iload dX1_fitsFrom_71 (i := 4) rfl ?_
    refine r_iadd dX1_fitsFrom_73 ?_
    refine r_iload_n dX1_fitsFrom_74 rfl (i := 2) rfl ?_
    refine r_iload dX1_fitsFrom_75 (i := 4) rfl ?_
    obtain ⟨hc1, hT⟩ := hT
    refine rr_cVI (a := m) (as := [VI ((x1 * 6) + x4), VI x2, VI x4]) (st := []) dX1_fitsFrom_77 mt_X1_fitsElement ml_X1_108 mi_X1_fitsElement rm_X1_fitsFrom_X1_fitsElement jz_X1_fitsElement ⟨Nat.zero_le _, Nat.zero_le _⟩ (Nat.le_of_ble_eq_true rfl) (wX1_l hm) (wX1_c hm) (jasI hc1 (jasI hx2 (jasI hx4 jas0))) hT (fun r3 I2 hc4 hFI2 hT => ?_)
    replace hFI2 := jFr_tr hF hFI2
    refine jOk_mem (fun hI2 => ?_)
    refine r_if_ne (tgt := 85) dX1_fitsFrom_80 rfl hc4 (fun hcc => ?_) (fun hcc => ?_)
    · replace hT := hT.1 hcc
      obtain ⟨hc5, hT⟩ := hT
      refine rr_iinc (i := 4) (ls' := [VR m, VI x1, VI x2, VI x3, VI (x4 + 1)]) dX1_fitsFrom_85 rfl (Nat.le_of_ble_eq_true rfl) rfl rfl hc5 ?_
      refine r_goto (tgt := 60) dX1_fitsFrom_88 rfl ?_
      exact hT I0 hFI2
    · replace hT := hT.2 hcc
      refine r_iconst (n := 0) dX1_fitsFrom_83 ?_
      exact r_zret dX1_fitsFrom_84 rfl ⟨by decide, by decide⟩ ⟨Nat.zero_le _, Nat.zero_le _⟩ ⟨_, rfl, rfl, hFI2, hT⟩
set_option maxRecDepth 20000 in
theorem st_X1_fitsFrom_0 {E : jE} {G : jG} {I : jM} {q : Int → jM → Prop} {m : Nat} {x1 : Int} {x2 : Int} (hm : WX1 G m) (hT : (∀ a j, jRg (G.2.1 a).1 (I a j)) → jIn x1 → jIn x2 → ((x1 < 0 → q 0 I) ∧ (¬ x1 < 0 → (∃ b1 : Nat, I m 1 = (b1 : Int) ∧ WX6 G b1 ∧ (((I b1 1) ≤ x1 → q 0 I) ∧ (¬ (I b1 1) ≤ x1 → ((x2 < 0 → q 0 I) ∧ (¬ x2 < 0 → ((x2 < (I (m + 1) 2) → (∃ b4 : Nat, I m 1 = (b4 : Int) ∧ WX6 G b4 ∧ ((0 : Int) ≤ x1 ∧ (x1 : Int) < 6) ∧ jIn (x2 + (I (b4 + 3) x1)) ∧ (((x2 + (I (b4 + 3) x1)) ≤ (I (m + 1) 2) → jOI E jB kX1_fitsFrom 60 [VR m, VI x1, VI x2, VI (I (b4 + 3) x1), VI 0] G I q) ∧ (¬ (x2 + (I (b4 + 3) x1)) ≤ (I (m + 1) 2) → q 0 I)))) ∧ (¬ x2 < (I (m + 1) 2) → q 0 I)))))))))) : jOI E jB kX1_fitsFrom 0 [VR m, VI x1, VI x2, VN, VN] G I q := by
  intro I0 hF
  refine jOk_mem (fun hI => ?_)
  refine jOk_in (i := 1) rfl (fun hx1 => ?_)
  refine jOk_in (i := 2) rfl (fun hx2 => ?_)
  replace hT := hT hI hx1 hx2
  refine r_iload_n dX1_fitsFrom_0 rfl (i := 1) rfl ?_
  refine r_if_lt (tgt := 30) dX1_fitsFrom_1 rfl hx1 (fun hcc => ?_) (fun hcc => ?_)
  · replace hT := hT.1 hcc
    refine r_iconst (n := 0) dX1_fitsFrom_30 ?_
    exact r_zret dX1_fitsFrom_31 rfl ⟨by decide, by decide⟩ ⟨Nat.zero_le _, Nat.zero_le _⟩ ⟨_, rfl, rfl, hF, hT⟩
  · replace hT := hT.2 hcc
    refine r_iload_n dX1_fitsFrom_4 rfl (i := 1) rfl ?_
    refine r_aload_n dX1_fitsFrom_5 rfl (i := 0) rfl ?_
    obtain ⟨b1, hc2, hc3, hT⟩ := hT
    refine rr_getM (b := b1) dX1_fitsFrom_6 fg_X1_61 rfl rfl (wX1_l hm) (wX1_s hm) hc2 ?_
    refine rr_getI (v := I b1 1) dX1_fitsFrom_9 fg_X1_71 rfl (wX6_l hc3) (wX6_s hc3) rfl ?_
    refine r_icmp_ge (tgt := 30) dX1_fitsFrom_12 rfl hx1 (hI _ _).inR (fun hcc => ?_) (fun hcc => ?_)
    · replace hT := hT.1 hcc
      refine r_iconst (n := 0) dX1_fitsFrom_30 ?_
      exact r_zret dX1_fitsFrom_31 rfl ⟨by decide, by decide⟩ ⟨Nat.zero_le _, Nat.zero_le _⟩ ⟨_, rfl, rfl, hF, hT⟩
    · replace hT := hT.2 hcc
      refine r_iload_n dX1_fitsFrom_15 rfl (i := 2) rfl ?_
      refine r_if_lt (tgt := 30) dX1_fitsFrom_16 rfl hx2 (fun hcc => ?_) (fun hcc => ?_)
      · replace hT := hT.1 hcc
        refine r_iconst (n := 0) dX1_fitsFrom_30 ?_
        exact r_zret dX1_fitsFrom_31 rfl ⟨by decide, by decide⟩ ⟨Nat.zero_le _, Nat.zero_le _⟩ ⟨_, rfl, rfl, hF, hT⟩
      · replace hT := hT.2 hcc
        refine r_iload_n dX1_fitsFrom_19 rfl (i := 2) rfl ?_
        refine r_aload_n dX1_fitsFrom_20 rfl (i := 0) rfl ?_
        refine rr_getR (b := (m + 1)) dX1_fitsFrom_21 fg_X1_12 rfl rfl (wX1_l hm) (wX1_s hm) (wX1_r2 hm) ?_
        refine rr_getI (v := I (m + 1) 2) dX1_fitsFrom_24 fg_X1_70 rfl (wX8_l (wX1_o2 hm)) (wX8_s (wX1_o2 hm)) rfl ?_
        refine r_icmp_lt (tgt := 32) dX1_fitsFrom_27 rfl hx2 (hI _ _).inR (fun hcc => ?_) (fun hcc => ?_)
        · replace hT := hT.1 hcc
          refine r_aload_n dX1_fitsFrom_32 rfl (i := 0) rfl ?_
          obtain ⟨b4, hc5, hc6, hT⟩ := hT
          refine rr_getM (b := b4) dX1_fitsFrom_33 fg_X1_61 rfl rfl (wX1_l hm) (wX1_s hm) hc5 ?_
          refine rr_getR (b := (b4 + 3)) dX1_fitsFrom_36 fg_X1_105 rfl rfl (wX6_l hc6) (wX6_s hc6) (wX6_r3 hc6) ?_
          refine r_iload_n dX1_fitsFrom_39 rfl (i := 1) rfl ?_
          obtain ⟨hc7, hT⟩ := hT
          refine rr_iaload (v := I (b4 + 3) x1) dX1_fitsFrom_40 (wX6_l3 hc6) (wX6_a3 hc6) (by decide) hc7 rfl ?_
          refine rr_istore_n (i := 3) (ls' := [VR m, VI x1, VI x2, VI (I (b4 + 3) x1), VN]) dX1_fitsFrom_41 rfl (Nat.le_of_ble_eq_true rfl) rfl rfl (hI _ _).inR ?_
          refine r_iload_n dX1_fitsFrom_42 rfl (i := 2) rfl ?_
          refine r_iload_n dX1_fitsFrom_43 rfl (i := 3) rfl ?_
          refine r_iadd dX1_fitsFrom_44 ?_
          refine r_aload_n dX1_fitsFrom_45 rfl (i := 0) rfl ?_
          refine rr_getR (b := (m + 1)) dX1_fitsFrom_46 fg_X1_12 rfl rfl (wX1_l hm) (wX1_s hm) (wX1_r2 hm) ?_
          refine rr_getI (v := I (m + 1) 2) dX1_fitsFrom_49 fg_X1_70 rfl (wX8_l (wX1_o2 hm)) (wX8_s (wX1_o2 hm)) rfl ?_
          obtain ⟨hc8, hT⟩ := hT
          refine r_icmp_le (tgt := 57) dX1_fitsFrom_52 rfl hc8 (hI _ _).inR (fun hcc => ?_) (fun hcc => ?_)
          · replace hT := hT.1 hcc
            refine r_iconst (n := 0) dX1_fitsFrom_57 ?_
            refine rr_istore (i := 4) (ls' := [VR m, VI x1, VI x2, VI (I (b4 + 3) x1), VI 0]) dX1_fitsFrom_58 (Nat.le_of_ble_eq_true rfl) rfl rfl ⟨by decide, by decide⟩ ?_
            exact hT I0 hF
          · replace hT := hT.2 hcc
            refine r_iconst (n := 0) dX1_fitsFrom_55 ?_
            exact r_zret dX1_fitsFrom_56 rfl ⟨by decide, by decide⟩ ⟨Nat.zero_le _, Nat.zero_le _⟩ ⟨_, rfl, rfl, hF, hT⟩
        · replace hT := hT.2 hcc
          refine r_iconst (n := 0) dX1_fitsFrom_30 ?_
          exact r_zret dX1_fitsFrom_31 rfl ⟨by decide, by decide⟩ ⟨Nat.zero_le _, Nat.zero_le _⟩ ⟨_, rfl, rfl, hF, hT⟩
theorem en_X1_fitsFrom {E : jE} {G : jG} {I : jM} {q : Int → jM → Prop} {m : Nat} {x1 : Int} {x2 : Int} (hm : WX1 G m) (hT : (∀ a j, jRg (G.2.1 a).1 (I a j)) → jIn x1 → jIn x2 → ((x1 < 0 → q 0 I) ∧ (¬ x1 < 0 → (∃ b1 : Nat, I m 1 = (b1 : Int) ∧ WX6 G b1 ∧ (((I b1 1) ≤ x1 → q 0 I) ∧ (¬ (I b1 1) ≤ x1 → ((x2 < 0 → q 0 I) ∧ (¬ x2 < 0 → ((x2 < (I (m + 1) 2) → (∃ b4 : Nat, I m 1 = (b4 : Int) ∧ WX6 G b4 ∧ ((0 : Int) ≤ x1 ∧ (x1 : Int) < 6) ∧ jIn (x2 + (I (b4 + 3) x1)) ∧ (((x2 + (I (b4 + 3) x1)) ≤ (I (m + 1) 2) → jOI E jB kX1_fitsFrom 60 [VR m, VI x1, VI x2, VI (I (b4 + 3) x1), VI 0] G I q) ∧ (¬ (x2 + (I (b4 + 3) x1)) ≤ (I (m + 1) 2) → q 0 I)))) ∧ (¬ x2 < (I (m + 1) 2) → q 0 I)))))))))) : jRI E jB kX1_fitsFrom [VR m, VI x1, VI x2] G I q := jRun.of mt_X1_fitsFrom.2.2.2 2 rfl (fun _ => st_X1_fitsFrom_0 hm hT I (fun _ _ => rfl))
section CF
variable {E : jE} {G : jG} {φ p ρ : Nat} {I : jM} {X : Int → Int}
theorem cl_hasBytes (h : FC G φ p ρ X I) (hQ : QW X) {s ns : Nat} (ls : s < G.2.2) (ss : G.2.1 s = (101, ns)) (bs : (ns : Int) ≤ 2147483647) {t x y : Int} (ht : 0 ≤ t ∧ t < nT X) (x0 : 0 ≤ x) (xy : x ≤ y) (yn : y ≤ ns) : jRI E jB kX1_hasBytes [VR φ, VI t, VR s, VI x, VI y] G I (fun r I' => r = jI (bT X (t + 1) - bT X t = y - x ∧ ∀ k, 0 ≤ k → k < y - x → X (10 + (bT X t + k)) = I s (x + k)) ∧ I' = I) := by
  obtain ⟨⟨⟨hm, hp, hρ⟩, hd1, hd2⟩, ⟨k0, k1⟩, hP, hR, hT⟩ := h
  have hk := tkS (S := X) hQ.1.1
  have hn := hk.n_le
  have h200 := hQ.1
  have bt := hk.bd (t := t) ht.1 (by omega)
  have bt1 := hk.bd (t := t + 1) (by omega) (by omega)
  have e0 := hT.2.1 t ht.1 (by omega)
  have e1 := hT.2.1 (t + 1) (by omega) (by omega)
  have e0' : I (φ + 2) t = bT X t := e0
  have e1' : I (φ + 2) (t + 1) = bT X (t + 1) := e1
  have loop : ∀ (d : Nat) (z : Int), x ≤ z → z + d = y → bT X (t + 1) - bT X t = y - x → (∀ k, 0 ≤ k → k < z - x → X (10 + (bT X t + k)) = I s (x + k)) → jOI E jB kX1_hasBytes 37 [VR φ, VI t, VR s, VI x, VI y, VI (bT X t), VI z] G I (fun r I' => r = jI (bT X (t + 1) - bT X t = y - x ∧ ∀ k, 0 ≤ k → k < y - x → X (10 + (bT X t + k)) = I s (x + k)) ∧ I' = I) := by
    intro d
    induction d with
    | zero =>
      intro z z0 z1 hl hz
      refine st_X1_hasBytes_37 hm ls ss bs (fun _ _ _ _ _ _ => ⟨fun _ => ⟨(jI_pos ⟨hl, fun k a b => hz k a (by omega)⟩).symm, rfl⟩, fun q => absurd (by omega) q⟩)
    | succ d ih =>
      intro z z0 z1 hl hz
      refine st_X1_hasBytes_37 hm ls ss bs (fun _ _ _ _ _ _ => ⟨fun q => absurd q (by omega), fun _ => ⟨p, k0, hp, ⟨by omega, by omega⟩, fun _ => ⟨⟨by omega, by omega⟩, fun _ => ?_⟩⟩⟩)
      have eb := (hP.1.2 (bT X t + (z - x)) (by omega) (by omega)).1
      rw [show bT X t + z - x = bT X t + (z - x) by omega, eb]
      refine ⟨fun q => ⟨⟨by omega, by omega⟩, ih (z + 1) (by omega) (by omega) hl (fun k a b => ?_)⟩, fun q => ⟨(jI_neg (fun g => q ?_)).symm, rfl⟩⟩
      · by_cases ek : k = z - x
        · rw [ek, show x + (z - x) = z by omega]; exact q
        · exact hz k a (by omega)
      · have := g.2 (z - x) (by omega) (by omega)
        rw [show x + (z - x) = z by omega] at this
        exact this
  refine en_X1_hasBytes hm ls ss bs (fun _ _ _ _ => ⟨⟨by omega, by omega⟩, ⟨by omega, by omega⟩, ?_⟩)
  rw [e0', e1']
  refine ⟨⟨by omega, by omega⟩, ⟨by omega, by omega⟩, fun q => loop (y - x).toNat x (by omega) (by omega) q (fun k a b => by omega), fun q => ⟨(jI_neg (fun g => q g.1)).symm, rfl⟩⟩
theorem cl_fitsElement (h : FC G φ p ρ X I) (hQ : QW X) {r e t x : Int} (hr : 0 ≤ r ∧ r < X 4) (he : 0 ≤ e ∧ e < X (516 + 40 * r)) (t0 : 0 ≤ t) (t1 : t + e < nT X) (hx : x = 6 * r + e) : jRI E jB kX1_fitsElement [VR φ, VI x, VI t, VI e] G I (fun y I' => y = jI (fit1 X (bT X) r t e) ∧ I' = I) := by
  have h' := h
  obtain ⟨⟨⟨hm, hp, hρ⟩, hd1, hd2⟩, ⟨k0, k1⟩, hP, hR, hT⟩ := h
  have hk := tkS (S := X) hQ.1.1
  have hn := hk.n_le
  have h200 := hQ.1
  have h6 := hQ.2.1.2.1
  obtain ⟨w1, w2, w3, w4, w5, w6, w7⟩ := hQ.2.1.2.2 r hr.1 hr.2
  obtain ⟨v0, v1, v2, v3⟩ := w5 e he.1 he.2
  obtain ⟨u1, u2, u3, u4⟩ := (hR.2.1 r hr.1 hr.2).2.2.2.1 e he.1 he.2
  have v0' : 0 ≤ X (518 + 40 * r + 3 * e + 0) := v0
  have v1' : X (518 + 40 * r + 3 * e + 0) ≤ 4 := v1
  have hs := srt_range (X (10 + bT X (t + e)))
  have es : I (φ + 3) (t + e) = told (srt (X (10 + bT X (t + e)))) := hT.2.2 (t + e) (by omega) t1
  subst hx
  refine en_X1_fitsElement hm (fun _ _ _ _ => ⟨ρ, k1, hρ, ⟨by omega, by omega⟩, ρ, k1, hρ, ⟨by omega, by omega⟩, ?_⟩)
  rw [u1]
  refine ⟨fun q4 => ⟨⟨by omega, by omega⟩, ?_⟩, fun q4 => ?_⟩
  · have n4 : X (518 + 40 * r + 3 * e + 0) ≠ 4 := fun q => q4 ((told_4 ⟨v0', v1'⟩).mpr q)
    rw [es]
    refine ⟨fun q => ⟨(jI_neg (fun g => q ?_)).symm, rfl⟩, fun q => ?_⟩
    · rw [(g.2 n4).1]
    · have eq := told_inj ⟨v0', by omega⟩ hs q
      by_cases q3 : X (518 + 40 * r + 3 * e + 0) = 3
      · refine ⟨fun _ => ⟨(jI_pos ⟨fun g => absurd g n4, fun _ => ⟨eq.symm, fun g => absurd q3 g⟩⟩).symm, rfl⟩, fun g => absurd (u3 q3) g⟩
      · have hf := u2 (by show X (518 + 40 * r + 3 * e + 0) ≤ 2; omega)
        have hfit : fit1 X (bT X) r t e ↔ like X (bT X) (t + I (ρ + 8) (6 * r + e)) (t + e) := ⟨fun g => (g.2 n4).2 q3 _ hf, fun g => ⟨fun g' => absurd g' n4, fun _ => ⟨eq.symm, fun _ e0 hf' => by rw [hf'.uniq hf]; exact g⟩⟩⟩
        refine ⟨fun g => ⟨(jI_pos (hfit.mpr ?_)).symm, rfl⟩, fun g => ?_⟩
        · rw [g]
          exact ⟨rfl, fun _ _ _ => rfl⟩
        · have f0 := hf.1
          have f1 := hf.2.1
          generalize I (ρ + 8) (6 * r + e) = e0 at *
          have b0 := hk.bd (t := t + e0) (by omega) (by omega)
          have b1 := hk.bd (t := t + e0 + 1) (by omega) (by omega)
          have b2 := hk.slt (t := t + e0) (u := t + e0 + 1) (by omega) (by omega) (by omega)
          have c0 : I (φ + 2) (t + e0) = bT X (t + e0) := hT.2.1 _ (by omega) (by omega)
          have c1 : I (φ + 2) (t + e0 + 1) = bT X (t + e0 + 1) := hT.2.1 _ (by omega) (by omega)
          refine ⟨p, k0, hp, ⟨by omega, by omega⟩, ⟨by omega, by omega⟩, ⟨by omega, by omega⟩, ?_⟩
          rw [c0, c1]
          refine (cl_hasBytes h' hQ (wX4_l0 hp) (wX4_a0 hp) (by decide) (t := t + e) (by omega) b0.1 (by omega) (by show _ ≤ (200 : Int); omega)).mono (fun y I' _ _ hy => ?_)
          obtain ⟨rfl, rfl⟩ := hy
          have hl : (bT X (t + e + 1) - bT X (t + e) = bT X (t + e0 + 1) - bT X (t + e0) ∧ ∀ k, 0 ≤ k → k < bT X (t + e0 + 1) - bT X (t + e0) → X (10 + (bT X (t + e) + k)) = I' (p + 1) (bT X (t + e0) + k)) ↔ fit1 X (bT X) r t e := by
            rw [hfit]
            refine ⟨fun g => ⟨g.1.symm, fun k a b => ?_⟩, fun g => ⟨g.1.symm, fun k a b => ?_⟩⟩
            · have := g.2 k a b
              rw [(hP.1.2 (bT X (t + e0) + k) (by omega) (by omega)).1] at this
              exact this.symm
            · rw [(hP.1.2 (bT X (t + e0) + k) (by omega) (by omega)).1]
              exact (g.2 k a b).symm
          refine ⟨fun q => ⟨(jI_neg (fun g => jI_n q (hl.mpr g))).symm, rfl⟩, fun q => ⟨(jI_pos (hl.mp (jI_p q))).symm, rfl⟩⟩
  · have q4' : X (518 + 40 * r + 3 * e + 0) = 4 := (told_4 ⟨v0', v1'⟩).mp q4
    obtain ⟨a1, a2, a3⟩ := u4 q4'
    have v4 := v3 q4'
    refine ⟨ρ, k1, hρ, ρ, k1, hρ, ⟨by omega, by omega⟩, ⟨by omega, by omega⟩, ?_⟩
    rw [a1, a2]
    refine (cl_hasBytes h' hQ (wX6_l0 hρ) (wX6_a0 hρ) (by decide) (t := t + e) (by omega) v4.1 (by omega) (by show _ ≤ (300 : Int); omega)).mono (fun y I' _ _ hy => ?_)
    obtain ⟨rfl, rfl⟩ := hy
    refine ⟨jI_01, jI_congr ?_, rfl⟩
    refine ⟨fun g => ⟨fun _ => ⟨by have := g.1; omega, fun k a b => ?_⟩, fun q => absurd q4' q⟩, fun g => ⟨by have := (g.1 q4').1; omega, fun k a b => ?_⟩⟩
    · have g1 := g.1
      have := g.2 k a (by omega)
      rw [a3 k a (by omega)] at this
      exact this.symm
    · have g1 := (g.1 q4').1
      rw [a3 k a (by omega)]
      exact ((g.1 q4').2 k a (by omega)).symm
theorem cl_fitsFrom (h : FC G φ p ρ X I) (hQ : QW X) {r t : Int} : jRI E jB kX1_fitsFrom [VR φ, VI r, VI t] G I (fun y I' => y = jI (canF X r t) ∧ I' = I) := by
  have h' := h
  obtain ⟨⟨⟨hm, hp, hρ⟩, hd1, hd2⟩, ⟨k0, k1⟩, hP, hR, hT⟩ := h
  have hk := tkS (S := X) hQ.1.1
  have hn := hk.n_le
  have h200 := hQ.1
  have h6 := hQ.2.1.2.1
  have e4 := hR.1
  have en : I (φ + 1) 2 = nT X := hT.1
  have no : ¬ canF X r t → (0 : Int) = jI (canF X r t) ∧ I = I := fun g => ⟨(jI_neg g).symm, rfl⟩
  refine en_X1_fitsFrom hm (fun _ _ _ => ⟨fun q => no (fun g => by have := g.1.1; omega), fun q0 => ⟨ρ, k1, hρ, fun q => no (fun g => by have := g.1.2; omega), fun q1 => ⟨fun q => no (fun g => by have := g.2.1.1; omega), fun q2 => ⟨fun q3 => ⟨ρ, k1, hρ, ⟨by omega, by omega⟩, ?_⟩, fun q => no (fun g => by have := g.2.1.2; omega)⟩⟩⟩⟩)
  have g2 := (hR.2.1 r (by omega) (by omega)).2.1
  have w3 := (hQ.2.1.2.2 r (by omega) (by omega)).2.2.1
  rw [g2, en]
  refine ⟨⟨by omega, by omega⟩, fun q4 => ?_, fun q => no (fun g => q g.2.2.1)⟩
  have loop : ∀ (d : Nat) (e : Int), 0 ≤ e → e + d = X (516 + 40 * r) → (∀ e', 0 ≤ e' → e' < e → fit1 X (bT X) r t e') → jOI E jB kX1_fitsFrom 60 [VR φ, VI r, VI t, VI (X (516 + 40 * r)), VI e] G I (fun y I' => y = jI (canF X r t) ∧ I' = I) := by
    intro d
    induction d with
    | zero =>
      intro e e0 e1 he
      refine st_X1_fitsFrom_60 hm (fun _ _ _ _ _ => ⟨fun _ => ⟨(jI_pos ⟨by omega, by omega, q4, fun e' a b => he e' a (by omega)⟩).symm, rfl⟩, fun q => absurd (by omega) q⟩)
    | succ d ih =>
      intro e e0 e1 he
      refine st_X1_fitsFrom_60 hm (fun _ _ _ _ _ => ⟨fun q => absurd q (by omega), fun _ => ⟨⟨by omega, by omega⟩, ?_⟩⟩)
      refine (cl_fitsElement h' hQ (r := r) (e := e) (t := t) (by omega) (by omega) (by omega) (by omega) (by omega)).mono (fun y I' _ _ hy => ?_)
      obtain ⟨rfl, rfl⟩ := hy
      refine ⟨fun q => ⟨⟨by omega, by omega⟩, ih (e + 1) (by omega) (by omega) (fun e' a b => ?_)⟩, fun q => ⟨(jI_neg (fun g => jI_n q (g.2.2.2 e e0 (by omega)))).symm, rfl⟩⟩
      by_cases ee : e' = e
      · rw [ee]; exact jI_p q
      · exact he e' a (by omega)
  exact loop (X (516 + 40 * r)).toNat 0 (by omega) (by omega) (fun e' a b => by omega)
end CF
