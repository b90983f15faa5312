/-! ===== small sets as bits ===== -/
def bit (x i : Int) : Prop := jand (jshr x i) 1 = 1
theorem bit_tab : ∀ x : Fin 64, ∀ r i : Fin 6, (jand (jshr (jor ((x : Nat) : Int) (jshl 1 ((r : Nat) : Int))) ((i : Nat) : Int)) 1 = 1 ↔ (jand (jshr ((x : Nat) : Int) ((i : Nat) : Int)) 1 = 1 ∨ i = r)) ∧ ((x : Nat) : Int) ≤ jor ((x : Nat) : Int) (jshl 1 ((r : Nat) : Int)) ∧ jor ((x : Nat) : Int) (jshl 1 ((r : Nat) : Int)) < 64 ∧ (jor ((x : Nat) : Int) (jshl 1 ((r : Nat) : Int)) = ((x : Nat) : Int) → jand (jshr ((x : Nat) : Int) ((r : Nat) : Int)) 1 = 1) := by decide +kernel
theorem bit1_tab : ∀ r i : Fin 6, (jand (jshr (jshl 1 ((r : Nat) : Int)) ((i : Nat) : Int)) 1 = 1 ↔ i = r) ∧ 1 ≤ jshl 1 ((r : Nat) : Int) ∧ jshl 1 ((r : Nat) : Int) < 64 := by decide +kernel
theorem bit_or {x r i : Int} (hx : 0 ≤ x ∧ x < 64) (hr : 0 ≤ r ∧ r < 6) (hi : 0 ≤ i ∧ i < 6) : bit (jor x (jshl 1 r)) i ↔ bit x i ∨ i = r := by
  have h := (bit_tab ⟨x.toNat, by omega⟩ ⟨r.toNat, by omega⟩ ⟨i.toNat, by omega⟩).1
  simp only [Int.toNat_of_nonneg hx.1, Int.toNat_of_nonneg hr.1, Int.toNat_of_nonneg hi.1, Fin.mk.injEq] at h
  unfold bit
  rw [h]
  have : (i.toNat = r.toNat) ↔ i = r := by omega
  rw [this]
theorem or_bd {x r : Int} (hx : 0 ≤ x ∧ x < 64) (hr : 0 ≤ r ∧ r < 6) : x ≤ jor x (jshl 1 r) ∧ jor x (jshl 1 r) < 64 ∧ (jor x (jshl 1 r) = x → bit x r) := by
  have h := (bit_tab ⟨x.toNat, by omega⟩ ⟨r.toNat, by omega⟩ ⟨0, by omega⟩).2
  simp only [Int.toNat_of_nonneg hx.1, Int.toNat_of_nonneg hr.1] at h
  exact h
theorem bit1 {r i : Int} (hr : 0 ≤ r ∧ r < 6) (hi : 0 ≤ i ∧ i < 6) : bit (jshl 1 r) i ↔ i = r := by
  have h := (bit1_tab ⟨r.toNat, by omega⟩ ⟨i.toNat, by omega⟩).1
  simp only [Int.toNat_of_nonneg hr.1, Int.toNat_of_nonneg hi.1, Fin.mk.injEq] at h
  unfold bit
  rw [h]
  omega
theorem bit1_bd {r : Int} (hr : 0 ≤ r ∧ r < 6) : 1 ≤ jshl 1 r ∧ jshl 1 r < 64 := by
  have h := (bit1_tab ⟨r.toNat, by omega⟩ ⟨0, by omega⟩).2
  simp only [Int.toNat_of_nonneg hr.1] at h
  exact h
/-- by yields, one after the other -/
def reach (B : Int → Int) (r o : Int) : Prop := ∀ P : Int → Prop, P r → (∀ k, 0 ≤ k → k < B 7 → P (B (426 + 2 * k + 1)) → P (B (426 + 2 * k))) → P o
set_option maxRecDepth 20000 in
theorem st_X10_isBelow_19 {E : jE} {G : jG} {I : jM} {q : Int → jM → Prop} {m : Nat} {x1 : Int} {x2 : Int} {x3 : Int} {x4 : Int} {x5 : Int} (hm : WX10 G m) (hT : (∀ a j, jRg (G.2.1 a).1 (I a j)) → jIn x1 → jIn x2 → jIn x3 → jIn x4 → jIn x5 → (((I (m + 1) 7) ≤ x5 → jOI E (jA m) kX10_isBelow 7 [VR m, VI x1, VI x2, VI x3, VI x4, VN] G I q) ∧ (¬ (I (m + 1) 7) ≤ x5 → ((0 : Int) ≤ ((426 + (2 * x5)) + 1) ∧ (((426 + (2 * x5)) + 1) : Int) < 22094) ∧ ((¬ (jand (jshr x3 (I (m + 1) ((426 + (2 * x5)) + 1))) 1) = 1 → jIn (x5 + 1) ∧ jOI E (jA m) kX10_isBelow 19 [VR m, VI x1, VI x2, VI x3, VI x4, VI (x5 + 1)] G I q) ∧ ((jand (jshr x3 (I (m + 1) ((426 + (2 * x5)) + 1))) 1) = 1 → ((0 : Int) ≤ (426 + (2 * x5)) ∧ ((426 + (2 * x5)) : Int) < 22094) ∧ jIn (x5 + 1) ∧ jOI E (jA m) kX10_isBelow 19 [VR m, VI x1, VI x2, VI (jor x3 (jshl 1 (I (m + 1) (426 + (2 * x5))))), VI x4, VI (x5 + 1)] G I q))))) : jOI E (jA m) kX10_isBelow 19 [VR m, VI x1, VI x2, VI x3, VI x4, VI x5] G I q := by
  intro I0 hF
  refine jOk_mem (fun hI => ?_)
  refine jOk_in (i := 1) rfl (fun hx1 => ?_)
  refine jOk_in (i := 2) rfl (fun hx2 => ?_)
  refine jOk_in (i := 3) rfl (fun hx3 => ?_)
  refine jOk_in (i := 4) rfl (fun hx4 => ?_)
  refine jOk_in (i := 5) rfl (fun hx5 => ?_)
  replace hT := hT hI hx1 hx2 hx3 hx4 hx5
  refine r_iload dX10_isBelow_19 (i := 5) rfl ?_
  refine r_aload_n dX10_isBelow_21 rfl (i := 0) rfl ?_
  refine rr_getR (b := (m + 1)) dX10_isBelow_22 fg_X10_7 rfl rfl (wX10_l hm) (wX10_s hm) (wX10_r0 hm) ?_
  refine r_bipush (n := 7) dX10_isBelow_25 (by decide +kernel) ?_
  refine rr_iaload (v := I (m + 1) 7) dX10_isBelow_27 (wX10_l0 hm) (wX10_a0 hm) (by decide) ⟨by decide, by decide⟩ rfl ?_
  refine r_icmp_ge (tgt := 78) dX10_isBelow_28 rfl hx5 (hI _ _).inR (fun hcc => ?_) (fun hcc => ?_)
  · replace hT := hT.1 hcc
    refine r_goto (tgt := 7) dX10_isBelow_78 rfl ?_
    exact jOk_le (ls' := [VR m, VI x1, VI x2, VI x3, VI x4, VN]) ⟨Or.inr rfl, Or.inr rfl, Or.inr rfl, Or.inr rfl, Or.inr rfl, Or.inl rfl, trivial⟩ (hT I0 hF)
  · replace hT := hT.2 hcc
    refine r_iload_n dX10_isBelow_31 rfl (i := 3) rfl ?_
    refine r_aload_n dX10_isBelow_32 rfl (i := 0) rfl ?_
    refine rr_getR (b := (m + 1)) dX10_isBelow_33 fg_X10_7 rfl rfl (wX10_l hm) (wX10_s hm) (wX10_r0 hm) ?_
    refine r_sipush (n := 426) dX10_isBelow_36 (by decide +kernel) ?_
    refine r_iconst (n := 2) dX10_isBelow_39 ?_
    refine r_iload dX10_isBelow_40 (i := 5) rfl ?_
    refine r_imul dX10_isBelow_42 ?_
    refine r_iadd dX10_isBelow_43 ?_
    refine r_iconst (n := 1) dX10_isBelow_44 ?_
    refine r_iadd dX10_isBelow_45 ?_
    obtain ⟨hc2, hT⟩ := hT
    refine rr_iaload (v := I (m + 1) ((426 + (2 * x5)) + 1)) dX10_isBelow_46 (wX10_l0 hm) (wX10_a0 hm) (by decide) hc2 rfl ?_
    refine r_ishr dX10_isBelow_47 ?_
    refine r_iconst (n := 1) dX10_isBelow_48 ?_
    refine r_iand dX10_isBelow_49 ?_
    refine r_iconst (n := 1) dX10_isBelow_50 ?_
    refine r_icmp_ne (tgt := 72) dX10_isBelow_51 rfl (j32_in _) ⟨by decide, by decide⟩ (fun hcc => ?_) (fun hcc => ?_)
    · replace hT := hT.1 hcc
      obtain ⟨hc3, hT⟩ := hT
      refine rr_iinc (i := 5) (ls' := [VR m, VI x1, VI x2, VI x3, VI x4, VI (x5 + 1)]) dX10_isBelow_72 rfl (Nat.le_of_ble_eq_true rfl) rfl rfl hc3 ?_
      refine r_goto (tgt := 19) dX10_isBelow_75 rfl ?_
      exact hT I0 hF
    · replace hT := hT.2 hcc
      refine r_iload_n dX10_isBelow_54 rfl (i := 3) rfl ?_
      refine r_iconst (n := 1) dX10_isBelow_55 ?_
      refine r_aload_n dX10_isBelow_56 rfl (i := 0) rfl ?_
      refine rr_getR (b := (m + 1)) dX10_isBelow_57 fg_X10_7 rfl rfl (wX10_l hm) (wX10_s hm) (wX10_r0 hm) ?_
      refine r_sipush (n := 426) dX10_isBelow_60 (by decide +kernel) ?_
      refine r_iconst (n := 2) dX10_isBelow_63 ?_
      refine r_iload dX10_isBelow_64 (i := 5) rfl ?_
      refine r_imul dX10_isBelow_66 ?_
      refine r_iadd dX10_isBelow_67 ?_
      obtain ⟨hc4, hT⟩ := hT
      refine rr_iaload (v := I (m + 1) (426 + (2 * x5))) dX10_isBelow_68 (wX10_l0 hm) (wX10_a0 hm) (by decide) hc4 rfl ?_
      refine r_ishl dX10_isBelow_69 ?_
      refine r_ior dX10_isBelow_70 ?_
      refine rr_istore_n (i := 3) (ls' := [VR m, VI x1, VI x2, VI (jor x3 (jshl 1 (I (m + 1) (426 + (2 * x5))))), VI x4, VI x5]) dX10_isBelow_71 rfl (Nat.le_of_ble_eq_true rfl) rfl rfl (j32_in _) ?_
      obtain ⟨hc5, hT⟩ := hT
      refine rr_iinc (i := 5) (ls' := [VR m, VI x1, VI x2, VI (jor x3 (jshl 1 (I (m + 1) (426 + (2 * x5))))), VI x4, VI (x5 + 1)]) dX10_isBelow_72 rfl (Nat.le_of_ble_eq_true rfl) rfl rfl hc5 ?_
      refine r_goto (tgt := 19) dX10_isBelow_75 rfl ?_
      exact hT I0 hF
set_option maxRecDepth 20000 in
theorem st_X10_isBelow_7 {E : jE} {G : jG} {I : jM} {q : Int → jM → Prop} {m : Nat} {x1 : Int} {x2 : Int} {x3 : Int} {x4 : Int} (hm : WX10 G m) (hT : (∀ a j, jRg (G.2.1 a).1 (I a j)) → jIn x1 → jIn x2 → jIn x3 → jIn x4 → ((x3 = x4 → ((¬ (jand (jshr x3 x2) 1) = 1 → q 0 I) ∧ ((jand (jshr x3 x2) 1) = 1 → q 1 I))) ∧ (¬ x3 = x4 → jOI E (jA m) kX10_isBelow 19 [VR m, VI x1, VI x2, VI x3, VI x3, VI 0] G I q))) : jOI E (jA m) kX10_isBelow 7 [VR m, VI x1, VI x2, VI x3, VI x4, VN] G I q := by
  intro I0 hF
  refine jOk_mem (fun hI => ?_)
  refine jOk_in (i := 1) rfl (fun hx1 => ?_)
  refine jOk_in (i := 2) rfl (fun hx2 => ?_)
  refine jOk_in (i := 3) rfl (fun hx3 => ?_)
  refine jOk_in (i := 4) rfl (fun hx4 => ?_)
  replace hT := hT hI hx1 hx2 hx3 hx4
  refine r_iload_n dX10_isBelow_7 rfl (i := 3) rfl ?_
  refine r_iload dX10_isBelow_8 (i := 4) rfl ?_
  refine r_icmp_eq (tgt := 81) dX10_isBelow_10 rfl hx3 hx4 (fun hcc => ?_) (fun hcc => ?_)
  · replace hT := hT.1 hcc
    refine r_iload_n dX10_isBelow_81 rfl (i := 3) rfl ?_
    refine r_iload_n dX10_isBelow_82 rfl (i := 2) rfl ?_
    refine r_ishr dX10_isBelow_83 ?_
    refine r_iconst (n := 1) dX10_isBelow_84 ?_
    refine r_iand dX10_isBelow_85 ?_
    refine r_iconst (n := 1) dX10_isBelow_86 ?_
    refine r_icmp_ne (tgt := 94) dX10_isBelow_87 rfl (j32_in _) ⟨by decide, by decide⟩ (fun hcc => ?_) (fun hcc => ?_)
    · replace hT := hT.1 hcc
      refine r_iconst (n := 0) dX10_isBelow_94 ?_
      exact r_zret dX10_isBelow_95 rfl ⟨by decide, by decide⟩ ⟨Nat.zero_le _, Nat.zero_le _⟩ ⟨_, rfl, rfl, hF, hT⟩
    · replace hT := hT.2 hcc
      refine r_iconst (n := 1) dX10_isBelow_90 ?_
      refine r_goto (tgt := 95) dX10_isBelow_91 rfl ?_
      exact r_zret dX10_isBelow_95 rfl ⟨by decide, by decide⟩ ⟨Nat.zero_le _, Nat.zero_le _⟩ ⟨_, rfl, rfl, hF, hT⟩
  · replace hT := hT.2 hcc
    refine r_iload_n dX10_isBelow_13 rfl (i := 3) rfl ?_
    refine rr_istore (i := 4) (ls' := [VR m, VI x1, VI x2, VI x3, VI x3, VN]) dX10_isBelow_14 (Nat.le_of_ble_eq_true rfl) rfl rfl hx3 ?_
    refine r_iconst (n := 0) dX10_isBelow_16 ?_
    refine rr_istore (i := 5) (ls' := [VR m, VI x1, VI x2, VI x3, VI x3, VI 0]) dX10_isBelow_17 (Nat.le_of_ble_eq_true rfl) rfl rfl ⟨by decide, by decide⟩ ?_
    exact hT I0 hF
set_option maxRecDepth 20000 in
theorem st_X10_isBelow_0 {E : jE} {G : jG} {I : jM} {q : Int → jM → Prop} {m : Nat} {x1 : Int} {x2 : Int} (hm : WX10 G m) (hT : (∀ a j, jRg (G.2.1 a).1 (I a j)) → jIn x1 → jIn x2 → jOI E (jA m) kX10_isBelow 7 [VR m, VI x1, VI x2, VI (jshl 1 x1), VI 0, VN] G I q) : jOI E (jA m) kX10_isBelow 0 [VR m, VI x1, VI x2, VN, VN, VN] G I q := by
  intro I0 hF
  refine jOk_mem (fun hI => ?_)
  refine jOk_in (i := 1) rfl (fun hx1 => ?_)
  refine jOk_in (i := 2) rfl (fun hx2 => ?_)
  replace hT := hT hI hx1 hx2
  refine r_iconst (n := 1) dX10_isBelow_0 ?_
  refine r_iload_n dX10_isBelow_1 rfl (i := 1) rfl ?_
  refine r_ishl dX10_isBelow_2 ?_
  refine rr_istore_n (i := 3) (ls' := [VR m, VI x1, VI x2, VI (jshl 1 x1), VN, VN]) dX10_isBelow_3 rfl (Nat.le_of_ble_eq_true rfl) rfl rfl (j32_in _) ?_
  refine r_iconst (n := 0) dX10_isBelow_4 ?_
  refine rr_istore (i := 4) (ls' := [VR m, VI x1, VI x2, VI (jshl 1 x1), VI 0, VN]) dX10_isBelow_5 (Nat.le_of_ble_eq_true rfl) rfl rfl ⟨by decide, by decide⟩ ?_
  exact hT I0 hF
theorem en_X10_isBelow {E : jE} {G : jG} {I : jM} {q : Int → jM → Prop} {m : Nat} {x1 : Int} {x2 : Int} (hm : WX10 G m) (hT : (∀ a j, jRg (G.2.1 a).1 (I a j)) → jIn x1 → jIn x2 → jOI E (jA m) kX10_isBelow 7 [VR m, VI x1, VI x2, VI (jshl 1 x1), VI 0, VN] G I q) : jRI E (jA m) kX10_isBelow [VR m, VI x1, VI x2] G I q := jRun.of mt_X10_isBelow.2.2.2 3 rfl (fun _ => st_X10_isBelow_0 hm hT I (fun _ _ => rfl))
set_option maxRecDepth 20000 in
theorem st_X10_yields_0 {E : jE} {G : jG} {I : jM} {q : Int → jM → Prop} {m : Nat} {x1 : Int} {x2 : Int} (hm : WX10 G m) (hT : (∀ a j, jRg (G.2.1 a).1 (I a j)) → jIn x1 → jIn x2 → (0 ≤ I (m + 1) 4 ∧ I (m + 1) 4 ≤ 6) ∧ ((¬ (0 ≤ x1 ∧ x1 < I (m + 1) 4) → q 0 I) ∧ ((0 ≤ x1 ∧ x1 < I (m + 1) 4) → (0 ≤ I (m + 1) 4 ∧ I (m + 1) 4 ≤ 6) ∧ ((¬ (0 ≤ x2 ∧ x2 < I (m + 1) 4) → q 0 I) ∧ ((0 ≤ x2 ∧ x2 < I (m + 1) 4) → (((I (m + 1) 7) = 8 → q 0 I) ∧ (¬ (I (m + 1) 7) = 8 → jRI E (jA m) kX10_yieldsTo [VR m, VI x2, VI x1] G I (fun r7 I6 => ((¬ r7 = 0 → q 0 I6) ∧ (r7 = 0 → jRI E (jA m) kX10_isBelow [VR m, VI x1, VI x2] G I6 (fun r10 I9 => ((r10 = 0 → jRV E (jA m) kX10_keep [VR m] G I9 (fun I12 => ((0 : Int) ≤ (426 + (2 * (I12 (m + 1) 7))) ∧ ((426 + (2 * (I12 (m + 1) 7))) : Int) < 22094) ∧ (∀ M15, M15 = jup I12 (m + 1) (426 + (2 * (I12 (m + 1) 7))) x1 → ((0 : Int) ≤ ((426 + (2 * (M15 (m + 1) 7))) + 1) ∧ (((426 + (2 * (M15 (m + 1) 7))) + 1) : Int) < 22094) ∧ (∀ M18, M18 = jup M15 (m + 1) ((426 + (2 * (M15 (m + 1) 7))) + 1) x2 → jIn ((M18 (m + 1) 7) + 1) ∧ (∀ M22, M22 = jup M18 (m + 1) 7 ((M18 (m + 1) 7) + 1) → q 1 M22))))) ∧ (¬ r10 = 0 → q 0 I9))))))))))))) : jOI E (jA m) kX10_yields 0 [VR m, VI x1, VI x2] G I q := by
  intro I0 hF
  refine jOk_mem (fun hI => ?_)
  refine jOk_in (i := 1) rfl (fun hx1 => ?_)
  refine jOk_in (i := 2) rfl (fun hx2 => ?_)
  replace hT := hT hI hx1 hx2
  refine r_aload_n dX10_yields_0 rfl (i := 0) rfl ?_
  refine r_iload_n dX10_yields_1 rfl (i := 1) rfl ?_
  obtain ⟨hc2, hT⟩ := hT
  refine rr_pVI (A := (jA m)) (v := jI (0 ≤ x1 ∧ x1 < I (m + 1) 4)) (a := m) (as := [VI x1]) (st := []) dX10_yields_2 mt_X10_isRule ml_X10_317 mi_X10_isRule rm_X10_yields_X10_isRule jz_X10_isRule ⟨Nat.zero_le _, Nat.zero_le _⟩ (Nat.le_of_ble_eq_true rfl) (wX10_l hm) (wX10_c hm) (jasI hx1 jas0) ((sp_X10_isRule hm) hc2) (fun hc1 => ?_)
  refine r_if_eq (tgt := 46) dX10_yields_5 rfl hc1 (fun hcc => ?_) (fun hcc => ?_)
  · replace hT := hT.1 (jI_n hcc)
    refine r_iconst (n := 0) dX10_yields_46 ?_
    exact r_zret dX10_yields_47 rfl ⟨by decide, by decide⟩ ⟨Nat.zero_le _, Nat.zero_le _⟩ ⟨_, rfl, rfl, hF, hT⟩
  · replace hT := hT.2 (jI_p hcc)
    refine r_aload_n dX10_yields_8 rfl (i := 0) rfl ?_
    refine r_iload_n dX10_yields_9 rfl (i := 2) rfl ?_
    obtain ⟨hc4, hT⟩ := hT
    refine rr_pVI (A := (jA m)) (v := jI (0 ≤ x2 ∧ x2 < I (m + 1) 4)) (a := m) (as := [VI x2]) (st := []) dX10_yields_10 mt_X10_isRule ml_X10_317 mi_X10_isRule rm_X10_yields_X10_isRule jz_X10_isRule ⟨Nat.zero_le _, Nat.zero_le _⟩ (Nat.le_of_ble_eq_true rfl) (wX10_l hm) (wX10_c hm) (jasI hx2 jas0) ((sp_X10_isRule hm) hc4) (fun hc3 => ?_)
    refine r_if_eq (tgt := 46) dX10_yields_13 rfl hc3 (fun hcc => ?_) (fun hcc => ?_)
    · replace hT := hT.1 (jI_n hcc)
      refine r_iconst (n := 0) dX10_yields_46 ?_
      exact r_zret dX10_yields_47 rfl ⟨by decide, by decide⟩ ⟨Nat.zero_le _, Nat.zero_le _⟩ ⟨_, rfl, rfl, hF, hT⟩
    · replace hT := hT.2 (jI_p hcc)
      refine r_aload_n dX10_yields_16 rfl (i := 0) rfl ?_
      refine rr_getR (b := (m + 1)) dX10_yields_17 fg_X10_7 rfl rfl (wX10_l hm) (wX10_s hm) (wX10_r0 hm) ?_
      refine r_bipush (n := 7) dX10_yields_20 (by decide +kernel) ?_
      refine rr_iaload (v := I (m + 1) 7) dX10_yields_22 (wX10_l0 hm) (wX10_a0 hm) (by decide) ⟨by decide, by decide⟩ rfl ?_
      refine r_bipush (n := 8) dX10_yields_23 (by decide +kernel) ?_
      refine r_icmp_eq (tgt := 46) dX10_yields_25 rfl (hI _ _).inR ⟨by decide, by decide⟩ (fun hcc => ?_) (fun hcc => ?_)
      · replace hT := hT.1 hcc
        refine r_iconst (n := 0) dX10_yields_46 ?_
        exact r_zret dX10_yields_47 rfl ⟨by decide, by decide⟩ ⟨Nat.zero_le _, Nat.zero_le _⟩ ⟨_, rfl, rfl, hF, hT⟩
      · replace hT := hT.2 hcc
        refine r_aload_n dX10_yields_28 rfl (i := 0) rfl ?_
        refine r_iload_n dX10_yields_29 rfl (i := 2) rfl ?_
        refine r_iload_n dX10_yields_30 rfl (i := 1) rfl ?_
        refine rr_cVI (a := m) (as := [VI x2, VI x1]) (st := []) dX10_yields_31 mt_X10_yieldsTo ml_X10_181 mi_X10_yieldsTo rm_X10_yields_X10_yieldsTo jz_X10_yieldsTo ⟨Nat.zero_le _, Nat.zero_le _⟩ (Nat.le_of_ble_eq_true rfl) (wX10_l hm) (wX10_c hm) (jasI hx2 (jasI hx1 jas0)) hT (fun r7 I6 hc8 hFI6 hT => ?_)
        replace hFI6 := jFr_tr hF hFI6
        refine jOk_mem (fun hI6 => ?_)
        refine r_if_ne (tgt := 46) dX10_yields_34 rfl hc8 (fun hcc => ?_) (fun hcc => ?_)
        · replace hT := hT.1 hcc
          refine r_iconst (n := 0) dX10_yields_46 ?_
          exact r_zret dX10_yields_47 rfl ⟨by decide, by decide⟩ ⟨Nat.zero_le _, Nat.zero_le _⟩ ⟨_, rfl, rfl, hFI6, hT⟩
        · replace hT := hT.2 hcc
          refine r_aload_n dX10_yields_37 rfl (i := 0) rfl ?_
          refine r_iload_n dX10_yields_38 rfl (i := 1) rfl ?_
          refine r_iload_n dX10_yields_39 rfl (i := 2) rfl ?_
          refine rr_cVI (a := m) (as := [VI x1, VI x2]) (st := []) dX10_yields_40 mt_X10_isBelow ml_X10_326 mi_X10_isBelow rm_X10_yields_X10_isBelow jz_X10_isBelow ⟨Nat.zero_le _, Nat.zero_le _⟩ (Nat.le_of_ble_eq_true rfl) (wX10_l hm) (wX10_c hm) (jasI hx1 (jasI hx2 jas0)) hT (fun r10 I9 hc11 hFI9 hT => ?_)
          replace hFI9 := jFr_tr hFI6 hFI9
          refine jOk_mem (fun hI9 => ?_)
          refine r_if_eq (tgt := 48) dX10_yields_43 rfl hc11 (fun hcc => ?_) (fun hcc => ?_)
          · replace hT := hT.1 hcc
            refine r_aload_n dX10_yields_48 rfl (i := 0) rfl ?_
            refine rr_cVV (a := m) (as := []) (st := []) dX10_yields_49 mt_X10_keep ml_X10_250 mi_X10_keep rm_X10_yields_X10_keep jz_X10_keep ⟨Nat.zero_le _, Nat.zero_le _⟩ (Nat.le_of_ble_eq_true rfl) (wX10_l hm) (wX10_c hm) jas0 hT (fun I12 hFI12 hT => ?_)
            replace hFI12 := jFr_tr hFI9 hFI12
            refine jOk_mem (fun hI12 => ?_)
            refine r_aload_n dX10_yields_52 rfl (i := 0) rfl ?_
            refine rr_getR (b := (m + 1)) dX10_yields_53 fg_X10_7 rfl rfl (wX10_l hm) (wX10_s hm) (wX10_r0 hm) ?_
            refine r_sipush (n := 426) dX10_yields_56 (by decide +kernel) ?_
            refine r_iconst (n := 2) dX10_yields_59 ?_
            refine r_aload_n dX10_yields_60 rfl (i := 0) rfl ?_
            refine rr_getR (b := (m + 1)) dX10_yields_61 fg_X10_7 rfl rfl (wX10_l hm) (wX10_s hm) (wX10_r0 hm) ?_
            refine r_bipush (n := 7) dX10_yields_64 (by decide +kernel) ?_
            refine rr_iaload (v := I12 (m + 1) 7) dX10_yields_66 (wX10_l0 hm) (wX10_a0 hm) (by decide) ⟨by decide, by decide⟩ rfl ?_
            refine r_imul dX10_yields_67 ?_
            refine r_iadd dX10_yields_68 ?_
            refine r_iload_n dX10_yields_69 rfl (i := 1) rfl ?_
            obtain ⟨hc14, hT⟩ := hT
            refine rr_iastore dX10_yields_70 (wX10_l0 hm) (wX10_a0 hm) (by decide) hc14 hx1 (fun M15 eM15 => ?_)
            have hFM15 := jFr_up hFI12 eM15 (wX10_f hm 1 (by decide))
            replace hT := hT M15 eM15
            refine jOk_mem (fun hIM15 => ?_)
            refine r_aload_n dX10_yields_71 rfl (i := 0) rfl ?_
            refine rr_getR (b := (m + 1)) dX10_yields_72 fg_X10_7 rfl rfl (wX10_l hm) (wX10_s hm) (wX10_r0 hm) ?_
            refine r_sipush (n := 426) dX10_yields_75 (by decide +kernel) ?_
            refine r_iconst (n := 2) dX10_yields_78 ?_
            refine r_aload_n dX10_yields_79 rfl (i := 0) rfl ?_
            refine rr_getR (b := (m + 1)) dX10_yields_80 fg_X10_7 rfl rfl (wX10_l hm) (wX10_s hm) (wX10_r0 hm) ?_
            refine r_bipush (n := 7) dX10_yields_83 (by decide +kernel) ?_
            refine rr_iaload (v := M15 (m + 1) 7) dX10_yields_85 (wX10_l0 hm) (wX10_a0 hm) (by decide) ⟨by decide, by decide⟩ rfl ?_
            refine r_imul dX10_yields_86 ?_
            refine r_iadd dX10_yields_87 ?_
            refine r_iconst (n := 1) dX10_yields_88 ?_
            refine r_iadd dX10_yields_89 ?_
            refine r_iload_n dX10_yields_90 rfl (i := 2) rfl ?_
            obtain ⟨hc17, hT⟩ := hT
            refine rr_iastore dX10_yields_91 (wX10_l0 hm) (wX10_a0 hm) (by decide) hc17 hx2 (fun M18 eM18 => ?_)
            have hFM18 := jFr_up hFM15 eM18 (wX10_f hm 1 (by decide))
            replace hT := hT M18 eM18
            refine jOk_mem (fun hIM18 => ?_)
            refine r_aload_n dX10_yields_92 rfl (i := 0) rfl ?_
            refine rr_getR (b := (m + 1)) dX10_yields_93 fg_X10_7 rfl rfl (wX10_l hm) (wX10_s hm) (wX10_r0 hm) ?_
            refine r_bipush (n := 7) dX10_yields_96 (by decide +kernel) ?_
            refine r_dup2 dX10_yields_98 rfl rfl ?_
            refine rr_iaload (v := M18 (m + 1) 7) dX10_yields_99 (wX10_l0 hm) (wX10_a0 hm) (by decide) ⟨by decide, by decide⟩ rfl ?_
            refine r_iconst (n := 1) dX10_yields_100 ?_
            refine r_iadd dX10_yields_101 ?_
            obtain ⟨hc21, hT⟩ := hT
            refine rr_iastore dX10_yields_102 (wX10_l0 hm) (wX10_a0 hm) (by decide) ⟨by decide, by decide⟩ hc21 (fun M22 eM22 => ?_)
            have hFM22 := jFr_up hFM18 eM22 (wX10_f hm 1 (by decide))
            replace hT := hT M22 eM22
            refine jOk_mem (fun hIM22 => ?_)
            refine r_iconst (n := 1) dX10_yields_103 ?_
            exact r_zret dX10_yields_104 rfl ⟨by decide, by decide⟩ ⟨Nat.zero_le _, Nat.zero_le _⟩ ⟨_, rfl, rfl, hFM22, hT⟩
          · replace hT := hT.2 hcc
            refine r_iconst (n := 0) dX10_yields_46 ?_
            exact r_zret dX10_yields_47 rfl ⟨by decide, by decide⟩ ⟨Nat.zero_le _, Nat.zero_le _⟩ ⟨_, rfl, rfl, hFI9, hT⟩
theorem en_X10_yields {E : jE} {G : jG} {I : jM} {q : Int → jM → Prop} {m : Nat} {x1 : Int} {x2 : Int} (hm : WX10 G m) (hT : (∀ a j, jRg (G.2.1 a).1 (I a j)) → jIn x1 → jIn x2 → (0 ≤ I (m + 1) 4 ∧ I (m + 1) 4 ≤ 6) ∧ ((¬ (0 ≤ x1 ∧ x1 < I (m + 1) 4) → q 0 I) ∧ ((0 ≤ x1 ∧ x1 < I (m + 1) 4) → (0 ≤ I (m + 1) 4 ∧ I (m + 1) 4 ≤ 6) ∧ ((¬ (0 ≤ x2 ∧ x2 < I (m + 1) 4) → q 0 I) ∧ ((0 ≤ x2 ∧ x2 < I (m + 1) 4) → (((I (m + 1) 7) = 8 → q 0 I) ∧ (¬ (I (m + 1) 7) = 8 → jRI E (jA m) kX10_yieldsTo [VR m, VI x2, VI x1] G I (fun r7 I6 => ((¬ r7 = 0 → q 0 I6) ∧ (r7 = 0 → jRI E (jA m) kX10_isBelow [VR m, VI x1, VI x2] G I6 (fun r10 I9 => ((r10 = 0 → jRV E (jA m) kX10_keep [VR m] G I9 (fun I12 => ((0 : Int) ≤ (426 + (2 * (I12 (m + 1) 7))) ∧ ((426 + (2 * (I12 (m + 1) 7))) : Int) < 22094) ∧ (∀ M15, M15 = jup I12 (m + 1) (426 + (2 * (I12 (m + 1) 7))) x1 → ((0 : Int) ≤ ((426 + (2 * (M15 (m + 1) 7))) + 1) ∧ (((426 + (2 * (M15 (m + 1) 7))) + 1) : Int) < 22094) ∧ (∀ M18, M18 = jup M15 (m + 1) ((426 + (2 * (M15 (m + 1) 7))) + 1) x2 → jIn ((M18 (m + 1) 7) + 1) ∧ (∀ M22, M22 = jup M18 (m + 1) 7 ((M18 (m + 1) 7) + 1) → q 1 M22))))) ∧ (¬ r10 = 0 → q 0 I9))))))))))))) : jRI E (jA m) kX10_yields [VR m, VI x1, VI x2] G I q := jRun.of mt_X10_yields.2.2.2 0 rfl (fun _ => st_X10_yields_0 hm hT I (fun _ _ => rfl))
section RT
variable {E : jE} {G : jG} {m : Nat} {I : jM} {B B' : Int → Int} {H H' : List (Int → Int)} {T : List Int} {fk fp c : Int}
theorem ref_isBelow (hm : WX10 G m) (h : RR m I B H B' H' T fk fp) (hW : BW c B) {r o : Int} (hr : 0 ≤ r ∧ r < B 4) (ho : 0 ≤ o ∧ o < B 4) : jRI E (jA m) kX10_isBelow [VR m, VI r, VI o] G I (fun x I' => x = jI (reach B r o) ∧ I' = I) := by
  have h4 := hW.1.2.1.2.1
  have h7 := hW.1.2.2.2.2
  have hy := hW.2.2.2.2.2.1
  have e7 : I (m + 1) 7 = B 7 := h.at (by omega)
  -- all that has been reached is right
  have done : ∀ s, 0 ≤ s ∧ s < 64 → bit s r → (∀ i, 0 ≤ i → i < 6 → bit s i → reach B r i) → (∀ k, 0 ≤ k → k < B 7 → bit s (B (426 + 2 * k + 1)) → bit s (B (426 + 2 * k))) → jOI E (jA m) kX10_isBelow 7 [VR m, VI r, VI o, VI s, VI s, VN] G I (fun x I' => x = jI (reach B r o) ∧ I' = I) := by
    intro s hs hsr hsound hcl
    refine st_X10_isBelow_7 hm (fun _ _ _ _ _ => ⟨fun _ => ⟨fun q => ⟨(jI_neg (fun g => q (g (fun i => bit s i) hsr hcl))).symm, rfl⟩, fun q => ⟨(jI_pos (hsound o ho.1 (by omega) q)).symm, rfl⟩⟩, fun q => absurd rfl q⟩)
  have inner : ∀ (q : Int → jM → Prop) (w : Int), 0 ≤ w ∧ w < 64 → bit w r → (∀ s, w ≤ s → s < 64 → bit s r → (∀ i, 0 ≤ i → i < 6 → bit s i → reach B r i) → (s = w → ∀ k, 0 ≤ k → k < B 7 → bit w (B (426 + 2 * k + 1)) → bit w (B (426 + 2 * k))) → jOI E (jA m) kX10_isBelow 7 [VR m, VI r, VI o, VI s, VI w, VN] G I q) → ∀ (d : Nat) (k s : Int), 0 ≤ k → k + d = B 7 → w ≤ s → s < 64 → bit s r → (∀ i, 0 ≤ i → i < 6 → bit s i → reach B r i) → (s = w → ∀ k', 0 ≤ k' → k' < k → bit w (B (426 + 2 * k' + 1)) → bit w (B (426 + 2 * k'))) → jOI E (jA m) kX10_isBelow 19 [VR m, VI r, VI o, VI s, VI w, VI k] G I q := by
    intro q w hw hwr hq d
    induction d with
    | zero =>
      intro k s k0 k1 hs hs6 hsr hsound hcl
      refine st_X10_isBelow_19 hm (fun _ _ _ _ _ _ => ⟨fun _ => hq s hs hs6 hsr hsound (fun e k' a c => hcl e k' a (by omega)), fun q => by rw [e7] at q; omega⟩)
    | succ d ih =>
      intro k s k0 k1 hs hs6 hsr hsound hcl
      have ea : I (m + 1) (426 + 2 * k + 1) = B (426 + 2 * k + 1) := h.at (by omega)
      have eb : I (m + 1) (426 + 2 * k) = B (426 + 2 * k) := h.at (by omega)
      have hyk := hy k k0 (by omega)
      refine st_X10_isBelow_19 hm (fun _ _ _ _ _ _ => ⟨fun q => by rw [e7] at q; omega, fun _ => ⟨⟨by omega, by omega⟩, ?_⟩⟩)
      rw [ea, eb]
      have ob := or_bd (x := s) (r := B (426 + 2 * k)) ⟨by omega, hs6⟩ ⟨hyk.1.1, by omega⟩
      refine ⟨fun q1 => ⟨⟨by omega, by omega⟩, ih (k + 1) s (by omega) (by omega) hs hs6 hsr hsound (fun e k' a0 a1 g => ?_)⟩, fun q1 => ⟨⟨by omega, by omega⟩, ⟨by omega, by omega⟩, ih (k + 1) _ (by omega) (by omega) (by omega) ob.2.1 ?_ (fun i i0 i1 g => ?_) (fun e k' a0 a1 g => ?_)⟩⟩
      · by_cases ek : k' = k
        · subst ek
          rw [← e] at g
          exact absurd g q1
        · exact hcl e k' a0 (by omega) g
      · exact (bit_or ⟨by omega, hs6⟩ ⟨hyk.1.1, by omega⟩ ⟨hr.1, by omega⟩).mpr (Or.inl hsr)
      · rcases (bit_or ⟨by omega, hs6⟩ ⟨hyk.1.1, by omega⟩ ⟨i0, i1⟩).mp g with g | g
        · exact hsound i i0 i1 g
        · rw [g]
          have g1 := hsound _ hyk.2.1 (by omega) q1
          exact fun P p1 p2 => p2 k k0 (by omega) (g1 P p1 p2)
      · have es : s = w := by omega
        by_cases ek : k' = k
        · subst ek
          have := ob.2.2 (by omega)
          rw [es] at this
          exact this
        · exact hcl es k' a0 (by omega) g
  have outer : ∀ (d : Nat) (s w : Int), 0 ≤ s ∧ s < 64 → 63 - s ≤ d → bit s r → (∀ i, 0 ≤ i → i < 6 → bit s i → reach B r i) → s ≠ w → jOI E (jA m) kX10_isBelow 7 [VR m, VI r, VI o, VI s, VI w, VN] G I (fun x I' => x = jI (reach B r o) ∧ I' = I) := by
    intro d
    induction d with
    | zero =>
      intro s w hs hd hsr hsound hne
      refine st_X10_isBelow_7 hm (fun _ _ _ _ _ => ⟨fun q => absurd q hne, fun _ => ?_⟩)
      refine inner _ s hs hsr (fun s' a1 a2 a3 a4 a5 => ?_) (B 7).toNat 0 s (by omega) (by omega) (Int.le_refl _) hs.2 hsr hsound (fun _ k' a0 a1 => by omega)
      have e : s' = s := by omega
      rw [e]
      exact done s hs hsr hsound (a5 e)
    | succ d ih =>
      intro s w hs hd hsr hsound hne
      refine st_X10_isBelow_7 hm (fun _ _ _ _ _ => ⟨fun q => absurd q hne, fun _ => ?_⟩)
      refine inner _ s hs hsr (fun s' a1 a2 a3 a4 a5 => ?_) (B 7).toNat 0 s (by omega) (by omega) (Int.le_refl _) hs.2 hsr hsound (fun _ k' a0 a1 => by omega)
      by_cases e : s' = s
      · rw [e]
        exact done s hs hsr hsound (a5 e)
      · exact ih s' s ⟨by omega, a2⟩ (by omega) a3 a4 e
  have hr6 : 0 ≤ r ∧ r < 6 := ⟨hr.1, by omega⟩
  have b1 := bit1_bd hr6
  refine en_X10_isBelow hm (fun _ _ _ => outer 63 (jshl 1 r) 0 ⟨by omega, b1.2⟩ (by omega) ((bit1 hr6 hr6).mpr rfl) (fun i i0 i1 g => ?_) (by omega))
  have := (bit1 hr6 ⟨i0, i1⟩).mp g
  rw [this]
  exact fun P p1 _ => p1
theorem ref_yields (hm : WX10 G m) (h : RR m I B H B' H' T fk fp) (hW : BW c B) {r o : Int} : jRI E (jA m) kX10_yields [VR m, VI r, VI o] G I (fun x I' => (¬ ((0 ≤ r ∧ r < B 4) ∧ (0 ≤ o ∧ o < B 4) ∧ B 7 < 8 ∧ ¬ yto B o r ∧ ¬ reach B r o) → x = 0 ∧ RR m I' B H B' H' T fk fp) ∧ ((0 ≤ r ∧ r < B 4) ∧ (0 ≤ o ∧ o < B 4) ∧ B 7 < 8 ∧ ¬ yto B o r ∧ ¬ reach B r o → x = 1 ∧ RR m I' (up (up (up B (426 + 2 * B 7) r) (426 + 2 * B 7 + 1) o) 7 (B 7 + 1)) (pushH H B) B' H' T fk fp)) := by
  have e4 : I (m + 1) 4 = B 4 := h.at (by omega)
  have e7 : I (m + 1) 7 = B 7 := h.at (by omega)
  have h4 := hW.1.2.1
  have h7 := hW.1.2.2.2.2
  have ey : yto (I (m + 1)) o r ↔ yto B o r := ⟨yto_congr h.1.eqS (by rw [e7]; exact h7), yto_congr h.1.eqS.symm h7⟩
  refine en_X10_yields hm (fun _ _ _ => ?_)
  rw [e4, e7]
  refine ⟨⟨h4.1, h4.2.1⟩, fun q => ⟨fun _ => ⟨rfl, h⟩, fun g => absurd g.1 q⟩, fun q => ⟨⟨h4.1, h4.2.1⟩, fun q1 => ⟨fun _ => ⟨rfl, h⟩, fun g => absurd g.2.1 q1⟩, fun q1 => ⟨fun q2 => ⟨fun _ => ⟨rfl, h⟩, fun g => by omega⟩, fun q2 => ?_⟩⟩⟩
  refine (sp_X10_yieldsTo hm (by rw [e7]; exact h7)).mono (fun x I6 _ _ hx => ?_)
  obtain ⟨rfl, rfl⟩ := hx
  refine ⟨fun q3 => ⟨fun _ => ⟨rfl, h⟩, fun g => absurd (ey.mp (jI_p q3)) g.2.2.2.1⟩, fun q3 => ?_⟩
  refine (ref_isBelow hm h hW q q1).mono (fun x I9 _ _ hx => ?_)
  obtain ⟨rfl, rfl⟩ := hx
  refine ⟨fun q4 => (sp_keepR hm h).mono (fun I12 _ g => ?_), fun q4 => ⟨fun _ => ⟨rfl, h⟩, fun g => absurd (jI_p q4) g.2.2.2.2⟩⟩
  have k7 : I12 (m + 1) 7 = B 7 := g.1.at (by omega)
  rw [k7]
  refine ⟨⟨by omega, by omega⟩, fun M15 e15 => ?_⟩
  have k15 : M15 (m + 1) 7 = B 7 := by rw [jr_nj e15 (by omega)]; exact k7
  rw [k15]
  refine ⟨⟨by omega, by omega⟩, fun M18 e18 => ?_⟩
  have k18 : M18 (m + 1) 7 = B 7 := by rw [jr_nj e18 (by omega)]; exact k15
  rw [k18]
  refine ⟨⟨by omega, by omega⟩, fun M22 e22 => ⟨fun g' => absurd ⟨q, q1, by omega, fun g => jI_n q3 (ey.mpr g), jI_n q4⟩ g', fun _ => ⟨rfl, ((g.1.set e15 (by omega)).set e18 (by omega)).set e22 (by omega)⟩⟩⟩
end RT
