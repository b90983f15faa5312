theorem firstInt {P : Int → Prop} {e : Int} (h : ∃ e', 0 ≤ e' ∧ e' < e ∧ P e') : ∃ e0, 0 ≤ e0 ∧ e0 < e ∧ P e0 ∧ ∀ e', 0 ≤ e' → e' < e0 → ¬ P e' := by
  obtain ⟨e', h0, h1, h2⟩ := h
  have key : ∀ (d : Nat) (x : Int), 0 ≤ x → x < d → x < e → P x → ∃ e0, 0 ≤ e0 ∧ e0 < e ∧ P e0 ∧ ∀ e', 0 ≤ e' → e' < e0 → ¬ P e' := by
    intro d
    induction d with
    | zero => intro x x0 x1; omega
    | succ d ih =>
      intro x x0 x1 x2 hx
      by_cases g : ∃ y, 0 ≤ y ∧ y < x ∧ P y
      · obtain ⟨y, y0, y1, hy⟩ := g
        exact ih y y0 (by omega) (by omega) hy
      · exact ⟨x, x0, x2, hx, fun e' g0 g1 g2 => g ⟨e', g0, g1, g2⟩⟩
  exact key (e' + 1).toNat e' h0 (by omega) h1 h2
/-- the names' row, e elements of rule r having been held against the tokens from t on -/
def Bd (S : Int → Int) (r t e : Int) (m : Nat) (I : jM) : Prop := ∀ k, 0 ≤ k → k < 12 → ((∀ e', 0 ≤ e' → e' < e → key S r e' ≠ k) → I (m + 5) k = -1) ∧ ∀ e0, 0 ≤ e0 → e0 < e → key S r e0 = k → (∀ e', 0 ≤ e' → e' < e0 → key S r e' ≠ k) → I (m + 5) k = t + e0
set_option maxRecDepth 20000 in
theorem st_X10_binds_0 {E : jE} {G : jG} {I : jM} {q : Int → jM → Prop} {m : Nat} {x1 : Int} {x2 : Int} {x3 : Int} (hm : WX10 G m) (hT : (∀ a j, jRg (G.2.1 a).1 (I a j)) → jIn x1 → jIn x2 → jIn x3 → jIn ((4 * x1) + x2) ∧ ((0 : Int) ≤ ((4 * x1) + x2) ∧ (((4 * x1) + x2) : Int) < 12) ∧ (((I (m + 5) ((4 * x1) + x2)) = (-1) → ((0 : Int) ≤ ((4 * x1) + x2) ∧ (((4 * x1) + x2) : Int) < 12) ∧ (∀ M4, M4 = jup I (m + 5) ((4 * x1) + x2) x3 → q 1 M4)) ∧ (¬ (I (m + 5) ((4 * x1) + x2)) = (-1) → ((0 : Int) ≤ ((4 * x1) + x2) ∧ (((4 * x1) + x2) : Int) < 12) ∧ jRI E (jA m) kX10_areLike [VR m, VI (I (m + 5) ((4 * x1) + x2)), VI x3] G I (fun r7 I6 => (0 ≤ r7 ∧ r7 ≤ 1) ∧ q r7 I6)))) : jOI E (jA m) kX10_binds 0 [VR m, VI x1, VI x2, VI x3, VN] G I q := by
  intro I0 hF
  refine jOk_mem (fun hI => ?_)
  refine jOk_in (i := 1) rfl (fun hx1 => ?_)
  refine jOk_in (i := 2) rfl (fun hx2 => ?_)
  refine jOk_in (i := 3) rfl (fun hx3 => ?_)
  replace hT := hT hI hx1 hx2 hx3
  refine r_iconst (n := 4) dX10_binds_0 ?_
  refine r_iload_n dX10_binds_1 rfl (i := 1) rfl ?_
  refine r_imul dX10_binds_2 ?_
  refine r_iload_n dX10_binds_3 rfl (i := 2) rfl ?_
  refine r_iadd dX10_binds_4 ?_
  obtain ⟨hc1, hT⟩ := hT
  refine rr_istore (i := 4) (ls' := [VR m, VI x1, VI x2, VI x3, VI ((4 * x1) + x2)]) dX10_binds_5 (Nat.le_of_ble_eq_true rfl) rfl rfl hc1 ?_
  refine r_aload_n dX10_binds_7 rfl (i := 0) rfl ?_
  refine rr_getR (b := (m + 5)) dX10_binds_8 fg_X10_22 rfl rfl (wX10_l hm) (wX10_s hm) (wX10_r5 hm) ?_
  refine r_iload dX10_binds_11 (i := 4) rfl ?_
  obtain ⟨hc2, hT⟩ := hT
  refine rr_iaload (v := I (m + 5) ((4 * x1) + x2)) dX10_binds_13 (wX10_l5 hm) (wX10_a5 hm) (by decide) hc2 rfl ?_
  refine r_iconst (n := (-1)) dX10_binds_14 ?_
  refine r_icmp_eq (tgt := 31) dX10_binds_15 rfl (hI _ _).inR ⟨by decide, by decide⟩ (fun hcc => ?_) (fun hcc => ?_)
  · replace hT := hT.1 hcc
    refine r_aload_n dX10_binds_31 rfl (i := 0) rfl ?_
    refine rr_getR (b := (m + 5)) dX10_binds_32 fg_X10_22 rfl rfl (wX10_l hm) (wX10_s hm) (wX10_r5 hm) ?_
    refine r_iload dX10_binds_35 (i := 4) rfl ?_
    refine r_iload_n dX10_binds_37 rfl (i := 3) rfl ?_
    obtain ⟨hc3, hT⟩ := hT
    refine rr_iastore dX10_binds_38 (wX10_l5 hm) (wX10_a5 hm) (by decide) hc3 hx3 (fun M4 eM4 => ?_)
    have hFM4 := jFr_up hF eM4 (wX10_f hm 5 (by decide))
    replace hT := hT M4 eM4
    refine jOk_mem (fun hIM4 => ?_)
    refine r_iconst (n := 1) dX10_binds_39 ?_
    exact r_zret dX10_binds_40 rfl ⟨by decide, by decide⟩ ⟨Nat.zero_le _, Nat.zero_le _⟩ ⟨_, rfl, rfl, hFM4, hT⟩
  · replace hT := hT.2 hcc
    refine r_aload_n dX10_binds_18 rfl (i := 0) rfl ?_
    refine r_aload_n dX10_binds_19 rfl (i := 0) rfl ?_
    refine rr_getR (b := (m + 5)) dX10_binds_20 fg_X10_22 rfl rfl (wX10_l hm) (wX10_s hm) (wX10_r5 hm) ?_
    refine r_iload dX10_binds_23 (i := 4) rfl ?_
    obtain ⟨hc5, hT⟩ := hT
    refine rr_iaload (v := I (m + 5) ((4 * x1) + x2)) dX10_binds_25 (wX10_l5 hm) (wX10_a5 hm) (by decide) hc5 rfl ?_
    refine r_iload_n dX10_binds_26 rfl (i := 3) rfl ?_
    refine rr_cVI (a := m) (as := [VI (I (m + 5) ((4 * x1) + x2)), VI x3]) (st := []) dX10_binds_27 mt_X10_areLike ml_X10_135 mi_X10_areLike rm_X10_binds_X10_areLike jz_X10_areLike ⟨Nat.zero_le _, Nat.zero_le _⟩ (Nat.le_of_ble_eq_true rfl) (wX10_l hm) (wX10_c hm) (jasI (hI _ _).inR (jasI hx3 jas0)) hT (fun r7 I6 hc8 hFI6 hT => ?_)
    replace hFI6 := jFr_tr hF hFI6
    refine jOk_mem (fun hI6 => ?_)
    obtain ⟨hc9, hT⟩ := hT
    exact r_zret dX10_binds_30 rfl hc9 ⟨Nat.zero_le _, Nat.zero_le _⟩ ⟨_, rfl, rfl, hFI6, hT⟩
theorem en_X10_binds {E : jE} {G : jG} {I : jM} {q : Int → jM → Prop} {m : Nat} {x1 : Int} {x2 : Int} {x3 : Int} (hm : WX10 G m) (hT : (∀ a j, jRg (G.2.1 a).1 (I a j)) → jIn x1 → jIn x2 → jIn x3 → jIn ((4 * x1) + x2) ∧ ((0 : Int) ≤ ((4 * x1) + x2) ∧ (((4 * x1) + x2) : Int) < 12) ∧ (((I (m + 5) ((4 * x1) + x2)) = (-1) → ((0 : Int) ≤ ((4 * x1) + x2) ∧ (((4 * x1) + x2) : Int) < 12) ∧ (∀ M4, M4 = jup I (m + 5) ((4 * x1) + x2) x3 → q 1 M4)) ∧ (¬ (I (m + 5) ((4 * x1) + x2)) = (-1) → ((0 : Int) ≤ ((4 * x1) + x2) ∧ (((4 * x1) + x2) : Int) < 12) ∧ jRI E (jA m) kX10_areLike [VR m, VI (I (m + 5) ((4 * x1) + x2)), VI x3] G I (fun r7 I6 => (0 ≤ r7 ∧ r7 ≤ 1) ∧ q r7 I6)))) : jRI E (jA m) kX10_binds [VR m, VI x1, VI x2, VI x3] G I q := jRun.of mt_X10_binds.2.2.2 1 rfl (fun _ => st_X10_binds_0 hm hT I (fun _ _ => rfl))
set_option maxRecDepth 20000 in
theorem st_X10_fitsOne_0 {E : jE} {G : jG} {I : jM} {q : Int → jM → Prop} {m : Nat} {x1 : Int} {x2 : Int} {x3 : Int} (hm : WX10 G m) (hT : (∀ a j, jRg (G.2.1 a).1 (I a j)) → jIn x1 → jIn x2 → jIn x3 → (0 ≤ x1 ∧ x1 < 6 ∧ 0 ≤ x2 ∧ x2 < 6 ∧ (0 : Int) ≤ 0 ∧ (0 : Int) < 3) ∧ ((¬ (I (m + 1) (518 + 40 * x1 + 3 * x2 + 0)) = 4 → ((0 : Int) ≤ x3 ∧ (x3 : Int) < 200) ∧ (0 ≤ 10 + (I (m + 3) x3) ∧ 10 + (I (m + 3) x3) < 22094) ∧ (((srt (I (m + 1) (10 + (I (m + 3) x3)))) = (I (m + 1) (518 + 40 * x1 + 3 * x2 + 0)) → (((I (m + 1) (518 + 40 * x1 + 3 * x2 + 0)) = 3 → q 1 I) ∧ (¬ (I (m + 1) (518 + 40 * x1 + 3 * x2 + 0)) = 3 → (0 ≤ x1 ∧ x1 < 6 ∧ 0 ≤ x2 ∧ x2 < 6 ∧ (0 : Int) ≤ 1 ∧ (1 : Int) < 3) ∧ jRI E (jA m) kX10_binds [VR m, VI (I (m + 1) (518 + 40 * x1 + 3 * x2 + 0)), VI (I (m + 1) (518 + 40 * x1 + 3 * x2 + 1)), VI x3] G I (fun r10 I9 => ((r10 = 0 → q 0 I9) ∧ (¬ r10 = 0 → q 1 I9)))))) ∧ (¬ (srt (I (m + 1) (10 + (I (m + 3) x3)))) = (I (m + 1) (518 + 40 * x1 + 3 * x2 + 0)) → q 0 I))) ∧ ((I (m + 1) (518 + 40 * x1 + 3 * x2 + 0)) = 4 → jRI E (jA m) kX10_isSaid [VR m, VI x1, VI x2, VI x3] G I (fun r13 I12 => (0 ≤ r13 ∧ r13 ≤ 1) ∧ q r13 I12)))) : jOI E (jA m) kX10_fitsOne 0 [VR m, VI x1, VI x2, VI x3, VN] G I q := by
  intro I0 hF
  refine jOk_mem (fun hI => ?_)
  refine jOk_in (i := 1) rfl (fun hx1 => ?_)
  refine jOk_in (i := 2) rfl (fun hx2 => ?_)
  refine jOk_in (i := 3) rfl (fun hx3 => ?_)
  replace hT := hT hI hx1 hx2 hx3
  refine r_aload_n dX10_fitsOne_0 rfl (i := 0) rfl ?_
  refine r_iload_n dX10_fitsOne_1 rfl (i := 1) rfl ?_
  refine r_iload_n dX10_fitsOne_2 rfl (i := 2) rfl ?_
  refine r_iconst (n := 0) dX10_fitsOne_3 ?_
  obtain ⟨hc2, hT⟩ := hT
  refine rr_pVI (A := (jA m)) (v := I (m + 1) (518 + 40 * x1 + 3 * x2 + 0)) (a := m) (as := [VI x1, VI x2, VI 0]) (st := []) dX10_fitsOne_4 mt_X10_elementOf ml_X10_131 mi_X10_elementOf rm_X10_fitsOne_X10_elementOf jz_X10_elementOf ⟨Nat.zero_le _, Nat.zero_le _⟩ (Nat.le_of_ble_eq_true rfl) (wX10_l hm) (wX10_c hm) (jasI hx1 (jasI hx2 (jasI ⟨by decide, by decide⟩ jas0))) ((sp_X10_elementOf hm) hc2) (fun hc1 => ?_)
  refine rr_istore (i := 4) (ls' := [VR m, VI x1, VI x2, VI x3, VI (I (m + 1) (518 + 40 * x1 + 3 * x2 + 0))]) dX10_fitsOne_7 (Nat.le_of_ble_eq_true rfl) rfl rfl hc1 ?_
  refine r_iload dX10_fitsOne_9 (i := 4) rfl ?_
  refine r_iconst (n := 4) dX10_fitsOne_11 ?_
  refine r_icmp_ne (tgt := 23) dX10_fitsOne_12 rfl hc1 ⟨by decide, by decide⟩ (fun hcc => ?_) (fun hcc => ?_)
  · replace hT := hT.1 hcc
    refine r_aload_n dX10_fitsOne_23 rfl (i := 0) rfl ?_
    refine r_aload_n dX10_fitsOne_24 rfl (i := 0) rfl ?_
    refine rr_getR (b := (m + 3)) dX10_fitsOne_25 fg_X10_16 rfl rfl (wX10_l hm) (wX10_s hm) (wX10_r2 hm) ?_
    refine r_iload_n dX10_fitsOne_28 rfl (i := 3) rfl ?_
    obtain ⟨hc3, hT⟩ := hT
    refine rr_iaload (v := I (m + 3) x3) dX10_fitsOne_29 (wX10_l2 hm) (wX10_a2 hm) (by decide) hc3 rfl ?_
    obtain ⟨hc5, hT⟩ := hT
    refine rr_pVI (A := (jA m)) (v := I (m + 1) (10 + (I (m + 3) x3))) (a := m) (as := [VI (I (m + 3) x3)]) (st := []) dX10_fitsOne_30 mt_X10_byteAt ml_X10_120 mi_X10_byteAt rm_X10_fitsOne_X10_byteAt jz_X10_byteAt ⟨Nat.zero_le _, Nat.zero_le _⟩ (Nat.le_of_ble_eq_true rfl) (wX10_l hm) (wX10_c hm) (jasI (hI _ _).inR jas0) ((sp_X10_byteAt hm) hc5) (fun hc4 => ?_)
    refine rr_pSI (A := (jA m)) (v := srt (I (m + 1) (10 + (I (m + 3) x3)))) (as := [VI (I (m + 1) (10 + (I (m + 3) x3)))]) (st := []) dX10_fitsOne_33 mt_X10_sortOf ml_X10_124 ms_X10_sortOf rm_X10_fitsOne_X10_sortOf jz_X10_sortOf ⟨Nat.zero_le _, Nat.zero_le _⟩ (Nat.le_of_ble_eq_true rfl) (jasI hc4 jas0) sp_X10_sortOf (fun hc6 => ?_)
    refine r_iload dX10_fitsOne_36 (i := 4) rfl ?_
    refine r_icmp_eq (tgt := 43) dX10_fitsOne_38 rfl hc6 hc1 (fun hcc => ?_) (fun hcc => ?_)
    · replace hT := hT.1 hcc
      refine r_iload dX10_fitsOne_43 (i := 4) rfl ?_
      refine r_iconst (n := 3) dX10_fitsOne_45 ?_
      refine r_icmp_eq (tgt := 66) dX10_fitsOne_46 rfl hc1 ⟨by decide, by decide⟩ (fun hcc => ?_) (fun hcc => ?_)
      · replace hT := hT.1 hcc
        refine r_iconst (n := 1) dX10_fitsOne_66 ?_
        refine r_goto (tgt := 71) dX10_fitsOne_67 rfl ?_
        exact r_zret dX10_fitsOne_71 rfl ⟨by decide, by decide⟩ ⟨Nat.zero_le _, Nat.zero_le _⟩ ⟨_, rfl, rfl, hF, hT⟩
      · replace hT := hT.2 hcc
        refine r_aload_n dX10_fitsOne_49 rfl (i := 0) rfl ?_
        refine r_iload dX10_fitsOne_50 (i := 4) rfl ?_
        refine r_aload_n dX10_fitsOne_52 rfl (i := 0) rfl ?_
        refine r_iload_n dX10_fitsOne_53 rfl (i := 1) rfl ?_
        refine r_iload_n dX10_fitsOne_54 rfl (i := 2) rfl ?_
        refine r_iconst (n := 1) dX10_fitsOne_55 ?_
        obtain ⟨hc8, hT⟩ := hT
        refine rr_pVI (A := (jA m)) (v := I (m + 1) (518 + 40 * x1 + 3 * x2 + 1)) (a := m) (as := [VI x1, VI x2, VI 1]) (st := [VI (I (m + 1) (518 + 40 * x1 + 3 * x2 + 0)), VR m]) dX10_fitsOne_56 mt_X10_elementOf ml_X10_131 mi_X10_elementOf rm_X10_fitsOne_X10_elementOf jz_X10_elementOf ⟨Nat.zero_le _, Nat.zero_le _⟩ (Nat.le_of_ble_eq_true rfl) (wX10_l hm) (wX10_c hm) (jasI hx1 (jasI hx2 (jasI ⟨by decide, by decide⟩ jas0))) ((sp_X10_elementOf hm) hc8) (fun hc7 => ?_)
        refine r_iload_n dX10_fitsOne_59 rfl (i := 3) rfl ?_
        refine rr_cVI (a := m) (as := [VI (I (m + 1) (518 + 40 * x1 + 3 * x2 + 0)), VI (I (m + 1) (518 + 40 * x1 + 3 * x2 + 1)), VI x3]) (st := []) dX10_fitsOne_60 mt_X10_binds ml_X10_142 mi_X10_binds rm_X10_fitsOne_X10_binds jz_X10_binds ⟨Nat.zero_le _, Nat.zero_le _⟩ (Nat.le_of_ble_eq_true rfl) (wX10_l hm) (wX10_c hm) (jasI hc1 (jasI hc7 (jasI hx3 jas0))) hT (fun r10 I9 hc11 hFI9 hT => ?_)
        replace hFI9 := jFr_tr hF hFI9
        refine jOk_mem (fun hI9 => ?_)
        refine r_if_eq (tgt := 70) dX10_fitsOne_63 rfl hc11 (fun hcc => ?_) (fun hcc => ?_)
        · replace hT := hT.1 hcc
          refine r_iconst (n := 0) dX10_fitsOne_70 ?_
          exact r_zret dX10_fitsOne_71 rfl ⟨by decide, by decide⟩ ⟨Nat.zero_le _, Nat.zero_le _⟩ ⟨_, rfl, rfl, hFI9, hT⟩
        · replace hT := hT.2 hcc
          refine r_iconst (n := 1) dX10_fitsOne_66 ?_
          refine r_goto (tgt := 71) dX10_fitsOne_67 rfl ?_
          exact r_zret dX10_fitsOne_71 rfl ⟨by decide, by decide⟩ ⟨Nat.zero_le _, Nat.zero_le _⟩ ⟨_, rfl, rfl, hFI9, hT⟩
    · replace hT := hT.2 hcc
      refine r_iconst (n := 0) dX10_fitsOne_41 ?_
      exact r_zret dX10_fitsOne_42 rfl ⟨by decide, by decide⟩ ⟨Nat.zero_le _, Nat.zero_le _⟩ ⟨_, rfl, rfl, hF, hT⟩
  · replace hT := hT.2 hcc
    refine r_aload_n dX10_fitsOne_15 rfl (i := 0) rfl ?_
    refine r_iload_n dX10_fitsOne_16 rfl (i := 1) rfl ?_
    refine r_iload_n dX10_fitsOne_17 rfl (i := 2) rfl ?_
    refine r_iload_n dX10_fitsOne_18 rfl (i := 3) rfl ?_
    refine rr_cVI (a := m) (as := [VI x1, VI x2, VI x3]) (st := []) dX10_fitsOne_19 mt_X10_isSaid ml_X10_139 mi_X10_isSaid rm_X10_fitsOne_X10_isSaid jz_X10_isSaid ⟨Nat.zero_le _, Nat.zero_le _⟩ (Nat.le_of_ble_eq_true rfl) (wX10_l hm) (wX10_c hm) (jasI hx1 (jasI hx2 (jasI hx3 jas0))) hT (fun r13 I12 hc14 hFI12 hT => ?_)
    replace hFI12 := jFr_tr hF hFI12
    refine jOk_mem (fun hI12 => ?_)
    obtain ⟨hc15, hT⟩ := hT
    exact r_zret dX10_fitsOne_22 rfl hc15 ⟨Nat.zero_le _, Nat.zero_le _⟩ ⟨_, rfl, rfl, hFI12, hT⟩
theorem en_X10_fitsOne {E : jE} {G : jG} {I : jM} {q : Int → jM → Prop} {m : Nat} {x1 : Int} {x2 : Int} {x3 : Int} (hm : WX10 G m) (hT : (∀ a j, jRg (G.2.1 a).1 (I a j)) → jIn x1 → jIn x2 → jIn x3 → (0 ≤ x1 ∧ x1 < 6 ∧ 0 ≤ x2 ∧ x2 < 6 ∧ (0 : Int) ≤ 0 ∧ (0 : Int) < 3) ∧ ((¬ (I (m + 1) (518 + 40 * x1 + 3 * x2 + 0)) = 4 → ((0 : Int) ≤ x3 ∧ (x3 : Int) < 200) ∧ (0 ≤ 10 + (I (m + 3) x3) ∧ 10 + (I (m + 3) x3) < 22094) ∧ (((srt (I (m + 1) (10 + (I (m + 3) x3)))) = (I (m + 1) (518 + 40 * x1 + 3 * x2 + 0)) → (((I (m + 1) (518 + 40 * x1 + 3 * x2 + 0)) = 3 → q 1 I) ∧ (¬ (I (m + 1) (518 + 40 * x1 + 3 * x2 + 0)) = 3 → (0 ≤ x1 ∧ x1 < 6 ∧ 0 ≤ x2 ∧ x2 < 6 ∧ (0 : Int) ≤ 1 ∧ (1 : Int) < 3) ∧ jRI E (jA m) kX10_binds [VR m, VI (I (m + 1) (518 + 40 * x1 + 3 * x2 + 0)), VI (I (m + 1) (518 + 40 * x1 + 3 * x2 + 1)), VI x3] G I (fun r10 I9 => ((r10 = 0 → q 0 I9) ∧ (¬ r10 = 0 → q 1 I9)))))) ∧ (¬ (srt (I (m + 1) (10 + (I (m + 3) x3)))) = (I (m + 1) (518 + 40 * x1 + 3 * x2 + 0)) → q 0 I))) ∧ ((I (m + 1) (518 + 40 * x1 + 3 * x2 + 0)) = 4 → jRI E (jA m) kX10_isSaid [VR m, VI x1, VI x2, VI x3] G I (fun r13 I12 => (0 ≤ r13 ∧ r13 ≤ 1) ∧ q r13 I12)))) : jRI E (jA m) kX10_fitsOne [VR m, VI x1, VI x2, VI x3] G I q := jRun.of mt_X10_fitsOne.2.2.2 1 rfl (fun _ => st_X10_fitsOne_0 hm hT I (fun _ _ => rfl))
set_option maxRecDepth 20000 in
theorem st_X10_fitsNow_46 {E : jE} {G : jG} {I : jM} {q : Int → jM → Prop} {m : Nat} {x1 : Int} {x2 : Int} {x3 : Int} {x4 : Int} (hm : WX10 G m) (hT : (∀ a j, jRg (G.2.1 a).1 (I a j)) → jIn x1 → jIn x2 → jIn x3 → jIn x4 → ((x3 ≤ x4 → q 1 I) ∧ (¬ x3 ≤ x4 → jIn (x2 + x4) ∧ jRI E (jA m) kX10_fitsOne [VR m, VI x1, VI x4, VI (x2 + x4)] G I (fun r3 I2 => ((¬ r3 = 0 → jIn (x4 + 1) ∧ jOI E (jA m) kX10_fitsNow 46 [VR m, VI x1, VI x2, VI x3, VI (x4 + 1)] G I2 q) ∧ (r3 = 0 → q 0 I2)))))) : jOI E (jA m) kX10_fitsNow 46 [VR m, VI x1, VI x2, VI x3, VI x4] G I q := by
  intro I0 hF
  refine jOk_mem (fun hI => ?_)
  refine jOk_in (i := 1) rfl (fun hx1 => ?_)
  refine jOk_in (i := 2) rfl (fun hx2 => ?_)
  refine jOk_in (i := 3) rfl (fun hx3 => ?_)
  refine jOk_in (i := 4) rfl (fun hx4 => ?_)
  replace hT := hT hI hx1 hx2 hx3 hx4
  refine r_iload dX10_fitsNow_46 (i := 4) rfl ?_
  refine r_iload_n dX10_fitsNow_48 rfl (i := 3) rfl ?_
  refine r_icmp_ge (tgt := 74) dX10_fitsNow_49 rfl hx4 hx3 (fun hcc => ?_) (fun hcc => ?_)
  · replace hT := hT.1 hcc
    refine r_iconst (n := 1) dX10_fitsNow_74 ?_
    exact r_zret dX10_fitsNow_75 rfl ⟨by decide, by decide⟩ ⟨Nat.zero_le _, Nat.zero_le _⟩ ⟨_, rfl, rfl, hF, hT⟩
  · replace hT := hT.2 hcc
    refine r_aload_n dX10_fitsNow_52 rfl (i := 0) rfl ?_
    refine r_iload_n dX10_fitsNow_53 rfl (i := 1) rfl ?_
    refine r_iload dX10_fitsNow_54 (i := 4) rfl ?_
    refine r_iload_n dX10_fitsNow_56 rfl (i := 2) rfl ?_
    refine r_iload dX10_fitsNow_57 (i := 4) rfl ?_
    refine r_iadd dX10_fitsNow_59 ?_
    obtain ⟨hc1, hT⟩ := hT
    refine rr_cVI (a := m) (as := [VI x1, VI x4, VI (x2 + x4)]) (st := []) dX10_fitsNow_60 mt_X10_fitsOne ml_X10_145 mi_X10_fitsOne rm_X10_fitsNow_X10_fitsOne jz_X10_fitsOne ⟨Nat.zero_le _, Nat.zero_le _⟩ (Nat.le_of_ble_eq_true rfl) (wX10_l hm) (wX10_c hm) (jasI hx1 (jasI hx4 (jasI hc1 jas0))) hT (fun r3 I2 hc4 hFI2 hT => ?_)
    replace hFI2 := jFr_tr hF hFI2
    refine jOk_mem (fun hI2 => ?_)
    refine r_if_ne (tgt := 68) dX10_fitsNow_63 rfl hc4 (fun hcc => ?_) (fun hcc => ?_)
    · replace hT := hT.1 hcc
      obtain ⟨hc5, hT⟩ := hT
      refine rr_iinc (i := 4) (ls' := [VR m, VI x1, VI x2, VI x3, VI (x4 + 1)]) dX10_fitsNow_68 rfl (Nat.le_of_ble_eq_true rfl) rfl rfl hc5 ?_
      refine r_goto (tgt := 46) dX10_fitsNow_71 rfl ?_
      exact hT I0 hFI2
    · replace hT := hT.2 hcc
      refine r_iconst (n := 0) dX10_fitsNow_66 ?_
      exact r_zret dX10_fitsNow_67 rfl ⟨by decide, by decide⟩ ⟨Nat.zero_le _, Nat.zero_le _⟩ ⟨_, rfl, rfl, hFI2, hT⟩
set_option maxRecDepth 20000 in
theorem st_X10_fitsNow_22 {E : jE} {G : jG} {I : jM} {q : Int → jM → Prop} {m : Nat} {x1 : Int} {x2 : Int} {x3 : Int} {x4 : Int} (hm : WX10 G m) (hT : (∀ a j, jRg (G.2.1 a).1 (I a j)) → jIn x1 → jIn x2 → jIn x3 → jIn x4 → ((12 ≤ x4 → jOI E (jA m) kX10_fitsNow 46 [VR m, VI x1, VI x2, VI x3, VI 0] G I q) ∧ (¬ 12 ≤ x4 → ((0 : Int) ≤ x4 ∧ (x4 : Int) < 12) ∧ (∀ M2, M2 = jup I (m + 5) x4 (-1) → jIn (x4 + 1) ∧ jOI E (jA m) kX10_fitsNow 22 [VR m, VI x1, VI x2, VI x3, VI (x4 + 1)] G M2 q)))) : jOI E (jA m) kX10_fitsNow 22 [VR m, VI x1, VI x2, VI x3, VI x4] G I q := by
  intro I0 hF
  refine jOk_mem (fun hI => ?_)
  refine jOk_in (i := 1) rfl (fun hx1 => ?_)
  refine jOk_in (i := 2) rfl (fun hx2 => ?_)
  refine jOk_in (i := 3) rfl (fun hx3 => ?_)
  refine jOk_in (i := 4) rfl (fun hx4 => ?_)
  replace hT := hT hI hx1 hx2 hx3 hx4
  refine r_iload dX10_fitsNow_22 (i := 4) rfl ?_
  refine r_bipush (n := 12) dX10_fitsNow_24 (by decide +kernel) ?_
  refine r_icmp_ge (tgt := 43) dX10_fitsNow_26 rfl hx4 ⟨by decide, by decide⟩ (fun hcc => ?_) (fun hcc => ?_)
  · replace hT := hT.1 hcc
    refine r_iconst (n := 0) dX10_fitsNow_43 ?_
    refine rr_istore (i := 4) (ls' := [VR m, VI x1, VI x2, VI x3, VI 0]) dX10_fitsNow_44 (Nat.le_of_ble_eq_true rfl) rfl rfl ⟨by decide, by decide⟩ ?_
    exact hT I0 hF
  · replace hT := hT.2 hcc
    refine r_aload_n dX10_fitsNow_29 rfl (i := 0) rfl ?_
    refine rr_getR (b := (m + 5)) dX10_fitsNow_30 fg_X10_22 rfl rfl (wX10_l hm) (wX10_s hm) (wX10_r5 hm) ?_
    refine r_iload dX10_fitsNow_33 (i := 4) rfl ?_
    refine r_iconst (n := (-1)) dX10_fitsNow_35 ?_
    obtain ⟨hc1, hT⟩ := hT
    refine rr_iastore dX10_fitsNow_36 (wX10_l5 hm) (wX10_a5 hm) (by decide) hc1 ⟨by decide, by decide⟩ (fun M2 eM2 => ?_)
    have hFM2 := jFr_up hF eM2 (wX10_f hm 5 (by decide))
    replace hT := hT M2 eM2
    refine jOk_mem (fun hIM2 => ?_)
    obtain ⟨hc3, hT⟩ := hT
    refine rr_iinc (i := 4) (ls' := [VR m, VI x1, VI x2, VI x3, VI (x4 + 1)]) dX10_fitsNow_37 rfl (Nat.le_of_ble_eq_true rfl) rfl rfl hc3 ?_
    refine r_goto (tgt := 22) dX10_fitsNow_40 rfl ?_
    exact hT I0 hFM2
set_option maxRecDepth 20000 in
theorem st_X10_fitsNow_0 {E : jE} {G : jG} {I : jM} {q : Int → jM → Prop} {m : Nat} {x1 : Int} {x2 : Int} (hm : WX10 G m) (hT : (∀ a j, jRg (G.2.1 a).1 (I a j)) → jIn x1 → jIn x2 → (0 ≤ 514 + 40 * x1 + 2 ∧ 514 + 40 * x1 + 2 < 22094) ∧ jIn (x2 + (I (m + 1) (514 + 40 * x1 + 2))) ∧ (((x2 + (I (m + 1) (514 + 40 * x1 + 2))) ≤ (I m 4) → jOI E (jA m) kX10_fitsNow 22 [VR m, VI x1, VI x2, VI (I (m + 1) (514 + 40 * x1 + 2)), VI 0] G I q) ∧ (¬ (x2 + (I (m + 1) (514 + 40 * x1 + 2))) ≤ (I m 4) → q 0 I))) : jOI E (jA m) kX10_fitsNow 0 [VR m, VI x1, VI x2, VN, VN] G I q := by
  intro I0 hF
  refine jOk_mem (fun hI => ?_)
  refine jOk_in (i := 1) rfl (fun hx1 => ?_)
  refine jOk_in (i := 2) rfl (fun hx2 => ?_)
  replace hT := hT hI hx1 hx2
  refine r_aload_n dX10_fitsNow_0 rfl (i := 0) rfl ?_
  refine r_iload_n dX10_fitsNow_1 rfl (i := 1) rfl ?_
  refine r_iconst (n := 2) dX10_fitsNow_2 ?_
  obtain ⟨hc2, hT⟩ := hT
  refine rr_pVI (A := (jA m)) (v := I (m + 1) (514 + 40 * x1 + 2)) (a := m) (as := [VI x1, VI 2]) (st := []) dX10_fitsNow_3 mt_X10_get ml_X10_127 mi_X10_get rm_X10_fitsNow_X10_get jz_X10_get ⟨Nat.zero_le _, Nat.zero_le _⟩ (Nat.le_of_ble_eq_true rfl) (wX10_l hm) (wX10_c hm) (jasI hx1 (jasI ⟨by decide, by decide⟩ jas0)) ((sp_X10_get hm) hc2) (fun hc1 => ?_)
  refine rr_istore_n (i := 3) (ls' := [VR m, VI x1, VI x2, VI (I (m + 1) (514 + 40 * x1 + 2)), VN]) dX10_fitsNow_6 rfl (Nat.le_of_ble_eq_true rfl) rfl rfl hc1 ?_
  refine r_iload_n dX10_fitsNow_7 rfl (i := 2) rfl ?_
  refine r_iload_n dX10_fitsNow_8 rfl (i := 3) rfl ?_
  refine r_iadd dX10_fitsNow_9 ?_
  refine r_aload_n dX10_fitsNow_10 rfl (i := 0) rfl ?_
  refine rr_getI (v := I m 4) dX10_fitsNow_11 fg_X10_117 rfl (wX10_l hm) (wX10_s hm) rfl ?_
  obtain ⟨hc3, hT⟩ := hT
  refine r_icmp_le (tgt := 19) dX10_fitsNow_14 rfl hc3 (hI _ _).inR (fun hcc => ?_) (fun hcc => ?_)
  · replace hT := hT.1 hcc
    refine r_iconst (n := 0) dX10_fitsNow_19 ?_
    refine rr_istore (i := 4) (ls' := [VR m, VI x1, VI x2, VI (I (m + 1) (514 + 40 * x1 + 2)), VI 0]) dX10_fitsNow_20 (Nat.le_of_ble_eq_true rfl) rfl rfl ⟨by decide, by decide⟩ ?_
    exact hT I0 hF
  · replace hT := hT.2 hcc
    refine r_iconst (n := 0) dX10_fitsNow_17 ?_
    exact r_zret dX10_fitsNow_18 rfl ⟨by decide, by decide⟩ ⟨Nat.zero_le _, Nat.zero_le _⟩ ⟨_, rfl, rfl, hF, hT⟩
theorem en_X10_fitsNow {E : jE} {G : jG} {I : jM} {q : Int → jM → Prop} {m : Nat} {x1 : Int} {x2 : Int} (hm : WX10 G m) (hT : (∀ a j, jRg (G.2.1 a).1 (I a j)) → jIn x1 → jIn x2 → (0 ≤ 514 + 40 * x1 + 2 ∧ 514 + 40 * x1 + 2 < 22094) ∧ jIn (x2 + (I (m + 1) (514 + 40 * x1 + 2))) ∧ (((x2 + (I (m + 1) (514 + 40 * x1 + 2))) ≤ (I m 4) → jOI E (jA m) kX10_fitsNow 22 [VR m, VI x1, VI x2, VI (I (m + 1) (514 + 40 * x1 + 2)), VI 0] G I q) ∧ (¬ (x2 + (I (m + 1) (514 + 40 * x1 + 2))) ≤ (I m 4) → q 0 I))) : jRI E (jA m) kX10_fitsNow [VR m, VI x1, VI x2] G I q := jRun.of mt_X10_fitsNow.2.2.2 2 rfl (fun _ => st_X10_fitsNow_0 hm hT I (fun _ _ => rfl))
section RG
variable {E : jE} {G : jG} {m : Nat} {S : Int → Int} {n : Int} {b : Int → Int} {I : jM}
theorem sp_X10_fitsOne (hm : WX10 G m) (h : TO m S n b I) {r t e : Int} (hr : 0 ≤ r ∧ r < 6) (he : 0 ≤ e ∧ e < 6) (t0 : 0 ≤ t) (t1 : t + e < n) (hw : EW S r e) (hB : Bd S r t e m I) : jRI E (jA m) kX10_fitsOne [VR m, VI r, VI e, VI (t + e)] G I (fun x I' => x = jI (fit1 S b r t e) ∧ WB m I I' ∧ (fit1 S b r t e → Bd S r t (e + 1) m I')) := by
  have bt := h.bd (t := t + e) (by omega) t1
  have hS := h.1
  have et := h.2.2.2.2 (t + e) (by omega) t1
  obtain ⟨w0, w1, w2, w3⟩ := hw
  refine en_X10_fitsOne hm (fun _ _ _ _ => ⟨⟨hr.1, hr.2, he.1, he.2, by decide, by decide⟩, fun q4 => ?_, fun q4 => ?_⟩)
  · rw [hS] at q4
    refine ⟨⟨by omega, by omega⟩, ?_⟩
    rw [et.1, hS]
    refine ⟨⟨by omega, by omega⟩, fun qs => ⟨fun q3 => ?_, fun q3 => ?_⟩, fun qs => ⟨(jI_neg (fun g => qs (g.2 q4).1)).symm, WB.rfl, fun g => absurd (g.2 q4).1 qs⟩⟩
    · have q3' : S (518 + 40 * r + 3 * e + 0) = 3 := q3
      refine ⟨(jI_pos ⟨fun q => absurd q q4, fun _ => ⟨qs, fun q => absurd q3' q⟩⟩).symm, WB.rfl, fun _ k k0 k1 => ?_⟩
      have hk : key S r e = -1 := by unfold key; rw [if_neg (by omega)]
      refine ⟨fun g => (hB k k0 k1).1 (fun e' g0 g1 => g e' g0 (by omega)), fun e0 g0 g1 g2 g3 => ?_⟩
      have : e0 ≠ e := fun q => by rw [q, hk] at g2; omega
      exact (hB k k0 k1).2 e0 g0 (by omega) g2 g3
    · have q2 : S (518 + 40 * r + 3 * e + 0) ≤ 2 := by
        have q3' : ¬ S (518 + 40 * r + 3 * e + 0) = 3 := q3
        have q4' : ¬ S (518 + 40 * r + 3 * e + 0) = 4 := q4
        omega
      have w2' := w2 q2
      change ¬ S (518 + 40 * r + 3 * e + 0) = 3 at q3
      have hk : key S r e = 4 * S (518 + 40 * r + 3 * e + 0) + S (518 + 40 * r + 3 * e + 1) := by unfold key; rw [if_pos q2]
      refine ⟨⟨hr.1, hr.2, he.1, he.2, by decide, by decide⟩, ?_⟩
      have hkk := hB (key S r e) (by omega) (by omega)
      rw [hk] at hkk
      have w0' : 0 ≤ S (518 + 40 * r + 3 * e + 0) := w0
      have w5 : 0 ≤ S (518 + 40 * r + 3 * e + 1) ∧ S (518 + 40 * r + 3 * e + 1) ≤ 3 := w2'
      have w6 : S (518 + 40 * r + 3 * e + 0) ≤ 2 := q2
      refine en_X10_binds hm (fun _ _ _ _ => ⟨⟨by omega, by omega⟩, ⟨by omega, by omega⟩, fun qb => ⟨⟨by omega, by omega⟩, fun M4 eM4 => ?_⟩, fun qb => ⟨⟨by omega, by omega⟩, ?_⟩⟩)
      · -- no element is named so before
        have hno : ∀ e', 0 ≤ e' → e' < e → key S r e' ≠ key S r e := by
          intro e' g0 g1 g2
          obtain ⟨e0, f0, f1, f2, f3⟩ := firstInt (P := fun x => key S r x = key S r e) ⟨e', g0, g1, g2⟩
          have := hkk.2 e0 f0 f1 (by rw [f2, hk]) (fun x x0 x1 => by rw [← hk]; exact f3 x x0 x1)
          rw [this] at qb
          omega
        have hfit : fit1 S b r t e := by
          refine ⟨fun q => absurd q q4, fun _ => ⟨qs, fun _ e0 hf => ?_⟩⟩
          have hee : e0 = e := by
            rcases Int.lt_trichotomy e0 e with g | g | g
            · exact absurd hf.2.2.1 (hno e0 hf.1 g)
            · exact g
            · have := hf.2.1; omega
          rw [hee]
          exact ⟨rfl, fun _ _ _ => rfl⟩
        refine ⟨fun q => absurd q (by decide), fun _ => ⟨(jI_pos hfit).symm, fun a j ha => jr_na eM4 ha, fun _ k k0 k1 => ?_⟩⟩
        by_cases ek : k = key S r e
        · subst ek
          refine ⟨fun g => absurd rfl (g e he.1 (by omega)), fun e0 g0 g1 g2 g3 => ?_⟩
          have : e0 = e := by
            rcases Int.lt_trichotomy e0 e with g | g | g
            · exact absurd g2 (hno e0 g0 g)
            · exact g
            · omega
          subst this
          rw [hk, jr_eq eM4]
        · rw [jr_nj eM4 (by rw [← hk]; exact ek)]
          refine ⟨fun g => (hB k k0 k1).1 (fun e' g0 g1 => g e' g0 (by omega)), fun e0 g0 g1 g2 g3 => ?_⟩
          have : e0 ≠ e := fun q => by rw [q] at g2; exact ek g2.symm
          exact (hB k k0 k1).2 e0 g0 (by omega) g2 g3
      · have hyes : ∃ e', 0 ≤ e' ∧ e' < e ∧ key S r e' = key S r e := Classical.byContradiction (fun g => qb (hkk.1 (fun e' g0 g1 g2 => g ⟨e', g0, g1, by rw [g2, hk]⟩)))
        obtain ⟨e0, f0, f1, f2, f3⟩ := firstInt hyes
        have hbnd := hkk.2 e0 f0 f1 (by rw [f2, hk]) (fun x x0 x1 => by rw [← hk]; exact f3 x x0 x1)
        rw [hbnd]
        refine (sp_X10_areLike hm h (t := t + e0) (u := t + e) (by omega) (by omega) (by omega) t1).mono (fun x I' _ _ hx => ?_)
        obtain ⟨rfl, rfl⟩ := hx
        have hfe : fit1 S b r t e ↔ like S b (t + e0) (t + e) := by
          refine ⟨fun g => (g.2 q4).2 q3 e0 ⟨f0, by omega, f2, f3⟩, fun g => ⟨fun q => absurd q q4, fun _ => ⟨qs, fun _ e1 hf => ?_⟩⟩⟩
          have : e1 = e0 := by
            rcases Int.lt_trichotomy e1 e0 with g | g | g
            · exact absurd hf.2.2.1 (f3 e1 hf.1 g)
            · exact g
            · exact absurd f2 (hf.2.2.2 e0 f0 g)
          rw [this]
          exact g
        refine ⟨jI_01, fun q => ⟨(jI_neg (fun g => jI_n q (hfe.mp g))).symm, WB.rfl, fun g => absurd (hfe.mp g) (jI_n q)⟩, fun q => ⟨(jI_pos (hfe.mpr (jI_p q))).symm, WB.rfl, fun _ k k0 k1 => ?_⟩⟩
        refine ⟨fun g => (hB k k0 k1).1 (fun e' g0 g1 => g e' g0 (by omega)), fun e1 g0 g1 g2 g3 => ?_⟩
        have : e1 ≠ e := fun q => by
          rw [q] at g2 g3
          exact g3 e0 f0 f1 (by rw [f2, g2])
        exact (hB k k0 k1).2 e1 g0 (by omega) g2 g3
  · rw [hS] at q4
    have q4' : S (518 + 40 * r + 3 * e + 0) = 4 := q4
    have hk : key S r e = -1 := by unfold key; rw [if_neg (by omega)]
    refine (sp_X10_isSaid hm h hr he (by omega) t1 ⟨(w3 q4').1, (w3 q4').2.2⟩).mono (fun x I' _ _ hx => ?_)
    obtain ⟨rfl, rfl⟩ := hx
    have hfe : fit1 S b r t e ↔ said S b r e (t + e) := ⟨fun g => g.1 q4', fun g => ⟨fun _ => g, fun q => absurd q4' q⟩⟩
    refine ⟨jI_01, jI_congr hfe.symm, WB.rfl, fun _ k k0 k1 => ?_⟩
    refine ⟨fun g => (hB k k0 k1).1 (fun e' g0 g1 => g e' g0 (by omega)), fun e0 g0 g1 g2 g3 => ?_⟩
    have : e0 ≠ e := fun q => by rw [q, hk] at g2; omega
    exact (hB k k0 k1).2 e0 g0 (by omega) g2 g3
theorem sp_X10_fitsNow (hm : WX10 G m) (h : TO m S n b I) {r t : Int} (hr : 0 ≤ r ∧ r < 6) (t0 : 0 ≤ t) (t1 : t < n) (hw : RW1 S r) : jRI E (jA m) kX10_fitsNow [VR m, VI r, VI t] G I (fun x I' => x = jI (Fit S n b r t) ∧ WB m I I' ∧ (Fit S n b r t → Bd S r t (S (516 + 40 * r)) m I')) := by
  have hS := h.1
  have hn := h.2.2.1.n_le
  have h2 := h.2.1
  have hne := hw.2.2.1
  have hew := hw.2.2.2.2.1
  have loop2 : ∀ (d : Nat) (e : Int) (I1 : jM), 0 ≤ e → e + d = S (516 + 40 * r) → t + S (516 + 40 * r) ≤ n → TO m S n b I1 → WB m I I1 → Bd S r t e m I1 → (∀ e', 0 ≤ e' → e' < e → fit1 S b r t e') → jOI E (jA m) kX10_fitsNow 46 [VR m, VI r, VI t, VI (S (516 + 40 * r)), VI e] G I1 (fun x I' => x = jI (Fit S n b r t) ∧ WB m I I' ∧ (Fit S n b r t → Bd S r t (S (516 + 40 * r)) m I')) := by
    intro d
    induction d with
    | zero =>
      intro e I1 e0 e1 hle hT hW hB hall
      have ee : e = S (516 + 40 * r) := by omega
      have hF : Fit S n b r t := ⟨hle, fun e' g0 g1 => hall e' g0 (by omega)⟩
      refine st_X10_fitsNow_46 hm (fun _ _ _ _ _ => ⟨fun _ => ⟨(jI_pos hF).symm, hW, fun _ => by rw [← ee]; exact hB⟩, fun q => by omega⟩)
    | succ d ih =>
      intro e I1 e0 e1 hle hT hW hB hall
      refine st_X10_fitsNow_46 hm (fun _ _ _ _ _ => ⟨fun q => by omega, fun _ => ⟨⟨by omega, by omega⟩, ?_⟩⟩)
      refine (sp_X10_fitsOne hm hT hr ⟨e0, by omega⟩ t0 (by omega) (hew e e0 (by omega)) hB).mono (fun x I2 _ _ hx => ?_)
      obtain ⟨rfl, hW2, hB2⟩ := hx
      refine ⟨fun q => ⟨⟨by omega, by omega⟩, ?_⟩, fun q => ⟨(jI_neg (fun g => jI_n q (g.2 e e0 (by omega)))).symm, hW.trans hW2, fun g => absurd (g.2 e e0 (by omega)) (jI_n q)⟩⟩
      refine ih (e + 1) I2 (by omega) (by omega) hle (hT.wb hW2) (hW.trans hW2) (hB2 (jI_p q)) (fun e' g0 g1 => ?_)
      by_cases ee : e' = e
      · rw [ee]; exact jI_p q
      · exact hall e' g0 (by omega)
  have loop1 : ∀ (d : Nat) (x : Int) (I1 : jM), 0 ≤ x → x + d = 12 → t + S (516 + 40 * r) ≤ n → WB m I I1 → (∀ k, 0 ≤ k → k < x → I1 (m + 5) k = -1) → jOI E (jA m) kX10_fitsNow 22 [VR m, VI r, VI t, VI (S (516 + 40 * r)), VI x] G I1 (fun x I' => x = jI (Fit S n b r t) ∧ WB m I I' ∧ (Fit S n b r t → Bd S r t (S (516 + 40 * r)) m I')) := by
    intro d
    induction d with
    | zero =>
      intro x I1 x0 x1 hle hW hx
      refine st_X10_fitsNow_22 hm (fun _ _ _ _ _ => ⟨fun _ => ?_, fun q => by omega⟩)
      exact loop2 (S (516 + 40 * r)).toNat 0 I1 (by omega) (by omega) hle (h.wb hW) hW (fun k k0 k1 => ⟨fun _ => hx k k0 (by omega), fun e0 g0 g1 => by omega⟩) (fun e' g0 g1 => by omega)
    | succ d ih =>
      intro x I1 x0 x1 hle hW hx
      refine st_X10_fitsNow_22 hm (fun _ _ _ _ _ => ⟨fun q => by omega, fun _ => ⟨⟨by omega, by omega⟩, fun M2 eM2 => ⟨⟨by omega, by omega⟩, ?_⟩⟩⟩)
      refine ih (x + 1) M2 (by omega) (by omega) hle (hW.trans (fun a j ha => jr_na eM2 ha)) (fun k k0 k1 => ?_)
      by_cases ek : k = x
      · rw [ek, jr_eq eM2]
      · rw [jr_nj eM2 ek]
        exact hx k k0 (by omega)
  refine en_X10_fitsNow hm (fun _ _ _ => ⟨⟨by omega, by omega⟩, ?_⟩)
  have e1 : I (m + 1) (514 + 40 * r + 2) = S (516 + 40 * r) := by rw [hS]; congr 1; omega
  rw [e1]
  refine ⟨⟨by omega, by omega⟩, fun q => ?_, fun q => ⟨(jI_neg (fun g => q ?_)).symm, WB.rfl, fun g => absurd ?_ q⟩⟩
  · rw [h.2.2.2.1] at q
    exact loop1 12 0 I (by omega) (by omega) q WB.rfl (fun k k0 k1 => by omega)
  · rw [h.2.2.2.1]
    exact g.1
  · rw [h.2.2.2.1]
    exact g.1
end RG
