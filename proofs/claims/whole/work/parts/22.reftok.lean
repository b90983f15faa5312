/-! ===== the reference: tokens ===== -/
set_option maxRecDepth 20000 in
theorem st_X10_layTokens_65 {E : jE} {G : jG} {I : jM} {q : jM → Prop} {m : Nat} {x1 : Int} {x2 : Int} {x3 : Int} (hm : WX10 G m) (hT : (∀ a j, jRg (G.2.1 a).1 (I a j)) → jIn x1 → jIn x2 → jIn x3 → ((0 : Int) ≤ (I m 4) ∧ ((I m 4) : Int) < 200) ∧ (∀ M2, M2 = jup I (m + 3) (I m 4) x1 → ((0 : Int) ≤ (I m 4) ∧ ((I m 4) : Int) < 200) ∧ (∀ M4, M4 = jup M2 (m + 4) (I m 4) x3 → jIn ((I m 4) + 1) ∧ (∀ M5, M5 = jup M4 m 4 ((I m 4) + 1) → jIn (x1 + x3) ∧ jOV E (jA m) kX10_layTokens 7 [VR m, VI (x1 + x3), VN, VN] G M5 q)))) : jOV E (jA m) kX10_layTokens 65 [VR m, VI x1, VI x2, VI x3] G I q := by
  intro I0 hF
  refine jOk_mem (fun hI => ?_)
  refine jOk_in (i := 1) rfl (fun hx1 => ?_)
  refine jOk_in (i := 2) rfl (fun hx2 => ?_)
  refine jOk_in (i := 3) rfl (fun hx3 => ?_)
  replace hT := hT hI hx1 hx2 hx3
  refine r_aload_n dX10_layTokens_65 rfl (i := 0) rfl ?_
  refine rr_getR (b := (m + 3)) dX10_layTokens_66 fg_X10_16 rfl rfl (wX10_l hm) (wX10_s hm) (wX10_r2 hm) ?_
  refine r_aload_n dX10_layTokens_69 rfl (i := 0) rfl ?_
  refine rr_getI (v := I m 4) dX10_layTokens_70 fg_X10_117 rfl (wX10_l hm) (wX10_s hm) rfl ?_
  refine r_iload_n dX10_layTokens_73 rfl (i := 1) rfl ?_
  obtain ⟨hc1, hT⟩ := hT
  refine rr_iastore dX10_layTokens_74 (wX10_l2 hm) (wX10_a2 hm) (by decide) hc1 hx1 (fun M2 eM2 => ?_)
  have hFM2 := jFr_up hF eM2 (wX10_f hm 3 (by decide))
  replace hT := hT M2 eM2
  refine jOk_mem (fun hIM2 => ?_)
  refine r_aload_n dX10_layTokens_75 rfl (i := 0) rfl ?_
  refine rr_getR (b := (m + 4)) dX10_layTokens_76 fg_X10_19 rfl rfl (wX10_l hm) (wX10_s hm) (wX10_r3 hm) ?_
  refine r_aload_n dX10_layTokens_79 rfl (i := 0) rfl ?_
  refine rr_getI (v := I m 4) dX10_layTokens_80 fg_X10_117 rfl (wX10_l hm) (wX10_s hm) (jr_na eM2 (by omega)) ?_
  refine r_iload_n dX10_layTokens_83 rfl (i := 3) rfl ?_
  obtain ⟨hc3, hT⟩ := hT
  refine rr_iastore dX10_layTokens_84 (wX10_l3 hm) (wX10_a3 hm) (by decide) hc3 hx3 (fun M4 eM4 => ?_)
  have hFM4 := jFr_up hFM2 eM4 (wX10_f hm 4 (by decide))
  replace hT := hT M4 eM4
  refine jOk_mem (fun hIM4 => ?_)
  refine r_aload_n dX10_layTokens_85 rfl (i := 0) rfl ?_
  refine r_dup dX10_layTokens_86 rfl ?_
  refine rr_getI (v := I m 4) dX10_layTokens_87 fg_X10_117 rfl (wX10_l hm) (wX10_s hm) ((jr_na eM4 (by omega)).trans (jr_na eM2 (by omega))) ?_
  refine r_iconst (n := 1) dX10_layTokens_90 ?_
  refine r_iadd dX10_layTokens_91 ?_
  obtain ⟨hc6, hT⟩ := hT
  refine rr_putI (jj := 4) dX10_layTokens_92 fp_X10_117 rfl rfl (wX10_l hm) (wX10_s hm) hc6 (fun M5 eM5 => ?_)
  have hFM5 := jFr_up hFM4 eM5 (wX10_f hm 0 (by decide))
  replace hT := hT M5 eM5
  refine jOk_mem (fun hIM5 => ?_)
  refine r_iload_n dX10_layTokens_95 rfl (i := 1) rfl ?_
  refine r_iload_n dX10_layTokens_96 rfl (i := 3) rfl ?_
  refine r_iadd dX10_layTokens_97 ?_
  obtain ⟨hc7, hT⟩ := hT
  refine rr_istore_n (i := 1) (ls' := [VR m, VI (x1 + x3), VI x2, VI x3]) dX10_layTokens_98 rfl (Nat.le_of_ble_eq_true rfl) rfl rfl hc7 ?_
  refine r_goto (tgt := 7) dX10_layTokens_99 rfl ?_
  exact jOk_le (ls' := [VR m, VI (x1 + x3), VN, VN]) ⟨Or.inr rfl, Or.inr rfl, Or.inl rfl, Or.inl rfl, trivial⟩ (hT I0 hFM5)
set_option maxRecDepth 20000 in
theorem st_X10_layTokens_28 {E : jE} {G : jG} {I : jM} {q : jM → Prop} {m : Nat} {x1 : Int} {x2 : Int} {x3 : Int} (hm : WX10 G m) (hT : (∀ a j, jRg (G.2.1 a).1 (I a j)) → jIn x1 → jIn x2 → jIn x3 → ((x2 = 2 → jOV E (jA m) kX10_layTokens 65 [VR m, VI x1, VI x2, VI x3] G I q) ∧ (¬ x2 = 2 → jIn (x1 + x3) ∧ (((I (m + 1) 2) ≤ (x1 + x3) → jOV E (jA m) kX10_layTokens 65 [VR m, VI x1, VI x2, VI x3] G I q) ∧ (¬ (I (m + 1) 2) ≤ (x1 + x3) → jIn (x1 + x3) ∧ (0 ≤ 10 + (x1 + x3) ∧ 10 + (x1 + x3) < 22094) ∧ ((¬ (srt (I (m + 1) (10 + (x1 + x3)))) = x2 → jOV E (jA m) kX10_layTokens 65 [VR m, VI x1, VI x2, VI x3] G I q) ∧ ((srt (I (m + 1) (10 + (x1 + x3)))) = x2 → jIn (x3 + 1) ∧ jOV E (jA m) kX10_layTokens 28 [VR m, VI x1, VI x2, VI (x3 + 1)] G I q))))))) : jOV E (jA m) kX10_layTokens 28 [VR m, VI x1, VI x2, VI x3] G I q := by
  intro I0 hF
  refine jOk_mem (fun hI => ?_)
  refine jOk_in (i := 1) rfl (fun hx1 => ?_)
  refine jOk_in (i := 2) rfl (fun hx2 => ?_)
  refine jOk_in (i := 3) rfl (fun hx3 => ?_)
  replace hT := hT hI hx1 hx2 hx3
  refine r_iload_n dX10_layTokens_28 rfl (i := 2) rfl ?_
  refine r_iconst (n := 2) dX10_layTokens_29 ?_
  refine r_icmp_eq (tgt := 65) dX10_layTokens_30 rfl hx2 ⟨by decide, by decide⟩ (fun hcc => ?_) (fun hcc => ?_)
  · replace hT := hT.1 hcc
    exact hT I0 hF
  · replace hT := hT.2 hcc
    refine r_iload_n dX10_layTokens_33 rfl (i := 1) rfl ?_
    refine r_iload_n dX10_layTokens_34 rfl (i := 3) rfl ?_
    refine r_iadd dX10_layTokens_35 ?_
    refine r_aload_n dX10_layTokens_36 rfl (i := 0) rfl ?_
    refine rr_getR (b := (m + 1)) dX10_layTokens_37 fg_X10_7 rfl rfl (wX10_l hm) (wX10_s hm) (wX10_r0 hm) ?_
    refine r_iconst (n := 2) dX10_layTokens_40 ?_
    refine rr_iaload (v := I (m + 1) 2) dX10_layTokens_41 (wX10_l0 hm) (wX10_a0 hm) (by decide) ⟨by decide, by decide⟩ rfl ?_
    obtain ⟨hc2, hT⟩ := hT
    refine r_icmp_ge (tgt := 65) dX10_layTokens_42 rfl hc2 (hI _ _).inR (fun hcc => ?_) (fun hcc => ?_)
    · replace hT := hT.1 hcc
      exact hT I0 hF
    · replace hT := hT.2 hcc
      refine r_aload_n dX10_layTokens_45 rfl (i := 0) rfl ?_
      refine r_iload_n dX10_layTokens_46 rfl (i := 1) rfl ?_
      refine r_iload_n dX10_layTokens_47 rfl (i := 3) rfl ?_
      refine r_iadd dX10_layTokens_48 ?_
      obtain ⟨hc3, hT⟩ := hT
      obtain ⟨hc5, hT⟩ := hT
      refine rr_pVI (A := (jA m)) (v := I (m + 1) (10 + (x1 + x3))) (a := m) (as := [VI (x1 + x3)]) (st := []) dX10_layTokens_49 mt_X10_byteAt ml_X10_120 mi_X10_byteAt rm_X10_layTokens_X10_byteAt jz_X10_byteAt ⟨Nat.zero_le _, Nat.zero_le _⟩ (Nat.le_of_ble_eq_true rfl) (wX10_l hm) (wX10_c hm) (jasI hc3 jas0) ((sp_X10_byteAt hm) hc5) (fun hc4 => ?_)
      refine rr_pSI (A := (jA m)) (v := srt (I (m + 1) (10 + (x1 + x3)))) (as := [VI (I (m + 1) (10 + (x1 + x3)))]) (st := []) dX10_layTokens_52 mt_X10_sortOf ml_X10_124 ms_X10_sortOf rm_X10_layTokens_X10_sortOf jz_X10_sortOf ⟨Nat.zero_le _, Nat.zero_le _⟩ (Nat.le_of_ble_eq_true rfl) (jasI hc4 jas0) sp_X10_sortOf (fun hc6 => ?_)
      refine r_iload_n dX10_layTokens_55 rfl (i := 2) rfl ?_
      refine r_icmp_ne (tgt := 65) dX10_layTokens_56 rfl hc6 hx2 (fun hcc => ?_) (fun hcc => ?_)
      · replace hT := hT.1 hcc
        exact hT I0 hF
      · replace hT := hT.2 hcc
        obtain ⟨hc7, hT⟩ := hT
        refine rr_iinc (i := 3) (ls' := [VR m, VI x1, VI x2, VI (x3 + 1)]) dX10_layTokens_59 rfl (Nat.le_of_ble_eq_true rfl) rfl rfl hc7 ?_
        refine r_goto (tgt := 28) dX10_layTokens_62 rfl ?_
        exact hT I0 hF
set_option maxRecDepth 20000 in
theorem st_X10_layTokens_7 {E : jE} {G : jG} {I : jM} {q : jM → Prop} {m : Nat} {x1 : Int} (hm : WX10 G m) (hT : (∀ a j, jRg (G.2.1 a).1 (I a j)) → jIn x1 → (((I (m + 1) 2) ≤ x1 → q I) ∧ (¬ (I (m + 1) 2) ≤ x1 → (0 ≤ 10 + x1 ∧ 10 + x1 < 22094) ∧ jOV E (jA m) kX10_layTokens 28 [VR m, VI x1, VI (srt (I (m + 1) (10 + x1))), VI 1] G I q))) : jOV E (jA m) kX10_layTokens 7 [VR m, VI x1, VN, VN] G I q := by
  intro I0 hF
  refine jOk_mem (fun hI => ?_)
  refine jOk_in (i := 1) rfl (fun hx1 => ?_)
  replace hT := hT hI hx1
  refine r_iload_n dX10_layTokens_7 rfl (i := 1) rfl ?_
  refine r_aload_n dX10_layTokens_8 rfl (i := 0) rfl ?_
  refine rr_getR (b := (m + 1)) dX10_layTokens_9 fg_X10_7 rfl rfl (wX10_l hm) (wX10_s hm) (wX10_r0 hm) ?_
  refine r_iconst (n := 2) dX10_layTokens_12 ?_
  refine rr_iaload (v := I (m + 1) 2) dX10_layTokens_13 (wX10_l0 hm) (wX10_a0 hm) (by decide) ⟨by decide, by decide⟩ rfl ?_
  refine r_icmp_ge (tgt := 102) dX10_layTokens_14 rfl hx1 (hI _ _).inR (fun hcc => ?_) (fun hcc => ?_)
  · replace hT := hT.1 hcc
    exact r_vret dX10_layTokens_102 rfl ⟨Nat.zero_le _, Nat.zero_le _⟩ ⟨rfl, rfl, hF, hT⟩
  · replace hT := hT.2 hcc
    refine r_aload_n dX10_layTokens_17 rfl (i := 0) rfl ?_
    refine r_iload_n dX10_layTokens_18 rfl (i := 1) rfl ?_
    obtain ⟨hc3, hT⟩ := hT
    refine rr_pVI (A := (jA m)) (v := I (m + 1) (10 + x1)) (a := m) (as := [VI x1]) (st := []) dX10_layTokens_19 mt_X10_byteAt ml_X10_120 mi_X10_byteAt rm_X10_layTokens_X10_byteAt jz_X10_byteAt ⟨Nat.zero_le _, Nat.zero_le _⟩ (Nat.le_of_ble_eq_true rfl) (wX10_l hm) (wX10_c hm) (jasI hx1 jas0) ((sp_X10_byteAt hm) hc3) (fun hc2 => ?_)
    refine rr_pSI (A := (jA m)) (v := srt (I (m + 1) (10 + x1))) (as := [VI (I (m + 1) (10 + x1))]) (st := []) dX10_layTokens_22 mt_X10_sortOf ml_X10_124 ms_X10_sortOf rm_X10_layTokens_X10_sortOf jz_X10_sortOf ⟨Nat.zero_le _, Nat.zero_le _⟩ (Nat.le_of_ble_eq_true rfl) (jasI hc2 jas0) sp_X10_sortOf (fun hc4 => ?_)
    refine rr_istore_n (i := 2) (ls' := [VR m, VI x1, VI (srt (I (m + 1) (10 + x1))), VN]) dX10_layTokens_25 rfl (Nat.le_of_ble_eq_true rfl) rfl rfl hc4 ?_
    refine r_iconst (n := 1) dX10_layTokens_26 ?_
    refine rr_istore_n (i := 3) (ls' := [VR m, VI x1, VI (srt (I (m + 1) (10 + x1))), VI 1]) dX10_layTokens_27 rfl (Nat.le_of_ble_eq_true rfl) rfl rfl ⟨by decide, by decide⟩ ?_
    exact hT I0 hF
set_option maxRecDepth 20000 in
theorem st_X10_layTokens_0 {E : jE} {G : jG} {I : jM} {q : jM → Prop} {m : Nat} (hm : WX10 G m) (hT : (∀ a j, jRg (G.2.1 a).1 (I a j)) → (∀ M1, M1 = jup I m 4 0 → jOV E (jA m) kX10_layTokens 7 [VR m, VI 0, VN, VN] G M1 q)) : jOV E (jA m) kX10_layTokens 0 [VR m, VN, VN, VN] G I q := by
  intro I0 hF
  refine jOk_mem (fun hI => ?_)
  replace hT := hT hI 
  refine r_aload_n dX10_layTokens_0 rfl (i := 0) rfl ?_
  refine r_iconst (n := 0) dX10_layTokens_1 ?_
  refine rr_putI (jj := 4) dX10_layTokens_2 fp_X10_117 rfl rfl (wX10_l hm) (wX10_s hm) ⟨by decide, by decide⟩ (fun M1 eM1 => ?_)
  have hFM1 := jFr_up hF eM1 (wX10_f hm 0 (by decide))
  replace hT := hT M1 eM1
  refine jOk_mem (fun hIM1 => ?_)
  refine r_iconst (n := 0) dX10_layTokens_5 ?_
  refine rr_istore_n (i := 1) (ls' := [VR m, VI 0, VN, VN]) dX10_layTokens_6 rfl (Nat.le_of_ble_eq_true rfl) rfl rfl ⟨by decide, by decide⟩ ?_
  exact hT I0 hFM1
theorem en_X10_layTokens {E : jE} {G : jG} {I : jM} {q : jM → Prop} {m : Nat} (hm : WX10 G m) (hT : (∀ a j, jRg (G.2.1 a).1 (I a j)) → (∀ M1, M1 = jup I m 4 0 → jOV E (jA m) kX10_layTokens 7 [VR m, VI 0, VN, VN] G M1 q)) : jRV E (jA m) kX10_layTokens [VR m] G I q := jRun.of mt_X10_layTokens.2.2.2 3 rfl (fun _ => st_X10_layTokens_0 hm hT I (fun _ _ => rfl))
/-- layTokens has come to t tokens -/
def LT (m : Nat) (b : Int → Int) (I0 : jM) (t : Int) (I : jM) : Prop := I m 4 = t ∧ (∀ u, 0 ≤ u → u < t → I (m + 3) u = b u ∧ I (m + 4) u = b (u + 1) - b u) ∧ ∀ a j, a ≠ m + 3 → a ≠ m + 4 → (a ≠ m ∨ j ≠ 4) → I a j = I0 a j
section RT
variable {E : jE} {G : jG} {m : Nat} {I0 : jM} {T : Int → Int} {len n : Int} {b : Int → Int} {q : jM → Prop}
theorem layTokens_inner (hm : WX10 G m) (hTk : Tk T len n b) (hl : len ≤ 200) (h1 : I0 (m + 1) 2 = len) (h2 : ∀ i, 0 ≤ i → i < len → I0 (m + 1) (10 + i) = T i) {t : Int} (ht0 : 0 ≤ t) (ht1 : t < n) {I : jM} (hI : LT m b I0 t I)
    (hq : ∀ I', LT m b I0 (t + 1) I' → jOV E (jA m) kX10_layTokens 7 [VR m, VI (b (t + 1)), VN, VN] G I' q) : ∀ (d : Nat) (x : Int), 1 ≤ x → x + d = b (t + 1) - b t → jOV E (jA m) kX10_layTokens 28 [VR m, VI (b t), VI (srt (T (b t))), VI x] G I q := by
  obtain ⟨g1, g2, g3, g4, g5⟩ := hTk.2.2.2 t ht0 ht1
  have hb := hTk.bd (t := t) ht0 (by omega)
  have hn := hTk.n_le
  have e2 : I (m + 1) 2 = len := by rw [hI.2.2 _ _ (by omega) (by omega) (by omega)]; exact h1
  have e3 : ∀ i, 0 ≤ i → i < len → I (m + 1) (10 + i) = T i := fun i q0 q1 => by rw [hI.2.2 _ _ (by omega) (by omega) (by omega)]; exact h2 i q0 q1
  have e4 := hI.1
  have fin : ∀ x, x = b (t + 1) - b t → jOV E (jA m) kX10_layTokens 65 [VR m, VI (b t), VI (srt (T (b t))), VI x] G I q := by
    intro x hx
    refine st_X10_layTokens_65 hm (fun _ _ _ _ => ?_)
    rw [e4]
    refine ⟨⟨ht0, by omega⟩, fun M1 eM1 => ⟨⟨ht0, by omega⟩, fun M2 eM2 => ⟨⟨by omega, by omega⟩, fun M3 eM3 => ⟨⟨by omega, by omega⟩, ?_⟩⟩⟩⟩
    have e5 : b t + x = b (t + 1) := by omega
    rw [e5]
    refine hq M3 ⟨?_, fun u u0 u1 => ?_, fun a j a1 a2 a3 => ?_⟩
    · rw [jr_eq eM3]
    · by_cases hu : u = t
      · subst hu
        refine ⟨?_, ?_⟩
        · rw [jr_na eM3 (by omega), jr_na eM2 (by omega), jr_eq eM1]
        · rw [jr_na eM3 (by omega), jr_eq eM2, hx]
      · have := hI.2.1 u u0 (by omega)
        refine ⟨?_, ?_⟩
        · rw [jr_na eM3 (by omega), jr_na eM2 (by omega), jr_nj eM1 hu]
          exact this.1
        · rw [jr_na eM3 (by omega), jr_nj eM2 hu, jr_na eM1 (by omega)]
          exact this.2
    · have e6 : M3 a j = M2 a j := by
        rcases a3 with a3 | a3
        · exact jr_na eM3 a3
        · exact jr_nj eM3 a3
      rw [e6, jr_na eM2 a2, jr_na eM1 a1]
      exact hI.2.2 a j a1 a2 a3
  intro d
  induction d with
  | zero =>
    intro x hx0 hx1
    have hx : x = b (t + 1) - b t := by omega
    refine st_X10_layTokens_28 hm (fun _ _ _ _ => ⟨fun _ => fin x hx, fun hs => ⟨⟨by omega, by omega⟩, fun _ => fin x hx, fun hlt => ?_⟩⟩)
    rw [e2] at hlt
    refine ⟨⟨by omega, by omega⟩, ⟨by omega, by omega⟩, fun _ => fin x hx, fun h => ?_⟩
    rw [e3 _ (by omega) (by omega)] at h
    have e5 : b t + x = b (t + 1) := by omega
    rw [e5] at h hlt
    exact absurd h (g5 hs (by omega))
  | succ d ih =>
    intro x hx0 hx1
    have hk : ∀ hs : srt (T (b t)) = 2, False := fun hs => by
      have := g4 hs
      omega
    refine st_X10_layTokens_28 hm (fun _ _ _ _ => ⟨fun hs => absurd hs (fun q => hk q), fun hs => ⟨⟨by omega, by omega⟩, fun hle => ?_, fun hlt => ?_⟩⟩)
    · rw [e2] at hle
      omega
    · refine ⟨⟨by omega, by omega⟩, ⟨by omega, by omega⟩, fun h => ?_, fun _ => ⟨⟨by omega, by omega⟩, ih (x + 1) (by omega) (by omega)⟩⟩
      rw [e3 _ (by omega) (by omega)] at h
      exact absurd (g3 (b t + x) (by omega) (by omega)) h
theorem layTokens_outer (hm : WX10 G m) (hTk : Tk T len n b) (hl : len ≤ 200) (h1 : I0 (m + 1) 2 = len) (h2 : ∀ i, 0 ≤ i → i < len → I0 (m + 1) (10 + i) = T i) (hq : ∀ I', LT m b I0 n I' → q I') : ∀ (d : Nat) (t : Int) (I : jM), 0 ≤ t → t + d = n → LT m b I0 t I → jOV E (jA m) kX10_layTokens 7 [VR m, VI (b t), VN, VN] G I q := by
  intro d
  induction d with
  | zero =>
    intro t I ht0 ht1 hI
    have e : t = n := by omega
    subst e
    refine st_X10_layTokens_7 hm (fun _ _ => ⟨fun _ => hq I hI, fun h => ?_⟩)
    rw [hI.2.2 _ _ (by omega) (by omega) (by omega), h1, hTk.2.2.1] at h
    omega
  | succ d ih =>
    intro t I ht0 ht1 hI
    have g := hTk.2.2.2 t ht0 (by omega)
    have hb := hTk.bd (t := t) ht0 (by omega)
    have g1 := g.1
    have g2 := g.2.1
    refine st_X10_layTokens_7 hm (fun _ _ => ⟨fun h => ?_, fun h => ⟨⟨by omega, by omega⟩, ?_⟩⟩)
    · rw [hI.2.2 _ _ (by omega) (by omega) (by omega), h1] at h
      omega
    · have e3 : I (m + 1) (10 + b t) = T (b t) := by
        rw [hI.2.2 _ _ (by omega) (by omega) (by omega)]
        exact h2 _ hb.1 (by omega)
      rw [e3]
      exact layTokens_inner hm hTk hl h1 h2 ht0 (by omega) hI (fun I' hI' => ih (t + 1) I' (by omega) (by omega) hI') (b (t + 1) - b t - 1).toNat 1 (by omega) (by omega)
theorem sp_X10_layTokens (hm : WX10 G m) (hTk : Tk T len n b) (hl : len ≤ 200) (h1 : I0 (m + 1) 2 = len) (h2 : ∀ i, 0 ≤ i → i < len → I0 (m + 1) (10 + i) = T i) : jRV E (jA m) kX10_layTokens [VR m] G I0 (fun I' => LT m b I0 n I') := by
  refine en_X10_layTokens hm (fun _ M1 eM1 => ?_)
  have h0 := layTokens_outer (E := E) (q := fun I' => LT m b I0 n I') hm hTk hl h1 h2 (fun I' h => h) n.toNat 0 M1 (by omega) (by have := hTk.1; omega) ⟨jr_eq eM1, fun u u0 u1 => by omega, fun a j a1 a2 a3 => by
    rcases a3 with a3 | a3
    · exact jr_na eM1 a3
    · exact jr_nj eM1 a3⟩
  rw [hTk.2.1] at h0
  exact h0
end RT
