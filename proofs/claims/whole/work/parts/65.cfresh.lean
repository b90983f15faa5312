/-! ===== the class: what stands in the place ===== -/
/-- the list lies in the finder's fresh bytes -/
def FO (φ : Nat) (I : jM) (L : List Int) : Prop := I φ 4 = L.length ∧ ∀ i : Nat, i < L.length → I (φ + 4) i = L.getD i 0
def WF (φ : Nat) (I I' : jM) : Prop := ∀ a j, a ≠ φ + 4 → (a ≠ φ ∨ j ≠ 4) → I' a j = I a j
theorem WF.trans {φ : Nat} {I I' I'' : jM} (h : WF φ I I') (h' : WF φ I' I'') : WF φ I I'' := fun a j ha hb => (h' a j ha hb).trans (h a j ha hb)
theorem WF.rfl {φ : Nat} {I : jM} : WF φ I I := fun _ _ _ _ => Eq.refl _
theorem WF.f {φ : Nat} {I I' : jM} (h : WF φ I I') : Fr φ (φ + 14) I I' := fun a j ha => h a j (by omega) (by omega)
theorem FC.wf {G : jG} {φ p ρ : Nat} {X : Int → Int} {I I' : jM} (h : FC G φ p ρ X I) (e : WF φ I I') : FC G φ p ρ X I' := by
  have h1 := h.1
  exact h.fr (fun a j q => e a j (by omega) (by omega))
theorem FO.push {φ : Nat} {I M M' : jM} {L : List Int} {v : Int} (h : FO φ I L) (e : M = jup I (φ + 4) (I φ 4) v) (e' : M' = jup M φ 4 (I φ 4 + 1)) : FO φ M' (L ++ [v]) ∧ WF φ I M' := by
  rw [h.1] at e e'
  refine ⟨⟨?_, fun i hi => ?_⟩, fun a j ha hb => ?_⟩
  · rw [jr_eq e', List.length_append]
    simp
  · rw [jr_na e' (by omega)]
    rw [List.length_append] at hi
    simp at hi
    by_cases q : i = L.length
    · rw [q, jr_eq e]
      simp
    · rw [jr_nj e (by omega), gd_left (by omega)]
      exact h.2 i (by omega)
  · have q : M' a j = M a j := by
      rcases hb with hb | hb
      · exact jr_na e' hb
      · exact jr_nj e' hb
    rw [q, jr_na e ha]
set_option maxRecDepth 20000 in
theorem st_X1_writeBytes_3 {E : jE} {G : jG} {I : jM} {q : jM → Prop} {m : Nat} {p1 np1 : Nat} {x2 : Int} {x3 : Int} {x4 : Int} (hm : WX1 G m) (lp1 : p1 < G.2.2) (sp1 : G.2.1 p1 = (101, np1)) (bp1 : (np1 : Int) ≤ 2147483647) (hT : (∀ a j, jRg (G.2.1 a).1 (I a j)) → jIn x2 → jIn x3 → jIn x4 → ((x3 ≤ x4 → q I) ∧ (¬ x3 ≤ x4 → ((1500 ≤ (I m 4) → q I) ∧ (¬ 1500 ≤ (I m 4) → ((0 : Int) ≤ x4 ∧ (x4 : Int) < np1) ∧ (((-128) ≤ (I p1 x4) ∧ (I p1 x4) ≤ 127) → ((0 : Int) ≤ (I m 4) ∧ ((I m 4) : Int) < 1500) ∧ (∀ M4, M4 = jup I (m + 4) (I m 4) (I p1 x4) → jIn ((I m 4) + 1) ∧ (∀ M5, M5 = jup M4 m 4 ((I m 4) + 1) → jIn (x4 + 1) ∧ jOV E jB kX1_writeBytes 3 [VR m, VR p1, VI x2, VI x3, VI (x4 + 1)] G M5 q)))))))) : jOV E jB kX1_writeBytes 3 [VR m, VR p1, VI x2, VI x3, VI x4] G I q := by
  intro I0 hF
  refine jOk_mem (fun hI => ?_)
  refine jOk_in (i := 2) rfl (fun hx2 => ?_)
  refine jOk_in (i := 3) rfl (fun hx3 => ?_)
  refine jOk_in (i := 4) rfl (fun hx4 => ?_)
  replace hT := hT hI hx2 hx3 hx4
  refine r_iload dX1_writeBytes_3 (i := 4) rfl ?_
  refine r_iload_n dX1_writeBytes_5 rfl (i := 3) rfl ?_
  refine r_icmp_ge (tgt := 48) dX1_writeBytes_6 rfl hx4 hx3 (fun hcc => ?_) (fun hcc => ?_)
  · replace hT := hT.1 hcc
    exact r_vret dX1_writeBytes_48 rfl ⟨Nat.zero_le _, Nat.zero_le _⟩ ⟨rfl, rfl, hF, hT⟩
  · replace hT := hT.2 hcc
    refine r_aload_n dX1_writeBytes_9 rfl (i := 0) rfl ?_
    refine rr_getI (v := I m 4) dX1_writeBytes_10 fg_X1_143 rfl (wX1_l hm) (wX1_s hm) rfl ?_
    refine r_sipush (n := 1500) dX1_writeBytes_13 (by decide +kernel) ?_
    refine r_icmp_ge (tgt := 48) dX1_writeBytes_16 rfl (hI _ _).inR ⟨by decide, by decide⟩ (fun hcc => ?_) (fun hcc => ?_)
    · replace hT := hT.1 hcc
      exact r_vret dX1_writeBytes_48 rfl ⟨Nat.zero_le _, Nat.zero_le _⟩ ⟨rfl, rfl, hF, hT⟩
    · replace hT := hT.2 hcc
      refine r_aload_n dX1_writeBytes_19 rfl (i := 0) rfl ?_
      refine rr_getR (b := (m + 4)) dX1_writeBytes_20 fg_X1_18 rfl rfl (wX1_l hm) (wX1_s hm) (wX1_r3 hm) ?_
      refine r_aload_n dX1_writeBytes_23 rfl (i := 0) rfl ?_
      refine rr_getI (v := I m 4) dX1_writeBytes_24 fg_X1_143 rfl (wX1_l hm) (wX1_s hm) rfl ?_
      refine r_aload_n dX1_writeBytes_27 rfl (i := 1) rfl ?_
      refine r_iload dX1_writeBytes_28 (i := 4) rfl ?_
      obtain ⟨hc1, hT⟩ := hT
      refine rr_baload (v := I p1 x4) dX1_writeBytes_30 lp1 sp1 bp1 hc1 rfl (fun hr2 => ?_)
      replace hT := hT hr2
      obtain ⟨hc3, hT⟩ := hT
      refine rr_bastore dX1_writeBytes_31 (wX1_l3 hm) (wX1_a3 hm) (by decide) hc3 hr2 (fun M4 eM4 => ?_)
      have hFM4 := jFr_up hF eM4 (wX1_f hm 4 (by decide))
      replace hT := hT M4 eM4
      refine jOk_mem (fun hIM4 => ?_)
      refine r_aload_n dX1_writeBytes_32 rfl (i := 0) rfl ?_
      refine r_dup dX1_writeBytes_33 rfl ?_
      refine rr_getI (v := I m 4) dX1_writeBytes_34 fg_X1_143 rfl (wX1_l hm) (wX1_s hm) (jr_na eM4 (by omega)) ?_
      refine r_iconst (n := 1) dX1_writeBytes_37 ?_
      refine r_iadd dX1_writeBytes_38 ?_
      obtain ⟨hc6, hT⟩ := hT
      refine rr_putI (jj := 4) dX1_writeBytes_39 fp_X1_143 rfl rfl (wX1_l hm) (wX1_s hm) hc6 (fun M5 eM5 => ?_)
      have hFM5 := jFr_up hFM4 eM5 (wX1_f hm 0 (by decide))
      replace hT := hT M5 eM5
      refine jOk_mem (fun hIM5 => ?_)
      obtain ⟨hc7, hT⟩ := hT
      refine rr_iinc (i := 4) (ls' := [VR m, VR p1, VI x2, VI x3, VI (x4 + 1)]) dX1_writeBytes_42 rfl (Nat.le_of_ble_eq_true rfl) rfl rfl hc7 ?_
      refine r_goto (tgt := 3) dX1_writeBytes_45 rfl ?_
      exact hT I0 hFM5
set_option maxRecDepth 20000 in
theorem st_X1_writeBytes_0 {E : jE} {G : jG} {I : jM} {q : jM → Prop} {m : Nat} {p1 np1 : Nat} {x2 : Int} {x3 : Int} (hm : WX1 G m) (lp1 : p1 < G.2.2) (sp1 : G.2.1 p1 = (101, np1)) (bp1 : (np1 : Int) ≤ 2147483647) (hT : (∀ a j, jRg (G.2.1 a).1 (I a j)) → jIn x2 → jIn x3 → jOV E jB kX1_writeBytes 3 [VR m, VR p1, VI x2, VI x3, VI x2] G I q) : jOV E jB kX1_writeBytes 0 [VR m, VR p1, VI x2, VI x3, VN] G I q := by
  intro I0 hF
  refine jOk_mem (fun hI => ?_)
  refine jOk_in (i := 2) rfl (fun hx2 => ?_)
  refine jOk_in (i := 3) rfl (fun hx3 => ?_)
  replace hT := hT hI hx2 hx3
  refine r_iload_n dX1_writeBytes_0 rfl (i := 2) rfl ?_
  refine rr_istore (i := 4) (ls' := [VR m, VR p1, VI x2, VI x3, VI x2]) dX1_writeBytes_1 (Nat.le_of_ble_eq_true rfl) rfl rfl hx2 ?_
  exact hT I0 hF
theorem en_X1_writeBytes {E : jE} {G : jG} {I : jM} {q : jM → Prop} {m : Nat} {p1 np1 : Nat} {x2 : Int} {x3 : Int} (hm : WX1 G m) (lp1 : p1 < G.2.2) (sp1 : G.2.1 p1 = (101, np1)) (bp1 : (np1 : Int) ≤ 2147483647) (hT : (∀ a j, jRg (G.2.1 a).1 (I a j)) → jIn x2 → jIn x3 → jOV E jB kX1_writeBytes 3 [VR m, VR p1, VI x2, VI x3, VI x2] G I q) : jRV E jB kX1_writeBytes [VR m, VR p1, VI x2, VI x3] G I q := jRun.of mt_X1_writeBytes.2.2.2 1 rfl (fun _ => st_X1_writeBytes_0 hm lp1 sp1 bp1 hT I (fun _ _ => rfl))
set_option maxRecDepth 20000 in
theorem st_X1_writeTurned_4 {E : jE} {G : jG} {I : jM} {q : jM → Prop} {m : Nat} {x1 : Int} {x2 : Int} {x3 : Int} (hm : WX1 G m) (hT : (∀ a j, jRg (G.2.1 a).1 (I a j)) → jIn x1 → jIn x2 → jIn x3 → ((x3 < x1 → q I) ∧ (¬ x3 < x1 → ((1500 ≤ (I m 4) → q I) ∧ (¬ 1500 ≤ (I m 4) → (∃ b1 : Nat, I m 0 = (b1 : Int) ∧ WX4 G b1 ∧ ((0 : Int) ≤ x3 ∧ (x3 : Int) < 200) ∧ (((-128) ≤ (I (b1 + 1) x3) ∧ (I (b1 + 1) x3) ≤ 127) → ((0 : Int) ≤ (I m 4) ∧ ((I m 4) : Int) < 1500) ∧ (∀ M7, M7 = jup I (m + 4) (I m 4) (I (b1 + 1) x3) → jIn ((I m 4) + 1) ∧ (∀ M8, M8 = jup M7 m 4 ((I m 4) + 1) → jIn (x3 + (-1)) ∧ jOV E jB kX1_writeTurned 4 [VR m, VI x1, VI x2, VI (x3 + (-1))] G M8 q))))))))) : jOV E jB kX1_writeTurned 4 [VR m, VI x1, VI x2, VI x3] G I q := by
  intro I0 hF
  refine jOk_mem (fun hI => ?_)
  refine jOk_in (i := 1) rfl (fun hx1 => ?_)
  refine jOk_in (i := 2) rfl (fun hx2 => ?_)
  refine jOk_in (i := 3) rfl (fun hx3 => ?_)
  replace hT := hT hI hx1 hx2 hx3
  refine r_iload_n dX1_writeTurned_4 rfl (i := 3) rfl ?_
  refine r_iload_n dX1_writeTurned_5 rfl (i := 1) rfl ?_
  refine r_icmp_lt (tgt := 53) dX1_writeTurned_6 rfl hx3 hx1 (fun hcc => ?_) (fun hcc => ?_)
  · replace hT := hT.1 hcc
    exact r_vret dX1_writeTurned_53 rfl ⟨Nat.zero_le _, Nat.zero_le _⟩ ⟨rfl, rfl, hF, hT⟩
  · replace hT := hT.2 hcc
    refine r_aload_n dX1_writeTurned_9 rfl (i := 0) rfl ?_
    refine rr_getI (v := I m 4) dX1_writeTurned_10 fg_X1_143 rfl (wX1_l hm) (wX1_s hm) rfl ?_
    refine r_sipush (n := 1500) dX1_writeTurned_13 (by decide +kernel) ?_
    refine r_icmp_ge (tgt := 53) dX1_writeTurned_16 rfl (hI _ _).inR ⟨by decide, by decide⟩ (fun hcc => ?_) (fun hcc => ?_)
    · replace hT := hT.1 hcc
      exact r_vret dX1_writeTurned_53 rfl ⟨Nat.zero_le _, Nat.zero_le _⟩ ⟨rfl, rfl, hF, hT⟩
    · replace hT := hT.2 hcc
      refine r_aload_n dX1_writeTurned_19 rfl (i := 0) rfl ?_
      refine rr_getR (b := (m + 4)) dX1_writeTurned_20 fg_X1_18 rfl rfl (wX1_l hm) (wX1_s hm) (wX1_r3 hm) ?_
      refine r_aload_n dX1_writeTurned_23 rfl (i := 0) rfl ?_
      refine rr_getI (v := I m 4) dX1_writeTurned_24 fg_X1_143 rfl (wX1_l hm) (wX1_s hm) rfl ?_
      refine r_aload_n dX1_writeTurned_27 rfl (i := 0) rfl ?_
      obtain ⟨b1, hc2, hc3, hT⟩ := hT
      refine rr_getM (b := b1) dX1_writeTurned_28 fg_X1_56 rfl rfl (wX1_l hm) (wX1_s hm) hc2 ?_
      refine rr_getR (b := (b1 + 1)) dX1_writeTurned_31 fg_X1_131 rfl rfl (wX4_l hc3) (wX4_s hc3) (wX4_r0 hc3) ?_
      refine r_iload_n dX1_writeTurned_34 rfl (i := 3) rfl ?_
      obtain ⟨hc4, hT⟩ := hT
      refine rr_baload (v := I (b1 + 1) x3) dX1_writeTurned_35 (wX4_l0 hc3) (wX4_a0 hc3) (by decide) hc4 rfl (fun hr5 => ?_)
      replace hT := hT hr5
      obtain ⟨hc6, hT⟩ := hT
      refine rr_bastore dX1_writeTurned_36 (wX1_l3 hm) (wX1_a3 hm) (by decide) hc6 hr5 (fun M7 eM7 => ?_)
      have hFM7 := jFr_up hF eM7 (wX1_f hm 4 (by decide))
      replace hT := hT M7 eM7
      refine jOk_mem (fun hIM7 => ?_)
      refine r_aload_n dX1_writeTurned_37 rfl (i := 0) rfl ?_
      refine r_dup dX1_writeTurned_38 rfl ?_
      refine rr_getI (v := I m 4) dX1_writeTurned_39 fg_X1_143 rfl (wX1_l hm) (wX1_s hm) (jr_na eM7 (by omega)) ?_
      refine r_iconst (n := 1) dX1_writeTurned_42 ?_
      refine r_iadd dX1_writeTurned_43 ?_
      obtain ⟨hc9, hT⟩ := hT
      refine rr_putI (jj := 4) dX1_writeTurned_44 fp_X1_143 rfl rfl (wX1_l hm) (wX1_s hm) hc9 (fun M8 eM8 => ?_)
      have hFM8 := jFr_up hFM7 eM8 (wX1_f hm 0 (by decide))
      replace hT := hT M8 eM8
      refine jOk_mem (fun hIM8 => ?_)
      obtain ⟨hc10, hT⟩ := hT
      refine rr_iinc (i := 3) (ls' := [VR m, VI x1, VI x2, VI (x3 + (-1))]) dX1_writeTurned_47 rfl (Nat.le_of_ble_eq_true rfl) rfl rfl hc10 ?_
      refine r_goto (tgt := 4) dX1_writeTurned_50 rfl ?_
      exact hT I0 hFM8
set_option maxRecDepth 20000 in
theorem st_X1_writeTurned_0 {E : jE} {G : jG} {I : jM} {q : jM → Prop} {m : Nat} {x1 : Int} {x2 : Int} (hm : WX1 G m) (hT : (∀ a j, jRg (G.2.1 a).1 (I a j)) → jIn x1 → jIn x2 → jIn (x2 - 1) ∧ jOV E jB kX1_writeTurned 4 [VR m, VI x1, VI x2, VI (x2 - 1)] G I q) : jOV E jB kX1_writeTurned 0 [VR m, VI x1, VI x2, VN] G I q := by
  intro I0 hF
  refine jOk_mem (fun hI => ?_)
  refine jOk_in (i := 1) rfl (fun hx1 => ?_)
  refine jOk_in (i := 2) rfl (fun hx2 => ?_)
  replace hT := hT hI hx1 hx2
  refine r_iload_n dX1_writeTurned_0 rfl (i := 2) rfl ?_
  refine r_iconst (n := 1) dX1_writeTurned_1 ?_
  refine r_isub dX1_writeTurned_2 ?_
  obtain ⟨hc1, hT⟩ := hT
  refine rr_istore_n (i := 3) (ls' := [VR m, VI x1, VI x2, VI (x2 - 1)]) dX1_writeTurned_3 rfl (Nat.le_of_ble_eq_true rfl) rfl rfl hc1 ?_
  exact hT I0 hF
theorem en_X1_writeTurned {E : jE} {G : jG} {I : jM} {q : jM → Prop} {m : Nat} {x1 : Int} {x2 : Int} (hm : WX1 G m) (hT : (∀ a j, jRg (G.2.1 a).1 (I a j)) → jIn x1 → jIn x2 → jIn (x2 - 1) ∧ jOV E jB kX1_writeTurned 4 [VR m, VI x1, VI x2, VI (x2 - 1)] G I q) : jRV E jB kX1_writeTurned [VR m, VI x1, VI x2] G I q := jRun.of mt_X1_writeTurned.2.2.2 1 rfl (fun _ => st_X1_writeTurned_0 hm hT I (fun _ _ => rfl))
set_option maxRecDepth 20000 in
theorem st_X1_writeNumber_83 {E : jE} {G : jG} {I : jM} {q : jM → Prop} {m : Nat} {x1 : Int} {x2 : Int} {x3 : Int} {x4 : Int} {x5 : Int} {x6 : Int} (hm : WX1 G m) (hT : (∀ a j, jRg (G.2.1 a).1 (I a j)) → jIn x1 → jIn x2 → jIn x3 → jIn x4 → jIn x5 → jIn x6 → ((x6 ≤ 0 → q I) ∧ (¬ x6 ≤ 0 → ((1500 ≤ (I m 4) → q I) ∧ (¬ 1500 ≤ (I m 4) → x6 ≠ 0 ∧ jIn (Int.tdiv x4 x6) ∧ ((0 : Int) ≤ (I m 4) ∧ ((I m 4) : Int) < 1500) ∧ (∀ M5, M5 = jup I (m + 4) (I m 4) (jb8 (48 + (Int.tmod (Int.tdiv x4 x6) 10))) → jIn ((I m 4) + 1) ∧ (∀ M6, M6 = jup M5 m 4 ((I m 4) + 1) → jIn (Int.tdiv x6 10) ∧ jOV E jB kX1_writeNumber 83 [VR m, VI x1, VI x2, VI x3, VI x4, VI x5, VI (Int.tdiv x6 10)] G M6 q))))))) : jOV E jB kX1_writeNumber 83 [VR m, VI x1, VI x2, VI x3, VI x4, VI x5, VI x6] G I q := by
  intro I0 hF
  refine jOk_mem (fun hI => ?_)
  refine jOk_in (i := 1) rfl (fun hx1 => ?_)
  refine jOk_in (i := 2) rfl (fun hx2 => ?_)
  refine jOk_in (i := 3) rfl (fun hx3 => ?_)
  refine jOk_in (i := 4) rfl (fun hx4 => ?_)
  refine jOk_in (i := 5) rfl (fun hx5 => ?_)
  refine jOk_in (i := 6) rfl (fun hx6 => ?_)
  replace hT := hT hI hx1 hx2 hx3 hx4 hx5 hx6
  refine r_iload dX1_writeNumber_83 (i := 6) rfl ?_
  refine r_if_le (tgt := 139) dX1_writeNumber_85 rfl hx6 (fun hcc => ?_) (fun hcc => ?_)
  · replace hT := hT.1 hcc
    exact r_vret dX1_writeNumber_139 rfl ⟨Nat.zero_le _, Nat.zero_le _⟩ ⟨rfl, rfl, hF, hT⟩
  · replace hT := hT.2 hcc
    refine r_aload_n dX1_writeNumber_88 rfl (i := 0) rfl ?_
    refine rr_getI (v := I m 4) dX1_writeNumber_89 fg_X1_143 rfl (wX1_l hm) (wX1_s hm) rfl ?_
    refine r_sipush (n := 1500) dX1_writeNumber_92 (by decide +kernel) ?_
    refine r_icmp_ge (tgt := 139) dX1_writeNumber_95 rfl (hI _ _).inR ⟨by decide, by decide⟩ (fun hcc => ?_) (fun hcc => ?_)
    · replace hT := hT.1 hcc
      exact r_vret dX1_writeNumber_139 rfl ⟨Nat.zero_le _, Nat.zero_le _⟩ ⟨rfl, rfl, hF, hT⟩
    · replace hT := hT.2 hcc
      refine r_aload_n dX1_writeNumber_98 rfl (i := 0) rfl ?_
      refine rr_getR (b := (m + 4)) dX1_writeNumber_99 fg_X1_18 rfl rfl (wX1_l hm) (wX1_s hm) (wX1_r3 hm) ?_
      refine r_aload_n dX1_writeNumber_102 rfl (i := 0) rfl ?_
      refine rr_getI (v := I m 4) dX1_writeNumber_103 fg_X1_143 rfl (wX1_l hm) (wX1_s hm) rfl ?_
      refine r_bipush (n := 48) dX1_writeNumber_106 (by decide +kernel) ?_
      refine r_iload dX1_writeNumber_108 (i := 4) rfl ?_
      refine r_iload dX1_writeNumber_110 (i := 6) rfl ?_
      obtain ⟨hc1, hT⟩ := hT
      refine r_idiv dX1_writeNumber_112 hx4 hx6 hc1 ?_
      refine r_bipush (n := 10) dX1_writeNumber_113 (by decide +kernel) ?_
      obtain ⟨hc2, hT⟩ := hT
      refine r_irem dX1_writeNumber_115 hc2 ⟨by decide, by decide⟩ (by decide) ?_
      refine r_iadd dX1_writeNumber_116 ?_
      refine r_i2b dX1_writeNumber_117 ?_
      obtain ⟨hc4, hT⟩ := hT
      refine rr_bastore dX1_writeNumber_118 (wX1_l3 hm) (wX1_a3 hm) (by decide) hc4 (j8_in _).2 (fun M5 eM5 => ?_)
      have hFM5 := jFr_up hF eM5 (wX1_f hm 4 (by decide))
      replace hT := hT M5 eM5
      refine jOk_mem (fun hIM5 => ?_)
      refine r_aload_n dX1_writeNumber_119 rfl (i := 0) rfl ?_
      refine r_dup dX1_writeNumber_120 rfl ?_
      refine rr_getI (v := I m 4) dX1_writeNumber_121 fg_X1_143 rfl (wX1_l hm) (wX1_s hm) (jr_na eM5 (by omega)) ?_
      refine r_iconst (n := 1) dX1_writeNumber_124 ?_
      refine r_iadd dX1_writeNumber_125 ?_
      obtain ⟨hc7, hT⟩ := hT
      refine rr_putI (jj := 4) dX1_writeNumber_126 fp_X1_143 rfl rfl (wX1_l hm) (wX1_s hm) hc7 (fun M6 eM6 => ?_)
      have hFM6 := jFr_up hFM5 eM6 (wX1_f hm 0 (by decide))
      replace hT := hT M6 eM6
      refine jOk_mem (fun hIM6 => ?_)
      refine r_iload dX1_writeNumber_129 (i := 6) rfl ?_
      refine r_bipush (n := 10) dX1_writeNumber_131 (by decide +kernel) ?_
      refine r_idiv dX1_writeNumber_133 hx6 ⟨by decide, by decide⟩ (by decide) ?_
      obtain ⟨hc9, hT⟩ := hT
      refine rr_istore (i := 6) (ls' := [VR m, VI x1, VI x2, VI x3, VI x4, VI x5, VI (Int.tdiv x6 10)]) dX1_writeNumber_134 (Nat.le_of_ble_eq_true rfl) rfl rfl hc9 ?_
      refine r_goto (tgt := 83) dX1_writeNumber_136 rfl ?_
      exact hT I0 hFM6
set_option maxRecDepth 20000 in
theorem st_X1_writeNumber_52 {E : jE} {G : jG} {I : jM} {q : jM → Prop} {m : Nat} {x1 : Int} {x2 : Int} {x3 : Int} {x4 : Int} {x5 : Int} (hm : WX1 G m) (hT : (∀ a j, jRg (G.2.1 a).1 (I a j)) → jIn x1 → jIn x2 → jIn x3 → jIn x4 → jIn x5 → ((1000000000 ≤ x5 → jOV E jB kX1_writeNumber 83 [VR m, VI x1, VI x2, VI x3, VI x4, VI x5, VI x5] G I q) ∧ (¬ 1000000000 ≤ x5 → x5 ≠ 0 ∧ jIn (Int.tdiv x4 x5) ∧ (((Int.tdiv x4 x5) < 10 → jOV E jB kX1_writeNumber 83 [VR m, VI x1, VI x2, VI x3, VI x4, VI x5, VI x5] G I q) ∧ (¬ (Int.tdiv x4 x5) < 10 → jIn (x5 * 10) ∧ jOV E jB kX1_writeNumber 52 [VR m, VI x1, VI x2, VI x3, VI x4, VI (x5 * 10), VN] G I q))))) : jOV E jB kX1_writeNumber 52 [VR m, VI x1, VI x2, VI x3, VI x4, VI x5, VN] G I q := by
  intro I0 hF
  refine jOk_mem (fun hI => ?_)
  refine jOk_in (i := 1) rfl (fun hx1 => ?_)
  refine jOk_in (i := 2) rfl (fun hx2 => ?_)
  refine jOk_in (i := 3) rfl (fun hx3 => ?_)
  refine jOk_in (i := 4) rfl (fun hx4 => ?_)
  refine jOk_in (i := 5) rfl (fun hx5 => ?_)
  replace hT := hT hI hx1 hx2 hx3 hx4 hx5
  refine r_iload dX1_writeNumber_52 (i := 5) rfl ?_
  refine r_ldc (n := 1000000000) dX1_writeNumber_54 cn_X1_185 ?_
  refine r_icmp_ge (tgt := 79) dX1_writeNumber_56 rfl hx5 ⟨by decide, by decide⟩ (fun hcc => ?_) (fun hcc => ?_)
  · replace hT := hT.1 hcc
    refine r_iload dX1_writeNumber_79 (i := 5) rfl ?_
    refine rr_istore (i := 6) (ls' := [VR m, VI x1, VI x2, VI x3, VI x4, VI x5, VI x5]) dX1_writeNumber_81 (Nat.le_of_ble_eq_true rfl) rfl rfl hx5 ?_
    exact hT I0 hF
  · replace hT := hT.2 hcc
    refine r_iload dX1_writeNumber_59 (i := 4) rfl ?_
    refine r_iload dX1_writeNumber_61 (i := 5) rfl ?_
    obtain ⟨hc1, hT⟩ := hT
    refine r_idiv dX1_writeNumber_63 hx4 hx5 hc1 ?_
    refine r_bipush (n := 10) dX1_writeNumber_64 (by decide +kernel) ?_
    obtain ⟨hc2, hT⟩ := hT
    refine r_icmp_lt (tgt := 79) dX1_writeNumber_66 rfl hc2 ⟨by decide, by decide⟩ (fun hcc => ?_) (fun hcc => ?_)
    · replace hT := hT.1 hcc
      refine r_iload dX1_writeNumber_79 (i := 5) rfl ?_
      refine rr_istore (i := 6) (ls' := [VR m, VI x1, VI x2, VI x3, VI x4, VI x5, VI x5]) dX1_writeNumber_81 (Nat.le_of_ble_eq_true rfl) rfl rfl hx5 ?_
      exact hT I0 hF
    · replace hT := hT.2 hcc
      refine r_iload dX1_writeNumber_69 (i := 5) rfl ?_
      refine r_bipush (n := 10) dX1_writeNumber_71 (by decide +kernel) ?_
      refine r_imul dX1_writeNumber_73 ?_
      obtain ⟨hc3, hT⟩ := hT
      refine rr_istore (i := 5) (ls' := [VR m, VI x1, VI x2, VI x3, VI x4, VI (x5 * 10), VN]) dX1_writeNumber_74 (Nat.le_of_ble_eq_true rfl) rfl rfl hc3 ?_
      refine r_goto (tgt := 52) dX1_writeNumber_76 rfl ?_
      exact hT I0 hF
set_option maxRecDepth 20000 in
theorem st_X1_writeNumber_6 {E : jE} {G : jG} {I : jM} {q : jM → Prop} {m : Nat} {x1 : Int} {x2 : Int} {x3 : Int} {x4 : Int} {x5 : Int} (hm : WX1 G m) (hT : (∀ a j, jRg (G.2.1 a).1 (I a j)) → jIn x1 → jIn x2 → jIn x3 → jIn x4 → jIn x5 → ((x2 ≤ x5 → jIn (x4 + x3) ∧ jOV E jB kX1_writeNumber 52 [VR m, VI x1, VI x2, VI x3, VI (max 0 (x4 + x3)), VI 1, VN] G I q) ∧ (¬ x2 ≤ x5 → (∃ b3 : Nat, I m 0 = (b3 : Int) ∧ WX4 G b3 ∧ ((0 : Int) ≤ x5 ∧ (x5 : Int) < 200) ∧ (((-128) ≤ (I (b3 + 1) x5) ∧ (I (b3 + 1) x5) ≤ 127) → jIn (((x4 * 10) + (I (b3 + 1) x5)) - 48) ∧ jIn (x5 + 1) ∧ jOV E jB kX1_writeNumber 6 [VR m, VI x1, VI x2, VI x3, VI (((x4 * 10) + (I (b3 + 1) x5)) - 48), VI (x5 + 1), VN] G I q))))) : jOV E jB kX1_writeNumber 6 [VR m, VI x1, VI x2, VI x3, VI x4, VI x5, VN] G I q := by
  intro I0 hF
  refine jOk_mem (fun hI => ?_)
  refine jOk_in (i := 1) rfl (fun hx1 => ?_)
  refine jOk_in (i := 2) rfl (fun hx2 => ?_)
  refine jOk_in (i := 3) rfl (fun hx3 => ?_)
  refine jOk_in (i := 4) rfl (fun hx4 => ?_)
  refine jOk_in (i := 5) rfl (fun hx5 => ?_)
  replace hT := hT hI hx1 hx2 hx3 hx4 hx5
  refine r_iload dX1_writeNumber_6 (i := 5) rfl ?_
  refine r_iload_n dX1_writeNumber_8 rfl (i := 2) rfl ?_
  refine r_icmp_ge (tgt := 39) dX1_writeNumber_9 rfl hx5 hx2 (fun hcc => ?_) (fun hcc => ?_)
  · replace hT := hT.1 hcc
    refine r_iconst (n := 0) dX1_writeNumber_39 ?_
    refine r_iload dX1_writeNumber_40 (i := 4) rfl ?_
    refine r_iload_n dX1_writeNumber_42 rfl (i := 3) rfl ?_
    refine r_iadd dX1_writeNumber_43 ?_
    obtain ⟨hc1, hT⟩ := hT
    have hc2 : jIn (max 0 (x4 + x3)) := j_max ⟨by decide, by decide⟩ hc1
    refine r_mmax (st := []) dX1_writeNumber_44 ml_X1_179 w_max ⟨Nat.le_of_ble_eq_true rfl, Nat.le_of_ble_eq_true rfl⟩ ⟨Nat.zero_le _, Nat.zero_le _⟩ ⟨by decide, by decide⟩ hc1 ?_
    refine rr_istore (i := 4) (ls' := [VR m, VI x1, VI x2, VI x3, VI (max 0 (x4 + x3)), VI x5, VN]) dX1_writeNumber_47 (Nat.le_of_ble_eq_true rfl) rfl rfl hc2 ?_
    refine r_iconst (n := 1) dX1_writeNumber_49 ?_
    refine rr_istore (i := 5) (ls' := [VR m, VI x1, VI x2, VI x3, VI (max 0 (x4 + x3)), VI 1, VN]) dX1_writeNumber_50 (Nat.le_of_ble_eq_true rfl) rfl rfl ⟨by decide, by decide⟩ ?_
    exact hT I0 hF
  · replace hT := hT.2 hcc
    refine r_iload dX1_writeNumber_12 (i := 4) rfl ?_
    refine r_bipush (n := 10) dX1_writeNumber_14 (by decide +kernel) ?_
    refine r_imul dX1_writeNumber_16 ?_
    refine r_aload_n dX1_writeNumber_17 rfl (i := 0) rfl ?_
    obtain ⟨b3, hc4, hc5, hT⟩ := hT
    refine rr_getM (b := b3) dX1_writeNumber_18 fg_X1_56 rfl rfl (wX1_l hm) (wX1_s hm) hc4 ?_
    refine rr_getR (b := (b3 + 1)) dX1_writeNumber_21 fg_X1_131 rfl rfl (wX4_l hc5) (wX4_s hc5) (wX4_r0 hc5) ?_
    refine r_iload dX1_writeNumber_24 (i := 5) rfl ?_
    obtain ⟨hc6, hT⟩ := hT
    refine rr_baload (v := I (b3 + 1) x5) dX1_writeNumber_26 (wX4_l0 hc5) (wX4_a0 hc5) (by decide) hc6 rfl (fun hr7 => ?_)
    replace hT := hT hr7
    refine r_iadd dX1_writeNumber_27 ?_
    refine r_bipush (n := 48) dX1_writeNumber_28 (by decide +kernel) ?_
    refine r_isub dX1_writeNumber_30 ?_
    obtain ⟨hc8, hT⟩ := hT
    refine rr_istore (i := 4) (ls' := [VR m, VI x1, VI x2, VI x3, VI (((x4 * 10) + (I (b3 + 1) x5)) - 48), VI x5, VN]) dX1_writeNumber_31 (Nat.le_of_ble_eq_true rfl) rfl rfl hc8 ?_
    obtain ⟨hc9, hT⟩ := hT
    refine rr_iinc (i := 5) (ls' := [VR m, VI x1, VI x2, VI x3, VI (((x4 * 10) + (I (b3 + 1) x5)) - 48), VI (x5 + 1), VN]) dX1_writeNumber_33 rfl (Nat.le_of_ble_eq_true rfl) rfl rfl hc9 ?_
    refine r_goto (tgt := 6) dX1_writeNumber_36 rfl ?_
    exact hT I0 hF
set_option maxRecDepth 20000 in
theorem st_X1_writeNumber_0 {E : jE} {G : jG} {I : jM} {q : jM → Prop} {m : Nat} {x1 : Int} {x2 : Int} {x3 : Int} (hm : WX1 G m) (hT : (∀ a j, jRg (G.2.1 a).1 (I a j)) → jIn x1 → jIn x2 → jIn x3 → jOV E jB kX1_writeNumber 6 [VR m, VI x1, VI x2, VI x3, VI 0, VI x1, VN] G I q) : jOV E jB kX1_writeNumber 0 [VR m, VI x1, VI x2, VI x3, VN, VN, VN] G I q := by
  intro I0 hF
  refine jOk_mem (fun hI => ?_)
  refine jOk_in (i := 1) rfl (fun hx1 => ?_)
  refine jOk_in (i := 2) rfl (fun hx2 => ?_)
  refine jOk_in (i := 3) rfl (fun hx3 => ?_)
  replace hT := hT hI hx1 hx2 hx3
  refine r_iconst (n := 0) dX1_writeNumber_0 ?_
  refine rr_istore (i := 4) (ls' := [VR m, VI x1, VI x2, VI x3, VI 0, VN, VN]) dX1_writeNumber_1 (Nat.le_of_ble_eq_true rfl) rfl rfl ⟨by decide, by decide⟩ ?_
  refine r_iload_n dX1_writeNumber_3 rfl (i := 1) rfl ?_
  refine rr_istore (i := 5) (ls' := [VR m, VI x1, VI x2, VI x3, VI 0, VI x1, VN]) dX1_writeNumber_4 (Nat.le_of_ble_eq_true rfl) rfl rfl hx1 ?_
  exact hT I0 hF
theorem en_X1_writeNumber {E : jE} {G : jG} {I : jM} {q : jM → Prop} {m : Nat} {x1 : Int} {x2 : Int} {x3 : Int} (hm : WX1 G m) (hT : (∀ a j, jRg (G.2.1 a).1 (I a j)) → jIn x1 → jIn x2 → jIn x3 → jOV E jB kX1_writeNumber 6 [VR m, VI x1, VI x2, VI x3, VI 0, VI x1, VN] G I q) : jRV E jB kX1_writeNumber [VR m, VI x1, VI x2, VI x3] G I q := jRun.of mt_X1_writeNumber.2.2.2 3 rfl (fun _ => st_X1_writeNumber_0 hm hT I (fun _ _ => rfl))
section CG
variable {E : jE} {G : jG} {φ p ρ : Nat} {I : jM} {X : Int → Int}
theorem cl_writeBytes (hm : WX1 G φ) {s ns : Nat} (ls : s < G.2.2) (ss : G.2.1 s = (101, ns)) (bs : (ns : Int) ≤ 2147483647) (hs : s ≠ φ + 4 ∧ s ≠ φ) {L : List Int} (hO : FO φ I L) {x y : Int} (x0 : 0 ≤ x) (xy : x ≤ y) (yn : y ≤ ns) {f : Int → Int} (hf : ∀ k, 0 ≤ k → k < y - x → I s (x + k) = f k) (hl : (L.length : Int) + (y - x) ≤ 1500) : jRV E jB kX1_writeBytes [VR φ, VR s, VI x, VI y] G I (fun I' => FO φ I' (L ++ stretch f (y - x)) ∧ WF φ I I') := by
  have loop : ∀ (d : Nat) (z : Int) (I1 : jM), x ≤ z → z + d = y → FO φ I1 (L ++ stretch f (z - x)) → WF φ I I1 → jOV E jB kX1_writeBytes 3 [VR φ, VR s, VI x, VI y, VI z] G I1 (fun I' => FO φ I' (L ++ stretch f (y - x)) ∧ WF φ I I') := by
    intro d
    induction d with
    | zero =>
      intro z I1 z0 z1 hO1 hW
      refine st_X1_writeBytes_3 hm ls ss bs (fun _ _ _ _ => ⟨fun _ => ⟨?_, hW⟩, fun q => absurd (by omega) q⟩)
      rw [show y = z by omega]
      exact hO1
    | succ d ih =>
      intro z I1 z0 z1 hO1 hW
      have e4 := hO1.1
      rw [List.length_append, stretch_len] at e4
      have ev : I1 s z = f (z - x) := by
        rw [hW s z hs.1 (Or.inl hs.2), ← hf (z - x) (by omega) (by omega)]
        congr 1
        omega
      refine st_X1_writeBytes_3 hm ls ss bs (fun _ _ _ _ => ⟨fun q => absurd q (by omega), fun _ => ⟨fun q => absurd q (by omega), fun _ => ⟨⟨by omega, by omega⟩, fun _ => ⟨⟨by omega, by omega⟩, fun M4 e4' => ⟨⟨by omega, by omega⟩, fun M5 e5 => ⟨⟨by omega, by omega⟩, ?_⟩⟩⟩⟩⟩⟩)
      have g := hO1.push e4' e5
      rw [ev, List.append_assoc, ← stretch_succ f (by omega), show z - x + 1 = z + 1 - x by omega] at g
      exact ih (z + 1) M5 (by omega) (by omega) g.1 (hW.trans g.2)
  exact en_X1_writeBytes hm ls ss bs (fun _ _ _ => loop (y - x).toNat x I (by omega) (by omega) (by rw [show x - x = 0 by omega, stretch_zero, List.append_nil]; exact hO) WF.rfl)
theorem cl_writeTurned (h : FC G φ p ρ X I) {L : List Int} (hO : FO φ I L) {x y : Int} (x0 : 0 ≤ x) (xy : x ≤ y) (y2 : y ≤ X 2) (hl : (L.length : Int) + (y - x) ≤ 1500) : jRV E jB kX1_writeTurned [VR φ, VI x, VI y] G I (fun I' => FO φ I' (L ++ stretch (fun k => X (10 + (x + (y - x - 1 - k)))) (y - x)) ∧ WF φ I I') := by
  have h' := h
  obtain ⟨⟨⟨hm, hp, hρ⟩, hd1, hd2⟩, ⟨k0, k1⟩, hP, hR, hT⟩ := h
  have h200 := hP.1.1
  have loop : ∀ (d : Nat) (z : Int) (I1 : jM), 0 ≤ z → z + d = y - x → FO φ I1 (L ++ stretch (fun k => X (10 + (x + (y - x - 1 - k)))) z) → WF φ I I1 → jOV E jB kX1_writeTurned 4 [VR φ, VI x, VI y, VI (y - 1 - z)] G I1 (fun I' => FO φ I' (L ++ stretch (fun k => X (10 + (x + (y - x - 1 - k)))) (y - x)) ∧ WF φ I I') := by
    intro d
    induction d with
    | zero =>
      intro z I1 z0 z1 hO1 hW
      refine st_X1_writeTurned_4 hm (fun _ _ _ _ => ⟨fun _ => ⟨?_, hW⟩, fun q => absurd (by omega) q⟩)
      rw [show y - x = z by omega] at hO1 ⊢
      exact hO1
    | succ d ih =>
      intro z I1 z0 z1 hO1 hW
      have e4 := hO1.1
      rw [List.length_append, stretch_len] at e4
      have hP1 := (h'.wf hW).2.2.1
      have ev : I1 (p + 1) (y - 1 - z) = X (10 + (x + (y - x - 1 - z))) := by
        rw [(hP1.1.2 _ (by omega) (by omega)).1]
        congr 1
        omega
      refine st_X1_writeTurned_4 hm (fun _ _ _ _ => ⟨fun q => absurd q (by omega), fun _ => ⟨fun q => absurd q (by omega), fun _ => ⟨p, (h'.wf hW).2.1.1, hp, ⟨by omega, by omega⟩, fun _ => ⟨⟨by omega, by omega⟩, fun M4 e4' => ⟨⟨by omega, by omega⟩, fun M5 e5 => ⟨⟨by omega, by omega⟩, ?_⟩⟩⟩⟩⟩⟩)
      have g := hO1.push e4' e5
      rw [ev, List.append_assoc, ← stretch_succ (fun k => X (10 + (x + (y - x - 1 - k)))) z0] at g
      rw [show y - 1 - z + -1 = y - 1 - (z + 1) by omega]
      exact ih (z + 1) M5 (by omega) (by omega) g.1 (hW.trans g.2)
  refine en_X1_writeTurned hm (fun _ _ _ => ⟨⟨by omega, by omega⟩, ?_⟩)
  have := loop (y - x).toNat 0 I (by omega) (by omega) (by rw [stretch_zero, List.append_nil]; exact hO) WF.rfl
  rw [show y - 1 - 0 = y - 1 by omega] at this
  exact this
theorem cl_wnDec (hm : WX1 G φ) {x1 x2 x3 v x5 : Int} (hv : 0 ≤ v ∧ v ≤ 1000000000) {q : jM → Prop} : ∀ (j : Nat) (L : List Int) (I : jM), j ≤ 9 → FO φ I L → L.length + j + 1 ≤ 1500 → (∀ I', FO φ I' (L ++ decL j v) → WF φ I I' → q I') → jOV E jB kX1_writeNumber 83 [VR φ, VI x1, VI x2, VI x3, VI v, VI x5, VI (pw j)] G I q := by
  intro j
  induction j with
  | zero =>
    intro L I hj hO hl hq
    have e4 := hO.1
    have e1 : v.tdiv (pw 0) = v := by show v.tdiv 1 = v; exact Int.tdiv_one v
    have g1 := Int.tmod_lt_of_pos v (b := 10) (by decide)
    have g2 := Int.tmod_nonneg (a := v) 10 hv.1
    refine st_X1_writeNumber_83 hm (fun _ _ _ _ _ _ _ => ⟨fun q => absurd q (by decide), fun _ => ⟨fun q => absurd q (by omega), fun _ => ⟨by decide, ?_⟩⟩⟩)
    rw [e1]
    refine ⟨⟨by omega, by omega⟩, ⟨by omega, by omega⟩, fun M5 e5 => ⟨⟨by omega, by omega⟩, fun M6 e6 => ⟨⟨by decide, by decide⟩, ?_⟩⟩⟩
    rw [jb8_id (by omega)] at e5
    have g := hO.push e5 e6
    refine st_X1_writeNumber_83 hm (fun _ _ _ _ _ _ _ => ⟨fun _ => hq M6 ?_ g.2, fun q => absurd (by decide) q⟩)
    have e2 : decL 0 v = [48 + v.tmod 10] := by show [48 + (v.tdiv 1).tmod 10] = _; rw [Int.tdiv_one]
    rw [e2]
    exact g.1
  | succ j ih =>
    intro L I hj hO hl hq
    have e4 := hO.1
    have p1 := pw_pos (j + 1)
    have p2 := pw_pos j
    have p3 := pw_le (j + 1) hj
    have d0 : 0 ≤ v.tdiv (pw (j + 1)) := Int.tdiv_nonneg hv.1 (by omega)
    have d1 : v.tdiv (pw (j + 1)) ≤ v := Int.tdiv_le_self (pw (j + 1)) hv.1
    have g1 := Int.tmod_lt_of_pos (v.tdiv (pw (j + 1))) (b := 10) (by decide)
    have g2 := Int.tmod_nonneg (a := v.tdiv (pw (j + 1))) 10 d0
    have e1 : (pw (j + 1)).tdiv 10 = pw j := by
      show (10 * pw j).tdiv 10 = pw j
      exact Int.mul_tdiv_cancel_left _ (by decide)
    refine st_X1_writeNumber_83 hm (fun _ _ _ _ _ _ _ => ⟨fun q => absurd q (by omega), fun _ => ⟨fun q => absurd q (by omega), fun _ => ⟨by omega, ⟨by omega, by omega⟩, ⟨by omega, by omega⟩, fun M5 e5 => ⟨⟨by omega, by omega⟩, fun M6 e6 => ?_⟩⟩⟩⟩)
    rw [jb8_id (by omega)] at e5
    have g := hO.push e5 e6
    rw [e1]
    refine ⟨⟨by omega, by have := pw_le j (by omega); omega⟩, ih _ M6 (by omega) g.1 (by simp; omega) (fun I' h6 h7 => hq I' ?_ (g.2.trans h7))⟩
    rw [List.append_assoc] at h6
    exact h6
theorem cl_wnTen (hm : WX1 G φ) {x1 x2 x3 v : Int} (hv : 0 ≤ v ∧ v ≤ 1000000000) {q : jM → Prop} {L : List Int} (hO : FO φ I L) (hl : L.length + 10 ≤ 1500) (hq : ∀ I', FO φ I' (L ++ num v) → WF φ I I' → q I') : ∀ (d j : Nat), j + d = 9 → tn d j v = tn 9 0 v → jOV E jB kX1_writeNumber 52 [VR φ, VI x1, VI x2, VI x3, VI v, VI (pw j), VN] G I q := by
  intro d
  induction d with
  | zero =>
    intro j hj ht
    have e9 : j = 9 := by omega
    subst e9
    have e : pw 9 = 1000000000 := rfl
    refine st_X1_writeNumber_52 hm (fun _ _ _ _ _ _ => ⟨fun _ => ?_, fun q => absurd (by omega) q⟩)
    refine cl_wnDec hm hv 9 L I (by omega) hO (by omega) (fun I' h1 h2 => hq I' ?_ h2)
    unfold num
    rw [← ht]
    exact h1
  | succ d ih =>
    intro j hj ht
    have p1 := pw_pos j
    have p3 : pw j ≤ 100000000 := by
      have := pw_le (j + 1) (by omega)
      have e : pw (j + 1) = 10 * pw j := rfl
      omega
    have d0 : 0 ≤ v.tdiv (pw j) := Int.tdiv_nonneg hv.1 (by omega)
    have d1 : v.tdiv (pw j) ≤ v := Int.tdiv_le_self (pw j) hv.1
    refine st_X1_writeNumber_52 hm (fun _ _ _ _ _ _ => ⟨fun q => absurd q (by omega), fun _ => ⟨by omega, ⟨by omega, by omega⟩, fun h => ?_, fun h => ⟨?_, ?_⟩⟩⟩)
    · refine cl_wnDec hm hv j L I (by omega) hO (by omega) (fun I' h1 h2 => hq I' ?_ h2)
      have e : tn (d + 1) j v = j := by unfold tn; rw [if_pos (by omega)]
      unfold num
      rw [← ht, e]
      exact h1
    · exact ⟨by omega, by omega⟩
    · have e : tn (d + 1) j v = tn d (j + 1) v := by
        show (if v.tdiv (pw j) ≤ 9 then j else tn d (j + 1) v) = _
        rw [if_neg (by omega)]
      have e2 : pw j * 10 = pw (j + 1) := by show pw j * 10 = 10 * pw j; omega
      rw [e2]
      exact ih (j + 1) (by omega) (by rw [← e]; exact ht)
theorem cl_writeNumber (h : FC G φ p ρ X I) {L : List Int} (hO : FO φ I L) {x y w : Int} (x0 : 0 ≤ x) (xy : x ≤ y) (y2 : y ≤ X 2) (h9 : y - x ≤ 9) (hd : ∀ k, 0 ≤ k → k < y - x → 48 ≤ X (10 + (x + k)) ∧ X (10 + (x + k)) ≤ 57) (hw : w = 1 ∨ w = -1) (hl : L.length + 10 ≤ 1500) : jRV E jB kX1_writeNumber [VR φ, VI x, VI y, VI w] G I (fun I' => FO φ I' (L ++ num (max 0 (nv (fun k => X (10 + (x + k))) (y - x).toNat + w))) ∧ WF φ I I') := by
  have h' := h
  obtain ⟨⟨⟨hm, hp, hρ⟩, hd1, hd2⟩, ⟨k0, k1⟩, hP, hR, hT⟩ := h
  have h200 := hP.1.1
  have bd := nv_bd (T := fun k => X (10 + (x + k))) (L := y - x) hd
  have loop : ∀ (d c : Nat), (c : Int) + d = y - x → jOV E jB kX1_writeNumber 6 [VR φ, VI x, VI y, VI w, VI (nv (fun k => X (10 + (x + k))) c), VI (x + c), VN] G I (fun I' => FO φ I' (L ++ num (max 0 (nv (fun k => X (10 + (x + k))) (y - x).toNat + w))) ∧ WF φ I I') := by
    intro d
    induction d with
    | zero =>
      intro c hc
      have ec : (y - x).toNat = c := by omega
      have g := bd c (by omega)
      have g2 := pw_le c (by omega)
      refine st_X1_writeNumber_6 hm (fun _ _ _ _ _ _ => ⟨fun _ => ⟨⟨by omega, by omega⟩, ?_⟩, fun q => absurd (by omega) q⟩)
      rw [ec]
      exact cl_wnTen hm ⟨by omega, by omega⟩ hO hl (fun I' h1 h2 => ⟨h1, h2⟩) 9 0 (by omega) rfl
    | succ d ih =>
      intro c hc
      have ev : I (p + 1) (x + c) = X (10 + (x + c)) := (hP.1.2 _ (by omega) (by omega)).1
      have g := bd (c + 1) (by omega)
      have g2 := pw_le (c + 1) (by omega)
      refine st_X1_writeNumber_6 hm (fun _ _ _ _ _ _ => ⟨fun q => absurd q (by omega), fun _ => ⟨p, k0, hp, ⟨by omega, by omega⟩, fun _ => ?_⟩⟩)
      have e : nv (fun k => X (10 + (x + k))) c * 10 + I (p + 1) (x + c) - 48 = nv (fun k => X (10 + (x + k))) (c + 1) := by
        rw [ev]
        show _ = 10 * nv (fun k => X (10 + (x + k))) c + X (10 + (x + (c : Int))) - 48
        omega
      rw [e, show x + (c : Int) + 1 = x + ((c + 1 : Nat) : Int) by omega]
      exact ⟨⟨by omega, by omega⟩, ⟨by omega, by omega⟩, ih (c + 1) (by omega)⟩
  refine en_X1_writeNumber hm (fun _ _ _ _ => ?_)
  have := loop (y - x).toNat 0 (by omega)
  rw [show x + ((0 : Nat) : Int) = x by omega] at this
  exact this
end CG
theorem pouts_mono {S b : Int → Int} {r t : Int} : ∀ (d c : Nat), (pouts S b r t c).length ≤ (pouts S b r t (c + d)).length := by
  intro d
  induction d with
  | zero => intro c; exact Nat.le_refl _
  | succ d ih =>
    intro c
    have e : pouts S b r t (c + (d + 1)) = pouts S b r t (c + d) ++ pout S b r t ((c + d : Nat) : Int) := rfl
    rw [e, List.length_append]
    have := ih c
    omega
theorem srt_of_fig {S : Int → Int} {n : Int} {b : Int → Int} {T : Int → Int} {len : Int} (hTk : Tk T len n b) {t k : Int} (t0 : 0 ≤ t) (t1 : t < n) (k0 : 0 ≤ k) (k1 : k < b (t + 1) - b t) : srt (T (b t + k)) = srt (T (b t)) := (hTk.2.2.2 t t0 t1).2.2.1 (b t + k) (by omega) (by omega)
set_option maxRecDepth 20000 in
theorem st_X1_writeFresh_7 {E : jE} {G : jG} {I : jM} {q : jM → Prop} {m : Nat} {x1 : Int} {x2 : Int} {x3 : Int} (hm : WX1 G m) (hT : (∀ a j, jRg (G.2.1 a).1 (I a j)) → jIn x1 → jIn x2 → jIn x3 → (∃ b1 : Nat, I m 1 = (b1 : Int) ∧ WX6 G b1 ∧ ((0 : Int) ≤ x1 ∧ (x1 : Int) < 6) ∧ (((I (b1 + 4) x1) ≤ x3 → q I) ∧ (¬ (I (b1 + 4) x1) ≤ x3 → (∃ b5 : Nat, I m 1 = (b5 : Int) ∧ WX6 G b5 ∧ ((0 : Int) ≤ ((x1 * 6) + x3) ∧ (((x1 * 6) + x3) : Int) < 36) ∧ (∃ b9 : Nat, I m 1 = (b9 : Int) ∧ WX6 G b9 ∧ ((0 : Int) ≤ ((x1 * 6) + x3) ∧ (((x1 * 6) + x3) : Int) < 36) ∧ ((¬ (I (b5 + 10) ((x1 * 6) + x3)) = 4 → ((0 : Int) ≤ (x2 + (I (b9 + 11) ((x1 * 6) + x3))) ∧ ((x2 + (I (b9 + 11) ((x1 * 6) + x3))) : Int) < 201) ∧ ((0 : Int) ≤ ((x2 + (I (b9 + 11) ((x1 * 6) + x3))) + 1) ∧ (((x2 + (I (b9 + 11) ((x1 * 6) + x3))) + 1) : Int) < 201) ∧ ((¬ (I (b5 + 10) ((x1 * 6) + x3)) = 3 → (((I (b5 + 10) ((x1 * 6) + x3)) = 0 → (∃ b15 : Nat, I m 0 = (b15 : Int) ∧ WX4 G b15 ∧ jRV E jB kX1_writeBytes [VR m, VR (b15 + 1), VI (I (m + 2) (x2 + (I (b9 + 11) ((x1 * 6) + x3)))), VI (I (m + 2) ((x2 + (I (b9 + 11) ((x1 * 6) + x3))) + 1))] G I (fun I18 => jIn (x3 + 1) ∧ jOV E jB kX1_writeFresh 7 [VR m, VI x1, VI x2, VI (x3 + 1), VN, VN, VN, VN] G I18 q))) ∧ (¬ (I (b5 + 10) ((x1 * 6) + x3)) = 0 → jIn ((I (m + 2) ((x2 + (I (b9 + 11) ((x1 * 6) + x3))) + 1)) - (I (m + 2) (x2 + (I (b9 + 11) ((x1 * 6) + x3))))) ∧ ((((I (m + 2) ((x2 + (I (b9 + 11) ((x1 * 6) + x3))) + 1)) - (I (m + 2) (x2 + (I (b9 + 11) ((x1 * 6) + x3))))) ≤ 9 → ((¬ (I (b5 + 10) ((x1 * 6) + x3)) = 1 → jRV E jB kX1_writeNumber [VR m, VI (I (m + 2) (x2 + (I (b9 + 11) ((x1 * 6) + x3)))), VI (I (m + 2) ((x2 + (I (b9 + 11) ((x1 * 6) + x3))) + 1)), VI (-1)] G I (fun I21 => jIn (x3 + 1) ∧ jOV E jB kX1_writeFresh 7 [VR m, VI x1, VI x2, VI (x3 + 1), VN, VN, VN, VN] G I21 q)) ∧ ((I (b5 + 10) ((x1 * 6) + x3)) = 1 → jRV E jB kX1_writeNumber [VR m, VI (I (m + 2) (x2 + (I (b9 + 11) ((x1 * 6) + x3)))), VI (I (m + 2) ((x2 + (I (b9 + 11) ((x1 * 6) + x3))) + 1)), VI 1] G I (fun I23 => jIn (x3 + 1) ∧ jOV E jB kX1_writeFresh 7 [VR m, VI x1, VI x2, VI (x3 + 1), VN, VN, VN, VN] G I23 q)))) ∧ (¬ ((I (m + 2) ((x2 + (I (b9 + 11) ((x1 * 6) + x3))) + 1)) - (I (m + 2) (x2 + (I (b9 + 11) ((x1 * 6) + x3))))) ≤ 9 → (∃ b25 : Nat, I m 0 = (b25 : Int) ∧ WX4 G b25 ∧ jRV E jB kX1_writeBytes [VR m, VR (b25 + 1), VI (I (m + 2) (x2 + (I (b9 + 11) ((x1 * 6) + x3)))), VI (I (m + 2) ((x2 + (I (b9 + 11) ((x1 * 6) + x3))) + 1))] G I (fun I28 => jIn (x3 + 1) ∧ jOV E jB kX1_writeFresh 7 [VR m, VI x1, VI x2, VI (x3 + 1), VN, VN, VN, VN] G I28 q))))))) ∧ ((I (b5 + 10) ((x1 * 6) + x3)) = 3 → jRV E jB kX1_writeTurned [VR m, VI (I (m + 2) (x2 + (I (b9 + 11) ((x1 * 6) + x3)))), VI (I (m + 2) ((x2 + (I (b9 + 11) ((x1 * 6) + x3))) + 1))] G I (fun I30 => jIn (x3 + 1) ∧ jOV E jB kX1_writeFresh 7 [VR m, VI x1, VI x2, VI (x3 + 1), VN, VN, VN, VN] G I30 q)))) ∧ ((I (b5 + 10) ((x1 * 6) + x3)) = 4 → (∃ b32 : Nat, I m 1 = (b32 : Int) ∧ WX6 G b32 ∧ (∃ b35 : Nat, I m 1 = (b35 : Int) ∧ WX6 G b35 ∧ ((0 : Int) ≤ ((x1 * 6) + x3) ∧ (((x1 * 6) + x3) : Int) < 36) ∧ jRV E jB kX1_writeBytes [VR m, VR (b32 + 1), VI (I (b9 + 11) ((x1 * 6) + x3)), VI (I (b35 + 12) ((x1 * 6) + x3))] G I (fun I39 => jIn (x3 + 1) ∧ jOV E jB kX1_writeFresh 7 [VR m, VI x1, VI x2, VI (x3 + 1), VN, VN, VN, VN] G I39 q))))))))))) : jOV E jB kX1_writeFresh 7 [VR m, VI x1, VI x2, VI x3, VN, VN, VN, VN] G I q := by
  intro I0 hF
  refine jOk_mem (fun hI => ?_)
  refine jOk_in (i := 1) rfl (fun hx1 => ?_)
  refine jOk_in (i := 2) rfl (fun hx2 => ?_)
  refine jOk_in (i := 3) rfl (fun hx3 => ?_)
  replace hT := hT hI hx1 hx2 hx3
  refine r_iload_n dX1_writeFresh_7 rfl (i := 3) rfl ?_
  refine r_aload_n dX1_writeFresh_8 rfl (i := 0) rfl ?_
  obtain ⟨b1, hc2, hc3, hT⟩ := hT
  refine rr_getM (b := b1) dX1_writeFresh_9 fg_X1_61 rfl rfl (wX1_l hm) (wX1_s hm) hc2 ?_
  refine rr_getR (b := (b1 + 4)) dX1_writeFresh_12 fg_X1_157 rfl rfl (wX6_l hc3) (wX6_s hc3) (wX6_r4 hc3) ?_
  refine r_iload_n dX1_writeFresh_15 rfl (i := 1) rfl ?_
  obtain ⟨hc4, hT⟩ := hT
  refine rr_iaload (v := I (b1 + 4) x1) dX1_writeFresh_16 (wX6_l4 hc3) (wX6_a4 hc3) (by decide) hc4 rfl ?_
  refine r_icmp_ge (tgt := 193) dX1_writeFresh_17 rfl hx3 (hI _ _).inR (fun hcc => ?_) (fun hcc => ?_)
  · replace hT := hT.1 hcc
    exact r_vret dX1_writeFresh_193 rfl ⟨Nat.zero_le _, Nat.zero_le _⟩ ⟨rfl, rfl, hF, hT⟩
  · replace hT := hT.2 hcc
    refine r_aload_n dX1_writeFresh_20 rfl (i := 0) rfl ?_
    obtain ⟨b5, hc6, hc7, hT⟩ := hT
    refine rr_getM (b := b5) dX1_writeFresh_21 fg_X1_61 rfl rfl (wX1_l hm) (wX1_s hm) hc6 ?_
    refine rr_getR (b := (b5 + 10)) dX1_writeFresh_24 fg_X1_160 rfl rfl (wX6_l hc7) (wX6_s hc7) (wX6_r10 hc7) ?_
    refine r_iload_n dX1_writeFresh_27 rfl (i := 1) rfl ?_
    refine r_bipush (n := 6) dX1_writeFresh_28 (by decide +kernel) ?_
    refine r_imul dX1_writeFresh_30 ?_
    refine r_iload_n dX1_writeFresh_31 rfl (i := 3) rfl ?_
    refine r_iadd dX1_writeFresh_32 ?_
    obtain ⟨hc8, hT⟩ := hT
    refine rr_iaload (v := I (b5 + 10) ((x1 * 6) + x3)) dX1_writeFresh_33 (wX6_l10 hc7) (wX6_a10 hc7) (by decide) hc8 rfl ?_
    refine rr_istore (i := 4) (ls' := [VR m, VI x1, VI x2, VI x3, VI (I (b5 + 10) ((x1 * 6) + x3)), VN, VN, VN]) dX1_writeFresh_34 (Nat.le_of_ble_eq_true rfl) rfl rfl (hI _ _).inR ?_
    refine r_aload_n dX1_writeFresh_36 rfl (i := 0) rfl ?_
    obtain ⟨b9, hc10, hc11, hT⟩ := hT
    refine rr_getM (b := b9) dX1_writeFresh_37 fg_X1_61 rfl rfl (wX1_l hm) (wX1_s hm) hc10 ?_
    refine rr_getR (b := (b9 + 11)) dX1_writeFresh_40 fg_X1_163 rfl rfl (wX6_l hc11) (wX6_s hc11) (wX6_r11 hc11) ?_
    refine r_iload_n dX1_writeFresh_43 rfl (i := 1) rfl ?_
    refine r_bipush (n := 6) dX1_writeFresh_44 (by decide +kernel) ?_
    refine r_imul dX1_writeFresh_46 ?_
    refine r_iload_n dX1_writeFresh_47 rfl (i := 3) rfl ?_
    refine r_iadd dX1_writeFresh_48 ?_
    obtain ⟨hc12, hT⟩ := hT
    refine rr_iaload (v := I (b9 + 11) ((x1 * 6) + x3)) dX1_writeFresh_49 (wX6_l11 hc11) (wX6_a11 hc11) (by decide) hc12 rfl ?_
    refine rr_istore (i := 5) (ls' := [VR m, VI x1, VI x2, VI x3, VI (I (b5 + 10) ((x1 * 6) + x3)), VI (I (b9 + 11) ((x1 * 6) + x3)), VN, VN]) dX1_writeFresh_50 (Nat.le_of_ble_eq_true rfl) rfl rfl (hI _ _).inR ?_
    refine r_iload dX1_writeFresh_52 (i := 4) rfl ?_
    refine r_iconst (n := 4) dX1_writeFresh_54 ?_
    refine r_icmp_ne (tgt := 88) dX1_writeFresh_55 rfl (hI _ _).inR ⟨by decide, by decide⟩ (fun hcc => ?_) (fun hcc => ?_)
    · replace hT := hT.1 hcc
      refine r_aload_n dX1_writeFresh_88 rfl (i := 0) rfl ?_
      refine rr_getR (b := (m + 1)) dX1_writeFresh_89 fg_X1_12 rfl rfl (wX1_l hm) (wX1_s hm) (wX1_r2 hm) ?_
      refine rr_getR (b := (m + 2)) dX1_writeFresh_92 fg_X1_134 rfl rfl (wX8_l (wX1_o2 hm)) (wX8_s (wX1_o2 hm)) (wX8_r0 (wX1_o2 hm)) ?_
      refine r_iload_n dX1_writeFresh_95 rfl (i := 2) rfl ?_
      refine r_iload dX1_writeFresh_96 (i := 5) rfl ?_
      refine r_iadd dX1_writeFresh_98 ?_
      obtain ⟨hc13, hT⟩ := hT
      refine rr_iaload (v := I (m + 2) (x2 + (I (b9 + 11) ((x1 * 6) + x3)))) dX1_writeFresh_99 (wX8_l0 (wX1_o2 hm)) (wX8_a0 (wX1_o2 hm)) (by decide) hc13 rfl ?_
      refine rr_istore (i := 6) (ls' := [VR m, VI x1, VI x2, VI x3, VI (I (b5 + 10) ((x1 * 6) + x3)), VI (I (b9 + 11) ((x1 * 6) + x3)), VI (I (m + 2) (x2 + (I (b9 + 11) ((x1 * 6) + x3)))), VN]) dX1_writeFresh_100 (Nat.le_of_ble_eq_true rfl) rfl rfl (hI _ _).inR ?_
      refine r_aload_n dX1_writeFresh_102 rfl (i := 0) rfl ?_
      refine rr_getR (b := (m + 1)) dX1_writeFresh_103 fg_X1_12 rfl rfl (wX1_l hm) (wX1_s hm) (wX1_r2 hm) ?_
      refine rr_getR (b := (m + 2)) dX1_writeFresh_106 fg_X1_134 rfl rfl (wX8_l (wX1_o2 hm)) (wX8_s (wX1_o2 hm)) (wX8_r0 (wX1_o2 hm)) ?_
      refine r_iload_n dX1_writeFresh_109 rfl (i := 2) rfl ?_
      refine r_iload dX1_writeFresh_110 (i := 5) rfl ?_
      refine r_iadd dX1_writeFresh_112 ?_
      refine r_iconst (n := 1) dX1_writeFresh_113 ?_
      refine r_iadd dX1_writeFresh_114 ?_
      obtain ⟨hc14, hT⟩ := hT
      refine rr_iaload (v := I (m + 2) ((x2 + (I (b9 + 11) ((x1 * 6) + x3))) + 1)) dX1_writeFresh_115 (wX8_l0 (wX1_o2 hm)) (wX8_a0 (wX1_o2 hm)) (by decide) hc14 rfl ?_
      refine rr_istore (i := 7) (ls' := [VR m, VI x1, VI x2, VI x3, VI (I (b5 + 10) ((x1 * 6) + x3)), VI (I (b9 + 11) ((x1 * 6) + x3)), VI (I (m + 2) (x2 + (I (b9 + 11) ((x1 * 6) + x3)))), VI (I (m + 2) ((x2 + (I (b9 + 11) ((x1 * 6) + x3))) + 1))]) dX1_writeFresh_116 (Nat.le_of_ble_eq_true rfl) rfl rfl (hI _ _).inR ?_
      refine r_iload dX1_writeFresh_118 (i := 4) rfl ?_
      refine r_iconst (n := 3) dX1_writeFresh_120 ?_
      refine r_icmp_ne (tgt := 135) dX1_writeFresh_121 rfl (hI _ _).inR ⟨by decide, by decide⟩ (fun hcc => ?_) (fun hcc => ?_)
      · replace hT := hT.1 hcc
        refine r_iload dX1_writeFresh_135 (i := 4) rfl ?_
        refine r_if_eq (tgt := 150) dX1_writeFresh_137 rfl (hI _ _).inR (fun hcc => ?_) (fun hcc => ?_)
        · replace hT := hT.1 hcc
          refine r_aload_n dX1_writeFresh_150 rfl (i := 0) rfl ?_
          refine r_aload_n dX1_writeFresh_151 rfl (i := 0) rfl ?_
          obtain ⟨b15, hc16, hc17, hT⟩ := hT
          refine rr_getM (b := b15) dX1_writeFresh_152 fg_X1_56 rfl rfl (wX1_l hm) (wX1_s hm) hc16 ?_
          refine rr_getR (b := (b15 + 1)) dX1_writeFresh_155 fg_X1_131 rfl rfl (wX4_l hc17) (wX4_s hc17) (wX4_r0 hc17) ?_
          refine r_iload dX1_writeFresh_158 (i := 6) rfl ?_
          refine r_iload dX1_writeFresh_160 (i := 7) rfl ?_
          refine rr_cVV (a := m) (as := [VR (b15 + 1), VI (I (m + 2) (x2 + (I (b9 + 11) ((x1 * 6) + x3)))), VI (I (m + 2) ((x2 + (I (b9 + 11) ((x1 * 6) + x3))) + 1))]) (st := []) dX1_writeFresh_162 mt_X1_writeBytes ml_X1_169 mi_X1_writeBytes rm_X1_writeFresh_X1_writeBytes jz_X1_writeBytes ⟨Nat.zero_le _, Nat.zero_le _⟩ (Nat.le_of_ble_eq_true rfl) (wX1_l hm) (wX1_c hm) (jasR (jasI (hI _ _).inR (jasI (hI _ _).inR jas0))) hT (fun I18 hFI18 hT => ?_)
          replace hFI18 := jFr_tr hF hFI18
          refine jOk_mem (fun hI18 => ?_)
          refine r_goto (tgt := 187) dX1_writeFresh_165 rfl ?_
          obtain ⟨hc19, hT⟩ := hT
          refine rr_iinc (i := 3) (ls' := [VR m, VI x1, VI x2, VI (x3 + 1), VI (I (b5 + 10) ((x1 * 6) + x3)), VI (I (b9 + 11) ((x1 * 6) + x3)), VI (I (m + 2) (x2 + (I (b9 + 11) ((x1 * 6) + x3)))), VI (I (m + 2) ((x2 + (I (b9 + 11) ((x1 * 6) + x3))) + 1))]) dX1_writeFresh_187 rfl (Nat.le_of_ble_eq_true rfl) rfl rfl hc19 ?_
          refine r_goto (tgt := 7) dX1_writeFresh_190 rfl ?_
          exact jOk_le (ls' := [VR m, VI x1, VI x2, VI (x3 + 1), VN, VN, VN, VN]) ⟨Or.inr rfl, Or.inr rfl, Or.inr rfl, Or.inr rfl, Or.inl rfl, Or.inl rfl, Or.inl rfl, Or.inl rfl, trivial⟩ (hT I0 hFI18)
        · replace hT := hT.2 hcc
          refine r_iload dX1_writeFresh_140 (i := 7) rfl ?_
          refine r_iload dX1_writeFresh_142 (i := 6) rfl ?_
          refine r_isub dX1_writeFresh_144 ?_
          refine r_bipush (n := 9) dX1_writeFresh_145 (by decide +kernel) ?_
          obtain ⟨hc20, hT⟩ := hT
          refine r_icmp_le (tgt := 168) dX1_writeFresh_147 rfl hc20 ⟨by decide, by decide⟩ (fun hcc => ?_) (fun hcc => ?_)
          · replace hT := hT.1 hcc
            refine r_aload_n dX1_writeFresh_168 rfl (i := 0) rfl ?_
            refine r_iload dX1_writeFresh_169 (i := 6) rfl ?_
            refine r_iload dX1_writeFresh_171 (i := 7) rfl ?_
            refine r_iload dX1_writeFresh_173 (i := 4) rfl ?_
            refine r_iconst (n := 1) dX1_writeFresh_175 ?_
            refine r_icmp_ne (tgt := 183) dX1_writeFresh_176 rfl (hI _ _).inR ⟨by decide, by decide⟩ (fun hcc => ?_) (fun hcc => ?_)
            · replace hT := hT.1 hcc
              refine r_iconst (n := (-1)) dX1_writeFresh_183 ?_
              refine rr_cVV (a := m) (as := [VI (I (m + 2) (x2 + (I (b9 + 11) ((x1 * 6) + x3)))), VI (I (m + 2) ((x2 + (I (b9 + 11) ((x1 * 6) + x3))) + 1)), VI (-1)]) (st := []) dX1_writeFresh_184 mt_X1_writeNumber ml_X1_176 mi_X1_writeNumber rm_X1_writeFresh_X1_writeNumber jz_X1_writeNumber ⟨Nat.zero_le _, Nat.zero_le _⟩ (Nat.le_of_ble_eq_true rfl) (wX1_l hm) (wX1_c hm) (jasI (hI _ _).inR (jasI (hI _ _).inR (jasI ⟨by decide, by decide⟩ jas0))) hT (fun I21 hFI21 hT => ?_)
              replace hFI21 := jFr_tr hF hFI21
              refine jOk_mem (fun hI21 => ?_)
              obtain ⟨hc22, hT⟩ := hT
              refine rr_iinc (i := 3) (ls' := [VR m, VI x1, VI x2, VI (x3 + 1), VI (I (b5 + 10) ((x1 * 6) + x3)), VI (I (b9 + 11) ((x1 * 6) + x3)), VI (I (m + 2) (x2 + (I (b9 + 11) ((x1 * 6) + x3)))), VI (I (m + 2) ((x2 + (I (b9 + 11) ((x1 * 6) + x3))) + 1))]) dX1_writeFresh_187 rfl (Nat.le_of_ble_eq_true rfl) rfl rfl hc22 ?_
              refine r_goto (tgt := 7) dX1_writeFresh_190 rfl ?_
              exact jOk_le (ls' := [VR m, VI x1, VI x2, VI (x3 + 1), VN, VN, VN, VN]) ⟨Or.inr rfl, Or.inr rfl, Or.inr rfl, Or.inr rfl, Or.inl rfl, Or.inl rfl, Or.inl rfl, Or.inl rfl, trivial⟩ (hT I0 hFI21)
            · replace hT := hT.2 hcc
              refine r_iconst (n := 1) dX1_writeFresh_179 ?_
              refine r_goto (tgt := 184) dX1_writeFresh_180 rfl ?_
              refine rr_cVV (a := m) (as := [VI (I (m + 2) (x2 + (I (b9 + 11) ((x1 * 6) + x3)))), VI (I (m + 2) ((x2 + (I (b9 + 11) ((x1 * 6) + x3))) + 1)), VI 1]) (st := []) dX1_writeFresh_184 mt_X1_writeNumber ml_X1_176 mi_X1_writeNumber rm_X1_writeFresh_X1_writeNumber jz_X1_writeNumber ⟨Nat.zero_le _, Nat.zero_le _⟩ (Nat.le_of_ble_eq_true rfl) (wX1_l hm) (wX1_c hm) (jasI (hI _ _).inR (jasI (hI _ _).inR (jasI ⟨by decide, by decide⟩ jas0))) hT (fun I23 hFI23 hT => ?_)
              replace hFI23 := jFr_tr hF hFI23
              refine jOk_mem (fun hI23 => ?_)
              obtain ⟨hc24, hT⟩ := hT
              refine rr_iinc (i := 3) (ls' := [VR m, VI x1, VI x2, VI (x3 + 1), VI (I (b5 + 10) ((x1 * 6) + x3)), VI (I (b9 + 11) ((x1 * 6) + x3)), VI (I (m + 2) (x2 + (I (b9 + 11) ((x1 * 6) + x3)))), VI (I (m + 2) ((x2 + (I (b9 + 11) ((x1 * 6) + x3))) + 1))]) dX1_writeFresh_187 rfl (Nat.le_of_ble_eq_true rfl) rfl rfl hc24 ?_
              refine r_goto (tgt := 7) dX1_writeFresh_190 rfl ?_
              exact jOk_le (ls' := [VR m, VI x1, VI x2, VI (x3 + 1), VN, VN, VN, VN]) ⟨Or.inr rfl, Or.inr rfl, Or.inr rfl, Or.inr rfl, Or.inl rfl, Or.inl rfl, Or.inl rfl, Or.inl rfl, trivial⟩ (hT I0 hFI23)
          · replace hT := hT.2 hcc
            refine r_aload_n dX1_writeFresh_150 rfl (i := 0) rfl ?_
            refine r_aload_n dX1_writeFresh_151 rfl (i := 0) rfl ?_
            obtain ⟨b25, hc26, hc27, hT⟩ := hT
            refine rr_getM (b := b25) dX1_writeFresh_152 fg_X1_56 rfl rfl (wX1_l hm) (wX1_s hm) hc26 ?_
            refine rr_getR (b := (b25 + 1)) dX1_writeFresh_155 fg_X1_131 rfl rfl (wX4_l hc27) (wX4_s hc27) (wX4_r0 hc27) ?_
            refine r_iload dX1_writeFresh_158 (i := 6) rfl ?_
            refine r_iload dX1_writeFresh_160 (i := 7) rfl ?_
            refine rr_cVV (a := m) (as := [VR (b25 + 1), VI (I (m + 2) (x2 + (I (b9 + 11) ((x1 * 6) + x3)))), VI (I (m + 2) ((x2 + (I (b9 + 11) ((x1 * 6) + x3))) + 1))]) (st := []) dX1_writeFresh_162 mt_X1_writeBytes ml_X1_169 mi_X1_writeBytes rm_X1_writeFresh_X1_writeBytes jz_X1_writeBytes ⟨Nat.zero_le _, Nat.zero_le _⟩ (Nat.le_of_ble_eq_true rfl) (wX1_l hm) (wX1_c hm) (jasR (jasI (hI _ _).inR (jasI (hI _ _).inR jas0))) hT (fun I28 hFI28 hT => ?_)
            replace hFI28 := jFr_tr hF hFI28
            refine jOk_mem (fun hI28 => ?_)
            refine r_goto (tgt := 187) dX1_writeFresh_165 rfl ?_
            obtain ⟨hc29, hT⟩ := hT
            refine rr_iinc (i := 3) (ls' := [VR m, VI x1, VI x2, VI (x3 + 1), VI (I (b5 + 10) ((x1 * 6) + x3)), VI (I (b9 + 11) ((x1 * 6) + x3)), VI (I (m + 2) (x2 + (I (b9 + 11) ((x1 * 6) + x3)))), VI (I (m + 2) ((x2 + (I (b9 + 11) ((x1 * 6) + x3))) + 1))]) dX1_writeFresh_187 rfl (Nat.le_of_ble_eq_true rfl) rfl rfl hc29 ?_
            refine r_goto (tgt := 7) dX1_writeFresh_190 rfl ?_
            exact jOk_le (ls' := [VR m, VI x1, VI x2, VI (x3 + 1), VN, VN, VN, VN]) ⟨Or.inr rfl, Or.inr rfl, Or.inr rfl, Or.inr rfl, Or.inl rfl, Or.inl rfl, Or.inl rfl, Or.inl rfl, trivial⟩ (hT I0 hFI28)
      · replace hT := hT.2 hcc
        refine r_aload_n dX1_writeFresh_124 rfl (i := 0) rfl ?_
        refine r_iload dX1_writeFresh_125 (i := 6) rfl ?_
        refine r_iload dX1_writeFresh_127 (i := 7) rfl ?_
        refine rr_cVV (a := m) (as := [VI (I (m + 2) (x2 + (I (b9 + 11) ((x1 * 6) + x3)))), VI (I (m + 2) ((x2 + (I (b9 + 11) ((x1 * 6) + x3))) + 1))]) (st := []) dX1_writeFresh_129 mt_X1_writeTurned ml_X1_173 mi_X1_writeTurned rm_X1_writeFresh_X1_writeTurned jz_X1_writeTurned ⟨Nat.zero_le _, Nat.zero_le _⟩ (Nat.le_of_ble_eq_true rfl) (wX1_l hm) (wX1_c hm) (jasI (hI _ _).inR (jasI (hI _ _).inR jas0)) hT (fun I30 hFI30 hT => ?_)
        replace hFI30 := jFr_tr hF hFI30
        refine jOk_mem (fun hI30 => ?_)
        refine r_goto (tgt := 187) dX1_writeFresh_132 rfl ?_
        obtain ⟨hc31, hT⟩ := hT
        refine rr_iinc (i := 3) (ls' := [VR m, VI x1, VI x2, VI (x3 + 1), VI (I (b5 + 10) ((x1 * 6) + x3)), VI (I (b9 + 11) ((x1 * 6) + x3)), VI (I (m + 2) (x2 + (I (b9 + 11) ((x1 * 6) + x3)))), VI (I (m + 2) ((x2 + (I (b9 + 11) ((x1 * 6) + x3))) + 1))]) dX1_writeFresh_187 rfl (Nat.le_of_ble_eq_true rfl) rfl rfl hc31 ?_
        refine r_goto (tgt := 7) dX1_writeFresh_190 rfl ?_
        exact jOk_le (ls' := [VR m, VI x1, VI x2, VI (x3 + 1), VN, VN, VN, VN]) ⟨Or.inr rfl, Or.inr rfl, Or.inr rfl, Or.inr rfl, Or.inl rfl, Or.inl rfl, Or.inl rfl, Or.inl rfl, trivial⟩ (hT I0 hFI30)
    · replace hT := hT.2 hcc
      refine r_aload_n dX1_writeFresh_58 rfl (i := 0) rfl ?_
      refine r_aload_n dX1_writeFresh_59 rfl (i := 0) rfl ?_
      obtain ⟨b32, hc33, hc34, hT⟩ := hT
      refine rr_getM (b := b32) dX1_writeFresh_60 fg_X1_61 rfl rfl (wX1_l hm) (wX1_s hm) hc33 ?_
      refine rr_getR (b := (b32 + 1)) dX1_writeFresh_63 fg_X1_118 rfl rfl (wX6_l hc34) (wX6_s hc34) (wX6_r0 hc34) ?_
      refine r_iload dX1_writeFresh_66 (i := 5) rfl ?_
      refine r_aload_n dX1_writeFresh_68 rfl (i := 0) rfl ?_
      obtain ⟨b35, hc36, hc37, hT⟩ := hT
      refine rr_getM (b := b35) dX1_writeFresh_69 fg_X1_61 rfl rfl (wX1_l hm) (wX1_s hm) hc36 ?_
      refine rr_getR (b := (b35 + 12)) dX1_writeFresh_72 fg_X1_166 rfl rfl (wX6_l hc37) (wX6_s hc37) (wX6_r12 hc37) ?_
      refine r_iload_n dX1_writeFresh_75 rfl (i := 1) rfl ?_
      refine r_bipush (n := 6) dX1_writeFresh_76 (by decide +kernel) ?_
      refine r_imul dX1_writeFresh_78 ?_
      refine r_iload_n dX1_writeFresh_79 rfl (i := 3) rfl ?_
      refine r_iadd dX1_writeFresh_80 ?_
      obtain ⟨hc38, hT⟩ := hT
      refine rr_iaload (v := I (b35 + 12) ((x1 * 6) + x3)) dX1_writeFresh_81 (wX6_l12 hc37) (wX6_a12 hc37) (by decide) hc38 rfl ?_
      refine rr_cVV (a := m) (as := [VR (b32 + 1), VI (I (b9 + 11) ((x1 * 6) + x3)), VI (I (b35 + 12) ((x1 * 6) + x3))]) (st := []) dX1_writeFresh_82 mt_X1_writeBytes ml_X1_169 mi_X1_writeBytes rm_X1_writeFresh_X1_writeBytes jz_X1_writeBytes ⟨Nat.zero_le _, Nat.zero_le _⟩ (Nat.le_of_ble_eq_true rfl) (wX1_l hm) (wX1_c hm) (jasR (jasI (hI _ _).inR (jasI (hI _ _).inR jas0))) hT (fun I39 hFI39 hT => ?_)
      replace hFI39 := jFr_tr hF hFI39
      refine jOk_mem (fun hI39 => ?_)
      refine r_goto (tgt := 187) dX1_writeFresh_85 rfl ?_
      obtain ⟨hc40, hT⟩ := hT
      refine rr_iinc (i := 3) (ls' := [VR m, VI x1, VI x2, VI (x3 + 1), VI (I (b5 + 10) ((x1 * 6) + x3)), VI (I (b9 + 11) ((x1 * 6) + x3)), VN, VN]) dX1_writeFresh_187 rfl (Nat.le_of_ble_eq_true rfl) rfl rfl hc40 ?_
      refine r_goto (tgt := 7) dX1_writeFresh_190 rfl ?_
      exact jOk_le (ls' := [VR m, VI x1, VI x2, VI (x3 + 1), VN, VN, VN, VN]) ⟨Or.inr rfl, Or.inr rfl, Or.inr rfl, Or.inr rfl, Or.inl rfl, Or.inl rfl, Or.inl rfl, Or.inl rfl, trivial⟩ (hT I0 hFI39)
set_option maxRecDepth 20000 in
theorem st_X1_writeFresh_0 {E : jE} {G : jG} {I : jM} {q : jM → Prop} {m : Nat} {x1 : Int} {x2 : Int} (hm : WX1 G m) (hT : (∀ a j, jRg (G.2.1 a).1 (I a j)) → jIn x1 → jIn x2 → (∀ M1, M1 = jup I m 4 0 → jOV E jB kX1_writeFresh 7 [VR m, VI x1, VI x2, VI 0, VN, VN, VN, VN] G M1 q)) : jOV E jB kX1_writeFresh 0 [VR m, VI x1, VI x2, VN, VN, VN, VN, VN] G I q := by
  intro I0 hF
  refine jOk_mem (fun hI => ?_)
  refine jOk_in (i := 1) rfl (fun hx1 => ?_)
  refine jOk_in (i := 2) rfl (fun hx2 => ?_)
  replace hT := hT hI hx1 hx2
  refine r_aload_n dX1_writeFresh_0 rfl (i := 0) rfl ?_
  refine r_iconst (n := 0) dX1_writeFresh_1 ?_
  refine rr_putI (jj := 4) dX1_writeFresh_2 fp_X1_143 rfl rfl (wX1_l hm) (wX1_s hm) ⟨by decide, by decide⟩ (fun M1 eM1 => ?_)
  have hFM1 := jFr_up hF eM1 (wX1_f hm 0 (by decide))
  replace hT := hT M1 eM1
  refine jOk_mem (fun hIM1 => ?_)
  refine r_iconst (n := 0) dX1_writeFresh_5 ?_
  refine rr_istore_n (i := 3) (ls' := [VR m, VI x1, VI x2, VI 0, VN, VN, VN, VN]) dX1_writeFresh_6 rfl (Nat.le_of_ble_eq_true rfl) rfl rfl ⟨by decide, by decide⟩ ?_
  exact hT I0 hFM1
theorem en_X1_writeFresh {E : jE} {G : jG} {I : jM} {q : jM → Prop} {m : Nat} {x1 : Int} {x2 : Int} (hm : WX1 G m) (hT : (∀ a j, jRg (G.2.1 a).1 (I a j)) → jIn x1 → jIn x2 → (∀ M1, M1 = jup I m 4 0 → jOV E jB kX1_writeFresh 7 [VR m, VI x1, VI x2, VI 0, VN, VN, VN, VN] G M1 q)) : jRV E jB kX1_writeFresh [VR m, VI x1, VI x2] G I q := jRun.of mt_X1_writeFresh.2.2.2 5 rfl (fun _ => st_X1_writeFresh_0 hm hT I (fun _ _ => rfl))
section CH
variable {E : jE} {G : jG} {φ p ρ : Nat} {I : jM} {X : Int → Int}
theorem cl_writeFresh (h : FC G φ p ρ X I) (hQ : QW X) {r t : Int} (hr : 0 ≤ r ∧ r < X 4) (t0 : 0 ≤ t) (hF : Fit X (nT X) (bT X) r t) : jRV E jB kX1_writeFresh [VR φ, VI r, VI t] G I (fun I' => FO φ I' (Out X (bT X) r t) ∧ WF φ I I') := by
  have h' := h
  obtain ⟨⟨⟨hm, hp, hρ⟩, hd1, hd2⟩, ⟨k0, k1⟩, hP, hR, hT⟩ := h
  have hsp : p + 1 ≠ φ + 4 ∧ p + 1 ≠ φ := by omega
  have hsr : ρ + 1 ≠ φ + 4 ∧ ρ + 1 ≠ φ := by omega
  have hk := tkS (S := X) hQ.1.1
  have hn := hk.n_le
  have h200 := hQ.1
  have h6 := hQ.2.1.2.1
  have hw := hQ.2.1.2.2 r hr.1 hr.2
  have hOl := Out_len hk hQ.1.2 hw t0 hF.1
  obtain ⟨w1, w2, w3, w4, w5, w6, w7⟩ := hw
  have e517 := (hR.2.1 r hr.1 hr.2).2.2.1
  have loop : ∀ (d c : Nat) (I1 : jM), (c : Int) + d = X (517 + 40 * r) → FC G φ p ρ X I1 → FO φ I1 (pouts X (bT X) r t c) → WF φ I I1 → jOV E jB kX1_writeFresh 7 [VR φ, VI r, VI t, VI c, VN, VN, VN, VN] G I1 (fun I' => FO φ I' (Out X (bT X) r t) ∧ WF φ I I') := by
    intro d
    induction d with
    | zero =>
      intro c I1 hc hC hO hW
      have ec : (X (517 + 40 * r)).toNat = c := by omega
      have e4 : I1 (ρ + 4) r = X (517 + 40 * r) := (hC.2.2.2.1.2.1 r hr.1 hr.2).2.2.1
      refine st_X1_writeFresh_7 hm (fun _ _ _ _ => ⟨ρ, hC.2.1.2, hρ, ⟨by omega, by omega⟩, fun _ => ⟨?_, hW⟩, fun q => absurd (by omega) q⟩)
      unfold Out
      rw [ec]
      exact hO
    | succ d ih =>
      intro c I1 hc hC hO hW
      have k0' := hC.2.1.1
      have k1' := hC.2.1.2
      have hT1 := hC.2.2.2.2
      have hP1 := hC.2.2.1
      obtain ⟨-, -, e4, -, hq⟩ := hC.2.2.2.1.2.1 r hr.1 hr.2
      obtain ⟨u1, u2, u3⟩ := hq c (by omega) (by omega)
      obtain ⟨v0, v1, v2, v3, v4⟩ := w6 c (by omega) (by omega)
      have v0' : 0 ≤ X (536 + 40 * r + 3 * (c : Int) + 0) := v0
      have v1' : X (536 + 40 * r + 3 * (c : Int) + 0) ≤ 7 := v1
      have ex : r * 6 + (c : Int) = 6 * r + c := by omega
      have hlen : (pouts X (bT X) r t c).length + (pout X (bT X) r t c).length ≤ 1500 := by
        have := pouts_mono (S := X) (b := bT X) (r := r) (t := t) d (c + 1)
        have e : pouts X (bT X) r t (c + 1) = pouts X (bT X) r t c ++ pout X (bT X) r t c := rfl
        rw [e, List.length_append] at this
        have e2 : c + 1 + d = (X (517 + 40 * r)).toNat := by omega
        rw [e2] at this
        unfold Out at hOl
        omega
      -- on to the next part
      have nx : ∀ I2, FO φ I2 (pouts X (bT X) r t c ++ pout X (bT X) r t c) → WF φ I1 I2 → jIn ((c : Int) + 1) ∧ jOV E jB kX1_writeFresh 7 [VR φ, VI r, VI t, VI ((c : Int) + 1), VN, VN, VN, VN] G I2 (fun I' => FO φ I' (Out X (bT X) r t) ∧ WF φ I I') := by
        intro I2 hO2 hW2
        have e2 : (c : Int) + 1 = ((c + 1 : Nat) : Int) := by omega
        rw [e2]
        exact ⟨⟨by omega, by omega⟩, ih (c + 1) I2 (by omega) (hC.wf hW2) hO2 (hW.trans hW2)⟩
      refine st_X1_writeFresh_7 hm (fun _ _ _ _ => ⟨ρ, k1', hρ, ⟨by omega, by omega⟩, fun q => absurd q (by omega), fun _ => ⟨ρ, k1', hρ, ⟨by omega, by omega⟩, ρ, k1', hρ, ⟨by omega, by omega⟩, ?_⟩⟩)
      rw [ex, u1]
      have pk4 : pkd (X (536 + 40 * r + 3 * (c : Int) + 0)) = 4 ↔ X (536 + 40 * r + 3 * (c : Int) + 0) = 4 := by
        unfold pkd
        split
        · simp only [*]
        · split
          · omega
          · split
            · omega
            · split <;> omega
      refine ⟨fun q4 => ?_, fun q4 => ?_⟩
      · have n4 : X (536 + 40 * r + 3 * (c : Int) + 0) ≠ 4 := fun q => q4 (pk4.mpr q)
        have u3' := u3 n4
        obtain ⟨y0, y3, e, e0, e1, ek⟩ := v4 n4
        have hk1 := isK_of e0 e1 ek
        have y0' : 0 ≤ X (536 + 40 * r + 3 * (c : Int) + 1) := y0
        have y3' : X (536 + 40 * r + 3 * (c : Int) + 1) ≤ 3 := y3
        rw [u3']
        have hpo : pout X (bT X) r t c = (let u := t + fk X r (4 * pbase (X (536 + 40 * r + 3 * (c : Int) + 0)) + X (536 + 40 * r + 3 * (c : Int) + 1))
          if (X (536 + 40 * r + 3 * (c : Int) + 0) = 5 ∨ X (536 + 40 * r + 3 * (c : Int) + 0) = 6) ∧ bT X (u + 1) - bT X u ≤ 9 then num (max 0 (nv (fun k => X (10 + (bT X u + k))) (bT X (u + 1) - bT X u).toNat + (if X (536 + 40 * r + 3 * (c : Int) + 0) = 5 then 1 else -1)))
          else if X (536 + 40 * r + 3 * (c : Int) + 0) = 7 then stretch (fun k => X (10 + (bT X u + (bT X (u + 1) - bT X u - 1 - k)))) (bT X (u + 1) - bT X u)
          else stretch (fun k => X (10 + (bT X u + k))) (bT X (u + 1) - bT X u)) := by
          unfold pout
          rw [if_neg n4]
        have hk1' := hk1
        have hkey : key X r (fk X r (4 * pbase (X (536 + 40 * r + 3 * (c : Int) + 0)) + X (536 + 40 * r + 3 * (c : Int) + 1))) = 4 * pbase (X (536 + 40 * r + 3 * (c : Int) + 0)) + X (536 + 40 * r + 3 * (c : Int) + 1) := hk1.2.2.1
        have f0 := hk1.1
        have f1 := hk1.2.1
        generalize fk X r (4 * pbase (X (536 + 40 * r + 3 * (c : Int) + 0)) + X (536 + 40 * r + 3 * (c : Int) + 1)) = e' at *
        have b0 := hk.bd (t := t + e') (by omega) (by have := hF.1; omega)
        have b1 := hk.bd (t := t + e' + 1) (by omega) (by have := hF.1; omega)
        have b2 := hk.slt (t := t + e') (u := t + e' + 1) (by omega) (by omega) (by have := hF.1; omega)
        have c0 : I1 (φ + 2) (t + e') = bT X (t + e') := hT1.2.1 _ (by omega) (by have := hF.1; omega)
        have c1 : I1 (φ + 2) (t + e' + 1) = bT X (t + e' + 1) := hT1.2.1 _ (by omega) (by have := hF.1; omega)
        have hFn := hF.1
        rw [c0, c1]
        -- the bytes as they are
        have plain : (∀ (_ : ¬ ((X (536 + 40 * r + 3 * (c : Int) + 0) = 5 ∨ X (536 + 40 * r + 3 * (c : Int) + 0) = 6) ∧ bT X (t + e' + 1) - bT X (t + e') ≤ 9)), X (536 + 40 * r + 3 * (c : Int) + 0) ≠ 7 → jRV E jB kX1_writeBytes [VR φ, VR (p + 1), VI (bT X (t + e')), VI (bT X (t + e' + 1))] G I1 (fun I18 => jIn ((c : Int) + 1) ∧ jOV E jB kX1_writeFresh 7 [VR φ, VI r, VI t, VI ((c : Int) + 1), VN, VN, VN, VN] G I18 (fun I' => FO φ I' (Out X (bT X) r t) ∧ WF φ I I'))) := by
          intro hno h7
          have ep : pout X (bT X) r t c = stretch (fun k => X (10 + (bT X (t + e') + k))) (bT X (t + e' + 1) - bT X (t + e')) := by
            rw [hpo]
            show (if _ then _ else if _ then _ else _) = _
            rw [if_neg hno, if_neg h7]
          have el := hlen
          rw [ep, stretch_len] at el
          refine (cl_writeBytes hm (wX4_l0 hp) (wX4_a0 hp) (by decide) hsp hO b0.1 (by omega) (by show _ ≤ (200 : Int); omega) (f := fun k => X (10 + (bT X (t + e') + k))) (fun k a b => (hP1.1.2 _ (by omega) (by omega)).1) (by omega)).mono (fun I2 _ g => ?_)
          rw [← ep] at g
          exact nx I2 g.1 g.2
        refine ⟨⟨by omega, by omega⟩, ⟨by omega, by omega⟩, fun q3 => ⟨fun q0 => ⟨p, k0', hp, ?_⟩, fun q0 => ⟨⟨by omega, by omega⟩, fun q9 => ?_, fun q9 => ⟨p, k0', hp, ?_⟩⟩⟩, fun q3 => ?_⟩
        · have h5 : X (536 + 40 * r + 3 * (c : Int) + 0) ≠ 5 ∧ X (536 + 40 * r + 3 * (c : Int) + 0) ≠ 6 ∧ X (536 + 40 * r + 3 * (c : Int) + 0) ≠ 7 := by
            refine ⟨fun g => ?_, fun g => ?_, fun g => ?_⟩ <;> · rw [g] at q0; exact absurd q0 (by decide)
          exact plain (fun g => by omega) h5.2.2
        · have h56 : X (536 + 40 * r + 3 * (c : Int) + 0) = 5 ∨ X (536 + 40 * r + 3 * (c : Int) + 0) = 6 := by
            unfold pkd at q0 q3
            rw [if_neg n4] at q0 q3
            split at q0
            · exact Or.inl (by assumption)
            · rename_i g5
              rw [if_neg g5] at q3
              split at q0
              · exact Or.inr (by assumption)
              · rename_i g6
                rw [if_neg g6] at q3
                split at q0
                · rename_i g7
                  rw [if_pos g7] at q3
                  exact absurd rfl q3
                · exact absurd rfl q0
          have hb1 : pbase (X (536 + 40 * r + 3 * (c : Int) + 0)) = 1 := by
            unfold pbase
            rw [if_neg (by omega), if_pos (by omega)]
          rw [hb1] at hkey
          have hs1 : srt (X (10 + bT X (t + e'))) = 1 := by
            have wE := w5 e' f0 (by omega)
            have a0 : 0 ≤ X (518 + 40 * r + 3 * e' + 0) := wE.1
            unfold key at hkey
            split at hkey
            · rename_i g2
              have wn := wE.2.2.1 g2
              have a1 : 0 ≤ X (518 + 40 * r + 3 * e' + 1) ∧ X (518 + 40 * r + 3 * e' + 1) ≤ 3 := wn
              have es : X (518 + 40 * r + 3 * e' + 0) = 1 := by omega
              rw [((hF.2 e' f0 f1).2 (by omega)).1, es]
            · omega
          have hfig : ∀ k, 0 ≤ k → k < bT X (t + e' + 1) - bT X (t + e') → 48 ≤ X (10 + (bT X (t + e') + k)) ∧ X (10 + (bT X (t + e') + k)) ≤ 57 := fun k a b => srt_fig (by rw [show srt (X (10 + (bT X (t + e') + k))) = srt (X (10 + bT X (t + e'))) from srt_of_fig (S := X) hk (by omega) (by omega) a b]; exact hs1)
          have ep : pout X (bT X) r t c = num (max 0 (nv (fun k => X (10 + (bT X (t + e') + k))) (bT X (t + e' + 1) - bT X (t + e')).toNat + (if X (536 + 40 * r + 3 * (c : Int) + 0) = 5 then 1 else -1))) := by
            rw [hpo]
            show (if _ then _ else if _ then _ else _) = _
            rw [if_pos ⟨h56, q9⟩]
          have hl10 : (pouts X (bT X) r t c).length + 10 ≤ 1500 := by
            have := pouts_len hk hQ.1.2 ⟨w1, w2, w3, w4, w5, w6, w7⟩ t0 hF.1 c (by omega) 300 (by omega) (fun p' p0 p1 p4 => ((w6 p' p0 (by omega)).2.2.2.1 p4).2.2)
            omega
          refine ⟨fun q1 => ?_, fun q1 => ?_⟩
          · have h5 : X (536 + 40 * r + 3 * (c : Int) + 0) ≠ 5 := fun g => by rw [g] at q1; exact absurd rfl q1
            rw [if_neg h5] at ep
            refine (cl_writeNumber hC hO b0.1 (by omega) (by omega) q9 hfig (Or.inr rfl) hl10).mono (fun I2 _ g => ?_)
            rw [← ep] at g
            exact nx I2 g.1 g.2
          · have h5 : X (536 + 40 * r + 3 * (c : Int) + 0) = 5 := by
              rcases h56 with g | g
              · exact g
              · rw [g] at q1
                exact absurd q1 (by decide)
            rw [if_pos h5] at ep
            refine (cl_writeNumber hC hO b0.1 (by omega) (by omega) q9 hfig (Or.inl rfl) hl10).mono (fun I2 _ g => ?_)
            rw [← ep] at g
            exact nx I2 g.1 g.2
        · exact plain (fun g => by omega) (fun g => by rw [g] at q3; exact absurd rfl q3)
        · have h7 : X (536 + 40 * r + 3 * (c : Int) + 0) = 7 := by
            unfold pkd at q3
            rw [if_neg n4] at q3
            split at q3
            · omega
            · split at q3
              · omega
              · split at q3
                · assumption
                · omega
          have ep : pout X (bT X) r t c = stretch (fun k => X (10 + (bT X (t + e') + (bT X (t + e' + 1) - bT X (t + e') - 1 - k)))) (bT X (t + e' + 1) - bT X (t + e')) := by
            rw [hpo]
            show (if _ then _ else if _ then _ else _) = _
            rw [if_neg (by omega), if_pos h7]
          have el := hlen
          rw [ep, stretch_len] at el
          refine (cl_writeTurned hC hO b0.1 (by omega) (by omega) (by omega)).mono (fun I2 _ g => ?_)
          rw [← ep] at g
          exact nx I2 g.1 g.2
      · have q4' := pk4.mp q4
        obtain ⟨a1, a2, a3⟩ := u2 q4'
        have v3' := v3 q4'
        have ep : pout X (bT X) r t c = stretch (fun k => X (754 + X (536 + 40 * r + 3 * (c : Int) + 1) + k)) (X (536 + 40 * r + 3 * (c : Int) + 2)) := by
          unfold pout
          rw [if_pos q4']
        have el := hlen
        rw [ep, stretch_len] at el
        refine ⟨ρ, k1', hρ, ρ, k1', hρ, ⟨by omega, by omega⟩, ?_⟩
        rw [a1, a2]
        refine (cl_writeBytes hm (wX6_l0 hρ) (wX6_a0 hρ) (by decide) hsr hO v3'.1 (by omega) (by show _ ≤ (300 : Int); omega) (f := fun k => X (754 + X (536 + 40 * r + 3 * (c : Int) + 1) + k)) (fun k a b => a3 k a (by omega)) (by omega)).mono (fun I2 _ g => ?_)
        rw [show X (536 + 40 * r + 3 * (c : Int) + 1) + X (536 + 40 * r + 3 * (c : Int) + 2) - X (536 + 40 * r + 3 * (c : Int) + 1) = X (536 + 40 * r + 3 * (c : Int) + 2) by omega, ← ep] at g
        exact nx I2 g.1 g.2
  refine en_X1_writeFresh hm (fun _ _ _ M1 e1 => ?_)
  have hW : WF φ I M1 := fun a j ha hb => by
    rcases hb with hb | hb
    · exact jr_na e1 hb
    · exact jr_nj e1 hb
  exact loop (X (517 + 40 * r)).toNat 0 M1 (by omega) (h'.wf hW) ⟨jr_eq e1, fun i hi => absurd hi (Nat.not_lt_zero i)⟩ hW
end CH
