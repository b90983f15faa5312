set_option maxRecDepth 20000 in
theorem st_X10_isFree_0 {E : jE} {G : jG} {I : jM} {q : Int → jM → Prop} {m : Nat} {x1 : Int} (hm : WX10 G m) (hT : (∀ a j, jRg (G.2.1 a).1 (I a j)) → jIn x1 → ((0 : Int) ≤ x1 ∧ (x1 : Int) < 1200) ∧ ((0 ≤ (I (m + 13) x1) ∧ (I (m + 13) x1) ≤ 1) → ((¬ (I (m + 13) x1) = 0 → q 0 I) ∧ ((I (m + 13) x1) = 0 → ((0 : Int) ≤ x1 ∧ (x1 : Int) < 1200) ∧ ((0 ≤ (I (m + 14) x1) ∧ (I (m + 14) x1) ≤ 1) → ((¬ (I (m + 14) x1) = 0 → q 0 I) ∧ ((I (m + 14) x1) = 0 → q 1 I))))))) : jOI E (jA m) kX10_isFree 0 [VR m, VI x1] G I q := by
  intro I0 hF
  refine jOk_mem (fun hI => ?_)
  refine jOk_in (i := 1) rfl (fun hx1 => ?_)
  replace hT := hT hI hx1
  refine r_aload_n dX10_isFree_0 rfl (i := 0) rfl ?_
  refine rr_getR (b := (m + 13)) dX10_isFree_1 fg_X10_46 rfl rfl (wX10_l hm) (wX10_s hm) (wX10_r14 hm) ?_
  refine r_iload_n dX10_isFree_4 rfl (i := 1) rfl ?_
  obtain ⟨hc1, hT⟩ := hT
  refine rr_zaload (v := I (m + 13) x1) dX10_isFree_5 (wX10_l14 hm) (wX10_a14 hm) (by decide) hc1 rfl (fun hr2 => ?_)
  replace hT := hT hr2
  refine r_if_ne (tgt := 22) dX10_isFree_6 rfl (hI _ _).inR (fun hcc => ?_) (fun hcc => ?_)
  · replace hT := hT.1 hcc
    refine r_iconst (n := 0) dX10_isFree_22 ?_
    exact r_zret dX10_isFree_23 rfl ⟨by decide, by decide⟩ ⟨Nat.zero_le _, Nat.zero_le _⟩ ⟨_, rfl, rfl, hF, hT⟩
  · replace hT := hT.2 hcc
    refine r_aload_n dX10_isFree_9 rfl (i := 0) rfl ?_
    refine rr_getR (b := (m + 14)) dX10_isFree_10 fg_X10_50 rfl rfl (wX10_l hm) (wX10_s hm) (wX10_r15 hm) ?_
    refine r_iload_n dX10_isFree_13 rfl (i := 1) rfl ?_
    obtain ⟨hc3, hT⟩ := hT
    refine rr_zaload (v := I (m + 14) x1) dX10_isFree_14 (wX10_l15 hm) (wX10_a15 hm) (by decide) hc3 rfl (fun hr4 => ?_)
    replace hT := hT hr4
    refine r_if_ne (tgt := 22) dX10_isFree_15 rfl (hI _ _).inR (fun hcc => ?_) (fun hcc => ?_)
    · replace hT := hT.1 hcc
      refine r_iconst (n := 0) dX10_isFree_22 ?_
      exact r_zret dX10_isFree_23 rfl ⟨by decide, by decide⟩ ⟨Nat.zero_le _, Nat.zero_le _⟩ ⟨_, rfl, rfl, hF, hT⟩
    · replace hT := hT.2 hcc
      refine r_iconst (n := 1) dX10_isFree_18 ?_
      refine r_goto (tgt := 23) dX10_isFree_19 rfl ?_
      exact r_zret dX10_isFree_23 rfl ⟨by decide, by decide⟩ ⟨Nat.zero_le _, Nat.zero_le _⟩ ⟨_, rfl, rfl, hF, hT⟩
theorem en_X10_isFree {E : jE} {G : jG} {I : jM} {q : Int → jM → Prop} {m : Nat} {x1 : Int} (hm : WX10 G m) (hT : (∀ a j, jRg (G.2.1 a).1 (I a j)) → jIn x1 → ((0 : Int) ≤ x1 ∧ (x1 : Int) < 1200) ∧ ((0 ≤ (I (m + 13) x1) ∧ (I (m + 13) x1) ≤ 1) → ((¬ (I (m + 13) x1) = 0 → q 0 I) ∧ ((I (m + 13) x1) = 0 → ((0 : Int) ≤ x1 ∧ (x1 : Int) < 1200) ∧ ((0 ≤ (I (m + 14) x1) ∧ (I (m + 14) x1) ≤ 1) → ((¬ (I (m + 14) x1) = 0 → q 0 I) ∧ ((I (m + 14) x1) = 0 → q 1 I))))))) : jRI E (jA m) kX10_isFree [VR m, VI x1] G I q := jRun.of mt_X10_isFree.2.2.2 0 rfl (fun _ => st_X10_isFree_0 hm hT I (fun _ _ => rfl))
theorem sp_X10_isFree {E : jE} {G : jG} {I : jM} {m : Nat} (hm : WX10 G m) {f : Int} (h : 0 ≤ f ∧ f < 1200) : jRI E (jA m) kX10_isFree [VR m, VI f] G I (fun x I' => x = jI (I (m + 13) f = 0 ∧ I (m + 14) f = 0) ∧ I' = I) := en_X10_isFree hm (fun _ _ => ⟨h, fun _ => ⟨fun q => ⟨(jI_neg (fun g => q g.1)).symm, rfl⟩, fun q => ⟨h, fun _ => ⟨fun q2 => ⟨(jI_neg (fun g => q2 g.2)).symm, rfl⟩, fun q2 => ⟨(jI_pos ⟨q, q2⟩).symm, rfl⟩⟩⟩⟩⟩)
set_option maxRecDepth 20000 in
theorem st_X10_behind_4 {E : jE} {G : jG} {I : jM} {q : Int → jM → Prop} {m : Nat} {x1 : Int} {x2 : Int} (hm : WX10 G m) (hT : (∀ a j, jRg (G.2.1 a).1 (I a j)) → jIn x1 → jIn x2 → (((I m 17) ≤ x2 → q x2 I) ∧ (¬ (I m 17) ≤ x2 → ((0 : Int) ≤ x2 ∧ (x2 : Int) < 1200) ∧ ((0 : Int) ≤ x1 ∧ (x1 : Int) < 1200) ∧ (((I (m + 9) x1) ≤ (I (m + 8) x2) → q x2 I) ∧ (¬ (I (m + 9) x1) ≤ (I (m + 8) x2) → jIn (x2 + 1) ∧ jOI E (jA m) kX10_behind 4 [VR m, VI x1, VI (x2 + 1)] G I q))))) : jOI E (jA m) kX10_behind 4 [VR m, VI x1, VI x2] G I q := by
  intro I0 hF
  refine jOk_mem (fun hI => ?_)
  refine jOk_in (i := 1) rfl (fun hx1 => ?_)
  refine jOk_in (i := 2) rfl (fun hx2 => ?_)
  replace hT := hT hI hx1 hx2
  refine r_iload_n dX10_behind_4 rfl (i := 2) rfl ?_
  refine r_aload_n dX10_behind_5 rfl (i := 0) rfl ?_
  refine rr_getI (v := I m 17) dX10_behind_6 fg_X10_175 rfl (wX10_l hm) (wX10_s hm) rfl ?_
  refine r_icmp_ge (tgt := 33) dX10_behind_9 rfl hx2 (hI _ _).inR (fun hcc => ?_) (fun hcc => ?_)
  · replace hT := hT.1 hcc
    refine r_iload_n dX10_behind_33 rfl (i := 2) rfl ?_
    exact r_iret dX10_behind_34 rfl hx2 ⟨Nat.zero_le _, Nat.zero_le _⟩ ⟨_, rfl, rfl, hF, hT⟩
  · replace hT := hT.2 hcc
    refine r_aload_n dX10_behind_12 rfl (i := 0) rfl ?_
    refine rr_getR (b := (m + 8)) dX10_behind_13 fg_X10_31 rfl rfl (wX10_l hm) (wX10_s hm) (wX10_r9 hm) ?_
    refine r_iload_n dX10_behind_16 rfl (i := 2) rfl ?_
    obtain ⟨hc1, hT⟩ := hT
    refine rr_iaload (v := I (m + 8) x2) dX10_behind_17 (wX10_l9 hm) (wX10_a9 hm) (by decide) hc1 rfl ?_
    refine r_aload_n dX10_behind_18 rfl (i := 0) rfl ?_
    refine rr_getR (b := (m + 9)) dX10_behind_19 fg_X10_34 rfl rfl (wX10_l hm) (wX10_s hm) (wX10_r10 hm) ?_
    refine r_iload_n dX10_behind_22 rfl (i := 1) rfl ?_
    obtain ⟨hc2, hT⟩ := hT
    refine rr_iaload (v := I (m + 9) x1) dX10_behind_23 (wX10_l10 hm) (wX10_a10 hm) (by decide) hc2 rfl ?_
    refine r_icmp_ge (tgt := 33) dX10_behind_24 rfl (hI _ _).inR (hI _ _).inR (fun hcc => ?_) (fun hcc => ?_)
    · replace hT := hT.1 hcc
      refine r_iload_n dX10_behind_33 rfl (i := 2) rfl ?_
      exact r_iret dX10_behind_34 rfl hx2 ⟨Nat.zero_le _, Nat.zero_le _⟩ ⟨_, rfl, rfl, hF, hT⟩
    · replace hT := hT.2 hcc
      obtain ⟨hc3, hT⟩ := hT
      refine rr_iinc (i := 2) (ls' := [VR m, VI x1, VI (x2 + 1)]) dX10_behind_27 rfl (Nat.le_of_ble_eq_true rfl) rfl rfl hc3 ?_
      refine r_goto (tgt := 4) dX10_behind_30 rfl ?_
      exact hT I0 hF
set_option maxRecDepth 20000 in
theorem st_X10_behind_0 {E : jE} {G : jG} {I : jM} {q : Int → jM → Prop} {m : Nat} {x1 : Int} (hm : WX10 G m) (hT : (∀ a j, jRg (G.2.1 a).1 (I a j)) → jIn x1 → jIn (x1 + 1) ∧ jOI E (jA m) kX10_behind 4 [VR m, VI x1, VI (x1 + 1)] G I q) : jOI E (jA m) kX10_behind 0 [VR m, VI x1, VN] G I q := by
  intro I0 hF
  refine jOk_mem (fun hI => ?_)
  refine jOk_in (i := 1) rfl (fun hx1 => ?_)
  replace hT := hT hI hx1
  refine r_iload_n dX10_behind_0 rfl (i := 1) rfl ?_
  refine r_iconst (n := 1) dX10_behind_1 ?_
  refine r_iadd dX10_behind_2 ?_
  obtain ⟨hc1, hT⟩ := hT
  refine rr_istore_n (i := 2) (ls' := [VR m, VI x1, VI (x1 + 1)]) dX10_behind_3 rfl (Nat.le_of_ble_eq_true rfl) rfl rfl hc1 ?_
  exact hT I0 hF
theorem en_X10_behind {E : jE} {G : jG} {I : jM} {q : Int → jM → Prop} {m : Nat} {x1 : Int} (hm : WX10 G m) (hT : (∀ a j, jRg (G.2.1 a).1 (I a j)) → jIn x1 → jIn (x1 + 1) ∧ jOI E (jA m) kX10_behind 4 [VR m, VI x1, VI (x1 + 1)] G I q) : jRI E (jA m) kX10_behind [VR m, VI x1] G I q := jRun.of mt_X10_behind.2.2.2 1 rfl (fun _ => st_X10_behind_0 hm hT I (fun _ _ => rfl))
/-- g is the first finding behind f that does not begin ahead of f's end -/
def isNxt (m : Nat) (I : jM) (f g : Int) : Prop := f < g ∧ g ≤ I m 17 ∧ (∀ k, f < k → k < g → I (m + 8) k < I (m + 9) f) ∧ (g < I m 17 → I (m + 9) f ≤ I (m + 8) g)
theorem sp_X10_behind {E : jE} {G : jG} {I : jM} {m : Nat} (hm : WX10 G m) {f g : Int} (h : 0 ≤ f ∧ f < 1200) (hN : I m 17 ≤ 1200) (hg : isNxt m I f g) : jRI E (jA m) kX10_behind [VR m, VI f] G I (fun x I' => x = g ∧ I' = I) := by
  obtain ⟨g1, g2, g3, g4⟩ := hg
  have loop : ∀ (d : Nat) (x : Int), f < x → x + d = g → jOI E (jA m) kX10_behind 4 [VR m, VI f, VI x] G I (fun x I' => x = g ∧ I' = I) := by
    intro d
    induction d with
    | zero =>
      intro x x0 x1
      have e : x = g := by omega
      subst e
      exact st_X10_behind_4 hm (fun _ _ _ => ⟨fun _ => ⟨rfl, rfl⟩, fun q => ⟨⟨by omega, by omega⟩, h, fun _ => ⟨rfl, rfl⟩, fun q2 => absurd (g4 (by omega)) q2⟩⟩)
    | succ d ih =>
      intro x x0 x1
      have := g3 x x0 (by omega)
      exact st_X10_behind_4 hm (fun _ _ _ => ⟨fun q => by omega, fun q => ⟨⟨by omega, by omega⟩, h, fun q2 => by omega, fun q2 => ⟨⟨by omega, by omega⟩, ih (x + 1) (by omega) (by omega)⟩⟩⟩)
  exact en_X10_behind hm (fun _ _ => ⟨⟨by omega, by omega⟩, loop (g - f - 1).toNat (f + 1) (by omega) (by omega)⟩)
set_option maxRecDepth 20000 in
theorem st_X10_laySet_231 {E : jE} {G : jG} {I : jM} {q : jM → Prop} {m : Nat} {x1 : Int} {x2 : Int} {x3 : Int} {x4 : Int} (hm : WX10 G m) (hT : (∀ a j, jRg (G.2.1 a).1 (I a j)) → jIn x1 → jIn x2 → jIn x3 → jIn x4 → jIn (x3 + 1) ∧ jOV E (jA m) kX10_laySet 75 [VR m, VI x1, VI x2, VI (x3 + 1), VN, VN, VN] G I q) : jOV E (jA m) kX10_laySet 231 [VR m, VI x1, VI x2, VI x3, VI x4, VN, VN] G I q := by
  intro I0 hF
  refine jOk_mem (fun hI => ?_)
  refine jOk_in (i := 1) rfl (fun hx1 => ?_)
  refine jOk_in (i := 2) rfl (fun hx2 => ?_)
  refine jOk_in (i := 3) rfl (fun hx3 => ?_)
  refine jOk_in (i := 4) rfl (fun hx4 => ?_)
  replace hT := hT hI hx1 hx2 hx3 hx4
  obtain ⟨hc1, hT⟩ := hT
  refine rr_iinc (i := 3) (ls' := [VR m, VI x1, VI x2, VI (x3 + 1), VI x4, VN, VN]) dX10_laySet_231 rfl (Nat.le_of_ble_eq_true rfl) rfl rfl hc1 ?_
  refine r_goto (tgt := 75) dX10_laySet_234 rfl ?_
  exact jOk_le (ls' := [VR m, VI x1, VI x2, VI (x3 + 1), VN, VN, VN]) ⟨Or.inr rfl, Or.inr rfl, Or.inr rfl, Or.inr rfl, Or.inl rfl, Or.inl rfl, Or.inl rfl, trivial⟩ (hT I0 hF)
set_option maxRecDepth 20000 in
theorem st_X10_laySet_213 {E : jE} {G : jG} {I : jM} {q : jM → Prop} {m : Nat} {x1 : Int} {x2 : Int} {x3 : Int} {x4 : Int} {x5 : Int} {x6 : Int} (hm : WX10 G m) (hT : (∀ a j, jRg (G.2.1 a).1 (I a j)) → jIn x1 → jIn x2 → jIn x3 → jIn x4 → jIn x5 → jIn x6 → ((0 : Int) ≤ x4 ∧ (x4 : Int) < 25221) ∧ (∀ M2, M2 = jup I (m + 16) x4 x5 → ((0 : Int) ≤ x4 ∧ (x4 : Int) < 25221) ∧ (∀ M4, M4 = jup M2 (m + 17) x4 x6 → jOV E (jA m) kX10_laySet 231 [VR m, VI x1, VI x2, VI x3, VI x4, VN, VN] G M4 q))) : jOV E (jA m) kX10_laySet 213 [VR m, VI x1, VI x2, VI x3, VI x4, VI x5, VI x6] G I q := by
  intro I0 hF
  refine jOk_mem (fun hI => ?_)
  refine jOk_in (i := 1) rfl (fun hx1 => ?_)
  refine jOk_in (i := 2) rfl (fun hx2 => ?_)
  refine jOk_in (i := 3) rfl (fun hx3 => ?_)
  refine jOk_in (i := 4) rfl (fun hx4 => ?_)
  refine jOk_in (i := 5) rfl (fun hx5 => ?_)
  refine jOk_in (i := 6) rfl (fun hx6 => ?_)
  replace hT := hT hI hx1 hx2 hx3 hx4 hx5 hx6
  refine r_aload_n dX10_laySet_213 rfl (i := 0) rfl ?_
  refine rr_getR (b := (m + 16)) dX10_laySet_214 fg_X10_56 rfl rfl (wX10_l hm) (wX10_s hm) (wX10_r18 hm) ?_
  refine r_iload dX10_laySet_217 (i := 4) rfl ?_
  refine r_iload dX10_laySet_219 (i := 5) rfl ?_
  obtain ⟨hc1, hT⟩ := hT
  refine rr_iastore dX10_laySet_221 (wX10_l18 hm) (wX10_a18 hm) (by decide) hc1 hx5 (fun M2 eM2 => ?_)
  have hFM2 := jFr_up hF eM2 (wX10_f hm 16 (by decide))
  replace hT := hT M2 eM2
  refine jOk_mem (fun hIM2 => ?_)
  refine r_aload_n dX10_laySet_222 rfl (i := 0) rfl ?_
  refine rr_getR (b := (m + 17)) dX10_laySet_223 fg_X10_59 rfl rfl (wX10_l hm) (wX10_s hm) (wX10_r19 hm) ?_
  refine r_iload dX10_laySet_226 (i := 4) rfl ?_
  refine r_iload dX10_laySet_228 (i := 6) rfl ?_
  obtain ⟨hc3, hT⟩ := hT
  refine rr_iastore dX10_laySet_230 (wX10_l19 hm) (wX10_a19 hm) (by decide) hc3 hx6 (fun M4 eM4 => ?_)
  have hFM4 := jFr_up hFM2 eM4 (wX10_f hm 17 (by decide))
  replace hT := hT M4 eM4
  refine jOk_mem (fun hIM4 => ?_)
  exact jOk_le (ls' := [VR m, VI x1, VI x2, VI x3, VI x4, VN, VN]) ⟨Or.inr rfl, Or.inr rfl, Or.inr rfl, Or.inr rfl, Or.inr rfl, Or.inl rfl, Or.inl rfl, trivial⟩ (hT I0 hFM4)
set_option maxRecDepth 20000 in
theorem st_X10_laySet_75 {E : jE} {G : jG} {I : jM} {q : jM → Prop} {m : Nat} {x1 : Int} {x2 : Int} {x3 : Int} (hm : WX10 G m) (hT : (∀ a j, jRg (G.2.1 a).1 (I a j)) → jIn x1 → jIn x2 → jIn x3 → ((21 ≤ x3 → jIn (x1 + (-1)) ∧ jOV E (jA m) kX10_laySet 51 [VR m, VI (x1 + (-1)), VN, VN, VN, VN, VN] G I q) ∧ (¬ 21 ≤ x3 → jIn ((21 * x1) + x3) ∧ ((0 : Int) ≤ (((21 * x1) + x3) + 21) ∧ ((((21 * x1) + x3) + 21) : Int) < 25221) ∧ ((0 : Int) ≤ ((21 * x1) + x3) ∧ (((21 * x1) + x3) : Int) < 25221) ∧ (∀ M5, M5 = jup I (m + 16) ((21 * x1) + x3) (I (m + 16) (((21 * x1) + x3) + 21)) → ((0 : Int) ≤ (((21 * x1) + x3) + 21) ∧ ((((21 * x1) + x3) + 21) : Int) < 25221) ∧ ((0 : Int) ≤ ((21 * x1) + x3) ∧ (((21 * x1) + x3) : Int) < 25221) ∧ (∀ M8, M8 = jup M5 (m + 17) ((21 * x1) + x3) (I (m + 17) (((21 * x1) + x3) + 21)) → ((x2 = (-1) → jOV E (jA m) kX10_laySet 231 [VR m, VI x1, VI x2, VI x3, VI ((21 * x1) + x3), VN, VN] G M8 q) ∧ (¬ x2 = (-1) → ((¬ x3 = 0 → ((0 : Int) ≤ x1 ∧ (x1 : Int) < 1200) ∧ ((0 : Int) ≤ (((21 * x2) + x3) - 1) ∧ ((((21 * x2) + x3) - 1) : Int) < 25221) ∧ jIn ((I (m + 12) x1) + (M5 (m + 16) (((21 * x2) + x3) - 1))) ∧ ((0 : Int) ≤ (((21 * x2) + x3) - 1) ∧ ((((21 * x2) + x3) - 1) : Int) < 25221) ∧ jIn (1 + (M8 (m + 17) (((21 * x2) + x3) - 1))) ∧ ((0 : Int) ≤ ((21 * x1) + x3) ∧ (((21 * x1) + x3) : Int) < 25221) ∧ ((((I (m + 12) x1) + (M5 (m + 16) (((21 * x2) + x3) - 1))) < (I (m + 16) (((21 * x1) + x3) + 21)) → jOV E (jA m) kX10_laySet 231 [VR m, VI x1, VI x2, VI x3, VI ((21 * x1) + x3), VN, VN] G M8 q) ∧ (¬ ((I (m + 12) x1) + (M5 (m + 16) (((21 * x2) + x3) - 1))) < (I (m + 16) (((21 * x1) + x3) + 21)) → ((0 : Int) ≤ ((21 * x1) + x3) ∧ (((21 * x1) + x3) : Int) < 25221) ∧ ((¬ ((I (m + 12) x1) + (M5 (m + 16) (((21 * x2) + x3) - 1))) = (I (m + 16) (((21 * x1) + x3) + 21)) → jOV E (jA m) kX10_laySet 213 [VR m, VI x1, VI x2, VI x3, VI ((21 * x1) + x3), VI ((I (m + 12) x1) + (M5 (m + 16) (((21 * x2) + x3) - 1))), VI (1 + (M8 (m + 17) (((21 * x2) + x3) - 1)))] G M8 q) ∧ (((I (m + 12) x1) + (M5 (m + 16) (((21 * x2) + x3) - 1))) = (I (m + 16) (((21 * x1) + x3) + 21)) → ((0 : Int) ≤ ((21 * x1) + x3) ∧ (((21 * x1) + x3) : Int) < 25221) ∧ (((1 + (M8 (m + 17) (((21 * x2) + x3) - 1))) ≤ (I (m + 17) (((21 * x1) + x3) + 21)) → jOV E (jA m) kX10_laySet 213 [VR m, VI x1, VI x2, VI x3, VI ((21 * x1) + x3), VI ((I (m + 12) x1) + (M5 (m + 16) (((21 * x2) + x3) - 1))), VI (1 + (M8 (m + 17) (((21 * x2) + x3) - 1)))] G M8 q) ∧ (¬ (1 + (M8 (m + 17) (((21 * x2) + x3) - 1))) ≤ (I (m + 17) (((21 * x1) + x3) + 21)) → jOV E (jA m) kX10_laySet 231 [VR m, VI x1, VI x2, VI x3, VI ((21 * x1) + x3), VN, VN] G M8 q))))))) ∧ (x3 = 0 → jOV E (jA m) kX10_laySet 231 [VR m, VI x1, VI x2, VI x3, VI ((21 * x1) + x3), VN, VN] G M8 q))))))))) : jOV E (jA m) kX10_laySet 75 [VR m, VI x1, VI x2, VI x3, VN, VN, VN] G I q := by
  intro I0 hF
  refine jOk_mem (fun hI => ?_)
  refine jOk_in (i := 1) rfl (fun hx1 => ?_)
  refine jOk_in (i := 2) rfl (fun hx2 => ?_)
  refine jOk_in (i := 3) rfl (fun hx3 => ?_)
  replace hT := hT hI hx1 hx2 hx3
  refine r_iload_n dX10_laySet_75 rfl (i := 3) rfl ?_
  refine r_bipush (n := 21) dX10_laySet_76 (by decide +kernel) ?_
  refine r_icmp_ge (tgt := 237) dX10_laySet_78 rfl hx3 ⟨by decide, by decide⟩ (fun hcc => ?_) (fun hcc => ?_)
  · replace hT := hT.1 hcc
    obtain ⟨hc1, hT⟩ := hT
    refine rr_iinc (i := 1) (ls' := [VR m, VI (x1 + (-1)), VI x2, VI x3, VN, VN, VN]) dX10_laySet_237 rfl (Nat.le_of_ble_eq_true rfl) rfl rfl hc1 ?_
    refine r_goto (tgt := 51) dX10_laySet_240 rfl ?_
    exact jOk_le (ls' := [VR m, VI (x1 + (-1)), VN, VN, VN, VN, VN]) ⟨Or.inr rfl, Or.inr rfl, Or.inl rfl, Or.inl rfl, Or.inl rfl, Or.inl rfl, Or.inl rfl, trivial⟩ (hT I0 hF)
  · replace hT := hT.2 hcc
    refine r_bipush (n := 21) dX10_laySet_81 (by decide +kernel) ?_
    refine r_iload_n dX10_laySet_83 rfl (i := 1) rfl ?_
    refine r_imul dX10_laySet_84 ?_
    refine r_iload_n dX10_laySet_85 rfl (i := 3) rfl ?_
    refine r_iadd dX10_laySet_86 ?_
    obtain ⟨hc2, hT⟩ := hT
    refine rr_istore (i := 4) (ls' := [VR m, VI x1, VI x2, VI x3, VI ((21 * x1) + x3), VN, VN]) dX10_laySet_87 (Nat.le_of_ble_eq_true rfl) rfl rfl hc2 ?_
    refine r_aload_n dX10_laySet_89 rfl (i := 0) rfl ?_
    refine rr_getR (b := (m + 16)) dX10_laySet_90 fg_X10_56 rfl rfl (wX10_l hm) (wX10_s hm) (wX10_r18 hm) ?_
    refine r_iload dX10_laySet_93 (i := 4) rfl ?_
    refine r_aload_n dX10_laySet_95 rfl (i := 0) rfl ?_
    refine rr_getR (b := (m + 16)) dX10_laySet_96 fg_X10_56 rfl rfl (wX10_l hm) (wX10_s hm) (wX10_r18 hm) ?_
    refine r_iload dX10_laySet_99 (i := 4) rfl ?_
    refine r_bipush (n := 21) dX10_laySet_101 (by decide +kernel) ?_
    refine r_iadd dX10_laySet_103 ?_
    obtain ⟨hc3, hT⟩ := hT
    refine rr_iaload (v := I (m + 16) (((21 * x1) + x3) + 21)) dX10_laySet_104 (wX10_l18 hm) (wX10_a18 hm) (by decide) hc3 rfl ?_
    obtain ⟨hc4, hT⟩ := hT
    refine rr_iastore dX10_laySet_105 (wX10_l18 hm) (wX10_a18 hm) (by decide) hc4 (hI _ _).inR (fun M5 eM5 => ?_)
    have hFM5 := jFr_up hF eM5 (wX10_f hm 16 (by decide))
    replace hT := hT M5 eM5
    refine jOk_mem (fun hIM5 => ?_)
    refine r_aload_n dX10_laySet_106 rfl (i := 0) rfl ?_
    refine rr_getR (b := (m + 17)) dX10_laySet_107 fg_X10_59 rfl rfl (wX10_l hm) (wX10_s hm) (wX10_r19 hm) ?_
    refine r_iload dX10_laySet_110 (i := 4) rfl ?_
    refine r_aload_n dX10_laySet_112 rfl (i := 0) rfl ?_
    refine rr_getR (b := (m + 17)) dX10_laySet_113 fg_X10_59 rfl rfl (wX10_l hm) (wX10_s hm) (wX10_r19 hm) ?_
    refine r_iload dX10_laySet_116 (i := 4) rfl ?_
    refine r_bipush (n := 21) dX10_laySet_118 (by decide +kernel) ?_
    refine r_iadd dX10_laySet_120 ?_
    obtain ⟨hc6, hT⟩ := hT
    refine rr_iaload (v := I (m + 17) (((21 * x1) + x3) + 21)) dX10_laySet_121 (wX10_l19 hm) (wX10_a19 hm) (by decide) hc6 (jr_na eM5 (by omega)) ?_
    obtain ⟨hc7, hT⟩ := hT
    refine rr_iastore dX10_laySet_122 (wX10_l19 hm) (wX10_a19 hm) (by decide) hc7 (hI _ _).inR (fun M8 eM8 => ?_)
    have hFM8 := jFr_up hFM5 eM8 (wX10_f hm 17 (by decide))
    replace hT := hT M8 eM8
    refine jOk_mem (fun hIM8 => ?_)
    refine r_iload_n dX10_laySet_123 rfl (i := 2) rfl ?_
    refine r_iconst (n := (-1)) dX10_laySet_124 ?_
    refine r_icmp_eq (tgt := 231) dX10_laySet_125 rfl hx2 ⟨by decide, by decide⟩ (fun hcc => ?_) (fun hcc => ?_)
    · replace hT := hT.1 hcc
      exact hT I0 hFM8
    · replace hT := hT.2 hcc
      refine r_iload_n dX10_laySet_128 rfl (i := 3) rfl ?_
      refine r_if_ne (tgt := 135) dX10_laySet_129 rfl hx3 (fun hcc => ?_) (fun hcc => ?_)
      · replace hT := hT.1 hcc
        refine r_aload_n dX10_laySet_135 rfl (i := 0) rfl ?_
        refine rr_getR (b := (m + 12)) dX10_laySet_136 fg_X10_43 rfl rfl (wX10_l hm) (wX10_s hm) (wX10_r13 hm) ?_
        refine r_iload_n dX10_laySet_139 rfl (i := 1) rfl ?_
        obtain ⟨hc9, hT⟩ := hT
        refine rr_iaload (v := I (m + 12) x1) dX10_laySet_140 (wX10_l13 hm) (wX10_a13 hm) (by decide) hc9 ((jr_na eM8 (by omega)).trans (jr_na eM5 (by omega))) ?_
        refine r_aload_n dX10_laySet_141 rfl (i := 0) rfl ?_
        refine rr_getR (b := (m + 16)) dX10_laySet_142 fg_X10_56 rfl rfl (wX10_l hm) (wX10_s hm) (wX10_r18 hm) ?_
        refine r_bipush (n := 21) dX10_laySet_145 (by decide +kernel) ?_
        refine r_iload_n dX10_laySet_147 rfl (i := 2) rfl ?_
        refine r_imul dX10_laySet_148 ?_
        refine r_iload_n dX10_laySet_149 rfl (i := 3) rfl ?_
        refine r_iadd dX10_laySet_150 ?_
        refine r_iconst (n := 1) dX10_laySet_151 ?_
        refine r_isub dX10_laySet_152 ?_
        obtain ⟨hc10, hT⟩ := hT
        refine rr_iaload (v := M5 (m + 16) (((21 * x2) + x3) - 1)) dX10_laySet_153 (wX10_l18 hm) (wX10_a18 hm) (by decide) hc10 (jr_na eM8 (by omega)) ?_
        refine r_iadd dX10_laySet_154 ?_
        obtain ⟨hc11, hT⟩ := hT
        refine rr_istore (i := 5) (ls' := [VR m, VI x1, VI x2, VI x3, VI ((21 * x1) + x3), VI ((I (m + 12) x1) + (M5 (m + 16) (((21 * x2) + x3) - 1))), VN]) dX10_laySet_155 (Nat.le_of_ble_eq_true rfl) rfl rfl hc11 ?_
        refine r_iconst (n := 1) dX10_laySet_157 ?_
        refine r_aload_n dX10_laySet_158 rfl (i := 0) rfl ?_
        refine rr_getR (b := (m + 17)) dX10_laySet_159 fg_X10_59 rfl rfl (wX10_l hm) (wX10_s hm) (wX10_r19 hm) ?_
        refine r_bipush (n := 21) dX10_laySet_162 (by decide +kernel) ?_
        refine r_iload_n dX10_laySet_164 rfl (i := 2) rfl ?_
        refine r_imul dX10_laySet_165 ?_
        refine r_iload_n dX10_laySet_166 rfl (i := 3) rfl ?_
        refine r_iadd dX10_laySet_167 ?_
        refine r_iconst (n := 1) dX10_laySet_168 ?_
        refine r_isub dX10_laySet_169 ?_
        obtain ⟨hc12, hT⟩ := hT
        refine rr_iaload (v := M8 (m + 17) (((21 * x2) + x3) - 1)) dX10_laySet_170 (wX10_l19 hm) (wX10_a19 hm) (by decide) hc12 rfl ?_
        refine r_iadd dX10_laySet_171 ?_
        obtain ⟨hc13, hT⟩ := hT
        refine rr_istore (i := 6) (ls' := [VR m, VI x1, VI x2, VI x3, VI ((21 * x1) + x3), VI ((I (m + 12) x1) + (M5 (m + 16) (((21 * x2) + x3) - 1))), VI (1 + (M8 (m + 17) (((21 * x2) + x3) - 1)))]) dX10_laySet_172 (Nat.le_of_ble_eq_true rfl) rfl rfl hc13 ?_
        refine r_iload dX10_laySet_174 (i := 5) rfl ?_
        refine r_aload_n dX10_laySet_176 rfl (i := 0) rfl ?_
        refine rr_getR (b := (m + 16)) dX10_laySet_177 fg_X10_56 rfl rfl (wX10_l hm) (wX10_s hm) (wX10_r18 hm) ?_
        refine r_iload dX10_laySet_180 (i := 4) rfl ?_
        obtain ⟨hc14, hT⟩ := hT
        refine rr_iaload (v := I (m + 16) (((21 * x1) + x3) + 21)) dX10_laySet_182 (wX10_l18 hm) (wX10_a18 hm) (by decide) hc14 ((jr_na eM8 (by omega)).trans (jr_eq eM5)) ?_
        refine r_icmp_lt (tgt := 231) dX10_laySet_183 rfl hc11 (hI _ _).inR (fun hcc => ?_) (fun hcc => ?_)
        · replace hT := hT.1 hcc
          exact jOk_le (ls' := [VR m, VI x1, VI x2, VI x3, VI ((21 * x1) + x3), VN, VN]) ⟨Or.inr rfl, Or.inr rfl, Or.inr rfl, Or.inr rfl, Or.inr rfl, Or.inl rfl, Or.inl rfl, trivial⟩ (hT I0 hFM8)
        · replace hT := hT.2 hcc
          refine r_iload dX10_laySet_186 (i := 5) rfl ?_
          refine r_aload_n dX10_laySet_188 rfl (i := 0) rfl ?_
          refine rr_getR (b := (m + 16)) dX10_laySet_189 fg_X10_56 rfl rfl (wX10_l hm) (wX10_s hm) (wX10_r18 hm) ?_
          refine r_iload dX10_laySet_192 (i := 4) rfl ?_
          obtain ⟨hc15, hT⟩ := hT
          refine rr_iaload (v := I (m + 16) (((21 * x1) + x3) + 21)) dX10_laySet_194 (wX10_l18 hm) (wX10_a18 hm) (by decide) hc15 ((jr_na eM8 (by omega)).trans (jr_eq eM5)) ?_
          refine r_icmp_ne (tgt := 213) dX10_laySet_195 rfl hc11 (hI _ _).inR (fun hcc => ?_) (fun hcc => ?_)
          · replace hT := hT.1 hcc
            exact hT I0 hFM8
          · replace hT := hT.2 hcc
            refine r_iload dX10_laySet_198 (i := 6) rfl ?_
            refine r_aload_n dX10_laySet_200 rfl (i := 0) rfl ?_
            refine rr_getR (b := (m + 17)) dX10_laySet_201 fg_X10_59 rfl rfl (wX10_l hm) (wX10_s hm) (wX10_r19 hm) ?_
            refine r_iload dX10_laySet_204 (i := 4) rfl ?_
            obtain ⟨hc16, hT⟩ := hT
            refine rr_iaload (v := I (m + 17) (((21 * x1) + x3) + 21)) dX10_laySet_206 (wX10_l19 hm) (wX10_a19 hm) (by decide) hc16 (jr_eq eM8) ?_
            refine r_icmp_le (tgt := 213) dX10_laySet_207 rfl hc13 (hI _ _).inR (fun hcc => ?_) (fun hcc => ?_)
            · replace hT := hT.1 hcc
              exact hT I0 hFM8
            · replace hT := hT.2 hcc
              refine r_goto (tgt := 231) dX10_laySet_210 rfl ?_
              exact jOk_le (ls' := [VR m, VI x1, VI x2, VI x3, VI ((21 * x1) + x3), VN, VN]) ⟨Or.inr rfl, Or.inr rfl, Or.inr rfl, Or.inr rfl, Or.inr rfl, Or.inl rfl, Or.inl rfl, trivial⟩ (hT I0 hFM8)
      · replace hT := hT.2 hcc
        refine r_goto (tgt := 231) dX10_laySet_132 rfl ?_
        exact hT I0 hFM8
set_option maxRecDepth 20000 in
theorem st_X10_laySet_51 {E : jE} {G : jG} {I : jM} {q : jM → Prop} {m : Nat} {x1 : Int} (hm : WX10 G m) (hT : (∀ a j, jRg (G.2.1 a).1 (I a j)) → jIn x1 → ((x1 < 0 → ((0 : Int) ≤ (I (m + 1) 6) ∧ ((I (m + 1) 6) : Int) < 25221) ∧ (∀ M3, M3 = jup I m 21 (I (m + 16) (I (m + 1) 6)) → ((0 : Int) ≤ (I (m + 1) 6) ∧ ((I (m + 1) 6) : Int) < 25221) ∧ (∀ M6, M6 = jup M3 m 20 (I (m + 17) (I (m + 1) 6)) → jRV E (jA m) kX10_markSet [VR m] G M6 (fun I7 => q I7)))) ∧ (¬ x1 < 0 → (0 ≤ x1 ∧ x1 < 1200) ∧ ((¬ (I (m + 13) x1 = 0 ∧ I (m + 14) x1 = 0) → jOV E (jA m) kX10_laySet 75 [VR m, VI x1, VI (-1), VI 0, VN, VN, VN] G I q) ∧ ((I (m + 13) x1 = 0 ∧ I (m + 14) x1 = 0) → jRI E (jA m) kX10_behind [VR m, VI x1] G I (fun r11 I10 => jOV E (jA m) kX10_laySet 75 [VR m, VI x1, VI r11, VI 0, VN, VN, VN] G I10 q)))))) : jOV E (jA m) kX10_laySet 51 [VR m, VI x1, VN, VN, VN, VN, VN] G I q := by
  intro I0 hF
  refine jOk_mem (fun hI => ?_)
  refine jOk_in (i := 1) rfl (fun hx1 => ?_)
  replace hT := hT hI hx1
  refine r_iload_n dX10_laySet_51 rfl (i := 1) rfl ?_
  refine r_if_lt (tgt := 243) dX10_laySet_52 rfl hx1 (fun hcc => ?_) (fun hcc => ?_)
  · replace hT := hT.1 hcc
    refine r_aload_n dX10_laySet_243 rfl (i := 0) rfl ?_
    refine r_aload_n dX10_laySet_244 rfl (i := 0) rfl ?_
    refine rr_getR (b := (m + 16)) dX10_laySet_245 fg_X10_56 rfl rfl (wX10_l hm) (wX10_s hm) (wX10_r18 hm) ?_
    refine r_aload_n dX10_laySet_248 rfl (i := 0) rfl ?_
    refine rr_getR (b := (m + 1)) dX10_laySet_249 fg_X10_7 rfl rfl (wX10_l hm) (wX10_s hm) (wX10_r0 hm) ?_
    refine r_bipush (n := 6) dX10_laySet_252 (by decide +kernel) ?_
    refine rr_iaload (v := I (m + 1) 6) dX10_laySet_254 (wX10_l0 hm) (wX10_a0 hm) (by decide) ⟨by decide, by decide⟩ rfl ?_
    obtain ⟨hc2, hT⟩ := hT
    refine rr_iaload (v := I (m + 16) (I (m + 1) 6)) dX10_laySet_255 (wX10_l18 hm) (wX10_a18 hm) (by decide) hc2 rfl ?_
    refine rr_putI (jj := 21) dX10_laySet_256 fp_X10_208 rfl rfl (wX10_l hm) (wX10_s hm) (hI _ _).inR (fun M3 eM3 => ?_)
    have hFM3 := jFr_up hF eM3 (wX10_f hm 0 (by decide))
    replace hT := hT M3 eM3
    refine jOk_mem (fun hIM3 => ?_)
    refine r_aload_n dX10_laySet_259 rfl (i := 0) rfl ?_
    refine r_aload_n dX10_laySet_260 rfl (i := 0) rfl ?_
    refine rr_getR (b := (m + 17)) dX10_laySet_261 fg_X10_59 rfl rfl (wX10_l hm) (wX10_s hm) (wX10_r19 hm) ?_
    refine r_aload_n dX10_laySet_264 rfl (i := 0) rfl ?_
    refine rr_getR (b := (m + 1)) dX10_laySet_265 fg_X10_7 rfl rfl (wX10_l hm) (wX10_s hm) (wX10_r0 hm) ?_
    refine r_bipush (n := 6) dX10_laySet_268 (by decide +kernel) ?_
    refine rr_iaload (v := I (m + 1) 6) dX10_laySet_270 (wX10_l0 hm) (wX10_a0 hm) (by decide) ⟨by decide, by decide⟩ (jr_na eM3 (by omega)) ?_
    obtain ⟨hc5, hT⟩ := hT
    refine rr_iaload (v := I (m + 17) (I (m + 1) 6)) dX10_laySet_271 (wX10_l19 hm) (wX10_a19 hm) (by decide) hc5 (jr_na eM3 (by omega)) ?_
    refine rr_putI (jj := 20) dX10_laySet_272 fp_X10_211 rfl rfl (wX10_l hm) (wX10_s hm) (hI _ _).inR (fun M6 eM6 => ?_)
    have hFM6 := jFr_up hFM3 eM6 (wX10_f hm 0 (by decide))
    replace hT := hT M6 eM6
    refine jOk_mem (fun hIM6 => ?_)
    refine r_aload_n dX10_laySet_275 rfl (i := 0) rfl ?_
    refine rr_cVV (a := m) (as := []) (st := []) dX10_laySet_276 mt_X10_markSet ml_X10_214 mi_X10_markSet rm_X10_laySet_X10_markSet jz_X10_markSet ⟨Nat.zero_le _, Nat.zero_le _⟩ (Nat.le_of_ble_eq_true rfl) (wX10_l hm) (wX10_c hm) jas0 hT (fun I7 hFI7 hT => ?_)
    replace hFI7 := jFr_tr hFM6 hFI7
    refine jOk_mem (fun hI7 => ?_)
    exact r_vret dX10_laySet_279 rfl ⟨Nat.zero_le _, Nat.zero_le _⟩ ⟨rfl, rfl, hFI7, hT⟩
  · replace hT := hT.2 hcc
    refine r_aload_n dX10_laySet_55 rfl (i := 0) rfl ?_
    refine r_iload_n dX10_laySet_56 rfl (i := 1) rfl ?_
    obtain ⟨hc9, hT⟩ := hT
    refine rr_pVI (A := (jA m)) (v := jI (I (m + 13) x1 = 0 ∧ I (m + 14) x1 = 0)) (a := m) (as := [VI x1]) (st := []) dX10_laySet_57 mt_X10_isFree ml_X10_202 mi_X10_isFree rm_X10_laySet_X10_isFree jz_X10_isFree ⟨Nat.zero_le _, Nat.zero_le _⟩ (Nat.le_of_ble_eq_true rfl) (wX10_l hm) (wX10_c hm) (jasI hx1 jas0) ((sp_X10_isFree hm) hc9) (fun hc8 => ?_)
    refine r_if_eq (tgt := 71) dX10_laySet_60 rfl hc8 (fun hcc => ?_) (fun hcc => ?_)
    · replace hT := hT.1 (jI_n hcc)
      refine r_iconst (n := (-1)) dX10_laySet_71 ?_
      refine rr_istore_n (i := 2) (ls' := [VR m, VI x1, VI (-1), VN, VN, VN, VN]) dX10_laySet_72 rfl (Nat.le_of_ble_eq_true rfl) rfl rfl ⟨by decide, by decide⟩ ?_
      refine r_iconst (n := 0) dX10_laySet_73 ?_
      refine rr_istore_n (i := 3) (ls' := [VR m, VI x1, VI (-1), VI 0, VN, VN, VN]) dX10_laySet_74 rfl (Nat.le_of_ble_eq_true rfl) rfl rfl ⟨by decide, by decide⟩ ?_
      exact hT I0 hF
    · replace hT := hT.2 (jI_p hcc)
      refine r_aload_n dX10_laySet_63 rfl (i := 0) rfl ?_
      refine r_iload_n dX10_laySet_64 rfl (i := 1) rfl ?_
      refine rr_cVI (a := m) (as := [VI x1]) (st := []) dX10_laySet_65 mt_X10_behind ml_X10_205 mi_X10_behind rm_X10_laySet_X10_behind jz_X10_behind ⟨Nat.zero_le _, Nat.zero_le _⟩ (Nat.le_of_ble_eq_true rfl) (wX10_l hm) (wX10_c hm) (jasI hx1 jas0) hT (fun r11 I10 hc12 hFI10 hT => ?_)
      replace hFI10 := jFr_tr hF hFI10
      refine jOk_mem (fun hI10 => ?_)
      refine r_goto (tgt := 72) dX10_laySet_68 rfl ?_
      refine rr_istore_n (i := 2) (ls' := [VR m, VI x1, VI r11, VN, VN, VN, VN]) dX10_laySet_72 rfl (Nat.le_of_ble_eq_true rfl) rfl rfl hc12 ?_
      refine r_iconst (n := 0) dX10_laySet_73 ?_
      refine rr_istore_n (i := 3) (ls' := [VR m, VI x1, VI r11, VI 0, VN, VN, VN]) dX10_laySet_74 rfl (Nat.le_of_ble_eq_true rfl) rfl rfl ⟨by decide, by decide⟩ ?_
      exact hT I0 hFI10
set_option maxRecDepth 20000 in
theorem st_X10_laySet_2 {E : jE} {G : jG} {I : jM} {q : jM → Prop} {m : Nat} {x1 : Int} (hm : WX10 G m) (hT : (∀ a j, jRg (G.2.1 a).1 (I a j)) → jIn x1 → ((21 ≤ x1 → jIn ((I m 17) - 1) ∧ jOV E (jA m) kX10_laySet 51 [VR m, VI ((I m 17) - 1), VN, VN, VN, VN, VN] G I q) ∧ (¬ 21 ≤ x1 → ((0 : Int) ≤ ((21 * (I m 17)) + x1) ∧ (((21 * (I m 17)) + x1) : Int) < 25221) ∧ (∀ M3, M3 = jup I (m + 16) ((21 * (I m 17)) + x1) 0 → ((0 : Int) ≤ ((21 * (I m 17)) + x1) ∧ (((21 * (I m 17)) + x1) : Int) < 25221) ∧ (∀ M5, M5 = jup M3 (m + 17) ((21 * (I m 17)) + x1) 0 → jIn (x1 + 1) ∧ jOV E (jA m) kX10_laySet 2 [VR m, VI (x1 + 1), VN, VN, VN, VN, VN] G M5 q))))) : jOV E (jA m) kX10_laySet 2 [VR m, VI x1, VN, VN, VN, VN, VN] G I q := by
  intro I0 hF
  refine jOk_mem (fun hI => ?_)
  refine jOk_in (i := 1) rfl (fun hx1 => ?_)
  replace hT := hT hI hx1
  refine r_iload_n dX10_laySet_2 rfl (i := 1) rfl ?_
  refine r_bipush (n := 21) dX10_laySet_3 (by decide +kernel) ?_
  refine r_icmp_ge (tgt := 44) dX10_laySet_5 rfl hx1 ⟨by decide, by decide⟩ (fun hcc => ?_) (fun hcc => ?_)
  · replace hT := hT.1 hcc
    refine r_aload_n dX10_laySet_44 rfl (i := 0) rfl ?_
    refine rr_getI (v := I m 17) dX10_laySet_45 fg_X10_175 rfl (wX10_l hm) (wX10_s hm) rfl ?_
    refine r_iconst (n := 1) dX10_laySet_48 ?_
    refine r_isub dX10_laySet_49 ?_
    obtain ⟨hc1, hT⟩ := hT
    refine rr_istore_n (i := 1) (ls' := [VR m, VI ((I m 17) - 1), VN, VN, VN, VN, VN]) dX10_laySet_50 rfl (Nat.le_of_ble_eq_true rfl) rfl rfl hc1 ?_
    exact hT I0 hF
  · replace hT := hT.2 hcc
    refine r_aload_n dX10_laySet_8 rfl (i := 0) rfl ?_
    refine rr_getR (b := (m + 16)) dX10_laySet_9 fg_X10_56 rfl rfl (wX10_l hm) (wX10_s hm) (wX10_r18 hm) ?_
    refine r_bipush (n := 21) dX10_laySet_12 (by decide +kernel) ?_
    refine r_aload_n dX10_laySet_14 rfl (i := 0) rfl ?_
    refine rr_getI (v := I m 17) dX10_laySet_15 fg_X10_175 rfl (wX10_l hm) (wX10_s hm) rfl ?_
    refine r_imul dX10_laySet_18 ?_
    refine r_iload_n dX10_laySet_19 rfl (i := 1) rfl ?_
    refine r_iadd dX10_laySet_20 ?_
    refine r_iconst (n := 0) dX10_laySet_21 ?_
    obtain ⟨hc2, hT⟩ := hT
    refine rr_iastore dX10_laySet_22 (wX10_l18 hm) (wX10_a18 hm) (by decide) hc2 ⟨by decide, by decide⟩ (fun M3 eM3 => ?_)
    have hFM3 := jFr_up hF eM3 (wX10_f hm 16 (by decide))
    replace hT := hT M3 eM3
    refine jOk_mem (fun hIM3 => ?_)
    refine r_aload_n dX10_laySet_23 rfl (i := 0) rfl ?_
    refine rr_getR (b := (m + 17)) dX10_laySet_24 fg_X10_59 rfl rfl (wX10_l hm) (wX10_s hm) (wX10_r19 hm) ?_
    refine r_bipush (n := 21) dX10_laySet_27 (by decide +kernel) ?_
    refine r_aload_n dX10_laySet_29 rfl (i := 0) rfl ?_
    refine rr_getI (v := I m 17) dX10_laySet_30 fg_X10_175 rfl (wX10_l hm) (wX10_s hm) (jr_na eM3 (by omega)) ?_
    refine r_imul dX10_laySet_33 ?_
    refine r_iload_n dX10_laySet_34 rfl (i := 1) rfl ?_
    refine r_iadd dX10_laySet_35 ?_
    refine r_iconst (n := 0) dX10_laySet_36 ?_
    obtain ⟨hc4, hT⟩ := hT
    refine rr_iastore dX10_laySet_37 (wX10_l19 hm) (wX10_a19 hm) (by decide) hc4 ⟨by decide, by decide⟩ (fun M5 eM5 => ?_)
    have hFM5 := jFr_up hFM3 eM5 (wX10_f hm 17 (by decide))
    replace hT := hT M5 eM5
    refine jOk_mem (fun hIM5 => ?_)
    obtain ⟨hc6, hT⟩ := hT
    refine rr_iinc (i := 1) (ls' := [VR m, VI (x1 + 1), VN, VN, VN, VN, VN]) dX10_laySet_38 rfl (Nat.le_of_ble_eq_true rfl) rfl rfl hc6 ?_
    refine r_goto (tgt := 2) dX10_laySet_41 rfl ?_
    exact hT I0 hFM5
set_option maxRecDepth 20000 in
theorem st_X10_laySet_0 {E : jE} {G : jG} {I : jM} {q : jM → Prop} {m : Nat} (hm : WX10 G m) (hT : (∀ a j, jRg (G.2.1 a).1 (I a j)) → jOV E (jA m) kX10_laySet 2 [VR m, VI 0, VN, VN, VN, VN, VN] G I q) : jOV E (jA m) kX10_laySet 0 [VR m, VN, VN, VN, VN, VN, VN] G I q := by
  intro I0 hF
  refine jOk_mem (fun hI => ?_)
  replace hT := hT hI 
  refine r_iconst (n := 0) dX10_laySet_0 ?_
  refine rr_istore_n (i := 1) (ls' := [VR m, VI 0, VN, VN, VN, VN, VN]) dX10_laySet_1 rfl (Nat.le_of_ble_eq_true rfl) rfl rfl ⟨by decide, by decide⟩ ?_
  exact hT I0 hF
theorem en_X10_laySet {E : jE} {G : jG} {I : jM} {q : jM → Prop} {m : Nat} (hm : WX10 G m) (hT : (∀ a j, jRg (G.2.1 a).1 (I a j)) → jOV E (jA m) kX10_laySet 2 [VR m, VI 0, VN, VN, VN, VN, VN] G I q) : jRV E (jA m) kX10_laySet [VR m] G I q := jRun.of mt_X10_laySet.2.2.2 6 rfl (fun _ => st_X10_laySet_0 hm hT I (fun _ _ => rfl))
set_option maxRecDepth 20000 in
theorem st_X10_markSet_33 {E : jE} {G : jG} {I : jM} {q : jM → Prop} {m : Nat} {x1 : Int} {x2 : Int} (hm : WX10 G m) (hT : (∀ a j, jRg (G.2.1 a).1 (I a j)) → jIn x1 → jIn x2 → (((I m 17) ≤ x1 → q I) ∧ (¬ (I m 17) ≤ x1 → ((0 : Int) ≤ ((21 * x1) + x2) ∧ (((21 * x1) + x2) : Int) < 25221) ∧ (((I (m + 17) ((21 * x1) + x2)) ≤ 0 → q I) ∧ (¬ (I (m + 17) ((21 * x1) + x2)) ≤ 0 → (0 ≤ x1 ∧ x1 < 1200) ∧ ((¬ (I (m + 13) x1 = 0 ∧ I (m + 14) x1 = 0) → ((0 : Int) ≤ x1 ∧ (x1 : Int) < 1200) ∧ (∀ M5, M5 = jup I (m + 15) x1 0 → jIn (x2 - 0) ∧ jIn (x1 + 1) ∧ jOV E (jA m) kX10_markSet 33 [VR m, VI (x1 + 1), VI (x2 - 0), VN, VN] G M5 q)) ∧ ((I (m + 13) x1 = 0 ∧ I (m + 14) x1 = 0) → ((x2 ≤ 0 → ((0 : Int) ≤ x1 ∧ (x1 : Int) < 1200) ∧ (∀ M9, M9 = jup I (m + 15) x1 0 → jIn (x2 - 0) ∧ jIn (x1 + 1) ∧ jOV E (jA m) kX10_markSet 33 [VR m, VI (x1 + 1), VI (x2 - 0), VN, VN] G M9 q)) ∧ (¬ x2 ≤ 0 → jRI E (jA m) kX10_behind [VR m, VI x1] G I (fun r13 I12 => ((r13 = (-1) → ((0 : Int) ≤ x1 ∧ (x1 : Int) < 1200) ∧ (∀ M16, M16 = jup I12 (m + 15) x1 0 → jIn (x2 - 0) ∧ jIn (x1 + 1) ∧ jOV E (jA m) kX10_markSet 33 [VR m, VI (x1 + 1), VI (x2 - 0), VN, VN] G M16 q)) ∧ (¬ r13 = (-1) → ((0 : Int) ≤ x1 ∧ (x1 : Int) < 1200) ∧ ((0 : Int) ≤ (((21 * r13) + x2) - 1) ∧ ((((21 * r13) + x2) - 1) : Int) < 25221) ∧ ((0 : Int) ≤ ((21 * x1) + x2) ∧ (((21 * x1) + x2) : Int) < 25221) ∧ jIn ((I12 (m + 12) x1) + (I12 (m + 16) (((21 * r13) + x2) - 1))) ∧ ((¬ ((I12 (m + 12) x1) + (I12 (m + 16) (((21 * r13) + x2) - 1))) = (I12 (m + 16) ((21 * x1) + x2)) → ((0 : Int) ≤ x1 ∧ (x1 : Int) < 1200) ∧ (∀ M24, M24 = jup I12 (m + 15) x1 0 → jIn (x2 - 0) ∧ jIn (x1 + 1) ∧ jOV E (jA m) kX10_markSet 33 [VR m, VI (x1 + 1), VI (x2 - 0), VN, VN] G M24 q)) ∧ (((I12 (m + 12) x1) + (I12 (m + 16) (((21 * r13) + x2) - 1))) = (I12 (m + 16) ((21 * x1) + x2)) → ((0 : Int) ≤ (((21 * r13) + x2) - 1) ∧ ((((21 * r13) + x2) - 1) : Int) < 25221) ∧ ((0 : Int) ≤ ((21 * x1) + x2) ∧ (((21 * x1) + x2) : Int) < 25221) ∧ jIn (1 + (I12 (m + 17) (((21 * r13) + x2) - 1))) ∧ ((¬ (1 + (I12 (m + 17) (((21 * r13) + x2) - 1))) = (I12 (m + 17) ((21 * x1) + x2)) → ((0 : Int) ≤ x1 ∧ (x1 : Int) < 1200) ∧ (∀ M31, M31 = jup I12 (m + 15) x1 0 → jIn (x2 - 0) ∧ jIn (x1 + 1) ∧ jOV E (jA m) kX10_markSet 33 [VR m, VI (x1 + 1), VI (x2 - 0), VN, VN] G M31 q)) ∧ ((1 + (I12 (m + 17) (((21 * r13) + x2) - 1))) = (I12 (m + 17) ((21 * x1) + x2)) → ((0 : Int) ≤ x1 ∧ (x1 : Int) < 1200) ∧ (∀ M35, M35 = jup I12 (m + 15) x1 1 → jIn (x2 - 1) ∧ jOV E (jA m) kX10_markSet 33 [VR m, VI r13, VI (x2 - 1), VN, VN] G M35 q))))))))))))))))) : jOV E (jA m) kX10_markSet 33 [VR m, VI x1, VI x2, VN, VN] G I q := by
  intro I0 hF
  refine jOk_mem (fun hI => ?_)
  refine jOk_in (i := 1) rfl (fun hx1 => ?_)
  refine jOk_in (i := 2) rfl (fun hx2 => ?_)
  replace hT := hT hI hx1 hx2
  refine r_iload_n dX10_markSet_33 rfl (i := 1) rfl ?_
  refine r_aload_n dX10_markSet_34 rfl (i := 0) rfl ?_
  refine rr_getI (v := I m 17) dX10_markSet_35 fg_X10_175 rfl (wX10_l hm) (wX10_s hm) rfl ?_
  refine r_icmp_ge (tgt := 189) dX10_markSet_38 rfl hx1 (hI _ _).inR (fun hcc => ?_) (fun hcc => ?_)
  · replace hT := hT.1 hcc
    exact r_vret dX10_markSet_189 rfl ⟨Nat.zero_le _, Nat.zero_le _⟩ ⟨rfl, rfl, hF, hT⟩
  · replace hT := hT.2 hcc
    refine r_aload_n dX10_markSet_41 rfl (i := 0) rfl ?_
    refine rr_getR (b := (m + 17)) dX10_markSet_42 fg_X10_59 rfl rfl (wX10_l hm) (wX10_s hm) (wX10_r19 hm) ?_
    refine r_bipush (n := 21) dX10_markSet_45 (by decide +kernel) ?_
    refine r_iload_n dX10_markSet_47 rfl (i := 1) rfl ?_
    refine r_imul dX10_markSet_48 ?_
    refine r_iload_n dX10_markSet_49 rfl (i := 2) rfl ?_
    refine r_iadd dX10_markSet_50 ?_
    obtain ⟨hc1, hT⟩ := hT
    refine rr_iaload (v := I (m + 17) ((21 * x1) + x2)) dX10_markSet_51 (wX10_l19 hm) (wX10_a19 hm) (by decide) hc1 rfl ?_
    refine r_if_le (tgt := 189) dX10_markSet_52 rfl (hI _ _).inR (fun hcc => ?_) (fun hcc => ?_)
    · replace hT := hT.1 hcc
      exact r_vret dX10_markSet_189 rfl ⟨Nat.zero_le _, Nat.zero_le _⟩ ⟨rfl, rfl, hF, hT⟩
    · replace hT := hT.2 hcc
      refine r_aload_n dX10_markSet_55 rfl (i := 0) rfl ?_
      refine r_iload_n dX10_markSet_56 rfl (i := 1) rfl ?_
      obtain ⟨hc3, hT⟩ := hT
      refine rr_pVI (A := (jA m)) (v := jI (I (m + 13) x1 = 0 ∧ I (m + 14) x1 = 0)) (a := m) (as := [VI x1]) (st := []) dX10_markSet_57 mt_X10_isFree ml_X10_202 mi_X10_isFree rm_X10_markSet_X10_isFree jz_X10_isFree ⟨Nat.zero_le _, Nat.zero_le _⟩ (Nat.le_of_ble_eq_true rfl) (wX10_l hm) (wX10_c hm) (jasI hx1 jas0) ((sp_X10_isFree hm) hc3) (fun hc2 => ?_)
      refine r_if_eq (tgt := 75) dX10_markSet_60 rfl hc2 (fun hcc => ?_) (fun hcc => ?_)
      · replace hT := hT.1 (jI_n hcc)
        refine r_iconst (n := (-1)) dX10_markSet_75 ?_
        refine rr_istore_n (i := 3) (ls' := [VR m, VI x1, VI x2, VI (-1), VN]) dX10_markSet_76 rfl (Nat.le_of_ble_eq_true rfl) rfl rfl ⟨by decide, by decide⟩ ?_
        refine r_iload_n dX10_markSet_77 rfl (i := 3) rfl ?_
        refine r_iconst (n := (-1)) dX10_markSet_78 ?_
        refine r_icmp_eq (tgt := 149) dX10_markSet_79 rfl ⟨by decide, by decide⟩ ⟨by decide, by decide⟩ (fun hcc => ?_) (fun hcc => ?_)
        · skip
          refine r_iconst (n := 0) dX10_markSet_149 ?_
          refine rr_istore (i := 4) (ls' := [VR m, VI x1, VI x2, VI (-1), VI 0]) dX10_markSet_150 (Nat.le_of_ble_eq_true rfl) rfl rfl ⟨by decide, by decide⟩ ?_
          refine r_aload_n dX10_markSet_152 rfl (i := 0) rfl ?_
          refine rr_getR (b := (m + 15)) dX10_markSet_153 fg_X10_53 rfl rfl (wX10_l hm) (wX10_s hm) (wX10_r16 hm) ?_
          refine r_iload_n dX10_markSet_156 rfl (i := 1) rfl ?_
          refine r_iload dX10_markSet_157 (i := 4) rfl ?_
          obtain ⟨hc4, hT⟩ := hT
          refine rr_zastore dX10_markSet_159 (wX10_l16 hm) (wX10_a16 hm) (by decide) hc4 ⟨by decide, by decide⟩ (fun M5 eM5 => ?_)
          have hFM5 := jFr_up hF eM5 (wX10_f hm 15 (by decide))
          replace hT := hT M5 eM5
          refine jOk_mem (fun hIM5 => ?_)
          refine r_iload_n dX10_markSet_160 rfl (i := 2) rfl ?_
          refine r_iload dX10_markSet_161 (i := 4) rfl ?_
          refine r_if_eq (tgt := 170) dX10_markSet_163 rfl ⟨by decide, by decide⟩ (fun hcc => ?_) (fun hcc => ?_)
          · skip
            refine r_iconst (n := 0) dX10_markSet_170 ?_
            refine r_isub dX10_markSet_171 ?_
            obtain ⟨hc6, hT⟩ := hT
            refine rr_istore_n (i := 2) (ls' := [VR m, VI x1, VI (x2 - 0), VI (-1), VI 0]) dX10_markSet_172 rfl (Nat.le_of_ble_eq_true rfl) rfl rfl hc6 ?_
            refine r_iload dX10_markSet_173 (i := 4) rfl ?_
            refine r_if_eq (tgt := 182) dX10_markSet_175 rfl ⟨by decide, by decide⟩ (fun hcc => ?_) (fun hcc => ?_)
            · skip
              refine r_iload_n dX10_markSet_182 rfl (i := 1) rfl ?_
              refine r_iconst (n := 1) dX10_markSet_183 ?_
              refine r_iadd dX10_markSet_184 ?_
              obtain ⟨hc7, hT⟩ := hT
              refine rr_istore_n (i := 1) (ls' := [VR m, VI (x1 + 1), VI (x2 - 0), VI (-1), VI 0]) dX10_markSet_185 rfl (Nat.le_of_ble_eq_true rfl) rfl rfl hc7 ?_
              refine r_goto (tgt := 33) dX10_markSet_186 rfl ?_
              exact jOk_le (ls' := [VR m, VI (x1 + 1), VI (x2 - 0), VN, VN]) ⟨Or.inr rfl, Or.inr rfl, Or.inr rfl, Or.inl rfl, Or.inl rfl, trivial⟩ (hT I0 hFM5)
            · exact absurd hcc (by decide)
          · exact absurd hcc (by decide)
        · exact absurd hcc (by decide)
      · replace hT := hT.2 (jI_p hcc)
        refine r_iload_n dX10_markSet_63 rfl (i := 2) rfl ?_
        refine r_if_le (tgt := 75) dX10_markSet_64 rfl hx2 (fun hcc => ?_) (fun hcc => ?_)
        · replace hT := hT.1 hcc
          refine r_iconst (n := (-1)) dX10_markSet_75 ?_
          refine rr_istore_n (i := 3) (ls' := [VR m, VI x1, VI x2, VI (-1), VN]) dX10_markSet_76 rfl (Nat.le_of_ble_eq_true rfl) rfl rfl ⟨by decide, by decide⟩ ?_
          refine r_iload_n dX10_markSet_77 rfl (i := 3) rfl ?_
          refine r_iconst (n := (-1)) dX10_markSet_78 ?_
          refine r_icmp_eq (tgt := 149) dX10_markSet_79 rfl ⟨by decide, by decide⟩ ⟨by decide, by decide⟩ (fun hcc => ?_) (fun hcc => ?_)
          · skip
            refine r_iconst (n := 0) dX10_markSet_149 ?_
            refine rr_istore (i := 4) (ls' := [VR m, VI x1, VI x2, VI (-1), VI 0]) dX10_markSet_150 (Nat.le_of_ble_eq_true rfl) rfl rfl ⟨by decide, by decide⟩ ?_
            refine r_aload_n dX10_markSet_152 rfl (i := 0) rfl ?_
            refine rr_getR (b := (m + 15)) dX10_markSet_153 fg_X10_53 rfl rfl (wX10_l hm) (wX10_s hm) (wX10_r16 hm) ?_
            refine r_iload_n dX10_markSet_156 rfl (i := 1) rfl ?_
            refine r_iload dX10_markSet_157 (i := 4) rfl ?_
            obtain ⟨hc8, hT⟩ := hT
            refine rr_zastore dX10_markSet_159 (wX10_l16 hm) (wX10_a16 hm) (by decide) hc8 ⟨by decide, by decide⟩ (fun M9 eM9 => ?_)
            have hFM9 := jFr_up hF eM9 (wX10_f hm 15 (by decide))
            replace hT := hT M9 eM9
            refine jOk_mem (fun hIM9 => ?_)
            refine r_iload_n dX10_markSet_160 rfl (i := 2) rfl ?_
            refine r_iload dX10_markSet_161 (i := 4) rfl ?_
            refine r_if_eq (tgt := 170) dX10_markSet_163 rfl ⟨by decide, by decide⟩ (fun hcc => ?_) (fun hcc => ?_)
            · skip
              refine r_iconst (n := 0) dX10_markSet_170 ?_
              refine r_isub dX10_markSet_171 ?_
              obtain ⟨hc10, hT⟩ := hT
              refine rr_istore_n (i := 2) (ls' := [VR m, VI x1, VI (x2 - 0), VI (-1), VI 0]) dX10_markSet_172 rfl (Nat.le_of_ble_eq_true rfl) rfl rfl hc10 ?_
              refine r_iload dX10_markSet_173 (i := 4) rfl ?_
              refine r_if_eq (tgt := 182) dX10_markSet_175 rfl ⟨by decide, by decide⟩ (fun hcc => ?_) (fun hcc => ?_)
              · skip
                refine r_iload_n dX10_markSet_182 rfl (i := 1) rfl ?_
                refine r_iconst (n := 1) dX10_markSet_183 ?_
                refine r_iadd dX10_markSet_184 ?_
                obtain ⟨hc11, hT⟩ := hT
                refine rr_istore_n (i := 1) (ls' := [VR m, VI (x1 + 1), VI (x2 - 0), VI (-1), VI 0]) dX10_markSet_185 rfl (Nat.le_of_ble_eq_true rfl) rfl rfl hc11 ?_
                refine r_goto (tgt := 33) dX10_markSet_186 rfl ?_
                exact jOk_le (ls' := [VR m, VI (x1 + 1), VI (x2 - 0), VN, VN]) ⟨Or.inr rfl, Or.inr rfl, Or.inr rfl, Or.inl rfl, Or.inl rfl, trivial⟩ (hT I0 hFM9)
              · exact absurd hcc (by decide)
            · exact absurd hcc (by decide)
          · exact absurd hcc (by decide)
        · replace hT := hT.2 hcc
          refine r_aload_n dX10_markSet_67 rfl (i := 0) rfl ?_
          refine r_iload_n dX10_markSet_68 rfl (i := 1) rfl ?_
          refine rr_cVI (a := m) (as := [VI x1]) (st := []) dX10_markSet_69 mt_X10_behind ml_X10_205 mi_X10_behind rm_X10_markSet_X10_behind jz_X10_behind ⟨Nat.zero_le _, Nat.zero_le _⟩ (Nat.le_of_ble_eq_true rfl) (wX10_l hm) (wX10_c hm) (jasI hx1 jas0) hT (fun r13 I12 hc14 hFI12 hT => ?_)
          replace hFI12 := jFr_tr hF hFI12
          refine jOk_mem (fun hI12 => ?_)
          refine r_goto (tgt := 76) dX10_markSet_72 rfl ?_
          refine rr_istore_n (i := 3) (ls' := [VR m, VI x1, VI x2, VI r13, VN]) dX10_markSet_76 rfl (Nat.le_of_ble_eq_true rfl) rfl rfl hc14 ?_
          refine r_iload_n dX10_markSet_77 rfl (i := 3) rfl ?_
          refine r_iconst (n := (-1)) dX10_markSet_78 ?_
          refine r_icmp_eq (tgt := 149) dX10_markSet_79 rfl hc14 ⟨by decide, by decide⟩ (fun hcc => ?_) (fun hcc => ?_)
          · replace hT := hT.1 hcc
            refine r_iconst (n := 0) dX10_markSet_149 ?_
            refine rr_istore (i := 4) (ls' := [VR m, VI x1, VI x2, VI r13, VI 0]) dX10_markSet_150 (Nat.le_of_ble_eq_true rfl) rfl rfl ⟨by decide, by decide⟩ ?_
            refine r_aload_n dX10_markSet_152 rfl (i := 0) rfl ?_
            refine rr_getR (b := (m + 15)) dX10_markSet_153 fg_X10_53 rfl rfl (wX10_l hm) (wX10_s hm) (wX10_r16 hm) ?_
            refine r_iload_n dX10_markSet_156 rfl (i := 1) rfl ?_
            refine r_iload dX10_markSet_157 (i := 4) rfl ?_
            obtain ⟨hc15, hT⟩ := hT
            refine rr_zastore dX10_markSet_159 (wX10_l16 hm) (wX10_a16 hm) (by decide) hc15 ⟨by decide, by decide⟩ (fun M16 eM16 => ?_)
            have hFM16 := jFr_up hFI12 eM16 (wX10_f hm 15 (by decide))
            replace hT := hT M16 eM16
            refine jOk_mem (fun hIM16 => ?_)
            refine r_iload_n dX10_markSet_160 rfl (i := 2) rfl ?_
            refine r_iload dX10_markSet_161 (i := 4) rfl ?_
            refine r_if_eq (tgt := 170) dX10_markSet_163 rfl ⟨by decide, by decide⟩ (fun hcc => ?_) (fun hcc => ?_)
            · skip
              refine r_iconst (n := 0) dX10_markSet_170 ?_
              refine r_isub dX10_markSet_171 ?_
              obtain ⟨hc17, hT⟩ := hT
              refine rr_istore_n (i := 2) (ls' := [VR m, VI x1, VI (x2 - 0), VI r13, VI 0]) dX10_markSet_172 rfl (Nat.le_of_ble_eq_true rfl) rfl rfl hc17 ?_
              refine r_iload dX10_markSet_173 (i := 4) rfl ?_
              refine r_if_eq (tgt := 182) dX10_markSet_175 rfl ⟨by decide, by decide⟩ (fun hcc => ?_) (fun hcc => ?_)
              · skip
                refine r_iload_n dX10_markSet_182 rfl (i := 1) rfl ?_
                refine r_iconst (n := 1) dX10_markSet_183 ?_
                refine r_iadd dX10_markSet_184 ?_
                obtain ⟨hc18, hT⟩ := hT
                refine rr_istore_n (i := 1) (ls' := [VR m, VI (x1 + 1), VI (x2 - 0), VI r13, VI 0]) dX10_markSet_185 rfl (Nat.le_of_ble_eq_true rfl) rfl rfl hc18 ?_
                refine r_goto (tgt := 33) dX10_markSet_186 rfl ?_
                exact jOk_le (ls' := [VR m, VI (x1 + 1), VI (x2 - 0), VN, VN]) ⟨Or.inr rfl, Or.inr rfl, Or.inr rfl, Or.inl rfl, Or.inl rfl, trivial⟩ (hT I0 hFM16)
              · exact absurd hcc (by decide)
            · exact absurd hcc (by decide)
          · replace hT := hT.2 hcc
            refine r_aload_n dX10_markSet_82 rfl (i := 0) rfl ?_
            refine rr_getR (b := (m + 12)) dX10_markSet_83 fg_X10_43 rfl rfl (wX10_l hm) (wX10_s hm) (wX10_r13 hm) ?_
            refine r_iload_n dX10_markSet_86 rfl (i := 1) rfl ?_
            obtain ⟨hc19, hT⟩ := hT
            refine rr_iaload (v := I12 (m + 12) x1) dX10_markSet_87 (wX10_l13 hm) (wX10_a13 hm) (by decide) hc19 rfl ?_
            refine r_aload_n dX10_markSet_88 rfl (i := 0) rfl ?_
            refine rr_getR (b := (m + 16)) dX10_markSet_89 fg_X10_56 rfl rfl (wX10_l hm) (wX10_s hm) (wX10_r18 hm) ?_
            refine r_bipush (n := 21) dX10_markSet_92 (by decide +kernel) ?_
            refine r_iload_n dX10_markSet_94 rfl (i := 3) rfl ?_
            refine r_imul dX10_markSet_95 ?_
            refine r_iload_n dX10_markSet_96 rfl (i := 2) rfl ?_
            refine r_iadd dX10_markSet_97 ?_
            refine r_iconst (n := 1) dX10_markSet_98 ?_
            refine r_isub dX10_markSet_99 ?_
            obtain ⟨hc20, hT⟩ := hT
            refine rr_iaload (v := I12 (m + 16) (((21 * r13) + x2) - 1)) dX10_markSet_100 (wX10_l18 hm) (wX10_a18 hm) (by decide) hc20 rfl ?_
            refine r_iadd dX10_markSet_101 ?_
            refine r_aload_n dX10_markSet_102 rfl (i := 0) rfl ?_
            refine rr_getR (b := (m + 16)) dX10_markSet_103 fg_X10_56 rfl rfl (wX10_l hm) (wX10_s hm) (wX10_r18 hm) ?_
            refine r_bipush (n := 21) dX10_markSet_106 (by decide +kernel) ?_
            refine r_iload_n dX10_markSet_108 rfl (i := 1) rfl ?_
            refine r_imul dX10_markSet_109 ?_
            refine r_iload_n dX10_markSet_110 rfl (i := 2) rfl ?_
            refine r_iadd dX10_markSet_111 ?_
            obtain ⟨hc21, hT⟩ := hT
            refine rr_iaload (v := I12 (m + 16) ((21 * x1) + x2)) dX10_markSet_112 (wX10_l18 hm) (wX10_a18 hm) (by decide) hc21 rfl ?_
            obtain ⟨hc22, hT⟩ := hT
            refine r_icmp_ne (tgt := 149) dX10_markSet_113 rfl hc22 (hI12 _ _).inR (fun hcc => ?_) (fun hcc => ?_)
            · replace hT := hT.1 hcc
              refine r_iconst (n := 0) dX10_markSet_149 ?_
              refine rr_istore (i := 4) (ls' := [VR m, VI x1, VI x2, VI r13, VI 0]) dX10_markSet_150 (Nat.le_of_ble_eq_true rfl) rfl rfl ⟨by decide, by decide⟩ ?_
              refine r_aload_n dX10_markSet_152 rfl (i := 0) rfl ?_
              refine rr_getR (b := (m + 15)) dX10_markSet_153 fg_X10_53 rfl rfl (wX10_l hm) (wX10_s hm) (wX10_r16 hm) ?_
              refine r_iload_n dX10_markSet_156 rfl (i := 1) rfl ?_
              refine r_iload dX10_markSet_157 (i := 4) rfl ?_
              obtain ⟨hc23, hT⟩ := hT
              refine rr_zastore dX10_markSet_159 (wX10_l16 hm) (wX10_a16 hm) (by decide) hc23 ⟨by decide, by decide⟩ (fun M24 eM24 => ?_)
              have hFM24 := jFr_up hFI12 eM24 (wX10_f hm 15 (by decide))
              replace hT := hT M24 eM24
              refine jOk_mem (fun hIM24 => ?_)
              refine r_iload_n dX10_markSet_160 rfl (i := 2) rfl ?_
              refine r_iload dX10_markSet_161 (i := 4) rfl ?_
              refine r_if_eq (tgt := 170) dX10_markSet_163 rfl ⟨by decide, by decide⟩ (fun hcc => ?_) (fun hcc => ?_)
              · skip
                refine r_iconst (n := 0) dX10_markSet_170 ?_
                refine r_isub dX10_markSet_171 ?_
                obtain ⟨hc25, hT⟩ := hT
                refine rr_istore_n (i := 2) (ls' := [VR m, VI x1, VI (x2 - 0), VI r13, VI 0]) dX10_markSet_172 rfl (Nat.le_of_ble_eq_true rfl) rfl rfl hc25 ?_
                refine r_iload dX10_markSet_173 (i := 4) rfl ?_
                refine r_if_eq (tgt := 182) dX10_markSet_175 rfl ⟨by decide, by decide⟩ (fun hcc => ?_) (fun hcc => ?_)
                · skip
                  refine r_iload_n dX10_markSet_182 rfl (i := 1) rfl ?_
                  refine r_iconst (n := 1) dX10_markSet_183 ?_
                  refine r_iadd dX10_markSet_184 ?_
                  obtain ⟨hc26, hT⟩ := hT
                  refine rr_istore_n (i := 1) (ls' := [VR m, VI (x1 + 1), VI (x2 - 0), VI r13, VI 0]) dX10_markSet_185 rfl (Nat.le_of_ble_eq_true rfl) rfl rfl hc26 ?_
                  refine r_goto (tgt := 33) dX10_markSet_186 rfl ?_
                  exact jOk_le (ls' := [VR m, VI (x1 + 1), VI (x2 - 0), VN, VN]) ⟨Or.inr rfl, Or.inr rfl, Or.inr rfl, Or.inl rfl, Or.inl rfl, trivial⟩ (hT I0 hFM24)
                · exact absurd hcc (by decide)
              · exact absurd hcc (by decide)
            · replace hT := hT.2 hcc
              refine r_iconst (n := 1) dX10_markSet_116 ?_
              refine r_aload_n dX10_markSet_117 rfl (i := 0) rfl ?_
              refine rr_getR (b := (m + 17)) dX10_markSet_118 fg_X10_59 rfl rfl (wX10_l hm) (wX10_s hm) (wX10_r19 hm) ?_
              refine r_bipush (n := 21) dX10_markSet_121 (by decide +kernel) ?_
              refine r_iload_n dX10_markSet_123 rfl (i := 3) rfl ?_
              refine r_imul dX10_markSet_124 ?_
              refine r_iload_n dX10_markSet_125 rfl (i := 2) rfl ?_
              refine r_iadd dX10_markSet_126 ?_
              refine r_iconst (n := 1) dX10_markSet_127 ?_
              refine r_isub dX10_markSet_128 ?_
              obtain ⟨hc27, hT⟩ := hT
              refine rr_iaload (v := I12 (m + 17) (((21 * r13) + x2) - 1)) dX10_markSet_129 (wX10_l19 hm) (wX10_a19 hm) (by decide) hc27 rfl ?_
              refine r_iadd dX10_markSet_130 ?_
              refine r_aload_n dX10_markSet_131 rfl (i := 0) rfl ?_
              refine rr_getR (b := (m + 17)) dX10_markSet_132 fg_X10_59 rfl rfl (wX10_l hm) (wX10_s hm) (wX10_r19 hm) ?_
              refine r_bipush (n := 21) dX10_markSet_135 (by decide +kernel) ?_
              refine r_iload_n dX10_markSet_137 rfl (i := 1) rfl ?_
              refine r_imul dX10_markSet_138 ?_
              refine r_iload_n dX10_markSet_139 rfl (i := 2) rfl ?_
              refine r_iadd dX10_markSet_140 ?_
              obtain ⟨hc28, hT⟩ := hT
              refine rr_iaload (v := I12 (m + 17) ((21 * x1) + x2)) dX10_markSet_141 (wX10_l19 hm) (wX10_a19 hm) (by decide) hc28 rfl ?_
              obtain ⟨hc29, hT⟩ := hT
              refine r_icmp_ne (tgt := 149) dX10_markSet_142 rfl hc29 (hI12 _ _).inR (fun hcc => ?_) (fun hcc => ?_)
              · replace hT := hT.1 hcc
                refine r_iconst (n := 0) dX10_markSet_149 ?_
                refine rr_istore (i := 4) (ls' := [VR m, VI x1, VI x2, VI r13, VI 0]) dX10_markSet_150 (Nat.le_of_ble_eq_true rfl) rfl rfl ⟨by decide, by decide⟩ ?_
                refine r_aload_n dX10_markSet_152 rfl (i := 0) rfl ?_
                refine rr_getR (b := (m + 15)) dX10_markSet_153 fg_X10_53 rfl rfl (wX10_l hm) (wX10_s hm) (wX10_r16 hm) ?_
                refine r_iload_n dX10_markSet_156 rfl (i := 1) rfl ?_
                refine r_iload dX10_markSet_157 (i := 4) rfl ?_
                obtain ⟨hc30, hT⟩ := hT
                refine rr_zastore dX10_markSet_159 (wX10_l16 hm) (wX10_a16 hm) (by decide) hc30 ⟨by decide, by decide⟩ (fun M31 eM31 => ?_)
                have hFM31 := jFr_up hFI12 eM31 (wX10_f hm 15 (by decide))
                replace hT := hT M31 eM31
                refine jOk_mem (fun hIM31 => ?_)
                refine r_iload_n dX10_markSet_160 rfl (i := 2) rfl ?_
                refine r_iload dX10_markSet_161 (i := 4) rfl ?_
                refine r_if_eq (tgt := 170) dX10_markSet_163 rfl ⟨by decide, by decide⟩ (fun hcc => ?_) (fun hcc => ?_)
                · skip
                  refine r_iconst (n := 0) dX10_markSet_170 ?_
                  refine r_isub dX10_markSet_171 ?_
                  obtain ⟨hc32, hT⟩ := hT
                  refine rr_istore_n (i := 2) (ls' := [VR m, VI x1, VI (x2 - 0), VI r13, VI 0]) dX10_markSet_172 rfl (Nat.le_of_ble_eq_true rfl) rfl rfl hc32 ?_
                  refine r_iload dX10_markSet_173 (i := 4) rfl ?_
                  refine r_if_eq (tgt := 182) dX10_markSet_175 rfl ⟨by decide, by decide⟩ (fun hcc => ?_) (fun hcc => ?_)
                  · skip
                    refine r_iload_n dX10_markSet_182 rfl (i := 1) rfl ?_
                    refine r_iconst (n := 1) dX10_markSet_183 ?_
                    refine r_iadd dX10_markSet_184 ?_
                    obtain ⟨hc33, hT⟩ := hT
                    refine rr_istore_n (i := 1) (ls' := [VR m, VI (x1 + 1), VI (x2 - 0), VI r13, VI 0]) dX10_markSet_185 rfl (Nat.le_of_ble_eq_true rfl) rfl rfl hc33 ?_
                    refine r_goto (tgt := 33) dX10_markSet_186 rfl ?_
                    exact jOk_le (ls' := [VR m, VI (x1 + 1), VI (x2 - 0), VN, VN]) ⟨Or.inr rfl, Or.inr rfl, Or.inr rfl, Or.inl rfl, Or.inl rfl, trivial⟩ (hT I0 hFM31)
                  · exact absurd hcc (by decide)
                · exact absurd hcc (by decide)
              · replace hT := hT.2 hcc
                refine r_iconst (n := 1) dX10_markSet_145 ?_
                refine r_goto (tgt := 150) dX10_markSet_146 rfl ?_
                refine rr_istore (i := 4) (ls' := [VR m, VI x1, VI x2, VI r13, VI 1]) dX10_markSet_150 (Nat.le_of_ble_eq_true rfl) rfl rfl ⟨by decide, by decide⟩ ?_
                refine r_aload_n dX10_markSet_152 rfl (i := 0) rfl ?_
                refine rr_getR (b := (m + 15)) dX10_markSet_153 fg_X10_53 rfl rfl (wX10_l hm) (wX10_s hm) (wX10_r16 hm) ?_
                refine r_iload_n dX10_markSet_156 rfl (i := 1) rfl ?_
                refine r_iload dX10_markSet_157 (i := 4) rfl ?_
                obtain ⟨hc34, hT⟩ := hT
                refine rr_zastore dX10_markSet_159 (wX10_l16 hm) (wX10_a16 hm) (by decide) hc34 ⟨by decide, by decide⟩ (fun M35 eM35 => ?_)
                have hFM35 := jFr_up hFI12 eM35 (wX10_f hm 15 (by decide))
                replace hT := hT M35 eM35
                refine jOk_mem (fun hIM35 => ?_)
                refine r_iload_n dX10_markSet_160 rfl (i := 2) rfl ?_
                refine r_iload dX10_markSet_161 (i := 4) rfl ?_
                refine r_if_eq (tgt := 170) dX10_markSet_163 rfl ⟨by decide, by decide⟩ (fun hcc => ?_) (fun hcc => ?_)
                · exact absurd hcc (by decide)
                · skip
                  refine r_iconst (n := 1) dX10_markSet_166 ?_
                  refine r_goto (tgt := 171) dX10_markSet_167 rfl ?_
                  refine r_isub dX10_markSet_171 ?_
                  obtain ⟨hc36, hT⟩ := hT
                  refine rr_istore_n (i := 2) (ls' := [VR m, VI x1, VI (x2 - 1), VI r13, VI 1]) dX10_markSet_172 rfl (Nat.le_of_ble_eq_true rfl) rfl rfl hc36 ?_
                  refine r_iload dX10_markSet_173 (i := 4) rfl ?_
                  refine r_if_eq (tgt := 182) dX10_markSet_175 rfl ⟨by decide, by decide⟩ (fun hcc => ?_) (fun hcc => ?_)
                  · exact absurd hcc (by decide)
                  · skip
                    refine r_iload_n dX10_markSet_178 rfl (i := 3) rfl ?_
                    refine r_goto (tgt := 185) dX10_markSet_179 rfl ?_
                    refine rr_istore_n (i := 1) (ls' := [VR m, VI r13, VI (x2 - 1), VI r13, VI 1]) dX10_markSet_185 rfl (Nat.le_of_ble_eq_true rfl) rfl rfl hc14 ?_
                    refine r_goto (tgt := 33) dX10_markSet_186 rfl ?_
                    exact jOk_le (ls' := [VR m, VI r13, VI (x2 - 1), VN, VN]) ⟨Or.inr rfl, Or.inr rfl, Or.inr rfl, Or.inl rfl, Or.inl rfl, trivial⟩ (hT I0 hFM35)
set_option maxRecDepth 20000 in
theorem st_X10_markSet_2 {E : jE} {G : jG} {I : jM} {q : jM → Prop} {m : Nat} {x1 : Int} (hm : WX10 G m) (hT : (∀ a j, jRg (G.2.1 a).1 (I a j)) → jIn x1 → (((I m 17) ≤ x1 → jOV E (jA m) kX10_markSet 33 [VR m, VI 0, VI (I (m + 1) 6), VN, VN] G I q) ∧ (¬ (I m 17) ≤ x1 → ((0 : Int) ≤ x1 ∧ (x1 : Int) < 1200) ∧ (∀ M3, M3 = jup I (m + 15) x1 0 → jIn (x1 + 1) ∧ jOV E (jA m) kX10_markSet 2 [VR m, VI (x1 + 1), VN, VN, VN] G M3 q)))) : jOV E (jA m) kX10_markSet 2 [VR m, VI x1, VN, VN, VN] G I q := by
  intro I0 hF
  refine jOk_mem (fun hI => ?_)
  refine jOk_in (i := 1) rfl (fun hx1 => ?_)
  replace hT := hT hI hx1
  refine r_iload_n dX10_markSet_2 rfl (i := 1) rfl ?_
  refine r_aload_n dX10_markSet_3 rfl (i := 0) rfl ?_
  refine rr_getI (v := I m 17) dX10_markSet_4 fg_X10_175 rfl (wX10_l hm) (wX10_s hm) rfl ?_
  refine r_icmp_ge (tgt := 23) dX10_markSet_7 rfl hx1 (hI _ _).inR (fun hcc => ?_) (fun hcc => ?_)
  · replace hT := hT.1 hcc
    refine r_iconst (n := 0) dX10_markSet_23 ?_
    refine rr_istore_n (i := 1) (ls' := [VR m, VI 0, VN, VN, VN]) dX10_markSet_24 rfl (Nat.le_of_ble_eq_true rfl) rfl rfl ⟨by decide, by decide⟩ ?_
    refine r_aload_n dX10_markSet_25 rfl (i := 0) rfl ?_
    refine rr_getR (b := (m + 1)) dX10_markSet_26 fg_X10_7 rfl rfl (wX10_l hm) (wX10_s hm) (wX10_r0 hm) ?_
    refine r_bipush (n := 6) dX10_markSet_29 (by decide +kernel) ?_
    refine rr_iaload (v := I (m + 1) 6) dX10_markSet_31 (wX10_l0 hm) (wX10_a0 hm) (by decide) ⟨by decide, by decide⟩ rfl ?_
    refine rr_istore_n (i := 2) (ls' := [VR m, VI 0, VI (I (m + 1) 6), VN, VN]) dX10_markSet_32 rfl (Nat.le_of_ble_eq_true rfl) rfl rfl (hI _ _).inR ?_
    exact hT I0 hF
  · replace hT := hT.2 hcc
    refine r_aload_n dX10_markSet_10 rfl (i := 0) rfl ?_
    refine rr_getR (b := (m + 15)) dX10_markSet_11 fg_X10_53 rfl rfl (wX10_l hm) (wX10_s hm) (wX10_r16 hm) ?_
    refine r_iload_n dX10_markSet_14 rfl (i := 1) rfl ?_
    refine r_iconst (n := 0) dX10_markSet_15 ?_
    obtain ⟨hc2, hT⟩ := hT
    refine rr_zastore dX10_markSet_16 (wX10_l16 hm) (wX10_a16 hm) (by decide) hc2 ⟨by decide, by decide⟩ (fun M3 eM3 => ?_)
    have hFM3 := jFr_up hF eM3 (wX10_f hm 15 (by decide))
    replace hT := hT M3 eM3
    refine jOk_mem (fun hIM3 => ?_)
    obtain ⟨hc4, hT⟩ := hT
    refine rr_iinc (i := 1) (ls' := [VR m, VI (x1 + 1), VN, VN, VN]) dX10_markSet_17 rfl (Nat.le_of_ble_eq_true rfl) rfl rfl hc4 ?_
    refine r_goto (tgt := 2) dX10_markSet_20 rfl ?_
    exact hT I0 hFM3
set_option maxRecDepth 20000 in
theorem st_X10_markSet_0 {E : jE} {G : jG} {I : jM} {q : jM → Prop} {m : Nat} (hm : WX10 G m) (hT : (∀ a j, jRg (G.2.1 a).1 (I a j)) → jOV E (jA m) kX10_markSet 2 [VR m, VI 0, VN, VN, VN] G I q) : jOV E (jA m) kX10_markSet 0 [VR m, VN, VN, VN, VN] G I q := by
  intro I0 hF
  refine jOk_mem (fun hI => ?_)
  replace hT := hT hI 
  refine r_iconst (n := 0) dX10_markSet_0 ?_
  refine rr_istore_n (i := 1) (ls' := [VR m, VI 0, VN, VN, VN]) dX10_markSet_1 rfl (Nat.le_of_ble_eq_true rfl) rfl rfl ⟨by decide, by decide⟩ ?_
  exact hT I0 hF
theorem en_X10_markSet {E : jE} {G : jG} {I : jM} {q : jM → Prop} {m : Nat} (hm : WX10 G m) (hT : (∀ a j, jRg (G.2.1 a).1 (I a j)) → jOV E (jA m) kX10_markSet 2 [VR m, VI 0, VN, VN, VN] G I q) : jRV E (jA m) kX10_markSet [VR m] G I q := jRun.of mt_X10_markSet.2.2.2 4 rfl (fun _ => st_X10_markSet_0 hm hT I (fun _ _ => rfl))
/-- what is known of the findings when the set is laid -/
def SetIn (m : Nat) (N : Int) (v : Int → Int) (fr : Int → Prop) (nx : Int → Int) (I : jM) : Prop := I m 17 = N ∧ 0 ≤ N ∧ N ≤ 1200 ∧ (0 ≤ I (m + 1) 6 ∧ I (m + 1) 6 ≤ 20) ∧ ∀ f, 0 ≤ f → f < N → I (m + 12) f = v f ∧ (0 ≤ v f ∧ v f ≤ 9900) ∧ ((I (m + 13) f = 0 ∧ I (m + 14) f = 0) ↔ fr f) ∧ isNxt m I f (nx f)
def WS (m : Nat) (I I' : jM) : Prop := ∀ a j, a ≠ m + 16 → a ≠ m + 17 → I' a j = I a j
theorem WS.trans {m : Nat} {I I' I'' : jM} (h : WS m I I') (h' : WS m I' I'') : WS m I I'' := fun a j ha hb => (h' a j ha hb).trans (h a j ha hb)
theorem SetIn.ws {m : Nat} {N : Int} {v : Int → Int} {fr : Int → Prop} {nx : Int → Int} {I I' : jM} (h : SetIn m N v fr nx I) (hw : WS m I I') : SetIn m N v fr nx I' := by
  have e : ∀ a j, a ≠ m + 16 → a ≠ m + 17 → I' a j = I a j := hw
  obtain ⟨h1, h2, h3, h4, h5⟩ := h
  refine ⟨by rw [e _ _ (by omega) (by omega)]; exact h1, h2, h3, by rw [e _ _ (by omega) (by omega)]; exact h4, fun f f0 f1 => ?_⟩
  obtain ⟨g1, g2, g3, g4, g5, g6, g7⟩ := h5 f f0 f1
  refine ⟨by rw [e _ _ (by omega) (by omega)]; exact g1, g2, by rw [e _ _ (by omega) (by omega), e _ _ (by omega) (by omega)]; exact g3, g4, by rw [e _ _ (by omega) (by omega)]; exact g5, fun k k0 k1 => ?_, fun q => ?_⟩
  · rw [e _ _ (by omega) (by omega), e _ _ (by omega) (by omega)]
    exact g6 k k0 k1
  · rw [e _ _ (by omega) (by omega)] at q
    rw [e _ _ (by omega) (by omega), e _ _ (by omega) (by omega)]
    exact g7 q
/-- the recurrence at one place -/
def DPs (v : Int → Int) (fr : Int → Prop) (nx : Int → Int) (mo fe : Int → Int → Int) (f c : Int) : Prop :=
    (¬ (fr f ∧ 0 < c) → mo f c = mo (f + 1) c ∧ fe f c = fe (f + 1) c) ∧
    (fr f ∧ 0 < c → ((v f + mo (nx f) (c - 1) < mo (f + 1) c ∨ (v f + mo (nx f) (c - 1) = mo (f + 1) c ∧ fe (f + 1) c < 1 + fe (nx f) (c - 1))) → mo f c = mo (f + 1) c ∧ fe f c = fe (f + 1) c) ∧
      (¬ (v f + mo (nx f) (c - 1) < mo (f + 1) c ∨ (v f + mo (nx f) (c - 1) = mo (f + 1) c ∧ fe (f + 1) c < 1 + fe (nx f) (c - 1))) → mo f c = v f + mo (nx f) (c - 1) ∧ fe f c = 1 + fe (nx f) (c - 1)))
abbrev moM (m : Nat) (I : jM) (f c : Int) : Int := I (m + 16) (21 * f + c)
abbrev feM (m : Nat) (I : jM) (f c : Int) : Int := I (m + 17) (21 * f + c)
/-- the rows behind f, and those of f with fewer than c, are laid -/
def DPp (m : Nat) (N : Int) (v : Int → Int) (fr : Int → Prop) (nx : Int → Int) (I : jM) (f c : Int) : Prop := (∀ k, 0 ≤ k → k ≤ 20 → moM m I N k = 0 ∧ feM m I N k = 0) ∧ ∀ g k, 0 ≤ g → g < N → 0 ≤ k → k ≤ 20 → (f < g ∨ (g = f ∧ k < c)) → DPs v fr nx (moM m I) (feM m I) g k
/-- values at rows not before f: small -/
theorem DPp.bd {m : Nat} {N : Int} {v : Int → Int} {fr : Int → Prop} {nx : Int → Int} {I : jM} {f c0 : Int} (h : DPp m N v fr nx I f c0) (hs : SetIn m N v fr nx I) : ∀ (d : Nat) (g k : Int), f < g → g + d = N → 0 ≤ g → 0 ≤ k → k ≤ 20 → 0 ≤ feM m I g k ∧ feM m I g k ≤ k ∧ 0 ≤ moM m I g k ∧ moM m I g k ≤ 9900 * k := by
  have key : ∀ (d : Nat), ∀ (d' : Nat), d' ≤ d → ∀ (g k : Int), f < g → g + d' = N → 0 ≤ g → 0 ≤ k → k ≤ 20 → 0 ≤ feM m I g k ∧ feM m I g k ≤ k ∧ 0 ≤ moM m I g k ∧ moM m I g k ≤ 9900 * k := by
    intro d
    induction d with
    | zero =>
      intro d' hd g k g0 g1 g2 k0 k1
      have e : g = N := by omega
      subst e
      have := h.1 k k0 k1
      omega
    | succ d ih =>
      intro d' hd g k g0 g1 g2 k0 k1
      by_cases hd0 : d' = 0
      · have e : g = N := by omega
        subst e
        have := h.1 k k0 k1
        omega
      · have gN : g < N := by omega
        have q1 := ih (d' - 1) (by omega) (g + 1) k (by omega) (by omega) (by omega) k0 k1
        have q2 := h.2 g k g2 gN k0 k1 (Or.inl g0)
        obtain ⟨-, hv', -, hn1, hn2, -, -⟩ := hs.2.2.2.2 g g2 gN
        rw [hs.1] at hn2
        by_cases hc : fr g ∧ 0 < k
        · have q3 := ih (N - nx g).toNat (by omega) (nx g) (k - 1) (by omega) (by omega) (by omega) (by omega) (by omega)
          by_cases hq : (v g + moM m I (nx g) (k - 1) < moM m I (g + 1) k ∨ (v g + moM m I (nx g) (k - 1) = moM m I (g + 1) k ∧ feM m I (g + 1) k < 1 + feM m I (nx g) (k - 1)))
          · have := (q2.2 hc).1 hq
            omega
          · have := (q2.2 hc).2 hq
            omega
        · have := q2.1 hc
          omega
  intro d g k
  exact key d d (Nat.le_refl d) g k
/-- a write at row f, place c leaves what is laid -/
theorem DPp.put {m : Nat} {N : Int} {v : Int → Int} {fr : Int → Prop} {nx : Int → Int} {I I' : jM} {f c : Int} (h : DPp m N v fr nx I f c) (hN : f < N) (hf : 0 ≤ f) (hc : 0 ≤ c ∧ c ≤ 20) (hn : ∀ g, 0 ≤ g → g < N → g < nx g) (hI : ∀ a j, (a = m + 16 ∨ a = m + 17) → j ≠ 21 * f + c → I' a j = I a j) (hnew : DPs v fr nx (moM m I') (feM m I') f c) : DPp m N v fr nx I' f (c + 1) := by
  refine ⟨fun k k0 k1 => ?_, fun g k g0 g1 k0 k1 hgk => ?_⟩
  · have := h.1 k k0 k1
    unfold moM feM at *
    rw [hI _ _ (Or.inl rfl) (by omega), hI _ _ (Or.inr rfl) (by omega)]
    exact this
  · by_cases e : g = f ∧ k = c
    · rw [e.1, e.2]
      exact hnew
    · have q := h.2 g k g0 g1 k0 k1 (by omega)
      have hng := hn g g0 g1
      unfold DPs moM feM at *
      rw [hI (m + 16) (21 * g + k) (Or.inl rfl) (by omega), hI (m + 17) (21 * g + k) (Or.inr rfl) (by omega), hI (m + 16) (21 * (g + 1) + k) (Or.inl rfl) (by omega), hI (m + 17) (21 * (g + 1) + k) (Or.inr rfl) (by omega)]
      by_cases hk : 0 < k
      · rw [hI (m + 16) (21 * nx g + (k - 1)) (Or.inl rfl) (by omega), hI (m + 17) (21 * nx g + (k - 1)) (Or.inr rfl) (by omega)]
        exact q
      · exact ⟨q.1, fun q2 => absurd q2.2 hk⟩
