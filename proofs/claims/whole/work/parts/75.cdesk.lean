/-! ===== the class as a whole ===== -/
theorem RP.keep {G : jG} {δ : Nat} {v : Int} {X : Int → Int} {I I' : jM} (h : RP G δ v X I) (e : ∀ a j, ((169 ≤ a ∧ a < 195) ∨ 635 ≤ a) → ¬ (δ ≤ a ∧ a < δ + 13) → I' a j = I a j) : RP G δ v X I' := by
  obtain ⟨ρ, h1, h2, h3, h4, h5⟩ := h
  exact ⟨ρ, h1, h2, h3, h4, h5.fr (fun a j a0 a1 => e a j (by omega) (by omega))⟩
theorem ST.keep {G : jG} {δ a : Nat} {X : Int → Int} {I I' : jM} (h : ST G δ a X I) (e : ∀ b j, (a ≤ b ∧ b < a + 9) ∨ (((169 ≤ b ∧ b < 195) ∨ 635 ≤ b) ∧ ¬ (δ ≤ b ∧ b < δ + 13)) → I' b j = I b j) : ST G δ a X I' := by
  obtain ⟨h1, h2, h3, h4, h5⟩ := h
  refine ⟨h1.fr (fun b j b0 b1 => e b j (by omega)), ?_, (e _ _ (by omega)).trans h3, h4.fr (fun b j q => e _ _ (by omega)), h5.fr (fun b j q => e _ _ (by omega))⟩
  rw [e _ _ (by omega)]
  exact h2.keep (fun b j b0 b1 => e b j (Or.inr ⟨b0, b1⟩))
theorem HS.keep {G : jG} {δ h : Nat} {H : List (Int → Int)} {I I' : jM} (hs : HS G δ h H I) (e : ∀ b j, (h ≤ b ∧ b < h + 182) ∨ (((169 ≤ b ∧ b < 195) ∨ 635 ≤ b) ∧ ¬ (δ ≤ b ∧ b < δ + 13)) → I' b j = I b j) : HS G δ h H I' := by
  obtain ⟨h1, h2, h3, h4⟩ := hs
  have e1 : I' h 1 = I h 1 := e _ _ (by omega)
  refine ⟨(e _ _ (by omega)).trans h1, h2, by rw [e1]; exact h3, fun i hi' => ?_⟩
  have b := sl_bd h (I h 1 + i)
  rw [e1]
  exact (h4 i hi').keep (fun c j q => e c j (by omega))
/-- the tape -/
def TPc (m : Nat) (T : List Int) (I : jM) : Prop := I m 1 = T.length ∧ T.length ≤ 300 ∧ ∀ i : Nat, i < T.length → (0 ≤ T.getD i 0 ∧ T.getD i 0 ≤ 255) ∧ I (m + 168) i = jb8 (T.getD i 0)
def CS (G : jG) (m δ : Nat) (I : jM) (B : Int → Int) (H : List (Int → Int)) (B' : Int → Int) (H' : List (Int → Int)) (T : List Int) (fk fp : Int) : Prop :=
  (m = 0 ∧ WX9 G m ∧ WX6 G δ ∧ I m 2 = (δ : Int) ∧ (δ = 169 ∨ δ = 182 ∨ 635 ≤ δ)) ∧ ST G δ (m + 195) B I ∧ HS G δ (m + 205) H I ∧ ST G δ (m + 387) B' I ∧ HS G δ (m + 396) H' I ∧ TPc m T I ∧ I (m + 204) 4 = fk ∧ I (m + 204) 5 = fp
/-- what is kept till something changes -/
def CK (G : jG) (m δ : Nat) (I : jM) (B : Int → Int) : Prop := (I m 10 ≠ 0 → ∃ ρ : Nat, LK G (m + 578) (m + 196) ρ B I ∧ (ρ = 169 ∨ ρ = 182 ∨ 635 ≤ ρ) ∧ (ρ + 13 ≤ δ ∨ δ + 13 ≤ ρ)) ∧ (I m 13 ≠ 0 → JO (m + 6) B I) ∧ (I m 15 ≠ 0 → I m 14 = anCure B)
def CC (G : jG) (m δ : Nat) (I : jM) (B : Int → Int) (H : List (Int → Int)) (B' : Int → Int) (H' : List (Int → Int)) (T : List Int) (fk fp : Int) : Prop := CS G m δ I B H B' H' T fk fp ∧ CK G m δ I B
def fl0 (m : Nat) (I : jM) : Prop := I m 10 = 0 ∧ I m 13 = 0 ∧ I m 15 = 0
section CT
variable {E : jE} {G : jG} {m δ : Nat} {I I' : jM} {B B' Y : Int → Int} {H H' : List (Int → Int)} {T : List Int} {fk fp c : Int}
theorem CK.zero (h : fl0 m I) : CK G m δ I B := ⟨fun q => absurd h.1 q, fun q => absurd h.2.1 q, fun q => absurd h.2.2 q⟩
theorem TPc.fr (h : TPc m T I) (e : ∀ a j, (a = m ∧ j = 1) ∨ a = m + 168 → I' a j = I a j) : TPc m T I' := by
  refine ⟨(e _ _ (by omega)).trans h.1, h.2.1, fun i hi => ?_⟩
  rw [e _ _ (by omega)]
  exact h.2.2 i hi
theorem CS.fr (h : CS G m δ I B H B' H' T fk fp) (e : ∀ a j, (a = m ∧ (j = 1 ∨ j = 2)) ∨ a = m + 168 ∨ (m + 195 ≤ a ∧ a < m + 204) ∨ (a = m + 204 ∧ (j = 4 ∨ j = 5)) ∨ (m + 205 ≤ a ∧ a < m + 578) ∨ (((169 ≤ a ∧ a < 195) ∨ 635 ≤ a) ∧ ¬ (δ ≤ a ∧ a < δ + 13)) → I' a j = I a j) : CS G m δ I' B H B' H' T fk fp := by
  obtain ⟨⟨h0, h1, h2, h3, h4⟩, h5, h6, h7, h8, h9, h10, h11⟩ := h
  exact ⟨⟨h0, h1, h2, (e _ _ (by omega)).trans h3, h4⟩, h5.keep (fun b j q => e b j (by omega)), h6.keep (fun b j q => e b j (by omega)), h7.keep (fun b j q => e b j (by omega)), h8.keep (fun b j q => e b j (by omega)), h9.fr (fun b j q => e b j (by omega)), (e _ _ (by omega)).trans h10, (e _ _ (by omega)).trans h11⟩
/-- the state alone has changed -/
theorem CS.now (h : CS G m δ I B H B' H' T fk fp) (e : Fr (m + 195) (m + 204) I I') (hS : ST G δ (m + 195) Y I') : CS G m δ I' Y H B' H' T fk fp := by
  obtain ⟨⟨h0, h1, h2, h3, h4⟩, h5, h6, h7, h8, h9, h10, h11⟩ := h
  exact ⟨⟨h0, h1, h2, (e _ _ (by omega)).trans h3, h4⟩, hS, h6.keep (fun b j q => e b j (by omega)), h7.keep (fun b j q => e b j (by omega)), h8.keep (fun b j q => e b j (by omega)), h9.fr (fun b j q => e b j (by omega)), (e _ _ (by omega)).trans h10, (e _ _ (by omega)).trans h11⟩
theorem fl0.fr (h : fl0 m I) (e : ∀ j, (j = 10 ∨ j = 13 ∨ j = 15) → I' m j = I m j) : fl0 m I' := ⟨(e _ (by omega)).trans h.1, (e _ (by omega)).trans h.2.1, (e _ (by omega)).trans h.2.2⟩
theorem CC.fr (h : CC G m δ I B H B' H' T fk fp) (e : ∀ a j, (a = m ∧ (j = 1 ∨ j = 2 ∨ j = 10 ∨ j = 13 ∨ j = 14 ∨ j = 15)) ∨ (m + 6 ≤ a ∧ a < m + 164) ∨ a = m + 168 ∨ (m + 195 ≤ a ∧ a < m + 204) ∨ (a = m + 204 ∧ (j = 4 ∨ j = 5)) ∨ (m + 205 ≤ a ∧ a < m + 578) ∨ (m + 578 ≤ a ∧ a < m + 592 ∧ a ≠ m + 582 ∧ (a ≠ m + 578 ∨ j ≠ 4)) ∨ (((169 ≤ a ∧ a < 195) ∨ 635 ≤ a) ∧ ¬ (δ ≤ a ∧ a < δ + 13)) → I' a j = I a j) : CC G m δ I' B H B' H' T fk fp := by
  have h0 := h.1.1.1
  refine ⟨h.1.fr (fun a j q => e a j (by omega)), fun q => ?_, fun q => ?_, fun q => ?_⟩
  · rw [e _ _ (by omega)] at q
    obtain ⟨ρ, l1, l2, l3⟩ := h.2.1 q
    exact ⟨ρ, l1.fr (fun a j qa => e a j (by omega)), l2, l3⟩
  · rw [e _ _ (by omega)] at q
    exact (h.2.2.1 q).fr (fun a j a0 a1 => e a j (by omega))
  · rw [e _ _ (by omega)] at q
    rw [e _ _ (by omega)]
    exact h.2.2.2 q
set_option maxRecDepth 20000 in
theorem st_X9_forget_0 {E : jE} {G : jG} {I : jM} {q : jM → Prop} {m : Nat} (hm : WX9 G m) (hT : (∀ a j, jRg (G.2.1 a).1 (I a j)) → (∀ M1, M1 = jup I m 10 0 → (∀ M2, M2 = jup M1 m 13 0 → (∀ M3, M3 = jup M2 m 15 0 → q M3)))) : jOV E jB kX9_forget 0 [VR m] G I q := by
  intro I0 hF
  refine jOk_mem (fun hI => ?_)
  replace hT := hT hI 
  refine r_aload_n dX9_forget_0 rfl (i := 0) rfl ?_
  refine r_iconst (n := 0) dX9_forget_1 ?_
  refine rr_putZ (jj := 10) dX9_forget_2 fp_X9_411 rfl rfl (wX9_l hm) (wX9_s hm) ⟨by decide, by decide⟩ (fun M1 eM1 => ?_)
  have hFM1 := jFr_up hF eM1 (wX9_f hm 0 (by decide))
  replace hT := hT M1 eM1
  refine jOk_mem (fun hIM1 => ?_)
  refine r_aload_n dX9_forget_5 rfl (i := 0) rfl ?_
  refine r_iconst (n := 0) dX9_forget_6 ?_
  refine rr_putZ (jj := 13) dX9_forget_7 fp_X9_380 rfl rfl (wX9_l hm) (wX9_s hm) ⟨by decide, by decide⟩ (fun M2 eM2 => ?_)
  have hFM2 := jFr_up hFM1 eM2 (wX9_f hm 0 (by decide))
  replace hT := hT M2 eM2
  refine jOk_mem (fun hIM2 => ?_)
  refine r_aload_n dX9_forget_10 rfl (i := 0) rfl ?_
  refine r_iconst (n := 0) dX9_forget_11 ?_
  refine rr_putZ (jj := 15) dX9_forget_12 fp_X9_373 rfl rfl (wX9_l hm) (wX9_s hm) ⟨by decide, by decide⟩ (fun M3 eM3 => ?_)
  have hFM3 := jFr_up hFM2 eM3 (wX9_f hm 0 (by decide))
  replace hT := hT M3 eM3
  refine jOk_mem (fun hIM3 => ?_)
  exact r_vret dX9_forget_15 rfl ⟨Nat.zero_le _, Nat.zero_le _⟩ ⟨rfl, rfl, hFM3, hT⟩
theorem en_X9_forget {E : jE} {G : jG} {I : jM} {q : jM → Prop} {m : Nat} (hm : WX9 G m) (hT : (∀ a j, jRg (G.2.1 a).1 (I a j)) → (∀ M1, M1 = jup I m 10 0 → (∀ M2, M2 = jup M1 m 13 0 → (∀ M3, M3 = jup M2 m 15 0 → q M3)))) : jRV E jB kX9_forget [VR m] G I q := jRun.of mt_X9_forget.2.2.2 0 rfl (fun _ => st_X9_forget_0 hm hT I (fun _ _ => rfl))
set_option maxRecDepth 20000 in
theorem st_X9_keepStep_0 {E : jE} {G : jG} {I : jM} {q : jM → Prop} {m : Nat} (hm : WX9 G m) (hT : (∀ a j, jRg (G.2.1 a).1 (I a j)) → jRV E jB kX2_keep [VR (m + 205), VR (m + 195)] G I (fun I1 => jRV E jB kX9_forget [VR m] G I1 (fun I2 => q I2))) : jOV E jB kX9_keepStep 0 [VR m] G I q := by
  intro I0 hF
  refine jOk_mem (fun hI => ?_)
  replace hT := hT hI 
  refine r_aload_n dX9_keepStep_0 rfl (i := 0) rfl ?_
  refine rr_getR (b := (m + 205)) dX9_keepStep_1 fg_X9_66 rfl rfl (wX9_l hm) (wX9_s hm) (wX9_r5 hm) ?_
  refine r_aload_n dX9_keepStep_4 rfl (i := 0) rfl ?_
  refine rr_getR (b := (m + 195)) dX9_keepStep_5 fg_X9_59 rfl rfl (wX9_l hm) (wX9_s hm) (wX9_r4 hm) ?_
  refine rr_cVV (a := (m + 205)) (as := [VR (m + 195)]) (st := []) dX9_keepStep_8 mt_X2_keep ml_X9_204 mi_X2_keep rm_X9_keepStep_X2_keep jz_X2_keep ⟨Nat.zero_le _, Nat.zero_le _⟩ (Nat.le_of_ble_eq_true rfl) (wX2_l (wX9_o5 hm)) (wX2_c (wX9_o5 hm)) (jasR jas0) hT (fun I1 hFI1 hT => ?_)
  replace hFI1 := jFr_tr hF hFI1
  refine jOk_mem (fun hI1 => ?_)
  refine r_aload_n dX9_keepStep_11 rfl (i := 0) rfl ?_
  refine rr_cVV (a := m) (as := []) (st := []) dX9_keepStep_12 mt_X9_forget ml_X9_218 mi_X9_forget rm_X9_keepStep_X9_forget jz_X9_forget ⟨Nat.zero_le _, Nat.zero_le _⟩ (Nat.le_of_ble_eq_true rfl) (wX9_l hm) (wX9_c hm) jas0 hT (fun I2 hFI2 hT => ?_)
  replace hFI2 := jFr_tr hFI1 hFI2
  refine jOk_mem (fun hI2 => ?_)
  exact r_vret dX9_keepStep_15 rfl ⟨Nat.zero_le _, Nat.zero_le _⟩ ⟨rfl, rfl, hFI2, hT⟩
theorem en_X9_keepStep {E : jE} {G : jG} {I : jM} {q : jM → Prop} {m : Nat} (hm : WX9 G m) (hT : (∀ a j, jRg (G.2.1 a).1 (I a j)) → jRV E jB kX2_keep [VR (m + 205), VR (m + 195)] G I (fun I1 => jRV E jB kX9_forget [VR m] G I1 (fun I2 => q I2))) : jRV E jB kX9_keepStep [VR m] G I q := jRun.of mt_X9_keepStep.2.2.2 0 rfl (fun _ => st_X9_keepStep_0 hm hT I (fun _ _ => rfl))
set_option maxRecDepth 20000 in
theorem st_X9_isRule_0 {E : jE} {G : jG} {I : jM} {q : Int → jM → Prop} {m : Nat} {x1 : Int} (hm : WX9 G m) (hT : (∀ a j, jRg (G.2.1 a).1 (I a j)) → jIn x1 → ((x1 < 0 → q 0 I) ∧ (¬ x1 < 0 → (∃ b1 : Nat, I (m + 195) 1 = (b1 : Int) ∧ WX6 G b1 ∧ (((I b1 1) ≤ x1 → q 0 I) ∧ (¬ (I b1 1) ≤ x1 → q 1 I)))))) : jOI E jB kX9_isRule 0 [VR m, VI x1] G I q := by
  intro I0 hF
  refine jOk_mem (fun hI => ?_)
  refine jOk_in (i := 1) rfl (fun hx1 => ?_)
  replace hT := hT hI hx1
  refine r_iload_n dX9_isRule_0 rfl (i := 1) rfl ?_
  refine r_if_lt (tgt := 22) dX9_isRule_1 rfl hx1 (fun hcc => ?_) (fun hcc => ?_)
  · replace hT := hT.1 hcc
    refine r_iconst (n := 0) dX9_isRule_22 ?_
    exact r_zret dX9_isRule_23 rfl ⟨by decide, by decide⟩ ⟨Nat.zero_le _, Nat.zero_le _⟩ ⟨_, rfl, rfl, hF, hT⟩
  · replace hT := hT.2 hcc
    refine r_iload_n dX9_isRule_4 rfl (i := 1) rfl ?_
    refine r_aload_n dX9_isRule_5 rfl (i := 0) rfl ?_
    refine rr_getR (b := (m + 195)) dX9_isRule_6 fg_X9_59 rfl rfl (wX9_l hm) (wX9_s hm) (wX9_r4 hm) ?_
    obtain ⟨b1, hc2, hc3, hT⟩ := hT
    refine rr_getM (b := b1) dX9_isRule_9 fg_X9_117 rfl rfl (wX7_l (wX9_o4 hm)) (wX7_s (wX9_o4 hm)) hc2 ?_
    refine rr_getI (v := I b1 1) dX9_isRule_12 fg_X9_120 rfl (wX6_l hc3) (wX6_s hc3) rfl ?_
    refine r_icmp_ge (tgt := 22) dX9_isRule_15 rfl hx1 (hI _ _).inR (fun hcc => ?_) (fun hcc => ?_)
    · replace hT := hT.1 hcc
      refine r_iconst (n := 0) dX9_isRule_22 ?_
      exact r_zret dX9_isRule_23 rfl ⟨by decide, by decide⟩ ⟨Nat.zero_le _, Nat.zero_le _⟩ ⟨_, rfl, rfl, hF, hT⟩
    · replace hT := hT.2 hcc
      refine r_iconst (n := 1) dX9_isRule_18 ?_
      refine r_goto (tgt := 23) dX9_isRule_19 rfl ?_
      exact r_zret dX9_isRule_23 rfl ⟨by decide, by decide⟩ ⟨Nat.zero_le _, Nat.zero_le _⟩ ⟨_, rfl, rfl, hF, hT⟩
theorem en_X9_isRule {E : jE} {G : jG} {I : jM} {q : Int → jM → Prop} {m : Nat} {x1 : Int} (hm : WX9 G m) (hT : (∀ a j, jRg (G.2.1 a).1 (I a j)) → jIn x1 → ((x1 < 0 → q 0 I) ∧ (¬ x1 < 0 → (∃ b1 : Nat, I (m + 195) 1 = (b1 : Int) ∧ WX6 G b1 ∧ (((I b1 1) ≤ x1 → q 0 I) ∧ (¬ (I b1 1) ≤ x1 → q 1 I)))))) : jRI E jB kX9_isRule [VR m, VI x1] G I q := jRun.of mt_X9_isRule.2.2.2 0 rfl (fun _ => st_X9_isRule_0 hm hT I (fun _ _ => rfl))
set_option maxRecDepth 20000 in
theorem st_X9_isByte_0 {E : jE} {G : jG} {I : jM} {q : Int → jM → Prop} {m : Nat} {x1 : Int} (hm : WX9 G m) (hT : (∀ a j, jRg (G.2.1 a).1 (I a j)) → jIn x1 → ((x1 < 0 → q 0 I) ∧ (¬ x1 < 0 → (((I (m + 196) 2) ≤ x1 → q 0 I) ∧ (¬ (I (m + 196) 2) ≤ x1 → q 1 I))))) : jOI E jB kX9_isByte 0 [VR m, VI x1] G I q := by
  intro I0 hF
  refine jOk_mem (fun hI => ?_)
  refine jOk_in (i := 1) rfl (fun hx1 => ?_)
  replace hT := hT hI hx1
  refine r_iload_n dX9_isByte_0 rfl (i := 1) rfl ?_
  refine r_if_lt (tgt := 22) dX9_isByte_1 rfl hx1 (fun hcc => ?_) (fun hcc => ?_)
  · replace hT := hT.1 hcc
    refine r_iconst (n := 0) dX9_isByte_22 ?_
    exact r_zret dX9_isByte_23 rfl ⟨by decide, by decide⟩ ⟨Nat.zero_le _, Nat.zero_le _⟩ ⟨_, rfl, rfl, hF, hT⟩
  · replace hT := hT.2 hcc
    refine r_iload_n dX9_isByte_4 rfl (i := 1) rfl ?_
    refine r_aload_n dX9_isByte_5 rfl (i := 0) rfl ?_
    refine rr_getR (b := (m + 195)) dX9_isByte_6 fg_X9_59 rfl rfl (wX9_l hm) (wX9_s hm) (wX9_r4 hm) ?_
    refine rr_getR (b := (m + 196)) dX9_isByte_9 fg_X9_103 rfl rfl (wX7_l (wX9_o4 hm)) (wX7_s (wX9_o4 hm)) (wX7_r0 (wX9_o4 hm)) ?_
    refine rr_getI (v := I (m + 196) 2) dX9_isByte_12 fg_X9_138 rfl (wX4_l (wX7_o0 (wX9_o4 hm))) (wX4_s (wX7_o0 (wX9_o4 hm))) rfl ?_
    refine r_icmp_ge (tgt := 22) dX9_isByte_15 rfl hx1 (hI _ _).inR (fun hcc => ?_) (fun hcc => ?_)
    · replace hT := hT.1 hcc
      refine r_iconst (n := 0) dX9_isByte_22 ?_
      exact r_zret dX9_isByte_23 rfl ⟨by decide, by decide⟩ ⟨Nat.zero_le _, Nat.zero_le _⟩ ⟨_, rfl, rfl, hF, hT⟩
    · replace hT := hT.2 hcc
      refine r_iconst (n := 1) dX9_isByte_18 ?_
      refine r_goto (tgt := 23) dX9_isByte_19 rfl ?_
      exact r_zret dX9_isByte_23 rfl ⟨by decide, by decide⟩ ⟨Nat.zero_le _, Nat.zero_le _⟩ ⟨_, rfl, rfl, hF, hT⟩
theorem en_X9_isByte {E : jE} {G : jG} {I : jM} {q : Int → jM → Prop} {m : Nat} {x1 : Int} (hm : WX9 G m) (hT : (∀ a j, jRg (G.2.1 a).1 (I a j)) → jIn x1 → ((x1 < 0 → q 0 I) ∧ (¬ x1 < 0 → (((I (m + 196) 2) ≤ x1 → q 0 I) ∧ (¬ (I (m + 196) 2) ≤ x1 → q 1 I))))) : jRI E jB kX9_isByte [VR m, VI x1] G I q := jRun.of mt_X9_isByte.2.2.2 0 rfl (fun _ => st_X9_isByte_0 hm hT I (fun _ _ => rfl))
set_option maxRecDepth 20000 in
theorem st_X9_mayStandInText_0 {E : jE} {A : Nat → Prop} {G : jG} {I : jM} {q : Int → jM → Prop} {x0 : Int}  (hT : (∀ a j, jRg (G.2.1 a).1 (I a j)) → jIn x0 → ((x0 = 10 → q 1 I) ∧ (¬ x0 = 10 → ((x0 < 32 → q 0 I) ∧ (¬ x0 < 32 → ((126 < x0 → q 0 I) ∧ (¬ 126 < x0 → q 1 I))))))) : jOI E A kX9_mayStandInText 0 [VI x0] G I q := by
  intro I0 hF
  refine jOk_mem (fun hI => ?_)
  refine jOk_in (i := 0) rfl (fun hx0 => ?_)
  replace hT := hT hI hx0
  refine r_iload_n dX9_mayStandInText_0 rfl (i := 0) rfl ?_
  refine r_bipush (n := 10) dX9_mayStandInText_1 (by decide +kernel) ?_
  refine r_icmp_eq (tgt := 18) dX9_mayStandInText_3 rfl hx0 ⟨by decide, by decide⟩ (fun hcc => ?_) (fun hcc => ?_)
  · replace hT := hT.1 hcc
    refine r_iconst (n := 1) dX9_mayStandInText_18 ?_
    refine r_goto (tgt := 23) dX9_mayStandInText_19 rfl ?_
    exact r_zret dX9_mayStandInText_23 rfl ⟨by decide, by decide⟩ ⟨Nat.zero_le _, Nat.zero_le _⟩ ⟨_, rfl, rfl, hF, hT⟩
  · replace hT := hT.2 hcc
    refine r_iload_n dX9_mayStandInText_6 rfl (i := 0) rfl ?_
    refine r_bipush (n := 32) dX9_mayStandInText_7 (by decide +kernel) ?_
    refine r_icmp_lt (tgt := 22) dX9_mayStandInText_9 rfl hx0 ⟨by decide, by decide⟩ (fun hcc => ?_) (fun hcc => ?_)
    · replace hT := hT.1 hcc
      refine r_iconst (n := 0) dX9_mayStandInText_22 ?_
      exact r_zret dX9_mayStandInText_23 rfl ⟨by decide, by decide⟩ ⟨Nat.zero_le _, Nat.zero_le _⟩ ⟨_, rfl, rfl, hF, hT⟩
    · replace hT := hT.2 hcc
      refine r_iload_n dX9_mayStandInText_12 rfl (i := 0) rfl ?_
      refine r_bipush (n := 126) dX9_mayStandInText_13 (by decide +kernel) ?_
      refine r_icmp_gt (tgt := 22) dX9_mayStandInText_15 rfl hx0 ⟨by decide, by decide⟩ (fun hcc => ?_) (fun hcc => ?_)
      · replace hT := hT.1 hcc
        refine r_iconst (n := 0) dX9_mayStandInText_22 ?_
        exact r_zret dX9_mayStandInText_23 rfl ⟨by decide, by decide⟩ ⟨Nat.zero_le _, Nat.zero_le _⟩ ⟨_, rfl, rfl, hF, hT⟩
      · replace hT := hT.2 hcc
        refine r_iconst (n := 1) dX9_mayStandInText_18 ?_
        refine r_goto (tgt := 23) dX9_mayStandInText_19 rfl ?_
        exact r_zret dX9_mayStandInText_23 rfl ⟨by decide, by decide⟩ ⟨Nat.zero_le _, Nat.zero_le _⟩ ⟨_, rfl, rfl, hF, hT⟩
theorem en_X9_mayStandInText {E : jE} {A : Nat → Prop} {G : jG} {I : jM} {q : Int → jM → Prop} {x0 : Int}  (hT : (∀ a j, jRg (G.2.1 a).1 (I a j)) → jIn x0 → ((x0 = 10 → q 1 I) ∧ (¬ x0 = 10 → ((x0 < 32 → q 0 I) ∧ (¬ x0 < 32 → ((126 < x0 → q 0 I) ∧ (¬ 126 < x0 → q 1 I))))))) : jRI E A kX9_mayStandInText [VI x0] G I q := jRun.of mt_X9_mayStandInText.2.2.2 0 rfl (fun _ => st_X9_mayStandInText_0  hT I (fun _ _ => rfl))
set_option maxRecDepth 20000 in
theorem st_X9_found_0 {E : jE} {G : jG} {I : jM} {q : Nat → jM → Prop} {m : Nat} (hm : WX9 G m) (hT : (∀ a j, jRg (G.2.1 a).1 (I a j)) → ((¬ (I m 10) = 0 → q (m + 578) I) ∧ ((I m 10) = 0 → jRV E jB kX1_look [VR (m + 578), VR (m + 196), VR (m + 195), VI (I (m + 195) 2)] G I (fun I1 => (∀ M2, M2 = jup I1 m 10 1 → q (m + 578) M2))))) : jOA E jB kX9_found 0 [VR m] G I q := by
  intro I0 hF
  refine jOk_mem (fun hI => ?_)
  replace hT := hT hI 
  refine r_aload_n dX9_found_0 rfl (i := 0) rfl ?_
  refine rr_getI (v := I m 10) dX9_found_1 fg_X9_411 rfl (wX9_l hm) (wX9_s hm) rfl ?_
  refine r_if_ne (tgt := 37) dX9_found_4 rfl (hI _ _).inR (fun hcc => ?_) (fun hcc => ?_)
  · replace hT := hT.1 hcc
    refine r_aload_n dX9_found_37 rfl (i := 0) rfl ?_
    refine rr_getR (b := (m + 578)) dX9_found_38 fg_X9_81 rfl rfl (wX9_l hm) (wX9_s hm) (wX9_r9 hm) ?_
    exact r_aret dX9_found_41 rfl ⟨Nat.zero_le _, Nat.zero_le _⟩ ⟨_, rfl, rfl, hF, hT⟩
  · replace hT := hT.2 hcc
    refine r_aload_n dX9_found_7 rfl (i := 0) rfl ?_
    refine rr_getR (b := (m + 578)) dX9_found_8 fg_X9_81 rfl rfl (wX9_l hm) (wX9_s hm) (wX9_r9 hm) ?_
    refine r_aload_n dX9_found_11 rfl (i := 0) rfl ?_
    refine rr_getR (b := (m + 195)) dX9_found_12 fg_X9_59 rfl rfl (wX9_l hm) (wX9_s hm) (wX9_r4 hm) ?_
    refine rr_getR (b := (m + 196)) dX9_found_15 fg_X9_103 rfl rfl (wX7_l (wX9_o4 hm)) (wX7_s (wX9_o4 hm)) (wX7_r0 (wX9_o4 hm)) ?_
    refine r_aload_n dX9_found_18 rfl (i := 0) rfl ?_
    refine rr_getR (b := (m + 195)) dX9_found_19 fg_X9_59 rfl rfl (wX9_l hm) (wX9_s hm) (wX9_r4 hm) ?_
    refine r_aload_n dX9_found_22 rfl (i := 0) rfl ?_
    refine rr_getR (b := (m + 195)) dX9_found_23 fg_X9_59 rfl rfl (wX9_l hm) (wX9_s hm) (wX9_r4 hm) ?_
    refine rr_getI (v := I (m + 195) 2) dX9_found_26 fg_X9_135 rfl (wX7_l (wX9_o4 hm)) (wX7_s (wX9_o4 hm)) rfl ?_
    refine rr_cVV (a := (m + 578)) (as := [VR (m + 196), VR (m + 195), VI (I (m + 195) 2)]) (st := []) dX9_found_29 mt_X1_look ml_X9_308 mi_X1_look rm_X9_found_X1_look jz_X1_look ⟨Nat.zero_le _, Nat.zero_le _⟩ (Nat.le_of_ble_eq_true rfl) (wX1_l (wX9_o9 hm)) (wX1_c (wX9_o9 hm)) (jasR (jasR (jasI (hI _ _).inR jas0))) hT (fun I1 hFI1 hT => ?_)
    replace hFI1 := jFr_tr hF hFI1
    refine jOk_mem (fun hI1 => ?_)
    refine r_aload_n dX9_found_32 rfl (i := 0) rfl ?_
    refine r_iconst (n := 1) dX9_found_33 ?_
    refine rr_putZ (jj := 10) dX9_found_34 fp_X9_411 rfl rfl (wX9_l hm) (wX9_s hm) ⟨by decide, by decide⟩ (fun M2 eM2 => ?_)
    have hFM2 := jFr_up hFI1 eM2 (wX9_f hm 0 (by decide))
    replace hT := hT M2 eM2
    refine jOk_mem (fun hIM2 => ?_)
    refine r_aload_n dX9_found_37 rfl (i := 0) rfl ?_
    refine rr_getR (b := (m + 578)) dX9_found_38 fg_X9_81 rfl rfl (wX9_l hm) (wX9_s hm) (wX9_r9 hm) ?_
    exact r_aret dX9_found_41 rfl ⟨Nat.zero_le _, Nat.zero_le _⟩ ⟨_, rfl, rfl, hFM2, hT⟩
theorem en_X9_found {E : jE} {G : jG} {I : jM} {q : Nat → jM → Prop} {m : Nat} (hm : WX9 G m) (hT : (∀ a j, jRg (G.2.1 a).1 (I a j)) → ((¬ (I m 10) = 0 → q (m + 578) I) ∧ ((I m 10) = 0 → jRV E jB kX1_look [VR (m + 578), VR (m + 196), VR (m + 195), VI (I (m + 195) 2)] G I (fun I1 => (∀ M2, M2 = jup I1 m 10 1 → q (m + 578) M2))))) : jRA E jB kX9_found [VR m] G I q := jRun.of mt_X9_found.2.2.2 0 rfl (fun _ => st_X9_found_0 hm hT I (fun _ _ => rfl))
set_option maxRecDepth 20000 in
theorem st_X9_way_0 {E : jE} {G : jG} {I : jM} {q : Nat → jM → Prop} {m : Nat} (hm : WX9 G m) (hT : (∀ a j, jRg (G.2.1 a).1 (I a j)) → ((¬ (I m 13) = 0 → q (m + 6) I) ∧ ((I m 13) = 0 → jRV E jB kX3_travel [VR (m + 6), VR (m + 195), VI (I (m + 195) 2), VR (m + 592)] G I (fun I1 => (∀ M2, M2 = jup I1 m 13 1 → q (m + 6) M2))))) : jOA E jB kX9_way 0 [VR m] G I q := by
  intro I0 hF
  refine jOk_mem (fun hI => ?_)
  replace hT := hT hI 
  refine r_aload_n dX9_way_0 rfl (i := 0) rfl ?_
  refine rr_getI (v := I m 13) dX9_way_1 fg_X9_380 rfl (wX9_l hm) (wX9_s hm) rfl ?_
  refine r_if_ne (tgt := 34) dX9_way_4 rfl (hI _ _).inR (fun hcc => ?_) (fun hcc => ?_)
  · replace hT := hT.1 hcc
    refine r_aload_n dX9_way_34 rfl (i := 0) rfl ?_
    refine rr_getR (b := (m + 6)) dX9_way_35 fg_X9_19 rfl rfl (wX9_l hm) (wX9_s hm) (wX9_r12 hm) ?_
    exact r_aret dX9_way_38 rfl ⟨Nat.zero_le _, Nat.zero_le _⟩ ⟨_, rfl, rfl, hF, hT⟩
  · replace hT := hT.2 hcc
    refine r_aload_n dX9_way_7 rfl (i := 0) rfl ?_
    refine rr_getR (b := (m + 6)) dX9_way_8 fg_X9_19 rfl rfl (wX9_l hm) (wX9_s hm) (wX9_r12 hm) ?_
    refine r_aload_n dX9_way_11 rfl (i := 0) rfl ?_
    refine rr_getR (b := (m + 195)) dX9_way_12 fg_X9_59 rfl rfl (wX9_l hm) (wX9_s hm) (wX9_r4 hm) ?_
    refine r_aload_n dX9_way_15 rfl (i := 0) rfl ?_
    refine rr_getR (b := (m + 195)) dX9_way_16 fg_X9_59 rfl rfl (wX9_l hm) (wX9_s hm) (wX9_r4 hm) ?_
    refine rr_getI (v := I (m + 195) 2) dX9_way_19 fg_X9_135 rfl (wX7_l (wX9_o4 hm)) (wX7_s (wX9_o4 hm)) rfl ?_
    refine r_aload_n dX9_way_22 rfl (i := 0) rfl ?_
    refine rr_getR (b := (m + 592)) dX9_way_23 fg_X9_85 rfl rfl (wX9_l hm) (wX9_s hm) (wX9_r11 hm) ?_
    refine rr_cVV (a := (m + 6)) (as := [VR (m + 195), VI (I (m + 195) 2), VR (m + 592)]) (st := []) dX9_way_26 mt_X3_travel ml_X9_388 mi_X3_travel rm_X9_way_X3_travel jz_X3_travel ⟨Nat.zero_le _, Nat.zero_le _⟩ (Nat.le_of_ble_eq_true rfl) (wX3_l (wX9_o12 hm)) (wX3_c (wX9_o12 hm)) (jasR (jasI (hI _ _).inR (jasR jas0))) hT (fun I1 hFI1 hT => ?_)
    replace hFI1 := jFr_tr hF hFI1
    refine jOk_mem (fun hI1 => ?_)
    refine r_aload_n dX9_way_29 rfl (i := 0) rfl ?_
    refine r_iconst (n := 1) dX9_way_30 ?_
    refine rr_putZ (jj := 13) dX9_way_31 fp_X9_380 rfl rfl (wX9_l hm) (wX9_s hm) ⟨by decide, by decide⟩ (fun M2 eM2 => ?_)
    have hFM2 := jFr_up hFI1 eM2 (wX9_f hm 0 (by decide))
    replace hT := hT M2 eM2
    refine jOk_mem (fun hIM2 => ?_)
    refine r_aload_n dX9_way_34 rfl (i := 0) rfl ?_
    refine rr_getR (b := (m + 6)) dX9_way_35 fg_X9_19 rfl rfl (wX9_l hm) (wX9_s hm) (wX9_r12 hm) ?_
    exact r_aret dX9_way_38 rfl ⟨Nat.zero_le _, Nat.zero_le _⟩ ⟨_, rfl, rfl, hFM2, hT⟩
theorem en_X9_way {E : jE} {G : jG} {I : jM} {q : Nat → jM → Prop} {m : Nat} (hm : WX9 G m) (hT : (∀ a j, jRg (G.2.1 a).1 (I a j)) → ((¬ (I m 13) = 0 → q (m + 6) I) ∧ ((I m 13) = 0 → jRV E jB kX3_travel [VR (m + 6), VR (m + 195), VI (I (m + 195) 2), VR (m + 592)] G I (fun I1 => (∀ M2, M2 = jup I1 m 13 1 → q (m + 6) M2))))) : jRA E jB kX9_way [VR m] G I q := jRun.of mt_X9_way.2.2.2 0 rfl (fun _ => st_X9_way_0 hm hT I (fun _ _ => rfl))
theorem cl_forget (hm : WX9 G m) : jRV E jB kX9_forget [VR m] G I (fun I' => fl0 m I' ∧ ∀ a j, (a ≠ m ∨ (j ≠ 10 ∧ j ≠ 13 ∧ j ≠ 15)) → I' a j = I a j) := by
  refine en_X9_forget hm (fun _ M1 e1 M2 e2 M3 e3 => ⟨⟨?_, ?_, ?_⟩, fun a j ha => ?_⟩)
  · rw [jr_nj e3 (by decide), jr_nj e2 (by decide), jr_eq e1]
  · rw [jr_nj e3 (by decide), jr_eq e2]
  · rw [jr_eq e3]
  · rcases ha with ha | ha
    · rw [jr_na e3 ha, jr_na e2 ha, jr_na e1 ha]
    · rw [jr_nj e3 ha.2.2, jr_nj e2 ha.2.1, jr_nj e1 ha.1]
theorem cl_keepStep (h : CS G m δ I B H B' H' T fk fp) : jRV E jB kX9_keepStep [VR m] G I (fun I' => CS G m δ I' B (pushH H B) B' H' T fk fp ∧ fl0 m I' ∧ ∀ a j, (a ≠ m ∨ (j ≠ 10 ∧ j ≠ 13 ∧ j ≠ 15)) → (a < m + 205 ∨ m + 387 ≤ a) → I' a j = I a j) := by
  obtain ⟨⟨h0, h1, h2, h3, h4⟩, h5, h6, h7, h8, h9, h10, h11⟩ := h
  refine en_X9_keepStep h1 (fun _ => (cl_keep (wX9_o5 h1) (wX9_o4 h1) (by omega) (by omega) h6 h5).mono (fun I1 _ g => ?_))
  refine (cl_forget h1).mono (fun I2 _ g2 => ?_)
  have k : ∀ a j, (a ≠ m ∨ (j ≠ 10 ∧ j ≠ 13 ∧ j ≠ 15)) → (a < m + 205 ∨ m + 387 ≤ a) → I2 a j = I a j := fun a j ha hb => by rw [g2.2 a j ha]; exact g.2 a j (by omega)
  refine ⟨⟨⟨h0, h1, h2, (k _ _ (by omega) (by omega)).trans h3, h4⟩, h5.keep (fun b j q => k b j (by omega) (by omega)), g.1.keep (fun b j q => g2.2 b j (by omega)), h7.keep (fun b j q => k b j (by omega) (by omega)), h8.keep (fun b j q => k b j (by omega) (by omega)), h9.fr (fun b j q => k b j (by omega) (by omega)), (k _ _ (by omega) (by omega)).trans h10, (k _ _ (by omega) (by omega)).trans h11⟩, g2.1, k⟩
theorem cl_isRule (h : CS G m δ I B H B' H' T fk fp) {r : Int} : jRI E jB kX9_isRule [VR m, VI r] G I (fun x I' => x = jI (0 ≤ r ∧ r < B 4) ∧ I' = I) := by
  obtain ⟨ρ, r1, r2, r3, r4, r5⟩ := h.2.1.2.1
  have e := r5.1
  refine en_X9_isRule h.1.2.1 (fun _ _ => ⟨fun q => ⟨(jI_neg (by omega)).symm, rfl⟩, fun q => ⟨ρ, r1, r2, fun q2 => ⟨(jI_neg (by omega)).symm, rfl⟩, fun q2 => ⟨(jI_pos (by omega)).symm, rfl⟩⟩⟩)
theorem cl_isByte (h : CS G m δ I B H B' H' T fk fp) {i : Int} : jRI E jB kX9_isByte [VR m, VI i] G I (fun x I' => x = jI (0 ≤ i ∧ i < B 2) ∧ I' = I) := by
  have e : I (m + 196) 2 = B 2 := h.2.1.1.1.1.1
  refine en_X9_isByte h.1.2.1 (fun _ _ => ?_)
  rw [e]
  exact ⟨fun q => ⟨(jI_neg (by omega)).symm, rfl⟩, fun q => ⟨fun q2 => ⟨(jI_neg (by omega)).symm, rfl⟩, fun q2 => ⟨(jI_pos (by omega)).symm, rfl⟩⟩⟩
theorem sp_X9_may {A : Nat → Prop} {b : Int} : jRI E A kX9_mayStandInText [VI b] G I (fun x I' => x = jI (okB b) ∧ I' = I) := by
  unfold okB
  refine en_X9_mayStandInText (fun _ _ => ?_)
  repeat' (first | exact ⟨(jI_pos (by omega)).symm, rfl⟩ | exact ⟨(jI_neg (by omega)).symm, rfl⟩ | refine ⟨fun _ => ?_, fun _ => ?_⟩)
theorem on_iff {X : Int → Int} (hQ : QW X) {v r : Int} (e : v = onB X (X 4).toNat) (hr : 0 ≤ r ∧ r < X 4) : jand (jshr v r) 1 = 1 ↔ X (515 + 40 * r) = 1 := by
  rw [e, onb_bit hQ hr]
theorem cl_found (h : CC G m δ I B H B' H' T fk fp) (hW : BW c B) : jRA E jB kX9_found [VR m] G I (fun a I' => a = m + 578 ∧ WX1 G a ∧ CC G m δ I' B H B' H' T fk fp ∧ (∃ ρ : Nat, LK G (m + 578) (m + 196) ρ B I' ∧ (ρ = 169 ∨ ρ = 182 ∨ 635 ≤ ρ) ∧ (ρ + 13 ≤ δ ∨ δ + 13 ≤ ρ)) ∧ ∀ a j, (a < m + 578 ∨ m + 592 ≤ a) → (a ≠ m ∨ j ≠ 10) → I' a j = I a j) := by
  have h' := h
  obtain ⟨⟨⟨h0, h1, h2, h3, h4⟩, h5, h6, h7, h8, h9, h10, h11⟩, hk⟩ := h
  have hφ := wX9_o9 h1
  refine en_X9_found h1 (fun _ => ⟨fun q => ⟨rfl, hφ, h', hk.1 q, fun _ _ _ _ => rfl⟩, fun q => ?_⟩)
  obtain ⟨ρ, r1, r2, r3, r4, r5⟩ := h5.2.1
  refine (cl_look hφ (wX7_o0 (wX9_o4 h1)) (wX9_o4 h1) r2 (by omega) (by omega) (by omega) (by omega) h5.1 r5 r1 h5.2.2.2.1 hW.1 hW.yw (fun r x y => on_iff hW.1 h5.2.2.1 ⟨x, y⟩)).mono (fun I1 _ g M2 e2 => ?_)
  have k : ∀ a j, (a < m + 578 ∨ m + 592 ≤ a) → (a ≠ m ∨ j ≠ 10) → M2 a j = I a j := fun a j ha hb => by
    have : M2 a j = I1 a j := by
      rcases hb with hb | hb
      · exact jr_na e2 hb
      · exact jr_nj e2 hb
    rw [this]
    exact g.2 a j ha
  have hl : LK G (m + 578) (m + 196) ρ B M2 := g.1.fr (fun a j qa => jr_na e2 (by omega))
  refine ⟨rfl, hφ, ⟨h'.1.fr (fun a j qa => k a j (by omega) (by omega)), fun _ => ⟨ρ, hl, r3, r4⟩, fun qq => ?_, fun qq => ?_⟩, ⟨ρ, hl, r3, r4⟩, k⟩
  · rw [k _ _ (by omega) (by omega)] at qq
    exact (hk.2.1 qq).fr (fun a j a0 a1 => k a j (by omega) (by omega))
  · rw [k _ _ (by omega) (by omega)] at qq
    rw [k _ _ (by omega) (by omega)]
    exact hk.2.2 qq
theorem cl_way (h : CC G m δ I B H B' H' T fk fp) (hW : BW c B) (hc : c ≤ 900000) : jRA E jB kX9_way [VR m] G I (fun a I' => a = m + 6 ∧ WX3 G a ∧ CC G m δ I' B H B' H' T fk fp ∧ JO (m + 6) B I') := by
  have h' := h
  obtain ⟨⟨⟨h0, h1, h2, h3, h4⟩, h5, h6, h7, h8, h9, h10, h11⟩, hk⟩ := h
  have hι := wX9_o12 h1
  refine en_X9_way h1 (fun _ => ⟨fun q => ⟨rfl, hι, h', hk.2.1 q⟩, fun q => ?_⟩)
  obtain ⟨ρ, r1, r2, r3, r4, r5⟩ := h5.2.1
  refine (cl_travel hι (wX9_o11 h1) (wX9_o4 h1) r2 (by omega) (by omega) (by omega) (by omega) (by omega) (by omega) h5.1 r5 r1 h5.2.2.2.1 hW hc (fun r x y => on_iff hW.1 h5.2.2.1 ⟨x, y⟩)).mono (fun I1 _ g M2 e2 => ?_)
  have k : ∀ a j, (a < m + 6 ∨ m + 164 ≤ a) → (a < m + 592 ∨ m + 606 ≤ a) → (a ≠ m ∨ j ≠ 13) → M2 a j = I a j := fun a j ha hb hc => by
    have : M2 a j = I1 a j := by
      rcases hc with hc | hc
      · exact jr_na e2 hc
      · exact jr_nj e2 hc
    rw [this]
    exact g.2 a j (by omega) (by omega)
  have hj : JO (m + 6) B M2 := g.1.fr (fun a j a0 a1 => jr_na e2 (by omega))
  refine ⟨rfl, hι, ⟨h'.1.fr (fun a j qa => k a j (by omega) (by omega) (by omega)), fun qq => ?_, fun _ => hj, fun qq => ?_⟩, hj⟩
  · rw [k _ _ (by omega) (by omega) (by omega)] at qq
    obtain ⟨ρ', l1, l2, l3⟩ := hk.1 qq
    exact ⟨ρ', l1.fr (fun a j qa => k a j (by omega) (by omega) (by omega)), l2, l3⟩
  · rw [k _ _ (by omega) (by omega) (by omega)] at qq
    rw [k _ _ (by omega) (by omega) (by omega)]
    exact hk.2.2 qq
end CT
