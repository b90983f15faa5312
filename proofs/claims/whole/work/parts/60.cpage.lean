/-! ===== the class: frames, pages ===== -/
/-- only the cells from lo to ahead of hi may differ -/
def Fr (lo hi : Nat) (I I' : jM) : Prop := ∀ a j, (a < lo ∨ hi ≤ a) → I' a j = I a j
theorem Fr.rfl {lo hi : Nat} {I : jM} : Fr lo hi I I := fun _ _ _ => Eq.refl _
theorem Fr.trans {lo hi : Nat} {I I' I'' : jM} (h : Fr lo hi I I') (h' : Fr lo hi I' I'') : Fr lo hi I I'' := fun a j ha => (h' a j ha).trans (h a j ha)
theorem Fr.mono {lo hi lo' hi' : Nat} {I I' : jM} (h : Fr lo hi I I') (h1 : lo' ≤ lo) (h2 : hi ≤ hi') : Fr lo' hi' I I' := fun a j ha => h a j (by omega)
theorem Fr.up {lo hi a : Nat} {I M : jM} {j x : Int} (e : M = jup I a j x) (h : lo ≤ a ∧ a < hi) : Fr lo hi I M := fun b k hb => jr_na e (by omega)
theorem Fr.cp {lo hi a c : Nat} {I M : jM} {sp dp n : Int} (e : M = jcp I c a sp dp n) (h : lo ≤ a ∧ a < hi) : Fr lo hi I M := fun b k hb => jc_na e (by omega)
theorem jc_in {M I : jM} {a b : Nat} {sp dp n k : Int} (e : M = jcp I a b sp dp n) (h : dp ≤ k ∧ k < dp + n) : M b k = I a (sp + (k - dp)) := by
  rw [e]; unfold jcp; rw [if_pos ⟨rfl, h.1, h.2⟩]
theorem jc_out {M I : jM} {a b c : Nat} {sp dp n k : Int} (e : M = jcp I a b sp dp n) (h : ¬ (dp ≤ k ∧ k < dp + n)) : M c k = I c k := by
  rw [e]; unfold jcp; rw [if_neg (fun q => h q.2)]
theorem jb8_id {x : Int} (h : -128 ≤ x ∧ x ≤ 127) : jb8 x = x := by
  unfold jb8
  have e0 : (Int32.ofInt x).toInt = x := Int32.toInt_ofInt_of_le (by omega) (by omega)
  rw [Int32.toInt_toInt8, e0]
  rw [Int.bmod_def]
  omega
/-- a page's bytes and paints -/
def PT (p : Nat) (I : jM) (P : List (Int × Int)) : Prop := I p 2 = P.length ∧ ∀ i : Nat, i < P.length → I (p + 1) i = (P.getD i (0, 0)).1 ∧ I (p + 2) i = (P.getD i (0, 0)).2 - 1
/-- a page's spans -/
def PS (p : Nat) (X : Int → Int) (I : jM) : Prop := (I p 5 = X 3 ∧ 0 ≤ X 3 ∧ X 3 ≤ 8) ∧ ∀ k, 0 ≤ k → k < X 3 → I (p + 3) k = X (410 + 2 * k) ∧ I (p + 4) k = X (410 + 2 * k + 1)
/-- a page that holds the text of X -/
def PB (p : Nat) (X : Int → Int) (I : jM) : Prop := (I p 2 = X 2 ∧ 0 ≤ X 2 ∧ X 2 ≤ 200) ∧ ∀ i, 0 ≤ i → i < X 2 → I (p + 1) i = X (10 + i) ∧ I (p + 2) i = X (210 + i) - 1
def PG (p : Nat) (X : Int → Int) (I : jM) : Prop := PB p X I ∧ PS p X I
theorem PB.fr {p : Nat} {X : Int → Int} {I I' : jM} (h : PB p X I) (e : ∀ a j, (a = p + 1 ∨ a = p + 2 ∨ (a = p ∧ j = 2)) → I' a j = I a j) : PB p X I' := by
  refine ⟨⟨(e _ _ (by omega)).trans h.1.1, h.1.2⟩, fun i i0 i1 => ?_⟩
  rw [e _ _ (by omega), e _ _ (by omega)]
  exact h.2 i i0 i1
theorem PS.fr {p : Nat} {X : Int → Int} {I I' : jM} (h : PS p X I) (e : ∀ a j, (a = p + 3 ∨ a = p + 4 ∨ (a = p ∧ j = 5)) → I' a j = I a j) : PS p X I' := by
  refine ⟨⟨(e _ _ (by omega)).trans h.1.1, h.1.2⟩, fun i i0 i1 => ?_⟩
  rw [e _ _ (by omega), e _ _ (by omega)]
  exact h.2 i i0 i1
theorem PG.fr {p : Nat} {X : Int → Int} {I I' : jM} (h : PG p X I) (e : ∀ a j, p ≤ a → a < p + 5 → I' a j = I a j) : PG p X I' := ⟨h.1.fr (fun a j q => e a j (by omega) (by omega)), h.2.fr (fun a j q => e a j (by omega) (by omega))⟩
theorem PG.of {p lo hi : Nat} {X : Int → Int} {I I' : jM} (h : PG p X I) (e : Fr lo hi I I') (hd : p + 5 ≤ lo ∨ hi ≤ p) : PG p X I' := h.fr (fun a j a0 a1 => e a j (by omega))
theorem PT.fr {p : Nat} {P : List (Int × Int)} {I I' : jM} (h : PT p I P) (e : ∀ a j, (a = p + 1 ∨ a = p + 2 ∨ (a = p ∧ j = 2)) → I' a j = I a j) : PT p I' P := by
  refine ⟨(e _ _ (by omega)).trans h.1, fun i i1 => ?_⟩
  rw [e _ _ (by omega), e _ _ (by omega)]
  exact h.2 i i1
theorem PB.congr {p : Nat} {X Y : Int → Int} {I : jM} (h : PB p X I) (e : ∀ j, (j = 2 ∨ (10 ≤ j ∧ j < 410)) → Y j = X j) : PB p Y I := by
  have e2 := e 2 (by omega)
  have hb := h.1.2
  refine ⟨by rw [e2]; exact h.1, fun i i0 i1 => ?_⟩
  rw [e _ (by omega), e _ (by omega)]
  exact h.2 i i0 (by omega)
theorem PS.congr {p : Nat} {X Y : Int → Int} {I : jM} (h : PS p X I) (e : ∀ j, (j = 3 ∨ (410 ≤ j ∧ j < 426)) → Y j = X j) : PS p Y I := by
  have e2 := e 3 (by omega)
  have hb := h.1.2
  refine ⟨by rw [e2]; exact h.1, fun i i0 i1 => ?_⟩
  rw [e _ (by omega), e _ (by omega)]
  exact h.2 i i0 (by omega)
theorem gd_right {α : Type} {P Q : List α} {i : Nat} {d : α} (h : P.length ≤ i) : (P ++ Q).getD i d = Q.getD (i - P.length) d := by
  rw [List.getD_eq_getElem?_getD, List.getElem?_append_right h, ← List.getD_eq_getElem?_getD]
theorem gd_range {α : Type} {f : Nat → α} {n i : Nat} {d : α} (h : i < n) : ((List.range n).map f).getD i d = f i := by
  rw [List.getD_eq_getElem?_getD, List.getElem?_map, List.getElem?_range h]
  rfl
theorem cells_gd {S : Int → Int} {i j : Int} {k : Nat} (h : (k : Int) < j - i) : (cells S i j).getD k (0, 0) = (S (10 + (i + k)), S (210 + (i + k))) := by
  unfold cells
  exact gd_range (by omega)
theorem PT.pb {p : Nat} {X : Int → Int} {I : jM} (h : PT p I (cells X 0 (X 2))) (h2 : 0 ≤ X 2 ∧ X 2 ≤ 200) : PB p X I := by
  have e := h.1
  rw [cells_len] at e
  refine ⟨⟨by omega, h2⟩, fun i i0 i1 => ?_⟩
  have g := h.2 i.toNat (by rw [cells_len]; omega)
  rw [cells_gd (by omega)] at g
  rw [show ((i.toNat : Nat) : Int) = i by omega, show (0 : Int) + i = i by omega] at g
  exact g
set_option maxRecDepth 20000 in
theorem st_X4_copySpans_0 {E : jE} {G : jG} {I : jM} {q : jM → Prop} {m : Nat} {p1 : Nat} (hm : WX4 G m) (hp1 : WX4 G p1) (hT : (∀ a j, jRg (G.2.1 a).1 (I a j)) → (∀ M1, M1 = jup I m 5 (I p1 5) → ((0 : Int) ≤ 0 ∧ (0 : Int) ≤ 0 ∧ (0 : Int) ≤ (I p1 5) ∧ (0 : Int) + (I p1 5) ≤ 8 ∧ (0 : Int) + (I p1 5) ≤ 8) ∧ (∀ M3, M3 = jcp M1 (p1 + 3) (m + 3) 0 0 (I p1 5) → ((0 : Int) ≤ 0 ∧ (0 : Int) ≤ 0 ∧ (0 : Int) ≤ (I p1 5) ∧ (0 : Int) + (I p1 5) ≤ 8 ∧ (0 : Int) + (I p1 5) ≤ 8) ∧ (∀ M5, M5 = jcp M3 (p1 + 4) (m + 4) 0 0 (I p1 5) → q M5)))) : jOV E jB kX4_copySpans 0 [VR m, VR p1] G I q := by
  intro I0 hF
  refine jOk_mem (fun hI => ?_)
  replace hT := hT hI 
  refine r_aload_n dX4_copySpans_0 rfl (i := 0) rfl ?_
  refine r_aload_n dX4_copySpans_1 rfl (i := 1) rfl ?_
  refine rr_getI (v := I p1 5) dX4_copySpans_2 fg_X4_37 rfl (wX4_l hp1) (wX4_s hp1) rfl ?_
  refine rr_putI (jj := 5) dX4_copySpans_5 fp_X4_37 rfl rfl (wX4_l hm) (wX4_s hm) (hI _ _).inR (fun M1 eM1 => ?_)
  have hFM1 := jFr_up hF eM1 (wX4_f hm 0 (by decide))
  replace hT := hT M1 eM1
  refine jOk_mem (fun hIM1 => ?_)
  refine r_aload_n dX4_copySpans_8 rfl (i := 1) rfl ?_
  refine rr_getR (b := (p1 + 3)) dX4_copySpans_9 fg_X4_18 rfl rfl (wX4_l hp1) (wX4_s hp1) (wX4_r3 hp1) ?_
  refine r_iconst (n := 0) dX4_copySpans_12 ?_
  refine r_aload_n dX4_copySpans_13 rfl (i := 0) rfl ?_
  refine rr_getR (b := (m + 3)) dX4_copySpans_14 fg_X4_18 rfl rfl (wX4_l hm) (wX4_s hm) (wX4_r3 hm) ?_
  refine r_iconst (n := 0) dX4_copySpans_17 ?_
  refine r_aload_n dX4_copySpans_18 rfl (i := 0) rfl ?_
  refine rr_getI (v := I p1 5) dX4_copySpans_19 fg_X4_37 rfl (wX4_l hm) (wX4_s hm) (jr_eq eM1) ?_
  obtain ⟨hc2, hT⟩ := hT
  refine rr_copy (st := []) dX4_copySpans_22 ml_X4_40 ⟨Nat.le_of_ble_eq_true rfl, Nat.le_of_ble_eq_true rfl⟩ rfl (wX4_l3 hp1) (wX4_l3 hm) (wX4_a3 hp1) (wX4_a3 hm) (Or.inl rfl) (by decide) (by decide) hc2 (fun M3 eM3 => ?_)
  have hFM3 := jFr_cp hFM1 eM3 (wX4_f hm 3 (by decide))
  replace hT := hT M3 eM3
  refine jOk_mem (fun hIM3 => ?_)
  refine r_aload_n dX4_copySpans_25 rfl (i := 1) rfl ?_
  refine rr_getR (b := (p1 + 4)) dX4_copySpans_26 fg_X4_22 rfl rfl (wX4_l hp1) (wX4_s hp1) (wX4_r4 hp1) ?_
  refine r_iconst (n := 0) dX4_copySpans_29 ?_
  refine r_aload_n dX4_copySpans_30 rfl (i := 0) rfl ?_
  refine rr_getR (b := (m + 4)) dX4_copySpans_31 fg_X4_22 rfl rfl (wX4_l hm) (wX4_s hm) (wX4_r4 hm) ?_
  refine r_iconst (n := 0) dX4_copySpans_34 ?_
  refine r_aload_n dX4_copySpans_35 rfl (i := 0) rfl ?_
  refine rr_getI (v := I p1 5) dX4_copySpans_36 fg_X4_37 rfl (wX4_l hm) (wX4_s hm) ((jc_na eM3 (by omega)).trans (jr_eq eM1)) ?_
  obtain ⟨hc4, hT⟩ := hT
  refine rr_copy (st := []) dX4_copySpans_39 ml_X4_40 ⟨Nat.le_of_ble_eq_true rfl, Nat.le_of_ble_eq_true rfl⟩ rfl (wX4_l4 hp1) (wX4_l4 hm) (wX4_a4 hp1) (wX4_a4 hm) (Or.inl rfl) (by decide) (by decide) hc4 (fun M5 eM5 => ?_)
  have hFM5 := jFr_cp hFM3 eM5 (wX4_f hm 4 (by decide))
  replace hT := hT M5 eM5
  refine jOk_mem (fun hIM5 => ?_)
  exact r_vret dX4_copySpans_42 rfl ⟨Nat.zero_le _, Nat.zero_le _⟩ ⟨rfl, rfl, hFM5, hT⟩
theorem en_X4_copySpans {E : jE} {G : jG} {I : jM} {q : jM → Prop} {m : Nat} {p1 : Nat} (hm : WX4 G m) (hp1 : WX4 G p1) (hT : (∀ a j, jRg (G.2.1 a).1 (I a j)) → (∀ M1, M1 = jup I m 5 (I p1 5) → ((0 : Int) ≤ 0 ∧ (0 : Int) ≤ 0 ∧ (0 : Int) ≤ (I p1 5) ∧ (0 : Int) + (I p1 5) ≤ 8 ∧ (0 : Int) + (I p1 5) ≤ 8) ∧ (∀ M3, M3 = jcp M1 (p1 + 3) (m + 3) 0 0 (I p1 5) → ((0 : Int) ≤ 0 ∧ (0 : Int) ≤ 0 ∧ (0 : Int) ≤ (I p1 5) ∧ (0 : Int) + (I p1 5) ≤ 8 ∧ (0 : Int) + (I p1 5) ≤ 8) ∧ (∀ M5, M5 = jcp M3 (p1 + 4) (m + 4) 0 0 (I p1 5) → q M5)))) : jRV E jB kX4_copySpans [VR m, VR p1] G I q := jRun.of mt_X4_copySpans.2.2.2 0 rfl (fun _ => st_X4_copySpans_0 hm hp1 hT I (fun _ _ => rfl))
set_option maxRecDepth 20000 in
theorem st_X4_carry_0 {E : jE} {G : jG} {I : jM} {q : jM → Prop} {m : Nat} {p1 : Nat} {x2 : Int} {x3 : Int} (hm : WX4 G m) (hp1 : WX4 G p1) (hT : (∀ a j, jRg (G.2.1 a).1 (I a j)) → jIn x2 → jIn x3 → ((x2 < 0 → q I) ∧ (¬ x2 < 0 → ((x3 < x2 → q I) ∧ (¬ x3 < x2 → (((I p1 2) < x3 → q I) ∧ (¬ (I p1 2) < x3 → jIn (((I m 2) + x3) - x2) ∧ (((((I m 2) + x3) - x2) ≤ 200 → ((0 : Int) ≤ x2 ∧ (0 : Int) ≤ (I m 2) ∧ (0 : Int) ≤ (x3 - x2) ∧ (x2 : Int) + (x3 - x2) ≤ 200 ∧ ((I m 2) : Int) + (x3 - x2) ≤ 200) ∧ (∀ M3, M3 = jcp I (p1 + 1) (m + 1) x2 (I m 2) (x3 - x2) → ((0 : Int) ≤ x2 ∧ (0 : Int) ≤ (I m 2) ∧ (0 : Int) ≤ (x3 - x2) ∧ (x2 : Int) + (x3 - x2) ≤ 200 ∧ ((I m 2) : Int) + (x3 - x2) ≤ 200) ∧ (∀ M5, M5 = jcp M3 (p1 + 2) (m + 2) x2 (I m 2) (x3 - x2) → jIn ((I m 2) + (x3 - x2)) ∧ (∀ M6, M6 = jup M5 m 2 ((I m 2) + (x3 - x2)) → q M6)))) ∧ (¬ (((I m 2) + x3) - x2) ≤ 200 → q I))))))))) : jOV E jB kX4_carry 0 [VR m, VR p1, VI x2, VI x3] G I q := by
  intro I0 hF
  refine jOk_mem (fun hI => ?_)
  refine jOk_in (i := 2) rfl (fun hx2 => ?_)
  refine jOk_in (i := 3) rfl (fun hx3 => ?_)
  replace hT := hT hI hx2 hx3
  refine r_iload_n dX4_carry_0 rfl (i := 2) rfl ?_
  refine r_if_lt (tgt := 31) dX4_carry_1 rfl hx2 (fun hcc => ?_) (fun hcc => ?_)
  · replace hT := hT.1 hcc
    exact r_vret dX4_carry_31 rfl ⟨Nat.zero_le _, Nat.zero_le _⟩ ⟨rfl, rfl, hF, hT⟩
  · replace hT := hT.2 hcc
    refine r_iload_n dX4_carry_4 rfl (i := 2) rfl ?_
    refine r_iload_n dX4_carry_5 rfl (i := 3) rfl ?_
    refine r_icmp_gt (tgt := 31) dX4_carry_6 rfl hx2 hx3 (fun hcc => ?_) (fun hcc => ?_)
    · replace hT := hT.1 hcc
      exact r_vret dX4_carry_31 rfl ⟨Nat.zero_le _, Nat.zero_le _⟩ ⟨rfl, rfl, hF, hT⟩
    · replace hT := hT.2 hcc
      refine r_iload_n dX4_carry_9 rfl (i := 3) rfl ?_
      refine r_aload_n dX4_carry_10 rfl (i := 1) rfl ?_
      refine rr_getI (v := I p1 2) dX4_carry_11 fg_X4_25 rfl (wX4_l hp1) (wX4_s hp1) rfl ?_
      refine r_icmp_gt (tgt := 31) dX4_carry_14 rfl hx3 (hI _ _).inR (fun hcc => ?_) (fun hcc => ?_)
      · replace hT := hT.1 hcc
        exact r_vret dX4_carry_31 rfl ⟨Nat.zero_le _, Nat.zero_le _⟩ ⟨rfl, rfl, hF, hT⟩
      · replace hT := hT.2 hcc
        refine r_aload_n dX4_carry_17 rfl (i := 0) rfl ?_
        refine rr_getI (v := I m 2) dX4_carry_18 fg_X4_25 rfl (wX4_l hm) (wX4_s hm) rfl ?_
        refine r_iload_n dX4_carry_21 rfl (i := 3) rfl ?_
        refine r_iadd dX4_carry_22 ?_
        refine r_iload_n dX4_carry_23 rfl (i := 2) rfl ?_
        refine r_isub dX4_carry_24 ?_
        refine r_sipush (n := 200) dX4_carry_25 (by decide +kernel) ?_
        obtain ⟨hc1, hT⟩ := hT
        refine r_icmp_le (tgt := 32) dX4_carry_28 rfl hc1 ⟨by decide, by decide⟩ (fun hcc => ?_) (fun hcc => ?_)
        · replace hT := hT.1 hcc
          refine r_aload_n dX4_carry_32 rfl (i := 1) rfl ?_
          refine rr_getR (b := (p1 + 1)) dX4_carry_33 fg_X4_9 rfl rfl (wX4_l hp1) (wX4_s hp1) (wX4_r0 hp1) ?_
          refine r_iload_n dX4_carry_36 rfl (i := 2) rfl ?_
          refine r_aload_n dX4_carry_37 rfl (i := 0) rfl ?_
          refine rr_getR (b := (m + 1)) dX4_carry_38 fg_X4_9 rfl rfl (wX4_l hm) (wX4_s hm) (wX4_r0 hm) ?_
          refine r_aload_n dX4_carry_41 rfl (i := 0) rfl ?_
          refine rr_getI (v := I m 2) dX4_carry_42 fg_X4_25 rfl (wX4_l hm) (wX4_s hm) rfl ?_
          refine r_iload_n dX4_carry_45 rfl (i := 3) rfl ?_
          refine r_iload_n dX4_carry_46 rfl (i := 2) rfl ?_
          refine r_isub dX4_carry_47 ?_
          obtain ⟨hc2, hT⟩ := hT
          refine rr_copy (st := []) dX4_carry_48 ml_X4_40 ⟨Nat.le_of_ble_eq_true rfl, Nat.le_of_ble_eq_true rfl⟩ rfl (wX4_l0 hp1) (wX4_l0 hm) (wX4_a0 hp1) (wX4_a0 hm) (Or.inr rfl) (by decide) (by decide) hc2 (fun M3 eM3 => ?_)
          have hFM3 := jFr_cp hF eM3 (wX4_f hm 1 (by decide))
          replace hT := hT M3 eM3
          refine jOk_mem (fun hIM3 => ?_)
          refine r_aload_n dX4_carry_51 rfl (i := 1) rfl ?_
          refine rr_getR (b := (p1 + 2)) dX4_carry_52 fg_X4_15 rfl rfl (wX4_l hp1) (wX4_s hp1) (wX4_r1 hp1) ?_
          refine r_iload_n dX4_carry_55 rfl (i := 2) rfl ?_
          refine r_aload_n dX4_carry_56 rfl (i := 0) rfl ?_
          refine rr_getR (b := (m + 2)) dX4_carry_57 fg_X4_15 rfl rfl (wX4_l hm) (wX4_s hm) (wX4_r1 hm) ?_
          refine r_aload_n dX4_carry_60 rfl (i := 0) rfl ?_
          refine rr_getI (v := I m 2) dX4_carry_61 fg_X4_25 rfl (wX4_l hm) (wX4_s hm) (jc_na eM3 (by omega)) ?_
          refine r_iload_n dX4_carry_64 rfl (i := 3) rfl ?_
          refine r_iload_n dX4_carry_65 rfl (i := 2) rfl ?_
          refine r_isub dX4_carry_66 ?_
          obtain ⟨hc4, hT⟩ := hT
          refine rr_copy (st := []) dX4_carry_67 ml_X4_40 ⟨Nat.le_of_ble_eq_true rfl, Nat.le_of_ble_eq_true rfl⟩ rfl (wX4_l1 hp1) (wX4_l1 hm) (wX4_a1 hp1) (wX4_a1 hm) (Or.inr rfl) (by decide) (by decide) hc4 (fun M5 eM5 => ?_)
          have hFM5 := jFr_cp hFM3 eM5 (wX4_f hm 2 (by decide))
          replace hT := hT M5 eM5
          refine jOk_mem (fun hIM5 => ?_)
          refine r_aload_n dX4_carry_70 rfl (i := 0) rfl ?_
          refine r_dup dX4_carry_71 rfl ?_
          refine rr_getI (v := I m 2) dX4_carry_72 fg_X4_25 rfl (wX4_l hm) (wX4_s hm) ((jc_na eM5 (by omega)).trans (jc_na eM3 (by omega))) ?_
          refine r_iload_n dX4_carry_75 rfl (i := 3) rfl ?_
          refine r_iload_n dX4_carry_76 rfl (i := 2) rfl ?_
          refine r_isub dX4_carry_77 ?_
          refine r_iadd dX4_carry_78 ?_
          obtain ⟨hc7, hT⟩ := hT
          refine rr_putI (jj := 2) dX4_carry_79 fp_X4_25 rfl rfl (wX4_l hm) (wX4_s hm) hc7 (fun M6 eM6 => ?_)
          have hFM6 := jFr_up hFM5 eM6 (wX4_f hm 0 (by decide))
          replace hT := hT M6 eM6
          refine jOk_mem (fun hIM6 => ?_)
          exact r_vret dX4_carry_82 rfl ⟨Nat.zero_le _, Nat.zero_le _⟩ ⟨rfl, rfl, hFM6, hT⟩
        · replace hT := hT.2 hcc
          exact r_vret dX4_carry_31 rfl ⟨Nat.zero_le _, Nat.zero_le _⟩ ⟨rfl, rfl, hF, hT⟩
theorem en_X4_carry {E : jE} {G : jG} {I : jM} {q : jM → Prop} {m : Nat} {p1 : Nat} {x2 : Int} {x3 : Int} (hm : WX4 G m) (hp1 : WX4 G p1) (hT : (∀ a j, jRg (G.2.1 a).1 (I a j)) → jIn x2 → jIn x3 → ((x2 < 0 → q I) ∧ (¬ x2 < 0 → ((x3 < x2 → q I) ∧ (¬ x3 < x2 → (((I p1 2) < x3 → q I) ∧ (¬ (I p1 2) < x3 → jIn (((I m 2) + x3) - x2) ∧ (((((I m 2) + x3) - x2) ≤ 200 → ((0 : Int) ≤ x2 ∧ (0 : Int) ≤ (I m 2) ∧ (0 : Int) ≤ (x3 - x2) ∧ (x2 : Int) + (x3 - x2) ≤ 200 ∧ ((I m 2) : Int) + (x3 - x2) ≤ 200) ∧ (∀ M3, M3 = jcp I (p1 + 1) (m + 1) x2 (I m 2) (x3 - x2) → ((0 : Int) ≤ x2 ∧ (0 : Int) ≤ (I m 2) ∧ (0 : Int) ≤ (x3 - x2) ∧ (x2 : Int) + (x3 - x2) ≤ 200 ∧ ((I m 2) : Int) + (x3 - x2) ≤ 200) ∧ (∀ M5, M5 = jcp M3 (p1 + 2) (m + 2) x2 (I m 2) (x3 - x2) → jIn ((I m 2) + (x3 - x2)) ∧ (∀ M6, M6 = jup M5 m 2 ((I m 2) + (x3 - x2)) → q M6)))) ∧ (¬ (((I m 2) + x3) - x2) ≤ 200 → q I))))))))) : jRV E jB kX4_carry [VR m, VR p1, VI x2, VI x3] G I q := jRun.of mt_X4_carry.2.2.2 0 rfl (fun _ => st_X4_carry_0 hm hp1 hT I (fun _ _ => rfl))
set_option maxRecDepth 20000 in
theorem st_X4_copyFrom_0 {E : jE} {G : jG} {I : jM} {q : jM → Prop} {m : Nat} {p1 : Nat} (hm : WX4 G m) (hp1 : WX4 G p1) (hT : (∀ a j, jRg (G.2.1 a).1 (I a j)) → (∀ M1, M1 = jup I m 2 0 → jRV E jB kX4_carry [VR m, VR p1, VI 0, VI (M1 p1 2)] G M1 (fun I2 => jRV E jB kX4_copySpans [VR m, VR p1] G I2 (fun I3 => q I3)))) : jOV E jB kX4_copyFrom 0 [VR m, VR p1] G I q := by
  intro I0 hF
  refine jOk_mem (fun hI => ?_)
  replace hT := hT hI 
  refine r_aload_n dX4_copyFrom_0 rfl (i := 0) rfl ?_
  refine r_iconst (n := 0) dX4_copyFrom_1 ?_
  refine rr_putI (jj := 2) dX4_copyFrom_2 fp_X4_25 rfl rfl (wX4_l hm) (wX4_s hm) ⟨by decide, by decide⟩ (fun M1 eM1 => ?_)
  have hFM1 := jFr_up hF eM1 (wX4_f hm 0 (by decide))
  replace hT := hT M1 eM1
  refine jOk_mem (fun hIM1 => ?_)
  refine r_aload_n dX4_copyFrom_5 rfl (i := 0) rfl ?_
  refine r_aload_n dX4_copyFrom_6 rfl (i := 1) rfl ?_
  refine r_iconst (n := 0) dX4_copyFrom_7 ?_
  refine r_aload_n dX4_copyFrom_8 rfl (i := 1) rfl ?_
  refine rr_getI (v := M1 p1 2) dX4_copyFrom_9 fg_X4_25 rfl (wX4_l hp1) (wX4_s hp1) rfl ?_
  refine rr_cVV (a := m) (as := [VR p1, VI 0, VI (M1 p1 2)]) (st := []) dX4_copyFrom_12 mt_X4_carry ml_X4_29 mi_X4_carry rm_X4_copyFrom_X4_carry jz_X4_carry ⟨Nat.zero_le _, Nat.zero_le _⟩ (Nat.le_of_ble_eq_true rfl) (wX4_l hm) (wX4_c hm) (jasR (jasI ⟨by decide, by decide⟩ (jasI (hIM1 _ _).inR jas0))) hT (fun I2 hFI2 hT => ?_)
  replace hFI2 := jFr_tr hFM1 hFI2
  refine jOk_mem (fun hI2 => ?_)
  refine r_aload_n dX4_copyFrom_15 rfl (i := 0) rfl ?_
  refine r_aload_n dX4_copyFrom_16 rfl (i := 1) rfl ?_
  refine rr_cVV (a := m) (as := [VR p1]) (st := []) dX4_copyFrom_17 mt_X4_copySpans ml_X4_33 mi_X4_copySpans rm_X4_copyFrom_X4_copySpans jz_X4_copySpans ⟨Nat.zero_le _, Nat.zero_le _⟩ (Nat.le_of_ble_eq_true rfl) (wX4_l hm) (wX4_c hm) (jasR jas0) hT (fun I3 hFI3 hT => ?_)
  replace hFI3 := jFr_tr hFI2 hFI3
  refine jOk_mem (fun hI3 => ?_)
  exact r_vret dX4_copyFrom_20 rfl ⟨Nat.zero_le _, Nat.zero_le _⟩ ⟨rfl, rfl, hFI3, hT⟩
theorem en_X4_copyFrom {E : jE} {G : jG} {I : jM} {q : jM → Prop} {m : Nat} {p1 : Nat} (hm : WX4 G m) (hp1 : WX4 G p1) (hT : (∀ a j, jRg (G.2.1 a).1 (I a j)) → (∀ M1, M1 = jup I m 2 0 → jRV E jB kX4_carry [VR m, VR p1, VI 0, VI (M1 p1 2)] G M1 (fun I2 => jRV E jB kX4_copySpans [VR m, VR p1] G I2 (fun I3 => q I3)))) : jRV E jB kX4_copyFrom [VR m, VR p1] G I q := jRun.of mt_X4_copyFrom.2.2.2 0 rfl (fun _ => st_X4_copyFrom_0 hm hp1 hT I (fun _ _ => rfl))
set_option maxRecDepth 20000 in
theorem st_X4_write_26 {E : jE} {G : jG} {I : jM} {q : jM → Prop} {m : Nat} {p1 np1 : Nat} {x2 : Int} {x3 : Int} {x4 : Int} (hm : WX4 G m) (lp1 : p1 < G.2.2) (sp1 : G.2.1 p1 = (101, np1)) (bp1 : (np1 : Int) ≤ 2147483647) (hT : (∀ a j, jRg (G.2.1 a).1 (I a j)) → jIn x2 → jIn x3 → jIn x4 → ((x2 ≤ x4 → jIn ((I m 2) + x2) ∧ (∀ M1, M1 = jup I m 2 ((I m 2) + x2) → q M1)) ∧ (¬ x2 ≤ x4 → ((0 : Int) ≤ x4 ∧ (x4 : Int) < np1) ∧ (((-128) ≤ (I p1 x4) ∧ (I p1 x4) ≤ 127) → ((0 : Int) ≤ ((I m 2) + x4) ∧ (((I m 2) + x4) : Int) < 200) ∧ (∀ M6, M6 = jup I (m + 1) ((I m 2) + x4) (I p1 x4) → ((0 : Int) ≤ ((I m 2) + x4) ∧ (((I m 2) + x4) : Int) < 200) ∧ (∀ M8, M8 = jup M6 (m + 2) ((I m 2) + x4) (jb8 x3) → jIn (x4 + 1) ∧ jOV E jB kX4_write 26 [VR m, VR p1, VI x2, VI x3, VI (x4 + 1)] G M8 q)))))) : jOV E jB kX4_write 26 [VR m, VR p1, VI x2, VI x3, VI x4] G I q := by
  intro I0 hF
  refine jOk_mem (fun hI => ?_)
  refine jOk_in (i := 2) rfl (fun hx2 => ?_)
  refine jOk_in (i := 3) rfl (fun hx3 => ?_)
  refine jOk_in (i := 4) rfl (fun hx4 => ?_)
  replace hT := hT hI hx2 hx3 hx4
  refine r_iload dX4_write_26 (i := 4) rfl ?_
  refine r_iload_n dX4_write_28 rfl (i := 2) rfl ?_
  refine r_icmp_ge (tgt := 68) dX4_write_29 rfl hx4 hx2 (fun hcc => ?_) (fun hcc => ?_)
  · replace hT := hT.1 hcc
    refine r_aload_n dX4_write_68 rfl (i := 0) rfl ?_
    refine r_dup dX4_write_69 rfl ?_
    refine rr_getI (v := I m 2) dX4_write_70 fg_X4_25 rfl (wX4_l hm) (wX4_s hm) rfl ?_
    refine r_iload_n dX4_write_73 rfl (i := 2) rfl ?_
    refine r_iadd dX4_write_74 ?_
    obtain ⟨hc2, hT⟩ := hT
    refine rr_putI (jj := 2) dX4_write_75 fp_X4_25 rfl rfl (wX4_l hm) (wX4_s hm) hc2 (fun M1 eM1 => ?_)
    have hFM1 := jFr_up hF eM1 (wX4_f hm 0 (by decide))
    replace hT := hT M1 eM1
    refine jOk_mem (fun hIM1 => ?_)
    exact r_vret dX4_write_78 rfl ⟨Nat.zero_le _, Nat.zero_le _⟩ ⟨rfl, rfl, hFM1, hT⟩
  · replace hT := hT.2 hcc
    refine r_aload_n dX4_write_32 rfl (i := 0) rfl ?_
    refine rr_getR (b := (m + 1)) dX4_write_33 fg_X4_9 rfl rfl (wX4_l hm) (wX4_s hm) (wX4_r0 hm) ?_
    refine r_aload_n dX4_write_36 rfl (i := 0) rfl ?_
    refine rr_getI (v := I m 2) dX4_write_37 fg_X4_25 rfl (wX4_l hm) (wX4_s hm) rfl ?_
    refine r_iload dX4_write_40 (i := 4) rfl ?_
    refine r_iadd dX4_write_42 ?_
    refine r_aload_n dX4_write_43 rfl (i := 1) rfl ?_
    refine r_iload dX4_write_44 (i := 4) rfl ?_
    obtain ⟨hc3, hT⟩ := hT
    refine rr_baload (v := I p1 x4) dX4_write_46 lp1 sp1 bp1 hc3 rfl (fun hr4 => ?_)
    replace hT := hT hr4
    obtain ⟨hc5, hT⟩ := hT
    refine rr_bastore dX4_write_47 (wX4_l0 hm) (wX4_a0 hm) (by decide) hc5 hr4 (fun M6 eM6 => ?_)
    have hFM6 := jFr_up hF eM6 (wX4_f hm 1 (by decide))
    replace hT := hT M6 eM6
    refine jOk_mem (fun hIM6 => ?_)
    refine r_aload_n dX4_write_48 rfl (i := 0) rfl ?_
    refine rr_getR (b := (m + 2)) dX4_write_49 fg_X4_15 rfl rfl (wX4_l hm) (wX4_s hm) (wX4_r1 hm) ?_
    refine r_aload_n dX4_write_52 rfl (i := 0) rfl ?_
    refine rr_getI (v := I m 2) dX4_write_53 fg_X4_25 rfl (wX4_l hm) (wX4_s hm) (jr_na eM6 (by omega)) ?_
    refine r_iload dX4_write_56 (i := 4) rfl ?_
    refine r_iadd dX4_write_58 ?_
    refine r_iload_n dX4_write_59 rfl (i := 3) rfl ?_
    refine r_i2b dX4_write_60 ?_
    obtain ⟨hc7, hT⟩ := hT
    refine rr_bastore dX4_write_61 (wX4_l1 hm) (wX4_a1 hm) (by decide) hc7 (j8_in _).2 (fun M8 eM8 => ?_)
    have hFM8 := jFr_up hFM6 eM8 (wX4_f hm 2 (by decide))
    replace hT := hT M8 eM8
    refine jOk_mem (fun hIM8 => ?_)
    obtain ⟨hc9, hT⟩ := hT
    refine rr_iinc (i := 4) (ls' := [VR m, VR p1, VI x2, VI x3, VI (x4 + 1)]) dX4_write_62 rfl (Nat.le_of_ble_eq_true rfl) rfl rfl hc9 ?_
    refine r_goto (tgt := 26) dX4_write_65 rfl ?_
    exact hT I0 hFM8
set_option maxRecDepth 20000 in
theorem st_X4_write_0 {E : jE} {G : jG} {I : jM} {q : jM → Prop} {m : Nat} {p1 np1 : Nat} {x2 : Int} {x3 : Int} (hm : WX4 G m) (lp1 : p1 < G.2.2) (sp1 : G.2.1 p1 = (101, np1)) (bp1 : (np1 : Int) ≤ 2147483647) (hT : (∀ a j, jRg (G.2.1 a).1 (I a j)) → jIn x2 → jIn x3 → ((x2 < 0 → q I) ∧ (¬ x2 < 0 → (((np1 : Int) < x2 → q I) ∧ (¬ (np1 : Int) < x2 → jIn ((I m 2) + x2) ∧ ((((I m 2) + x2) ≤ 200 → jOV E jB kX4_write 26 [VR m, VR p1, VI x2, VI x3, VI 0] G I q) ∧ (¬ ((I m 2) + x2) ≤ 200 → q I))))))) : jOV E jB kX4_write 0 [VR m, VR p1, VI x2, VI x3, VN] G I q := by
  intro I0 hF
  refine jOk_mem (fun hI => ?_)
  refine jOk_in (i := 2) rfl (fun hx2 => ?_)
  refine jOk_in (i := 3) rfl (fun hx3 => ?_)
  replace hT := hT hI hx2 hx3
  refine r_iload_n dX4_write_0 rfl (i := 2) rfl ?_
  refine r_if_lt (tgt := 22) dX4_write_1 rfl hx2 (fun hcc => ?_) (fun hcc => ?_)
  · replace hT := hT.1 hcc
    exact r_vret dX4_write_22 rfl ⟨Nat.zero_le _, Nat.zero_le _⟩ ⟨rfl, rfl, hF, hT⟩
  · replace hT := hT.2 hcc
    refine r_iload_n dX4_write_4 rfl (i := 2) rfl ?_
    refine r_aload_n dX4_write_5 rfl (i := 1) rfl ?_
    refine r_alen dX4_write_6 lp1 sp1 (Or.inr (Or.inl rfl)) ?_
    refine r_icmp_gt (tgt := 22) dX4_write_7 rfl hx2 ⟨by omega, by omega⟩ (fun hcc => ?_) (fun hcc => ?_)
    · replace hT := hT.1 hcc
      exact r_vret dX4_write_22 rfl ⟨Nat.zero_le _, Nat.zero_le _⟩ ⟨rfl, rfl, hF, hT⟩
    · replace hT := hT.2 hcc
      refine r_aload_n dX4_write_10 rfl (i := 0) rfl ?_
      refine rr_getI (v := I m 2) dX4_write_11 fg_X4_25 rfl (wX4_l hm) (wX4_s hm) rfl ?_
      refine r_iload_n dX4_write_14 rfl (i := 2) rfl ?_
      refine r_iadd dX4_write_15 ?_
      refine r_sipush (n := 200) dX4_write_16 (by decide +kernel) ?_
      obtain ⟨hc1, hT⟩ := hT
      refine r_icmp_le (tgt := 23) dX4_write_19 rfl hc1 ⟨by decide, by decide⟩ (fun hcc => ?_) (fun hcc => ?_)
      · replace hT := hT.1 hcc
        refine r_iconst (n := 0) dX4_write_23 ?_
        refine rr_istore (i := 4) (ls' := [VR m, VR p1, VI x2, VI x3, VI 0]) dX4_write_24 (Nat.le_of_ble_eq_true rfl) rfl rfl ⟨by decide, by decide⟩ ?_
        exact hT I0 hF
      · replace hT := hT.2 hcc
        exact r_vret dX4_write_22 rfl ⟨Nat.zero_le _, Nat.zero_le _⟩ ⟨rfl, rfl, hF, hT⟩
theorem en_X4_write {E : jE} {G : jG} {I : jM} {q : jM → Prop} {m : Nat} {p1 np1 : Nat} {x2 : Int} {x3 : Int} (hm : WX4 G m) (lp1 : p1 < G.2.2) (sp1 : G.2.1 p1 = (101, np1)) (bp1 : (np1 : Int) ≤ 2147483647) (hT : (∀ a j, jRg (G.2.1 a).1 (I a j)) → jIn x2 → jIn x3 → ((x2 < 0 → q I) ∧ (¬ x2 < 0 → (((np1 : Int) < x2 → q I) ∧ (¬ (np1 : Int) < x2 → jIn ((I m 2) + x2) ∧ ((((I m 2) + x2) ≤ 200 → jOV E jB kX4_write 26 [VR m, VR p1, VI x2, VI x3, VI 0] G I q) ∧ (¬ ((I m 2) + x2) ≤ 200 → q I))))))) : jRV E jB kX4_write [VR m, VR p1, VI x2, VI x3] G I q := jRun.of mt_X4_write.2.2.2 1 rfl (fun _ => st_X4_write_0 hm lp1 sp1 bp1 hT I (fun _ _ => rfl))
set_option maxRecDepth 20000 in
theorem st_X4_tell_0 {E : jE} {G : jG} {I : jM} {q : jM → Prop} {m : Nat} {p1 np1 : Nat} {x2 : Int} (hm : WX4 G m) (lp1 : p1 < G.2.2) (sp1 : G.2.1 p1 = (101, np1)) (bp1 : (np1 : Int) ≤ 2147483647) (hT : (∀ a j, jRg (G.2.1 a).1 (I a j)) → jIn x2 → (∀ M1, M1 = jup I m 2 0 → (∀ M2, M2 = jup M1 m 5 0 → jRV E jB kX4_write [VR m, VR p1, VI x2, VI (-1)] G M2 (fun I3 => q I3)))) : jOV E jB kX4_tell 0 [VR m, VR p1, VI x2] G I q := by
  intro I0 hF
  refine jOk_mem (fun hI => ?_)
  refine jOk_in (i := 2) rfl (fun hx2 => ?_)
  replace hT := hT hI hx2
  refine r_aload_n dX4_tell_0 rfl (i := 0) rfl ?_
  refine r_iconst (n := 0) dX4_tell_1 ?_
  refine rr_putI (jj := 2) dX4_tell_2 fp_X4_25 rfl rfl (wX4_l hm) (wX4_s hm) ⟨by decide, by decide⟩ (fun M1 eM1 => ?_)
  have hFM1 := jFr_up hF eM1 (wX4_f hm 0 (by decide))
  replace hT := hT M1 eM1
  refine jOk_mem (fun hIM1 => ?_)
  refine r_aload_n dX4_tell_5 rfl (i := 0) rfl ?_
  refine r_iconst (n := 0) dX4_tell_6 ?_
  refine rr_putI (jj := 5) dX4_tell_7 fp_X4_37 rfl rfl (wX4_l hm) (wX4_s hm) ⟨by decide, by decide⟩ (fun M2 eM2 => ?_)
  have hFM2 := jFr_up hFM1 eM2 (wX4_f hm 0 (by decide))
  replace hT := hT M2 eM2
  refine jOk_mem (fun hIM2 => ?_)
  refine r_aload_n dX4_tell_10 rfl (i := 0) rfl ?_
  refine r_aload_n dX4_tell_11 rfl (i := 1) rfl ?_
  refine r_iload_n dX4_tell_12 rfl (i := 2) rfl ?_
  refine r_iconst (n := (-1)) dX4_tell_13 ?_
  refine rr_cVV (a := m) (as := [VR p1, VI x2, VI (-1)]) (st := []) dX4_tell_14 mt_X4_write ml_X4_46 mi_X4_write rm_X4_tell_X4_write jz_X4_write ⟨Nat.zero_le _, Nat.zero_le _⟩ (Nat.le_of_ble_eq_true rfl) (wX4_l hm) (wX4_c hm) (jasR (jasI hx2 (jasI ⟨by decide, by decide⟩ jas0))) hT (fun I3 hFI3 hT => ?_)
  replace hFI3 := jFr_tr hFM2 hFI3
  refine jOk_mem (fun hI3 => ?_)
  exact r_vret dX4_tell_17 rfl ⟨Nat.zero_le _, Nat.zero_le _⟩ ⟨rfl, rfl, hFI3, hT⟩
theorem en_X4_tell {E : jE} {G : jG} {I : jM} {q : jM → Prop} {m : Nat} {p1 np1 : Nat} {x2 : Int} (hm : WX4 G m) (lp1 : p1 < G.2.2) (sp1 : G.2.1 p1 = (101, np1)) (bp1 : (np1 : Int) ≤ 2147483647) (hT : (∀ a j, jRg (G.2.1 a).1 (I a j)) → jIn x2 → (∀ M1, M1 = jup I m 2 0 → (∀ M2, M2 = jup M1 m 5 0 → jRV E jB kX4_write [VR m, VR p1, VI x2, VI (-1)] G M2 (fun I3 => q I3)))) : jRV E jB kX4_tell [VR m, VR p1, VI x2] G I q := jRun.of mt_X4_tell.2.2.2 0 rfl (fun _ => st_X4_tell_0 hm lp1 sp1 bp1 hT I (fun _ _ => rfl))
set_option maxRecDepth 20000 in
theorem st_X4_addSpan_0 {E : jE} {G : jG} {I : jM} {q : jM → Prop} {m : Nat} {x1 : Int} {x2 : Int} (hm : WX4 G m) (hT : (∀ a j, jRg (G.2.1 a).1 (I a j)) → jIn x1 → jIn x2 → ((8 ≤ (I m 5) → q I) ∧ (¬ 8 ≤ (I m 5) → ((0 : Int) ≤ (I m 5) ∧ ((I m 5) : Int) < 8) ∧ (∀ M2, M2 = jup I (m + 3) (I m 5) x1 → ((0 : Int) ≤ (I m 5) ∧ ((I m 5) : Int) < 8) ∧ (∀ M4, M4 = jup M2 (m + 4) (I m 5) x2 → jIn ((I m 5) + 1) ∧ (∀ M5, M5 = jup M4 m 5 ((I m 5) + 1) → q M5)))))) : jOV E jB kX4_addSpan 0 [VR m, VI x1, VI x2] G I q := by
  intro I0 hF
  refine jOk_mem (fun hI => ?_)
  refine jOk_in (i := 1) rfl (fun hx1 => ?_)
  refine jOk_in (i := 2) rfl (fun hx2 => ?_)
  replace hT := hT hI hx1 hx2
  refine r_aload_n dX4_addSpan_0 rfl (i := 0) rfl ?_
  refine rr_getI (v := I m 5) dX4_addSpan_1 fg_X4_37 rfl (wX4_l hm) (wX4_s hm) rfl ?_
  refine r_bipush (n := 8) dX4_addSpan_4 (by decide +kernel) ?_
  refine r_icmp_ge (tgt := 39) dX4_addSpan_6 rfl (hI _ _).inR ⟨by decide, by decide⟩ (fun hcc => ?_) (fun hcc => ?_)
  · replace hT := hT.1 hcc
    exact r_vret dX4_addSpan_39 rfl ⟨Nat.zero_le _, Nat.zero_le _⟩ ⟨rfl, rfl, hF, hT⟩
  · replace hT := hT.2 hcc
    refine r_aload_n dX4_addSpan_9 rfl (i := 0) rfl ?_
    refine rr_getR (b := (m + 3)) dX4_addSpan_10 fg_X4_18 rfl rfl (wX4_l hm) (wX4_s hm) (wX4_r3 hm) ?_
    refine r_aload_n dX4_addSpan_13 rfl (i := 0) rfl ?_
    refine rr_getI (v := I m 5) dX4_addSpan_14 fg_X4_37 rfl (wX4_l hm) (wX4_s hm) rfl ?_
    refine r_iload_n dX4_addSpan_17 rfl (i := 1) rfl ?_
    obtain ⟨hc1, hT⟩ := hT
    refine rr_iastore dX4_addSpan_18 (wX4_l3 hm) (wX4_a3 hm) (by decide) hc1 hx1 (fun M2 eM2 => ?_)
    have hFM2 := jFr_up hF eM2 (wX4_f hm 3 (by decide))
    replace hT := hT M2 eM2
    refine jOk_mem (fun hIM2 => ?_)
    refine r_aload_n dX4_addSpan_19 rfl (i := 0) rfl ?_
    refine rr_getR (b := (m + 4)) dX4_addSpan_20 fg_X4_22 rfl rfl (wX4_l hm) (wX4_s hm) (wX4_r4 hm) ?_
    refine r_aload_n dX4_addSpan_23 rfl (i := 0) rfl ?_
    refine rr_getI (v := I m 5) dX4_addSpan_24 fg_X4_37 rfl (wX4_l hm) (wX4_s hm) (jr_na eM2 (by omega)) ?_
    refine r_iload_n dX4_addSpan_27 rfl (i := 2) rfl ?_
    obtain ⟨hc3, hT⟩ := hT
    refine rr_iastore dX4_addSpan_28 (wX4_l4 hm) (wX4_a4 hm) (by decide) hc3 hx2 (fun M4 eM4 => ?_)
    have hFM4 := jFr_up hFM2 eM4 (wX4_f hm 4 (by decide))
    replace hT := hT M4 eM4
    refine jOk_mem (fun hIM4 => ?_)
    refine r_aload_n dX4_addSpan_29 rfl (i := 0) rfl ?_
    refine r_dup dX4_addSpan_30 rfl ?_
    refine rr_getI (v := I m 5) dX4_addSpan_31 fg_X4_37 rfl (wX4_l hm) (wX4_s hm) ((jr_na eM4 (by omega)).trans (jr_na eM2 (by omega))) ?_
    refine r_iconst (n := 1) dX4_addSpan_34 ?_
    refine r_iadd dX4_addSpan_35 ?_
    obtain ⟨hc6, hT⟩ := hT
    refine rr_putI (jj := 5) dX4_addSpan_36 fp_X4_37 rfl rfl (wX4_l hm) (wX4_s hm) hc6 (fun M5 eM5 => ?_)
    have hFM5 := jFr_up hFM4 eM5 (wX4_f hm 0 (by decide))
    replace hT := hT M5 eM5
    refine jOk_mem (fun hIM5 => ?_)
    exact r_vret dX4_addSpan_39 rfl ⟨Nat.zero_le _, Nat.zero_le _⟩ ⟨rfl, rfl, hFM5, hT⟩
theorem en_X4_addSpan {E : jE} {G : jG} {I : jM} {q : jM → Prop} {m : Nat} {x1 : Int} {x2 : Int} (hm : WX4 G m) (hT : (∀ a j, jRg (G.2.1 a).1 (I a j)) → jIn x1 → jIn x2 → ((8 ≤ (I m 5) → q I) ∧ (¬ 8 ≤ (I m 5) → ((0 : Int) ≤ (I m 5) ∧ ((I m 5) : Int) < 8) ∧ (∀ M2, M2 = jup I (m + 3) (I m 5) x1 → ((0 : Int) ≤ (I m 5) ∧ ((I m 5) : Int) < 8) ∧ (∀ M4, M4 = jup M2 (m + 4) (I m 5) x2 → jIn ((I m 5) + 1) ∧ (∀ M5, M5 = jup M4 m 5 ((I m 5) + 1) → q M5)))))) : jRV E jB kX4_addSpan [VR m, VI x1, VI x2] G I q := jRun.of mt_X4_addSpan.2.2.2 0 rfl (fun _ => st_X4_addSpan_0 hm hT I (fun _ _ => rfl))
set_option maxRecDepth 20000 in
theorem st_X4_removeSpan_4 {E : jE} {G : jG} {I : jM} {q : jM → Prop} {m : Nat} {x1 : Int} {x2 : Int} (hm : WX4 G m) (hT : (∀ a j, jRg (G.2.1 a).1 (I a j)) → jIn x1 → jIn x2 → ((x2 ≤ 0 → jIn ((I m 5) - 1) ∧ (∀ M1, M1 = jup I m 5 ((I m 5) - 1) → q M1)) ∧ (¬ x2 ≤ 0 → (((I m 5) ≤ x2 → jIn ((I m 5) - 1) ∧ (∀ M3, M3 = jup I m 5 ((I m 5) - 1) → q M3)) ∧ (¬ (I m 5) ≤ x2 → ((0 : Int) ≤ x2 ∧ (x2 : Int) < 8) ∧ ((0 : Int) ≤ (x2 - 1) ∧ ((x2 - 1) : Int) < 8) ∧ (∀ M7, M7 = jup I (m + 3) (x2 - 1) (I (m + 3) x2) → ((0 : Int) ≤ x2 ∧ (x2 : Int) < 8) ∧ ((0 : Int) ≤ (x2 - 1) ∧ ((x2 - 1) : Int) < 8) ∧ (∀ M10, M10 = jup M7 (m + 4) (x2 - 1) (I (m + 4) x2) → jIn (x2 + 1) ∧ jOV E jB kX4_removeSpan 4 [VR m, VI x1, VI (x2 + 1)] G M10 q))))))) : jOV E jB kX4_removeSpan 4 [VR m, VI x1, VI x2] G I q := by
  intro I0 hF
  refine jOk_mem (fun hI => ?_)
  refine jOk_in (i := 1) rfl (fun hx1 => ?_)
  refine jOk_in (i := 2) rfl (fun hx2 => ?_)
  replace hT := hT hI hx1 hx2
  refine r_iload_n dX4_removeSpan_4 rfl (i := 2) rfl ?_
  refine r_if_le (tgt := 50) dX4_removeSpan_5 rfl hx2 (fun hcc => ?_) (fun hcc => ?_)
  · replace hT := hT.1 hcc
    refine r_aload_n dX4_removeSpan_50 rfl (i := 0) rfl ?_
    refine r_dup dX4_removeSpan_51 rfl ?_
    refine rr_getI (v := I m 5) dX4_removeSpan_52 fg_X4_37 rfl (wX4_l hm) (wX4_s hm) rfl ?_
    refine r_iconst (n := 1) dX4_removeSpan_55 ?_
    refine r_isub dX4_removeSpan_56 ?_
    obtain ⟨hc2, hT⟩ := hT
    refine rr_putI (jj := 5) dX4_removeSpan_57 fp_X4_37 rfl rfl (wX4_l hm) (wX4_s hm) hc2 (fun M1 eM1 => ?_)
    have hFM1 := jFr_up hF eM1 (wX4_f hm 0 (by decide))
    replace hT := hT M1 eM1
    refine jOk_mem (fun hIM1 => ?_)
    exact r_vret dX4_removeSpan_60 rfl ⟨Nat.zero_le _, Nat.zero_le _⟩ ⟨rfl, rfl, hFM1, hT⟩
  · replace hT := hT.2 hcc
    refine r_iload_n dX4_removeSpan_8 rfl (i := 2) rfl ?_
    refine r_aload_n dX4_removeSpan_9 rfl (i := 0) rfl ?_
    refine rr_getI (v := I m 5) dX4_removeSpan_10 fg_X4_37 rfl (wX4_l hm) (wX4_s hm) rfl ?_
    refine r_icmp_ge (tgt := 50) dX4_removeSpan_13 rfl hx2 (hI _ _).inR (fun hcc => ?_) (fun hcc => ?_)
    · replace hT := hT.1 hcc
      refine r_aload_n dX4_removeSpan_50 rfl (i := 0) rfl ?_
      refine r_dup dX4_removeSpan_51 rfl ?_
      refine rr_getI (v := I m 5) dX4_removeSpan_52 fg_X4_37 rfl (wX4_l hm) (wX4_s hm) rfl ?_
      refine r_iconst (n := 1) dX4_removeSpan_55 ?_
      refine r_isub dX4_removeSpan_56 ?_
      obtain ⟨hc4, hT⟩ := hT
      refine rr_putI (jj := 5) dX4_removeSpan_57 fp_X4_37 rfl rfl (wX4_l hm) (wX4_s hm) hc4 (fun M3 eM3 => ?_)
      have hFM3 := jFr_up hF eM3 (wX4_f hm 0 (by decide))
      replace hT := hT M3 eM3
      refine jOk_mem (fun hIM3 => ?_)
      exact r_vret dX4_removeSpan_60 rfl ⟨Nat.zero_le _, Nat.zero_le _⟩ ⟨rfl, rfl, hFM3, hT⟩
    · replace hT := hT.2 hcc
      refine r_aload_n dX4_removeSpan_16 rfl (i := 0) rfl ?_
      refine rr_getR (b := (m + 3)) dX4_removeSpan_17 fg_X4_18 rfl rfl (wX4_l hm) (wX4_s hm) (wX4_r3 hm) ?_
      refine r_iload_n dX4_removeSpan_20 rfl (i := 2) rfl ?_
      refine r_iconst (n := 1) dX4_removeSpan_21 ?_
      refine r_isub dX4_removeSpan_22 ?_
      refine r_aload_n dX4_removeSpan_23 rfl (i := 0) rfl ?_
      refine rr_getR (b := (m + 3)) dX4_removeSpan_24 fg_X4_18 rfl rfl (wX4_l hm) (wX4_s hm) (wX4_r3 hm) ?_
      refine r_iload_n dX4_removeSpan_27 rfl (i := 2) rfl ?_
      obtain ⟨hc5, hT⟩ := hT
      refine rr_iaload (v := I (m + 3) x2) dX4_removeSpan_28 (wX4_l3 hm) (wX4_a3 hm) (by decide) hc5 rfl ?_
      obtain ⟨hc6, hT⟩ := hT
      refine rr_iastore dX4_removeSpan_29 (wX4_l3 hm) (wX4_a3 hm) (by decide) hc6 (hI _ _).inR (fun M7 eM7 => ?_)
      have hFM7 := jFr_up hF eM7 (wX4_f hm 3 (by decide))
      replace hT := hT M7 eM7
      refine jOk_mem (fun hIM7 => ?_)
      refine r_aload_n dX4_removeSpan_30 rfl (i := 0) rfl ?_
      refine rr_getR (b := (m + 4)) dX4_removeSpan_31 fg_X4_22 rfl rfl (wX4_l hm) (wX4_s hm) (wX4_r4 hm) ?_
      refine r_iload_n dX4_removeSpan_34 rfl (i := 2) rfl ?_
      refine r_iconst (n := 1) dX4_removeSpan_35 ?_
      refine r_isub dX4_removeSpan_36 ?_
      refine r_aload_n dX4_removeSpan_37 rfl (i := 0) rfl ?_
      refine rr_getR (b := (m + 4)) dX4_removeSpan_38 fg_X4_22 rfl rfl (wX4_l hm) (wX4_s hm) (wX4_r4 hm) ?_
      refine r_iload_n dX4_removeSpan_41 rfl (i := 2) rfl ?_
      obtain ⟨hc8, hT⟩ := hT
      refine rr_iaload (v := I (m + 4) x2) dX4_removeSpan_42 (wX4_l4 hm) (wX4_a4 hm) (by decide) hc8 (jr_na eM7 (by omega)) ?_
      obtain ⟨hc9, hT⟩ := hT
      refine rr_iastore dX4_removeSpan_43 (wX4_l4 hm) (wX4_a4 hm) (by decide) hc9 (hI _ _).inR (fun M10 eM10 => ?_)
      have hFM10 := jFr_up hFM7 eM10 (wX4_f hm 4 (by decide))
      replace hT := hT M10 eM10
      refine jOk_mem (fun hIM10 => ?_)
      obtain ⟨hc11, hT⟩ := hT
      refine rr_iinc (i := 2) (ls' := [VR m, VI x1, VI (x2 + 1)]) dX4_removeSpan_44 rfl (Nat.le_of_ble_eq_true rfl) rfl rfl hc11 ?_
      refine r_goto (tgt := 4) dX4_removeSpan_47 rfl ?_
      exact hT I0 hFM10
set_option maxRecDepth 20000 in
theorem st_X4_removeSpan_0 {E : jE} {G : jG} {I : jM} {q : jM → Prop} {m : Nat} {x1 : Int} (hm : WX4 G m) (hT : (∀ a j, jRg (G.2.1 a).1 (I a j)) → jIn x1 → jIn (x1 + 1) ∧ jOV E jB kX4_removeSpan 4 [VR m, VI x1, VI (x1 + 1)] G I q) : jOV E jB kX4_removeSpan 0 [VR m, VI x1, VN] G I q := by
  intro I0 hF
  refine jOk_mem (fun hI => ?_)
  refine jOk_in (i := 1) rfl (fun hx1 => ?_)
  replace hT := hT hI hx1
  refine r_iload_n dX4_removeSpan_0 rfl (i := 1) rfl ?_
  refine r_iconst (n := 1) dX4_removeSpan_1 ?_
  refine r_iadd dX4_removeSpan_2 ?_
  obtain ⟨hc1, hT⟩ := hT
  refine rr_istore_n (i := 2) (ls' := [VR m, VI x1, VI (x1 + 1)]) dX4_removeSpan_3 rfl (Nat.le_of_ble_eq_true rfl) rfl rfl hc1 ?_
  exact hT I0 hF
theorem en_X4_removeSpan {E : jE} {G : jG} {I : jM} {q : jM → Prop} {m : Nat} {x1 : Int} (hm : WX4 G m) (hT : (∀ a j, jRg (G.2.1 a).1 (I a j)) → jIn x1 → jIn (x1 + 1) ∧ jOV E jB kX4_removeSpan 4 [VR m, VI x1, VI (x1 + 1)] G I q) : jRV E jB kX4_removeSpan [VR m, VI x1] G I q := jRun.of mt_X4_removeSpan.2.2.2 1 rfl (fun _ => st_X4_removeSpan_0 hm hT I (fun _ _ => rfl))
set_option maxRecDepth 20000 in
theorem st_X4_shiftSpans_3 {E : jE} {G : jG} {I : jM} {q : jM → Prop} {m : Nat} {p1 : Nat} {x2 : Int} {x3 : Int} {x4 : Int} (hm : WX4 G m) (hp1 : WX4 G p1) (hT : (∀ a j, jRg (G.2.1 a).1 (I a j)) → jIn x2 → jIn x3 → jIn x4 → (((I m 5) ≤ x4 → q I) ∧ (¬ (I m 5) ≤ x4 → ((0 : Int) ≤ x4 ∧ (x4 : Int) < 8) ∧ (((I (p1 + 3) x4) < x2 → jIn (x4 + 1) ∧ jOV E jB kX4_shiftSpans 3 [VR m, VR p1, VI x2, VI x3, VI (x4 + 1)] G I q) ∧ (¬ (I (p1 + 3) x4) < x2 → ((0 : Int) ≤ x4 ∧ (x4 : Int) < 8) ∧ ((0 : Int) ≤ x4 ∧ (x4 : Int) < 8) ∧ jIn ((I (m + 3) x4) + x3) ∧ (∀ M6, M6 = jup I (m + 3) x4 ((I (m + 3) x4) + x3) → ((0 : Int) ≤ x4 ∧ (x4 : Int) < 8) ∧ ((0 : Int) ≤ x4 ∧ (x4 : Int) < 8) ∧ jIn ((I (m + 4) x4) + x3) ∧ (∀ M10, M10 = jup M6 (m + 4) x4 ((I (m + 4) x4) + x3) → jIn (x4 + 1) ∧ jOV E jB kX4_shiftSpans 3 [VR m, VR p1, VI x2, VI x3, VI (x4 + 1)] G M10 q))))))) : jOV E jB kX4_shiftSpans 3 [VR m, VR p1, VI x2, VI x3, VI x4] G I q := by
  intro I0 hF
  refine jOk_mem (fun hI => ?_)
  refine jOk_in (i := 2) rfl (fun hx2 => ?_)
  refine jOk_in (i := 3) rfl (fun hx3 => ?_)
  refine jOk_in (i := 4) rfl (fun hx4 => ?_)
  replace hT := hT hI hx2 hx3 hx4
  refine r_iload dX4_shiftSpans_3 (i := 4) rfl ?_
  refine r_aload_n dX4_shiftSpans_5 rfl (i := 0) rfl ?_
  refine rr_getI (v := I m 5) dX4_shiftSpans_6 fg_X4_37 rfl (wX4_l hm) (wX4_s hm) rfl ?_
  refine r_icmp_ge (tgt := 51) dX4_shiftSpans_9 rfl hx4 (hI _ _).inR (fun hcc => ?_) (fun hcc => ?_)
  · replace hT := hT.1 hcc
    exact r_vret dX4_shiftSpans_51 rfl ⟨Nat.zero_le _, Nat.zero_le _⟩ ⟨rfl, rfl, hF, hT⟩
  · replace hT := hT.2 hcc
    refine r_aload_n dX4_shiftSpans_12 rfl (i := 1) rfl ?_
    refine rr_getR (b := (p1 + 3)) dX4_shiftSpans_13 fg_X4_18 rfl rfl (wX4_l hp1) (wX4_s hp1) (wX4_r3 hp1) ?_
    refine r_iload dX4_shiftSpans_16 (i := 4) rfl ?_
    obtain ⟨hc1, hT⟩ := hT
    refine rr_iaload (v := I (p1 + 3) x4) dX4_shiftSpans_18 (wX4_l3 hp1) (wX4_a3 hp1) (by decide) hc1 rfl ?_
    refine r_iload_n dX4_shiftSpans_19 rfl (i := 2) rfl ?_
    refine r_icmp_lt (tgt := 45) dX4_shiftSpans_20 rfl (hI _ _).inR hx2 (fun hcc => ?_) (fun hcc => ?_)
    · replace hT := hT.1 hcc
      obtain ⟨hc2, hT⟩ := hT
      refine rr_iinc (i := 4) (ls' := [VR m, VR p1, VI x2, VI x3, VI (x4 + 1)]) dX4_shiftSpans_45 rfl (Nat.le_of_ble_eq_true rfl) rfl rfl hc2 ?_
      refine r_goto (tgt := 3) dX4_shiftSpans_48 rfl ?_
      exact hT I0 hF
    · replace hT := hT.2 hcc
      refine r_aload_n dX4_shiftSpans_23 rfl (i := 0) rfl ?_
      refine rr_getR (b := (m + 3)) dX4_shiftSpans_24 fg_X4_18 rfl rfl (wX4_l hm) (wX4_s hm) (wX4_r3 hm) ?_
      refine r_iload dX4_shiftSpans_27 (i := 4) rfl ?_
      refine r_dup2 dX4_shiftSpans_29 rfl rfl ?_
      obtain ⟨hc3, hT⟩ := hT
      refine rr_iaload (v := I (m + 3) x4) dX4_shiftSpans_30 (wX4_l3 hm) (wX4_a3 hm) (by decide) hc3 rfl ?_
      refine r_iload_n dX4_shiftSpans_31 rfl (i := 3) rfl ?_
      refine r_iadd dX4_shiftSpans_32 ?_
      obtain ⟨hc4, hT⟩ := hT
      obtain ⟨hc5, hT⟩ := hT
      refine rr_iastore dX4_shiftSpans_33 (wX4_l3 hm) (wX4_a3 hm) (by decide) hc4 hc5 (fun M6 eM6 => ?_)
      have hFM6 := jFr_up hF eM6 (wX4_f hm 3 (by decide))
      replace hT := hT M6 eM6
      refine jOk_mem (fun hIM6 => ?_)
      refine r_aload_n dX4_shiftSpans_34 rfl (i := 0) rfl ?_
      refine rr_getR (b := (m + 4)) dX4_shiftSpans_35 fg_X4_22 rfl rfl (wX4_l hm) (wX4_s hm) (wX4_r4 hm) ?_
      refine r_iload dX4_shiftSpans_38 (i := 4) rfl ?_
      refine r_dup2 dX4_shiftSpans_40 rfl rfl ?_
      obtain ⟨hc7, hT⟩ := hT
      refine rr_iaload (v := I (m + 4) x4) dX4_shiftSpans_41 (wX4_l4 hm) (wX4_a4 hm) (by decide) hc7 (jr_na eM6 (by omega)) ?_
      refine r_iload_n dX4_shiftSpans_42 rfl (i := 3) rfl ?_
      refine r_iadd dX4_shiftSpans_43 ?_
      obtain ⟨hc8, hT⟩ := hT
      obtain ⟨hc9, hT⟩ := hT
      refine rr_iastore dX4_shiftSpans_44 (wX4_l4 hm) (wX4_a4 hm) (by decide) hc8 hc9 (fun M10 eM10 => ?_)
      have hFM10 := jFr_up hFM6 eM10 (wX4_f hm 4 (by decide))
      replace hT := hT M10 eM10
      refine jOk_mem (fun hIM10 => ?_)
      obtain ⟨hc11, hT⟩ := hT
      refine rr_iinc (i := 4) (ls' := [VR m, VR p1, VI x2, VI x3, VI (x4 + 1)]) dX4_shiftSpans_45 rfl (Nat.le_of_ble_eq_true rfl) rfl rfl hc11 ?_
      refine r_goto (tgt := 3) dX4_shiftSpans_48 rfl ?_
      exact hT I0 hFM10
set_option maxRecDepth 20000 in
theorem st_X4_shiftSpans_0 {E : jE} {G : jG} {I : jM} {q : jM → Prop} {m : Nat} {p1 : Nat} {x2 : Int} {x3 : Int} (hm : WX4 G m) (hp1 : WX4 G p1) (hT : (∀ a j, jRg (G.2.1 a).1 (I a j)) → jIn x2 → jIn x3 → jOV E jB kX4_shiftSpans 3 [VR m, VR p1, VI x2, VI x3, VI 0] G I q) : jOV E jB kX4_shiftSpans 0 [VR m, VR p1, VI x2, VI x3, VN] G I q := by
  intro I0 hF
  refine jOk_mem (fun hI => ?_)
  refine jOk_in (i := 2) rfl (fun hx2 => ?_)
  refine jOk_in (i := 3) rfl (fun hx3 => ?_)
  replace hT := hT hI hx2 hx3
  refine r_iconst (n := 0) dX4_shiftSpans_0 ?_
  refine rr_istore (i := 4) (ls' := [VR m, VR p1, VI x2, VI x3, VI 0]) dX4_shiftSpans_1 (Nat.le_of_ble_eq_true rfl) rfl rfl ⟨by decide, by decide⟩ ?_
  exact hT I0 hF
theorem en_X4_shiftSpans {E : jE} {G : jG} {I : jM} {q : jM → Prop} {m : Nat} {p1 : Nat} {x2 : Int} {x3 : Int} (hm : WX4 G m) (hp1 : WX4 G p1) (hT : (∀ a j, jRg (G.2.1 a).1 (I a j)) → jIn x2 → jIn x3 → jOV E jB kX4_shiftSpans 3 [VR m, VR p1, VI x2, VI x3, VI 0] G I q) : jRV E jB kX4_shiftSpans [VR m, VR p1, VI x2, VI x3] G I q := jRun.of mt_X4_shiftSpans.2.2.2 1 rfl (fun _ => st_X4_shiftSpans_0 hm hp1 hT I (fun _ _ => rfl))
set_option maxRecDepth 20000 in
theorem st_X4_hides_2 {E : jE} {G : jG} {I : jM} {q : Int → jM → Prop} {m : Nat} {x1 : Int} {x2 : Int} {x3 : Int} (hm : WX4 G m) (hT : (∀ a j, jRg (G.2.1 a).1 (I a j)) → jIn x1 → jIn x2 → jIn x3 → (((I m 5) ≤ x3 → q 0 I) ∧ (¬ (I m 5) ≤ x3 → ((0 : Int) ≤ x3 ∧ (x3 : Int) < 8) ∧ (((I (m + 4) x3) ≤ x1 → jIn (x3 + 1) ∧ jOI E jB kX4_hides 2 [VR m, VI x1, VI x2, VI (x3 + 1)] G I q) ∧ (¬ (I (m + 4) x3) ≤ x1 → ((0 : Int) ≤ x3 ∧ (x3 : Int) < 8) ∧ ((x2 ≤ (I (m + 3) x3) → jIn (x3 + 1) ∧ jOI E jB kX4_hides 2 [VR m, VI x1, VI x2, VI (x3 + 1)] G I q) ∧ (¬ x2 ≤ (I (m + 3) x3) → q 1 I))))))) : jOI E jB kX4_hides 2 [VR m, VI x1, VI x2, VI x3] G I q := by
  intro I0 hF
  refine jOk_mem (fun hI => ?_)
  refine jOk_in (i := 1) rfl (fun hx1 => ?_)
  refine jOk_in (i := 2) rfl (fun hx2 => ?_)
  refine jOk_in (i := 3) rfl (fun hx3 => ?_)
  replace hT := hT hI hx1 hx2 hx3
  refine r_iload_n dX4_hides_2 rfl (i := 3) rfl ?_
  refine r_aload_n dX4_hides_3 rfl (i := 0) rfl ?_
  refine rr_getI (v := I m 5) dX4_hides_4 fg_X4_37 rfl (wX4_l hm) (wX4_s hm) rfl ?_
  refine r_icmp_ge (tgt := 38) dX4_hides_7 rfl hx3 (hI _ _).inR (fun hcc => ?_) (fun hcc => ?_)
  · replace hT := hT.1 hcc
    refine r_iconst (n := 0) dX4_hides_38 ?_
    exact r_zret dX4_hides_39 rfl ⟨by decide, by decide⟩ ⟨Nat.zero_le _, Nat.zero_le _⟩ ⟨_, rfl, rfl, hF, hT⟩
  · replace hT := hT.2 hcc
    refine r_iload_n dX4_hides_10 rfl (i := 1) rfl ?_
    refine r_aload_n dX4_hides_11 rfl (i := 0) rfl ?_
    refine rr_getR (b := (m + 4)) dX4_hides_12 fg_X4_22 rfl rfl (wX4_l hm) (wX4_s hm) (wX4_r4 hm) ?_
    refine r_iload_n dX4_hides_15 rfl (i := 3) rfl ?_
    obtain ⟨hc1, hT⟩ := hT
    refine rr_iaload (v := I (m + 4) x3) dX4_hides_16 (wX4_l4 hm) (wX4_a4 hm) (by decide) hc1 rfl ?_
    refine r_icmp_ge (tgt := 32) dX4_hides_17 rfl hx1 (hI _ _).inR (fun hcc => ?_) (fun hcc => ?_)
    · replace hT := hT.1 hcc
      obtain ⟨hc2, hT⟩ := hT
      refine rr_iinc (i := 3) (ls' := [VR m, VI x1, VI x2, VI (x3 + 1)]) dX4_hides_32 rfl (Nat.le_of_ble_eq_true rfl) rfl rfl hc2 ?_
      refine r_goto (tgt := 2) dX4_hides_35 rfl ?_
      exact hT I0 hF
    · replace hT := hT.2 hcc
      refine r_aload_n dX4_hides_20 rfl (i := 0) rfl ?_
      refine rr_getR (b := (m + 3)) dX4_hides_21 fg_X4_18 rfl rfl (wX4_l hm) (wX4_s hm) (wX4_r3 hm) ?_
      refine r_iload_n dX4_hides_24 rfl (i := 3) rfl ?_
      obtain ⟨hc3, hT⟩ := hT
      refine rr_iaload (v := I (m + 3) x3) dX4_hides_25 (wX4_l3 hm) (wX4_a3 hm) (by decide) hc3 rfl ?_
      refine r_iload_n dX4_hides_26 rfl (i := 2) rfl ?_
      refine r_icmp_ge (tgt := 32) dX4_hides_27 rfl (hI _ _).inR hx2 (fun hcc => ?_) (fun hcc => ?_)
      · replace hT := hT.1 hcc
        obtain ⟨hc4, hT⟩ := hT
        refine rr_iinc (i := 3) (ls' := [VR m, VI x1, VI x2, VI (x3 + 1)]) dX4_hides_32 rfl (Nat.le_of_ble_eq_true rfl) rfl rfl hc4 ?_
        refine r_goto (tgt := 2) dX4_hides_35 rfl ?_
        exact hT I0 hF
      · replace hT := hT.2 hcc
        refine r_iconst (n := 1) dX4_hides_30 ?_
        exact r_zret dX4_hides_31 rfl ⟨by decide, by decide⟩ ⟨Nat.zero_le _, Nat.zero_le _⟩ ⟨_, rfl, rfl, hF, hT⟩
set_option maxRecDepth 20000 in
theorem st_X4_hides_0 {E : jE} {G : jG} {I : jM} {q : Int → jM → Prop} {m : Nat} {x1 : Int} {x2 : Int} (hm : WX4 G m) (hT : (∀ a j, jRg (G.2.1 a).1 (I a j)) → jIn x1 → jIn x2 → jOI E jB kX4_hides 2 [VR m, VI x1, VI x2, VI 0] G I q) : jOI E jB kX4_hides 0 [VR m, VI x1, VI x2, VN] G I q := by
  intro I0 hF
  refine jOk_mem (fun hI => ?_)
  refine jOk_in (i := 1) rfl (fun hx1 => ?_)
  refine jOk_in (i := 2) rfl (fun hx2 => ?_)
  replace hT := hT hI hx1 hx2
  refine r_iconst (n := 0) dX4_hides_0 ?_
  refine rr_istore_n (i := 3) (ls' := [VR m, VI x1, VI x2, VI 0]) dX4_hides_1 rfl (Nat.le_of_ble_eq_true rfl) rfl rfl ⟨by decide, by decide⟩ ?_
  exact hT I0 hF
theorem en_X4_hides {E : jE} {G : jG} {I : jM} {q : Int → jM → Prop} {m : Nat} {x1 : Int} {x2 : Int} (hm : WX4 G m) (hT : (∀ a j, jRg (G.2.1 a).1 (I a j)) → jIn x1 → jIn x2 → jOI E jB kX4_hides 2 [VR m, VI x1, VI x2, VI 0] G I q) : jRI E jB kX4_hides [VR m, VI x1, VI x2] G I q := jRun.of mt_X4_hides.2.2.2 1 rfl (fun _ => st_X4_hides_0 hm hT I (fun _ _ => rfl))
section CA
variable {E : jE} {G : jG} {m p : Nat} {I : jM} {X : Int → Int}
def W4t (m : Nat) (I I' : jM) : Prop := ∀ a j, a ≠ m + 1 → a ≠ m + 2 → (a ≠ m ∨ j ≠ 2) → I' a j = I a j
def W4s (m : Nat) (I I' : jM) : Prop := ∀ a j, a ≠ m + 3 → a ≠ m + 4 → (a ≠ m ∨ j ≠ 5) → I' a j = I a j
theorem W4t.trans {I I' I'' : jM} (h : W4t m I I') (h' : W4t m I' I'') : W4t m I I'' := fun a j h1 h2 h3 => (h' a j h1 h2 h3).trans (h a j h1 h2 h3)
theorem W4s.trans {I I' I'' : jM} (h : W4s m I I') (h' : W4s m I' I'') : W4s m I I'' := fun a j h1 h2 h3 => (h' a j h1 h2 h3).trans (h a j h1 h2 h3)
theorem W4t.f {I I' : jM} (h : W4t m I I') : Fr m (m + 5) I I' := fun a j ha => h a j (by omega) (by omega) (by omega)
theorem W4s.f {I I' : jM} (h : W4s m I I') : Fr m (m + 5) I I' := fun a j ha => h a j (by omega) (by omega) (by omega)
theorem W4s.rfl {I : jM} : W4s m I I := fun _ _ _ _ _ => Eq.refl _
theorem W4t.rfl {I : jM} : W4t m I I := fun _ _ _ _ _ => Eq.refl _
theorem cl_carry (hm : WX4 G m) (hp : WX4 G p) (hd : m + 5 ≤ p ∨ p + 5 ≤ m) {P : List (Int × Int)} (hP : PT m I P) (hX : PB p X I) {x y : Int} (x0 : 0 ≤ x) (xy : x ≤ y) (y2 : y ≤ X 2) (hl : (P.length : Int) + (y - x) ≤ 200) : jRV E jB kX4_carry [VR m, VR p, VI x, VI y] G I (fun I' => PT m I' (P ++ cells X x y) ∧ W4t m I I') := by
  have h2 := hX.1
  have hP1 := hP.1
  refine en_X4_carry hm hp (fun _ _ _ => ⟨fun q => absurd q (by omega), fun _ => ⟨fun q => absurd q (by omega), fun _ => ⟨fun q => absurd q (by omega), fun _ => ⟨⟨by omega, by omega⟩, fun _ => ?_, fun q => absurd ?_ q⟩⟩⟩⟩)
  · refine ⟨⟨x0, by omega, by omega, by omega, by omega⟩, fun M3 e3 => ⟨⟨x0, by omega, by omega, by omega, by omega⟩, fun M5 e5 => ⟨⟨by omega, by omega⟩, fun M6 e6 => ⟨⟨?_, fun i hi => ?_⟩, fun a j a1 a2 a3 => ?_⟩⟩⟩⟩
    · rw [jr_eq e6, List.length_append, cells_len, hP1]
      omega
    · rw [List.length_append, cells_len] at hi
      rw [jr_na e6 (by omega), jr_na e6 (by omega), jc_na e5 (by omega)]
      by_cases q : i < P.length
      · rw [gd_left q, jc_out e3 (by omega), jc_out e5 (by omega), jc_na e3 (by omega)]
        exact hP.2 i q
      · rw [gd_right (by omega), cells_gd (by omega), jc_in e3 (by omega), jc_in e5 (by omega), jc_na e3 (by omega), hP1]
        have g := hX.2 (x + ((i : Int) - P.length)) (by omega) (by omega)
        have ei : ((i - P.length : Nat) : Int) = (i : Int) - P.length := by omega
        rw [ei]
        exact g
    · have e : M6 a j = M5 a j := by
        rcases a3 with a3 | a3
        · exact jr_na e6 a3
        · exact jr_nj e6 a3
      rw [e, jc_na e5 a2, jc_na e3 a1]
  · omega
theorem cl_copySpans (hm : WX4 G m) (hp : WX4 G p) (hd : m + 5 ≤ p ∨ p + 5 ≤ m) (hX : PS p X I) : jRV E jB kX4_copySpans [VR m, VR p] G I (fun I' => PS m X I' ∧ W4s m I I') := by
  have h2 := hX.1
  refine en_X4_copySpans hm hp (fun _ M1 e1 => ?_)
  rw [h2.1]
  refine ⟨⟨by omega, by omega, by omega, by omega, by omega⟩, fun M3 e3 => ⟨⟨by omega, by omega, by omega, by omega, by omega⟩, fun M5 e5 => ⟨⟨⟨?_, h2.2⟩, fun k k0 k1 => ?_⟩, fun a j a1 a2 a3 => ?_⟩⟩⟩
  · rw [jc_na e5 (by omega), jc_na e3 (by omega), jr_eq e1, h2.1]
  · rw [jc_na e5 (by omega), jc_in e3 (by omega), jc_in e5 (by omega), jc_na e3 (by omega), jr_na e1 (by omega), jr_na e1 (by omega)]
    rw [show (0 : Int) + (k - 0) = k by omega]
    exact hX.2 k k0 k1
  · rw [jc_na e5 a2, jc_na e3 a1]
    rcases a3 with a3 | a3
    · exact jr_na e1 a3
    · exact jr_nj e1 a3
theorem cl_pageCopy (hm : WX4 G m) (hp : WX4 G p) (hd : m + 5 ≤ p ∨ p + 5 ≤ m) (hX : PG p X I) : jRV E jB kX4_copyFrom [VR m, VR p] G I (fun I' => PG m X I' ∧ Fr m (m + 5) I I') := by
  have h2 := hX.1.1
  refine en_X4_copyFrom hm hp (fun _ M1 e1 => ?_)
  have f1 : Fr m (m + 5) I M1 := Fr.up e1 (by omega)
  have hB1 : PB p X M1 := hX.1.fr (fun a j q => f1 a j (by omega))
  rw [hB1.1.1]
  refine (cl_carry hm hp hd (P := []) ⟨jr_eq e1, fun i hi => absurd hi (Nat.not_lt_zero i)⟩ hB1 (x := 0) (y := X 2) (by omega) (by omega) (by omega) (by simp; omega)).mono (fun I2 _ g => ?_)
  rw [List.nil_append] at g
  refine (cl_copySpans hm hp hd (X := X) (hX.2.fr (fun a j q => ?_))).mono (fun I3 _ g3 => ⟨⟨?_, g3.1⟩, f1.trans (g.2.f.trans g3.2.f)⟩)
  · rw [g.2 a j (by omega) (by omega) (by omega)]
    exact f1 a j (by omega)
  · exact (PT.pb g.1 h2.2).fr (fun a j q => g3.2 a j (by omega) (by omega) (by omega))
theorem cl_write (hm : WX4 G m) {s ns : Nat} (ls : s < G.2.2) (ss : G.2.1 s = (101, ns)) (bs : (ns : Int) ≤ 2147483647) (hd : s < m ∨ m + 5 ≤ s) {P : List (Int × Int)} (hP : PT m I P) {L : List Int} (hL : ∀ i : Nat, i < L.length → I s i = L.getD i 0) (hn : L.length ≤ ns) (hl : P.length + L.length ≤ 200) {w : Int} (hw : -1 ≤ w ∧ w ≤ 5) : jRV E jB kX4_write [VR m, VR s, VI (L.length : Int), VI w] G I (fun I' => PT m I' (P ++ L.map (fun c => (c, w + 1))) ∧ W4t m I I') := by
  have hP1 := hP.1
  have hgm : ∀ i : Nat, i < L.length → (L.map (fun c => (c, w + 1))).getD i (0, 0) = (L.getD i 0, w + 1) := fun i hi => by
    rw [List.getD_eq_getElem?_getD, List.getElem?_map, List.getElem?_eq_getElem hi, List.getD_eq_getElem?_getD, List.getElem?_eq_getElem hi]
    rfl
  have loop : ∀ (d c : Nat) (I1 : jM), c + d = L.length → I1 m 2 = P.length → (∀ i : Nat, i < P.length → I1 (m + 1) i = (P.getD i (0, 0)).1 ∧ I1 (m + 2) i = (P.getD i (0, 0)).2 - 1) → (∀ i : Nat, i < c → I1 (m + 1) (P.length + i : Nat) = L.getD i 0 ∧ I1 (m + 2) (P.length + i : Nat) = w) → W4t m I I1 → jOV E jB kX4_write 26 [VR m, VR s, VI (L.length : Int), VI w, VI c] G I1 (fun I' => PT m I' (P ++ L.map (fun c => (c, w + 1))) ∧ W4t m I I') := by
    intro d
    induction d with
    | zero =>
      intro c I1 hc h2 hP0 hL0 hW
      refine st_X4_write_26 hm ls ss bs (fun _ _ _ _ => ⟨fun _ => ⟨⟨by omega, by omega⟩, fun M1 e1 => ⟨⟨?_, fun i hi => ?_⟩, fun a j a1 a2 a3 => ?_⟩⟩, fun q => absurd (by omega) q⟩)
      · rw [jr_eq e1, h2, List.length_append, List.length_map]
        omega
      · rw [List.length_append, List.length_map] at hi
        rw [jr_na e1 (by omega), jr_na e1 (by omega)]
        by_cases q : i < P.length
        · rw [gd_left q]
          exact hP0 i q
        · rw [gd_right (by omega), hgm _ (by omega)]
          have g := hL0 (i - P.length) (by omega)
          rw [show P.length + (i - P.length) = i by omega] at g
          refine ⟨g.1, ?_⟩
          rw [g.2]
          show w = w + 1 - 1
          omega
      · have e : M1 a j = I1 a j := by
          rcases a3 with a3 | a3
          · exact jr_na e1 a3
          · exact jr_nj e1 a3
        rw [e]
        exact hW a j a1 a2 a3
    | succ d ih =>
      intro c I1 hc h2 hP0 hL0 hW
      refine st_X4_write_26 hm ls ss bs (fun _ _ _ _ => ⟨fun q => absurd q (by omega), fun _ => ⟨⟨by omega, by omega⟩, fun _ => ⟨⟨by omega, by omega⟩, fun M6 e6 => ⟨⟨by omega, by omega⟩, fun M8 e8 => ⟨⟨by omega, by omega⟩, ?_⟩⟩⟩⟩⟩)
      rw [jb8_id (by omega)] at e8
      have es : I1 s c = L.getD c 0 := by
        rw [hW s c (by omega) (by omega) (by omega)]
        exact hL c (by omega)
      have e2 : (c : Int) + 1 = ((c + 1 : Nat) : Int) := by omega
      rw [e2]
      refine ih (c + 1) M8 (by omega) ?_ (fun i hi => ?_) (fun i hi => ?_) (hW.trans (fun a j a1 a2 _ => ?_))
      · rw [jr_na e8 (by omega), jr_na e6 (by omega)]
        exact h2
      · rw [jr_na e8 (by omega), jr_nj e6 (by omega), jr_nj e8 (by omega), jr_na e6 (by omega)]
        exact hP0 i hi
      · rw [jr_na e8 (by omega)]
        by_cases q : i = c
        · have ej : ((P.length + i : Nat) : Int) = I1 m 2 + (c : Int) := by omega
          rw [ej, jr_eq e6, jr_eq e8, q, es]
          exact ⟨rfl, rfl⟩
        · rw [jr_nj e6 (by omega), jr_nj e8 (by omega), jr_na e6 (by omega)]
          exact hL0 i (by omega)
      · rw [jr_na e8 a2, jr_na e6 a1]
  refine en_X4_write hm ls ss bs (fun _ _ _ => ⟨fun q => absurd q (by omega), fun _ => ⟨fun q => absurd q (by omega), fun _ => ⟨⟨by omega, by omega⟩, fun _ => ?_, fun q => absurd (by omega) q⟩⟩⟩)
  exact loop L.length 0 I (by omega) hP1 hP.2 (fun i hi => absurd hi (Nat.not_lt_zero i)) W4t.rfl
end CA
