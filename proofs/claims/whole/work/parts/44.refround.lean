/-! ===== the reference: a round ===== -/
section CH
variable {S S' : Int → Int}
theorem grow_congr (h : EqS S S') (hQ : QW S) (hF : Fnd S (nT S) (bT S) (FL S)) {f : Int} (f0 : 0 ≤ f) (f1 : f < NF S) : grow S' f = grow S f := by
  unfold grow
  rw [fO_congr h hQ hF f0 f1, fE_congr h hQ hF, fB_congr h hQ]
theorem Ch_congr (h : EqS S S') (hQ : QW S) (hF : Fnd S (nT S) (bT S) (FL S)) : ∀ (L : List Int) (lo i : Int), Ch S lo i L → Ch S' lo i L := by
  intro L
  induction L with
  | nil => intro lo i g; show i ≤ S' 2; rw [h.at (j := 2) (by omega)]; exact g
  | cons f R ih =>
    intro lo i g
    obtain ⟨g1, g2, g3, g4⟩ := g
    have e : NF S' = NF S := by unfold NF; rw [FL_congr h hQ]
    refine ⟨g1, by rw [e]; exact g2, by rw [fB_congr h hQ]; exact g3, ?_⟩
    rw [fE_congr h hQ hF]
    exact ih _ _ g4
theorem sumG_congr (h : EqS S S') (hQ : QW S) (hF : Fnd S (nT S) (bT S) (FL S)) {L : List Int} (hL : ∀ f ∈ L, 0 ≤ f ∧ f < NF S) : sumG S' L = sumG S L := by
  unfold sumG
  congr 1
  apply List.map_congr_left
  intro f hf
  exact grow_congr h hQ hF (hL f hf).1 (hL f hf).2
theorem alng_congr (h : EqS S S') (hQ : QW S) (hF : Fnd S (nT S) (bT S) (FL S)) {L : List Int} (hL : ∀ f ∈ L, 0 ≤ f ∧ f < NF S) (p : Int) : alng S' L p = alng S L p := by
  unfold alng
  rw [fE_congr h hQ hF, sumG_congr h hQ hF (fun f hf => hL f (List.mem_filter.mp hf).1)]
theorem cells_congr (h : ∀ j, 10 ≤ j → j < 410 → S' j = S j) {i j : Int} (i0 : 0 ≤ i) (j1 : j ≤ 200) : cells S' i j = cells S i j := by
  unfold cells
  apply List.map_congr_left
  intro k hk
  have := List.mem_range.mp hk
  rw [h (10 + (i + k)) (by omega) (by omega), h (210 + (i + k)) (by omega) (by omega)]
theorem newL_congr (h : EqS S S') (hQ : QW S) (hF : Fnd S (nT S) (bT S) (FL S)) : ∀ (L : List Int) (lo i : Int), 0 ≤ lo → 0 ≤ i → Ch S lo i L → newL S' L i = newL S L i := by
  have h2 := hQ.1
  have hc : ∀ j, 10 ≤ j → j < 410 → S' j = S j := fun j j0 j1 => h.at (by omega)
  intro L
  induction L with
  | nil =>
    intro lo i l0 i0 g
    unfold newL
    rw [h.at (j := 2) (by omega), cells_congr hc i0 h2.2]
  | cons f R ih =>
    intro lo i l0 i0 g
    obtain ⟨g1, g2, g3, g4⟩ := g
    have bd := f_bd hQ hF (f := f) (by omega) g2
    unfold newL
    rw [fB_congr h hQ, fE_congr h hQ hF, fR_congr h hQ, fO_congr h hQ hF (by omega) g2, cells_congr hc i0 (by omega), ih _ _ (by omega) (by omega) g4]
theorem Ch.all {lo i : Int} {L : List Int} (l0 : 0 ≤ lo) (h : Ch S lo i L) : ∀ f ∈ L, 0 ≤ f ∧ f < NF S := fun f hf => by have := Ch.mem _ _ _ _ h hf; omega
theorem mkS_congr (h : ∀ j, 2 ≤ j → j < 1054 → S' j = S j) (hE : EqS S S') (hQ : QW S) (hF : Fnd S (nT S) (bT S) (FL S)) {L : List Int} (hC : Ch S 0 0 L) {j : Int} (j0 : 2 ≤ j) (j1 : j < 1054) : mkS S' L j = mkS S L j := by
  have h3 := hQ.2.2.1
  unfold mkS
  rw [newL_congr hE hQ hF L 0 0 (by omega) (by omega) hC, hE.at (j := 3) (by omega), h j j0 j1, alng_congr hE hQ hF (hC.all (by omega)), alng_congr hE hQ hF (hC.all (by omega))]
  by_cases q : 410 ≤ j ∧ j < 410 + 2 * S 3
  · rw [h (j - 1) (by omega) (by omega)]
  · by_cases q2 : j = 2
    · rw [if_pos q2, if_pos q2]
    · rw [if_neg q2, if_neg q2]
      by_cases q3 : 10 ≤ j ∧ j < 210
      · rw [if_pos q3, if_pos q3]
      · rw [if_neg q3, if_neg q3]
        by_cases q4 : 210 ≤ j ∧ j < 410
        · rw [if_pos q4, if_pos q4]
        · rw [if_neg q4, if_neg q4, if_neg q, if_neg q]
end CH
/-- written into the book -/
def wdS (S : Int → Int) (x y z : Int) : Int → Int := fun j =>
  if j = 9 then (if S 9 = 24 then 24 else S 9 + 1)
  else if j = 442 + 3 * (if S 9 = 24 then 23 else S 9) then x
  else if j = 442 + 3 * (if S 9 = 24 then 23 else S 9) + 1 then y
  else if j = 442 + 3 * (if S 9 = 24 then 23 else S 9) + 2 then z
  else if S 9 = 24 ∧ 442 ≤ j ∧ j < 511 then S (j + 3) else S j
theorem wdS_o {S : Int → Int} {x y z j : Int} (h9 : 0 ≤ S 9 ∧ S 9 ≤ 24) (h : j ≠ 9) (h' : ¬ (442 ≤ j ∧ j < 514)) : wdS S x y z j = S j := by
  unfold wdS
  rw [if_neg h]
  by_cases q : S 9 = 24
  · rw [if_pos q, if_neg (by omega), if_neg (by omega), if_neg (by omega), if_neg (by omega)]
  · rw [if_neg q, if_neg (by omega), if_neg (by omega), if_neg (by omega), if_neg (by omega)]
theorem wdS_eqS {S : Int → Int} {x y z : Int} (h9 : 0 ≤ S 9 ∧ S 9 ≤ 24) : EqS S (wdS S x y z) := fun j hj => by
  unfold Rel at hj
  exact wdS_o h9 (by omega) (by omega)
def canR (S : Int → Int) : Prop := setL S ≠ [] ∧ S 2 + sumG S (setL S) ≤ 200
/-- the set made, with the book left alone; a round -/
noncomputable def rdS (S : Int → Int) : Int → Int := fun j => if j = 8 then S 8 + 1 else mkS (wdS S (setL S).length (wS S) (S 2 + sumG S (setL S))) (setL S) j
set_option maxRecDepth 20000 in
theorem st_X10_writeDown_16 {E : jE} {G : jG} {I : jM} {q : jM → Prop} {m : Nat} {x1 : Int} (hm : WX10 G m) (hT : (∀ a j, jRg (G.2.1 a).1 (I a j)) → jIn x1 → ((511 ≤ x1 → jIn ((I (m + 1) 9) - 1) ∧ (∀ M4, M4 = jup I (m + 1) 9 ((I (m + 1) 9) - 1) → jIn (442 + (3 * ((I (m + 1) 9) - 1))) ∧ ((0 : Int) ≤ (442 + (3 * ((I (m + 1) 9) - 1))) ∧ ((442 + (3 * ((I (m + 1) 9) - 1))) : Int) < 22094) ∧ (∀ M8, M8 = jup M4 (m + 1) (442 + (3 * ((I (m + 1) 9) - 1))) (I m 20) → ((0 : Int) ≤ ((442 + (3 * ((I (m + 1) 9) - 1))) + 1) ∧ (((442 + (3 * ((I (m + 1) 9) - 1))) + 1) : Int) < 22094) ∧ (∀ M10, M10 = jup M8 (m + 1) ((442 + (3 * ((I (m + 1) 9) - 1))) + 1) (I m 21) → jRI E (jA m) kX10_longThen [VR m, VI (-1)] G M10 (fun r12 I11 => ((0 : Int) ≤ ((442 + (3 * ((I (m + 1) 9) - 1))) + 2) ∧ (((442 + (3 * ((I (m + 1) 9) - 1))) + 2) : Int) < 22094) ∧ (∀ M15, M15 = jup I11 (m + 1) ((442 + (3 * ((I (m + 1) 9) - 1))) + 2) r12 → jIn ((M15 (m + 1) 9) + 1) ∧ (∀ M19, M19 = jup M15 (m + 1) 9 ((M15 (m + 1) 9) + 1) → q M19))))))) ∧ (¬ 511 ≤ x1 → ((0 : Int) ≤ (x1 + 3) ∧ ((x1 + 3) : Int) < 22094) ∧ ((0 : Int) ≤ x1 ∧ (x1 : Int) < 22094) ∧ (∀ M22, M22 = jup I (m + 1) x1 (I (m + 1) (x1 + 3)) → jIn (x1 + 1) ∧ jOV E (jA m) kX10_writeDown 16 [VR m, VI (x1 + 1)] G M22 q)))) : jOV E (jA m) kX10_writeDown 16 [VR m, VI x1] G I q := by
  intro I0 hF
  refine jOk_mem (fun hI => ?_)
  refine jOk_in (i := 1) rfl (fun hx1 => ?_)
  replace hT := hT hI hx1
  refine r_iload_n dX10_writeDown_16 rfl (i := 1) rfl ?_
  refine r_sipush (n := 511) dX10_writeDown_17 (by decide +kernel) ?_
  refine r_icmp_ge (tgt := 43) dX10_writeDown_20 rfl hx1 ⟨by decide, by decide⟩ (fun hcc => ?_) (fun hcc => ?_)
  · replace hT := hT.1 hcc
    refine r_aload_n dX10_writeDown_43 rfl (i := 0) rfl ?_
    refine rr_getR (b := (m + 1)) dX10_writeDown_44 fg_X10_7 rfl rfl (wX10_l hm) (wX10_s hm) (wX10_r0 hm) ?_
    refine r_bipush (n := 9) dX10_writeDown_47 (by decide +kernel) ?_
    refine r_dup2 dX10_writeDown_49 rfl rfl ?_
    refine rr_iaload (v := I (m + 1) 9) dX10_writeDown_50 (wX10_l0 hm) (wX10_a0 hm) (by decide) ⟨by decide, by decide⟩ rfl ?_
    refine r_iconst (n := 1) dX10_writeDown_51 ?_
    refine r_isub dX10_writeDown_52 ?_
    obtain ⟨hc3, hT⟩ := hT
    refine rr_iastore dX10_writeDown_53 (wX10_l0 hm) (wX10_a0 hm) (by decide) ⟨by decide, by decide⟩ hc3 (fun M4 eM4 => ?_)
    have hFM4 := jFr_up hF eM4 (wX10_f hm 1 (by decide))
    replace hT := hT M4 eM4
    refine jOk_mem (fun hIM4 => ?_)
    refine r_sipush (n := 442) dX10_writeDown_54 (by decide +kernel) ?_
    refine r_iconst (n := 3) dX10_writeDown_57 ?_
    refine r_aload_n dX10_writeDown_58 rfl (i := 0) rfl ?_
    refine rr_getR (b := (m + 1)) dX10_writeDown_59 fg_X10_7 rfl rfl (wX10_l hm) (wX10_s hm) (wX10_r0 hm) ?_
    refine r_bipush (n := 9) dX10_writeDown_62 (by decide +kernel) ?_
    refine rr_iaload (v := (I (m + 1) 9) - 1) dX10_writeDown_64 (wX10_l0 hm) (wX10_a0 hm) (by decide) ⟨by decide, by decide⟩ (jr_eq eM4) ?_
    refine r_imul dX10_writeDown_65 ?_
    refine r_iadd dX10_writeDown_66 ?_
    obtain ⟨hc6, hT⟩ := hT
    refine rr_istore_n (i := 1) (ls' := [VR m, VI (442 + (3 * ((I (m + 1) 9) - 1)))]) dX10_writeDown_67 rfl (Nat.le_of_ble_eq_true rfl) rfl rfl hc6 ?_
    refine r_aload_n dX10_writeDown_68 rfl (i := 0) rfl ?_
    refine rr_getR (b := (m + 1)) dX10_writeDown_69 fg_X10_7 rfl rfl (wX10_l hm) (wX10_s hm) (wX10_r0 hm) ?_
    refine r_iload_n dX10_writeDown_72 rfl (i := 1) rfl ?_
    refine r_aload_n dX10_writeDown_73 rfl (i := 0) rfl ?_
    refine rr_getI (v := I m 20) dX10_writeDown_74 fg_X10_211 rfl (wX10_l hm) (wX10_s hm) (jr_na eM4 (by omega)) ?_
    obtain ⟨hc7, hT⟩ := hT
    refine rr_iastore dX10_writeDown_77 (wX10_l0 hm) (wX10_a0 hm) (by decide) hc7 (hI _ _).inR (fun M8 eM8 => ?_)
    have hFM8 := jFr_up hFM4 eM8 (wX10_f hm 1 (by decide))
    replace hT := hT M8 eM8
    refine jOk_mem (fun hIM8 => ?_)
    refine r_aload_n dX10_writeDown_78 rfl (i := 0) rfl ?_
    refine rr_getR (b := (m + 1)) dX10_writeDown_79 fg_X10_7 rfl rfl (wX10_l hm) (wX10_s hm) (wX10_r0 hm) ?_
    refine r_iload_n dX10_writeDown_82 rfl (i := 1) rfl ?_
    refine r_iconst (n := 1) dX10_writeDown_83 ?_
    refine r_iadd dX10_writeDown_84 ?_
    refine r_aload_n dX10_writeDown_85 rfl (i := 0) rfl ?_
    refine rr_getI (v := I m 21) dX10_writeDown_86 fg_X10_208 rfl (wX10_l hm) (wX10_s hm) ((jr_na eM8 (by omega)).trans (jr_na eM4 (by omega))) ?_
    obtain ⟨hc9, hT⟩ := hT
    refine rr_iastore dX10_writeDown_89 (wX10_l0 hm) (wX10_a0 hm) (by decide) hc9 (hI _ _).inR (fun M10 eM10 => ?_)
    have hFM10 := jFr_up hFM8 eM10 (wX10_f hm 1 (by decide))
    replace hT := hT M10 eM10
    refine jOk_mem (fun hIM10 => ?_)
    refine r_aload_n dX10_writeDown_90 rfl (i := 0) rfl ?_
    refine rr_getR (b := (m + 1)) dX10_writeDown_91 fg_X10_7 rfl rfl (wX10_l hm) (wX10_s hm) (wX10_r0 hm) ?_
    refine r_iload_n dX10_writeDown_94 rfl (i := 1) rfl ?_
    refine r_iconst (n := 2) dX10_writeDown_95 ?_
    refine r_iadd dX10_writeDown_96 ?_
    refine r_aload_n dX10_writeDown_97 rfl (i := 0) rfl ?_
    refine r_iconst (n := (-1)) dX10_writeDown_98 ?_
    refine rr_cVI (a := m) (as := [VI (-1)]) (st := [VI ((442 + (3 * ((I (m + 1) 9) - 1))) + 2), VR (m + 1)]) dX10_writeDown_99 mt_X10_longThen ml_X10_226 mi_X10_longThen rm_X10_writeDown_X10_longThen jz_X10_longThen ⟨Nat.zero_le _, Nat.zero_le _⟩ (Nat.le_of_ble_eq_true rfl) (wX10_l hm) (wX10_c hm) (jasI ⟨by decide, by decide⟩ jas0) hT (fun r12 I11 hc13 hFI11 hT => ?_)
    replace hFI11 := jFr_tr hFM10 hFI11
    refine jOk_mem (fun hI11 => ?_)
    obtain ⟨hc14, hT⟩ := hT
    refine rr_iastore dX10_writeDown_102 (wX10_l0 hm) (wX10_a0 hm) (by decide) hc14 hc13 (fun M15 eM15 => ?_)
    have hFM15 := jFr_up hFI11 eM15 (wX10_f hm 1 (by decide))
    replace hT := hT M15 eM15
    refine jOk_mem (fun hIM15 => ?_)
    refine r_aload_n dX10_writeDown_103 rfl (i := 0) rfl ?_
    refine rr_getR (b := (m + 1)) dX10_writeDown_104 fg_X10_7 rfl rfl (wX10_l hm) (wX10_s hm) (wX10_r0 hm) ?_
    refine r_bipush (n := 9) dX10_writeDown_107 (by decide +kernel) ?_
    refine r_dup2 dX10_writeDown_109 rfl rfl ?_
    refine rr_iaload (v := M15 (m + 1) 9) dX10_writeDown_110 (wX10_l0 hm) (wX10_a0 hm) (by decide) ⟨by decide, by decide⟩ rfl ?_
    refine r_iconst (n := 1) dX10_writeDown_111 ?_
    refine r_iadd dX10_writeDown_112 ?_
    obtain ⟨hc18, hT⟩ := hT
    refine rr_iastore dX10_writeDown_113 (wX10_l0 hm) (wX10_a0 hm) (by decide) ⟨by decide, by decide⟩ hc18 (fun M19 eM19 => ?_)
    have hFM19 := jFr_up hFM15 eM19 (wX10_f hm 1 (by decide))
    replace hT := hT M19 eM19
    refine jOk_mem (fun hIM19 => ?_)
    exact r_vret dX10_writeDown_114 rfl ⟨Nat.zero_le _, Nat.zero_le _⟩ ⟨rfl, rfl, hFM19, hT⟩
  · replace hT := hT.2 hcc
    refine r_aload_n dX10_writeDown_23 rfl (i := 0) rfl ?_
    refine rr_getR (b := (m + 1)) dX10_writeDown_24 fg_X10_7 rfl rfl (wX10_l hm) (wX10_s hm) (wX10_r0 hm) ?_
    refine r_iload_n dX10_writeDown_27 rfl (i := 1) rfl ?_
    refine r_aload_n dX10_writeDown_28 rfl (i := 0) rfl ?_
    refine rr_getR (b := (m + 1)) dX10_writeDown_29 fg_X10_7 rfl rfl (wX10_l hm) (wX10_s hm) (wX10_r0 hm) ?_
    refine r_iload_n dX10_writeDown_32 rfl (i := 1) rfl ?_
    refine r_iconst (n := 3) dX10_writeDown_33 ?_
    refine r_iadd dX10_writeDown_34 ?_
    obtain ⟨hc20, hT⟩ := hT
    refine rr_iaload (v := I (m + 1) (x1 + 3)) dX10_writeDown_35 (wX10_l0 hm) (wX10_a0 hm) (by decide) hc20 rfl ?_
    obtain ⟨hc21, hT⟩ := hT
    refine rr_iastore dX10_writeDown_36 (wX10_l0 hm) (wX10_a0 hm) (by decide) hc21 (hI _ _).inR (fun M22 eM22 => ?_)
    have hFM22 := jFr_up hF eM22 (wX10_f hm 1 (by decide))
    replace hT := hT M22 eM22
    refine jOk_mem (fun hIM22 => ?_)
    obtain ⟨hc23, hT⟩ := hT
    refine rr_iinc (i := 1) (ls' := [VR m, VI (x1 + 1)]) dX10_writeDown_37 rfl (Nat.le_of_ble_eq_true rfl) rfl rfl hc23 ?_
    refine r_goto (tgt := 16) dX10_writeDown_40 rfl ?_
    exact hT I0 hFM22
set_option maxRecDepth 20000 in
theorem st_X10_writeDown_0 {E : jE} {G : jG} {I : jM} {q : jM → Prop} {m : Nat} (hm : WX10 G m) (hT : (∀ a j, jRg (G.2.1 a).1 (I a j)) → ((¬ (I (m + 1) 9) = 24 → jIn (442 + (3 * (I (m + 1) 9))) ∧ ((0 : Int) ≤ (442 + (3 * (I (m + 1) 9))) ∧ ((442 + (3 * (I (m + 1) 9))) : Int) < 22094) ∧ (∀ M5, M5 = jup I (m + 1) (442 + (3 * (I (m + 1) 9))) (I m 20) → ((0 : Int) ≤ ((442 + (3 * (I (m + 1) 9))) + 1) ∧ (((442 + (3 * (I (m + 1) 9))) + 1) : Int) < 22094) ∧ (∀ M7, M7 = jup M5 (m + 1) ((442 + (3 * (I (m + 1) 9))) + 1) (I m 21) → jRI E (jA m) kX10_longThen [VR m, VI (-1)] G M7 (fun r9 I8 => ((0 : Int) ≤ ((442 + (3 * (I (m + 1) 9))) + 2) ∧ (((442 + (3 * (I (m + 1) 9))) + 2) : Int) < 22094) ∧ (∀ M12, M12 = jup I8 (m + 1) ((442 + (3 * (I (m + 1) 9))) + 2) r9 → jIn ((M12 (m + 1) 9) + 1) ∧ (∀ M16, M16 = jup M12 (m + 1) 9 ((M12 (m + 1) 9) + 1) → q M16)))))) ∧ ((I (m + 1) 9) = 24 → jOV E (jA m) kX10_writeDown 16 [VR m, VI 442] G I q))) : jOV E (jA m) kX10_writeDown 0 [VR m, VN] G I q := by
  intro I0 hF
  refine jOk_mem (fun hI => ?_)
  replace hT := hT hI 
  refine r_aload_n dX10_writeDown_0 rfl (i := 0) rfl ?_
  refine rr_getR (b := (m + 1)) dX10_writeDown_1 fg_X10_7 rfl rfl (wX10_l hm) (wX10_s hm) (wX10_r0 hm) ?_
  refine r_bipush (n := 9) dX10_writeDown_4 (by decide +kernel) ?_
  refine rr_iaload (v := I (m + 1) 9) dX10_writeDown_6 (wX10_l0 hm) (wX10_a0 hm) (by decide) ⟨by decide, by decide⟩ rfl ?_
  refine r_bipush (n := 24) dX10_writeDown_7 (by decide +kernel) ?_
  refine r_icmp_ne (tgt := 54) dX10_writeDown_9 rfl (hI _ _).inR ⟨by decide, by decide⟩ (fun hcc => ?_) (fun hcc => ?_)
  · replace hT := hT.1 hcc
    refine r_sipush (n := 442) dX10_writeDown_54 (by decide +kernel) ?_
    refine r_iconst (n := 3) dX10_writeDown_57 ?_
    refine r_aload_n dX10_writeDown_58 rfl (i := 0) rfl ?_
    refine rr_getR (b := (m + 1)) dX10_writeDown_59 fg_X10_7 rfl rfl (wX10_l hm) (wX10_s hm) (wX10_r0 hm) ?_
    refine r_bipush (n := 9) dX10_writeDown_62 (by decide +kernel) ?_
    refine rr_iaload (v := I (m + 1) 9) dX10_writeDown_64 (wX10_l0 hm) (wX10_a0 hm) (by decide) ⟨by decide, by decide⟩ rfl ?_
    refine r_imul dX10_writeDown_65 ?_
    refine r_iadd dX10_writeDown_66 ?_
    obtain ⟨hc3, hT⟩ := hT
    refine rr_istore_n (i := 1) (ls' := [VR m, VI (442 + (3 * (I (m + 1) 9)))]) dX10_writeDown_67 rfl (Nat.le_of_ble_eq_true rfl) rfl rfl hc3 ?_
    refine r_aload_n dX10_writeDown_68 rfl (i := 0) rfl ?_
    refine rr_getR (b := (m + 1)) dX10_writeDown_69 fg_X10_7 rfl rfl (wX10_l hm) (wX10_s hm) (wX10_r0 hm) ?_
    refine r_iload_n dX10_writeDown_72 rfl (i := 1) rfl ?_
    refine r_aload_n dX10_writeDown_73 rfl (i := 0) rfl ?_
    refine rr_getI (v := I m 20) dX10_writeDown_74 fg_X10_211 rfl (wX10_l hm) (wX10_s hm) rfl ?_
    obtain ⟨hc4, hT⟩ := hT
    refine rr_iastore dX10_writeDown_77 (wX10_l0 hm) (wX10_a0 hm) (by decide) hc4 (hI _ _).inR (fun M5 eM5 => ?_)
    have hFM5 := jFr_up hF eM5 (wX10_f hm 1 (by decide))
    replace hT := hT M5 eM5
    refine jOk_mem (fun hIM5 => ?_)
    refine r_aload_n dX10_writeDown_78 rfl (i := 0) rfl ?_
    refine rr_getR (b := (m + 1)) dX10_writeDown_79 fg_X10_7 rfl rfl (wX10_l hm) (wX10_s hm) (wX10_r0 hm) ?_
    refine r_iload_n dX10_writeDown_82 rfl (i := 1) rfl ?_
    refine r_iconst (n := 1) dX10_writeDown_83 ?_
    refine r_iadd dX10_writeDown_84 ?_
    refine r_aload_n dX10_writeDown_85 rfl (i := 0) rfl ?_
    refine rr_getI (v := I m 21) dX10_writeDown_86 fg_X10_208 rfl (wX10_l hm) (wX10_s hm) (jr_na eM5 (by omega)) ?_
    obtain ⟨hc6, hT⟩ := hT
    refine rr_iastore dX10_writeDown_89 (wX10_l0 hm) (wX10_a0 hm) (by decide) hc6 (hI _ _).inR (fun M7 eM7 => ?_)
    have hFM7 := jFr_up hFM5 eM7 (wX10_f hm 1 (by decide))
    replace hT := hT M7 eM7
    refine jOk_mem (fun hIM7 => ?_)
    refine r_aload_n dX10_writeDown_90 rfl (i := 0) rfl ?_
    refine rr_getR (b := (m + 1)) dX10_writeDown_91 fg_X10_7 rfl rfl (wX10_l hm) (wX10_s hm) (wX10_r0 hm) ?_
    refine r_iload_n dX10_writeDown_94 rfl (i := 1) rfl ?_
    refine r_iconst (n := 2) dX10_writeDown_95 ?_
    refine r_iadd dX10_writeDown_96 ?_
    refine r_aload_n dX10_writeDown_97 rfl (i := 0) rfl ?_
    refine r_iconst (n := (-1)) dX10_writeDown_98 ?_
    refine rr_cVI (a := m) (as := [VI (-1)]) (st := [VI ((442 + (3 * (I (m + 1) 9))) + 2), VR (m + 1)]) dX10_writeDown_99 mt_X10_longThen ml_X10_226 mi_X10_longThen rm_X10_writeDown_X10_longThen jz_X10_longThen ⟨Nat.zero_le _, Nat.zero_le _⟩ (Nat.le_of_ble_eq_true rfl) (wX10_l hm) (wX10_c hm) (jasI ⟨by decide, by decide⟩ jas0) hT (fun r9 I8 hc10 hFI8 hT => ?_)
    replace hFI8 := jFr_tr hFM7 hFI8
    refine jOk_mem (fun hI8 => ?_)
    obtain ⟨hc11, hT⟩ := hT
    refine rr_iastore dX10_writeDown_102 (wX10_l0 hm) (wX10_a0 hm) (by decide) hc11 hc10 (fun M12 eM12 => ?_)
    have hFM12 := jFr_up hFI8 eM12 (wX10_f hm 1 (by decide))
    replace hT := hT M12 eM12
    refine jOk_mem (fun hIM12 => ?_)
    refine r_aload_n dX10_writeDown_103 rfl (i := 0) rfl ?_
    refine rr_getR (b := (m + 1)) dX10_writeDown_104 fg_X10_7 rfl rfl (wX10_l hm) (wX10_s hm) (wX10_r0 hm) ?_
    refine r_bipush (n := 9) dX10_writeDown_107 (by decide +kernel) ?_
    refine r_dup2 dX10_writeDown_109 rfl rfl ?_
    refine rr_iaload (v := M12 (m + 1) 9) dX10_writeDown_110 (wX10_l0 hm) (wX10_a0 hm) (by decide) ⟨by decide, by decide⟩ rfl ?_
    refine r_iconst (n := 1) dX10_writeDown_111 ?_
    refine r_iadd dX10_writeDown_112 ?_
    obtain ⟨hc15, hT⟩ := hT
    refine rr_iastore dX10_writeDown_113 (wX10_l0 hm) (wX10_a0 hm) (by decide) ⟨by decide, by decide⟩ hc15 (fun M16 eM16 => ?_)
    have hFM16 := jFr_up hFM12 eM16 (wX10_f hm 1 (by decide))
    replace hT := hT M16 eM16
    refine jOk_mem (fun hIM16 => ?_)
    exact r_vret dX10_writeDown_114 rfl ⟨Nat.zero_le _, Nat.zero_le _⟩ ⟨rfl, rfl, hFM16, hT⟩
  · replace hT := hT.2 hcc
    refine r_sipush (n := 442) dX10_writeDown_12 (by decide +kernel) ?_
    refine rr_istore_n (i := 1) (ls' := [VR m, VI 442]) dX10_writeDown_15 rfl (Nat.le_of_ble_eq_true rfl) rfl rfl ⟨by decide, by decide⟩ ?_
    exact hT I0 hF
theorem en_X10_writeDown {E : jE} {G : jG} {I : jM} {q : jM → Prop} {m : Nat} (hm : WX10 G m) (hT : (∀ a j, jRg (G.2.1 a).1 (I a j)) → ((¬ (I (m + 1) 9) = 24 → jIn (442 + (3 * (I (m + 1) 9))) ∧ ((0 : Int) ≤ (442 + (3 * (I (m + 1) 9))) ∧ ((442 + (3 * (I (m + 1) 9))) : Int) < 22094) ∧ (∀ M5, M5 = jup I (m + 1) (442 + (3 * (I (m + 1) 9))) (I m 20) → ((0 : Int) ≤ ((442 + (3 * (I (m + 1) 9))) + 1) ∧ (((442 + (3 * (I (m + 1) 9))) + 1) : Int) < 22094) ∧ (∀ M7, M7 = jup M5 (m + 1) ((442 + (3 * (I (m + 1) 9))) + 1) (I m 21) → jRI E (jA m) kX10_longThen [VR m, VI (-1)] G M7 (fun r9 I8 => ((0 : Int) ≤ ((442 + (3 * (I (m + 1) 9))) + 2) ∧ (((442 + (3 * (I (m + 1) 9))) + 2) : Int) < 22094) ∧ (∀ M12, M12 = jup I8 (m + 1) ((442 + (3 * (I (m + 1) 9))) + 2) r9 → jIn ((M12 (m + 1) 9) + 1) ∧ (∀ M16, M16 = jup M12 (m + 1) 9 ((M12 (m + 1) 9) + 1) → q M16)))))) ∧ ((I (m + 1) 9) = 24 → jOV E (jA m) kX10_writeDown 16 [VR m, VI 442] G I q))) : jRV E (jA m) kX10_writeDown [VR m] G I q := jRun.of mt_X10_writeDown.2.2.2 1 rfl (fun _ => st_X10_writeDown_0 hm hT I (fun _ _ => rfl))
set_option maxRecDepth 20000 in
theorem st_X10_roundNow_0 {E : jE} {G : jG} {I : jM} {q : Int → jM → Prop} {m : Nat} (hm : WX10 G m) (hT : (∀ a j, jRg (G.2.1 a).1 (I a j)) → jRV E (jA m) kX10_layFindings [VR m] G I (fun I1 => (((I1 m 20) = 0 → q 0 I1) ∧ (¬ (I1 m 20) = 0 → jRI E (jA m) kX10_longThen [VR m, VI (-1)] G I1 (fun r3 I2 => ((r3 ≤ 200 → jRV E (jA m) kX10_writeDown [VR m] G I2 (fun I5 => jRV E (jA m) kX10_makeNow [VR m, VI (-1)] G I5 (fun I6 => jIn ((I6 (m + 1) 8) + 1) ∧ (∀ M10, M10 = jup I6 (m + 1) 8 ((I6 (m + 1) 8) + 1) → q 1 M10)))) ∧ (¬ r3 ≤ 200 → q 0 I2))))))) : jOI E (jA m) kX10_roundNow 0 [VR m] G I q := by
  intro I0 hF
  refine jOk_mem (fun hI => ?_)
  replace hT := hT hI 
  refine r_aload_n dX10_roundNow_0 rfl (i := 0) rfl ?_
  refine rr_cVV (a := m) (as := []) (st := []) dX10_roundNow_1 mt_X10_layFindings ml_X10_229 mi_X10_layFindings rm_X10_roundNow_X10_layFindings jz_X10_layFindings ⟨Nat.zero_le _, Nat.zero_le _⟩ (Nat.le_of_ble_eq_true rfl) (wX10_l hm) (wX10_c hm) jas0 hT (fun I1 hFI1 hT => ?_)
  replace hFI1 := jFr_tr hF hFI1
  refine jOk_mem (fun hI1 => ?_)
  refine r_aload_n dX10_roundNow_4 rfl (i := 0) rfl ?_
  refine rr_getI (v := I1 m 20) dX10_roundNow_5 fg_X10_211 rfl (wX10_l hm) (wX10_s hm) rfl ?_
  refine r_if_eq (tgt := 22) dX10_roundNow_8 rfl (hI1 _ _).inR (fun hcc => ?_) (fun hcc => ?_)
  · replace hT := hT.1 hcc
    refine r_iconst (n := 0) dX10_roundNow_22 ?_
    exact r_zret dX10_roundNow_23 rfl ⟨by decide, by decide⟩ ⟨Nat.zero_le _, Nat.zero_le _⟩ ⟨_, rfl, rfl, hFI1, hT⟩
  · replace hT := hT.2 hcc
    refine r_aload_n dX10_roundNow_11 rfl (i := 0) rfl ?_
    refine r_iconst (n := (-1)) dX10_roundNow_12 ?_
    refine rr_cVI (a := m) (as := [VI (-1)]) (st := []) dX10_roundNow_13 mt_X10_longThen ml_X10_226 mi_X10_longThen rm_X10_roundNow_X10_longThen jz_X10_longThen ⟨Nat.zero_le _, Nat.zero_le _⟩ (Nat.le_of_ble_eq_true rfl) (wX10_l hm) (wX10_c hm) (jasI ⟨by decide, by decide⟩ jas0) hT (fun r3 I2 hc4 hFI2 hT => ?_)
    replace hFI2 := jFr_tr hFI1 hFI2
    refine jOk_mem (fun hI2 => ?_)
    refine r_sipush (n := 200) dX10_roundNow_16 (by decide +kernel) ?_
    refine r_icmp_le (tgt := 24) dX10_roundNow_19 rfl hc4 ⟨by decide, by decide⟩ (fun hcc => ?_) (fun hcc => ?_)
    · replace hT := hT.1 hcc
      refine r_aload_n dX10_roundNow_24 rfl (i := 0) rfl ?_
      refine rr_cVV (a := m) (as := []) (st := []) dX10_roundNow_25 mt_X10_writeDown ml_X10_232 mi_X10_writeDown rm_X10_roundNow_X10_writeDown jz_X10_writeDown ⟨Nat.zero_le _, Nat.zero_le _⟩ (Nat.le_of_ble_eq_true rfl) (wX10_l hm) (wX10_c hm) jas0 hT (fun I5 hFI5 hT => ?_)
      replace hFI5 := jFr_tr hFI2 hFI5
      refine jOk_mem (fun hI5 => ?_)
      refine r_aload_n dX10_roundNow_28 rfl (i := 0) rfl ?_
      refine r_iconst (n := (-1)) dX10_roundNow_29 ?_
      refine rr_cVV (a := m) (as := [VI (-1)]) (st := []) dX10_roundNow_30 mt_X10_makeNow ml_X10_235 mi_X10_makeNow rm_X10_roundNow_X10_makeNow jz_X10_makeNow ⟨Nat.zero_le _, Nat.zero_le _⟩ (Nat.le_of_ble_eq_true rfl) (wX10_l hm) (wX10_c hm) (jasI ⟨by decide, by decide⟩ jas0) hT (fun I6 hFI6 hT => ?_)
      replace hFI6 := jFr_tr hFI5 hFI6
      refine jOk_mem (fun hI6 => ?_)
      refine r_aload_n dX10_roundNow_33 rfl (i := 0) rfl ?_
      refine rr_getR (b := (m + 1)) dX10_roundNow_34 fg_X10_7 rfl rfl (wX10_l hm) (wX10_s hm) (wX10_r0 hm) ?_
      refine r_bipush (n := 8) dX10_roundNow_37 (by decide +kernel) ?_
      refine r_dup2 dX10_roundNow_39 rfl rfl ?_
      refine rr_iaload (v := I6 (m + 1) 8) dX10_roundNow_40 (wX10_l0 hm) (wX10_a0 hm) (by decide) ⟨by decide, by decide⟩ rfl ?_
      refine r_iconst (n := 1) dX10_roundNow_41 ?_
      refine r_iadd dX10_roundNow_42 ?_
      obtain ⟨hc9, hT⟩ := hT
      refine rr_iastore dX10_roundNow_43 (wX10_l0 hm) (wX10_a0 hm) (by decide) ⟨by decide, by decide⟩ hc9 (fun M10 eM10 => ?_)
      have hFM10 := jFr_up hFI6 eM10 (wX10_f hm 1 (by decide))
      replace hT := hT M10 eM10
      refine jOk_mem (fun hIM10 => ?_)
      refine r_iconst (n := 1) dX10_roundNow_44 ?_
      exact r_zret dX10_roundNow_45 rfl ⟨by decide, by decide⟩ ⟨Nat.zero_le _, Nat.zero_le _⟩ ⟨_, rfl, rfl, hFM10, hT⟩
    · replace hT := hT.2 hcc
      refine r_iconst (n := 0) dX10_roundNow_22 ?_
      exact r_zret dX10_roundNow_23 rfl ⟨by decide, by decide⟩ ⟨Nat.zero_le _, Nat.zero_le _⟩ ⟨_, rfl, rfl, hFI2, hT⟩
theorem en_X10_roundNow {E : jE} {G : jG} {I : jM} {q : Int → jM → Prop} {m : Nat} (hm : WX10 G m) (hT : (∀ a j, jRg (G.2.1 a).1 (I a j)) → jRV E (jA m) kX10_layFindings [VR m] G I (fun I1 => (((I1 m 20) = 0 → q 0 I1) ∧ (¬ (I1 m 20) = 0 → jRI E (jA m) kX10_longThen [VR m, VI (-1)] G I1 (fun r3 I2 => ((r3 ≤ 200 → jRV E (jA m) kX10_writeDown [VR m] G I2 (fun I5 => jRV E (jA m) kX10_makeNow [VR m, VI (-1)] G I5 (fun I6 => jIn ((I6 (m + 1) 8) + 1) ∧ (∀ M10, M10 = jup I6 (m + 1) 8 ((I6 (m + 1) 8) + 1) → q 1 M10)))) ∧ (¬ r3 ≤ 200 → q 0 I2))))))) : jRI E (jA m) kX10_roundNow [VR m] G I q := jRun.of mt_X10_roundNow.2.2.2 0 rfl (fun _ => st_X10_roundNow_0 hm hT I (fun _ _ => rfl))
section RP
variable {E : jE} {G : jG} {m : Nat} {S : Int → Int} {I : jM}
theorem writeDown_end (hm : WX10 G m) (hQ : QW S) (hS : ∀ j, ¬ (442 ≤ j ∧ j < 514) → j ≠ 9 → I (m + 1) j = S j) (hFI : FI m S (bT S) I (FL S)) (hF : Fnd S (nT S) (bT S) (FL S)) (hN : NF S ≤ 1200) (hO : Cho m S (-1) (setL S) 0 I) : jRI E (jA m) kX10_longThen [VR m, VI (-1)] G I (fun x I' => x = S 2 + sumG S (setL S) ∧ I' = I) :=
  sp_X10_longThen hm hFI hF hN hQ (hS 2 (by omega) (by omega)) (setL_Ch hQ hF) hO (wS_sum hQ hF).2.2
theorem sp_X10_writeDown (hm : WX10 G m) (hQ : QW S) (h9 : 0 ≤ S 9 ∧ S 9 ≤ 24) (h : LFS m S I) : jRV E (jA m) kX10_writeDown [VR m] G I (fun I' => I' (m + 1) = wdS S (setL S).length (wS S) (S 2 + sumG S (setL S)) ∧ ∀ a j, a ≠ m + 1 → I' a j = I a j) := by
  have hS := h.1.1
  have hO := setL_Cho h
  obtain ⟨h1, h2, h3, h4, h5, h6, h7⟩ := h
  have keepO : ∀ I1 : jM, (∀ a j, a ≠ m + 1 → I1 a j = I a j) → FI m S (bT S) I1 (FL S) ∧ Cho m S (-1) (setL S) 0 I1 := by
    intro I1 hk
    have hw : WK m I I1 := fun a j ha _ _ _ _ _ => hk a j ha
    exact ⟨h2.wk hw, hO.wk hw⟩
  refine en_X10_writeDown hm (fun _ => ⟨fun q => ?_, fun q => ?_⟩)
  · rw [hS] at q ⊢
    refine ⟨⟨by omega, by omega⟩, ⟨by omega, by omega⟩, fun M5 e5 => ⟨⟨by omega, by omega⟩, fun M7 e7 => ?_⟩⟩
    have k7 : ∀ a j, a ≠ m + 1 → M7 a j = I a j := fun a j ha => by rw [jr_na e7 ha, jr_na e5 ha]
    refine (writeDown_end hm hQ (fun j j1 j2 => ?_) (keepO M7 k7).1 h3 h4 (keepO M7 k7).2).mono (fun x I8 _ _ hx => ?_)
    · rw [jr_nj e7 (by omega), jr_nj e5 (by omega), hS]
    obtain ⟨rfl, rfl⟩ := hx
    refine ⟨⟨by omega, by omega⟩, fun M12 e12 => ?_⟩
    have e9 : M12 (m + 1) 9 = S 9 := by rw [jr_nj e12 (by omega), jr_nj e7 (by omega), jr_nj e5 (by omega), hS]
    refine ⟨by rw [e9]; exact ⟨by omega, by omega⟩, fun M16 e16 => ⟨?_, fun a j ha => by rw [jr_na e16 ha, jr_na e12 ha]; exact k7 a j ha⟩⟩
    funext j
    unfold wdS
    rw [if_neg q, if_neg q]
    by_cases q9 : j = 9
    · rw [q9, jr_eq e16, e9, if_pos rfl]
    · rw [jr_nj e16 q9, if_neg q9]
      by_cases a0 : j = 442 + 3 * S 9
      · rw [if_pos a0, jr_nj e12 (by omega), jr_nj e7 (by omega), a0, jr_eq e5, h7]
      · rw [if_neg a0]
        by_cases a1 : j = 442 + 3 * S 9 + 1
        · rw [if_pos a1, jr_nj e12 (by omega), a1, jr_eq e7, h6]
        · rw [if_neg a1]
          by_cases a2 : j = 442 + 3 * S 9 + 2
          · rw [if_pos a2, a2, jr_eq e12]
          · rw [if_neg a2, jr_nj e12 a2, jr_nj e7 a1, jr_nj e5 a0, hS, if_neg (by omega)]
  · rw [hS] at q
    have loop : ∀ (d : Nat) (x : Int), 442 ≤ x → x + d = 511 → ∀ I1 : jM, (∀ j, I1 (m + 1) j = if 442 ≤ j ∧ j < x then S (j + 3) else S j) → (∀ a j, a ≠ m + 1 → I1 a j = I a j) → jOV E (jA m) kX10_writeDown 16 [VR m, VI x] G I1 (fun I' => I' (m + 1) = wdS S (setL S).length (wS S) (S 2 + sumG S (setL S)) ∧ ∀ a j, a ≠ m + 1 → I' a j = I a j) := by
      intro d
      induction d with
      | zero =>
        intro x x0 x1 I1 hj hW
        have e9 : I1 (m + 1) 9 = 24 := by rw [hj, if_neg (by omega)]; exact q
        refine st_X10_writeDown_16 hm (fun _ _ => ⟨fun _ => ?_, fun q => by omega⟩)
        rw [e9]
        refine ⟨⟨by omega, by omega⟩, fun M4 e4 => ⟨⟨by omega, by omega⟩, ⟨by omega, by omega⟩, fun M8 e8 => ⟨⟨by omega, by omega⟩, fun M10 e10 => ?_⟩⟩⟩
        have k10 : ∀ a j, a ≠ m + 1 → M10 a j = I a j := fun a j ha => by rw [jr_na e10 ha, jr_na e8 ha, jr_na e4 ha]; exact hW a j ha
        refine (writeDown_end hm hQ (fun j j1 j2 => ?_) (keepO M10 k10).1 h3 h4 (keepO M10 k10).2).mono (fun x I8 _ _ hx => ?_)
        · rw [jr_nj e10 (by omega), jr_nj e8 (by omega), jr_nj e4 (by omega), hj, if_neg (by omega)]
        obtain ⟨rfl, rfl⟩ := hx
        refine ⟨⟨by omega, by omega⟩, fun M15 e15 => ?_⟩
        have e9' : M15 (m + 1) 9 = 23 := by rw [jr_nj e15 (by omega), jr_nj e10 (by omega), jr_nj e8 (by omega), jr_eq e4]; rfl
        refine ⟨by rw [e9']; exact ⟨by omega, by omega⟩, fun M19 e19 => ⟨?_, fun a j ha => by rw [jr_na e19 ha, jr_na e15 ha]; exact k10 a j ha⟩⟩
        funext j
        unfold wdS
        rw [if_pos q, if_pos q]
        by_cases q9 : j = 9
        · rw [q9, jr_eq e19, e9', if_pos rfl]; rfl
        · rw [jr_nj e19 q9, if_neg q9]
          by_cases a0 : j = 442 + 3 * 23
          · rw [if_pos a0, jr_nj e15 (by omega), jr_nj e10 (by omega), a0]
            have : M8 (m + 1) (442 + 3 * 23) = I1 m 20 := jr_eq e8
            rw [this, hW _ _ (by omega), h7]
          · rw [if_neg a0]
            by_cases a1 : j = 442 + 3 * 23 + 1
            · rw [if_pos a1, jr_nj e15 (by omega), a1]
              have : I8 (m + 1) (442 + 3 * 23 + 1) = I1 m 21 := jr_eq e10
              rw [this, hW _ _ (by omega), h6]
            · rw [if_neg a1]
              by_cases a2 : j = 442 + 3 * 23 + 2
              · rw [if_pos a2, a2]
                exact jr_eq e15
              · rw [if_neg a2, jr_nj e15 (by omega), jr_nj e10 (by omega), jr_nj e8 (by omega), jr_nj e4 q9, hj]
                by_cases a3 : 442 ≤ j ∧ j < x
                · rw [if_pos a3, if_pos (by omega)]
                · rw [if_neg a3, if_neg (by omega)]
      | succ d ih =>
        intro x x0 x1 I1 hj hW
        refine st_X10_writeDown_16 hm (fun _ _ => ⟨fun q => by omega, fun _ => ⟨⟨by omega, by omega⟩, ⟨by omega, by omega⟩, fun M22 e22 => ⟨⟨by omega, by omega⟩, ?_⟩⟩⟩)
        refine ih (x + 1) (by omega) (by omega) M22 (fun j => ?_) (fun a j ha => by rw [jr_na e22 ha]; exact hW a j ha)
        by_cases a0 : j = x
        · rw [a0, jr_eq e22, hj, if_neg (by omega), if_pos (by omega)]
        · rw [jr_nj e22 a0, hj]
          by_cases a3 : 442 ≤ j ∧ j < x
          · rw [if_pos a3, if_pos (by omega)]
          · rw [if_neg a3, if_neg (by omega)]
    exact loop 69 442 (by omega) (by omega) I (fun j => by rw [hS, if_neg (by omega)]) (fun _ _ _ => rfl)
/-- what the calls that lay things leave alone -/
def WZ (m : Nat) (I I' : jM) : Prop := ∀ a j, (a = m + 2 ∨ a = m + 20 ∨ (a = m ∧ (j = 26 ∨ j = 31 ∨ j = 32))) → I' a j = I a j
theorem WZ.rfl {I : jM} : WZ m I I := fun _ _ _ => Eq.refl _
theorem WZ.trans {I I' I'' : jM} (h : WZ m I I') (h' : WZ m I' I'') : WZ m I I'' := fun a j ha => (h' a j ha).trans (h a j ha)
theorem WFd.wz {I I' : jM} (h : WFd m I I') : WZ m I I' := fun a j ha => h a j (by omega) (by omega)
theorem WK.wz {I I' : jM} (h : WK m I I') : WZ m I I' := fun a j ha => h a j (by omega) (by omega) (by omega) (by omega) (by omega) (by omega)
theorem WFd.a {I I' : jM} (h : WFd m I I') : I' (m + 1) = I (m + 1) := by
  funext j
  exact h _ _ (by omega) (by omega)
theorem w1z {I I' : jM} (h : ∀ a j, a ≠ m + 1 → I' a j = I a j) : WZ m I I' := fun a j ha => h a j (by omega)
theorem sp_X10_roundNow (hm : WX10 G m) (hS : I (m + 1) = S) (hQ : QW S) (h9 : 0 ≤ S 9 ∧ S 9 ≤ 24) (h8 : 0 ≤ S 8 ∧ S 8 ≤ 1000000000) (hsp : ∀ j, 410 ≤ j → j < 426 → -900000000 ≤ S j ∧ S j ≤ 900000000) : jRI E (jA m) kX10_roundNow [VR m] G I (fun x I' => x = jI (canR S) ∧ WZ m I I' ∧ (¬ canR S → I' (m + 1) = S) ∧ (canR S → I' (m + 1) = rdS S)) := by
  refine en_X10_roundNow hm (fun _ => ?_)
  refine (sp_X10_layFS hm hS hQ).mono (fun I1 _ g => ?_)
  obtain ⟨hW, hL⟩ := g
  have hF := hL.2.2.1
  have e1 : I1 (m + 1) = S := hL.1.1
  have e20 := hL.2.2.2.2.2.2
  refine ⟨fun q => ⟨?_, hW.wz, fun _ => e1, fun g => ?_⟩, fun q => ?_⟩
  · have : setL S = [] := List.length_eq_zero_iff.mp (by omega)
    exact (jI_neg (fun g => g.1 this)).symm
  · have : setL S = [] := List.length_eq_zero_iff.mp (by omega)
    exact absurd this g.1
  · have hne : setL S ≠ [] := fun e => q (by rw [e20, e]; rfl)
    refine (writeDown_end hm hQ (fun j _ _ => by rw [e1]) hL.2.1 hF hL.2.2.2.1 (setL_Cho hL)).mono (fun x I2 _ _ hx => ?_)
    obtain ⟨rfl, rfl⟩ := hx
    refine ⟨fun q2 => ?_, fun q2 => ⟨(jI_neg (fun g => q2 g.2)).symm, hW.wz, fun _ => e1, fun g => absurd g.2 q2⟩⟩
    have hcan : canR S := ⟨hne, q2⟩
    refine (sp_X10_writeDown hm hQ h9 hL).mono (fun I5 _ g => ?_)
    obtain ⟨g1, g2⟩ := g
    have hE := wdS_eqS (S := S) (x := (setL S).length) (y := wS S) (z := S 2 + sumG S (setL S)) h9
    generalize hS1 : wdS S (setL S).length (wS S) (S 2 + sumG S (setL S)) = S1 at g1 hE
    have hQ1 := QW_congr hE hQ
    have hL1 : LFS m S1 I5 := LFS_congr hE hQ hL g1 (fun a j ha => g2 a j (by omega))
    have hC : Ch S 0 0 (setL S) := setL_Ch hQ hF
    have hC1 : Ch S1 0 0 (setL S) := Ch_congr hE hQ hF _ _ _ hC
    have hl1 : (newL S1 (setL S) 0).length ≤ 200 := by
      rw [newL_congr hE hQ hF _ 0 0 (by omega) (by omega) hC]
      have := newL_len _ _ _ hC
      omega
    have hO1 : Cho m S1 (-1) (setL S) 0 I5 := by
      have := setL_Cho hL1
      rw [setL_congr hE hQ hF] at this
      exact this
    refine (sp_X10_makeNow hm hQ1 hL1 hC1 (wS_sum hQ hF).2.2 hl1 (fun j j0 j1 => by rw [hE.at (by omega)]; exact hsp j j0 j1) hO1).mono (fun I6 _ g => ?_)
    obtain ⟨k1, k2⟩ := g
    have e8 : I6 (m + 1) 8 = S 8 := by
      rw [k1, mkS_o (by omega) (by omega) (by omega), ← hS1, wdS_o h9 (by omega) (by omega)]
    refine ⟨by rw [e8]; exact ⟨by omega, by omega⟩, fun M10 e10 => ⟨(jI_pos hcan).symm, (hW.wz.trans (w1z g2)).trans (k2.wz.trans (w1z (fun a j ha => jr_na e10 ha))), fun q => absurd hcan q, fun _ => ?_⟩⟩
    funext j
    unfold rdS
    rw [hS1]
    by_cases q8 : j = 8
    · rw [q8, jr_eq e10, e8, if_pos rfl]
    · rw [jr_nj e10 q8, if_neg q8, k1]
end RP
