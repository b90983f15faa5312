/-! ===== the class: the cure ===== -/
set_option maxRecDepth 20000 in
theorem st_J6_bitCount_0f7a4_0 {E : jE} {A : Nat → Prop} {G : jG} {I : jM} {q : Int → jM → Prop} {x0 : Int}  (hT : (∀ a j, jRg (G.2.1 a).1 (I a j)) → jIn x0 → jIn (x0 - (jand (jushr x0 1) 1431655765)) ∧ jIn ((jand (x0 - (jand (jushr x0 1) 1431655765)) 858993459) + (jand (jushr (x0 - (jand (jushr x0 1) 1431655765)) 2) 858993459)) ∧ jIn ((jand (((jand (x0 - (jand (jushr x0 1) 1431655765)) 858993459) + (jand (jushr (x0 - (jand (jushr x0 1) 1431655765)) 2) 858993459)) + (jushr ((jand (x0 - (jand (jushr x0 1) 1431655765)) 858993459) + (jand (jushr (x0 - (jand (jushr x0 1) 1431655765)) 2) 858993459)) 4)) 252645135) + (jushr (jand (((jand (x0 - (jand (jushr x0 1) 1431655765)) 858993459) + (jand (jushr (x0 - (jand (jushr x0 1) 1431655765)) 2) 858993459)) + (jushr ((jand (x0 - (jand (jushr x0 1) 1431655765)) 858993459) + (jand (jushr (x0 - (jand (jushr x0 1) 1431655765)) 2) 858993459)) 4)) 252645135) 8)) ∧ jIn (((jand (((jand (x0 - (jand (jushr x0 1) 1431655765)) 858993459) + (jand (jushr (x0 - (jand (jushr x0 1) 1431655765)) 2) 858993459)) + (jushr ((jand (x0 - (jand (jushr x0 1) 1431655765)) 858993459) + (jand (jushr (x0 - (jand (jushr x0 1) 1431655765)) 2) 858993459)) 4)) 252645135) + (jushr (jand (((jand (x0 - (jand (jushr x0 1) 1431655765)) 858993459) + (jand (jushr (x0 - (jand (jushr x0 1) 1431655765)) 2) 858993459)) + (jushr ((jand (x0 - (jand (jushr x0 1) 1431655765)) 858993459) + (jand (jushr (x0 - (jand (jushr x0 1) 1431655765)) 2) 858993459)) 4)) 252645135) 8)) + (jushr ((jand (((jand (x0 - (jand (jushr x0 1) 1431655765)) 858993459) + (jand (jushr (x0 - (jand (jushr x0 1) 1431655765)) 2) 858993459)) + (jushr ((jand (x0 - (jand (jushr x0 1) 1431655765)) 858993459) + (jand (jushr (x0 - (jand (jushr x0 1) 1431655765)) 2) 858993459)) 4)) 252645135) + (jushr (jand (((jand (x0 - (jand (jushr x0 1) 1431655765)) 858993459) + (jand (jushr (x0 - (jand (jushr x0 1) 1431655765)) 2) 858993459)) + (jushr ((jand (x0 - (jand (jushr x0 1) 1431655765)) 858993459) + (jand (jushr (x0 - (jand (jushr x0 1) 1431655765)) 2) 858993459)) 4)) 252645135) 8)) 16)) ∧ q (jand (((jand (((jand (x0 - (jand (jushr x0 1) 1431655765)) 858993459) + (jand (jushr (x0 - (jand (jushr x0 1) 1431655765)) 2) 858993459)) + (jushr ((jand (x0 - (jand (jushr x0 1) 1431655765)) 858993459) + (jand (jushr (x0 - (jand (jushr x0 1) 1431655765)) 2) 858993459)) 4)) 252645135) + (jushr (jand (((jand (x0 - (jand (jushr x0 1) 1431655765)) 858993459) + (jand (jushr (x0 - (jand (jushr x0 1) 1431655765)) 2) 858993459)) + (jushr ((jand (x0 - (jand (jushr x0 1) 1431655765)) 858993459) + (jand (jushr (x0 - (jand (jushr x0 1) 1431655765)) 2) 858993459)) 4)) 252645135) 8)) + (jushr ((jand (((jand (x0 - (jand (jushr x0 1) 1431655765)) 858993459) + (jand (jushr (x0 - (jand (jushr x0 1) 1431655765)) 2) 858993459)) + (jushr ((jand (x0 - (jand (jushr x0 1) 1431655765)) 858993459) + (jand (jushr (x0 - (jand (jushr x0 1) 1431655765)) 2) 858993459)) 4)) 252645135) + (jushr (jand (((jand (x0 - (jand (jushr x0 1) 1431655765)) 858993459) + (jand (jushr (x0 - (jand (jushr x0 1) 1431655765)) 2) 858993459)) + (jushr ((jand (x0 - (jand (jushr x0 1) 1431655765)) 858993459) + (jand (jushr (x0 - (jand (jushr x0 1) 1431655765)) 2) 858993459)) 4)) 252645135) 8)) 16)) 63) I) : jOI E A kJ6_bitCount_0f7a4 0 [VI x0] G I q := by
  intro I0 hF
  refine jOk_mem (fun hI => ?_)
  refine jOk_in (i := 0) rfl (fun hx0 => ?_)
  replace hT := hT hI hx0
  refine r_iload_n dJ6_bitCount_0f7a4_0 rfl (i := 0) rfl ?_
  refine r_iload_n dJ6_bitCount_0f7a4_1 rfl (i := 0) rfl ?_
  refine r_iconst (n := 1) dJ6_bitCount_0f7a4_2 ?_
  refine r_iushr dJ6_bitCount_0f7a4_3 ?_
  refine r_ldcw (n := 1431655765) dJ6_bitCount_0f7a4_4 cn_J6_265 ?_
  refine r_iand dJ6_bitCount_0f7a4_7 ?_
  refine r_isub dJ6_bitCount_0f7a4_8 ?_
  obtain ⟨hc1, hT⟩ := hT
  refine rr_istore_n (i := 0) (ls' := [VI (x0 - (jand (jushr x0 1) 1431655765))]) dJ6_bitCount_0f7a4_9 rfl (Nat.le_of_ble_eq_true rfl) rfl rfl hc1 ?_
  refine r_iload_n dJ6_bitCount_0f7a4_10 rfl (i := 0) rfl ?_
  refine r_ldcw (n := 858993459) dJ6_bitCount_0f7a4_11 cn_J6_266 ?_
  refine r_iand dJ6_bitCount_0f7a4_14 ?_
  refine r_iload_n dJ6_bitCount_0f7a4_15 rfl (i := 0) rfl ?_
  refine r_iconst (n := 2) dJ6_bitCount_0f7a4_16 ?_
  refine r_iushr dJ6_bitCount_0f7a4_17 ?_
  refine r_ldcw (n := 858993459) dJ6_bitCount_0f7a4_18 cn_J6_266 ?_
  refine r_iand dJ6_bitCount_0f7a4_21 ?_
  refine r_iadd dJ6_bitCount_0f7a4_22 ?_
  obtain ⟨hc2, hT⟩ := hT
  refine rr_istore_n (i := 0) (ls' := [VI ((jand (x0 - (jand (jushr x0 1) 1431655765)) 858993459) + (jand (jushr (x0 - (jand (jushr x0 1) 1431655765)) 2) 858993459))]) dJ6_bitCount_0f7a4_23 rfl (Nat.le_of_ble_eq_true rfl) rfl rfl hc2 ?_
  refine r_iload_n dJ6_bitCount_0f7a4_24 rfl (i := 0) rfl ?_
  refine r_iload_n dJ6_bitCount_0f7a4_25 rfl (i := 0) rfl ?_
  refine r_iconst (n := 4) dJ6_bitCount_0f7a4_26 ?_
  refine r_iushr dJ6_bitCount_0f7a4_27 ?_
  refine r_iadd dJ6_bitCount_0f7a4_28 ?_
  refine r_ldcw (n := 252645135) dJ6_bitCount_0f7a4_29 cn_J6_267 ?_
  refine r_iand dJ6_bitCount_0f7a4_32 ?_
  refine rr_istore_n (i := 0) (ls' := [VI (jand (((jand (x0 - (jand (jushr x0 1) 1431655765)) 858993459) + (jand (jushr (x0 - (jand (jushr x0 1) 1431655765)) 2) 858993459)) + (jushr ((jand (x0 - (jand (jushr x0 1) 1431655765)) 858993459) + (jand (jushr (x0 - (jand (jushr x0 1) 1431655765)) 2) 858993459)) 4)) 252645135)]) dJ6_bitCount_0f7a4_33 rfl (Nat.le_of_ble_eq_true rfl) rfl rfl (j32_in _) ?_
  refine r_iload_n dJ6_bitCount_0f7a4_34 rfl (i := 0) rfl ?_
  refine r_iload_n dJ6_bitCount_0f7a4_35 rfl (i := 0) rfl ?_
  refine r_bipush (n := 8) dJ6_bitCount_0f7a4_36 (by decide +kernel) ?_
  refine r_iushr dJ6_bitCount_0f7a4_38 ?_
  refine r_iadd dJ6_bitCount_0f7a4_39 ?_
  obtain ⟨hc3, hT⟩ := hT
  refine rr_istore_n (i := 0) (ls' := [VI ((jand (((jand (x0 - (jand (jushr x0 1) 1431655765)) 858993459) + (jand (jushr (x0 - (jand (jushr x0 1) 1431655765)) 2) 858993459)) + (jushr ((jand (x0 - (jand (jushr x0 1) 1431655765)) 858993459) + (jand (jushr (x0 - (jand (jushr x0 1) 1431655765)) 2) 858993459)) 4)) 252645135) + (jushr (jand (((jand (x0 - (jand (jushr x0 1) 1431655765)) 858993459) + (jand (jushr (x0 - (jand (jushr x0 1) 1431655765)) 2) 858993459)) + (jushr ((jand (x0 - (jand (jushr x0 1) 1431655765)) 858993459) + (jand (jushr (x0 - (jand (jushr x0 1) 1431655765)) 2) 858993459)) 4)) 252645135) 8))]) dJ6_bitCount_0f7a4_40 rfl (Nat.le_of_ble_eq_true rfl) rfl rfl hc3 ?_
  refine r_iload_n dJ6_bitCount_0f7a4_41 rfl (i := 0) rfl ?_
  refine r_iload_n dJ6_bitCount_0f7a4_42 rfl (i := 0) rfl ?_
  refine r_bipush (n := 16) dJ6_bitCount_0f7a4_43 (by decide +kernel) ?_
  refine r_iushr dJ6_bitCount_0f7a4_45 ?_
  refine r_iadd dJ6_bitCount_0f7a4_46 ?_
  obtain ⟨hc4, hT⟩ := hT
  refine rr_istore_n (i := 0) (ls' := [VI (((jand (((jand (x0 - (jand (jushr x0 1) 1431655765)) 858993459) + (jand (jushr (x0 - (jand (jushr x0 1) 1431655765)) 2) 858993459)) + (jushr ((jand (x0 - (jand (jushr x0 1) 1431655765)) 858993459) + (jand (jushr (x0 - (jand (jushr x0 1) 1431655765)) 2) 858993459)) 4)) 252645135) + (jushr (jand (((jand (x0 - (jand (jushr x0 1) 1431655765)) 858993459) + (jand (jushr (x0 - (jand (jushr x0 1) 1431655765)) 2) 858993459)) + (jushr ((jand (x0 - (jand (jushr x0 1) 1431655765)) 858993459) + (jand (jushr (x0 - (jand (jushr x0 1) 1431655765)) 2) 858993459)) 4)) 252645135) 8)) + (jushr ((jand (((jand (x0 - (jand (jushr x0 1) 1431655765)) 858993459) + (jand (jushr (x0 - (jand (jushr x0 1) 1431655765)) 2) 858993459)) + (jushr ((jand (x0 - (jand (jushr x0 1) 1431655765)) 858993459) + (jand (jushr (x0 - (jand (jushr x0 1) 1431655765)) 2) 858993459)) 4)) 252645135) + (jushr (jand (((jand (x0 - (jand (jushr x0 1) 1431655765)) 858993459) + (jand (jushr (x0 - (jand (jushr x0 1) 1431655765)) 2) 858993459)) + (jushr ((jand (x0 - (jand (jushr x0 1) 1431655765)) 858993459) + (jand (jushr (x0 - (jand (jushr x0 1) 1431655765)) 2) 858993459)) 4)) 252645135) 8)) 16))]) dJ6_bitCount_0f7a4_47 rfl (Nat.le_of_ble_eq_true rfl) rfl rfl hc4 ?_
  refine r_iload_n dJ6_bitCount_0f7a4_48 rfl (i := 0) rfl ?_
  refine r_bipush (n := 63) dJ6_bitCount_0f7a4_49 (by decide +kernel) ?_
  refine r_iand dJ6_bitCount_0f7a4_51 ?_
  exact r_iret dJ6_bitCount_0f7a4_52 rfl (j32_in _) ⟨Nat.zero_le _, Nat.zero_le _⟩ ⟨_, rfl, rfl, hF, hT⟩
theorem en_J6_bitCount_0f7a4 {E : jE} {A : Nat → Prop} {G : jG} {I : jM} {q : Int → jM → Prop} {x0 : Int}  (hT : (∀ a j, jRg (G.2.1 a).1 (I a j)) → jIn x0 → jIn (x0 - (jand (jushr x0 1) 1431655765)) ∧ jIn ((jand (x0 - (jand (jushr x0 1) 1431655765)) 858993459) + (jand (jushr (x0 - (jand (jushr x0 1) 1431655765)) 2) 858993459)) ∧ jIn ((jand (((jand (x0 - (jand (jushr x0 1) 1431655765)) 858993459) + (jand (jushr (x0 - (jand (jushr x0 1) 1431655765)) 2) 858993459)) + (jushr ((jand (x0 - (jand (jushr x0 1) 1431655765)) 858993459) + (jand (jushr (x0 - (jand (jushr x0 1) 1431655765)) 2) 858993459)) 4)) 252645135) + (jushr (jand (((jand (x0 - (jand (jushr x0 1) 1431655765)) 858993459) + (jand (jushr (x0 - (jand (jushr x0 1) 1431655765)) 2) 858993459)) + (jushr ((jand (x0 - (jand (jushr x0 1) 1431655765)) 858993459) + (jand (jushr (x0 - (jand (jushr x0 1) 1431655765)) 2) 858993459)) 4)) 252645135) 8)) ∧ jIn (((jand (((jand (x0 - (jand (jushr x0 1) 1431655765)) 858993459) + (jand (jushr (x0 - (jand (jushr x0 1) 1431655765)) 2) 858993459)) + (jushr ((jand (x0 - (jand (jushr x0 1) 1431655765)) 858993459) + (jand (jushr (x0 - (jand (jushr x0 1) 1431655765)) 2) 858993459)) 4)) 252645135) + (jushr (jand (((jand (x0 - (jand (jushr x0 1) 1431655765)) 858993459) + (jand (jushr (x0 - (jand (jushr x0 1) 1431655765)) 2) 858993459)) + (jushr ((jand (x0 - (jand (jushr x0 1) 1431655765)) 858993459) + (jand (jushr (x0 - (jand (jushr x0 1) 1431655765)) 2) 858993459)) 4)) 252645135) 8)) + (jushr ((jand (((jand (x0 - (jand (jushr x0 1) 1431655765)) 858993459) + (jand (jushr (x0 - (jand (jushr x0 1) 1431655765)) 2) 858993459)) + (jushr ((jand (x0 - (jand (jushr x0 1) 1431655765)) 858993459) + (jand (jushr (x0 - (jand (jushr x0 1) 1431655765)) 2) 858993459)) 4)) 252645135) + (jushr (jand (((jand (x0 - (jand (jushr x0 1) 1431655765)) 858993459) + (jand (jushr (x0 - (jand (jushr x0 1) 1431655765)) 2) 858993459)) + (jushr ((jand (x0 - (jand (jushr x0 1) 1431655765)) 858993459) + (jand (jushr (x0 - (jand (jushr x0 1) 1431655765)) 2) 858993459)) 4)) 252645135) 8)) 16)) ∧ q (jand (((jand (((jand (x0 - (jand (jushr x0 1) 1431655765)) 858993459) + (jand (jushr (x0 - (jand (jushr x0 1) 1431655765)) 2) 858993459)) + (jushr ((jand (x0 - (jand (jushr x0 1) 1431655765)) 858993459) + (jand (jushr (x0 - (jand (jushr x0 1) 1431655765)) 2) 858993459)) 4)) 252645135) + (jushr (jand (((jand (x0 - (jand (jushr x0 1) 1431655765)) 858993459) + (jand (jushr (x0 - (jand (jushr x0 1) 1431655765)) 2) 858993459)) + (jushr ((jand (x0 - (jand (jushr x0 1) 1431655765)) 858993459) + (jand (jushr (x0 - (jand (jushr x0 1) 1431655765)) 2) 858993459)) 4)) 252645135) 8)) + (jushr ((jand (((jand (x0 - (jand (jushr x0 1) 1431655765)) 858993459) + (jand (jushr (x0 - (jand (jushr x0 1) 1431655765)) 2) 858993459)) + (jushr ((jand (x0 - (jand (jushr x0 1) 1431655765)) 858993459) + (jand (jushr (x0 - (jand (jushr x0 1) 1431655765)) 2) 858993459)) 4)) 252645135) + (jushr (jand (((jand (x0 - (jand (jushr x0 1) 1431655765)) 858993459) + (jand (jushr (x0 - (jand (jushr x0 1) 1431655765)) 2) 858993459)) + (jushr ((jand (x0 - (jand (jushr x0 1) 1431655765)) 858993459) + (jand (jushr (x0 - (jand (jushr x0 1) 1431655765)) 2) 858993459)) 4)) 252645135) 8)) 16)) 63) I) : jRI E A kJ6_bitCount_0f7a4 [VI x0] G I q := jRun.of mt_J6_bitCount_0f7a4.2.2.2 0 rfl (fun _ => st_J6_bitCount_0f7a4_0  hT I (fun _ _ => rfl))
set_option maxRecDepth 20000 in
theorem st_X9_cure_45 {E : jE} {G : jG} {I : jM} {q : Int → jM → Prop} {m : Nat} {x1 : Int} {x2 : Int} (hm : WX9 G m) (hT : (∀ a j, jRg (G.2.1 a).1 (I a j)) → jIn x1 → jIn x2 → ((64 ≤ x2 → jIn (x1 + 1) ∧ jOI E jB kX9_cure 29 [VR m, VI (x1 + 1), VN] G I q) ∧ (¬ 64 ≤ x2 → ((¬ (I m 14) = (-1) → jIn (x1 + 1) ∧ jOI E jB kX9_cure 29 [VR m, VI (x1 + 1), VN] G I q) ∧ ((I m 14) = (-1) → jRI E jB kJ6_bitCount_0f7a4 [VI x2] G I (fun r4 I3 => ((¬ r4 = x1 → jIn (x2 + 1) ∧ jOI E jB kX9_cure 45 [VR m, VI x1, VI (x2 + 1)] G I3 q) ∧ (r4 = x1 → ((¬ (jand x2 (jxor (I3 (m + 195) 2) (-1))) = 0 → jIn (x2 + 1) ∧ jOI E jB kX9_cure 45 [VR m, VI x1, VI (x2 + 1)] G I3 q) ∧ ((jand x2 (jxor (I3 (m + 195) 2) (-1))) = 0 → jRV E jB kX3_travel [VR (m + 6), VR (m + 195), VI (jand (I3 (m + 195) 2) (jxor x2 (-1))), VR (m + 592)] G I3 (fun I8 => ((¬ (I8 (m + 6) 4) = 0 → (∀ M9, M9 = jup I8 m 14 (-1) → jIn (x2 + 1) ∧ jOI E jB kX9_cure 45 [VR m, VI x1, VI (x2 + 1)] G M9 q)) ∧ ((I8 (m + 6) 4) = 0 → (∀ M11, M11 = jup I8 m 14 x2 → jIn (x2 + 1) ∧ jOI E jB kX9_cure 45 [VR m, VI x1, VI (x2 + 1)] G M11 q)))))))))))))) : jOI E jB kX9_cure 45 [VR m, VI x1, VI x2] G I q := by
  intro I0 hF
  refine jOk_mem (fun hI => ?_)
  refine jOk_in (i := 1) rfl (fun hx1 => ?_)
  refine jOk_in (i := 2) rfl (fun hx2 => ?_)
  replace hT := hT hI hx1 hx2
  refine r_iload_n dX9_cure_45 rfl (i := 2) rfl ?_
  refine r_bipush (n := 64) dX9_cure_46 (by decide +kernel) ?_
  refine r_icmp_ge (tgt := 132) dX9_cure_48 rfl hx2 ⟨by decide, by decide⟩ (fun hcc => ?_) (fun hcc => ?_)
  · replace hT := hT.1 hcc
    obtain ⟨hc1, hT⟩ := hT
    refine rr_iinc (i := 1) (ls' := [VR m, VI (x1 + 1), VI x2]) dX9_cure_132 rfl (Nat.le_of_ble_eq_true rfl) rfl rfl hc1 ?_
    refine r_goto (tgt := 29) dX9_cure_135 rfl ?_
    exact jOk_le (ls' := [VR m, VI (x1 + 1), VN]) ⟨Or.inr rfl, Or.inr rfl, Or.inl rfl, trivial⟩ (hT I0 hF)
  · replace hT := hT.2 hcc
    refine r_aload_n dX9_cure_51 rfl (i := 0) rfl ?_
    refine rr_getI (v := I m 14) dX9_cure_52 fg_X9_377 rfl (wX9_l hm) (wX9_s hm) rfl ?_
    refine r_iconst (n := (-1)) dX9_cure_55 ?_
    refine r_icmp_ne (tgt := 132) dX9_cure_56 rfl (hI _ _).inR ⟨by decide, by decide⟩ (fun hcc => ?_) (fun hcc => ?_)
    · replace hT := hT.1 hcc
      obtain ⟨hc2, hT⟩ := hT
      refine rr_iinc (i := 1) (ls' := [VR m, VI (x1 + 1), VI x2]) dX9_cure_132 rfl (Nat.le_of_ble_eq_true rfl) rfl rfl hc2 ?_
      refine r_goto (tgt := 29) dX9_cure_135 rfl ?_
      exact jOk_le (ls' := [VR m, VI (x1 + 1), VN]) ⟨Or.inr rfl, Or.inr rfl, Or.inl rfl, trivial⟩ (hT I0 hF)
    · replace hT := hT.2 hcc
      refine r_iload_n dX9_cure_59 rfl (i := 2) rfl ?_
      refine rr_cSI (as := [VI x2]) (st := []) dX9_cure_60 mt_J6_bitCount_0f7a4 ml_X9_383 ms_J6_bitCount_0f7a4 rm_X9_cure_J6_bitCount_0f7a4 jz_J6_bitCount_0f7a4 ⟨Nat.zero_le _, Nat.zero_le _⟩ (Nat.le_of_ble_eq_true rfl) (jasI hx2 jas0) hT (fun r4 I3 hc5 hFI3 hT => ?_)
      replace hFI3 := jFr_tr hF hFI3
      refine jOk_mem (fun hI3 => ?_)
      refine r_iload_n dX9_cure_63 rfl (i := 1) rfl ?_
      refine r_icmp_ne (tgt := 126) dX9_cure_64 rfl hc5 hx1 (fun hcc => ?_) (fun hcc => ?_)
      · replace hT := hT.1 hcc
        obtain ⟨hc6, hT⟩ := hT
        refine rr_iinc (i := 2) (ls' := [VR m, VI x1, VI (x2 + 1)]) dX9_cure_126 rfl (Nat.le_of_ble_eq_true rfl) rfl rfl hc6 ?_
        refine r_goto (tgt := 45) dX9_cure_129 rfl ?_
        exact hT I0 hFI3
      · replace hT := hT.2 hcc
        refine r_iload_n dX9_cure_67 rfl (i := 2) rfl ?_
        refine r_aload_n dX9_cure_68 rfl (i := 0) rfl ?_
        refine rr_getR (b := (m + 195)) dX9_cure_69 fg_X9_59 rfl rfl (wX9_l hm) (wX9_s hm) (wX9_r4 hm) ?_
        refine rr_getI (v := I3 (m + 195) 2) dX9_cure_72 fg_X9_135 rfl (wX7_l (wX9_o4 hm)) (wX7_s (wX9_o4 hm)) rfl ?_
        refine r_iconst (n := (-1)) dX9_cure_75 ?_
        refine r_ixor dX9_cure_76 ?_
        refine r_iand dX9_cure_77 ?_
        refine r_if_ne (tgt := 126) dX9_cure_78 rfl (j32_in _) (fun hcc => ?_) (fun hcc => ?_)
        · replace hT := hT.1 hcc
          obtain ⟨hc7, hT⟩ := hT
          refine rr_iinc (i := 2) (ls' := [VR m, VI x1, VI (x2 + 1)]) dX9_cure_126 rfl (Nat.le_of_ble_eq_true rfl) rfl rfl hc7 ?_
          refine r_goto (tgt := 45) dX9_cure_129 rfl ?_
          exact hT I0 hFI3
        · replace hT := hT.2 hcc
          refine r_aload_n dX9_cure_81 rfl (i := 0) rfl ?_
          refine rr_getR (b := (m + 6)) dX9_cure_82 fg_X9_19 rfl rfl (wX9_l hm) (wX9_s hm) (wX9_r12 hm) ?_
          refine r_aload_n dX9_cure_85 rfl (i := 0) rfl ?_
          refine rr_getR (b := (m + 195)) dX9_cure_86 fg_X9_59 rfl rfl (wX9_l hm) (wX9_s hm) (wX9_r4 hm) ?_
          refine r_aload_n dX9_cure_89 rfl (i := 0) rfl ?_
          refine rr_getR (b := (m + 195)) dX9_cure_90 fg_X9_59 rfl rfl (wX9_l hm) (wX9_s hm) (wX9_r4 hm) ?_
          refine rr_getI (v := I3 (m + 195) 2) dX9_cure_93 fg_X9_135 rfl (wX7_l (wX9_o4 hm)) (wX7_s (wX9_o4 hm)) rfl ?_
          refine r_iload_n dX9_cure_96 rfl (i := 2) rfl ?_
          refine r_iconst (n := (-1)) dX9_cure_97 ?_
          refine r_ixor dX9_cure_98 ?_
          refine r_iand dX9_cure_99 ?_
          refine r_aload_n dX9_cure_100 rfl (i := 0) rfl ?_
          refine rr_getR (b := (m + 592)) dX9_cure_101 fg_X9_85 rfl rfl (wX9_l hm) (wX9_s hm) (wX9_r11 hm) ?_
          refine rr_cVV (a := (m + 6)) (as := [VR (m + 195), VI (jand (I3 (m + 195) 2) (jxor x2 (-1))), VR (m + 592)]) (st := []) dX9_cure_104 mt_X3_travel ml_X9_388 mi_X3_travel rm_X9_cure_X3_travel jz_X3_travel ⟨Nat.zero_le _, Nat.zero_le _⟩ (Nat.le_of_ble_eq_true rfl) (wX3_l (wX9_o12 hm)) (wX3_c (wX9_o12 hm)) (jasR (jasI (j32_in _) (jasR jas0))) hT (fun I8 hFI8 hT => ?_)
          replace hFI8 := jFr_tr hFI3 hFI8
          refine jOk_mem (fun hI8 => ?_)
          refine r_aload_n dX9_cure_107 rfl (i := 0) rfl ?_
          refine r_aload_n dX9_cure_108 rfl (i := 0) rfl ?_
          refine rr_getR (b := (m + 6)) dX9_cure_109 fg_X9_19 rfl rfl (wX9_l hm) (wX9_s hm) (wX9_r12 hm) ?_
          refine rr_getI (v := I8 (m + 6) 4) dX9_cure_112 fg_X9_353 rfl (wX3_l (wX9_o12 hm)) (wX3_s (wX9_o12 hm)) rfl ?_
          refine r_if_ne (tgt := 122) dX9_cure_115 rfl (hI8 _ _).inR (fun hcc => ?_) (fun hcc => ?_)
          · replace hT := hT.1 hcc
            refine r_iconst (n := (-1)) dX9_cure_122 ?_
            refine rr_putI (jj := 14) dX9_cure_123 fp_X9_377 rfl rfl (wX9_l hm) (wX9_s hm) ⟨by decide, by decide⟩ (fun M9 eM9 => ?_)
            have hFM9 := jFr_up hFI8 eM9 (wX9_f hm 0 (by decide))
            replace hT := hT M9 eM9
            refine jOk_mem (fun hIM9 => ?_)
            obtain ⟨hc10, hT⟩ := hT
            refine rr_iinc (i := 2) (ls' := [VR m, VI x1, VI (x2 + 1)]) dX9_cure_126 rfl (Nat.le_of_ble_eq_true rfl) rfl rfl hc10 ?_
            refine r_goto (tgt := 45) dX9_cure_129 rfl ?_
            exact hT I0 hFM9
          · replace hT := hT.2 hcc
            refine r_iload_n dX9_cure_118 rfl (i := 2) rfl ?_
            refine r_goto (tgt := 123) dX9_cure_119 rfl ?_
            refine rr_putI (jj := 14) dX9_cure_123 fp_X9_377 rfl rfl (wX9_l hm) (wX9_s hm) hx2 (fun M11 eM11 => ?_)
            have hFM11 := jFr_up hFI8 eM11 (wX9_f hm 0 (by decide))
            replace hT := hT M11 eM11
            refine jOk_mem (fun hIM11 => ?_)
            obtain ⟨hc12, hT⟩ := hT
            refine rr_iinc (i := 2) (ls' := [VR m, VI x1, VI (x2 + 1)]) dX9_cure_126 rfl (Nat.le_of_ble_eq_true rfl) rfl rfl hc12 ?_
            refine r_goto (tgt := 45) dX9_cure_129 rfl ?_
            exact hT I0 hFM11
set_option maxRecDepth 20000 in
theorem st_X9_cure_29 {E : jE} {G : jG} {I : jM} {q : Int → jM → Prop} {m : Nat} {x1 : Int} (hm : WX9 G m) (hT : (∀ a j, jRg (G.2.1 a).1 (I a j)) → jIn x1 → ((6 < x1 → q (I m 14) I) ∧ (¬ 6 < x1 → ((¬ (I m 14) = (-1) → q (I m 14) I) ∧ ((I m 14) = (-1) → jOI E jB kX9_cure 45 [VR m, VI x1, VI 0] G I q))))) : jOI E jB kX9_cure 29 [VR m, VI x1, VN] G I q := by
  intro I0 hF
  refine jOk_mem (fun hI => ?_)
  refine jOk_in (i := 1) rfl (fun hx1 => ?_)
  replace hT := hT hI hx1
  refine r_iload_n dX9_cure_29 rfl (i := 1) rfl ?_
  refine r_bipush (n := 6) dX9_cure_30 (by decide +kernel) ?_
  refine r_icmp_gt (tgt := 138) dX9_cure_32 rfl hx1 ⟨by decide, by decide⟩ (fun hcc => ?_) (fun hcc => ?_)
  · replace hT := hT.1 hcc
    refine r_aload_n dX9_cure_138 rfl (i := 0) rfl ?_
    refine rr_getI (v := I m 14) dX9_cure_139 fg_X9_377 rfl (wX9_l hm) (wX9_s hm) rfl ?_
    exact r_iret dX9_cure_142 rfl (hI _ _).inR ⟨Nat.zero_le _, Nat.zero_le _⟩ ⟨_, rfl, rfl, hF, hT⟩
  · replace hT := hT.2 hcc
    refine r_aload_n dX9_cure_35 rfl (i := 0) rfl ?_
    refine rr_getI (v := I m 14) dX9_cure_36 fg_X9_377 rfl (wX9_l hm) (wX9_s hm) rfl ?_
    refine r_iconst (n := (-1)) dX9_cure_39 ?_
    refine r_icmp_ne (tgt := 138) dX9_cure_40 rfl (hI _ _).inR ⟨by decide, by decide⟩ (fun hcc => ?_) (fun hcc => ?_)
    · replace hT := hT.1 hcc
      refine r_aload_n dX9_cure_138 rfl (i := 0) rfl ?_
      refine rr_getI (v := I m 14) dX9_cure_139 fg_X9_377 rfl (wX9_l hm) (wX9_s hm) rfl ?_
      exact r_iret dX9_cure_142 rfl (hI _ _).inR ⟨Nat.zero_le _, Nat.zero_le _⟩ ⟨_, rfl, rfl, hF, hT⟩
    · replace hT := hT.2 hcc
      refine r_iconst (n := 0) dX9_cure_43 ?_
      refine rr_istore_n (i := 2) (ls' := [VR m, VI x1, VI 0]) dX9_cure_44 rfl (Nat.le_of_ble_eq_true rfl) rfl rfl ⟨by decide, by decide⟩ ?_
      exact hT I0 hF
set_option maxRecDepth 20000 in
theorem st_X9_cure_0 {E : jE} {G : jG} {I : jM} {q : Int → jM → Prop} {m : Nat} (hm : WX9 G m) (hT : (∀ a j, jRg (G.2.1 a).1 (I a j)) → (((I m 15) = 0 → (∀ M1, M1 = jup I m 13 0 → (∀ M2, M2 = jup M1 m 15 1 → (∀ M3, M3 = jup M2 m 14 (-1) → jOI E jB kX9_cure 29 [VR m, VI 0, VN] G M3 q)))) ∧ (¬ (I m 15) = 0 → q (I m 14) I))) : jOI E jB kX9_cure 0 [VR m, VN, VN] G I q := by
  intro I0 hF
  refine jOk_mem (fun hI => ?_)
  replace hT := hT hI 
  refine r_aload_n dX9_cure_0 rfl (i := 0) rfl ?_
  refine rr_getI (v := I m 15) dX9_cure_1 fg_X9_373 rfl (wX9_l hm) (wX9_s hm) rfl ?_
  refine r_if_eq (tgt := 12) dX9_cure_4 rfl (hI _ _).inR (fun hcc => ?_) (fun hcc => ?_)
  · replace hT := hT.1 hcc
    refine r_aload_n dX9_cure_12 rfl (i := 0) rfl ?_
    refine r_iconst (n := 0) dX9_cure_13 ?_
    refine rr_putZ (jj := 13) dX9_cure_14 fp_X9_380 rfl rfl (wX9_l hm) (wX9_s hm) ⟨by decide, by decide⟩ (fun M1 eM1 => ?_)
    have hFM1 := jFr_up hF eM1 (wX9_f hm 0 (by decide))
    replace hT := hT M1 eM1
    refine jOk_mem (fun hIM1 => ?_)
    refine r_aload_n dX9_cure_17 rfl (i := 0) rfl ?_
    refine r_iconst (n := 1) dX9_cure_18 ?_
    refine rr_putZ (jj := 15) dX9_cure_19 fp_X9_373 rfl rfl (wX9_l hm) (wX9_s hm) ⟨by decide, by decide⟩ (fun M2 eM2 => ?_)
    have hFM2 := jFr_up hFM1 eM2 (wX9_f hm 0 (by decide))
    replace hT := hT M2 eM2
    refine jOk_mem (fun hIM2 => ?_)
    refine r_aload_n dX9_cure_22 rfl (i := 0) rfl ?_
    refine r_iconst (n := (-1)) dX9_cure_23 ?_
    refine rr_putI (jj := 14) dX9_cure_24 fp_X9_377 rfl rfl (wX9_l hm) (wX9_s hm) ⟨by decide, by decide⟩ (fun M3 eM3 => ?_)
    have hFM3 := jFr_up hFM2 eM3 (wX9_f hm 0 (by decide))
    replace hT := hT M3 eM3
    refine jOk_mem (fun hIM3 => ?_)
    refine r_iconst (n := 0) dX9_cure_27 ?_
    refine rr_istore_n (i := 1) (ls' := [VR m, VI 0, VN]) dX9_cure_28 rfl (Nat.le_of_ble_eq_true rfl) rfl rfl ⟨by decide, by decide⟩ ?_
    exact hT I0 hFM3
  · replace hT := hT.2 hcc
    refine r_aload_n dX9_cure_7 rfl (i := 0) rfl ?_
    refine rr_getI (v := I m 14) dX9_cure_8 fg_X9_377 rfl (wX9_l hm) (wX9_s hm) rfl ?_
    exact r_iret dX9_cure_11 rfl (hI _ _).inR ⟨Nat.zero_le _, Nat.zero_le _⟩ ⟨_, rfl, rfl, hF, hT⟩
theorem en_X9_cure {E : jE} {G : jG} {I : jM} {q : Int → jM → Prop} {m : Nat} (hm : WX9 G m) (hT : (∀ a j, jRg (G.2.1 a).1 (I a j)) → (((I m 15) = 0 → (∀ M1, M1 = jup I m 13 0 → (∀ M2, M2 = jup M1 m 15 1 → (∀ M3, M3 = jup M2 m 14 (-1) → jOI E jB kX9_cure 29 [VR m, VI 0, VN] G M3 q)))) ∧ (¬ (I m 15) = 0 → q (I m 14) I))) : jRI E jB kX9_cure [VR m] G I q := jRun.of mt_X9_cure.2.2.2 2 rfl (fun _ => st_X9_cure_0 hm hT I (fun _ _ => rfl))
theorem bcT_tab : ∀ x : Fin 64, jIn (((x : Nat) : Int) - (jand (jushr ((x : Nat) : Int) 1) 1431655765)) ∧ jIn ((jand (((x : Nat) : Int) - (jand (jushr ((x : Nat) : Int) 1) 1431655765)) 858993459) + (jand (jushr (((x : Nat) : Int) - (jand (jushr ((x : Nat) : Int) 1) 1431655765)) 2) 858993459)) ∧ jIn ((jand (((jand (((x : Nat) : Int) - (jand (jushr ((x : Nat) : Int) 1) 1431655765)) 858993459) + (jand (jushr (((x : Nat) : Int) - (jand (jushr ((x : Nat) : Int) 1) 1431655765)) 2) 858993459)) + (jushr ((jand (((x : Nat) : Int) - (jand (jushr ((x : Nat) : Int) 1) 1431655765)) 858993459) + (jand (jushr (((x : Nat) : Int) - (jand (jushr ((x : Nat) : Int) 1) 1431655765)) 2) 858993459)) 4)) 252645135) + (jushr (jand (((jand (((x : Nat) : Int) - (jand (jushr ((x : Nat) : Int) 1) 1431655765)) 858993459) + (jand (jushr (((x : Nat) : Int) - (jand (jushr ((x : Nat) : Int) 1) 1431655765)) 2) 858993459)) + (jushr ((jand (((x : Nat) : Int) - (jand (jushr ((x : Nat) : Int) 1) 1431655765)) 858993459) + (jand (jushr (((x : Nat) : Int) - (jand (jushr ((x : Nat) : Int) 1) 1431655765)) 2) 858993459)) 4)) 252645135) 8)) ∧ jIn (((jand (((jand (((x : Nat) : Int) - (jand (jushr ((x : Nat) : Int) 1) 1431655765)) 858993459) + (jand (jushr (((x : Nat) : Int) - (jand (jushr ((x : Nat) : Int) 1) 1431655765)) 2) 858993459)) + (jushr ((jand (((x : Nat) : Int) - (jand (jushr ((x : Nat) : Int) 1) 1431655765)) 858993459) + (jand (jushr (((x : Nat) : Int) - (jand (jushr ((x : Nat) : Int) 1) 1431655765)) 2) 858993459)) 4)) 252645135) + (jushr (jand (((jand (((x : Nat) : Int) - (jand (jushr ((x : Nat) : Int) 1) 1431655765)) 858993459) + (jand (jushr (((x : Nat) : Int) - (jand (jushr ((x : Nat) : Int) 1) 1431655765)) 2) 858993459)) + (jushr ((jand (((x : Nat) : Int) - (jand (jushr ((x : Nat) : Int) 1) 1431655765)) 858993459) + (jand (jushr (((x : Nat) : Int) - (jand (jushr ((x : Nat) : Int) 1) 1431655765)) 2) 858993459)) 4)) 252645135) 8)) + (jushr ((jand (((jand (((x : Nat) : Int) - (jand (jushr ((x : Nat) : Int) 1) 1431655765)) 858993459) + (jand (jushr (((x : Nat) : Int) - (jand (jushr ((x : Nat) : Int) 1) 1431655765)) 2) 858993459)) + (jushr ((jand (((x : Nat) : Int) - (jand (jushr ((x : Nat) : Int) 1) 1431655765)) 858993459) + (jand (jushr (((x : Nat) : Int) - (jand (jushr ((x : Nat) : Int) 1) 1431655765)) 2) 858993459)) 4)) 252645135) + (jushr (jand (((jand (((x : Nat) : Int) - (jand (jushr ((x : Nat) : Int) 1) 1431655765)) 858993459) + (jand (jushr (((x : Nat) : Int) - (jand (jushr ((x : Nat) : Int) 1) 1431655765)) 2) 858993459)) + (jushr ((jand (((x : Nat) : Int) - (jand (jushr ((x : Nat) : Int) 1) 1431655765)) 858993459) + (jand (jushr (((x : Nat) : Int) - (jand (jushr ((x : Nat) : Int) 1) 1431655765)) 2) 858993459)) 4)) 252645135) 8)) 16)) ∧ (jand (((jand (((jand (((x : Nat) : Int) - (jand (jushr ((x : Nat) : Int) 1) 1431655765)) 858993459) + (jand (jushr (((x : Nat) : Int) - (jand (jushr ((x : Nat) : Int) 1) 1431655765)) 2) 858993459)) + (jushr ((jand (((x : Nat) : Int) - (jand (jushr ((x : Nat) : Int) 1) 1431655765)) 858993459) + (jand (jushr (((x : Nat) : Int) - (jand (jushr ((x : Nat) : Int) 1) 1431655765)) 2) 858993459)) 4)) 252645135) + (jushr (jand (((jand (((x : Nat) : Int) - (jand (jushr ((x : Nat) : Int) 1) 1431655765)) 858993459) + (jand (jushr (((x : Nat) : Int) - (jand (jushr ((x : Nat) : Int) 1) 1431655765)) 2) 858993459)) + (jushr ((jand (((x : Nat) : Int) - (jand (jushr ((x : Nat) : Int) 1) 1431655765)) 858993459) + (jand (jushr (((x : Nat) : Int) - (jand (jushr ((x : Nat) : Int) 1) 1431655765)) 2) 858993459)) 4)) 252645135) 8)) + (jushr ((jand (((jand (((x : Nat) : Int) - (jand (jushr ((x : Nat) : Int) 1) 1431655765)) 858993459) + (jand (jushr (((x : Nat) : Int) - (jand (jushr ((x : Nat) : Int) 1) 1431655765)) 2) 858993459)) + (jushr ((jand (((x : Nat) : Int) - (jand (jushr ((x : Nat) : Int) 1) 1431655765)) 858993459) + (jand (jushr (((x : Nat) : Int) - (jand (jushr ((x : Nat) : Int) 1) 1431655765)) 2) 858993459)) 4)) 252645135) + (jushr (jand (((jand (((x : Nat) : Int) - (jand (jushr ((x : Nat) : Int) 1) 1431655765)) 858993459) + (jand (jushr (((x : Nat) : Int) - (jand (jushr ((x : Nat) : Int) 1) 1431655765)) 2) 858993459)) + (jushr ((jand (((x : Nat) : Int) - (jand (jushr ((x : Nat) : Int) 1) 1431655765)) 858993459) + (jand (jushr (((x : Nat) : Int) - (jand (jushr ((x : Nat) : Int) 1) 1431655765)) 2) 858993459)) 4)) 252645135) 8)) 16)) 63) = pcn ((x : Nat) : Int) := by decide +kernel
section CX
variable {E : jE} {G : jG} {m δ : Nat} {I I' : jM} {B B' : Int → Int} {H H' : List (Int → Int)} {T : List Int} {fk fp c : Int}
theorem sp_bitCount {A : Nat → Prop} {x : Int} (h : 0 ≤ x ∧ x < 64) : jRI E A kJ6_bitCount_0f7a4 [VI x] G I (fun r I' => r = pcn x ∧ I' = I) := by
  refine en_J6_bitCount_0f7a4 (fun _ _ => ?_)
  have key := bcT_tab ⟨x.toNat, by omega⟩
  simp only [show ((x.toNat : Nat) : Int) = x by omega] at key
  obtain ⟨k1, k2, k3, k4, k5⟩ := key
  exact ⟨k1, k2, k3, k4, k5, rfl⟩
/-- what holds while the cure is sought -/
def CuI (G : jG) (m δ : Nat) (I : jM) (B : Int → Int) : Prop := (I m 10 ≠ 0 → ∃ ρ : Nat, LK G (m + 578) (m + 196) ρ B I ∧ (ρ = 169 ∨ ρ = 182 ∨ 635 ≤ ρ) ∧ (ρ + 13 ≤ δ ∨ δ + 13 ≤ ρ)) ∧ I m 13 = 0
theorem CuI.fr (h : CuI G m δ I B) (h0 : m = 0) (e : ∀ a j, (a = m ∧ (j = 10 ∨ j = 13)) ∨ (m + 195 ≤ a ∧ a < m + 204) ∨ (m + 578 ≤ a ∧ a < m + 592) ∨ (((169 ≤ a ∧ a < 195) ∨ 635 ≤ a) ∧ ¬ (δ ≤ a ∧ a < δ + 13)) → I' a j = I a j) : CuI G m δ I' B := by
  refine ⟨fun q => ?_, (e _ _ (by omega)).trans h.2⟩
  rw [e _ _ (by omega)] at q
  obtain ⟨ρ, l1, l2, l3⟩ := h.1 q
  exact ⟨ρ, l1.fr (fun a j qa => e a j (by omega)), l2, l3⟩
theorem cl_cure (h : CC G m δ I B H B' H' T fk fp) (hW : BW c B) (hc : c ≤ 900000) : jRI E jB kX9_cure [VR m] G I (fun x I' => x = anCure B ∧ CC G m δ I' B H B' H' T fk fp) := by
  have hm := h.1.1.2.1
  have h0 := h.1.1.1
  have hQ := hW.1
  have h4 := hQ.2.1.1
  have h46 := hQ.2.1.2.1
  have hall := (onB_bits hQ (B 4).toNat (by omega)).1
  -- found, or none
  have fin : ∀ (I1 : jM) (x : Int), CS G m δ I1 B H B' H' T fk fp → CuI G m δ I1 B → I1 m 14 = x → isCu B (onB B (B 4).toNat) 64 x → I1 m 14 = anCure B ∧ CC G m δ I1 B H B' H' T fk fp := by
    intro I1 x hcs hcu e hx
    have ex : I1 m 14 = anCure B := by rw [e, anCure_eq hx]
    exact ⟨ex, hcs, hcu.1, fun q => absurd hcu.2 q, fun _ => ex⟩
  -- the sets of one size
  have l45 : ∀ (s : Int), 0 ≤ s → s ≤ 6 → ∀ (q : Int → jM → Prop), (∀ I1, CS G m δ I1 B H B' H' T fk fp → CuI G m δ I1 B → ((I1 m 14 = -1 ∧ ∀ t, 0 ≤ t → t < 64 → jand t (jxor (onB B (B 4).toNat) (-1)) = 0 → pcn t ≤ s → ¬ stl B (onB B (B 4).toNat) t) ∨ isCu B (onB B (B 4).toNat) 64 (I1 m 14) ∧ I1 m 14 ≠ -1) → jOI E jB kX9_cure 29 [VR m, VI (s + 1), VN] G I1 q) → ∀ (d : Nat) (b : Int) (I1 : jM), 0 ≤ b → b + d = 64 → CS G m δ I1 B H B' H' T fk fp → CuI G m δ I1 B → ((I1 m 14 = -1 ∧ ∀ t, 0 ≤ t → t < 64 → jand t (jxor (onB B (B 4).toNat) (-1)) = 0 → (pcn t < s ∨ (pcn t = s ∧ t < b)) → ¬ stl B (onB B (B 4).toNat) t) ∨ isCu B (onB B (B 4).toNat) 64 (I1 m 14) ∧ I1 m 14 ≠ -1) → jOI E jB kX9_cure 45 [VR m, VI s, VI b] G I1 q := by
    intro s s0 s1 q go d
    induction d with
    | zero =>
      intro b I1 b0 b1 hcs hcu hx
      refine st_X9_cure_45 hm (fun _ _ _ => ⟨fun _ => ⟨⟨by omega, by omega⟩, go I1 hcs hcu ?_⟩, fun qq => absurd (by omega) qq⟩)
      rcases hx with hx | hx
      · exact Or.inl ⟨hx.1, fun t t0 t1 t2 t3 => hx.2 t t0 t1 t2 (by omega)⟩
      · exact Or.inr hx
    | succ d ih =>
      intro b I1 b0 b1 hcs hcu hx
      refine st_X9_cure_45 hm (fun _ _ _ => ⟨fun qq => absurd qq (by omega), fun _ => ⟨fun qn => ⟨⟨by omega, by omega⟩, go I1 hcs hcu ?_⟩, fun qn => ?_⟩⟩)
      · rcases hx with hx | hx
        · exact absurd hx.1 qn
        · exact Or.inr hx
      · have hno : ∀ t, 0 ≤ t → t < 64 → jand t (jxor (onB B (B 4).toNat) (-1)) = 0 → (pcn t < s ∨ (pcn t = s ∧ t < b)) → ¬ stl B (onB B (B 4).toNat) t := by
          rcases hx with hx | hx
          · exact hx.2
          · exact absurd qn hx.2
        have nx : ∀ I2, CS G m δ I2 B H B' H' T fk fp → CuI G m δ I2 B → I2 m 14 = -1 → (jand b (jxor (onB B (B 4).toNat) (-1)) = 0 → pcn b = s → ¬ stl B (onB B (B 4).toNat) b) → jIn (b + 1) ∧ jOI E jB kX9_cure 45 [VR m, VI s, VI (b + 1)] G I2 q := by
          intro I2 k1 k2 k3 k4
          refine ⟨⟨by omega, by omega⟩, ih (b + 1) I2 (by omega) (by omega) k1 k2 (Or.inl ⟨k3, fun t t0 t1 t2 t3 => ?_⟩)⟩
          by_cases e : t = b
          · rw [e] at t2 t3 ⊢
            rcases t3 with t3 | t3
            · exact hno b b0 (by omega) t2 (Or.inl t3)
            · exact k4 t2 t3.1
          · exact hno t t0 t1 t2 (by omega)
        refine (sp_bitCount ⟨b0, by omega⟩).mono (fun y I3 _ _ gy => ?_)
        obtain ⟨rfl, rfl⟩ := gy
        have hS := hcs.2.1
        rw [hS.2.2.1]
        refine ⟨fun qs => nx I3 hcs hcu qn (fun _ g => absurd g qs), fun qs => ⟨fun qz => nx I3 hcs hcu qn (fun g => absurd g qz), fun qz => ?_⟩⟩
        -- a trial
        have hv := andn_bd (x := onB B (B 4).toNat) (y := b) hall ⟨b0, by omega⟩
        have honly := setOn_only (B := B) (v := jand (onB B (B 4).toNat) (jxor b (-1))) h46 hv
        have hWZ := hW.on honly
        have u : ∀ j, ¬ ((j - 515) % 40 = 0 ∧ 515 ≤ j ∧ j < 515 + 40 * B 4) → setOn B (jand (onB B (B 4).toNat) (jxor b (-1))) j = B j := honly.1
        obtain ⟨ρ, r1, r2, r3, r4, r5⟩ := hS.2.1
        have hstl : stl B (onB B (B 4).toNat) b ↔ endAt (setOn B (jand (onB B (B 4).toNat) (jxor b (-1)))) (crN (setOn B (jand (onB B (B 4).toNat) (jxor b (-1))))) = 0 := Iff.rfl
        have hset : ∀ r, 0 ≤ r → r < B 4 → setOn B (jand (onB B (B 4).toNat) (jxor b (-1))) (515 + 40 * r) = jand (jshr (jand (onB B (B 4).toNat) (jxor b (-1))) r) 1 := fun r x y => by
          unfold setOn
          rw [if_pos (by omega)]
          congr 2
          omega
        generalize setOn B (jand (onB B (B 4).toNat) (jxor b (-1))) = Z at *
        refine (cl_travel (Z := Z) (wX9_o12 hm) (wX9_o11 hm) (wX9_o4 hm) r2 (by omega) (by omega) (by omega) (by omega) (by omega) (by omega) ⟨hS.1.1.congr (fun j hj => u j (by omega)), hS.1.2.congr (fun j hj => u j (by omega))⟩ (r5.congr hQ.2.1 ⟨u 4 (by omega), fun j j0 j1 jj => u j (by omega)⟩) r1 (hS.2.2.2.1.congr (fun j hj => u j (by omega))) hWZ hc (fun r x y => by rw [u 4 (by omega)] at y; rw [hset r x y])).mono (fun I8 _ g8 => ?_)
        have k8 : ∀ a j, (a < m + 6 ∨ m + 164 ≤ a) → (a < m + 592 ∨ m + 606 ≤ a) → I8 a j = I3 a j := fun a j ha hb => g8.2 a j (by omega) (by omega)
        rw [g8.1.2.1]
        refine ⟨fun qe M9 e9 => ?_, fun qe M11 e11 => ?_⟩
        · have k9 : ∀ a j, (a < m + 6 ∨ m + 164 ≤ a) → (a < m + 592 ∨ m + 606 ≤ a) → (a ≠ m ∨ j ≠ 14) → M9 a j = I3 a j := fun a j ha hb hd => by
            have : M9 a j = I8 a j := by
              rcases hd with hd | hd
              · exact jr_na e9 hd
              · exact jr_nj e9 hd
            rw [this]
            exact k8 a j ha hb
          exact nx M9 (hcs.fr (fun a j qa => k9 a j (by omega) (by omega) (by omega))) (hcu.fr h0 (fun a j qa => k9 a j (by omega) (by omega) (by omega))) (jr_eq e9) (fun _ _ g => qe (hstl.mp g))
        · have k11 : ∀ a j, (a < m + 6 ∨ m + 164 ≤ a) → (a < m + 592 ∨ m + 606 ≤ a) → (a ≠ m ∨ j ≠ 14) → M11 a j = I3 a j := fun a j ha hb hd => by
            have : M11 a j = I8 a j := by
              rcases hd with hd | hd
              · exact jr_na e11 hd
              · exact jr_nj e11 hd
            rw [this]
            exact k8 a j ha hb
          refine ⟨⟨by omega, by omega⟩, ih (b + 1) M11 (by omega) (by omega) (hcs.fr (fun a j qa => k11 a j (by omega) (by omega) (by omega))) (hcu.fr h0 (fun a j qa => k11 a j (by omega) (by omega) (by omega))) (Or.inr ⟨?_, by rw [jr_eq e11]; omega⟩)⟩
          rw [jr_eq e11]
          refine Or.inr ⟨⟨b0, by omega⟩, qz, hstl.mpr qe, fun t t0 t1 t2 t3 => ?_⟩
          rw [qs]
          by_cases g : pcn t < s ∨ (pcn t = s ∧ t < b)
          · exact absurd t3 (hno t t0 t1 t2 g)
          · omega
  have l29 : ∀ (d : Nat) (s : Int) (I1 : jM), 0 ≤ s → s + d = 7 → CS G m δ I1 B H B' H' T fk fp → CuI G m δ I1 B → ((I1 m 14 = -1 ∧ ∀ t, 0 ≤ t → t < 64 → jand t (jxor (onB B (B 4).toNat) (-1)) = 0 → pcn t < s → ¬ stl B (onB B (B 4).toNat) t) ∨ isCu B (onB B (B 4).toNat) 64 (I1 m 14) ∧ I1 m 14 ≠ -1) → jOI E jB kX9_cure 29 [VR m, VI s, VN] G I1 (fun x I' => x = anCure B ∧ CC G m δ I' B H B' H' T fk fp) := by
    intro d
    induction d with
    | zero =>
      intro s I1 s0 s1 hcs hcu hx
      have e : isCu B (onB B (B 4).toNat) 64 (I1 m 14) := by
        rcases hx with hx | hx
        · rw [hx.1]
          exact Or.inl ⟨rfl, fun t t0 t1 t2 => hx.2 t t0 t1 t2 (by have := pcn_bd (x := t) ⟨t0, t1⟩; omega)⟩
        · exact hx.1
      exact st_X9_cure_29 hm (fun _ _ => ⟨fun _ => fin I1 _ hcs hcu rfl e, fun qq => absurd (by omega) qq⟩)
    | succ d ih =>
      intro s I1 s0 s1 hcs hcu hx
      refine st_X9_cure_29 hm (fun _ _ => ⟨fun qq => absurd qq (by omega), fun _ => ⟨fun qn => ?_, fun qn => ?_⟩⟩)
      · rcases hx with hx | hx
        · exact absurd hx.1 qn
        · exact fin I1 _ hcs hcu rfl hx.1
      · refine l45 s s0 (by omega) _ (fun I2 a b e => ih (s + 1) I2 (by omega) (by omega) a b ?_) 64 0 I1 (by omega) (by omega) hcs hcu ?_
        · rcases e with e | e
          · exact Or.inl ⟨e.1, fun t t0 t1 t2 t3 => e.2 t t0 t1 t2 (by omega)⟩
          · exact Or.inr e
        · rcases hx with hx | hx
          · exact Or.inl ⟨hx.1, fun t t0 t1 t2 t3 => hx.2 t t0 t1 t2 (by omega)⟩
          · exact Or.inr hx
  refine en_X9_cure hm (fun _ => ⟨fun q M1 e1 M2 e2 M3 e3 => ?_, fun q => ⟨h.2.2.2 q, h⟩⟩)
  have k : ∀ a j, (a ≠ m ∨ (j ≠ 13 ∧ j ≠ 14 ∧ j ≠ 15)) → M3 a j = I a j := fun a j ha => by
    rcases ha with ha | ha
    · rw [jr_na e3 ha, jr_na e2 ha, jr_na e1 ha]
    · rw [jr_nj e3 ha.2.1, jr_nj e2 ha.2.2, jr_nj e1 ha.1]
  refine l29 7 0 M3 (by omega) (by omega) (h.1.fr (fun a j qa => k a j (by omega))) ⟨fun qq => ?_, ?_⟩ (Or.inl ⟨jr_eq e3, fun t t0 t1 t2 t3 => by have := pcn_bd (x := t) ⟨t0, t1⟩; omega⟩)
  · rw [k _ _ (by omega)] at qq
    obtain ⟨ρ, l1, l2, l3⟩ := h.2.1 qq
    exact ⟨ρ, l1.fr (fun a j qa => k a j (by omega)), l2, l3⟩
  · rw [jr_nj e3 (by decide), jr_nj e2 (by decide), jr_eq e1]
end CX
