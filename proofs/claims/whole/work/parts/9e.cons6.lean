/-! ===== the reference's constructor ===== -/
theorem gs_mem {a : Nat} {G : jG} {I M : jM} {j v : Int} (h : M = jup I a j v) : Gs a [] G G I M := ⟨Nat.le_refl _, fun b _ => ⟨rfl, fun q => ⟨rfl, by funext y; exact jr_na h q⟩⟩, fun _ _ => rfl⟩
theorem lt1 {G : jG} {a N : Nat} (h : G.2.2 = a + 1 + N) : a < G.2.2 := by omega
theorem a1p (a i s : Nat) (h : i + 1 = s) : a + 1 + i = a + s := by omega
theorem a1l (a i : Nat) : a < a + 1 + i := by omega
theorem a1r (a i N : Nat) (h : i + 1 < N) : a + 1 + i < a + N := by omega
theorem a1r2 (a i N : Nat) (h : i < N) : a + 1 + i < a + 1 + N := by omega
theorem a1e {a b : Nat} (h0 : a < b) (h1 : b < a + 29) : ∃ i, i < 28 ∧ b = a + 1 + i := ⟨b - a - 1, by omega, by omega⟩
theorem Gs.shp2 {a N x y : Nat} {js : List Int} {G G' : jG} {I I' : jM} (h : Gs a js G G' I I') (hn : G.2.2 = a + 1 + N) (h0 : y + 1 = x) (h1 : y < N) {q : Nat × Nat} (t : G.2.1 (a + 1 + y) = q) : G'.2.1 (a + x) = q := by rw [show a + x = a + 1 + y by omega, (h.2.1 (a + 1 + y) (by omega)).1]; exact t
theorem Gs.rows1 {a N b : Nat} {js : List Int} {G G' : jG} {I I' : jM} (h : Gs a js G G' I I') (hn : G.2.2 = a + 1 + N) (h0 : a < b) (h1 : b < a + 1 + N) : I' b = I b := ((h.2.1 b (by omega)).2 (by omega)).2
theorem all28 {P : Nat → Prop} (h0 : P 0) (h1 : P 1) (h2 : P 2) (h3 : P 3) (h4 : P 4) (h5 : P 5) (h6 : P 6) (h7 : P 7) (h8 : P 8) (h9 : P 9) (h10 : P 10) (h11 : P 11) (h12 : P 12) (h13 : P 13) (h14 : P 14) (h15 : P 15) (h16 : P 16) (h17 : P 17) (h18 : P 18) (h19 : P 19) (h20 : P 20) (h21 : P 21) (h22 : P 22) (h23 : P 23) (h24 : P 24) (h25 : P 25) (h26 : P 26) (h27 : P 27) : ∀ i, i < 28 → P i := by
  intro i hi
  match i, hi with
  | 0, _ => exact h0
  | 1, _ => exact h1
  | 2, _ => exact h2
  | 3, _ => exact h3
  | 4, _ => exact h4
  | 5, _ => exact h5
  | 6, _ => exact h6
  | 7, _ => exact h7
  | 8, _ => exact h8
  | 9, _ => exact h9
  | 10, _ => exact h10
  | 11, _ => exact h11
  | 12, _ => exact h12
  | 13, _ => exact h13
  | 14, _ => exact h14
  | 15, _ => exact h15
  | 16, _ => exact h16
  | 17, _ => exact h17
  | 18, _ => exact h18
  | 19, _ => exact h19
  | 20, _ => exact h20
  | 21, _ => exact h21
  | 22, _ => exact h22
  | 23, _ => exact h23
  | 24, _ => exact h24
  | 25, _ => exact h25
  | 26, _ => exact h26
  | 27, _ => exact h27
  | i + 28, h => exact absurd h (by omega)
theorem sArr {E : jE} {K : jK} {G : jG} {I : jM} {a : Nat} {u : Nat × Nat} {Q : jV → jG → jM → Prop} {ls : List jV} {k n j at_ p1 p2 idx ci : Nat} {t : ArrayType} {ty : FieldType} (dN : decode K.2.1 p1 = .ok (.newarray t, 2)) (hk : (k = 100 ∧ t = .int) ∨ (k = 101 ∧ t = .byte) ∨ (k = 102 ∧ t = .boolean)) (hw : Cond.arrayClass (newarray.typeOf t) ∈ jTB) (hn : (n : Int) ≤ 100000) (hu : u.1 + 1 ≤ K.2.2.2.2.cells ∧ u.2 + n ≤ K.2.2.2.2.slots) (hp : p1 + 2 = p2) (dP : decode K.2.1 p2 = .ok (.putfield idx, 3)) (hf : jFF K.1.cls idx ci j ty) (hi : K.1.name = "<init>") (hty : ∃ t, ty = .array t) (hkk : jfk ci j = 1) (n0 : G.2.2 = a + 1 + at_) (t0 : (G.2.1 a).1 = ci) (hq : ∀ G' I', (Gs a [(j : Int)] G G' I I') → I' a = I a → G'.2.2 = a + 1 + (at_ + 1) → (G'.2.1 a).1 = ci → G'.2.1 (a + 1 + at_) = (k, n) → G'.1 a j = some (a + 1 + at_) → (∀ y, I' (a + 1 + at_) y = 0) → jOk E K (p2 + 3) ls [] G' I' (u.1 + 1, u.2 + n) Q) : jOk E K p1 ls [VI n, VR a] G I u Q := by
  subst hp
  refine r_newa (k := k) (n := n) dN hk hw hn hu ?_
  have c1 := gs_arr (a := a) (k := k) (n := n) (G := G) (I := I) (by omega)
  refine r_putF (j := j) dP hf hi (Or.inr hty) hkk (by rw [jn_3]; omega) (by rw [jn_2, if_neg (by omega)]; exact t0) ?_
  refine hq _ _ (Gs.trans c1.1 gs_put) c1.2 (by rw [jp_3, jn_3]; omega) ?_ ?_ ?_ (fun y => by rw [jn_4, if_pos n0.symm])
  · rw [jp_2, jn_2, if_neg (by omega)]; exact t0
  · rw [jp_2, jn_2, if_pos n0.symm]
  · rw [jp_1, if_pos ⟨rfl, rfl⟩, n0]
theorem in_X10a {E : jE} {G : jG} {I : jM} {a : Nat} {Q : jV → jG → jM → Prop} (hG : G.2.2 = a + 1) (hs : (G.2.1 a).1 = 10) (hq : ∀ G' I' u, u.1 ≤ 28 → u.2 ≤ 116992 → WX10 G' a → G'.2.2 = a + 29 → (∀ b, b < a → G'.1 b = G.1 b ∧ G'.2.1 b = G.2.1 b ∧ I' b = I b) → I' a = up (I a) 32 (-1) → (∀ b, a < b → b < a + 29 → ∀ j, I' b j = 0) → jOk E kX10_init 258 [VR a] [] G' I' u Q) : jOk E kX10_init 0 [VR a] [] G I (0, 0) Q := by
  refine r_aload_n dX10_init_0 rfl (i := 0) rfl ?_
  refine r_objInit dX10_init_1 ml_X10_1 w_obj ⟨Nat.le_of_ble_eq_true rfl, Nat.le_of_ble_eq_true rfl⟩ ?_
  have n0 : G.2.2 = a + 1 + 0 := hG
  have t0 := hs
  refine r_aload_n dX10_init_4 rfl (i := 0) rfl ?_
  refine r_sipush (n := 22094) dX10_init_5 rfl ?_
  refine sArr (k := 100) (n := 22094) (j := 0) (at_ := 0) dX10_init_8 (Or.inl ⟨rfl, rfl⟩) ac_int (by decide) ⟨Nat.le_of_ble_eq_true rfl, Nat.le_of_ble_eq_true rfl⟩ rfl dX10_init_10 ff_X10_7 rfl ⟨_, rfl⟩ rfl n0 t0 (fun G1 I1 c1 r1 n1 t1 a1 f1 z1 => ?_)
  refine r_aload_n dX10_init_13 rfl (i := 0) rfl ?_
  refine r_sipush (n := 22094) dX10_init_14 rfl ?_
  refine sArr (k := 100) (n := 22094) (j := 1) (at_ := 1) dX10_init_17 (Or.inl ⟨rfl, rfl⟩) ac_int (by decide) ⟨Nat.le_of_ble_eq_true rfl, Nat.le_of_ble_eq_true rfl⟩ rfl dX10_init_19 ff_X10_13 rfl ⟨_, rfl⟩ rfl n1 t1 (fun G2 I2 c2 r2 n2 t2 a2 f2 z2 => ?_)
  refine r_aload_n dX10_init_22 rfl (i := 0) rfl ?_
  refine r_sipush (n := 200) dX10_init_23 rfl ?_
  refine sArr (k := 100) (n := 200) (j := 2) (at_ := 2) dX10_init_26 (Or.inl ⟨rfl, rfl⟩) ac_int (by decide) ⟨Nat.le_of_ble_eq_true rfl, Nat.le_of_ble_eq_true rfl⟩ rfl dX10_init_28 ff_X10_16 rfl ⟨_, rfl⟩ rfl n2 t2 (fun G3 I3 c3 r3 n3 t3 a3 f3 z3 => ?_)
  refine r_aload_n dX10_init_31 rfl (i := 0) rfl ?_
  refine r_sipush (n := 200) dX10_init_32 rfl ?_
  refine sArr (k := 100) (n := 200) (j := 3) (at_ := 3) dX10_init_35 (Or.inl ⟨rfl, rfl⟩) ac_int (by decide) ⟨Nat.le_of_ble_eq_true rfl, Nat.le_of_ble_eq_true rfl⟩ rfl dX10_init_37 ff_X10_19 rfl ⟨_, rfl⟩ rfl n3 t3 (fun G4 I4 c4 r4 n4 t4 a4 f4 z4 => ?_)
  refine r_aload_n dX10_init_40 rfl (i := 0) rfl ?_
  refine r_bipush (n := 12) dX10_init_41 rfl ?_
  refine sArr (k := 100) (n := 12) (j := 5) (at_ := 4) dX10_init_43 (Or.inl ⟨rfl, rfl⟩) ac_int (by decide) ⟨Nat.le_of_ble_eq_true rfl, Nat.le_of_ble_eq_true rfl⟩ rfl dX10_init_45 ff_X10_22 rfl ⟨_, rfl⟩ rfl n4 t4 (fun G5 I5 c5 r5 n5 t5 a5 f5 z5 => ?_)
  refine r_aload_n dX10_init_48 rfl (i := 0) rfl ?_
  refine r_sipush (n := 2000) dX10_init_49 rfl ?_
  refine sArr (k := 100) (n := 2000) (j := 6) (at_ := 5) dX10_init_52 (Or.inl ⟨rfl, rfl⟩) ac_int (by decide) ⟨Nat.le_of_ble_eq_true rfl, Nat.le_of_ble_eq_true rfl⟩ rfl dX10_init_54 ff_X10_25 rfl ⟨_, rfl⟩ rfl n5 t5 (fun G6 I6 c6 r6 n6 t6 a6 f6 z6 => ?_)
  refine r_aload_n dX10_init_57 rfl (i := 0) rfl ?_
  refine r_sipush (n := 1200) dX10_init_58 rfl ?_
  refine sArr (k := 100) (n := 1200) (j := 8) (at_ := 6) dX10_init_61 (Or.inl ⟨rfl, rfl⟩) ac_int (by decide) ⟨Nat.le_of_ble_eq_true rfl, Nat.le_of_ble_eq_true rfl⟩ rfl dX10_init_63 ff_X10_28 rfl ⟨_, rfl⟩ rfl n6 t6 (fun G7 I7 c7 r7 n7 t7 a7 f7 z7 => ?_)
  refine r_aload_n dX10_init_66 rfl (i := 0) rfl ?_
  refine r_sipush (n := 1200) dX10_init_67 rfl ?_
  refine sArr (k := 100) (n := 1200) (j := 9) (at_ := 7) dX10_init_70 (Or.inl ⟨rfl, rfl⟩) ac_int (by decide) ⟨Nat.le_of_ble_eq_true rfl, Nat.le_of_ble_eq_true rfl⟩ rfl dX10_init_72 ff_X10_31 rfl ⟨_, rfl⟩ rfl n7 t7 (fun G8 I8 c8 r8 n8 t8 a8 f8 z8 => ?_)
  refine r_aload_n dX10_init_75 rfl (i := 0) rfl ?_
  refine r_sipush (n := 1200) dX10_init_76 rfl ?_
  refine sArr (k := 100) (n := 1200) (j := 10) (at_ := 8) dX10_init_79 (Or.inl ⟨rfl, rfl⟩) ac_int (by decide) ⟨Nat.le_of_ble_eq_true rfl, Nat.le_of_ble_eq_true rfl⟩ rfl dX10_init_81 ff_X10_34 rfl ⟨_, rfl⟩ rfl n8 t8 (fun G9 I9 c9 r9 n9 t9 a9 f9 z9 => ?_)
  refine r_aload_n dX10_init_84 rfl (i := 0) rfl ?_
  refine r_sipush (n := 1200) dX10_init_85 rfl ?_
  refine sArr (k := 100) (n := 1200) (j := 11) (at_ := 9) dX10_init_88 (Or.inl ⟨rfl, rfl⟩) ac_int (by decide) ⟨Nat.le_of_ble_eq_true rfl, Nat.le_of_ble_eq_true rfl⟩ rfl dX10_init_90 ff_X10_37 rfl ⟨_, rfl⟩ rfl n9 t9 (fun G10 I10 c10 r10 n10 t10 a10 f10 z10 => ?_)
  refine r_aload_n dX10_init_93 rfl (i := 0) rfl ?_
  refine r_sipush (n := 1200) dX10_init_94 rfl ?_
  refine sArr (k := 100) (n := 1200) (j := 12) (at_ := 10) dX10_init_97 (Or.inl ⟨rfl, rfl⟩) ac_int (by decide) ⟨Nat.le_of_ble_eq_true rfl, Nat.le_of_ble_eq_true rfl⟩ rfl dX10_init_99 ff_X10_40 rfl ⟨_, rfl⟩ rfl n10 t10 (fun G11 I11 c11 r11 n11 t11 a11 f11 z11 => ?_)
  refine r_aload_n dX10_init_102 rfl (i := 0) rfl ?_
  refine r_sipush (n := 1200) dX10_init_103 rfl ?_
  refine sArr (k := 100) (n := 1200) (j := 13) (at_ := 11) dX10_init_106 (Or.inl ⟨rfl, rfl⟩) ac_int (by decide) ⟨Nat.le_of_ble_eq_true rfl, Nat.le_of_ble_eq_true rfl⟩ rfl dX10_init_108 ff_X10_43 rfl ⟨_, rfl⟩ rfl n11 t11 (fun G12 I12 c12 r12 n12 t12 a12 f12 z12 => ?_)
  refine r_aload_n dX10_init_111 rfl (i := 0) rfl ?_
  refine r_sipush (n := 1200) dX10_init_112 rfl ?_
  refine sArr (k := 102) (n := 1200) (j := 14) (at_ := 12) dX10_init_115 (Or.inr (Or.inr ⟨rfl, rfl⟩)) ac_boolean (by decide) ⟨Nat.le_of_ble_eq_true rfl, Nat.le_of_ble_eq_true rfl⟩ rfl dX10_init_117 ff_X10_46 rfl ⟨_, rfl⟩ rfl n12 t12 (fun G13 I13 c13 r13 n13 t13 a13 f13 z13 => ?_)
  refine r_aload_n dX10_init_120 rfl (i := 0) rfl ?_
  refine r_sipush (n := 1200) dX10_init_121 rfl ?_
  refine sArr (k := 102) (n := 1200) (j := 15) (at_ := 13) dX10_init_124 (Or.inr (Or.inr ⟨rfl, rfl⟩)) ac_boolean (by decide) ⟨Nat.le_of_ble_eq_true rfl, Nat.le_of_ble_eq_true rfl⟩ rfl dX10_init_126 ff_X10_50 rfl ⟨_, rfl⟩ rfl n13 t13 (fun G14 I14 c14 r14 n14 t14 a14 f14 z14 => ?_)
  refine r_aload_n dX10_init_129 rfl (i := 0) rfl ?_
  refine r_sipush (n := 1200) dX10_init_130 rfl ?_
  refine sArr (k := 102) (n := 1200) (j := 16) (at_ := 14) dX10_init_133 (Or.inr (Or.inr ⟨rfl, rfl⟩)) ac_boolean (by decide) ⟨Nat.le_of_ble_eq_true rfl, Nat.le_of_ble_eq_true rfl⟩ rfl dX10_init_135 ff_X10_53 rfl ⟨_, rfl⟩ rfl n14 t14 (fun G15 I15 c15 r15 n15 t15 a15 f15 z15 => ?_)
  refine r_aload_n dX10_init_138 rfl (i := 0) rfl ?_
  refine r_sipush (n := 25221) dX10_init_139 rfl ?_
  refine sArr (k := 100) (n := 25221) (j := 18) (at_ := 15) dX10_init_142 (Or.inl ⟨rfl, rfl⟩) ac_int (by decide) ⟨Nat.le_of_ble_eq_true rfl, Nat.le_of_ble_eq_true rfl⟩ rfl dX10_init_144 ff_X10_56 rfl ⟨_, rfl⟩ rfl n15 t15 (fun G16 I16 c16 r16 n16 t16 a16 f16 z16 => ?_)
  refine r_aload_n dX10_init_147 rfl (i := 0) rfl ?_
  refine r_sipush (n := 25221) dX10_init_148 rfl ?_
  refine sArr (k := 100) (n := 25221) (j := 19) (at_ := 16) dX10_init_151 (Or.inl ⟨rfl, rfl⟩) ac_int (by decide) ⟨Nat.le_of_ble_eq_true rfl, Nat.le_of_ble_eq_true rfl⟩ rfl dX10_init_153 ff_X10_59 rfl ⟨_, rfl⟩ rfl n16 t16 (fun G17 I17 c17 r17 n17 t17 a17 f17 z17 => ?_)
  refine r_aload_n dX10_init_156 rfl (i := 0) rfl ?_
  refine r_sipush (n := 200) dX10_init_157 rfl ?_
  refine sArr (k := 100) (n := 200) (j := 22) (at_ := 17) dX10_init_160 (Or.inl ⟨rfl, rfl⟩) ac_int (by decide) ⟨Nat.le_of_ble_eq_true rfl, Nat.le_of_ble_eq_true rfl⟩ rfl dX10_init_162 ff_X10_62 rfl ⟨_, rfl⟩ rfl n17 t17 (fun G18 I18 c18 r18 n18 t18 a18 f18 z18 => ?_)
  refine r_aload_n dX10_init_165 rfl (i := 0) rfl ?_
  refine r_sipush (n := 200) dX10_init_166 rfl ?_
  refine sArr (k := 100) (n := 200) (j := 23) (at_ := 18) dX10_init_169 (Or.inl ⟨rfl, rfl⟩) ac_int (by decide) ⟨Nat.le_of_ble_eq_true rfl, Nat.le_of_ble_eq_true rfl⟩ rfl dX10_init_171 ff_X10_65 rfl ⟨_, rfl⟩ rfl n18 t18 (fun G19 I19 c19 r19 n19 t19 a19 f19 z19 => ?_)
  refine r_aload_n dX10_init_174 rfl (i := 0) rfl ?_
  refine r_sipush (n := 300) dX10_init_175 rfl ?_
  refine sArr (k := 100) (n := 300) (j := 25) (at_ := 19) dX10_init_178 (Or.inl ⟨rfl, rfl⟩) ac_int (by decide) ⟨Nat.le_of_ble_eq_true rfl, Nat.le_of_ble_eq_true rfl⟩ rfl dX10_init_180 ff_X10_68 rfl ⟨_, rfl⟩ rfl n19 t19 (fun G20 I20 c20 r20 n20 t20 a20 f20 z20 => ?_)
  refine r_aload_n dX10_init_183 rfl (i := 0) rfl ?_
  refine r_sipush (n := 240) dX10_init_184 rfl ?_
  refine sArr (k := 100) (n := 240) (j := 27) (at_ := 20) dX10_init_187 (Or.inl ⟨rfl, rfl⟩) ac_int (by decide) ⟨Nat.le_of_ble_eq_true rfl, Nat.le_of_ble_eq_true rfl⟩ rfl dX10_init_189 ff_X10_71 rfl ⟨_, rfl⟩ rfl n20 t20 (fun G21 I21 c21 r21 n21 t21 a21 f21 z21 => ?_)
  refine r_aload_n dX10_init_192 rfl (i := 0) rfl ?_
  refine r_iconst (n := (-1)) dX10_init_193 ?_
  refine rr_putI (jj := 32) dX10_init_194 fp_X10_74 rfl rfl (lt1 n21) t21 ⟨by decide, by decide⟩ (fun J21 h21 => ?_)
  refine r_aload_n dX10_init_197 rfl (i := 0) rfl ?_
  refine r_sipush (n := 200) dX10_init_198 rfl ?_
  refine sArr (k := 100) (n := 200) (j := 33) (at_ := 21) dX10_init_201 (Or.inl ⟨rfl, rfl⟩) ac_int (by decide) ⟨Nat.le_of_ble_eq_true rfl, Nat.le_of_ble_eq_true rfl⟩ rfl dX10_init_203 ff_X10_78 rfl ⟨_, rfl⟩ rfl n21 t21 (fun G22 I22 c22 r22 n22 t22 a22 f22 z22 => ?_)
  refine r_aload_n dX10_init_206 rfl (i := 0) rfl ?_
  refine r_sipush (n := 200) dX10_init_207 rfl ?_
  refine sArr (k := 100) (n := 200) (j := 34) (at_ := 22) dX10_init_210 (Or.inl ⟨rfl, rfl⟩) ac_int (by decide) ⟨Nat.le_of_ble_eq_true rfl, Nat.le_of_ble_eq_true rfl⟩ rfl dX10_init_212 ff_X10_81 rfl ⟨_, rfl⟩ rfl n22 t22 (fun G23 I23 c23 r23 n23 t23 a23 f23 z23 => ?_)
  refine r_aload_n dX10_init_215 rfl (i := 0) rfl ?_
  refine r_sipush (n := 1052) dX10_init_216 rfl ?_
  refine sArr (k := 100) (n := 1052) (j := 35) (at_ := 23) dX10_init_219 (Or.inl ⟨rfl, rfl⟩) ac_int (by decide) ⟨Nat.le_of_ble_eq_true rfl, Nat.le_of_ble_eq_true rfl⟩ rfl dX10_init_221 ff_X10_84 rfl ⟨_, rfl⟩ rfl n23 t23 (fun G24 I24 c24 r24 n24 t24 a24 f24 z24 => ?_)
  refine r_aload_n dX10_init_224 rfl (i := 0) rfl ?_
  refine r_bipush (n := 31) dX10_init_225 rfl ?_
  refine sArr (k := 100) (n := 31) (j := 36) (at_ := 24) dX10_init_227 (Or.inl ⟨rfl, rfl⟩) ac_int (by decide) ⟨Nat.le_of_ble_eq_true rfl, Nat.le_of_ble_eq_true rfl⟩ rfl dX10_init_229 ff_X10_87 rfl ⟨_, rfl⟩ rfl n24 t24 (fun G25 I25 c25 r25 n25 t25 a25 f25 z25 => ?_)
  refine r_aload_n dX10_init_232 rfl (i := 0) rfl ?_
  refine r_sipush (n := 6200) dX10_init_233 rfl ?_
  refine sArr (k := 100) (n := 6200) (j := 37) (at_ := 25) dX10_init_236 (Or.inl ⟨rfl, rfl⟩) ac_int (by decide) ⟨Nat.le_of_ble_eq_true rfl, Nat.le_of_ble_eq_true rfl⟩ rfl dX10_init_238 ff_X10_90 rfl ⟨_, rfl⟩ rfl n25 t25 (fun G26 I26 c26 r26 n26 t26 a26 f26 z26 => ?_)
  refine r_aload_n dX10_init_241 rfl (i := 0) rfl ?_
  refine r_sipush (n := 496) dX10_init_242 rfl ?_
  refine sArr (k := 100) (n := 496) (j := 38) (at_ := 26) dX10_init_245 (Or.inl ⟨rfl, rfl⟩) ac_int (by decide) ⟨Nat.le_of_ble_eq_true rfl, Nat.le_of_ble_eq_true rfl⟩ rfl dX10_init_247 ff_X10_93 rfl ⟨_, rfl⟩ rfl n26 t26 (fun G27 I27 c27 r27 n27 t27 a27 f27 z27 => ?_)
  refine r_aload_n dX10_init_250 rfl (i := 0) rfl ?_
  refine r_bipush (n := 31) dX10_init_251 rfl ?_
  refine sArr (k := 100) (n := 31) (j := 39) (at_ := 27) dX10_init_253 (Or.inl ⟨rfl, rfl⟩) ac_int (by decide) ⟨Nat.le_of_ble_eq_true rfl, Nat.le_of_ble_eq_true rfl⟩ rfl dX10_init_255 ff_X10_96 rfl ⟨_, rfl⟩ rfl n27 t27 (fun G28 I28 c28 r28 n28 t28 a28 f28 z28 => ?_)
  have y28 : Gs a [] G28 G28 I28 I28 := Gs.refl
  have y27 := Gs.trans c28 y28
  have y26 := Gs.trans c27 y27
  have y25 := Gs.trans c26 y26
  have y24 := Gs.trans c25 y25
  have y23 := Gs.trans c24 y24
  have y22 := Gs.trans c23 y23
  have x21 := Gs.trans c22 y22
  have y21 := Gs.trans (gs_mem h21) x21
  have y20 := Gs.trans c21 y21
  have y19 := Gs.trans c20 y20
  have y18 := Gs.trans c19 y19
  have y17 := Gs.trans c18 y18
  have y16 := Gs.trans c17 y17
  have y15 := Gs.trans c16 y16
  have y14 := Gs.trans c15 y15
  have y13 := Gs.trans c14 y14
  have y12 := Gs.trans c13 y13
  have y11 := Gs.trans c12 y12
  have y10 := Gs.trans c11 y11
  have y9 := Gs.trans c10 y10
  have y8 := Gs.trans c9 y9
  have y7 := Gs.trans c8 y8
  have y6 := Gs.trans c7 y7
  have y5 := Gs.trans c6 y6
  have y4 := Gs.trans c5 y5
  have y3 := Gs.trans c4 y4
  have y2 := Gs.trans c3 y3
  have y1 := Gs.trans c2 y2
  have y0 := Gs.trans c1 y1
  have ra : I28 a = up (I a) 32 (-1) := by rw [r28, r27, r26, r25, r24, r23, r22, jup_up h21, r21, r20, r19, r18, r17, r16, r15, r14, r13, r12, r11, r10, r9, r8, r7, r6, r5, r4, r3, r2, r1]
  have v1 : G28.1 a 0 = some (a + 1) := y1.fld (by decide) (f1.trans (congrArg some (a1p a 0 1 rfl)))
  have w1 : G28.2.1 (a + 1) = (100, 22094) := Gs.shp2 y1 n1 (by decide) (by decide) a1
  have v2 : G28.1 a 1 = some (a + 2) := y2.fld (by decide) (f2.trans (congrArg some (a1p a 1 2 rfl)))
  have w2 : G28.2.1 (a + 2) = (100, 22094) := Gs.shp2 y2 n2 (by decide) (by decide) a2
  have v3 : G28.1 a 2 = some (a + 3) := y3.fld (by decide) (f3.trans (congrArg some (a1p a 2 3 rfl)))
  have w3 : G28.2.1 (a + 3) = (100, 200) := Gs.shp2 y3 n3 (by decide) (by decide) a3
  have v4 : G28.1 a 3 = some (a + 4) := y4.fld (by decide) (f4.trans (congrArg some (a1p a 3 4 rfl)))
  have w4 : G28.2.1 (a + 4) = (100, 200) := Gs.shp2 y4 n4 (by decide) (by decide) a4
  have v5 : G28.1 a 5 = some (a + 5) := y5.fld (by decide) (f5.trans (congrArg some (a1p a 4 5 rfl)))
  have w5 : G28.2.1 (a + 5) = (100, 12) := Gs.shp2 y5 n5 (by decide) (by decide) a5
  have v6 : G28.1 a 6 = some (a + 6) := y6.fld (by decide) (f6.trans (congrArg some (a1p a 5 6 rfl)))
  have w6 : G28.2.1 (a + 6) = (100, 2000) := Gs.shp2 y6 n6 (by decide) (by decide) a6
  have v7 : G28.1 a 8 = some (a + 7) := y7.fld (by decide) (f7.trans (congrArg some (a1p a 6 7 rfl)))
  have w7 : G28.2.1 (a + 7) = (100, 1200) := Gs.shp2 y7 n7 (by decide) (by decide) a7
  have v8 : G28.1 a 9 = some (a + 8) := y8.fld (by decide) (f8.trans (congrArg some (a1p a 7 8 rfl)))
  have w8 : G28.2.1 (a + 8) = (100, 1200) := Gs.shp2 y8 n8 (by decide) (by decide) a8
  have v9 : G28.1 a 10 = some (a + 9) := y9.fld (by decide) (f9.trans (congrArg some (a1p a 8 9 rfl)))
  have w9 : G28.2.1 (a + 9) = (100, 1200) := Gs.shp2 y9 n9 (by decide) (by decide) a9
  have v10 : G28.1 a 11 = some (a + 10) := y10.fld (by decide) (f10.trans (congrArg some (a1p a 9 10 rfl)))
  have w10 : G28.2.1 (a + 10) = (100, 1200) := Gs.shp2 y10 n10 (by decide) (by decide) a10
  have v11 : G28.1 a 12 = some (a + 11) := y11.fld (by decide) (f11.trans (congrArg some (a1p a 10 11 rfl)))
  have w11 : G28.2.1 (a + 11) = (100, 1200) := Gs.shp2 y11 n11 (by decide) (by decide) a11
  have v12 : G28.1 a 13 = some (a + 12) := y12.fld (by decide) (f12.trans (congrArg some (a1p a 11 12 rfl)))
  have w12 : G28.2.1 (a + 12) = (100, 1200) := Gs.shp2 y12 n12 (by decide) (by decide) a12
  have v13 : G28.1 a 14 = some (a + 13) := y13.fld (by decide) (f13.trans (congrArg some (a1p a 12 13 rfl)))
  have w13 : G28.2.1 (a + 13) = (102, 1200) := Gs.shp2 y13 n13 (by decide) (by decide) a13
  have v14 : G28.1 a 15 = some (a + 14) := y14.fld (by decide) (f14.trans (congrArg some (a1p a 13 14 rfl)))
  have w14 : G28.2.1 (a + 14) = (102, 1200) := Gs.shp2 y14 n14 (by decide) (by decide) a14
  have v15 : G28.1 a 16 = some (a + 15) := y15.fld (by decide) (f15.trans (congrArg some (a1p a 14 15 rfl)))
  have w15 : G28.2.1 (a + 15) = (102, 1200) := Gs.shp2 y15 n15 (by decide) (by decide) a15
  have v16 : G28.1 a 18 = some (a + 16) := y16.fld (by decide) (f16.trans (congrArg some (a1p a 15 16 rfl)))
  have w16 : G28.2.1 (a + 16) = (100, 25221) := Gs.shp2 y16 n16 (by decide) (by decide) a16
  have v17 : G28.1 a 19 = some (a + 17) := y17.fld (by decide) (f17.trans (congrArg some (a1p a 16 17 rfl)))
  have w17 : G28.2.1 (a + 17) = (100, 25221) := Gs.shp2 y17 n17 (by decide) (by decide) a17
  have v18 : G28.1 a 22 = some (a + 18) := y18.fld (by decide) (f18.trans (congrArg some (a1p a 17 18 rfl)))
  have w18 : G28.2.1 (a + 18) = (100, 200) := Gs.shp2 y18 n18 (by decide) (by decide) a18
  have v19 : G28.1 a 23 = some (a + 19) := y19.fld (by decide) (f19.trans (congrArg some (a1p a 18 19 rfl)))
  have w19 : G28.2.1 (a + 19) = (100, 200) := Gs.shp2 y19 n19 (by decide) (by decide) a19
  have v20 : G28.1 a 25 = some (a + 20) := y20.fld (by decide) (f20.trans (congrArg some (a1p a 19 20 rfl)))
  have w20 : G28.2.1 (a + 20) = (100, 300) := Gs.shp2 y20 n20 (by decide) (by decide) a20
  have v21 : G28.1 a 27 = some (a + 21) := y21.fld (by decide) (f21.trans (congrArg some (a1p a 20 21 rfl)))
  have w21 : G28.2.1 (a + 21) = (100, 240) := Gs.shp2 y21 n21 (by decide) (by decide) a21
  have v22 : G28.1 a 33 = some (a + 22) := y22.fld (by decide) (f22.trans (congrArg some (a1p a 21 22 rfl)))
  have w22 : G28.2.1 (a + 22) = (100, 200) := Gs.shp2 y22 n22 (by decide) (by decide) a22
  have v23 : G28.1 a 34 = some (a + 23) := y23.fld (by decide) (f23.trans (congrArg some (a1p a 22 23 rfl)))
  have w23 : G28.2.1 (a + 23) = (100, 200) := Gs.shp2 y23 n23 (by decide) (by decide) a23
  have v24 : G28.1 a 35 = some (a + 24) := y24.fld (by decide) (f24.trans (congrArg some (a1p a 23 24 rfl)))
  have w24 : G28.2.1 (a + 24) = (100, 1052) := Gs.shp2 y24 n24 (by decide) (by decide) a24
  have v25 : G28.1 a 36 = some (a + 25) := y25.fld (by decide) (f25.trans (congrArg some (a1p a 24 25 rfl)))
  have w25 : G28.2.1 (a + 25) = (100, 31) := Gs.shp2 y25 n25 (by decide) (by decide) a25
  have v26 : G28.1 a 37 = some (a + 26) := y26.fld (by decide) (f26.trans (congrArg some (a1p a 25 26 rfl)))
  have w26 : G28.2.1 (a + 26) = (100, 6200) := Gs.shp2 y26 n26 (by decide) (by decide) a26
  have v27 : G28.1 a 38 = some (a + 27) := y27.fld (by decide) (f27.trans (congrArg some (a1p a 26 27 rfl)))
  have w27 : G28.2.1 (a + 27) = (100, 496) := Gs.shp2 y27 n27 (by decide) (by decide) a27
  have v28 : G28.1 a 39 = some (a + 28) := y28.fld (by decide) (f28.trans (congrArg some (a1p a 27 28 rfl)))
  have w28 : G28.2.1 (a + 28) = (100, 31) := Gs.shp2 y28 n28 (by decide) (by decide) a28
  have wv : WX10 G28 a := ⟨Nat.le_of_eq n28.symm, t28, v1, w1, v2, w2, v3, w3, v4, w4, v5, w5, v6, w6, v7, w7, v8, w8, v9, w9, v10, w10, v11, w11, v12, w12, v13, w13, v14, w14, v15, w15, v16, w16, v17, w17, v18, w18, v19, w19, v20, w20, v21, w21, v22, w22, v23, w23, v24, w24, v25, w25, v26, w26, v27, w27, v28, w28⟩
  have q1 : ∀ j, I28 (a + 1 + 0) j = 0 := fun j => (congrFun (y1.rows1 n1 (a1l a 0) (a1r2 a 0 1 (by decide))) j).trans (z1 j)
  have q2 : ∀ j, I28 (a + 1 + 1) j = 0 := fun j => (congrFun (y2.rows1 n2 (a1l a 1) (a1r2 a 1 2 (by decide))) j).trans (z2 j)
  have q3 : ∀ j, I28 (a + 1 + 2) j = 0 := fun j => (congrFun (y3.rows1 n3 (a1l a 2) (a1r2 a 2 3 (by decide))) j).trans (z3 j)
  have q4 : ∀ j, I28 (a + 1 + 3) j = 0 := fun j => (congrFun (y4.rows1 n4 (a1l a 3) (a1r2 a 3 4 (by decide))) j).trans (z4 j)
  have q5 : ∀ j, I28 (a + 1 + 4) j = 0 := fun j => (congrFun (y5.rows1 n5 (a1l a 4) (a1r2 a 4 5 (by decide))) j).trans (z5 j)
  have q6 : ∀ j, I28 (a + 1 + 5) j = 0 := fun j => (congrFun (y6.rows1 n6 (a1l a 5) (a1r2 a 5 6 (by decide))) j).trans (z6 j)
  have q7 : ∀ j, I28 (a + 1 + 6) j = 0 := fun j => (congrFun (y7.rows1 n7 (a1l a 6) (a1r2 a 6 7 (by decide))) j).trans (z7 j)
  have q8 : ∀ j, I28 (a + 1 + 7) j = 0 := fun j => (congrFun (y8.rows1 n8 (a1l a 7) (a1r2 a 7 8 (by decide))) j).trans (z8 j)
  have q9 : ∀ j, I28 (a + 1 + 8) j = 0 := fun j => (congrFun (y9.rows1 n9 (a1l a 8) (a1r2 a 8 9 (by decide))) j).trans (z9 j)
  have q10 : ∀ j, I28 (a + 1 + 9) j = 0 := fun j => (congrFun (y10.rows1 n10 (a1l a 9) (a1r2 a 9 10 (by decide))) j).trans (z10 j)
  have q11 : ∀ j, I28 (a + 1 + 10) j = 0 := fun j => (congrFun (y11.rows1 n11 (a1l a 10) (a1r2 a 10 11 (by decide))) j).trans (z11 j)
  have q12 : ∀ j, I28 (a + 1 + 11) j = 0 := fun j => (congrFun (y12.rows1 n12 (a1l a 11) (a1r2 a 11 12 (by decide))) j).trans (z12 j)
  have q13 : ∀ j, I28 (a + 1 + 12) j = 0 := fun j => (congrFun (y13.rows1 n13 (a1l a 12) (a1r2 a 12 13 (by decide))) j).trans (z13 j)
  have q14 : ∀ j, I28 (a + 1 + 13) j = 0 := fun j => (congrFun (y14.rows1 n14 (a1l a 13) (a1r2 a 13 14 (by decide))) j).trans (z14 j)
  have q15 : ∀ j, I28 (a + 1 + 14) j = 0 := fun j => (congrFun (y15.rows1 n15 (a1l a 14) (a1r2 a 14 15 (by decide))) j).trans (z15 j)
  have q16 : ∀ j, I28 (a + 1 + 15) j = 0 := fun j => (congrFun (y16.rows1 n16 (a1l a 15) (a1r2 a 15 16 (by decide))) j).trans (z16 j)
  have q17 : ∀ j, I28 (a + 1 + 16) j = 0 := fun j => (congrFun (y17.rows1 n17 (a1l a 16) (a1r2 a 16 17 (by decide))) j).trans (z17 j)
  have q18 : ∀ j, I28 (a + 1 + 17) j = 0 := fun j => (congrFun (y18.rows1 n18 (a1l a 17) (a1r2 a 17 18 (by decide))) j).trans (z18 j)
  have q19 : ∀ j, I28 (a + 1 + 18) j = 0 := fun j => (congrFun (y19.rows1 n19 (a1l a 18) (a1r2 a 18 19 (by decide))) j).trans (z19 j)
  have q20 : ∀ j, I28 (a + 1 + 19) j = 0 := fun j => (congrFun (y20.rows1 n20 (a1l a 19) (a1r2 a 19 20 (by decide))) j).trans (z20 j)
  have q21 : ∀ j, I28 (a + 1 + 20) j = 0 := fun j => (congrFun (y21.rows1 n21 (a1l a 20) (a1r2 a 20 21 (by decide))) j).trans (z21 j)
  have q22 : ∀ j, I28 (a + 1 + 21) j = 0 := fun j => (congrFun (y22.rows1 n22 (a1l a 21) (a1r2 a 21 22 (by decide))) j).trans (z22 j)
  have q23 : ∀ j, I28 (a + 1 + 22) j = 0 := fun j => (congrFun (y23.rows1 n23 (a1l a 22) (a1r2 a 22 23 (by decide))) j).trans (z23 j)
  have q24 : ∀ j, I28 (a + 1 + 23) j = 0 := fun j => (congrFun (y24.rows1 n24 (a1l a 23) (a1r2 a 23 24 (by decide))) j).trans (z24 j)
  have q25 : ∀ j, I28 (a + 1 + 24) j = 0 := fun j => (congrFun (y25.rows1 n25 (a1l a 24) (a1r2 a 24 25 (by decide))) j).trans (z25 j)
  have q26 : ∀ j, I28 (a + 1 + 25) j = 0 := fun j => (congrFun (y26.rows1 n26 (a1l a 25) (a1r2 a 25 26 (by decide))) j).trans (z26 j)
  have q27 : ∀ j, I28 (a + 1 + 26) j = 0 := fun j => (congrFun (y27.rows1 n27 (a1l a 26) (a1r2 a 26 27 (by decide))) j).trans (z27 j)
  have q28 : ∀ j, I28 (a + 1 + 27) j = 0 := fun j => (congrFun (y28.rows1 n28 (a1l a 27) (a1r2 a 27 28 (by decide))) j).trans (z28 j)
  refine hq G28 I28 _ (Nat.le_of_ble_eq_true rfl) (Nat.le_of_ble_eq_true rfl) wv n28 (y0.old hG) ra (fun b g0 g1 j => ?_)
  obtain ⟨i, hi, rfl⟩ := a1e g0 g1
  exact all28 (P := fun i => I28 (a + 1 + i) j = 0) (q1 j) (q2 j) (q3 j) (q4 j) (q5 j) (q6 j) (q7 j) (q8 j) (q9 j) (q10 j) (q11 j) (q12 j) (q13 j) (q14 j) (q15 j) (q16 j) (q17 j) (q18 j) (q19 j) (q20 j) (q21 j) (q22 j) (q23 j) (q24 j) (q25 j) (q26 j) (q27 j) (q28 j) i hi
theorem in_X10 {E : jE} {G : jG} {I : jM} {a : Nat} (hG : G.2.2 = a + 1) (hs : (G.2.1 a).1 = 10) : jRun E kX10_init [VR a] G I (fun r G' I' => r = VN ∧ WX10 G' a ∧ G'.2.2 = a + 29 ∧ (∀ b, b < a → G'.1 b = G.1 b ∧ G'.2.1 b = G.2.1 b ∧ I' b = I b) ∧ I' a = up (I a) 32 (-1) ∧ (∀ b, b = a + 1 ∨ b = a + 2 → ∀ j, 0 ≤ j → j < 22094 → I' b j = if j = 6 then 20 else 0)) := by
  refine jRun.of mt_X10_init.2.2.2 0 rfl (fun _ => ?_)
  refine in_X10a hG hs (fun G1 I1 u hu1 hu2 w n1 o1 r1 z1 => ?_)
  have l1 : a < G1.2.2 := by omega
  refine r_aload_n dX10_init_258 rfl (i := 0) rfl ?_
  refine rr_getR (b := a + 1) (jj := 0) dX10_init_259 fg_X10_7 rfl rfl l1 (wX10_s w) (wX10_r0 w) ?_
  refine r_bipush (n := 6) dX10_init_262 rfl ?_
  refine r_bipush (n := 20) dX10_init_264 rfl ?_
  refine rr_iastore dX10_init_266 (by omega) (wX10_a0 w) (by decide) ⟨by decide, by decide⟩ ⟨by decide, by decide⟩ (fun I2 e2 => ?_)
  refine r_aload_n dX10_init_267 rfl (i := 0) rfl ?_
  refine rr_getR (b := a + 1) (jj := 0) dX10_init_268 fg_X10_7 rfl rfl l1 (wX10_s w) (wX10_r0 w) ?_
  refine r_aload_n dX10_init_271 rfl (i := 0) rfl ?_
  refine rr_getR (b := a + 2) (jj := 1) dX10_init_272 fg_X10_13 rfl rfl l1 (wX10_s w) (wX10_r1 w) ?_
  refine r_callS (as := [VR (a + 1), VR (a + 2)]) dX10_init_275 mt_X10_copy ml_X10_99 ms_X10_copy rm_X10_init_X10_copy ⟨Nat.le_trans (Nat.add_le_add_right hu1 _) (Nat.le_of_ble_eq_true rfl), Nat.le_trans (Nat.add_le_add_right hu2 _) (Nat.le_of_ble_eq_true rfl)⟩ (Nat.le_of_ble_eq_true rfl) (jasR (jasR jas0)) (ref_copy w (a := a + 1) (b := a + 2) (Or.inl ⟨rfl, rfl⟩)) (fun r G3 I3 _ hr => ?_)
  obtain ⟨rfl, rfl, f3, p3, q3⟩ := hr
  refine r_vret dX10_init_278 rfl ⟨Nat.le_trans (Nat.add_le_add_right hu1 _) (Nat.le_of_ble_eq_true rfl), Nat.le_trans (Nat.add_le_add_right hu2 _) (Nat.le_of_ble_eq_true rfl)⟩ ⟨rfl, w, n1, fun b hb => ⟨(o1 b hb).1, (o1 b hb).2.1, ?_⟩, ?_, ?_⟩
  · funext y; rw [q3 b y (by omega), jr_na e2 (by omega), (o1 b hb).2.2]
  · funext y; rw [q3 a y (by omega), jr_na e2 (by omega), r1]
  · have g : ∀ j, 0 ≤ j → j < 22094 → I2 (a + 1) j = if j = 6 then 20 else 0 := fun j q0 q1 => by
      rw [jup_up e2]
      unfold up
      by_cases h6 : j = 6
      · rw [if_pos h6, if_pos h6]
      · rw [if_neg h6, if_neg h6]; exact z1 (a + 1) (by omega) (by omega) j
    intro b hb j q0 q1
    rcases hb with rfl | rfl
    · rw [q3 (a + 1) j (by omega)]; exact g j q0 q1
    · rw [p3 j q0 q1]; exact g j q0 q1
