/-! ===== the reference's constructor ===== -/
theorem sArr {E : jE} {K : jK} {G : jG} {I : jM} {a : Nat} {u : Nat × Nat} {Q : jV → jG → jM → Prop} {ls : List jV} {k n j at_ p1 p2 idx ci : Nat} {t : ArrayType} {ty : FieldType} (dN : decode K.2.1 p1 = .ok (.newarray t, 2)) (hk : (k = 100 ∧ t = .int) ∨ (k = 101 ∧ t = .byte) ∨ (k = 102 ∧ t = .boolean)) (hw : Cond.arrayClass (newarray.typeOf t) ∈ jTB) (hn : (n : Int) ≤ 100000) (hu : u.1 + 1 ≤ K.2.2.2.2.cells ∧ u.2 + n ≤ K.2.2.2.2.slots) (hp : p1 + 2 = p2) (dP : decode K.2.1 p2 = .ok (.putfield idx, 3)) (hf : jFF K.1.cls idx ci j ty) (hi : K.1.name = "<init>") (hty : ∃ t, ty = .array t) (hkk : jfk ci j = 1) (n0 : G.2.2 = a + 1 + at_) (t0 : (G.2.1 a).1 = ci) (hq : ∀ G' I', (Gs a [(j : Int)] G G' I I') → I' a = I a → G'.2.2 = a + 1 + (at_ + 1) → (G'.2.1 a).1 = ci → G'.2.1 (a + 1 + at_) = (k, n) → G'.1 a j = some (a + 1 + at_) → (∀ y, I' (a + 1 + at_) y = 0) → jOk E K (p2 + 3) ls [] G' I' (u.1 + 1, u.2 + n) Q) : jOk E K p1 ls [VI n, VR a] G I u Q := by
  subst hp
  refine r_newa (k := k) (n := n) dN hk hw hn hu ?_
  have c1 := gs_arr (a := a) (k := k) (n := n) (G := G) (I := I) (by omega)
  refine r_putF (j := j) dP hf hi (Or.inr hty) hkk (by rw [jn_3]; omega) (by rw [jn_2, if_neg (by omega)]; exact t0) ?_
  refine hq _ _ (Gs.trans c1.1 gs_put) c1.2 (by rw [jp_3, jn_3]; omega) ?_ ?_ ?_ (fun y => by rw [jn_4, if_pos n0.symm])
  · rw [jp_2, jn_2, if_neg (by omega)]; exact t0
  · rw [jp_2, jn_2, if_pos n0.symm]
  · rw [jp_1, if_pos ⟨rfl, rfl⟩, n0]
theorem in_X10a {E : jE} {G : jG} {I : jM} {a : Nat} {Q : jV → jG → jM → Prop} (hG : G.2.2 = a + 1) (hs : (G.2.1 a).1 = 10) (hq : ∀ G' I' u, u.1 ≤ 28 → u.2 ≤ 116992 → WX10 G' a → G'.2.2 = a + 29 → (∀ b, b < a → G'.1 b = G.1 b ∧ G'.2.1 b = G.2.1 b ∧ I' b = I b) → I' a = up (I a) 32 (-1) → (∀ b, a < b → b < a + 29 → ∀ j, I' b j = 0) → jOk E kX10_init 258 [VR a] [] G' I' u Q) : jOk E kX10_init 0 [VR a] [] G I (0, 0) Q := by
  refine r_aload_n dX10_init_0 rfl (i := 0) rfl ?_
  refine r_objInit dX10_init_1 ml_X10_1 w_obj ⟨Nat.le_of_ble_eq_true rfl, Nat.le_of_ble_eq_true rfl⟩ ?_
  have n0 : G.2.2 = a + 1 + 0 := hG
  have t0 := hs
  refine r_aload_n dX10_init_4 rfl (i := 0) rfl ?_
  refine r_sipush (n := 22094) dX10_init_5 rfl ?_
  refine sArr (k := 100) (n := 22094) (j := 0) (at_ := 0) dX10_init_8 (Or.inl ⟨rfl, rfl⟩) ac_int (by decide) ⟨Nat.le_of_ble_eq_true rfl, Nat.le_of_ble_eq_true rfl⟩ rfl dX10_init_10 ff_X10_7 rfl ⟨_, rfl⟩ rfl n0 t0 (fun G1 I1 c1 r1 n1 t1 a1 f1 z1 => ?_)
  refine r_aload_n dX10_init_13 rfl (i := 0) rfl ?_
  refine r_sipush (n := 22094) dX10_init_14 rfl ?_
  refine sArr (k := 100) (n := 22094) (j := 1) (at_ := 1) dX10_init_17 (Or.inl ⟨rfl, rfl⟩) ac_int (by decide) ⟨Nat.le_of_ble_eq_true rfl, Nat.le_of_ble_eq_true rfl⟩ rfl dX10_init_19 ff_X10_13 rfl ⟨_, rfl⟩ rfl n1 t1 (fun G2 I2 c2 r2 n2 t2 a2 f2 z2 => ?_)
  refine r_aload_n dX10_init_22 rfl (i := 0) rfl ?_
  refine r_sipush (n := 200) dX10_init_23 rfl ?_
  refine sArr (k := 100) (n := 200) (j := 2) (at_ := 2) dX10_init_26 (Or.inl ⟨rfl, rfl⟩) ac_int (by decide) ⟨Nat.le_of_ble_eq_true rfl, Nat.le_of_ble_eq_true rfl⟩ rfl dX10_init_28 ff_X10_16 rfl ⟨_, rfl⟩ rfl n2 t2 (fun G3 I3 c3 r3 n3 t3 a3 f3 z3 => ?_)
  refine r_aload_n dX10_init_31 rfl (i := 0) rfl ?_
  refine r_sipush (n := 200) dX10_init_32 rfl ?_
  refine sArr (k := 100) (n := 200) (j := 3) (at_ := 3) dX10_init_35 (Or.inl ⟨rfl, rfl⟩) ac_int (by decide) ⟨Nat.le_of_ble_eq_true rfl, Nat.le_of_ble_eq_true rfl⟩ rfl dX10_init_37 ff_X10_19 rfl ⟨_, rfl⟩ rfl n3 t3 (fun G4 I4 c4 r4 n4 t4 a4 f4 z4 => ?_)
  refine r_aload_n dX10_init_40 rfl (i := 0) rfl ?_
  refine r_bipush (n := 12) dX10_init_41 rfl ?_
  refine sArr (k := 100) (n := 12) (j := 5) (at_ := 4) dX10_init_43 (Or.inl ⟨rfl, rfl⟩) ac_int (by decide) ⟨Nat.le_of_ble_eq_true rfl, Nat.le_of_ble_eq_true rfl⟩ rfl dX10_init_45 ff_X10_22 rfl ⟨_, rfl⟩ rfl n4 t4 (fun G5 I5 c5 r5 n5 t5 a5 f5 z5 => ?_)
  refine r_aload_n dX10_init_48 rfl (i := 0) rfl ?_
  refine r_sipush (n := 2000) dX10_init_49 rfl ?_
  refine sArr (k := 100) (n := 2000) (j := 6) (at_ := 5) dX10_init_52 (Or.inl ⟨rfl, rfl⟩) ac_int (by decide) ⟨Nat.le_of_ble_eq_true rfl, Nat.le_of_ble_eq_true rfl⟩ rfl dX10_init_54 ff_X10_25 rfl ⟨_, rfl⟩ rfl n5 t5 (fun G6 I6 c6 r6 n6 t6 a6 f6 z6 => ?_)
  refine r_aload_n dX10_init_57 rfl (i := 0) rfl ?_
  refine r_sipush (n := 1200) dX10_init_58 rfl ?_
  refine sArr (k := 100) (n := 1200) (j := 8) (at_ := 6) dX10_init_61 (Or.inl ⟨rfl, rfl⟩) ac_int (by decide) ⟨Nat.le_of_ble_eq_true rfl, Nat.le_of_ble_eq_true rfl⟩ rfl dX10_init_63 ff_X10_28 rfl ⟨_, rfl⟩ rfl n6 t6 (fun G7 I7 c7 r7 n7 t7 a7 f7 z7 => ?_)
  refine r_aload_n dX10_init_66 rfl (i := 0) rfl ?_
  refine r_sipush (n := 1200) dX10_init_67 rfl ?_
  refine sArr (k := 100) (n := 1200) (j := 9) (at_ := 7) dX10_init_70 (Or.inl ⟨rfl, rfl⟩) ac_int (by decide) ⟨Nat.le_of_ble_eq_true rfl, Nat.le_of_ble_eq_true rfl⟩ rfl dX10_init_72 ff_X10_31 rfl ⟨_, rfl⟩ rfl n7 t7 (fun G8 I8 c8 r8 n8 t8 a8 f8 z8 => ?_)
  refine r_aload_n dX10_init_75 rfl (i := 0) rfl ?_
  refine r_sipush (n := 1200) dX10_init_76 rfl ?_
  refine sArr (k := 100) (n := 1200) (j := 10) (at_ := 8) dX10_init_79 (Or.inl ⟨rfl, rfl⟩) ac_int (by decide) ⟨Nat.le_of_ble_eq_true rfl, Nat.le_of_ble_eq_true rfl⟩ rfl dX10_init_81 ff_X10_34 rfl ⟨_, rfl⟩ rfl n8 t8 (fun G9 I9 c9 r9 n9 t9 a9 f9 z9 => ?_)
  refine r_aload_n dX10_init_84 rfl (i := 0) rfl ?_
  refine r_sipush (n := 1200) dX10_init_85 rfl ?_
  refine sArr (k := 100) (n := 1200) (j := 11) (at_ := 9) dX10_init_88 (Or.inl ⟨rfl, rfl⟩) ac_int (by decide) ⟨Nat.le_of_ble_eq_true rfl, Nat.le_of_ble_eq_true rfl⟩ rfl dX10_init_90 ff_X10_37 rfl ⟨_, rfl⟩ rfl n9 t9 (fun G10 I10 c10 r10 n10 t10 a10 f10 z10 => ?_)
  refine r_aload_n dX10_init_93 rfl (i := 0) rfl ?_
  refine r_sipush (n := 1200) dX10_init_94 rfl ?_
  refine sArr (k := 100) (n := 1200) (j := 12) (at_ := 10) dX10_init_97 (Or.inl ⟨rfl, rfl⟩) ac_int (by decide) ⟨Nat.le_of_ble_eq_true rfl, Nat.le_of_ble_eq_true rfl⟩ rfl dX10_init_99 ff_X10_40 rfl ⟨_, rfl⟩ rfl n10 t10 (fun G11 I11 c11 r11 n11 t11 a11 f11 z11 => ?_)
  refine r_aload_n dX10_init_102 rfl (i := 0) rfl ?_
  refine r_sipush (n := 1200) dX10_init_103 rfl ?_
  refine sArr (k := 100) (n := 1200) (j := 13) (at_ := 11) dX10_init_106 (Or.inl ⟨rfl, rfl⟩) ac_int (by decide) ⟨Nat.le_of_ble_eq_true rfl, Nat.le_of_ble_eq_true rfl⟩ rfl dX10_init_108 ff_X10_43 rfl ⟨_, rfl⟩ rfl n11 t11 (fun G12 I12 c12 r12 n12 t12 a12 f12 z12 => ?_)
  refine r_aload_n dX10_init_111 rfl (i := 0) rfl ?_
  refine r_sipush (n := 1200) dX10_init_112 rfl ?_
  refine sArr (k := 102) (n := 1200) (j := 14) (at_ := 12) dX10_init_115 (Or.inr (Or.inr ⟨rfl, rfl⟩)) ac_boolean (by decide) ⟨Nat.le_of_ble_eq_true rfl, Nat.le_of_ble_eq_true rfl⟩ rfl dX10_init_117 ff_X10_46 rfl ⟨_, rfl⟩ rfl n12 t12 (fun G13 I13 c13 r13 n13 t13 a13 f13 z13 => ?_)
  refine r_aload_n dX10_init_120 rfl (i := 0) rfl ?_
  refine r_sipush (n := 1200) dX10_init_121 rfl ?_
  refine sArr (k := 102) (n := 1200) (j := 15) (at_ := 13) dX10_init_124 (Or.inr (Or.inr ⟨rfl, rfl⟩)) ac_boolean (by decide) ⟨Nat.le_of_ble_eq_true rfl, Nat.le_of_ble_eq_true rfl⟩ rfl dX10_init_126 ff_X10_50 rfl ⟨_, rfl⟩ rfl n13 t13 (fun G14 I14 c14 r14 n14 t14 a14 f14 z14 => ?_)
  refine r_aload_n dX10_init_129 rfl (i := 0) rfl ?_
  refine r_sipush (n := 1200) dX10_init_130 rfl ?_
  refine sArr (k := 102) (n := 1200) (j := 16) (at_ := 14) dX10_init_133 (Or.inr (Or.inr ⟨rfl, rfl⟩)) ac_boolean (by decide) ⟨Nat.le_of_ble_eq_true rfl, Nat.le_of_ble_eq_true rfl⟩ rfl dX10_init_135 ff_X10_53 rfl ⟨_, rfl⟩ rfl n14 t14 (fun G15 I15 c15 r15 n15 t15 a15 f15 z15 => ?_)
  refine r_aload_n dX10_init_138 rfl (i := 0) rfl ?_
  refine r_sipush (n := 25221) dX10_init_139 rfl ?_
  refine sArr (k := 100) (n := 25221) (j := 18) (at_ := 15) dX10_init_142 (Or.inl ⟨rfl, rfl⟩) ac_int (by decide) ⟨Nat.le_of_ble_eq_true rfl, Nat.le_of_ble_eq_true rfl⟩ rfl dX10_init_144 ff_X10_56 rfl ⟨_, rfl⟩ rfl n15 t15 (fun G16 I16 c16 r16 n16 t16 a16 f16 z16 => ?_)
  refine r_aload_n dX10_init_147 rfl (i := 0) rfl ?_
  refine r_sipush (n := 25221) dX10_init_148 rfl ?_
  refine sArr (k := 100) (n := 25221) (j := 19) (at_ := 16) dX10_init_151 (Or.inl ⟨rfl, rfl⟩) ac_int (by decide) ⟨Nat.le_of_ble_eq_true rfl, Nat.le_of_ble_eq_true rfl⟩ rfl dX10_init_153 ff_X10_59 rfl ⟨_, rfl⟩ rfl n16 t16 (fun G17 I17 c17 r17 n17 t17 a17 f17 z17 => ?_)
  refine r_aload_n dX10_init_156 rfl (i := 0) rfl ?_
  refine r_sipush (n := 200) dX10_init_157 rfl ?_
  refine sArr (k := 100) (n := 200) (j := 22) (at_ := 17) dX10_init_160 (Or.inl ⟨rfl, rfl⟩) ac_int (by decide) ⟨Nat.le_of_ble_eq_true rfl, Nat.le_of_ble_eq_true rfl⟩ rfl dX10_init_162 ff_X10_62 rfl ⟨_, rfl⟩ rfl n17 t17 (fun G18 I18 c18 r18 n18 t18 a18 f18 z18 => ?_)
  refine r_aload_n dX10_init_165 rfl (i := 0) rfl ?_
  refine r_sipush (n := 200) dX10_init_166 rfl ?_
  refine sArr (k := 100) (n := 200) (j := 23) (at_ := 18) dX10_init_169 (Or.inl ⟨rfl, rfl⟩) ac_int (by decide) ⟨Nat.le_of_ble_eq_true rfl, Nat.le_of_ble_eq_true rfl⟩ rfl dX10_init_171 ff_X10_65 rfl ⟨_, rfl⟩ rfl n18 t18 (fun G19 I19 c19 r19 n19 t19 a19 f19 z19 => ?_)
  refine r_aload_n dX10_init_174 rfl (i := 0) rfl ?_
  refine r_sipush (n := 300) dX10_init_175 rfl ?_
  refine sArr (k := 100) (n := 300) (j := 25) (at_ := 19) dX10_init_178 (Or.inl ⟨rfl, rfl⟩) ac_int (by decide) ⟨Nat.le_of_ble_eq_true rfl, Nat.le_of_ble_eq_true rfl⟩ rfl dX10_init_180 ff_X10_68 rfl ⟨_, rfl⟩ rfl n19 t19 (fun G20 I20 c20 r20 n20 t20 a20 f20 z20 => ?_)
  refine r_aload_n dX10_init_183 rfl (i := 0) rfl ?_
  refine r_sipush (n := 240) dX10_init_184 rfl ?_
  refine sArr (k := 100) (n := 240) (j := 27) (at_ := 20) dX10_init_187 (Or.inl ⟨rfl, rfl⟩) ac_int (by decide) ⟨Nat.le_of_ble_eq_true rfl, Nat.le_of_ble_eq_true rfl⟩ rfl dX10_init_189 ff_X10_71 rfl ⟨_, rfl⟩ rfl n20 t20 (fun G21 I21 c21 r21 n21 t21 a21 f21 z21 => ?_)
  refine r_aload_n dX10_init_192 rfl (i := 0) rfl ?_
  refine r_iconst (n := (-1)) dX10_init_193 ?_
  refine rr_putI (jj := 32) dX10_init_194 fp_X10_74 rfl rfl (by omega) t21 ⟨by decide, by decide⟩ (fun J21 h21 => ?_)
  refine r_aload_n dX10_init_197 rfl (i := 0) rfl ?_
  refine r_sipush (n := 200) dX10_init_198 rfl ?_
  refine sArr (k := 100) (n := 200) (j := 33) (at_ := 21) dX10_init_201 (Or.inl ⟨rfl, rfl⟩) ac_int (by decide) ⟨Nat.le_of_ble_eq_true rfl, Nat.le_of_ble_eq_true rfl⟩ rfl dX10_init_203 ff_X10_78 rfl ⟨_, rfl⟩ rfl n21 t21 (fun G22 I22 c22 r22 n22 t22 a22 f22 z22 => ?_)
  refine r_aload_n dX10_init_206 rfl (i := 0) rfl ?_
  refine r_sipush (n := 200) dX10_init_207 rfl ?_
  refine sArr (k := 100) (n := 200) (j := 34) (at_ := 22) dX10_init_210 (Or.inl ⟨rfl, rfl⟩) ac_int (by decide) ⟨Nat.le_of_ble_eq_true rfl, Nat.le_of_ble_eq_true rfl⟩ rfl dX10_init_212 ff_X10_81 rfl ⟨_, rfl⟩ rfl n22 t22 (fun G23 I23 c23 r23 n23 t23 a23 f23 z23 => ?_)
  refine r_aload_n dX10_init_215 rfl (i := 0) rfl ?_
  refine r_sipush (n := 1052) dX10_init_216 rfl ?_
  refine sArr (k := 100) (n := 1052) (j := 35) (at_ := 23) dX10_init_219 (Or.inl ⟨rfl, rfl⟩) ac_int (by decide) ⟨Nat.le_of_ble_eq_true rfl, Nat.le_of_ble_eq_true rfl⟩ rfl dX10_init_221 ff_X10_84 rfl ⟨_, rfl⟩ rfl n23 t23 (fun G24 I24 c24 r24 n24 t24 a24 f24 z24 => ?_)
  refine r_aload_n dX10_init_224 rfl (i := 0) rfl ?_
  refine r_bipush (n := 31) dX10_init_225 rfl ?_
  refine sArr (k := 100) (n := 31) (j := 36) (at_ := 24) dX10_init_227 (Or.inl ⟨rfl, rfl⟩) ac_int (by decide) ⟨Nat.le_of_ble_eq_true rfl, Nat.le_of_ble_eq_true rfl⟩ rfl dX10_init_229 ff_X10_87 rfl ⟨_, rfl⟩ rfl n24 t24 (fun G25 I25 c25 r25 n25 t25 a25 f25 z25 => ?_)
  refine r_aload_n dX10_init_232 rfl (i := 0) rfl ?_
  refine r_sipush (n := 6200) dX10_init_233 rfl ?_
  refine sArr (k := 100) (n := 6200) (j := 37) (at_ := 25) dX10_init_236 (Or.inl ⟨rfl, rfl⟩) ac_int (by decide) ⟨Nat.le_of_ble_eq_true rfl, Nat.le_of_ble_eq_true rfl⟩ rfl dX10_init_238 ff_X10_90 rfl ⟨_, rfl⟩ rfl n25 t25 (fun G26 I26 c26 r26 n26 t26 a26 f26 z26 => ?_)
  refine r_aload_n dX10_init_241 rfl (i := 0) rfl ?_
  refine r_sipush (n := 496) dX10_init_242 rfl ?_
  refine sArr (k := 100) (n := 496) (j := 38) (at_ := 26) dX10_init_245 (Or.inl ⟨rfl, rfl⟩) ac_int (by decide) ⟨Nat.le_of_ble_eq_true rfl, Nat.le_of_ble_eq_true rfl⟩ rfl dX10_init_247 ff_X10_93 rfl ⟨_, rfl⟩ rfl n26 t26 (fun G27 I27 c27 r27 n27 t27 a27 f27 z27 => ?_)
  refine r_aload_n dX10_init_250 rfl (i := 0) rfl ?_
  refine r_bipush (n := 31) dX10_init_251 rfl ?_
  refine sArr (k := 100) (n := 31) (j := 39) (at_ := 27) dX10_init_253 (Or.inl ⟨rfl, rfl⟩) ac_int (by decide) ⟨Nat.le_of_ble_eq_true rfl, Nat.le_of_ble_eq_true rfl⟩ rfl dX10_init_255 ff_X10_96 rfl ⟨_, rfl⟩ rfl n27 t27 (fun G28 I28 c28 r28 n28 t28 a28 f28 z28 => ?_)
  have y28 : Gs a [] G28 G28 I28 I28 := Gs.refl
  have y27 := Gs.trans c28 y28
  have y26 := Gs.trans c27 y27
  have y25 := Gs.trans c26 y26
  have y24 := Gs.trans c25 y25
  have y23 := Gs.trans c24 y24
  have y22 := Gs.trans c23 y23
  have x21 := Gs.trans c22 y22
  have y21 := Gs.trans (⟨Nat.le_refl _, fun b _ => ⟨rfl, fun q => ⟨rfl, by funext y; exact jr_na h21 q⟩⟩, fun _ _ => rfl⟩ : Gs a [] G21 G21 I21 J21) x21
  have y20 := Gs.trans c21 y21
  have y19 := Gs.trans c20 y20
  have y18 := Gs.trans c19 y19
  have y17 := Gs.trans c18 y18
  have y16 := Gs.trans c17 y17
  have y15 := Gs.trans c16 y16
  have y14 := Gs.trans c15 y15
  have y13 := Gs.trans c14 y14
  have y12 := Gs.trans c13 y13
  have y11 := Gs.trans c12 y12
  have y10 := Gs.trans c11 y11
  have y9 := Gs.trans c10 y10
  have y8 := Gs.trans c9 y9
  have y7 := Gs.trans c8 y8
  have y6 := Gs.trans c7 y7
  have y5 := Gs.trans c6 y6
  have y4 := Gs.trans c5 y5
  have y3 := Gs.trans c4 y4
  have y2 := Gs.trans c3 y3
  have y1 := Gs.trans c2 y2
  have y0 := Gs.trans c1 y1
  have ra : I28 a = up (I a) 32 (-1) := by rw [r28, r27, r26, r25, r24, r23, r22, jup_up h21, r21, r20, r19, r18, r17, r16, r15, r14, r13, r12, r11, r10, r9, r8, r7, r6, r5, r4, r3, r2, r1]
  clear r1 r2 r3 r4 r5 r6 r7 r8 r9 r10 r11 r12 r13 r14 r15 r16 r17 r18 r19 r20 r21 r22 r23 r24 r25 r26 r27 r28 c1 c2 c3 c4 c5 c6 c7 c8 c9 c10 c11 c12 c13 c14 c15 c16 c17 c18 c19 c20 c21 c22 c23 c24 c25 c26 c27 c28 t0 t1 t2 t3 t4 t5 t6 t7 t8 t9 t10 t11 t12 t13 t14 t15 t16 t17 t18 t19 t20 t21 t22 t23 t24 t25 t26 t27 t28
  have wv : WX10 G28 a := ⟨by omega, by rw [(y0.2.1 a (by omega)).1]; exact hs, (y1.2.2 0 (by decide)).trans (f1.trans (congrArg some (by omega))), by rw [show a + 1 = a + 1 + 0 by omega, (y1.2.1 (a + 1 + 0) (by omega)).1]; exact a1, (y2.2.2 1 (by decide)).trans (f2.trans (congrArg some (by omega))), by rw [show a + 2 = a + 1 + 1 by omega, (y2.2.1 (a + 1 + 1) (by omega)).1]; exact a2, (y3.2.2 2 (by decide)).trans (f3.trans (congrArg some (by omega))), by rw [show a + 3 = a + 1 + 2 by omega, (y3.2.1 (a + 1 + 2) (by omega)).1]; exact a3, (y4.2.2 3 (by decide)).trans (f4.trans (congrArg some (by omega))), by rw [show a + 4 = a + 1 + 3 by omega, (y4.2.1 (a + 1 + 3) (by omega)).1]; exact a4, (y5.2.2 5 (by decide)).trans (f5.trans (congrArg some (by omega))), by rw [show a + 5 = a + 1 + 4 by omega, (y5.2.1 (a + 1 + 4) (by omega)).1]; exact a5, (y6.2.2 6 (by decide)).trans (f6.trans (congrArg some (by omega))), by rw [show a + 6 = a + 1 + 5 by omega, (y6.2.1 (a + 1 + 5) (by omega)).1]; exact a6, (y7.2.2 8 (by decide)).trans (f7.trans (congrArg some (by omega))), by rw [show a + 7 = a + 1 + 6 by omega, (y7.2.1 (a + 1 + 6) (by omega)).1]; exact a7, (y8.2.2 9 (by decide)).trans (f8.trans (congrArg some (by omega))), by rw [show a + 8 = a + 1 + 7 by omega, (y8.2.1 (a + 1 + 7) (by omega)).1]; exact a8, (y9.2.2 10 (by decide)).trans (f9.trans (congrArg some (by omega))), by rw [show a + 9 = a + 1 + 8 by omega, (y9.2.1 (a + 1 + 8) (by omega)).1]; exact a9, (y10.2.2 11 (by decide)).trans (f10.trans (congrArg some (by omega))), by rw [show a + 10 = a + 1 + 9 by omega, (y10.2.1 (a + 1 + 9) (by omega)).1]; exact a10, (y11.2.2 12 (by decide)).trans (f11.trans (congrArg some (by omega))), by rw [show a + 11 = a + 1 + 10 by omega, (y11.2.1 (a + 1 + 10) (by omega)).1]; exact a11, (y12.2.2 13 (by decide)).trans (f12.trans (congrArg some (by omega))), by rw [show a + 12 = a + 1 + 11 by omega, (y12.2.1 (a + 1 + 11) (by omega)).1]; exact a12, (y13.2.2 14 (by decide)).trans (f13.trans (congrArg some (by omega))), by rw [show a + 13 = a + 1 + 12 by omega, (y13.2.1 (a + 1 + 12) (by omega)).1]; exact a13, (y14.2.2 15 (by decide)).trans (f14.trans (congrArg some (by omega))), by rw [show a + 14 = a + 1 + 13 by omega, (y14.2.1 (a + 1 + 13) (by omega)).1]; exact a14, (y15.2.2 16 (by decide)).trans (f15.trans (congrArg some (by omega))), by rw [show a + 15 = a + 1 + 14 by omega, (y15.2.1 (a + 1 + 14) (by omega)).1]; exact a15, (y16.2.2 18 (by decide)).trans (f16.trans (congrArg some (by omega))), by rw [show a + 16 = a + 1 + 15 by omega, (y16.2.1 (a + 1 + 15) (by omega)).1]; exact a16, (y17.2.2 19 (by decide)).trans (f17.trans (congrArg some (by omega))), by rw [show a + 17 = a + 1 + 16 by omega, (y17.2.1 (a + 1 + 16) (by omega)).1]; exact a17, (y18.2.2 22 (by decide)).trans (f18.trans (congrArg some (by omega))), by rw [show a + 18 = a + 1 + 17 by omega, (y18.2.1 (a + 1 + 17) (by omega)).1]; exact a18, (y19.2.2 23 (by decide)).trans (f19.trans (congrArg some (by omega))), by rw [show a + 19 = a + 1 + 18 by omega, (y19.2.1 (a + 1 + 18) (by omega)).1]; exact a19, (y20.2.2 25 (by decide)).trans (f20.trans (congrArg some (by omega))), by rw [show a + 20 = a + 1 + 19 by omega, (y20.2.1 (a + 1 + 19) (by omega)).1]; exact a20, (y21.2.2 27 (by decide)).trans (f21.trans (congrArg some (by omega))), by rw [show a + 21 = a + 1 + 20 by omega, (y21.2.1 (a + 1 + 20) (by omega)).1]; exact a21, (y22.2.2 33 (by decide)).trans (f22.trans (congrArg some (by omega))), by rw [show a + 22 = a + 1 + 21 by omega, (y22.2.1 (a + 1 + 21) (by omega)).1]; exact a22, (y23.2.2 34 (by decide)).trans (f23.trans (congrArg some (by omega))), by rw [show a + 23 = a + 1 + 22 by omega, (y23.2.1 (a + 1 + 22) (by omega)).1]; exact a23, (y24.2.2 35 (by decide)).trans (f24.trans (congrArg some (by omega))), by rw [show a + 24 = a + 1 + 23 by omega, (y24.2.1 (a + 1 + 23) (by omega)).1]; exact a24, (y25.2.2 36 (by decide)).trans (f25.trans (congrArg some (by omega))), by rw [show a + 25 = a + 1 + 24 by omega, (y25.2.1 (a + 1 + 24) (by omega)).1]; exact a25, (y26.2.2 37 (by decide)).trans (f26.trans (congrArg some (by omega))), by rw [show a + 26 = a + 1 + 25 by omega, (y26.2.1 (a + 1 + 25) (by omega)).1]; exact a26, (y27.2.2 38 (by decide)).trans (f27.trans (congrArg some (by omega))), by rw [show a + 27 = a + 1 + 26 by omega, (y27.2.1 (a + 1 + 26) (by omega)).1]; exact a27, (y28.2.2 39 (by decide)).trans (f28.trans (congrArg some (by omega))), by rw [show a + 28 = a + 1 + 27 by omega, (y28.2.1 (a + 1 + 27) (by omega)).1]; exact a28⟩
  refine hq G28 I28 _ (Nat.le_of_ble_eq_true rfl) (Nat.le_of_ble_eq_true rfl) wv n28 (fun b hb => ⟨((y0.2.1 b (by omega)).2 (by omega)).1, (y0.2.1 b (by omega)).1, ((y0.2.1 b (by omega)).2 (by omega)).2⟩) ra (fun b q0 q1 j => ?_)
  obtain ⟨i, rfl⟩ : ∃ i, b = a + 1 + i := ⟨b - a - 1, by omega⟩
  have hi : i < 28 := by omega
  by_cases e1 : i = 0
  · rw [e1, ((y1.2.1 (a + 1 + 0) (by omega)).2 (by omega)).2]; exact z1 j
  by_cases e2 : i = 1
  · rw [e2, ((y2.2.1 (a + 1 + 1) (by omega)).2 (by omega)).2]; exact z2 j
  by_cases e3 : i = 2
  · rw [e3, ((y3.2.1 (a + 1 + 2) (by omega)).2 (by omega)).2]; exact z3 j
  by_cases e4 : i = 3
  · rw [e4, ((y4.2.1 (a + 1 + 3) (by omega)).2 (by omega)).2]; exact z4 j
  by_cases e5 : i = 4
  · rw [e5, ((y5.2.1 (a + 1 + 4) (by omega)).2 (by omega)).2]; exact z5 j
  by_cases e6 : i = 5
  · rw [e6, ((y6.2.1 (a + 1 + 5) (by omega)).2 (by omega)).2]; exact z6 j
  by_cases e7 : i = 6
  · rw [e7, ((y7.2.1 (a + 1 + 6) (by omega)).2 (by omega)).2]; exact z7 j
  by_cases e8 : i = 7
  · rw [e8, ((y8.2.1 (a + 1 + 7) (by omega)).2 (by omega)).2]; exact z8 j
  by_cases e9 : i = 8
  · rw [e9, ((y9.2.1 (a + 1 + 8) (by omega)).2 (by omega)).2]; exact z9 j
  by_cases e10 : i = 9
  · rw [e10, ((y10.2.1 (a + 1 + 9) (by omega)).2 (by omega)).2]; exact z10 j
  by_cases e11 : i = 10
  · rw [e11, ((y11.2.1 (a + 1 + 10) (by omega)).2 (by omega)).2]; exact z11 j
  by_cases e12 : i = 11
  · rw [e12, ((y12.2.1 (a + 1 + 11) (by omega)).2 (by omega)).2]; exact z12 j
  by_cases e13 : i = 12
  · rw [e13, ((y13.2.1 (a + 1 + 12) (by omega)).2 (by omega)).2]; exact z13 j
  by_cases e14 : i = 13
  · rw [e14, ((y14.2.1 (a + 1 + 13) (by omega)).2 (by omega)).2]; exact z14 j
  by_cases e15 : i = 14
  · rw [e15, ((y15.2.1 (a + 1 + 14) (by omega)).2 (by omega)).2]; exact z15 j
  by_cases e16 : i = 15
  · rw [e16, ((y16.2.1 (a + 1 + 15) (by omega)).2 (by omega)).2]; exact z16 j
  by_cases e17 : i = 16
  · rw [e17, ((y17.2.1 (a + 1 + 16) (by omega)).2 (by omega)).2]; exact z17 j
  by_cases e18 : i = 17
  · rw [e18, ((y18.2.1 (a + 1 + 17) (by omega)).2 (by omega)).2]; exact z18 j
  by_cases e19 : i = 18
  · rw [e19, ((y19.2.1 (a + 1 + 18) (by omega)).2 (by omega)).2]; exact z19 j
  by_cases e20 : i = 19
  · rw [e20, ((y20.2.1 (a + 1 + 19) (by omega)).2 (by omega)).2]; exact z20 j
  by_cases e21 : i = 20
  · rw [e21, ((y21.2.1 (a + 1 + 20) (by omega)).2 (by omega)).2]; exact z21 j
  by_cases e22 : i = 21
  · rw [e22, ((y22.2.1 (a + 1 + 21) (by omega)).2 (by omega)).2]; exact z22 j
  by_cases e23 : i = 22
  · rw [e23, ((y23.2.1 (a + 1 + 22) (by omega)).2 (by omega)).2]; exact z23 j
  by_cases e24 : i = 23
  · rw [e24, ((y24.2.1 (a + 1 + 23) (by omega)).2 (by omega)).2]; exact z24 j
  by_cases e25 : i = 24
  · rw [e25, ((y25.2.1 (a + 1 + 24) (by omega)).2 (by omega)).2]; exact z25 j
  by_cases e26 : i = 25
  · rw [e26, ((y26.2.1 (a + 1 + 25) (by omega)).2 (by omega)).2]; exact z26 j
  by_cases e27 : i = 26
  · rw [e27, ((y27.2.1 (a + 1 + 26) (by omega)).2 (by omega)).2]; exact z27 j
  by_cases e28 : i = 27
  · rw [e28, ((y28.2.1 (a + 1 + 27) (by omega)).2 (by omega)).2]; exact z28 j
  omega
theorem in_X10 {E : jE} {G : jG} {I : jM} {a : Nat} (hG : G.2.2 = a + 1) (hs : (G.2.1 a).1 = 10) : jRun E kX10_init [VR a] G I (fun r G' I' => r = VN ∧ WX10 G' a ∧ G'.2.2 = a + 29 ∧ (∀ b, b < a → G'.1 b = G.1 b ∧ G'.2.1 b = G.2.1 b ∧ I' b = I b) ∧ I' a = up (I a) 32 (-1) ∧ (∀ b, b = a + 1 ∨ b = a + 2 → ∀ j, 0 ≤ j → j < 22094 → I' b j = if j = 6 then 20 else 0)) := by
  refine jRun.of mt_X10_init.2.2.2 0 rfl (fun _ => ?_)
  refine in_X10a hG hs (fun G1 I1 u hu1 hu2 w n1 o1 r1 z1 => ?_)
  have l1 : a < G1.2.2 := by omega
  refine r_aload_n dX10_init_258 rfl (i := 0) rfl ?_
  refine rr_getR (b := a + 1) (jj := 0) dX10_init_259 fg_X10_7 rfl rfl l1 (wX10_s w) (wX10_r0 w) ?_
  refine r_bipush (n := 6) dX10_init_262 rfl ?_
  refine r_bipush (n := 20) dX10_init_264 rfl ?_
  refine rr_iastore dX10_init_266 (by omega) (wX10_a0 w) (by decide) ⟨by decide, by decide⟩ ⟨by decide, by decide⟩ (fun I2 e2 => ?_)
  refine r_aload_n dX10_init_267 rfl (i := 0) rfl ?_
  refine rr_getR (b := a + 1) (jj := 0) dX10_init_268 fg_X10_7 rfl rfl l1 (wX10_s w) (wX10_r0 w) ?_
  refine r_aload_n dX10_init_271 rfl (i := 0) rfl ?_
  refine rr_getR (b := a + 2) (jj := 1) dX10_init_272 fg_X10_13 rfl rfl l1 (wX10_s w) (wX10_r1 w) ?_
  refine r_callS (as := [VR (a + 1), VR (a + 2)]) dX10_init_275 mt_X10_copy ml_X10_99 ms_X10_copy rm_X10_init_X10_copy ⟨Nat.le_trans (Nat.add_le_add_right hu1 _) (Nat.le_of_ble_eq_true rfl), Nat.le_trans (Nat.add_le_add_right hu2 _) (Nat.le_of_ble_eq_true rfl)⟩ (Nat.le_of_ble_eq_true rfl) (jasR (jasR jas0)) (ref_copy w (a := a + 1) (b := a + 2) (Or.inl ⟨rfl, rfl⟩)) (fun r G3 I3 _ hr => ?_)
  obtain ⟨rfl, rfl, f3, p3, q3⟩ := hr
  refine r_vret dX10_init_278 rfl ⟨Nat.le_trans (Nat.add_le_add_right hu1 _) (Nat.le_of_ble_eq_true rfl), Nat.le_trans (Nat.add_le_add_right hu2 _) (Nat.le_of_ble_eq_true rfl)⟩ ⟨rfl, w, n1, fun b hb => ⟨(o1 b hb).1, (o1 b hb).2.1, ?_⟩, ?_, ?_⟩
  · funext y; rw [q3 b y (by omega), jr_na e2 (by omega), (o1 b hb).2.2]
  · funext y; rw [q3 a y (by omega), jr_na e2 (by omega), r1]
  · have g : ∀ j, 0 ≤ j → j < 22094 → I2 (a + 1) j = if j = 6 then 20 else 0 := fun j q0 q1 => by
      rw [jup_up e2]
      unfold up
      by_cases h6 : j = 6
      · rw [if_pos h6, if_pos h6]
      · rw [if_neg h6, if_neg h6]; exact z1 (a + 1) (by omega) (by omega) j
    intro b hb j q0 q1
    rcases hb with rfl | rfl
    · rw [q3 (a + 1) j (by omega)]; exact g j q0 q1
    · rw [p3 j q0 q1]; exact g j q0 q1
