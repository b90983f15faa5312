/-! ===== mean and share ===== -/
set_option maxRecDepth 20000 in
theorem st_X9_bitsOfFloat_42 {E : jE} {A : Nat → Prop} {G : jG} {I : jM} {q : Int → jM → Prop} {x0 : UInt32} {x1 : UInt32} {x2 : Int} {x3 : Int}  (hT : (∀ a j, jRg (G.2.1 a).1 (I a j)) → jIn x2 → jIn x3 → ((128 ≤ x3 → vf_n32 (FP.fsub x1 FP.fconst1) ∧ vf_n32 (FP.fmul (FP.fsub x1 FP.fconst1) 1258291200) ∧ q (jor (jshl (x2 + 127) 23) ((FP.f2i (FP.fmul (FP.fsub x1 FP.fconst1) 1258291200)).toInt)) I) ∧ (¬ 128 ≤ x3 → ((0 ≤ ((Op.cmpValue (FP.fcmp x1 FP.fconst1) .g).toInt) → vf_n32 (FP.fsub x1 FP.fconst1) ∧ vf_n32 (FP.fmul (FP.fsub x1 FP.fconst1) 1258291200) ∧ q (jor (jshl (x2 + 127) 23) ((FP.f2i (FP.fmul (FP.fsub x1 FP.fconst1) 1258291200)).toInt)) I) ∧ (¬ 0 ≤ ((Op.cmpValue (FP.fcmp x1 FP.fconst1) .g).toInt) → vf_n32 (FP.fmul x1 FP.fconst2) ∧ jIn (x2 + (-1)) ∧ jIn (x3 + 1) ∧ jOI E A kX9_bitsOfFloat 42 [VX (.float x0), VX (.float (FP.fmul x1 FP.fconst2)), VI (x2 + (-1)), VI (x3 + 1)] G I q))))) : jOI E A kX9_bitsOfFloat 42 [VX (.float x0), VX (.float x1), VI x2, VI x3] G I q := by
  intro I0 hF
  refine jOk_mem (fun hI => ?_)
  refine jOk_in (i := 2) rfl (fun hx2 => ?_)
  refine jOk_in (i := 3) rfl (fun hx3 => ?_)
  replace hT := hT hI hx2 hx3
  refine r_iload_n dX9_bitsOfFloat_42 rfl (i := 3) rfl ?_
  refine r_sipush (n := 128) dX9_bitsOfFloat_43 (by decide +kernel) ?_
  refine r_icmp_ge (tgt := 68) dX9_bitsOfFloat_46 rfl hx3 ⟨by decide, by decide⟩ (fun hcc => ?_) (fun hcc => ?_)
  · replace hT := hT.1 hcc
    refine r_iload_n dX9_bitsOfFloat_68 rfl (i := 2) rfl ?_
    refine r_bipush (n := 127) dX9_bitsOfFloat_69 (by decide +kernel) ?_
    refine r_iadd dX9_bitsOfFloat_71 ?_
    refine r_bipush (n := 23) dX9_bitsOfFloat_72 (by decide +kernel) ?_
    refine r_ishl dX9_bitsOfFloat_74 ?_
    refine r_fload_n dX9_bitsOfFloat_75 rfl (i := 1) rfl ?_
    refine r_fconst1 dX9_bitsOfFloat_76 ?_
    obtain ⟨hc1, hT⟩ := hT
    refine r_fsub dX9_bitsOfFloat_77 hc1 ?_
    refine r_ldcwf dX9_bitsOfFloat_78 cn_X9_418 ?_
    obtain ⟨hc2, hT⟩ := hT
    refine r_fmul dX9_bitsOfFloat_81 hc2 ?_
    refine r_f2i dX9_bitsOfFloat_82 ?_
    refine r_ior dX9_bitsOfFloat_83 ?_
    exact r_iret dX9_bitsOfFloat_84 rfl (j32_in _) ⟨Nat.zero_le _, Nat.zero_le _⟩ ⟨_, rfl, rfl, hF, hT⟩
  · replace hT := hT.2 hcc
    refine r_fload_n dX9_bitsOfFloat_49 rfl (i := 1) rfl ?_
    refine r_fconst1 dX9_bitsOfFloat_50 ?_
    refine r_fcmp dX9_bitsOfFloat_51 ?_
    refine r_if_ge (tgt := 68) dX9_bitsOfFloat_52 rfl (j32_in _) (fun hcc => ?_) (fun hcc => ?_)
    · replace hT := hT.1 hcc
      refine r_iload_n dX9_bitsOfFloat_68 rfl (i := 2) rfl ?_
      refine r_bipush (n := 127) dX9_bitsOfFloat_69 (by decide +kernel) ?_
      refine r_iadd dX9_bitsOfFloat_71 ?_
      refine r_bipush (n := 23) dX9_bitsOfFloat_72 (by decide +kernel) ?_
      refine r_ishl dX9_bitsOfFloat_74 ?_
      refine r_fload_n dX9_bitsOfFloat_75 rfl (i := 1) rfl ?_
      refine r_fconst1 dX9_bitsOfFloat_76 ?_
      obtain ⟨hc3, hT⟩ := hT
      refine r_fsub dX9_bitsOfFloat_77 hc3 ?_
      refine r_ldcwf dX9_bitsOfFloat_78 cn_X9_418 ?_
      obtain ⟨hc4, hT⟩ := hT
      refine r_fmul dX9_bitsOfFloat_81 hc4 ?_
      refine r_f2i dX9_bitsOfFloat_82 ?_
      refine r_ior dX9_bitsOfFloat_83 ?_
      exact r_iret dX9_bitsOfFloat_84 rfl (j32_in _) ⟨Nat.zero_le _, Nat.zero_le _⟩ ⟨_, rfl, rfl, hF, hT⟩
    · replace hT := hT.2 hcc
      refine r_fload_n dX9_bitsOfFloat_55 rfl (i := 1) rfl ?_
      refine r_fconst2 dX9_bitsOfFloat_56 ?_
      obtain ⟨hc5, hT⟩ := hT
      refine r_fmul dX9_bitsOfFloat_57 hc5 ?_
      refine r_fstore_n (i := 1) dX9_bitsOfFloat_58 rfl (Nat.le_of_ble_eq_true rfl) rfl ?_
      show jOk E kX9_bitsOfFloat 59 [VX (.float x0), VX (.float (FP.fmul x1 FP.fconst2)), VI x2, VI x3] [] G I _ _
      obtain ⟨hc6, hT⟩ := hT
      refine rr_iinc (i := 2) (ls' := [VX (.float x0), VX (.float (FP.fmul x1 FP.fconst2)), VI (x2 + (-1)), VI x3]) dX9_bitsOfFloat_59 rfl (Nat.le_of_ble_eq_true rfl) rfl rfl hc6 ?_
      obtain ⟨hc7, hT⟩ := hT
      refine rr_iinc (i := 3) (ls' := [VX (.float x0), VX (.float (FP.fmul x1 FP.fconst2)), VI (x2 + (-1)), VI (x3 + 1)]) dX9_bitsOfFloat_62 rfl (Nat.le_of_ble_eq_true rfl) rfl rfl hc7 ?_
      refine r_goto (tgt := 42) dX9_bitsOfFloat_65 rfl ?_
      exact hT I0 hF
set_option maxRecDepth 20000 in
theorem st_X9_bitsOfFloat_14 {E : jE} {A : Nat → Prop} {G : jG} {I : jM} {q : Int → jM → Prop} {x0 : UInt32} {x1 : UInt32} {x2 : Int} {x3 : Int}  (hT : (∀ a j, jRg (G.2.1 a).1 (I a j)) → jIn x2 → jIn x3 → ((128 ≤ x3 → jOI E A kX9_bitsOfFloat 42 [VX (.float x0), VX (.float x1), VI x2, VI 0] G I q) ∧ (¬ 128 ≤ x3 → ((((Op.cmpValue (FP.fcmp x1 FP.fconst2) .l).toInt) < 0 → jOI E A kX9_bitsOfFloat 42 [VX (.float x0), VX (.float x1), VI x2, VI 0] G I q) ∧ (¬ ((Op.cmpValue (FP.fcmp x1 FP.fconst2) .l).toInt) < 0 → vf_n32 (FP.fdiv x1 FP.fconst2) ∧ jIn (x2 + 1) ∧ jIn (x3 + 1) ∧ jOI E A kX9_bitsOfFloat 14 [VX (.float x0), VX (.float (FP.fdiv x1 FP.fconst2)), VI (x2 + 1), VI (x3 + 1)] G I q))))) : jOI E A kX9_bitsOfFloat 14 [VX (.float x0), VX (.float x1), VI x2, VI x3] G I q := by
  intro I0 hF
  refine jOk_mem (fun hI => ?_)
  refine jOk_in (i := 2) rfl (fun hx2 => ?_)
  refine jOk_in (i := 3) rfl (fun hx3 => ?_)
  replace hT := hT hI hx2 hx3
  refine r_iload_n dX9_bitsOfFloat_14 rfl (i := 3) rfl ?_
  refine r_sipush (n := 128) dX9_bitsOfFloat_15 (by decide +kernel) ?_
  refine r_icmp_ge (tgt := 40) dX9_bitsOfFloat_18 rfl hx3 ⟨by decide, by decide⟩ (fun hcc => ?_) (fun hcc => ?_)
  · replace hT := hT.1 hcc
    refine r_iconst (n := 0) dX9_bitsOfFloat_40 ?_
    refine rr_istore_n (i := 3) (ls' := [VX (.float x0), VX (.float x1), VI x2, VI 0]) dX9_bitsOfFloat_41 rfl (Nat.le_of_ble_eq_true rfl) rfl rfl ⟨by decide, by decide⟩ ?_
    exact hT I0 hF
  · replace hT := hT.2 hcc
    refine r_fload_n dX9_bitsOfFloat_21 rfl (i := 1) rfl ?_
    refine r_fconst2 dX9_bitsOfFloat_22 ?_
    refine r_fcmp dX9_bitsOfFloat_23 ?_
    refine r_if_lt (tgt := 40) dX9_bitsOfFloat_24 rfl (j32_in _) (fun hcc => ?_) (fun hcc => ?_)
    · replace hT := hT.1 hcc
      refine r_iconst (n := 0) dX9_bitsOfFloat_40 ?_
      refine rr_istore_n (i := 3) (ls' := [VX (.float x0), VX (.float x1), VI x2, VI 0]) dX9_bitsOfFloat_41 rfl (Nat.le_of_ble_eq_true rfl) rfl rfl ⟨by decide, by decide⟩ ?_
      exact hT I0 hF
    · replace hT := hT.2 hcc
      refine r_fload_n dX9_bitsOfFloat_27 rfl (i := 1) rfl ?_
      refine r_fconst2 dX9_bitsOfFloat_28 ?_
      obtain ⟨hc1, hT⟩ := hT
      refine r_fdiv dX9_bitsOfFloat_29 hc1 ?_
      refine r_fstore_n (i := 1) dX9_bitsOfFloat_30 rfl (Nat.le_of_ble_eq_true rfl) rfl ?_
      show jOk E kX9_bitsOfFloat 31 [VX (.float x0), VX (.float (FP.fdiv x1 FP.fconst2)), VI x2, VI x3] [] G I _ _
      obtain ⟨hc2, hT⟩ := hT
      refine rr_iinc (i := 2) (ls' := [VX (.float x0), VX (.float (FP.fdiv x1 FP.fconst2)), VI (x2 + 1), VI x3]) dX9_bitsOfFloat_31 rfl (Nat.le_of_ble_eq_true rfl) rfl rfl hc2 ?_
      obtain ⟨hc3, hT⟩ := hT
      refine rr_iinc (i := 3) (ls' := [VX (.float x0), VX (.float (FP.fdiv x1 FP.fconst2)), VI (x2 + 1), VI (x3 + 1)]) dX9_bitsOfFloat_34 rfl (Nat.le_of_ble_eq_true rfl) rfl rfl hc3 ?_
      refine r_goto (tgt := 14) dX9_bitsOfFloat_37 rfl ?_
      exact hT I0 hF
set_option maxRecDepth 20000 in
theorem st_X9_bitsOfFloat_0 {E : jE} {A : Nat → Prop} {G : jG} {I : jM} {q : Int → jM → Prop} {x0 : UInt32}  (hT : (∀ a j, jRg (G.2.1 a).1 (I a j)) → ((0 < ((Op.cmpValue (FP.fcmp x0 FP.fconst0) .g).toInt) → jOI E A kX9_bitsOfFloat 14 [VX (.float x0), VX (.float x0), VI 0, VI 0] G I q) ∧ (¬ 0 < ((Op.cmpValue (FP.fcmp x0 FP.fconst0) .g).toInt) → q 0 I))) : jOI E A kX9_bitsOfFloat 0 [VX (.float x0), VN, VN, VN] G I q := by
  intro I0 hF
  refine jOk_mem (fun hI => ?_)
  replace hT := hT hI 
  refine r_fload_n dX9_bitsOfFloat_0 rfl (i := 0) rfl ?_
  refine r_fconst0 dX9_bitsOfFloat_1 ?_
  refine r_fcmp dX9_bitsOfFloat_2 ?_
  refine r_if_gt (tgt := 8) dX9_bitsOfFloat_3 rfl (j32_in _) (fun hcc => ?_) (fun hcc => ?_)
  · replace hT := hT.1 hcc
    refine r_fload_n dX9_bitsOfFloat_8 rfl (i := 0) rfl ?_
    refine r_fstore_n (i := 1) dX9_bitsOfFloat_9 rfl (Nat.le_of_ble_eq_true rfl) rfl ?_
    show jOk E kX9_bitsOfFloat 10 [VX (.float x0), VX (.float x0), VN, VN] [] G I _ _
    refine r_iconst (n := 0) dX9_bitsOfFloat_10 ?_
    refine rr_istore_n (i := 2) (ls' := [VX (.float x0), VX (.float x0), VI 0, VN]) dX9_bitsOfFloat_11 rfl (Nat.le_of_ble_eq_true rfl) rfl rfl ⟨by decide, by decide⟩ ?_
    refine r_iconst (n := 0) dX9_bitsOfFloat_12 ?_
    refine rr_istore_n (i := 3) (ls' := [VX (.float x0), VX (.float x0), VI 0, VI 0]) dX9_bitsOfFloat_13 rfl (Nat.le_of_ble_eq_true rfl) rfl rfl ⟨by decide, by decide⟩ ?_
    exact hT I0 hF
  · replace hT := hT.2 hcc
    refine r_iconst (n := 0) dX9_bitsOfFloat_6 ?_
    exact r_iret dX9_bitsOfFloat_7 rfl ⟨by decide, by decide⟩ ⟨Nat.zero_le _, Nat.zero_le _⟩ ⟨_, rfl, rfl, hF, hT⟩
theorem en_X9_bitsOfFloat {E : jE} {A : Nat → Prop} {G : jG} {I : jM} {q : Int → jM → Prop} {x0 : UInt32}  (hT : (∀ a j, jRg (G.2.1 a).1 (I a j)) → ((0 < ((Op.cmpValue (FP.fcmp x0 FP.fconst0) .g).toInt) → jOI E A kX9_bitsOfFloat 14 [VX (.float x0), VX (.float x0), VI 0, VI 0] G I q) ∧ (¬ 0 < ((Op.cmpValue (FP.fcmp x0 FP.fconst0) .g).toInt) → q 0 I))) : jRI E A kX9_bitsOfFloat [VX (.float x0)] G I q := jRun.of mt_X9_bitsOfFloat.2.2.2 3 rfl (fun _ => st_X9_bitsOfFloat_0  hT I (fun _ _ => rfl))
set_option maxRecDepth 20000 in
theorem st_X9_bitsOfDouble_53 {E : jE} {A : Nat → Prop} {G : jG} {I : jM} {q : Int64 → jM → Prop} {x0 : UInt64} {x2 : UInt64} {x4 : Int64} {x6 : Int}  (hT : (∀ a j, jRg (G.2.1 a).1 (I a j)) → jIn x6 → ((1024 ≤ x6 → vf_n64 (FP.dsub x2 FP.dconst1) ∧ vf_n64 (FP.dmul (FP.dsub x2 FP.dconst1) 4841369599423283200) ∧ q (((x4 + 1023) <<< ((Int32.ofInt 52).toInt64 &&& 63)) ||| (FP.d2l (FP.dmul (FP.dsub x2 FP.dconst1) 4841369599423283200))) I) ∧ (¬ 1024 ≤ x6 → ((0 ≤ ((Op.cmpValue (FP.dcmp x2 FP.dconst1) .g).toInt) → vf_n64 (FP.dsub x2 FP.dconst1) ∧ vf_n64 (FP.dmul (FP.dsub x2 FP.dconst1) 4841369599423283200) ∧ q (((x4 + 1023) <<< ((Int32.ofInt 52).toInt64 &&& 63)) ||| (FP.d2l (FP.dmul (FP.dsub x2 FP.dconst1) 4841369599423283200))) I) ∧ (¬ 0 ≤ ((Op.cmpValue (FP.dcmp x2 FP.dconst1) .g).toInt) → vf_n64 (FP.dmul x2 4611686018427387904) ∧ jIn (x6 + 1) ∧ jOL E A kX9_bitsOfDouble 53 [VX (.double x0), VN, VX (.double (FP.dmul x2 4611686018427387904)), VN, VX (.long (x4 - (Int64.ofNat 1))), VN, VI (x6 + 1)] G I q))))) : jOL E A kX9_bitsOfDouble 53 [VX (.double x0), VN, VX (.double x2), VN, VX (.long x4), VN, VI x6] G I q := by
  intro I0 hF
  refine jOk_mem (fun hI => ?_)
  refine jOk_in (i := 6) rfl (fun hx6 => ?_)
  replace hT := hT hI hx6
  refine r_iload dX9_bitsOfDouble_53 (i := 6) rfl ?_
  refine r_sipush (n := 1024) dX9_bitsOfDouble_55 (by decide +kernel) ?_
  refine r_icmp_ge (tgt := 85) dX9_bitsOfDouble_58 rfl hx6 ⟨by decide, by decide⟩ (fun hcc => ?_) (fun hcc => ?_)
  · replace hT := hT.1 hcc
    refine r_lload dX9_bitsOfDouble_85 (i := 4) rfl ?_
    refine r_ldc2 dX9_bitsOfDouble_87 cn_X9_421 ?_
    refine r_ladd dX9_bitsOfDouble_90 ?_
    refine r_bipush (n := 52) dX9_bitsOfDouble_91 (by decide +kernel) ?_
    refine r_lshl dX9_bitsOfDouble_93 ?_
    refine r_dload_n dX9_bitsOfDouble_94 rfl (i := 2) rfl ?_
    refine r_dconst1 dX9_bitsOfDouble_95 ?_
    obtain ⟨hc1, hT⟩ := hT
    refine r_dsub dX9_bitsOfDouble_96 hc1 ?_
    refine r_ldc2d dX9_bitsOfDouble_97 cn_X9_423 ?_
    obtain ⟨hc2, hT⟩ := hT
    refine r_dmul dX9_bitsOfDouble_100 hc2 ?_
    refine r_d2l dX9_bitsOfDouble_101 ?_
    refine r_lor dX9_bitsOfDouble_102 ?_
    exact r_lret dX9_bitsOfDouble_103 rfl ⟨Nat.zero_le _, Nat.zero_le _⟩ ⟨_, rfl, rfl, hF, hT⟩
  · replace hT := hT.2 hcc
    refine r_dload_n dX9_bitsOfDouble_61 rfl (i := 2) rfl ?_
    refine r_dconst1 dX9_bitsOfDouble_62 ?_
    refine r_dcmp dX9_bitsOfDouble_63 ?_
    refine r_if_ge (tgt := 85) dX9_bitsOfDouble_64 rfl (j32_in _) (fun hcc => ?_) (fun hcc => ?_)
    · replace hT := hT.1 hcc
      refine r_lload dX9_bitsOfDouble_85 (i := 4) rfl ?_
      refine r_ldc2 dX9_bitsOfDouble_87 cn_X9_421 ?_
      refine r_ladd dX9_bitsOfDouble_90 ?_
      refine r_bipush (n := 52) dX9_bitsOfDouble_91 (by decide +kernel) ?_
      refine r_lshl dX9_bitsOfDouble_93 ?_
      refine r_dload_n dX9_bitsOfDouble_94 rfl (i := 2) rfl ?_
      refine r_dconst1 dX9_bitsOfDouble_95 ?_
      obtain ⟨hc3, hT⟩ := hT
      refine r_dsub dX9_bitsOfDouble_96 hc3 ?_
      refine r_ldc2d dX9_bitsOfDouble_97 cn_X9_423 ?_
      obtain ⟨hc4, hT⟩ := hT
      refine r_dmul dX9_bitsOfDouble_100 hc4 ?_
      refine r_d2l dX9_bitsOfDouble_101 ?_
      refine r_lor dX9_bitsOfDouble_102 ?_
      exact r_lret dX9_bitsOfDouble_103 rfl ⟨Nat.zero_le _, Nat.zero_le _⟩ ⟨_, rfl, rfl, hF, hT⟩
    · replace hT := hT.2 hcc
      refine r_dload_n dX9_bitsOfDouble_67 rfl (i := 2) rfl ?_
      refine r_ldc2d dX9_bitsOfDouble_68 cn_X9_419 ?_
      obtain ⟨hc5, hT⟩ := hT
      refine r_dmul dX9_bitsOfDouble_71 hc5 ?_
      refine r_dstore_n (i := 2) dX9_bitsOfDouble_72 rfl (Nat.le_of_ble_eq_true rfl) rfl ?_
      show jOk E kX9_bitsOfDouble 73 [VX (.double x0), VN, VX (.double (FP.dmul x2 4611686018427387904)), VN, VX (.long x4), VN, VI x6] [] G I _ _
      refine r_lload dX9_bitsOfDouble_73 (i := 4) rfl ?_
      refine r_lconst dX9_bitsOfDouble_75 ?_
      refine r_lsub dX9_bitsOfDouble_76 ?_
      refine r_lstore (i := 4) dX9_bitsOfDouble_77 (Nat.le_of_ble_eq_true rfl) rfl ?_
      show jOk E kX9_bitsOfDouble 79 [VX (.double x0), VN, VX (.double (FP.dmul x2 4611686018427387904)), VN, VX (.long (x4 - (Int64.ofNat 1))), VN, VI x6] [] G I _ _
      obtain ⟨hc6, hT⟩ := hT
      refine rr_iinc (i := 6) (ls' := [VX (.double x0), VN, VX (.double (FP.dmul x2 4611686018427387904)), VN, VX (.long (x4 - (Int64.ofNat 1))), VN, VI (x6 + 1)]) dX9_bitsOfDouble_79 rfl (Nat.le_of_ble_eq_true rfl) rfl rfl hc6 ?_
      refine r_goto (tgt := 53) dX9_bitsOfDouble_82 rfl ?_
      exact hT I0 hF
set_option maxRecDepth 20000 in
theorem st_X9_bitsOfDouble_16 {E : jE} {A : Nat → Prop} {G : jG} {I : jM} {q : Int64 → jM → Prop} {x0 : UInt64} {x2 : UInt64} {x4 : Int64} {x6 : Int}  (hT : (∀ a j, jRg (G.2.1 a).1 (I a j)) → jIn x6 → ((1024 ≤ x6 → jOL E A kX9_bitsOfDouble 53 [VX (.double x0), VN, VX (.double x2), VN, VX (.long x4), VN, VI 0] G I q) ∧ (¬ 1024 ≤ x6 → ((((Op.cmpValue (FP.dcmp x2 4611686018427387904) .l).toInt) < 0 → jOL E A kX9_bitsOfDouble 53 [VX (.double x0), VN, VX (.double x2), VN, VX (.long x4), VN, VI 0] G I q) ∧ (¬ ((Op.cmpValue (FP.dcmp x2 4611686018427387904) .l).toInt) < 0 → vf_n64 (FP.ddiv x2 4611686018427387904) ∧ jIn (x6 + 1) ∧ jOL E A kX9_bitsOfDouble 16 [VX (.double x0), VN, VX (.double (FP.ddiv x2 4611686018427387904)), VN, VX (.long (x4 + (Int64.ofNat 1))), VN, VI (x6 + 1)] G I q))))) : jOL E A kX9_bitsOfDouble 16 [VX (.double x0), VN, VX (.double x2), VN, VX (.long x4), VN, VI x6] G I q := by
  intro I0 hF
  refine jOk_mem (fun hI => ?_)
  refine jOk_in (i := 6) rfl (fun hx6 => ?_)
  replace hT := hT hI hx6
  refine r_iload dX9_bitsOfDouble_16 (i := 6) rfl ?_
  refine r_sipush (n := 1024) dX9_bitsOfDouble_18 (by decide +kernel) ?_
  refine r_icmp_ge (tgt := 50) dX9_bitsOfDouble_21 rfl hx6 ⟨by decide, by decide⟩ (fun hcc => ?_) (fun hcc => ?_)
  · replace hT := hT.1 hcc
    refine r_iconst (n := 0) dX9_bitsOfDouble_50 ?_
    refine rr_istore (i := 6) (ls' := [VX (.double x0), VN, VX (.double x2), VN, VX (.long x4), VN, VI 0]) dX9_bitsOfDouble_51 (Nat.le_of_ble_eq_true rfl) rfl rfl ⟨by decide, by decide⟩ ?_
    exact hT I0 hF
  · replace hT := hT.2 hcc
    refine r_dload_n dX9_bitsOfDouble_24 rfl (i := 2) rfl ?_
    refine r_ldc2d dX9_bitsOfDouble_25 cn_X9_419 ?_
    refine r_dcmp dX9_bitsOfDouble_28 ?_
    refine r_if_lt (tgt := 50) dX9_bitsOfDouble_29 rfl (j32_in _) (fun hcc => ?_) (fun hcc => ?_)
    · replace hT := hT.1 hcc
      refine r_iconst (n := 0) dX9_bitsOfDouble_50 ?_
      refine rr_istore (i := 6) (ls' := [VX (.double x0), VN, VX (.double x2), VN, VX (.long x4), VN, VI 0]) dX9_bitsOfDouble_51 (Nat.le_of_ble_eq_true rfl) rfl rfl ⟨by decide, by decide⟩ ?_
      exact hT I0 hF
    · replace hT := hT.2 hcc
      refine r_dload_n dX9_bitsOfDouble_32 rfl (i := 2) rfl ?_
      refine r_ldc2d dX9_bitsOfDouble_33 cn_X9_419 ?_
      obtain ⟨hc1, hT⟩ := hT
      refine r_ddiv dX9_bitsOfDouble_36 hc1 ?_
      refine r_dstore_n (i := 2) dX9_bitsOfDouble_37 rfl (Nat.le_of_ble_eq_true rfl) rfl ?_
      show jOk E kX9_bitsOfDouble 38 [VX (.double x0), VN, VX (.double (FP.ddiv x2 4611686018427387904)), VN, VX (.long x4), VN, VI x6] [] G I _ _
      refine r_lload dX9_bitsOfDouble_38 (i := 4) rfl ?_
      refine r_lconst dX9_bitsOfDouble_40 ?_
      refine r_ladd dX9_bitsOfDouble_41 ?_
      refine r_lstore (i := 4) dX9_bitsOfDouble_42 (Nat.le_of_ble_eq_true rfl) rfl ?_
      show jOk E kX9_bitsOfDouble 44 [VX (.double x0), VN, VX (.double (FP.ddiv x2 4611686018427387904)), VN, VX (.long (x4 + (Int64.ofNat 1))), VN, VI x6] [] G I _ _
      obtain ⟨hc2, hT⟩ := hT
      refine rr_iinc (i := 6) (ls' := [VX (.double x0), VN, VX (.double (FP.ddiv x2 4611686018427387904)), VN, VX (.long (x4 + (Int64.ofNat 1))), VN, VI (x6 + 1)]) dX9_bitsOfDouble_44 rfl (Nat.le_of_ble_eq_true rfl) rfl rfl hc2 ?_
      refine r_goto (tgt := 16) dX9_bitsOfDouble_47 rfl ?_
      exact hT I0 hF
set_option maxRecDepth 20000 in
theorem st_X9_bitsOfDouble_0 {E : jE} {A : Nat → Prop} {G : jG} {I : jM} {q : Int64 → jM → Prop} {x0 : UInt64}  (hT : (∀ a j, jRg (G.2.1 a).1 (I a j)) → ((0 < ((Op.cmpValue (FP.dcmp x0 FP.dconst0) .g).toInt) → jOL E A kX9_bitsOfDouble 16 [VX (.double x0), VN, VX (.double x0), VN, VX (.long (Int64.ofNat 0)), VN, VI 0] G I q) ∧ (¬ 0 < ((Op.cmpValue (FP.dcmp x0 FP.dconst0) .g).toInt) → q (Int64.ofNat 0) I))) : jOL E A kX9_bitsOfDouble 0 [VX (.double x0), VN, VN, VN, VN, VN, VN] G I q := by
  intro I0 hF
  refine jOk_mem (fun hI => ?_)
  replace hT := hT hI 
  refine r_dload_n dX9_bitsOfDouble_0 rfl (i := 0) rfl ?_
  refine r_dconst0 dX9_bitsOfDouble_1 ?_
  refine r_dcmp dX9_bitsOfDouble_2 ?_
  refine r_if_gt (tgt := 8) dX9_bitsOfDouble_3 rfl (j32_in _) (fun hcc => ?_) (fun hcc => ?_)
  · replace hT := hT.1 hcc
    refine r_dload_n dX9_bitsOfDouble_8 rfl (i := 0) rfl ?_
    refine r_dstore_n (i := 2) dX9_bitsOfDouble_9 rfl (Nat.le_of_ble_eq_true rfl) rfl ?_
    show jOk E kX9_bitsOfDouble 10 [VX (.double x0), VN, VX (.double x0), VN, VN, VN, VN] [] G I _ _
    refine r_lconst dX9_bitsOfDouble_10 ?_
    refine r_lstore (i := 4) dX9_bitsOfDouble_11 (Nat.le_of_ble_eq_true rfl) rfl ?_
    show jOk E kX9_bitsOfDouble 13 [VX (.double x0), VN, VX (.double x0), VN, VX (.long (Int64.ofNat 0)), VN, VN] [] G I _ _
    refine r_iconst (n := 0) dX9_bitsOfDouble_13 ?_
    refine rr_istore (i := 6) (ls' := [VX (.double x0), VN, VX (.double x0), VN, VX (.long (Int64.ofNat 0)), VN, VI 0]) dX9_bitsOfDouble_14 (Nat.le_of_ble_eq_true rfl) rfl rfl ⟨by decide, by decide⟩ ?_
    exact hT I0 hF
  · replace hT := hT.2 hcc
    refine r_lconst dX9_bitsOfDouble_6 ?_
    exact r_lret dX9_bitsOfDouble_7 rfl ⟨Nat.zero_le _, Nat.zero_le _⟩ ⟨_, rfl, rfl, hF, hT⟩
theorem en_X9_bitsOfDouble {E : jE} {A : Nat → Prop} {G : jG} {I : jM} {q : Int64 → jM → Prop} {x0 : UInt64}  (hT : (∀ a j, jRg (G.2.1 a).1 (I a j)) → ((0 < ((Op.cmpValue (FP.dcmp x0 FP.dconst0) .g).toInt) → jOL E A kX9_bitsOfDouble 16 [VX (.double x0), VN, VX (.double x0), VN, VX (.long (Int64.ofNat 0)), VN, VI 0] G I q) ∧ (¬ 0 < ((Op.cmpValue (FP.dcmp x0 FP.dconst0) .g).toInt) → q (Int64.ofNat 0) I))) : jRL E A kX9_bitsOfDouble [VX (.double x0)] G I q := jRun.of mt_X9_bitsOfDouble.2.2.2 5 rfl (fun _ => st_X9_bitsOfDouble_0  hT I (fun _ _ => rfl))
set_option maxRecDepth 20000 in
theorem st_X9_mean_0 {E : jE} {G : jG} {I : jM} {q : Int → jM → Prop} {m : Nat} (hm : WX9 G m) (hT : (∀ a j, jRg (G.2.1 a).1 (I a j)) → jRA E jB kX9_found [VR m] G I (fun r2 I1 => WX1 G r2 ∧ jRI E jB kX1_countMarked [VR r2, VI 1] G I1 (fun r5 I4 => jIn ((I1 r2 5) - r5) ∧ ((1 ≤ ((I1 r2 5) - r5) → jRI E jB kX1_loudValue [VR r2] G I4 (fun r9 I8 => vf_n32 (FP.fdiv (FP.i2f (Int32.ofInt r9)) (FP.i2f (Int32.ofInt ((I1 r2 5) - r5)))) ∧ jRI E jB kX9_bitsOfFloat [VX (.float (FP.fdiv (FP.i2f (Int32.ofInt r9)) (FP.i2f (Int32.ofInt ((I1 r2 5) - r5)))))] G I8 (fun r13 I12 => q r13 I12))) ∧ (¬ 1 ≤ ((I1 r2 5) - r5) → q 0 I4))))) : jOI E jB kX9_mean 0 [VR m, VN, VN] G I q := by
  intro I0 hF
  refine jOk_mem (fun hI => ?_)
  replace hT := hT hI 
  refine r_aload_n dX9_mean_0 rfl (i := 0) rfl ?_
  refine rr_cVA (a := m) (as := []) (st := []) dX9_mean_1 mt_X9_found ml_X9_182 mi_X9_found rm_X9_mean_X9_found jz_X9_found ⟨Nat.zero_le _, Nat.zero_le _⟩ (Nat.le_of_ble_eq_true rfl) (wX9_l hm) (wX9_c hm) jas0 hT (fun r2 I1 hFI1 hT => ?_)
  replace hFI1 := jFr_tr hF hFI1
  refine jOk_mem (fun hI1 => ?_)
  obtain ⟨hc3, hT⟩ := hT
  refine rr_astore_n (i := 1) (ls' := [VR m, VR r2, VN]) dX9_mean_4 rfl (Nat.le_of_ble_eq_true rfl) rfl rfl ?_
  refine r_aload_n dX9_mean_5 rfl (i := 1) rfl ?_
  refine rr_getI (v := I1 r2 5) dX9_mean_6 fg_X9_228 rfl (wX1_l hc3) (wX1_s hc3) rfl ?_
  refine r_aload_n dX9_mean_9 rfl (i := 1) rfl ?_
  refine r_iconst (n := 1) dX9_mean_10 ?_
  refine rr_cVI (a := r2) (as := [VI 1]) (st := [VI (I1 r2 5)]) dX9_mean_11 mt_X1_countMarked ml_X9_229 mi_X1_countMarked rm_X9_mean_X1_countMarked jz_X1_countMarked ⟨Nat.zero_le _, Nat.zero_le _⟩ (Nat.le_of_ble_eq_true rfl) (wX1_l hc3) (wX1_c hc3) (jasI ⟨by decide, by decide⟩ jas0) hT (fun r5 I4 hc6 hFI4 hT => ?_)
  replace hFI4 := jFr_tr hFI1 hFI4
  refine jOk_mem (fun hI4 => ?_)
  refine r_isub dX9_mean_14 ?_
  obtain ⟨hc7, hT⟩ := hT
  refine rr_istore_n (i := 2) (ls' := [VR m, VR r2, VI ((I1 r2 5) - r5)]) dX9_mean_15 rfl (Nat.le_of_ble_eq_true rfl) rfl rfl hc7 ?_
  refine r_iload_n dX9_mean_16 rfl (i := 2) rfl ?_
  refine r_iconst (n := 1) dX9_mean_17 ?_
  refine r_icmp_ge (tgt := 23) dX9_mean_18 rfl hc7 ⟨by decide, by decide⟩ (fun hcc => ?_) (fun hcc => ?_)
  · replace hT := hT.1 hcc
    refine r_aload_n dX9_mean_23 rfl (i := 1) rfl ?_
    refine rr_cVI (a := r2) (as := []) (st := []) dX9_mean_24 mt_X1_loudValue ml_X9_392 mi_X1_loudValue rm_X9_mean_X1_loudValue jz_X1_loudValue ⟨Nat.zero_le _, Nat.zero_le _⟩ (Nat.le_of_ble_eq_true rfl) (wX1_l hc3) (wX1_c hc3) jas0 hT (fun r9 I8 hc10 hFI8 hT => ?_)
    replace hFI8 := jFr_tr hFI4 hFI8
    refine jOk_mem (fun hI8 => ?_)
    refine r_i2f dX9_mean_27 ?_
    refine r_iload_n dX9_mean_28 rfl (i := 2) rfl ?_
    refine r_i2f dX9_mean_29 ?_
    obtain ⟨hc11, hT⟩ := hT
    refine r_fdiv dX9_mean_30 hc11 ?_
    refine rr_cSI (as := [VX (.float (FP.fdiv (FP.i2f (Int32.ofInt r9)) (FP.i2f (Int32.ofInt ((I1 r2 5) - r5)))))]) (st := []) dX9_mean_31 mt_X9_bitsOfFloat ml_X9_395 ms_X9_bitsOfFloat rm_X9_mean_X9_bitsOfFloat jz_X9_bitsOfFloat ⟨Nat.zero_le _, Nat.zero_le _⟩ (Nat.le_of_ble_eq_true rfl) (jasX jas0) hT (fun r13 I12 hc14 hFI12 hT => ?_)
    replace hFI12 := jFr_tr hFI8 hFI12
    refine jOk_mem (fun hI12 => ?_)
    exact r_iret dX9_mean_34 rfl hc14 ⟨Nat.zero_le _, Nat.zero_le _⟩ ⟨_, rfl, rfl, hFI12, hT⟩
  · replace hT := hT.2 hcc
    refine r_iconst (n := 0) dX9_mean_21 ?_
    exact r_iret dX9_mean_22 rfl ⟨by decide, by decide⟩ ⟨Nat.zero_le _, Nat.zero_le _⟩ ⟨_, rfl, rfl, hFI4, hT⟩
theorem en_X9_mean {E : jE} {G : jG} {I : jM} {q : Int → jM → Prop} {m : Nat} (hm : WX9 G m) (hT : (∀ a j, jRg (G.2.1 a).1 (I a j)) → jRA E jB kX9_found [VR m] G I (fun r2 I1 => WX1 G r2 ∧ jRI E jB kX1_countMarked [VR r2, VI 1] G I1 (fun r5 I4 => jIn ((I1 r2 5) - r5) ∧ ((1 ≤ ((I1 r2 5) - r5) → jRI E jB kX1_loudValue [VR r2] G I4 (fun r9 I8 => vf_n32 (FP.fdiv (FP.i2f (Int32.ofInt r9)) (FP.i2f (Int32.ofInt ((I1 r2 5) - r5)))) ∧ jRI E jB kX9_bitsOfFloat [VX (.float (FP.fdiv (FP.i2f (Int32.ofInt r9)) (FP.i2f (Int32.ofInt ((I1 r2 5) - r5)))))] G I8 (fun r13 I12 => q r13 I12))) ∧ (¬ 1 ≤ ((I1 r2 5) - r5) → q 0 I4))))) : jRI E jB kX9_mean [VR m] G I q := jRun.of mt_X9_mean.2.2.2 2 rfl (fun _ => st_X9_mean_0 hm hT I (fun _ _ => rfl))
set_option maxRecDepth 20000 in
theorem st_X9_share_0 {E : jE} {G : jG} {I : jM} {q : Int64 → jM → Prop} {m : Nat} (hm : WX9 G m) (hT : (∀ a j, jRg (G.2.1 a).1 (I a j)) → ((1 ≤ (I (m + 196) 2) → jRA E jB kX9_found [VR m] G I (fun r2 I1 => WX1 G r2 ∧ jRI E jB kX1_pickedBytes [VR r2] G I1 (fun r5 I4 => vf_n64 (FP.ddiv (FP.i2d (Int32.ofInt r5)) (FP.i2d (Int32.ofInt (I (m + 196) 2)))) ∧ jRL E jB kX9_bitsOfDouble [VX (.double (FP.ddiv (FP.i2d (Int32.ofInt r5)) (FP.i2d (Int32.ofInt (I (m + 196) 2)))))] G I4 (fun r9 I8 => q r9 I8)))) ∧ (¬ 1 ≤ (I (m + 196) 2) → q (Int64.ofNat 0) I))) : jOL E jB kX9_share 0 [VR m, VN] G I q := by
  intro I0 hF
  refine jOk_mem (fun hI => ?_)
  replace hT := hT hI 
  refine r_aload_n dX9_share_0 rfl (i := 0) rfl ?_
  refine rr_getR (b := (m + 195)) dX9_share_1 fg_X9_59 rfl rfl (wX9_l hm) (wX9_s hm) (wX9_r4 hm) ?_
  refine rr_getR (b := (m + 196)) dX9_share_4 fg_X9_103 rfl rfl (wX7_l (wX9_o4 hm)) (wX7_s (wX9_o4 hm)) (wX7_r0 (wX9_o4 hm)) ?_
  refine rr_getI (v := I (m + 196) 2) dX9_share_7 fg_X9_138 rfl (wX4_l (wX7_o0 (wX9_o4 hm))) (wX4_s (wX7_o0 (wX9_o4 hm))) rfl ?_
  refine rr_istore_n (i := 1) (ls' := [VR m, VI (I (m + 196) 2)]) dX9_share_10 rfl (Nat.le_of_ble_eq_true rfl) rfl rfl (hI _ _).inR ?_
  refine r_iload_n dX9_share_11 rfl (i := 1) rfl ?_
  refine r_iconst (n := 1) dX9_share_12 ?_
  refine r_icmp_ge (tgt := 18) dX9_share_13 rfl (hI _ _).inR ⟨by decide, by decide⟩ (fun hcc => ?_) (fun hcc => ?_)
  · replace hT := hT.1 hcc
    refine r_aload_n dX9_share_18 rfl (i := 0) rfl ?_
    refine rr_cVA (a := m) (as := []) (st := []) dX9_share_19 mt_X9_found ml_X9_182 mi_X9_found rm_X9_share_X9_found jz_X9_found ⟨Nat.zero_le _, Nat.zero_le _⟩ (Nat.le_of_ble_eq_true rfl) (wX9_l hm) (wX9_c hm) jas0 hT (fun r2 I1 hFI1 hT => ?_)
    replace hFI1 := jFr_tr hF hFI1
    refine jOk_mem (fun hI1 => ?_)
    obtain ⟨hc3, hT⟩ := hT
    refine rr_cVI (a := r2) (as := []) (st := []) dX9_share_22 mt_X1_pickedBytes ml_X9_399 mi_X1_pickedBytes rm_X9_share_X1_pickedBytes jz_X1_pickedBytes ⟨Nat.zero_le _, Nat.zero_le _⟩ (Nat.le_of_ble_eq_true rfl) (wX1_l hc3) (wX1_c hc3) jas0 hT (fun r5 I4 hc6 hFI4 hT => ?_)
    replace hFI4 := jFr_tr hFI1 hFI4
    refine jOk_mem (fun hI4 => ?_)
    refine r_i2d dX9_share_25 ?_
    refine r_iload_n dX9_share_26 rfl (i := 1) rfl ?_
    refine r_i2d dX9_share_27 ?_
    obtain ⟨hc7, hT⟩ := hT
    refine r_ddiv dX9_share_28 hc7 ?_
    refine rr_cSL (as := [VX (.double (FP.ddiv (FP.i2d (Int32.ofInt r5)) (FP.i2d (Int32.ofInt (I (m + 196) 2)))))]) (st := []) dX9_share_29 mt_X9_bitsOfDouble ml_X9_402 ms_X9_bitsOfDouble rm_X9_share_X9_bitsOfDouble jz_X9_bitsOfDouble ⟨Nat.zero_le _, Nat.zero_le _⟩ (Nat.le_of_ble_eq_true rfl) (jasX jas0) hT (fun r9 I8 hFI8 hT => ?_)
    replace hFI8 := jFr_tr hFI4 hFI8
    refine jOk_mem (fun hI8 => ?_)
    exact r_lret dX9_share_32 rfl ⟨Nat.zero_le _, Nat.zero_le _⟩ ⟨_, rfl, rfl, hFI8, hT⟩
  · replace hT := hT.2 hcc
    refine r_lconst dX9_share_16 ?_
    exact r_lret dX9_share_17 rfl ⟨Nat.zero_le _, Nat.zero_le _⟩ ⟨_, rfl, rfl, hF, hT⟩
theorem en_X9_share {E : jE} {G : jG} {I : jM} {q : Int64 → jM → Prop} {m : Nat} (hm : WX9 G m) (hT : (∀ a j, jRg (G.2.1 a).1 (I a j)) → ((1 ≤ (I (m + 196) 2) → jRA E jB kX9_found [VR m] G I (fun r2 I1 => WX1 G r2 ∧ jRI E jB kX1_pickedBytes [VR r2] G I1 (fun r5 I4 => vf_n64 (FP.ddiv (FP.i2d (Int32.ofInt r5)) (FP.i2d (Int32.ofInt (I (m + 196) 2)))) ∧ jRL E jB kX9_bitsOfDouble [VX (.double (FP.ddiv (FP.i2d (Int32.ofInt r5)) (FP.i2d (Int32.ofInt (I (m + 196) 2)))))] G I4 (fun r9 I8 => q r9 I8)))) ∧ (¬ 1 ≤ (I (m + 196) 2) → q (Int64.ofNat 0) I))) : jRL E jB kX9_share [VR m] G I q := jRun.of mt_X9_share.2.2.2 1 rfl (fun _ => st_X9_share_0 hm hT I (fun _ _ => rfl))
set_option maxRecDepth 20000 in
theorem st_X10_mean_10 {E : jE} {G : jG} {I : jM} {q : Int → jM → Prop} {m : Nat} {x1 : Int} {x2 : Int} {x3 : Int} (hm : WX10 G m) (hT : (∀ a j, jRg (G.2.1 a).1 (I a j)) → jIn x1 → jIn x2 → jIn x3 → (((I m 17) ≤ x3 → ((¬ x2 = 0 → vf_n32 (FP.fdiv (FP.i2f (Int32.ofInt x1)) (FP.i2f (Int32.ofInt x2))) ∧ jRI E (jA m) kJxf58ca_floatToIntBits_5c35a [VX (.float (FP.fdiv (FP.i2f (Int32.ofInt x1)) (FP.i2f (Int32.ofInt x2))))] G I (fun r3 I2 => q r3 I2)) ∧ (x2 = 0 → q 0 I))) ∧ (¬ (I m 17) ≤ x3 → ((0 : Int) ≤ x3 ∧ (x3 : Int) < 1200) ∧ ((0 ≤ (I (m + 13) x3) ∧ (I (m + 13) x3) ≤ 1) → (((I (m + 13) x3) = 0 → ((0 : Int) ≤ x3 ∧ (x3 : Int) < 1200) ∧ jIn (x1 + (I (m + 12) x3)) ∧ jIn (x2 + 1) ∧ jIn (x3 + 1) ∧ jOI E (jA m) kX10_mean 10 [VR m, VI (x1 + (I (m + 12) x3)), VI (x2 + 1), VI (x3 + 1)] G I q) ∧ (¬ (I (m + 13) x3) = 0 → jIn (x3 + 1) ∧ jOI E (jA m) kX10_mean 10 [VR m, VI x1, VI x2, VI (x3 + 1)] G I q)))))) : jOI E (jA m) kX10_mean 10 [VR m, VI x1, VI x2, VI x3] G I q := by
  intro I0 hF
  refine jOk_mem (fun hI => ?_)
  refine jOk_in (i := 1) rfl (fun hx1 => ?_)
  refine jOk_in (i := 2) rfl (fun hx2 => ?_)
  refine jOk_in (i := 3) rfl (fun hx3 => ?_)
  replace hT := hT hI hx1 hx2 hx3
  refine r_iload_n dX10_mean_10 rfl (i := 3) rfl ?_
  refine r_aload_n dX10_mean_11 rfl (i := 0) rfl ?_
  refine rr_getI (v := I m 17) dX10_mean_12 fg_X10_175 rfl (wX10_l hm) (wX10_s hm) rfl ?_
  refine r_icmp_ge (tgt := 48) dX10_mean_15 rfl hx3 (hI _ _).inR (fun hcc => ?_) (fun hcc => ?_)
  · replace hT := hT.1 hcc
    refine r_iload_n dX10_mean_48 rfl (i := 2) rfl ?_
    refine r_if_ne (tgt := 56) dX10_mean_49 rfl hx2 (fun hcc => ?_) (fun hcc => ?_)
    · replace hT := hT.1 hcc
      refine r_iload_n dX10_mean_56 rfl (i := 1) rfl ?_
      refine r_i2f dX10_mean_57 ?_
      refine r_iload_n dX10_mean_58 rfl (i := 2) rfl ?_
      refine r_i2f dX10_mean_59 ?_
      obtain ⟨hc1, hT⟩ := hT
      refine r_fdiv dX10_mean_60 hc1 ?_
      refine rr_cSI (as := [VX (.float (FP.fdiv (FP.i2f (Int32.ofInt x1)) (FP.i2f (Int32.ofInt x2))))]) (st := []) dX10_mean_61 mt_Jxf58ca_floatToIntBits_5c35a ml_X10_411 ms_Jxf58ca_floatToIntBits_5c35a rm_X10_mean_Jxf58ca_floatToIntBits_5c35a jz_Jxf58ca_floatToIntBits_5c35a ⟨Nat.zero_le _, Nat.zero_le _⟩ (Nat.le_of_ble_eq_true rfl) (jasX jas0) hT (fun r3 I2 hc4 hFI2 hT => ?_)
      replace hFI2 := jFr_tr hF hFI2
      refine jOk_mem (fun hI2 => ?_)
      exact r_iret dX10_mean_64 rfl hc4 ⟨Nat.zero_le _, Nat.zero_le _⟩ ⟨_, rfl, rfl, hFI2, hT⟩
    · replace hT := hT.2 hcc
      refine r_iconst (n := 0) dX10_mean_52 ?_
      refine r_goto (tgt := 64) dX10_mean_53 rfl ?_
      exact r_iret dX10_mean_64 rfl ⟨by decide, by decide⟩ ⟨Nat.zero_le _, Nat.zero_le _⟩ ⟨_, rfl, rfl, hF, hT⟩
  · replace hT := hT.2 hcc
    refine r_aload_n dX10_mean_18 rfl (i := 0) rfl ?_
    refine rr_getR (b := (m + 13)) dX10_mean_19 fg_X10_46 rfl rfl (wX10_l hm) (wX10_s hm) (wX10_r14 hm) ?_
    refine r_iload_n dX10_mean_22 rfl (i := 3) rfl ?_
    obtain ⟨hc5, hT⟩ := hT
    refine rr_zaload (v := I (m + 13) x3) dX10_mean_23 (wX10_l14 hm) (wX10_a14 hm) (by decide) hc5 rfl (fun hr6 => ?_)
    replace hT := hT hr6
    refine r_if_eq (tgt := 30) dX10_mean_24 rfl (hI _ _).inR (fun hcc => ?_) (fun hcc => ?_)
    · replace hT := hT.1 hcc
      refine r_iload_n dX10_mean_30 rfl (i := 1) rfl ?_
      refine r_aload_n dX10_mean_31 rfl (i := 0) rfl ?_
      refine rr_getR (b := (m + 12)) dX10_mean_32 fg_X10_43 rfl rfl (wX10_l hm) (wX10_s hm) (wX10_r13 hm) ?_
      refine r_iload_n dX10_mean_35 rfl (i := 3) rfl ?_
      obtain ⟨hc7, hT⟩ := hT
      refine rr_iaload (v := I (m + 12) x3) dX10_mean_36 (wX10_l13 hm) (wX10_a13 hm) (by decide) hc7 rfl ?_
      refine r_iadd dX10_mean_37 ?_
      obtain ⟨hc8, hT⟩ := hT
      refine rr_istore_n (i := 1) (ls' := [VR m, VI (x1 + (I (m + 12) x3)), VI x2, VI x3]) dX10_mean_38 rfl (Nat.le_of_ble_eq_true rfl) rfl rfl hc8 ?_
      obtain ⟨hc9, hT⟩ := hT
      refine rr_iinc (i := 2) (ls' := [VR m, VI (x1 + (I (m + 12) x3)), VI (x2 + 1), VI x3]) dX10_mean_39 rfl (Nat.le_of_ble_eq_true rfl) rfl rfl hc9 ?_
      obtain ⟨hc10, hT⟩ := hT
      refine rr_iinc (i := 3) (ls' := [VR m, VI (x1 + (I (m + 12) x3)), VI (x2 + 1), VI (x3 + 1)]) dX10_mean_42 rfl (Nat.le_of_ble_eq_true rfl) rfl rfl hc10 ?_
      refine r_goto (tgt := 10) dX10_mean_45 rfl ?_
      exact hT I0 hF
    · replace hT := hT.2 hcc
      refine r_goto (tgt := 42) dX10_mean_27 rfl ?_
      obtain ⟨hc11, hT⟩ := hT
      refine rr_iinc (i := 3) (ls' := [VR m, VI x1, VI x2, VI (x3 + 1)]) dX10_mean_42 rfl (Nat.le_of_ble_eq_true rfl) rfl rfl hc11 ?_
      refine r_goto (tgt := 10) dX10_mean_45 rfl ?_
      exact hT I0 hF
set_option maxRecDepth 20000 in
theorem st_X10_mean_0 {E : jE} {G : jG} {I : jM} {q : Int → jM → Prop} {m : Nat} (hm : WX10 G m) (hT : (∀ a j, jRg (G.2.1 a).1 (I a j)) → jRV E (jA m) kX10_layFindings [VR m] G I (fun I1 => jOI E (jA m) kX10_mean 10 [VR m, VI 0, VI 0, VI 0] G I1 q)) : jOI E (jA m) kX10_mean 0 [VR m, VN, VN, VN] G I q := by
  intro I0 hF
  refine jOk_mem (fun hI => ?_)
  replace hT := hT hI 
  refine r_aload_n dX10_mean_0 rfl (i := 0) rfl ?_
  refine rr_cVV (a := m) (as := []) (st := []) dX10_mean_1 mt_X10_layFindings ml_X10_229 mi_X10_layFindings rm_X10_mean_X10_layFindings jz_X10_layFindings ⟨Nat.zero_le _, Nat.zero_le _⟩ (Nat.le_of_ble_eq_true rfl) (wX10_l hm) (wX10_c hm) jas0 hT (fun I1 hFI1 hT => ?_)
  replace hFI1 := jFr_tr hF hFI1
  refine jOk_mem (fun hI1 => ?_)
  refine r_iconst (n := 0) dX10_mean_4 ?_
  refine rr_istore_n (i := 1) (ls' := [VR m, VI 0, VN, VN]) dX10_mean_5 rfl (Nat.le_of_ble_eq_true rfl) rfl rfl ⟨by decide, by decide⟩ ?_
  refine r_iconst (n := 0) dX10_mean_6 ?_
  refine rr_istore_n (i := 2) (ls' := [VR m, VI 0, VI 0, VN]) dX10_mean_7 rfl (Nat.le_of_ble_eq_true rfl) rfl rfl ⟨by decide, by decide⟩ ?_
  refine r_iconst (n := 0) dX10_mean_8 ?_
  refine rr_istore_n (i := 3) (ls' := [VR m, VI 0, VI 0, VI 0]) dX10_mean_9 rfl (Nat.le_of_ble_eq_true rfl) rfl rfl ⟨by decide, by decide⟩ ?_
  exact hT I0 hFI1
theorem en_X10_mean {E : jE} {G : jG} {I : jM} {q : Int → jM → Prop} {m : Nat} (hm : WX10 G m) (hT : (∀ a j, jRg (G.2.1 a).1 (I a j)) → jRV E (jA m) kX10_layFindings [VR m] G I (fun I1 => jOI E (jA m) kX10_mean 10 [VR m, VI 0, VI 0, VI 0] G I1 q)) : jRI E (jA m) kX10_mean [VR m] G I q := jRun.of mt_X10_mean.2.2.2 3 rfl (fun _ => st_X10_mean_0 hm hT I (fun _ _ => rfl))
set_option maxRecDepth 20000 in
theorem st_X10_share_19 {E : jE} {G : jG} {I : jM} {q : Int64 → jM → Prop} {m : Nat} {x1 : Int} {x2 : Int} (hm : WX10 G m) (hT : (∀ a j, jRg (G.2.1 a).1 (I a j)) → jIn x1 → jIn x2 → (((I m 17) ≤ x2 → vf_n64 (FP.ddiv (FP.i2d (Int32.ofInt x1)) (FP.i2d (Int32.ofInt (I (m + 1) 2)))) ∧ jRL E (jA m) kJxe99ae_doubleToLongBits_ccdee [VX (.double (FP.ddiv (FP.i2d (Int32.ofInt x1)) (FP.i2d (Int32.ofInt (I (m + 1) 2)))))] G I (fun r4 I3 => q r4 I3)) ∧ (¬ (I m 17) ≤ x2 → ((0 : Int) ≤ x2 ∧ (x2 : Int) < 1200) ∧ ((0 ≤ (I (m + 15) x2) ∧ (I (m + 15) x2) ≤ 1) → (((I (m + 15) x2) = 0 → jIn (x1 + 0) ∧ jIn (x2 + 1) ∧ jOL E (jA m) kX10_share 19 [VR m, VI (x1 + 0), VI (x2 + 1)] G I q) ∧ (¬ (I (m + 15) x2) = 0 → ((0 : Int) ≤ x2 ∧ (x2 : Int) < 1200) ∧ ((0 : Int) ≤ x2 ∧ (x2 : Int) < 1200) ∧ jIn (x1 + ((I (m + 9) x2) - (I (m + 8) x2))) ∧ jIn (x2 + 1) ∧ jOL E (jA m) kX10_share 19 [VR m, VI (x1 + ((I (m + 9) x2) - (I (m + 8) x2))), VI (x2 + 1)] G I q)))))) : jOL E (jA m) kX10_share 19 [VR m, VI x1, VI x2] G I q := by
  intro I0 hF
  refine jOk_mem (fun hI => ?_)
  refine jOk_in (i := 1) rfl (fun hx1 => ?_)
  refine jOk_in (i := 2) rfl (fun hx2 => ?_)
  replace hT := hT hI hx1 hx2
  refine r_iload_n dX10_share_19 rfl (i := 2) rfl ?_
  refine r_aload_n dX10_share_20 rfl (i := 0) rfl ?_
  refine rr_getI (v := I m 17) dX10_share_21 fg_X10_175 rfl (wX10_l hm) (wX10_s hm) rfl ?_
  refine r_icmp_ge (tgt := 62) dX10_share_24 rfl hx2 (hI _ _).inR (fun hcc => ?_) (fun hcc => ?_)
  · replace hT := hT.1 hcc
    refine r_iload_n dX10_share_62 rfl (i := 1) rfl ?_
    refine r_i2d dX10_share_63 ?_
    refine r_aload_n dX10_share_64 rfl (i := 0) rfl ?_
    refine rr_getR (b := (m + 1)) dX10_share_65 fg_X10_7 rfl rfl (wX10_l hm) (wX10_s hm) (wX10_r0 hm) ?_
    refine r_iconst (n := 2) dX10_share_68 ?_
    refine rr_iaload (v := I (m + 1) 2) dX10_share_69 (wX10_l0 hm) (wX10_a0 hm) (by decide) ⟨by decide, by decide⟩ rfl ?_
    refine r_i2d dX10_share_70 ?_
    obtain ⟨hc2, hT⟩ := hT
    refine r_ddiv dX10_share_71 hc2 ?_
    refine rr_cSL (as := [VX (.double (FP.ddiv (FP.i2d (Int32.ofInt x1)) (FP.i2d (Int32.ofInt (I (m + 1) 2)))))]) (st := []) dX10_share_72 mt_Jxe99ae_doubleToLongBits_ccdee ml_X10_417 ms_Jxe99ae_doubleToLongBits_ccdee rm_X10_share_Jxe99ae_doubleToLongBits_ccdee jz_Jxe99ae_doubleToLongBits_ccdee ⟨Nat.zero_le _, Nat.zero_le _⟩ (Nat.le_of_ble_eq_true rfl) (jasX jas0) hT (fun r4 I3 hFI3 hT => ?_)
    replace hFI3 := jFr_tr hF hFI3
    refine jOk_mem (fun hI3 => ?_)
    exact r_lret dX10_share_75 rfl ⟨Nat.zero_le _, Nat.zero_le _⟩ ⟨_, rfl, rfl, hFI3, hT⟩
  · replace hT := hT.2 hcc
    refine r_iload_n dX10_share_27 rfl (i := 1) rfl ?_
    refine r_aload_n dX10_share_28 rfl (i := 0) rfl ?_
    refine rr_getR (b := (m + 15)) dX10_share_29 fg_X10_53 rfl rfl (wX10_l hm) (wX10_s hm) (wX10_r16 hm) ?_
    refine r_iload_n dX10_share_32 rfl (i := 2) rfl ?_
    obtain ⟨hc5, hT⟩ := hT
    refine rr_zaload (v := I (m + 15) x2) dX10_share_33 (wX10_l16 hm) (wX10_a16 hm) (by decide) hc5 rfl (fun hr6 => ?_)
    replace hT := hT hr6
    refine r_if_eq (tgt := 53) dX10_share_34 rfl (hI _ _).inR (fun hcc => ?_) (fun hcc => ?_)
    · replace hT := hT.1 hcc
      refine r_iconst (n := 0) dX10_share_53 ?_
      refine r_iadd dX10_share_54 ?_
      obtain ⟨hc7, hT⟩ := hT
      refine rr_istore_n (i := 1) (ls' := [VR m, VI (x1 + 0), VI x2]) dX10_share_55 rfl (Nat.le_of_ble_eq_true rfl) rfl rfl hc7 ?_
      obtain ⟨hc8, hT⟩ := hT
      refine rr_iinc (i := 2) (ls' := [VR m, VI (x1 + 0), VI (x2 + 1)]) dX10_share_56 rfl (Nat.le_of_ble_eq_true rfl) rfl rfl hc8 ?_
      refine r_goto (tgt := 19) dX10_share_59 rfl ?_
      exact hT I0 hF
    · replace hT := hT.2 hcc
      refine r_aload_n dX10_share_37 rfl (i := 0) rfl ?_
      refine rr_getR (b := (m + 9)) dX10_share_38 fg_X10_34 rfl rfl (wX10_l hm) (wX10_s hm) (wX10_r10 hm) ?_
      refine r_iload_n dX10_share_41 rfl (i := 2) rfl ?_
      obtain ⟨hc9, hT⟩ := hT
      refine rr_iaload (v := I (m + 9) x2) dX10_share_42 (wX10_l10 hm) (wX10_a10 hm) (by decide) hc9 rfl ?_
      refine r_aload_n dX10_share_43 rfl (i := 0) rfl ?_
      refine rr_getR (b := (m + 8)) dX10_share_44 fg_X10_31 rfl rfl (wX10_l hm) (wX10_s hm) (wX10_r9 hm) ?_
      refine r_iload_n dX10_share_47 rfl (i := 2) rfl ?_
      obtain ⟨hc10, hT⟩ := hT
      refine rr_iaload (v := I (m + 8) x2) dX10_share_48 (wX10_l9 hm) (wX10_a9 hm) (by decide) hc10 rfl ?_
      refine r_isub dX10_share_49 ?_
      refine r_goto (tgt := 54) dX10_share_50 rfl ?_
      refine r_iadd dX10_share_54 ?_
      obtain ⟨hc11, hT⟩ := hT
      refine rr_istore_n (i := 1) (ls' := [VR m, VI (x1 + ((I (m + 9) x2) - (I (m + 8) x2))), VI x2]) dX10_share_55 rfl (Nat.le_of_ble_eq_true rfl) rfl rfl hc11 ?_
      obtain ⟨hc12, hT⟩ := hT
      refine rr_iinc (i := 2) (ls' := [VR m, VI (x1 + ((I (m + 9) x2) - (I (m + 8) x2))), VI (x2 + 1)]) dX10_share_56 rfl (Nat.le_of_ble_eq_true rfl) rfl rfl hc12 ?_
      refine r_goto (tgt := 19) dX10_share_59 rfl ?_
      exact hT I0 hF
set_option maxRecDepth 20000 in
theorem st_X10_share_0 {E : jE} {G : jG} {I : jM} {q : Int64 → jM → Prop} {m : Nat} (hm : WX10 G m) (hT : (∀ a j, jRg (G.2.1 a).1 (I a j)) → ((¬ (I (m + 1) 2) = 0 → jRV E (jA m) kX10_layFindings [VR m] G I (fun I2 => jOL E (jA m) kX10_share 19 [VR m, VI 0, VI 0] G I2 q)) ∧ ((I (m + 1) 2) = 0 → q (Int64.ofNat 0) I))) : jOL E (jA m) kX10_share 0 [VR m, VN, VN] G I q := by
  intro I0 hF
  refine jOk_mem (fun hI => ?_)
  replace hT := hT hI 
  refine r_aload_n dX10_share_0 rfl (i := 0) rfl ?_
  refine rr_getR (b := (m + 1)) dX10_share_1 fg_X10_7 rfl rfl (wX10_l hm) (wX10_s hm) (wX10_r0 hm) ?_
  refine r_iconst (n := 2) dX10_share_4 ?_
  refine rr_iaload (v := I (m + 1) 2) dX10_share_5 (wX10_l0 hm) (wX10_a0 hm) (by decide) ⟨by decide, by decide⟩ rfl ?_
  refine r_if_ne (tgt := 11) dX10_share_6 rfl (hI _ _).inR (fun hcc => ?_) (fun hcc => ?_)
  · replace hT := hT.1 hcc
    refine r_aload_n dX10_share_11 rfl (i := 0) rfl ?_
    refine rr_cVV (a := m) (as := []) (st := []) dX10_share_12 mt_X10_layFindings ml_X10_229 mi_X10_layFindings rm_X10_share_X10_layFindings jz_X10_layFindings ⟨Nat.zero_le _, Nat.zero_le _⟩ (Nat.le_of_ble_eq_true rfl) (wX10_l hm) (wX10_c hm) jas0 hT (fun I2 hFI2 hT => ?_)
    replace hFI2 := jFr_tr hF hFI2
    refine jOk_mem (fun hI2 => ?_)
    refine r_iconst (n := 0) dX10_share_15 ?_
    refine rr_istore_n (i := 1) (ls' := [VR m, VI 0, VN]) dX10_share_16 rfl (Nat.le_of_ble_eq_true rfl) rfl rfl ⟨by decide, by decide⟩ ?_
    refine r_iconst (n := 0) dX10_share_17 ?_
    refine rr_istore_n (i := 2) (ls' := [VR m, VI 0, VI 0]) dX10_share_18 rfl (Nat.le_of_ble_eq_true rfl) rfl rfl ⟨by decide, by decide⟩ ?_
    exact hT I0 hFI2
  · replace hT := hT.2 hcc
    refine r_lconst dX10_share_9 ?_
    exact r_lret dX10_share_10 rfl ⟨Nat.zero_le _, Nat.zero_le _⟩ ⟨_, rfl, rfl, hF, hT⟩
theorem en_X10_share {E : jE} {G : jG} {I : jM} {q : Int64 → jM → Prop} {m : Nat} (hm : WX10 G m) (hT : (∀ a j, jRg (G.2.1 a).1 (I a j)) → ((¬ (I (m + 1) 2) = 0 → jRV E (jA m) kX10_layFindings [VR m] G I (fun I2 => jOL E (jA m) kX10_share 19 [VR m, VI 0, VI 0] G I2 q)) ∧ ((I (m + 1) 2) = 0 → q (Int64.ofNat 0) I))) : jRL E (jA m) kX10_share [VR m] G I q := jRun.of mt_X10_share.2.2.2 2 rfl (fun _ => st_X10_share_0 hm hT I (fun _ _ => rfl))
set_option maxRecDepth 20000 in
theorem st_Jxf58ca_isNaN_12338_0 {E : jE} {A : Nat → Prop} {G : jG} {I : jM} {q : Int → jM → Prop} {x0 : UInt32}  (hT : (∀ a j, jRg (G.2.1 a).1 (I a j)) → ((((Op.cmpValue (FP.fcmp x0 x0) .l).toInt) = 0 → q 0 I) ∧ (¬ ((Op.cmpValue (FP.fcmp x0 x0) .l).toInt) = 0 → q 1 I))) : jOI E A kJxf58ca_isNaN_12338 0 [VX (.float x0)] G I q := by
  intro I0 hF
  refine jOk_mem (fun hI => ?_)
  replace hT := hT hI 
  refine r_fload_n dJxf58ca_isNaN_12338_0 rfl (i := 0) rfl ?_
  refine r_fload_n dJxf58ca_isNaN_12338_1 rfl (i := 0) rfl ?_
  refine r_fcmp dJxf58ca_isNaN_12338_2 ?_
  refine r_if_eq (tgt := 10) dJxf58ca_isNaN_12338_3 rfl (j32_in _) (fun hcc => ?_) (fun hcc => ?_)
  · replace hT := hT.1 hcc
    refine r_iconst (n := 0) dJxf58ca_isNaN_12338_10 ?_
    exact r_zret dJxf58ca_isNaN_12338_11 rfl ⟨by decide, by decide⟩ ⟨Nat.zero_le _, Nat.zero_le _⟩ ⟨_, rfl, rfl, hF, hT⟩
  · replace hT := hT.2 hcc
    refine r_iconst (n := 1) dJxf58ca_isNaN_12338_6 ?_
    refine r_goto (tgt := 11) dJxf58ca_isNaN_12338_7 rfl ?_
    exact r_zret dJxf58ca_isNaN_12338_11 rfl ⟨by decide, by decide⟩ ⟨Nat.zero_le _, Nat.zero_le _⟩ ⟨_, rfl, rfl, hF, hT⟩
theorem en_Jxf58ca_isNaN_12338 {E : jE} {A : Nat → Prop} {G : jG} {I : jM} {q : Int → jM → Prop} {x0 : UInt32}  (hT : (∀ a j, jRg (G.2.1 a).1 (I a j)) → ((((Op.cmpValue (FP.fcmp x0 x0) .l).toInt) = 0 → q 0 I) ∧ (¬ ((Op.cmpValue (FP.fcmp x0 x0) .l).toInt) = 0 → q 1 I))) : jRI E A kJxf58ca_isNaN_12338 [VX (.float x0)] G I q := jRun.of mt_Jxf58ca_isNaN_12338.2.2.2 0 rfl (fun _ => st_Jxf58ca_isNaN_12338_0  hT I (fun _ _ => rfl))
set_option maxRecDepth 20000 in
theorem st_Jxf58ca_floatToIntBits_5c35a_0 {E : jE} {A : Nat → Prop} {G : jG} {I : jM} {q : Int → jM → Prop} {x0 : UInt32}  (hT : (∀ a j, jRg (G.2.1 a).1 (I a j)) → jRI E A kJxf58ca_isNaN_12338 [VX (.float x0)] G I (fun r2 I1 => ((¬ r2 = 0 → q 2143289344 I1) ∧ (r2 = 0 → q x0.toInt32.toInt I1)))) : jOI E A kJxf58ca_floatToIntBits_5c35a 0 [VX (.float x0)] G I q := by
  intro I0 hF
  refine jOk_mem (fun hI => ?_)
  replace hT := hT hI 
  refine r_fload_n dJxf58ca_floatToIntBits_5c35a_0 rfl (i := 0) rfl ?_
  refine rr_cSI (as := [VX (.float x0)]) (st := []) dJxf58ca_floatToIntBits_5c35a_1 mt_Jxf58ca_isNaN_12338 ml_Jxf58ca_59 ms_Jxf58ca_isNaN_12338 rm_Jxf58ca_floatToIntBits_5c35a_Jxf58ca_isNaN_12338 jz_Jxf58ca_isNaN_12338 ⟨Nat.zero_le _, Nat.zero_le _⟩ (Nat.le_of_ble_eq_true rfl) (jasX jas0) hT (fun r2 I1 hc3 hFI1 hT => ?_)
  replace hFI1 := jFr_tr hF hFI1
  refine jOk_mem (fun hI1 => ?_)
  refine r_if_ne (tgt := 12) dJxf58ca_floatToIntBits_5c35a_4 rfl hc3 (fun hcc => ?_) (fun hcc => ?_)
  · replace hT := hT.1 hcc
    refine r_ldc (n := 2143289344) dJxf58ca_floatToIntBits_5c35a_12 cn_Jxf58ca_77 ?_
    exact r_iret dJxf58ca_floatToIntBits_5c35a_14 rfl ⟨by decide, by decide⟩ ⟨Nat.zero_le _, Nat.zero_le _⟩ ⟨_, rfl, rfl, hFI1, hT⟩
  · replace hT := hT.2 hcc
    refine r_fload_n dJxf58ca_floatToIntBits_5c35a_7 rfl (i := 0) rfl ?_
    refine r_fbits (st := []) dJxf58ca_floatToIntBits_5c35a_8 ml_Jxf58ca_74 w_fbits ⟨Nat.le_of_ble_eq_true rfl, Nat.le_of_ble_eq_true rfl⟩ ?_
    exact r_iret dJxf58ca_floatToIntBits_5c35a_11 rfl (j32_in _) ⟨Nat.zero_le _, Nat.zero_le _⟩ ⟨_, rfl, rfl, hFI1, hT⟩
theorem en_Jxf58ca_floatToIntBits_5c35a {E : jE} {A : Nat → Prop} {G : jG} {I : jM} {q : Int → jM → Prop} {x0 : UInt32}  (hT : (∀ a j, jRg (G.2.1 a).1 (I a j)) → jRI E A kJxf58ca_isNaN_12338 [VX (.float x0)] G I (fun r2 I1 => ((¬ r2 = 0 → q 2143289344 I1) ∧ (r2 = 0 → q x0.toInt32.toInt I1)))) : jRI E A kJxf58ca_floatToIntBits_5c35a [VX (.float x0)] G I q := jRun.of mt_Jxf58ca_floatToIntBits_5c35a.2.2.2 0 rfl (fun _ => st_Jxf58ca_floatToIntBits_5c35a_0  hT I (fun _ _ => rfl))
set_option maxRecDepth 20000 in
theorem st_Jxe99ae_isNaN_b9ae7_0 {E : jE} {A : Nat → Prop} {G : jG} {I : jM} {q : Int → jM → Prop} {x0 : UInt64}  (hT : (∀ a j, jRg (G.2.1 a).1 (I a j)) → ((((Op.cmpValue (FP.dcmp x0 x0) .l).toInt) = 0 → q 0 I) ∧ (¬ ((Op.cmpValue (FP.dcmp x0 x0) .l).toInt) = 0 → q 1 I))) : jOI E A kJxe99ae_isNaN_b9ae7 0 [VX (.double x0), VN] G I q := by
  intro I0 hF
  refine jOk_mem (fun hI => ?_)
  replace hT := hT hI 
  refine r_dload_n dJxe99ae_isNaN_b9ae7_0 rfl (i := 0) rfl ?_
  refine r_dload_n dJxe99ae_isNaN_b9ae7_1 rfl (i := 0) rfl ?_
  refine r_dcmp dJxe99ae_isNaN_b9ae7_2 ?_
  refine r_if_eq (tgt := 10) dJxe99ae_isNaN_b9ae7_3 rfl (j32_in _) (fun hcc => ?_) (fun hcc => ?_)
  · replace hT := hT.1 hcc
    refine r_iconst (n := 0) dJxe99ae_isNaN_b9ae7_10 ?_
    exact r_zret dJxe99ae_isNaN_b9ae7_11 rfl ⟨by decide, by decide⟩ ⟨Nat.zero_le _, Nat.zero_le _⟩ ⟨_, rfl, rfl, hF, hT⟩
  · replace hT := hT.2 hcc
    refine r_iconst (n := 1) dJxe99ae_isNaN_b9ae7_6 ?_
    refine r_goto (tgt := 11) dJxe99ae_isNaN_b9ae7_7 rfl ?_
    exact r_zret dJxe99ae_isNaN_b9ae7_11 rfl ⟨by decide, by decide⟩ ⟨Nat.zero_le _, Nat.zero_le _⟩ ⟨_, rfl, rfl, hF, hT⟩
theorem en_Jxe99ae_isNaN_b9ae7 {E : jE} {A : Nat → Prop} {G : jG} {I : jM} {q : Int → jM → Prop} {x0 : UInt64}  (hT : (∀ a j, jRg (G.2.1 a).1 (I a j)) → ((((Op.cmpValue (FP.dcmp x0 x0) .l).toInt) = 0 → q 0 I) ∧ (¬ ((Op.cmpValue (FP.dcmp x0 x0) .l).toInt) = 0 → q 1 I))) : jRI E A kJxe99ae_isNaN_b9ae7 [VX (.double x0)] G I q := jRun.of mt_Jxe99ae_isNaN_b9ae7.2.2.2 0 rfl (fun _ => st_Jxe99ae_isNaN_b9ae7_0  hT I (fun _ _ => rfl))
set_option maxRecDepth 20000 in
theorem st_Jxe99ae_doubleToLongBits_ccdee_0 {E : jE} {A : Nat → Prop} {G : jG} {I : jM} {q : Int64 → jM → Prop} {x0 : UInt64}  (hT : (∀ a j, jRg (G.2.1 a).1 (I a j)) → jRI E A kJxe99ae_isNaN_b9ae7 [VX (.double x0)] G I (fun r2 I1 => ((¬ r2 = 0 → q 9221120237041090560 I1) ∧ (r2 = 0 → q x0.toInt64 I1)))) : jOL E A kJxe99ae_doubleToLongBits_ccdee 0 [VX (.double x0), VN] G I q := by
  intro I0 hF
  refine jOk_mem (fun hI => ?_)
  replace hT := hT hI 
  refine r_dload_n dJxe99ae_doubleToLongBits_ccdee_0 rfl (i := 0) rfl ?_
  refine rr_cSI (as := [VX (.double x0)]) (st := []) dJxe99ae_doubleToLongBits_ccdee_1 mt_Jxe99ae_isNaN_b9ae7 ml_Jxe99ae_122 ms_Jxe99ae_isNaN_b9ae7 rm_Jxe99ae_doubleToLongBits_ccdee_Jxe99ae_isNaN_b9ae7 jz_Jxe99ae_isNaN_b9ae7 ⟨Nat.zero_le _, Nat.zero_le _⟩ (Nat.le_of_ble_eq_true rfl) (jasX jas0) hT (fun r2 I1 hc3 hFI1 hT => ?_)
  replace hFI1 := jFr_tr hF hFI1
  refine jOk_mem (fun hI1 => ?_)
  refine r_if_ne (tgt := 12) dJxe99ae_doubleToLongBits_ccdee_4 rfl hc3 (fun hcc => ?_) (fun hcc => ?_)
  · replace hT := hT.1 hcc
    refine r_ldc2 dJxe99ae_doubleToLongBits_ccdee_12 cn_Jxe99ae_137 ?_
    exact r_lret dJxe99ae_doubleToLongBits_ccdee_15 rfl ⟨Nat.zero_le _, Nat.zero_le _⟩ ⟨_, rfl, rfl, hFI1, hT⟩
  · replace hT := hT.2 hcc
    refine r_dload_n dJxe99ae_doubleToLongBits_ccdee_7 rfl (i := 0) rfl ?_
    refine r_dbits (st := []) dJxe99ae_doubleToLongBits_ccdee_8 ml_Jxe99ae_134 w_dbits ⟨Nat.le_of_ble_eq_true rfl, Nat.le_of_ble_eq_true rfl⟩ ?_
    exact r_lret dJxe99ae_doubleToLongBits_ccdee_11 rfl ⟨Nat.zero_le _, Nat.zero_le _⟩ ⟨_, rfl, rfl, hFI1, hT⟩
theorem en_Jxe99ae_doubleToLongBits_ccdee {E : jE} {A : Nat → Prop} {G : jG} {I : jM} {q : Int64 → jM → Prop} {x0 : UInt64}  (hT : (∀ a j, jRg (G.2.1 a).1 (I a j)) → jRI E A kJxe99ae_isNaN_b9ae7 [VX (.double x0)] G I (fun r2 I1 => ((¬ r2 = 0 → q 9221120237041090560 I1) ∧ (r2 = 0 → q x0.toInt64 I1)))) : jRL E A kJxe99ae_doubleToLongBits_ccdee [VX (.double x0)] G I q := jRun.of mt_Jxe99ae_doubleToLongBits_ccdee.2.2.2 0 rfl (fun _ => st_Jxe99ae_doubleToLongBits_ccdee_0  hT I (fun _ _ => rfl))
def OK32 (x : UInt32) : Prop := x = 0 ∨ ∃ e t, Nm FP.Core.b32 e t x.toNat
def OK64 (x : UInt64) : Prop := x = 0 ∨ ∃ e t, Nm FP.Core.b64 e t x.toNat
theorem OK32.vf {x : UInt32} (h : OK32 x) : vf_n32 x := by
  rcases h with rfl | ⟨e, t, h⟩
  · exact vf32 (by decide)
  · exact vf32 (n32 h).2.1
theorem OK64.vf {x : UInt64} (h : OK64 x) : vf_n64 x := by
  rcases h with rfl | ⟨e, t, h⟩
  · exact vf64 (by decide)
  · exact vf64 (n64 h).2.1
section FS
variable {E : jE} {A : Nat → Prop} {G : jG} {I : jM}
theorem jx_bits32 {x : UInt32} (h : OK32 x) : jRI E A kJxf58ca_floatToIntBits_5c35a [VX (.float x)] G I (fun r I' => r = x.toInt32.toInt ∧ I' = I) := by
  have c : FP.fcmp x x = some .eq := by
    rcases h with rfl | ⟨e, t, h⟩
    · decide +kernel
    · exact (fz_cmp h h).2.2.1 rfl rfl
  refine en_Jxf58ca_floatToIntBits_5c35a (fun _ => en_Jxf58ca_isNaN_12338 (fun _ => ?_))
  rw [c]
  exact ⟨fun _ => ⟨fun q => absurd rfl q, fun _ => ⟨rfl, rfl⟩⟩, fun q => absurd rfl q⟩
theorem jx_bits64 {x : UInt64} (h : OK64 x) : jRL E A kJxe99ae_doubleToLongBits_ccdee [VX (.double x)] G I (fun r I' => r = x.toInt64 ∧ I' = I) := by
  have c : FP.dcmp x x = some .eq := by
    rcases h with rfl | ⟨e, t, h⟩
    · decide +kernel
    · exact (fz_cmp h h).2.2.1 rfl rfl
  refine en_Jxe99ae_doubleToLongBits_ccdee (fun _ => en_Jxe99ae_isNaN_b9ae7 (fun _ => ?_))
  rw [c]
  exact ⟨fun _ => ⟨fun q => absurd rfl q, fun _ => ⟨rfl, rfl⟩⟩, fun q => absurd rfl q⟩
theorem cl_bits32 {x : UInt32} (h : OK32 x) : jRI E A kX9_bitsOfFloat [VX (.float x)] G I (fun r I' => r = x.toInt32.toInt ∧ I' = I) := by
  have k1 : Nm FP.Core.b32 126 0 FP.fconst1.toNat := c32_1
  have k2 : Nm FP.Core.b32 127 0 FP.fconst2.toNat := c32_2
  rcases h with rfl | ⟨e0, t, h⟩
  · have c : FP.fcmp 0 FP.fconst0 = some .eq := by decide +kernel
    refine en_X9_bitsOfFloat (fun _ => ?_)
    rw [c]
    exact ⟨fun q => absurd q (by decide), fun _ => ⟨by decide, rfl⟩⟩
  have b0 := n32 h
  have loop2 : ∀ (d : Nat) (y : UInt32) (e : Nat) (p i : Int), Nm FP.Core.b32 e t y.toNat → e + d = 126 → p = (e0 : Int) - e → 0 ≤ i → i + d < 128 → jOI E A kX9_bitsOfFloat 42 [VX (.float x), VX (.float y), VI p, VI i] G I (fun r I' => r = x.toInt32.toInt ∧ I' = I) := by
    intro d
    induction d with
    | zero =>
      intro y e p i hy he hp i0 i1
      have e' : e = 126 := by omega
      subst e'
      obtain ⟨g1, g2, g3⟩ := k32 hy
      have fin : vf_n32 (FP.fsub y FP.fconst1) ∧ vf_n32 (FP.fmul (FP.fsub y FP.fconst1) 1258291200) ∧ (fun (r : Int) (I' : jM) => r = x.toInt32.toInt ∧ I' = I) (jor (jshl (p + 127) 23) ((FP.f2i (FP.fmul (FP.fsub y FP.fconst1) 1258291200)).toInt)) I := by
        refine ⟨vf32 g1, vf32 g2, ?_, rfl⟩
        rw [g3, show p + 127 = (e0 : Int) + 1 by omega]
        exact b32_bits h
      have c : FP.fcmp y FP.fconst1 = some .eq ∨ FP.fcmp y FP.fconst1 = some .gt := by
        by_cases z : t = 0
        · exact Or.inl ((fz_cmp hy k1).2.2.1 rfl z)
        · exact Or.inr ((fz_cmp hy k1).2.2.2 rfl (by omega))
      refine st_X9_bitsOfFloat_42 (fun _ _ _ => ⟨fun _ => fin, fun _ => ⟨fun _ => fin, fun q => absurd ?_ q⟩⟩)
      rcases c with c | c
      · rw [c]; decide
      · rw [c]; decide
    | succ d ih =>
      intro y e p i hy he hp i0 i1
      have c : FP.fcmp y FP.fconst1 = some .lt := (fz_cmp hy k1).1 (by omega)
      have hy' := (h32 hy).2 (by omega)
      refine st_X9_bitsOfFloat_42 (fun _ _ _ => ⟨fun q => absurd q (by omega), fun _ => ⟨fun q => ?_, fun _ => ⟨vf32 (n32 hy').2.1, ⟨by omega, by omega⟩, ⟨by omega, by omega⟩, ih _ (e + 1) _ _ hy' (by omega) (by omega) (by omega) (by omega)⟩⟩⟩)
      rw [c] at q
      exact absurd q (by decide)
  have loop1 : ∀ (d : Nat) (y : UInt32) (e : Nat) (p i : Int), Nm FP.Core.b32 e t y.toNat → e ≤ 126 + d → p = (e0 : Int) - e → 0 ≤ i → i + d < 128 → jOI E A kX9_bitsOfFloat 14 [VX (.float x), VX (.float y), VI p, VI i] G I (fun r I' => r = x.toInt32.toInt ∧ I' = I) := by
    intro d
    induction d with
    | zero =>
      intro y e p i hy he hp i0 i1
      have c : FP.fcmp y FP.fconst2 = some .lt := (fz_cmp hy k2).1 (by omega)
      refine st_X9_bitsOfFloat_14 (fun _ _ _ => ⟨fun q => absurd q (by omega), fun _ => ⟨fun _ => loop2 (126 - e) y e p 0 hy (by omega) hp (by omega) (by omega), fun q => absurd ?_ q⟩⟩)
      rw [c]; decide
    | succ d ih =>
      intro y e p i hy he hp i0 i1
      by_cases z : e ≤ 126
      · have c : FP.fcmp y FP.fconst2 = some .lt := (fz_cmp hy k2).1 (by omega)
        refine st_X9_bitsOfFloat_14 (fun _ _ _ => ⟨fun q => absurd q (by omega), fun _ => ⟨fun _ => loop2 (126 - e) y e p 0 hy (by omega) hp (by omega) (by omega), fun q => absurd ?_ q⟩⟩)
        rw [c]; decide
      · have c : FP.fcmp y FP.fconst2 = some .eq ∨ FP.fcmp y FP.fconst2 = some .gt := by
          by_cases z1 : e = 127
          · by_cases z2 : t = 0
            · exact Or.inl ((fz_cmp hy k2).2.2.1 z1 z2)
            · exact Or.inr ((fz_cmp hy k2).2.2.2 z1 (by omega))
          · exact Or.inr ((fz_cmp hy k2).2.1 (by omega))
        have hy' := (h32 hy).1 (by omega)
        refine st_X9_bitsOfFloat_14 (fun _ _ _ => ⟨fun q => absurd q (by omega), fun _ => ⟨fun q => ?_, fun _ => ⟨vf32 (n32 hy').2.1, ⟨by omega, by omega⟩, ⟨by omega, by omega⟩, ih _ (e - 1) _ _ hy' (by omega) (by omega) (by omega) (by omega)⟩⟩⟩)
        rcases c with c | c
        · rw [c] at q; exact absurd q (by decide)
        · rw [c] at q; exact absurd q (by decide)
  have c : FP.fcmp x FP.fconst0 = some .gt := fz_cmp0 h c32_0
  refine en_X9_bitsOfFloat (fun _ => ⟨fun _ => loop1 127 x e0 0 0 h (by omega) (by omega) (by omega) (by omega), fun q => absurd ?_ q⟩)
  rw [c]; decide
theorem cl_bits64 {x : UInt64} (h : OK64 x) : jRL E A kX9_bitsOfDouble [VX (.double x)] G I (fun r I' => r = x.toInt64 ∧ I' = I) := by
  have k1 : Nm FP.Core.b64 1022 0 FP.dconst1.toNat := c64_1
  have k2 : Nm FP.Core.b64 1023 0 (4611686018427387904 : UInt64).toNat := c64_2
  rcases h with rfl | ⟨e0, t, h⟩
  · have c : FP.dcmp 0 FP.dconst0 = some .eq := by decide +kernel
    refine en_X9_bitsOfDouble (fun _ => ?_)
    rw [c]
    exact ⟨fun q => absurd q (by decide), fun _ => ⟨by decide, rfl⟩⟩
  have b0 := n64 h
  have ad : ∀ a b : Int, Int64.ofInt a + Int64.ofInt b = Int64.ofInt (a + b) := fun a b => (Int64.ofInt_add a b).symm
  have loop2 : ∀ (d : Nat) (y : UInt64) (e : Nat) (p i : Int), Nm FP.Core.b64 e t y.toNat → e + d = 1022 → p = (e0 : Int) - e → 0 ≤ i → i + d < 1024 → jOL E A kX9_bitsOfDouble 53 [VX (.double x), VN, VX (.double y), VN, VX (.long (Int64.ofInt p)), VN, VI i] G I (fun r I' => r = x.toInt64 ∧ I' = I) := by
    intro d
    induction d with
    | zero =>
      intro y e p i hy he hp i0 i1
      have e' : e = 1022 := by omega
      subst e'
      obtain ⟨g1, g2, g3⟩ := k64 hy
      have fin : vf_n64 (FP.dsub y FP.dconst1) ∧ vf_n64 (FP.dmul (FP.dsub y FP.dconst1) 4841369599423283200) ∧ (fun (r : Int64) (I' : jM) => r = x.toInt64 ∧ I' = I) (((Int64.ofInt p + 1023) <<< ((Int32.ofInt 52).toInt64 &&& 63)) ||| (FP.d2l (FP.dmul (FP.dsub y FP.dconst1) 4841369599423283200))) I := by
        refine ⟨vf64 g1, vf64 g2, ?_, rfl⟩
        rw [g3, show (1023 : Int64) = Int64.ofInt 1023 by decide, ad, show p + 1023 = (e0 : Int) + 1 by omega]
        exact b64_bits h
      have c : FP.dcmp y FP.dconst1 = some .eq ∨ FP.dcmp y FP.dconst1 = some .gt := by
        by_cases z : t = 0
        · exact Or.inl ((fz_cmp hy k1).2.2.1 rfl z)
        · exact Or.inr ((fz_cmp hy k1).2.2.2 rfl (by omega))
      refine st_X9_bitsOfDouble_53 (fun _ _ => ⟨fun _ => fin, fun _ => ⟨fun _ => fin, fun q => absurd ?_ q⟩⟩)
      rcases c with c | c
      · rw [c]; decide
      · rw [c]; decide
    | succ d ih =>
      intro y e p i hy he hp i0 i1
      have c : FP.dcmp y FP.dconst1 = some .lt := (fz_cmp hy k1).1 (by omega)
      have hy' := (h64 hy).2 (by omega)
      refine st_X9_bitsOfDouble_53 (fun _ _ => ⟨fun q => absurd q (by omega), fun _ => ⟨fun q => ?_, fun _ => ⟨vf64 (n64 hy').2.1, ⟨by omega, by omega⟩, ?_⟩⟩⟩)
      · rw [c] at q
        exact absurd q (by decide)
      · rw [show Int64.ofInt p - Int64.ofNat 1 = Int64.ofInt (p - 1) from (Int64.ofInt_sub p 1).symm]
        exact ih _ (e + 1) _ _ hy' (by omega) (by omega) (by omega) (by omega)
  have loop1 : ∀ (d : Nat) (y : UInt64) (e : Nat) (p i : Int), Nm FP.Core.b64 e t y.toNat → e ≤ 1022 + d → p = (e0 : Int) - e → 0 ≤ i → i + d < 1024 → jOL E A kX9_bitsOfDouble 16 [VX (.double x), VN, VX (.double y), VN, VX (.long (Int64.ofInt p)), VN, VI i] G I (fun r I' => r = x.toInt64 ∧ I' = I) := by
    intro d
    induction d with
    | zero =>
      intro y e p i hy he hp i0 i1
      have c : FP.dcmp y 4611686018427387904 = some .lt := (fz_cmp hy k2).1 (by omega)
      refine st_X9_bitsOfDouble_16 (fun _ _ => ⟨fun q => absurd q (by omega), fun _ => ⟨fun _ => loop2 (1022 - e) y e p 0 hy (by omega) hp (by omega) (by omega), fun q => absurd ?_ q⟩⟩)
      rw [c]; decide
    | succ d ih =>
      intro y e p i hy he hp i0 i1
      by_cases z : e ≤ 1022
      · have c : FP.dcmp y 4611686018427387904 = some .lt := (fz_cmp hy k2).1 (by omega)
        refine st_X9_bitsOfDouble_16 (fun _ _ => ⟨fun q => absurd q (by omega), fun _ => ⟨fun _ => loop2 (1022 - e) y e p 0 hy (by omega) hp (by omega) (by omega), fun q => absurd ?_ q⟩⟩)
        rw [c]; decide
      · have c : FP.dcmp y 4611686018427387904 = some .eq ∨ FP.dcmp y 4611686018427387904 = some .gt := by
          by_cases z1 : e = 1023
          · by_cases z2 : t = 0
            · exact Or.inl ((fz_cmp hy k2).2.2.1 z1 z2)
            · exact Or.inr ((fz_cmp hy k2).2.2.2 z1 (by omega))
          · exact Or.inr ((fz_cmp hy k2).2.1 (by omega))
        have hy' := (h64 hy).1 (by omega)
        refine st_X9_bitsOfDouble_16 (fun _ _ => ⟨fun q => absurd q (by omega), fun _ => ⟨fun q => ?_, fun _ => ⟨vf64 (n64 hy').2.1, ⟨by omega, by omega⟩, ?_⟩⟩⟩)
        · rcases c with c | c
          · rw [c] at q; exact absurd q (by decide)
          · rw [c] at q; exact absurd q (by decide)
        · rw [show Int64.ofInt p + Int64.ofNat 1 = Int64.ofInt (p + 1) from (Int64.ofInt_add p 1).symm]
          exact ih _ (e - 1) _ _ hy' (by omega) (by omega) (by omega) (by omega)
  have c : FP.dcmp x FP.dconst0 = some .gt := fz_cmp0 h c64_0
  refine en_X9_bitsOfDouble (fun _ => ⟨fun _ => loop1 1023 x e0 0 0 h (by omega) (by omega) (by omega) (by omega), fun q => absurd ?_ q⟩)
  rw [c]; decide
end FS
/-- the answers -/
noncomputable def cnM (B : Int → Int) : Int := NF B - sumJ (fun f => jI (mrk B 1 f)) 0 (NF B).toNat
noncomputable def anMean (B : Int → Int) : Int := if 1 ≤ cnM B then (FP.fdiv (FP.i2f (Int32.ofInt (sumJ (loudV B) 0 (NF B).toNat))) (FP.i2f (Int32.ofInt (cnM B)))).toInt32.toInt else 0
noncomputable def anShare (B : Int → Int) : Int64 := if 1 ≤ B 2 then (FP.ddiv (FP.i2d (Int32.ofInt (pbS B))) (FP.i2d (Int32.ofInt (B 2)))).toInt64 else Int64.ofNat 0
section FT
variable {E : jE} {G : jG} {m δ : Nat} {I I' : jM} {B B' : Int → Int} {H H' : List (Int → Int)} {T : List Int} {fk fp c : Int}
theorem cl_mean (h : CC G m δ I B H B' H' T fk fp) (hW : BW c B) : jRI E jB kX9_mean [VR m] G I (fun x I' => x = anMean B ∧ CC G m δ I' B H B' H' T fk fp) := by
  have hN := NF_le hW.1
  refine en_X9_mean h.1.1.2.1 (fun _ => (cl_found h hW).mono (fun a I1 _ g => ?_))
  obtain ⟨rfl, hφ, hc1, ⟨ρ, hL, -⟩, -⟩ := g
  refine ⟨hφ, (cl_countMarked hL hW.1 (Or.inl rfl)).mono (fun y I4 _ _ gy => ?_)⟩
  obtain ⟨ey, by_, rfl⟩ := gy
  have e5 : I4 (m + 578) 5 = NF B := hL.2.1.1.1
  rw [e5]
  have ec : NF B - y = cnM B := by unfold cnM; rw [← ey]
  unfold anMean
  refine ⟨⟨by omega, by omega⟩, fun q => (cl_loudValue hL hW.1).mono (fun z I8 _ _ gz => ?_), fun q => ⟨by rw [if_neg (by omega)], hc1⟩⟩
  obtain ⟨ez, bz, rfl⟩ := gz
  have ok : OK32 (FP.fdiv (FP.i2f (Int32.ofInt z)) (FP.i2f (Int32.ofInt (NF B - y)))) := q32 (by omega) (by omega) (by omega) (by omega)
  refine ⟨ok.vf, (cl_bits32 ok).mono (fun w I9 _ _ gw => ?_)⟩
  obtain ⟨rfl, rfl⟩ := gw
  exact ⟨by rw [if_pos (by omega), ez, ec], hc1⟩
theorem cl_share (h : CC G m δ I B H B' H' T fk fp) (hW : BW c B) : jRL E jB kX9_share [VR m] G I (fun x I' => x = anShare B ∧ CC G m δ I' B H B' H' T fk fp) := by
  have e2 : I (m + 196) 2 = B 2 := h.1.2.1.1.1.1.1
  have h2 := hW.1.1
  unfold anShare
  refine en_X9_share h.1.1.2.1 (fun _ => ?_)
  rw [e2]
  refine ⟨fun q => (cl_found h hW).mono (fun a I1 _ g => ?_), fun q => ⟨by rw [if_neg q], h⟩⟩
  obtain ⟨rfl, hφ, hc1, ⟨ρ, hL, -⟩, -⟩ := g
  refine ⟨hφ, (cl_pickedBytes hL hW.1).mono (fun y I4 _ _ gy => ?_)⟩
  obtain ⟨ey, by_, rfl⟩ := gy
  have ok : OK64 (FP.ddiv (FP.i2d (Int32.ofInt y)) (FP.i2d (Int32.ofInt (B 2)))) := q64 (by omega) (by omega) (by omega) (by omega)
  refine ⟨ok.vf, (cl_bits64 ok).mono (fun w I9 _ gw => ?_)⟩
  obtain ⟨rfl, rfl⟩ := gw
  exact ⟨by rw [if_pos q, ey], hc1⟩
theorem ref_mean (hm : WX10 G m) (h : RR m I B H B' H' T fk fp) (hQ : QW B) : jRI E (jA m) kX10_mean [VR m] G I (fun x I' => x = anMean B ∧ RR m I' B H B' H' T fk fp) := by
  have hN := NF_le hQ
  have hN0 : 0 ≤ NF B := NF0
  refine en_X10_mean hm (fun _ => (ref_lay hm h hQ).mono (fun I1 _ g => ?_))
  obtain ⟨hr, hL, -, -⟩ := g
  have h17 := hL.2.2.1
  have loop : ∀ (d : Nat) (f s n : Int), 0 ≤ f → f + d = NF B → s + sumJ (loudV B) f d = sumJ (loudV B) 0 (NF B).toNat → n + d - sumJ (fun f => jI (mrk B 1 f)) f d = cnM B → (0 ≤ s ∧ s ≤ 9900 * f) → (0 ≤ n ∧ n ≤ f) → jOI E (jA m) kX10_mean 10 [VR m, VI s, VI n, VI f] G I1 (fun x I' => x = anMean B ∧ RR m I' B H B' H' T fk fp) := by
    intro d
    induction d with
    | zero =>
      intro f s n f0 f1 hs hn bs bn
      have hs' : s + 0 = sumJ (loudV B) 0 (NF B).toNat := hs
      have hn' : n + ((0 : Nat) : Int) - 0 = cnM B := hn
      unfold anMean
      refine st_X10_mean_10 hm (fun _ _ _ _ => ⟨fun _ => ⟨fun q => ?_, fun q => ⟨by rw [if_neg (by omega)], hr⟩⟩, fun q => by rw [h17] at q; exact absurd (by omega) q⟩)
      have ok : OK32 (FP.fdiv (FP.i2f (Int32.ofInt s)) (FP.i2f (Int32.ofInt n))) := q32 (by omega) (by omega) (by omega) (by omega)
      refine ⟨ok.vf, (jx_bits32 ok).mono (fun w I9 _ _ gw => ?_)⟩
      obtain ⟨rfl, rfl⟩ := gw
      exact ⟨by rw [if_pos (by omega), ← hs', show s + 0 = s by omega, show cnM B = n by omega], hr⟩
    | succ d ih =>
      intro f s n f0 f1 hs hn bs bn
      rw [sumJ_s] at hs hn
      have rf := hL.2.2.2.1 f f0 (by omega)
      have v := fV_bd hQ (FLok hQ) f0 (by omega)
      have b12 : (0 : Int) ≤ f ∧ f < 1200 := ⟨f0, by omega⟩
      refine st_X10_mean_10 hm (fun _ _ _ _ => ⟨fun q => by rw [h17] at q; exact absurd q (by omega), fun _ => ⟨b12, fun _ => ?_⟩⟩)
      rw [rf.2.2.2.2.2.2.1, rf.2.2.2.2.2.1]
      refine ⟨fun q => ?_, fun q => ?_⟩
      · have e1 : loudV B f = fV B f := by unfold loudV; rw [if_neg (jI_n q)]
        have e2 : jI (mrk B 1 f) = 0 := jI_neg (fun g => jI_n q (mrk_1.mp g))
        exact ⟨b12, ⟨by omega, by omega⟩, ⟨by omega, by omega⟩, ⟨by omega, by omega⟩, ih (f + 1) _ _ (by omega) (by omega) (by omega) (by omega) (by omega) (by omega)⟩
      · have e1 : loudV B f = 0 := by unfold loudV; rw [if_pos (jI_p q)]
        have e2 : jI (mrk B 1 f) = 1 := jI_pos (mrk_1.mpr (jI_p q))
        exact ⟨⟨by omega, by omega⟩, ih (f + 1) _ _ (by omega) (by omega) (by omega) (by omega) (by omega) (by omega)⟩
  exact loop (NF B).toNat 0 0 0 (by omega) (by omega) (by omega) (by unfold cnM; omega) (by omega) (by omega)
theorem ref_share (hm : WX10 G m) (h : RR m I B H B' H' T fk fp) (hQ : QW B) : jRL E (jA m) kX10_share [VR m] G I (fun x I' => x = anShare B ∧ RR m I' B H B' H' T fk fp) := by
  have hN := NF_le hQ
  have hN0 : 0 ≤ NF B := NF0
  have hC := setL_Ch hQ (FLok hQ)
  have hl := (setL_bd hQ).2
  have e2 : I (m + 1) 2 = B 2 := h.at (by omega)
  have h2 := hQ.1
  unfold anShare
  refine en_X10_share hm (fun _ => ?_)
  rw [e2]
  refine ⟨fun q => (ref_lay hm h hQ).mono (fun I1 _ g => ?_), fun q => ⟨by rw [if_neg (by omega)], h⟩⟩
  obtain ⟨hr, hL, -, -⟩ := g
  have h17 := hL.2.2.1
  have e2' : I1 (m + 1) 2 = B 2 := hr.at (by omega)
  have loop : ∀ (d : Nat) (f : Int) (R : List Int) (k v : Int), 0 ≤ f → f + d = NF B → Ch B f k R → (∀ g, f ≤ g → g < NF B → (g ∈ setL B ↔ g ∈ R)) → 0 ≤ v → v + 200 * R.length ≤ 4000 → v + (R.map (fun f => fE B f - fB B f)).sum = pbS B → jOL E (jA m) kX10_share 19 [VR m, VI v, VI f] G I1 (fun x I' => x = (if 1 ≤ B 2 then (FP.ddiv (FP.i2d (Int32.ofInt (pbS B))) (FP.i2d (Int32.ofInt (B 2)))).toInt64 else Int64.ofNat 0) ∧ RR m I' B H B' H' T fk fp) := by
    intro d
    induction d with
    | zero =>
      intro f R k v f0 f1 hc hmem v0 v1 hv
      have e : f = NF B := by omega
      subst e
      have e3 := hc.nil
      subst e3
      have hv' : v + 0 = pbS B := hv
      have ok : OK64 (FP.ddiv (FP.i2d (Int32.ofInt v)) (FP.i2d (Int32.ofInt (B 2)))) := q64 (by omega) (by omega) (by omega) (by omega)
      refine st_X10_share_19 hm (fun _ _ _ => ⟨fun _ => ?_, fun q => by rw [h17] at q; exact absurd (Int.le_refl _) q⟩)
      rw [e2']
      refine ⟨ok.vf, (jx_bits64 ok).mono (fun w I9 _ gw => ?_)⟩
      obtain ⟨rfl, rfl⟩ := gw
      exact ⟨by rw [if_pos (by omega), ← hv', show v + 0 = v by omega], hr⟩
    | succ d ih =>
      intro f R k v f0 f1 hc hmem v0 v1 hv
      have rf := hL.2.2.2.1 f f0 (by omega)
      have bd := f_bd hQ (FLok hQ) f0 (by omega)
      have b12 : (0 : Int) ≤ f ∧ f < 1200 := ⟨f0, by omega⟩
      have hme : ∀ R', R = f :: R' → ∀ g, f + 1 ≤ g → g < NF B → (g ∈ setL B ↔ g ∈ R') := fun R' e g g0 g1 => (hmem g (by omega) g1).trans (by
        rw [e]
        exact ⟨fun x => by
          rcases List.mem_cons.mp x with x | x
          · omega
          · exact x, fun x => List.mem_cons_of_mem _ x⟩)
      refine st_X10_share_19 hm (fun _ _ _ => ⟨fun q => by rw [h17] at q; exact absurd q (by omega), fun _ => ⟨b12, fun _ => ?_⟩⟩)
      rw [rf.2.2.2.2.2.2.2.2, rf.2.1, rf.2.2.1]
      refine ⟨fun q1 => ⟨⟨by omega, by omega⟩, ⟨by omega, by omega⟩, ih (f + 1) R k (v + 0) (by omega) (by omega) (hc.up (fun g => jI_n q1 ((hmem f (Int.le_refl _) (by omega)).mpr g))) (fun g g0 g1 => hmem g (by omega) g1) (by omega) (by omega) (by omega)⟩, fun q1 => ⟨b12, b12, ?_⟩⟩
      obtain ⟨R', e⟩ := hc.hd ((hmem f (Int.le_refl _) (by omega)).mp (jI_p q1))
      subst e
      rw [List.map_cons, List.sum_cons] at hv
      rw [List.length_cons] at v1
      exact ⟨⟨by omega, by omega⟩, ⟨by omega, by omega⟩, ih (f + 1) R' _ _ (by omega) (by omega) hc.2.2.2 (hme R' rfl) (by omega) (by omega) (by omega)⟩
  exact loop (NF B).toNat 0 (setL B) 0 0 (by omega) (by omega) hC (fun g _ _ => Iff.rfl) (by omega) (by omega) (by unfold pbS; omega)
end FT
