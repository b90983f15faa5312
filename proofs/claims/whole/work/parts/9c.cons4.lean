/-! ===== constructors: a reader, a finder ===== -/
theorem in_X5 {E : jE} {G : jG} {I : jM} {a t ρ : Nat} (ha : a < G.2.2) (hs : (G.2.1 a).1 = 5) (hρ : (ρ : Int) ≤ 2147483647) : jRun E kX5_init [VR a, VR t, VR ρ] G I (fun r G' I' => r = VN ∧ G' = jpG G a 0 t ∧ I' a = up (up (I a) 5 (-1)) 3 ρ ∧ ∀ b, b ≠ a → I' b = I b) := by
  refine jRun.of mt_X5_init.2.2.2 0 rfl (fun _ => ?_)
  refine r_aload_n dX5_init_0 rfl (i := 0) rfl ?_
  refine r_objInit dX5_init_1 ml_X5_3 w_obj ⟨Nat.le_of_ble_eq_true rfl, Nat.le_of_ble_eq_true rfl⟩ ?_
  refine r_aload_n dX5_init_4 rfl (i := 0) rfl ?_
  refine r_iconst (n := (-1)) dX5_init_5 ?_
  refine rr_putI (jj := 5) dX5_init_6 fp_X5_9 rfl rfl ha hs ⟨by decide, by decide⟩ (fun M1 e1 => ?_)
  refine r_aload_n dX5_init_9 rfl (i := 0) rfl ?_
  refine r_aload_n dX5_init_10 rfl (i := 1) rfl ?_
  refine r_putF (j := 0) dX5_init_11 ff_X5_15 rfl (Or.inr ⟨_, rfl⟩) rfl ha hs ?_
  refine r_aload_n dX5_init_14 rfl (i := 0) rfl ?_
  refine r_aload_n dX5_init_15 rfl (i := 2) rfl ?_
  refine rr_putM (jj := 3) dX5_init_16 fp_X5_19 rfl rfl ha hs hρ (fun M2 e2 => ?_)
  refine r_vret dX5_init_19 rfl ⟨Nat.le_of_ble_eq_true rfl, Nat.le_of_ble_eq_true rfl⟩ ⟨rfl, rfl, ?_, fun b hb => ?_⟩
  · rw [jup_up e2, jup_up e1]
  · funext y; rw [jr_na e2 hb, jr_na e1 hb]
theorem nw_X1_8 : Cond.classLink RX1 9 RX8 ∈ jTB ∧ Cond.instantiable RX8 3 ∈ jTB ∧ Cond.initialized RX8 ∈ jTB := ⟨jTB_2 55 (by decide +kernel) rfl, jTB_2 56 (by decide +kernel) rfl, (mt_X8_init).2.1⟩
theorem in_X1 {E : jE} {G : jG} {I : jM} {a σ ρ : Nat} (hG : G.2.2 = a + 1) (hs : (G.2.1 a).1 = 1) (hd : a + 14 ≤ 606 ∨ 635 ≤ a) (hab : (a : Int) ≤ 1000000) (hσ : WX7 G σ) (hσa : σ + 9 ≤ a) (hI : I σ 1 = (ρ : Int)) (hρ : (ρ : Int) ≤ 2147483647) : jRun E kX1_init [VR a, VR σ] G I (fun r G' I' => r = VN ∧ WX1 G' a ∧ G'.2.2 = a + 14 ∧ ∀ b, b < a → G'.1 b = G.1 b ∧ G'.2.1 b = G.2.1 b ∧ I' b = I b) := by
  refine jRun.of mt_X1_init.2.2.2 0 rfl (fun _ => ?_)
  refine r_aload_n dX1_init_0 rfl (i := 0) rfl ?_
  refine r_objInit dX1_init_1 ml_X1_3 w_obj ⟨Nat.le_of_ble_eq_true rfl, Nat.le_of_ble_eq_true rfl⟩ ?_
  refine r_aload_n dX1_init_4 rfl (i := 0) rfl ?_
  refine r_new (ci := 8) (n := 3) dX1_init_5 rfl rfl nw_X1_8 (by decide) ⟨Nat.le_of_ble_eq_true rfl, Nat.le_of_ble_eq_true rfl⟩ ?_
  refine r_dup dX1_init_8 rfl ?_
  refine r_callIN (a := G.2.2) (as := []) (host := "StyleFixes") dX1_init_9 mt_X8_init ml_X1_11 mi_X8_init rfl rfl rm_X1_init_X8_init ⟨Nat.le_of_ble_eq_true rfl, Nat.le_of_ble_eq_true rfl⟩ (Nat.le_of_ble_eq_true rfl) (fun x hx => absurd hx List.not_mem_nil) (in_X8 (a := G.2.2) (by rw [jn_3]) (by rw [jn_2, if_pos rfl]) (by omega)) (fun r G2 I2 _ hq => ?_)
  obtain ⟨rfl, w8, n2, o2, s2, i2, z2⟩ := hq
  show jOk E kX1_init 12 [VR a, VR σ] [VR G.2.2, VR a] G2 I2 _ _
  rw [hG] at w8 n2 o2 i2 z2 ⊢
  have g2 : ∀ b, b < a + 1 → G2.1 b = G.1 b ∧ G2.2.1 b = G.2.1 b ∧ I2 b = I b := fun b hb => by
    have q := o2 b hb
    refine ⟨?_, ?_, ?_⟩
    · rw [q.1]; funext y; rw [jn_1, if_neg (by omega)]
    · rw [q.2.1, jn_2, if_neg (by omega)]
    · rw [q.2.2]; funext y; rw [ji_1, if_neg (by omega)]
  have hs2 : (G2.2.1 a).1 = 1 := by rw [(g2 a (by omega)).2.1]; exact hs
  have hσ0 : G2.1 σ 0 = some (σ + 1) := by rw [(g2 σ (by omega)).1]; exact hσ.2.2.2.1
  have hσs : (G2.2.1 σ).1 = 7 := by rw [(g2 σ (by omega)).2.1]; exact hσ.2.1
  have hσI : I2 σ 1 = (ρ : Int) := by rw [(g2 σ (by omega)).2.2]; exact hI
  have rσ : ∀ k, σ ≠ a + k := fun k => by omega
  have rσ0 : σ ≠ a := by omega
  refine r_putF (j := 2) dX1_init_12 ff_X1_12 rfl (Or.inl ⟨_, rfl⟩) rfl (by omega) hs2 ?_
  refine r_aload_n dX1_init_15 rfl (i := 0) rfl ?_
  refine r_sipush (n := 1500) dX1_init_16 rfl ?_
  refine r_newa (k := 101) (n := 1500) dX1_init_19 (Or.inr (Or.inl ⟨rfl, rfl⟩)) ac_byte (by decide) ⟨Nat.le_of_ble_eq_true rfl, Nat.le_of_ble_eq_true rfl⟩ ?_
  refine r_putF (j := 3) dX1_init_21 ff_X1_18 rfl (Or.inr ⟨_, rfl⟩) rfl (by simp [Nat.add_assoc, jp_1, jp_2, jp_3, jn_1, jn_2, jn_3, jn_4, n2]) (by simp [Nat.add_assoc, jp_1, jp_2, jp_3, jn_1, jn_2, jn_3, jn_4, n2, hs2]) ?_
  refine r_aload_n dX1_init_24 rfl (i := 0) rfl ?_
  refine r_sipush (n := 1200) dX1_init_25 rfl ?_
  refine r_newa (k := 100) (n := 1200) dX1_init_28 (Or.inl ⟨rfl, rfl⟩) ac_int (by decide) ⟨Nat.le_of_ble_eq_true rfl, Nat.le_of_ble_eq_true rfl⟩ ?_
  refine r_putF (j := 6) dX1_init_30 ff_X1_22 rfl (Or.inr ⟨_, rfl⟩) rfl (by simp [Nat.add_assoc, jp_1, jp_2, jp_3, jn_1, jn_2, jn_3, jn_4, n2]) (by simp [Nat.add_assoc, jp_1, jp_2, jp_3, jn_1, jn_2, jn_3, jn_4, n2, hs2]) ?_
  refine r_aload_n dX1_init_33 rfl (i := 0) rfl ?_
  refine r_sipush (n := 1200) dX1_init_34 rfl ?_
  refine r_newa (k := 100) (n := 1200) dX1_init_37 (Or.inl ⟨rfl, rfl⟩) ac_int (by decide) ⟨Nat.le_of_ble_eq_true rfl, Nat.le_of_ble_eq_true rfl⟩ ?_
  refine r_putF (j := 7) dX1_init_39 ff_X1_26 rfl (Or.inr ⟨_, rfl⟩) rfl (by simp [Nat.add_assoc, jp_1, jp_2, jp_3, jn_1, jn_2, jn_3, jn_4, n2]) (by simp [Nat.add_assoc, jp_1, jp_2, jp_3, jn_1, jn_2, jn_3, jn_4, n2, hs2]) ?_
  refine r_aload_n dX1_init_42 rfl (i := 0) rfl ?_
  refine r_sipush (n := 1200) dX1_init_43 rfl ?_
  refine r_newa (k := 100) (n := 1200) dX1_init_46 (Or.inl ⟨rfl, rfl⟩) ac_int (by decide) ⟨Nat.le_of_ble_eq_true rfl, Nat.le_of_ble_eq_true rfl⟩ ?_
  refine r_putF (j := 8) dX1_init_48 ff_X1_29 rfl (Or.inr ⟨_, rfl⟩) rfl (by simp [Nat.add_assoc, jp_1, jp_2, jp_3, jn_1, jn_2, jn_3, jn_4, n2]) (by simp [Nat.add_assoc, jp_1, jp_2, jp_3, jn_1, jn_2, jn_3, jn_4, n2, hs2]) ?_
  refine r_aload_n dX1_init_51 rfl (i := 0) rfl ?_
  refine r_sipush (n := 1200) dX1_init_52 rfl ?_
  refine r_newa (k := 100) (n := 1200) dX1_init_55 (Or.inl ⟨rfl, rfl⟩) ac_int (by decide) ⟨Nat.le_of_ble_eq_true rfl, Nat.le_of_ble_eq_true rfl⟩ ?_
  refine r_putF (j := 9) dX1_init_57 ff_X1_32 rfl (Or.inr ⟨_, rfl⟩) rfl (by simp [Nat.add_assoc, jp_1, jp_2, jp_3, jn_1, jn_2, jn_3, jn_4, n2]) (by simp [Nat.add_assoc, jp_1, jp_2, jp_3, jn_1, jn_2, jn_3, jn_4, n2, hs2]) ?_
  refine r_aload_n dX1_init_60 rfl (i := 0) rfl ?_
  refine r_sipush (n := 1200) dX1_init_61 rfl ?_
  refine r_newa (k := 100) (n := 1200) dX1_init_64 (Or.inl ⟨rfl, rfl⟩) ac_int (by decide) ⟨Nat.le_of_ble_eq_true rfl, Nat.le_of_ble_eq_true rfl⟩ ?_
  refine r_putF (j := 10) dX1_init_66 ff_X1_35 rfl (Or.inr ⟨_, rfl⟩) rfl (by simp [Nat.add_assoc, jp_1, jp_2, jp_3, jn_1, jn_2, jn_3, jn_4, n2]) (by simp [Nat.add_assoc, jp_1, jp_2, jp_3, jn_1, jn_2, jn_3, jn_4, n2, hs2]) ?_
  refine r_aload_n dX1_init_69 rfl (i := 0) rfl ?_
  refine r_sipush (n := 1200) dX1_init_70 rfl ?_
  refine r_newa (k := 100) (n := 1200) dX1_init_73 (Or.inl ⟨rfl, rfl⟩) ac_int (by decide) ⟨Nat.le_of_ble_eq_true rfl, Nat.le_of_ble_eq_true rfl⟩ ?_
  refine r_putF (j := 11) dX1_init_75 ff_X1_38 rfl (Or.inr ⟨_, rfl⟩) rfl (by simp [Nat.add_assoc, jp_1, jp_2, jp_3, jn_1, jn_2, jn_3, jn_4, n2]) (by simp [Nat.add_assoc, jp_1, jp_2, jp_3, jn_1, jn_2, jn_3, jn_4, n2, hs2]) ?_
  refine r_aload_n dX1_init_78 rfl (i := 0) rfl ?_
  refine r_sipush (n := 201) dX1_init_79 rfl ?_
  refine r_newa (k := 100) (n := 201) dX1_init_82 (Or.inl ⟨rfl, rfl⟩) ac_int (by decide) ⟨Nat.le_of_ble_eq_true rfl, Nat.le_of_ble_eq_true rfl⟩ ?_
  refine r_putF (j := 12) dX1_init_84 ff_X1_41 rfl (Or.inr ⟨_, rfl⟩) rfl (by simp [Nat.add_assoc, jp_1, jp_2, jp_3, jn_1, jn_2, jn_3, jn_4, n2]) (by simp [Nat.add_assoc, jp_1, jp_2, jp_3, jn_1, jn_2, jn_3, jn_4, n2, hs2]) ?_
  refine r_aload_n dX1_init_87 rfl (i := 0) rfl ?_
  refine r_sipush (n := 4221) dX1_init_88 rfl ?_
  refine r_newa (k := 100) (n := 4221) dX1_init_91 (Or.inl ⟨rfl, rfl⟩) ac_int (by decide) ⟨Nat.le_of_ble_eq_true rfl, Nat.le_of_ble_eq_true rfl⟩ ?_
  refine r_putF (j := 13) dX1_init_93 ff_X1_44 rfl (Or.inr ⟨_, rfl⟩) rfl (by simp [Nat.add_assoc, jp_1, jp_2, jp_3, jn_1, jn_2, jn_3, jn_4, n2]) (by simp [Nat.add_assoc, jp_1, jp_2, jp_3, jn_1, jn_2, jn_3, jn_4, n2, hs2]) ?_
  refine r_aload_n dX1_init_96 rfl (i := 0) rfl ?_
  refine r_sipush (n := 200) dX1_init_97 rfl ?_
  refine r_newa (k := 100) (n := 200) dX1_init_100 (Or.inl ⟨rfl, rfl⟩) ac_int (by decide) ⟨Nat.le_of_ble_eq_true rfl, Nat.le_of_ble_eq_true rfl⟩ ?_
  refine r_putF (j := 14) dX1_init_102 ff_X1_47 rfl (Or.inr ⟨_, rfl⟩) rfl (by simp [Nat.add_assoc, jp_1, jp_2, jp_3, jn_1, jn_2, jn_3, jn_4, n2]) (by simp [Nat.add_assoc, jp_1, jp_2, jp_3, jn_1, jn_2, jn_3, jn_4, n2, hs2]) ?_
  refine r_aload_n dX1_init_105 rfl (i := 0) rfl ?_
  refine r_aload_n dX1_init_106 rfl (i := 1) rfl ?_
  refine rr_getR (b := σ + 1) (jj := 0) dX1_init_107 fg_X1_50 rfl rfl (by simp [Nat.add_assoc, jp_1, jp_2, jp_3, jn_1, jn_2, jn_3, jn_4, n2]; omega) (by simp [Nat.add_assoc, jp_1, jp_2, jp_3, jn_1, jn_2, jn_3, jn_4, n2, rσ, hσs]) (by simp [Nat.add_assoc, jp_1, jp_2, jp_3, jn_1, jn_2, jn_3, jn_4, n2, rσ, rσ0, hσ0]) ?_
  refine rr_putM (jj := 0) dX1_init_110 fp_X1_56 rfl rfl (by simp [Nat.add_assoc, jp_1, jp_2, jp_3, jn_1, jn_2, jn_3, jn_4, n2]) (by simp [Nat.add_assoc, jp_1, jp_2, jp_3, jn_1, jn_2, jn_3, jn_4, n2, hs2]) (by omega) (fun M1 e1 => ?_)
  refine r_aload_n dX1_init_113 rfl (i := 0) rfl ?_
  refine r_aload_n dX1_init_114 rfl (i := 1) rfl ?_
  refine rr_getM (b := ρ) (jj := 1) dX1_init_115 fg_X1_57 rfl rfl (by simp [Nat.add_assoc, jp_1, jp_2, jp_3, jn_1, jn_2, jn_3, jn_4, n2]; omega) (by simp [Nat.add_assoc, jp_1, jp_2, jp_3, jn_1, jn_2, jn_3, jn_4, n2, rσ, hσs]) (by rw [jr_na e1 rσ0]; simp [Nat.add_assoc, jp_1, jp_2, jp_3, jn_1, jn_2, jn_3, jn_4, n2, rσ, hσI]) ?_
  refine rr_putM (jj := 1) dX1_init_118 fp_X1_61 rfl rfl (by simp [Nat.add_assoc, jp_1, jp_2, jp_3, jn_1, jn_2, jn_3, jn_4, n2]) (by simp [Nat.add_assoc, jp_1, jp_2, jp_3, jn_1, jn_2, jn_3, jn_4, n2, hs2]) hρ (fun M2 e2 => ?_)
  refine r_vret dX1_init_121 rfl ⟨Nat.le_of_ble_eq_true rfl, Nat.le_of_ble_eq_true rfl⟩ ⟨rfl, ⟨?_, ?_, hd, ?_, ?_, ?_⟩, ?_, fun b hb => ⟨?_, ?_, ?_⟩⟩
  · simp [Nat.add_assoc, jp_1, jp_2, jp_3, jn_1, jn_2, jn_3, jn_4, n2]
  · simp [Nat.add_assoc, jp_1, jp_2, jp_3, jn_1, jn_2, jn_3, jn_4, n2, hs2]
  · simp [Nat.add_assoc, jp_1, jp_2, jp_3, jn_1, jn_2, jn_3, jn_4, n2]
  · refine gyX8 w8 (by simp [Nat.add_assoc, jp_1, jp_2, jp_3, jn_1, jn_2, jn_3, jn_4, n2]) (fun b q0 q1 => ?_)
    have r0 : b ≠ a := by omega
    have r : ∀ k, 4 ≤ k → b ≠ a + k := fun k hk => by omega
    refine ⟨?_, ?_⟩
    · funext y; simp [Nat.add_assoc, jp_1, jp_2, jp_3, jn_1, jn_2, jn_3, jn_4, n2, r0, r]
    · simp [Nat.add_assoc, jp_1, jp_2, jp_3, jn_1, jn_2, jn_3, jn_4, n2, r]
  · simp [Nat.add_assoc, jp_1, jp_2, jp_3, jn_1, jn_2, jn_3, jn_4, n2]
  · simp [Nat.add_assoc, jp_1, jp_2, jp_3, jn_1, jn_2, jn_3, jn_4, n2]
  · have r : ∀ k, b ≠ a + k := fun k => by omega
    have r0 : b ≠ a := by omega
    funext y
    have q := congrFun (g2 b (by omega)).1 y
    simp [Nat.add_assoc, jp_1, jp_2, jp_3, jn_1, jn_2, jn_3, jn_4, n2, r, r0, q]
  · have r : ∀ k, b ≠ a + k := fun k => by omega
    have q := (g2 b (by omega)).2.1
    simp [Nat.add_assoc, jp_1, jp_2, jp_3, jn_1, jn_2, jn_3, jn_4, n2, r, q]
  · have r : ∀ k, b ≠ a + k := fun k => by omega
    funext y
    have q := congrFun (g2 b (by omega)).2.2 y
    rw [jr_na e2 (by omega), jr_na e1 (by omega)]
    simp [Nat.add_assoc, jp_1, jp_2, jp_3, jn_1, jn_2, jn_3, jn_4, n2, r, q]
