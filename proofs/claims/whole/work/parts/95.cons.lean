/-! ===== constructors that make arrays alone ===== -/
theorem ac_byte : Cond.arrayClass (newarray.typeOf .byte) ∈ jTB := jTB_1 62 (by decide +kernel) rfl
theorem ac_int : Cond.arrayClass (newarray.typeOf .int) ∈ jTB := jTB_1 63 (by decide +kernel) rfl
theorem ac_boolean : Cond.arrayClass (newarray.typeOf .boolean) ∈ jTB := jTB_6 43 (by decide +kernel) rfl
theorem jp_1 {G : jG} {a b x : Nat} {j y : Int} : (jpG G a j b).1 x y = if x = a ∧ y = j then some b else G.1 x y := rfl
theorem jp_2 {G : jG} {a b : Nat} {j : Int} : (jpG G a j b).2.1 = G.2.1 := rfl
theorem jp_3 {G : jG} {a b : Nat} {j : Int} : (jpG G a j b).2.2 = G.2.2 := rfl
theorem jn_1 {G : jG} {k n x : Nat} {y : Int} : (jnG G k n).1 x y = if x = G.2.2 then none else G.1 x y := rfl
theorem jn_2 {G : jG} {k n x : Nat} : (jnG G k n).2.1 x = if x = G.2.2 then (k, n) else G.2.1 x := rfl
theorem jn_3 {G : jG} {k n : Nat} : (jnG G k n).2.2 = G.2.2 + 1 := rfl
theorem jn_4 {I : jM} {a b : Nat} {y : Int} : jnA I a b y = if b = a then 0 else I b y := rfl
theorem in_X8 {E : jE} {G : jG} {I : jM} {a : Nat} (hG : G.2.2 = a + 1) (hs : (G.2.1 a).1 = 8) (hd : a + 3 ≤ 606 ∨ 635 ≤ a) : jRun E kX8_init [VR a] G I (fun r G' I' => r = VN ∧ WX8 G' a ∧ G'.2.2 = a + 3 ∧ (∀ b, b < a → G'.1 b = G.1 b ∧ G'.2.1 b = G.2.1 b ∧ I' b = I b) ∧ G'.2.1 a = G.2.1 a ∧ I' a = I a ∧ ∀ b, a < b → b < a + 3 → ∀ j, I' b j = 0) := by
  refine jRun.of mt_X8_init.2.2.2 0 rfl (fun _ => ?_)
  refine r_aload_n dX8_init_0 rfl (i := 0) rfl ?_
  refine r_objInit dX8_init_1 ml_X8_3 w_obj ⟨Nat.le_of_ble_eq_true rfl, Nat.le_of_ble_eq_true rfl⟩ ?_
  refine r_aload_n dX8_init_4 rfl (i := 0) rfl ?_
  refine r_sipush (n := 201) dX8_init_5 rfl ?_
  refine r_newa (k := 100) (n := 201) dX8_init_8 (Or.inl ⟨rfl, rfl⟩) ac_int (by decide) ⟨Nat.le_of_ble_eq_true rfl, Nat.le_of_ble_eq_true rfl⟩ ?_
  refine r_putF (j := 0) dX8_init_10 ff_X8_9 rfl (Or.inr ⟨_, rfl⟩) rfl (by simp [Nat.add_assoc, jp_1, jp_2, jp_3, jn_1, jn_2, jn_3, jn_4, hG]) (by simp [Nat.add_assoc, jp_1, jp_2, jp_3, jn_1, jn_2, jn_3, jn_4, hG, hs]) ?_
  refine r_aload_n dX8_init_13 rfl (i := 0) rfl ?_
  refine r_sipush (n := 200) dX8_init_14 rfl ?_
  refine r_newa (k := 100) (n := 200) dX8_init_17 (Or.inl ⟨rfl, rfl⟩) ac_int (by decide) ⟨Nat.le_of_ble_eq_true rfl, Nat.le_of_ble_eq_true rfl⟩ ?_
  refine r_putF (j := 1) dX8_init_19 ff_X8_15 rfl (Or.inr ⟨_, rfl⟩) rfl (by simp [Nat.add_assoc, jp_1, jp_2, jp_3, jn_1, jn_2, jn_3, jn_4, hG]) (by simp [Nat.add_assoc, jp_1, jp_2, jp_3, jn_1, jn_2, jn_3, jn_4, hG, hs]) ?_
  refine r_vret dX8_init_22 rfl ⟨Nat.le_of_ble_eq_true rfl, Nat.le_of_ble_eq_true rfl⟩ ⟨rfl, ?_, ?_, fun b hb => ⟨?_, ?_, ?_⟩, ?_, ?_, fun b h0 h1 j => ?_⟩
  · unfold WX8
    simp [Nat.add_assoc, jp_1, jp_2, jp_3, jn_1, jn_2, jn_3, jn_4, hG, hs]
    omega
  · simp [Nat.add_assoc, jp_1, jp_2, jp_3, jn_1, jn_2, jn_3, jn_4, hG]
  · funext y
    have q : ∀ k, b ≠ a + k := fun k => by omega
    have q0 : b ≠ a := by omega
    simp [Nat.add_assoc, jp_1, jp_2, jp_3, jn_1, jn_2, jn_3, jn_4, hG, q, q0]
  · have q : ∀ k, b ≠ a + k := fun k => by omega
    simp [Nat.add_assoc, jp_1, jp_2, jp_3, jn_1, jn_2, jn_3, jn_4, hG, q]
  · funext y
    have q : ∀ k, b ≠ a + k := fun k => by omega
    simp [Nat.add_assoc, jp_1, jp_2, jp_3, jn_1, jn_2, jn_3, jn_4, hG, q]
  · simp [Nat.add_assoc, jp_1, jp_2, jp_3, jn_1, jn_2, jn_3, jn_4, hG]
  · funext y; simp [Nat.add_assoc, jp_1, jp_2, jp_3, jn_1, jn_2, jn_3, jn_4, hG]
  · obtain ⟨k, rfl⟩ : ∃ k, b = a + 1 + k := ⟨b - a - 1, by omega⟩
    have hk : k < 2 := by omega
    simp [Nat.add_assoc, jp_1, jp_2, jp_3, jn_1, jn_2, jn_3, jn_4, hG]
    omega
theorem in_X0 {E : jE} {G : jG} {I : jM} {a : Nat} (hG : G.2.2 = a + 1) (hs : (G.2.1 a).1 = 0) (hd : a + 3 ≤ 606 ∨ 635 ≤ a) : jRun E kX0_init [VR a] G I (fun r G' I' => r = VN ∧ WX0 G' a ∧ G'.2.2 = a + 3 ∧ (∀ b, b < a → G'.1 b = G.1 b ∧ G'.2.1 b = G.2.1 b ∧ I' b = I b) ∧ G'.2.1 a = G.2.1 a ∧ I' a = I a ∧ ∀ b, a < b → b < a + 3 → ∀ j, I' b j = 0) := by
  refine jRun.of mt_X0_init.2.2.2 0 rfl (fun _ => ?_)
  refine r_aload_n dX0_init_0 rfl (i := 0) rfl ?_
  refine r_objInit dX0_init_1 ml_X0_3 w_obj ⟨Nat.le_of_ble_eq_true rfl, Nat.le_of_ble_eq_true rfl⟩ ?_
  refine r_aload_n dX0_init_4 rfl (i := 0) rfl ?_
  refine r_sipush (n := 200) dX0_init_5 rfl ?_
  refine r_newa (k := 100) (n := 200) dX0_init_8 (Or.inl ⟨rfl, rfl⟩) ac_int (by decide) ⟨Nat.le_of_ble_eq_true rfl, Nat.le_of_ble_eq_true rfl⟩ ?_
  refine r_putF (j := 0) dX0_init_10 ff_X0_9 rfl (Or.inr ⟨_, rfl⟩) rfl (by simp [Nat.add_assoc, jp_1, jp_2, jp_3, jn_1, jn_2, jn_3, jn_4, hG]) (by simp [Nat.add_assoc, jp_1, jp_2, jp_3, jn_1, jn_2, jn_3, jn_4, hG, hs]) ?_
  refine r_aload_n dX0_init_13 rfl (i := 0) rfl ?_
  refine r_sipush (n := 200) dX0_init_14 rfl ?_
  refine r_newa (k := 100) (n := 200) dX0_init_17 (Or.inl ⟨rfl, rfl⟩) ac_int (by decide) ⟨Nat.le_of_ble_eq_true rfl, Nat.le_of_ble_eq_true rfl⟩ ?_
  refine r_putF (j := 1) dX0_init_19 ff_X0_15 rfl (Or.inr ⟨_, rfl⟩) rfl (by simp [Nat.add_assoc, jp_1, jp_2, jp_3, jn_1, jn_2, jn_3, jn_4, hG]) (by simp [Nat.add_assoc, jp_1, jp_2, jp_3, jn_1, jn_2, jn_3, jn_4, hG, hs]) ?_
  refine r_vret dX0_init_22 rfl ⟨Nat.le_of_ble_eq_true rfl, Nat.le_of_ble_eq_true rfl⟩ ⟨rfl, ?_, ?_, fun b hb => ⟨?_, ?_, ?_⟩, ?_, ?_, fun b h0 h1 j => ?_⟩
  · unfold WX0
    simp [Nat.add_assoc, jp_1, jp_2, jp_3, jn_1, jn_2, jn_3, jn_4, hG, hs]
    omega
  · simp [Nat.add_assoc, jp_1, jp_2, jp_3, jn_1, jn_2, jn_3, jn_4, hG]
  · funext y
    have q : ∀ k, b ≠ a + k := fun k => by omega
    have q0 : b ≠ a := by omega
    simp [Nat.add_assoc, jp_1, jp_2, jp_3, jn_1, jn_2, jn_3, jn_4, hG, q, q0]
  · have q : ∀ k, b ≠ a + k := fun k => by omega
    simp [Nat.add_assoc, jp_1, jp_2, jp_3, jn_1, jn_2, jn_3, jn_4, hG, q]
  · funext y
    have q : ∀ k, b ≠ a + k := fun k => by omega
    simp [Nat.add_assoc, jp_1, jp_2, jp_3, jn_1, jn_2, jn_3, jn_4, hG, q]
  · simp [Nat.add_assoc, jp_1, jp_2, jp_3, jn_1, jn_2, jn_3, jn_4, hG]
  · funext y; simp [Nat.add_assoc, jp_1, jp_2, jp_3, jn_1, jn_2, jn_3, jn_4, hG]
  · obtain ⟨k, rfl⟩ : ∃ k, b = a + 1 + k := ⟨b - a - 1, by omega⟩
    have hk : k < 2 := by omega
    simp [Nat.add_assoc, jp_1, jp_2, jp_3, jn_1, jn_2, jn_3, jn_4, hG]
    omega
theorem in_X4 {E : jE} {G : jG} {I : jM} {a : Nat} (hG : G.2.2 = a + 1) (hs : (G.2.1 a).1 = 4) (hd : a + 5 ≤ 606 ∨ 635 ≤ a) : jRun E kX4_init [VR a] G I (fun r G' I' => r = VN ∧ WX4 G' a ∧ G'.2.2 = a + 5 ∧ (∀ b, b < a → G'.1 b = G.1 b ∧ G'.2.1 b = G.2.1 b ∧ I' b = I b) ∧ G'.2.1 a = G.2.1 a ∧ I' a = I a ∧ ∀ b, a < b → b < a + 5 → ∀ j, I' b j = 0) := by
  refine jRun.of mt_X4_init.2.2.2 0 rfl (fun _ => ?_)
  refine r_aload_n dX4_init_0 rfl (i := 0) rfl ?_
  refine r_objInit dX4_init_1 ml_X4_3 w_obj ⟨Nat.le_of_ble_eq_true rfl, Nat.le_of_ble_eq_true rfl⟩ ?_
  refine r_aload_n dX4_init_4 rfl (i := 0) rfl ?_
  refine r_sipush (n := 200) dX4_init_5 rfl ?_
  refine r_newa (k := 101) (n := 200) dX4_init_8 (Or.inr (Or.inl ⟨rfl, rfl⟩)) ac_byte (by decide) ⟨Nat.le_of_ble_eq_true rfl, Nat.le_of_ble_eq_true rfl⟩ ?_
  refine r_putF (j := 0) dX4_init_10 ff_X4_9 rfl (Or.inr ⟨_, rfl⟩) rfl (by simp [Nat.add_assoc, jp_1, jp_2, jp_3, jn_1, jn_2, jn_3, jn_4, hG]) (by simp [Nat.add_assoc, jp_1, jp_2, jp_3, jn_1, jn_2, jn_3, jn_4, hG, hs]) ?_
  refine r_aload_n dX4_init_13 rfl (i := 0) rfl ?_
  refine r_sipush (n := 200) dX4_init_14 rfl ?_
  refine r_newa (k := 101) (n := 200) dX4_init_17 (Or.inr (Or.inl ⟨rfl, rfl⟩)) ac_byte (by decide) ⟨Nat.le_of_ble_eq_true rfl, Nat.le_of_ble_eq_true rfl⟩ ?_
  refine r_putF (j := 1) dX4_init_19 ff_X4_15 rfl (Or.inr ⟨_, rfl⟩) rfl (by simp [Nat.add_assoc, jp_1, jp_2, jp_3, jn_1, jn_2, jn_3, jn_4, hG]) (by simp [Nat.add_assoc, jp_1, jp_2, jp_3, jn_1, jn_2, jn_3, jn_4, hG, hs]) ?_
  refine r_aload_n dX4_init_22 rfl (i := 0) rfl ?_
  refine r_bipush (n := 8) dX4_init_23 rfl ?_
  refine r_newa (k := 100) (n := 8) dX4_init_25 (Or.inl ⟨rfl, rfl⟩) ac_int (by decide) ⟨Nat.le_of_ble_eq_true rfl, Nat.le_of_ble_eq_true rfl⟩ ?_
  refine r_putF (j := 3) dX4_init_27 ff_X4_18 rfl (Or.inr ⟨_, rfl⟩) rfl (by simp [Nat.add_assoc, jp_1, jp_2, jp_3, jn_1, jn_2, jn_3, jn_4, hG]) (by simp [Nat.add_assoc, jp_1, jp_2, jp_3, jn_1, jn_2, jn_3, jn_4, hG, hs]) ?_
  refine r_aload_n dX4_init_30 rfl (i := 0) rfl ?_
  refine r_bipush (n := 8) dX4_init_31 rfl ?_
  refine r_newa (k := 100) (n := 8) dX4_init_33 (Or.inl ⟨rfl, rfl⟩) ac_int (by decide) ⟨Nat.le_of_ble_eq_true rfl, Nat.le_of_ble_eq_true rfl⟩ ?_
  refine r_putF (j := 4) dX4_init_35 ff_X4_22 rfl (Or.inr ⟨_, rfl⟩) rfl (by simp [Nat.add_assoc, jp_1, jp_2, jp_3, jn_1, jn_2, jn_3, jn_4, hG]) (by simp [Nat.add_assoc, jp_1, jp_2, jp_3, jn_1, jn_2, jn_3, jn_4, hG, hs]) ?_
  refine r_vret dX4_init_38 rfl ⟨Nat.le_of_ble_eq_true rfl, Nat.le_of_ble_eq_true rfl⟩ ⟨rfl, ?_, ?_, fun b hb => ⟨?_, ?_, ?_⟩, ?_, ?_, fun b h0 h1 j => ?_⟩
  · unfold WX4
    simp [Nat.add_assoc, jp_1, jp_2, jp_3, jn_1, jn_2, jn_3, jn_4, hG, hs]
    omega
  · simp [Nat.add_assoc, jp_1, jp_2, jp_3, jn_1, jn_2, jn_3, jn_4, hG]
  · funext y
    have q : ∀ k, b ≠ a + k := fun k => by omega
    have q0 : b ≠ a := by omega
    simp [Nat.add_assoc, jp_1, jp_2, jp_3, jn_1, jn_2, jn_3, jn_4, hG, q, q0]
  · have q : ∀ k, b ≠ a + k := fun k => by omega
    simp [Nat.add_assoc, jp_1, jp_2, jp_3, jn_1, jn_2, jn_3, jn_4, hG, q]
  · funext y
    have q : ∀ k, b ≠ a + k := fun k => by omega
    simp [Nat.add_assoc, jp_1, jp_2, jp_3, jn_1, jn_2, jn_3, jn_4, hG, q]
  · simp [Nat.add_assoc, jp_1, jp_2, jp_3, jn_1, jn_2, jn_3, jn_4, hG]
  · funext y; simp [Nat.add_assoc, jp_1, jp_2, jp_3, jn_1, jn_2, jn_3, jn_4, hG]
  · obtain ⟨k, rfl⟩ : ∃ k, b = a + 1 + k := ⟨b - a - 1, by omega⟩
    have hk : k < 4 := by omega
    simp [Nat.add_assoc, jp_1, jp_2, jp_3, jn_1, jn_2, jn_3, jn_4, hG]
    omega
theorem in_X6 {E : jE} {G : jG} {I : jM} {a : Nat} (hG : G.2.2 = a + 1) (hs : (G.2.1 a).1 = 6) (hd : a + 13 ≤ 606 ∨ 635 ≤ a) : jRun E kX6_init [VR a] G I (fun r G' I' => r = VN ∧ WX6 G' a ∧ G'.2.2 = a + 13 ∧ (∀ b, b < a → G'.1 b = G.1 b ∧ G'.2.1 b = G.2.1 b ∧ I' b = I b) ∧ G'.2.1 a = G.2.1 a ∧ I' a = I a ∧ ∀ b, a < b → b < a + 13 → ∀ j, I' b j = 0) := by
  refine jRun.of mt_X6_init.2.2.2 0 rfl (fun _ => ?_)
  refine r_aload_n dX6_init_0 rfl (i := 0) rfl ?_
  refine r_objInit dX6_init_1 ml_X6_3 w_obj ⟨Nat.le_of_ble_eq_true rfl, Nat.le_of_ble_eq_true rfl⟩ ?_
  refine r_aload_n dX6_init_4 rfl (i := 0) rfl ?_
  refine r_sipush (n := 300) dX6_init_5 rfl ?_
  refine r_newa (k := 101) (n := 300) dX6_init_8 (Or.inr (Or.inl ⟨rfl, rfl⟩)) ac_byte (by decide) ⟨Nat.le_of_ble_eq_true rfl, Nat.le_of_ble_eq_true rfl⟩ ?_
  refine r_putF (j := 0) dX6_init_10 ff_X6_9 rfl (Or.inr ⟨_, rfl⟩) rfl (by simp [Nat.add_assoc, jp_1, jp_2, jp_3, jn_1, jn_2, jn_3, jn_4, hG]) (by simp [Nat.add_assoc, jp_1, jp_2, jp_3, jn_1, jn_2, jn_3, jn_4, hG, hs]) ?_
  refine r_aload_n dX6_init_13 rfl (i := 0) rfl ?_
  refine r_bipush (n := 6) dX6_init_14 rfl ?_
  refine r_newa (k := 100) (n := 6) dX6_init_16 (Or.inl ⟨rfl, rfl⟩) ac_int (by decide) ⟨Nat.le_of_ble_eq_true rfl, Nat.le_of_ble_eq_true rfl⟩ ?_
  refine r_putF (j := 2) dX6_init_18 ff_X6_15 rfl (Or.inr ⟨_, rfl⟩) rfl (by simp [Nat.add_assoc, jp_1, jp_2, jp_3, jn_1, jn_2, jn_3, jn_4, hG]) (by simp [Nat.add_assoc, jp_1, jp_2, jp_3, jn_1, jn_2, jn_3, jn_4, hG, hs]) ?_
  refine r_aload_n dX6_init_21 rfl (i := 0) rfl ?_
  refine r_bipush (n := 6) dX6_init_22 rfl ?_
  refine r_newa (k := 100) (n := 6) dX6_init_24 (Or.inl ⟨rfl, rfl⟩) ac_int (by decide) ⟨Nat.le_of_ble_eq_true rfl, Nat.le_of_ble_eq_true rfl⟩ ?_
  refine r_putF (j := 3) dX6_init_26 ff_X6_19 rfl (Or.inr ⟨_, rfl⟩) rfl (by simp [Nat.add_assoc, jp_1, jp_2, jp_3, jn_1, jn_2, jn_3, jn_4, hG]) (by simp [Nat.add_assoc, jp_1, jp_2, jp_3, jn_1, jn_2, jn_3, jn_4, hG, hs]) ?_
  refine r_aload_n dX6_init_29 rfl (i := 0) rfl ?_
  refine r_bipush (n := 6) dX6_init_30 rfl ?_
  refine r_newa (k := 100) (n := 6) dX6_init_32 (Or.inl ⟨rfl, rfl⟩) ac_int (by decide) ⟨Nat.le_of_ble_eq_true rfl, Nat.le_of_ble_eq_true rfl⟩ ?_
  refine r_putF (j := 4) dX6_init_34 ff_X6_22 rfl (Or.inr ⟨_, rfl⟩) rfl (by simp [Nat.add_assoc, jp_1, jp_2, jp_3, jn_1, jn_2, jn_3, jn_4, hG]) (by simp [Nat.add_assoc, jp_1, jp_2, jp_3, jn_1, jn_2, jn_3, jn_4, hG, hs]) ?_
  refine r_aload_n dX6_init_37 rfl (i := 0) rfl ?_
  refine r_bipush (n := 6) dX6_init_38 rfl ?_
  refine r_newa (k := 100) (n := 6) dX6_init_40 (Or.inl ⟨rfl, rfl⟩) ac_int (by decide) ⟨Nat.le_of_ble_eq_true rfl, Nat.le_of_ble_eq_true rfl⟩ ?_
  refine r_putF (j := 5) dX6_init_42 ff_X6_25 rfl (Or.inr ⟨_, rfl⟩) rfl (by simp [Nat.add_assoc, jp_1, jp_2, jp_3, jn_1, jn_2, jn_3, jn_4, hG]) (by simp [Nat.add_assoc, jp_1, jp_2, jp_3, jn_1, jn_2, jn_3, jn_4, hG, hs]) ?_
  refine r_aload_n dX6_init_45 rfl (i := 0) rfl ?_
  refine r_bipush (n := 36) dX6_init_46 rfl ?_
  refine r_newa (k := 100) (n := 36) dX6_init_48 (Or.inl ⟨rfl, rfl⟩) ac_int (by decide) ⟨Nat.le_of_ble_eq_true rfl, Nat.le_of_ble_eq_true rfl⟩ ?_
  refine r_putF (j := 6) dX6_init_50 ff_X6_28 rfl (Or.inr ⟨_, rfl⟩) rfl (by simp [Nat.add_assoc, jp_1, jp_2, jp_3, jn_1, jn_2, jn_3, jn_4, hG]) (by simp [Nat.add_assoc, jp_1, jp_2, jp_3, jn_1, jn_2, jn_3, jn_4, hG, hs]) ?_
  refine r_aload_n dX6_init_53 rfl (i := 0) rfl ?_
  refine r_bipush (n := 36) dX6_init_54 rfl ?_
  refine r_newa (k := 100) (n := 36) dX6_init_56 (Or.inl ⟨rfl, rfl⟩) ac_int (by decide) ⟨Nat.le_of_ble_eq_true rfl, Nat.le_of_ble_eq_true rfl⟩ ?_
  refine r_putF (j := 7) dX6_init_58 ff_X6_31 rfl (Or.inr ⟨_, rfl⟩) rfl (by simp [Nat.add_assoc, jp_1, jp_2, jp_3, jn_1, jn_2, jn_3, jn_4, hG]) (by simp [Nat.add_assoc, jp_1, jp_2, jp_3, jn_1, jn_2, jn_3, jn_4, hG, hs]) ?_
  refine r_aload_n dX6_init_61 rfl (i := 0) rfl ?_
  refine r_bipush (n := 36) dX6_init_62 rfl ?_
  refine r_newa (k := 100) (n := 36) dX6_init_64 (Or.inl ⟨rfl, rfl⟩) ac_int (by decide) ⟨Nat.le_of_ble_eq_true rfl, Nat.le_of_ble_eq_true rfl⟩ ?_
  refine r_putF (j := 8) dX6_init_66 ff_X6_34 rfl (Or.inr ⟨_, rfl⟩) rfl (by simp [Nat.add_assoc, jp_1, jp_2, jp_3, jn_1, jn_2, jn_3, jn_4, hG]) (by simp [Nat.add_assoc, jp_1, jp_2, jp_3, jn_1, jn_2, jn_3, jn_4, hG, hs]) ?_
  refine r_aload_n dX6_init_69 rfl (i := 0) rfl ?_
  refine r_bipush (n := 36) dX6_init_70 rfl ?_
  refine r_newa (k := 100) (n := 36) dX6_init_72 (Or.inl ⟨rfl, rfl⟩) ac_int (by decide) ⟨Nat.le_of_ble_eq_true rfl, Nat.le_of_ble_eq_true rfl⟩ ?_
  refine r_putF (j := 9) dX6_init_74 ff_X6_37 rfl (Or.inr ⟨_, rfl⟩) rfl (by simp [Nat.add_assoc, jp_1, jp_2, jp_3, jn_1, jn_2, jn_3, jn_4, hG]) (by simp [Nat.add_assoc, jp_1, jp_2, jp_3, jn_1, jn_2, jn_3, jn_4, hG, hs]) ?_
  refine r_aload_n dX6_init_77 rfl (i := 0) rfl ?_
  refine r_bipush (n := 36) dX6_init_78 rfl ?_
  refine r_newa (k := 100) (n := 36) dX6_init_80 (Or.inl ⟨rfl, rfl⟩) ac_int (by decide) ⟨Nat.le_of_ble_eq_true rfl, Nat.le_of_ble_eq_true rfl⟩ ?_
  refine r_putF (j := 10) dX6_init_82 ff_X6_40 rfl (Or.inr ⟨_, rfl⟩) rfl (by simp [Nat.add_assoc, jp_1, jp_2, jp_3, jn_1, jn_2, jn_3, jn_4, hG]) (by simp [Nat.add_assoc, jp_1, jp_2, jp_3, jn_1, jn_2, jn_3, jn_4, hG, hs]) ?_
  refine r_aload_n dX6_init_85 rfl (i := 0) rfl ?_
  refine r_bipush (n := 36) dX6_init_86 rfl ?_
  refine r_newa (k := 100) (n := 36) dX6_init_88 (Or.inl ⟨rfl, rfl⟩) ac_int (by decide) ⟨Nat.le_of_ble_eq_true rfl, Nat.le_of_ble_eq_true rfl⟩ ?_
  refine r_putF (j := 11) dX6_init_90 ff_X6_43 rfl (Or.inr ⟨_, rfl⟩) rfl (by simp [Nat.add_assoc, jp_1, jp_2, jp_3, jn_1, jn_2, jn_3, jn_4, hG]) (by simp [Nat.add_assoc, jp_1, jp_2, jp_3, jn_1, jn_2, jn_3, jn_4, hG, hs]) ?_
  refine r_aload_n dX6_init_93 rfl (i := 0) rfl ?_
  refine r_bipush (n := 36) dX6_init_94 rfl ?_
  refine r_newa (k := 100) (n := 36) dX6_init_96 (Or.inl ⟨rfl, rfl⟩) ac_int (by decide) ⟨Nat.le_of_ble_eq_true rfl, Nat.le_of_ble_eq_true rfl⟩ ?_
  refine r_putF (j := 12) dX6_init_98 ff_X6_46 rfl (Or.inr ⟨_, rfl⟩) rfl (by simp [Nat.add_assoc, jp_1, jp_2, jp_3, jn_1, jn_2, jn_3, jn_4, hG]) (by simp [Nat.add_assoc, jp_1, jp_2, jp_3, jn_1, jn_2, jn_3, jn_4, hG, hs]) ?_
  refine r_vret dX6_init_101 rfl ⟨Nat.le_of_ble_eq_true rfl, Nat.le_of_ble_eq_true rfl⟩ ⟨rfl, ?_, ?_, fun b hb => ⟨?_, ?_, ?_⟩, ?_, ?_, fun b h0 h1 j => ?_⟩
  · unfold WX6
    simp [Nat.add_assoc, jp_1, jp_2, jp_3, jn_1, jn_2, jn_3, jn_4, hG, hs]
    omega
  · simp [Nat.add_assoc, jp_1, jp_2, jp_3, jn_1, jn_2, jn_3, jn_4, hG]
  · funext y
    have q : ∀ k, b ≠ a + k := fun k => by omega
    have q0 : b ≠ a := by omega
    simp [Nat.add_assoc, jp_1, jp_2, jp_3, jn_1, jn_2, jn_3, jn_4, hG, q, q0]
  · have q : ∀ k, b ≠ a + k := fun k => by omega
    simp [Nat.add_assoc, jp_1, jp_2, jp_3, jn_1, jn_2, jn_3, jn_4, hG, q]
  · funext y
    have q : ∀ k, b ≠ a + k := fun k => by omega
    simp [Nat.add_assoc, jp_1, jp_2, jp_3, jn_1, jn_2, jn_3, jn_4, hG, q]
  · simp [Nat.add_assoc, jp_1, jp_2, jp_3, jn_1, jn_2, jn_3, jn_4, hG]
  · funext y; simp [Nat.add_assoc, jp_1, jp_2, jp_3, jn_1, jn_2, jn_3, jn_4, hG]
  · obtain ⟨k, rfl⟩ : ∃ k, b = a + 1 + k := ⟨b - a - 1, by omega⟩
    have hk : k < 12 := by omega
    simp [Nat.add_assoc, jp_1, jp_2, jp_3, jn_1, jn_2, jn_3, jn_4, hG]
    omega
