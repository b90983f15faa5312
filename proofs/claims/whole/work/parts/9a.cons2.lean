/-! ===== constructors: a state, a finder, a reader ===== -/
theorem nw_X7_4 : Cond.classLink RX7 9 RX4 ∈ jTB ∧ Cond.instantiable RX4 6 ∈ jTB ∧ Cond.initialized RX4 ∈ jTB := ⟨jTB_1 190 (by decide +kernel) rfl, jTB_1 26 (by decide +kernel) rfl, (mt_X4_init).2.1⟩
theorem ji_1 {I : jM} {a b ci : Nat} {y : Int} : jnI I a ci b y = if b = a then (if jfk ci y.toNat = 2 then -1 else 0) else I b y := rfl
theorem jfk4 (n : Nat) : jfk 4 n ≠ 2 := by
  by_cases h : n < 6
  · have : ∀ k : Fin 6, jfk 4 k.val ≠ 2 := by decide
    exact this ⟨n, h⟩
  · unfold jfk
    rw [List.getD_eq_getElem?_getD, List.getElem?_eq_none (by show 6 ≤ n; omega)]
    decide
theorem in_X7 {E : jE} {G : jG} {I : jM} {a ρ : Nat} (hG : G.2.2 = a + 1) (hs : (G.2.1 a).1 = 7) (hd : a + 9 ≤ 606 ∨ 635 ≤ a) (hρ : (ρ : Int) ≤ 2147483647) : jRun E kX7_init [VR a, VR ρ] G I (fun r G' I' => r = VN ∧ WX7 G' a ∧ G'.2.2 = a + 9 ∧ (∀ b, b < a → G'.1 b = G.1 b ∧ G'.2.1 b = G.2.1 b ∧ I' b = I b) ∧ I' a = up (up (I a) 4 20) 1 ρ ∧ ∀ b, a < b → b < a + 9 → ∀ j, I' b j = 0) := by
  refine jRun.of mt_X7_init.2.2.2 0 rfl (fun _ => ?_)
  refine r_aload_n dX7_init_0 rfl (i := 0) rfl ?_
  refine r_objInit dX7_init_1 ml_X7_3 w_obj ⟨Nat.le_of_ble_eq_true rfl, Nat.le_of_ble_eq_true rfl⟩ ?_
  refine r_aload_n dX7_init_4 rfl (i := 0) rfl ?_
  refine r_new (ci := 4) (n := 6) dX7_init_5 rfl rfl nw_X7_4 (by decide) ⟨Nat.le_of_ble_eq_true rfl, Nat.le_of_ble_eq_true rfl⟩ ?_
  refine r_dup dX7_init_8 rfl ?_
  refine r_callIN (a := G.2.2) (as := []) (host := "StyleFixes") dX7_init_9 mt_X4_init ml_X7_11 mi_X4_init rfl rfl rm_X7_init_X4_init ⟨Nat.le_of_ble_eq_true rfl, Nat.le_of_ble_eq_true rfl⟩ (Nat.le_of_ble_eq_true rfl) (fun x hx => absurd hx List.not_mem_nil) (in_X4 (a := G.2.2) (by rw [jn_3]) (by rw [jn_2, if_pos rfl]) (by omega)) (fun r G2 I2 _ hq => ?_)
  obtain ⟨rfl, w4, n2, o2, s2, i2, z2⟩ := hq
  show jOk E kX7_init 12 [VR a, VR ρ] [VR G.2.2, VR a] G2 I2 _ _
  rw [hG] at w4 n2 o2 i2 z2 ⊢
  have hs2 : (G2.2.1 a).1 = 7 := by rw [(o2 a (by omega)).2.1, jn_2, if_neg (by omega)]; exact hs
  refine r_putF (j := 0) dX7_init_12 ff_X7_12 rfl (Or.inl ⟨_, rfl⟩) rfl (by omega) hs2 ?_
  refine r_aload_n dX7_init_15 rfl (i := 0) rfl ?_
  refine r_bipush (n := 20) dX7_init_16 rfl ?_
  refine rr_putI (jj := 4) dX7_init_18 fp_X7_18 rfl rfl (by show a < G2.2.2; omega) hs2 ⟨by decide, by decide⟩ (fun M1 e1 => ?_)
  refine r_aload_n dX7_init_21 rfl (i := 0) rfl ?_
  refine r_bipush (n := 8) dX7_init_22 rfl ?_
  refine r_newa (k := 100) (n := 8) dX7_init_24 (Or.inl ⟨rfl, rfl⟩) ac_int (by decide) ⟨Nat.le_of_ble_eq_true rfl, Nat.le_of_ble_eq_true rfl⟩ ?_
  refine r_putF (j := 5) dX7_init_26 ff_X7_22 rfl (Or.inr ⟨_, rfl⟩) rfl (by simp [Nat.add_assoc, jp_1, jp_2, jp_3, jn_1, jn_2, jn_3, jn_4, n2]) (by simp [Nat.add_assoc, jp_1, jp_2, jp_3, jn_1, jn_2, jn_3, jn_4, n2, hs2]) ?_
  refine r_aload_n dX7_init_29 rfl (i := 0) rfl ?_
  refine r_bipush (n := 8) dX7_init_30 rfl ?_
  refine r_newa (k := 100) (n := 8) dX7_init_32 (Or.inl ⟨rfl, rfl⟩) ac_int (by decide) ⟨Nat.le_of_ble_eq_true rfl, Nat.le_of_ble_eq_true rfl⟩ ?_
  refine r_putF (j := 6) dX7_init_34 ff_X7_26 rfl (Or.inr ⟨_, rfl⟩) rfl (by simp [Nat.add_assoc, jp_1, jp_2, jp_3, jn_1, jn_2, jn_3, jn_4, n2]) (by simp [Nat.add_assoc, jp_1, jp_2, jp_3, jn_1, jn_2, jn_3, jn_4, n2, hs2]) ?_
  refine r_aload_n dX7_init_37 rfl (i := 0) rfl ?_
  refine r_bipush (n := 72) dX7_init_38 rfl ?_
  refine r_newa (k := 100) (n := 72) dX7_init_40 (Or.inl ⟨rfl, rfl⟩) ac_int (by decide) ⟨Nat.le_of_ble_eq_true rfl, Nat.le_of_ble_eq_true rfl⟩ ?_
  refine r_putF (j := 8) dX7_init_42 ff_X7_29 rfl (Or.inr ⟨_, rfl⟩) rfl (by simp [Nat.add_assoc, jp_1, jp_2, jp_3, jn_1, jn_2, jn_3, jn_4, n2]) (by simp [Nat.add_assoc, jp_1, jp_2, jp_3, jn_1, jn_2, jn_3, jn_4, n2, hs2]) ?_
  refine r_aload_n dX7_init_45 rfl (i := 0) rfl ?_
  refine r_aload_n dX7_init_46 rfl (i := 1) rfl ?_
  refine rr_putM (jj := 1) dX7_init_47 fp_X7_32 rfl rfl (by simp [Nat.add_assoc, jp_1, jp_2, jp_3, jn_1, jn_2, jn_3, jn_4, n2]) (by simp [Nat.add_assoc, jp_1, jp_2, jp_3, jn_1, jn_2, jn_3, jn_4, n2, hs2]) hρ (fun M2 e2 => ?_)
  refine r_vret dX7_init_50 rfl ⟨Nat.le_of_ble_eq_true rfl, Nat.le_of_ble_eq_true rfl⟩ ⟨rfl, ?_, ?_, fun b hb => ⟨?_, ?_, ?_⟩, ?_, fun b h0 h1 j => ?_⟩
  · refine ⟨?_, ?_, hd, ?_, ?_, ?_, ?_, ?_, ?_, ?_, ?_⟩
    · simp [Nat.add_assoc, jp_1, jp_2, jp_3, jn_1, jn_2, jn_3, jn_4, n2]
    · simp [Nat.add_assoc, jp_1, jp_2, jp_3, jn_1, jn_2, jn_3, jn_4, n2, hs2]
    · simp [Nat.add_assoc, jp_1, jp_2, jp_3, jn_1, jn_2, jn_3, jn_4, n2]
    · refine gyX4 w4 (by simp [Nat.add_assoc, jp_1, jp_2, jp_3, jn_1, jn_2, jn_3, jn_4, n2]) (fun b q0 q1 => ?_)
      have r0 : b ≠ a := by omega
      have r1 : b ≠ a + 6 := by omega
      have r2 : b ≠ a + 7 := by omega
      have r3 : b ≠ a + 8 := by omega
      refine ⟨?_, ?_⟩
      · funext y; simp [Nat.add_assoc, jp_1, jp_2, jp_3, jn_1, jn_2, jn_3, jn_4, n2, r0, r1, r2, r3]
      · simp [Nat.add_assoc, jp_1, jp_2, jp_3, jn_1, jn_2, jn_3, jn_4, n2, r0, r1, r2, r3]
    · simp [Nat.add_assoc, jp_1, jp_2, jp_3, jn_1, jn_2, jn_3, jn_4, n2]
    · simp [Nat.add_assoc, jp_1, jp_2, jp_3, jn_1, jn_2, jn_3, jn_4, n2]
    · simp [Nat.add_assoc, jp_1, jp_2, jp_3, jn_1, jn_2, jn_3, jn_4, n2]
    · simp [Nat.add_assoc, jp_1, jp_2, jp_3, jn_1, jn_2, jn_3, jn_4, n2]
    · simp [Nat.add_assoc, jp_1, jp_2, jp_3, jn_1, jn_2, jn_3, jn_4, n2]
    · simp [Nat.add_assoc, jp_1, jp_2, jp_3, jn_1, jn_2, jn_3, jn_4, n2]
  · simp [Nat.add_assoc, jp_1, jp_2, jp_3, jn_1, jn_2, jn_3, jn_4, n2]
  · have r : ∀ k, b ≠ a + k := fun k => by omega
    have r0 : b ≠ a := by omega
    funext y
    have q := congrFun (o2 b (by omega)).1 y
    rw [jn_1, if_neg (by omega)] at q
    simp [Nat.add_assoc, jp_1, jp_2, jp_3, jn_1, jn_2, jn_3, jn_4, n2, r, r0, q]
  · have r : ∀ k, b ≠ a + k := fun k => by omega
    have q := (o2 b (by omega)).2.1
    rw [jn_2, if_neg (by omega)] at q
    simp [Nat.add_assoc, jp_1, jp_2, jp_3, jn_1, jn_2, jn_3, jn_4, n2, r, q]
  · have r : ∀ k, b ≠ a + k := fun k => by omega
    funext y
    have q := congrFun (o2 b (by omega)).2.2 y
    rw [ji_1, if_neg (by omega)] at q
    rw [jr_na e2 (by omega)]
    simp [Nat.add_assoc, jp_1, jp_2, jp_3, jn_1, jn_2, jn_3, jn_4, n2, r]
    rw [jr_na e1 (by omega), q]
  · funext y
    have q := congrFun (o2 a (by omega)).2.2 y
    rw [ji_1, if_neg (by omega)] at q
    rw [jup_at e2]
    simp [Nat.add_assoc, jp_1, jp_2, jp_3, jn_1, jn_2, jn_3, jn_4, n2]
    rw [jup_at e1, q]
    rfl
  · rw [jr_na e2 (by omega)]
    by_cases q : b < a + 6
    · have r1 : b ≠ a + 6 := by omega
      have r2 : b ≠ a + 7 := by omega
      have r3 : b ≠ a + 8 := by omega
      simp [Nat.add_assoc, jp_1, jp_2, jp_3, jn_1, jn_2, jn_3, jn_4, n2, r1, r2, r3]
      rw [jr_na e1 (by omega)]
      by_cases q1 : b = a + 1
      · rw [q1, i2, ji_1, if_pos rfl, if_neg (jfk4 _)]
      · exact z2 b (by omega) (by omega) j
    · have : b = a + 6 ∨ b = a + 7 ∨ b = a + 8 := by omega
      rcases this with rfl | rfl | rfl <;> simp [Nat.add_assoc, jp_1, jp_2, jp_3, jn_1, jn_2, jn_3, jn_4, n2]
