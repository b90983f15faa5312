/-! ===== constructors: a history, a journey ===== -/
theorem nw_X2_7 : Cond.classLink RX2 9 RX7 ∈ jTB ∧ Cond.instantiable RX7 11 ∈ jTB ∧ Cond.initialized RX7 ∈ jTB := ⟨jTB_2 35 (by decide +kernel) rfl, jTB_1 185 (by decide +kernel) rfl, (mt_X7_init).2.1⟩
theorem nw_X3_4 : Cond.classLink RX3 9 RX4 ∈ jTB ∧ Cond.instantiable RX4 6 ∈ jTB ∧ Cond.initialized RX4 ∈ jTB := ⟨jTB_1 70 (by decide +kernel) rfl, jTB_1 26 (by decide +kernel) rfl, (mt_X4_init).2.1⟩
theorem in_X2 {E : jE} {G : jG} {I : jM} {a ρ : Nat} (hG : G.2.2 = a + 1) (hs : (G.2.1 a).1 = 2) (hd : a + 182 ≤ 606 ∨ 635 ≤ a) (hρ : (ρ : Int) ≤ 2147483647) : jRun E kX2_init [VR a, VR ρ] G I (fun r G' I' => r = VN ∧ WX2 G' a ∧ G'.2.2 = a + 182 ∧ (∀ b, b < a → G'.1 b = G.1 b ∧ G'.2.1 b = G.2.1 b ∧ I' b = I b) ∧ I' a = I a) := by
  have loop : ∀ (d i : Nat) (G1 : jG) (I1 : jM), i + d = 20 → G1.2.2 = a + 2 + 9 * i → (G1.2.1 a).1 = 2 → G1.1 a 0 = some (a + 1) → G1.2.1 (a + 1) = (103, 20) → (∀ k : Nat, k < i → G1.1 (a + 1) k = some (a + 2 + 9 * k) ∧ WX7 G1 (a + 2 + 9 * k)) → (∀ b, b < a → G1.1 b = G.1 b ∧ G1.2.1 b = G.2.1 b ∧ I1 b = I b) → I1 a = I a → jOk E kX2_init 15 [VR a, VR ρ, VI (i : Int)] [] G1 I1 (1 + 9 * i, 20 + 521 * i) (fun r G' I' => r = VN ∧ WX2 G' a ∧ G'.2.2 = a + 182 ∧ (∀ b, b < a → G'.1 b = G.1 b ∧ G'.2.1 b = G.2.1 b ∧ I' b = I b) ∧ I' a = I a) := by
    intro d
    induction d with
    | zero =>
      intro i G1 I1 hi n1 s1 r1 a1 w1 o1 i1
      refine r_iload_n dX2_init_15 rfl (i := 2) rfl ?_
      refine r_bipush (n := 20) dX2_init_16 rfl ?_
      refine r_icmp_ge (tgt := 41) dX2_init_18 rfl ⟨by omega, by omega⟩ ⟨by decide, by decide⟩ (fun _ => ?_) (fun q => by omega)
      refine r_vret dX2_init_41 rfl ⟨by show 1 + 9 * i ≤ 181; omega, by show 20 + 521 * i ≤ 10440; omega⟩ ⟨rfl, ⟨by omega, s1, hd, r1, a1, fun k k0 k1 => ?_⟩, by omega, o1, i1⟩
      have := w1 k.toNat (by omega)
      rw [show ((k.toNat : Nat) : Int) = k by omega] at this
      exact this
    | succ d ih =>
      intro i G1 I1 hi n1 s1 r1 a1 w1 o1 i1
      refine r_iload_n dX2_init_15 rfl (i := 2) rfl ?_
      refine r_bipush (n := 20) dX2_init_16 rfl ?_
      refine r_icmp_ge (tgt := 41) dX2_init_18 rfl ⟨by omega, by omega⟩ ⟨by decide, by decide⟩ (fun q => by omega) (fun _ => ?_)
      refine r_aload_n dX2_init_21 rfl (i := 0) rfl ?_
      refine rr_getR (b := a + 1) (jj := 0) dX2_init_22 fg_X2_11 rfl rfl (by omega) s1 r1 ?_
      refine r_iload_n dX2_init_25 rfl (i := 2) rfl ?_
      refine r_new (ci := 7) (n := 11) dX2_init_26 rfl rfl nw_X2_7 (by decide) ⟨by show 1 + 9 * i + 1 ≤ 181; omega, by show 20 + 521 * i + 11 ≤ 10440; omega⟩ ?_
      refine r_dup dX2_init_29 rfl ?_
      refine r_aload_n dX2_init_30 rfl (i := 1) rfl ?_
      refine r_callI (a := G1.2.2) (as := [VR ρ]) dX2_init_31 mt_X7_init ml_X2_17 mi_X7_init rfl rfl rm_X2_init_X7_init ⟨by show 1 + 9 * i + 1 + 8 ≤ 181; omega, by show 20 + 521 * i + 11 + 510 ≤ 10440; omega⟩ (Nat.le_of_ble_eq_true rfl) (jasR jas0) (in_X7 (a := G1.2.2) (by rw [jn_3]) (by rw [jn_2, if_pos rfl]) (by omega) hρ) (fun r G2 I2 _ hq => ?_)
      obtain ⟨rfl, w7, n2, o2, i2, z2⟩ := hq
      show jOk E kX2_init 34 [VR a, VR ρ, VI (i : Int)] [VR G1.2.2, VI (i : Int), VR (a + 1)] G2 I2 _ _
      have g2 : ∀ b, b < G1.2.2 → G2.1 b = G1.1 b ∧ G2.2.1 b = G1.2.1 b ∧ I2 b = I1 b := fun b hb => by
        have q := o2 b hb
        refine ⟨?_, ?_, ?_⟩
        · rw [q.1]; funext y; rw [jn_1, if_neg (by omega)]
        · rw [q.2.1, jn_2, if_neg (by omega)]
        · rw [q.2.2]; funext y; rw [ji_1, if_neg (by omega)]
      refine r_aastore (a := a + 1) (b := G1.2.2) (n := 20) (t := 103) (ci := 7) dX2_init_34 (by omega) (by rw [(g2 (a + 1) (by omega)).2.1]; exact a1) (Or.inl ⟨rfl, rfl⟩) (by omega) w7.2.1 (by decide) (by omega) (by omega) ?_
      refine r_iinc (i := 2) (n := 1) (x := (i : Int)) dX2_init_35 rfl (Nat.le_of_ble_eq_true rfl) rfl ⟨by omega, by omega⟩ ?_
      refine r_goto (tgt := 15) dX2_init_38 rfl ?_
      have e1 : ∀ b y, (b ≠ a + 1 ∨ y ≠ (i : Int)) → (jpG G2 (a + 1) i G1.2.2).1 b y = G2.1 b y := fun b y q => by rw [jp_1, if_neg (by omega)]
      have sub : ∀ p, WX7 G2 p → (p + 9 ≤ a + 1 ∨ a + 1 < p) → WX7 (jpG G2 (a + 1) i G1.2.2) p := fun p hp hq => gyX7 hp (Nat.le_refl _) (fun b q0 q1 => ⟨by funext y; exact e1 b y (by omega), rfl⟩)
      have nx := ih (i + 1) (jpG G2 (a + 1) i G1.2.2) I2 (by omega) (by rw [jp_3, n2]; omega) (by rw [jp_2, (g2 a (by omega)).2.1]; exact s1) (by rw [e1 _ _ (by omega), (g2 a (by omega)).1]; exact r1) (by rw [jp_2, (g2 (a + 1) (by omega)).2.1]; exact a1) (fun k hk => ?_) (fun b hb => ⟨?_, ?_, ?_⟩) (by rw [(g2 a (by omega)).2.2]; exact i1)
      · rw [show 1 + 9 * (i + 1) = 1 + 9 * i + 1 + 8 by omega, show 20 + 521 * (i + 1) = 20 + 521 * i + 11 + 510 by omega] at nx
        exact nx
      · by_cases q : k = i
        · subst q
          refine ⟨by rw [jp_1, if_pos ⟨rfl, rfl⟩, n1], ?_⟩
          rw [← n1]
          exact sub _ w7 (by omega)
        · have w := w1 k (by omega)
          refine ⟨by rw [e1 _ _ (by omega), (g2 (a + 1) (by omega)).1]; exact w.1, sub _ (gyX7 w.2 (by omega) (fun b q0 q1 => ⟨(g2 b (by omega)).1, (g2 b (by omega)).2.1⟩)) (by omega)⟩
      · funext y; rw [e1 b y (by omega), (g2 b (by omega)).1, (o1 b hb).1]
      · rw [jp_2, (g2 b (by omega)).2.1, (o1 b hb).2.1]
      · rw [(g2 b (by omega)).2.2, (o1 b hb).2.2]
  refine jRun.of mt_X2_init.2.2.2 1 rfl (fun _ => ?_)
  refine r_aload_n dX2_init_0 rfl (i := 0) rfl ?_
  refine r_objInit dX2_init_1 ml_X2_3 w_obj ⟨Nat.le_of_ble_eq_true rfl, Nat.le_of_ble_eq_true rfl⟩ ?_
  refine r_aload_n dX2_init_4 rfl (i := 0) rfl ?_
  refine r_bipush (n := 20) dX2_init_5 rfl ?_
  refine r_anewa (k := 103) (n := 20) (C := RX7) dX2_init_7 (Or.inl ⟨rfl, rfl⟩) nw_X2_7.1 (by decide) ⟨Nat.le_of_ble_eq_true rfl, Nat.le_of_ble_eq_true rfl⟩ ?_
  refine r_putF (j := 0) dX2_init_10 ff_X2_11 rfl (Or.inr ⟨_, rfl⟩) rfl (by simp [Nat.add_assoc, jp_1, jp_2, jp_3, jn_1, jn_2, jn_3, jn_4, hG]) (by simp [Nat.add_assoc, jp_1, jp_2, jp_3, jn_1, jn_2, jn_3, jn_4, hG, hs]) ?_
  refine r_iconst (n := 0) dX2_init_13 ?_
  refine rr_istore_n (i := 2) (ls' := [VR a, VR ρ, VI 0]) dX2_init_14 rfl (Nat.le_of_ble_eq_true rfl) rfl rfl ⟨by decide, by decide⟩ ?_
  refine loop 20 0 _ _ rfl (by simp [Nat.add_assoc, jp_1, jp_2, jp_3, jn_1, jn_2, jn_3, jn_4, hG]) (by simp [Nat.add_assoc, jp_1, jp_2, jp_3, jn_1, jn_2, jn_3, jn_4, hG, hs]) (by simp [Nat.add_assoc, jp_1, jp_2, jp_3, jn_1, jn_2, jn_3, jn_4, hG]) (by simp [Nat.add_assoc, jp_1, jp_2, jp_3, jn_1, jn_2, jn_3, jn_4, hG]) (fun k hk => absurd hk (Nat.not_lt_zero k)) (fun b hb => ⟨?_, ?_, ?_⟩) ?_
  · have r : ∀ k, b ≠ a + k := fun k => by omega
    have r0 : b ≠ a := by omega
    funext y; simp [Nat.add_assoc, jp_1, jp_2, jp_3, jn_1, jn_2, jn_3, jn_4, hG, r, r0]
  · have r : ∀ k, b ≠ a + k := fun k => by omega
    simp [Nat.add_assoc, jp_1, jp_2, jp_3, jn_1, jn_2, jn_3, jn_4, hG, r]
  · have r : ∀ k, b ≠ a + k := fun k => by omega
    funext y; simp [Nat.add_assoc, jp_1, jp_2, jp_3, jn_1, jn_2, jn_3, jn_4, hG, r]
  · funext y; simp [Nat.add_assoc, jp_1, jp_2, jp_3, jn_1, jn_2, jn_3, jn_4, hG]
theorem in_X3 {E : jE} {G : jG} {I : jM} {a : Nat} (hG : G.2.2 = a + 1) (hs : (G.2.1 a).1 = 3) (hd : a + 158 ≤ 606 ∨ 635 ≤ a) : jRun E kX3_init [VR a] G I (fun r G' I' => r = VN ∧ WX3 G' a ∧ G'.2.2 = a + 158 ∧ (∀ b, b < a → G'.1 b = G.1 b ∧ G'.2.1 b = G.2.1 b ∧ I' b = I b) ∧ I' a = I a) := by
  have loop : ∀ (d i : Nat) (G1 : jG) (I1 : jM), i + d = 31 → G1.2.2 = a + 3 + 5 * i → (G1.2.1 a).1 = 3 → G1.1 a 0 = some (a + 1) → G1.2.1 (a + 1) = (104, 31) → (G1.1 a 1 = some (a + 2) ∧ G1.2.1 (a + 2) = (100, 30)) → (∀ k : Nat, k < i → G1.1 (a + 1) k = some (a + 3 + 5 * k) ∧ WX4 G1 (a + 3 + 5 * k)) → (∀ b, b < a → G1.1 b = G.1 b ∧ G1.2.1 b = G.2.1 b ∧ I1 b = I b) → I1 a = I a → jOk E kX3_init 23 [VR a, VI (i : Int)] [] G1 I1 (2 + 5 * i, 61 + 422 * i) (fun r G' I' => r = VN ∧ WX3 G' a ∧ G'.2.2 = a + 158 ∧ (∀ b, b < a → G'.1 b = G.1 b ∧ G'.2.1 b = G.2.1 b ∧ I' b = I b) ∧ I' a = I a) := by
    intro d
    induction d with
    | zero =>
      intro i G1 I1 hi n1 s1 r1 a1 x1 w1 o1 i1
      refine r_iload_n dX3_init_23 rfl (i := 1) rfl ?_
      refine r_bipush (n := 30) dX3_init_24 rfl ?_
      refine r_icmp_gt (tgt := 48) dX3_init_26 rfl ⟨by omega, by omega⟩ ⟨by decide, by decide⟩ (fun _ => ?_) (fun q => by omega)
      refine r_vret dX3_init_48 rfl ⟨by show 2 + 5 * i ≤ 157; omega, by show 61 + 422 * i ≤ 13143; omega⟩ ⟨rfl, ⟨by omega, s1, hd, r1, a1, fun k k0 k1 => ?_, x1⟩, by omega, o1, i1⟩
      have := w1 k.toNat (by omega)
      rw [show ((k.toNat : Nat) : Int) = k by omega] at this
      exact this
    | succ d ih =>
      intro i G1 I1 hi n1 s1 r1 a1 x1 w1 o1 i1
      refine r_iload_n dX3_init_23 rfl (i := 1) rfl ?_
      refine r_bipush (n := 30) dX3_init_24 rfl ?_
      refine r_icmp_gt (tgt := 48) dX3_init_26 rfl ⟨by omega, by omega⟩ ⟨by decide, by decide⟩ (fun q => by omega) (fun _ => ?_)
      refine r_aload_n dX3_init_29 rfl (i := 0) rfl ?_
      refine rr_getR (b := a + 1) (jj := 0) dX3_init_30 fg_X3_11 rfl rfl (by omega) s1 r1 ?_
      refine r_iload_n dX3_init_33 rfl (i := 1) rfl ?_
      refine r_new (ci := 4) (n := 6) dX3_init_34 rfl rfl nw_X3_4 (by decide) ⟨by show 2 + 5 * i + 1 ≤ 157; omega, by show 61 + 422 * i + 6 ≤ 13143; omega⟩ ?_
      refine r_dup dX3_init_37 rfl ?_
      refine r_callIN (a := G1.2.2) (as := []) (host := "StyleFixes") dX3_init_38 mt_X4_init ml_X3_21 mi_X4_init rfl rfl rm_X3_init_X4_init ⟨by show 2 + 5 * i + 1 + 4 ≤ 157; omega, by show 61 + 422 * i + 6 + 416 ≤ 13143; omega⟩ (Nat.le_of_ble_eq_true rfl) (fun x hx => absurd hx List.not_mem_nil) (in_X4 (a := G1.2.2) (by rw [jn_3]) (by rw [jn_2, if_pos rfl]) (by omega)) (fun r G2 I2 _ hq => ?_)
      obtain ⟨rfl, w4, n2, o2, s2, i2, z2⟩ := hq
      show jOk E kX3_init 41 [VR a, VI (i : Int)] [VR G1.2.2, VI (i : Int), VR (a + 1)] G2 I2 _ _
      have g2 : ∀ b, b < G1.2.2 → G2.1 b = G1.1 b ∧ G2.2.1 b = G1.2.1 b ∧ I2 b = I1 b := fun b hb => by
        have q := o2 b hb
        refine ⟨?_, ?_, ?_⟩
        · rw [q.1]; funext y; rw [jn_1, if_neg (by omega)]
        · rw [q.2.1, jn_2, if_neg (by omega)]
        · rw [q.2.2]; funext y; rw [ji_1, if_neg (by omega)]
      refine r_aastore (a := a + 1) (b := G1.2.2) (n := 31) (t := 104) (ci := 4) dX3_init_41 (by omega) (by rw [(g2 (a + 1) (by omega)).2.1]; exact a1) (Or.inr ⟨rfl, rfl⟩) (by omega) w4.2.1 (by decide) (by omega) (by omega) ?_
      refine r_iinc (i := 1) (n := 1) (x := (i : Int)) dX3_init_42 rfl (Nat.le_of_ble_eq_true rfl) rfl ⟨by omega, by omega⟩ ?_
      refine r_goto (tgt := 23) dX3_init_45 rfl ?_
      have e1 : ∀ b y, (b ≠ a + 1 ∨ y ≠ (i : Int)) → (jpG G2 (a + 1) i G1.2.2).1 b y = G2.1 b y := fun b y q => by rw [jp_1, if_neg (by omega)]
      have sub : ∀ p, WX4 G2 p → (p + 5 ≤ a + 1 ∨ a + 1 < p) → WX4 (jpG G2 (a + 1) i G1.2.2) p := fun p hp hq => gyX4 hp (Nat.le_refl _) (fun b q0 q1 => ⟨by funext y; exact e1 b y (by omega), rfl⟩)
      have nx := ih (i + 1) (jpG G2 (a + 1) i G1.2.2) I2 (by omega) (by rw [jp_3, n2]; omega) (by rw [jp_2, (g2 a (by omega)).2.1]; exact s1) (by rw [e1 _ _ (by omega), (g2 a (by omega)).1]; exact r1) (by rw [jp_2, (g2 (a + 1) (by omega)).2.1]; exact a1) ⟨by rw [e1 _ _ (by omega), (g2 a (by omega)).1]; exact x1.1, by rw [jp_2, (g2 (a + 2) (by omega)).2.1]; exact x1.2⟩ (fun k hk => ?_) (fun b hb => ⟨?_, ?_, ?_⟩) (by rw [(g2 a (by omega)).2.2]; exact i1)
      · rw [show 2 + 5 * (i + 1) = 2 + 5 * i + 1 + 4 by omega, show 61 + 422 * (i + 1) = 61 + 422 * i + 6 + 416 by omega] at nx
        exact nx
      · by_cases q : k = i
        · subst q
          refine ⟨by rw [jp_1, if_pos ⟨rfl, rfl⟩, n1], ?_⟩
          rw [← n1]
          exact sub _ w4 (by omega)
        · have w := w1 k (by omega)
          refine ⟨by rw [e1 _ _ (by omega), (g2 (a + 1) (by omega)).1]; exact w.1, sub _ (gyX4 w.2 (by omega) (fun b q0 q1 => ⟨(g2 b (by omega)).1, (g2 b (by omega)).2.1⟩)) (by omega)⟩
      · funext y; rw [e1 b y (by omega), (g2 b (by omega)).1, (o1 b hb).1]
      · rw [jp_2, (g2 b (by omega)).2.1, (o1 b hb).2.1]
      · rw [(g2 b (by omega)).2.2, (o1 b hb).2.2]
  refine jRun.of mt_X3_init.2.2.2 1 rfl (fun _ => ?_)
  refine r_aload_n dX3_init_0 rfl (i := 0) rfl ?_
  refine r_objInit dX3_init_1 ml_X3_3 w_obj ⟨Nat.le_of_ble_eq_true rfl, Nat.le_of_ble_eq_true rfl⟩ ?_
  refine r_aload_n dX3_init_4 rfl (i := 0) rfl ?_
  refine r_bipush (n := 31) dX3_init_5 rfl ?_
  refine r_anewa (k := 104) (n := 31) (C := RX4) dX3_init_7 (Or.inr ⟨rfl, rfl⟩) nw_X3_4.1 (by decide) ⟨Nat.le_of_ble_eq_true rfl, Nat.le_of_ble_eq_true rfl⟩ ?_
  refine r_putF (j := 0) dX3_init_10 ff_X3_11 rfl (Or.inr ⟨_, rfl⟩) rfl (by simp [Nat.add_assoc, jp_1, jp_2, jp_3, jn_1, jn_2, jn_3, jn_4, hG]) (by simp [Nat.add_assoc, jp_1, jp_2, jp_3, jn_1, jn_2, jn_3, jn_4, hG, hs]) ?_
  refine r_aload_n dX3_init_13 rfl (i := 0) rfl ?_
  refine r_bipush (n := 30) dX3_init_14 rfl ?_
  refine r_newa (k := 100) (n := 30) dX3_init_16 (Or.inl ⟨rfl, rfl⟩) ac_int (by decide) ⟨Nat.le_of_ble_eq_true rfl, Nat.le_of_ble_eq_true rfl⟩ ?_
  refine r_putF (j := 1) dX3_init_18 ff_X3_17 rfl (Or.inr ⟨_, rfl⟩) rfl (by simp [Nat.add_assoc, jp_1, jp_2, jp_3, jn_1, jn_2, jn_3, jn_4, hG]) (by simp [Nat.add_assoc, jp_1, jp_2, jp_3, jn_1, jn_2, jn_3, jn_4, hG, hs]) ?_
  refine r_iconst (n := 0) dX3_init_21 ?_
  refine rr_istore_n (i := 1) (ls' := [VR a, VI 0]) dX3_init_22 rfl (Nat.le_of_ble_eq_true rfl) rfl rfl ⟨by decide, by decide⟩ ?_
  refine loop 31 0 _ _ rfl (by simp [Nat.add_assoc, jp_1, jp_2, jp_3, jn_1, jn_2, jn_3, jn_4, hG]) (by simp [Nat.add_assoc, jp_1, jp_2, jp_3, jn_1, jn_2, jn_3, jn_4, hG, hs]) (by simp [Nat.add_assoc, jp_1, jp_2, jp_3, jn_1, jn_2, jn_3, jn_4, hG]) (by simp [Nat.add_assoc, jp_1, jp_2, jp_3, jn_1, jn_2, jn_3, jn_4, hG]) ⟨by simp [Nat.add_assoc, jp_1, jp_2, jp_3, jn_1, jn_2, jn_3, jn_4, hG], by simp [Nat.add_assoc, jp_1, jp_2, jp_3, jn_1, jn_2, jn_3, jn_4, hG]⟩ (fun k hk => absurd hk (Nat.not_lt_zero k)) (fun b hb => ⟨?_, ?_, ?_⟩) ?_
  · have r : ∀ k, b ≠ a + k := fun k => by omega
    have r0 : b ≠ a := by omega
    funext y; simp [Nat.add_assoc, jp_1, jp_2, jp_3, jn_1, jn_2, jn_3, jn_4, hG, r, r0]
  · have r : ∀ k, b ≠ a + k := fun k => by omega
    simp [Nat.add_assoc, jp_1, jp_2, jp_3, jn_1, jn_2, jn_3, jn_4, hG, r]
  · have r : ∀ k, b ≠ a + k := fun k => by omega
    funext y; simp [Nat.add_assoc, jp_1, jp_2, jp_3, jn_1, jn_2, jn_3, jn_4, hG, r]
  · funext y; simp [Nat.add_assoc, jp_1, jp_2, jp_3, jn_1, jn_2, jn_3, jn_4, hG]
