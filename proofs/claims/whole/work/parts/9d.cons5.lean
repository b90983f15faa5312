/-! ===== the constructor of the class ===== -/
def Gs (a : Nat) (js : List Int) (G G' : jG) (I I' : jM) : Prop := G.2.2 ≤ G'.2.2 ∧ (∀ b, b < G.2.2 → G'.2.1 b = G.2.1 b ∧ (b ≠ a → G'.1 b = G.1 b ∧ I' b = I b)) ∧ ∀ y, y ∉ js → G'.1 a y = G.1 a y
theorem Gs.refl {a : Nat} {G : jG} {I : jM} : Gs a [] G G I I := ⟨Nat.le_refl _, fun b _ => ⟨rfl, fun _ => ⟨rfl, rfl⟩⟩, fun _ _ => rfl⟩
theorem Gs.trans {a : Nat} {js ks : List Int} {G G' G'' : jG} {I I' I'' : jM} (h : Gs a js G G' I I') (h' : Gs a ks G' G'' I' I'') : Gs a (js ++ ks) G G'' I I'' := by
  refine ⟨Nat.le_trans h.1 h'.1, fun b hb => ?_, fun y hy => ?_⟩
  · have p := h.2.1 b hb
    have q := h'.2.1 b (Nat.lt_of_lt_of_le hb h.1)
    exact ⟨q.1.trans p.1, fun n => ⟨(q.2 n).1.trans (p.2 n).1, (q.2 n).2.trans (p.2 n).2⟩⟩
  · exact (h'.2.2 y (fun n => hy (List.mem_append_right _ n))).trans (h.2.2 y (fun n => hy (List.mem_append_left _ n)))
theorem gs_new {a ci : Nat} {G G' : jG} {I I' : jM} (ha : a < G.2.2) (o : ∀ b, b < G.2.2 → G'.1 b = (jnG G ci 0).1 b ∧ G'.2.1 b = (jnG G ci 0).2.1 b ∧ I' b = jnI I G.2.2 ci b) (n : G.2.2 ≤ G'.2.2) : Gs a [] G G' I I' ∧ I' a = I a := by
  have e : ∀ b, b < G.2.2 → G'.1 b = G.1 b ∧ G'.2.1 b = G.2.1 b ∧ I' b = I b := fun b hb => by
    have q := o b hb
    refine ⟨?_, ?_, ?_⟩
    · rw [q.1]; funext y; rw [jn_1, if_neg (by omega)]
    · rw [q.2.1, jn_2, if_neg (by omega)]
    · rw [q.2.2]; funext y; rw [ji_1, if_neg (by omega)]
  exact ⟨⟨n, fun b hb => ⟨(e b hb).2.1, fun _ => ⟨(e b hb).1, (e b hb).2.2⟩⟩, fun y _ => by rw [(e a ha).1]⟩, (e a ha).2.2⟩
theorem gs_arr {a k n : Nat} {G : jG} {I : jM} (ha : a < G.2.2) : Gs a [] G (jnG G k n) I (jnA I G.2.2) ∧ jnA I G.2.2 a = I a := by
  refine ⟨⟨by rw [jn_3]; omega, fun b hb => ⟨by rw [jn_2, if_neg (by omega)], fun _ => ⟨by funext y; rw [jn_1, if_neg (by omega)], by funext y; rw [jn_4, if_neg (by omega)]⟩⟩, fun y _ => by rw [jn_1, if_neg (by omega)]⟩, by funext y; rw [jn_4, if_neg (by omega)]⟩
theorem gs_put {a p : Nat} {j : Int} {G : jG} {I : jM} : Gs a [j] G (jpG G a j p) I I := ⟨Nat.le_refl _, fun b _ => ⟨rfl, fun n => ⟨by funext y; rw [jp_1, if_neg (fun q => n q.1)], rfl⟩⟩, fun y hy => by rw [jp_1, if_neg (fun q => hy (by rw [q.2]; exact List.mem_singleton.mpr rfl))]⟩

theorem nw_X9_4 : Cond.classLink RX9 9 RX4 ∈ jTB ∧ Cond.instantiable RX4 6 ∈ jTB ∧ Cond.initialized RX4 ∈ jTB := ⟨jTB_1 25 (by decide +kernel) rfl, jTB_1 26 (by decide +kernel) rfl, (mt_X4_init).2.1⟩
theorem nw_X9_3 : Cond.classLink RX9 16 RX3 ∈ jTB ∧ Cond.instantiable RX3 6 ∈ jTB ∧ Cond.initialized RX3 ∈ jTB := ⟨jTB_1 64 (by decide +kernel) rfl, jTB_1 65 (by decide +kernel) rfl, (mt_X3_init).2.1⟩
theorem nw_X9_0 : Cond.classLink RX9 23 RX0 ∈ jTB ∧ Cond.instantiable RX0 2 ∈ jTB ∧ Cond.initialized RX0 ∈ jTB := ⟨jTB_1 96 (by decide +kernel) rfl, jTB_1 97 (by decide +kernel) rfl, (mt_X0_init).2.1⟩
theorem nw_X9_7 : Cond.classLink RX9 37 RX7 ∈ jTB ∧ Cond.instantiable RX7 11 ∈ jTB ∧ Cond.initialized RX7 ∈ jTB := ⟨jTB_1 184 (by decide +kernel) rfl, jTB_1 185 (by decide +kernel) rfl, (mt_X7_init).2.1⟩
theorem nw_X9_5 : Cond.classLink RX9 50 RX5 ∈ jTB ∧ Cond.instantiable RX5 6 ∈ jTB ∧ Cond.initialized RX5 ∈ jTB := ⟨jTB_2 2 (by decide +kernel) rfl, jTB_2 3 (by decide +kernel) rfl, (mt_X5_init).2.1⟩
theorem nw_X9_2 : Cond.classLink RX9 63 RX2 ∈ jTB ∧ Cond.instantiable RX2 3 ∈ jTB ∧ Cond.initialized RX2 ∈ jTB := ⟨jTB_2 29 (by decide +kernel) rfl, jTB_2 30 (by decide +kernel) rfl, (mt_X2_init).2.1⟩
theorem nw_X9_1 : Cond.classLink RX9 76 RX1 ∈ jTB ∧ Cond.instantiable RX1 16 ∈ jTB ∧ Cond.initialized RX1 ∈ jTB := ⟨jTB_2 49 (by decide +kernel) rfl, jTB_2 50 (by decide +kernel) rfl, (mt_X1_init).2.1⟩
theorem jfk6 (n : Nat) : jfk 6 n ≠ 2 := by
  by_cases h : n < 13
  · have : ∀ k : Fin 13, jfk 6 k.val ≠ 2 := by decide
    exact this ⟨n, h⟩
  · unfold jfk
    rw [List.getD_eq_getElem?_getD, List.getElem?_eq_none (by show 13 ≤ n; omega)]
    decide
theorem jfk2 (n : Nat) : jfk 2 n ≠ 2 := by
  by_cases h : n < 3
  · have : ∀ k : Fin 3, jfk 2 k.val ≠ 2 := by decide
    exact this ⟨n, h⟩
  · unfold jfk
    rw [List.getD_eq_getElem?_getD, List.getElem?_eq_none (by show 3 ≤ n; omega)]
    decide
theorem jfk7 (n : Nat) (h1 : n ≠ 1) : jfk 7 n ≠ 2 := by
  by_cases h : n < 11
  · have : ∀ k : Fin 11, k.val ≠ 1 → jfk 7 k.val ≠ 2 := by decide
    exact this ⟨n, h⟩ h1
  · unfold jfk
    rw [List.getD_eq_getElem?_getD, List.getElem?_eq_none (by show 11 ≤ n; omega)]
    decide


theorem s9_1 {E : jE} {G : jG} {I : jM} {a : Nat} {u1 u2 : Nat} {Q : jV → jG → jM → Prop} (n0 : G.2.2 = a + 1) (t0 : (G.2.1 a).1 = 9) (hd : a + 606 ≤ 606 ∨ 635 ≤ a) (hab : (a : Int) ≤ 900000) (hu : u1 + 1 + kX4_init.2.2.2.2.cells ≤ kX9_init.2.2.2.2.cells ∧ u2 + 6 + kX4_init.2.2.2.2.slots ≤ kX9_init.2.2.2.2.slots) (hq : ∀ G' I', (Gs a [8] G G' I I') → (I' a = I a) → (G'.2.2 = a + 6) → (WX4 G' (a + 1)) → (G'.1 a 8 = some (a + 1)) → jOk E kX9_init 15 [VR a, VN, VN, VN, VN] [] G' I' (u1 + 1 + kX4_init.2.2.2.2.cells, u2 + 6 + kX4_init.2.2.2.2.slots) Q) : jOk E kX9_init 4 [VR a, VN, VN, VN, VN] [] G I (u1, u2) Q := by
  refine r_aload_n dX9_init_4 rfl (i := 0) rfl ?_
  refine r_new (ci := 4) (n := 6) dX9_init_5 rfl rfl nw_X9_4 (by decide) ⟨Nat.le_trans (Nat.le_add_right _ _) hu.1, Nat.le_trans (Nat.le_add_right _ _) hu.2⟩ ?_
  refine r_dup dX9_init_8 rfl ?_
  refine r_callIN (a := G.2.2) (as := []) (host := "StyleFixes") dX9_init_9 mt_X4_init ml_X9_11 mi_X4_init rfl rfl rm_X9_init_X4_init hu (Nat.le_of_ble_eq_true rfl) (fun x hx => absurd hx List.not_mem_nil) (in_X4 (a := G.2.2) (by rw [jn_3]) (by rw [jn_2, if_pos rfl]) (by omega)) (fun r G1 I1 _ hr => ?_)
  obtain ⟨rfl, w1, n1, o1, s1, i1, z1⟩ := hr
  have c1 := gs_new (a := a) (by omega) o1 (by omega)
  replace n1 : G1.2.2 = a + 6 := by omega
  have t1 : (G1.2.1 a).1 = 9 := by rw [(c1.1.2.1 a (by omega)).1]; exact t0
  show jOk E kX9_init 12 [VR a, VN, VN, VN, VN] [VR G.2.2, VR a] G1 I1 _ _
  rw [n0] at w1
  rw [n0] at o1
  rw [n0] at i1
  rw [n0] at z1
  rw [n0]
  refine r_putF (j := 8) dX9_init_12 ff_X9_12 rfl (Or.inl ⟨_, rfl⟩) rfl (by omega) t1 ?_
  exact hq _ _ (Gs.trans c1.1 gs_put) (c1.2) (n1) (gyX4 w1 (Nat.le_refl _) (fun b q0 q1 => ⟨by funext y; rw [jp_1, if_neg (by omega)], rfl⟩)) (by rw [jp_1, if_pos ⟨rfl, rfl⟩])
theorem s9_2 {E : jE} {G : jG} {I : jM} {a : Nat} {u1 u2 : Nat} {Q : jV → jG → jM → Prop} (n0 : G.2.2 = a + 6) (t0 : (G.2.1 a).1 = 9) (hd : a + 606 ≤ 606 ∨ 635 ≤ a) (hab : (a : Int) ≤ 900000) (hu : u1 + 1 + kX3_init.2.2.2.2.cells ≤ kX9_init.2.2.2.2.cells ∧ u2 + 6 + kX3_init.2.2.2.2.slots ≤ kX9_init.2.2.2.2.slots) (hq : ∀ G' I', (Gs a [12] G G' I I') → (I' a = I a) → (G'.2.2 = a + 164) → (WX3 G' (a + 6)) → (G'.1 a 12 = some (a + 6)) → jOk E kX9_init 26 [VR a, VN, VN, VN, VN] [] G' I' (u1 + 1 + kX3_init.2.2.2.2.cells, u2 + 6 + kX3_init.2.2.2.2.slots) Q) : jOk E kX9_init 15 [VR a, VN, VN, VN, VN] [] G I (u1, u2) Q := by
  refine r_aload_n dX9_init_15 rfl (i := 0) rfl ?_
  refine r_new (ci := 3) (n := 6) dX9_init_16 rfl rfl nw_X9_3 (by decide) ⟨Nat.le_trans (Nat.le_add_right _ _) hu.1, Nat.le_trans (Nat.le_add_right _ _) hu.2⟩ ?_
  refine r_dup dX9_init_19 rfl ?_
  refine r_callI (a := G.2.2) (as := []) dX9_init_20 mt_X3_init ml_X9_18 mi_X3_init rfl rfl rm_X9_init_X3_init hu (Nat.le_of_ble_eq_true rfl) (fun x hx => absurd hx List.not_mem_nil) (in_X3 (a := G.2.2) (by rw [jn_3]) (by rw [jn_2, if_pos rfl]) (by omega)) (fun r G1 I1 _ hr => ?_)
  obtain ⟨rfl, w1, n1, o1, i1⟩ := hr
  have c1 := gs_new (a := a) (by omega) o1 (by omega)
  replace n1 : G1.2.2 = a + 164 := by omega
  have t1 : (G1.2.1 a).1 = 9 := by rw [(c1.1.2.1 a (by omega)).1]; exact t0
  show jOk E kX9_init 23 [VR a, VN, VN, VN, VN] [VR G.2.2, VR a] G1 I1 _ _
  rw [n0] at w1
  rw [n0] at o1
  rw [n0] at i1
  rw [n0]
  refine r_putF (j := 12) dX9_init_23 ff_X9_19 rfl (Or.inl ⟨_, rfl⟩) rfl (by omega) t1 ?_
  exact hq _ _ (Gs.trans c1.1 gs_put) (c1.2) (n1) (gyX3 w1 (Nat.le_refl _) (fun b q0 q1 => ⟨by funext y; rw [jp_1, if_neg (by omega)], rfl⟩)) (by rw [jp_1, if_pos ⟨rfl, rfl⟩])
theorem s9_3 {E : jE} {G : jG} {I : jM} {a : Nat} {u1 u2 : Nat} {Q : jV → jG → jM → Prop} (n0 : G.2.2 = a + 164) (t0 : (G.2.1 a).1 = 9) (hd : a + 606 ≤ 606 ∨ 635 ≤ a) (hab : (a : Int) ≤ 900000) (hu : u1 + 1 + kX0_init.2.2.2.2.cells ≤ kX9_init.2.2.2.2.cells ∧ u2 + 2 + kX0_init.2.2.2.2.slots ≤ kX9_init.2.2.2.2.slots) (hq : ∀ G' I', (Gs a [16] G G' I I') → (I' a = I a) → (G'.2.2 = a + 167) → (WX0 G' (a + 164)) → (G'.1 a 16 = some (a + 164)) → jOk E kX9_init 37 [VR a, VN, VN, VN, VN] [] G' I' (u1 + 1 + kX0_init.2.2.2.2.cells, u2 + 2 + kX0_init.2.2.2.2.slots) Q) : jOk E kX9_init 26 [VR a, VN, VN, VN, VN] [] G I (u1, u2) Q := by
  refine r_aload_n dX9_init_26 rfl (i := 0) rfl ?_
  refine r_new (ci := 0) (n := 2) dX9_init_27 rfl rfl nw_X9_0 (by decide) ⟨Nat.le_trans (Nat.le_add_right _ _) hu.1, Nat.le_trans (Nat.le_add_right _ _) hu.2⟩ ?_
  refine r_dup dX9_init_30 rfl ?_
  refine r_callIN (a := G.2.2) (as := []) (host := "StyleFixes") dX9_init_31 mt_X0_init ml_X9_25 mi_X0_init rfl rfl rm_X9_init_X0_init hu (Nat.le_of_ble_eq_true rfl) (fun x hx => absurd hx List.not_mem_nil) (in_X0 (a := G.2.2) (by rw [jn_3]) (by rw [jn_2, if_pos rfl]) (by omega)) (fun r G1 I1 _ hr => ?_)
  obtain ⟨rfl, w1, n1, o1, s1, i1, z1⟩ := hr
  have c1 := gs_new (a := a) (by omega) o1 (by omega)
  replace n1 : G1.2.2 = a + 167 := by omega
  have t1 : (G1.2.1 a).1 = 9 := by rw [(c1.1.2.1 a (by omega)).1]; exact t0
  show jOk E kX9_init 34 [VR a, VN, VN, VN, VN] [VR G.2.2, VR a] G1 I1 _ _
  rw [n0] at w1
  rw [n0] at o1
  rw [n0] at i1
  rw [n0] at z1
  rw [n0]
  refine r_putF (j := 16) dX9_init_34 ff_X9_26 rfl (Or.inl ⟨_, rfl⟩) rfl (by omega) t1 ?_
  exact hq _ _ (Gs.trans c1.1 gs_put) (c1.2) (n1) (gyX0 w1 (Nat.le_refl _) (fun b q0 q1 => ⟨by funext y; rw [jp_1, if_neg (by omega)], rfl⟩)) (by rw [jp_1, if_pos ⟨rfl, rfl⟩])
theorem s9_4 {E : jE} {G : jG} {I : jM} {a : Nat} {u1 u2 : Nat} {Q : jV → jG → jM → Prop} (n0 : G.2.2 = a + 167) (t0 : (G.2.1 a).1 = 9) (hu : u1 + 1 + 1 ≤ kX9_init.2.2.2.2.cells ∧ u2 + 1 + 300 ≤ kX9_init.2.2.2.2.slots) (hq : ∀ G' I', (Gs a [17] G G' I I') → (I' a = I a) → (G'.2.2 = a + 169) → (G'.2.1 (a + 167) = (100, 1)) → (G'.1 a 17 = some (a + 167)) → (G'.2.1 (a + 168) = (101, 300)) → (∀ j, I' (a + 168) j = 0) → jOk E kX9_init 50 [VR a, VR (a + 168), VN, VN, VN] [] G' I' (u1 + 1 + 1, u2 + 1 + 300) Q) : jOk E kX9_init 37 [VR a, VN, VN, VN, VN] [] G I (u1, u2) Q := by
  refine r_aload_n dX9_init_37 rfl (i := 0) rfl ?_
  refine r_iconst (n := 1) dX9_init_38 ?_
  refine r_newa (k := 100) (n := 1) dX9_init_39 (Or.inl ⟨rfl, rfl⟩) ac_int (by decide) ⟨Nat.le_trans (Nat.le_add_right _ _) hu.1, Nat.le_trans (Nat.le_add_right _ _) hu.2⟩ ?_
  have c1 := gs_arr (a := a) (k := 100) (n := 1) (G := G) (I := I) (by omega)
  refine r_putF (j := 17) dX9_init_41 ff_X9_30 rfl (Or.inr ⟨_, rfl⟩) rfl (by rw [jn_3]; omega) (by rw [jn_2, if_neg (by omega)]; exact t0) ?_
  show jOk E kX9_init 44 [VR a, VN, VN, VN, VN] [] (jpG (jnG G 100 1) a 17 G.2.2) (jnA I G.2.2) _ Q
  refine r_sipush (n := 300) dX9_init_44 rfl ?_
  refine r_newa (k := 101) (n := 300) dX9_init_47 (Or.inr (Or.inl ⟨rfl, rfl⟩)) ac_byte (by decide) hu ?_
  have c2 := Gs.trans c1.1 (gs_put (a := a) (p := G.2.2) (j := 17) (G := jnG G 100 1) (I := jnA I G.2.2))
  have c3 := gs_arr (a := a) (k := 101) (n := 300) (G := jpG (jnG G 100 1) a 17 G.2.2) (I := jnA I G.2.2) (by rw [jp_3, jn_3]; omega)
  have e : (jpG (jnG G 100 1) a 17 G.2.2).2.2 = a + 168 := by rw [jp_3, jn_3, n0]
  rw [e] at c3 ⊢
  refine rr_astore_n (i := 1) (ls' := [VR a, VR (a + 168), VN, VN, VN]) dX9_init_49 rfl (Nat.le_of_ble_eq_true rfl) rfl rfl ?_
  refine hq _ _ (Gs.trans c2 c3.1) (c3.2.trans c1.2) (by rw [jn_3, e]) ?_ ?_ ?_ (fun j => by rw [jn_4, if_pos rfl])
  · rw [jn_2, if_neg (by rw [e]; omega), jp_2, jn_2, if_pos n0.symm]
  · rw [jn_1, if_neg (by rw [e]; omega), jp_1, if_pos ⟨rfl, rfl⟩, n0]
  · rw [jn_2, if_pos e.symm]
theorem s9_5 {E : jE} {G : jG} {I : jM} {a : Nat} {u1 u2 : Nat} {Q : jV → jG → jM → Prop} (n0 : G.2.2 = a + 169) (t0 : (G.2.1 a).1 = 9) (hd : a + 606 ≤ 606 ∨ 635 ≤ a) (hab : (a : Int) ≤ 900000) (hu : u1 + 1 + kX6_init.2.2.2.2.cells ≤ kX9_init.2.2.2.2.cells ∧ u2 + 13 + kX6_init.2.2.2.2.slots ≤ kX9_init.2.2.2.2.slots) (hq : ∀ G' I', (Gs a [] G G' I I') → (I' a = I a) → (G'.2.2 = a + 182) → (WX6 G' (a + 169)) → (∀ b, a + 169 ≤ b → b < a + 182 → ∀ j, I' b j = 0) → jOk E kX9_init 58 [VR a, VR (a + 168), VR (a + 169), VN, VN] [] G' I' (u1 + 1 + kX6_init.2.2.2.2.cells, u2 + 13 + kX6_init.2.2.2.2.slots) Q) : jOk E kX9_init 50 [VR a, VR (a + 168), VN, VN, VN] [] G I (u1, u2) Q := by
  refine r_new (ci := 6) (n := 13) dX9_init_50 rfl rfl nw_X6 (by decide) ⟨Nat.le_trans (Nat.le_add_right _ _) hu.1, Nat.le_trans (Nat.le_add_right _ _) hu.2⟩ ?_
  refine r_dup dX9_init_53 rfl ?_
  refine r_callIN (a := G.2.2) (as := []) (host := "StyleFixes") dX9_init_54 mt_X6_init ml_X9_36 mi_X6_init rfl rfl rm_X9_init_X6_init hu (Nat.le_of_ble_eq_true rfl) (fun x hx => absurd hx List.not_mem_nil) (in_X6 (a := G.2.2) (by rw [jn_3]) (by rw [jn_2, if_pos rfl]) (by omega)) (fun r G1 I1 _ hr => ?_)
  obtain ⟨rfl, w1, n1, o1, s1, i1, z1⟩ := hr
  have c1 := gs_new (a := a) (by omega) o1 (by omega)
  replace n1 : G1.2.2 = a + 182 := by omega
  have t1 : (G1.2.1 a).1 = 9 := by rw [(c1.1.2.1 a (by omega)).1]; exact t0
  show jOk E kX9_init 57 [VR a, VR (a + 168), VN, VN, VN] [VR G.2.2] G1 I1 _ _
  rw [n0] at w1
  rw [n0] at o1
  rw [n0] at i1
  rw [n0] at z1
  rw [n0]
  refine rr_astore_n (i := 2) (ls' := [VR a, VR (a + 168), VR (a + 169), VN, VN]) dX9_init_57 rfl (Nat.le_of_ble_eq_true rfl) rfl rfl ?_
  exact hq _ _ (c1.1) (c1.2) (n1) (w1) (fun b q0 q1 j => by
    by_cases z : b = a + 169
    · rw [z, i1, ji_1, if_pos rfl, if_neg (jfk6 _)]
    · exact z1 b (by omega) (by omega) j)
theorem s9_6 {E : jE} {G : jG} {I : jM} {a : Nat} {u1 u2 : Nat} {Q : jV → jG → jM → Prop} (n0 : G.2.2 = a + 182) (t0 : (G.2.1 a).1 = 9) (hd : a + 606 ≤ 606 ∨ 635 ≤ a) (hab : (a : Int) ≤ 900000) (hu : u1 + 1 + kX6_init.2.2.2.2.cells ≤ kX9_init.2.2.2.2.cells ∧ u2 + 13 + kX6_init.2.2.2.2.slots ≤ kX9_init.2.2.2.2.slots) (hq : ∀ G' I', (Gs a [] G G' I I') → (I' a = I a) → (G'.2.2 = a + 195) → (WX6 G' (a + 182)) → (∀ b, a + 182 ≤ b → b < a + 195 → ∀ j, I' b j = 0) → jOk E kX9_init 66 [VR a, VR (a + 168), VR (a + 169), VR (a + 182), VN] [] G' I' (u1 + 1 + kX6_init.2.2.2.2.cells, u2 + 13 + kX6_init.2.2.2.2.slots) Q) : jOk E kX9_init 58 [VR a, VR (a + 168), VR (a + 169), VN, VN] [] G I (u1, u2) Q := by
  refine r_new (ci := 6) (n := 13) dX9_init_58 rfl rfl nw_X6 (by decide) ⟨Nat.le_trans (Nat.le_add_right _ _) hu.1, Nat.le_trans (Nat.le_add_right _ _) hu.2⟩ ?_
  refine r_dup dX9_init_61 rfl ?_
  refine r_callIN (a := G.2.2) (as := []) (host := "StyleFixes") dX9_init_62 mt_X6_init ml_X9_36 mi_X6_init rfl rfl rm_X9_init_X6_init hu (Nat.le_of_ble_eq_true rfl) (fun x hx => absurd hx List.not_mem_nil) (in_X6 (a := G.2.2) (by rw [jn_3]) (by rw [jn_2, if_pos rfl]) (by omega)) (fun r G1 I1 _ hr => ?_)
  obtain ⟨rfl, w1, n1, o1, s1, i1, z1⟩ := hr
  have c1 := gs_new (a := a) (by omega) o1 (by omega)
  replace n1 : G1.2.2 = a + 195 := by omega
  have t1 : (G1.2.1 a).1 = 9 := by rw [(c1.1.2.1 a (by omega)).1]; exact t0
  show jOk E kX9_init 65 [VR a, VR (a + 168), VR (a + 169), VN, VN] [VR G.2.2] G1 I1 _ _
  rw [n0] at w1
  rw [n0] at o1
  rw [n0] at i1
  rw [n0] at z1
  rw [n0]
  refine rr_astore_n (i := 3) (ls' := [VR a, VR (a + 168), VR (a + 169), VR (a + 182), VN]) dX9_init_65 rfl (Nat.le_of_ble_eq_true rfl) rfl rfl ?_
  exact hq _ _ (c1.1) (c1.2) (n1) (w1) (fun b q0 q1 j => by
    by_cases z : b = a + 182
    · rw [z, i1, ji_1, if_pos rfl, if_neg (jfk6 _)]
    · exact z1 b (by omega) (by omega) j)
theorem s9_7 {E : jE} {G : jG} {I : jM} {a : Nat} {u1 u2 : Nat} {Q : jV → jG → jM → Prop} (n0 : G.2.2 = a + 195) (t0 : (G.2.1 a).1 = 9) (hd : a + 606 ≤ 606 ∨ 635 ≤ a) (hab : (a : Int) ≤ 900000) (hu : u1 + 1 + kX7_init.2.2.2.2.cells ≤ kX9_init.2.2.2.2.cells ∧ u2 + 11 + kX7_init.2.2.2.2.slots ≤ kX9_init.2.2.2.2.slots) (hq : ∀ G' I', (Gs a [] G G' I I') → (I' a = I a) → (G'.2.2 = a + 204) → (WX7 G' (a + 195)) → (I' (a + 195) = up (up (fun j => if jfk 7 j.toNat = 2 then -1 else 0) 4 20) 1 (a + 182 : Nat)) → (∀ b, a + 195 < b → b < a + 204 → ∀ j, I' b j = 0) → jOk E kX9_init 76 [VR a, VR (a + 168), VR (a + 169), VR (a + 182), VR (a + 195)] [] G' I' (u1 + 1 + kX7_init.2.2.2.2.cells, u2 + 11 + kX7_init.2.2.2.2.slots) Q) : jOk E kX9_init 66 [VR a, VR (a + 168), VR (a + 169), VR (a + 182), VN] [] G I (u1, u2) Q := by
  refine r_new (ci := 7) (n := 11) dX9_init_66 rfl rfl nw_X9_7 (by decide) ⟨Nat.le_trans (Nat.le_add_right _ _) hu.1, Nat.le_trans (Nat.le_add_right _ _) hu.2⟩ ?_
  refine r_dup dX9_init_69 rfl ?_
  refine r_aload_n dX9_init_70 rfl (i := 3) rfl ?_
  refine r_callI (a := G.2.2) (as := [VR (a + 182)]) dX9_init_71 mt_X7_init ml_X9_39 mi_X7_init rfl rfl rm_X9_init_X7_init hu (Nat.le_of_ble_eq_true rfl) (jasR jas0) (in_X7 (a := G.2.2) (by rw [jn_3]) (by rw [jn_2, if_pos rfl]) (by omega) (by omega)) (fun r G1 I1 _ hr => ?_)
  obtain ⟨rfl, w1, n1, o1, i1, z1⟩ := hr
  have c1 := gs_new (a := a) (by omega) o1 (by omega)
  replace n1 : G1.2.2 = a + 204 := by omega
  have t1 : (G1.2.1 a).1 = 9 := by rw [(c1.1.2.1 a (by omega)).1]; exact t0
  show jOk E kX9_init 74 [VR a, VR (a + 168), VR (a + 169), VR (a + 182), VN] [VR G.2.2] G1 I1 _ _
  rw [n0] at w1
  rw [n0] at o1
  rw [n0] at i1
  rw [n0] at z1
  rw [n0]
  refine rr_astore (i := 4) (ls' := [VR a, VR (a + 168), VR (a + 169), VR (a + 182), VR (a + 195)]) dX9_init_74 (Nat.le_of_ble_eq_true rfl) rfl rfl ?_
  exact hq _ _ (c1.1) (c1.2) (n1) (w1) (by rw [i1]; congr 2; funext y; rw [ji_1, if_pos rfl]) (fun b q0 q1 j => z1 b (by omega) (by omega) j)
theorem s9_8 {E : jE} {G : jG} {I : jM} {a : Nat} {u1 u2 : Nat} {Q : jV → jG → jM → Prop} (n0 : G.2.2 = a + 204) (t0 : (G.2.1 a).1 = 9) (hab : (a : Int) ≤ 900000) (hq : ∀ G' I', (Gs a [0] G G' I I') → (I' a = up (I a) 2 (a + 169 : Nat)) → (G'.2.2 = a + 204) → (G'.1 a 0 = some (a + 168)) → jOk E kX9_init 86 [VR a, VR (a + 168), VR (a + 169), VR (a + 182), VR (a + 195)] [] G' I' (u1, u2) Q) : jOk E kX9_init 76 [VR a, VR (a + 168), VR (a + 169), VR (a + 182), VR (a + 195)] [] G I (u1, u2) Q := by
  refine r_aload_n dX9_init_76 rfl (i := 0) rfl ?_
  refine r_aload_n dX9_init_77 rfl (i := 1) rfl ?_
  refine r_putF (j := 0) dX9_init_78 ff_X9_42 rfl (Or.inr ⟨_, rfl⟩) rfl (by omega) t0 ?_
  refine r_aload_n dX9_init_81 rfl (i := 0) rfl ?_
  refine r_aload_n dX9_init_82 rfl (i := 2) rfl ?_
  refine rr_putM (jj := 2) dX9_init_83 fp_X9_46 rfl rfl (by rw [jp_3]; omega) t0 (by omega) (fun I1 h1 => ?_)
  refine hq _ _ (Gs.trans gs_put (⟨Nat.le_refl _, fun b _ => ⟨rfl, fun q => ⟨rfl, by funext y; exact jr_na h1 q⟩⟩, fun _ _ => rfl⟩ : Gs a [] _ _ I I1)) (jup_up h1) n0 (by rw [jp_1, if_pos ⟨rfl, rfl⟩])
theorem s9_9 {E : jE} {G : jG} {I : jM} {a : Nat} {u1 u2 : Nat} {Q : jV → jG → jM → Prop} (n0 : G.2.2 = a + 204) (t0 : (G.2.1 a).1 = 9) (hd : a + 606 ≤ 606 ∨ 635 ≤ a) (hab : (a : Int) ≤ 900000) (ht : G.2.1 (a + 168) = (101, 300)) (hu : u1 + 1 + kX5_init.2.2.2.2.cells ≤ kX9_init.2.2.2.2.cells ∧ u2 + 6 + kX5_init.2.2.2.2.slots ≤ kX9_init.2.2.2.2.slots) (hq : ∀ G' I', (Gs a [3, 4] G G' I I') → (I' a = I a) → (G'.2.2 = a + 205) → (WX5 G' (a + 204)) → (G'.1 a 3 = some (a + 204)) → (G'.1 a 4 = some (a + 195)) → (I' (a + 204) 4 = 0 ∧ I' (a + 204) 5 = -1) → jOk E kX9_init 105 [VR a, VR (a + 168), VR (a + 169), VR (a + 182), VR (a + 195)] [] G' I' (u1 + 1 + kX5_init.2.2.2.2.cells, u2 + 6 + kX5_init.2.2.2.2.slots) Q) : jOk E kX9_init 86 [VR a, VR (a + 168), VR (a + 169), VR (a + 182), VR (a + 195)] [] G I (u1, u2) Q := by
  refine r_aload_n dX9_init_86 rfl (i := 0) rfl ?_
  refine r_new (ci := 5) (n := 6) dX9_init_87 rfl rfl nw_X9_5 (by decide) ⟨Nat.le_trans (Nat.le_add_right _ _) hu.1, Nat.le_trans (Nat.le_add_right _ _) hu.2⟩ ?_
  refine r_dup dX9_init_90 rfl ?_
  refine r_aload_n dX9_init_91 rfl (i := 1) rfl ?_
  refine r_aload_n dX9_init_92 rfl (i := 2) rfl ?_
  refine r_callI (a := G.2.2) (as := [VR (a + 168), VR (a + 169)]) dX9_init_93 mt_X5_init ml_X9_52 mi_X5_init rfl rfl rm_X9_init_X5_init hu (Nat.le_of_ble_eq_true rfl) (jasR (jasR jas0)) (in_X5 (a := G.2.2) (t := a + 168) (ρ := a + 169) (by rw [jn_3]; omega) (by rw [jn_2, if_pos rfl]) (by omega)) (fun r G1 I1 _ hr => ?_)
  obtain ⟨rfl, e1, i1, o1⟩ := hr
  have n1 : G1.2.2 = a + 205 := by rw [e1, jp_3, jn_3]; omega
  have c1 : Gs a [] G G1 I I1 ∧ I1 a = I a := gs_new (ci := 5) (by omega) (fun b hb => ⟨by rw [e1]; funext y; rw [jp_1, if_neg (fun q => absurd q.1 (Nat.ne_of_lt hb))], by rw [e1, jp_2], o1 b (Nat.ne_of_lt hb)⟩) (by omega)
  have t1 : (G1.2.1 a).1 = 9 := by rw [(c1.1.2.1 a (by omega)).1]; exact t0
  have w1 : WX5 G1 (a + 204) := by
    refine ⟨by omega, ?_, by omega, ?_, ?_, by omega⟩
    · rw [e1, jp_2, jn_2, if_pos n0.symm]
    · rw [e1, jp_1, if_pos ⟨n0.symm, rfl⟩, show a + 204 - 36 = a + 168 by omega]
    · rw [show a + 204 - 36 = a + 168 by omega, (c1.1.2.1 (a + 168) (by omega)).1]; exact ht
  show jOk E kX9_init 96 [VR a, VR (a + 168), VR (a + 169), VR (a + 182), VR (a + 195)] [VR G.2.2, VR a] G1 I1 _ _
  rw [n0] at i1 ⊢
  refine r_putF (j := 3) dX9_init_96 ff_X9_55 rfl (Or.inl ⟨_, rfl⟩) rfl (by omega) t1 ?_
  refine r_aload_n dX9_init_99 rfl (i := 0) rfl ?_
  refine r_aload dX9_init_100 (i := 4) rfl ?_
  refine r_putF (j := 4) dX9_init_102 ff_X9_59 rfl (Or.inl ⟨_, rfl⟩) rfl (by rw [jp_3]; omega) t1 ?_
  refine hq _ _ (Gs.trans (Gs.trans c1.1 gs_put) gs_put) c1.2 n1 (gyX5 w1 (Nat.le_refl _) (fun b q0 q1 => ⟨by funext y; rw [jp_1, if_neg (by omega), jp_1, if_neg (by omega)], rfl⟩)) (by rw [jp_1, if_neg (fun q => absurd q.2 (by decide)), jp_1, if_pos ⟨rfl, rfl⟩]) (by rw [jp_1, if_pos ⟨rfl, rfl⟩]) ⟨?_, ?_⟩
  · rw [i1, up_ne (by omega), up_ne (by omega), ji_1, if_pos rfl]; rfl
  · rw [i1, up_ne (by omega), up_eq]
theorem s9_10 {E : jE} {G : jG} {I : jM} {a : Nat} {u1 u2 : Nat} {Q : jV → jG → jM → Prop} (n0 : G.2.2 = a + 205) (t0 : (G.2.1 a).1 = 9) (hd : a + 606 ≤ 606 ∨ 635 ≤ a) (hab : (a : Int) ≤ 900000) (hu : u1 + 1 + kX2_init.2.2.2.2.cells ≤ kX9_init.2.2.2.2.cells ∧ u2 + 3 + kX2_init.2.2.2.2.slots ≤ kX9_init.2.2.2.2.slots) (hq : ∀ G' I', (Gs a [5] G G' I I') → (I' a = I a) → (G'.2.2 = a + 387) → (WX2 G' (a + 205)) → (G'.1 a 5 = some (a + 205)) → (∀ j, I' (a + 205) j = 0) → jOk E kX9_init 117 [VR a, VR (a + 168), VR (a + 169), VR (a + 182), VR (a + 195)] [] G' I' (u1 + 1 + kX2_init.2.2.2.2.cells, u2 + 3 + kX2_init.2.2.2.2.slots) Q) : jOk E kX9_init 105 [VR a, VR (a + 168), VR (a + 169), VR (a + 182), VR (a + 195)] [] G I (u1, u2) Q := by
  refine r_aload_n dX9_init_105 rfl (i := 0) rfl ?_
  refine r_new (ci := 2) (n := 3) dX9_init_106 rfl rfl nw_X9_2 (by decide) ⟨Nat.le_trans (Nat.le_add_right _ _) hu.1, Nat.le_trans (Nat.le_add_right _ _) hu.2⟩ ?_
  refine r_dup dX9_init_109 rfl ?_
  refine r_aload_n dX9_init_110 rfl (i := 3) rfl ?_
  refine r_callI (a := G.2.2) (as := [VR (a + 182)]) dX9_init_111 mt_X2_init ml_X9_65 mi_X2_init rfl rfl rm_X9_init_X2_init hu (Nat.le_of_ble_eq_true rfl) (jasR jas0) (in_X2 (a := G.2.2) (by rw [jn_3]) (by rw [jn_2, if_pos rfl]) (by omega) (by omega)) (fun r G1 I1 _ hr => ?_)
  obtain ⟨rfl, w1, n1, o1, i1⟩ := hr
  have c1 := gs_new (a := a) (by omega) o1 (by omega)
  replace n1 : G1.2.2 = a + 387 := by omega
  have t1 : (G1.2.1 a).1 = 9 := by rw [(c1.1.2.1 a (by omega)).1]; exact t0
  show jOk E kX9_init 114 [VR a, VR (a + 168), VR (a + 169), VR (a + 182), VR (a + 195)] [VR G.2.2, VR a] G1 I1 _ _
  rw [n0] at w1
  rw [n0] at o1
  rw [n0] at i1
  rw [n0]
  refine r_putF (j := 5) dX9_init_114 ff_X9_66 rfl (Or.inl ⟨_, rfl⟩) rfl (by omega) t1 ?_
  exact hq _ _ (Gs.trans c1.1 gs_put) (c1.2) (n1) (gyX2 w1 (Nat.le_refl _) (fun b q0 q1 => ⟨by funext y; rw [jp_1, if_neg (by omega)], rfl⟩)) (by rw [jp_1, if_pos ⟨rfl, rfl⟩]) (fun j => by rw [i1, ji_1, if_pos rfl, if_neg (jfk2 _)])
theorem s9_11 {E : jE} {G : jG} {I : jM} {a : Nat} {u1 u2 : Nat} {Q : jV → jG → jM → Prop} (n0 : G.2.2 = a + 387) (t0 : (G.2.1 a).1 = 9) (hd : a + 606 ≤ 606 ∨ 635 ≤ a) (hab : (a : Int) ≤ 900000) (hu : u1 + 1 + kX7_init.2.2.2.2.cells ≤ kX9_init.2.2.2.2.cells ∧ u2 + 11 + kX7_init.2.2.2.2.slots ≤ kX9_init.2.2.2.2.slots) (hq : ∀ G' I', (Gs a [6] G G' I I') → (I' a = I a) → (G'.2.2 = a + 396) → (WX7 G' (a + 387)) → (G'.1 a 6 = some (a + 387)) → (I' (a + 387) = up (up (fun j => if jfk 7 j.toNat = 2 then -1 else 0) 4 20) 1 (a + 182 : Nat)) → (∀ b, a + 387 < b → b < a + 396 → ∀ j, I' b j = 0) → jOk E kX9_init 129 [VR a, VR (a + 168), VR (a + 169), VR (a + 182), VR (a + 195)] [] G' I' (u1 + 1 + kX7_init.2.2.2.2.cells, u2 + 11 + kX7_init.2.2.2.2.slots) Q) : jOk E kX9_init 117 [VR a, VR (a + 168), VR (a + 169), VR (a + 182), VR (a + 195)] [] G I (u1, u2) Q := by
  refine r_aload_n dX9_init_117 rfl (i := 0) rfl ?_
  refine r_new (ci := 7) (n := 11) dX9_init_118 rfl rfl nw_X9_7 (by decide) ⟨Nat.le_trans (Nat.le_add_right _ _) hu.1, Nat.le_trans (Nat.le_add_right _ _) hu.2⟩ ?_
  refine r_dup dX9_init_121 rfl ?_
  refine r_aload_n dX9_init_122 rfl (i := 3) rfl ?_
  refine r_callI (a := G.2.2) (as := [VR (a + 182)]) dX9_init_123 mt_X7_init ml_X9_39 mi_X7_init rfl rfl rm_X9_init_X7_init hu (Nat.le_of_ble_eq_true rfl) (jasR jas0) (in_X7 (a := G.2.2) (by rw [jn_3]) (by rw [jn_2, if_pos rfl]) (by omega) (by omega)) (fun r G1 I1 _ hr => ?_)
  obtain ⟨rfl, w1, n1, o1, i1, z1⟩ := hr
  have c1 := gs_new (a := a) (by omega) o1 (by omega)
  replace n1 : G1.2.2 = a + 396 := by omega
  have t1 : (G1.2.1 a).1 = 9 := by rw [(c1.1.2.1 a (by omega)).1]; exact t0
  show jOk E kX9_init 126 [VR a, VR (a + 168), VR (a + 169), VR (a + 182), VR (a + 195)] [VR G.2.2, VR a] G1 I1 _ _
  rw [n0] at w1
  rw [n0] at o1
  rw [n0] at i1
  rw [n0] at z1
  rw [n0]
  refine r_putF (j := 6) dX9_init_126 ff_X9_70 rfl (Or.inl ⟨_, rfl⟩) rfl (by omega) t1 ?_
  exact hq _ _ (Gs.trans c1.1 gs_put) (c1.2) (n1) (gyX7 w1 (Nat.le_refl _) (fun b q0 q1 => ⟨by funext y; rw [jp_1, if_neg (by omega)], rfl⟩)) (by rw [jp_1, if_pos ⟨rfl, rfl⟩]) (by rw [i1]; congr 2; funext y; rw [ji_1, if_pos rfl]) (fun b q0 q1 j => z1 b (by omega) (by omega) j)
theorem s9_12 {E : jE} {G : jG} {I : jM} {a : Nat} {u1 u2 : Nat} {Q : jV → jG → jM → Prop} (n0 : G.2.2 = a + 396) (t0 : (G.2.1 a).1 = 9) (hd : a + 606 ≤ 606 ∨ 635 ≤ a) (hab : (a : Int) ≤ 900000) (hu : u1 + 1 + kX2_init.2.2.2.2.cells ≤ kX9_init.2.2.2.2.cells ∧ u2 + 3 + kX2_init.2.2.2.2.slots ≤ kX9_init.2.2.2.2.slots) (hq : ∀ G' I', (Gs a [7] G G' I I') → (I' a = I a) → (G'.2.2 = a + 578) → (WX2 G' (a + 396)) → (G'.1 a 7 = some (a + 396)) → (∀ j, I' (a + 396) j = 0) → jOk E kX9_init 141 [VR a, VR (a + 168), VR (a + 169), VR (a + 182), VR (a + 195)] [] G' I' (u1 + 1 + kX2_init.2.2.2.2.cells, u2 + 3 + kX2_init.2.2.2.2.slots) Q) : jOk E kX9_init 129 [VR a, VR (a + 168), VR (a + 169), VR (a + 182), VR (a + 195)] [] G I (u1, u2) Q := by
  refine r_aload_n dX9_init_129 rfl (i := 0) rfl ?_
  refine r_new (ci := 2) (n := 3) dX9_init_130 rfl rfl nw_X9_2 (by decide) ⟨Nat.le_trans (Nat.le_add_right _ _) hu.1, Nat.le_trans (Nat.le_add_right _ _) hu.2⟩ ?_
  refine r_dup dX9_init_133 rfl ?_
  refine r_aload_n dX9_init_134 rfl (i := 3) rfl ?_
  refine r_callI (a := G.2.2) (as := [VR (a + 182)]) dX9_init_135 mt_X2_init ml_X9_65 mi_X2_init rfl rfl rm_X9_init_X2_init hu (Nat.le_of_ble_eq_true rfl) (jasR jas0) (in_X2 (a := G.2.2) (by rw [jn_3]) (by rw [jn_2, if_pos rfl]) (by omega) (by omega)) (fun r G1 I1 _ hr => ?_)
  obtain ⟨rfl, w1, n1, o1, i1⟩ := hr
  have c1 := gs_new (a := a) (by omega) o1 (by omega)
  replace n1 : G1.2.2 = a + 578 := by omega
  have t1 : (G1.2.1 a).1 = 9 := by rw [(c1.1.2.1 a (by omega)).1]; exact t0
  show jOk E kX9_init 138 [VR a, VR (a + 168), VR (a + 169), VR (a + 182), VR (a + 195)] [VR G.2.2, VR a] G1 I1 _ _
  rw [n0] at w1
  rw [n0] at o1
  rw [n0] at i1
  rw [n0]
  refine r_putF (j := 7) dX9_init_138 ff_X9_73 rfl (Or.inl ⟨_, rfl⟩) rfl (by omega) t1 ?_
  exact hq _ _ (Gs.trans c1.1 gs_put) (c1.2) (n1) (gyX2 w1 (Nat.le_refl _) (fun b q0 q1 => ⟨by funext y; rw [jp_1, if_neg (by omega)], rfl⟩)) (by rw [jp_1, if_pos ⟨rfl, rfl⟩]) (fun j => by rw [i1, ji_1, if_pos rfl, if_neg (jfk2 _)])
theorem s9_13 {E : jE} {G : jG} {I : jM} {a : Nat} {u1 u2 : Nat} {Q : jV → jG → jM → Prop} (n0 : G.2.2 = a + 578) (t0 : (G.2.1 a).1 = 9) (hd : a + 606 ≤ 606 ∨ 635 ≤ a) (hab : (a : Int) ≤ 900000) (h7 : WX7 G (a + 195)) (h71 : I (a + 195) 1 = ((a + 182 : Nat) : Int)) (hu : u1 + 1 + kX1_init.2.2.2.2.cells ≤ kX9_init.2.2.2.2.cells ∧ u2 + 16 + kX1_init.2.2.2.2.slots ≤ kX9_init.2.2.2.2.slots) (hq : ∀ G' I', (Gs a [9] G G' I I') → (I' a = I a) → (G'.2.2 = a + 592) → (WX1 G' (a + 578)) → (G'.1 a 9 = some (a + 578)) → jOk E kX9_init 154 [VR a, VR (a + 168), VR (a + 169), VR (a + 182), VR (a + 195)] [] G' I' (u1 + 1 + kX1_init.2.2.2.2.cells, u2 + 16 + kX1_init.2.2.2.2.slots) Q) : jOk E kX9_init 141 [VR a, VR (a + 168), VR (a + 169), VR (a + 182), VR (a + 195)] [] G I (u1, u2) Q := by
  refine r_aload_n dX9_init_141 rfl (i := 0) rfl ?_
  refine r_new (ci := 1) (n := 16) dX9_init_142 rfl rfl nw_X9_1 (by decide) ⟨Nat.le_trans (Nat.le_add_right _ _) hu.1, Nat.le_trans (Nat.le_add_right _ _) hu.2⟩ ?_
  refine r_dup dX9_init_145 rfl ?_
  refine r_aload dX9_init_146 (i := 4) rfl ?_
  have v0 : WX7 (jnG G 1 0) (a + 195) := gyX7 h7 (by rw [jn_3]; omega) (fun b q0 q1 => ⟨by funext y; rw [jn_1, if_neg (by omega)], by rw [jn_2, if_neg (by omega)]⟩)
  have x0 : jnI I G.2.2 1 (a + 195) 1 = ((a + 182 : Nat) : Int) := by rw [ji_1, if_neg (by omega)]; exact h71
  refine r_callI (a := G.2.2) (as := [VR (a + 195)]) dX9_init_148 mt_X1_init ml_X9_78 mi_X1_init rfl rfl rm_X9_init_X1_init hu (Nat.le_of_ble_eq_true rfl) (jasR jas0) (in_X1 (a := G.2.2) (by rw [jn_3]) (by rw [jn_2, if_pos rfl]) (by omega) (by omega) v0 (by omega) x0 (by omega)) (fun r G1 I1 _ hr => ?_)
  obtain ⟨rfl, w1, n1, o1⟩ := hr
  have c1 := gs_new (a := a) (by omega) o1 (by omega)
  replace n1 : G1.2.2 = a + 592 := by omega
  have t1 : (G1.2.1 a).1 = 9 := by rw [(c1.1.2.1 a (by omega)).1]; exact t0
  show jOk E kX9_init 151 [VR a, VR (a + 168), VR (a + 169), VR (a + 182), VR (a + 195)] [VR G.2.2, VR a] G1 I1 _ _
  rw [n0] at w1
  rw [n0] at o1
  rw [n0]
  refine r_putF (j := 9) dX9_init_151 ff_X9_81 rfl (Or.inl ⟨_, rfl⟩) rfl (by omega) t1 ?_
  exact hq _ _ (Gs.trans c1.1 gs_put) (c1.2) (n1) (gyX1 w1 (Nat.le_refl _) (fun b q0 q1 => ⟨by funext y; rw [jp_1, if_neg (by omega)], rfl⟩)) (by rw [jp_1, if_pos ⟨rfl, rfl⟩])
theorem s9_14 {E : jE} {G : jG} {I : jM} {a : Nat} {u1 u2 : Nat} {Q : jV → jG → jM → Prop} (n0 : G.2.2 = a + 592) (t0 : (G.2.1 a).1 = 9) (hd : a + 606 ≤ 606 ∨ 635 ≤ a) (hab : (a : Int) ≤ 900000) (h7 : WX7 G (a + 195)) (h71 : I (a + 195) 1 = ((a + 182 : Nat) : Int)) (hu : u1 + 1 + kX1_init.2.2.2.2.cells ≤ kX9_init.2.2.2.2.cells ∧ u2 + 16 + kX1_init.2.2.2.2.slots ≤ kX9_init.2.2.2.2.slots) (hq : ∀ G' I', (Gs a [11] G G' I I') → (I' a = I a) → (G'.2.2 = a + 606) → (WX1 G' (a + 592)) → (G'.1 a 11 = some (a + 592)) → jOk E kX9_init 167 [VR a, VR (a + 168), VR (a + 169), VR (a + 182), VR (a + 195)] [] G' I' (u1 + 1 + kX1_init.2.2.2.2.cells, u2 + 16 + kX1_init.2.2.2.2.slots) Q) : jOk E kX9_init 154 [VR a, VR (a + 168), VR (a + 169), VR (a + 182), VR (a + 195)] [] G I (u1, u2) Q := by
  refine r_aload_n dX9_init_154 rfl (i := 0) rfl ?_
  refine r_new (ci := 1) (n := 16) dX9_init_155 rfl rfl nw_X9_1 (by decide) ⟨Nat.le_trans (Nat.le_add_right _ _) hu.1, Nat.le_trans (Nat.le_add_right _ _) hu.2⟩ ?_
  refine r_dup dX9_init_158 rfl ?_
  refine r_aload dX9_init_159 (i := 4) rfl ?_
  have v0 : WX7 (jnG G 1 0) (a + 195) := gyX7 h7 (by rw [jn_3]; omega) (fun b q0 q1 => ⟨by funext y; rw [jn_1, if_neg (by omega)], by rw [jn_2, if_neg (by omega)]⟩)
  have x0 : jnI I G.2.2 1 (a + 195) 1 = ((a + 182 : Nat) : Int) := by rw [ji_1, if_neg (by omega)]; exact h71
  refine r_callI (a := G.2.2) (as := [VR (a + 195)]) dX9_init_161 mt_X1_init ml_X9_78 mi_X1_init rfl rfl rm_X9_init_X1_init hu (Nat.le_of_ble_eq_true rfl) (jasR jas0) (in_X1 (a := G.2.2) (by rw [jn_3]) (by rw [jn_2, if_pos rfl]) (by omega) (by omega) v0 (by omega) x0 (by omega)) (fun r G1 I1 _ hr => ?_)
  obtain ⟨rfl, w1, n1, o1⟩ := hr
  have c1 := gs_new (a := a) (by omega) o1 (by omega)
  replace n1 : G1.2.2 = a + 606 := by omega
  have t1 : (G1.2.1 a).1 = 9 := by rw [(c1.1.2.1 a (by omega)).1]; exact t0
  show jOk E kX9_init 164 [VR a, VR (a + 168), VR (a + 169), VR (a + 182), VR (a + 195)] [VR G.2.2, VR a] G1 I1 _ _
  rw [n0] at w1
  rw [n0] at o1
  rw [n0]
  refine r_putF (j := 11) dX9_init_164 ff_X9_85 rfl (Or.inl ⟨_, rfl⟩) rfl (by omega) t1 ?_
  exact hq _ _ (Gs.trans c1.1 gs_put) (c1.2) (n1) (gyX1 w1 (Nat.le_refl _) (fun b q0 q1 => ⟨by funext y; rw [jp_1, if_neg (by omega)], rfl⟩)) (by rw [jp_1, if_pos ⟨rfl, rfl⟩])
section GSX
variable {a N x : Nat} {js : List Int} {G G' : jG} {I I' : jM}
theorem Gs.cls {k : Nat} (h : Gs a js G G' I I') (hn : G.2.2 = a + N) (h0 : 0 < N) (t : (G.2.1 a).1 = k) : (G'.2.1 a).1 = k := by rw [(h.2.1 a (by omega)).1]; exact t
theorem Gs.shp (h : Gs a js G G' I I') (hn : G.2.2 = a + N) (h0 : x < N) {q : Nat × Nat} (t : G.2.1 (a + x) = q) : G'.2.1 (a + x) = q := by rw [(h.2.1 (a + x) (by omega)).1]; exact t
theorem Gs.row (h : Gs a js G G' I I') (hn : G.2.2 = a + N) (h0 : 0 < x) (h1 : x < N) : I' (a + x) = I (a + x) := ((h.2.1 (a + x) (by omega)).2 (by omega)).2
theorem Gs.rows (h : Gs a js G G' I I') (hn : G.2.2 = a + N) {b : Nat} (h0 : a < b) (h1 : b < a + N) : I' b = I b := ((h.2.1 b (by omega)).2 (by omega)).2
theorem Gs.blk (h : Gs a js G G' I I') (hn : G.2.2 = a + N) (h0 : 0 < x) {z : Nat} (h1 : x + z ≤ N) : ∀ b, a + x ≤ b → b < a + x + z → G'.1 b = G.1 b ∧ G'.2.1 b = G.2.1 b := fun b q0 q1 => ⟨((h.2.1 b (by omega)).2 (by omega)).1, (h.2.1 b (by omega)).1⟩
theorem Gs.blk5 (h : Gs a js G G' I I') (hn : G.2.2 = a + N) (h1 : 205 ≤ N) : ∀ b, a + 204 - 36 ≤ b → b < a + 204 + 1 → G'.1 b = G.1 b ∧ G'.2.1 b = G.2.1 b := fun b q0 q1 => ⟨((h.2.1 b (by omega)).2 (by omega)).1, (h.2.1 b (by omega)).1⟩
theorem Gs.fld (h : Gs a js G G' I I') {j : Int} {p : Nat} (hj : j ∉ js) (t : G.1 a j = some p) : G'.1 a j = some p := (h.2.2 j hj).trans t
theorem jfk7i {j : Int} (h : j ≠ 1) : jfk 7 j.toNat ≠ 2 := jfk7 _ (by omega)
theorem Gs.old (h : Gs a js G G' I I') (hn : G.2.2 = a + 1) : ∀ b, b < a → G'.1 b = G.1 b ∧ G'.2.1 b = G.2.1 b ∧ I' b = I b := fun b hb => ⟨((h.2.1 b (by omega)).2 (by omega)).1, (h.2.1 b (by omega)).1, ((h.2.1 b (by omega)).2 (by omega)).2⟩
end GSX


theorem in_X9 {E : jE} {G : jG} {I : jM} {a : Nat} (hG : G.2.2 = a + 1) (hs : (G.2.1 a).1 = 9) (hd : a + 606 ≤ 606 ∨ 635 ≤ a) (hab : (a : Int) ≤ 900000) : jRun E kX9_init [VR a] G I (fun r G' I' => r = VN ∧ WX9 G' a ∧ (WX6 G' (a + 169) ∧ WX6 G' (a + 182)) ∧ G'.2.2 = a + 606 ∧ (∀ b, b < a → G'.1 b = G.1 b ∧ G'.2.1 b = G.2.1 b ∧ I' b = I b) ∧ I' a = up (I a) 2 (a + 169 : Nat) ∧ (∀ b, a + 168 ≤ b → b < a + 195 → ∀ j, I' b j = 0) ∧ (∃ J : Int → Int, (∀ j, j ≠ 1 → J j = 0) ∧ I' (a + 195) = up (up J 4 20) 1 (a + 182 : Nat) ∧ I' (a + 387) = up (up J 4 20) 1 (a + 182 : Nat)) ∧ (∀ b, (a + 195 < b ∧ b < a + 204) ∨ (a + 387 < b ∧ b < a + 396) → ∀ j, I' b j = 0) ∧ (I' (a + 204) 4 = 0 ∧ I' (a + 204) 5 = -1) ∧ (∀ j, I' (a + 205) j = 0) ∧ ∀ j, I' (a + 396) j = 0) := by
  refine jRun.of mt_X9_init.2.2.2 4 rfl (fun _ => ?_)
  refine r_aload_n dX9_init_0 rfl (i := 0) rfl ?_
  refine r_objInit dX9_init_1 ml_X9_3 w_obj ⟨Nat.le_of_ble_eq_true rfl, Nat.le_of_ble_eq_true rfl⟩ ?_
  have n0 := hG
  have t0 := hs
  refine s9_1 n0 t0 hd hab ⟨Nat.le_of_ble_eq_true rfl, Nat.le_of_ble_eq_true rfl⟩ (fun G1 I1 c1 r1 n1 w1 f1 => ?_)
  have t1 : (G1.2.1 a).1 = 9 := c1.cls n0 (by decide) t0
  refine s9_2 n1 t1 hd hab ⟨Nat.le_of_ble_eq_true rfl, Nat.le_of_ble_eq_true rfl⟩ (fun G2 I2 c2 r2 n2 w2 f2 => ?_)
  have t2 : (G2.2.1 a).1 = 9 := c2.cls n1 (by decide) t1
  refine s9_3 n2 t2 hd hab ⟨Nat.le_of_ble_eq_true rfl, Nat.le_of_ble_eq_true rfl⟩ (fun G3 I3 c3 r3 n3 w3 f3 => ?_)
  have t3 : (G3.2.1 a).1 = 9 := c3.cls n2 (by decide) t2
  refine s9_4 n3 t3 ⟨Nat.le_of_ble_eq_true rfl, Nat.le_of_ble_eq_true rfl⟩ (fun G4 I4 c4 r4 n4 a4 f4 b4 z4 => ?_)
  have t4 : (G4.2.1 a).1 = 9 := c4.cls n3 (by decide) t3
  refine s9_5 n4 t4 hd hab ⟨Nat.le_of_ble_eq_true rfl, Nat.le_of_ble_eq_true rfl⟩ (fun G5 I5 c5 r5 n5 w5 z5 => ?_)
  have t5 : (G5.2.1 a).1 = 9 := c5.cls n4 (by decide) t4
  have d4 := c5
  refine s9_6 n5 t5 hd hab ⟨Nat.le_of_ble_eq_true rfl, Nat.le_of_ble_eq_true rfl⟩ (fun G6 I6 c6 r6 n6 w6 z6 => ?_)
  have t6 : (G6.2.1 a).1 = 9 := c6.cls n5 (by decide) t5
  replace d4 := Gs.trans d4 c6
  refine s9_7 n6 t6 hd hab ⟨Nat.le_of_ble_eq_true rfl, Nat.le_of_ble_eq_true rfl⟩ (fun G7 I7 c7 r7 n7 w7 i7 z7 => ?_)
  have t7 : (G7.2.1 a).1 = 9 := c7.cls n6 (by decide) t6
  replace d4 := Gs.trans d4 c7
  refine s9_8 n7 t7 hab (fun G8 I8 c8 r8 n8 f8 => ?_)
  have t8 : (G8.2.1 a).1 = 9 := c8.cls n7 (by decide) t7
  replace d4 := Gs.trans d4 c8
  have d7 := c8
  refine s9_9 n8 t8 hd hab (d4.shp n4 (by decide) b4) ⟨Nat.le_of_ble_eq_true rfl, Nat.le_of_ble_eq_true rfl⟩ (fun G9 I9 c9 r9 n9 w9 f9 g9 i9 => ?_)
  have t9 : (G9.2.1 a).1 = 9 := c9.cls n8 (by decide) t8
  replace d4 := Gs.trans d4 c9
  replace d7 := Gs.trans d7 c9
  refine s9_10 n9 t9 hd hab ⟨Nat.le_of_ble_eq_true rfl, Nat.le_of_ble_eq_true rfl⟩ (fun G10 I10 c10 r10 n10 w10 f10 z10 => ?_)
  have t10 : (G10.2.1 a).1 = 9 := c10.cls n9 (by decide) t9
  replace d4 := Gs.trans d4 c10
  replace d7 := Gs.trans d7 c10
  refine s9_11 n10 t10 hd hab ⟨Nat.le_of_ble_eq_true rfl, Nat.le_of_ble_eq_true rfl⟩ (fun G11 I11 c11 r11 n11 w11 f11 i11 z11 => ?_)
  have t11 : (G11.2.1 a).1 = 9 := c11.cls n10 (by decide) t10
  replace d4 := Gs.trans d4 c11
  replace d7 := Gs.trans d7 c11
  refine s9_12 n11 t11 hd hab ⟨Nat.le_of_ble_eq_true rfl, Nat.le_of_ble_eq_true rfl⟩ (fun G12 I12 c12 r12 n12 w12 f12 z12 => ?_)
  have t12 : (G12.2.1 a).1 = 9 := c12.cls n11 (by decide) t11
  replace d4 := Gs.trans d4 c12
  replace d7 := Gs.trans d7 c12
  refine s9_13 n12 t12 hd hab (gyX7 w7 d7.1 (d7.blk n7 (by decide) (by decide))) (by rw [d7.row n7 (by decide) (by decide), i7]; exact up_eq) ⟨Nat.le_of_ble_eq_true rfl, Nat.le_of_ble_eq_true rfl⟩ (fun G13 I13 c13 r13 n13 w13 f13 => ?_)
  have t13 : (G13.2.1 a).1 = 9 := c13.cls n12 (by decide) t12
  replace d4 := Gs.trans d4 c13
  replace d7 := Gs.trans d7 c13
  refine s9_14 n13 t13 hd hab (gyX7 w7 d7.1 (d7.blk n7 (by decide) (by decide))) (by rw [d7.row n7 (by decide) (by decide), i7]; exact up_eq) ⟨Nat.le_of_ble_eq_true rfl, Nat.le_of_ble_eq_true rfl⟩ (fun G14 I14 c14 r14 n14 w14 f14 => ?_)
  have t14 : (G14.2.1 a).1 = 9 := c14.cls n13 (by decide) t13
  replace d4 := Gs.trans d4 c14
  replace d7 := Gs.trans d7 c14
  refine r_vret dX9_init_167 rfl ⟨Nat.le_of_ble_eq_true rfl, Nat.le_of_ble_eq_true rfl⟩ ?_
  have y14 : Gs a [] G14 G14 I14 I14 := Gs.refl
  have y13 := Gs.trans c14 y14
  have y12 := Gs.trans c13 y13
  have y11 := Gs.trans c12 y12
  have y10 := Gs.trans c11 y11
  have y9 := Gs.trans c10 y10
  have y8 := Gs.trans c9 y9
  have y7 := Gs.trans c8 y8
  have y6 := Gs.trans c7 y7
  have y5 := Gs.trans c6 y6
  have y4 := Gs.trans c5 y5
  have y3 := Gs.trans c4 y4
  have y2 := Gs.trans c3 y3
  have y1 := Gs.trans c2 y2
  have y0 := Gs.trans c1 y1
  have ra : I14 a = up (I a) 2 (a + 169 : Nat) := by rw [r14, r13, r12, r11, r10, r9, r8, r7, r6, r5, r4, r3, r2, r1]
  have v0 : G14.1 a 0 = some (a + 168) := y8.fld (by decide) f8
  have v1 : G14.2.1 (a + 168) = (101, 300) := y4.shp n4 (by decide) b4
  have v2 : G14.1 a 3 = some (a + 204) := y9.fld (by decide) f9
  have v3 : WX5 G14 (a + 204) := gyX5 w9 y9.1 (y9.blk5 n9 (by decide))
  have v4 : G14.1 a 4 = some (a + 195) := y9.fld (by decide) g9
  have v5 : WX7 G14 (a + 195) := gyX7 w7 y7.1 (y7.blk n7 (by decide) (by decide))
  have v6 : G14.1 a 5 = some (a + 205) := y10.fld (by decide) f10
  have v7 : WX2 G14 (a + 205) := gyX2 w10 y10.1 (y10.blk n10 (by decide) (by decide))
  have v8 : G14.1 a 6 = some (a + 387) := y11.fld (by decide) f11
  have v9 : WX7 G14 (a + 387) := gyX7 w11 y11.1 (y11.blk n11 (by decide) (by decide))
  have v10 : G14.1 a 7 = some (a + 396) := y12.fld (by decide) f12
  have v11 : WX2 G14 (a + 396) := gyX2 w12 y12.1 (y12.blk n12 (by decide) (by decide))
  have v12 : G14.1 a 8 = some (a + 1) := y1.fld (by decide) f1
  have v13 : WX4 G14 (a + 1) := gyX4 w1 y1.1 (y1.blk n1 (by decide) (by decide))
  have v14 : G14.1 a 9 = some (a + 578) := y13.fld (by decide) f13
  have v15 : WX1 G14 (a + 578) := gyX1 w13 y13.1 (y13.blk n13 (by decide) (by decide))
  have v16 : G14.1 a 11 = some (a + 592) := y14.fld (by decide) f14
  have v17 : WX1 G14 (a + 592) := gyX1 w14 y14.1 (y14.blk n14 (by decide) (by decide))
  have v18 : G14.1 a 12 = some (a + 6) := y2.fld (by decide) f2
  have v19 : WX3 G14 (a + 6) := gyX3 w2 y2.1 (y2.blk n2 (by decide) (by decide))
  have v20 : G14.1 a 16 = some (a + 164) := y3.fld (by decide) f3
  have v21 : WX0 G14 (a + 164) := gyX0 w3 y3.1 (y3.blk n3 (by decide) (by decide))
  have v22 : G14.1 a 17 = some (a + 167) := y4.fld (by decide) f4
  have v23 : G14.2.1 (a + 167) = (100, 1) := y4.shp n4 (by decide) a4
  have wv : WX9 G14 a := ⟨Nat.le_of_eq n14.symm, t14, hd, v0, v1, v2, v3, v4, v5, v6, v7, v8, v9, v10, v11, v12, v13, v14, v15, v16, v17, v18, v19, v20, v21, v22, v23⟩
  refine ⟨rfl, wv, ⟨gyX6 w5 y5.1 (y5.blk n5 (by decide) (by decide)), gyX6 w6 y6.1 (y6.blk n6 (by decide) (by decide))⟩, n14, y0.old n0, ra, fun b q0 q1 j => ?_, ⟨(fun j => if jfk 7 j.toNat = 2 then -1 else 0), fun j hj => ?_, ?_, ?_⟩, fun b q j => ?_, ⟨?_, ?_⟩, fun j => ?_, fun j => ?_⟩
  · have s4 := y4.rows n4 (b := b)
    have s5 := y5.rows n5 (b := b)
    have s6 := y6.rows n6 (b := b)
    clear n1 n2 n3 n4 n5 n6 n7 n8 n9 n10 n11 n12 n13 n14 ra wv
    by_cases z : b = a + 168
    · rw [s4 (by omega) (by omega), z]; exact z4 j
    · by_cases z' : b < a + 182
      · rw [s5 (by omega) (by omega)]; exact z5 b (by omega) (by omega) j
      · rw [s6 (by omega) (by omega)]; exact z6 b (by omega) (by omega) j
  · exact if_neg (jfk7i hj)
  · rw [y7.row n7 (by decide) (by decide)]; exact i7
  · rw [y11.row n11 (by decide) (by decide)]; exact i11
  · have s7 := y7.rows n7 (b := b)
    have s11 := y11.rows n11 (b := b)
    clear n1 n2 n3 n4 n5 n6 n7 n8 n9 n10 n11 n12 n13 n14 ra wv
    rcases q with q | q
    · rw [s7 (by omega) (by omega)]; exact z7 b (by omega) (by omega) j
    · rw [s11 (by omega) (by omega)]; exact z11 b (by omega) (by omega) j
  · rw [y9.row n9 (by decide) (by decide)]; exact i9.1
  · rw [y9.row n9 (by decide) (by decide)]; exact i9.2
  · rw [y10.row n10 (by decide) (by decide)]; exact z10 j
  · rw [y12.row n12 (by decide) (by decide)]; exact z12 j
