/-! ===== the law's beginning ===== -/
def bB : Int → Int := fun j => if j = 6 then 20 else 0
theorem bB_0 {j : Int} (h : j ≠ 6) : bB j = 0 := if_neg h
theorem bB_6 : bB 6 = 20 := if_pos rfl
theorem BW_b : BW 0 bB := by
  have e2 : bB 2 = 0 := bB_0 (by decide)
  have e3 : bB 3 = 0 := bB_0 (by decide)
  have e4 : bB 4 = 0 := bB_0 (by decide)
  have e5 : bB 5 = 0 := bB_0 (by decide)
  have e7 : bB 7 = 0 := bB_0 (by decide)
  have e8 : bB 8 = 0 := bB_0 (by decide)
  have e9 : bB 9 = 0 := bB_0 (by decide)
  have e6 := bB_6
  refine ⟨⟨⟨by omega, by omega⟩, ⟨by omega, by omega, fun r r0 r1 => absurd r1 (by omega)⟩, ⟨by omega, by omega⟩, ⟨by omega, by omega⟩, by omega, by omega⟩, fun i i0 i1 => absurd i1 (by omega), fun i i0 i1 => bB_0 (by omega), fun j j0 j1 => bB_0 (by omega), fun j j0 j1 => ?_, fun k k0 k1 => absurd k1 (by omega), ⟨by omega, by omega⟩, ⟨by omega, by omega⟩, by omega, by omega⟩
  rw [bB_0 (by omega)]
  exact ⟨by omega, by omega⟩
theorem ST_b {G : jG} {I : jM} {a : Nat} {J : Int → Int} (w : WX6 G 182) (hJ : ∀ j, j ≠ 1 → J j = 0) (ea : I a = up (up J 4 20) 1 ((182 : Nat) : Int)) (z : ∀ b, a < b → b < a + 9 → ∀ j, I b j = 0) (zr : ∀ b, 182 ≤ b → b < 195 → ∀ j, I b j = 0) : ST G 169 a bB I := by
  have e2 : bB 2 = 0 := bB_0 (by decide)
  have e3 : bB 3 = 0 := bB_0 (by decide)
  have e4 : bB 4 = 0 := bB_0 (by decide)
  have e5 : bB 5 = 0 := bB_0 (by decide)
  have e7 : bB 7 = 0 := bB_0 (by decide)
  have e8 : bB 8 = 0 := bB_0 (by decide)
  have e9 : bB 9 = 0 := bB_0 (by decide)
  have g : ∀ j, j ≠ 1 → j ≠ 4 → I a j = 0 := fun j h1 h4 => by rw [ea, up_ne h1, up_ne h4]; exact hJ j h1
  have g1 : I a 1 = ((182 : Nat) : Int) := by rw [ea]; exact up_eq
  have g4 : I a 4 = 20 := by rw [ea, up_ne (by decide)]; exact up_eq
  refine ⟨⟨⟨⟨by rw [e2]; exact z (a + 1) (by omega) (by omega) 2, by omega, by omega⟩, fun i i0 i1 => absurd i1 (by omega)⟩, ⟨by rw [e3]; exact z (a + 1) (by omega) (by omega) 5, by omega, by omega⟩, fun k k0 k1 => absurd k1 (by omega)⟩, ?_, ?_, ⟨by rw [e5]; exact g 3 (by decide) (by decide), by rw [bB_6]; exact g4, ⟨by rw [e7]; exact g 7 (by decide) (by decide), by omega, by omega⟩, fun k k0 k1 => absurd k1 (by omega)⟩, ⟨by rw [e9]; exact g 9 (by decide) (by decide), by omega, by omega⟩, fun j j0 j1 => absurd j1 (by omega), by rw [e8]; exact g 10 (by decide) (by decide)⟩
  · refine ⟨182, g1, w, Or.inr (Or.inl rfl), Or.inr (by decide), by rw [e4]; exact zr 182 (by decide) (by decide) 1, fun r r0 r1 => absurd r1 (by omega), fun k k0 k1 => absurd k1 (by omega), fun k k' k0 k1 k2 => absurd k2 (by omega), fun r r0 r1 => absurd r1 (by omega)⟩
  · rw [e4, g 2 (by decide) (by decide)]; rfl
theorem HS_b {G : jG} {I : jM} {h : Nat} (z : ∀ j, I h j = 0) : HS G 169 h [] I := ⟨z 2, by decide, ⟨by rw [z 1]; decide, by rw [z 1]; decide⟩, fun i hi => absurd hi (Nat.not_lt_zero i)⟩
theorem Abs_b {S : Int → Int} (e : ∀ j, 0 ≤ j → j < 22094 → S j = if j = 6 then 20 else 0) : AbsR S bB [] := by
  refine ⟨?_, by rw [e 0 (by decide) (by decide)]; rfl, ⟨by rw [e 1 (by decide) (by decide)]; decide, by rw [e 1 (by decide) (by decide)]; decide⟩, by decide, fun i hi => absurd hi (Nat.not_lt_zero i)⟩
  funext j
  unfold nrm bB
  by_cases q : 2 ≤ j ∧ j < 1054
  · rw [if_pos q, e j (by omega) (by omega)]
  · rw [if_neg q, if_neg (by omega)]
theorem lv0 {G : jG} {I : jM} {J : Int → Int} (w9 : WX9 G 0) (wA : WX6 G 169) (wB : WX6 G 182) (w10 : WX10 G 606) (n : G.2.2 = 635) (r2 : I 0 2 = 169) (r0 : ∀ j, j = 1 ∨ j = 10 ∨ j = 13 ∨ j = 15 → I 0 j = 0) (z : ∀ b, 168 ≤ b → b < 195 → ∀ j, I b j = 0) (hJ : ∀ j, j ≠ 1 → J j = 0) (e1 : I 195 = up (up J 4 20) 1 ((182 : Nat) : Int)) (e2 : I 387 = up (up J 4 20) 1 ((182 : Nat) : Int)) (zz : ∀ b, (195 < b ∧ b < 204) ∨ (387 < b ∧ b < 396) → ∀ j, I b j = 0) (f4 : I 204 4 = 0) (f5 : I 204 5 = -1) (zh : ∀ j, I 205 j = 0) (zk : ∀ j, I 396 j = 0) (q0 : ∀ j, j = 26 ∨ j = 31 → I 606 j = 0) (q1 : I 606 32 = -1) (b2 : ∀ b, b = 607 ∨ b = 608 → ∀ j, 0 ≤ j → j < 22094 → I b j = if j = 6 then 20 else 0) : LV 0 G I := by
  refine ⟨169, bB, [], bB, [], [], 0, -1, ⟨⟨⟨rfl, w9, wA, r2, Or.inl rfl⟩, ?_, HS_b zh, ?_, HS_b zk, ⟨r0 1 (by omega), by decide, fun i hi => absurd hi (Nat.not_lt_zero i)⟩, f4, f5⟩, CK.zero ⟨r0 10 (by omega), r0 13 (by omega), r0 15 (by omega)⟩⟩, w10, ⟨Abs_b (b2 607 (by omega)), Abs_b (b2 608 (by omega)), ⟨q0 26 (by omega), by decide, fun i hi => absurd hi (Nat.not_lt_zero i)⟩, q0 31 (by omega), q1⟩, ⟨BW_b, fun X hX => absurd hX List.not_mem_nil, BW_b, fun X hX => absurd hX List.not_mem_nil⟩, by omega, by omega⟩
  · exact ST_b wB hJ e1 (fun b b0 b1 => zz b (by omega)) (fun b b0 b1 => z b (by omega) (by omega))
  · exact ST_b wB hJ e2 (fun b b0 b1 => zz b (by omega)) (fun b b0 b1 => z b (by omega) (by omega))
theorem nw_L_9 : Cond.classLink RL 7 RX9 ∈ jTB ∧ Cond.instantiable RX9 18 ∈ jTB ∧ Cond.initialized RX9 ∈ jTB := ⟨jTB_1 17 (by decide +kernel) rfl, jTB_1 18 (by decide +kernel) rfl, (mt_X9_init).2.1⟩
theorem nw_L_10 : Cond.classLink RL 10 RX10 ∈ jTB ∧ Cond.instantiable RX10 44 ∈ jTB ∧ Cond.initialized RX10 ∈ jTB := ⟨jTB_5 141 (by decide +kernel) rfl, jTB_5 142 (by decide +kernel) rfl, (mt_X10_init).2.1⟩
theorem rl_X9_init : jRm kL kX9_init 0 := ⟨by decide +kernel, Nat.le_of_ble_eq_true rfl, Nat.le_of_ble_eq_true rfl⟩
theorem rl_X10_init : jRm kL kX10_init 0 := ⟨by decide +kernel, Nat.le_of_ble_eq_true rfl, Nat.le_of_ble_eq_true rfl⟩
def g0 : jG := (fun _ _ => none, fun _ => (0, 0), 0)
def i0 : jM := fun _ _ => 0
theorem lawBegin {E : jE} {b L : Nat} {xs : Nat → Int32} (hL : (L : Int) ≤ 3072) : jOy E (lX E b L xs) kL 0 [VX (.ref b), VN, VN, VN] [] g0 i0 (0, 0) lQ := by
  refine y_new (K := kL) (ci := 9) (n := 18) dL_law_0 rfl rfl nw_L_9 (by decide) ⟨Nat.le_of_ble_eq_true rfl, Nat.le_of_ble_eq_true rfl⟩ ?_
  refine y_dup (K := kL) dL_law_3 rfl ?_
  refine y_callI (K := kL) (a := 0) (as := []) (st := [VR 0]) dL_law_4 mt_X9_init ml_L_9 mi_X9_init rfl rfl rl_X9_init ⟨Nat.le_of_ble_eq_true rfl, Nat.le_of_ble_eq_true rfl⟩ (Nat.le_of_ble_eq_true rfl) (fun x hx => absurd hx List.not_mem_nil) (in_X9 (a := 0) rfl rfl (Or.inl (by decide)) (by decide)) (fun r G1 I1 _ hr => ?_)
  obtain ⟨rfl, w9, ⟨wA, wB⟩, n1, o1, r1, z1, ⟨J, hJ, e1, e2⟩, zz, f45, zh, zk⟩ := hr
  refine y_astore_n (K := kL) (i := 1) dL_law_7 rfl (Nat.le_of_ble_eq_true rfl) rfl ?_
  refine y_new (K := kL) (ci := 10) (n := 44) dL_law_8 rfl rfl nw_L_10 (by decide) ⟨Nat.le_of_ble_eq_true rfl, Nat.le_of_ble_eq_true rfl⟩ ?_
  refine y_dup (K := kL) dL_law_11 rfl ?_
  refine y_callI (K := kL) (a := G1.2.2) (as := []) (st := [VR G1.2.2]) dL_law_12 mt_X10_init ml_L_12 mi_X10_init rfl rfl rl_X10_init ⟨Nat.le_of_ble_eq_true rfl, Nat.le_of_ble_eq_true rfl⟩ (Nat.le_of_ble_eq_true rfl) (fun x hx => absurd hx List.not_mem_nil) (in_X10 (a := G1.2.2) (by rw [jn_3]) (by rw [jn_2, if_pos rfl])) (fun r G2 I2 _ hr => ?_)
  obtain ⟨rfl, w10, n2, o2, r2, b2⟩ := hr
  have n1' : G1.2.2 = 606 := n1
  have m : ∀ c, c < 606 → G2.1 c = G1.1 c ∧ G2.2.1 c = G1.2.1 c ∧ I2 c = I1 c := fun c hc => by
    have q := o2 c (by omega)
    refine ⟨?_, ?_, ?_⟩
    · rw [q.1]; funext y; rw [jn_1, if_neg (by omega)]
    · rw [q.2.1, jn_2, if_neg (by omega)]
    · rw [q.2.2]; funext y; rw [ji_1, if_neg (by omega)]
  rw [n1'] at w10 n2 r2 b2
  have hx : Gx G1 G2 := ⟨by omega, fun c hc => ⟨(m c (by omega)).1, (m c (by omega)).2.1⟩⟩
  have hv : LV 0 G2 I2 := by
    refine lv0 (J := J) (gxX9 w9 hx) (gxX6 wA hx) (gxX6 wB hx) w10 n2 ?_ (fun j hj => ?_) (fun c c0 c1 j => ?_) hJ ?_ ?_ (fun c hc j => ?_) ?_ ?_ (fun j => ?_) (fun j => ?_) (fun j hj => ?_) ?_ b2
    · rw [(m 0 (by decide)).2.2, r1]; exact up_eq
    · rw [(m 0 (by decide)).2.2, r1, up_ne (by omega)]
      rcases hj with rfl | rfl | rfl | rfl <;> rfl
    · rw [(m c (by omega)).2.2]; exact z1 c (by omega) (by omega) j
    · rw [(m 195 (by decide)).2.2]; exact e1
    · rw [(m 387 (by decide)).2.2]; exact e2
    · rw [(m c (by omega)).2.2]; exact zz c (by omega) j
    · rw [(m 204 (by decide)).2.2]; exact f45.1
    · rw [(m 204 (by decide)).2.2]; exact f45.2
    · rw [(m 205 (by decide)).2.2]; exact zh j
    · rw [(m 396 (by decide)).2.2]; exact zk j
    · rw [r2, up_ne (by omega), ji_1, if_pos rfl]
      rcases hj with rfl | rfl <;> rfl
    · rw [r2]; exact up_eq
  show jOy E (lX E b L xs) kL 15 [VX (.ref b), VR 0, VN, VN] [VR G1.2.2] G2 I2 _ lQ
  rw [n1']
  refine y_astore_n (K := kL) (i := 2) dL_law_15 rfl (Nat.le_of_ble_eq_true rfl) rfl ?_
  refine y_iconst (K := kL) (n := 0) dL_law_16 ?_
  refine y_istore_n (K := kL) (i := 3) dL_law_17 rfl (Nat.le_of_ble_eq_true rfl) rfl ⟨by decide, by decide⟩ ?_
  exact lawLoop hL 512 0 G2 I2 _ _ (by decide) hv (Nat.le_of_ble_eq_true rfl) (Nat.le_of_ble_eq_true rfl)
