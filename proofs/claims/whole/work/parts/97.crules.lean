/-! ===== the class: rules() ===== -/
theorem on_tab : ∀ r : Fin 6, jor (jshl 1 ((r.val : Nat) : Int) - 1) (jshl 1 ((r.val : Nat) : Int)) = jshl 1 (((r.val + 1 : Nat)) : Int) - 1 := by decide +kernel
theorem on_rng : ∀ r : Fin 7, 0 ≤ jshl 1 ((r.val : Nat) : Int) - 1 ∧ jshl 1 ((r.val : Nat) : Int) - 1 ≤ 63 := by decide +kernel
theorem onB_all {X : Int → Int} : ∀ n : Nat, n ≤ 6 → (∀ r : Nat, r < n → X (515 + 40 * r) = 1) → onB X n = jshl 1 n - 1 := by
  intro n
  induction n with
  | zero => intro _ _; show (0 : Int) = jshl 1 ((0 : Nat) : Int) - 1; decide
  | succ n ih =>
    intro h hr
    show jor (onB X n) (jshl (X (515 + 40 * n)) n) = _
    rw [ih (by omega) (fun r q => hr r (by omega)), hr n (by omega)]
    exact on_tab ⟨n, by omega⟩
theorem nw_X6 : Cond.classLink RX9 34 RX6 ∈ jTB ∧ Cond.instantiable RX6 13 ∈ jTB ∧ Cond.initialized RX6 ∈ jTB := ⟨jTB_1 109 (by decide +kernel) rfl, jTB_1 110 (by decide +kernel) rfl, jTB_1 5 (by decide +kernel) rfl⟩
section CR
variable {E : jE} {G : jG} {m δ : Nat} {I : jM} {B B' : Int → Int} {H H' : List (Int → Int)} {T : List Int} {fk fp c : Int}
theorem cl_takeRules (hm : WX7 G m) (hδ : WX6 G δ) (hmd : δ + 13 ≤ m ∨ m < δ) (hb : (δ : Int) ≤ 2147483647) {n : Nat} (hn : n ≤ 6) (h1 : I δ 1 = n) : jRV E jB kX7_takeRules [VR m, VR δ] G I (fun I' => I' m 1 = δ ∧ I' m 2 = jshl 1 n - 1 ∧ I' m 7 = 0 ∧ ∀ a j, (a ≠ m ∨ (j ≠ 1 ∧ j ≠ 2 ∧ j ≠ 7)) → I' a j = I a j) := by
  have rg := on_rng ⟨n, by omega⟩
  have rg' : 0 ≤ jshl 1 (n : Int) - 1 ∧ jshl 1 (n : Int) - 1 ≤ 63 := rg
  refine en_X7_takeRules hm hδ (fun _ => ⟨hb, fun M1 e1 => ?_⟩)
  have k1 : M1 δ 1 = n := by rw [jr_na e1 (by omega)]; exact h1
  rw [k1]
  refine ⟨⟨by omega, by omega⟩, fun M3 e3 M5 e5 => ⟨?_, ?_, jr_eq e5, fun a j ha => ?_⟩⟩
  · rw [jr_nj e5 (by omega), jr_nj e3 (by omega), jr_eq e1]
  · rw [jr_nj e5 (by omega), jr_eq e3]
  · by_cases q : a = m
    · rw [jr_nj e5 (by omega), jr_nj e3 (by omega), jr_nj e1 (by omega)]
    · rw [jr_na e5 q, jr_na e3 q, jr_na e1 q]
theorem cl_rules (h : CC G m δ I B H B' H' T fk fp) (hQ : QW B) (hbig : (G.2.2 : Int) + 13 ≤ 2147483647) (h635 : 635 ≤ G.2.2) : jRun E kX9_rules [VR m] G I (fun r G' I' => ∃ x, r = VI x ∧ (∀ b, jB b → I' b = I b) ∧ Gx G G' ∧ (∀ p, pAll T = .error p → x = -1 ∧ G' = G ∧ CC G m δ I' B H B' H' [] p.1 p.2) ∧ (∀ rl, pAll T = .ok rl → x = rl.length ∧ G'.2.2 = G.2.2 + 13 ∧ CC G' m G.2.2 I' (ruB B T rl) (pushH H B) B' H' [] 0 (-1))) := by
  obtain ⟨⟨⟨h0, hm, hδ, h2, h4⟩, h5, h6, h7, h8, h9, h10, h11⟩, hk⟩ := h
  have e1 := h9.1
  have h300 := h9.2.1
  have hδn := hδ.1
  refine jRun.of mt_X9_rules.2.2.2 1 rfl (fun _ => ?_)
  have hF : ∀ b, jB b → I b = I b := fun _ _ => rfl
  refine r_aload_n dX9_rules_0 rfl (i := 0) rfl ?_
  refine rr_getI (v := (T.length : Int)) dX9_rules_1 fg_X9_88 rfl (wX9_l hm) (wX9_s hm) e1 ?_
  refine rr_istore_n (i := 1) (ls' := [VR m, VI (T.length : Int)]) dX9_rules_4 rfl (Nat.le_of_ble_eq_true rfl) rfl rfl ⟨by omega, by omega⟩ ?_
  refine r_aload_n dX9_rules_5 rfl (i := 0) rfl ?_
  refine r_iconst (n := 0) dX9_rules_6 ?_
  refine rr_putI (jj := 1) dX9_rules_7 fp_X9_88 rfl rfl (wX9_l hm) (wX9_s hm) ⟨by decide, by decide⟩ (fun M1 eM1 => ?_)
  have hFM1 := jFr_up hF eM1 (wX9_f hm 0 (by decide))
  refine r_aload_n dX9_rules_10 rfl (i := 0) rfl ?_
  refine rr_getR (b := (m + 204)) dX9_rules_11 fg_X9_55 rfl rfl (wX9_l hm) (wX9_s hm) (wX9_r3 hm) ?_
  refine r_iload_n dX9_rules_14 rfl (i := 1) rfl ?_
  refine r_aload_n dX9_rules_15 rfl (i := 0) rfl ?_
  refine rr_getM (b := δ) dX9_rules_16 fg_X9_46 rfl rfl (wX9_l hm) (wX9_s hm) ((jr_nj eM1 (by decide)).trans h2) ?_
  have hrd : jRI E jB kX5_read [VR (m + 204), VI (T.length : Int), VR δ] G M1 (fun x I' => RdQ (m + 204) δ B T M1 x I') := cl_read (wX9_o3 hm) hδ (by omega) (by omega) h300 (fun i hi => ⟨(h9.2.2 i hi).1, by rw [jr_na eM1 (by omega), show m + 204 - 36 = m + 168 by omega]; exact (h9.2.2 i hi).2⟩)
  refine rr_cVI (a := (m + 204)) (as := [VI (T.length : Int), VR δ]) (st := []) dX9_rules_19 mt_X5_read ml_X9_110 mi_X5_read rm_X9_rules_X5_read jz_X5_read ⟨Nat.zero_le _, Nat.zero_le _⟩ (Nat.le_of_ble_eq_true rfl) (wX5_l (wX9_o3 hm)) (wX5_c (wX9_o3 hm)) (jasI ⟨by omega, by omega⟩ (jasR jas0)) hrd (fun r6 I5 hc7 hFI5 hT => ?_)
  replace hFI5 := jFr_tr hFM1 hFI5
  obtain ⟨te, tok, tf⟩ := hT
  have f5 : ∀ a j, a ≠ m → a ≠ m + 204 → ¬ (δ ≤ a ∧ a < δ + 13) → I5 a j = I a j := fun a j q0 q1 q2 => by rw [tf a j q1 q2, jr_na eM1 q0]
  have f5m : ∀ j, j ≠ 1 → I5 m j = I m j := fun j q => by rw [tf m j (by omega) (by omega), jr_nj eM1 q]
  have cs5 : ∀ a b : Int, I5 (m + 204) 4 = a → I5 (m + 204) 5 = b → CS G m δ I5 B H B' H' [] a b := fun a b qa qb => ⟨⟨h0, hm, hδ, by rw [f5m 2 (by omega)]; exact h2, h4⟩, h5.keep (fun b j q => f5 b j (by omega) (by omega) (by omega)), h6.keep (fun b j q => f5 b j (by omega) (by omega) (by omega)), h7.keep (fun b j q => f5 b j (by omega) (by omega) (by omega)), h8.keep (fun b j q => f5 b j (by omega) (by omega) (by omega)), ⟨by rw [tf m 1 (by omega) (by omega), jr_eq eM1]; rfl, by simp, fun i hi => absurd hi (Nat.not_lt_zero i)⟩, qa, qb⟩
  refine r_if_ne (tgt := 27) dX9_rules_22 rfl hc7 (fun hcc => ?_) (fun hcc => ?_)
  · cases ep : pAll T with
    | error p => exact absurd (te p ep).1 hcc
    | ok rl =>
      obtain ⟨x1, x4, x5, xR⟩ := tok rl ep
      obtain ⟨hW, hl6⟩ := pAll_ok ep
      refine r_aload_n dX9_rules_27 rfl (i := 0) rfl ?_
      refine rr_cVV (a := m) (as := []) (st := []) dX9_rules_28 mt_X9_keepStep ml_X9_100 mi_X9_keepStep rm_X9_rules_X9_keepStep jz_X9_keepStep ⟨Nat.zero_le _, Nat.zero_le _⟩ (Nat.le_of_ble_eq_true rfl) (wX9_l hm) (wX9_c hm) jas0 (cl_keepStep (cs5 0 (-1) x4 x5)) (fun I8 hFI8 hT8 => ?_)
      replace hFI8 := jFr_tr hFI5 hFI8
      obtain ⟨c8, z8, f8⟩ := hT8
      obtain ⟨⟨_, _, _, g2, _⟩, g5, g6, g7, g8, g9, g10, g11⟩ := c8
      have xR8 : RU δ (ruB B T rl) I8 := xR.fr (fun a j a0 a1 => f8 a j (by omega) (by omega))
      refine r_aload_n dX9_rules_31 rfl (i := 0) rfl ?_
      refine rr_getR (b := (m + 195)) dX9_rules_32 fg_X9_59 rfl rfl (wX9_l hm) (wX9_s hm) (wX9_r4 hm) ?_
      refine r_aload_n dX9_rules_35 rfl (i := 0) rfl ?_
      refine rr_getM (b := δ) dX9_rules_36 fg_X9_46 rfl rfl (wX9_l hm) (wX9_s hm) g2 ?_
      refine rr_cVV (a := (m + 195)) (as := [VR δ]) (st := []) dX9_rules_39 mt_X7_takeRules ml_X9_114 mi_X7_takeRules rm_X9_rules_X7_takeRules jz_X7_takeRules ⟨Nat.zero_le _, Nat.zero_le _⟩ (Nat.le_of_ble_eq_true rfl) (wX7_l (wX9_o4 hm)) (wX7_c (wX9_o4 hm)) (jasR jas0) (cl_takeRules (wX9_o4 hm) hδ (by omega) (by omega) hl6 (by rw [xR8.1, ru_4])) (fun I12 hFI12 hT12 => ?_)
      replace hFI12 := jFr_tr hFI8 hFI12
      obtain ⟨t1, t2, t7, tf12⟩ := hT12
      refine r_aload_n dX9_rules_42 rfl (i := 0) rfl ?_
      refine r_new (ci := 6) (n := 13) dX9_rules_43 rfl rfl nw_X6 (by decide) ⟨Nat.le_of_ble_eq_true rfl, Nat.le_of_ble_eq_true rfl⟩ ?_
      refine r_dup dX9_rules_46 rfl ?_
      refine r_callIN (a := G.2.2) (as := []) (host := "StyleFixes") dX9_rules_47 mt_X6_init ml_X9_36 mi_X6_init rfl rfl rm_X9_rules_X6_init ⟨Nat.le_of_ble_eq_true rfl, Nat.le_of_ble_eq_true rfl⟩ (Nat.le_of_ble_eq_true rfl) (fun x hx => absurd hx List.not_mem_nil) (in_X6 (a := G.2.2) (by rw [jn_3]) (by rw [jn_2, if_pos rfl]) (Or.inr h635)) (fun r G2 I14 _ hq => ?_)
      obtain ⟨rfl, w6, n2, o2, s2, i2, z2⟩ := hq
      have hx : Gx G G2 := ⟨by omega, fun b hb => by
        have q := o2 b hb
        refine ⟨?_, ?_⟩
        · rw [q.1]; funext y; rw [jn_1, if_neg (by omega)]
        · rw [q.2.1, jn_2, if_neg (by omega)]⟩
      have f14 : ∀ a j, a < G.2.2 → I14 a j = I12 a j := fun a j q => by
        rw [(o2 a q).2.2]
        show (if a = G.2.2 then _ else I12 a j) = _
        rw [if_neg (by omega)]
      have hm2 := gxX9 hm hx
      show jOk E kX9_rules 50 [VR m, VI (T.length : Int)] [VR G.2.2, VR m] G2 I14 _ _
      refine rr_putM (jj := 2) dX9_rules_50 fp_X9_46 rfl rfl (wX9_l hm2) (wX9_s hm2) (by omega) (fun M eM => ?_)
      have fM : ∀ a j, a < G.2.2 → (a ≠ m ∨ j ≠ 2) → M a j = I12 a j := fun a j q0 q1 => by
        rw [← f14 a j q0]
        rcases q1 with q1 | q1
        · exact jr_na eM q1
        · exact jr_nj eM q1
      have fM8 : ∀ a j, a < G.2.2 → (a ≠ m ∨ j ≠ 2) → (a ≠ m + 195 ∨ (j ≠ 1 ∧ j ≠ 2 ∧ j ≠ 7)) → M a j = I8 a j := fun a j q0 q1 q2 => by rw [fM a j q0 q1, tf12 a j q2]
      have mn := hm.1
      have x1 : M (m + 195) 1 = δ := by rw [fM _ _ (by omega) (by omega)]; exact t1
      have xRM : RU δ (ruB B T rl) M := xR8.fr (fun a j a0 a1 => fM8 a j (by omega) (by omega) (by omega))
      refine r_aload_n dX9_rules_53 rfl (i := 0) rfl ?_
      refine rr_getR (b := (m + 195)) dX9_rules_54 fg_X9_59 rfl rfl (wX9_l hm2) (wX9_s hm2) (wX9_r4 hm2) ?_
      refine rr_getM (b := δ) dX9_rules_57 fg_X9_117 rfl rfl (wX7_l (wX9_o4 hm2)) (wX7_s (wX9_o4 hm2)) x1 ?_
      refine rr_getI (v := (rl.length : Int)) dX9_rules_60 fg_X9_120 rfl (wX6_l (gxX6 hδ hx)) (wX6_s (gxX6 hδ hx)) (by show M δ 1 = _; rw [xRM.1, ru_4]) ?_
      refine r_iret dX9_rules_63 rfl ⟨by omega, by omega⟩ ⟨Nat.le_of_ble_eq_true rfl, Nat.le_of_ble_eq_true rfl⟩ ⟨_, rfl, fun b hb => ?_, hx, fun p e' => (by cases e'), fun rl' e' => ?_⟩
      · rw [← hFI12 b hb]
        funext j
        unfold jB at hb
        exact fM b j (by omega) (by omega)
      · injection e' with e'
        subst e'
        have u : ∀ j, j ≠ 4 → j ≠ 7 → ¬ (426 ≤ j ∧ j < 442) → j < 514 → ruB B T rl j = B j := fun j a b d g => by
          unfold ruB
          rw [if_neg a, if_neg b, if_neg d, if_neg (by omega), if_neg (by omega)]
        refine ⟨rfl, by omega, ⟨⟨h0, hm2, w6, jr_eq eM, Or.inr (Or.inr h635)⟩, ⟨⟨(g5.1.1.congr (fun j hj => u j (by omega) (by omega) (by omega) (by omega))).fr (fun a j qa => fM8 a j (by omega) (by omega) (by omega)), (g5.1.2.congr (fun j hj => u j (by omega) (by omega) (by omega) (by omega))).fr (fun a j qa => fM8 a j (by omega) (by omega) (by omega))⟩, ⟨δ, x1, gxX6 hδ hx, h4, Or.inl hδn, xRM⟩, ?_, ⟨?_, ?_, ⟨?_, ?_, ?_⟩, fun k k0 k1 => ?_⟩, (g5.2.2.2.2.congr (fun j hj => u j (by omega) (by omega) (by omega) (by omega))).fr (fun a j qa => fM8 a j (by omega) (by omega) (by omega))⟩, HSx g6 hx (fun b j q => fM8 b j (by omega) (by omega) (by omega)), STx g7 hx (fun b j q => fM8 b j (by omega) (by omega) (by omega)), HSx g8 hx (fun b j q => fM8 b j (by omega) (by omega) (by omega)), ⟨?_, by simp, fun i hi => absurd hi (Nat.not_lt_zero i)⟩, ?_, ?_⟩, CK.zero (z8.fr (fun j hj => fM8 m j (by omega) (by omega) (by omega)))⟩
        · rw [fM _ _ (by omega) (by omega), t2, ru_4, show ((rl.length : Int)).toNat = rl.length by omega]
          exact (onB_all rl.length hl6 (fun r hr => (ru_hd hr hl6).2.1)).symm
        · rw [fM8 _ _ (by omega) (by omega) (by omega), u 5 (by omega) (by omega) (by omega) (by omega)]; exact g5.2.2.2.1.1
        · rw [fM8 _ _ (by omega) (by omega) (by omega), u 6 (by omega) (by omega) (by omega) (by omega)]; exact g5.2.2.2.1.2.1
        · rw [fM _ _ (by omega) (by omega), t7]; rfl
        · show (0 : Int) ≤ 0; omega
        · show (0 : Int) ≤ 8; omega
        · have : ruB B T rl 7 = 0 := rfl
          omega
        · rw [fM8 _ _ (by omega) (by omega) (by omega)]; exact g9.1
        · rw [fM8 _ _ (by omega) (by omega) (by omega)]; exact g10
        · rw [fM8 _ _ (by omega) (by omega) (by omega)]; exact g11
  · refine r_iconst (n := (-1)) dX9_rules_25 ?_
    refine r_iret dX9_rules_26 rfl ⟨by decide, by decide⟩ ⟨Nat.zero_le _, Nat.zero_le _⟩ ⟨_, rfl, hFI5, ⟨Nat.le_refl _, fun b _ => ⟨rfl, rfl⟩⟩, fun p e' => ?_, fun rl e' => ?_⟩
    · obtain ⟨x1, x4, x5⟩ := te p e'
      refine ⟨rfl, rfl, cs5 _ _ x4 x5, ?_⟩
      obtain ⟨k1, k2, k3⟩ := hk
      refine ⟨fun q => ?_, fun q => ?_, fun q => ?_⟩
      · rw [f5m 10 (by omega)] at q
        obtain ⟨ρ, y1, y2, y3⟩ := k1 q
        clear k1 k2 k3
        exact ⟨ρ, y1.fr (fun a j qa => f5 a j (by omega) (by omega) (by omega)), y2, y3⟩
      · rw [f5m 13 (by omega)] at q
        have y := k2 q
        clear k1 k2 k3
        exact y.fr (fun a j qa qb => f5 a j (by omega) (by omega) (by omega))
      · rw [f5m 15 (by omega)] at q
        rw [f5m 14 (by omega)]
        exact k3 q
    · have := (tok rl e').1
      omega
end CR
