/-! ===== the class: the set is weighed and picked ===== -/
section CK
variable {X : Int → Int} {co lv : Int} {sc : Int → Int → Int}
theorem NF0 : 0 ≤ NF X := by show (0 : Int) ≤ ((FL X).length : Int); omega
theorem FFx.fTm (h : FFx X) (hQ : QW X) {f g : Int} (f0 : 0 ≤ f) (fg : f ≤ g) (g1 : g < NF X) : fT X f ≤ fT X g := by
  have b := (f_bd hQ (FLok hQ) (f := g) (by omega) g1).2.2.2.2.2.1
  have a := (h.mem (t := fT X g + 1) (by omega) (by omega) (f := g) (by omega) g1).mp (by omega)
  have := (h.mem (t := fT X g + 1) (by omega) (by omega) (f := f) f0 (by omega)).mpr (by omega)
  omega
theorem FFx.fNt (h : FFx X) (hQ : QW X) {f : Int} (f0 : 0 ≤ f) (f1 : f < NF X) (h1 : fN X f < NF X) : fA X f ≤ fT X (fN X f) := by
  have b := fA_bd hQ f0 f1
  have n := fN_is (S := X) f0 f1
  rcases Int.lt_or_le (fT X (fN X f)) (fA X f) with q | q
  · have := (h.mem (t := fA X f) (by omega) (by omega) (f := fN X f) (by omega) h1).mp q
    rw [fN_ff hQ h f0 f1] at this
    omega
  · exact q
theorem SDP.bdT (hs : SDP (NF X) (fV X) (fFr X) (fN X) co lv sc) (h : FFx X) (hQ : QW X) (hco : co = 0 ∨ co = 1) : ∀ (d : Nat) (f k t : Int), 0 ≤ f → f ≤ NF X → NF X ≤ f + d → 0 ≤ k → k ≤ lv → t ≤ nT X → (f < NF X → t ≤ fT X f) → 0 ≤ sc f k ∧ sc f k ≤ 2534400 * (nT X - t) := by
  intro d
  induction d with
  | zero =>
    intro f k t f0 f1 hd k0 k1 t1 ht
    have e : f = NF X := by omega
    rw [e, hs.1 k k0 k1]
    omega
  | succ d ih =>
    intro f k t f0 f1 hd k0 k1 t1 ht
    by_cases q : f < NF X
    · by_cases kz : k = 0
      · rw [kz, hs.2.1 f f0 f1]
        omega
      · have g := hs.2.2 f f0 q k (by omega) k1
        have b := fA_bd hQ f0 q
        have n := fN_is (S := X) f0 q
        have v := fV_bd hQ (FLok hQ) f0 q
        have ht' := ht q
        have i1 := ih (f + 1) k t (by omega) (by omega) (by omega) k0 k1 t1 (fun q2 => by have := h.fTm hQ f0 (show f ≤ f + 1 by omega) q2; omega)
        have i2 := ih (fN X f) (k - co) (fA X f) (by omega) (by omega) (by omega) (by omega) (by omega) (by omega) (fun q2 => h.fNt hQ f0 q q2)
        by_cases w : fFr X f
        · have := g.2 w; omega
        · have := g.1 w; omega
    · have e : f = NF X := by omega
      rw [e, hs.1 k k0 k1]
      omega
theorem SDP.bdt (hs : SDP (NF X) (fV X) (fFr X) (fN X) co lv sc) (h : FFx X) (hQ : QW X) (hco : co = 0 ∨ co = 1) {t k : Int} (t0 : 0 ≤ t) (t1 : t ≤ nT X) (k0 : 0 ≤ k) (k1 : k ≤ lv) : 0 ≤ sc (ffT X t) k ∧ sc (ffT X t) k ≤ 2534400 * (nT X - t) := by
  have b := h.bd t0 t1
  refine hs.bdT h hQ hco (NF X - ffT X t).toNat (ffT X t) k t b.1 b.2 (by omega) k0 k1 t1 (fun q => ?_)
  rcases Int.lt_or_le (fT X (ffT X t)) t with g | g
  · have := (h.mem t0 t1 b.1 q).mp g
    omega
  · exact g
end CK
theorem mkF_0 {X : Int → Int} {f : Int} : mkF X f = 0 ↔ fFr X f := by
  have a := jI_01 (P := fSi X f)
  have b := jI_01 (P := fYi X f)
  unfold mkF
  constructor
  · intro h
    have s : ¬ fSi X f := jI_n (by omega)
    have y : ¬ fYi X f := jI_n (by omega)
    exact ⟨s, y⟩
  · intro h
    have s : ¬ fSi X f := h.1
    have y : ¬ fYi X f := h.2
    rw [jI_neg s, jI_neg y]
    rfl
set_option maxRecDepth 20000 in
theorem st_X1_gain_0 {E : jE} {G : jG} {I : jM} {q : Int → jM → Prop} {m : Nat} {x1 : Int} {x2 : Int} (hm : WX1 G m) (hT : (∀ a j, jRg (G.2.1 a).1 (I a j)) → jIn x1 → jIn x2 → ((0 : Int) ≤ x1 ∧ (x1 : Int) < 1200) ∧ ((0 : Int) ≤ x1 ∧ (x1 : Int) < 1200) ∧ ((0 : Int) ≤ (((I (m + 7) x1) * 21) + x2) ∧ ((((I (m + 7) x1) * 21) + x2) : Int) < 4221) ∧ jIn ((((I (m + 9) x1) * 256) - 1) + (I (m + 12) (((I (m + 7) x1) * 21) + x2))) ∧ q ((((I (m + 9) x1) * 256) - 1) + (I (m + 12) (((I (m + 7) x1) * 21) + x2))) I) : jOI E jB kX1_gain 0 [VR m, VI x1, VI x2] G I q := by
  intro I0 hF
  refine jOk_mem (fun hI => ?_)
  refine jOk_in (i := 1) rfl (fun hx1 => ?_)
  refine jOk_in (i := 2) rfl (fun hx2 => ?_)
  replace hT := hT hI hx1 hx2
  refine r_aload_n dX1_gain_0 rfl (i := 0) rfl ?_
  refine rr_getR (b := (m + 9)) dX1_gain_1 fg_X1_35 rfl rfl (wX1_l hm) (wX1_s hm) (wX1_r10 hm) ?_
  refine r_iload_n dX1_gain_4 rfl (i := 1) rfl ?_
  obtain ⟨hc1, hT⟩ := hT
  refine rr_iaload (v := I (m + 9) x1) dX1_gain_5 (wX1_l10 hm) (wX1_a10 hm) (by decide) hc1 rfl ?_
  refine r_sipush (n := 256) dX1_gain_6 (by decide +kernel) ?_
  refine r_imul dX1_gain_9 ?_
  refine r_iconst (n := 1) dX1_gain_10 ?_
  refine r_isub dX1_gain_11 ?_
  refine r_aload_n dX1_gain_12 rfl (i := 0) rfl ?_
  refine rr_getR (b := (m + 12)) dX1_gain_13 fg_X1_44 rfl rfl (wX1_l hm) (wX1_s hm) (wX1_r13 hm) ?_
  refine r_aload_n dX1_gain_16 rfl (i := 0) rfl ?_
  refine rr_getR (b := (m + 7)) dX1_gain_17 fg_X1_29 rfl rfl (wX1_l hm) (wX1_s hm) (wX1_r8 hm) ?_
  refine r_iload_n dX1_gain_20 rfl (i := 1) rfl ?_
  obtain ⟨hc2, hT⟩ := hT
  refine rr_iaload (v := I (m + 7) x1) dX1_gain_21 (wX1_l8 hm) (wX1_a8 hm) (by decide) hc2 rfl ?_
  refine r_bipush (n := 21) dX1_gain_22 (by decide +kernel) ?_
  refine r_imul dX1_gain_24 ?_
  refine r_iload_n dX1_gain_25 rfl (i := 2) rfl ?_
  refine r_iadd dX1_gain_26 ?_
  obtain ⟨hc3, hT⟩ := hT
  refine rr_iaload (v := I (m + 12) (((I (m + 7) x1) * 21) + x2)) dX1_gain_27 (wX1_l13 hm) (wX1_a13 hm) (by decide) hc3 rfl ?_
  refine r_iadd dX1_gain_28 ?_
  obtain ⟨hc4, hT⟩ := hT
  exact r_iret dX1_gain_29 rfl hc4 ⟨Nat.zero_le _, Nat.zero_le _⟩ ⟨_, rfl, rfl, hF, hT⟩
theorem en_X1_gain {E : jE} {G : jG} {I : jM} {q : Int → jM → Prop} {m : Nat} {x1 : Int} {x2 : Int} (hm : WX1 G m) (hT : (∀ a j, jRg (G.2.1 a).1 (I a j)) → jIn x1 → jIn x2 → ((0 : Int) ≤ x1 ∧ (x1 : Int) < 1200) ∧ ((0 : Int) ≤ x1 ∧ (x1 : Int) < 1200) ∧ ((0 : Int) ≤ (((I (m + 7) x1) * 21) + x2) ∧ ((((I (m + 7) x1) * 21) + x2) : Int) < 4221) ∧ jIn ((((I (m + 9) x1) * 256) - 1) + (I (m + 12) (((I (m + 7) x1) * 21) + x2))) ∧ q ((((I (m + 9) x1) * 256) - 1) + (I (m + 12) (((I (m + 7) x1) * 21) + x2))) I) : jRI E jB kX1_gain [VR m, VI x1, VI x2] G I q := jRun.of mt_X1_gain.2.2.2 0 rfl (fun _ => st_X1_gain_0 hm hT I (fun _ _ => rfl))
set_option maxRecDepth 20000 in
theorem st_X1_weigh_88 {E : jE} {G : jG} {I : jM} {q : jM → Prop} {m : Nat} {x1 : Int} {x2 : Int} {x3 : Int} {x4 : Int} {x5 : Int} {x6 : Int} (hm : WX1 G m) (hT : (∀ a j, jRg (G.2.1 a).1 (I a j)) → jIn x1 → jIn x2 → jIn x3 → jIn x4 → jIn x5 → jIn x6 → ((0 : Int) ≤ (x3 + 1) ∧ ((x3 + 1) : Int) < 201) ∧ (((I (m + 11) (x3 + 1)) ≤ x6 → ((0 : Int) ≤ ((x3 * 21) + x4) ∧ (((x3 * 21) + x4) : Int) < 4221) ∧ (∀ M3, M3 = jup I (m + 12) ((x3 * 21) + x4) x5 → jIn (x4 + 1) ∧ jOV E jB kX1_weigh 58 [VR m, VI x1, VI x2, VI x3, VI (x4 + 1), VN, VN] G M3 q)) ∧ (¬ (I (m + 11) (x3 + 1)) ≤ x6 → ((0 : Int) ≤ x6 ∧ (x6 : Int) < 1200) ∧ ((¬ (I (m + 10) x6) = 0 → jIn (x6 + 1) ∧ jOV E jB kX1_weigh 88 [VR m, VI x1, VI x2, VI x3, VI x4, VI x5, VI (x6 + 1)] G I q) ∧ ((I (m + 10) x6) = 0 → jIn (x4 - x2) ∧ jRI E jB kX1_gain [VR m, VI x6, VI (x4 - x2)] G I (fun r9 I8 => jIn (x6 + 1) ∧ jOV E jB kX1_weigh 88 [VR m, VI x1, VI x2, VI x3, VI x4, VI (max x5 r9), VI (x6 + 1)] G I8 q)))))) : jOV E jB kX1_weigh 88 [VR m, VI x1, VI x2, VI x3, VI x4, VI x5, VI x6] G I q := by
  intro I0 hF
  refine jOk_mem (fun hI => ?_)
  refine jOk_in (i := 1) rfl (fun hx1 => ?_)
  refine jOk_in (i := 2) rfl (fun hx2 => ?_)
  refine jOk_in (i := 3) rfl (fun hx3 => ?_)
  refine jOk_in (i := 4) rfl (fun hx4 => ?_)
  refine jOk_in (i := 5) rfl (fun hx5 => ?_)
  refine jOk_in (i := 6) rfl (fun hx6 => ?_)
  replace hT := hT hI hx1 hx2 hx3 hx4 hx5 hx6
  refine r_iload dX1_weigh_88 (i := 6) rfl ?_
  refine r_aload_n dX1_weigh_90 rfl (i := 0) rfl ?_
  refine rr_getR (b := (m + 11)) dX1_weigh_91 fg_X1_41 rfl rfl (wX1_l hm) (wX1_s hm) (wX1_r12 hm) ?_
  refine r_iload_n dX1_weigh_94 rfl (i := 3) rfl ?_
  refine r_iconst (n := 1) dX1_weigh_95 ?_
  refine r_iadd dX1_weigh_96 ?_
  obtain ⟨hc1, hT⟩ := hT
  refine rr_iaload (v := I (m + 11) (x3 + 1)) dX1_weigh_97 (wX1_l12 hm) (wX1_a12 hm) (by decide) hc1 rfl ?_
  refine r_icmp_ge (tgt := 134) dX1_weigh_98 rfl hx6 (hI _ _).inR (fun hcc => ?_) (fun hcc => ?_)
  · replace hT := hT.1 hcc
    refine r_aload_n dX1_weigh_134 rfl (i := 0) rfl ?_
    refine rr_getR (b := (m + 12)) dX1_weigh_135 fg_X1_44 rfl rfl (wX1_l hm) (wX1_s hm) (wX1_r13 hm) ?_
    refine r_iload_n dX1_weigh_138 rfl (i := 3) rfl ?_
    refine r_bipush (n := 21) dX1_weigh_139 (by decide +kernel) ?_
    refine r_imul dX1_weigh_141 ?_
    refine r_iload dX1_weigh_142 (i := 4) rfl ?_
    refine r_iadd dX1_weigh_144 ?_
    refine r_iload dX1_weigh_145 (i := 5) rfl ?_
    obtain ⟨hc2, hT⟩ := hT
    refine rr_iastore dX1_weigh_147 (wX1_l13 hm) (wX1_a13 hm) (by decide) hc2 hx5 (fun M3 eM3 => ?_)
    have hFM3 := jFr_up hF eM3 (wX1_f hm 12 (by decide))
    replace hT := hT M3 eM3
    refine jOk_mem (fun hIM3 => ?_)
    obtain ⟨hc4, hT⟩ := hT
    refine rr_iinc (i := 4) (ls' := [VR m, VI x1, VI x2, VI x3, VI (x4 + 1), VI x5, VI x6]) dX1_weigh_148 rfl (Nat.le_of_ble_eq_true rfl) rfl rfl hc4 ?_
    refine r_goto (tgt := 58) dX1_weigh_151 rfl ?_
    exact jOk_le (ls' := [VR m, VI x1, VI x2, VI x3, VI (x4 + 1), VN, VN]) ⟨Or.inr rfl, Or.inr rfl, Or.inr rfl, Or.inr rfl, Or.inr rfl, Or.inl rfl, Or.inl rfl, trivial⟩ (hT I0 hFM3)
  · replace hT := hT.2 hcc
    refine r_aload_n dX1_weigh_101 rfl (i := 0) rfl ?_
    refine rr_getR (b := (m + 10)) dX1_weigh_102 fg_X1_38 rfl rfl (wX1_l hm) (wX1_s hm) (wX1_r11 hm) ?_
    refine r_iload dX1_weigh_105 (i := 6) rfl ?_
    obtain ⟨hc5, hT⟩ := hT
    refine rr_iaload (v := I (m + 10) x6) dX1_weigh_107 (wX1_l11 hm) (wX1_a11 hm) (by decide) hc5 rfl ?_
    refine r_if_ne (tgt := 128) dX1_weigh_108 rfl (hI _ _).inR (fun hcc => ?_) (fun hcc => ?_)
    · replace hT := hT.1 hcc
      obtain ⟨hc6, hT⟩ := hT
      refine rr_iinc (i := 6) (ls' := [VR m, VI x1, VI x2, VI x3, VI x4, VI x5, VI (x6 + 1)]) dX1_weigh_128 rfl (Nat.le_of_ble_eq_true rfl) rfl rfl hc6 ?_
      refine r_goto (tgt := 88) dX1_weigh_131 rfl ?_
      exact hT I0 hF
    · replace hT := hT.2 hcc
      refine r_iload dX1_weigh_111 (i := 5) rfl ?_
      refine r_aload_n dX1_weigh_113 rfl (i := 0) rfl ?_
      refine r_iload dX1_weigh_114 (i := 6) rfl ?_
      refine r_iload dX1_weigh_116 (i := 4) rfl ?_
      refine r_iload_n dX1_weigh_118 rfl (i := 2) rfl ?_
      refine r_isub dX1_weigh_119 ?_
      obtain ⟨hc7, hT⟩ := hT
      refine rr_cVI (a := m) (as := [VI x6, VI (x4 - x2)]) (st := [VI x5]) dX1_weigh_120 mt_X1_gain ml_X1_199 mi_X1_gain rm_X1_weigh_X1_gain jz_X1_gain ⟨Nat.zero_le _, Nat.zero_le _⟩ (Nat.le_of_ble_eq_true rfl) (wX1_l hm) (wX1_c hm) (jasI hx6 (jasI hc7 jas0)) hT (fun r9 I8 hc10 hFI8 hT => ?_)
      replace hFI8 := jFr_tr hF hFI8
      refine jOk_mem (fun hI8 => ?_)
      have hc11 : jIn (max x5 r9) := j_max hx5 hc10
      refine r_mmax (st := []) dX1_weigh_123 ml_X1_179 w_max ⟨Nat.le_of_ble_eq_true rfl, Nat.le_of_ble_eq_true rfl⟩ ⟨Nat.zero_le _, Nat.zero_le _⟩ hx5 hc10 ?_
      refine rr_istore (i := 5) (ls' := [VR m, VI x1, VI x2, VI x3, VI x4, VI (max x5 r9), VI x6]) dX1_weigh_126 (Nat.le_of_ble_eq_true rfl) rfl rfl hc11 ?_
      obtain ⟨hc12, hT⟩ := hT
      refine rr_iinc (i := 6) (ls' := [VR m, VI x1, VI x2, VI x3, VI x4, VI (max x5 r9), VI (x6 + 1)]) dX1_weigh_128 rfl (Nat.le_of_ble_eq_true rfl) rfl rfl hc12 ?_
      refine r_goto (tgt := 88) dX1_weigh_131 rfl ?_
      exact hT I0 hFI8
set_option maxRecDepth 20000 in
theorem st_X1_weigh_58 {E : jE} {G : jG} {I : jM} {q : jM → Prop} {m : Nat} {x1 : Int} {x2 : Int} {x3 : Int} {x4 : Int} (hm : WX1 G m) (hT : (∀ a j, jRg (G.2.1 a).1 (I a j)) → jIn x1 → jIn x2 → jIn x3 → jIn x4 → ((x1 < x4 → jIn (x3 + (-1)) ∧ jOV E jB kX1_weigh 41 [VR m, VI x1, VI x2, VI (x3 + (-1)), VN, VN, VN] G I q) ∧ (¬ x1 < x4 → ((0 : Int) ≤ (((x3 + 1) * 21) + x4) ∧ ((((x3 + 1) * 21) + x4) : Int) < 4221) ∧ ((0 : Int) ≤ x3 ∧ (x3 : Int) < 201) ∧ jOV E jB kX1_weigh 88 [VR m, VI x1, VI x2, VI x3, VI x4, VI (I (m + 12) (((x3 + 1) * 21) + x4)), VI (I (m + 11) x3)] G I q))) : jOV E jB kX1_weigh 58 [VR m, VI x1, VI x2, VI x3, VI x4, VN, VN] G I q := by
  intro I0 hF
  refine jOk_mem (fun hI => ?_)
  refine jOk_in (i := 1) rfl (fun hx1 => ?_)
  refine jOk_in (i := 2) rfl (fun hx2 => ?_)
  refine jOk_in (i := 3) rfl (fun hx3 => ?_)
  refine jOk_in (i := 4) rfl (fun hx4 => ?_)
  replace hT := hT hI hx1 hx2 hx3 hx4
  refine r_iload dX1_weigh_58 (i := 4) rfl ?_
  refine r_iload_n dX1_weigh_60 rfl (i := 1) rfl ?_
  refine r_icmp_gt (tgt := 154) dX1_weigh_61 rfl hx4 hx1 (fun hcc => ?_) (fun hcc => ?_)
  · replace hT := hT.1 hcc
    obtain ⟨hc1, hT⟩ := hT
    refine rr_iinc (i := 3) (ls' := [VR m, VI x1, VI x2, VI (x3 + (-1)), VI x4, VN, VN]) dX1_weigh_154 rfl (Nat.le_of_ble_eq_true rfl) rfl rfl hc1 ?_
    refine r_goto (tgt := 41) dX1_weigh_157 rfl ?_
    exact jOk_le (ls' := [VR m, VI x1, VI x2, VI (x3 + (-1)), VN, VN, VN]) ⟨Or.inr rfl, Or.inr rfl, Or.inr rfl, Or.inr rfl, Or.inl rfl, Or.inl rfl, Or.inl rfl, trivial⟩ (hT I0 hF)
  · replace hT := hT.2 hcc
    refine r_aload_n dX1_weigh_64 rfl (i := 0) rfl ?_
    refine rr_getR (b := (m + 12)) dX1_weigh_65 fg_X1_44 rfl rfl (wX1_l hm) (wX1_s hm) (wX1_r13 hm) ?_
    refine r_iload_n dX1_weigh_68 rfl (i := 3) rfl ?_
    refine r_iconst (n := 1) dX1_weigh_69 ?_
    refine r_iadd dX1_weigh_70 ?_
    refine r_bipush (n := 21) dX1_weigh_71 (by decide +kernel) ?_
    refine r_imul dX1_weigh_73 ?_
    refine r_iload dX1_weigh_74 (i := 4) rfl ?_
    refine r_iadd dX1_weigh_76 ?_
    obtain ⟨hc2, hT⟩ := hT
    refine rr_iaload (v := I (m + 12) (((x3 + 1) * 21) + x4)) dX1_weigh_77 (wX1_l13 hm) (wX1_a13 hm) (by decide) hc2 rfl ?_
    refine rr_istore (i := 5) (ls' := [VR m, VI x1, VI x2, VI x3, VI x4, VI (I (m + 12) (((x3 + 1) * 21) + x4)), VN]) dX1_weigh_78 (Nat.le_of_ble_eq_true rfl) rfl rfl (hI _ _).inR ?_
    refine r_aload_n dX1_weigh_80 rfl (i := 0) rfl ?_
    refine rr_getR (b := (m + 11)) dX1_weigh_81 fg_X1_41 rfl rfl (wX1_l hm) (wX1_s hm) (wX1_r12 hm) ?_
    refine r_iload_n dX1_weigh_84 rfl (i := 3) rfl ?_
    obtain ⟨hc3, hT⟩ := hT
    refine rr_iaload (v := I (m + 11) x3) dX1_weigh_85 (wX1_l12 hm) (wX1_a12 hm) (by decide) hc3 rfl ?_
    refine rr_istore (i := 6) (ls' := [VR m, VI x1, VI x2, VI x3, VI x4, VI (I (m + 12) (((x3 + 1) * 21) + x4)), VI (I (m + 11) x3)]) dX1_weigh_86 (Nat.le_of_ble_eq_true rfl) rfl rfl (hI _ _).inR ?_
    exact hT I0 hF
set_option maxRecDepth 20000 in
theorem st_X1_weigh_41 {E : jE} {G : jG} {I : jM} {q : jM → Prop} {m : Nat} {x1 : Int} {x2 : Int} {x3 : Int} (hm : WX1 G m) (hT : (∀ a j, jRg (G.2.1 a).1 (I a j)) → jIn x1 → jIn x2 → jIn x3 → ((x3 < 0 → q I) ∧ (¬ x3 < 0 → ((0 : Int) ≤ (x3 * 21) ∧ ((x3 * 21) : Int) < 4221) ∧ (∀ M2, M2 = jup I (m + 12) (x3 * 21) 0 → jOV E jB kX1_weigh 58 [VR m, VI x1, VI x2, VI x3, VI 1, VN, VN] G M2 q)))) : jOV E jB kX1_weigh 41 [VR m, VI x1, VI x2, VI x3, VN, VN, VN] G I q := by
  intro I0 hF
  refine jOk_mem (fun hI => ?_)
  refine jOk_in (i := 1) rfl (fun hx1 => ?_)
  refine jOk_in (i := 2) rfl (fun hx2 => ?_)
  refine jOk_in (i := 3) rfl (fun hx3 => ?_)
  replace hT := hT hI hx1 hx2 hx3
  refine r_iload_n dX1_weigh_41 rfl (i := 3) rfl ?_
  refine r_if_lt (tgt := 160) dX1_weigh_42 rfl hx3 (fun hcc => ?_) (fun hcc => ?_)
  · replace hT := hT.1 hcc
    exact r_vret dX1_weigh_160 rfl ⟨Nat.zero_le _, Nat.zero_le _⟩ ⟨rfl, rfl, hF, hT⟩
  · replace hT := hT.2 hcc
    refine r_aload_n dX1_weigh_45 rfl (i := 0) rfl ?_
    refine rr_getR (b := (m + 12)) dX1_weigh_46 fg_X1_44 rfl rfl (wX1_l hm) (wX1_s hm) (wX1_r13 hm) ?_
    refine r_iload_n dX1_weigh_49 rfl (i := 3) rfl ?_
    refine r_bipush (n := 21) dX1_weigh_50 (by decide +kernel) ?_
    refine r_imul dX1_weigh_52 ?_
    refine r_iconst (n := 0) dX1_weigh_53 ?_
    obtain ⟨hc1, hT⟩ := hT
    refine rr_iastore dX1_weigh_54 (wX1_l13 hm) (wX1_a13 hm) (by decide) hc1 ⟨by decide, by decide⟩ (fun M2 eM2 => ?_)
    have hFM2 := jFr_up hF eM2 (wX1_f hm 12 (by decide))
    replace hT := hT M2 eM2
    refine jOk_mem (fun hIM2 => ?_)
    refine r_iconst (n := 1) dX1_weigh_55 ?_
    refine rr_istore (i := 4) (ls' := [VR m, VI x1, VI x2, VI x3, VI 1, VN, VN]) dX1_weigh_56 (Nat.le_of_ble_eq_true rfl) rfl rfl ⟨by decide, by decide⟩ ?_
    exact hT I0 hFM2
set_option maxRecDepth 20000 in
theorem st_X1_weigh_2 {E : jE} {G : jG} {I : jM} {q : jM → Prop} {m : Nat} {x1 : Int} {x2 : Int} {x3 : Int} (hm : WX1 G m) (hT : (∀ a j, jRg (G.2.1 a).1 (I a j)) → jIn x1 → jIn x2 → jIn x3 → ((x1 < x3 → jIn ((I (m + 1) 2) - 1) ∧ jOV E jB kX1_weigh 41 [VR m, VI x1, VI x2, VI ((I (m + 1) 2) - 1), VN, VN, VN] G I q) ∧ (¬ x1 < x3 → ((0 : Int) ≤ (((I (m + 1) 2) * 21) + x3) ∧ ((((I (m + 1) 2) * 21) + x3) : Int) < 4221) ∧ (∀ M3, M3 = jup I (m + 12) (((I (m + 1) 2) * 21) + x3) 0 → jIn (x3 + 1) ∧ jOV E jB kX1_weigh 2 [VR m, VI x1, VI x2, VI (x3 + 1), VN, VN, VN] G M3 q)))) : jOV E jB kX1_weigh 2 [VR m, VI x1, VI x2, VI x3, VN, VN, VN] G I q := by
  intro I0 hF
  refine jOk_mem (fun hI => ?_)
  refine jOk_in (i := 1) rfl (fun hx1 => ?_)
  refine jOk_in (i := 2) rfl (fun hx2 => ?_)
  refine jOk_in (i := 3) rfl (fun hx3 => ?_)
  replace hT := hT hI hx1 hx2 hx3
  refine r_iload_n dX1_weigh_2 rfl (i := 3) rfl ?_
  refine r_iload_n dX1_weigh_3 rfl (i := 1) rfl ?_
  refine r_icmp_gt (tgt := 31) dX1_weigh_4 rfl hx3 hx1 (fun hcc => ?_) (fun hcc => ?_)
  · replace hT := hT.1 hcc
    refine r_aload_n dX1_weigh_31 rfl (i := 0) rfl ?_
    refine rr_getR (b := (m + 1)) dX1_weigh_32 fg_X1_12 rfl rfl (wX1_l hm) (wX1_s hm) (wX1_r2 hm) ?_
    refine rr_getI (v := I (m + 1) 2) dX1_weigh_35 fg_X1_70 rfl (wX8_l (wX1_o2 hm)) (wX8_s (wX1_o2 hm)) rfl ?_
    refine r_iconst (n := 1) dX1_weigh_38 ?_
    refine r_isub dX1_weigh_39 ?_
    obtain ⟨hc1, hT⟩ := hT
    refine rr_istore_n (i := 3) (ls' := [VR m, VI x1, VI x2, VI ((I (m + 1) 2) - 1), VN, VN, VN]) dX1_weigh_40 rfl (Nat.le_of_ble_eq_true rfl) rfl rfl hc1 ?_
    exact hT I0 hF
  · replace hT := hT.2 hcc
    refine r_aload_n dX1_weigh_7 rfl (i := 0) rfl ?_
    refine rr_getR (b := (m + 12)) dX1_weigh_8 fg_X1_44 rfl rfl (wX1_l hm) (wX1_s hm) (wX1_r13 hm) ?_
    refine r_aload_n dX1_weigh_11 rfl (i := 0) rfl ?_
    refine rr_getR (b := (m + 1)) dX1_weigh_12 fg_X1_12 rfl rfl (wX1_l hm) (wX1_s hm) (wX1_r2 hm) ?_
    refine rr_getI (v := I (m + 1) 2) dX1_weigh_15 fg_X1_70 rfl (wX8_l (wX1_o2 hm)) (wX8_s (wX1_o2 hm)) rfl ?_
    refine r_bipush (n := 21) dX1_weigh_18 (by decide +kernel) ?_
    refine r_imul dX1_weigh_20 ?_
    refine r_iload_n dX1_weigh_21 rfl (i := 3) rfl ?_
    refine r_iadd dX1_weigh_22 ?_
    refine r_iconst (n := 0) dX1_weigh_23 ?_
    obtain ⟨hc2, hT⟩ := hT
    refine rr_iastore dX1_weigh_24 (wX1_l13 hm) (wX1_a13 hm) (by decide) hc2 ⟨by decide, by decide⟩ (fun M3 eM3 => ?_)
    have hFM3 := jFr_up hF eM3 (wX1_f hm 12 (by decide))
    replace hT := hT M3 eM3
    refine jOk_mem (fun hIM3 => ?_)
    obtain ⟨hc4, hT⟩ := hT
    refine rr_iinc (i := 3) (ls' := [VR m, VI x1, VI x2, VI (x3 + 1), VN, VN, VN]) dX1_weigh_25 rfl (Nat.le_of_ble_eq_true rfl) rfl rfl hc4 ?_
    refine r_goto (tgt := 2) dX1_weigh_28 rfl ?_
    exact hT I0 hFM3
set_option maxRecDepth 20000 in
theorem st_X1_weigh_0 {E : jE} {G : jG} {I : jM} {q : jM → Prop} {m : Nat} {x1 : Int} {x2 : Int} (hm : WX1 G m) (hT : (∀ a j, jRg (G.2.1 a).1 (I a j)) → jIn x1 → jIn x2 → jOV E jB kX1_weigh 2 [VR m, VI x1, VI x2, VI 0, VN, VN, VN] G I q) : jOV E jB kX1_weigh 0 [VR m, VI x1, VI x2, VN, VN, VN, VN] G I q := by
  intro I0 hF
  refine jOk_mem (fun hI => ?_)
  refine jOk_in (i := 1) rfl (fun hx1 => ?_)
  refine jOk_in (i := 2) rfl (fun hx2 => ?_)
  replace hT := hT hI hx1 hx2
  refine r_iconst (n := 0) dX1_weigh_0 ?_
  refine rr_istore_n (i := 3) (ls' := [VR m, VI x1, VI x2, VI 0, VN, VN, VN]) dX1_weigh_1 rfl (Nat.le_of_ble_eq_true rfl) rfl rfl ⟨by decide, by decide⟩ ?_
  exact hT I0 hF
theorem en_X1_weigh {E : jE} {G : jG} {I : jM} {q : jM → Prop} {m : Nat} {x1 : Int} {x2 : Int} (hm : WX1 G m) (hT : (∀ a j, jRg (G.2.1 a).1 (I a j)) → jIn x1 → jIn x2 → jOV E jB kX1_weigh 2 [VR m, VI x1, VI x2, VI 0, VN, VN, VN] G I q) : jRV E jB kX1_weigh [VR m, VI x1, VI x2] G I q := jRun.of mt_X1_weigh.2.2.2 4 rfl (fun _ => st_X1_weigh_0 hm hT I (fun _ _ => rfl))
set_option maxRecDepth 20000 in
theorem st_X1_firstBest_21 {E : jE} {G : jG} {I : jM} {q : Int → jM → Prop} {m : Nat} {x1 : Int} {x2 : Int} {x3 : Int} {x4 : Int} {x5 : Int} (hm : WX1 G m) (hT : (∀ a j, jRg (G.2.1 a).1 (I a j)) → jIn x1 → jIn x2 → jIn x3 → jIn x4 → jIn x5 → ((0 : Int) ≤ (x1 + 1) ∧ ((x1 + 1) : Int) < 201) ∧ (((I (m + 11) (x1 + 1)) ≤ x5 → q (-1) I) ∧ (¬ (I (m + 11) (x1 + 1)) ≤ x5 → ((0 : Int) ≤ x5 ∧ (x5 : Int) < 1200) ∧ ((¬ (I (m + 10) x5) = 0 → jIn (x5 + 1) ∧ jOI E jB kX1_firstBest 21 [VR m, VI x1, VI x2, VI x3, VI x4, VI (x5 + 1)] G I q) ∧ ((I (m + 10) x5) = 0 → jIn (x2 - x3) ∧ jRI E jB kX1_gain [VR m, VI x5, VI (x2 - x3)] G I (fun r6 I5 => ((¬ r6 = x4 → jIn (x5 + 1) ∧ jOI E jB kX1_firstBest 21 [VR m, VI x1, VI x2, VI x3, VI x4, VI (x5 + 1)] G I5 q) ∧ (r6 = x4 → q x5 I5)))))))) : jOI E jB kX1_firstBest 21 [VR m, VI x1, VI x2, VI x3, VI x4, VI x5] G I q := by
  intro I0 hF
  refine jOk_mem (fun hI => ?_)
  refine jOk_in (i := 1) rfl (fun hx1 => ?_)
  refine jOk_in (i := 2) rfl (fun hx2 => ?_)
  refine jOk_in (i := 3) rfl (fun hx3 => ?_)
  refine jOk_in (i := 4) rfl (fun hx4 => ?_)
  refine jOk_in (i := 5) rfl (fun hx5 => ?_)
  replace hT := hT hI hx1 hx2 hx3 hx4 hx5
  refine r_iload dX1_firstBest_21 (i := 5) rfl ?_
  refine r_aload_n dX1_firstBest_23 rfl (i := 0) rfl ?_
  refine rr_getR (b := (m + 11)) dX1_firstBest_24 fg_X1_41 rfl rfl (wX1_l hm) (wX1_s hm) (wX1_r12 hm) ?_
  refine r_iload_n dX1_firstBest_27 rfl (i := 1) rfl ?_
  refine r_iconst (n := 1) dX1_firstBest_28 ?_
  refine r_iadd dX1_firstBest_29 ?_
  obtain ⟨hc1, hT⟩ := hT
  refine rr_iaload (v := I (m + 11) (x1 + 1)) dX1_firstBest_30 (wX1_l12 hm) (wX1_a12 hm) (by decide) hc1 rfl ?_
  refine r_icmp_ge (tgt := 67) dX1_firstBest_31 rfl hx5 (hI _ _).inR (fun hcc => ?_) (fun hcc => ?_)
  · replace hT := hT.1 hcc
    refine r_iconst (n := (-1)) dX1_firstBest_67 ?_
    exact r_iret dX1_firstBest_68 rfl ⟨by decide, by decide⟩ ⟨Nat.zero_le _, Nat.zero_le _⟩ ⟨_, rfl, rfl, hF, hT⟩
  · replace hT := hT.2 hcc
    refine r_aload_n dX1_firstBest_34 rfl (i := 0) rfl ?_
    refine rr_getR (b := (m + 10)) dX1_firstBest_35 fg_X1_38 rfl rfl (wX1_l hm) (wX1_s hm) (wX1_r11 hm) ?_
    refine r_iload dX1_firstBest_38 (i := 5) rfl ?_
    obtain ⟨hc2, hT⟩ := hT
    refine rr_iaload (v := I (m + 10) x5) dX1_firstBest_40 (wX1_l11 hm) (wX1_a11 hm) (by decide) hc2 rfl ?_
    refine r_if_ne (tgt := 61) dX1_firstBest_41 rfl (hI _ _).inR (fun hcc => ?_) (fun hcc => ?_)
    · replace hT := hT.1 hcc
      obtain ⟨hc3, hT⟩ := hT
      refine rr_iinc (i := 5) (ls' := [VR m, VI x1, VI x2, VI x3, VI x4, VI (x5 + 1)]) dX1_firstBest_61 rfl (Nat.le_of_ble_eq_true rfl) rfl rfl hc3 ?_
      refine r_goto (tgt := 21) dX1_firstBest_64 rfl ?_
      exact hT I0 hF
    · replace hT := hT.2 hcc
      refine r_aload_n dX1_firstBest_44 rfl (i := 0) rfl ?_
      refine r_iload dX1_firstBest_45 (i := 5) rfl ?_
      refine r_iload_n dX1_firstBest_47 rfl (i := 2) rfl ?_
      refine r_iload_n dX1_firstBest_48 rfl (i := 3) rfl ?_
      refine r_isub dX1_firstBest_49 ?_
      obtain ⟨hc4, hT⟩ := hT
      refine rr_cVI (a := m) (as := [VI x5, VI (x2 - x3)]) (st := []) dX1_firstBest_50 mt_X1_gain ml_X1_199 mi_X1_gain rm_X1_firstBest_X1_gain jz_X1_gain ⟨Nat.zero_le _, Nat.zero_le _⟩ (Nat.le_of_ble_eq_true rfl) (wX1_l hm) (wX1_c hm) (jasI hx5 (jasI hc4 jas0)) hT (fun r6 I5 hc7 hFI5 hT => ?_)
      replace hFI5 := jFr_tr hF hFI5
      refine jOk_mem (fun hI5 => ?_)
      refine r_iload dX1_firstBest_53 (i := 4) rfl ?_
      refine r_icmp_ne (tgt := 61) dX1_firstBest_55 rfl hc7 hx4 (fun hcc => ?_) (fun hcc => ?_)
      · replace hT := hT.1 hcc
        obtain ⟨hc8, hT⟩ := hT
        refine rr_iinc (i := 5) (ls' := [VR m, VI x1, VI x2, VI x3, VI x4, VI (x5 + 1)]) dX1_firstBest_61 rfl (Nat.le_of_ble_eq_true rfl) rfl rfl hc8 ?_
        refine r_goto (tgt := 21) dX1_firstBest_64 rfl ?_
        exact hT I0 hFI5
      · replace hT := hT.2 hcc
        refine r_iload dX1_firstBest_58 (i := 5) rfl ?_
        exact r_iret dX1_firstBest_60 rfl hx5 ⟨Nat.zero_le _, Nat.zero_le _⟩ ⟨_, rfl, rfl, hFI5, hT⟩
set_option maxRecDepth 20000 in
theorem st_X1_firstBest_0 {E : jE} {G : jG} {I : jM} {q : Int → jM → Prop} {m : Nat} {x1 : Int} {x2 : Int} {x3 : Int} (hm : WX1 G m) (hT : (∀ a j, jRg (G.2.1 a).1 (I a j)) → jIn x1 → jIn x2 → jIn x3 → ((0 : Int) ≤ ((x1 * 21) + x2) ∧ (((x1 * 21) + x2) : Int) < 4221) ∧ ((0 : Int) ≤ x1 ∧ (x1 : Int) < 201) ∧ jOI E jB kX1_firstBest 21 [VR m, VI x1, VI x2, VI x3, VI (I (m + 12) ((x1 * 21) + x2)), VI (I (m + 11) x1)] G I q) : jOI E jB kX1_firstBest 0 [VR m, VI x1, VI x2, VI x3, VN, VN] G I q := by
  intro I0 hF
  refine jOk_mem (fun hI => ?_)
  refine jOk_in (i := 1) rfl (fun hx1 => ?_)
  refine jOk_in (i := 2) rfl (fun hx2 => ?_)
  refine jOk_in (i := 3) rfl (fun hx3 => ?_)
  replace hT := hT hI hx1 hx2 hx3
  refine r_aload_n dX1_firstBest_0 rfl (i := 0) rfl ?_
  refine rr_getR (b := (m + 12)) dX1_firstBest_1 fg_X1_44 rfl rfl (wX1_l hm) (wX1_s hm) (wX1_r13 hm) ?_
  refine r_iload_n dX1_firstBest_4 rfl (i := 1) rfl ?_
  refine r_bipush (n := 21) dX1_firstBest_5 (by decide +kernel) ?_
  refine r_imul dX1_firstBest_7 ?_
  refine r_iload_n dX1_firstBest_8 rfl (i := 2) rfl ?_
  refine r_iadd dX1_firstBest_9 ?_
  obtain ⟨hc1, hT⟩ := hT
  refine rr_iaload (v := I (m + 12) ((x1 * 21) + x2)) dX1_firstBest_10 (wX1_l13 hm) (wX1_a13 hm) (by decide) hc1 rfl ?_
  refine rr_istore (i := 4) (ls' := [VR m, VI x1, VI x2, VI x3, VI (I (m + 12) ((x1 * 21) + x2)), VN]) dX1_firstBest_11 (Nat.le_of_ble_eq_true rfl) rfl rfl (hI _ _).inR ?_
  refine r_aload_n dX1_firstBest_13 rfl (i := 0) rfl ?_
  refine rr_getR (b := (m + 11)) dX1_firstBest_14 fg_X1_41 rfl rfl (wX1_l hm) (wX1_s hm) (wX1_r12 hm) ?_
  refine r_iload_n dX1_firstBest_17 rfl (i := 1) rfl ?_
  obtain ⟨hc2, hT⟩ := hT
  refine rr_iaload (v := I (m + 11) x1) dX1_firstBest_18 (wX1_l12 hm) (wX1_a12 hm) (by decide) hc2 rfl ?_
  refine rr_istore (i := 5) (ls' := [VR m, VI x1, VI x2, VI x3, VI (I (m + 12) ((x1 * 21) + x2)), VI (I (m + 11) x1)]) dX1_firstBest_19 (Nat.le_of_ble_eq_true rfl) rfl rfl (hI _ _).inR ?_
  exact hT I0 hF
theorem en_X1_firstBest {E : jE} {G : jG} {I : jM} {q : Int → jM → Prop} {m : Nat} {x1 : Int} {x2 : Int} {x3 : Int} (hm : WX1 G m) (hT : (∀ a j, jRg (G.2.1 a).1 (I a j)) → jIn x1 → jIn x2 → jIn x3 → ((0 : Int) ≤ ((x1 * 21) + x2) ∧ (((x1 * 21) + x2) : Int) < 4221) ∧ ((0 : Int) ≤ x1 ∧ (x1 : Int) < 201) ∧ jOI E jB kX1_firstBest 21 [VR m, VI x1, VI x2, VI x3, VI (I (m + 12) ((x1 * 21) + x2)), VI (I (m + 11) x1)] G I q) : jRI E jB kX1_firstBest [VR m, VI x1, VI x2, VI x3] G I q := jRun.of mt_X1_firstBest.2.2.2 2 rfl (fun _ => st_X1_firstBest_0 hm hT I (fun _ _ => rfl))
set_option maxRecDepth 20000 in
theorem st_X1_pick_13 {E : jE} {G : jG} {I : jM} {q : jM → Prop} {m : Nat} {x1 : Int} {x2 : Int} {x3 : Int} {x4 : Int} {x5 : Int} (hm : WX1 G m) (hT : (∀ a j, jRg (G.2.1 a).1 (I a j)) → jIn x1 → jIn x2 → jIn x3 → jIn x4 → jIn x5 → (((I (m + 1) 2) ≤ x5 → q I) ∧ (¬ (I (m + 1) 2) ≤ x5 → ((x3 ≤ 0 → q I) ∧ (¬ x3 ≤ 0 → ((x4 ≤ x5 → jRI E jB kX1_firstBest [VR m, VI x5, VI x3, VI x2] G I (fun r2 I1 => ((r2 = (-1) → jIn (x5 + 1) ∧ jOV E jB kX1_pick 13 [VR m, VI x1, VI x2, VI x3, VI x4, VI (x5 + 1), VN] G I1 q) ∧ (¬ r2 = (-1) → ((0 : Int) ≤ (I1 m 15) ∧ ((I1 m 15) : Int) < 200) ∧ (∀ M6, M6 = jup I1 (m + 13) (I1 m 15) r2 → jIn ((I1 m 15) + 1) ∧ (∀ M7, M7 = jup M6 m 15 ((I1 m 15) + 1) → jIn (x3 - x2) ∧ ((0 : Int) ≤ r2 ∧ (r2 : Int) < 1200) ∧ jIn (x5 + 1) ∧ jOV E jB kX1_pick 13 [VR m, VI x1, VI x2, VI (x3 - x2), VI (I1 (m + 7) r2), VI (x5 + 1), VN] G M7 q)))))) ∧ (¬ x4 ≤ x5 → jIn (x5 + 1) ∧ jOV E jB kX1_pick 13 [VR m, VI x1, VI x2, VI x3, VI x4, VI (x5 + 1), VN] G I q))))))) : jOV E jB kX1_pick 13 [VR m, VI x1, VI x2, VI x3, VI x4, VI x5, VN] G I q := by
  intro I0 hF
  refine jOk_mem (fun hI => ?_)
  refine jOk_in (i := 1) rfl (fun hx1 => ?_)
  refine jOk_in (i := 2) rfl (fun hx2 => ?_)
  refine jOk_in (i := 3) rfl (fun hx3 => ?_)
  refine jOk_in (i := 4) rfl (fun hx4 => ?_)
  refine jOk_in (i := 5) rfl (fun hx5 => ?_)
  replace hT := hT hI hx1 hx2 hx3 hx4 hx5
  refine r_iload dX1_pick_13 (i := 5) rfl ?_
  refine r_aload_n dX1_pick_15 rfl (i := 0) rfl ?_
  refine rr_getR (b := (m + 1)) dX1_pick_16 fg_X1_12 rfl rfl (wX1_l hm) (wX1_s hm) (wX1_r2 hm) ?_
  refine rr_getI (v := I (m + 1) 2) dX1_pick_19 fg_X1_70 rfl (wX8_l (wX1_o2 hm)) (wX8_s (wX1_o2 hm)) rfl ?_
  refine r_icmp_ge (tgt := 96) dX1_pick_22 rfl hx5 (hI _ _).inR (fun hcc => ?_) (fun hcc => ?_)
  · replace hT := hT.1 hcc
    exact r_vret dX1_pick_96 rfl ⟨Nat.zero_le _, Nat.zero_le _⟩ ⟨rfl, rfl, hF, hT⟩
  · replace hT := hT.2 hcc
    refine r_iload_n dX1_pick_25 rfl (i := 3) rfl ?_
    refine r_if_le (tgt := 96) dX1_pick_26 rfl hx3 (fun hcc => ?_) (fun hcc => ?_)
    · replace hT := hT.1 hcc
      exact r_vret dX1_pick_96 rfl ⟨Nat.zero_le _, Nat.zero_le _⟩ ⟨rfl, rfl, hF, hT⟩
    · replace hT := hT.2 hcc
      refine r_iload dX1_pick_29 (i := 5) rfl ?_
      refine r_iload dX1_pick_31 (i := 4) rfl ?_
      refine r_icmp_ge (tgt := 40) dX1_pick_33 rfl hx5 hx4 (fun hcc => ?_) (fun hcc => ?_)
      · replace hT := hT.1 hcc
        refine r_aload_n dX1_pick_40 rfl (i := 0) rfl ?_
        refine r_iload dX1_pick_41 (i := 5) rfl ?_
        refine r_iload_n dX1_pick_43 rfl (i := 3) rfl ?_
        refine r_iload_n dX1_pick_44 rfl (i := 2) rfl ?_
        refine rr_cVI (a := m) (as := [VI x5, VI x3, VI x2]) (st := []) dX1_pick_45 mt_X1_firstBest ml_X1_202 mi_X1_firstBest rm_X1_pick_X1_firstBest jz_X1_firstBest ⟨Nat.zero_le _, Nat.zero_le _⟩ (Nat.le_of_ble_eq_true rfl) (wX1_l hm) (wX1_c hm) (jasI hx5 (jasI hx3 (jasI hx2 jas0))) hT (fun r2 I1 hc3 hFI1 hT => ?_)
        replace hFI1 := jFr_tr hF hFI1
        refine jOk_mem (fun hI1 => ?_)
        refine rr_istore (i := 6) (ls' := [VR m, VI x1, VI x2, VI x3, VI x4, VI x5, VI r2]) dX1_pick_48 (Nat.le_of_ble_eq_true rfl) rfl rfl hc3 ?_
        refine r_iload dX1_pick_50 (i := 6) rfl ?_
        refine r_iconst (n := (-1)) dX1_pick_52 ?_
        refine r_icmp_eq (tgt := 90) dX1_pick_53 rfl hc3 ⟨by decide, by decide⟩ (fun hcc => ?_) (fun hcc => ?_)
        · replace hT := hT.1 hcc
          obtain ⟨hc4, hT⟩ := hT
          refine rr_iinc (i := 5) (ls' := [VR m, VI x1, VI x2, VI x3, VI x4, VI (x5 + 1), VI r2]) dX1_pick_90 rfl (Nat.le_of_ble_eq_true rfl) rfl rfl hc4 ?_
          refine r_goto (tgt := 13) dX1_pick_93 rfl ?_
          exact jOk_le (ls' := [VR m, VI x1, VI x2, VI x3, VI x4, VI (x5 + 1), VN]) ⟨Or.inr rfl, Or.inr rfl, Or.inr rfl, Or.inr rfl, Or.inr rfl, Or.inr rfl, Or.inl rfl, trivial⟩ (hT I0 hFI1)
        · replace hT := hT.2 hcc
          refine r_aload_n dX1_pick_56 rfl (i := 0) rfl ?_
          refine rr_getR (b := (m + 13)) dX1_pick_57 fg_X1_47 rfl rfl (wX1_l hm) (wX1_s hm) (wX1_r14 hm) ?_
          refine r_aload_n dX1_pick_60 rfl (i := 0) rfl ?_
          refine rr_getI (v := I1 m 15) dX1_pick_61 fg_X1_99 rfl (wX1_l hm) (wX1_s hm) rfl ?_
          refine r_iload dX1_pick_64 (i := 6) rfl ?_
          obtain ⟨hc5, hT⟩ := hT
          refine rr_iastore dX1_pick_66 (wX1_l14 hm) (wX1_a14 hm) (by decide) hc5 hc3 (fun M6 eM6 => ?_)
          have hFM6 := jFr_up hFI1 eM6 (wX1_f hm 13 (by decide))
          replace hT := hT M6 eM6
          refine jOk_mem (fun hIM6 => ?_)
          refine r_aload_n dX1_pick_67 rfl (i := 0) rfl ?_
          refine r_dup dX1_pick_68 rfl ?_
          refine rr_getI (v := I1 m 15) dX1_pick_69 fg_X1_99 rfl (wX1_l hm) (wX1_s hm) (jr_na eM6 (by omega)) ?_
          refine r_iconst (n := 1) dX1_pick_72 ?_
          refine r_iadd dX1_pick_73 ?_
          obtain ⟨hc8, hT⟩ := hT
          refine rr_putI (jj := 15) dX1_pick_74 fp_X1_99 rfl rfl (wX1_l hm) (wX1_s hm) hc8 (fun M7 eM7 => ?_)
          have hFM7 := jFr_up hFM6 eM7 (wX1_f hm 0 (by decide))
          replace hT := hT M7 eM7
          refine jOk_mem (fun hIM7 => ?_)
          refine r_iload_n dX1_pick_77 rfl (i := 3) rfl ?_
          refine r_iload_n dX1_pick_78 rfl (i := 2) rfl ?_
          refine r_isub dX1_pick_79 ?_
          obtain ⟨hc9, hT⟩ := hT
          refine rr_istore_n (i := 3) (ls' := [VR m, VI x1, VI x2, VI (x3 - x2), VI x4, VI x5, VI r2]) dX1_pick_80 rfl (Nat.le_of_ble_eq_true rfl) rfl rfl hc9 ?_
          refine r_aload_n dX1_pick_81 rfl (i := 0) rfl ?_
          refine rr_getR (b := (m + 7)) dX1_pick_82 fg_X1_29 rfl rfl (wX1_l hm) (wX1_s hm) (wX1_r8 hm) ?_
          refine r_iload dX1_pick_85 (i := 6) rfl ?_
          obtain ⟨hc10, hT⟩ := hT
          refine rr_iaload (v := I1 (m + 7) r2) dX1_pick_87 (wX1_l8 hm) (wX1_a8 hm) (by decide) hc10 ((jr_na eM7 (by omega)).trans (jr_na eM6 (by omega))) ?_
          refine rr_istore (i := 4) (ls' := [VR m, VI x1, VI x2, VI (x3 - x2), VI (I1 (m + 7) r2), VI x5, VI r2]) dX1_pick_88 (Nat.le_of_ble_eq_true rfl) rfl rfl (hI1 _ _).inR ?_
          obtain ⟨hc11, hT⟩ := hT
          refine rr_iinc (i := 5) (ls' := [VR m, VI x1, VI x2, VI (x3 - x2), VI (I1 (m + 7) r2), VI (x5 + 1), VI r2]) dX1_pick_90 rfl (Nat.le_of_ble_eq_true rfl) rfl rfl hc11 ?_
          refine r_goto (tgt := 13) dX1_pick_93 rfl ?_
          exact jOk_le (ls' := [VR m, VI x1, VI x2, VI (x3 - x2), VI (I1 (m + 7) r2), VI (x5 + 1), VN]) ⟨Or.inr rfl, Or.inr rfl, Or.inr rfl, Or.inr rfl, Or.inr rfl, Or.inr rfl, Or.inl rfl, trivial⟩ (hT I0 hFM7)
      · replace hT := hT.2 hcc
        refine r_iconst (n := (-1)) dX1_pick_36 ?_
        refine r_goto (tgt := 48) dX1_pick_37 rfl ?_
        refine rr_istore (i := 6) (ls' := [VR m, VI x1, VI x2, VI x3, VI x4, VI x5, VI (-1)]) dX1_pick_48 (Nat.le_of_ble_eq_true rfl) rfl rfl ⟨by decide, by decide⟩ ?_
        refine r_iload dX1_pick_50 (i := 6) rfl ?_
        refine r_iconst (n := (-1)) dX1_pick_52 ?_
        refine r_icmp_eq (tgt := 90) dX1_pick_53 rfl ⟨by decide, by decide⟩ ⟨by decide, by decide⟩ (fun hcc => ?_) (fun hcc => ?_)
        · skip
          obtain ⟨hc12, hT⟩ := hT
          refine rr_iinc (i := 5) (ls' := [VR m, VI x1, VI x2, VI x3, VI x4, VI (x5 + 1), VI (-1)]) dX1_pick_90 rfl (Nat.le_of_ble_eq_true rfl) rfl rfl hc12 ?_
          refine r_goto (tgt := 13) dX1_pick_93 rfl ?_
          exact jOk_le (ls' := [VR m, VI x1, VI x2, VI x3, VI x4, VI (x5 + 1), VN]) ⟨Or.inr rfl, Or.inr rfl, Or.inr rfl, Or.inr rfl, Or.inr rfl, Or.inr rfl, Or.inl rfl, trivial⟩ (hT I0 hF)
        · exact absurd hcc (by decide)
set_option maxRecDepth 20000 in
theorem st_X1_pick_0 {E : jE} {G : jG} {I : jM} {q : jM → Prop} {m : Nat} {x1 : Int} {x2 : Int} (hm : WX1 G m) (hT : (∀ a j, jRg (G.2.1 a).1 (I a j)) → jIn x1 → jIn x2 → (∀ M1, M1 = jup I m 15 0 → jOV E jB kX1_pick 13 [VR m, VI x1, VI x2, VI x1, VI 0, VI 0, VN] G M1 q)) : jOV E jB kX1_pick 0 [VR m, VI x1, VI x2, VN, VN, VN, VN] G I q := by
  intro I0 hF
  refine jOk_mem (fun hI => ?_)
  refine jOk_in (i := 1) rfl (fun hx1 => ?_)
  refine jOk_in (i := 2) rfl (fun hx2 => ?_)
  replace hT := hT hI hx1 hx2
  refine r_aload_n dX1_pick_0 rfl (i := 0) rfl ?_
  refine r_iconst (n := 0) dX1_pick_1 ?_
  refine rr_putI (jj := 15) dX1_pick_2 fp_X1_99 rfl rfl (wX1_l hm) (wX1_s hm) ⟨by decide, by decide⟩ (fun M1 eM1 => ?_)
  have hFM1 := jFr_up hF eM1 (wX1_f hm 0 (by decide))
  replace hT := hT M1 eM1
  refine jOk_mem (fun hIM1 => ?_)
  refine r_iload_n dX1_pick_5 rfl (i := 1) rfl ?_
  refine rr_istore_n (i := 3) (ls' := [VR m, VI x1, VI x2, VI x1, VN, VN, VN]) dX1_pick_6 rfl (Nat.le_of_ble_eq_true rfl) rfl rfl hx1 ?_
  refine r_iconst (n := 0) dX1_pick_7 ?_
  refine rr_istore (i := 4) (ls' := [VR m, VI x1, VI x2, VI x1, VI 0, VN, VN]) dX1_pick_8 (Nat.le_of_ble_eq_true rfl) rfl rfl ⟨by decide, by decide⟩ ?_
  refine r_iconst (n := 0) dX1_pick_10 ?_
  refine rr_istore (i := 5) (ls' := [VR m, VI x1, VI x2, VI x1, VI 0, VI 0, VN]) dX1_pick_11 (Nat.le_of_ble_eq_true rfl) rfl rfl ⟨by decide, by decide⟩ ?_
  exact hT I0 hFM1
theorem en_X1_pick {E : jE} {G : jG} {I : jM} {q : jM → Prop} {m : Nat} {x1 : Int} {x2 : Int} (hm : WX1 G m) (hT : (∀ a j, jRg (G.2.1 a).1 (I a j)) → jIn x1 → jIn x2 → (∀ M1, M1 = jup I m 15 0 → jOV E jB kX1_pick 13 [VR m, VI x1, VI x2, VI x1, VI 0, VI 0, VN] G M1 q)) : jRV E jB kX1_pick [VR m, VI x1, VI x2] G I q := jRun.of mt_X1_pick.2.2.2 4 rfl (fun _ => st_X1_pick_0 hm hT I (fun _ _ => rfl))
section CL
variable {E : jE} {G : jG} {φ p ρ σ : Nat} {I : jM} {X : Int → Int} {co lv : Int} {sc : Int → Int → Int}
/-- what weighing needs: findings, marks, tokens -/
def WN1 (φ : Nat) (X : Int → Int) (I : jM) : Prop := FK φ X I ∧ (∀ f, 0 ≤ f → f < NF X → I (φ + 10) f = mkF X f) ∧ I (φ + 1) 2 = nT X
theorem WN1.fr {I' : jM} (h : WN1 φ X I) (e : ∀ a j, (φ + 5 ≤ a ∧ a ≤ φ + 11) ∨ (a = φ ∧ j = 5) ∨ a = φ + 1 → I' a j = I a j) : WN1 φ X I' := by
  refine ⟨h.1.fr (fun a j q => e a j (by omega)), fun f f0 f1 => ?_, ?_⟩
  · rw [e _ _ (by omega)]; exact h.2.1 f f0 f1
  · rw [e _ _ (by omega)]; exact h.2.2
theorem cl_gain (hm : WX1 G φ) (h : WN1 φ X I) (hQ : QW X) {f k w : Int} (f0 : 0 ≤ f) (f1 : f < NF X) (hk : 0 ≤ k ∧ k ≤ 20) (hw : I (φ + 12) (fA X f * 21 + k) = w) (hb : 0 ≤ w ∧ w ≤ 506880000) : jRI E jB kX1_gain [VR φ, VI f, VI k] G I (fun x I' => x = 256 * fV X f - 1 + w ∧ I' = I) := by
  have hN := NF_le hQ
  have b := fA_bd hQ f0 f1
  have v := fV_bd hQ (FLok hQ) f0 f1
  obtain ⟨e5, e6, e7, e8, e9⟩ := h.1.2.1 f f0 f1
  refine en_X1_gain hm (fun _ _ _ => ⟨⟨by omega, by omega⟩, ⟨by omega, by omega⟩, ?_⟩)
  rw [e7, e9, hw]
  exact ⟨⟨by omega, by omega⟩, ⟨by omega, by omega⟩, by omega, rfl⟩
def WQ (φ : Nat) (I I' : jM) : Prop := ∀ a j, a ≠ φ + 12 → I' a j = I a j
/-- the rows behind t are laid, and of t those ahead of k -/
def BR (φ : Nat) (X : Int → Int) (lv : Int) (sc : Int → Int → Int) (I : jM) (t k : Int) : Prop := (∀ t' k', t < t' → 0 ≤ t' → t' ≤ nT X → 0 ≤ k' → k' ≤ lv → I (φ + 12) (t' * 21 + k') = sc (ffT X t') k') ∧ ∀ k', 0 ≤ k' → k' < k → k' ≤ lv → I (φ + 12) (t * 21 + k') = sc (ffT X t) k'
theorem cl_weigh (hm : WX1 G φ) (h : WN1 φ X I) (hQ : QW X) (hs : SDP (NF X) (fV X) (fFr X) (fN X) co lv sc) (hco : co = 0 ∨ co = 1) (hlv : 0 ≤ lv ∧ lv ≤ 20) : jRV E jB kX1_weigh [VR φ, VI lv, VI co] G I (fun I' => (∀ t k, 0 ≤ t → t ≤ nT X → 0 ≤ k → k ≤ lv → I' (φ + 12) (t * 21 + k) = sc (ffT X t) k) ∧ WQ φ I I') := by
  have hk := tkS (S := X) hQ.1.1
  have hn := hk.n_le
  have h200 := hQ.1.2
  have hn0 := hk.1
  have hN := NF_le hQ
  have hFF := h.1.2.2.2
  -- the findings of a token
  have l88 : ∀ (t k : Int), 0 ≤ t → t < nT X → 1 ≤ k → k ≤ lv → ∀ (q : jM → Prop), (∀ I2, WQ φ I I2 → BR φ X lv sc I2 t (k + 1) → jOV E jB kX1_weigh 58 [VR φ, VI lv, VI co, VI t, VI (k + 1), VN, VN] G I2 q) → ∀ (d : Nat) (f top : Int) (I1 : jM), ffT X t ≤ f → f + d = ffT X (t + 1) → WQ φ I I1 → BR φ X lv sc I1 t k → sc (ffT X t) k = max top (sc f k) → sc (ffT X (t + 1)) k ≤ top → jOV E jB kX1_weigh 88 [VR φ, VI lv, VI co, VI t, VI k, VI top, VI f] G I1 q := by
    intro t k t0 t1 k0 k1 q go d
    have bt := hFF.bd (t := t) t0 (by omega)
    have bt1 := hFF.bd (t := t + 1) (by omega) (by omega)
    have bs := hs.bdt hFF hQ hco (t := t) (k := k) t0 (by omega) (by omega) k1
    have bs1 := hs.bdt hFF hQ hco (t := t + 1) (k := k) (by omega) (by omega) (by omega) k1
    induction d with
    | zero =>
      intro f top I1 f0 f1 hW hB hmx hle
      have hW1 : WN1 φ X I1 := h.fr (fun a j qa => hW a j (by omega))
      have e1 := hW1.1.2.2.1 (t + 1) (by omega) (by omega)
      have ef : f = ffT X (t + 1) := by omega
      refine st_X1_weigh_88 hm (fun _ _ _ _ _ _ _ => ⟨⟨by omega, by omega⟩, fun _ => ⟨⟨by omega, by omega⟩, fun M3 e3 => ⟨⟨by omega, by omega⟩, go M3 (fun a j ha => by rw [jr_na e3 ha]; exact hW a j ha) ⟨fun t' k' a b c d e => ?_, fun k' a b c => ?_⟩⟩⟩, fun qq => absurd (by omega) qq⟩)
      · rw [jr_nj e3 (by omega)]
        exact hB.1 t' k' a b c d e
      · by_cases ek : k' = k
        · rw [ek, jr_eq e3, hmx, ef]
          omega
        · rw [jr_nj e3 (by omega)]
          exact hB.2 k' a (by omega) c
    | succ d ih =>
      intro f top I1 f0 f1 hW hB hmx hle
      have hW1 : WN1 φ X I1 := h.fr (fun a j qa => hW a j (by omega))
      have e1 := hW1.1.2.2.1 (t + 1) (by omega) (by omega)
      have fN' : f < NF X := by omega
      have g := hs.2.2 f (by omega) fN' k (by omega) k1
      have em := hW1.2.1 f (by omega) fN'
      refine st_X1_weigh_88 hm (fun _ _ _ _ _ _ _ => ⟨⟨by omega, by omega⟩, fun qq => absurd qq (by omega), fun _ => ⟨⟨by omega, by omega⟩, ?_⟩⟩)
      rw [em]
      refine ⟨fun qm => ⟨⟨by omega, by omega⟩, ?_⟩, fun qm => ⟨⟨by omega, by omega⟩, ?_⟩⟩
      · have g1 := g.1 (fun w => qm (mkF_0.mpr w))
        exact ih (f + 1) top I1 (by omega) (by omega) hW hB (by rw [hmx, g1]) hle
      · have g2 := g.2 (mkF_0.mp qm)
        have ba := fA_bd hQ (f := f) (by omega) fN'
        have hft : fT X f < t + 1 := (hFF.mem (t := t + 1) (by omega) (by omega) (f := f) (by omega) fN').mpr (by omega)
        have hft' : ¬ fT X f < t := fun w => by have := (hFF.mem (t := t) t0 (by omega) (f := f) (by omega) fN').mp w; omega
        have bw := hs.bdt hFF hQ hco (t := fA X f) (k := k - co) (by omega) (by omega) (by omega) (by omega)
        refine (cl_gain hm hW1 hQ (f := f) (k := k - co) (w := sc (ffT X (fA X f)) (k - co)) (by omega) fN' (by omega) (hB.1 (fA X f) (k - co) (by omega) (by omega) (by omega) (by omega) (by omega)) ⟨bw.1, by omega⟩).mono (fun y I8 _ _ gy => ?_)
        obtain ⟨rfl, rfl⟩ := gy
        rw [← fN_ff hQ hFF (by omega) fN']
        refine ⟨⟨by omega, by omega⟩, ih (f + 1) _ I8 (by omega) (by omega) hW hB ?_ (by omega)⟩
        rw [hmx, g2]
        omega
  have l58 : ∀ (t : Int), 0 ≤ t → t < nT X → ∀ (q : jM → Prop), (∀ I2, WQ φ I I2 → BR φ X lv sc I2 (t - 1) 0 → jOV E jB kX1_weigh 41 [VR φ, VI lv, VI co, VI (t - 1), VN, VN, VN] G I2 q) → ∀ (d : Nat) (k : Int) (I1 : jM), 1 ≤ k → k + d = lv + 1 → WQ φ I I1 → BR φ X lv sc I1 t k → jOV E jB kX1_weigh 58 [VR φ, VI lv, VI co, VI t, VI k, VN, VN] G I1 q := by
    intro t t0 t1 q go d
    induction d with
    | zero =>
      intro k I1 k0 k1 hW hB
      refine st_X1_weigh_58 hm (fun _ _ _ _ _ => ⟨fun _ => ⟨⟨by omega, by omega⟩, go I1 hW ⟨fun t' k' a b c d e => ?_, fun k' a b => by omega⟩⟩, fun qq => absurd (by omega) qq⟩)
      by_cases et : t' = t
      · rw [et]
        exact hB.2 k' d (by omega) e
      · exact hB.1 t' k' (by omega) b c d e
    | succ d ih =>
      intro k I1 k0 k1 hW hB
      have hW1 : WN1 φ X I1 := h.fr (fun a j qa => hW a j (by omega))
      have e0 := hW1.1.2.2.1 t t0 (by omega)
      have eb := hB.1 (t + 1) k (by omega) (by omega) (by omega) (by omega) (by omega)
      have bt := hFF.bd (t := t) t0 (by omega)
      have bm := hFF.mono (t := t) (u := t + 1) t0 (by omega) (by omega)
      refine st_X1_weigh_58 hm (fun _ _ _ _ _ => ⟨fun qq => absurd qq (by omega), fun _ => ⟨⟨by omega, by omega⟩, ⟨by omega, by omega⟩, ?_⟩⟩)
      rw [eb, e0]
      refine l88 t k t0 t1 k0 (by omega) q (fun I2 w b => ih (k + 1) I2 (by omega) (by omega) w b) (ffT X (t + 1) - ffT X t).toNat (ffT X t) _ I1 (Int.le_refl _) (by omega) hW hB ?_ (Int.le_refl _)
      have := hs.mono (k := k) k0 (by omega) (ffT X (t + 1) - ffT X t).toNat (ffT X t) bt.1 (by have := hFF.bd (t := t + 1) (by omega) (by omega); omega)
      rw [show ffT X t + ((ffT X (t + 1) - ffT X t).toNat : Int) = ffT X (t + 1) by omega] at this
      omega
  have l41 : ∀ (d : Nat) (t : Int) (I1 : jM), t + 1 = d → t < nT X → WQ φ I I1 → BR φ X lv sc I1 t 0 → jOV E jB kX1_weigh 41 [VR φ, VI lv, VI co, VI t, VN, VN, VN] G I1 (fun I' => (∀ t k, 0 ≤ t → t ≤ nT X → 0 ≤ k → k ≤ lv → I' (φ + 12) (t * 21 + k) = sc (ffT X t) k) ∧ WQ φ I I') := by
    intro d
    induction d with
    | zero =>
      intro t I1 t0 t1 hW hB
      refine st_X1_weigh_41 hm (fun _ _ _ _ => ⟨fun _ => ⟨fun t' k' a b c d => hB.1 t' k' (by omega) a b c d, hW⟩, fun qq => absurd (by omega) qq⟩)
    | succ d ih =>
      intro t I1 t0 t1 hW hB
      have bt := hFF.bd (t := t) (by omega) (by omega)
      refine st_X1_weigh_41 hm (fun _ _ _ _ => ⟨fun qq => absurd qq (by omega), fun _ => ⟨⟨by omega, by omega⟩, fun M2 e2 => ?_⟩⟩)
      refine l58 t (by omega) t1 _ (fun I2 w b => ih (t - 1) I2 (by omega) (by omega) w b) lv.toNat 1 M2 (by omega) (by omega) (fun a j ha => by rw [jr_na e2 ha]; exact hW a j ha) ⟨fun t' k' a b c d e => ?_, fun k' a b c => ?_⟩
      · rw [jr_nj e2 (by omega)]
        exact hB.1 t' k' a b c d e
      · have ek : k' = 0 := by omega
        rw [ek, show t * 21 + 0 = t * 21 by omega, jr_eq e2, hs.2.1 _ bt.1 bt.2]
  have l2 : ∀ (d : Nat) (k : Int) (I1 : jM), 0 ≤ k → k + d = lv + 1 → WQ φ I I1 → (∀ k', 0 ≤ k' → k' < k → I1 (φ + 12) (nT X * 21 + k') = 0) → jOV E jB kX1_weigh 2 [VR φ, VI lv, VI co, VI k, VN, VN, VN] G I1 (fun I' => (∀ t k, 0 ≤ t → t ≤ nT X → 0 ≤ k → k ≤ lv → I' (φ + 12) (t * 21 + k) = sc (ffT X t) k) ∧ WQ φ I I') := by
    intro d
    induction d with
    | zero =>
      intro k I1 k0 k1 hW hz
      have en : I1 (φ + 1) 2 = nT X := by rw [hW _ _ (by omega)]; exact h.2.2
      refine st_X1_weigh_2 hm (fun _ _ _ _ => ⟨fun _ => ?_, fun qq => absurd (by omega) qq⟩)
      rw [en]
      refine ⟨⟨by omega, by omega⟩, l41 (nT X).toNat (nT X - 1) I1 (by omega) (by omega) hW ⟨fun t' k' a b c d e => ?_, fun k' a b => by omega⟩⟩
      have et : t' = nT X := by omega
      rw [et, hz k' d (by omega), hFF.top hQ, hs.1 k' d e]
    | succ d ih =>
      intro k I1 k0 k1 hW hz
      have en : I1 (φ + 1) 2 = nT X := by rw [hW _ _ (by omega)]; exact h.2.2
      refine st_X1_weigh_2 hm (fun _ _ _ _ => ⟨fun qq => absurd qq (by omega), fun _ => ?_⟩)
      rw [en]
      refine ⟨⟨by omega, by omega⟩, fun M3 e3 => ⟨⟨by omega, by omega⟩, ih (k + 1) M3 (by omega) (by omega) (fun a j ha => by rw [jr_na e3 ha]; exact hW a j ha) (fun k' a b => ?_)⟩⟩
      by_cases ek : k' = k
      · rw [ek, jr_eq e3]
      · rw [jr_nj e3 (by omega)]
        exact hz k' a (by omega)
  exact en_X1_weigh hm (fun _ _ _ => l2 (lv + 1).toNat 0 I (by omega) (by omega) (fun _ _ _ => rfl) (fun k' a b => by omega))
/-- the scores are laid -/
def BS (φ : Nat) (X : Int → Int) (lv : Int) (sc : Int → Int → Int) (I : jM) : Prop := ∀ t k, 0 ≤ t → t ≤ nT X → 0 ≤ k → k ≤ lv → I (φ + 12) (t * 21 + k) = sc (ffT X t) k
theorem cl_firstBest (hm : WX1 G φ) (h : WN1 φ X I) (hB : BS φ X lv sc I) (hQ : QW X) (hs : SDP (NF X) (fV X) (fFr X) (fN X) co lv sc) (hco : co = 0 ∨ co = 1) (hlv : 0 ≤ lv ∧ lv ≤ 20) {t k : Int} (t0 : 0 ≤ t) (t1 : t < nT X) (k0 : 1 ≤ k) (k1 : k ≤ lv) : jRI E jB kX1_firstBest [VR φ, VI t, VI k, VI co] G I (fun x I' => ((x = -1 ∧ ∀ f, ffT X t ≤ f → f < ffT X (t + 1) → ¬ (fFr X f ∧ 256 * fV X f - 1 + sc (fN X f) (k - co) = sc (ffT X t) k)) ∨ ((ffT X t ≤ x ∧ x < ffT X (t + 1)) ∧ (fFr X x ∧ 256 * fV X x - 1 + sc (fN X x) (k - co) = sc (ffT X t) k) ∧ ∀ f, ffT X t ≤ f → f < x → ¬ (fFr X f ∧ 256 * fV X f - 1 + sc (fN X f) (k - co) = sc (ffT X t) k))) ∧ I' = I) := by
  have hk := tkS (S := X) hQ.1.1
  have hn := hk.n_le
  have h200 := hQ.1.2
  have hN := NF_le hQ
  have hFF := h.1.2.2.2
  have bt := hFF.bd (t := t) t0 (by omega)
  have bt1 := hFF.bd (t := t + 1) (by omega) (by omega)
  have bm := hFF.mono (t := t) (u := t + 1) t0 (by omega) (by omega)
  have e0 := h.1.2.2.1 t t0 (by omega)
  have e1 := h.1.2.2.1 (t + 1) (by omega) (by omega)
  have loop : ∀ (d : Nat) (f : Int), ffT X t ≤ f → f + d = ffT X (t + 1) → (∀ g, ffT X t ≤ g → g < f → ¬ (fFr X g ∧ 256 * fV X g - 1 + sc (fN X g) (k - co) = sc (ffT X t) k)) → jOI E jB kX1_firstBest 21 [VR φ, VI t, VI k, VI co, VI (sc (ffT X t) k), VI f] G I (fun x I' => ((x = -1 ∧ ∀ f, ffT X t ≤ f → f < ffT X (t + 1) → ¬ (fFr X f ∧ 256 * fV X f - 1 + sc (fN X f) (k - co) = sc (ffT X t) k)) ∨ ((ffT X t ≤ x ∧ x < ffT X (t + 1)) ∧ (fFr X x ∧ 256 * fV X x - 1 + sc (fN X x) (k - co) = sc (ffT X t) k) ∧ ∀ f, ffT X t ≤ f → f < x → ¬ (fFr X f ∧ 256 * fV X f - 1 + sc (fN X f) (k - co) = sc (ffT X t) k))) ∧ I' = I) := by
    intro d
    induction d with
    | zero =>
      intro f f0 f1 hg
      refine st_X1_firstBest_21 hm (fun _ _ _ _ _ _ => ⟨⟨by omega, by omega⟩, fun _ => ⟨Or.inl ⟨rfl, fun g a b => hg g a (by omega)⟩, rfl⟩, fun qq => absurd (by omega) qq⟩)
    | succ d ih =>
      intro f f0 f1 hg
      have fN' : f < NF X := by omega
      have em := h.2.1 f (by omega) fN'
      have nx : ¬ (fFr X f ∧ 256 * fV X f - 1 + sc (fN X f) (k - co) = sc (ffT X t) k) → ∀ g, ffT X t ≤ g → g < f + 1 → ¬ (fFr X g ∧ 256 * fV X g - 1 + sc (fN X g) (k - co) = sc (ffT X t) k) := fun hno g a b => by
        by_cases e : g = f
        · rw [e]; exact hno
        · exact hg g a (by omega)
      refine st_X1_firstBest_21 hm (fun _ _ _ _ _ _ => ⟨⟨by omega, by omega⟩, fun qq => absurd qq (by omega), fun _ => ⟨⟨by omega, by omega⟩, ?_⟩⟩)
      rw [em]
      refine ⟨fun qm => ⟨⟨by omega, by omega⟩, ih (f + 1) (by omega) (by omega) (nx (fun w => qm (mkF_0.mpr w.1)))⟩, fun qm => ⟨⟨by omega, by omega⟩, ?_⟩⟩
      have ba := fA_bd hQ (f := f) (by omega) fN'
      have bw := hs.bdt hFF hQ hco (t := fA X f) (k := k - co) (by omega) (by omega) (by omega) (by omega)
      refine (cl_gain hm h hQ (f := f) (k := k - co) (w := sc (ffT X (fA X f)) (k - co)) (by omega) fN' (by omega) (hB (fA X f) (k - co) (by omega) (by omega) (by omega) (by omega)) ⟨bw.1, by omega⟩).mono (fun y I5 _ _ gy => ?_)
      obtain ⟨rfl, rfl⟩ := gy
      rw [← fN_ff hQ hFF (by omega) fN']
      exact ⟨fun qe => ⟨⟨by omega, by omega⟩, ih (f + 1) (by omega) (by omega) (nx (fun w => qe w.2))⟩, fun qe => ⟨Or.inr ⟨⟨f0, by omega⟩, ⟨mkF_0.mp qm, qe⟩, hg⟩, rfl⟩⟩
  refine en_X1_firstBest hm (fun _ _ _ _ => ⟨⟨by omega, by omega⟩, ⟨by omega, by omega⟩, ?_⟩)
  rw [hB t k t0 (by omega) (by omega) k1, e0]
  exact loop (ffT X (t + 1) - ffT X t).toNat _ (Int.le_refl _) (by omega) (fun g a b => by omega)
/-- none of a token is chosen: on to the next one; one is -/
theorem ssel_tok (hs : SDP (NF X) (fV X) (fFr X) (fN X) co lv sc) {k : Int} (k0 : 1 ≤ k) (k1 : k ≤ lv) {a : Int} (a0 : 0 ≤ a) : ∀ (d : Nat) (c : Int), a + d = c → c ≤ NF X → (∀ f, a ≤ f → f < c → ¬ (fFr X f ∧ 256 * fV X f - 1 + sc (fN X f) (k - co) = sc a k)) → sc c k = sc a k ∧ ssel (NF X) (fV X) (fFr X) (fN X) co sc (NF X).toNat a k = ssel (NF X) (fV X) (fFr X) (fN X) co sc (NF X).toNat c k := by
  have hn : ∀ f, 0 ≤ f → f < NF X → f < fN X f ∧ fN X f ≤ NF X := fun f f0 f1 => ⟨(fN_is f0 f1).1, (fN_is f0 f1).2.1⟩
  intro d
  induction d with
  | zero => intro c hc c1 hno; rw [show c = a by omega]; exact ⟨rfl, rfl⟩
  | succ d ih =>
    intro c hc c1 hno
    obtain ⟨i1, i2⟩ := ih (c - 1) (by omega) (by omega) (fun f f0 f1 => hno f f0 (by omega))
    have g := hs.2.2 (c - 1) (by omega) (by omega) k k0 k1
    rw [show c - 1 + 1 = c by omega] at g
    have hw := hno (c - 1) (by omega) (by omega)
    have e : sc c k = sc (c - 1) k := by
      by_cases w : fFr X (c - 1)
      · have g2 := g.2 w
        have : ¬ 256 * fV X (c - 1) - 1 + sc (fN X (c - 1)) (k - co) = sc (c - 1) k := fun q => hw ⟨w, by rw [q]; exact i1⟩
        omega
      · exact (g.1 w).symm
    refine ⟨e.trans i1, i2.trans ?_⟩
    rw [ssel_fuel hn (NF X).toNat ((NF X).toNat + 1) (c - 1) k (by omega) (by omega) (by omega), ssel_skip ⟨by omega, by omega⟩ (fun q => hw ⟨q.1, by rw [q.2]; exact i1⟩), show c - 1 + 1 = c by omega]
def PK (φ : Nat) (I : jM) (P : List Int) : Prop := I φ 15 = P.length ∧ ∀ i : Nat, i < P.length → I (φ + 13) i = P.getD i 0
def WP1 (φ : Nat) (I I' : jM) : Prop := ∀ a j, a ≠ φ + 13 → (a ≠ φ ∨ j ≠ 15) → I' a j = I a j
theorem cl_pick (hm : WX1 G φ) (h : WN1 φ X I) (hB : BS φ X lv sc I) (hQ : QW X) (hs : SDP (NF X) (fV X) (fFr X) (fN X) co lv sc) (hco : co = 0 ∨ co = 1) (hlv : 0 ≤ lv ∧ lv ≤ 20) : jRV E jB kX1_pick [VR φ, VI lv, VI co] G I (fun I' => PK φ I' (ssel (NF X) (fV X) (fFr X) (fN X) co sc (NF X).toNat 0 lv) ∧ WP1 φ I I') := by
  have hk := tkS (S := X) hQ.1.1
  have hn := hk.n_le
  have h200 := hQ.1.2
  have hn0 := hk.1
  have hN := NF_le hQ
  have hN0 : 0 ≤ NF X := NF0
  have hFF := h.1.2.2.2
  have hnx : ∀ f, 0 ≤ f → f < NF X → f < fN X f ∧ fN X f ≤ NF X := fun f f0 f1 => ⟨(fN_is f0 f1).1, (fN_is f0 f1).2.1⟩
  have loop : ∀ (d : Nat) (t k nx : Int) (P : List Int) (I1 : jM), 0 ≤ t → t + d = nT X → 0 ≤ k → k ≤ lv → 0 ≤ nx → nx ≤ nT X → (P.length : Int) ≤ t → PK φ I1 P → WP1 φ I I1 → P ++ ssel (NF X) (fV X) (fFr X) (fN X) co sc (NF X).toNat (ffT X (max t nx)) k = ssel (NF X) (fV X) (fFr X) (fN X) co sc (NF X).toNat 0 lv → jOV E jB kX1_pick 13 [VR φ, VI lv, VI co, VI k, VI nx, VI t, VN] G I1 (fun I' => PK φ I' (ssel (NF X) (fV X) (fFr X) (fN X) co sc (NF X).toNat 0 lv) ∧ WP1 φ I I') := by
    intro d
    induction d with
    | zero =>
      intro t k nx P I1 t0 t1 k0 k1 n0 n1 hl hP hW hsel
      have en : I1 (φ + 1) 2 = nT X := by rw [hW _ _ (by omega) (by omega)]; exact h.2.2
      rw [show max t nx = nT X by omega, hFF.top hQ, ssel_out (by omega), List.append_nil] at hsel
      refine st_X1_pick_13 hm (fun _ _ _ _ _ _ => ⟨fun _ => ⟨by rw [← hsel]; exact hP, hW⟩, fun qq => absurd (by omega) qq⟩)
    | succ d ih =>
      intro t k nx P I1 t0 t1 k0 k1 n0 n1 hl hP hW hsel
      have en : I1 (φ + 1) 2 = nT X := by rw [hW _ _ (by omega) (by omega)]; exact h.2.2
      have hW1 : WN1 φ X I1 := h.fr (fun a j qa => hW a j (by omega) (by omega))
      have hB1 : BS φ X lv sc I1 := fun t k a b c d => by rw [hW _ _ (by omega) (by omega)]; exact hB t k a b c d
      refine st_X1_pick_13 hm (fun _ _ _ _ _ _ => ⟨fun qq => absurd qq (by omega), fun _ => ⟨fun qk => ?_, fun qk => ⟨fun qn => ?_, fun qn => ?_⟩⟩⟩)
      · rw [ssel_out (by omega), List.append_nil] at hsel
        exact ⟨by rw [← hsel]; exact hP, hW⟩
      · rw [show max t nx = t by omega] at hsel
        have bt := hFF.bd (t := t) t0 (by omega)
        have bt1 := hFF.bd (t := t + 1) (by omega) (by omega)
        have bm := hFF.mono (t := t) (u := t + 1) t0 (by omega) (by omega)
        refine (cl_firstBest hm hW1 hB1 hQ hs hco hlv t0 (by omega) (by omega) k1).mono (fun x I2 _ _ gx => ?_)
        obtain ⟨hx, rfl⟩ := gx
        refine ⟨fun qx => ?_, fun qx => ?_⟩
        · rcases hx with hx | hx
          · refine ⟨⟨by omega, by omega⟩, ih (t + 1) k nx P I2 (by omega) (by omega) k0 k1 n0 n1 (by omega) hP hW ?_⟩
            have g := ssel_tok hs (by omega) k1 bt.1 (ffT X (t + 1) - ffT X t).toNat (ffT X (t + 1)) (by omega) bt1.2 hx.2
            rw [show max (t + 1) nx = t + 1 by omega, ← g.2]
            exact hsel
          · have := hx.1.1
            omega
        · rcases hx with hx | hx
          · exact absurd hx.1 qx
          · obtain ⟨⟨x0, x1⟩, hfr, hno⟩ := hx
            have xN : x < NF X := by omega
            have e15 := hP.1
            have ba := fA_bd hQ (f := x) (by omega) xN
            have e7 := (hW1.1.2.1 x (by omega) xN).2.2.1
            have hft : fT X x < t + 1 := (hFF.mem (t := t + 1) (by omega) (by omega) (f := x) (by omega) xN).mpr (by omega)
            have hft' : ¬ fT X x < t := fun w => by have := (hFF.mem (t := t) t0 (by omega) (f := x) (by omega) xN).mp w; omega
            rw [e15]
            refine ⟨⟨by omega, by omega⟩, fun M6 e6 => ⟨⟨by omega, by omega⟩, fun M7 e7' => ⟨⟨by omega, by omega⟩, ⟨by omega, by omega⟩, ⟨by omega, by omega⟩, ?_⟩⟩⟩
            rw [e7]
            refine ih (t + 1) (k - co) (fA X x) (P ++ [x]) M7 (by omega) (by omega) (by omega) (by omega) (by omega) (by omega) (by rw [List.length_append]; simp; omega) ⟨?_, fun i hi => ?_⟩ (fun a j a1 a2 => ?_) ?_
            · rw [jr_eq e7', List.length_append]
              simp
            · rw [List.length_append] at hi
              simp at hi
              rw [jr_na e7' (by omega)]
              by_cases q : i = P.length
              · rw [q, jr_eq e6, gd_right (by omega), Nat.sub_self]
                rfl
              · rw [jr_nj e6 (by omega), gd_left (by omega)]
                exact hP.2 i (by omega)
            · have q7 : M7 a j = M6 a j := by
                rcases a2 with a2 | a2
                · exact jr_na e7' a2
                · exact jr_nj e7' a2
              rw [q7, jr_na e6 a1]
              exact hW a j a1 a2
            · have g := ssel_tok hs (by omega) k1 bt.1 (x - ffT X t).toNat x (by omega) (by omega) hno
              have tk : ssel (NF X) (fV X) (fFr X) (fN X) co sc (NF X).toNat x k = x :: ssel (NF X) (fV X) (fFr X) (fN X) co sc (NF X).toNat (fN X x) (k - co) := by
                rw [ssel_fuel hnx (NF X).toNat ((NF X).toNat + 1) x k (by omega) (by omega) (by omega), ssel_take ⟨xN, by omega⟩ ⟨hfr.1, by rw [g.1]; exact hfr.2⟩]
              rw [show max (t + 1) (fA X x) = fA X x by omega, ← fN_ff hQ hFF (by omega) xN, List.append_assoc, List.singleton_append, ← tk, ← g.2]
              exact hsel
      · refine ⟨⟨by omega, by omega⟩, ih (t + 1) k nx P I1 (by omega) (by omega) k0 k1 n0 n1 (by omega) hP hW ?_⟩
        rw [show max (t + 1) nx = max t nx by omega]
        exact hsel
  refine en_X1_pick hm (fun _ _ _ M1 e1 => ?_)
  refine loop (nT X).toNat 0 lv 0 [] M1 (by omega) (by omega) hlv.1 (by omega) (by omega) hn0 (by simp) ⟨by rw [jr_eq e1]; rfl, fun i hi => absurd hi (Nat.not_lt_zero i)⟩ (fun a j a1 a2 => ?_) ?_
  · rcases a2 with a2 | a2
    · exact jr_na e1 a2
    · exact jr_nj e1 a2
  · rw [List.nil_append, show max (0 : Int) 0 = 0 by decide, hFF.zero hQ]
end CL
