/-! ===== the reference: the course ===== -/
noncomputable def csq (B : Int → Int) : Nat → Int → Int
  | 0 => B
  | k + 1 => mkS (csq B k) (setL (csq B k))
theorem csq_s (B : Int → Int) (k : Nat) : csq B (k + 1) = mkS (csq B k) (setL (csq B k)) := rfl
def likeB (X Y : Int → Int) : Prop := X 2 = Y 2 ∧ (∀ k, 0 ≤ k → k < 200 → X (10 + k) = Y (10 + k)) ∧ ∀ k, 0 ≤ k → k < 16 → X (410 + k) = Y (410 + k)
/-- the first state that is like that behind n rounds; -1 -/
def isFstL (B : Int → Int) (n : Nat) (x : Int) : Prop := (x = -1 ∧ ∀ k : Nat, k < n → ¬ likeB (csq B k) (csq B n)) ∨ (0 ≤ x ∧ x < n ∧ likeB (csq B x.toNat) (csq B n) ∧ ∀ k : Nat, (k : Int) < x → ¬ likeB (csq B k) (csq B n))
theorem isFstL.uniq {B : Int → Int} {n : Nat} {x y : Int} (h : isFstL B n x) (h' : isFstL B n y) : x = y := by
  rcases h with h | h
  · rcases h' with h' | h'
    · omega
    · exact absurd h'.2.2.1 (h.2 _ (by omega))
  · rcases h' with h' | h'
    · exact absurd h.2.2.1 (h'.2 _ (by omega))
    · rcases Int.lt_trichotomy x y with q | q | q
      · exact absurd h.2.2.1 (h'.2.2.2 x.toNat (by omega))
      · exact q
      · exact absurd h'.2.2.1 (h.2.2.2 y.toNat (by omega))
noncomputable def fstL (B : Int → Int) (n : Nat) : Int := Classical.epsilon (fun x => isFstL B n x)
theorem fstL_eq {B : Int → Int} {n : Nat} {x : Int} (h : isFstL B n x) : fstL B n = x := isFstL.uniq (Classical.epsilon_spec (p := fun x => isFstL B n x) ⟨x, h⟩) h
/-- how it ends behind n rounds; -1 where it goes on -/
noncomputable def endAt (B : Int → Int) (n : Nat) : Int := if fstL B n ≠ -1 then 1 else if setL (csq B n) = [] then 0 else if 200 < csq B n 2 + sumG (csq B n) (setL (csq B n)) then 2 else if n = 30 then 3 else -1
noncomputable def crsF (B : Int → Int) : Nat → Nat → Nat
  | 0, n => n
  | d + 1, n => if endAt B n = -1 then crsF B d (n + 1) else n
noncomputable def crN (B : Int → Int) : Nat := crsF B 30 0
noncomputable def rb (X : Int → Int) : Int := (setL X).foldl (fun b f => jor b (jshl 1 (fR X f))) 0
noncomputable def mdS (B : Int → Int) : Nat → Int
  | 0 => 0
  | k + 1 => mdS B k + (setL (csq B k)).length
/-- the course is laid -/
def CO (m : Nat) (B : Int → Int) (I : jM) : Prop := I m 41 = crN B ∧ crN B ≤ 30 ∧ I m 40 = endAt B (crN B) ∧ I m 42 = fstL B (crN B) ∧ I m 43 = mdS B (crN B) ∧ (∀ k : Nat, k ≤ crN B → I (m + 25) k = csq B k 2 ∧ ∀ j, 0 ≤ j → j < 200 → I (m + 26) (200 * k + j) = csq B k (10 + j)) ∧ (∀ k : Nat, k < crN B → I (m + 28) k = rb (csq B k)) ∧ (∀ k : Nat, k ≤ crN B → 0 ≤ csq B k 2 ∧ csq B k 2 ≤ 200) ∧ endAt B (crN B) ≠ -1 ∧ (fstL B (crN B) ≠ -1 → 0 ≤ fstL B (crN B) ∧ fstL B (crN B) < crN B)
set_option maxRecDepth 20000 in
theorem st_X10_layWas_46 {E : jE} {G : jG} {I : jM} {q : jM → Prop} {m : Nat} {x1 : Int} {x2 : Int} (hm : WX10 G m) (hT : (∀ a j, jRg (G.2.1 a).1 (I a j)) → jIn x1 → jIn x2 → ((16 ≤ x2 → q I) ∧ (¬ 16 ≤ x2 → ((0 : Int) ≤ (410 + x2) ∧ ((410 + x2) : Int) < 22094) ∧ ((0 : Int) ≤ ((16 * x1) + x2) ∧ (((16 * x1) + x2) : Int) < 496) ∧ (∀ M3, M3 = jup I (m + 27) ((16 * x1) + x2) (I (m + 1) (410 + x2)) → jIn (x2 + 1) ∧ jOV E (jA m) kX10_layWas 46 [VR m, VI x1, VI (x2 + 1)] G M3 q)))) : jOV E (jA m) kX10_layWas 46 [VR m, VI x1, VI x2] G I q := by
  intro I0 hF
  refine jOk_mem (fun hI => ?_)
  refine jOk_in (i := 1) rfl (fun hx1 => ?_)
  refine jOk_in (i := 2) rfl (fun hx2 => ?_)
  replace hT := hT hI hx1 hx2
  refine r_iload_n dX10_layWas_46 rfl (i := 2) rfl ?_
  refine r_bipush (n := 16) dX10_layWas_47 (by decide +kernel) ?_
  refine r_icmp_ge (tgt := 79) dX10_layWas_49 rfl hx2 ⟨by decide, by decide⟩ (fun hcc => ?_) (fun hcc => ?_)
  · replace hT := hT.1 hcc
    exact r_vret dX10_layWas_79 rfl ⟨Nat.zero_le _, Nat.zero_le _⟩ ⟨rfl, rfl, hF, hT⟩
  · replace hT := hT.2 hcc
    refine r_aload_n dX10_layWas_52 rfl (i := 0) rfl ?_
    refine rr_getR (b := (m + 27)) dX10_layWas_53 fg_X10_93 rfl rfl (wX10_l hm) (wX10_s hm) (wX10_r38 hm) ?_
    refine r_bipush (n := 16) dX10_layWas_56 (by decide +kernel) ?_
    refine r_iload_n dX10_layWas_58 rfl (i := 1) rfl ?_
    refine r_imul dX10_layWas_59 ?_
    refine r_iload_n dX10_layWas_60 rfl (i := 2) rfl ?_
    refine r_iadd dX10_layWas_61 ?_
    refine r_aload_n dX10_layWas_62 rfl (i := 0) rfl ?_
    refine rr_getR (b := (m + 1)) dX10_layWas_63 fg_X10_7 rfl rfl (wX10_l hm) (wX10_s hm) (wX10_r0 hm) ?_
    refine r_sipush (n := 410) dX10_layWas_66 (by decide +kernel) ?_
    refine r_iload_n dX10_layWas_69 rfl (i := 2) rfl ?_
    refine r_iadd dX10_layWas_70 ?_
    obtain ⟨hc1, hT⟩ := hT
    refine rr_iaload (v := I (m + 1) (410 + x2)) dX10_layWas_71 (wX10_l0 hm) (wX10_a0 hm) (by decide) hc1 rfl ?_
    obtain ⟨hc2, hT⟩ := hT
    refine rr_iastore dX10_layWas_72 (wX10_l38 hm) (wX10_a38 hm) (by decide) hc2 (hI _ _).inR (fun M3 eM3 => ?_)
    have hFM3 := jFr_up hF eM3 (wX10_f hm 27 (by decide))
    replace hT := hT M3 eM3
    refine jOk_mem (fun hIM3 => ?_)
    obtain ⟨hc4, hT⟩ := hT
    refine rr_iinc (i := 2) (ls' := [VR m, VI x1, VI (x2 + 1)]) dX10_layWas_73 rfl (Nat.le_of_ble_eq_true rfl) rfl rfl hc4 ?_
    refine r_goto (tgt := 46) dX10_layWas_76 rfl ?_
    exact hT I0 hFM3
set_option maxRecDepth 20000 in
theorem st_X10_layWas_14 {E : jE} {G : jG} {I : jM} {q : jM → Prop} {m : Nat} {x1 : Int} {x2 : Int} (hm : WX10 G m) (hT : (∀ a j, jRg (G.2.1 a).1 (I a j)) → jIn x1 → jIn x2 → ((200 ≤ x2 → jOV E (jA m) kX10_layWas 46 [VR m, VI x1, VI 0] G I q) ∧ (¬ 200 ≤ x2 → (0 ≤ 10 + x2 ∧ 10 + x2 < 22094) ∧ ((0 : Int) ≤ ((200 * x1) + x2) ∧ (((200 * x1) + x2) : Int) < 6200) ∧ (∀ M4, M4 = jup I (m + 26) ((200 * x1) + x2) (I (m + 1) (10 + x2)) → jIn (x2 + 1) ∧ jOV E (jA m) kX10_layWas 14 [VR m, VI x1, VI (x2 + 1)] G M4 q)))) : jOV E (jA m) kX10_layWas 14 [VR m, VI x1, VI x2] G I q := by
  intro I0 hF
  refine jOk_mem (fun hI => ?_)
  refine jOk_in (i := 1) rfl (fun hx1 => ?_)
  refine jOk_in (i := 2) rfl (fun hx2 => ?_)
  replace hT := hT hI hx1 hx2
  refine r_iload_n dX10_layWas_14 rfl (i := 2) rfl ?_
  refine r_sipush (n := 200) dX10_layWas_15 (by decide +kernel) ?_
  refine r_icmp_ge (tgt := 44) dX10_layWas_18 rfl hx2 ⟨by decide, by decide⟩ (fun hcc => ?_) (fun hcc => ?_)
  · replace hT := hT.1 hcc
    refine r_iconst (n := 0) dX10_layWas_44 ?_
    refine rr_istore_n (i := 2) (ls' := [VR m, VI x1, VI 0]) dX10_layWas_45 rfl (Nat.le_of_ble_eq_true rfl) rfl rfl ⟨by decide, by decide⟩ ?_
    exact hT I0 hF
  · replace hT := hT.2 hcc
    refine r_aload_n dX10_layWas_21 rfl (i := 0) rfl ?_
    refine rr_getR (b := (m + 26)) dX10_layWas_22 fg_X10_90 rfl rfl (wX10_l hm) (wX10_s hm) (wX10_r37 hm) ?_
    refine r_sipush (n := 200) dX10_layWas_25 (by decide +kernel) ?_
    refine r_iload_n dX10_layWas_28 rfl (i := 1) rfl ?_
    refine r_imul dX10_layWas_29 ?_
    refine r_iload_n dX10_layWas_30 rfl (i := 2) rfl ?_
    refine r_iadd dX10_layWas_31 ?_
    refine r_aload_n dX10_layWas_32 rfl (i := 0) rfl ?_
    refine r_iload_n dX10_layWas_33 rfl (i := 2) rfl ?_
    obtain ⟨hc2, hT⟩ := hT
    refine rr_pVI (A := (jA m)) (v := I (m + 1) (10 + x2)) (a := m) (as := [VI x2]) (st := [VI ((200 * x1) + x2), VR (m + 26)]) dX10_layWas_34 mt_X10_byteAt ml_X10_120 mi_X10_byteAt rm_X10_layWas_X10_byteAt jz_X10_byteAt ⟨Nat.zero_le _, Nat.zero_le _⟩ (Nat.le_of_ble_eq_true rfl) (wX10_l hm) (wX10_c hm) (jasI hx2 jas0) ((sp_X10_byteAt hm) hc2) (fun hc1 => ?_)
    obtain ⟨hc3, hT⟩ := hT
    refine rr_iastore dX10_layWas_37 (wX10_l37 hm) (wX10_a37 hm) (by decide) hc3 hc1 (fun M4 eM4 => ?_)
    have hFM4 := jFr_up hF eM4 (wX10_f hm 26 (by decide))
    replace hT := hT M4 eM4
    refine jOk_mem (fun hIM4 => ?_)
    obtain ⟨hc5, hT⟩ := hT
    refine rr_iinc (i := 2) (ls' := [VR m, VI x1, VI (x2 + 1)]) dX10_layWas_38 rfl (Nat.le_of_ble_eq_true rfl) rfl rfl hc5 ?_
    refine r_goto (tgt := 14) dX10_layWas_41 rfl ?_
    exact hT I0 hFM4
set_option maxRecDepth 20000 in
theorem st_X10_layWas_0 {E : jE} {G : jG} {I : jM} {q : jM → Prop} {m : Nat} {x1 : Int} (hm : WX10 G m) (hT : (∀ a j, jRg (G.2.1 a).1 (I a j)) → jIn x1 → ((0 : Int) ≤ x1 ∧ (x1 : Int) < 31) ∧ (∀ M3, M3 = jup I (m + 25) x1 (I (m + 1) 2) → jOV E (jA m) kX10_layWas 14 [VR m, VI x1, VI 0] G M3 q)) : jOV E (jA m) kX10_layWas 0 [VR m, VI x1, VN] G I q := by
  intro I0 hF
  refine jOk_mem (fun hI => ?_)
  refine jOk_in (i := 1) rfl (fun hx1 => ?_)
  replace hT := hT hI hx1
  refine r_aload_n dX10_layWas_0 rfl (i := 0) rfl ?_
  refine rr_getR (b := (m + 25)) dX10_layWas_1 fg_X10_87 rfl rfl (wX10_l hm) (wX10_s hm) (wX10_r36 hm) ?_
  refine r_iload_n dX10_layWas_4 rfl (i := 1) rfl ?_
  refine r_aload_n dX10_layWas_5 rfl (i := 0) rfl ?_
  refine rr_getR (b := (m + 1)) dX10_layWas_6 fg_X10_7 rfl rfl (wX10_l hm) (wX10_s hm) (wX10_r0 hm) ?_
  refine r_iconst (n := 2) dX10_layWas_9 ?_
  refine rr_iaload (v := I (m + 1) 2) dX10_layWas_10 (wX10_l0 hm) (wX10_a0 hm) (by decide) ⟨by decide, by decide⟩ rfl ?_
  obtain ⟨hc2, hT⟩ := hT
  refine rr_iastore dX10_layWas_11 (wX10_l36 hm) (wX10_a36 hm) (by decide) hc2 (hI _ _).inR (fun M3 eM3 => ?_)
  have hFM3 := jFr_up hF eM3 (wX10_f hm 25 (by decide))
  replace hT := hT M3 eM3
  refine jOk_mem (fun hIM3 => ?_)
  refine r_iconst (n := 0) dX10_layWas_12 ?_
  refine rr_istore_n (i := 2) (ls' := [VR m, VI x1, VI 0]) dX10_layWas_13 rfl (Nat.le_of_ble_eq_true rfl) rfl rfl ⟨by decide, by decide⟩ ?_
  exact hT I0 hFM3
theorem en_X10_layWas {E : jE} {G : jG} {I : jM} {q : jM → Prop} {m : Nat} {x1 : Int} (hm : WX10 G m) (hT : (∀ a j, jRg (G.2.1 a).1 (I a j)) → jIn x1 → ((0 : Int) ≤ x1 ∧ (x1 : Int) < 31) ∧ (∀ M3, M3 = jup I (m + 25) x1 (I (m + 1) 2) → jOV E (jA m) kX10_layWas 14 [VR m, VI x1, VI 0] G M3 q)) : jRV E (jA m) kX10_layWas [VR m, VI x1] G I q := jRun.of mt_X10_layWas.2.2.2 1 rfl (fun _ => st_X10_layWas_0 hm hT I (fun _ _ => rfl))
set_option maxRecDepth 20000 in
theorem st_X10_areAlike_63 {E : jE} {G : jG} {I : jM} {q : Int → jM → Prop} {m : Nat} {x1 : Int} {x2 : Int} {x3 : Int} (hm : WX10 G m) (hT : (∀ a j, jRg (G.2.1 a).1 (I a j)) → jIn x1 → jIn x2 → jIn x3 → ((16 ≤ x3 → q 1 I) ∧ (¬ 16 ≤ x3 → ((0 : Int) ≤ ((16 * x1) + x3) ∧ (((16 * x1) + x3) : Int) < 496) ∧ ((0 : Int) ≤ ((16 * x2) + x3) ∧ (((16 * x2) + x3) : Int) < 496) ∧ (((I (m + 27) ((16 * x1) + x3)) = (I (m + 27) ((16 * x2) + x3)) → jIn (x3 + 1) ∧ jOI E (jA m) kX10_areAlike 63 [VR m, VI x1, VI x2, VI (x3 + 1)] G I q) ∧ (¬ (I (m + 27) ((16 * x1) + x3)) = (I (m + 27) ((16 * x2) + x3)) → q 0 I))))) : jOI E (jA m) kX10_areAlike 63 [VR m, VI x1, VI x2, VI x3] G I q := by
  intro I0 hF
  refine jOk_mem (fun hI => ?_)
  refine jOk_in (i := 1) rfl (fun hx1 => ?_)
  refine jOk_in (i := 2) rfl (fun hx2 => ?_)
  refine jOk_in (i := 3) rfl (fun hx3 => ?_)
  replace hT := hT hI hx1 hx2 hx3
  refine r_iload_n dX10_areAlike_63 rfl (i := 3) rfl ?_
  refine r_bipush (n := 16) dX10_areAlike_64 (by decide +kernel) ?_
  refine r_icmp_ge (tgt := 102) dX10_areAlike_66 rfl hx3 ⟨by decide, by decide⟩ (fun hcc => ?_) (fun hcc => ?_)
  · replace hT := hT.1 hcc
    refine r_iconst (n := 1) dX10_areAlike_102 ?_
    exact r_zret dX10_areAlike_103 rfl ⟨by decide, by decide⟩ ⟨Nat.zero_le _, Nat.zero_le _⟩ ⟨_, rfl, rfl, hF, hT⟩
  · replace hT := hT.2 hcc
    refine r_aload_n dX10_areAlike_69 rfl (i := 0) rfl ?_
    refine rr_getR (b := (m + 27)) dX10_areAlike_70 fg_X10_93 rfl rfl (wX10_l hm) (wX10_s hm) (wX10_r38 hm) ?_
    refine r_bipush (n := 16) dX10_areAlike_73 (by decide +kernel) ?_
    refine r_iload_n dX10_areAlike_75 rfl (i := 1) rfl ?_
    refine r_imul dX10_areAlike_76 ?_
    refine r_iload_n dX10_areAlike_77 rfl (i := 3) rfl ?_
    refine r_iadd dX10_areAlike_78 ?_
    obtain ⟨hc1, hT⟩ := hT
    refine rr_iaload (v := I (m + 27) ((16 * x1) + x3)) dX10_areAlike_79 (wX10_l38 hm) (wX10_a38 hm) (by decide) hc1 rfl ?_
    refine r_aload_n dX10_areAlike_80 rfl (i := 0) rfl ?_
    refine rr_getR (b := (m + 27)) dX10_areAlike_81 fg_X10_93 rfl rfl (wX10_l hm) (wX10_s hm) (wX10_r38 hm) ?_
    refine r_bipush (n := 16) dX10_areAlike_84 (by decide +kernel) ?_
    refine r_iload_n dX10_areAlike_86 rfl (i := 2) rfl ?_
    refine r_imul dX10_areAlike_87 ?_
    refine r_iload_n dX10_areAlike_88 rfl (i := 3) rfl ?_
    refine r_iadd dX10_areAlike_89 ?_
    obtain ⟨hc2, hT⟩ := hT
    refine rr_iaload (v := I (m + 27) ((16 * x2) + x3)) dX10_areAlike_90 (wX10_l38 hm) (wX10_a38 hm) (by decide) hc2 rfl ?_
    refine r_icmp_eq (tgt := 96) dX10_areAlike_91 rfl (hI _ _).inR (hI _ _).inR (fun hcc => ?_) (fun hcc => ?_)
    · replace hT := hT.1 hcc
      obtain ⟨hc3, hT⟩ := hT
      refine rr_iinc (i := 3) (ls' := [VR m, VI x1, VI x2, VI (x3 + 1)]) dX10_areAlike_96 rfl (Nat.le_of_ble_eq_true rfl) rfl rfl hc3 ?_
      refine r_goto (tgt := 63) dX10_areAlike_99 rfl ?_
      exact hT I0 hF
    · replace hT := hT.2 hcc
      refine r_iconst (n := 0) dX10_areAlike_94 ?_
      exact r_zret dX10_areAlike_95 rfl ⟨by decide, by decide⟩ ⟨Nat.zero_le _, Nat.zero_le _⟩ ⟨_, rfl, rfl, hF, hT⟩
set_option maxRecDepth 20000 in
theorem st_X10_areAlike_19 {E : jE} {G : jG} {I : jM} {q : Int → jM → Prop} {m : Nat} {x1 : Int} {x2 : Int} {x3 : Int} (hm : WX10 G m) (hT : (∀ a j, jRg (G.2.1 a).1 (I a j)) → jIn x1 → jIn x2 → jIn x3 → ((200 ≤ x3 → jOI E (jA m) kX10_areAlike 63 [VR m, VI x1, VI x2, VI 0] G I q) ∧ (¬ 200 ≤ x3 → ((0 : Int) ≤ ((200 * x1) + x3) ∧ (((200 * x1) + x3) : Int) < 6200) ∧ ((0 : Int) ≤ ((200 * x2) + x3) ∧ (((200 * x2) + x3) : Int) < 6200) ∧ (((I (m + 26) ((200 * x1) + x3)) = (I (m + 26) ((200 * x2) + x3)) → jIn (x3 + 1) ∧ jOI E (jA m) kX10_areAlike 19 [VR m, VI x1, VI x2, VI (x3 + 1)] G I q) ∧ (¬ (I (m + 26) ((200 * x1) + x3)) = (I (m + 26) ((200 * x2) + x3)) → q 0 I))))) : jOI E (jA m) kX10_areAlike 19 [VR m, VI x1, VI x2, VI x3] G I q := by
  intro I0 hF
  refine jOk_mem (fun hI => ?_)
  refine jOk_in (i := 1) rfl (fun hx1 => ?_)
  refine jOk_in (i := 2) rfl (fun hx2 => ?_)
  refine jOk_in (i := 3) rfl (fun hx3 => ?_)
  replace hT := hT hI hx1 hx2 hx3
  refine r_iload_n dX10_areAlike_19 rfl (i := 3) rfl ?_
  refine r_sipush (n := 200) dX10_areAlike_20 (by decide +kernel) ?_
  refine r_icmp_ge (tgt := 61) dX10_areAlike_23 rfl hx3 ⟨by decide, by decide⟩ (fun hcc => ?_) (fun hcc => ?_)
  · replace hT := hT.1 hcc
    refine r_iconst (n := 0) dX10_areAlike_61 ?_
    refine rr_istore_n (i := 3) (ls' := [VR m, VI x1, VI x2, VI 0]) dX10_areAlike_62 rfl (Nat.le_of_ble_eq_true rfl) rfl rfl ⟨by decide, by decide⟩ ?_
    exact hT I0 hF
  · replace hT := hT.2 hcc
    refine r_aload_n dX10_areAlike_26 rfl (i := 0) rfl ?_
    refine rr_getR (b := (m + 26)) dX10_areAlike_27 fg_X10_90 rfl rfl (wX10_l hm) (wX10_s hm) (wX10_r37 hm) ?_
    refine r_sipush (n := 200) dX10_areAlike_30 (by decide +kernel) ?_
    refine r_iload_n dX10_areAlike_33 rfl (i := 1) rfl ?_
    refine r_imul dX10_areAlike_34 ?_
    refine r_iload_n dX10_areAlike_35 rfl (i := 3) rfl ?_
    refine r_iadd dX10_areAlike_36 ?_
    obtain ⟨hc1, hT⟩ := hT
    refine rr_iaload (v := I (m + 26) ((200 * x1) + x3)) dX10_areAlike_37 (wX10_l37 hm) (wX10_a37 hm) (by decide) hc1 rfl ?_
    refine r_aload_n dX10_areAlike_38 rfl (i := 0) rfl ?_
    refine rr_getR (b := (m + 26)) dX10_areAlike_39 fg_X10_90 rfl rfl (wX10_l hm) (wX10_s hm) (wX10_r37 hm) ?_
    refine r_sipush (n := 200) dX10_areAlike_42 (by decide +kernel) ?_
    refine r_iload_n dX10_areAlike_45 rfl (i := 2) rfl ?_
    refine r_imul dX10_areAlike_46 ?_
    refine r_iload_n dX10_areAlike_47 rfl (i := 3) rfl ?_
    refine r_iadd dX10_areAlike_48 ?_
    obtain ⟨hc2, hT⟩ := hT
    refine rr_iaload (v := I (m + 26) ((200 * x2) + x3)) dX10_areAlike_49 (wX10_l37 hm) (wX10_a37 hm) (by decide) hc2 rfl ?_
    refine r_icmp_eq (tgt := 55) dX10_areAlike_50 rfl (hI _ _).inR (hI _ _).inR (fun hcc => ?_) (fun hcc => ?_)
    · replace hT := hT.1 hcc
      obtain ⟨hc3, hT⟩ := hT
      refine rr_iinc (i := 3) (ls' := [VR m, VI x1, VI x2, VI (x3 + 1)]) dX10_areAlike_55 rfl (Nat.le_of_ble_eq_true rfl) rfl rfl hc3 ?_
      refine r_goto (tgt := 19) dX10_areAlike_58 rfl ?_
      exact hT I0 hF
    · replace hT := hT.2 hcc
      refine r_iconst (n := 0) dX10_areAlike_53 ?_
      exact r_zret dX10_areAlike_54 rfl ⟨by decide, by decide⟩ ⟨Nat.zero_le _, Nat.zero_le _⟩ ⟨_, rfl, rfl, hF, hT⟩
set_option maxRecDepth 20000 in
theorem st_X10_areAlike_0 {E : jE} {G : jG} {I : jM} {q : Int → jM → Prop} {m : Nat} {x1 : Int} {x2 : Int} (hm : WX10 G m) (hT : (∀ a j, jRg (G.2.1 a).1 (I a j)) → jIn x1 → jIn x2 → ((0 : Int) ≤ x1 ∧ (x1 : Int) < 31) ∧ ((0 : Int) ≤ x2 ∧ (x2 : Int) < 31) ∧ (((I (m + 25) x1) = (I (m + 25) x2) → jOI E (jA m) kX10_areAlike 19 [VR m, VI x1, VI x2, VI 0] G I q) ∧ (¬ (I (m + 25) x1) = (I (m + 25) x2) → q 0 I))) : jOI E (jA m) kX10_areAlike 0 [VR m, VI x1, VI x2, VN] G I q := by
  intro I0 hF
  refine jOk_mem (fun hI => ?_)
  refine jOk_in (i := 1) rfl (fun hx1 => ?_)
  refine jOk_in (i := 2) rfl (fun hx2 => ?_)
  replace hT := hT hI hx1 hx2
  refine r_aload_n dX10_areAlike_0 rfl (i := 0) rfl ?_
  refine rr_getR (b := (m + 25)) dX10_areAlike_1 fg_X10_87 rfl rfl (wX10_l hm) (wX10_s hm) (wX10_r36 hm) ?_
  refine r_iload_n dX10_areAlike_4 rfl (i := 1) rfl ?_
  obtain ⟨hc1, hT⟩ := hT
  refine rr_iaload (v := I (m + 25) x1) dX10_areAlike_5 (wX10_l36 hm) (wX10_a36 hm) (by decide) hc1 rfl ?_
  refine r_aload_n dX10_areAlike_6 rfl (i := 0) rfl ?_
  refine rr_getR (b := (m + 25)) dX10_areAlike_7 fg_X10_87 rfl rfl (wX10_l hm) (wX10_s hm) (wX10_r36 hm) ?_
  refine r_iload_n dX10_areAlike_10 rfl (i := 2) rfl ?_
  obtain ⟨hc2, hT⟩ := hT
  refine rr_iaload (v := I (m + 25) x2) dX10_areAlike_11 (wX10_l36 hm) (wX10_a36 hm) (by decide) hc2 rfl ?_
  refine r_icmp_eq (tgt := 17) dX10_areAlike_12 rfl (hI _ _).inR (hI _ _).inR (fun hcc => ?_) (fun hcc => ?_)
  · replace hT := hT.1 hcc
    refine r_iconst (n := 0) dX10_areAlike_17 ?_
    refine rr_istore_n (i := 3) (ls' := [VR m, VI x1, VI x2, VI 0]) dX10_areAlike_18 rfl (Nat.le_of_ble_eq_true rfl) rfl rfl ⟨by decide, by decide⟩ ?_
    exact hT I0 hF
  · replace hT := hT.2 hcc
    refine r_iconst (n := 0) dX10_areAlike_15 ?_
    exact r_zret dX10_areAlike_16 rfl ⟨by decide, by decide⟩ ⟨Nat.zero_le _, Nat.zero_le _⟩ ⟨_, rfl, rfl, hF, hT⟩
theorem en_X10_areAlike {E : jE} {G : jG} {I : jM} {q : Int → jM → Prop} {m : Nat} {x1 : Int} {x2 : Int} (hm : WX10 G m) (hT : (∀ a j, jRg (G.2.1 a).1 (I a j)) → jIn x1 → jIn x2 → ((0 : Int) ≤ x1 ∧ (x1 : Int) < 31) ∧ ((0 : Int) ≤ x2 ∧ (x2 : Int) < 31) ∧ (((I (m + 25) x1) = (I (m + 25) x2) → jOI E (jA m) kX10_areAlike 19 [VR m, VI x1, VI x2, VI 0] G I q) ∧ (¬ (I (m + 25) x1) = (I (m + 25) x2) → q 0 I))) : jRI E (jA m) kX10_areAlike [VR m, VI x1, VI x2] G I q := jRun.of mt_X10_areAlike.2.2.2 1 rfl (fun _ => st_X10_areAlike_0 hm hT I (fun _ _ => rfl))
set_option maxRecDepth 20000 in
theorem st_X10_sameAs_2 {E : jE} {G : jG} {I : jM} {q : Int → jM → Prop} {m : Nat} {x1 : Int} {x2 : Int} (hm : WX10 G m) (hT : (∀ a j, jRg (G.2.1 a).1 (I a j)) → jIn x1 → jIn x2 → ((x1 ≤ x2 → q (-1) I) ∧ (¬ x1 ≤ x2 → jRI E (jA m) kX10_areAlike [VR m, VI x2, VI x1] G I (fun r2 I1 => ((r2 = 0 → jIn (x2 + 1) ∧ jOI E (jA m) kX10_sameAs 2 [VR m, VI x1, VI (x2 + 1)] G I1 q) ∧ (¬ r2 = 0 → q x2 I1)))))) : jOI E (jA m) kX10_sameAs 2 [VR m, VI x1, VI x2] G I q := by
  intro I0 hF
  refine jOk_mem (fun hI => ?_)
  refine jOk_in (i := 1) rfl (fun hx1 => ?_)
  refine jOk_in (i := 2) rfl (fun hx2 => ?_)
  replace hT := hT hI hx1 hx2
  refine r_iload_n dX10_sameAs_2 rfl (i := 2) rfl ?_
  refine r_iload_n dX10_sameAs_3 rfl (i := 1) rfl ?_
  refine r_icmp_ge (tgt := 24) dX10_sameAs_4 rfl hx2 hx1 (fun hcc => ?_) (fun hcc => ?_)
  · replace hT := hT.1 hcc
    refine r_iconst (n := (-1)) dX10_sameAs_24 ?_
    exact r_iret dX10_sameAs_25 rfl ⟨by decide, by decide⟩ ⟨Nat.zero_le _, Nat.zero_le _⟩ ⟨_, rfl, rfl, hF, hT⟩
  · replace hT := hT.2 hcc
    refine r_aload_n dX10_sameAs_7 rfl (i := 0) rfl ?_
    refine r_iload_n dX10_sameAs_8 rfl (i := 2) rfl ?_
    refine r_iload_n dX10_sameAs_9 rfl (i := 1) rfl ?_
    refine rr_cVI (a := m) (as := [VI x2, VI x1]) (st := []) dX10_sameAs_10 mt_X10_areAlike ml_X10_372 mi_X10_areAlike rm_X10_sameAs_X10_areAlike jz_X10_areAlike ⟨Nat.zero_le _, Nat.zero_le _⟩ (Nat.le_of_ble_eq_true rfl) (wX10_l hm) (wX10_c hm) (jasI hx2 (jasI hx1 jas0)) hT (fun r2 I1 hc3 hFI1 hT => ?_)
    replace hFI1 := jFr_tr hF hFI1
    refine jOk_mem (fun hI1 => ?_)
    refine r_if_eq (tgt := 18) dX10_sameAs_13 rfl hc3 (fun hcc => ?_) (fun hcc => ?_)
    · replace hT := hT.1 hcc
      obtain ⟨hc4, hT⟩ := hT
      refine rr_iinc (i := 2) (ls' := [VR m, VI x1, VI (x2 + 1)]) dX10_sameAs_18 rfl (Nat.le_of_ble_eq_true rfl) rfl rfl hc4 ?_
      refine r_goto (tgt := 2) dX10_sameAs_21 rfl ?_
      exact hT I0 hFI1
    · replace hT := hT.2 hcc
      refine r_iload_n dX10_sameAs_16 rfl (i := 2) rfl ?_
      exact r_iret dX10_sameAs_17 rfl hx2 ⟨Nat.zero_le _, Nat.zero_le _⟩ ⟨_, rfl, rfl, hFI1, hT⟩
set_option maxRecDepth 20000 in
theorem st_X10_sameAs_0 {E : jE} {G : jG} {I : jM} {q : Int → jM → Prop} {m : Nat} {x1 : Int} (hm : WX10 G m) (hT : (∀ a j, jRg (G.2.1 a).1 (I a j)) → jIn x1 → jOI E (jA m) kX10_sameAs 2 [VR m, VI x1, VI 0] G I q) : jOI E (jA m) kX10_sameAs 0 [VR m, VI x1, VN] G I q := by
  intro I0 hF
  refine jOk_mem (fun hI => ?_)
  refine jOk_in (i := 1) rfl (fun hx1 => ?_)
  replace hT := hT hI hx1
  refine r_iconst (n := 0) dX10_sameAs_0 ?_
  refine rr_istore_n (i := 2) (ls' := [VR m, VI x1, VI 0]) dX10_sameAs_1 rfl (Nat.le_of_ble_eq_true rfl) rfl rfl ⟨by decide, by decide⟩ ?_
  exact hT I0 hF
theorem en_X10_sameAs {E : jE} {G : jG} {I : jM} {q : Int → jM → Prop} {m : Nat} {x1 : Int} (hm : WX10 G m) (hT : (∀ a j, jRg (G.2.1 a).1 (I a j)) → jIn x1 → jOI E (jA m) kX10_sameAs 2 [VR m, VI x1, VI 0] G I q) : jRI E (jA m) kX10_sameAs [VR m, VI x1] G I q := jRun.of mt_X10_sameAs.2.2.2 1 rfl (fun _ => st_X10_sameAs_0 hm hT I (fun _ _ => rfl))
set_option maxRecDepth 20000 in
theorem st_X10_rulesOfSet_4 {E : jE} {G : jG} {I : jM} {q : Int → jM → Prop} {m : Nat} {x1 : Int} {x2 : Int} (hm : WX10 G m) (hT : (∀ a j, jRg (G.2.1 a).1 (I a j)) → jIn x1 → jIn x2 → (((I m 17) ≤ x2 → q x1 I) ∧ (¬ (I m 17) ≤ x2 → ((0 : Int) ≤ x2 ∧ (x2 : Int) < 1200) ∧ ((0 ≤ (I (m + 15) x2) ∧ (I (m + 15) x2) ≤ 1) → (((I (m + 15) x2) = 0 → jIn (x2 + 1) ∧ jOI E (jA m) kX10_rulesOfSet 4 [VR m, VI x1, VI (x2 + 1)] G I q) ∧ (¬ (I (m + 15) x2) = 0 → ((0 : Int) ≤ x2 ∧ (x2 : Int) < 1200) ∧ jIn (x2 + 1) ∧ jOI E (jA m) kX10_rulesOfSet 4 [VR m, VI (jor x1 (jshl 1 (I (m + 7) x2))), VI (x2 + 1)] G I q)))))) : jOI E (jA m) kX10_rulesOfSet 4 [VR m, VI x1, VI x2] G I q := by
  intro I0 hF
  refine jOk_mem (fun hI => ?_)
  refine jOk_in (i := 1) rfl (fun hx1 => ?_)
  refine jOk_in (i := 2) rfl (fun hx2 => ?_)
  replace hT := hT hI hx1 hx2
  refine r_iload_n dX10_rulesOfSet_4 rfl (i := 2) rfl ?_
  refine r_aload_n dX10_rulesOfSet_5 rfl (i := 0) rfl ?_
  refine rr_getI (v := I m 17) dX10_rulesOfSet_6 fg_X10_175 rfl (wX10_l hm) (wX10_s hm) rfl ?_
  refine r_icmp_ge (tgt := 38) dX10_rulesOfSet_9 rfl hx2 (hI _ _).inR (fun hcc => ?_) (fun hcc => ?_)
  · replace hT := hT.1 hcc
    refine r_iload_n dX10_rulesOfSet_38 rfl (i := 1) rfl ?_
    exact r_iret dX10_rulesOfSet_39 rfl hx1 ⟨Nat.zero_le _, Nat.zero_le _⟩ ⟨_, rfl, rfl, hF, hT⟩
  · replace hT := hT.2 hcc
    refine r_aload_n dX10_rulesOfSet_12 rfl (i := 0) rfl ?_
    refine rr_getR (b := (m + 15)) dX10_rulesOfSet_13 fg_X10_53 rfl rfl (wX10_l hm) (wX10_s hm) (wX10_r16 hm) ?_
    refine r_iload_n dX10_rulesOfSet_16 rfl (i := 2) rfl ?_
    obtain ⟨hc1, hT⟩ := hT
    refine rr_zaload (v := I (m + 15) x2) dX10_rulesOfSet_17 (wX10_l16 hm) (wX10_a16 hm) (by decide) hc1 rfl (fun hr2 => ?_)
    replace hT := hT hr2
    refine r_if_eq (tgt := 32) dX10_rulesOfSet_18 rfl (hI _ _).inR (fun hcc => ?_) (fun hcc => ?_)
    · replace hT := hT.1 hcc
      obtain ⟨hc3, hT⟩ := hT
      refine rr_iinc (i := 2) (ls' := [VR m, VI x1, VI (x2 + 1)]) dX10_rulesOfSet_32 rfl (Nat.le_of_ble_eq_true rfl) rfl rfl hc3 ?_
      refine r_goto (tgt := 4) dX10_rulesOfSet_35 rfl ?_
      exact hT I0 hF
    · replace hT := hT.2 hcc
      refine r_iload_n dX10_rulesOfSet_21 rfl (i := 1) rfl ?_
      refine r_iconst (n := 1) dX10_rulesOfSet_22 ?_
      refine r_aload_n dX10_rulesOfSet_23 rfl (i := 0) rfl ?_
      refine rr_getR (b := (m + 7)) dX10_rulesOfSet_24 fg_X10_28 rfl rfl (wX10_l hm) (wX10_s hm) (wX10_r8 hm) ?_
      refine r_iload_n dX10_rulesOfSet_27 rfl (i := 2) rfl ?_
      obtain ⟨hc4, hT⟩ := hT
      refine rr_iaload (v := I (m + 7) x2) dX10_rulesOfSet_28 (wX10_l8 hm) (wX10_a8 hm) (by decide) hc4 rfl ?_
      refine r_ishl dX10_rulesOfSet_29 ?_
      refine r_ior dX10_rulesOfSet_30 ?_
      refine rr_istore_n (i := 1) (ls' := [VR m, VI (jor x1 (jshl 1 (I (m + 7) x2))), VI x2]) dX10_rulesOfSet_31 rfl (Nat.le_of_ble_eq_true rfl) rfl rfl (j32_in _) ?_
      obtain ⟨hc5, hT⟩ := hT
      refine rr_iinc (i := 2) (ls' := [VR m, VI (jor x1 (jshl 1 (I (m + 7) x2))), VI (x2 + 1)]) dX10_rulesOfSet_32 rfl (Nat.le_of_ble_eq_true rfl) rfl rfl hc5 ?_
      refine r_goto (tgt := 4) dX10_rulesOfSet_35 rfl ?_
      exact hT I0 hF
set_option maxRecDepth 20000 in
theorem st_X10_rulesOfSet_0 {E : jE} {G : jG} {I : jM} {q : Int → jM → Prop} {m : Nat} (hm : WX10 G m) (hT : (∀ a j, jRg (G.2.1 a).1 (I a j)) → jOI E (jA m) kX10_rulesOfSet 4 [VR m, VI 0, VI 0] G I q) : jOI E (jA m) kX10_rulesOfSet 0 [VR m, VN, VN] G I q := by
  intro I0 hF
  refine jOk_mem (fun hI => ?_)
  replace hT := hT hI 
  refine r_iconst (n := 0) dX10_rulesOfSet_0 ?_
  refine rr_istore_n (i := 1) (ls' := [VR m, VI 0, VN]) dX10_rulesOfSet_1 rfl (Nat.le_of_ble_eq_true rfl) rfl rfl ⟨by decide, by decide⟩ ?_
  refine r_iconst (n := 0) dX10_rulesOfSet_2 ?_
  refine rr_istore_n (i := 2) (ls' := [VR m, VI 0, VI 0]) dX10_rulesOfSet_3 rfl (Nat.le_of_ble_eq_true rfl) rfl rfl ⟨by decide, by decide⟩ ?_
  exact hT I0 hF
theorem en_X10_rulesOfSet {E : jE} {G : jG} {I : jM} {q : Int → jM → Prop} {m : Nat} (hm : WX10 G m) (hT : (∀ a j, jRg (G.2.1 a).1 (I a j)) → jOI E (jA m) kX10_rulesOfSet 4 [VR m, VI 0, VI 0] G I q) : jRI E (jA m) kX10_rulesOfSet [VR m] G I q := jRun.of mt_X10_rulesOfSet.2.2.2 2 rfl (fun _ => st_X10_rulesOfSet_0 hm hT I (fun _ _ => rfl))
set_option maxRecDepth 20000 in
theorem st_X10_goCourse_10 {E : jE} {G : jG} {I : jM} {q : jM → Prop} {m : Nat} (hm : WX10 G m) (hT : (∀ a j, jRg (G.2.1 a).1 (I a j)) → jRV E (jA m) kX10_layWas [VR m, VI (I m 41)] G I (fun I1 => jRI E (jA m) kX10_sameAs [VR m, VI (I1 m 41)] G I1 (fun r3 I2 => (∀ M5, M5 = jup I2 m 42 r3 → jRV E (jA m) kX10_layFindings [VR m] G M5 (fun I6 => (((I6 m 42) = (-1) → ((¬ (I6 m 20) = 0 → jRI E (jA m) kX10_longThen [VR m, VI (-1)] G I6 (fun r8 I7 => ((r8 ≤ 200 → ((¬ (I7 m 41) = 30 → (∀ M10, M10 = jup I7 m 40 (-1) → (((-1) = (-1) → jRI E (jA m) kX10_rulesOfSet [VR m] G M10 (fun r12 I11 => ((0 : Int) ≤ (I7 m 41) ∧ ((I7 m 41) : Int) < 31) ∧ (∀ M15, M15 = jup I11 (m + 28) (I7 m 41) r12 → jIn ((I11 m 43) + (I11 m 20)) ∧ (∀ M16, M16 = jup M15 m 43 ((I11 m 43) + (I11 m 20)) → jRV E (jA m) kX10_makeNow [VR m, VI (-1)] G M16 (fun I18 => jIn ((I18 m 41) + 1) ∧ (∀ M19, M19 = jup I18 m 41 ((I18 m 41) + 1) → jOV E (jA m) kX10_goCourse 10 [VR m] G M19 q)))))) ∧ (¬ (-1) = (-1) → q M10)))) ∧ ((I7 m 41) = 30 → (∀ M21, M21 = jup I7 m 40 3 → ((3 = (-1) → jRI E (jA m) kX10_rulesOfSet [VR m] G M21 (fun r23 I22 => ((0 : Int) ≤ (I7 m 41) ∧ ((I7 m 41) : Int) < 31) ∧ (∀ M26, M26 = jup I22 (m + 28) (I7 m 41) r23 → jIn ((I22 m 43) + (I22 m 20)) ∧ (∀ M27, M27 = jup M26 m 43 ((I22 m 43) + (I22 m 20)) → jRV E (jA m) kX10_makeNow [VR m, VI (-1)] G M27 (fun I29 => jIn ((I29 m 41) + 1) ∧ (∀ M30, M30 = jup I29 m 41 ((I29 m 41) + 1) → jOV E (jA m) kX10_goCourse 10 [VR m] G M30 q)))))) ∧ (¬ 3 = (-1) → q M21)))))) ∧ (¬ r8 ≤ 200 → (∀ M32, M32 = jup I7 m 40 2 → ((2 = (-1) → jRI E (jA m) kX10_rulesOfSet [VR m] G M32 (fun r34 I33 => ((0 : Int) ≤ (I7 m 41) ∧ ((I7 m 41) : Int) < 31) ∧ (∀ M37, M37 = jup I33 (m + 28) (I7 m 41) r34 → jIn ((I33 m 43) + (I33 m 20)) ∧ (∀ M38, M38 = jup M37 m 43 ((I33 m 43) + (I33 m 20)) → jRV E (jA m) kX10_makeNow [VR m, VI (-1)] G M38 (fun I40 => jIn ((I40 m 41) + 1) ∧ (∀ M41, M41 = jup I40 m 41 ((I40 m 41) + 1) → jOV E (jA m) kX10_goCourse 10 [VR m] G M41 q)))))) ∧ (¬ 2 = (-1) → q M32))))))) ∧ ((I6 m 20) = 0 → (∀ M43, M43 = jup I6 m 40 0 → ((0 = (-1) → jRI E (jA m) kX10_rulesOfSet [VR m] G M43 (fun r45 I44 => ((0 : Int) ≤ (I6 m 41) ∧ ((I6 m 41) : Int) < 31) ∧ (∀ M48, M48 = jup I44 (m + 28) (I6 m 41) r45 → jIn ((I44 m 43) + (I44 m 20)) ∧ (∀ M49, M49 = jup M48 m 43 ((I44 m 43) + (I44 m 20)) → jRV E (jA m) kX10_makeNow [VR m, VI (-1)] G M49 (fun I51 => jIn ((I51 m 41) + 1) ∧ (∀ M52, M52 = jup I51 m 41 ((I51 m 41) + 1) → jOV E (jA m) kX10_goCourse 10 [VR m] G M52 q)))))) ∧ (¬ 0 = (-1) → q M43)))))) ∧ (¬ (I6 m 42) = (-1) → (∀ M54, M54 = jup I6 m 40 1 → ((1 = (-1) → jRI E (jA m) kX10_rulesOfSet [VR m] G M54 (fun r56 I55 => ((0 : Int) ≤ (I6 m 41) ∧ ((I6 m 41) : Int) < 31) ∧ (∀ M59, M59 = jup I55 (m + 28) (I6 m 41) r56 → jIn ((I55 m 43) + (I55 m 20)) ∧ (∀ M60, M60 = jup M59 m 43 ((I55 m 43) + (I55 m 20)) → jRV E (jA m) kX10_makeNow [VR m, VI (-1)] G M60 (fun I62 => jIn ((I62 m 41) + 1) ∧ (∀ M63, M63 = jup I62 m 41 ((I62 m 41) + 1) → jOV E (jA m) kX10_goCourse 10 [VR m] G M63 q)))))) ∧ (¬ 1 = (-1) → q M54)))))))))) : jOV E (jA m) kX10_goCourse 10 [VR m] G I q := by
  intro I0 hF
  refine jOk_mem (fun hI => ?_)
  replace hT := hT hI 
  refine r_aload_n dX10_goCourse_10 rfl (i := 0) rfl ?_
  refine r_aload_n dX10_goCourse_11 rfl (i := 0) rfl ?_
  refine rr_getI (v := I m 41) dX10_goCourse_12 fg_X10_375 rfl (wX10_l hm) (wX10_s hm) rfl ?_
  refine rr_cVV (a := m) (as := [VI (I m 41)]) (st := []) dX10_goCourse_15 mt_X10_layWas ml_X10_381 mi_X10_layWas rm_X10_goCourse_X10_layWas jz_X10_layWas ⟨Nat.zero_le _, Nat.zero_le _⟩ (Nat.le_of_ble_eq_true rfl) (wX10_l hm) (wX10_c hm) (jasI (hI _ _).inR jas0) hT (fun I1 hFI1 hT => ?_)
  replace hFI1 := jFr_tr hF hFI1
  refine jOk_mem (fun hI1 => ?_)
  refine r_aload_n dX10_goCourse_18 rfl (i := 0) rfl ?_
  refine r_aload_n dX10_goCourse_19 rfl (i := 0) rfl ?_
  refine r_aload_n dX10_goCourse_20 rfl (i := 0) rfl ?_
  refine rr_getI (v := I1 m 41) dX10_goCourse_21 fg_X10_375 rfl (wX10_l hm) (wX10_s hm) rfl ?_
  refine rr_cVI (a := m) (as := [VI (I1 m 41)]) (st := [VR m]) dX10_goCourse_24 mt_X10_sameAs ml_X10_384 mi_X10_sameAs rm_X10_goCourse_X10_sameAs jz_X10_sameAs ⟨Nat.zero_le _, Nat.zero_le _⟩ (Nat.le_of_ble_eq_true rfl) (wX10_l hm) (wX10_c hm) (jasI (hI1 _ _).inR jas0) hT (fun r3 I2 hc4 hFI2 hT => ?_)
  replace hFI2 := jFr_tr hFI1 hFI2
  refine jOk_mem (fun hI2 => ?_)
  refine rr_putI (jj := 42) dX10_goCourse_27 fp_X10_387 rfl rfl (wX10_l hm) (wX10_s hm) hc4 (fun M5 eM5 => ?_)
  have hFM5 := jFr_up hFI2 eM5 (wX10_f hm 0 (by decide))
  replace hT := hT M5 eM5
  refine jOk_mem (fun hIM5 => ?_)
  refine r_aload_n dX10_goCourse_30 rfl (i := 0) rfl ?_
  refine rr_cVV (a := m) (as := []) (st := []) dX10_goCourse_31 mt_X10_layFindings ml_X10_229 mi_X10_layFindings rm_X10_goCourse_X10_layFindings jz_X10_layFindings ⟨Nat.zero_le _, Nat.zero_le _⟩ (Nat.le_of_ble_eq_true rfl) (wX10_l hm) (wX10_c hm) jas0 hT (fun I6 hFI6 hT => ?_)
  replace hFI6 := jFr_tr hFM5 hFI6
  refine jOk_mem (fun hI6 => ?_)
  refine r_aload_n dX10_goCourse_34 rfl (i := 0) rfl ?_
  refine r_aload_n dX10_goCourse_35 rfl (i := 0) rfl ?_
  refine rr_getI (v := I6 m 42) dX10_goCourse_36 fg_X10_387 rfl (wX10_l hm) (wX10_s hm) rfl ?_
  refine r_iconst (n := (-1)) dX10_goCourse_39 ?_
  refine r_icmp_eq (tgt := 47) dX10_goCourse_40 rfl (hI6 _ _).inR ⟨by decide, by decide⟩ (fun hcc => ?_) (fun hcc => ?_)
  · replace hT := hT.1 hcc
    refine r_aload_n dX10_goCourse_47 rfl (i := 0) rfl ?_
    refine rr_getI (v := I6 m 20) dX10_goCourse_48 fg_X10_211 rfl (wX10_l hm) (wX10_s hm) rfl ?_
    refine r_if_ne (tgt := 58) dX10_goCourse_51 rfl (hI6 _ _).inR (fun hcc => ?_) (fun hcc => ?_)
    · replace hT := hT.1 hcc
      refine r_aload_n dX10_goCourse_58 rfl (i := 0) rfl ?_
      refine r_iconst (n := (-1)) dX10_goCourse_59 ?_
      refine rr_cVI (a := m) (as := [VI (-1)]) (st := [VR m]) dX10_goCourse_60 mt_X10_longThen ml_X10_226 mi_X10_longThen rm_X10_goCourse_X10_longThen jz_X10_longThen ⟨Nat.zero_le _, Nat.zero_le _⟩ (Nat.le_of_ble_eq_true rfl) (wX10_l hm) (wX10_c hm) (jasI ⟨by decide, by decide⟩ jas0) hT (fun r8 I7 hc9 hFI7 hT => ?_)
      replace hFI7 := jFr_tr hFI6 hFI7
      refine jOk_mem (fun hI7 => ?_)
      refine r_sipush (n := 200) dX10_goCourse_63 (by decide +kernel) ?_
      refine r_icmp_le (tgt := 73) dX10_goCourse_66 rfl hc9 ⟨by decide, by decide⟩ (fun hcc => ?_) (fun hcc => ?_)
      · replace hT := hT.1 hcc
        refine r_aload_n dX10_goCourse_73 rfl (i := 0) rfl ?_
        refine rr_getI (v := I7 m 41) dX10_goCourse_74 fg_X10_375 rfl (wX10_l hm) (wX10_s hm) rfl ?_
        refine r_bipush (n := 30) dX10_goCourse_77 (by decide +kernel) ?_
        refine r_icmp_ne (tgt := 86) dX10_goCourse_79 rfl (hI7 _ _).inR ⟨by decide, by decide⟩ (fun hcc => ?_) (fun hcc => ?_)
        · replace hT := hT.1 hcc
          refine r_iconst (n := (-1)) dX10_goCourse_86 ?_
          refine rr_putI (jj := 40) dX10_goCourse_87 fp_X10_390 rfl rfl (wX10_l hm) (wX10_s hm) ⟨by decide, by decide⟩ (fun M10 eM10 => ?_)
          have hFM10 := jFr_up hFI7 eM10 (wX10_f hm 0 (by decide))
          replace hT := hT M10 eM10
          refine jOk_mem (fun hIM10 => ?_)
          refine r_aload_n dX10_goCourse_90 rfl (i := 0) rfl ?_
          refine rr_getI (v := (-1)) dX10_goCourse_91 fg_X10_390 rfl (wX10_l hm) (wX10_s hm) (jr_eq eM10) ?_
          refine r_iconst (n := (-1)) dX10_goCourse_94 ?_
          refine r_icmp_eq (tgt := 99) dX10_goCourse_95 rfl ⟨by decide, by decide⟩ ⟨by decide, by decide⟩ (fun hcc => ?_) (fun hcc => ?_)
          · replace hT := hT.1 hcc
            refine r_aload_n dX10_goCourse_99 rfl (i := 0) rfl ?_
            refine rr_getR (b := (m + 28)) dX10_goCourse_100 fg_X10_96 rfl rfl (wX10_l hm) (wX10_s hm) (wX10_r39 hm) ?_
            refine r_aload_n dX10_goCourse_103 rfl (i := 0) rfl ?_
            refine rr_getI (v := I7 m 41) dX10_goCourse_104 fg_X10_375 rfl (wX10_l hm) (wX10_s hm) (jr_nj eM10 (by decide)) ?_
            refine r_aload_n dX10_goCourse_107 rfl (i := 0) rfl ?_
            refine rr_cVI (a := m) (as := []) (st := [VI (I7 m 41), VR (m + 28)]) dX10_goCourse_108 mt_X10_rulesOfSet ml_X10_393 mi_X10_rulesOfSet rm_X10_goCourse_X10_rulesOfSet jz_X10_rulesOfSet ⟨Nat.zero_le _, Nat.zero_le _⟩ (Nat.le_of_ble_eq_true rfl) (wX10_l hm) (wX10_c hm) jas0 hT (fun r12 I11 hc13 hFI11 hT => ?_)
            replace hFI11 := jFr_tr hFM10 hFI11
            refine jOk_mem (fun hI11 => ?_)
            obtain ⟨hc14, hT⟩ := hT
            refine rr_iastore dX10_goCourse_111 (wX10_l39 hm) (wX10_a39 hm) (by decide) hc14 hc13 (fun M15 eM15 => ?_)
            have hFM15 := jFr_up hFI11 eM15 (wX10_f hm 28 (by decide))
            replace hT := hT M15 eM15
            refine jOk_mem (fun hIM15 => ?_)
            refine r_aload_n dX10_goCourse_112 rfl (i := 0) rfl ?_
            refine r_dup dX10_goCourse_113 rfl ?_
            refine rr_getI (v := I11 m 43) dX10_goCourse_114 fg_X10_378 rfl (wX10_l hm) (wX10_s hm) (jr_na eM15 (by omega)) ?_
            refine r_aload_n dX10_goCourse_117 rfl (i := 0) rfl ?_
            refine rr_getI (v := I11 m 20) dX10_goCourse_118 fg_X10_211 rfl (wX10_l hm) (wX10_s hm) (jr_na eM15 (by omega)) ?_
            refine r_iadd dX10_goCourse_121 ?_
            obtain ⟨hc17, hT⟩ := hT
            refine rr_putI (jj := 43) dX10_goCourse_122 fp_X10_378 rfl rfl (wX10_l hm) (wX10_s hm) hc17 (fun M16 eM16 => ?_)
            have hFM16 := jFr_up hFM15 eM16 (wX10_f hm 0 (by decide))
            replace hT := hT M16 eM16
            refine jOk_mem (fun hIM16 => ?_)
            refine r_aload_n dX10_goCourse_125 rfl (i := 0) rfl ?_
            refine r_iconst (n := (-1)) dX10_goCourse_126 ?_
            refine rr_cVV (a := m) (as := [VI (-1)]) (st := []) dX10_goCourse_127 mt_X10_makeNow ml_X10_235 mi_X10_makeNow rm_X10_goCourse_X10_makeNow jz_X10_makeNow ⟨Nat.zero_le _, Nat.zero_le _⟩ (Nat.le_of_ble_eq_true rfl) (wX10_l hm) (wX10_c hm) (jasI ⟨by decide, by decide⟩ jas0) hT (fun I18 hFI18 hT => ?_)
            replace hFI18 := jFr_tr hFM16 hFI18
            refine jOk_mem (fun hI18 => ?_)
            refine r_aload_n dX10_goCourse_130 rfl (i := 0) rfl ?_
            refine r_dup dX10_goCourse_131 rfl ?_
            refine rr_getI (v := I18 m 41) dX10_goCourse_132 fg_X10_375 rfl (wX10_l hm) (wX10_s hm) rfl ?_
            refine r_iconst (n := 1) dX10_goCourse_135 ?_
            refine r_iadd dX10_goCourse_136 ?_
            obtain ⟨hc20, hT⟩ := hT
            refine rr_putI (jj := 41) dX10_goCourse_137 fp_X10_375 rfl rfl (wX10_l hm) (wX10_s hm) hc20 (fun M19 eM19 => ?_)
            have hFM19 := jFr_up hFI18 eM19 (wX10_f hm 0 (by decide))
            replace hT := hT M19 eM19
            refine jOk_mem (fun hIM19 => ?_)
            refine r_goto (tgt := 10) dX10_goCourse_140 rfl ?_
            exact hT I0 hFM19
          · replace hT := hT.2 hcc
            exact r_vret dX10_goCourse_98 rfl ⟨Nat.zero_le _, Nat.zero_le _⟩ ⟨rfl, rfl, hFM10, hT⟩
        · replace hT := hT.2 hcc
          refine r_iconst (n := 3) dX10_goCourse_82 ?_
          refine r_goto (tgt := 87) dX10_goCourse_83 rfl ?_
          refine rr_putI (jj := 40) dX10_goCourse_87 fp_X10_390 rfl rfl (wX10_l hm) (wX10_s hm) ⟨by decide, by decide⟩ (fun M21 eM21 => ?_)
          have hFM21 := jFr_up hFI7 eM21 (wX10_f hm 0 (by decide))
          replace hT := hT M21 eM21
          refine jOk_mem (fun hIM21 => ?_)
          refine r_aload_n dX10_goCourse_90 rfl (i := 0) rfl ?_
          refine rr_getI (v := 3) dX10_goCourse_91 fg_X10_390 rfl (wX10_l hm) (wX10_s hm) (jr_eq eM21) ?_
          refine r_iconst (n := (-1)) dX10_goCourse_94 ?_
          refine r_icmp_eq (tgt := 99) dX10_goCourse_95 rfl ⟨by decide, by decide⟩ ⟨by decide, by decide⟩ (fun hcc => ?_) (fun hcc => ?_)
          · replace hT := hT.1 hcc
            refine r_aload_n dX10_goCourse_99 rfl (i := 0) rfl ?_
            refine rr_getR (b := (m + 28)) dX10_goCourse_100 fg_X10_96 rfl rfl (wX10_l hm) (wX10_s hm) (wX10_r39 hm) ?_
            refine r_aload_n dX10_goCourse_103 rfl (i := 0) rfl ?_
            refine rr_getI (v := I7 m 41) dX10_goCourse_104 fg_X10_375 rfl (wX10_l hm) (wX10_s hm) (jr_nj eM21 (by decide)) ?_
            refine r_aload_n dX10_goCourse_107 rfl (i := 0) rfl ?_
            refine rr_cVI (a := m) (as := []) (st := [VI (I7 m 41), VR (m + 28)]) dX10_goCourse_108 mt_X10_rulesOfSet ml_X10_393 mi_X10_rulesOfSet rm_X10_goCourse_X10_rulesOfSet jz_X10_rulesOfSet ⟨Nat.zero_le _, Nat.zero_le _⟩ (Nat.le_of_ble_eq_true rfl) (wX10_l hm) (wX10_c hm) jas0 hT (fun r23 I22 hc24 hFI22 hT => ?_)
            replace hFI22 := jFr_tr hFM21 hFI22
            refine jOk_mem (fun hI22 => ?_)
            obtain ⟨hc25, hT⟩ := hT
            refine rr_iastore dX10_goCourse_111 (wX10_l39 hm) (wX10_a39 hm) (by decide) hc25 hc24 (fun M26 eM26 => ?_)
            have hFM26 := jFr_up hFI22 eM26 (wX10_f hm 28 (by decide))
            replace hT := hT M26 eM26
            refine jOk_mem (fun hIM26 => ?_)
            refine r_aload_n dX10_goCourse_112 rfl (i := 0) rfl ?_
            refine r_dup dX10_goCourse_113 rfl ?_
            refine rr_getI (v := I22 m 43) dX10_goCourse_114 fg_X10_378 rfl (wX10_l hm) (wX10_s hm) (jr_na eM26 (by omega)) ?_
            refine r_aload_n dX10_goCourse_117 rfl (i := 0) rfl ?_
            refine rr_getI (v := I22 m 20) dX10_goCourse_118 fg_X10_211 rfl (wX10_l hm) (wX10_s hm) (jr_na eM26 (by omega)) ?_
            refine r_iadd dX10_goCourse_121 ?_
            obtain ⟨hc28, hT⟩ := hT
            refine rr_putI (jj := 43) dX10_goCourse_122 fp_X10_378 rfl rfl (wX10_l hm) (wX10_s hm) hc28 (fun M27 eM27 => ?_)
            have hFM27 := jFr_up hFM26 eM27 (wX10_f hm 0 (by decide))
            replace hT := hT M27 eM27
            refine jOk_mem (fun hIM27 => ?_)
            refine r_aload_n dX10_goCourse_125 rfl (i := 0) rfl ?_
            refine r_iconst (n := (-1)) dX10_goCourse_126 ?_
            refine rr_cVV (a := m) (as := [VI (-1)]) (st := []) dX10_goCourse_127 mt_X10_makeNow ml_X10_235 mi_X10_makeNow rm_X10_goCourse_X10_makeNow jz_X10_makeNow ⟨Nat.zero_le _, Nat.zero_le _⟩ (Nat.le_of_ble_eq_true rfl) (wX10_l hm) (wX10_c hm) (jasI ⟨by decide, by decide⟩ jas0) hT (fun I29 hFI29 hT => ?_)
            replace hFI29 := jFr_tr hFM27 hFI29
            refine jOk_mem (fun hI29 => ?_)
            refine r_aload_n dX10_goCourse_130 rfl (i := 0) rfl ?_
            refine r_dup dX10_goCourse_131 rfl ?_
            refine rr_getI (v := I29 m 41) dX10_goCourse_132 fg_X10_375 rfl (wX10_l hm) (wX10_s hm) rfl ?_
            refine r_iconst (n := 1) dX10_goCourse_135 ?_
            refine r_iadd dX10_goCourse_136 ?_
            obtain ⟨hc31, hT⟩ := hT
            refine rr_putI (jj := 41) dX10_goCourse_137 fp_X10_375 rfl rfl (wX10_l hm) (wX10_s hm) hc31 (fun M30 eM30 => ?_)
            have hFM30 := jFr_up hFI29 eM30 (wX10_f hm 0 (by decide))
            replace hT := hT M30 eM30
            refine jOk_mem (fun hIM30 => ?_)
            refine r_goto (tgt := 10) dX10_goCourse_140 rfl ?_
            exact hT I0 hFM30
          · replace hT := hT.2 hcc
            exact r_vret dX10_goCourse_98 rfl ⟨Nat.zero_le _, Nat.zero_le _⟩ ⟨rfl, rfl, hFM21, hT⟩
      · replace hT := hT.2 hcc
        refine r_iconst (n := 2) dX10_goCourse_69 ?_
        refine r_goto (tgt := 87) dX10_goCourse_70 rfl ?_
        refine rr_putI (jj := 40) dX10_goCourse_87 fp_X10_390 rfl rfl (wX10_l hm) (wX10_s hm) ⟨by decide, by decide⟩ (fun M32 eM32 => ?_)
        have hFM32 := jFr_up hFI7 eM32 (wX10_f hm 0 (by decide))
        replace hT := hT M32 eM32
        refine jOk_mem (fun hIM32 => ?_)
        refine r_aload_n dX10_goCourse_90 rfl (i := 0) rfl ?_
        refine rr_getI (v := 2) dX10_goCourse_91 fg_X10_390 rfl (wX10_l hm) (wX10_s hm) (jr_eq eM32) ?_
        refine r_iconst (n := (-1)) dX10_goCourse_94 ?_
        refine r_icmp_eq (tgt := 99) dX10_goCourse_95 rfl ⟨by decide, by decide⟩ ⟨by decide, by decide⟩ (fun hcc => ?_) (fun hcc => ?_)
        · replace hT := hT.1 hcc
          refine r_aload_n dX10_goCourse_99 rfl (i := 0) rfl ?_
          refine rr_getR (b := (m + 28)) dX10_goCourse_100 fg_X10_96 rfl rfl (wX10_l hm) (wX10_s hm) (wX10_r39 hm) ?_
          refine r_aload_n dX10_goCourse_103 rfl (i := 0) rfl ?_
          refine rr_getI (v := I7 m 41) dX10_goCourse_104 fg_X10_375 rfl (wX10_l hm) (wX10_s hm) (jr_nj eM32 (by decide)) ?_
          refine r_aload_n dX10_goCourse_107 rfl (i := 0) rfl ?_
          refine rr_cVI (a := m) (as := []) (st := [VI (I7 m 41), VR (m + 28)]) dX10_goCourse_108 mt_X10_rulesOfSet ml_X10_393 mi_X10_rulesOfSet rm_X10_goCourse_X10_rulesOfSet jz_X10_rulesOfSet ⟨Nat.zero_le _, Nat.zero_le _⟩ (Nat.le_of_ble_eq_true rfl) (wX10_l hm) (wX10_c hm) jas0 hT (fun r34 I33 hc35 hFI33 hT => ?_)
          replace hFI33 := jFr_tr hFM32 hFI33
          refine jOk_mem (fun hI33 => ?_)
          obtain ⟨hc36, hT⟩ := hT
          refine rr_iastore dX10_goCourse_111 (wX10_l39 hm) (wX10_a39 hm) (by decide) hc36 hc35 (fun M37 eM37 => ?_)
          have hFM37 := jFr_up hFI33 eM37 (wX10_f hm 28 (by decide))
          replace hT := hT M37 eM37
          refine jOk_mem (fun hIM37 => ?_)
          refine r_aload_n dX10_goCourse_112 rfl (i := 0) rfl ?_
          refine r_dup dX10_goCourse_113 rfl ?_
          refine rr_getI (v := I33 m 43) dX10_goCourse_114 fg_X10_378 rfl (wX10_l hm) (wX10_s hm) (jr_na eM37 (by omega)) ?_
          refine r_aload_n dX10_goCourse_117 rfl (i := 0) rfl ?_
          refine rr_getI (v := I33 m 20) dX10_goCourse_118 fg_X10_211 rfl (wX10_l hm) (wX10_s hm) (jr_na eM37 (by omega)) ?_
          refine r_iadd dX10_goCourse_121 ?_
          obtain ⟨hc39, hT⟩ := hT
          refine rr_putI (jj := 43) dX10_goCourse_122 fp_X10_378 rfl rfl (wX10_l hm) (wX10_s hm) hc39 (fun M38 eM38 => ?_)
          have hFM38 := jFr_up hFM37 eM38 (wX10_f hm 0 (by decide))
          replace hT := hT M38 eM38
          refine jOk_mem (fun hIM38 => ?_)
          refine r_aload_n dX10_goCourse_125 rfl (i := 0) rfl ?_
          refine r_iconst (n := (-1)) dX10_goCourse_126 ?_
          refine rr_cVV (a := m) (as := [VI (-1)]) (st := []) dX10_goCourse_127 mt_X10_makeNow ml_X10_235 mi_X10_makeNow rm_X10_goCourse_X10_makeNow jz_X10_makeNow ⟨Nat.zero_le _, Nat.zero_le _⟩ (Nat.le_of_ble_eq_true rfl) (wX10_l hm) (wX10_c hm) (jasI ⟨by decide, by decide⟩ jas0) hT (fun I40 hFI40 hT => ?_)
          replace hFI40 := jFr_tr hFM38 hFI40
          refine jOk_mem (fun hI40 => ?_)
          refine r_aload_n dX10_goCourse_130 rfl (i := 0) rfl ?_
          refine r_dup dX10_goCourse_131 rfl ?_
          refine rr_getI (v := I40 m 41) dX10_goCourse_132 fg_X10_375 rfl (wX10_l hm) (wX10_s hm) rfl ?_
          refine r_iconst (n := 1) dX10_goCourse_135 ?_
          refine r_iadd dX10_goCourse_136 ?_
          obtain ⟨hc42, hT⟩ := hT
          refine rr_putI (jj := 41) dX10_goCourse_137 fp_X10_375 rfl rfl (wX10_l hm) (wX10_s hm) hc42 (fun M41 eM41 => ?_)
          have hFM41 := jFr_up hFI40 eM41 (wX10_f hm 0 (by decide))
          replace hT := hT M41 eM41
          refine jOk_mem (fun hIM41 => ?_)
          refine r_goto (tgt := 10) dX10_goCourse_140 rfl ?_
          exact hT I0 hFM41
        · replace hT := hT.2 hcc
          exact r_vret dX10_goCourse_98 rfl ⟨Nat.zero_le _, Nat.zero_le _⟩ ⟨rfl, rfl, hFM32, hT⟩
    · replace hT := hT.2 hcc
      refine r_iconst (n := 0) dX10_goCourse_54 ?_
      refine r_goto (tgt := 87) dX10_goCourse_55 rfl ?_
      refine rr_putI (jj := 40) dX10_goCourse_87 fp_X10_390 rfl rfl (wX10_l hm) (wX10_s hm) ⟨by decide, by decide⟩ (fun M43 eM43 => ?_)
      have hFM43 := jFr_up hFI6 eM43 (wX10_f hm 0 (by decide))
      replace hT := hT M43 eM43
      refine jOk_mem (fun hIM43 => ?_)
      refine r_aload_n dX10_goCourse_90 rfl (i := 0) rfl ?_
      refine rr_getI (v := 0) dX10_goCourse_91 fg_X10_390 rfl (wX10_l hm) (wX10_s hm) (jr_eq eM43) ?_
      refine r_iconst (n := (-1)) dX10_goCourse_94 ?_
      refine r_icmp_eq (tgt := 99) dX10_goCourse_95 rfl ⟨by decide, by decide⟩ ⟨by decide, by decide⟩ (fun hcc => ?_) (fun hcc => ?_)
      · replace hT := hT.1 hcc
        refine r_aload_n dX10_goCourse_99 rfl (i := 0) rfl ?_
        refine rr_getR (b := (m + 28)) dX10_goCourse_100 fg_X10_96 rfl rfl (wX10_l hm) (wX10_s hm) (wX10_r39 hm) ?_
        refine r_aload_n dX10_goCourse_103 rfl (i := 0) rfl ?_
        refine rr_getI (v := I6 m 41) dX10_goCourse_104 fg_X10_375 rfl (wX10_l hm) (wX10_s hm) (jr_nj eM43 (by decide)) ?_
        refine r_aload_n dX10_goCourse_107 rfl (i := 0) rfl ?_
        refine rr_cVI (a := m) (as := []) (st := [VI (I6 m 41), VR (m + 28)]) dX10_goCourse_108 mt_X10_rulesOfSet ml_X10_393 mi_X10_rulesOfSet rm_X10_goCourse_X10_rulesOfSet jz_X10_rulesOfSet ⟨Nat.zero_le _, Nat.zero_le _⟩ (Nat.le_of_ble_eq_true rfl) (wX10_l hm) (wX10_c hm) jas0 hT (fun r45 I44 hc46 hFI44 hT => ?_)
        replace hFI44 := jFr_tr hFM43 hFI44
        refine jOk_mem (fun hI44 => ?_)
        obtain ⟨hc47, hT⟩ := hT
        refine rr_iastore dX10_goCourse_111 (wX10_l39 hm) (wX10_a39 hm) (by decide) hc47 hc46 (fun M48 eM48 => ?_)
        have hFM48 := jFr_up hFI44 eM48 (wX10_f hm 28 (by decide))
        replace hT := hT M48 eM48
        refine jOk_mem (fun hIM48 => ?_)
        refine r_aload_n dX10_goCourse_112 rfl (i := 0) rfl ?_
        refine r_dup dX10_goCourse_113 rfl ?_
        refine rr_getI (v := I44 m 43) dX10_goCourse_114 fg_X10_378 rfl (wX10_l hm) (wX10_s hm) (jr_na eM48 (by omega)) ?_
        refine r_aload_n dX10_goCourse_117 rfl (i := 0) rfl ?_
        refine rr_getI (v := I44 m 20) dX10_goCourse_118 fg_X10_211 rfl (wX10_l hm) (wX10_s hm) (jr_na eM48 (by omega)) ?_
        refine r_iadd dX10_goCourse_121 ?_
        obtain ⟨hc50, hT⟩ := hT
        refine rr_putI (jj := 43) dX10_goCourse_122 fp_X10_378 rfl rfl (wX10_l hm) (wX10_s hm) hc50 (fun M49 eM49 => ?_)
        have hFM49 := jFr_up hFM48 eM49 (wX10_f hm 0 (by decide))
        replace hT := hT M49 eM49
        refine jOk_mem (fun hIM49 => ?_)
        refine r_aload_n dX10_goCourse_125 rfl (i := 0) rfl ?_
        refine r_iconst (n := (-1)) dX10_goCourse_126 ?_
        refine rr_cVV (a := m) (as := [VI (-1)]) (st := []) dX10_goCourse_127 mt_X10_makeNow ml_X10_235 mi_X10_makeNow rm_X10_goCourse_X10_makeNow jz_X10_makeNow ⟨Nat.zero_le _, Nat.zero_le _⟩ (Nat.le_of_ble_eq_true rfl) (wX10_l hm) (wX10_c hm) (jasI ⟨by decide, by decide⟩ jas0) hT (fun I51 hFI51 hT => ?_)
        replace hFI51 := jFr_tr hFM49 hFI51
        refine jOk_mem (fun hI51 => ?_)
        refine r_aload_n dX10_goCourse_130 rfl (i := 0) rfl ?_
        refine r_dup dX10_goCourse_131 rfl ?_
        refine rr_getI (v := I51 m 41) dX10_goCourse_132 fg_X10_375 rfl (wX10_l hm) (wX10_s hm) rfl ?_
        refine r_iconst (n := 1) dX10_goCourse_135 ?_
        refine r_iadd dX10_goCourse_136 ?_
        obtain ⟨hc53, hT⟩ := hT
        refine rr_putI (jj := 41) dX10_goCourse_137 fp_X10_375 rfl rfl (wX10_l hm) (wX10_s hm) hc53 (fun M52 eM52 => ?_)
        have hFM52 := jFr_up hFI51 eM52 (wX10_f hm 0 (by decide))
        replace hT := hT M52 eM52
        refine jOk_mem (fun hIM52 => ?_)
        refine r_goto (tgt := 10) dX10_goCourse_140 rfl ?_
        exact hT I0 hFM52
      · replace hT := hT.2 hcc
        exact r_vret dX10_goCourse_98 rfl ⟨Nat.zero_le _, Nat.zero_le _⟩ ⟨rfl, rfl, hFM43, hT⟩
  · replace hT := hT.2 hcc
    refine r_iconst (n := 1) dX10_goCourse_43 ?_
    refine r_goto (tgt := 87) dX10_goCourse_44 rfl ?_
    refine rr_putI (jj := 40) dX10_goCourse_87 fp_X10_390 rfl rfl (wX10_l hm) (wX10_s hm) ⟨by decide, by decide⟩ (fun M54 eM54 => ?_)
    have hFM54 := jFr_up hFI6 eM54 (wX10_f hm 0 (by decide))
    replace hT := hT M54 eM54
    refine jOk_mem (fun hIM54 => ?_)
    refine r_aload_n dX10_goCourse_90 rfl (i := 0) rfl ?_
    refine rr_getI (v := 1) dX10_goCourse_91 fg_X10_390 rfl (wX10_l hm) (wX10_s hm) (jr_eq eM54) ?_
    refine r_iconst (n := (-1)) dX10_goCourse_94 ?_
    refine r_icmp_eq (tgt := 99) dX10_goCourse_95 rfl ⟨by decide, by decide⟩ ⟨by decide, by decide⟩ (fun hcc => ?_) (fun hcc => ?_)
    · replace hT := hT.1 hcc
      refine r_aload_n dX10_goCourse_99 rfl (i := 0) rfl ?_
      refine rr_getR (b := (m + 28)) dX10_goCourse_100 fg_X10_96 rfl rfl (wX10_l hm) (wX10_s hm) (wX10_r39 hm) ?_
      refine r_aload_n dX10_goCourse_103 rfl (i := 0) rfl ?_
      refine rr_getI (v := I6 m 41) dX10_goCourse_104 fg_X10_375 rfl (wX10_l hm) (wX10_s hm) (jr_nj eM54 (by decide)) ?_
      refine r_aload_n dX10_goCourse_107 rfl (i := 0) rfl ?_
      refine rr_cVI (a := m) (as := []) (st := [VI (I6 m 41), VR (m + 28)]) dX10_goCourse_108 mt_X10_rulesOfSet ml_X10_393 mi_X10_rulesOfSet rm_X10_goCourse_X10_rulesOfSet jz_X10_rulesOfSet ⟨Nat.zero_le _, Nat.zero_le _⟩ (Nat.le_of_ble_eq_true rfl) (wX10_l hm) (wX10_c hm) jas0 hT (fun r56 I55 hc57 hFI55 hT => ?_)
      replace hFI55 := jFr_tr hFM54 hFI55
      refine jOk_mem (fun hI55 => ?_)
      obtain ⟨hc58, hT⟩ := hT
      refine rr_iastore dX10_goCourse_111 (wX10_l39 hm) (wX10_a39 hm) (by decide) hc58 hc57 (fun M59 eM59 => ?_)
      have hFM59 := jFr_up hFI55 eM59 (wX10_f hm 28 (by decide))
      replace hT := hT M59 eM59
      refine jOk_mem (fun hIM59 => ?_)
      refine r_aload_n dX10_goCourse_112 rfl (i := 0) rfl ?_
      refine r_dup dX10_goCourse_113 rfl ?_
      refine rr_getI (v := I55 m 43) dX10_goCourse_114 fg_X10_378 rfl (wX10_l hm) (wX10_s hm) (jr_na eM59 (by omega)) ?_
      refine r_aload_n dX10_goCourse_117 rfl (i := 0) rfl ?_
      refine rr_getI (v := I55 m 20) dX10_goCourse_118 fg_X10_211 rfl (wX10_l hm) (wX10_s hm) (jr_na eM59 (by omega)) ?_
      refine r_iadd dX10_goCourse_121 ?_
      obtain ⟨hc61, hT⟩ := hT
      refine rr_putI (jj := 43) dX10_goCourse_122 fp_X10_378 rfl rfl (wX10_l hm) (wX10_s hm) hc61 (fun M60 eM60 => ?_)
      have hFM60 := jFr_up hFM59 eM60 (wX10_f hm 0 (by decide))
      replace hT := hT M60 eM60
      refine jOk_mem (fun hIM60 => ?_)
      refine r_aload_n dX10_goCourse_125 rfl (i := 0) rfl ?_
      refine r_iconst (n := (-1)) dX10_goCourse_126 ?_
      refine rr_cVV (a := m) (as := [VI (-1)]) (st := []) dX10_goCourse_127 mt_X10_makeNow ml_X10_235 mi_X10_makeNow rm_X10_goCourse_X10_makeNow jz_X10_makeNow ⟨Nat.zero_le _, Nat.zero_le _⟩ (Nat.le_of_ble_eq_true rfl) (wX10_l hm) (wX10_c hm) (jasI ⟨by decide, by decide⟩ jas0) hT (fun I62 hFI62 hT => ?_)
      replace hFI62 := jFr_tr hFM60 hFI62
      refine jOk_mem (fun hI62 => ?_)
      refine r_aload_n dX10_goCourse_130 rfl (i := 0) rfl ?_
      refine r_dup dX10_goCourse_131 rfl ?_
      refine rr_getI (v := I62 m 41) dX10_goCourse_132 fg_X10_375 rfl (wX10_l hm) (wX10_s hm) rfl ?_
      refine r_iconst (n := 1) dX10_goCourse_135 ?_
      refine r_iadd dX10_goCourse_136 ?_
      obtain ⟨hc64, hT⟩ := hT
      refine rr_putI (jj := 41) dX10_goCourse_137 fp_X10_375 rfl rfl (wX10_l hm) (wX10_s hm) hc64 (fun M63 eM63 => ?_)
      have hFM63 := jFr_up hFI62 eM63 (wX10_f hm 0 (by decide))
      replace hT := hT M63 eM63
      refine jOk_mem (fun hIM63 => ?_)
      refine r_goto (tgt := 10) dX10_goCourse_140 rfl ?_
      exact hT I0 hFM63
    · replace hT := hT.2 hcc
      exact r_vret dX10_goCourse_98 rfl ⟨Nat.zero_le _, Nat.zero_le _⟩ ⟨rfl, rfl, hFM54, hT⟩
set_option maxRecDepth 20000 in
theorem st_X10_goCourse_0 {E : jE} {G : jG} {I : jM} {q : jM → Prop} {m : Nat} (hm : WX10 G m) (hT : (∀ a j, jRg (G.2.1 a).1 (I a j)) → (∀ M1, M1 = jup I m 41 0 → (∀ M2, M2 = jup M1 m 43 0 → jOV E (jA m) kX10_goCourse 10 [VR m] G M2 q))) : jOV E (jA m) kX10_goCourse 0 [VR m] G I q := by
  intro I0 hF
  refine jOk_mem (fun hI => ?_)
  replace hT := hT hI 
  refine r_aload_n dX10_goCourse_0 rfl (i := 0) rfl ?_
  refine r_iconst (n := 0) dX10_goCourse_1 ?_
  refine rr_putI (jj := 41) dX10_goCourse_2 fp_X10_375 rfl rfl (wX10_l hm) (wX10_s hm) ⟨by decide, by decide⟩ (fun M1 eM1 => ?_)
  have hFM1 := jFr_up hF eM1 (wX10_f hm 0 (by decide))
  replace hT := hT M1 eM1
  refine jOk_mem (fun hIM1 => ?_)
  refine r_aload_n dX10_goCourse_5 rfl (i := 0) rfl ?_
  refine r_iconst (n := 0) dX10_goCourse_6 ?_
  refine rr_putI (jj := 43) dX10_goCourse_7 fp_X10_378 rfl rfl (wX10_l hm) (wX10_s hm) ⟨by decide, by decide⟩ (fun M2 eM2 => ?_)
  have hFM2 := jFr_up hFM1 eM2 (wX10_f hm 0 (by decide))
  replace hT := hT M2 eM2
  refine jOk_mem (fun hIM2 => ?_)
  exact hT I0 hFM2
theorem en_X10_goCourse {E : jE} {G : jG} {I : jM} {q : jM → Prop} {m : Nat} (hm : WX10 G m) (hT : (∀ a j, jRg (G.2.1 a).1 (I a j)) → (∀ M1, M1 = jup I m 41 0 → (∀ M2, M2 = jup M1 m 43 0 → jOV E (jA m) kX10_goCourse 10 [VR m] G M2 q))) : jRV E (jA m) kX10_goCourse [VR m] G I q := jRun.of mt_X10_goCourse.2.2.2 0 rfl (fun _ => st_X10_goCourse_0 hm hT I (fun _ _ => rfl))
set_option maxRecDepth 20000 in
theorem st_X10_layCourse_35 {E : jE} {G : jG} {I : jM} {q : jM → Prop} {m : Nat} {x1 : Int} (hm : WX10 G m) (hT : (∀ a j, jRg (G.2.1 a).1 (I a j)) → jIn x1 → ((1052 ≤ x1 → q I) ∧ (¬ 1052 ≤ x1 → ((0 : Int) ≤ x1 ∧ (x1 : Int) < 1052) ∧ ((0 : Int) ≤ (2 + x1) ∧ ((2 + x1) : Int) < 22094) ∧ (∀ M3, M3 = jup I (m + 1) (2 + x1) (I (m + 24) x1) → jIn (x1 + 1) ∧ jOV E (jA m) kX10_layCourse 35 [VR m, VI (x1 + 1)] G M3 q)))) : jOV E (jA m) kX10_layCourse 35 [VR m, VI x1] G I q := by
  intro I0 hF
  refine jOk_mem (fun hI => ?_)
  refine jOk_in (i := 1) rfl (fun hx1 => ?_)
  replace hT := hT hI hx1
  refine r_iload_n dX10_layCourse_35 rfl (i := 1) rfl ?_
  refine r_sipush (n := 1052) dX10_layCourse_36 (by decide +kernel) ?_
  refine r_icmp_ge (tgt := 62) dX10_layCourse_39 rfl hx1 ⟨by decide, by decide⟩ (fun hcc => ?_) (fun hcc => ?_)
  · replace hT := hT.1 hcc
    exact r_vret dX10_layCourse_62 rfl ⟨Nat.zero_le _, Nat.zero_le _⟩ ⟨rfl, rfl, hF, hT⟩
  · replace hT := hT.2 hcc
    refine r_aload_n dX10_layCourse_42 rfl (i := 0) rfl ?_
    refine rr_getR (b := (m + 1)) dX10_layCourse_43 fg_X10_7 rfl rfl (wX10_l hm) (wX10_s hm) (wX10_r0 hm) ?_
    refine r_iconst (n := 2) dX10_layCourse_46 ?_
    refine r_iload_n dX10_layCourse_47 rfl (i := 1) rfl ?_
    refine r_iadd dX10_layCourse_48 ?_
    refine r_aload_n dX10_layCourse_49 rfl (i := 0) rfl ?_
    refine rr_getR (b := (m + 24)) dX10_layCourse_50 fg_X10_84 rfl rfl (wX10_l hm) (wX10_s hm) (wX10_r35 hm) ?_
    refine r_iload_n dX10_layCourse_53 rfl (i := 1) rfl ?_
    obtain ⟨hc1, hT⟩ := hT
    refine rr_iaload (v := I (m + 24) x1) dX10_layCourse_54 (wX10_l35 hm) (wX10_a35 hm) (by decide) hc1 rfl ?_
    obtain ⟨hc2, hT⟩ := hT
    refine rr_iastore dX10_layCourse_55 (wX10_l0 hm) (wX10_a0 hm) (by decide) hc2 (hI _ _).inR (fun M3 eM3 => ?_)
    have hFM3 := jFr_up hF eM3 (wX10_f hm 1 (by decide))
    replace hT := hT M3 eM3
    refine jOk_mem (fun hIM3 => ?_)
    obtain ⟨hc4, hT⟩ := hT
    refine rr_iinc (i := 1) (ls' := [VR m, VI (x1 + 1)]) dX10_layCourse_56 rfl (Nat.le_of_ble_eq_true rfl) rfl rfl hc4 ?_
    refine r_goto (tgt := 35) dX10_layCourse_59 rfl ?_
    exact hT I0 hFM3
set_option maxRecDepth 20000 in
theorem st_X10_layCourse_2 {E : jE} {G : jG} {I : jM} {q : jM → Prop} {m : Nat} {x1 : Int} (hm : WX10 G m) (hT : (∀ a j, jRg (G.2.1 a).1 (I a j)) → jIn x1 → ((1052 ≤ x1 → jRV E (jA m) kX10_goCourse [VR m] G I (fun I1 => jOV E (jA m) kX10_layCourse 35 [VR m, VI 0] G I1 q)) ∧ (¬ 1052 ≤ x1 → ((0 : Int) ≤ (2 + x1) ∧ ((2 + x1) : Int) < 22094) ∧ ((0 : Int) ≤ x1 ∧ (x1 : Int) < 1052) ∧ (∀ M4, M4 = jup I (m + 24) x1 (I (m + 1) (2 + x1)) → jIn (x1 + 1) ∧ jOV E (jA m) kX10_layCourse 2 [VR m, VI (x1 + 1)] G M4 q)))) : jOV E (jA m) kX10_layCourse 2 [VR m, VI x1] G I q := by
  intro I0 hF
  refine jOk_mem (fun hI => ?_)
  refine jOk_in (i := 1) rfl (fun hx1 => ?_)
  replace hT := hT hI hx1
  refine r_iload_n dX10_layCourse_2 rfl (i := 1) rfl ?_
  refine r_sipush (n := 1052) dX10_layCourse_3 (by decide +kernel) ?_
  refine r_icmp_ge (tgt := 29) dX10_layCourse_6 rfl hx1 ⟨by decide, by decide⟩ (fun hcc => ?_) (fun hcc => ?_)
  · replace hT := hT.1 hcc
    refine r_aload_n dX10_layCourse_29 rfl (i := 0) rfl ?_
    refine rr_cVV (a := m) (as := []) (st := []) dX10_layCourse_30 mt_X10_goCourse ml_X10_396 mi_X10_goCourse rm_X10_layCourse_X10_goCourse jz_X10_goCourse ⟨Nat.zero_le _, Nat.zero_le _⟩ (Nat.le_of_ble_eq_true rfl) (wX10_l hm) (wX10_c hm) jas0 hT (fun I1 hFI1 hT => ?_)
    replace hFI1 := jFr_tr hF hFI1
    refine jOk_mem (fun hI1 => ?_)
    refine r_iconst (n := 0) dX10_layCourse_33 ?_
    refine rr_istore_n (i := 1) (ls' := [VR m, VI 0]) dX10_layCourse_34 rfl (Nat.le_of_ble_eq_true rfl) rfl rfl ⟨by decide, by decide⟩ ?_
    exact hT I0 hFI1
  · replace hT := hT.2 hcc
    refine r_aload_n dX10_layCourse_9 rfl (i := 0) rfl ?_
    refine rr_getR (b := (m + 24)) dX10_layCourse_10 fg_X10_84 rfl rfl (wX10_l hm) (wX10_s hm) (wX10_r35 hm) ?_
    refine r_iload_n dX10_layCourse_13 rfl (i := 1) rfl ?_
    refine r_aload_n dX10_layCourse_14 rfl (i := 0) rfl ?_
    refine rr_getR (b := (m + 1)) dX10_layCourse_15 fg_X10_7 rfl rfl (wX10_l hm) (wX10_s hm) (wX10_r0 hm) ?_
    refine r_iconst (n := 2) dX10_layCourse_18 ?_
    refine r_iload_n dX10_layCourse_19 rfl (i := 1) rfl ?_
    refine r_iadd dX10_layCourse_20 ?_
    obtain ⟨hc2, hT⟩ := hT
    refine rr_iaload (v := I (m + 1) (2 + x1)) dX10_layCourse_21 (wX10_l0 hm) (wX10_a0 hm) (by decide) hc2 rfl ?_
    obtain ⟨hc3, hT⟩ := hT
    refine rr_iastore dX10_layCourse_22 (wX10_l35 hm) (wX10_a35 hm) (by decide) hc3 (hI _ _).inR (fun M4 eM4 => ?_)
    have hFM4 := jFr_up hF eM4 (wX10_f hm 24 (by decide))
    replace hT := hT M4 eM4
    refine jOk_mem (fun hIM4 => ?_)
    obtain ⟨hc5, hT⟩ := hT
    refine rr_iinc (i := 1) (ls' := [VR m, VI (x1 + 1)]) dX10_layCourse_23 rfl (Nat.le_of_ble_eq_true rfl) rfl rfl hc5 ?_
    refine r_goto (tgt := 2) dX10_layCourse_26 rfl ?_
    exact hT I0 hFM4
set_option maxRecDepth 20000 in
theorem st_X10_layCourse_0 {E : jE} {G : jG} {I : jM} {q : jM → Prop} {m : Nat} (hm : WX10 G m) (hT : (∀ a j, jRg (G.2.1 a).1 (I a j)) → jOV E (jA m) kX10_layCourse 2 [VR m, VI 0] G I q) : jOV E (jA m) kX10_layCourse 0 [VR m, VN] G I q := by
  intro I0 hF
  refine jOk_mem (fun hI => ?_)
  replace hT := hT hI 
  refine r_iconst (n := 0) dX10_layCourse_0 ?_
  refine rr_istore_n (i := 1) (ls' := [VR m, VI 0]) dX10_layCourse_1 rfl (Nat.le_of_ble_eq_true rfl) rfl rfl ⟨by decide, by decide⟩ ?_
  exact hT I0 hF
theorem en_X10_layCourse {E : jE} {G : jG} {I : jM} {q : jM → Prop} {m : Nat} (hm : WX10 G m) (hT : (∀ a j, jRg (G.2.1 a).1 (I a j)) → jOV E (jA m) kX10_layCourse 2 [VR m, VI 0] G I q) : jRV E (jA m) kX10_layCourse [VR m] G I q := jRun.of mt_X10_layCourse.2.2.2 1 rfl (fun _ => st_X10_layCourse_0 hm hT I (fun _ _ => rfl))
section SA
variable {E : jE} {G : jG} {m : Nat} {I : jM} {B B' : Int → Int} {H H' : List (Int → Int)} {T : List Int} {fk fp c : Int}
/-- the states up to n are laid -/
def CW (m : Nat) (B : Int → Int) (n : Nat) (I : jM) : Prop := ∀ k : Nat, k < n → I (m + 25) k = csq B k 2 ∧ (∀ j, 0 ≤ j → j < 200 → I (m + 26) (200 * k + j) = csq B k (10 + j)) ∧ ∀ j, 0 ≤ j → j < 16 → I (m + 27) (16 * k + j) = csq B k (410 + j)
def WW (m : Nat) (I I' : jM) : Prop := ∀ a j, a ≠ m + 25 → a ≠ m + 26 → a ≠ m + 27 → I' a j = I a j
theorem ref_layWas (hm : WX10 G m) {n : Nat} (h : RR m I (csq B n) H B' H' T fk fp) (hn : n ≤ 30) (hC : CW m B n I) : jRV E (jA m) kX10_layWas [VR m, VI (n : Int)] G I (fun I' => WW m I I' ∧ CW m B (n + 1) I') := by
  have e2 : I (m + 1) 2 = csq B n 2 := h.at (by omega)
  have l46 : ∀ (d : Nat) (x : Int), 0 ≤ x → x + d = 16 → ∀ I1 : jM, WW m I I1 → (∀ k : Nat, k < n → I1 (m + 25) k = csq B k 2 ∧ (∀ j, 0 ≤ j → j < 200 → I1 (m + 26) (200 * k + j) = csq B k (10 + j)) ∧ ∀ j, 0 ≤ j → j < 16 → I1 (m + 27) (16 * k + j) = csq B k (410 + j)) → I1 (m + 25) n = csq B n 2 → (∀ j, 0 ≤ j → j < 200 → I1 (m + 26) (200 * n + j) = csq B n (10 + j)) → (∀ j, 0 ≤ j → j < x → I1 (m + 27) (16 * n + j) = csq B n (410 + j)) → jOV E (jA m) kX10_layWas 46 [VR m, VI (n : Int), VI x] G I1 (fun I' => WW m I I' ∧ CW m B (n + 1) I') := by
    intro d
    induction d with
    | zero =>
      intro x x0 x1 I1 hW hc h25 h26 h27
      refine st_X10_layWas_46 hm (fun _ _ _ => ⟨fun _ => ⟨hW, fun k hk => ?_⟩, fun q => by omega⟩)
      by_cases e : k = n
      · subst e
        exact ⟨h25, h26, fun j j0 j1 => h27 j j0 (by omega)⟩
      · exact hc k (by omega)
    | succ d ih =>
      intro x x0 x1 I1 hW hc h25 h26 h27
      have ea : I1 (m + 1) (410 + x) = csq B n (410 + x) := by rw [hW _ _ (by omega) (by omega) (by omega)]; exact h.at (by omega)
      refine st_X10_layWas_46 hm (fun _ _ _ => ⟨fun q => by omega, fun _ => ⟨⟨by omega, by omega⟩, ⟨by omega, by omega⟩, fun M3 e3 => ⟨⟨by omega, by omega⟩, ?_⟩⟩⟩)
      refine ih (x + 1) (by omega) (by omega) M3 (fun a j h1 h2 h3 => by rw [jr_na e3 h3]; exact hW a j h1 h2 h3) (fun k hk => ⟨by rw [jr_na e3 (by omega)]; exact (hc k hk).1, fun j j0 j1 => by rw [jr_na e3 (by omega)]; exact (hc k hk).2.1 j j0 j1, fun j j0 j1 => by rw [jr_nj e3 (by omega)]; exact (hc k hk).2.2 j j0 j1⟩) (by rw [jr_na e3 (by omega)]; exact h25) (fun j j0 j1 => by rw [jr_na e3 (by omega)]; exact h26 j j0 j1) (fun j j0 j1 => ?_)
      by_cases e : j = x
      · rw [e, jr_eq e3, ea]
      · rw [jr_nj e3 (by omega)]
        exact h27 j j0 (by omega)
  have l14 : ∀ (d : Nat) (x : Int), 0 ≤ x → x + d = 200 → ∀ I1 : jM, WW m I I1 → (∀ k : Nat, k < n → I1 (m + 25) k = csq B k 2 ∧ (∀ j, 0 ≤ j → j < 200 → I1 (m + 26) (200 * k + j) = csq B k (10 + j)) ∧ ∀ j, 0 ≤ j → j < 16 → I1 (m + 27) (16 * k + j) = csq B k (410 + j)) → I1 (m + 25) n = csq B n 2 → (∀ j, 0 ≤ j → j < x → I1 (m + 26) (200 * n + j) = csq B n (10 + j)) → jOV E (jA m) kX10_layWas 14 [VR m, VI (n : Int), VI x] G I1 (fun I' => WW m I I' ∧ CW m B (n + 1) I') := by
    intro d
    induction d with
    | zero =>
      intro x x0 x1 I1 hW hc h25 h26
      exact st_X10_layWas_14 hm (fun _ _ _ => ⟨fun _ => l46 16 0 (by omega) (by omega) I1 hW hc h25 (fun j j0 j1 => h26 j j0 (by omega)) (fun j j0 j1 => by omega), fun q => by omega⟩)
    | succ d ih =>
      intro x x0 x1 I1 hW hc h25 h26
      have ea : I1 (m + 1) (10 + x) = csq B n (10 + x) := by rw [hW _ _ (by omega) (by omega) (by omega)]; exact h.at (by omega)
      refine st_X10_layWas_14 hm (fun _ _ _ => ⟨fun q => by omega, fun _ => ⟨⟨by omega, by omega⟩, ⟨by omega, by omega⟩, fun M4 e4 => ⟨⟨by omega, by omega⟩, ?_⟩⟩⟩)
      refine ih (x + 1) (by omega) (by omega) M4 (fun a j h1 h2 h3 => by rw [jr_na e4 h2]; exact hW a j h1 h2 h3) (fun k hk => ⟨by rw [jr_na e4 (by omega)]; exact (hc k hk).1, fun j j0 j1 => by rw [jr_nj e4 (by omega)]; exact (hc k hk).2.1 j j0 j1, fun j j0 j1 => by rw [jr_na e4 (by omega)]; exact (hc k hk).2.2 j j0 j1⟩) (by rw [jr_na e4 (by omega)]; exact h25) (fun j j0 j1 => ?_)
      by_cases e : j = x
      · rw [e, jr_eq e4, ea]
      · rw [jr_nj e4 (by omega)]
        exact h26 j j0 (by omega)
  refine en_X10_layWas hm (fun _ _ => ⟨⟨by omega, by omega⟩, fun M3 e3 => l14 200 0 (by omega) (by omega) M3 (fun a j h1 _ _ => jr_na e3 h1) (fun k hk => ⟨by rw [jr_nj e3 (by omega)]; exact (hC k hk).1, fun j j0 j1 => by rw [jr_na e3 (by omega)]; exact (hC k hk).2.1 j j0 j1, fun j j0 j1 => by rw [jr_na e3 (by omega)]; exact (hC k hk).2.2 j j0 j1⟩) (by rw [jr_eq e3, e2]) (fun j j0 j1 => by omega)⟩)
theorem ref_areAlike (hm : WX10 G m) {n k : Nat} (hn : n ≤ 30) (hk : k < n) (hC : CW m B (n + 1) I) : jRI E (jA m) kX10_areAlike [VR m, VI (k : Int), VI (n : Int)] G I (fun x I' => x = jI (likeB (csq B k) (csq B n)) ∧ I' = I) := by
  have ck := hC k (by omega)
  have cn := hC n (by omega)
  have l63 : ∀ (d : Nat) (x : Int), 0 ≤ x → x + d = 16 → csq B k 2 = csq B n 2 → (∀ j, 0 ≤ j → j < 200 → csq B k (10 + j) = csq B n (10 + j)) → (∀ j, 0 ≤ j → j < x → csq B k (410 + j) = csq B n (410 + j)) → jOI E (jA m) kX10_areAlike 63 [VR m, VI (k : Int), VI (n : Int), VI x] G I (fun x I' => x = jI (likeB (csq B k) (csq B n)) ∧ I' = I) := by
    intro d
    induction d with
    | zero =>
      intro x x0 x1 h1 h2 h3
      exact st_X10_areAlike_63 hm (fun _ _ _ _ => ⟨fun _ => ⟨(jI_pos ⟨h1, h2, fun j j0 j1 => h3 j j0 (by omega)⟩).symm, rfl⟩, fun q => by omega⟩)
    | succ d ih =>
      intro x x0 x1 h1 h2 h3
      refine st_X10_areAlike_63 hm (fun _ _ _ _ => ⟨fun q => by omega, fun _ => ⟨⟨by omega, by omega⟩, ⟨by omega, by omega⟩, ?_⟩⟩)
      rw [ck.2.2 x x0 (by omega), cn.2.2 x x0 (by omega)]
      refine ⟨fun q => ⟨⟨by omega, by omega⟩, ih (x + 1) (by omega) (by omega) h1 h2 (fun j j0 j1 => ?_)⟩, fun q => ⟨(jI_neg (fun g => q (g.2.2 x x0 (by omega)))).symm, rfl⟩⟩
      by_cases e : j = x
      · rw [e]; exact q
      · exact h3 j j0 (by omega)
  have l19 : ∀ (d : Nat) (x : Int), 0 ≤ x → x + d = 200 → csq B k 2 = csq B n 2 → (∀ j, 0 ≤ j → j < x → csq B k (10 + j) = csq B n (10 + j)) → jOI E (jA m) kX10_areAlike 19 [VR m, VI (k : Int), VI (n : Int), VI x] G I (fun x I' => x = jI (likeB (csq B k) (csq B n)) ∧ I' = I) := by
    intro d
    induction d with
    | zero =>
      intro x x0 x1 h1 h2
      exact st_X10_areAlike_19 hm (fun _ _ _ _ => ⟨fun _ => l63 16 0 (by omega) (by omega) h1 (fun j j0 j1 => h2 j j0 (by omega)) (fun j j0 j1 => by omega), fun q => by omega⟩)
    | succ d ih =>
      intro x x0 x1 h1 h2
      refine st_X10_areAlike_19 hm (fun _ _ _ _ => ⟨fun q => by omega, fun _ => ⟨⟨by omega, by omega⟩, ⟨by omega, by omega⟩, ?_⟩⟩)
      rw [ck.2.1 x x0 (by omega), cn.2.1 x x0 (by omega)]
      refine ⟨fun q => ⟨⟨by omega, by omega⟩, ih (x + 1) (by omega) (by omega) h1 (fun j j0 j1 => ?_)⟩, fun q => ⟨(jI_neg (fun g => q (g.2.1 x x0 (by omega)))).symm, rfl⟩⟩
      by_cases e : j = x
      · rw [e]; exact q
      · exact h2 j j0 (by omega)
  refine en_X10_areAlike hm (fun _ _ _ => ⟨⟨by omega, by omega⟩, ⟨by omega, by omega⟩, ?_⟩)
  rw [ck.1, cn.1]
  exact ⟨fun q => l19 200 0 (by omega) (by omega) q (fun j j0 j1 => by omega), fun q => ⟨(jI_neg (fun g => q g.1)).symm, rfl⟩⟩
theorem ref_sameAs (hm : WX10 G m) {n : Nat} (hn : n ≤ 30) (hC : CW m B (n + 1) I) : jRI E (jA m) kX10_sameAs [VR m, VI (n : Int)] G I (fun x I' => x = fstL B n ∧ isFstL B n x ∧ I' = I) := by
  have loop : ∀ (d k : Nat), k + d = n → (∀ j : Nat, j < k → ¬ likeB (csq B j) (csq B n)) → jOI E (jA m) kX10_sameAs 2 [VR m, VI (n : Int), VI (k : Int)] G I (fun x I' => x = fstL B n ∧ isFstL B n x ∧ I' = I) := by
    intro d
    induction d with
    | zero =>
      intro k hk hno
      have g : isFstL B n (-1) := Or.inl ⟨rfl, fun j hj => hno j (by omega)⟩
      exact st_X10_sameAs_2 hm (fun _ _ _ => ⟨fun _ => ⟨(fstL_eq g).symm, g, rfl⟩, fun q => by omega⟩)
    | succ d ih =>
      intro k hk hno
      refine st_X10_sameAs_2 hm (fun _ _ _ => ⟨fun q => by omega, fun _ => ?_⟩)
      refine (ref_areAlike hm hn (by omega) hC).mono (fun x I1 _ _ g => ?_)
      obtain ⟨rfl, rfl⟩ := g
      refine ⟨fun q => ⟨⟨by omega, by omega⟩, ih (k + 1) (by omega) (fun j hj => ?_)⟩, fun q => ?_⟩
      · by_cases e : j = k
        · rw [e]; exact jI_n q
        · exact hno j (by omega)
      · have g : isFstL B n (k : Int) := Or.inr ⟨by omega, by omega, by rw [show ((k : Int)).toNat = k by omega]; exact jI_p q, fun j hj => hno j (by omega)⟩
        exact ⟨(fstL_eq g).symm, g, rfl⟩
  exact en_X10_sameAs hm (fun _ _ => loop n 0 (by omega) (fun j hj => absurd hj (Nat.not_lt_zero j)))
theorem ref_rulesOfSet (hm : WX10 G m) {X : Int → Int} (hQ : QW X) (hL : LFB m X I) : jRI E (jA m) kX10_rulesOfSet [VR m] G I (fun x I' => x = rb X ∧ I' = I) := by
  have hN := NF_le hQ
  have hN0 : 0 ≤ NF X := by unfold NF; omega
  have h17 := hL.2.2.1
  have loop : ∀ (d : Nat) (f : Int) (R : List Int) (k v : Int), 0 ≤ f → f + d = NF X → Ch X f k R → (∀ g, f ≤ g → g < NF X → (g ∈ setL X ↔ g ∈ R)) → R.foldl (fun b f => jor b (jshl 1 (fR X f))) v = rb X → jOI E (jA m) kX10_rulesOfSet 4 [VR m, VI v, VI f] G I (fun x I' => x = rb X ∧ I' = I) := by
    intro d
    induction d with
    | zero =>
      intro f R k v f0 f1 hc hmem e
      have e1 : f = NF X := by omega
      subst e1
      have e2 := hc.nil
      subst e2
      exact st_X10_rulesOfSet_4 hm (fun _ _ _ => ⟨fun _ => ⟨e, rfl⟩, fun q => by rw [h17] at q; exact absurd (Int.le_refl _) q⟩)
    | succ d ih =>
      intro f R k v f0 f1 hc hmem e
      have rf := hL.2.2.2.1 f f0 (by omega)
      have b12 : (0 : Int) ≤ f ∧ f < 1200 := ⟨f0, by omega⟩
      refine st_X10_rulesOfSet_4 hm (fun _ _ _ => ⟨fun q => by rw [h17] at q; omega, fun _ => ⟨b12, fun _ => ?_⟩⟩)
      rw [rf.2.2.2.2.2.2.2.2, rf.1]
      refine ⟨fun q1 => ⟨⟨by omega, by omega⟩, ih (f + 1) R k v (by omega) (by omega) (hc.up (fun g => jI_n q1 ((hmem f (Int.le_refl _) (by omega)).mpr g))) (fun g g0 g1 => hmem g (by omega) g1) e⟩, fun q1 => ⟨b12, ⟨by omega, by omega⟩, ?_⟩⟩
      obtain ⟨R', e'⟩ := hc.hd ((hmem f (Int.le_refl _) (by omega)).mp (jI_p q1))
      subst e'
      refine ih (f + 1) R' _ _ (by omega) (by omega) hc.2.2.2 (fun g g0 g1 => (hmem g (by omega) g1).trans ⟨fun x => ?_, fun x => List.mem_cons_of_mem _ x⟩) e
      rcases List.mem_cons.mp x with x | x
      · omega
      · exact x
  exact en_X10_rulesOfSet hm (fun _ => loop (NF X).toNat 0 (setL X) 0 0 (by omega) (by omega) (setL_Ch hQ (FLok hQ)) (fun g _ _ => Iff.rfl) rfl)
/-- what goes on from n rounds on -/
def CN (m : Nat) (B : Int → Int) (n : Nat) (I : jM) : Prop := I m 41 = n ∧ n ≤ 30 ∧ I m 43 = mdS B n ∧ (0 ≤ mdS B n ∧ mdS B n ≤ 20 * n) ∧ CW m B n I ∧ (∀ k : Nat, k < n → I (m + 28) k = rb (csq B k)) ∧ (∀ k : Nat, k < n → 0 ≤ csq B k 2 ∧ csq B k 2 ≤ 200) ∧ crsF B (30 - n) n = crN B
theorem crsF_stop {n : Nat} (h : endAt B n ≠ -1) : ∀ d, crsF B d n = n := by
  intro d
  cases d with
  | zero => rfl
  | succ d =>
    show (if endAt B n = -1 then _ else n) = n
    rw [if_neg h]
theorem crsF_go {n : Nat} (h : endAt B n = -1) (hn : n < 30) : crsF B (30 - n) n = crsF B (30 - (n + 1)) (n + 1) := by
  rw [show 30 - n = (30 - (n + 1)) + 1 by omega]
  show (if endAt B n = -1 then _ else n) = _
  rw [if_pos h]
theorem ref_makeSet (hm : WX10 G m) {X : Int → Int} (h : RR m I X H B' H' T fk fp) (hb : BW c X) (hc : c ≤ 1000000) (hL : LFS m (I (m + 1)) I) (hl : X 2 + sumG X (setL X) ≤ 200) : jRV E (jA m) kX10_makeNow [VR m, VI (-1)] G I (fun I' => RR m I' (mkS X (setL X)) H B' H' T fk fp ∧ WK m I I') := by
  have hQ := hb.1
  have hF := FLok hQ
  have hQS := h.1.qw hQ
  have hES := h.1.eqS
  have eL : setL X = setL (I (m + 1)) := setL_congr hES hQS (FLok hQS)
  have hCB := setL_Ch hQ hF
  have hCS := setL_Ch hQS (FLok hQS)
  have hl9 : (newL (I (m + 1)) (setL (I (m + 1))) 0).length ≤ 200 := by
    rw [← eL, newL_congr hES.symm hQ hF _ 0 0 (by omega) (by omega) hCB]
    have := newL_len _ _ _ hCB
    omega
  refine (sp_X10_makeNow hm hQS hL hCS (wS_sum hQS (FLok hQS)).2.2 hl9 (fun j j0 j1 => by rw [h.at (by omega)]; exact hb.sp hc j j0 j1) (setL_Cho hL)).mono (fun I' _ g => ⟨h.wz g.2.wz (h.1.mk hQ hCB (by rw [eL]; exact g.1)), g.2⟩)
theorem LFB.keep {X : Int → Int} {I' : jM} (h : LFB m X I) (hk : ∀ a j, (m + 3 ≤ a ∧ a ≤ m + 15) ∨ (a = m ∧ (j = 4 ∨ j = 17 ∨ j = 20 ∨ j = 21)) → I' a j = I a j) : LFB m X I' := by
  obtain ⟨h1, h2, h3, h4, h5, h6⟩ := h
  refine ⟨by rw [hk _ _ (by omega)]; exact h1, fun u u0 u1 => by rw [hk _ _ (by omega), hk _ _ (by omega)]; exact h2 u u0 u1, by rw [hk _ _ (by omega)]; exact h3, fun f f0 f1 => ?_, by rw [hk _ _ (by omega)]; exact h5, by rw [hk _ _ (by omega)]; exact h6⟩
  rw [hk _ _ (by omega), hk _ _ (by omega), hk _ _ (by omega), hk _ _ (by omega), hk _ _ (by omega), hk _ _ (by omega), hk _ _ (by omega), hk _ _ (by omega), hk _ _ (by omega)]
  exact h4 f f0 f1
theorem CW.keep {n : Nat} {I' : jM} (h : CW m B n I) (hk : ∀ a j, m + 25 ≤ a → a ≤ m + 27 → I' a j = I a j) : CW m B n I' := fun k hk' => by
  have g := h k hk'
  exact ⟨by rw [hk _ _ (by omega) (by omega)]; exact g.1, fun j j0 j1 => by rw [hk _ _ (by omega) (by omega)]; exact g.2.1 j j0 j1, fun j j0 j1 => by rw [hk _ _ (by omega) (by omega)]; exact g.2.2 j j0 j1⟩
theorem goCourse_body (hm : WX10 G m) {I0 I1 : jM} {n : Nat} (hc : c ≤ 900000) (hn : n ≤ 30) (hr : RR m I1 (csq B n) H B' H' T fk fp) (hb : BW (c + n) (csq B n)) (hN : CN m B n I1) (h24 : I1 (m + 24) = I0 (m + 24)) (go : n < 30 → ∀ I2, RR m I2 (csq B (n + 1)) H B' H' T fk fp → BW (c + (n + 1 : Nat)) (csq B (n + 1)) → CN m B (n + 1) I2 → I2 (m + 24) = I0 (m + 24) → jOV E (jA m) kX10_goCourse 10 [VR m] G I2 (fun I' => (∃ X, RR m I' X H B' H' T fk fp) ∧ CO m B I' ∧ I' (m + 24) = I0 (m + 24))) : jOV E (jA m) kX10_goCourse 10 [VR m] G I1 (fun I' => (∃ X, RR m I' X H B' H' T fk fp) ∧ CO m B I' ∧ I' (m + 24) = I0 (m + 24)) := by
  obtain ⟨n41, -, n43, nb, nW, n28, nlen, ncr⟩ := hN
  have hQ := hb.1
  have h2 := hQ.1
  refine st_X10_goCourse_10 hm (fun _ => ?_)
  rw [n41]
  refine (ref_layWas hm hr hn nW).mono (fun I2 _ g => ?_)
  obtain ⟨w2, c2⟩ := g
  have k2 : ∀ a j, a ≠ m + 25 → a ≠ m + 26 → a ≠ m + 27 → I2 a j = I1 a j := w2
  rw [k2 m 41 (by omega) (by omega) (by omega), n41]
  refine (ref_sameAs hm hn c2).mono (fun x I3 _ _ g => ?_)
  obtain ⟨ex, fx, rfl⟩ := g
  intro M5 e5
  have k5 : ∀ a j, a ≠ m + 25 → a ≠ m + 26 → a ≠ m + 27 → (a ≠ m ∨ j ≠ 42) → M5 a j = I1 a j := fun a j h1 h2 h3 h4 => by
    have : M5 a j = I3 a j := by
      rcases h4 with h4 | h4
      · exact jr_na e5 h4
      · exact jr_nj e5 h4
    rw [this]
    exact k2 a j h1 h2 h3
  have hr5 : RR m M5 (csq B n) H B' H' T fk fp := hr.wz (fun a j ha => k5 a j (by omega) (by omega) (by omega) (by omega)) (by
    have : M5 (m + 1) = I1 (m + 1) := by funext j; exact k5 _ _ (by omega) (by omega) (by omega) (by omega)
    rw [this]; exact hr.1)
  refine (ref_lay hm hr5 hQ).mono (fun I6 _ g => ?_)
  obtain ⟨hr6, hL6, hS6, w6⟩ := g
  have hS6' : LFS m (I6 (m + 1)) I6 := by rw [w6.a]; exact hS6
  have k6 : ∀ a j, ¬ (m + 3 ≤ a ∧ a ≤ m + 17) → a ≠ m + 25 → a ≠ m + 26 → a ≠ m + 27 → (a ≠ m ∨ (j ≠ 4 ∧ j ≠ 7 ∧ j ≠ 17 ∧ j ≠ 20 ∧ j ≠ 21 ∧ j ≠ 42)) → I6 a j = I1 a j := fun a j h1 h2 h3 h4 h5 => by
    rw [w6 a j h1 (by omega)]
    exact k5 a j h2 h3 h4 (by omega)
  have e41 : I6 m 41 = n := by rw [k6 _ _ (by omega) (by omega) (by omega) (by omega) (by omega)]; exact n41
  have e42 : I6 m 42 = x := by rw [w6 _ _ (by omega) (by omega), jr_eq e5]
  have e43 : I6 m 43 = mdS B n := by rw [k6 _ _ (by omega) (by omega) (by omega) (by omega) (by omega)]; exact n43
  have e24 : I6 (m + 24) = I0 (m + 24) := by rw [← h24]; funext j; exact k6 _ _ (by omega) (by omega) (by omega) (by omega) (by omega)
  have e28 : ∀ k : Nat, k < n → I6 (m + 28) k = rb (csq B k) := fun k hk => by rw [k6 _ _ (by omega) (by omega) (by omega) (by omega) (by omega)]; exact n28 k hk
  have c6 : CW m B (n + 1) I6 := c2.keep (fun a j h1 h2 => by rw [w6 _ _ (by omega) (by omega), jr_na e5 (by omega)])
  have e20 : I6 m 20 = (setL (csq B n)).length := hL6.2.2.2.2.2
  -- it ends here
  have fin : ∀ (e : Int) (M : jM), M = jup I6 m 40 e → e = endAt B n → e ≠ -1 → (∃ X, RR m M X H B' H' T fk fp) ∧ CO m B M ∧ M (m + 24) = I0 (m + 24) := by
    intro e M eM ee ene
    have ecr : crN B = n := by rw [← ncr]; exact crsF_stop (by rw [← ee]; exact ene) _
    have kM : ∀ a j, (a ≠ m ∨ j ≠ 40) → M a j = I6 a j := fun a j ha => by
      rcases ha with ha | ha
      · exact jr_na eM ha
      · exact jr_nj eM ha
    refine ⟨⟨_, hr6.wz (fun a j ha => kM a j (by omega)) (by
      have : M (m + 1) = I6 (m + 1) := by funext j; exact kM _ _ (by omega)
      rw [this]; exact hr6.1)⟩, ?_, ?_⟩
    · unfold CO
      rw [ecr]
      refine ⟨by rw [kM _ _ (by omega)]; exact e41, hn, by rw [jr_eq eM, ee], by rw [kM _ _ (by omega), e42, ex], by rw [kM _ _ (by omega)]; exact e43, fun k hk => ?_, fun k hk => by rw [kM _ _ (by omega)]; exact e28 k hk, fun k hk => ?_, by rw [← ee]; exact ene, fun q => ?_⟩
      · have g := c6 k (by omega)
        exact ⟨by rw [kM _ _ (by omega)]; exact g.1, fun j j0 j1 => by rw [kM _ _ (by omega)]; exact g.2.1 j j0 j1⟩
      · by_cases q : k = n
        · rw [q]; exact h2
        · exact nlen k (by omega)
      · rw [← ex] at q ⊢
        rcases fx with fx | fx
        · exact absurd fx.1 q
        · exact ⟨fx.1, fx.2.1⟩
    · rw [← e24]
      funext j
      exact kM _ _ (by omega)
  rw [e42]
  refine ⟨fun q => ⟨fun q1 => ?_, fun q1 M43 e43' => ⟨fun q2 => absurd q2 (by decide), fun _ => fin 0 M43 e43' ?_ (by decide)⟩⟩, fun q M54 e54 => ⟨fun q2 => absurd q2 (by decide), fun _ => fin 1 M54 e54 ?_ (by decide)⟩⟩
  · have hne : setL (csq B n) ≠ [] := fun e => q1 (by rw [e20, e]; rfl)
    have hQS := hr6.1.qw hQ
    have eL : setL (csq B n) = setL (I6 (m + 1)) := setL_congr hr6.1.eqS hQS (FLok hQS)
    refine (writeDown_end hm hQS (fun j _ _ => rfl) hS6'.2.1 hS6'.2.2.1 hS6'.2.2.2.1 (setL_Cho hS6')).mono (fun y I7 _ _ g => ?_)
    obtain ⟨rfl, rfl⟩ := g
    have ey : I7 (m + 1) 2 + sumG (I7 (m + 1)) (setL (I7 (m + 1))) = csq B n 2 + sumG (csq B n) (setL (csq B n)) := by
      rw [← eL, hr6.at (j := 2) (by omega), sumG_congr hr6.1.eqS.symm hQ (FLok hQ) ((setL_Ch hQ (FLok hQ)).all (by omega))]
    rw [ey, e41]
    refine ⟨fun q3 => ⟨fun q4 M10 e10 => ⟨fun _ => ?_, fun q5 => absurd rfl q5⟩, fun q4 M21 e21 => ⟨fun q2 => absurd q2 (by decide), fun _ => fin 3 M21 e21 ?_ (by decide)⟩⟩, fun q3 M32 e32 => ⟨fun q2 => absurd q2 (by decide), fun _ => fin 2 M32 e32 ?_ (by decide)⟩⟩
    · -- a round more
      have hcan : endAt B n = -1 := by
        unfold endAt
        rw [if_neg (by rw [← ex, q]; exact fun g => g rfl), if_neg hne, if_neg (by omega), if_neg (by omega)]
      have k10 : ∀ a j, (a ≠ m ∨ j ≠ 40) → M10 a j = I7 a j := fun a j ha => by
        rcases ha with ha | ha
        · exact jr_na e10 ha
        · exact jr_nj e10 ha
      refine (ref_rulesOfSet hm hQ (hL6.keep (fun a j ha => k10 a j (by omega)))).mono (fun z I11 _ _ g => ?_)
      obtain ⟨rfl, rfl⟩ := g
      have l20 := (wS_sum hQ (FLok hQ)).2.2
      refine ⟨⟨by omega, by omega⟩, fun M15 e15 => ?_⟩
      rw [k10 m 43 (by omega), k10 m 20 (by omega), e43, e20]
      refine ⟨⟨by omega, by omega⟩, fun M16 e16 => ?_⟩
      have k16 : ∀ a j, (a ≠ m ∨ (j ≠ 40 ∧ j ≠ 43)) → a ≠ m + 28 → M16 a j = I7 a j := fun a j ha hb => by
        have h1 : M16 a j = M15 a j := by
          rcases ha with ha | ha
          · exact jr_na e16 ha
          · exact jr_nj e16 ha.2
        rw [h1, jr_na e15 hb]
        exact k10 a j (by omega)
      have e161 : M16 (m + 1) = I7 (m + 1) := by funext j; exact k16 _ _ (by omega) (by omega)
      have hr16 : RR m M16 (csq B n) H B' H' T fk fp := hr6.wz (fun a j ha => k16 a j (by omega) (by omega)) (by rw [e161]; exact hr6.1)
      have hL16 : LFS m (M16 (m + 1)) M16 := by
        rw [e161]
        exact LFS_congr (fun _ _ => rfl) hQS hS6' e161 (fun a j ha => k16 a j (by omega) (by omega))
      refine (ref_makeSet hm hr16 hb (by omega) hL16 q3).mono (fun I18 _ g => ?_)
      obtain ⟨p1, p2⟩ := g
      have k18 : ∀ a j, a ≠ m + 1 → a ≠ m + 5 → a ≠ m + 6 → a ≠ m + 18 → a ≠ m + 19 → (a ≠ m ∨ (j ≠ 7 ∧ j ≠ 24)) → I18 a j = M16 a j := p2
      have e41' : I18 m 41 = n := by rw [k18 _ _ (by omega) (by omega) (by omega) (by omega) (by omega) (by omega), k16 _ _ (by omega) (by omega)]; exact e41
      rw [e41']
      refine ⟨⟨by omega, by omega⟩, fun M19 e19 => ?_⟩
      have k19 : ∀ a j, (a ≠ m ∨ j ≠ 41) → M19 a j = I18 a j := fun a j ha => by
        rcases ha with ha | ha
        · exact jr_na e19 ha
        · exact jr_nj e19 ha
      have hn30 : n < 30 := by omega
      have hr19 : RR m M19 (csq B (n + 1)) H B' H' T fk fp := p1.wz (fun a j ha => k19 a j (by omega)) (by
        have : M19 (m + 1) = I18 (m + 1) := by funext j; exact k19 _ _ (by omega)
        rw [this]; exact p1.1)
      have hl : (newL (csq B n) (setL (csq B n)) 0).length ≤ 200 := by
        have := newL_len _ _ _ (setL_Ch hQ (FLok hQ))
        omega
      have hb19 : BW (c + (n + 1 : Nat)) (csq B (n + 1)) := by
        have := hb.mk (setL_Ch hQ (FLok hQ)) hl
        rw [show c + ((n + 1 : Nat) : Int) = c + n + 1 by omega]
        exact this
      have k19' : ∀ a j, (a = m + 24 ∨ (m + 25 ≤ a ∧ a ≤ m + 27)) → M19 a j = I7 a j := fun a j ha => by
        rw [k19 _ _ (by omega), k18 _ _ (by omega) (by omega) (by omega) (by omega) (by omega) (by omega), k16 _ _ (by omega) (by omega)]
      refine go hn30 M19 hr19 hb19 ⟨by rw [jr_eq e19]; omega, by omega, ?_, ?_, c6.keep (fun a j h1 h2 => k19' a j (by omega)), fun k hk => ?_, fun k hk => ?_, ?_⟩ (by rw [← e24]; funext j; exact k19' _ _ (by omega))
      · rw [k19 _ _ (by omega), k18 _ _ (by omega) (by omega) (by omega) (by omega) (by omega) (by omega), jr_eq e16]
        rfl
      · show 0 ≤ mdS B n + _ ∧ mdS B n + _ ≤ _
        omega
      · rw [k19 _ _ (by omega), k18 _ _ (by omega) (by omega) (by omega) (by omega) (by omega) (by omega), jr_na e16 (by omega)]
        by_cases qk : k = n
        · rw [qk, jr_eq e15]
        · rw [jr_nj e15 (by omega), k10 _ _ (by omega)]
          exact e28 k (by omega)
      · by_cases qk : k = n
        · rw [qk]; exact h2
        · exact nlen k (by omega)
      · rw [← crsF_go hcan hn30]
        exact ncr
    · unfold endAt
      rw [if_neg (by rw [← ex, q]; exact fun g => g rfl), if_neg hne, if_neg (by omega), if_pos (by omega)]
    · unfold endAt
      rw [if_neg (by rw [← ex, q]; exact fun g => g rfl), if_neg hne, if_pos (by omega)]
  · have he : setL (csq B n) = [] := List.length_eq_zero_iff.mp (by omega)
    unfold endAt
    rw [if_neg (by rw [← ex, q]; exact fun g => g rfl), if_pos he]
  · unfold endAt
    rw [if_pos (by rw [← ex]; exact q)]
theorem ref_goCourse (hm : WX10 G m) (h : RR m I B H B' H' T fk fp) (hW : BW c B) (hc : c ≤ 900000) : jRV E (jA m) kX10_goCourse [VR m] G I (fun I' => (∃ X, RR m I' X H B' H' T fk fp) ∧ CO m B I' ∧ I' (m + 24) = I (m + 24)) := by
  have loop : ∀ (d n : Nat) (I1 : jM), n + d = 30 → RR m I1 (csq B n) H B' H' T fk fp → BW (c + n) (csq B n) → CN m B n I1 → I1 (m + 24) = I (m + 24) → jOV E (jA m) kX10_goCourse 10 [VR m] G I1 (fun I' => (∃ X, RR m I' X H B' H' T fk fp) ∧ CO m B I' ∧ I' (m + 24) = I (m + 24)) := by
    intro d
    induction d with
    | zero =>
      intro n I1 hn hr hb hN h24
      exact goCourse_body hm hc (by omega) hr hb hN h24 (fun q => by omega)
    | succ d ih =>
      intro n I1 hn hr hb hN h24
      exact goCourse_body hm hc (by omega) hr hb hN h24 (fun q I2 a1 a2 a3 a4 => ih (n + 1) I2 (by omega) a1 a2 a3 a4)
  refine en_X10_goCourse hm (fun _ M1 e1 M2 e2 => ?_)
  have k2 : ∀ a j, (a ≠ m ∨ (j ≠ 41 ∧ j ≠ 43)) → M2 a j = I a j := fun a j ha => by
    rcases ha with ha | ha
    · rw [jr_na e2 ha, jr_na e1 ha]
    · rw [jr_nj e2 ha.2, jr_nj e1 ha.1]
  refine loop 30 0 M2 (by omega) (h.wz (fun a j ha => k2 a j (by omega)) (by
    have : M2 (m + 1) = I (m + 1) := by funext j; exact k2 _ _ (by omega)
    rw [this]; exact h.1)) (by show BW (c + ((0 : Nat) : Int)) B; rw [show c + ((0 : Nat) : Int) = c by omega]; exact hW) ⟨by rw [jr_nj e2 (by omega), jr_eq e1]; rfl, by omega, by rw [jr_eq e2]; rfl, ⟨Int.le_refl _, Int.le_refl _⟩, fun k hk => absurd hk (Nat.not_lt_zero k), fun k hk => absurd hk (Nat.not_lt_zero k), fun k hk => absurd hk (Nat.not_lt_zero k), rfl⟩ (by funext j; exact k2 _ _ (by omega))
theorem CO.keep {I' : jM} (h : CO m B I) (hk : ∀ a j, a ≠ m + 1 → I' a j = I a j) : CO m B I' := by
  obtain ⟨h1, h2, h3, h4, h5, h6, h7, h8⟩ := h
  exact ⟨by rw [hk _ _ (by omega)]; exact h1, h2, by rw [hk _ _ (by omega)]; exact h3, by rw [hk _ _ (by omega)]; exact h4, by rw [hk _ _ (by omega)]; exact h5, fun k hk' => ⟨by rw [hk _ _ (by omega)]; exact (h6 k hk').1, fun j j0 j1 => by rw [hk _ _ (by omega)]; exact (h6 k hk').2 j j0 j1⟩, fun k hk' => by rw [hk _ _ (by omega)]; exact h7 k hk', h8⟩
theorem ref_layCourse (hm : WX10 G m) (h : RR m I B H B' H' T fk fp) (hW : BW c B) (hc : c ≤ 900000) : jRV E (jA m) kX10_layCourse [VR m] G I (fun I' => RR m I' B H B' H' T fk fp ∧ CO m B I') := by
  have l35 : ∀ (I2 : jM) (X : Int → Int), (∀ j, 0 ≤ j → j < 1052 → I2 (m + 24) j = B (2 + j)) → ∀ (d : Nat) (k : Int), 0 ≤ k → k + d = 1052 → ∀ I1 : jM, I1 (m + 24) = I2 (m + 24) → RR m I1 (fun j => if 2 ≤ j ∧ j < 2 + k then B j else X j) H B' H' T fk fp → CO m B I1 → jOV E (jA m) kX10_layCourse 35 [VR m, VI k] G I1 (fun I' => RR m I' B H B' H' T fk fp ∧ CO m B I') := by
    intro I2 X h2 d
    induction d with
    | zero =>
      intro k k0 k1 I1 e24 hr hC
      refine st_X10_layCourse_35 hm (fun _ _ => ⟨fun _ => ⟨?_, hC⟩, fun q => by omega⟩)
      have e : (fun j => if 2 ≤ j ∧ j < 2 + k then B j else X j) = B := by
        have a1 := hr.1.1
        have b1 := h.1.1
        funext j
        by_cases q : 2 ≤ j ∧ j < 2 + k
        · rw [if_pos q]
        · have := congrFun a1 j
          rw [this, b1]
          unfold nrm
          rw [if_neg (by omega), if_neg (by omega)]
      rw [e] at hr
      exact hr
    | succ d ih =>
      intro k k0 k1 I1 e24 hr hC
      refine st_X10_layCourse_35 hm (fun _ _ => ⟨fun q => by omega, fun _ => ⟨⟨by omega, by omega⟩, ⟨by omega, by omega⟩, fun M3 e3 => ⟨⟨by omega, by omega⟩, ?_⟩⟩⟩)
      have ev : I1 (m + 24) k = B (2 + k) := by rw [e24]; exact h2 k k0 (by omega)
      rw [ev] at e3
      refine ih (k + 1) (by omega) (by omega) M3 (by rw [← e24]; funext j; exact jr_na e3 (by omega)) ?_ (hC.keep (fun a j ha => jr_na e3 ha))
      have e : (fun j => if 2 ≤ j ∧ j < 2 + (k + 1) then B j else X j) = up (fun j => if 2 ≤ j ∧ j < 2 + k then B j else X j) (2 + k) (B (2 + k)) := by
        funext j
        unfold up
        dsimp only
        by_cases q : j = 2 + k
        · rw [if_pos q, if_pos (by omega), q]
        · rw [if_neg q]
          by_cases q2 : 2 ≤ j ∧ j < 2 + k
          · rw [if_pos q2, if_pos (by omega)]
          · rw [if_neg q2, if_neg (by omega)]
      rw [e]
      exact hr.set e3 (by omega)
  have l2 : ∀ (d : Nat) (k : Int), 0 ≤ k → k + d = 1052 → ∀ I1 : jM, (∀ j, 0 ≤ j → j < k → I1 (m + 24) j = B (2 + j)) → RR m I1 B H B' H' T fk fp → jOV E (jA m) kX10_layCourse 2 [VR m, VI k] G I1 (fun I' => RR m I' B H B' H' T fk fp ∧ CO m B I') := by
    intro d
    induction d with
    | zero =>
      intro k k0 k1 I1 h24 hr
      refine st_X10_layCourse_2 hm (fun _ _ => ⟨fun _ => (ref_goCourse hm hr hW hc).mono (fun I2 _ g => ?_), fun q => by omega⟩)
      obtain ⟨⟨X, g1⟩, g2, g3⟩ := g
      refine l35 I2 X (fun j j0 j1 => by rw [g3]; exact h24 j j0 (by omega)) 1052 0 (by omega) (by omega) I2 rfl ?_ g2
      have e : (fun j => if 2 ≤ j ∧ j < 2 + 0 then B j else X j) = X := by
        funext j
        rw [if_neg (by omega)]
      rw [e]
      exact g1
    | succ d ih =>
      intro k k0 k1 I1 h24 hr
      refine st_X10_layCourse_2 hm (fun _ _ => ⟨fun q => by omega, fun _ => ⟨⟨by omega, by omega⟩, ⟨by omega, by omega⟩, fun M4 e4 => ⟨⟨by omega, by omega⟩, ?_⟩⟩⟩)
      rw [hr.at (j := 2 + k) (by omega)] at e4
      refine ih (k + 1) (by omega) (by omega) M4 (fun j j0 j1 => ?_) (hr.wz (fun a j ha => jr_na e4 (by omega)) (by
        have : M4 (m + 1) = I1 (m + 1) := by funext j; exact jr_na e4 (by omega)
        rw [this]; exact hr.1))
      by_cases q : j = k
      · rw [q, jr_eq e4]
      · rw [jr_nj e4 q]
        exact h24 j j0 (by omega)
  exact en_X10_layCourse hm (fun _ => l2 1052 0 (by omega) (by omega) I (fun j j0 j1 => by omega) h)
end SA
