/-! ===== the reference as a whole: its block, steps, image, tape, fault ===== -/
def up (B : Int → Int) (j v : Int) : Int → Int := fun k => if k = j then v else B k
theorem up_eq {B : Int → Int} {j v : Int} : up B j v j = v := if_pos rfl
theorem up_ne {B : Int → Int} {j v k : Int} (h : k ≠ j) : up B j v k = B k := if_neg h
def RR (m : Nat) (I : jM) (B : Int → Int) (H : List (Int → Int)) (B' : Int → Int) (H' : List (Int → Int)) (T : List Int) (fk fp : Int) : Prop := AbsR (I (m + 1)) B H ∧ AbsR (I (m + 2)) B' H' ∧ (I m 26 = T.length ∧ T.length ≤ 300 ∧ ∀ i : Nat, i < T.length → I (m + 20) i = T.getD i 0) ∧ I m 31 = fk ∧ I m 32 = fp
/-- a block that is as it should be; c bounds its rounds, and its spans -/
def BW (c : Int) (B : Int → Int) : Prop := QW B ∧ (∀ i, 0 ≤ i → i < B 2 → 0 ≤ B (210 + i) ∧ B (210 + i) ≤ 6) ∧ (∀ i, B 2 ≤ i → i < 200 → B (10 + i) = 0) ∧ (∀ j, 2 * B 3 ≤ j → j < 16 → B (410 + j) = 0) ∧ (∀ j, 410 ≤ j → j < 426 → -(200 * c) ≤ B j ∧ B j ≤ 200 * c + 200) ∧ (∀ k, 0 ≤ k → k < B 7 → (0 ≤ B (426 + 2 * k) ∧ B (426 + 2 * k) < B 4) ∧ 0 ≤ B (426 + 2 * k + 1) ∧ B (426 + 2 * k + 1) < B 4) ∧ (0 ≤ B 8 ∧ B 8 ≤ c) ∧ (0 ≤ B 9 ∧ B 9 ≤ 24) ∧ 0 ≤ B 5 ∧ B 5 ≤ 1
theorem AbsR.at {S B : Int → Int} {H : List (Int → Int)} (h : AbsR S B H) {j : Int} (hj : 2 ≤ j ∧ j < 1054) : S j = B j := by rw [h.1]; exact (nrm_at hj).symm
theorem AbsR.qw {S B : Int → Int} {H : List (Int → Int)} (h : AbsR S B H) (hQ : QW B) : QW S := QW_congr h.eqS.symm hQ
theorem AbsR.set {S S' B : Int → Int} {H : List (Int → Int)} (h : AbsR S B H) {j v : Int} (hj : 2 ≤ j ∧ j < 1054) (e : ∀ k, S' k = if k = j then v else S k) : AbsR S' (up B j v) H := by
  have g := h.upd (S' := S') (fun k hk => by rw [e, if_neg (fun q => hk (by omega))])
  have eB : nrm S' = up B j v := by
    funext k
    rw [h.1]
    unfold nrm up
    by_cases q : k = j
    · rw [if_pos q, if_pos (by omega), e, if_pos q]
    · rw [if_neg q, e, if_neg q]
  rw [eB] at g
  exact g
/-- a new block over the same steps -/
theorem AbsR.new {S S' B X : Int → Int} {H : List (Int → Int)} (h : AbsR S B H) (hk : ∀ j, ¬ (2 ≤ j ∧ j < 1054) → S' j = S j) (hX : ∀ j, X j = if 2 ≤ j ∧ j < 1054 then S' j else 0) : AbsR S' X H := by
  have g := h.upd hk
  have e : nrm S' = X := by funext j; rw [hX]; rfl
  rw [e] at g
  exact g
theorem jup_at {I M : jM} {a : Nat} {j v : Int} (e : M = jup I a j v) : ∀ k, M a k = if k = j then v else I a k := fun k => by
  by_cases q : k = j
  · rw [q, jr_eq e, if_pos rfl]
  · rw [jr_nj e q, if_neg q]
section RS
variable {E : jE} {G : jG} {m : Nat} {I : jM} {B B' : Int → Int} {H H' : List (Int → Int)} {T : List Int} {fk fp c : Int}
theorem RR.wz {I' : jM} (h : RR m I B H B' H' T fk fp) (hw : WZ m I I') {X : Int → Int} {Y : List (Int → Int)} (hA : AbsR (I' (m + 1)) X Y) : RR m I' X Y B' H' T fk fp := by
  obtain ⟨h1, h2, h3, h4, h5⟩ := h
  refine ⟨hA, ?_, ⟨?_, h3.2.1, fun i hi => ?_⟩, ?_, ?_⟩
  · have e : I' (m + 2) = I (m + 2) := by funext j; exact hw _ _ (by omega)
    rw [e]
    exact h2
  · rw [hw _ _ (by omega)]; exact h3.1
  · rw [hw _ _ (by omega)]; exact h3.2.2 i hi
  · rw [hw _ _ (by omega)]; exact h4
  · rw [hw _ _ (by omega)]; exact h5
theorem RR.set {M : jM} (h : RR m I B H B' H' T fk fp) {j v : Int} (e : M = jup I (m + 1) j v) (hj : 2 ≤ j ∧ j < 1054) : RR m M (up B j v) H B' H' T fk fp := h.wz (w1z (fun a k ha => jr_na e ha)) (h.1.set hj (jup_at e))
theorem RR.at (h : RR m I B H B' H' T fk fp) {j : Int} (hj : 2 ≤ j ∧ j < 1054) : I (m + 1) j = B j := h.1.at hj
theorem sp_keepR (hm : WX10 G m) (h : RR m I B H B' H' T fk fp) : jRV E (jA m) kX10_keep [VR m] G I (fun I' => RR m I' B (pushH H B) B' H' T fk fp ∧ ∀ a j, a ≠ m + 1 → I' a j = I a j) := by
  refine (sp_X10_keep hm rfl h.1).mono (fun I' _ g => ?_)
  obtain ⟨S', g1, g2, g3, g4⟩ := g
  exact ⟨h.wz (w1z g4) (by rw [g1]; exact g3), g4⟩
/-! feed, end -/
set_option maxRecDepth 20000 in
theorem st_X10_four_3 {E : jE} {G : jG} {I : jM} {q : jM → Prop} {m : Nat} {x1 : Int} {x2 : Int} (hm : WX10 G m) (hT : (∀ a j, jRg (G.2.1 a).1 (I a j)) → jIn x1 → jIn x2 → ((x2 < 0 → q I) ∧ (¬ x2 < 0 → ((0 : Int) ≤ (I m 26) ∧ ((I m 26) : Int) < 300) ∧ (∀ M2, M2 = jup I (m + 20) (I m 26) (jand (jshr x1 x2) 255) → jIn ((I m 26) + 1) ∧ (∀ M3, M3 = jup M2 m 26 ((I m 26) + 1) → jIn (x2 + (-8)) ∧ jOV E (jA m) kX10_four 3 [VR m, VI x1, VI (x2 + (-8))] G M3 q))))) : jOV E (jA m) kX10_four 3 [VR m, VI x1, VI x2] G I q := by
  intro I0 hF
  refine jOk_mem (fun hI => ?_)
  refine jOk_in (i := 1) rfl (fun hx1 => ?_)
  refine jOk_in (i := 2) rfl (fun hx2 => ?_)
  replace hT := hT hI hx1 hx2
  refine r_iload_n dX10_four_3 rfl (i := 2) rfl ?_
  refine r_if_lt (tgt := 39) dX10_four_4 rfl hx2 (fun hcc => ?_) (fun hcc => ?_)
  · replace hT := hT.1 hcc
    exact r_vret dX10_four_39 rfl ⟨Nat.zero_le _, Nat.zero_le _⟩ ⟨rfl, rfl, hF, hT⟩
  · replace hT := hT.2 hcc
    refine r_aload_n dX10_four_7 rfl (i := 0) rfl ?_
    refine rr_getR (b := (m + 20)) dX10_four_8 fg_X10_68 rfl rfl (wX10_l hm) (wX10_s hm) (wX10_r25 hm) ?_
    refine r_aload_n dX10_four_11 rfl (i := 0) rfl ?_
    refine rr_getI (v := I m 26) dX10_four_12 fg_X10_241 rfl (wX10_l hm) (wX10_s hm) rfl ?_
    refine r_iload_n dX10_four_15 rfl (i := 1) rfl ?_
    refine r_iload_n dX10_four_16 rfl (i := 2) rfl ?_
    refine r_ishr dX10_four_17 ?_
    refine r_sipush (n := 255) dX10_four_18 (by decide +kernel) ?_
    refine r_iand dX10_four_21 ?_
    obtain ⟨hc1, hT⟩ := hT
    refine rr_iastore dX10_four_22 (wX10_l25 hm) (wX10_a25 hm) (by decide) hc1 (j32_in _) (fun M2 eM2 => ?_)
    have hFM2 := jFr_up hF eM2 (wX10_f hm 20 (by decide))
    replace hT := hT M2 eM2
    refine jOk_mem (fun hIM2 => ?_)
    refine r_aload_n dX10_four_23 rfl (i := 0) rfl ?_
    refine r_dup dX10_four_24 rfl ?_
    refine rr_getI (v := I m 26) dX10_four_25 fg_X10_241 rfl (wX10_l hm) (wX10_s hm) (jr_na eM2 (by omega)) ?_
    refine r_iconst (n := 1) dX10_four_28 ?_
    refine r_iadd dX10_four_29 ?_
    obtain ⟨hc4, hT⟩ := hT
    refine rr_putI (jj := 26) dX10_four_30 fp_X10_241 rfl rfl (wX10_l hm) (wX10_s hm) hc4 (fun M3 eM3 => ?_)
    have hFM3 := jFr_up hFM2 eM3 (wX10_f hm 0 (by decide))
    replace hT := hT M3 eM3
    refine jOk_mem (fun hIM3 => ?_)
    obtain ⟨hc5, hT⟩ := hT
    refine rr_iinc (i := 2) (ls' := [VR m, VI x1, VI (x2 + (-8))]) dX10_four_33 rfl (Nat.le_of_ble_eq_true rfl) rfl rfl hc5 ?_
    refine r_goto (tgt := 3) dX10_four_36 rfl ?_
    exact hT I0 hFM3
set_option maxRecDepth 20000 in
theorem st_X10_four_0 {E : jE} {G : jG} {I : jM} {q : jM → Prop} {m : Nat} {x1 : Int} (hm : WX10 G m) (hT : (∀ a j, jRg (G.2.1 a).1 (I a j)) → jIn x1 → jOV E (jA m) kX10_four 3 [VR m, VI x1, VI 24] G I q) : jOV E (jA m) kX10_four 0 [VR m, VI x1, VN] G I q := by
  intro I0 hF
  refine jOk_mem (fun hI => ?_)
  refine jOk_in (i := 1) rfl (fun hx1 => ?_)
  replace hT := hT hI hx1
  refine r_bipush (n := 24) dX10_four_0 (by decide +kernel) ?_
  refine rr_istore_n (i := 2) (ls' := [VR m, VI x1, VI 24]) dX10_four_2 rfl (Nat.le_of_ble_eq_true rfl) rfl rfl ⟨by decide, by decide⟩ ?_
  exact hT I0 hF
theorem en_X10_four {E : jE} {G : jG} {I : jM} {q : jM → Prop} {m : Nat} {x1 : Int} (hm : WX10 G m) (hT : (∀ a j, jRg (G.2.1 a).1 (I a j)) → jIn x1 → jOV E (jA m) kX10_four 3 [VR m, VI x1, VI 24] G I q) : jRV E (jA m) kX10_four [VR m, VI x1] G I q := jRun.of mt_X10_four.2.2.2 1 rfl (fun _ => st_X10_four_0 hm hT I (fun _ _ => rfl))
set_option maxRecDepth 20000 in
theorem st_X10_feed_0 {E : jE} {G : jG} {I : jM} {q : Int → jM → Prop} {m : Nat} {x1 : Int} {x2 : Int} {x3 : Int} {x4 : Int} {x5 : Int} (hm : WX10 G m) (hT : (∀ a j, jRg (G.2.1 a).1 (I a j)) → jIn x1 → jIn x2 → jIn x3 → jIn x4 → jIn x5 → jIn ((I m 26) + 20) ∧ ((((I m 26) + 20) ≤ 300 → jRV E (jA m) kX10_four [VR m, VI x1] G I (fun I2 => jRV E (jA m) kX10_four [VR m, VI x2] G I2 (fun I3 => jRV E (jA m) kX10_four [VR m, VI x3] G I3 (fun I4 => jRV E (jA m) kX10_four [VR m, VI x4] G I4 (fun I5 => jRV E (jA m) kX10_four [VR m, VI x5] G I5 (fun I6 => q (I6 m 26) I6)))))) ∧ (¬ ((I m 26) + 20) ≤ 300 → q (-1) I))) : jOI E (jA m) kX10_feed 0 [VR m, VI x1, VI x2, VI x3, VI x4, VI x5] G I q := by
  intro I0 hF
  refine jOk_mem (fun hI => ?_)
  refine jOk_in (i := 1) rfl (fun hx1 => ?_)
  refine jOk_in (i := 2) rfl (fun hx2 => ?_)
  refine jOk_in (i := 3) rfl (fun hx3 => ?_)
  refine jOk_in (i := 4) rfl (fun hx4 => ?_)
  refine jOk_in (i := 5) rfl (fun hx5 => ?_)
  replace hT := hT hI hx1 hx2 hx3 hx4 hx5
  refine r_aload_n dX10_feed_0 rfl (i := 0) rfl ?_
  refine rr_getI (v := I m 26) dX10_feed_1 fg_X10_241 rfl (wX10_l hm) (wX10_s hm) rfl ?_
  refine r_bipush (n := 20) dX10_feed_4 (by decide +kernel) ?_
  refine r_iadd dX10_feed_6 ?_
  refine r_sipush (n := 300) dX10_feed_7 (by decide +kernel) ?_
  obtain ⟨hc1, hT⟩ := hT
  refine r_icmp_le (tgt := 15) dX10_feed_10 rfl hc1 ⟨by decide, by decide⟩ (fun hcc => ?_) (fun hcc => ?_)
  · replace hT := hT.1 hcc
    refine r_aload_n dX10_feed_15 rfl (i := 0) rfl ?_
    refine r_iload_n dX10_feed_16 rfl (i := 1) rfl ?_
    refine rr_cVV (a := m) (as := [VI x1]) (st := []) dX10_feed_17 mt_X10_four ml_X10_244 mi_X10_four rm_X10_feed_X10_four jz_X10_four ⟨Nat.zero_le _, Nat.zero_le _⟩ (Nat.le_of_ble_eq_true rfl) (wX10_l hm) (wX10_c hm) (jasI hx1 jas0) hT (fun I2 hFI2 hT => ?_)
    replace hFI2 := jFr_tr hF hFI2
    refine jOk_mem (fun hI2 => ?_)
    refine r_aload_n dX10_feed_20 rfl (i := 0) rfl ?_
    refine r_iload_n dX10_feed_21 rfl (i := 2) rfl ?_
    refine rr_cVV (a := m) (as := [VI x2]) (st := []) dX10_feed_22 mt_X10_four ml_X10_244 mi_X10_four rm_X10_feed_X10_four jz_X10_four ⟨Nat.zero_le _, Nat.zero_le _⟩ (Nat.le_of_ble_eq_true rfl) (wX10_l hm) (wX10_c hm) (jasI hx2 jas0) hT (fun I3 hFI3 hT => ?_)
    replace hFI3 := jFr_tr hFI2 hFI3
    refine jOk_mem (fun hI3 => ?_)
    refine r_aload_n dX10_feed_25 rfl (i := 0) rfl ?_
    refine r_iload_n dX10_feed_26 rfl (i := 3) rfl ?_
    refine rr_cVV (a := m) (as := [VI x3]) (st := []) dX10_feed_27 mt_X10_four ml_X10_244 mi_X10_four rm_X10_feed_X10_four jz_X10_four ⟨Nat.zero_le _, Nat.zero_le _⟩ (Nat.le_of_ble_eq_true rfl) (wX10_l hm) (wX10_c hm) (jasI hx3 jas0) hT (fun I4 hFI4 hT => ?_)
    replace hFI4 := jFr_tr hFI3 hFI4
    refine jOk_mem (fun hI4 => ?_)
    refine r_aload_n dX10_feed_30 rfl (i := 0) rfl ?_
    refine r_iload dX10_feed_31 (i := 4) rfl ?_
    refine rr_cVV (a := m) (as := [VI x4]) (st := []) dX10_feed_33 mt_X10_four ml_X10_244 mi_X10_four rm_X10_feed_X10_four jz_X10_four ⟨Nat.zero_le _, Nat.zero_le _⟩ (Nat.le_of_ble_eq_true rfl) (wX10_l hm) (wX10_c hm) (jasI hx4 jas0) hT (fun I5 hFI5 hT => ?_)
    replace hFI5 := jFr_tr hFI4 hFI5
    refine jOk_mem (fun hI5 => ?_)
    refine r_aload_n dX10_feed_36 rfl (i := 0) rfl ?_
    refine r_iload dX10_feed_37 (i := 5) rfl ?_
    refine rr_cVV (a := m) (as := [VI x5]) (st := []) dX10_feed_39 mt_X10_four ml_X10_244 mi_X10_four rm_X10_feed_X10_four jz_X10_four ⟨Nat.zero_le _, Nat.zero_le _⟩ (Nat.le_of_ble_eq_true rfl) (wX10_l hm) (wX10_c hm) (jasI hx5 jas0) hT (fun I6 hFI6 hT => ?_)
    replace hFI6 := jFr_tr hFI5 hFI6
    refine jOk_mem (fun hI6 => ?_)
    refine r_aload_n dX10_feed_42 rfl (i := 0) rfl ?_
    refine rr_getI (v := I6 m 26) dX10_feed_43 fg_X10_241 rfl (wX10_l hm) (wX10_s hm) rfl ?_
    exact r_iret dX10_feed_46 rfl (hI6 _ _).inR ⟨Nat.zero_le _, Nat.zero_le _⟩ ⟨_, rfl, rfl, hFI6, hT⟩
  · replace hT := hT.2 hcc
    refine r_iconst (n := (-1)) dX10_feed_13 ?_
    exact r_iret dX10_feed_14 rfl ⟨by decide, by decide⟩ ⟨Nat.zero_le _, Nat.zero_le _⟩ ⟨_, rfl, rfl, hF, hT⟩
theorem en_X10_feed {E : jE} {G : jG} {I : jM} {q : Int → jM → Prop} {m : Nat} {x1 : Int} {x2 : Int} {x3 : Int} {x4 : Int} {x5 : Int} (hm : WX10 G m) (hT : (∀ a j, jRg (G.2.1 a).1 (I a j)) → jIn x1 → jIn x2 → jIn x3 → jIn x4 → jIn x5 → jIn ((I m 26) + 20) ∧ ((((I m 26) + 20) ≤ 300 → jRV E (jA m) kX10_four [VR m, VI x1] G I (fun I2 => jRV E (jA m) kX10_four [VR m, VI x2] G I2 (fun I3 => jRV E (jA m) kX10_four [VR m, VI x3] G I3 (fun I4 => jRV E (jA m) kX10_four [VR m, VI x4] G I4 (fun I5 => jRV E (jA m) kX10_four [VR m, VI x5] G I5 (fun I6 => q (I6 m 26) I6)))))) ∧ (¬ ((I m 26) + 20) ≤ 300 → q (-1) I))) : jRI E (jA m) kX10_feed [VR m, VI x1, VI x2, VI x3, VI x4, VI x5] G I q := jRun.of mt_X10_feed.2.2.2 0 rfl (fun _ => st_X10_feed_0 hm hT I (fun _ _ => rfl))
set_option maxRecDepth 20000 in
theorem st_X10_end_0 {E : jE} {G : jG} {I : jM} {q : Int → jM → Prop} {m : Nat} {x1 : Int} (hm : WX10 G m) (hT : (∀ a j, jRg (G.2.1 a).1 (I a j)) → jIn x1 → (((0 ≤ x1 ∧ x1 ≤ (I m 26)) → (∀ M2, M2 = jup I m 26 x1 → q x1 M2)) ∧ (¬ (0 ≤ x1 ∧ x1 ≤ (I m 26)) → q (-1) I))) : jOI E (jA m) kX10_end 0 [VR m, VI x1] G I q := by
  intro I0 hF
  refine jOk_mem (fun hI => ?_)
  refine jOk_in (i := 1) rfl (fun hx1 => ?_)
  replace hT := hT hI hx1
  refine r_iload_n dX10_end_0 rfl (i := 1) rfl ?_
  refine r_iconst (n := 0) dX10_end_1 ?_
  refine r_aload_n dX10_end_2 rfl (i := 0) rfl ?_
  refine rr_getI (v := I m 26) dX10_end_3 fg_X10_241 rfl (wX10_l hm) (wX10_s hm) rfl ?_
  refine rr_pSI (A := (jA m)) (v := jI (0 ≤ x1 ∧ x1 ≤ (I m 26))) (as := [VI x1, VI 0, VI (I m 26)]) (st := []) dX10_end_6 mt_X10_isIn ml_X10_103 ms_X10_isIn rm_X10_end_X10_isIn jz_X10_isIn ⟨Nat.zero_le _, Nat.zero_le _⟩ (Nat.le_of_ble_eq_true rfl) (jasI hx1 (jasI ⟨by decide, by decide⟩ (jasI (hI _ _).inR jas0))) sp_X10_isIn (fun hc1 => ?_)
  refine r_if_ne (tgt := 14) dX10_end_9 rfl hc1 (fun hcc => ?_) (fun hcc => ?_)
  · replace hT := hT.1 (jI_p hcc)
    refine r_aload_n dX10_end_14 rfl (i := 0) rfl ?_
    refine r_iload_n dX10_end_15 rfl (i := 1) rfl ?_
    refine rr_putI (jj := 26) dX10_end_16 fp_X10_241 rfl rfl (wX10_l hm) (wX10_s hm) hx1 (fun M2 eM2 => ?_)
    have hFM2 := jFr_up hF eM2 (wX10_f hm 0 (by decide))
    replace hT := hT M2 eM2
    refine jOk_mem (fun hIM2 => ?_)
    refine r_iload_n dX10_end_19 rfl (i := 1) rfl ?_
    exact r_iret dX10_end_20 rfl hx1 ⟨Nat.zero_le _, Nat.zero_le _⟩ ⟨_, rfl, rfl, hFM2, hT⟩
  · replace hT := hT.2 (jI_n hcc)
    refine r_iconst (n := (-1)) dX10_end_12 ?_
    exact r_iret dX10_end_13 rfl ⟨by decide, by decide⟩ ⟨Nat.zero_le _, Nat.zero_le _⟩ ⟨_, rfl, rfl, hF, hT⟩
theorem en_X10_end {E : jE} {G : jG} {I : jM} {q : Int → jM → Prop} {m : Nat} {x1 : Int} (hm : WX10 G m) (hT : (∀ a j, jRg (G.2.1 a).1 (I a j)) → jIn x1 → (((0 ≤ x1 ∧ x1 ≤ (I m 26)) → (∀ M2, M2 = jup I m 26 x1 → q x1 M2)) ∧ (¬ (0 ≤ x1 ∧ x1 ≤ (I m 26)) → q (-1) I))) : jRI E (jA m) kX10_end [VR m, VI x1] G I q := jRun.of mt_X10_end.2.2.2 0 rfl (fun _ => st_X10_end_0 hm hT I (fun _ _ => rfl))
def by4 (v : Int) : List Int := [jand (jshr v 24) 255, jand (jshr v 16) 255, jand (jshr v 8) 255, jand (jshr v 0) 255]
theorem RR.tape {M M' : jM} (h : RR m I B H B' H' T fk fp) (hl : T.length < 300) {v : Int} (e : M = jup I (m + 20) (I m 26) v) (e' : M' = jup M m 26 (I m 26 + 1)) : RR m M' B H B' H' (T ++ [v]) fk fp := by
  obtain ⟨h1, h2, h3, h4, h5⟩ := h
  have f1 : ∀ a, a ≠ m + 20 → a ≠ m → M' a = I a := fun a ha hb => by
    funext j
    rw [jr_na e' hb, jr_na e ha]
  refine ⟨by rw [f1 _ (by omega) (by omega)]; exact h1, by rw [f1 _ (by omega) (by omega)]; exact h2, ⟨?_, ?_, fun i hi => ?_⟩, ?_, ?_⟩
  · rw [jr_eq e', h3.1, List.length_append]; simp
  · rw [List.length_append]; simp; omega
  · rw [List.length_append] at hi
    simp only [List.length_cons, List.length_nil] at hi
    rw [jr_na e' (by omega)]
    by_cases q : i = T.length
    · rw [q, ← h3.1, jr_eq e]
      simp
    · rw [jr_nj e (by rw [h3.1]; omega), gd_left (by omega)]
      exact h3.2.2 i (by omega)
  · rw [jr_nj e' (by omega), jr_na e (by omega)]; exact h4
  · rw [jr_nj e' (by omega), jr_na e (by omega)]; exact h5
theorem sp_fourR (hm : WX10 G m) (h : RR m I B H B' H' T fk fp) (hl : T.length + 4 ≤ 300) {v : Int} : jRV E (jA m) kX10_four [VR m, VI v] G I (fun I' => RR m I' B H B' H' (T ++ by4 v) fk fp) := by
  have e26 := h.2.2.1.1
  refine en_X10_four hm (fun _ _ => ?_)
  refine st_X10_four_3 hm (fun _ _ _ => ⟨fun q => absurd q (by decide), fun _ => ⟨⟨by omega, by omega⟩, fun M2 e2 => ⟨⟨by omega, by omega⟩, fun M3 e3 => ⟨⟨by decide, by decide⟩, ?_⟩⟩⟩⟩)
  have h1 := h.tape (by omega) e2 e3
  have e1 := h1.2.2.1.1
  rw [List.length_append] at e1
  simp only [List.length_cons, List.length_nil] at e1
  refine st_X10_four_3 hm (fun _ _ _ => ⟨fun q => absurd q (by decide), fun _ => ⟨⟨by omega, by omega⟩, fun M2 e2 => ⟨⟨by omega, by omega⟩, fun M3 e3 => ⟨⟨by decide, by decide⟩, ?_⟩⟩⟩⟩)
  have h2 := h1.tape (by rw [List.length_append]; simp; omega) e2 e3
  have e1 := h2.2.2.1.1
  rw [List.length_append, List.length_append] at e1
  simp only [List.length_cons, List.length_nil] at e1
  refine st_X10_four_3 hm (fun _ _ _ => ⟨fun q => absurd q (by decide), fun _ => ⟨⟨by omega, by omega⟩, fun M2 e2 => ⟨⟨by omega, by omega⟩, fun M3 e3 => ⟨⟨by decide, by decide⟩, ?_⟩⟩⟩⟩)
  have h3 := h2.tape (by rw [List.length_append, List.length_append]; simp; omega) e2 e3
  have e1 := h3.2.2.1.1
  rw [List.length_append, List.length_append, List.length_append] at e1
  simp only [List.length_cons, List.length_nil] at e1
  refine st_X10_four_3 hm (fun _ _ _ => ⟨fun q => absurd q (by decide), fun _ => ⟨⟨by omega, by omega⟩, fun M2 e2 => ⟨⟨by omega, by omega⟩, fun M3 e3 => ⟨⟨by decide, by decide⟩, ?_⟩⟩⟩⟩)
  have h4 := h3.tape (by rw [List.length_append, List.length_append, List.length_append]; simp; omega) e2 e3
  refine st_X10_four_3 hm (fun _ _ _ => ⟨fun _ => ?_, fun q => absurd (by decide) q⟩)
  have e : T ++ by4 v = T ++ [jand (jshr v 24) 255] ++ [jand (jshr v 16) 255] ++ [jand (jshr v 8) 255] ++ [jand (jshr v 0) 255] := by unfold by4; simp
  rw [e]
  exact h4
theorem ref_feed (hm : WX10 G m) (h : RR m I B H B' H' T fk fp) {a b c d e : Int} : jRI E (jA m) kX10_feed [VR m, VI a, VI b, VI c, VI d, VI e] G I (fun x I' => (300 < T.length + 20 → x = -1 ∧ RR m I' B H B' H' T fk fp) ∧ (T.length + 20 ≤ 300 → x = T.length + 20 ∧ RR m I' B H B' H' (T ++ (by4 a ++ by4 b ++ by4 c ++ by4 d ++ by4 e)) fk fp)) := by
  have e26 := h.2.2.1.1
  have hl := h.2.2.1.2.1
  have l4 : ∀ v, (by4 v).length = 4 := fun v => rfl
  refine en_X10_feed hm (fun _ _ _ _ _ _ => ⟨⟨by omega, by omega⟩, fun q => ?_, fun q => ⟨fun _ => ⟨rfl, h⟩, fun q' => by omega⟩⟩)
  refine (sp_fourR hm h (by omega)).mono (fun I2 _ g2 => ?_)
  refine (sp_fourR hm g2 (by simp [l4]; omega)).mono (fun I3 _ g3 => ?_)
  refine (sp_fourR hm g3 (by simp [l4]; omega)).mono (fun I4 _ g4 => ?_)
  refine (sp_fourR hm g4 (by simp [l4]; omega)).mono (fun I5 _ g5 => ?_)
  refine (sp_fourR hm g5 (by simp [l4]; omega)).mono (fun I6 _ g6 => ⟨fun q' => by omega, fun _ => ⟨?_, ?_⟩⟩)
  · rw [g6.2.2.1.1]
    simp [l4]
  · have e : T ++ (by4 a ++ by4 b ++ by4 c ++ by4 d ++ by4 e) = T ++ by4 a ++ by4 b ++ by4 c ++ by4 d ++ by4 e := by simp
    rw [e]
    exact g6
theorem ref_end (hm : WX10 G m) (h : RR m I B H B' H' T fk fp) {n : Int} : jRI E (jA m) kX10_end [VR m, VI n] G I (fun x I' => (¬ (0 ≤ n ∧ n ≤ T.length) → x = -1 ∧ RR m I' B H B' H' T fk fp) ∧ (0 ≤ n ∧ n ≤ T.length → x = n ∧ RR m I' B H B' H' (T.take n.toNat) fk fp)) := by
  have e26 := h.2.2.1.1
  refine en_X10_end hm (fun _ _ => ?_)
  rw [e26]
  refine ⟨fun q M2 e2 => ⟨fun q' => absurd q q', fun _ => ⟨rfl, ?_⟩⟩, fun q => ⟨fun _ => ⟨rfl, h⟩, fun q' => absurd q' q⟩⟩
  obtain ⟨h1, h2, h3, h4, h5⟩ := h
  have f1 : ∀ a, a ≠ m → M2 a = I a := fun a hb => by
    funext j
    exact jr_na e2 hb
  have el : (T.take n.toNat).length = n.toNat := by rw [List.length_take]; omega
  refine ⟨by rw [f1 _ (by omega)]; exact h1, by rw [f1 _ (by omega)]; exact h2, ⟨by rw [jr_eq e2, el]; omega, by rw [el]; omega, fun i hi => ?_⟩, ?_, ?_⟩
  · rw [el] at hi
    rw [jr_na e2 (by omega), h3.2.2 i (by omega), List.getD_eq_getElem?_getD, List.getD_eq_getElem?_getD, List.getElem?_take, if_pos hi]
  · rw [jr_nj e2 (by omega)]; exact h4
  · rw [jr_nj e2 (by omega)]; exact h5
/-! on, silence, hear, measure, most, put, insist -/
set_option maxRecDepth 20000 in
theorem st_X10_on_0 {E : jE} {G : jG} {I : jM} {q : Int → jM → Prop} {m : Nat} {x1 : Int} {x2 : Int} (hm : WX10 G m) (hT : (∀ a j, jRg (G.2.1 a).1 (I a j)) → jIn x1 → jIn x2 → (0 ≤ I (m + 1) 4 ∧ I (m + 1) 4 ≤ 6) ∧ ((¬ (0 ≤ x1 ∧ x1 < I (m + 1) 4) → q 0 I) ∧ ((0 ≤ x1 ∧ x1 < I (m + 1) 4) → (0 ≤ 514 + 40 * x1 + 1 ∧ 514 + 40 * x1 + 1 < 22094) ∧ ((¬ (I (m + 1) (514 + 40 * x1 + 1)) = 1 → ((¬ 0 = x2 → jRV E (jA m) kX10_keep [VR m] G I (fun I5 => ((x2 = 0 → ((0 : Int) ≤ ((514 + (40 * x1)) + 1) ∧ (((514 + (40 * x1)) + 1) : Int) < 22094) ∧ (∀ M7, M7 = jup I5 (m + 1) ((514 + (40 * x1)) + 1) 0 → q 1 M7)) ∧ (¬ x2 = 0 → ((0 : Int) ≤ ((514 + (40 * x1)) + 1) ∧ (((514 + (40 * x1)) + 1) : Int) < 22094) ∧ (∀ M9, M9 = jup I5 (m + 1) ((514 + (40 * x1)) + 1) 1 → q 1 M9))))) ∧ (0 = x2 → q 0 I))) ∧ ((I (m + 1) (514 + 40 * x1 + 1)) = 1 → ((¬ 1 = x2 → jRV E (jA m) kX10_keep [VR m] G I (fun I10 => ((x2 = 0 → ((0 : Int) ≤ ((514 + (40 * x1)) + 1) ∧ (((514 + (40 * x1)) + 1) : Int) < 22094) ∧ (∀ M12, M12 = jup I10 (m + 1) ((514 + (40 * x1)) + 1) 0 → q 1 M12)) ∧ (¬ x2 = 0 → ((0 : Int) ≤ ((514 + (40 * x1)) + 1) ∧ (((514 + (40 * x1)) + 1) : Int) < 22094) ∧ (∀ M14, M14 = jup I10 (m + 1) ((514 + (40 * x1)) + 1) 1 → q 1 M14))))) ∧ (1 = x2 → q 0 I))))))) : jOI E (jA m) kX10_on 0 [VR m, VI x1, VI x2] G I q := by
  intro I0 hF
  refine jOk_mem (fun hI => ?_)
  refine jOk_in (i := 1) rfl (fun hx1 => ?_)
  refine jOk_in (i := 2) rfl (fun hx2 => ?_)
  replace hT := hT hI hx1 hx2
  refine r_aload_n dX10_on_0 rfl (i := 0) rfl ?_
  refine r_iload_n dX10_on_1 rfl (i := 1) rfl ?_
  obtain ⟨hc2, hT⟩ := hT
  refine rr_pVI (A := (jA m)) (v := jI (0 ≤ x1 ∧ x1 < I (m + 1) 4)) (a := m) (as := [VI x1]) (st := []) dX10_on_2 mt_X10_isRule ml_X10_317 mi_X10_isRule rm_X10_on_X10_isRule jz_X10_isRule ⟨Nat.zero_le _, Nat.zero_le _⟩ (Nat.le_of_ble_eq_true rfl) (wX10_l hm) (wX10_c hm) (jasI hx1 jas0) ((sp_X10_isRule hm) hc2) (fun hc1 => ?_)
  refine r_if_eq (tgt := 27) dX10_on_5 rfl hc1 (fun hcc => ?_) (fun hcc => ?_)
  · replace hT := hT.1 (jI_n hcc)
    refine r_iconst (n := 0) dX10_on_27 ?_
    exact r_zret dX10_on_28 rfl ⟨by decide, by decide⟩ ⟨Nat.zero_le _, Nat.zero_le _⟩ ⟨_, rfl, rfl, hF, hT⟩
  · replace hT := hT.2 (jI_p hcc)
    refine r_aload_n dX10_on_8 rfl (i := 0) rfl ?_
    refine r_iload_n dX10_on_9 rfl (i := 1) rfl ?_
    refine r_iconst (n := 1) dX10_on_10 ?_
    obtain ⟨hc4, hT⟩ := hT
    refine rr_pVI (A := (jA m)) (v := I (m + 1) (514 + 40 * x1 + 1)) (a := m) (as := [VI x1, VI 1]) (st := []) dX10_on_11 mt_X10_get ml_X10_127 mi_X10_get rm_X10_on_X10_get jz_X10_get ⟨Nat.zero_le _, Nat.zero_le _⟩ (Nat.le_of_ble_eq_true rfl) (wX10_l hm) (wX10_c hm) (jasI hx1 (jasI ⟨by decide, by decide⟩ jas0)) ((sp_X10_get hm) hc4) (fun hc3 => ?_)
    refine r_iconst (n := 1) dX10_on_14 ?_
    refine r_icmp_ne (tgt := 22) dX10_on_15 rfl hc3 ⟨by decide, by decide⟩ (fun hcc => ?_) (fun hcc => ?_)
    · replace hT := hT.1 hcc
      refine r_iconst (n := 0) dX10_on_22 ?_
      refine r_iload_n dX10_on_23 rfl (i := 2) rfl ?_
      refine r_icmp_ne (tgt := 29) dX10_on_24 rfl ⟨by decide, by decide⟩ hx2 (fun hcc => ?_) (fun hcc => ?_)
      · replace hT := hT.1 hcc
        refine r_aload_n dX10_on_29 rfl (i := 0) rfl ?_
        refine rr_cVV (a := m) (as := []) (st := []) dX10_on_30 mt_X10_keep ml_X10_250 mi_X10_keep rm_X10_on_X10_keep jz_X10_keep ⟨Nat.zero_le _, Nat.zero_le _⟩ (Nat.le_of_ble_eq_true rfl) (wX10_l hm) (wX10_c hm) jas0 hT (fun I5 hFI5 hT => ?_)
        replace hFI5 := jFr_tr hF hFI5
        refine jOk_mem (fun hI5 => ?_)
        refine r_aload_n dX10_on_33 rfl (i := 0) rfl ?_
        refine rr_getR (b := (m + 1)) dX10_on_34 fg_X10_7 rfl rfl (wX10_l hm) (wX10_s hm) (wX10_r0 hm) ?_
        refine r_sipush (n := 514) dX10_on_37 (by decide +kernel) ?_
        refine r_bipush (n := 40) dX10_on_40 (by decide +kernel) ?_
        refine r_iload_n dX10_on_42 rfl (i := 1) rfl ?_
        refine r_imul dX10_on_43 ?_
        refine r_iadd dX10_on_44 ?_
        refine r_iconst (n := 1) dX10_on_45 ?_
        refine r_iadd dX10_on_46 ?_
        refine r_iload_n dX10_on_47 rfl (i := 2) rfl ?_
        refine r_if_eq (tgt := 55) dX10_on_48 rfl hx2 (fun hcc => ?_) (fun hcc => ?_)
        · replace hT := hT.1 hcc
          refine r_iconst (n := 0) dX10_on_55 ?_
          obtain ⟨hc6, hT⟩ := hT
          refine rr_iastore dX10_on_56 (wX10_l0 hm) (wX10_a0 hm) (by decide) hc6 ⟨by decide, by decide⟩ (fun M7 eM7 => ?_)
          have hFM7 := jFr_up hFI5 eM7 (wX10_f hm 1 (by decide))
          replace hT := hT M7 eM7
          refine jOk_mem (fun hIM7 => ?_)
          refine r_iconst (n := 1) dX10_on_57 ?_
          exact r_zret dX10_on_58 rfl ⟨by decide, by decide⟩ ⟨Nat.zero_le _, Nat.zero_le _⟩ ⟨_, rfl, rfl, hFM7, hT⟩
        · replace hT := hT.2 hcc
          refine r_iconst (n := 1) dX10_on_51 ?_
          refine r_goto (tgt := 56) dX10_on_52 rfl ?_
          obtain ⟨hc8, hT⟩ := hT
          refine rr_iastore dX10_on_56 (wX10_l0 hm) (wX10_a0 hm) (by decide) hc8 ⟨by decide, by decide⟩ (fun M9 eM9 => ?_)
          have hFM9 := jFr_up hFI5 eM9 (wX10_f hm 1 (by decide))
          replace hT := hT M9 eM9
          refine jOk_mem (fun hIM9 => ?_)
          refine r_iconst (n := 1) dX10_on_57 ?_
          exact r_zret dX10_on_58 rfl ⟨by decide, by decide⟩ ⟨Nat.zero_le _, Nat.zero_le _⟩ ⟨_, rfl, rfl, hFM9, hT⟩
      · replace hT := hT.2 hcc
        refine r_iconst (n := 0) dX10_on_27 ?_
        exact r_zret dX10_on_28 rfl ⟨by decide, by decide⟩ ⟨Nat.zero_le _, Nat.zero_le _⟩ ⟨_, rfl, rfl, hF, hT⟩
    · replace hT := hT.2 hcc
      refine r_iconst (n := 1) dX10_on_18 ?_
      refine r_goto (tgt := 23) dX10_on_19 rfl ?_
      refine r_iload_n dX10_on_23 rfl (i := 2) rfl ?_
      refine r_icmp_ne (tgt := 29) dX10_on_24 rfl ⟨by decide, by decide⟩ hx2 (fun hcc => ?_) (fun hcc => ?_)
      · replace hT := hT.1 hcc
        refine r_aload_n dX10_on_29 rfl (i := 0) rfl ?_
        refine rr_cVV (a := m) (as := []) (st := []) dX10_on_30 mt_X10_keep ml_X10_250 mi_X10_keep rm_X10_on_X10_keep jz_X10_keep ⟨Nat.zero_le _, Nat.zero_le _⟩ (Nat.le_of_ble_eq_true rfl) (wX10_l hm) (wX10_c hm) jas0 hT (fun I10 hFI10 hT => ?_)
        replace hFI10 := jFr_tr hF hFI10
        refine jOk_mem (fun hI10 => ?_)
        refine r_aload_n dX10_on_33 rfl (i := 0) rfl ?_
        refine rr_getR (b := (m + 1)) dX10_on_34 fg_X10_7 rfl rfl (wX10_l hm) (wX10_s hm) (wX10_r0 hm) ?_
        refine r_sipush (n := 514) dX10_on_37 (by decide +kernel) ?_
        refine r_bipush (n := 40) dX10_on_40 (by decide +kernel) ?_
        refine r_iload_n dX10_on_42 rfl (i := 1) rfl ?_
        refine r_imul dX10_on_43 ?_
        refine r_iadd dX10_on_44 ?_
        refine r_iconst (n := 1) dX10_on_45 ?_
        refine r_iadd dX10_on_46 ?_
        refine r_iload_n dX10_on_47 rfl (i := 2) rfl ?_
        refine r_if_eq (tgt := 55) dX10_on_48 rfl hx2 (fun hcc => ?_) (fun hcc => ?_)
        · replace hT := hT.1 hcc
          refine r_iconst (n := 0) dX10_on_55 ?_
          obtain ⟨hc11, hT⟩ := hT
          refine rr_iastore dX10_on_56 (wX10_l0 hm) (wX10_a0 hm) (by decide) hc11 ⟨by decide, by decide⟩ (fun M12 eM12 => ?_)
          have hFM12 := jFr_up hFI10 eM12 (wX10_f hm 1 (by decide))
          replace hT := hT M12 eM12
          refine jOk_mem (fun hIM12 => ?_)
          refine r_iconst (n := 1) dX10_on_57 ?_
          exact r_zret dX10_on_58 rfl ⟨by decide, by decide⟩ ⟨Nat.zero_le _, Nat.zero_le _⟩ ⟨_, rfl, rfl, hFM12, hT⟩
        · replace hT := hT.2 hcc
          refine r_iconst (n := 1) dX10_on_51 ?_
          refine r_goto (tgt := 56) dX10_on_52 rfl ?_
          obtain ⟨hc13, hT⟩ := hT
          refine rr_iastore dX10_on_56 (wX10_l0 hm) (wX10_a0 hm) (by decide) hc13 ⟨by decide, by decide⟩ (fun M14 eM14 => ?_)
          have hFM14 := jFr_up hFI10 eM14 (wX10_f hm 1 (by decide))
          replace hT := hT M14 eM14
          refine jOk_mem (fun hIM14 => ?_)
          refine r_iconst (n := 1) dX10_on_57 ?_
          exact r_zret dX10_on_58 rfl ⟨by decide, by decide⟩ ⟨Nat.zero_le _, Nat.zero_le _⟩ ⟨_, rfl, rfl, hFM14, hT⟩
      · replace hT := hT.2 hcc
        refine r_iconst (n := 0) dX10_on_27 ?_
        exact r_zret dX10_on_28 rfl ⟨by decide, by decide⟩ ⟨Nat.zero_le _, Nat.zero_le _⟩ ⟨_, rfl, rfl, hF, hT⟩
theorem en_X10_on {E : jE} {G : jG} {I : jM} {q : Int → jM → Prop} {m : Nat} {x1 : Int} {x2 : Int} (hm : WX10 G m) (hT : (∀ a j, jRg (G.2.1 a).1 (I a j)) → jIn x1 → jIn x2 → (0 ≤ I (m + 1) 4 ∧ I (m + 1) 4 ≤ 6) ∧ ((¬ (0 ≤ x1 ∧ x1 < I (m + 1) 4) → q 0 I) ∧ ((0 ≤ x1 ∧ x1 < I (m + 1) 4) → (0 ≤ 514 + 40 * x1 + 1 ∧ 514 + 40 * x1 + 1 < 22094) ∧ ((¬ (I (m + 1) (514 + 40 * x1 + 1)) = 1 → ((¬ 0 = x2 → jRV E (jA m) kX10_keep [VR m] G I (fun I5 => ((x2 = 0 → ((0 : Int) ≤ ((514 + (40 * x1)) + 1) ∧ (((514 + (40 * x1)) + 1) : Int) < 22094) ∧ (∀ M7, M7 = jup I5 (m + 1) ((514 + (40 * x1)) + 1) 0 → q 1 M7)) ∧ (¬ x2 = 0 → ((0 : Int) ≤ ((514 + (40 * x1)) + 1) ∧ (((514 + (40 * x1)) + 1) : Int) < 22094) ∧ (∀ M9, M9 = jup I5 (m + 1) ((514 + (40 * x1)) + 1) 1 → q 1 M9))))) ∧ (0 = x2 → q 0 I))) ∧ ((I (m + 1) (514 + 40 * x1 + 1)) = 1 → ((¬ 1 = x2 → jRV E (jA m) kX10_keep [VR m] G I (fun I10 => ((x2 = 0 → ((0 : Int) ≤ ((514 + (40 * x1)) + 1) ∧ (((514 + (40 * x1)) + 1) : Int) < 22094) ∧ (∀ M12, M12 = jup I10 (m + 1) ((514 + (40 * x1)) + 1) 0 → q 1 M12)) ∧ (¬ x2 = 0 → ((0 : Int) ≤ ((514 + (40 * x1)) + 1) ∧ (((514 + (40 * x1)) + 1) : Int) < 22094) ∧ (∀ M14, M14 = jup I10 (m + 1) ((514 + (40 * x1)) + 1) 1 → q 1 M14))))) ∧ (1 = x2 → q 0 I))))))) : jRI E (jA m) kX10_on [VR m, VI x1, VI x2] G I q := jRun.of mt_X10_on.2.2.2 0 rfl (fun _ => st_X10_on_0 hm hT I (fun _ _ => rfl))
set_option maxRecDepth 20000 in
theorem st_X10_silence_0 {E : jE} {G : jG} {I : jM} {q : Int → jM → Prop} {m : Nat} {x1 : Int} {x2 : Int} (hm : WX10 G m) (hT : (∀ a j, jRg (G.2.1 a).1 (I a j)) → jIn x1 → jIn x2 → jIn ((I (m + 1) 2) - 1) ∧ ((¬ (0 ≤ x1 ∧ x1 ≤ ((I (m + 1) 2) - 1)) → q (-1) I) ∧ ((0 ≤ x1 ∧ x1 ≤ ((I (m + 1) 2) - 1)) → jIn (x1 + 1) ∧ ((¬ ((x1 + 1) ≤ x2 ∧ x2 ≤ (I (m + 1) 2)) → q (-1) I) ∧ (((x1 + 1) ≤ x2 ∧ x2 ≤ (I (m + 1) 2)) → ((¬ (I (m + 1) 3) = 8 → jRV E (jA m) kX10_keep [VR m] G I (fun I8 => ((0 : Int) ≤ (410 + (2 * (I8 (m + 1) 3))) ∧ ((410 + (2 * (I8 (m + 1) 3))) : Int) < 22094) ∧ (∀ M11, M11 = jup I8 (m + 1) (410 + (2 * (I8 (m + 1) 3))) x1 → ((0 : Int) ≤ ((410 + (2 * (M11 (m + 1) 3))) + 1) ∧ (((410 + (2 * (M11 (m + 1) 3))) + 1) : Int) < 22094) ∧ (∀ M14, M14 = jup M11 (m + 1) ((410 + (2 * (M11 (m + 1) 3))) + 1) x2 → jIn ((M14 (m + 1) 3) + 1) ∧ (∀ M18, M18 = jup M14 (m + 1) 3 ((M14 (m + 1) 3) + 1) → q ((M14 (m + 1) 3) + 1) M18))))) ∧ ((I (m + 1) 3) = 8 → q (-1) I))))))) : jOI E (jA m) kX10_silence 0 [VR m, VI x1, VI x2] G I q := by
  intro I0 hF
  refine jOk_mem (fun hI => ?_)
  refine jOk_in (i := 1) rfl (fun hx1 => ?_)
  refine jOk_in (i := 2) rfl (fun hx2 => ?_)
  replace hT := hT hI hx1 hx2
  refine r_iload_n dX10_silence_0 rfl (i := 1) rfl ?_
  refine r_iconst (n := 0) dX10_silence_1 ?_
  refine r_aload_n dX10_silence_2 rfl (i := 0) rfl ?_
  refine rr_getR (b := (m + 1)) dX10_silence_3 fg_X10_7 rfl rfl (wX10_l hm) (wX10_s hm) (wX10_r0 hm) ?_
  refine r_iconst (n := 2) dX10_silence_6 ?_
  refine rr_iaload (v := I (m + 1) 2) dX10_silence_7 (wX10_l0 hm) (wX10_a0 hm) (by decide) ⟨by decide, by decide⟩ rfl ?_
  refine r_iconst (n := 1) dX10_silence_8 ?_
  refine r_isub dX10_silence_9 ?_
  obtain ⟨hc2, hT⟩ := hT
  refine rr_pSI (A := (jA m)) (v := jI (0 ≤ x1 ∧ x1 ≤ ((I (m + 1) 2) - 1))) (as := [VI x1, VI 0, VI ((I (m + 1) 2) - 1)]) (st := []) dX10_silence_10 mt_X10_isIn ml_X10_103 ms_X10_isIn rm_X10_silence_X10_isIn jz_X10_isIn ⟨Nat.zero_le _, Nat.zero_le _⟩ (Nat.le_of_ble_eq_true rfl) (jasI hx1 (jasI ⟨by decide, by decide⟩ (jasI hc2 jas0))) sp_X10_isIn (fun hc3 => ?_)
  refine r_if_eq (tgt := 43) dX10_silence_13 rfl hc3 (fun hcc => ?_) (fun hcc => ?_)
  · replace hT := hT.1 (jI_n hcc)
    refine r_iconst (n := (-1)) dX10_silence_43 ?_
    exact r_iret dX10_silence_44 rfl ⟨by decide, by decide⟩ ⟨Nat.zero_le _, Nat.zero_le _⟩ ⟨_, rfl, rfl, hF, hT⟩
  · replace hT := hT.2 (jI_p hcc)
    refine r_iload_n dX10_silence_16 rfl (i := 2) rfl ?_
    refine r_iload_n dX10_silence_17 rfl (i := 1) rfl ?_
    refine r_iconst (n := 1) dX10_silence_18 ?_
    refine r_iadd dX10_silence_19 ?_
    refine r_aload_n dX10_silence_20 rfl (i := 0) rfl ?_
    refine rr_getR (b := (m + 1)) dX10_silence_21 fg_X10_7 rfl rfl (wX10_l hm) (wX10_s hm) (wX10_r0 hm) ?_
    refine r_iconst (n := 2) dX10_silence_24 ?_
    refine rr_iaload (v := I (m + 1) 2) dX10_silence_25 (wX10_l0 hm) (wX10_a0 hm) (by decide) ⟨by decide, by decide⟩ rfl ?_
    obtain ⟨hc5, hT⟩ := hT
    refine rr_pSI (A := (jA m)) (v := jI ((x1 + 1) ≤ x2 ∧ x2 ≤ (I (m + 1) 2))) (as := [VI x2, VI (x1 + 1), VI (I (m + 1) 2)]) (st := []) dX10_silence_26 mt_X10_isIn ml_X10_103 ms_X10_isIn rm_X10_silence_X10_isIn jz_X10_isIn ⟨Nat.zero_le _, Nat.zero_le _⟩ (Nat.le_of_ble_eq_true rfl) (jasI hx2 (jasI hc5 (jasI (hI _ _).inR jas0))) sp_X10_isIn (fun hc6 => ?_)
    refine r_if_eq (tgt := 43) dX10_silence_29 rfl hc6 (fun hcc => ?_) (fun hcc => ?_)
    · replace hT := hT.1 (jI_n hcc)
      refine r_iconst (n := (-1)) dX10_silence_43 ?_
      exact r_iret dX10_silence_44 rfl ⟨by decide, by decide⟩ ⟨Nat.zero_le _, Nat.zero_le _⟩ ⟨_, rfl, rfl, hF, hT⟩
    · replace hT := hT.2 (jI_p hcc)
      refine r_aload_n dX10_silence_32 rfl (i := 0) rfl ?_
      refine rr_getR (b := (m + 1)) dX10_silence_33 fg_X10_7 rfl rfl (wX10_l hm) (wX10_s hm) (wX10_r0 hm) ?_
      refine r_iconst (n := 3) dX10_silence_36 ?_
      refine rr_iaload (v := I (m + 1) 3) dX10_silence_37 (wX10_l0 hm) (wX10_a0 hm) (by decide) ⟨by decide, by decide⟩ rfl ?_
      refine r_bipush (n := 8) dX10_silence_38 (by decide +kernel) ?_
      refine r_icmp_ne (tgt := 45) dX10_silence_40 rfl (hI _ _).inR ⟨by decide, by decide⟩ (fun hcc => ?_) (fun hcc => ?_)
      · replace hT := hT.1 hcc
        refine r_aload_n dX10_silence_45 rfl (i := 0) rfl ?_
        refine rr_cVV (a := m) (as := []) (st := []) dX10_silence_46 mt_X10_keep ml_X10_250 mi_X10_keep rm_X10_silence_X10_keep jz_X10_keep ⟨Nat.zero_le _, Nat.zero_le _⟩ (Nat.le_of_ble_eq_true rfl) (wX10_l hm) (wX10_c hm) jas0 hT (fun I8 hFI8 hT => ?_)
        replace hFI8 := jFr_tr hF hFI8
        refine jOk_mem (fun hI8 => ?_)
        refine r_aload_n dX10_silence_49 rfl (i := 0) rfl ?_
        refine rr_getR (b := (m + 1)) dX10_silence_50 fg_X10_7 rfl rfl (wX10_l hm) (wX10_s hm) (wX10_r0 hm) ?_
        refine r_sipush (n := 410) dX10_silence_53 (by decide +kernel) ?_
        refine r_iconst (n := 2) dX10_silence_56 ?_
        refine r_aload_n dX10_silence_57 rfl (i := 0) rfl ?_
        refine rr_getR (b := (m + 1)) dX10_silence_58 fg_X10_7 rfl rfl (wX10_l hm) (wX10_s hm) (wX10_r0 hm) ?_
        refine r_iconst (n := 3) dX10_silence_61 ?_
        refine rr_iaload (v := I8 (m + 1) 3) dX10_silence_62 (wX10_l0 hm) (wX10_a0 hm) (by decide) ⟨by decide, by decide⟩ rfl ?_
        refine r_imul dX10_silence_63 ?_
        refine r_iadd dX10_silence_64 ?_
        refine r_iload_n dX10_silence_65 rfl (i := 1) rfl ?_
        obtain ⟨hc10, hT⟩ := hT
        refine rr_iastore dX10_silence_66 (wX10_l0 hm) (wX10_a0 hm) (by decide) hc10 hx1 (fun M11 eM11 => ?_)
        have hFM11 := jFr_up hFI8 eM11 (wX10_f hm 1 (by decide))
        replace hT := hT M11 eM11
        refine jOk_mem (fun hIM11 => ?_)
        refine r_aload_n dX10_silence_67 rfl (i := 0) rfl ?_
        refine rr_getR (b := (m + 1)) dX10_silence_68 fg_X10_7 rfl rfl (wX10_l hm) (wX10_s hm) (wX10_r0 hm) ?_
        refine r_sipush (n := 410) dX10_silence_71 (by decide +kernel) ?_
        refine r_iconst (n := 2) dX10_silence_74 ?_
        refine r_aload_n dX10_silence_75 rfl (i := 0) rfl ?_
        refine rr_getR (b := (m + 1)) dX10_silence_76 fg_X10_7 rfl rfl (wX10_l hm) (wX10_s hm) (wX10_r0 hm) ?_
        refine r_iconst (n := 3) dX10_silence_79 ?_
        refine rr_iaload (v := M11 (m + 1) 3) dX10_silence_80 (wX10_l0 hm) (wX10_a0 hm) (by decide) ⟨by decide, by decide⟩ rfl ?_
        refine r_imul dX10_silence_81 ?_
        refine r_iadd dX10_silence_82 ?_
        refine r_iconst (n := 1) dX10_silence_83 ?_
        refine r_iadd dX10_silence_84 ?_
        refine r_iload_n dX10_silence_85 rfl (i := 2) rfl ?_
        obtain ⟨hc13, hT⟩ := hT
        refine rr_iastore dX10_silence_86 (wX10_l0 hm) (wX10_a0 hm) (by decide) hc13 hx2 (fun M14 eM14 => ?_)
        have hFM14 := jFr_up hFM11 eM14 (wX10_f hm 1 (by decide))
        replace hT := hT M14 eM14
        refine jOk_mem (fun hIM14 => ?_)
        refine r_aload_n dX10_silence_87 rfl (i := 0) rfl ?_
        refine rr_getR (b := (m + 1)) dX10_silence_88 fg_X10_7 rfl rfl (wX10_l hm) (wX10_s hm) (wX10_r0 hm) ?_
        refine r_iconst (n := 3) dX10_silence_91 ?_
        refine r_dup2 dX10_silence_92 rfl rfl ?_
        refine rr_iaload (v := M14 (m + 1) 3) dX10_silence_93 (wX10_l0 hm) (wX10_a0 hm) (by decide) ⟨by decide, by decide⟩ rfl ?_
        refine r_iconst (n := 1) dX10_silence_94 ?_
        refine r_iadd dX10_silence_95 ?_
        obtain ⟨hc17, hT⟩ := hT
        refine rr_iastore dX10_silence_96 (wX10_l0 hm) (wX10_a0 hm) (by decide) ⟨by decide, by decide⟩ hc17 (fun M18 eM18 => ?_)
        have hFM18 := jFr_up hFM14 eM18 (wX10_f hm 1 (by decide))
        replace hT := hT M18 eM18
        refine jOk_mem (fun hIM18 => ?_)
        refine r_aload_n dX10_silence_97 rfl (i := 0) rfl ?_
        refine rr_getR (b := (m + 1)) dX10_silence_98 fg_X10_7 rfl rfl (wX10_l hm) (wX10_s hm) (wX10_r0 hm) ?_
        refine r_iconst (n := 3) dX10_silence_101 ?_
        refine rr_iaload (v := (M14 (m + 1) 3) + 1) dX10_silence_102 (wX10_l0 hm) (wX10_a0 hm) (by decide) ⟨by decide, by decide⟩ (jr_eq eM18) ?_
        exact r_iret dX10_silence_103 rfl hc17 ⟨Nat.zero_le _, Nat.zero_le _⟩ ⟨_, rfl, rfl, hFM18, hT⟩
      · replace hT := hT.2 hcc
        refine r_iconst (n := (-1)) dX10_silence_43 ?_
        exact r_iret dX10_silence_44 rfl ⟨by decide, by decide⟩ ⟨Nat.zero_le _, Nat.zero_le _⟩ ⟨_, rfl, rfl, hF, hT⟩
theorem en_X10_silence {E : jE} {G : jG} {I : jM} {q : Int → jM → Prop} {m : Nat} {x1 : Int} {x2 : Int} (hm : WX10 G m) (hT : (∀ a j, jRg (G.2.1 a).1 (I a j)) → jIn x1 → jIn x2 → jIn ((I (m + 1) 2) - 1) ∧ ((¬ (0 ≤ x1 ∧ x1 ≤ ((I (m + 1) 2) - 1)) → q (-1) I) ∧ ((0 ≤ x1 ∧ x1 ≤ ((I (m + 1) 2) - 1)) → jIn (x1 + 1) ∧ ((¬ ((x1 + 1) ≤ x2 ∧ x2 ≤ (I (m + 1) 2)) → q (-1) I) ∧ (((x1 + 1) ≤ x2 ∧ x2 ≤ (I (m + 1) 2)) → ((¬ (I (m + 1) 3) = 8 → jRV E (jA m) kX10_keep [VR m] G I (fun I8 => ((0 : Int) ≤ (410 + (2 * (I8 (m + 1) 3))) ∧ ((410 + (2 * (I8 (m + 1) 3))) : Int) < 22094) ∧ (∀ M11, M11 = jup I8 (m + 1) (410 + (2 * (I8 (m + 1) 3))) x1 → ((0 : Int) ≤ ((410 + (2 * (M11 (m + 1) 3))) + 1) ∧ (((410 + (2 * (M11 (m + 1) 3))) + 1) : Int) < 22094) ∧ (∀ M14, M14 = jup M11 (m + 1) ((410 + (2 * (M11 (m + 1) 3))) + 1) x2 → jIn ((M14 (m + 1) 3) + 1) ∧ (∀ M18, M18 = jup M14 (m + 1) 3 ((M14 (m + 1) 3) + 1) → q ((M14 (m + 1) 3) + 1) M18))))) ∧ ((I (m + 1) 3) = 8 → q (-1) I))))))) : jRI E (jA m) kX10_silence [VR m, VI x1, VI x2] G I q := jRun.of mt_X10_silence.2.2.2 0 rfl (fun _ => st_X10_silence_0 hm hT I (fun _ _ => rfl))
set_option maxRecDepth 20000 in
theorem st_X10_hear_30 {E : jE} {G : jG} {I : jM} {q : Int → jM → Prop} {m : Nat} {x1 : Int} {x2 : Int} (hm : WX10 G m) (hT : (∀ a j, jRg (G.2.1 a).1 (I a j)) → jIn x1 → jIn x2 → jIn ((410 + (2 * (I (m + 1) 3))) - 2) ∧ ((((410 + (2 * (I (m + 1) 3))) - 2) ≤ x2 → jIn ((I (m + 1) 3) - 1) ∧ (∀ M6, M6 = jup I (m + 1) 3 ((I (m + 1) 3) - 1) → ((0 : Int) ≤ (410 + (2 * ((I (m + 1) 3) - 1))) ∧ ((410 + (2 * ((I (m + 1) 3) - 1))) : Int) < 22094) ∧ (∀ M9, M9 = jup M6 (m + 1) (410 + (2 * ((I (m + 1) 3) - 1))) 0 → ((0 : Int) ≤ ((410 + (2 * (M9 (m + 1) 3))) + 1) ∧ (((410 + (2 * (M9 (m + 1) 3))) + 1) : Int) < 22094) ∧ (∀ M12, M12 = jup M9 (m + 1) ((410 + (2 * (M9 (m + 1) 3))) + 1) 0 → q 1 M12)))) ∧ (¬ ((410 + (2 * (I (m + 1) 3))) - 2) ≤ x2 → ((0 : Int) ≤ (x2 + 2) ∧ ((x2 + 2) : Int) < 22094) ∧ ((0 : Int) ≤ x2 ∧ (x2 : Int) < 22094) ∧ (∀ M15, M15 = jup I (m + 1) x2 (I (m + 1) (x2 + 2)) → jIn (x2 + 1) ∧ jOI E (jA m) kX10_hear 30 [VR m, VI x1, VI (x2 + 1)] G M15 q)))) : jOI E (jA m) kX10_hear 30 [VR m, VI x1, VI x2] G I q := by
  intro I0 hF
  refine jOk_mem (fun hI => ?_)
  refine jOk_in (i := 1) rfl (fun hx1 => ?_)
  refine jOk_in (i := 2) rfl (fun hx2 => ?_)
  replace hT := hT hI hx1 hx2
  refine r_iload_n dX10_hear_30 rfl (i := 2) rfl ?_
  refine r_sipush (n := 410) dX10_hear_31 (by decide +kernel) ?_
  refine r_iconst (n := 2) dX10_hear_34 ?_
  refine r_aload_n dX10_hear_35 rfl (i := 0) rfl ?_
  refine rr_getR (b := (m + 1)) dX10_hear_36 fg_X10_7 rfl rfl (wX10_l hm) (wX10_s hm) (wX10_r0 hm) ?_
  refine r_iconst (n := 3) dX10_hear_39 ?_
  refine rr_iaload (v := I (m + 1) 3) dX10_hear_40 (wX10_l0 hm) (wX10_a0 hm) (by decide) ⟨by decide, by decide⟩ rfl ?_
  refine r_imul dX10_hear_41 ?_
  refine r_iadd dX10_hear_42 ?_
  refine r_iconst (n := 2) dX10_hear_43 ?_
  refine r_isub dX10_hear_44 ?_
  obtain ⟨hc2, hT⟩ := hT
  refine r_icmp_ge (tgt := 68) dX10_hear_45 rfl hx2 hc2 (fun hcc => ?_) (fun hcc => ?_)
  · replace hT := hT.1 hcc
    refine r_aload_n dX10_hear_68 rfl (i := 0) rfl ?_
    refine rr_getR (b := (m + 1)) dX10_hear_69 fg_X10_7 rfl rfl (wX10_l hm) (wX10_s hm) (wX10_r0 hm) ?_
    refine r_iconst (n := 3) dX10_hear_72 ?_
    refine r_dup2 dX10_hear_73 rfl rfl ?_
    refine rr_iaload (v := I (m + 1) 3) dX10_hear_74 (wX10_l0 hm) (wX10_a0 hm) (by decide) ⟨by decide, by decide⟩ rfl ?_
    refine r_iconst (n := 1) dX10_hear_75 ?_
    refine r_isub dX10_hear_76 ?_
    obtain ⟨hc5, hT⟩ := hT
    refine rr_iastore dX10_hear_77 (wX10_l0 hm) (wX10_a0 hm) (by decide) ⟨by decide, by decide⟩ hc5 (fun M6 eM6 => ?_)
    have hFM6 := jFr_up hF eM6 (wX10_f hm 1 (by decide))
    replace hT := hT M6 eM6
    refine jOk_mem (fun hIM6 => ?_)
    refine r_aload_n dX10_hear_78 rfl (i := 0) rfl ?_
    refine rr_getR (b := (m + 1)) dX10_hear_79 fg_X10_7 rfl rfl (wX10_l hm) (wX10_s hm) (wX10_r0 hm) ?_
    refine r_sipush (n := 410) dX10_hear_82 (by decide +kernel) ?_
    refine r_iconst (n := 2) dX10_hear_85 ?_
    refine r_aload_n dX10_hear_86 rfl (i := 0) rfl ?_
    refine rr_getR (b := (m + 1)) dX10_hear_87 fg_X10_7 rfl rfl (wX10_l hm) (wX10_s hm) (wX10_r0 hm) ?_
    refine r_iconst (n := 3) dX10_hear_90 ?_
    refine rr_iaload (v := (I (m + 1) 3) - 1) dX10_hear_91 (wX10_l0 hm) (wX10_a0 hm) (by decide) ⟨by decide, by decide⟩ (jr_eq eM6) ?_
    refine r_imul dX10_hear_92 ?_
    refine r_iadd dX10_hear_93 ?_
    refine r_iconst (n := 0) dX10_hear_94 ?_
    obtain ⟨hc8, hT⟩ := hT
    refine rr_iastore dX10_hear_95 (wX10_l0 hm) (wX10_a0 hm) (by decide) hc8 ⟨by decide, by decide⟩ (fun M9 eM9 => ?_)
    have hFM9 := jFr_up hFM6 eM9 (wX10_f hm 1 (by decide))
    replace hT := hT M9 eM9
    refine jOk_mem (fun hIM9 => ?_)
    refine r_aload_n dX10_hear_96 rfl (i := 0) rfl ?_
    refine rr_getR (b := (m + 1)) dX10_hear_97 fg_X10_7 rfl rfl (wX10_l hm) (wX10_s hm) (wX10_r0 hm) ?_
    refine r_sipush (n := 410) dX10_hear_100 (by decide +kernel) ?_
    refine r_iconst (n := 2) dX10_hear_103 ?_
    refine r_aload_n dX10_hear_104 rfl (i := 0) rfl ?_
    refine rr_getR (b := (m + 1)) dX10_hear_105 fg_X10_7 rfl rfl (wX10_l hm) (wX10_s hm) (wX10_r0 hm) ?_
    refine r_iconst (n := 3) dX10_hear_108 ?_
    refine rr_iaload (v := M9 (m + 1) 3) dX10_hear_109 (wX10_l0 hm) (wX10_a0 hm) (by decide) ⟨by decide, by decide⟩ rfl ?_
    refine r_imul dX10_hear_110 ?_
    refine r_iadd dX10_hear_111 ?_
    refine r_iconst (n := 1) dX10_hear_112 ?_
    refine r_iadd dX10_hear_113 ?_
    refine r_iconst (n := 0) dX10_hear_114 ?_
    obtain ⟨hc11, hT⟩ := hT
    refine rr_iastore dX10_hear_115 (wX10_l0 hm) (wX10_a0 hm) (by decide) hc11 ⟨by decide, by decide⟩ (fun M12 eM12 => ?_)
    have hFM12 := jFr_up hFM9 eM12 (wX10_f hm 1 (by decide))
    replace hT := hT M12 eM12
    refine jOk_mem (fun hIM12 => ?_)
    refine r_iconst (n := 1) dX10_hear_116 ?_
    exact r_zret dX10_hear_117 rfl ⟨by decide, by decide⟩ ⟨Nat.zero_le _, Nat.zero_le _⟩ ⟨_, rfl, rfl, hFM12, hT⟩
  · replace hT := hT.2 hcc
    refine r_aload_n dX10_hear_48 rfl (i := 0) rfl ?_
    refine rr_getR (b := (m + 1)) dX10_hear_49 fg_X10_7 rfl rfl (wX10_l hm) (wX10_s hm) (wX10_r0 hm) ?_
    refine r_iload_n dX10_hear_52 rfl (i := 2) rfl ?_
    refine r_aload_n dX10_hear_53 rfl (i := 0) rfl ?_
    refine rr_getR (b := (m + 1)) dX10_hear_54 fg_X10_7 rfl rfl (wX10_l hm) (wX10_s hm) (wX10_r0 hm) ?_
    refine r_iload_n dX10_hear_57 rfl (i := 2) rfl ?_
    refine r_iconst (n := 2) dX10_hear_58 ?_
    refine r_iadd dX10_hear_59 ?_
    obtain ⟨hc13, hT⟩ := hT
    refine rr_iaload (v := I (m + 1) (x2 + 2)) dX10_hear_60 (wX10_l0 hm) (wX10_a0 hm) (by decide) hc13 rfl ?_
    obtain ⟨hc14, hT⟩ := hT
    refine rr_iastore dX10_hear_61 (wX10_l0 hm) (wX10_a0 hm) (by decide) hc14 (hI _ _).inR (fun M15 eM15 => ?_)
    have hFM15 := jFr_up hF eM15 (wX10_f hm 1 (by decide))
    replace hT := hT M15 eM15
    refine jOk_mem (fun hIM15 => ?_)
    obtain ⟨hc16, hT⟩ := hT
    refine rr_iinc (i := 2) (ls' := [VR m, VI x1, VI (x2 + 1)]) dX10_hear_62 rfl (Nat.le_of_ble_eq_true rfl) rfl rfl hc16 ?_
    refine r_goto (tgt := 30) dX10_hear_65 rfl ?_
    exact hT I0 hFM15
set_option maxRecDepth 20000 in
theorem st_X10_hear_0 {E : jE} {G : jG} {I : jM} {q : Int → jM → Prop} {m : Nat} {x1 : Int} (hm : WX10 G m) (hT : (∀ a j, jRg (G.2.1 a).1 (I a j)) → jIn x1 → jIn ((I (m + 1) 3) - 1) ∧ (((0 ≤ x1 ∧ x1 ≤ ((I (m + 1) 3) - 1)) → jRV E (jA m) kX10_keep [VR m] G I (fun I4 => jIn (410 + (2 * x1)) ∧ jOI E (jA m) kX10_hear 30 [VR m, VI x1, VI (410 + (2 * x1))] G I4 q)) ∧ (¬ (0 ≤ x1 ∧ x1 ≤ ((I (m + 1) 3) - 1)) → q 0 I))) : jOI E (jA m) kX10_hear 0 [VR m, VI x1, VN] G I q := by
  intro I0 hF
  refine jOk_mem (fun hI => ?_)
  refine jOk_in (i := 1) rfl (fun hx1 => ?_)
  replace hT := hT hI hx1
  refine r_iload_n dX10_hear_0 rfl (i := 1) rfl ?_
  refine r_iconst (n := 0) dX10_hear_1 ?_
  refine r_aload_n dX10_hear_2 rfl (i := 0) rfl ?_
  refine rr_getR (b := (m + 1)) dX10_hear_3 fg_X10_7 rfl rfl (wX10_l hm) (wX10_s hm) (wX10_r0 hm) ?_
  refine r_iconst (n := 3) dX10_hear_6 ?_
  refine rr_iaload (v := I (m + 1) 3) dX10_hear_7 (wX10_l0 hm) (wX10_a0 hm) (by decide) ⟨by decide, by decide⟩ rfl ?_
  refine r_iconst (n := 1) dX10_hear_8 ?_
  refine r_isub dX10_hear_9 ?_
  obtain ⟨hc2, hT⟩ := hT
  refine rr_pSI (A := (jA m)) (v := jI (0 ≤ x1 ∧ x1 ≤ ((I (m + 1) 3) - 1))) (as := [VI x1, VI 0, VI ((I (m + 1) 3) - 1)]) (st := []) dX10_hear_10 mt_X10_isIn ml_X10_103 ms_X10_isIn rm_X10_hear_X10_isIn jz_X10_isIn ⟨Nat.zero_le _, Nat.zero_le _⟩ (Nat.le_of_ble_eq_true rfl) (jasI hx1 (jasI ⟨by decide, by decide⟩ (jasI hc2 jas0))) sp_X10_isIn (fun hc3 => ?_)
  refine r_if_ne (tgt := 18) dX10_hear_13 rfl hc3 (fun hcc => ?_) (fun hcc => ?_)
  · replace hT := hT.1 (jI_p hcc)
    refine r_aload_n dX10_hear_18 rfl (i := 0) rfl ?_
    refine rr_cVV (a := m) (as := []) (st := []) dX10_hear_19 mt_X10_keep ml_X10_250 mi_X10_keep rm_X10_hear_X10_keep jz_X10_keep ⟨Nat.zero_le _, Nat.zero_le _⟩ (Nat.le_of_ble_eq_true rfl) (wX10_l hm) (wX10_c hm) jas0 hT (fun I4 hFI4 hT => ?_)
    replace hFI4 := jFr_tr hF hFI4
    refine jOk_mem (fun hI4 => ?_)
    refine r_sipush (n := 410) dX10_hear_22 (by decide +kernel) ?_
    refine r_iconst (n := 2) dX10_hear_25 ?_
    refine r_iload_n dX10_hear_26 rfl (i := 1) rfl ?_
    refine r_imul dX10_hear_27 ?_
    refine r_iadd dX10_hear_28 ?_
    obtain ⟨hc5, hT⟩ := hT
    refine rr_istore_n (i := 2) (ls' := [VR m, VI x1, VI (410 + (2 * x1))]) dX10_hear_29 rfl (Nat.le_of_ble_eq_true rfl) rfl rfl hc5 ?_
    exact hT I0 hFI4
  · replace hT := hT.2 (jI_n hcc)
    refine r_iconst (n := 0) dX10_hear_16 ?_
    exact r_zret dX10_hear_17 rfl ⟨by decide, by decide⟩ ⟨Nat.zero_le _, Nat.zero_le _⟩ ⟨_, rfl, rfl, hF, hT⟩
theorem en_X10_hear {E : jE} {G : jG} {I : jM} {q : Int → jM → Prop} {m : Nat} {x1 : Int} (hm : WX10 G m) (hT : (∀ a j, jRg (G.2.1 a).1 (I a j)) → jIn x1 → jIn ((I (m + 1) 3) - 1) ∧ (((0 ≤ x1 ∧ x1 ≤ ((I (m + 1) 3) - 1)) → jRV E (jA m) kX10_keep [VR m] G I (fun I4 => jIn (410 + (2 * x1)) ∧ jOI E (jA m) kX10_hear 30 [VR m, VI x1, VI (410 + (2 * x1))] G I4 q)) ∧ (¬ (0 ≤ x1 ∧ x1 ≤ ((I (m + 1) 3) - 1)) → q 0 I))) : jRI E (jA m) kX10_hear [VR m, VI x1] G I q := jRun.of mt_X10_hear.2.2.2 1 rfl (fun _ => st_X10_hear_0 hm hT I (fun _ _ => rfl))
set_option maxRecDepth 20000 in
theorem st_X10_setNow_0 {E : jE} {G : jG} {I : jM} {q : Int → jM → Prop} {m : Nat} {x1 : Int} {x2 : Int} {x3 : Int} (hm : WX10 G m) (hT : (∀ a j, jRg (G.2.1 a).1 (I a j)) → jIn x1 → jIn x2 → jIn x3 → (((0 ≤ x2 ∧ x2 ≤ x3) → jRV E (jA m) kX10_keep [VR m] G I (fun I2 => ((0 : Int) ≤ x1 ∧ (x1 : Int) < 22094) ∧ (∀ M4, M4 = jup I2 (m + 1) x1 x2 → q 1 M4))) ∧ (¬ (0 ≤ x2 ∧ x2 ≤ x3) → q 0 I))) : jOI E (jA m) kX10_setNow 0 [VR m, VI x1, VI x2, VI x3] G I q := by
  intro I0 hF
  refine jOk_mem (fun hI => ?_)
  refine jOk_in (i := 1) rfl (fun hx1 => ?_)
  refine jOk_in (i := 2) rfl (fun hx2 => ?_)
  refine jOk_in (i := 3) rfl (fun hx3 => ?_)
  replace hT := hT hI hx1 hx2 hx3
  refine r_iload_n dX10_setNow_0 rfl (i := 2) rfl ?_
  refine r_iconst (n := 0) dX10_setNow_1 ?_
  refine r_iload_n dX10_setNow_2 rfl (i := 3) rfl ?_
  refine rr_pSI (A := (jA m)) (v := jI (0 ≤ x2 ∧ x2 ≤ x3)) (as := [VI x2, VI 0, VI x3]) (st := []) dX10_setNow_3 mt_X10_isIn ml_X10_103 ms_X10_isIn rm_X10_setNow_X10_isIn jz_X10_isIn ⟨Nat.zero_le _, Nat.zero_le _⟩ (Nat.le_of_ble_eq_true rfl) (jasI hx2 (jasI ⟨by decide, by decide⟩ (jasI hx3 jas0))) sp_X10_isIn (fun hc1 => ?_)
  refine r_if_ne (tgt := 11) dX10_setNow_6 rfl hc1 (fun hcc => ?_) (fun hcc => ?_)
  · replace hT := hT.1 (jI_p hcc)
    refine r_aload_n dX10_setNow_11 rfl (i := 0) rfl ?_
    refine rr_cVV (a := m) (as := []) (st := []) dX10_setNow_12 mt_X10_keep ml_X10_250 mi_X10_keep rm_X10_setNow_X10_keep jz_X10_keep ⟨Nat.zero_le _, Nat.zero_le _⟩ (Nat.le_of_ble_eq_true rfl) (wX10_l hm) (wX10_c hm) jas0 hT (fun I2 hFI2 hT => ?_)
    replace hFI2 := jFr_tr hF hFI2
    refine jOk_mem (fun hI2 => ?_)
    refine r_aload_n dX10_setNow_15 rfl (i := 0) rfl ?_
    refine rr_getR (b := (m + 1)) dX10_setNow_16 fg_X10_7 rfl rfl (wX10_l hm) (wX10_s hm) (wX10_r0 hm) ?_
    refine r_iload_n dX10_setNow_19 rfl (i := 1) rfl ?_
    refine r_iload_n dX10_setNow_20 rfl (i := 2) rfl ?_
    obtain ⟨hc3, hT⟩ := hT
    refine rr_iastore dX10_setNow_21 (wX10_l0 hm) (wX10_a0 hm) (by decide) hc3 hx2 (fun M4 eM4 => ?_)
    have hFM4 := jFr_up hFI2 eM4 (wX10_f hm 1 (by decide))
    replace hT := hT M4 eM4
    refine jOk_mem (fun hIM4 => ?_)
    refine r_iconst (n := 1) dX10_setNow_22 ?_
    exact r_zret dX10_setNow_23 rfl ⟨by decide, by decide⟩ ⟨Nat.zero_le _, Nat.zero_le _⟩ ⟨_, rfl, rfl, hFM4, hT⟩
  · replace hT := hT.2 (jI_n hcc)
    refine r_iconst (n := 0) dX10_setNow_9 ?_
    exact r_zret dX10_setNow_10 rfl ⟨by decide, by decide⟩ ⟨Nat.zero_le _, Nat.zero_le _⟩ ⟨_, rfl, rfl, hF, hT⟩
theorem en_X10_setNow {E : jE} {G : jG} {I : jM} {q : Int → jM → Prop} {m : Nat} {x1 : Int} {x2 : Int} {x3 : Int} (hm : WX10 G m) (hT : (∀ a j, jRg (G.2.1 a).1 (I a j)) → jIn x1 → jIn x2 → jIn x3 → (((0 ≤ x2 ∧ x2 ≤ x3) → jRV E (jA m) kX10_keep [VR m] G I (fun I2 => ((0 : Int) ≤ x1 ∧ (x1 : Int) < 22094) ∧ (∀ M4, M4 = jup I2 (m + 1) x1 x2 → q 1 M4))) ∧ (¬ (0 ≤ x2 ∧ x2 ≤ x3) → q 0 I))) : jRI E (jA m) kX10_setNow [VR m, VI x1, VI x2, VI x3] G I q := jRun.of mt_X10_setNow.2.2.2 0 rfl (fun _ => st_X10_setNow_0 hm hT I (fun _ _ => rfl))
set_option maxRecDepth 20000 in
theorem st_X10_measure_0 {E : jE} {G : jG} {I : jM} {q : Int → jM → Prop} {m : Nat} {x1 : Int} (hm : WX10 G m) (hT : (∀ a j, jRg (G.2.1 a).1 (I a j)) → jIn x1 → jRI E (jA m) kX10_setNow [VR m, VI 5, VI x1, VI 1] G I (fun r2 I1 => (0 ≤ r2 ∧ r2 ≤ 1) ∧ q r2 I1)) : jOI E (jA m) kX10_measure 0 [VR m, VI x1] G I q := by
  intro I0 hF
  refine jOk_mem (fun hI => ?_)
  refine jOk_in (i := 1) rfl (fun hx1 => ?_)
  replace hT := hT hI hx1
  refine r_aload_n dX10_measure_0 rfl (i := 0) rfl ?_
  refine r_iconst (n := 5) dX10_measure_1 ?_
  refine r_iload_n dX10_measure_2 rfl (i := 1) rfl ?_
  refine r_iconst (n := 1) dX10_measure_3 ?_
  refine rr_cVI (a := m) (as := [VI 5, VI x1, VI 1]) (st := []) dX10_measure_4 mt_X10_setNow ml_X10_320 mi_X10_setNow rm_X10_measure_X10_setNow jz_X10_setNow ⟨Nat.zero_le _, Nat.zero_le _⟩ (Nat.le_of_ble_eq_true rfl) (wX10_l hm) (wX10_c hm) (jasI ⟨by decide, by decide⟩ (jasI hx1 (jasI ⟨by decide, by decide⟩ jas0))) hT (fun r2 I1 hc3 hFI1 hT => ?_)
  replace hFI1 := jFr_tr hF hFI1
  refine jOk_mem (fun hI1 => ?_)
  obtain ⟨hc4, hT⟩ := hT
  exact r_zret dX10_measure_7 rfl hc4 ⟨Nat.zero_le _, Nat.zero_le _⟩ ⟨_, rfl, rfl, hFI1, hT⟩
theorem en_X10_measure {E : jE} {G : jG} {I : jM} {q : Int → jM → Prop} {m : Nat} {x1 : Int} (hm : WX10 G m) (hT : (∀ a j, jRg (G.2.1 a).1 (I a j)) → jIn x1 → jRI E (jA m) kX10_setNow [VR m, VI 5, VI x1, VI 1] G I (fun r2 I1 => (0 ≤ r2 ∧ r2 ≤ 1) ∧ q r2 I1)) : jRI E (jA m) kX10_measure [VR m, VI x1] G I q := jRun.of mt_X10_measure.2.2.2 0 rfl (fun _ => st_X10_measure_0 hm hT I (fun _ _ => rfl))
set_option maxRecDepth 20000 in
theorem st_X10_most_0 {E : jE} {G : jG} {I : jM} {q : Int → jM → Prop} {m : Nat} {x1 : Int} (hm : WX10 G m) (hT : (∀ a j, jRg (G.2.1 a).1 (I a j)) → jIn x1 → jRI E (jA m) kX10_setNow [VR m, VI 6, VI x1, VI 20] G I (fun r2 I1 => (0 ≤ r2 ∧ r2 ≤ 1) ∧ q r2 I1)) : jOI E (jA m) kX10_most 0 [VR m, VI x1] G I q := by
  intro I0 hF
  refine jOk_mem (fun hI => ?_)
  refine jOk_in (i := 1) rfl (fun hx1 => ?_)
  replace hT := hT hI hx1
  refine r_aload_n dX10_most_0 rfl (i := 0) rfl ?_
  refine r_bipush (n := 6) dX10_most_1 (by decide +kernel) ?_
  refine r_iload_n dX10_most_3 rfl (i := 1) rfl ?_
  refine r_bipush (n := 20) dX10_most_4 (by decide +kernel) ?_
  refine rr_cVI (a := m) (as := [VI 6, VI x1, VI 20]) (st := []) dX10_most_6 mt_X10_setNow ml_X10_320 mi_X10_setNow rm_X10_most_X10_setNow jz_X10_setNow ⟨Nat.zero_le _, Nat.zero_le _⟩ (Nat.le_of_ble_eq_true rfl) (wX10_l hm) (wX10_c hm) (jasI ⟨by decide, by decide⟩ (jasI hx1 (jasI ⟨by decide, by decide⟩ jas0))) hT (fun r2 I1 hc3 hFI1 hT => ?_)
  replace hFI1 := jFr_tr hF hFI1
  refine jOk_mem (fun hI1 => ?_)
  obtain ⟨hc4, hT⟩ := hT
  exact r_zret dX10_most_9 rfl hc4 ⟨Nat.zero_le _, Nat.zero_le _⟩ ⟨_, rfl, rfl, hFI1, hT⟩
theorem en_X10_most {E : jE} {G : jG} {I : jM} {q : Int → jM → Prop} {m : Nat} {x1 : Int} (hm : WX10 G m) (hT : (∀ a j, jRg (G.2.1 a).1 (I a j)) → jIn x1 → jRI E (jA m) kX10_setNow [VR m, VI 6, VI x1, VI 20] G I (fun r2 I1 => (0 ≤ r2 ∧ r2 ≤ 1) ∧ q r2 I1)) : jRI E (jA m) kX10_most [VR m, VI x1] G I q := jRun.of mt_X10_most.2.2.2 0 rfl (fun _ => st_X10_most_0 hm hT I (fun _ _ => rfl))
set_option maxRecDepth 20000 in
theorem st_X10_put_0 {E : jE} {G : jG} {I : jM} {q : Int → jM → Prop} {m : Nat} {x1 : Int} {x2 : Int} (hm : WX10 G m) (hT : (∀ a j, jRg (G.2.1 a).1 (I a j)) → jIn x1 → jIn x2 → (0 ≤ I (m + 1) 2 ∧ I (m + 1) 2 ≤ 200) ∧ ((¬ (0 ≤ x1 ∧ x1 < I (m + 1) 2) → q 0 I) ∧ ((0 ≤ x1 ∧ x1 < I (m + 1) 2) → ((¬ (x2 = 10 ∨ (32 ≤ x2 ∧ x2 ≤ 126)) → q 0 I) ∧ ((x2 = 10 ∨ (32 ≤ x2 ∧ x2 ≤ 126)) → jIn (x1 + 1) ∧ (0 ≤ I (m + 1) 3 ∧ I (m + 1) 3 ≤ 8) ∧ ((¬ (sil (I (m + 1)) x1 (x1 + 1)) → jRV E (jA m) kX10_keep [VR m] G I (fun I7 => ((0 : Int) ≤ (10 + x1) ∧ ((10 + x1) : Int) < 22094) ∧ (∀ M9, M9 = jup I7 (m + 1) (10 + x1) x2 → ((0 : Int) ≤ (210 + x1) ∧ ((210 + x1) : Int) < 22094) ∧ (∀ M11, M11 = jup M9 (m + 1) (210 + x1) 0 → q 1 M11)))) ∧ ((sil (I (m + 1)) x1 (x1 + 1)) → q 0 I))))))) : jOI E (jA m) kX10_put 0 [VR m, VI x1, VI x2] G I q := by
  intro I0 hF
  refine jOk_mem (fun hI => ?_)
  refine jOk_in (i := 1) rfl (fun hx1 => ?_)
  refine jOk_in (i := 2) rfl (fun hx2 => ?_)
  replace hT := hT hI hx1 hx2
  refine r_aload_n dX10_put_0 rfl (i := 0) rfl ?_
  refine r_iload_n dX10_put_1 rfl (i := 1) rfl ?_
  obtain ⟨hc2, hT⟩ := hT
  refine rr_pVI (A := (jA m)) (v := jI (0 ≤ x1 ∧ x1 < I (m + 1) 2)) (a := m) (as := [VI x1]) (st := []) dX10_put_2 mt_X10_isPlace ml_X10_323 mi_X10_isPlace rm_X10_put_X10_isPlace jz_X10_isPlace ⟨Nat.zero_le _, Nat.zero_le _⟩ (Nat.le_of_ble_eq_true rfl) (wX10_l hm) (wX10_c hm) (jasI hx1 jas0) ((sp_X10_isPlace hm) hc2) (fun hc1 => ?_)
  refine r_if_eq (tgt := 26) dX10_put_5 rfl hc1 (fun hcc => ?_) (fun hcc => ?_)
  · replace hT := hT.1 (jI_n hcc)
    refine r_iconst (n := 0) dX10_put_26 ?_
    exact r_zret dX10_put_27 rfl ⟨by decide, by decide⟩ ⟨Nat.zero_le _, Nat.zero_le _⟩ ⟨_, rfl, rfl, hF, hT⟩
  · replace hT := hT.2 (jI_p hcc)
    refine r_iload_n dX10_put_8 rfl (i := 2) rfl ?_
    refine rr_pSI (A := (jA m)) (v := jI (x2 = 10 ∨ (32 ≤ x2 ∧ x2 ≤ 126))) (as := [VI x2]) (st := []) dX10_put_9 mt_X10_isByte ml_X10_247 ms_X10_isByte rm_X10_put_X10_isByte jz_X10_isByte ⟨Nat.zero_le _, Nat.zero_le _⟩ (Nat.le_of_ble_eq_true rfl) (jasI hx2 jas0) sp_X10_isByte (fun hc3 => ?_)
    refine r_if_eq (tgt := 26) dX10_put_12 rfl hc3 (fun hcc => ?_) (fun hcc => ?_)
    · replace hT := hT.1 (jI_n hcc)
      refine r_iconst (n := 0) dX10_put_26 ?_
      exact r_zret dX10_put_27 rfl ⟨by decide, by decide⟩ ⟨Nat.zero_le _, Nat.zero_le _⟩ ⟨_, rfl, rfl, hF, hT⟩
    · replace hT := hT.2 (jI_p hcc)
      refine r_aload_n dX10_put_15 rfl (i := 0) rfl ?_
      refine r_iload_n dX10_put_16 rfl (i := 1) rfl ?_
      refine r_iload_n dX10_put_17 rfl (i := 1) rfl ?_
      refine r_iconst (n := 1) dX10_put_18 ?_
      refine r_iadd dX10_put_19 ?_
      obtain ⟨hc4, hT⟩ := hT
      obtain ⟨hc6, hT⟩ := hT
      refine rr_pVI (A := (jA m)) (v := jI (sil (I (m + 1)) x1 (x1 + 1))) (a := m) (as := [VI x1, VI (x1 + 1)]) (st := []) dX10_put_20 mt_X10_isSilentSpan ml_X10_193 mi_X10_isSilentSpan rm_X10_put_X10_isSilentSpan jz_X10_isSilentSpan ⟨Nat.zero_le _, Nat.zero_le _⟩ (Nat.le_of_ble_eq_true rfl) (wX10_l hm) (wX10_c hm) (jasI hx1 (jasI hc4 jas0)) ((sp_X10_isSilentSpan hm) hc6) (fun hc5 => ?_)
      refine r_if_eq (tgt := 28) dX10_put_23 rfl hc5 (fun hcc => ?_) (fun hcc => ?_)
      · replace hT := hT.1 (jI_n hcc)
        refine r_aload_n dX10_put_28 rfl (i := 0) rfl ?_
        refine rr_cVV (a := m) (as := []) (st := []) dX10_put_29 mt_X10_keep ml_X10_250 mi_X10_keep rm_X10_put_X10_keep jz_X10_keep ⟨Nat.zero_le _, Nat.zero_le _⟩ (Nat.le_of_ble_eq_true rfl) (wX10_l hm) (wX10_c hm) jas0 hT (fun I7 hFI7 hT => ?_)
        replace hFI7 := jFr_tr hF hFI7
        refine jOk_mem (fun hI7 => ?_)
        refine r_aload_n dX10_put_32 rfl (i := 0) rfl ?_
        refine rr_getR (b := (m + 1)) dX10_put_33 fg_X10_7 rfl rfl (wX10_l hm) (wX10_s hm) (wX10_r0 hm) ?_
        refine r_bipush (n := 10) dX10_put_36 (by decide +kernel) ?_
        refine r_iload_n dX10_put_38 rfl (i := 1) rfl ?_
        refine r_iadd dX10_put_39 ?_
        refine r_iload_n dX10_put_40 rfl (i := 2) rfl ?_
        obtain ⟨hc8, hT⟩ := hT
        refine rr_iastore dX10_put_41 (wX10_l0 hm) (wX10_a0 hm) (by decide) hc8 hx2 (fun M9 eM9 => ?_)
        have hFM9 := jFr_up hFI7 eM9 (wX10_f hm 1 (by decide))
        replace hT := hT M9 eM9
        refine jOk_mem (fun hIM9 => ?_)
        refine r_aload_n dX10_put_42 rfl (i := 0) rfl ?_
        refine rr_getR (b := (m + 1)) dX10_put_43 fg_X10_7 rfl rfl (wX10_l hm) (wX10_s hm) (wX10_r0 hm) ?_
        refine r_sipush (n := 210) dX10_put_46 (by decide +kernel) ?_
        refine r_iload_n dX10_put_49 rfl (i := 1) rfl ?_
        refine r_iadd dX10_put_50 ?_
        refine r_iconst (n := 0) dX10_put_51 ?_
        obtain ⟨hc10, hT⟩ := hT
        refine rr_iastore dX10_put_52 (wX10_l0 hm) (wX10_a0 hm) (by decide) hc10 ⟨by decide, by decide⟩ (fun M11 eM11 => ?_)
        have hFM11 := jFr_up hFM9 eM11 (wX10_f hm 1 (by decide))
        replace hT := hT M11 eM11
        refine jOk_mem (fun hIM11 => ?_)
        refine r_iconst (n := 1) dX10_put_53 ?_
        exact r_zret dX10_put_54 rfl ⟨by decide, by decide⟩ ⟨Nat.zero_le _, Nat.zero_le _⟩ ⟨_, rfl, rfl, hFM11, hT⟩
      · replace hT := hT.2 (jI_p hcc)
        refine r_iconst (n := 0) dX10_put_26 ?_
        exact r_zret dX10_put_27 rfl ⟨by decide, by decide⟩ ⟨Nat.zero_le _, Nat.zero_le _⟩ ⟨_, rfl, rfl, hF, hT⟩
theorem en_X10_put {E : jE} {G : jG} {I : jM} {q : Int → jM → Prop} {m : Nat} {x1 : Int} {x2 : Int} (hm : WX10 G m) (hT : (∀ a j, jRg (G.2.1 a).1 (I a j)) → jIn x1 → jIn x2 → (0 ≤ I (m + 1) 2 ∧ I (m + 1) 2 ≤ 200) ∧ ((¬ (0 ≤ x1 ∧ x1 < I (m + 1) 2) → q 0 I) ∧ ((0 ≤ x1 ∧ x1 < I (m + 1) 2) → ((¬ (x2 = 10 ∨ (32 ≤ x2 ∧ x2 ≤ 126)) → q 0 I) ∧ ((x2 = 10 ∨ (32 ≤ x2 ∧ x2 ≤ 126)) → jIn (x1 + 1) ∧ (0 ≤ I (m + 1) 3 ∧ I (m + 1) 3 ≤ 8) ∧ ((¬ (sil (I (m + 1)) x1 (x1 + 1)) → jRV E (jA m) kX10_keep [VR m] G I (fun I7 => ((0 : Int) ≤ (10 + x1) ∧ ((10 + x1) : Int) < 22094) ∧ (∀ M9, M9 = jup I7 (m + 1) (10 + x1) x2 → ((0 : Int) ≤ (210 + x1) ∧ ((210 + x1) : Int) < 22094) ∧ (∀ M11, M11 = jup M9 (m + 1) (210 + x1) 0 → q 1 M11)))) ∧ ((sil (I (m + 1)) x1 (x1 + 1)) → q 0 I))))))) : jRI E (jA m) kX10_put [VR m, VI x1, VI x2] G I q := jRun.of mt_X10_put.2.2.2 0 rfl (fun _ => st_X10_put_0 hm hT I (fun _ _ => rfl))
set_option maxRecDepth 20000 in
theorem st_X10_insist_14 {E : jE} {G : jG} {I : jM} {q : Int → jM → Prop} {m : Nat} {x1 : Int} {x2 : Int} (hm : WX10 G m) (hT : (∀ a j, jRg (G.2.1 a).1 (I a j)) → jIn x1 → jIn x2 → ((16 ≤ x2 → (∀ M2, M2 = jup I (m + 1) 7 0 → q x1 M2)) ∧ (¬ 16 ≤ x2 → ((0 : Int) ≤ (426 + x2) ∧ ((426 + x2) : Int) < 22094) ∧ (∀ M4, M4 = jup I (m + 1) (426 + x2) 0 → jIn (x2 + 1) ∧ jOI E (jA m) kX10_insist 14 [VR m, VI x1, VI (x2 + 1)] G M4 q)))) : jOI E (jA m) kX10_insist 14 [VR m, VI x1, VI x2] G I q := by
  intro I0 hF
  refine jOk_mem (fun hI => ?_)
  refine jOk_in (i := 1) rfl (fun hx1 => ?_)
  refine jOk_in (i := 2) rfl (fun hx2 => ?_)
  replace hT := hT hI hx1 hx2
  refine r_iload_n dX10_insist_14 rfl (i := 2) rfl ?_
  refine r_bipush (n := 16) dX10_insist_15 (by decide +kernel) ?_
  refine r_icmp_ge (tgt := 37) dX10_insist_17 rfl hx2 ⟨by decide, by decide⟩ (fun hcc => ?_) (fun hcc => ?_)
  · replace hT := hT.1 hcc
    refine r_aload_n dX10_insist_37 rfl (i := 0) rfl ?_
    refine rr_getR (b := (m + 1)) dX10_insist_38 fg_X10_7 rfl rfl (wX10_l hm) (wX10_s hm) (wX10_r0 hm) ?_
    refine r_bipush (n := 7) dX10_insist_41 (by decide +kernel) ?_
    refine r_iconst (n := 0) dX10_insist_43 ?_
    refine rr_iastore dX10_insist_44 (wX10_l0 hm) (wX10_a0 hm) (by decide) ⟨by decide, by decide⟩ ⟨by decide, by decide⟩ (fun M2 eM2 => ?_)
    have hFM2 := jFr_up hF eM2 (wX10_f hm 1 (by decide))
    replace hT := hT M2 eM2
    refine jOk_mem (fun hIM2 => ?_)
    refine r_iload_n dX10_insist_45 rfl (i := 1) rfl ?_
    exact r_iret dX10_insist_46 rfl hx1 ⟨Nat.zero_le _, Nat.zero_le _⟩ ⟨_, rfl, rfl, hFM2, hT⟩
  · replace hT := hT.2 hcc
    refine r_aload_n dX10_insist_20 rfl (i := 0) rfl ?_
    refine rr_getR (b := (m + 1)) dX10_insist_21 fg_X10_7 rfl rfl (wX10_l hm) (wX10_s hm) (wX10_r0 hm) ?_
    refine r_sipush (n := 426) dX10_insist_24 (by decide +kernel) ?_
    refine r_iload_n dX10_insist_27 rfl (i := 2) rfl ?_
    refine r_iadd dX10_insist_28 ?_
    refine r_iconst (n := 0) dX10_insist_29 ?_
    obtain ⟨hc3, hT⟩ := hT
    refine rr_iastore dX10_insist_30 (wX10_l0 hm) (wX10_a0 hm) (by decide) hc3 ⟨by decide, by decide⟩ (fun M4 eM4 => ?_)
    have hFM4 := jFr_up hF eM4 (wX10_f hm 1 (by decide))
    replace hT := hT M4 eM4
    refine jOk_mem (fun hIM4 => ?_)
    obtain ⟨hc5, hT⟩ := hT
    refine rr_iinc (i := 2) (ls' := [VR m, VI x1, VI (x2 + 1)]) dX10_insist_31 rfl (Nat.le_of_ble_eq_true rfl) rfl rfl hc5 ?_
    refine r_goto (tgt := 14) dX10_insist_34 rfl ?_
    exact hT I0 hFM4
set_option maxRecDepth 20000 in
theorem st_X10_insist_0 {E : jE} {G : jG} {I : jM} {q : Int → jM → Prop} {m : Nat} (hm : WX10 G m) (hT : (∀ a j, jRg (G.2.1 a).1 (I a j)) → jRV E (jA m) kX10_keep [VR m] G I (fun I1 => jOI E (jA m) kX10_insist 14 [VR m, VI (I1 (m + 1) 7), VI 0] G I1 q)) : jOI E (jA m) kX10_insist 0 [VR m, VN, VN] G I q := by
  intro I0 hF
  refine jOk_mem (fun hI => ?_)
  replace hT := hT hI 
  refine r_aload_n dX10_insist_0 rfl (i := 0) rfl ?_
  refine rr_cVV (a := m) (as := []) (st := []) dX10_insist_1 mt_X10_keep ml_X10_250 mi_X10_keep rm_X10_insist_X10_keep jz_X10_keep ⟨Nat.zero_le _, Nat.zero_le _⟩ (Nat.le_of_ble_eq_true rfl) (wX10_l hm) (wX10_c hm) jas0 hT (fun I1 hFI1 hT => ?_)
  replace hFI1 := jFr_tr hF hFI1
  refine jOk_mem (fun hI1 => ?_)
  refine r_aload_n dX10_insist_4 rfl (i := 0) rfl ?_
  refine rr_getR (b := (m + 1)) dX10_insist_5 fg_X10_7 rfl rfl (wX10_l hm) (wX10_s hm) (wX10_r0 hm) ?_
  refine r_bipush (n := 7) dX10_insist_8 (by decide +kernel) ?_
  refine rr_iaload (v := I1 (m + 1) 7) dX10_insist_10 (wX10_l0 hm) (wX10_a0 hm) (by decide) ⟨by decide, by decide⟩ rfl ?_
  refine rr_istore_n (i := 1) (ls' := [VR m, VI (I1 (m + 1) 7), VN]) dX10_insist_11 rfl (Nat.le_of_ble_eq_true rfl) rfl rfl (hI1 _ _).inR ?_
  refine r_iconst (n := 0) dX10_insist_12 ?_
  refine rr_istore_n (i := 2) (ls' := [VR m, VI (I1 (m + 1) 7), VI 0]) dX10_insist_13 rfl (Nat.le_of_ble_eq_true rfl) rfl rfl ⟨by decide, by decide⟩ ?_
  exact hT I0 hFI1
theorem en_X10_insist {E : jE} {G : jG} {I : jM} {q : Int → jM → Prop} {m : Nat} (hm : WX10 G m) (hT : (∀ a j, jRg (G.2.1 a).1 (I a j)) → jRV E (jA m) kX10_keep [VR m] G I (fun I1 => jOI E (jA m) kX10_insist 14 [VR m, VI (I1 (m + 1) 7), VI 0] G I1 q)) : jRI E (jA m) kX10_insist [VR m] G I q := jRun.of mt_X10_insist.2.2.2 2 rfl (fun _ => st_X10_insist_0 hm hT I (fun _ _ => rfl))
theorem ref_on (hm : WX10 G m) (h : RR m I B H B' H' T fk fp) (hQ : QW B) {r z : Int} (hz : z = 0 ∨ z = 1) : jRI E (jA m) kX10_on [VR m, VI r, VI z] G I (fun x I' => (¬ ((0 ≤ r ∧ r < B 4) ∧ B (515 + 40 * r) ≠ z) → x = 0 ∧ RR m I' B H B' H' T fk fp) ∧ ((0 ≤ r ∧ r < B 4) ∧ B (515 + 40 * r) ≠ z → x = 1 ∧ RR m I' (up B (515 + 40 * r) z) (pushH H B) B' H' T fk fp)) := by
  have e4 : I (m + 1) 4 = B 4 := h.at (by omega)
  have h4 := hQ.2.1
  refine en_X10_on hm (fun _ _ _ => ?_)
  rw [e4]
  have h46 := h4.2.1
  refine ⟨⟨h4.1, h4.2.1⟩, fun q => ⟨fun _ => ⟨rfl, h⟩, fun g => absurd g.1 q⟩, fun q => ⟨⟨by omega, by omega⟩, ?_⟩⟩
  have ho := (h4.2.2 r q.1 q.2).2.1
  have eo : I (m + 1) (514 + 40 * r + 1) = B (515 + 40 * r) := by
    rw [show 514 + 40 * r + 1 = 515 + 40 * r by omega]
    exact h.at (by omega)
  rw [eo]
  have fin : ∀ I5 : jM, RR m I5 B (pushH H B) B' H' T fk fp → B (515 + 40 * r) ≠ z → ∀ M, M = jup I5 (m + 1) (514 + 40 * r + 1) z → (¬ ((0 ≤ r ∧ r < B 4) ∧ B (515 + 40 * r) ≠ z) → (1 : Int) = 0 ∧ RR m M B H B' H' T fk fp) ∧ ((0 ≤ r ∧ r < B 4) ∧ B (515 + 40 * r) ≠ z → (1 : Int) = 1 ∧ RR m M (up B (515 + 40 * r) z) (pushH H B) B' H' T fk fp) := by
    intro I5 g hne M e
    rw [show 514 + 40 * r + 1 = 515 + 40 * r by omega] at e
    exact ⟨fun g' => absurd ⟨q, hne⟩ g', fun _ => ⟨rfl, g.set e (by omega)⟩⟩
  have b1 : (0 : Int) ≤ 514 + 40 * r + 1 ∧ 514 + 40 * r + 1 < 22094 := ⟨by omega, by omega⟩
  refine ⟨fun q1 => ⟨fun q2 => (sp_keepR hm h).mono (fun I5 _ g => ?_), fun q2 => ⟨fun _ => ⟨rfl, h⟩, fun g => by omega⟩⟩, fun q1 => ⟨fun q2 => (sp_keepR hm h).mono (fun I5 _ g => ?_), fun q2 => ⟨fun _ => ⟨rfl, h⟩, fun g => by omega⟩⟩⟩
  · refine ⟨fun q3 => by omega, fun q3 => ⟨b1, fun M e => ?_⟩⟩
    have hz1 : z = 1 := by omega
    exact fin I5 g.1 (by omega) M (by rw [hz1]; exact e)
  · refine ⟨fun q3 => ⟨b1, fun M e => ?_⟩, fun q3 => by omega⟩
    rw [← q3] at e
    exact fin I5 g.1 (by omega) M e
theorem ref_silence (hm : WX10 G m) (h : RR m I B H B' H' T fk fp) (hQ : QW B) {x y : Int} : jRI E (jA m) kX10_silence [VR m, VI x, VI y] G I (fun r I' => (¬ (0 ≤ x ∧ x < y ∧ y ≤ B 2 ∧ B 3 < 8) → r = -1 ∧ RR m I' B H B' H' T fk fp) ∧ (0 ≤ x ∧ x < y ∧ y ≤ B 2 ∧ B 3 < 8 → r = B 3 + 1 ∧ RR m I' (up (up (up B (410 + 2 * B 3) x) (410 + 2 * B 3 + 1) y) 3 (B 3 + 1)) (pushH H B) B' H' T fk fp)) := by
  have e2 : I (m + 1) 2 = B 2 := h.at (by omega)
  have e3 : I (m + 1) 3 = B 3 := h.at (by omega)
  have h2 := hQ.1
  have h3 := hQ.2.2.1
  refine en_X10_silence hm (fun _ _ _ => ?_)
  rw [e2, e3]
  refine ⟨⟨by omega, by omega⟩, fun q => ⟨fun _ => ⟨rfl, h⟩, fun g => by omega⟩, fun q => ⟨⟨by omega, by omega⟩, fun q1 => ⟨fun _ => ⟨rfl, h⟩, fun g => by omega⟩, fun q1 => ⟨fun q2 => (sp_keepR hm h).mono (fun I8 _ g => ?_), fun q2 => ⟨fun _ => ⟨rfl, h⟩, fun g => by omega⟩⟩⟩⟩
  have k3 : I8 (m + 1) 3 = B 3 := g.1.at (by omega)
  rw [k3]
  refine ⟨⟨by omega, by omega⟩, fun M11 e11 => ?_⟩
  have k11 : M11 (m + 1) 3 = B 3 := by rw [jr_nj e11 (by omega)]; exact k3
  rw [k11]
  refine ⟨⟨by omega, by omega⟩, fun M14 e14 => ?_⟩
  have k14 : M14 (m + 1) 3 = B 3 := by rw [jr_nj e14 (by omega)]; exact k11
  rw [k14]
  exact ⟨⟨by omega, by omega⟩, fun M18 e18 => ⟨fun g => by omega, fun _ => ⟨rfl, ((g.1.set e11 (by omega)).set e14 (by omega)).set e18 (by omega)⟩⟩⟩
/-- one span less -/
def hrB (B : Int → Int) (i : Int) : Int → Int := fun j => if j = 3 then B 3 - 1 else if j = 410 + 2 * (B 3 - 1) ∨ j = 410 + 2 * (B 3 - 1) + 1 then 0 else if 410 + 2 * i ≤ j ∧ j < 410 + 2 * (B 3 - 1) then B (j + 2) else B j
theorem ref_hear (hm : WX10 G m) (h : RR m I B H B' H' T fk fp) (hQ : QW B) {i : Int} : jRI E (jA m) kX10_hear [VR m, VI i] G I (fun r I' => (¬ (0 ≤ i ∧ i < B 3) → r = 0 ∧ RR m I' B H B' H' T fk fp) ∧ (0 ≤ i ∧ i < B 3 → r = 1 ∧ RR m I' (hrB B i) (pushH H B) B' H' T fk fp)) := by
  have e3 : I (m + 1) 3 = B 3 := h.at (by omega)
  have h3 := hQ.2.2.1
  refine en_X10_hear hm (fun _ _ => ?_)
  rw [e3]
  refine ⟨⟨by omega, by omega⟩, fun q => (sp_keepR hm h).mono (fun I4 _ g => ⟨⟨by omega, by omega⟩, ?_⟩), fun q => ⟨fun _ => ⟨rfl, h⟩, fun g => by omega⟩⟩
  have loop : ∀ (d : Nat) (x : Int), 410 + 2 * i ≤ x → x + d = 410 + 2 * B 3 - 2 → ∀ I1 : jM, RR m I1 (fun j => if 410 + 2 * i ≤ j ∧ j < x then B (j + 2) else B j) (pushH H B) B' H' T fk fp → jOI E (jA m) kX10_hear 30 [VR m, VI i, VI x] G I1 (fun r I' => (¬ (0 ≤ i ∧ i < B 3) → r = 0 ∧ RR m I' B H B' H' T fk fp) ∧ (0 ≤ i ∧ i < B 3 → r = 1 ∧ RR m I' (hrB B i) (pushH H B) B' H' T fk fp)) := by
    intro d
    induction d with
    | zero =>
      intro x x0 x1 I1 hr
      have k3 : I1 (m + 1) 3 = B 3 := by rw [hr.at (by omega)]; exact if_neg (by omega)
      refine st_X10_hear_30 hm (fun _ _ _ => ?_)
      rw [k3]
      refine ⟨⟨by omega, by omega⟩, fun _ => ⟨⟨by omega, by omega⟩, fun M6 e6 => ⟨⟨by omega, by omega⟩, fun M9 e9 => ?_⟩⟩, fun q => by omega⟩
      have k9 : M9 (m + 1) 3 = B 3 - 1 := by rw [jr_nj e9 (by omega), jr_eq e6]
      rw [k9]
      refine ⟨⟨by omega, by omega⟩, fun M12 e12 => ⟨fun g => absurd (by omega) g, fun _ => ⟨rfl, ?_⟩⟩⟩
      have e : hrB B i = up (up (up (fun j => if 410 + 2 * i ≤ j ∧ j < x then B (j + 2) else B j) 3 (B 3 - 1)) (410 + 2 * (B 3 - 1)) 0) (410 + 2 * (B 3 - 1) + 1) 0 := by
        funext j
        unfold hrB up
        by_cases q3 : j = 3
        · rw [if_pos q3, if_neg (by omega), if_neg (by omega), if_pos q3]
        · rw [if_neg q3, if_neg q3]
          by_cases qa : j = 410 + 2 * (B 3 - 1) + 1
          · rw [if_pos (Or.inr qa), if_pos qa]
          · rw [if_neg qa]
            by_cases qb : j = 410 + 2 * (B 3 - 1)
            · rw [if_pos (Or.inl qb), if_pos qb]
            · rw [if_neg (by omega), if_neg qb]
              show _ = (if 410 + 2 * i ≤ j ∧ j < x then B (j + 2) else B j)
              rw [show 410 + 2 * (B 3 - 1) = x by omega]
      rw [e]
      exact ((hr.set e6 (by omega)).set e9 (by omega)).set e12 (by omega)
    | succ d ih =>
      intro x x0 x1 I1 hr
      have k3 : I1 (m + 1) 3 = B 3 := by rw [hr.at (by omega)]; exact if_neg (by omega)
      have kx : I1 (m + 1) (x + 2) = B (x + 2) := by rw [hr.at (by omega)]; exact if_neg (by omega)
      refine st_X10_hear_30 hm (fun _ _ _ => ?_)
      rw [k3]
      refine ⟨⟨by omega, by omega⟩, fun q => by omega, fun _ => ⟨⟨by omega, by omega⟩, ⟨by omega, by omega⟩, fun M15 e15 => ⟨⟨by omega, by omega⟩, ?_⟩⟩⟩
      refine ih (x + 1) (by omega) (by omega) M15 ?_
      have e : (fun j => if 410 + 2 * i ≤ j ∧ j < x + 1 then B (j + 2) else B j) = up (fun j => if 410 + 2 * i ≤ j ∧ j < x then B (j + 2) else B j) x (B (x + 2)) := by
        funext j
        unfold up
        dsimp only
        by_cases qx : j = x
        · rw [if_pos qx, if_pos (by omega), qx]
        · rw [if_neg qx]
          by_cases q2 : 410 + 2 * i ≤ j ∧ j < x
          · rw [if_pos q2, if_pos (by omega)]
          · rw [if_neg q2, if_neg (by omega)]
      rw [e]
      rw [kx] at e15
      exact hr.set e15 (by omega)
  refine loop (2 * (B 3 - 1 - i)).toNat (410 + 2 * i) (by omega) (by omega) I4 ?_
  have e : (fun j => if 410 + 2 * i ≤ j ∧ j < 410 + 2 * i then B (j + 2) else B j) = B := by
    funext j
    rw [if_neg (by omega)]
  rw [e]
  exact g.1
theorem ref_setNow (hm : WX10 G m) (h : RR m I B H B' H' T fk fp) {w v top : Int} (hw : 2 ≤ w ∧ w < 1054) : jRI E (jA m) kX10_setNow [VR m, VI w, VI v, VI top] G I (fun r I' => (¬ (0 ≤ v ∧ v ≤ top) → r = 0 ∧ RR m I' B H B' H' T fk fp) ∧ (0 ≤ v ∧ v ≤ top → r = 1 ∧ RR m I' (up B w v) (pushH H B) B' H' T fk fp)) := by
  refine en_X10_setNow hm (fun _ _ _ _ => ⟨fun q => (sp_keepR hm h).mono (fun I2 _ g => ⟨⟨by omega, by omega⟩, fun M4 e4 => ⟨fun q' => absurd q q', fun _ => ⟨rfl, g.1.set e4 hw⟩⟩⟩), fun q => ⟨fun _ => ⟨rfl, h⟩, fun q' => absurd q' q⟩⟩)
theorem ref_measure (hm : WX10 G m) (h : RR m I B H B' H' T fk fp) {v : Int} : jRI E (jA m) kX10_measure [VR m, VI v] G I (fun r I' => (¬ (0 ≤ v ∧ v ≤ 1) → r = 0 ∧ RR m I' B H B' H' T fk fp) ∧ (0 ≤ v ∧ v ≤ 1 → r = 1 ∧ RR m I' (up B 5 v) (pushH H B) B' H' T fk fp)) :=
  en_X10_measure hm (fun _ _ => (ref_setNow hm h (by omega)).mono (fun r I' _ _ g => ⟨by
    by_cases q : 0 ≤ v ∧ v ≤ 1
    · have := (g.2 q).1; omega
    · have := (g.1 q).1; omega, g⟩))
theorem ref_most (hm : WX10 G m) (h : RR m I B H B' H' T fk fp) {v : Int} : jRI E (jA m) kX10_most [VR m, VI v] G I (fun r I' => (¬ (0 ≤ v ∧ v ≤ 20) → r = 0 ∧ RR m I' B H B' H' T fk fp) ∧ (0 ≤ v ∧ v ≤ 20 → r = 1 ∧ RR m I' (up B 6 v) (pushH H B) B' H' T fk fp)) :=
  en_X10_most hm (fun _ _ => (ref_setNow hm h (by omega)).mono (fun r I' _ _ g => ⟨by
    by_cases q : 0 ≤ v ∧ v ≤ 20
    · have := (g.2 q).1; omega
    · have := (g.1 q).1; omega, g⟩))
def okB (b : Int) : Prop := b = 10 ∨ (32 ≤ b ∧ b ≤ 126)
theorem ref_put (hm : WX10 G m) (h : RR m I B H B' H' T fk fp) (hQ : QW B) {i b : Int} : jRI E (jA m) kX10_put [VR m, VI i, VI b] G I (fun r I' => (¬ ((0 ≤ i ∧ i < B 2) ∧ okB b ∧ ¬ sil B i (i + 1)) → r = 0 ∧ RR m I' B H B' H' T fk fp) ∧ ((0 ≤ i ∧ i < B 2) ∧ okB b ∧ ¬ sil B i (i + 1) → r = 1 ∧ RR m I' (up (up B (10 + i) b) (210 + i) 0) (pushH H B) B' H' T fk fp)) := by
  have e2 : I (m + 1) 2 = B 2 := h.at (by omega)
  have e3 : I (m + 1) 3 = B 3 := h.at (by omega)
  have h2 := hQ.1
  have h3 := hQ.2.2.1
  have es : sil (I (m + 1)) i (i + 1) ↔ sil B i (i + 1) := ⟨sil_congr h.1.eqS (by rw [e3]; exact h3), sil_congr h.1.eqS.symm h3⟩
  refine en_X10_put hm (fun _ _ _ => ?_)
  rw [e2, e3]
  refine ⟨h2, fun q => ⟨fun _ => ⟨rfl, h⟩, fun g => absurd g.1 q⟩, fun q => ⟨fun q1 => ⟨fun _ => ⟨rfl, h⟩, fun g => absurd g.2.1 q1⟩, fun q1 => ⟨⟨by omega, by omega⟩, h3, fun q2 => (sp_keepR hm h).mono (fun I7 _ g => ?_), fun q2 => ⟨fun _ => ⟨rfl, h⟩, fun g => absurd (es.mp q2) g.2.2⟩⟩⟩⟩
  exact ⟨⟨by omega, by omega⟩, fun M9 e9 => ⟨⟨by omega, by omega⟩, fun M11 e11 => ⟨fun g' => absurd ⟨q, q1, fun g => q2 (es.mpr g)⟩ g', fun _ => ⟨rfl, (g.1.set e9 (by omega)).set e11 (by omega)⟩⟩⟩⟩
/-- no yields -/
def noY (B : Int → Int) : Int → Int := fun j => if j = 7 ∨ (426 ≤ j ∧ j < 442) then 0 else B j
theorem ref_insist (hm : WX10 G m) (h : RR m I B H B' H' T fk fp) : jRI E (jA m) kX10_insist [VR m] G I (fun r I' => r = B 7 ∧ RR m I' (noY B) (pushH H B) B' H' T fk fp) := by
  refine en_X10_insist hm (fun _ => (sp_keepR hm h).mono (fun I1 _ g => ?_))
  have e7 : I1 (m + 1) 7 = B 7 := g.1.at (by omega)
  rw [e7]
  have loop : ∀ (d : Nat) (x : Int), 0 ≤ x → x + d = 16 → ∀ I1 : jM, RR m I1 (fun j => if 426 ≤ j ∧ j < 426 + x then 0 else B j) (pushH H B) B' H' T fk fp → jOI E (jA m) kX10_insist 14 [VR m, VI (B 7), VI x] G I1 (fun r I' => r = B 7 ∧ RR m I' (noY B) (pushH H B) B' H' T fk fp) := by
    intro d
    induction d with
    | zero =>
      intro x x0 x1 I1 hr
      refine st_X10_insist_14 hm (fun _ _ _ => ⟨fun _ M2 e2 => ⟨rfl, ?_⟩, fun q => by omega⟩)
      have e : noY B = up (fun j => if 426 ≤ j ∧ j < 426 + x then 0 else B j) 7 0 := by
        funext j
        unfold noY up
        dsimp only
        by_cases q : j = 7
        · rw [if_pos (Or.inl q), if_pos q]
        · rw [if_neg q]
          by_cases q2 : 426 ≤ j ∧ j < 426 + x
          · rw [if_pos (by omega), if_pos q2]
          · rw [if_neg (by omega), if_neg q2]
      rw [e]
      exact hr.set e2 (by omega)
    | succ d ih =>
      intro x x0 x1 I1 hr
      refine st_X10_insist_14 hm (fun _ _ _ => ⟨fun q => by omega, fun _ => ⟨⟨by omega, by omega⟩, fun M4 e4 => ⟨⟨by omega, by omega⟩, ?_⟩⟩⟩)
      refine ih (x + 1) (by omega) (by omega) M4 ?_
      have e : (fun j => if 426 ≤ j ∧ j < 426 + (x + 1) then 0 else B j) = up (fun j => if 426 ≤ j ∧ j < 426 + x then 0 else B j) (426 + x) 0 := by
        funext j
        unfold up
        dsimp only
        by_cases qx : j = 426 + x
        · rw [if_pos qx, if_pos (by omega)]
        · rw [if_neg qx]
          by_cases q2 : 426 ≤ j ∧ j < 426 + x
          · rw [if_pos q2, if_pos (by omega)]
          · rw [if_neg q2, if_neg (by omega)]
      rw [e]
      exact hr.set e4 (by omega)
  refine loop 16 0 (by omega) (by omega) I1 ?_
  have e : (fun j => if 426 ≤ j ∧ j < 426 + 0 then 0 else B j) = B := by
    funext j
    rw [if_neg (by omega)]
  rw [e]
  exact g.1
end RS
