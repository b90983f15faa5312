/-! ===== the reference: like tokens, fits ===== -/
/-- two tokens have the same bytes -/
def like (S b : Int → Int) (t u : Int) : Prop := b (t + 1) - b t = b (u + 1) - b u ∧ ∀ k, 0 ≤ k → k < b (t + 1) - b t → S (10 + (b t + k)) = S (10 + (b u + k))
/-- a token has an element's bytes -/
def said (S b : Int → Int) (r e t : Int) : Prop := S (518 + 40 * r + 3 * e + 2) = b (t + 1) - b t ∧ ∀ k, 0 ≤ k → k < b (t + 1) - b t → S (754 + S (518 + 40 * r + 3 * e + 1) + k) = S (10 + (b t + k))
/-- an element's name, with its sort; -1 where it has none -/
def key (S : Int → Int) (r e : Int) : Int := if S (518 + 40 * r + 3 * e + 0) ≤ 2 then 4 * S (518 + 40 * r + 3 * e + 0) + S (518 + 40 * r + 3 * e + 1) else -1
/-- e0 is the first element that is named as e is -/
def isFst (S : Int → Int) (r e e0 : Int) : Prop := 0 ≤ e0 ∧ e0 ≤ e ∧ key S r e0 = key S r e ∧ ∀ e', 0 ≤ e' → e' < e0 → key S r e' ≠ key S r e
def fit1 (S b : Int → Int) (r t e : Int) : Prop := (S (518 + 40 * r + 3 * e + 0) = 4 → said S b r e (t + e)) ∧ (S (518 + 40 * r + 3 * e + 0) ≠ 4 → srt (S (10 + b (t + e))) = S (518 + 40 * r + 3 * e + 0) ∧ (S (518 + 40 * r + 3 * e + 0) ≠ 3 → ∀ e0, isFst S r e e0 → like S b (t + e0) (t + e)))
def Fit (S : Int → Int) (n : Int) (b : Int → Int) (r t : Int) : Prop := t + S (516 + 40 * r) ≤ n ∧ ∀ e, 0 ≤ e → e < S (516 + 40 * r) → fit1 S b r t e
def EW (S : Int → Int) (r e : Int) : Prop := 0 ≤ S (518 + 40 * r + 3 * e + 0) ∧ S (518 + 40 * r + 3 * e + 0) ≤ 4 ∧ (S (518 + 40 * r + 3 * e + 0) ≤ 2 → 0 ≤ S (518 + 40 * r + 3 * e + 1) ∧ S (518 + 40 * r + 3 * e + 1) ≤ 3) ∧ (S (518 + 40 * r + 3 * e + 0) = 4 → 0 ≤ S (518 + 40 * r + 3 * e + 1) ∧ 1 ≤ S (518 + 40 * r + 3 * e + 2) ∧ S (518 + 40 * r + 3 * e + 1) + S (518 + 40 * r + 3 * e + 2) ≤ 300)
/-- the sort of the element that a part speaks of -/
def pbase (s : Int) : Int := if s = 7 then 0 else if 4 < s then 1 else s
def PW (S : Int → Int) (r p : Int) : Prop := 0 ≤ S (536 + 40 * r + 3 * p + 0) ∧ S (536 + 40 * r + 3 * p + 0) ≤ 7 ∧ S (536 + 40 * r + 3 * p + 0) ≠ 3 ∧ (S (536 + 40 * r + 3 * p + 0) = 4 → 0 ≤ S (536 + 40 * r + 3 * p + 1) ∧ 0 ≤ S (536 + 40 * r + 3 * p + 2) ∧ S (536 + 40 * r + 3 * p + 1) + S (536 + 40 * r + 3 * p + 2) ≤ 300) ∧ (S (536 + 40 * r + 3 * p + 0) ≠ 4 → 0 ≤ S (536 + 40 * r + 3 * p + 1) ∧ S (536 + 40 * r + 3 * p + 1) ≤ 3 ∧ ∃ e, 0 ≤ e ∧ e < S (516 + 40 * r) ∧ key S r e = 4 * pbase (S (536 + 40 * r + 3 * p + 0)) + S (536 + 40 * r + 3 * p + 1))
def RW1 (S : Int → Int) (r : Int) : Prop := (1 ≤ S (514 + 40 * r) ∧ S (514 + 40 * r) ≤ 99) ∧ (0 ≤ S (515 + 40 * r) ∧ S (515 + 40 * r) ≤ 1) ∧ (1 ≤ S (516 + 40 * r) ∧ S (516 + 40 * r) ≤ 6) ∧ (0 ≤ S (517 + 40 * r) ∧ S (517 + 40 * r) ≤ 6) ∧ (∀ e, 0 ≤ e → e < S (516 + 40 * r) → EW S r e) ∧ (∀ p, 0 ≤ p → p < S (517 + 40 * r) → PW S r p) ∧ ∀ p p', 0 ≤ p → p < p' → p' < S (517 + 40 * r) → S (536 + 40 * r + 3 * p + 0) = 4 → S (536 + 40 * r + 3 * p' + 0) = 4 → S (536 + 40 * r + 3 * p + 1) + S (536 + 40 * r + 3 * p + 2) ≤ S (536 + 40 * r + 3 * p' + 1)
/-- the rules are as a reader leaves them -/
def RW (S : Int → Int) : Prop := 0 ≤ S 4 ∧ S 4 ≤ 6 ∧ ∀ r, 0 ≤ r → r < S 4 → RW1 S r
/-- the tokens of the text lie in the reference's rows -/
def TO (m : Nat) (S : Int → Int) (n : Int) (b : Int → Int) (I : jM) : Prop := I (m + 1) = S ∧ S 2 ≤ 200 ∧ Tk (fun i => S (10 + i)) (S 2) n b ∧ I m 4 = n ∧ ∀ u, 0 ≤ u → u < n → I (m + 3) u = b u ∧ I (m + 4) u = b (u + 1) - b u
theorem TO.bd {m : Nat} {S : Int → Int} {n : Int} {b : Int → Int} {I : jM} (h : TO m S n b I) {t : Int} (h0 : 0 ≤ t) (h1 : t < n) : 0 ≤ b t ∧ b t < b (t + 1) ∧ b (t + 1) ≤ S 2 ∧ S 2 ≤ 200 ∧ t < 200 := by
  have g1 := h.2.2.1.bd (t := t) h0 (by omega)
  have g2 := h.2.2.1.bd (t := t + 1) (by omega) (by omega)
  have g3 := (h.2.2.1.2.2.2 t h0 h1).1
  have g4 := h.2.2.1.n_le
  have g5 := h.2.1
  refine ⟨g1.1, g3, g2.2, g5, by omega⟩
/-- what fitsNow and its like may write: the names' row alone -/
def WB (m : Nat) (I I' : jM) : Prop := ∀ a j, a ≠ m + 5 → I' a j = I a j
theorem TO.wb {m : Nat} {S : Int → Int} {n : Int} {b : Int → Int} {I I' : jM} (h : TO m S n b I) (hw : WB m I I') : TO m S n b I' := by
  refine ⟨?_, h.2.1, h.2.2.1, ?_, fun u u0 u1 => ?_⟩
  · rw [← h.1]
    funext j
    exact hw _ _ (by omega)
  · rw [hw _ _ (by omega)]
    exact h.2.2.2.1
  · rw [hw _ _ (by omega), hw _ _ (by omega)]
    exact h.2.2.2.2 u u0 u1
theorem WB.trans {m : Nat} {I I' I'' : jM} (h : WB m I I') (h' : WB m I' I'') : WB m I I'' := fun a j ha => (h' a j ha).trans (h a j ha)
theorem WB.rfl {m : Nat} {I : jM} : WB m I I := fun _ _ _ => Eq.refl _
set_option maxRecDepth 20000 in
theorem st_X10_areLike_19 {E : jE} {G : jG} {I : jM} {q : Int → jM → Prop} {m : Nat} {x1 : Int} {x2 : Int} {x3 : Int} (hm : WX10 G m) (hT : (∀ a j, jRg (G.2.1 a).1 (I a j)) → jIn x1 → jIn x2 → jIn x3 → ((0 : Int) ≤ x1 ∧ (x1 : Int) < 200) ∧ (((I (m + 4) x1) ≤ x3 → q 1 I) ∧ (¬ (I (m + 4) x1) ≤ x3 → ((0 : Int) ≤ x1 ∧ (x1 : Int) < 200) ∧ jIn ((I (m + 3) x1) + x3) ∧ (0 ≤ 10 + ((I (m + 3) x1) + x3) ∧ 10 + ((I (m + 3) x1) + x3) < 22094) ∧ ((0 : Int) ≤ x2 ∧ (x2 : Int) < 200) ∧ jIn ((I (m + 3) x2) + x3) ∧ (0 ≤ 10 + ((I (m + 3) x2) + x3) ∧ 10 + ((I (m + 3) x2) + x3) < 22094) ∧ (((I (m + 1) (10 + ((I (m + 3) x1) + x3))) = (I (m + 1) (10 + ((I (m + 3) x2) + x3))) → jIn (x3 + 1) ∧ jOI E (jA m) kX10_areLike 19 [VR m, VI x1, VI x2, VI (x3 + 1)] G I q) ∧ (¬ (I (m + 1) (10 + ((I (m + 3) x1) + x3))) = (I (m + 1) (10 + ((I (m + 3) x2) + x3))) → q 0 I))))) : jOI E (jA m) kX10_areLike 19 [VR m, VI x1, VI x2, VI x3] G I q := by
  intro I0 hF
  refine jOk_mem (fun hI => ?_)
  refine jOk_in (i := 1) rfl (fun hx1 => ?_)
  refine jOk_in (i := 2) rfl (fun hx2 => ?_)
  refine jOk_in (i := 3) rfl (fun hx3 => ?_)
  replace hT := hT hI hx1 hx2 hx3
  refine r_iload_n dX10_areLike_19 rfl (i := 3) rfl ?_
  refine r_aload_n dX10_areLike_20 rfl (i := 0) rfl ?_
  refine rr_getR (b := (m + 4)) dX10_areLike_21 fg_X10_19 rfl rfl (wX10_l hm) (wX10_s hm) (wX10_r3 hm) ?_
  refine r_iload_n dX10_areLike_24 rfl (i := 1) rfl ?_
  obtain ⟨hc1, hT⟩ := hT
  refine rr_iaload (v := I (m + 4) x1) dX10_areLike_25 (wX10_l3 hm) (wX10_a3 hm) (by decide) hc1 rfl ?_
  refine r_icmp_ge (tgt := 64) dX10_areLike_26 rfl hx3 (hI _ _).inR (fun hcc => ?_) (fun hcc => ?_)
  · replace hT := hT.1 hcc
    refine r_iconst (n := 1) dX10_areLike_64 ?_
    exact r_zret dX10_areLike_65 rfl ⟨by decide, by decide⟩ ⟨Nat.zero_le _, Nat.zero_le _⟩ ⟨_, rfl, rfl, hF, hT⟩
  · replace hT := hT.2 hcc
    refine r_aload_n dX10_areLike_29 rfl (i := 0) rfl ?_
    refine r_aload_n dX10_areLike_30 rfl (i := 0) rfl ?_
    refine rr_getR (b := (m + 3)) dX10_areLike_31 fg_X10_16 rfl rfl (wX10_l hm) (wX10_s hm) (wX10_r2 hm) ?_
    refine r_iload_n dX10_areLike_34 rfl (i := 1) rfl ?_
    obtain ⟨hc2, hT⟩ := hT
    refine rr_iaload (v := I (m + 3) x1) dX10_areLike_35 (wX10_l2 hm) (wX10_a2 hm) (by decide) hc2 rfl ?_
    refine r_iload_n dX10_areLike_36 rfl (i := 3) rfl ?_
    refine r_iadd dX10_areLike_37 ?_
    obtain ⟨hc3, hT⟩ := hT
    obtain ⟨hc5, hT⟩ := hT
    refine rr_pVI (A := (jA m)) (v := I (m + 1) (10 + ((I (m + 3) x1) + x3))) (a := m) (as := [VI ((I (m + 3) x1) + x3)]) (st := []) dX10_areLike_38 mt_X10_byteAt ml_X10_120 mi_X10_byteAt rm_X10_areLike_X10_byteAt jz_X10_byteAt ⟨Nat.zero_le _, Nat.zero_le _⟩ (Nat.le_of_ble_eq_true rfl) (wX10_l hm) (wX10_c hm) (jasI hc3 jas0) ((sp_X10_byteAt hm) hc5) (fun hc4 => ?_)
    refine r_aload_n dX10_areLike_41 rfl (i := 0) rfl ?_
    refine r_aload_n dX10_areLike_42 rfl (i := 0) rfl ?_
    refine rr_getR (b := (m + 3)) dX10_areLike_43 fg_X10_16 rfl rfl (wX10_l hm) (wX10_s hm) (wX10_r2 hm) ?_
    refine r_iload_n dX10_areLike_46 rfl (i := 2) rfl ?_
    obtain ⟨hc6, hT⟩ := hT
    refine rr_iaload (v := I (m + 3) x2) dX10_areLike_47 (wX10_l2 hm) (wX10_a2 hm) (by decide) hc6 rfl ?_
    refine r_iload_n dX10_areLike_48 rfl (i := 3) rfl ?_
    refine r_iadd dX10_areLike_49 ?_
    obtain ⟨hc7, hT⟩ := hT
    obtain ⟨hc9, hT⟩ := hT
    refine rr_pVI (A := (jA m)) (v := I (m + 1) (10 + ((I (m + 3) x2) + x3))) (a := m) (as := [VI ((I (m + 3) x2) + x3)]) (st := [VI (I (m + 1) (10 + ((I (m + 3) x1) + x3)))]) dX10_areLike_50 mt_X10_byteAt ml_X10_120 mi_X10_byteAt rm_X10_areLike_X10_byteAt jz_X10_byteAt ⟨Nat.zero_le _, Nat.zero_le _⟩ (Nat.le_of_ble_eq_true rfl) (wX10_l hm) (wX10_c hm) (jasI hc7 jas0) ((sp_X10_byteAt hm) hc9) (fun hc8 => ?_)
    refine r_icmp_eq (tgt := 58) dX10_areLike_53 rfl hc4 hc8 (fun hcc => ?_) (fun hcc => ?_)
    · replace hT := hT.1 hcc
      obtain ⟨hc10, hT⟩ := hT
      refine rr_iinc (i := 3) (ls' := [VR m, VI x1, VI x2, VI (x3 + 1)]) dX10_areLike_58 rfl (Nat.le_of_ble_eq_true rfl) rfl rfl hc10 ?_
      refine r_goto (tgt := 19) dX10_areLike_61 rfl ?_
      exact hT I0 hF
    · replace hT := hT.2 hcc
      refine r_iconst (n := 0) dX10_areLike_56 ?_
      exact r_zret dX10_areLike_57 rfl ⟨by decide, by decide⟩ ⟨Nat.zero_le _, Nat.zero_le _⟩ ⟨_, rfl, rfl, hF, hT⟩
set_option maxRecDepth 20000 in
theorem st_X10_areLike_0 {E : jE} {G : jG} {I : jM} {q : Int → jM → Prop} {m : Nat} {x1 : Int} {x2 : Int} (hm : WX10 G m) (hT : (∀ a j, jRg (G.2.1 a).1 (I a j)) → jIn x1 → jIn x2 → ((0 : Int) ≤ x1 ∧ (x1 : Int) < 200) ∧ ((0 : Int) ≤ x2 ∧ (x2 : Int) < 200) ∧ (((I (m + 4) x1) = (I (m + 4) x2) → jOI E (jA m) kX10_areLike 19 [VR m, VI x1, VI x2, VI 0] G I q) ∧ (¬ (I (m + 4) x1) = (I (m + 4) x2) → q 0 I))) : jOI E (jA m) kX10_areLike 0 [VR m, VI x1, VI x2, VN] G I q := by
  intro I0 hF
  refine jOk_mem (fun hI => ?_)
  refine jOk_in (i := 1) rfl (fun hx1 => ?_)
  refine jOk_in (i := 2) rfl (fun hx2 => ?_)
  replace hT := hT hI hx1 hx2
  refine r_aload_n dX10_areLike_0 rfl (i := 0) rfl ?_
  refine rr_getR (b := (m + 4)) dX10_areLike_1 fg_X10_19 rfl rfl (wX10_l hm) (wX10_s hm) (wX10_r3 hm) ?_
  refine r_iload_n dX10_areLike_4 rfl (i := 1) rfl ?_
  obtain ⟨hc1, hT⟩ := hT
  refine rr_iaload (v := I (m + 4) x1) dX10_areLike_5 (wX10_l3 hm) (wX10_a3 hm) (by decide) hc1 rfl ?_
  refine r_aload_n dX10_areLike_6 rfl (i := 0) rfl ?_
  refine rr_getR (b := (m + 4)) dX10_areLike_7 fg_X10_19 rfl rfl (wX10_l hm) (wX10_s hm) (wX10_r3 hm) ?_
  refine r_iload_n dX10_areLike_10 rfl (i := 2) rfl ?_
  obtain ⟨hc2, hT⟩ := hT
  refine rr_iaload (v := I (m + 4) x2) dX10_areLike_11 (wX10_l3 hm) (wX10_a3 hm) (by decide) hc2 rfl ?_
  refine r_icmp_eq (tgt := 17) dX10_areLike_12 rfl (hI _ _).inR (hI _ _).inR (fun hcc => ?_) (fun hcc => ?_)
  · replace hT := hT.1 hcc
    refine r_iconst (n := 0) dX10_areLike_17 ?_
    refine rr_istore_n (i := 3) (ls' := [VR m, VI x1, VI x2, VI 0]) dX10_areLike_18 rfl (Nat.le_of_ble_eq_true rfl) rfl rfl ⟨by decide, by decide⟩ ?_
    exact hT I0 hF
  · replace hT := hT.2 hcc
    refine r_iconst (n := 0) dX10_areLike_15 ?_
    exact r_zret dX10_areLike_16 rfl ⟨by decide, by decide⟩ ⟨Nat.zero_le _, Nat.zero_le _⟩ ⟨_, rfl, rfl, hF, hT⟩
theorem en_X10_areLike {E : jE} {G : jG} {I : jM} {q : Int → jM → Prop} {m : Nat} {x1 : Int} {x2 : Int} (hm : WX10 G m) (hT : (∀ a j, jRg (G.2.1 a).1 (I a j)) → jIn x1 → jIn x2 → ((0 : Int) ≤ x1 ∧ (x1 : Int) < 200) ∧ ((0 : Int) ≤ x2 ∧ (x2 : Int) < 200) ∧ (((I (m + 4) x1) = (I (m + 4) x2) → jOI E (jA m) kX10_areLike 19 [VR m, VI x1, VI x2, VI 0] G I q) ∧ (¬ (I (m + 4) x1) = (I (m + 4) x2) → q 0 I))) : jRI E (jA m) kX10_areLike [VR m, VI x1, VI x2] G I q := jRun.of mt_X10_areLike.2.2.2 1 rfl (fun _ => st_X10_areLike_0 hm hT I (fun _ _ => rfl))
set_option maxRecDepth 20000 in
theorem st_X10_isSaid_30 {E : jE} {G : jG} {I : jM} {q : Int → jM → Prop} {m : Nat} {x1 : Int} {x2 : Int} {x3 : Int} {x4 : Int} {x5 : Int} (hm : WX10 G m) (hT : (∀ a j, jRg (G.2.1 a).1 (I a j)) → jIn x1 → jIn x2 → jIn x3 → jIn x4 → jIn x5 → ((0 : Int) ≤ x3 ∧ (x3 : Int) < 200) ∧ (((I (m + 4) x3) ≤ x5 → q 1 I) ∧ (¬ (I (m + 4) x3) ≤ x5 → ((0 : Int) ≤ ((754 + x4) + x5) ∧ (((754 + x4) + x5) : Int) < 22094) ∧ ((0 : Int) ≤ x3 ∧ (x3 : Int) < 200) ∧ jIn ((I (m + 3) x3) + x5) ∧ (0 ≤ 10 + ((I (m + 3) x3) + x5) ∧ 10 + ((I (m + 3) x3) + x5) < 22094) ∧ (((I (m + 1) ((754 + x4) + x5)) = (I (m + 1) (10 + ((I (m + 3) x3) + x5))) → jIn (x5 + 1) ∧ jOI E (jA m) kX10_isSaid 30 [VR m, VI x1, VI x2, VI x3, VI x4, VI (x5 + 1)] G I q) ∧ (¬ (I (m + 1) ((754 + x4) + x5)) = (I (m + 1) (10 + ((I (m + 3) x3) + x5))) → q 0 I))))) : jOI E (jA m) kX10_isSaid 30 [VR m, VI x1, VI x2, VI x3, VI x4, VI x5] G I q := by
  intro I0 hF
  refine jOk_mem (fun hI => ?_)
  refine jOk_in (i := 1) rfl (fun hx1 => ?_)
  refine jOk_in (i := 2) rfl (fun hx2 => ?_)
  refine jOk_in (i := 3) rfl (fun hx3 => ?_)
  refine jOk_in (i := 4) rfl (fun hx4 => ?_)
  refine jOk_in (i := 5) rfl (fun hx5 => ?_)
  replace hT := hT hI hx1 hx2 hx3 hx4 hx5
  refine r_iload dX10_isSaid_30 (i := 5) rfl ?_
  refine r_aload_n dX10_isSaid_32 rfl (i := 0) rfl ?_
  refine rr_getR (b := (m + 4)) dX10_isSaid_33 fg_X10_19 rfl rfl (wX10_l hm) (wX10_s hm) (wX10_r3 hm) ?_
  refine r_iload_n dX10_isSaid_36 rfl (i := 3) rfl ?_
  obtain ⟨hc1, hT⟩ := hT
  refine rr_iaload (v := I (m + 4) x3) dX10_isSaid_37 (wX10_l3 hm) (wX10_a3 hm) (by decide) hc1 rfl ?_
  refine r_icmp_ge (tgt := 79) dX10_isSaid_38 rfl hx5 (hI _ _).inR (fun hcc => ?_) (fun hcc => ?_)
  · replace hT := hT.1 hcc
    refine r_iconst (n := 1) dX10_isSaid_79 ?_
    exact r_zret dX10_isSaid_80 rfl ⟨by decide, by decide⟩ ⟨Nat.zero_le _, Nat.zero_le _⟩ ⟨_, rfl, rfl, hF, hT⟩
  · replace hT := hT.2 hcc
    refine r_aload_n dX10_isSaid_41 rfl (i := 0) rfl ?_
    refine rr_getR (b := (m + 1)) dX10_isSaid_42 fg_X10_7 rfl rfl (wX10_l hm) (wX10_s hm) (wX10_r0 hm) ?_
    refine r_sipush (n := 754) dX10_isSaid_45 (by decide +kernel) ?_
    refine r_iload dX10_isSaid_48 (i := 4) rfl ?_
    refine r_iadd dX10_isSaid_50 ?_
    refine r_iload dX10_isSaid_51 (i := 5) rfl ?_
    refine r_iadd dX10_isSaid_53 ?_
    obtain ⟨hc2, hT⟩ := hT
    refine rr_iaload (v := I (m + 1) ((754 + x4) + x5)) dX10_isSaid_54 (wX10_l0 hm) (wX10_a0 hm) (by decide) hc2 rfl ?_
    refine r_aload_n dX10_isSaid_55 rfl (i := 0) rfl ?_
    refine r_aload_n dX10_isSaid_56 rfl (i := 0) rfl ?_
    refine rr_getR (b := (m + 3)) dX10_isSaid_57 fg_X10_16 rfl rfl (wX10_l hm) (wX10_s hm) (wX10_r2 hm) ?_
    refine r_iload_n dX10_isSaid_60 rfl (i := 3) rfl ?_
    obtain ⟨hc3, hT⟩ := hT
    refine rr_iaload (v := I (m + 3) x3) dX10_isSaid_61 (wX10_l2 hm) (wX10_a2 hm) (by decide) hc3 rfl ?_
    refine r_iload dX10_isSaid_62 (i := 5) rfl ?_
    refine r_iadd dX10_isSaid_64 ?_
    obtain ⟨hc4, hT⟩ := hT
    obtain ⟨hc6, hT⟩ := hT
    refine rr_pVI (A := (jA m)) (v := I (m + 1) (10 + ((I (m + 3) x3) + x5))) (a := m) (as := [VI ((I (m + 3) x3) + x5)]) (st := [VI (I (m + 1) ((754 + x4) + x5))]) dX10_isSaid_65 mt_X10_byteAt ml_X10_120 mi_X10_byteAt rm_X10_isSaid_X10_byteAt jz_X10_byteAt ⟨Nat.zero_le _, Nat.zero_le _⟩ (Nat.le_of_ble_eq_true rfl) (wX10_l hm) (wX10_c hm) (jasI hc4 jas0) ((sp_X10_byteAt hm) hc6) (fun hc5 => ?_)
    refine r_icmp_eq (tgt := 73) dX10_isSaid_68 rfl (hI _ _).inR hc5 (fun hcc => ?_) (fun hcc => ?_)
    · replace hT := hT.1 hcc
      obtain ⟨hc7, hT⟩ := hT
      refine rr_iinc (i := 5) (ls' := [VR m, VI x1, VI x2, VI x3, VI x4, VI (x5 + 1)]) dX10_isSaid_73 rfl (Nat.le_of_ble_eq_true rfl) rfl rfl hc7 ?_
      refine r_goto (tgt := 30) dX10_isSaid_76 rfl ?_
      exact hT I0 hF
    · replace hT := hT.2 hcc
      refine r_iconst (n := 0) dX10_isSaid_71 ?_
      exact r_zret dX10_isSaid_72 rfl ⟨by decide, by decide⟩ ⟨Nat.zero_le _, Nat.zero_le _⟩ ⟨_, rfl, rfl, hF, hT⟩
set_option maxRecDepth 20000 in
theorem st_X10_isSaid_0 {E : jE} {G : jG} {I : jM} {q : Int → jM → Prop} {m : Nat} {x1 : Int} {x2 : Int} {x3 : Int} (hm : WX10 G m) (hT : (∀ a j, jRg (G.2.1 a).1 (I a j)) → jIn x1 → jIn x2 → jIn x3 → (0 ≤ x1 ∧ x1 < 6 ∧ 0 ≤ x2 ∧ x2 < 6 ∧ (0 : Int) ≤ 1 ∧ (1 : Int) < 3) ∧ (0 ≤ x1 ∧ x1 < 6 ∧ 0 ≤ x2 ∧ x2 < 6 ∧ (0 : Int) ≤ 2 ∧ (2 : Int) < 3) ∧ ((0 : Int) ≤ x3 ∧ (x3 : Int) < 200) ∧ (((I (m + 1) (518 + 40 * x1 + 3 * x2 + 2)) = (I (m + 4) x3) → jOI E (jA m) kX10_isSaid 30 [VR m, VI x1, VI x2, VI x3, VI (I (m + 1) (518 + 40 * x1 + 3 * x2 + 1)), VI 0] G I q) ∧ (¬ (I (m + 1) (518 + 40 * x1 + 3 * x2 + 2)) = (I (m + 4) x3) → q 0 I))) : jOI E (jA m) kX10_isSaid 0 [VR m, VI x1, VI x2, VI x3, VN, VN] G I q := by
  intro I0 hF
  refine jOk_mem (fun hI => ?_)
  refine jOk_in (i := 1) rfl (fun hx1 => ?_)
  refine jOk_in (i := 2) rfl (fun hx2 => ?_)
  refine jOk_in (i := 3) rfl (fun hx3 => ?_)
  replace hT := hT hI hx1 hx2 hx3
  refine r_aload_n dX10_isSaid_0 rfl (i := 0) rfl ?_
  refine r_iload_n dX10_isSaid_1 rfl (i := 1) rfl ?_
  refine r_iload_n dX10_isSaid_2 rfl (i := 2) rfl ?_
  refine r_iconst (n := 1) dX10_isSaid_3 ?_
  obtain ⟨hc2, hT⟩ := hT
  refine rr_pVI (A := (jA m)) (v := I (m + 1) (518 + 40 * x1 + 3 * x2 + 1)) (a := m) (as := [VI x1, VI x2, VI 1]) (st := []) dX10_isSaid_4 mt_X10_elementOf ml_X10_131 mi_X10_elementOf rm_X10_isSaid_X10_elementOf jz_X10_elementOf ⟨Nat.zero_le _, Nat.zero_le _⟩ (Nat.le_of_ble_eq_true rfl) (wX10_l hm) (wX10_c hm) (jasI hx1 (jasI hx2 (jasI ⟨by decide, by decide⟩ jas0))) ((sp_X10_elementOf hm) hc2) (fun hc1 => ?_)
  refine rr_istore (i := 4) (ls' := [VR m, VI x1, VI x2, VI x3, VI (I (m + 1) (518 + 40 * x1 + 3 * x2 + 1)), VN]) dX10_isSaid_7 (Nat.le_of_ble_eq_true rfl) rfl rfl hc1 ?_
  refine r_aload_n dX10_isSaid_9 rfl (i := 0) rfl ?_
  refine r_iload_n dX10_isSaid_10 rfl (i := 1) rfl ?_
  refine r_iload_n dX10_isSaid_11 rfl (i := 2) rfl ?_
  refine r_iconst (n := 2) dX10_isSaid_12 ?_
  obtain ⟨hc4, hT⟩ := hT
  refine rr_pVI (A := (jA m)) (v := I (m + 1) (518 + 40 * x1 + 3 * x2 + 2)) (a := m) (as := [VI x1, VI x2, VI 2]) (st := []) dX10_isSaid_13 mt_X10_elementOf ml_X10_131 mi_X10_elementOf rm_X10_isSaid_X10_elementOf jz_X10_elementOf ⟨Nat.zero_le _, Nat.zero_le _⟩ (Nat.le_of_ble_eq_true rfl) (wX10_l hm) (wX10_c hm) (jasI hx1 (jasI hx2 (jasI ⟨by decide, by decide⟩ jas0))) ((sp_X10_elementOf hm) hc4) (fun hc3 => ?_)
  refine r_aload_n dX10_isSaid_16 rfl (i := 0) rfl ?_
  refine rr_getR (b := (m + 4)) dX10_isSaid_17 fg_X10_19 rfl rfl (wX10_l hm) (wX10_s hm) (wX10_r3 hm) ?_
  refine r_iload_n dX10_isSaid_20 rfl (i := 3) rfl ?_
  obtain ⟨hc5, hT⟩ := hT
  refine rr_iaload (v := I (m + 4) x3) dX10_isSaid_21 (wX10_l3 hm) (wX10_a3 hm) (by decide) hc5 rfl ?_
  refine r_icmp_eq (tgt := 27) dX10_isSaid_22 rfl hc3 (hI _ _).inR (fun hcc => ?_) (fun hcc => ?_)
  · replace hT := hT.1 hcc
    refine r_iconst (n := 0) dX10_isSaid_27 ?_
    refine rr_istore (i := 5) (ls' := [VR m, VI x1, VI x2, VI x3, VI (I (m + 1) (518 + 40 * x1 + 3 * x2 + 1)), VI 0]) dX10_isSaid_28 (Nat.le_of_ble_eq_true rfl) rfl rfl ⟨by decide, by decide⟩ ?_
    exact hT I0 hF
  · replace hT := hT.2 hcc
    refine r_iconst (n := 0) dX10_isSaid_25 ?_
    exact r_zret dX10_isSaid_26 rfl ⟨by decide, by decide⟩ ⟨Nat.zero_le _, Nat.zero_le _⟩ ⟨_, rfl, rfl, hF, hT⟩
theorem en_X10_isSaid {E : jE} {G : jG} {I : jM} {q : Int → jM → Prop} {m : Nat} {x1 : Int} {x2 : Int} {x3 : Int} (hm : WX10 G m) (hT : (∀ a j, jRg (G.2.1 a).1 (I a j)) → jIn x1 → jIn x2 → jIn x3 → (0 ≤ x1 ∧ x1 < 6 ∧ 0 ≤ x2 ∧ x2 < 6 ∧ (0 : Int) ≤ 1 ∧ (1 : Int) < 3) ∧ (0 ≤ x1 ∧ x1 < 6 ∧ 0 ≤ x2 ∧ x2 < 6 ∧ (0 : Int) ≤ 2 ∧ (2 : Int) < 3) ∧ ((0 : Int) ≤ x3 ∧ (x3 : Int) < 200) ∧ (((I (m + 1) (518 + 40 * x1 + 3 * x2 + 2)) = (I (m + 4) x3) → jOI E (jA m) kX10_isSaid 30 [VR m, VI x1, VI x2, VI x3, VI (I (m + 1) (518 + 40 * x1 + 3 * x2 + 1)), VI 0] G I q) ∧ (¬ (I (m + 1) (518 + 40 * x1 + 3 * x2 + 2)) = (I (m + 4) x3) → q 0 I))) : jRI E (jA m) kX10_isSaid [VR m, VI x1, VI x2, VI x3] G I q := jRun.of mt_X10_isSaid.2.2.2 2 rfl (fun _ => st_X10_isSaid_0 hm hT I (fun _ _ => rfl))
section RF
variable {E : jE} {G : jG} {m : Nat} {S : Int → Int} {n : Int} {b : Int → Int} {I : jM}
theorem sp_X10_areLike (hm : WX10 G m) (h : TO m S n b I) {t u : Int} (t0 : 0 ≤ t) (t1 : t < n) (u0 : 0 ≤ u) (u1 : u < n) : jRI E (jA m) kX10_areLike [VR m, VI t, VI u] G I (fun x I' => x = jI (like S b t u) ∧ I' = I) := by
  have bt := h.bd t0 t1
  have bu := h.bd u0 u1
  obtain ⟨hS, -, -, -, hrow⟩ := h
  have et := hrow t t0 t1
  have eu := hrow u u0 u1
  have loop : ∀ (d : Nat) (x : Int), 0 ≤ x → x + d = b (t + 1) - b t → b (t + 1) - b t = b (u + 1) - b u → (∀ k, 0 ≤ k → k < x → S (10 + (b t + k)) = S (10 + (b u + k))) → jOI E (jA m) kX10_areLike 19 [VR m, VI t, VI u, VI x] G I (fun x I' => x = jI (like S b t u) ∧ I' = I) := by
    intro d
    induction d with
    | zero =>
      intro x x0 x1 hl hx
      refine st_X10_areLike_19 hm (fun _ _ _ _ => ⟨⟨t0, by omega⟩, fun _ => ⟨(jI_pos ⟨hl, fun k k0 k1 => hx k k0 (by omega)⟩).symm, rfl⟩, fun q => ?_⟩)
      rw [et.2] at q
      omega
    | succ d ih =>
      intro x x0 x1 hl hx
      refine st_X10_areLike_19 hm (fun _ _ _ _ => ⟨⟨t0, by omega⟩, fun q => ?_, fun _ => ?_⟩)
      · rw [et.2] at q
        omega
      · rw [et.1, eu.1, hS]
        refine ⟨⟨t0, by omega⟩, ⟨by omega, by omega⟩, ⟨by omega, by omega⟩, ⟨u0, by omega⟩, ⟨by omega, by omega⟩, ⟨by omega, by omega⟩, fun q => ⟨⟨by omega, by omega⟩, ih (x + 1) (by omega) (by omega) hl (fun k k0 k1 => ?_)⟩, fun q => ⟨(jI_neg (fun g => q (g.2 x x0 (by omega)))).symm, rfl⟩⟩
        by_cases e : k = x
        · rw [e]; exact q
        · exact hx k k0 (by omega)
  refine en_X10_areLike hm (fun _ _ _ => ⟨⟨t0, by omega⟩, ⟨u0, by omega⟩, fun q => ?_, fun q => ⟨(jI_neg (fun g => q ?_)).symm, rfl⟩⟩)
  · rw [et.2, eu.2] at q
    exact loop (b (t + 1) - b t).toNat 0 (by omega) (by omega) q (fun k k0 k1 => by omega)
  · rw [et.2, eu.2]
    exact g.1
theorem sp_X10_isSaid (hm : WX10 G m) (h : TO m S n b I) {r e t : Int} (hr : 0 ≤ r ∧ r < 6) (he : 0 ≤ e ∧ e < 6) (t0 : 0 ≤ t) (t1 : t < n) (hw : 0 ≤ S (518 + 40 * r + 3 * e + 1) ∧ S (518 + 40 * r + 3 * e + 1) + S (518 + 40 * r + 3 * e + 2) ≤ 300) : jRI E (jA m) kX10_isSaid [VR m, VI r, VI e, VI t] G I (fun x I' => x = jI (said S b r e t) ∧ I' = I) := by
  have bt := h.bd t0 t1
  obtain ⟨hS, -, -, -, hrow⟩ := h
  have et := hrow t t0 t1
  have loop : ∀ (d : Nat) (x : Int), 0 ≤ x → x + d = b (t + 1) - b t → S (518 + 40 * r + 3 * e + 2) = b (t + 1) - b t → (∀ k, 0 ≤ k → k < x → S (754 + S (518 + 40 * r + 3 * e + 1) + k) = S (10 + (b t + k))) → jOI E (jA m) kX10_isSaid 30 [VR m, VI r, VI e, VI t, VI (S (518 + 40 * r + 3 * e + 1)), VI x] G I (fun x I' => x = jI (said S b r e t) ∧ I' = I) := by
    intro d
    induction d with
    | zero =>
      intro x x0 x1 hl hx
      refine st_X10_isSaid_30 hm (fun _ _ _ _ _ _ => ⟨⟨t0, by omega⟩, fun _ => ⟨(jI_pos ⟨hl, fun k k0 k1 => hx k k0 (by omega)⟩).symm, rfl⟩, fun q => ?_⟩)
      rw [et.2] at q
      omega
    | succ d ih =>
      intro x x0 x1 hl hx
      refine st_X10_isSaid_30 hm (fun _ _ _ _ _ _ => ⟨⟨t0, by omega⟩, fun q => ?_, fun _ => ?_⟩)
      · rw [et.2] at q
        omega
      · rw [et.1, hS]
        refine ⟨⟨by omega, by omega⟩, ⟨t0, by omega⟩, ⟨by omega, by omega⟩, ⟨by omega, by omega⟩, fun q => ⟨⟨by omega, by omega⟩, ih (x + 1) (by omega) (by omega) hl (fun k k0 k1 => ?_)⟩, fun q => ⟨(jI_neg (fun g => q (g.2 x x0 (by omega)))).symm, rfl⟩⟩
        by_cases e : k = x
        · rw [e]; exact q
        · exact hx k k0 (by omega)
  refine en_X10_isSaid hm (fun _ _ _ _ => ⟨⟨hr.1, hr.2, he.1, he.2, by decide, by decide⟩, ⟨hr.1, hr.2, he.1, he.2, by decide, by decide⟩, ⟨t0, by omega⟩, fun q => ?_, fun q => ⟨(jI_neg (fun g => q ?_)).symm, rfl⟩⟩)
  · rw [et.2, hS] at q
    rw [hS]
    exact loop (b (t + 1) - b t).toNat 0 (by omega) (by omega) q (fun k k0 k1 => by omega)
  · rw [et.2, hS]
    exact g.1
end RF
