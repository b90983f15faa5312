/-! ===== what a rule writes ===== -/
def pw : Nat → Int
  | 0 => 1
  | c + 1 => 10 * pw c
theorem pw_pos (c : Nat) : 1 ≤ pw c := by
  induction c with
  | zero => decide
  | succ c ih => show 1 ≤ 10 * pw c; omega
theorem pw_le : ∀ c, c ≤ 9 → pw c ≤ 1000000000 := by decide
/-- the value of the first c figures of T -/
def nv (T : Int → Int) : Nat → Int
  | 0 => 0
  | c + 1 => 10 * nv T c + T c - 48
theorem nv_bd {T : Int → Int} {L : Int} (h : ∀ k, 0 ≤ k → k < L → 48 ≤ T k ∧ T k ≤ 57) : ∀ c : Nat, (c : Int) ≤ L → 0 ≤ nv T c ∧ nv T c + 1 ≤ pw c := by
  intro c
  induction c with
  | zero => intro _; exact ⟨Int.le_refl 0, Int.le_refl 1⟩
  | succ c ih =>
    intro hc
    have g := ih (by omega)
    have g2 := h c (by omega) (by omega)
    show 0 ≤ 10 * nv T c + T c - 48 ∧ 10 * nv T c + T c - 48 + 1 ≤ 10 * pw c
    omega
/-- how many figures but one -/
def tn : Nat → Nat → Int → Nat
  | 0, j, _ => j
  | d + 1, j, v => if v.tdiv (pw j) ≤ 9 then j else tn d (j + 1) v
def decL : Nat → Int → List Int
  | 0, v => [48 + (v.tdiv 1).tmod 10]
  | j + 1, v => (48 + (v.tdiv (pw (j + 1))).tmod 10) :: decL j v
def num (v : Int) : List Int := decL (tn 9 0 v) v
theorem tn_le : ∀ (d j : Nat) (v : Int), tn d j v ≤ d + j := by
  intro d
  induction d with
  | zero => intro j v; show j ≤ 0 + j; omega
  | succ d ih =>
    intro j v
    unfold tn
    split
    · omega
    · have := ih (j + 1) v; omega
theorem decL_len (v : Int) : ∀ j, (decL j v).length = j + 1 := by
  intro j
  induction j with
  | zero => rfl
  | succ j ih => simp [decL, ih]
theorem num_len (v : Int) : (num v).length ≤ 10 := by
  unfold num
  rw [decL_len]
  have := tn_le 9 0 v
  omega
/-- the bytes f 0, f 1 .. of a stretch -/
def stretch (f : Int → Int) (L : Int) : List Int := (List.range L.toNat).map (fun k : Nat => f (k : Int))
theorem stretch_len (f : Int → Int) (L : Int) : (stretch f L).length = L.toNat := by simp [stretch]
theorem stretch_succ (f : Int → Int) {L : Int} (h : 0 ≤ L) : stretch f (L + 1) = stretch f L ++ [f L] := by
  unfold stretch
  have e : (L + 1).toNat = L.toNat + 1 := by omega
  rw [e, List.range_succ, List.map_append]
  simp
  congr 1
  omega
theorem stretch_zero (f : Int → Int) : stretch f 0 = [] := rfl
/-- the first element with a name -/
def isK (S : Int → Int) (r k e0 : Int) : Prop := 0 ≤ e0 ∧ e0 < S (516 + 40 * r) ∧ key S r e0 = k ∧ ∀ e', 0 ≤ e' → e' < e0 → key S r e' ≠ k
theorem isK.uniq {S : Int → Int} {r k e e' : Int} (h : isK S r k e) (h' : isK S r k e') : e = e' := by
  rcases Int.lt_trichotomy e e' with g | g | g
  · exact absurd h.2.2.1 (h'.2.2.2 e h.1 g)
  · exact g
  · exact absurd h'.2.2.1 (h.2.2.2 e' h'.1 g)
noncomputable def fk (S : Int → Int) (r k : Int) : Int := Classical.epsilon (fun e => isK S r k e)
theorem fk_is {S : Int → Int} {r k : Int} (h : ∃ e, isK S r k e) : isK S r k (fk S r k) := Classical.epsilon_spec h
theorem fk_eq {S : Int → Int} {r k e : Int} (h : isK S r k e) : fk S r k = e := (fk_is ⟨e, h⟩).uniq h
theorem isK_of {S : Int → Int} {r k e : Int} (h0 : 0 ≤ e) (h1 : e < S (516 + 40 * r)) (h2 : key S r e = k) : isK S r k (fk S r k) := by
  obtain ⟨e0, g0, g1, g2, g3⟩ := firstInt (P := fun x => key S r x = k) ⟨e, h0, h1, h2⟩
  exact fk_is ⟨e0, g0, g1, g2, g3⟩
/-- what a part writes, the rule fitting from token t on -/
noncomputable def pout (S b : Int → Int) (r t p : Int) : List Int :=
  if S (536 + 40 * r + 3 * p + 0) = 4 then stretch (fun k => S (754 + S (536 + 40 * r + 3 * p + 1) + k)) (S (536 + 40 * r + 3 * p + 2))
  else
    let u := t + fk S r (4 * pbase (S (536 + 40 * r + 3 * p + 0)) + S (536 + 40 * r + 3 * p + 1))
    if (S (536 + 40 * r + 3 * p + 0) = 5 ∨ S (536 + 40 * r + 3 * p + 0) = 6) ∧ b (u + 1) - b u ≤ 9 then num (max 0 (nv (fun k => S (10 + (b u + k))) (b (u + 1) - b u).toNat + (if S (536 + 40 * r + 3 * p + 0) = 5 then 1 else -1)))
    else if S (536 + 40 * r + 3 * p + 0) = 7 then stretch (fun k => S (10 + (b u + (b (u + 1) - b u - 1 - k)))) (b (u + 1) - b u)
    else stretch (fun k => S (10 + (b u + k))) (b (u + 1) - b u)
/-- what the first c parts write -/
noncomputable def pouts (S b : Int → Int) (r t : Int) : Nat → List Int
  | 0 => []
  | c + 1 => pouts S b r t c ++ pout S b r t c
noncomputable def Out (S b : Int → Int) (r t : Int) : List Int := pouts S b r t (S (517 + 40 * r)).toNat
/-- the list lies in the reference's row out -/
def OI (m : Nat) (I : jM) (L : List Int) : Prop := I m 7 = L.length ∧ ∀ i : Nat, i < L.length → I (m + 6) i = L.getD i 0
/-- what writing may write -/
def WO (m : Nat) (I I' : jM) : Prop := ∀ a j, a ≠ m + 6 → (a ≠ m ∨ j ≠ 7) → I' a j = I a j
theorem WO.trans {m : Nat} {I I' I'' : jM} (h : WO m I I') (h' : WO m I' I'') : WO m I I'' := fun a j ha hb => (h' a j ha hb).trans (h a j ha hb)
theorem WO.rfl {m : Nat} {I : jM} : WO m I I := fun _ _ _ _ => Eq.refl _
theorem TO.wo {m : Nat} {S : Int → Int} {n : Int} {b : Int → Int} {I I' : jM} (h : TO m S n b I) (hw : WO m I I') : TO m S n b I' := by
  refine ⟨?_, h.2.1, h.2.2.1, ?_, fun u u0 u1 => ?_⟩
  · rw [← h.1]
    funext j
    exact hw _ _ (by omega) (by omega)
  · rw [hw _ _ (by omega) (by omega)]
    exact h.2.2.2.1
  · rw [hw _ _ (by omega) (by omega), hw _ _ (by omega) (by omega)]
    exact h.2.2.2.2 u u0 u1
set_option maxRecDepth 20000 in
theorem st_X10_write_0 {E : jE} {G : jG} {I : jM} {q : jM → Prop} {m : Nat} {x1 : Int} (hm : WX10 G m) (hT : (∀ a j, jRg (G.2.1 a).1 (I a j)) → jIn x1 → ((0 : Int) ≤ (I m 7) ∧ ((I m 7) : Int) < 2000) ∧ (∀ M2, M2 = jup I (m + 6) (I m 7) x1 → jIn ((I m 7) + 1) ∧ (∀ M3, M3 = jup M2 m 7 ((I m 7) + 1) → q M3))) : jOV E (jA m) kX10_write 0 [VR m, VI x1] G I q := by
  intro I0 hF
  refine jOk_mem (fun hI => ?_)
  refine jOk_in (i := 1) rfl (fun hx1 => ?_)
  replace hT := hT hI hx1
  refine r_aload_n dX10_write_0 rfl (i := 0) rfl ?_
  refine rr_getR (b := (m + 6)) dX10_write_1 fg_X10_25 rfl rfl (wX10_l hm) (wX10_s hm) (wX10_r6 hm) ?_
  refine r_aload_n dX10_write_4 rfl (i := 0) rfl ?_
  refine rr_getI (v := I m 7) dX10_write_5 fg_X10_148 rfl (wX10_l hm) (wX10_s hm) rfl ?_
  refine r_iload_n dX10_write_8 rfl (i := 1) rfl ?_
  obtain ⟨hc1, hT⟩ := hT
  refine rr_iastore dX10_write_9 (wX10_l6 hm) (wX10_a6 hm) (by decide) hc1 hx1 (fun M2 eM2 => ?_)
  have hFM2 := jFr_up hF eM2 (wX10_f hm 6 (by decide))
  replace hT := hT M2 eM2
  refine jOk_mem (fun hIM2 => ?_)
  refine r_aload_n dX10_write_10 rfl (i := 0) rfl ?_
  refine r_dup dX10_write_11 rfl ?_
  refine rr_getI (v := I m 7) dX10_write_12 fg_X10_148 rfl (wX10_l hm) (wX10_s hm) (jr_na eM2 (by omega)) ?_
  refine r_iconst (n := 1) dX10_write_15 ?_
  refine r_iadd dX10_write_16 ?_
  obtain ⟨hc4, hT⟩ := hT
  refine rr_putI (jj := 7) dX10_write_17 fp_X10_148 rfl rfl (wX10_l hm) (wX10_s hm) hc4 (fun M3 eM3 => ?_)
  have hFM3 := jFr_up hFM2 eM3 (wX10_f hm 0 (by decide))
  replace hT := hT M3 eM3
  refine jOk_mem (fun hIM3 => ?_)
  exact r_vret dX10_write_20 rfl ⟨Nat.zero_le _, Nat.zero_le _⟩ ⟨rfl, rfl, hFM3, hT⟩
theorem en_X10_write {E : jE} {G : jG} {I : jM} {q : jM → Prop} {m : Nat} {x1 : Int} (hm : WX10 G m) (hT : (∀ a j, jRg (G.2.1 a).1 (I a j)) → jIn x1 → ((0 : Int) ≤ (I m 7) ∧ ((I m 7) : Int) < 2000) ∧ (∀ M2, M2 = jup I (m + 6) (I m 7) x1 → jIn ((I m 7) + 1) ∧ (∀ M3, M3 = jup M2 m 7 ((I m 7) + 1) → q M3))) : jRV E (jA m) kX10_write [VR m, VI x1] G I q := jRun.of mt_X10_write.2.2.2 0 rfl (fun _ => st_X10_write_0 hm hT I (fun _ _ => rfl))
set_option maxRecDepth 20000 in
theorem st_X10_writeNumber_84 {E : jE} {G : jG} {I : jM} {q : jM → Prop} {m : Nat} {x1 : Int} {x2 : Int} {x3 : Int} {x4 : Int} {x5 : Int} (hm : WX10 G m) (hT : (∀ a j, jRg (G.2.1 a).1 (I a j)) → jIn x1 → jIn x2 → jIn x3 → jIn x4 → jIn x5 → ((x5 ≤ 0 → q I) ∧ (¬ x5 ≤ 0 → x5 ≠ 0 ∧ jIn (Int.tdiv x3 x5) ∧ jIn (48 + (Int.tmod (Int.tdiv x3 x5) 10)) ∧ jRV E (jA m) kX10_write [VR m, VI (48 + (Int.tmod (Int.tdiv x3 x5) 10))] G I (fun I5 => jIn (Int.tdiv x5 10) ∧ jOV E (jA m) kX10_writeNumber 84 [VR m, VI x1, VI x2, VI x3, VI x4, VI (Int.tdiv x5 10)] G I5 q)))) : jOV E (jA m) kX10_writeNumber 84 [VR m, VI x1, VI x2, VI x3, VI x4, VI x5] G I q := by
  intro I0 hF
  refine jOk_mem (fun hI => ?_)
  refine jOk_in (i := 1) rfl (fun hx1 => ?_)
  refine jOk_in (i := 2) rfl (fun hx2 => ?_)
  refine jOk_in (i := 3) rfl (fun hx3 => ?_)
  refine jOk_in (i := 4) rfl (fun hx4 => ?_)
  refine jOk_in (i := 5) rfl (fun hx5 => ?_)
  replace hT := hT hI hx1 hx2 hx3 hx4 hx5
  refine r_iload dX10_writeNumber_84 (i := 5) rfl ?_
  refine r_if_le (tgt := 113) dX10_writeNumber_86 rfl hx5 (fun hcc => ?_) (fun hcc => ?_)
  · replace hT := hT.1 hcc
    exact r_vret dX10_writeNumber_113 rfl ⟨Nat.zero_le _, Nat.zero_le _⟩ ⟨rfl, rfl, hF, hT⟩
  · replace hT := hT.2 hcc
    refine r_aload_n dX10_writeNumber_89 rfl (i := 0) rfl ?_
    refine r_bipush (n := 48) dX10_writeNumber_90 (by decide +kernel) ?_
    refine r_iload_n dX10_writeNumber_92 rfl (i := 3) rfl ?_
    refine r_iload dX10_writeNumber_93 (i := 5) rfl ?_
    obtain ⟨hc1, hT⟩ := hT
    refine r_idiv dX10_writeNumber_95 hx3 hx5 hc1 ?_
    refine r_bipush (n := 10) dX10_writeNumber_96 (by decide +kernel) ?_
    obtain ⟨hc2, hT⟩ := hT
    refine r_irem dX10_writeNumber_98 hc2 ⟨by decide, by decide⟩ (by decide) ?_
    refine r_iadd dX10_writeNumber_99 ?_
    obtain ⟨hc4, hT⟩ := hT
    refine rr_cVV (a := m) (as := [VI (48 + (Int.tmod (Int.tdiv x3 x5) 10))]) (st := []) dX10_writeNumber_100 mt_X10_write ml_X10_151 mi_X10_write rm_X10_writeNumber_X10_write jz_X10_write ⟨Nat.zero_le _, Nat.zero_le _⟩ (Nat.le_of_ble_eq_true rfl) (wX10_l hm) (wX10_c hm) (jasI hc4 jas0) hT (fun I5 hFI5 hT => ?_)
    replace hFI5 := jFr_tr hF hFI5
    refine jOk_mem (fun hI5 => ?_)
    refine r_iload dX10_writeNumber_103 (i := 5) rfl ?_
    refine r_bipush (n := 10) dX10_writeNumber_105 (by decide +kernel) ?_
    refine r_idiv dX10_writeNumber_107 hx5 ⟨by decide, by decide⟩ (by decide) ?_
    obtain ⟨hc7, hT⟩ := hT
    refine rr_istore (i := 5) (ls' := [VR m, VI x1, VI x2, VI x3, VI x4, VI (Int.tdiv x5 10)]) dX10_writeNumber_108 (Nat.le_of_ble_eq_true rfl) rfl rfl hc7 ?_
    refine r_goto (tgt := 84) dX10_writeNumber_110 rfl ?_
    exact hT I0 hFI5
set_option maxRecDepth 20000 in
theorem st_X10_writeNumber_61 {E : jE} {G : jG} {I : jM} {q : jM → Prop} {m : Nat} {x1 : Int} {x2 : Int} {x3 : Int} {x4 : Int} (hm : WX10 G m) (hT : (∀ a j, jRg (G.2.1 a).1 (I a j)) → jIn x1 → jIn x2 → jIn x3 → jIn x4 → x4 ≠ 0 ∧ jIn (Int.tdiv x3 x4) ∧ (((Int.tdiv x3 x4) ≤ 9 → jOV E (jA m) kX10_writeNumber 84 [VR m, VI x1, VI x2, VI x3, VI x4, VI x4] G I q) ∧ (¬ (Int.tdiv x3 x4) ≤ 9 → jIn (x4 * 10) ∧ jOV E (jA m) kX10_writeNumber 61 [VR m, VI x1, VI x2, VI x3, VI (x4 * 10), VN] G I q))) : jOV E (jA m) kX10_writeNumber 61 [VR m, VI x1, VI x2, VI x3, VI x4, VN] G I q := by
  intro I0 hF
  refine jOk_mem (fun hI => ?_)
  refine jOk_in (i := 1) rfl (fun hx1 => ?_)
  refine jOk_in (i := 2) rfl (fun hx2 => ?_)
  refine jOk_in (i := 3) rfl (fun hx3 => ?_)
  refine jOk_in (i := 4) rfl (fun hx4 => ?_)
  replace hT := hT hI hx1 hx2 hx3 hx4
  refine r_iload_n dX10_writeNumber_61 rfl (i := 3) rfl ?_
  refine r_iload dX10_writeNumber_62 (i := 4) rfl ?_
  obtain ⟨hc1, hT⟩ := hT
  refine r_idiv dX10_writeNumber_64 hx3 hx4 hc1 ?_
  refine r_bipush (n := 9) dX10_writeNumber_65 (by decide +kernel) ?_
  obtain ⟨hc2, hT⟩ := hT
  refine r_icmp_le (tgt := 80) dX10_writeNumber_67 rfl hc2 ⟨by decide, by decide⟩ (fun hcc => ?_) (fun hcc => ?_)
  · replace hT := hT.1 hcc
    refine r_iload dX10_writeNumber_80 (i := 4) rfl ?_
    refine rr_istore (i := 5) (ls' := [VR m, VI x1, VI x2, VI x3, VI x4, VI x4]) dX10_writeNumber_82 (Nat.le_of_ble_eq_true rfl) rfl rfl hx4 ?_
    exact hT I0 hF
  · replace hT := hT.2 hcc
    refine r_iload dX10_writeNumber_70 (i := 4) rfl ?_
    refine r_bipush (n := 10) dX10_writeNumber_72 (by decide +kernel) ?_
    refine r_imul dX10_writeNumber_74 ?_
    obtain ⟨hc3, hT⟩ := hT
    refine rr_istore (i := 4) (ls' := [VR m, VI x1, VI x2, VI x3, VI (x4 * 10), VN]) dX10_writeNumber_75 (Nat.le_of_ble_eq_true rfl) rfl rfl hc3 ?_
    refine r_goto (tgt := 61) dX10_writeNumber_77 rfl ?_
    exact hT I0 hF
set_option maxRecDepth 20000 in
theorem st_X10_writeNumber_5 {E : jE} {G : jG} {I : jM} {q : jM → Prop} {m : Nat} {x1 : Int} {x2 : Int} {x3 : Int} {x4 : Int} (hm : WX10 G m) (hT : (∀ a j, jRg (G.2.1 a).1 (I a j)) → jIn x1 → jIn x2 → jIn x3 → jIn x4 → ((0 : Int) ≤ x1 ∧ (x1 : Int) < 200) ∧ (((I (m + 4) x1) ≤ x4 → jIn (x3 + x2) ∧ ((0 ≤ (x3 + x2) → jIn (x3 + x2) ∧ jOV E (jA m) kX10_writeNumber 61 [VR m, VI x1, VI x2, VI (x3 + x2), VI 1, VN] G I q) ∧ (¬ 0 ≤ (x3 + x2) → jOV E (jA m) kX10_writeNumber 61 [VR m, VI x1, VI x2, VI 0, VI 1, VN] G I q))) ∧ (¬ (I (m + 4) x1) ≤ x4 → ((0 : Int) ≤ x1 ∧ (x1 : Int) < 200) ∧ jIn ((I (m + 3) x1) + x4) ∧ (0 ≤ 10 + ((I (m + 3) x1) + x4) ∧ 10 + ((I (m + 3) x1) + x4) < 22094) ∧ jIn (((10 * x3) + (I (m + 1) (10 + ((I (m + 3) x1) + x4)))) - 48) ∧ jIn (x4 + 1) ∧ jOV E (jA m) kX10_writeNumber 5 [VR m, VI x1, VI x2, VI (((10 * x3) + (I (m + 1) (10 + ((I (m + 3) x1) + x4)))) - 48), VI (x4 + 1), VN] G I q))) : jOV E (jA m) kX10_writeNumber 5 [VR m, VI x1, VI x2, VI x3, VI x4, VN] G I q := by
  intro I0 hF
  refine jOk_mem (fun hI => ?_)
  refine jOk_in (i := 1) rfl (fun hx1 => ?_)
  refine jOk_in (i := 2) rfl (fun hx2 => ?_)
  refine jOk_in (i := 3) rfl (fun hx3 => ?_)
  refine jOk_in (i := 4) rfl (fun hx4 => ?_)
  replace hT := hT hI hx1 hx2 hx3 hx4
  refine r_iload dX10_writeNumber_5 (i := 4) rfl ?_
  refine r_aload_n dX10_writeNumber_7 rfl (i := 0) rfl ?_
  refine rr_getR (b := (m + 4)) dX10_writeNumber_8 fg_X10_19 rfl rfl (wX10_l hm) (wX10_s hm) (wX10_r3 hm) ?_
  refine r_iload_n dX10_writeNumber_11 rfl (i := 1) rfl ?_
  obtain ⟨hc1, hT⟩ := hT
  refine rr_iaload (v := I (m + 4) x1) dX10_writeNumber_12 (wX10_l3 hm) (wX10_a3 hm) (by decide) hc1 rfl ?_
  refine r_icmp_ge (tgt := 44) dX10_writeNumber_13 rfl hx4 (hI _ _).inR (fun hcc => ?_) (fun hcc => ?_)
  · replace hT := hT.1 hcc
    refine r_iload_n dX10_writeNumber_44 rfl (i := 3) rfl ?_
    refine r_iload_n dX10_writeNumber_45 rfl (i := 2) rfl ?_
    refine r_iadd dX10_writeNumber_46 ?_
    obtain ⟨hc2, hT⟩ := hT
    refine r_if_ge (tgt := 54) dX10_writeNumber_47 rfl hc2 (fun hcc => ?_) (fun hcc => ?_)
    · replace hT := hT.1 hcc
      refine r_iload_n dX10_writeNumber_54 rfl (i := 3) rfl ?_
      refine r_iload_n dX10_writeNumber_55 rfl (i := 2) rfl ?_
      refine r_iadd dX10_writeNumber_56 ?_
      obtain ⟨hc3, hT⟩ := hT
      refine rr_istore_n (i := 3) (ls' := [VR m, VI x1, VI x2, VI (x3 + x2), VI x4, VN]) dX10_writeNumber_57 rfl (Nat.le_of_ble_eq_true rfl) rfl rfl hc3 ?_
      refine r_iconst (n := 1) dX10_writeNumber_58 ?_
      refine rr_istore (i := 4) (ls' := [VR m, VI x1, VI x2, VI (x3 + x2), VI 1, VN]) dX10_writeNumber_59 (Nat.le_of_ble_eq_true rfl) rfl rfl ⟨by decide, by decide⟩ ?_
      exact hT I0 hF
    · replace hT := hT.2 hcc
      refine r_iconst (n := 0) dX10_writeNumber_50 ?_
      refine r_goto (tgt := 57) dX10_writeNumber_51 rfl ?_
      refine rr_istore_n (i := 3) (ls' := [VR m, VI x1, VI x2, VI 0, VI x4, VN]) dX10_writeNumber_57 rfl (Nat.le_of_ble_eq_true rfl) rfl rfl ⟨by decide, by decide⟩ ?_
      refine r_iconst (n := 1) dX10_writeNumber_58 ?_
      refine rr_istore (i := 4) (ls' := [VR m, VI x1, VI x2, VI 0, VI 1, VN]) dX10_writeNumber_59 (Nat.le_of_ble_eq_true rfl) rfl rfl ⟨by decide, by decide⟩ ?_
      exact hT I0 hF
  · replace hT := hT.2 hcc
    refine r_bipush (n := 10) dX10_writeNumber_16 (by decide +kernel) ?_
    refine r_iload_n dX10_writeNumber_18 rfl (i := 3) rfl ?_
    refine r_imul dX10_writeNumber_19 ?_
    refine r_aload_n dX10_writeNumber_20 rfl (i := 0) rfl ?_
    refine r_aload_n dX10_writeNumber_21 rfl (i := 0) rfl ?_
    refine rr_getR (b := (m + 3)) dX10_writeNumber_22 fg_X10_16 rfl rfl (wX10_l hm) (wX10_s hm) (wX10_r2 hm) ?_
    refine r_iload_n dX10_writeNumber_25 rfl (i := 1) rfl ?_
    obtain ⟨hc4, hT⟩ := hT
    refine rr_iaload (v := I (m + 3) x1) dX10_writeNumber_26 (wX10_l2 hm) (wX10_a2 hm) (by decide) hc4 rfl ?_
    refine r_iload dX10_writeNumber_27 (i := 4) rfl ?_
    refine r_iadd dX10_writeNumber_29 ?_
    obtain ⟨hc5, hT⟩ := hT
    obtain ⟨hc7, hT⟩ := hT
    refine rr_pVI (A := (jA m)) (v := I (m + 1) (10 + ((I (m + 3) x1) + x4))) (a := m) (as := [VI ((I (m + 3) x1) + x4)]) (st := [VI (10 * x3)]) dX10_writeNumber_30 mt_X10_byteAt ml_X10_120 mi_X10_byteAt rm_X10_writeNumber_X10_byteAt jz_X10_byteAt ⟨Nat.zero_le _, Nat.zero_le _⟩ (Nat.le_of_ble_eq_true rfl) (wX10_l hm) (wX10_c hm) (jasI hc5 jas0) ((sp_X10_byteAt hm) hc7) (fun hc6 => ?_)
    refine r_iadd dX10_writeNumber_33 ?_
    refine r_bipush (n := 48) dX10_writeNumber_34 (by decide +kernel) ?_
    refine r_isub dX10_writeNumber_36 ?_
    obtain ⟨hc8, hT⟩ := hT
    refine rr_istore_n (i := 3) (ls' := [VR m, VI x1, VI x2, VI (((10 * x3) + (I (m + 1) (10 + ((I (m + 3) x1) + x4)))) - 48), VI x4, VN]) dX10_writeNumber_37 rfl (Nat.le_of_ble_eq_true rfl) rfl rfl hc8 ?_
    obtain ⟨hc9, hT⟩ := hT
    refine rr_iinc (i := 4) (ls' := [VR m, VI x1, VI x2, VI (((10 * x3) + (I (m + 1) (10 + ((I (m + 3) x1) + x4)))) - 48), VI (x4 + 1), VN]) dX10_writeNumber_38 rfl (Nat.le_of_ble_eq_true rfl) rfl rfl hc9 ?_
    refine r_goto (tgt := 5) dX10_writeNumber_41 rfl ?_
    exact hT I0 hF
set_option maxRecDepth 20000 in
theorem st_X10_writeNumber_0 {E : jE} {G : jG} {I : jM} {q : jM → Prop} {m : Nat} {x1 : Int} {x2 : Int} (hm : WX10 G m) (hT : (∀ a j, jRg (G.2.1 a).1 (I a j)) → jIn x1 → jIn x2 → jOV E (jA m) kX10_writeNumber 5 [VR m, VI x1, VI x2, VI 0, VI 0, VN] G I q) : jOV E (jA m) kX10_writeNumber 0 [VR m, VI x1, VI x2, VN, VN, VN] G I q := by
  intro I0 hF
  refine jOk_mem (fun hI => ?_)
  refine jOk_in (i := 1) rfl (fun hx1 => ?_)
  refine jOk_in (i := 2) rfl (fun hx2 => ?_)
  replace hT := hT hI hx1 hx2
  refine r_iconst (n := 0) dX10_writeNumber_0 ?_
  refine rr_istore_n (i := 3) (ls' := [VR m, VI x1, VI x2, VI 0, VN, VN]) dX10_writeNumber_1 rfl (Nat.le_of_ble_eq_true rfl) rfl rfl ⟨by decide, by decide⟩ ?_
  refine r_iconst (n := 0) dX10_writeNumber_2 ?_
  refine rr_istore (i := 4) (ls' := [VR m, VI x1, VI x2, VI 0, VI 0, VN]) dX10_writeNumber_3 (Nat.le_of_ble_eq_true rfl) rfl rfl ⟨by decide, by decide⟩ ?_
  exact hT I0 hF
theorem en_X10_writeNumber {E : jE} {G : jG} {I : jM} {q : jM → Prop} {m : Nat} {x1 : Int} {x2 : Int} (hm : WX10 G m) (hT : (∀ a j, jRg (G.2.1 a).1 (I a j)) → jIn x1 → jIn x2 → jOV E (jA m) kX10_writeNumber 5 [VR m, VI x1, VI x2, VI 0, VI 0, VN] G I q) : jRV E (jA m) kX10_writeNumber [VR m, VI x1, VI x2] G I q := jRun.of mt_X10_writeNumber.2.2.2 3 rfl (fun _ => st_X10_writeNumber_0 hm hT I (fun _ _ => rfl))
section RO
variable {E : jE} {G : jG} {m : Nat} {S : Int → Int} {n : Int} {b : Int → Int} {I : jM}
theorem sp_X10_write (hm : WX10 G m) {L : List Int} (h : OI m I L) (hl : L.length < 2000) {c : Int} : jRV E (jA m) kX10_write [VR m, VI c] G I (fun I' => OI m I' (L ++ [c]) ∧ WO m I I') := by
  refine en_X10_write hm (fun _ _ => ?_)
  rw [h.1]
  refine ⟨⟨by omega, by omega⟩, fun M2 eM2 => ⟨⟨by omega, by omega⟩, fun M3 eM3 => ⟨⟨?_, fun i hi => ?_⟩, fun a j ha hb => ?_⟩⟩⟩
  · rw [jr_eq eM3, List.length_append]
    simp
  · rw [jr_na eM3 (by omega)]
    rw [List.length_append] at hi
    simp at hi
    by_cases e : i = L.length
    · rw [e, jr_eq eM2]
      simp
    · rw [jr_nj eM2 (by omega), h.2 i (by omega), List.getD_eq_getElem?_getD, List.getD_eq_getElem?_getD, List.getElem?_append_left (by omega)]
  · have e : M3 a j = M2 a j := by
      rcases hb with hb | hb
      · exact jr_na eM3 hb
      · exact jr_nj eM3 hb
    rw [e, jr_na eM2 ha]
theorem writeNumber_dec (hm : WX10 G m) {x1 x2 v x4 : Int} (hv : 0 ≤ v ∧ v ≤ 1000000000) {q : jM → Prop} : ∀ (j : Nat) (L : List Int) (I : jM), j ≤ 9 → OI m I L → L.length + j + 1 ≤ 2000 → (∀ I', OI m I' (L ++ decL j v) → WO m I I' → q I') → jOV E (jA m) kX10_writeNumber 84 [VR m, VI x1, VI x2, VI v, VI x4, VI (pw j)] G I q := by
  intro j
  induction j with
  | zero =>
    intro L I hj hO hl hq
    refine st_X10_writeNumber_84 hm (fun _ _ _ _ _ _ => ⟨fun q => absurd q (by decide), fun _ => ⟨by decide, ?_⟩⟩)
    have e1 : v.tdiv (pw 0) = v := by show v.tdiv 1 = v; exact Int.tdiv_one v
    rw [e1]
    have g1 := Int.tmod_lt_of_pos v (b := 10) (by decide)
    have g2 := Int.tmod_nonneg (a := v) 10 hv.1
    refine ⟨⟨by omega, by omega⟩, ⟨by omega, by omega⟩, ?_⟩
    refine (sp_X10_write hm hO (by omega)).mono (fun I5 _ h5 => ⟨⟨by decide, by decide⟩, ?_⟩)
    refine st_X10_writeNumber_84 hm (fun _ _ _ _ _ _ => ⟨fun _ => hq I5 ?_ h5.2, fun q => absurd (by decide) q⟩)
    have e2 : decL 0 v = [48 + v.tmod 10] := by show [48 + (v.tdiv 1).tmod 10] = _; rw [Int.tdiv_one]
    rw [e2]
    exact h5.1
  | succ j ih =>
    intro L I hj hO hl hq
    have p1 := pw_pos (j + 1)
    have p2 := pw_pos j
    have p3 := pw_le (j + 1) hj
    have d0 : 0 ≤ v.tdiv (pw (j + 1)) := Int.tdiv_nonneg hv.1 (by omega)
    have d1 : v.tdiv (pw (j + 1)) ≤ v := by
      have := Int.tdiv_le_self (pw (j + 1)) hv.1
      exact this
    have g1 := Int.tmod_lt_of_pos (v.tdiv (pw (j + 1))) (b := 10) (by decide)
    have g2 := Int.tmod_nonneg (a := v.tdiv (pw (j + 1))) 10 d0
    refine st_X10_writeNumber_84 hm (fun _ _ _ _ _ _ => ⟨fun q => by omega, fun _ => ⟨by omega, ⟨by omega, by omega⟩, ⟨by omega, by omega⟩, ?_⟩⟩)
    refine (sp_X10_write hm hO (by omega)).mono (fun I5 _ h5 => ?_)
    have e1 : (pw (j + 1)).tdiv 10 = pw j := by
      show (10 * pw j).tdiv 10 = pw j
      exact Int.mul_tdiv_cancel_left _ (by decide)
    rw [e1]
    refine ⟨⟨by omega, by have := pw_le j (by omega); omega⟩, ih (L ++ [48 + (v.tdiv (pw (j + 1))).tmod 10]) I5 (by omega) h5.1 (by simp; omega) (fun I' h6 h7 => hq I' ?_ (h5.2.trans h7))⟩
    rw [List.append_assoc] at h6
    exact h6
theorem writeNumber_ten (hm : WX10 G m) {x1 x2 v : Int} (hv : 0 ≤ v ∧ v ≤ 1000000000) {q : jM → Prop} {L : List Int} (hO : OI m I L) (hl : L.length + 10 ≤ 2000) (hq : ∀ I', OI m I' (L ++ num v) → WO m I I' → q I') : ∀ (d j : Nat), j + d = 9 → tn d j v = tn 9 0 v → jOV E (jA m) kX10_writeNumber 61 [VR m, VI x1, VI x2, VI v, VI (pw j), VN] G I q := by
  intro d
  induction d with
  | zero =>
    intro j hj ht
    have p1 := pw_pos j
    have d0 : 0 ≤ v.tdiv (pw j) := Int.tdiv_nonneg hv.1 (by omega)
    have d1 : v.tdiv (pw j) ≤ v := Int.tdiv_le_self (pw j) hv.1
    have e9 : j = 9 := by omega
    refine st_X10_writeNumber_61 hm (fun _ _ _ _ _ => ⟨by omega, ⟨by omega, by omega⟩, fun _ => ?_, fun q => ?_⟩)
    · refine writeNumber_dec hm hv j L I (by omega) hO (by omega) (fun I' h1 h2 => hq I' ?_ h2)
      unfold num
      rw [← ht]
      exact h1
    · exfalso
      apply q
      subst e9
      have : v.tdiv (pw 9) ≤ (1000000000 : Int).tdiv (pw 9) := Int.tdiv_le_tdiv (by decide) hv.2
      have e : (1000000000 : Int).tdiv (pw 9) = 1 := by decide
      omega
  | succ d ih =>
    intro j hj ht
    have p1 := pw_pos j
    have p3 := pw_le j (by omega)
    have d0 : 0 ≤ v.tdiv (pw j) := Int.tdiv_nonneg hv.1 (by omega)
    have d1 : v.tdiv (pw j) ≤ v := Int.tdiv_le_self (pw j) hv.1
    refine st_X10_writeNumber_61 hm (fun _ _ _ _ _ => ⟨by omega, ⟨by omega, by omega⟩, fun h => ?_, fun h => ⟨?_, ?_⟩⟩)
    · refine writeNumber_dec hm hv j L I (by omega) hO (by omega) (fun I' h1 h2 => hq I' ?_ h2)
      have e : tn (d + 1) j v = j := by unfold tn; rw [if_pos h]
      unfold num
      rw [← ht, e]
      exact h1
    · have p4 := pw_le (j + 1) (by omega)
      have p5 : pw (j + 1) = 10 * pw j := rfl
      exact ⟨by omega, by omega⟩
    · have e : tn (d + 1) j v = tn d (j + 1) v := by
        show (if v.tdiv (pw j) ≤ 9 then j else tn d (j + 1) v) = _
        rw [if_neg h]
      have e2 : pw j * 10 = pw (j + 1) := by show pw j * 10 = 10 * pw j; omega
      rw [e2]
      exact ih (j + 1) (by omega) (by rw [← e]; exact ht)
theorem sp_X10_writeNumber (hm : WX10 G m) (h : TO m S n b I) {t by_ : Int} (t0 : 0 ≤ t) (t1 : t < n) (hL : b (t + 1) - b t ≤ 9) (hd : ∀ k, 0 ≤ k → k < b (t + 1) - b t → 48 ≤ S (10 + (b t + k)) ∧ S (10 + (b t + k)) ≤ 57) (hby : by_ = 1 ∨ by_ = -1) {L : List Int} (hO : OI m I L) (hl : L.length + 10 ≤ 2000) : jRV E (jA m) kX10_writeNumber [VR m, VI t, VI by_] G I (fun I' => OI m I' (L ++ num (max 0 (nv (fun k => S (10 + (b t + k))) (b (t + 1) - b t).toNat + by_))) ∧ WO m I I') := by
  have bt := h.bd t0 t1
  obtain ⟨hS, -, -, -, hrow⟩ := h
  have et := hrow t t0 t1
  have bd := nv_bd (T := fun k => S (10 + (b t + k))) (L := b (t + 1) - b t) hd
  have loop : ∀ (d c : Nat), (c : Int) + d = b (t + 1) - b t → jOV E (jA m) kX10_writeNumber 5 [VR m, VI t, VI by_, VI (nv (fun k => S (10 + (b t + k))) c), VI c, VN] G I (fun I' => OI m I' (L ++ num (max 0 (nv (fun k => S (10 + (b t + k))) (b (t + 1) - b t).toNat + by_))) ∧ WO m I I') := by
    intro d
    induction d with
    | zero =>
      intro c hc
      have ec : (b (t + 1) - b t).toNat = c := by omega
      have g := bd c (by omega)
      have g2 := pw_le c (by omega)
      refine st_X10_writeNumber_5 hm (fun _ _ _ _ _ => ⟨⟨t0, by omega⟩, fun _ => ⟨⟨by omega, by omega⟩, fun q => ⟨⟨by omega, by omega⟩, ?_⟩, fun q => ?_⟩, fun q => ?_⟩)
      · have e : max 0 (nv (fun k => S (10 + (b t + k))) c + by_) = nv (fun k => S (10 + (b t + k))) c + by_ := by omega
        rw [ec, e]
        exact writeNumber_ten hm ⟨by omega, by omega⟩ hO hl (fun I' h1 h2 => ⟨h1, h2⟩) 9 0 (by omega) rfl
      · have e : max 0 (nv (fun k => S (10 + (b t + k))) c + by_) = 0 := by omega
        rw [ec, e]
        exact writeNumber_ten hm ⟨by omega, by omega⟩ hO hl (fun I' h1 h2 => ⟨h1, h2⟩) 9 0 (by omega) rfl
      · rw [et.2] at q
        omega
    | succ d ih =>
      intro c hc
      refine st_X10_writeNumber_5 hm (fun _ _ _ _ _ => ⟨⟨t0, by omega⟩, fun q => ?_, fun _ => ?_⟩)
      · rw [et.2] at q
        omega
      · rw [et.1, hS]
        have g := bd (c + 1) (by omega)
        have g2 := pw_le (c + 1) (by omega)
        have e : 10 * nv (fun k => S (10 + (b t + k))) c + S (10 + (b t + (c : Int))) - 48 = nv (fun k => S (10 + (b t + k))) (c + 1) := rfl
        rw [e]
        refine ⟨⟨t0, by omega⟩, ⟨by omega, by omega⟩, ⟨by omega, by omega⟩, ⟨by omega, by omega⟩, ⟨by omega, by omega⟩, ?_⟩
        have e2 : (c : Int) + 1 = ((c + 1 : Nat) : Int) := by omega
        rw [e2]
        exact ih (c + 1) (by omega)
  exact en_X10_writeNumber hm (fun _ _ _ => loop (b (t + 1) - b t).toNat 0 (by omega))
end RO
