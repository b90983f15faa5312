/-! ===== the law's loop, and its beginning ===== -/
theorem all50 {P : Int → Prop} (h0 : P 0) (h1 : P 1) (h2 : P 2) (h3 : P 3) (h4 : P 4) (h5 : P 5) (h6 : P 6) (h7 : P 7) (h8 : P 8) (h9 : P 9) (h10 : P 10) (h11 : P 11) (h12 : P 12) (h13 : P 13) (h14 : P 14) (h15 : P 15) (h16 : P 16) (h17 : P 17) (h18 : P 18) (h19 : P 19) (h20 : P 20) (h21 : P 21) (h22 : P 22) (h23 : P 23) (h24 : P 24) (h25 : P 25) (h26 : P 26) (h27 : P 27) (h28 : P 28) (h29 : P 29) (h30 : P 30) (h31 : P 31) (h32 : P 32) (h33 : P 33) (h34 : P 34) (h35 : P 35) (h36 : P 36) (h37 : P 37) (h38 : P 38) (h39 : P 39) (h40 : P 40) (h41 : P 41) (h42 : P 42) (h43 : P 43) (h44 : P 44) (h45 : P 45) (h46 : P 46) (h47 : P 47) (h48 : P 48) (h49 : P 49) : ∀ x : Int, 0 ≤ x → x ≤ 49 → P x := by
  have g : ∀ i : Nat, i ≤ 49 → P (i : Int) := by
    intro i hi
    match i, hi with
    | 0, _ => exact h0
    | 1, _ => exact h1
    | 2, _ => exact h2
    | 3, _ => exact h3
    | 4, _ => exact h4
    | 5, _ => exact h5
    | 6, _ => exact h6
    | 7, _ => exact h7
    | 8, _ => exact h8
    | 9, _ => exact h9
    | 10, _ => exact h10
    | 11, _ => exact h11
    | 12, _ => exact h12
    | 13, _ => exact h13
    | 14, _ => exact h14
    | 15, _ => exact h15
    | 16, _ => exact h16
    | 17, _ => exact h17
    | 18, _ => exact h18
    | 19, _ => exact h19
    | 20, _ => exact h20
    | 21, _ => exact h21
    | 22, _ => exact h22
    | 23, _ => exact h23
    | 24, _ => exact h24
    | 25, _ => exact h25
    | 26, _ => exact h26
    | 27, _ => exact h27
    | 28, _ => exact h28
    | 29, _ => exact h29
    | 30, _ => exact h30
    | 31, _ => exact h31
    | 32, _ => exact h32
    | 33, _ => exact h33
    | 34, _ => exact h34
    | 35, _ => exact h35
    | 36, _ => exact h36
    | 37, _ => exact h37
    | 38, _ => exact h38
    | 39, _ => exact h39
    | 40, _ => exact h40
    | 41, _ => exact h41
    | 42, _ => exact h42
    | 43, _ => exact h43
    | 44, _ => exact h44
    | 45, _ => exact h45
    | 46, _ => exact h46
    | 47, _ => exact h47
    | 48, _ => exact h48
    | 49, _ => exact h49
    | i + 50, h => exact absurd h (by omega)
  intro x x0 x1
  have e : ((x.toNat : Nat) : Int) = x := by omega
  rw [← e]
  exact g _ (by omega)
theorem and63 (v : Int) : 0 ≤ jand v 63 ∧ jand v 63 ≤ 63 := by
  unfold jand
  generalize Int32.ofInt v = x
  have e : (x &&& Int32.ofInt 63).toInt = (x.toBitVec &&& 63#32).toInt := by rw [← Int32.toInt_toBitVec, Int32.toBitVec_and]; rfl
  have h : (x.toBitVec &&& 63#32).toNat ≤ 63 := by rw [BitVec.toNat_and]; exact Nat.and_le_right
  rw [e, BitVec.toInt_eq_toNat_cond]
  split <;> omega
theorem LV.next {k : Nat} {G : jG} {I : jM} (h : LV k G I) : LV (k + 1) G I := by
  obtain ⟨δ, B, H, B', H', T, fk, fp, hC, hm, hR, hW, g0, g1⟩ := h
  exact ⟨δ, B, H, B', H', T, fk, fp, hC, hm, hR, hW.mono (by omega), g0, by omega⟩
section LD
variable {E : jE} {b L : Nat} {xs : Nat → Int32}
theorem lawStep {k : Nat} {G : jG} {I : jM} {u1 u2 : Nat} (hk : k ≤ 512) (hL : (L : Int) ≤ 3072) (h : LV k G I) (hu1 : u1 ≤ 635 + 13 * k) (hu2 : u2 ≤ 181924 + 589 * k) (ih : k < 512 → ∀ (G : jG) (I : jM) (u1 u2 : Nat), LV (k + 1) G I → u1 ≤ 635 + 13 * (k + 1) → u2 ≤ 181924 + 589 * (k + 1) → jOy E (lX E b L xs) kL 18 (lls b (6 * ((k + 1 : Nat) : Int))) [] G I (u1, u2) lQ) : jOy E (lX E b L xs) kL 18 (lls b (6 * (k : Int))) [] G I (u1, u2) lQ := by
  refine y_iload_n (K := kL) dL_law_18 rfl (i := 3) rfl ?_
  refine y_xload_n (K := kL) dL_law_19 rfl (i := 0) rfl ?_
  refine y_slen (K := kL) dL_law_20 ?_
  refine y_bipush (K := kL) (n := 6) dL_law_21 rfl ?_
  refine y_isub (K := kL) dL_law_23 ?_
  refine y_icmp_gt (K := kL) dL_law_24 (tgt := 1471) (by decide) ⟨by omega, by omega⟩ ⟨by omega, by omega⟩ (fun _ => ?_) (fun q => ?_)
  · refine y_iconst (K := kL) (n := 1) dL_law_1471 ?_
    exact y_zret (K := kL) dL_law_1472 rfl ⟨by decide, by decide⟩ ⟨by show u1 ≤ 600000; omega, by show u2 ≤ 7302250; omega⟩ rfl
  · have hA : lA L k (6 * (k : Int)) G I u1 u2 := ⟨h, hk, ⟨by omega, by omega⟩, hL, hu1, hu2⟩
    have ih' : lNx E b L k xs (6 * (k : Int)) := fun G' I' v1 v2 hV g1 g2 => by
      refine y_iinc (K := kL) dL_law_1465 (i := 3) (x := 6 * (k : Int)) rfl (Nat.le_of_ble_eq_true rfl) rfl ⟨by omega, by omega⟩ ?_
      refine y_goto (K := kL) dL_law_1468 (tgt := 18) (by decide) ?_
      have e := ih (by omega) G' I' v1 v2 hV g1 g2
      rw [show 6 * ((k + 1 : Nat) : Int) = 6 * (k : Int) + 6 by omega] at e
      exact e
    refine y_xload_n (K := kL) dL_law_27 rfl (i := 0) rfl ?_
    refine y_iload_n (K := kL) dL_law_28 rfl (i := 3) rfl ?_
    refine y_sld ⟨by omega, by omega⟩ hL dL_law_29 ?_
    refine y_bipush (K := kL) (n := 63) dL_law_30 rfl ?_
    refine y_iand (K := kL) dL_law_32 ?_
    have b63 := and63 (xs (6 * (k : Int)).toNat).toInt
    by_cases q50 : jand (xs (6 * (k : Int)).toNat).toInt 63 ≤ 49
    · refine all50 (P := fun x => jOy E (lX E b L xs) kL 33 (lls b (6 * (k : Int))) [VI x] G I (u1, u2) lQ) ?_ ?_ ?_ ?_ ?_ ?_ ?_ ?_ ?_ ?_ ?_ ?_ ?_ ?_ ?_ ?_ ?_ ?_ ?_ ?_ ?_ ?_ ?_ ?_ ?_ ?_ ?_ ?_ ?_ ?_ ?_ ?_ ?_ ?_ ?_ ?_ ?_ ?_ ?_ ?_ ?_ ?_ ?_ ?_ ?_ ?_ ?_ ?_ ?_ ?_ _ b63.1 q50
      · exact y_tswIn (K := kL) (off := 215) (tgt := 248) dL_law_33 ⟨by decide, by decide⟩ (by decide) (by decide) rfl (by decide) (lc_0 hA ih')
      · exact y_tswIn (K := kL) (off := 278) (tgt := 311) dL_law_33 ⟨by decide, by decide⟩ (by decide) (by decide) rfl (by decide) (lc_1 hA ih')
      · exact y_tswIn (K := kL) (off := 301) (tgt := 334) dL_law_33 ⟨by decide, by decide⟩ (by decide) (by decide) rfl (by decide) (lc_2 hA ih')
      · exact y_tswIn (K := kL) (off := 314) (tgt := 347) dL_law_33 ⟨by decide, by decide⟩ (by decide) (by decide) rfl (by decide) (lc_3 hA ih')
      · exact y_tswIn (K := kL) (off := 327) (tgt := 360) dL_law_33 ⟨by decide, by decide⟩ (by decide) (by decide) rfl (by decide) (lc_4 hA ih')
      · exact y_tswIn (K := kL) (off := 350) (tgt := 383) dL_law_33 ⟨by decide, by decide⟩ (by decide) (by decide) rfl (by decide) (lc_5 hA ih')
      · exact y_tswIn (K := kL) (off := 399) (tgt := 432) dL_law_33 ⟨by decide, by decide⟩ (by decide) (by decide) rfl (by decide) (lc_6 hA ih')
      · exact y_tswIn (K := kL) (off := 432) (tgt := 465) dL_law_33 ⟨by decide, by decide⟩ (by decide) (by decide) rfl (by decide) (lc_7 hA ih')
      · exact y_tswIn (K := kL) (off := 455) (tgt := 488) dL_law_33 ⟨by decide, by decide⟩ (by decide) (by decide) rfl (by decide) (lc_8 hA ih')
      · exact y_tswIn (K := kL) (off := 478) (tgt := 511) dL_law_33 ⟨by decide, by decide⟩ (by decide) (by decide) rfl (by decide) (lc_9 hA ih')
      · exact y_tswIn (K := kL) (off := 501) (tgt := 534) dL_law_33 ⟨by decide, by decide⟩ (by decide) (by decide) rfl (by decide) (lc_10 hA ih')
      · exact y_tswIn (K := kL) (off := 534) (tgt := 567) dL_law_33 ⟨by decide, by decide⟩ (by decide) (by decide) rfl (by decide) (lc_11 hA ih')
      · exact y_tswIn (K := kL) (off := 567) (tgt := 600) dL_law_33 ⟨by decide, by decide⟩ (by decide) (by decide) rfl (by decide) (lc_12 hA ih')
      · exact y_tswIn (K := kL) (off := 580) (tgt := 613) dL_law_33 ⟨by decide, by decide⟩ (by decide) (by decide) rfl (by decide) (lc_13 hA ih')
      · exact y_tswIn (K := kL) (off := 603) (tgt := 636) dL_law_33 ⟨by decide, by decide⟩ (by decide) (by decide) rfl (by decide) (lc_14 hA ih')
      · exact y_tswIn (K := kL) (off := 626) (tgt := 659) dL_law_33 ⟨by decide, by decide⟩ (by decide) (by decide) rfl (by decide) (lc_15 hA ih')
      · exact y_tswIn (K := kL) (off := 639) (tgt := 672) dL_law_33 ⟨by decide, by decide⟩ (by decide) (by decide) rfl (by decide) (lc_16 hA ih')
      · exact y_tswIn (K := kL) (off := 662) (tgt := 695) dL_law_33 ⟨by decide, by decide⟩ (by decide) (by decide) rfl (by decide) (lc_17 hA ih')
      · exact y_tswIn (K := kL) (off := 685) (tgt := 718) dL_law_33 ⟨by decide, by decide⟩ (by decide) (by decide) rfl (by decide) (lc_18 hA ih')
      · exact y_tswIn (K := kL) (off := 718) (tgt := 751) dL_law_33 ⟨by decide, by decide⟩ (by decide) (by decide) rfl (by decide) (lc_19 hA ih')
      · exact y_tswIn (K := kL) (off := 741) (tgt := 774) dL_law_33 ⟨by decide, by decide⟩ (by decide) (by decide) rfl (by decide) (lc_20 hA ih')
      · exact y_tswIn (K := kL) (off := 774) (tgt := 807) dL_law_33 ⟨by decide, by decide⟩ (by decide) (by decide) rfl (by decide) (lc_21 hA ih')
      · exact y_tswIn (K := kL) (off := 807) (tgt := 840) dL_law_33 ⟨by decide, by decide⟩ (by decide) (by decide) rfl (by decide) (lc_22 hA ih')
      · exact y_tswIn (K := kL) (off := 840) (tgt := 873) dL_law_33 ⟨by decide, by decide⟩ (by decide) (by decide) rfl (by decide) (lc_23 hA ih')
      · exact y_tswIn (K := kL) (off := 873) (tgt := 906) dL_law_33 ⟨by decide, by decide⟩ (by decide) (by decide) rfl (by decide) (lc_24 hA ih')
      · exact y_tswIn (K := kL) (off := 896) (tgt := 929) dL_law_33 ⟨by decide, by decide⟩ (by decide) (by decide) rfl (by decide) (lc_25 hA ih')
      · exact y_tswIn (K := kL) (off := 919) (tgt := 952) dL_law_33 ⟨by decide, by decide⟩ (by decide) (by decide) rfl (by decide) (lc_26 hA ih')
      · exact y_tswIn (K := kL) (off := 932) (tgt := 965) dL_law_33 ⟨by decide, by decide⟩ (by decide) (by decide) rfl (by decide) (lc_27 hA ih')
      · exact y_tswIn (K := kL) (off := 955) (tgt := 988) dL_law_33 ⟨by decide, by decide⟩ (by decide) (by decide) rfl (by decide) (lc_28 hA ih')
      · exact y_tswIn (K := kL) (off := 978) (tgt := 1011) dL_law_33 ⟨by decide, by decide⟩ (by decide) (by decide) rfl (by decide) (lc_29 hA ih')
      · exact y_tswIn (K := kL) (off := 1011) (tgt := 1044) dL_law_33 ⟨by decide, by decide⟩ (by decide) (by decide) rfl (by decide) (lc_30 hA ih')
      · exact y_tswIn (K := kL) (off := 1044) (tgt := 1077) dL_law_33 ⟨by decide, by decide⟩ (by decide) (by decide) rfl (by decide) (lc_31 hA ih')
      · exact y_tswIn (K := kL) (off := 1067) (tgt := 1100) dL_law_33 ⟨by decide, by decide⟩ (by decide) (by decide) rfl (by decide) (lc_32 hA ih')
      · exact y_tswIn (K := kL) (off := 1090) (tgt := 1123) dL_law_33 ⟨by decide, by decide⟩ (by decide) (by decide) rfl (by decide) (lc_33 hA ih')
      · exact y_tswIn (K := kL) (off := 1113) (tgt := 1146) dL_law_33 ⟨by decide, by decide⟩ (by decide) (by decide) rfl (by decide) (lc_34 hA ih')
      · exact y_tswIn (K := kL) (off := 1136) (tgt := 1169) dL_law_33 ⟨by decide, by decide⟩ (by decide) (by decide) rfl (by decide) (lc_35 hA ih')
      · exact y_tswIn (K := kL) (off := 1169) (tgt := 1202) dL_law_33 ⟨by decide, by decide⟩ (by decide) (by decide) rfl (by decide) (lc_36 hA ih')
      · exact y_tswIn (K := kL) (off := 1192) (tgt := 1225) dL_law_33 ⟨by decide, by decide⟩ (by decide) (by decide) rfl (by decide) (lc_37 hA ih')
      · exact y_tswIn (K := kL) (off := 1215) (tgt := 1248) dL_law_33 ⟨by decide, by decide⟩ (by decide) (by decide) rfl (by decide) (lc_38 hA ih')
      · exact y_tswIn (K := kL) (off := 1248) (tgt := 1281) dL_law_33 ⟨by decide, by decide⟩ (by decide) (by decide) rfl (by decide) (lc_39 hA ih')
      · exact y_tswIn (K := kL) (off := 1261) (tgt := 1294) dL_law_33 ⟨by decide, by decide⟩ (by decide) (by decide) rfl (by decide) (lc_40 hA ih')
      · exact y_tswIn (K := kL) (off := 1284) (tgt := 1317) dL_law_33 ⟨by decide, by decide⟩ (by decide) (by decide) rfl (by decide) (lc_41 hA ih')
      · exact y_tswIn (K := kL) (off := 1317) (tgt := 1350) dL_law_33 ⟨by decide, by decide⟩ (by decide) (by decide) rfl (by decide) (lc_42 hA ih')
      · exact y_tswIn (K := kL) (off := 1340) (tgt := 1373) dL_law_33 ⟨by decide, by decide⟩ (by decide) (by decide) rfl (by decide) (lc_43 hA ih')
      · exact y_tswIn (K := kL) (off := 1353) (tgt := 1386) dL_law_33 ⟨by decide, by decide⟩ (by decide) (by decide) rfl (by decide) (lc_44 hA ih')
      · exact y_tswIn (K := kL) (off := 1366) (tgt := 1399) dL_law_33 ⟨by decide, by decide⟩ (by decide) (by decide) rfl (by decide) (lc_45 hA ih')
      · exact y_tswIn (K := kL) (off := 1379) (tgt := 1412) dL_law_33 ⟨by decide, by decide⟩ (by decide) (by decide) rfl (by decide) (lc_46 hA ih')
      · exact y_tswIn (K := kL) (off := 1393) (tgt := 1426) dL_law_33 ⟨by decide, by decide⟩ (by decide) (by decide) rfl (by decide) (lc_47 hA ih')
      · exact y_tswIn (K := kL) (off := 1406) (tgt := 1439) dL_law_33 ⟨by decide, by decide⟩ (by decide) (by decide) rfl (by decide) (lc_48 hA ih')
      · exact y_tswIn (K := kL) (off := 1419) (tgt := 1452) dL_law_33 ⟨by decide, by decide⟩ (by decide) (by decide) rfl (by decide) (lc_49 hA ih')
    · refine y_tswOut (K := kL) (tgt := 1465) dL_law_33 ⟨by omega, by omega⟩ (Or.inr (by omega)) (by decide) ?_
      exact ih' G I u1 u2 h.next (by omega) (by omega)
theorem lawLoop (hL : (L : Int) ≤ 3072) : ∀ (d k : Nat) (G : jG) (I : jM) (u1 u2 : Nat), k + d = 512 → LV k G I → u1 ≤ 635 + 13 * k → u2 ≤ 181924 + 589 * k → jOy E (lX E b L xs) kL 18 (lls b (6 * (k : Int))) [] G I (u1, u2) lQ := by
  intro d
  induction d with
  | zero => intro k G I u1 u2 e h h1 h2; exact lawStep (by omega) hL h h1 h2 (fun q => absurd q (by omega))
  | succ d ih => intro k G I u1 u2 e h h1 h2; exact lawStep (by omega) hL h h1 h2 (fun _ G' I' v1 v2 hV g1 g2 => ih (k + 1) G' I' v1 v2 (by omega) hV g1 g2)
end LD
