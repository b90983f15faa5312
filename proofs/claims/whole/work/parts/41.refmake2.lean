theorem mkS_2 (S : Int → Int) (L : List Int) : mkS S L 2 = (newL S L 0).length := if_pos rfl
theorem mkS_t {S : Int → Int} {L : List Int} {k : Int} (h : 0 ≤ k ∧ k < 200) : mkS S L (10 + k) = ((newL S L 0).getD k.toNat (0, 0)).1 := by
  unfold mkS
  rw [if_neg (by omega), if_pos (by omega), show (10 + k - 10).toNat = k.toNat by omega]
theorem mkS_p {S : Int → Int} {L : List Int} {k : Int} (h : 0 ≤ k ∧ k < 200) : mkS S L (210 + k) = ((newL S L 0).getD k.toNat (0, 0)).2 := by
  unfold mkS
  rw [if_neg (by omega), if_neg (by omega), if_pos (by omega), show (210 + k - 210).toNat = k.toNat by omega]
theorem mkS_s0 {S : Int → Int} {L : List Int} {k : Int} (h : 0 ≤ k ∧ k < S 3) : mkS S L (410 + 2 * k) = alng S L (S (410 + 2 * k)) := by
  unfold mkS
  rw [if_neg (by omega), if_neg (by omega), if_neg (by omega), if_pos (by omega), if_pos (by omega)]
theorem mkS_s1 {S : Int → Int} {L : List Int} {k : Int} (h : 0 ≤ k ∧ k < S 3) : mkS S L (410 + 2 * k + 1) = S (410 + 2 * k + 1) + (alng S L (S (410 + 2 * k)) - S (410 + 2 * k)) := by
  unfold mkS
  rw [if_neg (by omega), if_neg (by omega), if_neg (by omega), if_pos (by omega), if_neg (by omega), show 410 + 2 * k + 1 - 1 = 410 + 2 * k by omega]
theorem mkS_o {S : Int → Int} {L : List Int} {j : Int} (h2 : j ≠ 2) (h : ¬ (10 ≤ j ∧ j < 410)) (h' : ¬ (410 ≤ j ∧ j < 410 + 2 * S 3)) : mkS S L j = S j := by
  unfold mkS
  rw [if_neg h2, if_neg (by omega), if_neg (by omega), if_neg h']
theorem cells_cons (S : Int → Int) {i j : Int} (h : i < j) : cells S i j = (S (10 + i), S (210 + i)) :: cells S (i + 1) j := by
  unfold cells
  rw [show (j - i).toNat = (j - (i + 1)).toNat + 1 by omega, List.range_succ_eq_map, List.map_cons, List.map_map]
  congr 1
  · simp
  · apply List.map_congr_left
    intro k _
    show (S (10 + (i + ((k + 1 : Nat) : Int))), S (210 + (i + ((k + 1 : Nat) : Int)))) = _
    rw [show i + ((k + 1 : Nat) : Int) = i + 1 + (k : Int) by omega]
theorem drop_gd {L : List Int} {k : Nat} (h : k < L.length) : L.drop k = L.getD k 0 :: L.drop (k + 1) := by
  rw [List.drop_eq_getElem_cons h]
  congr 1
  rw [List.getD_eq_getElem?_getD, List.getElem?_eq_getElem h]
  rfl
section RO
variable {E : jE} {G : jG} {m : Nat} {S : Int → Int} {I0 : jM} {L : List Int} {one : Int}
def WK (m : Nat) (I I' : jM) : Prop := ∀ a j, a ≠ m + 1 → a ≠ m + 5 → a ≠ m + 6 → a ≠ m + 18 → a ≠ m + 19 → (a ≠ m ∨ (j ≠ 7 ∧ j ≠ 24)) → I' a j = I a j
theorem WN.wk {I I' : jM} (h : WN m I I') : WK m I I' := fun a j _ h1 h2 h3 h4 h5 => h a j h1 h2 h3 h4 h5
theorem WK.trans {I I' I'' : jM} (h : WK m I I') (h' : WK m I' I'') : WK m I I'' := fun a j h1 h2 h3 h4 h5 h6 => (h' a j h1 h2 h3 h4 h5 h6).trans (h a j h1 h2 h3 h4 h5 h6)
theorem FI.wk {I I' : jM} {b : Int → Int} {F : List (Int × Int)} (h : FI m S b I F) (hw : WK m I I') : FI m S b I' F := by
  refine ⟨by rw [hw _ _ (by omega) (by omega) (by omega) (by omega) (by omega) (by omega)]; exact h.1, fun i hi => ?_⟩
  have g := h.2 i hi
  unfold Rw at g ⊢
  rw [hw _ _ (by omega) (by omega) (by omega) (by omega) (by omega) (by omega), hw _ _ (by omega) (by omega) (by omega) (by omega) (by omega) (by omega), hw _ _ (by omega) (by omega) (by omega) (by omega) (by omega) (by omega), hw _ _ (by omega) (by omega) (by omega) (by omega) (by omega) (by omega), hw _ _ (by omega) (by omega) (by omega) (by omega) (by omega) (by omega)]
  exact g
theorem Cho.wk {I I' : jM} {R : List Int} {f : Int} (h : Cho m S one R f I) (hw : WK m I I') : Cho m S one R f I' := fun g g0 g1 => by
  rw [hw _ _ (by omega) (by omega) (by omega) (by omega) (by omega) (by omega)]
  exact h g g0 g1
theorem TO.wn {I I' : jM} {n : Int} {b : Int → Int} (h : TO m S n b I) (hw : WN m I I') : TO m S n b I' := by
  refine ⟨?_, h.2.1, h.2.2.1, ?_, fun u u0 u1 => ?_⟩
  · rw [← h.1]
    funext j
    exact hw _ _ (by omega) (by omega) (by omega) (by omega) (by omega)
  · rw [hw _ _ (by omega) (by omega) (by omega) (by omega) (by omega)]
    exact h.2.2.2.1
  · rw [hw _ _ (by omega) (by omega) (by omega) (by omega) (by omega), hw _ _ (by omega) (by omega) (by omega) (by omega) (by omega)]
    exact h.2.2.2.2 u u0 u1
theorem makeNow_267 (hm : WX10 G m) (hl : (newL S L 0).length ≤ 200) {x1 x2 : Int} : ∀ (d : Nat) (k : Int), 0 ≤ k → k + d = 200 → ∀ I1 : jM, NT m I1 (newL S L 0) → (∀ j, ¬ (10 + k ≤ j ∧ j < 210) → ¬ (210 + k ≤ j ∧ j < 410) → I1 (m + 1) j = mkS S L j) → WK m I0 I1 → jOV E (jA m) kX10_makeNow 267 [VR m, VI x1, VI x2, VI k, VN] G I1 (fun I' => I' (m + 1) = mkS S L ∧ WK m I0 I') := by
  intro d
  induction d with
  | zero =>
    intro k k0 k1 I1 hT hj hW
    refine st_X10_makeNow_267 hm (fun _ _ _ _ => ⟨fun _ => ⟨?_, hW⟩, fun q => by omega⟩)
    funext j
    exact hj j (by omega) (by omega)
  | succ d ih =>
    intro k k0 k1 I1 hT hj hW
    have hT1 := hT.1
    -- one place laid
    have next : ∀ (M M' : jM) (v w : Int), M = jup I1 (m + 1) (10 + k) v → M' = jup M (m + 1) (210 + k) w → v = ((newL S L 0).getD k.toNat (0, 0)).1 → w = ((newL S L 0).getD k.toNat (0, 0)).2 → jIn (k + 1) ∧ jOV E (jA m) kX10_makeNow 267 [VR m, VI x1, VI x2, VI (k + 1), VN] G M' (fun I' => I' (m + 1) = mkS S L ∧ WK m I0 I') := by
      intro M M' v w e e' hv hw
      refine ⟨⟨by omega, by omega⟩, ih (k + 1) (by omega) (by omega) M' ⟨?_, fun i hi => ?_⟩ (fun j j1 j2 => ?_) (hW.trans (fun a j h1 h2 h3 h4 h5 h6 => by rw [jr_na e' h1, jr_na e h1]))⟩
      · rw [jr_na e' (by omega), jr_na e (by omega)]
        exact hT1
      · rw [jr_na e' (by omega), jr_na e (by omega), jr_na e' (by omega), jr_na e (by omega)]
        exact hT.2 i hi
      · by_cases q1 : j = 210 + k
        · rw [q1, jr_eq e', hw, mkS_p ⟨k0, by omega⟩]
        · rw [jr_nj e' q1]
          by_cases q2 : j = 10 + k
          · rw [q2, jr_eq e, hv, mkS_t ⟨k0, by omega⟩]
          · rw [jr_nj e q2]
            exact hj j (by omega) (by omega)
    have big : I1 m 24 ≤ k → (newL S L 0).getD k.toNat (0, 0) = (0, 0) := fun q => by
      rw [List.getD_eq_getElem?_getD, List.getElem?_eq_none (by omega)]
      rfl
    have small : ¬ I1 m 24 ≤ k → I1 (m + 18) k = ((newL S L 0).getD k.toNat (0, 0)).1 ∧ I1 (m + 19) k = ((newL S L 0).getD k.toNat (0, 0)).2 := fun q => by
      have := hT.2 k.toNat (by omega)
      rw [show ((k.toNat : Nat) : Int) = k by omega] at this
      exact this
    refine st_X10_makeNow_267 hm (fun _ _ _ _ => ⟨fun q => by omega, fun _ => ⟨fun q => ⟨⟨by omega, by omega⟩, fun M2 e2 => ⟨fun _ => ⟨⟨by omega, by omega⟩, fun M4 e4 => next M2 M4 _ _ e2 e4 (by rw [big q]) (by rw [big q])⟩, fun q' => absurd q q'⟩⟩, fun q => ⟨⟨by omega, by omega⟩, ⟨by omega, by omega⟩, fun M12 e12 => ⟨fun q' => absurd q' q, fun _ => ⟨⟨by omega, by omega⟩, ⟨by omega, by omega⟩, fun M18 e18 => next M12 M18 _ _ e12 e18 (small q).1 (small q).2⟩⟩⟩⟩⟩)
theorem makeNow_180 (hm : WX10 G m) (hQ : QW S) (hF : Fnd S (nT S) (bT S) (FL S)) (hN : NF S ≤ 1200) (hC : Ch S 0 0 L) (hL : (L.length : Int) ≤ 20) (hl : (newL S L 0).length ≤ 200) (hsp : ∀ j, 410 ≤ j → j < 426 → -900000000 ≤ S j ∧ S j ≤ 900000000) {x2 : Int} : ∀ (d : Nat) (k : Int), 0 ≤ k → k + d = S 3 → ∀ I1 : jM, FI m S (bT S) I1 (FL S) → Cho m S one L 0 I1 → NT m I1 (newL S L 0) → (∀ j, I1 (m + 1) j = if 410 ≤ j ∧ j < 410 + 2 * k then mkS S L j else S j) → WK m I0 I1 → jOV E (jA m) kX10_makeNow 180 [VR m, VI one, VI x2, VI (2 * k), VN] G I1 (fun I' => I' (m + 1) = mkS S L ∧ WK m I0 I') := by
  have h3 := hQ.2.2.1
  intro d
  induction d with
  | zero =>
    intro k k0 k1 I1 hFI hO hT hj hW
    have e3 : I1 (m + 1) 3 = S 3 := by rw [hj]; exact if_neg (by omega)
    refine st_X10_makeNow_180 hm (fun _ _ _ _ => ⟨by rw [e3]; exact ⟨by omega, by omega⟩, fun _ M4 e4 => ?_, fun q => by rw [e3] at q; omega⟩)
    refine makeNow_267 hm hl 200 0 (by omega) (by omega) M4 ⟨by rw [jr_na e4 (by omega)]; exact hT.1, fun i hi => by rw [jr_na e4 (by omega), jr_na e4 (by omega)]; exact hT.2 i hi⟩ (fun j j1 j2 => ?_) (hW.trans (fun a j h1 _ _ _ _ _ => jr_na e4 h1))
    by_cases q : j = 2
    · rw [q, jr_eq e4, hT.1, mkS_2]
    · rw [jr_nj e4 q, hj]
      split
      · rfl
      · exact (mkS_o q (by omega) (by omega)).symm
  | succ d ih =>
    intro k k0 k1 I1 hFI hO hT hj hW
    have e3 : I1 (m + 1) 3 = S 3 := by rw [hj]; exact if_neg (by omega)
    have es : I1 (m + 1) (410 + 2 * k) = S (410 + 2 * k) := by rw [hj]; exact if_neg (by omega)
    have es1 : I1 (m + 1) (410 + 2 * k + 1) = S (410 + 2 * k + 1) := by rw [hj]; exact if_neg (by omega)
    have b1 := hsp (410 + 2 * k) (by omega) (by omega)
    have b2 := hsp (410 + 2 * k + 1) (by omega) (by omega)
    have ab := alng_bd hQ hF hC hl (S (410 + 2 * k))
    refine st_X10_makeNow_180 hm (fun _ _ _ _ => ⟨by rw [e3]; exact ⟨by omega, by omega⟩, fun q => by rw [e3] at q; omega, fun _ => ⟨⟨by omega, by omega⟩, ?_⟩⟩)
    rw [es]
    refine (sp_X10_along hm hFI hF hN hQ hC hO hL ⟨by omega, by omega⟩).mono (fun x I6 _ _ hx => ?_)
    obtain ⟨rfl, rfl⟩ := hx
    rw [es, es1]
    refine ⟨⟨by omega, by omega⟩, ⟨by omega, by omega⟩, ⟨by omega, by omega⟩, ⟨by omega, by omega⟩, fun M13 e13 => ⟨⟨by omega, by omega⟩, fun M15 e15 => ⟨⟨by omega, by omega⟩, ?_⟩⟩⟩
    have hw : WK m I6 M15 := fun a j h1 _ _ _ _ _ => by rw [jr_na e15 h1, jr_na e13 h1]
    rw [show 2 * k + 2 = 2 * (k + 1) by omega]
    refine ih (k + 1) (by omega) (by omega) M15 (hFI.wk hw) (hO.wk hw) ⟨by rw [jr_na e15 (by omega), jr_na e13 (by omega)]; exact hT.1, fun i hi => by rw [jr_na e15 (by omega), jr_na e13 (by omega), jr_na e15 (by omega), jr_na e13 (by omega)]; exact hT.2 i hi⟩ (fun j => ?_) (hW.trans hw)
    by_cases q1 : j = 410 + 2 * k
    · rw [q1, jr_eq e15, if_pos (by omega), mkS_s0 ⟨k0, by omega⟩]
    · rw [jr_nj e15 q1]
      by_cases q2 : j = 410 + 2 * k + 1
      · rw [q2, jr_eq e13, if_pos (by omega), mkS_s1 ⟨k0, by omega⟩]
      · rw [jr_nj e13 q2, hj]
        by_cases q3 : 410 ≤ j ∧ j < 410 + 2 * k
        · rw [if_pos q3, if_pos (by omega)]
        · rw [if_neg q3, if_neg (by omega)]
theorem makeNow_143 (hm : WX10 G m) (hQ : QW S) (hF : Fnd S (nT S) (bT S) (FL S)) (hN : NF S ≤ 1200) (hC : Ch S 0 0 L) (hL : (L.length : Int) ≤ 20) (hl : (newL S L 0).length ≤ 200) (hsp : ∀ j, 410 ≤ j → j < 426 → -900000000 ≤ S j ∧ S j ≤ 900000000) (hTO : TO m S (nT S) (bT S) I0) (hFI : FI m S (bT S) I0 (FL S)) (hO : Cho m S one L 0 I0) {x3 : Int} : ∀ (d : Nat) (x : Int), 0 ≤ x → x + d = S 2 → ∀ (P : List (Int × Int)) (I1 : jM), NT m I1 P → P ++ cells S x (S 2) = newL S L 0 → WN m I0 I1 → jOV E (jA m) kX10_makeNow 143 [VR m, VI one, VI x, VI x3, VN] G I1 (fun I' => I' (m + 1) = mkS S L ∧ WK m I0 I') := by
  have h2 := hQ.1
  intro d
  induction d with
  | zero =>
    intro x x0 x1 P I1 hT hP hW
    have eS := (hTO.wn hW).1
    have e : x = S 2 := by omega
    subst e
    rw [cells_self, List.append_nil] at hP
    subst hP
    refine st_X10_makeNow_143 hm (fun _ _ _ _ => ⟨fun _ => ?_, fun q => by rw [eS] at q; omega⟩)
    have g := makeNow_180 (E := E) (I0 := I0) (one := one) (x2 := S 2) hm hQ hF hN hC hL hl hsp (S 3).toNat 0 (by omega) (by have := hQ.2.2.1; omega) I1 (hFI.wk hW.wk) (hO.wk hW.wk) hT (fun j => by rw [if_neg (by omega), eS]) hW.wk
    exact g
  | succ d ih =>
    intro x x0 x1 P I1 hT hP hW
    have eS := (hTO.wn hW).1
    rw [cells_cons S (by omega)] at hP
    have hPl : P.length < 200 := by
      have := congrArg List.length hP
      rw [List.length_append, List.length_cons] at this
      omega
    refine st_X10_makeNow_143 hm (fun _ _ _ _ => ⟨fun q => by rw [eS] at q; omega, fun _ => ⟨⟨by omega, by omega⟩, ⟨by omega, by omega⟩, ?_⟩⟩)
    rw [eS]
    refine (sp_X10_writeNew hm hT hPl).mono (fun I5 _ g => ⟨⟨by omega, by omega⟩, ?_⟩)
    refine ih (x + 1) (by omega) (by omega) _ I5 g.1 ?_ (hW.trans g.2.1)
    rw [List.append_assoc]
    exact hP
theorem makeNow_9 (hm : WX10 G m) (hQ : QW S) (hF : Fnd S (nT S) (bT S) (FL S)) (hN : NF S ≤ 1200) (hC : Ch S 0 0 L) (hL : (L.length : Int) ≤ 20) (hl : (newL S L 0).length ≤ 200) (hsp : ∀ j, 410 ≤ j → j < 426 → -900000000 ≤ S j ∧ S j ≤ 900000000) (hTO : TO m S (nT S) (bT S) I0) (hFI : FI m S (bT S) I0 (FL S)) (hO : Cho m S one L 0 I0) : ∀ (d : Nat) (f : Int), 0 ≤ f → f + d = NF S → ∀ (R : List Int) (i : Int) (P : List (Int × Int)) (I1 : jM), 0 ≤ i → i ≤ S 2 → Ch S f i R → Cho m S one R f I1 → NT m I1 P → P ++ newL S R i = newL S L 0 → WN m I0 I1 → jOV E (jA m) kX10_makeNow 9 [VR m, VI one, VI i, VI f, VN] G I1 (fun I' => I' (m + 1) = mkS S L ∧ WK m I0 I') := by
  have h2 := hQ.1
  intro d
  induction d with
  | zero =>
    intro f f0 f1 R i P I1 i0 i1 hc ho hT hP hW
    have hFI1 := hFI.wk hW.wk
    have e : f = NF S := by omega
    subst e
    have e2 := hc.nil
    subst e2
    refine st_X10_makeNow_9 hm (fun _ _ _ _ => ⟨fun _ => ?_, fun q => by rw [hFI1.1] at q; exact absurd (Int.le_refl _) q⟩)
    exact makeNow_143 hm hQ hF hN hC hL hl hsp hTO hFI hO (S 2 - i).toNat i i0 (by omega) P I1 hT hP hW
  | succ d ih =>
    intro f f0 f1 R i P I1 i0 i1 hc ho hT hP hW
    have hNe : NF S = ((FL S).length : Int) := rfl
    have hFI1 := hFI.wk hW.wk
    have bd := f_bd hQ hF (f := f) f0 (by omega)
    have f12 : (0 : Int) ≤ f ∧ f < 1200 := ⟨f0, by omega⟩
    have of := ho f (Int.le_refl _) (by omega)
    have out : f ∉ R → jIn (f + 1) ∧ jOV E (jA m) kX10_makeNow 9 [VR m, VI one, VI i, VI (f + 1), VN] G I1 (fun I' => I' (m + 1) = mkS S L ∧ WK m I0 I') := fun hn => ⟨⟨by omega, by omega⟩, ih (f + 1) (by omega) (by omega) R i P I1 i0 i1 (hc.up hn) ho.up hT hP hW⟩
    have inn : f ∈ R → jOV E (jA m) kX10_makeNow 42 [VR m, VI one, VI i, VI f, VN] G I1 (fun I' => I' (m + 1) = mkS S L ∧ WK m I0 I') := by
      intro hn
      obtain ⟨R', e⟩ := hc.hd hn
      subst e
      obtain ⟨-, -, hc3, hc4⟩ := hc
      have hP' : P ++ (cells S i (fB S f) ++ ((fO S f).map (fun c => (c, fR S f + 1)) ++ newL S R' (fE S f))) = newL S L 0 := hP
      -- the new bytes
      have l96 : ∀ (d : Nat) (k : Nat), k + d = (fO S f).length → ∀ (x : Int) (P : List (Int × Int)) (I1 : jM), NT m I1 P → OI m I1 (fO S f) → P ++ (((fO S f).drop k).map (fun c => (c, fR S f + 1)) ++ newL S R' (fE S f)) = newL S L 0 → WN m I0 I1 → Cho m S one (f :: R') f I1 → jOV E (jA m) kX10_makeNow 96 [VR m, VI one, VI x, VI f, VI (k : Int)] G I1 (fun I' => I' (m + 1) = mkS S L ∧ WK m I0 I') := by
        intro d
        induction d with
        | zero =>
          intro k hk x P I1 hT hOI hP hW ho
          have r := RFa (hFI.wk hW.wk) (f := f) f0 (by omega)
          refine st_X10_makeNow_96 hm (fun _ _ _ _ _ => ⟨fun _ => ⟨f12, ⟨by omega, by omega⟩, ?_⟩, fun q => by rw [hOI.1] at q; omega⟩)
          rw [r.2.2.1]
          rw [List.drop_eq_nil_of_le (by omega)] at hP
          exact ih (f + 1) (by omega) (by omega) R' (fE S f) P I1 (by omega) bd.2.2.1 hc4 ho.dn hT hP hW
        | succ d ihd =>
          intro k hk x P I1 hT hOI hP hW ho
          have r := RFa (hFI.wk hW.wk) (f := f) f0 (by omega)
          rw [drop_gd (by omega), List.map_cons, List.cons_append] at hP
          have hPl : P.length < 200 := by
            have := congrArg List.length hP
            rw [List.length_append, List.length_cons] at this
            omega
          have ho6 := hOI.2 k (by omega)
          refine st_X10_makeNow_96 hm (fun _ _ _ _ _ => ⟨fun q => by rw [hOI.1] at q; omega, fun _ => ⟨⟨by omega, by omega⟩, f12, ?_⟩⟩)
          rw [ho6, r.1]
          refine ⟨⟨by omega, by omega⟩, ?_⟩
          refine (sp_X10_writeNew hm hT hPl).mono (fun I5 _ g => ⟨⟨by omega, by omega⟩, ?_⟩)
          have q := ihd (k + 1) (by omega) x (P ++ [((fO S f).getD k 0, fR S f + 1)]) I5 g.1 ⟨by rw [g.2.2 _ _ (by omega) (by omega) (by omega)]; exact hOI.1, fun i hi => by rw [g.2.2 _ _ (by omega) (by omega) (by omega)]; exact hOI.2 i hi⟩ (by rw [List.append_assoc]; exact hP) (hW.trans g.2.1) (ho.wk g.2.1.wk)
          exact q
      -- what stays
      have l42 : ∀ (d : Nat) (x : Int), 0 ≤ x → x + d = fB S f → ∀ (P : List (Int × Int)) (I1 : jM), NT m I1 P → P ++ (cells S x (fB S f) ++ ((fO S f).map (fun c => (c, fR S f + 1)) ++ newL S R' (fE S f))) = newL S L 0 → WN m I0 I1 → Cho m S one (f :: R') f I1 → jOV E (jA m) kX10_makeNow 42 [VR m, VI one, VI x, VI f, VN] G I1 (fun I' => I' (m + 1) = mkS S L ∧ WK m I0 I') := by
        intro d
        induction d with
        | zero =>
          intro x x0 x1 P I1 hT hP hW ho
          have r := RFa (hFI.wk hW.wk) (f := f) f0 (by omega)
          have e : x = fB S f := by omega
          subst e
          rw [cells_self, List.nil_append] at hP
          refine st_X10_makeNow_42 hm (fun _ _ _ _ => ⟨f12, fun _ => ⟨f12, f12, ?_⟩, fun q => by rw [r.2.1] at q; omega⟩)
          rw [r.1, r.2.2.2.1]
          have hfit := (fa_isF hF f0 (by omega : f < ((FL S).length : Int))).2.2.2.2.2.1
          refine (sp_X10_layOut hm (hTO.wn hW) bd.2.2.2.2.1 bd.2.2.2.1 bd.2.2.2.2.2.1.1 bd.2.2.2.2.2.1.2 hfit).mono (fun I4 _ g => ?_)
          have hw4 : WN m I1 I4 := fun a j h1 h2 _ _ h5 => g.2.1 a j h1 h2 (by omega)
          exact l96 (fO S f).length 0 (Nat.zero_add _) _ P I4 ⟨by rw [g.2.1 _ _ (by omega) (by omega) (by omega)]; exact hT.1, fun i hi => by rw [g.2.1 _ _ (by omega) (by omega) (by omega), g.2.1 _ _ (by omega) (by omega) (by omega)]; exact hT.2 i hi⟩ g.1 (by rw [List.drop_zero]; exact hP) (hW.trans hw4) (ho.wk hw4.wk)
        | succ d ihd =>
          intro x x0 x1 P I1 hT hP hW ho
          have eS := (hTO.wn hW).1
          have r := RFa (hFI.wk hW.wk) (f := f) f0 (by omega)
          rw [cells_cons S (by omega), List.cons_append] at hP
          have hPl : P.length < 200 := by
            have := congrArg List.length hP
            rw [List.length_append, List.length_cons] at this
            omega
          refine st_X10_makeNow_42 hm (fun _ _ _ _ => ⟨f12, fun q => by rw [r.2.1] at q; omega, fun _ => ⟨⟨by omega, by omega⟩, ⟨by omega, by omega⟩, ?_⟩⟩)
          rw [eS]
          refine (sp_X10_writeNew hm hT hPl).mono (fun I5 _ g => ⟨⟨by omega, by omega⟩, ?_⟩)
          refine ihd (x + 1) (by omega) (by omega) _ I5 g.1 ?_ (hW.trans g.2.1) (ho.wk g.2.1.wk)
          rw [List.append_assoc]
          exact hP
      exact l42 (fB S f - i).toNat i i0 (by omega) P I1 hT hP' hW ho
    refine st_X10_makeNow_9 hm (fun _ _ _ _ => ⟨fun q => by rw [hFI1.1] at q; omega, fun _ => ⟨fun q => ⟨fun q2 => inn ((of.2 q).mp q2), fun q2 => out (fun g => q2 ((of.2 q).mpr g))⟩, fun q => ⟨f12, fun _ => ⟨fun q2 => inn ?_, fun q2 => out (fun g => ?_)⟩⟩⟩⟩)
    · rw [of.1 q] at q2
      exact jI_p q2
    · rw [of.1 q] at q2
      exact jI_n q2 g
theorem sp_X10_makeNow (hm : WX10 G m) (hQ : QW S) (h : LFS m S I0) (hC : Ch S 0 0 L) (hL : (L.length : Int) ≤ 20) (hl : (newL S L 0).length ≤ 200) (hsp : ∀ j, 410 ≤ j → j < 426 → -900000000 ≤ S j ∧ S j ≤ 900000000) (hO : Cho m S one L 0 I0) : jRV E (jA m) kX10_makeNow [VR m, VI one] G I0 (fun I' => I' (m + 1) = mkS S L ∧ WK m I0 I') := by
  have hNe : NF S = ((FL S).length : Int) := rfl
  refine en_X10_makeNow hm (fun _ _ M1 e1 => ?_)
  have hw : WN m I0 M1 := fun a j _ _ _ _ h5 => by
    rcases h5 with h5 | h5
    · exact jr_na e1 h5
    · exact jr_nj e1 h5.2
  exact makeNow_9 hm hQ h.2.2.1 h.2.2.2.1 hC hL hl hsp h.1 h.2.1 hO (FL S).length 0 (by omega) (by omega) L 0 [] M1 (by omega) hQ.1.1 hC (hO.wk hw.wk) ⟨jr_eq e1, fun i hi => absurd hi (Nat.not_lt_zero i)⟩ (List.nil_append _) hw
end RO
