/-! ===== findings there are; blocks stay as they should be ===== -/
theorem flt_tot {S : Int → Int} {x y : Int × Int} (h : x ≠ y) : flt S x y ∨ flt S y x := by
  have : ¬ (x.1 = y.1 ∧ x.2 = y.2) := fun q => h (Prod.ext q.1 q.2)
  unfold flt
  omega
theorem sort_ins {S : Int → Int} (x : Int × Int) : ∀ F : List (Int × Int), F.Pairwise (flt S) → ∃ F' : List (Int × Int), F'.Pairwise (flt S) ∧ ∀ y, y ∈ F' ↔ y = x ∨ y ∈ F := by
  intro F
  induction F with
  | nil => intro _; exact ⟨[x], List.pairwise_singleton _ _, fun y => by simp⟩
  | cons a F ih =>
    intro h
    rw [List.pairwise_cons] at h
    by_cases e : x = a
    · exact ⟨a :: F, List.pairwise_cons.mpr h, fun y => by rw [e]; simp⟩
    · rcases flt_tot (S := S) e with q | q
      · refine ⟨x :: a :: F, List.pairwise_cons.mpr ⟨fun y hy => ?_, List.pairwise_cons.mpr h⟩, fun y => by simp⟩
        rcases List.mem_cons.mp hy with rfl | hy
        · exact q
        · exact flt_trans q (h.1 y hy)
      · obtain ⟨F', g1, g2⟩ := ih h.2
        refine ⟨a :: F', List.pairwise_cons.mpr ⟨fun y hy => ?_, g1⟩, fun y => ?_⟩
        · rcases (g2 y).mp hy with rfl | hy
          · exact q
          · exact h.1 y hy
        · rw [List.mem_cons, List.mem_cons, g2]
          constructor
          · rintro (g | g | g)
            · exact Or.inr (Or.inl g)
            · exact Or.inl g
            · exact Or.inr (Or.inr g)
          · rintro (g | g | g)
            · exact Or.inr (Or.inl g)
            · exact Or.inl g
            · exact Or.inr (Or.inr g)
theorem sort_ex {S : Int → Int} (P : Int × Int → Prop) : ∀ X : List (Int × Int), ∃ F : List (Int × Int), F.Pairwise (flt S) ∧ ∀ y, y ∈ F ↔ y ∈ X ∧ P y := by
  intro X
  induction X with
  | nil => exact ⟨[], List.Pairwise.nil, fun y => by simp⟩
  | cons x X ih =>
    obtain ⟨F, g1, g2⟩ := ih
    by_cases hp : P x
    · obtain ⟨F', k1, k2⟩ := sort_ins x F g1
      refine ⟨F', k1, fun y => ?_⟩
      rw [k2, g2, List.mem_cons]
      constructor
      · rintro (rfl | g)
        · exact ⟨Or.inl rfl, hp⟩
        · exact ⟨Or.inr g.1, g.2⟩
      · rintro ⟨rfl | g, g'⟩
        · exact Or.inl rfl
        · exact Or.inr ⟨g, g'⟩
    · refine ⟨F, g1, fun y => ?_⟩
      rw [g2, List.mem_cons]
      constructor
      · rintro ⟨g, g'⟩
        exact ⟨Or.inr g, g'⟩
      · rintro ⟨rfl | g, g'⟩
        · exact absurd g' hp
        · exact ⟨g, g'⟩
theorem FLok {S : Int → Int} (hQ : QW S) : Fnd S (nT S) (bT S) (FL S) := by
  have hn := (tkS hQ.1.1).n_le
  have h2 := hQ.1
  have h4 := hQ.2.1
  obtain ⟨F, g1, g2⟩ := sort_ex (S := S) (fun x => isF S (nT S) (bT S) x.1 x.2) ((List.range 6).flatMap (fun r : Nat => (List.range 200).map (fun t : Nat => ((r : Int), (t : Int)))))
  refine Classical.epsilon_spec (p := fun F => Fnd S (nT S) (bT S) F) ⟨F, g1, fun x => (g2 x).trans ⟨fun g => g.2, fun g => ⟨?_, g⟩⟩⟩
  obtain ⟨r0, r1, t0, t1, -⟩ := g
  have h46 := h4.2.1
  refine List.mem_flatMap.mpr ⟨x.1.toNat, List.mem_range.mpr (by omega), List.mem_map.mpr ⟨x.2.toNat, List.mem_range.mpr (by omega), ?_⟩⟩
  exact Prod.ext (by show ((x.1.toNat : Nat) : Int) = x.1; omega) (by show ((x.2.toNat : Nat) : Int) = x.2; omega)
theorem NF_le {S : Int → Int} (hQ : QW S) : NF S ≤ 1200 := by
  have hF := FLok hQ
  have hn := (tkS hQ.1.1).n_le
  have h2 := hQ.1
  have : (FL S).length ≤ 1200 := by
    refine sorted_len2 (FL S) hF.1 (fun y hy => ?_)
    obtain ⟨r0, r1, t0, t1, -⟩ := (hF.2 y).mp hy
    have := hQ.2.1.2.1
    exact ⟨r0, by omega, t0, by omega⟩
  unfold NF
  omega
theorem canR_congr {S S' : Int → Int} (h : EqS S S') (hQ : QW S) : canR S' ↔ canR S := by
  have hF := FLok hQ
  unfold canR
  rw [setL_congr h hQ hF, h.at (j := 2) (by omega), sumG_congr h hQ hF ((setL_Ch hQ hF).all (by omega))]
theorem rdS_out {S : Int → Int} (h3 : 0 ≤ S 3 ∧ S 3 ≤ 8) (h9 : 0 ≤ S 9 ∧ S 9 ≤ 24) {j : Int} (hj : ¬ (2 ≤ j ∧ j < 1054)) : rdS S j = S j := by
  unfold rdS
  have e3 : wdS S (setL S).length (wS S) (S 2 + sumG S (setL S)) 3 = S 3 := wdS_o h9 (by omega) (by omega)
  rw [if_neg (by omega), mkS_o (by omega) (by omega) (by rw [e3]; omega), wdS_o h9 (by omega) (by omega)]
theorem wdS_congr {S S' : Int → Int} (h : ∀ j, 2 ≤ j → j < 1054 → S' j = S j) {x y z : Int} {j : Int} (j0 : 2 ≤ j) (j1 : j < 1054) : wdS S' x y z j = wdS S x y z j := by
  unfold wdS
  rw [h 9 (by omega) (by omega), h j j0 j1]
  by_cases q : S 9 = 24 ∧ 442 ≤ j ∧ j < 511
  · rw [if_pos q, if_pos q, h (j + 3) (by omega) (by omega)]
  · rw [if_neg q, if_neg q]
theorem blk_eqS {S S' : Int → Int} (h : ∀ j, 2 ≤ j → j < 1054 → S' j = S j) : EqS S S' := fun j hj => h j (by unfold Rel at hj; omega) (by unfold Rel at hj; omega)
theorem rdS_congr {S S' : Int → Int} (h : ∀ j, 2 ≤ j → j < 1054 → S' j = S j) (hQ : QW S) (h9 : 0 ≤ S 9 ∧ S 9 ≤ 24) {j : Int} (j0 : 2 ≤ j) (j1 : j < 1054) : rdS S' j = rdS S j := by
  have hE := blk_eqS h
  have hF := FLok hQ
  have hC := setL_Ch hQ hF
  unfold rdS
  rw [setL_congr hE hQ hF, wS_congr hE hQ hF, sumG_congr hE hQ hF (hC.all (by omega)), h 2 (by omega) (by omega), h 8 (by omega) (by omega)]
  have hW := wdS_eqS (S := S) (x := (setL S).length) (y := wS S) (z := S 2 + sumG S (setL S)) h9
  have hQW := QW_congr hW hQ
  have hc : ∀ j, 2 ≤ j → j < 1054 → wdS S' (setL S).length (wS S) (S 2 + sumG S (setL S)) j = wdS S (setL S).length (wS S) (S 2 + sumG S (setL S)) j := fun j j0 j1 => wdS_congr h j0 j1
  rw [mkS_congr hc (blk_eqS hc) hQW (FLok hQW) (Ch_congr hW hQ hF _ _ _ hC) j0 j1]
theorem AbsR.rd {S B : Int → Int} {H : List (Int → Int)} (h : AbsR S B H) (hQ : QW B) (h9 : 0 ≤ B 9 ∧ B 9 ≤ 24) {S' : Int → Int} (e : S' = rdS S) : AbsR S' (rdS B) H := by
  have hb : ∀ j, 2 ≤ j → j < 1054 → S j = B j := fun j j0 j1 => h.at ⟨j0, j1⟩
  have hQS := h.qw hQ
  refine h.new (fun j hj => ?_) (fun j => ?_)
  · rw [e, rdS_out hQS.2.2.1 (by rw [hb 9 (by omega) (by omega)]; exact h9) hj]
  · by_cases q : 2 ≤ j ∧ j < 1054
    · rw [if_pos q, e]
      exact (rdS_congr hb hQ h9 q.1 q.2).symm
    · rw [if_neg q, rdS_out hQ.2.2.1 h9 q, h.1]
      exact if_neg q
theorem mkS_out {S : Int → Int} (h3 : 0 ≤ S 3 ∧ S 3 ≤ 8) {L : List Int} {j : Int} (hj : ¬ (2 ≤ j ∧ j < 1054)) : mkS S L j = S j := mkS_o (by omega) (by omega) (by omega)
theorem AbsR.mk {S B : Int → Int} {H : List (Int → Int)} (h : AbsR S B H) (hQ : QW B) {L : List Int} (hC : Ch B 0 0 L) {S' : Int → Int} (e : S' = mkS S L) : AbsR S' (mkS B L) H := by
  have hb : ∀ j, 2 ≤ j → j < 1054 → S j = B j := fun j j0 j1 => h.at ⟨j0, j1⟩
  have hQS := h.qw hQ
  refine h.new (fun j hj => ?_) (fun j => ?_)
  · rw [e, mkS_out hQS.2.2.1 hj]
  · by_cases q : 2 ≤ j ∧ j < 1054
    · rw [if_pos q, e]
      exact (mkS_congr hb (blk_eqS hb) hQ (FLok hQ) hC q.1 q.2).symm
    · rw [if_neg q, mkS_out hQ.2.2.1 q, h.1]
      exact if_neg q
/-! as it should be -/
theorem newL_paint {B : Int → Int} (hQ : QW B) (hp : ∀ i, 0 ≤ i → i < B 2 → 0 ≤ B (210 + i) ∧ B (210 + i) ≤ 6) : ∀ (L : List Int) (lo i : Int), 0 ≤ lo → 0 ≤ i → Ch B lo i L → ∀ x ∈ newL B L i, 0 ≤ x.2 ∧ x.2 ≤ 6 := by
  have cl : ∀ i j, 0 ≤ i → j ≤ B 2 → ∀ x ∈ cells B i j, 0 ≤ x.2 ∧ x.2 ≤ 6 := by
    intro i j i0 j1 x hx
    unfold cells at hx
    obtain ⟨k, hk, rfl⟩ := List.mem_map.mp hx
    have := List.mem_range.mp hk
    exact hp (i + k) (by omega) (by omega)
  intro L
  induction L with
  | nil => intro lo i l0 i0 h x hx; exact cl i (B 2) i0 (Int.le_refl _) x hx
  | cons f R ih =>
    intro lo i l0 i0 h x hx
    obtain ⟨h1, h2, h3, h4⟩ := h
    have bd := f_bd hQ (FLok hQ) (f := f) (by omega) h2
    unfold newL at hx
    rcases List.mem_append.mp hx with g | g
    · exact cl _ _ i0 (by omega) x g
    · rcases List.mem_append.mp g with g | g
      · obtain ⟨k, -, rfl⟩ := List.mem_map.mp g
        show 0 ≤ fR B f + 1 ∧ fR B f + 1 ≤ 6
        omega
      · exact ih _ _ (by omega) (by omega) h4 x g
theorem BW.mk {c : Int} {B : Int → Int} (h : BW c B) {L : List Int} (hC : Ch B 0 0 L) (hl : (newL B L 0).length ≤ 200) : BW (c + 1) (mkS B L) := by
  obtain ⟨hQ, hp, hz, hs, hb, hy, h8, h9, h5⟩ := h
  have h3 := hQ.2.2.1
  have h4 := hQ.2.1
  have e2 := mkS_2 B L
  have eo : ∀ j, ((3 ≤ j ∧ j < 10) ∨ (426 ≤ j)) → mkS B L j = B j := fun j hj => mkS_o (by omega) (by omega) (by omega)
  have e3 := eo 3 (by omega)
  have e4 := eo 4 (by omega)
  have e5 := eo 5 (by omega)
  have e6 := eo 6 (by omega)
  have e7 := eo 7 (by omega)
  have e8 := eo 8 (by omega)
  have e9 := eo 9 (by omega)
  have hc : 0 ≤ c := by omega
  have hRW : RW (mkS B L) := by
    unfold RW
    rw [e4]
    refine ⟨h4.1, h4.2.1, fun r r0 r1 => ?_⟩
    have g := h4.2.2 r r0 r1
    have h46 := h4.2.1
    unfold RW1 EW PW key at g ⊢
    -- all of it is read from 514 on
    have er : ∀ x, mkS B L (514 + x + 40 * r) = B (514 + x + 40 * r) ∨ x < -88 - 40 * r := fun x => by
      by_cases q : x < -88 - 40 * r
      · exact Or.inr q
      · exact Or.inl (eo _ (by omega))
    rw [eo (514 + 40 * r) (by omega), eo (515 + 40 * r) (by omega), eo (516 + 40 * r) (by omega), eo (517 + 40 * r) (by omega)]
    obtain ⟨g1, g2, g3, g4, g5, g6, g7⟩ := g
    refine ⟨g1, g2, g3, g4, fun e e0 e1 => ?_, fun p p0 p1 => ?_, fun p p' p0 p1 p2 => ?_⟩
    · rw [eo (518 + 40 * r + 3 * e + 0) (by omega), eo (518 + 40 * r + 3 * e + 1) (by omega), eo (518 + 40 * r + 3 * e + 2) (by omega)]
      exact g5 e e0 e1
    · rw [eo (536 + 40 * r + 3 * p + 0) (by omega), eo (536 + 40 * r + 3 * p + 1) (by omega), eo (536 + 40 * r + 3 * p + 2) (by omega)]
      have k := g6 p p0 p1
      refine ⟨k.1, k.2.1, k.2.2.1, k.2.2.2.1, fun q => ?_⟩
      obtain ⟨a1, a2, e, a3, a4, a5⟩ := k.2.2.2.2 q
      refine ⟨a1, a2, e, a3, a4, ?_⟩
      rw [eo (518 + 40 * r + 3 * e + 0) (by omega), eo (518 + 40 * r + 3 * e + 1) (by omega)]
      exact a5
    · rw [eo (536 + 40 * r + 3 * p + 0) (by omega), eo (536 + 40 * r + 3 * p + 1) (by omega), eo (536 + 40 * r + 3 * p + 2) (by omega), eo (536 + 40 * r + 3 * p' + 0) (by omega), eo (536 + 40 * r + 3 * p' + 1) (by omega)]
      exact g7 p p' p0 p1 p2
  refine ⟨⟨⟨by omega, by omega⟩, hRW, by omega, by have := hQ.2.2.2.1; omega, by have := hQ.2.2.2.2; omega⟩, fun i i0 i1 => ?_, fun i i0 i1 => ?_, fun j j0 j1 => ?_, fun j j0 j1 => ?_, fun k k0 k1 => ?_, by omega, by omega, by omega⟩
  · rw [e2] at i1
    rw [mkS_p ⟨i0, by omega⟩]
    exact newL_paint hQ hp L 0 0 (by omega) (by omega) hC _ (gd_mem (by omega))
  · rw [e2] at i0
    rw [mkS_t ⟨by omega, by omega⟩, List.getD_eq_getElem?_getD, List.getElem?_eq_none (by omega)]
    rfl
  · rw [e3] at j0
    rw [mkS_o (by omega) (by omega) (by omega)]
    exact hs j j0 j1
  · by_cases q : j < 410 + 2 * B 3
    · have hk : ∃ k, j = 410 + 2 * k ∨ j = 410 + 2 * k + 1 := ⟨(j - 410) / 2, by omega⟩
      obtain ⟨k, hk⟩ := hk
      have ab := alng_bd hQ (FLok hQ) hC hl (B (410 + 2 * k))
      have b0 := hb (410 + 2 * k) (by omega) (by omega)
      have b1 := hb (410 + 2 * k + 1) (by omega) (by omega)
      rcases hk with hk | hk
      · rw [hk, mkS_s0 ⟨by omega, by omega⟩]
        omega
      · rw [hk, mkS_s1 ⟨by omega, by omega⟩]
        omega
    · rw [mkS_o (by omega) (by omega) (by omega)]
      have := hb j j0 j1
      omega
  · rw [e7] at k1
    rw [e4, eo _ (by omega), eo _ (by omega)]
    exact hy k k0 k1
theorem BW.up8 {c : Int} {B : Int → Int} (h : BW c B) {X : Int → Int} (e : ∀ j, j ≠ 8 → j ≠ 9 → ¬ (442 ≤ j ∧ j < 514) → X j = B j) (h8 : 0 ≤ X 8 ∧ X 8 ≤ c) (h9 : 0 ≤ X 9 ∧ X 9 ≤ 24) : BW c X := by
  obtain ⟨hQ, hp, hz, hs, hb, hy, -, -, h5⟩ := h
  have hE : EqS B X := fun j hj => e j (by unfold Rel at hj; omega) (by unfold Rel at hj; omega) (by unfold Rel at hj; omega)
  have e2 : X 2 = B 2 := e 2 (by omega) (by omega) (by omega)
  have e3 : X 3 = B 3 := e 3 (by omega) (by omega) (by omega)
  have e4 : X 4 = B 4 := e 4 (by omega) (by omega) (by omega)
  have e5 : X 5 = B 5 := e 5 (by omega) (by omega) (by omega)
  have e7 : X 7 = B 7 := e 7 (by omega) (by omega) (by omega)
  have h2 := hQ.1
  have h3 := hQ.2.2.1
  have h7 := hQ.2.2.2.2
  refine ⟨QW_congr hE hQ, fun i i0 i1 => ?_, fun i i0 i1 => ?_, fun j j0 j1 => ?_, fun j j0 j1 => ?_, fun k k0 k1 => ?_, h8, h9, by omega⟩
  · rw [e _ (by omega) (by omega) (by omega)]; exact hp i i0 (by omega)
  · rw [e _ (by omega) (by omega) (by omega)]; exact hz i (by omega) i1
  · rw [e _ (by omega) (by omega) (by omega)]; exact hs j (by omega) j1
  · rw [e _ (by omega) (by omega) (by omega)]; exact hb j j0 j1
  · rw [e4, e _ (by omega) (by omega) (by omega), e _ (by omega) (by omega) (by omega)]; exact hy k k0 (by omega)
theorem BW.mono {c c' : Int} {B : Int → Int} (h : BW c B) (hc : c ≤ c') : BW c' B := by
  obtain ⟨hQ, hp, hz, hs, hb, hy, h8, h9, h5⟩ := h
  exact ⟨hQ, hp, hz, hs, fun j j0 j1 => by have := hb j j0 j1; omega, hy, by omega, h9, h5⟩
theorem wdS_9 {S : Int → Int} {x y z : Int} (h9 : 0 ≤ S 9 ∧ S 9 ≤ 24) : 0 ≤ wdS S x y z 9 ∧ wdS S x y z 9 ≤ 24 := by
  unfold wdS
  rw [if_pos rfl]
  split <;> omega
theorem BW.rd {c : Int} {B : Int → Int} (h : BW c B) (hc : canR B) : BW (c + 1) (rdS B) := by
  have hQ := h.1
  have h8 := h.2.2.2.2.2.2.1
  have h9 := h.2.2.2.2.2.2.2.1
  have hF := FLok hQ
  have hC := setL_Ch hQ hF
  have hE := wdS_eqS (S := B) (x := (setL B).length) (y := wS B) (z := B 2 + sumG B (setL B)) h9
  have hW : BW c (wdS B (setL B).length (wS B) (B 2 + sumG B (setL B))) := h.up8 (fun j _ j9 jb => wdS_o h9 j9 jb) (by rw [wdS_o h9 (by omega) (by omega)]; exact h8) (wdS_9 h9)
  have hl : (newL (wdS B (setL B).length (wS B) (B 2 + sumG B (setL B))) (setL B) 0).length ≤ 200 := by
    rw [newL_congr hE hQ hF _ 0 0 (by omega) (by omega) hC]
    have := newL_len _ _ _ hC
    have := hc.2
    omega
  have g := hW.mk (Ch_congr hE hQ hF _ _ _ hC) hl
  refine g.up8 (X := rdS B) (fun j j8 _ _ => if_neg j8) ?_ ?_
  · have : rdS B 8 = B 8 + 1 := if_pos rfl
    omega
  · have : rdS B 9 = mkS (wdS B (setL B).length (wS B) (B 2 + sumG B (setL B))) (setL B) 9 := if_neg (by omega)
    rw [this]
    exact g.2.2.2.2.2.2.2.1
/-! apply, make -/
section RV
variable {E : jE} {G : jG} {m : Nat} {I : jM} {B B' : Int → Int} {H H' : List (Int → Int)} {T : List Int} {fk fp c : Int}
theorem BW.sp {c : Int} {B : Int → Int} (h : BW c B) (hc : c ≤ 1000000) : ∀ j, 410 ≤ j → j < 426 → -900000000 ≤ B j ∧ B j ≤ 900000000 := fun j j0 j1 => by
  have := h.2.2.2.2.1 j j0 j1
  have := h.2.2.2.2.2.2.1
  omega
def canA (B : Int → Int) (i : Int) : Prop := (0 ≤ i ∧ i < NF B) ∧ ¬ fSi B i ∧ B 2 + grow B i ≤ 200
theorem ref_apply (hm : WX10 G m) (h : RR m I B H B' H' T fk fp) (hW : BW c B) (hc : c ≤ 1000000) {i : Int} : jRI E (jA m) kX10_apply [VR m, VI i] G I (fun x I' => (¬ canA B i → x = -1 ∧ RR m I' B H B' H' T fk fp) ∧ (canA B i → x = mkS B [i] 2 ∧ RR m I' (mkS B [i]) (pushH H B) B' H' T fk fp)) := by
  have hQ := hW.1
  have hQS := h.1.qw hQ
  have hES := h.1.eqS
  have hF := FLok hQ
  have hN := NF_le hQ
  have eN : NF (I (m + 1)) = NF B := by unfold NF; rw [FL_congr hES hQS]
  have eS : fSi B = fSi (I (m + 1)) := fSi_congr hES hQS (FLok hQS)
  refine en_X10_apply hm (fun _ _ => ?_)
  refine jRI.mono (q := fun x I1 => x = jI (0 ≤ i ∧ i < NF B) ∧ WFd m I I1 ∧ LFS m (I (m + 1)) I1) (en_X10_isFinding hm (fun _ _ => (sp_X10_layFS hm rfl hQS).mono (fun I1 _ g => ?_))) (fun x I1 _ _ g => ?_)
  · have e17 := g.2.2.1.1
    have e17' : I1 m 17 = NF B := by rw [← eN]; exact e17
    have hN0 : 0 ≤ NF B := by unfold NF; omega
    refine ⟨⟨by omega, by omega⟩, ?_, g⟩
    rw [e17']
    exact jI_congr (by omega)
  · obtain ⟨rfl, g1, g2⟩ := g
    have hA1 : RR m I1 B H B' H' T fk fp := h.wz g1.wz (by rw [g1.a]; exact h.1)
    refine ⟨fun q => ⟨fun _ => ⟨rfl, hA1⟩, fun g => absurd g.1 (jI_n q)⟩, fun q => ?_⟩
    have hi := jI_p q
    refine ⟨⟨by omega, by omega⟩, fun _ => ?_⟩
    have e13 := (g2.2.2.2.2.1 i hi.1 (by rw [eN]; exact hi.2)).2.1
    rw [e13]
    refine ⟨fun q2 => ⟨fun _ => ⟨rfl, hA1⟩, fun g => absurd (jI_p q2) (by rw [← eS]; exact g.2.1)⟩, fun q2 => ?_⟩
    have hns : ¬ fSi B i := by rw [eS]; exact jI_n q2
    have hC1 : Ch (I (m + 1)) 0 0 [i] := one_Ch hQS (FLok hQS) hi.1 (by rw [eN]; exact hi.2)
    have hCB : Ch B 0 0 [i] := one_Ch hQ hF hi.1 hi.2
    refine (sp_X10_longThen hm g2.2.1 g2.2.2.1 g2.2.2.2.1 hQS (by rw [g1.a]) hC1 (one_Cho hi.1) (by simp)).mono (fun x I6 _ _ hx => ?_)
    obtain ⟨rfl, rfl⟩ := hx
    have eg : I (m + 1) 2 + sumG (I (m + 1)) [i] = B 2 + grow B i := by
      rw [h.at (by omega)]
      show B 2 + (grow (I (m + 1)) i + 0) = _
      rw [grow_congr hES.symm hQ hF hi.1 hi.2]
      omega
    rw [eg]
    refine ⟨fun q3 => ?_, fun q3 => ⟨fun _ => ⟨rfl, hA1⟩, fun g => absurd g.2.2 q3⟩⟩
    have hcan : canA B i := ⟨hi, hns, q3⟩
    refine (sp_keepR hm hA1).mono (fun I9 _ g => ?_)
    obtain ⟨k1, k2⟩ := g
    have hQ9 := k1.1.qw hQ
    have hE9 : EqS (I (m + 1)) (I9 (m + 1)) := hES.trans k1.1.eqS.symm
    have hL9 : LFS m (I9 (m + 1)) I9 := LFS_congr hE9 hQS g2 rfl (fun a j ha => k2 a j (by omega))
    have hl9 : (newL (I9 (m + 1)) [i] 0).length ≤ 200 := by
      rw [newL_congr k1.1.eqS.symm hQ hF _ 0 0 (by omega) (by omega) hCB]
      have := newL_len _ _ _ hCB
      have e : sumG B [i] = grow B i := by show grow B i + 0 = _; omega
      omega
    refine (sp_X10_makeNow hm hQ9 hL9 (Ch_congr hE9 hQS (FLok hQS) _ _ _ hC1) (by simp) hl9 (fun j j0 j1 => by rw [k1.at (by omega)]; exact hW.sp hc j j0 j1) (one_Cho hi.1)).mono (fun I10 _ g => ⟨fun g' => absurd hcan g', fun _ => ?_⟩)
    obtain ⟨p1, p2⟩ := g
    have hr : RR m I10 (mkS B [i]) (pushH H B) B' H' T fk fp := k1.wz p2.wz (k1.1.mk hQ hCB p1)
    exact ⟨hr.at (by omega), hr⟩
/-- at most n rounds: how many, and what is then -/
noncomputable def mkR : Nat → (Int → Int) → Nat × (Int → Int)
  | 0, B => (0, B)
  | n + 1, B => @ite _ (canR B) (Classical.propDecidable _) ((mkR n (rdS B)).1 + 1, (mkR n (rdS B)).2) (0, B)
theorem mkR_s (n : Nat) (B : Int → Int) : mkR (n + 1) B = @ite _ (canR B) (Classical.propDecidable _) ((mkR n (rdS B)).1 + 1, (mkR n (rdS B)).2) (0, B) := rfl
theorem ref_make (hm : WX10 G m) (h : RR m I B H B' H' T fk fp) (hW : BW c B) (hc : c ≤ 900000) {n : Int} : jRI E (jA m) kX10_make [VR m, VI n] G I (fun x I' => (¬ (1 ≤ n ∧ n ≤ 30) → x = -1 ∧ RR m I' B H B' H' T fk fp) ∧ (1 ≤ n ∧ n ≤ 30 → x = (mkR n.toNat B).1 ∧ RR m I' (mkR n.toNat B).2 (pushH H B) B' H' T fk fp)) := by
  refine en_X10_make hm (fun _ _ => ⟨fun q => (sp_keepR hm h).mono (fun I2 _ g => ?_), fun q => ⟨fun _ => ⟨rfl, h⟩, fun g => absurd g q⟩⟩)
  have loop : ∀ (d : Nat) (k : Int) (X : Int → Int) (I1 : jM), 0 ≤ k → k + d = n → RR m I1 X (pushH H B) B' H' T fk fp → BW (c + k) X → k + (mkR d X).1 = (mkR n.toNat B).1 → (mkR d X).2 = (mkR n.toNat B).2 → jOI E (jA m) kX10_make 18 [VR m, VI n, VI k] G I1 (fun x I' => (¬ (1 ≤ n ∧ n ≤ 30) → x = -1 ∧ RR m I' B H B' H' T fk fp) ∧ (1 ≤ n ∧ n ≤ 30 → x = (mkR n.toNat B).1 ∧ RR m I' (mkR n.toNat B).2 (pushH H B) B' H' T fk fp)) := by
    intro d
    induction d with
    | zero =>
      intro k X I1 k0 k1 hr hb e1 e2
      refine st_X10_make_18 hm (fun _ _ _ => ⟨fun _ => ⟨fun g => absurd q g, fun _ => ⟨?_, ?_⟩⟩, fun q => by omega⟩)
      · rw [← e1]; unfold mkR; simp
      · rw [← e2]; exact hr
    | succ d ih =>
      intro k X I1 k0 k1 hr hb e1 e2
      have hQX := hb.1
      have hQS := hr.1.qw hQX
      have e9 : I1 (m + 1) 9 = X 9 := hr.at (by omega)
      have e8 : I1 (m + 1) 8 = X 8 := hr.at (by omega)
      have h8 := hb.2.2.2.2.2.2.1
      have ecan := canR_congr hr.1.eqS hQS
      refine st_X10_make_18 hm (fun _ _ _ => ⟨fun q => by omega, fun _ => ?_⟩)
      refine (sp_X10_roundNow hm rfl hQS (by rw [e9]; exact hb.2.2.2.2.2.2.2.1) (by rw [e8]; omega) (fun j j0 j1 => by rw [hr.at (by omega)]; exact hb.sp (by omega) j j0 j1)).mono (fun x I2 _ _ g => ?_)
      obtain ⟨rfl, g1, g2, g3⟩ := g
      rw [mkR_s] at e1 e2
      refine ⟨fun q1 => ?_, fun q1 => ?_⟩
      · have hn := jI_n q1
        rw [if_neg (fun g => hn (ecan.mp g))] at e1 e2
        refine ⟨fun g => absurd q g, fun _ => ⟨?_, ?_⟩⟩
        · rw [← e1]; simp
        · rw [← e2]
          exact hr.wz g1 (by rw [g2 hn]; exact hr.1)
      · have hp := jI_p q1
        have hpX := ecan.mpr hp
        rw [if_pos hpX] at e1 e2
        refine ⟨⟨by omega, by omega⟩, ih (k + 1) (rdS X) I2 (by omega) (by omega) (hr.wz g1 (hr.1.rd hQX hb.2.2.2.2.2.2.2.1 (g3 hp))) ?_ ?_ e2⟩
        · have := hb.rd hpX
          rw [show c + (k + 1) = c + k + 1 by omega]
          exact this
        · rw [← e1]
          show _ = k + (((mkR d (rdS X)).1 + 1 : Nat) : Int)
          omega
  exact loop n.toNat 0 B I2 (by omega) (by omega) g.1 (by rw [show c + 0 = c by omega]; exact hW) (by omega) rfl
theorem ref_fault (hm : WX10 G m) (h : RR m I B H B' H' T fk fp) {w : Int} : jRI E (jA m) kX10_fault [VR m, VI w] G I (fun x I' => x = (if w = 0 then fk else if w = 1 then fp else -1) ∧ RR m I' B H B' H' T fk fp) := by
  refine en_X10_fault hm (fun _ _ => ⟨fun q => ⟨fun q1 => ⟨by rw [if_neg q, if_neg q1], h⟩, fun q1 => ⟨by rw [if_neg q, if_pos q1]; exact h.2.2.2.2, h⟩⟩, fun q => ⟨by rw [if_pos q]; exact h.2.2.2.1, h⟩⟩)
end RV
