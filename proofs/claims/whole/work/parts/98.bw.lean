/-! ===== blocks stay as they should be ===== -/
def EqL (S S' : Int → Int) : Prop := S' 4 = S 4 ∧ ∀ j, 514 ≤ j → j < 754 → S' j = S j
section BWS
variable {S S' : Int → Int}
theorem EqL.el (h : EqL S S') {r e w : Int} (hr : 0 ≤ r ∧ r < 6) (he : 0 ≤ e ∧ e < 6) (hw : 0 ≤ w ∧ w < 3) : S' (518 + 40 * r + 3 * e + w) = S (518 + 40 * r + 3 * e + w) := h.2 _ (by omega) (by omega)
theorem EqL.pt (h : EqL S S') {r e w : Int} (hr : 0 ≤ r ∧ r < 6) (he : 0 ≤ e ∧ e < 6) (hw : 0 ≤ w ∧ w < 3) : S' (536 + 40 * r + 3 * e + w) = S (536 + 40 * r + 3 * e + w) := h.2 _ (by omega) (by omega)
theorem keyL_congr (h : EqL S S') {r e : Int} (hr : 0 ≤ r ∧ r < 6) (he : 0 ≤ e ∧ e < 6) : key S' r e = key S r e := by
  unfold key
  rw [h.el hr he (w := 0) (by omega), h.el hr he (w := 1) (by omega)]
theorem EWL_congr (h : EqL S S') {r e : Int} (hr : 0 ≤ r ∧ r < 6) (he : 0 ≤ e ∧ e < 6) (hw : EW S r e) : EW S' r e := by
  unfold EW at *
  rw [h.el hr he (w := 0) (by omega), h.el hr he (w := 1) (by omega), h.el hr he (w := 2) (by omega)]
  exact hw
theorem RW1L_congr (h : EqL S S') {r : Int} (hr : 0 ≤ r ∧ r < 6) (hw : RW1 S r) : RW1 S' r := by
  obtain ⟨h1, h2, h3, h4, h5, h6, h7⟩ := hw
  have e0 : S' (514 + 40 * r) = S (514 + 40 * r) := h.2 _ (by omega) (by omega)
  have e1 : S' (515 + 40 * r) = S (515 + 40 * r) := h.2 _ (by omega) (by omega)
  have e2 : S' (516 + 40 * r) = S (516 + 40 * r) := h.2 _ (by omega) (by omega)
  have e3 : S' (517 + 40 * r) = S (517 + 40 * r) := h.2 _ (by omega) (by omega)
  unfold RW1
  rw [e0, e1, e2, e3]
  refine ⟨h1, h2, h3, h4, fun e e0 e1 => EWL_congr h hr ⟨e0, by omega⟩ (h5 e e0 e1), fun p p0 p1 => ?_, fun p p' p0 p1 p2 => ?_⟩
  · have g := h6 p p0 p1
    unfold PW at g ⊢
    rw [h.pt hr (e := p) (w := 0) ⟨p0, by omega⟩ (by omega), h.pt hr (e := p) (w := 1) ⟨p0, by omega⟩ (by omega), h.pt hr (e := p) (w := 2) ⟨p0, by omega⟩ (by omega), e2]
    refine ⟨g.1, g.2.1, g.2.2.1, g.2.2.2.1, fun q => ?_⟩
    obtain ⟨a1, a2, e, a3, a4, a5⟩ := g.2.2.2.2 q
    exact ⟨a1, a2, e, a3, a4, by rw [keyL_congr h hr ⟨a3, by omega⟩]; exact a5⟩
  · rw [h.pt hr (e := p) (w := 0) ⟨p0, by omega⟩ (by omega), h.pt hr (e := p) (w := 1) ⟨p0, by omega⟩ (by omega), h.pt hr (e := p) (w := 2) ⟨p0, by omega⟩ (by omega), h.pt hr (e := p') (w := 0) ⟨by omega, by omega⟩ (by omega), h.pt hr (e := p') (w := 1) ⟨by omega, by omega⟩ (by omega)]
    exact h7 p p' p0 p1 p2
theorem RWL (h : EqL S S') (hw : RW S) : RW S' := by
  unfold RW
  rw [h.1]
  exact ⟨hw.1, hw.2.1, fun r r0 r1 => RW1L_congr h ⟨r0, by have := hw.2.1; omega⟩ (hw.2.2 r r0 r1)⟩
variable {c : Int} {B : Int → Int}
theorem eqL_up {j v : Int} (h : j ≠ 4) (h' : ¬ (514 ≤ j ∧ j < 754)) : EqL B (up B j v) := ⟨up_ne (by omega), fun k k0 k1 => up_ne (by omega)⟩
theorem EqL.trans {S'' : Int → Int} (h : EqL S S') (h' : EqL S' S'') : EqL S S'' := ⟨h'.1.trans h.1, fun j a b => (h'.2 j a b).trans (h.2 j a b)⟩
theorem BW.s5 (h : BW c B) {v : Int} (hv : 0 ≤ v ∧ v ≤ 1) : BW c (up B 5 v) := by
  obtain ⟨⟨h2, hR, h3, h6, h7⟩, hp, hz, hs, hb, hy, h8, h9, h5⟩ := h
  have u : ∀ j, j ≠ 5 → up B 5 v j = B j := fun j q => up_ne q
  refine ⟨⟨by rw [u 2 (by omega)]; exact h2, RWL (eqL_up (by omega) (by omega)) hR, by rw [u 3 (by omega)]; exact h3, by rw [u 6 (by omega)]; exact h6, by rw [u 7 (by omega)]; exact h7⟩, fun i i0 i1 => ?_, fun i i0 i1 => ?_, fun j j0 j1 => ?_, fun j j0 j1 => ?_, fun k k0 k1 => ?_, by rw [u 8 (by omega)]; exact h8, by rw [u 9 (by omega)]; exact h9, by rw [up_eq]; exact hv⟩
  · rw [u 2 (by omega)] at i1; rw [u _ (by omega)]; exact hp i i0 i1
  · rw [u 2 (by omega)] at i0; rw [u _ (by omega)]; exact hz i i0 i1
  · rw [u 3 (by omega)] at j0; rw [u _ (by omega)]; exact hs j j0 j1
  · rw [u _ (by omega)]; exact hb j j0 j1
  · rw [u 7 (by omega)] at k1; rw [u _ (by omega), u 4 (by omega), u _ (by omega)]; exact hy k k0 k1
theorem BW.s6 (h : BW c B) {v : Int} (hv : 0 ≤ v ∧ v ≤ 20) : BW c (up B 6 v) := by
  obtain ⟨⟨h2, hR, h3, h6, h7⟩, hp, hz, hs, hb, hy, h8, h9, h5⟩ := h
  have u : ∀ j, j ≠ 6 → up B 6 v j = B j := fun j q => up_ne q
  refine ⟨⟨by rw [u 2 (by omega)]; exact h2, RWL (eqL_up (by omega) (by omega)) hR, by rw [u 3 (by omega)]; exact h3, by rw [up_eq]; exact hv, by rw [u 7 (by omega)]; exact h7⟩, fun i i0 i1 => ?_, fun i i0 i1 => ?_, fun j j0 j1 => ?_, fun j j0 j1 => ?_, fun k k0 k1 => ?_, by rw [u 8 (by omega)]; exact h8, by rw [u 9 (by omega)]; exact h9, by rw [u 5 (by omega)]; exact h5⟩
  · rw [u 2 (by omega)] at i1; rw [u _ (by omega)]; exact hp i i0 i1
  · rw [u 2 (by omega)] at i0; rw [u _ (by omega)]; exact hz i i0 i1
  · rw [u 3 (by omega)] at j0; rw [u _ (by omega)]; exact hs j j0 j1
  · rw [u _ (by omega)]; exact hb j j0 j1
  · rw [u 7 (by omega)] at k1; rw [u _ (by omega), u 4 (by omega), u _ (by omega)]; exact hy k k0 k1
theorem BW.putB (h : BW c B) {i b : Int} (hi : 0 ≤ i ∧ i < B 2) : BW c (up (up B (10 + i) b) (210 + i) 0) := by
  obtain ⟨⟨h2, hR, h3, h6, h7⟩, hp, hz, hs, hb, hy, h8, h9, h5⟩ := h
  have u : ∀ j, j ≠ 10 + i → j ≠ 210 + i → up (up B (10 + i) b) (210 + i) 0 j = B j := fun j q q' => by rw [up_ne q', up_ne q]
  refine ⟨⟨by rw [u 2 (by omega) (by omega)]; exact h2, RWL ((eqL_up (by omega) (by omega)).trans (eqL_up (by omega) (by omega))) hR, by rw [u 3 (by omega) (by omega)]; exact h3, by rw [u 6 (by omega) (by omega)]; exact h6, by rw [u 7 (by omega) (by omega)]; exact h7⟩, fun k i0 i1 => ?_, fun k i0 i1 => ?_, fun j j0 j1 => ?_, fun j j0 j1 => ?_, fun k k0 k1 => ?_, by rw [u 8 (by omega) (by omega)]; exact h8, by rw [u 9 (by omega) (by omega)]; exact h9, by rw [u 5 (by omega) (by omega)]; exact h5⟩
  · rw [u 2 (by omega) (by omega)] at i1
    by_cases q : k = i
    · rw [q, up_eq]; omega
    · rw [u _ (by omega) (by omega)]; exact hp k i0 i1
  · rw [u 2 (by omega) (by omega)] at i0; rw [u _ (by omega) (by omega)]; exact hz k i0 i1
  · rw [u 3 (by omega) (by omega)] at j0; rw [u _ (by omega) (by omega)]; exact hs j j0 j1
  · rw [u _ (by omega) (by omega)]; exact hb j j0 j1
  · rw [u 7 (by omega) (by omega)] at k1; rw [u _ (by omega) (by omega), u 4 (by omega) (by omega), u _ (by omega) (by omega)]; exact hy k k0 k1
theorem BW.onn (h : BW c B) {r z : Int} (hr : 0 ≤ r ∧ r < B 4) (hz : 0 ≤ z ∧ z ≤ 1) : BW c (up B (515 + 40 * r) z) := by
  refine h.on ⟨fun j hj => up_ne (fun e => hj ⟨?_, ?_, ?_⟩), fun k k0 k1 => ?_⟩
  · rw [e]; omega
  · omega
  · omega
  · by_cases q : k = r
    · rw [q, up_eq]; exact hz
    · rw [up_ne (by omega)]
      exact (h.1.2.1.2.2 k k0 k1).2.1
theorem BW.no (h : BW c B) : BW c (noY B) := by
  obtain ⟨⟨h2, hR, h3, h6, h7⟩, hp, hz, hs, hb, hy, h8, h9, h5⟩ := h
  have u : ∀ j, j ≠ 7 → ¬ (426 ≤ j ∧ j < 442) → noY B j = B j := fun j a b => by unfold noY; rw [if_neg (by omega)]
  have z7 : noY B 7 = 0 := by unfold noY; rw [if_pos (by omega)]
  refine ⟨⟨by rw [u 2 (by omega) (by omega)]; exact h2, RWL ⟨u 4 (by omega) (by omega), fun j j0 j1 => u j (by omega) (by omega)⟩ hR, by rw [u 3 (by omega) (by omega)]; exact h3, by rw [u 6 (by omega) (by omega)]; exact h6, by omega⟩, fun k i0 i1 => ?_, fun k i0 i1 => ?_, fun j j0 j1 => ?_, fun j j0 j1 => ?_, fun k k0 k1 => by omega, by rw [u 8 (by omega) (by omega)]; exact h8, by rw [u 9 (by omega) (by omega)]; exact h9, by rw [u 5 (by omega) (by omega)]; exact h5⟩
  · rw [u 2 (by omega) (by omega)] at i1; rw [u _ (by omega) (by omega)]; exact hp k i0 i1
  · rw [u 2 (by omega) (by omega)] at i0; rw [u _ (by omega) (by omega)]; exact hz k i0 i1
  · rw [u 3 (by omega) (by omega)] at j0; rw [u _ (by omega) (by omega)]; exact hs j j0 j1
  · rw [u _ (by omega) (by omega)]; exact hb j j0 j1
theorem BW.tx (h : BW c B) {T : List Int} (hl : T.length ≤ 200) : BW c (txB B T) := by
  obtain ⟨⟨h2, hR, h3, h6, h7⟩, hp, hz, hs, hb, hy, h8, h9, h5⟩ := h
  have u : ∀ j, j ≠ 2 → j ≠ 3 → ¬ (10 ≤ j ∧ j < 426) → txB B T j = B j := fun j a b d => by unfold txB; rw [if_neg a, if_neg b, if_neg (by omega), if_neg (by omega)]
  have z2 : txB B T 2 = T.length := rfl
  have z3 : txB B T 3 = 0 := rfl
  have zp : ∀ j, 210 ≤ j → j < 426 → txB B T j = 0 := fun j a b => by unfold txB; rw [if_neg (by omega), if_neg (by omega), if_neg (by omega), if_pos (by omega)]
  have zt : ∀ i, 0 ≤ i → i < 200 → txB B T (10 + i) = T.getD i.toNat 0 := fun i a b => by unfold txB; rw [if_neg (by omega), if_neg (by omega), if_pos (by omega), show (10 + i - 10).toNat = i.toNat by omega]
  refine ⟨⟨by omega, RWL ⟨u 4 (by omega) (by omega) (by omega), fun j j0 j1 => u j (by omega) (by omega) (by omega)⟩ hR, by omega, by rw [u 6 (by omega) (by omega) (by omega)]; exact h6, by rw [u 7 (by omega) (by omega) (by omega)]; exact h7⟩, fun k i0 i1 => by rw [zp _ (by omega) (by omega)]; omega, fun k i0 i1 => ?_, fun j j0 j1 => zp _ (by omega) (by omega), fun j j0 j1 => by rw [zp _ (by omega) (by omega)]; omega, fun k k0 k1 => ?_, by rw [u 8 (by omega) (by omega) (by omega)]; exact h8, by rw [u 9 (by omega) (by omega) (by omega)]; exact h9, by rw [u 5 (by omega) (by omega) (by omega)]; exact h5⟩
  · rw [zt k (by omega) i1, List.getD_eq_getElem?_getD, List.getElem?_eq_none (by omega)]
    rfl
  · rw [u 7 (by omega) (by omega) (by omega)] at k1; rw [u _ (by omega) (by omega) (by omega), u 4 (by omega) (by omega) (by omega), u _ (by omega) (by omega) (by omega)]; exact hy k k0 k1
theorem BW.sil3 (h : BW c B) {x y : Int} (hx : 0 ≤ x ∧ x < y ∧ y ≤ B 2 ∧ B 3 < 8) : BW c (up (up (up B (410 + 2 * B 3) x) (410 + 2 * B 3 + 1) y) 3 (B 3 + 1)) := by
  obtain ⟨⟨h2, hR, h3, h6, h7⟩, hp, hz, hs, hb, hy, h8, h9, h5⟩ := h
  have u : ∀ j, j ≠ 3 → j ≠ 410 + 2 * B 3 → j ≠ 410 + 2 * B 3 + 1 → up (up (up B (410 + 2 * B 3) x) (410 + 2 * B 3 + 1) y) 3 (B 3 + 1) j = B j := fun j a b d => by rw [up_ne a, up_ne d, up_ne b]
  have z3 : up (up (up B (410 + 2 * B 3) x) (410 + 2 * B 3 + 1) y) 3 (B 3 + 1) 3 = B 3 + 1 := up_eq
  refine ⟨⟨by rw [u 2 (by omega) (by omega) (by omega)]; exact h2, RWL ⟨u 4 (by omega) (by omega) (by omega), fun j j0 j1 => u j (by omega) (by omega) (by omega)⟩ hR, by omega, by rw [u 6 (by omega) (by omega) (by omega)]; exact h6, by rw [u 7 (by omega) (by omega) (by omega)]; exact h7⟩, fun k i0 i1 => ?_, fun k i0 i1 => ?_, fun j j0 j1 => ?_, fun j j0 j1 => ?_, fun k k0 k1 => ?_, by rw [u 8 (by omega) (by omega) (by omega)]; exact h8, by rw [u 9 (by omega) (by omega) (by omega)]; exact h9, by rw [u 5 (by omega) (by omega) (by omega)]; exact h5⟩
  · rw [u 2 (by omega) (by omega) (by omega)] at i1; rw [u _ (by omega) (by omega) (by omega)]; exact hp k i0 i1
  · rw [u 2 (by omega) (by omega) (by omega)] at i0; rw [u _ (by omega) (by omega) (by omega)]; exact hz k i0 i1
  · rw [z3] at j0; rw [u _ (by omega) (by omega) (by omega)]; exact hs j (by omega) j1
  · by_cases q : j = 410 + 2 * B 3
    · rw [up_ne (by omega), up_ne (by omega), q, up_eq]; omega
    · by_cases q' : j = 410 + 2 * B 3 + 1
      · rw [up_ne (by omega), q', up_eq]; omega
      · rw [u j (by omega) q q']; exact hb j j0 j1
  · rw [u 7 (by omega) (by omega) (by omega)] at k1; rw [u _ (by omega) (by omega) (by omega), u 4 (by omega) (by omega) (by omega), u _ (by omega) (by omega) (by omega)]; exact hy k k0 k1
theorem BW.hr (h : BW c B) {i : Int} (hi : 0 ≤ i ∧ i < B 3) : BW c (hrB B i) := by
  obtain ⟨⟨h2, hR, h3, h6, h7⟩, hp, hz, hs, hb, hy, h8, h9, h5⟩ := h
  have u : ∀ j, j ≠ 3 → ¬ (410 ≤ j ∧ j < 426) → hrB B i j = B j := fun j a b => by unfold hrB; rw [if_neg a, if_neg (by omega), if_neg (by omega)]
  have z3 : hrB B i 3 = B 3 - 1 := rfl
  refine ⟨⟨by rw [u 2 (by omega) (by omega)]; exact h2, RWL ⟨u 4 (by omega) (by omega), fun j j0 j1 => u j (by omega) (by omega)⟩ hR, by omega, by rw [u 6 (by omega) (by omega)]; exact h6, by rw [u 7 (by omega) (by omega)]; exact h7⟩, fun k i0 i1 => ?_, fun k i0 i1 => ?_, fun j j0 j1 => ?_, fun j j0 j1 => ?_, fun k k0 k1 => ?_, by rw [u 8 (by omega) (by omega)]; exact h8, by rw [u 9 (by omega) (by omega)]; exact h9, by rw [u 5 (by omega) (by omega)]; exact h5⟩
  · rw [u 2 (by omega) (by omega)] at i1; rw [u _ (by omega) (by omega)]; exact hp k i0 i1
  · rw [u 2 (by omega) (by omega)] at i0; rw [u _ (by omega) (by omega)]; exact hz k i0 i1
  · rw [z3] at j0
    unfold hrB
    rw [if_neg (by omega)]
    by_cases q : 410 + j = 410 + 2 * (B 3 - 1) ∨ 410 + j = 410 + 2 * (B 3 - 1) + 1
    · rw [if_pos q]
    · rw [if_neg q, if_neg (by omega)]; exact hs j (by omega) j1
  · unfold hrB
    rw [if_neg (by omega)]
    by_cases q : j = 410 + 2 * (B 3 - 1) ∨ j = 410 + 2 * (B 3 - 1) + 1
    · rw [if_pos q]; omega
    · rw [if_neg q]
      by_cases q' : 410 + 2 * i ≤ j ∧ j < 410 + 2 * (B 3 - 1)
      · rw [if_pos q']; exact hb (j + 2) (by omega) (by omega)
      · rw [if_neg q']; exact hb j j0 j1
  · rw [u 7 (by omega) (by omega)] at k1; rw [u _ (by omega) (by omega), u 4 (by omega) (by omega), u _ (by omega) (by omega)]; exact hy k k0 k1
theorem BW.yl (h : BW c B) {r o : Int} (hr : 0 ≤ r ∧ r < B 4) (ho : 0 ≤ o ∧ o < B 4) (h8' : B 7 < 8) : BW c (up (up (up B (426 + 2 * B 7) r) (426 + 2 * B 7 + 1) o) 7 (B 7 + 1)) := by
  obtain ⟨⟨h2, hR, h3, h6, h7⟩, hp, hz, hs, hb, hy, h8, h9, h5⟩ := h
  have u : ∀ j, j ≠ 7 → j ≠ 426 + 2 * B 7 → j ≠ 426 + 2 * B 7 + 1 → up (up (up B (426 + 2 * B 7) r) (426 + 2 * B 7 + 1) o) 7 (B 7 + 1) j = B j := fun j a b d => by rw [up_ne a, up_ne d, up_ne b]
  have z7 : up (up (up B (426 + 2 * B 7) r) (426 + 2 * B 7 + 1) o) 7 (B 7 + 1) 7 = B 7 + 1 := up_eq
  refine ⟨⟨by rw [u 2 (by omega) (by omega) (by omega)]; exact h2, RWL ⟨u 4 (by omega) (by omega) (by omega), fun j j0 j1 => u j (by omega) (by omega) (by omega)⟩ hR, by rw [u 3 (by omega) (by omega) (by omega)]; exact h3, by rw [u 6 (by omega) (by omega) (by omega)]; exact h6, by omega⟩, fun k i0 i1 => ?_, fun k i0 i1 => ?_, fun j j0 j1 => ?_, fun j j0 j1 => ?_, fun k k0 k1 => ?_, by rw [u 8 (by omega) (by omega) (by omega)]; exact h8, by rw [u 9 (by omega) (by omega) (by omega)]; exact h9, by rw [u 5 (by omega) (by omega) (by omega)]; exact h5⟩
  · rw [u 2 (by omega) (by omega) (by omega)] at i1; rw [u _ (by omega) (by omega) (by omega)]; exact hp k i0 i1
  · rw [u 2 (by omega) (by omega) (by omega)] at i0; rw [u _ (by omega) (by omega) (by omega)]; exact hz k i0 i1
  · rw [u 3 (by omega) (by omega) (by omega)] at j0; rw [u _ (by omega) (by omega) (by omega)]; exact hs j j0 j1
  · rw [u _ (by omega) (by omega) (by omega)]; exact hb j j0 j1
  · rw [z7] at k1
    rw [u 4 (by omega) (by omega) (by omega)]
    by_cases q : k = B 7
    · rw [q]
      refine ⟨?_, ?_⟩
      · rw [up_ne (by omega), up_ne (by omega), up_eq]; exact hr
      · rw [up_ne (by omega), up_eq]; exact ho
    · rw [u _ (by omega) (by omega) (by omega), u _ (by omega) (by omega) (by omega)]; exact hy k k0 (by omega)
theorem BW.mkRn : ∀ (n : Nat) {c : Int} {B : Int → Int}, BW c B → BW (c + n) (mkR n B).2 := by
  intro n
  induction n with
  | zero => intro c B h; rw [show c + ((0 : Nat) : Int) = c by omega]; exact h
  | succ n ih =>
    intro c B h
    rw [mkR_s]
    by_cases q : canR B
    · rw [if_pos q]
      have := ih (h.rd q)
      rw [show c + ((n + 1 : Nat) : Int) = c + 1 + n by omega]
      exact this
    · rw [if_neg q]
      exact h.mono (by omega)
theorem BW.ru (h : BW c B) {T : List Int} {rl : List rul} (h300 : T.length ≤ 300) (hp' : pAll T = .ok rl) : BW c (ruB B T rl) := by
  obtain ⟨hW, h6'⟩ := pAll_ok hp'
  obtain ⟨⟨h2, hR, h3, h6, h7⟩, hp, hz, hs, hb, hy, h8, h9, h5⟩ := h
  have u : ∀ j, j ≠ 4 → j ≠ 7 → ¬ (426 ≤ j ∧ j < 442) → j < 514 → ruB B T rl j = B j := fun j a b d g => by
    unfold ruB
    rw [if_neg a, if_neg b, if_neg d, if_neg (by omega), if_neg (by omega)]
  have z7 : ruB B T rl 7 = 0 := rfl
  have z4 : ruB B T rl 4 = rl.length := rfl
  refine ⟨⟨by rw [u 2 (by omega) (by omega) (by omega) (by omega)]; exact h2, ⟨by omega, by omega, fun r r0 r1 => ?_⟩, by rw [u 3 (by omega) (by omega) (by omega) (by omega)]; exact h3, by rw [u 6 (by omega) (by omega) (by omega) (by omega)]; exact h6, by omega⟩, fun k i0 i1 => ?_, fun k i0 i1 => ?_, fun j j0 j1 => ?_, fun j j0 j1 => ?_, fun k k0 k1 => by omega, by rw [u 8 (by omega) (by omega) (by omega) (by omega)]; exact h8, by rw [u 9 (by omega) (by omega) (by omega) (by omega)]; exact h9, by rw [u 5 (by omega) (by omega) (by omega) (by omega)]; exact h5⟩
  · rw [z4] at r1
    obtain ⟨k, rfl⟩ : ∃ k : Nat, r = (k : Int) := ⟨r.toNat, by omega⟩
    have hk : k < rl.length := by omega
    have hWk := hW _ (gd_mem (d := (0, [], [])) hk)
    obtain ⟨d0, d1, d2, d3⟩ := ru_hd (B := B) (T := T) hk h6'
    have ke : ∀ e : Nat, e < 6 → key (ruB B T rl) k e = keyL ((rl.getD k (0, [], [])).2.1.getD e (0, 0, 0)) := fun e he => ru_key hk h6' he
    have ree : ∀ e : Nat, e < 6 → _ := fun e he => ru_el (B := B) (T := T) (e := e) hk h6' he
    have rpe : ∀ e : Nat, e < 6 → _ := fun e he => ru_pt (B := B) (T := T) (e := e) hk h6' he
    generalize rl.getD k (0, [], []) = R at *
    obtain ⟨w1, w2, w3, ⟨gg, w4, w4'⟩, w5⟩ := hWk
    unfold RW1
    rw [d0, d1, d2, d3]
    refine ⟨w1, by omega, by omega, by omega, fun e e0 e1 => ?_, fun p p0 p1 => ?_, fun p p' p0 p1 p2 q1 q2 => ?_⟩
    · obtain ⟨x, rfl⟩ : ∃ x : Nat, e = (x : Int) := ⟨e.toNat, by omega⟩
      have wf := w2 _ (gd_mem (d := (0, 0, 0)) (show x < R.2.1.length by omega))
      obtain ⟨y0, y1, y2⟩ := ree x (by omega)
      unfold EW
      rw [y0, y1, y2]
      refine ⟨wf.1.1, wf.1.2, wf.2.1, fun q => ?_⟩
      obtain ⟨⟨v1, v2, v3, v4⟩, v5⟩ := wf.2.2 q
      omega
    · obtain ⟨x, rfl⟩ : ∃ x : Nat, p = (x : Int) := ⟨p.toNat, by omega⟩
      have wf := (w4 _ (gd_mem (d := (0, 0, 0)) (show x < R.2.2.length by omega))).1
      obtain ⟨y0, y1, y2⟩ := rpe x (by omega)
      unfold PW
      rw [y0, y1, y2, d2]
      refine ⟨wf.1.1, wf.1.2.1, wf.1.2.2, fun q => ?_, fun q => ?_⟩
      · obtain ⟨v1, v2, v3, v4⟩ := wf.2.1 q
        omega
      · obtain ⟨v1, e, v2, v3, v4⟩ := wf.2.2 q
        have pb := pbase_bd wf.1 q
        refine ⟨v1.1, v1.2, e, by omega, by omega, ?_⟩
        rw [ke e (by omega)]
        unfold keyL
        rw [v3, v4, if_pos pb.2]
    · obtain ⟨x, rfl⟩ : ∃ x : Nat, p = (x : Int) := ⟨p.toNat, by omega⟩
      obtain ⟨y, rfl⟩ : ∃ y : Nat, p' = (y : Int) := ⟨p'.toNat, by omega⟩
      obtain ⟨y0, y1, y2⟩ := rpe x (by omega)
      obtain ⟨z0, z1, z2⟩ := rpe y (by omega)
      rw [y0] at q1
      rw [z0] at q2
      rw [y1, y2, z1]
      exact w4' x y (by omega) (by omega) q1 q2
  · rw [u 2 (by omega) (by omega) (by omega) (by omega)] at i1; rw [u _ (by omega) (by omega) (by omega) (by omega)]; exact hp k i0 i1
  · rw [u 2 (by omega) (by omega) (by omega) (by omega)] at i0; rw [u _ (by omega) (by omega) (by omega) (by omega)]; exact hz k i0 i1
  · rw [u 3 (by omega) (by omega) (by omega) (by omega)] at j0; rw [u _ (by omega) (by omega) (by omega) (by omega)]; exact hs j j0 j1
  · rw [u _ (by omega) (by omega) (by omega) (by omega)]; exact hb j j0 j1
end BWS
