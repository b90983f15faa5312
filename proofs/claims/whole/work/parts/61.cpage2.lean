/-! ===== the class: a text is told, spans ===== -/
section CB
variable {E : jE} {G : jG} {m p : Nat} {I : jM} {X : Int → Int}
theorem PB.of_list {T : List Int} (h : PT m I (T.map (fun c => (c, (0 : Int))))) (hl : T.length ≤ 200) (e2 : X 2 = T.length) (e : ∀ i : Nat, i < T.length → X (10 + i) = T.getD i 0 ∧ X (210 + i) = 0) : PB m X I := by
  have h1 := h.1
  rw [List.length_map] at h1
  refine ⟨⟨by omega, by omega, by omega⟩, fun i i0 i1 => ?_⟩
  have hi : i.toNat < T.length := by omega
  have g := h.2 i.toNat (by rw [List.length_map]; exact hi)
  rw [List.getD_eq_getElem?_getD, List.getElem?_map, List.getElem?_eq_getElem hi] at g
  have g2 := e i.toNat hi
  rw [List.getD_eq_getElem?_getD, List.getElem?_eq_getElem hi] at g2
  rw [show ((i.toNat : Nat) : Int) = i by omega] at g g2
  rw [g2.1, g2.2]
  exact g
theorem cl_tell (hm : WX4 G m) {s ns : Nat} (ls : s < G.2.2) (ss : G.2.1 s = (101, ns)) (bs : (ns : Int) ≤ 2147483647) (hd : s < m ∨ m + 5 ≤ s) {T : List Int} (hL : ∀ i : Nat, i < T.length → I s i = T.getD i 0) (hn : T.length ≤ ns) (hl : T.length ≤ 200) (e2 : X 2 = T.length) (e3 : X 3 = 0) (e : ∀ i : Nat, i < T.length → X (10 + i) = T.getD i 0 ∧ X (210 + i) = 0) : jRV E jB kX4_tell [VR m, VR s, VI (T.length : Int)] G I (fun I' => PG m X I' ∧ Fr m (m + 5) I I') := by
  refine en_X4_tell hm ls ss bs (fun _ _ M1 e1 M2 e2' => ?_)
  have f2 : Fr m (m + 5) I M2 := (Fr.up e1 (by omega)).trans (Fr.up e2' (by omega))
  refine (cl_write hm ls ss bs hd (P := []) ⟨by rw [jr_nj e2' (by decide), jr_eq e1]; rfl, fun i hi => absurd hi (Nat.not_lt_zero i)⟩ (L := T) (fun i hi => by rw [f2 _ _ (by omega)]; exact hL i hi) hn (by simpa using hl) (w := -1) (by decide)).mono (fun I3 _ g => ⟨⟨?_, ?_⟩, f2.trans g.2.f⟩)
  · rw [List.nil_append] at g
    exact PB.of_list g.1 hl e2 e
  · refine PS.fr (I := M2) ⟨⟨by rw [jr_eq e2', e3], by omega⟩, fun k k0 k1 => by omega⟩ (fun a j q => g.2 a j (by omega) (by omega) (by omega))
theorem cl_addSpan (hm : WX4 G m) (h : PG m X I) (h8 : X 3 < 8) {x y : Int} {Y : Int → Int} (eY : ∀ j, Y j = if j = 3 then X 3 + 1 else if j = 410 + 2 * X 3 + 1 then y else if j = 410 + 2 * X 3 then x else X j) : jRV E jB kX4_addSpan [VR m, VI x, VI y] G I (fun I' => PG m Y I' ∧ Fr m (m + 5) I I' ∧ I' m 5 = X 3 + 1) := by
  have h3 := h.2.1
  refine en_X4_addSpan hm (fun _ _ _ => ⟨fun q => absurd q (by omega), fun _ => ⟨⟨by omega, by omega⟩, fun M2 e2 => ⟨⟨by omega, by omega⟩, fun M4 e4 => ⟨⟨by omega, by omega⟩, fun M5 e5 => ?_⟩⟩⟩⟩)
  rw [h3.1] at e2 e4 e5
  have fr : Fr m (m + 5) I M5 := (Fr.up e2 (by omega)).trans ((Fr.up e4 (by omega)).trans (Fr.up e5 (by omega)))
  have eb : ∀ a j, (a = m + 1 ∨ a = m + 2 ∨ (a = m ∧ j = 2)) → M5 a j = I a j := fun a j q => by
    have : M5 a j = M4 a j := by
      rcases q with q | q | q
      · exact jr_na e5 (by omega)
      · exact jr_na e5 (by omega)
      · rw [q.2]; exact jr_nj e5 (by decide)
    rw [this, jr_na e4 (by omega), jr_na e2 (by omega)]
  refine ⟨⟨(h.1.fr eb).congr (fun j hj => ?_), ⟨⟨?_, ?_⟩, fun k k0 k1 => ?_⟩⟩, fr, jr_eq e5⟩
  · rw [eY, if_neg (by omega), if_neg (by omega), if_neg (by omega)]
  · rw [jr_eq e5, eY, if_pos rfl]
  · rw [eY, if_pos rfl]
    omega
  · rw [eY 3, if_pos rfl] at k1
    have y0 : Y (410 + 2 * k) = if k = X 3 then x else X (410 + 2 * k) := by
      rw [eY, if_neg (by omega), if_neg (by omega)]
      by_cases q : k = X 3
      · rw [if_pos (by omega), if_pos q]
      · rw [if_neg (by omega), if_neg q]
    have y1 : Y (410 + 2 * k + 1) = if k = X 3 then y else X (410 + 2 * k + 1) := by
      rw [eY, if_neg (by omega)]
      by_cases q : k = X 3
      · rw [if_pos (by omega), if_pos q]
      · rw [if_neg (by omega), if_neg (by omega), if_neg q]
    rw [y0, y1, jr_na e5 (by omega), jr_na e5 (by omega), jr_na e4 (by omega)]
    by_cases q : k = X 3
    · rw [if_pos q, if_pos q, q, jr_eq e2, jr_eq e4]
      exact ⟨rfl, rfl⟩
    · rw [if_neg q, if_neg q, jr_nj e2 q, jr_nj e4 q, jr_na e2 (by omega)]
      exact h.2.2 k k0 (by omega)
theorem cl_removeSpan (hm : WX4 G m) (h : PG m X I) {i : Int} (hi : 0 ≤ i ∧ i < X 3) : jRV E jB kX4_removeSpan [VR m, VI i] G I (fun I' => PG m (hrB X i) I' ∧ Fr m (m + 5) I I') := by
  have h3 := h.2.1
  have loop : ∀ (d : Nat) (k : Int) (I1 : jM), i + 1 ≤ k → k + d = X 3 → PB m X I1 → I1 m 5 = X 3 → (∀ j, 0 ≤ j → j < X 3 → I1 (m + 3) j = (if i ≤ j ∧ j < k - 1 then X (410 + 2 * (j + 1)) else X (410 + 2 * j)) ∧ I1 (m + 4) j = (if i ≤ j ∧ j < k - 1 then X (410 + 2 * (j + 1) + 1) else X (410 + 2 * j + 1))) → Fr m (m + 5) I I1 → jOV E jB kX4_removeSpan 4 [VR m, VI i, VI k] G I1 (fun I' => PG m (hrB X i) I' ∧ Fr m (m + 5) I I') := by
    intro d
    induction d with
    | zero =>
      intro k I1 k0 k1 hB h5 hs hF
      have fin : ∀ M1, M1 = jup I1 m 5 (I1 m 5 - 1) → PG m (hrB X i) M1 ∧ Fr m (m + 5) I M1 := fun M1 e1 => by
        rw [h5] at e1
        refine ⟨⟨PB.congr (hB.fr (fun a j q => ?_)) (fun j hj => ?_), ⟨⟨?_, ?_⟩, fun j j0 j1 => ?_⟩⟩, hF.trans (Fr.up e1 (by omega))⟩
        · rcases q with q | q | q
          · exact jr_na e1 (by omega)
          · exact jr_na e1 (by omega)
          · rw [q.2]; exact jr_nj e1 (by decide)
        · unfold hrB
          rw [if_neg (by omega), if_neg (by omega), if_neg (by omega)]
        · rw [jr_eq e1]
          unfold hrB
          rw [if_pos rfl]
        · unfold hrB
          rw [if_pos rfl]
          omega
        · have j1' : j < X 3 - 1 := by unfold hrB at j1; rw [if_pos rfl] at j1; exact j1
          have g := hs j j0 (by omega)
          have y0 : hrB X i (410 + 2 * j) = if i ≤ j ∧ j < k - 1 then X (410 + 2 * (j + 1)) else X (410 + 2 * j) := by
            unfold hrB
            rw [if_neg (by omega), if_neg (by omega)]
            by_cases q : i ≤ j
            · rw [if_pos (by omega), if_pos (by omega)]
              congr 1
              omega
            · rw [if_neg (by omega), if_neg (by omega)]
          have y1 : hrB X i (410 + 2 * j + 1) = if i ≤ j ∧ j < k - 1 then X (410 + 2 * (j + 1) + 1) else X (410 + 2 * j + 1) := by
            unfold hrB
            rw [if_neg (by omega), if_neg (by omega)]
            by_cases q : i ≤ j
            · rw [if_pos (by omega), if_pos (by omega)]
              congr 1
              omega
            · rw [if_neg (by omega), if_neg (by omega)]
          rw [jr_na e1 (by omega), jr_na e1 (by omega), g.1, g.2, y0, y1]
          exact ⟨rfl, rfl⟩
      refine st_X4_removeSpan_4 hm (fun _ _ _ => ⟨fun q => ⟨⟨by omega, by omega⟩, fin⟩, fun _ => ⟨fun _ => ⟨⟨by omega, by omega⟩, fin⟩, fun q => absurd (by omega) q⟩⟩)
    | succ d ih =>
      intro k I1 k0 k1 hB h5 hs hF
      refine st_X4_removeSpan_4 hm (fun _ _ _ => ⟨fun q => absurd q (by omega), fun _ => ⟨fun q => absurd q (by omega), fun _ => ⟨⟨by omega, by omega⟩, ⟨by omega, by omega⟩, fun M7 e7 => ⟨⟨by omega, by omega⟩, ⟨by omega, by omega⟩, fun M10 e10 => ⟨⟨by omega, by omega⟩, ?_⟩⟩⟩⟩⟩)
      refine ih (k + 1) M10 (by omega) (by omega) (hB.fr (fun a j q => ?_)) ?_ (fun j j0 j1 => ?_) (hF.trans ((Fr.up e7 (by omega)).trans (Fr.up e10 (by omega))))
      · rw [jr_na e10 (by omega), jr_na e7 (by omega)]
      · rw [jr_na e10 (by omega), jr_na e7 (by omega), h5]
      · rw [jr_na e10 (by omega)]
        by_cases q : j = k - 1
        · have g := hs k (by omega) (by omega)
          have hg : ¬ (i ≤ k ∧ k < k - 1) := by omega
          have hh : i ≤ k - 1 ∧ k - 1 < k + 1 - 1 := by omega
          rw [q, jr_eq e7, jr_eq e10, g.1, g.2, if_neg hg, if_neg hg, if_pos hh, if_pos hh]
          refine ⟨by congr 1; omega, by congr 1; omega⟩
        · have g := hs j j0 j1
          rw [jr_nj e7 q, jr_nj e10 q, jr_na e7 (by omega), g.1, g.2]
          by_cases q2 : i ≤ j ∧ j < k - 1
          · have hh : i ≤ j ∧ j < k + 1 - 1 := by omega
            rw [if_pos q2, if_pos q2, if_pos hh, if_pos hh]
            exact ⟨rfl, rfl⟩
          · have hh : ¬ (i ≤ j ∧ j < k + 1 - 1) := by omega
            rw [if_neg q2, if_neg q2, if_neg hh, if_neg hh]
            exact ⟨rfl, rfl⟩
  refine en_X4_removeSpan hm (fun _ _ => ⟨⟨by omega, by omega⟩, loop (X 3 - (i + 1)).toNat (i + 1) I (by omega) (by omega) h.1 h3.1 (fun j j0 j1 => ?_) Fr.rfl⟩)
  have g := h.2.2 j j0 j1
  rw [if_neg (by omega), if_neg (by omega)]
  exact g
/-- spans go along: those that begin at or behind a place -/
theorem cl_shiftSpans (hm : WX4 G m) (hp : WX4 G p) (hd : m + 5 ≤ p ∨ p + 5 ≤ m) (hX : PS p X I) (h5 : I m 5 = X 3) {z by_ : Int} (hz : ∀ k, 0 ≤ k → k < X 3 → jIn (I (m + 3) k + by_) ∧ jIn (I (m + 4) k + by_)) : jRV E jB kX4_shiftSpans [VR m, VR p, VI z, VI by_] G I (fun I' => (∀ k, 0 ≤ k → k < X 3 → I' (m + 3) k = I (m + 3) k + (if z ≤ X (410 + 2 * k) then by_ else 0) ∧ I' (m + 4) k = I (m + 4) k + (if z ≤ X (410 + 2 * k) then by_ else 0)) ∧ ∀ a j, a ≠ m + 3 → a ≠ m + 4 → I' a j = I a j) := by
  have h3 := hX.1
  have loop : ∀ (d : Nat) (x : Int) (I1 : jM), 0 ≤ x → x + d = X 3 → (∀ k, 0 ≤ k → k < X 3 → I1 (m + 3) k = I (m + 3) k + (if k < x ∧ z ≤ X (410 + 2 * k) then by_ else 0) ∧ I1 (m + 4) k = I (m + 4) k + (if k < x ∧ z ≤ X (410 + 2 * k) then by_ else 0)) → (∀ a j, a ≠ m + 3 → a ≠ m + 4 → I1 a j = I a j) → jOV E jB kX4_shiftSpans 3 [VR m, VR p, VI z, VI by_, VI x] G I1 (fun I' => (∀ k, 0 ≤ k → k < X 3 → I' (m + 3) k = I (m + 3) k + (if z ≤ X (410 + 2 * k) then by_ else 0) ∧ I' (m + 4) k = I (m + 4) k + (if z ≤ X (410 + 2 * k) then by_ else 0)) ∧ ∀ a j, a ≠ m + 3 → a ≠ m + 4 → I' a j = I a j) := by
    intro d
    induction d with
    | zero =>
      intro x I1 x0 x1 hs hF
      refine st_X4_shiftSpans_3 hm hp (fun _ _ _ _ => ⟨fun _ => ⟨fun k k0 k1 => ?_, hF⟩, fun q => absurd ?_ q⟩)
      · have g := hs k k0 k1
        rw [g.1, g.2]
        by_cases q : z ≤ X (410 + 2 * k)
        · rw [if_pos ⟨by omega, q⟩, if_pos q]; exact ⟨rfl, rfl⟩
        · rw [if_neg (fun g => q g.2), if_neg q]; exact ⟨rfl, rfl⟩
      · rw [hF _ _ (by omega) (by omega), h5]
        omega
    | succ d ih =>
      intro x I1 x0 x1 hs hF
      have e5 : I1 m 5 = X 3 := by rw [hF _ _ (by omega) (by omega), h5]
      have ep : I1 (p + 3) x = X (410 + 2 * x) := by rw [hF _ _ (by omega) (by omega)]; exact (hX.2 x x0 (by omega)).1
      have gx := hs x x0 (by omega)
      rw [if_neg (by omega)] at gx
      have gz := hz x x0 (by omega)
      refine st_X4_shiftSpans_3 hm hp (fun _ _ _ _ => ⟨fun q => absurd q (by omega), fun _ => ⟨⟨by omega, by omega⟩, fun q => ⟨⟨by omega, by omega⟩, ih (x + 1) I1 (by omega) (by omega) (fun k k0 k1 => ?_) hF⟩, fun q => ⟨⟨by omega, by omega⟩, ⟨by omega, by omega⟩, ?_, fun M6 e6 => ⟨⟨by omega, by omega⟩, ⟨by omega, by omega⟩, ?_, fun M10 e10 => ⟨⟨by omega, by omega⟩, ih (x + 1) M10 (by omega) (by omega) (fun k k0 k1 => ?_) (fun a j a1 a2 => ?_)⟩⟩⟩⟩⟩)
      · have g := hs k k0 k1
        rw [ep] at q
        rw [g.1, g.2]
        by_cases q2 : k < x ∧ z ≤ X (410 + 2 * k)
        · rw [if_pos q2, if_pos (by omega)]; exact ⟨rfl, rfl⟩
        · rw [if_neg q2]
          by_cases q3 : k = x
          · rw [q3, if_neg (by omega)]; exact ⟨rfl, rfl⟩
          · rw [if_neg (by omega)]; exact ⟨rfl, rfl⟩
      · rw [gx.1]; simpa using gz.1
      · rw [gx.2]; simpa using gz.2
      · have g := hs k k0 k1
        rw [ep] at q
        rw [jr_na e10 (by omega)]
        by_cases q3 : k = x
        · rw [q3, jr_eq e6, jr_eq e10, gx.1, gx.2, if_pos (by omega)]
          refine ⟨by omega, by omega⟩
        · rw [jr_nj e6 q3, jr_nj e10 q3, jr_na e6 (by omega), g.1, g.2]
          by_cases q2 : k < x ∧ z ≤ X (410 + 2 * k)
          · rw [if_pos q2, if_pos (by omega)]; exact ⟨rfl, rfl⟩
          · rw [if_neg q2, if_neg (by omega)]; exact ⟨rfl, rfl⟩
      · rw [jr_na e10 a2, jr_na e6 a1]
        exact hF a j a1 a2
  exact en_X4_shiftSpans hm hp (fun _ _ _ => loop (X 3).toNat 0 I (by omega) (by omega) (fun k k0 k1 => by rw [if_neg (by omega)]; omega) (fun _ _ _ _ => rfl))
theorem cl_hides (hm : WX4 G m) (h : PS m X I) {i j : Int} : jRI E jB kX4_hides [VR m, VI i, VI j] G I (fun x I' => x = jI (sil X i j) ∧ I' = I) := by
  have h3 := h.1
  have loop : ∀ (d : Nat) (x : Int), 0 ≤ x → x + d = X 3 → (∀ k, 0 ≤ k → k < x → ¬ (i < X (410 + 2 * k + 1) ∧ X (410 + 2 * k) < j)) → jOI E jB kX4_hides 2 [VR m, VI i, VI j, VI x] G I (fun x I' => x = jI (sil X i j) ∧ I' = I) := by
    intro d
    induction d with
    | zero =>
      intro x x0 x1 hx
      refine st_X4_hides_2 hm (fun _ _ _ _ => ⟨fun _ => ⟨(jI_neg (fun g => ?_)).symm, rfl⟩, fun q => absurd (by omega) q⟩)
      obtain ⟨k, k0, k1, k2⟩ := g
      exact hx k k0 (by omega) k2
    | succ d ih =>
      intro x x0 x1 hx
      have g := h.2 x x0 (by omega)
      have nx : ¬ (i < X (410 + 2 * x + 1) ∧ X (410 + 2 * x) < j) → jIn (x + 1) ∧ jOI E jB kX4_hides 2 [VR m, VI i, VI j, VI (x + 1)] G I (fun x I' => x = jI (sil X i j) ∧ I' = I) := by
        intro hn
        refine ⟨⟨by omega, by omega⟩, ih (x + 1) (by omega) (by omega) (fun k k0 k1 => ?_)⟩
        by_cases ek : k = x
        · rw [ek]; exact hn
        · exact hx k k0 (by omega)
      refine st_X4_hides_2 hm (fun _ _ _ _ => ⟨fun q => absurd q (by omega), fun _ => ⟨⟨by omega, by omega⟩, fun q => nx (fun g' => by omega), fun q => ⟨⟨by omega, by omega⟩, fun q2 => nx (fun g' => by omega), fun q2 => ⟨(jI_pos ⟨x, x0, by omega, by omega, by omega⟩).symm, rfl⟩⟩⟩⟩)
  exact en_X4_hides hm (fun _ _ _ => loop (X 3).toNat 0 (by omega) (by omega) (fun k k0 k1 => by omega))
end CB
