def WM (m : Nat) (I I' : jM) : Prop := ∀ a j, a ≠ m + 15 → I' a j = I a j
theorem SetIn.wm {m : Nat} {N : Int} {v : Int → Int} {fr : Int → Prop} {nx : Int → Int} {I I' : jM} (h : SetIn m N v fr nx I) (e : WM m I I') : SetIn m N v fr nx I' := by
  obtain ⟨h1, h2, h3, h4, h5⟩ := h
  refine ⟨by rw [e _ _ (by omega)]; exact h1, h2, h3, by rw [e _ _ (by omega)]; exact h4, fun f f0 f1 => ?_⟩
  obtain ⟨g1, g2, g3, g4, g5, g6, g7⟩ := h5 f f0 f1
  refine ⟨by rw [e _ _ (by omega)]; exact g1, g2, by rw [e _ _ (by omega), e _ _ (by omega)]; exact g3, g4, by rw [e _ _ (by omega)]; exact g5, fun k k0 k1 => ?_, fun q => ?_⟩
  · rw [e _ _ (by omega), e _ _ (by omega)]
    exact g6 k k0 k1
  · rw [e _ _ (by omega)] at q
    rw [e _ _ (by omega), e _ _ (by omega)]
    exact g7 q
theorem WM.mf {m : Nat} {I I' : jM} (e : WM m I I') : moM m I' = moM m I ∧ feM m I' = feM m I := by
  refine ⟨?_, ?_⟩
  · funext f c
    exact e _ _ (by omega)
  · funext f c
    exact e _ _ (by omega)
section RM
variable {E : jE} {G : jG} {m : Nat} {N : Int} {v : Int → Int} {fr : Int → Prop} {nx : Int → Int} {I : jM}
theorem sp_X10_markSet (hm : WX10 G m) (h : SetIn m N v fr nx I) (hD : DPok N v fr nx (moM m I) (feM m I)) : jRV E (jA m) kX10_markSet [VR m] G I (fun I' => WM m I I' ∧ ∀ f, 0 ≤ f → f < N → I' (m + 15) f = jI (f ∈ sel N v fr nx (moM m I) (feM m I) N.toNat 0 (I (m + 1) 6))) := by
  have hN := h.2.1
  have hv : ∀ f, 0 ≤ f → f < N → 0 ≤ v f ∧ v f ≤ 9900 := fun f f0 f1 => (h.2.2.2.2 f f0 f1).2.1
  have hn : ∀ f, 0 ≤ f → f < N → f < nx f ∧ nx f ≤ N := fun f f0 f1 => by
    have g := (h.2.2.2.2 f f0 f1).2.2.2
    have g1 := g.1
    have g2 := g.2.1
    rw [h.1] at g2
    exact ⟨g1, g2⟩
  have loop2 : ∀ (d : Nat) (f c : Int) (D : List Int) (I1 : jM), 0 ≤ f → f ≤ N → N ≤ f + d → 0 ≤ c → c ≤ 20 → WM m I I1 → (∀ g ∈ D, g < f) → (∀ g, 0 ≤ g → g < N → I1 (m + 15) g = jI (g ∈ D)) → D ++ sel N v fr nx (moM m I) (feM m I) d f c = sel N v fr nx (moM m I) (feM m I) N.toNat 0 (I (m + 1) 6) → jOV E (jA m) kX10_markSet 33 [VR m, VI f, VI c, VN, VN] G I1 (fun I' => WM m I I' ∧ ∀ f, 0 ≤ f → f < N → I' (m + 15) f = jI (f ∈ sel N v fr nx (moM m I) (feM m I) N.toNat 0 (I (m + 1) 6))) := by
    intro d
    induction d with
    | zero =>
      intro f c D I1 f0 f1 f2 c0 c1 hW hDl hD1 hL
      have h1 := h.wm hW
      have hfin : D = sel N v fr nx (moM m I) (feM m I) N.toNat 0 (I (m + 1) 6) := by rw [← hL]; simp [sel]
      refine st_X10_markSet_33 hm (fun _ _ _ => ⟨fun _ => ⟨hW, fun g g0 g1 => by rw [← hfin]; exact hD1 g g0 g1⟩, fun q => ?_⟩)
      rw [h1.1] at q
      omega
    | succ d ih =>
      intro f c D I1 f0 f1 f2 c0 c1 hW hDl hD1 hL
      have h1 := h.wm hW
      have hmf := hW.mf
      have hstop : ¬ (f < N ∧ 0 < feM m I f c) → D = sel N v fr nx (moM m I) (feM m I) N.toNat 0 (I (m + 1) 6) := fun hs => by
        rw [← hL]
        unfold sel
        rw [if_neg hs]
        simp
      refine st_X10_markSet_33 hm (fun _ _ _ => ⟨fun q => ?_, fun q => ?_⟩)
      · rw [h1.1] at q
        have hf := hstop (fun g => by omega)
        exact ⟨hW, fun g g0 g1 => by rw [← hf]; exact hD1 g g0 g1⟩
      · rw [h1.1] at q
        have hfN : f < N := by omega
        have N12 := h.2.2.1
        refine ⟨⟨by omega, by omega⟩, fun qf => ?_, fun qf => ?_⟩
        · have qf' : feM m I1 f c ≤ 0 := qf
          rw [hmf.2] at qf'
          have hf := hstop (fun g => by omega)
          exact ⟨hW, fun g g0 g1 => by rw [← hf]; exact hD1 g g0 g1⟩
        · have qf' : ¬ feM m I1 f c ≤ 0 := qf
          rw [hmf.2] at qf'
          have hgo : f < N ∧ 0 < feM m I f c := ⟨hfN, by omega⟩
          have hfr := (h1.2.2.2.2 f f0 hfN).2.2.1
          have hvf := (h1.2.2.2.2 f f0 hfN).1
          -- left out
          have skip : ∀ I2, I2 = I1 → ¬ (fr f ∧ 0 < c ∧ v f + moM m I (nx f) (c - 1) = moM m I f c ∧ 1 + feM m I (nx f) (c - 1) = feM m I f c) → (0 ≤ f ∧ f < 1200) ∧ (∀ M, M = jup I2 (m + 15) f 0 → jIn (c - 0) ∧ jIn (f + 1) ∧ jOV E (jA m) kX10_markSet 33 [VR m, VI (f + 1), VI (c - 0), VN, VN] G M (fun I' => WM m I I' ∧ ∀ f, 0 ≤ f → f < N → I' (m + 15) f = jI (f ∈ sel N v fr nx (moM m I) (feM m I) N.toNat 0 (I (m + 1) 6)))) := by
            intro I2 e2 hno
            subst e2
            refine ⟨⟨f0, by omega⟩, fun M eM => ⟨⟨by omega, by omega⟩, ⟨by omega, by omega⟩, ?_⟩⟩
            have ec : c - 0 = c := by omega
            rw [ec]
            refine ih (f + 1) c D M (by omega) (by omega) (by omega) c0 c1 (fun a j ha => (jr_na eM ha).trans (hW a j ha)) (fun g hg => by have := hDl g hg; omega) (fun g g0 g1 => ?_) ?_
            · by_cases eg : g = f
              · rw [eg, jr_eq eM, jI_neg]
                intro hg
                have := hDl f hg
                omega
              · rw [jr_nj eM eg]
                exact hD1 g g0 g1
            · rw [← hL]
              conv => rhs; unfold sel
              rw [if_pos hgo, if_neg hno]
          refine ⟨⟨f0, by omega⟩, fun q1 => skip I1 rfl (fun g => q1 (hfr.mpr g.1)), fun q1 => ⟨fun q2 => skip I1 rfl (fun g => by omega), fun q2 => ?_⟩⟩
          refine (sp_X10_behind hm ⟨f0, by omega⟩ (by rw [h1.1]; omega) (h1.2.2.2.2 f f0 hfN).2.2.2).mono (fun x I12 _ _ hx => ?_)
          obtain ⟨rfl, rfl⟩ := hx
          have hnf := hn f f0 hfN
          have ei : 21 * nx f + c - 1 = 21 * nx f + (c - 1) := by omega
          have m1 : I12 (m + 16) (21 * nx f + (c - 1)) = moM m I (nx f) (c - 1) := congrFun (congrFun hmf.1 (nx f)) (c - 1)
          have m2 : I12 (m + 17) (21 * nx f + (c - 1)) = feM m I (nx f) (c - 1) := congrFun (congrFun hmf.2 (nx f)) (c - 1)
          have m3 : I12 (m + 16) (21 * f + c) = moM m I f c := congrFun (congrFun hmf.1 f) c
          have m4 : I12 (m + 17) (21 * f + c) = feM m I f c := congrFun (congrFun hmf.2 f) c
          have bnd := hD.bd hv hn hN (N - nx f).toNat (nx f) (c - 1) (by omega) (by omega) (by omega) (by omega)
          have bv := hv f f0 hfN
          rw [ei, hvf, m1, m2, m3, m4]
          refine ⟨fun q3 => by omega, fun q3 => ⟨⟨f0, by omega⟩, ⟨by omega, by omega⟩, ⟨by omega, by omega⟩, ⟨by omega, by omega⟩, fun q4 => skip I12 rfl (fun g => q4 g.2.2.1), fun q4 => ⟨⟨by omega, by omega⟩, ⟨by omega, by omega⟩, ⟨by omega, by omega⟩, fun q5 => skip I12 rfl (fun g => q5 g.2.2.2), fun q5 => ⟨⟨f0, by omega⟩, fun M eM => ⟨⟨by omega, by omega⟩, ?_⟩⟩⟩⟩⟩
          refine ih (nx f) (c - 1) (D ++ [f]) M (by omega) (by omega) (by omega) (by omega) (by omega) (fun a j ha => (jr_na eM ha).trans (hW a j ha)) (fun g hg => ?_) (fun g g0 g1 => ?_) ?_
          · rcases List.mem_append.mp hg with hg | hg
            · have := hDl g hg; omega
            · rw [List.mem_singleton.mp hg]; omega
          · by_cases eg : g = f
            · rw [eg, jr_eq eM, jI_pos (List.mem_append_right _ (List.mem_singleton.mpr rfl))]
            · rw [jr_nj eM eg, hD1 g g0 g1]
              refine jI_congr ⟨fun hg => List.mem_append_left _ hg, fun hg => ?_⟩
              rcases List.mem_append.mp hg with hg | hg
              · exact hg
              · exact absurd (List.mem_singleton.mp hg) eg
          · rw [← hL, List.append_assoc]
            conv => rhs; unfold sel
            rw [if_pos hgo, if_pos ⟨hfr.mp q1, by omega, q4, q5⟩]
            rfl
  have loop1 : ∀ (d : Nat) (x : Int) (I1 : jM), 0 ≤ x → x + d = N → WM m I I1 → (∀ g, 0 ≤ g → g < x → I1 (m + 15) g = 0) → jOV E (jA m) kX10_markSet 2 [VR m, VI x, VN, VN, VN] G I1 (fun I' => WM m I I' ∧ ∀ f, 0 ≤ f → f < N → I' (m + 15) f = jI (f ∈ sel N v fr nx (moM m I) (feM m I) N.toNat 0 (I (m + 1) 6))) := by
    intro d
    induction d with
    | zero =>
      intro x I1 x0 x1 hW hz
      have h1 := h.wm hW
      refine st_X10_markSet_2 hm (fun _ _ => ⟨fun _ => ?_, fun q => by rw [h1.1] at q; omega⟩)
      have e6 : I1 (m + 1) 6 = I (m + 1) 6 := hW _ _ (by omega)
      rw [e6]
      exact loop2 N.toNat 0 (I (m + 1) 6) [] I1 (by omega) hN (by omega) h.2.2.2.1.1 h.2.2.2.1.2 hW (fun g hg => absurd hg List.not_mem_nil) (fun g g0 g1 => by rw [hz g g0 (by omega), jI_neg List.not_mem_nil]) rfl
    | succ d ih =>
      intro x I1 x0 x1 hW hz
      have h1 := h.wm hW
      have N12 := h.2.2.1
      refine st_X10_markSet_2 hm (fun _ _ => ⟨fun q => by rw [h1.1] at q; omega, fun _ => ⟨⟨x0, by omega⟩, fun M eM => ⟨⟨by omega, by omega⟩, ?_⟩⟩⟩)
      refine ih (x + 1) M (by omega) (by omega) (fun a j ha => (jr_na eM ha).trans (hW a j ha)) (fun g g0 g1 => ?_)
      by_cases eg : g = x
      · rw [eg, jr_eq eM]
      · rw [jr_nj eM eg]
        exact hz g g0 (by omega)
  exact en_X10_markSet hm (fun _ => loop1 N.toNat 0 I (by omega) (by omega) (fun _ _ _ => rfl) (fun g g0 g1 => by omega))
end RM
