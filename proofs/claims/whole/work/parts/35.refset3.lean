section RN
variable {E : jE} {G : jG} {m : Nat} {N : Int} {v : Int → Int} {fr : Int → Prop} {nx : Int → Int} {I : jM}
/-- what laySet leaves -/
def SetOut (m : Nat) (N : Int) (v : Int → Int) (fr : Int → Prop) (nx : Int → Int) (c : Int) (I : jM) : Prop := DPok N v fr nx (moM m I) (feM m I) ∧ I m 21 = moM m I 0 c ∧ I m 20 = feM m I 0 c ∧ ∀ f, 0 ≤ f → f < N → I (m + 15) f = jI (f ∈ sel N v fr nx (moM m I) (feM m I) N.toNat 0 c)
def WT (m : Nat) (I I' : jM) : Prop := ∀ a j, ¬ (m + 15 ≤ a ∧ a ≤ m + 17) → (a ≠ m ∨ (j ≠ 20 ∧ j ≠ 21)) → I' a j = I a j
theorem laySet_end (hm : WX10 G m) {I0 I1 : jM} (h : SetIn m N v fr nx I1) (hW : WS m I0 I1) (hD : DPok N v fr nx (moM m I1) (feM m I1)) {x1 : Int} (hx : x1 < 0) : jOV E (jA m) kX10_laySet 51 [VR m, VI x1, VN, VN, VN, VN, VN] G I1 (fun I' => WT m I0 I' ∧ SetOut m N v fr nx (I0 (m + 1) 6) I') := by
  have hN := h.2.1
  have h6 := h.2.2.2.1
  have e6 : I1 (m + 1) 6 = I0 (m + 1) 6 := hW _ _ (by omega) (by omega)
  refine st_X10_laySet_51 hm (fun _ _ => ⟨fun _ => ⟨⟨by omega, by omega⟩, fun M3 e3 => ⟨⟨by omega, by omega⟩, fun M6 em6 => ?_⟩⟩, fun q => absurd hx q⟩)
  have keep : ∀ a j, (a ≠ m ∨ (j ≠ 20 ∧ j ≠ 21)) → M6 a j = I1 a j := by
    intro a j ha
    rcases ha with ha | ha
    · rw [jr_na em6 ha, jr_na e3 ha]
    · rw [jr_nj em6 ha.1, jr_nj e3 ha.2]
  have hS6 : SetIn m N v fr nx M6 := by
    obtain ⟨h1, h2, h3, h4, h5⟩ := h
    refine ⟨by rw [keep _ _ (by omega)]; exact h1, h2, h3, by rw [keep _ _ (by omega)]; exact h4, fun f f0 f1 => ?_⟩
    obtain ⟨g1, g2, g3, g4, g5, g6, g7⟩ := h5 f f0 f1
    refine ⟨by rw [keep _ _ (by omega)]; exact g1, g2, by rw [keep _ _ (by omega), keep _ _ (by omega)]; exact g3, g4, by rw [keep _ _ (by omega)]; exact g5, fun k k0 k1 => ?_, fun q => ?_⟩
    · rw [keep _ _ (by omega), keep _ _ (by omega)]
      exact g6 k k0 k1
    · rw [keep _ _ (by omega)] at q
      rw [keep _ _ (by omega), keep _ _ (by omega)]
      exact g7 q
  have hm1 : moM m M6 = moM m I1 := by funext f c; exact keep _ _ (by omega)
  have hm2 : feM m M6 = feM m I1 := by funext f c; exact keep _ _ (by omega)
  refine (sp_X10_markSet hm hS6 (by rw [hm1, hm2]; exact hD)).mono (fun I7 _ g => ?_)
  obtain ⟨g1, g2⟩ := g
  have hmf := g1.mf
  rw [hm1] at hmf
  rw [hm2] at hmf
  refine ⟨fun a j ha hb => ?_, by rw [hmf.1, hmf.2]; exact hD, ?_, ?_, fun f f0 f1 => ?_⟩
  · rw [g1 _ _ (by omega), keep _ _ (by omega)]
    exact hW _ _ (by omega) (by omega)
  · rw [hmf.1, g1 _ _ (by omega), jr_nj em6 (by decide), jr_eq e3, ← e6]
    show I1 (m + 16) (I1 (m + 1) 6) = I1 (m + 16) (21 * 0 + I1 (m + 1) 6)
    congr 1
    omega
  · rw [hmf.2, g1 _ _ (by omega), jr_eq em6, ← e6]
    show I1 (m + 17) (I1 (m + 1) 6) = I1 (m + 17) (21 * 0 + I1 (m + 1) 6)
    congr 1
    omega
  · rw [g2 f f0 f1, hm1, hm2, hmf.1, hmf.2, keep _ _ (by omega), e6]
theorem sp_X10_laySet (hm : WX10 G m) (h : SetIn m N v fr nx I) : jRV E (jA m) kX10_laySet [VR m] G I (fun I' => WT m I I' ∧ SetOut m N v fr nx (I (m + 1) 6) I') := by
  have hN := h.2.1
  have hN2 := h.2.2.1
  have hn : ∀ f, 0 ≤ f → f < N → f < nx f := fun f f0 f1 => (h.2.2.2.2 f f0 f1).2.2.2.1
  have inner : ∀ (f : Int), 0 ≤ f → f < N → (∀ I1, WS m I I1 → DPp m N v fr nx I1 (f - 1) 0 → jOV E (jA m) kX10_laySet 51 [VR m, VI (f + (-1)), VN, VN, VN, VN, VN] G I1 (fun I' => WT m I I' ∧ SetOut m N v fr nx (I (m + 1) 6) I')) → ∀ (d : Nat) (c x2 : Int) (I1 : jM), 0 ≤ c → c + d = 21 → WS m I I1 → DPp m N v fr nx I1 f c → ((fr f ∧ x2 = nx f) ∨ (¬ fr f ∧ x2 = -1)) → jOV E (jA m) kX10_laySet 75 [VR m, VI f, VI x2, VI c, VN, VN, VN] G I1 (fun I' => WT m I I' ∧ SetOut m N v fr nx (I (m + 1) 6) I') := by
    intro f f0 f1 hout d
    induction d with
    | zero =>
      intro c x2 I1 c0 c1 hW hD hx2
      refine st_X10_laySet_75 hm (fun _ _ _ _ => ⟨fun _ => ⟨⟨by omega, by omega⟩, hout I1 hW ⟨hD.1, fun g k g0 g1 k0 k1 hgk => hD.2 g k g0 g1 k0 k1 (by omega)⟩⟩, fun q => by omega⟩)
    | succ d ih =>
      intro c x2 I1 c0 c1 hW hD hx2
      have hs1 := h.ws hW
      have hfull := hs1.2.2.2.2 f f0 f1
      have hvf := hfull.1
      have hv2 := hfull.2.1
      have hnf : f < nx f ∧ nx f ≤ N := by
        have g2 := hfull.2.2.2.2.1
        rw [hs1.1] at g2
        exact ⟨hfull.2.2.2.1, g2⟩
      have b1 := hD.bd hs1 (N - (f + 1)).toNat (f + 1) c (by omega) (by omega) (by omega) c0 (by omega)
      have ei : 21 * f + c + 21 = 21 * (f + 1) + c := by omega
      have v1 : I1 (m + 16) (21 * (f + 1) + c) = moM m I1 (f + 1) c := rfl
      have v2 : I1 (m + 17) (21 * (f + 1) + c) = feM m I1 (f + 1) c := rfl
      -- go on with row f, place c laid
      have next : ∀ M, WS m I1 M → (∀ a j, (a = m + 16 ∨ a = m + 17) → j ≠ 21 * f + c → M a j = I1 a j) → DPs v fr nx (moM m M) (feM m M) f c → jOV E (jA m) kX10_laySet 231 [VR m, VI f, VI x2, VI c, VI (21 * f + c), VN, VN] G M (fun I' => WT m I I' ∧ SetOut m N v fr nx (I (m + 1) 6) I') := by
        intro M hWM hM hnew
        refine st_X10_laySet_231 hm (fun _ _ _ _ _ => ⟨⟨by omega, by omega⟩, ?_⟩)
        exact ih (c + 1) x2 M (by omega) (by omega) (hW.trans hWM) (hD.put f1 f0 ⟨c0, by omega⟩ hn hM hnew) hx2
      refine st_X10_laySet_75 hm (fun _ _ _ _ => ⟨fun q => by omega, fun _ => ⟨⟨by omega, by omega⟩, ⟨by omega, by omega⟩, ⟨by omega, by omega⟩, fun M5 e5 => ⟨⟨by omega, by omega⟩, ⟨by omega, by omega⟩, fun M8 e8 => ?_⟩⟩⟩)
      have W8 : WS m I1 M8 := fun a j ha hb => by rw [jr_na e8 hb, jr_na e5 ha]
      have K8 : ∀ a j, (a = m + 16 ∨ a = m + 17) → j ≠ 21 * f + c → M8 a j = I1 a j := fun a j _ hj => by rw [jr_nj e8 hj, jr_nj e5 hj]
      have a1 : moM m M8 f c = moM m I1 (f + 1) c := by
        show M8 (m + 16) (21 * f + c) = _
        rw [jr_na e8 (by omega), jr_eq e5, ei]
      have a2 : feM m M8 f c = feM m I1 (f + 1) c := by
        show M8 (m + 17) (21 * f + c) = _
        rw [jr_eq e8, ei]
      have a3 : moM m M8 (f + 1) c = moM m I1 (f + 1) c := K8 _ _ (Or.inl rfl) (by omega)
      have a4 : feM m M8 (f + 1) c = feM m I1 (f + 1) c := K8 _ _ (Or.inr rfl) (by omega)
      refine ⟨fun qx => ?_, fun qx => ⟨fun qc => ?_, fun qc => ?_⟩⟩
      · refine next M8 W8 K8 ⟨fun _ => ⟨by rw [a1, a3], by rw [a2, a4]⟩, fun q => ?_⟩
        rcases hx2 with g | g
        · omega
        · exact absurd q.1 g.1
      · have hfr : fr f ∧ x2 = nx f := by
          rcases hx2 with g | g
          · exact g
          · exact absurd g.2 qx
        obtain ⟨hfr, rfl⟩ := hfr
        have b2 := hD.bd hs1 (N - nx f).toNat (nx f) (c - 1) (by omega) (by omega) (by omega) (by omega) (by omega)
        have ej : 21 * nx f + c - 1 = 21 * nx f + (c - 1) := by omega
        have m1 : M5 (m + 16) (21 * nx f + (c - 1)) = moM m I1 (nx f) (c - 1) := jr_nj e5 (by omega)
        have m2 : M8 (m + 17) (21 * nx f + (c - 1)) = feM m I1 (nx f) (c - 1) := K8 _ _ (Or.inr rfl) (by omega)
        have a5 : moM m M8 (nx f) (c - 1) = moM m I1 (nx f) (c - 1) := K8 _ _ (Or.inl rfl) (by omega)
        have a6 : feM m M8 (nx f) (c - 1) = feM m I1 (nx f) (c - 1) := K8 _ _ (Or.inr rfl) (by omega)
        have keepOld : (v f + moM m I1 (nx f) (c - 1) < moM m I1 (f + 1) c ∨ (v f + moM m I1 (nx f) (c - 1) = moM m I1 (f + 1) c ∧ feM m I1 (f + 1) c < 1 + feM m I1 (nx f) (c - 1))) → DPs v fr nx (moM m M8) (feM m M8) f c := by
          intro hq
          refine ⟨fun q => absurd ⟨hfr, by omega⟩ q, fun _ => ⟨fun _ => ⟨by rw [a1, a3], by rw [a2, a4]⟩, fun q => absurd ?_ q⟩⟩
          rw [a3, a4, a5, a6]
          exact hq
        have take : ¬ (v f + moM m I1 (nx f) (c - 1) < moM m I1 (f + 1) c ∨ (v f + moM m I1 (nx f) (c - 1) = moM m I1 (f + 1) c ∧ feM m I1 (f + 1) c < 1 + feM m I1 (nx f) (c - 1))) → jOV E (jA m) kX10_laySet 213 [VR m, VI f, VI (nx f), VI c, VI (21 * f + c), VI (v f + moM m I1 (nx f) (c - 1)), VI (1 + feM m I1 (nx f) (c - 1))] G M8 (fun I' => WT m I I' ∧ SetOut m N v fr nx (I (m + 1) 6) I') := by
          intro hq
          refine st_X10_laySet_213 hm (fun _ _ _ _ _ _ _ => ⟨⟨by omega, by omega⟩, fun M2 e2 => ⟨⟨by omega, by omega⟩, fun M4 e4 => ?_⟩⟩)
          have K4 : ∀ a j, (a = m + 16 ∨ a = m + 17) → j ≠ 21 * f + c → M4 a j = I1 a j := fun a j ha hj => by rw [jr_nj e4 hj, jr_nj e2 hj]; exact K8 a j ha hj
          refine next M4 (W8.trans (fun a j ha hb => by rw [jr_na e4 hb, jr_na e2 ha])) K4 ⟨fun q => absurd ⟨hfr, by omega⟩ q, fun _ => ?_⟩
          have c1 : moM m M4 f c = v f + moM m I1 (nx f) (c - 1) := by
            show M4 (m + 16) (21 * f + c) = _
            rw [jr_na e4 (by omega), jr_eq e2]
          have c2 : feM m M4 f c = 1 + feM m I1 (nx f) (c - 1) := by
            show M4 (m + 17) (21 * f + c) = _
            rw [jr_eq e4]
          have c3 : moM m M4 (f + 1) c = moM m I1 (f + 1) c := K4 _ _ (Or.inl rfl) (by omega)
          have c4 : feM m M4 (f + 1) c = feM m I1 (f + 1) c := K4 _ _ (Or.inr rfl) (by omega)
          have c5 : moM m M4 (nx f) (c - 1) = moM m I1 (nx f) (c - 1) := K4 _ _ (Or.inl rfl) (by omega)
          have c6 : feM m M4 (nx f) (c - 1) = feM m I1 (nx f) (c - 1) := K4 _ _ (Or.inr rfl) (by omega)
          rw [c1, c2, c3, c4, c5, c6]
          exact ⟨fun q => absurd q hq, fun _ => ⟨rfl, rfl⟩⟩
        rw [ej, ei, hvf, m1, m2, v1, v2]
        refine ⟨⟨f0, by omega⟩, ⟨by omega, by omega⟩, ⟨by omega, by omega⟩, ⟨by omega, by omega⟩, ⟨by omega, by omega⟩, ⟨by omega, by omega⟩, fun q1 => next M8 W8 K8 (keepOld (Or.inl q1)), fun q1 => ⟨⟨by omega, by omega⟩, fun q2 => take (by omega), fun q2 => ⟨⟨by omega, by omega⟩, fun q3 => take (by omega), fun q3 => next M8 W8 K8 (keepOld (Or.inr ⟨q2, by omega⟩))⟩⟩⟩
      · refine next M8 W8 K8 ⟨fun _ => ⟨by rw [a1, a3], by rw [a2, a4]⟩, fun q => by omega⟩
  have outer : ∀ (d : Nat) (f : Int) (I1 : jM), f + 1 = d → f < N → WS m I I1 → DPp m N v fr nx I1 f 0 → jOV E (jA m) kX10_laySet 51 [VR m, VI f, VN, VN, VN, VN, VN] G I1 (fun I' => WT m I I' ∧ SetOut m N v fr nx (I (m + 1) 6) I') := by
    intro d
    induction d with
    | zero =>
      intro f I1 hf f1 hW hD
      have hs1 := h.ws hW
      exact laySet_end hm hs1 hW ⟨hD.1, fun g g0 g1 k k0 k1 => hD.2 g k g0 g1 k0 k1 (by omega)⟩ (by omega)
    | succ d ih =>
      intro f I1 hf f1 hW hD
      have hs1 := h.ws hW
      have f0 : 0 ≤ f := by omega
      have hfull := hs1.2.2.2.2 f f0 f1
      have go := inner f f0 f1 (fun I2 hW2 hD2 => by
        have e : f + (-1) = f - 1 := by omega
        rw [e]
        exact ih (f - 1) I2 (by omega) (by omega) hW2 hD2) 21 0
      refine st_X10_laySet_51 hm (fun _ _ => ⟨fun q => by omega, fun _ => ⟨⟨f0, by omega⟩, fun q => go (-1) I1 (by omega) (by omega) hW hD (Or.inr ⟨fun g => q (hfull.2.2.1.mpr g), rfl⟩), fun q => ?_⟩⟩)
      refine (sp_X10_behind hm ⟨f0, by omega⟩ (by rw [hs1.1]; omega) hfull.2.2.2).mono (fun x I10 _ _ hx => ?_)
      obtain ⟨rfl, rfl⟩ := hx
      exact go (nx f) I10 (by omega) (by omega) hW hD (Or.inl ⟨hfull.2.2.1.mp q, rfl⟩)
  have first : ∀ (d : Nat) (x : Int) (I1 : jM), 0 ≤ x → x + d = 21 → WS m I I1 → (∀ k, 0 ≤ k → k < x → moM m I1 N k = 0 ∧ feM m I1 N k = 0) → jOV E (jA m) kX10_laySet 2 [VR m, VI x, VN, VN, VN, VN, VN] G I1 (fun I' => WT m I I' ∧ SetOut m N v fr nx (I (m + 1) 6) I') := by
    intro d
    induction d with
    | zero =>
      intro x I1 x0 x1 hW hz
      have hs1 := h.ws hW
      refine st_X10_laySet_2 hm (fun _ _ => ⟨fun _ => ?_, fun q => by omega⟩)
      rw [hs1.1]
      refine ⟨⟨by omega, by omega⟩, ?_⟩
      exact outer N.toNat (N - 1) I1 (by omega) (by omega) hW ⟨fun k k0 k1 => hz k k0 (by omega), fun g k g0 g1 k0 k1 hgk => by omega⟩
    | succ d ih =>
      intro x I1 x0 x1 hW hz
      have hs1 := h.ws hW
      refine st_X10_laySet_2 hm (fun _ _ => ⟨fun q => by omega, fun _ => ?_⟩)
      rw [hs1.1]
      refine ⟨⟨by omega, by omega⟩, fun M3 e3 => ⟨⟨by omega, by omega⟩, fun M5 e5 => ⟨⟨by omega, by omega⟩, ?_⟩⟩⟩
      refine ih (x + 1) M5 (by omega) (by omega) (hW.trans (fun a j ha hb => by rw [jr_na e5 hb, jr_na e3 ha])) (fun k k0 k1 => ?_)
      by_cases ek : k = x
      · subst ek
        refine ⟨?_, ?_⟩
        · show M5 (m + 16) (21 * N + k) = 0
          rw [jr_na e5 (by omega), jr_eq e3]
        · show M5 (m + 17) (21 * N + k) = 0
          rw [jr_eq e5]
      · have := hz k k0 (by omega)
        refine ⟨?_, ?_⟩
        · show M5 (m + 16) (21 * N + k) = 0
          rw [jr_nj e5 (by omega), jr_nj e3 (by omega)]
          exact this.1
        · show M5 (m + 17) (21 * N + k) = 0
          rw [jr_nj e5 (by omega), jr_nj e3 (by omega)]
          exact this.2
  exact en_X10_laySet hm (fun _ => first 21 0 I (by omega) (by omega) (fun _ _ _ _ => rfl) (fun k k0 k1 => by omega))
end RN
