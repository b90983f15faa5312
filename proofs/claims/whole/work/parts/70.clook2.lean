/-! ===== the class: a finder has looked ===== -/
theorem FN.fr {φ : Nat} {X : Int → Int} {I I' : jM} {F : List (Int × Int)} (h : FN φ X I F) (e : ∀ a j, (φ + 5 ≤ a ∧ a ≤ φ + 10) ∨ (a = φ ∧ j = 5) → I' a j = I a j) : FN φ X I' F := by
  refine ⟨(e _ _ (by omega)).trans h.1, fun i hi => ?_⟩
  unfold RC
  rw [e _ _ (by omega), e _ _ (by omega), e _ _ (by omega), e _ _ (by omega), e _ _ (by omega), e _ _ (by omega)]
  exact h.2 i hi
/-- a finder that has looked at X on page p -/
def LK (G : jG) (φ p ρ : Nat) (X : Int → Int) (I : jM) : Prop := FC G φ p ρ X I ∧ WN1 φ X I ∧ PK φ I (setL X)
theorem PK.fr {φ : Nat} {P : List Int} {I I' : jM} (h : PK φ I P) (e : ∀ a j, a = φ + 13 ∨ (a = φ ∧ j = 15) → I' a j = I a j) : PK φ I' P := by
  refine ⟨(e _ _ (by omega)).trans h.1, fun i hi => ?_⟩
  rw [e _ _ (by omega)]
  exact h.2 i hi
theorem LK.fr {G : jG} {φ p ρ : Nat} {X : Int → Int} {I I' : jM} (h : LK G φ p ρ X I) (e : ∀ a j, (a = φ ∧ j ≠ 4) ∨ (φ + 1 ≤ a ∧ a < φ + 4) ∨ (φ + 5 ≤ a ∧ a < φ + 14) ∨ (p ≤ a ∧ a < p + 5) ∨ (ρ ≤ a ∧ a < ρ + 13) → I' a j = I a j) : LK G φ p ρ X I' :=
  ⟨h.1.fr (fun a j q => e a j (by omega)), h.2.1.fr (fun a j q => e a j (by omega)), h.2.2.fr (fun a j q => e a j (by omega))⟩
theorem LK.wf {G : jG} {φ p ρ : Nat} {X : Int → Int} {I I' : jM} (h : LK G φ p ρ X I) (e : WF φ I I') : LK G φ p ρ X I' := by
  have h1 := h.1.1
  exact h.fr (fun a j q => e a j (by omega) (by omega))
theorem LK.of {G : jG} {φ p ρ lo hi : Nat} {X : Int → Int} {I I' : jM} (h : LK G φ p ρ X I) (e : Fr lo hi I I') (h1 : φ + 14 ≤ lo ∨ hi ≤ φ) (h2 : p + 5 ≤ lo ∨ hi ≤ p) (h3 : ρ + 13 ≤ lo ∨ hi ≤ ρ) : LK G φ p ρ X I' := h.fr (fun a j q => e a j (by omega))
section CM
variable {E : jE} {G : jG} {φ p ρ σ : Nat} {I : jM} {X : Int → Int}
theorem cl_look (hm : WX1 G φ) (hp : WX4 G p) (hσ : WX7 G σ) (hρ : WX6 G ρ) (hd : σ + 9 ≤ φ ∨ φ + 14 ≤ σ) (hdp : p + 5 ≤ φ ∨ φ + 14 ≤ p) (hdr : ρ + 13 ≤ φ ∨ φ + 14 ≤ ρ) (hp6 : p ≤ 1000) (hP : PG p X I) (hR : RU ρ X I) (h1 : I σ 1 = (ρ : Int)) (hS : SM σ X I) (hQ : QW X) (hW : YW X) {on : Int} (hon : ∀ r, 0 ≤ r → r < X 4 → (jand (jshr on r) 1 = 1 ↔ X (515 + 40 * r) = 1)) : jRV E jB kX1_look [VR φ, VR p, VR σ, VI on] G I (fun I' => LK G φ p ρ X I' ∧ Fr φ (φ + 14) I I') := by
  have hk := tkS (S := X) hQ.1.1
  have hn := hk.n_le
  have h200 := hQ.1.2
  have hn0 := hk.1
  have h46 := hQ.2.1.2.1
  have h4 := hQ.2.1.1
  have h6 := hQ.2.2.2.1
  have hN0 : 0 ≤ NF X := NF0
  have hnx : ∀ f, 0 ≤ f → f < NF X → f < fN X f ∧ fN X f ≤ NF X := fun f f0 f1 => ⟨(fN_is f0 f1).1, (fN_is f0 f1).2.1⟩
  have hv : ∀ f, 0 ≤ f → f < NF X → 0 ≤ fV X f ∧ fV X f ≤ 9900 := fun f f0 f1 => fV_bd hQ (FLok hQ) f0 f1
  obtain ⟨a0, sd0⟩ : ∃ a, SDP (NF X) (fV X) (fFr X) (fN X) 0 1 a := ⟨_, sdp0 hnx hN0⟩
  obtain ⟨b0, sd1, eset⟩ : ∃ b, SDP (NF X) (fV X) (fFr X) (fN X) 1 (X 6) b ∧ setL X = ssel (NF X) (fV X) (fFr X) (fN X) 1 b (NF X).toNat 0 (X 6) := ⟨_, (dpS_ok X).sdp hv hnx hN0 h6.2, sel_ssel (dpS_ok X) hv hnx hN0 _ 0 (X 6) (by omega) hN0 h6.1 h6.2⟩
  have elim := ssel_lim sd0 sd1 hnx hN0 (NF X).toNat 0 (X 6) (by omega) hN0 (by omega) h6.1 (Int.le_refl _)
  have l32 : ∀ (d : Nat) (t : Int) (I1 : jM) (F : List (Int × Int)), 0 ≤ t → t + d = nT X → Lk G φ p ρ X I1 t 0 F → (∀ t', 0 ≤ t' → t' < t → isff F t' (I1 (φ + 11) t')) → Fr φ (φ + 14) I I1 → jOV E jB kX1_look 32 [VR φ, VR p, VR σ, VI on, VI t, VN, VN] G I1 (fun I' => LK G φ p ρ X I' ∧ Fr φ (φ + 14) I I') := by
    intro d
    induction d with
    | zero =>
      intro t I1 F t0 t1 hL hff hF
      have et : t = nT X := by omega
      subst et
      have en : I1 (φ + 1) 2 = nT X := hL.1.2.2.2.2.1
      refine st_X1_look_32 hm hp hσ (fun _ _ _ => ⟨fun _ => ?_, fun qq => absurd (by omega) qq⟩)
      rw [en]
      refine ⟨⟨by omega, by omega⟩, fun M2 e2 => ?_⟩
      have f2 : Fr φ (φ + 14) I1 M2 := Fr.up e2 (by omega)
      have hC2 : FC G φ p ρ X M2 := hL.1.fr (fun a j q => jr_na e2 (by have := hL.1.1; omega))
      have hL2 : Lk G φ p ρ X M2 (nT X) 0 F := ⟨hC2, hL.2.1.fr (fun a j q => jr_na e2 (by omega)), hL.2.2.1, fun y => by
        rw [hL.2.2.2 y]
        refine ⟨fun g => ⟨g.1, Or.inl g.1.2.2.2.1⟩, fun g => ⟨g.1, Or.inl g.1.2.2.2.1⟩⟩⟩
      have e5 := hL.2.1.1
      have hd2 := hL2.done (fun t' a b => by
        by_cases q : t' = nT X
        · rw [q, jr_eq e2, e5]
          refine ⟨⟨by omega, Int.le_refl _⟩, fun i i0 i1 => ⟨fun _ => i1, fun _ => ?_⟩⟩
          have hm' : fa F i ∈ F := gd_mem (by omega)
          exact ((hL.2.2.2 _).mp hm').1.2.2.2.1
        · rw [jr_nj e2 q]
          exact hff t' a (by omega))
      obtain ⟨rfl, hK, hMk⟩ := hd2
      have fS2 : ∀ a j, σ ≤ a → a < σ + 9 → M2 a j = I a j := fun a j a0 a1 => by rw [f2 _ _ (by omega), hF _ _ (by omega)]
      have hY2 : YS σ X M2 := by
        have := hS.2.2
        refine ⟨⟨(fS2 _ _ (by omega) (by omega)).trans this.1.1, this.1.2⟩, fun k k0 k1 => ?_⟩
        rw [fS2 _ _ (by omega) (by omega), fS2 _ _ (by omega) (by omega)]
        exact this.2 k k0 k1
      refine (cl_markYielded hm hσ hd hK hY2 hQ hW hMk).mono (fun I3 _ g3 => ?_)
      have hW3 : WN1 φ X I3 := ⟨hK.fr (fun a j q => g3.2 a j (by omega)), g3.1, by rw [g3.2 _ _ (by omega)]; exact hC2.2.2.2.2.1⟩
      have f3 : Fr φ (φ + 14) I I3 := hF.trans (f2.trans (fun a j ha => g3.2 a j (by omega)))
      have hC3 : FC G φ p ρ X I3 := hC2.fr (fun a j q => g3.2 a j (by have := hC2.1; omega))
      refine (cl_weigh hm hW3 hQ sd0 (Or.inl rfl) (by omega)).mono (fun I4 _ g4 => ?_)
      have hW4 : WN1 φ X I4 := hW3.fr (fun a j q => g4.2 a j (by omega))
      have f4 : Fr φ (φ + 14) I I4 := f3.trans (fun a j ha => g4.2 a j (by omega))
      have hC4 : FC G φ p ρ X I4 := hC3.fr (fun a j q => g4.2 a j (by have := hC2.1; omega))
      refine (cl_pick hm hW4 g4.1 hQ sd0 (Or.inl rfl) (by omega)).mono (fun I5 _ g5 => ?_)
      have hW5 : WN1 φ X I5 := hW4.fr (fun a j q => g5.2 a j (by omega) (by omega))
      have f5 : Fr φ (φ + 14) I I5 := f4.trans (fun a j ha => g5.2 a j (by omega) (by omega))
      have hC5 : FC G φ p ρ X I5 := hC4.fr (fun a j q => g5.2 a j (by have := hC2.1; omega) (by have := hC2.1; omega))
      have e6 : ∀ I', Fr φ (φ + 14) I I' → I' σ 4 = X 6 := fun I' f => by rw [f _ _ (by omega)]; exact hS.2.1
      rw [g5.1.1, e6 I5 f5]
      refine ⟨fun q => ⟨⟨hC5, hW5, ?_⟩, f5⟩, fun q => ?_⟩
      · rw [eset, (elim.2 q).2]
        exact g5.1
      · refine (cl_weigh hm hW5 hQ sd1 (Or.inr rfl) h6).mono (fun I6 _ g6 => ?_)
        have hW6 : WN1 φ X I6 := hW5.fr (fun a j q => g6.2 a j (by omega))
        have f6 : Fr φ (φ + 14) I I6 := f5.trans (fun a j ha => g6.2 a j (by omega))
        have hC6 : FC G φ p ρ X I6 := hC5.fr (fun a j q => g6.2 a j (by have := hC2.1; omega))
        rw [e6 I6 f6]
        refine (cl_pick hm hW6 g6.1 hQ sd1 (Or.inr rfl) h6).mono (fun I7 _ g7 => ⟨⟨?_, ?_, ?_⟩, ?_⟩)
        · exact hC6.fr (fun a j q => g7.2 a j (by have := hC2.1; omega) (by have := hC2.1; omega))
        · exact hW6.fr (fun a j q => g7.2 a j (by omega) (by omega))
        · rw [eset]
          exact g7.1
        · exact f6.trans (fun a j ha => g7.2 a j (by omega) (by omega))
    | succ d ih =>
      intro t I1 F t0 t1 hL hff hF
      have en : I1 (φ + 1) 2 = nT X := hL.1.2.2.2.2.1
      refine st_X1_look_32 hm hp hσ (fun _ _ _ => ⟨fun qq => absurd qq (by omega), fun _ => ⟨⟨by omega, by omega⟩, fun M9 e9 => ?_⟩⟩)
      have hC9 : FC G φ p ρ X M9 := hL.1.fr (fun a j q => jr_na e9 (by have := hL.1.1; omega))
      have hlt : ∀ y ∈ F, y.2 < t := fun y hy => by
        rcases ((hL.2.2.2 y).mp hy).2 with g | ⟨g, k', a, b, c⟩
        · exact g
        · omega
      refine cl_lookIn hm hp hσ hQ hon hd ⟨t0, by omega⟩ hS.1 (fun I2 F2 a b c => ih (t + 1) I2 F2 (by omega) (by omega) a (fun t' x y => b t' x (by omega)) c) (X 4).toNat 0 M9 F (by omega) (by omega) ⟨hC9, hL.2.1.fr (fun a j q => jr_na e9 (by omega)), hL.2.2.1, fun y => ?_⟩ (fun t' a b => ?_) (hF.trans (Fr.up e9 (by omega)))
      · rw [hL.2.2.2 y]
        refine ⟨fun g => ⟨g.1, ?_⟩, fun g => ⟨g.1, ?_⟩⟩
        · rcases g.2 with g | ⟨g, k', a, b, c⟩
          · exact Or.inl g
          · omega
        · rcases g.2 with g | ⟨g, k', a, b, c⟩
          · exact Or.inl g
          · omega
      · by_cases q : t' = t
        · rw [q, jr_eq e9, hL.2.1.1]
          exact ⟨⟨by omega, Int.le_refl _⟩, fun i i0 i1 => ⟨fun _ => i1, fun _ => hlt _ (gd_mem (by omega))⟩⟩
        · rw [jr_nj e9 q]
          exact hff t' a (by omega)
  refine en_X1_look hm hp hσ (fun hI _ => ⟨by omega, fun M1 e1 => ⟨ρ, by rw [jr_na e1 (by omega)]; exact h1, hρ, by have := (hI σ 1).inR; omega, fun M6 e6 => ⟨p, rfl, hp, ?_⟩⟩⟩)
  have f6 : Fr φ (φ + 1) I M6 := (Fr.up e1 (by omega)).trans (Fr.up e6 (by omega))
  have hP6 : PG p X M6 := hP.of f6 (by omega)
  refine (cl_split (wX1_o2 hm) hp (by omega) hP6.1).mono (fun I11 _ g M12 e12 => ?_)
  have f11 : Fr φ (φ + 14) I I11 := (f6.mono (by omega) (by omega)).trans (g.2.mono (by omega) (by omega))
  have f12 : Fr φ (φ + 14) I M12 := f11.trans (Fr.up e12 (by omega))
  have hC : FC G φ p ρ X M12 := by
    refine ⟨⟨⟨hm, hp, hρ⟩, hdp, hdr⟩, ⟨?_, ?_⟩, hP.of f12 (by omega), hR.fr (fun a j a0 a1 => f12 a j (by omega)), g.1.fr (fun a j a0 a1 => jr_na e12 (by omega))⟩
    · rw [jr_nj e12 (by decide), g.2 _ _ (by omega), jr_nj e6 (by decide), jr_eq e1]
    · rw [jr_nj e12 (by decide), g.2 _ _ (by omega), jr_eq e6]
  exact l32 (nT X).toNat 0 M12 [] (by omega) (by omega) ⟨hC, ⟨by rw [jr_eq e12]; rfl, fun i hi => absurd hi (Nat.not_lt_zero i)⟩, List.Pairwise.nil, fun y => ⟨fun g => absurd g List.not_mem_nil, fun g => absurd g.1.2.2.1 (by rcases g.2 with a | ⟨a, k', b, c, _⟩ <;> omega)⟩⟩ (fun t' a b => by omega) f12
end CM
