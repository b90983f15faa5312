/-! ===== the class: rules, states ===== -/
def pkd (s : Int) : Int := if s = 4 then 4 else if s = 5 then 1 else if s = 6 then 2 else if s = 7 then 3 else 0
/-- an element, a part as the class holds it -/
def ER (ρ : Nat) (X : Int → Int) (r e : Int) (I : jM) : Prop :=
  I (ρ + 6) (6 * r + e) = told (X (518 + 40 * r + 3 * e + 0)) ∧ (X (518 + 40 * r + 3 * e + 0) ≤ 2 → isFst X r e (I (ρ + 8) (6 * r + e))) ∧ (X (518 + 40 * r + 3 * e + 0) = 3 → I (ρ + 8) (6 * r + e) = e) ∧
  (X (518 + 40 * r + 3 * e + 0) = 4 → I (ρ + 8) (6 * r + e) = X (518 + 40 * r + 3 * e + 1) ∧ I (ρ + 9) (6 * r + e) = X (518 + 40 * r + 3 * e + 1) + X (518 + 40 * r + 3 * e + 2) ∧ ∀ k, 0 ≤ k → k < X (518 + 40 * r + 3 * e + 2) → I (ρ + 1) (X (518 + 40 * r + 3 * e + 1) + k) = X (754 + X (518 + 40 * r + 3 * e + 1) + k))
def QR (ρ : Nat) (X : Int → Int) (r p : Int) (I : jM) : Prop :=
  I (ρ + 10) (6 * r + p) = pkd (X (536 + 40 * r + 3 * p + 0)) ∧
  (X (536 + 40 * r + 3 * p + 0) = 4 → I (ρ + 11) (6 * r + p) = X (536 + 40 * r + 3 * p + 1) ∧ I (ρ + 12) (6 * r + p) = X (536 + 40 * r + 3 * p + 1) + X (536 + 40 * r + 3 * p + 2) ∧ ∀ k, 0 ≤ k → k < X (536 + 40 * r + 3 * p + 2) → I (ρ + 1) (X (536 + 40 * r + 3 * p + 1) + k) = X (754 + X (536 + 40 * r + 3 * p + 1) + k)) ∧
  (X (536 + 40 * r + 3 * p + 0) ≠ 4 → I (ρ + 11) (6 * r + p) = fk X r (4 * pbase (X (536 + 40 * r + 3 * p + 0)) + X (536 + 40 * r + 3 * p + 1)))
def rlt (X : Int → Int) (x y : Int) : Prop := X (516 + 40 * x) < X (516 + 40 * y) ∨ (X (516 + 40 * x) = X (516 + 40 * y) ∧ x < y)
def ORD (ρ : Nat) (X : Int → Int) (I : jM) : Prop := (∀ k, 0 ≤ k → k < X 4 → 0 ≤ I (ρ + 5) k ∧ I (ρ + 5) k < X 4) ∧ (∀ k k', 0 ≤ k → k < k' → k' < X 4 → rlt X (I (ρ + 5) k) (I (ρ + 5) k')) ∧ ∀ r, 0 ≤ r → r < X 4 → ∃ k, 0 ≤ k ∧ k < X 4 ∧ I (ρ + 5) k = r
def RU (ρ : Nat) (X : Int → Int) (I : jM) : Prop := I ρ 1 = X 4 ∧ (∀ r, 0 ≤ r → r < X 4 → I (ρ + 2) r = X (514 + 40 * r) ∧ I (ρ + 3) r = X (516 + 40 * r) ∧ I (ρ + 4) r = X (517 + 40 * r) ∧ (∀ e, 0 ≤ e → e < X (516 + 40 * r) → ER ρ X r e I) ∧ ∀ p, 0 ≤ p → p < X (517 + 40 * r) → QR ρ X r p I) ∧ ORD ρ X I
theorem RU.fr {ρ : Nat} {X : Int → Int} {I I' : jM} (h : RU ρ X I) (e : ∀ a j, ρ ≤ a → a < ρ + 13 → I' a j = I a j) : RU ρ X I' := by
  have f : ∀ k, k < 13 → I' (ρ + k) = I (ρ + k) := fun k hk => by funext j; exact e _ _ (by omega) (by omega)
  have f0 : I' ρ = I ρ := f 0 (by omega)
  unfold RU ORD ER QR at *
  rw [f0, f 1 (by omega), f 2 (by omega), f 3 (by omega), f 4 (by omega), f 5 (by omega), f 6 (by omega), f 8 (by omega), f 9 (by omega), f 10 (by omega), f 11 (by omega), f 12 (by omega)]
  exact h
/-- the same rules, but for which are on -/
def EqR (X Y : Int → Int) : Prop := Y 4 = X 4 ∧ ∀ j, 514 ≤ j → j < 1054 → ((j - 515) % 40 ≠ 0 ∨ 754 ≤ j) → Y j = X j
theorem m40 {j r x : Int} (hx : 0 < x ∧ x < 40) (h : j - 515 = 40 * r + x) : (j - 515) % 40 ≠ 0 := by
  rw [h]
  omega
theorem EqR.el {X Y : Int → Int} (h : EqR X Y) {r e w : Int} (hr : 0 ≤ r ∧ r < 6) (he : 0 ≤ e ∧ e < 6) (hw : 0 ≤ w ∧ w < 3) : Y (518 + 40 * r + 3 * e + w) = X (518 + 40 * r + 3 * e + w) := h.2 _ (by omega) (by omega) (Or.inl (m40 (r := r) (x := 3 + 3 * e + w) (by omega) (by omega)))
theorem EqR.pt {X Y : Int → Int} (h : EqR X Y) {r e w : Int} (hr : 0 ≤ r ∧ r < 6) (he : 0 ≤ e ∧ e < 6) (hw : 0 ≤ w ∧ w < 3) : Y (536 + 40 * r + 3 * e + w) = X (536 + 40 * r + 3 * e + w) := h.2 _ (by omega) (by omega) (Or.inl (m40 (r := r) (x := 21 + 3 * e + w) (by omega) (by omega)))
theorem EqR.kq {X Y : Int → Int} (h : EqR X Y) {r e : Int} (hr : 0 ≤ r ∧ r < 6) (he : 0 ≤ e ∧ e < 6) : key Y r e = key X r e := by
  unfold key
  rw [h.el hr he (by omega), h.el hr he (by omega)]
theorem EqR.fq {X Y : Int → Int} (h : EqR X Y) {r k : Int} (hr : 0 ≤ r ∧ r < 6) (hn : X (516 + 40 * r) ≤ 6) : fk Y r k = fk X r k := by
  have en : Y (516 + 40 * r) = X (516 + 40 * r) := h.2 _ (by omega) (by omega) (by omega)
  unfold fk
  congr 1
  funext e
  unfold isK
  rw [en]
  apply propext
  constructor
  · intro g
    refine ⟨g.1, g.2.1, by rw [← h.kq hr (by omega)]; exact g.2.2.1, fun e' e0 e1 => by rw [← h.kq hr (by omega)]; exact g.2.2.2 e' e0 e1⟩
  · intro g
    refine ⟨g.1, g.2.1, by rw [h.kq hr (by omega)]; exact g.2.2.1, fun e' e0 e1 => by rw [h.kq hr (by omega)]; exact g.2.2.2 e' e0 e1⟩
theorem RU.congr {ρ : Nat} {X Y : Int → Int} {I : jM} (h : RU ρ X I) (hw : RW X) (e : EqR X Y) : RU ρ Y I := by
  have e4 := e.1
  have h4 := hw.2.1
  have e516 : ∀ r, 0 ≤ r → r < X 4 → Y (516 + 40 * r) = X (516 + 40 * r) := fun r r0 r1 => e.2 _ (by omega) (by omega) (by omega)
  refine ⟨by rw [e4]; exact h.1, fun r r0 r1 => ?_, ⟨fun k k0 k1 => ?_, fun k k' k0 kk k1 => ?_, fun r r0 r1 => ?_⟩⟩
  · rw [e4] at r1
    obtain ⟨g1, g2, g3, g4, g5⟩ := h.2.1 r r0 r1
    obtain ⟨w1, w2, w3, w4, w5, w6, w7⟩ := hw.2.2 r r0 r1
    have hr : 0 ≤ r ∧ r < 6 := by omega
    have e517 : Y (517 + 40 * r) = X (517 + 40 * r) := e.2 _ (by omega) (by omega) (by omega)
    refine ⟨by rw [e.2 _ (by omega) (by omega) (by omega)]; exact g1, by rw [e516 r r0 r1]; exact g2, by rw [e517]; exact g3, fun k k0 k1 => ?_, fun k k0 k1 => ?_⟩
    · rw [e516 r r0 r1] at k1
      have hk : 0 ≤ k ∧ k < 6 := by omega
      have w := w5 k k0 k1
      obtain ⟨u1, u2, u3, u4⟩ := g4 k k0 k1
      unfold ER
      rw [e.el hr hk (by omega), e.el hr hk (by omega), e.el hr hk (by omega)]
      refine ⟨u1, fun q => ?_, u3, fun q => ⟨(u4 q).1, (u4 q).2.1, fun j j0 j1 => ?_⟩⟩
      · obtain ⟨v1, v2, v3, v4⟩ := u2 q
        exact ⟨v1, v2, by rw [e.kq hr (by omega), e.kq hr hk]; exact v3, fun e' e0 e1 => by rw [e.kq hr (by omega), e.kq hr hk]; exact v4 e' e0 e1⟩
      · have w' := w.2.2.2 q
        rw [e.2 _ (by omega) (by omega) (by omega)]
        exact (u4 q).2.2 j j0 j1
    · rw [e517] at k1
      have hk : 0 ≤ k ∧ k < 6 := by omega
      have w := w6 k k0 k1
      obtain ⟨u1, u2, u3⟩ := g5 k k0 k1
      unfold QR
      rw [e.pt hr hk (by omega), e.pt hr hk (by omega), e.pt hr hk (by omega), e.fq hr w3.2]
      refine ⟨u1, fun q => ⟨(u2 q).1, (u2 q).2.1, fun j j0 j1 => ?_⟩, u3⟩
      have w' := w.2.2.2.1 q
      rw [e.2 _ (by omega) (by omega) (by omega)]
      exact (u2 q).2.2 j j0 j1
  · rw [e4] at k1 ⊢
    exact h.2.2.1 k k0 k1
  · rw [e4] at k1
    have a := h.2.2.1 k k0 (by omega)
    have b := h.2.2.1 k' (by omega) k1
    unfold rlt
    rw [e516 _ a.1 a.2, e516 _ b.1 b.2]
    exact h.2.2.2.1 k k' k0 kk k1
  · rw [e4] at r1
    rw [e4]
    exact h.2.2.2.2 r r0 r1
def RP (G : jG) (δ : Nat) (v : Int) (X : Int → Int) (I : jM) : Prop := ∃ ρ : Nat, v = (ρ : Int) ∧ WX6 G ρ ∧ (ρ = 169 ∨ ρ = 182 ∨ 635 ≤ ρ) ∧ (ρ + 13 ≤ δ ∨ δ + 13 ≤ ρ) ∧ RU ρ X I
theorem RP.of {G : jG} {δ lo hi : Nat} {v : Int} {X : Int → Int} {I I' : jM} (h : RP G δ v X I) (e : Fr lo hi I I') (hd : hi ≤ 169 ∨ (195 ≤ lo ∧ hi ≤ 635)) : RP G δ v X I' := by
  obtain ⟨ρ, h1, h2, h3, h4, h5⟩ := h
  exact ⟨ρ, h1, h2, h3, h4, h5.fr (fun a j a0 a1 => e a j (by omega))⟩
theorem RP.congr {G : jG} {δ : Nat} {v : Int} {X Y : Int → Int} {I : jM} (h : RP G δ v X I) (hw : RW X) (e : EqR X Y) : RP G δ v Y I := by
  obtain ⟨ρ, h1, h2, h3, h4, h5⟩ := h
  exact ⟨ρ, h1, h2, h3, h4, h5.congr hw e⟩
/-- yields, as a state holds them -/
def YS (a : Nat) (X : Int → Int) (I : jM) : Prop := (I a 7 = X 7 ∧ 0 ≤ X 7 ∧ X 7 ≤ 8) ∧ ∀ k, 0 ≤ k → k < X 7 → I (a + 6) k = X (426 + 2 * k) ∧ I (a + 7) k = X (426 + 2 * k + 1)
/-- a state's small things -/
def SM (a : Nat) (X : Int → Int) (I : jM) : Prop := I a 3 = X 5 ∧ I a 4 = X 6 ∧ YS a X I
def BK (a : Nat) (X : Int → Int) (I : jM) : Prop := (I a 9 = X 9 ∧ 0 ≤ X 9 ∧ X 9 ≤ 24) ∧ (∀ j, 0 ≤ j → j < 3 * X 9 → I (a + 8) j = X (442 + j)) ∧ I a 10 = X 8
def ST (G : jG) (δ a : Nat) (X : Int → Int) (I : jM) : Prop := PG (a + 1) X I ∧ RP G δ (I a 1) X I ∧ I a 2 = onB X (X 4).toNat ∧ SM a X I ∧ BK a X I
theorem SM.fr {a : Nat} {X : Int → Int} {I I' : jM} (h : SM a X I) (e : ∀ b j, (b = a + 6 ∨ b = a + 7 ∨ (b = a ∧ (j = 3 ∨ j = 4 ∨ j = 7))) → I' b j = I b j) : SM a X I' := by
  obtain ⟨h1, h2, h3, h4⟩ := h
  refine ⟨(e _ _ (by omega)).trans h1, (e _ _ (by omega)).trans h2, ⟨(e _ _ (by omega)).trans h3.1, h3.2⟩, fun k k0 k1 => ?_⟩
  rw [e _ _ (by omega), e _ _ (by omega)]
  exact h4 k k0 k1
theorem BK.fr {a : Nat} {X : Int → Int} {I I' : jM} (h : BK a X I) (e : ∀ b j, (b = a + 8 ∨ (b = a ∧ (j = 9 ∨ j = 10))) → I' b j = I b j) : BK a X I' := by
  obtain ⟨h1, h2, h3⟩ := h
  refine ⟨⟨(e _ _ (by omega)).trans h1.1, h1.2⟩, fun k k0 k1 => ?_, (e _ _ (by omega)).trans h3⟩
  rw [e _ _ (by omega)]
  exact h2 k k0 k1
theorem SM.congr {a : Nat} {X Y : Int → Int} {I : jM} (h : SM a X I) (e : ∀ j, (j = 5 ∨ j = 6 ∨ j = 7 ∨ (426 ≤ j ∧ j < 442)) → Y j = X j) : SM a Y I := by
  obtain ⟨h1, h2, h3, h4⟩ := h
  have e7 := e 7 (by omega)
  refine ⟨by rw [e 5 (by omega)]; exact h1, by rw [e 6 (by omega)]; exact h2, by rw [e7]; exact h3, fun k k0 k1 => ?_⟩
  rw [e _ (by omega), e _ (by omega)]
  exact h4 k k0 (by omega)
theorem BK.congr {a : Nat} {X Y : Int → Int} {I : jM} (h : BK a X I) (e : ∀ j, (j = 8 ∨ j = 9 ∨ (442 ≤ j ∧ j < 514)) → Y j = X j) : BK a Y I := by
  obtain ⟨h1, h2, h3⟩ := h
  have e9 := e 9 (by omega)
  refine ⟨by rw [e9]; exact h1, fun k k0 k1 => ?_, by rw [e 8 (by omega)]; exact h3⟩
  rw [e _ (by omega)]
  exact h2 k k0 (by omega)
theorem onB_congr {X Y : Int → Int} (e : ∀ r, 0 ≤ r → r < X 4 → Y (515 + 40 * r) = X (515 + 40 * r)) : ∀ n : Nat, (n : Int) ≤ X 4 → onB Y n = onB X n := by
  intro n
  induction n with
  | zero => intro _; rfl
  | succ n ih =>
    intro hn
    show jor (onB Y n) (jshl (Y (515 + 40 * (n : Int))) n) = jor (onB X n) (jshl (X (515 + 40 * (n : Int))) n)
    rw [ih (by omega), e n (by omega) (by omega)]
theorem ST.fr {G : jG} {δ a lo hi : Nat} {X : Int → Int} {I I' : jM} (h : ST G δ a X I) (e : Fr lo hi I I') (hd : hi ≤ 169 ∨ (195 ≤ lo ∧ hi ≤ 635)) (ha : a + 9 ≤ lo ∨ hi ≤ a) : ST G δ a X I' := by
  obtain ⟨h1, h2, h3, h4, h5⟩ := h
  refine ⟨h1.of e (by omega), ?_, (e _ _ (by omega)).trans h3, h4.fr (fun b j q => e _ _ (by omega)), h5.fr (fun b j q => e _ _ (by omega))⟩
  rw [e _ _ (by omega)]
  exact h2.of e hd
set_option maxRecDepth 20000 in
theorem st_X7_copyFrom_0 {E : jE} {G : jG} {I : jM} {q : jM → Prop} {m : Nat} {p1 : Nat} (hm : WX7 G m) (hp1 : WX7 G p1) (hT : (∀ a j, jRg (G.2.1 a).1 (I a j)) → jRV E jB kX4_copyFrom [VR (m + 1), VR (p1 + 1)] G I (fun I1 => (∃ b2 : Nat, I1 p1 1 = (b2 : Int) ∧ WX6 G b2 ∧ (((b2 : Nat) : Int) ≤ 2147483647) ∧ (∀ M5, M5 = jup I1 m 1 ((b2 : Nat) : Int) → (∀ M7, M7 = jup M5 m 2 (M5 p1 2) → (∀ M8, M8 = jup M7 m 3 (M7 p1 3) → (∀ M9, M9 = jup M8 m 4 (M8 p1 4) → (∀ M10, M10 = jup M9 m 7 (M9 p1 7) → ((0 : Int) ≤ 0 ∧ (0 : Int) ≤ 0 ∧ (0 : Int) ≤ (M9 p1 7) ∧ (0 : Int) + (M9 p1 7) ≤ 8 ∧ (0 : Int) + (M9 p1 7) ≤ 8) ∧ (∀ M12, M12 = jcp M10 (p1 + 6) (m + 6) 0 0 (M9 p1 7) → ((0 : Int) ≤ 0 ∧ (0 : Int) ≤ 0 ∧ (0 : Int) ≤ (M9 p1 7) ∧ (0 : Int) + (M9 p1 7) ≤ 8 ∧ (0 : Int) + (M9 p1 7) ≤ 8) ∧ (∀ M14, M14 = jcp M12 (p1 + 7) (m + 7) 0 0 (M9 p1 7) → (∀ M15, M15 = jup M14 m 9 (M14 p1 9) → ((0 : Int) ≤ 0 ∧ (0 : Int) ≤ 0 ∧ (0 : Int) ≤ ((M14 p1 9) * 3) ∧ (0 : Int) + ((M14 p1 9) * 3) ≤ 72 ∧ (0 : Int) + ((M14 p1 9) * 3) ≤ 72) ∧ (∀ M17, M17 = jcp M15 (p1 + 8) (m + 8) 0 0 ((M14 p1 9) * 3) → (∀ M18, M18 = jup M17 m 10 (M17 p1 10) → q M18))))))))))))) : jOV E jB kX7_copyFrom 0 [VR m, VR p1] G I q := by
  intro I0 hF
  refine jOk_mem (fun hI => ?_)
  replace hT := hT hI 
  refine r_aload_n dX7_copyFrom_0 rfl (i := 0) rfl ?_
  refine rr_getR (b := (m + 1)) dX7_copyFrom_1 fg_X7_12 rfl rfl (wX7_l hm) (wX7_s hm) (wX7_r0 hm) ?_
  refine r_aload_n dX7_copyFrom_4 rfl (i := 1) rfl ?_
  refine rr_getR (b := (p1 + 1)) dX7_copyFrom_5 fg_X7_12 rfl rfl (wX7_l hp1) (wX7_s hp1) (wX7_r0 hp1) ?_
  refine rr_cVV (a := (m + 1)) (as := [VR (p1 + 1)]) (st := []) dX7_copyFrom_8 mt_X4_copyFrom ml_X7_36 mi_X4_copyFrom rm_X7_copyFrom_X4_copyFrom jz_X4_copyFrom ⟨Nat.zero_le _, Nat.zero_le _⟩ (Nat.le_of_ble_eq_true rfl) (wX4_l (wX7_o0 hm)) (wX4_c (wX7_o0 hm)) (jasR jas0) hT (fun I1 hFI1 hT => ?_)
  replace hFI1 := jFr_tr hF hFI1
  refine jOk_mem (fun hI1 => ?_)
  refine r_aload_n dX7_copyFrom_11 rfl (i := 0) rfl ?_
  refine r_aload_n dX7_copyFrom_12 rfl (i := 1) rfl ?_
  obtain ⟨b2, hc3, hc4, hT⟩ := hT
  refine rr_getM (b := b2) dX7_copyFrom_13 fg_X7_32 rfl rfl (wX7_l hp1) (wX7_s hp1) hc3 ?_
  obtain ⟨hc6, hT⟩ := hT
  refine rr_putM (jj := 1) dX7_copyFrom_16 fp_X7_32 rfl rfl (wX7_l hm) (wX7_s hm) hc6 (fun M5 eM5 => ?_)
  have hFM5 := jFr_up hFI1 eM5 (wX7_f hm 0 (by decide))
  replace hT := hT M5 eM5
  refine jOk_mem (fun hIM5 => ?_)
  refine r_aload_n dX7_copyFrom_19 rfl (i := 0) rfl ?_
  refine r_aload_n dX7_copyFrom_20 rfl (i := 1) rfl ?_
  refine rr_getI (v := M5 p1 2) dX7_copyFrom_21 fg_X7_40 rfl (wX7_l hp1) (wX7_s hp1) rfl ?_
  refine rr_putI (jj := 2) dX7_copyFrom_24 fp_X7_40 rfl rfl (wX7_l hm) (wX7_s hm) (hIM5 _ _).inR (fun M7 eM7 => ?_)
  have hFM7 := jFr_up hFM5 eM7 (wX7_f hm 0 (by decide))
  replace hT := hT M7 eM7
  refine jOk_mem (fun hIM7 => ?_)
  refine r_aload_n dX7_copyFrom_27 rfl (i := 0) rfl ?_
  refine r_aload_n dX7_copyFrom_28 rfl (i := 1) rfl ?_
  refine rr_getI (v := M7 p1 3) dX7_copyFrom_29 fg_X7_43 rfl (wX7_l hp1) (wX7_s hp1) rfl ?_
  refine rr_putI (jj := 3) dX7_copyFrom_32 fp_X7_43 rfl rfl (wX7_l hm) (wX7_s hm) (hIM7 _ _).inR (fun M8 eM8 => ?_)
  have hFM8 := jFr_up hFM7 eM8 (wX7_f hm 0 (by decide))
  replace hT := hT M8 eM8
  refine jOk_mem (fun hIM8 => ?_)
  refine r_aload_n dX7_copyFrom_35 rfl (i := 0) rfl ?_
  refine r_aload_n dX7_copyFrom_36 rfl (i := 1) rfl ?_
  refine rr_getI (v := M8 p1 4) dX7_copyFrom_37 fg_X7_18 rfl (wX7_l hp1) (wX7_s hp1) rfl ?_
  refine rr_putI (jj := 4) dX7_copyFrom_40 fp_X7_18 rfl rfl (wX7_l hm) (wX7_s hm) (hIM8 _ _).inR (fun M9 eM9 => ?_)
  have hFM9 := jFr_up hFM8 eM9 (wX7_f hm 0 (by decide))
  replace hT := hT M9 eM9
  refine jOk_mem (fun hIM9 => ?_)
  refine r_aload_n dX7_copyFrom_43 rfl (i := 0) rfl ?_
  refine r_aload_n dX7_copyFrom_44 rfl (i := 1) rfl ?_
  refine rr_getI (v := M9 p1 7) dX7_copyFrom_45 fg_X7_46 rfl (wX7_l hp1) (wX7_s hp1) rfl ?_
  refine rr_putI (jj := 7) dX7_copyFrom_48 fp_X7_46 rfl rfl (wX7_l hm) (wX7_s hm) (hIM9 _ _).inR (fun M10 eM10 => ?_)
  have hFM10 := jFr_up hFM9 eM10 (wX7_f hm 0 (by decide))
  replace hT := hT M10 eM10
  refine jOk_mem (fun hIM10 => ?_)
  refine r_aload_n dX7_copyFrom_51 rfl (i := 1) rfl ?_
  refine rr_getR (b := (p1 + 6)) dX7_copyFrom_52 fg_X7_22 rfl rfl (wX7_l hp1) (wX7_s hp1) (wX7_r5 hp1) ?_
  refine r_iconst (n := 0) dX7_copyFrom_55 ?_
  refine r_aload_n dX7_copyFrom_56 rfl (i := 0) rfl ?_
  refine rr_getR (b := (m + 6)) dX7_copyFrom_57 fg_X7_22 rfl rfl (wX7_l hm) (wX7_s hm) (wX7_r5 hm) ?_
  refine r_iconst (n := 0) dX7_copyFrom_60 ?_
  refine r_aload_n dX7_copyFrom_61 rfl (i := 0) rfl ?_
  refine rr_getI (v := M9 p1 7) dX7_copyFrom_62 fg_X7_46 rfl (wX7_l hm) (wX7_s hm) (jr_eq eM10) ?_
  obtain ⟨hc11, hT⟩ := hT
  refine rr_copy (st := []) dX7_copyFrom_65 ml_X7_49 ⟨Nat.le_of_ble_eq_true rfl, Nat.le_of_ble_eq_true rfl⟩ rfl (wX7_l5 hp1) (wX7_l5 hm) (wX7_a5 hp1) (wX7_a5 hm) (Or.inl rfl) (by decide) (by decide) hc11 (fun M12 eM12 => ?_)
  have hFM12 := jFr_cp hFM10 eM12 (wX7_f hm 6 (by decide))
  replace hT := hT M12 eM12
  refine jOk_mem (fun hIM12 => ?_)
  refine r_aload_n dX7_copyFrom_68 rfl (i := 1) rfl ?_
  refine rr_getR (b := (p1 + 7)) dX7_copyFrom_69 fg_X7_26 rfl rfl (wX7_l hp1) (wX7_s hp1) (wX7_r6 hp1) ?_
  refine r_iconst (n := 0) dX7_copyFrom_72 ?_
  refine r_aload_n dX7_copyFrom_73 rfl (i := 0) rfl ?_
  refine rr_getR (b := (m + 7)) dX7_copyFrom_74 fg_X7_26 rfl rfl (wX7_l hm) (wX7_s hm) (wX7_r6 hm) ?_
  refine r_iconst (n := 0) dX7_copyFrom_77 ?_
  refine r_aload_n dX7_copyFrom_78 rfl (i := 0) rfl ?_
  refine rr_getI (v := M9 p1 7) dX7_copyFrom_79 fg_X7_46 rfl (wX7_l hm) (wX7_s hm) ((jc_na eM12 (by omega)).trans (jr_eq eM10)) ?_
  obtain ⟨hc13, hT⟩ := hT
  refine rr_copy (st := []) dX7_copyFrom_82 ml_X7_49 ⟨Nat.le_of_ble_eq_true rfl, Nat.le_of_ble_eq_true rfl⟩ rfl (wX7_l6 hp1) (wX7_l6 hm) (wX7_a6 hp1) (wX7_a6 hm) (Or.inl rfl) (by decide) (by decide) hc13 (fun M14 eM14 => ?_)
  have hFM14 := jFr_cp hFM12 eM14 (wX7_f hm 7 (by decide))
  replace hT := hT M14 eM14
  refine jOk_mem (fun hIM14 => ?_)
  refine r_aload_n dX7_copyFrom_85 rfl (i := 0) rfl ?_
  refine r_aload_n dX7_copyFrom_86 rfl (i := 1) rfl ?_
  refine rr_getI (v := M14 p1 9) dX7_copyFrom_87 fg_X7_55 rfl (wX7_l hp1) (wX7_s hp1) rfl ?_
  refine rr_putI (jj := 9) dX7_copyFrom_90 fp_X7_55 rfl rfl (wX7_l hm) (wX7_s hm) (hIM14 _ _).inR (fun M15 eM15 => ?_)
  have hFM15 := jFr_up hFM14 eM15 (wX7_f hm 0 (by decide))
  replace hT := hT M15 eM15
  refine jOk_mem (fun hIM15 => ?_)
  refine r_aload_n dX7_copyFrom_93 rfl (i := 1) rfl ?_
  refine rr_getR (b := (p1 + 8)) dX7_copyFrom_94 fg_X7_29 rfl rfl (wX7_l hp1) (wX7_s hp1) (wX7_r8 hp1) ?_
  refine r_iconst (n := 0) dX7_copyFrom_97 ?_
  refine r_aload_n dX7_copyFrom_98 rfl (i := 0) rfl ?_
  refine rr_getR (b := (m + 8)) dX7_copyFrom_99 fg_X7_29 rfl rfl (wX7_l hm) (wX7_s hm) (wX7_r8 hm) ?_
  refine r_iconst (n := 0) dX7_copyFrom_102 ?_
  refine r_aload_n dX7_copyFrom_103 rfl (i := 0) rfl ?_
  refine rr_getI (v := M14 p1 9) dX7_copyFrom_104 fg_X7_55 rfl (wX7_l hm) (wX7_s hm) (jr_eq eM15) ?_
  refine r_iconst (n := 3) dX7_copyFrom_107 ?_
  refine r_imul dX7_copyFrom_108 ?_
  obtain ⟨hc16, hT⟩ := hT
  refine rr_copy (st := []) dX7_copyFrom_109 ml_X7_49 ⟨Nat.le_of_ble_eq_true rfl, Nat.le_of_ble_eq_true rfl⟩ rfl (wX7_l8 hp1) (wX7_l8 hm) (wX7_a8 hp1) (wX7_a8 hm) (Or.inl rfl) (by decide) (by decide) hc16 (fun M17 eM17 => ?_)
  have hFM17 := jFr_cp hFM15 eM17 (wX7_f hm 8 (by decide))
  replace hT := hT M17 eM17
  refine jOk_mem (fun hIM17 => ?_)
  refine r_aload_n dX7_copyFrom_112 rfl (i := 0) rfl ?_
  refine r_aload_n dX7_copyFrom_113 rfl (i := 1) rfl ?_
  refine rr_getI (v := M17 p1 10) dX7_copyFrom_114 fg_X7_58 rfl (wX7_l hp1) (wX7_s hp1) rfl ?_
  refine rr_putI (jj := 10) dX7_copyFrom_117 fp_X7_58 rfl rfl (wX7_l hm) (wX7_s hm) (hIM17 _ _).inR (fun M18 eM18 => ?_)
  have hFM18 := jFr_up hFM17 eM18 (wX7_f hm 0 (by decide))
  replace hT := hT M18 eM18
  refine jOk_mem (fun hIM18 => ?_)
  exact r_vret dX7_copyFrom_120 rfl ⟨Nat.zero_le _, Nat.zero_le _⟩ ⟨rfl, rfl, hFM18, hT⟩
theorem en_X7_copyFrom {E : jE} {G : jG} {I : jM} {q : jM → Prop} {m : Nat} {p1 : Nat} (hm : WX7 G m) (hp1 : WX7 G p1) (hT : (∀ a j, jRg (G.2.1 a).1 (I a j)) → jRV E jB kX4_copyFrom [VR (m + 1), VR (p1 + 1)] G I (fun I1 => (∃ b2 : Nat, I1 p1 1 = (b2 : Int) ∧ WX6 G b2 ∧ (((b2 : Nat) : Int) ≤ 2147483647) ∧ (∀ M5, M5 = jup I1 m 1 ((b2 : Nat) : Int) → (∀ M7, M7 = jup M5 m 2 (M5 p1 2) → (∀ M8, M8 = jup M7 m 3 (M7 p1 3) → (∀ M9, M9 = jup M8 m 4 (M8 p1 4) → (∀ M10, M10 = jup M9 m 7 (M9 p1 7) → ((0 : Int) ≤ 0 ∧ (0 : Int) ≤ 0 ∧ (0 : Int) ≤ (M9 p1 7) ∧ (0 : Int) + (M9 p1 7) ≤ 8 ∧ (0 : Int) + (M9 p1 7) ≤ 8) ∧ (∀ M12, M12 = jcp M10 (p1 + 6) (m + 6) 0 0 (M9 p1 7) → ((0 : Int) ≤ 0 ∧ (0 : Int) ≤ 0 ∧ (0 : Int) ≤ (M9 p1 7) ∧ (0 : Int) + (M9 p1 7) ≤ 8 ∧ (0 : Int) + (M9 p1 7) ≤ 8) ∧ (∀ M14, M14 = jcp M12 (p1 + 7) (m + 7) 0 0 (M9 p1 7) → (∀ M15, M15 = jup M14 m 9 (M14 p1 9) → ((0 : Int) ≤ 0 ∧ (0 : Int) ≤ 0 ∧ (0 : Int) ≤ ((M14 p1 9) * 3) ∧ (0 : Int) + ((M14 p1 9) * 3) ≤ 72 ∧ (0 : Int) + ((M14 p1 9) * 3) ≤ 72) ∧ (∀ M17, M17 = jcp M15 (p1 + 8) (m + 8) 0 0 ((M14 p1 9) * 3) → (∀ M18, M18 = jup M17 m 10 (M17 p1 10) → q M18))))))))))))) : jRV E jB kX7_copyFrom [VR m, VR p1] G I q := jRun.of mt_X7_copyFrom.2.2.2 0 rfl (fun _ => st_X7_copyFrom_0 hm hp1 hT I (fun _ _ => rfl))
set_option maxRecDepth 20000 in
theorem st_X7_isOn_0 {E : jE} {G : jG} {I : jM} {q : Int → jM → Prop} {m : Nat} {x1 : Int} (hm : WX7 G m) (hT : (∀ a j, jRg (G.2.1 a).1 (I a j)) → jIn x1 → ((¬ (jand (jshr (I m 2) x1) 1) = 1 → q 0 I) ∧ ((jand (jshr (I m 2) x1) 1) = 1 → q 1 I))) : jOI E jB kX7_isOn 0 [VR m, VI x1] G I q := by
  intro I0 hF
  refine jOk_mem (fun hI => ?_)
  refine jOk_in (i := 1) rfl (fun hx1 => ?_)
  replace hT := hT hI hx1
  refine r_aload_n dX7_isOn_0 rfl (i := 0) rfl ?_
  refine rr_getI (v := I m 2) dX7_isOn_1 fg_X7_40 rfl (wX7_l hm) (wX7_s hm) rfl ?_
  refine r_iload_n dX7_isOn_4 rfl (i := 1) rfl ?_
  refine r_ishr dX7_isOn_5 ?_
  refine r_iconst (n := 1) dX7_isOn_6 ?_
  refine r_iand dX7_isOn_7 ?_
  refine r_iconst (n := 1) dX7_isOn_8 ?_
  refine r_icmp_ne (tgt := 16) dX7_isOn_9 rfl (j32_in _) ⟨by decide, by decide⟩ (fun hcc => ?_) (fun hcc => ?_)
  · replace hT := hT.1 hcc
    refine r_iconst (n := 0) dX7_isOn_16 ?_
    exact r_zret dX7_isOn_17 rfl ⟨by decide, by decide⟩ ⟨Nat.zero_le _, Nat.zero_le _⟩ ⟨_, rfl, rfl, hF, hT⟩
  · replace hT := hT.2 hcc
    refine r_iconst (n := 1) dX7_isOn_12 ?_
    refine r_goto (tgt := 17) dX7_isOn_13 rfl ?_
    exact r_zret dX7_isOn_17 rfl ⟨by decide, by decide⟩ ⟨Nat.zero_le _, Nat.zero_le _⟩ ⟨_, rfl, rfl, hF, hT⟩
theorem en_X7_isOn {E : jE} {G : jG} {I : jM} {q : Int → jM → Prop} {m : Nat} {x1 : Int} (hm : WX7 G m) (hT : (∀ a j, jRg (G.2.1 a).1 (I a j)) → jIn x1 → ((¬ (jand (jshr (I m 2) x1) 1) = 1 → q 0 I) ∧ ((jand (jshr (I m 2) x1) 1) = 1 → q 1 I))) : jRI E jB kX7_isOn [VR m, VI x1] G I q := jRun.of mt_X7_isOn.2.2.2 0 rfl (fun _ => st_X7_isOn_0 hm hT I (fun _ _ => rfl))
set_option maxRecDepth 20000 in
theorem st_X7_isYieldTold_2 {E : jE} {G : jG} {I : jM} {q : Int → jM → Prop} {m : Nat} {x1 : Int} {x2 : Int} {x3 : Int} (hm : WX7 G m) (hT : (∀ a j, jRg (G.2.1 a).1 (I a j)) → jIn x1 → jIn x2 → jIn x3 → (((I m 7) ≤ x3 → q 0 I) ∧ (¬ (I m 7) ≤ x3 → ((0 : Int) ≤ x3 ∧ (x3 : Int) < 8) ∧ ((¬ (I (m + 6) x3) = x1 → jIn (x3 + 1) ∧ jOI E jB kX7_isYieldTold 2 [VR m, VI x1, VI x2, VI (x3 + 1)] G I q) ∧ ((I (m + 6) x3) = x1 → ((0 : Int) ≤ x3 ∧ (x3 : Int) < 8) ∧ ((¬ (I (m + 7) x3) = x2 → jIn (x3 + 1) ∧ jOI E jB kX7_isYieldTold 2 [VR m, VI x1, VI x2, VI (x3 + 1)] G I q) ∧ ((I (m + 7) x3) = x2 → q 1 I))))))) : jOI E jB kX7_isYieldTold 2 [VR m, VI x1, VI x2, VI x3] G I q := by
  intro I0 hF
  refine jOk_mem (fun hI => ?_)
  refine jOk_in (i := 1) rfl (fun hx1 => ?_)
  refine jOk_in (i := 2) rfl (fun hx2 => ?_)
  refine jOk_in (i := 3) rfl (fun hx3 => ?_)
  replace hT := hT hI hx1 hx2 hx3
  refine r_iload_n dX7_isYieldTold_2 rfl (i := 3) rfl ?_
  refine r_aload_n dX7_isYieldTold_3 rfl (i := 0) rfl ?_
  refine rr_getI (v := I m 7) dX7_isYieldTold_4 fg_X7_46 rfl (wX7_l hm) (wX7_s hm) rfl ?_
  refine r_icmp_ge (tgt := 38) dX7_isYieldTold_7 rfl hx3 (hI _ _).inR (fun hcc => ?_) (fun hcc => ?_)
  · replace hT := hT.1 hcc
    refine r_iconst (n := 0) dX7_isYieldTold_38 ?_
    exact r_zret dX7_isYieldTold_39 rfl ⟨by decide, by decide⟩ ⟨Nat.zero_le _, Nat.zero_le _⟩ ⟨_, rfl, rfl, hF, hT⟩
  · replace hT := hT.2 hcc
    refine r_aload_n dX7_isYieldTold_10 rfl (i := 0) rfl ?_
    refine rr_getR (b := (m + 6)) dX7_isYieldTold_11 fg_X7_22 rfl rfl (wX7_l hm) (wX7_s hm) (wX7_r5 hm) ?_
    refine r_iload_n dX7_isYieldTold_14 rfl (i := 3) rfl ?_
    obtain ⟨hc1, hT⟩ := hT
    refine rr_iaload (v := I (m + 6) x3) dX7_isYieldTold_15 (wX7_l5 hm) (wX7_a5 hm) (by decide) hc1 rfl ?_
    refine r_iload_n dX7_isYieldTold_16 rfl (i := 1) rfl ?_
    refine r_icmp_ne (tgt := 32) dX7_isYieldTold_17 rfl (hI _ _).inR hx1 (fun hcc => ?_) (fun hcc => ?_)
    · replace hT := hT.1 hcc
      obtain ⟨hc2, hT⟩ := hT
      refine rr_iinc (i := 3) (ls' := [VR m, VI x1, VI x2, VI (x3 + 1)]) dX7_isYieldTold_32 rfl (Nat.le_of_ble_eq_true rfl) rfl rfl hc2 ?_
      refine r_goto (tgt := 2) dX7_isYieldTold_35 rfl ?_
      exact hT I0 hF
    · replace hT := hT.2 hcc
      refine r_aload_n dX7_isYieldTold_20 rfl (i := 0) rfl ?_
      refine rr_getR (b := (m + 7)) dX7_isYieldTold_21 fg_X7_26 rfl rfl (wX7_l hm) (wX7_s hm) (wX7_r6 hm) ?_
      refine r_iload_n dX7_isYieldTold_24 rfl (i := 3) rfl ?_
      obtain ⟨hc3, hT⟩ := hT
      refine rr_iaload (v := I (m + 7) x3) dX7_isYieldTold_25 (wX7_l6 hm) (wX7_a6 hm) (by decide) hc3 rfl ?_
      refine r_iload_n dX7_isYieldTold_26 rfl (i := 2) rfl ?_
      refine r_icmp_ne (tgt := 32) dX7_isYieldTold_27 rfl (hI _ _).inR hx2 (fun hcc => ?_) (fun hcc => ?_)
      · replace hT := hT.1 hcc
        obtain ⟨hc4, hT⟩ := hT
        refine rr_iinc (i := 3) (ls' := [VR m, VI x1, VI x2, VI (x3 + 1)]) dX7_isYieldTold_32 rfl (Nat.le_of_ble_eq_true rfl) rfl rfl hc4 ?_
        refine r_goto (tgt := 2) dX7_isYieldTold_35 rfl ?_
        exact hT I0 hF
      · replace hT := hT.2 hcc
        refine r_iconst (n := 1) dX7_isYieldTold_30 ?_
        exact r_zret dX7_isYieldTold_31 rfl ⟨by decide, by decide⟩ ⟨Nat.zero_le _, Nat.zero_le _⟩ ⟨_, rfl, rfl, hF, hT⟩
set_option maxRecDepth 20000 in
theorem st_X7_isYieldTold_0 {E : jE} {G : jG} {I : jM} {q : Int → jM → Prop} {m : Nat} {x1 : Int} {x2 : Int} (hm : WX7 G m) (hT : (∀ a j, jRg (G.2.1 a).1 (I a j)) → jIn x1 → jIn x2 → jOI E jB kX7_isYieldTold 2 [VR m, VI x1, VI x2, VI 0] G I q) : jOI E jB kX7_isYieldTold 0 [VR m, VI x1, VI x2, VN] G I q := by
  intro I0 hF
  refine jOk_mem (fun hI => ?_)
  refine jOk_in (i := 1) rfl (fun hx1 => ?_)
  refine jOk_in (i := 2) rfl (fun hx2 => ?_)
  replace hT := hT hI hx1 hx2
  refine r_iconst (n := 0) dX7_isYieldTold_0 ?_
  refine rr_istore_n (i := 3) (ls' := [VR m, VI x1, VI x2, VI 0]) dX7_isYieldTold_1 rfl (Nat.le_of_ble_eq_true rfl) rfl rfl ⟨by decide, by decide⟩ ?_
  exact hT I0 hF
theorem en_X7_isYieldTold {E : jE} {G : jG} {I : jM} {q : Int → jM → Prop} {m : Nat} {x1 : Int} {x2 : Int} (hm : WX7 G m) (hT : (∀ a j, jRg (G.2.1 a).1 (I a j)) → jIn x1 → jIn x2 → jOI E jB kX7_isYieldTold 2 [VR m, VI x1, VI x2, VI 0] G I q) : jRI E jB kX7_isYieldTold [VR m, VI x1, VI x2] G I q := jRun.of mt_X7_isYieldTold.2.2.2 1 rfl (fun _ => st_X7_isYieldTold_0 hm hT I (fun _ _ => rfl))
set_option maxRecDepth 20000 in
theorem st_X7_addYield_0 {E : jE} {G : jG} {I : jM} {q : jM → Prop} {m : Nat} {x1 : Int} {x2 : Int} (hm : WX7 G m) (hT : (∀ a j, jRg (G.2.1 a).1 (I a j)) → jIn x1 → jIn x2 → ((8 ≤ (I m 7) → q I) ∧ (¬ 8 ≤ (I m 7) → ((0 : Int) ≤ (I m 7) ∧ ((I m 7) : Int) < 8) ∧ (∀ M2, M2 = jup I (m + 6) (I m 7) x1 → ((0 : Int) ≤ (I m 7) ∧ ((I m 7) : Int) < 8) ∧ (∀ M4, M4 = jup M2 (m + 7) (I m 7) x2 → jIn ((I m 7) + 1) ∧ (∀ M5, M5 = jup M4 m 7 ((I m 7) + 1) → q M5)))))) : jOV E jB kX7_addYield 0 [VR m, VI x1, VI x2] G I q := by
  intro I0 hF
  refine jOk_mem (fun hI => ?_)
  refine jOk_in (i := 1) rfl (fun hx1 => ?_)
  refine jOk_in (i := 2) rfl (fun hx2 => ?_)
  replace hT := hT hI hx1 hx2
  refine r_aload_n dX7_addYield_0 rfl (i := 0) rfl ?_
  refine rr_getI (v := I m 7) dX7_addYield_1 fg_X7_46 rfl (wX7_l hm) (wX7_s hm) rfl ?_
  refine r_bipush (n := 8) dX7_addYield_4 (by decide +kernel) ?_
  refine r_icmp_ge (tgt := 39) dX7_addYield_6 rfl (hI _ _).inR ⟨by decide, by decide⟩ (fun hcc => ?_) (fun hcc => ?_)
  · replace hT := hT.1 hcc
    exact r_vret dX7_addYield_39 rfl ⟨Nat.zero_le _, Nat.zero_le _⟩ ⟨rfl, rfl, hF, hT⟩
  · replace hT := hT.2 hcc
    refine r_aload_n dX7_addYield_9 rfl (i := 0) rfl ?_
    refine rr_getR (b := (m + 6)) dX7_addYield_10 fg_X7_22 rfl rfl (wX7_l hm) (wX7_s hm) (wX7_r5 hm) ?_
    refine r_aload_n dX7_addYield_13 rfl (i := 0) rfl ?_
    refine rr_getI (v := I m 7) dX7_addYield_14 fg_X7_46 rfl (wX7_l hm) (wX7_s hm) rfl ?_
    refine r_iload_n dX7_addYield_17 rfl (i := 1) rfl ?_
    obtain ⟨hc1, hT⟩ := hT
    refine rr_iastore dX7_addYield_18 (wX7_l5 hm) (wX7_a5 hm) (by decide) hc1 hx1 (fun M2 eM2 => ?_)
    have hFM2 := jFr_up hF eM2 (wX7_f hm 6 (by decide))
    replace hT := hT M2 eM2
    refine jOk_mem (fun hIM2 => ?_)
    refine r_aload_n dX7_addYield_19 rfl (i := 0) rfl ?_
    refine rr_getR (b := (m + 7)) dX7_addYield_20 fg_X7_26 rfl rfl (wX7_l hm) (wX7_s hm) (wX7_r6 hm) ?_
    refine r_aload_n dX7_addYield_23 rfl (i := 0) rfl ?_
    refine rr_getI (v := I m 7) dX7_addYield_24 fg_X7_46 rfl (wX7_l hm) (wX7_s hm) (jr_na eM2 (by omega)) ?_
    refine r_iload_n dX7_addYield_27 rfl (i := 2) rfl ?_
    obtain ⟨hc3, hT⟩ := hT
    refine rr_iastore dX7_addYield_28 (wX7_l6 hm) (wX7_a6 hm) (by decide) hc3 hx2 (fun M4 eM4 => ?_)
    have hFM4 := jFr_up hFM2 eM4 (wX7_f hm 7 (by decide))
    replace hT := hT M4 eM4
    refine jOk_mem (fun hIM4 => ?_)
    refine r_aload_n dX7_addYield_29 rfl (i := 0) rfl ?_
    refine r_dup dX7_addYield_30 rfl ?_
    refine rr_getI (v := I m 7) dX7_addYield_31 fg_X7_46 rfl (wX7_l hm) (wX7_s hm) ((jr_na eM4 (by omega)).trans (jr_na eM2 (by omega))) ?_
    refine r_iconst (n := 1) dX7_addYield_34 ?_
    refine r_iadd dX7_addYield_35 ?_
    obtain ⟨hc6, hT⟩ := hT
    refine rr_putI (jj := 7) dX7_addYield_36 fp_X7_46 rfl rfl (wX7_l hm) (wX7_s hm) hc6 (fun M5 eM5 => ?_)
    have hFM5 := jFr_up hFM4 eM5 (wX7_f hm 0 (by decide))
    replace hT := hT M5 eM5
    refine jOk_mem (fun hIM5 => ?_)
    exact r_vret dX7_addYield_39 rfl ⟨Nat.zero_le _, Nat.zero_le _⟩ ⟨rfl, rfl, hFM5, hT⟩
theorem en_X7_addYield {E : jE} {G : jG} {I : jM} {q : jM → Prop} {m : Nat} {x1 : Int} {x2 : Int} (hm : WX7 G m) (hT : (∀ a j, jRg (G.2.1 a).1 (I a j)) → jIn x1 → jIn x2 → ((8 ≤ (I m 7) → q I) ∧ (¬ 8 ≤ (I m 7) → ((0 : Int) ≤ (I m 7) ∧ ((I m 7) : Int) < 8) ∧ (∀ M2, M2 = jup I (m + 6) (I m 7) x1 → ((0 : Int) ≤ (I m 7) ∧ ((I m 7) : Int) < 8) ∧ (∀ M4, M4 = jup M2 (m + 7) (I m 7) x2 → jIn ((I m 7) + 1) ∧ (∀ M5, M5 = jup M4 m 7 ((I m 7) + 1) → q M5)))))) : jRV E jB kX7_addYield [VR m, VI x1, VI x2] G I q := jRun.of mt_X7_addYield.2.2.2 0 rfl (fun _ => st_X7_addYield_0 hm hT I (fun _ _ => rfl))
set_option maxRecDepth 20000 in
theorem st_X7_yieldsTo_4 {E : jE} {G : jG} {I : jM} {q : Int → jM → Prop} {m : Nat} {x1 : Int} {x2 : Int} {x3 : Int} (hm : WX7 G m) (hT : (∀ a j, jRg (G.2.1 a).1 (I a j)) → jIn x1 → jIn x2 → jIn x3 → (((I m 7) ≤ x3 → q x2 I) ∧ (¬ (I m 7) ≤ x3 → ((0 : Int) ≤ x3 ∧ (x3 : Int) < 8) ∧ ((¬ (jand (jshr x1 (I (m + 7) x3)) 1) = 1 → jIn (x3 + 1) ∧ jOI E jB kX7_yieldsTo 4 [VR m, VI x1, VI x2, VI (x3 + 1)] G I q) ∧ ((jand (jshr x1 (I (m + 7) x3)) 1) = 1 → ((0 : Int) ≤ x3 ∧ (x3 : Int) < 8) ∧ jIn (x3 + 1) ∧ jOI E jB kX7_yieldsTo 4 [VR m, VI x1, VI (jor x2 (jshl 1 (I (m + 6) x3))), VI (x3 + 1)] G I q))))) : jOI E jB kX7_yieldsTo 4 [VR m, VI x1, VI x2, VI x3] G I q := by
  intro I0 hF
  refine jOk_mem (fun hI => ?_)
  refine jOk_in (i := 1) rfl (fun hx1 => ?_)
  refine jOk_in (i := 2) rfl (fun hx2 => ?_)
  refine jOk_in (i := 3) rfl (fun hx3 => ?_)
  replace hT := hT hI hx1 hx2 hx3
  refine r_iload_n dX7_yieldsTo_4 rfl (i := 3) rfl ?_
  refine r_aload_n dX7_yieldsTo_5 rfl (i := 0) rfl ?_
  refine rr_getI (v := I m 7) dX7_yieldsTo_6 fg_X7_46 rfl (wX7_l hm) (wX7_s hm) rfl ?_
  refine r_icmp_ge (tgt := 43) dX7_yieldsTo_9 rfl hx3 (hI _ _).inR (fun hcc => ?_) (fun hcc => ?_)
  · replace hT := hT.1 hcc
    refine r_iload_n dX7_yieldsTo_43 rfl (i := 2) rfl ?_
    exact r_iret dX7_yieldsTo_44 rfl hx2 ⟨Nat.zero_le _, Nat.zero_le _⟩ ⟨_, rfl, rfl, hF, hT⟩
  · replace hT := hT.2 hcc
    refine r_iload_n dX7_yieldsTo_12 rfl (i := 1) rfl ?_
    refine r_aload_n dX7_yieldsTo_13 rfl (i := 0) rfl ?_
    refine rr_getR (b := (m + 7)) dX7_yieldsTo_14 fg_X7_26 rfl rfl (wX7_l hm) (wX7_s hm) (wX7_r6 hm) ?_
    refine r_iload_n dX7_yieldsTo_17 rfl (i := 3) rfl ?_
    obtain ⟨hc1, hT⟩ := hT
    refine rr_iaload (v := I (m + 7) x3) dX7_yieldsTo_18 (wX7_l6 hm) (wX7_a6 hm) (by decide) hc1 rfl ?_
    refine r_ishr dX7_yieldsTo_19 ?_
    refine r_iconst (n := 1) dX7_yieldsTo_20 ?_
    refine r_iand dX7_yieldsTo_21 ?_
    refine r_iconst (n := 1) dX7_yieldsTo_22 ?_
    refine r_icmp_ne (tgt := 37) dX7_yieldsTo_23 rfl (j32_in _) ⟨by decide, by decide⟩ (fun hcc => ?_) (fun hcc => ?_)
    · replace hT := hT.1 hcc
      obtain ⟨hc2, hT⟩ := hT
      refine rr_iinc (i := 3) (ls' := [VR m, VI x1, VI x2, VI (x3 + 1)]) dX7_yieldsTo_37 rfl (Nat.le_of_ble_eq_true rfl) rfl rfl hc2 ?_
      refine r_goto (tgt := 4) dX7_yieldsTo_40 rfl ?_
      exact hT I0 hF
    · replace hT := hT.2 hcc
      refine r_iload_n dX7_yieldsTo_26 rfl (i := 2) rfl ?_
      refine r_iconst (n := 1) dX7_yieldsTo_27 ?_
      refine r_aload_n dX7_yieldsTo_28 rfl (i := 0) rfl ?_
      refine rr_getR (b := (m + 6)) dX7_yieldsTo_29 fg_X7_22 rfl rfl (wX7_l hm) (wX7_s hm) (wX7_r5 hm) ?_
      refine r_iload_n dX7_yieldsTo_32 rfl (i := 3) rfl ?_
      obtain ⟨hc3, hT⟩ := hT
      refine rr_iaload (v := I (m + 6) x3) dX7_yieldsTo_33 (wX7_l5 hm) (wX7_a5 hm) (by decide) hc3 rfl ?_
      refine r_ishl dX7_yieldsTo_34 ?_
      refine r_ior dX7_yieldsTo_35 ?_
      refine rr_istore_n (i := 2) (ls' := [VR m, VI x1, VI (jor x2 (jshl 1 (I (m + 6) x3))), VI x3]) dX7_yieldsTo_36 rfl (Nat.le_of_ble_eq_true rfl) rfl rfl (j32_in _) ?_
      obtain ⟨hc4, hT⟩ := hT
      refine rr_iinc (i := 3) (ls' := [VR m, VI x1, VI (jor x2 (jshl 1 (I (m + 6) x3))), VI (x3 + 1)]) dX7_yieldsTo_37 rfl (Nat.le_of_ble_eq_true rfl) rfl rfl hc4 ?_
      refine r_goto (tgt := 4) dX7_yieldsTo_40 rfl ?_
      exact hT I0 hF
set_option maxRecDepth 20000 in
theorem st_X7_yieldsTo_0 {E : jE} {G : jG} {I : jM} {q : Int → jM → Prop} {m : Nat} {x1 : Int} (hm : WX7 G m) (hT : (∀ a j, jRg (G.2.1 a).1 (I a j)) → jIn x1 → jOI E jB kX7_yieldsTo 4 [VR m, VI x1, VI 0, VI 0] G I q) : jOI E jB kX7_yieldsTo 0 [VR m, VI x1, VN, VN] G I q := by
  intro I0 hF
  refine jOk_mem (fun hI => ?_)
  refine jOk_in (i := 1) rfl (fun hx1 => ?_)
  replace hT := hT hI hx1
  refine r_iconst (n := 0) dX7_yieldsTo_0 ?_
  refine rr_istore_n (i := 2) (ls' := [VR m, VI x1, VI 0, VN]) dX7_yieldsTo_1 rfl (Nat.le_of_ble_eq_true rfl) rfl rfl ⟨by decide, by decide⟩ ?_
  refine r_iconst (n := 0) dX7_yieldsTo_2 ?_
  refine rr_istore_n (i := 3) (ls' := [VR m, VI x1, VI 0, VI 0]) dX7_yieldsTo_3 rfl (Nat.le_of_ble_eq_true rfl) rfl rfl ⟨by decide, by decide⟩ ?_
  exact hT I0 hF
theorem en_X7_yieldsTo {E : jE} {G : jG} {I : jM} {q : Int → jM → Prop} {m : Nat} {x1 : Int} (hm : WX7 G m) (hT : (∀ a j, jRg (G.2.1 a).1 (I a j)) → jIn x1 → jOI E jB kX7_yieldsTo 4 [VR m, VI x1, VI 0, VI 0] G I q) : jRI E jB kX7_yieldsTo [VR m, VI x1] G I q := jRun.of mt_X7_yieldsTo.2.2.2 2 rfl (fun _ => st_X7_yieldsTo_0 hm hT I (fun _ _ => rfl))
set_option maxRecDepth 20000 in
theorem st_X7_reachesByYielding_7 {E : jE} {G : jG} {I : jM} {q : Int → jM → Prop} {m : Nat} {x1 : Int} {x2 : Int} {x3 : Int} {x4 : Int} (hm : WX7 G m) (hT : (∀ a j, jRg (G.2.1 a).1 (I a j)) → jIn x1 → jIn x2 → jIn x3 → jIn x4 → ((6 ≤ x4 → ((¬ (jand (jshr x3 x2) 1) = 1 → q 0 I) ∧ ((jand (jshr x3 x2) 1) = 1 → q 1 I))) ∧ (¬ 6 ≤ x4 → jRI E jB kX7_yieldsTo [VR m, VI x3] G I (fun r2 I1 => jIn (x4 + 1) ∧ jOI E jB kX7_reachesByYielding 7 [VR m, VI x1, VI x2, VI (jor x3 r2), VI (x4 + 1)] G I1 q)))) : jOI E jB kX7_reachesByYielding 7 [VR m, VI x1, VI x2, VI x3, VI x4] G I q := by
  intro I0 hF
  refine jOk_mem (fun hI => ?_)
  refine jOk_in (i := 1) rfl (fun hx1 => ?_)
  refine jOk_in (i := 2) rfl (fun hx2 => ?_)
  refine jOk_in (i := 3) rfl (fun hx3 => ?_)
  refine jOk_in (i := 4) rfl (fun hx4 => ?_)
  replace hT := hT hI hx1 hx2 hx3 hx4
  refine r_iload dX7_reachesByYielding_7 (i := 4) rfl ?_
  refine r_bipush (n := 6) dX7_reachesByYielding_9 (by decide +kernel) ?_
  refine r_icmp_ge (tgt := 28) dX7_reachesByYielding_11 rfl hx4 ⟨by decide, by decide⟩ (fun hcc => ?_) (fun hcc => ?_)
  · replace hT := hT.1 hcc
    refine r_iload_n dX7_reachesByYielding_28 rfl (i := 3) rfl ?_
    refine r_iload_n dX7_reachesByYielding_29 rfl (i := 2) rfl ?_
    refine r_ishr dX7_reachesByYielding_30 ?_
    refine r_iconst (n := 1) dX7_reachesByYielding_31 ?_
    refine r_iand dX7_reachesByYielding_32 ?_
    refine r_iconst (n := 1) dX7_reachesByYielding_33 ?_
    refine r_icmp_ne (tgt := 41) dX7_reachesByYielding_34 rfl (j32_in _) ⟨by decide, by decide⟩ (fun hcc => ?_) (fun hcc => ?_)
    · replace hT := hT.1 hcc
      refine r_iconst (n := 0) dX7_reachesByYielding_41 ?_
      exact r_zret dX7_reachesByYielding_42 rfl ⟨by decide, by decide⟩ ⟨Nat.zero_le _, Nat.zero_le _⟩ ⟨_, rfl, rfl, hF, hT⟩
    · replace hT := hT.2 hcc
      refine r_iconst (n := 1) dX7_reachesByYielding_37 ?_
      refine r_goto (tgt := 42) dX7_reachesByYielding_38 rfl ?_
      exact r_zret dX7_reachesByYielding_42 rfl ⟨by decide, by decide⟩ ⟨Nat.zero_le _, Nat.zero_le _⟩ ⟨_, rfl, rfl, hF, hT⟩
  · replace hT := hT.2 hcc
    refine r_iload_n dX7_reachesByYielding_14 rfl (i := 3) rfl ?_
    refine r_aload_n dX7_reachesByYielding_15 rfl (i := 0) rfl ?_
    refine r_iload_n dX7_reachesByYielding_16 rfl (i := 3) rfl ?_
    refine rr_cVI (a := m) (as := [VI x3]) (st := [VI x3]) dX7_reachesByYielding_17 mt_X7_yieldsTo ml_X7_66 mi_X7_yieldsTo rm_X7_reachesByYielding_X7_yieldsTo jz_X7_yieldsTo ⟨Nat.zero_le _, Nat.zero_le _⟩ (Nat.le_of_ble_eq_true rfl) (wX7_l hm) (wX7_c hm) (jasI hx3 jas0) hT (fun r2 I1 hc3 hFI1 hT => ?_)
    replace hFI1 := jFr_tr hF hFI1
    refine jOk_mem (fun hI1 => ?_)
    refine r_ior dX7_reachesByYielding_20 ?_
    refine rr_istore_n (i := 3) (ls' := [VR m, VI x1, VI x2, VI (jor x3 r2), VI x4]) dX7_reachesByYielding_21 rfl (Nat.le_of_ble_eq_true rfl) rfl rfl (j32_in _) ?_
    obtain ⟨hc4, hT⟩ := hT
    refine rr_iinc (i := 4) (ls' := [VR m, VI x1, VI x2, VI (jor x3 r2), VI (x4 + 1)]) dX7_reachesByYielding_22 rfl (Nat.le_of_ble_eq_true rfl) rfl rfl hc4 ?_
    refine r_goto (tgt := 7) dX7_reachesByYielding_25 rfl ?_
    exact hT I0 hFI1
set_option maxRecDepth 20000 in
theorem st_X7_reachesByYielding_0 {E : jE} {G : jG} {I : jM} {q : Int → jM → Prop} {m : Nat} {x1 : Int} {x2 : Int} (hm : WX7 G m) (hT : (∀ a j, jRg (G.2.1 a).1 (I a j)) → jIn x1 → jIn x2 → jOI E jB kX7_reachesByYielding 7 [VR m, VI x1, VI x2, VI (jshl 1 x1), VI 0] G I q) : jOI E jB kX7_reachesByYielding 0 [VR m, VI x1, VI x2, VN, VN] G I q := by
  intro I0 hF
  refine jOk_mem (fun hI => ?_)
  refine jOk_in (i := 1) rfl (fun hx1 => ?_)
  refine jOk_in (i := 2) rfl (fun hx2 => ?_)
  replace hT := hT hI hx1 hx2
  refine r_iconst (n := 1) dX7_reachesByYielding_0 ?_
  refine r_iload_n dX7_reachesByYielding_1 rfl (i := 1) rfl ?_
  refine r_ishl dX7_reachesByYielding_2 ?_
  refine rr_istore_n (i := 3) (ls' := [VR m, VI x1, VI x2, VI (jshl 1 x1), VN]) dX7_reachesByYielding_3 rfl (Nat.le_of_ble_eq_true rfl) rfl rfl (j32_in _) ?_
  refine r_iconst (n := 0) dX7_reachesByYielding_4 ?_
  refine rr_istore (i := 4) (ls' := [VR m, VI x1, VI x2, VI (jshl 1 x1), VI 0]) dX7_reachesByYielding_5 (Nat.le_of_ble_eq_true rfl) rfl rfl ⟨by decide, by decide⟩ ?_
  exact hT I0 hF
theorem en_X7_reachesByYielding {E : jE} {G : jG} {I : jM} {q : Int → jM → Prop} {m : Nat} {x1 : Int} {x2 : Int} (hm : WX7 G m) (hT : (∀ a j, jRg (G.2.1 a).1 (I a j)) → jIn x1 → jIn x2 → jOI E jB kX7_reachesByYielding 7 [VR m, VI x1, VI x2, VI (jshl 1 x1), VI 0] G I q) : jRI E jB kX7_reachesByYielding [VR m, VI x1, VI x2] G I q := jRun.of mt_X7_reachesByYielding.2.2.2 2 rfl (fun _ => st_X7_reachesByYielding_0 hm hT I (fun _ _ => rfl))
set_option maxRecDepth 20000 in
theorem st_X7_enterRound_0 {E : jE} {G : jG} {I : jM} {q : jM → Prop} {m : Nat} {x1 : Int} {x2 : Int} {x3 : Int} (hm : WX7 G m) (hT : (∀ a j, jRg (G.2.1 a).1 (I a j)) → jIn x1 → jIn x2 → jIn x3 → (((I m 9) < 24 → jIn ((I m 9) * 3) ∧ ((0 : Int) ≤ ((I m 9) * 3) ∧ (((I m 9) * 3) : Int) < 72) ∧ (∀ M3, M3 = jup I (m + 8) ((I m 9) * 3) x1 → ((0 : Int) ≤ (((I m 9) * 3) + 1) ∧ ((((I m 9) * 3) + 1) : Int) < 72) ∧ (∀ M5, M5 = jup M3 (m + 8) (((I m 9) * 3) + 1) x2 → ((0 : Int) ≤ (((I m 9) * 3) + 2) ∧ ((((I m 9) * 3) + 2) : Int) < 72) ∧ (∀ M7, M7 = jup M5 (m + 8) (((I m 9) * 3) + 2) x3 → jIn ((I m 9) + 1) ∧ (∀ M8, M8 = jup M7 m 9 ((I m 9) + 1) → jIn ((I m 10) + 1) ∧ (∀ M10, M10 = jup M8 m 10 ((I m 10) + 1) → q M10)))))) ∧ (¬ (I m 9) < 24 → ((0 : Int) ≤ 3 ∧ (0 : Int) ≤ 0 ∧ (0 : Int) ≤ 69 ∧ (3 : Int) + 69 ≤ 72 ∧ (0 : Int) + 69 ≤ 72) ∧ (∀ M13, M13 = jcp I (m + 8) (m + 8) 3 0 69 → (∀ M14, M14 = jup M13 m 9 23 → jIn (23 * 3) ∧ ((0 : Int) ≤ (23 * 3) ∧ ((23 * 3) : Int) < 72) ∧ (∀ M17, M17 = jup M14 (m + 8) (23 * 3) x1 → ((0 : Int) ≤ ((23 * 3) + 1) ∧ (((23 * 3) + 1) : Int) < 72) ∧ (∀ M19, M19 = jup M17 (m + 8) ((23 * 3) + 1) x2 → ((0 : Int) ≤ ((23 * 3) + 2) ∧ (((23 * 3) + 2) : Int) < 72) ∧ (∀ M21, M21 = jup M19 (m + 8) ((23 * 3) + 2) x3 → jIn (23 + 1) ∧ (∀ M22, M22 = jup M21 m 9 (23 + 1) → jIn ((I m 10) + 1) ∧ (∀ M24, M24 = jup M22 m 10 ((I m 10) + 1) → q M24)))))))))) : jOV E jB kX7_enterRound 0 [VR m, VI x1, VI x2, VI x3, VN] G I q := by
  intro I0 hF
  refine jOk_mem (fun hI => ?_)
  refine jOk_in (i := 1) rfl (fun hx1 => ?_)
  refine jOk_in (i := 2) rfl (fun hx2 => ?_)
  refine jOk_in (i := 3) rfl (fun hx3 => ?_)
  replace hT := hT hI hx1 hx2 hx3
  refine r_aload_n dX7_enterRound_0 rfl (i := 0) rfl ?_
  refine rr_getI (v := I m 9) dX7_enterRound_1 fg_X7_55 rfl (wX7_l hm) (wX7_s hm) rfl ?_
  refine r_bipush (n := 24) dX7_enterRound_4 (by decide +kernel) ?_
  refine r_icmp_lt (tgt := 30) dX7_enterRound_6 rfl (hI _ _).inR ⟨by decide, by decide⟩ (fun hcc => ?_) (fun hcc => ?_)
  · replace hT := hT.1 hcc
    refine r_aload_n dX7_enterRound_30 rfl (i := 0) rfl ?_
    refine rr_getI (v := I m 9) dX7_enterRound_31 fg_X7_55 rfl (wX7_l hm) (wX7_s hm) rfl ?_
    refine r_iconst (n := 3) dX7_enterRound_34 ?_
    refine r_imul dX7_enterRound_35 ?_
    obtain ⟨hc1, hT⟩ := hT
    refine rr_istore (i := 4) (ls' := [VR m, VI x1, VI x2, VI x3, VI ((I m 9) * 3)]) dX7_enterRound_36 (Nat.le_of_ble_eq_true rfl) rfl rfl hc1 ?_
    refine r_aload_n dX7_enterRound_38 rfl (i := 0) rfl ?_
    refine rr_getR (b := (m + 8)) dX7_enterRound_39 fg_X7_29 rfl rfl (wX7_l hm) (wX7_s hm) (wX7_r8 hm) ?_
    refine r_iload dX7_enterRound_42 (i := 4) rfl ?_
    refine r_iload_n dX7_enterRound_44 rfl (i := 1) rfl ?_
    obtain ⟨hc2, hT⟩ := hT
    refine rr_iastore dX7_enterRound_45 (wX7_l8 hm) (wX7_a8 hm) (by decide) hc2 hx1 (fun M3 eM3 => ?_)
    have hFM3 := jFr_up hF eM3 (wX7_f hm 8 (by decide))
    replace hT := hT M3 eM3
    refine jOk_mem (fun hIM3 => ?_)
    refine r_aload_n dX7_enterRound_46 rfl (i := 0) rfl ?_
    refine rr_getR (b := (m + 8)) dX7_enterRound_47 fg_X7_29 rfl rfl (wX7_l hm) (wX7_s hm) (wX7_r8 hm) ?_
    refine r_iload dX7_enterRound_50 (i := 4) rfl ?_
    refine r_iconst (n := 1) dX7_enterRound_52 ?_
    refine r_iadd dX7_enterRound_53 ?_
    refine r_iload_n dX7_enterRound_54 rfl (i := 2) rfl ?_
    obtain ⟨hc4, hT⟩ := hT
    refine rr_iastore dX7_enterRound_55 (wX7_l8 hm) (wX7_a8 hm) (by decide) hc4 hx2 (fun M5 eM5 => ?_)
    have hFM5 := jFr_up hFM3 eM5 (wX7_f hm 8 (by decide))
    replace hT := hT M5 eM5
    refine jOk_mem (fun hIM5 => ?_)
    refine r_aload_n dX7_enterRound_56 rfl (i := 0) rfl ?_
    refine rr_getR (b := (m + 8)) dX7_enterRound_57 fg_X7_29 rfl rfl (wX7_l hm) (wX7_s hm) (wX7_r8 hm) ?_
    refine r_iload dX7_enterRound_60 (i := 4) rfl ?_
    refine r_iconst (n := 2) dX7_enterRound_62 ?_
    refine r_iadd dX7_enterRound_63 ?_
    refine r_iload_n dX7_enterRound_64 rfl (i := 3) rfl ?_
    obtain ⟨hc6, hT⟩ := hT
    refine rr_iastore dX7_enterRound_65 (wX7_l8 hm) (wX7_a8 hm) (by decide) hc6 hx3 (fun M7 eM7 => ?_)
    have hFM7 := jFr_up hFM5 eM7 (wX7_f hm 8 (by decide))
    replace hT := hT M7 eM7
    refine jOk_mem (fun hIM7 => ?_)
    refine r_aload_n dX7_enterRound_66 rfl (i := 0) rfl ?_
    refine r_dup dX7_enterRound_67 rfl ?_
    refine rr_getI (v := I m 9) dX7_enterRound_68 fg_X7_55 rfl (wX7_l hm) (wX7_s hm) ((jr_na eM7 (by omega)).trans ((jr_na eM5 (by omega)).trans (jr_na eM3 (by omega)))) ?_
    refine r_iconst (n := 1) dX7_enterRound_71 ?_
    refine r_iadd dX7_enterRound_72 ?_
    obtain ⟨hc9, hT⟩ := hT
    refine rr_putI (jj := 9) dX7_enterRound_73 fp_X7_55 rfl rfl (wX7_l hm) (wX7_s hm) hc9 (fun M8 eM8 => ?_)
    have hFM8 := jFr_up hFM7 eM8 (wX7_f hm 0 (by decide))
    replace hT := hT M8 eM8
    refine jOk_mem (fun hIM8 => ?_)
    refine r_aload_n dX7_enterRound_76 rfl (i := 0) rfl ?_
    refine r_dup dX7_enterRound_77 rfl ?_
    refine rr_getI (v := I m 10) dX7_enterRound_78 fg_X7_58 rfl (wX7_l hm) (wX7_s hm) ((jr_nj eM8 (by decide)).trans ((jr_na eM7 (by omega)).trans ((jr_na eM5 (by omega)).trans (jr_na eM3 (by omega))))) ?_
    refine r_iconst (n := 1) dX7_enterRound_81 ?_
    refine r_iadd dX7_enterRound_82 ?_
    obtain ⟨hc11, hT⟩ := hT
    refine rr_putI (jj := 10) dX7_enterRound_83 fp_X7_58 rfl rfl (wX7_l hm) (wX7_s hm) hc11 (fun M10 eM10 => ?_)
    have hFM10 := jFr_up hFM8 eM10 (wX7_f hm 0 (by decide))
    replace hT := hT M10 eM10
    refine jOk_mem (fun hIM10 => ?_)
    exact r_vret dX7_enterRound_86 rfl ⟨Nat.zero_le _, Nat.zero_le _⟩ ⟨rfl, rfl, hFM10, hT⟩
  · replace hT := hT.2 hcc
    refine r_aload_n dX7_enterRound_9 rfl (i := 0) rfl ?_
    refine rr_getR (b := (m + 8)) dX7_enterRound_10 fg_X7_29 rfl rfl (wX7_l hm) (wX7_s hm) (wX7_r8 hm) ?_
    refine r_iconst (n := 3) dX7_enterRound_13 ?_
    refine r_aload_n dX7_enterRound_14 rfl (i := 0) rfl ?_
    refine rr_getR (b := (m + 8)) dX7_enterRound_15 fg_X7_29 rfl rfl (wX7_l hm) (wX7_s hm) (wX7_r8 hm) ?_
    refine r_iconst (n := 0) dX7_enterRound_18 ?_
    refine r_bipush (n := 69) dX7_enterRound_19 (by decide +kernel) ?_
    obtain ⟨hc12, hT⟩ := hT
    refine rr_copy (st := []) dX7_enterRound_21 ml_X7_49 ⟨Nat.le_of_ble_eq_true rfl, Nat.le_of_ble_eq_true rfl⟩ rfl (wX7_l8 hm) (wX7_l8 hm) (wX7_a8 hm) (wX7_a8 hm) (Or.inl rfl) (by decide) (by decide) hc12 (fun M13 eM13 => ?_)
    have hFM13 := jFr_cp hF eM13 (wX7_f hm 8 (by decide))
    replace hT := hT M13 eM13
    refine jOk_mem (fun hIM13 => ?_)
    refine r_aload_n dX7_enterRound_24 rfl (i := 0) rfl ?_
    refine r_bipush (n := 23) dX7_enterRound_25 (by decide +kernel) ?_
    refine rr_putI (jj := 9) dX7_enterRound_27 fp_X7_55 rfl rfl (wX7_l hm) (wX7_s hm) ⟨by decide, by decide⟩ (fun M14 eM14 => ?_)
    have hFM14 := jFr_up hFM13 eM14 (wX7_f hm 0 (by decide))
    replace hT := hT M14 eM14
    refine jOk_mem (fun hIM14 => ?_)
    refine r_aload_n dX7_enterRound_30 rfl (i := 0) rfl ?_
    refine rr_getI (v := 23) dX7_enterRound_31 fg_X7_55 rfl (wX7_l hm) (wX7_s hm) (jr_eq eM14) ?_
    refine r_iconst (n := 3) dX7_enterRound_34 ?_
    refine r_imul dX7_enterRound_35 ?_
    obtain ⟨hc15, hT⟩ := hT
    refine rr_istore (i := 4) (ls' := [VR m, VI x1, VI x2, VI x3, VI (23 * 3)]) dX7_enterRound_36 (Nat.le_of_ble_eq_true rfl) rfl rfl hc15 ?_
    refine r_aload_n dX7_enterRound_38 rfl (i := 0) rfl ?_
    refine rr_getR (b := (m + 8)) dX7_enterRound_39 fg_X7_29 rfl rfl (wX7_l hm) (wX7_s hm) (wX7_r8 hm) ?_
    refine r_iload dX7_enterRound_42 (i := 4) rfl ?_
    refine r_iload_n dX7_enterRound_44 rfl (i := 1) rfl ?_
    obtain ⟨hc16, hT⟩ := hT
    refine rr_iastore dX7_enterRound_45 (wX7_l8 hm) (wX7_a8 hm) (by decide) hc16 hx1 (fun M17 eM17 => ?_)
    have hFM17 := jFr_up hFM14 eM17 (wX7_f hm 8 (by decide))
    replace hT := hT M17 eM17
    refine jOk_mem (fun hIM17 => ?_)
    refine r_aload_n dX7_enterRound_46 rfl (i := 0) rfl ?_
    refine rr_getR (b := (m + 8)) dX7_enterRound_47 fg_X7_29 rfl rfl (wX7_l hm) (wX7_s hm) (wX7_r8 hm) ?_
    refine r_iload dX7_enterRound_50 (i := 4) rfl ?_
    refine r_iconst (n := 1) dX7_enterRound_52 ?_
    refine r_iadd dX7_enterRound_53 ?_
    refine r_iload_n dX7_enterRound_54 rfl (i := 2) rfl ?_
    obtain ⟨hc18, hT⟩ := hT
    refine rr_iastore dX7_enterRound_55 (wX7_l8 hm) (wX7_a8 hm) (by decide) hc18 hx2 (fun M19 eM19 => ?_)
    have hFM19 := jFr_up hFM17 eM19 (wX7_f hm 8 (by decide))
    replace hT := hT M19 eM19
    refine jOk_mem (fun hIM19 => ?_)
    refine r_aload_n dX7_enterRound_56 rfl (i := 0) rfl ?_
    refine rr_getR (b := (m + 8)) dX7_enterRound_57 fg_X7_29 rfl rfl (wX7_l hm) (wX7_s hm) (wX7_r8 hm) ?_
    refine r_iload dX7_enterRound_60 (i := 4) rfl ?_
    refine r_iconst (n := 2) dX7_enterRound_62 ?_
    refine r_iadd dX7_enterRound_63 ?_
    refine r_iload_n dX7_enterRound_64 rfl (i := 3) rfl ?_
    obtain ⟨hc20, hT⟩ := hT
    refine rr_iastore dX7_enterRound_65 (wX7_l8 hm) (wX7_a8 hm) (by decide) hc20 hx3 (fun M21 eM21 => ?_)
    have hFM21 := jFr_up hFM19 eM21 (wX7_f hm 8 (by decide))
    replace hT := hT M21 eM21
    refine jOk_mem (fun hIM21 => ?_)
    refine r_aload_n dX7_enterRound_66 rfl (i := 0) rfl ?_
    refine r_dup dX7_enterRound_67 rfl ?_
    refine rr_getI (v := 23) dX7_enterRound_68 fg_X7_55 rfl (wX7_l hm) (wX7_s hm) ((jr_na eM21 (by omega)).trans ((jr_na eM19 (by omega)).trans ((jr_na eM17 (by omega)).trans (jr_eq eM14)))) ?_
    refine r_iconst (n := 1) dX7_enterRound_71 ?_
    refine r_iadd dX7_enterRound_72 ?_
    obtain ⟨hc23, hT⟩ := hT
    refine rr_putI (jj := 9) dX7_enterRound_73 fp_X7_55 rfl rfl (wX7_l hm) (wX7_s hm) hc23 (fun M22 eM22 => ?_)
    have hFM22 := jFr_up hFM21 eM22 (wX7_f hm 0 (by decide))
    replace hT := hT M22 eM22
    refine jOk_mem (fun hIM22 => ?_)
    refine r_aload_n dX7_enterRound_76 rfl (i := 0) rfl ?_
    refine r_dup dX7_enterRound_77 rfl ?_
    refine rr_getI (v := I m 10) dX7_enterRound_78 fg_X7_58 rfl (wX7_l hm) (wX7_s hm) ((jr_nj eM22 (by decide)).trans ((jr_na eM21 (by omega)).trans ((jr_na eM19 (by omega)).trans ((jr_na eM17 (by omega)).trans ((jr_nj eM14 (by decide)).trans (jc_na eM13 (by omega))))))) ?_
    refine r_iconst (n := 1) dX7_enterRound_81 ?_
    refine r_iadd dX7_enterRound_82 ?_
    obtain ⟨hc25, hT⟩ := hT
    refine rr_putI (jj := 10) dX7_enterRound_83 fp_X7_58 rfl rfl (wX7_l hm) (wX7_s hm) hc25 (fun M24 eM24 => ?_)
    have hFM24 := jFr_up hFM22 eM24 (wX7_f hm 0 (by decide))
    replace hT := hT M24 eM24
    refine jOk_mem (fun hIM24 => ?_)
    exact r_vret dX7_enterRound_86 rfl ⟨Nat.zero_le _, Nat.zero_le _⟩ ⟨rfl, rfl, hFM24, hT⟩
theorem en_X7_enterRound {E : jE} {G : jG} {I : jM} {q : jM → Prop} {m : Nat} {x1 : Int} {x2 : Int} {x3 : Int} (hm : WX7 G m) (hT : (∀ a j, jRg (G.2.1 a).1 (I a j)) → jIn x1 → jIn x2 → jIn x3 → (((I m 9) < 24 → jIn ((I m 9) * 3) ∧ ((0 : Int) ≤ ((I m 9) * 3) ∧ (((I m 9) * 3) : Int) < 72) ∧ (∀ M3, M3 = jup I (m + 8) ((I m 9) * 3) x1 → ((0 : Int) ≤ (((I m 9) * 3) + 1) ∧ ((((I m 9) * 3) + 1) : Int) < 72) ∧ (∀ M5, M5 = jup M3 (m + 8) (((I m 9) * 3) + 1) x2 → ((0 : Int) ≤ (((I m 9) * 3) + 2) ∧ ((((I m 9) * 3) + 2) : Int) < 72) ∧ (∀ M7, M7 = jup M5 (m + 8) (((I m 9) * 3) + 2) x3 → jIn ((I m 9) + 1) ∧ (∀ M8, M8 = jup M7 m 9 ((I m 9) + 1) → jIn ((I m 10) + 1) ∧ (∀ M10, M10 = jup M8 m 10 ((I m 10) + 1) → q M10)))))) ∧ (¬ (I m 9) < 24 → ((0 : Int) ≤ 3 ∧ (0 : Int) ≤ 0 ∧ (0 : Int) ≤ 69 ∧ (3 : Int) + 69 ≤ 72 ∧ (0 : Int) + 69 ≤ 72) ∧ (∀ M13, M13 = jcp I (m + 8) (m + 8) 3 0 69 → (∀ M14, M14 = jup M13 m 9 23 → jIn (23 * 3) ∧ ((0 : Int) ≤ (23 * 3) ∧ ((23 * 3) : Int) < 72) ∧ (∀ M17, M17 = jup M14 (m + 8) (23 * 3) x1 → ((0 : Int) ≤ ((23 * 3) + 1) ∧ (((23 * 3) + 1) : Int) < 72) ∧ (∀ M19, M19 = jup M17 (m + 8) ((23 * 3) + 1) x2 → ((0 : Int) ≤ ((23 * 3) + 2) ∧ (((23 * 3) + 2) : Int) < 72) ∧ (∀ M21, M21 = jup M19 (m + 8) ((23 * 3) + 2) x3 → jIn (23 + 1) ∧ (∀ M22, M22 = jup M21 m 9 (23 + 1) → jIn ((I m 10) + 1) ∧ (∀ M24, M24 = jup M22 m 10 ((I m 10) + 1) → q M24)))))))))) : jRV E jB kX7_enterRound [VR m, VI x1, VI x2, VI x3] G I q := jRun.of mt_X7_enterRound.2.2.2 1 rfl (fun _ => st_X7_enterRound_0 hm hT I (fun _ _ => rfl))
section CC
variable {E : jE} {G : jG} {m p δ : Nat} {I : jM} {X : Int → Int} {c : Int}
theorem cl_stateCopy (hm : WX7 G m) (hp : WX7 G p) (hd : m + 9 ≤ p ∨ p + 9 ≤ m) (hz : 195 ≤ m ∧ m + 9 ≤ 635) (h : ST G δ p X I) : jRV E jB kX7_copyFrom [VR m, VR p] G I (fun I' => ST G δ m X I' ∧ Fr m (m + 9) I I') := by
  obtain ⟨h1, h2, h3, ⟨h4, h5, h6, h7⟩, h8, h9, h10⟩ := h
  refine en_X7_copyFrom hm hp (fun hI => ?_)
  refine (cl_pageCopy (wX7_o0 hm) (wX7_o0 hp) (by omega) h1).mono (fun I1 _ g => ?_)
  have f1 : Fr m (m + 9) I I1 := g.2.mono (by omega) (by omega)
  have k1 : ∀ j, I1 p j = I p j := fun j => f1 _ _ (by omega)
  have r2 := h2
  obtain ⟨ρ, r1, hρ, r3, r4, r5⟩ := r2
  have hle := (hI p 1).inR
  refine ⟨ρ, by rw [k1, r1], hρ, by omega, fun M5 e5 M7 e7 M8 e8 M9 e9 M10 e10 => ?_⟩
  have k5 : ∀ j, M5 p j = I p j := fun j => by rw [jr_na e5 (by omega), k1]
  have k7 : ∀ j, M7 p j = I p j := fun j => by rw [jr_na e7 (by omega), k5]
  have k8 : ∀ j, M8 p j = I p j := fun j => by rw [jr_na e8 (by omega), k7]
  have k9 : ∀ j, M9 p j = I p j := fun j => by rw [jr_na e9 (by omega), k8]
  rw [k9, h6.1] at e10 ⊢
  rw [k8] at e9
  rw [k7] at e8
  rw [k5] at e7
  refine ⟨⟨by omega, by omega, by omega, by omega, by omega⟩, fun M12 e12 => ⟨⟨by omega, by omega, by omega, by omega, by omega⟩, fun M14 e14 M15 e15 => ?_⟩⟩
  have k14 : ∀ j, M14 p j = I p j := fun j => by rw [jc_na e14 (by omega), jc_na e12 (by omega), jr_na e10 (by omega), k9]
  rw [k14, h8.1] at e15 ⊢
  refine ⟨⟨by omega, by omega, by omega, by omega, by omega⟩, fun M17 e17 M18 e18 => ?_⟩
  have k17 : ∀ j, M17 p j = I p j := fun j => by rw [jc_na e17 (by omega), jr_na e15 (by omega), k14]
  rw [k17] at e18
  have f18 : Fr m (m + 9) I M18 := f1.trans ((Fr.up e5 (by omega)).trans ((Fr.up e7 (by omega)).trans ((Fr.up e8 (by omega)).trans ((Fr.up e9 (by omega)).trans ((Fr.up e10 (by omega)).trans ((Fr.cp e12 (by omega)).trans ((Fr.cp e14 (by omega)).trans ((Fr.up e15 (by omega)).trans ((Fr.cp e17 (by omega)).trans (Fr.up e18 (by omega)))))))))))
  have z : ∀ b j, b ≠ m → b ≠ m + 6 → b ≠ m + 7 → b ≠ m + 8 → M18 b j = I1 b j := fun b j b0 b6 b7 b8 => by
    rw [jr_na e18 b0, jc_na e17 b8, jr_na e15 b0, jc_na e14 b7, jc_na e12 b6, jr_na e10 b0, jr_na e9 b0, jr_na e8 b0, jr_na e7 b0, jr_na e5 b0]
  refine ⟨⟨g.1.fr (fun a j a0 a1 => z a j (by omega) (by omega) (by omega) (by omega)), ?_, ?_, ⟨?_, ?_, ⟨?_, h6.2⟩, fun k k0 k1' => ?_⟩, ⟨?_, h8.2⟩, fun k k0 k1' => ?_, ?_⟩, f18⟩
  · have e : M18 m 1 = I p 1 := by
      rw [jr_nj e18 (by decide), jc_na e17 (by omega), jr_nj e15 (by decide), jc_na e14 (by omega), jc_na e12 (by omega), jr_nj e10 (by decide), jr_nj e9 (by decide), jr_nj e8 (by decide), jr_nj e7 (by decide), jr_eq e5, r1]
    rw [e]
    exact h2.of f18 (by omega)
  · rw [jr_nj e18 (by decide), jc_na e17 (by omega), jr_nj e15 (by decide), jc_na e14 (by omega), jc_na e12 (by omega), jr_nj e10 (by decide), jr_nj e9 (by decide), jr_nj e8 (by decide), jr_eq e7, h3]
  · rw [jr_nj e18 (by decide), jc_na e17 (by omega), jr_nj e15 (by decide), jc_na e14 (by omega), jc_na e12 (by omega), jr_nj e10 (by decide), jr_nj e9 (by decide), jr_eq e8, h4]
  · rw [jr_nj e18 (by decide), jc_na e17 (by omega), jr_nj e15 (by decide), jc_na e14 (by omega), jc_na e12 (by omega), jr_nj e10 (by decide), jr_eq e9, h5]
  · rw [jr_nj e18 (by decide), jc_na e17 (by omega), jr_nj e15 (by decide), jc_na e14 (by omega), jc_na e12 (by omega), jr_eq e10]
  · rw [jr_na e18 (by omega), jc_na e17 (by omega), jr_na e15 (by omega), jc_na e14 (by omega), jc_in e12 (by omega), jr_na e10 (by omega), jr_na e9 (by omega), jr_na e8 (by omega), jr_na e7 (by omega), jr_na e5 (by omega), f1 _ _ (by omega)]
    rw [jr_na e18 (by omega), jc_na e17 (by omega), jr_na e15 (by omega), jc_in e14 (by omega), jc_na e12 (by omega), jr_na e10 (by omega), jr_na e9 (by omega), jr_na e8 (by omega), jr_na e7 (by omega), jr_na e5 (by omega), f1 _ _ (by omega)]
    rw [show (0 : Int) + (k - 0) = k by omega]
    exact h7 k k0 k1'
  · rw [jr_nj e18 (by decide), jc_na e17 (by omega), jr_eq e15]
  · rw [jr_na e18 (by omega), jc_in e17 (by omega), jr_na e15 (by omega), jc_na e14 (by omega), jc_na e12 (by omega), jr_na e10 (by omega), jr_na e9 (by omega), jr_na e8 (by omega), jr_na e7 (by omega), jr_na e5 (by omega), f1 _ _ (by omega)]
    rw [show (0 : Int) + (k - 0) = k by omega]
    exact h9 k k0 (by omega)
  · rw [jr_eq e18, h10]
theorem onb_bit {X : Int → Int} (hQ : QW X) {r : Int} (hr : 0 ≤ r ∧ r < X 4) : jand (jshr (onB X (X 4).toNat) r) 1 = X (515 + 40 * r) := by
  have h4 := hQ.2.1.1
  have h46 := hQ.2.1.2.1
  have g := (onB_bits hQ (X 4).toNat (by omega)).2 r hr.1 (by omega)
  rw [g, if_pos (by omega)]
theorem cl_isOn (hm : WX7 G m) (h : ST G δ m X I) (hQ : QW X) {r : Int} (hr : 0 ≤ r ∧ r < X 4) : jRI E jB kX7_isOn [VR m, VI r] G I (fun x I' => x = X (515 + 40 * r) ∧ I' = I) := by
  have g := onb_bit hQ hr
  have w := (hQ.2.1.2.2 r hr.1 hr.2).2.1
  refine en_X7_isOn hm (fun _ _ => ?_)
  rw [h.2.2.1, g]
  exact ⟨fun q => ⟨by omega, rfl⟩, fun q => ⟨by omega, rfl⟩⟩
theorem cl_isYieldTold (hm : WX7 G m) (h : YS m X I) {r o : Int} : jRI E jB kX7_isYieldTold [VR m, VI r, VI o] G I (fun x I' => x = jI (yto X o r) ∧ I' = I) := by
  have h3 := h.1
  have loop : ∀ (d : Nat) (x : Int), 0 ≤ x → x + d = X 7 → (∀ k, 0 ≤ k → k < x → ¬ (X (426 + 2 * k) = r ∧ X (426 + 2 * k + 1) = o)) → jOI E jB kX7_isYieldTold 2 [VR m, VI r, VI o, VI x] G I (fun x I' => x = jI (yto X o r) ∧ I' = I) := by
    intro d
    induction d with
    | zero =>
      intro x x0 x1 hx
      refine st_X7_isYieldTold_2 hm (fun _ _ _ _ => ⟨fun _ => ⟨(jI_neg (fun g => ?_)).symm, rfl⟩, fun q => absurd (by omega) q⟩)
      obtain ⟨k, k0, k1, k2⟩ := g
      exact hx k k0 (by omega) k2
    | succ d ih =>
      intro x x0 x1 hx
      have g := h.2 x x0 (by omega)
      have nx : ¬ (X (426 + 2 * x) = r ∧ X (426 + 2 * x + 1) = o) → jIn (x + 1) ∧ jOI E jB kX7_isYieldTold 2 [VR m, VI r, VI o, VI (x + 1)] G I (fun x I' => x = jI (yto X o r) ∧ I' = I) := by
        intro hn
        refine ⟨⟨by omega, by omega⟩, ih (x + 1) (by omega) (by omega) (fun k k0 k1 => ?_)⟩
        by_cases ek : k = x
        · rw [ek]; exact hn
        · exact hx k k0 (by omega)
      refine st_X7_isYieldTold_2 hm (fun _ _ _ _ => ⟨fun q => absurd q (by omega), fun _ => ⟨⟨by omega, by omega⟩, fun q => nx (fun g' => by omega), fun q => ⟨⟨by omega, by omega⟩, fun q2 => nx (fun g' => by omega), fun q2 => ⟨(jI_pos ⟨x, x0, by omega, by omega, by omega⟩).symm, rfl⟩⟩⟩⟩)
  exact en_X7_isYieldTold hm (fun _ _ _ => loop (X 7).toNat 0 (by omega) (by omega) (fun k k0 k1 => by omega))
/-- yields are of rules -/
def YW (X : Int → Int) : Prop := ∀ k, 0 ≤ k → k < X 7 → (0 ≤ X (426 + 2 * k) ∧ X (426 + 2 * k) < 6) ∧ 0 ≤ X (426 + 2 * k + 1) ∧ X (426 + 2 * k + 1) < 6
theorem cl_yieldsTo (hm : WX7 G m) (h : YS m X I) (hy : YW X) {v : Int} : jRI E jB kX7_yieldsTo [VR m, VI v] G I (fun x I' => (0 ≤ x ∧ x < 64) ∧ (∀ i, 0 ≤ i → i < 6 → (bit x i ↔ ∃ k, 0 ≤ k ∧ k < X 7 ∧ X (426 + 2 * k) = i ∧ bit v (X (426 + 2 * k + 1)))) ∧ I' = I) := by
  have h3 := h.1
  have loop : ∀ (d : Nat) (x w : Int), 0 ≤ x → x + d = X 7 → (0 ≤ w ∧ w < 64) → (∀ i, 0 ≤ i → i < 6 → (bit w i ↔ ∃ k, 0 ≤ k ∧ k < x ∧ X (426 + 2 * k) = i ∧ bit v (X (426 + 2 * k + 1)))) → jOI E jB kX7_yieldsTo 4 [VR m, VI v, VI w, VI x] G I (fun x I' => (0 ≤ x ∧ x < 64) ∧ (∀ i, 0 ≤ i → i < 6 → (bit x i ↔ ∃ k, 0 ≤ k ∧ k < X 7 ∧ X (426 + 2 * k) = i ∧ bit v (X (426 + 2 * k + 1)))) ∧ I' = I) := by
    intro d
    induction d with
    | zero =>
      intro x w x0 x1 hw hb
      refine st_X7_yieldsTo_4 hm (fun _ _ _ _ => ⟨fun _ => ⟨hw, ?_, rfl⟩, fun q => absurd (by omega) q⟩)
      have ex : x = X 7 := by omega
      rw [← ex]
      exact hb
    | succ d ih =>
      intro x w x0 x1 hw hb
      have g := h.2 x x0 (by omega)
      have gy := hy x x0 (by omega)
      refine st_X7_yieldsTo_4 hm (fun _ _ _ _ => ⟨fun q => absurd q (by omega), fun _ => ⟨⟨by omega, by omega⟩, fun q => ⟨⟨by omega, by omega⟩, ?_⟩, fun q => ⟨⟨by omega, by omega⟩, ⟨by omega, by omega⟩, ?_⟩⟩⟩)
      · rw [g.2] at q
        refine ih (x + 1) w (by omega) (by omega) hw (fun i i0 i1 => (hb i i0 i1).trans ⟨fun ⟨k, k0, k1, k2⟩ => ⟨k, k0, by omega, k2⟩, fun ⟨k, k0, k1, k2, k3⟩ => ?_⟩)
        by_cases ek : k = x
        · rw [ek] at k3; exact absurd k3 q
        · exact ⟨k, k0, by omega, k2, k3⟩
      · rw [g.2] at q
        rw [g.1]
        have o := or_bd (x := w) (r := X (426 + 2 * x)) hw gy.1
        refine ih (x + 1) _ (by omega) (by omega) ⟨by omega, o.2.1⟩ (fun i i0 i1 => (bit_or hw gy.1 ⟨i0, i1⟩).trans ⟨fun g' => ?_, fun ⟨k, k0, k1, k2, k3⟩ => ?_⟩)
        · rcases g' with g' | g'
          · obtain ⟨k, k0, k1, k2⟩ := (hb i i0 i1).mp g'
            exact ⟨k, k0, by omega, k2⟩
          · exact ⟨x, x0, by omega, g'.symm, q⟩
        · by_cases ek : k = x
          · rw [ek] at k2; exact Or.inr k2.symm
          · exact Or.inl ((hb i i0 i1).mpr ⟨k, k0, by omega, k2, k3⟩)
  exact en_X7_yieldsTo hm (fun _ _ => loop (X 7).toNat 0 0 (by omega) (by omega) (by decide) (fun i i0 i1 => ⟨fun g => absurd g (by unfold bit; rw [zbit ⟨i0, i1⟩]; decide), fun ⟨k, k0, k1, _⟩ => by omega⟩))
theorem orx {x y : Int} (hx : 0 ≤ x ∧ x < 64) (hy : 0 ≤ y ∧ y < 64) : (0 ≤ jor x y ∧ jor x y < 64) ∧ (jor x y ≠ x → pcn x + 1 ≤ pcn (jor x y)) := by
  have h := orx_tab ⟨x.toNat, by omega⟩ ⟨y.toNat, by omega⟩
  simp only [show ((x.toNat : Nat) : Int) = x by omega, show ((y.toNat : Nat) : Int) = y by omega] at h
  exact h
theorem orb {x y i : Int} (hx : 0 ≤ x ∧ x < 64) (hy : 0 ≤ y ∧ y < 64) (hi : 0 ≤ i ∧ i < 6) : bit (jor x y) i ↔ bit x i ∨ bit y i := by
  have h := orb_tab ⟨x.toNat, by omega⟩ ⟨y.toNat, by omega⟩ ⟨i.toNat, by omega⟩
  simp only [show ((x.toNat : Nat) : Int) = x by omega, show ((y.toNat : Nat) : Int) = y by omega, show ((i.toNat : Nat) : Int) = i by omega] at h
  exact h
theorem sub_or {x y : Int} (hx : 0 ≤ x ∧ x < 64) (hy : 0 ≤ y ∧ y < 64) (h : ∀ i, 0 ≤ i → i < 6 → bit y i → bit x i) : jor x y = x := by
  have g := sub_tab ⟨x.toNat, by omega⟩ ⟨y.toNat, by omega⟩
  simp only [show ((x.toNat : Nat) : Int) = x by omega, show ((y.toNat : Nat) : Int) = y by omega] at g
  exact g (fun i => h ((i : Nat) : Int) (by omega) (by omega))
theorem one_pcn {r : Int} (hr : 0 ≤ r ∧ r < 6) : 0 + 1 ≤ pcn (jshl 1 r) := by
  have g := onep_tab ⟨r.toNat, by omega⟩
  simp only [show ((r.toNat : Nat) : Int) = r by omega] at g
  exact g
theorem cl_reaches (hm : WX7 G m) (h : YS m X I) (hy : YW X) {r o : Int} (hr : 0 ≤ r ∧ r < 6) (ho : 0 ≤ o ∧ o < 6) : jRI E jB kX7_reachesByYielding [VR m, VI r, VI o] G I (fun x I' => x = jI (reach X r o) ∧ I' = I) := by
  have b1 := bit1_bd hr
  -- v: reached so far; closed, or of more than x bits
  have loop : ∀ (d : Nat) (x v : Int), 0 ≤ x → x + d = 6 → (0 ≤ v ∧ v < 64) → bit v r → (∀ P : Int → Prop, P r → (∀ k, 0 ≤ k → k < X 7 → P (X (426 + 2 * k + 1)) → P (X (426 + 2 * k))) → ∀ i, 0 ≤ i → i < 6 → bit v i → P i) → ((∀ k, 0 ≤ k → k < X 7 → bit v (X (426 + 2 * k + 1)) → bit v (X (426 + 2 * k))) ∨ x + 1 ≤ pcn v) → jOI E jB kX7_reachesByYielding 7 [VR m, VI r, VI o, VI v, VI x] G I (fun x I' => x = jI (reach X r o) ∧ I' = I) := by
    intro d
    induction d with
    | zero =>
      intro x v x0 x1 hv hb hP hc
      have hcl : ∀ k, 0 ≤ k → k < X 7 → bit v (X (426 + 2 * k + 1)) → bit v (X (426 + 2 * k)) := by
        rcases hc with hc | hc
        · exact hc
        · have := pcn_bd hv; omega
      have hiff : reach X r o ↔ bit v o := ⟨fun g => g (fun i => bit v i) hb hcl, fun g P p0 p1 => hP P p0 p1 o ho.1 ho.2 g⟩
      refine st_X7_reachesByYielding_7 hm (fun _ _ _ _ _ => ⟨fun _ => ⟨fun q => ⟨(jI_neg (fun g => q (hiff.mp g))).symm, rfl⟩, fun q => ⟨(jI_pos (hiff.mpr q)).symm, rfl⟩⟩, fun q => absurd (by omega) q⟩)
    | succ d ih =>
      intro x v x0 x1 hv hb hP hc
      refine st_X7_reachesByYielding_7 hm (fun _ _ _ _ _ => ⟨fun q => absurd q (by omega), fun _ => (cl_yieldsTo hm h hy).mono (fun w I1 _ _ g => ?_)⟩)
      obtain ⟨hw, hwb, rfl⟩ := g
      have o1 := orx hv hw
      refine ⟨⟨by omega, by omega⟩, ih (x + 1) _ (by omega) (by omega) o1.1 ((orb hv hw hr).mpr (Or.inl hb)) (fun P p0 p1 i i0 i1 gi => ?_) ?_⟩
      · rcases (orb hv hw ⟨i0, i1⟩).mp gi with gi | gi
        · exact hP P p0 p1 i i0 i1 gi
        · obtain ⟨k, k0, k1, k2, k3⟩ := (hwb i i0 i1).mp gi
          have gy := hy k k0 k1
          rw [← k2]
          exact p1 k k0 k1 (hP P p0 p1 _ gy.2.1 gy.2.2 k3)
      · by_cases q : jor v w = v
        · refine Or.inl (fun k k0 k1 gk => ?_)
          have gy := hy k k0 k1
          rw [q] at gk
          exact (orb hv hw gy.1).mpr (Or.inr ((hwb _ gy.1.1 gy.1.2).mpr ⟨k, k0, k1, rfl, gk⟩))
        · rcases hc with hc | hc
          · exfalso
            apply q
            by_cases q2 : jor v w = v
            · exact q2
            · -- w adds nothing to a closed v
              have hsub : ∀ i, 0 ≤ i → i < 6 → bit w i → bit v i := fun i i0 i1 gi => by
                obtain ⟨k, k0, k1, k2, k3⟩ := (hwb i i0 i1).mp gi
                rw [← k2]
                exact hc k k0 k1 k3
              exact sub_or hv hw hsub
          · have := o1.2 q
            exact Or.inr (by omega)
  exact en_X7_reachesByYielding hm (fun _ _ _ => loop 6 0 (jshl 1 r) (by omega) (by omega) ⟨by omega, b1.2⟩ ((bit1 hr hr).mpr rfl) (fun P p0 p1 i i0 i1 gi => by rw [(bit1 hr ⟨i0, i1⟩).mp gi]; exact p0) (Or.inr (one_pcn hr)))
end CC
