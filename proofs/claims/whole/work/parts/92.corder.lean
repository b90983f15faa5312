/-! ===== rules in their order ===== -/
theorem pigeon : ∀ (n : Nat) (f : Nat → Nat), (∀ i, i < n → f i < n) → (∀ i j, i < n → j < n → f i = f j → i = j) → ∀ k, k < n → ∃ i, i < n ∧ f i = k := by
  intro n
  induction n with
  | zero => intro f _ _ k hk; omega
  | succ n ih =>
    intro f h1 h2 k hk
    have hg := ih (fun i => if f i = n then f n else f i) (fun i hi => by
      show (if f i = n then f n else f i) < n
      by_cases q : f i = n
      · rw [if_pos q]
        have a := h1 n (by omega)
        by_cases e : f n = n
        · have := h2 i n (by omega) (by omega) (by omega); omega
        · omega
      · rw [if_neg q]; have := h1 i (by omega); omega) (fun i j hi hj e => by
      have e' : (if f i = n then f n else f i) = (if f j = n then f n else f j) := e
      by_cases q : f i = n <;> by_cases q' : f j = n
      · exact h2 i j (by omega) (by omega) (by omega)
      · rw [if_pos q, if_neg q'] at e'; have := h2 n j (by omega) (by omega) e'; omega
      · rw [if_neg q, if_pos q'] at e'; have := h2 i n (by omega) (by omega) e'; omega
      · rw [if_neg q, if_neg q'] at e'; exact h2 i j (by omega) (by omega) e')
    by_cases kn : f n = k
    · exact ⟨n, by omega, kn⟩
    · by_cases k' : k = n
      · -- someone else hits n
        by_cases ex : ∃ i, i < n ∧ f i = n
        · obtain ⟨i, a, b⟩ := ex; exact ⟨i, by omega, by omega⟩
        · have a := h1 n (by omega)
          obtain ⟨i, i0, i1⟩ := hg (f n) (by omega)
          have i1' : (if f i = n then f n else f i) = f n := i1
          rw [if_neg (fun q => ex ⟨i, i0, q⟩)] at i1'
          have := h2 i n (by omega) (by omega) i1'
          omega
      · obtain ⟨i, i0, i1⟩ := hg k (by omega)
        have i1' : (if f i = n then f n else f i) = k := i1
        by_cases q : f i = n
        · rw [if_pos q] at i1'; exact absurd i1' kn
        · rw [if_neg q] at i1'; exact ⟨i, by omega, i1'⟩
def lt2 (L : Int → Int) (x y : Int) : Prop := L x < L y ∨ (L x = L y ∧ x < y)
noncomputable def rkL (L : Int → Int) (r : Int) : Nat → Nat
  | 0 => 0
  | d + 1 => rkL L r d + @ite _ (lt2 L (d : Nat) r) (Classical.propDecidable _) 1 0
theorem rkL_le {L : Int → Int} {r : Int} : ∀ d : Nat, rkL L r d ≤ d ∧ (0 ≤ r → r < d → rkL L r d < d) := by
  intro d
  induction d with
  | zero => exact ⟨Nat.le_refl _, fun a b => by omega⟩
  | succ d ih =>
    show rkL L r d + @ite _ (lt2 L (d : Nat) r) (Classical.propDecidable _) 1 0 ≤ d + 1 ∧ (0 ≤ r → r < ((d + 1 : Nat) : Int) → rkL L r d + @ite _ (lt2 L (d : Nat) r) (Classical.propDecidable _) 1 0 < d + 1)
    by_cases q : lt2 L (d : Nat) r
    · rw [if_pos q]
      refine ⟨by omega, fun a b => ?_⟩
      by_cases e : r = d
      · unfold lt2 at q; rw [e] at q; omega
      · have := ih.2 a (by omega); omega
    · rw [if_neg q]
      exact ⟨by omega, fun a b => by omega⟩
theorem rkL_lt {L : Int → Int} {x y : Int} (h : lt2 L x y) (x0 : 0 ≤ x) : ∀ d : Nat, rkL L x d ≤ rkL L y d ∧ (x < d → rkL L x d < rkL L y d) := by
  intro d
  induction d with
  | zero => exact ⟨Nat.le_refl _, fun b => by omega⟩
  | succ d ih =>
    show rkL L x d + @ite _ (lt2 L (d : Nat) x) (Classical.propDecidable _) 1 0 ≤ rkL L y d + @ite _ (lt2 L (d : Nat) y) (Classical.propDecidable _) 1 0 ∧ (x < ((d + 1 : Nat) : Int) → rkL L x d + @ite _ (lt2 L (d : Nat) x) (Classical.propDecidable _) 1 0 < rkL L y d + @ite _ (lt2 L (d : Nat) y) (Classical.propDecidable _) 1 0)
    by_cases q : lt2 L (d : Nat) x
    · have q' : lt2 L (d : Nat) y := by unfold lt2 at *; omega
      rw [if_pos q, if_pos q']
      refine ⟨by omega, fun b => ?_⟩
      by_cases e : x = d
      · unfold lt2 at q; rw [e] at q; omega
      · have := ih.2 (by omega); omega
    · rw [if_neg q]
      by_cases q' : lt2 L (d : Nat) y
      · rw [if_pos q']; exact ⟨by omega, fun b => by omega⟩
      · rw [if_neg q']
        refine ⟨by omega, fun b => ?_⟩
        by_cases e : x = d
        · rw [e] at h; exact absurd h q'
        · have := ih.2 (by omega); omega
theorem lt2_tot {L : Int → Int} {x y : Int} (h : x ≠ y) : lt2 L x y ∨ lt2 L y x := by unfold lt2; omega
theorem rkL_inj {L : Int → Int} {n : Nat} {x y : Int} (hx : 0 ≤ x ∧ x < n) (hy : 0 ≤ y ∧ y < n) (e : rkL L x n = rkL L y n) : x = y := by
  by_cases q : x = y
  · exact q
  · rcases lt2_tot (L := L) q with l | l
    · have := (rkL_lt l hx.1 n).2 hx.2; omega
    · have := (rkL_lt l hy.1 n).2 hy.2; omega
section CO
variable {E : jE} {G : jG} {δ : Nat} {I : jM}
theorem cl_putInOrder (hδ : WX6 G δ) {n : Nat} (hn : n ≤ 6) (h1 : I δ 1 = n) : jRV E jB kX6_putInOrder [VR δ] G I (fun I' => (∀ r : Nat, r < n → I' (δ + 5) (rkL (I (δ + 3)) r n : Nat) = r) ∧ ∀ a j, a ≠ δ + 5 → I' a j = I a j) := by
  have inner : ∀ (r : Nat), r < n → ∀ I1 : jM, (∀ q : Nat, q < r → I1 (δ + 5) (rkL (I (δ + 3)) q n : Nat) = q) → (∀ a j, a ≠ δ + 5 → I1 a j = I a j) → ∀ (d k : Nat), k + d = n → (∀ I2 : jM, (∀ q : Nat, q < r + 1 → I2 (δ + 5) (rkL (I (δ + 3)) q n : Nat) = q) → (∀ a j, a ≠ δ + 5 → I2 a j = I a j) → jOV E jB kX6_putInOrder 2 [VR δ, VI ((r : Int) + 1), VN, VN] G I2 (fun I' => (∀ r : Nat, r < n → I' (δ + 5) (rkL (I (δ + 3)) r n : Nat) = r) ∧ ∀ a j, a ≠ δ + 5 → I' a j = I a j)) → jOV E jB kX6_putInOrder 14 [VR δ, VI (r : Int), VI (rkL (I (δ + 3)) r k : Nat), VI (k : Int)] G I1 (fun I' => (∀ r : Nat, r < n → I' (δ + 5) (rkL (I (δ + 3)) r n : Nat) = r) ∧ ∀ a j, a ≠ δ + 5 → I' a j = I a j) := by
    intro r hr I1 ho hf d
    have f1 : I1 δ 1 = n := by rw [hf _ _ (by omega)]; exact h1
    have f3 : I1 (δ + 3) = I (δ + 3) := by funext j; exact hf _ _ (by omega)
    induction d with
    | zero =>
      intro k hk nx
      have ek : k = n := by omega
      subst ek
      have b := (rkL_le (L := I (δ + 3)) (r := (r : Int)) k).2 (by omega) (by omega)
      refine st_X6_putInOrder_14 hδ (fun _ _ _ _ => ⟨fun _ => ⟨⟨by omega, by omega⟩, fun M2 e2 => ⟨⟨by omega, by omega⟩, nx M2 (fun q hq => ?_) (fun a j ha => by rw [jr_na e2 ha]; exact hf a j ha)⟩⟩, fun z => by rw [f1] at z; omega⟩)
      by_cases q' : q = r
      · rw [q']; exact jr_eq e2
      · rw [jr_nj e2 (fun e => ?_)]
        · exact ho q (by omega)
        · have := rkL_inj (L := I (δ + 3)) (n := k) (x := (q : Int)) (y := (r : Int)) (by omega) (by omega) (by omega)
          omega
    | succ d ih =>
      intro k hk nx
      have b := (rkL_le (L := I (δ + 3)) (r := (r : Int)) k).1
      have st : ∀ v : Nat, v = rkL (I (δ + 3)) r (k + 1) → jOV E jB kX6_putInOrder 14 [VR δ, VI (r : Int), VI (v : Int), VI ((k : Int) + 1)] G I1 (fun I' => (∀ r : Nat, r < n → I' (δ + 5) (rkL (I (δ + 3)) r n : Nat) = r) ∧ ∀ a j, a ≠ δ + 5 → I' a j = I a j) := by
        intro v hv
        rw [hv]
        exact ih (k + 1) (by omega) nx
      have yes : lt2 (I (δ + 3)) (k : Nat) r → jIn (((rkL (I (δ + 3)) r k : Nat) : Int) + 1) ∧ jIn ((k : Int) + 1) ∧ jOV E jB kX6_putInOrder 14 [VR δ, VI (r : Int), VI (((rkL (I (δ + 3)) r k : Nat) : Int) + 1), VI ((k : Int) + 1)] G I1 (fun I' => (∀ r : Nat, r < n → I' (δ + 5) (rkL (I (δ + 3)) r n : Nat) = r) ∧ ∀ a j, a ≠ δ + 5 → I' a j = I a j) := fun c => ⟨⟨by omega, by omega⟩, ⟨by omega, by omega⟩, st (rkL (I (δ + 3)) r k + 1) (by
        show _ = rkL (I (δ + 3)) r k + @ite _ (lt2 (I (δ + 3)) (k : Nat) r) (Classical.propDecidable _) 1 0
        rw [if_pos c])⟩
      have no : ¬ lt2 (I (δ + 3)) (k : Nat) r → jIn ((k : Int) + 1) ∧ jOV E jB kX6_putInOrder 14 [VR δ, VI (r : Int), VI ((rkL (I (δ + 3)) r k : Nat) : Int), VI ((k : Int) + 1)] G I1 (fun I' => (∀ r : Nat, r < n → I' (δ + 5) (rkL (I (δ + 3)) r n : Nat) = r) ∧ ∀ a j, a ≠ δ + 5 → I' a j = I a j) := fun c => ⟨⟨by omega, by omega⟩, st (rkL (I (δ + 3)) r k) (by
        show _ = rkL (I (δ + 3)) r k + @ite _ (lt2 (I (δ + 3)) (k : Nat) r) (Classical.propDecidable _) 1 0
        rw [if_neg c]
        rfl)⟩
      refine st_X6_putInOrder_14 hδ (fun _ _ _ _ => ?_)
      rw [f1, f3]
      unfold lt2 at yes no
      exact ⟨fun z => by omega, fun _ => ⟨⟨by omega, by omega⟩, ⟨by omega, by omega⟩, fun c => yes (Or.inl c), fun c => ⟨⟨by omega, by omega⟩, ⟨by omega, by omega⟩, fun c1 => no (by omega), fun c1 => ⟨fun c2 => no (by omega), fun c2 => yes (Or.inr ⟨c1, by omega⟩)⟩⟩⟩⟩
  have outer : ∀ (d r : Nat) (I1 : jM), r + d = n → (∀ q : Nat, q < r → I1 (δ + 5) (rkL (I (δ + 3)) q n : Nat) = q) → (∀ a j, a ≠ δ + 5 → I1 a j = I a j) → jOV E jB kX6_putInOrder 2 [VR δ, VI (r : Int), VN, VN] G I1 (fun I' => (∀ r : Nat, r < n → I' (δ + 5) (rkL (I (δ + 3)) r n : Nat) = r) ∧ ∀ a j, a ≠ δ + 5 → I' a j = I a j) := by
    intro d
    induction d with
    | zero =>
      intro r I1 hr ho hf
      have f1 : I1 δ 1 = n := by rw [hf _ _ (by omega)]; exact h1
      exact st_X6_putInOrder_2 hδ (fun _ _ => ⟨fun _ => ⟨fun q hq => ho q (by omega), hf⟩, fun z => by rw [f1] at z; omega⟩)
    | succ d ih =>
      intro r I1 hr ho hf
      have f1 : I1 δ 1 = n := by rw [hf _ _ (by omega)]; exact h1
      exact st_X6_putInOrder_2 hδ (fun _ _ => ⟨fun z => by rw [f1] at z; omega, fun _ => inner r (by omega) I1 ho hf n 0 (by omega) (fun I2 a b => ih (r + 1) I2 (by omega) a b)⟩)
  exact en_X6_putInOrder hδ (fun _ => outer n 0 I (by omega) (fun q hq => absurd hq (Nat.not_lt_zero q)) (fun _ _ _ => rfl))
theorem ORD_of {X : Int → Int} {n : Nat} (h4 : X 4 = n) (hL : ∀ r : Nat, r < n → X (516 + 40 * r) = I (δ + 3) r) {I' : jM} (ho : ∀ r : Nat, r < n → I' (δ + 5) (rkL (I (δ + 3)) r n : Nat) = r) : ORD δ X I' := by
  have sur := pigeon n (fun i => rkL (I (δ + 3)) i n) (fun i hi => (rkL_le n).2 (by omega) (by omega)) (fun i j hi hj e => by
    have := rkL_inj (L := I (δ + 3)) (n := n) (x := (i : Int)) (y := (j : Int)) (by omega) (by omega) e
    omega)
  have at' : ∀ k, 0 ≤ k → k < X 4 → ∃ i : Nat, i < n ∧ rkL (I (δ + 3)) i n = k.toNat ∧ I' (δ + 5) k = i := by
    intro k k0 k1
    obtain ⟨i, i0, i1⟩ := sur k.toNat (by omega)
    have i1' : rkL (I (δ + 3)) i n = k.toNat := i1
    refine ⟨i, i0, i1', ?_⟩
    have := ho i i0
    rw [i1', show ((k.toNat : Nat) : Int) = k by omega] at this
    exact this
  refine ⟨fun k k0 k1 => ?_, fun k k' k0 k1 k2 => ?_, fun r r0 r1 => ?_⟩
  · obtain ⟨i, i0, i1, i2⟩ := at' k k0 k1
    omega
  · obtain ⟨i, i0, i1, i2⟩ := at' k k0 (by omega)
    obtain ⟨j, j0, j1, j2⟩ := at' k' (by omega) k2
    rw [i2, j2]
    unfold rlt
    rw [hL i i0, hL j j0]
    have ne : (i : Int) ≠ j := fun e => by
      have : i = j := by omega
      rw [this] at i1
      omega
    rcases lt2_tot (L := I (δ + 3)) ne with l | l
    · exact l
    · have := (rkL_lt l (by omega) n).2 (by omega)
      omega
  · have := ho r.toNat (by omega)
    rw [show ((r.toNat : Nat) : Int) = r by omega] at this
    have b := (rkL_le (L := I (δ + 3)) (r := r) n).2 r0 (by omega)
    exact ⟨_, by omega, by omega, this⟩
end CO
