/-! ===== findings as a list: by token, by how many elements, by rule ===== -/
/-- the order of findings (rule, token) -/
def flt (S : Int → Int) (x y : Int × Int) : Prop := x.2 < y.2 ∨ (x.2 = y.2 ∧ (S (516 + 40 * x.1) < S (516 + 40 * y.1) ∨ (S (516 + 40 * x.1) = S (516 + 40 * y.1) ∧ x.1 < y.1)))
theorem flt_irr {S : Int → Int} {x : Int × Int} (h : flt S x x) : False := by unfold flt at h; omega
theorem flt_asym {S : Int → Int} {x y : Int × Int} (h : flt S x y) (h' : flt S y x) : False := by unfold flt at h h'; omega
theorem sorted_uniq {S : Int → Int} : ∀ (L L' : List (Int × Int)), L.Pairwise (flt S) → L'.Pairwise (flt S) → (∀ x, x ∈ L ↔ x ∈ L') → L = L' := by
  intro L
  induction L with
  | nil =>
    intro L' _ _ h
    cases L' with
    | nil => rfl
    | cons y ys => exact absurd ((h y).mpr List.mem_cons_self) List.not_mem_nil
  | cons x xs ih =>
    intro L' h1 h2 h
    cases L' with
    | nil => exact absurd ((h x).mp List.mem_cons_self) List.not_mem_nil
    | cons y ys =>
      rw [List.pairwise_cons] at h1 h2
      have exy : x = y := by
        rcases List.mem_cons.mp ((h x).mp List.mem_cons_self) with g | g
        · exact g
        · rcases List.mem_cons.mp ((h y).mpr List.mem_cons_self) with g' | g'
          · exact g'.symm
          · exact (flt_asym (h2.1 x g) (h1.1 y g')).elim
      subst exy
      rw [ih ys h1.2 h2.2 (fun z => ⟨fun hz => ?_, fun hz => ?_⟩)]
      · rcases List.mem_cons.mp ((h z).mp (List.mem_cons_of_mem _ hz)) with g | g
        · exact (flt_irr (g ▸ h1.1 z hz)).elim
        · exact g
      · rcases List.mem_cons.mp ((h z).mpr (List.mem_cons_of_mem _ hz)) with g | g
        · exact (flt_irr (g ▸ h2.1 z hz)).elim
        · exact g
/-- (r, t) is a finding -/
def isF (S : Int → Int) (n : Int) (b : Int → Int) (r t : Int) : Prop := 0 ≤ r ∧ r < S 4 ∧ 0 ≤ t ∧ t < n ∧ S (515 + 40 * r) = 1 ∧ Fit S n b r t ∧ Out S b r t ≠ slice S (b t) (b (t + S (516 + 40 * r)))
/-- the findings, in their order -/
def Fnd (S : Int → Int) (n : Int) (b : Int → Int) (F : List (Int × Int)) : Prop := F.Pairwise (flt S) ∧ ∀ x, x ∈ F ↔ isF S n b x.1 x.2
theorem Fnd.uniq {S : Int → Int} {n : Int} {b : Int → Int} {F F' : List (Int × Int)} (h : Fnd S n b F) (h' : Fnd S n b F') : F = F' := sorted_uniq F F' h.1 h'.1 (fun x => (h.2 x).trans (h'.2 x).symm)
/-- a sorted list of findings of at most R rules from the first c tokens on has at most R * c elements -/
theorem sorted_len {S : Int → Int} {c : Nat} : ∀ (F : List (Int × Int)), F.Pairwise (flt S) → (∀ x ∈ F, 0 ≤ x.1 ∧ x.1 < 6 ∧ 0 ≤ x.2 ∧ x.2 < c) → F.length ≤ 6 * c := by
  intro F h1 h2
  have hnd : (F.map (fun x => (6 * x.2 + x.1).toNat)).Nodup := by
    rw [List.nodup_iff_pairwise_ne, List.pairwise_map]
    refine List.Pairwise.imp_of_mem ?_ h1
    intro x y hx hy hlt e
    have g1 := h2 x hx
    have g2 := h2 y hy
    have e1 : 6 * x.2 + x.1 = 6 * y.2 + y.1 := by omega
    have e2 : x.2 = y.2 := by omega
    have e3 : x.1 = y.1 := by omega
    have : x = y := Prod.ext e3 e2
    subst this
    exact flt_irr hlt
  have hsub : (F.map (fun x => (6 * x.2 + x.1).toNat)) ⊆ List.range (6 * c) := by
    intro k hk
    obtain ⟨x, hx, rfl⟩ := List.mem_map.mp hk
    have g := h2 x hx
    exact List.mem_range.mpr (by omega)
  have := hnd.length_le_of_subset hsub
  simpa using this
