/-! ===== the worthiest set: its recurrence ===== -/
/-- most and few, from f on with at most c findings -/
def DPok (N : Int) (v : Int → Int) (fr : Int → Prop) (nx : Int → Int) (mo fe : Int → Int → Int) : Prop :=
  (∀ c, 0 ≤ c → c ≤ 20 → mo N c = 0 ∧ fe N c = 0) ∧ ∀ f, 0 ≤ f → f < N → ∀ c, 0 ≤ c → c ≤ 20 →
    (¬ (fr f ∧ 0 < c) → mo f c = mo (f + 1) c ∧ fe f c = fe (f + 1) c) ∧
    (fr f ∧ 0 < c → ((v f + mo (nx f) (c - 1) < mo (f + 1) c ∨ (v f + mo (nx f) (c - 1) = mo (f + 1) c ∧ fe (f + 1) c < 1 + fe (nx f) (c - 1))) → mo f c = mo (f + 1) c ∧ fe f c = fe (f + 1) c) ∧
      (¬ (v f + mo (nx f) (c - 1) < mo (f + 1) c ∨ (v f + mo (nx f) (c - 1) = mo (f + 1) c ∧ fe (f + 1) c < 1 + fe (nx f) (c - 1))) → mo f c = v f + mo (nx f) (c - 1) ∧ fe f c = 1 + fe (nx f) (c - 1)))
theorem DPok.bd {N : Int} {v : Int → Int} {fr : Int → Prop} {nx : Int → Int} {mo fe : Int → Int → Int} (h : DPok N v fr nx mo fe) (hv : ∀ f, 0 ≤ f → f < N → 0 ≤ v f ∧ v f ≤ 9900) (hn : ∀ f, 0 ≤ f → f < N → f < nx f ∧ nx f ≤ N) (hN : 0 ≤ N) : ∀ (d : Nat) (f c : Int), 0 ≤ f → f + d = N → 0 ≤ c → c ≤ 20 → 0 ≤ fe f c ∧ fe f c ≤ c ∧ 0 ≤ mo f c ∧ mo f c ≤ 9900 * c := by
  have key : ∀ (d : Nat), ∀ (d' : Nat), d' ≤ d → ∀ (f c : Int), 0 ≤ f → f + d' = N → 0 ≤ c → c ≤ 20 → 0 ≤ fe f c ∧ fe f c ≤ c ∧ 0 ≤ mo f c ∧ mo f c ≤ 9900 * c := by
    intro d
    induction d with
    | zero =>
      intro d' hd f c f0 f1 c0 c1
      have e : f = N := by omega
      subst e
      have := h.1 c c0 c1
      omega
    | succ d ih =>
      intro d' hd f c f0 f1 c0 c1
      by_cases hd0 : d' = 0
      · have e : f = N := by omega
        subst e
        have := h.1 c c0 c1
        omega
      · have fN : f < N := by omega
        have g1 := ih (d' - 1) (by omega) (f + 1) c (by omega) (by omega) c0 c1
        have g2 := h.2 f f0 fN c c0 c1
        have hn' := hn f f0 fN
        have hv' := hv f f0 fN
        by_cases hc : fr f ∧ 0 < c
        · have g3 := ih (N - nx f).toNat (by omega) (nx f) (c - 1) (by omega) (by omega) (by omega) (by omega)
          by_cases hq : (v f + mo (nx f) (c - 1) < mo (f + 1) c ∨ (v f + mo (nx f) (c - 1) = mo (f + 1) c ∧ fe (f + 1) c < 1 + fe (nx f) (c - 1)))
          · have := (g2.2 hc).1 hq
            omega
          · have := (g2.2 hc).2 hq
            omega
        · have := g2.1 hc
          omega
  intro d f c
  exact key d d (Nat.le_refl d) f c
/-- which findings are in the set, from f on with at most c -/
noncomputable def sel (N : Int) (v : Int → Int) (fr : Int → Prop) (nx : Int → Int) (mo fe : Int → Int → Int) : Nat → Int → Int → List Int
  | 0, _, _ => []
  | d + 1, f, c => @ite _ (f < N ∧ 0 < fe f c) (Classical.propDecidable _) (@ite _ (fr f ∧ 0 < c ∧ v f + mo (nx f) (c - 1) = mo f c ∧ 1 + fe (nx f) (c - 1) = fe f c) (Classical.propDecidable _) (f :: sel N v fr nx mo fe d (nx f) (c - 1)) (sel N v fr nx mo fe d (f + 1) c)) []
theorem sel_mem {N : Int} {v : Int → Int} {fr : Int → Prop} {nx : Int → Int} {mo fe : Int → Int → Int} (hn : ∀ f, 0 ≤ f → f < N → f < nx f ∧ nx f ≤ N) : ∀ (d : Nat) (f c g : Int), 0 ≤ f → g ∈ sel N v fr nx mo fe d f c → f ≤ g ∧ g < N := by
  intro d
  induction d with
  | zero => intro f c g _ hg; exact absurd hg List.not_mem_nil
  | succ d ih =>
    intro f c g f0 hg
    unfold sel at hg
    by_cases h1 : f < N ∧ 0 < fe f c
    · rw [if_pos h1] at hg
      by_cases h2 : fr f ∧ 0 < c ∧ v f + mo (nx f) (c - 1) = mo f c ∧ 1 + fe (nx f) (c - 1) = fe f c
      · rw [if_pos h2] at hg
        rcases List.mem_cons.mp hg with e | hg
        · omega
        · have := hn f f0 h1.1
          have := ih (nx f) (c - 1) g (by omega) hg
          omega
      · rw [if_neg h2] at hg
        have := ih (f + 1) c g (by omega) hg
        omega
    · rw [if_neg h1] at hg
      exact absurd hg List.not_mem_nil
/-- the set's worth and number are most and few -/
theorem sel_sum {N : Int} {v : Int → Int} {fr : Int → Prop} {nx : Int → Int} {mo fe : Int → Int → Int} (h : DPok N v fr nx mo fe) (hv : ∀ f, 0 ≤ f → f < N → 0 ≤ v f ∧ v f ≤ 9900) (hn : ∀ f, 0 ≤ f → f < N → f < nx f ∧ nx f ≤ N) (hN : 0 ≤ N) : ∀ (d : Nat) (f c : Int), 0 ≤ f → f ≤ N → N ≤ f + d → 0 ≤ c → c ≤ 20 → ((sel N v fr nx mo fe d f c).map v).sum = mo f c ∧ ((sel N v fr nx mo fe d f c).length : Int) = fe f c := by
  intro d
  induction d with
  | zero =>
    intro f c f0 f1 f2 c0 c1
    have e : f = N := by omega
    subst e
    have := h.1 c c0 c1
    unfold sel
    simp
    omega
  | succ d ih =>
    intro f c f0 f1 f2 c0 c1
    unfold sel
    by_cases h1 : f < N ∧ 0 < fe f c
    · rw [if_pos h1]
      have hn' := hn f f0 h1.1
      by_cases h2 : fr f ∧ 0 < c ∧ v f + mo (nx f) (c - 1) = mo f c ∧ 1 + fe (nx f) (c - 1) = fe f c
      · rw [if_pos h2]
        have g := ih (nx f) (c - 1) (by omega) (by omega) (by omega) (by omega) (by omega)
        rw [List.map_cons, List.sum_cons, List.length_cons]
        omega
      · rw [if_neg h2]
        have g := ih (f + 1) c (by omega) (by omega) (by omega) c0 c1
        have g2 := h.2 f f0 h1.1 c c0 c1
        have e : mo f c = mo (f + 1) c ∧ fe f c = fe (f + 1) c := by
          by_cases hc : fr f ∧ 0 < c
          · by_cases hq : (v f + mo (nx f) (c - 1) < mo (f + 1) c ∨ (v f + mo (nx f) (c - 1) = mo (f + 1) c ∧ fe (f + 1) c < 1 + fe (nx f) (c - 1)))
            · exact (g2.2 hc).1 hq
            · have := (g2.2 hc).2 hq
              exact absurd ⟨hc.1, hc.2, this.1.symm, this.2.symm⟩ h2
          · exact g2.1 hc
        rw [e.1, e.2]
        exact g
    · rw [if_neg h1]
      have b0 := h.bd hv hn hN (N - f).toNat f c f0 (by omega) c0 c1
      have e0 : fe f c = 0 := by
        by_cases hf : f < N
        · have : ¬ 0 < fe f c := fun q => h1 ⟨hf, q⟩
          omega
        · have e : f = N := by omega
          subst e
          exact (h.1 c c0 c1).2
      have e1 : mo f c = 0 := by
        -- no finding: no worth
        have key : ∀ (d : Nat) (f : Int), 0 ≤ f → f + d = N → fe f c = 0 → mo f c = 0 := by
          intro d
          induction d with
          | zero =>
            intro f f0 f1 _
            have e : f = N := by omega
            subst e
            exact (h.1 c c0 c1).1
          | succ d ih2 =>
            intro f f0 f1 e0
            have g2 := h.2 f f0 (by omega) c c0 c1
            by_cases hc : fr f ∧ 0 < c
            · by_cases hq : (v f + mo (nx f) (c - 1) < mo (f + 1) c ∨ (v f + mo (nx f) (c - 1) = mo (f + 1) c ∧ fe (f + 1) c < 1 + fe (nx f) (c - 1)))
              · have e := (g2.2 hc).1 hq
                rw [e.1]
                exact ih2 (f + 1) (by omega) (by omega) (by omega)
              · have e := (g2.2 hc).2 hq
                have hn' := hn f f0 (by omega)
                have := h.bd hv hn hN (N - nx f).toNat (nx f) (c - 1) (by omega) (by omega) (by omega) (by omega)
                omega
            · have e := g2.1 hc
              rw [e.1]
              exact ih2 (f + 1) (by omega) (by omega) (by omega)
        exact key (N - f).toNat f f0 (by omega) e0
      simp
      omega
