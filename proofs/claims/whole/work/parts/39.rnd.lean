/-! ===== what is made of findings: the new text, its paints, spans that go along ===== -/
theorem pout_len {S : Int → Int} {n : Int} {b : Int → Int} {r t p : Int} (hTk : Tk (fun i => S (10 + i)) (S 2) n b) (h2 : S 2 ≤ 200) (hw : PW S r p) (t0 : 0 ≤ t) (hn : t + S (516 + 40 * r) ≤ n) (h4 : S (536 + 40 * r + 3 * p + 0) ≠ 4) : (pout S b r t p).length ≤ 200 := by
  obtain ⟨-, -, e, e0, e1, e2⟩ := hw.2.2.2.2 h4
  have hk := isK_of e0 e1 e2
  unfold pout
  rw [if_neg h4]
  generalize hu : t + fk S r (4 * pbase (S (536 + 40 * r + 3 * p + 0)) + S (536 + 40 * r + 3 * p + 1)) = u
  have u0 : 0 ≤ u ∧ u < n := by have := hk.1; have := hk.2.1; omega
  have c1 := hTk.bd (t := u) u0.1 (by omega)
  have c2 := hTk.bd (t := u + 1) (by omega) (by omega)
  show (if _ then _ else _ : List Int).length ≤ 200
  split
  · have := num_len (max 0 (nv (fun k => S (10 + (b u + k))) (b (u + 1) - b u).toNat + (if S (536 + 40 * r + 3 * p + 0) = 5 then 1 else -1)))
    omega
  · split
    · rw [stretch_len]; omega
    · rw [stretch_len]; omega
theorem pouts_len {S : Int → Int} {n : Int} {b : Int → Int} {r t : Int} (hTk : Tk (fun i => S (10 + i)) (S 2) n b) (h2 : S 2 ≤ 200) (hw : RW1 S r) (t0 : 0 ≤ t) (hn : t + S (516 + 40 * r) ≤ n) : ∀ (c : Nat), (c : Int) ≤ S (517 + 40 * r) → ∀ X : Int, 0 ≤ X → (∀ p, 0 ≤ p → p < (c : Int) → S (536 + 40 * r + 3 * p + 0) = 4 → S (536 + 40 * r + 3 * p + 1) + S (536 + 40 * r + 3 * p + 2) ≤ X) → ((pouts S b r t c).length : Int) ≤ 200 * c + X := by
  intro c
  induction c with
  | zero => intro _ X hX _; unfold pouts; simp; omega
  | succ c ih =>
    intro hc X hX hq
    unfold pouts
    rw [List.length_append]
    have hp := hw.2.2.2.2.2.1 (c : Int) (by omega) (by omega)
    by_cases h4 : S (536 + 40 * r + 3 * (c : Int) + 0) = 4
    · have g := hp.2.2.2.1 h4
      have e : (pout S b r t c).length = (S (536 + 40 * r + 3 * (c : Int) + 2)).toNat := by
        unfold pout
        rw [if_pos h4, stretch_len]
      have i1 := ih (by omega) (S (536 + 40 * r + 3 * (c : Int) + 1)) g.1 (fun p p0 p1 p4 => hw.2.2.2.2.2.2 p c p0 p1 (by omega) p4 h4)
      have i2 := hq c (by omega) (by omega) h4
      omega
    · have i1 := ih (by omega) X hX (fun p p0 p1 p4 => hq p p0 (by omega) p4)
      have i2 := pout_len hTk h2 hp t0 hn h4
      omega
theorem Out_len {S : Int → Int} {n : Int} {b : Int → Int} {r t : Int} (hTk : Tk (fun i => S (10 + i)) (S 2) n b) (h2 : S 2 ≤ 200) (hw : RW1 S r) (t0 : 0 ≤ t) (hn : t + S (516 + 40 * r) ≤ n) : (Out S b r t).length ≤ 1500 := by
  have h6 := hw.2.2.2.1
  have := pouts_len hTk h2 hw t0 hn (S (517 + 40 * r)).toNat (by omega) 300 (by omega) (fun p p0 p1 p4 => ((hw.2.2.2.2.2.1 p p0 (by omega)).2.2.2.1 p4).2.2)
  unfold Out
  omega
noncomputable def grow (S : Int → Int) (f : Int) : Int := (fO S f).length - (fE S f - fB S f)
noncomputable def sumG (S : Int → Int) (L : List Int) : Int := (L.map (grow S)).sum
/-- a place goes along -/
noncomputable def alng (S : Int → Int) (L : List Int) (p : Int) : Int := p + sumG S (L.filter (fun f => decide (fE S f ≤ p)))
def cells (S : Int → Int) (i j : Int) : List (Int × Int) := (List.range (j - i).toNat).map (fun k : Nat => (S (10 + (i + k)), S (210 + (i + k))))
theorem cells_len (S : Int → Int) (i j : Int) : (cells S i j).length = (j - i).toNat := by simp [cells]
theorem cells_self (S : Int → Int) (i : Int) : cells S i i = [] := by unfold cells; rw [show (i - i).toNat = 0 by omega]; rfl
theorem cells_succ (S : Int → Int) {i j : Int} (h : i ≤ j) : cells S i (j + 1) = cells S i j ++ [(S (10 + j), S (210 + j))] := by
  unfold cells
  rw [show (j + 1 - i).toNat = (j - i).toNat + 1 by omega, List.range_succ, List.map_append]
  simp only [List.map_cons, List.map_nil]
  rw [show i + ((j - i).toNat : Int) = j by omega]
/-- the new text with its paints, from old place i on, the findings R (going up) being made -/
noncomputable def newL (S : Int → Int) : List Int → Int → List (Int × Int)
  | [], i => cells S i (S 2)
  | f :: R, i => cells S i (fB S f) ++ ((fO S f).map (fun c => (c, fR S f + 1)) ++ newL S R (fE S f))
/-- findings from lo on, going up, that share no byte, from place i on -/
def Ch (S : Int → Int) : Int → Int → List Int → Prop
  | _, i, [] => i ≤ S 2
  | lo, i, f :: R => lo ≤ f ∧ f < NF S ∧ i ≤ fB S f ∧ Ch S (f + 1) (fE S f) R
theorem Ch.mem {S : Int → Int} : ∀ (R : List Int) (lo i g : Int), Ch S lo i R → g ∈ R → lo ≤ g ∧ g < NF S := by
  intro R
  induction R with
  | nil => intro lo i g _ hg; exact absurd hg List.not_mem_nil
  | cons f R ih =>
    intro lo i g h hg
    obtain ⟨h1, h2, h3, h4⟩ := h
    rcases List.mem_cons.mp hg with e | hg
    · omega
    · have := ih _ _ _ h4 hg
      omega
theorem Ch.up {S : Int → Int} {lo i : Int} {R : List Int} (h : Ch S lo i R) (hn : lo ∉ R) : Ch S (lo + 1) i R := by
  cases R with
  | nil => exact h
  | cons f R =>
    obtain ⟨h1, h2, h3, h4⟩ := h
    have : lo ≠ f := fun e => hn (by rw [e]; exact List.mem_cons_self)
    exact ⟨by omega, h2, h3, h4⟩
theorem Ch.hd {S : Int → Int} {lo i : Int} {R : List Int} (h : Ch S lo i R) (hn : lo ∈ R) : ∃ R', R = lo :: R' := by
  cases R with
  | nil => exact absurd hn List.not_mem_nil
  | cons f R =>
    obtain ⟨h1, h2, h3, h4⟩ := h
    rcases List.mem_cons.mp hn with e | hg
    · exact ⟨R, by rw [e]⟩
    · have := Ch.mem _ _ _ _ h4 hg
      omega
theorem Ch.nil {S : Int → Int} {i : Int} {R : List Int} (h : Ch S (NF S) i R) : R = [] := by
  cases R with
  | nil => rfl
  | cons f R => have := h.1; have := h.2.1; omega
theorem newL_len {S : Int → Int} : ∀ (R : List Int) (lo i : Int), Ch S lo i R → ((newL S R i).length : Int) = S 2 - i + sumG S R := by
  intro R
  induction R with
  | nil =>
    intro lo i h
    have h : i ≤ S 2 := h
    unfold newL sumG
    rw [cells_len]
    simp
    omega
  | cons f R ih =>
    intro lo i h
    obtain ⟨h1, h2, h3, h4⟩ := h
    have g := ih _ _ h4
    unfold newL
    have e : sumG S (f :: R) = grow S f + sumG S R := by unfold sumG; rw [List.map_cons, List.sum_cons]
    rw [List.length_append, List.length_append, cells_len, List.length_map, e]
    unfold grow
    omega
/-- the state with these made -/
noncomputable def mkS (S : Int → Int) (L : List Int) : Int → Int := fun j =>
  if j = 2 then (newL S L 0).length
  else if 10 ≤ j ∧ j < 210 then ((newL S L 0).getD (j - 10).toNat (0, 0)).1
  else if 210 ≤ j ∧ j < 410 then ((newL S L 0).getD (j - 210).toNat (0, 0)).2
  else if 410 ≤ j ∧ j < 410 + 2 * S 3 then (if j % 2 = 0 then alng S L (S j) else S j + (alng S L (S (j - 1)) - S (j - 1)))
  else S j
/-! bounds of a finding -/
theorem f_bd {S : Int → Int} (hQ : QW S) (hF : Fnd S (nT S) (bT S) (FL S)) {f : Int} (f0 : 0 ≤ f) (f1 : f < NF S) : 0 ≤ fB S f ∧ fB S f < fE S f ∧ fE S f ≤ S 2 ∧ RW1 S (fR S f) ∧ (0 ≤ fR S f ∧ fR S f < 6) ∧ (0 ≤ fT S f ∧ fT S f < nT S) ∧ fT S f + S (516 + 40 * fR S f) ≤ nT S ∧ (fO S f).length ≤ 1500 ∧ -200 ≤ grow S f ∧ grow S f ≤ 1500 := by
  obtain ⟨h1, h2, h3, h4, h5, h6, h7⟩ := fa_bd (tkS hQ.1.1) hQ.2.1 hF f0 f1
  have ho : (fO S f).length ≤ 1500 := Out_len (tkS hQ.1.1) hQ.1.2 h4 h6.1 h7
  have hq := hQ.1
  refine ⟨h1, h2, h3, h4, h5, h6, h7, ho, ?_, ?_⟩
  · have : fE S f - fB S f ≤ 200 := by show fe_ S (bT S) (FL S) f - fb (bT S) (FL S) f ≤ 200; omega
    unfold grow
    omega
  · have : 0 < fE S f - fB S f := by show 0 < fe_ S (bT S) (FL S) f - fb (bT S) (FL S) f; omega
    unfold grow
    omega
theorem fB_mono {S : Int → Int} (hQ : QW S) (hF : Fnd S (nT S) (bT S) (FL S)) {f g : Int} (f0 : 0 ≤ f) (fg : f ≤ g) (g1 : g < NF S) : fB S f ≤ fB S g := by
  by_cases e : f = g
  · rw [e]; exact Int.le_refl _
  · have a := f_bd hQ hF f0 (by omega)
    have c := f_bd hQ hF (f := g) (by omega) g1
    have hp := gd_pw (d := ((0, 0) : Int × Int)) hF.1 (i := f.toNat) (j := g.toNat) (by omega) (by unfold NF at g1; omega)
    have ht : fT S f ≤ fT S g := by
      unfold flt at hp
      show (fa (FL S) f).2 ≤ (fa (FL S) g).2
      unfold fa
      omega
    have := (tkS (S := S) hQ.1.1).le a.2.2.2.2.2.1.1 ht (by omega)
    show bT S (fT S f) ≤ bT S (fT S g)
    omega
theorem sel_Ch {S : Int → Int} (hQ : QW S) (hF : Fnd S (nT S) (bT S) (FL S)) {mo fe : Int → Int → Int} : ∀ (d : Nat) (f c i : Int), 0 ≤ f → f ≤ NF S → (∀ g, f ≤ g → g < NF S → i ≤ fB S g) → i ≤ S 2 → Ch S f i (sel (NF S) (fV S) (fFr S) (fN S) mo fe d f c) := by
  intro d
  induction d with
  | zero => intro f c i _ _ _ h; exact h
  | succ d ih =>
    intro f c i f0 f1 hi h2
    unfold sel
    by_cases h1 : f < NF S ∧ 0 < fe f c
    · rw [if_pos h1]
      have hn := fN_is f0 h1.1
      have bd := f_bd hQ hF f0 h1.1
      split
      · refine ⟨Int.le_refl _, h1.1, hi f (Int.le_refl _) h1.1, ?_⟩
        have g := ih (fN S f) (c - 1) (fE S f) (by omega) hn.2.1 (fun g g0 g1 => Int.le_trans (hn.2.2.2 (by omega)) (fB_mono hQ hF (by omega) g0 g1)) bd.2.2.1
        -- from nx f on is from f + 1 on
        have lower : ∀ (R : List Int) (lo lo' i : Int), lo' ≤ lo → Ch S lo i R → Ch S lo' i R := by
          intro R
          cases R with
          | nil => intro _ _ _ _ h; exact h
          | cons a R => intro lo lo' i hl h; exact ⟨Int.le_trans hl h.1, h.2⟩
        exact lower _ _ _ _ (by omega) g
      · have g := ih (f + 1) c i (by omega) (by omega) (fun g g0 g1 => hi g (by omega) g1) h2
        have lower : ∀ (R : List Int) (lo lo' i : Int), lo' ≤ lo → Ch S lo i R → Ch S lo' i R := by
          intro R
          cases R with
          | nil => intro _ _ _ _ h; exact h
          | cons a R => intro lo lo' i hl h; exact ⟨Int.le_trans hl h.1, h.2⟩
        exact lower _ _ _ _ (by omega) g
    · rw [if_neg h1]
      exact h2
theorem setL_Ch {S : Int → Int} (hQ : QW S) (hF : Fnd S (nT S) (bT S) (FL S)) : Ch S 0 0 (setL S) := by
  have hN : 0 ≤ NF S := by unfold NF; omega
  exact sel_Ch hQ hF _ 0 _ 0 (by omega) hN (fun g g0 g1 => (f_bd hQ hF g0 g1).1) hQ.1.1
theorem one_Ch {S : Int → Int} (hQ : QW S) (hF : Fnd S (nT S) (bT S) (FL S)) {f : Int} (f0 : 0 ≤ f) (f1 : f < NF S) : Ch S 0 0 [f] := ⟨f0, f1, (f_bd hQ hF f0 f1).1, (f_bd hQ hF f0 f1).2.2.1⟩
/-- of findings that share no byte, with a new text that fits: any of them grow by little together -/
theorem sumG_bd {S : Int → Int} (hQ : QW S) (hF : Fnd S (nT S) (bT S) (FL S)) : ∀ (R : List Int) (lo i : Int), 0 ≤ lo → Ch S lo i R → ∀ (X : List Int), X.Sublist R → -(S 2 - i) ≤ sumG S X ∧ sumG S X ≤ (newL S R i).length := by
  intro R
  induction R with
  | nil =>
    intro lo i l0 h X hX
    have h : i ≤ S 2 := h
    have e := List.sublist_nil.mp hX
    subst e
    have : sumG S [] = 0 := rfl
    omega
  | cons f R ih =>
    intro lo i l0 h X hX
    obtain ⟨h1, h2, h3, h4⟩ := h
    have bd := f_bd hQ hF (f := f) (by omega) h2
    have el : (newL S (f :: R) i).length = (fB S f - i).toNat + (fO S f).length + (newL S R (fE S f)).length := by
      rw [newL, List.length_append, List.length_append, cells_len, List.length_map]; omega
    cases hX with
    | cons _ hX' =>
      have g := ih _ _ (by omega) h4 _ hX'
      omega
    | cons_cons _ hX' =>
      rename_i X'
      have g := ih _ _ (by omega) h4 _ hX'
      have e : sumG S (f :: X') = grow S f + sumG S X' := by unfold sumG; rw [List.map_cons, List.sum_cons]
      rw [e]
      unfold grow
      omega
theorem alng_bd {S : Int → Int} (hQ : QW S) (hF : Fnd S (nT S) (bT S) (FL S)) {L : List Int} (hC : Ch S 0 0 L) (hl : (newL S L 0).length ≤ 200) (p : Int) : p - 200 ≤ alng S L p ∧ alng S L p ≤ p + 200 := by
  have g := sumG_bd hQ hF L 0 0 (by omega) hC (L.filter (fun f => decide (fE S f ≤ p))) List.filter_sublist
  have := hQ.1
  unfold alng
  omega
