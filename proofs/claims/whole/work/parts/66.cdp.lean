/-! ===== the set by scores: a value is worth 256, a finding costs 1 ===== -/
def SDP (N : Int) (v : Int → Int) (fr : Int → Prop) (nx : Int → Int) (co lv : Int) (sc : Int → Int → Int) : Prop :=
  (∀ k, 0 ≤ k → k ≤ lv → sc N k = 0) ∧ (∀ f, 0 ≤ f → f ≤ N → sc f 0 = 0) ∧ ∀ f, 0 ≤ f → f < N → ∀ k, 1 ≤ k → k ≤ lv → (¬ fr f → sc f k = sc (f + 1) k) ∧ (fr f → sc f k = max (sc (f + 1) k) (256 * v f - 1 + sc (nx f) (k - co)))
noncomputable def ssel (N : Int) (v : Int → Int) (fr : Int → Prop) (nx : Int → Int) (co : Int) (sc : Int → Int → Int) : Nat → Int → Int → List Int
  | 0, _, _ => []
  | d + 1, f, k => @ite _ (f < N ∧ 0 < k) (Classical.propDecidable _) (@ite _ (fr f ∧ 256 * v f - 1 + sc (nx f) (k - co) = sc f k) (Classical.propDecidable _) (f :: ssel N v fr nx co sc d (nx f) (k - co)) (ssel N v fr nx co sc d (f + 1) k)) []
section DP
variable {N : Int} {v : Int → Int} {fr : Int → Prop} {nx : Int → Int} {co lv : Int} {sc : Int → Int → Int}
theorem ssel_out {d : Nat} {f k : Int} (h : ¬ (f < N ∧ 0 < k)) : ssel N v fr nx co sc d f k = [] := by
  cases d with
  | zero => rfl
  | succ d => unfold ssel; rw [if_neg h]
theorem ssel_take {d : Nat} {f k : Int} (h : f < N ∧ 0 < k) (h' : fr f ∧ 256 * v f - 1 + sc (nx f) (k - co) = sc f k) : ssel N v fr nx co sc (d + 1) f k = f :: ssel N v fr nx co sc d (nx f) (k - co) := by
  show @ite _ _ (Classical.propDecidable _) _ _ = _
  rw [if_pos h, if_pos h']
theorem ssel_skip {d : Nat} {f k : Int} (h : f < N ∧ 0 < k) (h' : ¬ (fr f ∧ 256 * v f - 1 + sc (nx f) (k - co) = sc f k)) : ssel N v fr nx co sc (d + 1) f k = ssel N v fr nx co sc d (f + 1) k := by
  show @ite _ _ (Classical.propDecidable _) _ _ = _
  rw [if_pos h, if_neg h']
theorem ssel_fuel (hn : ∀ f, 0 ≤ f → f < N → f < nx f ∧ nx f ≤ N) : ∀ (d d' : Nat) (f k : Int), 0 ≤ f → N ≤ f + d → N ≤ f + d' → ssel N v fr nx co sc d f k = ssel N v fr nx co sc d' f k := by
  intro d
  induction d with
  | zero =>
    intro d' f k f0 h1 h2
    rw [ssel_out (by omega), ssel_out (by omega)]
  | succ d ih =>
    intro d' f k f0 h1 h2
    by_cases h : f < N ∧ 0 < k
    · cases d' with
      | zero => omega
      | succ d' =>
        have hn' := hn f f0 h.1
        by_cases h' : fr f ∧ 256 * v f - 1 + sc (nx f) (k - co) = sc f k
        · rw [ssel_take h h', ssel_take h h', ih d' (nx f) (k - co) (by omega) (by omega) (by omega)]
        · rw [ssel_skip h h', ssel_skip h h', ih d' (f + 1) k (by omega) (by omega) (by omega)]
    · rw [ssel_out h, ssel_out h]
/-- scores of most and few -/
theorem DPok.sdp {mo fe : Int → Int → Int} (h : DPok N v fr nx mo fe) (hv : ∀ f, 0 ≤ f → f < N → 0 ≤ v f ∧ v f ≤ 9900) (hn : ∀ f, 0 ≤ f → f < N → f < nx f ∧ nx f ≤ N) (hN : 0 ≤ N) (hl : lv ≤ 20) : SDP N v fr nx 1 lv (fun f k => 256 * mo f k - fe f k) := by
  have bd := h.bd hv hn hN
  refine ⟨fun k k0 k1 => ?_, fun f f0 f1 => ?_, fun f f0 f1 k k1 k2 => ?_⟩
  · have := h.1 k k0 (by omega)
    show 256 * mo N k - fe N k = 0
    omega
  · -- with none to take
    have key : ∀ (d : Nat) (f : Int), 0 ≤ f → f + d = N → mo f 0 = 0 ∧ fe f 0 = 0 := by
      intro d f f0 f1
      have b := bd d f 0 f0 f1 (by omega) (by omega)
      omega
    have := key (N - f).toNat f f0 (by omega)
    show 256 * mo f 0 - fe f 0 = 0
    omega
  · have hn' := hn f f0 f1
    have b1 := bd (N - (f + 1)).toNat (f + 1) k (by omega) (by omega) (by omega) (by omega)
    have b2 := bd (N - nx f).toNat (nx f) (k - 1) (by omega) (by omega) (by omega) (by omega)
    have g := h.2 f f0 f1 k (by omega) (by omega)
    refine ⟨fun q => ?_, fun q => ?_⟩
    · have := g.1 (fun a => q a.1)
      show 256 * mo f k - fe f k = 256 * mo (f + 1) k - fe (f + 1) k
      omega
    · have g2 := g.2 ⟨q, by omega⟩
      show 256 * mo f k - fe f k = max (256 * mo (f + 1) k - fe (f + 1) k) (256 * v f - 1 + (256 * mo (nx f) (k - 1) - fe (nx f) (k - 1)))
      by_cases c : (v f + mo (nx f) (k - 1) < mo (f + 1) k ∨ (v f + mo (nx f) (k - 1) = mo (f + 1) k ∧ fe (f + 1) k < 1 + fe (nx f) (k - 1)))
      · have := g2.1 c
        omega
      · have := g2.2 c
        omega
theorem ssel_few {mo fe : Int → Int → Int} (h : DPok N v fr nx mo fe) (hv : ∀ f, 0 ≤ f → f < N → 0 ≤ v f ∧ v f ≤ 9900) (hn : ∀ f, 0 ≤ f → f < N → f < nx f ∧ nx f ≤ N) (hN : 0 ≤ N) : ∀ (d : Nat) (f c : Int), 0 ≤ f → f ≤ N → 0 ≤ c → c ≤ 20 → fe f c = 0 → ssel N v fr nx 1 (fun f k => 256 * mo f k - fe f k) d f c = [] := by
  have bd := h.bd hv hn hN
  intro d
  induction d with
  | zero => intro f c _ _ _ _ _; rfl
  | succ d ih =>
    intro f c f0 f1 c0 c1 hz
    by_cases q : f < N ∧ 0 < c
    · have hn' := hn f f0 q.1
      have b1 := bd (N - f).toNat f c f0 (by omega) c0 c1
      have b2 := bd (N - nx f).toNat (nx f) (c - 1) (by omega) (by omega) (by omega) (by omega)
      have g := h.2 f f0 q.1 c c0 c1
      rw [ssel_skip q (fun a => by have a2 := a.2; omega)]
      refine ih (f + 1) c (by omega) (by omega) c0 c1 ?_
      by_cases w : fr f ∧ 0 < c
      · by_cases e : (v f + mo (nx f) (c - 1) < mo (f + 1) c ∨ (v f + mo (nx f) (c - 1) = mo (f + 1) c ∧ fe (f + 1) c < 1 + fe (nx f) (c - 1)))
        · have := (g.2 w).1 e; omega
        · have := (g.2 w).2 e; omega
      · have := g.1 w; omega
    · exact ssel_out q
theorem sel_ssel {mo fe : Int → Int → Int} (h : DPok N v fr nx mo fe) (hv : ∀ f, 0 ≤ f → f < N → 0 ≤ v f ∧ v f ≤ 9900) (hn : ∀ f, 0 ≤ f → f < N → f < nx f ∧ nx f ≤ N) (hN : 0 ≤ N) : ∀ (d : Nat) (f c : Int), 0 ≤ f → f ≤ N → 0 ≤ c → c ≤ 20 → sel N v fr nx mo fe d f c = ssel N v fr nx 1 (fun f k => 256 * mo f k - fe f k) d f c := by
  have bd := h.bd hv hn hN
  intro d
  induction d with
  | zero => intro f c _ _ _ _; rfl
  | succ d ih =>
    intro f c f0 f1 c0 c1
    have b1 := bd (N - f).toNat f c f0 (by omega) c0 c1
    by_cases q : f < N ∧ 0 < fe f c
    · have hn' := hn f f0 q.1
      have b2 := bd (N - nx f).toNat (nx f) (c - 1) (by omega) (by omega) (by omega) (by omega)
      have q' : f < N ∧ 0 < c := ⟨q.1, by omega⟩
      by_cases w : fr f ∧ 0 < c ∧ v f + mo (nx f) (c - 1) = mo f c ∧ 1 + fe (nx f) (c - 1) = fe f c
      · have e : sel N v fr nx mo fe (d + 1) f c = f :: sel N v fr nx mo fe d (nx f) (c - 1) := by
          show @ite _ _ (Classical.propDecidable _) _ _ = _
          rw [if_pos q, if_pos w]
        rw [e, ssel_take q' ⟨w.1, by show 256 * v f - 1 + (256 * mo (nx f) (c - 1) - fe (nx f) (c - 1)) = 256 * mo f c - fe f c; omega⟩, ih (nx f) (c - 1) (by omega) (by omega) (by omega) (by omega)]
      · have e : sel N v fr nx mo fe (d + 1) f c = sel N v fr nx mo fe d (f + 1) c := by
          show @ite _ _ (Classical.propDecidable _) _ _ = _
          rw [if_pos q, if_neg w]
        rw [e, ssel_skip q' (fun a => w ⟨a.1, q'.2, by have a2 := a.2; omega, by have a2 := a.2; omega⟩), ih (f + 1) c (by omega) (by omega) c0 c1]
    · have e : sel N v fr nx mo fe (d + 1) f c = [] := by
        show @ite _ _ (Classical.propDecidable _) _ _ = _
        rw [if_neg q]
      rw [e]
      by_cases q2 : f < N
      · exact (ssel_few h hv hn hN (d + 1) f c f0 f1 c0 c1 (by omega)).symm
      · exact (ssel_out (by omega)).symm
/-- scores without a limit -/
noncomputable def s0 (N : Int) (v : Int → Int) (fr : Int → Prop) (nx : Int → Int) : Nat → Int → Int
  | 0, _ => 0
  | d + 1, f => @ite _ (f < N) (Classical.propDecidable _) (@ite _ (fr f) (Classical.propDecidable _) (max (s0 N v fr nx d (f + 1)) (256 * v f - 1 + s0 N v fr nx d (nx f))) (s0 N v fr nx d (f + 1))) 0
theorem s0_out {d : Nat} {f : Int} (h : N ≤ f) : s0 N v fr nx d f = 0 := by
  cases d with
  | zero => rfl
  | succ d => unfold s0; rw [if_neg (by omega)]
theorem s0_fuel (hn : ∀ f, 0 ≤ f → f < N → f < nx f ∧ nx f ≤ N) : ∀ (d d' : Nat) (f : Int), 0 ≤ f → N ≤ f + d → N ≤ f + d' → s0 N v fr nx d f = s0 N v fr nx d' f := by
  intro d
  induction d with
  | zero =>
    intro d' f f0 h1 h2
    rw [s0_out (by omega), s0_out (by omega)]
  | succ d ih =>
    intro d' f f0 h1 h2
    by_cases h : f < N
    · cases d' with
      | zero => omega
      | succ d' =>
        have hn' := hn f f0 h
        show @ite _ _ (Classical.propDecidable _) _ _ = @ite _ _ (Classical.propDecidable _) _ _
        rw [if_pos h, if_pos h, ih d' (f + 1) (by omega) (by omega) (by omega), ih d' (nx f) (by omega) (by omega) (by omega)]
    · rw [s0_out (by omega), s0_out (by omega)]
theorem sdp0 (hn : ∀ f, 0 ≤ f → f < N → f < nx f ∧ nx f ≤ N) (hN : 0 ≤ N) : SDP N v fr nx 0 1 (fun f k => if k ≤ 0 then 0 else s0 N v fr nx N.toNat f) := by
  refine ⟨fun k k0 k1 => ?_, fun f f0 f1 => if_pos (by omega), fun f f0 f1 k k1 k2 => ?_⟩
  · show (if k ≤ 0 then (0 : Int) else s0 N v fr nx N.toNat N) = 0
    rw [s0_out (by omega)]
    split <;> rfl
  · have hn' := hn f f0 f1
    have e : s0 N v fr nx N.toNat f = s0 N v fr nx (N.toNat + 1) f := s0_fuel hn _ _ f f0 (by omega) (by omega)
    simp only [if_neg (show ¬ k ≤ 0 by omega), if_neg (show ¬ k - 0 ≤ 0 by omega)]
    rw [e]
    refine ⟨fun q => ?_, fun q => ?_⟩
    · show @ite _ _ (Classical.propDecidable _) _ _ = _
      rw [if_pos f1, if_neg q]
    · show @ite _ _ (Classical.propDecidable _) _ _ = _
      rw [if_pos f1, if_pos q]
theorem SDP.mono (h : SDP N v fr nx co lv sc) {k : Int} (k1 : 1 ≤ k) (k2 : k ≤ lv) : ∀ (d : Nat) (f : Int), 0 ≤ f → f + d ≤ N → sc (f + d) k ≤ sc f k := by
  intro d
  induction d with
  | zero => intro f f0 f1; rw [show f + ((0 : Nat) : Int) = f by omega]; exact Int.le_refl _
  | succ d ih =>
    intro f f0 f1
    have g := h.2.2 f f0 (by omega) k k1 k2
    have i := ih (f + 1) (by omega) (by omega)
    rw [show f + 1 + (d : Int) = f + ((d + 1 : Nat) : Int) by omega] at i
    by_cases q : fr f
    · have := g.2 q; omega
    · have := g.1 q; omega
/-- what is chosen without a limit, if it keeps the limit, is what is chosen with it -/
theorem ssel_lim {a b : Int → Int → Int} (ha : SDP N v fr nx 0 1 a) (hb : SDP N v fr nx 1 lv b) (hn : ∀ f, 0 ≤ f → f < N → f < nx f ∧ nx f ≤ N) (hN : 0 ≤ N) : ∀ (d : Nat) (f k : Int), 0 ≤ f → f ≤ N → N ≤ f + d → 0 ≤ k → k ≤ lv → b f k ≤ a f 1 ∧ (((ssel N v fr nx 0 a d f 1).length : Int) ≤ k → b f k = a f 1 ∧ ssel N v fr nx 1 b d f k = ssel N v fr nx 0 a d f 1) := by
  have pos : ∀ f, 0 ≤ f → f ≤ N → 0 ≤ a f 1 := fun f f0 f1 => by
    have := ha.mono (k := 1) (by omega) (by omega) (N - f).toNat f f0 (by omega)
    rw [show f + ((N - f).toNat : Int) = N by omega, ha.1 1 (by omega) (by omega)] at this
    exact this
  have key : ∀ (e : Nat) (d : Nat) (f k : Int), 0 ≤ f → f ≤ N → N ≤ f + e → N ≤ f + d → 0 ≤ k → k ≤ lv → b f k ≤ a f 1 ∧ (((ssel N v fr nx 0 a d f 1).length : Int) ≤ k → b f k = a f 1 ∧ ssel N v fr nx 1 b d f k = ssel N v fr nx 0 a d f 1) := by
    intro e
    induction e with
    | zero =>
      intro d f k f0 f1 h1 h2 k0 k1
      have ef : f = N := by omega
      subst ef
      rw [ha.1 1 (by omega) (by omega), hb.1 k k0 k1, ssel_out (by omega), ssel_out (by omega)]
      exact ⟨Int.le_refl _, fun _ => ⟨rfl, rfl⟩⟩
    | succ e ih =>
      intro d f k f0 f1 h1 h2 k0 k1
      by_cases fN : f < N
      · have hn' := hn f f0 fN
        have ga := ha.2.2 f f0 fN 1 (by omega) (by omega)
        rw [show (1 : Int) - 0 = 1 by omega] at ga
        cases d with
        | zero => omega
        | succ d =>
          by_cases kz : k = 0
          · subst kz
            rw [hb.2.1 f f0 (by omega)]
            refine ⟨pos f f0 f1, fun hl => ?_⟩
            have hl' : ssel N v fr nx 0 a (d + 1) f 1 = [] := by
              cases hh : ssel N v fr nx 0 a (d + 1) f 1 with
              | nil => rfl
              | cons x xs => rw [hh] at hl; simp at hl; omega
            by_cases w : fr f ∧ 256 * v f - 1 + a (nx f) (1 - 0) = a f 1
            · rw [ssel_take ⟨fN, by omega⟩ w] at hl'
              exact absurd hl' (by simp)
            · rw [ssel_skip ⟨fN, by omega⟩ w] at hl' ⊢
              have i := (ih d (f + 1) 0 (by omega) (by omega) (by omega) (by omega) (by omega) (by omega)).2 (by rw [hl']; simp)
              rw [hb.2.1 (f + 1) (by omega) (by omega)] at i
              rw [show (1 : Int) - 0 = 1 by omega] at w
              have ea : a f 1 = a (f + 1) 1 := by
                by_cases q : fr f
                · have g2 := ga.2 q
                  have : ¬ 256 * v f - 1 + a (nx f) 1 = a f 1 := fun g => w ⟨q, g⟩
                  omega
                · exact ga.1 q
              rw [ea, hl', ssel_out (by omega)]
              exact ⟨i.1, rfl⟩
          · have gb := hb.2.2 f f0 fN k (by omega) k1
            have i1 := ih d (f + 1) k (by omega) (by omega) (by omega) (by omega) k0 k1
            have i2 := ih d (nx f) (k - 1) (by omega) (by omega) (by omega) (by omega) (by omega) (by omega)
            have le : b f k ≤ a f 1 := by
              by_cases q : fr f
              · have g1 := ga.2 q
                have g2 := gb.2 q
                have := i1.1
                have := i2.1
                omega
              · have g1 := ga.1 q
                have g2 := gb.1 q
                have := i1.1
                omega
            refine ⟨le, fun hl => ?_⟩
            by_cases w : fr f ∧ 256 * v f - 1 + a (nx f) (1 - 0) = a f 1
            · rw [ssel_take ⟨fN, by omega⟩ w] at hl ⊢
              rw [show (1 : Int) - 0 = 1 by omega] at w hl ⊢
              simp only [List.length_cons] at hl
              have j2 := i2.2 (by omega)
              have g2 := gb.2 w.1
              have eb : b f k = a f 1 := by omega
              rw [ssel_take ⟨fN, by omega⟩ ⟨w.1, by omega⟩, j2.2]
              exact ⟨eb, rfl⟩
            · rw [ssel_skip ⟨fN, by omega⟩ w] at hl ⊢
              rw [show (1 : Int) - 0 = 1 by omega] at w
              have j1 := i1.2 hl
              have ea : a f 1 = a (f + 1) 1 ∧ (fr f → 256 * v f - 1 + a (nx f) 1 < a f 1) := by
                by_cases q : fr f
                · have g2 := ga.2 q
                  have : ¬ 256 * v f - 1 + a (nx f) 1 = a f 1 := fun g => w ⟨q, g⟩
                  exact ⟨by omega, fun _ => by omega⟩
                · exact ⟨ga.1 q, fun g => absurd g q⟩
              have eb : b f k = a f 1 := by
                by_cases q : fr f
                · have := gb.2 q; omega
                · have := gb.1 q; omega
              rw [ssel_skip ⟨fN, by omega⟩ (fun g => by have := ea.2 g.1; have := i2.1; have := g.2; omega), j1.2]
              exact ⟨eb, rfl⟩
      · have ef : f = N := by omega
        subst ef
        rw [ha.1 1 (by omega) (by omega), hb.1 k k0 k1, ssel_out (by omega), ssel_out (by omega)]
        exact ⟨Int.le_refl _, fun _ => ⟨rfl, rfl⟩⟩
  intro d f k f0 f1 h2 k0 k1
  exact key d d f k f0 f1 h2 h2 k0 k1
end DP
/-! the first finding from a token on -/
def isff (F : List (Int × Int)) (t v : Int) : Prop := (0 ≤ v ∧ v ≤ (F.length : Int)) ∧ ∀ i, 0 ≤ i → i < (F.length : Int) → ((fa F i).2 < t ↔ i < v)
theorem isff.uniq {F : List (Int × Int)} {t v w : Int} (h : isff F t v) (h' : isff F t w) : v = w := by
  rcases Int.lt_trichotomy v w with g | g | g
  · have a := (h'.2 v h.1.1 (by have := h'.1.2; omega)).mpr g
    have b := (h.2 v h.1.1 (by have := h'.1.2; omega)).mp a
    omega
  · exact g
  · have a := (h.2 w h'.1.1 (by have := h.1.2; omega)).mpr g
    have b := (h'.2 w h'.1.1 (by have := h.1.2; omega)).mp a
    omega
noncomputable def ffT (X : Int → Int) (t : Int) : Int := Classical.epsilon (fun v => isff (FL X) t v)
theorem ffT_eq {X : Int → Int} {t v : Int} (h : isff (FL X) t v) : ffT X t = v := isff.uniq (Classical.epsilon_spec (p := fun v => isff (FL X) t v) ⟨v, h⟩) h
noncomputable def fA (X : Int → Int) (f : Int) : Int := fT X f + X (516 + 40 * fR X f)
/-- the class has laid the findings' beginnings -/
def FFx (X : Int → Int) : Prop := ∀ t, 0 ≤ t → t ≤ nT X → isff (FL X) t (ffT X t)
section DQ
variable {X : Int → Int}
theorem FFx.mem (h : FFx X) {t f : Int} (t0 : 0 ≤ t) (t1 : t ≤ nT X) (f0 : 0 ≤ f) (f1 : f < NF X) : fT X f < t ↔ f < ffT X t := (h t t0 t1).2 f f0 f1
theorem FFx.bd (h : FFx X) {t : Int} (t0 : 0 ≤ t) (t1 : t ≤ nT X) : 0 ≤ ffT X t ∧ ffT X t ≤ NF X := (h t t0 t1).1
theorem FFx.zero (h : FFx X) (hQ : QW X) : ffT X 0 = 0 := by
  have hk := tkS (S := X) hQ.1.1
  have b := h.bd (t := 0) (by omega) hk.1
  rcases Int.lt_or_le 0 (ffT X 0) with g | g
  · have := (h.mem (t := 0) (f := 0) (by omega) hk.1 (by omega) (by omega)).mpr g
    have := (f_bd hQ (FLok hQ) (f := 0) (by omega) (by omega)).2.2.2.2.2.1
    omega
  · omega
theorem FFx.top (h : FFx X) (hQ : QW X) : ffT X (nT X) = NF X := by
  have hk := tkS (S := X) hQ.1.1
  have b := h.bd (t := nT X) hk.1 (by omega)
  rcases Int.lt_or_le (ffT X (nT X)) (NF X) with g | g
  · have a := (f_bd hQ (FLok hQ) (f := ffT X (nT X)) b.1 g).2.2.2.2.2.1
    have := (h.mem (t := nT X) (f := ffT X (nT X)) hk.1 (by omega) b.1 g).mp a.2
    omega
  · omega
theorem FFx.mono (h : FFx X) {t u : Int} (t0 : 0 ≤ t) (tu : t ≤ u) (u1 : u ≤ nT X) : ffT X t ≤ ffT X u := by
  have b := h.bd (t := t) t0 (by omega)
  have b' := h.bd (t := u) (by omega) u1
  rcases Int.lt_or_le (ffT X u) (ffT X t) with g | g
  · have a := (h.mem (t := t) (f := ffT X u) t0 (by omega) b'.1 (by omega)).mpr g
    have := (h.mem (t := u) (f := ffT X u) (by omega) u1 b'.1 (by omega)).mp (by omega)
    omega
  · exact g
theorem fE_fB (hQ : QW X) {f g : Int} (f0 : 0 ≤ f) (f1 : f < NF X) (g0 : 0 ≤ g) (g1 : g < NF X) : fB X g < fE X f ↔ fT X g < fA X f := by
  have hk := tkS (S := X) hQ.1.1
  have a := f_bd hQ (FLok hQ) f0 f1
  have b := f_bd hQ (FLok hQ) g0 g1
  have ha : 0 ≤ fA X f ∧ fA X f ≤ nT X := by unfold fA; have := a.2.2.2.1.2.2.1; omega
  show bT X (fT X g) < bT X (fA X f) ↔ _
  constructor
  · intro h
    rcases Int.lt_or_le (fT X g) (fA X f) with q | q
    · exact q
    · have := hk.le (t := fA X f) (u := fT X g) ha.1 q (by omega)
      omega
  · intro h
    exact hk.slt b.2.2.2.2.2.1.1 h ha.2
theorem fN_ff (hQ : QW X) (h : FFx X) {f : Int} (f0 : 0 ≤ f) (f1 : f < NF X) : fN X f = ffT X (fA X f) := by
  have a := f_bd hQ (FLok hQ) f0 f1
  have w := a.2.2.2.1.2.2.1
  have ha : 0 ≤ fA X f ∧ fA X f ≤ nT X := by unfold fA; omega
  have n := fN_is (S := X) f0 f1
  have b := h.bd ha.1 ha.2
  have hf : fT X f < fA X f := by unfold fA; omega
  have hff := (h.mem ha.1 ha.2 f0 f1).mp hf
  rcases Int.lt_trichotomy (fN X f) (ffT X (fA X f)) with q | q | q
  · have c := n.2.2.2 (by omega)
    have d := (h.mem ha.1 ha.2 (f := fN X f) (by omega) (by omega)).mpr q
    have := (fE_fB hQ f0 f1 (g := fN X f) (by omega) (by omega)).mpr d
    omega
  · exact q
  · have c := n.2.2.1 (ffT X (fA X f)) (by omega) q
    have d := (fE_fB hQ f0 f1 (g := ffT X (fA X f)) (by omega) (by omega)).mp c
    have := (h.mem ha.1 ha.2 (f := ffT X (fA X f)) (by omega) (by omega)).mp d
    omega
end DQ
