/-! ===== what a state has: its tokens, findings, set, as functions of it ===== -/
theorem IsNx_ex (T : Int → Int) {len i : Int} (h0 : 0 ≤ i) (h1 : i < len) : ∃ j, IsNx T len i j := by
  by_cases hs : srt (T i) = 2
  · exact ⟨i + 1, by omega, by omega, fun k k0 k1 => by have : k = i := by omega
                                                        rw [this], fun _ => rfl, fun q => absurd hs q⟩
  · obtain ⟨j, j0, j1, ⟨j2, j3⟩, j4⟩ := firstInt (P := fun j => i < j ∧ (j = len ∨ srt (T j) ≠ srt (T i))) (e := len + 1) ⟨len, by omega, by omega, h1, Or.inl rfl⟩
    refine ⟨j, j2, by omega, fun k k0 k1 => ?_, fun q => absurd q hs, fun _ q => ?_⟩
    · by_cases e : k = i
      · rw [e]
      · have := j4 k (by omega) k1
        exact Classical.byContradiction (fun q => this ⟨by omega, Or.inr q⟩)
    · rcases j3 with j3 | j3
      · omega
      · exact j3
theorem Tk_ex (T : Int → Int) {len : Int} (h : 0 ≤ len) : ∃ n b, Tk T len n b := by
  have key : ∀ (d : Nat) (i : Int), 0 ≤ i → i ≤ len → len ≤ i + d → ∃ (n : Int) (b : Int → Int), 0 ≤ n ∧ b 0 = i ∧ b n = len ∧ ∀ t, 0 ≤ t → t < n → IsNx T len (b t) (b (t + 1)) := by
    intro d
    induction d with
    | zero => intro i i0 i1 i2; exact ⟨0, fun _ => i, by omega, rfl, by show i = len; omega, fun t t0 t1 => by omega⟩
    | succ d ih =>
      intro i i0 i1 i2
      by_cases e : i = len
      · exact ⟨0, fun _ => i, by omega, rfl, e, fun t t0 t1 => by omega⟩
      · obtain ⟨j, hj⟩ := IsNx_ex T i0 (by omega : i < len)
        have hj1 := hj.1
        have hj2 := hj.2.1
        obtain ⟨n, b, n0, b0, bn, hb⟩ := ih j (by omega) hj2 (by omega)
        refine ⟨n + 1, fun t => if t ≤ 0 then i else b (t - 1), by omega, rfl, ?_, fun t t0 t1 => ?_⟩
        · show (if n + 1 ≤ 0 then i else b (n + 1 - 1)) = len
          rw [if_neg (by omega), show n + 1 - 1 = n by omega]
          exact bn
        · show IsNx T len (if t ≤ 0 then i else b (t - 1)) (if t + 1 ≤ 0 then i else b (t + 1 - 1))
          rw [if_neg (by omega : ¬ t + 1 ≤ 0), show t + 1 - 1 = t by omega]
          by_cases ht : t = 0
          · rw [if_pos (by omega), ht, b0]
            exact hj
          · rw [if_neg (by omega)]
            have := hb (t - 1) (by omega) (by omega)
            rw [show t - 1 + 1 = t by omega] at this
            exact this
  obtain ⟨n, b, h1, h2, h3, h4⟩ := key len.toNat 0 (by omega) h (by omega)
  exact ⟨n, b, h1, h2, h3, h4⟩
noncomputable def nT (S : Int → Int) : Int := Classical.epsilon (fun n => ∃ b, Tk (fun i => S (10 + i)) (S 2) n b)
noncomputable def bT (S : Int → Int) : Int → Int := Classical.epsilon (fun b => Tk (fun i => S (10 + i)) (S 2) (nT S) b)
theorem tkS {S : Int → Int} (h : 0 ≤ S 2) : Tk (fun i => S (10 + i)) (S 2) (nT S) (bT S) := Classical.epsilon_spec (p := fun b => Tk (fun i => S (10 + i)) (S 2) (nT S) b) (Classical.epsilon_spec (p := fun n => ∃ b, Tk (fun i => S (10 + i)) (S 2) n b) (Tk_ex _ h))
noncomputable def FL (S : Int → Int) : List (Int × Int) := Classical.epsilon (fun F => Fnd S (nT S) (bT S) F)
theorem FL_eq {S : Int → Int} {F : List (Int × Int)} (h : Fnd S (nT S) (bT S) F) : F = FL S := h.uniq (Classical.epsilon_spec (p := fun F => Fnd S (nT S) (bT S) F) ⟨F, h⟩)
/-! the recurrence has one solution -/
theorem DPs.congr {v : Int → Int} {fr : Int → Prop} {nx : Int → Int} {mo fe mo' fe' : Int → Int → Int} {f c : Int} (h : DPs v fr nx mo fe f c) (hn : f < nx f) (e1 : ∀ g k, f ≤ g → mo' g k = mo g k) (e2 : ∀ g k, f ≤ g → fe' g k = fe g k) : DPs v fr nx mo' fe' f c := by
  unfold DPs at *
  rw [e1 f c (by omega), e1 (f + 1) c (by omega), e1 (nx f) (c - 1) (by omega), e2 f c (by omega), e2 (f + 1) c (by omega), e2 (nx f) (c - 1) (by omega)]
  exact h
theorem DPok_ex {N : Int} (v : Int → Int) (fr : Int → Prop) {nx : Int → Int} (hn : ∀ f, 0 ≤ f → f < N → f < nx f) : ∃ mo fe, DPok N v fr nx mo fe := by
  have key : ∀ d : Nat, ∃ mo fe : Int → Int → Int, (∀ c, 0 ≤ c → c ≤ 20 → mo N c = 0 ∧ fe N c = 0) ∧ ∀ f, 0 ≤ f → f < N → N ≤ f + d → ∀ c, 0 ≤ c → c ≤ 20 → DPs v fr nx mo fe f c := by
    intro d
    induction d with
    | zero => exact ⟨fun _ _ => 0, fun _ _ => 0, fun _ _ _ => ⟨rfl, rfl⟩, fun f f0 f1 f2 => by omega⟩
    | succ d ih =>
      obtain ⟨mo, fe, h1, h2⟩ := ih
      have hx : ∃ x : Int, N = x + d + 1 := ⟨N - d - 1, by omega⟩
      obtain ⟨x, hx⟩ := hx
      let P : Int → Prop := fun c => (fr x ∧ 0 < c) ∧ ¬ (v x + mo (nx x) (c - 1) < mo (x + 1) c ∨ (v x + mo (nx x) (c - 1) = mo (x + 1) c ∧ fe (x + 1) c < 1 + fe (nx x) (c - 1)))
      let mo' : Int → Int → Int := fun f c => if f = x then @ite _ (P c) (Classical.propDecidable _) (v x + mo (nx x) (c - 1)) (mo (x + 1) c) else mo f c
      let fe' : Int → Int → Int := fun f c => if f = x then @ite _ (P c) (Classical.propDecidable _) (1 + fe (nx x) (c - 1)) (fe (x + 1) c) else fe f c
      have em : ∀ g k, x < g → mo' g k = mo g k := fun g k hg => if_neg (by omega)
      have ef : ∀ g k, x < g → fe' g k = fe g k := fun g k hg => if_neg (by omega)
      refine ⟨mo', fe', fun c c0 c1 => ?_, fun f f0 f1 f2 c c0 c1 => ?_⟩
      · rw [em N c (by omega), ef N c (by omega)]
        exact h1 c c0 c1
      · by_cases e : f = x
        · subst e
          have hnx := hn f f0 f1
          have q1 : mo' f c = @ite _ (P c) (Classical.propDecidable _) (v f + mo (nx f) (c - 1)) (mo (f + 1) c) := if_pos rfl
          have q2 : fe' f c = @ite _ (P c) (Classical.propDecidable _) (1 + fe (nx f) (c - 1)) (fe (f + 1) c) := if_pos rfl
          unfold DPs
          rw [em (f + 1) c (by omega), em (nx f) (c - 1) hnx, ef (f + 1) c (by omega), ef (nx f) (c - 1) hnx]
          refine ⟨fun g => ?_, fun g => ⟨fun g' => ?_, fun g' => ?_⟩⟩
          · rw [q1, q2, if_neg (fun (q : P c) => g q.1), if_neg (fun (q : P c) => g q.1)]
            exact ⟨rfl, rfl⟩
          · rw [q1, q2, if_neg (fun (q : P c) => q.2 g'), if_neg (fun (q : P c) => q.2 g')]
            exact ⟨rfl, rfl⟩
          · have hp : P c := ⟨g, g'⟩
            rw [q1, q2, if_pos hp, if_pos hp]
            exact ⟨rfl, rfl⟩
        · exact (h2 f f0 f1 (by omega) c c0 c1).congr (hn f f0 f1) (fun g k hg => em g k (by omega)) (fun g k hg => ef g k (by omega))
  obtain ⟨mo, fe, h1, h2⟩ := key N.toNat
  exact ⟨mo, fe, h1, fun f f0 f1 c c0 c1 => h2 f f0 f1 (by omega) c c0 c1⟩
theorem DPok.uniq {N : Int} {v : Int → Int} {fr : Int → Prop} {nx : Int → Int} {mo fe mo' fe' : Int → Int → Int} (h : DPok N v fr nx mo fe) (h' : DPok N v fr nx mo' fe') (hn : ∀ f, 0 ≤ f → f < N → f < nx f ∧ nx f ≤ N) : ∀ (d : Nat) (f c : Int), 0 ≤ f → f ≤ N → N ≤ f + d → 0 ≤ c → c ≤ 20 → mo f c = mo' f c ∧ fe f c = fe' f c := by
  intro d
  induction d with
  | zero =>
    intro f c f0 f1 f2 c0 c1
    have e : f = N := by omega
    subst e
    have g1 := h.1 c c0 c1
    have g2 := h'.1 c c0 c1
    omega
  | succ d ih =>
    intro f c f0 f1 f2 c0 c1
    by_cases e : f = N
    · subst e
      have g1 := h.1 c c0 c1
      have g2 := h'.1 c c0 c1
      omega
    · have hn' := hn f f0 (by omega)
      have a1 := h.2 f f0 (by omega) c c0 c1
      have a2 := h'.2 f f0 (by omega) c c0 c1
      have i1 := ih (f + 1) c (by omega) (by omega) (by omega) c0 c1
      rw [← i1.1, ← i1.2] at a2
      by_cases hc : fr f ∧ 0 < c
      · have i2 := ih (nx f) (c - 1) (by omega) (by omega) (by omega) (by omega) (by omega)
        rw [← i2.1, ← i2.2] at a2
        by_cases hq : (v f + mo (nx f) (c - 1) < mo (f + 1) c ∨ (v f + mo (nx f) (c - 1) = mo (f + 1) c ∧ fe (f + 1) c < 1 + fe (nx f) (c - 1)))
        · have b1 := (a1.2 hc).1 hq
          have b2 := (a2.2 hc).1 hq
          omega
        · have b1 := (a1.2 hc).2 hq
          have b2 := (a2.2 hc).2 hq
          omega
      · have b1 := a1.1 hc
        have b2 := a2.1 hc
        omega
theorem sel_congr {N : Int} {v : Int → Int} {fr : Int → Prop} {nx : Int → Int} {mo fe mo' fe' : Int → Int → Int} (hn : ∀ f, 0 ≤ f → f < N → f < nx f ∧ nx f ≤ N) (he : ∀ f c, 0 ≤ f → f ≤ N → 0 ≤ c → c ≤ 20 → mo f c = mo' f c ∧ fe f c = fe' f c) : ∀ (d : Nat) (f c : Int), 0 ≤ f → f ≤ N → 0 ≤ c → c ≤ 20 → sel N v fr nx mo fe d f c = sel N v fr nx mo' fe' d f c := by
  intro d
  induction d with
  | zero => intro f c _ _ _ _; rfl
  | succ d ih =>
    intro f c f0 f1 c0 c1
    unfold sel
    have q := he f c f0 f1 c0 c1
    rw [← q.1, ← q.2]
    by_cases h1 : f < N ∧ 0 < fe f c
    · rw [if_pos h1, if_pos h1]
      have hn' := hn f f0 h1.1
      rw [ih (f + 1) c (by omega) (by omega) c0 c1]
      by_cases hc : 0 < c
      · have q2 := he (nx f) (c - 1) (by omega) hn'.2 (by omega) (by omega)
        rw [← q2.1, ← q2.2, ih (nx f) (c - 1) (by omega) hn'.2 (by omega) (by omega)]
      · rw [if_neg (fun q => hc q.2.1), if_neg (fun q => hc q.2.1)]
    · rw [if_neg h1, if_neg h1]
/-! of a state -/
noncomputable abbrev NF (S : Int → Int) : Int := (FL S).length
noncomputable def fR (S : Int → Int) (i : Int) : Int := (fa (FL S) i).1
noncomputable def fT (S : Int → Int) (i : Int) : Int := (fa (FL S) i).2
noncomputable def fB (S : Int → Int) (i : Int) : Int := fb (bT S) (FL S) i
noncomputable def fE (S : Int → Int) (i : Int) : Int := fe_ S (bT S) (FL S) i
noncomputable def fV (S : Int → Int) (i : Int) : Int := vF S (bT S) (FL S) i
noncomputable def fO (S : Int → Int) (i : Int) : List Int := Out S (bT S) (fR S i) (fT S i)
def fSi (S : Int → Int) (i : Int) : Prop := sF S (bT S) (FL S) i
def fYi (S : Int → Int) (i : Int) : Prop := yF S (bT S) (FL S) i
def fFr (S : Int → Int) (i : Int) : Prop := freeF S (bT S) (FL S) i
noncomputable def fN (S : Int → Int) (i : Int) : Int := nxF S (bT S) (FL S) i
theorem fN_is {S : Int → Int} {f : Int} (f0 : 0 ≤ f) (f1 : f < NF S) : f < fN S f ∧ fN S f ≤ NF S ∧ (∀ k, f < k → k < fN S f → fB S k < fE S f) ∧ (fN S f < NF S → fE S f ≤ fB S (fN S f)) := isNF_ex f0 f1
noncomputable def dpS (S : Int → Int) : (Int → Int → Int) × (Int → Int → Int) := Classical.epsilon (fun p : (Int → Int → Int) × (Int → Int → Int) => DPok (NF S) (fV S) (fFr S) (fN S) p.1 p.2)
theorem dpS_ok (S : Int → Int) : DPok (NF S) (fV S) (fFr S) (fN S) (dpS S).1 (dpS S).2 := by
  refine Classical.epsilon_spec (p := fun p : (Int → Int → Int) × (Int → Int → Int) => DPok (NF S) (fV S) (fFr S) (fN S) p.1 p.2) ?_
  obtain ⟨mo, fe, h⟩ := DPok_ex (N := NF S) (fV S) (fFr S) (nx := fN S) (fun f f0 f1 => (fN_is f0 f1).1)
  exact ⟨(mo, fe), h⟩
/-- THE SET: numbers of findings, going up -/
noncomputable def setL (S : Int → Int) : List Int := sel (NF S) (fV S) (fFr S) (fN S) (dpS S).1 (dpS S).2 (NF S).toNat 0 (S 6)
noncomputable def wS (S : Int → Int) : Int := (dpS S).1 0 (S 6)
/-- the findings are laid -/
def LFS (m : Nat) (S : Int → Int) (I : jM) : Prop := TO m S (nT S) (bT S) I ∧ FI m S (bT S) I (FL S) ∧ Fnd S (nT S) (bT S) (FL S) ∧ NF S ≤ 1200 ∧ (∀ i, 0 ≤ i → i < NF S → I (m + 12) i = fV S i ∧ I (m + 13) i = jI (fSi S i) ∧ I (m + 14) i = jI (fYi S i) ∧ I (m + 15) i = jI (i ∈ setL S)) ∧ I m 21 = wS S ∧ I m 20 = (setL S).length
/-- findings' bounds -/
theorem fV_bd {S : Int → Int} (hQ : QW S) (hF : Fnd S (nT S) (bT S) (FL S)) {f : Int} (f0 : 0 ≤ f) (f1 : f < NF S) : 0 ≤ fV S f ∧ fV S f ≤ 9900 := by
  have bd := fa_bd (tkS hQ.1.1) hQ.2.1 hF f0 f1
  have h2 := hQ.1
  exact valOf_bd bd.2.2.2.1 ⟨by omega, by omega⟩
theorem LF.canon {m : Nat} {S : Int → Int} {I : jM} {F : List (Int × Int)} (hQ : QW S) (h : LF m S (nT S) (bT S) F I) : LFS m S I := by
  obtain ⟨h1, h2, h3, h4, h5, h6, h7, h8, h9⟩ := h
  have e := FL_eq h3
  subst e
  have hv := fun f f0 f1 => fV_bd hQ h3 (f := f) f0 f1
  have hn : ∀ f, 0 ≤ f → f < NF S → f < fN S f ∧ fN S f ≤ NF S := fun f f0 f1 => ⟨(fN_is f0 f1).1, (fN_is f0 f1).2.1⟩
  have hu := h6.uniq (dpS_ok S) hn (FL S).length
  have h66 := hQ.2.2.2.1
  have hN : 0 ≤ NF S := by unfold NF; omega
  have es : sel (NF S) (fV S) (fFr S) (fN S) (moM m I) (feM m I) (NF S).toNat 0 (S 6) = setL S := sel_congr hn (fun f c f0 f1 c0 c1 => hu f c f0 f1 (by omega) c0 c1) _ _ _ (by omega) hN h66.1 h66.2
  have u0 := hu 0 (S 6) (by omega) hN (by omega) h66.1 h66.2
  have hs := sel_sum (dpS_ok S) hv hn hN (NF S).toNat 0 (S 6) (by omega) hN (by omega) h66.1 h66.2
  refine ⟨h1, h2, h3, by unfold NF; omega, fun i i0 i1 => ?_, h7.trans u0.1, h8.trans (u0.2.trans hs.2.symm)⟩
  obtain ⟨g1, g2, g3⟩ := h5 i i0 i1
  refine ⟨g1, g2, g3, ?_⟩
  rw [h9 i i0 i1]
  show jI (i ∈ sel (NF S) (fV S) (fFr S) (fN S) (moM m I) (feM m I) (NF S).toNat 0 (S 6)) = _
  rw [es]
theorem wS_sum {S : Int → Int} (hQ : QW S) (hF : Fnd S (nT S) (bT S) (FL S)) : ((setL S).map (fV S)).sum = wS S ∧ ((setL S).length : Int) = (dpS S).2 0 (S 6) ∧ ((setL S).length : Int) ≤ 20 := by
  have hv := fun f f0 f1 => fV_bd hQ hF (f := f) f0 f1
  have hn : ∀ f, 0 ≤ f → f < NF S → f < fN S f ∧ fN S f ≤ NF S := fun f f0 f1 => ⟨(fN_is f0 f1).1, (fN_is f0 f1).2.1⟩
  have h66 := hQ.2.2.2.1
  have hN : 0 ≤ NF S := by unfold NF; omega
  have hs := sel_sum (dpS_ok S) hv hn hN (NF S).toNat 0 (S 6) (by omega) hN (by omega) h66.1 h66.2
  have hb := (dpS_ok S).bd hv hn hN (NF S).toNat 0 (S 6) (by omega) (by omega) h66.1 h66.2
  exact ⟨hs.1, hs.2, by rw [show ((setL S).length : Int) = (dpS S).2 0 (S 6) from hs.2]; omega⟩
theorem sp_X10_layFS {E : jE} {G : jG} {m : Nat} {S : Int → Int} {I : jM} (hm : WX10 G m) (hS : I (m + 1) = S) (hQ : QW S) : jRV E (jA m) kX10_layFindings [VR m] G I (fun I' => WFd m I I' ∧ LFS m S I') := by
  refine (sp_X10_layFindings hm hS hQ (tkS hQ.1.1)).mono (fun I' _ g => ?_)
  obtain ⟨F, g1, g2⟩ := g
  exact ⟨g1, g2.canon hQ⟩
