/-! ===== floats: what is exact ===== -/
theorem fz_log {c k : Nat} (h1 : 2 ^ k ≤ c) (h2 : c < 2 ^ (k + 1)) : c.log2 = k := by
  have hc : c ≠ 0 := fun e => by rw [e] at h1; exact absurd h1 (Nat.not_le.mpr (Nat.two_pow_pos k))
  have g1 : k ≤ c.log2 := (Nat.le_log2 hc).mpr h1
  have g2 : c.log2 < k + 1 := (Nat.log2_lt hc).mpr h2
  omega
theorem fz_near {c D : Nat} (hD : 0 < D) : FP.Core.nearest (c * D) D = c := by
  unfold FP.Core.nearest
  rw [Nat.mul_mod_left, Nat.mul_zero, if_pos hD, Nat.mul_div_cancel _ hD]
theorem fz_rr {f : FP.Core.Fmt} {s : Bool} {c a b : Nat} {e : Int} (hp : 1 ≤ f.p) (h1 : 2 ^ (f.p - 1) ≤ c) (h2 : c < 2 ^ f.p) (hq1 : f.qmin ≤ e + a - b) (hq2 : e + a - b ≤ f.qmax) : FP.Core.roundRatio f s (c * 2 ^ a) (2 ^ b) e = .fin s c (e + a - b) := by
  have hc : 0 < c := Nat.lt_of_lt_of_le (Nat.two_pow_pos _) h1
  have l1 : (c * 2 ^ a).log2 = f.p - 1 + a := by
    refine fz_log ?_ ?_
    · rw [Nat.pow_add]; exact Nat.mul_le_mul_right _ h1
    · rw [show f.p - 1 + a + 1 = f.p + a by omega, Nat.pow_add]; exact Nat.mul_lt_mul_of_pos_right h2 (Nat.two_pow_pos _)
  have l2 : (2 ^ b).log2 = b := fz_log (Nat.le_refl _) (Nat.pow_lt_pow_right (by decide) (by omega))
  have l3 : FP.Core.leading (c * 2 ^ a) (2 ^ b) = ((f.p - 1 + a : Nat) : Int) - b := by
    unfold FP.Core.leading
    rw [l1, l2]
    dsimp only
    rw [if_pos]
    by_cases g : b ≤ f.p - 1 + a
    · rw [show (((f.p - 1 + a : Nat) : Int) - b).toNat = f.p - 1 + a - b by omega, show (-(((f.p - 1 + a : Nat) : Int) - b)).toNat = 0 by omega, Nat.pow_zero, Nat.mul_one, ← Nat.pow_add, show b + (f.p - 1 + a - b) = f.p - 1 + a by omega, Nat.pow_add]
      exact Nat.mul_le_mul_right _ h1
    · rw [show (((f.p - 1 + a : Nat) : Int) - b).toNat = 0 by omega, show (-(((f.p - 1 + a : Nat) : Int) - b)).toNat = b - (f.p - 1 + a) by omega, Nat.pow_zero, Nat.mul_one, Nat.mul_assoc, ← Nat.pow_add, show a + (b - (f.p - 1 + a)) = b - (f.p - 1) by omega]
      calc 2 ^ b = 2 ^ (f.p - 1) * 2 ^ (b - (f.p - 1)) := by rw [← Nat.pow_add]; congr 1; omega
        _ ≤ c * 2 ^ (b - (f.p - 1)) := Nat.mul_le_mul_right _ h1
  have l4 : FP.Core.quantum f (c * 2 ^ a) (2 ^ b) e = e + a - b := by
    unfold FP.Core.quantum
    rw [l3]
    omega
  unfold FP.Core.roundRatio
  rw [if_neg (by have := Nat.mul_pos hc (Nat.two_pow_pos a); omega), l4]
  unfold FP.Core.roundAt FP.Core.unitsNum FP.Core.unitsDen
  have l5 : c * 2 ^ a * 2 ^ (e - (e + a - b)).toNat = c * (2 ^ b * 2 ^ (e + a - b - e).toNat) := by
    rw [Nat.mul_assoc, ← Nat.pow_add, ← Nat.pow_add]
    congr 2
    omega
  rw [l5, fz_near (Nat.mul_pos (Nat.two_pow_pos _) (Nat.two_pow_pos _))]
  unfold FP.Core.settle FP.Core.bound
  rw [if_pos h2, if_pos hq2]
/-- a whole number below 2^p, times a power -/
theorem fz_r2 {f : FP.Core.Fmt} {s : Bool} {t : Nat} {e : Int} (hp : 1 ≤ f.p) (h0 : 0 < t) (h2 : t < 2 ^ f.p) (hq1 : f.qmin ≤ e - ((f.p - 1 - t.log2 : Nat) : Int)) (hq2 : e ≤ f.qmax) : FP.Core.roundRatio f s t 1 e = .fin s (t * 2 ^ (f.p - 1 - t.log2)) (e - ((f.p - 1 - t.log2 : Nat) : Int)) ∧ 2 ^ (f.p - 1) ≤ t * 2 ^ (f.p - 1 - t.log2) ∧ t * 2 ^ (f.p - 1 - t.log2) < 2 ^ f.p := by
  have hL : t.log2 < f.p := (Nat.log2_lt (by omega)).mpr h2
  have g1 : 2 ^ t.log2 ≤ t := (Nat.le_log2 (by omega)).mp (Nat.le_refl _)
  have g2 : t < 2 ^ (t.log2 + 1) := (Nat.log2_lt (by omega)).mp (Nat.lt_succ_self _)
  have c1 : 2 ^ (f.p - 1) ≤ t * 2 ^ (f.p - 1 - t.log2) := by
    calc 2 ^ (f.p - 1) = 2 ^ t.log2 * 2 ^ (f.p - 1 - t.log2) := by rw [← Nat.pow_add]; congr 1; omega
      _ ≤ _ := Nat.mul_le_mul_right _ g1
  have c2 : t * 2 ^ (f.p - 1 - t.log2) < 2 ^ f.p := by
    calc t * 2 ^ (f.p - 1 - t.log2) < 2 ^ (t.log2 + 1) * 2 ^ (f.p - 1 - t.log2) := Nat.mul_lt_mul_of_pos_right g2 (Nat.two_pow_pos _)
      _ = 2 ^ f.p := by rw [← Nat.pow_add]; congr 1; omega
  refine ⟨?_, c1, c2⟩
  have l3 : FP.Core.leading t 1 = (t.log2 : Int) := by
    unfold FP.Core.leading
    rw [show Nat.log2 1 = 0 by decide]
    dsimp only
    rw [if_pos]
    · simp
    · rw [show ((t.log2 : Int) - ((0 : Nat) : Int)).toNat = t.log2 by omega, show (-((t.log2 : Int) - ((0 : Nat) : Int))).toNat = 0 by omega, Nat.one_mul, Nat.pow_zero, Nat.mul_one]; exact g1
  have l4 : FP.Core.quantum f t 1 e = e - ((f.p - 1 - t.log2 : Nat) : Int) := by
    unfold FP.Core.quantum
    rw [l3]
    omega
  unfold FP.Core.roundRatio
  rw [if_neg (by omega), l4]
  unfold FP.Core.roundAt FP.Core.unitsNum FP.Core.unitsDen
  rw [show (e - (e - ((f.p - 1 - t.log2 : Nat) : Int))).toNat = f.p - 1 - t.log2 by omega, show (e - ((f.p - 1 - t.log2 : Nat) : Int) - e).toNat = 0 by omega, Nat.pow_zero, Nat.mul_one]
  have l6 := fz_near (c := t * 2 ^ (f.p - 1 - t.log2)) (D := 1) (by decide)
  rw [Nat.mul_one] at l6
  rw [l6]
  unfold FP.Core.settle FP.Core.bound
  rw [if_pos c2, if_pos (by omega)]
/-- a quotient of two numbers of p digits each has p digits -/
theorem fz_quo {f : FP.Core.Fmt} {s : Bool} {c d : Nat} {e : Int} (hp : 1 ≤ f.p) (h1 : 2 ^ (f.p - 1) ≤ c) (h2 : c < 2 ^ f.p) (g1 : 2 ^ (f.p - 1) ≤ d) (g2 : d < 2 ^ f.p) (hq1 : f.qmin ≤ e - f.p) (hq2 : e - f.p + 2 ≤ f.qmax) : ∃ c' q', FP.Core.roundRatio f s c d e = .fin s c' q' ∧ 2 ^ (f.p - 1) ≤ c' ∧ c' < 2 ^ f.p ∧ e - f.p ≤ q' ∧ q' ≤ e - f.p + 2 := by
  have hc : 0 < c := Nat.lt_of_lt_of_le (Nat.two_pow_pos _) h1
  have hd : 0 < d := Nat.lt_of_lt_of_le (Nat.two_pow_pos _) g1
  have e2 : 2 ^ f.p = 2 * 2 ^ (f.p - 1) := by
    rw [show f.p = f.p - 1 + 1 by omega, Nat.pow_succ, Nat.mul_comm]; rfl
  have lc : c.log2 = f.p - 1 := fz_log h1 (by rw [show f.p - 1 + 1 = f.p by omega]; exact h2)
  have ld : d.log2 = f.p - 1 := fz_log g1 (by rw [show f.p - 1 + 1 = f.p by omega]; exact g2)
  have fin : ∀ n q, 2 ^ (f.p - 1) ≤ n → n ≤ 2 ^ f.p → e - f.p ≤ q → q ≤ e - f.p + 1 → ∃ c' q', FP.Core.settle f s n q = .fin s c' q' ∧ 2 ^ (f.p - 1) ≤ c' ∧ c' < 2 ^ f.p ∧ e - f.p ≤ q' ∧ q' ≤ e - f.p + 2 := fun n q n1 n2 q1 q2 => by
    unfold FP.Core.settle FP.Core.bound
    by_cases z : n < 2 ^ f.p
    · rw [if_pos z, if_pos (by omega)]; exact ⟨n, q, rfl, n1, z, q1, by omega⟩
    · rw [if_neg z, if_pos (by omega)]; exact ⟨_, _, rfl, Nat.le_refl _, by unfold FP.Core.Fmt.tails; omega, by omega, by omega⟩
  have near : ∀ A B, 0 < B → 2 ^ (f.p - 1) * B ≤ A → A < 2 ^ f.p * B → 2 ^ (f.p - 1) ≤ FP.Core.nearest A B ∧ FP.Core.nearest A B ≤ 2 ^ f.p := fun A B hB a1 a2 => by
    have d1 : 2 ^ (f.p - 1) ≤ A / B := (Nat.le_div_iff_mul_le hB).mpr a1
    have d2 : A / B < 2 ^ f.p := (Nat.div_lt_iff_lt_mul hB).mpr a2
    unfold FP.Core.nearest
    by_cases z : 2 * (A % B) < B
    · rw [if_pos z]; omega
    · rw [if_neg z]
      by_cases z' : B < 2 * (A % B)
      · rw [if_pos z']; omega
      · rw [if_neg z']; omega
  unfold FP.Core.roundRatio
  rw [if_neg (by omega)]
  unfold FP.Core.roundAt FP.Core.unitsNum FP.Core.unitsDen
  by_cases z : d ≤ c
  · have l3 : FP.Core.leading c d = 0 := by
      unfold FP.Core.leading
      rw [lc, ld]
      dsimp only
      rw [Int.sub_self, if_pos (by simpa using z)]
    have l4 : FP.Core.quantum f c d e = e - ((f.p : Int) - 1) := by unfold FP.Core.quantum; rw [l3]; omega
    rw [l4, show (e - (e - ((f.p : Int) - 1))).toNat = f.p - 1 by omega, show (e - ((f.p : Int) - 1) - e).toNat = 0 by omega, Nat.pow_zero, Nat.mul_one]
    have n := near (c * 2 ^ (f.p - 1)) d hd (by rw [Nat.mul_comm]; exact Nat.mul_le_mul_right _ z) (by rw [e2, Nat.mul_comm c, Nat.mul_comm 2, Nat.mul_assoc]; exact Nat.mul_lt_mul_of_pos_left (by omega) (Nat.two_pow_pos _))
    exact fin _ _ n.1 n.2 (by omega) (by omega)
  · have l3 : FP.Core.leading c d = -1 := by
      unfold FP.Core.leading
      rw [lc, ld]
      dsimp only
      rw [Int.sub_self, if_neg (by simpa using z)]
      rfl
    have l4 : FP.Core.quantum f c d e = e - f.p := by unfold FP.Core.quantum; rw [l3]; omega
    rw [l4, show (e - (e - (f.p : Int))).toNat = f.p by omega, show (e - (f.p : Int) - e).toNat = 0 by omega, Nat.pow_zero, Nat.mul_one]
    have n := near (c * 2 ^ f.p) d hd (by rw [e2, Nat.mul_comm c, Nat.mul_comm 2, Nat.mul_assoc]; exact Nat.mul_le_mul_left _ (by omega)) (by rw [Nat.mul_comm c]; exact Nat.mul_lt_mul_of_pos_left (by omega) (Nat.two_pow_pos _))
    exact fin _ _ n.1 n.2 (by omega) (by omega)
/-- a positive number with its leading digit: its exponent and its other digits -/
def Nm (f : FP.Core.Fmt) (e t n : Nat) : Prop := n = (e + 1) * f.tails + t ∧ t < f.tails ∧ e + 2 < f.exps
def Fm (f : FP.Core.Fmt) : Prop := 2 ≤ f.p ∧ f.qmin + f.exps - 3 = f.qmax ∧ f.qmin + f.emax = 2 - f.p ∧ f.emax * 2 + 2 = f.exps ∧ f.p + f.p < f.emax
theorem fm_32 : Fm FP.Core.b32 := by unfold Fm; decide
theorem fm_64 : Fm FP.Core.b64 := by unfold Fm; decide +kernel
theorem fz_t {f : FP.Core.Fmt} : f.tails = 2 ^ (f.p - 1) := rfl
theorem fz_t2 {f : FP.Core.Fmt} (h : 1 ≤ f.p) : 2 ^ f.p = 2 * f.tails := by
  rw [fz_t]
  rw [show f.p = f.p - 1 + 1 by omega, Nat.pow_succ, Nat.mul_comm]; rfl
theorem Nm.dec {f : FP.Core.Fmt} {e t n : Nat} (h : Nm f e t n) : FP.Core.decode f n = .fin false (f.tails + t) (f.qmin + e) := by
  obtain ⟨rfl, ht, he⟩ := h
  have hp : 0 < f.tails := by omega
  have h1 : ((e + 1) * f.tails + t) / f.tails = e + 1 := by
    rw [Nat.add_comm, Nat.add_mul_div_right _ _ hp, Nat.div_eq_of_lt ht, Nat.zero_add]
  have h2 : FP.Core.fieldT f ((e + 1) * f.tails + t) = t := by
    unfold FP.Core.fieldT; rw [Nat.add_comm, Nat.add_mul_mod_self_right, Nat.mod_eq_of_lt ht]
  have h3 : FP.Core.fieldE f ((e + 1) * f.tails + t) = e + 1 := by
    unfold FP.Core.fieldE; rw [h1, Nat.mod_eq_of_lt (by omega)]
  have h4 : FP.Core.fieldS f ((e + 1) * f.tails + t) = false := by
    unfold FP.Core.fieldS; rw [h1, Nat.div_eq_of_lt (by omega)]; rfl
  unfold FP.Core.decode
  rw [h2, h3, h4, if_neg (by omega), if_neg (by omega)]
  congr 1
  omega
theorem Nm.enc {f : FP.Core.Fmt} {c : Nat} {q : Int} (h1 : f.tails ≤ c) (h2 : c < 2 * f.tails) (hq1 : f.qmin ≤ q) (hq2 : q + 2 < f.qmin + f.exps) : Nm f (q - f.qmin).toNat (c - f.tails) (FP.Core.encode f (.fin false c q)) := by
  refine ⟨?_, by omega, by omega⟩
  unfold FP.Core.encode
  dsimp only
  rw [if_neg (by omega)]
  unfold FP.Core.assemble
  simp
theorem fz_div2 {f : FP.Core.Fmt} {e t n w : Nat} (hF : Fm f) (h : Nm f e t n) (hw : Nm f f.emax 0 w) (he : 1 ≤ e) : Nm f (e - 1) t (FP.Core.div f n w) := by
  obtain ⟨f1, f2, f3, f4, f5⟩ := hF
  have e2 := fz_t2 (f := f) (by omega)
  have e3 := fz_t (f := f)
  have q1 := h.2.1
  have q2 := h.2.2
  unfold FP.Core.div
  rw [h.dec, hw.dec]
  unfold FP.Core.quotient
  dsimp only
  rw [if_neg (by omega)]
  have r := fz_rr (f := f) (s := false != false) (c := f.tails + t) (a := 0) (b := f.p - 1) (e := f.qmin + e - (f.qmin + f.emax)) (by omega) (by omega) (by omega) (by omega) (by omega)
  rw [Nat.pow_zero, Nat.mul_one, ← e3] at r
  rw [show f.tails + 0 = f.tails from rfl, r]
  have g := Nm.enc (f := f) (c := f.tails + t) (q := f.qmin + ((e - 1 : Nat) : Int)) (by omega) (by omega) (by omega) (by omega)
  rw [show (f.qmin + ((e - 1 : Nat) : Int) - f.qmin).toNat = e - 1 by omega, show f.tails + t - f.tails = t by omega] at g
  rw [show f.qmin + (e : Int) - (f.qmin + f.emax) + ((0 : Nat) : Int) - ((f.p - 1 : Nat) : Int) = f.qmin + ((e - 1 : Nat) : Int) by omega]
  exact g
theorem fz_prod {f : FP.Core.Fmt} {e t e' n w : Nat} (hF : Fm f) (h : Nm f e t n) (hw : Nm f e' 0 w) (h1 : f.emax ≤ e + e' + 1) (h2 : e + e' + 3 < f.emax + f.exps) : Nm f (e + e' + 1 - f.emax) t (FP.Core.mul f n w) := by
  obtain ⟨f1, f2, f3, f4, f5⟩ := hF
  have e2 := fz_t2 (f := f) (by omega)
  have e3 := fz_t (f := f)
  have q1 := h.2.1
  have q2 := h.2.2
  have q3 := hw.2.2
  unfold FP.Core.mul
  rw [h.dec, hw.dec]
  unfold FP.Core.exactProduct FP.Core.round
  dsimp only
  have r := fz_rr (f := f) (s := false != false) (c := f.tails + t) (a := f.p - 1) (b := 0) (e := f.qmin + e + (f.qmin + e')) (by omega) (by omega) (by omega) (by omega) (by omega)
  rw [Nat.pow_zero, ← e3] at r
  rw [show f.tails + 0 = f.tails from rfl, r]
  have g := Nm.enc (f := f) (c := f.tails + t) (q := f.qmin + ((e + e' + 1 - f.emax : Nat) : Int)) (by omega) (by omega) (by omega) (by omega)
  rw [show (f.qmin + ((e + e' + 1 - f.emax : Nat) : Int) - f.qmin).toNat = e + e' + 1 - f.emax by omega, show f.tails + t - f.tails = t by omega] at g
  rw [show f.qmin + (e : Int) + (f.qmin + e') + ((f.p - 1 : Nat) : Int) - ((0 : Nat) : Int) = f.qmin + ((e + e' + 1 - f.emax : Nat) : Int) by omega]
  exact g
theorem fz_cmp {f : FP.Core.Fmt} {e t e' t' n w : Nat} (h : Nm f e t n) (hw : Nm f e' t' w) : (e < e' → FP.Core.cmp f n w = some .lt) ∧ (e' < e → FP.Core.cmp f n w = some .gt) ∧ (e = e' → t = t' → FP.Core.cmp f n w = some .eq) ∧ (e = e' → t' < t → FP.Core.cmp f n w = some .gt) := by
  have q1 := h.2.1
  have q2 := hw.2.1
  have key : FP.Core.cmp f n w = some (compareOfLessAndEq (FP.Core.signed false (FP.Core.inUnits (f.tails + t) (f.qmin + e) (min (f.qmin + e) (f.qmin + e')))) (FP.Core.signed false (FP.Core.inUnits (f.tails + t') (f.qmin + e') (min (f.qmin + e) (f.qmin + e'))))) := by
    unfold FP.Core.cmp
    rw [h.dec, hw.dec]
    rfl
  rw [key]
  unfold FP.Core.signed FP.Core.inUnits
  have dbl : ∀ k : Nat, 1 ≤ k → 2 ≤ 2 ^ k := fun k hk => by
    calc 2 = 2 ^ 1 := rfl
      _ ≤ 2 ^ k := Nat.pow_le_pow_right (by decide) hk
  refine ⟨fun z => ?_, fun z => ?_, fun z y => ?_, fun z y => ?_⟩
  · rw [show (f.qmin + (e : Int) - min (f.qmin + e) (f.qmin + e')).toNat = 0 by omega, show (f.qmin + (e' : Int) - min (f.qmin + e) (f.qmin + e')).toNat = e' - e by omega]
    have d := Nat.mul_le_mul_left (f.tails + t') (dbl (e' - e) (by omega))
    unfold compareOfLessAndEq
    rw [if_pos (by simp only [Bool.false_eq_true, if_false, Nat.pow_zero, Nat.mul_one]; omega)]
  · rw [show (f.qmin + (e : Int) - min (f.qmin + e) (f.qmin + e')).toNat = e - e' by omega, show (f.qmin + (e' : Int) - min (f.qmin + e) (f.qmin + e')).toNat = 0 by omega]
    have d := Nat.mul_le_mul_left (f.tails + t) (dbl (e - e') (by omega))
    unfold compareOfLessAndEq
    rw [if_neg (by simp only [Bool.false_eq_true, if_false, Nat.pow_zero, Nat.mul_one]; omega), if_neg (by simp only [Bool.false_eq_true, if_false, Nat.pow_zero, Nat.mul_one]; omega)]
  · subst z y
    unfold compareOfLessAndEq
    rw [if_neg (by omega), if_pos rfl]
  · subst z
    rw [show (f.qmin + (e : Int) - min (f.qmin + e) (f.qmin + e)).toNat = 0 by omega]
    unfold compareOfLessAndEq
    rw [if_neg (by simp only [Bool.false_eq_true, if_false, Nat.pow_zero, Nat.mul_one]; omega), if_neg (by simp only [Bool.false_eq_true, if_false, Nat.pow_zero, Nat.mul_one]; omega)]
theorem fz_cmp0 {f : FP.Core.Fmt} {e t n : Nat} (h : Nm f e t n) (h0 : FP.Core.decode f 0 = .fin false 0 f.qmin) : FP.Core.cmp f n 0 = some .gt := by
  have q1 := h.2.1
  have key : FP.Core.cmp f n 0 = some (compareOfLessAndEq (FP.Core.signed false (FP.Core.inUnits (f.tails + t) (f.qmin + e) (min (f.qmin + e) f.qmin))) (FP.Core.signed false (FP.Core.inUnits 0 f.qmin (min (f.qmin + e) f.qmin)))) := by
    unfold FP.Core.cmp
    rw [h.dec, h0]
    rfl
  rw [key]
  unfold FP.Core.signed FP.Core.inUnits
  have d := Nat.mul_pos (show 0 < f.tails + t by omega) (Nat.two_pow_pos (f.qmin + e - min (f.qmin + e) f.qmin).toNat)
  unfold compareOfLessAndEq
  rw [if_neg (by simp only [Bool.false_eq_true, if_false, Nat.zero_mul]; omega), if_neg (by simp only [Bool.false_eq_true, if_false, Nat.zero_mul]; omega)]
/-- what lies over 1 -/
theorem fz_sub1 {f : FP.Core.Fmt} {t n w : Nat} (hF : Fm f) (h : Nm f (f.emax - 1) t n) (hw : Nm f (f.emax - 1) 0 w) : (t = 0 → FP.Core.sub f n w = FP.Core.encode f (.fin false 0 f.qmin)) ∧ (0 < t → Nm f (f.emax + t.log2 - f.p) (t * 2 ^ (f.p - 1 - t.log2) - f.tails) (FP.Core.sub f n w) ∧ f.tails ≤ t * 2 ^ (f.p - 1 - t.log2)) := by
  obtain ⟨f1, f2, f3, f4, f5⟩ := hF
  have e2 := fz_t2 (f := f) (by omega)
  have e3 := fz_t (f := f)
  have q1 := h.2.1
  have key : FP.Core.sub f n w = FP.Core.encode f (FP.Core.round f (.fin false t (f.qmin + ((f.emax - 1 : Nat) : Int)))) := by
    unfold FP.Core.sub
    rw [h.dec, hw.dec]
    unfold FP.Core.negate FP.Core.exactSum
    dsimp only
    have v : FP.Core.sumUnits false (f.tails + t) (f.qmin + ((f.emax - 1 : Nat) : Int)) (!false) (f.tails + 0) (f.qmin + ((f.emax - 1 : Nat) : Int)) (min (f.qmin + ((f.emax - 1 : Nat) : Int)) (f.qmin + ((f.emax - 1 : Nat) : Int))) = (t : Int) := by
      unfold FP.Core.sumUnits FP.Core.signed FP.Core.inUnits
      rw [Int.min_self, Int.sub_self]
      simp only [Bool.not_false, Bool.false_eq_true, if_false, if_true, Int.toNat_zero, Nat.pow_zero, Nat.mul_one]
      omega
    rw [v, Int.min_self]
    have w1 : FP.Core.sumSign false (!false) (t : Int) = false := by
      unfold FP.Core.sumSign
      by_cases z : (t : Int) = 0
      · rw [if_pos z]; rfl
      · rw [if_neg z]; exact decide_eq_false (by omega)
    rw [w1, Int.natAbs_natCast]
  rw [key]
  unfold FP.Core.round
  dsimp only
  refine ⟨fun z => ?_, fun z => ?_⟩
  · unfold FP.Core.roundRatio; rw [if_pos z]
  · have hL : t.log2 < f.p - 1 := (Nat.log2_lt (by omega)).mpr (by omega)
    obtain ⟨r1, r2, r3⟩ := fz_r2 (f := f) (s := false) (t := t) (e := f.qmin + ((f.emax - 1 : Nat) : Int)) (by omega) z (by omega) (by omega) (by omega)
    rw [r1]
    have g := Nm.enc (f := f) (c := t * 2 ^ (f.p - 1 - t.log2)) (q := f.qmin + ((f.emax - 1 : Nat) : Int) - ((f.p - 1 - t.log2 : Nat) : Int)) (by omega) (by omega) (by omega) (by omega)
    rw [show (f.qmin + ((f.emax - 1 : Nat) : Int) - ((f.p - 1 - t.log2 : Nat) : Int) - f.qmin).toNat = f.emax + t.log2 - f.p by omega] at g
    exact ⟨g, by omega⟩
/-- .. is read as a whole number -/
theorem fz_whole {f : FP.Core.Fmt} {t n w : Nat} {lo hi : Int} (hF : Fm f) (h0 : 0 < t) (ht : t < f.tails) (h : Nm f (f.emax + t.log2 - f.p) (t * 2 ^ (f.p - 1 - t.log2) - f.tails) n) (hc : f.tails ≤ t * 2 ^ (f.p - 1 - t.log2)) (hw : Nm f (f.emax + f.p - 2) 0 w) (hlo : lo ≤ 0) (hhi : (t : Int) ≤ hi) : (∃ e' t', Nm f e' t' (FP.Core.mul f n w)) ∧ FP.Core.toInt lo hi (FP.Core.decode f (FP.Core.mul f n w)) = t := by
  have hF' := hF
  obtain ⟨f1, f2, f3, f4, f5⟩ := hF
  have e3 := fz_t (f := f)
  have hL : t.log2 < f.p - 1 := (Nat.log2_lt (by omega)).mpr (by omega)
  have g := fz_prod hF' h hw (by omega) (by omega)
  refine ⟨⟨_, _, g⟩, ?_⟩
  rw [g.dec]
  unfold FP.Core.toInt FP.Core.truncate FP.Core.signed
  dsimp only
  rw [show (f.qmin + ((f.emax + t.log2 - f.p + (f.emax + f.p - 2) + 1 - f.emax : Nat) : Int)).toNat = 0 by omega, show (-(f.qmin + ((f.emax + t.log2 - f.p + (f.emax + f.p - 2) + 1 - f.emax : Nat) : Int))).toNat = f.p - 1 - t.log2 by omega, Nat.pow_zero, Nat.mul_one, show f.tails + (t * 2 ^ (f.p - 1 - t.log2) - f.tails) = t * 2 ^ (f.p - 1 - t.log2) by omega, Nat.mul_div_cancel _ (Nat.two_pow_pos _)]
  simp only [Bool.false_eq_true, if_false]
  omega
/-- a whole number, and the quotient of two -/
theorem fz_int {f : FP.Core.Fmt} {s : Nat} (hF : Fm f) (h0 : 0 < s) (h2 : s < 2 ^ f.p) : ∃ t, Nm f (f.emax + s.log2 - 1) t (FP.Core.fromInt f s) := by
  obtain ⟨f1, f2, f3, f4, f5⟩ := hF
  have e2 := fz_t2 (f := f) (by omega)
  have e3 := fz_t (f := f)
  have hL : s.log2 < f.p := (Nat.log2_lt (by omega)).mpr h2
  unfold FP.Core.fromInt FP.Core.ofInt FP.Core.round
  dsimp only
  rw [show decide ((s : Int) < 0) = false from decide_eq_false (by omega), Int.natAbs_natCast]
  obtain ⟨r1, r2, r3⟩ := fz_r2 (f := f) (s := false) (t := s) (e := 0) (by omega) h0 (by omega) (by omega) (by omega)
  rw [r1]
  have g := Nm.enc (f := f) (c := s * 2 ^ (f.p - 1 - s.log2)) (q := 0 - ((f.p - 1 - s.log2 : Nat) : Int)) (by omega) (by omega) (by omega) (by omega)
  rw [show (0 - ((f.p - 1 - s.log2 : Nat) : Int) - f.qmin).toNat = f.emax + s.log2 - 1 by omega] at g
  exact ⟨_, g⟩
theorem fz_ratio {f : FP.Core.Fmt} {e t e' t' n w : Nat} (hF : Fm f) (h : Nm f e t n) (hw : Nm f e' t' w) (h1 : e' + 2 ≤ e + f.emax) (h2 : e + f.emax + 3 ≤ e' + f.exps) : ∃ e1 t1, Nm f e1 t1 (FP.Core.div f n w) ∧ e + f.emax ≤ e1 + e' + 2 ∧ e1 + e' ≤ e + f.emax + 2 := by
  obtain ⟨f1, f2, f3, f4, f5⟩ := hF
  have e2 := fz_t2 (f := f) (by omega)
  have e3 := fz_t (f := f)
  have q1 := h.2.1
  have q2 := hw.2.1
  unfold FP.Core.div
  rw [h.dec, hw.dec]
  unfold FP.Core.quotient
  dsimp only
  rw [if_neg (by omega)]
  obtain ⟨c', q', r1, r2, r3, r4, r5⟩ := fz_quo (f := f) (s := false != false) (c := f.tails + t) (d := f.tails + t') (e := f.qmin + e - (f.qmin + e')) (by omega) (by omega) (by omega) (by omega) (by omega) (by omega) (by omega)
  rw [r1]
  have g := Nm.enc (f := f) (c := c') (q := q') (by omega) (by omega) (by omega) (by omega)
  exact ⟨_, _, g, by omega, by omega⟩
theorem fz_zero {f : FP.Core.Fmt} {e t w : Nat} (h0 : FP.Core.decode f 0 = .fin false 0 f.qmin) (hw : Nm f e t w) : FP.Core.div f 0 w = FP.Core.encode f (.fin false 0 f.qmin) := by
  have q := hw.2.1
  unfold FP.Core.div
  rw [h0, hw.dec]
  unfold FP.Core.quotient
  dsimp only
  rw [if_neg (by omega)]
  unfold FP.Core.roundRatio
  rw [if_pos rfl]
  rfl
theorem n32 {e t n : Nat} (h : Nm FP.Core.b32 e t n) : (UInt32.ofNat n).toNat = n ∧ n < 2139095040 ∧ n = (e + 1) * 8388608 + t ∧ t < 8388608 ∧ e < 254 := by
  obtain ⟨h1, h2, h3⟩ := h
  have a : FP.Core.b32.tails = 8388608 := by decide
  have b : FP.Core.b32.exps = 256 := by decide
  rw [a] at h1 h2
  rw [b] at h3
  have l : n < 2139095040 := by omega
  exact ⟨by rw [UInt32.toNat_ofNat']; omega, l, h1, h2, by omega⟩
theorem n64 {e t n : Nat} (h : Nm FP.Core.b64 e t n) : (UInt64.ofNat n).toNat = n ∧ n < 9218868437227405312 ∧ n = (e + 1) * 4503599627370496 + t ∧ t < 4503599627370496 ∧ e < 2046 := by
  obtain ⟨h1, h2, h3⟩ := h
  have a : FP.Core.b64.tails = 4503599627370496 := by decide
  have b : FP.Core.b64.exps = 2048 := by decide
  rw [a] at h1 h2
  rw [b] at h3
  have l : n < 9218868437227405312 := by omega
  exact ⟨by rw [UInt64.toNat_ofNat']; omega, l, h1, h2, by omega⟩
theorem vf32 {x : UInt32} (h : x.toNat < 2139095040) : x &&& 0x7fffffff ≤ 0x7f800000 := by
  rw [UInt32.le_iff_toNat_le, UInt32.toNat_and]
  exact Nat.le_trans Nat.and_le_left (Nat.le_of_lt h)
theorem vf64 {x : UInt64} (h : x.toNat < 9218868437227405312) : x &&& 0x7fffffffffffffff ≤ 0x7ff0000000000000 := by
  rw [UInt64.le_iff_toNat_le, UInt64.toNat_and]
  exact Nat.le_trans Nat.and_le_left (Nat.le_of_lt h)
theorem c32_0 : FP.Core.decode FP.Core.b32 0 = .fin false 0 FP.Core.b32.qmin := by decide
theorem c64_0 : FP.Core.decode FP.Core.b64 0 = .fin false 0 FP.Core.b64.qmin := by decide +kernel
theorem c32_1 : Nm FP.Core.b32 (FP.Core.b32.emax - 1) 0 FP.fconst1.toNat := by unfold Nm; decide
theorem c32_2 : Nm FP.Core.b32 FP.Core.b32.emax 0 FP.fconst2.toNat := by unfold Nm; decide
theorem c32_s : Nm FP.Core.b32 (FP.Core.b32.emax + FP.Core.b32.p - 2) 0 (1258291200 : UInt32).toNat := by unfold Nm; decide
theorem c64_1 : Nm FP.Core.b64 (FP.Core.b64.emax - 1) 0 FP.dconst1.toNat := by unfold Nm; decide +kernel
theorem c64_2 : Nm FP.Core.b64 FP.Core.b64.emax 0 (4611686018427387904 : UInt64).toNat := by unfold Nm; decide +kernel
theorem c64_s : Nm FP.Core.b64 (FP.Core.b64.emax + FP.Core.b64.p - 2) 0 (4841369599423283200 : UInt64).toNat := by unfold Nm; decide +kernel
/-- a whole number as a float, as a double -/
theorem i32_f {s : Int} (h0 : 0 < s) (h1 : s < 16777216) : ∃ t, Nm FP.Core.b32 (126 + s.toNat.log2) t (FP.i2f (Int32.ofInt s)).toNat ∧ s.toNat.log2 < 24 := by
  obtain ⟨n, rfl⟩ : ∃ n : Nat, s = n := ⟨s.toNat, by omega⟩
  obtain ⟨t, g⟩ := fz_int (f := FP.Core.b32) (s := n) fm_32 (by omega) (by show n < 2 ^ 24; omega)
  have e : (FP.i2f (Int32.ofInt (n : Int))).toNat = FP.Core.fromInt FP.Core.b32 n := by
    show (UInt32.ofNat (FP.Core.fromInt FP.Core.b32 (Int32.ofInt (n : Int)).toInt)).toNat = _
    rw [Int32.toInt_ofInt_of_le (by omega) (by omega)]
    exact (n32 g).1
  refine ⟨t, ?_, ?_⟩
  · rw [e, Int.toNat_natCast]
    have : FP.Core.b32.emax + n.log2 - 1 = 126 + n.log2 := by rw [show FP.Core.b32.emax = 127 by decide]; omega
    rw [← this]; exact g
  · rw [Int.toNat_natCast]; exact (Nat.log2_lt (by omega)).mpr (by omega)
theorem i64_f {s : Int} (h0 : 0 < s) (h1 : s < 16777216) : ∃ t, Nm FP.Core.b64 (1022 + s.toNat.log2) t (FP.i2d (Int32.ofInt s)).toNat ∧ s.toNat.log2 < 24 := by
  obtain ⟨n, rfl⟩ : ∃ n : Nat, s = n := ⟨s.toNat, by omega⟩
  obtain ⟨t, g⟩ := fz_int (f := FP.Core.b64) (s := n) fm_64 (by omega) (by show n < 2 ^ 53; omega)
  have e : (FP.i2d (Int32.ofInt (n : Int))).toNat = FP.Core.fromInt FP.Core.b64 n := by
    show (UInt64.ofNat (FP.Core.fromInt FP.Core.b64 (Int32.ofInt (n : Int)).toInt)).toNat = _
    rw [Int32.toInt_ofInt_of_le (by omega) (by omega)]
    exact (n64 g).1
  refine ⟨t, ?_, ?_⟩
  · rw [e, Int.toNat_natCast]
    have : FP.Core.b64.emax + n.log2 - 1 = 1022 + n.log2 := by rw [show FP.Core.b64.emax = 1023 by decide]; omega
    rw [← this]; exact g
  · rw [Int.toNat_natCast]; exact (Nat.log2_lt (by omega)).mpr (by omega)
theorem q32 {s c : Int} (h0 : 0 ≤ s) (h1 : s < 16777216) (h2 : 0 < c) (h3 : c < 16777216) : FP.fdiv (FP.i2f (Int32.ofInt s)) (FP.i2f (Int32.ofInt c)) = 0 ∨ ∃ e t, Nm FP.Core.b32 e t (FP.fdiv (FP.i2f (Int32.ofInt s)) (FP.i2f (Int32.ofInt c))).toNat := by
  obtain ⟨t', g', l'⟩ := i32_f h2 h3
  by_cases z : s = 0
  · refine Or.inl ?_
    subst z
    have e0 : (FP.i2f (Int32.ofInt 0)).toNat = 0 := by decide +kernel
    show UInt32.ofNat (FP.Core.div FP.Core.b32 (FP.i2f (Int32.ofInt 0)).toNat (FP.i2f (Int32.ofInt c)).toNat) = 0
    rw [e0, fz_zero c32_0 g']
    decide +kernel
  · obtain ⟨t, g, l⟩ := i32_f (s := s) (by omega) h1
    obtain ⟨e1, t1, r, _, _⟩ := fz_ratio fm_32 g g' (by rw [show FP.Core.b32.emax = 127 by decide]; omega) (by rw [show FP.Core.b32.emax = 127 by decide, show FP.Core.b32.exps = 256 by decide]; omega)
    refine Or.inr ⟨e1, t1, ?_⟩
    show Nm FP.Core.b32 e1 t1 (UInt32.ofNat (FP.Core.div FP.Core.b32 (FP.i2f (Int32.ofInt s)).toNat (FP.i2f (Int32.ofInt c)).toNat)).toNat
    rw [(n32 r).1]; exact r
theorem q64 {s c : Int} (h0 : 0 ≤ s) (h1 : s < 16777216) (h2 : 0 < c) (h3 : c < 16777216) : FP.ddiv (FP.i2d (Int32.ofInt s)) (FP.i2d (Int32.ofInt c)) = 0 ∨ ∃ e t, Nm FP.Core.b64 e t (FP.ddiv (FP.i2d (Int32.ofInt s)) (FP.i2d (Int32.ofInt c))).toNat := by
  obtain ⟨t', g', l'⟩ := i64_f h2 h3
  by_cases z : s = 0
  · refine Or.inl ?_
    subst z
    have e0 : (FP.i2d (Int32.ofInt 0)).toNat = 0 := by decide +kernel
    show UInt64.ofNat (FP.Core.div FP.Core.b64 (FP.i2d (Int32.ofInt 0)).toNat (FP.i2d (Int32.ofInt c)).toNat) = 0
    rw [e0, fz_zero c64_0 g']
    decide +kernel
  · obtain ⟨t, g, l⟩ := i64_f (s := s) (by omega) h1
    obtain ⟨e1, t1, r, _, _⟩ := fz_ratio fm_64 g g' (by rw [show FP.Core.b64.emax = 1023 by decide]; omega) (by rw [show FP.Core.b64.emax = 1023 by decide, show FP.Core.b64.exps = 2048 by decide]; omega)
    refine Or.inr ⟨e1, t1, ?_⟩
    show Nm FP.Core.b64 e1 t1 (UInt64.ofNat (FP.Core.div FP.Core.b64 (FP.i2d (Int32.ofInt s)).toNat (FP.i2d (Int32.ofInt c)).toNat)).toNat
    rw [(n64 r).1]; exact r
/-- halving, doubling, and what lies over 1 -/
theorem h32 {x : UInt32} {e t : Nat} (h : Nm FP.Core.b32 e t x.toNat) : (1 ≤ e → Nm FP.Core.b32 (e - 1) t (FP.fdiv x FP.fconst2).toNat) ∧ (e < 253 → Nm FP.Core.b32 (e + 1) t (FP.fmul x FP.fconst2).toNat) := by
  refine ⟨fun q => ?_, fun q => ?_⟩
  · have r := fz_div2 fm_32 h c32_2 q
    show Nm FP.Core.b32 (e - 1) t (UInt32.ofNat (FP.Core.div FP.Core.b32 x.toNat FP.fconst2.toNat)).toNat
    rw [(n32 r).1]; exact r
  · have r := fz_prod fm_32 h c32_2 (by omega) (by rw [show FP.Core.b32.emax = 127 by decide, show FP.Core.b32.exps = 256 by decide]; omega)
    rw [show e + FP.Core.b32.emax + 1 - FP.Core.b32.emax = e + 1 by omega] at r
    show Nm FP.Core.b32 (e + 1) t (UInt32.ofNat (FP.Core.mul FP.Core.b32 x.toNat FP.fconst2.toNat)).toNat
    rw [(n32 r).1]; exact r
theorem h64 {x : UInt64} {e t : Nat} (h : Nm FP.Core.b64 e t x.toNat) : (1 ≤ e → Nm FP.Core.b64 (e - 1) t (FP.ddiv x 4611686018427387904).toNat) ∧ (e < 2045 → Nm FP.Core.b64 (e + 1) t (FP.dmul x 4611686018427387904).toNat) := by
  refine ⟨fun q => ?_, fun q => ?_⟩
  · have r := fz_div2 fm_64 h c64_2 q
    show Nm FP.Core.b64 (e - 1) t (UInt64.ofNat (FP.Core.div FP.Core.b64 x.toNat (4611686018427387904 : UInt64).toNat)).toNat
    rw [(n64 r).1]; exact r
  · have r := fz_prod fm_64 h c64_2 (by omega) (by rw [show FP.Core.b64.emax = 1023 by decide, show FP.Core.b64.exps = 2048 by decide]; omega)
    rw [show e + FP.Core.b64.emax + 1 - FP.Core.b64.emax = e + 1 by omega] at r
    show Nm FP.Core.b64 (e + 1) t (UInt64.ofNat (FP.Core.mul FP.Core.b64 x.toNat (4611686018427387904 : UInt64).toNat)).toNat
    rw [(n64 r).1]; exact r
theorem k32 {x : UInt32} {t : Nat} (h : Nm FP.Core.b32 126 t x.toNat) : (FP.fsub x FP.fconst1).toNat < 2139095040 ∧ (FP.fmul (FP.fsub x FP.fconst1) 1258291200).toNat < 2139095040 ∧ (FP.f2i (FP.fmul (FP.fsub x FP.fconst1) 1258291200)).toInt = t := by
  have g := n32 h
  obtain ⟨r0, r1⟩ := fz_sub1 fm_32 (t := t) h c32_1
  by_cases z : t = 0
  · have e : FP.fsub x FP.fconst1 = 0 := by
      show UInt32.ofNat (FP.Core.sub FP.Core.b32 x.toNat FP.fconst1.toNat) = 0
      rw [r0 z]; decide +kernel
    rw [e, z]
    decide +kernel
  · obtain ⟨r2, r3⟩ := r1 (by omega)
    have e : (FP.fsub x FP.fconst1).toNat = FP.Core.sub FP.Core.b32 x.toNat FP.fconst1.toNat := (n32 r2).1
    obtain ⟨⟨e', t', r4⟩, r5⟩ := fz_whole (lo := -2 ^ 31) (hi := 2 ^ 31 - 1) fm_32 (by omega) (by rw [show FP.Core.b32.tails = 8388608 by decide]; omega) r2 r3 c32_s (by omega) (by omega)
    rw [← e] at r4 r5
    have e2 : (FP.fmul (FP.fsub x FP.fconst1) 1258291200).toNat = FP.Core.mul FP.Core.b32 (FP.fsub x FP.fconst1).toNat (1258291200 : UInt32).toNat := (n32 r4).1
    refine ⟨by rw [e]; exact (n32 r2).2.1, by rw [e2]; exact (n32 r4).2.1, ?_⟩
    show (Int32.ofInt (FP.Core.toInt (-2 ^ 31) (2 ^ 31 - 1) (FP.Core.decode FP.Core.b32 (FP.fmul (FP.fsub x FP.fconst1) 1258291200).toNat))).toInt = t
    rw [e2, r5]
    exact Int32.toInt_ofInt_of_le (by omega) (by omega)
theorem k64 {x : UInt64} {t : Nat} (h : Nm FP.Core.b64 1022 t x.toNat) : (FP.dsub x FP.dconst1).toNat < 9218868437227405312 ∧ (FP.dmul (FP.dsub x FP.dconst1) 4841369599423283200).toNat < 9218868437227405312 ∧ FP.d2l (FP.dmul (FP.dsub x FP.dconst1) 4841369599423283200) = Int64.ofInt t := by
  have g := n64 h
  obtain ⟨r0, r1⟩ := fz_sub1 fm_64 (t := t) h c64_1
  by_cases z : t = 0
  · have e : FP.dsub x FP.dconst1 = 0 := by
      show UInt64.ofNat (FP.Core.sub FP.Core.b64 x.toNat FP.dconst1.toNat) = 0
      rw [r0 z]; decide +kernel
    rw [e, z]
    decide +kernel
  · obtain ⟨r2, r3⟩ := r1 (by omega)
    have e : (FP.dsub x FP.dconst1).toNat = FP.Core.sub FP.Core.b64 x.toNat FP.dconst1.toNat := (n64 r2).1
    obtain ⟨⟨e', t', r4⟩, r5⟩ := fz_whole (lo := -2 ^ 63) (hi := 2 ^ 63 - 1) fm_64 (by omega) (by rw [show FP.Core.b64.tails = 4503599627370496 by decide]; omega) r2 r3 c64_s (by omega) (by omega)
    rw [← e] at r4 r5
    have e2 : (FP.dmul (FP.dsub x FP.dconst1) 4841369599423283200).toNat = FP.Core.mul FP.Core.b64 (FP.dsub x FP.dconst1).toNat (4841369599423283200 : UInt64).toNat := (n64 r4).1
    refine ⟨by rw [e]; exact (n64 r2).2.1, by rw [e2]; exact (n64 r4).2.1, ?_⟩
    show Int64.ofInt (FP.Core.toInt (-2 ^ 63) (2 ^ 63 - 1) (FP.Core.decode FP.Core.b64 (FP.dmul (FP.dsub x FP.dconst1) 4841369599423283200).toNat)) = _
    rw [e2, r5]
/-- the bits, put together -/
theorem b32_bits {x : UInt32} {e t : Nat} (h : Nm FP.Core.b32 e t x.toNat) : (Int32.ofInt ((Int32.ofInt ((e : Int) + 1) <<< (Int32.ofInt 23 &&& 31)).toInt) ||| Int32.ofInt (t : Int)).toInt = x.toInt32.toInt := by
  obtain ⟨_, _, g1, g2, g3⟩ := n32 h
  congr 1
  rw [Int32.ofInt_toInt]
  apply Int32.toBitVec_inj.mp
  apply BitVec.eq_of_toNat_eq
  rw [show (Int32.ofInt 23 &&& 31) = 23 by decide]
  rw [Int32.toBitVec_or, Int32.toBitVec_shiftLeft, BitVec.toNat_or]
  rw [show (x.toInt32.toBitVec).toNat = x.toNat from rfl, g1]
  have s1 : (Int32.ofInt ((e : Int) + 1)).toBitVec = BitVec.ofNat 32 (e + 1) := by
    rw [show ((e : Int) + 1) = ((e + 1 : Nat) : Int) by omega]; rfl
  have s2 : (Int32.ofInt (t : Int)).toBitVec = BitVec.ofNat 32 t := rfl
  rw [s1, s2]
  have s3 : BitVec.ofNat 32 (e + 1) <<< ((23 : Int32).toBitVec.smod 32) = BitVec.ofNat 32 ((e + 1) * 8388608) := by
    apply BitVec.eq_of_toNat_eq
    rw [show ((23 : Int32).toBitVec.smod 32) = 23#32 by decide]
    rw [BitVec.shiftLeft_eq', BitVec.toNat_shiftLeft, BitVec.toNat_ofNat, BitVec.toNat_ofNat, BitVec.toNat_ofNat, Nat.shiftLeft_eq, show 23 % 2 ^ 32 = 23 by decide, show 2 ^ 23 = 8388608 by decide, Nat.mod_eq_of_lt (a := e + 1) (by omega)]
  rw [s3, BitVec.toNat_ofNat, BitVec.toNat_ofNat, Nat.mod_eq_of_lt (by omega), Nat.mod_eq_of_lt (by omega)]
  have := Nat.shiftLeft_add_eq_or_of_lt (i := 23) (b := t) (by omega) (e + 1)
  rw [Nat.shiftLeft_eq, show 2 ^ 23 = 8388608 by decide] at this
  exact this.symm
theorem b64_bits {x : UInt64} {e t : Nat} (h : Nm FP.Core.b64 e t x.toNat) : ((Int64.ofInt ((e : Int) + 1)) <<< ((Int32.ofInt 52).toInt64 &&& 63)) ||| Int64.ofInt (t : Int) = x.toInt64 := by
  obtain ⟨_, _, g1, g2, g3⟩ := n64 h
  apply Int64.toBitVec_inj.mp
  apply BitVec.eq_of_toNat_eq
  rw [show ((Int32.ofInt 52).toInt64 &&& 63) = 52 by decide]
  rw [Int64.toBitVec_or, Int64.toBitVec_shiftLeft, BitVec.toNat_or]
  rw [show (x.toInt64.toBitVec).toNat = x.toNat from rfl, g1]
  have s1 : (Int64.ofInt ((e : Int) + 1)).toBitVec = BitVec.ofNat 64 (e + 1) := by
    rw [show ((e : Int) + 1) = ((e + 1 : Nat) : Int) by omega]; rfl
  have s2 : (Int64.ofInt (t : Int)).toBitVec = BitVec.ofNat 64 t := rfl
  rw [s1, s2]
  have s3 : BitVec.ofNat 64 (e + 1) <<< ((52 : Int64).toBitVec.smod 64) = BitVec.ofNat 64 ((e + 1) * 4503599627370496) := by
    apply BitVec.eq_of_toNat_eq
    rw [show ((52 : Int64).toBitVec.smod 64) = 52#64 by decide]
    rw [BitVec.shiftLeft_eq', BitVec.toNat_shiftLeft, BitVec.toNat_ofNat, BitVec.toNat_ofNat, BitVec.toNat_ofNat, Nat.shiftLeft_eq, show 52 % 2 ^ 64 = 52 by decide, show 2 ^ 52 = 4503599627370496 by decide, Nat.mod_eq_of_lt (a := e + 1) (by omega)]
  rw [s3, BitVec.toNat_ofNat, BitVec.toNat_ofNat, Nat.mod_eq_of_lt (by omega), Nat.mod_eq_of_lt (by omega)]
  have := Nat.shiftLeft_add_eq_or_of_lt (i := 52) (b := t) (by omega) (e + 1)
  rw [Nat.shiftLeft_eq, show 2 ^ 52 = 4503599627370496 by decide] at this
  exact this.symm
