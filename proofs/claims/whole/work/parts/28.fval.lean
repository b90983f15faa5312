/-- a weight by the bytes -/
def fval (w k : Int) : Int := (FP.f2i (FP.fdiv (FP.fmul (FP.i2f (Int32.ofInt w)) 1120403456) (FP.i2f (Int32.ofInt k)))).toInt
def fvB (w k : Nat) : Bool := decide (FP.fmul (FP.i2f (Int32.ofInt w)) 1120403456 &&& 0x7fffffff ≤ 0x7f800000) && (decide (FP.fdiv (FP.fmul (FP.i2f (Int32.ofInt w)) 1120403456) (FP.i2f (Int32.ofInt k)) &&& 0x7fffffff ≤ 0x7f800000) && (decide (0 ≤ fval w k) && decide (fval w k ≤ 9900)))
def fvR (w : Nat) : Nat → Bool
  | 0 => true
  | k + 1 => fvB w (k + 1) && fvR w k
theorem fvR_at {w : Nat} : ∀ n : Nat, fvR w n = true → ∀ k, 1 ≤ k → k ≤ n → fvB w k = true := by
  intro n
  induction n with
  | zero => intro _ k h0 h1; omega
  | succ n ih =>
    intro h k h0 h1
    have h' : (fvB w (n + 1) && fvR w n) = true := h
    rw [Bool.and_eq_true] at h'
    by_cases q : k = n + 1
    · rw [q]; exact h'.1
    · exact ih h'.2 k h0 (by omega)
def fvW (a : Nat) : Nat → Bool
  | 0 => true
  | n + 1 => fvR (a + n) 200 && fvW a n
theorem fvW_at {a : Nat} : ∀ n : Nat, fvW a n = true → ∀ w, a ≤ w → w < a + n → fvR w 200 = true := by
  intro n
  induction n with
  | zero => intro _ w h0 h1; omega
  | succ n ih =>
    intro h w h0 h1
    have h' : (fvR (a + n) 200 && fvW a n) = true := h
    rw [Bool.and_eq_true] at h'
    by_cases q : w = a + n
    · rw [q]; exact h'.1
    · exact ih h'.2 w h0 (by omega)
theorem fv_1 : fvW 1 9 = true := by decide +kernel
theorem fv_10 : fvW 10 9 = true := by decide +kernel
theorem fv_19 : fvW 19 9 = true := by decide +kernel
theorem fv_28 : fvW 28 9 = true := by decide +kernel
theorem fv_37 : fvW 37 9 = true := by decide +kernel
theorem fv_46 : fvW 46 9 = true := by decide +kernel
theorem fv_55 : fvW 55 9 = true := by decide +kernel
theorem fv_64 : fvW 64 9 = true := by decide +kernel
theorem fv_73 : fvW 73 9 = true := by decide +kernel
theorem fv_82 : fvW 82 9 = true := by decide +kernel
theorem fv_91 : fvW 91 9 = true := by decide +kernel
theorem fv_all {w k : Nat} (hw : 1 ≤ w ∧ w ≤ 99) (hk : 1 ≤ k ∧ k ≤ 200) : fvB w k = true := by
  refine fvR_at 200 ?_ k hk.1 hk.2
  by_cases q1 : w < 10
  · exact fvW_at 9 fv_1 w (by omega) (by omega)
  by_cases q10 : w < 19
  · exact fvW_at 9 fv_10 w (by omega) (by omega)
  by_cases q19 : w < 28
  · exact fvW_at 9 fv_19 w (by omega) (by omega)
  by_cases q28 : w < 37
  · exact fvW_at 9 fv_28 w (by omega) (by omega)
  by_cases q37 : w < 46
  · exact fvW_at 9 fv_37 w (by omega) (by omega)
  by_cases q46 : w < 55
  · exact fvW_at 9 fv_46 w (by omega) (by omega)
  by_cases q55 : w < 64
  · exact fvW_at 9 fv_55 w (by omega) (by omega)
  by_cases q64 : w < 73
  · exact fvW_at 9 fv_64 w (by omega) (by omega)
  by_cases q73 : w < 82
  · exact fvW_at 9 fv_73 w (by omega) (by omega)
  by_cases q82 : w < 91
  · exact fvW_at 9 fv_82 w (by omega) (by omega)
  by_cases q91 : w < 100
  · exact fvW_at 9 fv_91 w (by omega) (by omega)
  omega
theorem fval_ok {w k : Int} (hw : 1 ≤ w ∧ w ≤ 99) (hk : 1 ≤ k ∧ k ≤ 200) : vf_n32 (FP.fmul (FP.i2f (Int32.ofInt w)) 1120403456) ∧ vf_n32 (FP.fdiv (FP.fmul (FP.i2f (Int32.ofInt w)) 1120403456) (FP.i2f (Int32.ofInt k))) ∧ 0 ≤ fval w k ∧ fval w k ≤ 9900 := by
  have h := fv_all (w := w.toNat) (k := k.toNat) (by omega) (by omega)
  unfold fvB at h
  rw [Bool.and_eq_true, Bool.and_eq_true, Bool.and_eq_true, decide_eq_true_iff, decide_eq_true_iff, decide_eq_true_iff, decide_eq_true_iff, show ((w.toNat : Nat) : Int) = w by omega, show ((k.toNat : Nat) : Int) = k by omega] at h
  exact h
/-- a rule's value on so many bytes -/
def valOf (S : Int → Int) (r k : Int) : Int := if S 5 = 0 then S (514 + 40 * r) else fval (S (514 + 40 * r)) k
theorem sp_X10_valueOf {E : jE} {G : jG} {m : Nat} {S : Int → Int} {I : jM} (hm : WX10 G m) (hS : I (m + 1) = S) {r k : Int} (hr : 0 ≤ r ∧ r < 6) (hw : RW1 S r) (hk : 1 ≤ k ∧ k ≤ 200) : jRI E (jA m) kX10_valueOf [VR m, VI r, VI k] G I (fun x I' => x = valOf S r k ∧ I' = I) := by
  have hw1 := hw.1
  have e : S (514 + 40 * r + 0) = S (514 + 40 * r) := by congr 1; omega
  have hf := fval_ok hw1 hk
  refine en_X10_valueOf hm (fun _ _ _ => ⟨⟨by omega, by omega⟩, ?_⟩)
  rw [hS, e]
  refine ⟨fun q => ⟨hf.1, hf.2.1, ?_, rfl⟩, fun q => ⟨?_, rfl⟩⟩
  · unfold valOf
    rw [if_neg q]
    rfl
  · unfold valOf
    rw [if_pos q]
theorem valOf_bd {S : Int → Int} {r k : Int} (hw : RW1 S r) (hk : 1 ≤ k ∧ k ≤ 200) : 0 ≤ valOf S r k ∧ valOf S r k ≤ 9900 := by
  have hf := fval_ok hw.1 hk
  have := hw.1
  unfold valOf
  split
  · omega
  · exact hf.2.2
