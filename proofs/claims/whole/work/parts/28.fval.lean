/-- a weight by the bytes -/
def fval (w k : Int) : Int := (FP.f2i (FP.fdiv (FP.fmul (FP.i2f (Int32.ofInt w)) 1120403456) (FP.i2f (Int32.ofInt k)))).toInt
theorem fval_ok {w k : Int} (hw : 1 ≤ w ∧ w ≤ 99) (hk : 1 ≤ k ∧ k ≤ 200) : vf_n32 (FP.fmul (FP.i2f (Int32.ofInt w)) 1120403456) ∧ vf_n32 (FP.fdiv (FP.fmul (FP.i2f (Int32.ofInt w)) 1120403456) (FP.i2f (Int32.ofInt k))) ∧ 0 ≤ fval w k ∧ fval w k ≤ 9900 := by
  sorry
/-- a rule's value on so many bytes -/
def valOf (S : Int → Int) (r k : Int) : Int := if S 5 = 0 then S (514 + 40 * r) else fval (S (514 + 40 * r)) k
theorem sp_X10_valueOf {E : jE} {G : jG} {m : Nat} {S : Int → Int} {I : jM} (hm : WX10 G m) (hS : I (m + 1) = S) {r k : Int} (hr : 0 ≤ r ∧ r < 6) (hw : RW1 S r) (hk : 1 ≤ k ∧ k ≤ 200) : jRI E (jA m) kX10_valueOf [VR m, VI r, VI k] G I (fun x I' => x = valOf S r k ∧ I' = I) := by
  have hw1 := hw.1
  have e : S (514 + 40 * r + 0) = S (514 + 40 * r) := by congr 1; omega
  have hf := fval_ok hw1 hk
  refine en_X10_valueOf hm (fun _ _ _ => ⟨⟨by omega, by omega⟩, ?_⟩)
  rw [hS, e]
  refine ⟨fun q => ⟨hf.1, hf.2.1, ?_, rfl⟩, fun q => ⟨?_, rfl⟩⟩
  · unfold valOf
    rw [if_neg q]
    rfl
  · unfold valOf
    rw [if_pos q]
theorem valOf_bd {S : Int → Int} {r k : Int} (hw : RW1 S r) (hk : 1 ≤ k ∧ k ≤ 200) : 0 ≤ valOf S r k ∧ valOf S r k ≤ 9900 := by
  have hf := fval_ok hw.1 hk
  have := hw.1
  unfold valOf
  split
  · omega
  · exact hf.2.2
