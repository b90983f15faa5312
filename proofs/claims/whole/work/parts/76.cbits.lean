/-! ===== bytes of an int ===== -/
theorem and255 (x : Int) : 0 ≤ jand x 255 ∧ jand x 255 ≤ 255 := by
  have h : ((Int32.ofInt x).toBitVec &&& (Int32.ofInt 255).toBitVec).toNat ≤ 255 := by
    rw [BitVec.toNat_and]
    exact Nat.and_le_right
  have e : jand x 255 = ((((Int32.ofInt x).toBitVec &&& (Int32.ofInt 255).toBitVec).toNat : Nat) : Int) := by
    show ((Int32.ofInt x).toBitVec &&& (Int32.ofInt 255).toBitVec).toInt = _
    exact BitVec.toInt_eq_toNat_of_lt (by omega)
  omega
theorem b8_core (u : BitVec 32) (s : Nat) (hs : s ≤ 24) : ((u >>> s).signExtend 8) = ((u.sshiftRight s &&& 255#32).signExtend 8) := by
  apply BitVec.eq_of_getLsbD_eq
  intro i hi
  have e255 : (255#32).getLsbD i = true := by
    have : ∀ j : Fin 8, (255#32).getLsbD j = true := by decide
    exact this ⟨i, hi⟩
  rw [BitVec.getLsbD_signExtend, BitVec.getLsbD_signExtend]
  simp only [BitVec.getLsbD_and, e255, BitVec.getLsbD_ushiftRight, BitVec.getLsbD_sshiftRight]
  have h1 : s + i < 32 := by omega
  have h2 : i < 32 := by omega
  simp [h1, h2, hi]
theorem b8_24 (v : Int) : jb8 (jushr v 24) = jb8 (jand (jshr v 24) 255) := by
  have h := b8_core (Int32.ofInt v).toBitVec 24 (by decide)
  unfold jb8 jushr jand jshr
  rw [Int32.ofInt_toInt, Int32.ofInt_toInt, Int32.ofInt_toInt]
  apply congrArg Int8.toInt
  apply Int8.toBitVec_inj.mp
  exact h
theorem b8_16 (v : Int) : jb8 (jushr v 16) = jb8 (jand (jshr v 16) 255) := by
  have h := b8_core (Int32.ofInt v).toBitVec 16 (by decide)
  unfold jb8 jushr jand jshr
  rw [Int32.ofInt_toInt, Int32.ofInt_toInt, Int32.ofInt_toInt]
  apply congrArg Int8.toInt
  apply Int8.toBitVec_inj.mp
  exact h
theorem b8_8 (v : Int) : jb8 (jushr v 8) = jb8 (jand (jshr v 8) 255) := by
  have h := b8_core (Int32.ofInt v).toBitVec 8 (by decide)
  unfold jb8 jushr jand jshr
  rw [Int32.ofInt_toInt, Int32.ofInt_toInt, Int32.ofInt_toInt]
  apply congrArg Int8.toInt
  apply Int8.toBitVec_inj.mp
  exact h
theorem b8_0 (v : Int) : jb8 (jushr v 0) = jb8 (jand (jshr v 0) 255) := by
  have h := b8_core (Int32.ofInt v).toBitVec 0 (by decide)
  unfold jb8 jushr jand jshr
  rw [Int32.ofInt_toInt, Int32.ofInt_toInt, Int32.ofInt_toInt]
  apply congrArg Int8.toInt
  apply Int8.toBitVec_inj.mp
  exact h
theorem jb8_u {x : Int} (h : 0 ≤ x ∧ x ≤ 255) : jb8 x = if x < 128 then x else x - 256 := by
  unfold jb8
  have e0 : (Int32.ofInt x).toInt = x := Int32.toInt_ofInt_of_le (by omega) (by omega)
  rw [Int32.toInt_toInt8, e0, Int.bmod_def]
  split <;> split <;> omega
