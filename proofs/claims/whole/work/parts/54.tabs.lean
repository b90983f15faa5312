/-! ===== tables of bits ===== -/
theorem orx_tab : ∀ x y : Fin 64, (0 ≤ jor ((x : Nat) : Int) ((y : Nat) : Int) ∧ jor ((x : Nat) : Int) ((y : Nat) : Int) < 64) ∧ (jor ((x : Nat) : Int) ((y : Nat) : Int) ≠ ((x : Nat) : Int) → pcn ((x : Nat) : Int) + 1 ≤ pcn (jor ((x : Nat) : Int) ((y : Nat) : Int))) := by decide +kernel
theorem orb_tab : ∀ x y : Fin 64, ∀ i : Fin 6, (jand (jshr (jor ((x : Nat) : Int) ((y : Nat) : Int)) ((i : Nat) : Int)) 1 = 1 ↔ (jand (jshr ((x : Nat) : Int) ((i : Nat) : Int)) 1 = 1 ∨ jand (jshr ((y : Nat) : Int) ((i : Nat) : Int)) 1 = 1)) := by decide +kernel
theorem sub_tab : ∀ x y : Fin 64, (∀ i : Fin 6, jand (jshr ((y : Nat) : Int) ((i : Nat) : Int)) 1 = 1 → jand (jshr ((x : Nat) : Int) ((i : Nat) : Int)) 1 = 1) → jor ((x : Nat) : Int) ((y : Nat) : Int) = ((x : Nat) : Int) := by decide +kernel
theorem onep_tab : ∀ r : Fin 6, 0 + 1 ≤ pcn (jshl 1 ((r : Nat) : Int)) := by decide +kernel
