section JR
variable {E : jE} {K : jK} {pc : Nat} {ls st : List jV} {G : jG} {I : jM} {u : Nat × Nat} {Q : jV → jG → jM → Prop}
theorem r_iconst {n : Int} (d : decode K.2.1 pc = .ok (.iconst n, 1))  (k : jOk E K (pc + 1) ls (VI n :: st) G I u Q) : jOk E K pc ls (st) G I u Q := by
  intro p l e s m args below meth c Z H locs cls hC hZ hH hS hL
  exact lv_iconst hC.1 hC.2.1 d rfl (W.eq (by simp [cv]) (k p l e s m args below meth c Z H locs cls hC hZ hH hS hL))
theorem r_bipush {n : Int} (d : decode K.2.1 pc = .ok (.bipush n, 2)) (hv : (Int8.ofInt n).toInt32 = Int32.ofInt n) (k : jOk E K (pc + 2) ls (VI n :: st) G I u Q) : jOk E K pc ls (st) G I u Q := by
  intro p l e s m args below meth c Z H locs cls hC hZ hH hS hL
  exact lv_bipush hC.1 hC.2.1 d hv (W.eq (by simp [cv]) (k p l e s m args below meth c Z H locs cls hC hZ hH hS hL))
theorem r_sipush {n : Int} (d : decode K.2.1 pc = .ok (.sipush n, 3)) (hv : (Int16.ofInt n).toInt32 = Int32.ofInt n) (k : jOk E K (pc + 3) ls (VI n :: st) G I u Q) : jOk E K pc ls (st) G I u Q := by
  intro p l e s m args below meth c Z H locs cls hC hZ hH hS hL
  exact lv_sipush hC.1 hC.2.1 d hv (W.eq (by simp [cv]) (k p l e s m args below meth c Z H locs cls hC hZ hH hS hL))
theorem r_ldc {i : Nat} {n : Int} (d : decode K.2.1 pc = .ok (.ldc i, 2)) (hw : Cond.constant K.1.cls i (Int32.ofInt n) ∈ jTB) (k : jOk E K (pc + 2) ls (VI n :: st) G I u Q) : jOk E K pc ls (st) G I u Q := by
  intro p l e s m args below meth c Z H locs cls hC hZ hH hS hL
  exact lv_ldc hC.1 hC.2.1 hC.2.2.2.1 (hC.2.2.2.2.1 _ hw) d (W.eq (by simp [cv]) (k p l e s m args below meth c Z H locs cls hC hZ hH hS hL))
theorem r_ldcw {i : Nat} {n : Int} (d : decode K.2.1 pc = .ok (.ldc_w i, 3)) (hw : Cond.constant K.1.cls i (Int32.ofInt n) ∈ jTB) (k : jOk E K (pc + 3) ls (VI n :: st) G I u Q) : jOk E K pc ls (st) G I u Q := by
  intro p l e s m args below meth c Z H locs cls hC hZ hH hS hL
  exact lv_ldcw hC.1 hC.2.1 hC.2.2.2.1 (hC.2.2.2.2.1 _ hw) d (W.eq (by simp [cv]) (k p l e s m args below meth c Z H locs cls hC hZ hH hS hL))
theorem r_ldcf {i : Nat} {n : UInt32} (d : decode K.2.1 pc = .ok (.ldc i, 2)) (hw : Cond.constantFloat K.1.cls i n ∈ jTB) (k : jOk E K (pc + 2) ls (VX (.float n) :: st) G I u Q) : jOk E K pc ls (st) G I u Q := by
  intro p l e s m args below meth c Z H locs cls hC hZ hH hS hL
  exact lv_ldcf hC.1 hC.2.1 hC.2.2.2.1 (hC.2.2.2.2.1 _ hw) d (W.eq (by simp [cv]) (k p l e s m args below meth c Z H locs cls hC hZ hH hS hL))
theorem r_ldc2 {i : Nat} {n : Int64} (d : decode K.2.1 pc = .ok (.ldc2_w i, 3)) (hw : Cond.constantLong K.1.cls i n ∈ jTB) (k : jOk E K (pc + 3) ls (VX (.long n) :: st) G I u Q) : jOk E K pc ls (st) G I u Q := by
  intro p l e s m args below meth c Z H locs cls hC hZ hH hS hL
  exact lv_ldc2 hC.1 hC.2.1 hC.2.2.2.1 (hC.2.2.2.2.1 _ hw) d (W.eq (by simp [cv]) (k p l e s m args below meth c Z H locs cls hC hZ hH hS hL))
theorem r_ldc2d {i : Nat} {n : UInt64} (d : decode K.2.1 pc = .ok (.ldc2_w i, 3)) (hw : Cond.constantDouble K.1.cls i n ∈ jTB) (k : jOk E K (pc + 3) ls (VX (.double n) :: st) G I u Q) : jOk E K pc ls (st) G I u Q := by
  intro p l e s m args below meth c Z H locs cls hC hZ hH hS hL
  exact lv_ldc2d hC.1 hC.2.1 hC.2.2.2.1 (hC.2.2.2.2.1 _ hw) d (W.eq (by simp [cv]) (k p l e s m args below meth c Z H locs cls hC hZ hH hS hL))
theorem r_lconst {n : Fin 2} (d : decode K.2.1 pc = .ok (.lconst n, 1))  (k : jOk E K (pc + 1) ls (VX (.long (Int64.ofNat n)) :: st) G I u Q) : jOk E K pc ls (st) G I u Q := by
  intro p l e s m args below meth c Z H locs cls hC hZ hH hS hL
  exact lv_lconst hC.1 hC.2.1 d rfl (W.eq (by simp [cv]) (k p l e s m args below meth c Z H locs cls hC hZ hH hS hL))
theorem r_fconst0  (d : decode K.2.1 pc = .ok (.fconst 0, 1))  (k : jOk E K (pc + 1) ls (VX (.float FP.fconst0) :: st) G I u Q) : jOk E K pc ls (st) G I u Q := by
  intro p l e s m args below meth c Z H locs cls hC hZ hH hS hL
  exact lv_fconst0 hC.1 hC.2.1 d (W.eq (by simp [cv]) (k p l e s m args below meth c Z H locs cls hC hZ hH hS hL))
theorem r_fconst1  (d : decode K.2.1 pc = .ok (.fconst 1, 1))  (k : jOk E K (pc + 1) ls (VX (.float FP.fconst1) :: st) G I u Q) : jOk E K pc ls (st) G I u Q := by
  intro p l e s m args below meth c Z H locs cls hC hZ hH hS hL
  exact lv_fconst1 hC.1 hC.2.1 d (W.eq (by simp [cv]) (k p l e s m args below meth c Z H locs cls hC hZ hH hS hL))
theorem r_fconst2  (d : decode K.2.1 pc = .ok (.fconst 2, 1))  (k : jOk E K (pc + 1) ls (VX (.float FP.fconst2) :: st) G I u Q) : jOk E K pc ls (st) G I u Q := by
  intro p l e s m args below meth c Z H locs cls hC hZ hH hS hL
  exact lv_fconst2 hC.1 hC.2.1 d (W.eq (by simp [cv]) (k p l e s m args below meth c Z H locs cls hC hZ hH hS hL))
theorem r_dconst0  (d : decode K.2.1 pc = .ok (.dconst 0, 1))  (k : jOk E K (pc + 1) ls (VX (.double FP.dconst0) :: st) G I u Q) : jOk E K pc ls (st) G I u Q := by
  intro p l e s m args below meth c Z H locs cls hC hZ hH hS hL
  exact lv_dconst0 hC.1 hC.2.1 d (W.eq (by simp [cv]) (k p l e s m args below meth c Z H locs cls hC hZ hH hS hL))
theorem r_dconst1  (d : decode K.2.1 pc = .ok (.dconst 1, 1))  (k : jOk E K (pc + 1) ls (VX (.double FP.dconst1) :: st) G I u Q) : jOk E K pc ls (st) G I u Q := by
  intro p l e s m args below meth c Z H locs cls hC hZ hH hS hL
  exact lv_dconst1 hC.1 hC.2.1 d (W.eq (by simp [cv]) (k p l e s m args below meth c Z H locs cls hC hZ hH hS hL))
theorem r_iload_n {j : Fin 4} {i : Nat} {x : Int} (d : decode K.2.1 pc = .ok (.iload_n j, 1)) (hi : (j : Nat) = i) (h : ls[i]? = some (VI x)) (k : jOk E K (pc + 1) ls (VI x :: st) G I u Q) : jOk E K pc ls st G I u Q := by
  intro p l e s m args below meth c Z H locs cls hC hZ hH hS hL
  exact lv_iload_n hC.1 hC.2.1 d hi (hL.2.2 i _ h rfl).1 (k p l e s m args below meth c Z H locs cls hC hZ hH hS hL)
theorem r_iload {i : Nat} {x : Int} (d : decode K.2.1 pc = .ok (.iload i, 2)) (h : ls[i]? = some (VI x)) (k : jOk E K (pc + 2) ls (VI x :: st) G I u Q) : jOk E K pc ls st G I u Q := by
  intro p l e s m args below meth c Z H locs cls hC hZ hH hS hL
  exact lv_iload hC.1 hC.2.1 d (hL.2.2 i _ h rfl).1 (k p l e s m args below meth c Z H locs cls hC hZ hH hS hL)
theorem r_aload_n {j : Fin 4} {i : Nat} {x : Nat} (d : decode K.2.1 pc = .ok (.aload_n j, 1)) (hi : (j : Nat) = i) (h : ls[i]? = some (VR x)) (k : jOk E K (pc + 1) ls (VR x :: st) G I u Q) : jOk E K pc ls st G I u Q := by
  intro p l e s m args below meth c Z H locs cls hC hZ hH hS hL
  exact lv_aload_n hC.1 hC.2.1 d hi (hL.2.2 i _ h rfl).1 (k p l e s m args below meth c Z H locs cls hC hZ hH hS hL)
theorem r_aload {i : Nat} {x : Nat} (d : decode K.2.1 pc = .ok (.aload i, 2)) (h : ls[i]? = some (VR x)) (k : jOk E K (pc + 2) ls (VR x :: st) G I u Q) : jOk E K pc ls st G I u Q := by
  intro p l e s m args below meth c Z H locs cls hC hZ hH hS hL
  exact lv_aload hC.1 hC.2.1 d (hL.2.2 i _ h rfl).1 (k p l e s m args below meth c Z H locs cls hC hZ hH hS hL)
theorem r_xload_n {j : Fin 4} {i : Nat} {x : Nat} (d : decode K.2.1 pc = .ok (.aload_n j, 1)) (hi : (j : Nat) = i) (h : ls[i]? = some (VX (.ref x))) (k : jOk E K (pc + 1) ls (VX (.ref x) :: st) G I u Q) : jOk E K pc ls st G I u Q := by
  intro p l e s m args below meth c Z H locs cls hC hZ hH hS hL
  exact lv_aload_n hC.1 hC.2.1 d hi (hL.2.2 i _ h rfl).1 (k p l e s m args below meth c Z H locs cls hC hZ hH hS hL)
theorem r_xload {i : Nat} {x : Nat} (d : decode K.2.1 pc = .ok (.aload i, 2)) (h : ls[i]? = some (VX (.ref x))) (k : jOk E K (pc + 2) ls (VX (.ref x) :: st) G I u Q) : jOk E K pc ls st G I u Q := by
  intro p l e s m args below meth c Z H locs cls hC hZ hH hS hL
  exact lv_aload hC.1 hC.2.1 d (hL.2.2 i _ h rfl).1 (k p l e s m args below meth c Z H locs cls hC hZ hH hS hL)
theorem r_fload_n {j : Fin 4} {i : Nat} {x : UInt32} (d : decode K.2.1 pc = .ok (.fload_n j, 1)) (hi : (j : Nat) = i) (h : ls[i]? = some (VX (.float x))) (k : jOk E K (pc + 1) ls (VX (.float x) :: st) G I u Q) : jOk E K pc ls st G I u Q := by
  intro p l e s m args below meth c Z H locs cls hC hZ hH hS hL
  exact lv_fload_n hC.1 hC.2.1 d hi (hL.2.2 i _ h rfl).1 (k p l e s m args below meth c Z H locs cls hC hZ hH hS hL)
theorem r_fload {i : Nat} {x : UInt32} (d : decode K.2.1 pc = .ok (.fload i, 2)) (h : ls[i]? = some (VX (.float x))) (k : jOk E K (pc + 2) ls (VX (.float x) :: st) G I u Q) : jOk E K pc ls st G I u Q := by
  intro p l e s m args below meth c Z H locs cls hC hZ hH hS hL
  exact lv_fload hC.1 hC.2.1 d (hL.2.2 i _ h rfl).1 (k p l e s m args below meth c Z H locs cls hC hZ hH hS hL)
theorem r_dload_n {j : Fin 4} {i : Nat} {x : UInt64} (d : decode K.2.1 pc = .ok (.dload_n j, 1)) (hi : (j : Nat) = i) (h : ls[i]? = some (VX (.double x))) (k : jOk E K (pc + 1) ls (VX (.double x) :: st) G I u Q) : jOk E K pc ls st G I u Q := by
  intro p l e s m args below meth c Z H locs cls hC hZ hH hS hL
  exact lv_dload_n hC.1 hC.2.1 d hi (hL.2.2 i _ h rfl).1 (k p l e s m args below meth c Z H locs cls hC hZ hH hS hL)
theorem r_dload {i : Nat} {x : UInt64} (d : decode K.2.1 pc = .ok (.dload i, 2)) (h : ls[i]? = some (VX (.double x))) (k : jOk E K (pc + 2) ls (VX (.double x) :: st) G I u Q) : jOk E K pc ls st G I u Q := by
  intro p l e s m args below meth c Z H locs cls hC hZ hH hS hL
  exact lv_dload hC.1 hC.2.1 d (hL.2.2 i _ h rfl).1 (k p l e s m args below meth c Z H locs cls hC hZ hH hS hL)
theorem r_lload_n {j : Fin 4} {i : Nat} {x : Int64} (d : decode K.2.1 pc = .ok (.lload_n j, 1)) (hi : (j : Nat) = i) (h : ls[i]? = some (VX (.long x))) (k : jOk E K (pc + 1) ls (VX (.long x) :: st) G I u Q) : jOk E K pc ls st G I u Q := by
  intro p l e s m args below meth c Z H locs cls hC hZ hH hS hL
  exact lv_lload_n hC.1 hC.2.1 d hi (hL.2.2 i _ h rfl).1 (k p l e s m args below meth c Z H locs cls hC hZ hH hS hL)
theorem r_lload {i : Nat} {x : Int64} (d : decode K.2.1 pc = .ok (.lload i, 2)) (h : ls[i]? = some (VX (.long x))) (k : jOk E K (pc + 2) ls (VX (.long x) :: st) G I u Q) : jOk E K pc ls st G I u Q := by
  intro p l e s m args below meth c Z H locs cls hC hZ hH hS hL
  exact lv_lload hC.1 hC.2.1 d (hL.2.2 i _ h rfl).1 (k p l e s m args below meth c Z H locs cls hC hZ hH hS hL)
theorem r_istore_n {j : Fin 4} {i : Nat} {x : Int} (d : decode K.2.1 pc = .ok (.istore_n j, 1)) (hi : (j : Nat) = i) (hn : i < K.2.2.1) (h1 : jst ls i = true) (hx : jIn x) (k : jOk E K (pc + 1) (ls.set i (VI x)) st G I u Q) : jOk E K pc ls (VI x :: st) G I u Q := by
  intro p l e s m args below meth c Z H locs cls hC hZ hH hS hL
  exact lv_istore_n hC.1 hC.2.1 d hi hL.has hn rfl (fun cls' h' => k p l e s m args below meth c Z H locs cls' hC hZ hH hS (hL.store (v := VI x) h1 hx h'))
theorem r_istore {i : Nat} {x : Int} (d : decode K.2.1 pc = .ok (.istore i, 2)) (hn : i < K.2.2.1) (h1 : jst ls i = true) (hx : jIn x) (k : jOk E K (pc + 2) (ls.set i (VI x)) st G I u Q) : jOk E K pc ls (VI x :: st) G I u Q := by
  intro p l e s m args below meth c Z H locs cls hC hZ hH hS hL
  exact lv_istore hC.1 hC.2.1 d hL.has hn rfl (fun cls' h' => k p l e s m args below meth c Z H locs cls' hC hZ hH hS (hL.store (v := VI x) h1 hx h'))
theorem r_astore_n {j : Fin 4} {i : Nat} {x : Nat} (d : decode K.2.1 pc = .ok (.astore_n j, 1)) (hi : (j : Nat) = i) (hn : i < K.2.2.1) (h1 : jst ls i = true) (k : jOk E K (pc + 1) (ls.set i (VR x)) st G I u Q) : jOk E K pc ls (VR x :: st) G I u Q := by
  intro p l e s m args below meth c Z H locs cls hC hZ hH hS hL
  exact lv_astore_n hC.1 hC.2.1 d hi hL.has hn rfl (fun cls' h' => k p l e s m args below meth c Z H locs cls' hC hZ hH hS (hL.store (v := VR x) h1 trivial h'))
theorem r_astore {i : Nat} {x : Nat} (d : decode K.2.1 pc = .ok (.astore i, 2)) (hn : i < K.2.2.1) (h1 : jst ls i = true) (k : jOk E K (pc + 2) (ls.set i (VR x)) st G I u Q) : jOk E K pc ls (VR x :: st) G I u Q := by
  intro p l e s m args below meth c Z H locs cls hC hZ hH hS hL
  exact lv_astore hC.1 hC.2.1 d hL.has hn rfl (fun cls' h' => k p l e s m args below meth c Z H locs cls' hC hZ hH hS (hL.store (v := VR x) h1 trivial h'))
theorem r_fstore_n {j : Fin 4} {i : Nat} {x : UInt32} (d : decode K.2.1 pc = .ok (.fstore_n j, 1)) (hi : (j : Nat) = i) (hn : i < K.2.2.1) (h1 : jst ls i = true) (k : jOk E K (pc + 1) (ls.set i (VX (.float x))) st G I u Q) : jOk E K pc ls (VX (.float x) :: st) G I u Q := by
  intro p l e s m args below meth c Z H locs cls hC hZ hH hS hL
  exact lv_fstore_n hC.1 hC.2.1 d hi hL.has hn rfl (fun cls' h' => k p l e s m args below meth c Z H locs cls' hC hZ hH hS (hL.store (v := VX (.float x)) h1 trivial h'))
theorem r_fstore {i : Nat} {x : UInt32} (d : decode K.2.1 pc = .ok (.fstore i, 2)) (hn : i < K.2.2.1) (h1 : jst ls i = true) (k : jOk E K (pc + 2) (ls.set i (VX (.float x))) st G I u Q) : jOk E K pc ls (VX (.float x) :: st) G I u Q := by
  intro p l e s m args below meth c Z H locs cls hC hZ hH hS hL
  exact lv_fstore hC.1 hC.2.1 d hL.has hn rfl (fun cls' h' => k p l e s m args below meth c Z H locs cls' hC hZ hH hS (hL.store (v := VX (.float x)) h1 trivial h'))
theorem r_dstore_n {j : Fin 4} {i : Nat} {x : UInt64} (d : decode K.2.1 pc = .ok (.dstore_n j, 1)) (hi : (j : Nat) = i) (hn : i + 1 < K.2.2.1) (h1 : jst ls i = true) (k : jOk E K (pc + 1) ((ls.set i (VX (.double x))).set (i + 1) VN) st G I u Q) : jOk E K pc ls (VX (.double x) :: st) G I u Q := by
  intro p l e s m args below meth c Z H locs cls hC hZ hH hS hL
  exact lv_dstore_n hC.1 hC.2.1 d hi hL.has hn rfl (fun cls' h' => k p l e s m args below meth c Z H locs cls' hC hZ hH hS (hL.store2 (v := VX (.double x)) h1 trivial h'))
theorem r_dstore {i : Nat} {x : UInt64} (d : decode K.2.1 pc = .ok (.dstore i, 2)) (hn : i + 1 < K.2.2.1) (h1 : jst ls i = true) (k : jOk E K (pc + 2) ((ls.set i (VX (.double x))).set (i + 1) VN) st G I u Q) : jOk E K pc ls (VX (.double x) :: st) G I u Q := by
  intro p l e s m args below meth c Z H locs cls hC hZ hH hS hL
  exact lv_dstore hC.1 hC.2.1 d hL.has hn rfl (fun cls' h' => k p l e s m args below meth c Z H locs cls' hC hZ hH hS (hL.store2 (v := VX (.double x)) h1 trivial h'))
theorem r_lstore_n {j : Fin 4} {i : Nat} {x : Int64} (d : decode K.2.1 pc = .ok (.lstore_n j, 1)) (hi : (j : Nat) = i) (hn : i + 1 < K.2.2.1) (h1 : jst ls i = true) (k : jOk E K (pc + 1) ((ls.set i (VX (.long x))).set (i + 1) VN) st G I u Q) : jOk E K pc ls (VX (.long x) :: st) G I u Q := by
  intro p l e s m args below meth c Z H locs cls hC hZ hH hS hL
  exact lv_lstore_n hC.1 hC.2.1 d hi hL.has hn rfl (fun cls' h' => k p l e s m args below meth c Z H locs cls' hC hZ hH hS (hL.store2 (v := VX (.long x)) h1 trivial h'))
theorem r_lstore {i : Nat} {x : Int64} (d : decode K.2.1 pc = .ok (.lstore i, 2)) (hn : i + 1 < K.2.2.1) (h1 : jst ls i = true) (k : jOk E K (pc + 2) ((ls.set i (VX (.long x))).set (i + 1) VN) st G I u Q) : jOk E K pc ls (VX (.long x) :: st) G I u Q := by
  intro p l e s m args below meth c Z H locs cls hC hZ hH hS hL
  exact lv_lstore hC.1 hC.2.1 d hL.has hn rfl (fun cls' h' => k p l e s m args below meth c Z H locs cls' hC hZ hH hS (hL.store2 (v := VX (.long x)) h1 trivial h'))
theorem r_iinc {i : Nat} {n x : Int} (d : decode K.2.1 pc = .ok (.iinc i n, 3)) (h : ls[i]? = some (VI x)) (hn : i < K.2.2.1) (h1 : jst ls i = true) (hx : jIn (x + n)) (k : jOk E K (pc + 3) (ls.set i (VI (x + n))) st G I u Q) : jOk E K pc ls st G I u Q := by
  intro p l e s m args below meth c Z H locs cls hC hZ hH hS hL
  obtain ⟨k0, hk0⟩ := List.getElem?_of_mem (jl_mem (z := E.1) h rfl)
  exact lv_iinc (x := Int32.ofInt x) (v := Int32.ofInt (x + n)) hC.1 hC.2.1 d hL.has hk0 (by rw [Int32.ofInt_add]) hn rfl (fun cls' h' => k p l e s m args below meth c Z H locs cls' hC hZ hH hS (hL.store (v := VI (x + n)) h1 hx h'))
theorem r_iadd {a b : Int} (d : decode K.2.1 pc = .ok (.iadd, 1))  (k : jOk E K (pc + 1) ls (VI (a + b) :: st) G I u Q) : jOk E K pc ls (VI b :: VI a :: st) G I u Q := by
  intro p l e s m args below meth c Z H locs cls hC hZ hH hS hL
  exact lv_iadd hC.1 hC.2.1 d (W.eq (by simp [cv]) (k p l e s m args below meth c Z H locs cls hC hZ hH hS hL))
theorem r_isub {a b : Int} (d : decode K.2.1 pc = .ok (.isub, 1))  (k : jOk E K (pc + 1) ls (VI (a - b) :: st) G I u Q) : jOk E K pc ls (VI b :: VI a :: st) G I u Q := by
  intro p l e s m args below meth c Z H locs cls hC hZ hH hS hL
  exact lv_isub hC.1 hC.2.1 d (W.eq (by simp [cv]) (k p l e s m args below meth c Z H locs cls hC hZ hH hS hL))
theorem r_imul {a b : Int} (d : decode K.2.1 pc = .ok (.imul, 1))  (k : jOk E K (pc + 1) ls (VI (a * b) :: st) G I u Q) : jOk E K pc ls (VI b :: VI a :: st) G I u Q := by
  intro p l e s m args below meth c Z H locs cls hC hZ hH hS hL
  exact lv_imul hC.1 hC.2.1 d (W.eq (by simp [cv]) (k p l e s m args below meth c Z H locs cls hC hZ hH hS hL))
theorem r_iand {a b : Int} (d : decode K.2.1 pc = .ok (.iand, 1))  (k : jOk E K (pc + 1) ls (VI (jand a b) :: st) G I u Q) : jOk E K pc ls (VI b :: VI a :: st) G I u Q := by
  intro p l e s m args below meth c Z H locs cls hC hZ hH hS hL
  exact lv_iand hC.1 hC.2.1 d (W.eq (by simp [cv, jand]) (k p l e s m args below meth c Z H locs cls hC hZ hH hS hL))
theorem r_ior {a b : Int} (d : decode K.2.1 pc = .ok (.ior, 1))  (k : jOk E K (pc + 1) ls (VI (jor a b) :: st) G I u Q) : jOk E K pc ls (VI b :: VI a :: st) G I u Q := by
  intro p l e s m args below meth c Z H locs cls hC hZ hH hS hL
  exact lv_ior hC.1 hC.2.1 d (W.eq (by simp [cv, jor]) (k p l e s m args below meth c Z H locs cls hC hZ hH hS hL))
theorem r_ixor {a b : Int} (d : decode K.2.1 pc = .ok (.ixor, 1))  (k : jOk E K (pc + 1) ls (VI (jxor a b) :: st) G I u Q) : jOk E K pc ls (VI b :: VI a :: st) G I u Q := by
  intro p l e s m args below meth c Z H locs cls hC hZ hH hS hL
  exact lv_ixor hC.1 hC.2.1 d (W.eq (by simp [cv, jxor]) (k p l e s m args below meth c Z H locs cls hC hZ hH hS hL))
theorem r_ishl {a b : Int} (d : decode K.2.1 pc = .ok (.ishl, 1))  (k : jOk E K (pc + 1) ls (VI (jshl a b) :: st) G I u Q) : jOk E K pc ls (VI b :: VI a :: st) G I u Q := by
  intro p l e s m args below meth c Z H locs cls hC hZ hH hS hL
  exact lv_ishl hC.1 hC.2.1 d (W.eq (by simp [cv, jshl]) (k p l e s m args below meth c Z H locs cls hC hZ hH hS hL))
theorem r_ishr {a b : Int} (d : decode K.2.1 pc = .ok (.ishr, 1))  (k : jOk E K (pc + 1) ls (VI (jshr a b) :: st) G I u Q) : jOk E K pc ls (VI b :: VI a :: st) G I u Q := by
  intro p l e s m args below meth c Z H locs cls hC hZ hH hS hL
  exact lv_ishr hC.1 hC.2.1 d (W.eq (by simp [cv, jshr]) (k p l e s m args below meth c Z H locs cls hC hZ hH hS hL))
theorem r_iushr {a b : Int} (d : decode K.2.1 pc = .ok (.iushr, 1))  (k : jOk E K (pc + 1) ls (VI (jushr a b) :: st) G I u Q) : jOk E K pc ls (VI b :: VI a :: st) G I u Q := by
  intro p l e s m args below meth c Z H locs cls hC hZ hH hS hL
  exact lv_iushr hC.1 hC.2.1 d rfl (W.eq (by simp [cv, jushr]) (k p l e s m args below meth c Z H locs cls hC hZ hH hS hL))
theorem r_i2b {a : Int} (d : decode K.2.1 pc = .ok (.i2b, 1)) (k : jOk E K (pc + 1) ls (VI (jb8 a) :: st) G I u Q) : jOk E K pc ls (VI a :: st) G I u Q := by
  intro p l e s m args below meth c Z H locs cls hC hZ hH hS hL
  exact lv_i2b hC.1 hC.2.1 d rfl (W.eq (by simp only [List.map_cons, cv, jb8, Int32.ofInt_int8ToInt]) (k p l e s m args below meth c Z H locs cls hC hZ hH hS hL))
theorem r_idiv {a b : Int} (d : decode K.2.1 pc = .ok (.idiv, 1)) (ha : jIn a) (hb : jIn b) (h0 : b ≠ 0) (k : jOk E K (pc + 1) ls (VI (a.tdiv b) :: st) G I u Q) : jOk E K pc ls (VI b :: VI a :: st) G I u Q := by
  intro p l e s m args below meth c Z H locs cls hC hZ hH hS hL
  have h1 : Int32.minValue.toInt = -2147483648 := rfl
  have h2 : Int32.maxValue.toInt = 2147483647 := rfl
  have h3 := Int32.ofInt_tdiv (a := a) (b := b) (by omega) (by omega) (by omega) (by omega)
  exact lv_idiv hC.1 hC.2.1 d (fun q => h0 ((j32_eq hb j_zero).mp q)) (W.eq (by simp [cv, h3]) (k p l e s m args below meth c Z H locs cls hC hZ hH hS hL))
theorem r_irem {a b : Int} (d : decode K.2.1 pc = .ok (.irem, 1)) (ha : jIn a) (hb : jIn b) (h0 : b ≠ 0) (k : jOk E K (pc + 1) ls (VI (a.tmod b) :: st) G I u Q) : jOk E K pc ls (VI b :: VI a :: st) G I u Q := by
  intro p l e s m args below meth c Z H locs cls hC hZ hH hS hL
  have h1 : Int32.minValue.toInt = -2147483648 := rfl
  have h2 : Int32.maxValue.toInt = 2147483647 := rfl
  have h3 := Int32.ofInt_tdiv (a := a) (b := b) (by omega) (by omega) (by omega) (by omega)
  have h4 : a.tmod b = a - a.tdiv b * b := by rw [Int.tmod_def, Int.mul_comm]
  exact lv_irem hC.1 hC.2.1 d (fun q => h0 ((j32_eq hb j_zero).mp q)) (W.eq (by simp [cv, h4, h3]) (k p l e s m args below meth c Z H locs cls hC hZ hH hS hL))
theorem r_i2f {a : Int} (d : decode K.2.1 pc = .ok (.i2f, 1))  (k : jOk E K (pc + 1) ls (VX (.float (FP.i2f (Int32.ofInt a))) :: st) G I u Q) : jOk E K pc ls (VI a :: st) G I u Q := by
  intro p l e s m args below meth c Z H locs cls hC hZ hH hS hL
  exact lv_i2f hC.1 hC.2.1 d (W.eq (by simp [cv]) (k p l e s m args below meth c Z H locs cls hC hZ hH hS hL))
theorem r_i2d {a : Int} (d : decode K.2.1 pc = .ok (.i2d, 1))  (k : jOk E K (pc + 1) ls (VX (.double (FP.i2d (Int32.ofInt a))) :: st) G I u Q) : jOk E K pc ls (VI a :: st) G I u Q := by
  intro p l e s m args below meth c Z H locs cls hC hZ hH hS hL
  exact lv_i2d hC.1 hC.2.1 d (W.eq (by simp [cv]) (k p l e s m args below meth c Z H locs cls hC hZ hH hS hL))
theorem r_f2i {a : UInt32} (d : decode K.2.1 pc = .ok (.f2i, 1))  (k : jOk E K (pc + 1) ls (VI (FP.f2i a).toInt :: st) G I u Q) : jOk E K pc ls (VX (.float a) :: st) G I u Q := by
  intro p l e s m args below meth c Z H locs cls hC hZ hH hS hL
  exact lv_f2i hC.1 hC.2.1 d (W.eq (by simp [cv]) (k p l e s m args below meth c Z H locs cls hC hZ hH hS hL))
theorem r_d2l {a : UInt64} (d : decode K.2.1 pc = .ok (.d2l, 1))  (k : jOk E K (pc + 1) ls (VX (.long (FP.d2l a)) :: st) G I u Q) : jOk E K pc ls (VX (.double a) :: st) G I u Q := by
  intro p l e s m args below meth c Z H locs cls hC hZ hH hS hL
  exact lv_d2l hC.1 hC.2.1 d (W.eq (by simp [cv]) (k p l e s m args below meth c Z H locs cls hC hZ hH hS hL))
theorem r_fmul {a b : UInt32} (d : decode K.2.1 pc = .ok (.fmul, 1)) (hne : vf_n32 (FP.fmul a b)) (k : jOk E K (pc + 1) ls (VX (.float (FP.fmul a b)) :: st) G I u Q) : jOk E K pc ls (VX (.float b) :: VX (.float a) :: st) G I u Q := by
  intro p l e s m args below meth c Z H locs cls hC hZ hH hS hL
  exact lv_fmul hC.1 hC.2.1 d hne (W.eq (by simp [cv]) (k p l e s m args below meth c Z H locs cls hC hZ hH hS hL))
theorem r_fdiv {a b : UInt32} (d : decode K.2.1 pc = .ok (.fdiv, 1)) (hne : vf_n32 (FP.fdiv a b)) (k : jOk E K (pc + 1) ls (VX (.float (FP.fdiv a b)) :: st) G I u Q) : jOk E K pc ls (VX (.float b) :: VX (.float a) :: st) G I u Q := by
  intro p l e s m args below meth c Z H locs cls hC hZ hH hS hL
  exact lv_fdiv hC.1 hC.2.1 d hne (W.eq (by simp [cv]) (k p l e s m args below meth c Z H locs cls hC hZ hH hS hL))
theorem r_fsub {a b : UInt32} (d : decode K.2.1 pc = .ok (.fsub, 1)) (hne : vf_n32 (FP.fsub a b)) (k : jOk E K (pc + 1) ls (VX (.float (FP.fsub a b)) :: st) G I u Q) : jOk E K pc ls (VX (.float b) :: VX (.float a) :: st) G I u Q := by
  intro p l e s m args below meth c Z H locs cls hC hZ hH hS hL
  exact lv_fsub hC.1 hC.2.1 d hne (W.eq (by simp [cv]) (k p l e s m args below meth c Z H locs cls hC hZ hH hS hL))
theorem r_dmul {a b : UInt64} (d : decode K.2.1 pc = .ok (.dmul, 1)) (hne : vf_n64 (FP.dmul a b)) (k : jOk E K (pc + 1) ls (VX (.double (FP.dmul a b)) :: st) G I u Q) : jOk E K pc ls (VX (.double b) :: VX (.double a) :: st) G I u Q := by
  intro p l e s m args below meth c Z H locs cls hC hZ hH hS hL
  exact lv_dmul hC.1 hC.2.1 d hne (W.eq (by simp [cv]) (k p l e s m args below meth c Z H locs cls hC hZ hH hS hL))
theorem r_ddiv {a b : UInt64} (d : decode K.2.1 pc = .ok (.ddiv, 1)) (hne : vf_n64 (FP.ddiv a b)) (k : jOk E K (pc + 1) ls (VX (.double (FP.ddiv a b)) :: st) G I u Q) : jOk E K pc ls (VX (.double b) :: VX (.double a) :: st) G I u Q := by
  intro p l e s m args below meth c Z H locs cls hC hZ hH hS hL
  exact lv_ddiv hC.1 hC.2.1 d hne (W.eq (by simp [cv]) (k p l e s m args below meth c Z H locs cls hC hZ hH hS hL))
theorem r_dsub {a b : UInt64} (d : decode K.2.1 pc = .ok (.dsub, 1)) (hne : vf_n64 (FP.dsub a b)) (k : jOk E K (pc + 1) ls (VX (.double (FP.dsub a b)) :: st) G I u Q) : jOk E K pc ls (VX (.double b) :: VX (.double a) :: st) G I u Q := by
  intro p l e s m args below meth c Z H locs cls hC hZ hH hS hL
  exact lv_dsub hC.1 hC.2.1 d hne (W.eq (by simp [cv]) (k p l e s m args below meth c Z H locs cls hC hZ hH hS hL))
theorem r_fcmp {a b : UInt32} {op : CmpOp} (d : decode K.2.1 pc = .ok (.fcmp op, 1))  (k : jOk E K (pc + 1) ls (VI (Op.cmpValue (FP.fcmp a b) op).toInt :: st) G I u Q) : jOk E K pc ls (VX (.float b) :: VX (.float a) :: st) G I u Q := by
  intro p l e s m args below meth c Z H locs cls hC hZ hH hS hL
  exact lv_fcmp hC.1 hC.2.1 d (W.eq (by simp [cv]) (k p l e s m args below meth c Z H locs cls hC hZ hH hS hL))
theorem r_dcmp {a b : UInt64} {op : CmpOp} (d : decode K.2.1 pc = .ok (.dcmp op, 1))  (k : jOk E K (pc + 1) ls (VI (Op.cmpValue (FP.dcmp a b) op).toInt :: st) G I u Q) : jOk E K pc ls (VX (.double b) :: VX (.double a) :: st) G I u Q := by
  intro p l e s m args below meth c Z H locs cls hC hZ hH hS hL
  exact lv_dcmp hC.1 hC.2.1 d (W.eq (by simp [cv]) (k p l e s m args below meth c Z H locs cls hC hZ hH hS hL))
theorem r_ladd {a b : Int64} (d : decode K.2.1 pc = .ok (.ladd, 1))  (k : jOk E K (pc + 1) ls (VX (.long (a + b)) :: st) G I u Q) : jOk E K pc ls (VX (.long b) :: VX (.long a) :: st) G I u Q := by
  intro p l e s m args below meth c Z H locs cls hC hZ hH hS hL
  exact lv_ladd hC.1 hC.2.1 d (W.eq (by simp [cv]) (k p l e s m args below meth c Z H locs cls hC hZ hH hS hL))
theorem r_lsub {a b : Int64} (d : decode K.2.1 pc = .ok (.lsub, 1))  (k : jOk E K (pc + 1) ls (VX (.long (a - b)) :: st) G I u Q) : jOk E K pc ls (VX (.long b) :: VX (.long a) :: st) G I u Q := by
  intro p l e s m args below meth c Z H locs cls hC hZ hH hS hL
  exact lv_lsub hC.1 hC.2.1 d (W.eq (by simp [cv]) (k p l e s m args below meth c Z H locs cls hC hZ hH hS hL))
theorem r_lor {a b : Int64} (d : decode K.2.1 pc = .ok (.lor, 1))  (k : jOk E K (pc + 1) ls (VX (.long (a ||| b)) :: st) G I u Q) : jOk E K pc ls (VX (.long b) :: VX (.long a) :: st) G I u Q := by
  intro p l e s m args below meth c Z H locs cls hC hZ hH hS hL
  exact lv_lor hC.1 hC.2.1 d (W.eq (by simp [cv]) (k p l e s m args below meth c Z H locs cls hC hZ hH hS hL))
theorem r_lshl {a : Int64} {b : Int} (d : decode K.2.1 pc = .ok (.lshl, 1))  (k : jOk E K (pc + 1) ls (VX (.long (a <<< ((Int32.ofInt b).toInt64 &&& 63))) :: st) G I u Q) : jOk E K pc ls (VI b :: VX (.long a) :: st) G I u Q := by
  intro p l e s m args below meth c Z H locs cls hC hZ hH hS hL
  exact lv_lshl hC.1 hC.2.1 d rfl (W.eq (by simp [cv]) (k p l e s m args below meth c Z H locs cls hC hZ hH hS hL))
theorem r_dup {v : jV} (d : decode K.2.1 pc = .ok (.dup, 1)) (hv : jc2 v = false) (k : jOk E K (pc + 1) ls (v :: v :: st) G I u Q) : jOk E K pc ls (v :: st) G I u Q := by
  intro p l e s m args below meth c Z H locs cls hC hZ hH hS hL
  exact lv_dup hC.1 hC.2.1 d (jc2_cat hv) (W.eq (by simp [cv]) (k p l e s m args below meth c Z H locs cls hC hZ hH hS hL))
theorem r_dup2 {v w : jV} (d : decode K.2.1 pc = .ok (.dup2, 1)) (hv : jc2 v = false) (hw : jc2 w = false) (k : jOk E K (pc + 1) ls (v :: w :: v :: w :: st) G I u Q) : jOk E K pc ls (v :: w :: st) G I u Q := by
  intro p l e s m args below meth c Z H locs cls hC hZ hH hS hL
  exact lv_dup2_11 hC.1 hC.2.1 d (jc2_cat hv) (jc2_cat hw) (W.eq (by simp [cv]) (k p l e s m args below meth c Z H locs cls hC hZ hH hS hL))
theorem r_pop {v : jV} (d : decode K.2.1 pc = .ok (.pop, 1)) (hv : jc2 v = false) (k : jOk E K (pc + 1) ls (st) G I u Q) : jOk E K pc ls (v :: st) G I u Q := by
  intro p l e s m args below meth c Z H locs cls hC hZ hH hS hL
  exact lv_pop hC.1 hC.2.1 d (jc2_cat hv) (W.eq (by simp [cv]) (k p l e s m args below meth c Z H locs cls hC hZ hH hS hL))
theorem r_icmp_eq {a b off : Int} {tgt : Nat} (d : decode K.2.1 pc = .ok (.if_icmp .eq off, 3)) (ht : (pc : Int) + off = (tgt : Int)) (ha : jIn a) (hb : jIn b) (kt : a = b → jOk E K tgt ls st G I u Q) (kf : ¬ a = b → jOk E K (pc + 3) ls st G I u Q) : jOk E K pc ls (VI b :: VI a :: st) G I u Q := by
  intro p l e s m args below meth c Z H locs cls hC hZ hH hS hL
  exact lv_icmp_eq hC.1 hC.2.1 d ht (fun q => kt ((j32_eq ha hb).mp q) p l e s m args below meth c Z H locs cls hC hZ hH hS hL) (fun q => kf ((not_congr (j32_eq ha hb)).mp q) p l e s m args below meth c Z H locs cls hC hZ hH hS hL)
theorem r_icmp_ne {a b off : Int} {tgt : Nat} (d : decode K.2.1 pc = .ok (.if_icmp .ne off, 3)) (ht : (pc : Int) + off = (tgt : Int)) (ha : jIn a) (hb : jIn b) (kt : ¬ a = b → jOk E K tgt ls st G I u Q) (kf : a = b → jOk E K (pc + 3) ls st G I u Q) : jOk E K pc ls (VI b :: VI a :: st) G I u Q := by
  intro p l e s m args below meth c Z H locs cls hC hZ hH hS hL
  exact lv_icmp_ne hC.1 hC.2.1 d ht (fun q => kt ((not_congr (j32_eq ha hb)).mp q) p l e s m args below meth c Z H locs cls hC hZ hH hS hL) (fun q => kf ((j32_eq ha hb).mp q) p l e s m args below meth c Z H locs cls hC hZ hH hS hL)
theorem r_icmp_lt {a b off : Int} {tgt : Nat} (d : decode K.2.1 pc = .ok (.if_icmp .lt off, 3)) (ht : (pc : Int) + off = (tgt : Int)) (ha : jIn a) (hb : jIn b) (kt : a < b → jOk E K tgt ls st G I u Q) (kf : ¬ a < b → jOk E K (pc + 3) ls st G I u Q) : jOk E K pc ls (VI b :: VI a :: st) G I u Q := by
  intro p l e s m args below meth c Z H locs cls hC hZ hH hS hL
  exact lv_icmp_lt hC.1 hC.2.1 d ht (fun q => kt ((j32_lt ha hb).mp q) p l e s m args below meth c Z H locs cls hC hZ hH hS hL) (fun q => kf ((not_congr (j32_lt ha hb)).mp q) p l e s m args below meth c Z H locs cls hC hZ hH hS hL)
theorem r_icmp_ge {a b off : Int} {tgt : Nat} (d : decode K.2.1 pc = .ok (.if_icmp .ge off, 3)) (ht : (pc : Int) + off = (tgt : Int)) (ha : jIn a) (hb : jIn b) (kt : b ≤ a → jOk E K tgt ls st G I u Q) (kf : ¬ b ≤ a → jOk E K (pc + 3) ls st G I u Q) : jOk E K pc ls (VI b :: VI a :: st) G I u Q := by
  intro p l e s m args below meth c Z H locs cls hC hZ hH hS hL
  exact lv_icmp_ge hC.1 hC.2.1 d ht (fun q => kt ((j32_le hb ha).mp q) p l e s m args below meth c Z H locs cls hC hZ hH hS hL) (fun q => kf ((not_congr (j32_le hb ha)).mp q) p l e s m args below meth c Z H locs cls hC hZ hH hS hL)
theorem r_icmp_gt {a b off : Int} {tgt : Nat} (d : decode K.2.1 pc = .ok (.if_icmp .gt off, 3)) (ht : (pc : Int) + off = (tgt : Int)) (ha : jIn a) (hb : jIn b) (kt : b < a → jOk E K tgt ls st G I u Q) (kf : ¬ b < a → jOk E K (pc + 3) ls st G I u Q) : jOk E K pc ls (VI b :: VI a :: st) G I u Q := by
  intro p l e s m args below meth c Z H locs cls hC hZ hH hS hL
  exact lv_icmp_gt hC.1 hC.2.1 d ht (fun q => kt ((j32_lt hb ha).mp q) p l e s m args below meth c Z H locs cls hC hZ hH hS hL) (fun q => kf ((not_congr (j32_lt hb ha)).mp q) p l e s m args below meth c Z H locs cls hC hZ hH hS hL)
theorem r_icmp_le {a b off : Int} {tgt : Nat} (d : decode K.2.1 pc = .ok (.if_icmp .le off, 3)) (ht : (pc : Int) + off = (tgt : Int)) (ha : jIn a) (hb : jIn b) (kt : a ≤ b → jOk E K tgt ls st G I u Q) (kf : ¬ a ≤ b → jOk E K (pc + 3) ls st G I u Q) : jOk E K pc ls (VI b :: VI a :: st) G I u Q := by
  intro p l e s m args below meth c Z H locs cls hC hZ hH hS hL
  exact lv_icmp_le hC.1 hC.2.1 d ht (fun q => kt ((j32_le ha hb).mp q) p l e s m args below meth c Z H locs cls hC hZ hH hS hL) (fun q => kf ((not_congr (j32_le ha hb)).mp q) p l e s m args below meth c Z H locs cls hC hZ hH hS hL)
theorem r_if_eq {a off : Int} {tgt : Nat} (d : decode K.2.1 pc = .ok (.ifCond .eq off, 3)) (ht : (pc : Int) + off = (tgt : Int)) (ha : jIn a) (kt : a = 0 → jOk E K tgt ls st G I u Q) (kf : ¬ a = 0 → jOk E K (pc + 3) ls st G I u Q) : jOk E K pc ls (VI a :: st) G I u Q := by
  intro p l e s m args below meth c Z H locs cls hC hZ hH hS hL
  exact lv_if_eq hC.1 hC.2.1 d ht (fun q => kt ((j32_eq ha j_zero).mp q) p l e s m args below meth c Z H locs cls hC hZ hH hS hL) (fun q => kf ((not_congr (j32_eq ha j_zero)).mp q) p l e s m args below meth c Z H locs cls hC hZ hH hS hL)
theorem r_if_ne {a off : Int} {tgt : Nat} (d : decode K.2.1 pc = .ok (.ifCond .ne off, 3)) (ht : (pc : Int) + off = (tgt : Int)) (ha : jIn a) (kt : ¬ a = 0 → jOk E K tgt ls st G I u Q) (kf : a = 0 → jOk E K (pc + 3) ls st G I u Q) : jOk E K pc ls (VI a :: st) G I u Q := by
  intro p l e s m args below meth c Z H locs cls hC hZ hH hS hL
  exact lv_if_ne hC.1 hC.2.1 d ht (fun q => kt ((not_congr (j32_eq ha j_zero)).mp q) p l e s m args below meth c Z H locs cls hC hZ hH hS hL) (fun q => kf ((j32_eq ha j_zero).mp q) p l e s m args below meth c Z H locs cls hC hZ hH hS hL)
theorem r_if_lt {a off : Int} {tgt : Nat} (d : decode K.2.1 pc = .ok (.ifCond .lt off, 3)) (ht : (pc : Int) + off = (tgt : Int)) (ha : jIn a) (kt : a < 0 → jOk E K tgt ls st G I u Q) (kf : ¬ a < 0 → jOk E K (pc + 3) ls st G I u Q) : jOk E K pc ls (VI a :: st) G I u Q := by
  intro p l e s m args below meth c Z H locs cls hC hZ hH hS hL
  exact lv_if_lt hC.1 hC.2.1 d ht (fun q => kt ((j32_lt ha j_zero).mp q) p l e s m args below meth c Z H locs cls hC hZ hH hS hL) (fun q => kf ((not_congr (j32_lt ha j_zero)).mp q) p l e s m args below meth c Z H locs cls hC hZ hH hS hL)
theorem r_if_ge {a off : Int} {tgt : Nat} (d : decode K.2.1 pc = .ok (.ifCond .ge off, 3)) (ht : (pc : Int) + off = (tgt : Int)) (ha : jIn a) (kt : 0 ≤ a → jOk E K tgt ls st G I u Q) (kf : ¬ 0 ≤ a → jOk E K (pc + 3) ls st G I u Q) : jOk E K pc ls (VI a :: st) G I u Q := by
  intro p l e s m args below meth c Z H locs cls hC hZ hH hS hL
  exact lv_if_ge hC.1 hC.2.1 d ht (fun q => kt ((j32_le j_zero ha).mp q) p l e s m args below meth c Z H locs cls hC hZ hH hS hL) (fun q => kf ((not_congr (j32_le j_zero ha)).mp q) p l e s m args below meth c Z H locs cls hC hZ hH hS hL)
theorem r_if_gt {a off : Int} {tgt : Nat} (d : decode K.2.1 pc = .ok (.ifCond .gt off, 3)) (ht : (pc : Int) + off = (tgt : Int)) (ha : jIn a) (kt : 0 < a → jOk E K tgt ls st G I u Q) (kf : ¬ 0 < a → jOk E K (pc + 3) ls st G I u Q) : jOk E K pc ls (VI a :: st) G I u Q := by
  intro p l e s m args below meth c Z H locs cls hC hZ hH hS hL
  exact lv_if_gt hC.1 hC.2.1 d ht (fun q => kt ((j32_lt j_zero ha).mp q) p l e s m args below meth c Z H locs cls hC hZ hH hS hL) (fun q => kf ((not_congr (j32_lt j_zero ha)).mp q) p l e s m args below meth c Z H locs cls hC hZ hH hS hL)
theorem r_if_le {a off : Int} {tgt : Nat} (d : decode K.2.1 pc = .ok (.ifCond .le off, 3)) (ht : (pc : Int) + off = (tgt : Int)) (ha : jIn a) (kt : a ≤ 0 → jOk E K tgt ls st G I u Q) (kf : ¬ a ≤ 0 → jOk E K (pc + 3) ls st G I u Q) : jOk E K pc ls (VI a :: st) G I u Q := by
  intro p l e s m args below meth c Z H locs cls hC hZ hH hS hL
  exact lv_if_le hC.1 hC.2.1 d ht (fun q => kt ((j32_le ha j_zero).mp q) p l e s m args below meth c Z H locs cls hC hZ hH hS hL) (fun q => kf ((not_congr (j32_le ha j_zero)).mp q) p l e s m args below meth c Z H locs cls hC hZ hH hS hL)
theorem r_goto {off : Int} {tgt : Nat} (d : decode K.2.1 pc = .ok (.goto off, 3)) (ht : (pc : Int) + off = (tgt : Int)) (k : jOk E K tgt ls st G I u Q) : jOk E K pc ls st G I u Q := by
  intro p l e s m args below meth c Z H locs cls hC hZ hH hS hL
  exact lv_goto hC.1 hC.2.1 d ht (k p l e s m args below meth c Z H locs cls hC hZ hH hS hL)
theorem r_tswIn {dflt lo hi x off : Int} {offs : Array Int} {len tgt : Nat} (d : decode K.2.1 pc = .ok (.tableswitch dflt lo hi offs, len)) (hx : jIn x) (h1 : ¬ x < lo) (h2 : ¬ hi < x) (ho : offs[(x - lo).toNat]? = some off) (ht : (pc : Int) + off = (tgt : Int)) (k : jOk E K tgt ls st G I u Q) : jOk E K pc ls (VI x :: st) G I u Q := by
  intro p l e s m args below meth c Z H locs cls hC hZ hH hS hL
  have e0 : (Int32.ofInt x).toInt = x := Int32.toInt_ofInt_of_le (by omega) (by omega)
  exact lv_tableIn hC.1 hC.2.1 d (by rw [e0]; exact h1) (by rw [e0]; exact h2) (by rw [e0]; exact ho) ht (k p l e s m args below meth c Z H locs cls hC hZ hH hS hL)
theorem r_tswOut {dflt lo hi x : Int} {offs : Array Int} {len tgt : Nat} (d : decode K.2.1 pc = .ok (.tableswitch dflt lo hi offs, len)) (hx : jIn x) (h : x < lo ∨ hi < x) (ht : (pc : Int) + dflt = (tgt : Int)) (k : jOk E K tgt ls st G I u Q) : jOk E K pc ls (VI x :: st) G I u Q := by
  intro p l e s m args below meth c Z H locs cls hC hZ hH hS hL
  have e0 : (Int32.ofInt x).toInt = x := Int32.toInt_ofInt_of_le (by omega) (by omega)
  exact lv_tableOut hC.1 hC.2.1 d (by rw [e0]; exact h) ht (k p l e s m args below meth c Z H locs cls hC hZ hH hS hL)
theorem r_lsw {dflt x off : Int} {ps : Array (Int × Int)} {len tgt : Nat} (d : decode K.2.1 pc = .ok (.lookupswitch dflt ps, len)) (hp : (ps.toList.zip (ps.toList.drop 1)).all (fun (a, next) => a.1 < next.1) = true) (hx : jIn x) (ho : Op.lookupswitch.offset ps.toList dflt x = off) (ht : (pc : Int) + off = (tgt : Int)) (k : jOk E K tgt ls st G I u Q) : jOk E K pc ls (VI x :: st) G I u Q := by
  intro p l e s m args below meth c Z H locs cls hC hZ hH hS hL
  have e0 : (Int32.ofInt x).toInt = x := Int32.toInt_ofInt_of_le (by omega) (by omega)
  exact lv_lookup hC.1 hC.2.1 d hp (by rw [e0]; exact ho) ht (k p l e s m args below meth c Z H locs cls hC hZ hH hS hL)
theorem r_w {x : Int} (k : jOk E K pc ls (VI (jw x) :: st) G I u Q) : jOk E K pc ls (VI x :: st) G I u Q := by
  intro p l e s m args below meth c Z H locs cls hC hZ hH hS hL
  exact W.eq (by simp only [List.map_cons, cv, jw, Int32.ofInt_toInt]) (k p l e s m args below meth c Z H locs cls hC hZ hH hS hL)
theorem r_iret {x : Int} (d : decode K.2.1 pc = .ok (.ireturn, 1)) (hr : K.2.2.2.1 = some .int) (hx : jIn x) (hu : u.1 ≤ K.2.2.2.2.cells ∧ u.2 ≤ K.2.2.2.2.slots) (k : Q (VI x) G I) : jOk E K pc ls [VI x] G I u Q := by
  intro p l e s m args below meth c Z H locs cls hC hZ hH hS hL
  exact W.widen hu.1 hu.2 (hZ pc H locs cls (VI x) G I .ireturn d ⟨rfl, Or.inl hr⟩ hx k hH hS)
theorem r_zret {x : Int} (d : decode K.2.1 pc = .ok (.ireturn, 1)) (hr : K.2.2.2.1 = some .boolean) (hx : 0 ≤ x ∧ x ≤ 1) (hu : u.1 ≤ K.2.2.2.2.cells ∧ u.2 ≤ K.2.2.2.2.slots) (k : Q (VI x) G I) : jOk E K pc ls [VI x] G I u Q := by
  intro p l e s m args below meth c Z H locs cls hC hZ hH hS hL
  exact W.widen hu.1 hu.2 (hZ pc H locs cls (VI x) G I .ireturn d ⟨rfl, Or.inr ⟨hr, hx⟩⟩ ⟨by omega, by omega⟩ k hH hS)
theorem r_aret {x : Nat} {n : String} (d : decode K.2.1 pc = .ok (.areturn, 1)) (hr : K.2.2.2.1 = some (.object n)) (hu : u.1 ≤ K.2.2.2.2.cells ∧ u.2 ≤ K.2.2.2.2.slots) (k : Q (VR x) G I) : jOk E K pc ls [VR x] G I u Q := by
  intro p l e s m args below meth c Z H locs cls hC hZ hH hS hL
  exact W.widen hu.1 hu.2 (hZ pc H locs cls (VR x) G I .areturn d ⟨rfl, _, hr⟩ trivial k hH hS)
theorem r_lret {x : Int64} (d : decode K.2.1 pc = .ok (.lreturn, 1)) (hr : K.2.2.2.1 = some .long) (hu : u.1 ≤ K.2.2.2.2.cells ∧ u.2 ≤ K.2.2.2.2.slots) (k : Q (VX (.long x)) G I) : jOk E K pc ls [VX (.long x)] G I u Q := by
  intro p l e s m args below meth c Z H locs cls hC hZ hH hS hL
  exact W.widen hu.1 hu.2 (hZ pc H locs cls (VX (.long x)) G I .lreturn d ⟨rfl, hr⟩ trivial k hH hS)
theorem r_vret  (d : decode K.2.1 pc = .ok (.return_, 1)) (hr : K.2.2.2.1 = none) (hu : u.1 ≤ K.2.2.2.2.cells ∧ u.2 ≤ K.2.2.2.2.slots) (k : Q (VN) G I) : jOk E K pc ls [] G I u Q := by
  intro p l e s m args below meth c Z H locs cls hC hZ hH hS hL
  exact W.widen hu.1 hu.2 (hZ pc H locs cls (VN) G I .return_ d ⟨rfl, hr⟩ trivial k hH hS)
end JR
