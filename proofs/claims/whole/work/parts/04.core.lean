/-! ===== a lighter machine over the kit's W: ints as Int, addresses counted from the law's start on, memory as functions ===== -/
/-- where the law's own cells begin; the classes' numbers and slots; the array classes -/
abbrev jE : Type := Nat × va_G × (Nat → ClassId)
/-- ints of a cell, by address and place (fields, elements); a reference field that changes holds its address, below 0 for null -/
abbrev jM : Type := Nat → Int → Int
/-- references that stay, shapes (class, or 100 + kind of array, and length), how many cells -/
abbrev jG : Type := (Nat → Int → Option Nat) × (Nat → Nat × Nat) × Nat
abbrev jV : Type := Int ⊕ (Nat ⊕ Value)
/-- a method: name, code, locals, what it returns, its room -/
abbrev jK : Type := MethodName × ByteArray × Nat × Option FieldType × Room
abbrev VI (x : Int) : jV := .inl x
abbrev VR (a : Nat) : jV := .inr (.inl a)
abbrev VX (v : Value) : jV := .inr (.inr v)
abbrev VN : jV := .inr (.inr .null)
abbrev jIn (x : Int) : Prop := -2147483648 ≤ x ∧ x ≤ 2147483647
def cv (z : Nat) : jV → Value
  | .inl x => .int (Int32.ofInt x)
  | .inr (.inl a) => .ref (z + a)
  | .inr (.inr v) => v
def jN (v : jV) : Bool := match v with
  | .inr (.inr .null) => true
  | _ => false
def jc2 (v : jV) : Bool := match v with
  | .inr (.inr (.long _)) => true
  | .inr (.inr (.double _)) => true
  | _ => false
def jokv (v : jV) : Prop := match v with
  | .inl x => jIn x
  | _ => True
/-- which fields are references: 0 an int, 1 one that stays, 2 one that changes -/
def jfkT : List (List Nat) := [[1, 1], [2, 2, 1, 1, 0, 0, 1, 1, 1, 1, 1, 1, 1, 1, 1, 0], [1, 0, 0], [1, 1, 0, 0, 0, 0], [1, 1, 0, 1, 1, 0], [1, 0, 0, 2, 0, 0], [1, 0, 1, 1, 1, 1, 1, 1, 1, 1, 1, 1, 1], [1, 2, 0, 0, 0, 1, 1, 0, 1, 0, 0], [1, 1, 0], [1, 0, 2, 1, 1, 1, 1, 1, 1, 1, 0, 1, 1, 0, 0, 0, 1, 1], [1, 1, 1, 1, 0, 1, 1, 0, 1, 1, 1, 1, 1, 1, 1, 1, 1, 0, 1, 1, 0, 0, 1, 1, 0, 1, 0, 1, 0, 0, 0, 0, 0, 1, 1, 1, 1, 1, 1, 1, 0, 0, 0, 0]]
def jfk (ci j : Nat) : Nat := (jfkT.getD ci []).getD j 0
def jrf (z : Nat) (o : Option Nat) : Value := match o with
  | none => .null
  | some q => .ref (z + q)
def jfv (z : Nat) (G : jG) (I : jM) (ci a j : Nat) : Value := if jfk ci j = 0 then .int (Int32.ofInt (I a j)) else if jfk ci j = 1 then jrf z (G.1 a j) else if I a j < 0 then .null else .ref (z + (I a j).toNat)
def jev (z : Nat) (G : jG) (I : jM) (k a j : Nat) : Value := if k < 103 then .int (Int32.ofInt (I a j)) else jrf z (G.1 a j)
/-- the cell a, as G and I have it -/
def jAt (E : jE) (G : jG) (I : jM) (a : Nat) (H : Heap) : Prop :=
  if (G.2.1 a).1 < 100 then ∃ r : vw_C, vwCl[(G.2.1 a).1]? = some r ∧ t_OB (E.1 + a) (E.2.1.1 (G.2.1 a).1) r.2.2 (E.2.1.2 (G.2.1 a).1) H (jfv E.1 G I (G.2.1 a).1 a)
  else (G.2.1 a).1 < 105 ∧ H[E.1 + a]? = some (arrV (E.2.2 (G.2.1 a).1) (G.2.1 a).2 (jev E.1 G I (G.2.1 a).1 a))
/-- what an int in a cell of this kind may be -/
def jRg (k : Nat) (x : Int) : Prop := if k = 101 then -128 ≤ x ∧ x ≤ 127 else if k = 102 then 0 ≤ x ∧ x ≤ 1 else jIn x
def jHP (E : jE) (G : jG) (I : jM) (H : Heap) : Prop := H.size = E.1 + G.2.2 ∧ (∀ (a : Nat) (j : Int), jRg (G.2.1 a).1 (I a j)) ∧ ∀ a, a < G.2.2 → jAt E G I a H
theorem jRg.inR {k : Nat} {x : Int} (h : jRg k x) : jIn x := by
  unfold jRg at h
  split at h
  · exact ⟨by omega, by omega⟩
  · split at h
    · exact ⟨by omega, by omega⟩
    · exact h
def jtys (E : jE) : List (ClassId × FieldType) := [(E.2.2 100, .int), (E.2.2 101, .byte), (E.2.2 102, .boolean), (E.2.2 103, .object RX7), (E.2.2 104, .object RX4)]
def jisN (w : Cond) : Bool := match w with
  | .methodLinkNest .. => true
  | _ => false
def jTB : List Cond := lw_tbl.filter goodWord
def jNB : List Cond := lw_tbl.filter jisN
/-- what of a state every method needs: its classes, its nest words, its array words -/
def jKn (E : jE) (U : State) : Prop := va_K E.2.1 vwCl (jtys E) U ∧ (∀ w ∈ jNB, va_Nw w U) ∧ va_AO RX7 U ∧ va_AO RX4 U
theorem jKn.warm {E : jE} {s U : State} (h : jKn E s) (hW : s.WarmedH U.vm) : jKn E U := by
  refine ⟨va_K.moved hW.alike h.1, fun w hw => ?_, va_AO.moved hW.alike h.2.2.1, va_AO.moved hW.alike h.2.2.2⟩
  have h1 := h.2.1 w hw
  have h2 := (List.mem_filter.mp hw).2
  cases w <;> first | exact va_Nw.warmM hW h1 | (exact absurd h2 (by simp [jisN]))
theorem jKn.same {E : jE} {s U : State} (h : jKn E s) (hv : s.vm = U.vm) : jKn E U := by
  refine ⟨va_K.moved (by rw [hv]; exact Vm.Alike.refl U.vm) h.1, fun w hw => ?_, va_AO.moved (by rw [hv]; exact Vm.Alike.refl U.vm) h.2.2.1, va_AO.moved (by rw [hv]; exact Vm.Alike.refl U.vm) h.2.2.2⟩
  have h1 := h.2.1 w hw
  have h2 := (List.mem_filter.mp hw).2
  cases w <;> first | exact va_Nw.same rfl hv h1 | (exact absurd h2 (by simp [jisN]))
/-- the locals -/
def jLs (z : Nat) (ls : List jV) (nL : Nat) (cls : Array Slot) : Prop := cls.size = nL ∧ lv_wf cls ∧ ∀ (i : Nat) (v : jV), ls[i]? = some v → jN v = false → cls[i]? = some (.val (cv z v)) ∧ jokv v
def jws (K : jK) : List Cond := .code K.1 K.2.1 K.2.2.1 K.2.2.2.1 :: jTB
def jC (E : jE) (K : jK) (p : Program) (s : State) (m : MethodId) (args : Array Value) (meth : Method) (c : Code) : Prop :=
  p.tables.exec = Jvm.exec ∧ c.code = K.2.1 ∧ c.maxLocals = K.2.2.1 ∧ s.vm.findClass K.1.cls = some m.cls ∧ (∀ w ∈ jTB, w.before args s = true) ∧ jKn E s ∧ meth.name = K.1.name ∧ E.1 ≤ s.heap.size
def jrs (z : Nat) (r : jV) : List Value := if jN r then [] else [cv z r]
/-- how a method may end with r: the instruction, the kind of r -/
def jRet (K : jK) (i : Instr) (r : jV) : Prop := match r with
  | .inl x => i = .ireturn ∧ (K.2.2.2.1 = some .int ∨ (K.2.2.2.1 = some .boolean ∧ 0 ≤ x ∧ x ≤ 1))
  | .inr (.inl _) => i = .areturn ∧ ∃ n, K.2.2.2.1 = some (.object n)
  | .inr (.inr .null) => i = .return_ ∧ K.2.2.2.1 = none
  | .inr (.inr (.long _)) => i = .lreturn ∧ K.2.2.2.1 = some .long
  | _ => False
def jEnd (E : jE) (K : jK) (p : Program) (l : Launch) (e : Jvm.Env) (s : State) (m : MethodId) (args : Array Value) (below : List Frame) (meth : Method) (c : Code) (Z : State → Prop) (Q : jV → jG → jM → Prop) : Prop :=
  ∀ (pc : Nat) (H : Heap) (locs : List Loc) (cls : Array Slot) (r : jV) (G : jG) (I : jM) (i : Instr), decode K.2.1 pc = .ok (i, 1) → jRet K i r → jokv r → Q r G I → jHP E G I H → va_S (fun q => E.1 ≤ q) s.heap H locs → W p l e K.2.2.2.2 s m args below meth c H locs K.2.2.2.2.cells K.2.2.2.2.slots Z (F0 m pc cls (jrs E.1 r))
/-- from pc on, with these locals, this stack, this memory, the method comes to its end, with Q -/
def jOk (E : jE) (K : jK) (pc : Nat) (ls st : List jV) (G : jG) (I : jM) (u : Nat × Nat) (Q : jV → jG → jM → Prop) : Prop :=
  ∀ (p : Program) (l : Launch) (e : Jvm.Env) (s : State) (m : MethodId) (args : Array Value) (below : List Frame) (meth : Method) (c : Code) (Z : State → Prop) (H : Heap) (locs : List Loc) (cls : Array Slot),
    jC E K p s m args meth c → jEnd E K p l e s m args below meth c Z Q → jHP E G I H → va_S (fun q => E.1 ≤ q) s.heap H locs → jLs E.1 ls K.2.2.1 cls →
    W p l e K.2.2.2.2 s m args below meth c H locs u.1 u.2 Z (F0 m pc cls (st.map (cv E.1)))
def jPre (E : jE) (as : List jV) (G : jG) (I : jM) : Array Value → State → Prop := fun v U => v = (as.map (cv E.1)).toArray ∧ jHP E G I U.heap ∧ jKn E U ∧ ∀ x ∈ as, jokv x
def jPost (E : jE) (Q : jV → jG → jM → Prop) : Array Value → State → Outcome → State → Prop := fun _ st o t =>
  ∃ (r : jV) (G : jG) (I : jM), o = .returned (jrs E.1 r).head? ∧ jokv r ∧ Q r G I ∧ jHP E G I t.heap ∧ st.heap.size ≤ t.heap.size ∧ ∀ q : Nat, q < st.heap.size → ¬ E.1 ≤ q → t.heap[q]? = st.heap[q]?
/-- the method, called with these, ends with Q -/
def jRun (E : jE) (K : jK) (as : List jV) (G : jG) (I : jM) (Q : jV → jG → jM → Prop) : Prop := ∀ l : Launch, Met l K.1 (jws K) K.2.2.2.2 (jPre E as G I) (jPost E Q) K.2.2.2.2.cells K.2.2.2.2.slots (fun q => E.1 ≤ q)
