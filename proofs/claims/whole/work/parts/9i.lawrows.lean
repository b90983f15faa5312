/-! ===== the law's own rows: the start's word X is kept along ===== -/
def jOy (E : jE) (X : State → Prop) (K : jK) (pc : Nat) (ls st : List jV) (G : jG) (I : jM) (u : Nat × Nat) (Q : jV → jG → jM → Prop) : Prop :=
  ∀ (p : Program) (l : Launch) (e : Jvm.Env) (s : State) (m : MethodId) (args : Array Value) (below : List Frame) (meth : Method) (c : Code) (Z : State → Prop) (H : Heap) (locs : List Loc) (cls : Array Slot),
    X s → jC E K p s m args meth c → jEnd E K p l e s m args below meth c Z Q → jHP E G I H → va_S (fun q => E.1 ≤ q) s.heap H locs → jLs E.1 ls K.2.2.1 cls →
    W p l e K.2.2.2.2 s m args below meth c H locs u.1 u.2 Z (F0 m pc cls (st.map (cv E.1)))
section JRy
variable {E : jE} {X : State → Prop} {K : jK} {pc : Nat} {ls st : List jV} {G : jG} {I : jM} {u : Nat × Nat} {Q : jV → jG → jM → Prop}
theorem y_iconst {n : Int} (d : decode K.2.1 pc = .ok (.iconst n, 1))  (k : jOy E X K (pc + 1) ls (VI n :: st) G I u Q) : jOy E X K pc ls (st) G I u Q := by
  intro p l e s m args below meth c Z H locs cls hX hC hZ hH hS hL
  exact lv_iconst hC.1 hC.2.1 d rfl (W.eq (by simp [cv]) (k p l e s m args below meth c Z H locs cls hX hC hZ hH hS hL))
theorem y_bipush {n : Int} (d : decode K.2.1 pc = .ok (.bipush n, 2)) (hv : (Int8.ofInt n).toInt32 = Int32.ofInt n) (k : jOy E X K (pc + 2) ls (VI n :: st) G I u Q) : jOy E X K pc ls (st) G I u Q := by
  intro p l e s m args below meth c Z H locs cls hX hC hZ hH hS hL
  exact lv_bipush hC.1 hC.2.1 d hv (W.eq (by simp [cv]) (k p l e s m args below meth c Z H locs cls hX hC hZ hH hS hL))
theorem y_iload_n {j : Fin 4} {i : Nat} {x : Int} (d : decode K.2.1 pc = .ok (.iload_n j, 1)) (hi : (j : Nat) = i) (h : ls[i]? = some (VI x)) (k : jOy E X K (pc + 1) ls (VI x :: st) G I u Q) : jOy E X K pc ls st G I u Q := by
  intro p l e s m args below meth c Z H locs cls hX hC hZ hH hS hL
  exact lv_iload_n hC.1 hC.2.1 d hi (hL.2.2 i _ h rfl).1 (k p l e s m args below meth c Z H locs cls hX hC hZ hH hS hL)
theorem y_aload_n {j : Fin 4} {i : Nat} {x : Nat} (d : decode K.2.1 pc = .ok (.aload_n j, 1)) (hi : (j : Nat) = i) (h : ls[i]? = some (VR x)) (k : jOy E X K (pc + 1) ls (VR x :: st) G I u Q) : jOy E X K pc ls st G I u Q := by
  intro p l e s m args below meth c Z H locs cls hX hC hZ hH hS hL
  exact lv_aload_n hC.1 hC.2.1 d hi (hL.2.2 i _ h rfl).1 (k p l e s m args below meth c Z H locs cls hX hC hZ hH hS hL)
theorem y_xload_n {j : Fin 4} {i : Nat} {x : Nat} (d : decode K.2.1 pc = .ok (.aload_n j, 1)) (hi : (j : Nat) = i) (h : ls[i]? = some (VX (.ref x))) (k : jOy E X K (pc + 1) ls (VX (.ref x) :: st) G I u Q) : jOy E X K pc ls st G I u Q := by
  intro p l e s m args below meth c Z H locs cls hX hC hZ hH hS hL
  exact lv_aload_n hC.1 hC.2.1 d hi (hL.2.2 i _ h rfl).1 (k p l e s m args below meth c Z H locs cls hX hC hZ hH hS hL)
theorem y_istore_n {j : Fin 4} {i : Nat} {x : Int} (d : decode K.2.1 pc = .ok (.istore_n j, 1)) (hi : (j : Nat) = i) (hn : i < K.2.2.1) (h1 : jst ls i = true) (hx : jIn x) (k : jOy E X K (pc + 1) (ls.set i (VI x)) st G I u Q) : jOy E X K pc ls (VI x :: st) G I u Q := by
  intro p l e s m args below meth c Z H locs cls hX hC hZ hH hS hL
  exact lv_istore_n hC.1 hC.2.1 d hi hL.has hn rfl (fun cls' h' => k p l e s m args below meth c Z H locs cls' hX hC hZ hH hS (hL.store (v := VI x) h1 hx h'))
theorem y_astore_n {j : Fin 4} {i : Nat} {x : Nat} (d : decode K.2.1 pc = .ok (.astore_n j, 1)) (hi : (j : Nat) = i) (hn : i < K.2.2.1) (h1 : jst ls i = true) (k : jOy E X K (pc + 1) (ls.set i (VR x)) st G I u Q) : jOy E X K pc ls (VR x :: st) G I u Q := by
  intro p l e s m args below meth c Z H locs cls hX hC hZ hH hS hL
  exact lv_astore_n hC.1 hC.2.1 d hi hL.has hn rfl (fun cls' h' => k p l e s m args below meth c Z H locs cls' hX hC hZ hH hS (hL.store (v := VR x) h1 trivial h'))
theorem y_iinc {i : Nat} {n x : Int} (d : decode K.2.1 pc = .ok (.iinc i n, 3)) (h : ls[i]? = some (VI x)) (hn : i < K.2.2.1) (h1 : jst ls i = true) (hx : jIn (x + n)) (k : jOy E X K (pc + 3) (ls.set i (VI (x + n))) st G I u Q) : jOy E X K pc ls st G I u Q := by
  intro p l e s m args below meth c Z H locs cls hX hC hZ hH hS hL
  obtain ⟨k0, hk0⟩ := List.getElem?_of_mem (jl_mem (z := E.1) h rfl)
  exact lv_iinc (x := Int32.ofInt x) (v := Int32.ofInt (x + n)) hC.1 hC.2.1 d hL.has hk0 (by rw [Int32.ofInt_add]) hn rfl (fun cls' h' => k p l e s m args below meth c Z H locs cls' hX hC hZ hH hS (hL.store (v := VI (x + n)) h1 hx h'))
theorem y_iadd {a b : Int} (d : decode K.2.1 pc = .ok (.iadd, 1))  (k : jOy E X K (pc + 1) ls (VI (a + b) :: st) G I u Q) : jOy E X K pc ls (VI b :: VI a :: st) G I u Q := by
  intro p l e s m args below meth c Z H locs cls hX hC hZ hH hS hL
  exact lv_iadd hC.1 hC.2.1 d (W.eq (by simp [cv]) (k p l e s m args below meth c Z H locs cls hX hC hZ hH hS hL))
theorem y_isub {a b : Int} (d : decode K.2.1 pc = .ok (.isub, 1))  (k : jOy E X K (pc + 1) ls (VI (a - b) :: st) G I u Q) : jOy E X K pc ls (VI b :: VI a :: st) G I u Q := by
  intro p l e s m args below meth c Z H locs cls hX hC hZ hH hS hL
  exact lv_isub hC.1 hC.2.1 d (W.eq (by simp [cv]) (k p l e s m args below meth c Z H locs cls hX hC hZ hH hS hL))
theorem y_iand {a b : Int} (d : decode K.2.1 pc = .ok (.iand, 1))  (k : jOy E X K (pc + 1) ls (VI (jand a b) :: st) G I u Q) : jOy E X K pc ls (VI b :: VI a :: st) G I u Q := by
  intro p l e s m args below meth c Z H locs cls hX hC hZ hH hS hL
  exact lv_iand hC.1 hC.2.1 d (W.eq (by simp [cv, jand]) (k p l e s m args below meth c Z H locs cls hX hC hZ hH hS hL))
theorem y_dup {v : jV} (d : decode K.2.1 pc = .ok (.dup, 1)) (hv : jc2 v = false) (k : jOy E X K (pc + 1) ls (v :: v :: st) G I u Q) : jOy E X K pc ls (v :: st) G I u Q := by
  intro p l e s m args below meth c Z H locs cls hX hC hZ hH hS hL
  exact lv_dup hC.1 hC.2.1 d (jc2_cat hv) (W.eq (by simp [cv]) (k p l e s m args below meth c Z H locs cls hX hC hZ hH hS hL))
theorem y_icmp_eq {a b off : Int} {tgt : Nat} (d : decode K.2.1 pc = .ok (.if_icmp .eq off, 3)) (ht : (pc : Int) + off = (tgt : Int)) (ha : jIn a) (hb : jIn b) (kt : a = b → jOy E X K tgt ls st G I u Q) (kf : ¬ a = b → jOy E X K (pc + 3) ls st G I u Q) : jOy E X K pc ls (VI b :: VI a :: st) G I u Q := by
  intro p l e s m args below meth c Z H locs cls hX hC hZ hH hS hL
  exact lv_icmp_eq hC.1 hC.2.1 d ht (fun q => kt ((j32_eq ha hb).mp q) p l e s m args below meth c Z H locs cls hX hC hZ hH hS hL) (fun q => kf ((not_congr (j32_eq ha hb)).mp q) p l e s m args below meth c Z H locs cls hX hC hZ hH hS hL)
theorem y_icmp_gt {a b off : Int} {tgt : Nat} (d : decode K.2.1 pc = .ok (.if_icmp .gt off, 3)) (ht : (pc : Int) + off = (tgt : Int)) (ha : jIn a) (hb : jIn b) (kt : b < a → jOy E X K tgt ls st G I u Q) (kf : ¬ b < a → jOy E X K (pc + 3) ls st G I u Q) : jOy E X K pc ls (VI b :: VI a :: st) G I u Q := by
  intro p l e s m args below meth c Z H locs cls hX hC hZ hH hS hL
  exact lv_icmp_gt hC.1 hC.2.1 d ht (fun q => kt ((j32_lt hb ha).mp q) p l e s m args below meth c Z H locs cls hX hC hZ hH hS hL) (fun q => kf ((not_congr (j32_lt hb ha)).mp q) p l e s m args below meth c Z H locs cls hX hC hZ hH hS hL)
theorem y_if_eq {a off : Int} {tgt : Nat} (d : decode K.2.1 pc = .ok (.ifCond .eq off, 3)) (ht : (pc : Int) + off = (tgt : Int)) (ha : jIn a) (kt : a = 0 → jOy E X K tgt ls st G I u Q) (kf : ¬ a = 0 → jOy E X K (pc + 3) ls st G I u Q) : jOy E X K pc ls (VI a :: st) G I u Q := by
  intro p l e s m args below meth c Z H locs cls hX hC hZ hH hS hL
  exact lv_if_eq hC.1 hC.2.1 d ht (fun q => kt ((j32_eq ha j_zero).mp q) p l e s m args below meth c Z H locs cls hX hC hZ hH hS hL) (fun q => kf ((not_congr (j32_eq ha j_zero)).mp q) p l e s m args below meth c Z H locs cls hX hC hZ hH hS hL)
theorem y_if_ne {a off : Int} {tgt : Nat} (d : decode K.2.1 pc = .ok (.ifCond .ne off, 3)) (ht : (pc : Int) + off = (tgt : Int)) (ha : jIn a) (kt : ¬ a = 0 → jOy E X K tgt ls st G I u Q) (kf : a = 0 → jOy E X K (pc + 3) ls st G I u Q) : jOy E X K pc ls (VI a :: st) G I u Q := by
  intro p l e s m args below meth c Z H locs cls hX hC hZ hH hS hL
  exact lv_if_ne hC.1 hC.2.1 d ht (fun q => kt ((not_congr (j32_eq ha j_zero)).mp q) p l e s m args below meth c Z H locs cls hX hC hZ hH hS hL) (fun q => kf ((j32_eq ha j_zero).mp q) p l e s m args below meth c Z H locs cls hX hC hZ hH hS hL)
theorem y_goto {off : Int} {tgt : Nat} (d : decode K.2.1 pc = .ok (.goto off, 3)) (ht : (pc : Int) + off = (tgt : Int)) (k : jOy E X K tgt ls st G I u Q) : jOy E X K pc ls st G I u Q := by
  intro p l e s m args below meth c Z H locs cls hX hC hZ hH hS hL
  exact lv_goto hC.1 hC.2.1 d ht (k p l e s m args below meth c Z H locs cls hX hC hZ hH hS hL)
theorem y_tswIn {dflt lo hi x off : Int} {offs : Array Int} {len tgt : Nat} (d : decode K.2.1 pc = .ok (.tableswitch dflt lo hi offs, len)) (hx : jIn x) (h1 : ¬ x < lo) (h2 : ¬ hi < x) (ho : offs[(x - lo).toNat]? = some off) (ht : (pc : Int) + off = (tgt : Int)) (k : jOy E X K tgt ls st G I u Q) : jOy E X K pc ls (VI x :: st) G I u Q := by
  intro p l e s m args below meth c Z H locs cls hX hC hZ hH hS hL
  have e0 : (Int32.ofInt x).toInt = x := Int32.toInt_ofInt_of_le (by omega) (by omega)
  exact lv_tableIn hC.1 hC.2.1 d (by rw [e0]; exact h1) (by rw [e0]; exact h2) (by rw [e0]; exact ho) ht (k p l e s m args below meth c Z H locs cls hX hC hZ hH hS hL)
theorem y_tswOut {dflt lo hi x : Int} {offs : Array Int} {len tgt : Nat} (d : decode K.2.1 pc = .ok (.tableswitch dflt lo hi offs, len)) (hx : jIn x) (h : x < lo ∨ hi < x) (ht : (pc : Int) + dflt = (tgt : Int)) (k : jOy E X K tgt ls st G I u Q) : jOy E X K pc ls (VI x :: st) G I u Q := by
  intro p l e s m args below meth c Z H locs cls hX hC hZ hH hS hL
  have e0 : (Int32.ofInt x).toInt = x := Int32.toInt_ofInt_of_le (by omega) (by omega)
  exact lv_tableOut hC.1 hC.2.1 d (by rw [e0]; exact h) ht (k p l e s m args below meth c Z H locs cls hX hC hZ hH hS hL)
theorem y_zret {x : Int} (d : decode K.2.1 pc = .ok (.ireturn, 1)) (hr : K.2.2.2.1 = some .boolean) (hx : 0 ≤ x ∧ x ≤ 1) (hu : u.1 ≤ K.2.2.2.2.cells ∧ u.2 ≤ K.2.2.2.2.slots) (k : Q (VI x) G I) : jOy E X K pc ls [VI x] G I u Q := by
  intro p l e s m args below meth c Z H locs cls hX hC hZ hH hS hL
  exact W.widen hu.1 hu.2 (hZ pc H locs cls (VI x) G I .ireturn d ⟨rfl, Or.inr ⟨hr, hx⟩⟩ ⟨by omega, by omega⟩ k hH hS)
theorem y_lcmp {a b : Int64} (d : decode K.2.1 pc = .ok (.lcmp, 1)) (k : a = b → jOy E X K (pc + 1) ls (VI 0 :: st) G I u Q) (hab : a = b) : jOy E X K pc ls (VX (.long b) :: VX (.long a) :: st) G I u Q := by
  subst hab
  intro p l e s m args below meth c Z H locs cls hX hC hZ hH hS hL
  refine W.lcmp hC.1 hC.2.1 d (W.eq ?_ (k rfl p l e s m args below meth c Z H locs cls hX hC hZ hH hS hL))
  simp [cv, lg_cmp]
theorem y_any (k : jOk E K pc ls st G I u Q) : jOy E X K pc ls st G I u Q := fun p l e s m args below meth c Z H locs cls _ hC hZ hH hS hL => k p l e s m args below meth c Z H locs cls hC hZ hH hS hL
end JRy
section JRz
variable {E : jE} {X : State → Prop} {K K' : jK} {pc idx : Nat} {ls st as : List jV} {G : jG} {I : jM} {u : Nat × Nat} {Q Q' : jV → jG → jM → Prop}
variable {p : Program} {l : Launch} {e : Jvm.Env} {s : State} {m : MethodId} {args : Array Value} {below : List Frame} {meth : Method} {c : Code} {Z : State → Prop} {H : Heap} {locs : List Loc} {cls : Array Slot}
theorem yback (hX : X s) {st0 : List Value} {a : Array Value} (hr : va_Run p l e K.2.2.2.2 s m args below meth c H locs u.1 u.2 K'.2.2.2.2.cells K'.2.2.2.2.slots (F0 m pc cls st0) (st.map (cv E.1)) (jPost E Q' a) (fun q => E.1 ≤ q)) (hC : jC E K p s m args meth c) (hZ : jEnd E K p l e s m args below meth c Z Q) (hS : va_S (fun q => E.1 ≤ q) s.heap H locs) (hL : jLs E.1 ls K.2.2.1 cls)
    (k : ∀ r G' I', jokv r → Q' r G' I' → jOy E X K (pc + 3) ls (jrl r ++ st) G' I' (u.1 + K'.2.2.2.2.cells, u.2 + K'.2.2.2.2.slots) Q) : W p l e K.2.2.2.2 s m args below meth c H locs u.1 u.2 Z (F0 m pc cls st0) := by
  intro T hT X0
  obtain ⟨v, st₀, t, T', L, h0, X', hL', e1, e2, ⟨r, G', I', g1, g2, g3, g4, g5⟩, go⟩ := hr T hT X0
  cases g1
  rw [h0] at g5
  obtain ⟨t2, a1, b1⟩ := k r G' I' g2 g3 p l e s m args below meth c Z T'.heap (locs ++ L) cls hX hC hZ (by rw [e1]; exact g4)
    ⟨Nat.le_trans hS.1 (by rw [e1]; exact g5.1), fun q q1 q2 => by
      rw [e1, g5.2 q (Nat.lt_of_lt_of_le q1 hS.1) q2]
      exact hS.2.1 q q1 q2, fun q hq => by
      rcases List.mem_append.mp hq with h | h
      · exact hS.2.2 q h
      · exact hL' q h⟩ hL T' rfl X'
  rw [← jrl_map] at a1
  exact ⟨t2, go t2 a1, b1⟩
end JRz
section JRv
variable {E : jE} {X : State → Prop} {K K' : jK} {pc idx : Nat} {ls st as : List jV} {G : jG} {I : jM} {u : Nat × Nat} {Q Q' : jV → jG → jM → Prop}
theorem y_callV {a : Nat} (d : decode K.2.1 pc = .ok (.invokevirtual idx, 3)) (hm : jMth K') (hl : Cond.methodLink K.1.cls idx K'.1 ∈ jTB) (hi : Cond.instanceMethod K'.1 ∈ jTB ∧ Cond.selects K'.1.cls K'.1 K'.1 ∈ jTB) (hrm : jRm K K' as.length) (hu : u.1 + K'.2.2.2.2.cells ≤ K.2.2.2.2.cells ∧ u.2 + K'.2.2.2.2.slots ≤ K.2.2.2.2.slots) (hw : (st.map fun v => (cv 0 v).category).sum ≤ 8) (ha : a < G.2.2) (hc : ∃ T N, vwCl[(G.2.1 a).1]? = some (K'.1.cls, T, N)) (has : ∀ x ∈ as, jokv x) (hr : jRun E K' (VR a :: as) G I Q')
    (k : ∀ r G' I', jokv r → Q' r G' I' → jOy E X K (pc + 3) ls (jrl r ++ st) G' I' (u.1 + K'.2.2.2.2.cells, u.2 + K'.2.2.2.2.slots) Q) : jOy E X K pc ls (as.reverse ++ VR a :: st) G I u Q := by
  intro p l e s m args below meth c Z H locs cls hX hC hZ hH hS hL
  have hts := hC.2.2.2.2.1
  have has' : ∀ x ∈ (VR a :: as), jokv x := fun x hx => by
    rcases List.mem_cons.mp hx with rfl | hx
    · exact trivial
    · exact has x hx
  refine yback (X := X) hX (Q' := Q') (K' := K') (va_runV (C := K'.1.cls) (n := as.length) (As := as.map (cv E.1)) (b := E.1 + a) (ret := K'.2.2.2.1) (bytes := K'.2.1) (maxL := K'.2.2.1) (own := K.1.cls) ⟨hC.1, hC.2.1, hC.2.2.1, hC.2.2.2.1, hts⟩ (hr l) ⟨callB_of as.length hts (jgood hm) rfl rfl rfl (hts _ hm.2.1) (hts _ hl) ⟨hm.2.2.1.1, hm.2.2.1.2, hrm.1⟩ hrm.2, hts _ hi.1, hts _ hi.2⟩ ⟨jpre_blind, jrecv hC.2.2.2.2.2.1 hH ha hc, jpre_at hC hH has'⟩ rfl (by simp) hL.1 ?_ ?_ d hu) hC hZ hS hL k
  · exact jstk
  · exact lv_room (by rw [jcat]; exact hw)
theorem y_callI {a : Nat} (d : decode K.2.1 pc = .ok (.invokespecial idx, 3)) (hm : jMth K') (hl : Cond.methodLink K.1.cls idx K'.1 ∈ jTB) (hi : Cond.instanceMethod K'.1 ∈ jTB) (hin : K'.1.name = "<init>") (hv : K'.2.2.2.1 = none) (hrm : jRm K K' as.length) (hu : u.1 + K'.2.2.2.2.cells ≤ K.2.2.2.2.cells ∧ u.2 + K'.2.2.2.2.slots ≤ K.2.2.2.2.slots) (hw : (st.map fun v => (cv 0 v).category).sum ≤ 8) (has : ∀ x ∈ as, jokv x) (hr : jRun E K' (VR a :: as) G I Q')
    (k : ∀ r G' I', jokv r → Q' r G' I' → jOy E X K (pc + 3) ls (jrl r ++ st) G' I' (u.1 + K'.2.2.2.2.cells, u.2 + K'.2.2.2.2.slots) Q) : jOy E X K pc ls (as.reverse ++ VR a :: st) G I u Q := by
  intro p l e s m args below meth c Z H locs cls hX hC hZ hH hS hL
  have hts := hC.2.2.2.2.1
  have has' : ∀ x ∈ (VR a :: as), jokv x := fun x hx => by
    rcases List.mem_cons.mp hx with rfl | hx
    · exact trivial
    · exact has x hx
  obtain ⟨y, bb, mL, rt, rm⟩ := K'
  cases hv
  refine yback (X := X) hX (Q' := Q') (K' := (y, bb, mL, none, rm)) (va_runI (n := as.length) (As := as.map (cv E.1)) (b := E.1 + a) (bytes := bb) (maxL := mL) (own := K.1.cls) ⟨hC.1, hC.2.1, hC.2.2.1, hC.2.2.2.1, hts⟩ (hr l) ⟨callB_of as.length hts (jgood hm) rfl rfl rfl (hts _ hm.2.1) (hts _ hl) ⟨hm.2.2.1.1, hm.2.2.1.2, hrm.1⟩ hrm.2, hin, hts _ hi⟩ ⟨jpre_blind, jpre_at hC hH has'⟩ rfl (by simp) hL.1 ?_ ?_ d hu) hC hZ hS hL k
  · exact jstk
  · exact lv_room (by rw [jcat]; exact hw)
theorem y_new {ci n : Nat} {r : vw_C} (d : decode K.2.1 pc = .ok (.new idx, 3)) (hr : vwCl[ci]? = some r) (hn : r.2.2 = n) (hw : Cond.classLink K.1.cls idx r.1 ∈ jTB ∧ Cond.instantiable r.1 r.2.2 ∈ jTB ∧ Cond.initialized r.1 ∈ jTB) (hd : ∀ j, j < r.2.2 → defaultValue (jty ci j) = if jfk ci j = 0 then .int 0 else .null) (hu : u.1 + 1 ≤ K.2.2.2.2.cells ∧ u.2 + n ≤ K.2.2.2.2.slots)
    (k : jOy E X K (pc + 3) ls (VR G.2.2 :: st) (jnG G ci 0) (jnI I G.2.2 ci) (u.1 + 1, u.2 + n) Q) : jOy E X K pc ls st G I u Q := by
  intro p l e s m args below meth c Z H locs cls hX hC hZ hH hS hL
  subst hn
  have hts := hC.2.2.2.2.1
  have hK := hC.2.2.2.2.2.1.1
  have hKn := hK.1 ci _ hr
  have hlt := jcl_lt hr
  refine W.newcK hC.1 hC.2.1 hC.2.2.2.1 (hts _ hw.1) (hts _ hw.2.1) (hts _ hw.2.2) rfl d hu.1 hu.2 hKn.2.1 hH.1 fun H1 kC hkC e1 z1 o1 => ?_
  refine k p l e s m args below meth c Z H1 locs cls hX hC hZ ⟨z1, fun b j => ?_, fun b hb => ?_⟩ (jS_push hS (by rw [z1, hH.1]) (by rw [hH.1]; exact o1)) hL
  · unfold jnG jnI
    by_cases hb : b = G.2.2
    · simp only [hb, if_true]
      unfold jRg
      rw [if_neg (by omega), if_neg (by omega)]
      split <;> exact ⟨by omega, by omega⟩
    · simp only [hb, if_false]
      exact hH.2.1 b j
  · by_cases hb2 : b = G.2.2
    · subst hb2
      have hb3 := u_born (jty ci) hts (jin hr) hKn hkC e1 (jty_ok hr)
      unfold jAt
      simp only [jnG, if_true]
      rw [if_pos hlt]
      refine ⟨r, hr, hb3.to (fun j hj => ?_)⟩
      rw [hd j hj]
      unfold jfv jnI
      have e5 : ((j : Int)).toNat = j := by omega
      by_cases h0 : jfk ci j = 0
      · simp [h0, e5]
      · by_cases h1 : jfk ci j = 1
        · simp [h0, h1, jrf]
        · by_cases h2 : jfk ci j = 2
          · simp [h0, h1, h2, e5]
          · exfalso
            have : ∀ x ∈ (jfkT.getD ci []), x ≤ 2 := by
              rcases jcl_cases hr with ⟨rfl, -⟩ | ⟨rfl, -⟩ | ⟨rfl, -⟩ | ⟨rfl, -⟩ | ⟨rfl, -⟩ | ⟨rfl, -⟩ | ⟨rfl, -⟩ | ⟨rfl, -⟩ | ⟨rfl, -⟩ | ⟨rfl, -⟩ | ⟨rfl, -⟩ <;> decide
            have hle : jfk ci j ≤ 2 := by
              unfold jfk
              generalize jfkT.getD ci [] = L at this
              rw [List.getD_eq_getElem?_getD]
              cases hx : L[j]? with
              | none => exact Nat.zero_le _
              | some y => exact this y (List.mem_of_getElem? hx)
            omega
    · have hb3 : b < G.2.2 := by
        have : b < G.2.2 + 1 := hb
        omega
      refine (hH.2.2 b hb3).to (fun j => ?_) (fun j => ?_) ?_ (o1 _ (by omega))
      · simp [jnI, hb2]
      · simp [jnG, hb2]
      · simp [jnG, hb2]
/-- the script: b its cell, xs its ints -/
def lX (E : jE) (b L : Nat) (xs : Nat → Int32) (s : State) : Prop := va_X b L xs s s.heap ∧ b < s.heap.size ∧ E.1 = s.heap.size
theorem y_slen {b L : Nat} {xs : Nat → Int32} (d : decode K.2.1 pc = .ok (.arraylength, 1)) (k : jOy E (lX E b L xs) K (pc + 1) ls (VI L :: st) G I u Q) : jOy E (lX E b L xs) K pc ls (VX (.ref b) :: st) G I u Q := by
  intro p l e s m args below meth c Z H locs cls hX hC hZ hH hS hL
  refine va_slen (A := fun q => E.1 ≤ q) hC.1 hC.2.1 hX.1 hX.2.1 (by have := hX.2.1; have := hX.2.2; omega) hS d (W.eq ?_ (k p l e s m args below meth c Z H locs cls hX hC hZ hH hS hL))
  simp only [List.map_cons, cv]
  congr 2
theorem y_sld {b L : Nat} {xs : Nat → Int32} {i : Int} (hi : 0 ≤ i ∧ i < L) (hL' : (L : Int) ≤ 3072) (d : decode K.2.1 pc = .ok (.iaload, 1)) (k : jOy E (lX E b L xs) K (pc + 1) ls (VI (xs i.toNat).toInt :: st) G I u Q) : jOy E (lX E b L xs) K pc ls (VI i :: VX (.ref b) :: st) G I u Q := by
  intro p l e s m args below meth c Z H locs cls hX hC hZ hH hS hL
  have e1 := j32_nat (a := i) hi.1 (by omega)
  refine va_sld (A := fun q => E.1 ≤ q) hC.1 hC.2.1 hX.1 hX.2.1 (by have := hX.2.1; have := hX.2.2; omega) hS ?_ d (W.eq ?_ (k p l e s m args below meth c Z H locs cls hX hC hZ hH hS hL))
  · intro q
    rcases q with q | q
    · exact absurd ((j32_lt (a := i) (b := 0) ⟨by omega, by omega⟩ j_zero).mp q) (by omega)
    · rw [e1] at q; omega
  · simp [cv, e1]
end JRv
