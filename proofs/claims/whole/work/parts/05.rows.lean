/-! ===== small facts on numbers and lists ===== -/
theorem j32_lt {a b : Int} (ha : jIn a) (hb : jIn b) : Int32.ofInt a < Int32.ofInt b ↔ a < b := by
  rw [Int32.lt_iff_toInt_lt, Int32.toInt_ofInt_of_le (by omega) (by omega), Int32.toInt_ofInt_of_le (by omega) (by omega)]
theorem j32_le {a b : Int} (ha : jIn a) (hb : jIn b) : Int32.ofInt a ≤ Int32.ofInt b ↔ a ≤ b := by
  rw [Int32.le_iff_toInt_le, Int32.toInt_ofInt_of_le (by omega) (by omega), Int32.toInt_ofInt_of_le (by omega) (by omega)]
theorem j32_eq {a b : Int} (ha : jIn a) (hb : jIn b) : Int32.ofInt a = Int32.ofInt b ↔ a = b := by
  refine ⟨fun h => ?_, fun h => by rw [h]⟩
  have h1 := congrArg Int32.toInt h
  rwa [Int32.toInt_ofInt_of_le (by omega) (by omega), Int32.toInt_ofInt_of_le (by omega) (by omega)] at h1
theorem j32_in (x : Int32) : jIn x.toInt := ⟨by have := x.le_toInt; omega, by have := x.toInt_lt; omega⟩
theorem j32_nat {a : Int} (h0 : 0 ≤ a) (h1 : a ≤ 2147483647) : (Int32.ofInt a).toNatClampNeg = a.toNat := Int32.toNatClampNeg_ofInt_of_le (by omega) (by omega)
theorem j_zero : jIn 0 := ⟨by omega, by omega⟩
theorem j_vpin {a : Int} {n : Nat} (h0 : 0 ≤ a) (h1 : a < n) (hn : (n : Int) ≤ 2147483647) : vp_in (Int32.ofInt a) n := by
  intro h
  rcases h with h | h
  · exact absurd ((j32_lt (a := a) (b := 0) ⟨by omega, by omega⟩ j_zero).mp h) (by omega)
  · rw [j32_nat h0 (by omega)] at h
    omega
def jand (a b : Int) : Int := (Int32.ofInt a &&& Int32.ofInt b).toInt
def jor (a b : Int) : Int := (Int32.ofInt a ||| Int32.ofInt b).toInt
def jxor (a b : Int) : Int := (Int32.ofInt a ^^^ Int32.ofInt b).toInt
def jshl (a b : Int) : Int := (Int32.ofInt a <<< (Int32.ofInt b &&& 31)).toInt
def jshr (a b : Int) : Int := (Int32.ofInt a >>> (Int32.ofInt b &&& 31)).toInt
def jushr (a b : Int) : Int := ((Int32.ofInt a).toUInt32 >>> ((Int32.ofInt b).toUInt32 &&& Int32.toUInt32 31)).toInt32.toInt
def jb8 (a : Int) : Int := (Int32.ofInt a).toInt8.toInt
def jw (a : Int) : Int := (Int32.ofInt a).toInt
def jup (I : jM) (a : Nat) (j x : Int) : jM := fun b k => if b = a ∧ k = j then x else I b k
def jst (ls : List jV) (i : Nat) : Bool := match i with
  | 0 => true
  | i + 1 => match ls[i]? with
    | some v => !jc2 v
    | none => true
/-- the listed locals, as the kit lists them -/
def jl (z : Nat) (ls : List jV) : List (Nat × Value) := (List.range ls.length).filterMap (fun i => match ls[i]? with
  | some v => if jN v then none else some (i, cv z v)
  | none => none)
theorem jl_mem {z : Nat} {ls : List jV} {i : Nat} {v : jV} (h : ls[i]? = some v) (hn : jN v = false) : (i, cv z v) ∈ jl z ls := by
  refine List.mem_filterMap.mpr ⟨i, List.mem_range.mpr (List.getElem?_eq_some_iff.mp h).1, ?_⟩
  simp [h, hn]
theorem jl_of {z : Nat} {ls : List jV} {q : Nat × Value} (h : q ∈ jl z ls) : ∃ v, ls[q.1]? = some v ∧ jN v = false ∧ q.2 = cv z v := by
  obtain ⟨i, -, hi⟩ := List.mem_filterMap.mp h
  cases hv : ls[i]? with
  | none => simp [hv] at hi
  | some v =>
    cases hn : jN v with
    | true => simp [hv, hn] at hi
    | false =>
      simp [hv, hn] at hi
      subst hi
      exact ⟨v, hv, hn, rfl⟩
theorem jLs.has {z : Nat} {ls : List jV} {nL : Nat} {cls : Array Slot} (h : jLs z ls nL cls) : lv_has cls nL (jl z ls) := by
  refine ⟨h.1, h.2.1, fun q hq => ?_⟩
  obtain ⟨v, h1, h2, h3⟩ := jl_of hq
  rw [h3]
  exact (h.2.2 _ v h1 h2).1
theorem jc2_cat {z : Nat} {v : jV} (h : jc2 v = false) : (cv z v).category = 1 := by
  rcases v with x | a | v
  · rfl
  · rfl
  · cases v <;> first | rfl | (simp [jc2] at h)
theorem jLs.store {z : Nat} {ls : List jV} {nL i : Nat} {v : jV} {cls cls' : Array Slot} (hL : jLs z ls nL cls) (h1 : jst ls i = true) (hv : jokv v) (h' : lv_has cls' nL ((i, cv z v) :: (jl z ls).filter (fun q => !(q.1 == i) && !(q.1 + 1 == i && q.2.category == 2)))) : jLs z (ls.set i v) nL cls' := by
  refine ⟨h'.1, h'.2.1, fun k w hk hn => ?_⟩
  by_cases e : i = k
  · subst e
    rw [List.getElem?_set_self' ] at hk
    cases hx : ls[i]? with
    | none => simp [hx] at hk
    | some y =>
      simp [hx] at hk
      subst hk
      exact ⟨h'.2.2 (i, cv z v) List.mem_cons_self, hv⟩
  · rw [List.getElem?_set_ne e] at hk
    refine ⟨h'.2.2 (k, cv z w) (List.mem_cons_of_mem _ (List.mem_filter.mpr ⟨jl_mem hk hn, ?_⟩)), (hL.2.2 k w hk hn).2⟩
    have e1 : (k == i) = false := by simpa using fun q => e q.symm
    by_cases e2 : k + 1 = i
    · subst e2
      simp only [jst, hk] at h1
      have hc : (cv z w).category = 1 := jc2_cat (by simpa using h1)
      simp [e1, hc]
    · simp [e1, e2]
theorem jLs.store2 {z : Nat} {ls : List jV} {nL i : Nat} {v : jV} {cls cls' : Array Slot} (hL : jLs z ls nL cls) (h1 : jst ls i = true) (hv : jokv v) (h' : lv_has cls' nL ((i, cv z v) :: (jl z ls).filter (fun q => !(q.1 == i) && (!(q.1 == i + 1) && !(q.1 + 1 == i && q.2.category == 2))))) : jLs z ((ls.set i v).set (i + 1) VN) nL cls' := by
  refine ⟨h'.1, h'.2.1, fun k w hk hn => ?_⟩
  by_cases e0 : i + 1 = k
  · subst e0
    rw [List.getElem?_set_self'] at hk
    cases hx : (ls.set i v)[i + 1]? with
    | none => simp [hx] at hk
    | some y =>
      simp [hx] at hk
      subst hk
      simp [jN] at hn
  · rw [List.getElem?_set_ne e0] at hk
    by_cases e : i = k
    · subst e
      rw [List.getElem?_set_self'] at hk
      cases hx : ls[i]? with
      | none => simp [hx] at hk
      | some y =>
        simp [hx] at hk
        subst hk
        exact ⟨h'.2.2 (i, cv z v) List.mem_cons_self, hv⟩
    · rw [List.getElem?_set_ne e] at hk
      refine ⟨h'.2.2 (k, cv z w) (List.mem_cons_of_mem _ (List.mem_filter.mpr ⟨jl_mem hk hn, ?_⟩)), (hL.2.2 k w hk hn).2⟩
      have e1 : (k == i) = false := by simpa using fun q => e q.symm
      have e3 : (k == i + 1) = false := by simpa using fun q => e0 q.symm
      by_cases e2 : k + 1 = i
      · subst e2
        simp only [jst, hk] at h1
        have hc : (cv z w).category = 1 := jc2_cat (by simpa using h1)
        simp [e1, e3, hc]
      · simp [e1, e2, e3]
