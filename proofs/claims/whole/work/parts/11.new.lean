/-! ===== new cells ===== -/
/-- a new object of class ci: its ints 0, its references none -/
def jnI (I : jM) (a ci : Nat) : jM := fun b j => if b = a then (if jfk ci j.toNat = 2 then -1 else 0) else I b j
def jnA (I : jM) (a : Nat) : jM := fun b j => if b = a then 0 else I b j
def jnG (G : jG) (k n : Nat) : jG := (fun b j => if b = G.2.2 then none else G.1 b j, fun b => if b = G.2.2 then (k, n) else G.2.1 b, G.2.2 + 1)
def jpG (G : jG) (a : Nat) (j : Int) (b : Nat) : jG := (fun x y => if x = a ∧ y = j then some b else G.1 x y, G.2.1, G.2.2)
section JW
variable {E : jE} {K : jK} {pc idx : Nat} {ls st : List jV} {G : jG} {I : jM} {u : Nat × Nat} {Q : jV → jG → jM → Prop}
variable {p : Program} {l : Launch} {e : Jvm.Env} {s : State} {m : MethodId} {args : Array Value} {below : List Frame} {meth : Method} {c : Code} {Z : State → Prop} {H : Heap} {locs : List Loc} {cls : Array Slot} {cells slots : Nat} {R : Room}
theorem jS_push {H' : Heap} (hS : va_S (fun q => E.1 ≤ q) s.heap H locs) (z1 : H'.size = H.size + 1) (o1 : ∀ q, q < H.size → H'[q]? = H[q]?) : va_S (fun q => E.1 ≤ q) s.heap H' locs := ⟨Nat.le_trans hS.1 (by omega), fun x h1 h2 => (o1 x (Nat.lt_of_lt_of_le h1 hS.1)).trans (hS.2.1 x h1 h2), hS.2.2⟩
theorem r_new {ci n : Nat} {r : vw_C} (d : decode K.2.1 pc = .ok (.new idx, 3)) (hr : vwCl[ci]? = some r) (hn : r.2.2 = n) (hw : Cond.classLink K.1.cls idx r.1 ∈ jTB ∧ Cond.instantiable r.1 r.2.2 ∈ jTB ∧ Cond.initialized r.1 ∈ jTB) (hd : ∀ j, j < r.2.2 → defaultValue (jty ci j) = if jfk ci j = 0 then .int 0 else .null) (hu : u.1 + 1 ≤ K.2.2.2.2.cells ∧ u.2 + n ≤ K.2.2.2.2.slots)
    (k : jOk E K (pc + 3) ls (VR G.2.2 :: st) (jnG G ci 0) (jnI I G.2.2 ci) (u.1 + 1, u.2 + n) Q) : jOk E K pc ls st G I u Q := by
  intro p l e s m args below meth c Z H locs cls hC hZ hH hS hL
  subst hn
  have hts := hC.2.2.2.2.1
  have hK := hC.2.2.2.2.2.1.1
  have hKn := hK.1 ci _ hr
  have hlt := jcl_lt hr
  refine W.newcK hC.1 hC.2.1 hC.2.2.2.1 (hts _ hw.1) (hts _ hw.2.1) (hts _ hw.2.2) rfl d hu.1 hu.2 hKn.2.1 hH.1 fun H1 kC hkC e1 z1 o1 => ?_
  refine k p l e s m args below meth c Z H1 locs cls hC hZ ⟨z1, fun b j => ?_, fun b hb => ?_⟩ (jS_push hS (by rw [z1, hH.1]) (by rw [hH.1]; exact o1)) hL
  · unfold jnG jnI
    by_cases hb : b = G.2.2
    · simp only [hb, if_true]
      unfold jRg
      rw [if_neg (by omega), if_neg (by omega)]
      split <;> exact ⟨by omega, by omega⟩
    · simp only [hb, if_false]
      exact hH.2.1 b j
  · by_cases hb2 : b = G.2.2
    · subst hb2
      have hb3 := u_born (jty ci) hts (jin hr) hKn hkC e1 (jty_ok hr)
      unfold jAt
      simp only [jnG, if_true]
      rw [if_pos hlt]
      refine ⟨r, hr, hb3.to (fun j hj => ?_)⟩
      rw [hd j hj]
      unfold jfv jnI
      have e5 : ((j : Int)).toNat = j := by omega
      by_cases h0 : jfk ci j = 0
      · simp [h0, e5]
      · by_cases h1 : jfk ci j = 1
        · simp [h0, h1, jrf]
        · by_cases h2 : jfk ci j = 2
          · simp [h0, h1, h2, e5]
          · exfalso
            have : ∀ x ∈ (jfkT.getD ci []), x ≤ 2 := by
              rcases jcl_cases hr with ⟨rfl, -⟩ | ⟨rfl, -⟩ | ⟨rfl, -⟩ | ⟨rfl, -⟩ | ⟨rfl, -⟩ | ⟨rfl, -⟩ | ⟨rfl, -⟩ | ⟨rfl, -⟩ | ⟨rfl, -⟩ | ⟨rfl, -⟩ | ⟨rfl, -⟩ <;> decide
            have hle : jfk ci j ≤ 2 := by
              unfold jfk
              generalize jfkT.getD ci [] = L at this
              rw [List.getD_eq_getElem?_getD]
              cases hx : L[j]? with
              | none => exact Nat.zero_le _
              | some y => exact this y (List.mem_of_getElem? hx)
            omega
    · have hb3 : b < G.2.2 := by
        have : b < G.2.2 + 1 := hb
        omega
      refine (hH.2.2 b hb3).to (fun j => ?_) (fun j => ?_) ?_ (o1 _ (by omega))
      · simp [jnI, hb2]
      · simp [jnG, hb2]
      · simp [jnG, hb2]
theorem jHP.newa {k n : Nat} {H1 : Heap} (hk : 100 ≤ k ∧ k < 105) (hH : jHP E G I H) (z1 : H1.size = E.1 + G.2.2 + 1) (o1 : ∀ q, q < E.1 + G.2.2 → H1[q]? = H[q]?) (e1 : H1[E.1 + G.2.2]? = some (arrV (E.2.2 k) n (fun _ => if k < 103 then .int 0 else .null))) : jHP E (jnG G k n) (jnA I G.2.2) H1 := by
  refine ⟨z1, fun b j => ?_, fun b hb => ?_⟩
  · unfold jnG jnA
    by_cases hb : b = G.2.2
    · simp only [hb, if_true]
      unfold jRg
      split
      · omega
      · split
        · omega
        · exact j_zero
    · simp only [hb, if_false]
      exact hH.2.1 b j
  · by_cases hb2 : b = G.2.2
    · subst hb2
      unfold jAt
      simp only [jnG, if_true]
      rw [if_neg (by omega)]
      refine ⟨hk.2, ?_⟩
      rw [e1]
      congr 2
      funext j
      unfold jev
      by_cases h3 : k < 103
      · simp [h3, jnA]
      · simp [h3, jrf]
    · have hb3 : b < G.2.2 := by
        have : b < G.2.2 + 1 := hb
        omega
      refine (hH.2.2 b hb3).to (fun j => ?_) (fun j => ?_) ?_ (o1 _ (by omega))
      · simp [jnA, hb2]
      · simp [jnG, hb2]
      · simp [jnG, hb2]
theorem r_newa {k n : Nat} {t : ArrayType} (d : decode K.2.1 pc = .ok (.newarray t, 2)) (hk : (k = 100 ∧ t = .int) ∨ (k = 101 ∧ t = .byte) ∨ (k = 102 ∧ t = .boolean)) (hw : Cond.arrayClass (newarray.typeOf t) ∈ jTB) (hn : (n : Int) ≤ 100000) (hu : u.1 + 1 ≤ K.2.2.2.2.cells ∧ u.2 + n ≤ K.2.2.2.2.slots)
    (kk : jOk E K (pc + 2) ls (VR G.2.2 :: st) (jnG G k n) (jnA I G.2.2) (u.1 + 1, u.2 + n) Q) : jOk E K pc ls (VI n :: st) G I u Q := by
  intro p l e s m args below meth c Z H locs cls hC hZ hH hS hL
  have hts := hC.2.2.2.2.1
  have hK := hC.2.2.2.2.2.1.1
  have hnn : (Int32.ofInt (n : Int)).toNatClampNeg = n := by rw [j32_nat (by omega) (by omega)]; omega
  have hneg : ¬ Int32.ofInt (n : Int) < 0 := fun q => absurd ((j32_lt (a := n) (b := 0) ⟨by omega, by omega⟩ j_zero).mp q) (by omega)
  have hcb : n * componentBytes (newarray.typeOf t) ≤ 536870912 := by
    have : componentBytes (newarray.typeOf t) ≤ 8 := by rcases hk with ⟨-, rfl⟩ | ⟨-, rfl⟩ | ⟨-, rfl⟩ <;> decide
    have h2 : n * componentBytes (newarray.typeOf t) ≤ n * 8 := Nat.mul_le_mul_left n this
    omega
  refine va_newaK hC.1 hC.2.1 (hts _ hw) rfl d rfl hneg hnn hcb hu.1 hu.2 hH.1 fun H1 cA e1 z1 o1 hAr hNm => ?_
  have hcA : cA = E.2.2 k := by
    rcases hk with ⟨rfl, rfl⟩ | ⟨rfl, rfl⟩ | ⟨rfl, rfl⟩
    · exact Option.some.inj (hNm.symm.trans (hK.2 0 _ rfl).2)
    · exact Option.some.inj (hNm.symm.trans (hK.2 1 _ rfl).2)
    · exact Option.some.inj (hNm.symm.trans (hK.2 2 _ rfl).2)
  subst hcA
  have e2 : (fun _ : Nat => defaultValue (newarray.typeOf t)) = (fun _ : Nat => if k < 103 then Value.int 0 else Value.null) := by
    rcases hk with ⟨rfl, rfl⟩ | ⟨rfl, rfl⟩ | ⟨rfl, rfl⟩ <;> rfl
  rw [e2] at e1
  exact kk p l e s m args below meth c Z H1 locs cls hC hZ (hH.newa (by omega) z1 o1 e1) (jS_push hS (by rw [z1, hH.1]) (by rw [hH.1]; exact o1)) hL
theorem r_anewa {k n : Nat} {C : String} (d : decode K.2.1 pc = .ok (.anewarray idx, 3)) (hk : (k = 103 ∧ C = RX7) ∨ (k = 104 ∧ C = RX4)) (hw : Cond.classLink K.1.cls idx C ∈ jTB) (hn : (n : Int) ≤ 100000) (hu : u.1 + 1 ≤ K.2.2.2.2.cells ∧ u.2 + n ≤ K.2.2.2.2.slots)
    (kk : jOk E K (pc + 3) ls (VR G.2.2 :: st) (jnG G k n) (jnA I G.2.2) (u.1 + 1, u.2 + n) Q) : jOk E K pc ls (VI n :: st) G I u Q := by
  intro p l e s m args below meth c Z H locs cls hC hZ hH hS hL
  have hts := hC.2.2.2.2.1
  have hK := hC.2.2.2.2.2.1.1
  have hnn : (Int32.ofInt (n : Int)).toNatClampNeg = n := by rw [j32_nat (by omega) (by omega)]; omega
  have hneg : ¬ Int32.ofInt (n : Int) < 0 := fun q => absurd ((j32_lt (a := n) (b := 0) ⟨by omega, by omega⟩ j_zero).mp q) (by omega)
  have hao : (Cond.arrayOver (.object C)).before args s = true := by
    rcases hk with ⟨-, rfl⟩ | ⟨-, rfl⟩
    · exact hC.2.2.2.2.2.1.2.2.1.use
    · exact hC.2.2.2.2.2.1.2.2.2.use
  refine W.anew hC.1 hC.2.1 hC.2.2.2.1 (hts _ hw) hao rfl d rfl hneg (by rw [hnn]; omega) hu.1 (by rw [hnn]; exact hu.2) fun cA kA comp h1 h2 h3 h4 => ?_
  have hcA : cA = E.2.2 k := by
    rcases hk with ⟨rfl, rfl⟩ | ⟨rfl, rfl⟩
    · obtain ⟨_, _, _, _, _, q⟩ := (hK.2 3 _ rfl).2
      exact Option.some.inj (h1.symm.trans q)
    · obtain ⟨_, _, _, _, _, q⟩ := (hK.2 4 _ rfl).2
      exact Option.some.inj (h1.symm.trans q)
  subst hcA
  rw [hnn, arrV_new, hH.1]
  have hz : (H.push (arrV (E.2.2 k) n fun _ => Value.null)).size = E.1 + G.2.2 + 1 := by simp [hH.1]
  have ho : ∀ q, q < E.1 + G.2.2 → (H.push (arrV (E.2.2 k) n fun _ => Value.null))[q]? = H[q]? := fun q hq => by
    rw [Array.getElem?_push, if_neg (by rw [hH.1]; omega)]
  have he : (H.push (arrV (E.2.2 k) n fun _ => Value.null))[E.1 + G.2.2]? = some (arrV (E.2.2 k) n (fun _ => if k < 103 then .int 0 else .null)) := by
    rw [← hH.1]
    have : (fun _ : Nat => if k < 103 then Value.int 0 else Value.null) = fun _ => Value.null := by
      funext _
      rw [if_neg (by omega)]
    rw [this]
    simp
  exact kk p l e s m args below meth c Z _ locs cls hC hZ (hH.newa (by omega) hz ho he) (jS_push hS (by rw [hz, hH.1]) (by rw [hH.1]; exact ho)) hL
/-- a field that stays, set in its constructor -/
theorem r_putF {a b ci j idx : Nat} {ty : FieldType} (d : decode K.2.1 pc = .ok (.putfield idx, 3)) (hf : jFF K.1.cls idx ci j ty) (hi : K.1.name = "<init>") (hty : (∃ n, ty = .object n) ∨ ∃ t, ty = .array t) (hk : jfk ci j = 1) (ha : a < G.2.2) (hs : (G.2.1 a).1 = ci) (k : jOk E K (pc + 3) ls st (jpG G a j b) I u Q) : jOk E K pc ls (VR b :: VR a :: st) G I u Q := by
  intro p l e s m args below meth c Z H locs cls hC hZ hH hS hL
  refine jput (v := .ref (E.1 + b)) hC hH hS ha hs (Or.inr ⟨hf, hi⟩) (by rcases hty with ⟨n, rfl⟩ | ⟨n, rfl⟩ <;> rfl) (by rcases hty with ⟨n, rfl⟩ | ⟨n, rfl⟩ <;> rfl) d fun H' locs' r hr e2 e3 hO hS' => ?_
  have hlt := jcl_lt hr
  refine k p l e s m args below meth c Z H' locs' cls hC hZ ⟨e2.trans hH.1, hH.2.1, fun x hx => ?_⟩ hS' hL
  by_cases ex : x = a
  · subst ex
    unfold jAt
    have hs' : ((jpG G x j b).2.1 x).1 = ci := hs
    rw [hs', if_pos hlt]
    refine ⟨r, hr, hO.to (fun y _ => ?_)⟩
    unfold updV
    by_cases ek : y = j
    · subst ek
      rw [if_pos rfl]
      simp [jfv, hk, jpG, jrf]
    · rw [if_neg ek]
      have e1 : ¬ ((y : Int) = (j : Int)) := by omega
      simp [jfv, jpG, e1]
  · refine (hH.2.2 x hx).to (fun _ => rfl) (fun y => ?_) rfl (e3 _ (by omega))
    simp [jpG, ex]
theorem r_aastore {a b n t ci : Nat} {i : Int} (d : decode K.2.1 pc = .ok (.aastore, 1)) (ha : a < G.2.2) (hs : G.2.1 a = (t, n)) (ht : (t = 103 ∧ ci = 7) ∨ (t = 104 ∧ ci = 4)) (hb : b < G.2.2) (hsb : (G.2.1 b).1 = ci) (hn : (n : Int) ≤ 2147483647) (h0 : 0 ≤ i) (h1 : i < n) (k : jOk E K (pc + 1) ls st (jpG G a i b) I u Q) : jOk E K pc ls (VR b :: VI i :: VR a :: st) G I u Q := by
  intro p l e s m args below meth c Z H locs cls hC hZ hH hS hL
  have hK := hC.2.2.2.2.2.1.1
  have hca := (hH.2.2 a ha).arr hs (by omega)
  obtain ⟨r, hr, hra⟩ : ∃ r : vw_C, vwCl[ci]? = some r ∧ va_RA s (E.2.2 t) (.object r.1) := by
    rcases ht with ⟨rfl, rfl⟩ | ⟨rfl, rfl⟩
    · exact ⟨(RX7, TX7, 11), rfl, (hK.2 3 _ rfl).2⟩
    · exact ⟨(RX4, TX4, 6), rfl, (hK.2 4 _ rfl).2⟩
  obtain ⟨cellV, g1, g2, g3, -⟩ := (hH.2.2 b hb).obj hsb hr
  have hcls := (hK.1 ci r hr).2
  obtain ⟨kA, comp, k1, k2, k3, -⟩ := hra
  have hcomp : comp = E.2.1.1 ci := Option.some.inj (k3.symm.trans hcls.1)
  subst hcomp
  obtain ⟨kC, hkC, -⟩ := id hcls.2
  have hneg : ¬ Int32.ofInt i < 0 := fun q => absurd ((j32_lt (a := i) (b := 0) ⟨by omega, by omega⟩ j_zero).mp q) (by omega)
  refine W.aast hC.1 hC.2.1 hca (fun q h => by cases h) (fun h => by cases h) k1 k2 rfl hkC ⟨hneg, by rw [arrV_size, j32_nat h0 (by omega)]; omega⟩ g1 (fun q h => by rw [g3] at h; cases h) (by rw [g2]; exact hkC) (by rw [g2]; exact va_assign hcls) rfl rfl d fun H' e1 e2 e3 => ?_
  refine k p l e s m args below meth c Z H' _ cls hC hZ ⟨e2.trans hH.1, hH.2.1, fun x hx => ?_⟩ (hS.put e2 e3 (Nat.le_add_right _ _)) hL
  by_cases ex : x = a
  · subst ex
    unfold jAt
    have hs' : (jpG G x i b).2.1 x = (t, n) := hs
    rw [hs', if_neg (by omega)]
    refine ⟨by omega, ?_⟩
    rw [e1, arrV_store, j32_nat h0 (by omega)]
    congr 2
    funext y
    have ht2 : ¬ t < 103 := by omega
    unfold updV
    by_cases ek : y = i.toNat
    · rw [if_pos ek]
      have e4 : (y : Int) = i := by omega
      simp [jev, ht2, jpG, e4, jrf]
    · rw [if_neg ek]
      have e4 : ¬ (y : Int) = i := by omega
      simp [jev, ht2, jpG, e4]
  · refine (hH.2.2 x hx).to (fun _ => rfl) (fun y => ?_) rfl (e3 (E.1 + x) (fun q => ex (Nat.add_left_cancel q)))
    simp [jpG, ex]
/-- the bits of a float, of a double -/
theorem r_fbits {b : UInt32} (d : decode K.2.1 pc = .ok (.invokestatic idx, 3)) (hl : Cond.methodLink K.1.cls idx ⟨"java/lang/Float", "floatToRawIntBits", "(F)I"⟩ ∈ jTB) (hm : Cond.native ⟨"java/lang/Float", "floatToRawIntBits", "(F)I"⟩ ∈ jTB ∧ Cond.static ⟨"java/lang/Float", "floatToRawIntBits", "(F)I"⟩ ∈ jTB ∧ Cond.initialized "java/lang/Float" ∈ jTB) (hrm : 1 ≤ K.2.2.2.2.frames ∧ (st.map fun v => (cv 0 v).category).sum + 15 ≤ K.2.2.2.2.locals) (k : jOk E K (pc + 3) ls (VI b.toInt32.toInt :: st) G I u Q) : jOk E K pc ls (VX (.float b) :: st) G I u Q := by
  intro p l e s m args below meth c Z H locs cls hC hZ hH hS hL
  have hts := hC.2.2.2.2.1
  refine vn_f2i hC.1 hC.2.1 (hC.2.2.1.trans hL.1.symm) hC.2.2.2.1 (hts _ hl) (hts _ hm.1) (hts _ hm.2.1) (hts _ hm.2.2) hrm.1 (by rw [jcat]; exact hrm.2) d (W.eq ?_ (k p l e s m args below meth c Z H locs cls hC hZ hH hS hL))
  simp only [List.map_cons, cv, Int32.ofInt_toInt]
theorem r_dbits {b : UInt64} (d : decode K.2.1 pc = .ok (.invokestatic idx, 3)) (hl : Cond.methodLink K.1.cls idx ⟨"java/lang/Double", "doubleToRawLongBits", "(D)J"⟩ ∈ jTB) (hm : Cond.native ⟨"java/lang/Double", "doubleToRawLongBits", "(D)J"⟩ ∈ jTB ∧ Cond.static ⟨"java/lang/Double", "doubleToRawLongBits", "(D)J"⟩ ∈ jTB ∧ Cond.initialized "java/lang/Double" ∈ jTB) (hrm : 1 ≤ K.2.2.2.2.frames ∧ (st.map fun v => (cv 0 v).category).sum + 15 ≤ K.2.2.2.2.locals) (k : jOk E K (pc + 3) ls (VX (.long b.toInt64) :: st) G I u Q) : jOk E K pc ls (VX (.double b) :: st) G I u Q := by
  intro p l e s m args below meth c Z H locs cls hC hZ hH hS hL
  have hts := hC.2.2.2.2.1
  exact vn_d2l hC.1 hC.2.1 (hC.2.2.1.trans hL.1.symm) hC.2.2.2.1 (hts _ hl) (hts _ hm.1) (hts _ hm.2.1) (hts _ hm.2.2) hrm.1 (by rw [jcat]; exact hrm.2) d (k p l e s m args below meth c Z H locs cls hC hZ hH hS hL)
end JW
