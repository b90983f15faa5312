/-! ===== arrays ===== -/
section JA
variable {E : jE} {K : jK} {pc : Nat} {ls st : List jV} {G : jG} {I : jM} {u : Nat × Nat} {Q : jV → jG → jM → Prop}
variable {p : Program} {l : Launch} {e : Jvm.Env} {s : State} {m : MethodId} {args : Array Value} {below : List Frame} {meth : Method} {c : Code} {Z : State → Prop} {H : Heap} {locs : List Loc} {cls : Array Slot} {cells slots : Nat} {R : Room}
theorem jarr_size {cA : ClassId} {n : Nat} {f : Nat → Value} {i : Int} (h0 : 0 ≤ i) (h1 : i < n) (hn : (n : Int) ≤ 2147483647) : ¬ (Int32.ofInt i < 0 ∨ (arrV cA n f).slots.size ≤ (Int32.ofInt i).toNatClampNeg) := by
  rw [arrV_size]
  exact j_vpin h0 h1 hn
theorem jarr_read {cA : ClassId} {n : Nat} {f : Nat → Value} {i : Int} (h0 : 0 ≤ i) (h1 : i < n) (hn : (n : Int) ≤ 2147483647) : (arrV cA n f).slots[(Int32.ofInt i).toNatClampNeg]? = some (f i.toNat) := by
  rw [j32_nat h0 (by omega), arrV_read _ _ (by omega)]
theorem jev_int {z k a : Nat} {i : Int} (hk : k < 103) (h0 : 0 ≤ i) : jev z G I k a i.toNat = .int (Int32.ofInt (I a i)) := by
  simp [jev, hk, Int.toNat_of_nonneg h0]
theorem jev_ref {z k a b : Nat} {i : Int} (hk : ¬ k < 103) (h0 : 0 ≤ i) (hr : G.1 a i = some b) : jev z G I k a i.toNat = .ref (z + b) := by
  simp [jev, hk, Int.toNat_of_nonneg h0, hr, jrf]
theorem r_iaload {a n : Nat} {i : Int} (d : decode K.2.1 pc = .ok (.iaload, 1)) (ha : a < G.2.2) (hs : G.2.1 a = (100, n)) (hn : (n : Int) ≤ 2147483647) (h0 : 0 ≤ i) (h1 : i < n) (k : jOk E K (pc + 1) ls (VI (I a i) :: st) G I u Q) : jOk E K pc ls (VI i :: VR a :: st) G I u Q := by
  intro p l e s m args below meth c Z H locs cls hC hZ hH hS hL
  refine W.iald (v := .int (Int32.ofInt (I a i))) hC.1 hC.2.1 ((hH.2.2 a ha).arr hs (by decide)) ((hC.2.2.2.2.2.1.1.2 0 _ rfl).1 n _) (fun q => by cases q) (jarr_size h0 h1 hn) ?_ rfl rfl d (k p l e s m args below meth c Z H locs cls hC hZ hH hS hL)
  rw [jarr_read h0 h1 hn, jev_int (by decide) h0]
theorem r_baload {a n : Nat} {i : Int} (d : decode K.2.1 pc = .ok (.baload, 1)) (ha : a < G.2.2) (hs : G.2.1 a = (101, n)) (hn : (n : Int) ≤ 2147483647) (h0 : 0 ≤ i) (h1 : i < n) (k : -128 ≤ I a i → I a i ≤ 127 → jOk E K (pc + 1) ls (VI (I a i) :: st) G I u Q) : jOk E K pc ls (VI i :: VR a :: st) G I u Q := by
  intro p l e s m args below meth c Z H locs cls hC hZ hH hS hL
  have hg := hH.2.1 a i
  rw [hs] at hg
  refine W.bald (v := .int (Int32.ofInt (I a i))) hC.1 hC.2.1 ((hH.2.2 a ha).arr hs (by decide)) ((hC.2.2.2.2.2.1.1.2 1 _ rfl).1 n _) (fun q => by cases q) (jarr_size h0 h1 hn) ?_ rfl rfl d (k hg.1 hg.2 p l e s m args below meth c Z H locs cls hC hZ hH hS hL)
  rw [jarr_read h0 h1 hn, jev_int (by decide) h0]
theorem r_zaload {a n : Nat} {i : Int} (d : decode K.2.1 pc = .ok (.baload, 1)) (ha : a < G.2.2) (hs : G.2.1 a = (102, n)) (hn : (n : Int) ≤ 2147483647) (h0 : 0 ≤ i) (h1 : i < n) (k : 0 ≤ I a i → I a i ≤ 1 → jOk E K (pc + 1) ls (VI (I a i) :: st) G I u Q) : jOk E K pc ls (VI i :: VR a :: st) G I u Q := by
  intro p l e s m args below meth c Z H locs cls hC hZ hH hS hL
  have hg := hH.2.1 a i
  rw [hs] at hg
  refine W.zald (v := .int (Int32.ofInt (I a i))) hC.1 hC.2.1 ((hH.2.2 a ha).arr hs (by decide)) ((hC.2.2.2.2.2.1.1.2 2 _ rfl).1 n _) (fun q => by cases q) (jarr_size h0 h1 hn) ?_ rfl rfl d (k hg.1 hg.2 p l e s m args below meth c Z H locs cls hC hZ hH hS hL)
  rw [jarr_read h0 h1 hn, jev_int (by decide) h0]
theorem r_aaload {a b n t : Nat} {i : Int} (d : decode K.2.1 pc = .ok (.aaload, 1)) (ha : a < G.2.2) (hs : G.2.1 a = (t, n)) (ht : t = 103 ∨ t = 104) (hn : (n : Int) ≤ 2147483647) (h0 : 0 ≤ i) (h1 : i < n) (hr : G.1 a i = some b) (k : jOk E K (pc + 1) ls (VR b :: st) G I u Q) : jOk E K pc ls (VI i :: VR a :: st) G I u Q := by
  intro p l e s m args below meth c Z H locs cls hC hZ hH hS hL
  rcases ht with rfl | rfl
  · refine W.aald (v := .ref (E.1 + b)) (ty := .object RX7) hC.1 hC.2.1 ((hH.2.2 a ha).arr hs (by decide)) ((hC.2.2.2.2.2.1.1.2 3 _ rfl).1 n _) rfl (fun q => by cases q) (jarr_size h0 h1 hn) ?_ rfl rfl d (k p l e s m args below meth c Z H locs cls hC hZ hH hS hL)
    rw [jarr_read h0 h1 hn, jev_ref (by decide) h0 hr]
  · refine W.aald (v := .ref (E.1 + b)) (ty := .object RX4) hC.1 hC.2.1 ((hH.2.2 a ha).arr hs (by decide)) ((hC.2.2.2.2.2.1.1.2 4 _ rfl).1 n _) rfl (fun q => by cases q) (jarr_size h0 h1 hn) ?_ rfl rfl d (k p l e s m args below meth c Z H locs cls hC hZ hH hS hL)
    rw [jarr_read h0 h1 hn, jev_ref (by decide) h0 hr]
theorem r_alen {a n t : Nat} (d : decode K.2.1 pc = .ok (.arraylength, 1)) (ha : a < G.2.2) (hs : G.2.1 a = (t, n)) (ht : t = 100 ∨ t = 101 ∨ t = 102) (k : jOk E K (pc + 1) ls (VI n :: st) G I u Q) : jOk E K pc ls (VR a :: st) G I u Q := by
  intro p l e s m args below meth c Z H locs cls hC hZ hH hS hL
  have hk := k p l e s m args below meth c Z H locs cls hC hZ hH hS hL
  have hc := (hH.2.2 a ha).arr hs (by omega)
  have e1 : (arrV (E.2.2 t) n (jev E.1 G I t a)).slots.size.toInt32 = Int32.ofInt n := by
    rw [arrV_size, Int32.ofInt_eq_ofNat]
  rcases ht with rfl | rfl | rfl
  · exact W.alen (ty := .int) hC.1 hC.2.1 hc ((hC.2.2.2.2.2.1.1.2 0 _ rfl).1 n _) e1 rfl rfl d hk
  · exact W.alen (ty := .byte) hC.1 hC.2.1 hc ((hC.2.2.2.2.2.1.1.2 1 _ rfl).1 n _) e1 rfl rfl d hk
  · exact W.alen (ty := .boolean) hC.1 hC.2.1 hc ((hC.2.2.2.2.2.1.1.2 2 _ rfl).1 n _) e1 rfl rfl d hk
theorem jHP.sta {a n t : Nat} {i x : Int} {H' : Heap} (hH : jHP E G I H) (hs : G.2.1 a = (t, n)) (ht : 100 ≤ t ∧ t < 103) (h0 : 0 ≤ i) (hi : i ≤ 2147483647) (hx : jRg t x) (e1 : H'[E.1 + a]? = some ((arrV (E.2.2 t) n (jev E.1 G I t a)).setSlot (Int32.ofInt i).toNatClampNeg (.int (Int32.ofInt x)))) (e2 : H'.size = H.size) (e3 : ∀ q, q ≠ E.1 + a → H'[q]? = H[q]?) : jHP E G (jup I a i x) H' := by
  refine ⟨e2.trans hH.1, fun b k => ?_, fun b hb => ?_⟩
  · unfold jup
    split
    · rename_i h
      rw [h.1, hs]
      exact hx
    · exact hH.2.1 b k
  · by_cases e : b = a
    · subst e
      unfold jAt
      rw [hs, if_neg (by omega)]
      refine ⟨by omega, ?_⟩
      rw [e1, arrV_store, j32_nat h0 hi]
      congr 2
      funext k
      unfold updV
      by_cases ek : k = i.toNat
      · rw [if_pos ek]
        have e4 : (k : Int) = i := by omega
        simp [jev, ht.2, jup, e4]
      · rw [if_neg ek]
        have e4 : ¬ (k : Int) = i := by omega
        simp [jev, ht.2, jup, e4]
    · refine (hH.2.2 b hb).to (fun k => ?_) (fun _ => rfl) rfl (e3 _ (by omega))
      unfold jup
      rw [if_neg (fun q => e q.1)]
theorem r_iastore {a n : Nat} {i x : Int} (d : decode K.2.1 pc = .ok (.iastore, 1)) (ha : a < G.2.2) (hs : G.2.1 a = (100, n)) (hn : (n : Int) ≤ 2147483647) (h0 : 0 ≤ i) (h1 : i < n) (hx : jIn x) (k : jOk E K (pc + 1) ls st G (jup I a i x) u Q) : jOk E K pc ls (VI x :: VI i :: VR a :: st) G I u Q := by
  intro p l e s m args below meth c Z H locs cls hC hZ hH hS hL
  refine W.iast hC.1 hC.2.1 ((hH.2.2 a ha).arr hs (by decide)) ((hC.2.2.2.2.2.1.1.2 0 _ rfl).1 n _) (fun q => by cases q) (jarr_size h0 h1 hn) rfl rfl d fun H' e1 e2 e3 => ?_
  exact k p l e s m args below meth c Z H' _ cls hC hZ (hH.sta hs (by decide) h0 (by omega) hx e1 e2 e3) (hS.put e2 e3 (Nat.le_add_right _ _)) hL
theorem j_nar8 {x : Int} (h1 : -128 ≤ x) (h2 : x ≤ 127) : (Int32.ofInt x).toInt8.toInt32 = Int32.ofInt x := by
  rw [Int32.toInt8_ofInt]
  have h3 : Int8.minValue.toInt = -128 := rfl
  have h4 : Int8.maxValue.toInt = 127 := rfl
  rw [Int8.toInt32_ofInt (by omega) (by omega)]
theorem r_bastore {a n : Nat} {i x : Int} (d : decode K.2.1 pc = .ok (.bastore, 1)) (ha : a < G.2.2) (hs : G.2.1 a = (101, n)) (hn : (n : Int) ≤ 2147483647) (h0 : 0 ≤ i) (h1 : i < n) (hx : -128 ≤ x ∧ x ≤ 127) (k : jOk E K (pc + 1) ls st G (jup I a i x) u Q) : jOk E K pc ls (VI x :: VI i :: VR a :: st) G I u Q := by
  intro p l e s m args below meth c Z H locs cls hC hZ hH hS hL
  refine W.bast hC.1 hC.2.1 ((hH.2.2 a ha).arr hs (by decide)) ((hC.2.2.2.2.2.1.1.2 1 _ rfl).1 n _) (fun q => by cases q) (jarr_size h0 h1 hn) rfl rfl d fun H' e1 e2 e3 => ?_
  rw [narrow_byte, j_nar8 hx.1 hx.2] at e1
  exact k p l e s m args below meth c Z H' _ cls hC hZ (hH.sta hs (by decide) h0 (by omega) hx e1 e2 e3) (hS.put e2 e3 (Nat.le_add_right _ _)) hL
theorem r_zastore {a n : Nat} {i x : Int} (d : decode K.2.1 pc = .ok (.bastore, 1)) (ha : a < G.2.2) (hs : G.2.1 a = (102, n)) (hn : (n : Int) ≤ 2147483647) (h0 : 0 ≤ i) (h1 : i < n) (hx : 0 ≤ x ∧ x ≤ 1) (k : jOk E K (pc + 1) ls st G (jup I a i x) u Q) : jOk E K pc ls (VI x :: VI i :: VR a :: st) G I u Q := by
  intro p l e s m args below meth c Z H locs cls hC hZ hH hS hL
  refine W.zast hC.1 hC.2.1 ((hH.2.2 a ha).arr hs (by decide)) ((hC.2.2.2.2.2.1.1.2 2 _ rfl).1 n _) (fun q => by cases q) (jarr_size h0 h1 hn) rfl rfl d fun H' e1 e2 e3 => ?_
  have h01 : x = 0 ∨ x = 1 := by omega
  have e4 : narrow .boolean (.int (Int32.ofInt x)) = .int (Int32.ofInt x) := by rcases h01 with rfl | rfl <;> rfl
  rw [e4] at e1
  exact k p l e s m args below meth c Z H' _ cls hC hZ (hH.sta hs (by decide) h0 (by omega) hx e1 e2 e3) (hS.put e2 e3 (Nat.le_add_right _ _)) hL
/-- System.arraycopy, among ints or among bytes -/
def jcp (I : jM) (a b : Nat) (sp dp n : Int) : jM := fun c k => if c = b ∧ dp ≤ k ∧ k < dp + n then I a (sp + (k - dp)) else I c k
theorem r_copy {a b na nb t idx : Nat} {sp dp n : Int} (d : decode K.2.1 pc = .ok (.invokestatic idx, 3)) (hl : Cond.methodLink K.1.cls idx arraycopyName ∈ jTB) (hw : Cond.native arraycopyName ∈ jTB ∧ Cond.static arraycopyName ∈ jTB ∧ Cond.initialized "java/lang/System" ∈ jTB) (hrm : 1 ≤ K.2.2.2.2.frames ∧ (st.map fun v => (cv 0 v).category).sum + (nativeFrameWords "java/lang/System" "arraycopy" 5 + 11) ≤ K.2.2.2.2.locals) (hK : K.2.2.1 = ls.length)
    (ha : a < G.2.2) (hb : b < G.2.2) (hsa : G.2.1 a = (t, na)) (hsb : G.2.1 b = (t, nb)) (ht : t = 100 ∨ t = 101) (hna : (na : Int) ≤ 2147483647) (hnb : (nb : Int) ≤ 2147483647) (h1 : 0 ≤ sp) (h2 : 0 ≤ dp) (h3 : 0 ≤ n) (h4 : sp + n ≤ na) (h5 : dp + n ≤ nb)
    (k : jOk E K (pc + 3) ls st G (jcp I a b sp dp n) u Q) : jOk E K pc ls (VI n :: VI dp :: VR b :: VI sp :: VR a :: st) G I u Q := by
  intro p l e s m args below meth c Z H locs cls hC hZ hH hS hL
  have hts := hC.2.2.2.2.1
  have hK1 := hC.2.2.2.2.2.1.1
  have f1 : ∀ z : Int, 0 ≤ z → z ≤ 2147483647 → ¬ Int32.ofInt z < 0 := fun z q0 q1 q => absurd ((j32_lt (a := z) (b := 0) ⟨by omega, by omega⟩ j_zero).mp q) (by omega)
  have f2 : ∀ z : Int, 0 ≤ z → z ≤ 2147483647 → (Int32.ofInt z).toInt = z := fun z q0 q1 => Int32.toInt_ofInt_of_le (by omega) (by omega)
  have ca := (hH.2.2 a ha).arr hsa (by omega)
  have cb := (hH.2.2 b hb).arr hsb (by omega)
  obtain ⟨ty, hty, hprim, harr, hfit⟩ : ∃ ty : FieldType, (t = 100 ∧ ty = .int ∨ t = 101 ∧ ty = .byte) ∧ refKind ty = false ∧ ArrOfT s (E.2.2 t) ty ∧ ∀ i : Nat, fits ty (jev E.1 G I t a i) = true := by
    have hg : ∀ i : Nat, jRg t (I a i) := fun i => by have := hH.2.1 a i; rwa [hsa] at this
    rcases ht with rfl | rfl
    · exact ⟨.int, Or.inl ⟨rfl, rfl⟩, rfl, (hK1.2 0 _ rfl).1, fun i => rfl⟩
    · refine ⟨.byte, Or.inr ⟨rfl, rfl⟩, rfl, (hK1.2 1 _ rfl).1, fun i => ?_⟩
      have g1 := hg i
      have g2 : jev E.1 G I 101 a i = .int (Int32.ofInt (I a i)) := rfl
      rw [g2]
      have g3 : (-128 : Int) ≤ I a i ∧ I a i ≤ 127 := g1
      have g4 : (-128 : Int32) ≤ Int32.ofInt (I a i) := (j32_le (a := -128) ⟨by omega, by omega⟩ ⟨by omega, by omega⟩).mpr g3.1
      have g5 : Int32.ofInt (I a i) ≤ (127 : Int32) := (j32_le (b := 127) ⟨by omega, by omega⟩ ⟨by omega, by omega⟩).mpr g3.2
      simp [fits, g4, g5]
  intro T hT X
  obtain ⟨-, k0, hk0, cm0, hkk0⟩ := harr na (jev E.1 G I t a)
  obtain ⟨-, k1, hk1, cm1, hkk1⟩ := harr nb (jev E.1 G I t b)
  have hsum : (st.map fun v => (cv 0 v).category).sum = ((st.map (cv E.1)).map fun v => v.category).sum := by
    rw [List.map_map]
    congr 1
    refine List.map_congr_left (fun v _ => ?_)
    rcases v with x | x | x <;> rfl
  obtain ⟨vm', X', step⟩ := X.arraycopy hC.1 hC.2.2.2.1 (hts _ hl) (hts _ hw.1) (hts _ hw.2.1) (hts _ hw.2.2) (src := E.1 + a) (dst := E.1 + b) (cs := arrV (E.2.2 t) na (jev E.1 G I t a)) (cd := arrV (E.2.2 t) nb (jev E.1 G I t b)) (srcPos := Int32.ofInt sp) (destPos := Int32.ofInt dp) (n := Int32.ofInt n) (by rw [hT]; exact ca) (by rw [hT]; exact cb)
    (fun _ h => by cases h) (fun _ h => by cases h) (fun h => by cases h) (fun h => by cases h) hk0 hk1 hkk0 hkk1 (by simp [hprim]) (f1 sp h1 (by omega)) (f1 dp h2 (by omega)) (f1 n h3 (by omega))
    (by rw [f2 sp h1 (by omega), f2 n h3 (by omega), arrV_size]; omega)
    (by rw [f2 dp h2 (by omega), f2 n h3 (by omega), arrV_size]; omega)
    (fun vm₁ _ i hi => by
      rw [j32_nat h3 (by omega)] at hi
      have e0 : (arrV (E.2.2 t) na (jev E.1 G I t a)).slots.getD ((Int32.ofInt sp).toNatClampNeg + i) .null = jev E.1 G I t a (sp.toNat + i) := by
        rw [Array.getD_eq_getD_getElem?, j32_nat h1 (by omega), arrV_read _ _ (by omega)]
        rfl
      refine ⟨?_, ?_⟩
      · rw [e0]
        exact hfit _
      · rw [e0]
        have e9 : jev E.1 G I t a (sp.toNat + i) = .int (Int32.ofInt (I a ((sp.toNat + i : Nat) : Int))) := by
          simp only [jev]
          rw [if_pos (by omega)]
        rw [e9]
        exact trivial)
    (g := F0 m pc cls ((VI n :: VI dp :: VR b :: VI sp :: VR a :: st).map (cv E.1))) rfl (by rw [hC.2.2.1]; exact hL.1) (rest := st.map (cv E.1)) rfl (by rw [hC.2.1]; exact d) hrm.1 (by show 2 * 0 + _ + _ ≤ _; rw [← hsum]; omega)
  have e1 : copied (arrV (E.2.2 t) na (jev E.1 G I t a)) (arrV (E.2.2 t) nb (jev E.1 G I t b)) (Int32.ofInt sp) (Int32.ofInt dp) (Int32.ofInt n) = arrV (E.2.2 t) nb (va_cpy (jev E.1 G I t a) (jev E.1 G I t b) sp.toNat dp.toNat n.toNat) := by
    have := va_copied (fun z : Value => z) (E.2.2 t) (E.2.2 t) (n0 := na) (n1 := nb) (sp := sp.toNat) (dp := dp.toNat) (n := n.toNat) (jev E.1 G I t a) (jev E.1 G I t b) (by omega)
    unfold copied
    rw [j32_nat h1 (by omega), j32_nat h2 (by omega), j32_nat h3 (by omega)]
    exact this
  rw [e1] at X' step
  have hlt : E.1 + b < H.size := (Array.getElem?_eq_some_iff.mp cb).1
  have hheap : ((T.setVm vm').setCell (E.1 + b) (arrV (E.2.2 t) nb (va_cpy (jev E.1 G I t a) (jev E.1 G I t b) sp.toNat dp.toNat n.toNat))).heap = H.setIfInBounds (E.1 + b) (arrV (E.2.2 t) nb (va_cpy (jev E.1 G I t a) (jev E.1 G I t b) sp.toNat dp.toNat n.toNat)) := by rw [← hT]; rfl
  have oq : ∀ q : Nat, q ≠ E.1 + b → (H.setIfInBounds (E.1 + b) (arrV (E.2.2 t) nb (va_cpy (jev E.1 G I t a) (jev E.1 G I t b) sp.toNat dp.toNat n.toNat)))[q]? = H[q]? := fun q hq => by simp [Array.getElem?_setIfInBounds, Ne.symm hq]
  have hH' : jHP E G (jcp I a b sp dp n) (H.setIfInBounds (E.1 + b) (arrV (E.2.2 t) nb (va_cpy (jev E.1 G I t a) (jev E.1 G I t b) sp.toNat dp.toNat n.toNat))) := by
    refine ⟨by simp; exact hH.1, fun x y => ?_, fun x hx => ?_⟩
    · unfold jcp
      split
      · rename_i h
        rw [h.1, hsb]
        have := hH.2.1 a (sp + (y - dp))
        rwa [hsa] at this
      · exact hH.2.1 x y
    · by_cases ex : x = b
      · subst ex
        unfold jAt
        rw [hsb, if_neg (by omega)]
        refine ⟨by omega, ?_⟩
        rw [Array.getElem?_setIfInBounds_self_of_lt hlt]
        congr 2
        funext y
        have hq : t < 103 := by omega
        unfold va_cpy
        by_cases hy : dp.toNat ≤ y ∧ y < dp.toNat + n.toNat
        · rw [if_pos hy]
          have e2 : ((sp.toNat + (y - dp.toNat) : Nat) : Int) = sp + (y - dp) := by omega
          simp only [jev, hq, if_true]
          rw [e2]
          unfold jcp
          rw [if_pos ⟨rfl, by omega, by omega⟩]
        · rw [if_neg hy]
          simp only [jev, hq, if_true]
          unfold jcp
          rw [if_neg (by omega)]
      · refine (hH.2.2 x hx).to (fun y => ?_) (fun _ => rfl) rfl (oq _ (by omega))
        unfold jcp
        rw [if_neg (fun q => ex q.1)]
  obtain ⟨t2, a1, b1⟩ := k p l e s m args below meth c Z _ _ cls hC hZ hH' ⟨by simp; exact hS.1, fun q g1 g2 => by
      rw [oq q (fun e => g2 (by rw [e]; exact Nat.le_add_right _ _))]
      exact hS.2.1 q g1 g2, fun q hq => by
      rcases List.mem_append.mp hq with h | h
      · exact hS.2.2 q h
      · obtain ⟨z, -, hz⟩ := List.mem_map.mp h
        rw [← hz]
        exact Nat.le_add_right _ _⟩ hL _ hheap X'
  exact ⟨t2, step t2 a1, b1⟩
end JA
