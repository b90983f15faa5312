theorem j8_in (a : Int) : jIn (jb8 a) ∧ (-128 ≤ jb8 a ∧ jb8 a ≤ 127) := by
  have h1 := ((Int32.ofInt a).toInt8).le_toInt
  have h2 := ((Int32.ofInt a).toInt8).toInt_lt
  unfold jb8
  refine ⟨⟨by omega, by omega⟩, by omega, by omega⟩
theorem j_max {a b : Int} (ha : jIn a) (hb : jIn b) : jIn (max a b) := ⟨by omega, by omega⟩
theorem j_min {a b : Int} (ha : jIn a) (hb : jIn b) : jIn (min a b) := ⟨by omega, by omega⟩
theorem r_ldcwf {E : jE} {K : jK} {pc : Nat} {ls st : List jV} {G : jG} {I : jM} {u : Nat × Nat} {Q : jV → jG → jM → Prop} {i : Nat} {n : UInt32} (d : decode K.2.1 pc = .ok (.ldc_w i, 3)) (hw : Cond.constantFloat K.1.cls i n ∈ jTB) (k : jOk E K (pc + 3) ls (VX (.float n) :: st) G I u Q) : jOk E K pc ls st G I u Q := by
  intro p l e s m args below meth c Z H locs cls hC hZ hH hS hL
  obtain ⟨kc, cf, hk, hcf, hcp⟩ := Cond.constantFloat_spec hC.2.2.2.1 (hC.2.2.2.2.1 _ hw)
  intro T hT X
  obtain ⟨t, a, b⟩ := k p l e s m args below meth c Z H locs cls hC hZ hH hS hL T hT X
  obtain ⟨k', hk', he⟩ := X.warmed.alike.2.2 _ _ hk
  have hd : decode c.code (F0 m pc cls (st.map (cv E.1))).pc = .ok (.ldc_w i, 3) := by rw [hC.2.1]; exact d
  refine ⟨t, ?_, b⟩
  jvm_step X.here [hC.1, hd, ldc_w.wp_float (s := T) (f := F0 m pc cls (st.map (cv E.1))) X.here.top hk' (by rw [he]; exact hcf) hcp]
  exact a
theorem jb_n {P : Prop} {h : Decidable P} (e : (if P then (1 : Int) else 0) = 0) : ¬ P := fun q => by rw [if_pos q] at e; exact absurd e (by decide)
theorem jb_p {P : Prop} {h : Decidable P} (e : ¬ (if P then (1 : Int) else 0) = 0) : P := by
  by_cases q : P
  · exact q
  · rw [if_neg q] at e
    exact absurd rfl e
theorem jb_01 {P : Prop} {h : Decidable P} : 0 ≤ (if P then (1 : Int) else 0) ∧ (if P then (1 : Int) else 0) ≤ 1 := by
  by_cases q : P
  · rw [if_pos q]; decide
  · rw [if_neg q]; decide
