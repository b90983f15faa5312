/-! ===== fields, arrays, new cells ===== -/
theorem jcl_cases {ci : Nat} {r : vw_C} (h : vwCl[ci]? = some r) : (ci = 0 ∧ r = (RX0, TX0, 2)) ∨ (ci = 1 ∧ r = (RX1, TX1, 16)) ∨ (ci = 2 ∧ r = (RX2, TX2, 3)) ∨ (ci = 3 ∧ r = (RX3, TX3, 6)) ∨ (ci = 4 ∧ r = (RX4, TX4, 6)) ∨ (ci = 5 ∧ r = (RX5, TX5, 6)) ∨ (ci = 6 ∧ r = (RX6, TX6, 13)) ∨ (ci = 7 ∧ r = (RX7, TX7, 11)) ∨ (ci = 8 ∧ r = (RX8, TX8, 3)) ∨ (ci = 9 ∧ r = (RX9, TX9, 18)) ∨ (ci = 10 ∧ r = (RX10, TX10, 44)) := by
  match ci, h with
  | 0, h => cases h; exact Or.inl ⟨rfl, rfl⟩
  | 1, h => cases h; exact Or.inr (Or.inl ⟨rfl, rfl⟩)
  | 2, h => cases h; exact Or.inr (Or.inr (Or.inl ⟨rfl, rfl⟩))
  | 3, h => cases h; exact Or.inr (Or.inr (Or.inr (Or.inl ⟨rfl, rfl⟩)))
  | 4, h => cases h; exact Or.inr (Or.inr (Or.inr (Or.inr (Or.inl ⟨rfl, rfl⟩))))
  | 5, h => cases h; exact Or.inr (Or.inr (Or.inr (Or.inr (Or.inr (Or.inl ⟨rfl, rfl⟩)))))
  | 6, h => cases h; exact Or.inr (Or.inr (Or.inr (Or.inr (Or.inr (Or.inr (Or.inl ⟨rfl, rfl⟩))))))
  | 7, h => cases h; exact Or.inr (Or.inr (Or.inr (Or.inr (Or.inr (Or.inr (Or.inr (Or.inl ⟨rfl, rfl⟩)))))))
  | 8, h => cases h; exact Or.inr (Or.inr (Or.inr (Or.inr (Or.inr (Or.inr (Or.inr (Or.inr (Or.inl ⟨rfl, rfl⟩))))))))
  | 9, h => cases h; exact Or.inr (Or.inr (Or.inr (Or.inr (Or.inr (Or.inr (Or.inr (Or.inr (Or.inr (Or.inl ⟨rfl, rfl⟩)))))))))
  | 10, h => cases h; exact Or.inr (Or.inr (Or.inr (Or.inr (Or.inr (Or.inr (Or.inr (Or.inr (Or.inr (Or.inr ⟨rfl, rfl⟩)))))))))
  | n + 11, h => simp [vwCl] at h
theorem jin0 : ∀ w ∈ u_ws RX0 TX0 2, w ∈ jTB := by decide +kernel
theorem jin1 : ∀ w ∈ u_ws RX1 TX1 16, w ∈ jTB := by decide +kernel
theorem jin2 : ∀ w ∈ u_ws RX2 TX2 3, w ∈ jTB := by decide +kernel
theorem jin3 : ∀ w ∈ u_ws RX3 TX3 6, w ∈ jTB := by decide +kernel
theorem jin4 : ∀ w ∈ u_ws RX4 TX4 6, w ∈ jTB := by decide +kernel
theorem jin5 : ∀ w ∈ u_ws RX5 TX5 6, w ∈ jTB := by decide +kernel
theorem jin6 : ∀ w ∈ u_ws RX6 TX6 13, w ∈ jTB := by decide +kernel
theorem jin7 : ∀ w ∈ u_ws RX7 TX7 11, w ∈ jTB := by decide +kernel
theorem jin8 : ∀ w ∈ u_ws RX8 TX8 3, w ∈ jTB := by decide +kernel
theorem jin9 : ∀ w ∈ u_ws RX9 TX9 18, w ∈ jTB := by decide +kernel
theorem jin10 : ∀ w ∈ u_ws RX10 TX10 44, w ∈ jTB := by decide +kernel
theorem jin {ci : Nat} {r : vw_C} (h : vwCl[ci]? = some r) : ∀ w ∈ u_ws r.1 r.2.1 r.2.2, w ∈ jTB := by
  rcases jcl_cases h with ⟨-, rfl⟩ | ⟨-, rfl⟩ | ⟨-, rfl⟩ | ⟨-, rfl⟩ | ⟨-, rfl⟩ | ⟨-, rfl⟩ | ⟨-, rfl⟩ | ⟨-, rfl⟩ | ⟨-, rfl⟩ | ⟨-, rfl⟩ | ⟨-, rfl⟩
  · exact jin0
  · exact jin1
  · exact jin2
  · exact jin3
  · exact jin4
  · exact jin5
  · exact jin6
  · exact jin7
  · exact jin8
  · exact jin9
  · exact jin10
theorem jnm {ci : Nat} {r : vw_C} (h : vwCl[ci]? = some r) : ∀ a, a < r.2.2 → ∀ b, b < r.2.2 → a ≠ b → (r.2.1 a).2.1 ≠ (r.2.1 b).2.1 := by
  rcases jcl_cases h with ⟨-, rfl⟩ | ⟨-, rfl⟩ | ⟨-, rfl⟩ | ⟨-, rfl⟩ | ⟨-, rfl⟩ | ⟨-, rfl⟩ | ⟨-, rfl⟩ | ⟨-, rfl⟩ | ⟨-, rfl⟩ | ⟨-, rfl⟩ | ⟨-, rfl⟩
  · exact nmX0
  · exact nmX1
  · exact nmX2
  · exact nmX3
  · exact nmX4
  · exact nmX5
  · exact nmX6
  · exact nmX7
  · exact nmX8
  · exact nmX9
  · exact nmX10
def jty (ci : Nat) : Nat → FieldType := match ci with
  | 0 => tyX0
  | 1 => tyX1
  | 2 => tyX2
  | 3 => tyX3
  | 4 => tyX4
  | 5 => tyX5
  | 6 => tyX6
  | 7 => tyX7
  | 8 => tyX8
  | 9 => tyX9
  | _ => tyX10
theorem jty_ok {ci : Nat} {r : vw_C} (h : vwCl[ci]? = some r) : ∀ k, k < r.2.2 → parseFieldDescriptor (r.2.1 k).2.2.1 = some (jty ci k) := by
  rcases jcl_cases h with ⟨rfl, rfl⟩ | ⟨rfl, rfl⟩ | ⟨rfl, rfl⟩ | ⟨rfl, rfl⟩ | ⟨rfl, rfl⟩ | ⟨rfl, rfl⟩ | ⟨rfl, rfl⟩ | ⟨rfl, rfl⟩ | ⟨rfl, rfl⟩ | ⟨rfl, rfl⟩ | ⟨rfl, rfl⟩
  · exact tyX0_ok
  · exact tyX1_ok
  · exact tyX2_ok
  · exact tyX3_ok
  · exact tyX4_ok
  · exact tyX5_ok
  · exact tyX6_ok
  · exact tyX7_ok
  · exact tyX8_ok
  · exact tyX9_ok
  · exact tyX10_ok
theorem jcl_lt {ci : Nat} {r : vw_C} (h : vwCl[ci]? = some r) : ci < 100 := by
  rcases jcl_cases h with ⟨rfl, -⟩ | ⟨rfl, -⟩ | ⟨rfl, -⟩ | ⟨rfl, -⟩ | ⟨rfl, -⟩ | ⟨rfl, -⟩ | ⟨rfl, -⟩ | ⟨rfl, -⟩ | ⟨rfl, -⟩ | ⟨rfl, -⟩ | ⟨rfl, -⟩ <;> decide
/-- the field j of class ci, by the link idx of class own -/
def jFL (own : String) (idx ci j : Nat) : Prop := ∃ r : vw_C, vwCl[ci]? = some r ∧ j < r.2.2 ∧ Cond.fieldLink own idx (r.2.1 j).1 (r.2.1 j).2.1 (r.2.1 j).2.2.1 ∈ jTB
theorem jAt.to {E : jE} {G G' : jG} {I I' : jM} {b : Nat} {H H' : Heap} (h : jAt E G I b H) (hI : ∀ k, I' b k = I b k) (hR : ∀ k, G'.1 b k = G.1 b k) (hS : G'.2.1 b = G.2.1 b) (hH : H'[E.1 + b]? = H[E.1 + b]?) : jAt E G' I' b H' := by
  unfold jAt at h ⊢
  rw [hS]
  by_cases hlt : (G.2.1 b).1 < 100
  · rw [if_pos hlt] at h ⊢
    obtain ⟨r, h1, h2⟩ := h
    refine ⟨r, h1, (h2.kept hH).to (fun k _ => ?_)⟩
    simp only [jfv, hI, hR]
  · rw [if_neg hlt] at h ⊢
    refine ⟨h.1, ?_⟩
    rw [hH, h.2]
    have e : jev E.1 G I (G.2.1 b).1 b = jev E.1 G' I' (G.2.1 b).1 b := by
      funext k
      simp only [jev, hI, hR]
    rw [e]
theorem jAt.obj {E : jE} {G : jG} {I : jM} {a ci : Nat} {H : Heap} {r : vw_C} (h : jAt E G I a H) (hs : (G.2.1 a).1 = ci) (hr : vwCl[ci]? = some r) : t_OB (E.1 + a) (E.2.1.1 ci) r.2.2 (E.2.1.2 ci) H (jfv E.1 G I ci a) := by
  unfold jAt at h
  rw [hs, if_pos (jcl_lt hr)] at h
  obtain ⟨r', h1, h2⟩ := h
  cases h1.symm.trans hr
  exact h2
theorem jAt.arr {E : jE} {G : jG} {I : jM} {a k n : Nat} {H : Heap} (h : jAt E G I a H) (hs : G.2.1 a = (k, n)) (hk : ¬ k < 100) : H[E.1 + a]? = some (arrV (E.2.2 k) n (jev E.1 G I k a)) := by
  unfold jAt at h
  rw [hs, if_neg hk] at h
  exact h.2
section JM
variable {E : jE} {K : jK} {pc : Nat} {ls st : List jV} {G : jG} {I : jM} {u : Nat × Nat} {Q : jV → jG → jM → Prop}
variable {p : Program} {l : Launch} {e : Jvm.Env} {s : State} {m : MethodId} {args : Array Value} {below : List Frame} {meth : Method} {c : Code} {Z : State → Prop} {H : Heap} {locs : List Loc} {cls : Array Slot} {cells slots : Nat} {R : Room}
theorem jget {a ci j idx : Nat} {rest : List Value} (hC : jC E K p s m args meth c) (hH : jHP E G I H) (ha : a < G.2.2) (hs : (G.2.1 a).1 = ci) (hf : jFL K.1.cls idx ci j) (d : decode K.2.1 pc = .ok (.getfield idx, 3))
    (kk : W p l e R s m args below meth c H locs cells slots Z (F0 m (pc + 3) cls (jfv E.1 G I ci a j :: rest))) : W p l e R s m args below meth c H locs cells slots Z (F0 m pc cls (.ref (E.1 + a) :: rest)) := by
  obtain ⟨r, hr, hj, hw⟩ := hf
  have hO := (hH.2.2 a ha).obj hs hr
  have hP : va_P E.2.1 vwCl [(E.1 + a, .inr (ci, (List.range r.2.2).map (jfv E.1 G I ci a)))] H := by
    intro k q hq
    have hk : k = 0 := by
      have := (List.getElem?_eq_some_iff.mp hq).1
      simp at this
      exact this
    subst hk
    cases hq
    refine ⟨r, hr, hO.to (fun k hk => ?_)⟩
    simp [vp_V, hk]
  exact va_get (D := E.2.1) (tys := jtys E) (C := r.1) (T := r.2.1) (N := r.2.2) (ci := ci) (v := jfv E.1 G I ci a j) hC.1 hC.2.1 hC.2.2.2.2.1 (jin hr) hC.2.2.2.1 hC.2.2.2.2.2.1.1 hP 0 rfl hr j hj (hC.2.2.2.2.1 _ hw) (fun _ h => h) (by simp [hj]) d kk
theorem r_getI {a ci j idx : Nat} (d : decode K.2.1 pc = .ok (.getfield idx, 3)) (hf : jFL K.1.cls idx ci j) (hk : jfk ci j = 0) (ha : a < G.2.2) (hs : (G.2.1 a).1 = ci) (k : jOk E K (pc + 3) ls (VI (I a j) :: st) G I u Q) : jOk E K pc ls (VR a :: st) G I u Q := by
  intro p l e s m args below meth c Z H locs cls hC hZ hH hS hL
  refine jget hC hH ha hs hf d (W.eq ?_ (k p l e s m args below meth c Z H locs cls hC hZ hH hS hL))
  simp [cv, jfv, hk]
theorem r_getR {a b ci j idx : Nat} (d : decode K.2.1 pc = .ok (.getfield idx, 3)) (hf : jFL K.1.cls idx ci j) (hk : jfk ci j = 1) (ha : a < G.2.2) (hs : (G.2.1 a).1 = ci) (hr : G.1 a j = some b) (k : jOk E K (pc + 3) ls (VR b :: st) G I u Q) : jOk E K pc ls (VR a :: st) G I u Q := by
  intro p l e s m args below meth c Z H locs cls hC hZ hH hS hL
  refine jget hC hH ha hs hf d (W.eq ?_ (k p l e s m args below meth c Z H locs cls hC hZ hH hS hL))
  simp [cv, jfv, hk, hr, jrf]
theorem r_getM {a b ci j idx : Nat} (d : decode K.2.1 pc = .ok (.getfield idx, 3)) (hf : jFL K.1.cls idx ci j) (hk : jfk ci j = 2) (ha : a < G.2.2) (hs : (G.2.1 a).1 = ci) (hr : I a j = (b : Int)) (k : jOk E K (pc + 3) ls (VR b :: st) G I u Q) : jOk E K pc ls (VR a :: st) G I u Q := by
  intro p l e s m args below meth c Z H locs cls hC hZ hH hS hL
  refine jget hC hH ha hs hf d (W.eq ?_ (k p l e s m args below meth c Z H locs cls hC hZ hH hS hL))
  have h0 : ¬ ((b : Int) < 0) := by omega
  simp [cv, jfv, hk, hr]
/-- a store into a field that may change -/
def jFP (own : String) (idx ci j : Nat) (ty : FieldType) : Prop := ∃ r : vw_C, vwCl[ci]? = some r ∧ j < r.2.2 ∧ Cond.fieldLink own idx (r.2.1 j).1 (r.2.1 j).2.1 (r.2.1 j).2.2.1 ∈ jTB ∧ (r.2.1 j).2.2.2 = false ∧ parseFieldDescriptor (r.2.1 j).2.2.1 = some ty
/-- a store into a field that stays, in its class's constructor -/
def jFF (own : String) (idx ci j : Nat) (ty : FieldType) : Prop := ∃ r : vw_C, vwCl[ci]? = some r ∧ j < r.2.2 ∧ Cond.fieldLink own idx (r.2.1 j).1 (r.2.1 j).2.1 (r.2.1 j).2.2.1 ∈ jTB ∧ (r.2.1 j).2.2.2 = true ∧ (r.2.1 j).1 = own ∧ parseFieldDescriptor (r.2.1 j).2.2.1 = some ty
theorem jput {a ci j idx : Nat} {ty : FieldType} {v : Value} {rest : List Value} (hC : jC E K p s m args meth c) (hH : jHP E G I H) (hS : va_S (fun q => E.1 ≤ q) s.heap H locs) (ha : a < G.2.2) (hs : (G.2.1 a).1 = ci) (hf : jFP K.1.cls idx ci j ty ∨ (jFF K.1.cls idx ci j ty ∧ K.1.name = "<init>")) (hn : narrow ty v = v) (hfit : fits ty v = true) (d : decode K.2.1 pc = .ok (.putfield idx, 3))
    (kk : ∀ (H' : Heap) (locs' : List Loc) (r : vw_C), vwCl[ci]? = some r → H'.size = H.size → (∀ q, q ≠ E.1 + a → H'[q]? = H[q]?) → t_OB (E.1 + a) (E.2.1.1 ci) r.2.2 (E.2.1.2 ci) H' (updV (jfv E.1 G I ci a) j v) → va_S (fun q => E.1 ≤ q) s.heap H' locs' → W p l e R s m args below meth c H' locs' cells slots Z (F0 m (pc + 3) cls rest)) : W p l e R s m args below meth c H locs cells slots Z (F0 m pc cls (v :: .ref (E.1 + a) :: rest)) := by
  have hts := hC.2.2.2.2.1
  have hown := hC.2.2.2.1
  have hK := hC.2.2.2.2.2.1.1
  rcases hf with ⟨r, hr, hj, hw, hfin, hd⟩ | ⟨⟨r, hr, hj, hw, hfin, hdecl, hd⟩, hin2⟩
  · have hin := jin hr
    have hap := va_apart (own := K.1.cls) (C := r.1) (T := r.2.1) (N := r.2.2) (ci := ci) hts hin (jty ci) (jty_ok hr) (jnm hr) hK hr
    obtain ⟨cell, q1, q2, q3, q4⟩ := (hH.2.2 a ha).obj hs hr
    obtain ⟨hS1, hfc, kC, hkC, hkind⟩ := hK.1 ci _ hr
    obtain ⟨cf, kf, fi, f, hi, hsl⟩ := hS1 j hj
    have hlay := hts _ (hin _ (u_in_lay hj))
    unfold u_lay at hlay
    rw [if_neg (by rw [hfin]; decide)] at hlay
    have hst := (u_facts hfc hkC (u_lays hts hin hj) hi).1
    have h6 := u_store hfc hkC hkind hlay hi hd hn hfit
    refine W.putK hC.1 hC.2.1 (f := f) ⟨hown, hts _ hw, ⟨_, _, _, hi⟩, hst⟩ (by rw [q2]; exact h6) q1 q3 (by rw [hsl]; exact k2_hasslot (q4 j hj)) rfl rfl d fun H' e1 e2 e3 => ?_
    rw [hsl] at e1 ⊢
    exact kk H' _ r hr e2 e3 ⟨_, e1, q2, q3, t_set q4 hap hj v⟩ (hS.put e2 e3 (Nat.le_add_right _ _))
  · have hin := jin hr
    have hap := va_apart (own := K.1.cls) (C := r.1) (T := r.2.1) (N := r.2.2) (ci := ci) hts hin (jty ci) (jty_ok hr) (jnm hr) hK hr
    obtain ⟨cell, q1, q2, q3, q4⟩ := (hH.2.2 a ha).obj hs hr
    obtain ⟨hS1, hfc, kC, hkC, hkind⟩ := hK.1 ci _ hr
    obtain ⟨cf, kf, fi, f, hi, hsl⟩ := hS1 j hj
    have hlay := hts _ (hin _ (u_in_lay hj))
    unfold u_lay at hlay
    rw [if_pos hfin] at hlay
    have hst := (u_facts hfc hkC (u_lays hts hin hj) hi).1
    have hcf : m.cls = cf := by
      obtain ⟨_, _, c', _, _, _, -, -, hf', -, -, -, hown2, -⟩ := Cond.laysFinal_spec hlay
      have e1 : c' = cf := by have := hi.symm.trans hf'; simp at this; exact this.1.symm
      rw [hdecl] at hown2
      rw [← e1]
      exact Option.some.inj (hown.symm.trans hown2)
    have h6 := u_fits hfc hkC hkind (Or.inr hlay) hi hd hn hfit
    refine W.putFinK hC.1 hC.2.1 hown (hts _ hw) hi hst hcf (hC.2.2.2.2.2.2.1.trans hin2) (by rw [q2]; exact h6) q1 q3 (by rw [hsl]; exact k2_hasslot (q4 j hj)) rfl rfl d fun H' e1 e2 e3 => ?_
    rw [hsl] at e1 ⊢
    exact kk H' _ r hr e2 e3 ⟨_, e1, q2, q3, t_set q4 hap hj v⟩ (hS.put e2 e3 (Nat.le_add_right _ _))
theorem jHP.put {a ci j : Nat} {x : Int} {v : Value} {r : vw_C} {H' : Heap} (hH : jHP E G I H) (hs : (G.2.1 a).1 = ci) (hr : vwCl[ci]? = some r) (hx : jIn x) (hv : jfv E.1 G (jup I a j x) ci a j = v) (e2 : H'.size = H.size) (e3 : ∀ q, q ≠ E.1 + a → H'[q]? = H[q]?) (hO : t_OB (E.1 + a) (E.2.1.1 ci) r.2.2 (E.2.1.2 ci) H' (updV (jfv E.1 G I ci a) j v)) : jHP E G (jup I a j x) H' := by
  have hlt := jcl_lt hr
  refine ⟨e2.trans hH.1, fun b k => ?_, fun b hb => ?_⟩
  · unfold jup
    split
    · rename_i h
      rw [h.1, hs]
      unfold jRg
      rw [if_neg (by omega), if_neg (by omega)]
      exact hx
    · exact hH.2.1 b k
  · by_cases e : b = a
    · subst e
      unfold jAt
      rw [hs, if_pos hlt]
      refine ⟨r, hr, hO.to (fun k _ => ?_)⟩
      unfold updV
      by_cases ek : k = j
      · subst ek
        rw [if_pos rfl, hv]
      · rw [if_neg ek]
        have e1 : jup I b j x b k = I b k := by
          unfold jup
          rw [if_neg]
          intro q
          exact ek (by omega)
        simp only [jfv, e1]
    · refine (hH.2.2 b hb).to (fun k => ?_) (fun _ => rfl) rfl (e3 _ (by omega))
      unfold jup
      rw [if_neg (fun q => e q.1)]
theorem r_putI {a ci j idx : Nat} {x : Int} (d : decode K.2.1 pc = .ok (.putfield idx, 3)) (hf : jFP K.1.cls idx ci j .int) (hk : jfk ci j = 0) (ha : a < G.2.2) (hs : (G.2.1 a).1 = ci) (hx : jIn x) (k : jOk E K (pc + 3) ls st G (jup I a j x) u Q) : jOk E K pc ls (VI x :: VR a :: st) G I u Q := by
  intro p l e s m args below meth c Z H locs cls hC hZ hH hS hL
  refine jput (v := .int (Int32.ofInt x)) hC hH hS ha hs (Or.inl hf) rfl rfl d fun H' locs' r hr e2 e3 hO hS' => ?_
  exact k p l e s m args below meth c Z H' locs' cls hC hZ (hH.put hs hr hx (by simp [jfv, hk, jup]) e2 e3 hO) hS' hL
theorem r_putZ {a ci j idx : Nat} {x : Int} (d : decode K.2.1 pc = .ok (.putfield idx, 3)) (hf : jFP K.1.cls idx ci j .boolean) (hk : jfk ci j = 0) (ha : a < G.2.2) (hs : (G.2.1 a).1 = ci) (hx : 0 ≤ x ∧ x ≤ 1) (k : jOk E K (pc + 3) ls st G (jup I a j x) u Q) : jOk E K pc ls (VI x :: VR a :: st) G I u Q := by
  intro p l e s m args below meth c Z H locs cls hC hZ hH hS hL
  have h01 : x = 0 ∨ x = 1 := by omega
  refine jput (v := .int (Int32.ofInt x)) hC hH hS ha hs (Or.inl hf) (by rcases h01 with rfl | rfl <;> rfl) (by rcases h01 with rfl | rfl <;> rfl) d fun H' locs' r hr e2 e3 hO hS' => ?_
  exact k p l e s m args below meth c Z H' locs' cls hC hZ (hH.put hs hr ⟨by omega, by omega⟩ (by simp [jfv, hk, jup]) e2 e3 hO) hS' hL
theorem r_putM {a b ci j idx : Nat} {n : String} (d : decode K.2.1 pc = .ok (.putfield idx, 3)) (hf : jFP K.1.cls idx ci j (.object n)) (hk : jfk ci j = 2) (ha : a < G.2.2) (hs : (G.2.1 a).1 = ci) (hx : (b : Int) ≤ 2147483647) (k : jOk E K (pc + 3) ls st G (jup I a j b) u Q) : jOk E K pc ls (VR b :: VR a :: st) G I u Q := by
  intro p l e s m args below meth c Z H locs cls hC hZ hH hS hL
  refine jput (v := .ref (E.1 + b)) hC hH hS ha hs (Or.inl hf) rfl rfl d fun H' locs' r hr e2 e3 hO hS' => ?_
  have h0 : ¬ ((b : Int) < 0) := by omega
  exact k p l e s m args below meth c Z H' locs' cls hC hZ (hH.put hs hr ⟨by omega, by omega⟩ (by simp [jfv, hk, jup]) e2 e3 hO) hS' hL
end JM
