/-! ===== the call rows ===== -/
section JD
variable {E : jE} {K K' : jK} {pc idx : Nat} {ls st as : List jV} {G : jG} {I : jM} {u : Nat × Nat} {Q Q' : jV → jG → jM → Prop}
/-- rooms, and the number of arguments -/
def jRm (K K' : jK) (n : Nat) : Prop := (parseMethodDescriptor K'.1.desc).map (fun d => d.parameters.length) = some n ∧ K'.2.2.2.2.frames + 1 ≤ K.2.2.2.2.frames ∧ 8 + (K'.2.2.1 + 11) + K'.2.2.2.2.locals ≤ K.2.2.2.2.locals
theorem jrecv {s : State} {H : Heap} {a : Nat} {C : String} (hK : jKn E s) (hH : jHP E G I H) (ha : a < G.2.2) (hc : ∃ T N, vwCl[(G.2.1 a).1]? = some (C, T, N)) : ∃ cell : Cell, H[E.1 + a]? = some cell ∧ cell.vm.isStatics = false ∧ s.vm.findClass C = some cell.cls := by
  obtain ⟨T, N, hr⟩ := hc
  obtain ⟨cell, q1, q2, q3, q4⟩ := (hH.2.2 a ha).obj rfl hr
  exact ⟨cell, q1, by rw [q3]; rfl, by rw [q2]; exact (hK.1.1 _ _ hr).2.1⟩
theorem jstk {z : Nat} {w : List jV} : (as.reverse ++ w).map (cv z) = (as.map (cv z)).reverse ++ w.map (cv z) := by
  rw [List.map_append, List.map_reverse]
theorem r_callV {a : Nat} (d : decode K.2.1 pc = .ok (.invokevirtual idx, 3)) (hm : jMth K') (hl : Cond.methodLink K.1.cls idx K'.1 ∈ jTB) (hi : Cond.instanceMethod K'.1 ∈ jTB ∧ Cond.selects K'.1.cls K'.1 K'.1 ∈ jTB) (hrm : jRm K K' as.length) (hu : u.1 + K'.2.2.2.2.cells ≤ K.2.2.2.2.cells ∧ u.2 + K'.2.2.2.2.slots ≤ K.2.2.2.2.slots) (hw : (st.map fun v => (cv 0 v).category).sum ≤ 8) (ha : a < G.2.2) (hc : ∃ T N, vwCl[(G.2.1 a).1]? = some (K'.1.cls, T, N)) (has : ∀ x ∈ as, jokv x) (hr : jRun E K' (VR a :: as) G I Q')
    (k : ∀ r G' I', jokv r → Q' r G' I' → jOk E K (pc + 3) ls (jrl r ++ st) G' I' (u.1 + K'.2.2.2.2.cells, u.2 + K'.2.2.2.2.slots) Q) : jOk E K pc ls (as.reverse ++ VR a :: st) G I u Q := by
  intro p l e s m args below meth c Z H locs cls hC hZ hH hS hL
  have hts := hC.2.2.2.2.1
  have has' : ∀ x ∈ (VR a :: as), jokv x := fun x hx => by
    rcases List.mem_cons.mp hx with rfl | hx
    · exact trivial
    · exact has x hx
  refine jback (Q' := Q') (K' := K') (va_runV (C := K'.1.cls) (n := as.length) (As := as.map (cv E.1)) (b := E.1 + a) (ret := K'.2.2.2.1) (bytes := K'.2.1) (maxL := K'.2.2.1) (own := K.1.cls) ⟨hC.1, hC.2.1, hC.2.2.1, hC.2.2.2.1, hts⟩ (hr l) ⟨callB_of as.length hts (jgood hm) rfl rfl rfl (hts _ hm.2.1) (hts _ hl) ⟨hm.2.2.1.1, hm.2.2.1.2, hrm.1⟩ hrm.2, hts _ hi.1, hts _ hi.2⟩ ⟨jpre_blind, jrecv hC.2.2.2.2.2.1 hH ha hc, jpre_at hC hH has'⟩ rfl (by simp) hL.1 ?_ ?_ d hu) hC hZ hS hL k
  · exact jstk
  · exact lv_room (by rw [jcat]; exact hw)
theorem r_callS (d : decode K.2.1 pc = .ok (.invokestatic idx, 3)) (hm : jMth K') (hl : Cond.methodLink K.1.cls idx K'.1 ∈ jTB) (hi : Cond.static K'.1 ∈ jTB) (hrm : jRm K K' as.length) (hu : u.1 + K'.2.2.2.2.cells ≤ K.2.2.2.2.cells ∧ u.2 + K'.2.2.2.2.slots ≤ K.2.2.2.2.slots) (hw : (st.map fun v => (cv 0 v).category).sum ≤ 8) (has : ∀ x ∈ as, jokv x) (hr : jRun E K' as G I Q')
    (k : ∀ r G' I', jokv r → Q' r G' I' → jOk E K (pc + 3) ls (jrl r ++ st) G' I' (u.1 + K'.2.2.2.2.cells, u.2 + K'.2.2.2.2.slots) Q) : jOk E K pc ls (as.reverse ++ st) G I u Q := by
  intro p l e s m args below meth c Z H locs cls hC hZ hH hS hL
  have hts := hC.2.2.2.2.1
  refine jback (Q' := Q') (K' := K') (va_runS (n := as.length) (As := as.map (cv E.1)) (ret := K'.2.2.2.1) (bytes := K'.2.1) (maxL := K'.2.2.1) (own := K.1.cls) ⟨hC.1, hC.2.1, hC.2.2.1, hC.2.2.2.1, hts⟩ (hr l) ⟨callB_of as.length hts (jgood hm) rfl rfl rfl (hts _ hm.2.1) (hts _ hl) ⟨hm.2.2.1.1, hm.2.2.1.2, hrm.1⟩ hrm.2, hts _ hi⟩ ⟨jpre_blind, jpre_at hC hH has⟩ rfl (by simp) hL.1 ?_ ?_ d hu) hC hZ hS hL k
  · exact jstk
  · exact lv_room (by rw [jcat]; exact hw)
theorem r_callSN {host : String} (d : decode K.2.1 pc = .ok (.invokestatic idx, 3)) (hm : jMth K') (hl : Cond.methodLinkNest K.1.cls idx K'.1 host ∈ jNB) (hi : Cond.static K'.1 ∈ jTB) (hrm : jRm K K' as.length) (hu : u.1 + K'.2.2.2.2.cells ≤ K.2.2.2.2.cells ∧ u.2 + K'.2.2.2.2.slots ≤ K.2.2.2.2.slots) (hw : (st.map fun v => (cv 0 v).category).sum ≤ 8) (has : ∀ x ∈ as, jokv x) (hr : jRun E K' as G I Q')
    (k : ∀ r G' I', jokv r → Q' r G' I' → jOk E K (pc + 3) ls (jrl r ++ st) G' I' (u.1 + K'.2.2.2.2.cells, u.2 + K'.2.2.2.2.slots) Q) : jOk E K pc ls (as.reverse ++ st) G I u Q := by
  intro p l e s m args below meth c Z H locs cls hC hZ hH hS hL
  have hts := hC.2.2.2.2.1
  refine jback (Q' := Q') (K' := K') (va_runSN (n := as.length) (As := as.map (cv E.1)) (ret := K'.2.2.2.1) (bytes := K'.2.1) (maxL := K'.2.2.1) (own := K.1.cls) (host := host) ⟨hC.1, hC.2.1, hC.2.2.1, hC.2.2.2.1, hts⟩ (hr l) ⟨va_cnB as.length hts (jgood hm) rfl rfl rfl (hC.2.2.2.2.2.1.2.1 _ hl) (hts _ hm.2.1) ⟨hm.2.2.1.1, hm.2.2.1.2, hrm.1⟩ hrm.2, hts _ hi, trivial⟩ ⟨jpre_blind, jpre_at hC hH has⟩ rfl (by simp) hL.1 ?_ ?_ d hu) hC hZ hS hL k
  · exact jstk
  · exact lv_room (by rw [jcat]; exact hw)
theorem r_callI {a : Nat} (d : decode K.2.1 pc = .ok (.invokespecial idx, 3)) (hm : jMth K') (hl : Cond.methodLink K.1.cls idx K'.1 ∈ jTB) (hi : Cond.instanceMethod K'.1 ∈ jTB) (hin : K'.1.name = "<init>") (hv : K'.2.2.2.1 = none) (hrm : jRm K K' as.length) (hu : u.1 + K'.2.2.2.2.cells ≤ K.2.2.2.2.cells ∧ u.2 + K'.2.2.2.2.slots ≤ K.2.2.2.2.slots) (hw : (st.map fun v => (cv 0 v).category).sum ≤ 8) (has : ∀ x ∈ as, jokv x) (hr : jRun E K' (VR a :: as) G I Q')
    (k : ∀ r G' I', jokv r → Q' r G' I' → jOk E K (pc + 3) ls (jrl r ++ st) G' I' (u.1 + K'.2.2.2.2.cells, u.2 + K'.2.2.2.2.slots) Q) : jOk E K pc ls (as.reverse ++ VR a :: st) G I u Q := by
  intro p l e s m args below meth c Z H locs cls hC hZ hH hS hL
  have hts := hC.2.2.2.2.1
  have has' : ∀ x ∈ (VR a :: as), jokv x := fun x hx => by
    rcases List.mem_cons.mp hx with rfl | hx
    · exact trivial
    · exact has x hx
  obtain ⟨y, bb, mL, rt, rm⟩ := K'
  cases hv
  refine jback (Q' := Q') (K' := (y, bb, mL, none, rm)) (va_runI (n := as.length) (As := as.map (cv E.1)) (b := E.1 + a) (bytes := bb) (maxL := mL) (own := K.1.cls) ⟨hC.1, hC.2.1, hC.2.2.1, hC.2.2.2.1, hts⟩ (hr l) ⟨callB_of as.length hts (jgood hm) rfl rfl rfl (hts _ hm.2.1) (hts _ hl) ⟨hm.2.2.1.1, hm.2.2.1.2, hrm.1⟩ hrm.2, hin, hts _ hi⟩ ⟨jpre_blind, jpre_at hC hH has'⟩ rfl (by simp) hL.1 ?_ ?_ d hu) hC hZ hS hL k
  · exact jstk
  · exact lv_room (by rw [jcat]; exact hw)
theorem r_callIN {a : Nat} {host : String} (d : decode K.2.1 pc = .ok (.invokespecial idx, 3)) (hm : jMth K') (hl : Cond.methodLinkNest K.1.cls idx K'.1 host ∈ jNB) (hi : Cond.instanceMethod K'.1 ∈ jTB) (hin : K'.1.name = "<init>") (hv : K'.2.2.2.1 = none) (hrm : jRm K K' as.length) (hu : u.1 + K'.2.2.2.2.cells ≤ K.2.2.2.2.cells ∧ u.2 + K'.2.2.2.2.slots ≤ K.2.2.2.2.slots) (hw : (st.map fun v => (cv 0 v).category).sum ≤ 8) (has : ∀ x ∈ as, jokv x) (hr : jRun E K' (VR a :: as) G I Q')
    (k : ∀ r G' I', jokv r → Q' r G' I' → jOk E K (pc + 3) ls (jrl r ++ st) G' I' (u.1 + K'.2.2.2.2.cells, u.2 + K'.2.2.2.2.slots) Q) : jOk E K pc ls (as.reverse ++ VR a :: st) G I u Q := by
  intro p l e s m args below meth c Z H locs cls hC hZ hH hS hL
  have hts := hC.2.2.2.2.1
  have has' : ∀ x ∈ (VR a :: as), jokv x := fun x hx => by
    rcases List.mem_cons.mp hx with rfl | hx
    · exact trivial
    · exact has x hx
  obtain ⟨y, bb, mL, rt, rm⟩ := K'
  cases hv
  refine jback (Q' := Q') (K' := (y, bb, mL, none, rm)) (va_runIN (n := as.length) (As := as.map (cv E.1)) (b := E.1 + a) (bytes := bb) (maxL := mL) (own := K.1.cls) (host := host) ⟨hC.1, hC.2.1, hC.2.2.1, hC.2.2.2.1, hts⟩ (hr l) ⟨va_cnB as.length hts (jgood hm) rfl rfl rfl (hC.2.2.2.2.2.1.2.1 _ hl) (hts _ hm.2.1) ⟨hm.2.2.1.1, hm.2.2.1.2, hrm.1⟩ hrm.2, hin, hts _ hi⟩ ⟨jpre_blind, jpre_at hC hH has'⟩ rfl (by simp) hL.1 ?_ ?_ d hu) hC hZ hS hL k
  · exact jstk
  · exact lv_room (by rw [jcat]; exact hw)
/-- Math.max, Math.min -/
theorem r_mmax {a b : Int} (d : decode K.2.1 pc = .ok (.invokestatic idx, 3)) (hl : Cond.methodLink K.1.cls idx Lib.Math.max.name ∈ jTB) (hm : Cond.static Lib.Math.max.name ∈ jTB ∧ Cond.initialized "java/lang/Math" ∈ jTB ∧ Cond.code Lib.Math.max.name Lib.Math.max.code 2 (some .int) ∈ jTB) (hrm : 1 ≤ K.2.2.2.2.frames ∧ (st.map fun v => (cv 0 v).category).sum + 13 ≤ K.2.2.2.2.locals) (hu : u.1 ≤ K.2.2.2.2.cells ∧ u.2 ≤ K.2.2.2.2.slots) (ha : jIn a) (hb : jIn b) (k : jOk E K (pc + 3) ls (VI (max a b) :: st) G I u Q) : jOk E K pc ls (VI b :: VI a :: st) G I u Q := by
  intro p l e s m args below meth c Z H locs cls hC hZ hH hS hL
  have hts := hC.2.2.2.2.1
  refine va_mmax hC.1 hC.2.1 (hC.2.2.1.trans hL.1.symm) hC.2.2.2.1 (hts _ hl) (hts _ hm.1) (hts _ hm.2.1) (hts _ hm.2.2) hrm.1 (by rw [jcat]; exact hrm.2) hu.1 hu.2 d (W.eq ?_ (k p l e s m args below meth c Z H locs cls hC hZ hH hS hL))
  have e0 : (if Int32.ofInt a < Int32.ofInt b then Int32.ofInt b else Int32.ofInt a) = Int32.ofInt (max a b) := by
    by_cases q : a < b
    · rw [if_pos ((j32_lt ha hb).mpr q), show max a b = b by omega]
    · rw [if_neg (fun h => q ((j32_lt ha hb).mp h)), show max a b = a by omega]
  simp only [List.map_cons, cv, e0]
theorem r_mmin {a b : Int} (d : decode K.2.1 pc = .ok (.invokestatic idx, 3)) (hl : Cond.methodLink K.1.cls idx Lib.Math.min.name ∈ jTB) (hm : Cond.static Lib.Math.min.name ∈ jTB ∧ Cond.initialized "java/lang/Math" ∈ jTB ∧ Cond.code Lib.Math.min.name Lib.Math.min.code 2 (some .int) ∈ jTB) (hrm : 1 ≤ K.2.2.2.2.frames ∧ (st.map fun v => (cv 0 v).category).sum + 13 ≤ K.2.2.2.2.locals) (hu : u.1 ≤ K.2.2.2.2.cells ∧ u.2 ≤ K.2.2.2.2.slots) (ha : jIn a) (hb : jIn b) (k : jOk E K (pc + 3) ls (VI (min a b) :: st) G I u Q) : jOk E K pc ls (VI b :: VI a :: st) G I u Q := by
  intro p l e s m args below meth c Z H locs cls hC hZ hH hS hL
  have hts := hC.2.2.2.2.1
  refine va_mmin hC.1 hC.2.1 (hC.2.2.1.trans hL.1.symm) hC.2.2.2.1 (hts _ hl) (hts _ hm.1) (hts _ hm.2.1) (hts _ hm.2.2) hrm.1 (by rw [jcat]; exact hrm.2) hu.1 hu.2 d (W.eq ?_ (k p l e s m args below meth c Z H locs cls hC hZ hH hS hL))
  have e0 : (if Int32.ofInt b < Int32.ofInt a then Int32.ofInt b else Int32.ofInt a) = Int32.ofInt (min a b) := by
    by_cases q : b < a
    · rw [if_pos ((j32_lt hb ha).mpr q), show min a b = b by omega]
    · rw [if_neg (fun h => q ((j32_lt hb ha).mp h)), show min a b = a by omega]
  simp only [List.map_cons, cv, e0]
theorem r_objInit {a : Nat} (d : decode K.2.1 pc = .ok (.invokespecial idx, 3)) (hl : Cond.methodLink K.1.cls idx Lib.objectInit ∈ jTB) (hm : Cond.instanceMethod Lib.objectInit ∈ jTB ∧ Cond.code Lib.objectInit ⟨#[0xb1]⟩ 1 none ∈ jTB) (hrm : 1 ≤ K.2.2.2.2.frames ∧ (st.map fun v => (cv 0 v).category).sum + 12 ≤ K.2.2.2.2.locals) (k : jOk E K (pc + 3) ls st G I u Q) : jOk E K pc ls (VR a :: st) G I u Q := by
  intro p l e s m args below meth c Z H locs cls hC hZ hH hS hL
  have hts := hC.2.2.2.2.1
  refine W.objInit hC.1 hC.2.1 hC.2.2.2.1 (hts _ hl) (hts _ hm.1) (hts _ hm.2) rfl (hL.1.trans hC.2.2.1.symm) rfl d hrm.1 ?_ (k p l e s m args below meth c Z H locs cls hC hZ hH hS hL)
  show 2 * 0 + _ + 12 ≤ _
  rw [jcat]
  omega
end JD
