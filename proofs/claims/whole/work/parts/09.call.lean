/-! ===== calls, beginnings, ends ===== -/
theorem jTB_in {w : Cond} (i : Nat) (h : lw_tbl[i]? = some w) (g : goodWord w = true) : w ∈ jTB := List.mem_filter.mpr ⟨List.mem_of_getElem? h, g⟩
theorem jTB_1 {w : Cond} (i : Nat) (h : tables_1_1[i]? = some w) (g : goodWord w = true) : w ∈ jTB := List.mem_filter.mpr ⟨List.mem_append_right _ (List.mem_append_left _ (List.mem_of_getElem? h)), g⟩
theorem jTB_2 {w : Cond} (i : Nat) (h : tables_1_2[i]? = some w) (g : goodWord w = true) : w ∈ jTB := List.mem_filter.mpr ⟨List.mem_append_right _ (List.mem_append_right _ (List.mem_append_left _ (List.mem_of_getElem? h))), g⟩
theorem jTB_3 {w : Cond} (i : Nat) (h : tables_1_3[i]? = some w) (g : goodWord w = true) : w ∈ jTB := List.mem_filter.mpr ⟨List.mem_append_right _ (List.mem_append_right _ (List.mem_append_right _ (List.mem_append_left _ (List.mem_of_getElem? h)))), g⟩
theorem jTB_4 {w : Cond} (i : Nat) (h : tables_1_4[i]? = some w) (g : goodWord w = true) : w ∈ jTB := List.mem_filter.mpr ⟨List.mem_append_right _ (List.mem_append_right _ (List.mem_append_right _ (List.mem_append_right _ (List.mem_append_left _ (List.mem_of_getElem? h))))), g⟩
theorem jTB_5 {w : Cond} (i : Nat) (h : tables_1_5[i]? = some w) (g : goodWord w = true) : w ∈ jTB := List.mem_filter.mpr ⟨List.mem_append_right _ (List.mem_append_right _ (List.mem_append_right _ (List.mem_append_right _ (List.mem_append_right _ (List.mem_append_left _ (List.mem_of_getElem? h)))))), g⟩
theorem jTB_6 {w : Cond} (i : Nat) (h : tables_1_6[i]? = some w) (g : goodWord w = true) : w ∈ jTB := List.mem_filter.mpr ⟨List.mem_append_right _ (List.mem_append_right _ (List.mem_append_right _ (List.mem_append_right _ (List.mem_append_right _ (List.mem_append_right _ (List.mem_append_left _ (List.mem_of_getElem? h))))))), g⟩
theorem jTB_7 {w : Cond} (i : Nat) (h : tables_1_7[i]? = some w) (g : goodWord w = true) : w ∈ jTB := List.mem_filter.mpr ⟨List.mem_append_right _ (List.mem_append_right _ (List.mem_append_right _ (List.mem_append_right _ (List.mem_append_right _ (List.mem_append_right _ (List.mem_append_right _ (List.mem_append_left _ (List.mem_of_getElem? h)))))))), g⟩
theorem jTB_8 {w : Cond} (i : Nat) (h : tables_1_8[i]? = some w) (g : goodWord w = true) : w ∈ jTB := List.mem_filter.mpr ⟨List.mem_append_right _ (List.mem_append_right _ (List.mem_append_right _ (List.mem_append_right _ (List.mem_append_right _ (List.mem_append_right _ (List.mem_append_right _ (List.mem_append_right _ (List.mem_of_getElem? h)))))))), g⟩
theorem jNB_in {w : Cond} (i : Nat) (h : lw_tbl[i]? = some w) (g : jisN w = true) : w ∈ jNB := List.mem_filter.mpr ⟨List.mem_of_getElem? h, g⟩
theorem jTB_good : ∀ w ∈ jTB, goodWord w = true := fun _ h => (List.mem_filter.mp h).2
/-- what is known of a method that is called -/
def jMth (K : jK) : Prop := Cond.code K.1 K.2.1 K.2.2.1 K.2.2.2.1 ∈ jTB ∧ Cond.initialized K.1.cls ∈ jTB ∧ (K.1.cls ≠ "java/lang/invoke/MethodHandle" ∧ K.1.cls ≠ "java/lang/invoke/VarHandle") ∧ plainFor K.1 = true
theorem jgood {K : jK} (h : jMth K) : GoodIn jTB (jws K) := by
  intro w hw
  rcases List.mem_cons.mp hw with rfl | hw
  · exact ⟨h.1, good_of_word (jTB_good _ h.1)⟩
  · exact ⟨hw, good_of_word (jTB_good _ hw)⟩
def jrl (r : jV) : List jV := if jN r then [] else [r]
theorem jrl_map {z : Nat} {r : jV} {st : List jV} : (jrs z r).head?.toList ++ st.map (cv z) = (jrl r ++ st).map (cv z) := by
  unfold jrs jrl
  cases jN r <;> simp
section JB
variable {E : jE} {K K' : jK} {pc idx : Nat} {ls st as : List jV} {G : jG} {I : jM} {u : Nat × Nat} {Q Q' : jV → jG → jM → Prop}
variable {p : Program} {l : Launch} {e : Jvm.Env} {s : State} {m : MethodId} {args : Array Value} {below : List Frame} {meth : Method} {c : Code} {Z : State → Prop} {H : Heap} {locs : List Loc} {cls : Array Slot} {cells slots : Nat} {R : Room}
theorem jRun.mono (h : jRun E K as G I Q) (hq : ∀ r G' I', jokv r → Q r G' I' → Q' r G' I') : jRun E K as G I Q' := by
  intro l p e ha hc hk s m args below hf happ hP hK
  obtain ⟨t, o, h1, h2, h3, ⟨r, G', I', g1, g2, g3, g4, g5⟩, h5⟩ := h l p e ha hc hk s m args below hf happ hP hK
  exact ⟨t, o, h1, h2, h3, ⟨r, G', I', g1, g2, hq _ _ _ g2 g3, g4, g5⟩, h5⟩
theorem jOk.mono (h : jOk E K pc ls st G I u Q) (hq : ∀ r G' I', jokv r → Q r G' I' → Q' r G' I') : jOk E K pc ls st G I u Q' := by
  intro p l e s m args below meth c Z H locs cls hC hZ hH hS hL
  exact h p l e s m args below meth c Z H locs cls hC (fun pc H locs cls r G I i d1 d2 d3 d4 d5 d6 => hZ pc H locs cls r G I i d1 d2 d3 (hq _ _ _ d3 d4) d5 d6) hH hS hL
theorem jpre_blind : FrameBlind (jPre E as G I) := fun a U g mk q => ⟨q.1, q.2.1, q.2.2.1.same rfl, q.2.2.2⟩
theorem jpre_at (hC : jC E K p s m args meth c) (hH : jHP E G I H) (has : ∀ x ∈ as, jokv x) : ∀ U : State, U.heap = H → s.WarmedH U.vm → jPre E as G I (as.map (cv E.1)).toArray U := fun U hU hW => ⟨rfl, by rw [hU]; exact hH, hC.2.2.2.2.2.1.warm hW, has⟩
theorem jcat (st : List jV) (z : Nat) : ((st.map (cv z)).map fun v => v.category).sum = (st.map fun v => (cv 0 v).category).sum := by
  rw [List.map_map]
  congr 1
  refine List.map_congr_left (fun v _ => ?_)
  rcases v with x | x | x <;> rfl
/-- behind a call -/
theorem jback {st0 : List Value} {a : Array Value} (hr : va_Run p l e K.2.2.2.2 s m args below meth c H locs u.1 u.2 K'.2.2.2.2.cells K'.2.2.2.2.slots (F0 m pc cls st0) (st.map (cv E.1)) (jPost E Q' a) (fun q => E.1 ≤ q)) (hC : jC E K p s m args meth c) (hZ : jEnd E K p l e s m args below meth c Z Q) (hS : va_S (fun q => E.1 ≤ q) s.heap H locs) (hL : jLs E.1 ls K.2.2.1 cls)
    (k : ∀ r G' I', jokv r → Q' r G' I' → jOk E K (pc + 3) ls (jrl r ++ st) G' I' (u.1 + K'.2.2.2.2.cells, u.2 + K'.2.2.2.2.slots) Q) : W p l e K.2.2.2.2 s m args below meth c H locs u.1 u.2 Z (F0 m pc cls st0) := by
  intro T hT X
  obtain ⟨v, st₀, t, T', L, h0, X', hL', e1, e2, ⟨r, G', I', g1, g2, g3, g4, g5⟩, go⟩ := hr T hT X
  cases g1
  rw [h0] at g5
  obtain ⟨t2, a1, b1⟩ := k r G' I' g2 g3 p l e s m args below meth c Z T'.heap (locs ++ L) cls hC hZ (by rw [e1]; exact g4)
    ⟨Nat.le_trans hS.1 (by rw [e1]; exact g5.1), fun q q1 q2 => by
      rw [e1, g5.2 q (Nat.lt_of_lt_of_le q1 hS.1) q2]
      exact hS.2.1 q q1 q2, fun q hq => by
      rcases List.mem_append.mp hq with h | h
      · exact hS.2.2 q h
      · exact hL' q h⟩ hL T' rfl X'
  rw [← jrl_map] at a1
  exact ⟨t2, go t2 a1, b1⟩
/-- the law of a method's own end -/
theorem jend_met (hb : c.code = K.2.1) (hx : p.tables.exec = Jvm.exec) (hr : meth.sig.returnType = K.2.2.2.1) (hlocks : meth.locks = false) : jEnd E K p l e s m args below meth c (MQ below (jPost E Q) args s K.2.2.2.2.cells K.2.2.2.2.slots (fun q => E.1 ≤ q)) Q := by
  intro pc H locs cls r G I i d hret hok hq hH hS
  have hpost : ∀ t : State, t.heap = H → s.WarmedH t.vm → jPost E Q args s (.returned (jrs E.1 r).head?) t := fun t ht _ => ⟨r, G, I, rfl, hok, hq, by rw [ht]; exact hH, by rw [ht]; exact hS.1, fun q q1 q2 => by rw [ht]; exact hS.2.1 q q1 q2⟩
  rcases r with x | a | v
  · obtain ⟨rfl, hk⟩ := hret
    rcases hk with hk | ⟨hk, h01⟩
    · exact W.iret hx hb (hr.trans hk) hpost hS.2.2 d hlocks
    · have h2 : x = 0 ∨ x = 1 := by omega
      exact W.zret hx hb (hr.trans hk) (by rcases h2 with rfl | rfl <;> rfl) hpost hS.2.2 d hlocks
  · obtain ⟨rfl, n, hk⟩ := hret
    exact W.aret hx hb (hr.trans hk) (Or.inl ⟨n, rfl⟩) (Or.inr ⟨_, rfl⟩) hpost hS.2.2 d hlocks
  · cases v with
    | null =>
      obtain ⟨rfl, hk⟩ := hret
      exact W.vret hx hb (hr.trans hk) hpost hS.2.2 d hlocks
    | long v =>
      obtain ⟨rfl, hk⟩ := hret
      exact W.lret hx hb (hr.trans hk) hpost hS.2.2 d hlocks
    | _ => exact absurd hret (by simp [jRet])
/-- the locals at a method's beginning -/
def jent : List jV → List jV
  | [] => []
  | v :: vs => if jc2 v then v :: VN :: jent vs else v :: jent vs
theorem jent_len (z : Nat) (as : List jV) : (lg_sl (as.map (cv z))).length = (jent as).length := by
  induction as with
  | nil => rfl
  | cons v vs ih =>
    have e : lg_sl ((v :: vs).map (cv z)) = (if (cv z v).category = 2 then [.val (cv z v), .second] else [.val (cv z v)]) ++ lg_sl (vs.map (cv z)) := by simp [lg_sl]
    have e2 : jent (v :: vs) = if jc2 v then v :: VN :: jent vs else v :: jent vs := rfl
    rw [e, List.length_append, ih, e2]
    cases h : jc2 v with
    | false =>
      rw [if_neg (by rw [jc2_cat h]; decide)]
      simp
      omega
    | true =>
      have h2 : (cv z v).category = 2 := by
        rcases v with x | x | x
        · simp [jc2] at h
        · simp [jc2] at h
        · cases x <;> first | rfl | (simp [jc2] at h)
      rw [if_pos h2]
      simp
      omega
theorem jent_at (z : Nat) (n : Nat) : ∀ (as : List jV) (i : Nat) (v : jV), (jent as)[i]? = some v → jN v = false → (lg_sl (as.map (cv z)) ++ List.replicate n Slot.unset)[i]? = some (.val (cv z v)) ∧ v ∈ as := by
  intro as
  induction as with
  | nil =>
    intro i v h
    simp [jent] at h
  | cons w ws ih =>
    intro i v h hn
    have e : lg_sl ((w :: ws).map (cv z)) = (if (cv z w).category = 2 then [.val (cv z w), .second] else [.val (cv z w)]) ++ lg_sl (ws.map (cv z)) := by simp [lg_sl]
    rw [e]
    unfold jent at h
    cases hc : jc2 w with
    | false =>
      rw [hc] at h
      rw [if_neg (by rw [jc2_cat hc]; decide)]
      cases i with
      | zero =>
        simp at h
        subst h
        exact ⟨by simp, List.mem_cons_self⟩
      | succ i =>
        simp at h
        obtain ⟨h1, h2⟩ := ih i v h hn
        exact ⟨by simpa using h1, List.mem_cons_of_mem _ h2⟩
    | true =>
      have h2 : (cv z w).category = 2 := by
        rcases w with x | x | x
        · simp [jc2] at hc
        · simp [jc2] at hc
        · cases x <;> first | rfl | (simp [jc2] at hc)
      rw [hc] at h
      rw [if_pos h2]
      match i, h with
      | 0, h =>
        simp at h
        subst h
        exact ⟨by simp, List.mem_cons_self⟩
      | 1, h =>
        simp at h
        subst h
        simp [jN] at hn
      | i + 2, h =>
        simp at h
        obtain ⟨h3, h4⟩ := ih i v h hn
        exact ⟨by simpa using h3, List.mem_cons_of_mem _ h4⟩
/-- a method's contract out of a walk from its beginning -/
theorem Met.ofWF {y : MethodName} {ws ws' : List Cond} {rm : Room} {Pc : Array Value → State → Prop} {Qc : Array Value → State → Outcome → State → Prop} {mc ms : Nat} {free : Addr → Prop} {cc : ByteArray} {maxL : Nat} {ret : Option FieldType}
    (hy : plainFor y = true) (hw : ws = Cond.code y cc maxL ret :: ws')
    (body : ∀ p e s m args below meth c s₁, BodyLoose p l y (headSpec ws rm) cc maxL ret e s m args below meth c s₁ → c.maxLocals = maxL → Pc args s →
      W p l e (headSpec ws rm).room s m args below meth c s.heap [] 0 0 (MQ below Qc args s mc ms free) (entryFrame m args maxL)) : Met l y ws rm Pc Qc mc ms free := by
  refine MetFree.of_bodyRF (code := cc) (maxLocals := maxL) (ret := ret) hy ?_ ?_
  · intro args s m h hn
    obtain ⟨meth, c, h1, h2, h3, h4, h5, h6, -, -⟩ := Cond.code_spec hn (atoms_spec (ws := ws) h _ (by rw [hw]; exact List.mem_cons_self))
    exact ⟨meth, c, h1, h2, h3, h4, h5, h6⟩
  · intro p e s m args below meth c s₁ B hml hP _ hst
    have hh0 : s₁.heap = s.heap := by rw [B.state]; rfl
    obtain ⟨t, a1, o, b1, b2, b3⟩ := body p e s m args below meth c s₁ B hml hP s₁ hh0 (Stand.of_body B)
    exact ⟨t, o, hst.trans a1, b1, b2, ⟨b3.1, b3.2⟩⟩
theorem jRun.of (hm : plainFor K.1 = true) (n : Nat) (hn : (jent as).length + n = K.2.2.1) (h : (∀ x ∈ as, jokv x) → jOk E K 0 (jent as ++ List.replicate n VN) [] G I (0, 0) Q) : jRun E K as G I Q := by
  intro l
  refine Met.ofWF (cc := K.2.1) (maxL := K.2.2.1) (ret := K.2.2.2.1) hm rfl ?_
  intro p e s m args below meth c s₁ B hml hv
  obtain ⟨rfl, hH, hK, has⟩ := hv
  have hts := atoms_spec (ws := jws K) B.pre
  have hown : s.vm.findClass K.1.cls = some m.cls := findClass_of_methodNamed B.named
  have hnm : meth.name = K.1.name := (name_of_methodNamed B.named B.method).1
  have hC : jC E K p s m _ meth c := ⟨B.exec, B.bytes, hml, hown, fun w hw => hts w (List.mem_cons_of_mem _ hw), hK, hnm, by rw [hH.1]; exact Nat.le_add_right _ _⟩
  rw [lg_entry_eq]
  have hle : (lg_sl (as.map (cv E.1))).length ≤ K.2.2.1 := by rw [jent_len]; omega
  have hl := lv_entry (as.map (cv E.1)) (n := K.2.2.1) hle
  refine h has p l e s m _ below meth c _ s.heap [] _ hC (jend_met B.bytes B.exec B.returns B.notSynchronized) hH va_S.rf ⟨hl.1, hl.2.1, fun i v hi hn0 => ?_⟩
  by_cases hlt : i < (jent as).length
  · rw [List.getElem?_append_left hlt] at hi
    obtain ⟨h1, h2⟩ := jent_at E.1 (K.2.2.1 - (lg_sl (as.map (cv E.1))).length) as i v hi hn0
    exact ⟨by simpa using h1, has v h2⟩
  · rw [List.getElem?_append_right (by omega)] at hi
    have := List.mem_of_getElem? hi
    rw [List.mem_replicate] at this
    rw [this.2] at hn0
    simp [jN] at hn0
end JB
