/-! ===== how the objects hang together (what never changes), and lighter words for the judgement ===== -/
section JO
variable {E : jE} {K K' : jK} {pc : Nat} {ls ls' st as : List jV} {G : jG} {I : jM} {u : Nat × Nat} {Q Q' : jV → jG → jM → Prop}
theorem jOk_in {i : Nat} {x : Int} (h : ls[i]? = some (VI x)) (k : jIn x → jOk E K pc ls st G I u Q) : jOk E K pc ls st G I u Q := by
  intro p l e s m args below meth c Z H locs cls hC hZ hH hS hL
  exact k (hL.2.2 i _ h rfl).2 p l e s m args below meth c Z H locs cls hC hZ hH hS hL
theorem jOk_mem (k : (∀ a j, jRg (G.2.1 a).1 (I a j)) → jOk E K pc ls st G I u Q) : jOk E K pc ls st G I u Q := by
  intro p l e s m args below meth c Z H locs cls hC hZ hH hS hL
  exact k hH.2.1 p l e s m args below meth c Z H locs cls hC hZ hH hS hL
theorem jOk_gen (k : ∀ M, M = I → jOk E K pc ls st G M u Q) : jOk E K pc ls st G I u Q := k _ rfl
theorem r_top {x y : Int} (h : x = y) (k : jOk E K pc ls (VI y :: st) G I u Q) : jOk E K pc ls (VI x :: st) G I u Q := h ▸ k
/-- fewer locals known -/
def jle : List jV → List jV → Prop
  | [], _ => True
  | _ :: _, [] => False
  | v :: vs, w :: ws => (jN v = true ∨ v = w) ∧ jle vs ws
theorem jle_at : ∀ (ls' ls : List jV), jle ls' ls → ∀ (i : Nat) (v : jV), ls'[i]? = some v → jN v = false → ls[i]? = some v := by
  intro ls'
  induction ls' with
  | nil => intro ls _ i v h; simp at h
  | cons a as ih =>
    intro ls h i v hi hn
    cases ls with
    | nil => exact absurd h (by simp [jle])
    | cons b bs =>
      cases i with
      | zero =>
        simp at hi
        subst hi
        rcases h.1 with q | q
        · rw [hn] at q; cases q
        · rw [q]; rfl
      | succ i => exact ih bs h.2 i v (by simpa using hi) hn
theorem jOk_le (h : jle ls' ls) (k : jOk E K pc ls' st G I u Q) : jOk E K pc ls st G I u Q := by
  intro p l e s m args below meth c Z H locs cls hC hZ hH hS hL
  exact k p l e s m args below meth c Z H locs cls hC hZ hH hS ⟨hL.1, hL.2.1, fun i v hi hn => hL.2.2 i v (jle_at _ _ h i v hi hn) hn⟩
theorem jas0 : ∀ x ∈ ([] : List jV), jokv x := fun x h => by simp at h
theorem jasI {x : Int} (h : jIn x) (hs : ∀ v ∈ as, jokv v) : ∀ v ∈ (VI x :: as), jokv v := fun v hv => by
  rcases List.mem_cons.mp hv with rfl | hv
  · exact h
  · exact hs v hv
theorem jasR {x : Nat} (hs : ∀ v ∈ as, jokv v) : ∀ v ∈ (VR x :: as), jokv v := fun v hv => by
  rcases List.mem_cons.mp hv with rfl | hv
  · exact trivial
  · exact hs v hv
theorem jasX {x : Value} (hs : ∀ v ∈ as, jokv v) : ∀ v ∈ (VX x :: as), jokv v := fun v hv => by
  rcases List.mem_cons.mp hv with rfl | hv
  · exact trivial
  · exact hs v hv
theorem rr_istore_n {j : Fin 4} {i : Nat} {x : Int} (d : decode K.2.1 pc = .ok (.istore_n j, 1)) (hi : (j : Nat) = i) (hn : i < K.2.2.1) (h1 : jst ls i = true) (hl : ls.set i (VI x) = ls') (hx : jIn x) (k : jOk E K (pc + 1) ls' st G I u Q) : jOk E K pc ls (VI x :: st) G I u Q := r_istore_n d hi hn h1 hx (hl ▸ k)
theorem rr_istore {i : Nat} {x : Int} (d : decode K.2.1 pc = .ok (.istore i, 2)) (hn : i < K.2.2.1) (h1 : jst ls i = true) (hl : ls.set i (VI x) = ls') (hx : jIn x) (k : jOk E K (pc + 2) ls' st G I u Q) : jOk E K pc ls (VI x :: st) G I u Q := r_istore d hn h1 hx (hl ▸ k)
theorem rr_astore_n {j : Fin 4} {i x : Nat} (d : decode K.2.1 pc = .ok (.astore_n j, 1)) (hi : (j : Nat) = i) (hn : i < K.2.2.1) (h1 : jst ls i = true) (hl : ls.set i (VR x) = ls') (k : jOk E K (pc + 1) ls' st G I u Q) : jOk E K pc ls (VR x :: st) G I u Q := r_astore_n d hi hn h1 (hl ▸ k)
theorem rr_astore {i x : Nat} (d : decode K.2.1 pc = .ok (.astore i, 2)) (hn : i < K.2.2.1) (h1 : jst ls i = true) (hl : ls.set i (VR x) = ls') (k : jOk E K (pc + 2) ls' st G I u Q) : jOk E K pc ls (VR x :: st) G I u Q := r_astore d hn h1 (hl ▸ k)
theorem rr_iinc {i : Nat} {n x : Int} (d : decode K.2.1 pc = .ok (.iinc i n, 3)) (h : ls[i]? = some (VI x)) (hn : i < K.2.2.1) (h1 : jst ls i = true) (hl : ls.set i (VI (x + n)) = ls') (hx : jIn (x + n)) (k : jOk E K (pc + 3) ls' st G I u Q) : jOk E K pc ls st G I u Q := r_iinc d h hn h1 hx (hl ▸ k)
end JO
/-- what a method of the reference leaves alone; what a method of the class leaves alone -/
def jA (m : Nat) (a : Nat) : Prop := a < m ∨ m + 29 ≤ a
def jB (a : Nat) : Prop := 606 ≤ a ∧ a < 635
theorem jFr_up {A : Nat → Prop} {I0 I M : jM} {a : Nat} {j x : Int} (hF : ∀ b, A b → I b = I0 b) (e : M = jup I a j x) (h : ¬ A a) : ∀ b, A b → M b = I0 b := by
  intro b hb
  rw [← hF b hb, e]
  funext k
  unfold jup
  have hne : ¬ b = a := fun q => h (q ▸ hb)
  rw [if_neg (fun q => hne q.1)]
theorem jFr_cp {A : Nat → Prop} {I0 I M : jM} {a c : Nat} {sp dp n : Int} (hF : ∀ b, A b → I b = I0 b) (e : M = jcp I c a sp dp n) (h : ¬ A a) : ∀ b, A b → M b = I0 b := by
  intro b hb
  rw [← hF b hb, e]
  funext k
  unfold jcp
  have hne : ¬ b = a := fun q => h (q ▸ hb)
  rw [if_neg (fun q => hne q.1)]
theorem jFr_tr {A : Nat → Prop} {I0 I M : jM} (hF : ∀ b, A b → I b = I0 b) (h : ∀ b, A b → M b = I b) : ∀ b, A b → M b = I0 b := fun b hb => (h b hb).trans (hF b hb)
/-- a walk of a method that makes no cells, leaves what A says alone, and answers an int; nothing; a reference; a long -/
def jOI (E : jE) (A : Nat → Prop) (K : jK) (pc : Nat) (ls : List jV) (G : jG) (I : jM) (q : Int → jM → Prop) : Prop := ∀ I0 : jM, (∀ b, A b → I b = I0 b) → jOk E K pc ls [] G I (0, 0) (fun r G' I' => ∃ x, r = VI x ∧ G' = G ∧ (∀ b, A b → I' b = I0 b) ∧ q x I')
def jOV (E : jE) (A : Nat → Prop) (K : jK) (pc : Nat) (ls : List jV) (G : jG) (I : jM) (q : jM → Prop) : Prop := ∀ I0 : jM, (∀ b, A b → I b = I0 b) → jOk E K pc ls [] G I (0, 0) (fun r G' I' => r = VN ∧ G' = G ∧ (∀ b, A b → I' b = I0 b) ∧ q I')
def jOA (E : jE) (A : Nat → Prop) (K : jK) (pc : Nat) (ls : List jV) (G : jG) (I : jM) (q : Nat → jM → Prop) : Prop := ∀ I0 : jM, (∀ b, A b → I b = I0 b) → jOk E K pc ls [] G I (0, 0) (fun r G' I' => ∃ x, r = VR x ∧ G' = G ∧ (∀ b, A b → I' b = I0 b) ∧ q x I')
def jOL (E : jE) (A : Nat → Prop) (K : jK) (pc : Nat) (ls : List jV) (G : jG) (I : jM) (q : Int64 → jM → Prop) : Prop := ∀ I0 : jM, (∀ b, A b → I b = I0 b) → jOk E K pc ls [] G I (0, 0) (fun r G' I' => ∃ x, r = VX (.long x) ∧ G' = G ∧ (∀ b, A b → I' b = I0 b) ∧ q x I')
def jRI (E : jE) (A : Nat → Prop) (K : jK) (as : List jV) (G : jG) (I : jM) (q : Int → jM → Prop) : Prop := jRun E K as G I (fun r G' I' => ∃ x, r = VI x ∧ G' = G ∧ (∀ b, A b → I' b = I b) ∧ q x I')
def jRV (E : jE) (A : Nat → Prop) (K : jK) (as : List jV) (G : jG) (I : jM) (q : jM → Prop) : Prop := jRun E K as G I (fun r G' I' => r = VN ∧ G' = G ∧ (∀ b, A b → I' b = I b) ∧ q I')
def jRA (E : jE) (A : Nat → Prop) (K : jK) (as : List jV) (G : jG) (I : jM) (q : Nat → jM → Prop) : Prop := jRun E K as G I (fun r G' I' => ∃ x, r = VR x ∧ G' = G ∧ (∀ b, A b → I' b = I b) ∧ q x I')
def jRL (E : jE) (A : Nat → Prop) (K : jK) (as : List jV) (G : jG) (I : jM) (q : Int64 → jM → Prop) : Prop := jRun E K as G I (fun r G' I' => ∃ x, r = VX (.long x) ∧ G' = G ∧ (∀ b, A b → I' b = I b) ∧ q x I')
section JP
variable {E : jE} {A : Nat → Prop} {K : jK} {pc : Nat} {ls as : List jV} {G : jG} {I : jM}
theorem jRI.mono {q q' : Int → jM → Prop} (h : jRI E A K as G I q) (k : ∀ x I', jIn x → (∀ b, A b → I' b = I b) → q x I' → q' x I') : jRI E A K as G I q' := jRun.mono h (fun r G' I' hr ⟨x, e1, e2, e3, e4⟩ => ⟨x, e1, e2, e3, k x I' (by rw [e1] at hr; exact hr) e3 e4⟩)
theorem jRV.mono {q q' : jM → Prop} (h : jRV E A K as G I q) (k : ∀ I', (∀ b, A b → I' b = I b) → q I' → q' I') : jRV E A K as G I q' := jRun.mono h (fun r G' I' hr ⟨e1, e2, e3, e4⟩ => ⟨e1, e2, e3, k I' e3 e4⟩)
theorem jRA.mono {q q' : Nat → jM → Prop} (h : jRA E A K as G I q) (k : ∀ x I', (∀ b, A b → I' b = I b) → q x I' → q' x I') : jRA E A K as G I q' := jRun.mono h (fun r G' I' hr ⟨x, e1, e2, e3, e4⟩ => ⟨x, e1, e2, e3, k x I' e3 e4⟩)
theorem jRL.mono {q q' : Int64 → jM → Prop} (h : jRL E A K as G I q) (k : ∀ x I', (∀ b, A b → I' b = I b) → q x I' → q' x I') : jRL E A K as G I q' := jRun.mono h (fun r G' I' hr ⟨x, e1, e2, e3, e4⟩ => ⟨x, e1, e2, e3, k x I' e3 e4⟩)
theorem jOI.mono {q q' : Int → jM → Prop} (h : jOI E A K pc ls G I q) (k : ∀ x I', jIn x → q x I' → q' x I') : jOI E A K pc ls G I q' := fun I0 hF => jOk.mono (h I0 hF) (fun r G' I' hr ⟨x, e1, e2, e3, e4⟩ => ⟨x, e1, e2, e3, k x I' (by rw [e1] at hr; exact hr) e4⟩)
theorem jOV.mono {q q' : jM → Prop} (h : jOV E A K pc ls G I q) (k : ∀ I', q I' → q' I') : jOV E A K pc ls G I q' := fun I0 hF => jOk.mono (h I0 hF) (fun r G' I' hr ⟨e1, e2, e3, e4⟩ => ⟨e1, e2, e3, k I' e4⟩)
end JP
def WX4 (G : jG) (a : Nat) : Prop := a + 5 ≤ G.2.2 ∧ (G.2.1 a).1 = 4 ∧ (a + 5 ≤ 606 ∨ 635 ≤ a) ∧ G.1 a 0 = some (a + 1) ∧ G.2.1 (a + 1) = (101, 200) ∧ G.1 a 1 = some (a + 2) ∧ G.2.1 (a + 2) = (101, 200) ∧ G.1 a 3 = some (a + 3) ∧ G.2.1 (a + 3) = (100, 8) ∧ G.1 a 4 = some (a + 4) ∧ G.2.1 (a + 4) = (100, 8)
theorem wX4_n {G : jG} {a : Nat} (h : WX4 G a) : a + 5 ≤ G.2.2 := h.1
theorem wX4_l {G : jG} {a : Nat} (h : WX4 G a) : a < G.2.2 := by have := wX4_n h; omega
theorem wX4_s {G : jG} {a : Nat} (h : WX4 G a) : (G.2.1 a).1 = 4 := h.2.1
theorem wX4_d {G : jG} {a : Nat} (h : WX4 G a) : (a + 5 ≤ 606 ∨ 635 ≤ a) := h.2.2.1
theorem wX4_r0 {G : jG} {a : Nat} (h : WX4 G a) : G.1 a 0 = some (a + 1) := h.2.2.2.1
theorem wX4_a0 {G : jG} {a : Nat} (h : WX4 G a) : G.2.1 (a + 1) = (101, 200) := h.2.2.2.2.1
theorem wX4_l0 {G : jG} {a : Nat} (h : WX4 G a) : a + 1 < G.2.2 := by have := wX4_n h; omega
theorem wX4_r1 {G : jG} {a : Nat} (h : WX4 G a) : G.1 a 1 = some (a + 2) := h.2.2.2.2.2.1
theorem wX4_a1 {G : jG} {a : Nat} (h : WX4 G a) : G.2.1 (a + 2) = (101, 200) := h.2.2.2.2.2.2.1
theorem wX4_l1 {G : jG} {a : Nat} (h : WX4 G a) : a + 2 < G.2.2 := by have := wX4_n h; omega
theorem wX4_r3 {G : jG} {a : Nat} (h : WX4 G a) : G.1 a 3 = some (a + 3) := h.2.2.2.2.2.2.2.1
theorem wX4_a3 {G : jG} {a : Nat} (h : WX4 G a) : G.2.1 (a + 3) = (100, 8) := h.2.2.2.2.2.2.2.2.1
theorem wX4_l3 {G : jG} {a : Nat} (h : WX4 G a) : a + 3 < G.2.2 := by have := wX4_n h; omega
theorem wX4_r4 {G : jG} {a : Nat} (h : WX4 G a) : G.1 a 4 = some (a + 4) := h.2.2.2.2.2.2.2.2.2.1
theorem wX4_a4 {G : jG} {a : Nat} (h : WX4 G a) : G.2.1 (a + 4) = (100, 8) := h.2.2.2.2.2.2.2.2.2.2
theorem wX4_l4 {G : jG} {a : Nat} (h : WX4 G a) : a + 4 < G.2.2 := by have := wX4_n h; omega
theorem wX4_f {G : jG} {a : Nat} (h : WX4 G a) (k : Nat) (hk : k < 5) : ¬ jB (a + k) := by have := wX4_d h; unfold jB; omega
theorem wX4_c {G : jG} {a : Nat} (h : WX4 G a) : ∃ T N, vwCl[(G.2.1 a).1]? = some (RX4, T, N) := ⟨TX4, 6, by rw [wX4_s h]; rfl⟩
def WX6 (G : jG) (a : Nat) : Prop := a + 13 ≤ G.2.2 ∧ (G.2.1 a).1 = 6 ∧ (a + 13 ≤ 606 ∨ 635 ≤ a) ∧ G.1 a 0 = some (a + 1) ∧ G.2.1 (a + 1) = (101, 300) ∧ G.1 a 2 = some (a + 2) ∧ G.2.1 (a + 2) = (100, 6) ∧ G.1 a 3 = some (a + 3) ∧ G.2.1 (a + 3) = (100, 6) ∧ G.1 a 4 = some (a + 4) ∧ G.2.1 (a + 4) = (100, 6) ∧ G.1 a 5 = some (a + 5) ∧ G.2.1 (a + 5) = (100, 6) ∧ G.1 a 6 = some (a + 6) ∧ G.2.1 (a + 6) = (100, 36) ∧ G.1 a 7 = some (a + 7) ∧ G.2.1 (a + 7) = (100, 36) ∧ G.1 a 8 = some (a + 8) ∧ G.2.1 (a + 8) = (100, 36) ∧ G.1 a 9 = some (a + 9) ∧ G.2.1 (a + 9) = (100, 36) ∧ G.1 a 10 = some (a + 10) ∧ G.2.1 (a + 10) = (100, 36) ∧ G.1 a 11 = some (a + 11) ∧ G.2.1 (a + 11) = (100, 36) ∧ G.1 a 12 = some (a + 12) ∧ G.2.1 (a + 12) = (100, 36)
theorem wX6_n {G : jG} {a : Nat} (h : WX6 G a) : a + 13 ≤ G.2.2 := h.1
theorem wX6_l {G : jG} {a : Nat} (h : WX6 G a) : a < G.2.2 := by have := wX6_n h; omega
theorem wX6_s {G : jG} {a : Nat} (h : WX6 G a) : (G.2.1 a).1 = 6 := h.2.1
theorem wX6_d {G : jG} {a : Nat} (h : WX6 G a) : (a + 13 ≤ 606 ∨ 635 ≤ a) := h.2.2.1
theorem wX6_r0 {G : jG} {a : Nat} (h : WX6 G a) : G.1 a 0 = some (a + 1) := h.2.2.2.1
theorem wX6_a0 {G : jG} {a : Nat} (h : WX6 G a) : G.2.1 (a + 1) = (101, 300) := h.2.2.2.2.1
theorem wX6_l0 {G : jG} {a : Nat} (h : WX6 G a) : a + 1 < G.2.2 := by have := wX6_n h; omega
theorem wX6_r2 {G : jG} {a : Nat} (h : WX6 G a) : G.1 a 2 = some (a + 2) := h.2.2.2.2.2.1
theorem wX6_a2 {G : jG} {a : Nat} (h : WX6 G a) : G.2.1 (a + 2) = (100, 6) := h.2.2.2.2.2.2.1
theorem wX6_l2 {G : jG} {a : Nat} (h : WX6 G a) : a + 2 < G.2.2 := by have := wX6_n h; omega
theorem wX6_r3 {G : jG} {a : Nat} (h : WX6 G a) : G.1 a 3 = some (a + 3) := h.2.2.2.2.2.2.2.1
theorem wX6_a3 {G : jG} {a : Nat} (h : WX6 G a) : G.2.1 (a + 3) = (100, 6) := h.2.2.2.2.2.2.2.2.1
theorem wX6_l3 {G : jG} {a : Nat} (h : WX6 G a) : a + 3 < G.2.2 := by have := wX6_n h; omega
theorem wX6_r4 {G : jG} {a : Nat} (h : WX6 G a) : G.1 a 4 = some (a + 4) := h.2.2.2.2.2.2.2.2.2.1
theorem wX6_a4 {G : jG} {a : Nat} (h : WX6 G a) : G.2.1 (a + 4) = (100, 6) := h.2.2.2.2.2.2.2.2.2.2.1
theorem wX6_l4 {G : jG} {a : Nat} (h : WX6 G a) : a + 4 < G.2.2 := by have := wX6_n h; omega
theorem wX6_r5 {G : jG} {a : Nat} (h : WX6 G a) : G.1 a 5 = some (a + 5) := h.2.2.2.2.2.2.2.2.2.2.2.1
theorem wX6_a5 {G : jG} {a : Nat} (h : WX6 G a) : G.2.1 (a + 5) = (100, 6) := h.2.2.2.2.2.2.2.2.2.2.2.2.1
theorem wX6_l5 {G : jG} {a : Nat} (h : WX6 G a) : a + 5 < G.2.2 := by have := wX6_n h; omega
theorem wX6_r6 {G : jG} {a : Nat} (h : WX6 G a) : G.1 a 6 = some (a + 6) := h.2.2.2.2.2.2.2.2.2.2.2.2.2.1
theorem wX6_a6 {G : jG} {a : Nat} (h : WX6 G a) : G.2.1 (a + 6) = (100, 36) := h.2.2.2.2.2.2.2.2.2.2.2.2.2.2.1
theorem wX6_l6 {G : jG} {a : Nat} (h : WX6 G a) : a + 6 < G.2.2 := by have := wX6_n h; omega
theorem wX6_r7 {G : jG} {a : Nat} (h : WX6 G a) : G.1 a 7 = some (a + 7) := h.2.2.2.2.2.2.2.2.2.2.2.2.2.2.2.1
theorem wX6_a7 {G : jG} {a : Nat} (h : WX6 G a) : G.2.1 (a + 7) = (100, 36) := h.2.2.2.2.2.2.2.2.2.2.2.2.2.2.2.2.1
theorem wX6_l7 {G : jG} {a : Nat} (h : WX6 G a) : a + 7 < G.2.2 := by have := wX6_n h; omega
theorem wX6_r8 {G : jG} {a : Nat} (h : WX6 G a) : G.1 a 8 = some (a + 8) := h.2.2.2.2.2.2.2.2.2.2.2.2.2.2.2.2.2.1
theorem wX6_a8 {G : jG} {a : Nat} (h : WX6 G a) : G.2.1 (a + 8) = (100, 36) := h.2.2.2.2.2.2.2.2.2.2.2.2.2.2.2.2.2.2.1
theorem wX6_l8 {G : jG} {a : Nat} (h : WX6 G a) : a + 8 < G.2.2 := by have := wX6_n h; omega
theorem wX6_r9 {G : jG} {a : Nat} (h : WX6 G a) : G.1 a 9 = some (a + 9) := h.2.2.2.2.2.2.2.2.2.2.2.2.2.2.2.2.2.2.2.1
theorem wX6_a9 {G : jG} {a : Nat} (h : WX6 G a) : G.2.1 (a + 9) = (100, 36) := h.2.2.2.2.2.2.2.2.2.2.2.2.2.2.2.2.2.2.2.2.1
theorem wX6_l9 {G : jG} {a : Nat} (h : WX6 G a) : a + 9 < G.2.2 := by have := wX6_n h; omega
theorem wX6_r10 {G : jG} {a : Nat} (h : WX6 G a) : G.1 a 10 = some (a + 10) := h.2.2.2.2.2.2.2.2.2.2.2.2.2.2.2.2.2.2.2.2.2.1
theorem wX6_a10 {G : jG} {a : Nat} (h : WX6 G a) : G.2.1 (a + 10) = (100, 36) := h.2.2.2.2.2.2.2.2.2.2.2.2.2.2.2.2.2.2.2.2.2.2.1
theorem wX6_l10 {G : jG} {a : Nat} (h : WX6 G a) : a + 10 < G.2.2 := by have := wX6_n h; omega
theorem wX6_r11 {G : jG} {a : Nat} (h : WX6 G a) : G.1 a 11 = some (a + 11) := h.2.2.2.2.2.2.2.2.2.2.2.2.2.2.2.2.2.2.2.2.2.2.2.1
theorem wX6_a11 {G : jG} {a : Nat} (h : WX6 G a) : G.2.1 (a + 11) = (100, 36) := h.2.2.2.2.2.2.2.2.2.2.2.2.2.2.2.2.2.2.2.2.2.2.2.2.1
theorem wX6_l11 {G : jG} {a : Nat} (h : WX6 G a) : a + 11 < G.2.2 := by have := wX6_n h; omega
theorem wX6_r12 {G : jG} {a : Nat} (h : WX6 G a) : G.1 a 12 = some (a + 12) := h.2.2.2.2.2.2.2.2.2.2.2.2.2.2.2.2.2.2.2.2.2.2.2.2.2.1
theorem wX6_a12 {G : jG} {a : Nat} (h : WX6 G a) : G.2.1 (a + 12) = (100, 36) := h.2.2.2.2.2.2.2.2.2.2.2.2.2.2.2.2.2.2.2.2.2.2.2.2.2.2
theorem wX6_l12 {G : jG} {a : Nat} (h : WX6 G a) : a + 12 < G.2.2 := by have := wX6_n h; omega
theorem wX6_f {G : jG} {a : Nat} (h : WX6 G a) (k : Nat) (hk : k < 13) : ¬ jB (a + k) := by have := wX6_d h; unfold jB; omega
theorem wX6_c {G : jG} {a : Nat} (h : WX6 G a) : ∃ T N, vwCl[(G.2.1 a).1]? = some (RX6, T, N) := ⟨TX6, 13, by rw [wX6_s h]; rfl⟩
def WX7 (G : jG) (a : Nat) : Prop := a + 9 ≤ G.2.2 ∧ (G.2.1 a).1 = 7 ∧ (a + 9 ≤ 606 ∨ 635 ≤ a) ∧ G.1 a 0 = some (a + 1) ∧ WX4 G (a + 1) ∧ G.1 a 5 = some (a + 6) ∧ G.2.1 (a + 6) = (100, 8) ∧ G.1 a 6 = some (a + 7) ∧ G.2.1 (a + 7) = (100, 8) ∧ G.1 a 8 = some (a + 8) ∧ G.2.1 (a + 8) = (100, 72)
theorem wX7_n {G : jG} {a : Nat} (h : WX7 G a) : a + 9 ≤ G.2.2 := h.1
theorem wX7_l {G : jG} {a : Nat} (h : WX7 G a) : a < G.2.2 := by have := wX7_n h; omega
theorem wX7_s {G : jG} {a : Nat} (h : WX7 G a) : (G.2.1 a).1 = 7 := h.2.1
theorem wX7_d {G : jG} {a : Nat} (h : WX7 G a) : (a + 9 ≤ 606 ∨ 635 ≤ a) := h.2.2.1
theorem wX7_r0 {G : jG} {a : Nat} (h : WX7 G a) : G.1 a 0 = some (a + 1) := h.2.2.2.1
theorem wX7_o0 {G : jG} {a : Nat} (h : WX7 G a) : WX4 G (a + 1) := h.2.2.2.2.1
theorem wX7_r5 {G : jG} {a : Nat} (h : WX7 G a) : G.1 a 5 = some (a + 6) := h.2.2.2.2.2.1
theorem wX7_a5 {G : jG} {a : Nat} (h : WX7 G a) : G.2.1 (a + 6) = (100, 8) := h.2.2.2.2.2.2.1
theorem wX7_l5 {G : jG} {a : Nat} (h : WX7 G a) : a + 6 < G.2.2 := by have := wX7_n h; omega
theorem wX7_r6 {G : jG} {a : Nat} (h : WX7 G a) : G.1 a 6 = some (a + 7) := h.2.2.2.2.2.2.2.1
theorem wX7_a6 {G : jG} {a : Nat} (h : WX7 G a) : G.2.1 (a + 7) = (100, 8) := h.2.2.2.2.2.2.2.2.1
theorem wX7_l6 {G : jG} {a : Nat} (h : WX7 G a) : a + 7 < G.2.2 := by have := wX7_n h; omega
theorem wX7_r8 {G : jG} {a : Nat} (h : WX7 G a) : G.1 a 8 = some (a + 8) := h.2.2.2.2.2.2.2.2.2.1
theorem wX7_a8 {G : jG} {a : Nat} (h : WX7 G a) : G.2.1 (a + 8) = (100, 72) := h.2.2.2.2.2.2.2.2.2.2
theorem wX7_l8 {G : jG} {a : Nat} (h : WX7 G a) : a + 8 < G.2.2 := by have := wX7_n h; omega
theorem wX7_f {G : jG} {a : Nat} (h : WX7 G a) (k : Nat) (hk : k < 9) : ¬ jB (a + k) := by have := wX7_d h; unfold jB; omega
theorem wX7_c {G : jG} {a : Nat} (h : WX7 G a) : ∃ T N, vwCl[(G.2.1 a).1]? = some (RX7, T, N) := ⟨TX7, 11, by rw [wX7_s h]; rfl⟩
def WX8 (G : jG) (a : Nat) : Prop := a + 3 ≤ G.2.2 ∧ (G.2.1 a).1 = 8 ∧ (a + 3 ≤ 606 ∨ 635 ≤ a) ∧ G.1 a 0 = some (a + 1) ∧ G.2.1 (a + 1) = (100, 201) ∧ G.1 a 1 = some (a + 2) ∧ G.2.1 (a + 2) = (100, 200)
theorem wX8_n {G : jG} {a : Nat} (h : WX8 G a) : a + 3 ≤ G.2.2 := h.1
theorem wX8_l {G : jG} {a : Nat} (h : WX8 G a) : a < G.2.2 := by have := wX8_n h; omega
theorem wX8_s {G : jG} {a : Nat} (h : WX8 G a) : (G.2.1 a).1 = 8 := h.2.1
theorem wX8_d {G : jG} {a : Nat} (h : WX8 G a) : (a + 3 ≤ 606 ∨ 635 ≤ a) := h.2.2.1
theorem wX8_r0 {G : jG} {a : Nat} (h : WX8 G a) : G.1 a 0 = some (a + 1) := h.2.2.2.1
theorem wX8_a0 {G : jG} {a : Nat} (h : WX8 G a) : G.2.1 (a + 1) = (100, 201) := h.2.2.2.2.1
theorem wX8_l0 {G : jG} {a : Nat} (h : WX8 G a) : a + 1 < G.2.2 := by have := wX8_n h; omega
theorem wX8_r1 {G : jG} {a : Nat} (h : WX8 G a) : G.1 a 1 = some (a + 2) := h.2.2.2.2.2.1
theorem wX8_a1 {G : jG} {a : Nat} (h : WX8 G a) : G.2.1 (a + 2) = (100, 200) := h.2.2.2.2.2.2
theorem wX8_l1 {G : jG} {a : Nat} (h : WX8 G a) : a + 2 < G.2.2 := by have := wX8_n h; omega
theorem wX8_f {G : jG} {a : Nat} (h : WX8 G a) (k : Nat) (hk : k < 3) : ¬ jB (a + k) := by have := wX8_d h; unfold jB; omega
theorem wX8_c {G : jG} {a : Nat} (h : WX8 G a) : ∃ T N, vwCl[(G.2.1 a).1]? = some (RX8, T, N) := ⟨TX8, 3, by rw [wX8_s h]; rfl⟩
def WX0 (G : jG) (a : Nat) : Prop := a + 3 ≤ G.2.2 ∧ (G.2.1 a).1 = 0 ∧ (a + 3 ≤ 606 ∨ 635 ≤ a) ∧ G.1 a 0 = some (a + 1) ∧ G.2.1 (a + 1) = (100, 200) ∧ G.1 a 1 = some (a + 2) ∧ G.2.1 (a + 2) = (100, 200)
theorem wX0_n {G : jG} {a : Nat} (h : WX0 G a) : a + 3 ≤ G.2.2 := h.1
theorem wX0_l {G : jG} {a : Nat} (h : WX0 G a) : a < G.2.2 := by have := wX0_n h; omega
theorem wX0_s {G : jG} {a : Nat} (h : WX0 G a) : (G.2.1 a).1 = 0 := h.2.1
theorem wX0_d {G : jG} {a : Nat} (h : WX0 G a) : (a + 3 ≤ 606 ∨ 635 ≤ a) := h.2.2.1
theorem wX0_r0 {G : jG} {a : Nat} (h : WX0 G a) : G.1 a 0 = some (a + 1) := h.2.2.2.1
theorem wX0_a0 {G : jG} {a : Nat} (h : WX0 G a) : G.2.1 (a + 1) = (100, 200) := h.2.2.2.2.1
theorem wX0_l0 {G : jG} {a : Nat} (h : WX0 G a) : a + 1 < G.2.2 := by have := wX0_n h; omega
theorem wX0_r1 {G : jG} {a : Nat} (h : WX0 G a) : G.1 a 1 = some (a + 2) := h.2.2.2.2.2.1
theorem wX0_a1 {G : jG} {a : Nat} (h : WX0 G a) : G.2.1 (a + 2) = (100, 200) := h.2.2.2.2.2.2
theorem wX0_l1 {G : jG} {a : Nat} (h : WX0 G a) : a + 2 < G.2.2 := by have := wX0_n h; omega
theorem wX0_f {G : jG} {a : Nat} (h : WX0 G a) (k : Nat) (hk : k < 3) : ¬ jB (a + k) := by have := wX0_d h; unfold jB; omega
theorem wX0_c {G : jG} {a : Nat} (h : WX0 G a) : ∃ T N, vwCl[(G.2.1 a).1]? = some (RX0, T, N) := ⟨TX0, 2, by rw [wX0_s h]; rfl⟩
def WX5 (G : jG) (a : Nat) : Prop := a + 1 ≤ G.2.2 ∧ (G.2.1 a).1 = 5 ∧ (a + 1 ≤ 606 ∨ 635 ≤ a) ∧ G.1 a 0 = some (a - 36) ∧ G.2.1 (a - 36) = (101, 300) ∧ 36 ≤ a
theorem wX5_n {G : jG} {a : Nat} (h : WX5 G a) : a + 1 ≤ G.2.2 := h.1
theorem wX5_l {G : jG} {a : Nat} (h : WX5 G a) : a < G.2.2 := by have := wX5_n h; omega
theorem wX5_s {G : jG} {a : Nat} (h : WX5 G a) : (G.2.1 a).1 = 5 := h.2.1
theorem wX5_d {G : jG} {a : Nat} (h : WX5 G a) : (a + 1 ≤ 606 ∨ 635 ≤ a) := h.2.2.1
theorem wX5_r0 {G : jG} {a : Nat} (h : WX5 G a) : G.1 a 0 = some (a - 36) := h.2.2.2.1
theorem wX5_a0 {G : jG} {a : Nat} (h : WX5 G a) : G.2.1 (a - 36) = (101, 300) := h.2.2.2.2.1
theorem wX5_l0 {G : jG} {a : Nat} (h : WX5 G a) : a - 36 < G.2.2 := by have := wX5_n h; omega
theorem wX5_q0 {G : jG} {a : Nat} (h : WX5 G a) : 36 ≤ a := h.2.2.2.2.2
theorem wX5_f {G : jG} {a : Nat} (h : WX5 G a) (k : Nat) (hk : k < 1) : ¬ jB (a + k) := by have := wX5_d h; unfold jB; omega
theorem wX5_c {G : jG} {a : Nat} (h : WX5 G a) : ∃ T N, vwCl[(G.2.1 a).1]? = some (RX5, T, N) := ⟨TX5, 6, by rw [wX5_s h]; rfl⟩
def WX2 (G : jG) (a : Nat) : Prop := a + 182 ≤ G.2.2 ∧ (G.2.1 a).1 = 2 ∧ (a + 182 ≤ 606 ∨ 635 ≤ a) ∧ G.1 a 0 = some (a + 1) ∧ G.2.1 (a + 1) = (103, 20) ∧ (∀ i : Int, 0 ≤ i → i < 20 → G.1 (a + 1) i = some (a + 2 + 9 * i.toNat) ∧ WX7 G (a + 2 + 9 * i.toNat))
theorem wX2_n {G : jG} {a : Nat} (h : WX2 G a) : a + 182 ≤ G.2.2 := h.1
theorem wX2_l {G : jG} {a : Nat} (h : WX2 G a) : a < G.2.2 := by have := wX2_n h; omega
theorem wX2_s {G : jG} {a : Nat} (h : WX2 G a) : (G.2.1 a).1 = 2 := h.2.1
theorem wX2_d {G : jG} {a : Nat} (h : WX2 G a) : (a + 182 ≤ 606 ∨ 635 ≤ a) := h.2.2.1
theorem wX2_r0 {G : jG} {a : Nat} (h : WX2 G a) : G.1 a 0 = some (a + 1) := h.2.2.2.1
theorem wX2_a0 {G : jG} {a : Nat} (h : WX2 G a) : G.2.1 (a + 1) = (103, 20) := h.2.2.2.2.1
theorem wX2_l0 {G : jG} {a : Nat} (h : WX2 G a) : a + 1 < G.2.2 := by have := wX2_n h; omega
theorem wX2_e0 {G : jG} {a : Nat} (h : WX2 G a) : ∀ i : Int, 0 ≤ i → i < 20 → G.1 (a + 1) i = some (a + 2 + 9 * i.toNat) ∧ WX7 G (a + 2 + 9 * i.toNat) := h.2.2.2.2.2
theorem wX2_f {G : jG} {a : Nat} (h : WX2 G a) (k : Nat) (hk : k < 182) : ¬ jB (a + k) := by have := wX2_d h; unfold jB; omega
theorem wX2_c {G : jG} {a : Nat} (h : WX2 G a) : ∃ T N, vwCl[(G.2.1 a).1]? = some (RX2, T, N) := ⟨TX2, 3, by rw [wX2_s h]; rfl⟩
def WX3 (G : jG) (a : Nat) : Prop := a + 158 ≤ G.2.2 ∧ (G.2.1 a).1 = 3 ∧ (a + 158 ≤ 606 ∨ 635 ≤ a) ∧ G.1 a 0 = some (a + 1) ∧ G.2.1 (a + 1) = (104, 31) ∧ (∀ i : Int, 0 ≤ i → i < 31 → G.1 (a + 1) i = some (a + 3 + 5 * i.toNat) ∧ WX4 G (a + 3 + 5 * i.toNat)) ∧ G.1 a 1 = some (a + 2) ∧ G.2.1 (a + 2) = (100, 30)
theorem wX3_n {G : jG} {a : Nat} (h : WX3 G a) : a + 158 ≤ G.2.2 := h.1
theorem wX3_l {G : jG} {a : Nat} (h : WX3 G a) : a < G.2.2 := by have := wX3_n h; omega
theorem wX3_s {G : jG} {a : Nat} (h : WX3 G a) : (G.2.1 a).1 = 3 := h.2.1
theorem wX3_d {G : jG} {a : Nat} (h : WX3 G a) : (a + 158 ≤ 606 ∨ 635 ≤ a) := h.2.2.1
theorem wX3_r0 {G : jG} {a : Nat} (h : WX3 G a) : G.1 a 0 = some (a + 1) := h.2.2.2.1
theorem wX3_a0 {G : jG} {a : Nat} (h : WX3 G a) : G.2.1 (a + 1) = (104, 31) := h.2.2.2.2.1
theorem wX3_l0 {G : jG} {a : Nat} (h : WX3 G a) : a + 1 < G.2.2 := by have := wX3_n h; omega
theorem wX3_e0 {G : jG} {a : Nat} (h : WX3 G a) : ∀ i : Int, 0 ≤ i → i < 31 → G.1 (a + 1) i = some (a + 3 + 5 * i.toNat) ∧ WX4 G (a + 3 + 5 * i.toNat) := h.2.2.2.2.2.1
theorem wX3_r1 {G : jG} {a : Nat} (h : WX3 G a) : G.1 a 1 = some (a + 2) := h.2.2.2.2.2.2.1
theorem wX3_a1 {G : jG} {a : Nat} (h : WX3 G a) : G.2.1 (a + 2) = (100, 30) := h.2.2.2.2.2.2.2
theorem wX3_l1 {G : jG} {a : Nat} (h : WX3 G a) : a + 2 < G.2.2 := by have := wX3_n h; omega
theorem wX3_f {G : jG} {a : Nat} (h : WX3 G a) (k : Nat) (hk : k < 158) : ¬ jB (a + k) := by have := wX3_d h; unfold jB; omega
theorem wX3_c {G : jG} {a : Nat} (h : WX3 G a) : ∃ T N, vwCl[(G.2.1 a).1]? = some (RX3, T, N) := ⟨TX3, 6, by rw [wX3_s h]; rfl⟩
def WX1 (G : jG) (a : Nat) : Prop := a + 14 ≤ G.2.2 ∧ (G.2.1 a).1 = 1 ∧ (a + 14 ≤ 606 ∨ 635 ≤ a) ∧ G.1 a 2 = some (a + 1) ∧ WX8 G (a + 1) ∧ G.1 a 3 = some (a + 4) ∧ G.2.1 (a + 4) = (101, 1500) ∧ G.1 a 6 = some (a + 5) ∧ G.2.1 (a + 5) = (100, 1200) ∧ G.1 a 7 = some (a + 6) ∧ G.2.1 (a + 6) = (100, 1200) ∧ G.1 a 8 = some (a + 7) ∧ G.2.1 (a + 7) = (100, 1200) ∧ G.1 a 9 = some (a + 8) ∧ G.2.1 (a + 8) = (100, 1200) ∧ G.1 a 10 = some (a + 9) ∧ G.2.1 (a + 9) = (100, 1200) ∧ G.1 a 11 = some (a + 10) ∧ G.2.1 (a + 10) = (100, 1200) ∧ G.1 a 12 = some (a + 11) ∧ G.2.1 (a + 11) = (100, 201) ∧ G.1 a 13 = some (a + 12) ∧ G.2.1 (a + 12) = (100, 4221) ∧ G.1 a 14 = some (a + 13) ∧ G.2.1 (a + 13) = (100, 200)
theorem wX1_n {G : jG} {a : Nat} (h : WX1 G a) : a + 14 ≤ G.2.2 := h.1
theorem wX1_l {G : jG} {a : Nat} (h : WX1 G a) : a < G.2.2 := by have := wX1_n h; omega
theorem wX1_s {G : jG} {a : Nat} (h : WX1 G a) : (G.2.1 a).1 = 1 := h.2.1
theorem wX1_d {G : jG} {a : Nat} (h : WX1 G a) : (a + 14 ≤ 606 ∨ 635 ≤ a) := h.2.2.1
theorem wX1_r2 {G : jG} {a : Nat} (h : WX1 G a) : G.1 a 2 = some (a + 1) := h.2.2.2.1
theorem wX1_o2 {G : jG} {a : Nat} (h : WX1 G a) : WX8 G (a + 1) := h.2.2.2.2.1
theorem wX1_r3 {G : jG} {a : Nat} (h : WX1 G a) : G.1 a 3 = some (a + 4) := h.2.2.2.2.2.1
theorem wX1_a3 {G : jG} {a : Nat} (h : WX1 G a) : G.2.1 (a + 4) = (101, 1500) := h.2.2.2.2.2.2.1
theorem wX1_l3 {G : jG} {a : Nat} (h : WX1 G a) : a + 4 < G.2.2 := by have := wX1_n h; omega
theorem wX1_r6 {G : jG} {a : Nat} (h : WX1 G a) : G.1 a 6 = some (a + 5) := h.2.2.2.2.2.2.2.1
theorem wX1_a6 {G : jG} {a : Nat} (h : WX1 G a) : G.2.1 (a + 5) = (100, 1200) := h.2.2.2.2.2.2.2.2.1
theorem wX1_l6 {G : jG} {a : Nat} (h : WX1 G a) : a + 5 < G.2.2 := by have := wX1_n h; omega
theorem wX1_r7 {G : jG} {a : Nat} (h : WX1 G a) : G.1 a 7 = some (a + 6) := h.2.2.2.2.2.2.2.2.2.1
theorem wX1_a7 {G : jG} {a : Nat} (h : WX1 G a) : G.2.1 (a + 6) = (100, 1200) := h.2.2.2.2.2.2.2.2.2.2.1
theorem wX1_l7 {G : jG} {a : Nat} (h : WX1 G a) : a + 6 < G.2.2 := by have := wX1_n h; omega
theorem wX1_r8 {G : jG} {a : Nat} (h : WX1 G a) : G.1 a 8 = some (a + 7) := h.2.2.2.2.2.2.2.2.2.2.2.1
theorem wX1_a8 {G : jG} {a : Nat} (h : WX1 G a) : G.2.1 (a + 7) = (100, 1200) := h.2.2.2.2.2.2.2.2.2.2.2.2.1
theorem wX1_l8 {G : jG} {a : Nat} (h : WX1 G a) : a + 7 < G.2.2 := by have := wX1_n h; omega
theorem wX1_r9 {G : jG} {a : Nat} (h : WX1 G a) : G.1 a 9 = some (a + 8) := h.2.2.2.2.2.2.2.2.2.2.2.2.2.1
theorem wX1_a9 {G : jG} {a : Nat} (h : WX1 G a) : G.2.1 (a + 8) = (100, 1200) := h.2.2.2.2.2.2.2.2.2.2.2.2.2.2.1
theorem wX1_l9 {G : jG} {a : Nat} (h : WX1 G a) : a + 8 < G.2.2 := by have := wX1_n h; omega
theorem wX1_r10 {G : jG} {a : Nat} (h : WX1 G a) : G.1 a 10 = some (a + 9) := h.2.2.2.2.2.2.2.2.2.2.2.2.2.2.2.1
theorem wX1_a10 {G : jG} {a : Nat} (h : WX1 G a) : G.2.1 (a + 9) = (100, 1200) := h.2.2.2.2.2.2.2.2.2.2.2.2.2.2.2.2.1
theorem wX1_l10 {G : jG} {a : Nat} (h : WX1 G a) : a + 9 < G.2.2 := by have := wX1_n h; omega
theorem wX1_r11 {G : jG} {a : Nat} (h : WX1 G a) : G.1 a 11 = some (a + 10) := h.2.2.2.2.2.2.2.2.2.2.2.2.2.2.2.2.2.1
theorem wX1_a11 {G : jG} {a : Nat} (h : WX1 G a) : G.2.1 (a + 10) = (100, 1200) := h.2.2.2.2.2.2.2.2.2.2.2.2.2.2.2.2.2.2.1
theorem wX1_l11 {G : jG} {a : Nat} (h : WX1 G a) : a + 10 < G.2.2 := by have := wX1_n h; omega
theorem wX1_r12 {G : jG} {a : Nat} (h : WX1 G a) : G.1 a 12 = some (a + 11) := h.2.2.2.2.2.2.2.2.2.2.2.2.2.2.2.2.2.2.2.1
theorem wX1_a12 {G : jG} {a : Nat} (h : WX1 G a) : G.2.1 (a + 11) = (100, 201) := h.2.2.2.2.2.2.2.2.2.2.2.2.2.2.2.2.2.2.2.2.1
theorem wX1_l12 {G : jG} {a : Nat} (h : WX1 G a) : a + 11 < G.2.2 := by have := wX1_n h; omega
theorem wX1_r13 {G : jG} {a : Nat} (h : WX1 G a) : G.1 a 13 = some (a + 12) := h.2.2.2.2.2.2.2.2.2.2.2.2.2.2.2.2.2.2.2.2.2.1
theorem wX1_a13 {G : jG} {a : Nat} (h : WX1 G a) : G.2.1 (a + 12) = (100, 4221) := h.2.2.2.2.2.2.2.2.2.2.2.2.2.2.2.2.2.2.2.2.2.2.1
theorem wX1_l13 {G : jG} {a : Nat} (h : WX1 G a) : a + 12 < G.2.2 := by have := wX1_n h; omega
theorem wX1_r14 {G : jG} {a : Nat} (h : WX1 G a) : G.1 a 14 = some (a + 13) := h.2.2.2.2.2.2.2.2.2.2.2.2.2.2.2.2.2.2.2.2.2.2.2.1
theorem wX1_a14 {G : jG} {a : Nat} (h : WX1 G a) : G.2.1 (a + 13) = (100, 200) := h.2.2.2.2.2.2.2.2.2.2.2.2.2.2.2.2.2.2.2.2.2.2.2.2
theorem wX1_l14 {G : jG} {a : Nat} (h : WX1 G a) : a + 13 < G.2.2 := by have := wX1_n h; omega
theorem wX1_f {G : jG} {a : Nat} (h : WX1 G a) (k : Nat) (hk : k < 14) : ¬ jB (a + k) := by have := wX1_d h; unfold jB; omega
theorem wX1_c {G : jG} {a : Nat} (h : WX1 G a) : ∃ T N, vwCl[(G.2.1 a).1]? = some (RX1, T, N) := ⟨TX1, 16, by rw [wX1_s h]; rfl⟩
def WX9 (G : jG) (a : Nat) : Prop := a + 606 ≤ G.2.2 ∧ (G.2.1 a).1 = 9 ∧ (a + 606 ≤ 606 ∨ 635 ≤ a) ∧ G.1 a 0 = some (a + 168) ∧ G.2.1 (a + 168) = (101, 300) ∧ G.1 a 3 = some (a + 204) ∧ WX5 G (a + 204) ∧ G.1 a 4 = some (a + 195) ∧ WX7 G (a + 195) ∧ G.1 a 5 = some (a + 205) ∧ WX2 G (a + 205) ∧ G.1 a 6 = some (a + 387) ∧ WX7 G (a + 387) ∧ G.1 a 7 = some (a + 396) ∧ WX2 G (a + 396) ∧ G.1 a 8 = some (a + 1) ∧ WX4 G (a + 1) ∧ G.1 a 9 = some (a + 578) ∧ WX1 G (a + 578) ∧ G.1 a 11 = some (a + 592) ∧ WX1 G (a + 592) ∧ G.1 a 12 = some (a + 6) ∧ WX3 G (a + 6) ∧ G.1 a 16 = some (a + 164) ∧ WX0 G (a + 164) ∧ G.1 a 17 = some (a + 167) ∧ G.2.1 (a + 167) = (100, 1)
theorem wX9_n {G : jG} {a : Nat} (h : WX9 G a) : a + 606 ≤ G.2.2 := h.1
theorem wX9_l {G : jG} {a : Nat} (h : WX9 G a) : a < G.2.2 := by have := wX9_n h; omega
theorem wX9_s {G : jG} {a : Nat} (h : WX9 G a) : (G.2.1 a).1 = 9 := h.2.1
theorem wX9_d {G : jG} {a : Nat} (h : WX9 G a) : (a + 606 ≤ 606 ∨ 635 ≤ a) := h.2.2.1
theorem wX9_r0 {G : jG} {a : Nat} (h : WX9 G a) : G.1 a 0 = some (a + 168) := h.2.2.2.1
theorem wX9_a0 {G : jG} {a : Nat} (h : WX9 G a) : G.2.1 (a + 168) = (101, 300) := h.2.2.2.2.1
theorem wX9_l0 {G : jG} {a : Nat} (h : WX9 G a) : a + 168 < G.2.2 := by have := wX9_n h; omega
theorem wX9_r3 {G : jG} {a : Nat} (h : WX9 G a) : G.1 a 3 = some (a + 204) := h.2.2.2.2.2.1
theorem wX9_o3 {G : jG} {a : Nat} (h : WX9 G a) : WX5 G (a + 204) := h.2.2.2.2.2.2.1
theorem wX9_r4 {G : jG} {a : Nat} (h : WX9 G a) : G.1 a 4 = some (a + 195) := h.2.2.2.2.2.2.2.1
theorem wX9_o4 {G : jG} {a : Nat} (h : WX9 G a) : WX7 G (a + 195) := h.2.2.2.2.2.2.2.2.1
theorem wX9_r5 {G : jG} {a : Nat} (h : WX9 G a) : G.1 a 5 = some (a + 205) := h.2.2.2.2.2.2.2.2.2.1
theorem wX9_o5 {G : jG} {a : Nat} (h : WX9 G a) : WX2 G (a + 205) := h.2.2.2.2.2.2.2.2.2.2.1
theorem wX9_r6 {G : jG} {a : Nat} (h : WX9 G a) : G.1 a 6 = some (a + 387) := h.2.2.2.2.2.2.2.2.2.2.2.1
theorem wX9_o6 {G : jG} {a : Nat} (h : WX9 G a) : WX7 G (a + 387) := h.2.2.2.2.2.2.2.2.2.2.2.2.1
theorem wX9_r7 {G : jG} {a : Nat} (h : WX9 G a) : G.1 a 7 = some (a + 396) := h.2.2.2.2.2.2.2.2.2.2.2.2.2.1
theorem wX9_o7 {G : jG} {a : Nat} (h : WX9 G a) : WX2 G (a + 396) := h.2.2.2.2.2.2.2.2.2.2.2.2.2.2.1
theorem wX9_r8 {G : jG} {a : Nat} (h : WX9 G a) : G.1 a 8 = some (a + 1) := h.2.2.2.2.2.2.2.2.2.2.2.2.2.2.2.1
theorem wX9_o8 {G : jG} {a : Nat} (h : WX9 G a) : WX4 G (a + 1) := h.2.2.2.2.2.2.2.2.2.2.2.2.2.2.2.2.1
theorem wX9_r9 {G : jG} {a : Nat} (h : WX9 G a) : G.1 a 9 = some (a + 578) := h.2.2.2.2.2.2.2.2.2.2.2.2.2.2.2.2.2.1
theorem wX9_o9 {G : jG} {a : Nat} (h : WX9 G a) : WX1 G (a + 578) := h.2.2.2.2.2.2.2.2.2.2.2.2.2.2.2.2.2.2.1
theorem wX9_r11 {G : jG} {a : Nat} (h : WX9 G a) : G.1 a 11 = some (a + 592) := h.2.2.2.2.2.2.2.2.2.2.2.2.2.2.2.2.2.2.2.1
theorem wX9_o11 {G : jG} {a : Nat} (h : WX9 G a) : WX1 G (a + 592) := h.2.2.2.2.2.2.2.2.2.2.2.2.2.2.2.2.2.2.2.2.1
theorem wX9_r12 {G : jG} {a : Nat} (h : WX9 G a) : G.1 a 12 = some (a + 6) := h.2.2.2.2.2.2.2.2.2.2.2.2.2.2.2.2.2.2.2.2.2.1
theorem wX9_o12 {G : jG} {a : Nat} (h : WX9 G a) : WX3 G (a + 6) := h.2.2.2.2.2.2.2.2.2.2.2.2.2.2.2.2.2.2.2.2.2.2.1
theorem wX9_r16 {G : jG} {a : Nat} (h : WX9 G a) : G.1 a 16 = some (a + 164) := h.2.2.2.2.2.2.2.2.2.2.2.2.2.2.2.2.2.2.2.2.2.2.2.1
theorem wX9_o16 {G : jG} {a : Nat} (h : WX9 G a) : WX0 G (a + 164) := h.2.2.2.2.2.2.2.2.2.2.2.2.2.2.2.2.2.2.2.2.2.2.2.2.1
theorem wX9_r17 {G : jG} {a : Nat} (h : WX9 G a) : G.1 a 17 = some (a + 167) := h.2.2.2.2.2.2.2.2.2.2.2.2.2.2.2.2.2.2.2.2.2.2.2.2.2.1
theorem wX9_a17 {G : jG} {a : Nat} (h : WX9 G a) : G.2.1 (a + 167) = (100, 1) := h.2.2.2.2.2.2.2.2.2.2.2.2.2.2.2.2.2.2.2.2.2.2.2.2.2.2
theorem wX9_l17 {G : jG} {a : Nat} (h : WX9 G a) : a + 167 < G.2.2 := by have := wX9_n h; omega
theorem wX9_f {G : jG} {a : Nat} (h : WX9 G a) (k : Nat) (hk : k < 606) : ¬ jB (a + k) := by have := wX9_d h; unfold jB; omega
theorem wX9_c {G : jG} {a : Nat} (h : WX9 G a) : ∃ T N, vwCl[(G.2.1 a).1]? = some (RX9, T, N) := ⟨TX9, 18, by rw [wX9_s h]; rfl⟩
def WX10 (G : jG) (a : Nat) : Prop := a + 29 ≤ G.2.2 ∧ (G.2.1 a).1 = 10 ∧ G.1 a 0 = some (a + 1) ∧ G.2.1 (a + 1) = (100, 22094) ∧ G.1 a 1 = some (a + 2) ∧ G.2.1 (a + 2) = (100, 22094) ∧ G.1 a 2 = some (a + 3) ∧ G.2.1 (a + 3) = (100, 200) ∧ G.1 a 3 = some (a + 4) ∧ G.2.1 (a + 4) = (100, 200) ∧ G.1 a 5 = some (a + 5) ∧ G.2.1 (a + 5) = (100, 12) ∧ G.1 a 6 = some (a + 6) ∧ G.2.1 (a + 6) = (100, 2000) ∧ G.1 a 8 = some (a + 7) ∧ G.2.1 (a + 7) = (100, 1200) ∧ G.1 a 9 = some (a + 8) ∧ G.2.1 (a + 8) = (100, 1200) ∧ G.1 a 10 = some (a + 9) ∧ G.2.1 (a + 9) = (100, 1200) ∧ G.1 a 11 = some (a + 10) ∧ G.2.1 (a + 10) = (100, 1200) ∧ G.1 a 12 = some (a + 11) ∧ G.2.1 (a + 11) = (100, 1200) ∧ G.1 a 13 = some (a + 12) ∧ G.2.1 (a + 12) = (100, 1200) ∧ G.1 a 14 = some (a + 13) ∧ G.2.1 (a + 13) = (102, 1200) ∧ G.1 a 15 = some (a + 14) ∧ G.2.1 (a + 14) = (102, 1200) ∧ G.1 a 16 = some (a + 15) ∧ G.2.1 (a + 15) = (102, 1200) ∧ G.1 a 18 = some (a + 16) ∧ G.2.1 (a + 16) = (100, 25221) ∧ G.1 a 19 = some (a + 17) ∧ G.2.1 (a + 17) = (100, 25221) ∧ G.1 a 22 = some (a + 18) ∧ G.2.1 (a + 18) = (100, 200) ∧ G.1 a 23 = some (a + 19) ∧ G.2.1 (a + 19) = (100, 200) ∧ G.1 a 25 = some (a + 20) ∧ G.2.1 (a + 20) = (100, 300) ∧ G.1 a 27 = some (a + 21) ∧ G.2.1 (a + 21) = (100, 240) ∧ G.1 a 33 = some (a + 22) ∧ G.2.1 (a + 22) = (100, 200) ∧ G.1 a 34 = some (a + 23) ∧ G.2.1 (a + 23) = (100, 200) ∧ G.1 a 35 = some (a + 24) ∧ G.2.1 (a + 24) = (100, 1052) ∧ G.1 a 36 = some (a + 25) ∧ G.2.1 (a + 25) = (100, 31) ∧ G.1 a 37 = some (a + 26) ∧ G.2.1 (a + 26) = (100, 6200) ∧ G.1 a 38 = some (a + 27) ∧ G.2.1 (a + 27) = (100, 496) ∧ G.1 a 39 = some (a + 28) ∧ G.2.1 (a + 28) = (100, 31)
theorem wX10_n {G : jG} {a : Nat} (h : WX10 G a) : a + 29 ≤ G.2.2 := h.1
theorem wX10_l {G : jG} {a : Nat} (h : WX10 G a) : a < G.2.2 := by have := wX10_n h; omega
theorem wX10_s {G : jG} {a : Nat} (h : WX10 G a) : (G.2.1 a).1 = 10 := h.2.1
theorem wX10_r0 {G : jG} {a : Nat} (h : WX10 G a) : G.1 a 0 = some (a + 1) := h.2.2.1
theorem wX10_a0 {G : jG} {a : Nat} (h : WX10 G a) : G.2.1 (a + 1) = (100, 22094) := h.2.2.2.1
theorem wX10_l0 {G : jG} {a : Nat} (h : WX10 G a) : a + 1 < G.2.2 := by have := wX10_n h; omega
theorem wX10_r1 {G : jG} {a : Nat} (h : WX10 G a) : G.1 a 1 = some (a + 2) := h.2.2.2.2.1
theorem wX10_a1 {G : jG} {a : Nat} (h : WX10 G a) : G.2.1 (a + 2) = (100, 22094) := h.2.2.2.2.2.1
theorem wX10_l1 {G : jG} {a : Nat} (h : WX10 G a) : a + 2 < G.2.2 := by have := wX10_n h; omega
theorem wX10_r2 {G : jG} {a : Nat} (h : WX10 G a) : G.1 a 2 = some (a + 3) := h.2.2.2.2.2.2.1
theorem wX10_a2 {G : jG} {a : Nat} (h : WX10 G a) : G.2.1 (a + 3) = (100, 200) := h.2.2.2.2.2.2.2.1
theorem wX10_l2 {G : jG} {a : Nat} (h : WX10 G a) : a + 3 < G.2.2 := by have := wX10_n h; omega
theorem wX10_r3 {G : jG} {a : Nat} (h : WX10 G a) : G.1 a 3 = some (a + 4) := h.2.2.2.2.2.2.2.2.1
theorem wX10_a3 {G : jG} {a : Nat} (h : WX10 G a) : G.2.1 (a + 4) = (100, 200) := h.2.2.2.2.2.2.2.2.2.1
theorem wX10_l3 {G : jG} {a : Nat} (h : WX10 G a) : a + 4 < G.2.2 := by have := wX10_n h; omega
theorem wX10_r5 {G : jG} {a : Nat} (h : WX10 G a) : G.1 a 5 = some (a + 5) := h.2.2.2.2.2.2.2.2.2.2.1
theorem wX10_a5 {G : jG} {a : Nat} (h : WX10 G a) : G.2.1 (a + 5) = (100, 12) := h.2.2.2.2.2.2.2.2.2.2.2.1
theorem wX10_l5 {G : jG} {a : Nat} (h : WX10 G a) : a + 5 < G.2.2 := by have := wX10_n h; omega
theorem wX10_r6 {G : jG} {a : Nat} (h : WX10 G a) : G.1 a 6 = some (a + 6) := h.2.2.2.2.2.2.2.2.2.2.2.2.1
theorem wX10_a6 {G : jG} {a : Nat} (h : WX10 G a) : G.2.1 (a + 6) = (100, 2000) := h.2.2.2.2.2.2.2.2.2.2.2.2.2.1
theorem wX10_l6 {G : jG} {a : Nat} (h : WX10 G a) : a + 6 < G.2.2 := by have := wX10_n h; omega
theorem wX10_r8 {G : jG} {a : Nat} (h : WX10 G a) : G.1 a 8 = some (a + 7) := h.2.2.2.2.2.2.2.2.2.2.2.2.2.2.1
theorem wX10_a8 {G : jG} {a : Nat} (h : WX10 G a) : G.2.1 (a + 7) = (100, 1200) := h.2.2.2.2.2.2.2.2.2.2.2.2.2.2.2.1
theorem wX10_l8 {G : jG} {a : Nat} (h : WX10 G a) : a + 7 < G.2.2 := by have := wX10_n h; omega
theorem wX10_r9 {G : jG} {a : Nat} (h : WX10 G a) : G.1 a 9 = some (a + 8) := h.2.2.2.2.2.2.2.2.2.2.2.2.2.2.2.2.1
theorem wX10_a9 {G : jG} {a : Nat} (h : WX10 G a) : G.2.1 (a + 8) = (100, 1200) := h.2.2.2.2.2.2.2.2.2.2.2.2.2.2.2.2.2.1
theorem wX10_l9 {G : jG} {a : Nat} (h : WX10 G a) : a + 8 < G.2.2 := by have := wX10_n h; omega
theorem wX10_r10 {G : jG} {a : Nat} (h : WX10 G a) : G.1 a 10 = some (a + 9) := h.2.2.2.2.2.2.2.2.2.2.2.2.2.2.2.2.2.2.1
theorem wX10_a10 {G : jG} {a : Nat} (h : WX10 G a) : G.2.1 (a + 9) = (100, 1200) := h.2.2.2.2.2.2.2.2.2.2.2.2.2.2.2.2.2.2.2.1
theorem wX10_l10 {G : jG} {a : Nat} (h : WX10 G a) : a + 9 < G.2.2 := by have := wX10_n h; omega
theorem wX10_r11 {G : jG} {a : Nat} (h : WX10 G a) : G.1 a 11 = some (a + 10) := h.2.2.2.2.2.2.2.2.2.2.2.2.2.2.2.2.2.2.2.2.1
theorem wX10_a11 {G : jG} {a : Nat} (h : WX10 G a) : G.2.1 (a + 10) = (100, 1200) := h.2.2.2.2.2.2.2.2.2.2.2.2.2.2.2.2.2.2.2.2.2.1
theorem wX10_l11 {G : jG} {a : Nat} (h : WX10 G a) : a + 10 < G.2.2 := by have := wX10_n h; omega
theorem wX10_r12 {G : jG} {a : Nat} (h : WX10 G a) : G.1 a 12 = some (a + 11) := h.2.2.2.2.2.2.2.2.2.2.2.2.2.2.2.2.2.2.2.2.2.2.1
theorem wX10_a12 {G : jG} {a : Nat} (h : WX10 G a) : G.2.1 (a + 11) = (100, 1200) := h.2.2.2.2.2.2.2.2.2.2.2.2.2.2.2.2.2.2.2.2.2.2.2.1
theorem wX10_l12 {G : jG} {a : Nat} (h : WX10 G a) : a + 11 < G.2.2 := by have := wX10_n h; omega
theorem wX10_r13 {G : jG} {a : Nat} (h : WX10 G a) : G.1 a 13 = some (a + 12) := h.2.2.2.2.2.2.2.2.2.2.2.2.2.2.2.2.2.2.2.2.2.2.2.2.1
theorem wX10_a13 {G : jG} {a : Nat} (h : WX10 G a) : G.2.1 (a + 12) = (100, 1200) := h.2.2.2.2.2.2.2.2.2.2.2.2.2.2.2.2.2.2.2.2.2.2.2.2.2.1
theorem wX10_l13 {G : jG} {a : Nat} (h : WX10 G a) : a + 12 < G.2.2 := by have := wX10_n h; omega
theorem wX10_r14 {G : jG} {a : Nat} (h : WX10 G a) : G.1 a 14 = some (a + 13) := h.2.2.2.2.2.2.2.2.2.2.2.2.2.2.2.2.2.2.2.2.2.2.2.2.2.2.1
theorem wX10_a14 {G : jG} {a : Nat} (h : WX10 G a) : G.2.1 (a + 13) = (102, 1200) := h.2.2.2.2.2.2.2.2.2.2.2.2.2.2.2.2.2.2.2.2.2.2.2.2.2.2.2.1
theorem wX10_l14 {G : jG} {a : Nat} (h : WX10 G a) : a + 13 < G.2.2 := by have := wX10_n h; omega
theorem wX10_r15 {G : jG} {a : Nat} (h : WX10 G a) : G.1 a 15 = some (a + 14) := h.2.2.2.2.2.2.2.2.2.2.2.2.2.2.2.2.2.2.2.2.2.2.2.2.2.2.2.2.1
theorem wX10_a15 {G : jG} {a : Nat} (h : WX10 G a) : G.2.1 (a + 14) = (102, 1200) := h.2.2.2.2.2.2.2.2.2.2.2.2.2.2.2.2.2.2.2.2.2.2.2.2.2.2.2.2.2.1
theorem wX10_l15 {G : jG} {a : Nat} (h : WX10 G a) : a + 14 < G.2.2 := by have := wX10_n h; omega
theorem wX10_r16 {G : jG} {a : Nat} (h : WX10 G a) : G.1 a 16 = some (a + 15) := h.2.2.2.2.2.2.2.2.2.2.2.2.2.2.2.2.2.2.2.2.2.2.2.2.2.2.2.2.2.2.1
theorem wX10_a16 {G : jG} {a : Nat} (h : WX10 G a) : G.2.1 (a + 15) = (102, 1200) := h.2.2.2.2.2.2.2.2.2.2.2.2.2.2.2.2.2.2.2.2.2.2.2.2.2.2.2.2.2.2.2.1
theorem wX10_l16 {G : jG} {a : Nat} (h : WX10 G a) : a + 15 < G.2.2 := by have := wX10_n h; omega
theorem wX10_r18 {G : jG} {a : Nat} (h : WX10 G a) : G.1 a 18 = some (a + 16) := h.2.2.2.2.2.2.2.2.2.2.2.2.2.2.2.2.2.2.2.2.2.2.2.2.2.2.2.2.2.2.2.2.1
theorem wX10_a18 {G : jG} {a : Nat} (h : WX10 G a) : G.2.1 (a + 16) = (100, 25221) := h.2.2.2.2.2.2.2.2.2.2.2.2.2.2.2.2.2.2.2.2.2.2.2.2.2.2.2.2.2.2.2.2.2.1
theorem wX10_l18 {G : jG} {a : Nat} (h : WX10 G a) : a + 16 < G.2.2 := by have := wX10_n h; omega
theorem wX10_r19 {G : jG} {a : Nat} (h : WX10 G a) : G.1 a 19 = some (a + 17) := h.2.2.2.2.2.2.2.2.2.2.2.2.2.2.2.2.2.2.2.2.2.2.2.2.2.2.2.2.2.2.2.2.2.2.1
theorem wX10_a19 {G : jG} {a : Nat} (h : WX10 G a) : G.2.1 (a + 17) = (100, 25221) := h.2.2.2.2.2.2.2.2.2.2.2.2.2.2.2.2.2.2.2.2.2.2.2.2.2.2.2.2.2.2.2.2.2.2.2.1
theorem wX10_l19 {G : jG} {a : Nat} (h : WX10 G a) : a + 17 < G.2.2 := by have := wX10_n h; omega
theorem wX10_r22 {G : jG} {a : Nat} (h : WX10 G a) : G.1 a 22 = some (a + 18) := h.2.2.2.2.2.2.2.2.2.2.2.2.2.2.2.2.2.2.2.2.2.2.2.2.2.2.2.2.2.2.2.2.2.2.2.2.1
theorem wX10_a22 {G : jG} {a : Nat} (h : WX10 G a) : G.2.1 (a + 18) = (100, 200) := h.2.2.2.2.2.2.2.2.2.2.2.2.2.2.2.2.2.2.2.2.2.2.2.2.2.2.2.2.2.2.2.2.2.2.2.2.2.1
theorem wX10_l22 {G : jG} {a : Nat} (h : WX10 G a) : a + 18 < G.2.2 := by have := wX10_n h; omega
theorem wX10_r23 {G : jG} {a : Nat} (h : WX10 G a) : G.1 a 23 = some (a + 19) := h.2.2.2.2.2.2.2.2.2.2.2.2.2.2.2.2.2.2.2.2.2.2.2.2.2.2.2.2.2.2.2.2.2.2.2.2.2.2.1
theorem wX10_a23 {G : jG} {a : Nat} (h : WX10 G a) : G.2.1 (a + 19) = (100, 200) := h.2.2.2.2.2.2.2.2.2.2.2.2.2.2.2.2.2.2.2.2.2.2.2.2.2.2.2.2.2.2.2.2.2.2.2.2.2.2.2.1
theorem wX10_l23 {G : jG} {a : Nat} (h : WX10 G a) : a + 19 < G.2.2 := by have := wX10_n h; omega
theorem wX10_r25 {G : jG} {a : Nat} (h : WX10 G a) : G.1 a 25 = some (a + 20) := h.2.2.2.2.2.2.2.2.2.2.2.2.2.2.2.2.2.2.2.2.2.2.2.2.2.2.2.2.2.2.2.2.2.2.2.2.2.2.2.2.1
theorem wX10_a25 {G : jG} {a : Nat} (h : WX10 G a) : G.2.1 (a + 20) = (100, 300) := h.2.2.2.2.2.2.2.2.2.2.2.2.2.2.2.2.2.2.2.2.2.2.2.2.2.2.2.2.2.2.2.2.2.2.2.2.2.2.2.2.2.1
theorem wX10_l25 {G : jG} {a : Nat} (h : WX10 G a) : a + 20 < G.2.2 := by have := wX10_n h; omega
theorem wX10_r27 {G : jG} {a : Nat} (h : WX10 G a) : G.1 a 27 = some (a + 21) := h.2.2.2.2.2.2.2.2.2.2.2.2.2.2.2.2.2.2.2.2.2.2.2.2.2.2.2.2.2.2.2.2.2.2.2.2.2.2.2.2.2.2.1
theorem wX10_a27 {G : jG} {a : Nat} (h : WX10 G a) : G.2.1 (a + 21) = (100, 240) := h.2.2.2.2.2.2.2.2.2.2.2.2.2.2.2.2.2.2.2.2.2.2.2.2.2.2.2.2.2.2.2.2.2.2.2.2.2.2.2.2.2.2.2.1
theorem wX10_l27 {G : jG} {a : Nat} (h : WX10 G a) : a + 21 < G.2.2 := by have := wX10_n h; omega
theorem wX10_r33 {G : jG} {a : Nat} (h : WX10 G a) : G.1 a 33 = some (a + 22) := h.2.2.2.2.2.2.2.2.2.2.2.2.2.2.2.2.2.2.2.2.2.2.2.2.2.2.2.2.2.2.2.2.2.2.2.2.2.2.2.2.2.2.2.2.1
theorem wX10_a33 {G : jG} {a : Nat} (h : WX10 G a) : G.2.1 (a + 22) = (100, 200) := h.2.2.2.2.2.2.2.2.2.2.2.2.2.2.2.2.2.2.2.2.2.2.2.2.2.2.2.2.2.2.2.2.2.2.2.2.2.2.2.2.2.2.2.2.2.1
theorem wX10_l33 {G : jG} {a : Nat} (h : WX10 G a) : a + 22 < G.2.2 := by have := wX10_n h; omega
theorem wX10_r34 {G : jG} {a : Nat} (h : WX10 G a) : G.1 a 34 = some (a + 23) := h.2.2.2.2.2.2.2.2.2.2.2.2.2.2.2.2.2.2.2.2.2.2.2.2.2.2.2.2.2.2.2.2.2.2.2.2.2.2.2.2.2.2.2.2.2.2.1
theorem wX10_a34 {G : jG} {a : Nat} (h : WX10 G a) : G.2.1 (a + 23) = (100, 200) := h.2.2.2.2.2.2.2.2.2.2.2.2.2.2.2.2.2.2.2.2.2.2.2.2.2.2.2.2.2.2.2.2.2.2.2.2.2.2.2.2.2.2.2.2.2.2.2.1
theorem wX10_l34 {G : jG} {a : Nat} (h : WX10 G a) : a + 23 < G.2.2 := by have := wX10_n h; omega
theorem wX10_r35 {G : jG} {a : Nat} (h : WX10 G a) : G.1 a 35 = some (a + 24) := h.2.2.2.2.2.2.2.2.2.2.2.2.2.2.2.2.2.2.2.2.2.2.2.2.2.2.2.2.2.2.2.2.2.2.2.2.2.2.2.2.2.2.2.2.2.2.2.2.1
theorem wX10_a35 {G : jG} {a : Nat} (h : WX10 G a) : G.2.1 (a + 24) = (100, 1052) := h.2.2.2.2.2.2.2.2.2.2.2.2.2.2.2.2.2.2.2.2.2.2.2.2.2.2.2.2.2.2.2.2.2.2.2.2.2.2.2.2.2.2.2.2.2.2.2.2.2.1
theorem wX10_l35 {G : jG} {a : Nat} (h : WX10 G a) : a + 24 < G.2.2 := by have := wX10_n h; omega
theorem wX10_r36 {G : jG} {a : Nat} (h : WX10 G a) : G.1 a 36 = some (a + 25) := h.2.2.2.2.2.2.2.2.2.2.2.2.2.2.2.2.2.2.2.2.2.2.2.2.2.2.2.2.2.2.2.2.2.2.2.2.2.2.2.2.2.2.2.2.2.2.2.2.2.2.1
theorem wX10_a36 {G : jG} {a : Nat} (h : WX10 G a) : G.2.1 (a + 25) = (100, 31) := h.2.2.2.2.2.2.2.2.2.2.2.2.2.2.2.2.2.2.2.2.2.2.2.2.2.2.2.2.2.2.2.2.2.2.2.2.2.2.2.2.2.2.2.2.2.2.2.2.2.2.2.1
theorem wX10_l36 {G : jG} {a : Nat} (h : WX10 G a) : a + 25 < G.2.2 := by have := wX10_n h; omega
theorem wX10_r37 {G : jG} {a : Nat} (h : WX10 G a) : G.1 a 37 = some (a + 26) := h.2.2.2.2.2.2.2.2.2.2.2.2.2.2.2.2.2.2.2.2.2.2.2.2.2.2.2.2.2.2.2.2.2.2.2.2.2.2.2.2.2.2.2.2.2.2.2.2.2.2.2.2.1
theorem wX10_a37 {G : jG} {a : Nat} (h : WX10 G a) : G.2.1 (a + 26) = (100, 6200) := h.2.2.2.2.2.2.2.2.2.2.2.2.2.2.2.2.2.2.2.2.2.2.2.2.2.2.2.2.2.2.2.2.2.2.2.2.2.2.2.2.2.2.2.2.2.2.2.2.2.2.2.2.2.1
theorem wX10_l37 {G : jG} {a : Nat} (h : WX10 G a) : a + 26 < G.2.2 := by have := wX10_n h; omega
theorem wX10_r38 {G : jG} {a : Nat} (h : WX10 G a) : G.1 a 38 = some (a + 27) := h.2.2.2.2.2.2.2.2.2.2.2.2.2.2.2.2.2.2.2.2.2.2.2.2.2.2.2.2.2.2.2.2.2.2.2.2.2.2.2.2.2.2.2.2.2.2.2.2.2.2.2.2.2.2.1
theorem wX10_a38 {G : jG} {a : Nat} (h : WX10 G a) : G.2.1 (a + 27) = (100, 496) := h.2.2.2.2.2.2.2.2.2.2.2.2.2.2.2.2.2.2.2.2.2.2.2.2.2.2.2.2.2.2.2.2.2.2.2.2.2.2.2.2.2.2.2.2.2.2.2.2.2.2.2.2.2.2.2.1
theorem wX10_l38 {G : jG} {a : Nat} (h : WX10 G a) : a + 27 < G.2.2 := by have := wX10_n h; omega
theorem wX10_r39 {G : jG} {a : Nat} (h : WX10 G a) : G.1 a 39 = some (a + 28) := h.2.2.2.2.2.2.2.2.2.2.2.2.2.2.2.2.2.2.2.2.2.2.2.2.2.2.2.2.2.2.2.2.2.2.2.2.2.2.2.2.2.2.2.2.2.2.2.2.2.2.2.2.2.2.2.2.1
theorem wX10_a39 {G : jG} {a : Nat} (h : WX10 G a) : G.2.1 (a + 28) = (100, 31) := h.2.2.2.2.2.2.2.2.2.2.2.2.2.2.2.2.2.2.2.2.2.2.2.2.2.2.2.2.2.2.2.2.2.2.2.2.2.2.2.2.2.2.2.2.2.2.2.2.2.2.2.2.2.2.2.2.2
theorem wX10_l39 {G : jG} {a : Nat} (h : WX10 G a) : a + 28 < G.2.2 := by have := wX10_n h; omega
theorem wX10_f {G : jG} {a : Nat} (h : WX10 G a) (k : Nat) (hk : k < 29) : ¬ jA a (a + k) := by unfold jA; omega
theorem wX10_c {G : jG} {a : Nat} (h : WX10 G a) : ∃ T N, vwCl[(G.2.1 a).1]? = some (RX10, T, N) := ⟨TX10, 44, by rw [wX10_s h]; rfl⟩
