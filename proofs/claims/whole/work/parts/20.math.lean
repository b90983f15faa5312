/-! ===== numbers and truth ===== -/
noncomputable def jI (P : Prop) : Int := @ite Int P (Classical.propDecidable P) 1 0
theorem jI_pos {P : Prop} (h : P) : jI P = 1 := if_pos h
theorem jI_neg {P : Prop} (h : ¬ P) : jI P = 0 := if_neg h
theorem jI_n {P : Prop} (e : jI P = 0) : ¬ P := fun q => by rw [jI_pos q] at e; exact absurd e (by decide)
theorem jI_p {P : Prop} (e : ¬ jI P = 0) : P := Classical.byContradiction (fun q => e (jI_neg q))
theorem jI_01 {P : Prop} : 0 ≤ jI P ∧ jI P ≤ 1 := by
  by_cases q : P
  · rw [jI_pos q]; decide
  · rw [jI_neg q]; decide
theorem jI_congr {P Q : Prop} (h : P ↔ Q) : jI P = jI Q := by
  by_cases q : P
  · rw [jI_pos q, jI_pos (h.mp q)]
  · rw [jI_neg q, jI_neg (fun x => q (h.mpr x))]
theorem jIn_lit {n : Int} (h1 : -2147483648 ≤ n) (h2 : n ≤ 2147483647) : jIn n := ⟨h1, h2⟩
/-- of which sort a byte is, as the reference counts: 0 word, 1 number, 2 sign, 3 blanks -/
def srt (c : Int) : Int := if 97 ≤ c ∧ c ≤ 122 then 0 else if 48 ≤ c ∧ c ≤ 57 then 1 else if c = 32 ∨ c = 10 then 3 else 2
theorem srt_range (c : Int) : 0 ≤ srt c ∧ srt c ≤ 3 := by unfold srt; split <;> (try split) <;> (try split) <;> decide
/-- j is where the token that begins at i ends -/
def IsNx (T : Int → Int) (len i j : Int) : Prop := i < j ∧ j ≤ len ∧ (∀ k, i ≤ k → k < j → srt (T k) = srt (T i)) ∧ (srt (T i) = 2 → j = i + 1) ∧ (srt (T i) ≠ 2 → j < len → srt (T j) ≠ srt (T i))
theorem IsNx.uniq {T : Int → Int} {len i j j' : Int} (h : IsNx T len i j) (h' : IsNx T len i j') : j = j' := by
  obtain ⟨h1, h2, h3, h4, h5⟩ := h
  obtain ⟨g1, g2, g3, g4, g5⟩ := h'
  by_cases hs : srt (T i) = 2
  · rw [h4 hs, g4 hs]
  · rcases Int.lt_trichotomy j j' with q | q | q
    · exact absurd (g3 j (by omega) q) (h5 hs (by omega))
    · exact q
    · exact absurd (h3 j' (by omega) q) (g5 hs (by omega))
/-- the text's tokens: n of them, b where they begin (b n: the text's end) -/
def Tk (T : Int → Int) (len n : Int) (b : Int → Int) : Prop := 0 ≤ n ∧ b 0 = 0 ∧ b n = len ∧ ∀ t, 0 ≤ t → t < n → IsNx T len (b t) (b (t + 1))
theorem Tk.mono {T : Int → Int} {len n : Int} {b : Int → Int} (h : Tk T len n b) : ∀ (d : Nat) (t : Int), 0 ≤ t → t + d ≤ n → b t + d ≤ b (t + d) := by
  intro d
  induction d with
  | zero => intro t h0 h1; simp
  | succ d ih =>
    intro t h0 h1
    have h2 := ih t h0 (by omega)
    have h3 := (h.2.2.2 (t + d) (by omega) (by omega)).1
    have e : t + ((d + 1 : Nat) : Int) = t + d + 1 := by omega
    rw [e]
    omega
theorem Tk.le {T : Int → Int} {len n : Int} {b : Int → Int} (h : Tk T len n b) {t u : Int} (h0 : 0 ≤ t) (h1 : t ≤ u) (h2 : u ≤ n) : b t + (u - t) ≤ b u := by
  have := h.mono (u - t).toNat t h0 (by omega)
  have e : t + ((u - t).toNat : Int) = u := by omega
  rw [e] at this
  omega
theorem Tk.n_le {T : Int → Int} {len n : Int} {b : Int → Int} (h : Tk T len n b) : n ≤ len := by
  have := h.le (t := 0) (u := n) (by omega) h.1 (by omega)
  rw [h.2.1, h.2.2.1] at this
  omega
theorem Tk.bd {T : Int → Int} {len n : Int} {b : Int → Int} (h : Tk T len n b) {t : Int} (h0 : 0 ≤ t) (h1 : t ≤ n) : 0 ≤ b t ∧ b t ≤ len := by
  have h2 := h.le (t := 0) (u := t) (by omega) h0 h1
  have h3 := h.le (t := t) (u := n) h0 h1 (by omega)
  rw [h.2.1] at h2
  rw [h.2.2.1] at h3
  omega
theorem Tk.uniq {T : Int → Int} {len n n' : Int} {b b' : Int → Int} (h : Tk T len n b) (h' : Tk T len n' b') : n = n' ∧ ∀ t, 0 ≤ t → t ≤ n → b t = b' t := by
  have key : ∀ (d : Nat), (d : Int) ≤ n → (d : Int) ≤ n' → b d = b' d := by
    intro d
    induction d with
    | zero => intro _ _; show b 0 = b' 0; rw [h.2.1, h'.2.1]
    | succ d ih =>
      intro h1 h2
      have e := ih (by omega) (by omega)
      have g1 := h.2.2.2 d (by omega) (by omega)
      have g2 := h'.2.2.2 d (by omega) (by omega)
      rw [← e] at g2
      exact g1.uniq g2
  have hn : n = n' := by
    rcases Int.lt_trichotomy n n' with q | q | q
    · have h0 := h.1
      have e := key n.toNat (by omega) (by omega)
      have e2 : ((n.toNat : Nat) : Int) = n := by omega
      rw [e2, h.2.2.1] at e
      have g := (h'.2.2.2 n h.1 q)
      have g1 := g.1
      have g2 := g.2.1
      omega
    · exact q
    · have h0 := h'.1
      have e := key n'.toNat (by omega) (by omega)
      have e2 : ((n'.toNat : Nat) : Int) = n' := by omega
      rw [e2, h'.2.2.1] at e
      have g := (h.2.2.2 n' h'.1 q)
      have g1 := g.1
      have g2 := g.2.1
      omega
  refine ⟨hn, fun t h0 h1 => ?_⟩
  have e := key t.toNat (by omega) (by omega)
  have e2 : ((t.toNat : Nat) : Int) = t := by omega
  rwa [e2] at e
theorem Tk.congr {T T' : Int → Int} {len n : Int} {b : Int → Int} (h : Tk T len n b) (he : ∀ i, 0 ≤ i → i < len → T' i = T i) : Tk T' len n b := by
  refine ⟨h.1, h.2.1, h.2.2.1, fun t h0 h1 => ?_⟩
  obtain ⟨g1, g2, g3, g4, g5⟩ := h.2.2.2 t h0 h1
  have hb := h.bd (t := t) h0 (by omega)
  have e0 := he (b t) hb.1 (by omega)
  refine ⟨g1, g2, fun k k1 k2 => ?_, fun q => g4 (by rw [← e0]; exact q), fun q1 q2 => ?_⟩
  · rw [he k (by omega) (by omega), e0]
    exact g3 k k1 k2
  · rw [he _ (by omega) q2, e0]
    exact g5 (by rw [← e0]; exact q1) q2
