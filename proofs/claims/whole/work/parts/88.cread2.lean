/-! ===== the class reads rules: quotes, names ===== -/
def CD (m δ : Nat) (I : jM) (T : List Int) (f : Int) : Prop := (36 ≤ m ∧ m - 36 < δ ∧ (δ + 13 ≤ m ∨ m < δ)) ∧ I m 1 = T.length ∧ T.length ≤ 300 ∧ (∀ i : Nat, i < T.length → (0 ≤ T.getD i 0 ∧ T.getD i 0 ≤ 255) ∧ I (m - 36) i = jb8 (T.getD i 0)) ∧ I m 2 = f ∧ (0 ≤ f ∧ f ≤ T.length) ∧ I m 3 = δ
def CU (m δ : Nat) (cnt : Int) (I I' : jM) : Prop := ∀ a j, (a ≠ m ∨ j = 1 ∨ j = 3) → (¬ (δ < a ∧ a < δ + 13) ∨ (a ≤ δ + 5 ∧ j ≠ cnt) ∨ (δ + 6 ≤ a ∧ j < 6 * cnt)) → I' a j = I a j
def C0 (m : Nat) (I I' : jM) : Prop := ∀ a j, (a ≠ m ∨ (j ≠ 2 ∧ j ≠ 4 ∧ j ≠ 5)) → I' a j = I a j
def nmK (a : Int × Int × Int) : Int := if a.1 ≤ 2 then 4 * told a.1 + a.2.1 else -1
section CA
variable {E : jE} {G : jG} {m δ : Nat} {I M : jM} {T : List Int} {f g cnt : Int}
theorem CU.rfl {I : jM} : CU m δ cnt I I := fun _ _ _ _ => Eq.refl _
theorem CU.trans {I I' I'' : jM} (h : CU m δ cnt I I') (h' : CU m δ cnt I' I'') : CU m δ cnt I I'' := fun a j ha hb => (h' a j ha hb).trans (h a j ha hb)
theorem C0.rfl {I : jM} : C0 m I I := fun _ _ _ => Eq.refl _
theorem C0.trans {I I' I'' : jM} (h : C0 m I I') (h' : C0 m I' I'') : C0 m I I'' := fun a j ha => (h' a j ha).trans (h a j ha)
theorem C0.cu {I I' : jM} (h : C0 m I I') : CU m δ cnt I I' := fun a j ha _ => h a j (by omega)
theorem C0.up {j v : Int} (e : M = jup I m j v) (hj : j = 2 ∨ j = 4 ∨ j = 5) : C0 m I M := fun a k hb => by
  by_cases q : a = m
  · exact jr_nj e (by omega)
  · exact jr_na e q
theorem CD.nx (h : CD m δ I T f) : cnx I m = nxt T f := by
  obtain ⟨h0, h1, h2, h3, h4, h5, h6⟩ := h
  unfold cnx nxt tp
  rw [h4, h1]
  by_cases q : f < T.length
  · rw [if_pos q, if_pos ⟨h5.1, q⟩]
    have := h3 f.toNat (by omega)
    rw [show ((f.toNat : Nat) : Int) = f by omega] at this
    rw [this.2]
    exact j255 this.1
  · rw [if_neg q, if_neg (by omega)]
theorem CD.cu {I' : jM} (h : CD m δ I T f) (hw : CU m δ cnt I I') (h9 : I' m 2 = g) (g0 : 0 ≤ g) (g1 : g ≤ T.length) : CD m δ I' T g := by
  obtain ⟨h0, h1, h2, h3, h4, h5, h6⟩ := h
  exact ⟨h0, by rw [hw _ _ (by omega) (by omega)]; exact h1, h2, fun i hi => by rw [hw _ _ (by omega) (by omega)]; exact h3 i hi, h9, ⟨g0, g1⟩, by rw [hw _ _ (by omega) (by omega)]; exact h6⟩
theorem CD.c0 {I' : jM} (h : CD m δ I T f) (hw : C0 m I I') (h9 : I' m 2 = g) (g0 : 0 ≤ g) (g1 : g ≤ T.length) : CD m δ I' T g := h.cu (cnt := 0) hw.cu h9 g0 g1
theorem CD.mv (h : CD m δ I T f) (e : M = jup I m 2 g) (g0 : 0 ≤ g) (g1 : g ≤ T.length) : CD m δ M T g := h.c0 (C0.up e (by omega)) (jr_eq e) g0 g1
theorem CD.pre (h : CD m δ I T f) : I m 1 ≤ 300 := by
  obtain ⟨h0, h1, h2, h3, h4, h5, h6⟩ := h
  omega
theorem CD.src (h : CD m δ I T f) {k : Int} (k0 : 0 ≤ k) (k1 : k < T.length) (kb : 32 ≤ tp T k ∧ tp T k ≤ 126) : I (m - 36) k = tp T k := by
  have := (h.2.2.2.1 k.toNat (by omega)).2
  rw [show ((k.toNat : Nat) : Int) = k by omega] at this
  rw [this]
  exact jb8_id (show -128 ≤ tp T k ∧ tp T k ≤ 127 by omega)
theorem cl_fail (hm : WX5 G m) {k p : Int} : jRI E jB kX5_fail [VR m, VI k, VI p] G I (fun x I' => x = 0 ∧ I' m 4 = k ∧ I' m 5 = p ∧ C0 m I I') := by
  refine en_X5_fail hm (fun _ _ _ M1 e1 M2 e2 => ⟨rfl, ?_, jr_eq e2, (C0.up e1 (by omega)).trans (C0.up e2 (by omega))⟩)
  rw [jr_nj e2 (by omega), jr_eq e1]
theorem cl_readQuote (hm : WX5 G m) (h : CD m δ I T f) (hq : nxt T f = 39) : jRI E jB kX5_readQuote [VR m] G I (fun x I' => (nxt T (qs T 300 (f + 1)) ≠ 39 → x = 0 ∧ I' m 4 = 1 ∧ I' m 5 = qs T 300 (f + 1) ∧ C0 m I I') ∧ (nxt T (qs T 300 (f + 1)) = 39 → x = 1 ∧ I' m 2 = qs T 300 (f + 1) + 1 ∧ I' m 4 = I m 4 ∧ I' m 5 = I m 5 ∧ C0 m I I')) := by
  have hl : f < T.length := nxt_lt (by omega)
  have h300 := h.2.2.1
  have f0 := h.2.2.2.2.2.1.1
  have fin : ∀ (g : Int) (I1 : jM), CD m δ I1 T g → qs T 300 (f + 1) = g → C0 m I I1 → I1 m 4 = I m 4 → I1 m 5 = I m 5 → (I1 m 1 ≤ 300) ∧ (((cnx I1 m) = 39 → jIn ((I1 m 2) + 1) ∧ (∀ M3, M3 = jup I1 m 2 ((I1 m 2) + 1) → (nxt T (qs T 300 (f + 1)) ≠ 39 → (1 : Int) = 0 ∧ M3 m 4 = 1 ∧ M3 m 5 = qs T 300 (f + 1) ∧ C0 m I M3) ∧ (nxt T (qs T 300 (f + 1)) = 39 → (1 : Int) = 1 ∧ M3 m 2 = qs T 300 (f + 1) + 1 ∧ M3 m 4 = I m 4 ∧ M3 m 5 = I m 5 ∧ C0 m I M3))) ∧ (¬ (cnx I1 m) = 39 → jRI E jB kX5_fail [VR m, VI 1, VI (I1 m 2)] G I1 (fun r6 I5 => (0 ≤ r6 ∧ r6 ≤ 1) ∧ (nxt T (qs T 300 (f + 1)) ≠ 39 → r6 = 0 ∧ I5 m 4 = 1 ∧ I5 m 5 = qs T 300 (f + 1) ∧ C0 m I I5) ∧ (nxt T (qs T 300 (f + 1)) = 39 → r6 = 1 ∧ I5 m 2 = qs T 300 (f + 1) + 1 ∧ I5 m 4 = I m 4 ∧ I5 m 5 = I m 5 ∧ C0 m I I5)))) := by
    intro g I1 hd hqs hc e4 e5
    have h9 := hd.2.2.2.2.1
    have hg := hd.2.2.2.2.2.1
    rw [hqs, hd.nx, h9]
    refine ⟨hd.pre, fun q => ⟨⟨by omega, by omega⟩, fun M3 e3 => ⟨fun n => absurd q n, fun _ => ⟨rfl, jr_eq e3, by rw [jr_nj e3 (by omega)]; exact e4, by rw [jr_nj e3 (by omega)]; exact e5, hc.trans (C0.up e3 (by omega))⟩⟩⟩, fun q => (cl_fail hm).mono (fun r I' _ _ k => ⟨by omega, fun _ => ⟨k.1, k.2.1, k.2.2.1, hc.trans k.2.2.2⟩, fun n => absurd n q⟩)⟩
  have loop : ∀ (d : Nat) (g : Int) (I1 : jM), CD m δ I1 T g → T.length ≤ g + d → qs T 300 (f + 1) = qs T d g → C0 m I I1 → I1 m 4 = I m 4 → I1 m 5 = I m 5 → jOI E jB kX5_readQuote 10 [VR m] G I1 (fun x I' => (nxt T (qs T 300 (f + 1)) ≠ 39 → x = 0 ∧ I' m 4 = 1 ∧ I' m 5 = qs T 300 (f + 1) ∧ C0 m I I') ∧ (nxt T (qs T 300 (f + 1)) = 39 → x = 1 ∧ I' m 2 = qs T 300 (f + 1) + 1 ∧ I' m 4 = I m 4 ∧ I' m 5 = I m 5 ∧ C0 m I I')) := by
    intro d
    induction d with
    | zero =>
      intro g I1 hd hgd hqs hc e4 e5
      have h9 := hd.2.2.2.2.1
      have h1 := hd.2.1
      exact st_X5_readQuote_10 hm (fun _ => ⟨fun _ => fin g I1 hd hqs hc e4 e5, fun q => by omega⟩)
    | succ d ih =>
      intro g I1 hd hgd hqs hc e4 e5
      have h9 := hd.2.2.2.2.1
      have h1 := hd.2.1
      have hg := hd.2.2.2.2.2.1
      have hn := hd.nx
      have en : ¬ inQ (nxt T g) → qs T 300 (f + 1) = g := fun n => by rw [hqs]; exact qs_e n
      refine st_X5_readQuote_10 hm (fun _ => ⟨fun q => fin g I1 hd (en (fun c => ?_)) hc e4 e5, fun q => ⟨hd.pre, fun q1 => fin g I1 hd (en (fun c => ?_)) hc e4 e5, fun q1 => ⟨hd.pre, fun q2 => fin g I1 hd (en (fun c => ?_)) hc e4 e5, fun q2 => ⟨hd.pre, fun q3 => fin g I1 hd (en (fun c => ?_)) hc e4 e5, fun q3 => ?_⟩⟩⟩⟩)
      · have := nxt_lt (T := T) (f := g) (by have := c.1; omega)
        omega
      · rw [hn] at q1; have := c.1; omega
      · rw [hn] at q2; have := c.1; omega
      · rw [hn] at q3; exact c.2 q3
      · rw [hn] at q1 q2 q3
        rw [h9]
        exact ⟨⟨by omega, by omega⟩, fun M5 e5' => ih (g + 1) M5 (hd.mv e5' (by omega) (by omega)) (by omega) (by rw [hqs]; exact qs_s ⟨⟨by omega, by omega⟩, q3⟩) (hc.trans (C0.up e5' (by omega))) (by rw [jr_nj e5' (by omega)]; exact e4) (by rw [jr_nj e5' (by omega)]; exact e5)⟩
  refine en_X5_readQuote hm (fun _ => ?_)
  rw [h.2.2.2.2.1]
  exact ⟨⟨by omega, by omega⟩, fun M1 e1 => loop 300 (f + 1) M1 (h.mv e1 (by omega) (by omega)) (by omega) rfl (C0.up e1 (by omega)) (jr_nj e1 (by omega)) (jr_nj e1 (by omega))⟩
theorem cl_readName (hm : WX5 G m) (h : CD m δ I T f) (hl : f < T.length) : jRI E jB kX5_readName [VR m] G I (fun x I' => (¬ nmd (nxt T (f + 1)) → x = -1 ∧ I' m 4 = 1 ∧ I' m 5 = f + 1 ∧ C0 m I I') ∧ (nmd (nxt T (f + 1)) → x = nso (nxt T f) * 4 + nxt T (f + 1) - 97 ∧ I' m 2 = f + 2 ∧ I' m 4 = I m 4 ∧ I' m 5 = I m 5 ∧ C0 m I I')) := by
  have h300 := h.2.2.1
  have f0 := h.2.2.2.2.2.1.1
  have hn := h.nx
  have nb : 0 ≤ nso (nxt T f) ∧ nso (nxt T f) ≤ 3 := by unfold nso; split <;> (try split) <;> omega
  refine en_X5_readName hm (fun _ => ?_)
  rw [h.2.2.2.2.1, hn]
  refine ⟨h.pre, ⟨by omega, by omega⟩, fun M4 e4 => ?_⟩
  have hd := h.mv e4 (by omega) (by omega)
  have wr : ¬ nmd (nxt T (f + 1)) → jRI E jB kX5_fail [VR m, VI 1, VI (f + 1)] G M4 (fun r9 I' => (¬ nmd (nxt T (f + 1)) → (-1 : Int) = -1 ∧ I' m 4 = 1 ∧ I' m 5 = f + 1 ∧ C0 m I I') ∧ (nmd (nxt T (f + 1)) → (-1 : Int) = nso (nxt T f) * 4 + nxt T (f + 1) - 97 ∧ I' m 2 = f + 2 ∧ I' m 4 = I m 4 ∧ I' m 5 = I m 5 ∧ C0 m I I')) := fun n => (cl_fail hm).mono (fun r I' _ _ k => ⟨fun _ => ⟨rfl, k.2.1, k.2.2.1, (C0.up e4 (by omega)).trans k.2.2.2⟩, fun c => absurd c n⟩)
  rw [hd.nx]
  unfold nmd at wr ⊢
  refine ⟨hd.pre, fun q => wr (by omega), fun q => ⟨fun q1 => ⟨⟨by omega, by omega⟩, fun M11 e11 => ⟨⟨by omega, by omega⟩, fun n => absurd ⟨by omega, by omega⟩ n, fun _ => ⟨rfl, ?_, ?_, ?_, (C0.up e4 (by omega)).trans (C0.up e11 (by omega))⟩⟩⟩, fun q1 => wr (by omega)⟩⟩
  · rw [jr_eq e11]; omega
  · rw [jr_nj e11 (by omega), jr_nj e4 (by omega)]
  · rw [jr_nj e11 (by omega), jr_nj e4 (by omega)]
theorem cl_isOneToken (hm : WX5 G m) (h : CD m δ I T f) {a b : Int} (a0 : 0 ≤ a) (ab : a ≤ b) (b1 : b ≤ T.length) (hp : ∀ k, a ≤ k → k < b → 32 ≤ tp T k ∧ tp T k ≤ 126) : jRI E jB kX5_isOneToken [VR m, VI a, VI b] G I (fun x I' => (isTok T a b → x = 1) ∧ (¬ isTok T a b → x = 0) ∧ I' = I) := by
  have h300 := h.2.2.1
  have h1 := h.2.1
  have sr := srt_range (tp T a)
  have loop : srt (tp T a) ≠ 2 → ∀ (d : Nat) (k : Int), a ≤ k → k + d = b → a < b → (∀ j, a ≤ j → j < k → srt (tp T j) = srt (tp T a)) → jOI E jB kX5_isOneToken 50 [VR m, VI a, VI b, VI (told (srt (tp T a))), VI k] G I (fun x I' => (isTok T a b → x = 1) ∧ (¬ isTok T a b → x = 0) ∧ I' = I) := by
    intro h2 d
    induction d with
    | zero =>
      intro k k0 k1 hab hk
      have ht : isTok T a b := ⟨hab, fun j j0 j1 => ⟨h2, hk j (by omega) (by omega)⟩⟩
      exact st_X5_isOneToken_50 hm (fun _ _ _ _ _ => ⟨fun _ => ⟨fun _ => rfl, fun n => absurd ht n, rfl⟩, fun q => by omega⟩)
    | succ d ih =>
      intro k k0 k1 hab hk
      refine st_X5_isOneToken_50 hm (fun _ _ _ _ _ => ⟨fun q => by omega, fun _ => ⟨⟨by omega, by omega⟩, ?_⟩⟩)
      rw [h.src (by omega) (by omega) (hp k k0 (by omega))]
      refine fun _ => ⟨fun q => ⟨⟨by omega, by omega⟩, ih (k + 1) (by omega) (by omega) hab (fun j j0 j1 => ?_)⟩, fun q => ⟨fun t => ?_, fun _ => rfl, rfl⟩⟩
      · by_cases e : j = k
        · rw [e]; exact told_inj (srt_range _) sr q
        · exact hk j j0 (by omega)
      · by_cases e : k = a
        · exact absurd (by rw [e]) q
        · exact absurd (by rw [(t.2 k (by omega) (by omega)).2]) q
  refine en_X5_isOneToken hm (fun _ _ _ => ⟨fun q => by omega, fun _ => ⟨fun q => ⟨fun t => by have := t.1; omega, fun _ => rfl, rfl⟩, fun q => ⟨fun _ => ⟨⟨by omega, by omega⟩, ?_⟩, fun q => by omega⟩⟩⟩)
  rw [h.src (by omega) (by omega) (hp a (by omega) (by omega))]
  refine fun _ => ⟨fun q1 => loop (fun n => q1 ((told_3 sr).mpr n)) (b - a).toNat a (by omega) (by omega) (by omega) (fun j j0 j1 => by omega), fun q1 => ⟨⟨by omega, by omega⟩, fun q2 => ⟨fun t => ?_, fun _ => rfl, rfl⟩, fun q2 => ⟨fun _ => rfl, fun n => absurd ⟨by omega, fun k k0 k1 => by omega⟩ n, rfl⟩⟩⟩
  exact absurd ((told_3 sr).mp q1) (t.2 (a + 1) (by omega) (by omega)).1
theorem cl_elementNamed (hδ : WX6 G δ) {r nm : Int} {n : Nat} (hr : 0 ≤ r ∧ r < 6) (hn : n ≤ 6) (h3 : I (δ + 3) r = n) : jRI E jB kX6_elementNamed [VR δ, VI r, VI nm] G I (fun x I' => I' = I ∧ ((x = -1 ∧ ∀ e : Nat, e < n → I (δ + 7) (6 * r + e) ≠ nm) ∨ ∃ e : Nat, e < n ∧ x = e ∧ I (δ + 7) (6 * r + e) = nm ∧ ∀ e' : Nat, e' < e → I (δ + 7) (6 * r + e') ≠ nm)) := by
  have loop : ∀ (d k : Nat), k + d = n → (∀ e : Nat, e < k → I (δ + 7) (6 * r + e) ≠ nm) → jOI E jB kX6_elementNamed 14 [VR δ, VI r, VI nm, VI (k : Int)] G I (fun x I' => I' = I ∧ ((x = -1 ∧ ∀ e : Nat, e < n → I (δ + 7) (6 * r + e) ≠ nm) ∨ ∃ e : Nat, e < n ∧ x = e ∧ I (δ + 7) (6 * r + e) = nm ∧ ∀ e' : Nat, e' < e → I (δ + 7) (6 * r + e') ≠ nm)) := by
    intro d
    induction d with
    | zero =>
      intro k hk hl
      exact st_X6_elementNamed_14 hδ (fun _ _ _ _ => ⟨hr, fun _ => ⟨rfl, Or.inl ⟨rfl, fun e he => hl e (by omega)⟩⟩, fun q => by rw [h3] at q; omega⟩)
    | succ d ih =>
      intro k hk hl
      have ei : r * 6 + (k : Int) = 6 * r + k := by omega
      refine st_X6_elementNamed_14 hδ (fun _ _ _ _ => ⟨hr, fun q => by rw [h3] at q; omega, fun _ => ⟨fun q => by omega, fun _ => ⟨⟨by omega, by omega⟩, fun q => ⟨⟨by omega, by omega⟩, ih (k + 1) (by omega) (fun e he => ?_)⟩, fun q => ⟨rfl, Or.inr ⟨k, by omega, rfl, by rw [← ei]; exact q, hl⟩⟩⟩⟩⟩)
      by_cases e' : e = k
      · rw [e', ← ei]; exact q
      · exact hl e (by omega)
  exact en_X6_elementNamed hδ (fun _ _ _ => ⟨fun q => by omega, fun _ => ⟨fun _ => loop n 0 (by omega) (fun e he => absurd he (Nat.not_lt_zero e)), fun q => by omega⟩⟩)
end CA
