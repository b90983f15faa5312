/-! ===== the reference reads rules: what comes of it ===== -/
def QX (m : Nat) (I I' : jM) : Prop := ∀ a j, a ≠ m + 21 → (a ≠ m ∨ (j ≠ 28 ∧ j ≠ 29 ∧ j ≠ 31 ∧ j ≠ 32)) → I' a j = I a j
def QF (m : Nat) (I I' : jM) : Prop := QX m I I' ∧ I' m 28 = I m 28 ∧ I' m 31 = I m 31 ∧ I' m 32 = I m 32
def RD (m : Nat) (I : jM) (T : List Int) (f : Int) : Prop := I m 30 = T.length ∧ T.length ≤ 300 ∧ (∀ i : Nat, i < T.length → I (m + 20) i = T.getD i 0) ∧ I m 29 = f ∧ 0 ≤ f ∧ f ≤ T.length
def RS {α : Type} (m : Nat) (I I' : jM) (x : Int) (r : Except (Int × Int) (α × Int)) (o : Int) (S' : α → Int → Int) : Prop := (∀ p, r = .error p → x = 0 ∧ I' m 31 = p.1 ∧ I' m 32 = p.2 ∧ QX m I I') ∧ ∀ a, r = .ok a → x = 1 ∧ I' m 29 = a.2 - o ∧ I' (m + 21) = S' a.1 ∧ QF m I I'
def tr3 (S : Int → Int) (x : Int) (a : Int × Int × Int) : Int → Int := fun k => if k = x then a.1 else if k = x + 1 then a.2.1 else if k = x + 2 then a.2.2 else S k
section RA
variable {E : jE} {G : jG} {m : Nat} {I M : jM} {T : List Int} {f g : Int}
theorem QX.rfl {I : jM} : QX m I I := fun _ _ _ _ => Eq.refl _
theorem QX.trans {I I' I'' : jM} (h : QX m I I') (h' : QX m I' I'') : QX m I I'' := fun a j ha hb => (h' a j ha hb).trans (h a j ha hb)
theorem QX.up {j v : Int} (e : M = jup I m j v) (hj : j = 28 ∨ j = 29 ∨ j = 31 ∨ j = 32) : QX m I M := fun a k _ hb => by
  by_cases q : a = m
  · exact jr_nj e (by omega)
  · exact jr_na e q
theorem QX.row {j v : Int} (e : M = jup I (m + 21) j v) : QX m I M := fun a k ha _ => jr_na e ha
theorem QF.rfl {I : jM} : QF m I I := ⟨QX.rfl, Eq.refl _, Eq.refl _, Eq.refl _⟩
theorem QF.trans {I I' I'' : jM} (h : QF m I I') (h' : QF m I' I'') : QF m I I'' := ⟨h.1.trans h'.1, h'.2.1.trans h.2.1, h'.2.2.1.trans h.2.2.1, h'.2.2.2.trans h.2.2.2⟩
theorem QF.up {v : Int} (e : M = jup I m 29 v) : QF m I M := ⟨QX.up e (by omega), jr_nj e (by omega), jr_nj e (by omega), jr_nj e (by omega)⟩
theorem QF.row {j v : Int} (e : M = jup I (m + 21) j v) : QF m I M := ⟨QX.row e, jr_na e (by omega), jr_na e (by omega), jr_na e (by omega)⟩
theorem RD.nx (h : RD m I T f) : rnx I m = nxt T f := by
  obtain ⟨h1, h2, h3, h4, h5, h6⟩ := h
  unfold rnx nxt tp
  rw [h4, h1]
  by_cases q : f < T.length
  · rw [if_pos q, if_pos q]
    have := h3 f.toNat (by omega)
    rw [show ((f.toNat : Nat) : Int) = f by omega] at this
    exact this
  · rw [if_neg q, if_neg q]
theorem RD.qx {I' : jM} (h : RD m I T f) (hw : QX m I I') (h9 : I' m 29 = g) (g0 : 0 ≤ g) (g1 : g ≤ T.length) : RD m I' T g := by
  obtain ⟨h1, h2, h3, h4, h5, h6⟩ := h
  exact ⟨by rw [hw _ _ (by omega) (by omega)]; exact h1, h2, fun i hi => by rw [hw _ _ (by omega) (by omega)]; exact h3 i hi, h9, g0, g1⟩
theorem RD.mv (h : RD m I T f) (e : M = jup I m 29 g) (g0 : 0 ≤ g) (g1 : g ≤ T.length) : RD m M T g := h.qx (QX.up e (by omega)) (jr_eq e) g0 g1
theorem RD.pre (h : RD m I T f) : 0 ≤ I m 29 ∧ I m 30 ≤ 300 := by
  obtain ⟨h1, h2, h3, h4, h5, h6⟩ := h
  omega
theorem RD.tp (h : RD m I T f) {k : Int} (k0 : 0 ≤ k) (k1 : k < T.length) : I (m + 20) k = tp T k := by
  have := h.2.2.1 k.toNat (by omega)
  rw [show ((k.toNat : Nat) : Int) = k by omega] at this
  exact this
theorem RS.er {α : Type} {x o : Int} {I' : jM} {r : Except (Int × Int) (α × Int)} {S' : α → Int → Int} {p : Int × Int} (e : r = .error p) (h : x = 0 ∧ I' m 31 = p.1 ∧ I' m 32 = p.2 ∧ QX m I I') : RS m I I' x r o S' := ⟨fun p' e' => (by rw [e] at e'; injection e' with e'; rw [← e']; exact h), fun a e' => (by rw [e] at e'; cases e')⟩
theorem RS.okk {α : Type} {x o : Int} {I' : jM} {r : Except (Int × Int) (α × Int)} {S' : α → Int → Int} {a : α × Int} (e : r = .ok a) (h : x = 1 ∧ I' m 29 = a.2 - o ∧ I' (m + 21) = S' a.1 ∧ QF m I I') : RS m I I' x r o S' := ⟨fun p' e' => (by rw [e] at e'; cases e'), fun a' e' => by rw [e] at e'; injection e' with e'; rw [← e']; exact h⟩
theorem ref_isWrong (hm : WX10 G m) {k p : Int} : jRI E (jA m) kX10_isWrong [VR m, VI k, VI p] G I (fun x I' => x = 0 ∧ I' m 31 = k ∧ I' m 32 = p ∧ QX m I I') := by
  refine en_X10_isWrong hm (fun _ _ _ M1 e1 M2 e2 => ⟨rfl, ?_, jr_eq e2, (QX.up e1 (by omega)).trans (QX.up e2 (by omega))⟩)
  rw [jr_nj e2 (by omega), jr_eq e1]
theorem ref_come3 (hm : WX10 G m) {x s n b : Int} (hx : 0 ≤ x ∧ x + 2 < 240) : jRV E (jA m) kX10_come [VR m, VI x, VI s, VI n, VI b] G I (fun I' => I' (m + 21) = tr3 (I (m + 21)) x (s, n, b) ∧ QF m I I' ∧ I' m 29 = I m 29) := by
  refine en_X10_come hm (fun _ _ _ _ _ => ⟨⟨by omega, by omega⟩, fun M2 e2 => ⟨⟨by omega, by omega⟩, fun M4 e4 => ⟨⟨by omega, by omega⟩, fun M6 e6 => ⟨?_, ((QF.row e2).trans (QF.row e4)).trans (QF.row e6), ?_⟩⟩⟩⟩)
  · funext k
    rw [jup_at e6, jup_at e4, jup_at e2]
    unfold tr3
    by_cases q : k = x
    · rw [if_neg (by omega), if_neg (by omega), if_pos q, if_pos q]
    · rw [if_neg q, if_neg q]
      by_cases q1 : k = x + 1
      · rw [if_neg (by omega), if_pos q1, if_pos q1]
      · rw [if_neg q1, if_neg q1]
  · rw [jr_na e6 (by omega), jr_na e4 (by omega), jr_na e2 (by omega)]
theorem ref_isToken (hm : WX10 G m) (h : RD m I T f) {b e : Int} (b0 : 0 ≤ b) (be : b ≤ e) (e1 : e ≤ T.length) : jRI E (jA m) kX10_isToken [VR m, VI b, VI e] G I (fun x I' => (isTok T b e → x = 1) ∧ (¬ isTok T b e → x = 0) ∧ I' = I) := by
  have h3 := h.2.1
  have loop : ∀ (d : Nat) (k : Int), b < k → k + d = e → (∀ j, b < j → j < k → srt (tp T b) ≠ 2 ∧ srt (tp T j) = srt (tp T b)) → jOI E (jA m) kX10_isToken 22 [VR m, VI b, VI e, VI (srt (tp T b)), VI k] G I (fun x I' => (isTok T b e → x = 1) ∧ (¬ isTok T b e → x = 0) ∧ I' = I) := by
    intro d
    induction d with
    | zero =>
      intro k k0 k1 hk
      have ht : isTok T b e := ⟨by omega, fun j a c => hk j a (by omega)⟩
      exact st_X10_isToken_22 hm (fun _ _ _ _ _ => ⟨fun _ => ⟨fun _ => rfl, fun n => absurd ht n, rfl⟩, fun q => by omega⟩)
    | succ d ih =>
      intro k k0 k1 hk
      refine st_X10_isToken_22 hm (fun _ _ _ _ _ => ⟨fun q => by omega, fun _ => ⟨fun q => ⟨fun t => absurd q (t.2 k k0 (by omega)).1, fun _ => rfl, rfl⟩, fun q => ⟨⟨by omega, by omega⟩, ?_⟩⟩⟩)
      rw [h.tp (by omega) (by omega)]
      refine ⟨fun q1 => ⟨⟨by omega, by omega⟩, ih (k + 1) (by omega) (by omega) (fun j j0 j1 => ?_)⟩, fun q1 => ⟨fun t => absurd (t.2 k k0 (by omega)).2 q1, fun _ => rfl, rfl⟩⟩
      by_cases e : j = k
      · rw [e]; exact ⟨q, q1⟩
      · exact hk j j0 (by omega)
  refine en_X10_isToken hm (fun _ _ _ => ⟨fun q => ⟨⟨by omega, by omega⟩, ⟨by omega, by omega⟩, ?_⟩, fun q => ⟨fun t => by have := t.1; omega, fun _ => rfl, rfl⟩⟩)
  rw [h.tp (by omega) (by omega)]
  exact loop (e - b - 1).toNat (b + 1) (by omega) (by omega) (fun j j0 j1 => by omega)
theorem ref_isNamed (hm : WX10 G m) {els : List (Int × Int × Int)} {x s n : Int} (hx : 0 ≤ x ∧ x ≤ 200) (hl : els.length ≤ 6) (h2 : I (m + 21) (x + 2) = els.length) (he : ∀ e : Nat, e < els.length → I (m + 21) (x + 4 + 3 * e) = (els.getD e (0, 0, 0)).1 ∧ I (m + 21) (x + 4 + 3 * e + 1) = (els.getD e (0, 0, 0)).2.1) : jRI E (jA m) kX10_isNamed [VR m, VI x, VI s, VI n] G I (fun r I' => (named els s n → r = 1) ∧ (¬ named els s n → r = 0) ∧ I' = I) := by
  have loop : ∀ (d k : Nat), k + d = els.length → (∀ e : Nat, e < k → ¬ ((els.getD e (0, 0, 0)).1 = s ∧ (els.getD e (0, 0, 0)).2.1 = n)) → jOI E (jA m) kX10_isNamed 3 [VR m, VI x, VI s, VI n, VI (k : Int)] G I (fun r I' => (named els s n → r = 1) ∧ (¬ named els s n → r = 0) ∧ I' = I) := by
    intro d
    induction d with
    | zero =>
      intro k hk hn
      have ht : ¬ named els s n := fun ⟨e, e1, e2⟩ => hn e (by omega) e2
      exact st_X10_isNamed_3 hm (fun _ _ _ _ _ => ⟨⟨by omega, by omega⟩, fun _ => ⟨fun t => absurd t ht, fun _ => rfl, rfl⟩, fun q => by rw [h2] at q; omega⟩)
    | succ d ih =>
      intro k hk hn
      have g := he k (by omega)
      refine st_X10_isNamed_3 hm (fun _ _ _ _ _ => ⟨⟨by omega, by omega⟩, fun q => by rw [h2] at q; omega, fun _ => ⟨⟨by omega, by omega⟩, ?_⟩⟩)
      rw [g.1, g.2]
      have nx : ¬ ((els.getD k (0, 0, 0)).1 = s ∧ (els.getD k (0, 0, 0)).2.1 = n) → jIn ((k : Int) + 1) ∧ jOI E (jA m) kX10_isNamed 3 [VR m, VI x, VI s, VI n, VI ((k : Int) + 1)] G I (fun r I' => (named els s n → r = 1) ∧ (¬ named els s n → r = 0) ∧ I' = I) := fun q => ⟨⟨by omega, by omega⟩, ih (k + 1) (by omega) (fun e h0 => by
        by_cases q' : e = k
        · rw [q']; exact q
        · exact hn e (by omega))⟩
      refine ⟨fun q => nx (fun g => q g.1), fun q => ⟨⟨by omega, by omega⟩, fun q1 => nx (fun g => q1 g.2), fun q1 => ?_⟩⟩
      have ht : named els s n := ⟨k, by omega, q, q1⟩
      exact ⟨fun _ => rfl, fun t => absurd ht t, rfl⟩
  exact en_X10_isNamed hm (fun _ _ _ _ => loop els.length 0 (by omega) (fun e h => absurd h (Nat.not_lt_zero e)))
theorem ref_readBytes (hm : WX10 G m) (h : RD m I T f) (hq : nxt T f = 39) {x el : Int} (hx : 0 ≤ x ∧ x + 2 < 240) (he : el = 0 ∨ el = 1) : jRI E (jA m) kX10_readBytes [VR m, VI x, VI el] G I (fun r I' => RS m I I' r (pBy T f el) 0 (tr3 (I (m + 21)) x)) := by
  have hl : f < T.length := nxt_lt (by omega)
  have h300 := h.2.1
  have f0 := h.2.2.2.2.1
  have fin : ∀ (g : Int) (I1 : jM), RD m I1 T g → f + 1 ≤ g → qs T 300 (f + 1) = g → I1 (m + 21) = I (m + 21) → QF m I I1 → (0 ≤ I1 m 29 ∧ I1 m 30 ≤ 300) ∧ (((rnx I1 m) = 39 → ((el = 0 → jIn (f + 1) ∧ jIn (((I1 m 29) - f) - 1) ∧ jRV E (jA m) kX10_come [VR m, VI x, VI 4, VI (f + 1), VI (((I1 m 29) - f) - 1)] G I1 (fun I8 => jIn ((I8 m 29) + 1) ∧ (∀ M9, M9 = jup I8 m 29 ((I8 m 29) + 1) → RS m I M9 1 (pBy T f el) 0 (tr3 (I (m + 21)) x)))) ∧ (¬ el = 0 → jIn (f + 1) ∧ jRI E (jA m) kX10_isToken [VR m, VI (f + 1), VI (I1 m 29)] G I1 (fun r13 I12 => ((¬ r13 = 0 → jIn (f + 1) ∧ jIn (((I12 m 29) - f) - 1) ∧ jRV E (jA m) kX10_come [VR m, VI x, VI 4, VI (f + 1), VI (((I12 m 29) - f) - 1)] G I12 (fun I17 => jIn ((I17 m 29) + 1) ∧ (∀ M18, M18 = jup I17 m 29 ((I17 m 29) + 1) → RS m I M18 1 (pBy T f el) 0 (tr3 (I (m + 21)) x)))) ∧ (r13 = 0 → jRI E (jA m) kX10_isWrong [VR m, VI 6, VI f] G I12 (fun r21 I20 => (0 ≤ r21 ∧ r21 ≤ 1) ∧ RS m I I20 r21 (pBy T f el) 0 (tr3 (I (m + 21)) x)))))))) ∧ (¬ (rnx I1 m) = 39 → jRI E (jA m) kX10_isWrong [VR m, VI 1, VI (I1 m 29)] G I1 (fun r25 I24 => (0 ≤ r25 ∧ r25 ≤ 1) ∧ RS m I I24 r25 (pBy T f el) 0 (tr3 (I (m + 21)) x)))) := by
    intro g I1 hd hg hqs hr hf
    have h9 := hd.2.2.2.1
    have hg1 := hd.2.2.2.2.2
    have hn := hd.nx
    have okc : ¬ (el = 1 ∧ ¬ isTok T (f + 1) g) → nxt T g = 39 → jIn (f + 1) ∧ jIn ((g - f) - 1) ∧ jRV E (jA m) kX10_come [VR m, VI x, VI 4, VI (f + 1), VI ((g - f) - 1)] G I1 (fun I8 => jIn ((I8 m 29) + 1) ∧ (∀ M9, M9 = jup I8 m 29 ((I8 m 29) + 1) → RS m I M9 1 (pBy T f el) 0 (tr3 (I (m + 21)) x))) := by
      intro c1 c2
      refine ⟨⟨by omega, by omega⟩, ⟨by omega, by omega⟩, (ref_come3 hm hx).mono (fun I8 _ k => ?_)⟩
      obtain ⟨k1, k2, k3⟩ := k
      refine ⟨⟨by omega, by omega⟩, fun M9 e9 => RS.okk (a := ((4, f + 1, g - f - 1), g + 1)) ?_ ⟨rfl, ?_, ?_, (hf.trans k2).trans (QF.up e9)⟩⟩
      · unfold pBy
        rw [hqs, if_neg (fun n => n c2), if_neg c1]
      · rw [jr_eq e9]; show _ = g + 1 - 0; omega
      · funext k
        rw [jr_na e9 (by omega), k1, hr]
    rw [h9, hn]
    refine ⟨⟨by omega, by have := hd.pre; omega⟩, fun q => ⟨fun q1 => okc (fun n => by omega) q, fun q1 => ⟨⟨by omega, by omega⟩, (ref_isToken hm hd (by omega) hg hg1).mono (fun r I2 _ _ k => ?_)⟩⟩, fun q => ref_isWrong hm |>.mono (fun r I2 _ _ k => ⟨by omega, RS.er (p := (1, g)) ?_ ⟨k.1, k.2.1, k.2.2.1, hf.1.trans k.2.2.2⟩⟩)⟩
    · obtain ⟨k1, k2, k3⟩ := k
      subst k3
      rw [h9]
      by_cases t : isTok T (f + 1) g
      · exact ⟨fun _ => okc (fun n => n.2 t) q, fun z => by have := k1 t; omega⟩
      · refine ⟨fun z => absurd (k2 t) z, fun _ => ref_isWrong hm |>.mono (fun r I3 _ _ k => ⟨by omega, RS.er (p := (6, f)) ?_ ⟨k.1, k.2.1, k.2.2.1, hf.1.trans k.2.2.2⟩⟩)⟩
        unfold pBy
        rw [hqs, if_neg (fun n => n q), if_pos ⟨by omega, t⟩]
    · unfold pBy
      rw [hqs, if_pos q]
  have loop : ∀ (d : Nat) (g : Int) (I1 : jM), RD m I1 T g → f + 1 ≤ g → T.length ≤ g + d → qs T 300 (f + 1) = qs T d g → I1 (m + 21) = I (m + 21) → QF m I I1 → jOI E (jA m) kX10_readBytes 15 [VR m, VI x, VI el, VI f] G I1 (fun r I' => RS m I I' r (pBy T f el) 0 (tr3 (I (m + 21)) x)) := by
    intro d
    induction d with
    | zero =>
      intro g I1 hd hg hgd hqs hr hf
      have hn := hd.nx
      have hz : nxt T g = -1 := if_neg (by omega)
      refine st_X10_readBytes_15 hm (fun _ _ _ _ => ⟨hd.pre, fun q => fin g I1 hd hg hqs hr hf, fun q => ?_⟩)
      rw [hn, hz] at q
      omega
    | succ d ih =>
      intro g I1 hd hg hgd hqs hr hf
      have hn := hd.nx
      have h9 := hd.2.2.2.1
      refine st_X10_readBytes_15 hm (fun _ _ _ _ => ⟨hd.pre, fun q => fin g I1 hd hg ?_ hr hf, fun q => ⟨hd.pre, fun q1 => fin g I1 hd hg ?_ hr hf, fun q1 => ?_⟩⟩)
      · rw [hqs]
        rw [hn] at q
        exact qs_e (fun c => q c.1)
      · rw [hqs]
        rw [hn] at q1
        exact qs_e (fun c => c.2 q1)
      · rw [hn] at q q1
        have hgl : g < T.length := nxt_lt (by omega)
        rw [h9]
        exact ⟨⟨by omega, by omega⟩, fun M5 e5 => ih (g + 1) M5 (hd.mv e5 (by omega) (by omega)) (by omega) (by omega) (by rw [hqs]; exact qs_s ⟨q, q1⟩) (by funext k; rw [jr_na e5 (by omega), hr]) (hf.trans (QF.up e5))⟩
  refine en_X10_readBytes hm (fun _ _ _ => ?_)
  rw [h.2.2.2.1]
  exact ⟨⟨by omega, by omega⟩, fun M1 e1 => loop 300 (f + 1) M1 (h.mv e1 (by omega) (by omega)) (by omega) (by omega) rfl (by funext k; rw [jr_na e1 (by omega)]) (QF.up e1)⟩
theorem bgE_ne {c : Int} (h : bgE c) : c ≠ -1 := by
  rintro rfl
  rcases h with h | h | h
  · exact h (by decide)
  · omega
  · omega
theorem bgP_ne {c : Int} (h : bgP c) : c ≠ -1 := by
  rintro rfl
  rcases h with h | h | h | h | h
  · exact h (by decide)
  · omega
  · omega
  · omega
  · omega
theorem ref_readElement (hm : WX10 G m) (h : RD m I T f) (hb : bgE (nxt T f)) {x : Int} (hx : 0 ≤ x ∧ x + 2 < 240) : jRI E (jA m) kX10_readElement [VR m, VI x] G I (fun r I' => RS m I I' r (pEl T f) 0 (tr3 (I (m + 21)) x)) := by
  have hl : f < T.length := nxt_lt (bgE_ne hb)
  have hn := h.nx
  have h9 := h.2.2.2.1
  have f0 := h.2.2.2.2.1
  have h300 := h.2.1
  refine en_X10_readElement hm (fun _ _ => ?_)
  rw [hn, h9]
  refine ⟨⟨by omega, by have := h.pre; omega⟩, fun q => ⟨⟨by omega, by omega⟩, fun M3 e3 => ?_⟩, fun q => (ref_readBytes hm h q hx (Or.inr rfl)).mono (fun r I' hr _ k => ?_)⟩
  · have hd := h.mv e3 (by omega) (by omega)
    have hn3 := hd.nx
    have hr3 : M3 (m + 21) = I (m + 21) := by funext k; rw [jr_na e3 (by omega)]
    rw [hn3]
    refine ⟨fun q1 => ⟨hd.pre, fun q2 => ?_, fun q2 => (ref_isWrong hm).mono (fun r I' _ _ k => ⟨by omega, RS.er (p := (1, f + 1)) ?_ ⟨k.1, k.2.1, k.2.2.1, (QX.up e3 (by omega)).trans k.2.2.2⟩⟩)⟩, fun q1 => (ref_come3 hm hx).mono (fun I' _ k => RS.okk (a := ((3, 0, 0), f + 1)) ?_ ⟨rfl, ?_, ?_, (QF.up e3).trans k.2.1⟩)⟩
    · have hl2 : f + 1 < T.length := nxt_lt (by unfold nmd at q2; omega)
      have q2' := q2
      unfold nmd at q2'
      refine ⟨hd.pre, ⟨by omega, by omega⟩, (ref_come3 hm hx).mono (fun I' _ k => ?_)⟩
      have k9 : I' m 29 = f + 1 := by rw [k.2.2, jr_eq e3]
      rw [k9]
      refine ⟨⟨by omega, by omega⟩, fun M9 e9 => RS.okk (a := ((sby (nxt T f), nxt T (f + 1) - 97, 0), f + 2)) ?_ ⟨rfl, ?_, ?_, ((QF.up e3).trans k.2.1).trans (QF.up e9)⟩⟩
      · unfold pEl
        rw [if_neg q, if_neg q1, if_pos q2]
      · rw [jr_eq e9]; show _ = f + 2 - 0; omega
      · funext j
        rw [jr_na e9 (by omega), k.1, hr3]
    · unfold pEl
      rw [if_neg q, if_neg q1, if_neg q2]
    · unfold pEl
      rw [if_neg q, if_pos q1]
    · rw [k.2.2, jr_eq e3]; show _ = f + 1 - 0; omega
    · rw [k.1, hr3]
  · have ep : pEl T f = pBy T f 1 := by unfold pEl; rw [if_pos q]
    rw [ep]
    refine ⟨?_, k⟩
    cases e : pBy T f 1 with
    | error p => have := (k.1 p e).1; omega
    | ok a => have := (k.2 a e).1; omega
end RA
