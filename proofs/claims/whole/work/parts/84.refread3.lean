/-! ===== the reference reads parts, rules, all ===== -/
section RB
variable {E : jE} {G : jG} {m : Nat} {I M : jM} {T : List Int} {f g : Int}
theorem pn_tree (hm : WX10 G m) {els : List (Int × Int × Int)} {x1 x2 c s : Int} (hx1 : 0 ≤ x1 ∧ x1 ≤ 200) (hx : 0 ≤ x2 ∧ x2 + 2 < 240) (hl : els.length ≤ 6) (hd : RD m M T g) (hg : g < T.length) (hs : s = sby (nxt T g)) (h2 : M (m + 21) (x1 + 2) = els.length) (he : ∀ e : Nat, e < els.length → M (m + 21) (x1 + 4 + 3 * e) = (els.getD e (0, 0, 0)).1 ∧ M (m + 21) (x1 + 4 + 3 * e + 1) = (els.getD e (0, 0, 0)).2.1) {q : Int → jM → Prop} (hq : ∀ x I', RS m M I' x (pPn T els c g) 0 (tr3 (M (m + 21)) x2) → q x I') : jIn (g + 1) ∧ (∀ M7, M7 = jup M m 29 (g + 1) → (0 ≤ M7 m 29 ∧ M7 m 30 ≤ 300) ∧ (((nmd (rnx M7 m)) → (0 ≤ M7 m 29 ∧ M7 m 30 ≤ 300) ∧ jIn ((rnx M7 m) - 97) ∧ jRI E (jA m) kX10_isNamed [VR m, VI x1, VI s, VI ((rnx M7 m) - 97)] G M7 (fun r16 I15 => ((¬ r16 = 0 → ((¬ c = 43 → ((¬ c = 45 → ((¬ c = 126 → jRV E (jA m) kX10_come [VR m, VI x2, VI s, VI ((rnx M7 m) - 97), VI 0] G I15 (fun I18 => jIn ((I18 m 29) + 1) ∧ (∀ M19, M19 = jup I18 m 29 ((I18 m 29) + 1) → q 1 M19))) ∧ (c = 126 → jRV E (jA m) kX10_come [VR m, VI x2, VI 7, VI ((rnx M7 m) - 97), VI 0] G I15 (fun I21 => jIn ((I21 m 29) + 1) ∧ (∀ M22, M22 = jup I21 m 29 ((I21 m 29) + 1) → q 1 M22))))) ∧ (c = 45 → jRV E (jA m) kX10_come [VR m, VI x2, VI 6, VI ((rnx M7 m) - 97), VI 0] G I15 (fun I24 => jIn ((I24 m 29) + 1) ∧ (∀ M25, M25 = jup I24 m 29 ((I24 m 29) + 1) → q 1 M25))))) ∧ (c = 43 → jRV E (jA m) kX10_come [VR m, VI x2, VI 5, VI ((rnx M7 m) - 97), VI 0] G I15 (fun I27 => jIn ((I27 m 29) + 1) ∧ (∀ M28, M28 = jup I27 m 29 ((I27 m 29) + 1) → q 1 M28))))) ∧ (r16 = 0 → jRI E (jA m) kX10_isWrong [VR m, VI 5, VI g] G I15 (fun r31 I30 => (0 ≤ r31 ∧ r31 ≤ 1) ∧ q r31 I30))))) ∧ (¬ (nmd (rnx M7 m)) → jRI E (jA m) kX10_isWrong [VR m, VI 1, VI (g + 1)] G M7 (fun r35 I34 => (0 ≤ r35 ∧ r35 ≤ 1) ∧ q r35 I34)))) := by
  have g0 := hd.2.2.2.2.1
  have h300 := hd.2.1
  refine ⟨⟨by omega, by omega⟩, fun M7 e7 => ?_⟩
  have hd7 := hd.mv e7 (by omega) (by omega)
  have hn7 := hd7.nx
  have r7 : M7 (m + 21) = M (m + 21) := by funext k; rw [jr_na e7 (by omega)]
  rw [hn7]
  refine ⟨hd7.pre, fun q1 => ?_, fun q1 => (ref_isWrong hm).mono (fun r I' _ _ k => ⟨by omega, hq _ _ (RS.er (p := (1, g + 1)) ?_ ⟨k.1, k.2.1, k.2.2.1, (QX.up e7 (by omega)).trans k.2.2.2⟩)⟩)⟩
  · have q1' := q1
    unfold nmd at q1'
    have hgl : g + 1 < T.length := nxt_lt (by omega)
    refine ⟨hd7.pre, ⟨by omega, by omega⟩, (ref_isNamed hm hx1 hl (by rw [r7]; exact h2) (fun e h => by rw [r7]; exact he e h)).mono (fun r I8 _ _ k => ?_)⟩
    obtain ⟨k1, k2, k3⟩ := k
    subst k3
    by_cases hn : named els s (nxt T (g + 1) - 97)
    · have hr := k1 hn
      have fin : ∀ s' : Int, s' = (if c = 43 then 5 else if c = 45 then 6 else if c = 126 then 7 else sby (nxt T g)) → jRV E (jA m) kX10_come [VR m, VI x2, VI s', VI (nxt T (g + 1) - 97), VI 0] G I8 (fun I18 => jIn ((I18 m 29) + 1) ∧ (∀ M19, M19 = jup I18 m 29 ((I18 m 29) + 1) → q 1 M19)) := by
        intro s' hs'
        refine (ref_come3 hm hx).mono (fun I' _ k => ?_)
        have k9 : I' m 29 = g + 1 := by rw [k.2.2, jr_eq e7]
        rw [k9]
        refine ⟨⟨by omega, by omega⟩, fun M9 e9 => hq _ _ (RS.okk (a := ((s', nxt T (g + 1) - 97, 0), g + 2)) ?_ ⟨rfl, ?_, ?_, ((QF.up e7).trans k.2.1).trans (QF.up e9)⟩)⟩
        · unfold pPn
          rw [if_neg (fun n => n q1), ← hs, if_neg (fun n => n hn), hs', hs]
        · rw [jr_eq e9]; show _ = g + 2 - 0; omega
        · funext j
          rw [jr_na e9 (by omega), k.1, r7]
      refine ⟨fun _ => ⟨fun c1 => ⟨fun c2 => ⟨fun c3 => fin _ ?_, fun c3 => fin _ ?_⟩, fun c2 => fin _ ?_⟩, fun c1 => fin _ ?_⟩, fun z => by omega⟩
      · rw [if_neg c1, if_neg c2, if_neg c3, hs]
      · rw [if_neg c1, if_neg c2, if_pos c3]
      · rw [if_neg c1, if_pos c2]
      · rw [if_pos c1]
    · refine ⟨fun z => absurd (k2 hn) z, fun _ => (ref_isWrong hm).mono (fun r I' _ _ k => ⟨by omega, hq _ _ (RS.er (p := (5, g)) ?_ ⟨k.1, k.2.1, k.2.2.1, (QX.up e7 (by omega)).trans k.2.2.2⟩)⟩)⟩
      unfold pPn
      rw [if_neg (fun n => n q1), ← hs, if_pos hn]
  · unfold pPn
    rw [if_pos q1]
theorem RS.pre {α : Type} {x o : Int} {I0 I' : jM} {r : Except (Int × Int) (α × Int)} {S' : α → Int → Int} (hf : QF m I0 I) (h : RS m I I' x r o S') : RS m I0 I' x r o S' := ⟨fun p e => by have := h.1 p e; exact ⟨this.1, this.2.1, this.2.2.1, hf.1.trans this.2.2.2⟩, fun a e => by have := h.2 a e; exact ⟨this.1, this.2.1, this.2.2.1, hf.trans this.2.2.2⟩⟩
theorem RS.b01 {α : Type} {x o : Int} {I' : jM} {r : Except (Int × Int) (α × Int)} {S' : α → Int → Int} (h : RS m I I' x r o S') : 0 ≤ x ∧ x ≤ 1 := by
  cases e : r with
  | error p => have := (h.1 p e).1; omega
  | ok a => have := (h.2 a e).1; omega
theorem ref_readPart (hm : WX10 G m) {els : List (Int × Int × Int)} {x1 x2 : Int} (hx1 : 0 ≤ x1 ∧ x1 ≤ 200) (hx : 0 ≤ x2 ∧ x2 + 2 < 240) (hl : els.length ≤ 6) (h : RD m I T f) (hb : bgP (nxt T f)) (h2 : I (m + 21) (x1 + 2) = els.length) (he : ∀ e : Nat, e < els.length → I (m + 21) (x1 + 4 + 3 * e) = (els.getD e (0, 0, 0)).1 ∧ I (m + 21) (x1 + 4 + 3 * e + 1) = (els.getD e (0, 0, 0)).2.1) : jRI E (jA m) kX10_readPart [VR m, VI x1, VI x2] G I (fun r I' => RS m I I' r (pPt T els f) 0 (tr3 (I (m + 21)) x2)) := by
  have hlf : f < T.length := nxt_lt (bgP_ne hb)
  have hn := h.nx
  have h9 := h.2.2.2.1
  have f0 := h.2.2.2.2.1
  have h300 := h.2.1
  refine en_X10_readPart hm (fun _ _ _ => ?_)
  rw [hn, h9]
  refine ⟨⟨by omega, by have := h.pre; omega⟩, fun q => ⟨fun q1 => ⟨⟨by omega, by have := h.pre; omega⟩, ?_⟩, fun q1 => ⟨⟨by omega, by omega⟩, fun M3 e3 => ?_⟩⟩, fun q => (ref_readBytes hm h q hx (Or.inl rfl)).mono (fun r I' hr _ k => ?_)⟩
  · refine pn_tree (c := nxt T f) (q := fun x I' => RS m I I' x (pPt T els f) 0 (tr3 (I (m + 21)) x2)) hm hx1 hx hl h hlf rfl h2 he (fun x I' k => ?_)
    have ep : pPt T els f = pPn T els (nxt T f) f := by unfold pPt; rw [if_neg q, if_pos q1]
    rw [ep]
    exact k
  · have hd := h.mv e3 (by omega) (by omega)
    have hn3 := hd.nx
    have hr3 : M3 (m + 21) = I (m + 21) := by funext k; rw [jr_na e3 (by omega)]
    rw [hn3]
    have go : sby (nxt T (f + 1)) = (if nxt T f = 126 then 0 else 1) → ∀ (x : Int) (I' : jM), RS m M3 I' x (pPn T els (nxt T f) (f + 1)) 0 (tr3 (M3 (m + 21)) x2) → RS m I I' x (pPt T els f) 0 (tr3 (I (m + 21)) x2) := by
      intro hs x I' k
      have ep : pPt T els f = pPn T els (nxt T f) (f + 1) := by unfold pPt; rw [if_neg q, if_neg (fun n => n q1), if_neg (fun n => n hs)]
      rw [ep]
      rw [hr3] at k
      exact k.pre (QF.up e3)
    have wr : sby (nxt T (f + 1)) ≠ (if nxt T f = 126 then 0 else 1) → jRI E (jA m) kX10_isWrong [VR m, VI 1, VI (f + 1)] G M3 (fun r35 I34 => (0 ≤ r35 ∧ r35 ≤ 1) ∧ RS m I I34 r35 (pPt T els f) 0 (tr3 (I (m + 21)) x2)) := by
      intro hs
      refine (ref_isWrong hm).mono (fun r I' _ _ k => ⟨by omega, RS.er (p := (1, f + 1)) ?_ ⟨k.1, k.2.1, k.2.2.1, (QX.up e3 (by omega)).trans k.2.2.2⟩⟩)
      unfold pPt
      rw [if_neg q, if_neg (fun n => n q1), if_pos hs]
    have hls : sby (nxt T (f + 1)) ≠ -1 → f + 1 < T.length := fun n => nxt_lt (fun z => n (by rw [z]; decide))
    refine ⟨hd.pre, fun c1 => ⟨fun c2 => ?_, fun c2 => wr (by rw [if_neg c1]; exact c2)⟩, fun c1 => ⟨fun c2 => ?_, fun c2 => wr (by rw [if_pos c1]; exact c2)⟩⟩
    · exact pn_tree hm hx1 hx hl hd (hls (by omega)) rfl (by rw [hr3]; exact h2) (fun e h => by rw [hr3]; exact he e h) (go (by rw [if_neg c1]; exact c2))
    · exact pn_tree hm hx1 hx hl hd (hls (by omega)) rfl (by rw [hr3]; exact h2) (fun e h => by rw [hr3]; exact he e h) (go (by rw [if_pos c1]; exact c2))
  · have ep : pPt T els f = pBy T f 0 := by unfold pPt; rw [if_pos q]
    rw [ep]
    exact ⟨k.b01, k⟩
end RB
/-- a rule as a row of numbers -/
def trp (l : List (Int × Int × Int)) (k : Int) : Int := if k % 3 = 0 then (l.getD (k / 3).toNat (0, 0, 0)).1 else if k % 3 = 1 then (l.getD (k / 3).toNat (0, 0, 0)).2.1 else (l.getD (k / 3).toNat (0, 0, 0)).2.2
def encR (R : rul) (w : Int) : Int := if w = 0 then R.1 else if w = 1 then 1 else if w = 2 then R.2.1.length else if w = 3 then R.2.2.length else if w < 22 then trp R.2.1 (w - 4) else trp R.2.2 (w - 22)
def rowS (S : Int → Int) (x : Int) (R : rul) : Int → Int := fun k => if x ≤ k ∧ k < x + 40 then encR R (k - x) else S k
theorem trp_l {l : List (Int × Int × Int)} {a : Int × Int × Int} {k : Int} (k0 : 0 ≤ k) (h : k < 3 * l.length) : trp (l ++ [a]) k = trp l k := by
  unfold trp
  rw [gd_left (by omega)]
theorem trp_0 {l : List (Int × Int × Int)} {a : Int × Int × Int} {k c : Int} (c0 : 0 ≤ c ∧ c < 3) (h : k = 3 * l.length + c) : trp (l ++ [a]) k = if c = 0 then a.1 else if c = 1 then a.2.1 else a.2.2 := by
  unfold trp
  rw [gd_right (by omega), show (k / 3).toNat - l.length = 0 by omega, show k % 3 = c by omega]
  rfl
theorem trp_o {l : List (Int × Int × Int)} {k : Int} (h : 3 * l.length ≤ k) : trp l k = 0 := by
  unfold trp
  rw [List.getD_eq_getElem?_getD, List.getElem?_eq_none (by omega)]
  show (if k % 3 = 0 then 0 else if k % 3 = 1 then 0 else 0) = (0 : Int)
  split
  · rfl
  · split <;> rfl
theorem trp_at {l : List (Int × Int × Int)} {e : Nat} : trp l (3 * e) = (l.getD e (0, 0, 0)).1 ∧ trp l (3 * e + 1) = (l.getD e (0, 0, 0)).2.1 ∧ trp l (3 * e + 2) = (l.getD e (0, 0, 0)).2.2 := by
  unfold trp
  refine ⟨?_, ?_, ?_⟩
  · rw [if_pos (by omega), show (3 * (e : Int) / 3).toNat = e by omega]
  · rw [if_neg (by omega), if_pos (by omega), show ((3 * (e : Int) + 1) / 3).toNat = e by omega]
  · rw [if_neg (by omega), if_neg (by omega), show ((3 * (e : Int) + 2) / 3).toNat = e by omega]
theorem trp_app {l : List (Int × Int × Int)} {a : Int × Int × Int} {k : Int} (k0 : 0 ≤ k) : trp (l ++ [a]) k = if k = 3 * l.length then a.1 else if k = 3 * l.length + 1 then a.2.1 else if k = 3 * l.length + 2 then a.2.2 else trp l k := by
  by_cases h : k < 3 * l.length
  · rw [trp_l k0 h, if_neg (by omega), if_neg (by omega), if_neg (by omega)]
  · by_cases q0 : k = 3 * l.length
    · rw [trp_0 (c := 0) (by omega) (by omega), if_pos q0]; rfl
    · rw [if_neg q0]
      by_cases q1 : k = 3 * l.length + 1
      · rw [trp_0 (c := 1) (by omega) (by omega), if_pos q1]; rfl
      · rw [if_neg q1]
        by_cases q2 : k = 3 * l.length + 2
        · rw [trp_0 (c := 2) (by omega) (by omega), if_pos q2]; rfl
        · rw [if_neg q2, trp_o (by rw [List.length_append]; simp; omega), trp_o (by omega)]
theorem rowE {S : Int → Int} {x v : Int} {els pts : List (Int × Int × Int)} {a : Int × Int × Int} (h : els.length ≤ 5) : up (tr3 (rowS S x (v, els, pts)) (x + 4 + 3 * els.length) a) (x + 2) (els.length + 1) = rowS S x (v, els ++ [a], pts) := by
  funext k
  unfold up tr3 rowS
  by_cases q : x ≤ k ∧ k < x + 40
  · have ea := trp_app (l := els) (a := a) (k := k - x - 4)
    rw [if_pos q, if_pos q]
    unfold encR
    dsimp only
    by_cases q2 : k = x + 2
    · rw [if_pos q2, if_neg (by omega), if_neg (by omega), if_pos (by omega)]
      simp
    · rw [if_neg q2]
      by_cases r0 : k - x = 0
      · rw [if_neg (by omega), if_neg (by omega), if_neg (by omega), if_pos r0, if_pos r0]
      · rw [if_neg r0, if_neg r0]
        by_cases r1 : k - x = 1
        · rw [if_neg (by omega), if_neg (by omega), if_neg (by omega), if_pos r1, if_pos r1]
        · rw [if_neg r1, if_neg r1, if_neg (by omega : ¬ k - x = 2), if_neg (by omega : ¬ k - x = 2)]
          by_cases r3 : k - x = 3
          · rw [if_neg (by omega), if_neg (by omega), if_neg (by omega), if_pos r3, if_pos r3]
          · rw [if_neg r3, if_neg r3]
            by_cases r4 : k - x < 22
            · rw [if_pos r4, if_pos r4, ea (by omega)]
              by_cases s0 : k = x + 4 + 3 * els.length
              · rw [if_pos s0, if_pos (by omega)]
              · rw [if_neg s0, if_neg (by omega : ¬ k - x - 4 = 3 * (els.length : Int))]
                by_cases s1 : k = x + 4 + 3 * els.length + 1
                · rw [if_pos s1, if_pos (by omega)]
                · rw [if_neg s1, if_neg (by omega : ¬ k - x - 4 = 3 * (els.length : Int) + 1)]
                  by_cases s2 : k = x + 4 + 3 * els.length + 2
                  · rw [if_pos s2, if_pos (by omega)]
                  · rw [if_neg s2, if_neg (by omega : ¬ k - x - 4 = 3 * (els.length : Int) + 2)]
            · rw [if_neg r4, if_neg r4, if_neg (by omega), if_neg (by omega), if_neg (by omega)]
  · rw [if_neg q, if_neg q, if_neg (by omega), if_neg (by omega), if_neg (by omega), if_neg (by omega)]
theorem rowP {S : Int → Int} {x v : Int} {els pts : List (Int × Int × Int)} {a : Int × Int × Int} (h : pts.length ≤ 5) : up (tr3 (rowS S x (v, els, pts)) (x + 22 + 3 * pts.length) a) (x + 3) (pts.length + 1) = rowS S x (v, els, pts ++ [a]) := by
  funext k
  unfold up tr3 rowS
  by_cases q : x ≤ k ∧ k < x + 40
  · have ea := trp_app (l := pts) (a := a) (k := k - x - 22)
    rw [if_pos q, if_pos q]
    unfold encR
    dsimp only
    by_cases q2 : k = x + 3
    · rw [if_pos q2, if_neg (by omega), if_neg (by omega), if_neg (by omega), if_pos (by omega)]
      simp
    · rw [if_neg q2]
      by_cases r4 : k - x < 22
      · rw [if_neg (by omega), if_neg (by omega), if_neg (by omega)]
        by_cases r0 : k - x = 0
        · rw [if_pos r0, if_pos r0]
        · rw [if_neg r0, if_neg r0]
          by_cases r1 : k - x = 1
          · rw [if_pos r1, if_pos r1]
          · rw [if_neg r1, if_neg r1]
            by_cases r2 : k - x = 2
            · rw [if_pos r2, if_pos r2]
            · rw [if_neg r2, if_neg r2, if_neg (by omega : ¬ k - x = 3), if_neg (by omega : ¬ k - x = 3), if_pos r4, if_pos r4]
      · have z : ∀ A1 A2 A3 A4 A5 : Int, (if k - x = 0 then A1 else if k - x = 1 then A2 else if k - x = 2 then A3 else if k - x = 3 then A4 else A5) = A5 := fun _ _ _ _ _ => by rw [if_neg (by omega), if_neg (by omega), if_neg (by omega), if_neg (by omega)]
        rw [z, z, if_neg r4, if_neg r4, ea (by omega)]
        by_cases s0 : k = x + 22 + 3 * pts.length
        · rw [if_pos s0, if_pos (by omega)]
        · rw [if_neg s0, if_neg (by omega : ¬ k - x - 22 = 3 * (pts.length : Int))]
          by_cases s1 : k = x + 22 + 3 * pts.length + 1
          · rw [if_pos s1, if_pos (by omega)]
          · rw [if_neg s1, if_neg (by omega : ¬ k - x - 22 = 3 * (pts.length : Int) + 1)]
            by_cases s2 : k = x + 22 + 3 * pts.length + 2
            · rw [if_pos s2, if_pos (by omega)]
            · rw [if_neg s2, if_neg (by omega : ¬ k - x - 22 = 3 * (pts.length : Int) + 2)]
  · rw [if_neg q, if_neg q, if_neg (by omega), if_neg (by omega), if_neg (by omega), if_neg (by omega)]
theorem row_els {S : Int → Int} {x v : Int} {els pts : List (Int × Int × Int)} (hl : els.length ≤ 6) : rowS S x (v, els, pts) (x + 2) = els.length ∧ ∀ e : Nat, e < els.length → rowS S x (v, els, pts) (x + 4 + 3 * e) = (els.getD e (0, 0, 0)).1 ∧ rowS S x (v, els, pts) (x + 4 + 3 * e + 1) = (els.getD e (0, 0, 0)).2.1 := by
  unfold rowS encR
  dsimp only
  refine ⟨?_, fun e h => ⟨?_, ?_⟩⟩
  · rw [if_pos (by omega), if_neg (by omega), if_neg (by omega), if_pos (by omega)]
  · rw [if_pos (by omega), if_neg (by omega), if_neg (by omega), if_neg (by omega), if_neg (by omega), if_pos (by omega), show x + 4 + 3 * (e : Int) - x - 4 = 3 * e by omega]
    exact trp_at.1
  · rw [if_pos (by omega), if_neg (by omega), if_neg (by omega), if_neg (by omega), if_neg (by omega), if_pos (by omega), show x + 4 + 3 * (e : Int) + 1 - x - 4 = 3 * e + 1 by omega]
    exact trp_at.2.1
theorem jup_up {I M : jM} {a : Nat} {j v : Int} (e : M = jup I a j v) : M a = up (I a) j v := by
  funext k
  exact jup_at e k
