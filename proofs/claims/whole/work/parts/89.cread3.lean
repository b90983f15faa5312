/-! ===== the class reads rules: elements ===== -/
def EC (δ : Nat) (r : Int) (els : List (Int × Int × Int)) (e : Nat) (I : jM) : Prop := I (δ + 6) (6 * r + e) = told (els.getD e (0, 0, 0)).1 ∧ I (δ + 7) (6 * r + e) = nmK (els.getD e (0, 0, 0)) ∧ ((els.getD e (0, 0, 0)).1 ≤ 2 → ∃ e0 : Nat, I (δ + 8) (6 * r + e) = e0 ∧ e0 ≤ e ∧ nmK (els.getD e0 (0, 0, 0)) = nmK (els.getD e (0, 0, 0)) ∧ ∀ e' : Nat, e' < e0 → nmK (els.getD e' (0, 0, 0)) ≠ nmK (els.getD e (0, 0, 0))) ∧ ((els.getD e (0, 0, 0)).1 = 3 → I (δ + 8) (6 * r + e) = e) ∧ ((els.getD e (0, 0, 0)).1 = 4 → I (δ + 8) (6 * r + e) = (els.getD e (0, 0, 0)).2.1 ∧ I (δ + 9) (6 * r + e) = (els.getD e (0, 0, 0)).2.1 + (els.getD e (0, 0, 0)).2.2)
def ME (δ : Nat) (r : Int) (els : List (Int × Int × Int)) (I : jM) : Prop := I (δ + 3) r = els.length ∧ ∀ e : Nat, e < els.length → EC δ r els e I
def FstK (els : List (Int × Int × Int)) (k : Int) (e : Nat) : Prop := e < els.length ∧ nmK (els.getD e (0, 0, 0)) = k ∧ ∀ e' : Nat, e' < e → nmK (els.getD e' (0, 0, 0)) ≠ k
def PC (δ : Nat) (r : Int) (els pts : List (Int × Int × Int)) (p : Nat) (I : jM) : Prop := I (δ + 10) (6 * r + p) = pkd (pts.getD p (0, 0, 0)).1 ∧ ((pts.getD p (0, 0, 0)).1 = 4 → I (δ + 11) (6 * r + p) = (pts.getD p (0, 0, 0)).2.1 ∧ I (δ + 12) (6 * r + p) = (pts.getD p (0, 0, 0)).2.1 + (pts.getD p (0, 0, 0)).2.2) ∧ ((pts.getD p (0, 0, 0)).1 ≠ 4 → ∃ e : Nat, I (δ + 11) (6 * r + p) = e ∧ FstK els (4 * told (pbase (pts.getD p (0, 0, 0)).1) + (pts.getD p (0, 0, 0)).2.1) e)
def MP (δ : Nat) (r : Int) (els pts : List (Int × Int × Int)) (I : jM) : Prop := I (δ + 4) r = pts.length ∧ ∀ p : Nat, p < pts.length → PC δ r els pts p I
def ESt (m δ : Nat) (cnt slot elem s nm fr : Int) (I M : jM) : Prop := M (δ + 6) = up (I (δ + 6)) slot s ∧ M (δ + 7) = up (I (δ + 7)) slot nm ∧ M (δ + 8) = up (I (δ + 8)) slot fr ∧ M (δ + 9) = up (I (δ + 9)) slot (I m 2 - 1) ∧ M (δ + 3) = up (I (δ + 3)) cnt (elem + 1) ∧ ∀ a, a ≠ δ + 3 → (a < δ + 6 ∨ δ + 9 < a) → M a = I a
def PSt (m δ : Nat) (cnt slot elem s fr : Int) (I M : jM) : Prop := M (δ + 10) = up (I (δ + 10)) slot s ∧ M (δ + 11) = up (I (δ + 11)) slot fr ∧ M (δ + 12) = up (I (δ + 12)) slot (I m 2 - 1) ∧ M (δ + 4) = up (I (δ + 4)) cnt (elem + 1) ∧ ∀ a, a ≠ δ + 4 → (a < δ + 10 ∨ δ + 12 < a) → M a = I a
section CB
variable {E : jE} {G : jG} {m δ : Nat} {I M : jM} {T : List Int} {f g cnt : Int} {els pts : List (Int × Int × Int)}
theorem nso_told {c : Int} (h : sby c ≠ -1) : nso c = told (sby c) := by
  rcases sby_ne h with rfl | rfl | rfl <;> decide
theorem told_012 {s : Int} (h : 0 ≤ s ∧ s ≤ 2) : told s = if s = 2 then 3 else s := by
  unfold told
  rw [if_neg (by omega)]
theorem nmK_iff {a : Int × Int × Int} (ha : WfE T a) {s n : Int} (hs : 0 ≤ s ∧ s ≤ 2) (hn : 0 ≤ n ∧ n ≤ 3) : nmK a = 4 * told s + n ↔ a.1 = s ∧ a.2.1 = n := by
  have hs' := told_012 hs
  unfold nmK
  by_cases q : a.1 ≤ 2
  · have h2 := ha.2.1 q
    have ha' := told_012 (s := a.1) ⟨ha.1.1, q⟩
    have h0 := ha.1.1
    rw [if_pos q]
    constructor
    · intro e
      by_cases c1 : a.1 = 2 <;> by_cases c2 : s = 2
      · rw [if_pos c1] at ha'; rw [if_pos c2] at hs'; omega
      · rw [if_pos c1] at ha'; rw [if_neg c2] at hs'; omega
      · rw [if_neg c1] at ha'; rw [if_pos c2] at hs'; omega
      · rw [if_neg c1] at ha'; rw [if_neg c2] at hs'; omega
    · rintro ⟨e1, e2⟩
      rw [e1, e2]
  · rw [if_neg q]
    have : 0 ≤ told s := by rw [hs']; split <;> omega
    constructor
    · intro e; omega
    · rintro ⟨e1, e2⟩; omega
theorem est_tree {slot elem s nm fr w : Int} (hδ : WX6 G δ) (hmd : δ + 13 ≤ m ∨ m < δ) (h3 : I m 3 = δ) (hc : I δ 1 = cnt) (hcn : 0 ≤ cnt ∧ cnt < 6) (hs : 0 ≤ slot ∧ slot < 36) (he : 0 ≤ elem ∧ elem ≤ 6) (h2 : 0 ≤ I m 2 ∧ I m 2 ≤ 300) (hw : w = δ) {q : Int → jM → Prop} (hq : ∀ M, ESt m δ cnt slot elem s nm fr I M → q 1 M) : (∃ b25 : Nat, w = (b25 : Int) ∧ WX6 G b25 ∧ ((0 : Int) ≤ slot ∧ (slot : Int) < 36) ∧ (∀ M29, M29 = jup I (b25 + 6) slot s → (∃ b30 : Nat, M29 m 3 = (b30 : Int) ∧ WX6 G b30 ∧ ((0 : Int) ≤ slot ∧ (slot : Int) < 36) ∧ (∀ M34, M34 = jup M29 (b30 + 7) slot nm → (∃ b35 : Nat, M34 m 3 = (b35 : Int) ∧ WX6 G b35 ∧ ((0 : Int) ≤ slot ∧ (slot : Int) < 36) ∧ (∀ M39, M39 = jup M34 (b35 + 8) slot fr → (∃ b40 : Nat, M39 m 3 = (b40 : Int) ∧ WX6 G b40 ∧ ((0 : Int) ≤ slot ∧ (slot : Int) < 36) ∧ jIn ((M39 m 2) - 1) ∧ (∀ M45, M45 = jup M39 (b40 + 9) slot ((M39 m 2) - 1) → (∃ b46 : Nat, M45 m 3 = (b46 : Int) ∧ WX6 G b46 ∧ (∃ b49 : Nat, M45 m 3 = (b49 : Int) ∧ WX6 G b49 ∧ ((0 : Int) ≤ (M45 b49 1) ∧ ((M45 b49 1) : Int) < 6) ∧ jIn (elem + 1) ∧ (∀ M54, M54 = jup M45 (b46 + 3) (M45 b49 1) (elem + 1) → q 1 M54))))))))))) := by
  refine ⟨δ, hw, hδ, hs, fun M29 e29 => ⟨δ, by rw [jr_na e29 (by omega)]; exact h3, hδ, hs, fun M34 e34 => ⟨δ, by rw [jr_na e34 (by omega), jr_na e29 (by omega)]; exact h3, hδ, hs, fun M39 e39 => ?_⟩⟩⟩
  have k3 : M39 m 3 = δ := by rw [jr_na e39 (by omega), jr_na e34 (by omega), jr_na e29 (by omega)]; exact h3
  have k2 : M39 m 2 = I m 2 := by rw [jr_na e39 (by omega), jr_na e34 (by omega), jr_na e29 (by omega)]
  rw [k2]
  refine ⟨δ, k3, hδ, hs, ⟨by omega, by omega⟩, fun M45 e45 => ?_⟩
  have k3' : M45 m 3 = δ := by rw [jr_na e45 (by omega)]; exact k3
  have k1 : M45 δ 1 = cnt := by rw [jr_na e45 (by omega), jr_na e39 (by omega), jr_na e34 (by omega), jr_na e29 (by omega)]; exact hc
  refine ⟨δ, k3', hδ, δ, k3', hδ, ?_⟩
  rw [k1]
  refine ⟨hcn, ⟨by omega, by omega⟩, fun M54 e54 => hq M54 ⟨?_, ?_, ?_, ?_, ?_, fun a a0 a1 => ?_⟩⟩
  · funext k; rw [jr_na e54 (by omega), jr_na e45 (by omega), jr_na e39 (by omega), jr_na e34 (by omega), jup_at e29]; rfl
  · funext k; rw [jr_na e54 (by omega), jr_na e45 (by omega), jr_na e39 (by omega), jup_at e34, jr_na e29 (by omega)]; rfl
  · funext k; rw [jr_na e54 (by omega), jr_na e45 (by omega), jup_at e39, jr_na e34 (by omega), jr_na e29 (by omega)]; rfl
  · funext k; rw [jr_na e54 (by omega), jup_at e45, jr_na e39 (by omega), jr_na e34 (by omega), jr_na e29 (by omega)]; rfl
  · funext k; rw [jup_at e54, jr_na e45 (by omega), jr_na e39 (by omega), jr_na e34 (by omega), jr_na e29 (by omega)]; rfl
  · funext k; rw [jr_na e54 (by omega), jr_na e45 (by omega), jr_na e39 (by omega), jr_na e34 (by omega), jr_na e29 (by omega)]
theorem ESt.cu {slot elem s nm fr : Int} (hmd : δ + 13 ≤ m ∨ m < δ) (h : ESt m δ cnt slot elem s nm fr I M) (hs : 6 * cnt ≤ slot) : CU m δ cnt I M := by
  obtain ⟨h6, h7, h8, h9, h3, ho⟩ := h
  intro a j _ hb
  by_cases q : a ≠ δ + 3 ∧ (a < δ + 6 ∨ δ + 9 < a)
  · rw [ho a q.1 q.2]
  · have : a = δ + 3 ∨ a = δ + 6 ∨ a = δ + 7 ∨ a = δ + 8 ∨ a = δ + 9 := by omega
    rcases this with e | e | e | e | e <;> subst e
    · rw [h3]; exact up_ne (by omega)
    · rw [h6]; exact up_ne (by omega)
    · rw [h7]; exact up_ne (by omega)
    · rw [h8]; exact up_ne (by omega)
    · rw [h9]; exact up_ne (by omega)
theorem ME.push {a : Int × Int × Int} {s nm fr : Int} (h : ME δ cnt els I) (hE : ESt m δ cnt (cnt * 6 + els.length) els.length s nm fr I M) (hs : s = told a.1) (hn : nm = nmK a) (h2 : a.1 ≤ 2 → ∃ e0 : Nat, fr = e0 ∧ FstK (els ++ [a]) (nmK a) e0) (h3 : a.1 = 3 → fr = els.length) (h4 : a.1 = 4 → fr = a.2.1 ∧ I m 2 - 1 = a.2.1 + a.2.2) : ME δ cnt (els ++ [a]) M := by
  obtain ⟨g6, g7, g8, g9, g3, _⟩ := hE
  have hl : (els ++ [a]).length = els.length + 1 := by rw [List.length_append]; rfl
  refine ⟨by rw [g3, up_eq, hl]; omega, fun e he => ?_⟩
  rw [hl] at he
  by_cases q : e = els.length
  · have ea : (els ++ [a]).getD e (0, 0, 0) = a := by rw [q, gd_right (Nat.le_refl _), Nat.sub_self]; rfl
    unfold EC
    rw [ea, g6, g7, g8, g9, show 6 * cnt + (e : Int) = cnt * 6 + els.length by omega, up_eq, up_eq, up_eq, up_eq]
    refine ⟨hs, hn, fun c => ?_, fun c => by rw [h3 c, q], h4⟩
    obtain ⟨e0, f1, f2, f3, f4⟩ := h2 c
    exact ⟨e0, f1, by omega, f3, f4⟩
  · have ea : (els ++ [a]).getD e (0, 0, 0) = els.getD e (0, 0, 0) := gd_left (by omega)
    have he' : e < els.length := by omega
    have ns : 6 * cnt + (e : Int) ≠ cnt * 6 + els.length := by omega
    have k := h.2 e he'
    unfold EC at k ⊢
    rw [ea, g6, g7, g8, g9, up_ne ns, up_ne ns, up_ne ns, up_ne ns]
    refine ⟨k.1, k.2.1, fun c => ?_, k.2.2.2⟩
    obtain ⟨e0, f1, f2, f3, f4⟩ := k.2.2.1 c
    exact ⟨e0, f1, f2, by rw [gd_left (Nat.lt_of_le_of_lt f2 he')]; exact f3, fun e' h' => by rw [gd_left (Nat.lt_trans h' (Nat.lt_of_le_of_lt f2 he'))]; exact f4 e' h'⟩
def RE (m δ : Nat) (cnt : Int) (els : List (Int × Int × Int)) (I I' : jM) (x : Int) (r : Except (Int × Int) ((Int × Int × Int) × Int)) : Prop := (∀ p, r = .error p → x = 0 ∧ I' m 4 = p.1 ∧ I' m 5 = p.2 ∧ CU m δ cnt I I') ∧ ∀ a, r = .ok a → x = 1 ∧ I' m 2 = a.2 ∧ ME δ cnt (els ++ [a.1]) I' ∧ CU m δ cnt I I' ∧ I' m 4 = I m 4 ∧ I' m 5 = I m 5 ∧ I' (δ + 2) = I (δ + 2) ∧ I' (δ + 4) = I (δ + 4)
theorem RE.er {x : Int} {I' : jM} {r : Except (Int × Int) ((Int × Int × Int) × Int)} {p : Int × Int} (e : r = .error p) (h : x = 0 ∧ I' m 4 = p.1 ∧ I' m 5 = p.2 ∧ CU m δ cnt I I') : RE m δ cnt els I I' x r := ⟨fun p' e' => (by rw [e] at e'; injection e' with e'; rw [← e']; exact h), fun a e' => (by rw [e] at e'; cases e')⟩
theorem RE.okk {x : Int} {I' : jM} {r : Except (Int × Int) ((Int × Int × Int) × Int)} {a : (Int × Int × Int) × Int} (e : r = .ok a) (h : x = 1 ∧ I' m 2 = a.2 ∧ ME δ cnt (els ++ [a.1]) I' ∧ CU m δ cnt I I' ∧ I' m 4 = I m 4 ∧ I' m 5 = I m 5 ∧ I' (δ + 2) = I (δ + 2) ∧ I' (δ + 4) = I (δ + 4)) : RE m δ cnt els I I' x r := ⟨fun p' e' => (by rw [e] at e'; cases e'), fun a' e' => (by rw [e] at e'; injection e' with e'; rw [← e']; exact h)⟩
theorem ME.c0 {r : Int} (h : ME δ r els I) (hmd : δ + 13 ≤ m ∨ m < δ) (hw : C0 m I M) : ME δ r els M := by
  have f : ∀ k : Nat, k < 13 → M (δ + k) = I (δ + k) := fun k hk => by funext j; exact hw _ _ (by omega)
  unfold ME EC at h ⊢
  rw [f 3 (by omega), f 6 (by omega), f 7 (by omega), f 8 (by omega), f 9 (by omega)]
  exact h
theorem cl_readElement (hm : WX5 G m) (hδ : WX6 G δ) (h : CD m δ I T f) (hb : bgE (nxt T f)) (hc : I δ 1 = cnt) (hcn : 0 ≤ cnt ∧ cnt < 6) (hM : ME δ cnt els I) (hl : els.length ≤ 5) : jRI E jB kX5_readElement [VR m, VI (nxt T f)] G I (fun x I' => RE m δ cnt els I I' x (pEl T f)) := by
  have hlf : f < T.length := nxt_lt (bgE_ne hb)
  have h2 := h.2.2.2.2.1
  have f0 := h.2.2.2.2.2.1.1
  have h3 := h.2.2.2.2.2.2
  have h300 := h.2.2.1
  have hmd := h.1.2.2
  have e3 := hM.1
  have hsl : 0 ≤ cnt * 6 + (els.length : Int) ∧ cnt * 6 + (els.length : Int) < 36 := by omega
  have hel : 0 ≤ (els.length : Int) ∧ (els.length : Int) ≤ 6 := by omega
  refine en_X5_readElement hm (fun _ _ => ⟨δ, h3, hδ, δ, h3, hδ, ?_⟩)
  rw [hc, e3]
  refine ⟨hcn, δ, h3, hδ, ?_⟩
  rw [hc, h2]
  refine ⟨⟨by omega, by omega⟩, fun q => ⟨fun q1 => ?_, fun q1 => ?_⟩, fun q => ?_⟩
  · -- a name
    have hs : sby (nxt T f) ≠ -1 := by
      rcases hb with hb | hb | hb
      · exact hb
      · exact absurd hb q1
      · exact absurd hb q
    have sb := sby_bd (nxt T f)
    have tb := told_012 (s := sby (nxt T f)) (by omega)
    have tb' : 0 ≤ told (sby (nxt T f)) := by rw [tb]; split <;> omega
    refine (cl_readName hm h hlf).mono (fun r13 I12 _ _ k => ?_)
    by_cases qn : nmd (nxt T (f + 1))
    · obtain ⟨k1, k2, k4, k5, kc⟩ := k.2 qn
      have qn' := qn
      unfold nmd at qn'
      have hl2 : f + 1 < T.length := nxt_lt (by omega)
      rw [nso_told hs] at k1
      have kn : r13 = nmK (sby (nxt T f), nxt T (f + 1) - 97, 0) := by
        unfold nmK
        rw [if_pos (by show sby (nxt T f) ≤ 2; omega)]
        show r13 = 4 * told (sby (nxt T f)) + (nxt T (f + 1) - 97)
        omega
      have c3 : I12 m 3 = δ := by rw [kc _ _ (by omega)]; exact h3
      have c1 : I12 δ 1 = cnt := by rw [kc _ _ (by omega)]; exact hc
      have hM2 := hM.c0 hmd kc
      refine ⟨fun _ => ⟨δ, c3, hδ, δ, c3, hδ, ?_⟩, fun z => by omega⟩
      rw [c1]
      have ep : pEl T f = .ok ((sby (nxt T f), nxt T (f + 1) - 97, 0), f + 2) := by
        unfold pEl
        rw [if_neg q, if_neg q1, if_pos qn]
      have fin : ∀ (I22 : jM) (fr : Int), I22 = I12 → (∃ e0 : Nat, fr = e0 ∧ FstK (els ++ [(sby (nxt T f), nxt T (f + 1) - 97, 0)]) (nmK (sby (nxt T f), nxt T (f + 1) - 97, 0)) e0) → ∀ M, ESt m δ cnt (cnt * 6 + els.length) els.length (nso (nxt T f)) r13 fr I22 M → RE m δ cnt els I M 1 (pEl T f) := by
        intro I22 fr e hfr M hE
        subst e
        have cu := hE.cu hmd (by omega)
        refine RE.okk ep ⟨rfl, ?_, ?_, (kc.cu).trans cu, ?_, ?_, ?_, ?_⟩
        · rw [hE.2.2.2.2.2 m (by omega) (by omega), k2]
        · exact hM2.push hE (nso_told hs) kn (fun _ => hfr) (fun c => absurd c (by show ¬ sby (nxt T f) = 3; omega)) (fun c => absurd c (by show ¬ sby (nxt T f) = 4; omega))
        · rw [hE.2.2.2.2.2 m (by omega) (by omega), k4]
        · rw [hE.2.2.2.2.2 m (by omega) (by omega), k5]
        · rw [hE.2.2.2.2.2 (δ + 2) (by omega) (by omega)]; funext j; exact kc _ _ (by omega)
        · rw [hE.2.2.2.2.2 (δ + 4) (by omega) (by omega)]; funext j; exact kc _ _ (by omega)
      have lst : ∀ e : Nat, e < els.length → (els ++ [((sby (nxt T f), nxt T (f + 1) - 97, 0) : Int × Int × Int)]).getD e (0, 0, 0) = els.getD e (0, 0, 0) := fun e he => gd_left he
      have lst' : (els ++ [((sby (nxt T f), nxt T (f + 1) - 97, 0) : Int × Int × Int)]).getD els.length (0, 0, 0) = (sby (nxt T f), nxt T (f + 1) - 97, 0) := by rw [gd_right (Nat.le_refl _), Nat.sub_self]; rfl
      have ln : (els ++ [((sby (nxt T f), nxt T (f + 1) - 97, 0) : Int × Int × Int)]).length = els.length + 1 := by rw [List.length_append]; rfl
      refine (cl_elementNamed hδ hcn (n := els.length) (by omega) hM2.1).mono (fun r23 I22 _ _ l => ?_)
      obtain ⟨l1, l2⟩ := l
      have e22 : I22 m 3 = δ := by rw [l1]; exact c3
      have e221 : I22 δ 1 = cnt := by rw [l1]; exact c1
      have e222 : 0 ≤ I22 m 2 ∧ I22 m 2 ≤ 300 := by rw [l1]; omega
      refine ⟨fun z => est_tree (q := fun x I' => RE m δ cnt els I I' x (pEl T f)) hδ hmd e22 e221 hcn hsl hel e222 e22 (fin I22 r23 l1 ?_), fun z => est_tree (q := fun x I' => RE m δ cnt els I I' x (pEl T f)) hδ hmd e22 e221 hcn hsl hel e222 e22 (fin I22 _ l1 ?_)⟩
      · rcases l2 with l2 | ⟨e, l3, l4, l5, l6⟩
        · omega
        · refine ⟨e, l4, by omega, ?_, fun e' h' => ?_⟩
          · rw [lst e l3, ← (hM2.2 e l3).2.1, l5, kn]
          · rw [lst e' (by omega), ← (hM2.2 e' (by omega)).2.1, ← kn]
            exact l6 e' h'
      · rcases l2 with l2 | ⟨e, l3, l4, l5, l6⟩
        · refine ⟨els.length, rfl, by omega, by rw [lst'], fun e' h' => ?_⟩
          rw [lst e' h', ← (hM2.2 e' h').2.1, ← kn]
          exact l2.2 e' h'
        · omega
    · obtain ⟨k1, k4, k5, kc⟩ := k.1 qn
      refine ⟨fun z => absurd k1 z, fun _ => RE.er (p := (1, f + 1)) ?_ ⟨rfl, k4, k5, kc.cu⟩⟩
      unfold pEl
      rw [if_neg q, if_neg q1, if_neg qn]
  · -- blanks
    refine ⟨⟨by omega, by omega⟩, fun M1 e1 => ?_⟩
    have kc : C0 m I M1 := C0.up e1 (by omega)
    refine est_tree (q := fun x I' => RE m δ cnt els I I' x (pEl T f)) hδ hmd (by rw [kc _ _ (by omega)]; exact h3) (by rw [kc _ _ (by omega)]; exact hc) hcn hsl hel (by rw [jr_eq e1]; omega) h3 (fun M hE => RE.okk (a := ((3, 0, 0), f + 1)) ?_ ⟨rfl, ?_, ?_, (kc.cu).trans (hE.cu hmd (by omega)), ?_, ?_, ?_, ?_⟩)
    · unfold pEl
      rw [if_neg q, if_pos q1]
    · rw [hE.2.2.2.2.2 m (by omega) (by omega), jr_eq e1]
    · exact (hM.c0 hmd kc).push hE rfl rfl (fun c => absurd c (by show ¬ (3 : Int) ≤ 2; omega)) (fun _ => rfl) (fun c => absurd c (by show ¬ (3 : Int) = 4; omega))
    · rw [hE.2.2.2.2.2 m (by omega) (by omega), jr_nj e1 (by omega)]
    · rw [hE.2.2.2.2.2 m (by omega) (by omega), jr_nj e1 (by omega)]
    · rw [hE.2.2.2.2.2 (δ + 2) (by omega) (by omega)]; funext j; exact kc _ _ (by omega)
    · rw [hE.2.2.2.2.2 (δ + 4) (by omega) (by omega)]; funext j; exact kc _ _ (by omega)
  · -- quoted bytes
    have b := qs_bd (T := T) 300 (f + 1)
    refine (cl_readQuote hm h q).mono (fun r I1 _ _ k => ?_)
    by_cases qz : nxt T (qs T 300 (f + 1)) = 39
    · obtain ⟨k1, k2, k4, k5, kc⟩ := k.2 qz
      have hz : qs T 300 (f + 1) < T.length := nxt_lt (by omega)
      have hd1 := h.c0 kc k2 (by omega) (by omega)
      rw [k2]
      refine ⟨fun _ => ⟨⟨by omega, by omega⟩, ⟨by omega, by omega⟩, ?_⟩, fun z => by omega⟩
      rw [show qs T 300 (f + 1) + 1 - 1 = qs T 300 (f + 1) by omega]
      refine (cl_isOneToken hm hd1 (by omega) b.1 (by omega) (fun j j0 j1 => ?_)).mono (fun r2 I2 _ _ l => ?_)
      · have := (b.2.2 j j0 j1).1
        rw [nxt_tp (by omega)] at this
        exact this
      · obtain ⟨l1, l2, l3⟩ := l
        subst l3
        by_cases t : isTok T (f + 1) (qs T 300 (f + 1))
        · refine ⟨fun _ => ⟨⟨by omega, by omega⟩, ?_⟩, fun z => by have := l1 t; omega⟩
          refine est_tree (q := fun x I' => RE m δ cnt els I I' x (pEl T f)) hδ hmd hd1.2.2.2.2.2.2 (by rw [kc _ _ (by omega)]; exact hc) hcn hsl hel (by rw [k2]; omega) hd1.2.2.2.2.2.2 (fun M hE => RE.okk (a := ((4, f + 1, qs T 300 (f + 1) - f - 1), qs T 300 (f + 1) + 1)) ?_ ⟨rfl, ?_, ?_, (kc.cu).trans (hE.cu hmd (by omega)), ?_, ?_, ?_, ?_⟩)
          · unfold pEl pBy
            rw [if_pos q, if_neg (fun n => n qz), if_neg (fun n => n.2 t)]
          · rw [hE.2.2.2.2.2 m (by omega) (by omega), k2]
          · exact (hM.c0 hmd kc).push hE rfl rfl (fun c => absurd c (by show ¬ (4 : Int) ≤ 2; omega)) (fun c => absurd c (by show ¬ (4 : Int) = 3; omega)) (fun _ => ⟨rfl, by rw [k2]; show qs T 300 (f + 1) + 1 - 1 = f + 1 + (qs T 300 (f + 1) - f - 1); omega⟩)
          · rw [hE.2.2.2.2.2 m (by omega) (by omega), k4]
          · rw [hE.2.2.2.2.2 m (by omega) (by omega), k5]
          · rw [hE.2.2.2.2.2 (δ + 2) (by omega) (by omega)]; funext j; exact kc _ _ (by omega)
          · rw [hE.2.2.2.2.2 (δ + 4) (by omega) (by omega)]; funext j; exact kc _ _ (by omega)
        · refine ⟨fun z => absurd (l2 t) z, fun _ => (cl_fail hm).mono (fun r3 I3 _ _ w => ⟨by omega, RE.er (p := (6, f)) ?_ ⟨w.1, w.2.1, w.2.2.1, (kc.cu).trans w.2.2.2.cu⟩⟩)⟩
          unfold pEl pBy
          rw [if_pos q, if_neg (fun n => n qz), if_pos ⟨rfl, t⟩]
    · obtain ⟨k1, k4, k5, kc⟩ := k.1 qz
      refine ⟨fun z => absurd k1 z, fun _ => RE.er (p := (1, qs T 300 (f + 1))) ?_ ⟨rfl, k4, k5, kc.cu⟩⟩
      unfold pEl pBy
      rw [if_pos q, if_pos qz]
end CB
