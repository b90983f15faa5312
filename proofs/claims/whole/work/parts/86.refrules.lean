/-! ===== the reference: rules() ===== -/
def encA (rl : List rul) (k : Int) : Int := encR (rl.getD (k / 40).toNat (0, [], [])) (k % 40)
def ruB (B : Int → Int) (T : List Int) (rl : List rul) : Int → Int := fun j => if j = 4 then rl.length else if j = 7 then 0 else if 426 ≤ j ∧ j < 442 then 0 else if 514 ≤ j ∧ j < 754 then (if j - 514 < 40 * rl.length then encA rl (j - 514) else 0) else if 754 ≤ j ∧ j < 1054 then (if j - 754 < T.length then tp T (j - 754) else 0) else B j
section RD
variable {E : jE} {G : jG} {m : Nat} {I M : jM} {T : List Int} {f g : Int}
theorem encA_row {acc : List rul} {a : rul} {S : Int → Int} (hS : ∀ k : Int, 0 ≤ k → k < 40 * acc.length → S k = encA acc k) : ∀ k : Int, 0 ≤ k → k < 40 * ((acc ++ [a]).length : Int) → rowS S (40 * acc.length) a k = encA (acc ++ [a]) k := by
  intro k k0 k1
  rw [List.length_append] at k1
  simp only [List.length_cons, List.length_nil] at k1
  unfold rowS encA
  by_cases q : 40 * (acc.length : Int) ≤ k ∧ k < 40 * acc.length + 40
  · rw [if_pos q, gd_right (by omega), show (k / 40).toNat - acc.length = 0 by omega, show k % 40 = k - 40 * acc.length by omega]
    rfl
  · rw [if_neg q, gd_left (by omega), hS k k0 (by omega)]
    rfl
theorem ref_readAll (hm : WX10 G m) (h30 : I m 30 = T.length) (h300 : T.length ≤ 300) (ht : ∀ i : Nat, i < T.length → I (m + 20) i = T.getD i 0) : jRI E (jA m) kX10_readAll [VR m] G I (fun r I' => (∀ p, pAll T = .error p → r = 0 ∧ I' m 31 = p.1 ∧ I' m 32 = p.2) ∧ (∀ rl, pAll T = .ok rl → r = 1 ∧ I' m 28 = rl.length ∧ I' m 31 = 0 ∧ I' m 32 = -1 ∧ ∀ k : Int, 0 ≤ k → k < 40 * rl.length → I' (m + 21) k = encA rl k) ∧ QX m I I') := by
  have er : ∀ (p : Int × Int) (I' : jM), pAll T = .error p → I' m 31 = p.1 → I' m 32 = p.2 → QX m I I' → (∀ p, pAll T = .error p → (0 : Int) = 0 ∧ I' m 31 = p.1 ∧ I' m 32 = p.2) ∧ (∀ rl, pAll T = .ok rl → (0 : Int) = 1 ∧ I' m 28 = rl.length ∧ I' m 31 = 0 ∧ I' m 32 = -1 ∧ ∀ k : Int, 0 ≤ k → k < 40 * rl.length → I' (m + 21) k = encA rl k) ∧ QX m I I' := by
    intro p I' e a b c
    refine ⟨fun p' e' => ?_, fun rl e' => ?_, c⟩
    · rw [e] at e'; injection e' with e'; rw [← e']; exact ⟨rfl, a, b⟩
    · rw [e] at e'; cases e'
  have ok : ∀ (rl : List rul) (I' : jM), pAll T = .ok rl → I' m 28 = rl.length → I' m 31 = 0 → I' m 32 = -1 → (∀ k : Int, 0 ≤ k → k < 40 * (rl.length : Int) → I' (m + 21) k = encA rl k) → QX m I I' → (∀ p, pAll T = .error p → (1 : Int) = 0 ∧ I' m 31 = p.1 ∧ I' m 32 = p.2) ∧ (∀ rl, pAll T = .ok rl → (1 : Int) = 1 ∧ I' m 28 = rl.length ∧ I' m 31 = 0 ∧ I' m 32 = -1 ∧ ∀ k : Int, 0 ≤ k → k < 40 * rl.length → I' (m + 21) k = encA rl k) ∧ QX m I I' := by
    intro rl I' e a b b' b'' c
    refine ⟨fun p' e' => ?_, fun rl' e' => ?_, c⟩
    · rw [e] at e'; cases e'
    · rw [e] at e'; injection e' with e'; rw [← e']; exact ⟨rfl, a, b, b', b''⟩
  have loop : ∀ (d : Nat) (acc : List rul) (g : Int) (I1 : jM), acc.length + d = 7 → acc.length ≤ 6 → RD m I1 T g → I1 m 28 = acc.length → I1 m 31 = 0 → I1 m 32 = -1 → (∀ k : Int, 0 ≤ k → k < 40 * (acc.length : Int) → I1 (m + 21) k = encA acc k) → QX m I I1 → pAll T = pRls T d acc g → jOI E (jA m) kX10_readAll 31 [VR m, VI 1] G I1 (fun r I' => (∀ p, pAll T = .error p → r = 0 ∧ I' m 31 = p.1 ∧ I' m 32 = p.2) ∧ (∀ rl, pAll T = .ok rl → r = 1 ∧ I' m 28 = rl.length ∧ I' m 31 = 0 ∧ I' m 32 = -1 ∧ ∀ k : Int, 0 ≤ k → k < 40 * rl.length → I' (m + 21) k = encA rl k) ∧ QX m I I') := by
    intro d
    induction d with
    | zero => intro acc g I1 hc h6; omega
    | succ d ih =>
      intro acc g I1 hc h6 hd h28 h31 h32 hr hq hp
      have hp' : pAll T = (match pRl T acc.length g with
        | .error p => .error p
        | .ok a => if nxt T a.2 = 59 then pRls T d (acc ++ [a.1]) (a.2 + 1) else .ok (acc ++ [a.1])) := hp
      refine st_X10_readAll_31 hm (fun _ _ => ⟨fun z => by omega, fun _ => (ref_readRule hm (cnt := acc.length) (by omega) hd h28).mono (fun r I2 _ _ k => ?_)⟩)
      cases e : pRl T acc.length g with
      | error p =>
        simp only [e] at hp'
        obtain ⟨k1, k2, k3, k4⟩ := k.1 p e
        exact ⟨fun z => absurd k1 z, fun _ => er p I2 hp' k2 k3 (hq.trans k4)⟩
      | ok a =>
        simp only [e] at hp'
        obtain ⟨k1, k2, k3, k4, k5, k6, k7⟩ := k.2 a e
        obtain ⟨w1, w2, w3, w4, w5⟩ := pRl_ok hd.2.2.2.2.1 hd.2.2.2.2.2 e
        have g0 := hd.2.2.2.2.1
        have hd2 : RD m I2 T a.2 := hd.qx k7 k2 (by omega) w3
        have hrow : ∀ k : Int, 0 ≤ k → k < 40 * ((acc ++ [a.1]).length : Int) → I2 (m + 21) k = encA (acc ++ [a.1]) k := by
          rw [k4]
          exact encA_row hr
        have hl : (acc ++ [a.1]).length = acc.length + 1 := by rw [List.length_append]; rfl
        have h28' : I2 m 28 = (acc ++ [a.1]).length := by rw [k3, hl]; omega
        refine ⟨fun _ => ⟨hd2.pre, fun q => ?_, fun q => ?_⟩, fun z => by omega⟩
        · rw [hd2.nx] at q
          rw [if_neg q] at hp'
          exact st_X10_readAll_31 hm (fun _ _ => ⟨fun _ => ok _ I2 hp' h28' (by rw [k5]; exact h31) (by rw [k6]; exact h32) hrow (hq.trans k7), fun z => absurd rfl z⟩)
        · rw [hd2.nx] at q
          rw [if_pos q] at hp'
          have hgl : a.2 < T.length := nxt_lt (by omega)
          rw [k2]
          refine ⟨⟨by omega, by omega⟩, fun M6 e6 => ih (acc ++ [a.1]) (a.2 + 1) M6 (by omega) (by omega) (hd2.mv e6 (by omega) (by omega)) (by rw [jr_nj e6 (by omega)]; exact h28') (by rw [jr_nj e6 (by omega), k5]; exact h31) (by rw [jr_nj e6 (by omega), k6]; exact h32) (fun k k0 k1 => by rw [jr_na e6 (by omega)]; exact hrow k k0 k1) ((hq.trans k7).trans (QX.up e6 (by omega))) hp'⟩
  refine en_X10_readAll hm (fun _ M1 e1 M2 e2 M3 e3 M4 e4 => ?_)
  have q4 : QX m I M4 := (((QX.up e1 (by omega)).trans (QX.up e2 (by omega))).trans (QX.up e3 (by omega))).trans (QX.up e4 (by omega))
  have f28 : M4 m 28 = 0 := by rw [jr_nj e4 (by omega), jr_eq e3]
  have f31 : M4 m 31 = 0 := by rw [jr_nj e4 (by omega), jr_nj e3 (by omega), jr_nj e2 (by omega), jr_eq e1]
  have f32 : M4 m 32 = -1 := by rw [jr_nj e4 (by omega), jr_nj e3 (by omega), jr_eq e2]
  rw [h30]
  refine ⟨fun q => loop 7 [] 0 M4 rfl (by simp) ⟨by rw [q4 _ _ (by omega) (by omega)]; exact h30, h300, fun i hi => by rw [q4 _ _ (by omega) (by omega)]; exact ht i hi, jr_eq e4, by omega, by omega⟩ f28 f31 f32 (fun k k0 k1 => by simp at k1; omega) q4 ?_, fun q => ok [] M4 ?_ f28 f31 f32 (fun k k0 k1 => by simp at k1; omega) q4⟩
  · unfold pAll
    rw [if_neg (fun n => q (by rw [n]; rfl))]
  · unfold pAll
    rw [if_pos (List.length_eq_zero_iff.mp (by omega))]
variable {B B' : Int → Int} {H H' : List (Int → Int)} {fk fp c : Int}
theorem ref_rules (hm : WX10 G m) (h : RR m I B H B' H' T fk fp) : jRI E (jA m) kX10_rules [VR m] G I (fun x I' => (∀ p, pAll T = .error p → x = -1 ∧ RR m I' B H B' H' [] p.1 p.2) ∧ (∀ rl, pAll T = .ok rl → x = rl.length ∧ RR m I' (ruB B T rl) (pushH H B) B' H' [] 0 (-1))) := by
  have e26 := h.2.2.1.1
  have hl := h.2.2.1.2.1
  have ht := h.2.2.1.2.2
  refine en_X10_rules hm (fun _ M1 e1 M2 e2 => ?_)
  have h1 : RR m M1 B H B' H' T fk fp := by
    have w : ∀ a j, (a ≠ m ∨ j ≠ 30) → M1 a j = I a j := fun a j q => by
      by_cases z : a = m
      · exact jr_nj e1 (by omega)
      · exact jr_na e1 z
    refine h.wz (fun a j ha => w a j (by omega)) ?_
    have e : M1 (m + 1) = I (m + 1) := by funext j; exact w _ _ (by omega)
    rw [e]
    exact h.1
  have h2 := h1.untape e2
  have f30 : M2 m 30 = T.length := by rw [jr_nj e2 (by omega), jr_eq e1, e26]
  have ft : ∀ i : Nat, i < T.length → M2 (m + 20) i = T.getD i 0 := fun i hi => by rw [jr_na e2 (by omega), jr_na e1 (by omega)]; exact ht i hi
  refine (ref_readAll hm f30 hl ft).mono (fun r I3 _ _ k => ?_)
  obtain ⟨ke, ko, kq⟩ := k
  have rr3 : ∀ a b : Int, I3 m 31 = a → I3 m 32 = b → RR m I3 B H B' H' [] a b := by
    intro a b ha hb
    obtain ⟨g1, g2, g3, g4, g5⟩ := h2
    have s1 : I3 (m + 1) = M2 (m + 1) := by funext j; exact kq _ _ (by omega) (by omega)
    have s2 : I3 (m + 2) = M2 (m + 2) := by funext j; exact kq _ _ (by omega) (by omega)
    exact ⟨by rw [s1]; exact g1, by rw [s2]; exact g2, ⟨by rw [kq _ _ (by omega) (by omega)]; exact g3.1, g3.2.1, fun i hi => absurd hi (Nat.not_lt_zero i)⟩, ha, hb⟩
  cases e : pAll T with
  | error p =>
    obtain ⟨k1, k2, k3⟩ := ke p e
    exact ⟨fun z => absurd k1 z, fun _ => ⟨fun p' e' => by injection e' with e'; rw [← e']; exact ⟨rfl, rr3 _ _ k2 k3⟩, fun rl e' => by cases e'⟩⟩
  | ok rl =>
    obtain ⟨k1, k2, k3, k4, k5⟩ := ko rl e
    have h6 := (pAll_ok e).2
    have t3 : I3 m 30 = T.length := by rw [kq _ _ (by omega) (by omega)]; exact f30
    have tt3 : ∀ i : Nat, i < T.length → I3 (m + 20) i = T.getD i 0 := fun i hi => by rw [kq _ _ (by omega) (by omega)]; exact ft i hi
    have l135 : ∀ (d : Nat) (x : Int) (I1 : jM), 0 ≤ x → x + d = 16 → I1 m 28 = rl.length → RR m I1 (fun j => if j = 4 then rl.length else if j = 7 then 0 else if 426 ≤ j ∧ j < 426 + x then 0 else if 514 ≤ j ∧ j < 754 then (if j - 514 < 40 * rl.length then encA rl (j - 514) else 0) else if 754 ≤ j ∧ j < 1054 then (if j - 754 < T.length then tp T (j - 754) else 0) else B j) (pushH H B) B' H' [] 0 (-1) → jOI E (jA m) kX10_rules 135 [VR m, VI x] G I1 (fun x I' => (∀ p : Int × Int, Except.ok rl = Except.error (α := List rul) p → x = -1 ∧ RR m I' B H B' H' [] p.1 p.2) ∧ (∀ rl', Except.ok (ε := Int × Int) rl = .ok rl' → x = rl'.length ∧ RR m I' (ruB B T rl') (pushH H B) B' H' [] 0 (-1))) := by
      intro d
      induction d with
      | zero =>
        intro x I1 x0 x1 h28 hr
        refine st_X10_rules_135 hm (fun _ _ => ⟨fun _ => ⟨fun p e' => (by cases e'), fun rl' e' => ?_⟩, fun z => by omega⟩)
        injection e' with e'
        subst e'
        refine ⟨h28, ?_⟩
        rw [show (426 : Int) + x = 442 by omega] at hr
        exact hr
      | succ d ih =>
        intro x I1 x0 x1 h28 hr
        refine st_X10_rules_135 hm (fun _ _ => ⟨fun z => by omega, fun _ => ⟨⟨by omega, by omega⟩, fun M2 e2 => ⟨⟨by omega, by omega⟩, ih (x + 1) M2 (by omega) (by omega) (by rw [jr_na e2 (by omega)]; exact h28) ?_⟩⟩⟩)
        have g := hr.set e2 (by omega)
        refine Eq.mp ?_ g
        congr 1
        funext j
        unfold up
        dsimp only
        by_cases q : j = 426 + x
        · rw [if_pos q, if_neg (by omega), if_neg (by omega), if_pos (by omega)]
        · rw [if_neg q]
          by_cases q1 : 426 ≤ j ∧ j < 426 + x
          · rw [if_pos q1, if_pos (by omega : 426 ≤ j ∧ j < 426 + (x + 1))]
          · rw [if_neg q1, if_neg (by omega : ¬ (426 ≤ j ∧ j < 426 + (x + 1)))]
    have l92 : ∀ (d : Nat) (x : Int) (I1 : jM), 0 ≤ x → x + d = 300 → I1 m 28 = rl.length → I1 m 30 = T.length → (∀ i : Nat, i < T.length → I1 (m + 20) i = T.getD i 0) → RR m I1 (fun j => if j = 4 then rl.length else if j = 7 then 0 else if 514 ≤ j ∧ j < 754 then (if j - 514 < 40 * rl.length then encA rl (j - 514) else 0) else if 754 ≤ j ∧ j < 754 + x then (if j - 754 < T.length then tp T (j - 754) else 0) else B j) (pushH H B) B' H' [] 0 (-1) → jOI E (jA m) kX10_rules 92 [VR m, VI x] G I1 (fun x I' => (∀ p : Int × Int, Except.ok rl = Except.error (α := List rul) p → x = -1 ∧ RR m I' B H B' H' [] p.1 p.2) ∧ (∀ rl', Except.ok (ε := Int × Int) rl = .ok rl' → x = rl'.length ∧ RR m I' (ruB B T rl') (pushH H B) B' H' [] 0 (-1))) := by
      intro d
      induction d with
      | zero =>
        intro x I1 x0 x1 h28 h30 htp hr
        refine st_X10_rules_92 hm (fun _ _ => ⟨fun _ => l135 16 0 I1 (by omega) (by omega) h28 ?_, fun z => by omega⟩)
        refine Eq.mp ?_ hr
        congr 1
        funext j
        rw [if_neg (by omega : ¬ (426 ≤ j ∧ j < 426 + 0)), show (754 : Int) + x = 1054 by omega]
      | succ d ih =>
        intro x I1 x0 x1 h28 h30 htp hr
        have next : ∀ (M : jM) (v : Int), M = jup I1 (m + 1) (754 + x) v → v = (if x < T.length then tp T x else 0) → jIn (x + 1) ∧ jOI E (jA m) kX10_rules 92 [VR m, VI (x + 1)] G M (fun x I' => (∀ p : Int × Int, Except.ok rl = Except.error (α := List rul) p → x = -1 ∧ RR m I' B H B' H' [] p.1 p.2) ∧ (∀ rl', Except.ok (ε := Int × Int) rl = .ok rl' → x = rl'.length ∧ RR m I' (ruB B T rl') (pushH H B) B' H' [] 0 (-1))) := by
          intro M v e hv
          refine ⟨⟨by omega, by omega⟩, ih (x + 1) M (by omega) (by omega) (by rw [jr_na e (by omega)]; exact h28) (by rw [jr_na e (by omega)]; exact h30) (fun i hi => by rw [jr_na e (by omega)]; exact htp i hi) ?_⟩
          have g := hr.set e (by omega)
          refine Eq.mp ?_ g
          congr 1
          funext j
          unfold up
          dsimp only
          by_cases q : j = 754 + x
          · have ex : j - 754 = x := by omega
            rw [if_pos q, if_neg (by omega), if_neg (by omega), if_neg (by omega), if_pos (by omega : 754 ≤ j ∧ j < 754 + (x + 1)), hv, ex]
          · rw [if_neg q]
            by_cases q1 : 754 ≤ j ∧ j < 754 + x
            · rw [if_pos q1, if_pos (by omega : 754 ≤ j ∧ j < 754 + (x + 1))]
            · rw [if_neg q1, if_neg (by omega : ¬ (754 ≤ j ∧ j < 754 + (x + 1)))]
        refine st_X10_rules_92 hm (fun _ _ => ⟨fun z => by omega, fun _ => ?_⟩)
        rw [h30]
        refine ⟨fun q => ⟨⟨by omega, by omega⟩, fun M2 e2 => next M2 _ e2 (by rw [if_neg (by omega)])⟩, fun q => ⟨⟨by omega, by omega⟩, ⟨by omega, by omega⟩, fun M6 e6 => next M6 _ e6 ?_⟩⟩
        rw [if_pos (by omega)]
        have := htp x.toNat (by omega)
        rw [show ((x.toNat : Nat) : Int) = x by omega] at this
        exact this
    have l46 : ∀ (d : Nat) (x : Int) (I1 : jM), 0 ≤ x → x + d = 240 → I1 m 28 = rl.length → I1 m 30 = T.length → (∀ i : Nat, i < T.length → I1 (m + 20) i = T.getD i 0) → (∀ k : Int, 0 ≤ k → k < 40 * (rl.length : Int) → I1 (m + 21) k = encA rl k) → RR m I1 (fun j => if j = 4 then rl.length else if j = 7 then 0 else if 514 ≤ j ∧ j < 514 + x then (if j - 514 < 40 * rl.length then encA rl (j - 514) else 0) else B j) (pushH H B) B' H' [] 0 (-1) → jOI E (jA m) kX10_rules 46 [VR m, VI x] G I1 (fun x I' => (∀ p : Int × Int, Except.ok rl = Except.error (α := List rul) p → x = -1 ∧ RR m I' B H B' H' [] p.1 p.2) ∧ (∀ rl', Except.ok (ε := Int × Int) rl = .ok rl' → x = rl'.length ∧ RR m I' (ruB B T rl') (pushH H B) B' H' [] 0 (-1))) := by
      intro d
      induction d with
      | zero =>
        intro x I1 x0 x1 h28 h30 htp hrow hr
        refine st_X10_rules_46 hm (fun _ _ => ⟨fun _ => l92 300 0 I1 (by omega) (by omega) h28 h30 htp ?_, fun z => by omega⟩)
        refine Eq.mp ?_ hr
        congr 1
        funext j
        rw [if_neg (by omega : ¬ (754 ≤ j ∧ j < 754 + 0)), show (514 : Int) + x = 754 by omega]
      | succ d ih =>
        intro x I1 x0 x1 h28 h30 htp hrow hr
        have next : ∀ (M : jM) (v : Int), M = jup I1 (m + 1) (514 + x) v → v = (if x < 40 * rl.length then encA rl x else 0) → jIn (x + 1) ∧ jOI E (jA m) kX10_rules 46 [VR m, VI (x + 1)] G M (fun x I' => (∀ p : Int × Int, Except.ok rl = Except.error (α := List rul) p → x = -1 ∧ RR m I' B H B' H' [] p.1 p.2) ∧ (∀ rl', Except.ok (ε := Int × Int) rl = .ok rl' → x = rl'.length ∧ RR m I' (ruB B T rl') (pushH H B) B' H' [] 0 (-1))) := by
          intro M v e hv
          refine ⟨⟨by omega, by omega⟩, ih (x + 1) M (by omega) (by omega) (by rw [jr_na e (by omega)]; exact h28) (by rw [jr_na e (by omega)]; exact h30) (fun i hi => by rw [jr_na e (by omega)]; exact htp i hi) (fun k k0 k1 => by rw [jr_na e (by omega)]; exact hrow k k0 k1) ?_⟩
          have g := hr.set e (by omega)
          refine Eq.mp ?_ g
          congr 1
          funext j
          unfold up
          dsimp only
          by_cases q : j = 514 + x
          · have ex : j - 514 = x := by omega
            rw [if_pos q, if_neg (by omega), if_neg (by omega), if_pos (by omega : 514 ≤ j ∧ j < 514 + (x + 1)), hv, ex]
          · rw [if_neg q]
            by_cases q1 : 514 ≤ j ∧ j < 514 + x
            · rw [if_pos q1, if_pos (by omega : 514 ≤ j ∧ j < 514 + (x + 1))]
            · rw [if_neg q1, if_neg (by omega : ¬ (514 ≤ j ∧ j < 514 + (x + 1)))]
        refine st_X10_rules_46 hm (fun _ _ => ⟨fun z => by omega, fun _ => ?_⟩)
        rw [h28]
        refine ⟨⟨by omega, by omega⟩, fun q => ⟨⟨by omega, by omega⟩, fun M2 e2 => next M2 _ e2 (by rw [if_neg (by omega)])⟩, fun q => ⟨⟨by omega, by omega⟩, ⟨by omega, by omega⟩, fun M6 e6 => next M6 _ e6 ?_⟩⟩
        rw [if_pos (by omega)]
        exact hrow x x0 (by omega)
    refine ⟨fun _ => (sp_keepR hm (rr3 0 (-1) k3 k4)).mono (fun I6 _ g => ?_), fun z => by omega⟩
    obtain ⟨g1, g2⟩ := g
    intro M8 e8 M10 e10
    have s : ∀ a j, a ≠ m + 1 → M10 a j = I3 a j := fun a j ha => by rw [jr_na e10 ha, jr_na e8 ha, g2 a j ha]
    have gg := (g1.set e8 (by omega)).set e10 (by omega)
    have e28 : I6 m 28 = rl.length := by rw [g2 _ _ (by omega)]; exact k2
    rw [e28] at gg
    refine l46 240 0 M10 (by omega) (by omega) (by rw [s _ _ (by omega)]; exact k2) (by rw [s _ _ (by omega)]; exact t3) (fun i hi => by rw [s _ _ (by omega)]; exact tt3 i hi) (fun k k0 k1' => by rw [s _ _ (by omega)]; exact k5 k k0 k1') ?_
    refine Eq.mp ?_ gg
    congr 1
    funext j
    unfold up
    rw [if_neg (by omega : ¬ (514 ≤ j ∧ j < 514 + 0))]
    by_cases q : j = 7
    · rw [if_pos q, if_neg (by omega), if_pos q]
    · rw [if_neg q, if_neg q]
end RD
