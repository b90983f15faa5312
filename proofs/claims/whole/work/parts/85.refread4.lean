/-! ===== the reference: rules() ===== -/
section RC
variable {E : jE} {G : jG} {m : Nat} {I M : jM} {T : List Int} {f g : Int}
theorem pEls_0 {acc : List (Int × Int × Int)} (hb : bgE (nxt T g)) : pEls T 0 acc g = .error (4, g) := by
  unfold pEls
  rw [if_pos hb]
theorem pEls_s {d : Nat} {acc : List (Int × Int × Int)} (hb : bgE (nxt T g)) : pEls T (d + 1) acc g = (match pEl T g with
      | .error p => .error p
      | .ok a => pEls T d (acc ++ [a.1]) a.2) := by
  conv => lhs; unfold pEls
  rw [if_pos hb]
  rfl
theorem pEls_e {d : Nat} {acc : List (Int × Int × Int)} (hb : ¬ bgE (nxt T g)) : pEls T d acc g = (if 0 < acc.length ∧ nxt T g = 62 then .ok (acc, g + 1) else .error (1, g)) := by
  unfold pEls
  rw [if_neg hb]
theorem pPts_0 {els acc : List (Int × Int × Int)} (hb : bgP (nxt T g)) : pPts T els 0 acc g = .error (4, g) := by
  unfold pPts
  rw [if_pos hb]
theorem pPts_s {d : Nat} {els acc : List (Int × Int × Int)} (hb : bgP (nxt T g)) : pPts T els (d + 1) acc g = (match pPt T els g with
      | .error p => .error p
      | .ok a => pPts T els d (acc ++ [a.1]) a.2) := by
  conv => lhs; unfold pPts
  rw [if_pos hb]
  rfl
theorem pPts_e {d : Nat} {els acc : List (Int × Int × Int)} (hb : ¬ bgP (nxt T g)) : pPts T els d acc g = (if nxt T g = -1 ∨ nxt T g = 59 then .ok (acc, g) else .error (1, g)) := by
  unfold pPts
  rw [if_neg hb]
theorem ref_readElements (hm : WX10 G m) {S : Int → Int} {x v : Int} (hx : 0 ≤ x ∧ x ≤ 200) (h : RD m I T f) (hS : I (m + 21) = rowS S x (v, [], [])) : jRI E (jA m) kX10_readElements [VR m, VI x] G I (fun r I' => RS m I I' r (pEls T 6 [] f) 1 (fun els => rowS S x (v, els, []))) := by
  have wrong : ∀ (k g : Int) (I1 : jM), pEls T 6 [] f = .error (k, g) → QF m I I1 → jRI E (jA m) kX10_isWrong [VR m, VI k, VI g] G I1 (fun r I' => r = 0 ∧ RS m I I' r (pEls T 6 [] f) 1 (fun els => rowS S x (v, els, []))) := fun k g I1 e hf => (ref_isWrong hm).mono (fun r I' _ _ w => ⟨w.1, RS.er e ⟨w.1, w.2.1, w.2.2.1, hf.1.trans w.2.2.2⟩⟩)
  have loop : ∀ (d : Nat) (acc : List (Int × Int × Int)) (g : Int) (I1 : jM), acc.length + d = 6 → RD m I1 T g → I1 (m + 21) = rowS S x (v, acc, []) → QF m I I1 → pEls T 6 [] f = pEls T d acc g → jOI E (jA m) kX10_readElements 2 [VR m, VI x, VI (acc.length : Int)] G I1 (fun r I' => RS m I I' r (pEls T 6 [] f) 1 (fun els => rowS S x (v, els, []))) := by
    have fin : ∀ (d : Nat) (acc : List (Int × Int × Int)) (g : Int) (I1 : jM), RD m I1 T g → I1 (m + 21) = rowS S x (v, acc, []) → QF m I I1 → pEls T 6 [] f = pEls T d acc g → ¬ bgE (nxt T g) → (((acc.length : Int) ≤ 0 → jRI E (jA m) kX10_isWrong [VR m, VI 1, VI (I1 m 29)] G I1 (fun r5 I4 => ((r5 = 0 → RS m I I4 0 (pEls T 6 [] f) 1 (fun els => rowS S x (v, els, []))) ∧ (¬ r5 = 0 → RS m I I4 1 (pEls T 6 [] f) 1 (fun els => rowS S x (v, els, [])))))) ∧ (¬ (acc.length : Int) ≤ 0 → (0 ≤ I1 m 29 ∧ I1 m 30 ≤ 300) ∧ (((rnx I1 m) = 62 → RS m I I1 1 (pEls T 6 [] f) 1 (fun els => rowS S x (v, els, []))) ∧ (¬ (rnx I1 m) = 62 → jRI E (jA m) kX10_isWrong [VR m, VI 1, VI (I1 m 29)] G I1 (fun r10 I9 => ((r10 = 0 → RS m I I9 0 (pEls T 6 [] f) 1 (fun els => rowS S x (v, els, []))) ∧ (¬ r10 = 0 → RS m I I9 1 (pEls T 6 [] f) 1 (fun els => rowS S x (v, els, []))))))))) := by
      intro d acc g I1 hd hr hf hp hb
      have h9 := hd.2.2.2.1
      rw [pEls_e hb] at hp
      have w : ¬ (0 < acc.length ∧ nxt T g = 62) → jRI E (jA m) kX10_isWrong [VR m, VI 1, VI g] G I1 (fun r10 I9 => ((r10 = 0 → RS m I I9 0 (pEls T 6 [] f) 1 (fun els => rowS S x (v, els, []))) ∧ (¬ r10 = 0 → RS m I I9 1 (pEls T 6 [] f) 1 (fun els => rowS S x (v, els, []))))) := fun n => (wrong 1 g I1 (by rw [hp, if_neg n]) hf).mono (fun r I' _ _ k => ⟨fun z => by rw [← z]; exact k.2, fun z => absurd k.1 z⟩)
      rw [h9, hd.nx]
      refine ⟨fun q => w (fun c => by omega), fun q => ⟨⟨by have := hd.pre; omega, by have := hd.pre; omega⟩, fun q1 => ?_, fun q1 => w (fun c => q1 c.2)⟩⟩
      exact RS.okk (a := (acc, g + 1)) (by rw [hp, if_pos ⟨by omega, q1⟩]) ⟨rfl, by rw [h9]; show g = g + 1 - 1; omega, hr, hf⟩
    intro d
    induction d with
    | zero =>
      intro acc g I1 hc hd hr hf hp
      refine st_X10_readElements_2 hm (fun _ _ _ => ⟨hd.pre, fun q => fin 0 acc g I1 hd hr hf hp (by rw [← hd.nx]; exact q), fun q => ⟨fun z => by omega, fun _ => ?_⟩⟩)
      rw [hd.nx] at q
      rw [pEls_0 q] at hp
      rw [hd.2.2.2.1]
      exact (wrong 4 g I1 hp hf).mono (fun r I' _ _ k => ⟨by omega, k.2⟩)
    | succ d ih =>
      intro acc g I1 hc hd hr hf hp
      refine st_X10_readElements_2 hm (fun _ _ _ => ⟨hd.pre, fun q => fin (d + 1) acc g I1 hd hr hf hp (by rw [← hd.nx]; exact q), fun q => ⟨fun _ => ⟨⟨by omega, by omega⟩, ?_⟩, fun z => by omega⟩⟩)
      rw [hd.nx] at q
      rw [pEls_s q] at hp
      refine (ref_readElement hm hd q (by omega)).mono (fun r I2 _ _ k => ?_)
      cases e : pEl T g with
      | error p =>
        simp only [e] at hp
        obtain ⟨k1, k2, k3, k4⟩ := k.1 p e
        exact ⟨fun z => absurd k1 z, fun _ => RS.er hp ⟨rfl, k2, k3, hf.1.trans k4⟩⟩
      | ok a =>
        simp only [e] at hp
        obtain ⟨k1, k2, k3, k4⟩ := k.2 a e
        obtain ⟨w1, w2, w3⟩ := pEl_ok hd.2.2.2.2.1 q e
        have g0 := hd.2.2.2.2.1
        refine ⟨fun _ => ⟨⟨by omega, by omega⟩, ⟨by omega, by omega⟩, fun M18 e18 => ?_⟩, fun z => by omega⟩
        have := ih (acc ++ [a.1]) a.2 M18 (by rw [List.length_append]; simp; omega) (hd.qx (k4.1.trans (QX.row e18)) (by rw [jr_na e18 (by omega), k2]; omega) (by omega) w3) (by rw [jup_up e18, k3, hr]; exact rowE (by omega)) ((hf.trans k4).trans (QF.row e18)) hp
        rw [List.length_append] at this
        exact this
  exact en_X10_readElements hm (fun _ _ => loop 6 [] f I rfl h hS QF.rfl rfl)
theorem ref_readParts (hm : WX10 G m) {S : Int → Int} {x v : Int} {els : List (Int × Int × Int)} (hl : els.length ≤ 6) (hx : 0 ≤ x ∧ x ≤ 200) (h : RD m I T f) (hS : I (m + 21) = rowS S x (v, els, [])) : jRI E (jA m) kX10_readParts [VR m, VI x] G I (fun r I' => RS m I I' r (pPts T els 6 [] f) 0 (fun pts => rowS S x (v, els, pts))) := by
  have wrong : ∀ (k g : Int) (I1 : jM), pPts T els 6 [] f = .error (k, g) → QF m I I1 → jRI E (jA m) kX10_isWrong [VR m, VI k, VI g] G I1 (fun r I' => r = 0 ∧ RS m I I' r (pPts T els 6 [] f) 0 (fun pts => rowS S x (v, els, pts))) := fun k g I1 e hf => (ref_isWrong hm).mono (fun r I' _ _ w => ⟨w.1, RS.er e ⟨w.1, w.2.1, w.2.2.1, hf.1.trans w.2.2.2⟩⟩)
  have loop : ∀ (d : Nat) (acc : List (Int × Int × Int)) (g : Int) (I1 : jM), acc.length + d = 6 → RD m I1 T g → I1 (m + 21) = rowS S x (v, els, acc) → QF m I I1 → pPts T els 6 [] f = pPts T els d acc g → jOI E (jA m) kX10_readParts 2 [VR m, VI x, VI (acc.length : Int)] G I1 (fun r I' => RS m I I' r (pPts T els 6 [] f) 0 (fun pts => rowS S x (v, els, pts))) := by
    have fin : ∀ (d : Nat) (acc : List (Int × Int × Int)) (g : Int) (I1 : jM), RD m I1 T g → I1 (m + 21) = rowS S x (v, els, acc) → QF m I I1 → pPts T els 6 [] f = pPts T els d acc g → ¬ bgP (nxt T g) → (0 ≤ I1 m 29 ∧ I1 m 30 ≤ 300) ∧ (((rnx I1 m) = (-1) → RS m I I1 1 (pPts T els 6 [] f) 0 (fun pts => rowS S x (v, els, pts))) ∧ (¬ (rnx I1 m) = (-1) → (0 ≤ I1 m 29 ∧ I1 m 30 ≤ 300) ∧ (((rnx I1 m) = 59 → RS m I I1 1 (pPts T els 6 [] f) 0 (fun pts => rowS S x (v, els, pts))) ∧ (¬ (rnx I1 m) = 59 → jRI E (jA m) kX10_isWrong [VR m, VI 1, VI (I1 m 29)] G I1 (fun r9 I8 => ((r9 = 0 → RS m I I8 0 (pPts T els 6 [] f) 0 (fun pts => rowS S x (v, els, pts))) ∧ (¬ r9 = 0 → RS m I I8 1 (pPts T els 6 [] f) 0 (fun pts => rowS S x (v, els, pts))))))))) := by
      intro d acc g I1 hd hr hf hp hb
      have h9 := hd.2.2.2.1
      rw [pPts_e hb] at hp
      have ok : (nxt T g = -1 ∨ nxt T g = 59) → RS m I I1 1 (pPts T els 6 [] f) 0 (fun pts => rowS S x (v, els, pts)) := fun c => RS.okk (a := (acc, g)) (by rw [hp, if_pos c]) ⟨rfl, by rw [h9]; show g = g - 0; omega, hr, hf⟩
      rw [h9, hd.nx]
      have pr : 0 ≤ g ∧ I1 m 30 ≤ 300 := ⟨by have := hd.pre; omega, by have := hd.pre; omega⟩
      exact ⟨pr, fun q => ok (Or.inl q), fun q => ⟨pr, fun q1 => ok (Or.inr q1), fun q1 => (wrong 1 g I1 (by rw [hp, if_neg (fun c => by omega)]) hf).mono (fun r I' _ _ k => ⟨fun z => by have k2 := k.2; rw [z] at k2; exact k2, fun z => absurd k.1 z⟩)⟩⟩
    intro d
    induction d with
    | zero =>
      intro acc g I1 hc hd hr hf hp
      refine st_X10_readParts_2 hm (fun _ _ _ => ⟨hd.pre, fun q => fin 0 acc g I1 hd hr hf hp (by rw [← hd.nx]; exact q), fun q => ⟨fun z => by omega, fun _ => ?_⟩⟩)
      rw [hd.nx] at q
      rw [pPts_0 q] at hp
      rw [hd.2.2.2.1]
      exact (wrong 4 g I1 hp hf).mono (fun r I' _ _ k => ⟨by omega, k.2⟩)
    | succ d ih =>
      intro acc g I1 hc hd hr hf hp
      refine st_X10_readParts_2 hm (fun _ _ _ => ⟨hd.pre, fun q => fin (d + 1) acc g I1 hd hr hf hp (by rw [← hd.nx]; exact q), fun q => ⟨fun _ => ⟨⟨by omega, by omega⟩, ?_⟩, fun z => by omega⟩⟩)
      rw [hd.nx] at q
      rw [pPts_s q] at hp
      have re := row_els (S := S) (x := x) (v := v) (els := els) (pts := acc) hl
      refine (ref_readPart hm hx (by omega) hl hd q (by rw [hr]; exact re.1) (fun e h => by rw [hr]; exact re.2 e h)).mono (fun r I2 _ _ k => ?_)
      cases e : pPt T els g with
      | error p =>
        simp only [e] at hp
        obtain ⟨k1, k2, k3, k4⟩ := k.1 p e
        exact ⟨fun z => absurd k1 z, fun _ => RS.er hp ⟨rfl, k2, k3, hf.1.trans k4⟩⟩
      | ok a =>
        simp only [e] at hp
        obtain ⟨k1, k2, k3, k4⟩ := k.2 a e
        obtain ⟨w1, w2, w3, w4⟩ := pPt_ok hd.2.2.2.2.1 q e
        have g0 := hd.2.2.2.2.1
        refine ⟨fun _ => ⟨⟨by omega, by omega⟩, ⟨by omega, by omega⟩, fun M18 e18 => ?_⟩, fun z => by omega⟩
        have := ih (acc ++ [a.1]) a.2 M18 (by rw [List.length_append]; simp; omega) (hd.qx (k4.1.trans (QX.row e18)) (by rw [jr_na e18 (by omega), k2]; omega) (by omega) w3) (by rw [jup_up e18, k3, hr]; exact rowP (by omega)) ((hf.trans k4).trans (QF.row e18)) hp
        rw [List.length_append] at this
        exact this
  exact en_X10_readParts hm (fun _ _ => loop 6 [] f I rfl h hS QF.rfl rfl)
def RS2 (m : Nat) (I I' : jM) (x : Int) (r : Except (Int × Int) (rul × Int)) (cnt : Int) : Prop := (∀ p, r = .error p → x = 0 ∧ I' m 31 = p.1 ∧ I' m 32 = p.2 ∧ QX m I I') ∧ ∀ a, r = .ok a → x = 1 ∧ I' m 29 = a.2 ∧ I' m 28 = cnt + 1 ∧ I' (m + 21) = rowS (I (m + 21)) (40 * cnt) a.1 ∧ I' m 31 = I m 31 ∧ I' m 32 = I m 32 ∧ QX m I I'
theorem RS2.er {x cnt : Int} {I' : jM} {r : Except (Int × Int) (rul × Int)} {p : Int × Int} (e : r = .error p) (h : x = 0 ∧ I' m 31 = p.1 ∧ I' m 32 = p.2 ∧ QX m I I') : RS2 m I I' x r cnt := ⟨fun p' e' => (by rw [e] at e'; injection e' with e'; rw [← e']; exact h), fun a e' => (by rw [e] at e'; cases e')⟩
theorem RS2.okk {x cnt : Int} {I' : jM} {r : Except (Int × Int) (rul × Int)} {a : rul × Int} (e : r = .ok a) (h : x = 1 ∧ I' m 29 = a.2 ∧ I' m 28 = cnt + 1 ∧ I' (m + 21) = rowS (I (m + 21)) (40 * cnt) a.1 ∧ I' m 31 = I m 31 ∧ I' m 32 = I m 32 ∧ QX m I I') : RS2 m I I' x r cnt := ⟨fun p' e' => (by rw [e] at e'; cases e'), fun a' e' => (by rw [e] at e'; injection e' with e'; rw [← e']; exact h)⟩
theorem row_new {S : Int → Int} {x v : Int} : up (up (fun k => if x ≤ k ∧ k < x + 40 then 0 else S k) x v) (x + 1) 1 = rowS S x (v, [], []) := by
  funext k
  unfold up rowS encR
  dsimp only
  by_cases q : x ≤ k ∧ k < x + 40
  · rw [if_pos q, if_pos q]
    by_cases r1 : k = x + 1
    · rw [if_pos r1, if_neg (by omega), if_pos (by omega)]
    · rw [if_neg r1]
      by_cases r0 : k = x
      · rw [if_pos r0, if_pos (by omega)]
      · rw [if_neg r0, if_neg (by omega), if_neg (by omega)]
        by_cases r2 : k - x = 2
        · rw [if_pos r2]; rfl
        · rw [if_neg r2]
          by_cases r3 : k - x = 3
          · rw [if_pos r3]; rfl
          · rw [if_neg r3]
            by_cases r4 : k - x < 22
            · rw [if_pos r4, trp_o (by show 3 * ((0 : Nat) : Int) ≤ _; omega)]
            · rw [if_neg r4, trp_o (by show 3 * ((0 : Nat) : Int) ≤ _; omega)]
  · rw [if_neg q, if_neg q, if_neg (by omega), if_neg (by omega)]
theorem ref_readRule (hm : WX10 G m) {cnt : Int} (hc : 0 ≤ cnt ∧ cnt ≤ 6) (h : RD m I T f) (h28 : I m 28 = cnt) : jRI E (jA m) kX10_readRule [VR m] G I (fun r I' => RS2 m I I' r (pRl T cnt f) cnt) := by
  have f0 := h.2.2.2.2.1
  have f1 := h.2.2.2.2.2
  have h300 := h.2.1
  have wrong : ∀ (k g : Int) (I1 : jM), pRl T cnt f = .error (k, g) → QX m I I1 → jRI E (jA m) kX10_isWrong [VR m, VI k, VI g] G I1 (fun r I' => (0 ≤ r ∧ r ≤ 1) ∧ RS2 m I I' r (pRl T cnt f) cnt) := fun k g I1 e hf => (ref_isWrong hm).mono (fun r I' _ _ w => ⟨by omega, RS2.er e ⟨w.1, w.2.1, w.2.2.1, hf.trans w.2.2.2⟩⟩)
  -- the row is emptied, then told
  have l141 : ∀ (v g : Int), 1 ≤ v ∧ v ≤ 99 → cnt ≠ 6 → pRl T cnt f = (match pEls T 6 [] g with
      | .error p => .error p
      | .ok a => match pPts T a.1 6 [] a.2 with
        | .error p => .error p
        | .ok b => .ok ((v, a.1, b.1), b.2)) → ∀ (d : Nat) (j : Int) (I1 : jM), 0 ≤ j → j + d = 40 → RD m I1 T g → QF m I I1 → I1 (m + 21) = (fun k => if 40 * cnt ≤ k ∧ k < 40 * cnt + j then 0 else I (m + 21) k) → jOI E (jA m) kX10_readRule 141 [VR m, VI f, VI v, VI (40 * cnt), VI j] G I1 (fun r I' => RS2 m I I' r (pRl T cnt f) cnt) := by
    intro v g hv h6 hp d
    induction d with
    | zero =>
      intro j I1 j0 j1 hd hf hr
      refine st_X10_readRule_141 hm (fun _ _ _ _ _ => ⟨fun _ => ⟨⟨by omega, by omega⟩, fun M2 e2 => ⟨⟨by omega, by omega⟩, fun M4 e4 => ?_⟩⟩, fun z => by omega⟩)
      have g0 := hd.2.2.2.2.1
      have g1 := hd.2.2.2.2.2
      have h9 := hd.2.2.2.1
      have hj : j = 40 := by omega
      subst hj
      have hd4 : RD m M4 T g := hd.qx ((QX.row e2).trans (QX.row e4)) (by rw [jr_na e4 (by omega), jr_na e2 (by omega)]; exact h9) g0 g1
      refine (ref_readElements (S := I (m + 21)) (v := v) hm (by omega) hd4 (by rw [jup_up e4, jup_up e2, hr]; exact row_new)).mono (fun r I5 _ _ k => ?_)
      have hf4 := (hf.trans (QF.row e2)).trans (QF.row e4)
      cases e : pEls T 6 [] g with
      | error p =>
        simp only [e] at hp
        obtain ⟨k1, k2, k3, k4⟩ := k.1 p e
        exact ⟨fun z => absurd k1 z, fun _ => RS2.er hp ⟨rfl, k2, k3, hf4.1.trans k4⟩⟩
      | ok a =>
        simp only [e] at hp
        obtain ⟨k1, k2, k3, k4⟩ := k.2 a e
        obtain ⟨w1, w2, w3, w4⟩ := pEls_ok 6 [] _ g0 (fun a ha => absurd ha List.not_mem_nil) rfl e
        have e28 : I5 m 28 = cnt := by rw [(hf4.trans k4).2.1, h28]
        refine ⟨fun _ => ⟨⟨by omega, by omega⟩, fun M8 e8 => ?_⟩, fun z => by omega⟩
        have hd8 : RD m M8 T a.2 := hd4.qx (k4.1.trans (QX.up e8 (by omega))) (by rw [jr_eq e8]; omega) (by omega) w4
        refine (ref_readParts (S := I (m + 21)) (v := v) (els := a.1) hm w2.2 (by omega) hd8 (by funext j; rw [jr_na e8 (by omega), k3])).mono (fun r I9 _ _ l => ?_)
        have hf8 := (hf4.trans k4).trans (QF.up e8)
        cases e2' : pPts T a.1 6 [] a.2 with
        | error p =>
          simp only [e2'] at hp
          obtain ⟨l1, l2, l3, l4⟩ := l.1 p e2'
          exact ⟨fun z => absurd l1 z, fun _ => RS2.er hp ⟨rfl, l2, l3, hf8.1.trans l4⟩⟩
        | ok b =>
          simp only [e2'] at hp
          obtain ⟨l1, l2, l3, l4⟩ := l.2 b e2'
          have hf9 := hf8.trans l4
          have e28' : I9 m 28 = cnt := by rw [hf9.2.1, h28]
          rw [e28']
          refine ⟨fun _ => ⟨⟨by omega, by omega⟩, fun M13 e13 => RS2.okk hp ⟨rfl, ?_, jr_eq e13, ?_, ?_, ?_, hf9.1.trans (QX.up e13 (by omega))⟩⟩, fun z => by omega⟩
          · rw [jr_nj e13 (by omega), l2]; show b.2 - 0 = b.2; omega
          · funext j; rw [jr_na e13 (by omega), l3]
          · rw [jr_nj e13 (by omega)]; exact hf9.2.2.1
          · rw [jr_nj e13 (by omega)]; exact hf9.2.2.2
    | succ d ih =>
      intro j I1 j0 j1 hd hf hr
      refine st_X10_readRule_141 hm (fun _ _ _ _ _ => ⟨fun z => by omega, fun _ => ⟨⟨by omega, by omega⟩, fun M16 e16 => ⟨⟨by omega, by omega⟩, ih (j + 1) M16 (by omega) (by omega) (hd.qx (QX.row e16) (by rw [jr_na e16 (by omega)]; exact hd.2.2.2.1) hd.2.2.2.2.1 hd.2.2.2.2.2) (hf.trans (QF.row e16)) ?_⟩⟩⟩)
      funext k
      rw [jup_at e16, hr]
      dsimp only
      by_cases q : k = 40 * cnt + j
      · rw [if_pos q, if_pos (by omega)]
      · rw [if_neg q]
        by_cases q2 : 40 * cnt ≤ k ∧ k < 40 * cnt + j
        · rw [if_pos q2, if_pos (by omega)]
        · rw [if_neg q2, if_neg (by omega)]
  have fin : ∀ (d : Nat) (v g : Int) (I1 : jM), f ≤ g → 0 ≤ v → RD m I1 T g → QF m I I1 → I1 (m + 21) = I (m + 21) → ds T 300 0 f = ds T d v g → ¬ (48 ≤ nxt T g ∧ nxt T g ≤ 57) → ((¬ g = f → (((1 ≤ v ∧ v ≤ 99) → ((¬ cnt = 6 → (0 ≤ g ∧ I1 m 30 ≤ 300) ∧ ((nxt T g = 58 → jIn (g + 1) ∧ (∀ M7, M7 = jup I1 m 29 (g + 1) → jIn (40 * cnt) ∧ jOI E (jA m) kX10_readRule 141 [VR m, VI f, VI v, VI (40 * cnt), VI 0] G M7 (fun r I' => RS2 m I I' r (pRl T cnt f) cnt))) ∧ (¬ nxt T g = 58 → jRI E (jA m) kX10_isWrong [VR m, VI 1, VI g] G I1 (fun r11 I10 => (0 ≤ r11 ∧ r11 ≤ 1) ∧ RS2 m I I10 r11 (pRl T cnt f) cnt)))) ∧ (cnt = 6 → jRI E (jA m) kX10_isWrong [VR m, VI 3, VI f] G I1 (fun r15 I14 => (0 ≤ r15 ∧ r15 ≤ 1) ∧ RS2 m I I14 r15 (pRl T cnt f) cnt)))) ∧ (¬ (1 ≤ v ∧ v ≤ 99) → jRI E (jA m) kX10_isWrong [VR m, VI 2, VI f] G I1 (fun r19 I18 => (0 ≤ r19 ∧ r19 ≤ 1) ∧ RS2 m I I18 r19 (pRl T cnt f) cnt)))) ∧ (g = f → jRI E (jA m) kX10_isWrong [VR m, VI 1, VI f] G I1 (fun r23 I22 => (0 ≤ r23 ∧ r23 ≤ 1) ∧ RS2 m I I22 r23 (pRl T cnt f) cnt))) := by
    intro d v g I1 hg hv hd hf hr hds hn
    rw [ds_e hn] at hds
    have hp : pRl T cnt f = (if g = f then .error (1, f) else if ¬ (1 ≤ v ∧ v ≤ 99) then .error (2, f) else if cnt = 6 then .error (3, f) else if nxt T g ≠ 58 then .error (1, g) else match pEls T 6 [] (g + 1) with
      | .error p => .error p
      | .ok a => match pPts T a.1 6 [] a.2 with
        | .error p => .error p
        | .ok b => .ok ((v, a.1, b.1), b.2)) := by
      unfold pRl
      rw [hds]
      try rfl
    refine ⟨fun q => ⟨fun q1 => ⟨fun q2 => ⟨⟨by omega, by have := hd.pre; omega⟩, fun q3 => ?_, fun q3 => wrong 1 g I1 ?_ hf.1⟩, fun q2 => wrong 3 f I1 ?_ hf.1⟩, fun q1 => wrong 2 f I1 ?_ hf.1⟩, fun q => wrong 1 f I1 ?_ hf.1⟩
    · rw [if_neg q, if_neg (fun n => n q1), if_neg q2, if_neg (fun n => n q3)] at hp
      have hgl : g < T.length := nxt_lt (by omega)
      exact ⟨⟨by omega, by omega⟩, fun M7 e7 => ⟨⟨by omega, by omega⟩, l141 v (g + 1) q1 q2 hp 40 0 M7 (by omega) (by omega) (hd.mv e7 (by omega) (by omega)) (hf.trans (QF.up e7)) (by funext k; rw [jr_na e7 (by omega), hr, if_neg (by omega)])⟩⟩
    · rw [hp, if_neg q, if_neg (fun n => n q1), if_neg q2, if_pos q3]
    · rw [hp, if_neg q, if_neg (fun n => n q1), if_pos q2]
    · rw [hp, if_neg q, if_pos q1]
    · rw [hp, if_pos q]
  have loop : ∀ (d : Nat) (v g : Int) (I1 : jM), f ≤ g → T.length ≤ g + d → 0 ≤ v → v ≤ 999 → RD m I1 T g → QF m I I1 → I1 (m + 21) = I (m + 21) → ds T 300 0 f = ds T d v g → jOI E (jA m) kX10_readRule 7 [VR m, VI f, VI v, VN, VN] G I1 (fun r I' => RS2 m I I' r (pRl T cnt f) cnt) := by
    intro d
    induction d with
    | zero =>
      intro v g I1 hg hgd hv hv9 hd hf hr hds
      have hz : nxt T g = -1 := if_neg (by omega)
      refine st_X10_readRule_7 hm (fun _ _ _ => ?_)
      rw [hd.nx, hd.2.2.2.1, hf.2.1, h28]
      exact ⟨⟨by omega, by have := hd.pre; omega⟩, fun q => fin 0 v g I1 hg hv hd hf hr hds q, fun q => by omega⟩
    | succ d ih =>
      intro v g I1 hg hgd hv hv9 hd hf hr hds
      refine st_X10_readRule_7 hm (fun _ _ _ => ?_)
      rw [hd.nx, hd.2.2.2.1, hf.2.1, h28]
      have pr : 0 ≤ g ∧ I1 m 30 ≤ 300 := ⟨by omega, by have := hd.pre; omega⟩
      refine ⟨pr, fun q => fin (d + 1) v g I1 hg hv hd hf hr hds q, fun q => ?_⟩
      rw [ds_s q] at hds
      have hgl : g < T.length := nxt_lt (by omega)
      refine ⟨fun q1 => ⟨pr, ⟨by omega, by omega⟩, ⟨by omega, by omega⟩, fun M9 e9 => ?_⟩, fun q1 => ⟨⟨by omega, by omega⟩, fun M9 e9 => ?_⟩⟩
      · rw [if_neg (by omega)] at hds
        exact ih _ (g + 1) M9 (by omega) (by omega) (by omega) (by omega) (hd.mv e9 (by omega) (by omega)) (hf.trans (QF.up e9)) (by funext k; rw [jr_na e9 (by omega), hr]) hds
      · rw [if_pos (by omega)] at hds
        exact ih _ (g + 1) M9 (by omega) (by omega) (by omega) (by omega) (hd.mv e9 (by omega) (by omega)) (hf.trans (QF.up e9)) (by funext k; rw [jr_na e9 (by omega), hr]) hds
  refine en_X10_readRule hm (fun _ => ?_)
  rw [h.2.2.2.1]
  exact loop 300 0 f I (by omega) (by omega) (by omega) (by omega) h QF.rfl rfl rfl
end RC
