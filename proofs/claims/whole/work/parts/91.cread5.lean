/-! ===== the class reads rules: rows, weights ===== -/
def RL2 (m δ : Nat) (cnt : Int) (I I' : jM) (x : Int) (r : Except (Int × Int) (List (Int × Int × Int) × Int)) (P : List (Int × Int × Int) → Prop) : Prop := (∀ p, r = .error p → x = 0 ∧ I' m 4 = p.1 ∧ I' m 5 = p.2 ∧ CU m δ cnt I I') ∧ ∀ a, r = .ok a → x = 1 ∧ I' m 2 = a.2 ∧ P a.1 ∧ CU m δ cnt I I' ∧ I' m 4 = I m 4 ∧ I' m 5 = I m 5 ∧ I' (δ + 2) = I (δ + 2)
def pW (T : List Int) (cnt f : Int) : Except (Int × Int) (Int × Int) := if (ds T 300 0 f).2 = f then .error (1, f) else if ¬ (1 ≤ (ds T 300 0 f).1 ∧ (ds T 300 0 f).1 ≤ 99) then .error (2, f) else if cnt = 6 then .error (3, f) else if nxt T (ds T 300 0 f).2 ≠ 58 then .error (1, (ds T 300 0 f).2) else .ok ((ds T 300 0 f).1, (ds T 300 0 f).2 + 1)
section CC2
variable {E : jE} {G : jG} {m δ : Nat} {I M : jM} {T : List Int} {f g cnt : Int} {els pts : List (Int × Int × Int)}
theorem RL2.er {x : Int} {I' : jM} {r : Except (Int × Int) (List (Int × Int × Int) × Int)} {P : List (Int × Int × Int) → Prop} {p : Int × Int} (e : r = .error p) (h : x = 0 ∧ I' m 4 = p.1 ∧ I' m 5 = p.2 ∧ CU m δ cnt I I') : RL2 m δ cnt I I' x r P := ⟨fun p' e' => (by rw [e] at e'; injection e' with e'; rw [← e']; exact h), fun a e' => (by rw [e] at e'; cases e')⟩
theorem RL2.okk {x : Int} {I' : jM} {r : Except (Int × Int) (List (Int × Int × Int) × Int)} {P : List (Int × Int × Int) → Prop} {a : List (Int × Int × Int) × Int} (e : r = .ok a) (h : x = 1 ∧ I' m 2 = a.2 ∧ P a.1 ∧ CU m δ cnt I I' ∧ I' m 4 = I m 4 ∧ I' m 5 = I m 5 ∧ I' (δ + 2) = I (δ + 2)) : RL2 m δ cnt I I' x r P := ⟨fun p' e' => (by rw [e] at e'; cases e'), fun a' e' => (by rw [e] at e'; injection e' with e'; rw [← e']; exact h)⟩
theorem pRl_eq {f : Int} : pRl T cnt f = (match pW T cnt f with
    | .error p => .error p
    | .ok w => match pEls T 6 [] w.2 with
      | .error p => .error p
      | .ok a => match pPts T a.1 6 [] a.2 with
        | .error p => .error p
        | .ok b => .ok ((w.1, a.1, b.1), b.2)) := by
  unfold pRl pW
  split
  · rfl
  · split
    · rfl
    · split
      · rfl
      · split <;> rfl
theorem cl_readElements (hm : WX5 G m) (hδ : WX6 G δ) (h : CD m δ I T f) (hc : I δ 1 = cnt) (hcn : 0 ≤ cnt ∧ cnt < 6) (hM : ME δ cnt [] I) : jRI E jB kX5_readElements [VR m] G I (fun x I' => RL2 m δ cnt I I' x (pEls T 6 [] f) (fun els => ME δ cnt els I' ∧ I' (δ + 4) = I (δ + 4))) := by
  have loop : ∀ (d : Nat) (acc : List (Int × Int × Int)) (g : Int) (I1 : jM), acc.length + d = 6 → CD m δ I1 T g → ME δ cnt acc I1 → CU m δ cnt I I1 → I1 m 4 = I m 4 → I1 m 5 = I m 5 → I1 (δ + 2) = I (δ + 2) → I1 (δ + 4) = I (δ + 4) → pEls T 6 [] f = pEls T d acc g → jOI E jB kX5_readElements 2 [VR m, VI (acc.length : Int), VN] G I1 (fun x I' => RL2 m δ cnt I I' x (pEls T 6 [] f) (fun els => ME δ cnt els I' ∧ I' (δ + 4) = I (δ + 4))) := by
    have key : ∀ (d : Nat) (acc : List (Int × Int × Int)) (g : Int) (I1 : jM), acc.length + d = 6 → CD m δ I1 T g → ME δ cnt acc I1 → CU m δ cnt I I1 → I1 m 4 = I m 4 → I1 m 5 = I m 5 → I1 (δ + 2) = I (δ + 2) → I1 (δ + 4) = I (δ + 4) → pEls T 6 [] f = pEls T d acc g → (bgE (nxt T g) → ((¬ (acc.length : Int) = 6 → jRI E jB kX5_readElement [VR m, VI (nxt T g)] G I1 (fun r5 I4 => ((¬ r5 = 0 → jIn ((acc.length : Int) + 1) ∧ jOI E jB kX5_readElements 2 [VR m, VI ((acc.length : Int) + 1), VN] G I4 (fun x I' => RL2 m δ cnt I I' x (pEls T 6 [] f) (fun els => ME δ cnt els I' ∧ I' (δ + 4) = I (δ + 4)))) ∧ (r5 = 0 → RL2 m δ cnt I I4 0 (pEls T 6 [] f) (fun els => ME δ cnt els I4 ∧ I4 (δ + 4) = I (δ + 4)))))) ∧ ((acc.length : Int) = 6 → jRI E jB kX5_fail [VR m, VI 4, VI g] G I1 (fun r9 I8 => (0 ≤ r9 ∧ r9 ≤ 1) ∧ RL2 m δ cnt I I8 r9 (pEls T 6 [] f) (fun els => ME δ cnt els I8 ∧ I8 (δ + 4) = I (δ + 4)))))) → jOI E jB kX5_readElements 2 [VR m, VI (acc.length : Int), VN] G I1 (fun x I' => RL2 m δ cnt I I' x (pEls T 6 [] f) (fun els => ME δ cnt els I' ∧ I' (δ + 4) = I (δ + 4))) := by
      intro d acc g I1 hl hd hM1 hu e4 e5 e2 e4' hp rd
      have h2 := hd.2.2.2.2.1
      have hg := hd.2.2.2.2.2.1
      have h300 := hd.2.2.1
      have wr : ¬ bgE (nxt T g) → ¬ (0 < acc.length ∧ nxt T g = 62) → jRI E jB kX5_fail [VR m, VI 1, VI g] G I1 (fun r9 I8 => (0 ≤ r9 ∧ r9 ≤ 1) ∧ RL2 m δ cnt I I8 r9 (pEls T 6 [] f) (fun els => ME δ cnt els I8 ∧ I8 (δ + 4) = I (δ + 4))) := fun n1 n2 => (cl_fail hm).mono (fun r I' _ _ w => ⟨by omega, RL2.er (p := (1, g)) (by rw [hp, pEls_e n1, if_neg n2]) ⟨w.1, w.2.1, w.2.2.1, hu.trans w.2.2.2.cu⟩⟩)
      refine st_X5_readElements_2 hm (fun _ _ => ?_)
      rw [hd.nx, h2]
      have nb : ¬ isNs (nxt T g) → ¬ nxt T g = 95 → ¬ nxt T g = 39 → ¬ bgE (nxt T g) := fun a b c n => by
        rcases bgE_iff.mp n with n | n | n
        · exact a n
        · exact b n
        · exact c n
      refine ⟨fun z => by omega, fun _ => ⟨hd.pre, fun q => ⟨fun c => rd (bgE_iff.mpr (Or.inl c)), fun c => ⟨fun c1 => rd (bgE_iff.mpr (Or.inr (Or.inl c1))), fun c1 => ⟨fun c2 => rd (bgE_iff.mpr (Or.inr (Or.inr c2))), fun c2 => wr (nb c c1 c2) (fun n => q n.2)⟩⟩⟩, fun q => ⟨fun z => ⟨fun c => rd (bgE_iff.mpr (Or.inl c)), fun c => ⟨fun c1 => rd (bgE_iff.mpr (Or.inr (Or.inl c1))), fun c1 => ⟨fun c2 => rd (bgE_iff.mpr (Or.inr (Or.inr c2))), fun c2 => wr (nb c c1 c2) (fun n => by have := n.1; omega)⟩⟩⟩, fun z => ?_⟩⟩⟩
      have hgl : g < T.length := nxt_lt (by omega)
      have nbg : ¬ bgE (nxt T g) := nb (fun n => by unfold isNs at n; omega) (by omega) (by omega)
      refine ⟨⟨by omega, by omega⟩, fun M6 e6 => RL2.okk (a := (acc, g + 1)) (by rw [hp, pEls_e nbg, if_pos ⟨by omega, q⟩]) ⟨rfl, jr_eq e6, ⟨hM1.c0 hd.1.2.2 (C0.up e6 (by omega)), ?_⟩, hu.trans (C0.up e6 (by omega)).cu, by rw [jr_nj e6 (by omega)]; exact e4, by rw [jr_nj e6 (by omega)]; exact e5, ?_⟩⟩
      · rw [← e4']; funext j; exact jr_na e6 (by have := hd.1; omega)
      · rw [← e2]; funext j; exact jr_na e6 (by have := hd.1; omega)
    intro d
    induction d with
    | zero =>
      intro acc g I1 hl hd hM1 hu e4 e5 e2 e4' hp
      exact key 0 acc g I1 hl hd hM1 hu e4 e5 e2 e4' hp (fun hb => ⟨fun z => by omega, fun _ => (cl_fail hm).mono (fun r I' _ _ w => ⟨by omega, RL2.er (p := (4, g)) (by rw [hp, pEls_0 hb]) ⟨w.1, w.2.1, w.2.2.1, hu.trans w.2.2.2.cu⟩⟩)⟩)
    | succ d ih =>
      intro acc g I1 hl hd hM1 hu e4 e5 e2 e4' hp
      refine key (d + 1) acc g I1 hl hd hM1 hu e4 e5 e2 e4' hp (fun hb => ⟨fun _ => ?_, fun z => by omega⟩)
      rw [pEls_s hb] at hp
      have hc1 : I1 δ 1 = cnt := by rw [hu _ _ (by have := hd.1; omega) (by omega)]; exact hc
      refine (cl_readElement hm hδ hd hb hc1 hcn hM1 (by omega)).mono (fun r I2 _ _ k => ?_)
      cases e : pEl T g with
      | error p =>
        simp only [e] at hp
        obtain ⟨k1, k4, k5, ku⟩ := k.1 p e
        exact ⟨fun z => absurd k1 z, fun _ => RL2.er hp ⟨rfl, k4, k5, hu.trans ku⟩⟩
      | ok a =>
        simp only [e] at hp
        obtain ⟨k1, k2, kM, ku, k4, k5, kd, kd'⟩ := k.2 a e
        obtain ⟨w1, w2, w3⟩ := pEl_ok hd.2.2.2.2.2.1.1 hb e
        have g0 := hd.2.2.2.2.2.1.1
        refine ⟨fun _ => ⟨⟨by omega, by omega⟩, ?_⟩, fun z => by omega⟩
        have := ih (acc ++ [a.1]) a.2 I2 (by rw [List.length_append]; simp; omega) (hd.cu ku k2 (by omega) w3) kM (hu.trans ku) (by rw [k4]; exact e4) (by rw [k5]; exact e5) (by rw [kd]; exact e2) (by rw [kd']; exact e4') hp
        rw [List.length_append] at this
        exact this
  exact en_X5_readElements hm (fun _ => loop 6 [] f I rfl h hM CU.rfl rfl rfl rfl rfl rfl)
theorem cl_readParts (hm : WX5 G m) (hδ : WX6 G δ) (h : CD m δ I T f) (hc : I δ 1 = cnt) (hcn : 0 ≤ cnt ∧ cnt < 6) (hM : ME δ cnt els I) (hl : els.length ≤ 6) (hw : ∀ a ∈ els, WfE T a) (hP : MP δ cnt els [] I) : jRI E jB kX5_readParts [VR m] G I (fun x I' => RL2 m δ cnt I I' x (pPts T els 6 [] f) (fun pts => ME δ cnt els I' ∧ MP δ cnt els pts I')) := by
  have loop : ∀ (d : Nat) (acc : List (Int × Int × Int)) (g : Int) (I1 : jM), acc.length + d = 6 → CD m δ I1 T g → ME δ cnt els I1 → MP δ cnt els acc I1 → CU m δ cnt I I1 → I1 m 4 = I m 4 → I1 m 5 = I m 5 → I1 (δ + 2) = I (δ + 2) → pPts T els 6 [] f = pPts T els d acc g → jOI E jB kX5_readParts 2 [VR m, VI (acc.length : Int), VN] G I1 (fun x I' => RL2 m δ cnt I I' x (pPts T els 6 [] f) (fun pts => ME δ cnt els I' ∧ MP δ cnt els pts I')) := by
    have key : ∀ (d : Nat) (acc : List (Int × Int × Int)) (g : Int) (I1 : jM), acc.length + d = 6 → CD m δ I1 T g → ME δ cnt els I1 → MP δ cnt els acc I1 → CU m δ cnt I I1 → I1 m 4 = I m 4 → I1 m 5 = I m 5 → I1 (δ + 2) = I (δ + 2) → pPts T els 6 [] f = pPts T els d acc g → (bgP (nxt T g) → ((¬ (acc.length : Int) = 6 → jRI E jB kX5_readPart [VR m, VI (nxt T g)] G I1 (fun r5 I4 => ((¬ r5 = 0 → jIn ((acc.length : Int) + 1) ∧ jOI E jB kX5_readParts 2 [VR m, VI ((acc.length : Int) + 1), VN] G I4 (fun x I' => RL2 m δ cnt I I' x (pPts T els 6 [] f) (fun pts => ME δ cnt els I' ∧ MP δ cnt els pts I'))) ∧ (r5 = 0 → RL2 m δ cnt I I4 0 (pPts T els 6 [] f) (fun pts => ME δ cnt els I4 ∧ MP δ cnt els pts I4))))) ∧ ((acc.length : Int) = 6 → jRI E jB kX5_fail [VR m, VI 4, VI g] G I1 (fun r9 I8 => (0 ≤ r9 ∧ r9 ≤ 1) ∧ RL2 m δ cnt I I8 r9 (pPts T els 6 [] f) (fun pts => ME δ cnt els I8 ∧ MP δ cnt els pts I8))))) → jOI E jB kX5_readParts 2 [VR m, VI (acc.length : Int), VN] G I1 (fun x I' => RL2 m δ cnt I I' x (pPts T els 6 [] f) (fun pts => ME δ cnt els I' ∧ MP δ cnt els pts I')) := by
      intro d acc g I1 hl hd hM1 hP1 hu e4 e5 e2 hp rd
      have h2 := hd.2.2.2.2.1
      have ok : (nxt T g = -1 ∨ nxt T g = 59) → RL2 m δ cnt I I1 1 (pPts T els 6 [] f) (fun pts => ME δ cnt els I1 ∧ MP δ cnt els pts I1) := by
        intro c
        have nb : ¬ bgP (nxt T g) := fun n => by
          rw [bgP_iff] at n
          unfold isNs at n
          omega
        exact RL2.okk (a := (acc, g)) (by rw [hp, pPts_e nb, if_pos c]) ⟨rfl, h2, ⟨hM1, hP1⟩, hu, e4, e5, e2⟩
      refine st_X5_readParts_2 hm (fun _ _ => ?_)
      rw [hd.nx, h2]
      refine ⟨fun z => by omega, fun _ => ⟨hd.pre, fun q => ok (Or.inl q), fun q => ⟨fun q1 => ⟨fun c => rd (bgP_iff.mpr (Or.inl c)), fun c => ⟨fun c1 => rd (bgP_iff.mpr (Or.inr (Or.inl c1))), fun c1 => ⟨fun c2 => rd (bgP_iff.mpr (Or.inr (Or.inr (Or.inl c2)))), fun c2 => ⟨fun c3 => rd (bgP_iff.mpr (Or.inr (Or.inr (Or.inr (Or.inl c3))))), fun c3 => ⟨fun c4 => rd (bgP_iff.mpr (Or.inr (Or.inr (Or.inr (Or.inr c4))))), fun c4 => ?_⟩⟩⟩⟩⟩, fun q1 => ok (Or.inr q1)⟩⟩⟩
      have nb : ¬ bgP (nxt T g) := fun n => by
        rcases bgP_iff.mp n with n | n | n | n | n
        · exact c n
        · exact c1 n
        · exact c2 n
        · exact c3 n
        · exact c4 n
      exact (cl_fail hm).mono (fun r I' _ _ w => ⟨by omega, RL2.er (p := (1, g)) (by rw [hp, pPts_e nb, if_neg (fun n => by omega)]) ⟨w.1, w.2.1, w.2.2.1, hu.trans w.2.2.2.cu⟩⟩)
    intro d
    induction d with
    | zero =>
      intro acc g I1 hl hd hM1 hP1 hu e4 e5 e2 hp
      exact key 0 acc g I1 hl hd hM1 hP1 hu e4 e5 e2 hp (fun hb => ⟨fun z => by omega, fun _ => (cl_fail hm).mono (fun r I' _ _ w => ⟨by omega, RL2.er (p := (4, g)) (by rw [hp, pPts_0 hb]) ⟨w.1, w.2.1, w.2.2.1, hu.trans w.2.2.2.cu⟩⟩)⟩)
    | succ d ih =>
      intro acc g I1 hl' hd hM1 hP1 hu e4 e5 e2 hp
      refine key (d + 1) acc g I1 hl' hd hM1 hP1 hu e4 e5 e2 hp (fun hb => ⟨fun _ => ?_, fun z => by omega⟩)
      rw [pPts_s hb] at hp
      have hc1 : I1 δ 1 = cnt := by rw [hu _ _ (by have := hd.1; omega) (by omega)]; exact hc
      refine (cl_readPart hm hδ hd hb hc1 hcn hM1 hl hw hP1 (by omega)).mono (fun r I2 _ _ k => ?_)
      cases e : pPt T els g with
      | error p =>
        simp only [e] at hp
        obtain ⟨k1, k4, k5, ku⟩ := k.1 p e
        exact ⟨fun z => absurd k1 z, fun _ => RL2.er hp ⟨rfl, k4, k5, hu.trans ku⟩⟩
      | ok a =>
        simp only [e] at hp
        obtain ⟨k1, k2, kP, kM, ku, k4, k5, kd⟩ := k.2 a e
        obtain ⟨w1, w2, w3, w4⟩ := pPt_ok hd.2.2.2.2.2.1.1 hb e
        have g0 := hd.2.2.2.2.2.1.1
        refine ⟨fun _ => ⟨⟨by omega, by omega⟩, ?_⟩, fun z => by omega⟩
        have := ih (acc ++ [a.1]) a.2 I2 (by rw [List.length_append]; simp; omega) (hd.cu ku k2 (by omega) w3) kM kP (hu.trans ku) (by rw [k4]; exact e4) (by rw [k5]; exact e5) (by rw [kd]; exact e2) hp
        rw [List.length_append] at this
        exact this
  exact en_X5_readParts hm (fun _ => loop 6 [] f I rfl h hM hP CU.rfl rfl rfl rfl rfl)
def RW2 (m δ : Nat) (cnt : Int) (I I' : jM) (x : Int) (r : Except (Int × Int) (Int × Int)) : Prop := (∀ p, r = .error p → x = 0 ∧ I' m 4 = p.1 ∧ I' m 5 = p.2 ∧ CU m δ cnt I I') ∧ ∀ a, r = .ok a → x = 1 ∧ I' m 2 = a.2 ∧ I' (δ + 2) cnt = a.1 ∧ I' (δ + 3) cnt = 0 ∧ I' (δ + 4) cnt = 0 ∧ CU m δ cnt I I' ∧ I' m 4 = I m 4 ∧ I' m 5 = I m 5
theorem RW2.er {x : Int} {I' : jM} {r : Except (Int × Int) (Int × Int)} {p : Int × Int} (e : r = .error p) (h : x = 0 ∧ I' m 4 = p.1 ∧ I' m 5 = p.2 ∧ CU m δ cnt I I') : RW2 m δ cnt I I' x r := ⟨fun p' e' => (by rw [e] at e'; injection e' with e'; rw [← e']; exact h), fun a e' => (by rw [e] at e'; cases e')⟩
theorem RW2.okk {x : Int} {I' : jM} {r : Except (Int × Int) (Int × Int)} {a : Int × Int} (e : r = .ok a) (h : x = 1 ∧ I' m 2 = a.2 ∧ I' (δ + 2) cnt = a.1 ∧ I' (δ + 3) cnt = 0 ∧ I' (δ + 4) cnt = 0 ∧ CU m δ cnt I I' ∧ I' m 4 = I m 4 ∧ I' m 5 = I m 5) : RW2 m δ cnt I I' x r := ⟨fun p' e' => (by rw [e] at e'; cases e'), fun a' e' => (by rw [e] at e'; injection e' with e'; rw [← e']; exact h)⟩
theorem told_1 {c : Int} : told (srt c) = 1 ↔ 48 ≤ c ∧ c ≤ 57 := by
  have r := srt_range c
  constructor
  · intro h
    have : srt c = 1 := by
      unfold told at h
      split at h
      · omega
      · split at h
        · omega
        · exact h
    exact srt_fig this
  · intro h
    have : srt c = 1 := by unfold srt; rw [if_neg (by omega), if_pos h]
    rw [this]
    decide
theorem cl_readWeight (hm : WX5 G m) (hδ : WX6 G δ) (h : CD m δ I T f) (hc : I δ 1 = cnt) (hcn : 0 ≤ cnt ∧ cnt ≤ 6) : jRI E jB kX5_readWeight [VR m] G I (fun x I' => RW2 m δ cnt I I' x (pW T cnt f)) := by
  have hmd := h.1.2.2
  have f0 := h.2.2.2.2.2.1
  have h300 := h.2.2.1
  have fin : ∀ (d : Nat) (v g w : Int) (I1 : jM), f ≤ g → 0 ≤ v → w = (if 99 < v then 100 else v) → CD m δ I1 T g → C0 m I I1 → I1 m 4 = I m 4 → I1 m 5 = I m 5 → ds T 300 0 f = ds T d v g → ¬ (48 ≤ nxt T g ∧ nxt T g ≤ 57) → ((¬ g = f → ((w < 1 → jRI E jB kX5_fail [VR m, VI 2, VI f] G I1 (fun r2 I2 => (0 ≤ r2 ∧ r2 ≤ 1) ∧ RW2 m δ cnt I I2 r2 (pW T cnt f))) ∧ (¬ w < 1 → ((w ≤ 99 → (∃ b5 : Nat, I1 m 3 = (b5 : Int) ∧ WX6 G b5 ∧ (((I1 b5 1) < 6 → (I1 m 1 ≤ 300) ∧ ((nxt T g = 58 → jIn (g + 1) ∧ (∀ M10, M10 = jup I1 m 2 (g + 1) → (∃ b12 : Nat, I1 m 3 = (b12 : Int) ∧ WX6 G b12 ∧ (∃ b15 : Nat, I1 m 3 = (b15 : Int) ∧ WX6 G b15 ∧ ((0 : Int) ≤ (M10 b15 1) ∧ ((M10 b15 1) : Int) < 6) ∧ (∀ M19, M19 = jup M10 (b12 + 2) (M10 b15 1) w → (∃ b20 : Nat, M19 m 3 = (b20 : Int) ∧ WX6 G b20 ∧ (∃ b23 : Nat, M19 m 3 = (b23 : Int) ∧ WX6 G b23 ∧ ((0 : Int) ≤ (M19 b23 1) ∧ ((M19 b23 1) : Int) < 6) ∧ (∀ M27, M27 = jup M19 (b20 + 3) (M19 b23 1) 0 → (∃ b28 : Nat, M27 m 3 = (b28 : Int) ∧ WX6 G b28 ∧ (∃ b31 : Nat, M27 m 3 = (b31 : Int) ∧ WX6 G b31 ∧ ((0 : Int) ≤ (M27 b31 1) ∧ ((M27 b31 1) : Int) < 6) ∧ (∀ M35, M35 = jup M27 (b28 + 4) (M27 b31 1) 0 → RW2 m δ cnt I M35 1 (pW T cnt f)))))))))))) ∧ (¬ nxt T g = 58 → jRI E jB kX5_fail [VR m, VI 1, VI g] G I1 (fun r37 I36 => (0 ≤ r37 ∧ r37 ≤ 1) ∧ RW2 m δ cnt I I36 r37 (pW T cnt f))))) ∧ (¬ (I1 b5 1) < 6 → jRI E jB kX5_fail [VR m, VI 3, VI f] G I1 (fun r41 I40 => (0 ≤ r41 ∧ r41 ≤ 1) ∧ RW2 m δ cnt I I40 r41 (pW T cnt f)))))) ∧ (¬ w ≤ 99 → jRI E jB kX5_fail [VR m, VI 2, VI f] G I1 (fun r45 I44 => (0 ≤ r45 ∧ r45 ≤ 1) ∧ RW2 m δ cnt I I44 r45 (pW T cnt f))))))) ∧ (g = f → jRI E jB kX5_fail [VR m, VI 1, VI g] G I1 (fun r49 I48 => (0 ≤ r49 ∧ r49 ≤ 1) ∧ RW2 m δ cnt I I48 r49 (pW T cnt f)))) := by
    intro d v g w I1 hg hv hwv hd kc e4 e5 hds hn
    rw [ds_e hn] at hds
    have h3 := hd.2.2.2.2.2.2
    have hg2 := hd.2.2.2.2.2.1
    have hp : pW T cnt f = (if g = f then .error (1, f) else if ¬ (1 ≤ v ∧ v ≤ 99) then .error (2, f) else if cnt = 6 then .error (3, f) else if nxt T g ≠ 58 then .error (1, g) else .ok (v, g + 1)) := by
      unfold pW
      rw [hds]
    have c1 : I1 δ 1 = cnt := by rw [kc _ _ (by omega)]; exact hc
    have wr : ∀ k p : Int, pW T cnt f = .error (k, p) → jRI E jB kX5_fail [VR m, VI k, VI p] G I1 (fun r I' => (0 ≤ r ∧ r ≤ 1) ∧ RW2 m δ cnt I I' r (pW T cnt f)) := fun k p e => (cl_fail hm).mono (fun r I' _ _ z => ⟨by omega, RW2.er e ⟨z.1, z.2.1, z.2.2.1, (kc.trans z.2.2.2).cu⟩⟩)
    have wv : (1 ≤ w ∧ w ≤ 99) ↔ (1 ≤ v ∧ v ≤ 99) := by
      by_cases q : 99 < v
      · rw [if_pos q] at hwv; omega
      · rw [if_neg q] at hwv; omega
    have wv' : w ≤ 99 → w = v := by
      intro q
      by_cases q' : 99 < v
      · rw [if_pos q'] at hwv; omega
      · rw [if_neg q'] at hwv; exact hwv
    refine ⟨fun q => ⟨fun q1 => wr 2 f (by rw [hp, if_neg q, if_pos (fun n => by have := wv.mpr n; omega)]), fun q1 => ⟨fun q2 => ⟨δ, h3, hδ, ?_⟩, fun q2 => wr 2 f (by rw [hp, if_neg q, if_pos (fun n => by have := wv.mpr n; omega)])⟩⟩, fun q => by rw [q]; exact wr 1 f (by rw [hp, if_pos q])⟩
    have hv1 := wv.mp ⟨by omega, q2⟩
    have hwe := wv' q2
    rw [c1]
    refine ⟨fun c6 => ⟨hd.pre, fun c7 => ?_, fun c7 => wr 1 g (by rw [hp, if_neg q, if_neg (fun n => n hv1), if_neg (by omega), if_pos c7])⟩, fun c6 => wr 3 f (by rw [hp, if_neg q, if_neg (fun n => n hv1), if_pos (by omega)])⟩
    have hgl : g < T.length := nxt_lt (by omega)
    refine ⟨⟨by omega, by omega⟩, fun M10 e10 => ⟨δ, h3, hδ, δ, h3, hδ, ?_⟩⟩
    have k1 : M10 δ 1 = cnt := by rw [jr_na e10 (by omega)]; exact c1
    have k3 : M10 m 3 = δ := by rw [jr_nj e10 (by omega)]; exact h3
    rw [k1]
    refine ⟨⟨hcn.1, c6⟩, fun M19 e19 => ⟨δ, by rw [jr_na e19 (by omega)]; exact k3, hδ, δ, by rw [jr_na e19 (by omega)]; exact k3, hδ, ?_⟩⟩
    have l1 : M19 δ 1 = cnt := by rw [jr_na e19 (by omega)]; exact k1
    rw [l1]
    refine ⟨⟨hcn.1, c6⟩, fun M27 e27 => ⟨δ, by rw [jr_na e27 (by omega), jr_na e19 (by omega)]; exact k3, hδ, δ, by rw [jr_na e27 (by omega), jr_na e19 (by omega)]; exact k3, hδ, ?_⟩⟩
    have o1 : M27 δ 1 = cnt := by rw [jr_na e27 (by omega)]; exact l1
    rw [o1]
    refine ⟨⟨hcn.1, c6⟩, fun M35 e35 => RW2.okk (a := (v, g + 1)) (by rw [hp, if_neg q, if_neg (fun n => n hv1), if_neg (by omega), if_neg (fun n => n c7)]) ⟨rfl, ?_, ?_, ?_, jr_eq e35, fun a j ha hb => ?_, ?_, ?_⟩⟩
    · rw [jr_na e35 (by omega), jr_na e27 (by omega), jr_na e19 (by omega), jr_eq e10]
    · rw [jr_na e35 (by omega), jr_na e27 (by omega), jr_eq e19]; exact hwe
    · rw [jr_na e35 (by omega), jr_eq e27]
    · have x1 : M35 a j = M27 a j := by
        by_cases z : a = δ + 4
        · exact jr_nj e35 (by omega)
        · exact jr_na e35 z
      have x2 : M27 a j = M19 a j := by
        by_cases z : a = δ + 3
        · exact jr_nj e27 (by omega)
        · exact jr_na e27 z
      have x3 : M19 a j = M10 a j := by
        by_cases z : a = δ + 2
        · exact jr_nj e19 (by omega)
        · exact jr_na e19 z
      rw [x1, x2, x3]
      exact (kc.trans (C0.up e10 (by omega))) a j (by omega)
    · rw [jr_na e35 (by omega), jr_na e27 (by omega), jr_na e19 (by omega), jr_nj e10 (by omega)]; exact e4
    · rw [jr_na e35 (by omega), jr_na e27 (by omega), jr_na e19 (by omega), jr_nj e10 (by omega)]; exact e5
  have loop : ∀ (d : Nat) (v g w : Int) (I1 : jM), f ≤ g → T.length ≤ g + d → 0 ≤ v → v ≤ 999 → w = (if 99 < v then 100 else v) → CD m δ I1 T g → C0 m I I1 → I1 m 4 = I m 4 → I1 m 5 = I m 5 → ds T 300 0 f = ds T d v g → jOI E jB kX5_readWeight 7 [VR m, VI f, VI w] G I1 (fun x I' => RW2 m δ cnt I I' x (pW T cnt f)) := by
    intro d
    induction d with
    | zero =>
      intro v g w I1 hg hgd hv hv9 hw hd kc e4 e5 hds
      have h1 := hd.2.1
      have h2 := hd.2.2.2.2.1
      refine st_X5_readWeight_7 hm (fun _ _ _ => ?_)
      rw [hd.nx, h1, h2]
      have y := fin 0 v g w I1 hg hv hw hd kc e4 e5 hds (fun n => by have := nxt_lt (T := T) (f := g) (by omega); omega)
      rw [h1] at y
      exact ⟨fun _ => y, fun z => by omega⟩
    | succ d ih =>
      intro v g w I1 hg hgd hv hv9 hw hd kc e4 e5 hds
      have h1 := hd.2.1
      have h2 := hd.2.2.2.2.1
      have hg2 := hd.2.2.2.2.2.1
      have hwb : 0 ≤ w ∧ w ≤ 100 := by rw [hw]; split <;> omega
      refine st_X5_readWeight_7 hm (fun _ _ _ => ?_)
      rw [hd.nx, h1, h2]
      have y := fin (d + 1) v g w I1 hg hv hw hd kc e4 e5 hds
      rw [h1] at y
      refine ⟨fun z => y (fun n => by have := nxt_lt (T := T) (f := g) (by omega); omega), fun z => ⟨by omega, fun q => ?_, fun q => ?_⟩⟩
      · exact y (fun n => q (told_1.mpr n))
      · have q' := told_1.mp q
        rw [ds_s q'] at hds
        refine ⟨by omega, ⟨by omega, by omega⟩, ⟨by omega, by omega⟩, fun M9 e9 => ih (if 99 < v then v else 10 * v + nxt T g - 48) (g + 1) _ M9 (by omega) (by omega) (by split <;> omega) (by split <;> omega) ?_ (hd.mv e9 (by omega) (by omega)) (kc.trans (C0.up e9 (by omega))) (by rw [jr_nj e9 (by omega)]; exact e4) (by rw [jr_nj e9 (by omega)]; exact e5) hds⟩
        by_cases c : 99 < v
        · rw [if_pos c, if_pos c]
          rw [if_pos c] at hw
          omega
        · rw [if_neg c]
          rw [if_neg c] at hw
          by_cases c2 : 99 < 10 * v + nxt T g - 48
          · rw [if_pos c2]; omega
          · rw [if_neg c2]; omega
  refine en_X5_readWeight hm (fun _ => ?_)
  rw [h.2.2.2.2.1]
  exact loop 300 0 f 0 I (by omega) (by omega) (by omega) (by omega) rfl h C0.rfl rfl rfl rfl
end CC2
