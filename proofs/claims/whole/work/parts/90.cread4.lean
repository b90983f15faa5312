/-! ===== the class reads rules: parts ===== -/
section CC1
variable {E : jE} {G : jG} {m δ : Nat} {I M : jM} {T : List Int} {f g cnt : Int} {els pts : List (Int × Int × Int)}
theorem sby_12 {c : Int} : (sby c = 0 ↔ c = 119) ∧ (sby c = 1 ↔ c = 110) := by
  unfold sby
  refine ⟨⟨fun h => ?_, fun h => by rw [if_pos h]⟩, fun h => ?_, fun h => by rw [if_neg (by omega), if_pos h]⟩
  · split at h
    · assumption
    · split at h
      · omega
      · split at h <;> omega
  · split at h
    · omega
    · split at h
      · assumption
      · split at h <;> omega
theorem isNs_iff {c : Int} : isNs c ↔ sby c ≠ -1 := by
  constructor
  · rintro (rfl | rfl | rfl) <;> decide
  · exact sby_ne
theorem bgE_iff {c : Int} : bgE c ↔ isNs c ∨ c = 95 ∨ c = 39 := by unfold bgE; rw [isNs_iff]
theorem bgP_iff {c : Int} : bgP c ↔ isNs c ∨ c = 43 ∨ c = 45 ∨ c = 126 ∨ c = 39 := by unfold bgP; rw [isNs_iff]
theorem pPn_base {c : Int} (hc : (sby c ≠ -1 ∧ c = nxt T g) ∨ (c = 126 ∧ sby (nxt T g) = 0) ∨ ((c = 43 ∨ c = 45) ∧ sby (nxt T g) = 1)) {r : (Int × Int × Int) × Int} (h : pPn T els c g = .ok r) : pbase r.1.1 = sby (nxt T g) ∧ r.1.2.1 = nxt T (g + 1) - 97 ∧ pkd r.1.1 = pko c := by
  unfold pPn at h
  by_cases q1 : ¬ nmd (nxt T (g + 1))
  · rw [if_pos q1] at h
    cases h
  · rw [if_neg q1] at h
    by_cases q2 : ¬ named els (sby (nxt T g)) (nxt T (g + 1) - 97)
    · rw [if_pos q2] at h
      cases h
    · rw [if_neg q2] at h
      injection h with h
      subst h
      have sb := sby_bd (nxt T g)
      have key : ∀ s : Int, s = (if c = 43 then 5 else if c = 45 then 6 else if c = 126 then 7 else sby (nxt T g)) → pbase s = sby (nxt T g) ∧ pkd s = pko c := by
        intro s hs
        unfold pbase pkd pko
        rcases hc with hc | hc | hc
        · have hk := sby_ne hc.1
          rw [if_neg (by omega), if_neg (by omega), if_neg (by omega)] at hs
          refine ⟨?_, ?_⟩
          · rw [if_neg (by omega), if_neg (by omega)]; exact hs
          · rw [if_neg (by omega), if_neg (by omega), if_neg (by omega), if_neg (by omega), if_neg (by omega), if_neg (by omega), if_neg (by omega), if_neg (by omega)]
        · rw [if_neg (by omega), if_neg (by omega), if_pos hc.1] at hs
          refine ⟨?_, ?_⟩
          · rw [if_pos hs]; exact hc.2.symm
          · rw [if_neg (by omega), if_neg (by omega), if_neg (by omega), if_pos hs, if_neg (by omega), if_neg (by omega), if_neg (by omega), if_pos hc.1]
        · rcases hc.1 with e | e
          · rw [if_pos e] at hs
            refine ⟨?_, ?_⟩
            · rw [if_neg (by omega), if_pos (by omega)]; exact hc.2.symm
            · rw [if_neg (by omega), if_pos hs, if_neg (by omega), if_pos e]
          · rw [if_neg (by omega), if_pos e] at hs
            refine ⟨?_, ?_⟩
            · rw [if_neg (by omega), if_pos (by omega)]; exact hc.2.symm
            · rw [if_neg (by omega), if_neg (by omega), if_pos hs, if_neg (by omega), if_neg (by omega), if_pos e]
      exact ⟨(key _ rfl).1, rfl, (key _ rfl).2⟩
theorem kn_tree {c : Int} (hm : WX5 G m) (hδ : WX6 G δ) (h : CD m δ M T g) (hg : g < T.length) (hsb : sby (nxt T g) ≠ -1) (hc : M δ 1 = cnt) (hcn : 0 ≤ cnt ∧ cnt < 6) (hM : ME δ cnt els M) (hl : els.length ≤ 6) (hw : ∀ a ∈ els, WfE T a) {q : Int → jM → Prop} (hq1 : ∀ p I', pPn T els c g = .error p → I' m 4 = p.1 → I' m 5 = p.2 → C0 m M I' → q (-1) I') (hq2 : ∀ a (e : Nat) I', pPn T els c g = .ok a → FstK els (4 * told (sby (nxt T g)) + (nxt T (g + 1) - 97)) e → I' m 2 = a.2 → I' m 4 = M m 4 → I' m 5 = M m 5 → C0 m M I' → q e I') : jRI E jB kX5_readName [VR m] G M (fun r2 I1 => ((¬ r2 = (-1) → (∃ b4 : Nat, I1 m 3 = (b4 : Int) ∧ WX6 G b4 ∧ (∃ b7 : Nat, I1 m 3 = (b7 : Int) ∧ WX6 G b7 ∧ jRI E jB kX6_elementNamed [VR b4, VI (I1 b7 1), VI r2] G I1 (fun r11 I10 => ((¬ r11 = (-1) → q r11 I10) ∧ (r11 = (-1) → jRI E jB kX5_fail [VR m, VI 5, VI g] G I10 (fun r14 I13 => q r11 I13))))))) ∧ (r2 = (-1) → q (-1) I1))) := by
  have hmd := h.1.2.2
  have g0 := h.2.2.2.2.2.1.1
  have h3 := h.2.2.2.2.2.2
  have sb := sby_bd (nxt T g)
  have tb := told_012 (s := sby (nxt T g)) (by omega)
  have tb' : 0 ≤ told (sby (nxt T g)) := by rw [tb]; split <;> omega
  refine (cl_readName hm h hg).mono (fun r2 I1 _ _ k => ?_)
  by_cases qn : nmd (nxt T (g + 1))
  · obtain ⟨k1, k2, k4, k5, kc⟩ := k.2 qn
    have qn' := qn
    unfold nmd at qn'
    rw [nso_told hsb] at k1
    have c3 : I1 m 3 = δ := by rw [kc _ _ (by omega)]; exact h3
    have c1 : I1 δ 1 = cnt := by rw [kc _ _ (by omega)]; exact hc
    have hM2 := hM.c0 hmd kc
    have kn : r2 = 4 * told (sby (nxt T g)) + (nxt T (g + 1) - 97) := by omega
    refine ⟨fun _ => ⟨δ, c3, hδ, δ, c3, hδ, ?_⟩, fun z => by omega⟩
    rw [c1]
    have nm : named els (sby (nxt T g)) (nxt T (g + 1) - 97) ↔ ∃ e : Nat, e < els.length ∧ I1 (δ + 7) (6 * cnt + e) = r2 := by
      constructor
      · rintro ⟨e, e1, e2, e3⟩
        refine ⟨e, e1, ?_⟩
        rw [(hM2.2 e e1).2.1, kn]
        exact (nmK_iff (hw _ (gd_mem e1)) ⟨by omega, by omega⟩ ⟨by omega, by omega⟩).mpr ⟨e2, e3⟩
      · rintro ⟨e, e1, e2⟩
        rw [(hM2.2 e e1).2.1, kn] at e2
        exact ⟨e, e1, (nmK_iff (hw _ (gd_mem e1)) ⟨by omega, by omega⟩ ⟨by omega, by omega⟩).mp e2⟩
    refine (cl_elementNamed hδ hcn (n := els.length) hl hM2.1).mono (fun r11 I10 _ _ l => ?_)
    obtain ⟨l1, l2⟩ := l
    subst l1
    rcases l2 with l2 | ⟨e, l3, l4, l5, l6⟩
    · have nn : ¬ named els (sby (nxt T g)) (nxt T (g + 1) - 97) := fun n => by
        obtain ⟨e, e1, e2⟩ := nm.mp n
        exact l2.2 e e1 e2
      have z1 := l2.1
      refine ⟨fun z => absurd z1 z, fun _ => (cl_fail hm).mono (fun r I' _ _ w => ?_)⟩
      rw [z1]
      refine hq1 (5, g) I' ?_ w.2.1 w.2.2.1 (kc.trans w.2.2.2)
      unfold pPn
      rw [if_neg (fun n => n qn), if_pos nn]
    · have nn : named els (sby (nxt T g)) (nxt T (g + 1) - 97) := nm.mpr ⟨e, l3, l5⟩
      rw [l4]
      refine ⟨fun _ => hq2 ((if c = 43 then 5 else if c = 45 then 6 else if c = 126 then 7 else sby (nxt T g), nxt T (g + 1) - 97, 0), g + 2) e I10 ?_ ⟨l3, ?_, fun e' h' => ?_⟩ k2 k4 k5 kc, fun z => by omega⟩
      · unfold pPn
        rw [if_neg (fun n => n qn), if_neg (fun n => n nn)]
      · rw [← (hM2.2 e l3).2.1, l5, kn]
      · rw [← (hM2.2 e' (Nat.lt_trans h' l3)).2.1, ← kn]
        exact l6 e' h'
  · obtain ⟨k1, k4, k5, kc⟩ := k.1 qn
    refine ⟨fun z => absurd k1 z, fun _ => hq1 (1, g + 1) I1 ?_ k4 k5 kc⟩
    unfold pPn
    rw [if_pos qn]
theorem cl_readKnownName (hm : WX5 G m) (hδ : WX6 G δ) (h : CD m δ I T f) (hb : bgP (nxt T f)) (h39 : nxt T f ≠ 39) (hc : I δ 1 = cnt) (hcn : 0 ≤ cnt ∧ cnt < 6) (hM : ME δ cnt els I) (hl : els.length ≤ 6) (hw : ∀ a ∈ els, WfE T a) : jRI E jB kX5_readKnownName [VR m, VI (pko (nxt T f))] G I (fun x I' => (∀ p, pPt T els f = .error p → x = -1 ∧ I' m 4 = p.1 ∧ I' m 5 = p.2 ∧ C0 m I I') ∧ (∀ a, pPt T els f = .ok a → (∃ e : Nat, x = e ∧ FstK els (4 * told (pbase a.1.1) + a.1.2.1) e) ∧ pkd a.1.1 = pko (nxt T f) ∧ a.1.1 ≠ 4 ∧ I' m 2 = a.2 ∧ I' m 4 = I m 4 ∧ I' m 5 = I m 5 ∧ C0 m I I')) := by
  have hlf : f < T.length := nxt_lt (bgP_ne hb)
  have h2 := h.2.2.2.2.1
  have f0 := h.2.2.2.2.2.1.1
  have h300 := h.2.2.1
  have hmd := h.1.2.2
  have er : ∀ (p : Int × Int) (I' : jM), pPt T els f = .error p → I' m 4 = p.1 → I' m 5 = p.2 → C0 m I I' → ((∀ p, pPt T els f = .error p → (-1 : Int) = -1 ∧ I' m 4 = p.1 ∧ I' m 5 = p.2 ∧ C0 m I I') ∧ (∀ a, pPt T els f = .ok a → (∃ e : Nat, (-1 : Int) = e ∧ FstK els (4 * told (pbase a.1.1) + a.1.2.1) e) ∧ pkd a.1.1 = pko (nxt T f) ∧ a.1.1 ≠ 4 ∧ I' m 2 = a.2 ∧ I' m 4 = I m 4 ∧ I' m 5 = I m 5 ∧ C0 m I I')) := by
    intro p I' e a b c
    refine ⟨fun p' e' => ?_, fun a e' => ?_⟩
    · rw [e] at e'; injection e' with e'; rw [← e']; exact ⟨rfl, a, b, c⟩
    · rw [e] at e'; cases e'
  have ok : ∀ (g : Int) (a : (Int × Int × Int) × Int) (e : Nat) (I' : jM), pPt T els f = pPn T els (nxt T f) g → ((sby (nxt T f) ≠ -1 ∧ nxt T f = nxt T g) ∨ (nxt T f = 126 ∧ sby (nxt T g) = 0) ∨ ((nxt T f = 43 ∨ nxt T f = 45) ∧ sby (nxt T g) = 1)) → pPn T els (nxt T f) g = .ok a → FstK els (4 * told (sby (nxt T g)) + (nxt T (g + 1) - 97)) e → I' m 2 = a.2 → I' m 4 = I m 4 → I' m 5 = I m 5 → C0 m I I' → ((∀ p, pPt T els f = .error p → (e : Int) = -1 ∧ I' m 4 = p.1 ∧ I' m 5 = p.2 ∧ C0 m I I') ∧ (∀ a, pPt T els f = .ok a → (∃ e' : Nat, (e : Int) = e' ∧ FstK els (4 * told (pbase a.1.1) + a.1.2.1) e') ∧ pkd a.1.1 = pko (nxt T f) ∧ a.1.1 ≠ 4 ∧ I' m 2 = a.2 ∧ I' m 4 = I m 4 ∧ I' m 5 = I m 5 ∧ C0 m I I')) := by
    intro g a e I' ep hcc ea hF k2 k4 k5 kc
    rw [ep, ea]
    obtain ⟨b1, b2, b3⟩ := pPn_base hcc ea
    have b4 := (pPn_ok hcc ea).2.1
    refine ⟨fun p' e' => (by cases e'), fun a' e' => ?_⟩
    injection e' with e'
    subst e'
    rw [b1, b2]
    exact ⟨⟨e, rfl, hF⟩, b3, b4, k2, k4, k5, kc⟩
  have tr : ∀ {P : Int → jM → Prop} {x : Int} {I' : jM}, P x I' → P x I' := fun h => h
  refine en_X5_readKnownName hm (fun _ _ => ?_)
  rw [h2]
  have pk0 : pko (nxt T f) = 0 ↔ sby (nxt T f) ≠ -1 := by
    rw [bgP_iff] at hb
    rw [← isNs_iff]
    unfold pko isNs at *
    constructor
    · intro e
      by_cases c1 : nxt T f = 43
      · rw [if_neg h39, if_pos c1] at e; omega
      · by_cases c2 : nxt T f = 45
        · rw [if_neg h39, if_neg c1, if_pos c2] at e; omega
        · by_cases c3 : nxt T f = 126
          · rw [if_neg h39, if_neg c1, if_neg c2, if_pos c3] at e; omega
          · omega
    · intro e
      rw [if_neg (by omega), if_neg (by omega), if_neg (by omega), if_neg (by omega)]
  have pk3 : pko (nxt T f) = 3 ↔ nxt T f = 126 := by
    unfold pko
    constructor
    · intro e
      by_cases c1 : nxt T f = 43
      · rw [if_neg h39, if_pos c1] at e; omega
      · by_cases c2 : nxt T f = 45
        · rw [if_neg h39, if_neg c1, if_pos c2] at e; omega
        · by_cases c3 : nxt T f = 126
          · exact c3
          · rw [if_neg h39, if_neg c1, if_neg c2, if_neg c3] at e; omega
    · intro e
      rw [if_neg (by omega), if_neg (by omega), if_neg (by omega), if_pos e]
  refine ⟨fun q => ?_, fun q => ⟨⟨by omega, by omega⟩, fun M1 e1 => ?_⟩⟩
  · have hs := pk0.mp q
    have ep : pPt T els f = pPn T els (nxt T f) f := by unfold pPt; rw [if_neg h39, if_pos hs]
    exact kn_tree (c := nxt T f) (q := fun x I' => (∀ p, pPt T els f = .error p → x = -1 ∧ I' m 4 = p.1 ∧ I' m 5 = p.2 ∧ C0 m I I') ∧ (∀ a, pPt T els f = .ok a → (∃ e : Nat, x = e ∧ FstK els (4 * told (pbase a.1.1) + a.1.2.1) e) ∧ pkd a.1.1 = pko (nxt T f) ∧ a.1.1 ≠ 4 ∧ I' m 2 = a.2 ∧ I' m 4 = I m 4 ∧ I' m 5 = I m 5 ∧ C0 m I I')) hm hδ h hlf hs hc hcn hM hl hw (fun p I' e a b c => er p I' (by rw [ep]; exact e) a b c) (fun a e I' ea hF k2 k4 k5 kc => ok f a e I' ep (Or.inl ⟨hs, rfl⟩) ea hF k2 k4 k5 kc)
  · have hs : sby (nxt T f) = -1 := Classical.byContradiction (fun n => q (pk0.mpr n))
    have hd := h.mv e1 (by omega) (by omega)
    have kc : C0 m I M1 := C0.up e1 (by omega)
    have c1 : M1 δ 1 = cnt := by rw [kc _ _ (by omega)]; exact hc
    have hM2 := hM.c0 hmd kc
    have m4 : M1 m 4 = I m 4 := jr_nj e1 (by omega)
    have m5 : M1 m 5 = I m 5 := jr_nj e1 (by omega)
    rw [hd.nx]
    have wr : sby (nxt T (f + 1)) ≠ (if nxt T f = 126 then 0 else 1) → jRI E jB kX5_fail [VR m, VI 1, VI (f + 1)] G M1 (fun r I' => (∀ p, pPt T els f = .error p → (-1 : Int) = -1 ∧ I' m 4 = p.1 ∧ I' m 5 = p.2 ∧ C0 m I I') ∧ (∀ a, pPt T els f = .ok a → (∃ e : Nat, (-1 : Int) = e ∧ FstK els (4 * told (pbase a.1.1) + a.1.2.1) e) ∧ pkd a.1.1 = pko (nxt T f) ∧ a.1.1 ≠ 4 ∧ I' m 2 = a.2 ∧ I' m 4 = I m 4 ∧ I' m 5 = I m 5 ∧ C0 m I I')) := fun n => (cl_fail hm).mono (fun r I' _ _ w => er (1, f + 1) I' (by unfold pPt; rw [if_neg h39, if_neg (fun z => z hs), if_pos n]) w.2.1 w.2.2.1 (kc.trans w.2.2.2))
    have go : sby (nxt T (f + 1)) = (if nxt T f = 126 then 0 else 1) → sby (nxt T (f + 1)) ≠ -1 → jRI E jB kX5_readName [VR m] G M1 (fun r2 I1 => ((¬ r2 = (-1) → (∃ b4 : Nat, I1 m 3 = (b4 : Int) ∧ WX6 G b4 ∧ (∃ b7 : Nat, I1 m 3 = (b7 : Int) ∧ WX6 G b7 ∧ jRI E jB kX6_elementNamed [VR b4, VI (I1 b7 1), VI r2] G I1 (fun r11 I10 => ((¬ r11 = (-1) → ((fun x I' => (∀ p, pPt T els f = .error p → x = -1 ∧ I' m 4 = p.1 ∧ I' m 5 = p.2 ∧ C0 m I I') ∧ (∀ a, pPt T els f = .ok a → (∃ e : Nat, x = e ∧ FstK els (4 * told (pbase a.1.1) + a.1.2.1) e) ∧ pkd a.1.1 = pko (nxt T f) ∧ a.1.1 ≠ 4 ∧ I' m 2 = a.2 ∧ I' m 4 = I m 4 ∧ I' m 5 = I m 5 ∧ C0 m I I')) : Int → jM → Prop) r11 I10) ∧ (r11 = (-1) → jRI E jB kX5_fail [VR m, VI 5, VI (f + 1)] G I10 (fun r14 I13 => ((fun x I' => (∀ p, pPt T els f = .error p → x = -1 ∧ I' m 4 = p.1 ∧ I' m 5 = p.2 ∧ C0 m I I') ∧ (∀ a, pPt T els f = .ok a → (∃ e : Nat, x = e ∧ FstK els (4 * told (pbase a.1.1) + a.1.2.1) e) ∧ pkd a.1.1 = pko (nxt T f) ∧ a.1.1 ≠ 4 ∧ I' m 2 = a.2 ∧ I' m 4 = I m 4 ∧ I' m 5 = I m 5 ∧ C0 m I I')) : Int → jM → Prop) r11 I13))))))) ∧ (r2 = (-1) → ((fun x I' => (∀ p, pPt T els f = .error p → x = -1 ∧ I' m 4 = p.1 ∧ I' m 5 = p.2 ∧ C0 m I I') ∧ (∀ a, pPt T els f = .ok a → (∃ e : Nat, x = e ∧ FstK els (4 * told (pbase a.1.1) + a.1.2.1) e) ∧ pkd a.1.1 = pko (nxt T f) ∧ a.1.1 ≠ 4 ∧ I' m 2 = a.2 ∧ I' m 4 = I m 4 ∧ I' m 5 = I m 5 ∧ C0 m I I')) : Int → jM → Prop) (-1) I1))) := by
      intro hv hv'
      have ep : pPt T els f = pPn T els (nxt T f) (f + 1) := by unfold pPt; rw [if_neg h39, if_neg (fun z => z hs), if_neg (fun z => z hv)]
      have hl1 : f + 1 < T.length := nxt_lt (fun z => hv' (by rw [z]; decide))
      have hcc : (sby (nxt T f) ≠ -1 ∧ nxt T f = nxt T (f + 1)) ∨ (nxt T f = 126 ∧ sby (nxt T (f + 1)) = 0) ∨ ((nxt T f = 43 ∨ nxt T f = 45) ∧ sby (nxt T (f + 1)) = 1) := by
        by_cases c3 : nxt T f = 126
        · rw [if_pos c3] at hv; exact Or.inr (Or.inl ⟨c3, hv⟩)
        · rw [if_neg c3] at hv
          refine Or.inr (Or.inr ⟨?_, hv⟩)
          rcases hb with hb | hb | hb | hb | hb
          · exact absurd hs hb
          · exact Or.inl hb
          · exact Or.inr hb
          · exact absurd hb c3
          · exact absurd hb h39
      exact kn_tree (c := nxt T f) (q := fun x I' => (∀ p, pPt T els f = .error p → x = -1 ∧ I' m 4 = p.1 ∧ I' m 5 = p.2 ∧ C0 m I I') ∧ (∀ a, pPt T els f = .ok a → (∃ e : Nat, x = e ∧ FstK els (4 * told (pbase a.1.1) + a.1.2.1) e) ∧ pkd a.1.1 = pko (nxt T f) ∧ a.1.1 ≠ 4 ∧ I' m 2 = a.2 ∧ I' m 4 = I m 4 ∧ I' m 5 = I m 5 ∧ C0 m I I')) hm hδ hd hl1 hv' c1 hcn hM2 hl hw (fun p I' e a b c => er p I' (by rw [ep]; exact e) a b (kc.trans c)) (fun a e I' ea hF k2 k4 k5 kc' => ok (f + 1) a e I' ep hcc ea hF k2 (by rw [k4]; exact m4) (by rw [k5]; exact m5) (kc.trans kc'))
    refine ⟨hd.pre, fun c => ⟨fun z => ?_, fun z => ?_⟩, fun c => ⟨fun z => ?_, fun z => ?_⟩⟩
    · have c3 : ¬ nxt T f = 126 := fun n => c (pk3.mpr n)
      have z' := sby_12.2.mpr z
      exact go (by rw [if_neg c3]; exact z') (by omega)
    · have c3 : ¬ nxt T f = 126 := fun n => c (pk3.mpr n)
      exact wr (by rw [if_neg c3]; exact fun n => z (sby_12.2.mp n))
    · have c3 := pk3.mp c
      have z' := sby_12.1.mpr z
      exact go (by rw [if_pos c3]; exact z') (by omega)
    · have c3 := pk3.mp c
      exact wr (by rw [if_pos c3]; exact fun n => z (sby_12.1.mp n))
theorem pst_tree {slot elem s fr w : Int} (hδ : WX6 G δ) (hmd : δ + 13 ≤ m ∨ m < δ) (h3 : I m 3 = δ) (hc : I δ 1 = cnt) (hcn : 0 ≤ cnt ∧ cnt < 6) (hs : 0 ≤ slot ∧ slot < 36) (he : 0 ≤ elem ∧ elem ≤ 6) (h2 : 0 ≤ I m 2 ∧ I m 2 ≤ 300) (hw : w = δ) {q : Int → jM → Prop} (hq : ∀ M, PSt m δ cnt slot elem s fr I M → q 1 M) : (∃ b17 : Nat, w = (b17 : Int) ∧ WX6 G b17 ∧ ((0 : Int) ≤ slot ∧ (slot : Int) < 36) ∧ (∀ M21, M21 = jup I (b17 + 10) slot s → (∃ b22 : Nat, M21 m 3 = (b22 : Int) ∧ WX6 G b22 ∧ ((0 : Int) ≤ slot ∧ (slot : Int) < 36) ∧ (∀ M26, M26 = jup M21 (b22 + 11) slot fr → (∃ b27 : Nat, M26 m 3 = (b27 : Int) ∧ WX6 G b27 ∧ ((0 : Int) ≤ slot ∧ (slot : Int) < 36) ∧ jIn ((M26 m 2) - 1) ∧ (∀ M32, M32 = jup M26 (b27 + 12) slot ((M26 m 2) - 1) → (∃ b33 : Nat, M32 m 3 = (b33 : Int) ∧ WX6 G b33 ∧ (∃ b36 : Nat, M32 m 3 = (b36 : Int) ∧ WX6 G b36 ∧ ((0 : Int) ≤ (M32 b36 1) ∧ ((M32 b36 1) : Int) < 6) ∧ jIn (elem + 1) ∧ (∀ M41, M41 = jup M32 (b33 + 4) (M32 b36 1) (elem + 1) → q 1 M41))))))))) := by
  refine ⟨δ, hw, hδ, hs, fun M21 e21 => ⟨δ, by rw [jr_na e21 (by omega)]; exact h3, hδ, hs, fun M26 e26 => ?_⟩⟩
  have k3 : M26 m 3 = δ := by rw [jr_na e26 (by omega), jr_na e21 (by omega)]; exact h3
  have k2 : M26 m 2 = I m 2 := by rw [jr_na e26 (by omega), jr_na e21 (by omega)]
  rw [k2]
  refine ⟨δ, k3, hδ, hs, ⟨by omega, by omega⟩, fun M32 e32 => ?_⟩
  have k3' : M32 m 3 = δ := by rw [jr_na e32 (by omega)]; exact k3
  have k1 : M32 δ 1 = cnt := by rw [jr_na e32 (by omega), jr_na e26 (by omega), jr_na e21 (by omega)]; exact hc
  refine ⟨δ, k3', hδ, δ, k3', hδ, ?_⟩
  rw [k1]
  refine ⟨hcn, ⟨by omega, by omega⟩, fun M41 e41 => hq M41 ⟨?_, ?_, ?_, ?_, fun a a0 a1 => ?_⟩⟩
  · funext k; rw [jr_na e41 (by omega), jr_na e32 (by omega), jr_na e26 (by omega), jup_at e21]; rfl
  · funext k; rw [jr_na e41 (by omega), jr_na e32 (by omega), jup_at e26, jr_na e21 (by omega)]; rfl
  · funext k; rw [jr_na e41 (by omega), jup_at e32, jr_na e26 (by omega), jr_na e21 (by omega)]; rfl
  · funext k; rw [jup_at e41, jr_na e32 (by omega), jr_na e26 (by omega), jr_na e21 (by omega)]; rfl
  · funext k; rw [jr_na e41 (by omega), jr_na e32 (by omega), jr_na e26 (by omega), jr_na e21 (by omega)]
theorem PSt.cu {slot elem s fr : Int} (h : PSt m δ cnt slot elem s fr I M) (hs : 6 * cnt ≤ slot) : CU m δ cnt I M := by
  obtain ⟨h10, h11, h12, h4, ho⟩ := h
  intro a j _ hb
  by_cases q : a ≠ δ + 4 ∧ (a < δ + 10 ∨ δ + 12 < a)
  · rw [ho a q.1 q.2]
  · have : a = δ + 4 ∨ a = δ + 10 ∨ a = δ + 11 ∨ a = δ + 12 := by omega
    rcases this with e | e | e | e <;> subst e
    · rw [h4]; exact up_ne (by omega)
    · rw [h10]; exact up_ne (by omega)
    · rw [h11]; exact up_ne (by omega)
    · rw [h12]; exact up_ne (by omega)
theorem ME.cong {r : Int} (h : ME δ r els I) (f3 : M (δ + 3) = I (δ + 3)) (f6 : M (δ + 6) = I (δ + 6)) (f7 : M (δ + 7) = I (δ + 7)) (f8 : M (δ + 8) = I (δ + 8)) (f9 : M (δ + 9) = I (δ + 9)) : ME δ r els M := by
  unfold ME EC at h ⊢
  rw [f3, f6, f7, f8, f9]
  exact h
theorem MP.c0 {r : Int} (h : MP δ r els pts I) (hmd : δ + 13 ≤ m ∨ m < δ) (hw : C0 m I M) : MP δ r els pts M := by
  have f : ∀ k : Nat, k < 13 → M (δ + k) = I (δ + k) := fun k hk => by funext j; exact hw _ _ (by omega)
  unfold MP PC at h ⊢
  rw [f 4 (by omega), f 10 (by omega), f 11 (by omega), f 12 (by omega)]
  exact h
theorem MP.push {a : Int × Int × Int} {s fr : Int} (h : MP δ cnt els pts I) (hE : PSt m δ cnt (cnt * 6 + pts.length) pts.length s fr I M) (hs : s = pkd a.1) (h4 : a.1 = 4 → fr = a.2.1 ∧ I m 2 - 1 = a.2.1 + a.2.2) (hn : a.1 ≠ 4 → ∃ e : Nat, fr = e ∧ FstK els (4 * told (pbase a.1) + a.2.1) e) : MP δ cnt els (pts ++ [a]) M := by
  obtain ⟨g10, g11, g12, g4, _⟩ := hE
  have hl : (pts ++ [a]).length = pts.length + 1 := by rw [List.length_append]; rfl
  refine ⟨by rw [g4, up_eq, hl]; omega, fun e he => ?_⟩
  rw [hl] at he
  by_cases q : e = pts.length
  · have ea : (pts ++ [a]).getD e (0, 0, 0) = a := by rw [q, gd_right (Nat.le_refl _), Nat.sub_self]; rfl
    unfold PC
    rw [ea, g10, g11, g12, show 6 * cnt + (e : Int) = cnt * 6 + pts.length by omega, up_eq, up_eq, up_eq]
    exact ⟨hs, h4, hn⟩
  · have ea : (pts ++ [a]).getD e (0, 0, 0) = pts.getD e (0, 0, 0) := gd_left (by omega)
    have he' : e < pts.length := by omega
    have ns : 6 * cnt + (e : Int) ≠ cnt * 6 + pts.length := by omega
    have k := h.2 e he'
    unfold PC at k ⊢
    rw [ea, g10, g11, g12, up_ne ns, up_ne ns, up_ne ns]
    exact k
def RQ (m δ : Nat) (cnt : Int) (els pts : List (Int × Int × Int)) (I I' : jM) (x : Int) (r : Except (Int × Int) ((Int × Int × Int) × Int)) : Prop := (∀ p, r = .error p → x = 0 ∧ I' m 4 = p.1 ∧ I' m 5 = p.2 ∧ CU m δ cnt I I') ∧ ∀ a, r = .ok a → x = 1 ∧ I' m 2 = a.2 ∧ MP δ cnt els (pts ++ [a.1]) I' ∧ ME δ cnt els I' ∧ CU m δ cnt I I' ∧ I' m 4 = I m 4 ∧ I' m 5 = I m 5 ∧ I' (δ + 2) = I (δ + 2)
theorem RQ.er {x : Int} {I' : jM} {r : Except (Int × Int) ((Int × Int × Int) × Int)} {p : Int × Int} (e : r = .error p) (h : x = 0 ∧ I' m 4 = p.1 ∧ I' m 5 = p.2 ∧ CU m δ cnt I I') : RQ m δ cnt els pts I I' x r := ⟨fun p' e' => (by rw [e] at e'; injection e' with e'; rw [← e']; exact h), fun a e' => (by rw [e] at e'; cases e')⟩
theorem RQ.okk {x : Int} {I' : jM} {r : Except (Int × Int) ((Int × Int × Int) × Int)} {a : (Int × Int × Int) × Int} (e : r = .ok a) (h : x = 1 ∧ I' m 2 = a.2 ∧ MP δ cnt els (pts ++ [a.1]) I' ∧ ME δ cnt els I' ∧ CU m δ cnt I I' ∧ I' m 4 = I m 4 ∧ I' m 5 = I m 5 ∧ I' (δ + 2) = I (δ + 2)) : RQ m δ cnt els pts I I' x r := ⟨fun p' e' => (by rw [e] at e'; cases e'), fun a' e' => (by rw [e] at e'; injection e' with e'; rw [← e']; exact h)⟩
theorem cl_readPart (hm : WX5 G m) (hδ : WX6 G δ) (h : CD m δ I T f) (hb : bgP (nxt T f)) (hc : I δ 1 = cnt) (hcn : 0 ≤ cnt ∧ cnt < 6) (hM : ME δ cnt els I) (hl : els.length ≤ 6) (hw : ∀ a ∈ els, WfE T a) (hP : MP δ cnt els pts I) (hpl : pts.length ≤ 5) : jRI E jB kX5_readPart [VR m, VI (nxt T f)] G I (fun x I' => RQ m δ cnt els pts I I' x (pPt T els f)) := by
  have hlf : f < T.length := nxt_lt (bgP_ne hb)
  have h2 := h.2.2.2.2.1
  have f0 := h.2.2.2.2.2.1.1
  have h3 := h.2.2.2.2.2.2
  have h300 := h.2.2.1
  have hmd := h.1.2.2
  have e4 := hP.1
  have hsl : 0 ≤ cnt * 6 + (pts.length : Int) ∧ cnt * 6 + (pts.length : Int) < 36 := by omega
  have hel : 0 ≤ (pts.length : Int) ∧ (pts.length : Int) ≤ 6 := by omega
  have hs6 : 6 * cnt ≤ cnt * 6 + (pts.length : Int) := by omega
  have pk4 : pko (nxt T f) = 4 ↔ nxt T f = 39 := by
    unfold pko
    constructor
    · intro e
      by_cases c : nxt T f = 39
      · exact c
      · rw [if_neg c] at e
        split at e
        · omega
        · split at e
          · omega
          · split at e <;> omega
    · intro e; rw [if_pos e]
  have n2 : δ + 2 ≠ m := by omega
  have fin : ∀ (I1 : jM) (a : (Int × Int × Int) × Int) (fr : Int), pPt T els f = .ok a → C0 m I I1 → I1 m 2 = a.2 → I1 m 4 = I m 4 → I1 m 5 = I m 5 → pkd a.1.1 = pko (nxt T f) → (a.1.1 = 4 → fr = a.1.2.1 ∧ I1 m 2 - 1 = a.1.2.1 + a.1.2.2) → (a.1.1 ≠ 4 → ∃ e : Nat, fr = e ∧ FstK els (4 * told (pbase a.1.1) + a.1.2.1) e) → ∀ M, PSt m δ cnt (cnt * 6 + pts.length) pts.length (pko (nxt T f)) fr I1 M → RQ m δ cnt els pts I M 1 (pPt T els f) := by
    intro I1 a fr ea kc k2 k4 k5 kp f1 f2 M hE
    have o := hE.2.2.2.2
    refine RQ.okk ea ⟨rfl, ?_, ?_, ?_, (kc.cu).trans (hE.cu hs6), ?_, ?_, ?_⟩
    · rw [o m (by omega) (by omega), k2]
    · exact (hP.c0 hmd kc).push hE kp.symm f1 f2
    · exact (hM.c0 hmd kc).cong (o _ (by omega) (by omega)) (o _ (by omega) (by omega)) (o _ (by omega) (by omega)) (o _ (by omega) (by omega)) (o _ (by omega) (by omega))
    · rw [o m (by omega) (by omega), k4]
    · rw [o m (by omega) (by omega), k5]
    · rw [o (δ + 2) (by omega) (by omega)]; funext j; exact kc _ _ (Or.inl n2)
  refine en_X5_readPart hm (fun _ _ => ⟨δ, h3, hδ, δ, h3, hδ, ?_⟩)
  rw [hc, e4]
  refine ⟨hcn, δ, h3, hδ, ?_⟩
  rw [hc, h2]
  refine ⟨⟨by omega, by omega⟩, ⟨by omega, by omega⟩, fun q => ?_, fun q => ?_⟩
  · have h39 : nxt T f ≠ 39 := fun n => q (pk4.mpr n)
    refine (cl_readKnownName hm hδ h hb h39 hc hcn hM hl hw).mono (fun r I1 _ _ k => ?_)
    cases e : pPt T els f with
    | error p =>
      obtain ⟨k1, k4, k5, kc⟩ := k.1 p e
      exact ⟨fun z => absurd k1 z, fun _ => RQ.er rfl ⟨rfl, k4, k5, kc.cu⟩⟩
    | ok a =>
      obtain ⟨w1, w2, w3, w4⟩ := pPt_ok f0 hb e
      obtain ⟨⟨e0, k0, kF⟩, k1, kn4, k2, k4, k5, kc⟩ := k.2 a e
      have c3 : I1 m 3 = δ := by rw [kc _ _ (by omega)]; exact h3
      have r0 : r ≠ -1 := by omega
      refine ⟨fun _ => pst_tree (q := fun x I' => RQ m δ cnt els pts I I' x (Except.ok a)) hδ hmd c3 (by rw [kc _ _ (by omega)]; exact hc) hcn hsl hel (by rw [k2]; omega) c3 ?_, fun z => absurd z r0⟩
      rw [← e]
      exact fin I1 a r e kc k2 k4 k5 k1 (fun n => absurd n kn4) (fun _ => ⟨e0, k0, kF⟩)
  · have h39 := pk4.mp q
    have b := qs_bd (T := T) 300 (f + 1)
    have ep : pPt T els f = pBy T f 0 := by unfold pPt; rw [if_pos h39]
    refine (cl_readQuote hm h h39).mono (fun r I1 _ _ k => ?_)
    by_cases qz : nxt T (qs T 300 (f + 1)) = 39
    · obtain ⟨k1, k2, k4, k5, kc⟩ := k.2 qz
      have hz : qs T 300 (f + 1) < T.length := nxt_lt (by omega)
      have c3 : I1 m 3 = δ := by rw [kc _ _ (by omega)]; exact h3
      have eo : pPt T els f = .ok ((4, f + 1, qs T 300 (f + 1) - f - 1), qs T 300 (f + 1) + 1) := by
        rw [ep]
        unfold pBy
        rw [if_neg (fun n => n qz), if_neg (fun n => by have := n.1; omega)]
      exact ⟨fun _ => pst_tree (q := fun x I' => RQ m δ cnt els pts I I' x (pPt T els f)) hδ hmd c3 (by rw [kc _ _ (by omega)]; exact hc) hcn hsl hel (by rw [k2]; omega) c3 (fin I1 _ (f + 1) eo kc k2 k4 k5 (by rw [q]; rfl) (fun _ => ⟨rfl, by rw [k2]; show qs T 300 (f + 1) + 1 - 1 = f + 1 + (qs T 300 (f + 1) - f - 1); omega⟩) (fun n => absurd rfl n)), fun z => by omega⟩
    · obtain ⟨k1, k4, k5, kc⟩ := k.1 qz
      refine ⟨fun z => absurd k1 z, fun _ => RQ.er (p := (1, qs T 300 (f + 1))) ?_ ⟨rfl, k4, k5, kc.cu⟩⟩
      rw [ep]
      unfold pBy
      rw [if_pos qz]
end CC1
