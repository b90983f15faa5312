/-! ===== the class: read ===== -/
def FRd (m δ : Nat) (I I' : jM) : Prop := ∀ a j, a ≠ m → ¬ (δ ≤ a ∧ a < δ + 13) → I' a j = I a j
def RdQ (m δ : Nat) (B : Int → Int) (T : List Int) (I : jM) (x : Int) (I' : jM) : Prop := (∀ p, pAll T = .error p → x = 0 ∧ I' m 4 = p.1 ∧ I' m 5 = p.2) ∧ (∀ rl, pAll T = .ok rl → x = 1 ∧ I' m 4 = 0 ∧ I' m 5 = -1 ∧ RU δ (ruB B T rl) I') ∧ FRd m δ I I'
section CF
variable {E : jE} {G : jG} {m δ : Nat} {I M : jM} {T : List Int} {B : Int → Int} {f g cnt : Int}
theorem FRd.trans {I I' I'' : jM} (h : FRd m δ I I') (h' : FRd m δ I' I'') : FRd m δ I I'' := fun a j ha hb => (h' a j ha hb).trans (h a j ha hb)
theorem CU.frd {I I' : jM} (h : CU m δ cnt I I') : FRd m δ I I' := fun a j ha hb => h a j (Or.inl ha) (by omega)
theorem RdQ.er {x : Int} {I' : jM} {p : Int × Int} (e : pAll T = .error p) (h : x = 0 ∧ I' m 4 = p.1 ∧ I' m 5 = p.2) (hf : FRd m δ I I') : RdQ m δ B T I x I' := ⟨fun p' e' => (by rw [e] at e'; injection e' with e'; rw [← e']; exact h), fun a e' => (by rw [e] at e'; cases e'), hf⟩
theorem RdQ.okk {x : Int} {I' : jM} {rl : List rul} (e : pAll T = .ok rl) (h : x = 1 ∧ I' m 4 = 0 ∧ I' m 5 = -1 ∧ RU δ (ruB B T rl) I') (hf : FRd m δ I I') : RdQ m δ B T I x I' := ⟨fun p' e' => (by rw [e] at e'; cases e'), fun a e' => (by rw [e] at e'; injection e' with e'; rw [← e']; exact h), hf⟩
theorem MR.cong {r : Int} {R : rul} (h : MR δ r R I) (e : ∀ k : Nat, 2 ≤ k → k < 13 → k ≠ 5 → M (δ + k) = I (δ + k)) : MR δ r R M := by
  unfold MR ME EC MP PC at h ⊢
  rw [e 2 (by omega) (by omega) (by omega), e 3 (by omega) (by omega) (by omega), e 4 (by omega) (by omega) (by omega), e 6 (by omega) (by omega) (by omega), e 7 (by omega) (by omega) (by omega), e 8 (by omega) (by omega) (by omega), e 9 (by omega) (by omega) (by omega), e 10 (by omega) (by omega) (by omega), e 11 (by omega) (by omega) (by omega), e 12 (by omega) (by omega) (by omega)]
  exact h
theorem MR.cu {r : Int} {R : rul} {I' : jM} (h : MR δ r R I) (hmd : δ + 13 ≤ m ∨ m < δ) (hw : CU m δ cnt I I') (r1 : r < cnt) (hl : R.2.1.length ≤ 6 ∧ R.2.2.length ≤ 6) : MR δ r R I' := by
  have f : ∀ k : Nat, 2 ≤ k → k ≤ 4 → I' (δ + k) r = I (δ + k) r := fun k h0 h1 => hw _ _ (by omega) (by omega)
  have s : ∀ k : Nat, 6 ≤ k → k < 13 → ∀ e : Nat, e < 6 → I' (δ + k) (6 * r + e) = I (δ + k) (6 * r + e) := fun k h0 h1 e he => hw _ _ (by omega) (by omega)
  obtain ⟨a1, ⟨a2, a3⟩, a4, a5⟩ := h
  refine ⟨by rw [f 2 (by omega) (by omega)]; exact a1, ⟨by rw [f 3 (by omega) (by omega)]; exact a2, fun e he => ?_⟩, by rw [f 4 (by omega) (by omega)]; exact a4, fun e he => ?_⟩
  · have he' : e < 6 := Nat.lt_of_lt_of_le he hl.1
    have k := a3 e he
    unfold EC at k ⊢
    rw [s 6 (by decide) (by decide) e he', s 7 (by decide) (by decide) e he', s 8 (by decide) (by decide) e he', s 9 (by decide) (by decide) e he']
    exact k
  · have he' : e < 6 := Nat.lt_of_lt_of_le he hl.2
    have k := a5 e he
    unfold PC at k ⊢
    rw [s 10 (by decide) (by decide) e he', s 11 (by decide) (by decide) e he', s 12 (by decide) (by decide) e he']
    exact k
theorem pW_ok {w : Int × Int} (f0 : 0 ≤ f) (f1 : f ≤ T.length) (h : pW T cnt f = .ok w) : cnt ≠ 6 ∧ f ≤ w.2 ∧ w.2 ≤ T.length := by
  have b := ds_bd (T := T) 300 0 f (by omega) (by omega)
  unfold pW at h
  split at h
  · cases h
  · split at h
    · cases h
    · split at h
      · cases h
      · rename_i q3
        split at h
        · cases h
        · rename_i q4
          have q4' : nxt T (ds T 300 0 f).2 = 58 := Classical.byContradiction q4
          have hl := nxt_lt (T := T) (f := (ds T 300 0 f).2) (by omega)
          injection h with h
          subst h
          exact ⟨q3, by show f ≤ (ds T 300 0 f).2 + 1; omega, by show (ds T 300 0 f).2 + 1 ≤ _; omega⟩
theorem cl_read (hm : WX5 G m) (hδ : WX6 G δ) (ha : 36 ≤ m ∧ m - 36 < δ ∧ (δ + 13 ≤ m ∨ m < δ)) (hδb : (δ : Int) ≤ 2147483647) (h300 : T.length ≤ 300) (ht : ∀ i : Nat, i < T.length → (0 ≤ T.getD i 0 ∧ T.getD i 0 ≤ 255) ∧ I (m - 36) i = jb8 (T.getD i 0)) : jRI E jB kX5_read [VR m, VI T.length, VR δ] G I (fun x I' => RdQ m δ B T I x I') := by
  have hmd := ha.2.2
  have tail : ∀ (rl : List rul) (g : Int) (I1 : jM), pAll T = .ok rl → CD m δ I1 T g → I1 δ 1 = rl.length → (∀ r : Nat, r < rl.length → MR δ r (rl.getD r (0, [], [])) I1) → I1 m 4 = 0 → I1 m 5 = -1 → FRd m δ I I1 → (∃ b36 : Nat, I1 m 3 = (b36 : Int) ∧ WX6 G b36 ∧ ((0 : Int) ≤ 0 ∧ (0 : Int) ≤ 0 ∧ (0 : Int) ≤ (I1 m 1) ∧ (0 : Int) + (I1 m 1) ≤ 300 ∧ (0 : Int) + (I1 m 1) ≤ 300) ∧ (∀ M40, M40 = jcp I1 (m - 36) (b36 + 1) 0 0 (I1 m 1) → (∃ b41 : Nat, M40 m 3 = (b41 : Int) ∧ WX6 G b41 ∧ jRV E jB kX6_putInOrder [VR b41] G M40 (fun I44 => RdQ m δ B T I 1 I44)))) := by
    intro rl g I1 hp hd h1 hR e4 e5 hf
    obtain ⟨hw, h6⟩ := pAll_ok hp
    have g1 := hd.2.1
    have g3 := hd.2.2.2.2.2.2
    rw [g1]
    refine ⟨δ, g3, hδ, ⟨by omega, by omega, by omega, by omega, by omega⟩, fun M40 e40 => ⟨δ, by rw [jc_na e40 (by omega)]; exact g3, hδ, (cl_putInOrder hδ h6 (by rw [jc_na e40 (by omega)]; exact h1)).mono (fun I4 _ k => ?_)⟩⟩
    obtain ⟨k1, k2⟩ := k
    have cells : ∀ k : Nat, 2 ≤ k → k < 13 → k ≠ 5 → I4 (δ + k) = I1 (δ + k) := fun k a b c => by funext j; rw [k2 _ _ (by omega), jc_na e40 (by omega)]
    have l3 : I4 (δ + 3) = M40 (δ + 3) := by funext j; exact k2 _ _ (by omega)
    refine RdQ.okk hp ⟨rfl, by rw [k2 _ _ (by omega), jc_na e40 (by omega)]; exact e4, by rw [k2 _ _ (by omega), jc_na e40 (by omega)]; exact e5, ?_⟩ (hf.trans (fun a j a0 a1 => by rw [k2 _ _ (by omega), jc_na e40 (by omega)]))
    refine RU_of h300 h6 hw (by rw [k2 _ _ (by omega), jc_na e40 (by omega)]; exact h1) (fun r hr => (hR r hr).cong cells) (fun i hi => ?_) (fun r hr => by rw [l3]; exact k1 r hr)
    rw [k2 _ _ (by omega), e40]
    unfold jcp
    rw [if_pos (by omega), show (0 : Int) + ((i : Int) - 0) = i by omega]
    exact (hd.2.2.2.1 i hi).2
  have loop : 0 < T.length → ∀ (d : Nat) (acc : List rul) (g : Int) (I1 : jM), acc.length + d = 7 → acc.length ≤ 6 → CD m δ I1 T g → I1 δ 1 = acc.length → (∀ r : Nat, r < acc.length → MR δ r (acc.getD r (0, [], [])) I1) → (∀ R ∈ acc, WfR T R) → I1 m 4 = 0 → I1 m 5 = -1 → FRd m δ I I1 → pAll T = pRls T d acc g → jOI E jB kX5_read 53 [VR m, VI T.length, VR δ, VI (acc.length : Int)] G I1 (fun x I' => RdQ m δ B T I x I') := by
    intro hT d
    induction d with
    | zero => intro acc g I1 hc h6; omega
    | succ d ih =>
      intro acc g I1 hc h6 hd h1 hR hW e4 e5 hf hp
      have hp' : pAll T = (match pRl T acc.length g with
        | .error p => .error p
        | .ok a => if nxt T a.2 = 59 then pRls T d (acc ++ [a.1]) (a.2 + 1) else .ok (acc ++ [a.1])) := hp
      have g1 := hd.2.1
      have gb := hd.2.2.2.2.2.1
      have pe := pRl_eq (T := T) (cnt := (acc.length : Int)) (f := g)
      refine st_X5_read_53 hm hδ (fun _ _ _ => ⟨fun z => by omega, fun _ => ⟨fun z => by omega, fun _ => (cl_readWeight hm hδ hd h1 (by omega)).mono (fun r I2 _ _ k => ?_)⟩⟩)
      cases e : pW T acc.length g with
      | error p =>
        simp only [e] at pe
        simp only [pe] at hp'
        obtain ⟨k1, k4, k5, ku⟩ := k.1 p e
        exact ⟨fun _ => RdQ.er hp' ⟨rfl, k4, k5⟩ (hf.trans ku.frd), fun z => absurd k1 z⟩
      | ok w =>
        simp only [e] at pe
        obtain ⟨k1, k2, kw, k3, k3', ku, k4, k5⟩ := k.2 w e
        obtain ⟨n6, w1, w2⟩ := pW_ok gb.1 gb.2 e
        have hd2 := hd.cu ku k2 (by omega) w2
        have c2 : I2 δ 1 = acc.length := by rw [ku _ _ (by omega) (by omega)]; exact h1
        refine ⟨fun z => by omega, fun _ => (cl_readElements hm hδ hd2 c2 (by omega) ⟨k3, fun e he => absurd he (Nat.not_lt_zero e)⟩).mono (fun r2 I3 _ _ l => ?_)⟩
        cases e2 : pEls T 6 [] w.2 with
        | error p =>
          simp only [e2] at pe
          simp only [pe] at hp'
          obtain ⟨l1, l4, l5, lu⟩ := l.1 p e2
          exact ⟨fun _ => RdQ.er hp' ⟨rfl, l4, l5⟩ (hf.trans (ku.trans lu).frd), fun z => absurd l1 z⟩
        | ok a =>
          simp only [e2] at pe
          obtain ⟨l1, l2, ⟨lM, lP⟩, lu, l4, l5, ld⟩ := l.2 a e2
          obtain ⟨v1, v2, v3, v4⟩ := pEls_ok 6 [] _ (by omega) (fun a ha => absurd ha List.not_mem_nil) rfl e2
          have hd3 := hd2.cu lu l2 (by omega) v4
          have c3 : I3 δ 1 = acc.length := by rw [lu _ _ (by omega) (by omega)]; exact c2
          refine ⟨fun z => by omega, fun _ => (cl_readParts hm hδ hd3 c3 (by omega) lM v2.2 v1 ⟨by rw [lP]; exact k3', fun e he => absurd he (Nat.not_lt_zero e)⟩).mono (fun r3 I4 _ _ o => ?_)⟩
          cases e3 : pPts T a.1 6 [] a.2 with
          | error p =>
            simp only [e3] at pe
            simp only [pe] at hp'
            obtain ⟨o1, o4, o5, ou⟩ := o.1 p e3
            exact ⟨fun z => absurd o1 z, fun _ => RdQ.er hp' ⟨rfl, o4, o5⟩ (hf.trans ((ku.trans lu).trans ou).frd)⟩
          | ok b =>
            simp only [e3] at pe
            simp only [pe] at hp'
            obtain ⟨o1, o2, ⟨oM, oP⟩, ou, o4, o5, od⟩ := o.2 b e3
            obtain ⟨x1, x2, x3, x4, x5⟩ := pRl_ok gb.1 gb.2 pe
            have x2' : g ≤ b.2 := x2
            have x3' : b.2 ≤ T.length := x3
            have hd4 := hd3.cu ou o2 (by omega) x3'
            have c4 : I4 δ 1 = acc.length := by rw [ou _ _ (by omega) (by omega)]; exact c3
            have cu4 := (ku.trans lu).trans ou
            have hl : (acc ++ [((w.1, a.1, b.1) : rul)]).length = acc.length + 1 := by rw [List.length_append]; rfl
            refine ⟨fun _ => ⟨δ, hd4.2.2.2.2.2.2, hδ, ?_⟩, fun z => by omega⟩
            rw [c4]
            refine ⟨⟨by omega, by omega⟩, fun M31 e31 => ?_⟩
            have cells : ∀ k : Nat, 2 ≤ k → k < 13 → k ≠ 5 → M31 (δ + k) = I4 (δ + k) := fun k _ _ _ => by funext j; exact jr_na e31 (by omega)
            have hR' : ∀ r : Nat, r < (acc ++ [((w.1, a.1, b.1) : rul)]).length → MR δ r ((acc ++ [((w.1, a.1, b.1) : rul)]).getD r (0, [], [])) M31 := by
              intro r hr
              rw [hl] at hr
              by_cases q : r = acc.length
              · have ea : (acc ++ [((w.1, a.1, b.1) : rul)]).getD r (0, [], []) = (w.1, a.1, b.1) := by rw [q, gd_right (Nat.le_refl _), Nat.sub_self]; rfl
                rw [ea, q]
                refine MR.cong ⟨?_, oM, oP⟩ cells
                rw [od, ld]; exact kw
              · rw [gd_left (by omega)]
                have wf := hW _ (gd_mem (d := (0, [], [])) (show r < acc.length by omega))
                exact ((hR r (by omega)).cu hmd cu4 (by omega) ⟨wf.2.2.1.2, wf.2.2.2.2⟩).cong cells
            have hW' : ∀ R ∈ acc ++ [((w.1, a.1, b.1) : rul)], WfR T R := by
              intro R hm
              rcases List.mem_append.mp hm with z | z
              · exact hW R z
              · rw [List.mem_singleton.mp z]; exact x1
            have hd31 : CD m δ M31 T b.2 := by
              obtain ⟨y0, y1, y2, y3, y4, y5, y6⟩ := hd4
              exact ⟨y0, by rw [jr_na e31 (by omega)]; exact y1, y2, fun i hi => by rw [jr_na e31 (by omega)]; exact y3 i hi, by rw [jr_na e31 (by omega)]; exact y4, y5, by rw [jr_na e31 (by omega)]; exact y6⟩
            have f31 : FRd m δ I M31 := (hf.trans cu4.frd).trans (fun a j a0 a1 => jr_na e31 (by omega))
            have m4 : M31 m 4 = 0 := by rw [jr_na e31 (by omega), o4, l4, k4]; exact e4
            have m5 : M31 m 5 = -1 := by rw [jr_na e31 (by omega), o5, l5, k5]; exact e5
            have m1 : M31 δ 1 = (acc ++ [((w.1, a.1, b.1) : rul)]).length := by rw [jr_eq e31, hl]; omega
            rw [hd31.2.1, hd31.2.2.2.2.1]
            refine ⟨fun q => ⟨⟨by omega, by omega⟩, fun M33 e33 => ⟨⟨by omega, by omega⟩, ?_⟩⟩, fun q => ?_⟩
            · have n59 : nxt T b.2 = 59 := by
                rcases x5 with x5 | x5
                · have x5' : nxt T b.2 = -1 := x5
                  rw [nxt_tp q] at x5'
                  have := (ht b.2.toNat (by omega)).1
                  unfold tp at x5'
                  omega
                · exact x5
              rw [if_pos n59] at hp'
              have c0 : C0 m M31 M33 := C0.up e33 (by omega)
              have := ih (acc ++ [((w.1, a.1, b.1) : rul)]) (b.2 + 1) M33 (by omega) (by omega) (hd31.mv e33 (by omega) (by omega)) (by rw [jr_na e33 (by omega)]; exact m1) (fun r hr => (hR' r hr).cong (fun k _ _ _ => by funext j; exact jr_na e33 (by omega))) hW' (by rw [jr_nj e33 (by omega)]; exact m4) (by rw [jr_nj e33 (by omega)]; exact m5) (f31.trans (fun a j a0 a1 => jr_na e33 a0)) hp'
              rw [hl] at this
              exact this
            · have n59 : nxt T b.2 ≠ 59 := fun n => by
                have := nxt_lt (T := T) (f := b.2) (by omega)
                omega
              rw [if_neg n59] at hp'
              have y := tail _ b.2 M31 hp' hd31 m1 hR' m4 m5 f31
              rw [hd31.2.1] at y
              exact y
  refine en_X5_read hm hδ (fun _ _ M4 e4 => ⟨hδb, fun M5 e5 => ⟨δ, rfl, hδ, fun M10 e10 M11 e11 M12 e12 M13 e13 => ?_⟩⟩)
  have hd : CD m δ M13 T 0 := by
    refine ⟨ha, ?_, h300, fun i hi => ⟨(ht i hi).1, ?_⟩, ?_, ⟨by omega, by omega⟩, ?_⟩
    · rw [jr_nj e13 (by omega), jr_nj e12 (by omega), jr_nj e11 (by omega), jr_na e10 (by omega), jr_nj e5 (by omega), jr_eq e4]; omega
    · rw [jr_na e13 (by omega), jr_na e12 (by omega), jr_na e11 (by omega), jr_na e10 (by omega), jr_na e5 (by omega), jr_na e4 (by omega)]; exact (ht i hi).2
    · rw [jr_nj e13 (by omega), jr_nj e12 (by omega), jr_eq e11]
    · rw [jr_nj e13 (by omega), jr_nj e12 (by omega), jr_nj e11 (by omega), jr_na e10 (by omega), jr_eq e5]
  have m4 : M13 m 4 = 0 := by rw [jr_nj e13 (by omega), jr_eq e12]
  have m5 : M13 m 5 = -1 := jr_eq e13
  have m1 : M13 δ 1 = 0 := by rw [jr_na e13 (by omega), jr_na e12 (by omega), jr_na e11 (by omega), jr_eq e10]
  have hf : FRd m δ I M13 := fun a j a0 a1 => by rw [jr_na e13 a0, jr_na e12 a0, jr_na e11 a0, jr_na e10 (by omega), jr_na e5 a0, jr_na e4 a0]
  by_cases q : T = []
  · have hp : pAll T = .ok [] := by unfold pAll; rw [if_pos q]
    have y := tail [] 0 M13 hp hd m1 (fun r hr => absurd hr (Nat.not_lt_zero r)) m4 m5 hf
    have l0 : T.length = 0 := by rw [q]; rfl
    have g1 := hd.2.1
    refine st_X5_read_53 hm hδ (fun _ _ _ => ⟨fun z => by omega, fun _ => ⟨fun _ => y, fun z => by omega⟩⟩)
  · have hT : 0 < T.length := List.length_pos_iff.mpr q
    exact loop hT 7 [] 0 M13 rfl (by simp) hd m1 (fun r hr => absurd hr (Nat.not_lt_zero r)) (fun R hR => absurd hR List.not_mem_nil) m4 m5 hf (by unfold pAll; rw [if_neg q])
end CF
