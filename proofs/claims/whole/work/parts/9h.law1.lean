/-! ===== the law: class and reference, call by call ===== -/
def BWs (c : Int) (B : Int → Int) (H : List (Int → Int)) (B' : Int → Int) (H' : List (Int → Int)) : Prop := BW c B ∧ (∀ X ∈ H, BW c X) ∧ BW c B' ∧ ∀ X ∈ H', BW c X
theorem BWs.mono {c c' : Int} {B B' : Int → Int} {H H' : List (Int → Int)} (h : BWs c B H B' H') (hc : c ≤ c') : BWs c' B H B' H' := ⟨h.1.mono hc, fun X hX => (h.2.1 X hX).mono hc, h.2.2.1.mono hc, fun X hX => (h.2.2.2 X hX).mono hc⟩
theorem BWs.push {c c' : Int} {B B' Y : Int → Int} {H H' : List (Int → Int)} (h : BWs c B H B' H') (hc : c ≤ c') (hY : BW c' Y) : BWs c' Y (pushH H B) B' H' := by
  have h' := h.mono hc
  refine ⟨hY, fun X hX => ?_, h'.2.2.1, h'.2.2.2⟩
  unfold pushH at hX
  rcases List.mem_append.mp hX with q | q
  · split at q
    · exact h'.2.1 X (List.mem_of_mem_tail q)
    · exact h'.2.1 X q
  · rw [List.mem_singleton.mp q]; exact h'.1
/-- what holds between two calls: the class's desk and the reference's are the same -/
def LV (k : Nat) (G : jG) (I : jM) : Prop := ∃ (δ : Nat) (B : Int → Int) (H : List (Int → Int)) (B' : Int → Int) (H' : List (Int → Int)) (T : List Int) (fk fp : Int), CC G 0 δ I B H B' H' T fk fp ∧ WX10 G 606 ∧ RR 606 I B H B' H' T fk fp ∧ BWs (31 * (k : Int)) B H B' H' ∧ 635 ≤ G.2.2 ∧ G.2.2 ≤ 635 + 13 * k
theorem RR.far {I I' : jM} {B B' : Int → Int} {H H' : List (Int → Int)} {T : List Int} {fk fp : Int} (h : RR 606 I B H B' H' T fk fp) (f : ∀ b, jB b → I' b = I b) : RR 606 I' B H B' H' T fk fp := by
  obtain ⟨h1, h2, h3, h4, h5⟩ := h
  have e : ∀ b, 606 ≤ b → b < 635 → I' b = I b := fun b q0 q1 => f b ⟨q0, q1⟩
  refine ⟨by rw [e (606 + 1) (by omega) (by omega)]; exact h1, by rw [e (606 + 2) (by omega) (by omega)]; exact h2, ⟨by rw [e 606 (by omega) (by omega)]; exact h3.1, h3.2.1, fun i hi => by rw [e (606 + 20) (by omega) (by omega)]; exact h3.2.2 i hi⟩, by rw [e 606 (by omega) (by omega)]; exact h4, by rw [e 606 (by omega) (by omega)]; exact h5⟩
theorem CC.far {G : jG} {δ : Nat} {I I' : jM} {B B' : Int → Int} {H H' : List (Int → Int)} {T : List Int} {fk fp : Int} (h : CC G 0 δ I B H B' H' T fk fp) (f : ∀ b, jA 606 b → I' b = I b) : CC G 0 δ I' B H B' H' T fk fp :=
  h.fr (fun a j q => by rw [f a (by unfold jA; omega)])
def JP (E : jE) (K1 K2 : jK) (as : List jV) (k : Nat) (G : jG) (I : jM) : Prop := WX9 G 0 ∧ ∃ M : Int → jG → jM → Prop, jRun E K1 (VR 0 :: as) G I (fun r G1 I1 => ∃ x, r = VI x ∧ M x G1 I1) ∧ ∀ x G1 I1, M x G1 I1 → WX10 G1 606 ∧ jRun E K2 (VR 606 :: as) G1 I1 (fun r G2 I2 => r = VI x ∧ LV (k + 1) G2 I2)
def JPL (E : jE) (K1 K2 : jK) (as : List jV) (k : Nat) (G : jG) (I : jM) : Prop := WX9 G 0 ∧ ∃ M : Int64 → jG → jM → Prop, jRun E K1 (VR 0 :: as) G I (fun r G1 I1 => ∃ x, r = VX (.long x) ∧ M x G1 I1) ∧ ∀ x G1 I1, M x G1 I1 → WX10 G1 606 ∧ jRun E K2 (VR 606 :: as) G1 I1 (fun r G2 I2 => r = VX (.long x) ∧ LV (k + 1) G2 I2)
theorem canA_BW {c : Int} {B : Int → Int} {i : Int} (h : BW c B) (q : canA B i) : BW (c + 1) (mkS B [i]) := by
  have hQ := h.1
  have hF := FLok hQ
  have hC := one_Ch hQ hF q.1.1 q.1.2
  refine h.mk hC ?_
  have e := newL_len _ _ _ hC
  have e2 : sumG B [i] = grow B i + 0 := rfl
  have := q.2.2
  omega
section LA
variable {E : jE} {K1 K2 : jK} {as : List jV} {k : Nat} {G : jG} {I : jM} {δ : Nat} {B B' B1 B1' : Int → Int} {H H' H1 H1' : List (Int → Int)} {T T1 : List Int} {fk fp fk1 fp1 : Int}
theorem JP.mk {a : Int} (h9 : WX9 G 0) (hm : WX10 G 606) (hR : RR 606 I B H B' H' T fk fp) (g : 635 ≤ G.2.2 ∧ G.2.2 ≤ 635 + 13 * k) (hc : jRI E jB K1 (VR 0 :: as) G I (fun x I' => x = a ∧ CC G 0 δ I' B1 H1 B1' H1' T1 fk1 fp1)) (hr : ∀ I1, RR 606 I1 B H B' H' T fk fp → jRI E (jA 606) K2 (VR 606 :: as) G I1 (fun x I' => x = a ∧ RR 606 I' B1 H1 B1' H1' T1 fk1 fp1)) (hb : BWs (31 * ((k + 1 : Nat) : Int)) B1 H1 B1' H1') : JP E K1 K2 as k G I := by
  refine ⟨h9, fun x G1 I1 => G1 = G ∧ (∀ b, jB b → I1 b = I b) ∧ x = a ∧ CC G 0 δ I1 B1 H1 B1' H1' T1 fk1 fp1, jRun.mono hc (fun r G1 I1 _ h => ?_), fun x G1 I1 h => ?_⟩
  · obtain ⟨x, e, eG, f, e1, c1⟩ := h
    exact ⟨x, e, eG, f, e1, c1⟩
  · obtain ⟨rfl, f, rfl, c1⟩ := h
    refine ⟨hm, jRun.mono (hr I1 (hR.far f)) (fun r G2 I2 _ h => ?_)⟩
    obtain ⟨y, e, rfl, f2, e2, r2⟩ := h
    exact ⟨by rw [e, e2], δ, B1, H1, B1', H1', T1, fk1, fp1, c1.far f2, hm, r2, hb, g.1, by omega⟩
theorem JPL.mk {a : Int64} (h9 : WX9 G 0) (hm : WX10 G 606) (hR : RR 606 I B H B' H' T fk fp) (g : 635 ≤ G.2.2 ∧ G.2.2 ≤ 635 + 13 * k) (hc : jRL E jB K1 (VR 0 :: as) G I (fun x I' => x = a ∧ CC G 0 δ I' B1 H1 B1' H1' T1 fk1 fp1)) (hr : ∀ I1, RR 606 I1 B H B' H' T fk fp → jRL E (jA 606) K2 (VR 606 :: as) G I1 (fun x I' => x = a ∧ RR 606 I' B1 H1 B1' H1' T1 fk1 fp1)) (hb : BWs (31 * ((k + 1 : Nat) : Int)) B1 H1 B1' H1') : JPL E K1 K2 as k G I := by
  refine ⟨h9, fun x G1 I1 => G1 = G ∧ (∀ b, jB b → I1 b = I b) ∧ x = a ∧ CC G 0 δ I1 B1 H1 B1' H1' T1 fk1 fp1, jRun.mono hc (fun r G1 I1 _ h => ?_), fun x G1 I1 h => ?_⟩
  · obtain ⟨x, e, eG, f, e1, c1⟩ := h
    exact ⟨x, e, eG, f, e1, c1⟩
  · obtain ⟨rfl, f, rfl, c1⟩ := h
    refine ⟨hm, jRun.mono (hr I1 (hR.far f)) (fun r G2 I2 _ h => ?_)⟩
    obtain ⟨y, e, rfl, f2, e2, r2⟩ := h
    exact ⟨by rw [e, e2], δ, B1, H1, B1', H1', T1, fk1, fp1, c1.far f2, hm, r2, hb, g.1, by omega⟩
/-- .. that makes cells: rules -/
theorem JP.new {a : Int} (h9 : WX9 G 0) (hm : WX10 G 606) (hR : RR 606 I B H B' H' T fk fp) (g : 635 ≤ G.2.2) (hc : jRun E K1 (VR 0 :: as) G I (fun r G1 I1 => r = VI a ∧ (∀ b, jB b → I1 b = I b) ∧ Gx G G1 ∧ G1.2.2 ≤ 635 + 13 * (k + 1) ∧ ∃ δ, CC G1 0 δ I1 B1 H1 B1' H1' T1 fk1 fp1)) (hr : ∀ G1 I1, WX10 G1 606 → RR 606 I1 B H B' H' T fk fp → jRI E (jA 606) K2 (VR 606 :: as) G1 I1 (fun x I' => x = a ∧ RR 606 I' B1 H1 B1' H1' T1 fk1 fp1)) (hb : BWs (31 * ((k + 1 : Nat) : Int)) B1 H1 B1' H1') : JP E K1 K2 as k G I := by
  refine ⟨h9, fun x G1 I1 => x = a ∧ (∀ b, jB b → I1 b = I b) ∧ Gx G G1 ∧ G1.2.2 ≤ 635 + 13 * (k + 1) ∧ ∃ δ, CC G1 0 δ I1 B1 H1 B1' H1' T1 fk1 fp1, jRun.mono hc (fun r G1 I1 _ h => ?_), fun x G1 I1 h => ?_⟩
  · obtain ⟨e, h⟩ := h
    exact ⟨a, e, rfl, h⟩
  · obtain ⟨rfl, f, hx, g1, δ1, c1⟩ := h
    have hm1 := gxX10 hm hx
    refine ⟨hm1, jRun.mono (hr G1 I1 hm1 (hR.far f)) (fun r G2 I2 _ h => ?_)⟩
    obtain ⟨y, e, rfl, f2, e2, r2⟩ := h
    exact ⟨by rw [e, e2], δ1, B1, H1, B1', H1', T1, fk1, fp1, c1.far f2, hm1, r2, hb, Nat.le_trans g hx.1, g1⟩
theorem pr_fault (h : LV k G I) (hk : k ≤ 512) {x1 : Int} : JP E kX9_fault kX10_fault [VI x1] k G I := by
  obtain ⟨δ, B, H, B', H', T, fk, fp, hC, hm, hR, hW, g⟩ := h
  exact JP.mk hC.1.1.2.1 hm hR g (cl_fault hC ) (fun I1 h1 => ref_fault hm h1 ) (hW.mono (by omega))
theorem pr_is (h : LV k G I) (hk : k ≤ 512) {x1 : Int} : JP E kX9_is kX10_is [VI x1] k G I := by
  obtain ⟨δ, B, H, B', H', T, fk, fp, hC, hm, hR, hW, g⟩ := h
  exact JP.mk hC.1.1.2.1 hm hR g (cl_is hC hW.1) (fun I1 h1 => ref_is hm h1 hW.1.1) (hW.mono (by omega))
theorem pr_at (h : LV k G I) (hk : k ≤ 512) {x1 : Int} : JP E kX9_at kX10_at [VI x1] k G I := by
  obtain ⟨δ, B, H, B', H', T, fk, fp, hC, hm, hR, hW, g⟩ := h
  exact JP.mk hC.1.1.2.1 hm hR g (cl_at hC hW.1.1) (fun I1 h1 => ref_at hm h1 hW.1.1) (hW.mono (by omega))
theorem pr_token (h : LV k G I) (hk : k ≤ 512) {x1 x2 : Int} : JP E kX9_token kX10_token [VI x1, VI x2] k G I := by
  obtain ⟨δ, B, H, B', H', T, fk, fp, hC, hm, hR, hW, g⟩ := h
  exact JP.mk hC.1.1.2.1 hm hR g (cl_token hC hW.1) (fun I1 h1 => ref_token hm h1 hW.1.1) (hW.mono (by omega))
theorem pr_tokenAt (h : LV k G I) (hk : k ≤ 512) {x1 : Int} : JP E kX9_tokenAt kX10_tokenAt [VI x1] k G I := by
  obtain ⟨δ, B, H, B', H', T, fk, fp, hC, hm, hR, hW, g⟩ := h
  exact JP.mk hC.1.1.2.1 hm hR g (cl_tokenAt hC hW.1) (fun I1 h1 => ref_tokenAt hm h1 hW.1.1) (hW.mono (by omega))
theorem pr_rule (h : LV k G I) (hk : k ≤ 512) {x1 x2 : Int} : JP E kX9_rule kX10_rule [VI x1, VI x2] k G I := by
  obtain ⟨δ, B, H, B', H', T, fk, fp, hC, hm, hR, hW, g⟩ := h
  exact JP.mk hC.1.1.2.1 hm hR g (cl_rule hC hW.1) (fun I1 h1 => ref_rule hm h1 hW.1.1) (hW.mono (by omega))
theorem pr_finding (h : LV k G I) (hk : k ≤ 512) {x1 x2 : Int} : JP E kX9_finding kX10_finding [VI x1, VI x2] k G I := by
  obtain ⟨δ, B, H, B', H', T, fk, fp, hC, hm, hR, hW, g⟩ := h
  exact JP.mk hC.1.1.2.1 hm hR g (cl_finding hC hW.1) (fun I1 h1 => ref_finding hm h1 hW.1.1) (hW.mono (by omega))
theorem pr_fresh (h : LV k G I) (hk : k ≤ 512) {x1 x2 : Int} : JP E kX9_fresh kX10_fresh [VI x1, VI x2] k G I := by
  obtain ⟨δ, B, H, B', H', T, fk, fp, hC, hm, hR, hW, g⟩ := h
  exact JP.mk hC.1.1.2.1 hm hR g (cl_fresh hC hW.1) (fun I1 h1 => ref_fresh hm h1 hW.1.1) (hW.mono (by omega))
theorem pr_clashes (h : LV k G I) (hk : k ≤ 512) {x1 : Int} : JP E kX9_clashes kX10_clashes [VI x1] k G I := by
  obtain ⟨δ, B, H, B', H', T, fk, fp, hC, hm, hR, hW, g⟩ := h
  exact JP.mk hC.1.1.2.1 hm hR g (cl_clashes hC hW.1) (fun I1 h1 => ref_clashes hm h1 hW.1.1) (hW.mono (by omega))
theorem pr_set (h : LV k G I) (hk : k ≤ 512) {x1 : Int} : JP E kX9_set kX10_set [VI x1] k G I := by
  obtain ⟨δ, B, H, B', H', T, fk, fp, hC, hm, hR, hW, g⟩ := h
  exact JP.mk hC.1.1.2.1 hm hR g (cl_set hC hW.1) (fun I1 h1 => ref_set hm h1 hW.1.1) (hW.mono (by omega))
theorem pr_worth (h : LV k G I) (hk : k ≤ 512) : JP E kX9_worth kX10_worth [] k G I := by
  obtain ⟨δ, B, H, B', H', T, fk, fp, hC, hm, hR, hW, g⟩ := h
  exact JP.mk hC.1.1.2.1 hm hR g (cl_worth hC hW.1) (fun I1 h1 => ref_worth hm h1 hW.1.1) (hW.mono (by omega))
theorem pr_chosen (h : LV k G I) (hk : k ≤ 512) {x1 : Int} : JP E kX9_chosen kX10_chosen [VI x1] k G I := by
  obtain ⟨δ, B, H, B', H', T, fk, fp, hC, hm, hR, hW, g⟩ := h
  exact JP.mk hC.1.1.2.1 hm hR g (cl_chosen hC hW.1) (fun I1 h1 => ref_chosen hm h1 hW.1.1) (hW.mono (by omega))
theorem pr_without (h : LV k G I) (hk : k ≤ 512) {x1 : Int} : JP E kX9_without kX10_without [VI x1] k G I := by
  obtain ⟨δ, B, H, B', H', T, fk, fp, hC, hm, hR, hW, g⟩ := h
  exact JP.mk hC.1.1.2.1 hm hR g (cl_without hC hW.1) (fun I1 h1 => ref_without hm h1 hW.1.1) (hW.mono (by omega))
theorem pr_span (h : LV k G I) (hk : k ≤ 512) {x1 x2 : Int} : JP E kX9_span kX10_span [VI x1, VI x2] k G I := by
  obtain ⟨δ, B, H, B', H', T, fk, fp, hC, hm, hR, hW, g⟩ := h
  exact JP.mk hC.1.1.2.1 hm hR g (cl_span hC hW.1) (fun I1 h1 => ref_span hm h1 hW.1.1) (hW.mono (by omega))
theorem pr_silenced (h : LV k G I) (hk : k ≤ 512) {x1 x2 : Int} : JP E kX9_silenced kX10_silenced [VI x1, VI x2] k G I := by
  obtain ⟨δ, B, H, B', H', T, fk, fp, hC, hm, hR, hW, g⟩ := h
  exact JP.mk hC.1.1.2.1 hm hR g (cl_silenced hC ) (fun I1 h1 => ref_silenced hm h1 hW.1.1) (hW.mono (by omega))
theorem pr_isSilent (h : LV k G I) (hk : k ≤ 512) {x1 : Int} : JP E kX9_isSilent kX10_isSilent [VI x1] k G I := by
  obtain ⟨δ, B, H, B', H', T, fk, fp, hC, hm, hR, hW, g⟩ := h
  exact JP.mk hC.1.1.2.1 hm hR g (cl_isSilent hC hW.1.1) (fun I1 h1 => ref_isSilent hm h1 hW.1.1) (hW.mono (by omega))
theorem pr_yielding (h : LV k G I) (hk : k ≤ 512) {x1 : Int} : JP E kX9_yielding kX10_yielding [VI x1] k G I := by
  obtain ⟨δ, B, H, B', H', T, fk, fp, hC, hm, hR, hW, g⟩ := h
  exact JP.mk hC.1.1.2.1 hm hR g (cl_yielding hC hW.1) (fun I1 h1 => ref_yielding hm h1 hW.1) (hW.mono (by omega))
theorem pr_paint (h : LV k G I) (hk : k ≤ 512) {x1 : Int} : JP E kX9_paint kX10_paint [VI x1] k G I := by
  obtain ⟨δ, B, H, B', H', T, fk, fp, hC, hm, hR, hW, g⟩ := h
  exact JP.mk hC.1.1.2.1 hm hR g (cl_paint hC hW.1.1) (fun I1 h1 => ref_paint hm h1 hW.1) (hW.mono (by omega))
theorem pr_painted (h : LV k G I) (hk : k ≤ 512) {x1 : Int} : JP E kX9_painted kX10_painted [VI x1] k G I := by
  obtain ⟨δ, B, H, B', H', T, fk, fp, hC, hm, hR, hW, g⟩ := h
  exact JP.mk hC.1.1.2.1 hm hR g (cl_painted hC ) (fun I1 h1 => ref_painted hm h1 hW.1.1) (hW.mono (by omega))
theorem pr_book (h : LV k G I) (hk : k ≤ 512) {x1 x2 : Int} : JP E kX9_book kX10_book [VI x1, VI x2] k G I := by
  obtain ⟨δ, B, H, B', H', T, fk, fp, hC, hm, hR, hW, g⟩ := h
  exact JP.mk hC.1.1.2.1 hm hR g (cl_book hC ) (fun I1 h1 => ref_book hm h1 hW.1) (hW.mono (by omega))
theorem pr_common (h : LV k G I) (hk : k ≤ 512) {x1 : Int} : JP E kX9_common kX10_common [VI x1] k G I := by
  obtain ⟨δ, B, H, B', H', T, fk, fp, hC, hm, hR, hW, g⟩ := h
  exact JP.mk hC.1.1.2.1 hm hR g (cl_common hC hW.1) (fun I1 h1 => ref_common hm h1 hW.1.1) (hW.mono (by omega))
theorem pr_paired (h : LV k G I) (hk : k ≤ 512) {x1 : Int} : JP E kX9_paired kX10_paired [VI x1] k G I := by
  obtain ⟨δ, B, H, B', H', T, fk, fp, hC, hm, hR, hW, g⟩ := h
  exact JP.mk hC.1.1.2.1 hm hR g (cl_paired hC ) (fun I1 h1 => ref_paired hm h1 hW.1.1) (hW.mono (by omega))
theorem pr_line (h : LV k G I) (hk : k ≤ 512) {x1 x2 : Int} : JP E kX9_line kX10_line [VI x1, VI x2] k G I := by
  obtain ⟨δ, B, H, B', H', T, fk, fp, hC, hm, hR, hW, g⟩ := h
  exact JP.mk hC.1.1.2.1 hm hR g (cl_line hC ) (fun I1 h1 => ref_line hm h1 hW.1.1) (hW.mono (by omega))
theorem pr_circling (h : LV k G I) (hk : k ≤ 512) : JP E kX9_circling kX10_circling [] k G I := by
  obtain ⟨δ, B, H, B', H', T, fk, fp, hC, hm, hR, hW, g⟩ := h
  exact JP.mk hC.1.1.2.1 hm hR g (cl_circling hC hW.1 (by omega)) (fun I1 h1 => ref_circling hm h1 hW.1 (by omega)) (hW.mono (by omega))
theorem pr_course (h : LV k G I) (hk : k ≤ 512) {x1 : Int} : JP E kX9_course kX10_course [VI x1] k G I := by
  obtain ⟨δ, B, H, B', H', T, fk, fp, hC, hm, hR, hW, g⟩ := h
  exact JP.mk hC.1.1.2.1 hm hR g (cl_course hC hW.1 (by omega)) (fun I1 h1 => ref_course hm h1 hW.1 (by omega)) (hW.mono (by omega))
theorem pr_later (h : LV k G I) (hk : k ≤ 512) {x1 x2 : Int} : JP E kX9_later kX10_later [VI x1, VI x2] k G I := by
  obtain ⟨δ, B, H, B', H', T, fk, fp, hC, hm, hR, hW, g⟩ := h
  exact JP.mk hC.1.1.2.1 hm hR g (cl_later hC hW.1 (by omega)) (fun I1 h1 => ref_later hm h1 hW.1 (by omega)) (hW.mono (by omega))
theorem pr_digest (h : LV k G I) (hk : k ≤ 512) {x1 : Int} : JP E kX9_digest kX10_digest [VI x1] k G I := by
  obtain ⟨δ, B, H, B', H', T, fk, fp, hC, hm, hR, hW, g⟩ := h
  exact JP.mk hC.1.1.2.1 hm hR g (cl_digest hC hW.1 (by omega)) (fun I1 h1 => ref_digest hm h1 hW.1 (by omega)) (hW.mono (by omega))
theorem pr_used (h : LV k G I) (hk : k ≤ 512) : JP E kX9_used kX10_used [] k G I := by
  obtain ⟨δ, B, H, B', H', T, fk, fp, hC, hm, hR, hW, g⟩ := h
  exact JP.mk hC.1.1.2.1 hm hR g (cl_used hC hW.1 (by omega)) (fun I1 h1 => ref_used hm h1 hW.1 (by omega)) (hW.mono (by omega))
theorem pr_mean (h : LV k G I) (hk : k ≤ 512) : JP E kX9_mean kX10_mean [] k G I := by
  obtain ⟨δ, B, H, B', H', T, fk, fp, hC, hm, hR, hW, g⟩ := h
  exact JP.mk hC.1.1.2.1 hm hR g (cl_mean hC hW.1) (fun I1 h1 => ref_mean hm h1 hW.1.1) (hW.mono (by omega))
theorem pr_steps (h : LV k G I) (hk : k ≤ 512) : JP E kX9_steps kX10_steps [] k G I := by
  obtain ⟨δ, B, H, B', H', T, fk, fp, hC, hm, hR, hW, g⟩ := h
  exact JP.mk hC.1.1.2.1 hm hR g (cl_steps hC ) (fun I1 h1 => ref_steps hm h1 ) (hW.mono (by omega))
theorem pr_share (h : LV k G I) (hk : k ≤ 512) : JPL E kX9_share kX10_share [] k G I := by
  obtain ⟨δ, B, H, B', H', T, fk, fp, hC, hm, hR, hW, g⟩ := h
  exact JPL.mk hC.1.1.2.1 hm hR g (cl_share hC hW.1) (fun I1 h1 => ref_share hm h1 hW.1.1) (hW.mono (by omega))
theorem pr_fits (h : LV k G I) (hk : k ≤ 512) {x1 x2 : Int} : JP E kX9_fits kX10_fits [VI x1, VI x2] k G I := by
  obtain ⟨δ, B, H, B', H', T, fk, fp, hC, hm, hR, hW, g⟩ := h
  exact JP.mk hC.1.1.2.1 hm hR g (cl_fits hC hW.1) (fun I1 h1 => (ref_fits hm h1 hW.1.1).mono (fun x I' _ _ q => ⟨q.1, q.2.1⟩)) (hW.mono (by omega))
theorem pr_cure (h : LV k G I) (hk : k ≤ 512) : JP E kX9_cure kX10_cure [] k G I := by
  obtain ⟨δ, B, H, B', H', T, fk, fp, hC, hm, hR, hW, g⟩ := h
  exact JP.mk hC.1.1.2.1 hm hR g (cl_cure hC hW.1 (by omega)) (fun I1 h1 => (ref_cure hm h1 hW.1 (by omega)).mono (fun x I' _ _ q => ⟨q.1, q.2.2⟩)) (hW.mono (by omega))
theorem pr_image (h : LV k G I) (hk : k ≤ 512) : JP E kX9_image kX10_image [] k G I := by
  obtain ⟨δ, B, H, B', H', T, fk, fp, hC, hm, hR, hW, g⟩ := h
  exact JP.mk hC.1.1.2.1 hm hR g (cl_image hC) (fun I1 h1 => ref_image hm h1) (BWs.mono ⟨hW.1, hW.2.1, hW.1, hW.2.1⟩ (by omega))
theorem pr_back (h : LV k G I) (hk : k ≤ 512) : JP E kX9_back kX10_back [] k G I := by
  obtain ⟨δ, B, H, B', H', T, fk, fp, hC, hm, hR, hW, g⟩ := h
  exact JP.mk hC.1.1.2.1 hm hR g (cl_back hC) (fun I1 h1 => ref_back hm h1) (BWs.mono ⟨hW.2.2.1, hW.2.2.2, hW.2.2.1, hW.2.2.2⟩ (by omega))
theorem pr_insist (h : LV k G I) (hk : k ≤ 512) : JP E kX9_insist kX10_insist [] k G I := by
  obtain ⟨δ, B, H, B', H', T, fk, fp, hC, hm, hR, hW, g⟩ := h
  exact JP.mk hC.1.1.2.1 hm hR g (cl_insist hC hW.1.1) (fun I1 h1 => ref_insist hm h1) (hW.push (by omega) (hW.1.no.mono (by omega)))
theorem pr_feed (h : LV k G I) (hk : k ≤ 512) {x1 x2 x3 x4 x5 : Int} : JP E kX9_feed kX10_feed [VI x1, VI x2, VI x3, VI x4, VI x5] k G I := by
  obtain ⟨δ, B, H, B', H', T, fk, fp, hC, hm, hR, hW, g⟩ := h
  by_cases q : T.length + 20 ≤ 300
  · exact JP.mk hC.1.1.2.1 hm hR g ((cl_feed hC).mono (fun x I' _ _ z => z.2 q)) (fun I1 h1 => (ref_feed hm h1).mono (fun x I' _ _ z => z.2 q)) (hW.mono (by omega))
  · exact JP.mk hC.1.1.2.1 hm hR g ((cl_feed hC).mono (fun x I' _ _ z => z.1 (by omega))) (fun I1 h1 => (ref_feed hm h1).mono (fun x I' _ _ z => z.1 (by omega))) (hW.mono (by omega))
theorem pr_end (h : LV k G I) (hk : k ≤ 512) {x1 : Int} : JP E kX9_end kX10_end [VI x1] k G I := by
  obtain ⟨δ, B, H, B', H', T, fk, fp, hC, hm, hR, hW, g⟩ := h
  by_cases q : 0 ≤ x1 ∧ x1 ≤ T.length
  · exact JP.mk hC.1.1.2.1 hm hR g ((cl_end hC).mono (fun x I' _ _ z => z.2 q)) (fun I1 h1 => (ref_end hm h1).mono (fun x I' _ _ z => z.2 q)) (hW.mono (by omega))
  · exact JP.mk hC.1.1.2.1 hm hR g ((cl_end hC).mono (fun x I' _ _ z => z.1 q)) (fun I1 h1 => (ref_end hm h1).mono (fun x I' _ _ z => z.1 q)) (hW.mono (by omega))
theorem pr_text (h : LV k G I) (hk : k ≤ 512) : JP E kX9_text kX10_text [] k G I := by
  obtain ⟨δ, B, H, B', H', T, fk, fp, hC, hm, hR, hW, g⟩ := h
  by_cases q : T.length ≤ 200 ∧ ∀ b ∈ T, okB b
  · exact JP.mk hC.1.1.2.1 hm hR g ((cl_text hC hW.1.1).mono (fun x I' _ _ z => z.2 q)) (fun I1 h1 => (ref_text hm h1).mono (fun x I' _ _ z => z.2 q)) (hW.push (by omega) ((hW.1.tx q.1).mono (by omega)))
  · exact JP.mk hC.1.1.2.1 hm hR g ((cl_text hC hW.1.1).mono (fun x I' _ _ z => z.1 q)) (fun I1 h1 => (ref_text hm h1).mono (fun x I' _ _ z => z.1 q)) (hW.mono (by omega))
theorem pr_on (h : LV k G I) (hk : k ≤ 512) {x1 x2 : Int} (hz : x2 = 0 ∨ x2 = 1) : JP E kX9_on kX10_on [VI x1, VI x2] k G I := by
  obtain ⟨δ, B, H, B', H', T, fk, fp, hC, hm, hR, hW, g⟩ := h
  by_cases q : (0 ≤ x1 ∧ x1 < B 4) ∧ B (515 + 40 * x1) ≠ x2
  · exact JP.mk hC.1.1.2.1 hm hR g ((cl_on hC hW.1.1 hz).mono (fun x I' _ _ z => z.2 q)) (fun I1 h1 => (ref_on hm h1 hW.1.1 hz).mono (fun x I' _ _ z => z.2 q)) (hW.push (by omega) ((hW.1.onn q.1 (by omega)).mono (by omega)))
  · exact JP.mk hC.1.1.2.1 hm hR g ((cl_on hC hW.1.1 hz).mono (fun x I' _ _ z => z.1 q)) (fun I1 h1 => (ref_on hm h1 hW.1.1 hz).mono (fun x I' _ _ z => z.1 q)) (hW.mono (by omega))
theorem pr_silence (h : LV k G I) (hk : k ≤ 512) {x1 x2 : Int} : JP E kX9_silence kX10_silence [VI x1, VI x2] k G I := by
  obtain ⟨δ, B, H, B', H', T, fk, fp, hC, hm, hR, hW, g⟩ := h
  by_cases q : 0 ≤ x1 ∧ x1 < x2 ∧ x2 ≤ B 2 ∧ B 3 < 8
  · exact JP.mk hC.1.1.2.1 hm hR g ((cl_silence hC hW.1.1).mono (fun x I' _ _ z => z.2 q)) (fun I1 h1 => (ref_silence hm h1 hW.1.1).mono (fun x I' _ _ z => z.2 q)) (hW.push (by omega) ((hW.1.sil3 q).mono (by omega)))
  · exact JP.mk hC.1.1.2.1 hm hR g ((cl_silence hC hW.1.1).mono (fun x I' _ _ z => z.1 q)) (fun I1 h1 => (ref_silence hm h1 hW.1.1).mono (fun x I' _ _ z => z.1 q)) (hW.mono (by omega))
theorem pr_hear (h : LV k G I) (hk : k ≤ 512) {x1 : Int} : JP E kX9_hear kX10_hear [VI x1] k G I := by
  obtain ⟨δ, B, H, B', H', T, fk, fp, hC, hm, hR, hW, g⟩ := h
  by_cases q : 0 ≤ x1 ∧ x1 < B 3
  · exact JP.mk hC.1.1.2.1 hm hR g ((cl_hear hC hW.1.1).mono (fun x I' _ _ z => z.2 q)) (fun I1 h1 => (ref_hear hm h1 hW.1.1).mono (fun x I' _ _ z => z.2 q)) (hW.push (by omega) ((hW.1.hr q).mono (by omega)))
  · exact JP.mk hC.1.1.2.1 hm hR g ((cl_hear hC hW.1.1).mono (fun x I' _ _ z => z.1 q)) (fun I1 h1 => (ref_hear hm h1 hW.1.1).mono (fun x I' _ _ z => z.1 q)) (hW.mono (by omega))
theorem pr_measure (h : LV k G I) (hk : k ≤ 512) {x1 : Int} : JP E kX9_measure kX10_measure [VI x1] k G I := by
  obtain ⟨δ, B, H, B', H', T, fk, fp, hC, hm, hR, hW, g⟩ := h
  by_cases q : 0 ≤ x1 ∧ x1 ≤ 1
  · exact JP.mk hC.1.1.2.1 hm hR g ((cl_measure hC hW.1.1).mono (fun x I' _ _ z => z.2 q)) (fun I1 h1 => (ref_measure hm h1).mono (fun x I' _ _ z => z.2 q)) (hW.push (by omega) ((hW.1.s5 q).mono (by omega)))
  · exact JP.mk hC.1.1.2.1 hm hR g ((cl_measure hC hW.1.1).mono (fun x I' _ _ z => z.1 q)) (fun I1 h1 => (ref_measure hm h1).mono (fun x I' _ _ z => z.1 q)) (hW.mono (by omega))
theorem pr_most (h : LV k G I) (hk : k ≤ 512) {x1 : Int} : JP E kX9_most kX10_most [VI x1] k G I := by
  obtain ⟨δ, B, H, B', H', T, fk, fp, hC, hm, hR, hW, g⟩ := h
  by_cases q : 0 ≤ x1 ∧ x1 ≤ 20
  · exact JP.mk hC.1.1.2.1 hm hR g ((cl_most hC hW.1.1).mono (fun x I' _ _ z => z.2 q)) (fun I1 h1 => (ref_most hm h1).mono (fun x I' _ _ z => z.2 q)) (hW.push (by omega) ((hW.1.s6 q).mono (by omega)))
  · exact JP.mk hC.1.1.2.1 hm hR g ((cl_most hC hW.1.1).mono (fun x I' _ _ z => z.1 q)) (fun I1 h1 => (ref_most hm h1).mono (fun x I' _ _ z => z.1 q)) (hW.mono (by omega))
theorem pr_put (h : LV k G I) (hk : k ≤ 512) {x1 x2 : Int} : JP E kX9_put kX10_put [VI x1, VI x2] k G I := by
  obtain ⟨δ, B, H, B', H', T, fk, fp, hC, hm, hR, hW, g⟩ := h
  by_cases q : (0 ≤ x1 ∧ x1 < B 2) ∧ okB x2 ∧ ¬ sil B x1 (x1 + 1)
  · exact JP.mk hC.1.1.2.1 hm hR g ((cl_put hC hW.1.1).mono (fun x I' _ _ z => z.2 q)) (fun I1 h1 => (ref_put hm h1 hW.1.1).mono (fun x I' _ _ z => z.2 q)) (hW.push (by omega) ((hW.1.putB q.1).mono (by omega)))
  · exact JP.mk hC.1.1.2.1 hm hR g ((cl_put hC hW.1.1).mono (fun x I' _ _ z => z.1 q)) (fun I1 h1 => (ref_put hm h1 hW.1.1).mono (fun x I' _ _ z => z.1 q)) (hW.mono (by omega))
theorem pr_yields (h : LV k G I) (hk : k ≤ 512) {x1 x2 : Int} : JP E kX9_yields kX10_yields [VI x1, VI x2] k G I := by
  obtain ⟨δ, B, H, B', H', T, fk, fp, hC, hm, hR, hW, g⟩ := h
  by_cases q : (0 ≤ x1 ∧ x1 < B 4) ∧ (0 ≤ x2 ∧ x2 < B 4) ∧ B 7 < 8 ∧ ¬ yto B x2 x1 ∧ ¬ reach B x1 x2
  · exact JP.mk hC.1.1.2.1 hm hR g ((cl_yields hC hW.1).mono (fun x I' _ _ z => z.2 q)) (fun I1 h1 => (ref_yields hm h1 hW.1).mono (fun x I' _ _ z => z.2 q)) (hW.push (by omega) ((hW.1.yl q.1 q.2.1 q.2.2.1).mono (by omega)))
  · exact JP.mk hC.1.1.2.1 hm hR g ((cl_yields hC hW.1).mono (fun x I' _ _ z => z.1 q)) (fun I1 h1 => (ref_yields hm h1 hW.1).mono (fun x I' _ _ z => z.1 q)) (hW.mono (by omega))
theorem pr_apply (h : LV k G I) (hk : k ≤ 512) {x1 : Int} : JP E kX9_apply kX10_apply [VI x1] k G I := by
  obtain ⟨δ, B, H, B', H', T, fk, fp, hC, hm, hR, hW, g⟩ := h
  by_cases q : canA B x1
  · exact JP.mk hC.1.1.2.1 hm hR g ((cl_apply hC hW.1 (by omega)).mono (fun x I' _ _ z => z.2 q)) (fun I1 h1 => (ref_apply hm h1 hW.1 (by omega)).mono (fun x I' _ _ z => z.2 q)) (hW.push (by omega) ((canA_BW hW.1 q).mono (by omega)))
  · exact JP.mk hC.1.1.2.1 hm hR g ((cl_apply hC hW.1 (by omega)).mono (fun x I' _ _ z => z.1 q)) (fun I1 h1 => (ref_apply hm h1 hW.1 (by omega)).mono (fun x I' _ _ z => z.1 q)) (hW.mono (by omega))
theorem pr_make (h : LV k G I) (hk : k ≤ 512) {x1 : Int} : JP E kX9_make kX10_make [VI x1] k G I := by
  obtain ⟨δ, B, H, B', H', T, fk, fp, hC, hm, hR, hW, g⟩ := h
  by_cases q : 1 ≤ x1 ∧ x1 ≤ 30
  · exact JP.mk hC.1.1.2.1 hm hR g ((cl_make hC hW.1 (by omega)).mono (fun x I' _ _ z => z.2 q)) (fun I1 h1 => (ref_make hm h1 hW.1 (by omega)).mono (fun x I' _ _ z => z.2 q)) (hW.push (by omega) ((BW.mkRn x1.toNat hW.1).mono (by omega)))
  · exact JP.mk hC.1.1.2.1 hm hR g ((cl_make hC hW.1 (by omega)).mono (fun x I' _ _ z => z.1 q)) (fun I1 h1 => (ref_make hm h1 hW.1 (by omega)).mono (fun x I' _ _ z => z.1 q)) (hW.mono (by omega))
theorem pr_undo (h : LV k G I) (hk : k ≤ 512) : JP E kX9_undo kX10_undo [] k G I := by
  obtain ⟨δ, B, H, B', H', T, fk, fp, hC, hm, hR, hW, g⟩ := h
  by_cases q : H = []
  · exact JP.mk hC.1.1.2.1 hm hR g ((cl_undo hC).mono (fun x I' _ _ z => z.1 q)) (fun I1 h1 => (ref_undo hm h1).mono (fun x I' _ _ z => z.1 q)) (hW.mono (by omega))
  · refine JP.mk hC.1.1.2.1 hm hR g ((cl_undo hC).mono (fun x I' _ _ z => z.2 q)) (fun I1 h1 => (ref_undo hm h1).mono (fun x I' _ _ z => z.2 q)) (BWs.mono (c := 31 * (k : Int)) ⟨hW.2.1 _ ?_, fun X hX => hW.2.1 X (List.dropLast_subset _ hX), hW.2.2⟩ (by omega))
    have hl : 0 < H.length := List.length_pos_iff.mpr q
    rw [List.getD_eq_getElem?_getD, List.getElem?_eq_getElem (by omega)]
    exact List.getElem_mem _
theorem pr_rules (h : LV k G I) (hk : k ≤ 512) : JP E kX9_rules kX10_rules [] k G I := by
  obtain ⟨δ, B, H, B', H', T, fk, fp, hC, hm, hR, hW, g⟩ := h
  have hT : T.length ≤ 300 := hR.2.2.1.2.1
  cases hp : pAll T with
  | error p =>
    refine JP.new hC.1.1.2.1 hm hR g.1 (B1 := B) (H1 := H) (B1' := B') (H1' := H') (T1 := []) (fk1 := p.1) (fp1 := p.2) (a := -1) (jRun.mono (cl_rules hC hW.1.1 (by omega) g.1) (fun r G1 I1 _ z => ?_)) (fun G1 I1 hm1 h1 => (ref_rules hm1 h1).mono (fun x I' _ _ z => z.1 p hp)) (hW.mono (by omega))
    obtain ⟨x, e, f, hx, z1, z2⟩ := z
    obtain ⟨e1, e2, c1⟩ := z1 p hp
    exact ⟨by rw [e, e1], f, hx, by rw [e2]; omega, δ, by rw [e2]; exact c1⟩
  | ok rl =>
    refine JP.new hC.1.1.2.1 hm hR g.1 (B1 := ruB B T rl) (H1 := pushH H B) (B1' := B') (H1' := H') (T1 := []) (fk1 := 0) (fp1 := -1) (a := rl.length) (jRun.mono (cl_rules hC hW.1.1 (by omega) g.1) (fun r G1 I1 _ z => ?_)) (fun G1 I1 hm1 h1 => (ref_rules hm1 h1).mono (fun x I' _ _ z => z.2 rl hp)) (hW.push (by omega) ((hW.1.ru hT hp).mono (by omega)))
    obtain ⟨x, e, f, hx, z1, z2⟩ := z
    obtain ⟨e1, e2, c1⟩ := z2 rl hp
    exact ⟨by rw [e, e1], f, hx, by rw [e2]; omega, G.2.2, c1⟩
end LA
