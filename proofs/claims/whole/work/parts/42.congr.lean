/-! ===== what findings need of a state: two states that are alike there have the same ===== -/
def Rel (j : Int) : Prop := (2 ≤ j ∧ j < 8) ∨ (10 ≤ j ∧ j < 442) ∨ (514 ≤ j ∧ j < 1054)
def EqS (S S' : Int → Int) : Prop := ∀ j, Rel j → S' j = S j
section CG
variable {S S' : Int → Int} {n : Int} {b : Int → Int}
theorem EqS.symm (h : EqS S S') : EqS S' S := fun j hj => (h j hj).symm
theorem EqS.trans {S'' : Int → Int} (h : EqS S S') (h' : EqS S' S'') : EqS S S'' := fun j hj => (h' j hj).trans (h j hj)
theorem EqS.at (h : EqS S S') {j : Int} (hj : (2 ≤ j ∧ j < 8) ∨ (10 ≤ j ∧ j < 442) ∨ (514 ≤ j ∧ j < 1054)) : S' j = S j := h j hj
theorem EqS.el (h : EqS S S') {r e w : Int} (hr : 0 ≤ r ∧ r < 6) (he : 0 ≤ e ∧ e < 6) (hw : 0 ≤ w ∧ w < 3) : S' (518 + 40 * r + 3 * e + w) = S (518 + 40 * r + 3 * e + w) := h.at (by omega)
theorem EqS.pt (h : EqS S S') {r e w : Int} (hr : 0 ≤ r ∧ r < 6) (he : 0 ≤ e ∧ e < 6) (hw : 0 ≤ w ∧ w < 3) : S' (536 + 40 * r + 3 * e + w) = S (536 + 40 * r + 3 * e + w) := h.at (by omega)
theorem key_congr (h : EqS S S') {r e : Int} (hr : 0 ≤ r ∧ r < 6) (he : 0 ≤ e ∧ e < 6) : key S' r e = key S r e := by
  unfold key
  rw [h.el hr he (w := 0) (by omega), h.el hr he (w := 1) (by omega)]
theorem EW_congr (h : EqS S S') {r e : Int} (hr : 0 ≤ r ∧ r < 6) (he : 0 ≤ e ∧ e < 6) (hw : EW S r e) : EW S' r e := by
  unfold EW at *
  rw [h.el hr he (w := 0) (by omega), h.el hr he (w := 1) (by omega), h.el hr he (w := 2) (by omega)]
  exact hw
theorem RW1_congr (h : EqS S S') {r : Int} (hr : 0 ≤ r ∧ r < 6) (hw : RW1 S r) : RW1 S' r := by
  obtain ⟨h1, h2, h3, h4, h5, h6, h7⟩ := hw
  have e0 : S' (514 + 40 * r) = S (514 + 40 * r) := h.at (by omega)
  have e1 : S' (515 + 40 * r) = S (515 + 40 * r) := h.at (by omega)
  have e2 : S' (516 + 40 * r) = S (516 + 40 * r) := h.at (by omega)
  have e3 : S' (517 + 40 * r) = S (517 + 40 * r) := h.at (by omega)
  unfold RW1
  rw [e0, e1, e2, e3]
  refine ⟨h1, h2, h3, h4, fun e e0 e1 => EW_congr h hr ⟨e0, by omega⟩ (h5 e e0 e1), fun p p0 p1 => ?_, fun p p' p0 p1 p2 => ?_⟩
  · have g := h6 p p0 p1
    unfold PW at g ⊢
    rw [h.pt hr (e := p) (w := 0) ⟨p0, by omega⟩ (by omega), h.pt hr (e := p) (w := 1) ⟨p0, by omega⟩ (by omega), h.pt hr (e := p) (w := 2) ⟨p0, by omega⟩ (by omega), e2]
    refine ⟨g.1, g.2.1, g.2.2.1, g.2.2.2.1, fun q => ?_⟩
    obtain ⟨a1, a2, e, a3, a4, a5⟩ := g.2.2.2.2 q
    exact ⟨a1, a2, e, a3, a4, by rw [key_congr h hr ⟨a3, by omega⟩]; exact a5⟩
  · rw [h.pt hr (e := p) (w := 0) ⟨p0, by omega⟩ (by omega), h.pt hr (e := p) (w := 1) ⟨p0, by omega⟩ (by omega), h.pt hr (e := p) (w := 2) ⟨p0, by omega⟩ (by omega), h.pt hr (e := p') (w := 0) ⟨by omega, by omega⟩ (by omega), h.pt hr (e := p') (w := 1) ⟨by omega, by omega⟩ (by omega)]
    exact h7 p p' p0 p1 p2
theorem QW_congr (h : EqS S S') (hQ : QW S) : QW S' := by
  obtain ⟨h1, h2, h3, h4, h5⟩ := hQ
  have e2 : S' 2 = S 2 := h.at (by omega)
  have e3 : S' 3 = S 3 := h.at (by omega)
  have e4 : S' 4 = S 4 := h.at (by omega)
  have e6 : S' 6 = S 6 := h.at (by omega)
  have e7 : S' 7 = S 7 := h.at (by omega)
  unfold QW RW
  rw [e2, e3, e4, e6, e7]
  exact ⟨h1, ⟨h2.1, h2.2.1, fun r r0 r1 => RW1_congr h ⟨r0, by have := h2.2.1; omega⟩ (h2.2.2 r r0 r1)⟩, h3, h4, h5⟩
theorem Tk_congr (h : EqS S S') (h2 : 0 ≤ S 2 ∧ S 2 ≤ 200) : Tk (fun i => S (10 + i)) (S 2) n b → Tk (fun i => S' (10 + i)) (S' 2) n b := by
  intro g
  rw [h.at (j := 2) (by omega)]
  exact g.congr (fun i i0 i1 => h.at (by omega))
theorem like_congr (h : EqS S S') (h2 : S 2 ≤ 200) (hTk : Tk (fun i => S (10 + i)) (S 2) n b) {t u : Int} (t0 : 0 ≤ t) (t1 : t < n) (u0 : 0 ≤ u) (u1 : u < n) : like S b t u → like S' b t u := by
  rintro ⟨g1, g2⟩
  refine ⟨g1, fun k k0 k1 => ?_⟩
  have a1 := hTk.bd (t := t) t0 (by omega)
  have a2 := hTk.bd (t := t + 1) (by omega) (by omega)
  have a3 := hTk.bd (t := u) u0 (by omega)
  have a4 := hTk.bd (t := u + 1) (by omega) (by omega)
  rw [h.at (j := 10 + (b t + k)) (by omega), h.at (j := 10 + (b u + k)) (by omega)]
  exact g2 k k0 k1
theorem fit1_congr (h : EqS S S') (h2 : S 2 ≤ 200) (hTk : Tk (fun i => S (10 + i)) (S 2) n b) {r t e : Int} (hr : 0 ≤ r ∧ r < 6) (he : 0 ≤ e ∧ e < 6) (hw : EW S r e) (t0 : 0 ≤ t) (t1 : t + e < n) : fit1 S b r t e → fit1 S' b r t e := by
  rintro ⟨g1, g2⟩
  have a1 := hTk.bd (t := t + e) (by omega) (by omega)
  have a2 := hTk.bd (t := t + e + 1) (by omega) (by omega)
  have a3 := hTk.le (t := t + e) (u := t + e + 1) (by omega) (by omega) (by omega)
  unfold fit1
  rw [h.el hr he (w := 0) (by omega)]
  refine ⟨fun q => ?_, fun q => ?_⟩
  · obtain ⟨c1, c2⟩ := g1 q
    have w4 := hw.2.2.2 q
    unfold said
    rw [h.el hr he (w := 1) (by omega), h.el hr he (w := 2) (by omega)]
    refine ⟨c1, fun k k0 k1 => ?_⟩
    rw [h.at (j := 754 + S (518 + 40 * r + 3 * e + 1) + k) (by omega), h.at (j := 10 + (b (t + e) + k)) (by omega)]
    exact c2 k k0 k1
  · obtain ⟨c1, c2⟩ := g2 q
    rw [h.at (j := 10 + b (t + e)) (by omega)]
    refine ⟨c1, fun q3 e0 he0 => ?_⟩
    obtain ⟨i0, i1, i2, i3⟩ := he0
    refine like_congr h h2 hTk (by omega) (by omega) (by omega) (by omega) (c2 q3 e0 ⟨i0, i1, ?_, fun e' x0 x1 => ?_⟩)
    · rw [key_congr h hr ⟨i0, by omega⟩, key_congr h hr he] at i2
      exact i2
    · have := i3 e' x0 x1
      rw [key_congr h hr ⟨x0, by omega⟩, key_congr h hr he] at this
      exact this
theorem Fit_congr (h : EqS S S') (h2 : S 2 ≤ 200) (hTk : Tk (fun i => S (10 + i)) (S 2) n b) {r t : Int} (hr : 0 ≤ r ∧ r < 6) (hw : RW1 S r) (t0 : 0 ≤ t) : Fit S n b r t → Fit S' n b r t := by
  rintro ⟨g1, g2⟩
  have e2 : S' (516 + 40 * r) = S (516 + 40 * r) := h.at (by omega)
  unfold Fit
  rw [e2]
  have := hw.2.2.1
  exact ⟨g1, fun e e0 e1 => fit1_congr h h2 hTk hr ⟨e0, by omega⟩ (hw.2.2.2.2.1 e e0 e1) t0 (by omega) (g2 e e0 e1)⟩
theorem isK_congr (h : EqS S S') {r k e : Int} (hr : 0 ≤ r ∧ r < 6) (hw : RW1 S r) : isK S r k e → isK S' r k e := by
  rintro ⟨g0, g1, g2, g3⟩
  have e2 : S' (516 + 40 * r) = S (516 + 40 * r) := h.at (by omega)
  have := hw.2.2.1
  refine ⟨g0, by omega, by rw [key_congr h hr ⟨g0, by omega⟩]; exact g2, fun e' x0 x1 => ?_⟩
  rw [key_congr h hr ⟨x0, by omega⟩]
  exact g3 e' x0 x1
theorem fk_congr (h : EqS S S') {r k : Int} (hr : 0 ≤ r ∧ r < 6) (hw : RW1 S r) : fk S' r k = fk S r k := by
  unfold fk
  congr 1
  funext e
  exact propext ⟨isK_congr h.symm hr (RW1_congr h hr hw), isK_congr h hr hw⟩
theorem stretch_congr {f g : Int → Int} {L : Int} (h : ∀ k, 0 ≤ k → k < L → f k = g k) : stretch f L = stretch g L := by
  unfold stretch
  apply List.map_congr_left
  intro k hk
  have := List.mem_range.mp hk
  exact h k (by omega) (by omega)
theorem nv_congr {f g : Int → Int} : ∀ c : Nat, (∀ k, 0 ≤ k → k < (c : Int) → f k = g k) → nv f c = nv g c := by
  intro c
  induction c with
  | zero => intro _; rfl
  | succ c ih =>
    intro h
    unfold nv
    rw [ih (fun k k0 k1 => h k k0 (by omega)), h c (by omega) (by omega)]
theorem pout_congr (h : EqS S S') (h2 : S 2 ≤ 200) (hTk : Tk (fun i => S (10 + i)) (S 2) n b) {r t p : Int} (hr : 0 ≤ r ∧ r < 6) (hp : 0 ≤ p ∧ p < 6) (hw : RW1 S r) (hP : PW S r p) (t0 : 0 ≤ t) (t1 : t + S (516 + 40 * r) ≤ n) : pout S' b r t p = pout S b r t p := by
  unfold pout
  rw [h.pt hr hp (w := 0) (by omega), h.pt hr hp (w := 1) (by omega), h.pt hr hp (w := 2) (by omega), fk_congr h hr hw]
  by_cases h4 : S (536 + 40 * r + 3 * p + 0) = 4
  · rw [if_pos h4, if_pos h4]
    have g := hP.2.2.2.1 h4
    exact stretch_congr (fun k k0 k1 => h.at (by omega))
  · rw [if_neg h4, if_neg h4]
    obtain ⟨-, -, e, e0, e1, e2⟩ := hP.2.2.2.2 h4
    have hk := isK_of e0 e1 e2
    generalize hu : t + fk S r (4 * pbase (S (536 + 40 * r + 3 * p + 0)) + S (536 + 40 * r + 3 * p + 1)) = u
    have u0 : 0 ≤ u ∧ u < n := by have := hk.1; have := hk.2.1; omega
    have c1 := hTk.bd (t := u) u0.1 (by omega)
    have c2 := hTk.bd (t := u + 1) (by omega) (by omega)
    show (if _ then num (max 0 (nv (fun k => S' (10 + (b u + k))) _ + _)) else if _ then stretch (fun k => S' _) _ else stretch (fun k => S' _) _) = (if _ then num (max 0 (nv (fun k => S (10 + (b u + k))) _ + _)) else if _ then stretch (fun k => S _) _ else stretch (fun k => S _) _)
    rw [nv_congr (f := fun k => S' (10 + (b u + k))) (g := fun k => S (10 + (b u + k))) _ (fun k k0 k1 => h.at (by omega)), stretch_congr (f := fun k => S' (10 + (b u + k))) (g := fun k => S (10 + (b u + k))) (fun k k0 k1 => h.at (by omega)), stretch_congr (f := fun k => S' (10 + (b u + (b (u + 1) - b u - 1 - k)))) (g := fun k => S (10 + (b u + (b (u + 1) - b u - 1 - k)))) (fun k k0 k1 => h.at (by omega))]
theorem Out_congr (h : EqS S S') (h2 : S 2 ≤ 200) (hTk : Tk (fun i => S (10 + i)) (S 2) n b) {r t : Int} (hr : 0 ≤ r ∧ r < 6) (hw : RW1 S r) (t0 : 0 ≤ t) (t1 : t + S (516 + 40 * r) ≤ n) : Out S' b r t = Out S b r t := by
  have e3 : S' (517 + 40 * r) = S (517 + 40 * r) := h.at (by omega)
  unfold Out
  rw [e3]
  have h6 := hw.2.2.2.1
  have key : ∀ c : Nat, (c : Int) ≤ S (517 + 40 * r) → pouts S' b r t c = pouts S b r t c := by
    intro c
    induction c with
    | zero => intro _; rfl
    | succ c ih =>
      intro hc
      unfold pouts
      rw [ih (by omega), pout_congr h h2 hTk hr ⟨by omega, by omega⟩ hw (hw.2.2.2.2.2.1 c (by omega) (by omega)) t0 t1]
  exact key _ (by omega)
theorem isF_congr (h : EqS S S') (h2 : S 2 ≤ 200) (hR : RW S) (hTk : Tk (fun i => S (10 + i)) (S 2) n b) {r t : Int} : isF S n b r t → isF S' n b r t := by
  rintro ⟨r0, r1, t0, t1, o, f, x⟩
  have hr : 0 ≤ r ∧ r < 6 := ⟨r0, by have := hR.2.1; omega⟩
  have hw := hR.2.2 r r0 r1
  have e4 : S' 4 = S 4 := h.at (by omega)
  have e2 : S' (516 + 40 * r) = S (516 + 40 * r) := h.at (by omega)
  have e1 : S' (515 + 40 * r) = S (515 + 40 * r) := h.at (by omega)
  refine ⟨r0, by omega, t0, t1, by omega, Fit_congr h h2 hTk hr hw t0 f, ?_⟩
  rw [Out_congr h h2 hTk hr hw t0 f.1, e2]
  have e : slice S' (b t) (b (t + S (516 + 40 * r))) = slice S (b t) (b (t + S (516 + 40 * r))) := by
    have c1 := hTk.bd (t := t) t0 (by omega)
    have c2 := hTk.bd (t := t + S (516 + 40 * r)) (by have := hw.2.2.1; omega) f.1
    exact stretch_congr (fun k k0 k1 => h.at (by omega))
  rw [e]
  exact x
theorem Fnd_congr (h : EqS S S') (hQ : QW S) (hTk : Tk (fun i => S (10 + i)) (S 2) n b) {F : List (Int × Int)} : Fnd S n b F → Fnd S' n b F := by
  rintro ⟨g1, g2⟩
  have hR := hQ.2.1
  have hQ' := QW_congr h hQ
  have hTk' := Tk_congr h hQ.1 hTk
  refine ⟨List.Pairwise.imp_of_mem (fun {x y} hx hy q => ?_) g1, fun x => (g2 x).trans ⟨isF_congr h hQ.1.2 hR hTk, isF_congr h.symm hQ'.1.2 hQ'.2.1 hTk'⟩⟩
  obtain ⟨x0, x1, -⟩ := (g2 x).mp hx
  obtain ⟨y0, y1, -⟩ := (g2 y).mp hy
  have := hR.2.1
  unfold flt at *
  rw [h.at (j := 516 + 40 * x.1) (by omega), h.at (j := 516 + 40 * y.1) (by omega)]
  exact q
/-! so all that a state has is alike -/
theorem nT_congr (h : EqS S S') (h2 : 0 ≤ S 2 ∧ S 2 ≤ 200) : nT S' = nT S := by
  have h2' : 0 ≤ S' 2 ∧ S' 2 ≤ 200 := by rw [h.at (j := 2) (by omega)]; exact h2
  unfold nT
  congr 1
  funext n
  exact propext ⟨fun ⟨b, g⟩ => ⟨b, Tk_congr h.symm h2' g⟩, fun ⟨b, g⟩ => ⟨b, Tk_congr h h2 g⟩⟩
theorem bT_congr (h : EqS S S') (h2 : 0 ≤ S 2 ∧ S 2 ≤ 200) : bT S' = bT S := by
  have h2' : 0 ≤ S' 2 ∧ S' 2 ≤ 200 := by rw [h.at (j := 2) (by omega)]; exact h2
  unfold bT
  rw [nT_congr h h2]
  congr 1
  funext b
  exact propext ⟨fun g => Tk_congr h.symm h2' g, fun g => Tk_congr h h2 g⟩
theorem FL_congr (h : EqS S S') (hQ : QW S) : FL S' = FL S := by
  have hQ' := QW_congr h hQ
  have hTk := tkS (S := S) hQ.1.1
  unfold FL
  rw [nT_congr h hQ.1, bT_congr h hQ.1]
  congr 1
  funext F
  exact propext ⟨fun g => Fnd_congr h.symm hQ' (Tk_congr h hQ.1 hTk) g, fun g => Fnd_congr h hQ hTk g⟩
theorem fa_rule (hQ : QW S) (hF : Fnd S (nT S) (bT S) (FL S)) (i : Int) : 0 ≤ fR S i ∧ fR S i < 6 := by
  by_cases hi : i.toNat < (FL S).length
  · have g := (hF.2 _).mp (gd_mem (d := ((0, 0) : Int × Int)) hi)
    have := hQ.2.1.2.1
    exact ⟨g.1, by have := g.2.1; show ((FL S).getD i.toNat (0, 0)).1 < 6; omega⟩
  · have : fa (FL S) i = (0, 0) := by
      unfold fa
      rw [List.getD_eq_getElem?_getD, List.getElem?_eq_none (by omega)]
      rfl
    unfold fR
    rw [this]
    decide
theorem fR_congr (h : EqS S S') (hQ : QW S) : fR S' = fR S := by funext i; unfold fR; rw [FL_congr h hQ]
theorem fT_congr (h : EqS S S') (hQ : QW S) : fT S' = fT S := by funext i; unfold fT; rw [FL_congr h hQ]
theorem fB_congr (h : EqS S S') (hQ : QW S) : fB S' = fB S := by funext i; unfold fB; rw [FL_congr h hQ, bT_congr h hQ.1]
theorem fE_congr (h : EqS S S') (hQ : QW S) (hF : Fnd S (nT S) (bT S) (FL S)) : fE S' = fE S := by
  funext i
  have r := fa_rule hQ hF i
  unfold fE fe_
  rw [FL_congr h hQ, bT_congr h hQ.1, h.at (j := 516 + 40 * (fa (FL S) i).1) (by unfold fR at r; omega)]
theorem fV_congr (h : EqS S S') (hQ : QW S) (hF : Fnd S (nT S) (bT S) (FL S)) : fV S' = fV S := by
  funext i
  have r := fa_rule hQ hF i
  have e1 : fE S' i = fE S i := by rw [fE_congr h hQ hF]
  have e2 : fB S' i = fB S i := by rw [fB_congr h hQ]
  have e3 : fR S' i = fR S i := by rw [fR_congr h hQ]
  show valOf S' (fR S' i) (fE S' i - fB S' i) = valOf S (fR S i) (fE S i - fB S i)
  rw [e1, e2, e3]
  unfold valOf
  rw [h.at (j := 5) (by omega), h.at (j := 514 + 40 * fR S i) (by omega)]
theorem sil_congr (h : EqS S S') (h3 : 0 ≤ S 3 ∧ S 3 ≤ 8) {i j : Int} : sil S i j → sil S' i j := by
  rintro ⟨k, k0, k1, k2, k3⟩
  have e3 : S' 3 = S 3 := h.at (by omega)
  exact ⟨k, k0, by omega, by rw [h.at (by omega)]; exact k2, by rw [h.at (by omega)]; exact k3⟩
theorem yto_congr (h : EqS S S') (h7 : 0 ≤ S 7 ∧ S 7 ≤ 8) {i j : Int} : yto S i j → yto S' i j := by
  rintro ⟨k, k0, k1, k2, k3⟩
  have e7 : S' 7 = S 7 := h.at (by omega)
  exact ⟨k, k0, by omega, by rw [h.at (by omega)]; exact k2, by rw [h.at (by omega)]; exact k3⟩
theorem fSi_congr (h : EqS S S') (hQ : QW S) (hF : Fnd S (nT S) (bT S) (FL S)) : fSi S' = fSi S := by
  funext i
  have e1 : fE S' i = fE S i := by rw [fE_congr h hQ hF]
  have e2 : fB S' i = fB S i := by rw [fB_congr h hQ]
  show sil S' (fB S' i) (fE S' i) = sil S (fB S i) (fE S i)
  rw [e1, e2]
  exact propext ⟨sil_congr h.symm (QW_congr h hQ).2.2.1, sil_congr h hQ.2.2.1⟩
theorem fYi_congr (h : EqS S S') (hQ : QW S) (hF : Fnd S (nT S) (bT S) (FL S)) : fYi S' = fYi S := by
  funext i
  have e1 := fE_congr h hQ hF
  have e2 := fB_congr h hQ
  have e3 := fR_congr h hQ
  have e4 := fSi_congr h hQ hF
  show (∃ g : Int, 0 ≤ g ∧ g < ((FL S').length : Int) ∧ ¬ fSi S' g ∧ (fB S' i < fE S' g ∧ fB S' g < fE S' i) ∧ yto S' (fR S' i) (fR S' g)) = (∃ g : Int, 0 ≤ g ∧ g < ((FL S).length : Int) ∧ ¬ fSi S g ∧ (fB S i < fE S g ∧ fB S g < fE S i) ∧ yto S (fR S i) (fR S g))
  rw [e1, e2, e3, e4, FL_congr h hQ]
  refine propext ⟨fun ⟨g, a, c, d, e, f⟩ => ⟨g, a, c, d, e, yto_congr h.symm (QW_congr h hQ).2.2.2.2 f⟩, fun ⟨g, a, c, d, e, f⟩ => ⟨g, a, c, d, e, yto_congr h hQ.2.2.2.2 f⟩⟩
theorem fFr_congr (h : EqS S S') (hQ : QW S) (hF : Fnd S (nT S) (bT S) (FL S)) : fFr S' = fFr S := by
  funext i
  show (¬ fSi S' i ∧ ¬ fYi S' i) = (¬ fSi S i ∧ ¬ fYi S i)
  rw [fSi_congr h hQ hF, fYi_congr h hQ hF]
theorem fN_congr (h : EqS S S') (hQ : QW S) (hF : Fnd S (nT S) (bT S) (FL S)) : fN S' = fN S := by
  funext f
  show Classical.epsilon (fun g => f < g ∧ g ≤ ((FL S').length : Int) ∧ (∀ k, f < k → k < g → fB S' k < fE S' f) ∧ (g < ((FL S').length : Int) → fE S' f ≤ fB S' g)) = Classical.epsilon (fun g => f < g ∧ g ≤ ((FL S).length : Int) ∧ (∀ k, f < k → k < g → fB S k < fE S f) ∧ (g < ((FL S).length : Int) → fE S f ≤ fB S g))
  rw [fE_congr h hQ hF, fB_congr h hQ, FL_congr h hQ]
theorem dpS_congr (h : EqS S S') (hQ : QW S) (hF : Fnd S (nT S) (bT S) (FL S)) : dpS S' = dpS S := by
  unfold dpS NF
  rw [fV_congr h hQ hF, fFr_congr h hQ hF, fN_congr h hQ hF, FL_congr h hQ]
theorem setL_congr (h : EqS S S') (hQ : QW S) (hF : Fnd S (nT S) (bT S) (FL S)) : setL S' = setL S := by
  unfold setL NF
  rw [dpS_congr h hQ hF, fV_congr h hQ hF, fFr_congr h hQ hF, fN_congr h hQ hF, FL_congr h hQ, h.at (j := 6) (by omega)]
theorem wS_congr (h : EqS S S') (hQ : QW S) (hF : Fnd S (nT S) (bT S) (FL S)) : wS S' = wS S := by
  unfold wS
  rw [dpS_congr h hQ hF, h.at (j := 6) (by omega)]
theorem fO_congr (h : EqS S S') (hQ : QW S) (hF : Fnd S (nT S) (bT S) (FL S)) {f : Int} (f0 : 0 ≤ f) (f1 : f < NF S) : fO S' f = fO S f := by
  have bd := f_bd hQ hF f0 f1
  unfold fO
  rw [fR_congr h hQ, fT_congr h hQ, bT_congr h hQ.1]
  exact Out_congr h hQ.1.2 (tkS hQ.1.1) bd.2.2.2.2.1 bd.2.2.2.1 bd.2.2.2.2.2.1.1 bd.2.2.2.2.2.2.1
theorem LFS_congr {m : Nat} {I I' : jM} (h : EqS S S') (hQ : QW S) (hL : LFS m S I) (hS : I' (m + 1) = S') (hk : ∀ a j, (m + 3 ≤ a ∧ a ≤ m + 15) ∨ (a = m ∧ (j = 4 ∨ j = 17 ∨ j = 20 ∨ j = 21)) → I' a j = I a j) : LFS m S' I' := by
  obtain ⟨h1, h2, h3, h4, h5, h6, h7⟩ := hL
  have hNe : NF S' = NF S := by unfold NF; rw [FL_congr h hQ]
  unfold LFS
  rw [hNe, nT_congr h hQ.1, bT_congr h hQ.1, FL_congr h hQ, setL_congr h hQ h3, wS_congr h hQ h3, fV_congr h hQ h3, fSi_congr h hQ h3, fYi_congr h hQ h3]
  refine ⟨⟨hS, (QW_congr h hQ).1.2, Tk_congr h hQ.1 (tkS hQ.1.1), ?_, fun u u0 u1 => ?_⟩, ⟨?_, fun i hi => ?_⟩, Fnd_congr h hQ (tkS hQ.1.1) h3, h4, fun i i0 i1 => ?_, ?_, ?_⟩
  · rw [hk _ _ (by omega)]; exact h1.2.2.2.1
  · rw [hk _ _ (by omega), hk _ _ (by omega)]; exact h1.2.2.2.2 u u0 u1
  · rw [hk _ _ (by omega)]; exact h2.1
  · have g := h2.2 i hi
    have i0 : 0 ≤ (i : Int) := by omega
    have i1 : (i : Int) < NF S := by unfold NF; omega
    have bd := f_bd hQ h3 i0 i1
    have eo := fO_congr h hQ h3 i0 i1
    unfold fO at eo
    rw [fR_congr h hQ, fT_congr h hQ, bT_congr h hQ.1] at eo
    have ef : fa (FL S) (i : Int) = (FL S).getD i (0, 0) := rfl
    unfold Rw at g ⊢
    have eo' : Out S' (bT S) ((FL S).getD i (0, 0)).1 ((FL S).getD i (0, 0)).2 = Out S (bT S) ((FL S).getD i (0, 0)).1 ((FL S).getD i (0, 0)).2 := eo
    have r : 0 ≤ ((FL S).getD i (0, 0)).1 ∧ ((FL S).getD i (0, 0)).1 < 6 := bd.2.2.2.2.1
    rw [hk _ _ (by omega), hk _ _ (by omega), hk _ _ (by omega), hk _ _ (by omega), hk _ _ (by omega), eo', h.at (j := 516 + 40 * ((FL S).getD i (0, 0)).1) (by omega)]
    exact g
  · rw [hk _ _ (by omega), hk _ _ (by omega), hk _ _ (by omega), hk _ _ (by omega)]; exact h5 i i0 i1
  · rw [hk _ _ (by omega)]; exact h6
  · rw [hk _ _ (by omega)]; exact h7
end CG
