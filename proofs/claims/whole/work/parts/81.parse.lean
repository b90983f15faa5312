/-! ===== rules as a text: how they are read ===== -/
def tp (T : List Int) (i : Int) : Int := T.getD i.toNat 0
def nxt (T : List Int) (f : Int) : Int := if f < T.length then tp T f else -1
def sby (c : Int) : Int := if c = 119 then 0 else if c = 110 then 1 else if c = 115 then 2 else -1
def nmd (c : Int) : Prop := 97 ≤ c ∧ c ≤ 100
def bgE (c : Int) : Prop := sby c ≠ -1 ∨ c = 95 ∨ c = 39
def bgP (c : Int) : Prop := sby c ≠ -1 ∨ c = 43 ∨ c = 45 ∨ c = 126 ∨ c = 39
def inQ (c : Int) : Prop := (32 ≤ c ∧ c ≤ 126) ∧ c ≠ 39
noncomputable def qs (T : List Int) : Nat → Int → Int
  | 0, f => f
  | d + 1, f => @ite _ (inQ (nxt T f)) (Classical.propDecidable _) (qs T d (f + 1)) f
def isTok (T : List Int) (a b : Int) : Prop := a < b ∧ ∀ k, a < k → k < b → srt (tp T a) ≠ 2 ∧ srt (tp T k) = srt (tp T a)
noncomputable def pBy (T : List Int) (f el : Int) : Except (Int × Int) ((Int × Int × Int) × Int) :=
  if nxt T (qs T 300 (f + 1)) ≠ 39 then .error (1, qs T 300 (f + 1))
  else @ite _ (el = 1 ∧ ¬ isTok T (f + 1) (qs T 300 (f + 1))) (Classical.propDecidable _) (.error (6, f)) (.ok ((4, f + 1, qs T 300 (f + 1) - f - 1), qs T 300 (f + 1) + 1))
noncomputable def pEl (T : List Int) (f : Int) : Except (Int × Int) ((Int × Int × Int) × Int) :=
  if nxt T f = 39 then pBy T f 1
  else if nxt T f = 95 then .ok ((3, 0, 0), f + 1)
  else @ite _ (nmd (nxt T (f + 1))) (Classical.propDecidable _) (.ok ((sby (nxt T f), nxt T (f + 1) - 97, 0), f + 2)) (.error (1, f + 1))
noncomputable def pEls (T : List Int) : Nat → List (Int × Int × Int) → Int → Except (Int × Int) (List (Int × Int × Int) × Int)
  | d, acc, f => @ite _ (bgE (nxt T f)) (Classical.propDecidable _) (match d with
    | 0 => .error (4, f)
    | d + 1 => match pEl T f with
      | .error p => .error p
      | .ok a => pEls T d (acc ++ [a.1]) a.2) (if 0 < acc.length ∧ nxt T f = 62 then .ok (acc, f + 1) else .error (1, f))
def named (els : List (Int × Int × Int)) (s n : Int) : Prop := ∃ e : Nat, e < els.length ∧ (els.getD e (0, 0, 0)).1 = s ∧ (els.getD e (0, 0, 0)).2.1 = n
noncomputable def pPn (T : List Int) (els : List (Int × Int × Int)) (c g : Int) : Except (Int × Int) ((Int × Int × Int) × Int) :=
  @ite _ (¬ nmd (nxt T (g + 1))) (Classical.propDecidable _) (.error (1, g + 1))
    (@ite _ (¬ named els (sby (nxt T g)) (nxt T (g + 1) - 97)) (Classical.propDecidable _) (.error (5, g))
      (.ok ((if c = 43 then 5 else if c = 45 then 6 else if c = 126 then 7 else sby (nxt T g), nxt T (g + 1) - 97, 0), g + 2)))
noncomputable def pPt (T : List Int) (els : List (Int × Int × Int)) (f : Int) : Except (Int × Int) ((Int × Int × Int) × Int) :=
  if nxt T f = 39 then pBy T f 0
  else if sby (nxt T f) ≠ -1 then pPn T els (nxt T f) f
  else if sby (nxt T (f + 1)) ≠ (if nxt T f = 126 then 0 else 1) then .error (1, f + 1)
  else pPn T els (nxt T f) (f + 1)
noncomputable def pPts (T : List Int) (els : List (Int × Int × Int)) : Nat → List (Int × Int × Int) → Int → Except (Int × Int) (List (Int × Int × Int) × Int)
  | d, acc, f => @ite _ (bgP (nxt T f)) (Classical.propDecidable _) (match d with
    | 0 => .error (4, f)
    | d + 1 => match pPt T els f with
      | .error p => .error p
      | .ok a => pPts T els d (acc ++ [a.1]) a.2) (if nxt T f = -1 ∨ nxt T f = 59 then .ok (acc, f) else .error (1, f))
def ds (T : List Int) : Nat → Int → Int → Int × Int
  | 0, v, f => (v, f)
  | d + 1, v, f => if 48 ≤ nxt T f ∧ nxt T f ≤ 57 then ds T d (if 99 < v then v else 10 * v + nxt T f - 48) (f + 1) else (v, f)
abbrev rul : Type := Int × List (Int × Int × Int) × List (Int × Int × Int)
noncomputable def pRl (T : List Int) (cnt : Int) (f : Int) : Except (Int × Int) (rul × Int) :=
  if (ds T 300 0 f).2 = f then .error (1, f)
  else if ¬ (1 ≤ (ds T 300 0 f).1 ∧ (ds T 300 0 f).1 ≤ 99) then .error (2, f)
  else if cnt = 6 then .error (3, f)
  else if nxt T (ds T 300 0 f).2 ≠ 58 then .error (1, (ds T 300 0 f).2)
  else match pEls T 6 [] ((ds T 300 0 f).2 + 1) with
    | .error p => .error p
    | .ok a => match pPts T a.1 6 [] a.2 with
      | .error p => .error p
      | .ok b => .ok (((ds T 300 0 f).1, a.1, b.1), b.2)
noncomputable def pRls (T : List Int) : Nat → List rul → Int → Except (Int × Int) (List rul)
  | 0, acc, _ => .ok acc
  | d + 1, acc, f => match pRl T acc.length f with
    | .error p => .error p
    | .ok a => if nxt T a.2 = 59 then pRls T d (acc ++ [a.1]) (a.2 + 1) else .ok (acc ++ [a.1])
noncomputable def pAll (T : List Int) : Except (Int × Int) (List rul) := if T = [] then .ok [] else pRls T 7 [] 0
/-! what is read is well made -/
section PA
variable {T : List Int}
theorem nxt_lt {f : Int} (h : nxt T f ≠ -1) : f < T.length := by
  unfold nxt at h
  split at h
  · assumption
  · exact absurd rfl h
theorem nxt_tp {f : Int} (h : f < T.length) : nxt T f = tp T f := if_pos h
theorem sby_bd (c : Int) : -1 ≤ sby c ∧ sby c ≤ 2 := by unfold sby; split <;> (try split) <;> (try split) <;> decide
theorem sby_ne {c : Int} (h : sby c ≠ -1) : c = 119 ∨ c = 110 ∨ c = 115 := by
  unfold sby at h
  split at h
  · omega
  · split at h
    · omega
    · split at h
      · omega
      · exact absurd rfl h
theorem qs_s {d : Nat} {f : Int} (h : inQ (nxt T f)) : qs T (d + 1) f = qs T d (f + 1) := by
  show @ite _ _ (Classical.propDecidable _) _ _ = _
  rw [if_pos h]
theorem qs_e {d : Nat} {f : Int} (h : ¬ inQ (nxt T f)) : qs T d f = f := by
  cases d with
  | zero => rfl
  | succ d =>
    show @ite _ _ (Classical.propDecidable _) _ _ = _
    rw [if_neg h]
theorem qs_bd : ∀ (d : Nat) (f : Int), f ≤ qs T d f ∧ qs T d f ≤ f + d ∧ ∀ k, f ≤ k → k < qs T d f → inQ (nxt T k) := by
  intro d
  induction d with
  | zero => intro f; refine ⟨Int.le_refl _, by show f ≤ f + ((0 : Nat) : Int); omega, fun k a b => ?_⟩; have : qs T 0 f = f := rfl; omega
  | succ d ih =>
    intro f
    by_cases h : inQ (nxt T f)
    · rw [qs_s h]
      obtain ⟨a, b, c⟩ := ih (f + 1)
      refine ⟨by omega, by omega, fun k k0 k1 => ?_⟩
      by_cases e : k = f
      · rw [e]; exact h
      · exact c k (by omega) k1
    · rw [qs_e h]
      exact ⟨Int.le_refl _, by omega, fun k a b => by omega⟩
theorem ds_s {d : Nat} {v f : Int} (h : 48 ≤ nxt T f ∧ nxt T f ≤ 57) : ds T (d + 1) v f = ds T d (if 99 < v then v else 10 * v + nxt T f - 48) (f + 1) := by
  show (if _ then _ else _) = _
  rw [if_pos h]
theorem ds_e {d : Nat} {v f : Int} (h : ¬ (48 ≤ nxt T f ∧ nxt T f ≤ 57)) : ds T d v f = (v, f) := by
  cases d with
  | zero => rfl
  | succ d =>
    show (if _ then _ else _) = _
    rw [if_neg h]
theorem ds_bd : ∀ (d : Nat) (v f : Int), 0 ≤ v → v ≤ 999 → f ≤ (ds T d v f).2 ∧ (f ≤ T.length → (ds T d v f).2 ≤ T.length) ∧ 0 ≤ (ds T d v f).1 ∧ (ds T d v f).1 ≤ 999 := by
  intro d
  induction d with
  | zero => intro v f h0 h1; exact ⟨Int.le_refl _, fun h => h, h0, h1⟩
  | succ d ih =>
    intro v f h0 h1
    by_cases h : 48 ≤ nxt T f ∧ nxt T f ≤ 57
    · rw [ds_s h]
      have hl := nxt_lt (T := T) (f := f) (by omega)
      have i := ih (if 99 < v then v else 10 * v + nxt T f - 48) (f + 1) (by split <;> omega) (by split <;> omega)
      exact ⟨by omega, fun _ => i.2.1 (by omega), i.2.2⟩
    · rw [ds_e h]
      exact ⟨Int.le_refl _, fun h => h, h0, h1⟩
/-- quoted bytes -/
def Quo (T : List Int) (a : Int × Int × Int) : Prop := 0 ≤ a.2.1 ∧ 0 ≤ a.2.2 ∧ a.2.1 + a.2.2 ≤ T.length ∧ ∀ k, a.2.1 ≤ k → k < a.2.1 + a.2.2 → 32 ≤ tp T k ∧ tp T k ≤ 126
def WfE (T : List Int) (a : Int × Int × Int) : Prop := (0 ≤ a.1 ∧ a.1 ≤ 4) ∧ (a.1 ≤ 2 → 0 ≤ a.2.1 ∧ a.2.1 ≤ 3) ∧ (a.1 = 4 → Quo T a ∧ 1 ≤ a.2.2)
def WfP (T : List Int) (els : List (Int × Int × Int)) (a : Int × Int × Int) : Prop := (0 ≤ a.1 ∧ a.1 ≤ 7 ∧ a.1 ≠ 3) ∧ (a.1 = 4 → Quo T a) ∧ (a.1 ≠ 4 → (0 ≤ a.2.1 ∧ a.2.1 ≤ 3) ∧ named els (pbase a.1) a.2.1)
theorem pBy_ok {f el : Int} (f0 : 0 ≤ f) {r : (Int × Int × Int) × Int} (h : pBy T f el = .ok r) : r.1.1 = 4 ∧ Quo T r.1 ∧ r.2 = r.1.2.1 + r.1.2.2 + 1 ∧ r.1.2.1 = f + 1 ∧ r.2 ≤ T.length ∧ (el = 1 → 1 ≤ r.1.2.2) := by
  have b := qs_bd (T := T) 300 (f + 1)
  unfold pBy at h
  split at h
  · cases h
  · rename_i q
    have q' : nxt T (qs T 300 (f + 1)) = 39 := Classical.byContradiction q
    have hl := nxt_lt (T := T) (f := qs T 300 (f + 1)) (by omega)
    by_cases g : el = 1 ∧ ¬ isTok T (f + 1) (qs T 300 (f + 1))
    · rw [if_pos g] at h
      cases h
    · rw [if_neg g] at h
      injection h with h
      subst h
      refine ⟨rfl, ⟨by show 0 ≤ f + 1; omega, by show 0 ≤ qs T 300 (f + 1) - f - 1; omega, by show f + 1 + (qs T 300 (f + 1) - f - 1) ≤ _; omega, fun k k0 k1 => ?_⟩, by show qs T 300 (f + 1) + 1 = f + 1 + (qs T 300 (f + 1) - f - 1) + 1; omega, rfl, by show qs T 300 (f + 1) + 1 ≤ _; omega, fun e => ?_⟩
      · have k0' : f + 1 ≤ k := k0
        have k1' : k < f + 1 + (qs T 300 (f + 1) - f - 1) := k1
        have := b.2.2 k k0' (by omega)
        rw [nxt_tp (by omega)] at this
        exact this.1
      · have ht : isTok T (f + 1) (qs T 300 (f + 1)) := Classical.byContradiction (fun n => g ⟨e, n⟩)
        have := ht.1
        show 1 ≤ qs T 300 (f + 1) - f - 1
        omega
theorem pEl_ok {f : Int} (f0 : 0 ≤ f) (hb : bgE (nxt T f)) {r : (Int × Int × Int) × Int} (h : pEl T f = .ok r) : WfE T r.1 ∧ f < r.2 ∧ r.2 ≤ T.length := by
  unfold pEl at h
  split at h
  · obtain ⟨a, b, c, d, e, g⟩ := pBy_ok f0 h
    have b2 := b.2.1
    exact ⟨⟨by omega, fun q => by omega, fun _ => ⟨b, g rfl⟩⟩, by omega, e⟩
  · split at h
    · rename_i q
      have hl := nxt_lt (T := T) (f := f) (by omega)
      injection h with h
      subst h
      exact ⟨⟨by show (0 : Int) ≤ 3 ∧ (3 : Int) ≤ 4; omega, fun q => absurd q (by show ¬ (3 : Int) ≤ 2; omega), fun q => absurd q (by show ¬ (3 : Int) = 4; omega)⟩, by show f < f + 1; omega, by show f + 1 ≤ _; omega⟩
    · rename_i q1 q2
      by_cases g : nmd (nxt T (f + 1))
      · rw [if_pos g] at h
        have hl := nxt_lt (T := T) (f := f + 1) (by unfold nmd at g; omega)
        injection h with h
        subst h
        have hs : sby (nxt T f) ≠ -1 := by
          rcases hb with hb | hb | hb
          · exact hb
          · exact absurd hb q2
          · exact absurd hb q1
        have sb := sby_bd (nxt T f)
        unfold nmd at g
        refine ⟨⟨by show 0 ≤ sby (nxt T f) ∧ sby (nxt T f) ≤ 4; omega, fun _ => by show 0 ≤ nxt T (f + 1) - 97 ∧ nxt T (f + 1) - 97 ≤ 3; omega, fun q => absurd q (by show ¬ sby (nxt T f) = 4; omega)⟩, by show f < f + 2; omega, by show f + 2 ≤ _; omega⟩
      · rw [if_neg g] at h
        cases h
theorem pEls_ok : ∀ (d : Nat) (acc : List (Int × Int × Int)) (f : Int) {r : List (Int × Int × Int) × Int}, 0 ≤ f → (∀ a ∈ acc, WfE T a) → acc.length + d = 6 → pEls T d acc f = .ok r → (∀ a ∈ r.1, WfE T a) ∧ (1 ≤ r.1.length ∧ r.1.length ≤ 6) ∧ f < r.2 ∧ r.2 ≤ T.length := by
  intro d
  induction d with
  | zero =>
    intro acc f r f0 ha hd h
    unfold pEls at h
    by_cases g : bgE (nxt T f)
    · rw [if_pos g] at h
      cases h
    · rw [if_neg g] at h
      split at h
      · rename_i q
        have hl := nxt_lt (T := T) (f := f) (by omega)
        injection h with h
        subst h
        exact ⟨ha, by show 1 ≤ acc.length ∧ acc.length ≤ 6; omega, by show f < f + 1; omega, by show f + 1 ≤ _; omega⟩
      · cases h
  | succ d ih =>
    intro acc f r f0 ha hd h
    unfold pEls at h
    by_cases g : bgE (nxt T f)
    · rw [if_pos g] at h
      cases e : pEl T f with
      | error p => simp only [e] at h; cases h
      | ok a =>
        simp only [e] at h
        obtain ⟨w1, w2, w3⟩ := pEl_ok f0 g e
        have := ih (acc ++ [a.1]) a.2 (by omega) (fun x hx => by
          rcases List.mem_append.mp hx with q | q
          · exact ha x q
          · rw [List.mem_singleton.mp q]; exact w1) (by rw [List.length_append]; simp; omega) h
        exact ⟨this.1, this.2.1, by omega, this.2.2.2⟩
    · rw [if_neg g] at h
      split at h
      · rename_i q
        have hl := nxt_lt (T := T) (f := f) (by omega)
        injection h with h
        subst h
        exact ⟨ha, by show 1 ≤ acc.length ∧ acc.length ≤ 6; omega, by show f < f + 1; omega, by show f + 1 ≤ _; omega⟩
      · cases h
theorem pPn_ok {els : List (Int × Int × Int)} {c g : Int} (hc : (sby c ≠ -1 ∧ c = nxt T g) ∨ (c = 126 ∧ sby (nxt T g) = 0) ∨ ((c = 43 ∨ c = 45) ∧ sby (nxt T g) = 1)) {r : (Int × Int × Int) × Int} (h : pPn T els c g = .ok r) : WfP T els r.1 ∧ r.1.1 ≠ 4 ∧ r.2 = g + 2 ∧ r.2 ≤ T.length := by
  unfold pPn at h
  by_cases q1 : ¬ nmd (nxt T (g + 1))
  · rw [if_pos q1] at h
    cases h
  · rw [if_neg q1] at h
    have q1' : nmd (nxt T (g + 1)) := Classical.byContradiction q1
    by_cases q2 : ¬ named els (sby (nxt T g)) (nxt T (g + 1) - 97)
    · rw [if_pos q2] at h
      cases h
    · rw [if_neg q2] at h
      have q2' : named els (sby (nxt T g)) (nxt T (g + 1) - 97) := Classical.byContradiction q2
      injection h with h
      subst h
      unfold nmd at q1'
      have hl := nxt_lt (T := T) (f := g + 1) (by omega)
      have sb := sby_bd (nxt T g)
      have key : ∀ s : Int, s = (if c = 43 then 5 else if c = 45 then 6 else if c = 126 then 7 else sby (nxt T g)) → (0 ≤ s ∧ s ≤ 7 ∧ s ≠ 3) ∧ s ≠ 4 ∧ pbase s = sby (nxt T g) := by
        intro s hs
        rcases hc with hc | hc | hc
        · have hk := sby_ne hc.1
          rw [if_neg (by omega), if_neg (by omega), if_neg (by omega)] at hs
          have hn : sby (nxt T g) ≠ -1 := by rw [← hc.2]; exact hc.1
          refine ⟨by omega, by omega, ?_⟩
          unfold pbase
          rw [if_neg (by omega), if_neg (by omega)]
          exact hs
        · rw [if_neg (by omega), if_neg (by omega), if_pos hc.1] at hs
          refine ⟨by omega, by omega, ?_⟩
          unfold pbase
          rw [if_pos hs]
          exact hc.2.symm
        · rcases hc.1 with e | e
          · rw [if_pos e] at hs
            refine ⟨by omega, by omega, ?_⟩
            unfold pbase
            rw [if_neg (by omega), if_pos (by omega)]
            exact hc.2.symm
          · rw [if_neg (by omega), if_pos e] at hs
            refine ⟨by omega, by omega, ?_⟩
            unfold pbase
            rw [if_neg (by omega), if_pos (by omega)]
            exact hc.2.symm
      obtain ⟨k1, k2, k3⟩ := key _ rfl
      refine ⟨⟨k1, fun q => absurd q k2, fun _ => ⟨by show 0 ≤ nxt T (g + 1) - 97 ∧ nxt T (g + 1) - 97 ≤ 3; omega, ?_⟩⟩, k2, rfl, by show g + 2 ≤ _; omega⟩
      rw [k3]
      exact q2'
theorem pPt_ok {els : List (Int × Int × Int)} {f : Int} (f0 : 0 ≤ f) (hb : bgP (nxt T f)) {r : (Int × Int × Int) × Int} (h : pPt T els f = .ok r) : WfP T els r.1 ∧ f < r.2 ∧ r.2 ≤ T.length ∧ (r.1.1 = 4 → f ≤ r.1.2.1 ∧ r.1.2.1 + r.1.2.2 ≤ r.2) := by
  unfold pPt at h
  split at h
  · obtain ⟨a, b, c, d, e, g⟩ := pBy_ok f0 h
    have b2 := b.2.1
    exact ⟨⟨by omega, fun _ => b, fun q => absurd a q⟩, by omega, e, fun _ => by omega⟩
  · rename_i q1
    split at h
    · rename_i q2
      obtain ⟨a, b, c, d⟩ := pPn_ok (Or.inl ⟨q2, rfl⟩) h
      exact ⟨a, by omega, d, fun q => absurd q b⟩
    · rename_i q2
      have q2' : sby (nxt T f) = -1 := Classical.byContradiction q2
      by_cases q3 : sby (nxt T (f + 1)) ≠ (if nxt T f = 126 then 0 else 1)
      · rw [if_pos q3] at h
        cases h
      · rw [if_neg q3] at h
        have q3' : sby (nxt T (f + 1)) = (if nxt T f = 126 then 0 else 1) := Classical.byContradiction q3
        have hc : (nxt T f = 126 ∧ sby (nxt T (f + 1)) = 0) ∨ ((nxt T f = 43 ∨ nxt T f = 45) ∧ sby (nxt T (f + 1)) = 1) := by
          rcases hb with hb | hb | hb | hb | hb
          · exact absurd q2' hb
          · rw [if_neg (by omega)] at q3'; exact Or.inr ⟨Or.inl hb, q3'⟩
          · rw [if_neg (by omega)] at q3'; exact Or.inr ⟨Or.inr hb, q3'⟩
          · rw [if_pos hb] at q3'; exact Or.inl ⟨hb, q3'⟩
          · exact absurd hb q1
        obtain ⟨a, b, c, d⟩ := pPn_ok (Or.inr hc) h
        exact ⟨a, by omega, d, fun q => absurd q b⟩
/-- parts: each is well made, quoted bytes come in their order, all ahead of f -/
def WfPs (T : List Int) (els pts : List (Int × Int × Int)) (f : Int) : Prop := (∀ a ∈ pts, WfP T els a ∧ (a.1 = 4 → a.2.1 + a.2.2 ≤ f)) ∧ ∀ i j : Nat, i < j → j < pts.length → (pts.getD i (0, 0, 0)).1 = 4 → (pts.getD j (0, 0, 0)).1 = 4 → (pts.getD i (0, 0, 0)).2.1 + (pts.getD i (0, 0, 0)).2.2 ≤ (pts.getD j (0, 0, 0)).2.1
theorem WfPs.push {els pts : List (Int × Int × Int)} {f f' : Int} (h : WfPs T els pts f) {a : Int × Int × Int} (hf : f ≤ f') (ha : WfP T els a) (hq : a.1 = 4 → f ≤ a.2.1 ∧ a.2.1 + a.2.2 ≤ f') : WfPs T els (pts ++ [a]) f' := by
  refine ⟨fun x hx => ?_, fun i j hij hj h4 h4' => ?_⟩
  · rcases List.mem_append.mp hx with q | q
    · have := h.1 x q
      exact ⟨this.1, fun g => by have := this.2 g; omega⟩
    · rw [List.mem_singleton.mp q]
      exact ⟨ha, fun g => (hq g).2⟩
  · rw [List.length_append] at hj
    simp at hj
    rw [gd_left (by omega)] at h4 ⊢
    by_cases q : j = pts.length
    · have e : (pts ++ [a]).getD j (0, 0, 0) = a := by rw [q, gd_right (Nat.le_refl _), Nat.sub_self]; rfl
      rw [e] at h4' ⊢
      have m := (h.1 _ (gd_mem (d := (0, 0, 0)) (show i < pts.length by omega))).2 h4
      have := (hq h4').1
      omega
    · rw [gd_left (by omega)] at h4' ⊢
      exact h.2 i j hij (by omega) h4 h4'
theorem pPts_ok {els : List (Int × Int × Int)} : ∀ (d : Nat) (acc : List (Int × Int × Int)) (f : Int) {r : List (Int × Int × Int) × Int}, 0 ≤ f → f ≤ T.length → WfPs T els acc f → acc.length + d = 6 → pPts T els d acc f = .ok r → (∃ g, WfPs T els r.1 g) ∧ r.1.length ≤ 6 ∧ f ≤ r.2 ∧ r.2 ≤ T.length ∧ (nxt T r.2 = -1 ∨ nxt T r.2 = 59) := by
  intro d
  induction d with
  | zero =>
    intro acc f r f0 f1 ha hd h
    unfold pPts at h
    by_cases g : bgP (nxt T f)
    · rw [if_pos g] at h
      cases h
    · rw [if_neg g] at h
      split at h
      · rename_i q
        injection h with h
        subst h
        exact ⟨⟨f, ha⟩, by show acc.length ≤ 6; omega, Int.le_refl _, f1, q⟩
      · cases h
  | succ d ih =>
    intro acc f r f0 f1 ha hd h
    unfold pPts at h
    by_cases g : bgP (nxt T f)
    · rw [if_pos g] at h
      cases e : pPt T els f with
      | error p => simp only [e] at h; cases h
      | ok a =>
        simp only [e] at h
        obtain ⟨w1, w2, w3, w4⟩ := pPt_ok f0 g e
        have := ih (acc ++ [a.1]) a.2 (by omega) w3 (ha.push (by omega) w1 w4) (by rw [List.length_append]; simp; omega) h
        exact ⟨this.1, this.2.1, by omega, this.2.2.2⟩
    · rw [if_neg g] at h
      split at h
      · rename_i q
        injection h with h
        subst h
        exact ⟨⟨f, ha⟩, by show acc.length ≤ 6; omega, Int.le_refl _, f1, q⟩
      · cases h
def WfR (T : List Int) (R : rul) : Prop := (1 ≤ R.1 ∧ R.1 ≤ 99) ∧ (∀ a ∈ R.2.1, WfE T a) ∧ (1 ≤ R.2.1.length ∧ R.2.1.length ≤ 6) ∧ (∃ g, WfPs T R.2.1 R.2.2 g) ∧ R.2.2.length ≤ 6
theorem pRl_ok {cnt f : Int} (f0 : 0 ≤ f) (f1 : f ≤ T.length) {r : rul × Int} (h : pRl T cnt f = .ok r) : WfR T r.1 ∧ f ≤ r.2 ∧ r.2 ≤ T.length ∧ cnt ≠ 6 ∧ (nxt T r.2 = -1 ∨ nxt T r.2 = 59) := by
  have b := ds_bd (T := T) 300 0 f (by omega) (by omega)
  unfold pRl at h
  split at h
  · cases h
  · split at h
    · cases h
    · rename_i q1 q2
      split at h
      · cases h
      · rename_i q3
        split at h
        · cases h
        · rename_i q4
          have q4' : nxt T (ds T 300 0 f).2 = 58 := Classical.byContradiction q4
          have hl := nxt_lt (T := T) (f := (ds T 300 0 f).2) (by omega)
          have q2' : 1 ≤ (ds T 300 0 f).1 ∧ (ds T 300 0 f).1 ≤ 99 := Classical.byContradiction q2
          cases e : pEls T 6 [] ((ds T 300 0 f).2 + 1) with
          | error p => simp only [e] at h; cases h
          | ok a =>
            simp only [e] at h
            obtain ⟨w1, w2, w3, w4⟩ := pEls_ok 6 [] _ (by omega) (fun a ha => absurd ha List.not_mem_nil) rfl e
            cases e2 : pPts T a.1 6 [] a.2 with
            | error p => simp only [e2] at h; cases h
            | ok c =>
              simp only [e2] at h
              obtain ⟨v1, v2, v3, v4, v5⟩ := pPts_ok 6 [] a.2 (by omega) w4 ⟨fun a ha => absurd ha List.not_mem_nil, fun i j _ hj => absurd hj (Nat.not_lt_zero j)⟩ rfl e2
              injection h with h
              subst h
              exact ⟨⟨q2', w1, w2, v1, v2⟩, by show f ≤ c.2; omega, v4, q3, v5⟩
theorem pRls_ok : ∀ (d : Nat) (acc : List rul) (f : Int) {r : List rul}, 0 ≤ f → f ≤ T.length → (∀ R ∈ acc, WfR T R) → acc.length ≤ 6 → pRls T d acc f = .ok r → (∀ R ∈ r, WfR T R) ∧ r.length ≤ 6 := by
  intro d
  induction d with
  | zero =>
    intro acc f r f0 f1 ha hd h
    have h' : Except.ok acc = Except.ok r := h
    injection h' with h'
    subst h'
    exact ⟨ha, hd⟩
  | succ d ih =>
    intro acc f r f0 f1 ha hd h
    have h' : (match pRl T acc.length f with
      | .error p => .error p
      | .ok a => if nxt T a.2 = 59 then pRls T d (acc ++ [a.1]) (a.2 + 1) else .ok (acc ++ [a.1])) = Except.ok r := h
    cases e : pRl T acc.length f with
    | error p => simp only [e] at h'; cases h'
    | ok a =>
      simp only [e] at h'
      obtain ⟨w1, w2, w3, w4, w5⟩ := pRl_ok f0 f1 e
      have hacc : ∀ R ∈ acc ++ [a.1], WfR T R := fun x hx => by
        rcases List.mem_append.mp hx with q | q
        · exact ha x q
        · rw [List.mem_singleton.mp q]; exact w1
      have hlen : (acc ++ [a.1]).length ≤ 6 := by rw [List.length_append]; simp; omega
      split at h'
      · rename_i q
        have hl := nxt_lt (T := T) (f := a.2) (by omega)
        exact ih (acc ++ [a.1]) (a.2 + 1) (by omega) (by omega) hacc hlen h'
      · injection h' with h'
        subst h'
        exact ⟨hacc, hlen⟩
theorem pAll_ok {r : List rul} (h : pAll T = .ok r) : (∀ R ∈ r, WfR T R) ∧ r.length ≤ 6 := by
  unfold pAll at h
  split at h
  · injection h with h
    subst h
    exact ⟨fun R hR => absurd hR List.not_mem_nil, by simp⟩
  · exact pRls_ok 7 [] 0 (by omega) (by omega) (fun R hR => absurd hR List.not_mem_nil) (by simp) h
end PA
