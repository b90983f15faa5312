/-! ===== the reference: all findings ===== -/
theorem sorted_len2 {S : Int → Int} {c : Nat} (F : List (Int × Int)) (h1 : F.Pairwise (flt S)) (h2 : ∀ x ∈ F, 0 ≤ x.1 ∧ x.1 < 6 ∧ 0 ≤ x.2 ∧ 6 * x.2 + x.1 < c) : F.length ≤ c := by
  have hnd : (F.map (fun x => (6 * x.2 + x.1).toNat)).Nodup := by
    rw [List.nodup_iff_pairwise_ne, List.pairwise_map]
    refine List.Pairwise.imp_of_mem ?_ h1
    intro x y hx hy hlt e
    have g1 := h2 x hx
    have g2 := h2 y hy
    have e1 : 6 * x.2 + x.1 = 6 * y.2 + y.1 := by omega
    have e2 : x.2 = y.2 := by omega
    have e3 : x.1 = y.1 := by omega
    have : x = y := Prod.ext e3 e2
    subst this
    exact flt_irr hlt
  have hsub : (F.map (fun x => (6 * x.2 + x.1).toNat)) ⊆ List.range c := by
    intro k hk
    obtain ⟨x, hx, rfl⟩ := List.mem_map.mp hk
    have g := h2 x hx
    exact List.mem_range.mpr (by omega)
  have := hnd.length_le_of_subset hsub
  simpa using this
/-- the finding at a place -/
def fa (F : List (Int × Int)) (i : Int) : Int × Int := F.getD i.toNat (0, 0)
/-- where it begins and ends -/
def fb (b : Int → Int) (F : List (Int × Int)) (i : Int) : Int := b (fa F i).2
def fe_ (S b : Int → Int) (F : List (Int × Int)) (i : Int) : Int := b ((fa F i).2 + S (516 + 40 * (fa F i).1))
def vF (S b : Int → Int) (F : List (Int × Int)) (i : Int) : Int := valOf S (fa F i).1 (fe_ S b F i - fb b F i)
def sF (S b : Int → Int) (F : List (Int × Int)) (i : Int) : Prop := sil S (fb b F i) (fe_ S b F i)
def yF (S b : Int → Int) (F : List (Int × Int)) (i : Int) : Prop := ∃ g : Int, 0 ≤ g ∧ g < (F.length : Int) ∧ ¬ sF S b F g ∧ (fb b F i < fe_ S b F g ∧ fb b F g < fe_ S b F i) ∧ yto S (fa F i).1 (fa F g).1
def freeF (S b : Int → Int) (F : List (Int × Int)) (i : Int) : Prop := ¬ sF S b F i ∧ ¬ yF S b F i
def isNF (S b : Int → Int) (F : List (Int × Int)) (f g : Int) : Prop := f < g ∧ g ≤ (F.length : Int) ∧ (∀ k, f < k → k < g → fb b F k < fe_ S b F f) ∧ (g < (F.length : Int) → fe_ S b F f ≤ fb b F g)
noncomputable def nxF (S b : Int → Int) (F : List (Int × Int)) (f : Int) : Int := Classical.epsilon (fun g => isNF S b F f g)
theorem isNF_ex {S b : Int → Int} {F : List (Int × Int)} {f : Int} (f0 : 0 ≤ f) (f1 : f < F.length) : isNF S b F f (nxF S b F f) := by
  refine Classical.epsilon_spec (p := fun g => isNF S b F f g) ?_
  by_cases hex : ∃ g, 0 ≤ g ∧ g < (F.length : Int) ∧ (f < g ∧ fe_ S b F f ≤ fb b F g)
  · obtain ⟨g, g0, g1, g2, g3⟩ := firstInt hex
    exact ⟨g, g2.1, by omega, fun k k0 k1 => by
      have := g3 k (by omega) k1
      rcases Int.lt_or_le (fb b F k) (fe_ S b F f) with q | q
      · exact q
      · exact absurd ⟨k0, q⟩ this, fun _ => g2.2⟩
  · exact ⟨F.length, f1, Int.le_refl _, fun k k0 k1 => by
      rcases Int.lt_or_le (fb b F k) (fe_ S b F f) with q | q
      · exact q
      · exact absurd ⟨k, by omega, k1, k0, q⟩ hex, fun q => by omega⟩
/-- what of the state findings need -/
def QW (S : Int → Int) : Prop := (0 ≤ S 2 ∧ S 2 ≤ 200) ∧ RW S ∧ (0 ≤ S 3 ∧ S 3 ≤ 8) ∧ (0 ≤ S 6 ∧ S 6 ≤ 20) ∧ 0 ≤ S 7 ∧ S 7 ≤ 8
/-- the findings are laid -/
def LF (m : Nat) (S : Int → Int) (n : Int) (b : Int → Int) (F : List (Int × Int)) (I : jM) : Prop := TO m S n b I ∧ FI m S b I F ∧ Fnd S n b F ∧ F.length ≤ 1200 ∧ (∀ i, 0 ≤ i → i < (F.length : Int) → I (m + 12) i = vF S b F i ∧ I (m + 13) i = jI (sF S b F i) ∧ I (m + 14) i = jI (yF S b F i)) ∧ SetOut m F.length (vF S b F) (freeF S b F) (nxF S b F) (S 6) I
/-- what laying findings may write -/
def WFd (m : Nat) (I I' : jM) : Prop := ∀ a j, ¬ (m + 3 ≤ a ∧ a ≤ m + 17) → (a ≠ m ∨ (j ≠ 4 ∧ j ≠ 7 ∧ j ≠ 17 ∧ j ≠ 20 ∧ j ≠ 21)) → I' a j = I a j
theorem WFd.trans {m : Nat} {I I' I'' : jM} (h : WFd m I I') (h' : WFd m I' I'') : WFd m I I'' := fun a j ha hb => (h' a j ha hb).trans (h a j ha hb)
theorem WC.wfd {m : Nat} {I I' : jM} (h : WC m I I') : WFd m I I' := fun a j ha hb => h a j (by omega) (by omega)
theorem Rw.fa {m : Nat} {S b : Int → Int} {I : jM} {F : List (Int × Int)} (h : FI m S b I F) {i : Int} (i0 : 0 ≤ i) (i1 : i < F.length) : I (m + 7) i = (fa F i).1 ∧ I (m + 8) i = fb b F i ∧ I (m + 9) i = fe_ S b F i ∧ I (m + 10) i = (fa F i).2 ∧ I (m + 11) i = (Out S b (fa F i).1 (fa F i).2).length := by
  have := h.2 i.toNat (by omega)
  have e : ((i.toNat : Nat) : Int) = i := by omega
  rw [e] at this
  exact this
theorem fa_isF {S : Int → Int} {n : Int} {b : Int → Int} {F : List (Int × Int)} (h : Fnd S n b F) {i : Int} (i0 : 0 ≤ i) (i1 : i < F.length) : isF S n b (fa F i).1 (fa F i).2 := (h.2 _).mp (gd_mem (by omega))
theorem fa_bd {S : Int → Int} {n : Int} {b : Int → Int} {F : List (Int × Int)} (hTk : Tk (fun i => S (10 + i)) (S 2) n b) (hR : RW S) (h : Fnd S n b F) {i : Int} (i0 : 0 ≤ i) (i1 : i < F.length) : 0 ≤ fb b F i ∧ fb b F i < fe_ S b F i ∧ fe_ S b F i ≤ S 2 ∧ RW1 S (fa F i).1 ∧ (0 ≤ (fa F i).1 ∧ (fa F i).1 < 6) ∧ (0 ≤ (fa F i).2 ∧ (fa F i).2 < n) ∧ (fa F i).2 + S (516 + 40 * (fa F i).1) ≤ n := by
  obtain ⟨r0, r1, t0, t1, -, hF, -⟩ := fa_isF h i0 i1
  have hw := hR.2.2 _ r0 r1
  have h6 := hR.2.1
  have g := hTk.le (t := (fa F i).2) (u := (fa F i).2 + S (516 + 40 * (fa F i).1)) t0 (by have := hw.2.2.1; omega) hF.1
  have g1 := hTk.bd (t := (fa F i).2) t0 (by omega)
  have g2 := hTk.bd (t := (fa F i).2 + S (516 + 40 * (fa F i).1)) (by have := hw.2.2.1; omega) hF.1
  refine ⟨g1.1, ?_, g2.2, hw, ⟨r0, by omega⟩, ⟨t0, t1⟩, hF.1⟩
  unfold fb fe_
  have := hw.2.2.1
  omega
