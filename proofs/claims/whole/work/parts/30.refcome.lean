/-! ===== lists by their places; the reference puts a finding in its place ===== -/
section LG
variable {α : Type} {F : List α} {d : α}
theorem gd_mem {i : Nat} (h : i < F.length) : F.getD i d ∈ F := by
  rw [List.getD_eq_getElem?_getD, List.getElem?_eq_getElem h]
  exact List.getElem_mem h
theorem gd_of_mem {x : α} (h : x ∈ F) : ∃ i, i < F.length ∧ F.getD i d = x := by
  obtain ⟨i, hi, e⟩ := List.getElem_of_mem h
  refine ⟨i, hi, ?_⟩
  rw [List.getD_eq_getElem?_getD, List.getElem?_eq_getElem hi]
  exact e
theorem gd_pw {R : α → α → Prop} (h : F.Pairwise R) {i j : Nat} (hij : i < j) (hj : j < F.length) : R (F.getD i d) (F.getD j d) := by
  have hi : i < F.length := by omega
  rw [List.getD_eq_getElem?_getD, List.getD_eq_getElem?_getD, List.getElem?_eq_getElem hj, List.getElem?_eq_getElem hi]
  exact List.pairwise_iff_getElem.mp h i j hi hj hij
theorem pw_gd {R : α → α → Prop} (h : ∀ i j : Nat, i < j → j < F.length → R (F.getD i d) (F.getD j d)) : F.Pairwise R := by
  rw [List.pairwise_iff_getElem]
  intro i j hi hj hij
  have := h i j hij hj
  rw [List.getD_eq_getElem?_getD, List.getD_eq_getElem?_getD, List.getElem?_eq_getElem hj, List.getElem?_eq_getElem hi] at this
  exact this
/-- x put at the place k -/
def insAt (F : List α) (k : Nat) (x : α) : List α := F.take k ++ x :: F.drop k
theorem insAt_len {k : Nat} {x : α} (h : k ≤ F.length) : (insAt F k x).length = F.length + 1 := by
  simp [insAt]
  omega
theorem insAt_gd {k i : Nat} {x : α} (h : k ≤ F.length) : (insAt F k x).getD i d = if i < k then F.getD i d else if i = k then x else F.getD (i - 1) d := by
  unfold insAt
  have hl : (F.take k).length = k := by simp; omega
  simp only [List.getD_eq_getElem?_getD]
  by_cases h1 : i < k
  · rw [if_pos h1, List.getElem?_append_left (by omega), List.getElem?_take_of_lt h1]
  · rw [if_neg h1, List.getElem?_append_right (by omega), hl]
    by_cases h2 : i = k
    · rw [if_pos h2, h2]
      simp
    · rw [if_neg h2]
      have e : i - k = (i - k - 1) + 1 := by omega
      rw [e, List.getElem?_cons_succ, List.getElem?_drop]
      congr 2
      omega
theorem insAt_mem {k : Nat} {x y : α} : y ∈ insAt F k x ↔ y ∈ F ∨ y = x := by
  unfold insAt
  rw [List.mem_append, List.mem_cons]
  have : y ∈ F ↔ y ∈ F.take k ∨ y ∈ F.drop k := by
    rw [← List.mem_append, List.take_append_drop]
  rw [this]
  constructor
  · rintro (h | h | h)
    · exact Or.inl (Or.inl h)
    · exact Or.inr h
    · exact Or.inl (Or.inr h)
  · rintro ((h | h) | h)
    · exact Or.inl h
    · exact Or.inr (Or.inr h)
    · exact Or.inr (Or.inl h)
end LG
theorem flt_trans {S : Int → Int} {x y z : Int × Int} (h : flt S x y) (h' : flt S y z) : flt S x z := by unfold flt at *; omega
/-- a finding's row -/
def Rw (m : Nat) (S b : Int → Int) (I : jM) (i : Int) (x : Int × Int) : Prop := I (m + 7) i = x.1 ∧ I (m + 8) i = b x.2 ∧ I (m + 9) i = b (x.2 + S (516 + 40 * x.1)) ∧ I (m + 10) i = x.2 ∧ I (m + 11) i = (Out S b x.1 x.2).length
/-- the findings so far lie in the rows -/
def FI (m : Nat) (S b : Int → Int) (I : jM) (F : List (Int × Int)) : Prop := I m 17 = F.length ∧ ∀ i : Nat, i < F.length → Rw m S b I i (F.getD i (0, 0))
def WC (m : Nat) (I I' : jM) : Prop := ∀ a j, ¬ (m + 5 ≤ a ∧ a ≤ m + 11) → (a ≠ m ∨ (j ≠ 7 ∧ j ≠ 17)) → I' a j = I a j
theorem WC.trans {m : Nat} {I I' I'' : jM} (h : WC m I I') (h' : WC m I' I'') : WC m I I'' := fun a j ha hb => (h' a j ha hb).trans (h a j ha hb)
theorem WC.rfl {m : Nat} {I : jM} : WC m I I := fun _ _ _ _ => Eq.refl _
theorem WL.wc {m : Nat} {I I' : jM} (h : WL m I I') : WC m I I' := fun a j ha hb => h a j (by omega) (by omega) (by omega)
theorem TO.wc {m : Nat} {S : Int → Int} {n : Int} {b : Int → Int} {I I' : jM} (h : TO m S n b I) (hw : WC m I I') : TO m S n b I' := by
  refine ⟨?_, h.2.1, h.2.2.1, ?_, fun u u0 u1 => ?_⟩
  · rw [← h.1]
    funext j
    exact hw _ _ (by omega) (by omega)
  · rw [hw _ _ (by omega) (by omega)]
    exact h.2.2.2.1
  · rw [hw _ _ (by omega) (by omega), hw _ _ (by omega) (by omega)]
    exact h.2.2.2.2 u u0 u1
theorem FI.wl {m : Nat} {S b : Int → Int} {I I' : jM} {F : List (Int × Int)} (h : FI m S b I F) (hw : WL m I I') : FI m S b I' F := by
  refine ⟨by rw [hw _ _ (by omega) (by omega) (by omega)]; exact h.1, fun i hi => ?_⟩
  have g := h.2 i hi
  unfold Rw at g ⊢
  rw [hw _ _ (by omega) (by omega) (by omega), hw _ _ (by omega) (by omega) (by omega), hw _ _ (by omega) (by omega) (by omega), hw _ _ (by omega) (by omega) (by omega), hw _ _ (by omega) (by omega) (by omega)]
  exact g
set_option maxRecDepth 20000 in
theorem st_X10_comeFinding_177 {E : jE} {G : jG} {I : jM} {q : jM → Prop} {m : Nat} {x1 : Int} {x2 : Int} {x3 : Int} {x4 : Int} {x5 : Int} {x6 : Int} (hm : WX10 G m) (hT : (∀ a j, jRg (G.2.1 a).1 (I a j)) → jIn x1 → jIn x2 → jIn x3 → jIn x4 → jIn x5 → jIn x6 → ((0 : Int) ≤ x6 ∧ (x6 : Int) < 1200) ∧ (∀ M2, M2 = jup I (m + 7) x6 x1 → ((0 : Int) ≤ x6 ∧ (x6 : Int) < 1200) ∧ (∀ M4, M4 = jup M2 (m + 8) x6 x4 → ((0 : Int) ≤ x6 ∧ (x6 : Int) < 1200) ∧ (∀ M6, M6 = jup M4 (m + 9) x6 x5 → ((0 : Int) ≤ x6 ∧ (x6 : Int) < 1200) ∧ (∀ M8, M8 = jup M6 (m + 10) x6 x2 → ((0 : Int) ≤ x6 ∧ (x6 : Int) < 1200) ∧ (∀ M10, M10 = jup M8 (m + 11) x6 (I m 7) → jIn ((I m 17) + 1) ∧ (∀ M11, M11 = jup M10 m 17 ((I m 17) + 1) → q M11))))))) : jOV E (jA m) kX10_comeFinding 177 [VR m, VI x1, VI x2, VI x3, VI x4, VI x5, VI x6] G I q := by
  intro I0 hF
  refine jOk_mem (fun hI => ?_)
  refine jOk_in (i := 1) rfl (fun hx1 => ?_)
  refine jOk_in (i := 2) rfl (fun hx2 => ?_)
  refine jOk_in (i := 3) rfl (fun hx3 => ?_)
  refine jOk_in (i := 4) rfl (fun hx4 => ?_)
  refine jOk_in (i := 5) rfl (fun hx5 => ?_)
  refine jOk_in (i := 6) rfl (fun hx6 => ?_)
  replace hT := hT hI hx1 hx2 hx3 hx4 hx5 hx6
  refine r_aload_n dX10_comeFinding_177 rfl (i := 0) rfl ?_
  refine rr_getR (b := (m + 7)) dX10_comeFinding_178 fg_X10_28 rfl rfl (wX10_l hm) (wX10_s hm) (wX10_r8 hm) ?_
  refine r_iload dX10_comeFinding_181 (i := 6) rfl ?_
  refine r_iload_n dX10_comeFinding_183 rfl (i := 1) rfl ?_
  obtain ⟨hc1, hT⟩ := hT
  refine rr_iastore dX10_comeFinding_184 (wX10_l8 hm) (wX10_a8 hm) (by decide) hc1 hx1 (fun M2 eM2 => ?_)
  have hFM2 := jFr_up hF eM2 (wX10_f hm 7 (by decide))
  replace hT := hT M2 eM2
  refine jOk_mem (fun hIM2 => ?_)
  refine r_aload_n dX10_comeFinding_185 rfl (i := 0) rfl ?_
  refine rr_getR (b := (m + 8)) dX10_comeFinding_186 fg_X10_31 rfl rfl (wX10_l hm) (wX10_s hm) (wX10_r9 hm) ?_
  refine r_iload dX10_comeFinding_189 (i := 6) rfl ?_
  refine r_iload dX10_comeFinding_191 (i := 4) rfl ?_
  obtain ⟨hc3, hT⟩ := hT
  refine rr_iastore dX10_comeFinding_193 (wX10_l9 hm) (wX10_a9 hm) (by decide) hc3 hx4 (fun M4 eM4 => ?_)
  have hFM4 := jFr_up hFM2 eM4 (wX10_f hm 8 (by decide))
  replace hT := hT M4 eM4
  refine jOk_mem (fun hIM4 => ?_)
  refine r_aload_n dX10_comeFinding_194 rfl (i := 0) rfl ?_
  refine rr_getR (b := (m + 9)) dX10_comeFinding_195 fg_X10_34 rfl rfl (wX10_l hm) (wX10_s hm) (wX10_r10 hm) ?_
  refine r_iload dX10_comeFinding_198 (i := 6) rfl ?_
  refine r_iload dX10_comeFinding_200 (i := 5) rfl ?_
  obtain ⟨hc5, hT⟩ := hT
  refine rr_iastore dX10_comeFinding_202 (wX10_l10 hm) (wX10_a10 hm) (by decide) hc5 hx5 (fun M6 eM6 => ?_)
  have hFM6 := jFr_up hFM4 eM6 (wX10_f hm 9 (by decide))
  replace hT := hT M6 eM6
  refine jOk_mem (fun hIM6 => ?_)
  refine r_aload_n dX10_comeFinding_203 rfl (i := 0) rfl ?_
  refine rr_getR (b := (m + 10)) dX10_comeFinding_204 fg_X10_37 rfl rfl (wX10_l hm) (wX10_s hm) (wX10_r11 hm) ?_
  refine r_iload dX10_comeFinding_207 (i := 6) rfl ?_
  refine r_iload_n dX10_comeFinding_209 rfl (i := 2) rfl ?_
  obtain ⟨hc7, hT⟩ := hT
  refine rr_iastore dX10_comeFinding_210 (wX10_l11 hm) (wX10_a11 hm) (by decide) hc7 hx2 (fun M8 eM8 => ?_)
  have hFM8 := jFr_up hFM6 eM8 (wX10_f hm 10 (by decide))
  replace hT := hT M8 eM8
  refine jOk_mem (fun hIM8 => ?_)
  refine r_aload_n dX10_comeFinding_211 rfl (i := 0) rfl ?_
  refine rr_getR (b := (m + 11)) dX10_comeFinding_212 fg_X10_40 rfl rfl (wX10_l hm) (wX10_s hm) (wX10_r12 hm) ?_
  refine r_iload dX10_comeFinding_215 (i := 6) rfl ?_
  refine r_aload_n dX10_comeFinding_217 rfl (i := 0) rfl ?_
  refine rr_getI (v := I m 7) dX10_comeFinding_218 fg_X10_148 rfl (wX10_l hm) (wX10_s hm) ((jr_na eM8 (by omega)).trans ((jr_na eM6 (by omega)).trans ((jr_na eM4 (by omega)).trans (jr_na eM2 (by omega))))) ?_
  obtain ⟨hc9, hT⟩ := hT
  refine rr_iastore dX10_comeFinding_221 (wX10_l12 hm) (wX10_a12 hm) (by decide) hc9 (hI _ _).inR (fun M10 eM10 => ?_)
  have hFM10 := jFr_up hFM8 eM10 (wX10_f hm 11 (by decide))
  replace hT := hT M10 eM10
  refine jOk_mem (fun hIM10 => ?_)
  refine r_aload_n dX10_comeFinding_222 rfl (i := 0) rfl ?_
  refine r_dup dX10_comeFinding_223 rfl ?_
  refine rr_getI (v := I m 17) dX10_comeFinding_224 fg_X10_175 rfl (wX10_l hm) (wX10_s hm) ((jr_na eM10 (by omega)).trans ((jr_na eM8 (by omega)).trans ((jr_na eM6 (by omega)).trans ((jr_na eM4 (by omega)).trans (jr_na eM2 (by omega)))))) ?_
  refine r_iconst (n := 1) dX10_comeFinding_227 ?_
  refine r_iadd dX10_comeFinding_228 ?_
  obtain ⟨hc12, hT⟩ := hT
  refine rr_putI (jj := 17) dX10_comeFinding_229 fp_X10_175 rfl rfl (wX10_l hm) (wX10_s hm) hc12 (fun M11 eM11 => ?_)
  have hFM11 := jFr_up hFM10 eM11 (wX10_f hm 0 (by decide))
  replace hT := hT M11 eM11
  refine jOk_mem (fun hIM11 => ?_)
  exact r_vret dX10_comeFinding_232 rfl ⟨Nat.zero_le _, Nat.zero_le _⟩ ⟨rfl, rfl, hFM11, hT⟩
set_option maxRecDepth 20000 in
theorem st_X10_comeFinding_58 {E : jE} {G : jG} {I : jM} {q : jM → Prop} {m : Nat} {x1 : Int} {x2 : Int} {x3 : Int} {x4 : Int} {x5 : Int} {x6 : Int} (hm : WX10 G m) (hT : (∀ a j, jRg (G.2.1 a).1 (I a j)) → jIn x1 → jIn x2 → jIn x3 → jIn x4 → jIn x5 → jIn x6 → ((x6 ≤ 0 → jOV E (jA m) kX10_comeFinding 177 [VR m, VI x1, VI x2, VI x3, VI x4, VI x5, VI x6] G I q) ∧ (¬ x6 ≤ 0 → ((0 : Int) ≤ (x6 - 1) ∧ ((x6 - 1) : Int) < 1200) ∧ ((¬ (I (m + 8) (x6 - 1)) = x4 → jOV E (jA m) kX10_comeFinding 177 [VR m, VI x1, VI x2, VI x3, VI x4, VI x5, VI x6] G I q) ∧ ((I (m + 8) (x6 - 1)) = x4 → ((0 : Int) ≤ (x6 - 1) ∧ ((x6 - 1) : Int) < 1200) ∧ (((I (m + 9) (x6 - 1)) ≤ x5 → jOV E (jA m) kX10_comeFinding 177 [VR m, VI x1, VI x2, VI x3, VI x4, VI x5, VI x6] G I q) ∧ (¬ (I (m + 9) (x6 - 1)) ≤ x5 → ((0 : Int) ≤ (x6 - 1) ∧ ((x6 - 1) : Int) < 1200) ∧ ((0 : Int) ≤ x6 ∧ (x6 : Int) < 1200) ∧ (∀ M5, M5 = jup I (m + 7) x6 (I (m + 7) (x6 - 1)) → ((0 : Int) ≤ (x6 - 1) ∧ ((x6 - 1) : Int) < 1200) ∧ ((0 : Int) ≤ x6 ∧ (x6 : Int) < 1200) ∧ (∀ M8, M8 = jup M5 (m + 8) x6 (I (m + 8) (x6 - 1)) → ((0 : Int) ≤ (x6 - 1) ∧ ((x6 - 1) : Int) < 1200) ∧ ((0 : Int) ≤ x6 ∧ (x6 : Int) < 1200) ∧ (∀ M11, M11 = jup M8 (m + 9) x6 (I (m + 9) (x6 - 1)) → ((0 : Int) ≤ (x6 - 1) ∧ ((x6 - 1) : Int) < 1200) ∧ ((0 : Int) ≤ x6 ∧ (x6 : Int) < 1200) ∧ (∀ M14, M14 = jup M11 (m + 10) x6 (I (m + 10) (x6 - 1)) → ((0 : Int) ≤ (x6 - 1) ∧ ((x6 - 1) : Int) < 1200) ∧ ((0 : Int) ≤ x6 ∧ (x6 : Int) < 1200) ∧ (∀ M17, M17 = jup M14 (m + 11) x6 (I (m + 11) (x6 - 1)) → jIn (x6 + (-1)) ∧ jOV E (jA m) kX10_comeFinding 58 [VR m, VI x1, VI x2, VI x3, VI x4, VI x5, VI (x6 + (-1))] G M17 q)))))))))))) : jOV E (jA m) kX10_comeFinding 58 [VR m, VI x1, VI x2, VI x3, VI x4, VI x5, VI x6] G I q := by
  intro I0 hF
  refine jOk_mem (fun hI => ?_)
  refine jOk_in (i := 1) rfl (fun hx1 => ?_)
  refine jOk_in (i := 2) rfl (fun hx2 => ?_)
  refine jOk_in (i := 3) rfl (fun hx3 => ?_)
  refine jOk_in (i := 4) rfl (fun hx4 => ?_)
  refine jOk_in (i := 5) rfl (fun hx5 => ?_)
  refine jOk_in (i := 6) rfl (fun hx6 => ?_)
  replace hT := hT hI hx1 hx2 hx3 hx4 hx5 hx6
  refine r_iload dX10_comeFinding_58 (i := 6) rfl ?_
  refine r_if_le (tgt := 177) dX10_comeFinding_60 rfl hx6 (fun hcc => ?_) (fun hcc => ?_)
  · replace hT := hT.1 hcc
    exact hT I0 hF
  · replace hT := hT.2 hcc
    refine r_aload_n dX10_comeFinding_63 rfl (i := 0) rfl ?_
    refine rr_getR (b := (m + 8)) dX10_comeFinding_64 fg_X10_31 rfl rfl (wX10_l hm) (wX10_s hm) (wX10_r9 hm) ?_
    refine r_iload dX10_comeFinding_67 (i := 6) rfl ?_
    refine r_iconst (n := 1) dX10_comeFinding_69 ?_
    refine r_isub dX10_comeFinding_70 ?_
    obtain ⟨hc1, hT⟩ := hT
    refine rr_iaload (v := I (m + 8) (x6 - 1)) dX10_comeFinding_71 (wX10_l9 hm) (wX10_a9 hm) (by decide) hc1 rfl ?_
    refine r_iload dX10_comeFinding_72 (i := 4) rfl ?_
    refine r_icmp_ne (tgt := 177) dX10_comeFinding_74 rfl (hI _ _).inR hx4 (fun hcc => ?_) (fun hcc => ?_)
    · replace hT := hT.1 hcc
      exact hT I0 hF
    · replace hT := hT.2 hcc
      refine r_aload_n dX10_comeFinding_77 rfl (i := 0) rfl ?_
      refine rr_getR (b := (m + 9)) dX10_comeFinding_78 fg_X10_34 rfl rfl (wX10_l hm) (wX10_s hm) (wX10_r10 hm) ?_
      refine r_iload dX10_comeFinding_81 (i := 6) rfl ?_
      refine r_iconst (n := 1) dX10_comeFinding_83 ?_
      refine r_isub dX10_comeFinding_84 ?_
      obtain ⟨hc2, hT⟩ := hT
      refine rr_iaload (v := I (m + 9) (x6 - 1)) dX10_comeFinding_85 (wX10_l10 hm) (wX10_a10 hm) (by decide) hc2 rfl ?_
      refine r_iload dX10_comeFinding_86 (i := 5) rfl ?_
      refine r_icmp_le (tgt := 177) dX10_comeFinding_88 rfl (hI _ _).inR hx5 (fun hcc => ?_) (fun hcc => ?_)
      · replace hT := hT.1 hcc
        exact hT I0 hF
      · replace hT := hT.2 hcc
        refine r_aload_n dX10_comeFinding_91 rfl (i := 0) rfl ?_
        refine rr_getR (b := (m + 7)) dX10_comeFinding_92 fg_X10_28 rfl rfl (wX10_l hm) (wX10_s hm) (wX10_r8 hm) ?_
        refine r_iload dX10_comeFinding_95 (i := 6) rfl ?_
        refine r_aload_n dX10_comeFinding_97 rfl (i := 0) rfl ?_
        refine rr_getR (b := (m + 7)) dX10_comeFinding_98 fg_X10_28 rfl rfl (wX10_l hm) (wX10_s hm) (wX10_r8 hm) ?_
        refine r_iload dX10_comeFinding_101 (i := 6) rfl ?_
        refine r_iconst (n := 1) dX10_comeFinding_103 ?_
        refine r_isub dX10_comeFinding_104 ?_
        obtain ⟨hc3, hT⟩ := hT
        refine rr_iaload (v := I (m + 7) (x6 - 1)) dX10_comeFinding_105 (wX10_l8 hm) (wX10_a8 hm) (by decide) hc3 rfl ?_
        obtain ⟨hc4, hT⟩ := hT
        refine rr_iastore dX10_comeFinding_106 (wX10_l8 hm) (wX10_a8 hm) (by decide) hc4 (hI _ _).inR (fun M5 eM5 => ?_)
        have hFM5 := jFr_up hF eM5 (wX10_f hm 7 (by decide))
        replace hT := hT M5 eM5
        refine jOk_mem (fun hIM5 => ?_)
        refine r_aload_n dX10_comeFinding_107 rfl (i := 0) rfl ?_
        refine rr_getR (b := (m + 8)) dX10_comeFinding_108 fg_X10_31 rfl rfl (wX10_l hm) (wX10_s hm) (wX10_r9 hm) ?_
        refine r_iload dX10_comeFinding_111 (i := 6) rfl ?_
        refine r_aload_n dX10_comeFinding_113 rfl (i := 0) rfl ?_
        refine rr_getR (b := (m + 8)) dX10_comeFinding_114 fg_X10_31 rfl rfl (wX10_l hm) (wX10_s hm) (wX10_r9 hm) ?_
        refine r_iload dX10_comeFinding_117 (i := 6) rfl ?_
        refine r_iconst (n := 1) dX10_comeFinding_119 ?_
        refine r_isub dX10_comeFinding_120 ?_
        obtain ⟨hc6, hT⟩ := hT
        refine rr_iaload (v := I (m + 8) (x6 - 1)) dX10_comeFinding_121 (wX10_l9 hm) (wX10_a9 hm) (by decide) hc6 (jr_na eM5 (by omega)) ?_
        obtain ⟨hc7, hT⟩ := hT
        refine rr_iastore dX10_comeFinding_122 (wX10_l9 hm) (wX10_a9 hm) (by decide) hc7 (hI _ _).inR (fun M8 eM8 => ?_)
        have hFM8 := jFr_up hFM5 eM8 (wX10_f hm 8 (by decide))
        replace hT := hT M8 eM8
        refine jOk_mem (fun hIM8 => ?_)
        refine r_aload_n dX10_comeFinding_123 rfl (i := 0) rfl ?_
        refine rr_getR (b := (m + 9)) dX10_comeFinding_124 fg_X10_34 rfl rfl (wX10_l hm) (wX10_s hm) (wX10_r10 hm) ?_
        refine r_iload dX10_comeFinding_127 (i := 6) rfl ?_
        refine r_aload_n dX10_comeFinding_129 rfl (i := 0) rfl ?_
        refine rr_getR (b := (m + 9)) dX10_comeFinding_130 fg_X10_34 rfl rfl (wX10_l hm) (wX10_s hm) (wX10_r10 hm) ?_
        refine r_iload dX10_comeFinding_133 (i := 6) rfl ?_
        refine r_iconst (n := 1) dX10_comeFinding_135 ?_
        refine r_isub dX10_comeFinding_136 ?_
        obtain ⟨hc9, hT⟩ := hT
        refine rr_iaload (v := I (m + 9) (x6 - 1)) dX10_comeFinding_137 (wX10_l10 hm) (wX10_a10 hm) (by decide) hc9 ((jr_na eM8 (by omega)).trans (jr_na eM5 (by omega))) ?_
        obtain ⟨hc10, hT⟩ := hT
        refine rr_iastore dX10_comeFinding_138 (wX10_l10 hm) (wX10_a10 hm) (by decide) hc10 (hI _ _).inR (fun M11 eM11 => ?_)
        have hFM11 := jFr_up hFM8 eM11 (wX10_f hm 9 (by decide))
        replace hT := hT M11 eM11
        refine jOk_mem (fun hIM11 => ?_)
        refine r_aload_n dX10_comeFinding_139 rfl (i := 0) rfl ?_
        refine rr_getR (b := (m + 10)) dX10_comeFinding_140 fg_X10_37 rfl rfl (wX10_l hm) (wX10_s hm) (wX10_r11 hm) ?_
        refine r_iload dX10_comeFinding_143 (i := 6) rfl ?_
        refine r_aload_n dX10_comeFinding_145 rfl (i := 0) rfl ?_
        refine rr_getR (b := (m + 10)) dX10_comeFinding_146 fg_X10_37 rfl rfl (wX10_l hm) (wX10_s hm) (wX10_r11 hm) ?_
        refine r_iload dX10_comeFinding_149 (i := 6) rfl ?_
        refine r_iconst (n := 1) dX10_comeFinding_151 ?_
        refine r_isub dX10_comeFinding_152 ?_
        obtain ⟨hc12, hT⟩ := hT
        refine rr_iaload (v := I (m + 10) (x6 - 1)) dX10_comeFinding_153 (wX10_l11 hm) (wX10_a11 hm) (by decide) hc12 ((jr_na eM11 (by omega)).trans ((jr_na eM8 (by omega)).trans (jr_na eM5 (by omega)))) ?_
        obtain ⟨hc13, hT⟩ := hT
        refine rr_iastore dX10_comeFinding_154 (wX10_l11 hm) (wX10_a11 hm) (by decide) hc13 (hI _ _).inR (fun M14 eM14 => ?_)
        have hFM14 := jFr_up hFM11 eM14 (wX10_f hm 10 (by decide))
        replace hT := hT M14 eM14
        refine jOk_mem (fun hIM14 => ?_)
        refine r_aload_n dX10_comeFinding_155 rfl (i := 0) rfl ?_
        refine rr_getR (b := (m + 11)) dX10_comeFinding_156 fg_X10_40 rfl rfl (wX10_l hm) (wX10_s hm) (wX10_r12 hm) ?_
        refine r_iload dX10_comeFinding_159 (i := 6) rfl ?_
        refine r_aload_n dX10_comeFinding_161 rfl (i := 0) rfl ?_
        refine rr_getR (b := (m + 11)) dX10_comeFinding_162 fg_X10_40 rfl rfl (wX10_l hm) (wX10_s hm) (wX10_r12 hm) ?_
        refine r_iload dX10_comeFinding_165 (i := 6) rfl ?_
        refine r_iconst (n := 1) dX10_comeFinding_167 ?_
        refine r_isub dX10_comeFinding_168 ?_
        obtain ⟨hc15, hT⟩ := hT
        refine rr_iaload (v := I (m + 11) (x6 - 1)) dX10_comeFinding_169 (wX10_l12 hm) (wX10_a12 hm) (by decide) hc15 ((jr_na eM14 (by omega)).trans ((jr_na eM11 (by omega)).trans ((jr_na eM8 (by omega)).trans (jr_na eM5 (by omega))))) ?_
        obtain ⟨hc16, hT⟩ := hT
        refine rr_iastore dX10_comeFinding_170 (wX10_l12 hm) (wX10_a12 hm) (by decide) hc16 (hI _ _).inR (fun M17 eM17 => ?_)
        have hFM17 := jFr_up hFM14 eM17 (wX10_f hm 11 (by decide))
        replace hT := hT M17 eM17
        refine jOk_mem (fun hIM17 => ?_)
        obtain ⟨hc18, hT⟩ := hT
        refine rr_iinc (i := 6) (ls' := [VR m, VI x1, VI x2, VI x3, VI x4, VI x5, VI (x6 + (-1))]) dX10_comeFinding_171 rfl (Nat.le_of_ble_eq_true rfl) rfl rfl hc18 ?_
        refine r_goto (tgt := 58) dX10_comeFinding_174 rfl ?_
        exact hT I0 hFM17
set_option maxRecDepth 20000 in
theorem st_X10_comeFinding_0 {E : jE} {G : jG} {I : jM} {q : jM → Prop} {m : Nat} {x1 : Int} {x2 : Int} (hm : WX10 G m) (hT : (∀ a j, jRg (G.2.1 a).1 (I a j)) → jIn x1 → jIn x2 → (0 ≤ 514 + 40 * x1 + 2 ∧ 514 + 40 * x1 + 2 < 22094) ∧ jIn ((x2 + (I (m + 1) (514 + 40 * x1 + 2))) - 1) ∧ ((0 : Int) ≤ x2 ∧ (x2 : Int) < 200) ∧ ((0 : Int) ≤ ((x2 + (I (m + 1) (514 + 40 * x1 + 2))) - 1) ∧ (((x2 + (I (m + 1) (514 + 40 * x1 + 2))) - 1) : Int) < 200) ∧ ((0 : Int) ≤ ((x2 + (I (m + 1) (514 + 40 * x1 + 2))) - 1) ∧ (((x2 + (I (m + 1) (514 + 40 * x1 + 2))) - 1) : Int) < 200) ∧ jIn ((I (m + 3) ((x2 + (I (m + 1) (514 + 40 * x1 + 2))) - 1)) + (I (m + 4) ((x2 + (I (m + 1) (514 + 40 * x1 + 2))) - 1))) ∧ jRV E (jA m) kX10_layOut [VR m, VI x1, VI x2] G I (fun I8 => jRI E (jA m) kX10_isElse [VR m, VI (I (m + 3) x2), VI ((I (m + 3) ((x2 + (I (m + 1) (514 + 40 * x1 + 2))) - 1)) + (I (m + 4) ((x2 + (I (m + 1) (514 + 40 * x1 + 2))) - 1)))] G I8 (fun r10 I9 => ((¬ r10 = 0 → jOV E (jA m) kX10_comeFinding 58 [VR m, VI x1, VI x2, VI ((x2 + (I (m + 1) (514 + 40 * x1 + 2))) - 1), VI (I (m + 3) x2), VI ((I (m + 3) ((x2 + (I (m + 1) (514 + 40 * x1 + 2))) - 1)) + (I (m + 4) ((x2 + (I (m + 1) (514 + 40 * x1 + 2))) - 1))), VI (I9 m 17)] G I9 q) ∧ (r10 = 0 → q I9))))) : jOV E (jA m) kX10_comeFinding 0 [VR m, VI x1, VI x2, VN, VN, VN, VN] G I q := by
  intro I0 hF
  refine jOk_mem (fun hI => ?_)
  refine jOk_in (i := 1) rfl (fun hx1 => ?_)
  refine jOk_in (i := 2) rfl (fun hx2 => ?_)
  replace hT := hT hI hx1 hx2
  refine r_iload_n dX10_comeFinding_0 rfl (i := 2) rfl ?_
  refine r_aload_n dX10_comeFinding_1 rfl (i := 0) rfl ?_
  refine r_iload_n dX10_comeFinding_2 rfl (i := 1) rfl ?_
  refine r_iconst (n := 2) dX10_comeFinding_3 ?_
  obtain ⟨hc2, hT⟩ := hT
  refine rr_pVI (A := (jA m)) (v := I (m + 1) (514 + 40 * x1 + 2)) (a := m) (as := [VI x1, VI 2]) (st := [VI x2]) dX10_comeFinding_4 mt_X10_get ml_X10_127 mi_X10_get rm_X10_comeFinding_X10_get jz_X10_get ⟨Nat.zero_le _, Nat.zero_le _⟩ (Nat.le_of_ble_eq_true rfl) (wX10_l hm) (wX10_c hm) (jasI hx1 (jasI ⟨by decide, by decide⟩ jas0)) ((sp_X10_get hm) hc2) (fun hc1 => ?_)
  refine r_iadd dX10_comeFinding_7 ?_
  refine r_iconst (n := 1) dX10_comeFinding_8 ?_
  refine r_isub dX10_comeFinding_9 ?_
  obtain ⟨hc3, hT⟩ := hT
  refine rr_istore_n (i := 3) (ls' := [VR m, VI x1, VI x2, VI ((x2 + (I (m + 1) (514 + 40 * x1 + 2))) - 1), VN, VN, VN]) dX10_comeFinding_10 rfl (Nat.le_of_ble_eq_true rfl) rfl rfl hc3 ?_
  refine r_aload_n dX10_comeFinding_11 rfl (i := 0) rfl ?_
  refine rr_getR (b := (m + 3)) dX10_comeFinding_12 fg_X10_16 rfl rfl (wX10_l hm) (wX10_s hm) (wX10_r2 hm) ?_
  refine r_iload_n dX10_comeFinding_15 rfl (i := 2) rfl ?_
  obtain ⟨hc4, hT⟩ := hT
  refine rr_iaload (v := I (m + 3) x2) dX10_comeFinding_16 (wX10_l2 hm) (wX10_a2 hm) (by decide) hc4 rfl ?_
  refine rr_istore (i := 4) (ls' := [VR m, VI x1, VI x2, VI ((x2 + (I (m + 1) (514 + 40 * x1 + 2))) - 1), VI (I (m + 3) x2), VN, VN]) dX10_comeFinding_17 (Nat.le_of_ble_eq_true rfl) rfl rfl (hI _ _).inR ?_
  refine r_aload_n dX10_comeFinding_19 rfl (i := 0) rfl ?_
  refine rr_getR (b := (m + 3)) dX10_comeFinding_20 fg_X10_16 rfl rfl (wX10_l hm) (wX10_s hm) (wX10_r2 hm) ?_
  refine r_iload_n dX10_comeFinding_23 rfl (i := 3) rfl ?_
  obtain ⟨hc5, hT⟩ := hT
  refine rr_iaload (v := I (m + 3) ((x2 + (I (m + 1) (514 + 40 * x1 + 2))) - 1)) dX10_comeFinding_24 (wX10_l2 hm) (wX10_a2 hm) (by decide) hc5 rfl ?_
  refine r_aload_n dX10_comeFinding_25 rfl (i := 0) rfl ?_
  refine rr_getR (b := (m + 4)) dX10_comeFinding_26 fg_X10_19 rfl rfl (wX10_l hm) (wX10_s hm) (wX10_r3 hm) ?_
  refine r_iload_n dX10_comeFinding_29 rfl (i := 3) rfl ?_
  obtain ⟨hc6, hT⟩ := hT
  refine rr_iaload (v := I (m + 4) ((x2 + (I (m + 1) (514 + 40 * x1 + 2))) - 1)) dX10_comeFinding_30 (wX10_l3 hm) (wX10_a3 hm) (by decide) hc6 rfl ?_
  refine r_iadd dX10_comeFinding_31 ?_
  obtain ⟨hc7, hT⟩ := hT
  refine rr_istore (i := 5) (ls' := [VR m, VI x1, VI x2, VI ((x2 + (I (m + 1) (514 + 40 * x1 + 2))) - 1), VI (I (m + 3) x2), VI ((I (m + 3) ((x2 + (I (m + 1) (514 + 40 * x1 + 2))) - 1)) + (I (m + 4) ((x2 + (I (m + 1) (514 + 40 * x1 + 2))) - 1))), VN]) dX10_comeFinding_32 (Nat.le_of_ble_eq_true rfl) rfl rfl hc7 ?_
  refine r_aload_n dX10_comeFinding_34 rfl (i := 0) rfl ?_
  refine r_iload_n dX10_comeFinding_35 rfl (i := 1) rfl ?_
  refine r_iload_n dX10_comeFinding_36 rfl (i := 2) rfl ?_
  refine rr_cVV (a := m) (as := [VI x1, VI x2]) (st := []) dX10_comeFinding_37 mt_X10_layOut ml_X10_169 mi_X10_layOut rm_X10_comeFinding_X10_layOut jz_X10_layOut ⟨Nat.zero_le _, Nat.zero_le _⟩ (Nat.le_of_ble_eq_true rfl) (wX10_l hm) (wX10_c hm) (jasI hx1 (jasI hx2 jas0)) hT (fun I8 hFI8 hT => ?_)
  replace hFI8 := jFr_tr hF hFI8
  refine jOk_mem (fun hI8 => ?_)
  refine r_aload_n dX10_comeFinding_40 rfl (i := 0) rfl ?_
  refine r_iload dX10_comeFinding_41 (i := 4) rfl ?_
  refine r_iload dX10_comeFinding_43 (i := 5) rfl ?_
  refine rr_cVI (a := m) (as := [VI (I (m + 3) x2), VI ((I (m + 3) ((x2 + (I (m + 1) (514 + 40 * x1 + 2))) - 1)) + (I (m + 4) ((x2 + (I (m + 1) (514 + 40 * x1 + 2))) - 1)))]) (st := []) dX10_comeFinding_45 mt_X10_isElse ml_X10_172 mi_X10_isElse rm_X10_comeFinding_X10_isElse jz_X10_isElse ⟨Nat.zero_le _, Nat.zero_le _⟩ (Nat.le_of_ble_eq_true rfl) (wX10_l hm) (wX10_c hm) (jasI (hI _ _).inR (jasI hc7 jas0)) hT (fun r10 I9 hc11 hFI9 hT => ?_)
  replace hFI9 := jFr_tr hFI8 hFI9
  refine jOk_mem (fun hI9 => ?_)
  refine r_if_ne (tgt := 52) dX10_comeFinding_48 rfl hc11 (fun hcc => ?_) (fun hcc => ?_)
  · replace hT := hT.1 hcc
    refine r_aload_n dX10_comeFinding_52 rfl (i := 0) rfl ?_
    refine rr_getI (v := I9 m 17) dX10_comeFinding_53 fg_X10_175 rfl (wX10_l hm) (wX10_s hm) rfl ?_
    refine rr_istore (i := 6) (ls' := [VR m, VI x1, VI x2, VI ((x2 + (I (m + 1) (514 + 40 * x1 + 2))) - 1), VI (I (m + 3) x2), VI ((I (m + 3) ((x2 + (I (m + 1) (514 + 40 * x1 + 2))) - 1)) + (I (m + 4) ((x2 + (I (m + 1) (514 + 40 * x1 + 2))) - 1))), VI (I9 m 17)]) dX10_comeFinding_56 (Nat.le_of_ble_eq_true rfl) rfl rfl (hI9 _ _).inR ?_
    exact hT I0 hFI9
  · replace hT := hT.2 hcc
    exact r_vret dX10_comeFinding_51 rfl ⟨Nat.zero_le _, Nat.zero_le _⟩ ⟨rfl, rfl, hFI9, hT⟩
theorem en_X10_comeFinding {E : jE} {G : jG} {I : jM} {q : jM → Prop} {m : Nat} {x1 : Int} {x2 : Int} (hm : WX10 G m) (hT : (∀ a j, jRg (G.2.1 a).1 (I a j)) → jIn x1 → jIn x2 → (0 ≤ 514 + 40 * x1 + 2 ∧ 514 + 40 * x1 + 2 < 22094) ∧ jIn ((x2 + (I (m + 1) (514 + 40 * x1 + 2))) - 1) ∧ ((0 : Int) ≤ x2 ∧ (x2 : Int) < 200) ∧ ((0 : Int) ≤ ((x2 + (I (m + 1) (514 + 40 * x1 + 2))) - 1) ∧ (((x2 + (I (m + 1) (514 + 40 * x1 + 2))) - 1) : Int) < 200) ∧ ((0 : Int) ≤ ((x2 + (I (m + 1) (514 + 40 * x1 + 2))) - 1) ∧ (((x2 + (I (m + 1) (514 + 40 * x1 + 2))) - 1) : Int) < 200) ∧ jIn ((I (m + 3) ((x2 + (I (m + 1) (514 + 40 * x1 + 2))) - 1)) + (I (m + 4) ((x2 + (I (m + 1) (514 + 40 * x1 + 2))) - 1))) ∧ jRV E (jA m) kX10_layOut [VR m, VI x1, VI x2] G I (fun I8 => jRI E (jA m) kX10_isElse [VR m, VI (I (m + 3) x2), VI ((I (m + 3) ((x2 + (I (m + 1) (514 + 40 * x1 + 2))) - 1)) + (I (m + 4) ((x2 + (I (m + 1) (514 + 40 * x1 + 2))) - 1)))] G I8 (fun r10 I9 => ((¬ r10 = 0 → jOV E (jA m) kX10_comeFinding 58 [VR m, VI x1, VI x2, VI ((x2 + (I (m + 1) (514 + 40 * x1 + 2))) - 1), VI (I (m + 3) x2), VI ((I (m + 3) ((x2 + (I (m + 1) (514 + 40 * x1 + 2))) - 1)) + (I (m + 4) ((x2 + (I (m + 1) (514 + 40 * x1 + 2))) - 1))), VI (I9 m 17)] G I9 q) ∧ (r10 = 0 → q I9))))) : jRV E (jA m) kX10_comeFinding [VR m, VI x1, VI x2] G I q := jRun.of mt_X10_comeFinding.2.2.2 4 rfl (fun _ => st_X10_comeFinding_0 hm hT I (fun _ _ => rfl))
section RC
variable {E : jE} {G : jG} {m : Nat} {S : Int → Int} {n : Int} {b : Int → Int} {I : jM}
theorem comeFinding_loop (hm : WX10 G m) {r t x3 : Int} {F : List (Int × Int)} {I0 : jM} (hTk : Tk (fun i => S (10 + i)) (S 2) n b) (ht : 0 ≤ t ∧ t + S (516 + 40 * r) ≤ n) (hne : 0 ≤ S (516 + 40 * r)) (hs : F.Pairwise (flt S)) (hl : F.length < 1200) (hF : ∀ y ∈ F, (y.2 < t ∨ (y.2 = t ∧ y.1 < r)) ∧ 0 ≤ y.2 ∧ 0 ≤ S (516 + 40 * y.1) ∧ y.2 + S (516 + 40 * y.1) ≤ n) {q : jM → Prop} (hq : ∀ I' (k : Nat), k ≤ F.length → FI m S b I' (insAt F k (r, t)) → (insAt F k (r, t)).Pairwise (flt S) → WC m I0 I' → q I') : ∀ (k : Nat) (I1 : jM), k ≤ F.length → I1 m 17 = F.length → I1 m 7 = (Out S b r t).length → (∀ i : Nat, i < k → Rw m S b I1 i (F.getD i (0, 0))) → (∀ i : Nat, k ≤ i → i < F.length → Rw m S b I1 ((i : Int) + 1) (F.getD i (0, 0)) ∧ flt S (r, t) (F.getD i (0, 0))) → WC m I0 I1 → jOV E (jA m) kX10_comeFinding 58 [VR m, VI r, VI t, VI x3, VI (b t), VI (b (t + S (516 + 40 * r))), VI k] G I1 q := by
  have place : ∀ (k : Nat) (I1 : jM), k ≤ F.length → I1 m 17 = F.length → I1 m 7 = (Out S b r t).length → (∀ i : Nat, i < k → Rw m S b I1 i (F.getD i (0, 0)) ∧ flt S (F.getD i (0, 0)) (r, t)) → (∀ i : Nat, k ≤ i → i < F.length → Rw m S b I1 ((i : Int) + 1) (F.getD i (0, 0)) ∧ flt S (r, t) (F.getD i (0, 0))) → WC m I0 I1 → jOV E (jA m) kX10_comeFinding 177 [VR m, VI r, VI t, VI x3, VI (b t), VI (b (t + S (516 + 40 * r))), VI k] G I1 q := by
    intro k I1 hk h17 h7 hlo hhi hW
    refine st_X10_comeFinding_177 hm (fun _ _ _ _ _ _ _ => ⟨⟨by omega, by omega⟩, fun M2 e2 => ⟨⟨by omega, by omega⟩, fun M4 e4 => ⟨⟨by omega, by omega⟩, fun M6 e6 => ⟨⟨by omega, by omega⟩, fun M8 e8 => ⟨⟨by omega, by omega⟩, fun M10 e10 => ⟨⟨by omega, by omega⟩, fun M11 e11 => ?_⟩⟩⟩⟩⟩⟩)
    have r7 : ∀ j, M11 (m + 7) j = M2 (m + 7) j := fun j => by rw [jr_na e11 (by omega), jr_na e10 (by omega), jr_na e8 (by omega), jr_na e6 (by omega), jr_na e4 (by omega)]
    have r8 : ∀ j, M11 (m + 8) j = M4 (m + 8) j := fun j => by rw [jr_na e11 (by omega), jr_na e10 (by omega), jr_na e8 (by omega), jr_na e6 (by omega)]
    have r9 : ∀ j, M11 (m + 9) j = M6 (m + 9) j := fun j => by rw [jr_na e11 (by omega), jr_na e10 (by omega), jr_na e8 (by omega)]
    have r10 : ∀ j, M11 (m + 10) j = M8 (m + 10) j := fun j => by rw [jr_na e11 (by omega), jr_na e10 (by omega)]
    have r11 : ∀ j, M11 (m + 11) j = M10 (m + 11) j := fun j => by rw [jr_na e11 (by omega)]
    have old : ∀ (j : Int) (y : Int × Int), j ≠ k → Rw m S b I1 j y → Rw m S b M11 j y := by
      intro j y hj g
      unfold Rw at g ⊢
      rw [r7, r8, r9, r10, r11, jr_nj e2 hj, jr_nj e4 hj, jr_nj e6 hj, jr_nj e8 hj, jr_nj e10 hj]
      rw [jr_na e2 (by omega), jr_na e4 (by omega), jr_na e2 (by omega), jr_na e6 (by omega), jr_na e4 (by omega), jr_na e2 (by omega), jr_na e8 (by omega), jr_na e6 (by omega), jr_na e4 (by omega), jr_na e2 (by omega)]
      exact g
    have new : Rw m S b M11 k (r, t) := by
      unfold Rw
      rw [r7, r8, r9, r10, r11, jr_eq e2, jr_eq e4, jr_eq e6, jr_eq e8, jr_eq e10]
      exact ⟨rfl, rfl, rfl, rfl, h7⟩
    refine hq M11 k hk ⟨?_, fun i hi => ?_⟩ ?_ (hW.trans (fun a j ha hb => ?_))
    · rw [jr_eq e11, h17, insAt_len hk]
      omega
    · rw [insAt_len hk] at hi
      rw [insAt_gd hk]
      by_cases g1 : i < k
      · rw [if_pos g1]
        exact old i _ (by omega) (hlo i g1).1
      · rw [if_neg g1]
        by_cases g2 : i = k
        · rw [if_pos g2, g2]
          exact new
        · rw [if_neg g2]
          have g3 := (hhi (i - 1) (by omega) (by omega)).1
          have e : (((i - 1 : Nat) : Int)) + 1 = i := by omega
          rw [e] at g3
          exact old i _ (by omega) g3
    · refine pw_gd (d := (0, 0)) (fun i j hij hj => ?_)
      rw [insAt_len hk] at hj
      rw [insAt_gd hk, insAt_gd hk]
      by_cases g1 : i < k
      · rw [if_pos g1]
        by_cases g2 : j < k
        · rw [if_pos g2]
          exact gd_pw hs hij (by omega)
        · rw [if_neg g2]
          by_cases g3 : j = k
          · rw [if_pos g3]
            exact (hlo i g1).2
          · rw [if_neg g3]
            exact gd_pw hs (by omega) (by omega)
      · have g5 : ¬ j < k := by omega
        have g6 : ¬ j = k := by omega
        rw [if_neg g1, if_neg g5, if_neg g6]
        by_cases g2 : i = k
        · rw [if_pos g2]
          exact (hhi (j - 1) (by omega) (by omega)).2
        · rw [if_neg g2]
          exact gd_pw hs (by omega) (by omega)
    · have e : M11 a j = M10 a j := by
        rcases hb with hb | hb
        · exact jr_na e11 hb
        · exact jr_nj e11 hb.2
      rw [e, jr_na e10 (by omega), jr_na e8 (by omega), jr_na e6 (by omega), jr_na e4 (by omega), jr_na e2 (by omega)]
  intro k
  induction k with
  | zero =>
    intro I1 hk h17 h7 hlo hhi hW
    refine st_X10_comeFinding_58 hm (fun _ _ _ _ _ _ _ => ⟨fun _ => place 0 I1 hk h17 h7 (fun i hi => absurd hi (Nat.not_lt_zero i)) hhi hW, fun q => absurd (by omega) q⟩)
  | succ k ih =>
    intro I1 hk h17 h7 hlo hhi hW
    have e1 : ((k + 1 : Nat) : Int) - 1 = k := by omega
    have e2 : ((k + 1 : Nat) : Int) + (-1) = k := by omega
    have gk := hlo k (by omega)
    have my := hF _ (gd_mem (d := ((0 : Int), (0 : Int))) (i := k) (F := F) (by omega))
    generalize hy : F.getD k (0, 0) = y at gk my
    have stop : flt S y (r, t) → jOV E (jA m) kX10_comeFinding 177 [VR m, VI r, VI t, VI x3, VI (b t), VI (b (t + S (516 + 40 * r))), VI ((k + 1 : Nat) : Int)] G I1 q := by
      intro hlt
      refine place (k + 1) I1 hk h17 h7 (fun i hi => ⟨hlo i hi, ?_⟩) hhi hW
      by_cases ei : i = k
      · rw [ei, hy]; exact hlt
      · have := gd_pw (d := ((0 : Int), (0 : Int))) hs (i := i) (j := k) (by omega) (by omega)
        rw [hy] at this
        exact flt_trans this hlt
    refine st_X10_comeFinding_58 hm (fun _ _ _ _ _ _ _ => ⟨fun q => absurd q (by omega), fun _ => ?_⟩)
    rw [e1, e2, gk.2.1, gk.2.2.1]
    refine ⟨⟨by omega, by omega⟩, fun hne1 => ?_, fun heq => ⟨⟨by omega, by omega⟩, fun hle => ?_, fun hgt => ?_⟩⟩
    · refine stop (Or.inl ?_)
      rcases my.1 with g | g
      · exact g
      · exact absurd (by rw [g.1]) hne1
    · refine stop ?_
      rcases my.1 with g | g
      · exact Or.inl g
      · refine Or.inr ⟨g.1, ?_⟩
        have : ¬ S (516 + 40 * r) < S (516 + 40 * y.1) := by
          intro hc
          have := hTk.le (t := t + S (516 + 40 * r)) (u := t + S (516 + 40 * y.1)) (by omega) (by omega) (by have := my.2.2.2; omega)
          rw [g.1] at hle
          omega
        show S (516 + 40 * y.1) < S (516 + 40 * r) ∨ (S (516 + 40 * y.1) = S (516 + 40 * r) ∧ y.1 < r)
        omega
    · have hyt : y.2 = t := by
        rcases my.1 with g | g
        · exfalso
          have := hTk.le (t := y.2) (u := t) my.2.1 (by omega) (by omega)
          omega
        · exact g.1
      have hgt2 : S (516 + 40 * r) < S (516 + 40 * y.1) := by
        rcases Int.lt_or_le (S (516 + 40 * r)) (S (516 + 40 * y.1)) with g | g
        · exact g
        · exfalso
          have := hTk.le (t := y.2 + S (516 + 40 * y.1)) (u := t + S (516 + 40 * r)) (by have := my.2.2.1; omega) (by omega) (by omega)
          omega
      refine ⟨⟨by omega, by omega⟩, ⟨by omega, by omega⟩, fun M5 e5 => ⟨⟨by omega, by omega⟩, ⟨by omega, by omega⟩, fun M8 e8 => ⟨⟨by omega, by omega⟩, ⟨by omega, by omega⟩, fun M11 e11 => ⟨⟨by omega, by omega⟩, ⟨by omega, by omega⟩, fun M14 e14 => ⟨⟨by omega, by omega⟩, ⟨by omega, by omega⟩, fun M17 e17 => ⟨⟨by omega, by omega⟩, ?_⟩⟩⟩⟩⟩⟩
      have r7 : ∀ j, M17 (m + 7) j = M5 (m + 7) j := fun j => by rw [jr_na e17 (by omega), jr_na e14 (by omega), jr_na e11 (by omega), jr_na e8 (by omega)]
      have r8 : ∀ j, M17 (m + 8) j = M8 (m + 8) j := fun j => by rw [jr_na e17 (by omega), jr_na e14 (by omega), jr_na e11 (by omega)]
      have r9 : ∀ j, M17 (m + 9) j = M11 (m + 9) j := fun j => by rw [jr_na e17 (by omega), jr_na e14 (by omega)]
      have r10 : ∀ j, M17 (m + 10) j = M14 (m + 10) j := fun j => by rw [jr_na e17 (by omega)]
      have old : ∀ (j : Int) (z : Int × Int), j ≠ ((k + 1 : Nat) : Int) → Rw m S b I1 j z → Rw m S b M17 j z := by
        intro j z hj g
        unfold Rw at g ⊢
        rw [r7, r8, r9, r10, jr_nj e5 hj, jr_nj e8 hj, jr_nj e11 hj, jr_nj e14 hj, jr_nj e17 hj]
        rw [jr_na e5 (by omega), jr_na e8 (by omega), jr_na e5 (by omega), jr_na e11 (by omega), jr_na e8 (by omega), jr_na e5 (by omega), jr_na e14 (by omega), jr_na e11 (by omega), jr_na e8 (by omega), jr_na e5 (by omega)]
        exact g
      have new : Rw m S b M17 ((k + 1 : Nat) : Int) y := by
        unfold Rw at gk ⊢
        rw [r7, r8, r9, r10, jr_eq e5, jr_eq e8, jr_eq e11, jr_eq e14, jr_eq e17]
        exact ⟨gk.1, rfl, rfl, gk.2.2.2.1, gk.2.2.2.2⟩
      have keep : ∀ a j, ¬ (m + 7 ≤ a ∧ a ≤ m + 11) → M17 a j = I1 a j := fun a j ha => by
        rw [jr_na e17 (by omega), jr_na e14 (by omega), jr_na e11 (by omega), jr_na e8 (by omega), jr_na e5 (by omega)]
      refine ih M17 (by omega) (by rw [keep _ _ (by omega)]; exact h17) (by rw [keep _ _ (by omega)]; exact h7) (fun i hi => old i _ (by omega) (hlo i (by omega))) (fun i hi hi2 => ?_) (hW.trans (fun a j ha hb => keep a j (by omega)))
      by_cases ei : i = k
      · rw [ei, hy]
        have e3 : ((k : Int)) + 1 = ((k + 1 : Nat) : Int) := by omega
        rw [e3]
        exact ⟨new, Or.inr ⟨hyt.symm, Or.inl hgt2⟩⟩
      · have g := hhi i (by omega) hi2
        exact ⟨old _ _ (by omega) g.1, g.2⟩
end RC
