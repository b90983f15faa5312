/-! ===== the class reads rules: all of them ===== -/
def MR (δ : Nat) (r : Int) (R : rul) (I : jM) : Prop := I (δ + 2) r = R.1 ∧ ME δ r R.2.1 I ∧ MP δ r R.2.1 R.2.2 I
def keyL (a : Int × Int × Int) : Int := if a.1 ≤ 2 then 4 * a.1 + a.2.1 else -1
section CE
variable {E : jE} {G : jG} {m δ : Nat} {I M : jM} {T : List Int} {B : Int → Int} {rl : List rul} {f g cnt : Int}
theorem ru_w {r : Nat} (hr : r < rl.length) (h6 : rl.length ≤ 6) {w j : Int} (hw : 0 ≤ w ∧ w < 40) (ej : j = 514 + 40 * r + w) : ruB B T rl j = encR (rl.getD r (0, [], [])) w := by
  unfold ruB encA
  rw [if_neg (by omega), if_neg (by omega), if_neg (by omega), if_pos (by omega), if_pos (by omega), show ((j - 514) / 40).toNat = r by omega, show (j - 514) % 40 = w by omega]
theorem ru_4 : ruB B T rl 4 = rl.length := if_pos rfl
theorem ru_T {i j : Int} (h300 : T.length ≤ 300) (i0 : 0 ≤ i) (i1 : i < T.length) (ej : j = 754 + i) : ruB B T rl j = tp T i := by
  unfold ruB
  rw [if_neg (by omega), if_neg (by omega), if_neg (by omega), if_neg (by omega), if_pos (by omega), if_pos (by omega), show j - 754 = i by omega]
theorem enc_e {R : rul} {e : Nat} (he : e < 6) : encR R (4 + 3 * e + 0) = (R.2.1.getD e (0, 0, 0)).1 ∧ encR R (4 + 3 * e + 1) = (R.2.1.getD e (0, 0, 0)).2.1 ∧ encR R (4 + 3 * e + 2) = (R.2.1.getD e (0, 0, 0)).2.2 := by
  unfold encR
  refine ⟨?_, ?_, ?_⟩
  · rw [if_neg (by omega), if_neg (by omega), if_neg (by omega), if_neg (by omega), if_pos (by omega), show 4 + 3 * (e : Int) + 0 - 4 = 3 * e by omega]; exact trp_at.1
  · rw [if_neg (by omega), if_neg (by omega), if_neg (by omega), if_neg (by omega), if_pos (by omega), show 4 + 3 * (e : Int) + 1 - 4 = 3 * e + 1 by omega]; exact trp_at.2.1
  · rw [if_neg (by omega), if_neg (by omega), if_neg (by omega), if_neg (by omega), if_pos (by omega), show 4 + 3 * (e : Int) + 2 - 4 = 3 * e + 2 by omega]; exact trp_at.2.2
theorem enc_p {R : rul} {e : Nat} (he : e < 6) : encR R (22 + 3 * e + 0) = (R.2.2.getD e (0, 0, 0)).1 ∧ encR R (22 + 3 * e + 1) = (R.2.2.getD e (0, 0, 0)).2.1 ∧ encR R (22 + 3 * e + 2) = (R.2.2.getD e (0, 0, 0)).2.2 := by
  unfold encR
  refine ⟨?_, ?_, ?_⟩
  · rw [if_neg (by omega), if_neg (by omega), if_neg (by omega), if_neg (by omega), if_neg (by omega), show 22 + 3 * (e : Int) + 0 - 22 = 3 * e by omega]; exact trp_at.1
  · rw [if_neg (by omega), if_neg (by omega), if_neg (by omega), if_neg (by omega), if_neg (by omega), show 22 + 3 * (e : Int) + 1 - 22 = 3 * e + 1 by omega]; exact trp_at.2.1
  · rw [if_neg (by omega), if_neg (by omega), if_neg (by omega), if_neg (by omega), if_neg (by omega), show 22 + 3 * (e : Int) + 2 - 22 = 3 * e + 2 by omega]; exact trp_at.2.2
theorem enc_h {R : rul} : encR R 0 = R.1 ∧ encR R 1 = 1 ∧ encR R 2 = R.2.1.length ∧ encR R 3 = R.2.2.length := ⟨rfl, rfl, rfl, rfl⟩
/-- what stands in a block that was told rules -/
theorem ru_el {r e : Nat} (hr : r < rl.length) (h6 : rl.length ≤ 6) (he : e < 6) : ruB B T rl (518 + 40 * r + 3 * e + 0) = ((rl.getD r (0, [], [])).2.1.getD e (0, 0, 0)).1 ∧ ruB B T rl (518 + 40 * r + 3 * e + 1) = ((rl.getD r (0, [], [])).2.1.getD e (0, 0, 0)).2.1 ∧ ruB B T rl (518 + 40 * r + 3 * e + 2) = ((rl.getD r (0, [], [])).2.1.getD e (0, 0, 0)).2.2 := by
  refine ⟨?_, ?_, ?_⟩
  · rw [ru_w hr h6 (w := 4 + 3 * e + 0) (by omega) (by omega)]; exact (enc_e he).1
  · rw [ru_w hr h6 (w := 4 + 3 * e + 1) (by omega) (by omega)]; exact (enc_e he).2.1
  · rw [ru_w hr h6 (w := 4 + 3 * e + 2) (by omega) (by omega)]; exact (enc_e he).2.2
theorem ru_pt {r e : Nat} (hr : r < rl.length) (h6 : rl.length ≤ 6) (he : e < 6) : ruB B T rl (536 + 40 * r + 3 * e + 0) = ((rl.getD r (0, [], [])).2.2.getD e (0, 0, 0)).1 ∧ ruB B T rl (536 + 40 * r + 3 * e + 1) = ((rl.getD r (0, [], [])).2.2.getD e (0, 0, 0)).2.1 ∧ ruB B T rl (536 + 40 * r + 3 * e + 2) = ((rl.getD r (0, [], [])).2.2.getD e (0, 0, 0)).2.2 := by
  refine ⟨?_, ?_, ?_⟩
  · rw [ru_w hr h6 (w := 22 + 3 * e + 0) (by omega) (by omega)]; exact (enc_p he).1
  · rw [ru_w hr h6 (w := 22 + 3 * e + 1) (by omega) (by omega)]; exact (enc_p he).2.1
  · rw [ru_w hr h6 (w := 22 + 3 * e + 2) (by omega) (by omega)]; exact (enc_p he).2.2
theorem ru_hd {r : Nat} (hr : r < rl.length) (h6 : rl.length ≤ 6) : ruB B T rl (514 + 40 * r) = (rl.getD r (0, [], [])).1 ∧ ruB B T rl (515 + 40 * r) = 1 ∧ ruB B T rl (516 + 40 * r) = (rl.getD r (0, [], [])).2.1.length ∧ ruB B T rl (517 + 40 * r) = (rl.getD r (0, [], [])).2.2.length := by
  refine ⟨?_, ?_, ?_, ?_⟩
  · rw [ru_w hr h6 (w := 0) (by omega) (by omega)]; rfl
  · rw [ru_w hr h6 (w := 1) (by omega) (by omega)]; rfl
  · rw [ru_w hr h6 (w := 2) (by omega) (by omega)]; rfl
  · rw [ru_w hr h6 (w := 3) (by omega) (by omega)]; rfl
theorem ru_key {r e : Nat} (hr : r < rl.length) (h6 : rl.length ≤ 6) (he : e < 6) : key (ruB B T rl) r e = keyL ((rl.getD r (0, [], [])).2.1.getD e (0, 0, 0)) := by
  unfold key keyL
  rw [(ru_el hr h6 he).1, (ru_el hr h6 he).2.1]
theorem nmK_key {a b : Int × Int × Int} (ha : WfE T a) (hb : WfE T b) : nmK a = nmK b ↔ keyL a = keyL b := by
  unfold nmK keyL
  have a0 := ha.1.1
  have b0 := hb.1.1
  by_cases q : a.1 ≤ 2 <;> by_cases q' : b.1 ≤ 2
  · have a2 := ha.2.1 q
    have b2 := hb.2.1 q'
    have ta := told_012 (s := a.1) ⟨a0, q⟩
    have tb := told_012 (s := b.1) ⟨b0, q'⟩
    rw [if_pos q, if_pos q', if_pos q, if_pos q', ta, tb]
    by_cases c : a.1 = 2 <;> by_cases c' : b.1 = 2
    · rw [if_pos c, if_pos c']; omega
    · rw [if_pos c, if_neg c']; omega
    · rw [if_neg c, if_pos c']; omega
    · rw [if_neg c, if_neg c']
  · have a2 := ha.2.1 q
    have ta := told_012 (s := a.1) ⟨a0, q⟩
    have : 0 ≤ told a.1 := by rw [ta]; split <;> omega
    rw [if_pos q, if_neg q', if_pos q, if_neg q']; omega
  · have b2 := hb.2.1 q'
    have tb := told_012 (s := b.1) ⟨b0, q'⟩
    have : 0 ≤ told b.1 := by rw [tb]; split <;> omega
    rw [if_neg q, if_pos q', if_neg q, if_pos q']; omega
  · rw [if_neg q, if_neg q', if_neg q, if_neg q']
theorem nmK_pk {a : Int × Int × Int} (ha : WfE T a) {s n : Int} (hs : 0 ≤ s ∧ s ≤ 2) (hn : 0 ≤ n ∧ n ≤ 3) : nmK a = 4 * told s + n ↔ keyL a = 4 * s + n := by
  rw [nmK_iff ha hs hn]
  unfold keyL
  have a0 := ha.1.1
  by_cases q : a.1 ≤ 2
  · have a2 := ha.2.1 q
    rw [if_pos q]; omega
  · rw [if_neg q]; omega
theorem pbase_bd {s : Int} (h : 0 ≤ s ∧ s ≤ 7 ∧ s ≠ 3) (h4 : s ≠ 4) : 0 ≤ pbase s ∧ pbase s ≤ 2 := by
  unfold pbase
  split
  · omega
  · split <;> omega
theorem RU_of (h300 : T.length ≤ 300) (h6 : rl.length ≤ 6) (hw : ∀ R ∈ rl, WfR T R) (h1 : I δ 1 = rl.length) (hR : ∀ r : Nat, r < rl.length → MR δ r (rl.getD r (0, [], [])) I) (hb : ∀ i : Nat, i < T.length → I (δ + 1) i = jb8 (T.getD i 0)) (ho : ∀ r : Nat, r < rl.length → I (δ + 5) (rkL (I (δ + 3)) r rl.length : Nat) = r) : RU δ (ruB B T rl) I := by
  have byt : ∀ i : Int, 0 ≤ i → i < T.length → 32 ≤ tp T i ∧ tp T i ≤ 126 → I (δ + 1) i = ruB B T rl (754 + i) := by
    intro i i0 i1 ib
    rw [ru_T h300 i0 i1 rfl]
    have := hb i.toNat (by omega)
    rw [show ((i.toNat : Nat) : Int) = i by omega] at this
    rw [this]
    exact jb8_id (show -128 ≤ tp T i ∧ tp T i ≤ 127 by omega)
  refine ⟨by rw [ru_4]; exact h1, fun r r0 r1 => ?_, ORD_of ru_4 (fun r hr => by rw [(ru_hd hr h6).2.2.1, (hR r hr).2.1.1]) ho⟩
  rw [ru_4] at r1
  obtain ⟨k, rfl⟩ : ∃ k : Nat, r = (k : Int) := ⟨r.toNat, by omega⟩
  have hk : k < rl.length := by omega
  have hW := hw _ (gd_mem (d := (0, [], [])) hk)
  have hK := hR k hk
  obtain ⟨d0, d1, d2, d3⟩ := ru_hd (B := B) (T := T) hk h6
  have ke : ∀ e : Nat, e < 6 → key (ruB B T rl) k e = keyL ((rl.getD k (0, [], [])).2.1.getD e (0, 0, 0)) := fun e he => ru_key hk h6 he
  have ree : ∀ e : Nat, e < 6 → _ := fun e he => ru_el (B := B) (T := T) (e := e) hk h6 he
  have rpe : ∀ e : Nat, e < 6 → _ := fun e he => ru_pt (B := B) (T := T) (e := e) hk h6 he
  generalize rl.getD k (0, [], []) = R at *
  obtain ⟨w1, w2, w3, ⟨gg, w4, _⟩, w5⟩ := hW
  obtain ⟨k1, ⟨k2, k3⟩, k4, k5⟩ := hK
  rw [d0, d2, d3]
  have mE : ∀ e : Nat, e < R.2.1.length → WfE T (R.2.1.getD e (0, 0, 0)) := fun e he => w2 _ (gd_mem he)
  refine ⟨k1, k2, k4, fun e e0 e1 => ?_, fun p p0 p1 => ?_⟩
  · obtain ⟨x, rfl⟩ : ∃ x : Nat, e = (x : Int) := ⟨e.toNat, by omega⟩
    have hx : x < R.2.1.length := by omega
    have hx6 : x < 6 := by omega
    obtain ⟨c1, c2, c3, c4, c5⟩ := k3 x hx
    obtain ⟨y0, y1, y2⟩ := ree x hx6
    have wf := mE x hx
    unfold ER
    rw [y0, y1, y2]
    refine ⟨c1, fun q => ?_, c4, fun q => ⟨(c5 q).1, (c5 q).2, fun j j0 j1 => ?_⟩⟩
    · obtain ⟨z0, z1, z2, z3, z4⟩ := c3 q
      have hz : z0 < R.2.1.length := Nat.lt_of_le_of_lt z2 hx
      have hz6 : z0 < 6 := Nat.lt_of_le_of_lt z2 hx6
      rw [z1]
      refine ⟨Int.natCast_nonneg _, Int.ofNat_le.mpr z2, ?_, fun e' h0 h1' => ?_⟩
      · rw [ke z0 hz6, ke x hx6]
        exact (nmK_key (mE z0 hz) wf).mp z3
      · obtain ⟨y, rfl⟩ : ∃ y : Nat, e' = (y : Int) := ⟨e'.toNat, (Int.toNat_of_nonneg h0).symm⟩
        have hy : y < z0 := Int.ofNat_lt.mp h1'
        rw [ke y (Nat.lt_trans hy hz6), ke x hx6]
        exact fun n => z4 y hy ((nmK_key (mE y (Nat.lt_trans hy hz)) wf).mpr n)
    · obtain ⟨⟨q1, q2, q3, q4⟩, q5⟩ := wf.2.2 q
      have := byt ((R.2.1.getD x (0, 0, 0)).2.1 + j) (by omega) (by omega) (q4 _ (by omega) (by omega))
      rw [this]
      congr 1
      omega
  · obtain ⟨x, rfl⟩ : ∃ x : Nat, p = (x : Int) := ⟨p.toNat, by omega⟩
    have hx : x < R.2.2.length := by omega
    have hx6 : x < 6 := by omega
    obtain ⟨c1, c2, c3⟩ := k5 x hx
    obtain ⟨y0, y1, y2⟩ := rpe x hx6
    have wf := (w4 _ (gd_mem (d := (0, 0, 0)) hx)).1
    unfold QR
    rw [y0, y1, y2]
    refine ⟨c1, fun q => ⟨(c2 q).1, (c2 q).2, fun j j0 j1 => ?_⟩, fun q => ?_⟩
    · obtain ⟨q1, q2, q3, q4⟩ := wf.2.1 q
      have := byt ((R.2.2.getD x (0, 0, 0)).2.1 + j) (by omega) (by omega) (q4 _ (by omega) (by omega))
      rw [this]
      congr 1
      omega
    · obtain ⟨q1, q2⟩ := wf.2.2 q
      have pb := pbase_bd wf.1 q
      obtain ⟨z0, z1, z2, z3, z4⟩ := c3 q
      have hz6 : z0 < 6 := Nat.lt_of_lt_of_le z2 w3.2
      rw [z1]
      refine (fk_eq ⟨Int.natCast_nonneg _, by rw [d2]; exact Int.ofNat_lt.mpr z2, ?_, fun e' h0 h1' => ?_⟩).symm
      · rw [ke z0 hz6]
        exact (nmK_pk (mE z0 z2) pb q1).mp z3
      · obtain ⟨y, rfl⟩ : ∃ y : Nat, e' = (y : Int) := ⟨e'.toNat, (Int.toNat_of_nonneg h0).symm⟩
        have hy : y < z0 := Int.ofNat_lt.mp h1'
        rw [ke y (Nat.lt_trans hy hz6)]
        exact fun n => z4 y hy ((nmK_pk (mE y (Nat.lt_trans hy z2)) pb q1).mpr n)
end CE
