/-! THE CLAIM OUT OF ONE WALK OF THE LAW'S BODY. Your part is whole_start (and what it stands on); all else here is the same for every law, but numbers. -/
def R_law : String := "StyleFixesLaw"
def lw_P (b : Addr) (xs : List Int32) (args : Array Value) (s : State) : Prop := args = #[.ref b] ∧ s.IntsAt b xs ∧ xs.length ≤ 3072 ∧ (Jvm.Cond.and given_1 narrow_1).before args s = true
/-- what a walk over the start with the record d0 says of its end, said of the start itself -/
theorem lw_closed {s t : State} {o : Outcome} {d0 : Drawn} {L : List Loc} {k n : Nat} (hd0 : s.drawn.sameBut d0 lw_cs) (hv : ∃ v, o = .returned v) (hW : (s.setDrawn d0).WarmedH t.vm) (hs : (s.setDrawn d0).sameButNew ({ t with vm := s.vm } : State) L k n) : State.butDraws s t lw_cs (fun t1 => Framed s o t1 L k n) := by
  have h2 : t.drawn = d0 := congrArg State.drawn hs.1
  refine ⟨⟨hv, hW, State.sameButNew.setDrawn hs s.drawn⟩, ?_, by decide⟩
  rw [h2]
  exact hd0
def lw_Q (_ : Array Value) (s : State) (o : Outcome) (t : State) : Prop := o = .returned (some (.int 1)) ∧ State.butDraws s t lw_cs (fun t1 => Framed s o t1 [] 600000 7302250)
def lw_Z (below : List Frame) (a : Array Value) (s : State) : State → Prop := fun t => ∃ o, t.status = .running ∧ Ended t below o ∧ lw_Q a s o t
/-- the law's own end, with 1 on the stack, nothing written that was there before, its room as the claim has it; d0: the record of draws at this point (at the entry s.drawn: begin with 'refine W.base ?_' and 'have hd0 := Drawn.sameBut.refl s.drawn lw_cs') -/
theorem lw_ret {p : Program} {l : Launch} {e : Env} {s : State} {m : MethodId} {below : List Frame} {meth : Method} {c : Code} {b : Nat} {d0 : Drawn} (hd0 : s.drawn.sameBut d0 lw_cs) (hx : p.tables.exec = Jvm.exec) (hb : c.code = code) (hr : meth.sig.returnType = ret) (hlocks : meth.locks = false) {pc : Nat} {H : Heap} {ls : Array Slot} (hdg : decode code pc = .ok (.ireturn, 1)) : W p l e room_1 (s.setDrawn d0) m #[Value.ref b] below meth c H [] 600000 7302250 (lw_Z below #[Value.ref b] s) (F0 m pc ls [.int 1]) := by
  intro T hT X
  obtain ⟨fs, hret, hrun, hended, hW, hframe⟩ := X.leave (v := some (.int 1)) (hlocks := hlocks) (fun h => by rw [hr] at h; cases h)
  have hmeth' : T.vm.method? m = some meth := X.method'
  refine ⟨T.setFrames fs, ?_, .returned (some (.int 1)), hrun, hended, rfl, lw_closed hd0 ⟨_, rfl⟩ hW hframe⟩
  jvm_step X.here [X.here.top, hx, hb, hdg, hmeth', hr, ret, narrow_b1]
  (try refine ⟨rfl, ?_⟩); (try refine ⟨rfl, ?_⟩)
  first | (intro acts; rw [hret _ acts rfl rfl rfl]) | rw [hret _ _ rfl rfl rfl]
  exact Steps.refl _
/-- what holds at the law's entry: the machine, the code, the tables' words (any of lw_tbl by 'hts w (by decide +kernel)'), the script of L ints xs at the cell b, what the Statement gives of the start (any of its parts by flat_of_before) -/
def lw_At (p : Program) (s : State) (m : MethodId) (meth : Method) (c : Code) (b L : Nat) (xs : Nat → Int32) : Prop :=
  p.tables.exec = Jvm.exec ∧ c.code = code ∧ meth.sig.returnType = ret ∧ c.maxLocals = 4 ∧ s.vm.findClass R_law = some m.cls ∧ (∀ w ∈ lw_tbl, w.before #[Value.ref b] s = true) ∧ va_X b L xs s s.heap ∧ b < s.heap.size ∧ meth.locks = false ∧ (Jvm.Cond.and given_1 narrow_1).before #[Value.ref b] s = true

/-! ===== the start: its classes, its arrays ===== -/
theorem start_kn {s : State} {args : Array Value} (hts : ∀ w ∈ lw_tbl, w.before args s = true) : ∃ E : jE, E.1 = s.heap.size ∧ jKn E s := by
  have htb : ∀ w ∈ jTB, w.before args s = true := fun w hw => hts w (List.mem_filter.mp hw).1
  obtain ⟨c0, s0, k0⟩ := u_known (C := RX0) (T := TX0) (N := 2) (n := 2) htb (jin (ci := 0) rfl) (htb _ nw_X9_0.2.1)
  obtain ⟨c1, s1, k1⟩ := u_known (C := RX1) (T := TX1) (N := 16) (n := 16) htb (jin (ci := 1) rfl) (htb _ nw_X9_1.2.1)
  obtain ⟨c2, s2, k2⟩ := u_known (C := RX2) (T := TX2) (N := 3) (n := 3) htb (jin (ci := 2) rfl) (htb _ nw_X9_2.2.1)
  obtain ⟨c3, s3, k3⟩ := u_known (C := RX3) (T := TX3) (N := 6) (n := 6) htb (jin (ci := 3) rfl) (htb _ nw_X9_3.2.1)
  obtain ⟨c4, s4, k4⟩ := u_known (C := RX4) (T := TX4) (N := 6) (n := 6) htb (jin (ci := 4) rfl) (htb _ nw_X9_4.2.1)
  obtain ⟨c5, s5, k5⟩ := u_known (C := RX5) (T := TX5) (N := 6) (n := 6) htb (jin (ci := 5) rfl) (htb _ nw_X9_5.2.1)
  obtain ⟨c6, s6, k6⟩ := u_known (C := RX6) (T := TX6) (N := 13) (n := 13) htb (jin (ci := 6) rfl) (htb _ nw_X6.2.1)
  obtain ⟨c7, s7, k7⟩ := u_known (C := RX7) (T := TX7) (N := 11) (n := 11) htb (jin (ci := 7) rfl) (htb _ nw_X9_7.2.1)
  obtain ⟨c8, s8, k8⟩ := u_known (C := RX8) (T := TX8) (N := 3) (n := 3) htb (jin (ci := 8) rfl) (htb _ nw_X1_8.2.1)
  obtain ⟨c9, s9, k9⟩ := u_known (C := RX9) (T := TX9) (N := 18) (n := 18) htb (jin (ci := 9) rfl) (htb _ nw_L_9.2.1)
  obtain ⟨c10, s10, k10⟩ := u_known (C := RX10) (T := TX10) (N := 44) (n := 44) htb (jin (ci := 10) rfl) (htb _ nw_L_10.2.1)
  obtain ⟨a100, d100, p100, f100, g100, h100⟩ := Cond.arrayClass_spec (htb _ ac_int)
  obtain ⟨a101, d101, p101, f101, g101, h101⟩ := Cond.arrayClass_spec (htb _ ac_byte)
  obtain ⟨a102, d102, p102, f102, g102, h102⟩ := Cond.arrayClass_spec (htb _ ac_boolean)
  have ho7 : (Cond.arrayOver (.object RX7)).before args s = true := hts _ (List.mem_of_getElem? (i := 383) (by decide +kernel))
  have ho4 : (Cond.arrayOver (.object RX4)).before args s = true := hts _ (List.mem_of_getElem? (i := 178) (by decide +kernel))
  obtain ⟨p103, a103, d103, f103, -, g103, h103, n103⟩ := Cond.arrayOver_spec ho7
  obtain ⟨p104, a104, d104, f104, -, g104, h104, n104⟩ := Cond.arrayOver_spec ho4
  refine ⟨(s.heap.size, (fun k => if k = 0 then c0 else if k = 1 then c1 else if k = 2 then c2 else if k = 3 then c3 else if k = 4 then c4 else if k = 5 then c5 else if k = 6 then c6 else if k = 7 then c7 else if k = 8 then c8 else if k = 9 then c9 else c10, fun k => if k = 0 then s0 else if k = 1 then s1 else if k = 2 then s2 else if k = 3 then s3 else if k = 4 then s4 else if k = 5 then s5 else if k = 6 then s6 else if k = 7 then s7 else if k = 8 then s8 else if k = 9 then s9 else s10), fun k => if k = 100 then a100 else if k = 101 then a101 else if k = 102 then a102 else if k = 103 then a103 else a104), rfl, ⟨fun k q hq => ?_, fun k q hq => ?_⟩, fun w hw => ?_, ho7, ho4⟩
  · match k, hq with
    | 0, hq => cases hq; exact k0
    | 1, hq => cases hq; exact k1
    | 2, hq => cases hq; exact k2
    | 3, hq => cases hq; exact k3
    | 4, hq => cases hq; exact k4
    | 5, hq => cases hq; exact k5
    | 6, hq => cases hq; exact k6
    | 7, hq => cases hq; exact k7
    | 8, hq => cases hq; exact k8
    | 9, hq => cases hq; exact k9
    | 10, hq => cases hq; exact k10
    | k + 11, hq => simp [vwCl] at hq
  · match k, hq with
    | 0, hq => cases hq; exact ⟨fun N z => ⟨(fun k h => by cases h), d100, g100, p100, h100⟩, f100⟩
    | 1, hq => cases hq; exact ⟨fun N z => ⟨(fun k h => by cases h), d101, g101, p101, h101⟩, f101⟩
    | 2, hq => cases hq; exact ⟨fun N z => ⟨(fun k h => by cases h), d102, g102, p102, h102⟩, f102⟩
    | 3, hq => cases hq; exact ⟨fun N z => ⟨(fun k h => by cases h), d103, g103, p103, h103⟩, d103, p103, g103, h103, f103, n103⟩
    | 4, hq => cases hq; exact ⟨fun N z => ⟨(fun k h => by cases h), d104, g104, p104, h104⟩, d104, p104, g104, h104, f104, n104⟩
    | k + 5, hq => simp [jtys] at hq
  · have h1 := hts w (List.mem_filter.mp hw).1
    have h2 := (List.mem_filter.mp hw).2
    cases w <;> first | exact va_Nw.of rfl h1 | (exact absurd h2 (by simp [jisN]))
theorem lw_end {p : Program} {l : Launch} {e : Env} {s : State} {m : MethodId} {below : List Frame} {meth : Method} {c : Code} {b : Nat} {E : jE} (hE : E.1 = s.heap.size) (hx : p.tables.exec = Jvm.exec) (hb : c.code = code) (hr : meth.sig.returnType = ret) (hlocks : meth.locks = false) : jEnd E kL p l e s m #[Value.ref b] below meth c (lw_Z below #[Value.ref b] s) lQ := by
  intro pc H locs cls r G I i d hret hok hq hH hS
  have hq' : r = VI 1 := hq
  subst hq'
  obtain ⟨rfl, -⟩ := hret
  refine va_forget (fun q hq => ?_) (W.base (lw_ret (Drawn.sameBut.refl s.drawn lw_cs) hx hb hr hlocks d))
  have := hS.2.2 q hq
  rw [← hE]
  exact this
theorem whole_start {p : Program} {e : Env} {s : State} {m : MethodId} {below : List Frame} {meth : Method} {c : Code} (l : Launch) (hflags : l.flags = flags0) {b L : Nat} {xs : Nat → Int32} (hL : L ≤ 3072) (hnm : meth.name = "law") (C0 : lw_At p s m meth c b L xs) : W p l e room_1 s m #[Value.ref b] below meth c s.heap [] 0 0 (lw_Z below #[Value.ref b] s) (entryFrame m ([Value.ref b] : List Value).toArray 4) := by
  obtain ⟨hx, hb, hr, hml, hown, hts, hX, hbl, hlocks, hgv⟩ := id C0
  obtain ⟨E, hE, hK⟩ := start_kn hts
  have hC : jC E kL p s m #[Value.ref b] meth c := ⟨hx, hb, hml, hown, fun w hw => hts w (List.mem_filter.mp hw).1, hK, hnm, Nat.le_of_eq hE⟩
  have hl := lv_entry ([.ref b]) (n := 4) (Nat.le_of_ble_eq_true rfl)
  rw [lg_entry_eq]
  generalize (lg_sl ([.ref b]) ++ List.replicate (4 - (lg_sl ([.ref b])).length) Slot.unset).toArray = ls at hl ⊢
  have hl : lv_has ls 4 [(0, .ref b)] := hl
  refine lawBegin (E := E) (b := b) (L := L) (xs := xs) (by omega) p l e s m #[Value.ref b] below meth c _ s.heap [] ls ⟨hX, hbl, hE⟩ hC (lw_end hE hx hb hr hlocks) ⟨by rw [hE]; rfl, fun a j => ⟨by show (-2147483648 : Int) ≤ 0; decide, by show (0 : Int) ≤ 2147483647; decide⟩, fun a ha => absurd ha (Nat.not_lt_zero a)⟩ va_S.rf ⟨hl.1, hl.2.1, fun i v hi hn => ?_⟩
  match i, hi with
  | 0, hi => cases hi; exact ⟨lv_at hl 0 rfl, trivial⟩
  | 1, hi => cases hi; simp [jN] at hn
  | 2, hi => cases hi; simp [jN] at hn
  | 3, hi => cases hi; simp [jN] at hn
  | i + 4, hi => simp at hi
