/-! ===== the law's cases ===== -/
def kL : jK := (yL_law, cL_law, 4, some .boolean, room_1)
def lQ : jV → jG → jM → Prop := fun r _ _ => r = VI 1
def lls (b : Nat) (n : Int) : List jV := [VX (.ref b), VR 0, VR 606, VI n]
def lNx (E : jE) (b L k : Nat) (xs : Nat → Int32) (n : Int) : Prop := ∀ (G : jG) (I : jM) (u1 u2 : Nat), LV (k + 1) G I → u1 ≤ 635 + 13 * (k + 1) → u2 ≤ 181924 + 589 * (k + 1) → jOy E (lX E b L xs) kL 1465 (lls b n) [] G I (u1, u2) lQ
def lA (L k : Nat) (n : Int) (G : jG) (I : jM) (u1 u2 : Nat) : Prop := LV k G I ∧ k ≤ 512 ∧ (0 ≤ n ∧ n + 6 ≤ L) ∧ (L : Int) ≤ 3072 ∧ u1 ≤ 635 + 13 * k ∧ u2 ≤ 181924 + 589 * k
section LB
variable {E : jE} {b L k : Nat} {xs : Nat → Int32} {n : Int} {G : jG} {I : jM} {u1 u2 : Nat}
theorem y_arg {X : jV → jG → jM → Prop} {st : List jV} {j : Int} {pc : Nat} (d0 : decode cL_law pc = .ok (.aload_n 0, 1)) (d1 : decode cL_law (pc + 1) = .ok (.iload_n 3, 1)) (d2 : decode cL_law (pc + 2) = .ok (.iconst j, 1)) (d3 : decode cL_law (pc + 3) = .ok (.iadd, 1)) (d4 : decode cL_law (pc + 4) = .ok (.iaload, 1)) (hj : 0 ≤ j ∧ j ≤ 5) (hn : 0 ≤ n ∧ n + 6 ≤ L) (hL : (L : Int) ≤ 3072) {u : Nat × Nat} (k : jOy E (lX E b L xs) kL (pc + 5) (lls b n) (VI (xs (n + j).toNat).toInt :: st) G I u X) : jOy E (lX E b L xs) kL pc (lls b n) st G I u X := by
  refine y_xload_n d0 rfl (i := 0) rfl ?_
  refine y_iload_n d1 rfl (i := 3) rfl ?_
  refine y_iconst d2 ?_
  refine y_iadd d3 ?_
  exact y_sld ⟨by omega, by omega⟩ hL d4 k
theorem lawCase {K1 K2 : jK} {as : List jV} {pc1 pc3 idx1 idx2 : Nat} {off : Int} (hP : JP E K1 K2 as k G I) (hk : k ≤ 512) (hu1 : u1 ≤ 635 + 13 * k) (hu2 : u2 ≤ 181924 + 589 * k)
    (d1 : decode cL_law pc1 = .ok (.invokevirtual idx1, 3)) (m1 : jMth K1) (l1 : Cond.methodLink RL idx1 K1.1 ∈ jTB) (i1 : Cond.instanceMethod K1.1 ∈ jTB ∧ Cond.selects K1.1.cls K1.1 K1.1 ∈ jTB) (r1 : jRm kL K1 as.length) (e1 : K1.1.cls = RX9)
    (d2 : decode cL_law pc3 = .ok (.invokevirtual idx2, 3)) (m2 : jMth K2) (l2 : Cond.methodLink RL idx2 K2.1 ∈ jTB) (i2 : Cond.instanceMethod K2.1 ∈ jTB ∧ Cond.selects K2.1.cls K2.1 K2.1 ∈ jTB) (r2 : jRm kL K2 as.length) (e2 : K2.1.cls = RX10)
    (hcs : K1.2.2.2.2.cells + K2.2.2.2.2.cells ≤ 13 ∧ K1.2.2.2.2.slots + K2.2.2.2.2.slots ≤ 589) (has : ∀ x ∈ as, jokv x)
    (push : ∀ (x : Int) (G1 : jG) (I1 : jM) (u : Nat × Nat), jOy E (lX E b L xs) kL pc3 (lls b n) (as.reverse ++ [VR 606, VI x]) G1 I1 u lQ → jOy E (lX E b L xs) kL (pc1 + 3) (lls b n) [VI x] G1 I1 u lQ)
    (d3 : decode cL_law (pc3 + 3) = .ok (.if_icmp .eq off, 3)) (ht : ((pc3 + 3 : Nat) : Int) + off = ((1465 : Nat) : Int)) (ih : lNx E b L k xs n) : jOy E (lX E b L xs) kL pc1 (lls b n) (as.reverse ++ [VR 0]) G I (u1, u2) lQ := by
  obtain ⟨h9, M, hc, hr⟩ := hP
  have b1 : u1 + K1.2.2.2.2.cells ≤ 600000 ∧ u2 + K1.2.2.2.2.slots ≤ 7302250 := by omega
  have b2 : u1 + K1.2.2.2.2.cells + K2.2.2.2.2.cells ≤ 600000 ∧ u2 + K1.2.2.2.2.slots + K2.2.2.2.2.slots ≤ 7302250 := by omega
  refine y_callV (K := kL) (a := 0) (as := as) (st := []) d1 m1 l1 i1 r1 b1 (Nat.le_of_ble_eq_true rfl) (wX9_l h9) (by rw [e1]; exact wX9_c h9) has hc (fun r G1 I1 jr hx => ?_)
  obtain ⟨x, e, hM⟩ := hx
  subst e
  refine push x G1 I1 _ ?_
  obtain ⟨w10, h2⟩ := hr x G1 I1 hM
  refine y_callV (K := kL) (a := 606) (as := as) (st := [VI x]) d2 m2 l2 i2 r2 b2 (Nat.le_of_ble_eq_true rfl) (wX10_l w10) (by rw [e2]; exact wX10_c w10) has h2 (fun r G2 I2 jr2 hx => ?_)
  obtain ⟨e, hV⟩ := hx
  subst e
  exact y_icmp_eq (K := kL) d3 (tgt := 1465) ht jr jr (fun _ => ih G2 I2 _ _ hV (by omega) (by omega)) (fun q => absurd rfl q)
theorem lawCaseL {K1 K2 : jK} {as : List jV} {pc1 pc3 idx1 idx2 : Nat} {off : Int} (hP : JPL E K1 K2 as k G I) (hk : k ≤ 512) (hu1 : u1 ≤ 635 + 13 * k) (hu2 : u2 ≤ 181924 + 589 * k)
    (d1 : decode cL_law pc1 = .ok (.invokevirtual idx1, 3)) (m1 : jMth K1) (l1 : Cond.methodLink RL idx1 K1.1 ∈ jTB) (i1 : Cond.instanceMethod K1.1 ∈ jTB ∧ Cond.selects K1.1.cls K1.1 K1.1 ∈ jTB) (r1 : jRm kL K1 as.length) (e1 : K1.1.cls = RX9)
    (d2 : decode cL_law pc3 = .ok (.invokevirtual idx2, 3)) (m2 : jMth K2) (l2 : Cond.methodLink RL idx2 K2.1 ∈ jTB) (i2 : Cond.instanceMethod K2.1 ∈ jTB ∧ Cond.selects K2.1.cls K2.1 K2.1 ∈ jTB) (r2 : jRm kL K2 as.length) (e2 : K2.1.cls = RX10)
    (hcs : K1.2.2.2.2.cells + K2.2.2.2.2.cells ≤ 13 ∧ K1.2.2.2.2.slots + K2.2.2.2.2.slots ≤ 589) (has : ∀ x ∈ as, jokv x)
    (push : ∀ (x : Int64) (G1 : jG) (I1 : jM) (u : Nat × Nat), jOy E (lX E b L xs) kL pc3 (lls b n) (as.reverse ++ [VR 606, VX (.long x)]) G1 I1 u lQ → jOy E (lX E b L xs) kL (pc1 + 3) (lls b n) [VX (.long x)] G1 I1 u lQ)
    (d3 : decode cL_law (pc3 + 3) = .ok (.lcmp, 1)) (d4 : decode cL_law (pc3 + 4) = .ok (.ifCond .eq off, 3)) (ht : ((pc3 + 4 : Nat) : Int) + off = ((1465 : Nat) : Int)) (ih : lNx E b L k xs n) : jOy E (lX E b L xs) kL pc1 (lls b n) (as.reverse ++ [VR 0]) G I (u1, u2) lQ := by
  obtain ⟨h9, M, hc, hr⟩ := hP
  have b1 : u1 + K1.2.2.2.2.cells ≤ 600000 ∧ u2 + K1.2.2.2.2.slots ≤ 7302250 := by omega
  have b2 : u1 + K1.2.2.2.2.cells + K2.2.2.2.2.cells ≤ 600000 ∧ u2 + K1.2.2.2.2.slots + K2.2.2.2.2.slots ≤ 7302250 := by omega
  refine y_callV (K := kL) (a := 0) (as := as) (st := []) d1 m1 l1 i1 r1 b1 (Nat.le_of_ble_eq_true rfl) (wX9_l h9) (by rw [e1]; exact wX9_c h9) has hc (fun r G1 I1 jr hx => ?_)
  obtain ⟨x, e, hM⟩ := hx
  subst e
  refine push x G1 I1 _ ?_
  obtain ⟨w10, h2⟩ := hr x G1 I1 hM
  refine y_callV (K := kL) (a := 606) (as := as) (st := [VX (.long x)]) d2 m2 l2 i2 r2 b2 (Nat.le_of_ble_eq_true rfl) (wX10_l w10) (by rw [e2]; exact wX10_c w10) has h2 (fun r G2 I2 jr2 hx => ?_)
  obtain ⟨e, hV⟩ := hx
  subst e
  refine y_lcmp (K := kL) (a := x) (b := x) d3 (fun _ => ?_) rfl
  exact y_if_eq (K := kL) (a := 0) d4 (tgt := 1465) ht j_zero (fun _ => ih G2 I2 _ _ hV (by omega) (by omega)) (fun q => absurd rfl q)
theorem rl_X9_feed : jRm kL kX9_feed 5 := ⟨by decide +kernel, Nat.le_of_ble_eq_true rfl, Nat.le_of_ble_eq_true rfl⟩
theorem rl_X10_feed : jRm kL kX10_feed 5 := ⟨by decide +kernel, Nat.le_of_ble_eq_true rfl, Nat.le_of_ble_eq_true rfl⟩
theorem lc_0 (H : lA L k n G I u1 u2) (ih : lNx E b L k xs n) : jOy E (lX E b L xs) kL 248 (lls b n) [] G I (u1, u2) lQ := by
  obtain ⟨h, hk, hn, hL, hu1, hu2⟩ := H
  refine y_aload_n (K := kL) dL_law_248 rfl (i := 1) rfl ?_
  refine y_arg (j := 1) dL_law_249 dL_law_250 dL_law_251 dL_law_252 dL_law_253 ⟨by decide, by decide⟩ hn hL ?_
  refine y_arg (j := 2) dL_law_254 dL_law_255 dL_law_256 dL_law_257 dL_law_258 ⟨by decide, by decide⟩ hn hL ?_
  refine y_arg (j := 3) dL_law_259 dL_law_260 dL_law_261 dL_law_262 dL_law_263 ⟨by decide, by decide⟩ hn hL ?_
  refine y_arg (j := 4) dL_law_264 dL_law_265 dL_law_266 dL_law_267 dL_law_268 ⟨by decide, by decide⟩ hn hL ?_
  refine y_arg (j := 5) dL_law_269 dL_law_270 dL_law_271 dL_law_272 dL_law_273 ⟨by decide, by decide⟩ hn hL ?_
  refine lawCase (as := [VI (xs (n + 1).toNat).toInt, VI (xs (n + 2).toNat).toInt, VI (xs (n + 3).toNat).toInt, VI (xs (n + 4).toNat).toInt, VI (xs (n + 5).toNat).toInt]) (pr_feed h hk) hk hu1 hu2 dL_law_274 mt_X9_feed ml_L_13 mi_X9_feed rl_X9_feed rfl dL_law_303 mt_X10_feed ml_L_17 mi_X10_feed rl_X10_feed rfl ⟨Nat.le_of_ble_eq_true rfl, Nat.le_of_ble_eq_true rfl⟩ (jasI (j32_in _) (jasI (j32_in _) (jasI (j32_in _) (jasI (j32_in _) (jasI (j32_in _) jas0))))) (fun x G1 I1 u q => ?_) dL_law_306 (by decide) ih
  refine y_aload_n (K := kL) dL_law_277 rfl (i := 2) rfl ?_
  refine y_arg (j := 1) dL_law_278 dL_law_279 dL_law_280 dL_law_281 dL_law_282 ⟨by decide, by decide⟩ hn hL ?_
  refine y_arg (j := 2) dL_law_283 dL_law_284 dL_law_285 dL_law_286 dL_law_287 ⟨by decide, by decide⟩ hn hL ?_
  refine y_arg (j := 3) dL_law_288 dL_law_289 dL_law_290 dL_law_291 dL_law_292 ⟨by decide, by decide⟩ hn hL ?_
  refine y_arg (j := 4) dL_law_293 dL_law_294 dL_law_295 dL_law_296 dL_law_297 ⟨by decide, by decide⟩ hn hL ?_
  refine y_arg (j := 5) dL_law_298 dL_law_299 dL_law_300 dL_law_301 dL_law_302 ⟨by decide, by decide⟩ hn hL ?_
  exact q
theorem rl_X9_end : jRm kL kX9_end 1 := ⟨by decide +kernel, Nat.le_of_ble_eq_true rfl, Nat.le_of_ble_eq_true rfl⟩
theorem rl_X10_end : jRm kL kX10_end 1 := ⟨by decide +kernel, Nat.le_of_ble_eq_true rfl, Nat.le_of_ble_eq_true rfl⟩
theorem lc_1 (H : lA L k n G I u1 u2) (ih : lNx E b L k xs n) : jOy E (lX E b L xs) kL 311 (lls b n) [] G I (u1, u2) lQ := by
  obtain ⟨h, hk, hn, hL, hu1, hu2⟩ := H
  refine y_aload_n (K := kL) dL_law_311 rfl (i := 1) rfl ?_
  refine y_arg (j := 1) dL_law_312 dL_law_313 dL_law_314 dL_law_315 dL_law_316 ⟨by decide, by decide⟩ hn hL ?_
  refine lawCase (as := [VI (xs (n + 1).toNat).toInt]) (pr_end h hk) hk hu1 hu2 dL_law_317 mt_X9_end ml_L_18 mi_X9_end rl_X9_end rfl dL_law_326 mt_X10_end ml_L_22 mi_X10_end rl_X10_end rfl ⟨Nat.le_of_ble_eq_true rfl, Nat.le_of_ble_eq_true rfl⟩ (jasI (j32_in _) jas0) (fun x G1 I1 u q => ?_) dL_law_329 (by decide) ih
  refine y_aload_n (K := kL) dL_law_320 rfl (i := 2) rfl ?_
  refine y_arg (j := 1) dL_law_321 dL_law_322 dL_law_323 dL_law_324 dL_law_325 ⟨by decide, by decide⟩ hn hL ?_
  exact q
theorem rl_X9_text : jRm kL kX9_text 0 := ⟨by decide +kernel, Nat.le_of_ble_eq_true rfl, Nat.le_of_ble_eq_true rfl⟩
theorem rl_X10_text : jRm kL kX10_text 0 := ⟨by decide +kernel, Nat.le_of_ble_eq_true rfl, Nat.le_of_ble_eq_true rfl⟩
theorem lc_2 (H : lA L k n G I u1 u2) (ih : lNx E b L k xs n) : jOy E (lX E b L xs) kL 334 (lls b n) [] G I (u1, u2) lQ := by
  obtain ⟨h, hk, hn, hL, hu1, hu2⟩ := H
  refine y_aload_n (K := kL) dL_law_334 rfl (i := 1) rfl ?_
  refine lawCase (as := []) (pr_text h hk) hk hu1 hu2 dL_law_335 mt_X9_text ml_L_23 mi_X9_text rl_X9_text rfl dL_law_339 mt_X10_text ml_L_27 mi_X10_text rl_X10_text rfl ⟨Nat.le_of_ble_eq_true rfl, Nat.le_of_ble_eq_true rfl⟩ jas0 (fun x G1 I1 u q => ?_) dL_law_342 (by decide) ih
  refine y_aload_n (K := kL) dL_law_338 rfl (i := 2) rfl ?_
  exact q
theorem rl_X9_rules : jRm kL kX9_rules 0 := ⟨by decide +kernel, Nat.le_of_ble_eq_true rfl, Nat.le_of_ble_eq_true rfl⟩
theorem rl_X10_rules : jRm kL kX10_rules 0 := ⟨by decide +kernel, Nat.le_of_ble_eq_true rfl, Nat.le_of_ble_eq_true rfl⟩
theorem lc_3 (H : lA L k n G I u1 u2) (ih : lNx E b L k xs n) : jOy E (lX E b L xs) kL 347 (lls b n) [] G I (u1, u2) lQ := by
  obtain ⟨h, hk, hn, hL, hu1, hu2⟩ := H
  refine y_aload_n (K := kL) dL_law_347 rfl (i := 1) rfl ?_
  refine lawCase (as := []) (pr_rules h hk) hk hu1 hu2 dL_law_348 mt_X9_rules ml_L_28 mi_X9_rules rl_X9_rules rfl dL_law_352 mt_X10_rules ml_L_31 mi_X10_rules rl_X10_rules rfl ⟨Nat.le_of_ble_eq_true rfl, Nat.le_of_ble_eq_true rfl⟩ jas0 (fun x G1 I1 u q => ?_) dL_law_355 (by decide) ih
  refine y_aload_n (K := kL) dL_law_351 rfl (i := 2) rfl ?_
  exact q
theorem rl_X9_fault : jRm kL kX9_fault 1 := ⟨by decide +kernel, Nat.le_of_ble_eq_true rfl, Nat.le_of_ble_eq_true rfl⟩
theorem rl_X10_fault : jRm kL kX10_fault 1 := ⟨by decide +kernel, Nat.le_of_ble_eq_true rfl, Nat.le_of_ble_eq_true rfl⟩
theorem lc_4 (H : lA L k n G I u1 u2) (ih : lNx E b L k xs n) : jOy E (lX E b L xs) kL 360 (lls b n) [] G I (u1, u2) lQ := by
  obtain ⟨h, hk, hn, hL, hu1, hu2⟩ := H
  refine y_aload_n (K := kL) dL_law_360 rfl (i := 1) rfl ?_
  refine y_arg (j := 1) dL_law_361 dL_law_362 dL_law_363 dL_law_364 dL_law_365 ⟨by decide, by decide⟩ hn hL ?_
  refine lawCase (as := [VI (xs (n + 1).toNat).toInt]) (pr_fault h hk) hk hu1 hu2 dL_law_366 mt_X9_fault ml_L_32 mi_X9_fault rl_X9_fault rfl dL_law_375 mt_X10_fault ml_L_35 mi_X10_fault rl_X10_fault rfl ⟨Nat.le_of_ble_eq_true rfl, Nat.le_of_ble_eq_true rfl⟩ (jasI (j32_in _) jas0) (fun x G1 I1 u q => ?_) dL_law_378 (by decide) ih
  refine y_aload_n (K := kL) dL_law_369 rfl (i := 2) rfl ?_
  refine y_arg (j := 1) dL_law_370 dL_law_371 dL_law_372 dL_law_373 dL_law_374 ⟨by decide, by decide⟩ hn hL ?_
  exact q
theorem rl_X9_on : jRm kL kX9_on 2 := ⟨by decide +kernel, Nat.le_of_ble_eq_true rfl, Nat.le_of_ble_eq_true rfl⟩
theorem rl_X10_on : jRm kL kX10_on 2 := ⟨by decide +kernel, Nat.le_of_ble_eq_true rfl, Nat.le_of_ble_eq_true rfl⟩
theorem lc_5 (H : lA L k n G I u1 u2) (ih : lNx E b L k xs n) : jOy E (lX E b L xs) kL 383 (lls b n) [] G I (u1, u2) lQ := by
  obtain ⟨h, hk, hn, hL, hu1, hu2⟩ := H
  by_cases z : (xs (n + 2).toNat).toInt = 0
  · refine y_aload_n (K := kL) dL_law_383 rfl (i := 1) rfl ?_
    refine y_arg (j := 1) dL_law_384 dL_law_385 dL_law_386 dL_law_387 dL_law_388 ⟨by decide, by decide⟩ hn hL ?_
    refine y_arg (j := 2) dL_law_389 dL_law_390 dL_law_391 dL_law_392 dL_law_393 ⟨by decide, by decide⟩ hn hL ?_
    refine y_if_eq (K := kL) dL_law_394 (tgt := 401) (by decide) (j32_in _) (fun _ => ?_) (fun q => absurd z q)
    refine y_iconst (K := kL) (n := 0) dL_law_401 ?_
    refine lawCase (as := [VI (xs (n + 1).toNat).toInt, VI 0]) (pr_on h hk (hz := Or.inl rfl)) hk hu1 hu2 dL_law_402 mt_X9_on ml_L_36 mi_X9_on rl_X9_on rfl dL_law_424 mt_X10_on ml_L_40 mi_X10_on rl_X10_on rfl ⟨Nat.le_of_ble_eq_true rfl, Nat.le_of_ble_eq_true rfl⟩ (jasI (j32_in _) (jasI ⟨by decide, by decide⟩ jas0)) (fun x G1 I1 u q => ?_) dL_law_427 (by decide) ih
    refine y_aload_n (K := kL) dL_law_405 rfl (i := 2) rfl ?_
    refine y_arg (j := 1) dL_law_406 dL_law_407 dL_law_408 dL_law_409 dL_law_410 ⟨by decide, by decide⟩ hn hL ?_
    refine y_arg (j := 2) dL_law_411 dL_law_412 dL_law_413 dL_law_414 dL_law_415 ⟨by decide, by decide⟩ hn hL ?_
    refine y_if_eq (K := kL) dL_law_416 (tgt := 423) (by decide) (j32_in _) (fun _ => ?_) (fun q => absurd z q)
    refine y_iconst (K := kL) (n := 0) dL_law_423 ?_
    exact q
  · refine y_aload_n (K := kL) dL_law_383 rfl (i := 1) rfl ?_
    refine y_arg (j := 1) dL_law_384 dL_law_385 dL_law_386 dL_law_387 dL_law_388 ⟨by decide, by decide⟩ hn hL ?_
    refine y_arg (j := 2) dL_law_389 dL_law_390 dL_law_391 dL_law_392 dL_law_393 ⟨by decide, by decide⟩ hn hL ?_
    refine y_if_eq (K := kL) dL_law_394 (tgt := 401) (by decide) (j32_in _) (fun q => absurd q z) (fun _ => ?_)
    refine y_iconst (K := kL) (n := 1) dL_law_397 ?_
    refine y_goto (K := kL) dL_law_398 (tgt := 402) (by decide) ?_
    refine lawCase (as := [VI (xs (n + 1).toNat).toInt, VI 1]) (pr_on h hk (hz := Or.inr rfl)) hk hu1 hu2 dL_law_402 mt_X9_on ml_L_36 mi_X9_on rl_X9_on rfl dL_law_424 mt_X10_on ml_L_40 mi_X10_on rl_X10_on rfl ⟨Nat.le_of_ble_eq_true rfl, Nat.le_of_ble_eq_true rfl⟩ (jasI (j32_in _) (jasI ⟨by decide, by decide⟩ jas0)) (fun x G1 I1 u q => ?_) dL_law_427 (by decide) ih
    refine y_aload_n (K := kL) dL_law_405 rfl (i := 2) rfl ?_
    refine y_arg (j := 1) dL_law_406 dL_law_407 dL_law_408 dL_law_409 dL_law_410 ⟨by decide, by decide⟩ hn hL ?_
    refine y_arg (j := 2) dL_law_411 dL_law_412 dL_law_413 dL_law_414 dL_law_415 ⟨by decide, by decide⟩ hn hL ?_
    refine y_if_eq (K := kL) dL_law_416 (tgt := 423) (by decide) (j32_in _) (fun q => absurd q z) (fun _ => ?_)
    refine y_iconst (K := kL) (n := 1) dL_law_419 ?_
    refine y_goto (K := kL) dL_law_420 (tgt := 424) (by decide) ?_
    exact q
theorem rl_X9_silence : jRm kL kX9_silence 2 := ⟨by decide +kernel, Nat.le_of_ble_eq_true rfl, Nat.le_of_ble_eq_true rfl⟩
theorem rl_X10_silence : jRm kL kX10_silence 2 := ⟨by decide +kernel, Nat.le_of_ble_eq_true rfl, Nat.le_of_ble_eq_true rfl⟩
theorem lc_6 (H : lA L k n G I u1 u2) (ih : lNx E b L k xs n) : jOy E (lX E b L xs) kL 432 (lls b n) [] G I (u1, u2) lQ := by
  obtain ⟨h, hk, hn, hL, hu1, hu2⟩ := H
  refine y_aload_n (K := kL) dL_law_432 rfl (i := 1) rfl ?_
  refine y_arg (j := 1) dL_law_433 dL_law_434 dL_law_435 dL_law_436 dL_law_437 ⟨by decide, by decide⟩ hn hL ?_
  refine y_arg (j := 2) dL_law_438 dL_law_439 dL_law_440 dL_law_441 dL_law_442 ⟨by decide, by decide⟩ hn hL ?_
  refine lawCase (as := [VI (xs (n + 1).toNat).toInt, VI (xs (n + 2).toNat).toInt]) (pr_silence h hk) hk hu1 hu2 dL_law_443 mt_X9_silence ml_L_41 mi_X9_silence rl_X9_silence rfl dL_law_457 mt_X10_silence ml_L_45 mi_X10_silence rl_X10_silence rfl ⟨Nat.le_of_ble_eq_true rfl, Nat.le_of_ble_eq_true rfl⟩ (jasI (j32_in _) (jasI (j32_in _) jas0)) (fun x G1 I1 u q => ?_) dL_law_460 (by decide) ih
  refine y_aload_n (K := kL) dL_law_446 rfl (i := 2) rfl ?_
  refine y_arg (j := 1) dL_law_447 dL_law_448 dL_law_449 dL_law_450 dL_law_451 ⟨by decide, by decide⟩ hn hL ?_
  refine y_arg (j := 2) dL_law_452 dL_law_453 dL_law_454 dL_law_455 dL_law_456 ⟨by decide, by decide⟩ hn hL ?_
  exact q
theorem rl_X9_hear : jRm kL kX9_hear 1 := ⟨by decide +kernel, Nat.le_of_ble_eq_true rfl, Nat.le_of_ble_eq_true rfl⟩
theorem rl_X10_hear : jRm kL kX10_hear 1 := ⟨by decide +kernel, Nat.le_of_ble_eq_true rfl, Nat.le_of_ble_eq_true rfl⟩
theorem lc_7 (H : lA L k n G I u1 u2) (ih : lNx E b L k xs n) : jOy E (lX E b L xs) kL 465 (lls b n) [] G I (u1, u2) lQ := by
  obtain ⟨h, hk, hn, hL, hu1, hu2⟩ := H
  refine y_aload_n (K := kL) dL_law_465 rfl (i := 1) rfl ?_
  refine y_arg (j := 1) dL_law_466 dL_law_467 dL_law_468 dL_law_469 dL_law_470 ⟨by decide, by decide⟩ hn hL ?_
  refine lawCase (as := [VI (xs (n + 1).toNat).toInt]) (pr_hear h hk) hk hu1 hu2 dL_law_471 mt_X9_hear ml_L_46 mi_X9_hear rl_X9_hear rfl dL_law_480 mt_X10_hear ml_L_50 mi_X10_hear rl_X10_hear rfl ⟨Nat.le_of_ble_eq_true rfl, Nat.le_of_ble_eq_true rfl⟩ (jasI (j32_in _) jas0) (fun x G1 I1 u q => ?_) dL_law_483 (by decide) ih
  refine y_aload_n (K := kL) dL_law_474 rfl (i := 2) rfl ?_
  refine y_arg (j := 1) dL_law_475 dL_law_476 dL_law_477 dL_law_478 dL_law_479 ⟨by decide, by decide⟩ hn hL ?_
  exact q
theorem rl_X9_measure : jRm kL kX9_measure 1 := ⟨by decide +kernel, Nat.le_of_ble_eq_true rfl, Nat.le_of_ble_eq_true rfl⟩
theorem rl_X10_measure : jRm kL kX10_measure 1 := ⟨by decide +kernel, Nat.le_of_ble_eq_true rfl, Nat.le_of_ble_eq_true rfl⟩
theorem lc_8 (H : lA L k n G I u1 u2) (ih : lNx E b L k xs n) : jOy E (lX E b L xs) kL 488 (lls b n) [] G I (u1, u2) lQ := by
  obtain ⟨h, hk, hn, hL, hu1, hu2⟩ := H
  refine y_aload_n (K := kL) dL_law_488 rfl (i := 1) rfl ?_
  refine y_arg (j := 1) dL_law_489 dL_law_490 dL_law_491 dL_law_492 dL_law_493 ⟨by decide, by decide⟩ hn hL ?_
  refine lawCase (as := [VI (xs (n + 1).toNat).toInt]) (pr_measure h hk) hk hu1 hu2 dL_law_494 mt_X9_measure ml_L_51 mi_X9_measure rl_X9_measure rfl dL_law_503 mt_X10_measure ml_L_54 mi_X10_measure rl_X10_measure rfl ⟨Nat.le_of_ble_eq_true rfl, Nat.le_of_ble_eq_true rfl⟩ (jasI (j32_in _) jas0) (fun x G1 I1 u q => ?_) dL_law_506 (by decide) ih
  refine y_aload_n (K := kL) dL_law_497 rfl (i := 2) rfl ?_
  refine y_arg (j := 1) dL_law_498 dL_law_499 dL_law_500 dL_law_501 dL_law_502 ⟨by decide, by decide⟩ hn hL ?_
  exact q
theorem rl_X9_most : jRm kL kX9_most 1 := ⟨by decide +kernel, Nat.le_of_ble_eq_true rfl, Nat.le_of_ble_eq_true rfl⟩
theorem rl_X10_most : jRm kL kX10_most 1 := ⟨by decide +kernel, Nat.le_of_ble_eq_true rfl, Nat.le_of_ble_eq_true rfl⟩
theorem lc_9 (H : lA L k n G I u1 u2) (ih : lNx E b L k xs n) : jOy E (lX E b L xs) kL 511 (lls b n) [] G I (u1, u2) lQ := by
  obtain ⟨h, hk, hn, hL, hu1, hu2⟩ := H
  refine y_aload_n (K := kL) dL_law_511 rfl (i := 1) rfl ?_
  refine y_arg (j := 1) dL_law_512 dL_law_513 dL_law_514 dL_law_515 dL_law_516 ⟨by decide, by decide⟩ hn hL ?_
  refine lawCase (as := [VI (xs (n + 1).toNat).toInt]) (pr_most h hk) hk hu1 hu2 dL_law_517 mt_X9_most ml_L_55 mi_X9_most rl_X9_most rfl dL_law_526 mt_X10_most ml_L_58 mi_X10_most rl_X10_most rfl ⟨Nat.le_of_ble_eq_true rfl, Nat.le_of_ble_eq_true rfl⟩ (jasI (j32_in _) jas0) (fun x G1 I1 u q => ?_) dL_law_529 (by decide) ih
  refine y_aload_n (K := kL) dL_law_520 rfl (i := 2) rfl ?_
  refine y_arg (j := 1) dL_law_521 dL_law_522 dL_law_523 dL_law_524 dL_law_525 ⟨by decide, by decide⟩ hn hL ?_
  exact q
theorem rl_X9_put : jRm kL kX9_put 2 := ⟨by decide +kernel, Nat.le_of_ble_eq_true rfl, Nat.le_of_ble_eq_true rfl⟩
theorem rl_X10_put : jRm kL kX10_put 2 := ⟨by decide +kernel, Nat.le_of_ble_eq_true rfl, Nat.le_of_ble_eq_true rfl⟩
theorem lc_10 (H : lA L k n G I u1 u2) (ih : lNx E b L k xs n) : jOy E (lX E b L xs) kL 534 (lls b n) [] G I (u1, u2) lQ := by
  obtain ⟨h, hk, hn, hL, hu1, hu2⟩ := H
  refine y_aload_n (K := kL) dL_law_534 rfl (i := 1) rfl ?_
  refine y_arg (j := 1) dL_law_535 dL_law_536 dL_law_537 dL_law_538 dL_law_539 ⟨by decide, by decide⟩ hn hL ?_
  refine y_arg (j := 2) dL_law_540 dL_law_541 dL_law_542 dL_law_543 dL_law_544 ⟨by decide, by decide⟩ hn hL ?_
  refine lawCase (as := [VI (xs (n + 1).toNat).toInt, VI (xs (n + 2).toNat).toInt]) (pr_put h hk) hk hu1 hu2 dL_law_545 mt_X9_put ml_L_59 mi_X9_put rl_X9_put rfl dL_law_559 mt_X10_put ml_L_63 mi_X10_put rl_X10_put rfl ⟨Nat.le_of_ble_eq_true rfl, Nat.le_of_ble_eq_true rfl⟩ (jasI (j32_in _) (jasI (j32_in _) jas0)) (fun x G1 I1 u q => ?_) dL_law_562 (by decide) ih
  refine y_aload_n (K := kL) dL_law_548 rfl (i := 2) rfl ?_
  refine y_arg (j := 1) dL_law_549 dL_law_550 dL_law_551 dL_law_552 dL_law_553 ⟨by decide, by decide⟩ hn hL ?_
  refine y_arg (j := 2) dL_law_554 dL_law_555 dL_law_556 dL_law_557 dL_law_558 ⟨by decide, by decide⟩ hn hL ?_
  exact q
theorem rl_X9_yields : jRm kL kX9_yields 2 := ⟨by decide +kernel, Nat.le_of_ble_eq_true rfl, Nat.le_of_ble_eq_true rfl⟩
theorem rl_X10_yields : jRm kL kX10_yields 2 := ⟨by decide +kernel, Nat.le_of_ble_eq_true rfl, Nat.le_of_ble_eq_true rfl⟩
theorem lc_11 (H : lA L k n G I u1 u2) (ih : lNx E b L k xs n) : jOy E (lX E b L xs) kL 567 (lls b n) [] G I (u1, u2) lQ := by
  obtain ⟨h, hk, hn, hL, hu1, hu2⟩ := H
  refine y_aload_n (K := kL) dL_law_567 rfl (i := 1) rfl ?_
  refine y_arg (j := 1) dL_law_568 dL_law_569 dL_law_570 dL_law_571 dL_law_572 ⟨by decide, by decide⟩ hn hL ?_
  refine y_arg (j := 2) dL_law_573 dL_law_574 dL_law_575 dL_law_576 dL_law_577 ⟨by decide, by decide⟩ hn hL ?_
  refine lawCase (as := [VI (xs (n + 1).toNat).toInt, VI (xs (n + 2).toNat).toInt]) (pr_yields h hk) hk hu1 hu2 dL_law_578 mt_X9_yields ml_L_64 mi_X9_yields rl_X9_yields rfl dL_law_592 mt_X10_yields ml_L_67 mi_X10_yields rl_X10_yields rfl ⟨Nat.le_of_ble_eq_true rfl, Nat.le_of_ble_eq_true rfl⟩ (jasI (j32_in _) (jasI (j32_in _) jas0)) (fun x G1 I1 u q => ?_) dL_law_595 (by decide) ih
  refine y_aload_n (K := kL) dL_law_581 rfl (i := 2) rfl ?_
  refine y_arg (j := 1) dL_law_582 dL_law_583 dL_law_584 dL_law_585 dL_law_586 ⟨by decide, by decide⟩ hn hL ?_
  refine y_arg (j := 2) dL_law_587 dL_law_588 dL_law_589 dL_law_590 dL_law_591 ⟨by decide, by decide⟩ hn hL ?_
  exact q
theorem rl_X9_insist : jRm kL kX9_insist 0 := ⟨by decide +kernel, Nat.le_of_ble_eq_true rfl, Nat.le_of_ble_eq_true rfl⟩
theorem rl_X10_insist : jRm kL kX10_insist 0 := ⟨by decide +kernel, Nat.le_of_ble_eq_true rfl, Nat.le_of_ble_eq_true rfl⟩
theorem lc_12 (H : lA L k n G I u1 u2) (ih : lNx E b L k xs n) : jOy E (lX E b L xs) kL 600 (lls b n) [] G I (u1, u2) lQ := by
  obtain ⟨h, hk, hn, hL, hu1, hu2⟩ := H
  refine y_aload_n (K := kL) dL_law_600 rfl (i := 1) rfl ?_
  refine lawCase (as := []) (pr_insist h hk) hk hu1 hu2 dL_law_601 mt_X9_insist ml_L_68 mi_X9_insist rl_X9_insist rfl dL_law_605 mt_X10_insist ml_L_71 mi_X10_insist rl_X10_insist rfl ⟨Nat.le_of_ble_eq_true rfl, Nat.le_of_ble_eq_true rfl⟩ jas0 (fun x G1 I1 u q => ?_) dL_law_608 (by decide) ih
  refine y_aload_n (K := kL) dL_law_604 rfl (i := 2) rfl ?_
  exact q
theorem rl_X9_apply : jRm kL kX9_apply 1 := ⟨by decide +kernel, Nat.le_of_ble_eq_true rfl, Nat.le_of_ble_eq_true rfl⟩
theorem rl_X10_apply : jRm kL kX10_apply 1 := ⟨by decide +kernel, Nat.le_of_ble_eq_true rfl, Nat.le_of_ble_eq_true rfl⟩
theorem lc_13 (H : lA L k n G I u1 u2) (ih : lNx E b L k xs n) : jOy E (lX E b L xs) kL 613 (lls b n) [] G I (u1, u2) lQ := by
  obtain ⟨h, hk, hn, hL, hu1, hu2⟩ := H
  refine y_aload_n (K := kL) dL_law_613 rfl (i := 1) rfl ?_
  refine y_arg (j := 1) dL_law_614 dL_law_615 dL_law_616 dL_law_617 dL_law_618 ⟨by decide, by decide⟩ hn hL ?_
  refine lawCase (as := [VI (xs (n + 1).toNat).toInt]) (pr_apply h hk) hk hu1 hu2 dL_law_619 mt_X9_apply ml_L_72 mi_X9_apply rl_X9_apply rfl dL_law_628 mt_X10_apply ml_L_75 mi_X10_apply rl_X10_apply rfl ⟨Nat.le_of_ble_eq_true rfl, Nat.le_of_ble_eq_true rfl⟩ (jasI (j32_in _) jas0) (fun x G1 I1 u q => ?_) dL_law_631 (by decide) ih
  refine y_aload_n (K := kL) dL_law_622 rfl (i := 2) rfl ?_
  refine y_arg (j := 1) dL_law_623 dL_law_624 dL_law_625 dL_law_626 dL_law_627 ⟨by decide, by decide⟩ hn hL ?_
  exact q
theorem rl_X9_make : jRm kL kX9_make 1 := ⟨by decide +kernel, Nat.le_of_ble_eq_true rfl, Nat.le_of_ble_eq_true rfl⟩
theorem rl_X10_make : jRm kL kX10_make 1 := ⟨by decide +kernel, Nat.le_of_ble_eq_true rfl, Nat.le_of_ble_eq_true rfl⟩
theorem lc_14 (H : lA L k n G I u1 u2) (ih : lNx E b L k xs n) : jOy E (lX E b L xs) kL 636 (lls b n) [] G I (u1, u2) lQ := by
  obtain ⟨h, hk, hn, hL, hu1, hu2⟩ := H
  refine y_aload_n (K := kL) dL_law_636 rfl (i := 1) rfl ?_
  refine y_arg (j := 1) dL_law_637 dL_law_638 dL_law_639 dL_law_640 dL_law_641 ⟨by decide, by decide⟩ hn hL ?_
  refine lawCase (as := [VI (xs (n + 1).toNat).toInt]) (pr_make h hk) hk hu1 hu2 dL_law_642 mt_X9_make ml_L_76 mi_X9_make rl_X9_make rfl dL_law_651 mt_X10_make ml_L_79 mi_X10_make rl_X10_make rfl ⟨Nat.le_of_ble_eq_true rfl, Nat.le_of_ble_eq_true rfl⟩ (jasI (j32_in _) jas0) (fun x G1 I1 u q => ?_) dL_law_654 (by decide) ih
  refine y_aload_n (K := kL) dL_law_645 rfl (i := 2) rfl ?_
  refine y_arg (j := 1) dL_law_646 dL_law_647 dL_law_648 dL_law_649 dL_law_650 ⟨by decide, by decide⟩ hn hL ?_
  exact q
theorem rl_X9_undo : jRm kL kX9_undo 0 := ⟨by decide +kernel, Nat.le_of_ble_eq_true rfl, Nat.le_of_ble_eq_true rfl⟩
theorem rl_X10_undo : jRm kL kX10_undo 0 := ⟨by decide +kernel, Nat.le_of_ble_eq_true rfl, Nat.le_of_ble_eq_true rfl⟩
theorem lc_15 (H : lA L k n G I u1 u2) (ih : lNx E b L k xs n) : jOy E (lX E b L xs) kL 659 (lls b n) [] G I (u1, u2) lQ := by
  obtain ⟨h, hk, hn, hL, hu1, hu2⟩ := H
  refine y_aload_n (K := kL) dL_law_659 rfl (i := 1) rfl ?_
  refine lawCase (as := []) (pr_undo h hk) hk hu1 hu2 dL_law_660 mt_X9_undo ml_L_80 mi_X9_undo rl_X9_undo rfl dL_law_664 mt_X10_undo ml_L_83 mi_X10_undo rl_X10_undo rfl ⟨Nat.le_of_ble_eq_true rfl, Nat.le_of_ble_eq_true rfl⟩ jas0 (fun x G1 I1 u q => ?_) dL_law_667 (by decide) ih
  refine y_aload_n (K := kL) dL_law_663 rfl (i := 2) rfl ?_
  exact q
theorem rl_X9_is : jRm kL kX9_is 1 := ⟨by decide +kernel, Nat.le_of_ble_eq_true rfl, Nat.le_of_ble_eq_true rfl⟩
theorem rl_X10_is : jRm kL kX10_is 1 := ⟨by decide +kernel, Nat.le_of_ble_eq_true rfl, Nat.le_of_ble_eq_true rfl⟩
theorem lc_16 (H : lA L k n G I u1 u2) (ih : lNx E b L k xs n) : jOy E (lX E b L xs) kL 672 (lls b n) [] G I (u1, u2) lQ := by
  obtain ⟨h, hk, hn, hL, hu1, hu2⟩ := H
  refine y_aload_n (K := kL) dL_law_672 rfl (i := 1) rfl ?_
  refine y_arg (j := 1) dL_law_673 dL_law_674 dL_law_675 dL_law_676 dL_law_677 ⟨by decide, by decide⟩ hn hL ?_
  refine lawCase (as := [VI (xs (n + 1).toNat).toInt]) (pr_is h hk) hk hu1 hu2 dL_law_678 mt_X9_is ml_L_84 mi_X9_is rl_X9_is rfl dL_law_687 mt_X10_is ml_L_87 mi_X10_is rl_X10_is rfl ⟨Nat.le_of_ble_eq_true rfl, Nat.le_of_ble_eq_true rfl⟩ (jasI (j32_in _) jas0) (fun x G1 I1 u q => ?_) dL_law_690 (by decide) ih
  refine y_aload_n (K := kL) dL_law_681 rfl (i := 2) rfl ?_
  refine y_arg (j := 1) dL_law_682 dL_law_683 dL_law_684 dL_law_685 dL_law_686 ⟨by decide, by decide⟩ hn hL ?_
  exact q
theorem rl_X9_at : jRm kL kX9_at 1 := ⟨by decide +kernel, Nat.le_of_ble_eq_true rfl, Nat.le_of_ble_eq_true rfl⟩
theorem rl_X10_at : jRm kL kX10_at 1 := ⟨by decide +kernel, Nat.le_of_ble_eq_true rfl, Nat.le_of_ble_eq_true rfl⟩
theorem lc_17 (H : lA L k n G I u1 u2) (ih : lNx E b L k xs n) : jOy E (lX E b L xs) kL 695 (lls b n) [] G I (u1, u2) lQ := by
  obtain ⟨h, hk, hn, hL, hu1, hu2⟩ := H
  refine y_aload_n (K := kL) dL_law_695 rfl (i := 1) rfl ?_
  refine y_arg (j := 1) dL_law_696 dL_law_697 dL_law_698 dL_law_699 dL_law_700 ⟨by decide, by decide⟩ hn hL ?_
  refine lawCase (as := [VI (xs (n + 1).toNat).toInt]) (pr_at h hk) hk hu1 hu2 dL_law_701 mt_X9_at ml_L_88 mi_X9_at rl_X9_at rfl dL_law_710 mt_X10_at ml_L_91 mi_X10_at rl_X10_at rfl ⟨Nat.le_of_ble_eq_true rfl, Nat.le_of_ble_eq_true rfl⟩ (jasI (j32_in _) jas0) (fun x G1 I1 u q => ?_) dL_law_713 (by decide) ih
  refine y_aload_n (K := kL) dL_law_704 rfl (i := 2) rfl ?_
  refine y_arg (j := 1) dL_law_705 dL_law_706 dL_law_707 dL_law_708 dL_law_709 ⟨by decide, by decide⟩ hn hL ?_
  exact q
theorem rl_X9_token : jRm kL kX9_token 2 := ⟨by decide +kernel, Nat.le_of_ble_eq_true rfl, Nat.le_of_ble_eq_true rfl⟩
theorem rl_X10_token : jRm kL kX10_token 2 := ⟨by decide +kernel, Nat.le_of_ble_eq_true rfl, Nat.le_of_ble_eq_true rfl⟩
theorem lc_18 (H : lA L k n G I u1 u2) (ih : lNx E b L k xs n) : jOy E (lX E b L xs) kL 718 (lls b n) [] G I (u1, u2) lQ := by
  obtain ⟨h, hk, hn, hL, hu1, hu2⟩ := H
  refine y_aload_n (K := kL) dL_law_718 rfl (i := 1) rfl ?_
  refine y_arg (j := 1) dL_law_719 dL_law_720 dL_law_721 dL_law_722 dL_law_723 ⟨by decide, by decide⟩ hn hL ?_
  refine y_arg (j := 2) dL_law_724 dL_law_725 dL_law_726 dL_law_727 dL_law_728 ⟨by decide, by decide⟩ hn hL ?_
  refine lawCase (as := [VI (xs (n + 1).toNat).toInt, VI (xs (n + 2).toNat).toInt]) (pr_token h hk) hk hu1 hu2 dL_law_729 mt_X9_token ml_L_92 mi_X9_token rl_X9_token rfl dL_law_743 mt_X10_token ml_L_95 mi_X10_token rl_X10_token rfl ⟨Nat.le_of_ble_eq_true rfl, Nat.le_of_ble_eq_true rfl⟩ (jasI (j32_in _) (jasI (j32_in _) jas0)) (fun x G1 I1 u q => ?_) dL_law_746 (by decide) ih
  refine y_aload_n (K := kL) dL_law_732 rfl (i := 2) rfl ?_
  refine y_arg (j := 1) dL_law_733 dL_law_734 dL_law_735 dL_law_736 dL_law_737 ⟨by decide, by decide⟩ hn hL ?_
  refine y_arg (j := 2) dL_law_738 dL_law_739 dL_law_740 dL_law_741 dL_law_742 ⟨by decide, by decide⟩ hn hL ?_
  exact q
theorem rl_X9_tokenAt : jRm kL kX9_tokenAt 1 := ⟨by decide +kernel, Nat.le_of_ble_eq_true rfl, Nat.le_of_ble_eq_true rfl⟩
theorem rl_X10_tokenAt : jRm kL kX10_tokenAt 1 := ⟨by decide +kernel, Nat.le_of_ble_eq_true rfl, Nat.le_of_ble_eq_true rfl⟩
theorem lc_19 (H : lA L k n G I u1 u2) (ih : lNx E b L k xs n) : jOy E (lX E b L xs) kL 751 (lls b n) [] G I (u1, u2) lQ := by
  obtain ⟨h, hk, hn, hL, hu1, hu2⟩ := H
  refine y_aload_n (K := kL) dL_law_751 rfl (i := 1) rfl ?_
  refine y_arg (j := 1) dL_law_752 dL_law_753 dL_law_754 dL_law_755 dL_law_756 ⟨by decide, by decide⟩ hn hL ?_
  refine lawCase (as := [VI (xs (n + 1).toNat).toInt]) (pr_tokenAt h hk) hk hu1 hu2 dL_law_757 mt_X9_tokenAt ml_L_96 mi_X9_tokenAt rl_X9_tokenAt rfl dL_law_766 mt_X10_tokenAt ml_L_99 mi_X10_tokenAt rl_X10_tokenAt rfl ⟨Nat.le_of_ble_eq_true rfl, Nat.le_of_ble_eq_true rfl⟩ (jasI (j32_in _) jas0) (fun x G1 I1 u q => ?_) dL_law_769 (by decide) ih
  refine y_aload_n (K := kL) dL_law_760 rfl (i := 2) rfl ?_
  refine y_arg (j := 1) dL_law_761 dL_law_762 dL_law_763 dL_law_764 dL_law_765 ⟨by decide, by decide⟩ hn hL ?_
  exact q
theorem rl_X9_rule : jRm kL kX9_rule 2 := ⟨by decide +kernel, Nat.le_of_ble_eq_true rfl, Nat.le_of_ble_eq_true rfl⟩
theorem rl_X10_rule : jRm kL kX10_rule 2 := ⟨by decide +kernel, Nat.le_of_ble_eq_true rfl, Nat.le_of_ble_eq_true rfl⟩
theorem lc_20 (H : lA L k n G I u1 u2) (ih : lNx E b L k xs n) : jOy E (lX E b L xs) kL 774 (lls b n) [] G I (u1, u2) lQ := by
  obtain ⟨h, hk, hn, hL, hu1, hu2⟩ := H
  refine y_aload_n (K := kL) dL_law_774 rfl (i := 1) rfl ?_
  refine y_arg (j := 1) dL_law_775 dL_law_776 dL_law_777 dL_law_778 dL_law_779 ⟨by decide, by decide⟩ hn hL ?_
  refine y_arg (j := 2) dL_law_780 dL_law_781 dL_law_782 dL_law_783 dL_law_784 ⟨by decide, by decide⟩ hn hL ?_
  refine lawCase (as := [VI (xs (n + 1).toNat).toInt, VI (xs (n + 2).toNat).toInt]) (pr_rule h hk) hk hu1 hu2 dL_law_785 mt_X9_rule ml_L_100 mi_X9_rule rl_X9_rule rfl dL_law_799 mt_X10_rule ml_L_103 mi_X10_rule rl_X10_rule rfl ⟨Nat.le_of_ble_eq_true rfl, Nat.le_of_ble_eq_true rfl⟩ (jasI (j32_in _) (jasI (j32_in _) jas0)) (fun x G1 I1 u q => ?_) dL_law_802 (by decide) ih
  refine y_aload_n (K := kL) dL_law_788 rfl (i := 2) rfl ?_
  refine y_arg (j := 1) dL_law_789 dL_law_790 dL_law_791 dL_law_792 dL_law_793 ⟨by decide, by decide⟩ hn hL ?_
  refine y_arg (j := 2) dL_law_794 dL_law_795 dL_law_796 dL_law_797 dL_law_798 ⟨by decide, by decide⟩ hn hL ?_
  exact q
theorem rl_X9_fits : jRm kL kX9_fits 2 := ⟨by decide +kernel, Nat.le_of_ble_eq_true rfl, Nat.le_of_ble_eq_true rfl⟩
theorem rl_X10_fits : jRm kL kX10_fits 2 := ⟨by decide +kernel, Nat.le_of_ble_eq_true rfl, Nat.le_of_ble_eq_true rfl⟩
theorem lc_21 (H : lA L k n G I u1 u2) (ih : lNx E b L k xs n) : jOy E (lX E b L xs) kL 807 (lls b n) [] G I (u1, u2) lQ := by
  obtain ⟨h, hk, hn, hL, hu1, hu2⟩ := H
  refine y_aload_n (K := kL) dL_law_807 rfl (i := 1) rfl ?_
  refine y_arg (j := 1) dL_law_808 dL_law_809 dL_law_810 dL_law_811 dL_law_812 ⟨by decide, by decide⟩ hn hL ?_
  refine y_arg (j := 2) dL_law_813 dL_law_814 dL_law_815 dL_law_816 dL_law_817 ⟨by decide, by decide⟩ hn hL ?_
  refine lawCase (as := [VI (xs (n + 1).toNat).toInt, VI (xs (n + 2).toNat).toInt]) (pr_fits h hk) hk hu1 hu2 dL_law_818 mt_X9_fits ml_L_104 mi_X9_fits rl_X9_fits rfl dL_law_832 mt_X10_fits ml_L_107 mi_X10_fits rl_X10_fits rfl ⟨Nat.le_of_ble_eq_true rfl, Nat.le_of_ble_eq_true rfl⟩ (jasI (j32_in _) (jasI (j32_in _) jas0)) (fun x G1 I1 u q => ?_) dL_law_835 (by decide) ih
  refine y_aload_n (K := kL) dL_law_821 rfl (i := 2) rfl ?_
  refine y_arg (j := 1) dL_law_822 dL_law_823 dL_law_824 dL_law_825 dL_law_826 ⟨by decide, by decide⟩ hn hL ?_
  refine y_arg (j := 2) dL_law_827 dL_law_828 dL_law_829 dL_law_830 dL_law_831 ⟨by decide, by decide⟩ hn hL ?_
  exact q
theorem rl_X9_finding : jRm kL kX9_finding 2 := ⟨by decide +kernel, Nat.le_of_ble_eq_true rfl, Nat.le_of_ble_eq_true rfl⟩
theorem rl_X10_finding : jRm kL kX10_finding 2 := ⟨by decide +kernel, Nat.le_of_ble_eq_true rfl, Nat.le_of_ble_eq_true rfl⟩
theorem lc_22 (H : lA L k n G I u1 u2) (ih : lNx E b L k xs n) : jOy E (lX E b L xs) kL 840 (lls b n) [] G I (u1, u2) lQ := by
  obtain ⟨h, hk, hn, hL, hu1, hu2⟩ := H
  refine y_aload_n (K := kL) dL_law_840 rfl (i := 1) rfl ?_
  refine y_arg (j := 1) dL_law_841 dL_law_842 dL_law_843 dL_law_844 dL_law_845 ⟨by decide, by decide⟩ hn hL ?_
  refine y_arg (j := 2) dL_law_846 dL_law_847 dL_law_848 dL_law_849 dL_law_850 ⟨by decide, by decide⟩ hn hL ?_
  refine lawCase (as := [VI (xs (n + 1).toNat).toInt, VI (xs (n + 2).toNat).toInt]) (pr_finding h hk) hk hu1 hu2 dL_law_851 mt_X9_finding ml_L_108 mi_X9_finding rl_X9_finding rfl dL_law_865 mt_X10_finding ml_L_111 mi_X10_finding rl_X10_finding rfl ⟨Nat.le_of_ble_eq_true rfl, Nat.le_of_ble_eq_true rfl⟩ (jasI (j32_in _) (jasI (j32_in _) jas0)) (fun x G1 I1 u q => ?_) dL_law_868 (by decide) ih
  refine y_aload_n (K := kL) dL_law_854 rfl (i := 2) rfl ?_
  refine y_arg (j := 1) dL_law_855 dL_law_856 dL_law_857 dL_law_858 dL_law_859 ⟨by decide, by decide⟩ hn hL ?_
  refine y_arg (j := 2) dL_law_860 dL_law_861 dL_law_862 dL_law_863 dL_law_864 ⟨by decide, by decide⟩ hn hL ?_
  exact q
theorem rl_X9_fresh : jRm kL kX9_fresh 2 := ⟨by decide +kernel, Nat.le_of_ble_eq_true rfl, Nat.le_of_ble_eq_true rfl⟩
theorem rl_X10_fresh : jRm kL kX10_fresh 2 := ⟨by decide +kernel, Nat.le_of_ble_eq_true rfl, Nat.le_of_ble_eq_true rfl⟩
theorem lc_23 (H : lA L k n G I u1 u2) (ih : lNx E b L k xs n) : jOy E (lX E b L xs) kL 873 (lls b n) [] G I (u1, u2) lQ := by
  obtain ⟨h, hk, hn, hL, hu1, hu2⟩ := H
  refine y_aload_n (K := kL) dL_law_873 rfl (i := 1) rfl ?_
  refine y_arg (j := 1) dL_law_874 dL_law_875 dL_law_876 dL_law_877 dL_law_878 ⟨by decide, by decide⟩ hn hL ?_
  refine y_arg (j := 2) dL_law_879 dL_law_880 dL_law_881 dL_law_882 dL_law_883 ⟨by decide, by decide⟩ hn hL ?_
  refine lawCase (as := [VI (xs (n + 1).toNat).toInt, VI (xs (n + 2).toNat).toInt]) (pr_fresh h hk) hk hu1 hu2 dL_law_884 mt_X9_fresh ml_L_112 mi_X9_fresh rl_X9_fresh rfl dL_law_898 mt_X10_fresh ml_L_115 mi_X10_fresh rl_X10_fresh rfl ⟨Nat.le_of_ble_eq_true rfl, Nat.le_of_ble_eq_true rfl⟩ (jasI (j32_in _) (jasI (j32_in _) jas0)) (fun x G1 I1 u q => ?_) dL_law_901 (by decide) ih
  refine y_aload_n (K := kL) dL_law_887 rfl (i := 2) rfl ?_
  refine y_arg (j := 1) dL_law_888 dL_law_889 dL_law_890 dL_law_891 dL_law_892 ⟨by decide, by decide⟩ hn hL ?_
  refine y_arg (j := 2) dL_law_893 dL_law_894 dL_law_895 dL_law_896 dL_law_897 ⟨by decide, by decide⟩ hn hL ?_
  exact q
theorem rl_X9_clashes : jRm kL kX9_clashes 1 := ⟨by decide +kernel, Nat.le_of_ble_eq_true rfl, Nat.le_of_ble_eq_true rfl⟩
theorem rl_X10_clashes : jRm kL kX10_clashes 1 := ⟨by decide +kernel, Nat.le_of_ble_eq_true rfl, Nat.le_of_ble_eq_true rfl⟩
theorem lc_24 (H : lA L k n G I u1 u2) (ih : lNx E b L k xs n) : jOy E (lX E b L xs) kL 906 (lls b n) [] G I (u1, u2) lQ := by
  obtain ⟨h, hk, hn, hL, hu1, hu2⟩ := H
  refine y_aload_n (K := kL) dL_law_906 rfl (i := 1) rfl ?_
  refine y_arg (j := 1) dL_law_907 dL_law_908 dL_law_909 dL_law_910 dL_law_911 ⟨by decide, by decide⟩ hn hL ?_
  refine lawCase (as := [VI (xs (n + 1).toNat).toInt]) (pr_clashes h hk) hk hu1 hu2 dL_law_912 mt_X9_clashes ml_L_116 mi_X9_clashes rl_X9_clashes rfl dL_law_921 mt_X10_clashes ml_L_119 mi_X10_clashes rl_X10_clashes rfl ⟨Nat.le_of_ble_eq_true rfl, Nat.le_of_ble_eq_true rfl⟩ (jasI (j32_in _) jas0) (fun x G1 I1 u q => ?_) dL_law_924 (by decide) ih
  refine y_aload_n (K := kL) dL_law_915 rfl (i := 2) rfl ?_
  refine y_arg (j := 1) dL_law_916 dL_law_917 dL_law_918 dL_law_919 dL_law_920 ⟨by decide, by decide⟩ hn hL ?_
  exact q
theorem rl_X9_set : jRm kL kX9_set 1 := ⟨by decide +kernel, Nat.le_of_ble_eq_true rfl, Nat.le_of_ble_eq_true rfl⟩
theorem rl_X10_set : jRm kL kX10_set 1 := ⟨by decide +kernel, Nat.le_of_ble_eq_true rfl, Nat.le_of_ble_eq_true rfl⟩
theorem lc_25 (H : lA L k n G I u1 u2) (ih : lNx E b L k xs n) : jOy E (lX E b L xs) kL 929 (lls b n) [] G I (u1, u2) lQ := by
  obtain ⟨h, hk, hn, hL, hu1, hu2⟩ := H
  refine y_aload_n (K := kL) dL_law_929 rfl (i := 1) rfl ?_
  refine y_arg (j := 1) dL_law_930 dL_law_931 dL_law_932 dL_law_933 dL_law_934 ⟨by decide, by decide⟩ hn hL ?_
  refine lawCase (as := [VI (xs (n + 1).toNat).toInt]) (pr_set h hk) hk hu1 hu2 dL_law_935 mt_X9_set ml_L_120 mi_X9_set rl_X9_set rfl dL_law_944 mt_X10_set ml_L_123 mi_X10_set rl_X10_set rfl ⟨Nat.le_of_ble_eq_true rfl, Nat.le_of_ble_eq_true rfl⟩ (jasI (j32_in _) jas0) (fun x G1 I1 u q => ?_) dL_law_947 (by decide) ih
  refine y_aload_n (K := kL) dL_law_938 rfl (i := 2) rfl ?_
  refine y_arg (j := 1) dL_law_939 dL_law_940 dL_law_941 dL_law_942 dL_law_943 ⟨by decide, by decide⟩ hn hL ?_
  exact q
theorem rl_X9_worth : jRm kL kX9_worth 0 := ⟨by decide +kernel, Nat.le_of_ble_eq_true rfl, Nat.le_of_ble_eq_true rfl⟩
theorem rl_X10_worth : jRm kL kX10_worth 0 := ⟨by decide +kernel, Nat.le_of_ble_eq_true rfl, Nat.le_of_ble_eq_true rfl⟩
theorem lc_26 (H : lA L k n G I u1 u2) (ih : lNx E b L k xs n) : jOy E (lX E b L xs) kL 952 (lls b n) [] G I (u1, u2) lQ := by
  obtain ⟨h, hk, hn, hL, hu1, hu2⟩ := H
  refine y_aload_n (K := kL) dL_law_952 rfl (i := 1) rfl ?_
  refine lawCase (as := []) (pr_worth h hk) hk hu1 hu2 dL_law_953 mt_X9_worth ml_L_124 mi_X9_worth rl_X9_worth rfl dL_law_957 mt_X10_worth ml_L_127 mi_X10_worth rl_X10_worth rfl ⟨Nat.le_of_ble_eq_true rfl, Nat.le_of_ble_eq_true rfl⟩ jas0 (fun x G1 I1 u q => ?_) dL_law_960 (by decide) ih
  refine y_aload_n (K := kL) dL_law_956 rfl (i := 2) rfl ?_
  exact q
theorem rl_X9_chosen : jRm kL kX9_chosen 1 := ⟨by decide +kernel, Nat.le_of_ble_eq_true rfl, Nat.le_of_ble_eq_true rfl⟩
theorem rl_X10_chosen : jRm kL kX10_chosen 1 := ⟨by decide +kernel, Nat.le_of_ble_eq_true rfl, Nat.le_of_ble_eq_true rfl⟩
theorem lc_27 (H : lA L k n G I u1 u2) (ih : lNx E b L k xs n) : jOy E (lX E b L xs) kL 965 (lls b n) [] G I (u1, u2) lQ := by
  obtain ⟨h, hk, hn, hL, hu1, hu2⟩ := H
  refine y_aload_n (K := kL) dL_law_965 rfl (i := 1) rfl ?_
  refine y_arg (j := 1) dL_law_966 dL_law_967 dL_law_968 dL_law_969 dL_law_970 ⟨by decide, by decide⟩ hn hL ?_
  refine lawCase (as := [VI (xs (n + 1).toNat).toInt]) (pr_chosen h hk) hk hu1 hu2 dL_law_971 mt_X9_chosen ml_L_128 mi_X9_chosen rl_X9_chosen rfl dL_law_980 mt_X10_chosen ml_L_131 mi_X10_chosen rl_X10_chosen rfl ⟨Nat.le_of_ble_eq_true rfl, Nat.le_of_ble_eq_true rfl⟩ (jasI (j32_in _) jas0) (fun x G1 I1 u q => ?_) dL_law_983 (by decide) ih
  refine y_aload_n (K := kL) dL_law_974 rfl (i := 2) rfl ?_
  refine y_arg (j := 1) dL_law_975 dL_law_976 dL_law_977 dL_law_978 dL_law_979 ⟨by decide, by decide⟩ hn hL ?_
  exact q
theorem rl_X9_without : jRm kL kX9_without 1 := ⟨by decide +kernel, Nat.le_of_ble_eq_true rfl, Nat.le_of_ble_eq_true rfl⟩
theorem rl_X10_without : jRm kL kX10_without 1 := ⟨by decide +kernel, Nat.le_of_ble_eq_true rfl, Nat.le_of_ble_eq_true rfl⟩
theorem lc_28 (H : lA L k n G I u1 u2) (ih : lNx E b L k xs n) : jOy E (lX E b L xs) kL 988 (lls b n) [] G I (u1, u2) lQ := by
  obtain ⟨h, hk, hn, hL, hu1, hu2⟩ := H
  refine y_aload_n (K := kL) dL_law_988 rfl (i := 1) rfl ?_
  refine y_arg (j := 1) dL_law_989 dL_law_990 dL_law_991 dL_law_992 dL_law_993 ⟨by decide, by decide⟩ hn hL ?_
  refine lawCase (as := [VI (xs (n + 1).toNat).toInt]) (pr_without h hk) hk hu1 hu2 dL_law_994 mt_X9_without ml_L_132 mi_X9_without rl_X9_without rfl dL_law_1003 mt_X10_without ml_L_135 mi_X10_without rl_X10_without rfl ⟨Nat.le_of_ble_eq_true rfl, Nat.le_of_ble_eq_true rfl⟩ (jasI (j32_in _) jas0) (fun x G1 I1 u q => ?_) dL_law_1006 (by decide) ih
  refine y_aload_n (K := kL) dL_law_997 rfl (i := 2) rfl ?_
  refine y_arg (j := 1) dL_law_998 dL_law_999 dL_law_1000 dL_law_1001 dL_law_1002 ⟨by decide, by decide⟩ hn hL ?_
  exact q
theorem rl_X9_span : jRm kL kX9_span 2 := ⟨by decide +kernel, Nat.le_of_ble_eq_true rfl, Nat.le_of_ble_eq_true rfl⟩
theorem rl_X10_span : jRm kL kX10_span 2 := ⟨by decide +kernel, Nat.le_of_ble_eq_true rfl, Nat.le_of_ble_eq_true rfl⟩
theorem lc_29 (H : lA L k n G I u1 u2) (ih : lNx E b L k xs n) : jOy E (lX E b L xs) kL 1011 (lls b n) [] G I (u1, u2) lQ := by
  obtain ⟨h, hk, hn, hL, hu1, hu2⟩ := H
  refine y_aload_n (K := kL) dL_law_1011 rfl (i := 1) rfl ?_
  refine y_arg (j := 1) dL_law_1012 dL_law_1013 dL_law_1014 dL_law_1015 dL_law_1016 ⟨by decide, by decide⟩ hn hL ?_
  refine y_arg (j := 2) dL_law_1017 dL_law_1018 dL_law_1019 dL_law_1020 dL_law_1021 ⟨by decide, by decide⟩ hn hL ?_
  refine lawCase (as := [VI (xs (n + 1).toNat).toInt, VI (xs (n + 2).toNat).toInt]) (pr_span h hk) hk hu1 hu2 dL_law_1022 mt_X9_span ml_L_136 mi_X9_span rl_X9_span rfl dL_law_1036 mt_X10_span ml_L_139 mi_X10_span rl_X10_span rfl ⟨Nat.le_of_ble_eq_true rfl, Nat.le_of_ble_eq_true rfl⟩ (jasI (j32_in _) (jasI (j32_in _) jas0)) (fun x G1 I1 u q => ?_) dL_law_1039 (by decide) ih
  refine y_aload_n (K := kL) dL_law_1025 rfl (i := 2) rfl ?_
  refine y_arg (j := 1) dL_law_1026 dL_law_1027 dL_law_1028 dL_law_1029 dL_law_1030 ⟨by decide, by decide⟩ hn hL ?_
  refine y_arg (j := 2) dL_law_1031 dL_law_1032 dL_law_1033 dL_law_1034 dL_law_1035 ⟨by decide, by decide⟩ hn hL ?_
  exact q
theorem rl_X9_silenced : jRm kL kX9_silenced 2 := ⟨by decide +kernel, Nat.le_of_ble_eq_true rfl, Nat.le_of_ble_eq_true rfl⟩
theorem rl_X10_silenced : jRm kL kX10_silenced 2 := ⟨by decide +kernel, Nat.le_of_ble_eq_true rfl, Nat.le_of_ble_eq_true rfl⟩
theorem lc_30 (H : lA L k n G I u1 u2) (ih : lNx E b L k xs n) : jOy E (lX E b L xs) kL 1044 (lls b n) [] G I (u1, u2) lQ := by
  obtain ⟨h, hk, hn, hL, hu1, hu2⟩ := H
  refine y_aload_n (K := kL) dL_law_1044 rfl (i := 1) rfl ?_
  refine y_arg (j := 1) dL_law_1045 dL_law_1046 dL_law_1047 dL_law_1048 dL_law_1049 ⟨by decide, by decide⟩ hn hL ?_
  refine y_arg (j := 2) dL_law_1050 dL_law_1051 dL_law_1052 dL_law_1053 dL_law_1054 ⟨by decide, by decide⟩ hn hL ?_
  refine lawCase (as := [VI (xs (n + 1).toNat).toInt, VI (xs (n + 2).toNat).toInt]) (pr_silenced h hk) hk hu1 hu2 dL_law_1055 mt_X9_silenced ml_L_140 mi_X9_silenced rl_X9_silenced rfl dL_law_1069 mt_X10_silenced ml_L_143 mi_X10_silenced rl_X10_silenced rfl ⟨Nat.le_of_ble_eq_true rfl, Nat.le_of_ble_eq_true rfl⟩ (jasI (j32_in _) (jasI (j32_in _) jas0)) (fun x G1 I1 u q => ?_) dL_law_1072 (by decide) ih
  refine y_aload_n (K := kL) dL_law_1058 rfl (i := 2) rfl ?_
  refine y_arg (j := 1) dL_law_1059 dL_law_1060 dL_law_1061 dL_law_1062 dL_law_1063 ⟨by decide, by decide⟩ hn hL ?_
  refine y_arg (j := 2) dL_law_1064 dL_law_1065 dL_law_1066 dL_law_1067 dL_law_1068 ⟨by decide, by decide⟩ hn hL ?_
  exact q
theorem rl_X9_isSilent : jRm kL kX9_isSilent 1 := ⟨by decide +kernel, Nat.le_of_ble_eq_true rfl, Nat.le_of_ble_eq_true rfl⟩
theorem rl_X10_isSilent : jRm kL kX10_isSilent 1 := ⟨by decide +kernel, Nat.le_of_ble_eq_true rfl, Nat.le_of_ble_eq_true rfl⟩
theorem lc_31 (H : lA L k n G I u1 u2) (ih : lNx E b L k xs n) : jOy E (lX E b L xs) kL 1077 (lls b n) [] G I (u1, u2) lQ := by
  obtain ⟨h, hk, hn, hL, hu1, hu2⟩ := H
  refine y_aload_n (K := kL) dL_law_1077 rfl (i := 1) rfl ?_
  refine y_arg (j := 1) dL_law_1078 dL_law_1079 dL_law_1080 dL_law_1081 dL_law_1082 ⟨by decide, by decide⟩ hn hL ?_
  refine lawCase (as := [VI (xs (n + 1).toNat).toInt]) (pr_isSilent h hk) hk hu1 hu2 dL_law_1083 mt_X9_isSilent ml_L_144 mi_X9_isSilent rl_X9_isSilent rfl dL_law_1092 mt_X10_isSilent ml_L_147 mi_X10_isSilent rl_X10_isSilent rfl ⟨Nat.le_of_ble_eq_true rfl, Nat.le_of_ble_eq_true rfl⟩ (jasI (j32_in _) jas0) (fun x G1 I1 u q => ?_) dL_law_1095 (by decide) ih
  refine y_aload_n (K := kL) dL_law_1086 rfl (i := 2) rfl ?_
  refine y_arg (j := 1) dL_law_1087 dL_law_1088 dL_law_1089 dL_law_1090 dL_law_1091 ⟨by decide, by decide⟩ hn hL ?_
  exact q
theorem rl_X9_yielding : jRm kL kX9_yielding 1 := ⟨by decide +kernel, Nat.le_of_ble_eq_true rfl, Nat.le_of_ble_eq_true rfl⟩
theorem rl_X10_yielding : jRm kL kX10_yielding 1 := ⟨by decide +kernel, Nat.le_of_ble_eq_true rfl, Nat.le_of_ble_eq_true rfl⟩
theorem lc_32 (H : lA L k n G I u1 u2) (ih : lNx E b L k xs n) : jOy E (lX E b L xs) kL 1100 (lls b n) [] G I (u1, u2) lQ := by
  obtain ⟨h, hk, hn, hL, hu1, hu2⟩ := H
  refine y_aload_n (K := kL) dL_law_1100 rfl (i := 1) rfl ?_
  refine y_arg (j := 1) dL_law_1101 dL_law_1102 dL_law_1103 dL_law_1104 dL_law_1105 ⟨by decide, by decide⟩ hn hL ?_
  refine lawCase (as := [VI (xs (n + 1).toNat).toInt]) (pr_yielding h hk) hk hu1 hu2 dL_law_1106 mt_X9_yielding ml_L_148 mi_X9_yielding rl_X9_yielding rfl dL_law_1115 mt_X10_yielding ml_L_151 mi_X10_yielding rl_X10_yielding rfl ⟨Nat.le_of_ble_eq_true rfl, Nat.le_of_ble_eq_true rfl⟩ (jasI (j32_in _) jas0) (fun x G1 I1 u q => ?_) dL_law_1118 (by decide) ih
  refine y_aload_n (K := kL) dL_law_1109 rfl (i := 2) rfl ?_
  refine y_arg (j := 1) dL_law_1110 dL_law_1111 dL_law_1112 dL_law_1113 dL_law_1114 ⟨by decide, by decide⟩ hn hL ?_
  exact q
theorem rl_X9_paint : jRm kL kX9_paint 1 := ⟨by decide +kernel, Nat.le_of_ble_eq_true rfl, Nat.le_of_ble_eq_true rfl⟩
theorem rl_X10_paint : jRm kL kX10_paint 1 := ⟨by decide +kernel, Nat.le_of_ble_eq_true rfl, Nat.le_of_ble_eq_true rfl⟩
theorem lc_33 (H : lA L k n G I u1 u2) (ih : lNx E b L k xs n) : jOy E (lX E b L xs) kL 1123 (lls b n) [] G I (u1, u2) lQ := by
  obtain ⟨h, hk, hn, hL, hu1, hu2⟩ := H
  refine y_aload_n (K := kL) dL_law_1123 rfl (i := 1) rfl ?_
  refine y_arg (j := 1) dL_law_1124 dL_law_1125 dL_law_1126 dL_law_1127 dL_law_1128 ⟨by decide, by decide⟩ hn hL ?_
  refine lawCase (as := [VI (xs (n + 1).toNat).toInt]) (pr_paint h hk) hk hu1 hu2 dL_law_1129 mt_X9_paint ml_L_152 mi_X9_paint rl_X9_paint rfl dL_law_1138 mt_X10_paint ml_L_155 mi_X10_paint rl_X10_paint rfl ⟨Nat.le_of_ble_eq_true rfl, Nat.le_of_ble_eq_true rfl⟩ (jasI (j32_in _) jas0) (fun x G1 I1 u q => ?_) dL_law_1141 (by decide) ih
  refine y_aload_n (K := kL) dL_law_1132 rfl (i := 2) rfl ?_
  refine y_arg (j := 1) dL_law_1133 dL_law_1134 dL_law_1135 dL_law_1136 dL_law_1137 ⟨by decide, by decide⟩ hn hL ?_
  exact q
theorem rl_X9_painted : jRm kL kX9_painted 1 := ⟨by decide +kernel, Nat.le_of_ble_eq_true rfl, Nat.le_of_ble_eq_true rfl⟩
theorem rl_X10_painted : jRm kL kX10_painted 1 := ⟨by decide +kernel, Nat.le_of_ble_eq_true rfl, Nat.le_of_ble_eq_true rfl⟩
theorem lc_34 (H : lA L k n G I u1 u2) (ih : lNx E b L k xs n) : jOy E (lX E b L xs) kL 1146 (lls b n) [] G I (u1, u2) lQ := by
  obtain ⟨h, hk, hn, hL, hu1, hu2⟩ := H
  refine y_aload_n (K := kL) dL_law_1146 rfl (i := 1) rfl ?_
  refine y_arg (j := 1) dL_law_1147 dL_law_1148 dL_law_1149 dL_law_1150 dL_law_1151 ⟨by decide, by decide⟩ hn hL ?_
  refine lawCase (as := [VI (xs (n + 1).toNat).toInt]) (pr_painted h hk) hk hu1 hu2 dL_law_1152 mt_X9_painted ml_L_156 mi_X9_painted rl_X9_painted rfl dL_law_1161 mt_X10_painted ml_L_159 mi_X10_painted rl_X10_painted rfl ⟨Nat.le_of_ble_eq_true rfl, Nat.le_of_ble_eq_true rfl⟩ (jasI (j32_in _) jas0) (fun x G1 I1 u q => ?_) dL_law_1164 (by decide) ih
  refine y_aload_n (K := kL) dL_law_1155 rfl (i := 2) rfl ?_
  refine y_arg (j := 1) dL_law_1156 dL_law_1157 dL_law_1158 dL_law_1159 dL_law_1160 ⟨by decide, by decide⟩ hn hL ?_
  exact q
theorem rl_X9_book : jRm kL kX9_book 2 := ⟨by decide +kernel, Nat.le_of_ble_eq_true rfl, Nat.le_of_ble_eq_true rfl⟩
theorem rl_X10_book : jRm kL kX10_book 2 := ⟨by decide +kernel, Nat.le_of_ble_eq_true rfl, Nat.le_of_ble_eq_true rfl⟩
theorem lc_35 (H : lA L k n G I u1 u2) (ih : lNx E b L k xs n) : jOy E (lX E b L xs) kL 1169 (lls b n) [] G I (u1, u2) lQ := by
  obtain ⟨h, hk, hn, hL, hu1, hu2⟩ := H
  refine y_aload_n (K := kL) dL_law_1169 rfl (i := 1) rfl ?_
  refine y_arg (j := 1) dL_law_1170 dL_law_1171 dL_law_1172 dL_law_1173 dL_law_1174 ⟨by decide, by decide⟩ hn hL ?_
  refine y_arg (j := 2) dL_law_1175 dL_law_1176 dL_law_1177 dL_law_1178 dL_law_1179 ⟨by decide, by decide⟩ hn hL ?_
  refine lawCase (as := [VI (xs (n + 1).toNat).toInt, VI (xs (n + 2).toNat).toInt]) (pr_book h hk) hk hu1 hu2 dL_law_1180 mt_X9_book ml_L_160 mi_X9_book rl_X9_book rfl dL_law_1194 mt_X10_book ml_L_163 mi_X10_book rl_X10_book rfl ⟨Nat.le_of_ble_eq_true rfl, Nat.le_of_ble_eq_true rfl⟩ (jasI (j32_in _) (jasI (j32_in _) jas0)) (fun x G1 I1 u q => ?_) dL_law_1197 (by decide) ih
  refine y_aload_n (K := kL) dL_law_1183 rfl (i := 2) rfl ?_
  refine y_arg (j := 1) dL_law_1184 dL_law_1185 dL_law_1186 dL_law_1187 dL_law_1188 ⟨by decide, by decide⟩ hn hL ?_
  refine y_arg (j := 2) dL_law_1189 dL_law_1190 dL_law_1191 dL_law_1192 dL_law_1193 ⟨by decide, by decide⟩ hn hL ?_
  exact q
theorem rl_X9_common : jRm kL kX9_common 1 := ⟨by decide +kernel, Nat.le_of_ble_eq_true rfl, Nat.le_of_ble_eq_true rfl⟩
theorem rl_X10_common : jRm kL kX10_common 1 := ⟨by decide +kernel, Nat.le_of_ble_eq_true rfl, Nat.le_of_ble_eq_true rfl⟩
theorem lc_36 (H : lA L k n G I u1 u2) (ih : lNx E b L k xs n) : jOy E (lX E b L xs) kL 1202 (lls b n) [] G I (u1, u2) lQ := by
  obtain ⟨h, hk, hn, hL, hu1, hu2⟩ := H
  refine y_aload_n (K := kL) dL_law_1202 rfl (i := 1) rfl ?_
  refine y_arg (j := 1) dL_law_1203 dL_law_1204 dL_law_1205 dL_law_1206 dL_law_1207 ⟨by decide, by decide⟩ hn hL ?_
  refine lawCase (as := [VI (xs (n + 1).toNat).toInt]) (pr_common h hk) hk hu1 hu2 dL_law_1208 mt_X9_common ml_L_164 mi_X9_common rl_X9_common rfl dL_law_1217 mt_X10_common ml_L_167 mi_X10_common rl_X10_common rfl ⟨Nat.le_of_ble_eq_true rfl, Nat.le_of_ble_eq_true rfl⟩ (jasI (j32_in _) jas0) (fun x G1 I1 u q => ?_) dL_law_1220 (by decide) ih
  refine y_aload_n (K := kL) dL_law_1211 rfl (i := 2) rfl ?_
  refine y_arg (j := 1) dL_law_1212 dL_law_1213 dL_law_1214 dL_law_1215 dL_law_1216 ⟨by decide, by decide⟩ hn hL ?_
  exact q
theorem rl_X9_paired : jRm kL kX9_paired 1 := ⟨by decide +kernel, Nat.le_of_ble_eq_true rfl, Nat.le_of_ble_eq_true rfl⟩
theorem rl_X10_paired : jRm kL kX10_paired 1 := ⟨by decide +kernel, Nat.le_of_ble_eq_true rfl, Nat.le_of_ble_eq_true rfl⟩
theorem lc_37 (H : lA L k n G I u1 u2) (ih : lNx E b L k xs n) : jOy E (lX E b L xs) kL 1225 (lls b n) [] G I (u1, u2) lQ := by
  obtain ⟨h, hk, hn, hL, hu1, hu2⟩ := H
  refine y_aload_n (K := kL) dL_law_1225 rfl (i := 1) rfl ?_
  refine y_arg (j := 1) dL_law_1226 dL_law_1227 dL_law_1228 dL_law_1229 dL_law_1230 ⟨by decide, by decide⟩ hn hL ?_
  refine lawCase (as := [VI (xs (n + 1).toNat).toInt]) (pr_paired h hk) hk hu1 hu2 dL_law_1231 mt_X9_paired ml_L_168 mi_X9_paired rl_X9_paired rfl dL_law_1240 mt_X10_paired ml_L_171 mi_X10_paired rl_X10_paired rfl ⟨Nat.le_of_ble_eq_true rfl, Nat.le_of_ble_eq_true rfl⟩ (jasI (j32_in _) jas0) (fun x G1 I1 u q => ?_) dL_law_1243 (by decide) ih
  refine y_aload_n (K := kL) dL_law_1234 rfl (i := 2) rfl ?_
  refine y_arg (j := 1) dL_law_1235 dL_law_1236 dL_law_1237 dL_law_1238 dL_law_1239 ⟨by decide, by decide⟩ hn hL ?_
  exact q
theorem rl_X9_line : jRm kL kX9_line 2 := ⟨by decide +kernel, Nat.le_of_ble_eq_true rfl, Nat.le_of_ble_eq_true rfl⟩
theorem rl_X10_line : jRm kL kX10_line 2 := ⟨by decide +kernel, Nat.le_of_ble_eq_true rfl, Nat.le_of_ble_eq_true rfl⟩
theorem lc_38 (H : lA L k n G I u1 u2) (ih : lNx E b L k xs n) : jOy E (lX E b L xs) kL 1248 (lls b n) [] G I (u1, u2) lQ := by
  obtain ⟨h, hk, hn, hL, hu1, hu2⟩ := H
  refine y_aload_n (K := kL) dL_law_1248 rfl (i := 1) rfl ?_
  refine y_arg (j := 1) dL_law_1249 dL_law_1250 dL_law_1251 dL_law_1252 dL_law_1253 ⟨by decide, by decide⟩ hn hL ?_
  refine y_arg (j := 2) dL_law_1254 dL_law_1255 dL_law_1256 dL_law_1257 dL_law_1258 ⟨by decide, by decide⟩ hn hL ?_
  refine lawCase (as := [VI (xs (n + 1).toNat).toInt, VI (xs (n + 2).toNat).toInt]) (pr_line h hk) hk hu1 hu2 dL_law_1259 mt_X9_line ml_L_172 mi_X9_line rl_X9_line rfl dL_law_1273 mt_X10_line ml_L_175 mi_X10_line rl_X10_line rfl ⟨Nat.le_of_ble_eq_true rfl, Nat.le_of_ble_eq_true rfl⟩ (jasI (j32_in _) (jasI (j32_in _) jas0)) (fun x G1 I1 u q => ?_) dL_law_1276 (by decide) ih
  refine y_aload_n (K := kL) dL_law_1262 rfl (i := 2) rfl ?_
  refine y_arg (j := 1) dL_law_1263 dL_law_1264 dL_law_1265 dL_law_1266 dL_law_1267 ⟨by decide, by decide⟩ hn hL ?_
  refine y_arg (j := 2) dL_law_1268 dL_law_1269 dL_law_1270 dL_law_1271 dL_law_1272 ⟨by decide, by decide⟩ hn hL ?_
  exact q
theorem rl_X9_circling : jRm kL kX9_circling 0 := ⟨by decide +kernel, Nat.le_of_ble_eq_true rfl, Nat.le_of_ble_eq_true rfl⟩
theorem rl_X10_circling : jRm kL kX10_circling 0 := ⟨by decide +kernel, Nat.le_of_ble_eq_true rfl, Nat.le_of_ble_eq_true rfl⟩
theorem lc_39 (H : lA L k n G I u1 u2) (ih : lNx E b L k xs n) : jOy E (lX E b L xs) kL 1281 (lls b n) [] G I (u1, u2) lQ := by
  obtain ⟨h, hk, hn, hL, hu1, hu2⟩ := H
  refine y_aload_n (K := kL) dL_law_1281 rfl (i := 1) rfl ?_
  refine lawCase (as := []) (pr_circling h hk) hk hu1 hu2 dL_law_1282 mt_X9_circling ml_L_176 mi_X9_circling rl_X9_circling rfl dL_law_1286 mt_X10_circling ml_L_179 mi_X10_circling rl_X10_circling rfl ⟨Nat.le_of_ble_eq_true rfl, Nat.le_of_ble_eq_true rfl⟩ jas0 (fun x G1 I1 u q => ?_) dL_law_1289 (by decide) ih
  refine y_aload_n (K := kL) dL_law_1285 rfl (i := 2) rfl ?_
  exact q
theorem rl_X9_course : jRm kL kX9_course 1 := ⟨by decide +kernel, Nat.le_of_ble_eq_true rfl, Nat.le_of_ble_eq_true rfl⟩
theorem rl_X10_course : jRm kL kX10_course 1 := ⟨by decide +kernel, Nat.le_of_ble_eq_true rfl, Nat.le_of_ble_eq_true rfl⟩
theorem lc_40 (H : lA L k n G I u1 u2) (ih : lNx E b L k xs n) : jOy E (lX E b L xs) kL 1294 (lls b n) [] G I (u1, u2) lQ := by
  obtain ⟨h, hk, hn, hL, hu1, hu2⟩ := H
  refine y_aload_n (K := kL) dL_law_1294 rfl (i := 1) rfl ?_
  refine y_arg (j := 1) dL_law_1295 dL_law_1296 dL_law_1297 dL_law_1298 dL_law_1299 ⟨by decide, by decide⟩ hn hL ?_
  refine lawCase (as := [VI (xs (n + 1).toNat).toInt]) (pr_course h hk) hk hu1 hu2 dL_law_1300 mt_X9_course ml_L_180 mi_X9_course rl_X9_course rfl dL_law_1309 mt_X10_course ml_L_183 mi_X10_course rl_X10_course rfl ⟨Nat.le_of_ble_eq_true rfl, Nat.le_of_ble_eq_true rfl⟩ (jasI (j32_in _) jas0) (fun x G1 I1 u q => ?_) dL_law_1312 (by decide) ih
  refine y_aload_n (K := kL) dL_law_1303 rfl (i := 2) rfl ?_
  refine y_arg (j := 1) dL_law_1304 dL_law_1305 dL_law_1306 dL_law_1307 dL_law_1308 ⟨by decide, by decide⟩ hn hL ?_
  exact q
theorem rl_X9_later : jRm kL kX9_later 2 := ⟨by decide +kernel, Nat.le_of_ble_eq_true rfl, Nat.le_of_ble_eq_true rfl⟩
theorem rl_X10_later : jRm kL kX10_later 2 := ⟨by decide +kernel, Nat.le_of_ble_eq_true rfl, Nat.le_of_ble_eq_true rfl⟩
theorem lc_41 (H : lA L k n G I u1 u2) (ih : lNx E b L k xs n) : jOy E (lX E b L xs) kL 1317 (lls b n) [] G I (u1, u2) lQ := by
  obtain ⟨h, hk, hn, hL, hu1, hu2⟩ := H
  refine y_aload_n (K := kL) dL_law_1317 rfl (i := 1) rfl ?_
  refine y_arg (j := 1) dL_law_1318 dL_law_1319 dL_law_1320 dL_law_1321 dL_law_1322 ⟨by decide, by decide⟩ hn hL ?_
  refine y_arg (j := 2) dL_law_1323 dL_law_1324 dL_law_1325 dL_law_1326 dL_law_1327 ⟨by decide, by decide⟩ hn hL ?_
  refine lawCase (as := [VI (xs (n + 1).toNat).toInt, VI (xs (n + 2).toNat).toInt]) (pr_later h hk) hk hu1 hu2 dL_law_1328 mt_X9_later ml_L_184 mi_X9_later rl_X9_later rfl dL_law_1342 mt_X10_later ml_L_187 mi_X10_later rl_X10_later rfl ⟨Nat.le_of_ble_eq_true rfl, Nat.le_of_ble_eq_true rfl⟩ (jasI (j32_in _) (jasI (j32_in _) jas0)) (fun x G1 I1 u q => ?_) dL_law_1345 (by decide) ih
  refine y_aload_n (K := kL) dL_law_1331 rfl (i := 2) rfl ?_
  refine y_arg (j := 1) dL_law_1332 dL_law_1333 dL_law_1334 dL_law_1335 dL_law_1336 ⟨by decide, by decide⟩ hn hL ?_
  refine y_arg (j := 2) dL_law_1337 dL_law_1338 dL_law_1339 dL_law_1340 dL_law_1341 ⟨by decide, by decide⟩ hn hL ?_
  exact q
theorem rl_X9_digest : jRm kL kX9_digest 1 := ⟨by decide +kernel, Nat.le_of_ble_eq_true rfl, Nat.le_of_ble_eq_true rfl⟩
theorem rl_X10_digest : jRm kL kX10_digest 1 := ⟨by decide +kernel, Nat.le_of_ble_eq_true rfl, Nat.le_of_ble_eq_true rfl⟩
theorem lc_42 (H : lA L k n G I u1 u2) (ih : lNx E b L k xs n) : jOy E (lX E b L xs) kL 1350 (lls b n) [] G I (u1, u2) lQ := by
  obtain ⟨h, hk, hn, hL, hu1, hu2⟩ := H
  refine y_aload_n (K := kL) dL_law_1350 rfl (i := 1) rfl ?_
  refine y_arg (j := 1) dL_law_1351 dL_law_1352 dL_law_1353 dL_law_1354 dL_law_1355 ⟨by decide, by decide⟩ hn hL ?_
  refine lawCase (as := [VI (xs (n + 1).toNat).toInt]) (pr_digest h hk) hk hu1 hu2 dL_law_1356 mt_X9_digest ml_L_188 mi_X9_digest rl_X9_digest rfl dL_law_1365 mt_X10_digest ml_L_191 mi_X10_digest rl_X10_digest rfl ⟨Nat.le_of_ble_eq_true rfl, Nat.le_of_ble_eq_true rfl⟩ (jasI (j32_in _) jas0) (fun x G1 I1 u q => ?_) dL_law_1368 (by decide) ih
  refine y_aload_n (K := kL) dL_law_1359 rfl (i := 2) rfl ?_
  refine y_arg (j := 1) dL_law_1360 dL_law_1361 dL_law_1362 dL_law_1363 dL_law_1364 ⟨by decide, by decide⟩ hn hL ?_
  exact q
theorem rl_X9_used : jRm kL kX9_used 0 := ⟨by decide +kernel, Nat.le_of_ble_eq_true rfl, Nat.le_of_ble_eq_true rfl⟩
theorem rl_X10_used : jRm kL kX10_used 0 := ⟨by decide +kernel, Nat.le_of_ble_eq_true rfl, Nat.le_of_ble_eq_true rfl⟩
theorem lc_43 (H : lA L k n G I u1 u2) (ih : lNx E b L k xs n) : jOy E (lX E b L xs) kL 1373 (lls b n) [] G I (u1, u2) lQ := by
  obtain ⟨h, hk, hn, hL, hu1, hu2⟩ := H
  refine y_aload_n (K := kL) dL_law_1373 rfl (i := 1) rfl ?_
  refine lawCase (as := []) (pr_used h hk) hk hu1 hu2 dL_law_1374 mt_X9_used ml_L_192 mi_X9_used rl_X9_used rfl dL_law_1378 mt_X10_used ml_L_195 mi_X10_used rl_X10_used rfl ⟨Nat.le_of_ble_eq_true rfl, Nat.le_of_ble_eq_true rfl⟩ jas0 (fun x G1 I1 u q => ?_) dL_law_1381 (by decide) ih
  refine y_aload_n (K := kL) dL_law_1377 rfl (i := 2) rfl ?_
  exact q
theorem rl_X9_cure : jRm kL kX9_cure 0 := ⟨by decide +kernel, Nat.le_of_ble_eq_true rfl, Nat.le_of_ble_eq_true rfl⟩
theorem rl_X10_cure : jRm kL kX10_cure 0 := ⟨by decide +kernel, Nat.le_of_ble_eq_true rfl, Nat.le_of_ble_eq_true rfl⟩
theorem lc_44 (H : lA L k n G I u1 u2) (ih : lNx E b L k xs n) : jOy E (lX E b L xs) kL 1386 (lls b n) [] G I (u1, u2) lQ := by
  obtain ⟨h, hk, hn, hL, hu1, hu2⟩ := H
  refine y_aload_n (K := kL) dL_law_1386 rfl (i := 1) rfl ?_
  refine lawCase (as := []) (pr_cure h hk) hk hu1 hu2 dL_law_1387 mt_X9_cure ml_L_196 mi_X9_cure rl_X9_cure rfl dL_law_1391 mt_X10_cure ml_L_199 mi_X10_cure rl_X10_cure rfl ⟨Nat.le_of_ble_eq_true rfl, Nat.le_of_ble_eq_true rfl⟩ jas0 (fun x G1 I1 u q => ?_) dL_law_1394 (by decide) ih
  refine y_aload_n (K := kL) dL_law_1390 rfl (i := 2) rfl ?_
  exact q
theorem rl_X9_mean : jRm kL kX9_mean 0 := ⟨by decide +kernel, Nat.le_of_ble_eq_true rfl, Nat.le_of_ble_eq_true rfl⟩
theorem rl_X10_mean : jRm kL kX10_mean 0 := ⟨by decide +kernel, Nat.le_of_ble_eq_true rfl, Nat.le_of_ble_eq_true rfl⟩
theorem lc_45 (H : lA L k n G I u1 u2) (ih : lNx E b L k xs n) : jOy E (lX E b L xs) kL 1399 (lls b n) [] G I (u1, u2) lQ := by
  obtain ⟨h, hk, hn, hL, hu1, hu2⟩ := H
  refine y_aload_n (K := kL) dL_law_1399 rfl (i := 1) rfl ?_
  refine lawCase (as := []) (pr_mean h hk) hk hu1 hu2 dL_law_1400 mt_X9_mean ml_L_200 mi_X9_mean rl_X9_mean rfl dL_law_1404 mt_X10_mean ml_L_203 mi_X10_mean rl_X10_mean rfl ⟨Nat.le_of_ble_eq_true rfl, Nat.le_of_ble_eq_true rfl⟩ jas0 (fun x G1 I1 u q => ?_) dL_law_1407 (by decide) ih
  refine y_aload_n (K := kL) dL_law_1403 rfl (i := 2) rfl ?_
  exact q
theorem rl_X9_share : jRm kL kX9_share 0 := ⟨by decide +kernel, Nat.le_of_ble_eq_true rfl, Nat.le_of_ble_eq_true rfl⟩
theorem rl_X10_share : jRm kL kX10_share 0 := ⟨by decide +kernel, Nat.le_of_ble_eq_true rfl, Nat.le_of_ble_eq_true rfl⟩
theorem lc_46 (H : lA L k n G I u1 u2) (ih : lNx E b L k xs n) : jOy E (lX E b L xs) kL 1412 (lls b n) [] G I (u1, u2) lQ := by
  obtain ⟨h, hk, hn, hL, hu1, hu2⟩ := H
  refine y_aload_n (K := kL) dL_law_1412 rfl (i := 1) rfl ?_
  refine lawCaseL (as := []) (pr_share h hk) hk hu1 hu2 dL_law_1413 mt_X9_share ml_L_204 mi_X9_share rl_X9_share rfl dL_law_1417 mt_X10_share ml_L_208 mi_X10_share rl_X10_share rfl ⟨Nat.le_of_ble_eq_true rfl, Nat.le_of_ble_eq_true rfl⟩ jas0 (fun x G1 I1 u q => ?_) dL_law_1420 dL_law_1421 (by decide) ih
  refine y_aload_n (K := kL) dL_law_1416 rfl (i := 2) rfl ?_
  exact q
theorem rl_X9_image : jRm kL kX9_image 0 := ⟨by decide +kernel, Nat.le_of_ble_eq_true rfl, Nat.le_of_ble_eq_true rfl⟩
theorem rl_X10_image : jRm kL kX10_image 0 := ⟨by decide +kernel, Nat.le_of_ble_eq_true rfl, Nat.le_of_ble_eq_true rfl⟩
theorem lc_47 (H : lA L k n G I u1 u2) (ih : lNx E b L k xs n) : jOy E (lX E b L xs) kL 1426 (lls b n) [] G I (u1, u2) lQ := by
  obtain ⟨h, hk, hn, hL, hu1, hu2⟩ := H
  refine y_aload_n (K := kL) dL_law_1426 rfl (i := 1) rfl ?_
  refine lawCase (as := []) (pr_image h hk) hk hu1 hu2 dL_law_1427 mt_X9_image ml_L_209 mi_X9_image rl_X9_image rfl dL_law_1431 mt_X10_image ml_L_212 mi_X10_image rl_X10_image rfl ⟨Nat.le_of_ble_eq_true rfl, Nat.le_of_ble_eq_true rfl⟩ jas0 (fun x G1 I1 u q => ?_) dL_law_1434 (by decide) ih
  refine y_aload_n (K := kL) dL_law_1430 rfl (i := 2) rfl ?_
  exact q
theorem rl_X9_back : jRm kL kX9_back 0 := ⟨by decide +kernel, Nat.le_of_ble_eq_true rfl, Nat.le_of_ble_eq_true rfl⟩
theorem rl_X10_back : jRm kL kX10_back 0 := ⟨by decide +kernel, Nat.le_of_ble_eq_true rfl, Nat.le_of_ble_eq_true rfl⟩
theorem lc_48 (H : lA L k n G I u1 u2) (ih : lNx E b L k xs n) : jOy E (lX E b L xs) kL 1439 (lls b n) [] G I (u1, u2) lQ := by
  obtain ⟨h, hk, hn, hL, hu1, hu2⟩ := H
  refine y_aload_n (K := kL) dL_law_1439 rfl (i := 1) rfl ?_
  refine lawCase (as := []) (pr_back h hk) hk hu1 hu2 dL_law_1440 mt_X9_back ml_L_213 mi_X9_back rl_X9_back rfl dL_law_1444 mt_X10_back ml_L_216 mi_X10_back rl_X10_back rfl ⟨Nat.le_of_ble_eq_true rfl, Nat.le_of_ble_eq_true rfl⟩ jas0 (fun x G1 I1 u q => ?_) dL_law_1447 (by decide) ih
  refine y_aload_n (K := kL) dL_law_1443 rfl (i := 2) rfl ?_
  exact q
theorem rl_X9_steps : jRm kL kX9_steps 0 := ⟨by decide +kernel, Nat.le_of_ble_eq_true rfl, Nat.le_of_ble_eq_true rfl⟩
theorem rl_X10_steps : jRm kL kX10_steps 0 := ⟨by decide +kernel, Nat.le_of_ble_eq_true rfl, Nat.le_of_ble_eq_true rfl⟩
theorem lc_49 (H : lA L k n G I u1 u2) (ih : lNx E b L k xs n) : jOy E (lX E b L xs) kL 1452 (lls b n) [] G I (u1, u2) lQ := by
  obtain ⟨h, hk, hn, hL, hu1, hu2⟩ := H
  refine y_aload_n (K := kL) dL_law_1452 rfl (i := 1) rfl ?_
  refine lawCase (as := []) (pr_steps h hk) hk hu1 hu2 dL_law_1453 mt_X9_steps ml_L_217 mi_X9_steps rl_X9_steps rfl dL_law_1457 mt_X10_steps ml_L_220 mi_X10_steps rl_X10_steps rfl ⟨Nat.le_of_ble_eq_true rfl, Nat.le_of_ble_eq_true rfl⟩ jas0 (fun x G1 I1 u q => ?_) dL_law_1460 (by decide) ih
  refine y_aload_n (K := kL) dL_law_1456 rfl (i := 2) rfl ?_
  exact q
end LB
