theorem lcmp_self (a : Int64) : lg_cmp a a = 0 := by
  unfold lg_cmp
  simp
theorem xin {i N : Nat} (k : Nat) (h : i + 6 ≤ N) (hN : N < 2 ^ 31) (hk : k < 6) : vp_in (nI i + nI k) N := by
  rw [nI_add]
  exact nI_in (by omega) hN
section
variable {g : GG} {d : Nat} {M : MD} {ad : AD} {x m : VM} {kc ks kcT ksT pc : Nat} {L : List (Option Value)} {rest : List Value} {K : Option Value → Heap → Prop}
theorem y_make {M' : MD} {n mc ms idx : Nat} {r : Int32} {w : VM} {As st : List Value} (ok : okM M' n) (lk : lkV M.1.cls idx M'.1) (hrn : M'.1.cls = RX11) (hdg : decode M.2.1 pc = .ok (.invokevirtual idx, 3)) (hst : st = As.reverse ++ .ref (ad 11 0) :: rest) (hn : As.length = n) (hd : (rest.map fun v => v.category).sum ≤ 8) (h1 : kcT = mc + kc) (h2 : ksT = ms + ks)
    (hcl : Cl g d mc ms M' (.ref (ad 11 0) :: As) (Rep g ad x m) (PK g ad m r w)) (kk : ∀ ad' : AD, ad' 11 0 = ad 11 0 → ad' 12 0 = ad 12 0 → Ev g (d + 1) M (Rep g ad' w m) kc ks (pc + 3) L (.int r :: rest) K) : Ev g (d + 1) M (Rep g ad x m) kcT ksT pc L st K := by
  subst h1 h2
  refine e_invV (c := 11) ok lk rfl hrn hdg hst hn hd (fun H hP => hP.1 11 0 (by decide) rfl) hcl (fun v => ?_)
  refine e_and (fun hv => ?_)
  subst hv
  exact e_ex (fun ad' => e_and (fun e11 => e_and (fun e12 => kk ad' e11 e12)))
end
/-- the class and the reference answer alike: person -/
def S_person (Inv : VM → VM → Prop) : Prop := ∀ (x m : VM) (a1 : Int32), Inv x m → ∃ (r : Int32) (x' : VM) (m' : VM), f_X11_person x a1 = some (r, x') ∧ f_X12_person m a1 = some (r, m') ∧ Inv x' m'
theorem l_0_person {g : GG} {d : Nat} {ad : AD} {x m : VM} {Inv : VM → VM → Prop} {kc ks i : Nat} {X Y : Nat} {K : Option Value → Heap → Prop} (sim : S_person Inv) (hk : ∀ x m, Inv x m → KX x ∧ x.2.2.2 0 ≤ x.2.2.2 5) (hI : Inv x m) (hX : ad 11 0 = X) (hY : ad 12 0 = Y) (h6 : i + 6 ≤ gN g) (hN : gN g < 2 ^ 31) (next : ∀ ad' x' m', ad' 11 0 = X → ad' 12 0 = Y → Inv x' m' → Ev g (d + 30) ML_law (Rep g ad' x' m') kc ks 2154 [some (.ref (gb g)), some (.ref X), some (.ref Y), some (.int (nI i))] [] K) : Ev g (d + 30) ML_law (Rep g ad x m) (3 + kc) (80 + ks) 264 [some (.ref (gb g)), some (.ref X), some (.ref Y), some (.int (nI i))] [] K := by
  subst hX hY
  obtain ⟨r, x', m', hx, hm, hI2⟩ := sim x m (gx g (nI i + 1).toNatClampNeg) hI
  refine e_aload_n dL_law_264 rfl rfl ?_
  refine e_aload_n dL_law_265 rfl rfl ?_
  refine e_iload_n dL_law_266 rfl rfl ?_
  refine e_iconst (v := 1) dL_law_267 rfl ?_
  refine e_iadd dL_law_268 ?_
  refine e_xaload dL_law_269 (xin 1 h6 hN (by decide)) ?_
  refine y_make (As := [.int (gx g (nI i + 1).toNatClampNeg)]) (rest := []) (mc := 3) (ms := 80) (kc := kc) (ks := ks) okX11_person lkL_13 rfl dL_law_270 rfl rfl (Nat.le_of_ble_eq_true rfl) rfl rfl (c_X11_person (gx g (nI i + 1).toNatClampNeg) (hk x m hI).1 hx) (fun ad9 e11 e12 => ?_)
  rw [← e11, ← e12] at next ⊢
  refine e_pc (pc' := 273) rfl ?_
  refine e_pc (pc' := 273) rfl ?_
  refine e_aload_n dL_law_273 rfl rfl ?_
  refine e_aload_n dL_law_274 rfl rfl ?_
  refine e_iload_n dL_law_275 rfl rfl ?_
  refine e_iconst (v := 1) dL_law_276 rfl ?_
  refine e_iadd dL_law_277 ?_
  refine e_xaload dL_law_278 (xin 1 h6 hN (by decide)) ?_
  refine y_callV (c := 12) (i := 0) (As := [.int (gx g (nI i + 1).toNatClampNeg)]) (rest := [.int r]) (w := some (.int r)) (x1 := x') (m1 := m') okX12_person lkL_17 rfl (by decide) rfl dL_law_279 rfl rfl (Nat.le_of_ble_eq_true rfl) rfl (c_X12_person (gx g (nI i + 1).toNatClampNeg) hm ⟨rfl, rfl, rfl⟩) ?_
  refine e_pc (pc' := 282) rfl ?_
  refine e_icmp_eq (tgt := 2154) dL_law_282 rfl (fun _ => ?_) (fun h => absurd rfl h)
  exact next ad9 x' m' rfl rfl hI2
/-- the class and the reference answer alike: row -/
def S_row (Inv : VM → VM → Prop) : Prop := ∀ (x m : VM) (a1 : Int32) (a2 : Int32) (a3 : Int32), Inv x m → ∃ (r : Int32) (x' : VM) (m' : VM), f_X11_row x a1 a2 a3 = some (r, x') ∧ f_X12_row m a1 a2 a3 = some (r, m') ∧ Inv x' m'
theorem l_1_row {g : GG} {d : Nat} {ad : AD} {x m : VM} {Inv : VM → VM → Prop} {kc ks i : Nat} {X Y : Nat} {K : Option Value → Heap → Prop} (sim : S_row Inv) (hI : Inv x m) (hX : ad 11 0 = X) (hY : ad 12 0 = Y) (h6 : i + 6 ≤ gN g) (hN : gN g < 2 ^ 31) (next : ∀ ad' x' m', ad' 11 0 = X → ad' 12 0 = Y → Inv x' m' → Ev g (d + 30) ML_law (Rep g ad' x' m') kc ks 2154 [some (.ref (gb g)), some (.ref X), some (.ref Y), some (.int (nI i))] [] K) : Ev g (d + 30) ML_law (Rep g ad x m) (kc) (ks) 287 [some (.ref (gb g)), some (.ref X), some (.ref Y), some (.int (nI i))] [] K := by
  subst hX hY
  obtain ⟨r, x', m', hx, hm, hI2⟩ := sim x m (gx g (nI i + 1).toNatClampNeg) (gx g (nI i + 2).toNatClampNeg) (gx g (nI i + 3).toNatClampNeg) hI
  refine e_aload_n dL_law_287 rfl rfl ?_
  refine e_aload_n dL_law_288 rfl rfl ?_
  refine e_iload_n dL_law_289 rfl rfl ?_
  refine e_iconst (v := 1) dL_law_290 rfl ?_
  refine e_iadd dL_law_291 ?_
  refine e_xaload dL_law_292 (xin 1 h6 hN (by decide)) ?_
  refine e_aload_n dL_law_293 rfl rfl ?_
  refine e_pc (pc' := 294) rfl ?_
  refine e_iload_n dL_law_294 rfl rfl ?_
  refine e_iconst (v := 2) dL_law_295 rfl ?_
  refine e_iadd dL_law_296 ?_
  refine e_xaload dL_law_297 (xin 2 h6 hN (by decide)) ?_
  refine e_aload_n dL_law_298 rfl rfl ?_
  refine e_iload_n dL_law_299 rfl rfl ?_
  refine e_iconst (v := 3) dL_law_300 rfl ?_
  refine e_iadd dL_law_301 ?_
  refine e_pc (pc' := 302) rfl ?_
  refine e_xaload dL_law_302 (xin 3 h6 hN (by decide)) ?_
  refine y_callV (c := 11) (i := 0) (As := [.int (gx g (nI i + 1).toNatClampNeg), .int (gx g (nI i + 2).toNatClampNeg), .int (gx g (nI i + 3).toNatClampNeg)]) (rest := []) (w := some (.int r)) (x1 := x') (m1 := m) okX11_row lkL_18 rfl (by decide) rfl dL_law_303 rfl rfl (Nat.le_of_ble_eq_true rfl) rfl (c_X11_row (gx g (nI i + 1).toNatClampNeg) (gx g (nI i + 2).toNatClampNeg) (gx g (nI i + 3).toNatClampNeg) hx ⟨rfl, rfl, rfl⟩) ?_
  refine e_pc (pc' := 306) rfl ?_
  refine e_aload_n dL_law_306 rfl rfl ?_
  refine e_aload_n dL_law_307 rfl rfl ?_
  refine e_iload_n dL_law_308 rfl rfl ?_
  refine e_iconst (v := 1) dL_law_309 rfl ?_
  refine e_iadd dL_law_310 ?_
  refine e_xaload dL_law_311 (xin 1 h6 hN (by decide)) ?_
  refine e_pc (pc' := 312) rfl ?_
  refine e_aload_n dL_law_312 rfl rfl ?_
  refine e_iload_n dL_law_313 rfl rfl ?_
  refine e_iconst (v := 2) dL_law_314 rfl ?_
  refine e_iadd dL_law_315 ?_
  refine e_xaload dL_law_316 (xin 2 h6 hN (by decide)) ?_
  refine e_aload_n dL_law_317 rfl rfl ?_
  refine e_iload_n dL_law_318 rfl rfl ?_
  refine e_iconst (v := 3) dL_law_319 rfl ?_
  refine e_pc (pc' := 320) rfl ?_
  refine e_iadd dL_law_320 ?_
  refine e_xaload dL_law_321 (xin 3 h6 hN (by decide)) ?_
  refine y_callV (c := 12) (i := 0) (As := [.int (gx g (nI i + 1).toNatClampNeg), .int (gx g (nI i + 2).toNatClampNeg), .int (gx g (nI i + 3).toNatClampNeg)]) (rest := [.int r]) (w := some (.int r)) (x1 := x') (m1 := m') okX12_row lkL_22 rfl (by decide) rfl dL_law_322 rfl rfl (Nat.le_of_ble_eq_true rfl) rfl (c_X12_row (gx g (nI i + 1).toNatClampNeg) (gx g (nI i + 2).toNatClampNeg) (gx g (nI i + 3).toNatClampNeg) hm ⟨rfl, rfl, rfl⟩) ?_
  refine e_pc (pc' := 325) rfl ?_
  refine e_icmp_eq (tgt := 2154) dL_law_325 rfl (fun _ => ?_) (fun h => absurd rfl h)
  exact next ad x' m' rfl rfl hI2
/-- the class and the reference answer alike: set -/
def S_set (Inv : VM → VM → Prop) : Prop := ∀ (x m : VM) (a1 : Int32) (a2 : Int32) (a3 : Int64), Inv x m → ∃ (r : Int32) (x' : VM) (m' : VM), f_X11_set x a1 a2 a3 = some (r, x') ∧ f_X12_set m a1 a2 a3 = some (r, m') ∧ Inv x' m'
theorem l_2_set {g : GG} {d : Nat} {ad : AD} {x m : VM} {Inv : VM → VM → Prop} {kc ks i : Nat} {X Y : Nat} {K : Option Value → Heap → Prop} (sim : S_set Inv) (hI : Inv x m) (hX : ad 11 0 = X) (hY : ad 12 0 = Y) (h6 : i + 6 ≤ gN g) (hN : gN g < 2 ^ 31) (next : ∀ ad' x' m', ad' 11 0 = X → ad' 12 0 = Y → Inv x' m' → Ev g (d + 30) ML_law (Rep g ad' x' m') kc ks 2154 [some (.ref (gb g)), some (.ref X), some (.ref Y), some (.int (nI i))] [] K) : Ev g (d + 30) ML_law (Rep g ad x m) (kc) (ks) 330 [some (.ref (gb g)), some (.ref X), some (.ref Y), some (.int (nI i))] [] K := by
  subst hX hY
  obtain ⟨r, x', m', hx, hm, hI2⟩ := sim x m (gx g (nI i + 1).toNatClampNeg) (gx g (nI i + 2).toNatClampNeg) (((gx g (nI i + 3).toNatClampNeg).toInt64 <<< ((32 : Int32).toInt64 &&& 63)) ||| ((gx g (nI i + 4).toNatClampNeg).toInt64 &&& 4294967295)) hI
  refine e_aload_n dL_law_330 rfl rfl ?_
  refine e_aload_n dL_law_331 rfl rfl ?_
  refine e_iload_n dL_law_332 rfl rfl ?_
  refine e_iconst (v := 1) dL_law_333 rfl ?_
  refine e_iadd dL_law_334 ?_
  refine e_xaload dL_law_335 (xin 1 h6 hN (by decide)) ?_
  refine e_aload_n dL_law_336 rfl rfl ?_
  refine e_pc (pc' := 337) rfl ?_
  refine e_iload_n dL_law_337 rfl rfl ?_
  refine e_iconst (v := 2) dL_law_338 rfl ?_
  refine e_iadd dL_law_339 ?_
  refine e_xaload dL_law_340 (xin 2 h6 hN (by decide)) ?_
  refine e_aload_n dL_law_341 rfl rfl ?_
  refine e_iload_n dL_law_342 rfl rfl ?_
  refine e_iconst (v := 3) dL_law_343 rfl ?_
  refine e_iadd dL_law_344 ?_
  refine e_pc (pc' := 345) rfl ?_
  refine e_xaload dL_law_345 (xin 3 h6 hN (by decide)) ?_
  refine e_i2l dL_law_346 rfl ?_
  refine e_bipush (v := 32) dL_law_347 rfl ?_
  refine e_lshl dL_law_349 rfl ?_
  refine e_aload_n dL_law_350 rfl rfl ?_
  refine e_iload_n dL_law_351 rfl rfl ?_
  refine e_iconst (v := 4) dL_law_352 rfl ?_
  refine e_iadd dL_law_353 ?_
  refine e_pc (pc' := 354) rfl ?_
  refine e_xaload dL_law_354 (xin 4 h6 hN (by decide)) ?_
  refine e_i2l dL_law_355 rfl ?_
  refine e_ldc2 (v := 4294967295) rfl kcL_23 dL_law_356 ?_
  refine e_land dL_law_359 ?_
  refine e_lor dL_law_360 ?_
  refine y_callV (c := 11) (i := 0) (As := [.int (gx g (nI i + 1).toNatClampNeg), .int (gx g (nI i + 2).toNatClampNeg), .long (((gx g (nI i + 3).toNatClampNeg).toInt64 <<< ((32 : Int32).toInt64 &&& 63)) ||| ((gx g (nI i + 4).toNatClampNeg).toInt64 &&& 4294967295))]) (rest := []) (w := some (.int r)) (x1 := x') (m1 := m) okX11_set lkL_25 rfl (by decide) rfl dL_law_361 rfl rfl (Nat.le_of_ble_eq_true rfl) rfl (c_X11_set (gx g (nI i + 1).toNatClampNeg) (gx g (nI i + 2).toNatClampNeg) (((gx g (nI i + 3).toNatClampNeg).toInt64 <<< ((32 : Int32).toInt64 &&& 63)) ||| ((gx g (nI i + 4).toNatClampNeg).toInt64 &&& 4294967295)) hx ⟨rfl, rfl, rfl⟩) ?_
  refine e_pc (pc' := 364) rfl ?_
  refine e_aload_n dL_law_364 rfl rfl ?_
  refine e_aload_n dL_law_365 rfl rfl ?_
  refine e_pc (pc' := 366) rfl ?_
  refine e_iload_n dL_law_366 rfl rfl ?_
  refine e_iconst (v := 1) dL_law_367 rfl ?_
  refine e_iadd dL_law_368 ?_
  refine e_xaload dL_law_369 (xin 1 h6 hN (by decide)) ?_
  refine e_aload_n dL_law_370 rfl rfl ?_
  refine e_iload_n dL_law_371 rfl rfl ?_
  refine e_iconst (v := 2) dL_law_372 rfl ?_
  refine e_iadd dL_law_373 ?_
  refine e_pc (pc' := 374) rfl ?_
  refine e_xaload dL_law_374 (xin 2 h6 hN (by decide)) ?_
  refine e_aload_n dL_law_375 rfl rfl ?_
  refine e_iload_n dL_law_376 rfl rfl ?_
  refine e_iconst (v := 3) dL_law_377 rfl ?_
  refine e_iadd dL_law_378 ?_
  refine e_xaload dL_law_379 (xin 3 h6 hN (by decide)) ?_
  refine e_i2l dL_law_380 rfl ?_
  refine e_bipush (v := 32) dL_law_381 rfl ?_
  refine e_pc (pc' := 383) rfl ?_
  refine e_lshl dL_law_383 rfl ?_
  refine e_aload_n dL_law_384 rfl rfl ?_
  refine e_iload_n dL_law_385 rfl rfl ?_
  refine e_iconst (v := 4) dL_law_386 rfl ?_
  refine e_iadd dL_law_387 ?_
  refine e_xaload dL_law_388 (xin 4 h6 hN (by decide)) ?_
  refine e_i2l dL_law_389 rfl ?_
  refine e_ldc2 (v := 4294967295) rfl kcL_23 dL_law_390 ?_
  refine e_pc (pc' := 393) rfl ?_
  refine e_land dL_law_393 ?_
  refine e_lor dL_law_394 ?_
  refine y_callV (c := 12) (i := 0) (As := [.int (gx g (nI i + 1).toNatClampNeg), .int (gx g (nI i + 2).toNatClampNeg), .long (((gx g (nI i + 3).toNatClampNeg).toInt64 <<< ((32 : Int32).toInt64 &&& 63)) ||| ((gx g (nI i + 4).toNatClampNeg).toInt64 &&& 4294967295))]) (rest := [.int r]) (w := some (.int r)) (x1 := x') (m1 := m') okX12_set lkL_29 rfl (by decide) rfl dL_law_395 rfl rfl (Nat.le_of_ble_eq_true rfl) rfl (c_X12_set (gx g (nI i + 1).toNatClampNeg) (gx g (nI i + 2).toNatClampNeg) (((gx g (nI i + 3).toNatClampNeg).toInt64 <<< ((32 : Int32).toInt64 &&& 63)) ||| ((gx g (nI i + 4).toNatClampNeg).toInt64 &&& 4294967295)) hm ⟨rfl, rfl, rfl⟩) ?_
  refine e_pc (pc' := 398) rfl ?_
  refine e_icmp_eq (tgt := 2154) dL_law_398 rfl (fun _ => ?_) (fun h => absurd rfl h)
  exact next ad x' m' rfl rfl hI2
/-- the class and the reference answer alike: copy -/
def S_copy (Inv : VM → VM → Prop) : Prop := ∀ (x m : VM) (a1 : Int32) (a2 : Int32) (a3 : Int32) (a4 : Int32) (a5 : Int32), Inv x m → ∃ (r : Int32) (x' : VM) (m' : VM), f_X11_copy x a1 a2 a3 a4 a5 = some (r, x') ∧ f_X12_copy m a1 a2 a3 a4 a5 = some (r, m') ∧ Inv x' m'
theorem l_3_copy {g : GG} {d : Nat} {ad : AD} {x m : VM} {Inv : VM → VM → Prop} {kc ks i : Nat} {X Y : Nat} {K : Option Value → Heap → Prop} (sim : S_copy Inv) (hI : Inv x m) (hX : ad 11 0 = X) (hY : ad 12 0 = Y) (h6 : i + 6 ≤ gN g) (hN : gN g < 2 ^ 31) (next : ∀ ad' x' m', ad' 11 0 = X → ad' 12 0 = Y → Inv x' m' → Ev g (d + 30) ML_law (Rep g ad' x' m') kc ks 2154 [some (.ref (gb g)), some (.ref X), some (.ref Y), some (.int (nI i))] [] K) : Ev g (d + 30) ML_law (Rep g ad x m) (kc) (ks) 403 [some (.ref (gb g)), some (.ref X), some (.ref Y), some (.int (nI i))] [] K := by
  subst hX hY
  obtain ⟨r, x', m', hx, hm, hI2⟩ := sim x m (gx g (nI i + 1).toNatClampNeg) (gx g (nI i + 2).toNatClampNeg) (gx g (nI i + 3).toNatClampNeg) (gx g (nI i + 4).toNatClampNeg) (gx g (nI i + 5).toNatClampNeg) hI
  refine e_aload_n dL_law_403 rfl rfl ?_
  refine e_aload_n dL_law_404 rfl rfl ?_
  refine e_iload_n dL_law_405 rfl rfl ?_
  refine e_iconst (v := 1) dL_law_406 rfl ?_
  refine e_iadd dL_law_407 ?_
  refine e_xaload dL_law_408 (xin 1 h6 hN (by decide)) ?_
  refine e_aload_n dL_law_409 rfl rfl ?_
  refine e_pc (pc' := 410) rfl ?_
  refine e_iload_n dL_law_410 rfl rfl ?_
  refine e_iconst (v := 2) dL_law_411 rfl ?_
  refine e_iadd dL_law_412 ?_
  refine e_xaload dL_law_413 (xin 2 h6 hN (by decide)) ?_
  refine e_aload_n dL_law_414 rfl rfl ?_
  refine e_iload_n dL_law_415 rfl rfl ?_
  refine e_iconst (v := 3) dL_law_416 rfl ?_
  refine e_iadd dL_law_417 ?_
  refine e_pc (pc' := 418) rfl ?_
  refine e_xaload dL_law_418 (xin 3 h6 hN (by decide)) ?_
  refine e_aload_n dL_law_419 rfl rfl ?_
  refine e_iload_n dL_law_420 rfl rfl ?_
  refine e_iconst (v := 4) dL_law_421 rfl ?_
  refine e_iadd dL_law_422 ?_
  refine e_xaload dL_law_423 (xin 4 h6 hN (by decide)) ?_
  refine e_aload_n dL_law_424 rfl rfl ?_
  refine e_iload_n dL_law_425 rfl rfl ?_
  refine e_pc (pc' := 426) rfl ?_
  refine e_iconst (v := 5) dL_law_426 rfl ?_
  refine e_iadd dL_law_427 ?_
  refine e_xaload dL_law_428 (xin 5 h6 hN (by decide)) ?_
  refine y_callV (c := 11) (i := 0) (As := [.int (gx g (nI i + 1).toNatClampNeg), .int (gx g (nI i + 2).toNatClampNeg), .int (gx g (nI i + 3).toNatClampNeg), .int (gx g (nI i + 4).toNatClampNeg), .int (gx g (nI i + 5).toNatClampNeg)]) (rest := []) (w := some (.int r)) (x1 := x') (m1 := m) okX11_copy lkL_30 rfl (by decide) rfl dL_law_429 rfl rfl (Nat.le_of_ble_eq_true rfl) rfl (c_X11_copy (gx g (nI i + 1).toNatClampNeg) (gx g (nI i + 2).toNatClampNeg) (gx g (nI i + 3).toNatClampNeg) (gx g (nI i + 4).toNatClampNeg) (gx g (nI i + 5).toNatClampNeg) hx ⟨rfl, rfl, rfl⟩) ?_
  refine e_pc (pc' := 432) rfl ?_
  refine e_aload_n dL_law_432 rfl rfl ?_
  refine e_aload_n dL_law_433 rfl rfl ?_
  refine e_iload_n dL_law_434 rfl rfl ?_
  refine e_iconst (v := 1) dL_law_435 rfl ?_
  refine e_pc (pc' := 436) rfl ?_
  refine e_iadd dL_law_436 ?_
  refine e_xaload dL_law_437 (xin 1 h6 hN (by decide)) ?_
  refine e_aload_n dL_law_438 rfl rfl ?_
  refine e_iload_n dL_law_439 rfl rfl ?_
  refine e_iconst (v := 2) dL_law_440 rfl ?_
  refine e_iadd dL_law_441 ?_
  refine e_xaload dL_law_442 (xin 2 h6 hN (by decide)) ?_
  refine e_aload_n dL_law_443 rfl rfl ?_
  refine e_pc (pc' := 444) rfl ?_
  refine e_iload_n dL_law_444 rfl rfl ?_
  refine e_iconst (v := 3) dL_law_445 rfl ?_
  refine e_iadd dL_law_446 ?_
  refine e_xaload dL_law_447 (xin 3 h6 hN (by decide)) ?_
  refine e_aload_n dL_law_448 rfl rfl ?_
  refine e_iload_n dL_law_449 rfl rfl ?_
  refine e_iconst (v := 4) dL_law_450 rfl ?_
  refine e_iadd dL_law_451 ?_
  refine e_pc (pc' := 452) rfl ?_
  refine e_xaload dL_law_452 (xin 4 h6 hN (by decide)) ?_
  refine e_aload_n dL_law_453 rfl rfl ?_
  refine e_iload_n dL_law_454 rfl rfl ?_
  refine e_iconst (v := 5) dL_law_455 rfl ?_
  refine e_iadd dL_law_456 ?_
  refine e_xaload dL_law_457 (xin 5 h6 hN (by decide)) ?_
  refine y_callV (c := 12) (i := 0) (As := [.int (gx g (nI i + 1).toNatClampNeg), .int (gx g (nI i + 2).toNatClampNeg), .int (gx g (nI i + 3).toNatClampNeg), .int (gx g (nI i + 4).toNatClampNeg), .int (gx g (nI i + 5).toNatClampNeg)]) (rest := [.int r]) (w := some (.int r)) (x1 := x') (m1 := m') okX12_copy lkL_34 rfl (by decide) rfl dL_law_458 rfl rfl (Nat.le_of_ble_eq_true rfl) rfl (c_X12_copy (gx g (nI i + 1).toNatClampNeg) (gx g (nI i + 2).toNatClampNeg) (gx g (nI i + 3).toNatClampNeg) (gx g (nI i + 4).toNatClampNeg) (gx g (nI i + 5).toNatClampNeg) hm ⟨rfl, rfl, rfl⟩) ?_
  refine e_pc (pc' := 461) rfl ?_
  refine e_icmp_eq (tgt := 2154) dL_law_461 rfl (fun _ => ?_) (fun h => absurd rfl h)
  exact next ad x' m' rfl rfl hI2
/-- the class and the reference answer alike: element -/
def S_element (Inv : VM → VM → Prop) : Prop := ∀ (x m : VM) (a1 : Int32) (a2 : Int32), Inv x m → ∃ (r : Int64), f_X11_element x a1 a2 = some r ∧ f_X12_element m a1 a2 = some r ∧ Inv x m
theorem l_4_element {g : GG} {d : Nat} {ad : AD} {x m : VM} {Inv : VM → VM → Prop} {kc ks i : Nat} {X Y : Nat} {K : Option Value → Heap → Prop} (sim : S_element Inv) (hI : Inv x m) (hX : ad 11 0 = X) (hY : ad 12 0 = Y) (h6 : i + 6 ≤ gN g) (hN : gN g < 2 ^ 31) (next : ∀ ad' x' m', ad' 11 0 = X → ad' 12 0 = Y → Inv x' m' → Ev g (d + 30) ML_law (Rep g ad' x' m') kc ks 2154 [some (.ref (gb g)), some (.ref X), some (.ref Y), some (.int (nI i))] [] K) : Ev g (d + 30) ML_law (Rep g ad x m) (kc) (ks) 466 [some (.ref (gb g)), some (.ref X), some (.ref Y), some (.int (nI i))] [] K := by
  subst hX hY
  obtain ⟨r, hx, hm, hI2⟩ := sim x m (gx g (nI i + 1).toNatClampNeg) (gx g (nI i + 2).toNatClampNeg) hI
  refine e_aload_n dL_law_466 rfl rfl ?_
  refine e_aload_n dL_law_467 rfl rfl ?_
  refine e_iload_n dL_law_468 rfl rfl ?_
  refine e_iconst (v := 1) dL_law_469 rfl ?_
  refine e_iadd dL_law_470 ?_
  refine e_xaload dL_law_471 (xin 1 h6 hN (by decide)) ?_
  refine e_aload_n dL_law_472 rfl rfl ?_
  refine e_pc (pc' := 473) rfl ?_
  refine e_iload_n dL_law_473 rfl rfl ?_
  refine e_iconst (v := 2) dL_law_474 rfl ?_
  refine e_iadd dL_law_475 ?_
  refine e_xaload dL_law_476 (xin 2 h6 hN (by decide)) ?_
  refine y_callV (c := 11) (i := 0) (As := [.int (gx g (nI i + 1).toNatClampNeg), .int (gx g (nI i + 2).toNatClampNeg)]) (rest := []) (w := some (.long r)) (x1 := x) (m1 := m) okX11_element lkL_35 rfl (by decide) rfl dL_law_477 rfl rfl (Nat.le_of_ble_eq_true rfl) rfl (c_X11_element (gx g (nI i + 1).toNatClampNeg) (gx g (nI i + 2).toNatClampNeg) hx ⟨rfl, rfl, rfl⟩) ?_
  refine e_pc (pc' := 480) rfl ?_
  refine e_aload_n dL_law_480 rfl rfl ?_
  refine e_aload_n dL_law_481 rfl rfl ?_
  refine e_iload_n dL_law_482 rfl rfl ?_
  refine e_pc (pc' := 483) rfl ?_
  refine e_iconst (v := 1) dL_law_483 rfl ?_
  refine e_iadd dL_law_484 ?_
  refine e_xaload dL_law_485 (xin 1 h6 hN (by decide)) ?_
  refine e_aload_n dL_law_486 rfl rfl ?_
  refine e_iload_n dL_law_487 rfl rfl ?_
  refine e_iconst (v := 2) dL_law_488 rfl ?_
  refine e_iadd dL_law_489 ?_
  refine e_xaload dL_law_490 (xin 2 h6 hN (by decide)) ?_
  refine e_pc (pc' := 491) rfl ?_
  refine y_callV (c := 12) (i := 0) (As := [.int (gx g (nI i + 1).toNatClampNeg), .int (gx g (nI i + 2).toNatClampNeg)]) (rest := [.long r]) (w := some (.long r)) (x1 := x) (m1 := m) okX12_element lkL_39 rfl (by decide) rfl dL_law_491 rfl rfl (Nat.le_of_ble_eq_true rfl) rfl (c_X12_element (gx g (nI i + 1).toNatClampNeg) (gx g (nI i + 2).toNatClampNeg) hm ⟨rfl, rfl, rfl⟩) ?_
  refine e_pc (pc' := 494) rfl ?_
  refine e_lcmp dL_law_494 ?_
  refine e_if_eq (tgt := 2154) dL_law_495 rfl (fun _ => ?_) (fun h => absurd (lcmp_self r) h)
  exact next ad x m rfl rfl hI2
/-- the class and the reference answer alike: show -/
def S_show (Inv : VM → VM → Prop) : Prop := ∀ (x m : VM) (a1 : Int32) (a2 : Int32), Inv x m → ∃ (r : Int32) (x' : VM) (m' : VM), f_X11_show x a1 a2 = some (r, x') ∧ f_X12_show m a1 a2 = some (r, m') ∧ Inv x' m'
theorem l_5_show {g : GG} {d : Nat} {ad : AD} {x m : VM} {Inv : VM → VM → Prop} {kc ks i : Nat} {X Y : Nat} {K : Option Value → Heap → Prop} (sim : S_show Inv) (hI : Inv x m) (hX : ad 11 0 = X) (hY : ad 12 0 = Y) (h6 : i + 6 ≤ gN g) (hN : gN g < 2 ^ 31) (next : ∀ ad' x' m', ad' 11 0 = X → ad' 12 0 = Y → Inv x' m' → Ev g (d + 30) ML_law (Rep g ad' x' m') kc ks 2154 [some (.ref (gb g)), some (.ref X), some (.ref Y), some (.int (nI i))] [] K) : Ev g (d + 30) ML_law (Rep g ad x m) (kc) (ks) 500 [some (.ref (gb g)), some (.ref X), some (.ref Y), some (.int (nI i))] [] K := by
  subst hX hY
  obtain ⟨r, x', m', hx, hm, hI2⟩ := sim x m (gx g (nI i + 1).toNatClampNeg) (gx g (nI i + 2).toNatClampNeg) hI
  refine e_aload_n dL_law_500 rfl rfl ?_
  refine e_aload_n dL_law_501 rfl rfl ?_
  refine e_iload_n dL_law_502 rfl rfl ?_
  refine e_iconst (v := 1) dL_law_503 rfl ?_
  refine e_iadd dL_law_504 ?_
  refine e_xaload dL_law_505 (xin 1 h6 hN (by decide)) ?_
  refine e_aload_n dL_law_506 rfl rfl ?_
  refine e_pc (pc' := 507) rfl ?_
  refine e_iload_n dL_law_507 rfl rfl ?_
  refine e_iconst (v := 2) dL_law_508 rfl ?_
  refine e_iadd dL_law_509 ?_
  refine e_xaload dL_law_510 (xin 2 h6 hN (by decide)) ?_
  refine y_callV (c := 11) (i := 0) (As := [.int (gx g (nI i + 1).toNatClampNeg), .int (gx g (nI i + 2).toNatClampNeg)]) (rest := []) (w := some (.int r)) (x1 := x') (m1 := m) okX11_show lkL_40 rfl (by decide) rfl dL_law_511 rfl rfl (Nat.le_of_ble_eq_true rfl) rfl (c_X11_show (gx g (nI i + 1).toNatClampNeg) (gx g (nI i + 2).toNatClampNeg) hx ⟨rfl, rfl, rfl⟩) ?_
  refine e_pc (pc' := 514) rfl ?_
  refine e_aload_n dL_law_514 rfl rfl ?_
  refine e_aload_n dL_law_515 rfl rfl ?_
  refine e_iload_n dL_law_516 rfl rfl ?_
  refine e_pc (pc' := 517) rfl ?_
  refine e_iconst (v := 1) dL_law_517 rfl ?_
  refine e_iadd dL_law_518 ?_
  refine e_xaload dL_law_519 (xin 1 h6 hN (by decide)) ?_
  refine e_aload_n dL_law_520 rfl rfl ?_
  refine e_iload_n dL_law_521 rfl rfl ?_
  refine e_iconst (v := 2) dL_law_522 rfl ?_
  refine e_iadd dL_law_523 ?_
  refine e_xaload dL_law_524 (xin 2 h6 hN (by decide)) ?_
  refine e_pc (pc' := 525) rfl ?_
  refine y_callV (c := 12) (i := 0) (As := [.int (gx g (nI i + 1).toNatClampNeg), .int (gx g (nI i + 2).toNatClampNeg)]) (rest := [.int r]) (w := some (.int r)) (x1 := x') (m1 := m') okX12_show lkL_44 rfl (by decide) rfl dL_law_525 rfl rfl (Nat.le_of_ble_eq_true rfl) rfl (c_X12_show (gx g (nI i + 1).toNatClampNeg) (gx g (nI i + 2).toNatClampNeg) hm ⟨rfl, rfl, rfl⟩) ?_
  refine e_pc (pc' := 528) rfl ?_
  refine e_icmp_eq (tgt := 2154) dL_law_528 rfl (fun _ => ?_) (fun h => absurd rfl h)
  exact next ad x' m' rfl rfl hI2
/-- the class and the reference answer alike: holds -/
def S_holds (Inv : VM → VM → Prop) : Prop := ∀ (x m : VM) (a1 : Int32), Inv x m → ∃ (r : Int32), f_X11_holds x a1 = some r ∧ f_X12_holds m a1 = some r ∧ Inv x m
theorem l_6_holds {g : GG} {d : Nat} {ad : AD} {x m : VM} {Inv : VM → VM → Prop} {kc ks i : Nat} {X Y : Nat} {K : Option Value → Heap → Prop} (sim : S_holds Inv) (hI : Inv x m) (hX : ad 11 0 = X) (hY : ad 12 0 = Y) (h6 : i + 6 ≤ gN g) (hN : gN g < 2 ^ 31) (next : ∀ ad' x' m', ad' 11 0 = X → ad' 12 0 = Y → Inv x' m' → Ev g (d + 30) ML_law (Rep g ad' x' m') kc ks 2154 [some (.ref (gb g)), some (.ref X), some (.ref Y), some (.int (nI i))] [] K) : Ev g (d + 30) ML_law (Rep g ad x m) (kc) (ks) 533 [some (.ref (gb g)), some (.ref X), some (.ref Y), some (.int (nI i))] [] K := by
  subst hX hY
  obtain ⟨r, hx, hm, hI2⟩ := sim x m (gx g (nI i + 1).toNatClampNeg) hI
  refine e_aload_n dL_law_533 rfl rfl ?_
  refine e_aload_n dL_law_534 rfl rfl ?_
  refine e_iload_n dL_law_535 rfl rfl ?_
  refine e_iconst (v := 1) dL_law_536 rfl ?_
  refine e_iadd dL_law_537 ?_
  refine e_xaload dL_law_538 (xin 1 h6 hN (by decide)) ?_
  refine y_callV (c := 11) (i := 0) (As := [.int (gx g (nI i + 1).toNatClampNeg)]) (rest := []) (w := some (.int r)) (x1 := x) (m1 := m) okX11_holds lkL_45 rfl (by decide) rfl dL_law_539 rfl rfl (Nat.le_of_ble_eq_true rfl) rfl (c_X11_holds (gx g (nI i + 1).toNatClampNeg) hx ⟨rfl, rfl, rfl⟩) ?_
  refine e_pc (pc' := 542) rfl ?_
  refine e_pc (pc' := 542) rfl ?_
  refine e_aload_n dL_law_542 rfl rfl ?_
  refine e_aload_n dL_law_543 rfl rfl ?_
  refine e_iload_n dL_law_544 rfl rfl ?_
  refine e_iconst (v := 1) dL_law_545 rfl ?_
  refine e_iadd dL_law_546 ?_
  refine e_xaload dL_law_547 (xin 1 h6 hN (by decide)) ?_
  refine y_callV (c := 12) (i := 0) (As := [.int (gx g (nI i + 1).toNatClampNeg)]) (rest := [.int r]) (w := some (.int r)) (x1 := x) (m1 := m) okX12_holds lkL_48 rfl (by decide) rfl dL_law_548 rfl rfl (Nat.le_of_ble_eq_true rfl) rfl (c_X12_holds (gx g (nI i + 1).toNatClampNeg) hm ⟨rfl, rfl, rfl⟩) ?_
  refine e_pc (pc' := 551) rfl ?_
  refine e_icmp_eq (tgt := 2154) dL_law_551 rfl (fun _ => ?_) (fun h => absurd rfl h)
  exact next ad x m rfl rfl hI2
/-- the class and the reference answer alike: kindIn -/
def S_kindIn (Inv : VM → VM → Prop) : Prop := ∀ (x m : VM) (a1 : Int32) (a2 : Int32), Inv x m → ∃ (r : Int32) (x' : VM) (m' : VM), f_X11_kindIn x a1 a2 = some (r, x') ∧ f_X12_kindIn m a1 a2 = some (r, m') ∧ Inv x' m'
theorem l_7_kindIn {g : GG} {d : Nat} {ad : AD} {x m : VM} {Inv : VM → VM → Prop} {kc ks i : Nat} {X Y : Nat} {K : Option Value → Heap → Prop} (sim : S_kindIn Inv) (hI : Inv x m) (hX : ad 11 0 = X) (hY : ad 12 0 = Y) (h6 : i + 6 ≤ gN g) (hN : gN g < 2 ^ 31) (next : ∀ ad' x' m', ad' 11 0 = X → ad' 12 0 = Y → Inv x' m' → Ev g (d + 30) ML_law (Rep g ad' x' m') kc ks 2154 [some (.ref (gb g)), some (.ref X), some (.ref Y), some (.int (nI i))] [] K) : Ev g (d + 30) ML_law (Rep g ad x m) (kc) (ks) 556 [some (.ref (gb g)), some (.ref X), some (.ref Y), some (.int (nI i))] [] K := by
  subst hX hY
  obtain ⟨r, x', m', hx, hm, hI2⟩ := sim x m (gx g (nI i + 1).toNatClampNeg) (gx g (nI i + 2).toNatClampNeg) hI
  refine e_aload_n dL_law_556 rfl rfl ?_
  refine e_aload_n dL_law_557 rfl rfl ?_
  refine e_iload_n dL_law_558 rfl rfl ?_
  refine e_iconst (v := 1) dL_law_559 rfl ?_
  refine e_iadd dL_law_560 ?_
  refine e_xaload dL_law_561 (xin 1 h6 hN (by decide)) ?_
  refine e_aload_n dL_law_562 rfl rfl ?_
  refine e_pc (pc' := 563) rfl ?_
  refine e_iload_n dL_law_563 rfl rfl ?_
  refine e_iconst (v := 2) dL_law_564 rfl ?_
  refine e_iadd dL_law_565 ?_
  refine e_xaload dL_law_566 (xin 2 h6 hN (by decide)) ?_
  refine y_callV (c := 11) (i := 0) (As := [.int (gx g (nI i + 1).toNatClampNeg), .int (gx g (nI i + 2).toNatClampNeg)]) (rest := []) (w := some (.int r)) (x1 := x') (m1 := m) okX11_kindIn lkL_49 rfl (by decide) rfl dL_law_567 rfl rfl (Nat.le_of_ble_eq_true rfl) rfl (c_X11_kindIn (gx g (nI i + 1).toNatClampNeg) (gx g (nI i + 2).toNatClampNeg) hx ⟨rfl, rfl, rfl⟩) ?_
  refine e_pc (pc' := 570) rfl ?_
  refine e_aload_n dL_law_570 rfl rfl ?_
  refine e_aload_n dL_law_571 rfl rfl ?_
  refine e_iload_n dL_law_572 rfl rfl ?_
  refine e_pc (pc' := 573) rfl ?_
  refine e_iconst (v := 1) dL_law_573 rfl ?_
  refine e_iadd dL_law_574 ?_
  refine e_xaload dL_law_575 (xin 1 h6 hN (by decide)) ?_
  refine e_aload_n dL_law_576 rfl rfl ?_
  refine e_iload_n dL_law_577 rfl rfl ?_
  refine e_iconst (v := 2) dL_law_578 rfl ?_
  refine e_iadd dL_law_579 ?_
  refine e_xaload dL_law_580 (xin 2 h6 hN (by decide)) ?_
  refine e_pc (pc' := 581) rfl ?_
  refine y_callV (c := 12) (i := 0) (As := [.int (gx g (nI i + 1).toNatClampNeg), .int (gx g (nI i + 2).toNatClampNeg)]) (rest := [.int r]) (w := some (.int r)) (x1 := x') (m1 := m') okX12_kindIn lkL_52 rfl (by decide) rfl dL_law_581 rfl rfl (Nat.le_of_ble_eq_true rfl) rfl (c_X12_kindIn (gx g (nI i + 1).toNatClampNeg) (gx g (nI i + 2).toNatClampNeg) hm ⟨rfl, rfl, rfl⟩) ?_
  refine e_pc (pc' := 584) rfl ?_
  refine e_icmp_eq (tgt := 2154) dL_law_584 rfl (fun _ => ?_) (fun h => absurd rfl h)
  exact next ad x' m' rfl rfl hI2
/-- the class and the reference answer alike: term -/
def S_term (Inv : VM → VM → Prop) : Prop := ∀ (x m : VM) (a1 : Int32) (a2 : Int32), Inv x m → ∃ (r : Int32) (x' : VM) (m' : VM), f_X11_term x a1 a2 = some (r, x') ∧ f_X12_term m a1 a2 = some (r, m') ∧ Inv x' m'
theorem l_8_term {g : GG} {d : Nat} {ad : AD} {x m : VM} {Inv : VM → VM → Prop} {kc ks i : Nat} {X Y : Nat} {K : Option Value → Heap → Prop} (sim : S_term Inv) (hI : Inv x m) (hX : ad 11 0 = X) (hY : ad 12 0 = Y) (h6 : i + 6 ≤ gN g) (hN : gN g < 2 ^ 31) (next : ∀ ad' x' m', ad' 11 0 = X → ad' 12 0 = Y → Inv x' m' → Ev g (d + 30) ML_law (Rep g ad' x' m') kc ks 2154 [some (.ref (gb g)), some (.ref X), some (.ref Y), some (.int (nI i))] [] K) : Ev g (d + 30) ML_law (Rep g ad x m) (kc) (ks) 589 [some (.ref (gb g)), some (.ref X), some (.ref Y), some (.int (nI i))] [] K := by
  subst hX hY
  obtain ⟨r, x', m', hx, hm, hI2⟩ := sim x m (gx g (nI i + 1).toNatClampNeg) (gx g (nI i + 2).toNatClampNeg) hI
  refine e_aload_n dL_law_589 rfl rfl ?_
  refine e_aload_n dL_law_590 rfl rfl ?_
  refine e_iload_n dL_law_591 rfl rfl ?_
  refine e_iconst (v := 1) dL_law_592 rfl ?_
  refine e_iadd dL_law_593 ?_
  refine e_xaload dL_law_594 (xin 1 h6 hN (by decide)) ?_
  refine e_aload_n dL_law_595 rfl rfl ?_
  refine e_pc (pc' := 596) rfl ?_
  refine e_iload_n dL_law_596 rfl rfl ?_
  refine e_iconst (v := 2) dL_law_597 rfl ?_
  refine e_iadd dL_law_598 ?_
  refine e_xaload dL_law_599 (xin 2 h6 hN (by decide)) ?_
  refine y_callV (c := 11) (i := 0) (As := [.int (gx g (nI i + 1).toNatClampNeg), .int (gx g (nI i + 2).toNatClampNeg)]) (rest := []) (w := some (.int r)) (x1 := x') (m1 := m) okX11_term lkL_53 rfl (by decide) rfl dL_law_600 rfl rfl (Nat.le_of_ble_eq_true rfl) rfl (c_X11_term (gx g (nI i + 1).toNatClampNeg) (gx g (nI i + 2).toNatClampNeg) hx ⟨rfl, rfl, rfl⟩) ?_
  refine e_pc (pc' := 603) rfl ?_
  refine e_aload_n dL_law_603 rfl rfl ?_
  refine e_aload_n dL_law_604 rfl rfl ?_
  refine e_iload_n dL_law_605 rfl rfl ?_
  refine e_pc (pc' := 606) rfl ?_
  refine e_iconst (v := 1) dL_law_606 rfl ?_
  refine e_iadd dL_law_607 ?_
  refine e_xaload dL_law_608 (xin 1 h6 hN (by decide)) ?_
  refine e_aload_n dL_law_609 rfl rfl ?_
  refine e_iload_n dL_law_610 rfl rfl ?_
  refine e_iconst (v := 2) dL_law_611 rfl ?_
  refine e_iadd dL_law_612 ?_
  refine e_xaload dL_law_613 (xin 2 h6 hN (by decide)) ?_
  refine e_pc (pc' := 614) rfl ?_
  refine y_callV (c := 12) (i := 0) (As := [.int (gx g (nI i + 1).toNatClampNeg), .int (gx g (nI i + 2).toNatClampNeg)]) (rest := [.int r]) (w := some (.int r)) (x1 := x') (m1 := m') okX12_term lkL_56 rfl (by decide) rfl dL_law_614 rfl rfl (Nat.le_of_ble_eq_true rfl) rfl (c_X12_term (gx g (nI i + 1).toNatClampNeg) (gx g (nI i + 2).toNatClampNeg) hm ⟨rfl, rfl, rfl⟩) ?_
  refine e_pc (pc' := 617) rfl ?_
  refine e_icmp_eq (tgt := 2154) dL_law_617 rfl (fun _ => ?_) (fun h => absurd rfl h)
  exact next ad x' m' rfl rfl hI2
/-- the class and the reference answer alike: fault -/
def S_fault (Inv : VM → VM → Prop) : Prop := ∀ (x m : VM), Inv x m → ∃ (r : Int32), f_X11_fault x = some r ∧ f_X12_fault m = some r ∧ Inv x m
theorem l_9_fault {g : GG} {d : Nat} {ad : AD} {x m : VM} {Inv : VM → VM → Prop} {kc ks i : Nat} {X Y : Nat} {K : Option Value → Heap → Prop} (sim : S_fault Inv) (hI : Inv x m) (hX : ad 11 0 = X) (hY : ad 12 0 = Y) (h6 : i + 6 ≤ gN g) (hN : gN g < 2 ^ 31) (next : ∀ ad' x' m', ad' 11 0 = X → ad' 12 0 = Y → Inv x' m' → Ev g (d + 30) ML_law (Rep g ad' x' m') kc ks 2154 [some (.ref (gb g)), some (.ref X), some (.ref Y), some (.int (nI i))] [] K) : Ev g (d + 30) ML_law (Rep g ad x m) (kc) (ks) 622 [some (.ref (gb g)), some (.ref X), some (.ref Y), some (.int (nI i))] [] K := by
  subst hX hY
  obtain ⟨r, hx, hm, hI2⟩ := sim x m hI
  refine e_aload_n dL_law_622 rfl rfl ?_
  refine y_callV (c := 11) (i := 0) (As := []) (rest := []) (w := some (.int r)) (x1 := x) (m1 := m) okX11_fault lkL_57 rfl (by decide) rfl dL_law_623 rfl rfl (Nat.le_of_ble_eq_true rfl) rfl (c_X11_fault  hx ⟨rfl, rfl, rfl⟩) ?_
  refine e_pc (pc' := 626) rfl ?_
  refine e_aload_n dL_law_626 rfl rfl ?_
  refine y_callV (c := 12) (i := 0) (As := []) (rest := [.int r]) (w := some (.int r)) (x1 := x) (m1 := m) okX12_fault lkL_61 rfl (by decide) rfl dL_law_627 rfl rfl (Nat.le_of_ble_eq_true rfl) rfl (c_X12_fault  hm ⟨rfl, rfl, rfl⟩) ?_
  refine e_pc (pc' := 630) rfl ?_
  refine e_icmp_eq (tgt := 2154) dL_law_630 rfl (fun _ => ?_) (fun h => absurd rfl h)
  exact next ad x m rfl rfl hI2
/-- the class and the reference answer alike: law -/
def S_law (Inv : VM → VM → Prop) : Prop := ∀ (x m : VM) (a1 : Int32) (a2 : Int32), Inv x m → ∃ (r : Int32) (x' : VM) (m' : VM), f_X11_law x a1 a2 = some (r, x') ∧ f_X12_law m a1 a2 = some (r, m') ∧ Inv x' m'
theorem l_10_law {g : GG} {d : Nat} {ad : AD} {x m : VM} {Inv : VM → VM → Prop} {kc ks i : Nat} {X Y : Nat} {K : Option Value → Heap → Prop} (sim : S_law Inv) (hI : Inv x m) (hX : ad 11 0 = X) (hY : ad 12 0 = Y) (h6 : i + 6 ≤ gN g) (hN : gN g < 2 ^ 31) (next : ∀ ad' x' m', ad' 11 0 = X → ad' 12 0 = Y → Inv x' m' → Ev g (d + 30) ML_law (Rep g ad' x' m') kc ks 2154 [some (.ref (gb g)), some (.ref X), some (.ref Y), some (.int (nI i))] [] K) : Ev g (d + 30) ML_law (Rep g ad x m) (kc) (ks) 635 [some (.ref (gb g)), some (.ref X), some (.ref Y), some (.int (nI i))] [] K := by
  subst hX hY
  obtain ⟨r, x', m', hx, hm, hI2⟩ := sim x m (gx g (nI i + 1).toNatClampNeg) (gx g (nI i + 2).toNatClampNeg) hI
  refine e_aload_n dL_law_635 rfl rfl ?_
  refine e_aload_n dL_law_636 rfl rfl ?_
  refine e_iload_n dL_law_637 rfl rfl ?_
  refine e_iconst (v := 1) dL_law_638 rfl ?_
  refine e_iadd dL_law_639 ?_
  refine e_xaload dL_law_640 (xin 1 h6 hN (by decide)) ?_
  refine e_aload_n dL_law_641 rfl rfl ?_
  refine e_pc (pc' := 642) rfl ?_
  refine e_iload_n dL_law_642 rfl rfl ?_
  refine e_iconst (v := 2) dL_law_643 rfl ?_
  refine e_iadd dL_law_644 ?_
  refine e_xaload dL_law_645 (xin 2 h6 hN (by decide)) ?_
  refine y_callV (c := 11) (i := 0) (As := [.int (gx g (nI i + 1).toNatClampNeg), .int (gx g (nI i + 2).toNatClampNeg)]) (rest := []) (w := some (.int r)) (x1 := x') (m1 := m) okX11_law lkL_62 rfl (by decide) rfl dL_law_646 rfl rfl (Nat.le_of_ble_eq_true rfl) rfl (c_X11_law (gx g (nI i + 1).toNatClampNeg) (gx g (nI i + 2).toNatClampNeg) hx ⟨rfl, rfl, rfl⟩) ?_
  refine e_pc (pc' := 649) rfl ?_
  refine e_aload_n dL_law_649 rfl rfl ?_
  refine e_aload_n dL_law_650 rfl rfl ?_
  refine e_iload_n dL_law_651 rfl rfl ?_
  refine e_pc (pc' := 652) rfl ?_
  refine e_iconst (v := 1) dL_law_652 rfl ?_
  refine e_iadd dL_law_653 ?_
  refine e_xaload dL_law_654 (xin 1 h6 hN (by decide)) ?_
  refine e_aload_n dL_law_655 rfl rfl ?_
  refine e_iload_n dL_law_656 rfl rfl ?_
  refine e_iconst (v := 2) dL_law_657 rfl ?_
  refine e_iadd dL_law_658 ?_
  refine e_xaload dL_law_659 (xin 2 h6 hN (by decide)) ?_
  refine e_pc (pc' := 660) rfl ?_
  refine y_callV (c := 12) (i := 0) (As := [.int (gx g (nI i + 1).toNatClampNeg), .int (gx g (nI i + 2).toNatClampNeg)]) (rest := [.int r]) (w := some (.int r)) (x1 := x') (m1 := m') okX12_law lkL_65 rfl (by decide) rfl dL_law_660 rfl rfl (Nat.le_of_ble_eq_true rfl) rfl (c_X12_law (gx g (nI i + 1).toNatClampNeg) (gx g (nI i + 2).toNatClampNeg) hm ⟨rfl, rfl, rfl⟩) ?_
  refine e_pc (pc' := 663) rfl ?_
  refine e_icmp_eq (tgt := 2154) dL_law_663 rfl (fun _ => ?_) (fun h => absurd rfl h)
  exact next ad x' m' rfl rfl hI2
/-- the class and the reference answer alike: counts -/
def S_counts (Inv : VM → VM → Prop) : Prop := ∀ (x m : VM) (a1 : Int32) (a2 : Int32) (a3 : Int32), Inv x m → ∃ (r : Int32), f_X11_counts x a1 a2 a3 = some r ∧ f_X12_counts m a1 a2 a3 = some r ∧ Inv x m
theorem l_11_counts {g : GG} {d : Nat} {ad : AD} {x m : VM} {Inv : VM → VM → Prop} {kc ks i : Nat} {X Y : Nat} {K : Option Value → Heap → Prop} (sim : S_counts Inv) (hI : Inv x m) (hX : ad 11 0 = X) (hY : ad 12 0 = Y) (h6 : i + 6 ≤ gN g) (hN : gN g < 2 ^ 31) (next : ∀ ad' x' m', ad' 11 0 = X → ad' 12 0 = Y → Inv x' m' → Ev g (d + 30) ML_law (Rep g ad' x' m') kc ks 2154 [some (.ref (gb g)), some (.ref X), some (.ref Y), some (.int (nI i))] [] K) : Ev g (d + 30) ML_law (Rep g ad x m) (kc) (ks) 668 [some (.ref (gb g)), some (.ref X), some (.ref Y), some (.int (nI i))] [] K := by
  subst hX hY
  obtain ⟨r, hx, hm, hI2⟩ := sim x m (gx g (nI i + 1).toNatClampNeg) (gx g (nI i + 2).toNatClampNeg) (gx g (nI i + 3).toNatClampNeg) hI
  refine e_aload_n dL_law_668 rfl rfl ?_
  refine e_aload_n dL_law_669 rfl rfl ?_
  refine e_iload_n dL_law_670 rfl rfl ?_
  refine e_iconst (v := 1) dL_law_671 rfl ?_
  refine e_iadd dL_law_672 ?_
  refine e_xaload dL_law_673 (xin 1 h6 hN (by decide)) ?_
  refine e_aload_n dL_law_674 rfl rfl ?_
  refine e_pc (pc' := 675) rfl ?_
  refine e_iload_n dL_law_675 rfl rfl ?_
  refine e_iconst (v := 2) dL_law_676 rfl ?_
  refine e_iadd dL_law_677 ?_
  refine e_xaload dL_law_678 (xin 2 h6 hN (by decide)) ?_
  refine e_aload_n dL_law_679 rfl rfl ?_
  refine e_iload_n dL_law_680 rfl rfl ?_
  refine e_iconst (v := 3) dL_law_681 rfl ?_
  refine e_iadd dL_law_682 ?_
  refine e_pc (pc' := 683) rfl ?_
  refine e_xaload dL_law_683 (xin 3 h6 hN (by decide)) ?_
  refine y_callV (c := 11) (i := 0) (As := [.int (gx g (nI i + 1).toNatClampNeg), .int (gx g (nI i + 2).toNatClampNeg), .int (gx g (nI i + 3).toNatClampNeg)]) (rest := []) (w := some (.int r)) (x1 := x) (m1 := m) okX11_counts lkL_66 rfl (by decide) rfl dL_law_684 rfl rfl (Nat.le_of_ble_eq_true rfl) rfl (c_X11_counts (gx g (nI i + 1).toNatClampNeg) (gx g (nI i + 2).toNatClampNeg) (gx g (nI i + 3).toNatClampNeg) hx ⟨rfl, rfl, rfl⟩) ?_
  refine e_pc (pc' := 687) rfl ?_
  refine e_aload_n dL_law_687 rfl rfl ?_
  refine e_aload_n dL_law_688 rfl rfl ?_
  refine e_iload_n dL_law_689 rfl rfl ?_
  refine e_iconst (v := 1) dL_law_690 rfl ?_
  refine e_iadd dL_law_691 ?_
  refine e_xaload dL_law_692 (xin 1 h6 hN (by decide)) ?_
  refine e_pc (pc' := 693) rfl ?_
  refine e_aload_n dL_law_693 rfl rfl ?_
  refine e_iload_n dL_law_694 rfl rfl ?_
  refine e_iconst (v := 2) dL_law_695 rfl ?_
  refine e_iadd dL_law_696 ?_
  refine e_xaload dL_law_697 (xin 2 h6 hN (by decide)) ?_
  refine e_aload_n dL_law_698 rfl rfl ?_
  refine e_iload_n dL_law_699 rfl rfl ?_
  refine e_iconst (v := 3) dL_law_700 rfl ?_
  refine e_pc (pc' := 701) rfl ?_
  refine e_iadd dL_law_701 ?_
  refine e_xaload dL_law_702 (xin 3 h6 hN (by decide)) ?_
  refine y_callV (c := 12) (i := 0) (As := [.int (gx g (nI i + 1).toNatClampNeg), .int (gx g (nI i + 2).toNatClampNeg), .int (gx g (nI i + 3).toNatClampNeg)]) (rest := [.int r]) (w := some (.int r)) (x1 := x) (m1 := m) okX12_counts lkL_69 rfl (by decide) rfl dL_law_703 rfl rfl (Nat.le_of_ble_eq_true rfl) rfl (c_X12_counts (gx g (nI i + 1).toNatClampNeg) (gx g (nI i + 2).toNatClampNeg) (gx g (nI i + 3).toNatClampNeg) hm ⟨rfl, rfl, rfl⟩) ?_
  refine e_pc (pc' := 706) rfl ?_
  refine e_icmp_eq (tgt := 2154) dL_law_706 rfl (fun _ => ?_) (fun h => absurd rfl h)
  exact next ad x m rfl rfl hI2
/-- the class and the reference answer alike: ill -/
def S_ill (Inv : VM → VM → Prop) : Prop := ∀ (x m : VM) (a1 : Int32) (a2 : Int32), Inv x m → ∃ (r : Int32) (x' : VM) (m' : VM), f_X11_ill x a1 a2 = some (r, x') ∧ f_X12_ill m a1 a2 = some (r, m') ∧ Inv x' m'
theorem l_12_ill {g : GG} {d : Nat} {ad : AD} {x m : VM} {Inv : VM → VM → Prop} {kc ks i : Nat} {X Y : Nat} {K : Option Value → Heap → Prop} (sim : S_ill Inv) (hI : Inv x m) (hX : ad 11 0 = X) (hY : ad 12 0 = Y) (h6 : i + 6 ≤ gN g) (hN : gN g < 2 ^ 31) (next : ∀ ad' x' m', ad' 11 0 = X → ad' 12 0 = Y → Inv x' m' → Ev g (d + 30) ML_law (Rep g ad' x' m') kc ks 2154 [some (.ref (gb g)), some (.ref X), some (.ref Y), some (.int (nI i))] [] K) : Ev g (d + 30) ML_law (Rep g ad x m) (kc) (ks) 711 [some (.ref (gb g)), some (.ref X), some (.ref Y), some (.int (nI i))] [] K := by
  subst hX hY
  obtain ⟨r, x', m', hx, hm, hI2⟩ := sim x m (gx g (nI i + 1).toNatClampNeg) (gx g (nI i + 2).toNatClampNeg) hI
  refine e_aload_n dL_law_711 rfl rfl ?_
  refine e_aload_n dL_law_712 rfl rfl ?_
  refine e_iload_n dL_law_713 rfl rfl ?_
  refine e_iconst (v := 1) dL_law_714 rfl ?_
  refine e_iadd dL_law_715 ?_
  refine e_xaload dL_law_716 (xin 1 h6 hN (by decide)) ?_
  refine e_aload_n dL_law_717 rfl rfl ?_
  refine e_pc (pc' := 718) rfl ?_
  refine e_iload_n dL_law_718 rfl rfl ?_
  refine e_iconst (v := 2) dL_law_719 rfl ?_
  refine e_iadd dL_law_720 ?_
  refine e_xaload dL_law_721 (xin 2 h6 hN (by decide)) ?_
  refine y_callV (c := 11) (i := 0) (As := [.int (gx g (nI i + 1).toNatClampNeg), .int (gx g (nI i + 2).toNatClampNeg)]) (rest := []) (w := some (.int r)) (x1 := x') (m1 := m) okX11_ill lkL_70 rfl (by decide) rfl dL_law_722 rfl rfl (Nat.le_of_ble_eq_true rfl) rfl (c_X11_ill (gx g (nI i + 1).toNatClampNeg) (gx g (nI i + 2).toNatClampNeg) hx ⟨rfl, rfl, rfl⟩) ?_
  refine e_pc (pc' := 725) rfl ?_
  refine e_aload_n dL_law_725 rfl rfl ?_
  refine e_aload_n dL_law_726 rfl rfl ?_
  refine e_iload_n dL_law_727 rfl rfl ?_
  refine e_pc (pc' := 728) rfl ?_
  refine e_iconst (v := 1) dL_law_728 rfl ?_
  refine e_iadd dL_law_729 ?_
  refine e_xaload dL_law_730 (xin 1 h6 hN (by decide)) ?_
  refine e_aload_n dL_law_731 rfl rfl ?_
  refine e_iload_n dL_law_732 rfl rfl ?_
  refine e_iconst (v := 2) dL_law_733 rfl ?_
  refine e_iadd dL_law_734 ?_
  refine e_xaload dL_law_735 (xin 2 h6 hN (by decide)) ?_
  refine e_pc (pc' := 736) rfl ?_
  refine y_callV (c := 12) (i := 0) (As := [.int (gx g (nI i + 1).toNatClampNeg), .int (gx g (nI i + 2).toNatClampNeg)]) (rest := [.int r]) (w := some (.int r)) (x1 := x') (m1 := m') okX12_ill lkL_73 rfl (by decide) rfl dL_law_736 rfl rfl (Nat.le_of_ble_eq_true rfl) rfl (c_X12_ill (gx g (nI i + 1).toNatClampNeg) (gx g (nI i + 2).toNatClampNeg) hm ⟨rfl, rfl, rfl⟩) ?_
  refine e_pc (pc' := 739) rfl ?_
  refine e_icmp_eq (tgt := 2154) dL_law_739 rfl (fun _ => ?_) (fun h => absurd rfl h)
  exact next ad x' m' rfl rfl hI2
/-- the class and the reference answer alike: refuse -/
def S_refuse (Inv : VM → VM → Prop) : Prop := ∀ (x m : VM) (a1 : Int32), Inv x m → ∃ (r : Int32) (x' : VM) (m' : VM), f_X11_refuse x a1 = some (r, x') ∧ f_X12_refuse m a1 = some (r, m') ∧ Inv x' m'
theorem l_13_refuse {g : GG} {d : Nat} {ad : AD} {x m : VM} {Inv : VM → VM → Prop} {kc ks i : Nat} {X Y : Nat} {K : Option Value → Heap → Prop} (sim : S_refuse Inv) (hI : Inv x m) (hX : ad 11 0 = X) (hY : ad 12 0 = Y) (h6 : i + 6 ≤ gN g) (hN : gN g < 2 ^ 31) (next : ∀ ad' x' m', ad' 11 0 = X → ad' 12 0 = Y → Inv x' m' → Ev g (d + 30) ML_law (Rep g ad' x' m') kc ks 2154 [some (.ref (gb g)), some (.ref X), some (.ref Y), some (.int (nI i))] [] K) : Ev g (d + 30) ML_law (Rep g ad x m) (kc) (ks) 744 [some (.ref (gb g)), some (.ref X), some (.ref Y), some (.int (nI i))] [] K := by
  subst hX hY
  obtain ⟨r, x', m', hx, hm, hI2⟩ := sim x m (gx g (nI i + 1).toNatClampNeg) hI
  refine e_aload_n dL_law_744 rfl rfl ?_
  refine e_aload_n dL_law_745 rfl rfl ?_
  refine e_iload_n dL_law_746 rfl rfl ?_
  refine e_iconst (v := 1) dL_law_747 rfl ?_
  refine e_iadd dL_law_748 ?_
  refine e_xaload dL_law_749 (xin 1 h6 hN (by decide)) ?_
  refine y_callV (c := 11) (i := 0) (As := [.int (gx g (nI i + 1).toNatClampNeg)]) (rest := []) (w := some (.int r)) (x1 := x') (m1 := m) okX11_refuse lkL_74 rfl (by decide) rfl dL_law_750 rfl rfl (Nat.le_of_ble_eq_true rfl) rfl (c_X11_refuse (gx g (nI i + 1).toNatClampNeg) hx ⟨rfl, rfl, rfl⟩) ?_
  refine e_pc (pc' := 753) rfl ?_
  refine e_pc (pc' := 753) rfl ?_
  refine e_aload_n dL_law_753 rfl rfl ?_
  refine e_aload_n dL_law_754 rfl rfl ?_
  refine e_iload_n dL_law_755 rfl rfl ?_
  refine e_iconst (v := 1) dL_law_756 rfl ?_
  refine e_iadd dL_law_757 ?_
  refine e_xaload dL_law_758 (xin 1 h6 hN (by decide)) ?_
  refine y_callV (c := 12) (i := 0) (As := [.int (gx g (nI i + 1).toNatClampNeg)]) (rest := [.int r]) (w := some (.int r)) (x1 := x') (m1 := m') okX12_refuse lkL_77 rfl (by decide) rfl dL_law_759 rfl rfl (Nat.le_of_ble_eq_true rfl) rfl (c_X12_refuse (gx g (nI i + 1).toNatClampNeg) hm ⟨rfl, rfl, rfl⟩) ?_
  refine e_pc (pc' := 762) rfl ?_
  refine e_icmp_eq (tgt := 2154) dL_law_762 rfl (fun _ => ?_) (fun h => absurd rfl h)
  exact next ad x' m' rfl rfl hI2
/-- the class and the reference answer alike: recall -/
def S_recall (Inv : VM → VM → Prop) : Prop := ∀ (x m : VM) (a1 : Int32), Inv x m → ∃ (r : Int32) (x' : VM) (m' : VM), f_X11_recall x a1 = some (r, x') ∧ f_X12_recall m a1 = some (r, m') ∧ Inv x' m'
theorem l_14_recall {g : GG} {d : Nat} {ad : AD} {x m : VM} {Inv : VM → VM → Prop} {kc ks i : Nat} {X Y : Nat} {K : Option Value → Heap → Prop} (sim : S_recall Inv) (hI : Inv x m) (hX : ad 11 0 = X) (hY : ad 12 0 = Y) (h6 : i + 6 ≤ gN g) (hN : gN g < 2 ^ 31) (next : ∀ ad' x' m', ad' 11 0 = X → ad' 12 0 = Y → Inv x' m' → Ev g (d + 30) ML_law (Rep g ad' x' m') kc ks 2154 [some (.ref (gb g)), some (.ref X), some (.ref Y), some (.int (nI i))] [] K) : Ev g (d + 30) ML_law (Rep g ad x m) (kc) (ks) 767 [some (.ref (gb g)), some (.ref X), some (.ref Y), some (.int (nI i))] [] K := by
  subst hX hY
  obtain ⟨r, x', m', hx, hm, hI2⟩ := sim x m (gx g (nI i + 1).toNatClampNeg) hI
  refine e_aload_n dL_law_767 rfl rfl ?_
  refine e_aload_n dL_law_768 rfl rfl ?_
  refine e_iload_n dL_law_769 rfl rfl ?_
  refine e_iconst (v := 1) dL_law_770 rfl ?_
  refine e_iadd dL_law_771 ?_
  refine e_xaload dL_law_772 (xin 1 h6 hN (by decide)) ?_
  refine y_callV (c := 11) (i := 0) (As := [.int (gx g (nI i + 1).toNatClampNeg)]) (rest := []) (w := some (.int r)) (x1 := x') (m1 := m) okX11_recall lkL_78 rfl (by decide) rfl dL_law_773 rfl rfl (Nat.le_of_ble_eq_true rfl) rfl (c_X11_recall (gx g (nI i + 1).toNatClampNeg) hx ⟨rfl, rfl, rfl⟩) ?_
  refine e_pc (pc' := 776) rfl ?_
  refine e_pc (pc' := 776) rfl ?_
  refine e_aload_n dL_law_776 rfl rfl ?_
  refine e_aload_n dL_law_777 rfl rfl ?_
  refine e_iload_n dL_law_778 rfl rfl ?_
  refine e_iconst (v := 1) dL_law_779 rfl ?_
  refine e_iadd dL_law_780 ?_
  refine e_xaload dL_law_781 (xin 1 h6 hN (by decide)) ?_
  refine y_callV (c := 12) (i := 0) (As := [.int (gx g (nI i + 1).toNatClampNeg)]) (rest := [.int r]) (w := some (.int r)) (x1 := x') (m1 := m') okX12_recall lkL_81 rfl (by decide) rfl dL_law_782 rfl rfl (Nat.le_of_ble_eq_true rfl) rfl (c_X12_recall (gx g (nI i + 1).toNatClampNeg) hm ⟨rfl, rfl, rfl⟩) ?_
  refine e_pc (pc' := 785) rfl ?_
  refine e_icmp_eq (tgt := 2154) dL_law_785 rfl (fun _ => ?_) (fun h => absurd rfl h)
  exact next ad x' m' rfl rfl hI2
/-- the class and the reference answer alike: lend -/
def S_lend (Inv : VM → VM → Prop) : Prop := ∀ (x m : VM) (a1 : Int32) (a2 : Int32) (a3 : Int32), Inv x m → ∃ (r : Int32) (x' : VM) (m' : VM), f_X11_lend x a1 a2 a3 = some (r, x') ∧ f_X12_lend m a1 a2 a3 = some (r, m') ∧ Inv x' m'
theorem l_15_lend {g : GG} {d : Nat} {ad : AD} {x m : VM} {Inv : VM → VM → Prop} {kc ks i : Nat} {X Y : Nat} {K : Option Value → Heap → Prop} (sim : S_lend Inv) (hI : Inv x m) (hX : ad 11 0 = X) (hY : ad 12 0 = Y) (h6 : i + 6 ≤ gN g) (hN : gN g < 2 ^ 31) (next : ∀ ad' x' m', ad' 11 0 = X → ad' 12 0 = Y → Inv x' m' → Ev g (d + 30) ML_law (Rep g ad' x' m') kc ks 2154 [some (.ref (gb g)), some (.ref X), some (.ref Y), some (.int (nI i))] [] K) : Ev g (d + 30) ML_law (Rep g ad x m) (kc) (ks) 790 [some (.ref (gb g)), some (.ref X), some (.ref Y), some (.int (nI i))] [] K := by
  subst hX hY
  obtain ⟨r, x', m', hx, hm, hI2⟩ := sim x m (gx g (nI i + 1).toNatClampNeg) (gx g (nI i + 2).toNatClampNeg) (gx g (nI i + 3).toNatClampNeg) hI
  refine e_aload_n dL_law_790 rfl rfl ?_
  refine e_aload_n dL_law_791 rfl rfl ?_
  refine e_iload_n dL_law_792 rfl rfl ?_
  refine e_iconst (v := 1) dL_law_793 rfl ?_
  refine e_iadd dL_law_794 ?_
  refine e_xaload dL_law_795 (xin 1 h6 hN (by decide)) ?_
  refine e_aload_n dL_law_796 rfl rfl ?_
  refine e_pc (pc' := 797) rfl ?_
  refine e_iload_n dL_law_797 rfl rfl ?_
  refine e_iconst (v := 2) dL_law_798 rfl ?_
  refine e_iadd dL_law_799 ?_
  refine e_xaload dL_law_800 (xin 2 h6 hN (by decide)) ?_
  refine e_aload_n dL_law_801 rfl rfl ?_
  refine e_iload_n dL_law_802 rfl rfl ?_
  refine e_iconst (v := 3) dL_law_803 rfl ?_
  refine e_iadd dL_law_804 ?_
  refine e_pc (pc' := 805) rfl ?_
  refine e_xaload dL_law_805 (xin 3 h6 hN (by decide)) ?_
  refine y_callV (c := 11) (i := 0) (As := [.int (gx g (nI i + 1).toNatClampNeg), .int (gx g (nI i + 2).toNatClampNeg), .int (gx g (nI i + 3).toNatClampNeg)]) (rest := []) (w := some (.int r)) (x1 := x') (m1 := m) okX11_lend lkL_82 rfl (by decide) rfl dL_law_806 rfl rfl (Nat.le_of_ble_eq_true rfl) rfl (c_X11_lend (gx g (nI i + 1).toNatClampNeg) (gx g (nI i + 2).toNatClampNeg) (gx g (nI i + 3).toNatClampNeg) hx ⟨rfl, rfl, rfl⟩) ?_
  refine e_pc (pc' := 809) rfl ?_
  refine e_aload_n dL_law_809 rfl rfl ?_
  refine e_aload_n dL_law_810 rfl rfl ?_
  refine e_iload_n dL_law_811 rfl rfl ?_
  refine e_iconst (v := 1) dL_law_812 rfl ?_
  refine e_iadd dL_law_813 ?_
  refine e_xaload dL_law_814 (xin 1 h6 hN (by decide)) ?_
  refine e_pc (pc' := 815) rfl ?_
  refine e_aload_n dL_law_815 rfl rfl ?_
  refine e_iload_n dL_law_816 rfl rfl ?_
  refine e_iconst (v := 2) dL_law_817 rfl ?_
  refine e_iadd dL_law_818 ?_
  refine e_xaload dL_law_819 (xin 2 h6 hN (by decide)) ?_
  refine e_aload_n dL_law_820 rfl rfl ?_
  refine e_iload_n dL_law_821 rfl rfl ?_
  refine e_iconst (v := 3) dL_law_822 rfl ?_
  refine e_pc (pc' := 823) rfl ?_
  refine e_iadd dL_law_823 ?_
  refine e_xaload dL_law_824 (xin 3 h6 hN (by decide)) ?_
  refine y_callV (c := 12) (i := 0) (As := [.int (gx g (nI i + 1).toNatClampNeg), .int (gx g (nI i + 2).toNatClampNeg), .int (gx g (nI i + 3).toNatClampNeg)]) (rest := [.int r]) (w := some (.int r)) (x1 := x') (m1 := m') okX12_lend lkL_85 rfl (by decide) rfl dL_law_825 rfl rfl (Nat.le_of_ble_eq_true rfl) rfl (c_X12_lend (gx g (nI i + 1).toNatClampNeg) (gx g (nI i + 2).toNatClampNeg) (gx g (nI i + 3).toNatClampNeg) hm ⟨rfl, rfl, rfl⟩) ?_
  refine e_pc (pc' := 828) rfl ?_
  refine e_icmp_eq (tgt := 2154) dL_law_828 rfl (fun _ => ?_) (fun h => absurd rfl h)
  exact next ad x' m' rfl rfl hI2
/-- the class and the reference answer alike: picture -/
def S_picture (Inv : VM → VM → Prop) : Prop := ∀ (x m : VM) (a1 : Int32), Inv x m → ∃ (r : Int32) (x' : VM) (m' : VM), f_X11_picture x a1 = some (r, x') ∧ f_X12_picture m a1 = some (r, m') ∧ Inv x' m'
theorem l_16_picture {g : GG} {d : Nat} {ad : AD} {x m : VM} {Inv : VM → VM → Prop} {kc ks i : Nat} {X Y : Nat} {K : Option Value → Heap → Prop} (sim : S_picture Inv) (hk : ∀ x m, Inv x m → KX x ∧ x.2.2.2 0 ≤ x.2.2.2 5) (hI : Inv x m) (hX : ad 11 0 = X) (hY : ad 12 0 = Y) (h6 : i + 6 ≤ gN g) (hN : gN g < 2 ^ 31) (next : ∀ ad' x' m', ad' 11 0 = X → ad' 12 0 = Y → Inv x' m' → Ev g (d + 30) ML_law (Rep g ad' x' m') kc ks 2154 [some (.ref (gb g)), some (.ref X), some (.ref Y), some (.int (nI i))] [] K) : Ev g (d + 30) ML_law (Rep g ad x m) (9 + kc) (178 + ks) 833 [some (.ref (gb g)), some (.ref X), some (.ref Y), some (.int (nI i))] [] K := by
  subst hX hY
  obtain ⟨r, x', m', hx, hm, hI2⟩ := sim x m (gx g (nI i + 1).toNatClampNeg) hI
  refine e_aload_n dL_law_833 rfl rfl ?_
  refine e_aload_n dL_law_834 rfl rfl ?_
  refine e_iload_n dL_law_835 rfl rfl ?_
  refine e_iconst (v := 1) dL_law_836 rfl ?_
  refine e_iadd dL_law_837 ?_
  refine e_xaload dL_law_838 (xin 1 h6 hN (by decide)) ?_
  refine y_make (As := [.int (gx g (nI i + 1).toNatClampNeg)]) (rest := []) (mc := 9) (ms := 178) (kc := kc) (ks := ks) okX11_picture lkL_86 rfl dL_law_839 rfl rfl (Nat.le_of_ble_eq_true rfl) rfl rfl (c_X11_picture (gx g (nI i + 1).toNatClampNeg) (hk x m hI).1 (hk x m hI).2 hx) (fun ad9 e11 e12 => ?_)
  rw [← e11, ← e12] at next ⊢
  refine e_pc (pc' := 842) rfl ?_
  refine e_pc (pc' := 842) rfl ?_
  refine e_aload_n dL_law_842 rfl rfl ?_
  refine e_aload_n dL_law_843 rfl rfl ?_
  refine e_iload_n dL_law_844 rfl rfl ?_
  refine e_iconst (v := 1) dL_law_845 rfl ?_
  refine e_iadd dL_law_846 ?_
  refine e_xaload dL_law_847 (xin 1 h6 hN (by decide)) ?_
  refine y_callV (c := 12) (i := 0) (As := [.int (gx g (nI i + 1).toNatClampNeg)]) (rest := [.int r]) (w := some (.int r)) (x1 := x') (m1 := m') okX12_picture lkL_89 rfl (by decide) rfl dL_law_848 rfl rfl (Nat.le_of_ble_eq_true rfl) rfl (c_X12_picture (gx g (nI i + 1).toNatClampNeg) hm ⟨rfl, rfl, rfl⟩) ?_
  refine e_pc (pc' := 851) rfl ?_
  refine e_icmp_eq (tgt := 2154) dL_law_851 rfl (fun _ => ?_) (fun h => absurd rfl h)
  exact next ad9 x' m' rfl rfl hI2
/-- the class and the reference answer alike: scene -/
def S_scene (Inv : VM → VM → Prop) : Prop := ∀ (x m : VM) (a1 : Int32) (a2 : Int32) (a3 : Int32) (a4 : Int32), Inv x m → ∃ (r : Int32) (x' : VM) (m' : VM), f_X11_scene x a1 a2 a3 a4 = some (r, x') ∧ f_X12_scene m a1 a2 a3 a4 = some (r, m') ∧ Inv x' m'
theorem l_17_scene {g : GG} {d : Nat} {ad : AD} {x m : VM} {Inv : VM → VM → Prop} {kc ks i : Nat} {X Y : Nat} {K : Option Value → Heap → Prop} (sim : S_scene Inv) (hk : ∀ x m, Inv x m → KX x ∧ x.2.2.2 0 ≤ x.2.2.2 5) (hI : Inv x m) (hX : ad 11 0 = X) (hY : ad 12 0 = Y) (h6 : i + 6 ≤ gN g) (hN : gN g < 2 ^ 31) (next : ∀ ad' x' m', ad' 11 0 = X → ad' 12 0 = Y → Inv x' m' → Ev g (d + 30) ML_law (Rep g ad' x' m') kc ks 2154 [some (.ref (gb g)), some (.ref X), some (.ref Y), some (.int (nI i))] [] K) : Ev g (d + 30) ML_law (Rep g ad x m) (5 + kc) (25 + ks) 856 [some (.ref (gb g)), some (.ref X), some (.ref Y), some (.int (nI i))] [] K := by
  subst hX hY
  obtain ⟨r, x', m', hx, hm, hI2⟩ := sim x m (gx g (nI i + 1).toNatClampNeg) (gx g (nI i + 2).toNatClampNeg) (gx g (nI i + 3).toNatClampNeg) (gx g (nI i + 4).toNatClampNeg) hI
  refine e_aload_n dL_law_856 rfl rfl ?_
  refine e_aload_n dL_law_857 rfl rfl ?_
  refine e_iload_n dL_law_858 rfl rfl ?_
  refine e_iconst (v := 1) dL_law_859 rfl ?_
  refine e_iadd dL_law_860 ?_
  refine e_xaload dL_law_861 (xin 1 h6 hN (by decide)) ?_
  refine e_aload_n dL_law_862 rfl rfl ?_
  refine e_pc (pc' := 863) rfl ?_
  refine e_iload_n dL_law_863 rfl rfl ?_
  refine e_iconst (v := 2) dL_law_864 rfl ?_
  refine e_iadd dL_law_865 ?_
  refine e_xaload dL_law_866 (xin 2 h6 hN (by decide)) ?_
  refine e_aload_n dL_law_867 rfl rfl ?_
  refine e_iload_n dL_law_868 rfl rfl ?_
  refine e_iconst (v := 3) dL_law_869 rfl ?_
  refine e_iadd dL_law_870 ?_
  refine e_pc (pc' := 871) rfl ?_
  refine e_xaload dL_law_871 (xin 3 h6 hN (by decide)) ?_
  refine e_aload_n dL_law_872 rfl rfl ?_
  refine e_iload_n dL_law_873 rfl rfl ?_
  refine e_iconst (v := 4) dL_law_874 rfl ?_
  refine e_iadd dL_law_875 ?_
  refine e_xaload dL_law_876 (xin 4 h6 hN (by decide)) ?_
  refine y_make (As := [.int (gx g (nI i + 1).toNatClampNeg), .int (gx g (nI i + 2).toNatClampNeg), .int (gx g (nI i + 3).toNatClampNeg), .int (gx g (nI i + 4).toNatClampNeg)]) (rest := []) (mc := 5) (ms := 25) (kc := kc) (ks := ks) okX11_scene lkL_90 rfl dL_law_877 rfl rfl (Nat.le_of_ble_eq_true rfl) rfl rfl (c_X11_scene (gx g (nI i + 1).toNatClampNeg) (gx g (nI i + 2).toNatClampNeg) (gx g (nI i + 3).toNatClampNeg) (gx g (nI i + 4).toNatClampNeg) (hk x m hI).1 hx) (fun ad9 e11 e12 => ?_)
  rw [← e11, ← e12] at next ⊢
  refine e_pc (pc' := 880) rfl ?_
  refine e_aload_n dL_law_880 rfl rfl ?_
  refine e_pc (pc' := 881) rfl ?_
  refine e_aload_n dL_law_881 rfl rfl ?_
  refine e_iload_n dL_law_882 rfl rfl ?_
  refine e_iconst (v := 1) dL_law_883 rfl ?_
  refine e_iadd dL_law_884 ?_
  refine e_xaload dL_law_885 (xin 1 h6 hN (by decide)) ?_
  refine e_aload_n dL_law_886 rfl rfl ?_
  refine e_iload_n dL_law_887 rfl rfl ?_
  refine e_iconst (v := 2) dL_law_888 rfl ?_
  refine e_pc (pc' := 889) rfl ?_
  refine e_iadd dL_law_889 ?_
  refine e_xaload dL_law_890 (xin 2 h6 hN (by decide)) ?_
  refine e_aload_n dL_law_891 rfl rfl ?_
  refine e_iload_n dL_law_892 rfl rfl ?_
  refine e_iconst (v := 3) dL_law_893 rfl ?_
  refine e_iadd dL_law_894 ?_
  refine e_xaload dL_law_895 (xin 3 h6 hN (by decide)) ?_
  refine e_aload_n dL_law_896 rfl rfl ?_
  refine e_pc (pc' := 897) rfl ?_
  refine e_iload_n dL_law_897 rfl rfl ?_
  refine e_iconst (v := 4) dL_law_898 rfl ?_
  refine e_iadd dL_law_899 ?_
  refine e_xaload dL_law_900 (xin 4 h6 hN (by decide)) ?_
  refine y_callV (c := 12) (i := 0) (As := [.int (gx g (nI i + 1).toNatClampNeg), .int (gx g (nI i + 2).toNatClampNeg), .int (gx g (nI i + 3).toNatClampNeg), .int (gx g (nI i + 4).toNatClampNeg)]) (rest := [.int r]) (w := some (.int r)) (x1 := x') (m1 := m') okX12_scene lkL_94 rfl (by decide) rfl dL_law_901 rfl rfl (Nat.le_of_ble_eq_true rfl) rfl (c_X12_scene (gx g (nI i + 1).toNatClampNeg) (gx g (nI i + 2).toNatClampNeg) (gx g (nI i + 3).toNatClampNeg) (gx g (nI i + 4).toNatClampNeg) hm ⟨rfl, rfl, rfl⟩) ?_
  refine e_pc (pc' := 904) rfl ?_
  refine e_icmp_eq (tgt := 2154) dL_law_904 rfl (fun _ => ?_) (fun h => absurd rfl h)
  exact next ad9 x' m' rfl rfl hI2
/-- the class and the reference answer alike: mark -/
def S_mark (Inv : VM → VM → Prop) : Prop := ∀ (x m : VM) (a1 : Int32) (a2 : Int32) (a3 : Int32) (a4 : Int32), Inv x m → ∃ (r : Int32) (x' : VM) (m' : VM), f_X11_mark x a1 a2 a3 a4 = some (r, x') ∧ f_X12_mark m a1 a2 a3 a4 = some (r, m') ∧ Inv x' m'
theorem l_18_mark {g : GG} {d : Nat} {ad : AD} {x m : VM} {Inv : VM → VM → Prop} {kc ks i : Nat} {X Y : Nat} {K : Option Value → Heap → Prop} (sim : S_mark Inv) (hI : Inv x m) (hX : ad 11 0 = X) (hY : ad 12 0 = Y) (h6 : i + 6 ≤ gN g) (hN : gN g < 2 ^ 31) (next : ∀ ad' x' m', ad' 11 0 = X → ad' 12 0 = Y → Inv x' m' → Ev g (d + 30) ML_law (Rep g ad' x' m') kc ks 2154 [some (.ref (gb g)), some (.ref X), some (.ref Y), some (.int (nI i))] [] K) : Ev g (d + 30) ML_law (Rep g ad x m) (kc) (ks) 909 [some (.ref (gb g)), some (.ref X), some (.ref Y), some (.int (nI i))] [] K := by
  subst hX hY
  obtain ⟨r, x', m', hx, hm, hI2⟩ := sim x m (gx g (nI i + 1).toNatClampNeg) (gx g (nI i + 2).toNatClampNeg) (gx g (nI i + 3).toNatClampNeg) (gx g (nI i + 4).toNatClampNeg) hI
  refine e_aload_n dL_law_909 rfl rfl ?_
  refine e_aload_n dL_law_910 rfl rfl ?_
  refine e_iload_n dL_law_911 rfl rfl ?_
  refine e_iconst (v := 1) dL_law_912 rfl ?_
  refine e_iadd dL_law_913 ?_
  refine e_xaload dL_law_914 (xin 1 h6 hN (by decide)) ?_
  refine e_aload_n dL_law_915 rfl rfl ?_
  refine e_pc (pc' := 916) rfl ?_
  refine e_iload_n dL_law_916 rfl rfl ?_
  refine e_iconst (v := 2) dL_law_917 rfl ?_
  refine e_iadd dL_law_918 ?_
  refine e_xaload dL_law_919 (xin 2 h6 hN (by decide)) ?_
  refine e_aload_n dL_law_920 rfl rfl ?_
  refine e_iload_n dL_law_921 rfl rfl ?_
  refine e_iconst (v := 3) dL_law_922 rfl ?_
  refine e_iadd dL_law_923 ?_
  refine e_pc (pc' := 924) rfl ?_
  refine e_xaload dL_law_924 (xin 3 h6 hN (by decide)) ?_
  refine e_aload_n dL_law_925 rfl rfl ?_
  refine e_iload_n dL_law_926 rfl rfl ?_
  refine e_iconst (v := 4) dL_law_927 rfl ?_
  refine e_iadd dL_law_928 ?_
  refine e_xaload dL_law_929 (xin 4 h6 hN (by decide)) ?_
  refine y_callV (c := 11) (i := 0) (As := [.int (gx g (nI i + 1).toNatClampNeg), .int (gx g (nI i + 2).toNatClampNeg), .int (gx g (nI i + 3).toNatClampNeg), .int (gx g (nI i + 4).toNatClampNeg)]) (rest := []) (w := some (.int r)) (x1 := x') (m1 := m) okX11_mark lkL_95 rfl (by decide) rfl dL_law_930 rfl rfl (Nat.le_of_ble_eq_true rfl) rfl (c_X11_mark (gx g (nI i + 1).toNatClampNeg) (gx g (nI i + 2).toNatClampNeg) (gx g (nI i + 3).toNatClampNeg) (gx g (nI i + 4).toNatClampNeg) hx ⟨rfl, rfl, rfl⟩) ?_
  refine e_pc (pc' := 933) rfl ?_
  refine e_aload_n dL_law_933 rfl rfl ?_
  refine e_pc (pc' := 934) rfl ?_
  refine e_aload_n dL_law_934 rfl rfl ?_
  refine e_iload_n dL_law_935 rfl rfl ?_
  refine e_iconst (v := 1) dL_law_936 rfl ?_
  refine e_iadd dL_law_937 ?_
  refine e_xaload dL_law_938 (xin 1 h6 hN (by decide)) ?_
  refine e_aload_n dL_law_939 rfl rfl ?_
  refine e_iload_n dL_law_940 rfl rfl ?_
  refine e_iconst (v := 2) dL_law_941 rfl ?_
  refine e_pc (pc' := 942) rfl ?_
  refine e_iadd dL_law_942 ?_
  refine e_xaload dL_law_943 (xin 2 h6 hN (by decide)) ?_
  refine e_aload_n dL_law_944 rfl rfl ?_
  refine e_iload_n dL_law_945 rfl rfl ?_
  refine e_iconst (v := 3) dL_law_946 rfl ?_
  refine e_iadd dL_law_947 ?_
  refine e_xaload dL_law_948 (xin 3 h6 hN (by decide)) ?_
  refine e_aload_n dL_law_949 rfl rfl ?_
  refine e_pc (pc' := 950) rfl ?_
  refine e_iload_n dL_law_950 rfl rfl ?_
  refine e_iconst (v := 4) dL_law_951 rfl ?_
  refine e_iadd dL_law_952 ?_
  refine e_xaload dL_law_953 (xin 4 h6 hN (by decide)) ?_
  refine y_callV (c := 12) (i := 0) (As := [.int (gx g (nI i + 1).toNatClampNeg), .int (gx g (nI i + 2).toNatClampNeg), .int (gx g (nI i + 3).toNatClampNeg), .int (gx g (nI i + 4).toNatClampNeg)]) (rest := [.int r]) (w := some (.int r)) (x1 := x') (m1 := m') okX12_mark lkL_98 rfl (by decide) rfl dL_law_954 rfl rfl (Nat.le_of_ble_eq_true rfl) rfl (c_X12_mark (gx g (nI i + 1).toNatClampNeg) (gx g (nI i + 2).toNatClampNeg) (gx g (nI i + 3).toNatClampNeg) (gx g (nI i + 4).toNatClampNeg) hm ⟨rfl, rfl, rfl⟩) ?_
  refine e_pc (pc' := 957) rfl ?_
  refine e_icmp_eq (tgt := 2154) dL_law_957 rfl (fun _ => ?_) (fun h => absurd rfl h)
  exact next ad x' m' rfl rfl hI2
/-- the class and the reference answer alike: costs -/
def S_costs (Inv : VM → VM → Prop) : Prop := ∀ (x m : VM) (a1 : Int32) (a2 : Int32), Inv x m → ∃ (r : Int32) (x' : VM) (m' : VM), f_X11_costs x a1 a2 = some (r, x') ∧ f_X12_costs m a1 a2 = some (r, m') ∧ Inv x' m'
theorem l_19_costs {g : GG} {d : Nat} {ad : AD} {x m : VM} {Inv : VM → VM → Prop} {kc ks i : Nat} {X Y : Nat} {K : Option Value → Heap → Prop} (sim : S_costs Inv) (hI : Inv x m) (hX : ad 11 0 = X) (hY : ad 12 0 = Y) (h6 : i + 6 ≤ gN g) (hN : gN g < 2 ^ 31) (next : ∀ ad' x' m', ad' 11 0 = X → ad' 12 0 = Y → Inv x' m' → Ev g (d + 30) ML_law (Rep g ad' x' m') kc ks 2154 [some (.ref (gb g)), some (.ref X), some (.ref Y), some (.int (nI i))] [] K) : Ev g (d + 30) ML_law (Rep g ad x m) (kc) (ks) 962 [some (.ref (gb g)), some (.ref X), some (.ref Y), some (.int (nI i))] [] K := by
  subst hX hY
  obtain ⟨r, x', m', hx, hm, hI2⟩ := sim x m (gx g (nI i + 1).toNatClampNeg) (gx g (nI i + 2).toNatClampNeg) hI
  refine e_aload_n dL_law_962 rfl rfl ?_
  refine e_aload_n dL_law_963 rfl rfl ?_
  refine e_iload_n dL_law_964 rfl rfl ?_
  refine e_iconst (v := 1) dL_law_965 rfl ?_
  refine e_iadd dL_law_966 ?_
  refine e_xaload dL_law_967 (xin 1 h6 hN (by decide)) ?_
  refine e_aload_n dL_law_968 rfl rfl ?_
  refine e_pc (pc' := 969) rfl ?_
  refine e_iload_n dL_law_969 rfl rfl ?_
  refine e_iconst (v := 2) dL_law_970 rfl ?_
  refine e_iadd dL_law_971 ?_
  refine e_xaload dL_law_972 (xin 2 h6 hN (by decide)) ?_
  refine y_callV (c := 11) (i := 0) (As := [.int (gx g (nI i + 1).toNatClampNeg), .int (gx g (nI i + 2).toNatClampNeg)]) (rest := []) (w := some (.int r)) (x1 := x') (m1 := m) okX11_costs lkL_99 rfl (by decide) rfl dL_law_973 rfl rfl (Nat.le_of_ble_eq_true rfl) rfl (c_X11_costs (gx g (nI i + 1).toNatClampNeg) (gx g (nI i + 2).toNatClampNeg) hx ⟨rfl, rfl, rfl⟩) ?_
  refine e_pc (pc' := 976) rfl ?_
  refine e_aload_n dL_law_976 rfl rfl ?_
  refine e_aload_n dL_law_977 rfl rfl ?_
  refine e_iload_n dL_law_978 rfl rfl ?_
  refine e_pc (pc' := 979) rfl ?_
  refine e_iconst (v := 1) dL_law_979 rfl ?_
  refine e_iadd dL_law_980 ?_
  refine e_xaload dL_law_981 (xin 1 h6 hN (by decide)) ?_
  refine e_aload_n dL_law_982 rfl rfl ?_
  refine e_iload_n dL_law_983 rfl rfl ?_
  refine e_iconst (v := 2) dL_law_984 rfl ?_
  refine e_iadd dL_law_985 ?_
  refine e_xaload dL_law_986 (xin 2 h6 hN (by decide)) ?_
  refine e_pc (pc' := 987) rfl ?_
  refine y_callV (c := 12) (i := 0) (As := [.int (gx g (nI i + 1).toNatClampNeg), .int (gx g (nI i + 2).toNatClampNeg)]) (rest := [.int r]) (w := some (.int r)) (x1 := x') (m1 := m') okX12_costs lkL_102 rfl (by decide) rfl dL_law_987 rfl rfl (Nat.le_of_ble_eq_true rfl) rfl (c_X12_costs (gx g (nI i + 1).toNatClampNeg) (gx g (nI i + 2).toNatClampNeg) hm ⟨rfl, rfl, rfl⟩) ?_
  refine e_pc (pc' := 990) rfl ?_
  refine e_icmp_eq (tgt := 2154) dL_law_990 rfl (fun _ => ?_) (fun h => absurd rfl h)
  exact next ad x' m' rfl rfl hI2
/-- the class and the reference answer alike: best -/
def S_best (Inv : VM → VM → Prop) : Prop := ∀ (x m : VM) (a1 : Int32), Inv x m → ∃ (r : Int32) (x' : VM) (m' : VM), f_X11_best x a1 = some (r, x') ∧ f_X12_best m a1 = some (r, m') ∧ Inv x' m'
theorem l_20_best {g : GG} {d : Nat} {ad : AD} {x m : VM} {Inv : VM → VM → Prop} {kc ks i : Nat} {X Y : Nat} {K : Option Value → Heap → Prop} (sim : S_best Inv) (hI : Inv x m) (hX : ad 11 0 = X) (hY : ad 12 0 = Y) (h6 : i + 6 ≤ gN g) (hN : gN g < 2 ^ 31) (next : ∀ ad' x' m', ad' 11 0 = X → ad' 12 0 = Y → Inv x' m' → Ev g (d + 30) ML_law (Rep g ad' x' m') kc ks 2154 [some (.ref (gb g)), some (.ref X), some (.ref Y), some (.int (nI i))] [] K) : Ev g (d + 30) ML_law (Rep g ad x m) (kc) (ks) 995 [some (.ref (gb g)), some (.ref X), some (.ref Y), some (.int (nI i))] [] K := by
  subst hX hY
  obtain ⟨r, x', m', hx, hm, hI2⟩ := sim x m (gx g (nI i + 1).toNatClampNeg) hI
  refine e_aload_n dL_law_995 rfl rfl ?_
  refine e_aload_n dL_law_996 rfl rfl ?_
  refine e_iload_n dL_law_997 rfl rfl ?_
  refine e_iconst (v := 1) dL_law_998 rfl ?_
  refine e_iadd dL_law_999 ?_
  refine e_xaload dL_law_1000 (xin 1 h6 hN (by decide)) ?_
  refine y_callV (c := 11) (i := 0) (As := [.int (gx g (nI i + 1).toNatClampNeg)]) (rest := []) (w := some (.int r)) (x1 := x') (m1 := m) okX11_best lkL_103 rfl (by decide) rfl dL_law_1001 rfl rfl (Nat.le_of_ble_eq_true rfl) rfl (c_X11_best (gx g (nI i + 1).toNatClampNeg) hx ⟨rfl, rfl, rfl⟩) ?_
  refine e_pc (pc' := 1004) rfl ?_
  refine e_pc (pc' := 1004) rfl ?_
  refine e_aload_n dL_law_1004 rfl rfl ?_
  refine e_aload_n dL_law_1005 rfl rfl ?_
  refine e_iload_n dL_law_1006 rfl rfl ?_
  refine e_iconst (v := 1) dL_law_1007 rfl ?_
  refine e_iadd dL_law_1008 ?_
  refine e_xaload dL_law_1009 (xin 1 h6 hN (by decide)) ?_
  refine y_callV (c := 12) (i := 0) (As := [.int (gx g (nI i + 1).toNatClampNeg)]) (rest := [.int r]) (w := some (.int r)) (x1 := x') (m1 := m') okX12_best lkL_106 rfl (by decide) rfl dL_law_1010 rfl rfl (Nat.le_of_ble_eq_true rfl) rfl (c_X12_best (gx g (nI i + 1).toNatClampNeg) hm ⟨rfl, rfl, rfl⟩) ?_
  refine e_pc (pc' := 1013) rfl ?_
  refine e_icmp_eq (tgt := 2154) dL_law_1013 rfl (fun _ => ?_) (fun h => absurd rfl h)
  exact next ad x' m' rfl rfl hI2
/-- the class and the reference answer alike: bestScene -/
def S_bestScene (Inv : VM → VM → Prop) : Prop := ∀ (x m : VM) (a1 : Int32) (a2 : Int32), Inv x m → ∃ (r : Int32) (x' : VM) (m' : VM), f_X11_bestScene x a1 a2 = some (r, x') ∧ f_X12_bestScene m a1 a2 = some (r, m') ∧ Inv x' m'
theorem l_21_bestScene {g : GG} {d : Nat} {ad : AD} {x m : VM} {Inv : VM → VM → Prop} {kc ks i : Nat} {X Y : Nat} {K : Option Value → Heap → Prop} (sim : S_bestScene Inv) (hI : Inv x m) (hX : ad 11 0 = X) (hY : ad 12 0 = Y) (h6 : i + 6 ≤ gN g) (hN : gN g < 2 ^ 31) (next : ∀ ad' x' m', ad' 11 0 = X → ad' 12 0 = Y → Inv x' m' → Ev g (d + 30) ML_law (Rep g ad' x' m') kc ks 2154 [some (.ref (gb g)), some (.ref X), some (.ref Y), some (.int (nI i))] [] K) : Ev g (d + 30) ML_law (Rep g ad x m) (kc) (ks) 1018 [some (.ref (gb g)), some (.ref X), some (.ref Y), some (.int (nI i))] [] K := by
  subst hX hY
  obtain ⟨r, x', m', hx, hm, hI2⟩ := sim x m (gx g (nI i + 1).toNatClampNeg) (gx g (nI i + 2).toNatClampNeg) hI
  refine e_aload_n dL_law_1018 rfl rfl ?_
  refine e_aload_n dL_law_1019 rfl rfl ?_
  refine e_iload_n dL_law_1020 rfl rfl ?_
  refine e_iconst (v := 1) dL_law_1021 rfl ?_
  refine e_iadd dL_law_1022 ?_
  refine e_xaload dL_law_1023 (xin 1 h6 hN (by decide)) ?_
  refine e_aload_n dL_law_1024 rfl rfl ?_
  refine e_pc (pc' := 1025) rfl ?_
  refine e_iload_n dL_law_1025 rfl rfl ?_
  refine e_iconst (v := 2) dL_law_1026 rfl ?_
  refine e_iadd dL_law_1027 ?_
  refine e_xaload dL_law_1028 (xin 2 h6 hN (by decide)) ?_
  refine y_callV (c := 11) (i := 0) (As := [.int (gx g (nI i + 1).toNatClampNeg), .int (gx g (nI i + 2).toNatClampNeg)]) (rest := []) (w := some (.int r)) (x1 := x') (m1 := m) okX11_bestScene lkL_107 rfl (by decide) rfl dL_law_1029 rfl rfl (Nat.le_of_ble_eq_true rfl) rfl (c_X11_bestScene (gx g (nI i + 1).toNatClampNeg) (gx g (nI i + 2).toNatClampNeg) hx ⟨rfl, rfl, rfl⟩) ?_
  refine e_pc (pc' := 1032) rfl ?_
  refine e_aload_n dL_law_1032 rfl rfl ?_
  refine e_aload_n dL_law_1033 rfl rfl ?_
  refine e_iload_n dL_law_1034 rfl rfl ?_
  refine e_pc (pc' := 1035) rfl ?_
  refine e_iconst (v := 1) dL_law_1035 rfl ?_
  refine e_iadd dL_law_1036 ?_
  refine e_xaload dL_law_1037 (xin 1 h6 hN (by decide)) ?_
  refine e_aload_n dL_law_1038 rfl rfl ?_
  refine e_iload_n dL_law_1039 rfl rfl ?_
  refine e_iconst (v := 2) dL_law_1040 rfl ?_
  refine e_iadd dL_law_1041 ?_
  refine e_xaload dL_law_1042 (xin 2 h6 hN (by decide)) ?_
  refine e_pc (pc' := 1043) rfl ?_
  refine y_callV (c := 12) (i := 0) (As := [.int (gx g (nI i + 1).toNatClampNeg), .int (gx g (nI i + 2).toNatClampNeg)]) (rest := [.int r]) (w := some (.int r)) (x1 := x') (m1 := m') okX12_bestScene lkL_110 rfl (by decide) rfl dL_law_1043 rfl rfl (Nat.le_of_ble_eq_true rfl) rfl (c_X12_bestScene (gx g (nI i + 1).toNatClampNeg) (gx g (nI i + 2).toNatClampNeg) hm ⟨rfl, rfl, rfl⟩) ?_
  refine e_pc (pc' := 1046) rfl ?_
  refine e_icmp_eq (tgt := 2154) dL_law_1046 rfl (fun _ => ?_) (fun h => absurd rfl h)
  exact next ad x' m' rfl rfl hI2
/-- the class and the reference answer alike: bound -/
def S_bound (Inv : VM → VM → Prop) : Prop := ∀ (x m : VM) (a1 : Int32), Inv x m → ∃ (r : Int32) (x' : VM) (m' : VM), f_X11_bound x a1 = some (r, x') ∧ f_X12_bound m a1 = some (r, m') ∧ Inv x' m'
theorem l_22_bound {g : GG} {d : Nat} {ad : AD} {x m : VM} {Inv : VM → VM → Prop} {kc ks i : Nat} {X Y : Nat} {K : Option Value → Heap → Prop} (sim : S_bound Inv) (hI : Inv x m) (hX : ad 11 0 = X) (hY : ad 12 0 = Y) (h6 : i + 6 ≤ gN g) (hN : gN g < 2 ^ 31) (next : ∀ ad' x' m', ad' 11 0 = X → ad' 12 0 = Y → Inv x' m' → Ev g (d + 30) ML_law (Rep g ad' x' m') kc ks 2154 [some (.ref (gb g)), some (.ref X), some (.ref Y), some (.int (nI i))] [] K) : Ev g (d + 30) ML_law (Rep g ad x m) (kc) (ks) 1051 [some (.ref (gb g)), some (.ref X), some (.ref Y), some (.int (nI i))] [] K := by
  subst hX hY
  obtain ⟨r, x', m', hx, hm, hI2⟩ := sim x m (gx g (nI i + 1).toNatClampNeg) hI
  refine e_aload_n dL_law_1051 rfl rfl ?_
  refine e_aload_n dL_law_1052 rfl rfl ?_
  refine e_iload_n dL_law_1053 rfl rfl ?_
  refine e_iconst (v := 1) dL_law_1054 rfl ?_
  refine e_iadd dL_law_1055 ?_
  refine e_xaload dL_law_1056 (xin 1 h6 hN (by decide)) ?_
  refine y_callV (c := 11) (i := 0) (As := [.int (gx g (nI i + 1).toNatClampNeg)]) (rest := []) (w := some (.int r)) (x1 := x') (m1 := m) okX11_bound lkL_111 rfl (by decide) rfl dL_law_1057 rfl rfl (Nat.le_of_ble_eq_true rfl) rfl (c_X11_bound (gx g (nI i + 1).toNatClampNeg) hx ⟨rfl, rfl, rfl⟩) ?_
  refine e_pc (pc' := 1060) rfl ?_
  refine e_pc (pc' := 1060) rfl ?_
  refine e_aload_n dL_law_1060 rfl rfl ?_
  refine e_aload_n dL_law_1061 rfl rfl ?_
  refine e_iload_n dL_law_1062 rfl rfl ?_
  refine e_iconst (v := 1) dL_law_1063 rfl ?_
  refine e_iadd dL_law_1064 ?_
  refine e_xaload dL_law_1065 (xin 1 h6 hN (by decide)) ?_
  refine y_callV (c := 12) (i := 0) (As := [.int (gx g (nI i + 1).toNatClampNeg)]) (rest := [.int r]) (w := some (.int r)) (x1 := x') (m1 := m') okX12_bound lkL_114 rfl (by decide) rfl dL_law_1066 rfl rfl (Nat.le_of_ble_eq_true rfl) rfl (c_X12_bound (gx g (nI i + 1).toNatClampNeg) hm ⟨rfl, rfl, rfl⟩) ?_
  refine e_pc (pc' := 1069) rfl ?_
  refine e_icmp_eq (tgt := 2154) dL_law_1069 rfl (fun _ => ?_) (fun h => absurd rfl h)
  exact next ad x' m' rfl rfl hI2
/-- the class and the reference answer alike: judge -/
def S_judge (Inv : VM → VM → Prop) : Prop := ∀ (x m : VM) (a1 : Int32) (a2 : Int32), Inv x m → ∃ (r : Int32) (x' : VM) (m' : VM), f_X11_judge x a1 a2 = some (r, x') ∧ f_X12_judge m a1 a2 = some (r, m') ∧ Inv x' m'
theorem l_23_judge {g : GG} {d : Nat} {ad : AD} {x m : VM} {Inv : VM → VM → Prop} {kc ks i : Nat} {X Y : Nat} {K : Option Value → Heap → Prop} (sim : S_judge Inv) (hI : Inv x m) (hX : ad 11 0 = X) (hY : ad 12 0 = Y) (h6 : i + 6 ≤ gN g) (hN : gN g < 2 ^ 31) (next : ∀ ad' x' m', ad' 11 0 = X → ad' 12 0 = Y → Inv x' m' → Ev g (d + 30) ML_law (Rep g ad' x' m') kc ks 2154 [some (.ref (gb g)), some (.ref X), some (.ref Y), some (.int (nI i))] [] K) : Ev g (d + 30) ML_law (Rep g ad x m) (kc) (ks) 1074 [some (.ref (gb g)), some (.ref X), some (.ref Y), some (.int (nI i))] [] K := by
  subst hX hY
  obtain ⟨r, x', m', hx, hm, hI2⟩ := sim x m (gx g (nI i + 1).toNatClampNeg) (gx g (nI i + 2).toNatClampNeg) hI
  refine e_aload_n dL_law_1074 rfl rfl ?_
  refine e_aload_n dL_law_1075 rfl rfl ?_
  refine e_iload_n dL_law_1076 rfl rfl ?_
  refine e_iconst (v := 1) dL_law_1077 rfl ?_
  refine e_iadd dL_law_1078 ?_
  refine e_xaload dL_law_1079 (xin 1 h6 hN (by decide)) ?_
  refine e_aload_n dL_law_1080 rfl rfl ?_
  refine e_pc (pc' := 1081) rfl ?_
  refine e_iload_n dL_law_1081 rfl rfl ?_
  refine e_iconst (v := 2) dL_law_1082 rfl ?_
  refine e_iadd dL_law_1083 ?_
  refine e_xaload dL_law_1084 (xin 2 h6 hN (by decide)) ?_
  refine y_callV (c := 11) (i := 0) (As := [.int (gx g (nI i + 1).toNatClampNeg), .int (gx g (nI i + 2).toNatClampNeg)]) (rest := []) (w := some (.int r)) (x1 := x') (m1 := m) okX11_judge lkL_115 rfl (by decide) rfl dL_law_1085 rfl rfl (Nat.le_of_ble_eq_true rfl) rfl (c_X11_judge (gx g (nI i + 1).toNatClampNeg) (gx g (nI i + 2).toNatClampNeg) hx ⟨rfl, rfl, rfl⟩) ?_
  refine e_pc (pc' := 1088) rfl ?_
  refine e_aload_n dL_law_1088 rfl rfl ?_
  refine e_aload_n dL_law_1089 rfl rfl ?_
  refine e_iload_n dL_law_1090 rfl rfl ?_
  refine e_pc (pc' := 1091) rfl ?_
  refine e_iconst (v := 1) dL_law_1091 rfl ?_
  refine e_iadd dL_law_1092 ?_
  refine e_xaload dL_law_1093 (xin 1 h6 hN (by decide)) ?_
  refine e_aload_n dL_law_1094 rfl rfl ?_
  refine e_iload_n dL_law_1095 rfl rfl ?_
  refine e_iconst (v := 2) dL_law_1096 rfl ?_
  refine e_iadd dL_law_1097 ?_
  refine e_xaload dL_law_1098 (xin 2 h6 hN (by decide)) ?_
  refine e_pc (pc' := 1099) rfl ?_
  refine y_callV (c := 12) (i := 0) (As := [.int (gx g (nI i + 1).toNatClampNeg), .int (gx g (nI i + 2).toNatClampNeg)]) (rest := [.int r]) (w := some (.int r)) (x1 := x') (m1 := m') okX12_judge lkL_118 rfl (by decide) rfl dL_law_1099 rfl rfl (Nat.le_of_ble_eq_true rfl) rfl (c_X12_judge (gx g (nI i + 1).toNatClampNeg) (gx g (nI i + 2).toNatClampNeg) hm ⟨rfl, rfl, rfl⟩) ?_
  refine e_pc (pc' := 1102) rfl ?_
  refine e_icmp_eq (tgt := 2154) dL_law_1102 rfl (fun _ => ?_) (fun h => absurd rfl h)
  exact next ad x' m' rfl rfl hI2
/-- the class and the reference answer alike: begin -/
def S_begin (Inv : VM → VM → Prop) : Prop := ∀ (x m : VM) (a1 : Int32) (a2 : Int32), Inv x m → ∃ (r : Int32) (x' : VM) (m' : VM), f_X11_begin x a1 a2 = some (r, x') ∧ f_X12_begin m a1 a2 = some (r, m') ∧ Inv x' m'
theorem l_24_begin {g : GG} {d : Nat} {ad : AD} {x m : VM} {Inv : VM → VM → Prop} {kc ks i : Nat} {X Y : Nat} {K : Option Value → Heap → Prop} (sim : S_begin Inv) (hI : Inv x m) (hX : ad 11 0 = X) (hY : ad 12 0 = Y) (h6 : i + 6 ≤ gN g) (hN : gN g < 2 ^ 31) (next : ∀ ad' x' m', ad' 11 0 = X → ad' 12 0 = Y → Inv x' m' → Ev g (d + 30) ML_law (Rep g ad' x' m') kc ks 2154 [some (.ref (gb g)), some (.ref X), some (.ref Y), some (.int (nI i))] [] K) : Ev g (d + 30) ML_law (Rep g ad x m) (kc) (ks) 1107 [some (.ref (gb g)), some (.ref X), some (.ref Y), some (.int (nI i))] [] K := by
  subst hX hY
  obtain ⟨r, x', m', hx, hm, hI2⟩ := sim x m (gx g (nI i + 1).toNatClampNeg) (gx g (nI i + 2).toNatClampNeg) hI
  refine e_aload_n dL_law_1107 rfl rfl ?_
  refine e_aload_n dL_law_1108 rfl rfl ?_
  refine e_iload_n dL_law_1109 rfl rfl ?_
  refine e_iconst (v := 1) dL_law_1110 rfl ?_
  refine e_iadd dL_law_1111 ?_
  refine e_xaload dL_law_1112 (xin 1 h6 hN (by decide)) ?_
  refine e_aload_n dL_law_1113 rfl rfl ?_
  refine e_pc (pc' := 1114) rfl ?_
  refine e_iload_n dL_law_1114 rfl rfl ?_
  refine e_iconst (v := 2) dL_law_1115 rfl ?_
  refine e_iadd dL_law_1116 ?_
  refine e_xaload dL_law_1117 (xin 2 h6 hN (by decide)) ?_
  refine y_callV (c := 11) (i := 0) (As := [.int (gx g (nI i + 1).toNatClampNeg), .int (gx g (nI i + 2).toNatClampNeg)]) (rest := []) (w := some (.int r)) (x1 := x') (m1 := m) okX11_begin lkL_119 rfl (by decide) rfl dL_law_1118 rfl rfl (Nat.le_of_ble_eq_true rfl) rfl (c_X11_begin (gx g (nI i + 1).toNatClampNeg) (gx g (nI i + 2).toNatClampNeg) hx ⟨rfl, rfl, rfl⟩) ?_
  refine e_pc (pc' := 1121) rfl ?_
  refine e_aload_n dL_law_1121 rfl rfl ?_
  refine e_aload_n dL_law_1122 rfl rfl ?_
  refine e_iload_n dL_law_1123 rfl rfl ?_
  refine e_pc (pc' := 1124) rfl ?_
  refine e_iconst (v := 1) dL_law_1124 rfl ?_
  refine e_iadd dL_law_1125 ?_
  refine e_xaload dL_law_1126 (xin 1 h6 hN (by decide)) ?_
  refine e_aload_n dL_law_1127 rfl rfl ?_
  refine e_iload_n dL_law_1128 rfl rfl ?_
  refine e_iconst (v := 2) dL_law_1129 rfl ?_
  refine e_iadd dL_law_1130 ?_
  refine e_xaload dL_law_1131 (xin 2 h6 hN (by decide)) ?_
  refine e_pc (pc' := 1132) rfl ?_
  refine y_callV (c := 12) (i := 0) (As := [.int (gx g (nI i + 1).toNatClampNeg), .int (gx g (nI i + 2).toNatClampNeg)]) (rest := [.int r]) (w := some (.int r)) (x1 := x') (m1 := m') okX12_begin lkL_122 rfl (by decide) rfl dL_law_1132 rfl rfl (Nat.le_of_ble_eq_true rfl) rfl (c_X12_begin (gx g (nI i + 1).toNatClampNeg) (gx g (nI i + 2).toNatClampNeg) hm ⟨rfl, rfl, rfl⟩) ?_
  refine e_pc (pc' := 1135) rfl ?_
  refine e_icmp_eq (tgt := 2154) dL_law_1135 rfl (fun _ => ?_) (fun h => absurd rfl h)
  exact next ad x' m' rfl rfl hI2
/-- the class and the reference answer alike: retake -/
def S_retake (Inv : VM → VM → Prop) : Prop := ∀ (x m : VM) (a1 : Int32) (a2 : Int32), Inv x m → ∃ (r : Int32) (x' : VM) (m' : VM), f_X11_retake x a1 a2 = some (r, x') ∧ f_X12_retake m a1 a2 = some (r, m') ∧ Inv x' m'
theorem l_25_retake {g : GG} {d : Nat} {ad : AD} {x m : VM} {Inv : VM → VM → Prop} {kc ks i : Nat} {X Y : Nat} {K : Option Value → Heap → Prop} (sim : S_retake Inv) (hI : Inv x m) (hX : ad 11 0 = X) (hY : ad 12 0 = Y) (h6 : i + 6 ≤ gN g) (hN : gN g < 2 ^ 31) (next : ∀ ad' x' m', ad' 11 0 = X → ad' 12 0 = Y → Inv x' m' → Ev g (d + 30) ML_law (Rep g ad' x' m') kc ks 2154 [some (.ref (gb g)), some (.ref X), some (.ref Y), some (.int (nI i))] [] K) : Ev g (d + 30) ML_law (Rep g ad x m) (kc) (ks) 1140 [some (.ref (gb g)), some (.ref X), some (.ref Y), some (.int (nI i))] [] K := by
  subst hX hY
  obtain ⟨r, x', m', hx, hm, hI2⟩ := sim x m (gx g (nI i + 1).toNatClampNeg) (gx g (nI i + 2).toNatClampNeg) hI
  refine e_aload_n dL_law_1140 rfl rfl ?_
  refine e_aload_n dL_law_1141 rfl rfl ?_
  refine e_iload_n dL_law_1142 rfl rfl ?_
  refine e_iconst (v := 1) dL_law_1143 rfl ?_
  refine e_iadd dL_law_1144 ?_
  refine e_xaload dL_law_1145 (xin 1 h6 hN (by decide)) ?_
  refine e_aload_n dL_law_1146 rfl rfl ?_
  refine e_pc (pc' := 1147) rfl ?_
  refine e_iload_n dL_law_1147 rfl rfl ?_
  refine e_iconst (v := 2) dL_law_1148 rfl ?_
  refine e_iadd dL_law_1149 ?_
  refine e_xaload dL_law_1150 (xin 2 h6 hN (by decide)) ?_
  refine y_callV (c := 11) (i := 0) (As := [.int (gx g (nI i + 1).toNatClampNeg), .int (gx g (nI i + 2).toNatClampNeg)]) (rest := []) (w := some (.int r)) (x1 := x') (m1 := m) okX11_retake lkL_123 rfl (by decide) rfl dL_law_1151 rfl rfl (Nat.le_of_ble_eq_true rfl) rfl (c_X11_retake (gx g (nI i + 1).toNatClampNeg) (gx g (nI i + 2).toNatClampNeg) hx ⟨rfl, rfl, rfl⟩) ?_
  refine e_pc (pc' := 1154) rfl ?_
  refine e_aload_n dL_law_1154 rfl rfl ?_
  refine e_aload_n dL_law_1155 rfl rfl ?_
  refine e_iload_n dL_law_1156 rfl rfl ?_
  refine e_pc (pc' := 1157) rfl ?_
  refine e_iconst (v := 1) dL_law_1157 rfl ?_
  refine e_iadd dL_law_1158 ?_
  refine e_xaload dL_law_1159 (xin 1 h6 hN (by decide)) ?_
  refine e_aload_n dL_law_1160 rfl rfl ?_
  refine e_iload_n dL_law_1161 rfl rfl ?_
  refine e_iconst (v := 2) dL_law_1162 rfl ?_
  refine e_iadd dL_law_1163 ?_
  refine e_xaload dL_law_1164 (xin 2 h6 hN (by decide)) ?_
  refine e_pc (pc' := 1165) rfl ?_
  refine y_callV (c := 12) (i := 0) (As := [.int (gx g (nI i + 1).toNatClampNeg), .int (gx g (nI i + 2).toNatClampNeg)]) (rest := [.int r]) (w := some (.int r)) (x1 := x') (m1 := m') okX12_retake lkL_126 rfl (by decide) rfl dL_law_1165 rfl rfl (Nat.le_of_ble_eq_true rfl) rfl (c_X12_retake (gx g (nI i + 1).toNatClampNeg) (gx g (nI i + 2).toNatClampNeg) hm ⟨rfl, rfl, rfl⟩) ?_
  refine e_pc (pc' := 1168) rfl ?_
  refine e_icmp_eq (tgt := 2154) dL_law_1168 rfl (fun _ => ?_) (fun h => absurd rfl h)
  exact next ad x' m' rfl rfl hI2
/-- the class and the reference answer alike: days -/
def S_days (Inv : VM → VM → Prop) : Prop := ∀ (x m : VM) (a1 : Int32), Inv x m → ∃ (r : Int32) (x' : VM) (m' : VM), f_X11_days x a1 = some (r, x') ∧ f_X12_days m a1 = some (r, m') ∧ Inv x' m'
theorem l_26_days {g : GG} {d : Nat} {ad : AD} {x m : VM} {Inv : VM → VM → Prop} {kc ks i : Nat} {X Y : Nat} {K : Option Value → Heap → Prop} (sim : S_days Inv) (hI : Inv x m) (hX : ad 11 0 = X) (hY : ad 12 0 = Y) (h6 : i + 6 ≤ gN g) (hN : gN g < 2 ^ 31) (next : ∀ ad' x' m', ad' 11 0 = X → ad' 12 0 = Y → Inv x' m' → Ev g (d + 30) ML_law (Rep g ad' x' m') kc ks 2154 [some (.ref (gb g)), some (.ref X), some (.ref Y), some (.int (nI i))] [] K) : Ev g (d + 30) ML_law (Rep g ad x m) (kc) (ks) 1173 [some (.ref (gb g)), some (.ref X), some (.ref Y), some (.int (nI i))] [] K := by
  subst hX hY
  obtain ⟨r, x', m', hx, hm, hI2⟩ := sim x m (gx g (nI i + 1).toNatClampNeg) hI
  refine e_aload_n dL_law_1173 rfl rfl ?_
  refine e_aload_n dL_law_1174 rfl rfl ?_
  refine e_iload_n dL_law_1175 rfl rfl ?_
  refine e_iconst (v := 1) dL_law_1176 rfl ?_
  refine e_iadd dL_law_1177 ?_
  refine e_xaload dL_law_1178 (xin 1 h6 hN (by decide)) ?_
  refine y_callV (c := 11) (i := 0) (As := [.int (gx g (nI i + 1).toNatClampNeg)]) (rest := []) (w := some (.int r)) (x1 := x') (m1 := m) okX11_days lkL_127 rfl (by decide) rfl dL_law_1179 rfl rfl (Nat.le_of_ble_eq_true rfl) rfl (c_X11_days (gx g (nI i + 1).toNatClampNeg) hx ⟨rfl, rfl, rfl⟩) ?_
  refine e_pc (pc' := 1182) rfl ?_
  refine e_pc (pc' := 1182) rfl ?_
  refine e_aload_n dL_law_1182 rfl rfl ?_
  refine e_aload_n dL_law_1183 rfl rfl ?_
  refine e_iload_n dL_law_1184 rfl rfl ?_
  refine e_iconst (v := 1) dL_law_1185 rfl ?_
  refine e_iadd dL_law_1186 ?_
  refine e_xaload dL_law_1187 (xin 1 h6 hN (by decide)) ?_
  refine y_callV (c := 12) (i := 0) (As := [.int (gx g (nI i + 1).toNatClampNeg)]) (rest := [.int r]) (w := some (.int r)) (x1 := x') (m1 := m') okX12_days lkL_130 rfl (by decide) rfl dL_law_1188 rfl rfl (Nat.le_of_ble_eq_true rfl) rfl (c_X12_days (gx g (nI i + 1).toNatClampNeg) hm ⟨rfl, rfl, rfl⟩) ?_
  refine e_pc (pc' := 1191) rfl ?_
  refine e_icmp_eq (tgt := 2154) dL_law_1191 rfl (fun _ => ?_) (fun h => absurd rfl h)
  exact next ad x' m' rfl rfl hI2
/-- the class and the reference answer alike: who -/
def S_who (Inv : VM → VM → Prop) : Prop := ∀ (x m : VM) (a1 : Int32) (a2 : Int32), Inv x m → ∃ (r : Int32), f_X11_who x a1 a2 = some r ∧ f_X12_who m a1 a2 = some r ∧ Inv x m
theorem l_27_who {g : GG} {d : Nat} {ad : AD} {x m : VM} {Inv : VM → VM → Prop} {kc ks i : Nat} {X Y : Nat} {K : Option Value → Heap → Prop} (sim : S_who Inv) (hI : Inv x m) (hX : ad 11 0 = X) (hY : ad 12 0 = Y) (h6 : i + 6 ≤ gN g) (hN : gN g < 2 ^ 31) (next : ∀ ad' x' m', ad' 11 0 = X → ad' 12 0 = Y → Inv x' m' → Ev g (d + 30) ML_law (Rep g ad' x' m') kc ks 2154 [some (.ref (gb g)), some (.ref X), some (.ref Y), some (.int (nI i))] [] K) : Ev g (d + 30) ML_law (Rep g ad x m) (kc) (ks) 1196 [some (.ref (gb g)), some (.ref X), some (.ref Y), some (.int (nI i))] [] K := by
  subst hX hY
  obtain ⟨r, hx, hm, hI2⟩ := sim x m (gx g (nI i + 1).toNatClampNeg) (gx g (nI i + 2).toNatClampNeg) hI
  refine e_aload_n dL_law_1196 rfl rfl ?_
  refine e_aload_n dL_law_1197 rfl rfl ?_
  refine e_iload_n dL_law_1198 rfl rfl ?_
  refine e_iconst (v := 1) dL_law_1199 rfl ?_
  refine e_iadd dL_law_1200 ?_
  refine e_xaload dL_law_1201 (xin 1 h6 hN (by decide)) ?_
  refine e_aload_n dL_law_1202 rfl rfl ?_
  refine e_pc (pc' := 1203) rfl ?_
  refine e_iload_n dL_law_1203 rfl rfl ?_
  refine e_iconst (v := 2) dL_law_1204 rfl ?_
  refine e_iadd dL_law_1205 ?_
  refine e_xaload dL_law_1206 (xin 2 h6 hN (by decide)) ?_
  refine y_callV (c := 11) (i := 0) (As := [.int (gx g (nI i + 1).toNatClampNeg), .int (gx g (nI i + 2).toNatClampNeg)]) (rest := []) (w := some (.int r)) (x1 := x) (m1 := m) okX11_who lkL_131 rfl (by decide) rfl dL_law_1207 rfl rfl (Nat.le_of_ble_eq_true rfl) rfl (c_X11_who (gx g (nI i + 1).toNatClampNeg) (gx g (nI i + 2).toNatClampNeg) hx ⟨rfl, rfl, rfl⟩) ?_
  refine e_pc (pc' := 1210) rfl ?_
  refine e_aload_n dL_law_1210 rfl rfl ?_
  refine e_aload_n dL_law_1211 rfl rfl ?_
  refine e_iload_n dL_law_1212 rfl rfl ?_
  refine e_pc (pc' := 1213) rfl ?_
  refine e_iconst (v := 1) dL_law_1213 rfl ?_
  refine e_iadd dL_law_1214 ?_
  refine e_xaload dL_law_1215 (xin 1 h6 hN (by decide)) ?_
  refine e_aload_n dL_law_1216 rfl rfl ?_
  refine e_iload_n dL_law_1217 rfl rfl ?_
  refine e_iconst (v := 2) dL_law_1218 rfl ?_
  refine e_iadd dL_law_1219 ?_
  refine e_xaload dL_law_1220 (xin 2 h6 hN (by decide)) ?_
  refine e_pc (pc' := 1221) rfl ?_
  refine y_callV (c := 12) (i := 0) (As := [.int (gx g (nI i + 1).toNatClampNeg), .int (gx g (nI i + 2).toNatClampNeg)]) (rest := [.int r]) (w := some (.int r)) (x1 := x) (m1 := m) okX12_who lkL_134 rfl (by decide) rfl dL_law_1221 rfl rfl (Nat.le_of_ble_eq_true rfl) rfl (c_X12_who (gx g (nI i + 1).toNatClampNeg) (gx g (nI i + 2).toNatClampNeg) hm ⟨rfl, rfl, rfl⟩) ?_
  refine e_pc (pc' := 1224) rfl ?_
  refine e_icmp_eq (tgt := 2154) dL_law_1224 rfl (fun _ => ?_) (fun h => absurd rfl h)
  exact next ad x m rfl rfl hI2
/-- the class and the reference answer alike: about -/
def S_about (Inv : VM → VM → Prop) : Prop := ∀ (x m : VM) (a1 : Int32) (a2 : Int32), Inv x m → ∃ (r : Int32), f_X11_about x a1 a2 = some r ∧ f_X12_about m a1 a2 = some r ∧ Inv x m
theorem l_28_about {g : GG} {d : Nat} {ad : AD} {x m : VM} {Inv : VM → VM → Prop} {kc ks i : Nat} {X Y : Nat} {K : Option Value → Heap → Prop} (sim : S_about Inv) (hI : Inv x m) (hX : ad 11 0 = X) (hY : ad 12 0 = Y) (h6 : i + 6 ≤ gN g) (hN : gN g < 2 ^ 31) (next : ∀ ad' x' m', ad' 11 0 = X → ad' 12 0 = Y → Inv x' m' → Ev g (d + 30) ML_law (Rep g ad' x' m') kc ks 2154 [some (.ref (gb g)), some (.ref X), some (.ref Y), some (.int (nI i))] [] K) : Ev g (d + 30) ML_law (Rep g ad x m) (kc) (ks) 1229 [some (.ref (gb g)), some (.ref X), some (.ref Y), some (.int (nI i))] [] K := by
  subst hX hY
  obtain ⟨r, hx, hm, hI2⟩ := sim x m (gx g (nI i + 1).toNatClampNeg) (gx g (nI i + 2).toNatClampNeg) hI
  refine e_aload_n dL_law_1229 rfl rfl ?_
  refine e_aload_n dL_law_1230 rfl rfl ?_
  refine e_iload_n dL_law_1231 rfl rfl ?_
  refine e_iconst (v := 1) dL_law_1232 rfl ?_
  refine e_iadd dL_law_1233 ?_
  refine e_xaload dL_law_1234 (xin 1 h6 hN (by decide)) ?_
  refine e_aload_n dL_law_1235 rfl rfl ?_
  refine e_pc (pc' := 1236) rfl ?_
  refine e_iload_n dL_law_1236 rfl rfl ?_
  refine e_iconst (v := 2) dL_law_1237 rfl ?_
  refine e_iadd dL_law_1238 ?_
  refine e_xaload dL_law_1239 (xin 2 h6 hN (by decide)) ?_
  refine y_callV (c := 11) (i := 0) (As := [.int (gx g (nI i + 1).toNatClampNeg), .int (gx g (nI i + 2).toNatClampNeg)]) (rest := []) (w := some (.int r)) (x1 := x) (m1 := m) okX11_about lkL_135 rfl (by decide) rfl dL_law_1240 rfl rfl (Nat.le_of_ble_eq_true rfl) rfl (c_X11_about (gx g (nI i + 1).toNatClampNeg) (gx g (nI i + 2).toNatClampNeg) hx ⟨rfl, rfl, rfl⟩) ?_
  refine e_pc (pc' := 1243) rfl ?_
  refine e_aload_n dL_law_1243 rfl rfl ?_
  refine e_aload_n dL_law_1244 rfl rfl ?_
  refine e_iload_n dL_law_1245 rfl rfl ?_
  refine e_pc (pc' := 1246) rfl ?_
  refine e_iconst (v := 1) dL_law_1246 rfl ?_
  refine e_iadd dL_law_1247 ?_
  refine e_xaload dL_law_1248 (xin 1 h6 hN (by decide)) ?_
  refine e_aload_n dL_law_1249 rfl rfl ?_
  refine e_iload_n dL_law_1250 rfl rfl ?_
  refine e_iconst (v := 2) dL_law_1251 rfl ?_
  refine e_iadd dL_law_1252 ?_
  refine e_xaload dL_law_1253 (xin 2 h6 hN (by decide)) ?_
  refine e_pc (pc' := 1254) rfl ?_
  refine y_callV (c := 12) (i := 0) (As := [.int (gx g (nI i + 1).toNatClampNeg), .int (gx g (nI i + 2).toNatClampNeg)]) (rest := [.int r]) (w := some (.int r)) (x1 := x) (m1 := m) okX12_about lkL_138 rfl (by decide) rfl dL_law_1254 rfl rfl (Nat.le_of_ble_eq_true rfl) rfl (c_X12_about (gx g (nI i + 1).toNatClampNeg) (gx g (nI i + 2).toNatClampNeg) hm ⟨rfl, rfl, rfl⟩) ?_
  refine e_pc (pc' := 1257) rfl ?_
  refine e_icmp_eq (tgt := 2154) dL_law_1257 rfl (fun _ => ?_) (fun h => absurd rfl h)
  exact next ad x m rfl rfl hI2
/-- the class and the reference answer alike: left -/
def S_left (Inv : VM → VM → Prop) : Prop := ∀ (x m : VM) (a1 : Int32) (a2 : Int32), Inv x m → ∃ (r : Int32), f_X11_left x a1 a2 = some r ∧ f_X12_left m a1 a2 = some r ∧ Inv x m
theorem l_29_left {g : GG} {d : Nat} {ad : AD} {x m : VM} {Inv : VM → VM → Prop} {kc ks i : Nat} {X Y : Nat} {K : Option Value → Heap → Prop} (sim : S_left Inv) (hI : Inv x m) (hX : ad 11 0 = X) (hY : ad 12 0 = Y) (h6 : i + 6 ≤ gN g) (hN : gN g < 2 ^ 31) (next : ∀ ad' x' m', ad' 11 0 = X → ad' 12 0 = Y → Inv x' m' → Ev g (d + 30) ML_law (Rep g ad' x' m') kc ks 2154 [some (.ref (gb g)), some (.ref X), some (.ref Y), some (.int (nI i))] [] K) : Ev g (d + 30) ML_law (Rep g ad x m) (kc) (ks) 1262 [some (.ref (gb g)), some (.ref X), some (.ref Y), some (.int (nI i))] [] K := by
  subst hX hY
  obtain ⟨r, hx, hm, hI2⟩ := sim x m (gx g (nI i + 1).toNatClampNeg) (gx g (nI i + 2).toNatClampNeg) hI
  refine e_aload_n dL_law_1262 rfl rfl ?_
  refine e_aload_n dL_law_1263 rfl rfl ?_
  refine e_iload_n dL_law_1264 rfl rfl ?_
  refine e_iconst (v := 1) dL_law_1265 rfl ?_
  refine e_iadd dL_law_1266 ?_
  refine e_xaload dL_law_1267 (xin 1 h6 hN (by decide)) ?_
  refine e_aload_n dL_law_1268 rfl rfl ?_
  refine e_pc (pc' := 1269) rfl ?_
  refine e_iload_n dL_law_1269 rfl rfl ?_
  refine e_iconst (v := 2) dL_law_1270 rfl ?_
  refine e_iadd dL_law_1271 ?_
  refine e_xaload dL_law_1272 (xin 2 h6 hN (by decide)) ?_
  refine y_callV (c := 11) (i := 0) (As := [.int (gx g (nI i + 1).toNatClampNeg), .int (gx g (nI i + 2).toNatClampNeg)]) (rest := []) (w := some (.int r)) (x1 := x) (m1 := m) okX11_left lkL_139 rfl (by decide) rfl dL_law_1273 rfl rfl (Nat.le_of_ble_eq_true rfl) rfl (c_X11_left (gx g (nI i + 1).toNatClampNeg) (gx g (nI i + 2).toNatClampNeg) hx ⟨rfl, rfl, rfl⟩) ?_
  refine e_pc (pc' := 1276) rfl ?_
  refine e_aload_n dL_law_1276 rfl rfl ?_
  refine e_aload_n dL_law_1277 rfl rfl ?_
  refine e_iload_n dL_law_1278 rfl rfl ?_
  refine e_pc (pc' := 1279) rfl ?_
  refine e_iconst (v := 1) dL_law_1279 rfl ?_
  refine e_iadd dL_law_1280 ?_
  refine e_xaload dL_law_1281 (xin 1 h6 hN (by decide)) ?_
  refine e_aload_n dL_law_1282 rfl rfl ?_
  refine e_iload_n dL_law_1283 rfl rfl ?_
  refine e_iconst (v := 2) dL_law_1284 rfl ?_
  refine e_iadd dL_law_1285 ?_
  refine e_xaload dL_law_1286 (xin 2 h6 hN (by decide)) ?_
  refine e_pc (pc' := 1287) rfl ?_
  refine y_callV (c := 12) (i := 0) (As := [.int (gx g (nI i + 1).toNatClampNeg), .int (gx g (nI i + 2).toNatClampNeg)]) (rest := [.int r]) (w := some (.int r)) (x1 := x) (m1 := m) okX12_left lkL_142 rfl (by decide) rfl dL_law_1287 rfl rfl (Nat.le_of_ble_eq_true rfl) rfl (c_X12_left (gx g (nI i + 1).toNatClampNeg) (gx g (nI i + 2).toNatClampNeg) hm ⟨rfl, rfl, rfl⟩) ?_
  refine e_pc (pc' := 1290) rfl ?_
  refine e_icmp_eq (tgt := 2154) dL_law_1290 rfl (fun _ => ?_) (fun h => absurd rfl h)
  exact next ad x m rfl rfl hI2
/-- the class and the reference answer alike: draft -/
def S_draft (Inv : VM → VM → Prop) : Prop := ∀ (x m : VM) (a1 : Int32) (a2 : Int32) (a3 : Int32), Inv x m → ∃ (r : Int32) (x' : VM) (m' : VM), f_X11_draft x a1 a2 a3 = some (r, x') ∧ f_X12_draft m a1 a2 a3 = some (r, m') ∧ Inv x' m'
theorem l_30_draft {g : GG} {d : Nat} {ad : AD} {x m : VM} {Inv : VM → VM → Prop} {kc ks i : Nat} {X Y : Nat} {K : Option Value → Heap → Prop} (sim : S_draft Inv) (hI : Inv x m) (hX : ad 11 0 = X) (hY : ad 12 0 = Y) (h6 : i + 6 ≤ gN g) (hN : gN g < 2 ^ 31) (next : ∀ ad' x' m', ad' 11 0 = X → ad' 12 0 = Y → Inv x' m' → Ev g (d + 30) ML_law (Rep g ad' x' m') kc ks 2154 [some (.ref (gb g)), some (.ref X), some (.ref Y), some (.int (nI i))] [] K) : Ev g (d + 30) ML_law (Rep g ad x m) (kc) (ks) 1295 [some (.ref (gb g)), some (.ref X), some (.ref Y), some (.int (nI i))] [] K := by
  subst hX hY
  obtain ⟨r, x', m', hx, hm, hI2⟩ := sim x m (gx g (nI i + 1).toNatClampNeg) (gx g (nI i + 2).toNatClampNeg) (gx g (nI i + 3).toNatClampNeg) hI
  refine e_aload_n dL_law_1295 rfl rfl ?_
  refine e_aload_n dL_law_1296 rfl rfl ?_
  refine e_iload_n dL_law_1297 rfl rfl ?_
  refine e_iconst (v := 1) dL_law_1298 rfl ?_
  refine e_iadd dL_law_1299 ?_
  refine e_xaload dL_law_1300 (xin 1 h6 hN (by decide)) ?_
  refine e_aload_n dL_law_1301 rfl rfl ?_
  refine e_pc (pc' := 1302) rfl ?_
  refine e_iload_n dL_law_1302 rfl rfl ?_
  refine e_iconst (v := 2) dL_law_1303 rfl ?_
  refine e_iadd dL_law_1304 ?_
  refine e_xaload dL_law_1305 (xin 2 h6 hN (by decide)) ?_
  refine e_aload_n dL_law_1306 rfl rfl ?_
  refine e_iload_n dL_law_1307 rfl rfl ?_
  refine e_iconst (v := 3) dL_law_1308 rfl ?_
  refine e_iadd dL_law_1309 ?_
  refine e_pc (pc' := 1310) rfl ?_
  refine e_xaload dL_law_1310 (xin 3 h6 hN (by decide)) ?_
  refine y_callV (c := 11) (i := 0) (As := [.int (gx g (nI i + 1).toNatClampNeg), .int (gx g (nI i + 2).toNatClampNeg), .int (gx g (nI i + 3).toNatClampNeg)]) (rest := []) (w := some (.int r)) (x1 := x') (m1 := m) okX11_draft lkL_143 rfl (by decide) rfl dL_law_1311 rfl rfl (Nat.le_of_ble_eq_true rfl) rfl (c_X11_draft (gx g (nI i + 1).toNatClampNeg) (gx g (nI i + 2).toNatClampNeg) (gx g (nI i + 3).toNatClampNeg) hx ⟨rfl, rfl, rfl⟩) ?_
  refine e_pc (pc' := 1314) rfl ?_
  refine e_aload_n dL_law_1314 rfl rfl ?_
  refine e_aload_n dL_law_1315 rfl rfl ?_
  refine e_iload_n dL_law_1316 rfl rfl ?_
  refine e_iconst (v := 1) dL_law_1317 rfl ?_
  refine e_iadd dL_law_1318 ?_
  refine e_xaload dL_law_1319 (xin 1 h6 hN (by decide)) ?_
  refine e_pc (pc' := 1320) rfl ?_
  refine e_aload_n dL_law_1320 rfl rfl ?_
  refine e_iload_n dL_law_1321 rfl rfl ?_
  refine e_iconst (v := 2) dL_law_1322 rfl ?_
  refine e_iadd dL_law_1323 ?_
  refine e_xaload dL_law_1324 (xin 2 h6 hN (by decide)) ?_
  refine e_aload_n dL_law_1325 rfl rfl ?_
  refine e_iload_n dL_law_1326 rfl rfl ?_
  refine e_iconst (v := 3) dL_law_1327 rfl ?_
  refine e_pc (pc' := 1328) rfl ?_
  refine e_iadd dL_law_1328 ?_
  refine e_xaload dL_law_1329 (xin 3 h6 hN (by decide)) ?_
  refine y_callV (c := 12) (i := 0) (As := [.int (gx g (nI i + 1).toNatClampNeg), .int (gx g (nI i + 2).toNatClampNeg), .int (gx g (nI i + 3).toNatClampNeg)]) (rest := [.int r]) (w := some (.int r)) (x1 := x') (m1 := m') okX12_draft lkL_146 rfl (by decide) rfl dL_law_1330 rfl rfl (Nat.le_of_ble_eq_true rfl) rfl (c_X12_draft (gx g (nI i + 1).toNatClampNeg) (gx g (nI i + 2).toNatClampNeg) (gx g (nI i + 3).toNatClampNeg) hm ⟨rfl, rfl, rfl⟩) ?_
  refine e_pc (pc' := 1333) rfl ?_
  refine e_icmp_eq (tgt := 2154) dL_law_1333 rfl (fun _ => ?_) (fun h => absurd rfl h)
  exact next ad x' m' rfl rfl hI2
/-- the class and the reference answer alike: credit -/
def S_credit (Inv : VM → VM → Prop) : Prop := ∀ (x m : VM) (a1 : Int32) (a2 : Int32), Inv x m → ∃ (r : Int32), f_X11_credit x a1 a2 = some r ∧ f_X12_credit m a1 a2 = some r ∧ Inv x m
theorem l_31_credit {g : GG} {d : Nat} {ad : AD} {x m : VM} {Inv : VM → VM → Prop} {kc ks i : Nat} {X Y : Nat} {K : Option Value → Heap → Prop} (sim : S_credit Inv) (hI : Inv x m) (hX : ad 11 0 = X) (hY : ad 12 0 = Y) (h6 : i + 6 ≤ gN g) (hN : gN g < 2 ^ 31) (next : ∀ ad' x' m', ad' 11 0 = X → ad' 12 0 = Y → Inv x' m' → Ev g (d + 30) ML_law (Rep g ad' x' m') kc ks 2154 [some (.ref (gb g)), some (.ref X), some (.ref Y), some (.int (nI i))] [] K) : Ev g (d + 30) ML_law (Rep g ad x m) (kc) (ks) 1338 [some (.ref (gb g)), some (.ref X), some (.ref Y), some (.int (nI i))] [] K := by
  subst hX hY
  obtain ⟨r, hx, hm, hI2⟩ := sim x m (gx g (nI i + 1).toNatClampNeg) (gx g (nI i + 2).toNatClampNeg) hI
  refine e_aload_n dL_law_1338 rfl rfl ?_
  refine e_aload_n dL_law_1339 rfl rfl ?_
  refine e_iload_n dL_law_1340 rfl rfl ?_
  refine e_iconst (v := 1) dL_law_1341 rfl ?_
  refine e_iadd dL_law_1342 ?_
  refine e_xaload dL_law_1343 (xin 1 h6 hN (by decide)) ?_
  refine e_aload_n dL_law_1344 rfl rfl ?_
  refine e_pc (pc' := 1345) rfl ?_
  refine e_iload_n dL_law_1345 rfl rfl ?_
  refine e_iconst (v := 2) dL_law_1346 rfl ?_
  refine e_iadd dL_law_1347 ?_
  refine e_xaload dL_law_1348 (xin 2 h6 hN (by decide)) ?_
  refine y_callV (c := 11) (i := 0) (As := [.int (gx g (nI i + 1).toNatClampNeg), .int (gx g (nI i + 2).toNatClampNeg)]) (rest := []) (w := some (.int r)) (x1 := x) (m1 := m) okX11_credit lkL_147 rfl (by decide) rfl dL_law_1349 rfl rfl (Nat.le_of_ble_eq_true rfl) rfl (c_X11_credit (gx g (nI i + 1).toNatClampNeg) (gx g (nI i + 2).toNatClampNeg) hx ⟨rfl, rfl, rfl⟩) ?_
  refine e_pc (pc' := 1352) rfl ?_
  refine e_aload_n dL_law_1352 rfl rfl ?_
  refine e_aload_n dL_law_1353 rfl rfl ?_
  refine e_iload_n dL_law_1354 rfl rfl ?_
  refine e_pc (pc' := 1355) rfl ?_
  refine e_iconst (v := 1) dL_law_1355 rfl ?_
  refine e_iadd dL_law_1356 ?_
  refine e_xaload dL_law_1357 (xin 1 h6 hN (by decide)) ?_
  refine e_aload_n dL_law_1358 rfl rfl ?_
  refine e_iload_n dL_law_1359 rfl rfl ?_
  refine e_iconst (v := 2) dL_law_1360 rfl ?_
  refine e_iadd dL_law_1361 ?_
  refine e_xaload dL_law_1362 (xin 2 h6 hN (by decide)) ?_
  refine e_pc (pc' := 1363) rfl ?_
  refine y_callV (c := 12) (i := 0) (As := [.int (gx g (nI i + 1).toNatClampNeg), .int (gx g (nI i + 2).toNatClampNeg)]) (rest := [.int r]) (w := some (.int r)) (x1 := x) (m1 := m) okX12_credit lkL_150 rfl (by decide) rfl dL_law_1363 rfl rfl (Nat.le_of_ble_eq_true rfl) rfl (c_X12_credit (gx g (nI i + 1).toNatClampNeg) (gx g (nI i + 2).toNatClampNeg) hm ⟨rfl, rfl, rfl⟩) ?_
  refine e_pc (pc' := 1366) rfl ?_
  refine e_icmp_eq (tgt := 2154) dL_law_1366 rfl (fun _ => ?_) (fun h => absurd rfl h)
  exact next ad x m rfl rfl hI2
/-- the class and the reference answer alike: named -/
def S_named (Inv : VM → VM → Prop) : Prop := ∀ (x m : VM) (a1 : Int32), Inv x m → ∃ (r : Int32) (x' : VM) (m' : VM), f_X11_named x a1 = some (r, x') ∧ f_X12_named m a1 = some (r, m') ∧ Inv x' m'
theorem l_32_named {g : GG} {d : Nat} {ad : AD} {x m : VM} {Inv : VM → VM → Prop} {kc ks i : Nat} {X Y : Nat} {K : Option Value → Heap → Prop} (sim : S_named Inv) (hI : Inv x m) (hX : ad 11 0 = X) (hY : ad 12 0 = Y) (h6 : i + 6 ≤ gN g) (hN : gN g < 2 ^ 31) (next : ∀ ad' x' m', ad' 11 0 = X → ad' 12 0 = Y → Inv x' m' → Ev g (d + 30) ML_law (Rep g ad' x' m') kc ks 2154 [some (.ref (gb g)), some (.ref X), some (.ref Y), some (.int (nI i))] [] K) : Ev g (d + 30) ML_law (Rep g ad x m) (kc) (ks) 1371 [some (.ref (gb g)), some (.ref X), some (.ref Y), some (.int (nI i))] [] K := by
  subst hX hY
  obtain ⟨r, x', m', hx, hm, hI2⟩ := sim x m (gx g (nI i + 1).toNatClampNeg) hI
  refine e_aload_n dL_law_1371 rfl rfl ?_
  refine e_aload_n dL_law_1372 rfl rfl ?_
  refine e_iload_n dL_law_1373 rfl rfl ?_
  refine e_iconst (v := 1) dL_law_1374 rfl ?_
  refine e_iadd dL_law_1375 ?_
  refine e_xaload dL_law_1376 (xin 1 h6 hN (by decide)) ?_
  refine y_callV (c := 11) (i := 0) (As := [.int (gx g (nI i + 1).toNatClampNeg)]) (rest := []) (w := some (.int r)) (x1 := x') (m1 := m) okX11_named lkL_151 rfl (by decide) rfl dL_law_1377 rfl rfl (Nat.le_of_ble_eq_true rfl) rfl (c_X11_named (gx g (nI i + 1).toNatClampNeg) hx ⟨rfl, rfl, rfl⟩) ?_
  refine e_pc (pc' := 1380) rfl ?_
  refine e_pc (pc' := 1380) rfl ?_
  refine e_aload_n dL_law_1380 rfl rfl ?_
  refine e_aload_n dL_law_1381 rfl rfl ?_
  refine e_iload_n dL_law_1382 rfl rfl ?_
  refine e_iconst (v := 1) dL_law_1383 rfl ?_
  refine e_iadd dL_law_1384 ?_
  refine e_xaload dL_law_1385 (xin 1 h6 hN (by decide)) ?_
  refine y_callV (c := 12) (i := 0) (As := [.int (gx g (nI i + 1).toNatClampNeg)]) (rest := [.int r]) (w := some (.int r)) (x1 := x') (m1 := m') okX12_named lkL_154 rfl (by decide) rfl dL_law_1386 rfl rfl (Nat.le_of_ble_eq_true rfl) rfl (c_X12_named (gx g (nI i + 1).toNatClampNeg) hm ⟨rfl, rfl, rfl⟩) ?_
  refine e_pc (pc' := 1389) rfl ?_
  refine e_icmp_eq (tgt := 2154) dL_law_1389 rfl (fun _ => ?_) (fun h => absurd rfl h)
  exact next ad x' m' rfl rfl hI2
/-- the class and the reference answer alike: code -/
def S_code (Inv : VM → VM → Prop) : Prop := ∀ (x m : VM) (a1 : Int32) (a2 : Int32), Inv x m → ∃ (r : Int32) (x' : VM) (m' : VM), f_X11_code x a1 a2 = some (r, x') ∧ f_X12_code m a1 a2 = some (r, m') ∧ Inv x' m'
theorem l_33_code {g : GG} {d : Nat} {ad : AD} {x m : VM} {Inv : VM → VM → Prop} {kc ks i : Nat} {X Y : Nat} {K : Option Value → Heap → Prop} (sim : S_code Inv) (hI : Inv x m) (hX : ad 11 0 = X) (hY : ad 12 0 = Y) (h6 : i + 6 ≤ gN g) (hN : gN g < 2 ^ 31) (next : ∀ ad' x' m', ad' 11 0 = X → ad' 12 0 = Y → Inv x' m' → Ev g (d + 30) ML_law (Rep g ad' x' m') kc ks 2154 [some (.ref (gb g)), some (.ref X), some (.ref Y), some (.int (nI i))] [] K) : Ev g (d + 30) ML_law (Rep g ad x m) (kc) (ks) 1394 [some (.ref (gb g)), some (.ref X), some (.ref Y), some (.int (nI i))] [] K := by
  subst hX hY
  obtain ⟨r, x', m', hx, hm, hI2⟩ := sim x m (gx g (nI i + 1).toNatClampNeg) (gx g (nI i + 2).toNatClampNeg) hI
  refine e_aload_n dL_law_1394 rfl rfl ?_
  refine e_aload_n dL_law_1395 rfl rfl ?_
  refine e_iload_n dL_law_1396 rfl rfl ?_
  refine e_iconst (v := 1) dL_law_1397 rfl ?_
  refine e_iadd dL_law_1398 ?_
  refine e_xaload dL_law_1399 (xin 1 h6 hN (by decide)) ?_
  refine e_aload_n dL_law_1400 rfl rfl ?_
  refine e_pc (pc' := 1401) rfl ?_
  refine e_iload_n dL_law_1401 rfl rfl ?_
  refine e_iconst (v := 2) dL_law_1402 rfl ?_
  refine e_iadd dL_law_1403 ?_
  refine e_xaload dL_law_1404 (xin 2 h6 hN (by decide)) ?_
  refine y_callV (c := 11) (i := 0) (As := [.int (gx g (nI i + 1).toNatClampNeg), .int (gx g (nI i + 2).toNatClampNeg)]) (rest := []) (w := some (.int r)) (x1 := x') (m1 := m) okX11_code lkL_155 rfl (by decide) rfl dL_law_1405 rfl rfl (Nat.le_of_ble_eq_true rfl) rfl (c_X11_code (gx g (nI i + 1).toNatClampNeg) (gx g (nI i + 2).toNatClampNeg) hx ⟨rfl, rfl, rfl⟩) ?_
  refine e_pc (pc' := 1408) rfl ?_
  refine e_aload_n dL_law_1408 rfl rfl ?_
  refine e_aload_n dL_law_1409 rfl rfl ?_
  refine e_iload_n dL_law_1410 rfl rfl ?_
  refine e_pc (pc' := 1411) rfl ?_
  refine e_iconst (v := 1) dL_law_1411 rfl ?_
  refine e_iadd dL_law_1412 ?_
  refine e_xaload dL_law_1413 (xin 1 h6 hN (by decide)) ?_
  refine e_aload_n dL_law_1414 rfl rfl ?_
  refine e_iload_n dL_law_1415 rfl rfl ?_
  refine e_iconst (v := 2) dL_law_1416 rfl ?_
  refine e_iadd dL_law_1417 ?_
  refine e_xaload dL_law_1418 (xin 2 h6 hN (by decide)) ?_
  refine e_pc (pc' := 1419) rfl ?_
  refine y_callV (c := 12) (i := 0) (As := [.int (gx g (nI i + 1).toNatClampNeg), .int (gx g (nI i + 2).toNatClampNeg)]) (rest := [.int r]) (w := some (.int r)) (x1 := x') (m1 := m') okX12_code lkL_158 rfl (by decide) rfl dL_law_1419 rfl rfl (Nat.le_of_ble_eq_true rfl) rfl (c_X12_code (gx g (nI i + 1).toNatClampNeg) (gx g (nI i + 2).toNatClampNeg) hm ⟨rfl, rfl, rfl⟩) ?_
  refine e_pc (pc' := 1422) rfl ?_
  refine e_icmp_eq (tgt := 2154) dL_law_1422 rfl (fun _ => ?_) (fun h => absurd rfl h)
  exact next ad x' m' rfl rfl hI2
/-- the class and the reference answer alike: barred -/
def S_barred (Inv : VM → VM → Prop) : Prop := ∀ (x m : VM) (a1 : Int32) (a2 : Int32), Inv x m → ∃ (r : Int32) (x' : VM) (m' : VM), f_X11_barred x a1 a2 = some (r, x') ∧ f_X12_barred m a1 a2 = some (r, m') ∧ Inv x' m'
theorem l_34_barred {g : GG} {d : Nat} {ad : AD} {x m : VM} {Inv : VM → VM → Prop} {kc ks i : Nat} {X Y : Nat} {K : Option Value → Heap → Prop} (sim : S_barred Inv) (hI : Inv x m) (hX : ad 11 0 = X) (hY : ad 12 0 = Y) (h6 : i + 6 ≤ gN g) (hN : gN g < 2 ^ 31) (next : ∀ ad' x' m', ad' 11 0 = X → ad' 12 0 = Y → Inv x' m' → Ev g (d + 30) ML_law (Rep g ad' x' m') kc ks 2154 [some (.ref (gb g)), some (.ref X), some (.ref Y), some (.int (nI i))] [] K) : Ev g (d + 30) ML_law (Rep g ad x m) (kc) (ks) 1427 [some (.ref (gb g)), some (.ref X), some (.ref Y), some (.int (nI i))] [] K := by
  subst hX hY
  obtain ⟨r, x', m', hx, hm, hI2⟩ := sim x m (gx g (nI i + 1).toNatClampNeg) (gx g (nI i + 2).toNatClampNeg) hI
  refine e_aload_n dL_law_1427 rfl rfl ?_
  refine e_aload_n dL_law_1428 rfl rfl ?_
  refine e_iload_n dL_law_1429 rfl rfl ?_
  refine e_iconst (v := 1) dL_law_1430 rfl ?_
  refine e_iadd dL_law_1431 ?_
  refine e_xaload dL_law_1432 (xin 1 h6 hN (by decide)) ?_
  refine e_aload_n dL_law_1433 rfl rfl ?_
  refine e_pc (pc' := 1434) rfl ?_
  refine e_iload_n dL_law_1434 rfl rfl ?_
  refine e_iconst (v := 2) dL_law_1435 rfl ?_
  refine e_iadd dL_law_1436 ?_
  refine e_xaload dL_law_1437 (xin 2 h6 hN (by decide)) ?_
  refine y_callV (c := 11) (i := 0) (As := [.int (gx g (nI i + 1).toNatClampNeg), .int (gx g (nI i + 2).toNatClampNeg)]) (rest := []) (w := some (.int r)) (x1 := x') (m1 := m) okX11_barred lkL_159 rfl (by decide) rfl dL_law_1438 rfl rfl (Nat.le_of_ble_eq_true rfl) rfl (c_X11_barred (gx g (nI i + 1).toNatClampNeg) (gx g (nI i + 2).toNatClampNeg) hx ⟨rfl, rfl, rfl⟩) ?_
  refine e_pc (pc' := 1441) rfl ?_
  refine e_aload_n dL_law_1441 rfl rfl ?_
  refine e_aload_n dL_law_1442 rfl rfl ?_
  refine e_iload_n dL_law_1443 rfl rfl ?_
  refine e_pc (pc' := 1444) rfl ?_
  refine e_iconst (v := 1) dL_law_1444 rfl ?_
  refine e_iadd dL_law_1445 ?_
  refine e_xaload dL_law_1446 (xin 1 h6 hN (by decide)) ?_
  refine e_aload_n dL_law_1447 rfl rfl ?_
  refine e_iload_n dL_law_1448 rfl rfl ?_
  refine e_iconst (v := 2) dL_law_1449 rfl ?_
  refine e_iadd dL_law_1450 ?_
  refine e_xaload dL_law_1451 (xin 2 h6 hN (by decide)) ?_
  refine e_pc (pc' := 1452) rfl ?_
  refine y_callV (c := 12) (i := 0) (As := [.int (gx g (nI i + 1).toNatClampNeg), .int (gx g (nI i + 2).toNatClampNeg)]) (rest := [.int r]) (w := some (.int r)) (x1 := x') (m1 := m') okX12_barred lkL_162 rfl (by decide) rfl dL_law_1452 rfl rfl (Nat.le_of_ble_eq_true rfl) rfl (c_X12_barred (gx g (nI i + 1).toNatClampNeg) (gx g (nI i + 2).toNatClampNeg) hm ⟨rfl, rfl, rfl⟩) ?_
  refine e_pc (pc' := 1455) rfl ?_
  refine e_icmp_eq (tgt := 2154) dL_law_1455 rfl (fun _ => ?_) (fun h => absurd rfl h)
  exact next ad x' m' rfl rfl hI2
/-- the class and the reference answer alike: mend -/
def S_mend (Inv : VM → VM → Prop) : Prop := ∀ (x m : VM) (a1 : Int32), Inv x m → ∃ (r : Int32) (x' : VM) (m' : VM), f_X11_mend x a1 = some (r, x') ∧ f_X12_mend m a1 = some (r, m') ∧ Inv x' m'
theorem l_35_mend {g : GG} {d : Nat} {ad : AD} {x m : VM} {Inv : VM → VM → Prop} {kc ks i : Nat} {X Y : Nat} {K : Option Value → Heap → Prop} (sim : S_mend Inv) (hI : Inv x m) (hX : ad 11 0 = X) (hY : ad 12 0 = Y) (h6 : i + 6 ≤ gN g) (hN : gN g < 2 ^ 31) (next : ∀ ad' x' m', ad' 11 0 = X → ad' 12 0 = Y → Inv x' m' → Ev g (d + 30) ML_law (Rep g ad' x' m') kc ks 2154 [some (.ref (gb g)), some (.ref X), some (.ref Y), some (.int (nI i))] [] K) : Ev g (d + 30) ML_law (Rep g ad x m) (kc) (ks) 1460 [some (.ref (gb g)), some (.ref X), some (.ref Y), some (.int (nI i))] [] K := by
  subst hX hY
  obtain ⟨r, x', m', hx, hm, hI2⟩ := sim x m (gx g (nI i + 1).toNatClampNeg) hI
  refine e_aload_n dL_law_1460 rfl rfl ?_
  refine e_aload_n dL_law_1461 rfl rfl ?_
  refine e_iload_n dL_law_1462 rfl rfl ?_
  refine e_iconst (v := 1) dL_law_1463 rfl ?_
  refine e_iadd dL_law_1464 ?_
  refine e_xaload dL_law_1465 (xin 1 h6 hN (by decide)) ?_
  refine y_callV (c := 11) (i := 0) (As := [.int (gx g (nI i + 1).toNatClampNeg)]) (rest := []) (w := some (.int r)) (x1 := x') (m1 := m) okX11_mend lkL_163 rfl (by decide) rfl dL_law_1466 rfl rfl (Nat.le_of_ble_eq_true rfl) rfl (c_X11_mend (gx g (nI i + 1).toNatClampNeg) hx ⟨rfl, rfl, rfl⟩) ?_
  refine e_pc (pc' := 1469) rfl ?_
  refine e_pc (pc' := 1469) rfl ?_
  refine e_aload_n dL_law_1469 rfl rfl ?_
  refine e_aload_n dL_law_1470 rfl rfl ?_
  refine e_iload_n dL_law_1471 rfl rfl ?_
  refine e_iconst (v := 1) dL_law_1472 rfl ?_
  refine e_iadd dL_law_1473 ?_
  refine e_xaload dL_law_1474 (xin 1 h6 hN (by decide)) ?_
  refine y_callV (c := 12) (i := 0) (As := [.int (gx g (nI i + 1).toNatClampNeg)]) (rest := [.int r]) (w := some (.int r)) (x1 := x') (m1 := m') okX12_mend lkL_166 rfl (by decide) rfl dL_law_1475 rfl rfl (Nat.le_of_ble_eq_true rfl) rfl (c_X12_mend (gx g (nI i + 1).toNatClampNeg) hm ⟨rfl, rfl, rfl⟩) ?_
  refine e_pc (pc' := 1478) rfl ?_
  refine e_icmp_eq (tgt := 2154) dL_law_1478 rfl (fun _ => ?_) (fun h => absurd rfl h)
  exact next ad x' m' rfl rfl hI2
/-- the class and the reference answer alike: take -/
def S_take (Inv : VM → VM → Prop) : Prop := ∀ (x m : VM) (a1 : Int32) (a2 : Int32) (a3 : Int32) (a4 : Int32) (a5 : Int32), Inv x m → ∃ (r : Int32) (x' : VM) (m' : VM), f_X11_take x a1 a2 a3 a4 a5 = some (r, x') ∧ f_X12_take m a1 a2 a3 a4 a5 = some (r, m') ∧ Inv x' m'
theorem l_36_take {g : GG} {d : Nat} {ad : AD} {x m : VM} {Inv : VM → VM → Prop} {kc ks i : Nat} {X Y : Nat} {K : Option Value → Heap → Prop} (sim : S_take Inv) (hI : Inv x m) (hX : ad 11 0 = X) (hY : ad 12 0 = Y) (h6 : i + 6 ≤ gN g) (hN : gN g < 2 ^ 31) (next : ∀ ad' x' m', ad' 11 0 = X → ad' 12 0 = Y → Inv x' m' → Ev g (d + 30) ML_law (Rep g ad' x' m') kc ks 2154 [some (.ref (gb g)), some (.ref X), some (.ref Y), some (.int (nI i))] [] K) : Ev g (d + 30) ML_law (Rep g ad x m) (kc) (ks) 1483 [some (.ref (gb g)), some (.ref X), some (.ref Y), some (.int (nI i))] [] K := by
  subst hX hY
  obtain ⟨r, x', m', hx, hm, hI2⟩ := sim x m (gx g (nI i + 1).toNatClampNeg) (gx g (nI i + 2).toNatClampNeg) (gx g (nI i + 3).toNatClampNeg) (gx g (nI i + 4).toNatClampNeg) (gx g (nI i + 5).toNatClampNeg) hI
  refine e_aload_n dL_law_1483 rfl rfl ?_
  refine e_aload_n dL_law_1484 rfl rfl ?_
  refine e_iload_n dL_law_1485 rfl rfl ?_
  refine e_iconst (v := 1) dL_law_1486 rfl ?_
  refine e_iadd dL_law_1487 ?_
  refine e_xaload dL_law_1488 (xin 1 h6 hN (by decide)) ?_
  refine e_aload_n dL_law_1489 rfl rfl ?_
  refine e_pc (pc' := 1490) rfl ?_
  refine e_iload_n dL_law_1490 rfl rfl ?_
  refine e_iconst (v := 2) dL_law_1491 rfl ?_
  refine e_iadd dL_law_1492 ?_
  refine e_xaload dL_law_1493 (xin 2 h6 hN (by decide)) ?_
  refine e_aload_n dL_law_1494 rfl rfl ?_
  refine e_iload_n dL_law_1495 rfl rfl ?_
  refine e_iconst (v := 3) dL_law_1496 rfl ?_
  refine e_iadd dL_law_1497 ?_
  refine e_pc (pc' := 1498) rfl ?_
  refine e_xaload dL_law_1498 (xin 3 h6 hN (by decide)) ?_
  refine e_aload_n dL_law_1499 rfl rfl ?_
  refine e_iload_n dL_law_1500 rfl rfl ?_
  refine e_iconst (v := 4) dL_law_1501 rfl ?_
  refine e_iadd dL_law_1502 ?_
  refine e_xaload dL_law_1503 (xin 4 h6 hN (by decide)) ?_
  refine e_aload_n dL_law_1504 rfl rfl ?_
  refine e_iload_n dL_law_1505 rfl rfl ?_
  refine e_pc (pc' := 1506) rfl ?_
  refine e_iconst (v := 5) dL_law_1506 rfl ?_
  refine e_iadd dL_law_1507 ?_
  refine e_xaload dL_law_1508 (xin 5 h6 hN (by decide)) ?_
  refine y_callV (c := 11) (i := 0) (As := [.int (gx g (nI i + 1).toNatClampNeg), .int (gx g (nI i + 2).toNatClampNeg), .int (gx g (nI i + 3).toNatClampNeg), .int (gx g (nI i + 4).toNatClampNeg), .int (gx g (nI i + 5).toNatClampNeg)]) (rest := []) (w := some (.int r)) (x1 := x') (m1 := m) okX11_take lkL_167 rfl (by decide) rfl dL_law_1509 rfl rfl (Nat.le_of_ble_eq_true rfl) rfl (c_X11_take (gx g (nI i + 1).toNatClampNeg) (gx g (nI i + 2).toNatClampNeg) (gx g (nI i + 3).toNatClampNeg) (gx g (nI i + 4).toNatClampNeg) (gx g (nI i + 5).toNatClampNeg) hx ⟨rfl, rfl, rfl⟩) ?_
  refine e_pc (pc' := 1512) rfl ?_
  refine e_aload_n dL_law_1512 rfl rfl ?_
  refine e_aload_n dL_law_1513 rfl rfl ?_
  refine e_iload_n dL_law_1514 rfl rfl ?_
  refine e_iconst (v := 1) dL_law_1515 rfl ?_
  refine e_pc (pc' := 1516) rfl ?_
  refine e_iadd dL_law_1516 ?_
  refine e_xaload dL_law_1517 (xin 1 h6 hN (by decide)) ?_
  refine e_aload_n dL_law_1518 rfl rfl ?_
  refine e_iload_n dL_law_1519 rfl rfl ?_
  refine e_iconst (v := 2) dL_law_1520 rfl ?_
  refine e_iadd dL_law_1521 ?_
  refine e_xaload dL_law_1522 (xin 2 h6 hN (by decide)) ?_
  refine e_aload_n dL_law_1523 rfl rfl ?_
  refine e_pc (pc' := 1524) rfl ?_
  refine e_iload_n dL_law_1524 rfl rfl ?_
  refine e_iconst (v := 3) dL_law_1525 rfl ?_
  refine e_iadd dL_law_1526 ?_
  refine e_xaload dL_law_1527 (xin 3 h6 hN (by decide)) ?_
  refine e_aload_n dL_law_1528 rfl rfl ?_
  refine e_iload_n dL_law_1529 rfl rfl ?_
  refine e_iconst (v := 4) dL_law_1530 rfl ?_
  refine e_iadd dL_law_1531 ?_
  refine e_pc (pc' := 1532) rfl ?_
  refine e_xaload dL_law_1532 (xin 4 h6 hN (by decide)) ?_
  refine e_aload_n dL_law_1533 rfl rfl ?_
  refine e_iload_n dL_law_1534 rfl rfl ?_
  refine e_iconst (v := 5) dL_law_1535 rfl ?_
  refine e_iadd dL_law_1536 ?_
  refine e_xaload dL_law_1537 (xin 5 h6 hN (by decide)) ?_
  refine y_callV (c := 12) (i := 0) (As := [.int (gx g (nI i + 1).toNatClampNeg), .int (gx g (nI i + 2).toNatClampNeg), .int (gx g (nI i + 3).toNatClampNeg), .int (gx g (nI i + 4).toNatClampNeg), .int (gx g (nI i + 5).toNatClampNeg)]) (rest := [.int r]) (w := some (.int r)) (x1 := x') (m1 := m') okX12_take lkL_170 rfl (by decide) rfl dL_law_1538 rfl rfl (Nat.le_of_ble_eq_true rfl) rfl (c_X12_take (gx g (nI i + 1).toNatClampNeg) (gx g (nI i + 2).toNatClampNeg) (gx g (nI i + 3).toNatClampNeg) (gx g (nI i + 4).toNatClampNeg) (gx g (nI i + 5).toNatClampNeg) hm ⟨rfl, rfl, rfl⟩) ?_
  refine e_pc (pc' := 1541) rfl ?_
  refine e_icmp_eq (tgt := 2154) dL_law_1541 rfl (fun _ => ?_) (fun h => absurd rfl h)
  exact next ad x' m' rfl rfl hI2
/-- the class and the reference answer alike: reel -/
def S_reel (Inv : VM → VM → Prop) : Prop := ∀ (x m : VM) (a1 : Int32) (a2 : Int32), Inv x m → ∃ (r : Int32) (x' : VM) (m' : VM), f_X11_reel x a1 a2 = some (r, x') ∧ f_X12_reel m a1 a2 = some (r, m') ∧ Inv x' m'
theorem l_37_reel {g : GG} {d : Nat} {ad : AD} {x m : VM} {Inv : VM → VM → Prop} {kc ks i : Nat} {X Y : Nat} {K : Option Value → Heap → Prop} (sim : S_reel Inv) (hI : Inv x m) (hX : ad 11 0 = X) (hY : ad 12 0 = Y) (h6 : i + 6 ≤ gN g) (hN : gN g < 2 ^ 31) (next : ∀ ad' x' m', ad' 11 0 = X → ad' 12 0 = Y → Inv x' m' → Ev g (d + 30) ML_law (Rep g ad' x' m') kc ks 2154 [some (.ref (gb g)), some (.ref X), some (.ref Y), some (.int (nI i))] [] K) : Ev g (d + 30) ML_law (Rep g ad x m) (kc) (ks) 1546 [some (.ref (gb g)), some (.ref X), some (.ref Y), some (.int (nI i))] [] K := by
  subst hX hY
  obtain ⟨r, x', m', hx, hm, hI2⟩ := sim x m (gx g (nI i + 1).toNatClampNeg) (gx g (nI i + 2).toNatClampNeg) hI
  refine e_aload_n dL_law_1546 rfl rfl ?_
  refine e_aload_n dL_law_1547 rfl rfl ?_
  refine e_iload_n dL_law_1548 rfl rfl ?_
  refine e_iconst (v := 1) dL_law_1549 rfl ?_
  refine e_iadd dL_law_1550 ?_
  refine e_xaload dL_law_1551 (xin 1 h6 hN (by decide)) ?_
  refine e_aload_n dL_law_1552 rfl rfl ?_
  refine e_pc (pc' := 1553) rfl ?_
  refine e_iload_n dL_law_1553 rfl rfl ?_
  refine e_iconst (v := 2) dL_law_1554 rfl ?_
  refine e_iadd dL_law_1555 ?_
  refine e_xaload dL_law_1556 (xin 2 h6 hN (by decide)) ?_
  refine y_callV (c := 11) (i := 0) (As := [.int (gx g (nI i + 1).toNatClampNeg), .int (gx g (nI i + 2).toNatClampNeg)]) (rest := []) (w := some (.int r)) (x1 := x') (m1 := m) okX11_reel lkL_171 rfl (by decide) rfl dL_law_1557 rfl rfl (Nat.le_of_ble_eq_true rfl) rfl (c_X11_reel (gx g (nI i + 1).toNatClampNeg) (gx g (nI i + 2).toNatClampNeg) hx ⟨rfl, rfl, rfl⟩) ?_
  refine e_pc (pc' := 1560) rfl ?_
  refine e_aload_n dL_law_1560 rfl rfl ?_
  refine e_aload_n dL_law_1561 rfl rfl ?_
  refine e_iload_n dL_law_1562 rfl rfl ?_
  refine e_pc (pc' := 1563) rfl ?_
  refine e_iconst (v := 1) dL_law_1563 rfl ?_
  refine e_iadd dL_law_1564 ?_
  refine e_xaload dL_law_1565 (xin 1 h6 hN (by decide)) ?_
  refine e_aload_n dL_law_1566 rfl rfl ?_
  refine e_iload_n dL_law_1567 rfl rfl ?_
  refine e_iconst (v := 2) dL_law_1568 rfl ?_
  refine e_iadd dL_law_1569 ?_
  refine e_xaload dL_law_1570 (xin 2 h6 hN (by decide)) ?_
  refine e_pc (pc' := 1571) rfl ?_
  refine y_callV (c := 12) (i := 0) (As := [.int (gx g (nI i + 1).toNatClampNeg), .int (gx g (nI i + 2).toNatClampNeg)]) (rest := [.int r]) (w := some (.int r)) (x1 := x') (m1 := m') okX12_reel lkL_174 rfl (by decide) rfl dL_law_1571 rfl rfl (Nat.le_of_ble_eq_true rfl) rfl (c_X12_reel (gx g (nI i + 1).toNatClampNeg) (gx g (nI i + 2).toNatClampNeg) hm ⟨rfl, rfl, rfl⟩) ?_
  refine e_pc (pc' := 1574) rfl ?_
  refine e_icmp_eq (tgt := 2154) dL_law_1574 rfl (fun _ => ?_) (fun h => absurd rfl h)
  exact next ad x' m' rfl rfl hI2
/-- the class and the reference answer alike: reelTake -/
def S_reelTake (Inv : VM → VM → Prop) : Prop := ∀ (x m : VM) (a1 : Int32) (a2 : Int32), Inv x m → ∃ (r : Int32), f_X11_reelTake x a1 a2 = some r ∧ f_X12_reelTake m a1 a2 = some r ∧ Inv x m
theorem l_38_reelTake {g : GG} {d : Nat} {ad : AD} {x m : VM} {Inv : VM → VM → Prop} {kc ks i : Nat} {X Y : Nat} {K : Option Value → Heap → Prop} (sim : S_reelTake Inv) (hI : Inv x m) (hX : ad 11 0 = X) (hY : ad 12 0 = Y) (h6 : i + 6 ≤ gN g) (hN : gN g < 2 ^ 31) (next : ∀ ad' x' m', ad' 11 0 = X → ad' 12 0 = Y → Inv x' m' → Ev g (d + 30) ML_law (Rep g ad' x' m') kc ks 2154 [some (.ref (gb g)), some (.ref X), some (.ref Y), some (.int (nI i))] [] K) : Ev g (d + 30) ML_law (Rep g ad x m) (kc) (ks) 1579 [some (.ref (gb g)), some (.ref X), some (.ref Y), some (.int (nI i))] [] K := by
  subst hX hY
  obtain ⟨r, hx, hm, hI2⟩ := sim x m (gx g (nI i + 1).toNatClampNeg) (gx g (nI i + 2).toNatClampNeg) hI
  refine e_aload_n dL_law_1579 rfl rfl ?_
  refine e_aload_n dL_law_1580 rfl rfl ?_
  refine e_iload_n dL_law_1581 rfl rfl ?_
  refine e_iconst (v := 1) dL_law_1582 rfl ?_
  refine e_iadd dL_law_1583 ?_
  refine e_xaload dL_law_1584 (xin 1 h6 hN (by decide)) ?_
  refine e_aload_n dL_law_1585 rfl rfl ?_
  refine e_pc (pc' := 1586) rfl ?_
  refine e_iload_n dL_law_1586 rfl rfl ?_
  refine e_iconst (v := 2) dL_law_1587 rfl ?_
  refine e_iadd dL_law_1588 ?_
  refine e_xaload dL_law_1589 (xin 2 h6 hN (by decide)) ?_
  refine y_callV (c := 11) (i := 0) (As := [.int (gx g (nI i + 1).toNatClampNeg), .int (gx g (nI i + 2).toNatClampNeg)]) (rest := []) (w := some (.int r)) (x1 := x) (m1 := m) okX11_reelTake lkL_175 rfl (by decide) rfl dL_law_1590 rfl rfl (Nat.le_of_ble_eq_true rfl) rfl (c_X11_reelTake (gx g (nI i + 1).toNatClampNeg) (gx g (nI i + 2).toNatClampNeg) hx ⟨rfl, rfl, rfl⟩) ?_
  refine e_pc (pc' := 1593) rfl ?_
  refine e_aload_n dL_law_1593 rfl rfl ?_
  refine e_aload_n dL_law_1594 rfl rfl ?_
  refine e_iload_n dL_law_1595 rfl rfl ?_
  refine e_pc (pc' := 1596) rfl ?_
  refine e_iconst (v := 1) dL_law_1596 rfl ?_
  refine e_iadd dL_law_1597 ?_
  refine e_xaload dL_law_1598 (xin 1 h6 hN (by decide)) ?_
  refine e_aload_n dL_law_1599 rfl rfl ?_
  refine e_iload_n dL_law_1600 rfl rfl ?_
  refine e_iconst (v := 2) dL_law_1601 rfl ?_
  refine e_iadd dL_law_1602 ?_
  refine e_xaload dL_law_1603 (xin 2 h6 hN (by decide)) ?_
  refine e_pc (pc' := 1604) rfl ?_
  refine y_callV (c := 12) (i := 0) (As := [.int (gx g (nI i + 1).toNatClampNeg), .int (gx g (nI i + 2).toNatClampNeg)]) (rest := [.int r]) (w := some (.int r)) (x1 := x) (m1 := m) okX12_reelTake lkL_178 rfl (by decide) rfl dL_law_1604 rfl rfl (Nat.le_of_ble_eq_true rfl) rfl (c_X12_reelTake (gx g (nI i + 1).toNatClampNeg) (gx g (nI i + 2).toNatClampNeg) hm ⟨rfl, rfl, rfl⟩) ?_
  refine e_pc (pc' := 1607) rfl ?_
  refine e_icmp_eq (tgt := 2154) dL_law_1607 rfl (fun _ => ?_) (fun h => absurd rfl h)
  exact next ad x m rfl rfl hI2
/-- the class and the reference answer alike: land -/
def S_land (Inv : VM → VM → Prop) : Prop := ∀ (x m : VM) (a1 : Int32) (a2 : Int32), Inv x m → ∃ (r : Int32) (x' : VM) (m' : VM), f_X11_land x a1 a2 = some (r, x') ∧ f_X12_land m a1 a2 = some (r, m') ∧ Inv x' m'
theorem l_39_land {g : GG} {d : Nat} {ad : AD} {x m : VM} {Inv : VM → VM → Prop} {kc ks i : Nat} {X Y : Nat} {K : Option Value → Heap → Prop} (sim : S_land Inv) (hI : Inv x m) (hX : ad 11 0 = X) (hY : ad 12 0 = Y) (h6 : i + 6 ≤ gN g) (hN : gN g < 2 ^ 31) (next : ∀ ad' x' m', ad' 11 0 = X → ad' 12 0 = Y → Inv x' m' → Ev g (d + 30) ML_law (Rep g ad' x' m') kc ks 2154 [some (.ref (gb g)), some (.ref X), some (.ref Y), some (.int (nI i))] [] K) : Ev g (d + 30) ML_law (Rep g ad x m) (kc) (ks) 1612 [some (.ref (gb g)), some (.ref X), some (.ref Y), some (.int (nI i))] [] K := by
  subst hX hY
  obtain ⟨r, x', m', hx, hm, hI2⟩ := sim x m (gx g (nI i + 1).toNatClampNeg) (gx g (nI i + 2).toNatClampNeg) hI
  refine e_aload_n dL_law_1612 rfl rfl ?_
  refine e_aload_n dL_law_1613 rfl rfl ?_
  refine e_iload_n dL_law_1614 rfl rfl ?_
  refine e_iconst (v := 1) dL_law_1615 rfl ?_
  refine e_iadd dL_law_1616 ?_
  refine e_xaload dL_law_1617 (xin 1 h6 hN (by decide)) ?_
  refine e_aload_n dL_law_1618 rfl rfl ?_
  refine e_pc (pc' := 1619) rfl ?_
  refine e_iload_n dL_law_1619 rfl rfl ?_
  refine e_iconst (v := 2) dL_law_1620 rfl ?_
  refine e_iadd dL_law_1621 ?_
  refine e_xaload dL_law_1622 (xin 2 h6 hN (by decide)) ?_
  refine y_callV (c := 11) (i := 0) (As := [.int (gx g (nI i + 1).toNatClampNeg), .int (gx g (nI i + 2).toNatClampNeg)]) (rest := []) (w := some (.int r)) (x1 := x') (m1 := m) okX11_land lkL_179 rfl (by decide) rfl dL_law_1623 rfl rfl (Nat.le_of_ble_eq_true rfl) rfl (c_X11_land (gx g (nI i + 1).toNatClampNeg) (gx g (nI i + 2).toNatClampNeg) hx ⟨rfl, rfl, rfl⟩) ?_
  refine e_pc (pc' := 1626) rfl ?_
  refine e_aload_n dL_law_1626 rfl rfl ?_
  refine e_aload_n dL_law_1627 rfl rfl ?_
  refine e_iload_n dL_law_1628 rfl rfl ?_
  refine e_pc (pc' := 1629) rfl ?_
  refine e_iconst (v := 1) dL_law_1629 rfl ?_
  refine e_iadd dL_law_1630 ?_
  refine e_xaload dL_law_1631 (xin 1 h6 hN (by decide)) ?_
  refine e_aload_n dL_law_1632 rfl rfl ?_
  refine e_iload_n dL_law_1633 rfl rfl ?_
  refine e_iconst (v := 2) dL_law_1634 rfl ?_
  refine e_iadd dL_law_1635 ?_
  refine e_xaload dL_law_1636 (xin 2 h6 hN (by decide)) ?_
  refine e_pc (pc' := 1637) rfl ?_
  refine y_callV (c := 12) (i := 0) (As := [.int (gx g (nI i + 1).toNatClampNeg), .int (gx g (nI i + 2).toNatClampNeg)]) (rest := [.int r]) (w := some (.int r)) (x1 := x') (m1 := m') okX12_land lkL_182 rfl (by decide) rfl dL_law_1637 rfl rfl (Nat.le_of_ble_eq_true rfl) rfl (c_X12_land (gx g (nI i + 1).toNatClampNeg) (gx g (nI i + 2).toNatClampNeg) hm ⟨rfl, rfl, rfl⟩) ?_
  refine e_pc (pc' := 1640) rfl ?_
  refine e_icmp_eq (tgt := 2154) dL_law_1640 rfl (fun _ => ?_) (fun h => absurd rfl h)
  exact next ad x' m' rfl rfl hI2
/-- the class and the reference answer alike: preview -/
def S_preview (Inv : VM → VM → Prop) : Prop := ∀ (x m : VM) (a1 : Int32) (a2 : Int32) (a3 : Int32) (a4 : Int32), Inv x m → ∃ (r : Int32) (x' : VM) (m' : VM), f_X11_preview x a1 a2 a3 a4 = some (r, x') ∧ f_X12_preview m a1 a2 a3 a4 = some (r, m') ∧ Inv x' m'
theorem l_40_preview {g : GG} {d : Nat} {ad : AD} {x m : VM} {Inv : VM → VM → Prop} {kc ks i : Nat} {X Y : Nat} {K : Option Value → Heap → Prop} (sim : S_preview Inv) (hI : Inv x m) (hX : ad 11 0 = X) (hY : ad 12 0 = Y) (h6 : i + 6 ≤ gN g) (hN : gN g < 2 ^ 31) (next : ∀ ad' x' m', ad' 11 0 = X → ad' 12 0 = Y → Inv x' m' → Ev g (d + 30) ML_law (Rep g ad' x' m') kc ks 2154 [some (.ref (gb g)), some (.ref X), some (.ref Y), some (.int (nI i))] [] K) : Ev g (d + 30) ML_law (Rep g ad x m) (kc) (ks) 1645 [some (.ref (gb g)), some (.ref X), some (.ref Y), some (.int (nI i))] [] K := by
  subst hX hY
  obtain ⟨r, x', m', hx, hm, hI2⟩ := sim x m (gx g (nI i + 1).toNatClampNeg) (gx g (nI i + 2).toNatClampNeg) (gx g (nI i + 3).toNatClampNeg) (gx g (nI i + 4).toNatClampNeg) hI
  refine e_aload_n dL_law_1645 rfl rfl ?_
  refine e_aload_n dL_law_1646 rfl rfl ?_
  refine e_iload_n dL_law_1647 rfl rfl ?_
  refine e_iconst (v := 1) dL_law_1648 rfl ?_
  refine e_iadd dL_law_1649 ?_
  refine e_xaload dL_law_1650 (xin 1 h6 hN (by decide)) ?_
  refine e_aload_n dL_law_1651 rfl rfl ?_
  refine e_pc (pc' := 1652) rfl ?_
  refine e_iload_n dL_law_1652 rfl rfl ?_
  refine e_iconst (v := 2) dL_law_1653 rfl ?_
  refine e_iadd dL_law_1654 ?_
  refine e_xaload dL_law_1655 (xin 2 h6 hN (by decide)) ?_
  refine e_aload_n dL_law_1656 rfl rfl ?_
  refine e_iload_n dL_law_1657 rfl rfl ?_
  refine e_iconst (v := 3) dL_law_1658 rfl ?_
  refine e_iadd dL_law_1659 ?_
  refine e_pc (pc' := 1660) rfl ?_
  refine e_xaload dL_law_1660 (xin 3 h6 hN (by decide)) ?_
  refine e_aload_n dL_law_1661 rfl rfl ?_
  refine e_iload_n dL_law_1662 rfl rfl ?_
  refine e_iconst (v := 4) dL_law_1663 rfl ?_
  refine e_iadd dL_law_1664 ?_
  refine e_xaload dL_law_1665 (xin 4 h6 hN (by decide)) ?_
  refine y_callV (c := 11) (i := 0) (As := [.int (gx g (nI i + 1).toNatClampNeg), .int (gx g (nI i + 2).toNatClampNeg), .int (gx g (nI i + 3).toNatClampNeg), .int (gx g (nI i + 4).toNatClampNeg)]) (rest := []) (w := some (.int r)) (x1 := x') (m1 := m) okX11_preview lkL_183 rfl (by decide) rfl dL_law_1666 rfl rfl (Nat.le_of_ble_eq_true rfl) rfl (c_X11_preview (gx g (nI i + 1).toNatClampNeg) (gx g (nI i + 2).toNatClampNeg) (gx g (nI i + 3).toNatClampNeg) (gx g (nI i + 4).toNatClampNeg) hx ⟨rfl, rfl, rfl⟩) ?_
  refine e_pc (pc' := 1669) rfl ?_
  refine e_aload_n dL_law_1669 rfl rfl ?_
  refine e_pc (pc' := 1670) rfl ?_
  refine e_aload_n dL_law_1670 rfl rfl ?_
  refine e_iload_n dL_law_1671 rfl rfl ?_
  refine e_iconst (v := 1) dL_law_1672 rfl ?_
  refine e_iadd dL_law_1673 ?_
  refine e_xaload dL_law_1674 (xin 1 h6 hN (by decide)) ?_
  refine e_aload_n dL_law_1675 rfl rfl ?_
  refine e_iload_n dL_law_1676 rfl rfl ?_
  refine e_iconst (v := 2) dL_law_1677 rfl ?_
  refine e_pc (pc' := 1678) rfl ?_
  refine e_iadd dL_law_1678 ?_
  refine e_xaload dL_law_1679 (xin 2 h6 hN (by decide)) ?_
  refine e_aload_n dL_law_1680 rfl rfl ?_
  refine e_iload_n dL_law_1681 rfl rfl ?_
  refine e_iconst (v := 3) dL_law_1682 rfl ?_
  refine e_iadd dL_law_1683 ?_
  refine e_xaload dL_law_1684 (xin 3 h6 hN (by decide)) ?_
  refine e_aload_n dL_law_1685 rfl rfl ?_
  refine e_pc (pc' := 1686) rfl ?_
  refine e_iload_n dL_law_1686 rfl rfl ?_
  refine e_iconst (v := 4) dL_law_1687 rfl ?_
  refine e_iadd dL_law_1688 ?_
  refine e_xaload dL_law_1689 (xin 4 h6 hN (by decide)) ?_
  refine y_callV (c := 12) (i := 0) (As := [.int (gx g (nI i + 1).toNatClampNeg), .int (gx g (nI i + 2).toNatClampNeg), .int (gx g (nI i + 3).toNatClampNeg), .int (gx g (nI i + 4).toNatClampNeg)]) (rest := [.int r]) (w := some (.int r)) (x1 := x') (m1 := m') okX12_preview lkL_186 rfl (by decide) rfl dL_law_1690 rfl rfl (Nat.le_of_ble_eq_true rfl) rfl (c_X12_preview (gx g (nI i + 1).toNatClampNeg) (gx g (nI i + 2).toNatClampNeg) (gx g (nI i + 3).toNatClampNeg) (gx g (nI i + 4).toNatClampNeg) hm ⟨rfl, rfl, rfl⟩) ?_
  refine e_pc (pc' := 1693) rfl ?_
  refine e_icmp_eq (tgt := 2154) dL_law_1693 rfl (fun _ => ?_) (fun h => absurd rfl h)
  exact next ad x' m' rfl rfl hI2
/-- the class and the reference answer alike: putRight -/
def S_putRight (Inv : VM → VM → Prop) : Prop := ∀ (x m : VM) (a1 : Int32) (a2 : Int32), (a2 = 0 ∨ a2 = 1) → Inv x m → ∃ (r : Int64), f_X11_putRight x a1 a2 = some r ∧ f_X12_putRight m a1 a2 = some r ∧ Inv x m
theorem l_41t_putRight {g : GG} {d : Nat} {ad : AD} {x m : VM} {Inv : VM → VM → Prop} {kc ks i : Nat} {X Y : Nat} {K : Option Value → Heap → Prop} (sim : S_putRight Inv) (hb : gx g (nI i + 2).toNatClampNeg = 0) (hI : Inv x m) (hX : ad 11 0 = X) (hY : ad 12 0 = Y) (h6 : i + 6 ≤ gN g) (hN : gN g < 2 ^ 31) (next : ∀ ad' x' m', ad' 11 0 = X → ad' 12 0 = Y → Inv x' m' → Ev g (d + 30) ML_law (Rep g ad' x' m') kc ks 2154 [some (.ref (gb g)), some (.ref X), some (.ref Y), some (.int (nI i))] [] K) : Ev g (d + 30) ML_law (Rep g ad x m) (kc) (ks) 1698 [some (.ref (gb g)), some (.ref X), some (.ref Y), some (.int (nI i))] [] K := by
  subst hX hY
  obtain ⟨r, hx, hm, hI2⟩ := sim x m (gx g (nI i + 1).toNatClampNeg) (0) (by decide) hI
  refine e_aload_n dL_law_1698 rfl rfl ?_
  refine e_aload_n dL_law_1699 rfl rfl ?_
  refine e_iload_n dL_law_1700 rfl rfl ?_
  refine e_iconst (v := 1) dL_law_1701 rfl ?_
  refine e_iadd dL_law_1702 ?_
  refine e_xaload dL_law_1703 (xin 1 h6 hN (by decide)) ?_
  refine e_aload_n dL_law_1704 rfl rfl ?_
  refine e_pc (pc' := 1705) rfl ?_
  refine e_iload_n dL_law_1705 rfl rfl ?_
  refine e_iconst (v := 2) dL_law_1706 rfl ?_
  refine e_iadd dL_law_1707 ?_
  refine e_xaload dL_law_1708 (xin 2 h6 hN (by decide)) ?_
  refine e_if_eq (tgt := 1716) dL_law_1709 rfl (fun _ => ?_) (fun h => absurd hb h)
  refine e_iconst (v := 0) dL_law_1716 rfl ?_
  refine y_callV (c := 11) (i := 0) (As := [.int (gx g (nI i + 1).toNatClampNeg), .int (0)]) (rest := []) (w := some (.long r)) (x1 := x) (m1 := m) okX11_putRight lkL_187 rfl (by decide) rfl dL_law_1717 rfl rfl (Nat.le_of_ble_eq_true rfl) rfl (c_X11_putRight (gx g (nI i + 1).toNatClampNeg) (0) hx ⟨rfl, rfl, rfl⟩) ?_
  refine e_pc (pc' := 1720) rfl ?_
  refine e_aload_n dL_law_1720 rfl rfl ?_
  refine e_pc (pc' := 1721) rfl ?_
  refine e_aload_n dL_law_1721 rfl rfl ?_
  refine e_iload_n dL_law_1722 rfl rfl ?_
  refine e_iconst (v := 1) dL_law_1723 rfl ?_
  refine e_iadd dL_law_1724 ?_
  refine e_xaload dL_law_1725 (xin 1 h6 hN (by decide)) ?_
  refine e_aload_n dL_law_1726 rfl rfl ?_
  refine e_iload_n dL_law_1727 rfl rfl ?_
  refine e_iconst (v := 2) dL_law_1728 rfl ?_
  refine e_pc (pc' := 1729) rfl ?_
  refine e_iadd dL_law_1729 ?_
  refine e_xaload dL_law_1730 (xin 2 h6 hN (by decide)) ?_
  refine e_if_eq (tgt := 1738) dL_law_1731 rfl (fun _ => ?_) (fun h => absurd hb h)
  refine e_iconst (v := 0) dL_law_1738 rfl ?_
  refine y_callV (c := 12) (i := 0) (As := [.int (gx g (nI i + 1).toNatClampNeg), .int (0)]) (rest := [.long r]) (w := some (.long r)) (x1 := x) (m1 := m) okX12_putRight lkL_191 rfl (by decide) rfl dL_law_1739 rfl rfl (Nat.le_of_ble_eq_true rfl) rfl (c_X12_putRight (gx g (nI i + 1).toNatClampNeg) (0) hm ⟨rfl, rfl, rfl⟩) ?_
  refine e_pc (pc' := 1742) rfl ?_
  refine e_lcmp dL_law_1742 ?_
  refine e_if_eq (tgt := 2154) dL_law_1743 rfl (fun _ => ?_) (fun h => absurd (lcmp_self r) h)
  exact next ad x m rfl rfl hI2
theorem l_41f_putRight {g : GG} {d : Nat} {ad : AD} {x m : VM} {Inv : VM → VM → Prop} {kc ks i : Nat} {X Y : Nat} {K : Option Value → Heap → Prop} (sim : S_putRight Inv) (hb : ¬ gx g (nI i + 2).toNatClampNeg = 0) (hI : Inv x m) (hX : ad 11 0 = X) (hY : ad 12 0 = Y) (h6 : i + 6 ≤ gN g) (hN : gN g < 2 ^ 31) (next : ∀ ad' x' m', ad' 11 0 = X → ad' 12 0 = Y → Inv x' m' → Ev g (d + 30) ML_law (Rep g ad' x' m') kc ks 2154 [some (.ref (gb g)), some (.ref X), some (.ref Y), some (.int (nI i))] [] K) : Ev g (d + 30) ML_law (Rep g ad x m) (kc) (ks) 1698 [some (.ref (gb g)), some (.ref X), some (.ref Y), some (.int (nI i))] [] K := by
  subst hX hY
  obtain ⟨r, hx, hm, hI2⟩ := sim x m (gx g (nI i + 1).toNatClampNeg) (1) (by decide) hI
  refine e_aload_n dL_law_1698 rfl rfl ?_
  refine e_aload_n dL_law_1699 rfl rfl ?_
  refine e_iload_n dL_law_1700 rfl rfl ?_
  refine e_iconst (v := 1) dL_law_1701 rfl ?_
  refine e_iadd dL_law_1702 ?_
  refine e_xaload dL_law_1703 (xin 1 h6 hN (by decide)) ?_
  refine e_aload_n dL_law_1704 rfl rfl ?_
  refine e_pc (pc' := 1705) rfl ?_
  refine e_iload_n dL_law_1705 rfl rfl ?_
  refine e_iconst (v := 2) dL_law_1706 rfl ?_
  refine e_iadd dL_law_1707 ?_
  refine e_xaload dL_law_1708 (xin 2 h6 hN (by decide)) ?_
  refine e_if_eq (tgt := 1716) dL_law_1709 rfl (fun h => absurd h hb) (fun _ => ?_)
  refine e_iconst (v := 1) dL_law_1712 rfl ?_
  refine e_goto (tgt := 1717) dL_law_1713 rfl ?_
  refine y_callV (c := 11) (i := 0) (As := [.int (gx g (nI i + 1).toNatClampNeg), .int (1)]) (rest := []) (w := some (.long r)) (x1 := x) (m1 := m) okX11_putRight lkL_187 rfl (by decide) rfl dL_law_1717 rfl rfl (Nat.le_of_ble_eq_true rfl) rfl (c_X11_putRight (gx g (nI i + 1).toNatClampNeg) (1) hx ⟨rfl, rfl, rfl⟩) ?_
  refine e_pc (pc' := 1720) rfl ?_
  refine e_pc (pc' := 1720) rfl ?_
  refine e_aload_n dL_law_1720 rfl rfl ?_
  refine e_aload_n dL_law_1721 rfl rfl ?_
  refine e_iload_n dL_law_1722 rfl rfl ?_
  refine e_iconst (v := 1) dL_law_1723 rfl ?_
  refine e_iadd dL_law_1724 ?_
  refine e_xaload dL_law_1725 (xin 1 h6 hN (by decide)) ?_
  refine e_aload_n dL_law_1726 rfl rfl ?_
  refine e_iload_n dL_law_1727 rfl rfl ?_
  refine e_pc (pc' := 1728) rfl ?_
  refine e_iconst (v := 2) dL_law_1728 rfl ?_
  refine e_iadd dL_law_1729 ?_
  refine e_xaload dL_law_1730 (xin 2 h6 hN (by decide)) ?_
  refine e_if_eq (tgt := 1738) dL_law_1731 rfl (fun h => absurd h hb) (fun _ => ?_)
  refine e_iconst (v := 1) dL_law_1734 rfl ?_
  refine e_goto (tgt := 1739) dL_law_1735 rfl ?_
  refine y_callV (c := 12) (i := 0) (As := [.int (gx g (nI i + 1).toNatClampNeg), .int (1)]) (rest := [.long r]) (w := some (.long r)) (x1 := x) (m1 := m) okX12_putRight lkL_191 rfl (by decide) rfl dL_law_1739 rfl rfl (Nat.le_of_ble_eq_true rfl) rfl (c_X12_putRight (gx g (nI i + 1).toNatClampNeg) (1) hm ⟨rfl, rfl, rfl⟩) ?_
  refine e_pc (pc' := 1742) rfl ?_
  refine e_lcmp dL_law_1742 ?_
  refine e_pc (pc' := 1743) rfl ?_
  refine e_if_eq (tgt := 2154) dL_law_1743 rfl (fun _ => ?_) (fun h => absurd (lcmp_self r) h)
  exact next ad x m rfl rfl hI2
/-- the class and the reference answer alike: hall -/
def S_hall (Inv : VM → VM → Prop) : Prop := ∀ (x m : VM) (a1 : Int32) (a2 : Int32) (a3 : Int32), Inv x m → ∃ (r : Int32) (x' : VM) (m' : VM), f_X11_hall x a1 a2 a3 = some (r, x') ∧ f_X12_hall m a1 a2 a3 = some (r, m') ∧ Inv x' m'
theorem l_42_hall {g : GG} {d : Nat} {ad : AD} {x m : VM} {Inv : VM → VM → Prop} {kc ks i : Nat} {X Y : Nat} {K : Option Value → Heap → Prop} (sim : S_hall Inv) (hk : ∀ x m, Inv x m → KX x ∧ x.2.2.2 0 ≤ x.2.2.2 5) (hI : Inv x m) (hX : ad 11 0 = X) (hY : ad 12 0 = Y) (h6 : i + 6 ≤ gN g) (hN : gN g < 2 ^ 31) (next : ∀ ad' x' m', ad' 11 0 = X → ad' 12 0 = Y → Inv x' m' → Ev g (d + 30) ML_law (Rep g ad' x' m') kc ks 2154 [some (.ref (gb g)), some (.ref X), some (.ref Y), some (.int (nI i))] [] K) : Ev g (d + 30) ML_law (Rep g ad x m) (3 + kc) (86 + ks) 1748 [some (.ref (gb g)), some (.ref X), some (.ref Y), some (.int (nI i))] [] K := by
  subst hX hY
  obtain ⟨r, x', m', hx, hm, hI2⟩ := sim x m (gx g (nI i + 1).toNatClampNeg) (gx g (nI i + 2).toNatClampNeg) (gx g (nI i + 3).toNatClampNeg) hI
  refine e_aload_n dL_law_1748 rfl rfl ?_
  refine e_aload_n dL_law_1749 rfl rfl ?_
  refine e_iload_n dL_law_1750 rfl rfl ?_
  refine e_iconst (v := 1) dL_law_1751 rfl ?_
  refine e_iadd dL_law_1752 ?_
  refine e_xaload dL_law_1753 (xin 1 h6 hN (by decide)) ?_
  refine e_aload_n dL_law_1754 rfl rfl ?_
  refine e_pc (pc' := 1755) rfl ?_
  refine e_iload_n dL_law_1755 rfl rfl ?_
  refine e_iconst (v := 2) dL_law_1756 rfl ?_
  refine e_iadd dL_law_1757 ?_
  refine e_xaload dL_law_1758 (xin 2 h6 hN (by decide)) ?_
  refine e_aload_n dL_law_1759 rfl rfl ?_
  refine e_iload_n dL_law_1760 rfl rfl ?_
  refine e_iconst (v := 3) dL_law_1761 rfl ?_
  refine e_iadd dL_law_1762 ?_
  refine e_pc (pc' := 1763) rfl ?_
  refine e_xaload dL_law_1763 (xin 3 h6 hN (by decide)) ?_
  refine y_make (As := [.int (gx g (nI i + 1).toNatClampNeg), .int (gx g (nI i + 2).toNatClampNeg), .int (gx g (nI i + 3).toNatClampNeg)]) (rest := []) (mc := 3) (ms := 86) (kc := kc) (ks := ks) okX11_hall lkL_192 rfl dL_law_1764 rfl rfl (Nat.le_of_ble_eq_true rfl) rfl rfl (c_X11_hall (gx g (nI i + 1).toNatClampNeg) (gx g (nI i + 2).toNatClampNeg) (gx g (nI i + 3).toNatClampNeg) (hk x m hI).1 hx) (fun ad9 e11 e12 => ?_)
  rw [← e11, ← e12] at next ⊢
  refine e_pc (pc' := 1767) rfl ?_
  refine e_aload_n dL_law_1767 rfl rfl ?_
  refine e_aload_n dL_law_1768 rfl rfl ?_
  refine e_iload_n dL_law_1769 rfl rfl ?_
  refine e_iconst (v := 1) dL_law_1770 rfl ?_
  refine e_iadd dL_law_1771 ?_
  refine e_xaload dL_law_1772 (xin 1 h6 hN (by decide)) ?_
  refine e_pc (pc' := 1773) rfl ?_
  refine e_aload_n dL_law_1773 rfl rfl ?_
  refine e_iload_n dL_law_1774 rfl rfl ?_
  refine e_iconst (v := 2) dL_law_1775 rfl ?_
  refine e_iadd dL_law_1776 ?_
  refine e_xaload dL_law_1777 (xin 2 h6 hN (by decide)) ?_
  refine e_aload_n dL_law_1778 rfl rfl ?_
  refine e_iload_n dL_law_1779 rfl rfl ?_
  refine e_iconst (v := 3) dL_law_1780 rfl ?_
  refine e_pc (pc' := 1781) rfl ?_
  refine e_iadd dL_law_1781 ?_
  refine e_xaload dL_law_1782 (xin 3 h6 hN (by decide)) ?_
  refine y_callV (c := 12) (i := 0) (As := [.int (gx g (nI i + 1).toNatClampNeg), .int (gx g (nI i + 2).toNatClampNeg), .int (gx g (nI i + 3).toNatClampNeg)]) (rest := [.int r]) (w := some (.int r)) (x1 := x') (m1 := m') okX12_hall lkL_195 rfl (by decide) rfl dL_law_1783 rfl rfl (Nat.le_of_ble_eq_true rfl) rfl (c_X12_hall (gx g (nI i + 1).toNatClampNeg) (gx g (nI i + 2).toNatClampNeg) (gx g (nI i + 3).toNatClampNeg) hm ⟨rfl, rfl, rfl⟩) ?_
  refine e_pc (pc' := 1786) rfl ?_
  refine e_icmp_eq (tgt := 2154) dL_law_1786 rfl (fun _ => ?_) (fun h => absurd rfl h)
  exact next ad9 x' m' rfl rfl hI2
/-- the class and the reference answer alike: clearance -/
def S_clearance (Inv : VM → VM → Prop) : Prop := ∀ (x m : VM) (a1 : Int32), Inv x m → ∃ (r : Int32) (x' : VM) (m' : VM), f_X11_clearance x a1 = some (r, x') ∧ f_X12_clearance m a1 = some (r, m') ∧ Inv x' m'
theorem l_43_clearance {g : GG} {d : Nat} {ad : AD} {x m : VM} {Inv : VM → VM → Prop} {kc ks i : Nat} {X Y : Nat} {K : Option Value → Heap → Prop} (sim : S_clearance Inv) (hI : Inv x m) (hX : ad 11 0 = X) (hY : ad 12 0 = Y) (h6 : i + 6 ≤ gN g) (hN : gN g < 2 ^ 31) (next : ∀ ad' x' m', ad' 11 0 = X → ad' 12 0 = Y → Inv x' m' → Ev g (d + 30) ML_law (Rep g ad' x' m') kc ks 2154 [some (.ref (gb g)), some (.ref X), some (.ref Y), some (.int (nI i))] [] K) : Ev g (d + 30) ML_law (Rep g ad x m) (kc) (ks) 1791 [some (.ref (gb g)), some (.ref X), some (.ref Y), some (.int (nI i))] [] K := by
  subst hX hY
  obtain ⟨r, x', m', hx, hm, hI2⟩ := sim x m (gx g (nI i + 1).toNatClampNeg) hI
  refine e_aload_n dL_law_1791 rfl rfl ?_
  refine e_aload_n dL_law_1792 rfl rfl ?_
  refine e_iload_n dL_law_1793 rfl rfl ?_
  refine e_iconst (v := 1) dL_law_1794 rfl ?_
  refine e_iadd dL_law_1795 ?_
  refine e_xaload dL_law_1796 (xin 1 h6 hN (by decide)) ?_
  refine y_callV (c := 11) (i := 0) (As := [.int (gx g (nI i + 1).toNatClampNeg)]) (rest := []) (w := some (.int r)) (x1 := x') (m1 := m) okX11_clearance lkL_196 rfl (by decide) rfl dL_law_1797 rfl rfl (Nat.le_of_ble_eq_true rfl) rfl (c_X11_clearance (gx g (nI i + 1).toNatClampNeg) hx ⟨rfl, rfl, rfl⟩) ?_
  refine e_pc (pc' := 1800) rfl ?_
  refine e_pc (pc' := 1800) rfl ?_
  refine e_aload_n dL_law_1800 rfl rfl ?_
  refine e_aload_n dL_law_1801 rfl rfl ?_
  refine e_iload_n dL_law_1802 rfl rfl ?_
  refine e_iconst (v := 1) dL_law_1803 rfl ?_
  refine e_iadd dL_law_1804 ?_
  refine e_xaload dL_law_1805 (xin 1 h6 hN (by decide)) ?_
  refine y_callV (c := 12) (i := 0) (As := [.int (gx g (nI i + 1).toNatClampNeg)]) (rest := [.int r]) (w := some (.int r)) (x1 := x') (m1 := m') okX12_clearance lkL_199 rfl (by decide) rfl dL_law_1806 rfl rfl (Nat.le_of_ble_eq_true rfl) rfl (c_X12_clearance (gx g (nI i + 1).toNatClampNeg) hm ⟨rfl, rfl, rfl⟩) ?_
  refine e_pc (pc' := 1809) rfl ?_
  refine e_icmp_eq (tgt := 2154) dL_law_1809 rfl (fun _ => ?_) (fun h => absurd rfl h)
  exact next ad x' m' rfl rfl hI2
/-- the class and the reference answer alike: book -/
def S_book (Inv : VM → VM → Prop) : Prop := ∀ (x m : VM) (a1 : Int32) (a2 : Int32) (a3 : Int32), Inv x m → ∃ (r : Int32) (x' : VM) (m' : VM), f_X11_book x a1 a2 a3 = some (r, x') ∧ f_X12_book m a1 a2 a3 = some (r, m') ∧ Inv x' m'
theorem l_44_book {g : GG} {d : Nat} {ad : AD} {x m : VM} {Inv : VM → VM → Prop} {kc ks i : Nat} {X Y : Nat} {K : Option Value → Heap → Prop} (sim : S_book Inv) (hI : Inv x m) (hX : ad 11 0 = X) (hY : ad 12 0 = Y) (h6 : i + 6 ≤ gN g) (hN : gN g < 2 ^ 31) (next : ∀ ad' x' m', ad' 11 0 = X → ad' 12 0 = Y → Inv x' m' → Ev g (d + 30) ML_law (Rep g ad' x' m') kc ks 2154 [some (.ref (gb g)), some (.ref X), some (.ref Y), some (.int (nI i))] [] K) : Ev g (d + 30) ML_law (Rep g ad x m) (kc) (ks) 1814 [some (.ref (gb g)), some (.ref X), some (.ref Y), some (.int (nI i))] [] K := by
  subst hX hY
  obtain ⟨r, x', m', hx, hm, hI2⟩ := sim x m (gx g (nI i + 1).toNatClampNeg) (gx g (nI i + 2).toNatClampNeg) (gx g (nI i + 3).toNatClampNeg) hI
  refine e_aload_n dL_law_1814 rfl rfl ?_
  refine e_aload_n dL_law_1815 rfl rfl ?_
  refine e_iload_n dL_law_1816 rfl rfl ?_
  refine e_iconst (v := 1) dL_law_1817 rfl ?_
  refine e_iadd dL_law_1818 ?_
  refine e_xaload dL_law_1819 (xin 1 h6 hN (by decide)) ?_
  refine e_aload_n dL_law_1820 rfl rfl ?_
  refine e_pc (pc' := 1821) rfl ?_
  refine e_iload_n dL_law_1821 rfl rfl ?_
  refine e_iconst (v := 2) dL_law_1822 rfl ?_
  refine e_iadd dL_law_1823 ?_
  refine e_xaload dL_law_1824 (xin 2 h6 hN (by decide)) ?_
  refine e_aload_n dL_law_1825 rfl rfl ?_
  refine e_iload_n dL_law_1826 rfl rfl ?_
  refine e_iconst (v := 3) dL_law_1827 rfl ?_
  refine e_iadd dL_law_1828 ?_
  refine e_pc (pc' := 1829) rfl ?_
  refine e_xaload dL_law_1829 (xin 3 h6 hN (by decide)) ?_
  refine y_callV (c := 11) (i := 0) (As := [.int (gx g (nI i + 1).toNatClampNeg), .int (gx g (nI i + 2).toNatClampNeg), .int (gx g (nI i + 3).toNatClampNeg)]) (rest := []) (w := some (.int r)) (x1 := x') (m1 := m) okX11_book lkL_200 rfl (by decide) rfl dL_law_1830 rfl rfl (Nat.le_of_ble_eq_true rfl) rfl (c_X11_book (gx g (nI i + 1).toNatClampNeg) (gx g (nI i + 2).toNatClampNeg) (gx g (nI i + 3).toNatClampNeg) hx ⟨rfl, rfl, rfl⟩) ?_
  refine e_pc (pc' := 1833) rfl ?_
  refine e_aload_n dL_law_1833 rfl rfl ?_
  refine e_aload_n dL_law_1834 rfl rfl ?_
  refine e_iload_n dL_law_1835 rfl rfl ?_
  refine e_iconst (v := 1) dL_law_1836 rfl ?_
  refine e_iadd dL_law_1837 ?_
  refine e_xaload dL_law_1838 (xin 1 h6 hN (by decide)) ?_
  refine e_pc (pc' := 1839) rfl ?_
  refine e_aload_n dL_law_1839 rfl rfl ?_
  refine e_iload_n dL_law_1840 rfl rfl ?_
  refine e_iconst (v := 2) dL_law_1841 rfl ?_
  refine e_iadd dL_law_1842 ?_
  refine e_xaload dL_law_1843 (xin 2 h6 hN (by decide)) ?_
  refine e_aload_n dL_law_1844 rfl rfl ?_
  refine e_iload_n dL_law_1845 rfl rfl ?_
  refine e_iconst (v := 3) dL_law_1846 rfl ?_
  refine e_pc (pc' := 1847) rfl ?_
  refine e_iadd dL_law_1847 ?_
  refine e_xaload dL_law_1848 (xin 3 h6 hN (by decide)) ?_
  refine y_callV (c := 12) (i := 0) (As := [.int (gx g (nI i + 1).toNatClampNeg), .int (gx g (nI i + 2).toNatClampNeg), .int (gx g (nI i + 3).toNatClampNeg)]) (rest := [.int r]) (w := some (.int r)) (x1 := x') (m1 := m') okX12_book lkL_203 rfl (by decide) rfl dL_law_1849 rfl rfl (Nat.le_of_ble_eq_true rfl) rfl (c_X12_book (gx g (nI i + 1).toNatClampNeg) (gx g (nI i + 2).toNatClampNeg) (gx g (nI i + 3).toNatClampNeg) hm ⟨rfl, rfl, rfl⟩) ?_
  refine e_pc (pc' := 1852) rfl ?_
  refine e_icmp_eq (tgt := 2154) dL_law_1852 rfl (fun _ => ?_) (fun h => absurd rfl h)
  exact next ad x' m' rfl rfl hI2
/-- the class and the reference answer alike: block -/
def S_block (Inv : VM → VM → Prop) : Prop := ∀ (x m : VM) (a1 : Int32) (a2 : Int32) (a3 : Int32), Inv x m → ∃ (r : Int32) (x' : VM) (m' : VM), f_X11_block x a1 a2 a3 = some (r, x') ∧ f_X12_block m a1 a2 a3 = some (r, m') ∧ Inv x' m'
theorem l_45_block {g : GG} {d : Nat} {ad : AD} {x m : VM} {Inv : VM → VM → Prop} {kc ks i : Nat} {X Y : Nat} {K : Option Value → Heap → Prop} (sim : S_block Inv) (hI : Inv x m) (hX : ad 11 0 = X) (hY : ad 12 0 = Y) (h6 : i + 6 ≤ gN g) (hN : gN g < 2 ^ 31) (next : ∀ ad' x' m', ad' 11 0 = X → ad' 12 0 = Y → Inv x' m' → Ev g (d + 30) ML_law (Rep g ad' x' m') kc ks 2154 [some (.ref (gb g)), some (.ref X), some (.ref Y), some (.int (nI i))] [] K) : Ev g (d + 30) ML_law (Rep g ad x m) (kc) (ks) 1857 [some (.ref (gb g)), some (.ref X), some (.ref Y), some (.int (nI i))] [] K := by
  subst hX hY
  obtain ⟨r, x', m', hx, hm, hI2⟩ := sim x m (gx g (nI i + 1).toNatClampNeg) (gx g (nI i + 2).toNatClampNeg) (gx g (nI i + 3).toNatClampNeg) hI
  refine e_aload_n dL_law_1857 rfl rfl ?_
  refine e_aload_n dL_law_1858 rfl rfl ?_
  refine e_iload_n dL_law_1859 rfl rfl ?_
  refine e_iconst (v := 1) dL_law_1860 rfl ?_
  refine e_iadd dL_law_1861 ?_
  refine e_xaload dL_law_1862 (xin 1 h6 hN (by decide)) ?_
  refine e_aload_n dL_law_1863 rfl rfl ?_
  refine e_pc (pc' := 1864) rfl ?_
  refine e_iload_n dL_law_1864 rfl rfl ?_
  refine e_iconst (v := 2) dL_law_1865 rfl ?_
  refine e_iadd dL_law_1866 ?_
  refine e_xaload dL_law_1867 (xin 2 h6 hN (by decide)) ?_
  refine e_aload_n dL_law_1868 rfl rfl ?_
  refine e_iload_n dL_law_1869 rfl rfl ?_
  refine e_iconst (v := 3) dL_law_1870 rfl ?_
  refine e_iadd dL_law_1871 ?_
  refine e_pc (pc' := 1872) rfl ?_
  refine e_xaload dL_law_1872 (xin 3 h6 hN (by decide)) ?_
  refine y_callV (c := 11) (i := 0) (As := [.int (gx g (nI i + 1).toNatClampNeg), .int (gx g (nI i + 2).toNatClampNeg), .int (gx g (nI i + 3).toNatClampNeg)]) (rest := []) (w := some (.int r)) (x1 := x') (m1 := m) okX11_block lkL_204 rfl (by decide) rfl dL_law_1873 rfl rfl (Nat.le_of_ble_eq_true rfl) rfl (c_X11_block (gx g (nI i + 1).toNatClampNeg) (gx g (nI i + 2).toNatClampNeg) (gx g (nI i + 3).toNatClampNeg) hx ⟨rfl, rfl, rfl⟩) ?_
  refine e_pc (pc' := 1876) rfl ?_
  refine e_aload_n dL_law_1876 rfl rfl ?_
  refine e_aload_n dL_law_1877 rfl rfl ?_
  refine e_iload_n dL_law_1878 rfl rfl ?_
  refine e_iconst (v := 1) dL_law_1879 rfl ?_
  refine e_iadd dL_law_1880 ?_
  refine e_xaload dL_law_1881 (xin 1 h6 hN (by decide)) ?_
  refine e_pc (pc' := 1882) rfl ?_
  refine e_aload_n dL_law_1882 rfl rfl ?_
  refine e_iload_n dL_law_1883 rfl rfl ?_
  refine e_iconst (v := 2) dL_law_1884 rfl ?_
  refine e_iadd dL_law_1885 ?_
  refine e_xaload dL_law_1886 (xin 2 h6 hN (by decide)) ?_
  refine e_aload_n dL_law_1887 rfl rfl ?_
  refine e_iload_n dL_law_1888 rfl rfl ?_
  refine e_iconst (v := 3) dL_law_1889 rfl ?_
  refine e_pc (pc' := 1890) rfl ?_
  refine e_iadd dL_law_1890 ?_
  refine e_xaload dL_law_1891 (xin 3 h6 hN (by decide)) ?_
  refine y_callV (c := 12) (i := 0) (As := [.int (gx g (nI i + 1).toNatClampNeg), .int (gx g (nI i + 2).toNatClampNeg), .int (gx g (nI i + 3).toNatClampNeg)]) (rest := [.int r]) (w := some (.int r)) (x1 := x') (m1 := m') okX12_block lkL_207 rfl (by decide) rfl dL_law_1892 rfl rfl (Nat.le_of_ble_eq_true rfl) rfl (c_X12_block (gx g (nI i + 1).toNatClampNeg) (gx g (nI i + 2).toNatClampNeg) (gx g (nI i + 3).toNatClampNeg) hm ⟨rfl, rfl, rfl⟩) ?_
  refine e_pc (pc' := 1895) rfl ?_
  refine e_icmp_eq (tgt := 2154) dL_law_1895 rfl (fun _ => ?_) (fun h => absurd rfl h)
  exact next ad x' m' rfl rfl hI2
/-- the class and the reference answer alike: shown -/
def S_shown (Inv : VM → VM → Prop) : Prop := ∀ (x m : VM) (a1 : Int32) (a2 : Int32), Inv x m → ∃ (r : Int32), f_X11_shown x a1 a2 = some r ∧ f_X12_shown m a1 a2 = some r ∧ Inv x m
theorem l_46_shown {g : GG} {d : Nat} {ad : AD} {x m : VM} {Inv : VM → VM → Prop} {kc ks i : Nat} {X Y : Nat} {K : Option Value → Heap → Prop} (sim : S_shown Inv) (hI : Inv x m) (hX : ad 11 0 = X) (hY : ad 12 0 = Y) (h6 : i + 6 ≤ gN g) (hN : gN g < 2 ^ 31) (next : ∀ ad' x' m', ad' 11 0 = X → ad' 12 0 = Y → Inv x' m' → Ev g (d + 30) ML_law (Rep g ad' x' m') kc ks 2154 [some (.ref (gb g)), some (.ref X), some (.ref Y), some (.int (nI i))] [] K) : Ev g (d + 30) ML_law (Rep g ad x m) (kc) (ks) 1900 [some (.ref (gb g)), some (.ref X), some (.ref Y), some (.int (nI i))] [] K := by
  subst hX hY
  obtain ⟨r, hx, hm, hI2⟩ := sim x m (gx g (nI i + 1).toNatClampNeg) (gx g (nI i + 2).toNatClampNeg) hI
  refine e_aload_n dL_law_1900 rfl rfl ?_
  refine e_aload_n dL_law_1901 rfl rfl ?_
  refine e_iload_n dL_law_1902 rfl rfl ?_
  refine e_iconst (v := 1) dL_law_1903 rfl ?_
  refine e_iadd dL_law_1904 ?_
  refine e_xaload dL_law_1905 (xin 1 h6 hN (by decide)) ?_
  refine e_aload_n dL_law_1906 rfl rfl ?_
  refine e_pc (pc' := 1907) rfl ?_
  refine e_iload_n dL_law_1907 rfl rfl ?_
  refine e_iconst (v := 2) dL_law_1908 rfl ?_
  refine e_iadd dL_law_1909 ?_
  refine e_xaload dL_law_1910 (xin 2 h6 hN (by decide)) ?_
  refine y_callV (c := 11) (i := 0) (As := [.int (gx g (nI i + 1).toNatClampNeg), .int (gx g (nI i + 2).toNatClampNeg)]) (rest := []) (w := some (.int r)) (x1 := x) (m1 := m) okX11_shown lkL_208 rfl (by decide) rfl dL_law_1911 rfl rfl (Nat.le_of_ble_eq_true rfl) rfl (c_X11_shown (gx g (nI i + 1).toNatClampNeg) (gx g (nI i + 2).toNatClampNeg) hx ⟨rfl, rfl, rfl⟩) ?_
  refine e_pc (pc' := 1914) rfl ?_
  refine e_aload_n dL_law_1914 rfl rfl ?_
  refine e_aload_n dL_law_1915 rfl rfl ?_
  refine e_iload_n dL_law_1916 rfl rfl ?_
  refine e_pc (pc' := 1917) rfl ?_
  refine e_iconst (v := 1) dL_law_1917 rfl ?_
  refine e_iadd dL_law_1918 ?_
  refine e_xaload dL_law_1919 (xin 1 h6 hN (by decide)) ?_
  refine e_aload_n dL_law_1920 rfl rfl ?_
  refine e_iload_n dL_law_1921 rfl rfl ?_
  refine e_iconst (v := 2) dL_law_1922 rfl ?_
  refine e_iadd dL_law_1923 ?_
  refine e_xaload dL_law_1924 (xin 2 h6 hN (by decide)) ?_
  refine e_pc (pc' := 1925) rfl ?_
  refine y_callV (c := 12) (i := 0) (As := [.int (gx g (nI i + 1).toNatClampNeg), .int (gx g (nI i + 2).toNatClampNeg)]) (rest := [.int r]) (w := some (.int r)) (x1 := x) (m1 := m) okX12_shown lkL_211 rfl (by decide) rfl dL_law_1925 rfl rfl (Nat.le_of_ble_eq_true rfl) rfl (c_X12_shown (gx g (nI i + 1).toNatClampNeg) (gx g (nI i + 2).toNatClampNeg) hm ⟨rfl, rfl, rfl⟩) ?_
  refine e_pc (pc' := 1928) rfl ?_
  refine e_icmp_eq (tgt := 2154) dL_law_1928 rfl (fun _ => ?_) (fun h => absurd rfl h)
  exact next ad x m rfl rfl hI2
/-- the class and the reference answer alike: takings -/
def S_takings (Inv : VM → VM → Prop) : Prop := ∀ (x m : VM) (a1 : Int32) (a2 : Int32) (a3 : Int32), Inv x m → ∃ (r : Int32) (x' : VM) (m' : VM), f_X11_takings x a1 a2 a3 = some (r, x') ∧ f_X12_takings m a1 a2 a3 = some (r, m') ∧ Inv x' m'
theorem l_47_takings {g : GG} {d : Nat} {ad : AD} {x m : VM} {Inv : VM → VM → Prop} {kc ks i : Nat} {X Y : Nat} {K : Option Value → Heap → Prop} (sim : S_takings Inv) (hI : Inv x m) (hX : ad 11 0 = X) (hY : ad 12 0 = Y) (h6 : i + 6 ≤ gN g) (hN : gN g < 2 ^ 31) (next : ∀ ad' x' m', ad' 11 0 = X → ad' 12 0 = Y → Inv x' m' → Ev g (d + 30) ML_law (Rep g ad' x' m') kc ks 2154 [some (.ref (gb g)), some (.ref X), some (.ref Y), some (.int (nI i))] [] K) : Ev g (d + 30) ML_law (Rep g ad x m) (kc) (ks) 1933 [some (.ref (gb g)), some (.ref X), some (.ref Y), some (.int (nI i))] [] K := by
  subst hX hY
  obtain ⟨r, x', m', hx, hm, hI2⟩ := sim x m (gx g (nI i + 1).toNatClampNeg) (gx g (nI i + 2).toNatClampNeg) (gx g (nI i + 3).toNatClampNeg) hI
  refine e_aload_n dL_law_1933 rfl rfl ?_
  refine e_aload_n dL_law_1934 rfl rfl ?_
  refine e_iload_n dL_law_1935 rfl rfl ?_
  refine e_iconst (v := 1) dL_law_1936 rfl ?_
  refine e_iadd dL_law_1937 ?_
  refine e_xaload dL_law_1938 (xin 1 h6 hN (by decide)) ?_
  refine e_aload_n dL_law_1939 rfl rfl ?_
  refine e_pc (pc' := 1940) rfl ?_
  refine e_iload_n dL_law_1940 rfl rfl ?_
  refine e_iconst (v := 2) dL_law_1941 rfl ?_
  refine e_iadd dL_law_1942 ?_
  refine e_xaload dL_law_1943 (xin 2 h6 hN (by decide)) ?_
  refine e_aload_n dL_law_1944 rfl rfl ?_
  refine e_iload_n dL_law_1945 rfl rfl ?_
  refine e_iconst (v := 3) dL_law_1946 rfl ?_
  refine e_iadd dL_law_1947 ?_
  refine e_pc (pc' := 1948) rfl ?_
  refine e_xaload dL_law_1948 (xin 3 h6 hN (by decide)) ?_
  refine y_callV (c := 11) (i := 0) (As := [.int (gx g (nI i + 1).toNatClampNeg), .int (gx g (nI i + 2).toNatClampNeg), .int (gx g (nI i + 3).toNatClampNeg)]) (rest := []) (w := some (.int r)) (x1 := x') (m1 := m) okX11_takings lkL_212 rfl (by decide) rfl dL_law_1949 rfl rfl (Nat.le_of_ble_eq_true rfl) rfl (c_X11_takings (gx g (nI i + 1).toNatClampNeg) (gx g (nI i + 2).toNatClampNeg) (gx g (nI i + 3).toNatClampNeg) hx ⟨rfl, rfl, rfl⟩) ?_
  refine e_pc (pc' := 1952) rfl ?_
  refine e_aload_n dL_law_1952 rfl rfl ?_
  refine e_aload_n dL_law_1953 rfl rfl ?_
  refine e_iload_n dL_law_1954 rfl rfl ?_
  refine e_iconst (v := 1) dL_law_1955 rfl ?_
  refine e_iadd dL_law_1956 ?_
  refine e_xaload dL_law_1957 (xin 1 h6 hN (by decide)) ?_
  refine e_pc (pc' := 1958) rfl ?_
  refine e_aload_n dL_law_1958 rfl rfl ?_
  refine e_iload_n dL_law_1959 rfl rfl ?_
  refine e_iconst (v := 2) dL_law_1960 rfl ?_
  refine e_iadd dL_law_1961 ?_
  refine e_xaload dL_law_1962 (xin 2 h6 hN (by decide)) ?_
  refine e_aload_n dL_law_1963 rfl rfl ?_
  refine e_iload_n dL_law_1964 rfl rfl ?_
  refine e_iconst (v := 3) dL_law_1965 rfl ?_
  refine e_pc (pc' := 1966) rfl ?_
  refine e_iadd dL_law_1966 ?_
  refine e_xaload dL_law_1967 (xin 3 h6 hN (by decide)) ?_
  refine y_callV (c := 12) (i := 0) (As := [.int (gx g (nI i + 1).toNatClampNeg), .int (gx g (nI i + 2).toNatClampNeg), .int (gx g (nI i + 3).toNatClampNeg)]) (rest := [.int r]) (w := some (.int r)) (x1 := x') (m1 := m') okX12_takings lkL_215 rfl (by decide) rfl dL_law_1968 rfl rfl (Nat.le_of_ble_eq_true rfl) rfl (c_X12_takings (gx g (nI i + 1).toNatClampNeg) (gx g (nI i + 2).toNatClampNeg) (gx g (nI i + 3).toNatClampNeg) hm ⟨rfl, rfl, rfl⟩) ?_
  refine e_pc (pc' := 1971) rfl ?_
  refine e_icmp_eq (tgt := 2154) dL_law_1971 rfl (fun _ => ?_) (fun h => absurd rfl h)
  exact next ad x' m' rfl rfl hI2
/-- the class and the reference answer alike: got -/
def S_got (Inv : VM → VM → Prop) : Prop := ∀ (x m : VM) (a1 : Int32) (a2 : Int32), Inv x m → ∃ (r : Int32), f_X11_got x a1 a2 = some r ∧ f_X12_got m a1 a2 = some r ∧ Inv x m
theorem l_48_got {g : GG} {d : Nat} {ad : AD} {x m : VM} {Inv : VM → VM → Prop} {kc ks i : Nat} {X Y : Nat} {K : Option Value → Heap → Prop} (sim : S_got Inv) (hI : Inv x m) (hX : ad 11 0 = X) (hY : ad 12 0 = Y) (h6 : i + 6 ≤ gN g) (hN : gN g < 2 ^ 31) (next : ∀ ad' x' m', ad' 11 0 = X → ad' 12 0 = Y → Inv x' m' → Ev g (d + 30) ML_law (Rep g ad' x' m') kc ks 2154 [some (.ref (gb g)), some (.ref X), some (.ref Y), some (.int (nI i))] [] K) : Ev g (d + 30) ML_law (Rep g ad x m) (kc) (ks) 1976 [some (.ref (gb g)), some (.ref X), some (.ref Y), some (.int (nI i))] [] K := by
  subst hX hY
  obtain ⟨r, hx, hm, hI2⟩ := sim x m (gx g (nI i + 1).toNatClampNeg) (gx g (nI i + 2).toNatClampNeg) hI
  refine e_aload_n dL_law_1976 rfl rfl ?_
  refine e_aload_n dL_law_1977 rfl rfl ?_
  refine e_iload_n dL_law_1978 rfl rfl ?_
  refine e_iconst (v := 1) dL_law_1979 rfl ?_
  refine e_iadd dL_law_1980 ?_
  refine e_xaload dL_law_1981 (xin 1 h6 hN (by decide)) ?_
  refine e_aload_n dL_law_1982 rfl rfl ?_
  refine e_pc (pc' := 1983) rfl ?_
  refine e_iload_n dL_law_1983 rfl rfl ?_
  refine e_iconst (v := 2) dL_law_1984 rfl ?_
  refine e_iadd dL_law_1985 ?_
  refine e_xaload dL_law_1986 (xin 2 h6 hN (by decide)) ?_
  refine y_callV (c := 11) (i := 0) (As := [.int (gx g (nI i + 1).toNatClampNeg), .int (gx g (nI i + 2).toNatClampNeg)]) (rest := []) (w := some (.int r)) (x1 := x) (m1 := m) okX11_got lkL_216 rfl (by decide) rfl dL_law_1987 rfl rfl (Nat.le_of_ble_eq_true rfl) rfl (c_X11_got (gx g (nI i + 1).toNatClampNeg) (gx g (nI i + 2).toNatClampNeg) hx ⟨rfl, rfl, rfl⟩) ?_
  refine e_pc (pc' := 1990) rfl ?_
  refine e_aload_n dL_law_1990 rfl rfl ?_
  refine e_aload_n dL_law_1991 rfl rfl ?_
  refine e_iload_n dL_law_1992 rfl rfl ?_
  refine e_pc (pc' := 1993) rfl ?_
  refine e_iconst (v := 1) dL_law_1993 rfl ?_
  refine e_iadd dL_law_1994 ?_
  refine e_xaload dL_law_1995 (xin 1 h6 hN (by decide)) ?_
  refine e_aload_n dL_law_1996 rfl rfl ?_
  refine e_iload_n dL_law_1997 rfl rfl ?_
  refine e_iconst (v := 2) dL_law_1998 rfl ?_
  refine e_iadd dL_law_1999 ?_
  refine e_xaload dL_law_2000 (xin 2 h6 hN (by decide)) ?_
  refine e_pc (pc' := 2001) rfl ?_
  refine y_callV (c := 12) (i := 0) (As := [.int (gx g (nI i + 1).toNatClampNeg), .int (gx g (nI i + 2).toNatClampNeg)]) (rest := [.int r]) (w := some (.int r)) (x1 := x) (m1 := m) okX12_got lkL_219 rfl (by decide) rfl dL_law_2001 rfl rfl (Nat.le_of_ble_eq_true rfl) rfl (c_X12_got (gx g (nI i + 1).toNatClampNeg) (gx g (nI i + 2).toNatClampNeg) hm ⟨rfl, rfl, rfl⟩) ?_
  refine e_pc (pc' := 2004) rfl ?_
  refine e_icmp_eq (tgt := 2154) dL_law_2004 rfl (fun _ => ?_) (fun h => absurd rfl h)
  exact next ad x m rfl rfl hI2
/-- the class and the reference answer alike: lot -/
def S_lot (Inv : VM → VM → Prop) : Prop := ∀ (x m : VM) (a1 : Int32) (a2 : Int32), Inv x m → ∃ (r : Int32) (x' : VM) (m' : VM), f_X11_lot x a1 a2 = some (r, x') ∧ f_X12_lot m a1 a2 = some (r, m') ∧ Inv x' m'
theorem l_49_lot {g : GG} {d : Nat} {ad : AD} {x m : VM} {Inv : VM → VM → Prop} {kc ks i : Nat} {X Y : Nat} {K : Option Value → Heap → Prop} (sim : S_lot Inv) (hI : Inv x m) (hX : ad 11 0 = X) (hY : ad 12 0 = Y) (h6 : i + 6 ≤ gN g) (hN : gN g < 2 ^ 31) (next : ∀ ad' x' m', ad' 11 0 = X → ad' 12 0 = Y → Inv x' m' → Ev g (d + 30) ML_law (Rep g ad' x' m') kc ks 2154 [some (.ref (gb g)), some (.ref X), some (.ref Y), some (.int (nI i))] [] K) : Ev g (d + 30) ML_law (Rep g ad x m) (kc) (ks) 2009 [some (.ref (gb g)), some (.ref X), some (.ref Y), some (.int (nI i))] [] K := by
  subst hX hY
  obtain ⟨r, x', m', hx, hm, hI2⟩ := sim x m (gx g (nI i + 1).toNatClampNeg) (gx g (nI i + 2).toNatClampNeg) hI
  refine e_aload_n dL_law_2009 rfl rfl ?_
  refine e_aload_n dL_law_2010 rfl rfl ?_
  refine e_iload_n dL_law_2011 rfl rfl ?_
  refine e_iconst (v := 1) dL_law_2012 rfl ?_
  refine e_iadd dL_law_2013 ?_
  refine e_xaload dL_law_2014 (xin 1 h6 hN (by decide)) ?_
  refine e_aload_n dL_law_2015 rfl rfl ?_
  refine e_pc (pc' := 2016) rfl ?_
  refine e_iload_n dL_law_2016 rfl rfl ?_
  refine e_iconst (v := 2) dL_law_2017 rfl ?_
  refine e_iadd dL_law_2018 ?_
  refine e_xaload dL_law_2019 (xin 2 h6 hN (by decide)) ?_
  refine y_callV (c := 11) (i := 0) (As := [.int (gx g (nI i + 1).toNatClampNeg), .int (gx g (nI i + 2).toNatClampNeg)]) (rest := []) (w := some (.int r)) (x1 := x') (m1 := m) okX11_lot lkL_220 rfl (by decide) rfl dL_law_2020 rfl rfl (Nat.le_of_ble_eq_true rfl) rfl (c_X11_lot (gx g (nI i + 1).toNatClampNeg) (gx g (nI i + 2).toNatClampNeg) hx ⟨rfl, rfl, rfl⟩) ?_
  refine e_pc (pc' := 2023) rfl ?_
  refine e_aload_n dL_law_2023 rfl rfl ?_
  refine e_aload_n dL_law_2024 rfl rfl ?_
  refine e_iload_n dL_law_2025 rfl rfl ?_
  refine e_pc (pc' := 2026) rfl ?_
  refine e_iconst (v := 1) dL_law_2026 rfl ?_
  refine e_iadd dL_law_2027 ?_
  refine e_xaload dL_law_2028 (xin 1 h6 hN (by decide)) ?_
  refine e_aload_n dL_law_2029 rfl rfl ?_
  refine e_iload_n dL_law_2030 rfl rfl ?_
  refine e_iconst (v := 2) dL_law_2031 rfl ?_
  refine e_iadd dL_law_2032 ?_
  refine e_xaload dL_law_2033 (xin 2 h6 hN (by decide)) ?_
  refine e_pc (pc' := 2034) rfl ?_
  refine y_callV (c := 12) (i := 0) (As := [.int (gx g (nI i + 1).toNatClampNeg), .int (gx g (nI i + 2).toNatClampNeg)]) (rest := [.int r]) (w := some (.int r)) (x1 := x') (m1 := m') okX12_lot lkL_223 rfl (by decide) rfl dL_law_2034 rfl rfl (Nat.le_of_ble_eq_true rfl) rfl (c_X12_lot (gx g (nI i + 1).toNatClampNeg) (gx g (nI i + 2).toNatClampNeg) hm ⟨rfl, rfl, rfl⟩) ?_
  refine e_pc (pc' := 2037) rfl ?_
  refine e_icmp_eq (tgt := 2154) dL_law_2037 rfl (fun _ => ?_) (fun h => absurd rfl h)
  exact next ad x' m' rfl rfl hI2
/-- the class and the reference answer alike: worth -/
def S_worth (Inv : VM → VM → Prop) : Prop := ∀ (x m : VM) (a1 : Int32) (a2 : Int32) (a3 : Int32), Inv x m → ∃ (r : Int32) (x' : VM) (m' : VM), f_X11_worth x a1 a2 a3 = some (r, x') ∧ f_X12_worth m a1 a2 a3 = some (r, m') ∧ Inv x' m'
theorem l_50_worth {g : GG} {d : Nat} {ad : AD} {x m : VM} {Inv : VM → VM → Prop} {kc ks i : Nat} {X Y : Nat} {K : Option Value → Heap → Prop} (sim : S_worth Inv) (hI : Inv x m) (hX : ad 11 0 = X) (hY : ad 12 0 = Y) (h6 : i + 6 ≤ gN g) (hN : gN g < 2 ^ 31) (next : ∀ ad' x' m', ad' 11 0 = X → ad' 12 0 = Y → Inv x' m' → Ev g (d + 30) ML_law (Rep g ad' x' m') kc ks 2154 [some (.ref (gb g)), some (.ref X), some (.ref Y), some (.int (nI i))] [] K) : Ev g (d + 30) ML_law (Rep g ad x m) (kc) (ks) 2042 [some (.ref (gb g)), some (.ref X), some (.ref Y), some (.int (nI i))] [] K := by
  subst hX hY
  obtain ⟨r, x', m', hx, hm, hI2⟩ := sim x m (gx g (nI i + 1).toNatClampNeg) (gx g (nI i + 2).toNatClampNeg) (gx g (nI i + 3).toNatClampNeg) hI
  refine e_aload_n dL_law_2042 rfl rfl ?_
  refine e_aload_n dL_law_2043 rfl rfl ?_
  refine e_iload_n dL_law_2044 rfl rfl ?_
  refine e_iconst (v := 1) dL_law_2045 rfl ?_
  refine e_iadd dL_law_2046 ?_
  refine e_xaload dL_law_2047 (xin 1 h6 hN (by decide)) ?_
  refine e_aload_n dL_law_2048 rfl rfl ?_
  refine e_pc (pc' := 2049) rfl ?_
  refine e_iload_n dL_law_2049 rfl rfl ?_
  refine e_iconst (v := 2) dL_law_2050 rfl ?_
  refine e_iadd dL_law_2051 ?_
  refine e_xaload dL_law_2052 (xin 2 h6 hN (by decide)) ?_
  refine e_aload_n dL_law_2053 rfl rfl ?_
  refine e_iload_n dL_law_2054 rfl rfl ?_
  refine e_iconst (v := 3) dL_law_2055 rfl ?_
  refine e_iadd dL_law_2056 ?_
  refine e_pc (pc' := 2057) rfl ?_
  refine e_xaload dL_law_2057 (xin 3 h6 hN (by decide)) ?_
  refine y_callV (c := 11) (i := 0) (As := [.int (gx g (nI i + 1).toNatClampNeg), .int (gx g (nI i + 2).toNatClampNeg), .int (gx g (nI i + 3).toNatClampNeg)]) (rest := []) (w := some (.int r)) (x1 := x') (m1 := m) okX11_worth lkL_224 rfl (by decide) rfl dL_law_2058 rfl rfl (Nat.le_of_ble_eq_true rfl) rfl (c_X11_worth (gx g (nI i + 1).toNatClampNeg) (gx g (nI i + 2).toNatClampNeg) (gx g (nI i + 3).toNatClampNeg) hx ⟨rfl, rfl, rfl⟩) ?_
  refine e_pc (pc' := 2061) rfl ?_
  refine e_aload_n dL_law_2061 rfl rfl ?_
  refine e_aload_n dL_law_2062 rfl rfl ?_
  refine e_iload_n dL_law_2063 rfl rfl ?_
  refine e_iconst (v := 1) dL_law_2064 rfl ?_
  refine e_iadd dL_law_2065 ?_
  refine e_xaload dL_law_2066 (xin 1 h6 hN (by decide)) ?_
  refine e_pc (pc' := 2067) rfl ?_
  refine e_aload_n dL_law_2067 rfl rfl ?_
  refine e_iload_n dL_law_2068 rfl rfl ?_
  refine e_iconst (v := 2) dL_law_2069 rfl ?_
  refine e_iadd dL_law_2070 ?_
  refine e_xaload dL_law_2071 (xin 2 h6 hN (by decide)) ?_
  refine e_aload_n dL_law_2072 rfl rfl ?_
  refine e_iload_n dL_law_2073 rfl rfl ?_
  refine e_iconst (v := 3) dL_law_2074 rfl ?_
  refine e_pc (pc' := 2075) rfl ?_
  refine e_iadd dL_law_2075 ?_
  refine e_xaload dL_law_2076 (xin 3 h6 hN (by decide)) ?_
  refine y_callV (c := 12) (i := 0) (As := [.int (gx g (nI i + 1).toNatClampNeg), .int (gx g (nI i + 2).toNatClampNeg), .int (gx g (nI i + 3).toNatClampNeg)]) (rest := [.int r]) (w := some (.int r)) (x1 := x') (m1 := m') okX12_worth lkL_227 rfl (by decide) rfl dL_law_2077 rfl rfl (Nat.le_of_ble_eq_true rfl) rfl (c_X12_worth (gx g (nI i + 1).toNatClampNeg) (gx g (nI i + 2).toNatClampNeg) (gx g (nI i + 3).toNatClampNeg) hm ⟨rfl, rfl, rfl⟩) ?_
  refine e_pc (pc' := 2080) rfl ?_
  refine e_icmp_eq (tgt := 2154) dL_law_2080 rfl (fun _ => ?_) (fun h => absurd rfl h)
  exact next ad x' m' rfl rfl hI2
/-- the class and the reference answer alike: plan -/
def S_plan (Inv : VM → VM → Prop) : Prop := ∀ (x m : VM) (a1 : Int32), Inv x m → ∃ (r : Int32) (x' : VM) (m' : VM), f_X11_plan x a1 = some (r, x') ∧ f_X12_plan m a1 = some (r, m') ∧ Inv x' m'
theorem l_51_plan {g : GG} {d : Nat} {ad : AD} {x m : VM} {Inv : VM → VM → Prop} {kc ks i : Nat} {X Y : Nat} {K : Option Value → Heap → Prop} (sim : S_plan Inv) (hI : Inv x m) (hX : ad 11 0 = X) (hY : ad 12 0 = Y) (h6 : i + 6 ≤ gN g) (hN : gN g < 2 ^ 31) (next : ∀ ad' x' m', ad' 11 0 = X → ad' 12 0 = Y → Inv x' m' → Ev g (d + 30) ML_law (Rep g ad' x' m') kc ks 2154 [some (.ref (gb g)), some (.ref X), some (.ref Y), some (.int (nI i))] [] K) : Ev g (d + 30) ML_law (Rep g ad x m) (kc) (ks) 2085 [some (.ref (gb g)), some (.ref X), some (.ref Y), some (.int (nI i))] [] K := by
  subst hX hY
  obtain ⟨r, x', m', hx, hm, hI2⟩ := sim x m (gx g (nI i + 1).toNatClampNeg) hI
  refine e_aload_n dL_law_2085 rfl rfl ?_
  refine e_aload_n dL_law_2086 rfl rfl ?_
  refine e_iload_n dL_law_2087 rfl rfl ?_
  refine e_iconst (v := 1) dL_law_2088 rfl ?_
  refine e_iadd dL_law_2089 ?_
  refine e_xaload dL_law_2090 (xin 1 h6 hN (by decide)) ?_
  refine y_callV (c := 11) (i := 0) (As := [.int (gx g (nI i + 1).toNatClampNeg)]) (rest := []) (w := some (.int r)) (x1 := x') (m1 := m) okX11_plan lkL_228 rfl (by decide) rfl dL_law_2091 rfl rfl (Nat.le_of_ble_eq_true rfl) rfl (c_X11_plan (gx g (nI i + 1).toNatClampNeg) hx ⟨rfl, rfl, rfl⟩) ?_
  refine e_pc (pc' := 2094) rfl ?_
  refine e_pc (pc' := 2094) rfl ?_
  refine e_aload_n dL_law_2094 rfl rfl ?_
  refine e_aload_n dL_law_2095 rfl rfl ?_
  refine e_iload_n dL_law_2096 rfl rfl ?_
  refine e_iconst (v := 1) dL_law_2097 rfl ?_
  refine e_iadd dL_law_2098 ?_
  refine e_xaload dL_law_2099 (xin 1 h6 hN (by decide)) ?_
  refine y_callV (c := 12) (i := 0) (As := [.int (gx g (nI i + 1).toNatClampNeg)]) (rest := [.int r]) (w := some (.int r)) (x1 := x') (m1 := m') okX12_plan lkL_231 rfl (by decide) rfl dL_law_2100 rfl rfl (Nat.le_of_ble_eq_true rfl) rfl (c_X12_plan (gx g (nI i + 1).toNatClampNeg) hm ⟨rfl, rfl, rfl⟩) ?_
  refine e_pc (pc' := 2103) rfl ?_
  refine e_icmp_eq (tgt := 2154) dL_law_2103 rfl (fun _ => ?_) (fun h => absurd rfl h)
  exact next ad x' m' rfl rfl hI2
/-- the class and the reference answer alike: planned -/
def S_planned (Inv : VM → VM → Prop) : Prop := ∀ (x m : VM) (a1 : Int32), Inv x m → ∃ (r : Int32), f_X11_planned x a1 = some r ∧ f_X12_planned m a1 = some r ∧ Inv x m
theorem l_52_planned {g : GG} {d : Nat} {ad : AD} {x m : VM} {Inv : VM → VM → Prop} {kc ks i : Nat} {X Y : Nat} {K : Option Value → Heap → Prop} (sim : S_planned Inv) (hI : Inv x m) (hX : ad 11 0 = X) (hY : ad 12 0 = Y) (h6 : i + 6 ≤ gN g) (hN : gN g < 2 ^ 31) (next : ∀ ad' x' m', ad' 11 0 = X → ad' 12 0 = Y → Inv x' m' → Ev g (d + 30) ML_law (Rep g ad' x' m') kc ks 2154 [some (.ref (gb g)), some (.ref X), some (.ref Y), some (.int (nI i))] [] K) : Ev g (d + 30) ML_law (Rep g ad x m) (kc) (ks) 2108 [some (.ref (gb g)), some (.ref X), some (.ref Y), some (.int (nI i))] [] K := by
  subst hX hY
  obtain ⟨r, hx, hm, hI2⟩ := sim x m (gx g (nI i + 1).toNatClampNeg) hI
  refine e_aload_n dL_law_2108 rfl rfl ?_
  refine e_aload_n dL_law_2109 rfl rfl ?_
  refine e_iload_n dL_law_2110 rfl rfl ?_
  refine e_iconst (v := 1) dL_law_2111 rfl ?_
  refine e_iadd dL_law_2112 ?_
  refine e_xaload dL_law_2113 (xin 1 h6 hN (by decide)) ?_
  refine y_callV (c := 11) (i := 0) (As := [.int (gx g (nI i + 1).toNatClampNeg)]) (rest := []) (w := some (.int r)) (x1 := x) (m1 := m) okX11_planned lkL_232 rfl (by decide) rfl dL_law_2114 rfl rfl (Nat.le_of_ble_eq_true rfl) rfl (c_X11_planned (gx g (nI i + 1).toNatClampNeg) hx ⟨rfl, rfl, rfl⟩) ?_
  refine e_pc (pc' := 2117) rfl ?_
  refine e_pc (pc' := 2117) rfl ?_
  refine e_aload_n dL_law_2117 rfl rfl ?_
  refine e_aload_n dL_law_2118 rfl rfl ?_
  refine e_iload_n dL_law_2119 rfl rfl ?_
  refine e_iconst (v := 1) dL_law_2120 rfl ?_
  refine e_iadd dL_law_2121 ?_
  refine e_xaload dL_law_2122 (xin 1 h6 hN (by decide)) ?_
  refine y_callV (c := 12) (i := 0) (As := [.int (gx g (nI i + 1).toNatClampNeg)]) (rest := [.int r]) (w := some (.int r)) (x1 := x) (m1 := m) okX12_planned lkL_235 rfl (by decide) rfl dL_law_2123 rfl rfl (Nat.le_of_ble_eq_true rfl) rfl (c_X12_planned (gx g (nI i + 1).toNatClampNeg) hm ⟨rfl, rfl, rfl⟩) ?_
  refine e_pc (pc' := 2126) rfl ?_
  refine e_icmp_eq (tgt := 2154) dL_law_2126 rfl (fun _ => ?_) (fun h => absurd rfl h)
  exact next ad x m rfl rfl hI2
/-- the class and the reference answer alike: status -/
def S_status (Inv : VM → VM → Prop) : Prop := ∀ (x m : VM) (a1 : Int32), Inv x m → ∃ (r : Int32), f_X11_status x a1 = some r ∧ f_X12_status m a1 = some r ∧ Inv x m
theorem l_53_status {g : GG} {d : Nat} {ad : AD} {x m : VM} {Inv : VM → VM → Prop} {kc ks i : Nat} {X Y : Nat} {K : Option Value → Heap → Prop} (sim : S_status Inv) (hI : Inv x m) (hX : ad 11 0 = X) (hY : ad 12 0 = Y) (h6 : i + 6 ≤ gN g) (hN : gN g < 2 ^ 31) (next : ∀ ad' x' m', ad' 11 0 = X → ad' 12 0 = Y → Inv x' m' → Ev g (d + 30) ML_law (Rep g ad' x' m') kc ks 2154 [some (.ref (gb g)), some (.ref X), some (.ref Y), some (.int (nI i))] [] K) : Ev g (d + 30) ML_law (Rep g ad x m) (kc) (ks) 2131 [some (.ref (gb g)), some (.ref X), some (.ref Y), some (.int (nI i))] [] K := by
  subst hX hY
  obtain ⟨r, hx, hm, hI2⟩ := sim x m (gx g (nI i + 1).toNatClampNeg) hI
  refine e_aload_n dL_law_2131 rfl rfl ?_
  refine e_aload_n dL_law_2132 rfl rfl ?_
  refine e_iload_n dL_law_2133 rfl rfl ?_
  refine e_iconst (v := 1) dL_law_2134 rfl ?_
  refine e_iadd dL_law_2135 ?_
  refine e_xaload dL_law_2136 (xin 1 h6 hN (by decide)) ?_
  refine y_callV (c := 11) (i := 0) (As := [.int (gx g (nI i + 1).toNatClampNeg)]) (rest := []) (w := some (.int r)) (x1 := x) (m1 := m) okX11_status lkL_236 rfl (by decide) rfl dL_law_2137 rfl rfl (Nat.le_of_ble_eq_true rfl) rfl (c_X11_status (gx g (nI i + 1).toNatClampNeg) hx ⟨rfl, rfl, rfl⟩) ?_
  refine e_pc (pc' := 2140) rfl ?_
  refine e_pc (pc' := 2140) rfl ?_
  refine e_aload_n dL_law_2140 rfl rfl ?_
  refine e_aload_n dL_law_2141 rfl rfl ?_
  refine e_iload_n dL_law_2142 rfl rfl ?_
  refine e_iconst (v := 1) dL_law_2143 rfl ?_
  refine e_iadd dL_law_2144 ?_
  refine e_xaload dL_law_2145 (xin 1 h6 hN (by decide)) ?_
  refine y_callV (c := 12) (i := 0) (As := [.int (gx g (nI i + 1).toNatClampNeg)]) (rest := [.int r]) (w := some (.int r)) (x1 := x) (m1 := m) okX12_status lkL_239 rfl (by decide) rfl dL_law_2146 rfl rfl (Nat.le_of_ble_eq_true rfl) rfl (c_X12_status (gx g (nI i + 1).toNatClampNeg) hm ⟨rfl, rfl, rfl⟩) ?_
  refine e_pc (pc' := 2149) rfl ?_
  refine e_icmp_eq (tgt := 2154) dL_law_2149 rfl (fun _ => ?_) (fun h => absurd rfl h)
  exact next ad x m rfl rfl hI2
