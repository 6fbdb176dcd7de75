/-! the law's calls that may throw -/
theorem hi_out {m m1 : Mem} {z : Int} (h : HighEq m m1) : HighEq (up2 m 208 0 z) (up2 m1 208 0 z) := fun k hk => by
  by_cases c : k = 208
  · subst c
    funext j
    by_cases e : j = 0
    · rw [e, up2_same, up2_same]
    · rw [up2_j e, up2_j e, h 208 (by decide)]
  · rw [up2_k c, up2_k c, h k hk]
theorem hk_street : Cond.methodLink RL 49 yL_street ∈ T0 := tw6 14 rfl (by decide +kernel)
theorem hi_street : Cond.initialized yL_street.cls ∈ T0 := tw1 0 rfl (by decide +kernel)
theorem hk_bin : Cond.methodLink RL 58 yL_bin ∈ T0 := tw6 88 rfl (by decide +kernel)
theorem hi_bin : Cond.initialized yL_bin.cls ∈ T0 := tw1 0 rfl (by decide +kernel)
theorem hk_hill : Cond.methodLink RL 118 yL_hill ∈ T0 := tw6 103 rfl (by decide +kernel)
theorem hi_hill : Cond.initialized yL_hill.cls ∈ T0 := tw1 0 rfl (by decide +kernel)
theorem hk_row : Cond.methodLink RL 199 yL_row ∈ T0 := tw6 110 rfl (by decide +kernel)
theorem hi_row : Cond.initialized yL_row.cls ∈ T0 := tw1 0 rfl (by decide +kernel)
theorem secN_out (m : Mem) (v : (Int → Int) → Int) (r : Int → Int) (z s how hill men : Int) : secN (up2 m 208 0 z) v r s how hill men = secN m v r s how hill men := by
  unfold secN
  rw [goesP_congr (b := m) (up2_k (by decide)) (up2_k (by decide)) (up2_k (by decide))]
  rfl
theorem hill_out (m : Mem) (v : (Int → Int) → Int) (z s : Int) : bestS (up2 m 208 0 z) v (up2 m 208 0 z 180) s - secN (up2 m 208 0 z) v (emptyRow (up2 m 208 0 z 180)) s (bestH (fun how => secN (up2 m 208 0 z) v (emptyRow (up2 m 208 0 z 180)) s how (-1) (up2 m 208 0 z 179 1))) (-1) (up2 m 208 0 z 179 1) = bestS m v (m 180) s - secN m v (emptyRow (m 180)) s (bestH (fun how => secN m v (emptyRow (m 180)) s how (-1) (m 179 1))) (-1) (m 179 1) := by
  have e180 : up2 m 208 0 z 180 = m 180 := up2_k (by decide)
  have e179 : up2 m 208 0 z 179 = m 179 := up2_k (by decide)
  have e173 : up2 m 208 0 z 173 = m 173 := up2_k (by decide)
  unfold bestS BT
  simp only [secN_out, e180, e179, e173]
theorem lc_street {E : Nat × (Nat → Int32)} {tb : List ExceptionTableEntry} {nm : String} {v : (Int → Int) → Int} {B i : Int} {m : Mem} {k u : Nat} (hR : Rel v B m) (hB : B ≤ 800000000) (h0 : 0 ≤ i) (h5 : i + 5 ≤ (E.1 : Int)) (hE : (E.1 : Int) ≤ 2560) (hk : k + 1 ≤ 601024) (hu : u + 6 ≤ 7293034) (kk : LK E tb nm B i k u) : LG E tb nm 292 (lvi i) [] k u m := by
  have w0 := hR.2.2.2
  have e : m 9 1 = m 169 3 := hR.1.town.1
  have n6 := w0.tn
  refine G_aload_n dL_law_292 rfl ?_
  have r1 := sx_r E i 1
  have r2 := sx_r E i 2
  refine G_aload_n dL_law_293 rfl ?_
  refine G_iload dL_law_294 rfl ?_
  refine G_iconst (z := 1) dL_law_296 rfl ?_
  refine G_iadd dL_law_297 ?_
  refine G_sld dL_law_298 (by decide) (by omega) (by omega) (by omega) rfl ?_
  refine G_aload_n dL_law_299 rfl ?_
  refine G_iload dL_law_300 rfl ?_
  refine G_iconst (z := 2) dL_law_302 rfl ?_
  refine G_iadd dL_law_303 ?_
  refine G_sld dL_law_304 (by decide) (by omega) (by omega) (by omega) rfl ?_
  refine G_aload_n dL_law_305 rfl ?_
  refine G_callH (n := 4) (as := [.ref 0, vi (sx E i 1), vi (sx E i 2), .ref 208]) (hx_street (ok := 0 ≤ (sx E i 1) ∧ (sx E i 1) < m 169 3 ∧ 0 ≤ (sx E i 2) ∧ (sx E i 2) ≤ 8) (Q := fun z c => z = streetR m (sx E i 1) (sx E i 2) ∧ c = m) (fun o => ct_street hR.1 w0.town o.1 o.2.1 o.2.2.1 o.2.2.2) (fun o => cx_street (by omega) r1 r2 (fun p => o (by rw [e] at p; exact p)))) dL_law_306 hk_street hi_street hc_street (by decide) (by decide +kernel) hs_street rfl ⟨Nat.le_of_ble_eq_true rfl, Nat.le_of_ble_eq_true rfl⟩ rfl rfl ⟨by show k + 1 ≤ 601024; omega, by show u + 6 ≤ 7293034; omega⟩ (Nat.le_of_ble_eq_true rfl) (Nat.zero_le _) rfl (fun r M2 h => ?_)
  rcases h with ⟨o, rfl, z, m1, hq, rfl⟩ | ⟨o, rfl, rfl⟩
  · obtain ⟨hz, rfl⟩ := hq
    have hO := hR.out (z := (iI z).toInt)
    refine G_istore dL_law_309 (Nat.le_of_ble_eq_true rfl) rfl ?_
    refine G_aload_n dL_law_311 rfl ?_
    refine G_aload_n dL_law_312 rfl ?_
    refine G_iload dL_law_313 rfl ?_
    refine G_iconst (z := 1) dL_law_315 rfl ?_
    refine G_iadd dL_law_316 ?_
    refine G_sld dL_law_317 (by decide) (by omega) (by omega) (by omega) rfl ?_
    refine G_aload_n dL_law_318 rfl ?_
    refine G_iload dL_law_319 rfl ?_
    refine G_iconst (z := 2) dL_law_321 rfl ?_
    refine G_iadd dL_law_322 ?_
    refine G_sld dL_law_323 (by decide) (by omega) (by omega) (by omega) rfl ?_
    refine G_callVM (as := [vi (sx E i 1), vi (sx E i 2)]) (mt_street (B := B) r1 r2 hO.2.2.2.town hO.2.2.2.now) dL_law_324 cv_L_54 im_X12_street sl_X12_street (by decide) sh_169 rfl rfl ⟨Nat.le_of_ble_eq_true rfl, Nat.le_of_ble_eq_true rfl⟩ rfl rfl ⟨by show k + 1 ≤ 601024; omega, by show u + 6 ≤ 7293034; omega⟩ (Nat.le_of_ble_eq_true rfl) ⟨Nat.zero_le _, by decide⟩ rfl (fun r m3 g => ?_)
    obtain ⟨y, rfl, g⟩ := g
    obtain ⟨-, ez, e2⟩ := g.resolve_right (fun no => no.1 o)
    have t0 : m3 169 0 = 0 := by rw [e2, up2_same]
    have t8 : m3 208 0 = (iI z).toInt := by rw [e2, up2_k (by decide), up2_same]
    have hF : Rel v B m3 := by rw [e2]; exact hO.th
    have ey : y = z := ez.trans hz.symm
    subst ey
    refine G_istore dL_law_327 (Nat.le_of_ble_eq_true rfl) rfl ?_
    refine G_aload_n dL_law_329 rfl ?_
    refine G_callVM (as := []) (ic_X12_thrown (m := m3) (Q := fun z9 m9 => z9 = 0 ∧ m9 = m3) ⟨t0, rfl⟩) dL_law_330 cv_L_55 im_X12_thrown sl_X12_thrown (by decide) sh_169 rfl rfl ⟨Nat.le_of_ble_eq_true rfl, Nat.le_of_ble_eq_true rfl⟩ rfl rfl ⟨by show k + 1 ≤ 601024; omega, by show u + 6 ≤ 7293034; omega⟩ (Nat.le_of_ble_eq_true rfl) ⟨Nat.zero_le _, by decide⟩ rfl (fun r m9 g => ?_)
    obtain ⟨z9, rfl, rfl, rfl⟩ := g
    refine G_iload dL_law_333 rfl ?_
    refine G_eqS (tgt := 340) dL_law_335 (by decide) ?_
    refine G_iload dL_law_340 rfl ?_
    refine G_if_ne (tgt := 357) dL_law_342 (by decide) (by decide) (fun c => absurd rfl c) (fun _ => ?_)
    refine G_aload_n dL_law_345 rfl ?_
    refine G_iconst (z := 0) dL_law_346 rfl ?_
    refine G_lald (a := 208) (n := 1) (i := 0) dL_law_347 (by decide) sh_208 (by decide) (by decide) (by decide) t8 ?_
    refine G_iload dL_law_348 rfl ?_
    refine G_i2lS dL_law_350 ?_
    refine G_lcmp (z := 0) dL_law_351 (cmp_self _) ?_
    refine G_if_eq (tgt := 357) dL_law_352 (by decide) (by decide) (fun _ => ?_) (fun c => absurd rfl c)
    refine G_goto (tgt := 1448) dL_law_357 (by decide) ?_
    exact G_weak (lv2 := lvi i) ⟨Or.inr rfl, Or.inr rfl, Or.inr rfl, Or.inr rfl, Or.inr rfl, Or.inl rfl, Or.inl rfl, Or.inl rfl, trivial⟩ (kk v _ (k + 1) (u + 6) (hF.mono (by omega)) (Nat.le_refl _) (Nat.le_refl _))
  · have hO := hR
    refine G_istore dL_law_309 (Nat.le_of_ble_eq_true rfl) rfl ?_
    refine G_aload_n dL_law_311 rfl ?_
    refine G_aload_n dL_law_312 rfl ?_
    refine G_iload dL_law_313 rfl ?_
    refine G_iconst (z := 1) dL_law_315 rfl ?_
    refine G_iadd dL_law_316 ?_
    refine G_sld dL_law_317 (by decide) (by omega) (by omega) (by omega) rfl ?_
    refine G_aload_n dL_law_318 rfl ?_
    refine G_iload dL_law_319 rfl ?_
    refine G_iconst (z := 2) dL_law_321 rfl ?_
    refine G_iadd dL_law_322 ?_
    refine G_sld dL_law_323 (by decide) (by omega) (by omega) (by omega) rfl ?_
    refine G_callVM (as := [vi (sx E i 1), vi (sx E i 2)]) (mt_street (B := B) r1 r2 hO.2.2.2.town hO.2.2.2.now) dL_law_324 cv_L_54 im_X12_street sl_X12_street (by decide) sh_169 rfl rfl ⟨Nat.le_of_ble_eq_true rfl, Nat.le_of_ble_eq_true rfl⟩ rfl rfl ⟨by show k + 1 ≤ 601024; omega, by show u + 6 ≤ 7293034; omega⟩ (Nat.le_of_ble_eq_true rfl) ⟨Nat.zero_le _, by decide⟩ rfl (fun r m3 g => ?_)
    obtain ⟨y, rfl, g⟩ := g
    obtain ⟨-, ez, e2⟩ := g.resolve_left (fun yes => o yes.1)
    have t0 : m3 169 0 = 1 := by rw [e2, up2_same]
    have hF : Rel v B m3 := by rw [e2]; exact hR.th1
    refine G_istore dL_law_327 (Nat.le_of_ble_eq_true rfl) rfl ?_
    refine G_aload_n dL_law_329 rfl ?_
    refine G_callVM (as := []) (ic_X12_thrown (m := m3) (Q := fun z9 m9 => z9 = 1 ∧ m9 = m3) ⟨t0, rfl⟩) dL_law_330 cv_L_55 im_X12_thrown sl_X12_thrown (by decide) sh_169 rfl rfl ⟨Nat.le_of_ble_eq_true rfl, Nat.le_of_ble_eq_true rfl⟩ rfl rfl ⟨by show k + 1 ≤ 601024; omega, by show u + 6 ≤ 7293034; omega⟩ (Nat.le_of_ble_eq_true rfl) ⟨Nat.zero_le _, by decide⟩ rfl (fun r m9 g => ?_)
    obtain ⟨z9, rfl, rfl, rfl⟩ := g
    refine G_iload dL_law_333 rfl ?_
    refine G_eqS (tgt := 340) dL_law_335 (by decide) ?_
    refine G_iload dL_law_340 rfl ?_
    refine G_if_ne (tgt := 357) dL_law_342 (by decide) (by decide) (fun _ => ?_) (fun c => absurd c (by decide))
    refine G_goto (tgt := 1448) dL_law_357 (by decide) ?_
    exact G_weak (lv2 := lvi i) ⟨Or.inr rfl, Or.inr rfl, Or.inr rfl, Or.inr rfl, Or.inr rfl, Or.inl rfl, Or.inl rfl, Or.inl rfl, trivial⟩ (kk v _ (k + 1) (u + 6) (hF.mono (by omega)) (Nat.le_refl _) (Nat.le_refl _))
theorem lc_bin {E : Nat × (Nat → Int32)} {tb : List ExceptionTableEntry} {nm : String} {v : (Int → Int) → Int} {B i : Int} {m : Mem} {k u : Nat} (hR : Rel v B m) (hB : B ≤ 800000000) (h0 : 0 ≤ i) (h5 : i + 5 ≤ (E.1 : Int)) (hE : (E.1 : Int) ≤ 2560) (hk : k + 1 ≤ 601024) (hu : u + 6 ≤ 7293034) (kk : LK E tb nm B i k u) : LG E tb nm 360 (lvi i) [] k u m := by
  have w0 := hR.2.2.2
  have e : m 9 1 = m 169 3 := hR.1.town.1
  have n6 := w0.tn
  refine G_aload_n dL_law_360 rfl ?_
  have r1 := sx_r E i 1
  have r2 := sx_r E i 2
  have r3 := sx_r E i 3
  have r4 := sx_r E i 4
  refine G_aload_n dL_law_361 rfl ?_
  refine G_iload dL_law_362 rfl ?_
  refine G_iconst (z := 1) dL_law_364 rfl ?_
  refine G_iadd dL_law_365 ?_
  refine G_sld dL_law_366 (by decide) (by omega) (by omega) (by omega) rfl ?_
  refine G_aload_n dL_law_367 rfl ?_
  refine G_iload dL_law_368 rfl ?_
  refine G_iconst (z := 2) dL_law_370 rfl ?_
  refine G_iadd dL_law_371 ?_
  refine G_sld dL_law_372 (by decide) (by omega) (by omega) (by omega) rfl ?_
  refine G_aload_n dL_law_373 rfl ?_
  refine G_iload dL_law_374 rfl ?_
  refine G_iconst (z := 3) dL_law_376 rfl ?_
  refine G_iadd dL_law_377 ?_
  refine G_sld dL_law_378 (by decide) (by omega) (by omega) (by omega) rfl ?_
  refine G_aload_n dL_law_379 rfl ?_
  refine G_iload dL_law_380 rfl ?_
  refine G_iconst (z := 4) dL_law_382 rfl ?_
  refine G_iadd dL_law_383 ?_
  refine G_sld dL_law_384 (by decide) (by omega) (by omega) (by omega) rfl ?_
  refine G_aload_n dL_law_385 rfl ?_
  have e3 : 0 ≤ (sx E i 1) ∧ (sx E i 1) < m 9 1 → m (11 + 2 * (sx E i 1).toNat) 3 = m 172 (sx E i 1) ∧ 0 ≤ m 172 (sx E i 1) ∧ m 172 (sx E i 1) ≤ 8 := fun p => by
    have g := (hR.1.town.2 (sx E i 1).toNat (by omega)).2.2 (by omega)
    have t := w0.town.2.2.1 (sx E i 1) (by omega) (by omega)
    rw [show (((sx E i 1).toNat : Nat) : Int) = (sx E i 1) by omega] at g
    exact ⟨g.2.1, by omega, by omega⟩
  refine G_callH (n := 6) (as := [.ref 0, vi (sx E i 1), vi (sx E i 2), vi (sx E i 3), vi (sx E i 4), .ref 208]) (hx_bin (ok := binP m (sx E i 1) (sx E i 2) (sx E i 3) (sx E i 4)) (Q := fun z c => z = binR m v (sx E i 1) (sx E i 2) (sx E i 3) (sx E i 4) ∧ CQ m c (m 169 1) (m 170)) (fun o => ct_bin hR.1 hR.2.1 w0.town w0.set w0.now o) (fun o => cx_bin (by omega) r1 r2 r3 r4 (fun p => by have t := e3 p; rw [t.1]; constructor <;> omega) (fun p => o (by have t := e3 p.1; rw [t.1, e] at p; exact p)))) dL_law_386 hk_bin hi_bin hc_bin (by decide) (by decide +kernel) hs_bin rfl ⟨Nat.le_of_ble_eq_true rfl, Nat.le_of_ble_eq_true rfl⟩ rfl rfl ⟨by show k + 1 ≤ 601024; omega, by show u + 6 ≤ 7293034; omega⟩ (Nat.le_of_ble_eq_true rfl) (Nat.zero_le _) rfl (fun r M2 h => ?_)
  rcases h with ⟨o, rfl, z, m1, hq, rfl⟩ | ⟨o, rfl, rfl⟩
  · obtain ⟨hz, cq⟩ := hq
    have hO : Rel v B (up2 m1 208 0 (iI z).toInt) := (hR.cq cq).out
    have hI : HighEq (up2 m 208 0 (iI z).toInt) (up2 m1 208 0 (iI z).toInt) := hi_out cq.2.2.2.2.2.2.2
    have hA := hR.out (z := (iI z).toInt)
    refine G_istore dL_law_389 (Nat.le_of_ble_eq_true rfl) rfl ?_
    refine G_aload_n dL_law_391 rfl ?_
    refine G_aload_n dL_law_392 rfl ?_
    refine G_iload dL_law_393 rfl ?_
    refine G_iconst (z := 1) dL_law_395 rfl ?_
    refine G_iadd dL_law_396 ?_
    refine G_sld dL_law_397 (by decide) (by omega) (by omega) (by omega) rfl ?_
    refine G_aload_n dL_law_398 rfl ?_
    refine G_iload dL_law_399 rfl ?_
    refine G_iconst (z := 2) dL_law_401 rfl ?_
    refine G_iadd dL_law_402 ?_
    refine G_sld dL_law_403 (by decide) (by omega) (by omega) (by omega) rfl ?_
    refine G_aload_n dL_law_404 rfl ?_
    refine G_iload dL_law_405 rfl ?_
    refine G_iconst (z := 3) dL_law_407 rfl ?_
    refine G_iadd dL_law_408 ?_
    refine G_sld dL_law_409 (by decide) (by omega) (by omega) (by omega) rfl ?_
    refine G_aload_n dL_law_410 rfl ?_
    refine G_iload dL_law_411 rfl ?_
    refine G_iconst (z := 4) dL_law_413 rfl ?_
    refine G_iadd dL_law_414 ?_
    refine G_sld dL_law_415 (by decide) (by omega) (by omega) (by omega) rfl ?_
    refine G_callVM (as := [vi (sx E i 1), vi (sx E i 2), vi (sx E i 3), vi (sx E i 4)]) (mt_bin8 (a := (up2 m 208 0 (iI z).toInt)) (B := B) r1 r2 r3 r4 hI hA.2.2.1 hA.2.2.2.town hA.2.2.2.set hA.2.2.2.now) dL_law_416 cv_L_61 im_X12_bin sl_X12_bin (by decide) sh_169 rfl rfl ⟨Nat.le_of_ble_eq_true rfl, Nat.le_of_ble_eq_true rfl⟩ rfl rfl ⟨by show k + 1 ≤ 601024; omega, by show u + 6 ≤ 7293034; omega⟩ (Nat.le_of_ble_eq_true rfl) ⟨Nat.zero_le _, by decide⟩ rfl (fun r m3 g => ?_)
    obtain ⟨y, rfl, g⟩ := g
    obtain ⟨-, ez, p, l, t0, t8⟩ := g.resolve_right (fun no => no.1 o)
    have t8 : m3 208 0 = (iI z).toInt := by rw [t8, up2_same]
    have hF : Rel v B m3 := hO.low p l
    have ey : y = z := ez.trans hz.symm
    subst ey
    refine G_istore dL_law_419 (Nat.le_of_ble_eq_true rfl) rfl ?_
    refine G_aload_n dL_law_421 rfl ?_
    refine G_callVM (as := []) (ic_X12_thrown (m := m3) (Q := fun z9 m9 => z9 = 0 ∧ m9 = m3) ⟨t0, rfl⟩) dL_law_422 cv_L_55 im_X12_thrown sl_X12_thrown (by decide) sh_169 rfl rfl ⟨Nat.le_of_ble_eq_true rfl, Nat.le_of_ble_eq_true rfl⟩ rfl rfl ⟨by show k + 1 ≤ 601024; omega, by show u + 6 ≤ 7293034; omega⟩ (Nat.le_of_ble_eq_true rfl) ⟨Nat.zero_le _, by decide⟩ rfl (fun r m9 g => ?_)
    obtain ⟨z9, rfl, rfl, rfl⟩ := g
    refine G_iload dL_law_425 rfl ?_
    refine G_eqS (tgt := 432) dL_law_427 (by decide) ?_
    refine G_iload dL_law_432 rfl ?_
    refine G_if_ne (tgt := 449) dL_law_434 (by decide) (by decide) (fun c => absurd rfl c) (fun _ => ?_)
    refine G_aload_n dL_law_437 rfl ?_
    refine G_iconst (z := 0) dL_law_438 rfl ?_
    refine G_lald (a := 208) (n := 1) (i := 0) dL_law_439 (by decide) sh_208 (by decide) (by decide) (by decide) t8 ?_
    refine G_iload dL_law_440 rfl ?_
    refine G_i2lS dL_law_442 ?_
    refine G_lcmp (z := 0) dL_law_443 (cmp_self _) ?_
    refine G_if_eq (tgt := 449) dL_law_444 (by decide) (by decide) (fun _ => ?_) (fun c => absurd rfl c)
    refine G_goto (tgt := 1448) dL_law_449 (by decide) ?_
    exact G_weak (lv2 := lvi i) ⟨Or.inr rfl, Or.inr rfl, Or.inr rfl, Or.inr rfl, Or.inr rfl, Or.inl rfl, Or.inl rfl, Or.inl rfl, trivial⟩ (kk v _ (k + 1) (u + 6) (hF.mono (by omega)) (Nat.le_refl _) (Nat.le_refl _))
  · refine G_istore dL_law_389 (Nat.le_of_ble_eq_true rfl) rfl ?_
    refine G_aload_n dL_law_391 rfl ?_
    refine G_aload_n dL_law_392 rfl ?_
    refine G_iload dL_law_393 rfl ?_
    refine G_iconst (z := 1) dL_law_395 rfl ?_
    refine G_iadd dL_law_396 ?_
    refine G_sld dL_law_397 (by decide) (by omega) (by omega) (by omega) rfl ?_
    refine G_aload_n dL_law_398 rfl ?_
    refine G_iload dL_law_399 rfl ?_
    refine G_iconst (z := 2) dL_law_401 rfl ?_
    refine G_iadd dL_law_402 ?_
    refine G_sld dL_law_403 (by decide) (by omega) (by omega) (by omega) rfl ?_
    refine G_aload_n dL_law_404 rfl ?_
    refine G_iload dL_law_405 rfl ?_
    refine G_iconst (z := 3) dL_law_407 rfl ?_
    refine G_iadd dL_law_408 ?_
    refine G_sld dL_law_409 (by decide) (by omega) (by omega) (by omega) rfl ?_
    refine G_aload_n dL_law_410 rfl ?_
    refine G_iload dL_law_411 rfl ?_
    refine G_iconst (z := 4) dL_law_413 rfl ?_
    refine G_iadd dL_law_414 ?_
    refine G_sld dL_law_415 (by decide) (by omega) (by omega) (by omega) rfl ?_
    refine G_callVM (as := [vi (sx E i 1), vi (sx E i 2), vi (sx E i 3), vi (sx E i 4)]) (mt_bin8 (a := M2) (B := B) r1 r2 r3 r4 (fun _ _ => rfl) hR.2.2.1 w0.town w0.set w0.now) dL_law_416 cv_L_61 im_X12_bin sl_X12_bin (by decide) sh_169 rfl rfl ⟨Nat.le_of_ble_eq_true rfl, Nat.le_of_ble_eq_true rfl⟩ rfl rfl ⟨by show k + 1 ≤ 601024; omega, by show u + 6 ≤ 7293034; omega⟩ (Nat.le_of_ble_eq_true rfl) ⟨Nat.zero_le _, by decide⟩ rfl (fun r m3 g => ?_)
    obtain ⟨y, rfl, g⟩ := g
    obtain ⟨-, ez, e2⟩ := g.resolve_left (fun yes => o yes.1)
    have t0 : m3 169 0 = 1 := by rw [e2, up2_same]
    have hF : Rel v B m3 := by rw [e2]; exact hR.th1
    refine G_istore dL_law_419 (Nat.le_of_ble_eq_true rfl) rfl ?_
    refine G_aload_n dL_law_421 rfl ?_
    refine G_callVM (as := []) (ic_X12_thrown (m := m3) (Q := fun z9 m9 => z9 = 1 ∧ m9 = m3) ⟨t0, rfl⟩) dL_law_422 cv_L_55 im_X12_thrown sl_X12_thrown (by decide) sh_169 rfl rfl ⟨Nat.le_of_ble_eq_true rfl, Nat.le_of_ble_eq_true rfl⟩ rfl rfl ⟨by show k + 1 ≤ 601024; omega, by show u + 6 ≤ 7293034; omega⟩ (Nat.le_of_ble_eq_true rfl) ⟨Nat.zero_le _, by decide⟩ rfl (fun r m9 g => ?_)
    obtain ⟨z9, rfl, rfl, rfl⟩ := g
    refine G_iload dL_law_425 rfl ?_
    refine G_eqS (tgt := 432) dL_law_427 (by decide) ?_
    refine G_iload dL_law_432 rfl ?_
    refine G_if_ne (tgt := 449) dL_law_434 (by decide) (by decide) (fun _ => ?_) (fun c => absurd c (by decide))
    refine G_goto (tgt := 1448) dL_law_449 (by decide) ?_
    exact G_weak (lv2 := lvi i) ⟨Or.inr rfl, Or.inr rfl, Or.inr rfl, Or.inr rfl, Or.inr rfl, Or.inl rfl, Or.inl rfl, Or.inl rfl, trivial⟩ (kk v _ (k + 1) (u + 6) (hF.mono (by omega)) (Nat.le_refl _) (Nat.le_refl _))
theorem lc_hill {E : Nat × (Nat → Int32)} {tb : List ExceptionTableEntry} {nm : String} {v : (Int → Int) → Int} {B i : Int} {m : Mem} {k u : Nat} (hR : Rel v B m) (hB : B ≤ 800000000) (h0 : 0 ≤ i) (h5 : i + 5 ≤ (E.1 : Int)) (hE : (E.1 : Int) ≤ 2560) (hk : k + 1 ≤ 601024) (hu : u + 6 ≤ 7293034) (kk : LK E tb nm B i k u) : LG E tb nm 838 (lvi i) [] k u m := by
  have w0 := hR.2.2.2
  have e : m 9 1 = m 169 3 := hR.1.town.1
  have n6 := w0.tn
  refine G_aload_n dL_law_838 rfl ?_
  have r1 := sx_r E i 1
  refine G_aload_n dL_law_839 rfl ?_
  refine G_iload dL_law_840 rfl ?_
  refine G_iconst (z := 1) dL_law_842 rfl ?_
  refine G_iadd dL_law_843 ?_
  refine G_sld dL_law_844 (by decide) (by omega) (by omega) (by omega) rfl ?_
  refine G_aload_n dL_law_845 rfl ?_
  refine G_callH (n := 3) (as := [.ref 0, vi (sx E i 1), .ref 208]) (hx_hill (ok := 0 ≤ (sx E i 1) ∧ (sx E i 1) < m 169 3) (Q := fun z c => z = bestS m v (m 180) (sx E i 1) - secN m v (emptyRow (m 180)) (sx E i 1) (bestH (fun how => secN m v (emptyRow (m 180)) (sx E i 1) how (-1) (m 179 1))) (-1) (m 179 1) ∧ CQ m c (m 169 1) (m 170)) (fun o => ct_hill hR.1 hR.2.1 w0.town w0.set w0.now o.1 o.2) (fun o => cx_hill (by omega) r1 (fun p => o (by rw [e] at p; exact p)))) dL_law_846 hk_hill hi_hill hc_hill (by decide) (by decide +kernel) hs_hill rfl ⟨Nat.le_of_ble_eq_true rfl, Nat.le_of_ble_eq_true rfl⟩ rfl rfl ⟨by show k + 1 ≤ 601024; omega, by show u + 6 ≤ 7293034; omega⟩ (Nat.le_of_ble_eq_true rfl) (Nat.zero_le _) rfl (fun r M2 h => ?_)
  rcases h with ⟨o, rfl, z, m1, hq, rfl⟩ | ⟨o, rfl, rfl⟩
  · obtain ⟨hz, cq⟩ := hq
    have hO : Rel v B (up2 m1 208 0 (iI z).toInt) := (hR.cq cq).out
    have hI : HighEq (up2 m 208 0 (iI z).toInt) (up2 m1 208 0 (iI z).toInt) := hi_out cq.2.2.2.2.2.2.2
    have hA := hR.out (z := (iI z).toInt)
    refine G_istore dL_law_849 (Nat.le_of_ble_eq_true rfl) rfl ?_
    refine G_aload_n dL_law_851 rfl ?_
    refine G_aload_n dL_law_852 rfl ?_
    refine G_iload dL_law_853 rfl ?_
    refine G_iconst (z := 1) dL_law_855 rfl ?_
    refine G_iadd dL_law_856 ?_
    refine G_sld dL_law_857 (by decide) (by omega) (by omega) (by omega) rfl ?_
    refine G_callVM (as := [vi (sx E i 1)]) (mt_hill8 (a := (up2 m 208 0 (iI z).toInt)) (B := B) r1 hI hA.2.2.1 hA.2.2.2.town hA.2.2.2.set hA.2.2.2.now) dL_law_858 cv_L_121 im_X12_hill sl_X12_hill (by decide) sh_169 rfl rfl ⟨Nat.le_of_ble_eq_true rfl, Nat.le_of_ble_eq_true rfl⟩ rfl rfl ⟨by show k + 1 ≤ 601024; omega, by show u + 6 ≤ 7293034; omega⟩ (Nat.le_of_ble_eq_true rfl) ⟨Nat.zero_le _, by decide⟩ rfl (fun r m3 g => ?_)
    obtain ⟨y, rfl, g⟩ := g
    obtain ⟨-, ez, p, l, t0, t8⟩ := g.resolve_right (fun no => no.1 o)
    have t8 : m3 208 0 = (iI z).toInt := by rw [t8, up2_same]
    have hF : Rel v B m3 := hO.low p l
    have ey : y = z := ez.trans ((hill_out _ _ _ _).trans hz.symm)
    subst ey
    refine G_istore dL_law_861 (Nat.le_of_ble_eq_true rfl) rfl ?_
    refine G_aload_n dL_law_863 rfl ?_
    refine G_callVM (as := []) (ic_X12_thrown (m := m3) (Q := fun z9 m9 => z9 = 0 ∧ m9 = m3) ⟨t0, rfl⟩) dL_law_864 cv_L_55 im_X12_thrown sl_X12_thrown (by decide) sh_169 rfl rfl ⟨Nat.le_of_ble_eq_true rfl, Nat.le_of_ble_eq_true rfl⟩ rfl rfl ⟨by show k + 1 ≤ 601024; omega, by show u + 6 ≤ 7293034; omega⟩ (Nat.le_of_ble_eq_true rfl) ⟨Nat.zero_le _, by decide⟩ rfl (fun r m9 g => ?_)
    obtain ⟨z9, rfl, rfl, rfl⟩ := g
    refine G_iload dL_law_867 rfl ?_
    refine G_eqS (tgt := 874) dL_law_869 (by decide) ?_
    refine G_iload dL_law_874 rfl ?_
    refine G_if_ne (tgt := 891) dL_law_876 (by decide) (by decide) (fun c => absurd rfl c) (fun _ => ?_)
    refine G_aload_n dL_law_879 rfl ?_
    refine G_iconst (z := 0) dL_law_880 rfl ?_
    refine G_lald (a := 208) (n := 1) (i := 0) dL_law_881 (by decide) sh_208 (by decide) (by decide) (by decide) t8 ?_
    refine G_iload dL_law_882 rfl ?_
    refine G_i2lS dL_law_884 ?_
    refine G_lcmp (z := 0) dL_law_885 (cmp_self _) ?_
    refine G_if_eq (tgt := 891) dL_law_886 (by decide) (by decide) (fun _ => ?_) (fun c => absurd rfl c)
    refine G_goto (tgt := 1448) dL_law_891 (by decide) ?_
    exact G_weak (lv2 := lvi i) ⟨Or.inr rfl, Or.inr rfl, Or.inr rfl, Or.inr rfl, Or.inr rfl, Or.inl rfl, Or.inl rfl, Or.inl rfl, trivial⟩ (kk v _ (k + 1) (u + 6) (hF.mono (by omega)) (Nat.le_refl _) (Nat.le_refl _))
  · refine G_istore dL_law_849 (Nat.le_of_ble_eq_true rfl) rfl ?_
    refine G_aload_n dL_law_851 rfl ?_
    refine G_aload_n dL_law_852 rfl ?_
    refine G_iload dL_law_853 rfl ?_
    refine G_iconst (z := 1) dL_law_855 rfl ?_
    refine G_iadd dL_law_856 ?_
    refine G_sld dL_law_857 (by decide) (by omega) (by omega) (by omega) rfl ?_
    refine G_callVM (as := [vi (sx E i 1)]) (mt_hill8 (a := M2) (B := B) r1 (fun _ _ => rfl) hR.2.2.1 w0.town w0.set w0.now) dL_law_858 cv_L_121 im_X12_hill sl_X12_hill (by decide) sh_169 rfl rfl ⟨Nat.le_of_ble_eq_true rfl, Nat.le_of_ble_eq_true rfl⟩ rfl rfl ⟨by show k + 1 ≤ 601024; omega, by show u + 6 ≤ 7293034; omega⟩ (Nat.le_of_ble_eq_true rfl) ⟨Nat.zero_le _, by decide⟩ rfl (fun r m3 g => ?_)
    obtain ⟨y, rfl, g⟩ := g
    obtain ⟨-, ez, e2⟩ := g.resolve_left (fun yes => o yes.1)
    have t0 : m3 169 0 = 1 := by rw [e2, up2_same]
    have hF : Rel v B m3 := by rw [e2]; exact hR.th1
    refine G_istore dL_law_861 (Nat.le_of_ble_eq_true rfl) rfl ?_
    refine G_aload_n dL_law_863 rfl ?_
    refine G_callVM (as := []) (ic_X12_thrown (m := m3) (Q := fun z9 m9 => z9 = 1 ∧ m9 = m3) ⟨t0, rfl⟩) dL_law_864 cv_L_55 im_X12_thrown sl_X12_thrown (by decide) sh_169 rfl rfl ⟨Nat.le_of_ble_eq_true rfl, Nat.le_of_ble_eq_true rfl⟩ rfl rfl ⟨by show k + 1 ≤ 601024; omega, by show u + 6 ≤ 7293034; omega⟩ (Nat.le_of_ble_eq_true rfl) ⟨Nat.zero_le _, by decide⟩ rfl (fun r m9 g => ?_)
    obtain ⟨z9, rfl, rfl, rfl⟩ := g
    refine G_iload dL_law_867 rfl ?_
    refine G_eqS (tgt := 874) dL_law_869 (by decide) ?_
    refine G_iload dL_law_874 rfl ?_
    refine G_if_ne (tgt := 891) dL_law_876 (by decide) (by decide) (fun _ => ?_) (fun c => absurd c (by decide))
    refine G_goto (tgt := 1448) dL_law_891 (by decide) ?_
    exact G_weak (lv2 := lvi i) ⟨Or.inr rfl, Or.inr rfl, Or.inr rfl, Or.inr rfl, Or.inr rfl, Or.inl rfl, Or.inl rfl, Or.inl rfl, trivial⟩ (kk v _ (k + 1) (u + 6) (hF.mono (by omega)) (Nat.le_refl _) (Nat.le_refl _))
theorem lc_row {E : Nat × (Nat → Int32)} {tb : List ExceptionTableEntry} {nm : String} {v : (Int → Int) → Int} {B i : Int} {m : Mem} {k u : Nat} (hR : Rel v B m) (hB : B ≤ 800000000) (h0 : 0 ≤ i) (h5 : i + 5 ≤ (E.1 : Int)) (hE : (E.1 : Int) ≤ 2560) (hk : k + 1 ≤ 601024) (hu : u + 6 ≤ 7293034) (kk : LK E tb nm B i k u) : LG E tb nm 1393 (lvi i) [] k u m := by
  have w0 := hR.2.2.2
  have e : m 9 1 = m 169 3 := hR.1.town.1
  have n6 := w0.tn
  refine G_aload_n dL_law_1393 rfl ?_
  have r1 := sx_r E i 1
  refine G_aload_n dL_law_1394 rfl ?_
  refine G_iload dL_law_1395 rfl ?_
  refine G_iconst (z := 1) dL_law_1397 rfl ?_
  refine G_iadd dL_law_1398 ?_
  refine G_sld dL_law_1399 (by decide) (by omega) (by omega) (by omega) rfl ?_
  refine G_aload_n dL_law_1400 rfl ?_
  have e0 : m 0 14 = m 169 1 := hR.1.2.2.2.2.2.2.2.1
  have q1 := w0.row.1
  have q2 := w0.row.2.1
  refine G_callH (n := 3) (as := [.ref 0, vi (sx E i 1), .ref 208]) (hx_row (ok := 0 ≤ (sx E i 1) ∧ (sx E i 1) < m 169 1) (Q := fun z c => z = m 170 (sx E i 1) ∧ c = m) (fun o => ct_row hR.1 w0.row o.1 o.2) (fun o => cx_row (by rw [e0]; constructor <;> omega) r1 (fun p => o (by rw [e0] at p; exact p)))) dL_law_1401 hk_row hi_row hc_row (by decide) (by decide +kernel) hs_row rfl ⟨Nat.le_of_ble_eq_true rfl, Nat.le_of_ble_eq_true rfl⟩ rfl rfl ⟨by show k + 1 ≤ 601024; omega, by show u + 6 ≤ 7293034; omega⟩ (Nat.le_of_ble_eq_true rfl) (Nat.zero_le _) rfl (fun r M2 h => ?_)
  rcases h with ⟨o, rfl, z, m1, hq, rfl⟩ | ⟨o, rfl, rfl⟩
  · obtain ⟨hz, rfl⟩ := hq
    have hO := hR.out (z := z)
    refine G_istore dL_law_1404 (Nat.le_of_ble_eq_true rfl) rfl ?_
    refine G_aload_n dL_law_1406 rfl ?_
    refine G_aload_n dL_law_1407 rfl ?_
    refine G_iload dL_law_1408 rfl ?_
    refine G_iconst (z := 1) dL_law_1410 rfl ?_
    refine G_iadd dL_law_1411 ?_
    refine G_sld dL_law_1412 (by decide) (by omega) (by omega) (by omega) rfl ?_
    refine G_callVM (as := [vi (sx E i 1)]) (mt_row r1 (fun _ _ => rfl) hO.2.2.2.row) dL_law_1413 cv_L_201 im_X12_row sl_X12_row (by decide) sh_169 rfl rfl ⟨Nat.le_of_ble_eq_true rfl, Nat.le_of_ble_eq_true rfl⟩ rfl rfl ⟨by show k + 1 ≤ 601024; omega, by show u + 6 ≤ 7293034; omega⟩ (Nat.le_of_ble_eq_true rfl) ⟨Nat.zero_le _, by decide⟩ rfl (fun r m3 g => ?_)
    obtain ⟨y, rfl, g⟩ := g
    obtain ⟨-, ez, e2⟩ := g.resolve_right (fun no => no.1 o)
    have t0 : m3 169 0 = 0 := by rw [e2, up2_same]
    have t8 : m3 208 0 = z := by rw [e2, up2_k (by decide), up2_same]
    have hF : Rel v B m3 := by rw [e2]; exact hO.th
    have ey : y = z := ez.trans hz.symm
    subst ey
    refine G_lstore dL_law_1416 (Nat.le_of_ble_eq_true rfl) rfl ?_
    refine G_aload_n dL_law_1418 rfl ?_
    refine G_callVM (as := []) (ic_X12_thrown (m := m3) (Q := fun z9 m9 => z9 = 0 ∧ m9 = m3) ⟨t0, rfl⟩) dL_law_1419 cv_L_55 im_X12_thrown sl_X12_thrown (by decide) sh_169 rfl rfl ⟨Nat.le_of_ble_eq_true rfl, Nat.le_of_ble_eq_true rfl⟩ rfl rfl ⟨by show k + 1 ≤ 601024; omega, by show u + 6 ≤ 7293034; omega⟩ (Nat.le_of_ble_eq_true rfl) ⟨Nat.zero_le _, by decide⟩ rfl (fun r m9 g => ?_)
    obtain ⟨z9, rfl, rfl, rfl⟩ := g
    refine G_iload dL_law_1422 rfl ?_
    refine G_eqS (tgt := 1429) dL_law_1424 (by decide) ?_
    refine G_iload dL_law_1429 rfl ?_
    refine G_if_ne (tgt := 1445) dL_law_1431 (by decide) (by decide) (fun c => absurd rfl c) (fun _ => ?_)
    refine G_aload_n dL_law_1434 rfl ?_
    refine G_iconst (z := 0) dL_law_1435 rfl ?_
    refine G_lald (a := 208) (n := 1) (i := 0) dL_law_1436 (by decide) sh_208 (by decide) (by decide) (by decide) t8 ?_
    refine G_lload dL_law_1437 rfl ?_
    refine G_lcmp (z := 0) dL_law_1439 (cmp_self _) ?_
    refine G_if_eq (tgt := 1445) dL_law_1440 (by decide) (by decide) (fun _ => ?_) (fun c => absurd rfl c)
    refine G_goto (tgt := 1448) dL_law_1445 (by decide) ?_
    exact G_weak (lv2 := lvi i) ⟨Or.inr rfl, Or.inr rfl, Or.inr rfl, Or.inr rfl, Or.inr rfl, Or.inl rfl, Or.inl rfl, Or.inl rfl, trivial⟩ (kk v _ (k + 1) (u + 6) (hF.mono (by omega)) (Nat.le_refl _) (Nat.le_refl _))
  · have hO := hR
    refine G_istore dL_law_1404 (Nat.le_of_ble_eq_true rfl) rfl ?_
    refine G_aload_n dL_law_1406 rfl ?_
    refine G_aload_n dL_law_1407 rfl ?_
    refine G_iload dL_law_1408 rfl ?_
    refine G_iconst (z := 1) dL_law_1410 rfl ?_
    refine G_iadd dL_law_1411 ?_
    refine G_sld dL_law_1412 (by decide) (by omega) (by omega) (by omega) rfl ?_
    refine G_callVM (as := [vi (sx E i 1)]) (mt_row r1 (fun _ _ => rfl) hO.2.2.2.row) dL_law_1413 cv_L_201 im_X12_row sl_X12_row (by decide) sh_169 rfl rfl ⟨Nat.le_of_ble_eq_true rfl, Nat.le_of_ble_eq_true rfl⟩ rfl rfl ⟨by show k + 1 ≤ 601024; omega, by show u + 6 ≤ 7293034; omega⟩ (Nat.le_of_ble_eq_true rfl) ⟨Nat.zero_le _, by decide⟩ rfl (fun r m3 g => ?_)
    obtain ⟨y, rfl, g⟩ := g
    obtain ⟨-, ez, e2⟩ := g.resolve_left (fun yes => o yes.1)
    have t0 : m3 169 0 = 1 := by rw [e2, up2_same]
    have hF : Rel v B m3 := by rw [e2]; exact hR.th1
    refine G_lstore dL_law_1416 (Nat.le_of_ble_eq_true rfl) rfl ?_
    refine G_aload_n dL_law_1418 rfl ?_
    refine G_callVM (as := []) (ic_X12_thrown (m := m3) (Q := fun z9 m9 => z9 = 1 ∧ m9 = m3) ⟨t0, rfl⟩) dL_law_1419 cv_L_55 im_X12_thrown sl_X12_thrown (by decide) sh_169 rfl rfl ⟨Nat.le_of_ble_eq_true rfl, Nat.le_of_ble_eq_true rfl⟩ rfl rfl ⟨by show k + 1 ≤ 601024; omega, by show u + 6 ≤ 7293034; omega⟩ (Nat.le_of_ble_eq_true rfl) ⟨Nat.zero_le _, by decide⟩ rfl (fun r m9 g => ?_)
    obtain ⟨z9, rfl, rfl, rfl⟩ := g
    refine G_iload dL_law_1422 rfl ?_
    refine G_eqS (tgt := 1429) dL_law_1424 (by decide) ?_
    refine G_iload dL_law_1429 rfl ?_
    refine G_if_ne (tgt := 1445) dL_law_1431 (by decide) (by decide) (fun _ => ?_) (fun c => absurd c (by decide))
    refine G_goto (tgt := 1448) dL_law_1445 (by decide) ?_
    exact G_weak (lv2 := lvi i) ⟨Or.inr rfl, Or.inr rfl, Or.inr rfl, Or.inr rfl, Or.inr rfl, Or.inl rfl, Or.inl rfl, Or.inl rfl, trivial⟩ (kk v _ (k + 1) (u + 6) (hF.mono (by omega)) (Nat.le_refl _) (Nat.le_refl _))
