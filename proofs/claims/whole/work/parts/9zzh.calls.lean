/-! the law's loop: each of its calls -/
def lawQ : QF := fun _ _ _ _ below args s => lw_Z below args s
abbrev mL (nm : String) : Mu := (cL_law, 8, RL, some .boolean, room_1, nm)
abbrev LG (E : Nat × (Nat → Int32)) (tb : List ExceptionTableEntry) (nm : String) (pc : Nat) (lv st : List Value) (k u : Nat) (m : Mem) : Prop := G ρM E (mL nm) (cQ tb lawQ) 0 pc lv st 209 k u m
abbrev lvi (i : Int) : List Value := [.ref 1000, .ref 0, .ref 169, .ref 208, vi i, un, un, un]
abbrev sx (E : Nat × (Nat → Int32)) (i c : Int) : Int := (E.2 (i + c).toNat).toInt
theorem sx_r (E : Nat × (Nat → Int32)) (i c : Int) : RI (sx E i c) := iI_rng _
section LAWR
variable {ρ : Rho} {E : Nat × (Nat → Int32)} {μ : Mu} {QQ : QF} {nw0 pc : Nat} {lv st : List Value} {nw k u : Nat} {mem : Mem}
theorem G_eqS {z off : Int} {tgt : Nat} (hd : decode μ.cc pc = .ok (.if_icmp .eq off, 3)) (ht : (pc : Int) + off = (tgt : Int)) (kt : G ρ E μ QQ nw0 tgt lv st nw k u mem) : G ρ E μ QQ nw0 pc lv (vi z :: vi z :: st) nw k u mem := by
  intro p l e s m args below meth c D cA A0 A H locs ls C hA hP hD hS hl
  exact lv_icmp_eq C.1 C.2.1 hd ht (fun _ => kt p l e s m args below meth c D cA A0 A H locs ls C hA hP hD hS hl) (fun h => absurd rfl h)
end LAWR
def LK (E : Nat × (Nat → Int32)) (tb : List ExceptionTableEntry) (nm : String) (B i : Int) (k u : Nat) : Prop := ∀ (v' : (Int → Int) → Int) (m' : Mem) (k' u' : Nat), Rel v' (B + 600000) m' → k' ≤ k + 1 → u' ≤ u + 6 → LG E tb nm 1448 (lvi i) [] k' u' m'

theorem lc_sign {E : Nat × (Nat → Int32)} {tb : List ExceptionTableEntry} {nm : String} {v : (Int → Int) → Int} {B i : Int} {m : Mem} {k u : Nat} (hR : Rel v B m) (hB : B ≤ 800000000) (h0 : 0 ≤ i) (h5 : i + 5 ≤ (E.1 : Int)) (hE : (E.1 : Int) ≤ 2560) (hk : k + 1 ≤ 601024) (hu : u + 6 ≤ 7293034) (kk : LK E tb nm B i k u) : LG E tb nm 216 (lvi i) [] k u m := by
  refine G_aload_n dL_law_216 rfl ?_
  refine G_aload_n dL_law_217 rfl ?_
  refine G_iload dL_law_218 rfl ?_
  refine G_iconst (z := 1) dL_law_220 rfl ?_
  refine G_iadd dL_law_221 ?_
  refine G_sld dL_law_222 (by decide) (by omega) (by omega) (by omega) rfl ?_
  refine G_callVM (as := [vi (sx E i 1)]) (step_sign (E2 := E) (v := v) (s := sx E i 1) hR) dL_law_223 cv_L_31 im_X11_sign sl_X11_sign (by decide) sh_0 rfl rfl ⟨Nat.le_of_ble_eq_true rfl, Nat.le_of_ble_eq_true rfl⟩ rfl rfl ⟨by show k ≤ 601024; omega, by show u ≤ 7293034; omega⟩ (Nat.le_of_ble_eq_true rfl) ⟨Nat.zero_le _, by decide⟩ rfl (fun r m1 h => ?_)
  obtain ⟨z, rfl, h⟩ := h
  refine G_aload_n dL_law_226 rfl ?_
  refine G_aload_n dL_law_227 rfl ?_
  refine G_iload dL_law_228 rfl ?_
  refine G_iconst (z := 1) dL_law_230 rfl ?_
  refine G_iadd dL_law_231 ?_
  refine G_sld dL_law_232 (by decide) (by omega) (by omega) (by omega) rfl ?_
  refine G_callVM (as := [vi (sx E i 1)]) h dL_law_233 cv_L_34 im_X12_sign sl_X12_sign (by decide) sh_169 rfl rfl ⟨Nat.le_of_ble_eq_true rfl, Nat.le_of_ble_eq_true rfl⟩ rfl rfl ⟨by show k ≤ 601024; omega, by show u ≤ 7293034; omega⟩ (Nat.le_of_ble_eq_true rfl) ⟨Nat.zero_le _, by decide⟩ rfl (fun r m2 g => ?_)
  obtain ⟨z9, rfl, rfl, g⟩ := g
  refine G_eqS (tgt := 1448) dL_law_236 (by decide) ?_
  exact kk v m2 k u (g.mono (by omega)) (Nat.le_succ _) (by omega)
theorem lc_end {E : Nat × (Nat → Int32)} {tb : List ExceptionTableEntry} {nm : String} {v : (Int → Int) → Int} {B i : Int} {m : Mem} {k u : Nat} (hR : Rel v B m) (hB : B ≤ 800000000) (h0 : 0 ≤ i) (h5 : i + 5 ≤ (E.1 : Int)) (hE : (E.1 : Int) ≤ 2560) (hk : k + 1 ≤ 601024) (hu : u + 6 ≤ 7293034) (kk : LK E tb nm B i k u) : LG E tb nm 241 (lvi i) [] k u m := by
  refine G_aload_n dL_law_241 rfl ?_
  refine G_aload_n dL_law_242 rfl ?_
  refine G_iload dL_law_243 rfl ?_
  refine G_iconst (z := 1) dL_law_245 rfl ?_
  refine G_iadd dL_law_246 ?_
  refine G_sld dL_law_247 (by decide) (by omega) (by omega) (by omega) rfl ?_
  refine G_callVM (as := [vi (sx E i 1)]) (step_end (E2 := E) (v := v) (s := sx E i 1) (sx_r E i 1) hR) dL_law_248 cv_L_35 im_X11_end sl_X11_end (by decide) sh_0 rfl rfl ⟨Nat.le_of_ble_eq_true rfl, Nat.le_of_ble_eq_true rfl⟩ rfl rfl ⟨by show k ≤ 601024; omega, by show u ≤ 7293034; omega⟩ (Nat.le_of_ble_eq_true rfl) ⟨Nat.zero_le _, by decide⟩ rfl (fun r m1 h => ?_)
  obtain ⟨z, rfl, h⟩ := h
  refine G_aload_n dL_law_251 rfl ?_
  refine G_aload_n dL_law_252 rfl ?_
  refine G_iload dL_law_253 rfl ?_
  refine G_iconst (z := 1) dL_law_255 rfl ?_
  refine G_iadd dL_law_256 ?_
  refine G_sld dL_law_257 (by decide) (by omega) (by omega) (by omega) rfl ?_
  refine G_callVM (as := [vi (sx E i 1)]) h dL_law_258 cv_L_39 im_X12_end sl_X12_end (by decide) sh_169 rfl rfl ⟨Nat.le_of_ble_eq_true rfl, Nat.le_of_ble_eq_true rfl⟩ rfl rfl ⟨by show k ≤ 601024; omega, by show u ≤ 7293034; omega⟩ (Nat.le_of_ble_eq_true rfl) ⟨Nat.zero_le _, by decide⟩ rfl (fun r m2 g => ?_)
  obtain ⟨z9, rfl, rfl, g⟩ := g
  refine G_eqS (tgt := 1448) dL_law_261 (by decide) ?_
  exact kk v m2 k u (g.mono (by omega)) (Nat.le_succ _) (by omega)
theorem lc_streets {E : Nat × (Nat → Int32)} {tb : List ExceptionTableEntry} {nm : String} {v : (Int → Int) → Int} {B i : Int} {m : Mem} {k u : Nat} (hR : Rel v B m) (hB : B ≤ 800000000) (h0 : 0 ≤ i) (h5 : i + 5 ≤ (E.1 : Int)) (hE : (E.1 : Int) ≤ 2560) (hk : k + 1 ≤ 601024) (hu : u + 6 ≤ 7293034) (kk : LK E tb nm B i k u) : LG E tb nm 266 (lvi i) [] k u m := by
  refine G_aload_n dL_law_266 rfl ?_
  refine G_callVM (as := []) (step_streets (E2 := E) (v := v) hR) dL_law_267 cv_L_40 im_X11_streets sl_X11_streets (by decide) sh_0 rfl rfl ⟨Nat.le_of_ble_eq_true rfl, Nat.le_of_ble_eq_true rfl⟩ rfl rfl ⟨by show k ≤ 601024; omega, by show u ≤ 7293034; omega⟩ (Nat.le_of_ble_eq_true rfl) ⟨Nat.zero_le _, by decide⟩ rfl (fun r m1 h => ?_)
  obtain ⟨z, rfl, h⟩ := h
  refine G_aload_n dL_law_270 rfl ?_
  refine G_callVM (as := []) h dL_law_271 cv_L_44 im_X12_streets sl_X12_streets (by decide) sh_169 rfl rfl ⟨Nat.le_of_ble_eq_true rfl, Nat.le_of_ble_eq_true rfl⟩ rfl rfl ⟨by show k ≤ 601024; omega, by show u ≤ 7293034; omega⟩ (Nat.le_of_ble_eq_true rfl) ⟨Nat.zero_le _, by decide⟩ rfl (fun r m2 g => ?_)
  obtain ⟨z9, rfl, rfl, g⟩ := g
  refine G_eqS (tgt := 1448) dL_law_274 (by decide) ?_
  exact kk v m2 k u (g.mono (by omega)) (Nat.le_succ _) (by omega)
theorem lc_rule {E : Nat × (Nat → Int32)} {tb : List ExceptionTableEntry} {nm : String} {v : (Int → Int) → Int} {B i : Int} {m : Mem} {k u : Nat} (hR : Rel v B m) (hB : B ≤ 800000000) (h0 : 0 ≤ i) (h5 : i + 5 ≤ (E.1 : Int)) (hE : (E.1 : Int) ≤ 2560) (hk : k + 1 ≤ 601024) (hu : u + 6 ≤ 7293034) (kk : LK E tb nm B i k u) : LG E tb nm 279 (lvi i) [] k u m := by
  refine G_aload_n dL_law_279 rfl ?_
  refine G_callVM (as := []) (step_rule (E2 := E) (v := v) hR) dL_law_280 cv_L_45 im_X11_rule sl_X11_rule (by decide) sh_0 rfl rfl ⟨Nat.le_of_ble_eq_true rfl, Nat.le_of_ble_eq_true rfl⟩ rfl rfl ⟨by show k ≤ 601024; omega, by show u ≤ 7293034; omega⟩ (Nat.le_of_ble_eq_true rfl) ⟨Nat.zero_le _, by decide⟩ rfl (fun r m1 h => ?_)
  obtain ⟨z, rfl, h⟩ := h
  refine G_aload_n dL_law_283 rfl ?_
  refine G_callVM (as := []) h dL_law_284 cv_L_48 im_X12_rule sl_X12_rule (by decide) sh_169 rfl rfl ⟨Nat.le_of_ble_eq_true rfl, Nat.le_of_ble_eq_true rfl⟩ rfl rfl ⟨by show k ≤ 601024; omega, by show u ≤ 7293034; omega⟩ (Nat.le_of_ble_eq_true rfl) ⟨Nat.zero_le _, by decide⟩ rfl (fun r m2 g => ?_)
  obtain ⟨z9, rfl, rfl, g⟩ := g
  refine G_eqS (tgt := 1448) dL_law_287 (by decide) ?_
  obtain ⟨v2, g⟩ := g
  exact kk v2 m2 k u (g.mono (by omega)) (Nat.le_succ _) (by omega)
theorem lc_set {E : Nat × (Nat → Int32)} {tb : List ExceptionTableEntry} {nm : String} {v : (Int → Int) → Int} {B i : Int} {m : Mem} {k u : Nat} (hR : Rel v B m) (hB : B ≤ 800000000) (h0 : 0 ≤ i) (h5 : i + 5 ≤ (E.1 : Int)) (hE : (E.1 : Int) ≤ 2560) (hk : k + 1 ≤ 601024) (hu : u + 6 ≤ 7293034) (kk : LK E tb nm B i k u) : LG E tb nm 452 (lvi i) [] k u m := by
  refine G_aload_n dL_law_452 rfl ?_
  refine G_aload_n dL_law_453 rfl ?_
  refine G_iload dL_law_454 rfl ?_
  refine G_iconst (z := 1) dL_law_456 rfl ?_
  refine G_iadd dL_law_457 ?_
  refine G_sld dL_law_458 (by decide) (by omega) (by omega) (by omega) rfl ?_
  refine G_aload_n dL_law_459 rfl ?_
  refine G_iload dL_law_460 rfl ?_
  refine G_iconst (z := 2) dL_law_462 rfl ?_
  refine G_iadd dL_law_463 ?_
  refine G_sld dL_law_464 (by decide) (by omega) (by omega) (by omega) rfl ?_
  refine G_callVM (as := [vi (sx E i 1), vi (sx E i 2)]) (step_set (E2 := E) (v := v) (s := sx E i 1) (x := sx E i 2) (sx_r E i 1) (sx_r E i 2) hR) dL_law_465 cv_L_62 im_X11_set sl_X11_set (by decide) sh_0 rfl rfl ⟨Nat.le_of_ble_eq_true rfl, Nat.le_of_ble_eq_true rfl⟩ rfl rfl ⟨by show k ≤ 601024; omega, by show u ≤ 7293034; omega⟩ (Nat.le_of_ble_eq_true rfl) ⟨Nat.zero_le _, by decide⟩ rfl (fun r m1 h => ?_)
  obtain ⟨z, rfl, h⟩ := h
  refine G_aload_n dL_law_468 rfl ?_
  refine G_aload_n dL_law_469 rfl ?_
  refine G_iload dL_law_470 rfl ?_
  refine G_iconst (z := 1) dL_law_472 rfl ?_
  refine G_iadd dL_law_473 ?_
  refine G_sld dL_law_474 (by decide) (by omega) (by omega) (by omega) rfl ?_
  refine G_aload_n dL_law_475 rfl ?_
  refine G_iload dL_law_476 rfl ?_
  refine G_iconst (z := 2) dL_law_478 rfl ?_
  refine G_iadd dL_law_479 ?_
  refine G_sld dL_law_480 (by decide) (by omega) (by omega) (by omega) rfl ?_
  refine G_callVM (as := [vi (sx E i 1), vi (sx E i 2)]) h dL_law_481 cv_L_65 im_X12_set sl_X12_set (by decide) sh_169 rfl rfl ⟨Nat.le_of_ble_eq_true rfl, Nat.le_of_ble_eq_true rfl⟩ rfl rfl ⟨by show k ≤ 601024; omega, by show u ≤ 7293034; omega⟩ (Nat.le_of_ble_eq_true rfl) ⟨Nat.zero_le _, by decide⟩ rfl (fun r m2 g => ?_)
  obtain ⟨z9, rfl, rfl, g⟩ := g
  refine G_eqS (tgt := 1448) dL_law_484 (by decide) ?_
  exact kk v m2 k u (g.mono (by omega)) (Nat.le_succ _) (by omega)
theorem lc_dayOf {E : Nat × (Nat → Int32)} {tb : List ExceptionTableEntry} {nm : String} {v : (Int → Int) → Int} {B i : Int} {m : Mem} {k u : Nat} (hR : Rel v B m) (hB : B ≤ 800000000) (h0 : 0 ≤ i) (h5 : i + 5 ≤ (E.1 : Int)) (hE : (E.1 : Int) ≤ 2560) (hk : k + 1 ≤ 601024) (hu : u + 6 ≤ 7293034) (kk : LK E tb nm B i k u) : LG E tb nm 489 (lvi i) [] k u m := by
  refine G_aload_n dL_law_489 rfl ?_
  refine G_aload_n dL_law_490 rfl ?_
  refine G_iload dL_law_491 rfl ?_
  refine G_iconst (z := 1) dL_law_493 rfl ?_
  refine G_iadd dL_law_494 ?_
  refine G_sld dL_law_495 (by decide) (by omega) (by omega) (by omega) rfl ?_
  refine G_aload_n dL_law_496 rfl ?_
  refine G_iload dL_law_497 rfl ?_
  refine G_iconst (z := 2) dL_law_499 rfl ?_
  refine G_iadd dL_law_500 ?_
  refine G_sld dL_law_501 (by decide) (by omega) (by omega) (by omega) rfl ?_
  refine G_callVM (as := [vi (sx E i 1), vi (sx E i 2)]) (step_dayOf (E2 := E) (v := v) (s := sx E i 1) (x := sx E i 2) (sx_r E i 1) (sx_r E i 2) hR) dL_law_502 cv_L_66 im_X11_dayOf sl_X11_dayOf (by decide) sh_0 rfl rfl ⟨Nat.le_of_ble_eq_true rfl, Nat.le_of_ble_eq_true rfl⟩ rfl rfl ⟨by show k ≤ 601024; omega, by show u ≤ 7293034; omega⟩ (Nat.le_of_ble_eq_true rfl) ⟨Nat.zero_le _, by decide⟩ rfl (fun r m1 h => ?_)
  obtain ⟨z, rfl, h⟩ := h
  refine G_aload_n dL_law_505 rfl ?_
  refine G_aload_n dL_law_506 rfl ?_
  refine G_iload dL_law_507 rfl ?_
  refine G_iconst (z := 1) dL_law_509 rfl ?_
  refine G_iadd dL_law_510 ?_
  refine G_sld dL_law_511 (by decide) (by omega) (by omega) (by omega) rfl ?_
  refine G_aload_n dL_law_512 rfl ?_
  refine G_iload dL_law_513 rfl ?_
  refine G_iconst (z := 2) dL_law_515 rfl ?_
  refine G_iadd dL_law_516 ?_
  refine G_sld dL_law_517 (by decide) (by omega) (by omega) (by omega) rfl ?_
  refine G_callVM (as := [vi (sx E i 1), vi (sx E i 2)]) h dL_law_518 cv_L_69 im_X12_dayOf sl_X12_dayOf (by decide) sh_169 rfl rfl ⟨Nat.le_of_ble_eq_true rfl, Nat.le_of_ble_eq_true rfl⟩ rfl rfl ⟨by show k ≤ 601024; omega, by show u ≤ 7293034; omega⟩ (Nat.le_of_ble_eq_true rfl) ⟨Nat.zero_le _, by decide⟩ rfl (fun r m2 g => ?_)
  obtain ⟨z9, rfl, rfl, g⟩ := g
  refine G_eqS (tgt := 1448) dL_law_521 (by decide) ?_
  exact kk v m2 k u (g.mono (by omega)) (Nat.le_succ _) (by omega)
theorem lc_sheet {E : Nat × (Nat → Int32)} {tb : List ExceptionTableEntry} {nm : String} {v : (Int → Int) → Int} {B i : Int} {m : Mem} {k u : Nat} (hR : Rel v B m) (hB : B ≤ 800000000) (h0 : 0 ≤ i) (h5 : i + 5 ≤ (E.1 : Int)) (hE : (E.1 : Int) ≤ 2560) (hk : k + 1 ≤ 601024) (hu : u + 6 ≤ 7293034) (kk : LK E tb nm B i k u) : LG E tb nm 526 (lvi i) [] k u m := by
  refine G_aload_n dL_law_526 rfl ?_
  refine G_aload_n dL_law_527 rfl ?_
  refine G_iload dL_law_528 rfl ?_
  refine G_iconst (z := 1) dL_law_530 rfl ?_
  refine G_iadd dL_law_531 ?_
  refine G_sld dL_law_532 (by decide) (by omega) (by omega) (by omega) rfl ?_
  refine G_aload_n dL_law_533 rfl ?_
  refine G_iload dL_law_534 rfl ?_
  refine G_iconst (z := 2) dL_law_536 rfl ?_
  refine G_iadd dL_law_537 ?_
  refine G_sld dL_law_538 (by decide) (by omega) (by omega) (by omega) rfl ?_
  refine G_aload_n dL_law_539 rfl ?_
  refine G_iload dL_law_540 rfl ?_
  refine G_iconst (z := 3) dL_law_542 rfl ?_
  refine G_iadd dL_law_543 ?_
  refine G_sld dL_law_544 (by decide) (by omega) (by omega) (by omega) rfl ?_
  refine G_aload_n dL_law_545 rfl ?_
  refine G_iload dL_law_546 rfl ?_
  refine G_iconst (z := 4) dL_law_548 rfl ?_
  refine G_iadd dL_law_549 ?_
  refine G_sld dL_law_550 (by decide) (by omega) (by omega) (by omega) rfl ?_
  refine G_callVM (as := [vi (sx E i 1), vi (sx E i 2), vi (sx E i 3), vi (sx E i 4)]) (step_sheet (E2 := E) (v := v) (kind := sx E i 1) (n := sx E i 2) (f := sx E i 3) (step := sx E i 4) (sx_r E i 1) (sx_r E i 2) hR) dL_law_551 cv_L_70 im_X11_sheet sl_X11_sheet (by decide) sh_0 rfl rfl ⟨Nat.le_of_ble_eq_true rfl, Nat.le_of_ble_eq_true rfl⟩ rfl rfl ⟨by show k ≤ 601024; omega, by show u ≤ 7293034; omega⟩ (Nat.le_of_ble_eq_true rfl) ⟨Nat.zero_le _, by decide⟩ rfl (fun r m1 h => ?_)
  obtain ⟨z, rfl, h⟩ := h
  refine G_aload_n dL_law_554 rfl ?_
  refine G_aload_n dL_law_555 rfl ?_
  refine G_iload dL_law_556 rfl ?_
  refine G_iconst (z := 1) dL_law_558 rfl ?_
  refine G_iadd dL_law_559 ?_
  refine G_sld dL_law_560 (by decide) (by omega) (by omega) (by omega) rfl ?_
  refine G_aload_n dL_law_561 rfl ?_
  refine G_iload dL_law_562 rfl ?_
  refine G_iconst (z := 2) dL_law_564 rfl ?_
  refine G_iadd dL_law_565 ?_
  refine G_sld dL_law_566 (by decide) (by omega) (by omega) (by omega) rfl ?_
  refine G_aload_n dL_law_567 rfl ?_
  refine G_iload dL_law_568 rfl ?_
  refine G_iconst (z := 3) dL_law_570 rfl ?_
  refine G_iadd dL_law_571 ?_
  refine G_sld dL_law_572 (by decide) (by omega) (by omega) (by omega) rfl ?_
  refine G_aload_n dL_law_573 rfl ?_
  refine G_iload dL_law_574 rfl ?_
  refine G_iconst (z := 4) dL_law_576 rfl ?_
  refine G_iadd dL_law_577 ?_
  refine G_sld dL_law_578 (by decide) (by omega) (by omega) (by omega) rfl ?_
  refine G_callVM (as := [vi (sx E i 1), vi (sx E i 2), vi (sx E i 3), vi (sx E i 4)]) h dL_law_579 cv_L_73 im_X12_sheet sl_X12_sheet (by decide) sh_169 rfl rfl ⟨Nat.le_of_ble_eq_true rfl, Nat.le_of_ble_eq_true rfl⟩ rfl rfl ⟨by show k ≤ 601024; omega, by show u ≤ 7293034; omega⟩ (Nat.le_of_ble_eq_true rfl) ⟨Nat.zero_le _, by decide⟩ rfl (fun r m2 g => ?_)
  obtain ⟨z9, rfl, rfl, g⟩ := g
  refine G_eqS (tgt := 1448) dL_law_582 (by decide) ?_
  exact kk v m2 k u (g.mono (by omega)) (Nat.le_succ _) (by omega)
theorem lc_drive {E : Nat × (Nat → Int32)} {tb : List ExceptionTableEntry} {nm : String} {v : (Int → Int) → Int} {B i : Int} {m : Mem} {k u : Nat} (hR : Rel v B m) (hB : B ≤ 800000000) (h0 : 0 ≤ i) (h5 : i + 5 ≤ (E.1 : Int)) (hE : (E.1 : Int) ≤ 2560) (hk : k + 1 ≤ 601024) (hu : u + 6 ≤ 7293034) (kk : LK E tb nm B i k u) : LG E tb nm 587 (lvi i) [] k u m := by
  refine G_aload_n dL_law_587 rfl ?_
  refine G_aload_n dL_law_588 rfl ?_
  refine G_iload dL_law_589 rfl ?_
  refine G_iconst (z := 1) dL_law_591 rfl ?_
  refine G_iadd dL_law_592 ?_
  refine G_sld dL_law_593 (by decide) (by omega) (by omega) (by omega) rfl ?_
  refine G_callVM (as := [vi (sx E i 1)]) (step_drive (E2 := E) (v := v) (s := sx E i 1) (sx_r E i 1) hR (by omega)) dL_law_594 cv_L_74 im_X11_drive sl_X11_drive (by decide) sh_0 rfl rfl ⟨Nat.le_of_ble_eq_true rfl, Nat.le_of_ble_eq_true rfl⟩ rfl rfl ⟨by show k ≤ 601024; omega, by show u ≤ 7293034; omega⟩ (Nat.le_of_ble_eq_true rfl) ⟨Nat.zero_le _, by decide⟩ rfl (fun r m1 h => ?_)
  obtain ⟨z, rfl, h⟩ := h
  refine G_aload_n dL_law_597 rfl ?_
  refine G_aload_n dL_law_598 rfl ?_
  refine G_iload dL_law_599 rfl ?_
  refine G_iconst (z := 1) dL_law_601 rfl ?_
  refine G_iadd dL_law_602 ?_
  refine G_sld dL_law_603 (by decide) (by omega) (by omega) (by omega) rfl ?_
  refine G_callVM (as := [vi (sx E i 1)]) h dL_law_604 cv_L_77 im_X12_drive sl_X12_drive (by decide) sh_169 rfl rfl ⟨Nat.le_of_ble_eq_true rfl, Nat.le_of_ble_eq_true rfl⟩ rfl rfl ⟨by show k ≤ 601024; omega, by show u ≤ 7293034; omega⟩ (Nat.le_of_ble_eq_true rfl) ⟨Nat.zero_le _, by decide⟩ rfl (fun r m2 g => ?_)
  obtain ⟨z9, rfl, rfl, g⟩ := g
  refine G_eqS (tgt := 1448) dL_law_607 (by decide) ?_
  exact kk v m2 k u (g.mono (by omega)) (Nat.le_succ _) (by omega)
theorem lc_empty {E : Nat × (Nat → Int32)} {tb : List ExceptionTableEntry} {nm : String} {v : (Int → Int) → Int} {B i : Int} {m : Mem} {k u : Nat} (hR : Rel v B m) (hB : B ≤ 800000000) (h0 : 0 ≤ i) (h5 : i + 5 ≤ (E.1 : Int)) (hE : (E.1 : Int) ≤ 2560) (hk : k + 1 ≤ 601024) (hu : u + 6 ≤ 7293034) (kk : LK E tb nm B i k u) : LG E tb nm 612 (lvi i) [] k u m := by
  refine G_aload_n dL_law_612 rfl ?_
  refine G_aload_n dL_law_613 rfl ?_
  refine G_iload dL_law_614 rfl ?_
  refine G_iconst (z := 1) dL_law_616 rfl ?_
  refine G_iadd dL_law_617 ?_
  refine G_sld dL_law_618 (by decide) (by omega) (by omega) (by omega) rfl ?_
  refine G_aload_n dL_law_619 rfl ?_
  refine G_iload dL_law_620 rfl ?_
  refine G_iconst (z := 2) dL_law_622 rfl ?_
  refine G_iadd dL_law_623 ?_
  refine G_sld dL_law_624 (by decide) (by omega) (by omega) (by omega) rfl ?_
  refine G_callVM (as := [vi (sx E i 1), vi (sx E i 2)]) (step_empty (E2 := E) (v := v) (s := sx E i 1) (how := sx E i 2) (sx_r E i 1) (sx_r E i 2) hR (by omega)) dL_law_625 cv_L_78 im_X11_empty sl_X11_empty (by decide) sh_0 rfl rfl ⟨Nat.le_of_ble_eq_true rfl, Nat.le_of_ble_eq_true rfl⟩ rfl rfl ⟨by show k ≤ 601024; omega, by show u ≤ 7293034; omega⟩ (Nat.le_of_ble_eq_true rfl) ⟨Nat.zero_le _, by decide⟩ rfl (fun r m1 h => ?_)
  obtain ⟨z, rfl, h⟩ := h
  refine G_aload_n dL_law_628 rfl ?_
  refine G_aload_n dL_law_629 rfl ?_
  refine G_iload dL_law_630 rfl ?_
  refine G_iconst (z := 1) dL_law_632 rfl ?_
  refine G_iadd dL_law_633 ?_
  refine G_sld dL_law_634 (by decide) (by omega) (by omega) (by omega) rfl ?_
  refine G_aload_n dL_law_635 rfl ?_
  refine G_iload dL_law_636 rfl ?_
  refine G_iconst (z := 2) dL_law_638 rfl ?_
  refine G_iadd dL_law_639 ?_
  refine G_sld dL_law_640 (by decide) (by omega) (by omega) (by omega) rfl ?_
  refine G_callVM (as := [vi (sx E i 1), vi (sx E i 2)]) h dL_law_641 cv_L_81 im_X12_empty sl_X12_empty (by decide) sh_169 rfl rfl ⟨Nat.le_of_ble_eq_true rfl, Nat.le_of_ble_eq_true rfl⟩ rfl rfl ⟨by show k ≤ 601024; omega, by show u ≤ 7293034; omega⟩ (Nat.le_of_ble_eq_true rfl) ⟨Nat.zero_le _, by decide⟩ rfl (fun r m2 g => ?_)
  obtain ⟨z9, rfl, rfl, g⟩ := g
  refine G_eqS (tgt := 1448) dL_law_644 (by decide) ?_
  exact kk v m2 k u (g.mono (by omega)) (Nat.le_succ _) (by omega)
theorem lc_tip {E : Nat × (Nat → Int32)} {tb : List ExceptionTableEntry} {nm : String} {v : (Int → Int) → Int} {B i : Int} {m : Mem} {k u : Nat} (hR : Rel v B m) (hB : B ≤ 800000000) (h0 : 0 ≤ i) (h5 : i + 5 ≤ (E.1 : Int)) (hE : (E.1 : Int) ≤ 2560) (hk : k + 1 ≤ 601024) (hu : u + 6 ≤ 7293034) (kk : LK E tb nm B i k u) : LG E tb nm 649 (lvi i) [] k u m := by
  refine G_aload_n dL_law_649 rfl ?_
  refine G_callVM (as := []) (step_tip (E2 := E) (v := v) hR (by omega)) dL_law_650 cv_L_82 im_X11_tip sl_X11_tip (by decide) sh_0 rfl rfl ⟨Nat.le_of_ble_eq_true rfl, Nat.le_of_ble_eq_true rfl⟩ rfl rfl ⟨by show k ≤ 601024; omega, by show u ≤ 7293034; omega⟩ (Nat.le_of_ble_eq_true rfl) ⟨Nat.zero_le _, by decide⟩ rfl (fun r m1 h => ?_)
  obtain ⟨z, rfl, h⟩ := h
  refine G_aload_n dL_law_653 rfl ?_
  refine G_callVM (as := []) h dL_law_654 cv_L_85 im_X12_tip sl_X12_tip (by decide) sh_169 rfl rfl ⟨Nat.le_of_ble_eq_true rfl, Nat.le_of_ble_eq_true rfl⟩ rfl rfl ⟨by show k ≤ 601024; omega, by show u ≤ 7293034; omega⟩ (Nat.le_of_ble_eq_true rfl) ⟨Nat.zero_le _, by decide⟩ rfl (fun r m2 g => ?_)
  obtain ⟨z9, rfl, rfl, g⟩ := g
  refine G_eqS (tgt := 1448) dL_law_657 (by decide) ?_
  exact kk v m2 k u (g.mono (by omega)) (Nat.le_succ _) (by omega)
theorem lc_pause {E : Nat × (Nat → Int32)} {tb : List ExceptionTableEntry} {nm : String} {v : (Int → Int) → Int} {B i : Int} {m : Mem} {k u : Nat} (hR : Rel v B m) (hB : B ≤ 800000000) (h0 : 0 ≤ i) (h5 : i + 5 ≤ (E.1 : Int)) (hE : (E.1 : Int) ≤ 2560) (hk : k + 1 ≤ 601024) (hu : u + 6 ≤ 7293034) (kk : LK E tb nm B i k u) : LG E tb nm 662 (lvi i) [] k u m := by
  refine G_aload_n dL_law_662 rfl ?_
  refine G_aload_n dL_law_663 rfl ?_
  refine G_iload dL_law_664 rfl ?_
  refine G_iconst (z := 1) dL_law_666 rfl ?_
  refine G_iadd dL_law_667 ?_
  refine G_sld dL_law_668 (by decide) (by omega) (by omega) (by omega) rfl ?_
  refine G_callVM (as := [vi (sx E i 1)]) (step_pause (E2 := E) (v := v) (s := sx E i 1) (sx_r E i 1) hR (by omega)) dL_law_669 cv_L_86 im_X11_pause sl_X11_pause (by decide) sh_0 rfl rfl ⟨Nat.le_of_ble_eq_true rfl, Nat.le_of_ble_eq_true rfl⟩ rfl rfl ⟨by show k ≤ 601024; omega, by show u ≤ 7293034; omega⟩ (Nat.le_of_ble_eq_true rfl) ⟨Nat.zero_le _, by decide⟩ rfl (fun r m1 h => ?_)
  obtain ⟨z, rfl, h⟩ := h
  refine G_aload_n dL_law_672 rfl ?_
  refine G_aload_n dL_law_673 rfl ?_
  refine G_iload dL_law_674 rfl ?_
  refine G_iconst (z := 1) dL_law_676 rfl ?_
  refine G_iadd dL_law_677 ?_
  refine G_sld dL_law_678 (by decide) (by omega) (by omega) (by omega) rfl ?_
  refine G_callVM (as := [vi (sx E i 1)]) h dL_law_679 cv_L_89 im_X12_pause sl_X12_pause (by decide) sh_169 rfl rfl ⟨Nat.le_of_ble_eq_true rfl, Nat.le_of_ble_eq_true rfl⟩ rfl rfl ⟨by show k ≤ 601024; omega, by show u ≤ 7293034; omega⟩ (Nat.le_of_ble_eq_true rfl) ⟨Nat.zero_le _, by decide⟩ rfl (fun r m2 g => ?_)
  obtain ⟨z9, rfl, rfl, g⟩ := g
  refine G_eqS (tgt := 1448) dL_law_682 (by decide) ?_
  exact kk v m2 k u (g.mono (by omega)) (Nat.le_succ _) (by omega)
theorem lc_week {E : Nat × (Nat → Int32)} {tb : List ExceptionTableEntry} {nm : String} {v : (Int → Int) → Int} {B i : Int} {m : Mem} {k u : Nat} (hR : Rel v B m) (hB : B ≤ 800000000) (h0 : 0 ≤ i) (h5 : i + 5 ≤ (E.1 : Int)) (hE : (E.1 : Int) ≤ 2560) (hk : k + 1 ≤ 601024) (hu : u + 6 ≤ 7293034) (kk : LK E tb nm B i k u) : LG E tb nm 687 (lvi i) [] k u m := by
  refine G_aload_n dL_law_687 rfl ?_
  refine G_callVM (as := []) (step_week (E2 := E) (v := v) hR (by omega)) dL_law_688 cv_L_90 im_X11_week sl_X11_week (by decide) sh_0 rfl rfl ⟨Nat.le_of_ble_eq_true rfl, Nat.le_of_ble_eq_true rfl⟩ rfl rfl ⟨by show k ≤ 601024; omega, by show u ≤ 7293034; omega⟩ (Nat.le_of_ble_eq_true rfl) ⟨Nat.zero_le _, by decide⟩ rfl (fun r m1 h => ?_)
  obtain ⟨z, rfl, h⟩ := h
  refine G_aload_n dL_law_691 rfl ?_
  refine G_callVM (as := []) h dL_law_692 cv_L_93 im_X12_week sl_X12_week (by decide) sh_169 rfl rfl ⟨Nat.le_of_ble_eq_true rfl, Nat.le_of_ble_eq_true rfl⟩ rfl rfl ⟨by show k ≤ 601024; omega, by show u ≤ 7293034; omega⟩ (Nat.le_of_ble_eq_true rfl) ⟨Nat.zero_le _, by decide⟩ rfl (fun r m2 g => ?_)
  obtain ⟨z9, rfl, rfl, g⟩ := g
  refine G_eqS (tgt := 1448) dL_law_695 (by decide) ?_
  exact kk v m2 k u (g.mono (by omega)) (Nat.le_succ _) (by omega)
theorem lc_round {E : Nat × (Nat → Int32)} {tb : List ExceptionTableEntry} {nm : String} {v : (Int → Int) → Int} {B i : Int} {m : Mem} {k u : Nat} (hR : Rel v B m) (hB : B ≤ 800000000) (h0 : 0 ≤ i) (h5 : i + 5 ≤ (E.1 : Int)) (hE : (E.1 : Int) ≤ 2560) (hk : k + 1 ≤ 601024) (hu : u + 6 ≤ 7293034) (kk : LK E tb nm B i k u) : LG E tb nm 700 (lvi i) [] k u m := by
  refine G_aload_n dL_law_700 rfl ?_
  refine G_callVM (as := []) (step_round (E2 := E) (v := v) hR (by omega)) dL_law_701 cv_L_94 im_X11_round sl_X11_round (by decide) sh_0 rfl rfl ⟨Nat.le_of_ble_eq_true rfl, Nat.le_of_ble_eq_true rfl⟩ rfl rfl ⟨by show k ≤ 601024; omega, by show u ≤ 7293034; omega⟩ (Nat.le_of_ble_eq_true rfl) ⟨Nat.zero_le _, by decide⟩ rfl (fun r m1 h => ?_)
  obtain ⟨z, rfl, h⟩ := h
  refine G_aload_n dL_law_704 rfl ?_
  refine G_callVM (as := []) h dL_law_705 cv_L_97 im_X12_round sl_X12_round (by decide) sh_169 rfl rfl ⟨Nat.le_of_ble_eq_true rfl, Nat.le_of_ble_eq_true rfl⟩ rfl rfl ⟨by show k ≤ 601024; omega, by show u ≤ 7293034; omega⟩ (Nat.le_of_ble_eq_true rfl) ⟨Nat.zero_le _, by decide⟩ rfl (fun r m2 g => ?_)
  obtain ⟨z9, rfl, rfl, g⟩ := g
  refine G_eqS (tgt := 1448) dL_law_708 (by decide) ?_
  exact kk v m2 k u (g.mono (by omega)) (Nat.le_succ _) (by omega)
theorem lc_undo {E : Nat × (Nat → Int32)} {tb : List ExceptionTableEntry} {nm : String} {v : (Int → Int) → Int} {B i : Int} {m : Mem} {k u : Nat} (hR : Rel v B m) (hB : B ≤ 800000000) (h0 : 0 ≤ i) (h5 : i + 5 ≤ (E.1 : Int)) (hE : (E.1 : Int) ≤ 2560) (hk : k + 1 ≤ 601024) (hu : u + 6 ≤ 7293034) (kk : LK E tb nm B i k u) : LG E tb nm 713 (lvi i) [] k u m := by
  refine G_aload_n dL_law_713 rfl ?_
  refine G_callVM (as := []) (step_undo (E2 := E) (v := v) hR) dL_law_714 cv_L_98 im_X11_undo sl_X11_undo (by decide) sh_0 rfl rfl ⟨Nat.le_of_ble_eq_true rfl, Nat.le_of_ble_eq_true rfl⟩ rfl rfl ⟨by show k ≤ 601024; omega, by show u ≤ 7293034; omega⟩ (Nat.le_of_ble_eq_true rfl) ⟨Nat.zero_le _, by decide⟩ rfl (fun r m1 h => ?_)
  obtain ⟨z, rfl, h⟩ := h
  refine G_aload_n dL_law_717 rfl ?_
  refine G_callVM (as := []) h dL_law_718 cv_L_101 im_X12_undo sl_X12_undo (by decide) sh_169 rfl rfl ⟨Nat.le_of_ble_eq_true rfl, Nat.le_of_ble_eq_true rfl⟩ rfl rfl ⟨by show k ≤ 601024; omega, by show u ≤ 7293034; omega⟩ (Nat.le_of_ble_eq_true rfl) ⟨Nat.zero_le _, by decide⟩ rfl (fun r m2 g => ?_)
  obtain ⟨z9, rfl, rfl, g⟩ := g
  refine G_eqS (tgt := 1448) dL_law_721 (by decide) ?_
  exact kk v m2 k u (g.mono (by omega)) (Nat.le_succ _) (by omega)
theorem lc_takes {E : Nat × (Nat → Int32)} {tb : List ExceptionTableEntry} {nm : String} {v : (Int → Int) → Int} {B i : Int} {m : Mem} {k u : Nat} (hR : Rel v B m) (hB : B ≤ 800000000) (h0 : 0 ≤ i) (h5 : i + 5 ≤ (E.1 : Int)) (hE : (E.1 : Int) ≤ 2560) (hk : k + 1 ≤ 601024) (hu : u + 6 ≤ 7293034) (kk : LK E tb nm B i k u) : LG E tb nm 726 (lvi i) [] k u m := by
  refine G_aload_n dL_law_726 rfl ?_
  refine G_aload_n dL_law_727 rfl ?_
  refine G_iload dL_law_728 rfl ?_
  refine G_iconst (z := 1) dL_law_730 rfl ?_
  refine G_iadd dL_law_731 ?_
  refine G_sld dL_law_732 (by decide) (by omega) (by omega) (by omega) rfl ?_
  refine G_aload_n dL_law_733 rfl ?_
  refine G_iload dL_law_734 rfl ?_
  refine G_iconst (z := 2) dL_law_736 rfl ?_
  refine G_iadd dL_law_737 ?_
  refine G_sld dL_law_738 (by decide) (by omega) (by omega) (by omega) rfl ?_
  refine G_callVM (as := [vi (sx E i 1), vi (sx E i 2)]) (step_takes (E2 := E) (v := v) (s := sx E i 1) (how := sx E i 2) (sx_r E i 1) (sx_r E i 2) hR) dL_law_739 cv_L_102 im_X11_takes sl_X11_takes (by decide) sh_0 rfl rfl ⟨Nat.le_of_ble_eq_true rfl, Nat.le_of_ble_eq_true rfl⟩ rfl rfl ⟨by show k ≤ 601024; omega, by show u ≤ 7293034; omega⟩ (Nat.le_of_ble_eq_true rfl) ⟨Nat.zero_le _, by decide⟩ rfl (fun r m1 h => ?_)
  obtain ⟨z, rfl, h⟩ := h
  refine G_aload_n dL_law_742 rfl ?_
  refine G_aload_n dL_law_743 rfl ?_
  refine G_iload dL_law_744 rfl ?_
  refine G_iconst (z := 1) dL_law_746 rfl ?_
  refine G_iadd dL_law_747 ?_
  refine G_sld dL_law_748 (by decide) (by omega) (by omega) (by omega) rfl ?_
  refine G_aload_n dL_law_749 rfl ?_
  refine G_iload dL_law_750 rfl ?_
  refine G_iconst (z := 2) dL_law_752 rfl ?_
  refine G_iadd dL_law_753 ?_
  refine G_sld dL_law_754 (by decide) (by omega) (by omega) (by omega) rfl ?_
  refine G_callVM (as := [vi (sx E i 1), vi (sx E i 2)]) h dL_law_755 cv_L_105 im_X12_takes sl_X12_takes (by decide) sh_169 rfl rfl ⟨Nat.le_of_ble_eq_true rfl, Nat.le_of_ble_eq_true rfl⟩ rfl rfl ⟨by show k ≤ 601024; omega, by show u ≤ 7293034; omega⟩ (Nat.le_of_ble_eq_true rfl) ⟨Nat.zero_le _, by decide⟩ rfl (fun r m2 g => ?_)
  obtain ⟨z9, rfl, rfl, g⟩ := g
  refine G_eqS (tgt := 1448) dL_law_758 (by decide) ?_
  exact kk v m2 k u (g.mono (by omega)) (Nat.le_succ _) (by omega)
theorem lc_best {E : Nat × (Nat → Int32)} {tb : List ExceptionTableEntry} {nm : String} {v : (Int → Int) → Int} {B i : Int} {m : Mem} {k u : Nat} (hR : Rel v B m) (hB : B ≤ 800000000) (h0 : 0 ≤ i) (h5 : i + 5 ≤ (E.1 : Int)) (hE : (E.1 : Int) ≤ 2560) (hk : k + 1 ≤ 601024) (hu : u + 6 ≤ 7293034) (kk : LK E tb nm B i k u) : LG E tb nm 763 (lvi i) [] k u m := by
  refine G_aload_n dL_law_763 rfl ?_
  refine G_aload_n dL_law_764 rfl ?_
  refine G_iload dL_law_765 rfl ?_
  refine G_iconst (z := 1) dL_law_767 rfl ?_
  refine G_iadd dL_law_768 ?_
  refine G_sld dL_law_769 (by decide) (by omega) (by omega) (by omega) rfl ?_
  refine G_callVM (as := [vi (sx E i 1)]) (step_best (E2 := E) (v := v) (s := sx E i 1) (sx_r E i 1) hR (by omega)) dL_law_770 cv_L_106 im_X11_best sl_X11_best (by decide) sh_0 rfl rfl ⟨Nat.le_of_ble_eq_true rfl, Nat.le_of_ble_eq_true rfl⟩ rfl rfl ⟨by show k ≤ 601024; omega, by show u ≤ 7293034; omega⟩ (Nat.le_of_ble_eq_true rfl) ⟨Nat.zero_le _, by decide⟩ rfl (fun r m1 h => ?_)
  obtain ⟨z, rfl, h⟩ := h
  refine G_aload_n dL_law_773 rfl ?_
  refine G_aload_n dL_law_774 rfl ?_
  refine G_iload dL_law_775 rfl ?_
  refine G_iconst (z := 1) dL_law_777 rfl ?_
  refine G_iadd dL_law_778 ?_
  refine G_sld dL_law_779 (by decide) (by omega) (by omega) (by omega) rfl ?_
  refine G_callVM (as := [vi (sx E i 1)]) h dL_law_780 cv_L_109 im_X12_best sl_X12_best (by decide) sh_169 rfl rfl ⟨Nat.le_of_ble_eq_true rfl, Nat.le_of_ble_eq_true rfl⟩ rfl rfl ⟨by show k ≤ 601024; omega, by show u ≤ 7293034; omega⟩ (Nat.le_of_ble_eq_true rfl) ⟨Nat.zero_le _, by decide⟩ rfl (fun r m2 g => ?_)
  obtain ⟨z9, rfl, rfl, g⟩ := g
  refine G_eqS (tgt := 1448) dL_law_783 (by decide) ?_
  exact kk v m2 k u (g.mono (by omega)) (Nat.le_succ _) (by omega)
theorem lc_less {E : Nat × (Nat → Int32)} {tb : List ExceptionTableEntry} {nm : String} {v : (Int → Int) → Int} {B i : Int} {m : Mem} {k u : Nat} (hR : Rel v B m) (hB : B ≤ 800000000) (h0 : 0 ≤ i) (h5 : i + 5 ≤ (E.1 : Int)) (hE : (E.1 : Int) ≤ 2560) (hk : k + 1 ≤ 601024) (hu : u + 6 ≤ 7293034) (kk : LK E tb nm B i k u) : LG E tb nm 788 (lvi i) [] k u m := by
  refine G_aload_n dL_law_788 rfl ?_
  refine G_aload_n dL_law_789 rfl ?_
  refine G_iload dL_law_790 rfl ?_
  refine G_iconst (z := 1) dL_law_792 rfl ?_
  refine G_iadd dL_law_793 ?_
  refine G_sld dL_law_794 (by decide) (by omega) (by omega) (by omega) rfl ?_
  refine G_callVM (as := [vi (sx E i 1)]) (step_less (E2 := E) (v := v) (s := sx E i 1) (sx_r E i 1) hR (by omega)) dL_law_795 cv_L_110 im_X11_less sl_X11_less (by decide) sh_0 rfl rfl ⟨Nat.le_of_ble_eq_true rfl, Nat.le_of_ble_eq_true rfl⟩ rfl rfl ⟨by show k ≤ 601024; omega, by show u ≤ 7293034; omega⟩ (Nat.le_of_ble_eq_true rfl) ⟨Nat.zero_le _, by decide⟩ rfl (fun r m1 h => ?_)
  obtain ⟨z, rfl, h⟩ := h
  refine G_aload_n dL_law_798 rfl ?_
  refine G_aload_n dL_law_799 rfl ?_
  refine G_iload dL_law_800 rfl ?_
  refine G_iconst (z := 1) dL_law_802 rfl ?_
  refine G_iadd dL_law_803 ?_
  refine G_sld dL_law_804 (by decide) (by omega) (by omega) (by omega) rfl ?_
  refine G_callVM (as := [vi (sx E i 1)]) h dL_law_805 cv_L_113 im_X12_less sl_X12_less (by decide) sh_169 rfl rfl ⟨Nat.le_of_ble_eq_true rfl, Nat.le_of_ble_eq_true rfl⟩ rfl rfl ⟨by show k ≤ 601024; omega, by show u ≤ 7293034; omega⟩ (Nat.le_of_ble_eq_true rfl) ⟨Nat.zero_le _, by decide⟩ rfl (fun r m2 g => ?_)
  obtain ⟨z9, rfl, rfl, g⟩ := g
  refine G_eqS (tgt := 1448) dL_law_808 (by decide) ?_
  exact kk v m2 k u (g.mono (by omega)) (Nat.le_succ _) (by omega)
theorem lc_line {E : Nat × (Nat → Int32)} {tb : List ExceptionTableEntry} {nm : String} {v : (Int → Int) → Int} {B i : Int} {m : Mem} {k u : Nat} (hR : Rel v B m) (hB : B ≤ 800000000) (h0 : 0 ≤ i) (h5 : i + 5 ≤ (E.1 : Int)) (hE : (E.1 : Int) ≤ 2560) (hk : k + 1 ≤ 601024) (hu : u + 6 ≤ 7293034) (kk : LK E tb nm B i k u) : LG E tb nm 813 (lvi i) [] k u m := by
  refine G_aload_n dL_law_813 rfl ?_
  refine G_aload_n dL_law_814 rfl ?_
  refine G_iload dL_law_815 rfl ?_
  refine G_iconst (z := 1) dL_law_817 rfl ?_
  refine G_iadd dL_law_818 ?_
  refine G_sld dL_law_819 (by decide) (by omega) (by omega) (by omega) rfl ?_
  refine G_callVM (as := [vi (sx E i 1)]) (step_line (E2 := E) (v := v) (s := sx E i 1) (sx_r E i 1) hR (by omega)) dL_law_820 cv_L_114 im_X11_line sl_X11_line (by decide) sh_0 rfl rfl ⟨Nat.le_of_ble_eq_true rfl, Nat.le_of_ble_eq_true rfl⟩ rfl rfl ⟨by show k ≤ 601024; omega, by show u ≤ 7293034; omega⟩ (Nat.le_of_ble_eq_true rfl) ⟨Nat.zero_le _, by decide⟩ rfl (fun r m1 h => ?_)
  obtain ⟨z, rfl, h⟩ := h
  refine G_aload_n dL_law_823 rfl ?_
  refine G_aload_n dL_law_824 rfl ?_
  refine G_iload dL_law_825 rfl ?_
  refine G_iconst (z := 1) dL_law_827 rfl ?_
  refine G_iadd dL_law_828 ?_
  refine G_sld dL_law_829 (by decide) (by omega) (by omega) (by omega) rfl ?_
  refine G_callVM (as := [vi (sx E i 1)]) h dL_law_830 cv_L_117 im_X12_line sl_X12_line (by decide) sh_169 rfl rfl ⟨Nat.le_of_ble_eq_true rfl, Nat.le_of_ble_eq_true rfl⟩ rfl rfl ⟨by show k ≤ 601024; omega, by show u ≤ 7293034; omega⟩ (Nat.le_of_ble_eq_true rfl) ⟨Nat.zero_le _, by decide⟩ rfl (fun r m2 g => ?_)
  obtain ⟨z9, rfl, rfl, g⟩ := g
  refine G_eqS (tgt := 1448) dL_law_833 (by decide) ?_
  exact kk v m2 k u (g.mono (by omega)) (Nat.le_succ _) (by omega)
theorem lc_wet {E : Nat × (Nat → Int32)} {tb : List ExceptionTableEntry} {nm : String} {v : (Int → Int) → Int} {B i : Int} {m : Mem} {k u : Nat} (hR : Rel v B m) (hB : B ≤ 800000000) (h0 : 0 ≤ i) (h5 : i + 5 ≤ (E.1 : Int)) (hE : (E.1 : Int) ≤ 2560) (hk : k + 1 ≤ 601024) (hu : u + 6 ≤ 7293034) (kk : LK E tb nm B i k u) : LG E tb nm 894 (lvi i) [] k u m := by
  refine G_aload_n dL_law_894 rfl ?_
  refine G_aload_n dL_law_895 rfl ?_
  refine G_iload dL_law_896 rfl ?_
  refine G_iconst (z := 1) dL_law_898 rfl ?_
  refine G_iadd dL_law_899 ?_
  refine G_sld dL_law_900 (by decide) (by omega) (by omega) (by omega) rfl ?_
  refine G_aload_n dL_law_901 rfl ?_
  refine G_iload dL_law_902 rfl ?_
  refine G_iconst (z := 2) dL_law_904 rfl ?_
  refine G_iadd dL_law_905 ?_
  refine G_sld dL_law_906 (by decide) (by omega) (by omega) (by omega) rfl ?_
  refine G_callVM (as := [vi (sx E i 1), vi (sx E i 2)]) (step_wet (E2 := E) (v := v) (s := sx E i 1) (x := sx E i 2) (sx_r E i 1) (sx_r E i 2) hR) dL_law_907 cv_L_122 im_X11_wet sl_X11_wet (by decide) sh_0 rfl rfl ⟨Nat.le_of_ble_eq_true rfl, Nat.le_of_ble_eq_true rfl⟩ rfl rfl ⟨by show k ≤ 601024; omega, by show u ≤ 7293034; omega⟩ (Nat.le_of_ble_eq_true rfl) ⟨Nat.zero_le _, by decide⟩ rfl (fun r m1 h => ?_)
  obtain ⟨z, rfl, h⟩ := h
  refine G_aload_n dL_law_910 rfl ?_
  refine G_aload_n dL_law_911 rfl ?_
  refine G_iload dL_law_912 rfl ?_
  refine G_iconst (z := 1) dL_law_914 rfl ?_
  refine G_iadd dL_law_915 ?_
  refine G_sld dL_law_916 (by decide) (by omega) (by omega) (by omega) rfl ?_
  refine G_aload_n dL_law_917 rfl ?_
  refine G_iload dL_law_918 rfl ?_
  refine G_iconst (z := 2) dL_law_920 rfl ?_
  refine G_iadd dL_law_921 ?_
  refine G_sld dL_law_922 (by decide) (by omega) (by omega) (by omega) rfl ?_
  refine G_callVM (as := [vi (sx E i 1), vi (sx E i 2)]) h dL_law_923 cv_L_125 im_X12_wet sl_X12_wet (by decide) sh_169 rfl rfl ⟨Nat.le_of_ble_eq_true rfl, Nat.le_of_ble_eq_true rfl⟩ rfl rfl ⟨by show k ≤ 601024; omega, by show u ≤ 7293034; omega⟩ (Nat.le_of_ble_eq_true rfl) ⟨Nat.zero_le _, by decide⟩ rfl (fun r m2 g => ?_)
  obtain ⟨z9, rfl, rfl, g⟩ := g
  refine G_eqS (tgt := 1448) dL_law_926 (by decide) ?_
  exact kk v m2 k u (g.mono (by omega)) (Nat.le_succ _) (by omega)
theorem lc_order {E : Nat × (Nat → Int32)} {tb : List ExceptionTableEntry} {nm : String} {v : (Int → Int) → Int} {B i : Int} {m : Mem} {k u : Nat} (hR : Rel v B m) (hB : B ≤ 800000000) (h0 : 0 ≤ i) (h5 : i + 5 ≤ (E.1 : Int)) (hE : (E.1 : Int) ≤ 2560) (hk : k + 1 ≤ 601024) (hu : u + 6 ≤ 7293034) (kk : LK E tb nm B i k u) : LG E tb nm 931 (lvi i) [] k u m := by
  refine G_aload_n dL_law_931 rfl ?_
  refine G_callVM (as := []) (step_order (E2 := E) (v := v) hR (by omega)) dL_law_932 cv_L_126 im_X11_order sl_X11_order (by decide) sh_0 rfl rfl ⟨Nat.le_of_ble_eq_true rfl, Nat.le_of_ble_eq_true rfl⟩ rfl rfl ⟨by show k ≤ 601024; omega, by show u ≤ 7293034; omega⟩ (Nat.le_of_ble_eq_true rfl) ⟨Nat.zero_le _, by decide⟩ rfl (fun r m1 h => ?_)
  obtain ⟨z, rfl, h⟩ := h
  refine G_aload_n dL_law_935 rfl ?_
  refine G_callVM (as := []) h dL_law_936 cv_L_129 im_X12_order sl_X12_order (by decide) sh_169 rfl rfl ⟨Nat.le_of_ble_eq_true rfl, Nat.le_of_ble_eq_true rfl⟩ rfl rfl ⟨by show k ≤ 601024; omega, by show u ≤ 7293034; omega⟩ (Nat.le_of_ble_eq_true rfl) ⟨Nat.zero_le _, by decide⟩ rfl (fun r m2 g => ?_)
  obtain ⟨z9, rfl, rfl, g⟩ := g
  refine G_eqS (tgt := 1448) dL_law_939 (by decide) ?_
  exact kk v m2 k u (g.mono (by omega)) (Nat.le_succ _) (by omega)
theorem lc_soonest {E : Nat × (Nat → Int32)} {tb : List ExceptionTableEntry} {nm : String} {v : (Int → Int) → Int} {B i : Int} {m : Mem} {k u : Nat} (hR : Rel v B m) (hB : B ≤ 800000000) (h0 : 0 ≤ i) (h5 : i + 5 ≤ (E.1 : Int)) (hE : (E.1 : Int) ≤ 2560) (hk : k + 1 ≤ 601024) (hu : u + 6 ≤ 7293034) (kk : LK E tb nm B i k u) : LG E tb nm 944 (lvi i) [] k u m := by
  refine G_aload_n dL_law_944 rfl ?_
  refine G_aload_n dL_law_945 rfl ?_
  refine G_iload dL_law_946 rfl ?_
  refine G_iconst (z := 1) dL_law_948 rfl ?_
  refine G_iadd dL_law_949 ?_
  refine G_sld dL_law_950 (by decide) (by omega) (by omega) (by omega) rfl ?_
  refine G_callVM (as := [vi (sx E i 1)]) (step_soonest (E2 := E) (v := v) (t := sx E i 1) (sx_r E i 1) hR (by omega)) dL_law_951 cv_L_130 im_X11_soonest sl_X11_soonest (by decide) sh_0 rfl rfl ⟨Nat.le_of_ble_eq_true rfl, Nat.le_of_ble_eq_true rfl⟩ rfl rfl ⟨by show k ≤ 601024; omega, by show u ≤ 7293034; omega⟩ (Nat.le_of_ble_eq_true rfl) ⟨Nat.zero_le _, by decide⟩ rfl (fun r m1 h => ?_)
  obtain ⟨z, rfl, h⟩ := h
  refine G_aload_n dL_law_954 rfl ?_
  refine G_aload_n dL_law_955 rfl ?_
  refine G_iload dL_law_956 rfl ?_
  refine G_iconst (z := 1) dL_law_958 rfl ?_
  refine G_iadd dL_law_959 ?_
  refine G_sld dL_law_960 (by decide) (by omega) (by omega) (by omega) rfl ?_
  refine G_callVM (as := [vi (sx E i 1)]) h dL_law_961 cv_L_133 im_X12_soonest sl_X12_soonest (by decide) sh_169 rfl rfl ⟨Nat.le_of_ble_eq_true rfl, Nat.le_of_ble_eq_true rfl⟩ rfl rfl ⟨by show k ≤ 601024; omega, by show u ≤ 7293034; omega⟩ (Nat.le_of_ble_eq_true rfl) ⟨Nat.zero_le _, by decide⟩ rfl (fun r m2 g => ?_)
  obtain ⟨z9, rfl, rfl, g⟩ := g
  refine G_eqS (tgt := 1448) dL_law_964 (by decide) ?_
  exact kk v m2 k u (g.mono (by omega)) (Nat.le_succ _) (by omega)
theorem lc_most {E : Nat × (Nat → Int32)} {tb : List ExceptionTableEntry} {nm : String} {v : (Int → Int) → Int} {B i : Int} {m : Mem} {k u : Nat} (hR : Rel v B m) (hB : B ≤ 800000000) (h0 : 0 ≤ i) (h5 : i + 5 ≤ (E.1 : Int)) (hE : (E.1 : Int) ≤ 2560) (hk : k + 1 ≤ 601024) (hu : u + 6 ≤ 7293034) (kk : LK E tb nm B i k u) : LG E tb nm 969 (lvi i) [] k u m := by
  refine G_aload_n dL_law_969 rfl ?_
  refine G_aload_n dL_law_970 rfl ?_
  refine G_iload dL_law_971 rfl ?_
  refine G_iconst (z := 1) dL_law_973 rfl ?_
  refine G_iadd dL_law_974 ?_
  refine G_sld dL_law_975 (by decide) (by omega) (by omega) (by omega) rfl ?_
  refine G_aload_n dL_law_976 rfl ?_
  refine G_iload dL_law_977 rfl ?_
  refine G_iconst (z := 2) dL_law_979 rfl ?_
  refine G_iadd dL_law_980 ?_
  refine G_sld dL_law_981 (by decide) (by omega) (by omega) (by omega) rfl ?_
  refine G_callVM (as := [vi (sx E i 1), vi (sx E i 2)]) (step_most (E2 := E) (v := v) (t := sx E i 1) (u := sx E i 2) (sx_r E i 1) (sx_r E i 2) hR (by omega)) dL_law_982 cv_L_134 im_X11_most sl_X11_most (by decide) sh_0 rfl rfl ⟨Nat.le_of_ble_eq_true rfl, Nat.le_of_ble_eq_true rfl⟩ rfl rfl ⟨by show k ≤ 601024; omega, by show u ≤ 7293034; omega⟩ (Nat.le_of_ble_eq_true rfl) ⟨Nat.zero_le _, by decide⟩ rfl (fun r m1 h => ?_)
  obtain ⟨z, rfl, h⟩ := h
  refine G_aload_n dL_law_985 rfl ?_
  refine G_aload_n dL_law_986 rfl ?_
  refine G_iload dL_law_987 rfl ?_
  refine G_iconst (z := 1) dL_law_989 rfl ?_
  refine G_iadd dL_law_990 ?_
  refine G_sld dL_law_991 (by decide) (by omega) (by omega) (by omega) rfl ?_
  refine G_aload_n dL_law_992 rfl ?_
  refine G_iload dL_law_993 rfl ?_
  refine G_iconst (z := 2) dL_law_995 rfl ?_
  refine G_iadd dL_law_996 ?_
  refine G_sld dL_law_997 (by decide) (by omega) (by omega) (by omega) rfl ?_
  refine G_callVM (as := [vi (sx E i 1), vi (sx E i 2)]) h dL_law_998 cv_L_137 im_X12_most sl_X12_most (by decide) sh_169 rfl rfl ⟨Nat.le_of_ble_eq_true rfl, Nat.le_of_ble_eq_true rfl⟩ rfl rfl ⟨by show k ≤ 601024; omega, by show u ≤ 7293034; omega⟩ (Nat.le_of_ble_eq_true rfl) ⟨Nat.zero_le _, by decide⟩ rfl (fun r m2 g => ?_)
  obtain ⟨z9, rfl, rfl, g⟩ := g
  refine G_eqS (tgt := 1448) dL_law_1001 (by decide) ?_
  exact kk v m2 k u (g.mono (by omega)) (Nat.le_succ _) (by omega)
theorem lc_tipnow {E : Nat × (Nat → Int32)} {tb : List ExceptionTableEntry} {nm : String} {v : (Int → Int) → Int} {B i : Int} {m : Mem} {k u : Nat} (hR : Rel v B m) (hB : B ≤ 800000000) (h0 : 0 ≤ i) (h5 : i + 5 ≤ (E.1 : Int)) (hE : (E.1 : Int) ≤ 2560) (hk : k + 1 ≤ 601024) (hu : u + 6 ≤ 7293034) (kk : LK E tb nm B i k u) : LG E tb nm 1006 (lvi i) [] k u m := by
  refine G_aload_n dL_law_1006 rfl ?_
  refine G_aload_n dL_law_1007 rfl ?_
  refine G_iload dL_law_1008 rfl ?_
  refine G_iconst (z := 1) dL_law_1010 rfl ?_
  refine G_iadd dL_law_1011 ?_
  refine G_sld dL_law_1012 (by decide) (by omega) (by omega) (by omega) rfl ?_
  refine G_callVM (as := [vi (sx E i 1)]) (step_tipnow (E2 := E) (v := v) (s := sx E i 1) (sx_r E i 1) hR (by omega)) dL_law_1013 cv_L_138 im_X11_tipnow sl_X11_tipnow (by decide) sh_0 rfl rfl ⟨Nat.le_of_ble_eq_true rfl, Nat.le_of_ble_eq_true rfl⟩ rfl rfl ⟨by show k ≤ 601024; omega, by show u ≤ 7293034; omega⟩ (Nat.le_of_ble_eq_true rfl) ⟨Nat.zero_le _, by decide⟩ rfl (fun r m1 h => ?_)
  obtain ⟨z, rfl, h⟩ := h
  refine G_aload_n dL_law_1016 rfl ?_
  refine G_aload_n dL_law_1017 rfl ?_
  refine G_iload dL_law_1018 rfl ?_
  refine G_iconst (z := 1) dL_law_1020 rfl ?_
  refine G_iadd dL_law_1021 ?_
  refine G_sld dL_law_1022 (by decide) (by omega) (by omega) (by omega) rfl ?_
  refine G_callVM (as := [vi (sx E i 1)]) h dL_law_1023 cv_L_141 im_X12_tipnow sl_X12_tipnow (by decide) sh_169 rfl rfl ⟨Nat.le_of_ble_eq_true rfl, Nat.le_of_ble_eq_true rfl⟩ rfl rfl ⟨by show k ≤ 601024; omega, by show u ≤ 7293034; omega⟩ (Nat.le_of_ble_eq_true rfl) ⟨Nat.zero_le _, by decide⟩ rfl (fun r m2 g => ?_)
  obtain ⟨z9, rfl, rfl, g⟩ := g
  refine G_eqS (tgt := 1448) dL_law_1026 (by decide) ?_
  exact kk v m2 k u (g.mono (by omega)) (Nat.le_succ _) (by omega)
theorem lc_share {E : Nat × (Nat → Int32)} {tb : List ExceptionTableEntry} {nm : String} {v : (Int → Int) → Int} {B i : Int} {m : Mem} {k u : Nat} (hR : Rel v B m) (hB : B ≤ 800000000) (h0 : 0 ≤ i) (h5 : i + 5 ≤ (E.1 : Int)) (hE : (E.1 : Int) ≤ 2560) (hk : k + 1 ≤ 601024) (hu : u + 6 ≤ 7293034) (kk : LK E tb nm B i k u) : LG E tb nm 1031 (lvi i) [] k u m := by
  refine G_aload_n dL_law_1031 rfl ?_
  refine G_aload_n dL_law_1032 rfl ?_
  refine G_iload dL_law_1033 rfl ?_
  refine G_iconst (z := 1) dL_law_1035 rfl ?_
  refine G_iadd dL_law_1036 ?_
  refine G_sld dL_law_1037 (by decide) (by omega) (by omega) (by omega) rfl ?_
  refine G_callVM (as := [vi (sx E i 1)]) (step_share (E2 := E) (v := v) (t := sx E i 1) (sx_r E i 1) hR (by omega)) dL_law_1038 cv_L_142 im_X11_share sl_X11_share (by decide) sh_0 rfl rfl ⟨Nat.le_of_ble_eq_true rfl, Nat.le_of_ble_eq_true rfl⟩ rfl rfl ⟨by show k ≤ 601024; omega, by show u ≤ 7293034; omega⟩ (Nat.le_of_ble_eq_true rfl) ⟨Nat.zero_le _, by decide⟩ rfl (fun r m1 h => ?_)
  obtain ⟨z, rfl, h⟩ := h
  refine G_aload_n dL_law_1041 rfl ?_
  refine G_aload_n dL_law_1042 rfl ?_
  refine G_iload dL_law_1043 rfl ?_
  refine G_iconst (z := 1) dL_law_1045 rfl ?_
  refine G_iadd dL_law_1046 ?_
  refine G_sld dL_law_1047 (by decide) (by omega) (by omega) (by omega) rfl ?_
  refine G_callVM (as := [vi (sx E i 1)]) h dL_law_1048 cv_L_145 im_X12_share sl_X12_share (by decide) sh_169 rfl rfl ⟨Nat.le_of_ble_eq_true rfl, Nat.le_of_ble_eq_true rfl⟩ rfl rfl ⟨by show k ≤ 601024; omega, by show u ≤ 7293034; omega⟩ (Nat.le_of_ble_eq_true rfl) ⟨Nat.zero_le _, by decide⟩ rfl (fun r m2 g => ?_)
  obtain ⟨z9, rfl, rfl, g⟩ := g
  refine G_eqS (tgt := 1448) dL_law_1051 (by decide) ?_
  exact kk v m2 k u (g.mono (by omega)) (Nat.le_succ _) (by omega)
theorem lc_holiday {E : Nat × (Nat → Int32)} {tb : List ExceptionTableEntry} {nm : String} {v : (Int → Int) → Int} {B i : Int} {m : Mem} {k u : Nat} (hR : Rel v B m) (hB : B ≤ 800000000) (h0 : 0 ≤ i) (h5 : i + 5 ≤ (E.1 : Int)) (hE : (E.1 : Int) ≤ 2560) (hk : k + 1 ≤ 601024) (hu : u + 6 ≤ 7293034) (kk : LK E tb nm B i k u) : LG E tb nm 1056 (lvi i) [] k u m := by
  refine G_aload_n dL_law_1056 rfl ?_
  refine G_aload_n dL_law_1057 rfl ?_
  refine G_iload dL_law_1058 rfl ?_
  refine G_iconst (z := 1) dL_law_1060 rfl ?_
  refine G_iadd dL_law_1061 ?_
  refine G_sld dL_law_1062 (by decide) (by omega) (by omega) (by omega) rfl ?_
  refine G_aload_n dL_law_1063 rfl ?_
  refine G_iload dL_law_1064 rfl ?_
  refine G_iconst (z := 2) dL_law_1066 rfl ?_
  refine G_iadd dL_law_1067 ?_
  refine G_sld dL_law_1068 (by decide) (by omega) (by omega) (by omega) rfl ?_
  refine G_callVM (as := [vi (sx E i 1), vi (sx E i 2)]) (step_holiday (E2 := E) (v := v) (d := sx E i 1) (n := sx E i 2) (sx_r E i 1) (sx_r E i 2) hR (by omega)) dL_law_1069 cv_L_146 im_X11_holiday sl_X11_holiday (by decide) sh_0 rfl rfl ⟨Nat.le_of_ble_eq_true rfl, Nat.le_of_ble_eq_true rfl⟩ rfl rfl ⟨by show k ≤ 601024; omega, by show u ≤ 7293034; omega⟩ (Nat.le_of_ble_eq_true rfl) ⟨Nat.zero_le _, by decide⟩ rfl (fun r m1 h => ?_)
  obtain ⟨z, rfl, h⟩ := h
  refine G_aload_n dL_law_1072 rfl ?_
  refine G_aload_n dL_law_1073 rfl ?_
  refine G_iload dL_law_1074 rfl ?_
  refine G_iconst (z := 1) dL_law_1076 rfl ?_
  refine G_iadd dL_law_1077 ?_
  refine G_sld dL_law_1078 (by decide) (by omega) (by omega) (by omega) rfl ?_
  refine G_aload_n dL_law_1079 rfl ?_
  refine G_iload dL_law_1080 rfl ?_
  refine G_iconst (z := 2) dL_law_1082 rfl ?_
  refine G_iadd dL_law_1083 ?_
  refine G_sld dL_law_1084 (by decide) (by omega) (by omega) (by omega) rfl ?_
  refine G_callVM (as := [vi (sx E i 1), vi (sx E i 2)]) h dL_law_1085 cv_L_149 im_X12_holiday sl_X12_holiday (by decide) sh_169 rfl rfl ⟨Nat.le_of_ble_eq_true rfl, Nat.le_of_ble_eq_true rfl⟩ rfl rfl ⟨by show k ≤ 601024; omega, by show u ≤ 7293034; omega⟩ (Nat.le_of_ble_eq_true rfl) ⟨Nat.zero_le _, by decide⟩ rfl (fun r m2 g => ?_)
  obtain ⟨z9, rfl, rfl, g⟩ := g
  refine G_eqS (tgt := 1448) dL_law_1088 (by decide) ?_
  exact kk v m2 k u (g.mono (by omega)) (Nat.le_succ _) (by omega)
theorem lc_busiest {E : Nat × (Nat → Int32)} {tb : List ExceptionTableEntry} {nm : String} {v : (Int → Int) → Int} {B i : Int} {m : Mem} {k u : Nat} (hR : Rel v B m) (hB : B ≤ 800000000) (h0 : 0 ≤ i) (h5 : i + 5 ≤ (E.1 : Int)) (hE : (E.1 : Int) ≤ 2560) (hk : k + 1 ≤ 601024) (hu : u + 6 ≤ 7293034) (kk : LK E tb nm B i k u) : LG E tb nm 1093 (lvi i) [] k u m := by
  refine G_aload_n dL_law_1093 rfl ?_
  refine G_callVM (as := []) (step_busiest (E2 := E) (v := v) hR (by omega)) dL_law_1094 cv_L_150 im_X11_busiest sl_X11_busiest (by decide) sh_0 rfl rfl ⟨Nat.le_of_ble_eq_true rfl, Nat.le_of_ble_eq_true rfl⟩ rfl rfl ⟨by show k ≤ 601024; omega, by show u ≤ 7293034; omega⟩ (Nat.le_of_ble_eq_true rfl) ⟨Nat.zero_le _, by decide⟩ rfl (fun r m1 h => ?_)
  obtain ⟨z, rfl, h⟩ := h
  refine G_aload_n dL_law_1097 rfl ?_
  refine G_callVM (as := []) h dL_law_1098 cv_L_153 im_X12_busiest sl_X12_busiest (by decide) sh_169 rfl rfl ⟨Nat.le_of_ble_eq_true rfl, Nat.le_of_ble_eq_true rfl⟩ rfl rfl ⟨by show k ≤ 601024; omega, by show u ≤ 7293034; omega⟩ (Nat.le_of_ble_eq_true rfl) ⟨Nat.zero_le _, by decide⟩ rfl (fun r m2 g => ?_)
  obtain ⟨z9, rfl, rfl, g⟩ := g
  refine G_eqS (tgt := 1448) dL_law_1101 (by decide) ?_
  exact kk v m2 k u (g.mono (by omega)) (Nat.le_succ _) (by omega)
theorem lc_weighed {E : Nat × (Nat → Int32)} {tb : List ExceptionTableEntry} {nm : String} {v : (Int → Int) → Int} {B i : Int} {m : Mem} {k u : Nat} (hR : Rel v B m) (hB : B ≤ 800000000) (h0 : 0 ≤ i) (h5 : i + 5 ≤ (E.1 : Int)) (hE : (E.1 : Int) ≤ 2560) (hk : k + 1 ≤ 601024) (hu : u + 6 ≤ 7293034) (kk : LK E tb nm B i k u) : LG E tb nm 1106 (lvi i) [] k u m := by
  refine G_aload_n dL_law_1106 rfl ?_
  refine G_aload_n dL_law_1107 rfl ?_
  refine G_iload dL_law_1108 rfl ?_
  refine G_iconst (z := 1) dL_law_1110 rfl ?_
  refine G_iadd dL_law_1111 ?_
  refine G_sld dL_law_1112 (by decide) (by omega) (by omega) (by omega) rfl ?_
  refine G_aload_n dL_law_1113 rfl ?_
  refine G_iload dL_law_1114 rfl ?_
  refine G_iconst (z := 2) dL_law_1116 rfl ?_
  refine G_iadd dL_law_1117 ?_
  refine G_sld dL_law_1118 (by decide) (by omega) (by omega) (by omega) rfl ?_
  refine G_callVM (as := [vi (sx E i 1), vi (sx E i 2)]) (step_weighed (E2 := E) (v := v) (s := sx E i 1) (x := sx E i 2) (sx_r E i 1) (sx_r E i 2) hR) dL_law_1119 cv_L_154 im_X11_weighed sl_X11_weighed (by decide) sh_0 rfl rfl ⟨Nat.le_of_ble_eq_true rfl, Nat.le_of_ble_eq_true rfl⟩ rfl rfl ⟨by show k ≤ 601024; omega, by show u ≤ 7293034; omega⟩ (Nat.le_of_ble_eq_true rfl) ⟨Nat.zero_le _, by decide⟩ rfl (fun r m1 h => ?_)
  obtain ⟨z, rfl, h⟩ := h
  refine G_aload_n dL_law_1122 rfl ?_
  refine G_aload_n dL_law_1123 rfl ?_
  refine G_iload dL_law_1124 rfl ?_
  refine G_iconst (z := 1) dL_law_1126 rfl ?_
  refine G_iadd dL_law_1127 ?_
  refine G_sld dL_law_1128 (by decide) (by omega) (by omega) (by omega) rfl ?_
  refine G_aload_n dL_law_1129 rfl ?_
  refine G_iload dL_law_1130 rfl ?_
  refine G_iconst (z := 2) dL_law_1132 rfl ?_
  refine G_iadd dL_law_1133 ?_
  refine G_sld dL_law_1134 (by decide) (by omega) (by omega) (by omega) rfl ?_
  refine G_callVM (as := [vi (sx E i 1), vi (sx E i 2)]) h dL_law_1135 cv_L_157 im_X12_weighed sl_X12_weighed (by decide) sh_169 rfl rfl ⟨Nat.le_of_ble_eq_true rfl, Nat.le_of_ble_eq_true rfl⟩ rfl rfl ⟨by show k ≤ 601024; omega, by show u ≤ 7293034; omega⟩ (Nat.le_of_ble_eq_true rfl) ⟨Nat.zero_le _, by decide⟩ rfl (fun r m2 g => ?_)
  obtain ⟨z9, rfl, rfl, g⟩ := g
  refine G_eqS (tgt := 1448) dL_law_1138 (by decide) ?_
  exact kk v m2 k u (g.mono (by omega)) (Nat.le_succ _) (by omega)
theorem lc_forget {E : Nat × (Nat → Int32)} {tb : List ExceptionTableEntry} {nm : String} {v : (Int → Int) → Int} {B i : Int} {m : Mem} {k u : Nat} (hR : Rel v B m) (hB : B ≤ 800000000) (h0 : 0 ≤ i) (h5 : i + 5 ≤ (E.1 : Int)) (hE : (E.1 : Int) ≤ 2560) (hk : k + 1 ≤ 601024) (hu : u + 6 ≤ 7293034) (kk : LK E tb nm B i k u) : LG E tb nm 1143 (lvi i) [] k u m := by
  refine G_aload_n dL_law_1143 rfl ?_
  refine G_callVM (as := []) (step_forget (E2 := E) (v := v) hR) dL_law_1144 cv_L_158 im_X11_forget sl_X11_forget (by decide) sh_0 rfl rfl ⟨Nat.le_of_ble_eq_true rfl, Nat.le_of_ble_eq_true rfl⟩ rfl rfl ⟨by show k ≤ 601024; omega, by show u ≤ 7293034; omega⟩ (Nat.le_of_ble_eq_true rfl) ⟨Nat.zero_le _, by decide⟩ rfl (fun r m1 h => ?_)
  obtain ⟨z, rfl, h⟩ := h
  refine G_aload_n dL_law_1147 rfl ?_
  refine G_callVM (as := []) h dL_law_1148 cv_L_161 im_X12_forget sl_X12_forget (by decide) sh_169 rfl rfl ⟨Nat.le_of_ble_eq_true rfl, Nat.le_of_ble_eq_true rfl⟩ rfl rfl ⟨by show k ≤ 601024; omega, by show u ≤ 7293034; omega⟩ (Nat.le_of_ble_eq_true rfl) ⟨Nat.zero_le _, by decide⟩ rfl (fun r m2 g => ?_)
  obtain ⟨z9, rfl, rfl, g⟩ := g
  refine G_eqS (tgt := 1448) dL_law_1151 (by decide) ?_
  exact kk v m2 k u (g.mono (by omega)) (Nat.le_succ _) (by omega)
theorem lc_rubble {E : Nat × (Nat → Int32)} {tb : List ExceptionTableEntry} {nm : String} {v : (Int → Int) → Int} {B i : Int} {m : Mem} {k u : Nat} (hR : Rel v B m) (hB : B ≤ 800000000) (h0 : 0 ≤ i) (h5 : i + 5 ≤ (E.1 : Int)) (hE : (E.1 : Int) ≤ 2560) (hk : k + 1 ≤ 601024) (hu : u + 6 ≤ 7293034) (kk : LK E tb nm B i k u) : LG E tb nm 1156 (lvi i) [] k u m := by
  refine G_aload_n dL_law_1156 rfl ?_
  refine G_callVM (as := []) (step_rubble (E2 := E) (v := v) hR (by omega)) dL_law_1157 cv_L_162 im_X11_rubble sl_X11_rubble (by decide) sh_0 rfl rfl ⟨Nat.le_of_ble_eq_true rfl, Nat.le_of_ble_eq_true rfl⟩ rfl rfl ⟨by show k ≤ 601024; omega, by show u ≤ 7293034; omega⟩ (Nat.le_of_ble_eq_true rfl) ⟨Nat.zero_le _, by decide⟩ rfl (fun r m1 h => ?_)
  obtain ⟨z, rfl, h⟩ := h
  refine G_aload_n dL_law_1160 rfl ?_
  refine G_callVM (as := []) h dL_law_1161 cv_L_165 im_X12_rubble sl_X12_rubble (by decide) sh_169 rfl rfl ⟨Nat.le_of_ble_eq_true rfl, Nat.le_of_ble_eq_true rfl⟩ rfl rfl ⟨by show k ≤ 601024; omega, by show u ≤ 7293034; omega⟩ (Nat.le_of_ble_eq_true rfl) ⟨Nat.zero_le _, by decide⟩ rfl (fun r m2 g => ?_)
  obtain ⟨z9, rfl, rfl, g⟩ := g
  refine G_eqS (tgt := 1448) dL_law_1164 (by decide) ?_
  exact kk v m2 k u (g.mono (by omega)) (Nat.le_succ _) (by omega)
theorem lc_whose {E : Nat × (Nat → Int32)} {tb : List ExceptionTableEntry} {nm : String} {v : (Int → Int) → Int} {B i : Int} {m : Mem} {k u : Nat} (hR : Rel v B m) (hB : B ≤ 800000000) (h0 : 0 ≤ i) (h5 : i + 5 ≤ (E.1 : Int)) (hE : (E.1 : Int) ≤ 2560) (hk : k + 1 ≤ 601024) (hu : u + 6 ≤ 7293034) (kk : LK E tb nm B i k u) : LG E tb nm 1169 (lvi i) [] k u m := by
  refine G_aload_n dL_law_1169 rfl ?_
  refine G_callVM (as := []) (step_whose (E2 := E) (v := v) hR (by omega)) dL_law_1170 cv_L_166 im_X11_whose sl_X11_whose (by decide) sh_0 rfl rfl ⟨Nat.le_of_ble_eq_true rfl, Nat.le_of_ble_eq_true rfl⟩ rfl rfl ⟨by show k ≤ 601024; omega, by show u ≤ 7293034; omega⟩ (Nat.le_of_ble_eq_true rfl) ⟨Nat.zero_le _, by decide⟩ rfl (fun r m1 h => ?_)
  obtain ⟨z, rfl, h⟩ := h
  refine G_aload_n dL_law_1173 rfl ?_
  refine G_callVM (as := []) h dL_law_1174 cv_L_169 im_X12_whose sl_X12_whose (by decide) sh_169 rfl rfl ⟨Nat.le_of_ble_eq_true rfl, Nat.le_of_ble_eq_true rfl⟩ rfl rfl ⟨by show k ≤ 601024; omega, by show u ≤ 7293034; omega⟩ (Nat.le_of_ble_eq_true rfl) ⟨Nat.zero_le _, by decide⟩ rfl (fun r m2 g => ?_)
  obtain ⟨z9, rfl, rfl, g⟩ := g
  refine G_eqS (tgt := 1448) dL_law_1177 (by decide) ?_
  exact kk v m2 k u (g.mono (by omega)) (Nat.le_succ _) (by omega)
theorem lc_next {E : Nat × (Nat → Int32)} {tb : List ExceptionTableEntry} {nm : String} {v : (Int → Int) → Int} {B i : Int} {m : Mem} {k u : Nat} (hR : Rel v B m) (hB : B ≤ 800000000) (h0 : 0 ≤ i) (h5 : i + 5 ≤ (E.1 : Int)) (hE : (E.1 : Int) ≤ 2560) (hk : k + 1 ≤ 601024) (hu : u + 6 ≤ 7293034) (kk : LK E tb nm B i k u) : LG E tb nm 1182 (lvi i) [] k u m := by
  refine G_aload_n dL_law_1182 rfl ?_
  refine G_callVM (as := []) (step_next (E2 := E) (v := v) hR (by omega)) dL_law_1183 cv_L_170 im_X11_next sl_X11_next (by decide) sh_0 rfl rfl ⟨Nat.le_of_ble_eq_true rfl, Nat.le_of_ble_eq_true rfl⟩ rfl rfl ⟨by show k ≤ 601024; omega, by show u ≤ 7293034; omega⟩ (Nat.le_of_ble_eq_true rfl) ⟨Nat.zero_le _, by decide⟩ rfl (fun r m1 h => ?_)
  obtain ⟨z, rfl, h⟩ := h
  refine G_aload_n dL_law_1186 rfl ?_
  refine G_callVM (as := []) h dL_law_1187 cv_L_173 im_X12_next sl_X12_next (by decide) sh_169 rfl rfl ⟨Nat.le_of_ble_eq_true rfl, Nat.le_of_ble_eq_true rfl⟩ rfl rfl ⟨by show k ≤ 601024; omega, by show u ≤ 7293034; omega⟩ (Nat.le_of_ble_eq_true rfl) ⟨Nat.zero_le _, by decide⟩ rfl (fun r m2 g => ?_)
  obtain ⟨z9, rfl, rfl, g⟩ := g
  refine G_eqS (tgt := 1448) dL_law_1190 (by decide) ?_
  exact kk v m2 k u (g.mono (by omega)) (Nat.le_succ _) (by omega)
theorem lc_right {E : Nat × (Nat → Int32)} {tb : List ExceptionTableEntry} {nm : String} {v : (Int → Int) → Int} {B i : Int} {m : Mem} {k u : Nat} (hR : Rel v B m) (hB : B ≤ 800000000) (h0 : 0 ≤ i) (h5 : i + 5 ≤ (E.1 : Int)) (hE : (E.1 : Int) ≤ 2560) (hk : k + 1 ≤ 601024) (hu : u + 6 ≤ 7293034) (kk : LK E tb nm B i k u) : LG E tb nm 1195 (lvi i) [] k u m := by
  refine G_aload_n dL_law_1195 rfl ?_
  refine G_aload_n dL_law_1196 rfl ?_
  refine G_iload dL_law_1197 rfl ?_
  refine G_iconst (z := 1) dL_law_1199 rfl ?_
  refine G_iadd dL_law_1200 ?_
  refine G_sld dL_law_1201 (by decide) (by omega) (by omega) (by omega) rfl ?_
  refine G_aload_n dL_law_1202 rfl ?_
  refine G_iload dL_law_1203 rfl ?_
  refine G_iconst (z := 2) dL_law_1205 rfl ?_
  refine G_iadd dL_law_1206 ?_
  refine G_sld dL_law_1207 (by decide) (by omega) (by omega) (by omega) rfl ?_
  refine G_callVM (as := [vi (sx E i 1), vi (sx E i 2)]) (step_right (E2 := E) (v := v) (s := sx E i 1) (p := sx E i 2) (sx_r E i 1) (sx_r E i 2) hR (by omega)) dL_law_1208 cv_L_174 im_X11_right sl_X11_right (by decide) sh_0 rfl rfl ⟨Nat.le_of_ble_eq_true rfl, Nat.le_of_ble_eq_true rfl⟩ rfl rfl ⟨by show k ≤ 601024; omega, by show u ≤ 7293034; omega⟩ (Nat.le_of_ble_eq_true rfl) ⟨Nat.zero_le _, by decide⟩ rfl (fun r m1 h => ?_)
  obtain ⟨z, rfl, h⟩ := h
  refine G_aload_n dL_law_1211 rfl ?_
  refine G_aload_n dL_law_1212 rfl ?_
  refine G_iload dL_law_1213 rfl ?_
  refine G_iconst (z := 1) dL_law_1215 rfl ?_
  refine G_iadd dL_law_1216 ?_
  refine G_sld dL_law_1217 (by decide) (by omega) (by omega) (by omega) rfl ?_
  refine G_aload_n dL_law_1218 rfl ?_
  refine G_iload dL_law_1219 rfl ?_
  refine G_iconst (z := 2) dL_law_1221 rfl ?_
  refine G_iadd dL_law_1222 ?_
  refine G_sld dL_law_1223 (by decide) (by omega) (by omega) (by omega) rfl ?_
  refine G_callVM (as := [vi (sx E i 1), vi (sx E i 2)]) h dL_law_1224 cv_L_177 im_X12_right sl_X12_right (by decide) sh_169 rfl rfl ⟨Nat.le_of_ble_eq_true rfl, Nat.le_of_ble_eq_true rfl⟩ rfl rfl ⟨by show k ≤ 601024; omega, by show u ≤ 7293034; omega⟩ (Nat.le_of_ble_eq_true rfl) ⟨Nat.zero_le _, by decide⟩ rfl (fun r m2 g => ?_)
  obtain ⟨z9, rfl, rfl, g⟩ := g
  refine G_eqS (tgt := 1448) dL_law_1227 (by decide) ?_
  exact kk v m2 k u (g.mono (by omega)) (Nat.le_succ _) (by omega)
theorem lc_care {E : Nat × (Nat → Int32)} {tb : List ExceptionTableEntry} {nm : String} {v : (Int → Int) → Int} {B i : Int} {m : Mem} {k u : Nat} (hR : Rel v B m) (hB : B ≤ 800000000) (h0 : 0 ≤ i) (h5 : i + 5 ≤ (E.1 : Int)) (hE : (E.1 : Int) ≤ 2560) (hk : k + 1 ≤ 601024) (hu : u + 6 ≤ 7293034) (kk : LK E tb nm B i k u) : LG E tb nm 1232 (lvi i) [] k u m := by
  refine G_aload_n dL_law_1232 rfl ?_
  refine G_aload_n dL_law_1233 rfl ?_
  refine G_iload dL_law_1234 rfl ?_
  refine G_iconst (z := 1) dL_law_1236 rfl ?_
  refine G_iadd dL_law_1237 ?_
  refine G_sld dL_law_1238 (by decide) (by omega) (by omega) (by omega) rfl ?_
  refine G_aload_n dL_law_1239 rfl ?_
  refine G_iload dL_law_1240 rfl ?_
  refine G_iconst (z := 2) dL_law_1242 rfl ?_
  refine G_iadd dL_law_1243 ?_
  refine G_sld dL_law_1244 (by decide) (by omega) (by omega) (by omega) rfl ?_
  refine G_callVM (as := [vi (sx E i 1), vi (sx E i 2)]) (step_care (E2 := E) (v := v) (s := sx E i 1) (x := sx E i 2) (sx_r E i 1) (sx_r E i 2) hR (by omega)) dL_law_1245 cv_L_178 im_X11_care sl_X11_care (by decide) sh_0 rfl rfl ⟨Nat.le_of_ble_eq_true rfl, Nat.le_of_ble_eq_true rfl⟩ rfl rfl ⟨by show k ≤ 601024; omega, by show u ≤ 7293034; omega⟩ (Nat.le_of_ble_eq_true rfl) ⟨Nat.zero_le _, by decide⟩ rfl (fun r m1 h => ?_)
  obtain ⟨z, rfl, h⟩ := h
  refine G_aload_n dL_law_1248 rfl ?_
  refine G_aload_n dL_law_1249 rfl ?_
  refine G_iload dL_law_1250 rfl ?_
  refine G_iconst (z := 1) dL_law_1252 rfl ?_
  refine G_iadd dL_law_1253 ?_
  refine G_sld dL_law_1254 (by decide) (by omega) (by omega) (by omega) rfl ?_
  refine G_aload_n dL_law_1255 rfl ?_
  refine G_iload dL_law_1256 rfl ?_
  refine G_iconst (z := 2) dL_law_1258 rfl ?_
  refine G_iadd dL_law_1259 ?_
  refine G_sld dL_law_1260 (by decide) (by omega) (by omega) (by omega) rfl ?_
  refine G_callVM (as := [vi (sx E i 1), vi (sx E i 2)]) h dL_law_1261 cv_L_181 im_X12_care sl_X12_care (by decide) sh_169 rfl rfl ⟨Nat.le_of_ble_eq_true rfl, Nat.le_of_ble_eq_true rfl⟩ rfl rfl ⟨by show k ≤ 601024; omega, by show u ≤ 7293034; omega⟩ (Nat.le_of_ble_eq_true rfl) ⟨Nat.zero_le _, by decide⟩ rfl (fun r m2 g => ?_)
  obtain ⟨z9, rfl, rfl, g⟩ := g
  refine G_eqS (tgt := 1448) dL_law_1264 (by decide) ?_
  exact kk v m2 k u (g.mono (by omega)) (Nat.le_succ _) (by omega)
theorem lc_weeks {E : Nat × (Nat → Int32)} {tb : List ExceptionTableEntry} {nm : String} {v : (Int → Int) → Int} {B i : Int} {m : Mem} {k u : Nat} (hR : Rel v B m) (hB : B ≤ 800000000) (h0 : 0 ≤ i) (h5 : i + 5 ≤ (E.1 : Int)) (hE : (E.1 : Int) ≤ 2560) (hk : k + 1 ≤ 601024) (hu : u + 6 ≤ 7293034) (kk : LK E tb nm B i k u) : LG E tb nm 1269 (lvi i) [] k u m := by
  refine G_aload_n dL_law_1269 rfl ?_
  refine G_aload_n dL_law_1270 rfl ?_
  refine G_iload dL_law_1271 rfl ?_
  refine G_iconst (z := 1) dL_law_1273 rfl ?_
  refine G_iadd dL_law_1274 ?_
  refine G_sld dL_law_1275 (by decide) (by omega) (by omega) (by omega) rfl ?_
  refine G_aload_n dL_law_1276 rfl ?_
  refine G_iload dL_law_1277 rfl ?_
  refine G_iconst (z := 2) dL_law_1279 rfl ?_
  refine G_iadd dL_law_1280 ?_
  refine G_sld dL_law_1281 (by decide) (by omega) (by omega) (by omega) rfl ?_
  refine G_aload_n dL_law_1282 rfl ?_
  refine G_iload dL_law_1283 rfl ?_
  refine G_iconst (z := 3) dL_law_1285 rfl ?_
  refine G_iadd dL_law_1286 ?_
  refine G_sld dL_law_1287 (by decide) (by omega) (by omega) (by omega) rfl ?_
  refine G_callVM (as := [vi (sx E i 1), vi (sx E i 2), vi (sx E i 3)]) (step_weeks (E2 := E) (v := v) (x := sx E i 1) (n := sx E i 2) (p := sx E i 3) (sx_r E i 2) (sx_r E i 3) hR) dL_law_1288 cv_L_182 im_X11_weeks sl_X11_weeks (by decide) sh_0 rfl rfl ⟨Nat.le_of_ble_eq_true rfl, Nat.le_of_ble_eq_true rfl⟩ rfl rfl ⟨by show k ≤ 601024; omega, by show u ≤ 7293034; omega⟩ (Nat.le_of_ble_eq_true rfl) ⟨Nat.zero_le _, by decide⟩ rfl (fun r m1 h => ?_)
  obtain ⟨z, rfl, h⟩ := h
  refine G_aload_n dL_law_1291 rfl ?_
  refine G_aload_n dL_law_1292 rfl ?_
  refine G_iload dL_law_1293 rfl ?_
  refine G_iconst (z := 1) dL_law_1295 rfl ?_
  refine G_iadd dL_law_1296 ?_
  refine G_sld dL_law_1297 (by decide) (by omega) (by omega) (by omega) rfl ?_
  refine G_aload_n dL_law_1298 rfl ?_
  refine G_iload dL_law_1299 rfl ?_
  refine G_iconst (z := 2) dL_law_1301 rfl ?_
  refine G_iadd dL_law_1302 ?_
  refine G_sld dL_law_1303 (by decide) (by omega) (by omega) (by omega) rfl ?_
  refine G_aload_n dL_law_1304 rfl ?_
  refine G_iload dL_law_1305 rfl ?_
  refine G_iconst (z := 3) dL_law_1307 rfl ?_
  refine G_iadd dL_law_1308 ?_
  refine G_sld dL_law_1309 (by decide) (by omega) (by omega) (by omega) rfl ?_
  refine G_callVM (as := [vi (sx E i 1), vi (sx E i 2), vi (sx E i 3)]) h dL_law_1310 cv_L_186 im_X12_weeks sl_X12_weeks (by decide) sh_169 rfl rfl ⟨Nat.le_of_ble_eq_true rfl, Nat.le_of_ble_eq_true rfl⟩ rfl rfl ⟨by show k ≤ 601024; omega, by show u ≤ 7293034; omega⟩ (Nat.le_of_ble_eq_true rfl) ⟨Nat.zero_le _, by decide⟩ rfl (fun r m2 g => ?_)
  obtain ⟨z9, rfl, rfl, g⟩ := g
  refine G_eqS (tgt := 1448) dL_law_1313 (by decide) ?_
  exact kk v m2 k u (g.mono (by omega)) (Nat.le_succ _) (by omega)
theorem lc_keep {E : Nat × (Nat → Int32)} {tb : List ExceptionTableEntry} {nm : String} {v : (Int → Int) → Int} {B i : Int} {m : Mem} {k u : Nat} (hR : Rel v B m) (hB : B ≤ 800000000) (h0 : 0 ≤ i) (h5 : i + 5 ≤ (E.1 : Int)) (hE : (E.1 : Int) ≤ 2560) (hk : k + 1 ≤ 601024) (hu : u + 6 ≤ 7293034) (kk : LK E tb nm B i k u) : LG E tb nm 1318 (lvi i) [] k u m := by
  refine G_aload_n dL_law_1318 rfl ?_
  refine G_aload_n dL_law_1319 rfl ?_
  refine G_iload dL_law_1320 rfl ?_
  refine G_iconst (z := 1) dL_law_1322 rfl ?_
  refine G_iadd dL_law_1323 ?_
  refine G_sld dL_law_1324 (by decide) (by omega) (by omega) (by omega) rfl ?_
  refine G_callVM (as := [vi (sx E i 1)]) (step_keep (E2 := E) (v := v) (i := sx E i 1) (sx_r E i 1) hR) dL_law_1325 cv_L_187 im_X11_keep sl_X11_keep (by decide) sh_0 rfl rfl ⟨Nat.le_of_ble_eq_true rfl, Nat.le_of_ble_eq_true rfl⟩ rfl rfl ⟨by show k ≤ 601024; omega, by show u ≤ 7293034; omega⟩ (Nat.le_of_ble_eq_true rfl) ⟨Nat.zero_le _, by decide⟩ rfl (fun r m1 h => ?_)
  obtain ⟨z, rfl, h⟩ := h
  refine G_aload_n dL_law_1328 rfl ?_
  refine G_aload_n dL_law_1329 rfl ?_
  refine G_iload dL_law_1330 rfl ?_
  refine G_iconst (z := 1) dL_law_1332 rfl ?_
  refine G_iadd dL_law_1333 ?_
  refine G_sld dL_law_1334 (by decide) (by omega) (by omega) (by omega) rfl ?_
  refine G_callVM (as := [vi (sx E i 1)]) h dL_law_1335 cv_L_190 im_X12_keep sl_X12_keep (by decide) sh_169 rfl rfl ⟨Nat.le_of_ble_eq_true rfl, Nat.le_of_ble_eq_true rfl⟩ rfl rfl ⟨by show k ≤ 601024; omega, by show u ≤ 7293034; omega⟩ (Nat.le_of_ble_eq_true rfl) ⟨Nat.zero_le _, by decide⟩ rfl (fun r m2 g => ?_)
  obtain ⟨z9, rfl, rfl, g⟩ := g
  refine G_eqS (tgt := 1448) dL_law_1338 (by decide) ?_
  exact kk v m2 k u (g.mono (by omega)) (Nat.le_succ _) (by omega)
theorem lc_again {E : Nat × (Nat → Int32)} {tb : List ExceptionTableEntry} {nm : String} {v : (Int → Int) → Int} {B i : Int} {m : Mem} {k u : Nat} (hR : Rel v B m) (hB : B ≤ 800000000) (h0 : 0 ≤ i) (h5 : i + 5 ≤ (E.1 : Int)) (hE : (E.1 : Int) ≤ 2560) (hk : k + 1 ≤ 601024) (hu : u + 6 ≤ 7293034) (kk : LK E tb nm B i k u) : LG E tb nm 1343 (lvi i) [] k u m := by
  refine G_aload_n dL_law_1343 rfl ?_
  refine G_aload_n dL_law_1344 rfl ?_
  refine G_iload dL_law_1345 rfl ?_
  refine G_iconst (z := 1) dL_law_1347 rfl ?_
  refine G_iadd dL_law_1348 ?_
  refine G_sld dL_law_1349 (by decide) (by omega) (by omega) (by omega) rfl ?_
  refine G_callVM (as := [vi (sx E i 1)]) (step_again (E2 := E) (v := v) (i := sx E i 1) (sx_r E i 1) hR (by omega)) dL_law_1350 cv_L_191 im_X11_again sl_X11_again (by decide) sh_0 rfl rfl ⟨Nat.le_of_ble_eq_true rfl, Nat.le_of_ble_eq_true rfl⟩ rfl rfl ⟨by show k ≤ 601024; omega, by show u ≤ 7293034; omega⟩ (Nat.le_of_ble_eq_true rfl) ⟨Nat.zero_le _, by decide⟩ rfl (fun r m1 h => ?_)
  obtain ⟨z, rfl, h⟩ := h
  refine G_aload_n dL_law_1353 rfl ?_
  refine G_aload_n dL_law_1354 rfl ?_
  refine G_iload dL_law_1355 rfl ?_
  refine G_iconst (z := 1) dL_law_1357 rfl ?_
  refine G_iadd dL_law_1358 ?_
  refine G_sld dL_law_1359 (by decide) (by omega) (by omega) (by omega) rfl ?_
  refine G_callVM (as := [vi (sx E i 1)]) h dL_law_1360 cv_L_194 im_X12_again sl_X12_again (by decide) sh_169 rfl rfl ⟨Nat.le_of_ble_eq_true rfl, Nat.le_of_ble_eq_true rfl⟩ rfl rfl ⟨by show k ≤ 601024; omega, by show u ≤ 7293034; omega⟩ (Nat.le_of_ble_eq_true rfl) ⟨Nat.zero_le _, by decide⟩ rfl (fun r m2 g => ?_)
  obtain ⟨z9, rfl, rfl, g⟩ := g
  refine G_eqS (tgt := 1448) dL_law_1363 (by decide) ?_
  exact kk v m2 k u (g.mono (by omega)) (Nat.le_succ _) (by omega)
theorem lc_count {E : Nat × (Nat → Int32)} {tb : List ExceptionTableEntry} {nm : String} {v : (Int → Int) → Int} {B i : Int} {m : Mem} {k u : Nat} (hR : Rel v B m) (hB : B ≤ 800000000) (h0 : 0 ≤ i) (h5 : i + 5 ≤ (E.1 : Int)) (hE : (E.1 : Int) ≤ 2560) (hk : k + 1 ≤ 601024) (hu : u + 6 ≤ 7293034) (kk : LK E tb nm B i k u) : LG E tb nm 1368 (lvi i) [] k u m := by
  refine G_aload_n dL_law_1368 rfl ?_
  refine G_aload_n dL_law_1369 rfl ?_
  refine G_iload dL_law_1370 rfl ?_
  refine G_iconst (z := 1) dL_law_1372 rfl ?_
  refine G_iadd dL_law_1373 ?_
  refine G_sld dL_law_1374 (by decide) (by omega) (by omega) (by omega) rfl ?_
  refine G_callVM (as := [vi (sx E i 1)]) (step_count (E2 := E) (v := v) (s := sx E i 1) (sx_r E i 1) hR) dL_law_1375 cv_L_195 im_X11_count sl_X11_count (by decide) sh_0 rfl rfl ⟨Nat.le_of_ble_eq_true rfl, Nat.le_of_ble_eq_true rfl⟩ rfl rfl ⟨by show k ≤ 601024; omega, by show u ≤ 7293034; omega⟩ (Nat.le_of_ble_eq_true rfl) ⟨Nat.zero_le _, by decide⟩ rfl (fun r m1 h => ?_)
  obtain ⟨z, rfl, h⟩ := h
  refine G_aload_n dL_law_1378 rfl ?_
  refine G_aload_n dL_law_1379 rfl ?_
  refine G_iload dL_law_1380 rfl ?_
  refine G_iconst (z := 1) dL_law_1382 rfl ?_
  refine G_iadd dL_law_1383 ?_
  refine G_sld dL_law_1384 (by decide) (by omega) (by omega) (by omega) rfl ?_
  refine G_callVM (as := [vi (sx E i 1)]) h dL_law_1385 cv_L_198 im_X12_count sl_X12_count (by decide) sh_169 rfl rfl ⟨Nat.le_of_ble_eq_true rfl, Nat.le_of_ble_eq_true rfl⟩ rfl rfl ⟨by show k ≤ 601024; omega, by show u ≤ 7293034; omega⟩ (Nat.le_of_ble_eq_true rfl) ⟨Nat.zero_le _, by decide⟩ rfl (fun r m2 g => ?_)
  obtain ⟨z9, rfl, rfl, g⟩ := g
  refine G_eqS (tgt := 1448) dL_law_1388 (by decide) ?_
  exact kk v m2 k u (g.mono (by omega)) (Nat.le_succ _) (by omega)
