/-! the class goes over what is laid out -/
def Laid (o : Nat) (a : Mem) (v : (Int → Int) → Int) (s how bits hill men : Int) (m : Mem) : Prop :=
  m o 7 = men ∧ m o 8 = hill ∧ m o 9 = a 179 4 ∧ m o 10 = cntN bits (a 172 s) how (2 * a 172 s).toNat ∧ m o 11 = movesR a s how ∧ m o 12 = wouldN a s bits (a 172 s) how (2 * a 172 s).toNat ∧
  ∀ j : Nat, j < (2 * a 172 s).toNat → tb bits (houseN (a 172 s) how j) = true → m (o + 2) (cntN bits (a 172 s) how j) = houseN (a 172 s) how j ∧ m (o + 3) (cntN bits (a 172 s) how j) = hv a (16 * s + houseN (a 172 s) how j) (a 179 2) ∧ m (o + 4) (cntN bits (a 172 s) how j) = takeN a v s how hill men (houseN (a 172 s) how j)
theorem Laid.fr {o : Nat} {a : Mem} {v : (Int → Int) → Int} {s how bits hill men : Int} {m m' : Mem} (h : Laid o a v s how bits hill men m) (e0 : ∀ x : Int, 7 ≤ x → x < 13 → m' o x = m o x) (e : ∀ q, o < q → q < o + 5 → m' q = m q) : Laid o a v s how bits hill men m' := by
  obtain ⟨h1, h2, h3, h4, h5, h6, h7⟩ := h
  refine ⟨by rw [e0 _ (by decide) (by decide)]; exact h1, by rw [e0 _ (by decide) (by decide)]; exact h2, by rw [e0 _ (by decide) (by decide)]; exact h3, by rw [e0 _ (by decide) (by decide)]; exact h4, by rw [e0 _ (by decide) (by decide)]; exact h5, by rw [e0 _ (by decide) (by decide)]; exact h6, fun j hj t => ?_⟩
  rw [e (o + 2) (by omega) (by omega), e (o + 3) (by omega) (by omega), e (o + 4) (by omega) (by omega)]
  exact h7 j hj t
theorem Laid.of {o : Nat} {a : Mem} {v : (Int → Int) → Int} {s how bits : Int} {c c1 c' : Mem} (h : LayI o a v s how bits (a 172 s) (c o 8) (c o 7) c c1 (2 * a 172 s).toNat) (e : c' = up2 c1 o 11 (movesR a s how)) : Laid o a v s how bits (c o 8) (c o 7) c' := by
  subst e
  obtain ⟨h1, h2, h3, h4, h5, h6, h7⟩ := h
  refine ⟨?_, ?_, ?_, ?_, up2_same _ _ _ _, ?_, fun j hj t => ?_⟩
  · rw [up2_j (by decide)]; exact h7 7 (by decide) (by decide) (by decide) (by decide)
  · rw [up2_j (by decide)]; exact h7 8 (by decide) (by decide) (by decide) (by decide)
  · rw [up2_j (by decide)]; exact h2
  · rw [up2_j (by decide)]; exact h1
  · rw [up2_j (by decide)]; exact h3
  · rw [up2_k (by omega), up2_k (by omega), up2_k (by omega)]; exact h4 j hj t
/-- what stands in the job after going -/
def Gone (o : Nat) (s bits men : Int) (x : Int → Int) (m m' : Mem) : Prop :=
  Small (m' o 14) ∧ Small (m' o 15) ∧ (∀ h : Int, 0 ≤ h → h < 16 → tb (m' o 14) h = (tb bits h && (x (16 * s + h) == 2)) ∧ tb (m' o 15) h = (tb bits h && (x (16 * s + h) == 3))) ∧ pop (m' o 14) = x 134 ∧ pop (m' o 15) = x 135 ∧ m' o 16 = x 136 ∧ m' o 17 = m o 10 - (x 134 + x 135) ∧ m' o 18 = handsP men (x 132) ∧ (∀ q, q ≠ o → m' q = m q) ∧ ∀ j : Int, j < 14 ∨ 18 < j → m' o j = m o j
def GoI (o : Nat) (s bits load : Int) (x : Int → Int) (q : Int) (m m1 : Mem) : Prop :=
  x 137 = 0 ∧ x 96 = load + x 136 ∧ q = x 134 + x 135 ∧ Small (m1 o 14) ∧ Small (m1 o 15) ∧ (∀ h : Int, 0 ≤ h → h < 16 → tb (m1 o 14) h = (tb bits h && (x (16 * s + h) == 2)) ∧ tb (m1 o 15) h = (tb bits h && (x (16 * s + h) == 3))) ∧ pop (m1 o 14) = x 134 ∧ pop (m1 o 15) = x 135 ∧ m1 o 16 = x 136 ∧ (∀ q, q ≠ o → m1 q = m q) ∧ ∀ j : Int, j < 14 ∨ 16 < j → m1 o j = m o j
theorem GoI.fin {o : Nat} {s bits load men q : Int} {x y : Int → Int} {m m1 : Mem} (s6 : s < 6) (h : GoI o s bits load x q m m1) (hy : ∀ b : Int, b ≠ 137 → y b = x b) (hm : m o 7 = men) (m1' : 1 ≤ men) : Gone o s bits men y m (up2 (up2 m1 o 17 (m1 o 10 - q)) o 18 (if 1 ≤ m1 o 7 then divI ((x 132 + m1 o 7) - 1) (m1 o 7) else x 132)) := by
  obtain ⟨h1, h2, h3, h4, h5, h6, h7, h8, h9, h10, h11⟩ := h
  have e7 : m1 o 7 = men := (h11 7 (by omega)).trans hm
  refine ⟨?_, ?_, fun k k0 k1 => ?_, ?_, ?_, ?_, ?_, ?_, fun k hk => ?_, fun j hj => ?_⟩
  · rw [up2_j (by decide), up2_j (by decide)]; exact h4
  · rw [up2_j (by decide), up2_j (by decide)]; exact h5
  · rw [up2_j (by decide), up2_j (by decide), up2_j (by decide), up2_j (by decide), hy _ (by omega)]; exact h6 k k0 k1
  · rw [up2_j (by decide), up2_j (by decide), hy _ (by decide)]; exact h7
  · rw [up2_j (by decide), up2_j (by decide), hy _ (by decide)]; exact h8
  · rw [up2_j (by decide), up2_j (by decide), hy _ (by decide)]; exact h9
  · rw [up2_j (by decide), up2_same, h11 10 (by omega), hy _ (by decide), hy _ (by decide), h3]
  · rw [up2_same, e7, if_pos m1', hy _ (by decide)]; rfl
  · rw [up2_k hk, up2_k hk]; exact h10 k hk
  · rw [up2_j (by omega), up2_j (by omega)]; exact h11 j (by omega)
theorem ct_go {E : Nat × (Nat → Int32)} {m a : Mem} {v : (Int → Int) → Int} {o : Nat} {s how bits hill men load full : Int} {r : Int → Int} (ho : o ∈ jobL) (L : Laid o a v s how bits hill men m) (hT : WTown a) (hS : WSet a) (s0 : 0 ≤ s) (s6 : s < 6) (hm : 1 ≤ men ∧ men ≤ 9) (rf : RI full) (hr : ∀ b : Int, 0 ≤ b → b < 96 → 0 ≤ r b ∧ r b ≤ 3) (hb : ∀ h : Int, 0 ≤ h → h < 16 → (r (16 * s + h) = 1 ↔ tb bits h = true)) (h96 : r 96 = load) (l0 : 0 ≤ load) (l1 : load ≤ 9999) : K_X2_go E [.ref o, vi load, vi full] m (Gone o s bits men (goesP a v r s how full hill men) m) := by
  obtain ⟨L7, L8, L9, L10, L11, L12, LR⟩ := L
  have t := hT.2.2.1 s s0 s6
  have l1' := hS.2.2.2.2.2.2.2.2.1
  have l2' := hS.2.2.2.2.2.2.2.2.2.1
  have X0 := x0_ok hr (by omega)
  have jr := jobR ho
  unfold goesP
  have key : ∀ (d j : Nat) (m1 : Mem), j + d = (2 * a 172 s).toNat → GoI o s bits load (walkN a v s how full hill men (a 172 s) j (x0 r)) (cntN bits (a 172 s) how j) m m1 → GM E (m_X2_go 0) (Pv (Gone o s bits men (walkN a v s how full hill men (a 172 s) (2 * a 172 s).toNat (x0 r)) m)) 23 [.ref o, vi load, vi full, vi (walkN a v s how full hill men (a 172 s) j (x0 r) 132), vi (cntN bits (a 172 s) how j), vi (cntN bits (a 172 s) how j), un] [] m1 := by
    intro d
    induction d with
    | zero =>
      intro j m1 hj h
      have ej : j = (2 * a 172 s).toNat := by omega
      have cr := cntN_rng (bits := bits) (n := a 172 s) (how := how) (k := j)
      have e10 : m1 o 10 = cntN bits (a 172 s) how j := by rw [h.2.2.2.2.2.2.2.2.2.2 10 (by omega), L10, ej]
      have e7 : m1 o 7 = men := by rw [h.2.2.2.2.2.2.2.2.2.2 7 (by omega), L7]
      refine sg_X2_go_23 ho (by omega) (by omega) (by omega) (by omega) (by omega) (by omega) (by omega) (by omega) (by omega) (by omega) rf (by omega) (by omega) (fun _ => ⟨rfl, ?_⟩) (by omega) (by omega) (by omega) (by omega)
      exact GoI.fin s6 h (fun b _ => by rw [ej]) L7 hm.1
    | succ d ih =>
      intro j m1 hj h
      have hk : (j : Int) < 2 * a 172 s := by omega
      have hr' := houseN_rng (how := how) (i := j) (by omega : a 172 s ≤ 8) (by omega) hk
      have ah := walkN_ahead (a := a) (v := v) (how := how) (full := full) (hill := hill) (men := men) (x := x0 r) s6 (by omega : a 172 s ≤ 8) hk j (by omega)
      rw [x0_row (by omega) (by omega)] at ah
      have cr := cntN_rng (bits := bits) (n := a 172 s) (how := how) (k := j)
      have hbj := hb _ hr'.1 hr'.2
      rcases tj : tb bits (houseN (a 172 s) how j) with _ | _
      · rw [tj] at hbj
        have e1 : walkN a v s how full hill men (a 172 s) (j + 1) (x0 r) = walkN a v s how full hill men (a 172 s) j (x0 r) := by
          rw [walkN]
          exact wk_skip (Or.inl (by rw [ah]; intro e; exact absurd (hbj.1 e) (by decide)))
        have e2 : cntN bits (a 172 s) how (j + 1) = cntN bits (a 172 s) how j := by
          rw [cntN_step, tj]
          show _ + 0 = _
          omega
        have g := ih (j + 1) m1 (by omega) (by rw [e1, e2]; exact h)
        rw [e1, e2] at g
        exact g
      · rw [tj] at hbj
        have w1 := hbj.2 rfl
        have ok := walkN_ok (v := v) (how := how) (full := full) (hill := hill) (men := men) hT hS s0 s6 (by omega : a 172 s ≤ 8) X0 j (by omega)
        obtain ⟨p1, p2, p3⟩ := LR j (by omega) tj
        have mono := cntN_mono (bits := bits) (n := a 172 s) (how := how) (k := (2 * a 172 s).toNat) (by omega : j < _) tj
        have e2 : cntN bits (a 172 s) how (j + 1) = cntN bits (a 172 s) how j + 1 := by
          rw [cntN_step, tj]
          rfl
        have ew : walkN a v s how full hill men (a 172 s) (j + 1) (x0 r) = wk a v s how full hill men (houseN (a 172 s) how j) (walkN a v s how full hill men (a 172 s) j (x0 r)) := rfl
        have stop := walkN_stop (a := a) (v := v) (s := s) (how := how) (full := full) (hill := hill) (men := men) (n := a 172 s) (x := x0 r) (k := j + 1)
        have ih1 := ih (j + 1)
        rw [e2, ew] at ih1
        rw [ew] at stop
        clear ih ew e2
        rw [← ah] at w1
        have goalK : (2 * a 172 s).toNat = j + 1 + d := by omega
        revert h ok ih1 stop w1
        generalize walkN a v s how full hill men (a 172 s) j (x0 r) = x
        intro h w1 ok stop ih1
        obtain ⟨h1, h2, h3, h4, h5, h6, h7, h8, h9, h10, h11⟩ := id h
        generalize hq : cntN bits (a 172 s) how j = q at *
        generalize hH : houseN (a 172 s) how j = H at *
        have e10 : m1 o 10 = m o 10 := h11 10 (by omega)
        have e7 : m1 o 7 = men := by rw [h11 7 (by omega), L7]
        have e9 : m1 o 9 = a 179 4 := by rw [h11 9 (by omega), L9]
        have c2 : m1 (o + 2) q = H := by rw [h10 _ (by omega)]; exact p1
        have c3 : m1 (o + 3) q = hv a (16 * s + H) (a 179 2) := by rw [h10 _ (by omega)]; exact p2
        have c4 : m1 (o + 4) q = takeN a v s how hill men H := by rw [h10 _ (by omega)]; exact p3
        have hh := hv_rng (b := 16 * s + H) (rain := a 179 2) (hT.w (by omega) (by omega)) hS ⟨hS.2.2.2.2.1, hS.2.2.2.2.2.1⟩
        have o96 := ok.2.2.1
        have oB := ok.2.2.2.2.2.2.2.2.2.2.1
        have oC := ok.2.2.2.2.2.2.2.2.2.2.2
        have q16 : q < 16 := by omega
        have lt10 : ¬ m1 o 10 ≤ q := by rw [e10, L10]; omega
        have r10 : RI (m1 o 10) := by
          have := cntN_rng (bits := bits) (n := a 172 s) (how := how) (k := (2 * a 172 s).toNat)
          rw [e10, L10]
          constructor <;> omega
        have bit2 : tb (m1 o 14) H = false := by
          rw [(h6 H hr'.1 hr'.2).1, w1]
          simp
        have bit3 : tb (m1 o 15) H = false := by
          rw [(h6 H hr'.1 hr'.2).2, w1]
          simp
        refine sg_X2_go_23 ho ⟨by omega, by omega⟩ r10 (fun c => absurd c lt10) (fun c => absurd c lt10) (fun _ c => by omega) (fun _ c => by omega) (fun _ _ => ⟨by omega, q16⟩) (fun _ _ => by rw [c3]; constructor <;> omega) (fun _ _ => by rw [e9]; constructor <;> omega) (fun _ _ _ => by rw [c3, h9]; constructor <;> omega) rf (fun _ _ _ _ => by rw [e7]; constructor <;> omega) (fun _ _ _ _ _ => by rw [e7]; omega) (fun c => absurd c lt10) (fun _ c => by omega) (fun _ _ g1 g2 => ?_) (fun _ _ g1 g2 => ⟨rfl, ?_⟩) (fun _ _ g1 => ?_)
        · rw [c3, e9] at g1
          rw [c3, h9] at g2
          have ew : wk a v s how full hill men H x = pt (pt (pt (pt (pt x 96 (x 96 + hv a (16 * s + H) (a 179 2))) 136 (x 136 + hv a (16 * s + H) (a 179 2))) (16 * s + H) 2) 134 (x 134 + 1)) 132 (x 132 + (sec v (fct a s H hill men (carriedOf how H)) + extraOf how H)) := by
            unfold wk
            rw [if_pos ⟨w1, h1⟩, if_pos g1, if_pos (by omega)]
          rw [c2, c3, c4, h9]
          have et : takeN a v s how hill men H = sec v (fct a s H hill men (carriedOf how H)) + extraOf how H := if_pos g1
          rw [et]
          have e132 : wk a v s how full hill men H x 132 = x 132 + (sec v (fct a s H hill men (carriedOf how H)) + extraOf how H) := by rw [ew, pt_same]
          rw [← e132]
          refine ih1 _ (by omega) ?_
          rw [ew]
          refine ⟨?_, ?_, ?_, ?_, ?_, fun k k0 k1 => ?_, ?_, ?_, ?_, fun k hk => ?_, fun b hb => ?_⟩
          · rw [pt_ne (by decide), pt_ne (by decide), pt_ne (by omega), pt_ne (by decide), pt_ne (by decide)]; exact h1
          · rw [pt_ne (by decide), pt_ne (by decide), pt_ne (by omega), pt_ne (by decide), pt_same, pt_ne (by decide), pt_ne (by decide), pt_ne (by omega), pt_same]; omega
          · rw [pt_ne (by decide), pt_same, pt_ne (by decide), pt_ne (by decide), pt_ne (by omega), pt_ne (by decide), pt_ne (by decide)]; omega
          · rw [up2_j (by decide), up2_same]; exact small_or h4 (small_one hr'.1 hr'.2)
          · rw [up2_j (by decide), up2_j (by decide)]; exact h5
          · rw [up2_j (by decide), up2_same, up2_j (by decide), up2_j (by decide), tb_or, tb_one hr'.1 (by omega) k0 (by omega), pt_ne (by omega), pt_ne (by omega)]
            obtain ⟨u1, u2⟩ := h6 k k0 k1
            by_cases ck : k = H
            · subst ck
              rw [pt_same, tj, bit2, bit3]
              simp
            · rw [pt_ne (by omega), pt_ne (by omega), pt_ne (by omega), u1, u2]
              simp [ck]
          · rw [up2_j (by decide), up2_same, pop_add hr'.1 hr'.2 bit2, h7, pt_ne (by decide), pt_same]
          · rw [up2_j (by decide), up2_j (by decide), h8, pt_ne (by decide), pt_ne (by decide), pt_ne (by omega), pt_ne (by decide), pt_ne (by decide)]
          · rw [up2_same, pt_ne (by decide), pt_ne (by decide), pt_ne (by omega), pt_same]
          · rw [up2_k hk, up2_k hk]; exact h10 k hk
          · rw [up2_j (by omega), up2_j (by omega)]; exact h11 b hb
        · rw [c3, e9] at g1
          rw [c3, h9] at g2
          have ew : wk a v s how full hill men H x = pt x 137 1 := by
            unfold wk
            rw [if_pos ⟨w1, h1⟩, if_pos g1, if_neg (by omega)]
          have es : walkN a v s how full hill men (a 172 s) (2 * a 172 s).toNat (x0 r) = wk a v s how full hill men H x := by
            rw [goalK]
            exact stop (by rw [ew, pt_same]; decide) d
          refine GoI.fin s6 h (fun b hb => ?_) L7 hm.1
          rw [es, ew, pt_ne hb]
        · rw [c3, e9] at g1
          have ew : wk a v s how full hill men H x = pt (pt (pt x (16 * s + H) 3) 135 (x 135 + 1)) 132 (x 132 + 3) := by
            unfold wk
            rw [if_pos ⟨w1, h1⟩, if_neg g1]
          rw [c2, c4]
          have et : takeN a v s how hill men H = 3 := if_neg g1
          rw [et]
          have e132 : wk a v s how full hill men H x 132 = x 132 + 3 := by rw [ew, pt_same]
          rw [← e132]
          refine ih1 _ (by omega) ?_
          rw [ew]
          refine ⟨?_, ?_, ?_, ?_, ?_, fun k k0 k1 => ?_, ?_, ?_, ?_, fun k hk => ?_, fun b hb => ?_⟩
          · rw [pt_ne (by decide), pt_ne (by decide), pt_ne (by omega)]; exact h1
          · rw [pt_ne (by decide), pt_ne (by decide), pt_ne (by omega), pt_ne (by decide), pt_ne (by decide), pt_ne (by omega)]; exact h2
          · rw [pt_ne (by decide), pt_ne (by decide), pt_ne (by omega), pt_ne (by decide), pt_same]; omega
          · rw [up2_j (by decide)]; exact h4
          · rw [up2_same]; exact small_or h5 (small_one hr'.1 hr'.2)
          · rw [up2_j (by decide), up2_same, tb_or, tb_one hr'.1 (by omega) k0 (by omega), pt_ne (by omega), pt_ne (by omega)]
            obtain ⟨u1, u2⟩ := h6 k k0 k1
            by_cases ck : k = H
            · subst ck
              rw [pt_same, tj, bit2, bit3]
              simp
            · rw [pt_ne (by omega), u1, u2]
              simp [ck]
          · rw [up2_j (by decide), h7, pt_ne (by decide), pt_ne (by decide), pt_ne (by omega)]
          · rw [up2_same, pop_add hr'.1 hr'.2 bit3, h8, pt_ne (by decide), pt_same]
          · rw [up2_j (by decide), h9, pt_ne (by decide), pt_ne (by decide), pt_ne (by omega)]
          · rw [up2_k hk]; exact h10 k hk
          · rw [up2_j (by omega)]; exact h11 b (by omega)
  refine en_X2_go (sg_X2_go_0 ho ?_)
  have g := key (2 * a 172 s).toNat 0 (up2 (up2 (up2 m o 14 0) o 15 0) o 16 0) (by omega) ⟨x0_0 (by decide), ?_, ?_, ?_, ?_, fun k k0 k1 => ?_, ?_, ?_, ?_, fun k hk => ?_, fun b hb => ?_⟩
  · have e : walkN a v s how full hill men (a 172 s) 0 (x0 r) 132 = 0 := x0_0 (by decide)
    rw [e] at g
    exact g
  · show x0 r 96 = load + x0 r 136
    rw [x0_row (by decide) (by decide), x0_0 (by decide)]; omega
  · show (0 : Int) = x0 r 134 + x0 r 135
    rw [x0_0 (by decide), x0_0 (by decide)]; rfl
  · rw [up2_j (by decide), up2_j (by decide), up2_same]; exact small_0
  · rw [up2_j (by decide), up2_same]; exact small_0
  · show tb _ k = (tb bits k && (x0 r (16 * s + k) == 2)) ∧ tb _ k = (tb bits k && (x0 r (16 * s + k) == 3))
    rw [up2_j (by decide), up2_j (by decide), up2_same, up2_j (by decide), up2_same, tb_0, x0_row (by omega) (by omega)]
    rcases tk : tb bits k with _ | _
    · simp
    · rw [(hb k k0 k1).2 tk]; simp
  · rw [up2_j (by decide), up2_j (by decide), up2_same]
    show pop 0 = x0 r 134
    rw [x0_0 (by decide)]
    exact sumI_0 (fun i _ _ => by rw [tb_0]; rfl)
  · rw [up2_j (by decide), up2_same]
    show pop 0 = x0 r 135
    rw [x0_0 (by decide)]
    exact sumI_0 (fun i _ _ => by rw [tb_0]; rfl)
  · rw [up2_same]
    show (0 : Int) = x0 r 136
    rw [x0_0 (by decide)]
  · rw [up2_k hk, up2_k hk, up2_k hk]
  · rw [up2_j (by omega), up2_j (by omega), up2_j (by omega)]
