/-! empty: the class -/
def barred (a : Mem) (r : Int → Int) (s : Int) : Prop := 0 ≤ a 176 s ∧ a 176 s ≤ divI (r 98) 60 ∧ divI (r 98) 60 ≤ a 177 s
def emptyP (a : Mem) (s how : Int) : Prop := (0 ≤ s ∧ s < a 169 3) ∧ 0 ≤ how ∧ how ≤ 2
def emptyOk (a : Mem) (r : Int → Int) (s how : Int) : Prop := emptyP a s how ∧ r 97 = a 171 s ∧ ¬ barred a r s
def goX (a : Mem) (v : (Int → Int) → Int) (r : Int → Int) (s how : Int) : Int → Int := goesP a v r s how (a 179 0) (a 173 s) (a 179 1)
def emptyS (a : Mem) (v : (Int → Int) → Int) (r : Int → Int) (s how : Int) : Int := handsP (a 179 1) (goX a v r s how 132) + movesR a s how
def emptyR (a : Mem) (v : (Int → Int) → Int) (r : Int → Int) (s how : Int) : Int → Int := pt (goX a v r s how) 98 (r 98 + emptyS a v r s how)
def emptyWhy (a : Mem) (r : Int → Int) (s how : Int) : Int := if (0 ≤ s ∧ s < a 169 3) ∧ 0 ≤ how ∧ how ≤ 2 then (if r 97 = a 171 s then -3 else -2) else -1
theorem emptyWhy_rng {a : Mem} {r : Int → Int} {s how : Int} : -3 ≤ emptyWhy a r s how ∧ emptyWhy a r s how ≤ -1 := by
  unfold emptyWhy
  split
  · split <;> omega
  · omega
theorem emptyS_rng {a : Mem} {v : (Int → Int) → Int} {r : Int → Int} {s how B : Int} (hT : WTown a) (hS : WSet a) (hn : StOK B a r) (s0 : 0 ≤ s) (s6 : s < 6) : 0 ≤ emptyS a v r s how ∧ emptyS a v r s how ≤ 17712 := by
  have g := goes_rng (v := v) (how := how) (full := a 179 0) (hill := a 173 s) (men := a 179 1) hT hS s0 s6 hn.r3 hn.2.1
  have h1 := hands_rng (men := a 179 1) (w := goX a v r s how 132) ⟨hS.2.2.1, by have := hS.2.2.2.1; omega⟩ g.2.2.2.2.1 (by have := g.2.2.2.2.2.1; unfold goX; omega)
  have h2 := movesR_rng (how := how) hT s0 s6
  unfold emptyS
  omega
theorem emptyR_ok {a : Mem} {v : (Int → Int) → Int} {r : Int → Int} {s how B B2 : Int} (hT : WTown a) (hS : WSet a) (hn : StOK B a r) (s0 : 0 ≤ s) (s6 : s < 6) (hB : B + 17712 ≤ B2) : StOK B2 a (emptyR a v r s how) := by
  obtain ⟨g1, g2, g3, g4, g5, g6, g7, g8, g9⟩ := goes_all (v := v) (r := r) (how := how) (full := a 179 0) (hill := a 173 s) (men := a 179 1) hT s0 s6
  have es := emptyS_rng (v := v) (how := how) hT hS hn s0 s6
  have gr := goes_rng (v := v) (how := how) (full := a 179 0) (hill := a 173 s) (men := a 179 1) hT hS s0 s6 hn.r3 hn.2.1
  obtain ⟨n1, n2, n3, n4, n5, n6, n7⟩ := hn
  have f1 := hS.2.1
  unfold emptyR
  refine ⟨fun b b0 b1 => ?_, ?_, ?_, ?_, ?_, ?_, ?_⟩
  · rw [pt_ne (by omega)]
    refine ⟨(gr.1 b b0 b1).1, (gr.1 b b0 b1).2, fun h => (n1 b b0 b1).2.2 (fun e => h ?_)⟩
    show goesP _ _ _ _ _ _ _ _ b = 0
    rw [g7 b b0 b1 (by omega)]
    exact e
  · rw [pt_ne (by decide)]; exact gr.2.1
  · rw [pt_ne (by decide)]; exact g4 999 f1 n3
  · rw [pt_ne (by decide)]; unfold goX; omega
  · rw [pt_ne (by decide)]; unfold goX; omega
  · rw [pt_same]; omega
  · rw [pt_same]; omega
theorem ct_record {E : Nat × (Nat → Int32)} {c m a : Mem} {v : (Int → Int) → Int} {r : Int → Int} {s how : Int} (h : StRel c 23 r) (s0 : 0 ≤ s) (s6 : s < 6) (hT : WTown a) (hg : Gone 100 s (c 24 s) (a 179 1) (goX a v r s how) m c) (e11 : c 100 11 = movesR a s how) : K_X7_record E [.ref 23, vi s, .ref 100] c (fun c' => StRel c' 23 (emptyR a v r s how) ∧ ∀ k, k ≠ 23 → k ≠ 24 → k ≠ 25 → k ≠ 26 → c' k = c k) := by
  obtain ⟨s1, s2, hb, -, -, e16, -, e18, -, -⟩ := hg
  obtain ⟨g1, g2, g3, g4, g5, g6, g7, g8, g9⟩ := goes_all (v := v) (r := r) (how := how) (full := a 179 0) (hill := a 173 s) (men := a 179 1) hT s0 s6
  refine en_X7_record (sg_X7_record_0 m23 m100 ⟨by omega, by omega⟩ (by omega) (by omega) (fun _ _ => ⟨rfl, ?_, fun k k0 k1 k2 k3 => by rw [up2_k k0, up2_k k0, up2_k (by omega), up2_k (by omega), up2_k (by omega)]⟩))
  have q1 : ∀ (M : Mem) (x y : Int), up2 M (23 + 1) x y 100 = M 100 := fun M x y => up2_k (by decide)
  have q2 : ∀ (M : Mem) (x y : Int), up2 M (23 + 2) x y 100 = M 100 := fun M x y => up2_k (by decide)
  have q3 : ∀ (M : Mem) (x y : Int), up2 M (23 + 3) x y 100 = M 100 := fun M x y => up2_k (by decide)
  have q0 : ∀ (M : Mem) (x y : Int), up2 M 23 x y 100 = M 100 := fun M x y => up2_k (by decide)
  simp only [q0, q1, q2, q3]
  rw [e16, e18, e11]
  generalize c 100 14 = e at *
  generalize c 100 15 = l at *
  refine ⟨fun t t0 t6 => ?_, ?_, ?_, ?_⟩
  · rw [up2_k (show 23 + 1 ≠ 23 by decide), up2_k (show 23 + 1 ≠ 23 by decide), up2_k (show 23 + 1 ≠ 23 + 3 by decide), up2_k (show 23 + 1 ≠ 23 + 2 by decide), up2_k (show 23 + 2 ≠ 23 by decide), up2_k (show 23 + 2 ≠ 23 by decide), up2_k (show 23 + 2 ≠ 23 + 3 by decide), up2_k (show 23 + 3 ≠ 23 by decide), up2_k (show 23 + 3 ≠ 23 by decide)]
    obtain ⟨a1, a2, a3, a4⟩ := h.1 t t0 t6
    by_cases et : t = s
    · subst et
      rw [up2_same, up2_same, up2_same]
      refine ⟨small_and a1, small_or a2 s1, small_or a3 s2, fun k k0 k1 => ?_⟩
      obtain ⟨b1, b2, b3, b4⟩ := a4 k k0 k1
      obtain ⟨h1, h2⟩ := hb k k0 k1
      rw [tb_and, tb_xor, tb_or, tb_or, tb_or, tb_m1 (by omega), h1, h2]
      unfold emptyR
      rw [pt_ne (by omega)]
      have w1 := g7 (16 * t + k) (by omega) (by omega)
      have w2 := g8 (16 * t + k) (by omega) (by omega)
      have w1 : r (16 * t + k) ≠ 1 → goX a v r t how (16 * t + k) = r (16 * t + k) := w1
      have w2 : r (16 * t + k) = 1 → goX a v r t how (16 * t + k) = 1 ∨ goX a v r t how (16 * t + k) = 2 ∨ goX a v r t how (16 * t + k) = 3 := w2
      revert b1 b2 b3 b4 w1 w2
      show r (16 * t + k) = stv (tb (c 24 t) k) (tb (c 25 t) k) (tb (c 26 t) k) → _
      generalize goX a v r t how (16 * t + k) = X
      generalize r (16 * t + k) = R
      show R = stv (tb (c 24 t) k) (tb (c 25 t) k) (tb (c 26 t) k) → (tb (c 24 t) k && tb (c 25 t) k) = false → (tb (c 24 t) k && tb (c 26 t) k) = false → (tb (c 25 t) k && tb (c 26 t) k) = false → (R ≠ 1 → X = R) → (R = 1 → X = 1 ∨ X = 2 ∨ X = 3) → X = stv (tb (c 24 t) k && ((tb (c 24 t) k && (X == 2) || tb (c 24 t) k && (X == 3)) ^^ true)) (tb (c 25 t) k || tb (c 24 t) k && (X == 2)) (tb (c 26 t) k || tb (c 24 t) k && (X == 3)) ∧ _
      generalize tb (c 24 t) k = p1
      generalize tb (c 25 t) k = p2
      generalize tb (c 26 t) k = p3
      intro b1 b2 b3 b4 w1 w2
      cases p1
      · have : R ≠ 1 := by
          rw [b1]
          cases p2 <;> cases p3 <;> decide
        rw [w1 this, b1]
        simp only [Bool.false_and, Bool.or_false, true_and]
        exact b4
      · cases p2
        · cases p3
          · have hR : R = 1 := b1
            rcases w2 hR with rfl | rfl | rfl <;> decide
          · cases b3
        · cases b2
    · have x3 : ∀ y z w : Int, up2 (up2 (up2 c (23 + 1) s y) (23 + 2) s z) (23 + 3) s w (23 + 3) t = c (23 + 3) t := fun y z w => by rw [up2_j et, up2_k (by decide), up2_k (by decide)]
      have x2 : ∀ y z : Int, up2 (up2 c (23 + 1) s y) (23 + 2) s z (23 + 2) t = c (23 + 2) t := fun y z => by rw [up2_j et, up2_k (by decide)]
      rw [x3, x2, up2_j et]
      refine ⟨a1, a2, a3, fun k k0 k1 => ?_⟩
      unfold emptyR
      rw [pt_ne (by omega)]
      show goesP _ _ _ _ _ _ _ _ (16 * t + k) = _ ∧ _
      rw [g9 (16 * t + k) (by omega) (by omega) (by omega)]
      exact a4 k k0 k1
  · rw [up2_j (by decide), up2_same]
    unfold emptyR
    rw [pt_ne (by decide), h.2.1]
    exact g1.symm
  · rw [up2_j (by decide), up2_j (by decide), up2_k (by decide), up2_k (by decide), up2_k (by decide)]
    unfold emptyR
    rw [pt_ne (by decide), h.2.2.1]
    exact g2.symm
  · rw [up2_same, h.2.2.2]
    unfold emptyR
    rw [pt_same]
    rfl
theorem ct_emptyBins {E : Nat × (Nat → Int32)} {c a : Mem} {v : (Int → Int) → Int} {r : Int → Int} {s how B : Int} (rs : RI s) (rh : RI how) (hC : CTown c a) (hCS : CSet c a) (hN : StRel c 23 r) (hR : RuleC c v) (hT : WTown a) (hS : WSet a) (hn : StOK B a r) : K_X11_emptyBins E [.ref 0, vi s, vi how] c (fun z c' => (emptyOk a r s how ∧ z = emptyS a v r s how ∧ StRel c' 23 (emptyR a v r s how) ∧ AF c c' ∧ pop (c' 100 14) = goX a v r s how 134 ∧ Small (c' 100 14) ∧ pop (c' 100 15) = goX a v r s how 135 ∧ Small (c' 100 15) ∧ c' 100 16 = goX a v r s how 136 ∧ c' 100 17 = rO (goX a v r s how) s 16) ∨ (¬ emptyOk a r s how ∧ z = emptyWhy a r s how ∧ c' = c)) := by
  have e := hC.1
  have n0 := hT.1
  have n6 := hT.2.1
  have e40 := hCS 0 (by decide) (by decide)
  have e41 := hCS 1 (by decide) (by decide)
  have m1 := hS.2.2.1
  have m4 := hS.2.2.2.1
  have f1 := hS.1
  have f2 := hS.2.1
  have r97 := hn.2.2.2.1
  have r97' := hn.2.2.2.2.1
  have e4 := hN.2.2.1
  have e5 := hN.2.2.2
  have no : ¬ ((0 ≤ s ∧ s < a 169 3) ∧ 0 ≤ how ∧ how ≤ 2) → (emptyOk a r s how ∧ (-1 : Int) = emptyS a v r s how ∧ StRel c 23 (emptyR a v r s how) ∧ AF c c ∧ pop (c 100 14) = goX a v r s how 134 ∧ Small (c 100 14) ∧ pop (c 100 15) = goX a v r s how 135 ∧ Small (c 100 15) ∧ c 100 16 = goX a v r s how 136 ∧ c 100 17 = rO (goX a v r s how) s 16) ∨ (¬ emptyOk a r s how ∧ (-1 : Int) = emptyWhy a r s how ∧ c = c) := fun q => Or.inr ⟨fun o => q o.1, by unfold emptyWhy; rw [if_neg q], rfl⟩
  have T : (0 ≤ s ∧ s < c 9 1) → c (11 + 2 * s.toNat) 2 = a 171 s ∧ c (11 + 2 * s.toNat) 4 = a 173 s ∧ c (11 + 2 * s.toNat) 7 = a 176 s ∧ c (11 + 2 * s.toNat) 8 = a 177 s := fun p => by
    obtain ⟨t2, -, t4, -, -, t7, t8, -⟩ := hC.s p.1 (by omega) n6
    exact ⟨t2, t4, t7, t8⟩
  have t : (0 ≤ s ∧ s < c 9 1) → 0 ≤ a 171 s ∧ a 171 s ≤ 99 ∧ -1 ≤ a 173 s ∧ a 173 s ≤ 1 ∧ -1 ≤ a 176 s ∧ a 176 s ≤ 999 ∧ -1 ≤ a 177 s ∧ a 177 s ≤ 999 := fun p => by
    have t := hT.2.2.1 s p.1 (by omega)
    have tb := t.2.2.2.2.2.2.2.2.2.1
    unfold barOK at tb
    omega
  refine en_X11_emptyBins (sg_X11_emptyBins_0 (by omega) rs rh (fun _ _ _ => by rw [e4]; constructor <;> omega) (fun p _ _ => by rw [(T p).1]; have := t p; constructor <;> omega) (fun p _ _ _ => by rw [(T p).2.2.1]; have := t p; constructor <;> omega) (fun p _ _ _ => by rw [(T p).2.2.2]; have := t p; constructor <;> omega) (fun _ _ _ _ _ => by rw [e41]; constructor <;> omega) (fun p _ _ _ _ => by omega) (fun p q => ⟨_, rfl, no (by omega)⟩) (fun p q q2 g b => ⟨_, rfl, Or.inr ?_⟩) (fun p q q2 g b => ?_) (fun p q q2 g => ⟨_, rfl, Or.inr ?_⟩) (fun p q q2 => ⟨_, rfl, no (by omega)⟩) (fun p => ⟨_, rfl, no (by omega)⟩))
  · rw [(T p).2.2.1, (T p).2.2.2, e5] at b
    rw [e4, (T p).1] at g
    refine ⟨fun o => o.2.2 b, ?_, rfl⟩
    unfold emptyWhy
    rw [if_pos (by omega), if_pos g]
  · rw [(T p).2.2.1, (T p).2.2.2, e5] at b
    rw [e4, (T p).1] at g
    have tt := t p
    have m := streetMem s.toNat (by omega)
    have s1 : s < a 169 3 := by omega
    rw [e41, (T p).2.1]
    have emax : max 1 (a 179 1) = a 179 1 := by omega
    rw [emax]
    refine ca_X11_emptyBins_91 m100 (ct_lay2 (hill := a 173 s) (men := a 179 1) m100 (thinkFr.town (by decide) hC) (thinkFr.set (by decide) hCS) (thinkFr.rule (by decide) hR) hT hS p.1 s1 (by omega) (by omega) (up2_same _ _ _ _) (by rw [up2_j (by decide), up2_same]) ⟨by omega, by omega⟩ ⟨by omega, by omega⟩) (fun c2 hz => sg_X11_emptyBins_94 m ?_)
    obtain ⟨z1, z2, -, -⟩ := hz
    have z2 := thinkFr.trans z2
    have hN2 : StRel c2 23 r := hN.congr (z2.1 _ (by decide) (by decide) (by decide)) (z2.1 _ (by decide) (by decide) (by decide)) (z2.1 _ (by decide) (by decide) (by decide)) (z2.1 _ (by decide) (by decide) (by decide))
    rw [show c2 4 = c 4 from z2.1 4 (by decide) (by decide) (by decide), e40, hN2.2.1]
    refine ca_X11_emptyBins_113 m100 (ct_go (r := r) m100 z1 hT hS p.1 (by omega) ⟨by omega, by omega⟩ ⟨by omega, by omega⟩ hn.r3 (fun k k0 k1 => hN.out1 p.1 (by omega) k0 k1) rfl hn.2.1 (by have := hn.2.2.1; omega)) (fun c3 hc => sg_X11_emptyBins_116 m ?_)
    have f3 := hc.jf (by decide)
    have z3 := z2.trans f3
    have hN3 : StRel c3 23 r := hN.congr (z3.1 _ (by decide) (by decide) (by decide)) (z3.1 _ (by decide) (by decide) (by decide)) (z3.1 _ (by decide) (by decide) (by decide)) (z3.1 _ (by decide) (by decide) (by decide))
    have hc' : Gone 100 s (c3 24 s) (a 179 1) (goX a v r s how) c2 c3 := by
      rw [z3.1 24 (by decide) (by decide) (by decide)]
      exact hc
    have e11 : c3 100 11 = movesR a s how := by rw [hc.2.2.2.2.2.2.2.2.2 11 (by decide)]; exact z1.2.2.2.2.1
    refine ca_X11_emptyBins_125 m23 (ct_record hN3 p.1 (by omega) hT hc' e11) (fun c4 h4 => sg_X11_emptyBins_128 m ⟨_, rfl, Or.inl ?_⟩)
    obtain ⟨st, f4⟩ := h4
    have e100 : c4 100 = c3 100 := f4 100 (by decide) (by decide) (by decide) (by decide)
    rw [e100]
    obtain ⟨g1, g2, -, g4, g5, g6, g7, g8, -, -⟩ := hc'
    refine ⟨⟨⟨⟨p.1, s1⟩, by omega, by omega⟩, g, b⟩, ?_, st, ⟨fun k k1 k2 k3 k4 => (f4 k (by omega) (by omega) (by omega) (by omega)).trans (z3.1 k (by omega) k3 k4), fun x hx => by rw [f4 5 (by decide) (by decide) (by decide) (by decide)]; exact z3.2 x hx⟩, g4, g1, g5, g2, g6, ?_⟩
    · rw [g8, e11]; rfl
    · have ga := goes_all (v := v) (r := r) (how := how) (full := a 179 0) (hill := a 173 s) (men := a 179 1) hT p.1 (by omega : s < 6)
      have gO : rO (goX a v r s how) s 16 = rO r s 16 - (goX a v r s how 134 + goX a v r s how 135) := ga.2.2.2.2.1
      rw [g7, gO]
      have e10 : c2 100 10 = rO r s 16 := by
        rw [z1.2.2.2.1]
        unfold cntN rO
        have t8 := hT.2.2.1 s p.1 (by omega)
        have eN : (2 * a 172 s).toNat = 2 * (a 172 s).toNat := by omega
        have eC : (((a 172 s).toNat : Nat) : Int) = a 172 s := Int.toNat_of_nonneg (by omega)
        rw [eN]
        have := sum_houses (f := fun h => b01 (tb (c 24 s) h)) (n := (a 172 s).toNat) (how := how) (by omega) (fun h h0 h1 h2 => by
          have hw := (hT.2.2.2 s h p.1 (by omega) h0 h1).2.2 (by omega)
          have hnn := (hn.1 (16 * s + h) (by omega) (by omega)).2.2
          have : r (16 * s + h) ≠ 1 := fun e => by
            have := hnn (by omega)
            exact this hw
          have hh := hN.out1 p.1 (by omega : s < 6) h0 h1
          show b01 (tb (c 24 s) h) = 0
          rcases q : tb (c 24 s) h with _ | _
          · rfl
          · exact absurd (hh.2 q) this)
        rw [eC] at this
        have e24 : up2 (up2 c 100 7 (a 179 1)) 100 8 (a 173 s) 24 s = c 24 s := by rw [up2_k (by decide), up2_k (by decide)]
        first
          | rw [this]
          | (rw [e24, this])
        refine sumI_congr (fun h h0 h1 => ?_)
        have hh := hN.out1 p.1 (by omega : s < 6) h0 (by omega)
        show b01 (tb (c 24 s) h) = b01 (r (16 * s + h) == 1)
        rcases q : tb (c 24 s) h with _ | _
        · rw [show (r (16 * s + h) == 1) = false by
            rw [beq_eq_false_iff_ne]
            intro e
            have := hh.1 e
            exact absurd (this.symm.trans q) (by decide)]
        · rw [hh.2 q]; rfl
      rw [e10]
  · rw [e4, (T p).1] at g
    refine ⟨fun o => g o.2.1, ?_, rfl⟩
    unfold emptyWhy
    rw [if_pos (by omega), if_neg g]
