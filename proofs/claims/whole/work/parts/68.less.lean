/-! less, hill -/
theorem ct_less {E : Nat × (Nat → Int32)} {c a : Mem} {v : (Int → Int) → Int} {s B : Int} (rs : RI s) (h : CR0 c a) (hR : RuleC c v) (hT : WTown a) (hS : WSet a) (hn : StOK B a (a 180)) : K_X11_less E [.ref 0, vi s] c (fun z c' => (((0 ≤ s ∧ s < a 169 3) ∧ a 179 1 ≠ 1) ∧ z = secN a v (emptyRow (a 180)) s (bestH (fun how => secN a v (emptyRow (a 180)) s how (a 173 s) (a 179 1 - 1))) (a 173 s) (a 179 1 - 1) - bestS a v (a 180) s ∧ CQ c c' 1 (rwL [bestH (fun how => secN a v (emptyRow (a 180)) s how (a 173 s) (a 179 1 - 1))])) ∨ (¬ ((0 ≤ s ∧ s < a 169 3) ∧ a 179 1 ≠ 1) ∧ z = (if 0 ≤ s ∧ s < a 169 3 then -2 else -1) ∧ c' = c)) := by
  have e := h.town.1
  have n0 := hT.1
  have n6 := hT.2.1
  have e41 := h.set 1 (by decide) (by decide)
  have m1 := hS.2.2.1
  have m4 := hS.2.2.2.1
  refine en_X11_less (sg_X11_less_0 (by omega) rs (fun _ => by constructor <;> omega) (fun p q => ?_) (fun p q => ⟨_, rfl, Or.inr ⟨by omega, by rw [if_pos (by omega)], rfl⟩⟩) (fun p => ⟨_, rfl, Or.inr ⟨by omega, by rw [if_neg (by omega)], rfl⟩⟩))
  have m := streetMem s.toNat (by omega)
  have t := hT.2.2.1 s p.1 (by omega)
  have s1 : s < a 169 3 := by omega
  have e4 := (h.town.s p.1 s1 n6).2.2.1
  rw [e41, e4]
  refine ca_X11_less_39 (ct_quickest h.town h.set h.now hR hT hS p.1 s1 ⟨by omega, by omega⟩ ⟨by omega, by omega⟩ hn.r3) (fun z c2 hz => ?_)
  obtain ⟨z1, z2, z3, z4⟩ := hz
  have z1 : z = bestS a v (a 180) s := z1
  refine sg_X11_less_42 m ?_
  have hC2 := z4.town (by decide) h.town
  rw [(hC2.s p.1 s1 n6).2.2.1]
  refine ca_X11_less_53 (ct_quickest (r := a 180) hC2 (z4.set (by decide) h.set) (h.now.congr (z4.1 _ (by decide) (by decide) (by decide)) (z4.1 _ (by decide) (by decide) (by decide)) (z4.1 _ (by decide) (by decide) (by decide)) (z4.1 _ (by decide) (by decide) (by decide))) (z4.rule (by decide) hR) hT hS p.1 s1 ⟨by omega, by omega⟩ ⟨by omega, by omega⟩ hn.r3) (fun y c3 hy => ?_)
  obtain ⟨y1, y2, y3, y4⟩ := hy
  have br := bestH_rng (fun how => secN a v (emptyRow (a 180)) s how (a 173 s) (a 179 1 - 1))
  refine sg_X11_less_56 m (by rw [y2]; constructor <;> omega) ⟨_, rfl, Or.inl ⟨by omega, by rw [y1, z1], ?_⟩⟩
  rw [y2]
  exact CQ.job (by decide) (z4.trans y4) CQ.one
theorem mt_less {E : Nat × (Nat → Int32)} {m a : Mem} {v : (Int → Int) → Int} {s B : Int} (rs : RI s) (hm : HighEq a m) (hR : RuleM a v) (hT : WTown a) (hS : WSet a) (hn : StOK B a (a 180)) : K_X12_less E [.ref 169, vi s] m (fun z m' => (((0 ≤ s ∧ s < a 169 3) ∧ a 179 1 ≠ 1) ∧ z = secN a v (emptyRow (a 180)) s (bestH (fun how => secN a v (emptyRow (a 180)) s how (a 173 s) (a 179 1 - 1))) (a 173 s) (a 179 1 - 1) - bestS a v (a 180) s ∧ PEq m' (rowU m 1 (rwL [bestH (fun how => secN a v (emptyRow (a 180)) s how (a 173 s) (a 179 1 - 1))])) ∧ LowEq m m') ∨ (¬ ((0 ≤ s ∧ s < a 169 3) ∧ a 179 1 ≠ 1) ∧ z = (if 0 ≤ s ∧ s < a 169 3 then -2 else -1) ∧ m' = up2 m 169 0 0)) := by
  have n0 := hT.1
  have n6 := hT.2.1
  have e3 : m 169 3 = a 169 3 := by rw [hm 169 (by decide)]
  have e9 : m 179 = a 179 := hm 179 (by decide)
  have m1 := hS.2.2.1
  have m4 := hS.2.2.2.1
  refine en_X12_less (sg_X12_less_0 (by rw [e3]; constructor <;> omega) rs (fun p => by rw [e9]; constructor <;> omega) (fun p q => ?_) (fun p q => ⟨_, rfl, Or.inr ⟨by rw [e9] at q; omega, by rw [if_pos (by omega)], rfl⟩⟩) (fun p => ⟨_, rfl, Or.inr ⟨by omega, by rw [if_neg (by omega)], rfl⟩⟩))
  rw [e3] at p
  rw [e9] at q
  have t := hT.2.2.1 s p.1 (by omega)
  have M0 : ∀ k, k ≠ 169 → up2 m 169 0 0 k = m k := fun k q => up2_k q
  have b0 : MB a (up2 m 169 0 0) := hm.mb.trans ⟨up2_j (by decide), up2_j (by decide), fun k _ _ => M0 k (by omega), M0 185 (by decide)⟩
  refine ca_X12_less_30 (mt_bestNow (r0 := a 180) b0 hR hT hS p.1 (by omega) (fun c _ _ => by rw [M0 180 (by decide), hm 180 (by decide)]) hn.r3) (fun z m2 hz => sg_X12_less_33 ?_)
  obtain ⟨z1, z2, z3, z4, z5⟩ := hz
  have f3 : SF (up2 m 169 0 0) (up2 m2 169 30 (m2 179 1 - 1)) := z3.up (by omega)
  have x9 : m2 179 1 = a 179 1 := by rw [z3.1 179 (by decide) (by decide) (by decide) (by decide), M0 179 (by decide), e9]
  refine ca_X12_less_52 (mt_bestOf (r := 180) (r0 := a 180) (hill := a 173 s) (men := a 179 1 - 1) (by decide) (by decide) (by decide) (b0.trans f3.mb) hR hT hS p.1 (by omega) (by rw [up2_j (by decide)]; exact z4) (by rw [up2_same, x9]) ⟨by omega, by omega⟩ ⟨by omega, by omega⟩ (fun c _ _ => by rw [f3.1 180 (by decide) (by decide) (by decide) (by decide), M0 180 (by decide), hm 180 (by decide)]) hn.r3) (fun y m3 hy => ?_)
  obtain ⟨y1, y2, y3, -, -⟩ := hy
  have br := bestH_rng (fun how => secN a v (emptyRow (a 180)) s how (a 173 s) (a 179 1 - 1))
  have fA := f3.trans y3
  refine sg_X12_less_55 (by rw [y2]; constructor <;> omega) ⟨_, rfl, Or.inl ⟨by omega, by rw [y1, z1], ?_, fun k hk => ?_⟩⟩
  · rw [y2]
    exact (PEq.one fA.peq).trans (PEq.field npf0).rowC
  · rw [up2_k (by omega), up2_k (by omega), up2_k (by omega), fA.low k hk, M0 k (by omega)]
theorem ct_hill {E : Nat × (Nat → Int32)} {c a : Mem} {v : (Int → Int) → Int} {s B : Int} (h : CR0 c a) (hR : RuleC c v) (hT : WTown a) (hS : WSet a) (hn : StOK B a (a 180)) (s0 : 0 ≤ s) (s1 : s < a 169 3) : K_X11_hill E [.ref 0, vi s] c (fun z c' => z = bestS a v (a 180) s - secN a v (emptyRow (a 180)) s (bestH (fun how => secN a v (emptyRow (a 180)) s how (-1) (a 179 1))) (-1) (a 179 1) ∧ CQ c c' (a 169 1) (a 170)) := by
  have e := h.town.1
  have n0 := hT.1
  have n6 := hT.2.1
  have e41 := h.set 1 (by decide) (by decide)
  have m1 := hS.2.2.1
  have m4 := hS.2.2.2.1
  refine en_X11_hill (sg_X11_hill_0 (by omega) ⟨by omega, by omega⟩ (fun p => ?_) (by omega))
  have m := streetMem s.toNat (by omega)
  have t := hT.2.2.1 s p.1 (by omega)
  have e4 := (h.town.s p.1 s1 n6).2.2.1
  rw [e41, e4]
  refine ca_X11_hill_39 (ct_quickest h.town h.set h.now hR hT hS p.1 s1 ⟨by omega, by omega⟩ ⟨by omega, by omega⟩ hn.r3) (fun z c2 hz => ?_)
  obtain ⟨z1, z2, z3, z4⟩ := hz
  have z1 : z = bestS a v (a 180) s := z1
  refine sg_X11_hill_42 m ?_
  refine ca_X11_hill_46 (ct_quickest (r := a 180) (z4.town (by decide) h.town) (z4.set (by decide) h.set) (h.now.congr (z4.1 _ (by decide) (by decide) (by decide)) (z4.1 _ (by decide) (by decide) (by decide)) (z4.1 _ (by decide) (by decide) (by decide)) (z4.1 _ (by decide) (by decide) (by decide))) (z4.rule (by decide) hR) hT hS p.1 s1 (by decide) ⟨by omega, by omega⟩ hn.r3) (fun y c3 hy => ?_)
  obtain ⟨y1, y2, y3, y4⟩ := hy
  exact sg_X11_hill_49 m ⟨_, rfl, by rw [y1, z1], CQ.jobS (by decide) h (z4.trans y4)⟩
theorem mt_hill {E : Nat × (Nat → Int32)} {m a : Mem} {v : (Int → Int) → Int} {s B : Int} (rs : RI s) (hm : HighEq a m) (hR : RuleM a v) (hT : WTown a) (hS : WSet a) (hn : StOK B a (a 180)) : K_X12_hill E [.ref 169, vi s] m (fun z m' => ((0 ≤ s ∧ s < a 169 3) ∧ z = bestS a v (a 180) s - secN a v (emptyRow (a 180)) s (bestH (fun how => secN a v (emptyRow (a 180)) s how (-1) (a 179 1))) (-1) (a 179 1) ∧ PEq m' m ∧ LowEq m m' ∧ m' 169 0 = 0) ∨ (¬ (0 ≤ s ∧ s < a 169 3) ∧ z = 0 ∧ m' = up2 (up2 m 169 0 0) 169 0 1)) := by
  have n0 := hT.1
  have n6 := hT.2.1
  have e3 : m 169 3 = a 169 3 := by rw [hm 169 (by decide)]
  have m1 := hS.2.2.1
  have m4 := hS.2.2.2.1
  refine en_X12_hill (sg_X12_hill_0 (by rw [e3]; constructor <;> omega) rs (fun p => ?_) (fun p => ⟨_, rfl, Or.inr ⟨by omega, rfl, rfl⟩⟩))
  rw [e3] at p
  have t := hT.2.2.1 s p.1 (by omega)
  have M0 : ∀ k, k ≠ 169 → up2 m 169 0 0 k = m k := fun k q => up2_k q
  have b0 : MB a (up2 m 169 0 0) := hm.mb.trans ⟨up2_j (by decide), up2_j (by decide), fun k _ _ => M0 k (by omega), M0 185 (by decide)⟩
  refine ca_X12_hill_20 (mt_bestNow (r0 := a 180) b0 hR hT hS p.1 (by omega) (fun c _ _ => by rw [M0 180 (by decide), hm 180 (by decide)]) hn.r3) (fun z m2 hz => sg_X12_hill_23 ?_)
  obtain ⟨z1, z2, z3, z4, z5⟩ := hz
  have f3 : SF (up2 m 169 0 0) (up2 m2 169 31 (-1)) := z3.up (by omega)
  refine ca_X12_hill_36 (mt_bestOf (r := 180) (r0 := a 180) (hill := -1) (men := a 179 1) (by decide) (by decide) (by decide) (b0.trans f3.mb) hR hT hS p.1 (by omega) (up2_same _ _ _ _) (by rw [up2_j (by decide)]; exact z5) (by decide) ⟨by omega, by omega⟩ (fun c _ _ => by rw [f3.1 180 (by decide) (by decide) (by decide) (by decide), M0 180 (by decide), hm 180 (by decide)]) hn.r3) (fun y m3 hy => ?_)
  obtain ⟨y1, y2, y3, -, -⟩ := hy
  have fA := f3.trans y3
  exact sg_X12_hill_39 ⟨_, rfl, Or.inl ⟨p, by rw [y1, z1], fA.peq.trans (PEq.field npf0), fun k hk => by rw [fA.low k hk, M0 k (by omega)], (fA.2 0 (by omega) (by decide)).trans (up2_same _ _ _ _)⟩⟩
/-! takes: the class -/
theorem ct_takes {E : Nat × (Nat → Int32)} {c a : Mem} {v : (Int → Int) → Int} {s how B : Int} (rs : RI s) (rw' : RI how) (h : CR0 c a) (hR : RuleC c v) (hT : WTown a) (hS : WSet a) (hn : StOK B a (a 180)) : K_X11_takes E [.ref 0, vi s, vi how] c (fun z c' => ((0 ≤ s ∧ s < a 169 3 ∧ 0 ≤ how ∧ how ≤ 2) ∧ z = takesP a v (a 180) s how (a 173 s) (a 179 1) + movesR a s how ∧ CQ c c' 2 (rwL [takesP a v (a 180) s how (a 173 s) (a 179 1), movesR a s how])) ∨ (¬ (0 ≤ s ∧ s < a 169 3 ∧ 0 ≤ how ∧ how ≤ 2) ∧ z = -1 ∧ c' = c)) := by
  have e := h.town.1
  have n0 := hT.1
  have n6 := hT.2.1
  have e41 := h.set 1 (by decide) (by decide)
  have m1 := hS.2.2.1
  have m4 := hS.2.2.2.1
  refine en_X11_takes (sg_X11_takes_0 (by omega) rs rw' (fun _ _ _ => by constructor <;> omega) (fun p _ _ => by omega) (fun p q => ⟨_, rfl, Or.inr ⟨by omega, rfl, rfl⟩⟩) (fun p q r => ?_) (fun p q r => ⟨_, rfl, Or.inr ⟨by omega, rfl, rfl⟩⟩) (fun p => ⟨_, rfl, Or.inr ⟨by omega, rfl, rfl⟩⟩))
  have m := streetMem s.toNat (by omega)
  have t := hT.2.2.1 s p.1 (by omega)
  have s1 : s < a 169 3 := by omega
  have e4 := (h.town.s p.1 s1 n6).2.2.1
  rw [e41, e4]
  have emax : max 1 (a 179 1) = a 179 1 := by omega
  rw [emax]
  refine ca_X11_takes_57 m100 (ct_lay2 (hill := a 173 s) (men := a 179 1) m100 (thinkFr.town (by decide) h.town) (thinkFr.set (by decide) h.set) (thinkFr.rule (by decide) hR) hT hS p.1 s1 (by omega) (by omega) (up2_same _ _ _ _) (by rw [up2_j (by decide), up2_same]) ⟨by omega, by omega⟩ ⟨by omega, by omega⟩) (fun c2 hz => sg_X11_takes_60 m ?_)
  obtain ⟨z1, z2, -, -⟩ := hz
  refine ca_X11_takes_68 m100 (ct_go (r := emptyRow (a 180)) m100 z1 hT hS p.1 (by omega) ⟨by omega, by omega⟩ (by decide) (er3 hn.r3) (er1 (by omega) (fun k k0 k1 => h.now.out1 p.1 (by omega) k0 k1)) emptyRow_96 (by omega) (by omega)) (fun c3 hc => ?_)
  have f3 := hc.jf (by decide)
  have e18 : c3 100 18 = takesP a v (a 180) s how (a 173 s) (a 179 1) := hc.2.2.2.2.2.2.2.1
  have e11 : c3 100 11 = movesR a s how := by
    rw [hc.2.2.2.2.2.2.2.2.2 11 (by decide)]
    exact z1.2.2.2.2.1
  have mr := movesR_rng (how := how) hT p.1 (by omega : s < 6)
  have hr18 : 0 ≤ takesP a v (a 180) s how (a 173 s) (a 179 1) ∧ takesP a v (a 180) s how (a 173 s) (a 179 1) ≤ 17600 := by
    have g := goes_rng (v := v) (how := how) (full := 1000000) (hill := a 173 s) (men := a 179 1) hT hS p.1 (by omega : s < 6) (er3 hn.r3) (by rw [emptyRow_96]; omega)
    exact hands_rng ⟨by omega, by omega⟩ g.2.2.2.2.1 (by have := g.2.2.2.2.2.1; omega)
  refine sg_X11_takes_71 m (by rw [e18]; constructor <;> omega) (by rw [e11]; constructor <;> omega) ⟨_, rfl, Or.inl ⟨by omega, by rw [e18, e11], ?_⟩⟩
  rw [e18, e11]
  exact CQ.job (by decide) ((thinkFr.trans z2).trans f3) CQ.two
