/-! empty: the public one, and the reference's -/
theorem ct_empty {E : Nat × (Nat → Int32)} {c a : Mem} {v : (Int → Int) → Int} {s how B : Int} (rs : RI s) (rh : RI how) (h : CR0 c a) (hR : RuleC c v) (w : W0 B a) : K_X11_empty E [.ref 0, vi s, vi how] c (fun z c' => (emptyOk a (a 180) s how ∧ z = emptyS a v (a 180) s how ∧ CR0 c' (actU a (emptyR a v (a 180) s how) 4 (rwL [goX a v (a 180) s how 134, goX a v (a 180) s how 135, goX a v (a 180) s how 136, rO (goX a v (a 180) s how) s 16])) ∧ RF c c' ∧ HighEq c c') ∨ (¬ emptyOk a (a 180) s how ∧ z = emptyWhy a (a 180) s how ∧ CQ c c' (a 169 1) (a 170))) := by
  have n6 := w.town.2.1
  refine en_X11_empty (sg_X11_empty_0 (ca_X11_empty_8 (ct_note h.now) (fun c1 hc => sg_X11_empty_11 ?_)))
  obtain ⟨b1, n1⟩ := hc
  refine ca_X11_empty_15 (ct_emptyBins rs rh (note_town h.town n1) (note_set h.set n1) (note_rel h.now n1) (note_rule hR n1) w.town w.set w.now) (fun z c2 hz => sg_X11_empty_18 ?_)
  have f2 : AF c1 c2 := by
    rcases hz with ⟨-, -, -, e, -⟩ | ⟨-, -, e⟩
    · exact e
    · rw [e]; exact AF.of (fun _ _ => rfl)
  have wr := emptyWhy_rng (a := a) (r := a 180) (s := s) (how := how)
  have es : emptyOk a (a 180) s how → 0 ≤ emptyS a v (a 180) s how ∧ emptyS a v (a 180) s how ≤ 17712 := fun o => emptyS_rng w.town w.set w.now o.1.1.1 (by have := o.1.1.2; omega)
  have rz : RI z := by
    rcases hz with ⟨p, e, -, -⟩ | ⟨-, e, -⟩
    · have := es p; rw [e]; constructor <;> omega
    · rw [e]; constructor <;> omega
  refine ca_X11_empty_18 (ct_remember (b := pushU a) rz (f2.hist (note_hist h.hist n1)) w.hist.1 (f2.before b1) (fun _ => pushU_pushed w.hist.1 w.hist.2.1)) (fun z' c3 h3 => ?_)
  obtain ⟨rfl, g1, g2, g3⟩ := h3
  refine sg_X11_empty_21 rz (fun q => ⟨_, rfl, ?_⟩) (fun q => ?_)
  · rcases hz with ⟨p, e, st, -⟩ | ⟨p, e, e2⟩
    · have := es p; omega
    · rw [g1 (by omega), e2]
      exact Or.inr ⟨p, e, act_ref h n1⟩
  · rcases hz with ⟨p, e, st, -, y1, y2, y3, y4, y5, y6⟩ | ⟨p, e, e2⟩
    · have e100 : c3 100 = c2 100 := g3 100 (by decide) (by decide) (by decide)
      rw [e100]
      have s6 : s < 6 := by have := p.1.1.2; omega
      have gr : WkOK (a 180 96) 16 (goX a v (a 180) s how) := goes_rng w.town w.set p.1.1.1 s6 w.now.r3 w.now.2.1
      have rO0 : 0 ≤ rO (goX a v (a 180) s how) s 16 ∧ rO (goX a v (a 180) s how) s 16 ≤ 16 := by
        have := sumI_bound (f := fun h => b01 (goX a v (a 180) s how (16 * s + h) == 1)) (c := 1) (n := 16) (fun i _ _ => b01_rng _)
        unfold rO
        omega
      refine ca_X11_empty_34 (ct_bitCount y2) (fun x c4 hx => ?_)
      obtain ⟨e4, ex⟩ := hx
      subst e4
      rw [y1] at ex
      have x1 := gr.2.2.2.2.2.2.1
      have x2 := gr.2.2.2.2.2.2.2.1
      refine sg_X11_empty_37 (by rw [ex]; constructor <;> omega) ?_
      have e100' : ∀ y : Int, up2 (up2 (up2 c4 0 14 0) 168 0 y) 0 14 1 100 = c2 100 := fun y => by rw [up2_k (by decide), up2_k (by decide), up2_k (by decide), e100]
      rw [e100]
      refine ca_X11_empty_49 (ct_bitCount y4) (fun x5 c5 hx => ?_)
      obtain ⟨e5, ex5⟩ := hx
      subst e5
      rw [y3] at ex5
      have x3 := gr.2.2.2.2.2.2.2.2.1
      have x4 := gr.2.2.2.2.2.2.2.2.2.1
      have x5' := gr.2.2.2.2.2.2.2.2.2.2.1
      have x6 := gr.2.2.2.2.2.2.2.2.2.2.2
      have e014 : up2 (up2 (up2 c4 0 14 0) 168 0 x) 0 14 1 0 14 = 1 := up2_same _ _ _ _
      refine sg_X11_empty_52 (by rw [ex5]; constructor <;> omega) (by rw [e014]; omega) (by rw [e100', y5]; constructor <;> omega) (by rw [e014]; omega) (by rw [e100', y6]; constructor <;> omega) (by rw [e014]; omega) ⟨_, rfl, Or.inl ⟨p, e, ?_⟩⟩
      rw [e014, e100', y5, y6, ex, ex5]
      rw [show (1 : Int) + 1 = 2 from rfl, show (2 : Int) + 1 = 3 from rfl]
      refine act_rel h n1 f2 st (g2 (by omega)) g3 (fun k h0 h8 => by rw [up2_k h0, up2_k h8, up2_k h0, up2_k h8, up2_k h0, up2_k h8, up2_k h0, up2_k h8, up2_k h0]) (up2_same _ _ _ _) (fun j j0 j1 => ?_)
      have : j = 0 ∨ j = 1 ∨ j = 2 ∨ j = 3 := by omega
      rcases this with rfl | rfl | rfl | rfl
      · rw [up2_k (by decide), up2_j (by decide), up2_k (by decide), up2_j (by decide), up2_k (by decide), up2_j (by decide), up2_k (by decide), up2_same]; rfl
      · rw [up2_k (by decide), up2_j (by decide), up2_k (by decide), up2_j (by decide), up2_k (by decide), up2_same]; rfl
      · rw [up2_k (by decide), up2_j (by decide), up2_k (by decide), up2_same]; rfl
      · rw [up2_k (by decide), up2_same]; rfl
    · omega
theorem mt_isBarred {E : Nat × (Nat → Int32)} {m a : Mem} {r : Nat} {s : Int} {r0 : Int → Int} (hl : r < 209) (hs : SH[r]? = some (.inr (0, 99))) (b : MB a m) (hT : WTown a) (s0 : 0 ≤ s) (s6 : s < 6) (e98 : m r 98 = r0 98) : K_X12_isBarred E [.ref 169, .ref r, vi s] m (fun z m' => m' = m ∧ ((barred a r0 s ∧ z = 1) ∨ (¬ barred a r0 s ∧ z = 0))) := by
  have t := hT.2.2.1 s s0 s6
  have tb := t.2.2.2.2.2.2.2.2.2.1
  unfold barOK at tb
  have e6 : m 176 = a 176 := b.2.2.1 176 (by omega) (by omega)
  have e7 : m 177 = a 177 := b.2.2.1 177 (by omega) (by omega)
  have rd : -2147483648 ≤ divI (m r 98) 60 ∧ divI (m r 98) 60 < 2147483648 := iI_rng _
  refine en_X12_isBarred (sg_X12_isBarred_0 hl hs ⟨s0, s6⟩ (by rw [e6]; constructor <;> omega) (fun _ => by rw [e7]; constructor <;> omega) (fun _ => ⟨by omega, by omega⟩) (fun _ => by rw [e6]; constructor <;> omega) (fun _ => by rw [e7]; constructor <;> omega) (fun g => ⟨_, rfl, rfl, Or.inr ⟨?_, rfl⟩⟩) (fun g g2 => ⟨_, rfl, rfl, Or.inl ⟨?_, rfl⟩⟩) (fun g g2 => ⟨_, rfl, rfl, Or.inr ⟨?_, rfl⟩⟩))
  all_goals unfold barred
  all_goals rw [e6] at g
  · omega
  · rw [e6, e7, e98] at g2; omega
  · rw [e6, e7, e98] at g2; omega
theorem mt_empties {E : Nat × (Nat → Int32)} {m a : Mem} {v : (Int → Int) → Int} {s how B : Int} {r0 : Int → Int} (rs : RI s) (rh : RI how) (b : MB a m) (hR : RuleM a v) (hT : WTown a) (hS : WSet a) (er : ∀ b : Int, 0 ≤ b → b < 99 → m 180 b = r0 b) (hn : StOK B a r0) (hB : B ≤ 1000000000) :
    K_X12_empties E [.ref 169, vi s, vi how] m (fun z m' => (emptyOk a r0 s how ∧ z = emptyS a v r0 s how ∧ (∀ b : Int, 0 ≤ b → b < 99 → m' 180 b = emptyR a v r0 s how b) ∧ m' 169 34 = goX a v r0 s how 134 ∧ m' 169 35 = goX a v r0 s how 135 ∧ m' 169 36 = goX a v r0 s how 136 ∧ (∀ k, k ≠ 180 → k ≠ 169 → k ≠ 187 → k ≠ 188 → m' k = m k) ∧ ∀ j : Int, (j < 30 ∨ 37 < j) → m' 169 j = m 169 j) ∨ (¬ emptyOk a r0 s how ∧ z = emptyWhy a r0 s how ∧ m' = m)) := by
  have n0 := hT.1
  have n6 := hT.2.1
  have e3 : m 169 3 = a 169 3 := b.1
  have e71 : m 171 = a 171 := b.2.2.1 171 (by omega) (by omega)
  have e73 : m 173 = a 173 := b.2.2.1 173 (by omega) (by omega)
  have e79 : m 179 = a 179 := b.2.2.1 179 (by omega) (by omega)
  have r97 := hn.2.2.2.1
  have r97' := hn.2.2.2.2.1
  have e97 := er 97 (by decide) (by decide)
  have := rs.1; have := rs.2; have := rh.1; have := rh.2
  have m1 := hS.2.2.1
  have m4 := hS.2.2.2.1
  have f1 := hS.1
  have f2 := hS.2.1
  refine en_X12_empties (sg_X12_empties_0 ?_)
  have why : K_X12_whyNot E [.ref 169, vi s, vi how] m (fun z m' => m' = m ∧ ((emptyOk a r0 s how ∧ z = 0) ∨ (¬ emptyOk a r0 s how ∧ z = emptyWhy a r0 s how))) := by
    have no : ¬ ((0 ≤ s ∧ s < a 169 3) ∧ 0 ≤ how ∧ how ≤ 2) → m = m ∧ ((emptyOk a r0 s how ∧ (-1 : Int) = 0) ∨ (¬ emptyOk a r0 s how ∧ (-1 : Int) = emptyWhy a r0 s how)) := fun q => ⟨rfl, Or.inr ⟨fun o => q o.1, by unfold emptyWhy; rw [if_neg q]⟩⟩
    refine en_X12_whyNot (sg_X12_whyNot_0 (by rw [e3]; constructor <;> omega) rs rh ⟨by omega, by omega⟩ (fun p _ => by omega) (fun p _ => by rw [e97]; constructor <;> omega) (fun p _ => by rw [e71]; have := hT.2.2.1 s p.1 (by omega); constructor <;> omega) (fun p q g => ?_) (fun p q g => ⟨_, rfl, rfl, Or.inr ?_⟩) (fun p q => ⟨_, rfl, no (by omega)⟩) (fun p => ⟨_, rfl, no (by omega)⟩))
    · rw [e97, e71] at g
      refine ca_X12_whyNot_51 (mt_isBarred (r := 180) (r0 := r0) (by decide) (by decide) b hT p.1 (by omega) (er 98 (by decide) (by decide))) (fun z m2 hz => ?_)
      obtain ⟨rfl, hz⟩ := hz
      rcases hz with ⟨p1, e⟩ | ⟨p1, e⟩
      · refine sg_X12_whyNot_54 (by rw [e]; decide) ⟨_, rfl, rfl, Or.inr ⟨fun o => o.2.2 p1, ?_⟩⟩
        rw [e, if_neg (show ¬ (1 : Int) = 0 by decide)]
        unfold emptyWhy
        rw [if_pos (by omega), if_pos g]
      · refine sg_X12_whyNot_54 (by rw [e]; decide) ⟨_, rfl, rfl, Or.inl ⟨⟨⟨⟨p.1, by omega⟩, q⟩, g, p1⟩, ?_⟩⟩
        rw [e]
        rfl
    · rw [e97, e71] at g
      refine ⟨fun o => g o.2.1, ?_⟩
      unfold emptyWhy
      rw [if_pos (by omega), if_neg g]
  refine ca_X12_empties_3 why (fun z m2 hz => ?_)
  obtain ⟨rfl, hz⟩ := hz
  have wr := emptyWhy_rng (a := a) (r := r0) (s := s) (how := how)
  rcases hz with ⟨o, e⟩ | ⟨o, e⟩
  · have s0 := o.1.1.1
    have s1 := o.1.1.2
    have h0 := o.1.2.1
    have h2 := o.1.2.2
    have t := hT.2.2.1 s s0 (by omega)
    refine sg_X12_empties_6 (by rw [e]; decide) (fun _ => by omega) (fun _ => ?_) (fun q => by omega)
    rw [e79, e73]
    generalize hM : up2 (up2 m2 169 30 (a 179 1)) 169 31 (a 173 s) = M
    have M1 : ∀ k, k ≠ 169 → M k = m2 k := fun k q => by rw [← hM, up2_k q, up2_k q]
    have M2 : ∀ j : Int, j ≠ 30 → j ≠ 31 → M 169 j = m2 169 j := fun j q1 q2 => by rw [← hM, up2_j q2, up2_j q1]
    have M31 : M 169 31 = a 173 s := by rw [← hM, up2_same]
    have M30 : M 169 30 = a 179 1 := by rw [← hM, up2_j (by decide), up2_same]
    clear hM
    have bM : MB a M := b.trans ⟨M2 3 (by decide) (by decide), M2 26 (by decide) (by decide), fun k _ _ => M1 k (by omega), M1 185 (by decide)⟩
    have Me : ∀ c : Int, 0 ≤ c → c < 99 → M 180 c = r0 c := fun c c0 c1 => by rw [M1 180 (by decide)]; exact er c c0 c1
    have g := mt_streetGoes (E := E) (m := M) (r := 180) (v := v) (s := s) (how := how) (full := a 179 0) (by decide) (by decide) (bM.rule hR) (bM.town hT) (bM.set hS) s0 (by omega) h0 h2 ⟨by omega, by omega⟩ (by rw [M31]; constructor <;> omega) (by rw [M30]; omega) (fun c c0 c1 => by rw [Me c c0 (by omega)]; exact hn.r3 c c0 c1) (by rw [Me 96 (by decide) (by decide)]; exact hn.2.1) (by rw [Me 96 (by decide) (by decide)]; exact hn.2.2.1)
    have eg : goesR M v (M 180) s how (a 179 0) = goX a v r0 s how := by
      show goesP M v (M 180) s how (a 179 0) (M 169 31) (M 169 30) = _
      rw [M31, M30, goesP_congr (b := a) (bM.2.2.1 172 (by omega) (by omega)) (bM.2.2.1 178 (by omega) (by omega)) (bM.2.2.1 179 (by omega) (by omega))]
      unfold goX goesP
      rw [x0_congr Me]
    have eh : ∀ x, handsR M x = handsP (a 179 1) x := fun x => by unfold handsR handsP; rw [M30]
    have em : movesR M s how = movesR a s how := by unfold movesR; rw [bM.2.2.1 172 (by omega) (by omega), bM.2.2.1 174 (by omega) (by omega)]
    rw [eg, eh, em] at g
    refine ca_X12_empties_31 g (fun y m3 hy => sg_X12_empties_34 ⟨_, rfl, Or.inl ?_⟩)
    obtain ⟨y1, y2, y3, y4, y5, y6, y7, y8, y9, y10⟩ := hy
    have y1 : y = emptyS a v r0 s how := y1
    refine ⟨o, y1, fun c c0 c1 => ?_, ?_, ?_, ?_, fun k q1 q2 q3 q4 => by rw [up2_k q1, y9 k q1 q2 q3 q4, M1 k q2], fun j hj => by rw [up2_k (by decide), y10 j (by omega) (by omega) (by omega) (by omega) (by omega) (by omega), M2 j (by omega) (by omega)]⟩
    · unfold emptyR
      by_cases q : c = 98
      · subst q
        have g98 : goX a v r0 s how 98 = r0 98 := (goes_all hT s0 (by omega)).2.2.1
        rw [up2_same, pt_same, y4 98 (by decide) (by decide), y1, g98]
      · rw [up2_j q, pt_ne q]; exact y4 c c0 c1
    · rw [up2_k (by decide)]; exact y5
    · rw [up2_k (by decide)]; exact y6
    · rw [up2_k (by decide)]; exact y7
  · refine sg_X12_empties_6 (by rw [e]; constructor <;> omega) (by omega) (by omega) (fun _ => ⟨_, rfl, Or.inr ⟨o, e, rfl⟩⟩)
theorem mt_empty {E : Nat × (Nat → Int32)} {m a : Mem} {v : (Int → Int) → Int} {s how B : Int} (rs : RI s) (rh : RI how) (hm : HighEq a m) (hR : RuleM a v) (w : W0 B a) (hB : B ≤ 1000000000) : K_X12_empty E [.ref 169, vi s, vi how] m (fun z m' => (emptyOk a (a 180) s how ∧ z = emptyS a v (a 180) s how ∧ PEq m' (actU m (emptyR a v (a 180) s how) 4 (rwL [goX a v (a 180) s how 134, goX a v (a 180) s how 135, goX a v (a 180) s how 136, rO (goX a v (a 180) s how) s 16])) ∧ LowEq m m') ∨ (¬ emptyOk a (a 180) s how ∧ z = emptyWhy a (a 180) s how ∧ PEq m' m ∧ LowEq m m')) := by
  have e9 := hm 169 (by decide)
  have u0 := w.hist.1
  have u1 := w.hist.2.1
  have n6 := w.town.2.1
  refine en_X12_empty (sg_X12_empty_0 ?_)
  refine ca_X12_empty_6 (ct_putsBy (by rw [up2_j (by decide), e9]; exact u0) (by rw [up2_j (by decide), e9]; exact u1)) (fun m1 h1 => sg_X12_empty_9 ?_)
  have k1 : ∀ k, k ≠ 169 → k ≠ 190 → m1 k = m k := fun k h h2 => by rw [h1]; exact by_k h h2
  have f1 : ∀ j : Int, j ≠ 0 → m1 169 j = m 169 j := fun j h => by rw [h1]; exact by_f h
  have x1 : m1 190 = mv m 180 0 190 (99 * m 169 40) 99 190 := by rw [h1]; exact by_190
  have p1 : PEq m1 m := by
    rw [h1]
    exact putsBy_peq.trans (PEq.field npf0)
  clear h1
  have y180 : m1 180 = a 180 := by rw [k1 180 (by decide) (by decide), hm 180 (by decide)]
  have l1 : LowEq m m1 := fun k hk => k1 k (by omega) (by omega)
  have bM : MB a m1 := hm.mb.trans ⟨f1 3 (by decide), f1 26 (by decide), fun k _ _ => k1 k (by omega) (by omega), k1 185 (by decide) (by decide)⟩
  refine ca_X12_empty_12 (mt_empties (r0 := a 180) rs rh bM hR w.town w.set (fun c _ _ => by rw [y180]) w.now hB) (fun z m2 hz => ?_)
  have wr := emptyWhy_rng (a := a) (r := a 180) (s := s) (how := how)
  rcases hz with ⟨o, e, z1, z2, z3, z4, z5, z6⟩ | ⟨o, e, e2⟩
  · have s0 := o.1.1.1
    have s6 : s < 6 := by have := o.1.1.2; omega
    have es := emptyS_rng (v := v) (how := how) w.town w.set w.now s0 s6
    have gr : WkOK (a 180 96) 16 (goX a v (a 180) s how) := goes_rng w.town w.set s0 s6 w.now.r3 w.now.2.1
    have ok := emptyR_ok (v := v) (how := how) w.town w.set w.now s0 s6 (Int.le_refl _)
    have x1' := gr.2.2.2.2.2.2.1
    have x2 := gr.2.2.2.2.2.2.2.1
    have x3 := gr.2.2.2.2.2.2.2.2.1
    have x4 := gr.2.2.2.2.2.2.2.2.2.1
    have x5 := gr.2.2.2.2.2.2.2.2.2.2.1
    have x6 := gr.2.2.2.2.2.2.2.2.2.2.2
    refine sg_X12_empty_15 (by rw [e]; constructor <;> omega) (fun _ => by rw [z2]; constructor <;> omega) (fun _ => by rw [z3]; constructor <;> omega) (fun _ => by rw [z4]; constructor <;> omega) (by omega) (fun _ => ?_)
    rw [z2, z3, z4]
    generalize hM : up2 (up2 (up2 (up2 (up2 (up2 (up2 m2 169 1 0) 170 0 (goX a v (a 180) s how 134)) 169 1 1) 170 1 (goX a v (a 180) s how 135)) 169 1 2) 170 2 (goX a v (a 180) s how 136)) 169 1 3 = M
    have M1 : ∀ k, k ≠ 169 → k ≠ 170 → M k = m2 k := fun k q q0 => by rw [← hM, up2_k q, up2_k q0, up2_k q, up2_k q0, up2_k q, up2_k q0, up2_k q]
    have M2 : ∀ j : Int, j ≠ 1 → M 169 j = m2 169 j := fun j q => by rw [← hM, up2_j q, up2_k (by decide), up2_j q, up2_k (by decide), up2_j q, up2_k (by decide), up2_j q]
    have M01 : M 169 1 = 3 := by rw [← hM, up2_same]
    have M70 : ∀ j : Int, 0 ≤ j → j < 3 → M 170 j = rwL [goX a v (a 180) s how 134, goX a v (a 180) s how 135, goX a v (a 180) s how 136, rO (goX a v (a 180) s how) s 16] j := fun j j0 j1 => by
      have : j = 0 ∨ j = 1 ∨ j = 2 := by omega
      rw [← hM]
      rcases this with rfl | rfl | rfl
      · rw [up2_k (by decide), up2_j (by decide), up2_k (by decide), up2_j (by decide), up2_k (by decide), up2_same]; rfl
      · rw [up2_k (by decide), up2_j (by decide), up2_k (by decide), up2_same]; rfl
      · rw [up2_k (by decide), up2_same]; rfl
    clear hM
    have Me : ∀ c : Int, 0 ≤ c → c < 99 → M 180 c = emptyR a v (a 180) s how c := fun c c0 c1 => by rw [M1 180 (by decide) (by decide)]; exact z1 c c0 c1
    refine ca_X12_empty_59 (mt_outOf (r := 180) (by decide) (by decide) s0 s6 (fun c c0 c1 => by rw [Me c c0 (by omega)]; exact ok.ri c0 c1)) (fun y m3 hy => ?_)
    obtain ⟨e3, ey⟩ := hy
    subst e3
    have ey : y = rO (goX a v (a 180) s how) s 16 := by
      rw [ey]
      refine sumI_congr (fun c c0 c1 => ?_)
      show b01 (m3 180 (16 * s + c) == 1) = b01 (goX a v (a 180) s how (16 * s + c) == 1)
      rw [Me _ (by omega) (by omega)]
      unfold emptyR
      rw [pt_ne (by omega)]
    have rO0 : 0 ≤ rO (goX a v (a 180) s how) s 16 ∧ rO (goX a v (a 180) s how) s 16 ≤ 16 := by
      have := sumI_bound (f := fun h => b01 (goX a v (a 180) s how (16 * s + h) == 1)) (c := 1) (n := 16) (fun i _ _ => b01_rng _)
      unfold rO
      omega
    refine sg_X12_empty_62 (by rw [ey]; constructor <;> omega) (by rw [M01]; omega) ?_
    rw [M01, ey]
    have c40 : up2 (up2 m3 170 3 (rO (goX a v (a 180) s how) s 16)) 169 1 4 169 40 = m 169 40 := by
      rw [up2_j (by decide), up2_k (by decide), M2 40 (by decide), z6 40 (by omega), f1 40 (by decide)]
    refine ca_X12_empty_68 (mt_counts0 (by rw [e]; omega) (by rw [e]; constructor <;> omega) (by show 0 ≤ up2 (up2 m3 170 3 (rO (goX a v (a 180) s how) s 16)) 169 1 4 169 40; rw [c40, e9]; exact u0) (by show up2 (up2 m3 170 3 (rO (goX a v (a 180) s how) s 16)) 169 1 4 169 40 ≤ 15; rw [c40, e9]; exact u1)) (fun x m4 hx => sg_X12_empty_71 ⟨_, rfl, Or.inl ?_⟩)
    obtain ⟨ex, e4⟩ := hx
    refine ⟨o, ex.trans e, ?_, fun k hk => ?_⟩
    · rw [e4]
      refine act_peq ?_ c40 (fun c c0 c1 => ?_) (fun k hk h9 h0 h8 h19 => ?_) (fun j hj h1 h40 => ?_) (up2_same _ _ _ _) (fun j j0 j1 => ?_)
      · rw [up2_k (by decide), up2_k (by decide), M1 190 (by decide) (by decide), z5 190 (by decide) (by decide) (by decide) (by decide), x1]
      · rw [up2_k (by decide), up2_k (by decide)]; exact Me c c0 c1
      · have := hk.not
        rw [up2_k h9, up2_k h0, M1 k h9 h0, z5 k h8 h9 (by omega) (by omega), k1 k h9 h19]
      · have := hj.not
        rw [up2_j h1, up2_k (by decide), M2 j h1, z6 j (by omega), f1 j (by omega)]
      · rw [up2_k (by decide)]
        by_cases c : j = 3
        · subst c; rw [up2_same]; rfl
        · rw [up2_j c]; exact M70 j j0 (by omega)
    · rw [e4, addU_low hk, up2_k (by omega), up2_k (by omega), M1 k (by omega) (by omega), z5 k (by omega) (by omega) (by omega) (by omega), l1 k hk]
  · refine sg_X12_empty_15 (by rw [e]; constructor <;> omega) (by omega) (by omega) (by omega) (fun _ => ?_) (by omega)
    refine ca_X12_empty_68 (mt_counts1 (by rw [e]; omega) (by rw [e]; constructor <;> omega)) (fun y m4 hy => sg_X12_empty_71 ⟨_, rfl, Or.inr ?_⟩)
    obtain ⟨rfl, rfl⟩ := hy
    rw [e2]
    exact ⟨o, e, p1, l1⟩
