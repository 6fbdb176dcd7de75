/-! orders: the reference's side, the way of a list -/
def trow (r : Int → Int) : Tr := (r 96, r 97, r 98)
theorem ok_tr {W : Int} {a : Mem} {r r' : Int → Int} (h : StOK W a r) (e : ∀ b : Int, 0 ≤ b → b < 96 → r' b = r b) {W2 : Int} (t : trOK W2 (trow r')) : StOK W2 a r' := by
  obtain ⟨h1, h2, h3, h4, h5, h6⟩ := t
  exact ⟨fun b b0 b1 => by rw [e b b0 b1]; exact h.1 b b0 b1, h1, h2, h3, h4, h5, h6⟩
theorem mt_goesRound {E : Nat × (Nat → Int32)} {m a : Mem} {v : (Int → Int) → Int} {r : Int → Int} {B : Int} {p : List Int} (b : MB a m) (hR : RuleM a v) (hT : WTown a) (hS : WSet a) (hn : StOK B a r) (hB : B ≤ 1000000000) (er : ∀ b : Int, 0 ≤ b → b < 99 → m 181 b = r b) (e52 : m 169 52 = p.length) (e195 : ∀ j : Nat, j < p.length → m 195 j = p.getD j 0) (hp : ∀ s ∈ p, 0 ≤ s ∧ s < 6) (hl : p.length ≤ 6) (nd : ∀ i j : Nat, i < j → j < p.length → p.getD i 0 ≠ p.getD j 0) : K_X12_goesRound E [.ref 169] m (fun z m' => GF m m' ∧ (∃ W, StOK W a (m' 181)) ∧ ((∃ t', oEnd a v r p (trow r) = some t' ∧ z = t'.2.2 - r 98 ∧ m' 169 50 = oTips a v r p (trow r) + 1 ∧ sumI (fun i => rO (m' 181) (p.getD i.toNat 0) 16) p.length = oStays a v r p (trow r)) ∨ (oEnd a v r p (trow r) = none ∧ z = -200))) := by
  refine en_X12_goesRound (sg_X12_goesRound_0 ?_)
  rw [er 98 (by decide) (by decide)]
  have m50 : up2 m 169 50 0 169 50 = 0 := up2_same _ _ _ _
  have G0 : GF m (up2 m 169 50 0) := ⟨fun k _ _ q3 _ _ => up2_k q3, fun j _ _ _ q4 => up2_j q4⟩
  have key : ∀ (q : List Int) (i : Nat) (m2 : Mem) (x y : Int), p.drop i = q → i + q.length = p.length → StOK (B + 80290 * i) a (m2 181) → (∀ j : Nat, i ≤ j → j < p.length → ∀ h : Int, 0 ≤ h → h < 16 → m2 181 (16 * p.getD j 0 + h) = r (16 * p.getD j 0 + h)) → GF m m2 → m2 169 50 = x → sumI (fun i => rO (m2 181) (p.getD i.toNat 0) 16) i = y → oEnd a v r p (trow r) = oEnd a v r q (trow (m2 181)) → oTips a v r p (trow r) = x + oTips a v r q (trow (m2 181)) → oStays a v r p (trow r) = y + oStays a v r q (trow (m2 181)) → GM E (m_X12_goesRound 8) (Pi fun z m' => GF m m' ∧ (∃ W, StOK W a (m' 181)) ∧ ((∃ t', oEnd a v r p (trow r) = some t' ∧ z = t'.2.2 - r 98 ∧ m' 169 50 = oTips a v r p (trow r) + 1 ∧ sumI (fun i => rO (m' 181) (p.getD i.toNat 0) 16) p.length = oStays a v r p (trow r)) ∨ (oEnd a v r p (trow r) = none ∧ z = -200))) 15 [.ref 169, vi (r 98), vi (i : Int), un] [] m2 := by
    intro q
    induction q with
    | nil =>
      intro i m2 x y hd hi ok same G x50 ys e1 e2 e3
      have hi : i + 0 = p.length := hi
      have b2 := b.trans G.mb
      have e52' : m2 169 52 = p.length := by rw [G.2 52 (by omega) (by decide) (by decide) (by decide), e52]
      refine sg_X12_goesRound_15 ⟨by omega, by omega⟩ (by rw [e52']; constructor <;> omega) (by rw [e52']; omega) (by rw [e52']; omega) (by rw [e52']; omega) (by rw [e52']; omega) (fun _ => ?_) (by rw [e52']; omega) (by rw [e52']; omega)
      have eE : oEnd a v r [] (trow (m2 181)) = oLast a (trow (m2 181)) := rfl
      rw [eE] at e1
      have e2 : oTips a v r p (trow r) = x + 0 := e2
      have e3 : oStays a v r p (trow r) = y + 0 := e3
      refine ca_X12_goesRound_201 (mt_tips (a := a) (r := 181) (by decide) (by decide) (b2.2.2.1 179 (by omega) (by omega)) hS ⟨ok.2.2.2.1, ok.2.2.2.2.1⟩) (fun z m3 hz => ?_)
      have tk := oTip_ok hS (t := trow (m2 181)) ⟨ok.2.1, ok.2.2.1, ok.2.2.2.1, ok.2.2.2.2.1, ok.2.2.2.2.2.1, ok.2.2.2.2.2.2⟩
      rcases hz with ⟨o, ez, er3', -, gk, gj⟩ | ⟨o, ez, rfl⟩
      · have o' : oOpen a (trow (m2 181)) := o
        have d0 : 0 ≤ tipD a (m2 181) := (dist_rng ok.2.2.2.1 ok.2.2.2.2.1 hS.2.2.2.2.2.2.2.2.2.2.1 hS.2.2.2.2.2.2.2.2.2.2.2.1).1
        have d1 : tipD a (m2 181) ≤ 990 := (dist_rng ok.2.2.2.1 ok.2.2.2.2.1 hS.2.2.2.2.2.2.2.2.2.2.1 hS.2.2.2.2.2.2.2.2.2.2.2.1).2
        have bins : ∀ b : Int, b < 96 → m3 181 b = m2 181 b := fun b hb => by rw [er3' b]; exact lorry_b hb
        refine sg_X12_goesRound_204 (by rw [ez]; constructor <;> omega) (fun _ => ⟨_, rfl, G.trans ⟨fun k q1 _ q3 _ _ => by rw [up2_k q3, gk k q1 q3], fun j _ _ q3 q4 => by rw [up2_j q4, gj j q3]⟩, ⟨B + 80290 * i + 1290, ?_⟩, Or.inl ⟨_, by rw [e1]; unfold oLast; rw [if_pos o'], ?_, ?_, ?_⟩⟩) (by rw [ez]; omega)
        · rw [up2_k (by decide)]
          refine ok_tr ok (fun b _ b1 => bins b b1) ?_
          have : trow (m3 181) = oTip a (trow (m2 181)) := by
            unfold trow
            rw [er3' 96, er3' 97, er3' 98]
            unfold tipR
            rw [lorry_l, lorry_p, lorry_w]
            show (0, a 179 5, m2 181 98 + (tipD a (m2 181) + 300)) = (0, a 179 5, m2 181 98 + tipD a (m2 181) + 300)
            rw [Int.add_assoc]
          rw [this]; exact tk.1
        · have : m3 181 98 = m2 181 98 + (tipD a (m2 181) + 300) := by rw [er3' 98]; exact lorry_w
          rw [this]
          show m2 181 98 + (tipD a (m2 181) + 300) - r 98 = (m2 181 98 + tipD a (m2 181) + 300) - r 98
          omega
        · rw [up2_same, gj 50 (by decide), x50, e2]; omega
        · rw [e3, ← ys, up2_k (by decide), show p.length = i by omega]
          rw [sumI_congr (g := fun j => rO (m2 181) (p.getD j.toNat 0) 16) (fun j j0 j1 => rO_same (fun h h0 h1 => bins _ (by
            have := hp _ (getD_mem0 (l := p) (j := j.toNat) (by omega))
            omega)))]
          omega
      · exact sg_X12_goesRound_204 (by rw [ez]; constructor <;> omega) (by rw [ez]; omega) (fun _ => ⟨_, rfl, G, ⟨_, ok⟩, Or.inr ⟨by rw [e1]; unfold oLast; rw [if_neg (show ¬ oOpen a (trow (m3 181)) from o)], rfl⟩⟩)
    | cons s q ih =>
      intro i m2 x y hd hi ok same G x50 ys e1 e2 e3
      have hi : i + (q.length + 1) = p.length := hi
      obtain ⟨d1, d2, d3⟩ := drop_cons hd
      have hs : 0 ≤ s ∧ s < 6 := hp s (by rw [← d1]; exact getD_mem0 d3)
      have b2 := b.trans G.mb
      have e52' : m2 169 52 = p.length := by rw [G.2 52 (by omega) (by decide) (by decide) (by decide), e52]
      have es : m2 195 i = s := by rw [G.1 195 (by decide) (by decide) (by decide) (by decide) (by decide), e195 i d3, d1]
      have e71 : m2 171 s = a 171 s := by rw [b2.2.2.1 171 (by omega) (by omega)]
      have t := hT.2.2.1 s hs.1 hs.2
      have sames : ∀ h : Int, 0 ≤ h → h < 16 → m2 181 (16 * s + h) = r (16 * s + h) := fun h h0 h1 => by have := same i (Nat.le_refl _) d3 h h0 h1; rw [d1] at this; exact this
      have ok2 := ok
      obtain ⟨okb, l0, l1, p0, p1, w0, w1⟩ := ok2
      have tail : ∀ (c0 : Mem), GF m2 c0 → (∀ b : Int, 0 ≤ b → b < 96 → c0 181 b = m2 181 b) → trOK (B + 80290 * i + 1290) (trow (c0 181)) → c0 169 50 = x + oTipped a r s (trow (m2 181)) → oVisit a v r s (trow (m2 181)) = some (oGo a v r s (trow (c0 181))) → oStay a v r s (trow (m2 181)) = rO (oX a v r s (c0 181 96)) s 16 → GM E (m_X12_goesRound 8) (Pi fun z m' => GF m m' ∧ (∃ W, StOK W a (m' 181)) ∧ ((∃ t', oEnd a v r p (trow r) = some t' ∧ z = t'.2.2 - r 98 ∧ m' 169 50 = oTips a v r p (trow r) + 1 ∧ sumI (fun i => rO (m' 181) (p.getD i.toNat 0) 16) p.length = oStays a v r p (trow r)) ∨ (oEnd a v r p (trow r) = none ∧ z = -200))) 118 [.ref 169, vi (r 98), vi (i : Int), vi s] [vi s, .ref 181, .ref 169, vi 98, .ref 181] (up2 (up2 c0 181 97 (a 171 s)) 181 98 (c0 181 98 + dist (c0 181 97) (a 171 s))) := by
        intro c0 F bins tk u50 vis sty
        obtain ⟨k0, k1, k2, k3, k4, k5⟩ := tk
        have k0 : 0 ≤ c0 181 96 := k0
        have k1 : c0 181 96 ≤ 999 := k1
        have k2 : 0 ≤ c0 181 97 := k2
        have k3 : c0 181 97 ≤ 99 := k3
        have k4 : 0 ≤ c0 181 98 := k4
        have k5 : c0 181 98 ≤ B + 80290 * i + 1290 := k5
        have dr := dist_rng k2 k3 t.1 t.2.1
        generalize hc : up2 (up2 c0 181 97 (a 171 s)) 181 98 (c0 181 98 + dist (c0 181 97) (a 171 s)) = c3
        have c98 : c3 181 98 = c0 181 98 + dist (c0 181 97) (a 171 s) := by rw [← hc, up2_same]
        have c97 : c3 181 97 = a 171 s := by rw [← hc, up2_j (by decide), up2_same]
        have cb : ∀ b : Int, b ≠ 97 → b ≠ 98 → c3 181 b = c0 181 b := fun b h1 h2 => by rw [← hc, up2_j h2, up2_j h1]
        have F3 : GF c0 c3 := ⟨fun k q1 _ _ _ _ => by rw [← hc, up2_k q1, up2_k q1], fun j _ _ _ _ => by rw [← hc, up2_k (by decide), up2_k (by decide)]⟩
        have c50 : c3 169 50 = c0 169 50 := by rw [← hc, up2_k (by decide), up2_k (by decide)]
        clear hc
        have binsm : ∀ b : Int, 0 ≤ b → b < 96 → c3 181 b = m2 181 b := fun b b0 b1 => by rw [cb b (by omega) (by omega), bins b b0 b1]
        have st3 : StOK (B + 80290 * i + 2280) a (c3 181) := ok_tr ok binsm (by
          unfold trow
          rw [cb 96 (by decide) (by decide), c97, c98]
          exact ⟨k0, k1, t.1, t.2.1, by show 0 ≤ c0 181 98 + dist (c0 181 97) (a 171 s); omega, by show c0 181 98 + dist (c0 181 97) (a 171 s) ≤ B + 80290 * i + 2280; omega⟩)
        have Fm := F.trans F3
        refine mt_arrive (b2.trans Fm.mb) hR hT hS hs.1 hs.2 st3 (fun c4 h4 F4 f50 => ?_)
        have how : bestH (BT a v (c3 181) s) = oHow a v r s := by
          unfold oHow
          rw [BT_same (r' := r) hT hs.1 hs.2 (fun h h0 h1 => by rw [binsm _ (by omega) (by omega)]; exact sames h h0 h1)]
        rw [how] at h4
        have wtb : ∀ b : Int, b < 96 → pt (c3 181) 98 (oWait a s (c3 181 98)) b = c3 181 b := fun b hb => pt_ne (by omega)
        obtain ⟨r1, r2, r3, r4, r5⟩ := rowStep (v := v) (r := r) (wt := pt (c3 181) 98 (oWait a s (c3 181 98))) (l := c0 181 96) hT hs.1 hs.2 (fun h h0 h1 => by rw [wtb _ (by omega), binsm _ (by omega) (by omega)]; exact sames h h0 h1) (by rw [pt_ne (by decide), cb 96 (by decide) (by decide)]) rfl
        have e4 : trow (c4 181) = oGo a v r s (trow (c0 181)) := by
          unfold trow
          rw [h4 96 (by decide) (by decide), h4 97 (by decide) (by decide), h4 98 (by decide) (by decide), r1, r2, r3, pt_ne (by decide), c97, pt_same, c98]
          rfl
        have v4 : trOK (B + 80290 * i + 1290 + 79000) (trow (c4 181)) := by rw [e4]; exact oGo_ok hT hS hn hs.1 hs.2 ⟨k0, k1, k2, k3, k4, k5⟩
        have st4 : StOK (B + 80290 * ((i + 1 : Nat) : Int)) a (c4 181) := by
          have wo : StOK (B + 80290 * i + 2280 + 60000) a (pt (c3 181) 98 (oWait a s (c3 181 98))) := by
            refine ok_tr st3 (fun b _ b1 => wtb b b1) ?_
            have tb := t.2.2.2.2.2.2.2.2.2.1
            unfold barOK at tb
            have h98 := st3.2.2.2.2.2
            have ww : 0 ≤ oWait a s (c3 181 98) ∧ oWait a s (c3 181 98) ≤ B + 80290 * i + 2280 + 60000 := by
              unfold oWait
              split <;> omega
            unfold trow
            rw [pt_ne (by decide), pt_ne (by decide), pt_same]
            exact ⟨st3.2.1, st3.2.2.1, st3.2.2.2.1, st3.2.2.2.2.1, ww.1, ww.2⟩
          exact (emptyR_ok (v := v) (how := oHow a v r s) hT hS wo hs.1 hs.2 (B2 := B + 80290 * ((i + 1 : Nat) : Int)) (by omega)).congr h4 (fun _ _ _ => rfl)
        have far : ∀ j : Nat, j < p.length → j ≠ i → ∀ h : Int, 0 ≤ h → h < 16 → c4 181 (16 * p.getD j 0 + h) = m2 181 (16 * p.getD j 0 + h) := fun j hj ne h h0 h1 => by
          have pj := hp _ (getD_mem0 hj)
          have dj : p.getD j 0 ≠ s := by
            rw [← d1]
            by_cases c : i < j
            · exact fun o => nd i j c hj o.symm
            · exact nd j i (by omega) d3
          rw [h4 _ (by omega) (by omega), r4 _ (by omega) (by omega) (by omega), wtb _ (by omega), binsm _ (by omega) (by omega)]
        rw [show (i : Int) + 1 = ((i + 1 : Nat) : Int) by omega]
        refine ih (i + 1) c4 (x + oTipped a r s (trow (m2 181))) (y + oStay a v r s (trow (m2 181))) d2 (by omega) st4 (fun j j0 j1 h h0 h1 => by rw [far j j1 (by omega) h h0 h1]; exact same j (by omega) j1 h h0 h1) (G.trans (Fm.trans F4)) (by rw [f50, c50, u50]) ?_ ?_ ?_ ?_
        · rw [sumI, sumI_congr (g := fun j => rO (m2 181) (p.getD j.toNat 0) 16) (fun j j0 j1 => rO_same (fun h h0 h1 => far j.toNat (by omega) (by omega) h h0 h1)), ys, sty, ← r5]
          have : ((i : Int)).toNat = i := by omega
          rw [this, d1]
          have : rO (c4 181) s 16 = rO (emptyR a v (pt (c3 181) 98 (oWait a s (c3 181 98))) s (oHow a v r s)) s 16 := rO_same (fun h h0 h1 => h4 _ (by omega) (by omega))
          rw [this]
        · rw [e1, e4]
          unfold oEnd
          rw [oPath, vis]
          rfl
        · rw [e2, e4, oTips, vis]; dsimp only; omega
        · rw [e3, e4, oStays, vis]; dsimp only; omega
      have no : ¬ oNeeds a r s (trow (m2 181)) → GM E (m_X12_goesRound 8) (Pi fun z m' => GF m m' ∧ (∃ W, StOK W a (m' 181)) ∧ ((∃ t', oEnd a v r p (trow r) = some t' ∧ z = t'.2.2 - r 98 ∧ m' 169 50 = oTips a v r p (trow r) + 1 ∧ sumI (fun i => rO (m' 181) (p.getD i.toNat 0) 16) p.length = oStays a v r p (trow r)) ∨ (oEnd a v r p (trow r) = none ∧ z = -200))) 118 [.ref 169, vi (r 98), vi (i : Int), vi s] [vi s, .ref 181, .ref 169, vi 98, .ref 181] (up2 (up2 m2 181 97 (a 171 s)) 181 98 (m2 181 98 + dist (m2 181 97) (a 171 s))) := fun g => by
        refine tail m2 GF.rf (fun _ _ _ => rfl) ⟨l0, l1, p0, p1, w0, by show m2 181 98 ≤ _; omega⟩ ?_ ?_ ?_
        · unfold oTipped; rw [if_neg g, x50]; omega
        · unfold oVisit oSt; rw [if_neg g]; rfl
        · unfold oStay; rw [if_neg g]; rfl
      have f0 := hS.1
      have f1 := hS.2.1
      have e79 : m2 179 0 = a 179 0 := by rw [b2.2.2.1 179 (by omega) (by omega)]
      refine sg_X12_goesRound_15 ⟨by omega, by omega⟩ (by rw [e52']; constructor <;> omega) (fun _ => by omega) (fun _ => ⟨by omega, by omega⟩) (fun _ _ => by rw [es]; exact hs) (fun _ _ => by rw [es, e71]; constructor <;> omega) (by rw [e52']; omega) (fun _ g => ?_) (fun _ g => ?_)
      · rw [es, e71]
        exact no (fun o => o.1 (by show m2 181 96 = 0; omega))
      · rw [es]
        have ew : wouldS a (m2 181) s = wouldS a r s := wouldS_same sames
        have wr := wouldS_b (r := r) hT hS hs.1 hs.2
        refine ca_X12_goesRound_53 (mt_wouldLoad (r0 := m2 181) (by decide) (by decide) b2 hT hS ok (fun _ _ _ => rfl) hs.1 hs.2) (fun z m3 hz => ?_)
        obtain ⟨ez, rfl⟩ := hz
        rw [ew] at ez
        refine sg_X12_goesRound_56 (by rw [ez]; constructor <;> omega) (by rw [e79]; constructor <;> omega) (fun _ => hs) (fun _ => by rw [e71]; constructor <;> omega) (fun g2 => ?_) (fun g2 => ?_)
        · rw [e71]
          rw [ez, e79] at g2
          exact no (fun o => o.2 g2)
        · rw [ez, e79] at g2
          have need : oNeeds a r s (trow (m3 181)) := ⟨by show m3 181 96 ≠ 0; omega, g2⟩
          have tk := oTip_ok hS (t := trow (m3 181)) ⟨l0, l1, p0, p1, w0, w1⟩
          refine ca_X12_goesRound_71 (mt_tips (a := a) (r := 181) (by decide) (by decide) (b2.2.2.1 179 (by omega) (by omega)) hS ⟨p0, p1⟩) (fun z4 m4 hz => ?_)
          rcases hz with ⟨o, ez4, er4, -, gk, gj⟩ | ⟨o, ez4, rfl⟩
          · have o' : oOpen a (trow (m3 181)) := o
            have dd := dist_rng p0 p1 hS.2.2.2.2.2.2.2.2.2.2.1 hS.2.2.2.2.2.2.2.2.2.2.2.1
            have d0 : 0 ≤ tipD a (m3 181) := dd.1
            have d9 : tipD a (m3 181) ≤ 990 := dd.2
            have e71' : m4 171 s = a 171 s := by rw [gk 171 (by decide) (by decide), e71]
            have e4 : trow (m4 181) = oTip a (trow (m3 181)) := by
              unfold trow
              rw [er4 96, er4 97, er4 98]
              unfold tipR
              rw [lorry_l, lorry_p, lorry_w]
              show (0, a 179 5, m3 181 98 + (tipD a (m3 181) + 300)) = (0, a 179 5, m3 181 98 + tipD a (m3 181) + 300)
              rw [Int.add_assoc]
            have e97 : m4 181 97 = a 179 5 := by rw [er4 97]; exact lorry_p
            have w5 := hS.2.2.2.2.2.2.2.2.2.2.1
            have w5' := hS.2.2.2.2.2.2.2.2.2.2.2.1
            refine sg_X12_goesRound_74 (by rw [ez4]; constructor <;> omega) (fun _ => hs) (fun _ => by rw [e97, e71']; constructor <;> omega) (fun _ => ?_) (by rw [ez4]; omega)
            rw [e71']
            have k5 : ∀ k, k ≠ 169 → up2 m4 169 50 (m4 169 50 + 1) k = m4 k := fun k h => up2_k h
            have := tail (up2 m4 169 50 (m4 169 50 + 1)) ⟨fun k q1 _ q3 _ _ => by rw [up2_k q3, gk k q1 q3], fun j _ _ q3 q4 => by rw [up2_j q4, gj j q3]⟩ (fun b _ b1 => by rw [k5 _ (by decide), er4 b]; exact lorry_b b1) (by rw [k5 _ (by decide), e4]; exact tk.1) (by rw [up2_same, gj 50 (by decide), x50]; unfold oTipped; rw [if_pos need]) (by rw [k5 _ (by decide), e4]; unfold oVisit oSt; rw [if_pos need, if_pos o']; rfl) (by unfold oStay; rw [if_pos need, k5 _ (by decide)]; have : m4 181 96 = 0 := by { rw [er4 96]; exact lorry_l }; rw [this])
            rw [k5 181 (by decide)] at this
            exact this
          · refine sg_X12_goesRound_74 (by rw [ez4]; constructor <;> omega) (by rw [ez4]; omega) (by rw [ez4]; omega) (by rw [ez4]; omega) (fun _ => ⟨_, rfl, G, ⟨_, ok⟩, Or.inr ⟨?_, rfl⟩⟩)
            rw [e1]
            unfold oEnd
            rw [oPath]
            unfold oVisit oSt
            rw [if_pos need, if_neg (show ¬ oOpen a (trow (m4 181)) from o)]
            rfl
  have r181 : up2 m 169 50 0 181 = m 181 := up2_k (by decide)
  have st0 : StOK (B + 80290 * ((0 : Nat) : Int)) a (m 181) := (hn.mono (by omega)).congr er (fun _ _ _ => rfl)
  have t0 : trow (m 181) = trow r := by
    unfold trow
    rw [er 96 (by decide) (by decide), er 97 (by decide) (by decide), er 98 (by decide) (by decide)]
  refine key p 0 _ 0 0 rfl (by omega) (by rw [r181]; exact st0) (fun j _ hj h h0 h1 => ?_) G0 m50 rfl (by rw [r181, t0]) (by rw [r181, t0]; omega) (by rw [r181, t0]; omega)
  have := hp _ (getD_mem0 hj)
  rw [r181]
  exact er _ (by omega) (by omega)
