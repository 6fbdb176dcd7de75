/-! orders: the reference's side, one way -/
def GF (m m' : Mem) : Prop := (∀ k, k ≠ 181 → k ≠ 189 → k ≠ 169 → k ≠ 187 → k ≠ 188 → m' k = m k) ∧ ∀ j : Int, (j < 30 ∨ 37 < j) → j ≠ 39 → j ≠ 42 → j ≠ 50 → m' 169 j = m 169 j
theorem GF.rf {m : Mem} : GF m m := ⟨fun _ _ _ _ _ _ => rfl, fun _ _ _ _ _ => rfl⟩
theorem GF.trans {a b d : Mem} (h : GF a b) (g : GF b d) : GF a d := ⟨fun k q1 q2 q3 q4 q5 => (g.1 k q1 q2 q3 q4 q5).trans (h.1 k q1 q2 q3 q4 q5), fun j q1 q2 q3 q4 => (g.2 j q1 q2 q3 q4).trans (h.2 j q1 q2 q3 q4)⟩
theorem GF.mb {m m' : Mem} (h : GF m m') : MB m m' := ⟨h.2 3 (by omega) (by decide) (by decide) (by decide), h.2 26 (by omega) (by decide) (by decide) (by decide), fun k k0 k1 => h.1 k (by omega) (by omega) (by omega) (by omega) (by omega), h.1 185 (by decide) (by decide) (by decide) (by decide) (by decide)⟩
theorem SF.gf {m m' : Mem} (h : SF m m') : GF m m' := ⟨fun k _ q2 q3 q4 q5 => h.1 k q2 q3 q4 q5, fun j q1 q2 _ _ => h.2 j q1 q2⟩
theorem rowStep {a : Mem} {v : (Int → Int) → Int} {r wt : Int → Int} {s l how : Int} (hT : WTown a) (s0 : 0 ≤ s) (s6 : s < 6) (hb : ∀ h : Int, 0 ≤ h → h < 16 → wt (16 * s + h) = r (16 * s + h)) (hl : wt 96 = l) (eh : how = oHow a v r s) : emptyR a v wt s how 96 = oX a v r s l 96 ∧ emptyR a v wt s how 97 = wt 97 ∧ emptyR a v wt s how 98 = wt 98 + (handsP (a 179 1) (oX a v r s l 132) + movesR a s (oHow a v r s)) ∧ (∀ b : Int, 0 ≤ b → b < 96 → (b < 16 * s ∨ 16 * s + 16 ≤ b) → emptyR a v wt s how b = wt b) ∧ rO (emptyR a v wt s how) s 16 = rO (oX a v r s l) s 16 := by
  subst eh
  have g := goes_same (v := v) (r := wt) (r' := lorry r l 0 0) (how := oHow a v r s) (full := a 179 0) (hill := a 173 s) (men := a 179 1) hT s0 s6 (fun h h0 h1 => by rw [lorry_b (by omega)]; exact hb h h0 h1) (by rw [lorry_l, hl])
  have ga := goes_all (v := v) (r := wt) (how := oHow a v r s) (full := a 179 0) (hill := a 173 s) (men := a 179 1) hT s0 s6
  have e132 : goX a v wt s (oHow a v r s) 132 = oX a v r s l 132 := g.2.2 132 (by decide)
  unfold emptyR
  refine ⟨?_, ?_, ?_, fun b b0 b1 hb => ?_, rO_same (fun h h0 h1 => ?_)⟩
  · rw [pt_ne (by decide)]; exact g.2.1
  · rw [pt_ne (by decide)]; exact ga.2.1
  · rw [pt_same]; unfold emptyS; rw [e132]
  · rw [pt_ne (by omega)]; exact ga.2.2.2.2.2.2.2.2 b b0 b1 hb
  · rw [pt_ne (by omega)]; exact g.1 h h0 h1
theorem mt_arrive {E : Nat × (Nat → Int32)} {P : Option Value → Mem → Prop} {a c3 : Mem} {v : (Int → Int) → Int} {s i a1 W : Int} (b : MB a c3) (hR : RuleM a v) (hT : WTown a) (hS : WSet a) (s0 : 0 ≤ s) (s1 : s < 6) (hg : StOK W a (c3 181)) (k : ∀ c4 : Mem, (∀ b : Int, 0 ≤ b → b < 99 → c4 181 b = emptyR a v (pt (c3 181) 98 (oWait a s (c3 181 98))) s (bestH (BT a v (c3 181) s)) b) → GF c3 c4 → c4 169 50 = c3 169 50 → GM E (m_X12_goesRound 8) P 15 [.ref 169, vi a1, vi (i + 1), un] [] c4) : GM E (m_X12_goesRound 8) P 118 [.ref 169, vi a1, vi i, vi s] [vi s, .ref 181, .ref 169, vi 98, .ref 181] c3 := by
  have t := hT.2.2.1 s s0 s1
  have e77 : c3 177 = a 177 := b.2.2.1 177 (by omega) (by omega)
  have e79 : c3 179 = a 179 := b.2.2.1 179 (by omega) (by omega)
  have e73 : c3 173 = a 173 := b.2.2.1 173 (by omega) (by omega)
  have f0 := hS.1
  have f1 := hS.2.1
  have m1 := hS.2.2.1
  have m4 := hS.2.2.2.1
  refine ca_X12_goesRound_118 (mt_isBarred (r := 181) (r0 := c3 181) (by decide) (by decide) b hT s0 s1 rfl) (fun z m2 hz => ?_)
  obtain ⟨rfl, hz⟩ := hz
  refine sg_X12_goesRound_121 (by rcases hz with ⟨-, e⟩ | ⟨-, e⟩ <;> rw [e] <;> decide) (fun _ => ⟨s0, s1⟩) (by decide) ⟨s0, s1⟩ ?_
  have ew : (if z = 0 then m2 181 98 else 60 * (m2 177 s + 1)) = oWait a s (m2 181 98) := by
    rw [e77]
    unfold oWait
    rcases hz with ⟨p, e⟩ | ⟨p, e⟩
    · unfold barred at p; rw [e, if_neg (by decide), if_pos p]
    · unfold barred at p; rw [e, if_pos rfl, if_neg p]
  rw [ew, e79, e73]
  generalize hw : oWait a s (m2 181 98) = w
  generalize hM : up2 (up2 (up2 m2 181 98 w) 169 30 (a 179 1)) 169 31 (a 173 s) = M
  have M181 : M 181 = pt (m2 181) 98 w := by
    rw [← hM, up2_k (by decide), up2_k (by decide)]
    funext j
    by_cases c : j = 98
    · subst c; rw [up2_same, pt_same]
    · rw [up2_j c, pt_ne c]
  have MG : GF m2 M := ⟨fun k q1 q2 q3 _ _ => by rw [← hM, up2_k q3, up2_k q3, up2_k q1], fun j q1 _ _ _ => by rw [← hM, up2_j (by omega), up2_j (by omega), up2_k (by decide)]⟩
  have M50 : M 169 50 = m2 169 50 := by rw [← hM, up2_j (by decide), up2_j (by decide), up2_k (by decide)]
  have M31 : M 169 31 = a 173 s := by rw [← hM, up2_same]
  have M30 : M 169 30 = a 179 1 := by rw [← hM, up2_j (by decide), up2_same]
  have w0 : 0 ≤ w ∧ w ≤ W + 60000 := by
    have tb := t.2.2.2.2.2.2.2.2.2.1
    unfold barOK at tb
    have h98 := hg.2.2.2.2.2
    rw [← hw]
    unfold oWait
    split <;> omega
  clear hM
  have bM := b.trans MG.mb
  have nM : StOK (W + 60000) a (M 181) := by
    obtain ⟨h1, h2, h3, h4, h5, h6, h7⟩ := hg
    rw [M181]
    refine ⟨fun j j0 j1 => by rw [pt_ne (by omega)]; exact h1 j j0 j1, ?_, ?_, ?_, ?_, ?_, ?_⟩
    · rw [pt_ne (by decide)]; exact h2
    · rw [pt_ne (by decide)]; exact h3
    · rw [pt_ne (by decide)]; exact h4
    · rw [pt_ne (by decide)]; exact h5
    · rw [pt_same]; exact w0.1
    · rw [pt_same]; exact w0.2
  refine ca_X12_goesRound_157 (mt_bestOf (r := 181) (r0 := M 181) (hill := a 173 s) (men := a 179 1) (by decide) (by decide) (by decide) bM hR hT hS s0 s1 M31 M30 ⟨by omega, by omega⟩ ⟨m1, by omega⟩ (fun _ _ _ => rfl) nM.r3) (fun z3 m3 hz3 => sg_X12_goesRound_160 ?_)
  obtain ⟨-, e39, fS, e31, e30⟩ := hz3
  have b3 := bM.trans fS.mb
  have h181 : m3 181 = M 181 := fS.1 181 (by decide) (by decide) (by decide) (by decide)
  have BTe : BT a v (M 181) s = BT a v (m2 181) s := BT_same hT s0 s1 (fun h h0 h1 => by rw [M181, pt_ne (by omega)])
  have e39' : m3 169 39 = bestH (BT a v (m2 181) s) := by rw [e39, ← BTe]; rfl
  have hr := bestH_rng (BT a v (m2 181) s)
  have x30 : m3 169 30 = a 179 1 := by rw [e30, M30]
  have x31 : m3 169 31 = a 173 s := by rw [e31, M31]
  have x79 : m3 179 0 = a 179 0 := by rw [b3.2.2.1 179 (by omega) (by omega)]
  rw [e39', x79]
  generalize hh : bestH (BT a v (m2 181) s) = how
  rw [hh] at hr
  have g := mt_streetGoes (E := E) (m := m3) (r := 181) (v := v) (s := s) (how := how) (full := a 179 0) (by decide) (by decide) (b3.rule hR) (b3.town hT) (b3.set hS) s0 s1 hr.1 (by omega) ⟨by omega, by omega⟩ (by rw [x31]; constructor <;> omega) (by rw [x30]; omega) (fun c c0 c1 => by rw [h181]; exact nM.r3 c c0 c1) (by rw [h181]; exact nM.2.1) (by rw [h181]; exact nM.2.2.1)
  have eg : goesR m3 v (m3 181) s how (a 179 0) = goX a v (M 181) s how := by
    show goesP m3 v (m3 181) s how (a 179 0) (m3 169 31) (m3 169 30) = _
    rw [x31, x30, h181, goesP_congr (b := a) (b3.2.2.1 172 (by omega) (by omega)) (b3.2.2.1 178 (by omega) (by omega)) (b3.2.2.1 179 (by omega) (by omega))]
    rfl
  have eh : ∀ x, handsR m3 x = handsP (a 179 1) x := fun x => by unfold handsR handsP; rw [x30]
  have em : movesR m3 s how = movesR a s how := by unfold movesR; rw [b3.2.2.1 172 (by omega) (by omega), b3.2.2.1 174 (by omega) (by omega)]
  rw [eg, eh, em] at g
  refine ca_X12_goesRound_185 g (fun y m4 hy => sg_X12_goesRound_188 (by decide) (k _ ?_ ?_ ?_))
  · obtain ⟨y1, y2, y3, y4, y5, y6, y7, y8, y9, y10⟩ := hy
    intro c c0 c1
    rw [hh, hw]
    unfold emptyR
    rw [M181] at y4 y1
    have y1 : y = emptyS a v (pt (m2 181) 98 w) s how := y1
    by_cases q : c = 98
    · subst q
      rw [up2_same, pt_same, y1, h181, M181, pt_same]
    · rw [up2_j q, pt_ne q]; exact y4 c c0 c1
  · obtain ⟨y1, y2, y3, y4, y5, y6, y7, y8, y9, y10⟩ := hy
    refine MG.trans (fS.gf.trans ⟨fun k q1 q2 q3 q4 q5 => by rw [up2_k q1, y9 k q1 q3 q4 q5], fun j q1 q2 q3 q4 => by rw [up2_k (by decide), y10 j (by omega) (by omega) (by omega) (by omega) (by omega) (by omega)]⟩)
  · obtain ⟨y1, y2, y3, y4, y5, y6, y7, y8, y9, y10⟩ := hy
    rw [up2_k (by decide), y10 50 (by decide) (by decide) (by decide) (by decide) (by decide) (by decide), fS.2 50 (by omega) (by decide), M50]
