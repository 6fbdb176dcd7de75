/-! weeks: the reference's side -/
theorem mt_weeks {E : Nat × (Nat → Int32)} {m a : Mem} {v : (Int → Int) → Int} {x n p : Int} (rn : RI n) (rp : RI p) (hm : HighEq a m) (hR : RuleM a v) (hT : WTown a) (hS : WSet a) : K_X12_weeks E [.ref 169, vi x, vi n, vi p] m (fun z m' => (weekP a n p ∧ z = (wkN' a v x p n.toNat).2.1 ∧ PEq m' (rowU m 2 (rwL [(wkN' a v x p n.toNat).2.2.1, (wkN' a v x p n.toNat).2.2.2])) ∧ LowEq m m') ∨ (¬ weekP a n p ∧ z = -1 ∧ PEq m' m ∧ LowEq m m')) := by
  have n0 := hT.1
  have n6 := hT.2.1
  have e9 := hm 169 (by decide)
  have := rn.1; have := rn.2; have := rp.1; have := rp.2
  have k0 : ∀ k, k ≠ 169 → up2 m 169 0 0 k = m k := fun k h => up2_k h
  have b0 : MB a (up2 m 169 0 0) := hm.mb.trans ⟨up2_j (by decide), up2_j (by decide), fun k _ _ => k0 k (by omega), k0 185 (by decide)⟩
  have low0 : LowEq m (up2 m 169 0 0) := fun k hk => k0 k (by omega)
  have no : ¬ weekP a n p → (Pi fun z m' => (weekP a n p ∧ z = (wkN' a v x p n.toNat).2.1 ∧ PEq m' (rowU m 2 (rwL [(wkN' a v x p n.toNat).2.2.1, (wkN' a v x p n.toNat).2.2.2])) ∧ LowEq m m') ∨ (¬ weekP a n p ∧ z = -1 ∧ PEq m' m ∧ LowEq m m')) (some (vi (-1))) (up2 m 169 0 0) := fun g => ⟨_, rfl, Or.inr ⟨g, rfl, PEq.field npf0, low0⟩⟩
  refine en_X12_weeks (sg_X12_weeks_0 rn ⟨by omega, by omega⟩ rp ⟨by omega, by omega⟩ (fun _ _ => by rw [e9]; constructor <;> omega) (fun g1 g2 g3 => ?_) (fun _ _ g => no (fun o => o.1 (by rw [← e9]; exact g))) (fun _ g => no (fun o => g o.2.2)) (fun g => no (fun o => g o.2.1)))
  rw [e9] at g3
  have P : weekP a n p := ⟨g3, g1, g2⟩
  have W178 : ∀ b : Int, 0 ≤ b → b < 96 → 0 ≤ a 178 b ∧ a 178 b ≤ 9 := fun b b0 b1 => by
    have := hT.2.2.2 (b / 16) (b % 16) (by omega) (by omega) (by omega) (by omega)
    rw [show 16 * (b / 16) + b % 16 = b by omega] at this
    omega
  have key : ∀ (d k : Nat) (m2 : Mem), (k : Int) + d = n → TF 0 (up2 m 169 0 0) m2 → GM E (m_X12_weeks 9) (Pi fun z m' => (weekP a n p ∧ z = (wkN' a v x p n.toNat).2.1 ∧ PEq m' (rowU m 2 (rwL [(wkN' a v x p n.toNat).2.2.1, (wkN' a v x p n.toNat).2.2.2])) ∧ LowEq m m') ∨ (¬ weekP a n p ∧ z = -1 ∧ PEq m' m ∧ LowEq m m')) 53 [.ref 169, vi x, vi n, vi p, vi (wkN' a v x p k).1, vi (wkN' a v x p k).2.1, vi (wkN' a v x p k).2.2.1, vi (wkN' a v x p k).2.2.2, vi (k : Int), un] [] m2 := by
    intro d
    induction d with
    | zero =>
      intro k m2 hk T
      have g := wkN_rng (v := v) (x := x) (p := p) hT hS k
      have ek : n.toNat = k := by omega
      rw [ek]
      refine sg_X12_weeks_53 ⟨by omega, by omega⟩ rn ⟨by omega, by omega⟩ ⟨by omega, by omega⟩ (fun _ => ⟨_, rfl, Or.inl ⟨P, rfl, (PEq.two T.same).trans (PEq.field npf0).rowC, fun k hk => ?_⟩⟩) (by omega)
      rw [up2_k (by omega), up2_k (by omega), up2_k (by omega), up2_k (by omega), up2_k (by omega), T.low k hk, low0 k hk]
    | succ d ih =>
      intro k m2 hk T
      have g := wkN_rng (v := v) (x := x) (p := p) hT hS k
      have nx := ih (k + 1)
      have ew : wkN' a v x p (k + 1) = wkF a v p (wkN' a v x p k) := rfl
      rw [show ((k + 1 : Nat) : Int) = (k : Int) + 1 by omega, ew] at nx
      refine sg_X12_weeks_53 ⟨by omega, by omega⟩ rn ⟨by omega, by omega⟩ ⟨by omega, by omega⟩ (by omega) (fun _ => ?_)
      generalize hst : wkN' a v x p k = st at g nx
      have draw : ∀ (e b : Nat) (m3 : Mem), b + e = 96 → TF 0 (up2 m 169 0 0) m3 → (∀ j : Int, 0 ≤ j → j < b → m3 181 j = dRow a p st.1 j) → GM E (m_X12_weeks 9) (Pi fun z m' => (weekP a n p ∧ z = (wkN' a v x p n.toNat).2.1 ∧ PEq m' (rowU m 2 (rwL [(wkN' a v x p n.toNat).2.2.1, (wkN' a v x p n.toNat).2.2.2])) ∧ LowEq m m') ∨ (¬ weekP a n p ∧ z = -1 ∧ PEq m' m ∧ LowEq m m')) 62 [.ref 169, vi x, vi n, vi p, vi (chN a st.1 b), vi st.2.1, vi st.2.2.1, vi st.2.2.2, vi (k : Int), vi (b : Int)] [] m3 := by
        intro e
        induction e with
        | zero =>
          intro b m3 hb T3 q
          have eb : b = 96 := by omega
          subst eb
          have e3 : m3 169 3 = a 169 3 := (b0.trans T3.mb).1
          refine sg_X12_weeks_62 (by decide) (fun g => absurd (by decide) g) (fun g => absurd (by decide) g) (fun g => absurd (by decide) g) rp (fun _ => ?_) (fun g => absurd (by decide) g) (fun g => absurd (by decide) g) (fun g => absurd (by decide) g)
          rw [e3]
          generalize hM : up2 (up2 (up2 (up2 m3 181 96 0) 181 97 0) 181 98 0) 169 52 (a 169 3) = M
          have TM : TF 0 (up2 m 169 0 0) M := T3.trans ⟨fun k q1 _ q3 _ _ _ _ => by rw [← hM, up2_k q3, up2_k q1, up2_k q1, up2_k q1], fun j _ _ _ _ q5 _ => by rw [← hM, up2_j q5, up2_k (by decide), up2_k (by decide), up2_k (by decide)], fun j hj => by omega⟩
          have M52 : M 169 52 = a 169 3 := by rw [← hM, up2_same]
          have MR : ∀ j : Int, 0 ≤ j → j < 99 → M 181 j = dRow a p st.1 j := fun j j0 j1 => by
            rw [← hM, up2_k (by decide)]
            by_cases c8 : j = 98
            · subst c8; rw [up2_same, dRow_hi (by decide)]
            · rw [up2_j c8]
              by_cases c7 : j = 97
              · subst c7; rw [up2_same, dRow_hi (by decide)]
              · rw [up2_j c7]
                by_cases c6 : j = 96
                · subst c6; rw [up2_same, dRow_hi (by decide)]
                · rw [up2_j c6]; exact q j j0 (by omega)
          clear hM
          refine up_loop (i0 := 0) (n := a 169 3) (fun i m4 => GM E _ _ 164 [.ref 169, vi x, vi n, vi p, vi (chN a st.1 96), vi st.2.1, vi st.2.2.1, vi st.2.2.2, vi (k : Int), vi i] [] m4) (fun i m4 => (∀ j : Int, 0 ≤ j → j < i → m4 195 j = j) ∧ ∀ k, k ≠ 195 → m4 k = M k) (fun m4 h4 => ?_) (fun i m4 i0 i1 h4 kk => ?_) (i := 0) (by omega) (by omega) ⟨fun j j0 j1 => by omega, fun _ _ => rfl⟩
          · obtain ⟨y1, y2⟩ := h4
            have e4 : m4 169 3 = a 169 3 := by rw [y2 169 (by decide)]; exact (b0.trans TM.mb).1
            have T4 : TF 0 (up2 m 169 0 0) m4 := TM.trans ⟨fun k _ _ _ _ _ q6 _ => y2 k q6, fun j _ _ _ _ _ _ => by rw [y2 169 (by decide)], fun j hj => by omega⟩
            refine sg_X12_weeks_164 ⟨by omega, by omega⟩ (by rw [e4]; constructor <;> omega) (by rw [e4]; omega) (fun _ => ?_) (by rw [e4]; omega)
            refine ca_X12_weeks_189 (mt_goesRound (r := dRow a p st.1) (B := 0) (p := pN (a 169 3).toNat) (b0.trans T4.mb) hR hT hS dRow_ok (by decide) (fun c c0 c1 => by rw [y2 181 (by decide)]; exact MR c c0 c1) (by rw [y2 169 (by decide), M52, pN_len]; omega) (fun j hj => by rw [pN_len] at hj; rw [pN_get hj]; exact y1 j (by omega) (by omega)) (fun s hs => by have := pN_mem hs; omega) (by rw [pN_len]; omega) pN_nd) (fun z m5 hz => ?_)
            obtain ⟨G5, -, hz⟩ := hz
            rw [dRow_tr, dRow_hi (by decide)] at hz
            have T5 : TF 0 (up2 m 169 0 0) m5 := T4.trans ⟨fun k q1 q2 q3 q4 q5 _ _ => G5.1 k q1 q2 q3 q4 q5, fun j q1 q2 q3 q4 _ _ => G5.2 j q1 q2 q3 q4, fun j hj => by omega⟩
            have nx := nx m5 (by omega) T5
            rcases hz with ⟨t', w1, ez, -, -⟩ | ⟨w1, ez⟩
            · have we := week_end hT hS w1
              have ez : z = t'.2.2 := by omega
              have ef : wkF a v p st = (chN a st.1 96, st.2.1 + 1, (if st.2.1 ≠ 0 then min st.2.2.1 t'.2.2 else t'.2.2), max st.2.2.2 t'.2.2) := by unfold wkF; rw [w1]
              rw [ef] at nx
              refine sg_X12_weeks_192 (by rw [ez]; constructor <;> omega) ⟨by omega, by omega⟩ ⟨by omega, by omega⟩ ?_
              have h1 : ¬ z < 0 := by omega
              rw [if_neg h1, if_neg h1, if_neg h1, ez]
              by_cases o : st.2.1 = 0
              · rw [if_neg (by omega)]
                rw [if_neg (fun z => z o)] at nx
                exact nx
              · rw [if_pos (by omega)]
                rw [if_pos o] at nx
                exact nx
            · have ef : wkF a v p st = (chN a st.1 96, st.2) := by unfold wkF; rw [w1]
              rw [ef] at nx
              refine sg_X12_weeks_192 (by rw [ez]; decide) ⟨by omega, by omega⟩ ⟨by omega, by omega⟩ ?_
              have h1 : z < 0 := by omega
              rw [if_pos h1, if_pos h1, if_pos h1]
              exact nx
          · obtain ⟨y1, y2⟩ := h4
            have e4 : m4 169 3 = a 169 3 := by rw [y2 169 (by decide)]; exact (b0.trans TM.mb).1
            refine sg_X12_weeks_164 ⟨by omega, by omega⟩ (by rw [e4]; constructor <;> omega) (fun _ => by omega) (by rw [e4]; omega) (fun _ => kk _ ⟨fun j j0 j1 => ?_, fun k hk => by rw [up2_k hk, y2 k hk]⟩)
            by_cases cj : j = i
            · subst cj; rw [up2_same]
            · rw [up2_j cj]; exact y1 j j0 (by omega)
        | succ e ihe =>
          intro b m3 hb T3 q
          have b3 := b0.trans T3.mb
          have e78 : m3 178 = a 178 := b3.2.2.1 178 (by omega) (by omega)
          have w := W178 b (by omega) (by omega)
          have step : chN a st.1 (b + 1) = if a 178 b ≤ 0 then chN a st.1 b else chN a st.1 b * 1103515245 + 12345 := by rw [chN]
          have bN : ((b : Int)).toNat = b := by omega
          have nxt := fun (m4 : Mem) (h : TF 0 (up2 m 169 0 0) m4) (h2 : ∀ j : Int, 0 ≤ j → j < ((b + 1 : Nat) : Int) → m4 181 j = dRow a p st.1 j) => ihe (b + 1) m4 (by omega) h h2
          rw [show ((b + 1 : Nat) : Int) = (b : Int) + 1 by omega, step] at nxt
          have put : ∀ (m4 : Mem) (z : Int), m4 = up2 m3 181 b z ∨ m4 = up2 (up2 m3 181 b 0) 181 b z → z = dRow a p st.1 b → TF 0 (up2 m 169 0 0) m4 ∧ ∀ j : Int, 0 ≤ j → j < (b : Int) + 1 → m4 181 j = dRow a p st.1 j := fun m4 z hm4 hz => by
            have k4 : ∀ k, k ≠ 181 → m4 k = m3 k := fun k hk => by
              rcases hm4 with o | o
              · rw [o, up2_k hk]
              · rw [o, up2_k hk, up2_k hk]
            refine ⟨T3.trans ⟨fun k q1 _ _ _ _ _ _ => k4 k q1, fun j _ _ _ _ _ _ => by rw [k4 169 (by decide)], fun j hj => by omega⟩, fun j j0 j1 => ?_⟩
            by_cases cj : j = b
            · subst cj
              rcases hm4 with o | o
              · rw [o, up2_same, hz]
              · rw [o, up2_same, hz]
            · rcases hm4 with o | o
              · rw [o, up2_j cj]; exact q j j0 (by omega)
              · rw [o, up2_j cj, up2_j cj]; exact q j j0 (by omega)
          refine sg_X12_weeks_62 ⟨by omega, by omega⟩ (fun _ => by omega) (fun _ => by omega) (fun _ => by rw [e78]; constructor <;> omega) rp (by omega) (fun _ g4 => ?_) (fun _ g4 g5 => ?_) (fun _ g4 g5 => ?_)
          · rw [e78] at g4
            rw [if_pos g4] at nxt
            have pp := put _ 0 (Or.inl rfl) (by unfold dRow; rw [if_neg (fun o => o.2.1 g4)])
            exact nxt _ pp.1 pp.2
          · rw [e78] at g4
            rw [if_neg g4] at nxt
            have pp := put _ 0 (Or.inr rfl) (by unfold dRow; rw [bN, if_neg (fun o => o.2.2 g5)])
            exact nxt _ pp.1 pp.2
          · rw [e78] at g4
            rw [if_neg g4] at nxt
            have pp := put _ 1 (Or.inr rfl) (by unfold dRow; rw [bN, if_pos ⟨⟨by omega, by omega⟩, g4, g5⟩])
            exact nxt _ pp.1 pp.2
      exact draw 96 0 m2 (by decide) T (fun j j0 j1 => by omega)
  exact key n.toNat 0 _ (by omega) TF.rf
