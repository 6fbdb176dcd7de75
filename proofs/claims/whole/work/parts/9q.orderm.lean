/-! order: the reference's side -/
def textN (m : Mem) : Int → Int := fun j => nrm (m 182 j)
def TO (m m' : Mem) : Prop := (∀ k, k ≠ 181 → k ≠ 189 → k ≠ 169 → k ≠ 187 → k ≠ 188 → k ≠ 195 → m' k = textU m 0 (textN m) k) ∧ ∀ j : Int, (j < 30 ∨ 37 < j) → j ≠ 0 → j ≠ 18 → j ≠ 19 → j ≠ 20 → j ≠ 39 → j ≠ 42 → j ≠ 50 → j ≠ 52 → m' 169 j = textU m 0 (textN m) 169 j
theorem TO.same {m m' : Mem} (h : TO m m') : PEq m' (textU m 0 (textN m)) := PEq.of (fun k hk k9 => by
    have hk : (169 ≤ k ∧ k < 181) ∨ k = 182 ∨ k = 185 ∨ k = 190 ∨ k = 201 ∨ k = 202 ∨ (205 ≤ k ∧ k < 208) := hk
    exact h.1 k (by omega) (by omega) k9 (by omega) (by omega) (by omega)) (fun j hj => by
    have hj : j = 1 ∨ j = 3 ∨ j = 4 ∨ j = 17 ∨ j = 26 ∨ j = 40 ∨ j = 62 := hj
    exact h.2 j (by omega) (by omega) (by omega) (by omega) (by omega) (by omega) (by omega) (by omega) (by omega))
theorem TO.low {m m' : Mem} (h : TO m m') : LowEq m m' := fun k hk => by rw [h.1 k (by omega) (by omega) (by omega) (by omega) (by omega) (by omega), textU_k (by omega) (by omega)]
theorem TO.mb {a m m' : Mem} (hm : HighEq a m) (h : TO m m') : MB a m' := by
  have e9 : ∀ j : Int, m 169 j = a 169 j := fun j => by rw [hm 169 (by decide)]
  refine ⟨?_, ?_, fun k k0 k1 => ?_, ?_⟩
  · rw [h.2 3 (by omega) (by decide) (by decide) (by decide) (by decide) (by decide) (by decide) (by decide) (by decide), textU_f (by decide), e9]
  · rw [h.2 26 (by omega) (by decide) (by decide) (by decide) (by decide) (by decide) (by decide) (by decide) (by decide), textU_f (by decide), e9]
  · rw [h.1 k (by omega) (by omega) (by omega) (by omega) (by omega) (by omega), textU_k (by omega) (by omega), hm k (by omega)]
  · rw [h.1 185 (by decide) (by decide) (by decide) (by decide) (by decide) (by decide), textU_k (by decide) (by decide), hm 185 (by decide)]
theorem TO.then {m m1 m2 : Mem} (h : TO m m1) (e : ∀ k, k ≠ 181 → k ≠ 189 → k ≠ 169 → k ≠ 187 → k ≠ 188 → k ≠ 195 → m2 k = m1 k) (e9 : ∀ j : Int, (j < 30 ∨ 37 < j) → j ≠ 0 → j ≠ 18 → j ≠ 19 → j ≠ 20 → j ≠ 39 → j ≠ 42 → j ≠ 50 → j ≠ 52 → m2 169 j = m1 169 j) : TO m m2 := ⟨fun k q1 q2 q3 q4 q5 q6 => (e k q1 q2 q3 q4 q5 q6).trans (h.1 k q1 q2 q3 q4 q5 q6), fun j q1 q2 q3 q4 q5 q6 q7 q8 q9 => (e9 j q1 q2 q3 q4 q5 q6 q7 q8 q9).trans (h.2 j q1 q2 q3 q4 q5 q6 q7 q8 q9)⟩
theorem mt_order {E : Nat × (Nat → Int32)} {m a : Mem} {v : (Int → Int) → Int} {B : Int} (hm : HighEq a m) (hX : WText a) (hR : RuleM a v) (hT : WTown a) (hS : WSet a) (hn : StOK B a (a 180)) (hB : B ≤ 1000000000) : K_X12_order E [.ref 169] m (fun z m' => ((¬ ordP a ∧ z = -1 - (ordL a).length ∧ PEq m' (textU m 0 (textN m))) ∨ (ordP a ∧ (∃ t', oEnd a v (a 180) (ordL a) (trow (a 180)) = some t' ∧ z = t'.2.2 - a 180 98) ∧ PEq m' (rowU (textU m 0 (textN m)) 2 (rwL [oTips a v (a 180) (ordL a) (trow (a 180)) + 1, oStays a v (a 180) (ordL a) (trow (a 180))]))) ∨ (ordP a ∧ oEnd a v (a 180) (ordL a) (trow (a 180)) = none ∧ z = -200 ∧ PEq m' (textU m 0 (textN m)))) ∧ LowEq m m') := by
  have n0 := hT.1
  have n6 := hT.2.1
  obtain ⟨x1, x2, x7⟩ := hX
  have oL := ordL_ok (a := a)
  have e9 : ∀ j : Int, m 169 j = a 169 j := fun j => by rw [hm 169 (by decide)]
  have e82 : m 182 = a 182 := hm 182 (by decide)
  refine en_X12_order (sg_X12_order_0 (by rw [e9]; constructor <;> omega) ?_)
  rw [e9, show min (a 169 17) 80 = a 169 17 by omega]
  generalize hM0 : up2 (up2 (up2 (up2 (up2 (up2 m 169 0 0) 169 17 0) 169 18 0) 169 20 0) 169 19 (a 169 17)) 169 52 0 = M0
  have M0k : ∀ k, k ≠ 169 → M0 k = m k := fun k hk => by rw [← hM0, up2_k hk, up2_k hk, up2_k hk, up2_k hk, up2_k hk, up2_k hk]
  have Q : ∀ j : Int, (j < 30 ∨ 37 < j) → j ≠ 0 → j ≠ 18 → j ≠ 19 → j ≠ 20 → j ≠ 39 → j ≠ 42 → j ≠ 50 → j ≠ 52 → M0 169 j = textU m 0 (textN m) 169 j := fun j _ j0 j18 j19 j20 _ _ _ j52 => by
    by_cases c : j = 17
    · subst c; rw [← hM0, up2_j (by decide), up2_j (by decide), up2_j (by decide), up2_j (by decide), up2_same, textU_n]
    · rw [← hM0, up2_j j52, up2_j j19, up2_j j20, up2_j j18, up2_j c, up2_j j0, textU_f c]
  have M18 : M0 169 18 = 0 := by rw [← hM0, up2_j (by decide), up2_j (by decide), up2_j (by decide), up2_same]
  have M19 : M0 169 19 = a 169 17 := by rw [← hM0, up2_j (by decide), up2_same]
  have M52 : M0 169 52 = 0 := by rw [← hM0, up2_same]
  clear hM0
  refine GM_iarr (m' := upr M0 182 (textN m)) sh_182 (fun k hk => upr_k hk) (fun j => ?_) ?_
  · rw [upr_same, M0k 182 (by decide)]; exact iI_nrm _
  have T0 : TO m (upr M0 182 (textN m)) := ⟨fun k _ _ k9 _ _ _ => by
    by_cases c : k = 182
    · subst c; funext j; rw [upr_same, textU_s]
    · rw [upr_k c, M0k k k9, textU_k k9 c], fun j q1 q2 q3 q4 q5 q6 q7 q8 q9 => by rw [upr_k (by decide)]; exact Q j q1 q2 q3 q4 q5 q6 q7 q8 q9⟩
  have tx : ∀ m2 : Mem, TO m m2 → ∀ j : Int, RI (m2 182 j) ∧ (0 ≤ j → j < a 169 17 → m2 182 j = a 182 j ∧ 0 ≤ a 182 j ∧ a 182 j < 256) := fun m2 T j => by
    rw [T.1 182 (by decide) (by decide) (by decide) (by decide) (by decide) (by decide), textU_s]
    refine ⟨nrm_rng _, fun j0 j1 => ?_⟩
    have b := x7 j j0 j1
    refine ⟨?_, b⟩
    show (iI (m 182 j)).toInt = a 182 j
    rw [e82]
    exact iI_toInt (by omega) (by omega)
  -- the end of the reading
  have stop : ∀ (u : Int) (m2 : Mem), TO m m2 → m2 169 18 = (ordL a).length → m2 169 19 = a 169 17 → m2 169 52 = (ordL a).length → ((ordL a).length : Int) ≤ a 169 17 → (∀ j : Nat, j < (ordL a).length → m2 195 j = (ordL a).getD j 0) → GM E (m_X12_order 9) (Pi fun z m' => ((¬ ordP a ∧ z = -1 - (ordL a).length ∧ PEq m' (textU m 0 (textN m))) ∨ (ordP a ∧ (∃ t', oEnd a v (a 180) (ordL a) (trow (a 180)) = some t' ∧ z = t'.2.2 - a 180 98) ∧ PEq m' (rowU (textU m 0 (textN m)) 2 (rwL [oTips a v (a 180) (ordL a) (trow (a 180)) + 1, oStays a v (a 180) (ordL a) (trow (a 180))]))) ∨ (ordP a ∧ oEnd a v (a 180) (ordL a) (trow (a 180)) = none ∧ z = -200 ∧ PEq m' (textU m 0 (textN m)))) ∧ LowEq m m') 21 [.ref 169, vi u, vi 0, un, un, un] [] m2 := by
    intro u m2 T h18 h19 h52 hle h195
    have l6 := oL.2.2
    refine sg_X12_order_21 (by decide) (fun _ => by rw [h52]; constructor <;> omega) (fun _ _ => by rw [h18]; constructor <;> omega) (fun _ _ => by rw [h19]; constructor <;> omega) (fun g => absurd rfl g) (fun g => absurd rfl g) (fun g => absurd rfl g) (fun g => absurd rfl g) (fun g => absurd rfl g) (fun g => absurd rfl g) (fun g => absurd rfl g) (fun g => absurd rfl g) (fun g => absurd rfl g) (fun g => absurd rfl g) (fun _ g => ⟨_, rfl, Or.inl ⟨fun o => by have := o.1; omega, by rw [h18], T.same⟩, T.low⟩) (fun _ g g2 => ?_) (fun _ g g2 => ⟨_, rfl, Or.inl ⟨fun o => by have := o.2; omega, by rw [h18], T.same⟩, T.low⟩) (fun g => absurd rfl g) (fun g => absurd rfl g) (fun g => absurd rfl g) (fun g => absurd rfl g) (fun g => absurd rfl g) (fun g => absurd rfl g) (fun g => absurd rfl g) (fun g => absurd rfl g)
    have P : ordP a := ⟨by omega, by omega⟩
    refine ca_X12_order_156 (ct_puts (by decide) (by decide) (by decide) (by decide) (by decide)) (fun m3 h3 => sg_X12_order_159 ?_)
    have k3 : ∀ k, k ≠ 181 → m3 k = m2 k := fun k hk => by rw [h3, mv_k hk]
    have T3 : TO m m3 := T.then (fun k q1 _ _ _ _ _ => k3 k q1) (fun j _ _ _ _ _ _ _ _ _ => by rw [k3 169 (by decide)])
    have r3 : ∀ c : Int, 0 ≤ c → c < 99 → m3 181 c = a 180 c := fun c c0 c1 => by
      rw [h3, mv_in (by omega) (by omega), show c - 0 + 0 = c by omega, T.1 180 (by decide) (by decide) (by decide) (by decide) (by decide) (by decide), textU_k (by decide) (by decide), hm 180 (by decide)]
    refine ca_X12_order_160 (mt_goesRound (p := ordL a) (T3.mb hm) hR hT hS hn hB r3 (by rw [k3 169 (by decide), h52]) (fun j hj => by rw [k3 195 (by decide)]; exact h195 j hj) (fun s hs => by have := oL.1 s hs; omega) oL.2.2 oL.2.1) (fun z m4 hz => ?_)
    obtain ⟨G, ⟨W4, ok4⟩, hz⟩ := hz
    have T4 : TO m m4 := T3.then (fun k q1 q2 q3 q4 q5 _ => G.1 k q1 q2 q3 q4 q5) (fun j q1 _ _ _ _ q6 q7 q8 _ => G.2 j q1 q6 q7 q8)
    have tr := oTips_rng (a := a) (v := v) (r := a 180) (ordL a) (trow (a 180))
    rcases hz with ⟨t', w1, ez, w50, wS⟩ | ⟨w1, ez⟩
    · have rng := oEnd_rng hT hS hn (ordL a) (trow (a 180)) t' B (fun s hs => by have := oL.1 s hs; omega) ⟨hn.2.1, hn.2.2.1, hn.2.2.2.1, hn.2.2.2.2.1, hn.2.2.2.2.2.1, hn.2.2.2.2.2.2⟩ (by omega) w1
      have rng1 : a 180 98 ≤ t'.2.2 := rng.1
      have r98 := hn.2.2.2.2.2.1
      refine sg_X12_order_163 (by rw [ez]; constructor <;> omega) (fun _ => ?_) (by rw [ez]; omega)
      have c52 : m4 169 52 = (ordL a).length := by rw [G.2 52 (by omega) (by decide) (by decide) (by decide), k3 169 (by decide), h52]
      have c195 : ∀ j : Nat, j < (ordL a).length → m4 195 j = (ordL a).getD j 0 := fun j hj => by rw [G.1 195 (by decide) (by decide) (by decide) (by decide) (by decide), k3 195 (by decide)]; exact h195 j hj
      have key : ∀ (d i : Nat), i + d = (ordL a).length → GM E (m_X12_order 9) (Pi fun z m' => ((¬ ordP a ∧ z = -1 - (ordL a).length ∧ PEq m' (textU m 0 (textN m))) ∨ (ordP a ∧ (∃ t', oEnd a v (a 180) (ordL a) (trow (a 180)) = some t' ∧ z = t'.2.2 - a 180 98) ∧ PEq m' (rowU (textU m 0 (textN m)) 2 (rwL [oTips a v (a 180) (ordL a) (trow (a 180)) + 1, oStays a v (a 180) (ordL a) (trow (a 180))]))) ∨ (ordP a ∧ oEnd a v (a 180) (ordL a) (trow (a 180)) = none ∧ z = -200 ∧ PEq m' (textU m 0 (textN m)))) ∧ LowEq m m') 176 [.ref 169, vi u, vi 0, vi z, vi (sumI (fun i => rO (m4 181) ((ordL a).getD i.toNat 0) 16) i), vi (i : Int)] [] m4 := by
        intro d
        induction d with
        | zero =>
          intro i hi
          have ei : i = (ordL a).length := by omega
          subst ei
          rw [wS]
          refine sg_X12_order_176 ⟨by omega, by omega⟩ (by rw [c52]; constructor <;> omega) (fun _ => by rw [w50]; constructor <;> omega) ⟨by omega, by omega⟩ (by rw [c52]; omega) (fun _ => ⟨_, rfl, Or.inr (Or.inl ⟨P, ⟨t', w1, ez⟩, ?_⟩), ?_⟩) (by rw [c52]; omega)
          · rw [w50]
            exact PEq.two T4.same
          · intro k hk
            rw [up2_k (by omega), up2_k (by omega), up2_k (by omega), up2_k (by omega), up2_k (by omega), T4.low k hk]
        | succ d ih =>
          intro i hi
          have sm := oL.1 _ (getD_mem0 (l := ordL a) (j := i) (by omega))
          have sb : ∀ q : Nat, q ≤ 6 → 0 ≤ sumI (fun i => rO (m4 181) ((ordL a).getD i.toNat 0) 16) q ∧ sumI (fun i => rO (m4 181) ((ordL a).getD i.toNat 0) 16) q ≤ 16 * q := fun q _ => by
            have := sumI_bound (f := fun i => rO (m4 181) ((ordL a).getD i.toNat 0) 16) (c := 16) (n := q) (fun i _ _ => rO_rng)
            omega
          have sb := sb i (by omega)
          refine sg_X12_order_176 ⟨by omega, by omega⟩ (by rw [c52]; constructor <;> omega) (by rw [c52]; omega) ⟨by omega, by omega⟩ (fun _ => by omega) (by rw [c52]; omega) (fun _ => ?_)
          rw [c195 i (by omega)]
          refine ca_X12_order_199 (mt_outOf (by decide) (by decide) sm.1 (by omega) (fun b b0 b1 => by have := ok4.r3 b b0 b1; constructor <;> omega)) (fun y m5 hy => sg_X12_order_202 ?_)
          obtain ⟨rfl, ey⟩ := hy
          have := ih (i + 1) (by omega)
          rw [sumI] at this
          rw [show (((i : Nat) : Int)).toNat = i by omega] at this
          rw [ey, show (i : Int) + 1 = ((i + 1 : Nat) : Int) by omega]
          exact this
      exact key (ordL a).length 0 (by omega)
    · exact sg_X12_order_163 (by rw [ez]; decide) (by rw [ez]; omega) (fun _ => ⟨_, rfl, Or.inr (Or.inr ⟨P, w1, ez, T4.same⟩), T4.low⟩)
  have key : ∀ (f : Nat) (p : List Int) (u : Int) (m2 : Mem), p.length + f = 6 → 0 ≤ u → u < 64 → (∀ d : Int, 0 ≤ d → d < 6 → (tb u d = true ↔ d ∈ p)) → ordL a = ordG a f p → TO m m2 → m2 169 18 = p.length → m2 169 19 = a 169 17 → m2 169 52 = p.length → (p.length : Int) ≤ a 169 17 → (∀ j : Nat, j < p.length → m2 195 j = p.getD j 0) → GM E (m_X12_order 9) (Pi fun z m' => ((¬ ordP a ∧ z = -1 - (ordL a).length ∧ PEq m' (textU m 0 (textN m))) ∨ (ordP a ∧ (∃ t', oEnd a v (a 180) (ordL a) (trow (a 180)) = some t' ∧ z = t'.2.2 - a 180 98) ∧ PEq m' (rowU (textU m 0 (textN m)) 2 (rwL [oTips a v (a 180) (ordL a) (trow (a 180)) + 1, oStays a v (a 180) (ordL a) (trow (a 180))]))) ∨ (ordP a ∧ oEnd a v (a 180) (ordL a) (trow (a 180)) = none ∧ z = -200 ∧ PEq m' (textU m 0 (textN m)))) ∧ LowEq m m') 21 [.ref 169, vi u, vi 1, un, un, un] [] m2 := by
    intro f
    induction f with
    | zero =>
      intro p u m2 hl u0 u1 hu eL T h18 h19 h52 hle h195
      have eL : ordL a = p := eL
      have hl : p.length = 6 := by omega
      have e3 : m2 169 3 = a 169 3 := (T.mb hm).1
      have st := stop u m2 T (by rw [h18, eL]) h19 (by rw [h52, eL]) (by rw [eL]; exact hle) (by rw [eL]; exact h195)
      have r := (tx m2 T (m2 169 18)).1
      exact sg_X12_order_21 (by decide) (by omega) (by omega) (by omega) (fun _ => by rw [h18, h19]; omega) (fun _ => r) (fun _ _ => by rw [h18]; omega) (fun _ _ => by rw [h52]; constructor <;> omega) (fun _ _ g => by rw [h52] at g; omega) (fun _ g _ => by constructor <;> omega) (fun _ _ g => by rw [h52] at g; omega) (fun _ _ => by rw [h52]; constructor <;> omega) (fun _ _ g => by rw [h52] at g; omega) (fun _ _ g => by rw [h52] at g; omega) (by omega) (by omega) (by omega) (fun _ _ _ => st) (fun _ _ _ _ _ => st) (fun _ _ g => by rw [h52] at g; omega) (fun _ _ _ _ => st) (fun _ _ _ => st) (fun _ _ _ _ _ => st) (fun _ _ g => by rw [h52] at g; omega) (fun _ _ _ _ => st)
    | succ f ih =>
      intro p u m2 hl u0 u1 hu eL T h18 h19 h52 hle h195
      have e3 : m2 169 3 = a 169 3 := (T.mb hm).1
      have r := (tx m2 T (m2 169 18)).1
      rw [ordG] at eL
      have st : ¬ ((p.length : Int) < a 169 17 ∧ (0 ≤ a 182 p.length - 48 ∧ a 182 p.length - 48 < a 169 3) ∧ a 182 p.length - 48 ∉ p) → GM E (m_X12_order 9) (Pi fun z m' => ((¬ ordP a ∧ z = -1 - (ordL a).length ∧ PEq m' (textU m 0 (textN m))) ∨ (ordP a ∧ (∃ t', oEnd a v (a 180) (ordL a) (trow (a 180)) = some t' ∧ z = t'.2.2 - a 180 98) ∧ PEq m' (rowU (textU m 0 (textN m)) 2 (rwL [oTips a v (a 180) (ordL a) (trow (a 180)) + 1, oStays a v (a 180) (ordL a) (trow (a 180))]))) ∨ (ordP a ∧ oEnd a v (a 180) (ordL a) (trow (a 180)) = none ∧ z = -200 ∧ PEq m' (textU m 0 (textN m)))) ∧ LowEq m m') 21 [.ref 169, vi u, vi 0, un, un, un] [] m2 := fun g => by
        rw [if_neg g] at eL
        exact stop u m2 T (by rw [h18, eL]) h19 (by rw [h52, eL]) (by rw [eL]; exact hle) (by rw [eL]; exact h195)
      have dg : m2 169 18 < m2 169 19 ∧ 48 ≤ m2 182 (m2 169 18) ∧ m2 182 (m2 169 18) ≤ 57 → (p.length : Int) < a 169 17 ∧ m2 182 (m2 169 18) = a 182 p.length := fun g => by
        rw [h18, h19] at g
        rw [h18]
        exact ⟨g.1, ((tx m2 T p.length).2 (by omega) g.1).1⟩
      refine sg_X12_order_21 (by decide) (by omega) (by omega) (by omega) (fun _ => by rw [h18, h19]; omega) (fun _ => r) (fun _ _ => by rw [h18]; omega) (fun _ _ => by rw [h52]; constructor <;> omega) (fun _ _ _ => by rw [e3]; omega) (fun _ g _ => by constructor <;> omega) (fun _ _ _ _ _ => by rw [h52]; omega) (fun _ _ => by rw [h52]; constructor <;> omega) (fun _ _ _ => by rw [e3]; omega) (fun _ _ _ g => by omega) (by omega) (by omega) (by omega) (fun _ _ g => by rw [h52] at g; omega) (fun _ g _ g2 g3 => st (fun o => ?_)) (fun _ g _ g2 g3 => ?_) (fun _ g _ g2 => st (fun o => ?_)) (fun _ _ g => by rw [h52] at g; omega) (fun _ _ _ g => by omega) (fun _ _ _ g => by omega) (fun _ g _ _ => st (fun o => ?_))
      · have k := dg g
        rw [e3, k.2] at g2
        rw [k.2, has_tb u0 u1 g2.1 (by omega)] at g3
        exact o.2.2 ((hu _ g2.1 (by omega)).1 g3)
      · have k := dg g
        rw [e3, k.2] at g2
        rw [k.2, has_tb u0 u1 g2.1 (by omega)] at g3
        have cond : (p.length : Int) < a 169 17 ∧ (0 ≤ a 182 p.length - 48 ∧ a 182 p.length - 48 < a 169 3) ∧ a 182 p.length - 48 ∉ p := ⟨k.1, g2, fun o => g3 ((hu _ g2.1 (by omega)).2 o)⟩
        rw [if_pos cond] at eL
        rw [k.2, h18, h52]
        have i6 := inc64 u0 u1 g2.1 (by omega : a 182 p.length - 48 < 6)
        have len1 : (p ++ [a 182 p.length - 48]).length = p.length + 1 := by rw [List.length_append]; rfl
        have hm1 : ((p ++ [a 182 p.length - 48]).length : Int) = p.length + 1 := by rw [len1]; omega
        refine ih (p ++ [a 182 p.length - 48]) (inc u (a 182 p.length - 48)) _ (by rw [len1]; omega) i6.1 i6.2 (fun d d0 d6 => ?_) eL (T.then (fun k _ _ q3 _ _ q6 => by rw [up2_k q3, up2_k q3, up2_k q6]) (fun j _ _ q3 _ _ _ _ _ q9 => by rw [up2_j q3, up2_j q9, up2_k (by decide)])) (by rw [up2_same, hm1]) (by rw [up2_j (by decide), up2_j (by decide), up2_k (by decide)]; exact h19) (by rw [up2_j (by decide), up2_same, hm1]) (by rw [hm1]; omega) (fun j hj => ?_)
        · rw [tb_inc g2.1 (by omega) d0 (by omega), List.mem_append, List.mem_singleton]
          by_cases e : d = a 182 p.length - 48
          · simp [e]
          · simp [e]
            exact hu d d0 d6
        · rw [len1] at hj
          rw [up2_k (by decide), up2_k (by decide), getD_app]
          by_cases c : j < p.length
          · rw [if_pos c, up2_j (by omega)]; exact h195 j c
          · rw [if_neg c, if_pos (by omega), show j = p.length by omega, up2_same]
      · have k := dg g
        rw [e3, k.2] at g2
        exact g2 o.2.1
      · have k := (tx m2 T p.length).2 (by omega) o.1
        apply g
        rw [h18, h19, k.1]
        omega
  refine key 6 [] 0 _ rfl (by decide) (by decide) (fun d _ _ => ?_) rfl T0 (by rw [upr_k (by decide), M18]; rfl) (by rw [upr_k (by decide), M19]) (by rw [upr_k (by decide), M52]; rfl) (by show ((0 : Nat) : Int) ≤ _; omega) (fun j hj => by have hj : j < 0 := hj; omega)
  rw [tb_0]
  exact ⟨fun h => absurd h (by decide), fun h => by cases h⟩
