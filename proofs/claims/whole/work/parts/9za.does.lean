/-! round: what its acts do -/
abbrev eOkD (a : Mem) (r : Int → Int) (s how : Int) : Prop := ((0 ≤ s ∧ s < a 169 3) ∧ 0 ≤ how ∧ how ≤ 2) ∧ r 97 = a 171 s ∧ ¬ (0 ≤ a 176 s ∧ a 176 s ≤ divI (r 98) 60 ∧ divI (r 98) 60 ≤ a 177 s)
def doA (a : Mem) (v : (Int → Int) → Int) (c : Int) (r : Int → Int) : Option (Int → Int) :=
  if c < 10000 then (if 0 ≤ c ∧ c < a 169 3 then some (driveR a r c) else none)
  else if c < 20000 then (if eOkD a r ((c - 10000) / 10) ((c - 10000) % 10) then some (emptyR a v r ((c - 10000) / 10) ((c - 10000) % 10)) else none)
  else if c < 30000 then (if divI (r 98 + tipD a r) 60 ≤ a 179 6 then some (tipR a r) else none)
  else some (pauseR r (c - 30000))
def doG (a : Mem) (v : (Int → Int) → Int) : List Int → (Int → Int) → Nat × (Int → Int)
  | [], r => (0, r)
  | c :: l, r => match doA a v c r with
    | none => (0, r)
    | some r' => ((doG a v l r').1 + 1, (doG a v l r').2)
theorem doA_g {a : Mem} {v : (Int → Int) → Int} {c : Int} {r : Int → Int} (h : c < 10000) : doA a v c r = if 0 ≤ c ∧ c < a 169 3 then some (driveR a r c) else none := if_pos h
theorem doA_e {a : Mem} {v : (Int → Int) → Int} {c s how : Int} {r : Int → Int} (h : c = 10000 + 10 * s + how) (s0 : 0 ≤ s) (s9 : s ≤ 999) (h0 : 0 ≤ how) (h9 : how ≤ 9) : doA a v c r = if eOkD a r s how then some (emptyR a v r s how) else none := by
  have e1 : (c - 10000) / 10 = s := by omega
  have e2 : (c - 10000) % 10 = how := by omega
  unfold doA
  rw [if_neg (by omega), e1, e2]
  by_cases g : c < 20000
  · rw [if_pos g]
  · omega
theorem doA_t {a : Mem} {v : (Int → Int) → Int} {r : Int → Int} : doA a v 20000 r = if divI (r 98 + tipD a r) 60 ≤ a 179 6 then some (tipR a r) else none := rfl
theorem doA_p {a : Mem} {v : (Int → Int) → Int} {n : Int} {r : Int → Int} (h : 0 ≤ n) : doA a v (30000 + n) r = some (pauseR r n) := by
  unfold doA
  rw [if_neg (by omega), if_neg (by omega), if_neg (by omega), show 30000 + n - 30000 = n by omega]
theorem cnt_lorry {r : Int → Int} {l p w q : Int} : cnt (lorry r l p w) q 96 = cnt r q 96 := cnt_congr (fun b _ b1 => lorry_b b1)
theorem pauseR_ok {B : Int} {a : Mem} {r : Int → Int} {n : Int} (hn : StOK B a r) (n0 : 0 ≤ n) (n9 : n ≤ 9999) : StOK (B + 20000) a (pauseR r n) := by
  obtain ⟨n1, n2, n3, n4, n5, n6, n7⟩ := hn
  exact ok_lorry ⟨n1, n2, n3, n4, n5, n6, n7⟩ n2 n3 n4 n5 (by omega) (by omega)
theorem tipR_ok {B : Int} {a : Mem} {r : Int → Int} (hS : WSet a) (hn : StOK B a r) : StOK (B + 20000) a (tipR a r) ∧ 0 ≤ tipD a r ∧ tipD a r ≤ 990 := by
  obtain ⟨-, -, -, -, -, -, -, -, -, -, s5, s5', -, -⟩ := hS
  have hn' := hn
  obtain ⟨n1, n2, n3, n4, n5, n6, n7⟩ := hn'
  have d : 0 ≤ tipD a r ∧ tipD a r ≤ 990 := dist_rng n4 n5 s5 s5'
  exact ⟨ok_lorry hn (by decide) (by decide) s5 s5' (by omega) (by omega), d⟩
theorem driveR_ok {B : Int} {a : Mem} {r : Int → Int} {s : Int} (hT : WTown a) (hn : StOK B a r) (s0 : 0 ≤ s) (s6 : s < 6) : StOK (B + 20000) a (driveR a r s) ∧ 0 ≤ dist (r 97) (a 171 s) ∧ dist (r 97) (a 171 s) ≤ 990 := by
  have q := hT.2.2.1 s s0 s6
  have hn' := hn
  obtain ⟨n1, n2, n3, n4, n5, n6, n7⟩ := hn'
  have d := dist_rng n4 n5 q.1 q.2.1
  exact ⟨ok_lorry hn n2 n3 q.1 q.2.1 (by omega) (by omega), d⟩
/-- the class does one act -/
theorem ct_act {E : Nat × (Nat → Int32)} {c a : Mem} {v : (Int → Int) → Int} {r : Int → Int} {x B : Int} (hC : CTown c a) (hCS : CSet c a) (hN : StRel c 23 r) (hR : RuleC c v) (hT : WTown a) (hS : WSet a) (hn : StOK B a r) (hB : B ≤ 1900000000) (x0 : 0 ≤ x) (x1 : x < 40000) : K_X11_act E [.ref 0, vi x] c (fun z c' => RI z ∧ ((∃ r', doA a v x r = some r' ∧ 0 ≤ z ∧ StRel c' 23 r' ∧ StOK (B + 20000) a r') ∨ (doA a v x r = none ∧ z < 0 ∧ c' = c)) ∧ AF c c') := by
  have n6 := hT.2.1
  have ed : divI x 10000 = x / 10000 := divI_nn ⟨x0, by omega⟩ (by decide)
  have er : remI x 10000 = x % 10000 := remI_nn ⟨x0, by omega⟩ (by decide)
  have hn' := hn
  obtain ⟨n1, n2, n3, n4, n5, n6', n7⟩ := hn'
  refine en_X11_act (sg_X11_act_0 (fun g => ?_) (fun g g2 => ?_) (fun g g2 g3 => ?_) (fun g g2 g3 g4 => ?_) (fun g g2 g3 g4 => ?_))
  · rw [ed] at g
    rw [er, show x % 10000 = x by omega]
    refine ca_X11_act_42 (ct_goTo (s := x) ⟨by omega, by omega⟩ hC hN hT hn) (fun z c2 hz => sg_X11_act_45 ⟨_, rfl, ?_⟩)
    rw [doA_g (show x < 10000 by omega)]
    rcases hz with ⟨p, e, st, f⟩ | ⟨p, e, f⟩
    · have d := driveR_ok hT hn p.1 (by omega)
      rw [if_pos p]
      exact ⟨by constructor <;> omega, Or.inl ⟨_, rfl, by omega, st, d.1⟩, AF.of f⟩
    · rw [if_neg p, f]
      exact ⟨by constructor <;> omega, Or.inr ⟨rfl, by omega, rfl⟩, AF.of (fun _ _ => rfl)⟩
  · rw [ed] at g g2
    rw [er, divI_nn ⟨by omega, by omega⟩ (by decide), remI_nn ⟨by omega, by omega⟩ (by decide)]
    refine ca_X11_act_55 (ct_emptyBins (v := v) ⟨by omega, by omega⟩ ⟨by omega, by omega⟩ hC hCS hN hR hT hS hn) (fun z c2 hz => sg_X11_act_58 ⟨_, rfl, ?_⟩)
    rw [doA_e (s := x % 10000 / 10) (how := x % 10000 % 10) (by omega) (by omega) (by omega) (by omega) (by omega)]
    rcases hz with ⟨p, e, st, f, -⟩ | ⟨p, e, f⟩
    · have q := p.1.1
      have es := emptyS_rng (v := v) (how := x % 10000 % 10) hT hS hn q.1 (by omega)
      rw [if_pos (show eOkD a r (x % 10000 / 10) (x % 10000 % 10) from p)]
      exact ⟨by constructor <;> omega, Or.inl ⟨_, rfl, by omega, st, emptyR_ok hT hS hn q.1 (by omega) (by omega)⟩, f⟩
    · have wr := emptyWhy_rng (a := a) (r := r) (s := x % 10000 / 10) (how := x % 10000 % 10)
      rw [if_neg (show ¬ eOkD a r (x % 10000 / 10) (x % 10000 % 10) from p), f]
      exact ⟨by constructor <;> omega, Or.inr ⟨rfl, by omega, rfl⟩, AF.of (fun _ _ => rfl)⟩
  · rw [ed] at g g2 g3
    refine ca_X11_act_60 (ct_goTip hCS hN hS hn) (fun z c2 hz => sg_X11_act_63 ⟨_, rfl, ?_⟩)
    have dA : doA a v x r = if divI (r 98 + tipD a r) 60 ≤ a 179 6 then some (tipR a r) else none := by
      unfold doA
      rw [if_neg (by omega), if_neg (by omega), if_pos (by omega)]
    rw [dA]
    have d := tipR_ok hS hn
    rcases hz with ⟨p, e, st, f⟩ | ⟨p, e, f⟩
    · rw [if_pos (show divI (r 98 + tipD a r) 60 ≤ a 179 6 from p)]
      exact ⟨by constructor <;> omega, Or.inl ⟨_, rfl, by omega, st, d.1⟩, AF.of f⟩
    · rw [if_neg (show ¬ divI (r 98 + tipD a r) 60 ≤ a 179 6 from p), f]
      exact ⟨by constructor <;> omega, Or.inr ⟨rfl, by omega, rfl⟩, AF.of (fun _ _ => rfl)⟩
  · rw [ed] at g g2 g3 g4
    rw [er]
    refine ca_X11_act_66 (ct_waitFor (n := x % 10000) ⟨by omega, by omega⟩ hN) (fun z c2 hz => sg_X11_act_69 ⟨_, rfl, ?_⟩)
    have dA : doA a v x r = some (pauseR r (x % 10000)) := by
      unfold doA
      rw [if_neg (by omega), if_neg (by omega), if_neg (by omega), show x - 30000 = x % 10000 by omega]
    rcases hz with ⟨p, e, st, f⟩ | ⟨p, e, f⟩
    · exact ⟨by constructor <;> omega, Or.inl ⟨_, dA, by omega, st, pauseR_ok hn p.1 p.2⟩, AF.of f⟩
    · omega
  · omega
/-- the reference does one act -/
def DoF (m m' : Mem) : Prop := (∀ k, k ≠ 180 → k ≠ 169 → k ≠ 187 → k ≠ 188 → m' k = m k) ∧ ∀ j : Int, (j < 30 ∨ 37 < j) → j ≠ 42 → j ≠ 47 → m' 169 j = m 169 j
theorem DoF.rf {m : Mem} : DoF m m := ⟨fun _ _ _ _ _ => rfl, fun _ _ _ _ => rfl⟩
theorem DoF.trans {a b d : Mem} (h : DoF a b) (g : DoF b d) : DoF a d := ⟨fun k q1 q2 q3 q4 => (g.1 k q1 q2 q3 q4).trans (h.1 k q1 q2 q3 q4), fun j q1 q2 q3 => (g.2 j q1 q2 q3).trans (h.2 j q1 q2 q3)⟩
theorem mt_does {E : Nat × (Nat → Int32)} {m a : Mem} {v : (Int → Int) → Int} {r : Int → Int} {x k B : Int} (b : MB a m) (hR : RuleM a v) (hT : WTown a) (hS : WSet a) (er : ∀ b : Int, 0 ≤ b → b < 99 → m 180 b = r b) (hn : StOK B a r) (hB : B ≤ 900000000) (k0 : 0 ≤ k) (k6 : k < 60) (hx : ActR x (m 191 k) (m 192 k) (m 193 k)) : K_X12_does E [.ref 169, vi k] m (fun z m' => ((∃ r', doA a v x r = some r' ∧ z = 1 ∧ (∀ b : Int, 0 ≤ b → b < 99 → m' 180 b = r' b) ∧ m' 169 47 = m 169 47 + (cnt r' 2 96 - cnt r 2 96)) ∨ (doA a v x r = none ∧ z = 0 ∧ (∀ b : Int, 0 ≤ b → b < 99 → m' 180 b = r b) ∧ m' 169 47 = m 169 47)) ∧ DoF m m') := by
  have t0 := hT.1
  have t6 := hT.2.1
  have e3 : m 169 3 = a 169 3 := b.1
  have e97 := er 97 (by decide) (by decide)
  have e98 := er 98 (by decide) (by decide)
  have e96 := er 96 (by decide) (by decide)
  have e71 : m 171 = a 171 := b.2.2.1 171 (by decide) (by decide)
  have hn' := hn
  obtain ⟨n1, n2, n3, n4, n5, n6', n7⟩ := hn'
  have rz1 : RI (m 191 k) := by rcases hx with ⟨e, -⟩ | ⟨e, -⟩ | ⟨e, -⟩ | ⟨e, -⟩ <;> constructor <;> omega
  have loc : m 191 k = 0 → 0 ≤ m 192 k ∧ m 192 k ≤ 9 ∧ x = m 192 k := fun g => by rcases hx with ⟨e, q⟩ | ⟨e, q⟩ | ⟨e, q⟩ | ⟨e, q⟩ <;> omega
  have rd : m 191 k = 0 → 0 ≤ m 192 k ∧ m 192 k < m 169 3 → RI ((m 180 97) - (m 171 (m 192 k))) := fun g g2 => by
    have q := hT.2.2.1 (m 192 k) g2.1 (by omega)
    rw [e97, e71]
    constructor <;> omega
  refine en_X12_does (sg_X12_does_0 ⟨k0, k6⟩ rz1 (fun _ => ⟨by omega, by omega⟩) (fun g => by have := loc g; constructor <;> omega) (fun _ g => ⟨g.1, by omega⟩) rd (fun g g2 _ => ?_) (fun _ g g2 => absurd g g2) (fun _ g g2 => absurd g2 g) (fun g g2 _ => ?_) (fun g g2 => ?_) (fun g g2 g3 => ?_) (fun g g2 g3 => ?_))
  · have q := loc g
    have p : 0 ≤ x ∧ x < a 169 3 := by omega
    have ex : m 192 k = x := q.2.2.symm
    rw [ex, e71, doA_g (show x < 10000 by omega), if_pos p]
    refine ⟨_, rfl, Or.inl ⟨_, rfl, rfl, fun c c0 c9 => ?_, ?_⟩, fun q h1 _ _ _ => by rw [up2_k h1, up2_k h1], fun j _ _ _ => by rw [up2_k (by decide), up2_k (by decide)]⟩
    · have ez : m 180 98 + (10 * (if 0 ≤ (m 180 97 - a 171 x) then (m 180 97 - a 171 x) else -(m 180 97 - a 171 x))) = r 98 + dist (r 97) (a 171 x) := by rw [e98, e97]; rfl
      rw [ez]
      by_cases c8 : c = 98
      · subst c8; rw [up2_same]; exact lorry_w.symm
      · rw [up2_j c8]
        by_cases c7 : c = 97
        · subst c7; rw [up2_same]; exact lorry_p.symm
        · rw [up2_j c7, er c c0 c9]
          by_cases c6 : c = 96
          · subst c6; exact lorry_l.symm
          · exact (lorry_b (by omega)).symm
    · rw [up2_k (by decide), up2_k (by decide)]
      have : cnt (driveR a r x) 2 96 = cnt r 2 96 := cnt_lorry
      omega
  · have q := loc g
    rw [doA_g (show x < 10000 by omega), if_neg (by omega)]
    exact ⟨_, rfl, Or.inr ⟨rfl, rfl, er, rfl⟩, DoF.rf⟩
  · have q : x = 10000 + 10 * m 192 k + m 193 k ∧ 0 ≤ m 192 k ∧ m 192 k ≤ 9 ∧ 0 ≤ m 193 k ∧ m 193 k ≤ 2 := by rcases hx with ⟨e, q⟩ | ⟨e, q⟩ | ⟨e, q⟩ | ⟨e, q⟩ <;> omega
    obtain ⟨q1, q2, q3, q4, q5⟩ := q
    rw [doA_e q1 q2 (by omega) q4 (by omega)]
    generalize hs : m 192 k = s at *
    generalize hh : m 193 k = how at *
    refine ca_X12_does_77 (mt_empties (v := v) (r0 := r) ⟨by omega, by omega⟩ ⟨by omega, by omega⟩ b hR hT hS er hn (by omega)) (fun z m2 hz => ?_)
    rcases hz with ⟨p, e, z1, z2, z3, z4, z5, z6⟩ | ⟨p, e, f⟩
    · have p1 := p.1.1
      have es := emptyS_rng (v := v) (how := how) hT hS hn p1.1 (by omega)
      have ga := goes_all (v := v) (r := r) (how := how) (full := a 179 0) (hill := a 173 s) (men := a 179 1) hT p1.1 (by omega)
      obtain ⟨-, -, -, -, -, gc, -⟩ := ga
      have gc : cnt (goX a v r s how) 2 96 = cnt r 2 96 + goX a v r s how 134 := gc
      have ge : cnt (emptyR a v r s how) 2 96 = cnt (goX a v r s how) 2 96 := cnt_congr (fun c _ c1 => pt_ne (by omega))
      rw [if_pos (show eOkD a r s how from p)]
      refine sg_X12_does_80 ⟨by omega, by omega⟩ (fun g => by omega) (fun _ => ⟨_, rfl, Or.inl ⟨_, rfl, rfl, fun c c0 c9 => by rw [up2_k (by decide)]; exact z1 c c0 c9, ?_⟩, fun q h1 h2 h3 h4 => by rw [up2_k h2]; exact z5 q h1 h2 h3 h4, fun j h1 _ h3 => by rw [up2_j h3]; exact z6 j h1⟩)
      rw [up2_same, z2, z6 47 (by omega), ge, gc]
      omega
    · have wr := emptyWhy_rng (a := a) (r := r) (s := s) (how := how)
      rw [if_neg (show ¬ eOkD a r s how from p), f]
      refine sg_X12_does_80 ⟨by omega, by omega⟩ (fun _ => ⟨_, rfl, Or.inr ⟨rfl, rfl, fun c c0 c9 => by rw [up2_k (by decide)]; exact er c c0 c9, by rw [up2_same]; omega⟩, fun q h1 h2 h3 h4 => up2_k h2, fun j h1 _ h3 => up2_j h3⟩) (fun g => by omega)
  · have q : x = 20000 := by rcases hx with ⟨e, q⟩ | ⟨e, q⟩ | ⟨e, q⟩ | ⟨e, q⟩ <;> omega
    subst q
    have d := tipR_ok hS hn
    rw [doA_t]
    refine ca_X12_does_117 (mt_tips (a := a) (by decide) (by decide) (b.2.2.1 179 (by decide) (by decide)) hS (by rw [e97]; omega)) (fun z m2 hz => ?_)
    have eD : tipD a (m 180) = tipD a r := by unfold tipD; rw [e97]
    have eO : tipOk a (m 180) = tipOk a r := by unfold tipOk; rw [eD, e98]
    rw [eD, eO] at hz
    rcases hz with ⟨p, e, z1, z2, z3, z4⟩ | ⟨p, e, f⟩
    · rw [if_pos (show divI (r 98 + tipD a r) 60 ≤ a 179 6 from p)]
      refine sg_X12_does_120 ⟨by omega, by omega⟩ (fun g => by omega) (fun _ => ⟨_, rfl, Or.inl ⟨_, rfl, rfl, fun c c0 c9 => ?_, ?_⟩, fun q h1 h2 _ _ => z3 q h1 h2, fun j h1 h2 _ => z4 j h2⟩)
      · rw [z1]
        show lorry (m 180) 0 (a 179 5) (m 180 98 + (tipD a (m 180) + 300)) c = lorry r 0 (a 179 5) (r 98 + (tipD a r + 300)) c
        rw [eD, e98]
        by_cases c8 : c = 98
        · subst c8; rw [lorry_w, lorry_w]
        · by_cases c7 : c = 97
          · subst c7; rw [lorry_p, lorry_p]
          · by_cases c6 : c = 96
            · subst c6; rw [lorry_l, lorry_l]
            · rw [lorry_b (by omega), lorry_b (by omega)]; exact er c c0 c9
      · have : cnt (tipR a r) 2 96 = cnt r 2 96 := cnt_lorry
        rw [z4 47 (by decide)]
        omega
    · rw [if_neg (show ¬ divI (r 98 + tipD a r) 60 ≤ a 179 6 from p), f]
      exact sg_X12_does_120 ⟨by omega, by omega⟩ (fun _ => ⟨_, rfl, Or.inr ⟨rfl, rfl, er, rfl⟩, DoF.rf⟩) (fun g => by omega)
  · have q : x = 30000 + m 192 k ∧ 0 ≤ m 192 k ∧ m 192 k ≤ 9999 := by rcases hx with ⟨e, q⟩ | ⟨e, q⟩ | ⟨e, q⟩ | ⟨e, q⟩ <;> omega
    obtain ⟨q1, q2, q3⟩ := q
    rw [q1, doA_p q2]
    refine ⟨_, rfl, Or.inl ⟨_, rfl, rfl, fun c c0 c9 => ?_, ?_⟩, fun q h1 _ _ _ => up2_k h1, fun j _ _ _ => by rw [up2_k (by decide)]⟩
    · show _ = lorry r (r 96) (r 97) (r 98 + m 192 k) c
      by_cases c8 : c = 98
      · subst c8; rw [up2_same, lorry_w, e98]
      · rw [up2_j c8]
        by_cases c7 : c = 97
        · subst c7; rw [lorry_p, e97]
        · by_cases c6 : c = 96
          · subst c6; rw [lorry_l, e96]
          · rw [lorry_b (by omega)]; exact er c c0 c9
    · rw [up2_k (by decide)]
      have : cnt (pauseR r (m 192 k)) 2 96 = cnt r 2 96 := cnt_lorry
      omega
