/-! round: the class -/
theorem doG_no {a : Mem} {v : (Int → Int) → Int} {x : Int} {l : List Int} {r : Int → Int} (h : doA a v x r = none) : doG a v (x :: l) r = (0, r) := by rw [doG, h]
theorem doG_yes {a : Mem} {v : (Int → Int) → Int} {x : Int} {l : List Int} {r r' : Int → Int} (h : doA a v x r = some r') : doG a v (x :: l) r = ((doG a v l r').1 + 1, (doG a v l r').2) := by rw [doG, h]
theorem CQ.after {c c1 c2 : Mem} {n0 n : Int} {f0 f : Int → Int} (p : CQ c c1 n0 f0) (q : CQ c1 c2 n f) : CQ c c2 n f := by
  obtain ⟨-, -, p3, p4, p5, p6, p7, p8⟩ := p
  obtain ⟨q1, q2, q3, q4, q5, q6, q7, q8⟩ := q
  exact ⟨q1, q2, fun k h1 h2 => (q3 k h1 h2).trans (p3 k h1 h2), q4.trans p4, fun x hx => (q5 x hx).trans (p5 x hx), q6.trans p6, q7.trans p7, p8.trans q8⟩
def row3 (c : Mem) (x y z : Int) : Mem := up2 (up2 (up2 (up2 (up2 (up2 (up2 c 0 14 0) 168 0 x) 0 14 1) 168 1 y) 0 14 2) 168 2 z) 0 14 3
theorem row3_q {c : Mem} {x y z : Int} : CQ c (row3 c x y z) 3 (rwL [x, y, z]) := CQ.three
theorem row3_k {c : Mem} {x y z : Int} {k : Nat} (h : k ≠ 0) (h2 : k ≠ 168) : row3 c x y z k = c k := by unfold row3; rw [up2_k h, up2_k h2, up2_k h, up2_k h2, up2_k h, up2_k h2, up2_k h]
theorem rnd_tail {E : Nat × (Nat → Int32)} {P : Option Value → Mem → Prop} {c3 : Mem} {r : Int → Int} {fl a1 a2 a3 a4 : Int} (hr : StRel c3 23 r) (w1 : RI (cnt r 2 96 - a3)) (w2 : RI (r 98 - a2)) (k : P (some (vi a4)) (row3 c3 fl (cnt r 2 96 - a3) (r 98 - a2))) : GM E (m_X11_round 7) P 118 [.ref 0, vi a1, vi a2, vi a3, vi a4] [vi 2, .ref 23, .ref 0] (up2 (up2 (up2 c3 0 14 0) 168 0 fl) 0 14 1) := by
  have hr2 : StRel (up2 (up2 (up2 c3 0 14 0) 168 0 fl) 0 14 1) 23 r := hr.congr (by rw [up2_k (by decide), up2_k (by decide), up2_k (by decide)]) (by rw [up2_k (by decide), up2_k (by decide), up2_k (by decide)]) (by rw [up2_k (by decide), up2_k (by decide), up2_k (by decide)]) (by rw [up2_k (by decide), up2_k (by decide), up2_k (by decide)])
  refine ca_X11_round_118 m23 (ct_countOf m23 (Or.inr (Or.inl rfl)) hr2) (fun z m2 hz => ?_)
  obtain ⟨em, ez⟩ := hz
  rw [em, ez]
  have e14 : up2 (up2 (up2 c3 0 14 0) 168 0 fl) 0 14 1 0 14 = 1 := up2_same _ _ _ _
  have e5 : up2 (up2 (up2 c3 0 14 0) 168 0 fl) 0 14 1 23 5 = r 98 := hr2.2.2.2
  refine sg_X11_round_121 w1 (by rw [e14]; decide) (by rw [e5]; exact w2) (by rw [e14]; decide) ?_
  rw [e14, e5]
  exact k
/-- what the round tells -/
def rndL (a : Mem) (v : (Int → Int) → Int) : Int → Int := rwL [if ((doG a v (rdA a).2.1 (a 180)).1 : Int) < (rdA a).2.1.length then 1 else 0, cnt (doG a v (rdA a).2.1 (a 180)).2 2 96 - cnt (a 180) 2 96, (doG a v (rdA a).2.1 (a 180)).2 98 - a 180 98]
theorem rdG_pos {a : Mem} {L n : Int} : ∀ (f : Nat) (i : Int) (l : List Int), 0 ≤ i → i ≤ L → 0 ≤ (rdG (lkA a L) n f i l).1 ∧ (rdG (lkA a L) n f i l).1 ≤ L
  | 0, i, l, h0, h1 => ⟨h0, h1⟩
  | f + 1, i, l, h0, h1 => by
    have g := actG_ok (a := a) (L := L) h1
    rw [rdG]
    split
    · exact ⟨by dsimp only; omega, g.2.2⟩
    · split
      · exact ⟨by dsimp only; omega, g.2.2⟩
      · split
        · rename_i g3
          have q := (lk_pos (show 0 ≤ lkA a L (actG (lkA a L) i).2 by omega)).1
          exact rdG_pos f _ _ (by omega) (by omega)
        · exact ⟨by dsimp only; omega, g.2.2⟩
theorem rdA_pos {a : Mem} : 0 ≤ (rdA a).1 ∧ (rdA a).1 ≤ 60 := by
  unfold rdA
  split
  · decide
  · have g := rdG_pos (a := a) (L := min (a 169 17) 60) (n := a 169 17) 30 0 [] (by decide) (by omega)
    omega
theorem ct_round_loop {E : Nat × (Nat → Int32)} {P : Option Value → Mem → Prop} {c0 cN a b : Mem} {v : (Int → Int) → Int} {B : Int} {l : List Int} {D : Nat × (Int → Int)} (hc0 : CR0 c0 b) (eb : ∀ k, 171 ≤ k → k ≤ 180 → b k = a k) (b3 : b 169 3 = a 169 3) (b40 : b 169 40 = a 169 40) (hR : RuleC c0 v) (w : W0 B a) (hB : B ≤ 1000000000) (l30 : (l.length : Int) ≤ 30) (lx : ∀ x ∈ l, 0 ≤ x ∧ x < 40000) (e167 : ∀ j : Nat, j < l.length → c0 167 j = l.getD j 0) (s29 : StRel cN 29 (a 180)) (n1 : ∀ k, k ≠ 29 → k ≠ 30 → k ≠ 31 → k ≠ 32 → cN k = c0 k) (eD : D = doG a v l (a 180))
    (hP0 : D.1 = 0 → ∀ c', CQ c0 c' 3 (rwL [if (D.1 : Int) < l.length then 1 else 0, cnt D.2 2 96 - cnt (a 180) 2 96, D.2 98 - a 180 98]) → P (some (vi 0)) c')
    (hP1 : D.1 ≠ 0 → ∀ c', CR0 c' (actU b D.2 3 (rwL [if (D.1 : Int) < l.length then 1 else 0, cnt D.2 2 96 - cnt (a 180) 2 96, D.2 98 - a 180 98])) → RF c0 c' → HighEq c0 c' → StOK (B + 600000) a D.2 → P (some (vi (D.1 : Int))) c') :
    GM E (m_X11_round 7) P 49 [.ref 0, vi (l.length : Int), vi (a 180 98), vi (cnt (a 180) 2 96), vi 0] [] cN := by
  have hT := w.town
  have hS := w.set
  have hn := w.now
  have hn98 := hn.2.2.2.2.2
  have cT0 : CTown cN a := ctown_of (note_town hc0.town n1) b3.symm (fun k k0 k1 => (eb k k0 (by omega)).symm)
  have cS0 : CSet cN a := cset_of (hc0.set.fr (n1 4 (by decide) (by decide) (by decide) (by decide))) (eb 179 (by decide) (by decide)).symm
  have cR0 : RuleC cN v := hR.fr (fun x _ => by rw [n1 5 (by decide) (by decide) (by decide) (by decide)]) (n1 6 (by decide) (by decide) (by decide) (by decide)) (n1 7 (by decide) (by decide) (by decide) (by decide))
  have rng : ∀ (r : Int → Int) (i : Nat), i ≤ 30 → StOK (B + 20000 * i) a r → RI (cnt r 2 96 - cnt (a 180) 2 96) ∧ RI (r 98 - a 180 98) := fun r i hi ho => by
    have q1 := cnt_rng (r := r) (q := 2)
    have q2 := cnt_rng (r := a 180) (q := 2)
    obtain ⟨-, -, -, -, -, n6, n7⟩ := ho
    exact ⟨by constructor <;> omega, by constructor <;> omega⟩
  have ex0 : ∀ (r : Int → Int) (fl : Int), D = (0, r) → StOK B a r → StRel cN 23 r → fl = (if (D.1 : Int) < l.length then 1 else 0) → GM E (m_X11_round 7) P 118 [.ref 0, vi (l.length : Int), vi (a 180 98), vi (cnt (a 180) 2 96), vi 0] [vi 2, .ref 23, .ref 0] (up2 (up2 (up2 cN 0 14 0) 168 0 fl) 0 14 1) := fun r fl e ho hr hf => by
    have q := rng r 0 (by decide) (ho.mono (by omega))
    refine rnd_tail hr q.1 q.2 (hP0 (by rw [e]) _ ?_)
    rw [← hf, e]
    exact (act_ref hc0 n1).after row3_q
  have ex1 : ∀ (r : Int → Int) (fl : Int) (i : Nat) (c2 : Mem), D = (i, r) → i ≠ 0 → i ≤ 30 → StOK (B + 20000 * i) a r → AF cN c2 → StRel c2 23 r → fl = (if (D.1 : Int) < l.length then 1 else 0) → ((l.length : Int) ≤ i → fl = 0) → (¬ (l.length : Int) ≤ i → fl = 1) → GM E (m_X11_round 7) P 94 [.ref 0, vi (l.length : Int), vi (a 180 98), vi (cnt (a 180) 2 96), vi (i : Int)] [.ref 27] c2 := fun r fl i c2 e i0 i30 ho f2 hr hf g1 g2 => by
    have q := rng r i i30 ho
    have u0 : 0 ≤ b 169 40 := by rw [b40]; exact w.hist.1
    have u1 : b 169 40 ≤ 15 := by rw [b40]; exact w.hist.2.1
    have pp : Pushed b (a 180) (pushU b) := by
      have := pushU_pushed u0 u1
      rw [eb 180 (by decide) (by decide)] at this
      exact this
    refine ca_X11_round_94 (ct_push (f2.hist (note_hist hc0.hist n1)) u0 (f2.before s29) pp) (fun c3 h3 => ?_)
    obtain ⟨hH, f3⟩ := h3
    have hr3 : StRel c3 23 r := hr.congr (f3 _ (by decide) (by decide) (by decide)) (f3 _ (by decide) (by decide) (by decide)) (f3 _ (by decide) (by decide) (by decide)) (f3 _ (by decide) (by decide) (by decide))
    have fin : P (some (vi (i : Int))) (row3 c3 fl (cnt r 2 96 - cnt (a 180) 2 96) (r 98 - a 180 98)) := by
      have k := row3_q (c := c3) (x := fl) (y := cnt r 2 96 - cnt (a 180) 2 96) (z := r 98 - a 180 98)
      have A := act_rel (c4 := row3 c3 fl (cnt r 2 96 - cnt (a 180) 2 96) (r 98 - a 180 98)) hc0 n1 f2 hr hH f3 (fun k k0 k1 => row3_k k0 k1) k.1 k.2.1
      have d1 : D.1 = i := by rw [e]
      have d2 : D.2 = r := by rw [e]
      have := hP1 (by omega) (row3 c3 fl (cnt r 2 96 - cnt (a 180) 2 96) (r 98 - a 180 98))
      rw [d2, ← hf, d1] at this
      exact this A.1 A.2.1 A.2.2 (ho.mono (by omega))
    refine sg_X11_round_97 ⟨by omega, by omega⟩ ⟨by omega, by omega⟩ (fun g => ?_) (fun g => ?_)
    · have := g1 g
      subst this
      exact rnd_tail hr3 q.1 q.2 fin
    · have := g2 g
      subst this
      exact rnd_tail hr3 q.1 q.2 fin
  have key : ∀ (d i : Nat) (r : Int → Int) (c2 : Mem), i + d = l.length → AF cN c2 → (i = 0 → c2 = cN) → StRel c2 23 r → StOK (B + 20000 * i) a r → D = (i + (doG a v (l.drop i) r).1, (doG a v (l.drop i) r).2) → GM E (m_X11_round 7) P 49 [.ref 0, vi (l.length : Int), vi (a 180 98), vi (cnt (a 180) 2 96), vi (i : Int)] [] c2 := by
    intro d
    induction d with
    | zero =>
      intro i r c2 hi f2 c2N hr ho eD
      rw [List.drop_eq_nil_of_le (by omega)] at eD
      have eD : D = (i, r) := eD
      have hf : (0 : Int) = (if (D.1 : Int) < l.length then 1 else 0) := by rw [eD, if_neg (by dsimp only; omega)]
      refine sg_X11_round_49 ⟨by omega, by omega⟩ ⟨by omega, by omega⟩ (fun g => by omega) (fun _ g _ => ?_) (fun g _ g2 => absurd g g2) (fun _ g => ?_) (fun g => by omega) (fun g => by omega) (fun g => by omega) (fun g => by omega)
      · have i0 : i = 0 := by omega
        subst i0
        rw [c2N rfl] at hr ⊢
        exact ex0 r 0 eD (ho.mono (by omega)) hr hf
      · exact ex1 r 0 i c2 eD (by omega) (by omega) ho f2 hr hf (fun _ => rfl) (fun g => by omega)
    | succ d ih =>
      intro i r c2 hi f2 c2N hr ho eD
      have hd : l.drop i = l.getD i 0 :: l.drop (i + 1) := by
        rw [List.drop_eq_getElem_cons (show i < l.length by omega), List.getD_eq_getElem?_getD, List.getElem?_eq_getElem (show i < l.length by omega)]
        rfl
      have hx := lx _ (getD_mem0 (l := l) (j := i) (by omega))
      have e2 : c2 167 (i : Int) = l.getD i 0 := by rw [f2.1 167 (by decide) (by decide) (by decide) (by decide), n1 167 (by decide) (by decide) (by decide) (by decide)]; exact e167 i (by omega)
      rw [hd] at eD
      refine sg_X11_round_49 ⟨by omega, by omega⟩ ⟨by omega, by omega⟩ (fun g _ => ⟨by omega, by omega⟩) (fun g => by omega) (fun g => by omega) (fun g => by omega) (fun _ g => by omega) (fun _ g => by omega) (fun _ g => by omega) (fun _ _ => ?_)
      rw [e2]
      have cT : CTown c2 a := cT0.fr (f2.1 9 (by decide) (by decide) (by decide) (by decide)) (fun s hs => ⟨f2.1 _ (by omega) (by omega) (by omega) (by omega), f2.1 _ (by omega) (by omega) (by omega) (by omega)⟩)
      have cS : CSet c2 a := cS0.fr (f2.1 4 (by decide) (by decide) (by decide) (by decide))
      have cR : RuleC c2 v := cR0.fr f2.2 (f2.1 6 (by decide) (by decide) (by decide) (by decide)) (f2.1 7 (by decide) (by decide) (by decide) (by decide))
      refine ca_X11_round_73 (ct_act cT cS hr cR hT hS ho (by omega) hx.1 hx.2) (fun z c3 hz => ?_)
      obtain ⟨rz, hz, f3⟩ := hz
      have f23 : AF cN c3 := ⟨fun k h1 h2 h3 h4 => (f3.1 k h1 h2 h3 h4).trans (f2.1 k h1 h2 h3 h4), fun x hx => (f3.2 x hx).trans (f2.2 x hx)⟩
      rcases hz with ⟨r', eA, z0, hr', ho'⟩ | ⟨eA, z0, ec⟩
      · rw [doG_yes eA] at eD
        refine sg_X11_round_76 rz ⟨by omega, by omega⟩ ⟨by omega, by omega⟩ (fun g => by omega) (fun g => by omega) (fun g => by omega) (fun _ => ?_)
        have := ih (i + 1) r' c3 (by omega) f23 (fun o => by omega) hr' (ho'.mono (by omega)) (by rw [eD]; dsimp only; rw [show i + ((doG a v (l.drop (i + 1)) r').1 + 1) = i + 1 + (doG a v (l.drop (i + 1)) r').1 by omega])
        exact this
      · rw [doG_no eA] at eD
        have eD : D = (i, r) := eD
        subst ec
        have hf : (1 : Int) = (if (D.1 : Int) < l.length then 1 else 0) := by rw [eD, if_pos (by dsimp only; omega)]
        refine sg_X11_round_76 rz ⟨by omega, by omega⟩ ⟨by omega, by omega⟩ (fun _ _ g => by omega) (fun _ g _ => ?_) (fun _ g => ?_) (fun g => by omega)
        · have i0 : i = 0 := by omega
          subst i0
          rw [c2N rfl] at hr ⊢
          exact ex0 r 1 eD (ho.mono (by omega)) hr hf
        · exact ex1 r 1 i c3 eD (by omega) (by omega) ho f23 hr hf (fun g => by omega) (fun _ => rfl)
  have e0 : StRel cN 23 (a 180) := by
    have := note_rel hc0.now n1
    rw [eb 180 (by decide) (by decide)] at this
    exact this
  exact key l.length 0 (a 180) cN (by omega) ⟨fun _ _ _ _ _ => rfl, fun _ _ => rfl⟩ (fun _ => rfl) e0 (hn.mono (by omega)) (by rw [eD, List.drop_zero]; simp)
theorem ct_round {E : Nat × (Nat → Int32)} {c a : Mem} {v : (Int → Int) → Int} {B : Int} (h : CR0 c a) (hR : RuleC c v) (w : W0 B a) (hB : B ≤ 1000000000) : K_X11_round E [.ref 0] c (fun z c' => ∃ c0, (CR0 c0 (textU a 0 (textN a)) ∧ ∀ k, k ≠ 1 → k ≠ 167 → c0 k = c k) ∧ (((rdA a).2.2 = false ∧ z = -1 - (rdA a).1 ∧ CQ c0 c' (a 169 1) (a 170)) ∨ ((rdA a).2.2 = true ∧ (doG a v (rdA a).2.1 (a 180)).1 = 0 ∧ z = 0 ∧ CQ c0 c' 3 (rndL a v)) ∨ ((rdA a).2.2 = true ∧ (doG a v (rdA a).2.1 (a 180)).1 ≠ 0 ∧ z = (doG a v (rdA a).2.1 (a 180)).1 ∧ CR0 c' (actU (textU a 0 (textN a)) (doG a v (rdA a).2.1 (a 180)).2 3 (rndL a v)) ∧ RF c0 c' ∧ HighEq c0 c' ∧ StOK (B + 600000) a (doG a v (rdA a).2.1 (a 180)).2))) := by
  have hT := w.town
  have hS := w.set
  have hn := w.now
  have hn98 := hn.2.2.2.2.2
  have rp := rdA_pos (a := a)
  refine en_X11_round (sg_X11_round_0 (ca_X11_round_1 (ct_readActs h.text w.text) (fun z c1 hz => ?_)))
  obtain ⟨hz, ⟨l30, lx⟩, ⟨f1, f2⟩, X1⟩ := hz
  unfold rndL
  generalize rdA a = R at *
  have XM : TextOK (up2 c1 1 1 0) := by
    obtain ⟨x1, x2, x3, x4, x5, x6, x7⟩ := X1
    exact ⟨by rw [up2_same]; decide, by rw [up2_same]; decide, by rw [up2_j (by decide)]; exact x3, by rw [up2_j (by decide)]; exact x4, by rw [up2_j (by decide)]; exact x5, by rw [up2_j (by decide)]; exact x6, by rw [up2_k (by decide)]; exact x7⟩
  have e0 : ∀ k, k ≠ 1 → k ≠ 167 → up2 c1 1 1 0 k = c k := fun k k1 k2 => by rw [up2_k k1, f1 k k1 k2]
  have hc0 : CR0 (up2 c1 1 1 0) (textU a 0 (textN a)) := by
    refine (h.fr (c' := upr c 167 (c1 167)) (fun k hk => upr_k (by have := hk.ne; omega)) (by rw [upr_k (by decide)]) (by rw [upr_k (by decide)])).text' ⟨XM, by rw [up2_same, textU_n], fun j j0 j1 => by rw [textU_n] at j1; omega⟩ (fun k k1 k2 => ?_)
    by_cases e : k = 167
    · subst e; rw [upr_row, up2_k k1]
    · rw [upr_k e, e0 k k1 e]
  have hR0 : RuleC (up2 c1 1 1 0) v := hR.fr (fun x _ => by rw [e0 5 (by decide) (by decide)]) (e0 6 (by decide) (by decide)) (e0 7 (by decide) (by decide))
  rcases hz with ⟨ok, ez, e167⟩ | ⟨ok, ez⟩
  · refine sg_X11_round_4 ⟨by omega, by omega⟩ (fun _ => ?_) (fun g => by omega)
    have e180 : textU a 0 (textN a) 180 = a 180 := textU_k (by decide) (by decide)
    refine ca_X11_round_26 (ct_note hc0.now) (fun cN hN => ?_)
    obtain ⟨s29, n1⟩ := hN
    rw [e180] at s29
    have hr : StRel cN 23 (a 180) := by
      have := note_rel hc0.now n1
      rw [e180] at this
      exact this
    refine sg_X11_round_29 (ca_X11_round_42 m23 (ct_countOf m23 (Or.inr (Or.inl rfl)) hr) (fun y c3 hy => ?_))
    obtain ⟨ec, ey⟩ := hy
    rw [ec, ey]
    have e5 : cN 23 5 = a 180 98 := hr.2.2.2
    rw [e5, ez]
    refine sg_X11_round_45 ?_
    exact ct_round_loop (v := v) (D := doG a v R.2.1 (a 180)) hc0 (fun k k0 k1 => textU_k (by omega) (by omega)) (textU_f (by decide)) (textU_f (by decide)) hR0 w hB l30 lx (fun j hj => by rw [up2_k (by decide)]; exact e167 j hj) s29 n1 rfl (fun d0 c' q => ⟨_, rfl, _, ⟨hc0, e0⟩, Or.inr (Or.inl ⟨ok, d0, rfl, q⟩)⟩) (fun d0 c' q1 q2 q3 q4 => ⟨_, rfl, _, ⟨hc0, e0⟩, Or.inr (Or.inr ⟨ok, d0, rfl, q1, q2, q3, q4⟩)⟩)
  · refine sg_X11_round_4 ⟨by omega, by omega⟩ (fun g => by omega) (fun _ => ⟨_, rfl, _, ⟨hc0, e0⟩, Or.inl ⟨ok, ez, ?_⟩⟩)
    have := CQ.stay hc0
    rw [textU_f (by decide), textU_k (a := a) (k := 170) (by decide) (by decide)] at this
    exact this
