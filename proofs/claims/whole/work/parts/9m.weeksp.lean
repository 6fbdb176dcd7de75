/-! weeks: both sides -/
theorem ct_weeks {E : Nat × (Nat → Int32)} {c a : Mem} {v : (Int → Int) → Int} {x n p : Int} (rn : RI n) (rp : RI p) (h : CR0 c a) (hR : RuleC c v) (hT : WTown a) (hS : WSet a) : K_X11_weeks E [.ref 0, vi x, vi n, vi p] c (fun z c' => (weekP a n p ∧ z = (wkN' a v x p n.toNat).2.1 ∧ CQ c c' 2 (rwL [(wkN' a v x p n.toNat).2.2.1, (wkN' a v x p n.toNat).2.2.2])) ∨ (¬ weekP a n p ∧ z = -1 ∧ CQ c c' (a 169 1) (a 170))) := by
  have n0 := hT.1
  have n6 := hT.2.1
  have e := h.town.1
  have no : ¬ weekP a n p → (Pi fun z c' => (weekP a n p ∧ z = (wkN' a v x p n.toNat).2.1 ∧ CQ c c' 2 (rwL [(wkN' a v x p n.toNat).2.2.1, (wkN' a v x p n.toNat).2.2.2])) ∨ (¬ weekP a n p ∧ z = -1 ∧ CQ c c' (a 169 1) (a 170))) (some (vi (-1))) c := fun g => ⟨_, rfl, Or.inr ⟨g, rfl, CQ.stay h⟩⟩
  refine en_X11_weeks (sg_X11_weeks_0 (by rw [e]; constructor <;> omega) rn rp (fun g => no (fun o => o.1 (by rw [← e]; exact g))) (fun _ g => no (fun o => by have := o.2.1; omega)) (fun _ _ g => no (fun o => by have := o.2.1; omega)) (fun _ _ _ g => no (fun o => by have := o.2.2; omega)) (fun g1 g2 g3 g4 g5 => ?_) (fun _ _ _ _ g => no (fun o => by have := o.2.2; omega)))
  rw [e] at g1
  have P : weekP a n p := ⟨g1, by omega, by omega⟩
  have W1 : WFr c (up2 c 0 15 x) := ⟨fun q _ q0 _ _ => up2_k q0, fun _ _ => by rw [up2_k (by decide)], fun j hj => up2_j hj⟩
  refine ca_X11_weeks_42 (ct_pathToAll (W1.town h.town) hT) (fun c1 h1 => sg_X11_weeks_45 ?_)
  obtain ⟨p5, p109, pk⟩ := h1
  have F1 : WFr c c1 := W1.trans ⟨fun q q1 _ _ _ => pk q (by omega) (by omega), fun _ _ => by rw [pk 5 (by decide) (by decide)], fun j _ => by rw [pk 0 (by decide) (by decide)]⟩
  have x1 : c1 0 15 = x := by rw [pk 0 (by decide) (by decide), up2_same]
  have key : ∀ (d k : Nat) (c2 : Mem), (k : Int) + d = n → c2 0 15 = (wkN' a v x p k).1 → c2 106 5 = a 169 3 → (∀ j : Int, 0 ≤ j → j < a 169 3 → c2 109 j = j) → WFr c c2 → GM E (m_X11_weeks 7) (Pi fun z c' => (weekP a n p ∧ z = (wkN' a v x p n.toNat).2.1 ∧ CQ c c' 2 (rwL [(wkN' a v x p n.toNat).2.2.1, (wkN' a v x p n.toNat).2.2.2])) ∨ (¬ weekP a n p ∧ z = -1 ∧ CQ c c' (a 169 1) (a 170))) 57 [.ref 0, vi x, vi n, vi p, vi (wkN' a v x p k).2.1, vi (wkN' a v x p k).2.2.1, vi (wkN' a v x p k).2.2.2, vi (k : Int)] [] c2 := by
    intro d
    induction d with
    | zero =>
      intro k c2 hk q1 q2 q3 q4
      have g := wkN_rng (v := v) (x := x) (p := p) hT hS k
      have ek : n.toNat = k := by omega
      rw [ek]
      exact sg_X11_weeks_57 ⟨by omega, by omega⟩ rn ⟨by omega, by omega⟩ ⟨by omega, by omega⟩ (fun _ => ⟨_, rfl, Or.inl ⟨P, rfl, CQ.wk q4 CQ.two⟩⟩) (by omega)
    | succ d ih =>
      intro k c2 hk q1 q2 q3 q4
      have g := wkN_rng (v := v) (x := x) (p := p) hT hS k
      refine sg_X11_weeks_57 ⟨by omega, by omega⟩ rn ⟨by omega, by omega⟩ ⟨by omega, by omega⟩ (by omega) (fun _ => ?_)
      refine ca_X11_weeks_69 (ct_drawOut rp (q4.town h.town) hT) (fun z c3 hz => ?_)
      obtain ⟨rfl, r1, r2, r3, r4⟩ := hz
      rw [q1] at r1 r2
      have F3 : WFr c2 c3 := ⟨fun q _ q0 _ _ => r3 q q0 (by omega), fun _ _ => by rw [r3 5 (by decide) (by decide)], r4⟩
      have F03 := q4.trans F3
      refine ca_X11_weeks_72 (ct_prepareR (R := 108) (r := dRow a p (wkN' a v x p k).1) (B := 0) (by decide) sh_108' (by decide) (by decide) r2 (F03.town h.town) (F03.set h.set) (F03.rule hR) hT hS dRow_ok) (fun c4 h4 => sg_X11_weeks_75 ?_)
      obtain ⟨O4, F4, L4⟩ := h4
      generalize hM : up2 (up2 (up2 (up2 (up2 c4 106 6 0) 106 7 0) 106 8 0) 106 9 0) 106 10 0 = M
      have Mk : ∀ k, k ≠ 106 → M k = c4 k := fun k hk => by rw [← hM, up2_k hk, up2_k hk, up2_k hk, up2_k hk, up2_k hk]
      have Mj : ∀ j : Int, j < 6 ∨ 10 < j → M 106 j = c4 106 j := fun j hj => by rw [← hM, up2_j (by omega), up2_j (by omega), up2_j (by omega), up2_j (by omega), up2_j (by omega)]
      have MT : TrC M (0, 0, 0) := ⟨by rw [← hM, up2_j (by decide), up2_j (by decide), up2_j (by decide), up2_j (by decide), up2_same], by rw [← hM, up2_j (by decide), up2_j (by decide), up2_j (by decide), up2_same], by rw [← hM, up2_j (by decide), up2_j (by decide), up2_same]⟩
      clear hM
      have FM : WFr c M := (F03.trans F4.wfr).trans ⟨fun q q1 _ _ _ => Mk q (by omega), fun _ _ => by rw [Mk 5 (by decide)], fun j _ => by rw [Mk 0 (by decide)]⟩
      have M5 : M 106 5 = a 169 3 := by rw [Mj 5 (by omega), L4 106 (by decide) (by decide) (by decide), r3 106 (by decide) (by decide), q2]
      have M109 : ∀ j : Int, 0 ≤ j → j < a 169 3 → M 109 j = j := fun j j0 j1 => by rw [Mk 109 (by decide), L4 109 (by decide) (by decide) (by decide), r3 109 (by decide) (by decide), q3 j j0 j1]
      have M15 : M 0 15 = chN a (wkN' a v x p k).1 96 := by rw [Mk 0 (by decide), L4 0 (by decide) (by decide) (by decide), r1]
      refine ca_X11_weeks_89 (ct_followPath (v := v) (r := dRow a p (wkN' a v x p k).1) (bits := c3 108) (B := 0) (W := 0) (t := (0, 0, 0)) (p := pN (a 169 3).toNat) (FM.town h.town) (FM.set h.set) hT hS dRow_ok r2 (O4.fr (fun q hq => Mk q (by omega))) ⟨by decide, by decide, by decide, by decide, by decide, by decide⟩ (by decide) MT (fun s hs => by have := pN_mem hs; omega) (by rw [pN_len]; omega) (by rw [M5, pN_len]; omega) (fun j hj => by rw [pN_len] at hj; rw [pN_get hj]; exact M109 j (by omega) (by omega))) (fun z c5 hz => ?_)
      obtain ⟨hz, V5, -⟩ := hz
      have F5 : WFr c c5 := FM.trans V5.ofr.wfr
      have k5 : c5 106 5 = a 169 3 := by rw [V5.1 5 (by omega), M5]
      have k109 : ∀ j : Int, 0 ≤ j → j < a 169 3 → c5 109 j = j := fun j j0 j1 => by rw [V5.2 109 (by omega)]; exact M109 j j0 j1
      have k15 : c5 0 15 = chN a (wkN' a v x p k).1 96 := by rw [V5.2 0 (by omega), M15]
      have nx := ih (k + 1) c5 (by omega)
      have ew : wkN' a v x p (k + 1) = wkF a v p (wkN' a v x p k) := rfl
      rw [show ((k + 1 : Nat) : Int) = (k : Int) + 1 by omega, ew] at nx
      rcases hz with ⟨t', w1, ez, w2, -, -⟩ | ⟨w1, ez⟩
      · have we := week_end hT hS w1
        have ef : wkF a v p (wkN' a v x p k) = (chN a (wkN' a v x p k).1 96, (wkN' a v x p k).2.1 + 1, (if (wkN' a v x p k).2.1 ≠ 0 then min (wkN' a v x p k).2.2.1 t'.2.2 else t'.2.2), max (wkN' a v x p k).2.2.2 t'.2.2) := by unfold wkF; rw [w1]
        rw [ef] at nx
        have nx := nx k15 k5 k109 F5
        refine sg_X11_weeks_92 (by rw [ez]; decide) ⟨by omega, by omega⟩ ⟨by omega, by omega⟩ (fun _ _ => by rw [w2.2.2]; constructor <;> omega) ⟨by omega, by omega⟩ (fun _ => by rw [w2.2.2]; constructor <;> omega) ?_
        have h1 : ¬ (1 : Int) = 0 := by decide
        rw [ez, w2.2.2, if_neg h1, if_neg h1, if_neg h1]
        exact nx
      · have ef : wkF a v p (wkN' a v x p k) = (chN a (wkN' a v x p k).1 96, (wkN' a v x p k).2) := by unfold wkF; rw [w1]
        rw [ef] at nx
        have nx := nx k15 k5 k109 F5
        refine sg_X11_weeks_92 (by rw [ez]; decide) ⟨by omega, by omega⟩ ⟨by omega, by omega⟩ (fun g => absurd ez g) ⟨by omega, by omega⟩ (fun g => absurd ez g) ?_
        rw [ez, if_pos rfl, if_pos rfl, if_pos rfl]
        exact nx
  exact key n.toNat 0 c1 (by omega) x1 p5 p109 F1
