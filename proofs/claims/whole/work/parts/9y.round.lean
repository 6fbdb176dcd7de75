/-! round: what its text tells -/
def actG (lk : Int → Int) (i : Int) : Int × Int :=
  if lk i = 116 then (20000, i + 1)
  else if lk i = 103 then (if 48 ≤ lk (i + 1) ∧ lk (i + 1) ≤ 57 then (lk (i + 1) - 48, i + 2) else (-1, i + 1))
  else if lk i = 112 then ((if 0 ≤ (num lk 4 (i + 1)).1 then 30000 + (num lk 4 (i + 1)).1 else -1), (num lk 4 (i + 1)).2)
  else if lk i = 101 then (if 48 ≤ lk (i + 1) ∧ lk (i + 1) ≤ 57 then (if 48 ≤ lk (i + 2) ∧ lk (i + 2) ≤ 50 then (10000 + 10 * (lk (i + 1) - 48) + (lk (i + 2) - 48), i + 3) else (-1, i + 2)) else (-1, i + 1))
  else (-1, i)
theorem actG_t {lk : Int → Int} {i : Int} (h : lk i = 116) : actG lk i = (20000, i + 1) := if_pos h
theorem actG_g {lk : Int → Int} {i : Int} (h : lk i = 103) : actG lk i = if 48 ≤ lk (i + 1) ∧ lk (i + 1) ≤ 57 then (lk (i + 1) - 48, i + 2) else (-1, i + 1) := by unfold actG; rw [if_neg (by omega), if_pos h]
theorem actG_p {lk : Int → Int} {i : Int} (h : lk i = 112) : actG lk i = ((if 0 ≤ (num lk 4 (i + 1)).1 then 30000 + (num lk 4 (i + 1)).1 else -1), (num lk 4 (i + 1)).2) := by unfold actG; rw [if_neg (by omega), if_neg (by omega), if_pos h]
theorem actG_e {lk : Int → Int} {i : Int} (h : lk i = 101) : actG lk i = if 48 ≤ lk (i + 1) ∧ lk (i + 1) ≤ 57 then (if 48 ≤ lk (i + 2) ∧ lk (i + 2) ≤ 50 then (10000 + 10 * (lk (i + 1) - 48) + (lk (i + 2) - 48), i + 3) else (-1, i + 2)) else (-1, i + 1) := by unfold actG; rw [if_neg (by omega), if_neg (by omega), if_neg (by omega), if_pos h]
theorem actG_no {lk : Int → Int} {i : Int} (h : lk i ≠ 116) (h2 : lk i ≠ 103) (h3 : lk i ≠ 112) (h4 : lk i ≠ 101) : actG lk i = (-1, i) := by unfold actG; rw [if_neg h, if_neg h2, if_neg h3, if_neg h4]
theorem actG_ok {a : Mem} {L i : Int} (hi : i ≤ L) : ((actG (lkA a L) i).1 = -1 ∨ (0 ≤ (actG (lkA a L) i).1 ∧ (actG (lkA a L) i).1 < 40000 ∧ i < (actG (lkA a L) i).2)) ∧ i ≤ (actG (lkA a L) i).2 ∧ (actG (lkA a L) i).2 ≤ L := by
  by_cases c1 : lkA a L i = 116
  · have q := (lk_pos (show 0 ≤ lkA a L i by omega)).1
    rw [actG_t c1]
    refine ⟨Or.inr ⟨?_, ?_, ?_⟩, ?_, ?_⟩ <;> dsimp only <;> omega
  · by_cases c2 : lkA a L i = 103
    · have q := (lk_pos (show 0 ≤ lkA a L i by omega)).1
      rw [actG_g c2]
      split
      · rename_i g
        have q2 := (lk_pos (show 0 ≤ lkA a L (i + 1) by omega)).1
        refine ⟨Or.inr ⟨?_, ?_, ?_⟩, ?_, ?_⟩ <;> dsimp only <;> omega
      · refine ⟨Or.inl rfl, ?_, ?_⟩ <;> dsimp only <;> omega
    · by_cases c3 : lkA a L i = 112
      · have q := (lk_pos (show 0 ≤ lkA a L i by omega)).1
        rw [actG_p c3]
        have n := num_ok (a := a) (L := L) (k := 4) (i := i + 1) (by decide) (by omega)
        dsimp only
        split
        · refine ⟨Or.inr ⟨?_, ?_, ?_⟩, ?_, ?_⟩ <;> omega
        · refine ⟨Or.inl rfl, ?_, ?_⟩ <;> omega
      · by_cases c4 : lkA a L i = 101
        · have q := (lk_pos (show 0 ≤ lkA a L i by omega)).1
          rw [actG_e c4]
          split
          · rename_i g
            have q2 := (lk_pos (show 0 ≤ lkA a L (i + 1) by omega)).1
            split
            · rename_i g2
              have q3 := (lk_pos (show 0 ≤ lkA a L (i + 2) by omega)).1
              refine ⟨Or.inr ⟨?_, ?_, ?_⟩, ?_, ?_⟩ <;> dsimp only <;> omega
            · refine ⟨Or.inl rfl, ?_, ?_⟩ <;> dsimp only <;> omega
          · refine ⟨Or.inl rfl, ?_, ?_⟩ <;> dsimp only <;> omega
        · rw [actG_no c1 c2 c3 c4]
          refine ⟨Or.inl rfl, ?_, ?_⟩ <;> dsimp only <;> omega
theorem actG_end {a : Mem} {L i : Int} (hi : L ≤ i) : actG (lkA a L) i = (-1, i) := by
  have e := lk_end (a := a) hi
  exact actG_no (by omega) (by omega) (by omega) (by omega)
/-- all acts of a text of n signs -/
def rdG (lk : Int → Int) (n : Int) : Nat → Int → List Int → Int × List Int × Bool
  | 0, i, l => (i, l, false)
  | f + 1, i, l => if (actG lk i).1 < 0 then ((actG lk i).2, l, false) else if n ≤ (actG lk i).2 then ((actG lk i).2, l ++ [(actG lk i).1], true) else if lk (actG lk i).2 = 59 then rdG lk n f ((actG lk i).2 + 1) (l ++ [(actG lk i).1]) else ((actG lk i).2, l ++ [(actG lk i).1], false)
def rdA (a : Mem) : Int × List Int × Bool := if a 169 17 ≤ 0 then (0, [], true) else rdG (lkA a (min (a 169 17) 60)) (a 169 17) 30 0 []
theorem ct_readAct {E : Nat × (Nat → Int32)} {c a : Mem} {L p : Int} (T : TxC a L p c) : K_X11_readAct E [.ref 0] c (fun z c' => z = (actG (lkA a L) p).1 ∧ TxC a L (actG (lkA a L) p).2 c' ∧ PosC c c') := by
  have b := T.2.1
  have r0 := T.rng
  have T1 : 0 ≤ lookM c → TxC a L (p + 1) (up2 c 1 2 (c 1 2 + 1)) := fun g => T.pass (lk_pos (by rw [T.look] at g; exact g)).1 (by rw [T.p])
  have T2 : 0 ≤ lookM c → 0 ≤ lookM (up2 c 1 2 (c 1 2 + 1)) → TxC a L (p + 2) (up2 (up2 c 1 2 (c 1 2 + 1)) 1 2 ((c 1 2 + 1) + 1)) := fun g g2 => by
    have := (T1 g).pass (lk_pos (by rw [(T1 g).look] at g2; exact g2)).1 (z := c 1 2 + 1 + 1) (by rw [T.p])
    rw [show p + 1 + 1 = p + 2 by omega] at this
    exact this
  have l1 : 0 ≤ lookM c → lookM (up2 c 1 2 (c 1 2 + 1)) = lkA a L (p + 1) := fun g => (T1 g).look
  have l2 : 0 ≤ lookM c → 0 ≤ lookM (up2 c 1 2 (c 1 2 + 1)) → lookM (up2 (up2 c 1 2 (c 1 2 + 1)) 1 2 ((c 1 2 + 1) + 1)) = lkA a L (p + 2) := fun g g2 => (T2 g g2).look
  refine en_X11_readAct (sg_X11_readAct_0 T.ok (fun _ g => (T1 (by omega)).ok) (fun _ _ g => by omega) (fun _ _ _ g => (T1 (by omega)).ok) (fun _ _ _ _ g => by omega) (fun _ _ _ g g2 _ => (T2 (by omega) (by omega)).ok) (fun _ _ _ _ _ _ g => by omega) (fun g => ?_) (fun g g2 g3 => ?_) (fun g g2 g3 => ?_) (fun g g2 g3 => ?_) (fun g g2 g3 g4 g5 g6 g7 => ?_) (fun g g2 g3 g4 g5 g6 g7 => ?_) (fun g g2 g3 g4 g5 g6 => by omega) (fun g g2 g3 g4 g5 => ?_) (fun g g2 g3 g4 => ?_))
  · have t := T1 (by omega)
    rw [T.look] at g
    rw [actG_t g]
    exact ⟨_, rfl, rfl, t, PosC.up⟩
  · have t := T2 (by omega) (by omega)
    have e1 := l1 (by omega)
    rw [T.look] at g2
    rw [e1] at g3 ⊢
    rw [actG_g g2, if_pos (by omega), if_pos (by omega)]
    refine ⟨_, rfl, by omega, t, PosC.up.trans PosC.up⟩
  · have t := T1 (by omega)
    have e1 := l1 (by omega)
    rw [T.look] at g2
    rw [e1] at g3
    rw [actG_g g2, if_neg (by omega)]
    exact ⟨_, rfl, rfl, t, PosC.up⟩
  · have t := T1 (by omega)
    rw [T.look] at g3
    rw [actG_p g3]
    refine ca_X11_readAct_67 (ct_number t (by decide) (by decide)) (fun z m2 hz => ?_)
    obtain ⟨ez, t2, ps⟩ := hz
    have n := num_ok (a := a) (L := L) (k := 4) (i := p + 1) (by decide) (t.2.1.2.1)
    have ez : z = (num (lkA a L) 4 (p + 1)).1 := ez
    refine sg_X11_readAct_70 ⟨by omega, by omega⟩ ⟨_, rfl, ?_, t2, PosC.up.trans ps⟩
    rw [ez]
  · have t := T2 (by omega) (by omega)
    have e1 := l1 (by omega)
    have e2 := l2 (by omega) (by omega)
    have t3 := t.pass (lk_pos (show 0 ≤ lkA a L (p + 2) by omega)).1 (z := c 1 2 + 1 + 1 + 1) (by rw [T.p]; omega)
    rw [T.look] at g4
    rw [e1] at g5 g6 ⊢
    rw [e2] at g7 ⊢
    rw [actG_e g4, if_pos (by omega), if_pos (by omega), if_pos (by omega)]
    refine ⟨_, rfl, by dsimp only; omega, ?_, PosC.up.trans (PosC.up.trans PosC.up)⟩
    rw [show p + 3 = p + 2 + 1 by omega]
    exact t3
  · have t := T2 (by omega) (by omega)
    have e1 := l1 (by omega)
    have e2 := l2 (by omega) (by omega)
    rw [T.look] at g4
    rw [e1] at g5
    rw [e2] at g7
    rw [actG_e g4, if_pos (by omega), if_neg (by omega)]
    exact ⟨_, rfl, rfl, t, PosC.up.trans PosC.up⟩
  · have t := T1 (by omega)
    have e1 := l1 (by omega)
    rw [T.look] at g4
    rw [e1] at g5
    rw [actG_e g4, if_neg (by omega)]
    exact ⟨_, rfl, rfl, t, PosC.up⟩
  · rw [T.look] at g g2 g3 g4
    rw [actG_no g g2 g3 g4]
    exact ⟨_, rfl, rfl, T, PosC.rf⟩
/-- the class reads all acts -/
def RdC (c c' : Mem) : Prop := (∀ k, k ≠ 1 → k ≠ 167 → c' k = c k) ∧ ∀ j : Int, j ≠ 2 → j ≠ 3 → c' 1 j = c 1 j
theorem ct_readActs {E : Nat × (Nat → Int32)} {c a : Mem} (hX : CText c a) (hW : WText a) : K_X11_readActs E [.ref 0] c (fun z c' => (((rdA a).2.2 = true ∧ z = (rdA a).2.1.length ∧ ∀ j : Nat, j < (rdA a).2.1.length → c' 167 j = (rdA a).2.1.getD j 0) ∨ ((rdA a).2.2 = false ∧ z = -1 - (rdA a).1)) ∧ (((rdA a).2.1.length : Int) ≤ 30 ∧ ∀ x ∈ (rdA a).2.1, 0 ≤ x ∧ x < 40000) ∧ RdC c c' ∧ TextOK c') := by
  obtain ⟨⟨x1, x2, -, -, -, -, x7⟩, y1, y2⟩ := hX
  have w0 := hW.1
  have w1 := hW.2.1
  refine en_X11_readActs (sg_X11_readActs_0 (by rw [y1]; constructor <;> omega) (fun g => ?_) (fun g => ?_))
  · rw [y1] at g
    have e : rdA a = (0, [], true) := if_pos g
    rw [e]
    exact ⟨_, rfl, Or.inl ⟨rfl, rfl, fun j hj => by have hj : j < 0 := hj; omega⟩, ⟨by decide, fun x hx => by cases hx⟩, ⟨fun k h1 h2 => by rw [up2_k h1, up2_k h1], fun j h1 h2 => by rw [up2_j h2, up2_j h1]⟩, ⟨by rw [up2_j (by decide), up2_j (by decide)]; omega, by rw [up2_j (by decide), up2_j (by decide)]; omega, by rw [up2_j (by decide), up2_same]; omega, by rw [up2_j (by decide), up2_same]; omega, by rw [up2_same]; omega, by rw [up2_same]; omega, by rw [up2_k (by decide), up2_k (by decide)]; exact x7⟩⟩
  · rw [y1] at g ⊢
    have e : rdA a = rdG (lkA a (min (a 169 17) 60)) (a 169 17) 30 0 [] := if_neg g
    have e60 : min (a 169 17) 60 ≤ a 169 17 ∧ min (a 169 17) 60 ≤ 60 ∧ 0 ≤ min (a 169 17) 60 := by omega
    generalize hL : min (a 169 17) 60 = L at e e60 ⊢
    generalize rdA a = R at e ⊢
    have key : ∀ (f : Nat) (p : Int) (l : List Int) (c2 : Mem), l.length + f = 30 → TxC a L p c2 → p ≤ 60 → R = rdG (lkA a L) (a 169 17) f p l → (∀ j : Nat, j < l.length → c2 167 j = l.getD j 0) → (∀ x ∈ l, 0 ≤ x ∧ x < 40000) → RdC c c2 → GM E (m_X11_readActs 3) (Pi fun z c' => ((R.2.2 = true ∧ z = R.2.1.length ∧ ∀ j : Nat, j < R.2.1.length → c' 167 j = R.2.1.getD j 0) ∨ (R.2.2 = false ∧ z = -1 - R.1)) ∧ ((R.2.1.length : Int) ≤ 30 ∧ ∀ x ∈ R.2.1, 0 ≤ x ∧ x < 40000) ∧ RdC c c' ∧ TextOK c') 23 [.ref 0, vi (l.length : Int), un] [] c2 := by
      intro f
      induction f with
      | zero =>
        intro p l c2 hl T hp eR q1 q2 q3
        have eR : R = (p, l, false) := eR
        rw [eR]
        exact sg_X11_readActs_23 ⟨by omega, by omega⟩ (fun _ => ⟨_, rfl, Or.inr ⟨rfl, by rw [T.p]⟩, ⟨by dsimp only; omega, q2⟩, q3, T.ok⟩) (fun g => by omega)
      | succ f ih =>
        intro p l c2 hl T hp eR q1 q2 q3
        have ok := actG_ok (a := a) (L := L) T.2.1.2.1
        rw [rdG] at eR
        refine sg_X11_readActs_23 ⟨by omega, by omega⟩ (fun g => by omega) (fun _ => ca_X11_readActs_33 (ct_readAct T) (fun z c3 hz => ?_))
        obtain ⟨ez, T3, P3⟩ := hz
        have b3 := T3.2.1
        have q33 : RdC c c3 := ⟨fun k h1 h2 => (P3.1 k h1).trans (q3.1 k h1 h2), fun j h1 h2 => (P3.2 j h1).trans (q3.2 j h1 h2)⟩
        have l1 : ∀ x : Int, (l ++ [x]).length = l.length + 1 := fun x => by rw [List.length_append]; rfl
        have T4 : TxC a L (actG (lkA a L) p).2 (up2 c3 167 (l.length : Int) z) := T3.fr (up2_k (by decide)) (up2_k (by decide))
        have q34 : RdC c (up2 c3 167 (l.length : Int) z) := ⟨fun k h1 h2 => (up2_k h2).trans (q33.1 k h1 h2), fun j h1 h2 => by rw [up2_k (by decide)]; exact q33.2 j h1 h2⟩
        have n4 : ∀ j : Nat, j < l.length + 1 → up2 c3 167 (l.length : Int) z 167 j = (l ++ [z]).getD j 0 := fun j hj => by
          rw [getD_app]
          by_cases cc : j < l.length
          · rw [if_pos cc, up2_j (by omega), P3.1 167 (by decide)]; exact q1 j cc
          · rw [if_neg cc, if_pos (by omega), show j = l.length by omega, up2_same]
        have m4 : 0 ≤ z → ∀ x ∈ l ++ [z], 0 ≤ x ∧ x < 40000 := fun hz x hx => by
          rcases List.mem_append.1 hx with o | o
          · exact q2 x o
          · rw [List.mem_singleton] at o; rw [o]; omega
        refine sg_X11_readActs_36 ⟨by omega, by omega⟩ (fun _ => ⟨by omega, by omega⟩) (fun _ => by rw [T3.p]; constructor <;> omega) (fun _ => by rw [T3.1.1]; constructor <;> omega) (fun _ _ => T4.ok) (fun g g2 => ?_) (fun g g2 g3 => ?_) (fun g g2 g3 => ?_) (fun g => ?_)
        · rw [T3.1.1, T3.p] at g2
          rw [if_neg (by omega), if_pos g2, ← ez] at eR
          rw [eR]
          exact ⟨_, rfl, Or.inl ⟨rfl, by dsimp only; rw [l1]; omega, fun j hj => by dsimp only at hj ⊢; rw [l1] at hj; exact n4 j hj⟩, ⟨by dsimp only; rw [l1]; omega, m4 g⟩, q34, T4.ok⟩
        · rw [T3.1.1, T3.p] at g2
          rw [T4.look] at g3
          rw [if_neg (by omega), if_neg g2, if_pos g3, ← ez] at eR
          have g1 := (lk_pos (show 0 ≤ lkA a L (actG (lkA a L) p).2 by omega)).1
          have T5 := T4.pass g1 (z := c3 1 2 + 1) (by rw [T3.p])
          have := ih _ (l ++ [z]) _ (by rw [l1]; omega) T5 (by omega) eR (fun j hj => by rw [up2_k (by decide)]; rw [l1] at hj; exact n4 j hj) (m4 g) ⟨fun k h1 h2 => (up2_k h1).trans (q34.1 k h1 h2), fun j h1 h2 => (up2_j h1).trans (q34.2 j h1 h2)⟩
          rw [l1, show ((l.length + 1 : Nat) : Int) = (l.length : Int) + 1 by omega] at this
          exact this
        · rw [T3.1.1, T3.p] at g2
          rw [T4.look] at g3
          rw [if_neg (by omega), if_neg g2, if_neg g3, ← ez] at eR
          rw [eR]
          exact ⟨_, rfl, Or.inr ⟨rfl, by rw [T3.p]⟩, ⟨by dsimp only; rw [l1]; omega, m4 g⟩, q34, T4.ok⟩
        · rw [if_pos (by omega)] at eR
          rw [eR]
          exact ⟨_, rfl, Or.inr ⟨rfl, by rw [T3.p]⟩, ⟨by dsimp only; omega, q2⟩, q33, T3.ok⟩
    have := key 30 0 [] (up2 (up2 c 1 2 0) 1 3 L) rfl ⟨⟨by rw [up2_j (by decide), up2_j (by decide)]; exact y1, by rw [up2_j (by decide), up2_same], by rw [up2_same]⟩, ⟨by decide, e60.2.2, e60.1, w1⟩, fun j j0 j1 => by rw [up2_k (by decide), up2_k (by decide)]; exact y2 j j0 j1, fun j j0 j1 => by rw [up2_k (by decide), up2_k (by decide)]; exact x7 j j0 j1⟩ (by decide) e (fun j hj => by have hj : j < 0 := hj; omega) (fun x hx => by cases hx) ⟨fun k h1 h2 => by rw [up2_k h1, up2_k h1], fun j h1 h2 => by rw [up2_j h2, up2_j h1]⟩
    exact this
