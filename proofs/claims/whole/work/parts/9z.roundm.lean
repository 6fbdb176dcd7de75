/-! round: the reference reads -/
theorem six9 {c z : Int} (h : sIx 9 c z) : (c = 103 ∧ z = 0) ∨ (c = 101 ∧ z = 1) ∨ (c = 116 ∧ z = 2) ∨ (c = 112 ∧ z = 3) ∨ ((c ≠ 116 ∧ c ≠ 103 ∧ c ≠ 112 ∧ c ≠ 101) ∧ z = -1) := by
  have e0 : sAt 9 0 = 103 := by decide
  have e1 : sAt 9 1 = 101 := by decide
  have e2 : sAt 9 2 = 116 := by decide
  have e3 : sAt 9 3 = 112 := by decide
  have el : sLen 9 = 4 := by decide
  rcases h with ⟨q, ez, hq, hc, -⟩ | ⟨ez, hn⟩
  · rw [el] at hq
    have : q = 0 ∨ q = 1 ∨ q = 2 ∨ q = 3 := by omega
    rcases this with rfl | rfl | rfl | rfl
    · rw [e0] at hc; omega
    · rw [e1] at hc; omega
    · rw [e2] at hc; omega
    · rw [e3] at hc; omega
  · have h0 := hn 0 (by rw [el]; decide)
    have h1 := hn 1 (by rw [el]; decide)
    have h2 := hn 2 (by rw [el]; decide)
    have h3 := hn 3 (by rw [el]; decide)
    rw [e0] at h0
    rw [e1] at h1
    rw [e2] at h2
    rw [e3] at h3
    omega
theorem six10 {c z : Int} (h : sIx 10 c z) : (48 ≤ c ∧ c ≤ 50 ∧ z = c - 48) ∨ (¬ (48 ≤ c ∧ c ≤ 50) ∧ z = -1) := by
  have e0 : sAt 10 0 = 48 := by decide
  have e1 : sAt 10 1 = 49 := by decide
  have e2 : sAt 10 2 = 50 := by decide
  have el : sLen 10 = 3 := by decide
  rcases h with ⟨q, ez, hq, hc, -⟩ | ⟨ez, hn⟩
  · rw [el] at hq
    have : q = 0 ∨ q = 1 ∨ q = 2 := by omega
    rcases this with rfl | rfl | rfl
    · rw [e0] at hc; omega
    · rw [e1] at hc; omega
    · rw [e2] at hc; omega
  · have h0 := hn 0 (by rw [el]; decide)
    have h1 := hn 1 (by rw [el]; decide)
    have h2 := hn 2 (by rw [el]; decide)
    rw [e0] at h0
    rw [e1] at h1
    rw [e2] at h2
    omega
theorem num1 {lk : Int → Int} {i : Int} : num lk 1 i = if 48 ≤ lk i ∧ lk i ≤ 57 then (lk i - 48, i + 1) else (-1, i) := by
  unfold num
  split
  · rename_i g
    rw [numG, if_pos g, numG]
    rw [show 10 * 0 + lk i - 48 = lk i - 48 by omega]
  · rfl
/-- the act of a code, as the reference holds it -/
def ActR (code s o t : Int) : Prop := (s = 0 ∧ code = o ∧ 0 ≤ o ∧ o ≤ 9) ∨ (s = 1 ∧ code = 10000 + 10 * o + t ∧ 0 ≤ o ∧ o ≤ 9 ∧ 0 ≤ t ∧ t ≤ 2) ∨ (s = 2 ∧ code = 20000) ∨ (s = 3 ∧ code = 30000 + o ∧ 0 ≤ o ∧ o ≤ 9999)
def FrA (k : Int) (m m' : Mem) : Prop := (∀ q, q ≠ 169 → q ≠ 191 → q ≠ 192 → q ≠ 193 → m' q = m q) ∧ (∀ j : Int, j ≠ 18 → j ≠ 46 → m' 169 j = m 169 j) ∧ ∀ j : Int, j ≠ k → m' 191 j = m 191 j ∧ m' 192 j = m 192 j ∧ m' 193 j = m 193 j
theorem FrA.trans {k : Int} {a b d : Mem} (h : FrA k a b) (g : FrA k b d) : FrA k a d := ⟨fun q q1 q2 q3 q4 => (g.1 q q1 q2 q3 q4).trans (h.1 q q1 q2 q3 q4), fun j q1 q2 => (g.2.1 j q1 q2).trans (h.2.1 j q1 q2), fun j hj => ⟨(g.2.2 j hj).1.trans (h.2.2 j hj).1, (g.2.2 j hj).2.1.trans (h.2.2 j hj).2.1, (g.2.2 j hj).2.2.trans (h.2.2 j hj).2.2⟩⟩
theorem FrA.pos {k : Int} {m m' : Mem} (h : PosR m m') : FrA k m m' := ⟨fun q q1 _ _ _ => h.1 q q1, fun j q1 _ => h.2 j q1, fun j _ => ⟨by rw [h.1 191 (by decide)], by rw [h.1 192 (by decide)], by rw [h.1 193 (by decide)]⟩⟩
theorem FrA.s1 {k : Int} {m : Mem} {y z : Int} : FrA k m (up2 (up2 m 191 k z) 169 46 y) := ⟨fun q q1 q2 _ _ => by rw [up2_k q1, up2_k q2], fun j _ q2 => by rw [up2_j q2, up2_k (by decide)], fun j hj => ⟨by rw [up2_k (by decide), up2_j hj], by rw [up2_k (by decide), up2_k (by decide)], by rw [up2_k (by decide), up2_k (by decide)]⟩⟩
theorem FrA.s2 {k : Int} {m : Mem} {z : Int} : FrA k m (up2 m 192 k z) := ⟨fun q _ _ q2 _ => up2_k q2, fun j _ _ => by rw [up2_k (by decide)], fun j hj => ⟨by rw [up2_k (by decide)], up2_j hj, by rw [up2_k (by decide)]⟩⟩
theorem FrA.s3 {k : Int} {m : Mem} {z : Int} : FrA k m (up2 m 193 k z) := ⟨fun q _ _ _ q2 => up2_k q2, fun j _ _ => by rw [up2_k (by decide)], fun j hj => ⟨by rw [up2_k (by decide)], by rw [up2_k (by decide)], up2_j hj⟩⟩
theorem mt_readsAct {E : Nat × (Nat → Int32)} {m a : Mem} {L p k : Int} (T : TxR a L p m) (hk : m 169 46 = k) (k0 : 0 ≤ k) (k60 : k < 60) : K_X12_readsAct E [.ref 169] m (fun z m' => ((z = 1 ∧ 0 ≤ (actG (lkA a L) p).1 ∧ ActR (actG (lkA a L) p).1 (m' 191 k) (m' 192 k) (m' 193 k)) ∨ (z = 0 ∧ (actG (lkA a L) p).1 = -1)) ∧ TxR a L (actG (lkA a L) p).2 m' ∧ m' 169 46 = k + 1 ∧ FrA k m m') := by
  have b := T.2.1
  refine en_X12_readsAct (sg_X12_readsAct_0 ?_)
  rw [hk]
  refine ca_X12_readsAct_14 (mt_takesS (i := 9) (by decide) T) (fun z m1 hz => ?_)
  obtain ⟨ez, T1, P1⟩ := hz
  have F1 : FrA k m m1 := FrA.pos P1
  have e46 : m1 169 46 + 1 = k + 1 := by rw [P1.2 46 (by decide), hk]
  have T2 : TxR a L (if z < 0 then p else p + 1) (up2 (up2 m1 191 k z) 169 46 (m1 169 46 + 1)) := T1.fr (by rw [up2_j (by decide), up2_k (by decide)]) (by rw [up2_j (by decide), up2_k (by decide)]) (by rw [up2_k (by decide), up2_k (by decide)])
  have F2 : FrA k m (up2 (up2 m1 191 k z) 169 46 (m1 169 46 + 1)) := F1.trans FrA.s1
  have m46 : up2 (up2 m1 191 k z) 169 46 (m1 169 46 + 1) 169 46 = k + 1 := by rw [up2_same, e46]
  have m91 : up2 (up2 m1 191 k z) 169 46 (m1 169 46 + 1) 191 k = z := by rw [up2_k (by decide), up2_same]
  have es : up2 m1 191 k z 191 k = z := up2_same _ _ _ _
  have rz : RI z := by rcases six9 ez with ⟨-, rfl⟩ | ⟨-, rfl⟩ | ⟨-, rfl⟩ | ⟨-, rfl⟩ | ⟨-, rfl⟩ <;> decide
  refine sg_X12_readsAct_17 ⟨k0, k60⟩ ⟨k0, k60⟩ (by rw [es]; exact rz) (fun g g2 => ?_) (fun g g2 => ?_) (fun g g2 => ?_) (fun g g2 g3 => absurd g2 g3) (fun _ g g2 => ?_)
  · rw [es] at g
    rw [if_pos g] at T2
    rcases six9 ez with ⟨-, o⟩ | ⟨-, o⟩ | ⟨-, o⟩ | ⟨-, o⟩ | ⟨⟨n1, n2, n3, n4⟩, -⟩
    · omega
    · omega
    · omega
    · omega
    · rw [actG_no n1 n2 n3 n4]
      exact ⟨_, rfl, Or.inr ⟨rfl, rfl⟩, T2, m46, F2⟩
  · rw [es] at g g2
    omega
  · rw [es] at g g2
    rw [if_neg g] at T2
    rw [es]
    have K4 : 1 ≤ (if z ≠ 3 then (1 : Int) else (4 : Int)) ∧ (if z ≠ 3 then (1 : Int) else (4 : Int)) ≤ 4 := by split <;> omega
    refine ca_X12_readsAct_84 (mt_number T2 K4.1 K4.2) (fun y m2 hy => ?_)
    obtain ⟨ey, T3, P3⟩ := hy
    have ny := num_ok (a := a) (L := L) (k := (if z ≠ 3 then (1 : Int) else (4 : Int)).toNat) (i := p + 1) (by omega) T2.2.1.2.1
    rw [← ey] at ny
    have F3 : FrA k m (up2 m2 192 k y) := (F2.trans (FrA.pos P3)).trans FrA.s2
    have T4 : TxR a L (num (lkA a L) (if z ≠ 3 then (1 : Int) else (4 : Int)).toNat (p + 1)).2 (up2 m2 192 k y) := T3.fr (by rw [up2_k (by decide)]) (by rw [up2_k (by decide)]) (up2_k (by decide))
    have n46 : up2 m2 192 k y 169 46 = k + 1 := by rw [up2_k (by decide), P3.2 46 (by decide), m46]
    have n91 : m2 191 k = z := by rw [P3.1 191 (by decide), m91]
    have n91' : up2 m2 192 k y 191 k = z := by rw [up2_k (by decide), n91]
    have n92 : up2 m2 192 k y 192 k = y := up2_same _ _ _ _
    refine sg_X12_readsAct_87 ⟨k0, k60⟩ ⟨k0, k60⟩ (by rw [n92]; constructor <;> omega) (fun _ => by rw [n91]; exact rz) (fun g3 _ => ?_) (fun g3 g4 => absurd g3 g4) (fun g3 g4 => ?_) (fun g3 _ g4 => absurd g4 g3) (fun g3 g4 _ => ?_)
    · rw [n92] at g3
      have y1 : y = -1 := by omega
      rcases six9 ez with ⟨c, o⟩ | ⟨c, o⟩ | ⟨c, o⟩ | ⟨c, o⟩ | ⟨-, o⟩
      · subst o
        rw [actG_g c]
        have e : num (lkA a L) 1 (p + 1) = if 48 ≤ lkA a L (p + 1) ∧ lkA a L (p + 1) ≤ 57 then (lkA a L (p + 1) - 48, p + 1 + 1) else (-1, p + 1) := num1
        have ey : y = (num (lkA a L) 1 (p + 1)).1 := ey
        have T4 : TxR a L (num (lkA a L) 1 (p + 1)).2 (up2 m2 192 k y) := T4
        rw [e] at ey T4
        by_cases d : 48 ≤ lkA a L (p + 1) ∧ lkA a L (p + 1) ≤ 57
        · rw [if_pos d] at ey
          dsimp only at ey
          omega
        · rw [if_neg d] at T4 ⊢
          exact ⟨_, rfl, Or.inr ⟨rfl, rfl⟩, T4, n46, F3⟩
      · subst o
        rw [actG_e c]
        have e : num (lkA a L) 1 (p + 1) = if 48 ≤ lkA a L (p + 1) ∧ lkA a L (p + 1) ≤ 57 then (lkA a L (p + 1) - 48, p + 1 + 1) else (-1, p + 1) := num1
        have ey : y = (num (lkA a L) 1 (p + 1)).1 := ey
        have T4 : TxR a L (num (lkA a L) 1 (p + 1)).2 (up2 m2 192 k y) := T4
        rw [e] at ey T4
        by_cases d : 48 ≤ lkA a L (p + 1) ∧ lkA a L (p + 1) ≤ 57
        · rw [if_pos d] at ey
          dsimp only at ey
          omega
        · rw [if_neg d] at T4 ⊢
          exact ⟨_, rfl, Or.inr ⟨rfl, rfl⟩, T4, n46, F3⟩
      · omega
      · subst o
        rw [actG_p c]
        have ey : y = (num (lkA a L) 4 (p + 1)).1 := ey
        have T4 : TxR a L (num (lkA a L) 4 (p + 1)).2 (up2 m2 192 k y) := T4
        refine ⟨_, rfl, Or.inr ⟨rfl, ?_⟩, T4, n46, F3⟩
        dsimp only
        rw [if_neg (by omega)]
      · omega
    · rw [n92] at g3
      rw [n91] at g4
      subst g4
      rcases six9 ez with ⟨c, o⟩ | ⟨c, o⟩ | ⟨c, o⟩ | ⟨c, o⟩ | ⟨-, o⟩
      · omega
      · have e : num (lkA a L) 1 (p + 1) = if 48 ≤ lkA a L (p + 1) ∧ lkA a L (p + 1) ≤ 57 then (lkA a L (p + 1) - 48, p + 1 + 1) else (-1, p + 1) := num1
        have ey : y = (num (lkA a L) 1 (p + 1)).1 := ey
        have T4 : TxR a L (num (lkA a L) 1 (p + 1)).2 (up2 m2 192 k y) := T4
        rw [e] at ey T4
        by_cases d : 48 ≤ lkA a L (p + 1) ∧ lkA a L (p + 1) ≤ 57
        · rw [if_pos d] at ey T4
          dsimp only at ey T4
          rw [show p + 1 + 1 = p + 2 by omega] at T4
          refine ca_X12_readsAct_131 (mt_takesS (i := 10) (by decide) T4) (fun x m5 hx => ?_)
          obtain ⟨ex, T5, P5⟩ := hx
          have F5 : FrA k m (up2 m5 193 k x) := (F3.trans (FrA.pos P5)).trans FrA.s3
          have o46 : up2 m5 193 k x 169 46 = k + 1 := by rw [up2_k (by decide), P5.2 46 (by decide), n46]
          have o93 : up2 m5 193 k x 193 k = x := up2_same _ _ _ _
          have o92 : up2 m5 193 k x 192 k = y := by rw [up2_k (by decide), P5.1 192 (by decide), n92]
          have o91 : up2 m5 193 k x 191 k = 1 := by rw [up2_k (by decide), P5.1 191 (by decide), n91']
          have T6 : TxR a L (if x < 0 then p + 2 else p + 2 + 1) (up2 m5 193 k x) := T5.fr (by rw [up2_k (by decide)]) (by rw [up2_k (by decide)]) (up2_k (by decide))
          rw [actG_e c, if_pos d]
          have s10 := six10 ex
          have rx : RI x := by
            rcases s10 with ⟨d1, d2, d3⟩ | ⟨-, d3⟩ <;> constructor <;> omega
          refine sg_X12_readsAct_134 ⟨k0, k60⟩ ⟨k0, k60⟩ (by rw [o93]; exact rx) (fun g5 => ?_) (fun g5 => ?_)
          · rw [o93] at g5
            rw [if_pos g5] at T6
            rw [if_neg (by omega)]
            exact ⟨_, rfl, Or.inr ⟨rfl, rfl⟩, T6, o46, F5⟩
          · rw [o93] at g5
            rw [if_neg g5, show p + 2 + 1 = p + 3 by omega] at T6
            rw [if_pos (by omega)]
            refine ⟨_, rfl, Or.inl ⟨rfl, by dsimp only; omega, ?_⟩, T6, o46, F5⟩
            rw [o91, o92, o93]
            dsimp only
            exact Or.inr (Or.inl ⟨rfl, by omega, by omega, by omega, by omega, by omega⟩)
        · rw [if_neg d] at ey
          dsimp only at ey
          omega
      · omega
      · omega
      · omega
    · rw [n92] at g3
      rw [n91] at g4
      have fin : 0 ≤ (actG (lkA a L) p).1 → ActR (actG (lkA a L) p).1 z y (up2 m2 192 k y 193 k) → TxR a L (actG (lkA a L) p).2 (up2 m2 192 k y) → (Pi fun z m' => ((z = 1 ∧ 0 ≤ (actG (lkA a L) p).1 ∧ ActR (actG (lkA a L) p).1 (m' 191 k) (m' 192 k) (m' 193 k)) ∨ (z = 0 ∧ (actG (lkA a L) p).1 = -1)) ∧ TxR a L (actG (lkA a L) p).2 m' ∧ m' 169 46 = k + 1 ∧ FrA k m m') (some (vi 1)) (up2 m2 192 k y) := fun h1 h2 h3 => ⟨_, rfl, Or.inl ⟨rfl, h1, by rw [n91', n92]; exact h2⟩, h3, n46, F3⟩
      rcases six9 ez with ⟨c, o⟩ | ⟨c, o⟩ | ⟨c, o⟩ | ⟨c, o⟩ | ⟨-, o⟩
      · subst o
        have e : num (lkA a L) 1 (p + 1) = if 48 ≤ lkA a L (p + 1) ∧ lkA a L (p + 1) ≤ 57 then (lkA a L (p + 1) - 48, p + 1 + 1) else (-1, p + 1) := num1
        have ey : y = (num (lkA a L) 1 (p + 1)).1 := ey
        have T4 : TxR a L (num (lkA a L) 1 (p + 1)).2 (up2 m2 192 k y) := T4
        rw [e] at ey T4
        by_cases d : 48 ≤ lkA a L (p + 1) ∧ lkA a L (p + 1) ≤ 57
        · rw [if_pos d] at ey T4
          dsimp only at ey T4
          have eA : actG (lkA a L) p = (lkA a L (p + 1) - 48, p + 2) := by rw [actG_g c, if_pos d]
          refine fin (by rw [eA]; dsimp only; omega) ?_ ?_
          · rw [eA]
            exact Or.inl ⟨rfl, by dsimp only; omega, by omega, by omega⟩
          · rw [eA]
            dsimp only
            rw [show p + 2 = p + 1 + 1 by omega]
            exact T4
        · rw [if_neg d] at ey
          dsimp only at ey
          omega
      · omega
      · omega
      · subst o
        have ey : y = (num (lkA a L) 4 (p + 1)).1 := ey
        have T4 : TxR a L (num (lkA a L) 4 (p + 1)).2 (up2 m2 192 k y) := T4
        have eA : actG (lkA a L) p = (30000 + y, (num (lkA a L) 4 (p + 1)).2) := by rw [actG_p c, ← ey, if_pos (by omega)]
        refine fin (by rw [eA]; dsimp only; omega) ?_ ?_
        · rw [eA]
          exact Or.inr (Or.inr (Or.inr ⟨rfl, rfl, by omega, by omega⟩))
        · rw [eA]
          exact T4
      · omega
  · rw [es] at g
    subst g
    rw [if_neg (by decide)] at T2
    rcases six9 ez with ⟨c, o⟩ | ⟨c, o⟩ | ⟨c, o⟩ | ⟨c, o⟩ | ⟨-, o⟩
    · omega
    · omega
    · rw [actG_t c]
      exact ⟨_, rfl, Or.inl ⟨rfl, (by decide : (0 : Int) ≤ 20000), by rw [m91]; exact Or.inr (Or.inr (Or.inl ⟨rfl, rfl⟩))⟩, T2, m46, F2⟩
    · omega
    · omega
