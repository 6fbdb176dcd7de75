/-! streets: the class reads a line -/
def FrO (o : Nat) (c c' : Mem) : Prop := (∀ k, k ≠ 1 → k ≠ o → k ≠ o + 1 → c' k = c k) ∧ (∀ j : Int, j ≠ 2 → c' 1 j = c 1 j) ∧ c' o 0 = c o 0 ∧ c' o 6 = c o 6
theorem stL_rng : ∀ o ∈ streetL, 11 ≤ o ∧ o ≤ 21 := by decide
theorem FrO.rf {o : Nat} {c : Mem} : FrO o c c := ⟨fun _ _ _ _ => rfl, fun _ _ => rfl, rfl, rfl⟩
theorem FrO.trans {o : Nat} {a b d : Mem} (h : FrO o a b) (g : FrO o b d) : FrO o a d := ⟨fun k k1 k2 k3 => (g.1 k k1 k2 k3).trans (h.1 k k1 k2 k3), fun j hj => (g.2.1 j hj).trans (h.2.1 j hj), g.2.2.1.trans h.2.2.1, g.2.2.2.trans h.2.2.2⟩
theorem FrO.pos {o : Nat} {c c' : Mem} (ho : o ∈ streetL) (h : PosC c c') : FrO o c c' := by
  have r := stL_rng o ho
  exact ⟨fun k k1 _ _ => h.1 k k1, h.2, by rw [h.1 o (by omega)], by rw [h.1 o (by omega)]⟩
theorem FrO.fld {o : Nat} {c c' : Mem} {j z : Int} (ho : o ∈ streetL) (h : FrO o c c') (j0 : j ≠ 0) (j6 : j ≠ 6) : FrO o c (up2 c' o j z) := by
  have r := stL_rng o ho
  exact ⟨fun k k1 k2 k3 => by rw [up2_k k2]; exact h.1 k k1 k2 k3, fun i hi => by rw [up2_k (by omega)]; exact h.2.1 i hi, by rw [up2_j j0.symm]; exact h.2.2.1, by rw [up2_j j6.symm]; exact h.2.2.2⟩
theorem FrO.wt {o : Nat} {c c' : Mem} (ho : o ∈ streetL) (e1 : ∀ k, k ≠ 1 → k ≠ o + 1 → c' k = c k) (e2 : ∀ j : Int, j ≠ 2 → c' 1 j = c 1 j) : FrO o c c' := by
  have r := stL_rng o ho
  exact ⟨fun k k1 _ k3 => e1 k k1 k3, e2, by rw [e1 o (by omega) (by omega)], by rw [e1 o (by omega) (by omega)]⟩
theorem TxC.fld {a c : Mem} {L p j z : Int} {o : Nat} (ho : o ∈ streetL) (h : TxC a L p c) : TxC a L p (up2 c o j z) := by
  have r := stL_rng o ho
  exact h.fr (up2_k (by omega)) (up2_k (by omega))
theorem ct_readSide {E : Nat × (Nat → Int32)} {a c : Mem} {L p f : Int} {o K : Nat} (ho : o ∈ streetL) (T : TxC a L p c) (f0 : 0 ≤ f) (f8 : f ≤ 8) (K8 : K ≤ 8) : K_X8_readSide E [.ref o, .ref 1, vi f, vi (K : Int)] c (fun z c' => z = (dgN (lkA a L) K p : Int) ∧ TxC a L (p + (dgN (lkA a L) K p : Int)) c' ∧ (∀ k, k ≠ 1 → k ≠ o + 1 → c' k = c k) ∧ (∀ j : Int, j ≠ 2 → c' 1 j = c 1 j) ∧ ∀ h : Int, c' (o + 1) h = if f ≤ h ∧ h < f + (dgN (lkA a L) K p : Int) then lkA a L (p + (h - f)) - 48 else c (o + 1) h) := by
  have r := stL_rng o ho
  generalize hN : dgN (lkA a L) K p = N
  have key : ∀ (rem i : Nat) (c2 : Mem), i + rem = K → N = i + dgN (lkA a L) rem (p + (i : Int)) → TxC a L (p + (i : Int)) c2 → (∀ k, k ≠ 1 → k ≠ o + 1 → c2 k = c k) → (∀ j : Int, j ≠ 2 → c2 1 j = c 1 j) → (∀ h : Int, c2 (o + 1) h = if f ≤ h ∧ h < f + (i : Int) then lkA a L (p + (h - f)) - 48 else c (o + 1) h) → GM E (m_X8_readSide 2) (Pi fun z c' => z = (N : Int) ∧ TxC a L (p + (N : Int)) c' ∧ (∀ k, k ≠ 1 → k ≠ o + 1 → c' k = c k) ∧ (∀ j : Int, j ≠ 2 → c' 1 j = c 1 j) ∧ ∀ h : Int, c' (o + 1) h = if f ≤ h ∧ h < f + (N : Int) then lkA a L (p + (h - f)) - 48 else c (o + 1) h) 3 [.ref o, .ref 1, vi f, vi (K : Int), vi (i : Int), un, un] [] c2 := by
    intro rem
    induction rem with
    | zero =>
      intro i c2 hi eN T2 q1 q2 q3
      have eN : N = i := eN
      subst eN
      exact sg_X8_readSide_3 ho ⟨by omega, by omega⟩ ⟨by omega, by omega⟩ (fun _ => T2.ok) (fun g => by omega) (fun g => by omega) (fun _ => ⟨_, rfl, by omega, T2, q1, q2, q3⟩) (fun g => by omega) (fun g => by omega) (fun g => by omega) (fun g => by omega) (fun g => by omega)
    | succ rem ih =>
      intro i c2 hi eN T2 q1 q2 q3
      refine sg_X8_readSide_3 ho ⟨by omega, by omega⟩ ⟨by omega, by omega⟩ (fun _ => T2.ok) (fun _ g => ⟨by omega, by omega⟩) (fun _ _ _ => ⟨by omega, by omega⟩) (fun g => by omega) (fun _ g g2 => by omega) (fun _ g g2 g3 => by omega) (fun _ g g2 g3 g4 => ?_) (fun _ g g2 g3 g4 => by omega) (fun _ g => ?_)
      · rw [T2.look] at g ⊢
        have gd : 48 ≤ lkA a L (p + (i : Int)) ∧ lkA a L (p + (i : Int)) ≤ 57 := by omega
        have pL := (lk_pos (show 0 ≤ lkA a L (p + (i : Int)) by omega)).1
        rw [dgN_y gd] at eN
        have T3 : TxC a L (p + (i : Int) + 1) (up2 c2 1 2 (c2 1 2 + 1)) := T2.pass pL (by rw [T2.p])
        have T4 : TxC a L (p + ((i + 1 : Nat) : Int)) (up2 (up2 c2 1 2 (c2 1 2 + 1)) (o + 1) (f + (i : Int)) (lkA a L (p + (i : Int)) - 48)) := by
          rw [show p + ((i + 1 : Nat) : Int) = p + (i : Int) + 1 by omega]
          exact T3.fr (up2_k (by omega)) (up2_k (by omega))
        refine ih (i + 1) _ (by omega) ?_ T4 (fun k k1 k2 => by rw [up2_k k2, up2_k k1]; exact q1 k k1 k2) (fun j hj => by rw [up2_k (by omega), up2_j hj]; exact q2 j hj) (fun h => ?_)
        · rw [show p + ((i + 1 : Nat) : Int) = p + (i : Int) + 1 by omega]
          omega
        · by_cases e : h = f + (i : Int)
          · rw [e, up2_same, if_pos ⟨by omega, by omega⟩, show p + (f + (i : Int) - f) = p + (i : Int) by omega]
          · rw [up2_j e, up2_k (by omega), q3 h]
            by_cases e2 : f ≤ h ∧ h < f + (i : Int)
            · rw [if_pos e2, if_pos ⟨e2.1, by omega⟩]
            · rw [if_neg e2, if_neg (by omega)]
      · rw [T2.look] at g
        rw [dgN_n (by omega)] at eN
        have eN : N = i := eN
        subst eN
        exact ⟨_, rfl, rfl, T2, q1, q2, q3⟩
  refine en_X8_readSide (sg_X8_readSide_0 ho ?_)
  have := key K 0 c (by omega) (by rw [show p + ((0 : Nat) : Int) = p by omega, hN]; omega) (by rw [show p + ((0 : Nat) : Int) = p by omega]; exact T) (fun _ _ _ => rfl) (fun _ _ => rfl) (fun h => by rw [if_neg (by omega)])
  exact this
theorem ct_readSides {E : Nat × (Nat → Int32)} {a c : Mem} {L p : Int} {o : Nat} (ho : o ∈ streetL) (T : TxC a L p c) : K_X8_readSides E [.ref o, .ref 1] c (fun z c' => TxC a L (sdG (lkA a L) p).2 c' ∧ FrO o c c' ∧ c' o 2 = c o 2 ∧ (((sdG (lkA a L) p).1 = none ∧ z = 0) ∨ ∃ n : Nat, (sdG (lkA a L) p).1 = some n ∧ z = 1 ∧ c' o 3 = (n : Int) ∧ ∀ h : Int, 0 ≤ h → h < 16 → c' (o + 1) h = wtG (lkA a L) p n h)) := by
  have r := stL_rng o ho
  refine en_X8_readSides (sg_X8_readSides_0 ho (ca_X8_readSides_5 (ct_fill (r := o + 1) (n := 16) (a := 0) (ltStreet1 ho) (shStreet1 ho) (by decide)) (fun c1 h1 => sg_X8_readSides_8 ho ?_)))
  have k1 : ∀ k, k ≠ o + 1 → c1 k = c k := fun k hk => by funext j; rw [h1, if_neg (fun q => hk q.1)]
  have z1 : ∀ h : Int, 0 ≤ h → h < 16 → c1 (o + 1) h = 0 := fun h h0 h6 => by rw [h1, if_pos ⟨rfl, h0, h6⟩]
  have T1 : TxC a L p c1 := T.fr (k1 1 (by omega)) (k1 2 (by omega))
  refine ca_X8_readSides_14 ho (ct_readSide (f := 0) (K := 8) ho T1 (by decide) (by decide) (by decide)) (fun z c2 hz => ?_)
  obtain ⟨ez, T2, q1, q2, q3⟩ := hz
  have l8 := dgN_le (lk := lkA a L) 8 p
  have F2 : FrO o c c2 := (FrO.wt ho (fun k _ h => k1 k h) (fun j _ => by rw [k1 1 (by omega)])).trans (FrO.wt ho q1 q2)
  generalize hn : dgN (lkA a L) 8 p = n at *
  have F3 : FrO o c (up2 c2 o 3 z) := F2.fld ho (by decide) (by decide)
  have e2 : ∀ w : Int, up2 c2 o 3 w o 2 = c o 2 := fun w => by rw [up2_j (by decide), q1 o (by omega) (by omega), k1 o (by omega)]
  have T3 : TxC a L (p + (n : Int)) (up2 c2 o 3 z) := T2.fld ho
  refine sg_X8_readSides_17 ho ⟨by omega, by omega⟩ (fun _ => T3.ok) (fun g => ?_) (fun g g2 => ?_) (fun g g2 => ?_)
  · rw [sd_1 (Or.inl (by omega)), hn]
    exact ⟨_, rfl, T3, F3, e2 _, Or.inl ⟨rfl, rfl⟩⟩
  · rw [T3.look] at g2
    have pL := (lk_pos (show 0 ≤ lkA a L (p + (n : Int)) by omega)).1
    have T4 : TxC a L (p + (n : Int) + 1) (up2 (up2 c2 o 3 z) 1 2 (up2 c2 o 3 z 1 2 + 1)) := T3.pass pL (by rw [T3.p])
    have F4 : FrO o c (up2 (up2 c2 o 3 z) 1 2 (up2 c2 o 3 z 1 2 + 1)) := F3.trans (FrO.pos ho PosC.up)
    generalize hC4 : up2 (up2 c2 o 3 z) 1 2 (up2 c2 o 3 z 1 2 + 1) = C4 at T4 F4 ⊢
    have C4o : ∀ k, k ≠ 1 → C4 k = up2 c2 o 3 z k := fun k hk => by rw [← hC4, up2_k hk]
    clear hC4
    have c43 : C4 o 3 = (n : Int) := by rw [C4o o (by omega), up2_same, ez]
    rw [c43]
    refine ca_X8_readSides_44 ho (ct_readSide (f := 8) (K := n) ho T4 (by decide) (by decide) l8) (fun y c5 hy => ?_)
    obtain ⟨ey, T5, u1, u2, u3⟩ := hy
    have F5 : FrO o c c5 := F4.trans (FrO.wt ho u1 u2)
    have c53 : c5 o 3 = (n : Int) := by rw [u1 o (by omega) (by omega), c43]
    have e52 : c5 o 2 = c o 2 := by rw [u1 o (by omega) (by omega), C4o o (by omega), e2]
    have l9 := dgN_le (lk := lkA a L) n (p + (n : Int) + 1)
    have nc : ¬ (dgN (lkA a L) 8 p = 0 ∨ lkA a L (p + (dgN (lkA a L) 8 p : Int)) ≠ 47) := by rw [hn]; omega
    refine sg_X8_readSides_47 ho ⟨by omega, by omega⟩ (by rw [c53]; constructor <;> omega) (fun g3 => ?_) (fun g3 => ?_)
    · rw [c53] at g3
      have s2 := sd_2 (lk := lkA a L) (p := p) nc (by rw [hn]; omega)
      rw [hn] at s2
      rw [s2]
      exact ⟨_, rfl, T5, F5, e52, Or.inl ⟨rfl, rfl⟩⟩
    · rw [c53] at g3
      have en : dgN (lkA a L) n (p + (n : Int) + 1) = n := by omega
      have s3 := sd_3 (lk := lkA a L) (p := p) nc (by rw [hn]; exact en)
      rw [hn] at s3
      rw [s3]
      rw [en] at T5 u3
      refine ⟨_, rfl, T5, F5, e52, Or.inr ⟨n, rfl, rfl, c53, fun h h0 h6 => ?_⟩⟩
      rw [u3 h]
      unfold wtG
      by_cases b8 : h < 8
      · rw [if_neg (by omega), if_pos b8, C4o (o + 1) (by omega), up2_k (by omega), q3 h]
        by_cases bn : h < n
        · rw [if_pos ⟨h0, by omega⟩, if_pos bn, show p + (h - 0) = p + h by omega]
        · rw [if_neg (by omega), if_neg bn, z1 h h0 h6]
      · rw [if_neg b8]
        by_cases bn : h - 8 < n
        · rw [if_pos ⟨by omega, by omega⟩, if_pos bn]
        · rw [if_neg (by omega), if_neg bn, C4o (o + 1) (by omega), up2_k (by omega), q3 h, if_neg (by omega), z1 h h0 h6]
  · rw [T3.look] at g2
    rw [sd_1 (Or.inr (by rw [hn]; exact g2)), hn]
    exact ⟨_, rfl, T3, F3, e2 _, Or.inl ⟨rfl, rfl⟩⟩
theorem ct_readBarred {E : Nat × (Nat → Int32)} {a c : Mem} {L p : Int} {o : Nat} (ho : o ∈ streetL) (T : TxC a L p c) : K_X8_readBarred E [.ref o, .ref 1] c (fun z c' => TxC a L (brG (lkA a L) p).2 c' ∧ FrO o c c' ∧ c' (o + 1) = c (o + 1) ∧ (c' o 2 = c o 2 ∧ c' o 3 = c o 3 ∧ c' o 4 = c o 4 ∧ c' o 5 = c o 5) ∧ (((brG (lkA a L) p).1 = none ∧ z = 0) ∨ ∃ ft : Int × Int, (brG (lkA a L) p).1 = some ft ∧ z = 1 ∧ c' o 7 = ft.1 ∧ c' o 8 = ft.2)) := by
  have r := stL_rng o ho
  have T1 : TxC a L p (up2 (up2 c o 7 (-1)) o 8 (-1)) := (T.fld ho).fld ho
  have F1 : FrO o c (up2 (up2 c o 7 (-1)) o 8 (-1)) := (FrO.rf.fld ho (by decide) (by decide)).fld ho (by decide) (by decide)
  have W1 : up2 (up2 c o 7 (-1)) o 8 (-1) (o + 1) = c (o + 1) := by rw [up2_k (by omega), up2_k (by omega)]
  have D1 : ∀ j : Int, j ≠ 7 → j ≠ 8 → up2 (up2 c o 7 (-1)) o 8 (-1) o j = c o j := fun j h h2 => by rw [up2_j h2, up2_j h]
  have E7 : up2 (up2 c o 7 (-1)) o 8 (-1) o 7 = -1 := by rw [up2_j (by decide), up2_same]
  have E8 : up2 (up2 c o 7 (-1)) o 8 (-1) o 8 = -1 := up2_same _ _ _ _
  generalize hC1 : up2 (up2 c o 7 (-1)) o 8 (-1) = C1 at *
  refine en_X8_readBarred (sg_X8_readBarred_0 ho (by rw [hC1]; exact T1.ok) (fun g => ?_) (fun g => ?_))
  · rw [hC1] at g ⊢
    rw [T1.look] at g
    have pL := (lk_pos (show 0 ≤ lkA a L p by omega)).1
    have T2 : TxC a L (p + 1) (up2 C1 1 2 (C1 1 2 + 1)) := T1.pass pL (by rw [T1.p])
    refine ca_X8_readBarred_24 (ct_number T2 (by decide) (by decide)) (fun y c3 hy => ?_)
    obtain ⟨ey, T3, P3⟩ := hy
    have ey : y = (num (lkA a L) 3 (p + 1)).1 := ey
    have T3 : TxC a L (num (lkA a L) 3 (p + 1)).2 c3 := T3
    have nk := num_ok (a := a) (L := L) (k := 3) (i := p + 1) (by decide) T2.2.1.2.1
    have P13 : PosC C1 c3 := PosC.up.trans P3
    have T4 : TxC a L (num (lkA a L) 3 (p + 1)).2 (up2 c3 o 7 y) := T3.fld ho
    have F4 : FrO o c (up2 c3 o 7 y) := (F1.trans (FrO.pos ho P13)).fld ho (by decide) (by decide)
    have W4 : up2 c3 o 7 y (o + 1) = c (o + 1) := by rw [up2_k (by omega), P13.1 _ (by omega)]; exact W1
    have D4 : ∀ j : Int, j ≠ 7 → j ≠ 8 → up2 c3 o 7 y o j = c o j := fun j h h2 => by rw [up2_j h, P13.1 _ (by omega)]; exact D1 j h h2
    have E47 : up2 c3 o 7 y o 7 = y := up2_same _ _ _ _
    generalize hC4 : up2 c3 o 7 y = C4 at *
    refine sg_X8_readBarred_27 ho ⟨by omega, by omega⟩ (fun _ => by rw [hC4]; exact T4.ok) (fun g2 => ?_) (fun g2 g3 => ?_) (fun g2 g3 => ?_)
    · rw [hC4]
      rw [br_1 g (Or.inl (by omega))]
      exact ⟨_, rfl, T4, F4, W4, ⟨D4 2 (by decide) (by decide), D4 3 (by decide) (by decide), D4 4 (by decide) (by decide), D4 5 (by decide) (by decide)⟩, Or.inl ⟨rfl, rfl⟩⟩
    · rw [hC4] at g3 ⊢
      rw [T4.look] at g3
      have qL := (lk_pos (show 0 ≤ lkA a L (num (lkA a L) 3 (p + 1)).2 by omega)).1
      have gg : ¬ ((num (lkA a L) 3 (p + 1)).1 < 0 ∨ lkA a L (num (lkA a L) 3 (p + 1)).2 ≠ 45) := by omega
      have T5 : TxC a L ((num (lkA a L) 3 (p + 1)).2 + 1) (up2 C4 1 2 (C4 1 2 + 1)) := T4.pass qL (by rw [T4.p])
      refine ca_X8_readBarred_51 (ct_number T5 (by decide) (by decide)) (fun w c6 hw => ?_)
      obtain ⟨ew, T6, P6⟩ := hw
      have ew : w = (num (lkA a L) 3 ((num (lkA a L) 3 (p + 1)).2 + 1)).1 := ew
      have T6 : TxC a L (num (lkA a L) 3 ((num (lkA a L) 3 (p + 1)).2 + 1)).2 c6 := T6
      have nk2 := num_ok (a := a) (L := L) (k := 3) (i := (num (lkA a L) 3 (p + 1)).2 + 1) (by decide) T5.2.1.2.1
      have P46 : PosC C4 c6 := PosC.up.trans P6
      have c67 : c6 o 7 = y := by rw [P46.1 _ (by omega)]; exact E47
      have T7 : TxC a L (num (lkA a L) 3 ((num (lkA a L) 3 (p + 1)).2 + 1)).2 (up2 c6 o 8 w) := T6.fld ho
      have F7 : FrO o c (up2 c6 o 8 w) := (F4.trans (FrO.pos ho P46)).fld ho (by decide) (by decide)
      have W7 : up2 c6 o 8 w (o + 1) = c (o + 1) := by rw [up2_k (by omega), P46.1 _ (by omega)]; exact W4
      have D7 : ∀ j : Int, j ≠ 7 → j ≠ 8 → up2 c6 o 8 w o j = c o j := fun j h h2 => by rw [up2_j h2, P46.1 _ (by omega)]; exact D4 j h h2
      have E77 : up2 c6 o 8 w o 7 = y := by rw [up2_j (by decide)]; exact c67
      have E78 : up2 c6 o 8 w o 8 = w := up2_same _ _ _ _
      refine sg_X8_readBarred_54 ho ⟨by omega, by omega⟩ (fun _ => by rw [c67]; constructor <;> omega) (fun g4 g5 => ?_) (fun g4 g5 => ?_) (fun g4 => ?_)
      · rw [c67] at g5
        rw [br_4 g gg (by omega) (by omega)]
        exact ⟨_, rfl, T7, F7, W7, ⟨D7 2 (by decide) (by decide), D7 3 (by decide) (by decide), D7 4 (by decide) (by decide), D7 5 (by decide) (by decide)⟩, Or.inr ⟨_, rfl, rfl, E77.trans ey, E78.trans ew⟩⟩
      · rw [c67] at g5
        rw [br_3 g gg (by omega) (by omega)]
        have b7 := T7.2.1
        refine ⟨_, rfl, ?_, F7.trans (FrO.pos ho PosC.up), by rw [up2_k (by omega)]; exact W7, ⟨by rw [up2_k (by omega)]; exact D7 2 (by decide) (by decide), by rw [up2_k (by omega)]; exact D7 3 (by decide) (by decide), by rw [up2_k (by omega)]; exact D7 4 (by decide) (by decide), by rw [up2_k (by omega)]; exact D7 5 (by decide) (by decide)⟩, Or.inl ⟨rfl, rfl⟩⟩
        obtain ⟨⟨t1, t2, t3⟩, ⟨t4, t5, t6, t7⟩, t8, t9⟩ := T7
        have b5 := T5.2.1
        have b4 := T4.2.1
        refine ⟨⟨by rw [up2_j (by decide)]; exact t1, by rw [up2_same, t2], by rw [up2_j (by decide)]; exact t3⟩, ⟨by dsimp only; omega, by dsimp only; omega, t6, t7⟩, ?_, ?_⟩
        · rw [up2_k (by decide)]; exact t8
        · rw [up2_k (by decide)]; exact t9
      · rw [br_2 g gg (by omega)]
        exact ⟨_, rfl, T7, F7, W7, ⟨D7 2 (by decide) (by decide), D7 3 (by decide) (by decide), D7 4 (by decide) (by decide), D7 5 (by decide) (by decide)⟩, Or.inl ⟨rfl, rfl⟩⟩
    · rw [hC4] at g3 ⊢
      rw [T4.look] at g3
      rw [br_1 g (Or.inr g3)]
      exact ⟨_, rfl, T4, F4, W4, ⟨D4 2 (by decide) (by decide), D4 3 (by decide) (by decide), D4 4 (by decide) (by decide), D4 5 (by decide) (by decide)⟩, Or.inl ⟨rfl, rfl⟩⟩
  · rw [hC1] at g ⊢
    rw [T1.look] at g
    rw [br_0 g]
    exact ⟨_, rfl, T1, F1, W1, ⟨D1 2 (by decide) (by decide), D1 3 (by decide) (by decide), D1 4 (by decide) (by decide), D1 5 (by decide) (by decide)⟩, Or.inr ⟨_, rfl, rfl, E7, E8⟩⟩
