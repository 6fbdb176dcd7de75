theorem mt_readsStreet {E : Nat × (Nat → Int32)} {a m : Mem} {L p i : Int} (T : TxR a L p m) (h23 : m 169 23 = i) (i0 : 0 ≤ i) (hr : 0 ≤ m 169 3) (h6 : m 169 3 + i ≤ 6) : K_X12_readsStreet E [.ref 169] m (fun z m' => (m 169 3 + i = 6 ∧ z = 0 ∧ m' = m) ∨ (m 169 3 + i < 6 ∧ LPost a L p i m z m')) := by
  have b := T.2.1
  by_cases g6 : m 169 3 + i = 6
  · exact en_X12_readsStreet (sg_X12_readsStreet_0 (by rw [h23]; constructor <;> omega) (fun _ => T.q) (fun _ => T.2.2.1 _) (fun _ => ⟨_, rfl, Or.inl ⟨g6, rfl, rfl⟩⟩) (fun g => by rw [h23] at g; omega) (fun g => by rw [h23] at g; omega))
  -- the answer is told of the line alone
  suffices hh : K_X12_readsStreet E [.ref 169] m (LPost a L p i m) by
    refine hh.mono (fun r m2 hz => ?_)
    obtain ⟨z, rfl, hz⟩ := hz
    exact ⟨z, rfl, Or.inr ⟨by omega, hz⟩⟩
  refine en_X12_readsStreet (sg_X12_readsStreet_0 (by rw [h23]; constructor <;> omega) (fun _ => T.q) (fun _ => T.2.2.1 _) (fun g => by rw [h23] at g; omega) (fun g g2 => ?_) (fun g g2 => ?_))
  · rw [h23] at g ⊢
    have i6 : i < 6 := by omega
    have c0 := (T.next (by decide)).1 g2
    have pL := (lk_pos (show 0 ≤ lkA a L p by omega)).1
    have T2 : TxR a L (p + 1) (up2 m 169 18 (m 169 18 + 1)) := T.pass pL (by rw [T.p])
    refine ca_X12_readsStreet_40 (mt_number T2 (by decide) (by decide)) (fun x m3 hx => ?_)
    obtain ⟨ex, T3, P3⟩ := hx
    have ex : x = (num (lkA a L) 2 (p + 1)).1 := ex
    have T3 : TxR a L (num (lkA a L) 2 (p + 1)).2 m3 := T3
    have nk := num_ok (a := a) (L := L) (k := 2) (i := p + 1) (by decide) (by omega)
    have F3 : FrS i m m3 := FrS.pos (PosR.up.trans P3)
    have e23 : m3 169 23 = i := by rw [P3.2 23 (by decide), up2_j (by decide)]; exact h23
    have yx : up2 m3 183 (6 * i) x 183 (6 * i) = x := up2_same _ _ _ _
    refine sg_X12_readsStreet_43 (by omega) (by omega) (by rw [yx]; constructor <;> omega) (fun _ => T3.q) (fun _ => T3.2.2.1 _) (fun g3 => ?_) (fun g3 g4 => ?_) (fun g3 g4 => ?_)
    · rw [yx] at g3
      have l1 := ln_1 c0 (Or.inl (by omega))
      refine ⟨_, rfl, ?_⟩
      unfold LPost
      rw [l1]
      exact ⟨T3.r3, F3.r3 (by omega), Or.inl ⟨rfl, rfl⟩⟩
    · rw [yx] at g3
      have g58 := (T3.next (by decide)).1 g4
      have qL := (lk_pos (show 0 ≤ lkA a L (num (lkA a L) 2 (p + 1)).2 by omega)).1
      have c1 : ¬ ((num (lkA a L) 2 (p + 1)).1 < 0 ∨ lkA a L (num (lkA a L) 2 (p + 1)).2 ≠ 58) := by omega
      have rs := @mt_rside E a m
      have T4 : TxR a L ((num (lkA a L) 2 (p + 1)).2 + 1) (up2 (up2 m3 183 (6 * i) x) 169 18 (m3 169 18 + 1)) := T3.r3.pass qL (by rw [T3.p])
      have F4 : FrS i m (up2 (up2 m3 183 (6 * i) x) 169 18 (m3 169 18 + 1)) := (F3.r3 (by omega)).trans (FrS.pos PosR.up)
      have n8 := dgN_le (lk := lkA a L) 8 ((num (lkA a L) 2 (p + 1)).2 + 1)
      have key : ∀ (rem k : Nat) (M : Mem), k + rem = 8 → dgN (lkA a L) 8 ((num (lkA a L) 2 (p + 1)).2 + 1) = k + dgN (lkA a L) rem ((num (lkA a L) 2 (p + 1)).2 + 1 + (k : Int)) → TxR a L ((num (lkA a L) 2 (p + 1)).2 + 1 + (k : Int)) M → FrS i m M → M 169 23 = i → M 183 (6 * i) = x → (∀ h : Int, 0 ≤ h → h < (k : Int) → M 184 (16 * i + h) = lkA a L ((num (lkA a L) 2 (p + 1)).2 + 1 + h) - 48) → GM E (m_X12_readsStreet 7) (Pi (LPost a L p i m)) 66 [.ref 169, vi (6 * i), vi (k : Int), un] [] M := by
        intro rem
        induction rem with
        | zero =>
          intro k M hk en T F g23 m0 mw
          have ek : k = 8 := by omega
          subst ek
          have en : dgN (lkA a L) 8 ((num (lkA a L) 2 (p + 1)).2 + 1) = 8 := en
          refine sg_X12_readsStreet_66 (by decide) (fun _ _ => T.q) (fun _ _ => T.2.2.1 _) (fun _ _ _ => by omega) (fun g => absurd (Int.le_refl 8) g) (fun g => absurd (Int.le_refl 8) g) (fun g => absurd (Int.le_refl 8) g) (fun _ g => absurd g (by decide)) (fun _ _ gn => ?_) (fun _ _ gn => ?_) (fun g => absurd (Int.le_refl 8) g) (fun g => absurd (Int.le_refl 8) g) (fun g => absurd (Int.le_refl 8) g) (fun g => absurd (Int.le_refl 8) g)
          · have g47 := (T.next (by decide)).1 gn
            have kL := (lk_pos (show 0 ≤ lkA a L ((num (lkA a L) 2 (p + 1)).2 + 1 + ((8 : Nat) : Int)) by omega)).1
            refine rs (n := 8) i0 i6 c0 c1 ex en.symm (by rw [en]; omega) 8 0 _ (by decide) (by simp) ?_ ((F.trans (FrS.pos PosR.up)).r3 (by omega)) (by rw [up2_k (by decide), up2_j (by decide)]; exact g23) (by rw [up2_j (by omega), up2_k (by decide)]; exact m0) (up2_same _ _ _ _) (fun h h0 h1 hh => ?_)
            · have := (T.pass kL (z := M 169 18 + 1) (by rw [T.p])).r3 (t := 6 * i + 1) (z := ((8 : Nat) : Int))
              rw [show (num (lkA a L) 2 (p + 1)).2 + 1 + ((8 : Nat) : Int) + 1 + ((0 : Nat) : Int) = (num (lkA a L) 2 (p + 1)).2 + 1 + ((8 : Nat) : Int) + 1 by omega]
              exact this
            · rw [up2_k (by decide), up2_k (by decide)]
              unfold wtG
              rw [if_pos (by omega), if_pos (by omega)]
              exact mw h h0 (by omega)
          · have g47 : lkA a L ((num (lkA a L) 2 (p + 1)).2 + 1 + ((8 : Nat) : Int)) ≠ 47 := fun o => gn ((T.next (by decide)).2 o)
            have s1 := sd_1 (lk := lkA a L) (p := (num (lkA a L) 2 (p + 1)).2 + 1) (Or.inr (by rw [en]; exact g47))
            rw [en] at s1
            have l2 := ln_2 c0 c1 (by rw [s1])
            rw [s1] at l2
            refine ⟨_, rfl, ?_⟩
            unfold LPost
            rw [l2]
            exact ⟨T.stay (by rw [T.p]; omega), F.trans (FrS.pos PosR.up), Or.inl ⟨rfl, rfl⟩⟩
        | succ rem ih =>
          intro k M hk en T F g23 m0 mw
          have kb := T.2.1
          have done : ¬ (48 ≤ lkA a L ((num (lkA a L) 2 (p + 1)).2 + 1 + (k : Int)) ∧ lkA a L ((num (lkA a L) 2 (p + 1)).2 + 1 + (k : Int)) ≤ 57) → dgN (lkA a L) 8 ((num (lkA a L) 2 (p + 1)).2 + 1) = k := fun g => by rw [en, dgN_n g]; rfl
          refine sg_X12_readsStreet_66 ⟨by omega, by omega⟩ (fun g => by omega) (fun g => by omega) (fun g => by omega) (fun _ => T.q) (fun _ => T.2.2.1 _) (fun _ _ _ _ => by omega) (fun g => by omega) (fun g => by omega) (fun g => by omega) (fun _ gd => ?_) (fun _ gd gz => ?_) (fun _ gd gz gn => ?_) (fun _ gd gz gn => ?_)
          · have gd := T.dig.1 gd
            have kL := (lk_pos (show 0 ≤ lkA a L ((num (lkA a L) 2 (p + 1)).2 + 1 + (k : Int)) by omega)).1
            rw [g23]
            refine ca_X12_readsStreet_94 (mt_number (K := 1) T (by decide) (by decide)) (fun y m5 hy => ?_)
            obtain ⟨ey, T5, P5⟩ := hy
            have ey : y = (num (lkA a L) 1 ((num (lkA a L) 2 (p + 1)).2 + 1 + (k : Int))).1 := ey
            have T5 : TxR a L (num (lkA a L) 1 ((num (lkA a L) 2 (p + 1)).2 + 1 + (k : Int))).2 m5 := T5
            rw [num1, if_pos gd] at ey T5
            have ey : y = lkA a L ((num (lkA a L) 2 (p + 1)).2 + 1 + (k : Int)) - 48 := ey
            have T5 : TxR a L ((num (lkA a L) 2 (p + 1)).2 + 1 + (k : Int) + 1) m5 := T5
            rw [dgN_y gd] at en
            refine sg_X12_readsStreet_97 (by omega) ?_
            refine ih (k + 1) _ (by omega) (by rw [en, show (num (lkA a L) 2 (p + 1)).2 + 1 + ((k + 1 : Nat) : Int) = (num (lkA a L) 2 (p + 1)).2 + 1 + (k : Int) + 1 by omega]; omega) (by rw [show (num (lkA a L) 2 (p + 1)).2 + 1 + ((k + 1 : Nat) : Int) = (num (lkA a L) 2 (p + 1)).2 + 1 + (k : Int) + 1 by omega]; exact T5.r4) ((F.trans (FrS.pos P5)).r4 (by omega)) (by rw [up2_k (by decide), P5.2 23 (by decide)]; exact g23) (by rw [up2_k (by decide), P5.1 183 (by decide)]; exact m0) (fun h h0 h1 => ?_)
            by_cases e : h = (k : Int)
            · rw [e, show 16 * i + (k : Int) = 16 * i + 8 * 0 + (k : Int) by omega, up2_same, ey]
            · rw [up2_j (by omega), P5.1 184 (by decide)]
              exact mw h h0 (by omega)
          · have en := done (fun o => gd (T.dig.2 o))
            have s1 := sd_1 (lk := lkA a L) (p := (num (lkA a L) 2 (p + 1)).2 + 1) (Or.inl (by omega))
            rw [en] at s1
            have l2 := ln_2 c0 c1 (by rw [s1])
            rw [s1] at l2
            refine ⟨_, rfl, ?_⟩
            unfold LPost
            rw [l2]
            exact ⟨T, F, Or.inl ⟨rfl, rfl⟩⟩
          · have en := done (fun o => gd (T.dig.2 o))
            have g47 := (T.next (by decide)).1 gn
            have kL := (lk_pos (show 0 ≤ lkA a L ((num (lkA a L) 2 (p + 1)).2 + 1 + (k : Int)) by omega)).1
            refine rs (n := k) i0 i6 c0 c1 ex en.symm (by rw [en]; omega) k 0 _ (by omega) (by simp) ?_ ((F.trans (FrS.pos PosR.up)).r3 (by omega)) (by rw [up2_k (by decide), up2_j (by decide)]; exact g23) (by rw [up2_j (by omega), up2_k (by decide)]; exact m0) (up2_same _ _ _ _) (fun h h0 h1 hh => ?_)
            · have := (T.pass kL (z := M 169 18 + 1) (by rw [T.p])).r3 (t := 6 * i + 1) (z := (k : Int))
              rw [show (num (lkA a L) 2 (p + 1)).2 + 1 + (k : Int) + 1 + ((0 : Nat) : Int) = (num (lkA a L) 2 (p + 1)).2 + 1 + (k : Int) + 1 by omega]
              exact this
            · rw [up2_k (by decide), up2_k (by decide)]
              unfold wtG
              rw [if_pos (by omega), if_pos (by omega)]
              exact mw h h0 (by omega)
          · have en := done (fun o => gd (T.dig.2 o))
            have g47 : lkA a L ((num (lkA a L) 2 (p + 1)).2 + 1 + (k : Int)) ≠ 47 := fun o => gn ((T.next (by decide)).2 o)
            have s1 := sd_1 (lk := lkA a L) (p := (num (lkA a L) 2 (p + 1)).2 + 1) (Or.inr (by rw [en]; exact g47))
            rw [en] at s1
            have l2 := ln_2 c0 c1 (by rw [s1])
            rw [s1] at l2
            refine ⟨_, rfl, ?_⟩
            unfold LPost
            rw [l2]
            exact ⟨T.stay (by rw [T.p]; omega), F.trans (FrS.pos PosR.up), Or.inl ⟨rfl, rfl⟩⟩
      have := key 8 0 _ (by decide) (by simp) (by rw [show (num (lkA a L) 2 (p + 1)).2 + 1 + ((0 : Nat) : Int) = (num (lkA a L) 2 (p + 1)).2 + 1 by omega]; exact T4) F4 (by rw [up2_j (by decide), up2_k (by decide)]; exact e23) (by rw [up2_k (by decide), up2_same]) (fun h h0 h1 => by omega)
      exact this
    · rw [yx] at g3
      have g58 : lkA a L (num (lkA a L) 2 (p + 1)).2 ≠ 58 := fun o => g4 ((T3.next (by decide)).2 o)
      have l1 := ln_1 c0 (Or.inr g58)
      refine ⟨_, rfl, ?_⟩
      unfold LPost
      rw [l1]
      exact ⟨T3.r3.stay (by rw [T3.p]; omega), (F3.r3 (by omega)).trans (FrS.pos PosR.up), Or.inl ⟨rfl, rfl⟩⟩
  · rw [h23] at g
    have c0 : lkA a L p ≠ 115 := fun o => g2 ((T.next (by decide)).2 o)
    refine ⟨_, rfl, ?_⟩
    unfold LPost
    rw [ln_0 c0]
    exact ⟨T.stay (by rw [T.p]; omega), FrS.pos PosR.up, Or.inl ⟨rfl, rfl⟩⟩
