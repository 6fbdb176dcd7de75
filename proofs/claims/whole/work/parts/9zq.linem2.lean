/-! streets: the reference reads a line, from its beginning -/
theorem mt_rside {E : Nat × (Nat → Int32)} {a m : Mem} {L p i x : Int} {n : Nat} (i0 : 0 ≤ i) (i6 : i < 6) (c0 : lkA a L p = 115) (c1 : ¬ ((num (lkA a L) 2 (p + 1)).1 < 0 ∨ lkA a L (num (lkA a L) 2 (p + 1)).2 ≠ 58)) (hx : x = (num (lkA a L) 2 (p + 1)).1) (hn : n = dgN (lkA a L) 8 ((num (lkA a L) 2 (p + 1)).2 + 1)) (d1 : ¬ (dgN (lkA a L) 8 ((num (lkA a L) 2 (p + 1)).2 + 1) = 0 ∨ lkA a L ((num (lkA a L) 2 (p + 1)).2 + 1 + (dgN (lkA a L) 8 ((num (lkA a L) 2 (p + 1)).2 + 1) : Int)) ≠ 47)) : ∀ (rem b : Nat) (M : Mem), b + rem = n → dgN (lkA a L) n ((num (lkA a L) 2 (p + 1)).2 + 1 + (n : Int) + 1) = b + dgN (lkA a L) rem ((num (lkA a L) 2 (p + 1)).2 + 1 + (n : Int) + 1 + (b : Int)) → TxR a L ((num (lkA a L) 2 (p + 1)).2 + 1 + (n : Int) + 1 + (b : Int)) M → FrS i m M → M 169 23 = i → M 183 (6 * i) = x → M 183 (6 * i + 1) = n → (∀ h : Int, 0 ≤ h → h < 8 + (b : Int) → h % 8 < (n : Int) → M 184 (16 * i + h) = wtG (lkA a L) ((num (lkA a L) 2 (p + 1)).2 + 1) n h) → GM E (m_X12_readsStreet 7) (Pi (LPost a L p i m)) 130 [.ref 169, vi (6 * i), vi (n : Int), vi (b : Int)] [] M := by
  generalize hp1 : (num (lkA a L) 2 (p + 1)).2 + 1 = p1 at *
  have n8 := dgN_le (lk := lkA a L) 8 p1
  rw [← hn] at n8 d1
  intro rem
  induction rem with
  | zero =>
    intro b M hb en T F h23 m0 m1 mw
    have hb : b = n := by omega
    subst hb
    have en : dgN (lkA a L) b (p1 + (b : Int) + 1) = b := en
    have s3 := sd_3 (lk := lkA a L) (p := p1) (by rw [← hn]; exact d1) (by rw [← hn]; exact en)
    rw [← hn] at s3
    generalize hq2 : p1 + (b : Int) + 1 + (b : Int) = q2 at T s3
    have tb' := T.2.1
    have mq := mkQ_pos (a := a) (L := L) (q := q2) tb'.2.1
    -- behind the mark of a dead end
    have marks : ∀ (M2 : Mem) (dd : Int), dd = mkD (lkA a L) q2 → TxR a L (q2 + dd) M2 → FrS i m M2 → M2 169 23 = i → M2 183 (6 * i) = x → M2 183 (6 * i + 1) = b → M2 183 (6 * i + 3) = dd → (∀ h : Int, M2 184 h = M 184 h) → GM E (m_X12_readsStreet 7) (Pi (LPost a L p i m)) 199 [.ref 169, vi (6 * i), vi (b : Int), vi (b : Int)] [.ref 1105, .ref 169] M2 := fun M2 dd ed T2 F2 g23 g0 g1 g3 gw => by
      refine ca_X12_readsStreet_199 (mt_takesS (i := 5) (by decide) T2) (fun s M3 hs => ?_)
      obtain ⟨es, T3, P3⟩ := hs
      have s5 := six5 es
      have eS : mkS (lkA a L) q2 = slG (lkA a L (q2 + dd)) := by rw [ed]; rfl
      have eQ : mkQ (lkA a L) q2 = q2 + dd + (if mkS (lkA a L) q2 = 0 then 0 else 1) := by rw [ed]; rfl
      have TQ : TxR a L (mkQ (lkA a L) q2) M3 := by
        rw [eQ]
        by_cases sz : s < 0
        · rw [if_pos sz] at T3
          rw [if_pos (by rw [eS]; exact s5.2.1.1 sz), Int.add_zero]
          exact T3
        · rw [if_neg sz] at T3
          rw [if_neg (by rw [eS]; exact fun o => sz (s5.2.1.2 o))]
          exact T3
      exact mt_bar i0 i6 c0 c1 (by rw [hp1, s3]) (by rw [hp1, s3]) rfl hx TQ (F2.trans (FrS.pos P3)) (by rw [P3.2 23 (by decide)]; exact g23) (by rw [eS]; exact s5.1) ⟨s5.2.2.1, s5.2.2.2⟩ (by rw [P3.1 183 (by decide)]; exact g0) (by rw [P3.1 183 (by decide)]; exact g1) (by rw [P3.1 183 (by decide), g3, ed]) (fun h h0 h6 hh => by rw [P3.1 184 (by decide), gw, hp1]; exact mw h h0 (by omega) hh) _
    refine sg_X12_readsStreet_130 ⟨by omega, by omega⟩ ⟨by omega, by omega⟩ (fun _ => T.q) (fun _ => T.2.2.1 _) (fun _ _ => by omega) (fun _ _ => by omega) (fun _ g => ?_) (fun _ g => ?_) (fun g => by omega)
    · have g33 := (T.next (by decide)).1 g
      have qL := (lk_pos (show 0 ≤ lkA a L q2 by omega)).1
      have e1 : (1 : Int) = mkD (lkA a L) q2 := by unfold mkD dG; rw [if_pos g33]
      exact marks _ 1 e1 (T.pass qL (by rw [T.p])).r3 ((F.trans (FrS.pos PosR.up)).r3 (by omega)) (by rw [up2_k (by decide), up2_j (by decide)]; exact h23) (by rw [up2_j (by omega), up2_k (by decide)]; exact m0) (by rw [up2_j (by omega), up2_k (by decide)]; exact m1) (up2_same _ _ _ _) (fun h => by rw [up2_k (by decide), up2_k (by decide)])
    · have g33 : lkA a L q2 ≠ 33 := fun o => g ((T.next (by decide)).2 o)
      have e1 : (0 : Int) = mkD (lkA a L) q2 := by unfold mkD dG; rw [if_neg g33]
      exact marks _ 0 e1 (by rw [Int.add_zero]; exact (T.stay (by rw [T.p]; omega)).r3) ((F.trans (FrS.pos PosR.up)).r3 (by omega)) (by rw [up2_k (by decide), up2_j (by decide)]; exact h23) (by rw [up2_j (by omega), up2_k (by decide)]; exact m0) (by rw [up2_j (by omega), up2_k (by decide)]; exact m1) (up2_same _ _ _ _) (fun h => by rw [up2_k (by decide), up2_k (by decide)])
  | succ rem ih =>
    intro b M hb en T F h23 m0 m1 mw
    generalize hp3 : p1 + (n : Int) + 1 = p3 at *
    refine sg_X12_readsStreet_130 ⟨by omega, by omega⟩ ⟨by omega, by omega⟩ (fun g => by omega) (fun g => by omega) (fun g => by omega) (fun g => by omega) (fun g => by omega) (fun g => by omega) (fun _ => ?_)
    rw [h23]
    refine ca_X12_readsStreet_150 (mt_number (K := 1) T (by decide) (by decide)) (fun y m2 hy => ?_)
    obtain ⟨ey, T2, P2⟩ := hy
    have ey : y = (num (lkA a L) 1 (p3 + (b : Int))).1 := ey
    have T2 : TxR a L (num (lkA a L) 1 (p3 + (b : Int))).2 m2 := T2
    rw [num1] at ey T2
    have e23 : m2 169 23 = i := by rw [P2.2 23 (by decide)]; exact h23
    have F2 : FrS i m (up2 m2 184 (16 * i + 8 * 1 + (b : Int)) y) := (F.trans (FrS.pos P2)).r4 (by omega)
    have yy : up2 m2 184 (16 * i + 8 * 1 + (b : Int)) y 184 (16 * m2 169 23 + 8 * 1 + (b : Int)) = y := by rw [e23, up2_same]
    by_cases gd : 48 ≤ lkA a L (p3 + (b : Int)) ∧ lkA a L (p3 + (b : Int)) ≤ 57
    · rw [if_pos gd] at ey T2
      have ey : y = lkA a L (p3 + (b : Int)) - 48 := ey
      rw [dgN_y gd] at en
      refine sg_X12_readsStreet_153 (by omega) (by rw [e23]; omega) (by rw [yy]; constructor <;> omega) (fun g => ?_) (fun g => by rw [yy] at g; omega)
      refine ih (b + 1) _ (by omega) (by rw [en, show p3 + ((b + 1 : Nat) : Int) = p3 + (b : Int) + 1 by omega]; omega) (by rw [show p3 + ((b + 1 : Nat) : Int) = p3 + (b : Int) + 1 by omega]; exact T2.r4) F2 (by rw [up2_k (by decide)]; exact e23) (by rw [up2_k (by decide), P2.1 183 (by decide)]; exact m0) (by rw [up2_k (by decide), P2.1 183 (by decide)]; exact m1) (fun h h0 h1 hh => ?_)
      by_cases e : h = 8 + (b : Int)
      · rw [e, show 16 * i + (8 + (b : Int)) = 16 * i + 8 * 1 + (b : Int) by omega, up2_same, ey]
        unfold wtG
        rw [if_neg (by omega), if_pos (by omega), hp3, show 8 + (b : Int) - 8 = b by omega]
      · rw [up2_j (by omega), P2.1 184 (by decide)]
        exact mw h h0 (by omega) hh
    · rw [if_neg gd] at ey T2
      have ey : y = -1 := ey
      have T2 : TxR a L (p3 + (b : Int)) m2 := T2
      rw [dgN_n gd] at en
      have s2 := sd_2 (lk := lkA a L) (p := p1) (by rw [← hn]; exact d1) (by rw [← hn, hp3, en]; omega)
      rw [← hn, hp3, en] at s2
      have l2 := ln_2 c0 c1 (by rw [hp1, s2])
      rw [hp1, s2] at l2
      refine sg_X12_readsStreet_153 (by omega) (by rw [e23]; omega) (by rw [yy]; constructor <;> omega) (fun g => by rw [yy] at g; omega) (fun _ => ⟨_, rfl, ?_⟩)
      unfold LPost
      rw [l2]
      exact ⟨T2.r4, F2, Or.inl ⟨rfl, rfl⟩⟩
