/-! streets: the class reads a line, all lines -/
theorem ct_line8 {E : Nat × (Nat → Int32)} {a c : Mem} {L p : Int} {o : Nat} (ho : o ∈ streetL) (T : TxC a L p c) : K_X8_read E [.ref o, .ref 1] c (fun z c' => TxC a L (lnG (lkA a L) p).2 c' ∧ FrO o c c' ∧ (((lnG (lkA a L) p).1 = none ∧ z = 0) ∨ ∃ r : LnT, (lnG (lkA a L) p).1 = some r ∧ z = 1 ∧ (c' o 2 = r 0 ∧ c' o 3 = r 1 ∧ c' o 4 = r 2 ∧ c' o 5 = r 3 ∧ c' o 7 = r 4 ∧ c' o 8 = r 5) ∧ ∀ h : Int, 0 ≤ h → h < 16 → c' (o + 1) h = r (16 + h))) := by
  have rr := stL_rng o ho
  refine en_X8_read (sg_X8_read_0 ho T.ok (fun g => ?_) (fun g => ?_))
  · rw [T.look] at g
    have pL := (lk_pos (show 0 ≤ lkA a L p by omega)).1
    have T2 : TxC a L (p + 1) (up2 c 1 2 (c 1 2 + 1)) := T.pass pL (by rw [T.p])
    refine ca_X8_read_14 (ct_number T2 (by decide) (by decide)) (fun x c3 hx => ?_)
    obtain ⟨ex, T3, P3⟩ := hx
    have ex : x = (num (lkA a L) 2 (p + 1)).1 := ex
    have T3 : TxC a L (num (lkA a L) 2 (p + 1)).2 c3 := T3
    have nk := num_ok (a := a) (L := L) (k := 2) (i := p + 1) (by decide) T2.2.1.2.1
    have T4 : TxC a L (num (lkA a L) 2 (p + 1)).2 (up2 c3 o 2 x) := T3.fld ho
    have F4 : FrO o c (up2 c3 o 2 x) := (FrO.pos ho (PosC.up.trans P3)).fld ho (by decide) (by decide)
    have E4 : up2 c3 o 2 x o 2 = x := up2_same _ _ _ _
    generalize hC4 : up2 c3 o 2 x = C4 at *
    refine sg_X8_read_17 ho ⟨by omega, by omega⟩ (fun _ => by rw [hC4]; exact T4.ok) (fun g2 => ?_) (fun g2 g3 => ?_) (fun g2 g3 => ?_)
    · rw [hC4, ln_1 g (Or.inl (by omega))]
      exact ⟨_, rfl, T4, F4, Or.inl ⟨rfl, rfl⟩⟩
    · rw [hC4] at g3 ⊢
      rw [T4.look] at g3
      have qL := (lk_pos (show 0 ≤ lkA a L (num (lkA a L) 2 (p + 1)).2 by omega)).1
      have gg : ¬ ((num (lkA a L) 2 (p + 1)).1 < 0 ∨ lkA a L (num (lkA a L) 2 (p + 1)).2 ≠ 58) := by omega
      have T5 : TxC a L ((num (lkA a L) 2 (p + 1)).2 + 1) (up2 C4 1 2 (C4 1 2 + 1)) := T4.pass qL (by rw [T4.p])
      have F5 : FrO o c (up2 C4 1 2 (C4 1 2 + 1)) := F4.trans (FrO.pos ho PosC.up)
      have E5 : up2 C4 1 2 (C4 1 2 + 1) o 2 = x := by rw [up2_k (by omega)]; exact E4
      refine ca_X8_read_38 ho (ct_readSides ho T5) (fun y c6 hy => ?_)
      obtain ⟨T6, F6, e62, hy⟩ := hy
      have F6 := F5.trans F6
      have e62 : c6 o 2 = x := e62.trans E5
      have rest : (sdG (lkA a L) ((num (lkA a L) 2 (p + 1)).2 + 1)).1 ≠ none → True := fun _ => trivial
      rcases hy with ⟨s1, ey⟩ | ⟨n, s1, ey, e63, e6w⟩
      · subst ey
        rw [ln_2 g gg s1]
        exact sg_X8_read_41 ho (by decide) (fun g => absurd rfl g) (fun g => absurd rfl g) (fun g => absurd rfl g) (fun g => absurd rfl g) (fun g => absurd rfl g) (fun g => absurd rfl g) (fun g => absurd rfl g) (fun g => absurd rfl g) (fun g => absurd rfl g) (fun _ => ⟨_, rfl, T6, F6, Or.inl ⟨rfl, rfl⟩⟩)
      · subst ey
        generalize hq : (sdG (lkA a L) ((num (lkA a L) 2 (p + 1)).2 + 1)).2 = q at T6
        -- behind the marks
        have fin : ∀ (M : Mem), TxC a L (mkQ (lkA a L) q) M → FrO o c M → M (o + 1) = c6 (o + 1) → M o 2 = x → M o 3 = (n : Int) → M o 4 = mkS (lkA a L) q → M o 5 = mkD (lkA a L) q → GM E (m_X8_read 4) (Pi fun z c' => TxC a L (lnG (lkA a L) p).2 c' ∧ FrO o c c' ∧ (((lnG (lkA a L) p).1 = none ∧ z = 0) ∨ ∃ r : LnT, (lnG (lkA a L) p).1 = some r ∧ z = 1 ∧ (c' o 2 = r 0 ∧ c' o 3 = r 1 ∧ c' o 4 = r 2 ∧ c' o 5 = r 3 ∧ c' o 7 = r 4 ∧ c' o 8 = r 5) ∧ ∀ h : Int, 0 ≤ h → h < 16 → c' (o + 1) h = r (16 + h))) 89 [.ref o, .ref 1] [.ref 1, .ref o] M := fun M TM FM wM m2 m3 m4 m5 => by
          refine ca_X8_read_89 ho (ct_readBarred ho TM) (fun w c8 hw => ?_)
          obtain ⟨T8, F8, W8, ⟨d2, d3, d4, d5⟩, hw⟩ := hw
          rcases hw with ⟨b1, ew⟩ | ⟨ft, b1, ew, e7, e8⟩
          · have l3 := ln_3 g gg s1 (by rw [hq]; exact b1)
            rw [hq] at l3
            subst ew
            rw [l3]
            exact sg_X8_read_92 ho (Or.inl rfl) ⟨_, rfl, T8, FM.trans F8, Or.inl ⟨rfl, rfl⟩⟩
          · have l4 := ln_4 g gg s1 (by rw [hq]; exact b1)
            rw [hq] at l4
            subst ew
            rw [l4]
            refine sg_X8_read_92 ho (Or.inr rfl) ⟨_, rfl, T8, FM.trans F8, Or.inr ⟨_, rfl, rfl, ⟨?_, ?_, ?_, ?_, ?_, ?_⟩, fun h h0 h6 => ?_⟩⟩
            · rw [d2, m2, ex]; rfl
            · rw [d3, m3]; rfl
            · rw [d4, m4]; rfl
            · rw [d5, m5]; rfl
            · rw [e7]; rfl
            · rw [e8]; rfl
            · rw [W8, wM, e6w h h0 h6, mkL_w h0]
        -- the mark of a dead end is read
        have two : ∀ (M : Mem) (dd : Int), dd = mkD (lkA a L) q → TxC a L (q + dd) M → FrO o c M → M (o + 1) = c6 (o + 1) → M o 2 = x → M o 3 = (n : Int) → M o 5 = dd → (lookM M = 117 → GM E (m_X8_read 4) (Pi fun z c' => TxC a L (lnG (lkA a L) p).2 c' ∧ FrO o c c' ∧ (((lnG (lkA a L) p).1 = none ∧ z = 0) ∨ ∃ r : LnT, (lnG (lkA a L) p).1 = some r ∧ z = 1 ∧ (c' o 2 = r 0 ∧ c' o 3 = r 1 ∧ c' o 4 = r 2 ∧ c' o 5 = r 3 ∧ c' o 7 = r 4 ∧ c' o 8 = r 5) ∧ ∀ h : Int, 0 ≤ h → h < 16 → c' (o + 1) h = r (16 + h))) 89 [.ref o, .ref 1] [.ref 1, .ref o] (up2 (up2 M 1 2 (M 1 2 + 1)) o 4 1)) ∧ (¬ lookM M = 117 → lookM M = 100 → GM E (m_X8_read 4) (Pi fun z c' => TxC a L (lnG (lkA a L) p).2 c' ∧ FrO o c c' ∧ (((lnG (lkA a L) p).1 = none ∧ z = 0) ∨ ∃ r : LnT, (lnG (lkA a L) p).1 = some r ∧ z = 1 ∧ (c' o 2 = r 0 ∧ c' o 3 = r 1 ∧ c' o 4 = r 2 ∧ c' o 5 = r 3 ∧ c' o 7 = r 4 ∧ c' o 8 = r 5) ∧ ∀ h : Int, 0 ≤ h → h < 16 → c' (o + 1) h = r (16 + h))) 89 [.ref o, .ref 1] [.ref 1, .ref o] (up2 (up2 M 1 2 (M 1 2 + 1)) o 4 (-1))) ∧ (¬ lookM M = 117 → ¬ lookM M = 100 → GM E (m_X8_read 4) (Pi fun z c' => TxC a L (lnG (lkA a L) p).2 c' ∧ FrO o c c' ∧ (((lnG (lkA a L) p).1 = none ∧ z = 0) ∨ ∃ r : LnT, (lnG (lkA a L) p).1 = some r ∧ z = 1 ∧ (c' o 2 = r 0 ∧ c' o 3 = r 1 ∧ c' o 4 = r 2 ∧ c' o 5 = r 3 ∧ c' o 7 = r 4 ∧ c' o 8 = r 5) ∧ ∀ h : Int, 0 ≤ h → h < 16 → c' (o + 1) h = r (16 + h))) 89 [.ref o, .ref 1] [.ref 1, .ref o] (up2 M o 4 0)) := fun M dd ed TM FM wM m2 m3 m5 => by
          have eS : mkS (lkA a L) q = slG (lkA a L (q + dd)) := by rw [ed]; rfl
          have eQ : mkQ (lkA a L) q = q + dd + (if mkS (lkA a L) q = 0 then 0 else 1) := by rw [ed]; rfl
          refine ⟨fun g => ?_, fun g g2 => ?_, fun g g2 => ?_⟩
          · rw [TM.look] at g
            have dL := (lk_pos (show 0 ≤ lkA a L (q + dd) by omega)).1
            have e1 : mkS (lkA a L) q = 1 := by rw [eS, g]; decide
            rw [e1, if_neg (by decide)] at eQ
            refine fin _ ?_ ((FM.trans (FrO.pos ho PosC.up)).fld ho (by decide) (by decide)) (by rw [up2_k (by omega), up2_k (by omega)]; exact wM) (by rw [up2_j (by decide), up2_k (by omega)]; exact m2) (by rw [up2_j (by decide), up2_k (by omega)]; exact m3) (by rw [up2_same, e1]) (by rw [up2_j (by decide), up2_k (by omega), m5, ed])
            rw [eQ]
            exact (TM.pass dL (by rw [TM.p])).fld ho
          · rw [TM.look] at g g2
            have dL := (lk_pos (show 0 ≤ lkA a L (q + dd) by omega)).1
            have e1 : mkS (lkA a L) q = -1 := by rw [eS, g2]; decide
            rw [e1, if_neg (by decide)] at eQ
            refine fin _ ?_ ((FM.trans (FrO.pos ho PosC.up)).fld ho (by decide) (by decide)) (by rw [up2_k (by omega), up2_k (by omega)]; exact wM) (by rw [up2_j (by decide), up2_k (by omega)]; exact m2) (by rw [up2_j (by decide), up2_k (by omega)]; exact m3) (by rw [up2_same, e1]) (by rw [up2_j (by decide), up2_k (by omega), m5, ed])
            rw [eQ]
            exact (TM.pass dL (by rw [TM.p])).fld ho
          · rw [TM.look] at g g2
            have e1 : mkS (lkA a L) q = 0 := by
              rw [eS]
              unfold slG
              rw [if_neg g, if_neg g2]
            rw [e1, if_pos rfl, Int.add_zero] at eQ
            refine fin _ ?_ (FM.fld ho (by decide) (by decide)) (by rw [up2_k (by omega)]; exact wM) (by rw [up2_j (by decide)]; exact m2) (by rw [up2_j (by decide)]; exact m3) (by rw [up2_same, e1]) (by rw [up2_j (by decide), m5, ed])
            rw [eQ]
            exact TM.fld ho
        by_cases g33 : lkA a L q = 33
        · have dL := (lk_pos (show 0 ≤ lkA a L q by omega)).1
          have e1 : (1 : Int) = mkD (lkA a L) q := by unfold mkD dG; rw [if_pos g33]
          have M1 : TxC a L (q + 1) (up2 (up2 c6 1 2 (c6 1 2 + 1)) o 5 1) := (T6.pass dL (by rw [T6.p])).fld ho
          have t := two (up2 (up2 c6 1 2 (c6 1 2 + 1)) o 5 1) 1 e1 M1 ((F6.trans (FrO.pos ho PosC.up)).fld ho (by decide) (by decide)) (by rw [up2_k (by omega), up2_k (by omega)]) (by rw [up2_j (by decide), up2_k (by omega)]; exact e62) (by rw [up2_j (by decide), up2_k (by omega)]; exact e63) (up2_same _ _ _ _)
          have no : ¬ lookM c6 = 33 → False := fun o => o (by rw [T6.look]; exact g33)
          exact sg_X8_read_41 ho (by decide) (fun _ => T6.ok) (fun _ _ => M1.ok) (fun _ o => (no o).elim) (fun _ _ g => t.1 g) (fun _ _ g g2 => t.2.1 g g2) (fun _ _ g g2 => t.2.2 g g2) (fun _ o => (no o).elim) (fun _ o => (no o).elim) (fun _ o => (no o).elim) (fun g => absurd g (by decide))
        · have e1 : (0 : Int) = mkD (lkA a L) q := by unfold mkD dG; rw [if_neg g33]
          have M1 : TxC a L (q + 0) (up2 c6 o 5 0) := by rw [Int.add_zero]; exact T6.fld ho
          have t := two (up2 c6 o 5 0) 0 e1 M1 (F6.fld ho (by decide) (by decide)) (by rw [up2_k (by omega)]) (by rw [up2_j (by decide)]; exact e62) (by rw [up2_j (by decide)]; exact e63) (up2_same _ _ _ _)
          have no : lookM c6 = 33 → False := fun o => g33 (by rw [← T6.look]; exact o)
          exact sg_X8_read_41 ho (by decide) (fun _ => T6.ok) (fun _ o => (no o).elim) (fun _ _ => M1.ok) (fun _ o => (no o).elim) (fun _ o => (no o).elim) (fun _ o => (no o).elim) (fun _ _ g => t.1 g) (fun _ _ g g2 => t.2.1 g g2) (fun _ _ g g2 => t.2.2 g g2) (fun g => absurd g (by decide))
    · rw [hC4] at g3 ⊢
      rw [T4.look] at g3
      rw [ln_1 g (Or.inr g3)]
      exact ⟨_, rfl, T4, F4, Or.inl ⟨rfl, rfl⟩⟩
  · rw [T.look] at g
    rw [ln_0 g]
    exact ⟨_, rfl, T, FrO.rf, Or.inl ⟨rfl, rfl⟩⟩
