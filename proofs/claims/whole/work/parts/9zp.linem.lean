/-! streets: the reference reads a line -/
def FrS (i : Int) (m m' : Mem) : Prop := (∀ q, q ≠ 169 → q ≠ 183 → q ≠ 184 → m' q = m q) ∧ (∀ j : Int, j ≠ 18 → j ≠ 23 → m' 169 j = m 169 j) ∧ (∀ j : Int, j < 6 * i → m' 183 j = m 183 j) ∧ ∀ j : Int, j < 16 * i → m' 184 j = m 184 j
theorem FrS.rf {i : Int} {m : Mem} : FrS i m m := ⟨fun _ _ _ _ => rfl, fun _ _ _ => rfl, fun _ _ => rfl, fun _ _ => rfl⟩
theorem FrS.trans {i : Int} {a b d : Mem} (h : FrS i a b) (g : FrS i b d) : FrS i a d := ⟨fun q q1 q2 q3 => (g.1 q q1 q2 q3).trans (h.1 q q1 q2 q3), fun j j1 j2 => (g.2.1 j j1 j2).trans (h.2.1 j j1 j2), fun j hj => (g.2.2.1 j hj).trans (h.2.2.1 j hj), fun j hj => (g.2.2.2 j hj).trans (h.2.2.2 j hj)⟩
theorem FrS.pos {i : Int} {m m' : Mem} (h : PosR m m') : FrS i m m' := ⟨fun q q1 _ _ => h.1 q q1, fun j j1 _ => h.2 j j1, fun j _ => by rw [h.1 183 (by decide)], fun j _ => by rw [h.1 184 (by decide)]⟩
theorem FrS.r3 {i t z : Int} {m m' : Mem} (h : FrS i m m') (ht : 6 * i ≤ t) : FrS i m (up2 m' 183 t z) := ⟨fun q q1 q2 q3 => by rw [up2_k q2]; exact h.1 q q1 q2 q3, fun j j1 j2 => by rw [up2_k (by decide)]; exact h.2.1 j j1 j2, fun j hj => by rw [up2_j (by omega)]; exact h.2.2.1 j hj, fun j hj => by rw [up2_k (by decide)]; exact h.2.2.2 j hj⟩
theorem FrS.r4 {i t z : Int} {m m' : Mem} (h : FrS i m m') (ht : 16 * i ≤ t) : FrS i m (up2 m' 184 t z) := ⟨fun q q1 q2 q3 => by rw [up2_k q3]; exact h.1 q q1 q2 q3, fun j j1 j2 => by rw [up2_k (by decide)]; exact h.2.1 j j1 j2, fun j hj => by rw [up2_k (by decide)]; exact h.2.2.1 j hj, fun j hj => by rw [up2_j (by omega)]; exact h.2.2.2 j hj⟩
theorem FrS.f23 {i z : Int} {m m' : Mem} (h : FrS i m m') : FrS i m (up2 m' 169 23 z) := ⟨fun q q1 q2 q3 => by rw [up2_k q1]; exact h.1 q q1 q2 q3, fun j j1 j2 => by rw [up2_j j2]; exact h.2.1 j j1 j2, fun j hj => by rw [up2_k (by decide)]; exact h.2.2.1 j hj, fun j hj => by rw [up2_k (by decide)]; exact h.2.2.2 j hj⟩
theorem TxR.r3 {a m : Mem} {L p t z : Int} (h : TxR a L p m) : TxR a L p (up2 m 183 t z) := h.fr (by rw [up2_k (by decide)]) (by rw [up2_k (by decide)]) (up2_k (by decide))
theorem TxR.r4 {a m : Mem} {L p t z : Int} (h : TxR a L p m) : TxR a L p (up2 m 184 t z) := h.fr (by rw [up2_k (by decide)]) (by rw [up2_k (by decide)]) (up2_k (by decide))
theorem TxR.f23 {a m : Mem} {L p z : Int} (h : TxR a L p m) : TxR a L p (up2 m 169 23 z) := h.fr (up2_j (by decide)) (up2_j (by decide)) (up2_k (by decide))
theorem TxR.q {a m : Mem} {L p : Int} (h : TxR a L p m) : 0 ≤ m 169 18 ∧ m 169 18 < 2147483648 ∧ -2147483648 ≤ m 169 19 ∧ m 169 19 ≤ 80 := by
  have b := h.2.1
  rw [h.p, h.l]
  omega
theorem six5 {c z : Int} (h : sIx 5 c z) : (if 0 ≤ z then 2 * z - 1 else (0 : Int)) = slG c ∧ (z < 0 ↔ slG c = 0) ∧ -1 ≤ z ∧ z ≤ 1 := by
  have e : sLen 5 = 2 := by decide
  rcases h with ⟨q, ez, hq, hc, -⟩ | ⟨ez, hn⟩
  · have : q = 0 ∨ q = 1 := by omega
    rcases this with rfl | rfl
    · rw [show sAt 5 0 = 100 by decide] at hc
      rw [ez, ← hc]
      decide
    · rw [show sAt 5 1 = 117 by decide] at hc
      rw [ez, ← hc]
      decide
  · have h0 := hn 0 (by rw [e]; decide)
    have h1 := hn 1 (by rw [e]; decide)
    rw [show sAt 5 0 = 100 by decide] at h0
    rw [show sAt 5 1 = 117 by decide] at h1
    have es : slG c = 0 := by
      unfold slG
      rw [if_neg (fun o => h1 o.symm), if_neg (fun o => h0 o.symm)]
    rw [ez, es]
    decide
/-- what a line leaves behind -/
def LnM (i : Int) (r : LnT) (m : Mem) : Prop := (∀ t : Int, 0 ≤ t → t < 6 → m 183 (6 * i + t) = r t) ∧ ∀ h : Int, 0 ≤ h → h < 16 → h % 8 < r 1 → m 184 (16 * i + h) = r (16 + h)
def LPost (a : Mem) (L p i : Int) (m : Mem) (z : Int) (m' : Mem) : Prop := TxR a L (lnG (lkA a L) p).2 m' ∧ FrS i m m' ∧ (((lnG (lkA a L) p).1 = none ∧ z = 0) ∨ ∃ r : LnT, (lnG (lkA a L) p).1 = some r ∧ z = 1 ∧ m' 169 23 = i + 1 ∧ LnM i r m')
/-- the barred hours -/
theorem mt_bar {E : Nat × (Nat → Int32)} {a m M : Mem} {L p q q2 i x s0 : Int} {n : Nat} (i0 : 0 ≤ i) (i6 : i < 6) (c0 : lkA a L p = 115) (c1 : ¬ ((num (lkA a L) 2 (p + 1)).1 < 0 ∨ lkA a L (num (lkA a L) 2 (p + 1)).2 ≠ 58)) (hs : (sdG (lkA a L) ((num (lkA a L) 2 (p + 1)).2 + 1)).1 = some n) (hq2 : (sdG (lkA a L) ((num (lkA a L) 2 (p + 1)).2 + 1)).2 = q2) (hq : q = mkQ (lkA a L) q2) (hx : x = (num (lkA a L) 2 (p + 1)).1) (T : TxR a L q M) (F : FrS i m M) (h23 : M 169 23 = i) (es : (if 0 ≤ s0 then 2 * s0 - 1 else (0 : Int)) = mkS (lkA a L) q2) (rs : -1 ≤ s0 ∧ s0 ≤ 1) (m0 : M 183 (6 * i) = x) (m1 : M 183 (6 * i + 1) = n) (m3 : M 183 (6 * i + 3) = mkD (lkA a L) q2) (mw : ∀ h : Int, 0 ≤ h → h < 16 → h % 8 < (n : Int) → M 184 (16 * i + h) = wtG (lkA a L) ((num (lkA a L) 2 (p + 1)).2 + 1) n h) (u : Int) : GM E (m_X12_readsStreet 7) (Pi (LPost a L p i m)) 202 [.ref 169, vi (6 * i), vi (n : Int), vi u] [vi s0] M := by
  have b := T.2.1
  -- the line as it is told when the hours are
  have good : ∀ (ft : Int × Int) (M2 : Mem), (brG (lkA a L) q).1 = some ft → TxR a L (brG (lkA a L) q).2 M2 → FrS i m M2 → M2 169 23 = i + 1 → M2 183 (6 * i) = x → M2 183 (6 * i + 1) = n → M2 183 (6 * i + 2) = mkS (lkA a L) q2 → M2 183 (6 * i + 3) = mkD (lkA a L) q2 → M2 183 (6 * i + 4) = ft.1 → M2 183 (6 * i + 5) = ft.2 → (∀ h : Int, M2 184 h = M 184 h) → LPost a L p i m 1 M2 := fun ft M2 hb T2 F2 g23 g0 g1 g2 g3 g4 g5 gw => by
    have l4 := ln_4 c0 c1 hs (by rw [hq2, ← hq]; exact hb)
    rw [hq2, ← hq] at l4
    unfold LPost
    rw [l4]
    refine ⟨T2, F2, Or.inr ⟨_, rfl, rfl, g23, fun t t0 t6 => ?_, fun h h0 h6 hn => ?_⟩⟩
    · have : t = 0 ∨ t = 1 ∨ t = 2 ∨ t = 3 ∨ t = 4 ∨ t = 5 := by omega
      rcases this with rfl | rfl | rfl | rfl | rfl | rfl
      · rw [Int.add_zero, g0, hx]; rfl
      · rw [g1]; rfl
      · rw [g2]; rfl
      · rw [g3]; rfl
      · rw [g4]; rfl
      · rw [g5]; rfl
    · rw [gw, mkL_w h0]
      exact mw h h0 h6 hn
  have bad : ∀ (M2 : Mem), (brG (lkA a L) q).1 = none → TxR a L (brG (lkA a L) q).2 M2 → FrS i m M2 → LPost a L p i m 0 M2 := fun M2 hb T2 F2 => by
    have l3 := ln_3 c0 c1 hs (by rw [hq2, ← hq]; exact hb)
    rw [hq2, ← hq] at l3
    unfold LPost
    rw [l3]
    exact ⟨T2, F2, Or.inl ⟨rfl, rfl⟩⟩
  generalize hS : (if 0 ≤ s0 then 2 * s0 - 1 else (0 : Int)) = sl at es
  have TA : TxR a L q (up2 (up2 (up2 (up2 M 183 (6 * i + 2) sl) 183 (6 * i + 4) (-1)) 183 (6 * i + 5) (-1)) 169 23 (i + 1)) := T.r3.r3.r3.f23
  have FA : FrS i m (up2 (up2 (up2 (up2 M 183 (6 * i + 2) sl) 183 (6 * i + 4) (-1)) 183 (6 * i + 5) (-1)) 169 23 (i + 1)) := (((F.r3 (by omega)).r3 (by omega)).r3 (by omega)).f23
  have A23 : up2 (up2 (up2 (up2 M 183 (6 * i + 2) sl) 183 (6 * i + 4) (-1)) 183 (6 * i + 5) (-1)) 169 23 (i + 1) 169 23 = i + 1 := up2_same _ _ _ _
  have A0 : up2 (up2 (up2 (up2 M 183 (6 * i + 2) sl) 183 (6 * i + 4) (-1)) 183 (6 * i + 5) (-1)) 169 23 (i + 1) 183 (6 * i) = x := by rw [up2_k (by decide), up2_j (by omega), up2_j (by omega), up2_j (by omega), m0]
  have A1 : up2 (up2 (up2 (up2 M 183 (6 * i + 2) sl) 183 (6 * i + 4) (-1)) 183 (6 * i + 5) (-1)) 169 23 (i + 1) 183 (6 * i + 1) = n := by rw [up2_k (by decide), up2_j (by omega), up2_j (by omega), up2_j (by omega), m1]
  have A2 : up2 (up2 (up2 (up2 M 183 (6 * i + 2) sl) 183 (6 * i + 4) (-1)) 183 (6 * i + 5) (-1)) 169 23 (i + 1) 183 (6 * i + 2) = sl := by rw [up2_k (by decide), up2_j (by omega), up2_j (by omega), up2_same]
  have A3 : up2 (up2 (up2 (up2 M 183 (6 * i + 2) sl) 183 (6 * i + 4) (-1)) 183 (6 * i + 5) (-1)) 169 23 (i + 1) 183 (6 * i + 3) = mkD (lkA a L) q2 := by rw [up2_k (by decide), up2_j (by omega), up2_j (by omega), up2_j (by omega), m3]
  have A4 : up2 (up2 (up2 (up2 M 183 (6 * i + 2) sl) 183 (6 * i + 4) (-1)) 183 (6 * i + 5) (-1)) 169 23 (i + 1) 183 (6 * i + 4) = -1 := by rw [up2_k (by decide), up2_j (by omega), up2_same]
  have A5 : up2 (up2 (up2 (up2 M 183 (6 * i + 2) sl) 183 (6 * i + 4) (-1)) 183 (6 * i + 5) (-1)) 169 23 (i + 1) 183 (6 * i + 5) = -1 := by rw [up2_k (by decide), up2_same]
  have AW : up2 (up2 (up2 (up2 M 183 (6 * i + 2) sl) 183 (6 * i + 4) (-1)) 183 (6 * i + 5) (-1)) 169 23 (i + 1) 184 = M 184 := by rw [up2_k (by decide), up2_k (by decide), up2_k (by decide), up2_k (by decide)]
  have A18 : up2 (up2 (up2 (up2 M 183 (6 * i + 2) sl) 183 (6 * i + 4) (-1)) 183 (6 * i + 5) (-1)) 169 23 (i + 1) 169 18 = M 169 18 := by rw [up2_j (by decide), up2_k (by decide), up2_k (by decide), up2_k (by decide)]
  refine sg_X12_readsStreet_202 ⟨by omega, by omega⟩ (by omega) (by omega) (by omega) T.q (T.2.2.1 _) (fun g => ?_) (fun g => ?_)
  all_goals rw [hS, h23]
  all_goals generalize hA : up2 (up2 (up2 (up2 M 183 (6 * i + 2) sl) 183 (6 * i + 4) (-1)) 183 (6 * i + 5) (-1)) 169 23 (i + 1) = A at *
  · have g := (T.next (by decide)).1 g
    have qL := (lk_pos (show 0 ≤ lkA a L q by omega)).1
    have T2 : TxR a L (q + 1) (up2 A 169 18 (M 169 18 + 1)) := TA.pass qL (by rw [T.p])
    have F2 : FrS i m (up2 A 169 18 (M 169 18 + 1)) := FA.trans (FrS.pos PosR.up)
    refine ca_X12_readsStreet_272 (mt_number T2 (by decide) (by decide)) (fun y m3' hy => ?_)
    obtain ⟨ey, T3, P3⟩ := hy
    have ey : y = (num (lkA a L) 3 (q + 1)).1 := ey
    have T3 : TxR a L (num (lkA a L) 3 (q + 1)).2 m3' := T3
    have nk := num_ok (a := a) (L := L) (k := 3) (i := q + 1) (by decide) (by omega)
    have PA : PosR A m3' := PosR.up.trans P3
    have B183 : m3' 183 = A 183 := PA.1 183 (by decide)
    have B184 : m3' 184 = A 184 := PA.1 184 (by decide)
    have B23 : m3' 169 23 = i + 1 := by rw [PA.2 23 (by decide), A23]
    have FB : FrS i m m3' := FA.trans (FrS.pos PA)
    have y4 : ∀ M5 : Mem, up2 M5 183 (6 * i + 4) y 183 (6 * i + 4) = y := fun _ => up2_same _ _ _ _
    have T4 : TxR a L (num (lkA a L) 3 (q + 1)).2 (up2 m3' 183 (6 * i + 4) y) := T3.r3
    have F4 : FrS i m (up2 m3' 183 (6 * i + 4) y) := FB.r3 (by omega)
    refine sg_X12_readsStreet_275 (by omega) (by omega) (by rw [y4]; constructor <;> omega) (fun _ => T3.q) (fun _ => T3.2.2.1 _) (fun g2 => ?_) (fun g2 g3 => ?_) (fun g2 g3 => ?_)
    · rw [y4] at g2
      have b1 := br_1 g (Or.inl (by omega))
      exact ⟨_, rfl, bad _ (by rw [b1]) (by rw [b1]; exact T4) F4⟩
    · rw [y4] at g2
      have g3 := (T3.next (by decide)).1 g3
      have q3L := (lk_pos (show 0 ≤ lkA a L (num (lkA a L) 3 (q + 1)).2 by omega)).1
      have gg : ¬ ((num (lkA a L) 3 (q + 1)).1 < 0 ∨ lkA a L (num (lkA a L) 3 (q + 1)).2 ≠ 45) := by omega
      have T5 : TxR a L ((num (lkA a L) 3 (q + 1)).2 + 1) (up2 (up2 m3' 183 (6 * i + 4) y) 169 18 (m3' 169 18 + 1)) := T4.pass q3L (by rw [T3.p])
      refine ca_X12_readsStreet_307 (mt_number T5 (by decide) (by decide)) (fun w m6 hw => ?_)
      obtain ⟨ew, T6, P6⟩ := hw
      have ew : w = (num (lkA a L) 3 ((num (lkA a L) 3 (q + 1)).2 + 1)).1 := ew
      have T6 : TxR a L (num (lkA a L) 3 ((num (lkA a L) 3 (q + 1)).2 + 1)).2 m6 := T6
      have nk2 := num_ok (a := a) (L := L) (k := 3) (i := (num (lkA a L) 3 (q + 1)).2 + 1) (by decide) (by omega)
      have PB : PosR (up2 m3' 183 (6 * i + 4) y) m6 := PosR.up.trans P6
      have C183 : m6 183 = up2 m3' 183 (6 * i + 4) y 183 := PB.1 183 (by decide)
      have C184 : m6 184 = A 184 := by rw [PB.1 184 (by decide), up2_k (by decide)]; exact B184
      have C23 : m6 169 23 = i + 1 := by rw [PB.2 23 (by decide), up2_k (by decide)]; exact B23
      have F7 : FrS i m (up2 m6 183 (6 * i + 5) w) := (F4.trans (FrS.pos PB)).r3 (by omega)
      have T7 : TxR a L (num (lkA a L) 3 ((num (lkA a L) 3 (q + 1)).2 + 1)).2 (up2 m6 183 (6 * i + 5) w) := T6.r3
      have w5 : up2 m6 183 (6 * i + 5) w 183 (6 * i + 5) = w := up2_same _ _ _ _
      have w4 : up2 m6 183 (6 * i + 5) w 183 (6 * i + 4) = y := by rw [up2_j (by omega), C183, up2_same]
      have wo : ∀ t : Int, t ≠ 6 * i + 4 → t ≠ 6 * i + 5 → up2 m6 183 (6 * i + 5) w 183 t = A 183 t := fun t h4 h5 => by rw [up2_j h5, C183, up2_j h4, B183]
      have e18 : m6 169 18 = (num (lkA a L) 3 ((num (lkA a L) 3 (q + 1)).2 + 1)).2 := T6.p
      refine sg_X12_readsStreet_310 (by omega) (by omega) (by omega) (by rw [w5]; constructor <;> omega) (by rw [w4]; constructor <;> omega) (fun g4 g5 => ?_) (fun g4 g5 => ?_) (fun g4 => ?_)
      · rw [w5] at g5
        have b2 := br_2 g gg (by omega)
        exact ⟨_, rfl, bad _ (by rw [b2]) (by rw [b2]; exact T7.stay (by rw [e18]; omega)) (F7.trans (FrS.pos PosR.up))⟩
      · rw [w5, w4] at g4
        rw [w5] at g5
        have b3 := br_3 g gg (by omega) (by omega)
        refine ⟨_, rfl, bad _ (by rw [b3]) ?_ (F7.trans (FrS.pos PosR.up))⟩
        rw [b3]
        obtain ⟨⟨t1, t2⟩, ⟨t3, t4, t5⟩, t6, t7⟩ := T7
        exact ⟨⟨by rw [up2_same, e18], by rw [up2_j (by decide)]; exact t2⟩, ⟨by dsimp only; omega, by dsimp only; omega, t5⟩, by rw [up2_k (by decide)]; exact t6, by rw [up2_k (by decide)]; exact t7⟩
      · rw [w5, w4] at g4
        have b4 := br_4 g gg (by omega) (by omega)
        exact ⟨_, rfl, good (y, w) _ (by rw [b4, ey, ew]) (by rw [b4]; exact T7) F7 (by rw [up2_k (by decide)]; exact C23) (by rw [wo _ (by omega) (by omega)]; exact A0) (by rw [wo _ (by omega) (by omega)]; exact A1) (by rw [wo _ (by omega) (by omega), A2, es]) (by rw [wo _ (by omega) (by omega)]; exact A3) w4 w5 (fun h => by rw [up2_k (by decide), C184, AW])⟩
    · rw [y4] at g2
      have g3 : lkA a L (num (lkA a L) 3 (q + 1)).2 ≠ 45 := fun o => g3 ((T3.next (by decide)).2 o)
      have b1 := br_1 g (Or.inr g3)
      exact ⟨_, rfl, bad _ (by rw [b1]) (by rw [b1]; exact T4.stay (by rw [T3.p]; omega)) (F4.trans (FrS.pos PosR.up))⟩
  · have g : lkA a L q ≠ 120 := fun o => g ((T.next (by decide)).2 o)
    have b0 := br_0 g
    refine ⟨_, rfl, good (-1, -1) _ (by rw [b0]) (by rw [b0]; exact TA.stay (by rw [T.p]; omega)) (FA.trans (FrS.pos PosR.up)) (by rw [up2_j (by decide)]; exact A23) (by rw [up2_k (by decide)]; exact A0) (by rw [up2_k (by decide)]; exact A1) (by rw [up2_k (by decide), A2, es]) (by rw [up2_k (by decide)]; exact A3) (by rw [up2_k (by decide)]; exact A4) (by rw [up2_k (by decide)]; exact A5) (fun h => by rw [up2_k (by decide), AW])⟩
