/-! the rule's text: the reference reads -/
def FrM (m m' : Mem) : Prop := (∀ k, k ≠ 169 → k ≠ 186 → m' k = m k) ∧ ∀ j : Int, j ≠ 18 → j ≠ 20 → j ≠ 27 → m' 169 j = m 169 j
theorem FrM.rf {m : Mem} : FrM m m := ⟨fun _ _ _ => rfl, fun _ _ _ _ => rfl⟩
theorem FrM.trans {a b d : Mem} (h : FrM a b) (g : FrM b d) : FrM a d := ⟨fun k k1 k2 => (g.1 k k1 k2).trans (h.1 k k1 k2), fun j j1 j2 j3 => (g.2 j j1 j2 j3).trans (h.2 j j1 j2 j3)⟩
theorem FrM.pos {m m' : Mem} (h : PosR m m') : FrM m m' := ⟨fun k k1 _ => h.1 k k1, fun j j1 _ _ => h.2 j j1⟩
theorem FrM.wr {m m' : Mem} {x w z : Int} (h : FrM m m') : FrM m (up2 (up2 m' 186 x w) 169 27 z) := ⟨fun k k1 k2 => by rw [up2_k k1, up2_k k2]; exact h.1 k k1 k2, fun j j1 j2 j3 => by rw [up2_j j3, up2_k (by decide)]; exact h.2 j j1 j2 j3⟩
theorem FrM.nst {m m' : Mem} {z : Int} (h : FrM m m') : FrM m (up2 m' 169 20 z) := ⟨fun k k1 k2 => by rw [up2_k k1]; exact h.1 k k1 k2, fun j j1 j2 j3 => by rw [up2_j j2]; exact h.2 j j1 j2 j3⟩
def MPre (a : Mem) (L p rl nst : Int) (m : Mem) : Prop := TxR a L p m ∧ m 169 27 = rl ∧ 0 ≤ rl ∧ rl ≤ p ∧ m 169 20 = nst
def MPost (a : Mem) (L p rl nst : Int) (m : Mem) (R : PRes) (z : Int) (m' : Mem) : Prop := TxR a L R.2 m' ∧ FrM m m' ∧ (rl ≤ m' 169 27 ∧ m' 169 27 ≤ rl + (R.2 - p)) ∧ ((R.1 = none ∧ z = 0) ∨ ∃ v : VF, R.1 = some v ∧ z = 1 ∧ m' 169 20 = nst ∧ rl < m' 169 27 ∧ MSeg (m' 186) rl (m' 169 27) v ∧ ∀ x : Int, x < rl → m' 186 x = m 186 x)
theorem TxR.wr {a m : Mem} {L p x w z : Int} (h : TxR a L p m) : TxR a L p (up2 (up2 m 186 x w) 169 27 z) := h.fr (by rw [up2_j (by decide), up2_k (by decide)]) (by rw [up2_j (by decide), up2_k (by decide)]) (by rw [up2_k (by decide), up2_k (by decide)])
theorem TxR.nst {a m : Mem} {L p z : Int} (h : TxR a L p m) : TxR a L p (up2 m 169 20 z) := h.fr (up2_j (by decide)) (up2_j (by decide)) (up2_k (by decide))
theorem ra_off {a1 : Int} (h : a1 = 0 ∨ a1 = 1 ∨ a1 = 2) {c z : Int} (hz : (a1 = 0 → sIx 6 c z) ∧ (a1 = 1 → sIx 7 c z) ∧ (a1 = 2 → sIx 8 c z)) : (z < 0 ↔ opR a1 c < 0) ∧ (0 ≤ z → (2000 + z) + (if a1 ≠ 0 then (if a1 ≠ 1 then (5 : Int) else (3 : Int)) else (0 : Int)) = 2000 + opR a1 c) ∧ -1 ≤ z ∧ z ≤ 6 := by
  rcases h with rfl | rfl | rfl
  · have e := six6 (hz.1 rfl)
    have g := opR_0 (c := c)
    rw [if_neg (by decide)]
    have : -1 ≤ opR 0 c ∧ opR 0 c ≤ 6 := by
      rw [g]
      split
      · decide
      split
      · decide
      split <;> decide
    omega
  · have e : z = if opR 1 c < 0 then -1 else opR 1 c - 3 := six7 (hz.2.1 rfl)
    have g := opR_1 (c := c)
    rw [if_pos (by decide), if_neg (by decide)]
    have : opR 1 c = -1 ∨ opR 1 c = 3 ∨ opR 1 c = 4 := by
      rw [g]
      split
      · decide
      split <;> decide
    split at e <;> omega
  · have e : z = if opR 2 c < 0 then -1 else opR 2 c - 5 := six8 (hz.2.2 rfl)
    have g := opR_2 (c := c)
    rw [if_pos (by decide), if_pos (by decide)]
    have : opR 2 c = -1 ∨ opR 2 c = 5 ∨ opR 2 c = 6 := by
      rw [g]
      split
      · decide
      split <;> decide
    split at e <;> omega
theorem mt_rank {E : Nat × (Nat → Int32)} {a m : Mem} {L p rl nst r : Int} {d N : Nat} {th : Int → PRes} (hd : 12 ≤ d) (hr : r = 0 ∨ r = 1 ∨ r = 2) (hN : (r = 0 ∧ N = 1) ∨ (r ≠ 0 ∧ N = 41)) (hL : L ≤ 40) (sub : ∀ (p2 rl : Int) (m : Mem), p ≤ p2 → MPre a L p2 rl nst m → K_X12_readsRank E d [.ref 169, vi (r + 1)] m (MPost a L p2 rl nst m (th p2))) (h : MPre a L p rl nst m) : K_X12_readsRank E (d + 1) [.ref 169, vi r] m (MPost a L p rl nst m (bindT (lkA a L) r th N p)) := by
  obtain ⟨T, h27, r0, rp, h20⟩ := h
  have rr : RI r := by rcases hr with rfl | rfl | rfl <;> decide
  refine en_X12_readsRank (sg_X12_readsRank_0 rr (fun _ => ?_) (fun g => by omega))
  refine ca_X12_readsRank_14 (by omega) (sub p rl m (Int.le_refl _) ⟨T, h27, r0, rp, h20⟩) (fun z m1 hz => ?_)
  obtain ⟨T1, F1, B1, hz⟩ := hz
  rcases hz with ⟨e1, ez⟩ | ⟨v, e1, ez, g0, g1, g3, g4⟩
  · have eR : th p = (none, (th p).2) := Prod.ext e1 rfl
    rw [bind_no eR, ez]
    exact sg_X12_readsRank_17 (by decide) (fun g => absurd rfl g) (fun _ => ⟨_, rfl, T1, F1, B1, Or.inl ⟨rfl, rfl⟩⟩)
  · have eR : th p = (some v, (th p).2) := Prod.ext e1 rfl
    rw [bind_so eR, ez]
    refine sg_X12_readsRank_17 (by decide) (fun _ => ?_) (fun g => absurd g (by decide))
    have key : ∀ (n : Nat) (q rl2 : Int) (v : VF) (m2 : Mem), ((r ≠ 0 ∧ n + q ≥ 41) ∨ (r = 0 ∧ n = 1)) → TxR a L q m2 → FrM m m2 → m2 169 27 = rl2 → rl < rl2 → rl2 ≤ rl + (q - p) → m2 169 20 = nst → MSeg (m2 186) rl rl2 v → (∀ x : Int, x < rl → m2 186 x = m 186 x) → GM E (m_X12_readsRank (d + 1)) (Pi (MPost a L p rl nst m (tailG (lkA a L) r th n v q))) 24 [.ref 169, vi r, vi 1, un] [] m2 := by
      intro n
      induction n with
      | zero =>
        intro q rl2 v m2 hn T2
        have := T2.2.1
        omega
      | succ n ih =>
        intro q rl2 v m2 hn T2 F2 e27 q1 q2 e20 S2 P2
        have b2 := T2.2.1
        have body : ∀ (i : Nat), ((r = 0 → i = 6) ∧ (r = 1 → i = 7) ∧ (r = 2 → i = 8)) → i < 11 → GM E (m_X12_readsRank (d + 1)) (Pi (MPost a L p rl nst m (tailG (lkA a L) r th (n + 1) v q))) 50 [.ref 169, vi r, vi 1, un] [.ref (1100 + i), .ref 169] m2 := fun i hi i11 => by
          refine ca_X12_readsRank_50 (by omega) (mt_takesS i11 T2) (fun z m3 hz => ?_)
          obtain ⟨ez, T3, P3⟩ := hz
          have ro := ra_off hr (c := lkA a L q) (z := z) ⟨fun e => by rw [← hi.1 e]; exact ez, fun e => by rw [← hi.2.1 e]; exact ez, fun e => by rw [← hi.2.2 e]; exact ez⟩
          have F3 : FrM m m3 := F2.trans (FrM.pos P3)
          have f27 : m3 169 27 = rl2 := by rw [P3.2 27 (by decide)]; exact e27
          have f20 : m3 169 20 = nst := by rw [P3.2 20 (by decide)]; exact e20
          have f86 : m3 186 = m2 186 := P3.1 186 (by decide)
          refine sg_X12_readsRank_53 ⟨by omega, by omega⟩ (fun g => ?_) (fun g => ?_)
          · rw [if_neg (by omega)] at T3
            have o0 : 0 ≤ opR r (lkA a L q) := by omega
            have os := opR_sgn hr o0
            have b3 := T3.2.1
            refine ca_X12_readsRank_64 (by omega) (sub (q + 1) rl2 m3 (by omega) ⟨T3, f27, by omega, by omega, f20⟩) (fun w m4 hw => ?_)
            obtain ⟨T4, F4, B4, hw⟩ := hw
            have F4 := F3.trans F4
            have b4 := T4.2.1
            rcases hw with ⟨w1, ew⟩ | ⟨w, w1, ew, u0, u1, u3, u4⟩
            · have eR : th (q + 1) = (none, (th (q + 1)).2) := Prod.ext w1 rfl
              rw [tail_no o0 eR, ew]
              exact sg_X12_readsRank_67 (by omega) (by decide) rr (fun g => absurd rfl g) (fun g => absurd rfl g) (fun g => absurd rfl g) (fun _ => ⟨_, rfl, T4, F4, ⟨by omega, by dsimp only; omega⟩, Or.inl ⟨rfl, rfl⟩⟩)
            · have eR : th (q + 1) = (some w, (th (q + 1)).2) := Prod.ext w1 rfl
              rw [tail_so o0 eR, ew]
              have eo := ro.2.1 g
              have d4 : m4 169 27 < 80 := by omega
              have S5 : ∀ (t : Int), t = 2000 + opR r (lkA a L q) → MSeg (up2 (up2 m4 186 (m4 169 27) t) 169 27 (m4 169 27 + 1) 186) rl (m4 169 27 + 1) (fun f => opv (opR r (lkA a L q)) (v f) (w f)) := fun t et => by
                have yx : ∀ x : Int, x ≠ m4 169 27 → up2 (up2 m4 186 (m4 169 27) t) 169 27 (m4 169 27 + 1) 186 x = m4 186 x := fun x hx => by rw [up2_k (by decide), up2_j hx]
                exact ms_op ((S2.congr (fun x x0 x1 => (u4 x x1).trans (by rw [f86]))).congr (fun x x0 x1 => yx x (by omega))) (u3.congr (fun x x0 x1 => yx x (by omega))) d4 ⟨o0, os.1⟩ (by rw [up2_k (by decide), up2_same, et])
              have P5 : ∀ (t : Int), ∀ x : Int, x < rl → up2 (up2 m4 186 (m4 169 27) t) 169 27 (m4 169 27 + 1) 186 x = m 186 x := fun t x hx => by rw [up2_k (by decide), up2_j (by omega), u4 x (by omega), f86]; exact P2 x hx
              have e20' : ∀ (t : Int), up2 (up2 m4 186 (m4 169 27) t) 169 27 (m4 169 27 + 1) 169 20 = nst := fun t => by rw [up2_j (by decide), up2_k (by decide)]; exact u0
              refine sg_X12_readsRank_67 (by omega) (by decide) rr (fun _ => by omega) (fun _ gr => ?_) (fun _ gr => ?_) (fun g => absurd g (by decide))
              · have rz : r = 0 := by omega
                have nz : n = 0 := by omega
                subst nz
                rw [eo]
                refine sg_X12_readsRank_24 (by decide) rr (fun _ => ⟨_, rfl, T4.wr, FrM.wr F4, ⟨by rw [up2_same]; omega, by rw [up2_same]; dsimp only [tailG]; omega⟩, Or.inr ⟨_, rfl, rfl, e20' _, by rw [up2_same]; omega, ?_, P5 _⟩⟩) (fun g => absurd rfl g) (fun g => absurd rfl g) (fun g => absurd rfl g)
                rw [show ∀ t : Int, up2 (up2 m4 186 (m4 169 27) t) 169 27 (m4 169 27 + 1) 169 27 = m4 169 27 + 1 from fun t => up2_same _ _ _ _]
                exact S5 _ rfl
              · rw [eo]
                exact ih (th (q + 1)).2 (m4 169 27 + 1) _ _ (by omega) T4.wr (FrM.wr F4) (up2_same _ _ _ _) (by omega) (by omega) (e20' _) (S5 _ rfl) (P5 _)
          · rw [if_pos (by omega)] at T3
            rw [tail_end (by omega)]
            exact ⟨_, rfl, T3, F3, ⟨by rw [f27]; omega, by rw [f27]; exact q2⟩, Or.inr ⟨v, rfl, rfl, f20, by rw [f27]; exact q1, by rw [f27, f86]; exact S2, fun x hx => by rw [f86]; exact P2 x hx⟩⟩
        refine sg_X12_readsRank_24 (by decide) rr (fun g => absurd g (by decide)) (fun _ g g2 => ?_) (fun _ _ g => ?_) (fun _ g => ?_)
        · exact body 8 ⟨by omega, by omega, fun _ => rfl⟩ (by decide)
        · exact body 7 ⟨by omega, fun _ => rfl, by omega⟩ (by decide)
        · exact body 6 ⟨fun _ => rfl, by omega, by omega⟩ (by decide)
    have b1 := T1.2.1
    exact key N (th p).2 (m1 169 27) v m1 (by omega) T1 F1 rfl g1 B1.2 g0 g3 g4
theorem mt_thing {E : Nat × (Nat → Int32)} {a : Mem} {L nst : Int} {D : Nat} {cm : Option (Int → PRes)} (hL : L ≤ 40) (hD : 12 ≤ D) (k4 : 0 ≤ nst ∧ nst ≤ 4) (hcm : (nst = 4 ∧ cm = none) ∨ (nst < 4 ∧ ∃ g : Int → PRes, cm = some g ∧ ∀ (d2 : Nat) (p rl : Int) (m : Mem), D + (41 - p) ≤ d2 → MPre a L p rl (nst + 1) m → K_X12_readsRank E d2 [.ref 169, vi 0] m (MPost a L p rl (nst + 1) m (g p)))) : ∀ (n d : Nat) (p rl : Int) (m : Mem), n + p ≥ 41 → D + (41 - p) ≤ d → MPre a L p rl nst m → K_X12_readsThing E d [.ref 169] m (MPost a L p rl nst m (thG (lkA a L) cm n p)) := by
  intro n
  induction n with
  | zero =>
    intro d p rl m hn hd h
    have := h.1.2.1
    omega
  | succ n ih =>
    intro d p rl m hn hd h
    obtain ⟨T, h27, r0, rp, h20⟩ := h
    have b := T.2.1
    refine en_X12_readsThing (sg_X12_readsThing_0 (by omega) (by rw [T.p, T.l]; omega) (T.2.2.1 _) (fun _ => by rw [T.p, T.l]; omega) (fun _ => T.2.2.1 _) (fun g => ?_) (fun g g2 => ?_) (fun g g2 => ?_))
    · have g := (T.next (by decide)).1 g
      have pL := (lk_pos (show 0 ≤ lkA a L p by omega)).1
      have T2 : TxR a L (p + 1) (up2 m 169 18 (m 169 18 + 1)) := T.pass pL (by rw [T.p])
      refine ca_X12_readsThing_10 (d2 := d - 1) (by omega) (ih (d - 1) (p + 1) rl _ (by omega) (by omega) ⟨T2, by rw [up2_j (by decide)]; exact h27, r0, by omega, by rw [up2_j (by decide)]; exact h20⟩) (fun z m2 hz => ?_)
      obtain ⟨T3, F3, B3, hz⟩ := hz
      have F3 : FrM m m2 := (FrM.pos PosR.up).trans F3
      have b3 := T3.2.1
      rw [thG_neg g]
      rcases hz with ⟨e1, ez⟩ | ⟨v, e1, ez, u0, u1, u3, u4⟩
      · have eR : thG (lkA a L) cm n (p + 1) = (none, (thG (lkA a L) cm n (p + 1)).2) := Prod.ext e1 rfl
        rw [eR, ez]
        exact sg_X12_readsThing_13 (by omega) ⟨by omega, by omega⟩ (Or.inl rfl) ⟨_, rfl, T3.wr, FrM.wr F3, ⟨by rw [up2_same]; omega, by rw [up2_same]; dsimp only; omega⟩, Or.inl ⟨rfl, rfl⟩⟩
      · have eR : thG (lkA a L) cm n (p + 1) = (some v, (thG (lkA a L) cm n (p + 1)).2) := Prod.ext e1 rfl
        rw [eR, ez]
        have d4 : m2 169 27 < 80 := by omega
        have yx : ∀ x : Int, x ≠ m2 169 27 → up2 (up2 m2 186 (m2 169 27) 3000) 169 27 (m2 169 27 + 1) 186 x = m2 186 x := fun x hx => by rw [up2_k (by decide), up2_j hx]
        refine sg_X12_readsThing_13 (by omega) ⟨by omega, d4⟩ (Or.inr rfl) ⟨_, rfl, T3.wr, FrM.wr F3, ⟨by rw [up2_same]; omega, by rw [up2_same]; dsimp only; omega⟩, Or.inr ⟨negF v, rfl, rfl, by rw [up2_j (by decide), up2_k (by decide)]; exact u0, by rw [up2_same]; omega, ?_, fun x hx => by rw [yx x (by omega), u4 x hx, up2_k (by decide)]⟩⟩
        rw [show up2 (up2 m2 186 (m2 169 27) 3000) 169 27 (m2 169 27 + 1) 169 27 = m2 169 27 + 1 from up2_same _ _ _ _]
        exact ms_neg (u3.congr (fun x x0 x1 => yx x (by omega))) d4 (by rw [up2_k (by decide), up2_same])
    · have g : lkA a L p ≠ 45 := fun o => g ((T.next (by decide)).2 o)
      rw [thG_b g]
      have T2 : TxR a L p (up2 m 169 18 (m 169 18 + 0)) := T.stay (by rw [T.p]; omega)
      have gd : 48 ≤ lkA a L p ∧ lkA a L p ≤ 57 := T.dig.1 (by rw [Int.add_zero] at g2; exact g2)
      have nn : 0 ≤ (num (lkA a L) 3 p).1 ∧ p < (num (lkA a L) 3 p).2 := by
        unfold num
        rw [if_pos gd, show (3 : Nat) = 2 + 1 from rfl, numG, if_pos gd]
        have gL := (lk_pos (show 0 ≤ lkA a L p by omega)).1
        have := numG_ok (a := a) (L := L) 2 (10 * 0 + lkA a L p - 48) (p + 1) (by omega) (by omega)
        omega
      have nk := num_ok (a := a) (L := L) (k := 3) (i := p) (by decide) b.2.1
      have nk2 : (num (lkA a L) 3 p).1 + 1 ≤ 1000 := nk.2.1
      rw [thB_num nn.1]
      refine ca_X12_readsThing_33 (by omega) (mt_number T2 (by decide) (by decide)) (fun z m2 hz => ?_)
      obtain ⟨ez, T3, PS⟩ := hz
      have ez : z = (num (lkA a L) 3 p).1 := ez
      have T3 : TxR a L (num (lkA a L) 3 p).2 m2 := T3
      have f27 : m2 169 27 = rl := by rw [PS.2 27 (by decide), up2_j (by decide)]; exact h27
      have f20 : m2 169 20 = nst := by rw [PS.2 20 (by decide), up2_j (by decide)]; exact h20
      have F3 : FrM m m2 := (FrM.pos PosR.up).trans (FrM.pos PS)
      refine sg_X12_readsThing_36 (by omega) (by rw [f27]; omega) ?_
      rw [f27]
      refine ⟨_, rfl, T3.wr, FrM.wr F3, ⟨by rw [up2_same]; omega, by rw [up2_same]; dsimp only; omega⟩, Or.inr ⟨_, rfl, rfl, by rw [up2_j (by decide), up2_k (by decide)]; exact f20, by rw [up2_same]; omega, ?_, fun x hx => by rw [up2_k (by decide), up2_j (by omega), PS.1 186 (by decide), up2_k (by decide)]⟩⟩
      rw [show up2 (up2 m2 186 rl z) 169 27 (rl + 1) 169 27 = rl + 1 from up2_same _ _ _ _]
      exact ms_num r0 (by omega) (by rw [up2_k (by decide), up2_same, ez]) ⟨nn.1, by omega⟩
    · have g : lkA a L p ≠ 45 := fun o => g ((T.next (by decide)).2 o)
      rw [thG_b g]
      have T2 : TxR a L p (up2 m 169 18 (m 169 18 + 0)) := T.stay (by rw [T.p]; omega)
      have gd : ¬ (48 ≤ lkA a L p ∧ lkA a L p ≤ 57) := fun o => g2 (by rw [Int.add_zero]; exact T.dig.2 o)
      have nn : ¬ 0 ≤ (num (lkA a L) 3 p).1 := by
        unfold num
        rw [if_neg gd]
        exact (by decide : ¬ (0 : Int) ≤ -1)
      refine ca_X12_readsThing_44 (by omega) (mt_takesS (i := 0) (by decide) T2) (fun z m2 hz => ?_)
      obtain ⟨ez, T3, PS⟩ := hz
      have ez := six0 ez
      have f27 : m2 169 27 = rl := by rw [PS.2 27 (by decide), up2_j (by decide)]; exact h27
      have f20 : m2 169 20 = nst := by rw [PS.2 20 (by decide), up2_j (by decide)]; exact h20
      have F3 : FrM m m2 := (FrM.pos PosR.up).trans (FrM.pos PS)
      have f86 : m2 186 = m 186 := by rw [PS.1 186 (by decide), up2_k (by decide)]
      have l8 : ltr (lkA a L p) < 8 ∧ -1 ≤ ltr (lkA a L p) := by
        unfold ltr
        split
        · decide
        split
        · decide
        split
        · decide
        split
        · decide
        split
        · decide
        split
        · decide
        split
        · decide
        split <;> decide
      refine sg_X12_readsThing_47 (by omega) (by rw [ez]; constructor <;> omega) (fun _ => by rw [f20]; constructor <;> omega) (fun gz _ => by rw [if_pos gz] at T3; rw [T3.p, T3.l]; omega) (fun _ _ => T3.2.2.1 _) (fun _ => by rw [f27]; omega) (fun gz g4 => ?_) (fun gz g4 gp => ?_) (fun gz g4 gp => ?_) (fun gz => ?_)
      · rw [if_pos gz] at T3
        rw [f20] at g4
        have ec : cm = none := by
          rcases hcm with ⟨-, e⟩ | ⟨e, -⟩
          · exact e
          · omega
        rw [thB_not nn (by rw [← ez]; omega) (Or.inr ec)]
        exact ⟨_, rfl, T3, F3, ⟨by omega, by dsimp only; omega⟩, Or.inl ⟨rfl, rfl⟩⟩
      · rw [if_pos gz] at T3
        rw [f20] at g4
        have g40 := (T3.next (by decide)).1 gp
        have pL := (lk_pos (show 0 ≤ lkA a L p by omega)).1
        rcases hcm with ⟨e, -⟩ | ⟨-, gg, ecm, hsub⟩
        · omega
        · have eP := thB_par (g := gg) g40
          rw [← ecm] at eP
          have T4 : TxR a L (p + 1) (up2 (up2 m2 169 18 (m2 169 18 + 1)) 169 20 (m2 169 20 + 1)) := (T3.pass pL (by rw [T3.p])).nst
          refine ca_X12_readsThing_94 (d2 := d - 1) (by omega) (hsub (d - 1) (p + 1) rl _ (by omega) ⟨T4, by rw [up2_j (by decide), up2_j (by decide)]; exact f27, r0, by omega, by rw [up2_same, f20]⟩) (fun w m5 hw => ?_)
          obtain ⟨T5, F5, B5, hw⟩ := hw
          have F5 : FrM m m5 := (FrM.nst (F3.trans (FrM.pos PosR.up))).trans F5
          have b5 := T5.2.1
          rcases hw with ⟨w1, ew⟩ | ⟨v, w1, ew, u0, u1, u3, u4⟩
          · have eR : gg (p + 1) = (none, (gg (p + 1)).2) := Prod.ext w1 rfl
            rw [eR] at eP
            have eP : thB (lkA a L) cm p = (none, (gg (p + 1)).2) := eP
            rw [eP, ew]
            exact sg_X12_readsThing_97 (by omega) (by decide) (fun g => absurd rfl g) (fun g => absurd rfl g) (fun _ => ⟨_, rfl, T5, F5, ⟨B5.1, by have := B5.2; dsimp only; omega⟩, Or.inl ⟨rfl, rfl⟩⟩) (fun g => absurd rfl g) (fun g => absurd rfl g)
          · have eR : gg (p + 1) = (some v, (gg (p + 1)).2) := Prod.ext w1 rfl
            rw [eR] at eP
            generalize hq5 : (gg (p + 1)).2 = q5 at *
            have eP : thB (lkA a L) cm p = if lkA a L q5 = 41 then (some v, q5 + 1) else (none, q5) := eP
            rw [ew]
            have B52 := B5.2
            have u4' : ∀ x : Int, x < rl → m5 186 x = m 186 x := fun x hx => by rw [u4 x hx, up2_k (by decide), up2_k (by decide), f86]
            refine sg_X12_readsThing_97 (by omega) (by decide) (fun _ => by rw [T5.p, T5.l]; omega) (fun _ => T5.2.2.1 _) (fun g => absurd g (by decide)) (fun _ gx => ?_) (fun _ gx => ?_)
            · have g41 := (T5.next (by decide)).1 gx
              rw [if_pos g41] at eP
              have q5L := (lk_pos (show 0 ≤ lkA a L q5 by omega)).1
              rw [eP]
              refine ⟨_, rfl, (T5.pass q5L (by rw [T5.p])).nst, FrM.nst (F5.trans (FrM.pos PosR.up)), ⟨by rw [up2_j (by decide), up2_j (by decide)]; exact B5.1, by rw [up2_j (by decide), up2_j (by decide)]; dsimp only; omega⟩, Or.inr ⟨v, rfl, rfl, by rw [up2_same, u0]; omega, by rw [up2_j (by decide), up2_j (by decide)]; exact u1, ?_, fun x hx => by rw [up2_k (by decide), up2_k (by decide)]; exact u4' x hx⟩⟩
              rw [up2_k (by decide), up2_k (by decide), up2_j (by decide), up2_j (by decide)]
              exact u3
            · have g41 : lkA a L q5 ≠ 41 := fun o => gx ((T5.next (by decide)).2 o)
              rw [if_neg g41] at eP
              rw [eP]
              exact ⟨_, rfl, T5.stay (by rw [T5.p]; omega), F5.trans (FrM.pos PosR.up), ⟨by rw [up2_j (by decide)]; exact B5.1, by rw [up2_j (by decide)]; dsimp only; omega⟩, Or.inl ⟨rfl, rfl⟩⟩
      · rw [if_pos gz] at T3
        have g40 : lkA a L p ≠ 40 := fun o => gp ((T3.next (by decide)).2 o)
        rw [thB_not nn (by rw [← ez]; omega) (Or.inl g40)]
        exact ⟨_, rfl, T3.stay (by rw [T3.p]; omega), F3.trans (FrM.pos PosR.up), ⟨by rw [up2_j (by decide)]; omega, by rw [up2_j (by decide)]; dsimp only; omega⟩, Or.inl ⟨rfl, rfl⟩⟩
      · rw [if_neg gz] at T3
        have gl : 0 ≤ ltr (lkA a L p) := by omega
        rw [thB_let nn gl, f27]
        refine ⟨_, rfl, T3.wr, FrM.wr F3, ⟨by rw [up2_same]; omega, by rw [up2_same]; dsimp only; omega⟩, Or.inr ⟨_, rfl, rfl, by rw [up2_j (by decide), up2_k (by decide)]; exact f20, by rw [up2_same]; omega, ?_, fun x hx => by rw [up2_k (by decide), up2_j (by omega), f86]⟩⟩
        rw [show up2 (up2 m2 186 rl (1000 + z)) 169 27 (rl + 1) 169 27 = rl + 1 from up2_same _ _ _ _]
        exact ms_fact r0 (by omega) (by rw [up2_k (by decide), up2_same, ez]) ⟨gl, l8.1⟩
/-- all of it -/
theorem mt_cmL {E : Nat × (Nat → Int32)} {a : Mem} {L : Int} (hL : L ≤ 40) : ∀ (j : Nat), j ≤ 4 → ∀ (d : Nat) (p rl : Int) (m : Mem), ((16 + 4 * j : Nat) : Int) + (41 - p) ≤ d → MPre a L p rl (4 - (j : Int)) m → K_X12_readsRank E d [.ref 169, vi 0] m (MPost a L p rl (4 - (j : Int)) m (cmL (lkA a L) j p)) := by
  have step : ∀ (j : Nat) (k : Int), k = 4 - (j : Int) → j ≤ 4 → ((k = 4 ∧ cmO (lkA a L) j = none) ∨ (k < 4 ∧ ∃ g : Int → PRes, cmO (lkA a L) j = some g ∧ ∀ (d2 : Nat) (p rl : Int) (m : Mem), ((12 + 4 * j : Nat) : Int) + (41 - p) ≤ d2 → MPre a L p rl (k + 1) m → K_X12_readsRank E d2 [.ref 169, vi 0] m (MPost a L p rl (k + 1) m (g p)))) → ∀ (d : Nat) (p rl : Int) (m : Mem), ((16 + 4 * j : Nat) : Int) + (41 - p) ≤ d → MPre a L p rl k m → K_X12_readsRank E d [.ref 169, vi 0] m (MPost a L p rl k m (cmL (lkA a L) j p)) := by
    intro j k ek hj hcm d p rl m hd h
    rw [cmL_eq]
    have k0 : 0 ≤ k ∧ k ≤ 4 := by omega
    have pL := h.1.2.1
    obtain ⟨d, rfl⟩ : ∃ d' : Nat, d = d' + 1 + 1 + 1 + 1 := ⟨d - 4, by omega⟩
    have t0 : ∀ (p2 rl : Int) (m : Mem), p ≤ p2 → MPre a L p2 rl k m → K_X12_readsThing E d [.ref 169] m (MPost a L p2 rl k m (thG (lkA a L) (cmO (lkA a L) j) 41 p2)) := fun p2 rl m hp h => mt_thing (D := 12 + 4 * j) hL (by omega) k0 hcm 41 d p2 rl m (by have := h.1.2.1; omega) (by omega) h
    have t1 : ∀ (p2 rl : Int) (m : Mem), p ≤ p2 → MPre a L p2 rl k m → K_X12_readsRank E (d + 1) [.ref 169, vi (2 + 1)] m (MPost a L p2 rl k m (thG (lkA a L) (cmO (lkA a L) j) 41 p2)) := fun p2 rl m hp h => by
      refine en_X12_readsRank (sg_X12_readsRank_0 (by decide) (fun g => absurd rfl g) (fun _ => ca_X12_readsRank_6 (d2 := d) (by omega) (t0 p2 rl m hp h) (fun z m2 hz => sg_X12_readsRank_9 ?_ ⟨_, rfl, hz⟩)))
      rcases hz.2.2.2 with ⟨-, e⟩ | ⟨v, -, e, -⟩
      · exact Or.inl e
      · exact Or.inr e
    have t2 : ∀ (p2 rl : Int) (m : Mem), p ≤ p2 → MPre a L p2 rl k m → K_X12_readsRank E (d + 1 + 1) [.ref 169, vi (1 + 1)] m (MPost a L p2 rl k m (prG (lkA a L) (thG (lkA a L) (cmO (lkA a L) j) 41) p2)) := fun p2 rl m hp h => mt_rank (r := 2) (N := 41) (by omega) (by decide) (by decide) hL (fun p3 rl m hp3 h => t1 p3 rl m (by omega) h) h
    have t3 : ∀ (p2 rl : Int) (m : Mem), p ≤ p2 → MPre a L p2 rl k m → K_X12_readsRank E (d + 1 + 1 + 1) [.ref 169, vi (0 + 1)] m (MPost a L p2 rl k m (suG (lkA a L) (thG (lkA a L) (cmO (lkA a L) j) 41) p2)) := fun p2 rl m hp h => mt_rank (r := 1) (N := 41) (by omega) (by decide) (by decide) hL (fun p3 rl m hp3 h => t2 p3 rl m (by omega) h) h
    exact mt_rank (r := 0) (N := 1) (by omega) (by decide) (by decide) hL t3 h
  intro j
  induction j with
  | zero =>
    intro _
    exact step 0 _ rfl (by decide) (Or.inl ⟨by decide, rfl⟩)
  | succ j ih =>
    intro hj
    refine step (j + 1) _ rfl hj (Or.inr ⟨by omega, cmL (lkA a L) j, rfl, ?_⟩)
    have := ih (by omega)
    rw [show (4 : Int) - ((j + 1 : Nat) : Int) + 1 = 4 - (j : Int) by omega]
    intro d2 p rl m hd
    exact this d2 p rl m (by omega)
