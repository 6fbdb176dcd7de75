/-! the rule's text: the class reads -/
def FrP (y : Nat) (c c' : Mem) : Prop := (∀ k, k ≠ 1 → k ≠ 5 → k ≠ y → c' k = c k) ∧ (∀ j : Int, j ≠ 3 → c' 5 j = c 5 j) ∧ ∀ j : Int, j ≠ 2 → c' 1 j = c 1 j
theorem code1 {y : Nat} (h : y ∈ codeL) : y ≠ 1 := by
  rcases List.mem_cons.1 h with rfl | h
  · decide
  · rcases List.mem_cons.1 h with rfl | h
    · decide
    · cases h
theorem code2 {y : Nat} (h : y ∈ codeL) : y ≠ 2 := by
  rcases List.mem_cons.1 h with rfl | h
  · decide
  · rcases List.mem_cons.1 h with rfl | h
    · decide
    · cases h
theorem FrP.rf {y : Nat} {c : Mem} : FrP y c c := ⟨fun _ _ _ _ => rfl, fun _ _ => rfl, fun _ _ => rfl⟩
theorem FrP.trans {y : Nat} {a b d : Mem} (h : FrP y a b) (g : FrP y b d) : FrP y a d := ⟨fun k k1 k2 k3 => (g.1 k k1 k2 k3).trans (h.1 k k1 k2 k3), fun j hj => (g.2.1 j hj).trans (h.2.1 j hj), fun j hj => (g.2.2 j hj).trans (h.2.2 j hj)⟩
theorem FrP.pos {y : Nat} {c c' : Mem} (h : PosC c c') : FrP y c c' := ⟨fun k k1 _ _ => h.1 k k1, fun j _ => by rw [h.1 5 (by decide)], h.2⟩
theorem FrP.pass {y : Nat} {c c' : Mem} {z : Int} (h : FrP y c c') : FrP y c (up2 c' 1 2 z) := h.trans (FrP.pos PosC.up)
theorem FrP.wr {y : Nat} {c c' : Mem} {x w z : Int} (hy : y ∈ codeL) (h : FrP y c c') : FrP y c (up2 (up2 c' y x w) 5 3 z) :=
  ⟨fun k k1 k2 k3 => by rw [up2_k k2, up2_k k3]; exact h.1 k k1 k2 k3, fun j hj => by rw [up2_j hj, up2_k (codeNot hy).1.symm]; exact h.2.1 j hj, fun j hj => by rw [up2_k (by decide), up2_k (code1 hy).symm]; exact h.2.2 j hj⟩
def CPre (a : Mem) (L p : Int) (y : Nat) (ds : Int) (c : Mem) : Prop := TxC a L p c ∧ y ∈ codeL ∧ c 5 2 = ((y : Nat) : Int) ∧ c 5 3 = ds ∧ 0 ≤ ds ∧ ds ≤ p
def CPost (a : Mem) (L p : Int) (y : Nat) (ds : Int) (c : Mem) (R : PRes) (z : Int) (c' : Mem) : Prop := TxC a L R.2 c' ∧ FrP y c c' ∧ ((R.1 = none ∧ z = 0) ∨ ∃ v : VF, R.1 = some v ∧ z = 1 ∧ ds < c' 5 3 ∧ c' 5 3 ≤ ds + (R.2 - p) ∧ CSeg (c' y) ds (c' 5 3) v ∧ ∀ x : Int, x < ds → c' y x = c y x)
theorem ct_write {E : Nat × (Nat → Int32)} {c : Mem} {y : Nat} {ds x : Int} (hy : y ∈ codeL) (h2 : c 5 2 = ((y : Nat) : Int)) (h3 : c 5 3 = ds) (d0 : 0 ≤ ds) (d1 : ds < 40) : K_X5_write E [.ref 5, vi x] c (fun z c' => z = 1 ∧ c' = up2 (up2 c y ds x) 5 3 (ds + 1)) := by
  refine en_X5_write (sg_X5_write_0 (y1 := y) (y2 := y) h2 hy (by omega) (fun _ => h2) (fun _ => hy) (fun _ => by omega) (fun _ => ⟨_, rfl, rfl, ?_⟩) (fun g => by omega))
  rw [h3, up2_k (codeNot hy).1.symm, h3]
theorem charI_8 {c : Int} (h0 : 0 ≤ c) (h1 : c < 256) : charI c = c := by
  obtain ⟨n, rfl⟩ := Int.eq_ofNat_of_zero_le h0
  have hn : n < 256 := by omega
  exact (by decide +kernel : ∀ n : Nat, n < 256 → charI (n : Int) = (n : Int)) n hn
theorem ct_readLetter {E : Nat × (Nat → Int32)} {a c : Mem} {L p ds : Int} {y : Nat} (h : CPre a L p y ds c) (hL : L ≤ 40) : K_X5_readLetter E [.ref 5, .ref 1] c (CPost a L p y ds c (if 0 ≤ ltr (lkA a L p) then (some (fun f => f (ltr (lkA a L p))), p + 1) else (none, p))) := by
  obtain ⟨T, hy, h2, h3, ds0, dsp⟩ := h
  have rk := T.rng
  refine en_X5_readLetter (sg_X5_readLetter_0 T.ok (by have := lookM_rng2 T.ok; omega) (fun g => ?_) (fun g => ?_))
  · rw [T.look] at g ⊢
    rw [charI_8 g rk.2]
    have pL := (lk_pos g).1
    refine ca_X5_readLetter_17 (b := 0) (by decide) (js_indexOf (i := 0) (by decide) ⟨by omega, by omega⟩) (fun z c1 hz => ?_)
    obtain ⟨ez, rfl⟩ := hz
    have ez := six0 ez
    have l8 : ltr (lkA a L p) < 8 ∧ -1 ≤ ltr (lkA a L p) := by
      unfold ltr
      split
      · decide
      split
      · decide
      split
      · decide
      split
      · decide
      split
      · decide
      split
      · decide
      split
      · decide
      split <;> decide
    refine sg_X5_readLetter_20 (by rw [ez]; constructor <;> omega) (fun g2 => ?_) (fun g2 => ?_)
    · rw [ez] at g2 ⊢
      rw [if_pos g2]
      have T2 : TxC a L (p + 1) (up2 c1 1 2 (c1 1 2 + 1)) := T.pass pL (by rw [T.p])
      refine ca_X5_readLetter_35 (ct_write (ds := ds) hy (by rw [up2_k (by decide)]; exact h2) (by rw [up2_k (by decide)]; exact h3) ds0 (by omega)) (fun z c2 hz => ?_)
      obtain ⟨rfl, e2⟩ := hz
      refine sg_X5_readLetter_38 (Or.inr rfl) ⟨_, rfl, ?_, ?_, Or.inr ⟨_, rfl, rfl, ?_, ?_, ?_, ?_⟩⟩
      · rw [e2]; exact T2.fr (by rw [up2_k (by decide), up2_k (code1 hy).symm]) (by rw [up2_k (by decide), up2_k (code2 hy).symm])
      · rw [e2]; exact FrP.wr hy FrP.rf.pass
      · rw [e2, up2_same]; omega
      · rw [e2, up2_same]; dsimp only; omega
      · rw [e2, up2_same]
        exact cs_fact ds0 (by omega) (by rw [up2_k (codeNot hy).1, up2_same]) ⟨g2, l8.1⟩
      · intro x hx
        rw [e2, up2_k (codeNot hy).1, up2_j (by omega), up2_k (code1 hy)]
    · rw [ez] at g2
      rw [if_neg g2]
      exact ⟨_, rfl, T, FrP.rf, Or.inl ⟨rfl, rfl⟩⟩
  · rw [T.look] at g
    have e : lkA a L p = -1 := by omega
    rw [if_neg (by rw [e]; decide)]
    exact ⟨_, rfl, T, FrP.rf, Or.inl ⟨rfl, rfl⟩⟩
theorem ct_product {E : Nat × (Nat → Int32)} {a c : Mem} {L p ds k : Int} {y d : Nat} {th : Int → PRes} (hL : L ≤ 40) (k0 : 0 ≤ k ∧ k ≤ 4) (sub : ∀ (p ds : Int) (c : Mem), CPre a L p y ds c → K_X5_readThing E d [.ref 5, .ref 1, vi k] c (CPost a L p y ds c (th p))) (h : CPre a L p y ds c) : K_X5_readProduct E (d + 1) [.ref 5, .ref 1, vi k] c (CPost a L p y ds c (bindT (lkA a L) 2 th 41 p)) := by
  obtain ⟨T, hy, h2, h3, ds0, dsp⟩ := h
  have hr : (2 : Int) = 0 ∨ (2 : Int) = 1 ∨ (2 : Int) = 2 := by decide
  have b0 := T.2.1
  refine en_X5_readProduct (sg_X5_readProduct_0 (ca_X5_readProduct_3 (by omega) (sub p ds c ⟨T, hy, h2, h3, ds0, dsp⟩) (fun z c1 hz => sg_X5_readProduct_6 ?_)))
  obtain ⟨T1, F1, hz⟩ := hz
  rcases hz with ⟨e1, ez⟩ | ⟨v, e1, ez, g1, g2, g3, g4⟩
  · have eR : th p = (none, (th p).2) := Prod.ext e1 rfl
    rw [bind_no eR, ez]
    exact sg_X5_readProduct_10 (by omega) (by decide) (fun _ => Or.inl rfl) (by decide) (fun _ _ => Or.inl rfl) (fun _ g => absurd rfl g) (fun _ g => absurd rfl g) (fun g => absurd g (by decide)) (fun _ _ => ⟨_, rfl, T1, F1, Or.inl ⟨rfl, rfl⟩⟩) (fun _ g => absurd rfl g) (fun _ g => absurd rfl g) (fun _ g => absurd rfl g)
  · have eR : th p = (some v, (th p).2) := Prod.ext e1 rfl
    rw [bind_so eR, ez]
    have key : ∀ (n : Nat) (i q ds2 : Int) (v : VF) (c2 : Mem), n + q ≥ 41 → 0 ≤ i → i ≤ q → TxC a L q c2 → FrP y c c2 → c2 5 3 = ds2 → ds < ds2 → ds2 ≤ ds + (q - p) → CSeg (c2 y) ds ds2 v → (∀ x : Int, x < ds → c2 y x = c y x) → GM E (m_X5_readProduct (d + 1)) (Pi (CPost a L p y ds c (tailG (lkA a L) 2 th n v q))) 10 [.ref 5, .ref 1, vi k, vi 1, vi i, un] [] c2 := by
      intro n
      induction n with
      | zero =>
        intro i q ds2 v c2 hn i0 iq T2
        have := T2.2.1
        omega
      | succ n ih =>
        intro i q ds2 v c2 hn i0 iq T2 F2 e3 q1 q2 S2 P2
        have b2 := T2.2.1
        have y5 : y ≠ 5 := (codeNot hy).1
        have y1 : y ≠ 1 := code1 hy
        have stop : opR 2 (lkA a L q) < 0 → CPost a L p y ds c (tailG (lkA a L) 2 th (n + 1) v q) 1 c2 := fun g => by
          rw [tail_end (by omega)]
          exact ⟨T2, F2, Or.inr ⟨v, rfl, rfl, by rw [e3]; exact q1, by rw [e3]; exact q2, by rw [e3]; exact S2, P2⟩⟩
        have go : lookM c2 = 42 ∨ lookM c2 = 47 → GM E (m_X5_readProduct (d + 1)) (Pi (CPost a L p y ds c (tailG (lkA a L) 2 th (n + 1) v q))) 50 [.ref 5, .ref 1, vi k, vi 1, vi i, vi (lookM c2)] [vi k, .ref 1, .ref 5] (up2 c2 1 2 (c2 1 2 + 1)) := fun g => by
          rw [T2.look] at g ⊢
          have o0 : 0 ≤ opR 2 (lkA a L q) := by
            rcases g with g | g <;> rw [g] <;> decide
          have os := opR_sgn hr o0
          have qL := (lk_pos (show 0 ≤ lkA a L q by omega)).1
          have T3 : TxC a L (q + 1) (up2 c2 1 2 (c2 1 2 + 1)) := T2.pass qL (by rw [T2.p])
          have F3 : FrP y c (up2 c2 1 2 (c2 1 2 + 1)) := F2.pass
          refine ca_X5_readProduct_50 (by omega) (sub (q + 1) ds2 _ ⟨T3, hy, by rw [up2_k (by decide), F2.2.1 2 (by decide)]; exact h2, by rw [up2_k (by decide)]; exact e3, by omega, by omega⟩) (fun z c4 hz => ?_)
          obtain ⟨T4, F4, hz⟩ := hz
          have F4 := F3.trans F4
          have b4 := T4.2.1
          rcases hz with ⟨w1, ez⟩ | ⟨w, w1, ez, u1, u2, u3, u4⟩
          · have eR : th (q + 1) = (none, (th (q + 1)).2) := Prod.ext w1 rfl
            rw [tail_no o0 eR, ez]
            refine sg_X5_readProduct_53 (by decide) (fun _ => ?_) (fun g => absurd rfl g)
            have fin : (Pi (CPost a L p y ds c ((none : Option VF), (th (q + 1)).2))) (some (vi 0)) c4 := ⟨_, rfl, T4, F4, Or.inl ⟨rfl, rfl⟩⟩
            exact sg_X5_readProduct_10 (by omega) ⟨by omega, by omega⟩ (fun _ => Or.inl rfl) (by decide) (fun _ _ => Or.inl rfl) (fun _ g => absurd rfl g) (fun _ g => absurd rfl g) (fun _ => fin) (fun _ _ => fin) (fun _ g => absurd rfl g) (fun _ g => absurd rfl g) (fun _ g => absurd rfl g)
          · have eR : th (q + 1) = (some w, (th (q + 1)).2) := Prod.ext w1 rfl
            rw [tail_so o0 eR, ez]
            refine sg_X5_readProduct_53 (by decide) (fun g => absurd g (by decide)) (fun _ => ?_)
            have d4 : c4 5 3 < 40 := by omega
            refine ca_X5_readProduct_62 (by omega) (ct_write (ds := c4 5 3) hy ((F4.2.1 2 (by decide)).trans h2) rfl (by omega) d4) (fun z c5 hz => ?_)
            obtain ⟨rfl, e5⟩ := hz
            refine sg_X5_readProduct_65 (by decide) (fun g => absurd g (by decide)) (fun _ => ?_)
            have F5 : FrP y c c5 := by rw [e5]; exact FrP.wr hy F4
            have y5x : ∀ x : Int, x ≠ c4 5 3 → c5 y x = c4 y x := fun x hx => by rw [e5, up2_k y5, up2_j hx]
            have y5s : c5 y (c4 5 3) = -100 - lkA a L q := by rw [e5, up2_k y5, up2_same]
            have u4' : ∀ x : Int, x < ds2 → c4 y x = c2 y x := fun x hx => (u4 x hx).trans (by rw [up2_k y1])
            refine ih (i + 1) (th (q + 1)).2 (c4 5 3 + 1) _ c5 (by omega) (by omega) (by omega) (by rw [e5]; exact T4.fr (by rw [up2_k (by decide), up2_k y1.symm]) (by rw [up2_k (by decide), up2_k (code2 hy).symm])) F5 (by rw [e5, up2_same]) (by omega) (by omega) ?_ (fun x hx => by rw [y5x x (by omega), u4' x (by omega), P2 x hx])
            exact cs_op ((S2.congr (fun x x0 x1 => u4' x x1)).congr (fun x x0 x1 => y5x x (by omega))) (u3.congr (fun x x0 x1 => y5x x (by omega))) d4 ⟨o0, os.1⟩ (by rw [y5s, os.2])
        refine sg_X5_readProduct_10 (by omega) ⟨by omega, by omega⟩ (fun _ => Or.inr rfl) (by decide) (fun _ _ => Or.inr rfl) (fun _ _ => T2.ok) (fun _ _ => by have := lookM_rng2 T2.ok; omega) (fun g => ⟨_, rfl, stop ?_⟩) (fun _ g => absurd g (by decide)) (fun _ _ g => go (Or.inl g)) (fun _ _ _ g => go (Or.inr g)) (fun _ _ g g2 => ⟨_, rfl, stop ?_⟩)
        · rw [lk_end (by omega), opR_end hr]; decide
        · rw [T2.look] at g g2
          rw [opR_2, if_neg g, if_neg g2]; decide
    have b1 := T1.2.1
    exact key 41 0 (th p).2 (c1 5 3) v c1 (by omega) (by decide) (by omega) T1 F1 rfl g1 g2 g3 g4
theorem ct_sum {E : Nat × (Nat → Int32)} {a c : Mem} {L p ds k : Int} {y d : Nat} {th : Int → PRes} (hL : L ≤ 40) (k0 : 0 ≤ k ∧ k ≤ 4) (sub : ∀ (p ds : Int) (c : Mem), CPre a L p y ds c → K_X5_readProduct E d [.ref 5, .ref 1, vi k] c (CPost a L p y ds c (th p))) (h : CPre a L p y ds c) : K_X5_readSum E (d + 1) [.ref 5, .ref 1, vi k] c (CPost a L p y ds c (bindT (lkA a L) 1 th 41 p)) := by
  obtain ⟨T, hy, h2, h3, ds0, dsp⟩ := h
  have hr : (1 : Int) = 0 ∨ (1 : Int) = 1 ∨ (1 : Int) = 2 := by decide
  have b0 := T.2.1
  refine en_X5_readSum (sg_X5_readSum_0 (ca_X5_readSum_3 (by omega) (sub p ds c ⟨T, hy, h2, h3, ds0, dsp⟩) (fun z c1 hz => sg_X5_readSum_6 ?_)))
  obtain ⟨T1, F1, hz⟩ := hz
  rcases hz with ⟨e1, ez⟩ | ⟨v, e1, ez, g1, g2, g3, g4⟩
  · have eR : th p = (none, (th p).2) := Prod.ext e1 rfl
    rw [bind_no eR, ez]
    exact sg_X5_readSum_10 (by omega) (by decide) (fun _ => Or.inl rfl) (by decide) (fun _ _ => Or.inl rfl) (fun _ g => absurd rfl g) (fun _ g => absurd rfl g) (fun g => absurd g (by decide)) (fun _ _ => ⟨_, rfl, T1, F1, Or.inl ⟨rfl, rfl⟩⟩) (fun _ g => absurd rfl g) (fun _ g => absurd rfl g) (fun _ g => absurd rfl g)
  · have eR : th p = (some v, (th p).2) := Prod.ext e1 rfl
    rw [bind_so eR, ez]
    have key : ∀ (n : Nat) (i q ds2 : Int) (v : VF) (c2 : Mem), n + q ≥ 41 → 0 ≤ i → i ≤ q → TxC a L q c2 → FrP y c c2 → c2 5 3 = ds2 → ds < ds2 → ds2 ≤ ds + (q - p) → CSeg (c2 y) ds ds2 v → (∀ x : Int, x < ds → c2 y x = c y x) → GM E (m_X5_readSum (d + 1)) (Pi (CPost a L p y ds c (tailG (lkA a L) 1 th n v q))) 10 [.ref 5, .ref 1, vi k, vi 1, vi i, un] [] c2 := by
      intro n
      induction n with
      | zero =>
        intro i q ds2 v c2 hn i0 iq T2
        have := T2.2.1
        omega
      | succ n ih =>
        intro i q ds2 v c2 hn i0 iq T2 F2 e3 q1 q2 S2 P2
        have b2 := T2.2.1
        have y5 : y ≠ 5 := (codeNot hy).1
        have y1 : y ≠ 1 := code1 hy
        have stop : opR 1 (lkA a L q) < 0 → CPost a L p y ds c (tailG (lkA a L) 1 th (n + 1) v q) 1 c2 := fun g => by
          rw [tail_end (by omega)]
          exact ⟨T2, F2, Or.inr ⟨v, rfl, rfl, by rw [e3]; exact q1, by rw [e3]; exact q2, by rw [e3]; exact S2, P2⟩⟩
        have go : lookM c2 = 43 ∨ lookM c2 = 45 → GM E (m_X5_readSum (d + 1)) (Pi (CPost a L p y ds c (tailG (lkA a L) 1 th (n + 1) v q))) 50 [.ref 5, .ref 1, vi k, vi 1, vi i, vi (lookM c2)] [vi k, .ref 1, .ref 5] (up2 c2 1 2 (c2 1 2 + 1)) := fun g => by
          rw [T2.look] at g ⊢
          have o0 : 0 ≤ opR 1 (lkA a L q) := by
            rcases g with g | g <;> rw [g] <;> decide
          have os := opR_sgn hr o0
          have qL := (lk_pos (show 0 ≤ lkA a L q by omega)).1
          have T3 : TxC a L (q + 1) (up2 c2 1 2 (c2 1 2 + 1)) := T2.pass qL (by rw [T2.p])
          have F3 : FrP y c (up2 c2 1 2 (c2 1 2 + 1)) := F2.pass
          refine ca_X5_readSum_50 (by omega) (sub (q + 1) ds2 _ ⟨T3, hy, by rw [up2_k (by decide), F2.2.1 2 (by decide)]; exact h2, by rw [up2_k (by decide)]; exact e3, by omega, by omega⟩) (fun z c4 hz => ?_)
          obtain ⟨T4, F4, hz⟩ := hz
          have F4 := F3.trans F4
          have b4 := T4.2.1
          rcases hz with ⟨w1, ez⟩ | ⟨w, w1, ez, u1, u2, u3, u4⟩
          · have eR : th (q + 1) = (none, (th (q + 1)).2) := Prod.ext w1 rfl
            rw [tail_no o0 eR, ez]
            refine sg_X5_readSum_53 (by decide) (fun _ => ?_) (fun g => absurd rfl g)
            have fin : (Pi (CPost a L p y ds c ((none : Option VF), (th (q + 1)).2))) (some (vi 0)) c4 := ⟨_, rfl, T4, F4, Or.inl ⟨rfl, rfl⟩⟩
            exact sg_X5_readSum_10 (by omega) ⟨by omega, by omega⟩ (fun _ => Or.inl rfl) (by decide) (fun _ _ => Or.inl rfl) (fun _ g => absurd rfl g) (fun _ g => absurd rfl g) (fun _ => fin) (fun _ _ => fin) (fun _ g => absurd rfl g) (fun _ g => absurd rfl g) (fun _ g => absurd rfl g)
          · have eR : th (q + 1) = (some w, (th (q + 1)).2) := Prod.ext w1 rfl
            rw [tail_so o0 eR, ez]
            refine sg_X5_readSum_53 (by decide) (fun g => absurd g (by decide)) (fun _ => ?_)
            have d4 : c4 5 3 < 40 := by omega
            refine ca_X5_readSum_62 (by omega) (ct_write (ds := c4 5 3) hy ((F4.2.1 2 (by decide)).trans h2) rfl (by omega) d4) (fun z c5 hz => ?_)
            obtain ⟨rfl, e5⟩ := hz
            refine sg_X5_readSum_65 (by decide) (fun g => absurd g (by decide)) (fun _ => ?_)
            have F5 : FrP y c c5 := by rw [e5]; exact FrP.wr hy F4
            have y5x : ∀ x : Int, x ≠ c4 5 3 → c5 y x = c4 y x := fun x hx => by rw [e5, up2_k y5, up2_j hx]
            have y5s : c5 y (c4 5 3) = -100 - lkA a L q := by rw [e5, up2_k y5, up2_same]
            have u4' : ∀ x : Int, x < ds2 → c4 y x = c2 y x := fun x hx => (u4 x hx).trans (by rw [up2_k y1])
            refine ih (i + 1) (th (q + 1)).2 (c4 5 3 + 1) _ c5 (by omega) (by omega) (by omega) (by rw [e5]; exact T4.fr (by rw [up2_k (by decide), up2_k y1.symm]) (by rw [up2_k (by decide), up2_k (code2 hy).symm])) F5 (by rw [e5, up2_same]) (by omega) (by omega) ?_ (fun x hx => by rw [y5x x (by omega), u4' x (by omega), P2 x hx])
            exact cs_op ((S2.congr (fun x x0 x1 => u4' x x1)).congr (fun x x0 x1 => y5x x (by omega))) (u3.congr (fun x x0 x1 => y5x x (by omega))) d4 ⟨o0, os.1⟩ (by rw [y5s, os.2])
        refine sg_X5_readSum_10 (by omega) ⟨by omega, by omega⟩ (fun _ => Or.inr rfl) (by decide) (fun _ _ => Or.inr rfl) (fun _ _ => T2.ok) (fun _ _ => by have := lookM_rng2 T2.ok; omega) (fun g => ⟨_, rfl, stop ?_⟩) (fun _ g => absurd g (by decide)) (fun _ _ g => go (Or.inl g)) (fun _ _ _ g => go (Or.inr g)) (fun _ _ g g2 => ⟨_, rfl, stop ?_⟩)
        · rw [lk_end (by omega), opR_end hr]; decide
        · rw [T2.look] at g g2
          rw [opR_1, if_neg g, if_neg g2]; decide
    have b1 := T1.2.1
    exact key 41 0 (th p).2 (c1 5 3) v c1 (by omega) (by decide) (by omega) T1 F1 rfl g1 g2 g3 g4
