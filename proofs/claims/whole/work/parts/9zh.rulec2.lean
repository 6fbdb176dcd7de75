/-! the rule's text: the class reads a comparison, a thing -/
theorem ct_comp {E : Nat × (Nat → Int32)} {a c : Mem} {L p ds k : Int} {y d : Nat} {th : Int → PRes} (hL : L ≤ 40) (sub : ∀ (p ds : Int) (c : Mem), CPre a L p y ds c → K_X5_readSum E d [.ref 5, .ref 1, vi k] c (CPost a L p y ds c (th p))) (h : CPre a L p y ds c) : K_X5_readComparison E (d + 1) [.ref 5, .ref 1, vi k] c (CPost a L p y ds c (bindT (lkA a L) 0 th 1 p)) := by
  obtain ⟨T, hy, h2, h3, ds0, dsp⟩ := h
  have hr : (0 : Int) = 0 ∨ (0 : Int) = 1 ∨ (0 : Int) = 2 := by decide
  refine en_X5_readComparison (sg_X5_readComparison_0 (ca_X5_readComparison_3 (by omega) (sub p ds c ⟨T, hy, h2, h3, ds0, dsp⟩) (fun z c2 hz => ?_)))
  obtain ⟨T2, F2, hz⟩ := hz
  rcases hz with ⟨e1, ez⟩ | ⟨v, e1, ez, q1, q2, S2, P2⟩
  · have eR : th p = (none, (th p).2) := Prod.ext e1 rfl
    rw [bind_no eR, ez]
    exact sg_X5_readComparison_6 (by omega) (by decide) (fun g => absurd rfl g) (fun g => absurd rfl g) (fun g => absurd rfl g) (fun g => absurd rfl g) (fun g => absurd rfl g) (fun g => absurd rfl g) (fun _ => ⟨_, rfl, T2, F2, Or.inl ⟨rfl, rfl⟩⟩)
  · have eR : th p = (some v, (th p).2) := Prod.ext e1 rfl
    rw [bind_so eR, ez]
    generalize hq : (th p).2 = q at *
    have b2 := T2.2.1
    have y5 : y ≠ 5 := (codeNot hy).1
    have y1 : y ≠ 1 := code1 hy
    have go : lookM c2 = 60 ∨ lookM c2 = 62 ∨ lookM c2 = 61 → GM E (m_X5_readComparison (d + 1)) (Pi (CPost a L p y ds c (tailG (lkA a L) 0 th 1 v q))) 43 [.ref 5, .ref 1, vi k, vi (lookM c2)] [vi k, .ref 1, .ref 5] (up2 c2 1 2 (c2 1 2 + 1)) := fun g => by
      rw [T2.look] at g ⊢
      have o0 : 0 ≤ opR 0 (lkA a L q) := by
        rcases g with g | g | g <;> rw [g] <;> decide
      have os := opR_sgn hr o0
      have qL := (lk_pos (show 0 ≤ lkA a L q by omega)).1
      have T3 : TxC a L (q + 1) (up2 c2 1 2 (c2 1 2 + 1)) := T2.pass qL (by rw [T2.p])
      have F3 : FrP y c (up2 c2 1 2 (c2 1 2 + 1)) := F2.pass
      refine ca_X5_readComparison_43 (by omega) (sub (q + 1) (c2 5 3) _ ⟨T3, hy, by rw [up2_k (by decide), F2.2.1 2 (by decide)]; exact h2, by rw [up2_k (by decide)], by omega, by omega⟩) (fun z c4 hz => ?_)
      obtain ⟨T4, F4, hz⟩ := hz
      have F4 := F3.trans F4
      have b4 := T4.2.1
      rcases hz with ⟨w1, ez⟩ | ⟨w, w1, ez, u1, u2, u3, u4⟩
      · have eR : th (q + 1) = (none, (th (q + 1)).2) := Prod.ext w1 rfl
        rw [tail_no o0 eR, ez]
        exact sg_X5_readComparison_46 (by decide) (fun _ => ⟨_, rfl, T4, F4, Or.inl ⟨rfl, rfl⟩⟩) (fun g => absurd rfl g)
      · have eR : th (q + 1) = (some w, (th (q + 1)).2) := Prod.ext w1 rfl
        rw [tail_so o0 eR, ez]
        refine sg_X5_readComparison_46 (by decide) (fun g => absurd g (by decide)) (fun _ => ?_)
        have d4 : c4 5 3 < 40 := by omega
        refine ca_X5_readComparison_54 (by omega) (ct_write (ds := c4 5 3) hy ((F4.2.1 2 (by decide)).trans h2) rfl (by omega) d4) (fun z c5 hz => ?_)
        obtain ⟨rfl, e5⟩ := hz
        have F5 : FrP y c c5 := by rw [e5]; exact FrP.wr hy F4
        have y5x : ∀ x : Int, x ≠ c4 5 3 → c5 y x = c4 y x := fun x hx => by rw [e5, up2_k y5, up2_j hx]
        have y5s : c5 y (c4 5 3) = -100 - lkA a L q := by rw [e5, up2_k y5, up2_same]
        have u4' : ∀ x : Int, x < c2 5 3 → c4 y x = c2 y x := fun x hx => (u4 x hx).trans (by rw [up2_k y1])
        have n5 : c5 5 3 = c4 5 3 + 1 := by rw [e5, up2_same]
        refine sg_X5_readComparison_57 (by decide) (fun g => absurd g (by decide)) (fun _ => ⟨_, rfl, by rw [e5]; exact T4.fr (by rw [up2_k (by decide), up2_k y1.symm]) (by rw [up2_k (by decide), up2_k (code2 hy).symm]), F5, Or.inr ⟨_, rfl, rfl, by rw [n5]; omega, by rw [n5]; dsimp only [tailG]; omega, ?_, fun x hx => by rw [y5x x (by omega), u4' x (by omega), P2 x hx]⟩⟩)
        rw [n5]
        exact cs_op ((S2.congr (fun x x0 x1 => u4' x x1)).congr (fun x x0 x1 => y5x x (by omega))) (u3.congr (fun x x0 x1 => y5x x (by omega))) d4 ⟨o0, os.1⟩ (by rw [y5s, os.2])
    refine sg_X5_readComparison_6 (by omega) (by decide) (fun _ => T2.ok) (fun _ => by have := lookM_rng2 T2.ok; omega) (fun _ g => go (Or.inl g)) (fun _ _ g => go (Or.inr (Or.inl g))) (fun _ _ _ g => go (Or.inr (Or.inr g))) (fun _ g g2 g3 => ?_) (fun g => absurd g (by decide))
    rw [T2.look] at g g2 g3
    rw [tail_end (by rw [opR_0, if_neg g, if_neg g2, if_neg g3]; decide)]
    exact ⟨_, rfl, T2, F2, Or.inr ⟨v, rfl, rfl, q1, q2, S2, P2⟩⟩
/-- a thing, behind the signs ahead of it -/
def TPost (a : Mem) (L p : Int) (y : Nat) (ds : Int) (c : Mem) (b : Int) (R : PRes) (z : Int) (c' : Mem) : Prop := TxC a L R.2 c' ∧ FrP y c c' ∧ ((R.1 = none ∧ z = 0) ∨ ∃ v : VF, R.1 = some v ∧ z = 1 ∧ ds < c' 5 3 ∧ c' 5 3 ≤ ds + (R.2 - p) ∧ CSeg (c' y) ds (c' 5 3) (if b = 1 then negF v else v) ∧ ∀ x : Int, x < ds → c' y x = c y x)
/-- what is written without the sign ahead, then with it -/
theorem ct_thing_end {E : Nat × (Nat → Int32)} {P : Option Value → Mem → Prop} {a c c2 : Mem} {L p q ds b k u : Int} {y d : Nat} {v : VF} {R : PRes} (hd : 1 ≤ d) (eR : R = (some v, q)) (hy : y ∈ codeL) (h2 : c 5 2 = ((y : Nat) : Int)) (T2 : TxC a L q c2) (hL : L ≤ 40) (F2 : FrP y c c2) (q1 : ds < c2 5 3) (ds0 : 0 ≤ ds) (dsp : ds ≤ p) (q2 : c2 5 3 ≤ ds + (q - p) - (if b = 1 then 1 else 0)) (S2 : CSeg (c2 y) ds (c2 5 3) v) (P2 : ∀ x : Int, x < ds → c2 y x = c y x) (hP : ∀ z c', TPost a L p y ds c b R z c' → P (some (vi z)) c') : (b = 0 → P (some (vi 1)) c2) ∧ (b = 1 → ∀ s : Int, GM E (m_X5_readThing d) P 127 [.ref 5, .ref 1, vi k, vi b, vi u, vi s] [vi (-20), .ref 5] c2) := by
  subst eR
  have y5 : y ≠ 5 := (codeNot hy).1
  have y1 : y ≠ 1 := code1 hy
  have b2 := T2.2.1
  refine ⟨fun b0 => ?_, fun b1 s => ?_⟩
  · subst b0
    rw [if_neg (by decide)] at q2
    exact hP 1 c2 ⟨T2, F2, Or.inr ⟨v, rfl, rfl, q1, by dsimp only; omega, by rw [if_neg (by decide)]; exact S2, P2⟩⟩
  · subst b1
    rw [if_pos rfl] at q2
    have d4 : c2 5 3 < 40 := by omega
    refine ca_X5_readThing_127 (by omega) (ct_write (ds := c2 5 3) hy ((F2.2.1 2 (by decide)).trans h2) rfl (by omega) d4) (fun z c5 hz => ?_)
    obtain ⟨rfl, e5⟩ := hz
    have F5 : FrP y c c5 := by rw [e5]; exact FrP.wr hy F2
    have y5x : ∀ x : Int, x ≠ c2 5 3 → c5 y x = c2 y x := fun x hx => by rw [e5, up2_k y5, up2_j hx]
    have y5s : c5 y (c2 5 3) = -20 := by rw [e5, up2_k y5, up2_same]
    have n5 : c5 5 3 = c2 5 3 + 1 := by rw [e5, up2_same]
    have T5 : TxC a L q c5 := by rw [e5]; exact T2.fr (by rw [up2_k (by decide), up2_k y1.symm]) (by rw [up2_k (by decide), up2_k (code2 hy).symm])
    refine sg_X5_readThing_130 (by decide) (fun g => absurd g (by decide)) (fun _ => hP 1 c5 ⟨T5, F5, Or.inr ⟨v, rfl, rfl, by rw [n5]; omega, by rw [n5]; dsimp only; omega, ?_, fun x hx => by rw [y5x x (by omega), P2 x hx]⟩⟩)
    rw [if_pos rfl, n5]
    exact cs_neg (S2.congr (fun x x0 x1 => y5x x (by omega))) d4 y5s
theorem ct_thing {E : Nat × (Nat → Int32)} {a c : Mem} {L p ds k : Int} {y d : Nat} {cm : Option (Int → PRes)} (hL : L ≤ 40) (hd : 7 ≤ d) (k0 : 0 ≤ k) (k4 : k ≤ 4) (hcm : (k = 4 ∧ cm = none) ∨ (k < 4 ∧ ∃ g : Int → PRes, cm = some g ∧ ∃ d2 : Nat, d2 + 1 ≤ d ∧ ∀ (p ds : Int) (c : Mem), CPre a L p y ds c → K_X5_readComparison E d2 [.ref 5, .ref 1, vi (k + 1)] c (CPost a L p y ds c (g p)))) (h : CPre a L p y ds c) : K_X5_readThing E d [.ref 5, .ref 1, vi k] c (CPost a L p y ds c (thG (lkA a L) cm 41 p)) := by
  obtain ⟨T, hy, h2, h3, ds0, dsp⟩ := h
  have y5 : y ≠ 5 := (codeNot hy).1
  have y1 : y ≠ 1 := code1 hy
  refine en_X5_readThing (sg_X5_readThing_0 ?_)
  have key : ∀ (n : Nat) (b i q : Int) (c2 : Mem) (P : Option Value → Mem → Prop), n + q ≥ 41 → (b = 0 ∨ b = 1) → 0 ≤ i → i ≤ q → p + (if b = 1 then 1 else 0) ≤ q → TxC a L q c2 → FrP y c c2 → c2 5 3 = ds → (∀ x : Int, c2 y x = c y x) → (∀ z c', TPost a L p y ds c b (thG (lkA a L) cm n q) z c' → P (some (vi z)) c') → GM E (m_X5_readThing d) P 5 [.ref 5, .ref 1, vi k, vi b, vi i, un] [] c2 := by
    intro n
    induction n with
    | zero =>
      intro b i q c2 P hn hb i0 iq pq T2
      have := T2.2.1
      omega
    | succ n ih =>
      intro b i q c2 P hn hb i0 iq pq T2 F2 e3 P2 hP
      have b2 := T2.2.1
      have rb : RI b := by rcases hb with rfl | rfl <;> decide
      have fail : ∀ (q2 : Int) (c' : Mem), thG (lkA a L) cm (n + 1) q = (none, q2) → TxC a L q2 c' → FrP y c c' → P (some (vi 0)) c' := fun q2 c' e t f => hP 0 c' (by rw [e]; exact ⟨t, f, Or.inl ⟨rfl, rfl⟩⟩)
      -- no further sign ahead
      have base : lkA a L q ≠ 45 → GM E (m_X5_readThing d) P 39 [.ref 5, .ref 1, vi k, vi b, vi i, un] [vi 3, .ref 1] c2 := fun g45 => by
        rw [thG_b g45] at hP fail
        refine ca_X5_readThing_39 (by omega) (ct_number T2 (by decide) (by decide)) (fun z c3 hz => ?_)
        obtain ⟨ez, T3, PS⟩ := hz
        have ez : z = (num (lkA a L) 3 q).1 := ez
        have T3 : TxC a L (num (lkA a L) 3 q).2 c3 := T3
        have F3 : FrP y c c3 := F2.trans (FrP.pos PS)
        have e33 : c3 5 3 = ds := by rw [PS.1 5 (by decide)]; exact e3
        have P3 : ∀ x : Int, c3 y x = c y x := fun x => by rw [PS.1 y y1]; exact P2 x
        have nk := num_ok (a := a) (L := L) (k := 3) (i := q) (by decide) b2.2.1
        have nk2 : (num (lkA a L) 3 q).1 + 1 ≤ 1000 := nk.2.1
        have b3 := T3.2.1
        have e52 : c3 5 2 = ((y : Nat) : Int) := (F3.2.1 2 (by decide)).trans h2
        by_cases nn : 0 ≤ (num (lkA a L) 3 q).1
        · have eB := thB_num (cm := cm) nn
          have adv : q < (num (lkA a L) 3 q).2 := by
            unfold num at nn ⊢
            split
            · rename_i gd
              rw [show (3 : Nat) = 2 + 1 from rfl, numG, if_pos gd]
              have gL := (lk_pos (show 0 ≤ lkA a L q by omega)).1
              have := numG_ok (a := a) (L := L) 2 (10 * 0 + lkA a L q - 48) (q + 1) (by omega) (by omega)
              omega
            · rename_i gd
              rw [if_neg gd] at nn
              have nn : (0 : Int) ≤ -1 := nn
              omega
          refine sg_X5_readThing_42 (by omega) (by constructor <;> omega) (fun g => by omega) (fun g => by omega) ⟨by omega, by omega⟩ (fun g => by omega) (fun g => by omega) (fun g => by omega) (fun _ => ?_)
          refine ca_X5_readThing_52 (by omega) (ct_write (ds := ds) hy e52 e33 ds0 (by omega)) (fun w c4 hw => ?_)
          obtain ⟨rfl, e4⟩ := hw
          have n4 : c4 5 3 = ds + 1 := by rw [e4, up2_same]
          have S4 : CSeg (c4 y) ds (c4 5 3) (fun _ => (num (lkA a L) 3 q).1) := by
            rw [n4]
            exact cs_num ds0 (by omega) (by rw [e4, up2_k y5, up2_same, ez]) ⟨nn, by omega⟩
          have en := ct_thing_end (E := E) (P := P) (k := k) (u := z) (d := d) (by omega) eB hy h2 (c2 := c4) (by rw [e4]; exact T3.fr (by rw [up2_k (by decide), up2_k y1.symm]) (by rw [up2_k (by decide), up2_k (code2 hy).symm])) hL (by rw [e4]; exact FrP.wr hy F3) (by rw [n4]; omega) ds0 dsp (by rw [n4]; omega) S4 (fun x hx => by rw [e4, up2_k y5, up2_j (by omega)]; exact P3 x) hP
          exact sg_X5_readThing_55 (by decide) rb (fun g => absurd g (by decide)) (fun _ g => en.1 g) (fun _ g => en.2 (by omega) 1)
        · have n1 : (num (lkA a L) 3 q) = (-1, q) := by
            unfold num at nn ⊢
            split
            · rename_i gd
              rw [if_pos gd] at nn
              have := (numG_ok (a := a) (L := L) 3 0 q (by decide) b2.2.1).1
              omega
            · rfl
          rw [n1] at ez T3
          have ez : z = -1 := ez
          have T3 : TxC a L q c3 := T3
          have let_ : (lkA a L q ≠ 40 ∨ cm = none) → GM E (m_X5_readThing d) P 110 [.ref 5, .ref 1, vi k, vi b, vi z, un] [.ref 1, .ref 5] c3 := fun g40 => by
            refine ca_X5_readThing_110 (by omega) (ct_readLetter ⟨T3, hy, e52, e33, ds0, by omega⟩ hL) (fun w c4 hw => ?_)
            obtain ⟨T4, F4, hw⟩ := hw
            have F4 := F3.trans F4
            by_cases gl : 0 ≤ ltr (lkA a L q)
            · rw [if_pos gl] at T4 hw
              rcases hw with ⟨o, -⟩ | ⟨v, ev, ew, u1, u2, u3, u4⟩
              · cases o
              · have eB := thB_let (cm := cm) nn gl
                have ev := Option.some.inj ev
                have u2 : c4 5 3 ≤ ds + (q + 1 - q) := u2
                subst ew
                have en := ct_thing_end (E := E) (P := P) (k := k) (u := z) (d := d) (by omega) eB hy h2 (c2 := c4) T4 hL F4 u1 ds0 dsp (by omega) (by rw [ev]; exact u3) (fun x hx => by rw [u4 x hx]; exact P3 x) hP
                exact sg_X5_readThing_113 (by decide) rb (fun g => absurd g (by decide)) (fun _ g => en.1 g) (fun _ g => en.2 (by omega) 1)
            · rw [if_neg gl] at T4 hw
              rcases hw with ⟨-, ew⟩ | ⟨v, ev, -⟩
              · subst ew
                exact sg_X5_readThing_113 (by decide) rb (fun _ => fail q c4 (thB_not nn gl g40) T4 F4) (fun g => absurd rfl g) (fun g => absurd rfl g)
              · cases ev
          refine sg_X5_readThing_42 (by omega) (by rw [ez]; decide) (fun _ => T3.ok) (fun _ => by have := lookM_rng2 T3.ok; omega) ⟨by omega, by omega⟩ (fun _ g => let_ (Or.inl (by rw [← T3.look]; exact g))) (fun _ _ g => let_ (Or.inr ?_)) (fun _ g g4 => ?_) (fun g => by omega)
          · rcases hcm with ⟨-, e⟩ | ⟨e, -⟩
            · exact e
            · omega
          · rcases hcm with ⟨e, -⟩ | ⟨-, gg, ecm, d2, hd2, hsub⟩
            · omega
            · rw [T3.look] at g
              have qL := (lk_pos (show 0 ≤ lkA a L q by omega)).1
              have T4 : TxC a L (q + 1) (up2 c3 1 2 (c3 1 2 + 1)) := T3.pass qL (by rw [T3.p])
              have F4 : FrP y c (up2 c3 1 2 (c3 1 2 + 1)) := F3.pass
              refine ca_X5_readThing_83 hd2 (hsub (q + 1) ds _ ⟨T4, hy, by rw [up2_k (by decide)]; exact e52, by rw [up2_k (by decide)]; exact e33, ds0, by omega⟩) (fun w c5 hw => ?_)
              obtain ⟨T5, F5, hw⟩ := hw
              have F5 := F4.trans F5
              have b5 := T5.2.1
              have eP := thB_par (g := gg) g
              rw [← ecm] at eP
              rcases hw with ⟨w1, ew⟩ | ⟨v, w1, ew, u1, u2, u3, u4⟩
              · have eR : gg (q + 1) = (none, (gg (q + 1)).2) := Prod.ext w1 rfl
                rw [eR] at eP
                subst ew
                exact sg_X5_readThing_86 (by omega) (by decide) (fun g => absurd rfl g) rb (fun _ => fail _ c5 eP T5 F5) (fun g => absurd rfl g) (fun g => absurd rfl g) (fun g => absurd rfl g)
              · have eR : gg (q + 1) = (some v, (gg (q + 1)).2) := Prod.ext w1 rfl
                rw [eR] at eP
                generalize hq5 : (gg (q + 1)).2 = q5 at *
                subst ew
                have eP : thB (lkA a L) cm q = if lkA a L q5 = 41 then (some v, q5 + 1) else (none, q5) := eP
                by_cases g41 : lkA a L q5 = 41
                · rw [if_pos g41] at eP
                  have q5L := (lk_pos (show 0 ≤ lkA a L q5 by omega)).1
                  have T6 : TxC a L (q5 + 1) (up2 c5 1 2 (c5 1 2 + 1)) := T5.pass q5L (by rw [T5.p])
                  have e5y : up2 c5 1 2 (c5 1 2 + 1) y = c5 y := up2_k y1
                  have e55 : up2 c5 1 2 (c5 1 2 + 1) 5 3 = c5 5 3 := by rw [up2_k (by decide)]
                  have en := ct_thing_end (E := E) (P := P) (k := k) (u := z) (d := d) (by omega) eP hy h2 (c2 := up2 c5 1 2 (c5 1 2 + 1)) T6 hL F5.pass (by rw [e55]; exact u1) ds0 dsp (by rw [e55]; omega) (by rw [e55, e5y]; exact u3) (fun x hx => by rw [e5y, u4 x hx, up2_k y1]; exact P3 x) hP
                  exact sg_X5_readThing_86 (by omega) (by decide) (fun _ => T5.ok) rb (fun g => absurd g (by decide)) (fun _ _ g => en.1 g) (fun _ _ g => en.2 (by omega) 1) (fun _ g => absurd (by rw [T5.look]; exact g41) g)
                · rw [if_neg g41] at eP
                  exact sg_X5_readThing_86 (by omega) (by decide) (fun _ => T5.ok) rb (fun g => absurd g (by decide)) (fun _ g => absurd (by rw [← T5.look]; exact g) g41) (fun _ g => absurd (by rw [← T5.look]; exact g) g41) (fun _ _ => fail _ c5 eP T5 F5)
      have neg : lookM c2 = 45 → ∀ b' : Int, b' = 1 - b → GM E (m_X5_readThing d) P 5 [.ref 5, .ref 1, vi k, vi b', vi (i + 1), un] [] (up2 c2 1 2 (c2 1 2 + 1)) := fun g b' eb => by
        rw [T2.look] at g
        have qL := (lk_pos (show 0 ≤ lkA a L q by omega)).1
        have T3 : TxC a L (q + 1) (up2 c2 1 2 (c2 1 2 + 1)) := T2.pass qL (by rw [T2.p])
        refine ih b' (i + 1) (q + 1) _ P (by omega) (by omega) (by omega) (by omega) (by split <;> split at pq <;> omega) T3 F2.pass (by rw [up2_k (by decide)]; exact e3) (fun x => by rw [up2_k y1]; exact P2 x) (fun z c' hz => hP z c' ?_)
        obtain ⟨t, f, hz⟩ := hz
        rw [thG_neg g]
        rcases hz with ⟨e1, ez⟩ | ⟨v, e1, ez, u1, u2, u3, u4⟩
        · have eR : thG (lkA a L) cm n (q + 1) = (none, (thG (lkA a L) cm n (q + 1)).2) := Prod.ext e1 rfl
          rw [eR]
          exact ⟨t, f, Or.inl ⟨rfl, ez⟩⟩
        · have eR : thG (lkA a L) cm n (q + 1) = (some v, (thG (lkA a L) cm n (q + 1)).2) := Prod.ext e1 rfl
          rw [eR]
          refine ⟨t, f, Or.inr ⟨negF v, rfl, ez, u1, u2, ?_, u4⟩⟩
          rcases hb with rfl | rfl
          · rw [if_neg (by decide)]
            rw [if_pos (by omega)] at u3
            exact u3
          · rw [if_pos rfl]
            rw [if_neg (by omega)] at u3
            exact u3.ext (negF_ok (negF_ok u3.1)) (fun f hf => negneg u3.1 f hf)
      refine sg_X5_readThing_5 (by omega) ⟨by omega, by omega⟩ (fun _ => T2.ok) rb (fun g => base ?_) (fun _ g g2 => neg g 0 (by omega)) (fun _ g g2 => neg g 1 (by omega)) (fun _ g => base (by rw [← T2.look]; exact g))
      rw [lk_end (by omega)]; decide
  refine key 41 0 0 p c _ (by have := T.2.1; omega) (Or.inl rfl) (by decide) (by have := T.2.1; omega) (by rw [if_neg (by decide)]; omega) T FrP.rf h3 (fun _ => rfl) (fun z c' hz => ⟨z, rfl, ?_⟩)
  obtain ⟨t, f, hz⟩ := hz
  refine ⟨t, f, hz.imp (fun h => h) (fun ⟨v, e1, ez, u1, u2, u3, u4⟩ => ⟨v, e1, ez, u1, u2, ?_, u4⟩)⟩
  rw [if_neg (by decide)] at u3
  exact u3
/-- all of it -/
theorem ct_cmL {E : Nat × (Nat → Int32)} {a : Mem} {L : Int} {y : Nat} (hL : L ≤ 40) : ∀ (j : Nat), j ≤ 4 → ∀ (p ds : Int) (c : Mem), CPre a L p y ds c → K_X5_readComparison E (10 + 4 * j) [.ref 5, .ref 1, vi (4 - (j : Int))] c (CPost a L p y ds c (cmL (lkA a L) j p)) := by
  have step : ∀ (j : Nat) (k : Int), k = 4 - (j : Int) → j ≤ 4 → ((k = 4 ∧ cmO (lkA a L) j = none) ∨ (k < 4 ∧ ∃ g : Int → PRes, cmO (lkA a L) j = some g ∧ ∃ d2 : Nat, d2 + 1 ≤ 7 + 4 * j ∧ ∀ (p ds : Int) (c : Mem), CPre a L p y ds c → K_X5_readComparison E d2 [.ref 5, .ref 1, vi (k + 1)] c (CPost a L p y ds c (g p)))) → ∀ (p ds : Int) (c : Mem), CPre a L p y ds c → K_X5_readComparison E (10 + 4 * j) [.ref 5, .ref 1, vi k] c (CPost a L p y ds c (cmL (lkA a L) j p)) := by
    intro j k ek hj hcm p ds c h
    rw [cmL_eq]
    have k0 : 0 ≤ k ∧ k ≤ 4 := by omega
    have t1 : ∀ (p ds : Int) (c : Mem), CPre a L p y ds c → K_X5_readThing E (7 + 4 * j) [.ref 5, .ref 1, vi k] c (CPost a L p y ds c (thG (lkA a L) (cmO (lkA a L) j) 41 p)) := fun p ds c h => ct_thing hL (by omega) k0.1 k0.2 hcm h
    have t2 : ∀ (p ds : Int) (c : Mem), CPre a L p y ds c → K_X5_readProduct E (7 + 4 * j + 1) [.ref 5, .ref 1, vi k] c (CPost a L p y ds c (prG (lkA a L) (thG (lkA a L) (cmO (lkA a L) j) 41) p)) := fun p ds c h => ct_product hL k0 t1 h
    have t3 : ∀ (p ds : Int) (c : Mem), CPre a L p y ds c → K_X5_readSum E (7 + 4 * j + 1 + 1) [.ref 5, .ref 1, vi k] c (CPost a L p y ds c (suG (lkA a L) (thG (lkA a L) (cmO (lkA a L) j) 41) p)) := fun p ds c h => ct_sum hL k0 t2 h
    have := ct_comp hL t3 h
    rw [show 7 + 4 * j + 1 + 1 + 1 = 10 + 4 * j by omega] at this
    exact this
  intro j
  induction j with
  | zero =>
    intro _
    exact step 0 _ rfl (by decide) (Or.inl ⟨by decide, rfl⟩)
  | succ j ih =>
    intro hj
    refine step (j + 1) _ rfl hj (Or.inr ⟨by omega, cmL (lkA a L) j, rfl, 10 + 4 * j, by omega, ?_⟩)
    have := ih (by omega)
    rw [show (4 : Int) - ((j + 1 : Nat) : Int) + 1 = 4 - (j : Int) by omega]
    exact this
