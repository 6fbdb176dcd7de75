/-! reading a text, both sides -/
def lkA (a : Mem) (L : Int) : Int → Int := fun i => if i < L then a 182 i else -1
def TxC (a : Mem) (L p : Int) (c : Mem) : Prop := (c 1 1 = a 169 17 ∧ c 1 2 = p ∧ c 1 3 = L) ∧ (0 ≤ p ∧ p ≤ L ∧ L ≤ a 169 17 ∧ a 169 17 ≤ 80) ∧ (∀ j : Int, 0 ≤ j → j < a 169 17 → c 2 j = a 182 j) ∧ ∀ j : Int, 0 ≤ j → j < 80 → 0 ≤ c 2 j ∧ c 2 j < 256
def TxR (a : Mem) (L p : Int) (m : Mem) : Prop := (m 169 18 = p ∧ m 169 19 = L) ∧ (0 ≤ p ∧ p ≤ L ∧ L ≤ 80) ∧ (∀ j : Int, RI (m 182 j)) ∧ ∀ j : Int, 0 ≤ j → j < L → m 182 j = a 182 j ∧ 0 ≤ a 182 j ∧ a 182 j < 256
def PosC (c c' : Mem) : Prop := (∀ k, k ≠ 1 → c' k = c k) ∧ ∀ j : Int, j ≠ 2 → c' 1 j = c 1 j
def PosR (m m' : Mem) : Prop := (∀ k, k ≠ 169 → m' k = m k) ∧ ∀ j : Int, j ≠ 18 → m' 169 j = m 169 j
theorem PosC.rf {c : Mem} : PosC c c := ⟨fun _ _ => rfl, fun _ _ => rfl⟩
theorem PosC.trans {a b d : Mem} (h : PosC a b) (g : PosC b d) : PosC a d := ⟨fun k hk => (g.1 k hk).trans (h.1 k hk), fun j hj => (g.2 j hj).trans (h.2 j hj)⟩
theorem PosC.up {c : Mem} {z : Int} : PosC c (up2 c 1 2 z) := ⟨fun k hk => up2_k hk, fun j hj => up2_j hj⟩
theorem PosR.rf {m : Mem} : PosR m m := ⟨fun _ _ => rfl, fun _ _ => rfl⟩
theorem PosR.trans {a b d : Mem} (h : PosR a b) (g : PosR b d) : PosR a d := ⟨fun k hk => (g.1 k hk).trans (h.1 k hk), fun j hj => (g.2 j hj).trans (h.2 j hj)⟩
theorem PosR.up {m : Mem} {z : Int} : PosR m (up2 m 169 18 z) := ⟨fun k hk => up2_k hk, fun j hj => up2_j hj⟩
theorem lk_pos {a : Mem} {L p : Int} (h : 0 ≤ lkA a L p) : p < L ∧ lkA a L p = a 182 p := by
  unfold lkA at h ⊢
  split
  · rename_i g; exact ⟨g, rfl⟩
  · rename_i g; rw [if_neg g] at h; omega
theorem lk_end {a : Mem} {L p : Int} (h : L ≤ p) : lkA a L p = -1 := if_neg (by omega)
theorem TxC.ok {a c : Mem} {L p : Int} (h : TxC a L p c) : TextOK c := by
  obtain ⟨⟨h1, h2, h3⟩, ⟨h4, h5, h6, h7⟩, h8, h9⟩ := h
  exact ⟨by omega, by omega, by omega, by omega, by omega, by omega, h9⟩
theorem TxC.look {a c : Mem} {L p : Int} (h : TxC a L p c) : lookM c = lkA a L p := by
  obtain ⟨⟨h1, h2, h3⟩, ⟨h4, h5, h6, h7⟩, h8, h9⟩ := h
  unfold lookM lkA
  rw [h2, h3]
  by_cases g : p < L
  · rw [if_pos ⟨by omega, g, by omega⟩, if_pos g]
    exact h8 p h4 (by omega)
  · rw [if_neg (fun o => g o.2.1), if_neg g]
theorem TxC.rng {a c : Mem} {L p : Int} (h : TxC a L p c) : -1 ≤ lkA a L p ∧ lkA a L p < 256 := by rw [← h.look]; exact lookM_rng2 h.ok
theorem TxC.fr {a c c' : Mem} {L p : Int} (h : TxC a L p c) (e1 : c' 1 = c 1) (e2 : c' 2 = c 2) : TxC a L p c' := by unfold TxC; rw [e1, e2]; exact h
theorem TxC.pass {a c : Mem} {L p z : Int} (h : TxC a L p c) (hp : p < L) (hz : z = p + 1) : TxC a L (p + 1) (up2 c 1 2 z) := by
  obtain ⟨⟨h1, h2, h3⟩, ⟨h4, h5, h6, h7⟩, h8, h9⟩ := h
  subst hz
  refine ⟨⟨by rw [up2_j (by decide)]; exact h1, up2_same _ _ _ _, by rw [up2_j (by decide)]; exact h3⟩, ⟨by omega, by omega, h6, h7⟩, ?_, ?_⟩
  · rw [up2_k (by decide)]; exact h8
  · rw [up2_k (by decide)]; exact h9
theorem TxC.p {a c : Mem} {L p : Int} (h : TxC a L p c) : c 1 2 = p := h.1.2.1
theorem TxR.p {a m : Mem} {L p : Int} (h : TxR a L p m) : m 169 18 = p := h.1.1
theorem TxR.l {a m : Mem} {L p : Int} (h : TxR a L p m) : m 169 19 = L := h.1.2
theorem TxR.at {a m : Mem} {L p : Int} (h : TxR a L p m) (g : p < L) : m 182 p = lkA a L p := by
  rw [(h.2.2.2 p h.2.1.1 g).1]
  unfold lkA
  rw [if_pos g]
theorem TxR.rng {a m : Mem} {L p : Int} (h : TxR a L p m) : -1 ≤ lkA a L p ∧ lkA a L p < 256 := by
  unfold lkA
  split
  · rename_i g
    have := (h.2.2.2 p h.2.1.1 g).2
    omega
  · omega
theorem TxR.fr {a m m' : Mem} {L p : Int} (h : TxR a L p m) (e1 : m' 169 18 = m 169 18) (e2 : m' 169 19 = m 169 19) (e3 : m' 182 = m 182) : TxR a L p m' := by unfold TxR; rw [e1, e2, e3]; exact h
theorem TxR.pass {a m : Mem} {L p z : Int} (h : TxR a L p m) (hp : p < L) (hz : z = p + 1) : TxR a L (p + 1) (up2 m 169 18 z) := by
  obtain ⟨⟨h1, h2⟩, ⟨h3, h4, h5⟩, h6, h7⟩ := h
  subst hz
  refine ⟨⟨up2_same _ _ _ _, by rw [up2_j (by decide)]; exact h2⟩, ⟨by omega, by omega, h5⟩, ?_, ?_⟩
  · rw [up2_k (by decide)]; exact h6
  · rw [up2_k (by decide)]; exact h7
theorem TxR.stay {a m : Mem} {L p z : Int} (h : TxR a L p m) (hz : z = p) : TxR a L p (up2 m 169 18 z) := by
  obtain ⟨⟨h1, h2⟩, ⟨h3, h4, h5⟩, h6, h7⟩ := h
  subst hz
  refine ⟨⟨up2_same _ _ _ _, by rw [up2_j (by decide)]; exact h2⟩, ⟨by omega, by omega, h5⟩, ?_, ?_⟩
  · rw [up2_k (by decide)]; exact h6
  · rw [up2_k (by decide)]; exact h7
theorem TxR.next {a m : Mem} {L p c : Int} (h : TxR a L p m) (hc : 0 ≤ c) : (m 169 18 < m 169 19 ∧ m 182 (m 169 18) = c) ↔ lkA a L p = c := by
  rw [h.p, h.l]
  constructor
  · rintro ⟨g1, g2⟩
    rw [← h.at g1]; exact g2
  · intro g
    have g1 := (lk_pos (show 0 ≤ lkA a L p by omega)).1
    exact ⟨g1, by rw [h.at g1]; exact g⟩
theorem TxR.dig {a m : Mem} {L p : Int} (h : TxR a L p m) : (m 169 18 < m 169 19 ∧ 48 ≤ m 182 (m 169 18) ∧ m 182 (m 169 18) ≤ 57) ↔ (48 ≤ lkA a L p ∧ lkA a L p ≤ 57) := by
  rw [h.p, h.l]
  constructor
  · rintro ⟨g1, g2⟩
    rw [← h.at g1]; exact g2
  · intro g
    have g1 := (lk_pos (show 0 ≤ lkA a L p by omega)).1
    exact ⟨g1, by rw [h.at g1]; exact g⟩
/-! numbers -/
def numG (lk : Int → Int) : Nat → Int → Int → Int × Int
  | 0, acc, i => (acc, i)
  | k + 1, acc, i => if 48 ≤ lk i ∧ lk i ≤ 57 then numG lk k (10 * acc + lk i - 48) (i + 1) else (acc, i)
def num (lk : Int → Int) (k : Nat) (i : Int) : Int × Int := if 48 ≤ lk i ∧ lk i ≤ 57 then numG lk k 0 i else (-1, i)
theorem numG_ok {a : Mem} {L : Int} : ∀ (k : Nat) (acc i : Int), 0 ≤ acc → i ≤ L → 0 ≤ (numG (lkA a L) k acc i).1 ∧ (numG (lkA a L) k acc i).1 + 1 ≤ (acc + 1) * 10 ^ k ∧ i ≤ (numG (lkA a L) k acc i).2 ∧ (numG (lkA a L) k acc i).2 ≤ L
  | 0, acc, i, h0, h1 => by
    show 0 ≤ acc ∧ acc + 1 ≤ (acc + 1) * 1 ∧ i ≤ i ∧ i ≤ L
    omega
  | k + 1, acc, i, h0, h1 => by
    rw [numG]
    split
    · rename_i g
      have g1 := (lk_pos (show 0 ≤ lkA a L i by omega)).1
      have ih := numG_ok (a := a) (L := L) k (10 * acc + lkA a L i - 48) (i + 1) (by omega) (by omega)
      refine ⟨ih.1, Int.le_trans ih.2.1 ?_, by omega, ih.2.2.2⟩
      rw [show (acc + 1) * 10 ^ (k + 1) = ((acc + 1) * 10) * 10 ^ k by rw [Int.pow_succ, Int.mul_assoc, Int.mul_comm 10]]
      exact Int.mul_le_mul_of_nonneg_right (by omega) (Int.pow_nonneg (by decide))
    · refine ⟨h0, ?_, Int.le_refl _, h1⟩
      have : (0 : Int) < 10 ^ (k + 1) := Int.pow_pos (by decide)
      have e : (acc + 1) * 1 ≤ (acc + 1) * 10 ^ (k + 1) := Int.mul_le_mul_of_nonneg_left (by omega) (by omega)
      omega
theorem num_ok {a : Mem} {L i : Int} {k : Nat} (hk : k ≤ 4) (h1 : i ≤ L) : ((num (lkA a L) k i).1 = -1 ∨ 0 ≤ (num (lkA a L) k i).1) ∧ (num (lkA a L) k i).1 + 1 ≤ 10 ^ k ∧ (num (lkA a L) k i).1 ≤ 9999 ∧ i ≤ (num (lkA a L) k i).2 ∧ (num (lkA a L) k i).2 ≤ L := by
  have e4 : (10 : Int) ^ k ≤ 10000 := by
    have : k = 0 ∨ k = 1 ∨ k = 2 ∨ k = 3 ∨ k = 4 := by omega
    rcases this with rfl | rfl | rfl | rfl | rfl <;> decide
  have e0 : (0 : Int) < 10 ^ k := Int.pow_pos (by decide)
  unfold num
  split
  · have g := numG_ok (a := a) (L := L) k 0 i (by decide) h1
    rw [show (0 + 1 : Int) * 10 ^ k = 10 ^ k by omega] at g
    omega
  · show ((-1 : Int) = -1 ∨ _) ∧ (-1 : Int) + 1 ≤ 10 ^ k ∧ (-1 : Int) ≤ 9999 ∧ i ≤ i ∧ i ≤ L
    exact ⟨Or.inl rfl, by omega, by omega, by omega, h1⟩
theorem ct_number {E : Nat × (Nat → Int32)} {c a : Mem} {L p K : Int} (T : TxC a L p c) (k1 : 1 ≤ K) (k4 : K ≤ 4) : K_X9_number E [.ref 1, vi K] c (fun z c' => z = (num (lkA a L) K.toNat p).1 ∧ TxC a L (num (lkA a L) K.toNat p).2 c' ∧ PosC c c') := by
  refine en_X9_number (sg_X9_number_0 ?_)
  have key : ∀ (d : Nat) (acc p i : Int) (c2 : Mem), 1 ≤ i → i + d = K → TxC a L p c2 → PosC c c2 → GM E (m_X9_number 1) (Pi fun z c' => z = (numG (lkA a L) d acc p).1 ∧ TxC a L (numG (lkA a L) d acc p).2 c' ∧ PosC c c') 4 [.ref 1, vi K, vi acc, vi i, un] [] c2 := by
    intro d
    induction d with
    | zero =>
      intro acc p i c2 hi hd T P
      exact sg_X9_number_4 ⟨by omega, by omega⟩ ⟨by omega, by omega⟩ (fun _ => T.ok) (fun _ => by rw [T.look]; have := T.rng; omega) (fun _ => ⟨_, rfl, rfl, T, P⟩) (fun g => by omega) (fun g => by omega) (fun g => by omega)
    | succ d ih =>
      intro acc p i c2 hi hd T P
      rw [numG]
      refine sg_X9_number_4 ⟨by omega, by omega⟩ ⟨by omega, by omega⟩ (fun _ => T.ok) (fun _ => by rw [T.look]; have := T.rng; omega) (fun g => by omega) (fun _ g => ?_) (fun _ g g2 => ?_) (fun _ g g2 => ?_)
      · rw [T.look] at g
        rw [if_neg (by omega)]
        exact ⟨_, rfl, rfl, T, P⟩
      · rw [T.look] at g g2 ⊢
        have g1 := (lk_pos (show 0 ≤ lkA a L p by omega)).1
        rw [if_pos (by omega), if_pos (by omega), T.p]
        have := ih (10 * acc + lkA a L p - 48) (p + 1) (i + 1) (up2 c2 1 2 (p + 1)) (by omega) (by omega) (T.pass g1 rfl) (P.trans PosC.up)
        rw [show acc * 10 + (lkA a L p - 48) = 10 * acc + lkA a L p - 48 by omega]
        exact this
      · rw [T.look] at g g2
        rw [if_neg (by omega)]
        exact ⟨_, rfl, rfl, T, P⟩
  refine sg_X9_number_4 ⟨by omega, by omega⟩ ⟨by omega, by omega⟩ (fun _ => T.ok) (fun _ => by rw [T.look]; have := T.rng; omega) (fun g => by omega) (fun _ g => ?_) (fun _ g g2 => ?_) (fun _ g g2 => ?_)
  · rw [T.look] at g
    unfold num
    rw [if_neg (by omega)]
    exact ⟨_, rfl, rfl, T, PosC.rf⟩
  · rw [T.look] at g g2 ⊢
    have g1 := (lk_pos (show 0 ≤ lkA a L p by omega)).1
    have d48 : 48 ≤ lkA a L p ∧ lkA a L p ≤ 57 := ⟨by omega, by omega⟩
    unfold num
    rw [if_pos d48, if_neg (show ¬ ((0 : Int) ≠ 0) from fun o => o rfl), T.p]
    obtain ⟨d, hd⟩ : ∃ d : Nat, K.toNat = d + 1 := ⟨K.toNat - 1, by omega⟩
    rw [hd, numG, if_pos d48]
    have := key d (10 * 0 + lkA a L p - 48) (p + 1) 1 (up2 c 1 2 (p + 1)) (by decide) (by omega) (T.pass g1 rfl) PosC.up
    rw [show lkA a L p - 48 = 10 * 0 + lkA a L p - 48 by omega]
    exact this
  · rw [T.look] at g g2
    unfold num
    rw [if_neg (by omega)]
    exact ⟨_, rfl, rfl, T, PosC.rf⟩
theorem mt_number {E : Nat × (Nat → Int32)} {m a : Mem} {L p K : Int} (T : TxR a L p m) (k1 : 1 ≤ K) (k4 : K ≤ 4) : K_X12_number E [.ref 169, vi K] m (fun z m' => z = (num (lkA a L) K.toNat p).1 ∧ TxR a L (num (lkA a L) K.toNat p).2 m' ∧ PosR m m') := by
  have b := T.2.1
  refine en_X12_number (sg_X12_number_0 (by rw [T.p, T.l]; omega) (T.2.2.1 _) (fun g => ?_) (fun g => ?_))
  · rw [T.dig] at g
    unfold num
    rw [if_pos g]
    have key : ∀ (d : Nat) (acc p i : Int) (m2 : Mem), 0 ≤ i → i + d = K → TxR a L p m2 → PosR m m2 → GM E (m_X12_number 2) (Pi fun z m' => z = (numG (lkA a L) d acc p).1 ∧ TxR a L (numG (lkA a L) d acc p).2 m' ∧ PosR m m') 13 [.ref 169, vi K, vi acc, vi i] [] m2 := by
      intro d
      induction d with
      | zero =>
        intro acc p i m2 hi hd T P
        have b := T.2.1
        exact sg_X12_number_13 ⟨by omega, by omega⟩ ⟨by omega, by omega⟩ (fun _ => by rw [T.p, T.l]; omega) (fun _ => T.2.2.1 _) (fun _ g => by rw [T.p, T.l] at *; omega) (fun _ => ⟨_, rfl, rfl, T, P⟩) (fun g => by omega) (fun g => by omega)
      | succ d ih =>
        intro acc p i m2 hi hd T P
        have b := T.2.1
        rw [numG]
        refine sg_X12_number_13 ⟨by omega, by omega⟩ ⟨by omega, by omega⟩ (fun _ => by rw [T.p, T.l]; omega) (fun _ => T.2.2.1 _) (fun _ g => by rw [T.p, T.l] at *; omega) (fun g => by omega) (fun _ g => ?_) (fun _ g => ?_)
        · have g' := T.dig.1 g
          have g1 := (lk_pos (show 0 ≤ lkA a L p by omega)).1
          rw [if_pos g', T.p, T.at g1]
          exact ih (10 * acc + lkA a L p - 48) (p + 1) (i + 1) (up2 m2 169 18 (p + 1)) (by omega) (by omega) (T.pass g1 rfl) (P.trans PosR.up)
        · rw [T.dig] at g
          rw [if_neg g]
          exact ⟨_, rfl, rfl, T, P⟩
    exact key K.toNat 0 p 0 m (by decide) (by omega) T PosR.rf
  · rw [T.dig] at g
    unfold num
    rw [if_neg g]
    exact ⟨_, rfl, rfl, T, PosR.rf⟩
/-! a sign of a text -/
theorem mt_among {E : Nat × (Nat → Int32)} {m a : Mem} {L p : Int} {i : Nat} (hi : i < 11) (T : TxR a L p m) : K_X12_among E [.ref 169, .ref (1100 + i)] m (fun z m' => sIx i (lkA a L p) z ∧ m' = m) := by
  have b := T.2.1
  have l30 := (sLen_le i hi).2
  refine en_X12_among (sg_X12_among_0 ?_)
  have key : ∀ (d j : Nat), j + d = sLen i → (∀ q : Nat, q < j → sAt i q ≠ lkA a L p) → GM E (m_X12_among 5) (Pi fun z m' => sIx i (lkA a L p) z ∧ m' = m) 2 [.ref 169, .ref (1100 + i), vi (j : Int)] [] m := by
    intro d
    induction d with
    | zero =>
      intro j hd hj
      refine sg_X12_among_2 (ca_X12_among_4 hi (js_length hi) (fun z m2 hz => ?_))
      obtain ⟨ez, em⟩ := hz
      rw [ez, em]
      exact sg_X12_among_7 ⟨by omega, by omega⟩ ⟨by omega, by omega⟩ (fun _ => by rw [T.p]; constructor <;> omega) (fun _ => by rw [T.l]; constructor <;> omega) (fun _ => ⟨_, rfl, Or.inr ⟨rfl, fun q hq => hj q (by omega)⟩, rfl⟩) (fun g => by omega) (fun g => by omega)
    | succ d ih =>
      intro j hd hj
      refine sg_X12_among_2 (ca_X12_among_4 hi (js_length hi) (fun z m2 hz => ?_))
      obtain ⟨ez, em⟩ := hz
      rw [ez, em]
      refine sg_X12_among_7 ⟨by omega, by omega⟩ ⟨by omega, by omega⟩ (fun _ => by rw [T.p]; constructor <;> omega) (fun _ => by rw [T.l]; constructor <;> omega) (fun g => by omega) (fun _ g => ?_) (fun _ g => ?_)
      · rw [T.p, T.l] at g
        refine ⟨_, rfl, Or.inr ⟨rfl, fun q hq e => ?_⟩, rfl⟩
        rw [lk_end g] at e
        have := (sAt_ok i hi q hq).1
        omega
      · rw [T.p, T.l] at g
        have sa := (sAt_ok i hi j (by omega)).1
        refine ca_X12_among_23 hi (js_charAt hi (by omega) (by omega)) (fun z m2 hz => ?_)
        obtain ⟨ez, em⟩ := hz
        rw [ez, em, show ((j : Int)).toNat = j by omega]
        refine sg_X12_among_26 (by rw [T.p]; omega) ⟨by omega, by omega⟩ (T.2.2.1 _) (fun g2 => ?_) (fun g2 => ?_)
        · rw [T.p, T.at (by omega)] at g2
          have := ih (j + 1) (by omega) (fun q hq => by
            by_cases e : q = j
            · rw [e]; exact g2
            · exact hj q (by omega))
          exact this
        · rw [T.p, T.at (by omega)] at g2
          exact ⟨_, rfl, Or.inl ⟨j, rfl, by omega, g2, hj⟩, rfl⟩
  exact key (sLen i) 0 (by omega) (fun q hq => by omega)
theorem mt_takesS {E : Nat × (Nat → Int32)} {m a : Mem} {L p : Int} {i : Nat} (hi : i < 11) (T : TxR a L p m) : K_X12_takesOf E [.ref 169, .ref (1100 + i)] m (fun z m' => sIx i (lkA a L p) z ∧ TxR a L (if z < 0 then p else p + 1) m' ∧ PosR m m') := by
  have l30 := (sLen_le i hi).2
  refine en_X12_takesOf (sg_X12_takesOf_0 (ca_X12_takesOf_2 (mt_among hi T) (fun z m2 hz => ?_)))
  obtain ⟨ez, em⟩ := hz
  rw [em]
  have rz : RI z := by
    rcases ez with ⟨q, e, hq, -⟩ | ⟨e, -⟩
    · constructor <;> omega
    · constructor <;> omega
  refine sg_X12_takesOf_5 rz (fun g => ?_) (fun g => ?_)
  · refine ⟨_, rfl, ez, ?_, PosR.up⟩
    rw [if_pos g]
    exact T.stay (by rw [T.p]; omega)
  · refine ⟨_, rfl, ez, ?_, PosR.up⟩
    rw [if_neg g]
    rcases ez with ⟨q, e, hq, e2, -⟩ | ⟨e, -⟩
    · have := (sAt_ok i hi q hq).1
      exact T.pass (lk_pos (show 0 ≤ lkA a L p by omega)).1 (by rw [T.p])
    · omega
