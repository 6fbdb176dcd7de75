/-! bin, hill: the law's own array stays -/
theorem mt_bin8 {E : Nat × (Nat → Int32)} {m a : Mem} {v : (Int → Int) → Int} {s d b w B : Int} (rs : RI s) (rd : RI d) (rb : RI b) (rw' : RI w) (hm : HighEq a m) (hR : RuleM a v) (hT : WTown a) (hS : WSet a) (hn : StOK B a (a 180)) : K_X12_bin E [.ref 169, vi s, vi d, vi b, vi w] m (fun z m' => (binP a s d b w ∧ z = binR a v s d b w ∧ PEq m' m ∧ LowEq m m' ∧ m' 169 0 = 0 ∧ m' 208 = m 208) ∨ (¬ binP a s d b w ∧ z = 0 ∧ m' = up2 (up2 m 169 0 0) 169 0 1)) := by
  have n0 := hT.1
  have n6 := hT.2.1
  have e9 := hm 169 (by decide)
  have := rs.1; have := rs.2; have := rd.1; have := rd.2; have := rb.1; have := rb.2; have := rw'.1; have := rw'.2
  have k0 : ∀ k, k ≠ 169 → up2 m 169 0 0 k = a k → True := fun _ _ _ => trivial
  have q : ∀ k, 169 ≤ k → k ≠ 169 → up2 m 169 0 0 k = a k := fun k hk h => by rw [up2_k h, hm k hk]
  have q3 : up2 m 169 0 0 169 3 = a 169 3 := by rw [up2_j (by decide), e9]
  have m1 := hS.2.2.1
  have m4 := hS.2.2.2.1
  have hT1 : 0 ≤ s → s < a 169 3 → 1 ≤ a 172 s ∧ a 172 s ≤ 8 ∧ -1 ≤ a 173 s ∧ a 173 s ≤ 1 := fun s0 s1 => by
    have t := hT.2.2.1 s s0 (by omega)
    omega
  have house : K_X12_isHouse E [.ref 169, vi s, vi d, vi b] (up2 m 169 0 0) (fun z m' => m' = up2 m 169 0 0 ∧ ((((0 ≤ s ∧ s < a 169 3) ∧ (0 ≤ d ∧ d ≤ 1) ∧ (0 ≤ b ∧ b < a 172 s)) ∧ z = 1) ∨ (¬ ((0 ≤ s ∧ s < a 169 3) ∧ (0 ≤ d ∧ d ≤ 1) ∧ (0 ≤ b ∧ b < a 172 s)) ∧ z = 0))) := by
    refine en_X12_isHouse (sg_X12_isHouse_0 (by rw [q3]; constructor <;> omega) rs rd ⟨by omega, by omega⟩ rb (fun p _ => by omega) (fun p _ => ?_) ⟨by omega, by omega⟩ (fun p _ => ?_) (fun p p2 p3 => ⟨_, rfl, rfl, Or.inl ⟨?_, rfl⟩⟩) (fun p p2 p3 => ⟨_, rfl, rfl, Or.inr ⟨?_, rfl⟩⟩) (fun p p2 => ⟨_, rfl, rfl, Or.inr ⟨fun o => p2 o.2.1, rfl⟩⟩) (fun p => ⟨_, rfl, rfl, Or.inr ⟨fun o => p (by rw [q3]; exact o.1), rfl⟩⟩))
    all_goals rw [q3] at p
    all_goals have tt := hT1 p.1 p.2
    · rw [q 172 (by decide) (by decide)]; constructor <;> omega
    · rw [q 172 (by decide) (by decide)]; constructor <;> omega
    · rw [q 172 (by decide) (by decide)] at p3; exact ⟨p, p2, by omega, by omega⟩
    · rw [q 172 (by decide) (by decide)] at p3
      intro o
      exact p3 ⟨o.2.2.1, by have := o.2.2.2; omega⟩
  refine en_X12_bin (sg_X12_bin_0 (ca_X12_bin_9 house (fun z m2 hz => ?_)))
  obtain ⟨e2, hz⟩ := hz
  subst e2
  rcases hz with ⟨p, ez⟩ | ⟨p, ez⟩
  · have tt := hT1 p.1.1 p.1.2
    obtain ⟨⟨s0, s1⟩, ⟨d0, d1⟩, b0, b1⟩ := p
    have eb : 16 * s + 8 * d + b = 16 * s + (8 * d + b) := by omega
    have F : ∀ M : Mem, M = up2 (up2 (up2 m 169 0 0) 169 30 (up2 m 169 0 0 179 1)) 169 31 (up2 m 169 0 0 173 s) → (∀ k, k ≠ 169 → M k = m k) ∧ (∀ j : Int, j ≠ 0 → j ≠ 30 → j ≠ 31 → M 169 j = m 169 j) ∧ M 169 0 = 0 ∧ M 169 31 = a 173 s ∧ M 169 30 = a 179 1 := fun M hM => by
      refine ⟨fun k h => by rw [hM, up2_k h, up2_k h, up2_k h], fun j h1 h2 h3 => by rw [hM, up2_j h3, up2_j h2, up2_j h1], ?_, ?_, ?_⟩
      · rw [hM, up2_j (by decide), up2_j (by decide), up2_same]
      · rw [hM, up2_same, q 173 (by decide) (by decide)]
      · rw [hM, up2_j (by decide), up2_same, q 179 (by decide) (by decide)]
    obtain ⟨M1, M2, M0, M31, M30⟩ := F _ rfl
    clear F
    have pM := PEq.of (a := up2 (up2 (up2 m 169 0 0) 169 30 (up2 m 169 0 0 179 1)) 169 31 (up2 m 169 0 0 173 s)) (b := m) (fun k hk h => M1 k h) (fun j hj => M2 j hj.not.1 (by have := hj.not; omega) (by have := hj.not; omega))
    have lM : LowEq m (up2 (up2 (up2 m 169 0 0) 169 30 (up2 m 169 0 0 179 1)) 169 31 (up2 m 169 0 0 173 s)) := fun k hk => M1 k (by omega)
    refine sg_X12_bin_12 (by rw [ez]; decide) rw' ⟨by omega, by omega⟩ (fun _ _ => by omega) (fun _ _ _ _ _ => by omega) (fun _ _ _ _ => by omega) (fun _ _ _ => by omega) (by omega) (fun _ g g1 g2 g3 => ?_) (fun _ g g1 g2 g3 => ⟨_, rfl, Or.inl ⟨⟨⟨s0, s1⟩, ⟨d0, d1⟩, ⟨b0, b1⟩, g⟩, ?_, pM, lM, M0, M1 208 (by decide)⟩⟩) (fun _ g g1 g2 => ⟨_, rfl, Or.inl ⟨⟨⟨s0, s1⟩, ⟨d0, d1⟩, ⟨b0, b1⟩, g⟩, ?_, pM, lM, M0, M1 208 (by decide)⟩⟩) (fun _ g g1 => ⟨_, rfl, Or.inl ⟨⟨⟨s0, s1⟩, ⟨d0, d1⟩, ⟨b0, b1⟩, g⟩, ?_, pM, lM, M0, M1 208 (by decide)⟩⟩) (fun _ g => ⟨_, rfl, Or.inr ⟨fun o => g o.2.2.2, rfl, rfl⟩⟩)
    · have bM : MB a (up2 (up2 (up2 m 169 0 0) 169 30 (up2 m 169 0 0 179 1)) 169 31 (up2 m 169 0 0 173 s)) := hm.mb.trans ⟨M2 3 (by decide) (by decide) (by decide), M2 26 (by decide) (by decide) (by decide), fun k _ _ => M1 k (by omega), M1 185 (by decide)⟩
      refine ca_X12_bin_97 (mt_secondsOf (carried := 0) (bM.rule hR) (bM.town hT) (bM.set hS) s0 (by omega) d0 d1 b0 (by omega) (by rw [M31]; constructor <;> omega) (by rw [M30]; constructor <;> omega) (by decide)) (fun z m3 hz => sg_X12_bin_100 ⟨_, rfl, Or.inl ⟨⟨⟨s0, s1⟩, ⟨d0, d1⟩, ⟨b0, b1⟩, g⟩, ?_, ?_, ?_, ?_, ?_⟩⟩)
      · unfold binR
        rw [if_neg g1, if_neg g2, if_neg g3, hz.1, M31, M30, fct_congr (bM.2.2.1 178 (by omega) (by omega)) (bM.2.2.1 179 (by omega) (by omega))]
      · refine PEq.trans (PEq.of (fun k hk h => hz.2 k (by have := hk.not; omega) (by have := hk.not; omega)) (fun j _ => by rw [hz.2 169 (by decide) (by decide)])) pM
      · intro k hk
        rw [hz.2 k (by omega) (by omega)]; exact lM k hk
      · rw [hz.2 169 (by decide) (by decide)]; exact M0
      · rw [hz.2 208 (by decide) (by decide)]; exact M1 208 (by decide)
    · unfold binR
      rw [if_neg g1, if_neg g2, if_pos g3, eb, q 180 (by decide) (by decide)]
    · unfold binR
      rw [if_neg g1, if_pos g2, eb, q 178 (by decide) (by decide), q 179 (by decide) (by decide)]
      rfl
    · unfold binR
      rw [if_pos g1, eb, q 178 (by decide) (by decide)]
  · refine sg_X12_bin_12 (by rw [ez]; decide) rw' ⟨by omega, by omega⟩ (by omega) (by omega) (by omega) (by omega) (fun _ => ⟨_, rfl, Or.inr ⟨fun o => p ⟨o.1, o.2.1, o.2.2.1⟩, rfl, rfl⟩⟩) (by omega) (by omega) (by omega) (by omega) (by omega)
theorem mt_hill8 {E : Nat × (Nat → Int32)} {m a : Mem} {v : (Int → Int) → Int} {s B : Int} (rs : RI s) (hm : HighEq a m) (hR : RuleM a v) (hT : WTown a) (hS : WSet a) (hn : StOK B a (a 180)) : K_X12_hill E [.ref 169, vi s] m (fun z m' => ((0 ≤ s ∧ s < a 169 3) ∧ z = bestS a v (a 180) s - secN a v (emptyRow (a 180)) s (bestH (fun how => secN a v (emptyRow (a 180)) s how (-1) (a 179 1))) (-1) (a 179 1) ∧ PEq m' m ∧ LowEq m m' ∧ m' 169 0 = 0 ∧ m' 208 = m 208) ∨ (¬ (0 ≤ s ∧ s < a 169 3) ∧ z = 0 ∧ m' = up2 (up2 m 169 0 0) 169 0 1)) := by
  have n0 := hT.1
  have n6 := hT.2.1
  have e3 : m 169 3 = a 169 3 := by rw [hm 169 (by decide)]
  have m1 := hS.2.2.1
  have m4 := hS.2.2.2.1
  refine en_X12_hill (sg_X12_hill_0 (by rw [e3]; constructor <;> omega) rs (fun p => ?_) (fun p => ⟨_, rfl, Or.inr ⟨by omega, rfl, rfl⟩⟩))
  rw [e3] at p
  have t := hT.2.2.1 s p.1 (by omega)
  have M0 : ∀ k, k ≠ 169 → up2 m 169 0 0 k = m k := fun k q => up2_k q
  have b0 : MB a (up2 m 169 0 0) := hm.mb.trans ⟨up2_j (by decide), up2_j (by decide), fun k _ _ => M0 k (by omega), M0 185 (by decide)⟩
  refine ca_X12_hill_20 (mt_bestNow (r0 := a 180) b0 hR hT hS p.1 (by omega) (fun c _ _ => by rw [M0 180 (by decide), hm 180 (by decide)]) hn.r3) (fun z m2 hz => sg_X12_hill_23 ?_)
  obtain ⟨z1, z2, z3, z4, z5⟩ := hz
  have f3 : SF (up2 m 169 0 0) (up2 m2 169 31 (-1)) := z3.up (by omega)
  refine ca_X12_hill_36 (mt_bestOf (r := 180) (r0 := a 180) (hill := -1) (men := a 179 1) (by decide) (by decide) (by decide) (b0.trans f3.mb) hR hT hS p.1 (by omega) (up2_same _ _ _ _) (by rw [up2_j (by decide)]; exact z5) (by decide) ⟨by omega, by omega⟩ (fun c _ _ => by rw [f3.1 180 (by decide) (by decide) (by decide) (by decide), M0 180 (by decide), hm 180 (by decide)]) hn.r3) (fun y m3 hy => ?_)
  obtain ⟨y1, y2, y3, -, -⟩ := hy
  have fA := f3.trans y3
  exact sg_X12_hill_39 ⟨_, rfl, Or.inl ⟨p, by rw [y1, z1], fA.peq.trans (PEq.field npf0), fun k hk => by rw [fA.low k hk, M0 k (by omega)], (fA.2 0 (by omega) (by decide)).trans (up2_same _ _ _ _), (fA.1 208 (by decide) (by decide) (by decide) (by decide)).trans (M0 208 (by decide))⟩⟩
theorem Rel.low {v : (Int → Int) → Int} {B : Int} {M m2 : Mem} (h : Rel v B M) (p : PEq m2 M) (l : LowEq M m2) : Rel v B m2 := Rel.fin h.1 h.2.1 h.2.2.1 h.2.2.2 p l
theorem Rel.out {v : (Int → Int) → Int} {B z : Int} {m : Mem} (h : Rel v B m) : Rel v B (up2 m 208 0 z) := h.low (PEq.of (fun k hk _ => up2_k (by have := hk.not; omega)) (fun j _ => by rw [up2_k (by decide)])) (fun k hk => up2_k (by omega))
theorem Rel.th {v : (Int → Int) → Int} {B : Int} {m : Mem} (h : Rel v B m) : Rel v B (up2 m 169 0 0) := h.low (PEq.field npf0) low0
theorem Rel.th1 {v : (Int → Int) → Int} {B : Int} {m : Mem} (h : Rel v B m) : Rel v B (up2 (up2 m 169 0 0) 169 0 1) := h.th.low (PEq.field npf0) low0
theorem Rel.cq {v : (Int → Int) → Int} {B : Int} {m m1 : Mem} (h : Rel v B m) (cq : CQ m m1 (m 169 1) (m 170)) : Rel v B m1 := h.queryS cq (PEq.of (fun _ _ _ => rfl) (fun _ _ => rfl)) (fun _ _ => rfl)
theorem cmp_self (x : Int) : lg_cmp (iL x) (iL x) = iI 0 := by
  rw [iI_0]
  unfold lg_cmp
  simp
theorem ic_X12_thrown {E : Nat × (Nat → Int32)} {m : Mem} {Q : Int → Mem → Prop} (k : Q (m 169 0) m) : K_X12_thrown E [.ref 169] m Q := en_X12_thrown (sg_X12_thrown_0 ⟨_, rfl, k⟩)
theorem binR_out (m : Mem) (v : (Int → Int) → Int) (z s d b w : Int) : binR (up2 m 208 0 z) v s d b w = binR m v s d b w := rfl
